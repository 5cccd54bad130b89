section
/-! by hand: blocks, the line of a car (written by gen_t16.py) -/
/-- blocks joined -/
noncomputable def mg (b : Nat → Nat) (x y : Nat) : Nat → Nat := fun k => if 1 ≤ k ∧ b k = max (b x) (b y) then min (b x) (b y) else b k
noncomputable def bk (e : Nat → Nat) : Nat → Nat → Nat
  | 0 => fun k => k
  | j + 1 => mg (bk e j) (e (64 + 2 * j)) (e (64 + 2 * j + 1))
noncomputable def WFb (b : Nat → Nat) : Prop := ∀ k, 1 ≤ k → k ≤ 9 → 1 ≤ b k ∧ b k ≤ k ∧ b (b k) = b k
noncomputable def Rt (b : Nat → Nat) (k : Nat) : Nat := if 1 ≤ k ∧ b k = k then 1 else 0
noncomputable def rc (b : Nat → Nat) : Nat := lc (Rt b) 10
theorem bk_eq {e e' : Nat → Nat} : ∀ {j : Nat}, (∀ i, i < 64 + 2 * j → e' i = e i) → bk e' j = bk e j
  | 0, _ => rfl
  | j + 1, h => by
    unfold bk
    rw [bk_eq (j := j) (fun i hi => h i (by first | decide | with_reducible assumption | omega)), h _ (by first | decide | with_reducible assumption | omega), h _ (by first | decide | with_reducible assumption | omega)]
theorem WFb_mg {b : Nat → Nat} {x y : Nat} (W : WFb b) (x1 : 1 ≤ x) (x9 : x ≤ 9) (y1 : 1 ≤ y) (y9 : y ≤ 9) : WFb (mg b x y) := by
  intro k k1 k9
  have wk := W k k1 k9
  have wx := W x x1 x9
  have wy := W y y1 y9
  have wbk := W (b k) wk.1 (by first | decide | with_reducible assumption | omega)
  by_cases hk : b k = max (b x) (b y)
  · have e1 : mg b x y k = min (b x) (b y) := if_pos ⟨k1, hk⟩
    rw [e1]
    refine ⟨by omega, by omega, ?_⟩
    by_cases hxy : b x = b y
    · have : min (b x) (b y) = b x := by omega
      rw [this]
      show (if 1 ≤ b x ∧ b (b x) = max (b x) (b y) then min (b x) (b y) else b (b x)) = b x
      rw [if_pos ⟨wx.1, by omega⟩]; omega
    · by_cases hle : b x ≤ b y
      · have : min (b x) (b y) = b x := by omega
        rw [this]
        show (if 1 ≤ b x ∧ b (b x) = max (b x) (b y) then min (b x) (b y) else b (b x)) = b x
        rw [if_neg (by first | decide | with_reducible assumption | omega)]; exact wx.2.2
      · have : min (b x) (b y) = b y := by omega
        rw [this]
        show (if 1 ≤ b y ∧ b (b y) = max (b x) (b y) then min (b x) (b y) else b (b y)) = b y
        rw [if_neg (by first | decide | with_reducible assumption | omega)]; exact wy.2.2
  · have e1 : mg b x y k = b k := if_neg (fun q => hk q.2)
    rw [e1]
    refine ⟨wk.1, wk.2.1, ?_⟩
    show (if 1 ≤ b k ∧ b (b k) = max (b x) (b y) then min (b x) (b y) else b (b k)) = b k
    rw [if_neg (by first | decide | with_reducible assumption | omega)]; exact wk.2.2
theorem rc_mg {b : Nat → Nat} {x y : Nat} (W : WFb b) (x1 : 1 ≤ x) (x9 : x ≤ 9) (y1 : 1 ≤ y) (y9 : y ≤ 9) (hne : b x ≠ b y) : rc (mg b x y) + 1 = rc b := by
  have wx := W x x1 x9
  have wy := W y y1 y9
  obtain ⟨M, hM⟩ : ∃ M, M = max (b x) (b y) := ⟨_, rfl⟩
  obtain ⟨m, hm⟩ : ∃ m, m = min (b x) (b y) := ⟨_, rfl⟩
  have hMM : b M = M := by
    by_cases hle : b x ≤ b y
    · have : M = b y := by omega
      rw [this]; exact wy.2.2
    · have : M = b x := by omega
      rw [this]; exact wx.2.2
  have hmm : b m = m := by
    by_cases hle : b x ≤ b y
    · have : m = b x := by omega
      rw [this]; exact wx.2.2
    · have : m = b y := by omega
      rw [this]; exact wy.2.2
  have hR : Rt b M ≠ 0 := by unfold Rt; rw [if_pos ⟨by omega, hMM⟩]; decide
  unfold rc
  rw [← lc_fu0 hR (n := 10) (by first | decide | with_reducible assumption | omega)]
  congr 1
  refine lc_eq (fun k hk => ?_)
  by_cases e : k = M
  · rw [e, fu_same]
    unfold Rt
    rw [if_neg]
    · intro q
      have : mg b x y M = m := by rw [hm]; exact if_pos ⟨q.1, by omega⟩
      omega
  · rw [fu_ne e]
    unfold Rt
    by_cases k1 : 1 ≤ k
    · by_cases hk2 : b k = M
      · have e2 : mg b x y k = m := by rw [hm]; exact if_pos ⟨k1, by omega⟩
        rw [if_neg (show ¬ (1 ≤ k ∧ b k = k) from fun q => e (by first | decide | with_reducible assumption | omega)), if_neg]
        intro q
        have h9 := q.2
        rw [e2] at h9
        rw [← h9, hmm] at hk2
        omega
      · have e2 : mg b x y k = b k := if_neg (fun q => hk2 (by first | decide | with_reducible assumption | omega))
        rw [e2]
    · rw [if_neg (fun q => k1 q.1), if_neg (fun q => k1 q.1)]
theorem rc_pos {b : Nat → Nat} (W : WFb b) : 1 ≤ rc b := by
  by_cases h : rc b = 0
  · exfalso
    have := lc_zero h 1 (by first | decide | with_reducible assumption | omega)
    have w1 := W 1 (by first | decide | with_reducible assumption | omega) (by first | decide | with_reducible assumption | omega)
    unfold Rt at this
    rw [if_pos ⟨by omega, by omega⟩] at this
    cases this
  · omega
theorem WFb_bk {e : Nat → Nat} : ∀ {j : Nat}, (∀ i, i < j → (1 ≤ e (64 + 2 * i) ∧ e (64 + 2 * i) ≤ 9) ∧ (1 ≤ e (64 + 2 * i + 1) ∧ e (64 + 2 * i + 1) ≤ 9)) → WFb (bk e j)
  | 0, _ => fun k k1 _ => ⟨k1, Nat.le_refl _, rfl⟩
  | j + 1, h => by
    have ih := WFb_bk (e := e) (j := j) (fun i hi => h i (by first | decide | with_reducible assumption | omega))
    have hj := h j (by first | decide | with_reducible assumption | omega)
    exact WFb_mg ih hj.1.1 hj.1.2 hj.2.1 hj.2.2
noncomputable def JN (h : pm_H) : Prop := gn h 84 28 ≤ 8 ∧ (∀ i, i < gn h 84 28 → 1 ≤ gn h 86 (64 + 2 * i) ∧ 1 ≤ gn h 86 (64 + 2 * i + 1)) ∧ rc (bk (gn h 86) (gn h 84 28)) + gn h 84 28 = 9
theorem JN_wf {h : pm_H} (hh : HH h) (J : JN h) : WFb (bk (gn h 86) (gn h 84 28)) := WFb_bk (fun i hi => by
  have := J.1
  have q := J.2.1 i hi
  exact ⟨⟨q.1, gn_hi hh (bd_u rfl (by first | decide | with_reducible assumption | omega)) (by decide)⟩, q.2, gn_hi hh (bd_u rfl (by first | decide | with_reducible assumption | omega)) (by decide)⟩)
noncomputable def KM : List Rng := [(101, 0, 9)]
theorem sp_lessOf {h : pm_H} {d a b : Nat} (ha : a < 1000) (hb : b < 1000) : Sp (d + 1) 301 h [.int (nJ a), .int (nJ b)] (fun h' r => h' = h ∧ r = some (.int (nJ (min a b)))) := by
  refine Sp_of aiX9_lessOf rfl rfl rfl ?_
  refine E_il rfl (show pm_get (lv_args 0 [.int (nJ a), .int (nJ b)]) 0 = _ from rfl) ?_
  refine E_il rfl (show pm_get (lv_args 0 [.int (nJ a), .int (nJ b)]) 1 = _ from rfl) ?_
  by_cases hb1 : b ≤ a
  · refine E_icT rfl (decide_eq_true ((nJ_le (by first | decide | with_reducible assumption | omega) (by first | decide | with_reducible assumption | omega)).mpr hb1)) ?_
    refine E_il rfl (show pm_get (lv_args 0 [.int (nJ a), .int (nJ b)]) 1 = _ from rfl) ?_
    exact E_rti rfl ⟨rfl, by rw [show min a b = b by omega]⟩
  · refine E_icF rfl (decide_eq_false (fun q => hb1 ((nJ_le (by first | decide | with_reducible assumption | omega) (by first | decide | with_reducible assumption | omega)).mp q))) ?_
    refine E_il rfl (show pm_get (lv_args 0 [.int (nJ a), .int (nJ b)]) 0 = _ from rfl) ?_
    refine E_goto rfl ?_
    exact E_rti rfl ⟨rfl, by rw [show min a b = a by omega]⟩
theorem sp_moreOf {h : pm_H} {d a b : Nat} (ha : a < 1000) (hb : b < 1000) : Sp (d + 1) 313 h [.int (nJ a), .int (nJ b)] (fun h' r => h' = h ∧ r = some (.int (nJ (max a b)))) := by
  refine Sp_of aiX9_moreOf rfl rfl rfl ?_
  refine E_il rfl (show pm_get (lv_args 0 [.int (nJ a), .int (nJ b)]) 0 = _ from rfl) ?_
  refine E_il rfl (show pm_get (lv_args 0 [.int (nJ a), .int (nJ b)]) 1 = _ from rfl) ?_
  by_cases hb1 : a ≤ b
  · refine E_icT rfl (decide_eq_true ((nJ_le (by first | decide | with_reducible assumption | omega) (by first | decide | with_reducible assumption | omega)).mpr hb1)) ?_
    refine E_il rfl (show pm_get (lv_args 0 [.int (nJ a), .int (nJ b)]) 1 = _ from rfl) ?_
    exact E_rti rfl ⟨rfl, by rw [show max a b = b by omega]⟩
  · refine E_icF rfl (decide_eq_false (fun q => hb1 ((nJ_le (by first | decide | with_reducible assumption | omega) (by first | decide | with_reducible assumption | omega)).mp q))) ?_
    refine E_il rfl (show pm_get (lv_args 0 [.int (nJ a), .int (nJ b)]) 0 = _ from rfl) ?_
    refine E_goto rfl ?_
    exact E_rti rfl ⟨rfl, by rw [show max a b = a by omega]⟩
theorem sp_hasRead {h : pm_H} {d k : Nat} {q : Int × Int} (hh : HH h) (hk : k < 6) (hb : bd 84 (24 + k) = some q) (h0 : 0 ≤ q.1) : Sp (d + 1) 257 h [.ref 77, .int (nJ k)] (fun h' r => h' = h ∧ r = some (.int (nJ (gn h 84 (24 + k))))) := by
  refine Sp_of aiX9_hasRead rfl rfl rfl ?_
  refine E_al rfl (show pm_get (lv_args 0 [.ref 77, .int (nJ k)]) 0 = _ from rfl) ?_
  refine E_gr rfl hh (q := 84) rfl ?_
  refine E_ci 24 rfl ci24 ?_
  refine E_il rfl (show pm_get (lv_args 0 [.ref 77, .int (nJ k)]) 1 = _ from rfl) ?_
  refine E_bin rfl (nJ_add _ _) ?_
  refine E_ial rfl hh rfl (by first | decide | with_reducible assumption | omega) (by decide) (show gi h 84 ((24 + k)) = nJ ((gn h 84 (24 + k))) from gi_gn hh hb h0) ?_
  exact E_rti rfl ⟨rfl, rfl⟩
theorem sp_tells {h : pm_H} {d k n : Nat} (hh : HH h) (hk : k < 6) : Sp (d + 1) 359 h [.ref 77, .int (nJ k), .int (nJ n)] (fun h' r => r = none ∧ h' = pt h 84 (24 + k) (nJ n)) := by
  refine Sp_of aiX9_tells rfl rfl rfl ?_
  refine E_al rfl (show pm_get (lv_args 0 [.ref 77, .int (nJ k), .int (nJ n)]) 0 = _ from rfl) ?_
  refine E_gr rfl hh (q := 84) rfl ?_
  refine E_ci 24 rfl ci24 ?_
  refine E_il rfl (show pm_get (lv_args 0 [.ref 77, .int (nJ k), .int (nJ n)]) 1 = _ from rfl) ?_
  refine E_bin rfl (nJ_add _ _) ?_
  refine E_il rfl (show pm_get (lv_args 0 [.ref 77, .int (nJ k), .int (nJ n)]) 2 = _ from rfl) ?_
  refine E_ias rfl hh rfl (by first | decide | with_reducible assumption | omega) (by decide) ?_
  exact E_ret rfl ⟨rfl, rfl⟩
theorem j0_loop {h0 : pm_H} {d a b x y : Nat} (hx : x = min (gn h0 101 a) (gn h0 101 b)) (hy : y = max (gn h0 101 a) (gn h0 101 b)) (hx9 : x ≤ 9) (hy9 : y ≤ 9) (j : Nat) : ∀ {h : pm_H} {k : Nat} (lv : List (Nat × Value)), k + j = 10 → 1 ≤ k → HH h → fr_g KM h0 h → (∀ i, i < k → gn h 101 i = mg (gn h0 101) a b i) → (∀ i, k ≤ i → i < 10 → gn h 101 i = gn h0 101 i) → pm_get lv 0 = some (.ref 77) → pm_get lv 3 = some (.int (nJ x)) → pm_get lv 4 = some (.int (nJ y)) → pm_get lv 5 = some (.int (nJ k)) → Ends (pm_at tX9_joins0) (pm_Rt pm_P (d + 1)) (36, lv, [], h, 0, 0) (fun h' r => r = none ∧ HH h' ∧ fr_g KM h0 h' ∧ ∀ k, k < 10 → gn h' 101 k = mg (gn h0 101) a b k) := by
  induction j with
  | zero =>
    intro h k lv hj hk hh hfr hd hn L0 L3 L4 L5
    refine E_il rfl L5 ?_
    refine E_ci 10 rfl ci10 ?_
    refine E_icT rfl (decide_eq_true ((nJ_le (by first | decide | with_reducible assumption | omega) (by first | decide | with_reducible assumption | omega)).mpr (by first | decide | with_reducible assumption | omega))) ?_
    exact E_ret rfl ⟨rfl, hh, hfr, fun i hi => hd i (by first | decide | with_reducible assumption | omega)⟩
  | succ j ih =>
    intro h k lv hj hk hh hfr hd hn L0 L3 L4 L5
    refine E_il rfl L5 ?_
    refine E_ci 10 rfl ci10 ?_
    refine E_icF rfl (decide_eq_false (fun q => absurd ((nJ_le (by first | decide | with_reducible assumption | omega) (by first | decide | with_reducible assumption | omega)).mp q) (by first | decide | with_reducible assumption | omega))) ?_
    refine E_al rfl L0 ?_
    refine E_gr rfl hh (q := 101) rfl ?_
    refine E_il rfl L5 ?_
    have b1 : gn h 101 k ≤ 9 := gn_hi hh (bd_u rfl (by first | decide | with_reducible assumption | omega)) (by decide)
    refine E_ial rfl hh rfl (by first | decide | with_reducible assumption | omega) (by decide) (gi_gn hh (bd_u rfl (by first | decide | with_reducible assumption | omega)) (by decide)) ?_
    refine E_il rfl L4 ?_
    by_cases hb2 : ¬ (gn h 101 k) = y
    · refine E_icT rfl (decide_eq_true (fun q => hb2 ((nJ_eq (by first | decide | with_reducible assumption | omega) (by first | decide | with_reducible assumption | omega)).mp q))) ?_
      refine E_inc rfl L5 (nJ_inc _) (fun lv3 L3_5 kp3 => ?_)
      have L3_0 := kp3 0 _ (nbz rfl) rfl L0
      have L3_3 := kp3 3 _ (nbz rfl) rfl L3
      have L3_4 := kp3 4 _ (nbz rfl) rfl L4
      refine E_goto rfl ?_
      refine ih lv3 (by first | decide | with_reducible assumption | omega) (by first | decide | with_reducible assumption | omega) hh hfr (fun i hi => ?_) (fun i h1 h2 => hn i (by first | decide | with_reducible assumption | omega) h2) L3_0 L3_3 L3_4 L3_5
      by_cases e : i = k
      · rw [e, hn k (Nat.le_refl _) (by first | decide | with_reducible assumption | omega)]; exact (if_neg (fun q => hb2 (by rw [hn k (Nat.le_refl _) (by first | decide | with_reducible assumption | omega)]; omega))).symm
      · exact hd i (by first | decide | with_reducible assumption | omega)
    · refine E_icF rfl (decide_eq_false (fun q => hb2 (fun z => q ((nJ_eq (by first | decide | with_reducible assumption | omega) (by first | decide | with_reducible assumption | omega)).mpr z)))) ?_
      refine E_al rfl L0 ?_
      refine E_gr rfl hh (q := 101) rfl ?_
      refine E_il rfl L5 ?_
      refine E_il rfl L3 ?_
      refine E_ias rfl hh rfl (by first | decide | with_reducible assumption | omega) (by decide) ?_
      have hh4 : HH (pt h 101 k (nJ x)) := HH_ptn hh (bd_u rfl (by first | decide | with_reducible assumption | omega)) (by first | decide | with_reducible assumption | omega) (by first | decide | with_reducible assumption | omega) (by first | decide | with_reducible assumption | omega)
      refine E_inc rfl L5 (nJ_inc _) (fun lv5 L5_5 kp5 => ?_)
      have L5_0 := kp5 0 _ (nbz rfl) rfl L0
      have L5_3 := kp5 3 _ (nbz rfl) rfl L3
      have L5_4 := kp5 4 _ (nbz rfl) rfl L4
      refine E_goto rfl ?_
      refine ih lv5 (by first | decide | with_reducible assumption | omega) (by first | decide | with_reducible assumption | omega) hh4 (fr_ptr (l := 0) (u := 9) rfl (by first | decide | with_reducible assumption | omega) (by first | decide | with_reducible assumption | omega) hfr) (fun i hi => ?_) (fun i h1 h2 => by rw [gn_ne (by first | exact gxx rfl | omega)]; exact hn i (by first | decide | with_reducible assumption | omega) h2) L5_0 L5_3 L5_4 L5_5
      by_cases e : i = k
      · rw [e, gn_ptn hh (bd_u rfl (by first | decide | with_reducible assumption | omega)) (by first | decide | with_reducible assumption | omega) (by first | decide | with_reducible assumption | omega) (by first | decide | with_reducible assumption | omega)]; have hq := Classical.not_not.mp hb2; rw [hn k (Nat.le_refl _) (by first | decide | with_reducible assumption | omega)] at hq; exact ((if_pos ⟨hk, by omega⟩ : mg (gn h0 101) a b k = _).trans hx.symm).symm
      · rw [gn_ne (fun _ => e)]; exact hd i (by first | decide | with_reducible assumption | omega)
theorem sp_joins0 {h0 : pm_H} {d a b : Nat} (hh : HH h0) (ha : a ≤ 9) (hb : b ≤ 9) : Sp (d + 2) 283 h0 [.ref 77, .int (nJ a), .int (nJ b)] (fun h' r => r = none ∧ HH h' ∧ fr_g KM h0 h' ∧ ∀ k, k < 10 → gn h' 101 k = mg (gn h0 101) a b k) := by
  refine Sp_of aiX9_joins0 rfl rfl rfl ?_
  refine E_al rfl (show pm_get (lv_args 0 [.ref 77, .int (nJ a), .int (nJ b)]) 0 = _ from rfl) ?_
  refine E_gr rfl hh (q := 101) rfl ?_
  refine E_il rfl (show pm_get (lv_args 0 [.ref 77, .int (nJ a), .int (nJ b)]) 1 = _ from rfl) ?_
  have b1 : gn h0 101 a ≤ 9 := gn_hi hh (bd_u rfl (by first | decide | with_reducible assumption | omega)) (by decide)
  refine E_ial rfl hh rfl (by first | decide | with_reducible assumption | omega) (by decide) (gi_gn hh (bd_u rfl (by first | decide | with_reducible assumption | omega)) (by decide)) ?_
  refine E_al rfl (show pm_get (lv_args 0 [.ref 77, .int (nJ a), .int (nJ b)]) 0 = _ from rfl) ?_
  refine E_gr rfl hh (q := 101) rfl ?_
  refine E_il rfl (show pm_get (lv_args 0 [.ref 77, .int (nJ a), .int (nJ b)]) 2 = _ from rfl) ?_
  have b2 : gn h0 101 b ≤ 9 := gn_hi hh (bd_u rfl (by first | decide | with_reducible assumption | omega)) (by decide)
  refine E_ial rfl hh rfl (by first | decide | with_reducible assumption | omega) (by decide) (gi_gn hh (bd_u rfl (by first | decide | with_reducible assumption | omega)) (by decide)) ?_
  refine E_call rfl (Sp_le (by first | exact Nat.add_le_add_left (Nat.le_of_ble_eq_true rfl) _ | exact Nat.le_of_ble_eq_true rfl | omega) (sp_lessOf (d := 0) (by first | decide | with_reducible assumption | omega) (by first | decide | with_reducible assumption | omega))) (chkS rfl (by show 0 ≤ 8; decide)) (fun h3 r3 => ?_)
  rintro ⟨e3, f3⟩
  rw [e3, f3]
  show Ends _ _ (15, (lv_args 0 [.ref 77, .int (nJ a), .int (nJ b)]), [.int (nJ (min ((gn h0 101 a)) ((gn h0 101 b))))], h0, 0, 0) _
  refine E_is rfl (fun lv4 L4_3 kp4 => ?_)
  have L4_0 := kp4 0 _ (nbz rfl) rfl (show pm_get (lv_args 0 [.ref 77, .int (nJ a), .int (nJ b)]) 0 = _ from rfl)
  have L4_1 := kp4 1 _ (nbz rfl) rfl (show pm_get (lv_args 0 [.ref 77, .int (nJ a), .int (nJ b)]) 1 = _ from rfl)
  have L4_2 := kp4 2 _ (nbz rfl) rfl (show pm_get (lv_args 0 [.ref 77, .int (nJ a), .int (nJ b)]) 2 = _ from rfl)
  refine E_al rfl L4_0 ?_
  refine E_gr rfl hh (q := 101) rfl ?_
  refine E_il rfl L4_1 ?_
  have b5 : gn h0 101 a ≤ 9 := gn_hi hh (bd_u rfl (by first | decide | with_reducible assumption | omega)) (by decide)
  refine E_ial rfl hh rfl (by first | decide | with_reducible assumption | omega) (by decide) (gi_gn hh (bd_u rfl (by first | decide | with_reducible assumption | omega)) (by decide)) ?_
  refine E_al rfl L4_0 ?_
  refine E_gr rfl hh (q := 101) rfl ?_
  refine E_il rfl L4_2 ?_
  have b6 : gn h0 101 b ≤ 9 := gn_hi hh (bd_u rfl (by first | decide | with_reducible assumption | omega)) (by decide)
  refine E_ial rfl hh rfl (by first | decide | with_reducible assumption | omega) (by decide) (gi_gn hh (bd_u rfl (by first | decide | with_reducible assumption | omega)) (by decide)) ?_
  refine E_call rfl (Sp_le (by first | exact Nat.add_le_add_left (Nat.le_of_ble_eq_true rfl) _ | exact Nat.le_of_ble_eq_true rfl | omega) (sp_moreOf (d := 0) (by first | decide | with_reducible assumption | omega) (by first | decide | with_reducible assumption | omega))) (chkS rfl (by show 0 ≤ 8; decide)) (fun h7 r7 => ?_)
  rintro ⟨e7, f7⟩
  rw [e7, f7]
  show Ends _ _ (31, lv4, [.int (nJ (max ((gn h0 101 a)) ((gn h0 101 b))))], h0, 0, 0) _
  refine E_is rfl (fun lv8 L8_4 kp8 => ?_)
  have L8_0 := kp8 0 _ (nbz rfl) rfl L4_0
  have L8_1 := kp8 1 _ (nbz rfl) rfl L4_1
  have L8_2 := kp8 2 _ (nbz rfl) rfl L4_2
  have L8_3 := kp8 3 _ (nbz rfl) rfl L4_3
  refine E_ci 1 rfl ci1 ?_
  refine E_is rfl (fun lv9 L9_5 kp9 => ?_)
  have L9_0 := kp9 0 _ (nbz rfl) rfl L8_0
  have L9_1 := kp9 1 _ (nbz rfl) rfl L8_1
  have L9_2 := kp9 2 _ (nbz rfl) rfl L8_2
  have L9_3 := kp9 3 _ (nbz rfl) rfl L8_3
  have L9_4 := kp9 4 _ (nbz rfl) rfl L8_4
  exact j0_loop rfl rfl (by first | decide | with_reducible assumption | omega) (by first | decide | with_reducible assumption | omega) 9 (k := 1) lv9 (by first | decide | with_reducible assumption | omega) (by first | decide | with_reducible assumption | omega) hh (fr_rf _ _) (fun i hi => by rw [show i = 0 by omega]; exact (if_neg (by first | decide | with_reducible assumption | omega)).symm) (fun _ _ _ => rfl) L9_0 L9_3 L9_4 L9_5
theorem lb_two {h0 : pm_H} {d n : Nat} (hh0 : HH h0) (hn : n ≤ 8) (j : Nat) : ∀ {h : pm_H} {i : Nat} (lv : List (Nat × Value)), i + j = n → HH h → fr_g KM h0 h → (∀ k, k < 10 → gn h 101 k = bk (gn h0 86) i k) → pm_get lv 0 = some (.ref 77) → pm_get lv 1 = some (.int (nJ 4)) → pm_get lv 2 = some (.int (nJ n)) → pm_get lv 3 = some (.int (nJ i)) → Ends (pm_at tX9_laysBlocks) (pm_Rt pm_P (d + 3)) (23, lv, [], h, 0, 0) (fun h' r => r = none ∧ HH h' ∧ fr_g KM h0 h' ∧ ∀ k, k < 10 → gn h' 101 k = bk (gn h0 86) n k) := by
  induction j with
  | zero =>
    intro h i lv hj hh hfr hc L0 L1 L2 L3
    refine E_il rfl L3 ?_
    refine E_il rfl L2 ?_
    refine E_icT rfl (decide_eq_true ((nJ_le (by first | decide | with_reducible assumption | omega) (by first | decide | with_reducible assumption | omega)).mpr (by first | decide | with_reducible assumption | omega))) ?_
    exact E_ret rfl ⟨rfl, hh, hfr, fun k hk => by rw [hc k hk, show i = n by omega]⟩
  | succ j ih =>
    intro h i lv hj hh hfr hc L0 L1 L2 L3
    refine E_il rfl L3 ?_
    refine E_il rfl L2 ?_
    refine E_icF rfl (decide_eq_false (fun q => absurd ((nJ_le (by first | decide | with_reducible assumption | omega) (by first | decide | with_reducible assumption | omega)).mp q) (by first | decide | with_reducible assumption | omega))) ?_
    have ha9 : gn h0 86 (64 + 2 * i) ≤ 9 := gn_hi hh0 (bd_u rfl (by first | decide | with_reducible assumption | omega)) (by decide)
    have hb9 : gn h0 86 (64 + 2 * i + 1) ≤ 9 := gn_hi hh0 (bd_u rfl (by first | decide | with_reducible assumption | omega)) (by decide)
    refine E_al rfl L0 ?_
    refine E_al rfl L0 ?_
    refine E_gr rfl hh (q := 86) rfl ?_
    refine E_ci 2 rfl ci2 ?_
    refine E_ci 8 rfl ci8 ?_
    refine E_il rfl L1 ?_
    refine E_bin rfl (nJ_mul _ _) ?_
    refine E_il rfl L3 ?_
    refine E_bin rfl (nJ_add _ _) ?_
    refine E_bin rfl (nJ_mul _ _) ?_
    refine E_ial rfl hh rfl (by first | decide | with_reducible assumption | omega) (by decide) (show gi h 86 ((2 * ((8 * 4) + i))) = nJ ((gn h0 86 (64 + 2 * i))) from by rw [show (2 * ((8 * 4) + i)) = 64 + 2 * i by omega, fr_gi hfr (rg_no rfl _)]; exact gi_gn hh0 (bd_u rfl (by first | decide | with_reducible assumption | omega)) (by decide)) ?_
    refine E_al rfl L0 ?_
    refine E_gr rfl hh (q := 86) rfl ?_
    refine E_ci 2 rfl ci2 ?_
    refine E_ci 8 rfl ci8 ?_
    refine E_il rfl L1 ?_
    refine E_bin rfl (nJ_mul _ _) ?_
    refine E_il rfl L3 ?_
    refine E_bin rfl (nJ_add _ _) ?_
    refine E_bin rfl (nJ_mul _ _) ?_
    refine E_ci 1 rfl ci1 ?_
    refine E_bin rfl (nJ_add _ _) ?_
    refine E_ial rfl hh rfl (by first | decide | with_reducible assumption | omega) (by decide) (show gi h 86 (((2 * ((8 * 4) + i)) + 1)) = nJ ((gn h0 86 (64 + 2 * i + 1))) from by rw [show ((2 * ((8 * 4) + i)) + 1) = 64 + 2 * i + 1 by omega, fr_gi hfr (rg_no rfl _)]; exact gi_gn hh0 (bd_u rfl (by first | decide | with_reducible assumption | omega)) (by decide)) ?_
    refine E_call rfl (Sp_le (by first | exact Nat.add_le_add_left (Nat.le_of_ble_eq_true rfl) _ | exact Nat.le_of_ble_eq_true rfl | omega) (sp_joins0 (d := 0) hh (by first | decide | with_reducible assumption | omega) (by first | decide | with_reducible assumption | omega))) (chk77 hh rfl rfl (by show 0 ≤ 8; decide)) (fun h1 r1 => ?_)
    rintro ⟨e1, hh1, fq1, cq1⟩
    rw [e1]
    show Ends _ _ (60, lv, [], h1, 0, 0) _
    refine E_inc rfl L3 (nJ_inc _) (fun lv2 L2_3 kp2 => ?_)
    have L2_0 := kp2 0 _ (nbz rfl) rfl L0
    have L2_1 := kp2 1 _ (nbz rfl) rfl L1
    have L2_2 := kp2 2 _ (nbz rfl) rfl L2
    refine E_goto rfl ?_
    refine ih lv2 (by first | decide | with_reducible assumption | omega) hh1 (fr_trans hfr fq1) (fun k hk => ?_) L2_0 L2_1 L2_2 L2_3
    rw [cq1 k hk]
    show (if 1 ≤ k ∧ gn h 101 k = max (gn h 101 (gn h0 86 (64 + 2 * i))) (gn h 101 (gn h0 86 (64 + 2 * i + 1))) then min (gn h 101 (gn h0 86 (64 + 2 * i))) (gn h 101 (gn h0 86 (64 + 2 * i + 1))) else gn h 101 k) = mg (bk (gn h0 86) i) (gn h0 86 (64 + 2 * i)) (gn h0 86 (64 + 2 * i + 1)) k
    rw [hc k hk, hc _ (by first | decide | with_reducible assumption | omega), hc _ (by first | decide | with_reducible assumption | omega)]
    rfl
theorem lb_one {h0 : pm_H} {d n : Nat} (hh0 : HH h0) (hn : n ≤ 8) (j : Nat) : ∀ {h : pm_H} {i : Nat} (lv : List (Nat × Value)), i + j = 10 → HH h → fr_g KM h0 h → (∀ k, k < i → gn h 101 k = k) → pm_get lv 0 = some (.ref 77) → pm_get lv 1 = some (.int (nJ 4)) → pm_get lv 2 = some (.int (nJ n)) → pm_get lv 3 = some (.int (nJ i)) → Ends (pm_at tX9_laysBlocks) (pm_Rt pm_P (d + 3)) (2, lv, [], h, 0, 0) (fun h' r => r = none ∧ HH h' ∧ fr_g KM h0 h' ∧ ∀ k, k < 10 → gn h' 101 k = bk (gn h0 86) n k) := by
  induction j with
  | zero =>
    intro h i lv hj hh hfr hc L0 L1 L2 L3
    refine E_il rfl L3 ?_
    refine E_ci 10 rfl ci10 ?_
    refine E_icT rfl (decide_eq_true ((nJ_le (by first | decide | with_reducible assumption | omega) (by first | decide | with_reducible assumption | omega)).mpr (by first | decide | with_reducible assumption | omega))) ?_
    refine E_ci 0 rfl ci0 ?_
    refine E_is rfl (fun lv1 L1_3 kp1 => ?_)
    have L1_0 := kp1 0 _ (nbz rfl) rfl L0
    have L1_1 := kp1 1 _ (nbz rfl) rfl L1
    have L1_2 := kp1 2 _ (nbz rfl) rfl L2
    exact lb_two hh0 hn n (i := 0) lv1 (by first | decide | with_reducible assumption | omega) hh hfr (fun k hk => hc k (by first | decide | with_reducible assumption | omega)) L1_0 L1_1 L1_2 L1_3
  | succ j ih =>
    intro h i lv hj hh hfr hc L0 L1 L2 L3
    refine E_il rfl L3 ?_
    refine E_ci 10 rfl ci10 ?_
    refine E_icF rfl (decide_eq_false (fun q => absurd ((nJ_le (by first | decide | with_reducible assumption | omega) (by first | decide | with_reducible assumption | omega)).mp q) (by first | decide | with_reducible assumption | omega))) ?_
    refine E_al rfl L0 ?_
    refine E_gr rfl hh (q := 101) rfl ?_
    refine E_il rfl L3 ?_
    refine E_il rfl L3 ?_
    refine E_ias rfl hh rfl (by first | decide | with_reducible assumption | omega) (by decide) ?_
    have hh1 : HH (pt h 101 i (nJ i)) := HH_ptn hh (bd_u rfl (by first | decide | with_reducible assumption | omega)) (by first | decide | with_reducible assumption | omega) (by first | decide | with_reducible assumption | omega) (by first | decide | with_reducible assumption | omega)
    refine E_inc rfl L3 (nJ_inc _) (fun lv2 L2_3 kp2 => ?_)
    have L2_0 := kp2 0 _ (nbz rfl) rfl L0
    have L2_1 := kp2 1 _ (nbz rfl) rfl L1
    have L2_2 := kp2 2 _ (nbz rfl) rfl L2
    refine E_goto rfl ?_
    refine ih lv2 (by first | decide | with_reducible assumption | omega) hh1 (fr_ptr (l := 0) (u := 9) rfl (by first | decide | with_reducible assumption | omega) (by first | decide | with_reducible assumption | omega) hfr) (fun k hk => ?_) L2_0 L2_1 L2_2 L2_3
    by_cases e : k = i
    · rw [e, gn_ptn hh (bd_u rfl (by first | decide | with_reducible assumption | omega)) (by first | decide | with_reducible assumption | omega) (by first | decide | with_reducible assumption | omega) (by first | decide | with_reducible assumption | omega)]
    · rw [gn_ne (fun _ => e)]; exact hc k (by first | decide | with_reducible assumption | omega)
theorem sp_laysBlocks4 {h0 : pm_H} {d n : Nat} (hh : HH h0) (hn : n ≤ 8) : Sp (d + 4) 294 h0 [.ref 77, .int (nJ 4), .int (nJ n)] (fun h' r => r = none ∧ HH h' ∧ fr_g KM h0 h' ∧ ∀ k, k < 10 → gn h' 101 k = bk (gn h0 86) n k) := by
  refine Sp_of aiX9_laysBlocks rfl rfl rfl ?_
  refine E_ci 0 rfl ci0 ?_
  refine E_is rfl (fun lv1 L1_3 kp1 => ?_)
  have L1_0 := kp1 0 _ (nbz rfl) rfl (show pm_get (lv_args 0 [.ref 77, .int (nJ 4), .int (nJ n)]) 0 = _ from rfl)
  have L1_1 := kp1 1 _ (nbz rfl) rfl (show pm_get (lv_args 0 [.ref 77, .int (nJ 4), .int (nJ n)]) 1 = _ from rfl)
  have L1_2 := kp1 2 _ (nbz rfl) rfl (show pm_get (lv_args 0 [.ref 77, .int (nJ 4), .int (nJ n)]) 2 = _ from rfl)
  exact lb_one hh hn 10 (i := 0) lv1 (by first | decide | with_reducible assumption | omega) hh (fr_rf _ _) (fun k hk => absurd hk (Nat.not_lt_zero _)) L1_0 L1_1 L1_2 L1_3
theorem sp_mayJoin {h : pm_H} {d a b n : Nat} (hh : HH h) (a1 : 1 ≤ a) (a9 : a ≤ 9) (b1 : 1 ≤ b) (b9 : b ≤ 9) (n1 : 1 ≤ n) (n9 : n ≤ 9) : Sp (d + 2) 309 h [.ref 77, .int (nJ a), .int (nJ b), .int (nJ n)] (fun h' r => HH h' ∧ fr_g [] h h' ∧ (r = some (.int (nJ 0)) ∨ r = some (.int (nJ 1)) ∧ gn h 101 a ≠ gn h 101 b)) := by
  by_cases he : gn h 101 a = gn h 101 b
  · refine Sp_of aiX9_mayJoin rfl rfl rfl ?_
    refine E_al rfl (show pm_get (lv_args 0 [.ref 77, .int (nJ a), .int (nJ b), .int (nJ n)]) 0 = _ from rfl) ?_
    refine E_gr rfl hh (q := 101) rfl ?_
    refine E_il rfl (show pm_get (lv_args 0 [.ref 77, .int (nJ a), .int (nJ b), .int (nJ n)]) 1 = _ from rfl) ?_
    have b1 : gn h 101 a ≤ 9 := gn_hi hh (bd_u rfl (by first | decide | with_reducible assumption | omega)) (by decide)
    refine E_ial rfl hh rfl (by first | decide | with_reducible assumption | omega) (by decide) (gi_gn hh (bd_u rfl (by first | decide | with_reducible assumption | omega)) (by decide)) ?_
    refine E_al rfl (show pm_get (lv_args 0 [.ref 77, .int (nJ a), .int (nJ b), .int (nJ n)]) 0 = _ from rfl) ?_
    refine E_gr rfl hh (q := 101) rfl ?_
    refine E_il rfl (show pm_get (lv_args 0 [.ref 77, .int (nJ a), .int (nJ b), .int (nJ n)]) 2 = _ from rfl) ?_
    have b2 : gn h 101 b ≤ 9 := gn_hi hh (bd_u rfl (by first | decide | with_reducible assumption | omega)) (by decide)
    refine E_ial rfl hh rfl (by first | decide | with_reducible assumption | omega) (by decide) (gi_gn hh (bd_u rfl (by first | decide | with_reducible assumption | omega)) (by decide)) ?_
    refine E_icF rfl (decide_eq_false (fun q => q (by rw [he]))) ?_
    refine E_ci 0 rfl ci0 ?_
    exact E_rtz rfl (.inl rfl) ⟨hh, fr_rf _ _, .inl rfl⟩
  · refine Sp_le (by first | exact Nat.add_le_add_left (Nat.le_of_ble_eq_true rfl) _ | exact Nat.le_of_ble_eq_true rfl | omega) (Sp_mono ?_ (Sp_sum (as := [.ref 77, .int (nJ a), .int (nJ b), .int (nJ n)]) q563 hh ⟨rfl, nJ_in (by first | decide | with_reducible assumption | omega) (by first | decide | with_reducible assumption | omega), nJ_in (by first | decide | with_reducible assumption | omega) (by first | decide | with_reducible assumption | omega), nJ_in (by first | decide | with_reducible assumption | omega) (by first | decide | with_reducible assumption | omega), trivial⟩ (fun _ hq => absurd hq List.not_mem_nil) (fun _ hq => absurd hq List.not_mem_nil)))
    rintro h' r ⟨q1, q2, C, hC, -, -, -, rv⟩
    refine ⟨q1, q2, ?_⟩
    have hC' : C ∈ [([cR 77, cI 1 9, cI 1 9, cI 1 9], [], [], some (.inl (cI 0 0))), ([cR 77, cI 1 9, cI 1 9, cI 1 9], [], [], some (.inl (cI 1 1)))] := hC
    rcases List.mem_cons.mp hC' with e | e
    · subst e
      cases r with
      | none => exact rv.elim
      | some v => cases v with
        | int x => exact .inl (congrArg some (congrArg Value.int (Int32.toInt_inj.mp (show x.toInt = 0 from Int.le_antisymm rv.2 rv.1))))
        | _ => exact rv.elim
    · have e := List.mem_singleton.mp e
      subst e
      cases r with
      | none => exact rv.elim
      | some v => cases v with
        | int x => exact .inr ⟨congrArg some (congrArg Value.int (Int32.toInt_inj.mp (show x.toInt = 1 from Int.le_antisymm rv.2 rv.1))), he⟩
        | _ => exact rv.elim
theorem bd_85o {k : Nat} (hk : k < 80) (e : k % 2 = 1) : bd 85 k = some (0, 99) := bd_pat (p := [(0, 8), (0, 99)]) rfl hk (by show [(0, 8), (0, 99)][k % 2]? = _; rw [e]; rfl)
noncomputable def CX : List Rng := [(77, 7, 13), (85, 64, 79), (84, 27, 27)]
theorem sp_carLine {h0 : pm_H} {d : Nat} (hh0 : HH h0) (hr1 : gn h0 77 9 ≤ gn h0 77 7) (hr2 : gn h0 77 7 ≤ gn h0 77 6) (hr3 : gn h0 77 8 = 0 ∨ gn h0 77 9 < gn h0 77 7) (hc : gn h0 84 27 < gn h0 84 24) (ht : ∀ c, c < gn h0 84 27 → 1 ≤ gn h0 85 (64 + 2 * c)) : Sp (d + 8) 223 h0 [.ref 77] (fun h' r => r = none ∧ RR h' ∧ fr_g CX h0 h' ∧ gn h0 77 9 ≤ gn h' 77 9 ∧ gn h' 84 27 = gn h0 84 27 + 1 ∧ ∀ c, c < gn h0 84 27 + 1 → 1 ≤ gn h' 85 (64 + 2 * c)) := by
  refine Sp_of aiX9_carLine rfl rfl rfl ?_
  have L0 : pm_get (lv_args 0 [.ref 77]) 0 = some (.ref 77) := rfl
  generalize lv_args 0 [.ref 77] = lv at L0 ⊢
  have h5 := b500 hh0
  refine E_ci 2 rfl ci2 ?_
  refine E_ci 32 rfl ci32 ?_
  refine E_al rfl L0 ?_
  refine E_ci 3 rfl ci3 ?_
  refine E_call rfl (Sp_le (by first | exact Nat.add_le_add_left (Nat.le_of_ble_eq_true rfl) _ | exact Nat.le_of_ble_eq_true rfl | omega) (sp_hasRead (d := 0) hh0 (by first | decide | with_reducible assumption | omega) rfl (by decide))) (chk77 hh0 rfl rfl (by show 2 ≤ 8; decide)) (fun h1 r1 => ?_)
  rintro ⟨e1, f1⟩
  rw [e1, f1]
  have b1 : gn h0 84 27 ≤ 8 := gn_hi hh0 rfl (by decide)
  show Ends _ _ (8, lv, [.int (nJ (gn h0 84 27)), .int (nJ 32), .int (nJ 2)], h0, 0, 0) _
  refine E_bin rfl (nJ_add _ _) ?_
  refine E_bin rfl (nJ_mul _ _) ?_
  refine E_is rfl (fun lv2 L2_1 kp2 => ?_)
  have L2_0 := kp2 0 _ (nbz rfl) rfl L0
  refine E_al rfl L2_0 ?_
  refine E_gr rfl hh0 (q := 85) rfl ?_
  refine E_il rfl L2_1 ?_
  refine E_al rfl L2_0 ?_
  refine E_c rfl ?_
  refine E_ci 1 rfl ci1 ?_
  refine E_al rfl L2_0 ?_
  refine E_ci 0 rfl ci0 ?_
  refine E_call rfl (Sp_le (by first | exact Nat.add_le_add_left (Nat.le_of_ble_eq_true rfl) _ | exact Nat.le_of_ble_eq_true rfl | omega) (sp_hasRead (d := 0) hh0 (by first | decide | with_reducible assumption | omega) rfl (by decide))) (chk77 hh0 rfl rfl (by show 6 ≤ 8; decide)) (fun h3 r3 => ?_)
  rintro ⟨e3, f3⟩
  rw [e3, f3]
  have b3 : gn h0 84 24 ≤ 8 := gn_hi hh0 rfl (by decide)
  show Ends _ _ (26, lv2, [.int (nJ (gn h0 84 24)), .int (nJ 1), .long (12253591), .ref 77, .int (nJ (2 * (32 + (gn h0 84 27)))), .ref 85], h0, 0, 0) _
  refine E_call rfl (Sp_le (by first | exact Nat.add_le_add_left (Nat.le_of_ble_eq_true rfl) _ | exact Nat.le_of_ble_eq_true rfl | omega) (sp_number_ (d := 0) hh0 (by first | decide | with_reducible assumption | omega) (by first | decide | with_reducible assumption | omega) (by first | decide | with_reducible assumption | omega) (by first | decide | with_reducible assumption | omega) (by first | decide | with_reducible assumption | omega))) (chk77 hh0 rfl rfl (by show 2 ≤ 8; decide)) (fun h4 r4 => ?_)
  rintro ⟨⟨hh4, ra4, rb4, rc4⟩, fq4, mo4, v4, va4, vb4, f4, vc4⟩
  rw [f4]
  have fr4 : fr_g CX h0 h4 := fr_trans (fr_rf CX h0) (fr_wk rfl fq4)
  have t4_0 : gn h4 77 6 = gn h0 77 6 := fr_gn fq4 rfl
  have t4_5 : gn h4 84 24 = gn h0 84 24 := fr_gn fq4 rfl
  have t4_6 : gn h4 84 27 = gn h0 84 27 := fr_gn fq4 rfl
  have t4_7 : gn h4 84 28 = gn h0 84 28 := fr_gn fq4 rfl
  have t4_8 : gn h4 84 29 = gn h0 84 29 := fr_gn fq4 rfl
  have u4 : ∀ k, gn h4 85 k = gn h0 85 k := fun k => fr_gn fq4 (rg_no rfl _)
  show Ends _ _ (29, lv2, [.int (nJ v4), .int (nJ (2 * (32 + (gn h0 84 27)))), .ref 85], h4, 0, 0) _
  refine E_ias rfl hh4 rfl (by first | decide | with_reducible assumption | omega) (by decide) ?_
  have hh5 : HH (pt h4 85 ((2 * (32 + (gn h0 84 27)))) (nJ v4)) := HH_ptn hh4 (bd_85 (by first | decide | with_reducible assumption | omega) (by first | decide | with_reducible assumption | omega)) (by first | decide | with_reducible assumption | omega) (by first | decide | with_reducible assumption | omega) (by first | decide | with_reducible assumption | omega)
  have fr5 : fr_g CX h0 (pt h4 85 ((2 * (32 + (gn h0 84 27)))) (nJ v4)) := fr_ptr (l := 64) (u := 79) rfl (by first | decide | with_reducible assumption | omega) (by first | decide | with_reducible assumption | omega) fr4
  have t5_0 : gn (pt h4 85 ((2 * (32 + (gn h0 84 27)))) (nJ v4)) 77 6 = gn h4 77 6 := gn_ne (by first | exact gxx rfl | omega)
  have t5_1 : gn (pt h4 85 ((2 * (32 + (gn h0 84 27)))) (nJ v4)) 77 7 = gn h4 77 7 := gn_ne (by first | exact gxx rfl | omega)
  have t5_2 : gn (pt h4 85 ((2 * (32 + (gn h0 84 27)))) (nJ v4)) 77 8 = gn h4 77 8 := gn_ne (by first | exact gxx rfl | omega)
  have t5_3 : gn (pt h4 85 ((2 * (32 + (gn h0 84 27)))) (nJ v4)) 77 9 = gn h4 77 9 := gn_ne (by first | exact gxx rfl | omega)
  have t5_4 : gn (pt h4 85 ((2 * (32 + (gn h0 84 27)))) (nJ v4)) 77 12 = gn h4 77 12 := gn_ne (by first | exact gxx rfl | omega)
  have t5_5 : gn (pt h4 85 ((2 * (32 + (gn h0 84 27)))) (nJ v4)) 84 24 = gn h4 84 24 := gn_ne (by first | exact gxx rfl | omega)
  have t5_6 : gn (pt h4 85 ((2 * (32 + (gn h0 84 27)))) (nJ v4)) 84 27 = gn h4 84 27 := gn_ne (by first | exact gxx rfl | omega)
  have t5_7 : gn (pt h4 85 ((2 * (32 + (gn h0 84 27)))) (nJ v4)) 84 28 = gn h4 84 28 := gn_ne (by first | exact gxx rfl | omega)
  have t5_8 : gn (pt h4 85 ((2 * (32 + (gn h0 84 27)))) (nJ v4)) 84 29 = gn h4 84 29 := gn_ne (by first | exact gxx rfl | omega)
  generalize hz5 : (pt h4 85 ((2 * (32 + (gn h0 84 27)))) (nJ v4)) = g5 at hh5 fr5 t5_0 t5_1 t5_2 t5_3 t5_4 t5_5 t5_6 t5_7 t5_8 ⊢
  refine E_al rfl L2_0 ?_
  refine E_gr rfl hh5 (q := 85) rfl ?_
  refine E_il rfl L2_1 ?_
  refine E_ci 1 rfl ci1 ?_
  refine E_bin rfl (nJ_add _ _) ?_
  refine E_al rfl L2_0 ?_
  refine E_c rfl ?_
  refine E_ci 0 rfl ci0 ?_
  refine E_ci 99 rfl ci99 ?_
  refine E_call rfl (Sp_le (by first | exact Nat.add_le_add_left (Nat.le_of_ble_eq_true rfl) _ | exact Nat.le_of_ble_eq_true rfl | omega) (sp_number_ (d := 0) hh5 (by first | decide | with_reducible assumption | omega) (by first | decide | with_reducible assumption | omega) (by first | decide | with_reducible assumption | omega) (by first | decide | with_reducible assumption | omega) (by first | decide | with_reducible assumption | omega))) (chk77 hh5 rfl rfl (by show 2 ≤ 8; decide)) (fun h6 r6 => ?_)
  rintro ⟨⟨hh6, ra6, rb6, rc6⟩, fq6, mo6, v6, va6, vb6, f6, vc6⟩
  rw [f6]
  have fr6 : fr_g CX h0 h6 := fr_trans fr5 (fr_wk rfl fq6)
  have t6_0 : gn h6 77 6 = gn g5 77 6 := fr_gn fq6 rfl
  have t6_5 : gn h6 84 24 = gn g5 84 24 := fr_gn fq6 rfl
  have t6_6 : gn h6 84 27 = gn g5 84 27 := fr_gn fq6 rfl
  have t6_7 : gn h6 84 28 = gn g5 84 28 := fr_gn fq6 rfl
  have t6_8 : gn h6 84 29 = gn g5 84 29 := fr_gn fq6 rfl
  have u6 : ∀ k, gn h6 85 k = gn g5 85 k := fun k => fr_gn fq6 (rg_no rfl _)
  show Ends _ _ (47, lv2, [.int (nJ v6), .int (nJ ((2 * (32 + (gn h0 84 27))) + 1)), .ref 85], h6, 0, 0) _
  refine E_ias rfl hh6 rfl (by first | decide | with_reducible assumption | omega) (by decide) ?_
  have hh7 : HH (pt h6 85 (((2 * (32 + (gn h0 84 27))) + 1)) (nJ v6)) := HH_ptn hh6 (bd_85o (by first | decide | with_reducible assumption | omega) (by first | decide | with_reducible assumption | omega)) (by first | decide | with_reducible assumption | omega) (by first | decide | with_reducible assumption | omega) (by first | decide | with_reducible assumption | omega)
  have fr7 : fr_g CX h0 (pt h6 85 (((2 * (32 + (gn h0 84 27))) + 1)) (nJ v6)) := fr_ptr (l := 64) (u := 79) rfl (by first | decide | with_reducible assumption | omega) (by first | decide | with_reducible assumption | omega) fr6
  have t7_0 : gn (pt h6 85 (((2 * (32 + (gn h0 84 27))) + 1)) (nJ v6)) 77 6 = gn h6 77 6 := gn_ne (by first | exact gxx rfl | omega)
  have t7_1 : gn (pt h6 85 (((2 * (32 + (gn h0 84 27))) + 1)) (nJ v6)) 77 7 = gn h6 77 7 := gn_ne (by first | exact gxx rfl | omega)
  have t7_2 : gn (pt h6 85 (((2 * (32 + (gn h0 84 27))) + 1)) (nJ v6)) 77 8 = gn h6 77 8 := gn_ne (by first | exact gxx rfl | omega)
  have t7_3 : gn (pt h6 85 (((2 * (32 + (gn h0 84 27))) + 1)) (nJ v6)) 77 9 = gn h6 77 9 := gn_ne (by first | exact gxx rfl | omega)
  have t7_4 : gn (pt h6 85 (((2 * (32 + (gn h0 84 27))) + 1)) (nJ v6)) 77 12 = gn h6 77 12 := gn_ne (by first | exact gxx rfl | omega)
  have t7_5 : gn (pt h6 85 (((2 * (32 + (gn h0 84 27))) + 1)) (nJ v6)) 84 24 = gn h6 84 24 := gn_ne (by first | exact gxx rfl | omega)
  have t7_6 : gn (pt h6 85 (((2 * (32 + (gn h0 84 27))) + 1)) (nJ v6)) 84 27 = gn h6 84 27 := gn_ne (by first | exact gxx rfl | omega)
  have t7_7 : gn (pt h6 85 (((2 * (32 + (gn h0 84 27))) + 1)) (nJ v6)) 84 28 = gn h6 84 28 := gn_ne (by first | exact gxx rfl | omega)
  have t7_8 : gn (pt h6 85 (((2 * (32 + (gn h0 84 27))) + 1)) (nJ v6)) 84 29 = gn h6 84 29 := gn_ne (by first | exact gxx rfl | omega)
  generalize hz7 : (pt h6 85 (((2 * (32 + (gn h0 84 27))) + 1)) (nJ v6)) = g7 at hh7 fr7 t7_0 t7_1 t7_2 t7_3 t7_4 t7_5 t7_6 t7_7 t7_8 ⊢
  refine E_al rfl L2_0 ?_
  refine E_ci 3 rfl ci3 ?_
  refine E_al rfl L2_0 ?_
  refine E_ci 3 rfl ci3 ?_
  refine E_call rfl (Sp_le (by first | exact Nat.add_le_add_left (Nat.le_of_ble_eq_true rfl) _ | exact Nat.le_of_ble_eq_true rfl | omega) (sp_hasRead (d := 0) hh7 (by first | decide | with_reducible assumption | omega) rfl (by decide))) (chk77 hh7 rfl rfl (by show 2 ≤ 8; decide)) (fun h8 r8 => ?_)
  rintro ⟨e8, f8⟩
  rw [e8, f8]
  have b8 : gn g7 84 27 ≤ 8 := gn_hi hh7 rfl (by decide)
  show Ends _ _ (55, lv2, [.int (nJ (gn g7 84 27)), .int (nJ 3), .ref 77], g7, 0, 0) _
  refine E_ci 1 rfl ci1 ?_
  refine E_bin rfl (nJ_add _ _) ?_
  refine E_call rfl (Sp_le (by first | exact Nat.add_le_add_left (Nat.le_of_ble_eq_true rfl) _ | exact Nat.le_of_ble_eq_true rfl | omega) (sp_tells (d := 0) hh7 (by first | decide | with_reducible assumption | omega))) (chk77 hh7 rfl rfl (by show 0 ≤ 8; decide)) (fun h9 r9 => ?_)
  rintro ⟨e9, f9⟩
  have hh9 : HH (pt g7 84 27 (nJ (((gn g7 84 27) + 1)))) := HH_ptn hh7 rfl (by first | decide | with_reducible assumption | omega) (by first | decide | with_reducible assumption | omega) (by first | decide | with_reducible assumption | omega)
  have fr9 : fr_g CX h0 (pt g7 84 27 (nJ (((gn g7 84 27) + 1)))) := fr_ptr (l := 27) (u := 27) rfl (by first | decide | with_reducible assumption | omega) (by first | decide | with_reducible assumption | omega) fr7
  have t9_0 : gn (pt g7 84 27 (nJ (((gn g7 84 27) + 1)))) 77 6 = gn g7 77 6 := gn_ne (by first | exact gxx rfl | omega)
  have t9_1 : gn (pt g7 84 27 (nJ (((gn g7 84 27) + 1)))) 77 7 = gn g7 77 7 := gn_ne (by first | exact gxx rfl | omega)
  have t9_2 : gn (pt g7 84 27 (nJ (((gn g7 84 27) + 1)))) 77 8 = gn g7 77 8 := gn_ne (by first | exact gxx rfl | omega)
  have t9_3 : gn (pt g7 84 27 (nJ (((gn g7 84 27) + 1)))) 77 9 = gn g7 77 9 := gn_ne (by first | exact gxx rfl | omega)
  have t9_4 : gn (pt g7 84 27 (nJ (((gn g7 84 27) + 1)))) 77 12 = gn g7 77 12 := gn_ne (by first | exact gxx rfl | omega)
  have t9_5 : gn (pt g7 84 27 (nJ (((gn g7 84 27) + 1)))) 84 24 = gn g7 84 24 := gn_ne (by first | exact gxx rfl | omega)
  have t9_6 : gn (pt g7 84 27 (nJ (((gn g7 84 27) + 1)))) 84 27 = ((gn g7 84 27) + 1) := gn_ptn hh7 rfl (by first | decide | with_reducible assumption | omega) (by first | decide | with_reducible assumption | omega) (by first | decide | with_reducible assumption | omega)
  have t9_7 : gn (pt g7 84 27 (nJ (((gn g7 84 27) + 1)))) 84 28 = gn g7 84 28 := gn_ne (by first | exact gxx rfl | omega)
  have t9_8 : gn (pt g7 84 27 (nJ (((gn g7 84 27) + 1)))) 84 29 = gn g7 84 29 := gn_ne (by first | exact gxx rfl | omega)
  have u9 : ∀ k, gn (pt g7 84 27 (nJ (((gn g7 84 27) + 1)))) 85 k = gn g7 85 k := fun k => gn_ne (by first | exact gxx rfl | omega)
  have y9 : ∀ k, gn (pt g7 84 27 (nJ (((gn g7 84 27) + 1)))) 86 k = gn g7 86 k := fun k => gn_ne (by first | exact gxx rfl | omega)
  rw [e9, f9]
  show Ends _ _ (60, lv2, [], (pt g7 84 27 (nJ (((gn g7 84 27) + 1)))), 0, 0) _
  generalize hz9 : (pt g7 84 27 (nJ (((gn g7 84 27) + 1)))) = g9 at hh9 fr9 t9_0 t9_1 t9_2 t9_3 t9_4 t9_5 t9_6 t9_7 t9_8 u9 y9 ⊢
  refine E_ret rfl ⟨rfl, ⟨hh9, by omega, by omega, by omega⟩, fr9, by omega, by omega, fun c hc => ?_⟩
  rw [u9, ← hz7, gn_ne (by first | exact gxx rfl | omega), u6]
  by_cases e : c = gn h0 84 27
  · rw [e, ← hz5, show 64 + 2 * gn h0 84 27 = 2 * (32 + gn h0 84 27) by omega, gn_ptn hh4 (bd_85 (by first | decide | with_reducible assumption | omega) (by first | decide | with_reducible assumption | omega)) (by first | decide | with_reducible assumption | omega) (by first | decide | with_reducible assumption | omega) (by first | decide | with_reducible assumption | omega)]; exact va4
  · rw [← hz5, gn_ne (by first | exact gxx rfl | omega), u4]; exact ht c (by first | decide | with_reducible assumption | omega)
end
section
/-! by hand: the line of a join, a line (written by gen_t17.py) -/
theorem i2l_add1 {n : Nat} (h : n < 2147483647) : ((nJ n).toInt64 + 1).toInt = (n : Int) + 1 := by
  rw [Int64.toInt_add, i2l_nJ (by first | decide | with_reducible assumption | omega)]
  exact al_bmod (by show -9223372036854775808 ≤ (n : Int) + 1; omega) (by show (n : Int) + 1 ≤ 9223372036854775807; omega)
noncomputable def JX : List Rng := [(77, 7, 13), (86, 64, 79), (84, 28, 28), (101, 0, 9)]
theorem jl_tail {h0 h : pm_H} {d kk a : Nat} (hh0 : HH h0) (hJ : JN h0) (lv : List (Nat × Value)) (hh : HH h) (hr1 : gn h 77 9 ≤ gn h 77 7) (hr2 : gn h 77 7 ≤ gn h 77 6) (hr3 : gn h 77 8 = 0 ∨ gn h 77 9 < gn h 77 7) (hm : gn h0 77 9 ≤ gn h 77 9) (hfr : fr_g JX h0 h) (e84 : gn h 84 24 = gn h0 84 24) (e28 : gn h 84 28 = gn h0 84 28) (e86 : ∀ k, gn h 86 k = gn h0 86 k) (hkk0 : kk = 2 * (32 + min (gn h0 84 28) 7)) (ha1 : 1 ≤ a) (ha2 : a ≤ gn h0 84 24 + 1) (hcond : gn h 77 12 = 0 → gn h 77 8 = 2 → ∀ b, 1 ≤ b → b ≤ gn h0 84 24 + 1 → gi h 77 10 = nJ b → bk (gn h0 86) (gn h0 84 28) a ≠ bk (gn h0 86) (gn h0 84 28) b) (L0 : pm_get lv 0 = some (.ref 77)) (L1 : pm_get lv 1 = some (.int (nJ kk))) (L2 : pm_get lv 2 = some (.int (nJ a))) : Ends (pm_at tX9_joinLine) (pm_Rt pm_P (d + 7)) (98, lv, [], h, 0, 0) (fun h' r => r = none ∧ RR h' ∧ fr_g JX h0 h' ∧ gn h0 77 9 ≤ gn h' 77 9 ∧ JN h') := by
  have h5 := b500 hh
  have hP8 : gn h0 84 24 ≤ 8 := gn_hi hh0 rfl (by decide)
  have hj8 := hJ.1
  refine E_al rfl L0 ?_
  refine E_ci 1 rfl ci1 ?_
  refine E_al rfl L0 ?_
  refine E_ci 0 rfl ci0 ?_
  refine E_call rfl (Sp_le (by first | exact Nat.add_le_add_left (Nat.le_of_ble_eq_true rfl) _ | exact Nat.le_of_ble_eq_true rfl | omega) (sp_hasRead (d := 0) hh (by first | decide | with_reducible assumption | omega) rfl (by decide))) (chk77 hh rfl rfl (by show 2 ≤ 8; decide)) (fun h1 r1 => ?_)
  rintro ⟨e1, f1⟩
  rw [e1, f1]
  have b1 : gn h 84 24 ≤ 8 := gn_hi hh rfl (by decide)
  show Ends _ _ (105, lv, [.int (nJ (gn h 84 24)), .int (nJ 1), .ref 77], h, 0, 0) _
  refine E_ci 1 rfl ci1 ?_
  refine E_bin rfl (nJ_add _ _) ?_
  refine E_call rfl (Sp_le (by first | exact Nat.add_le_add_left (Nat.le_of_ble_eq_true rfl) _ | exact Nat.le_of_ble_eq_true rfl | omega) (sp_number (d := 0) hh (by first | decide | with_reducible assumption | omega) (by first | decide | with_reducible assumption | omega) (by first | decide | with_reducible assumption | omega) (by first | decide | with_reducible assumption | omega) (by first | decide | with_reducible assumption | omega))) (chk77 hh rfl rfl (by show 0 ≤ 8; decide)) (fun h2 r2 => ?_)
  rintro ⟨⟨hh2, ra2, rb2, rc2⟩, fq2, mo2, v2, va2, vb2, f2, vc2⟩
  rw [f2]
  have fr2 : fr_g JX h0 h2 := fr_trans hfr (fr_wk rfl fq2)
  have t2_0 : gn h2 77 6 = gn h 77 6 := fr_gn fq2 rfl
  have t2_5 : gn h2 84 24 = gn h 84 24 := fr_gn fq2 rfl
  have t2_6 : gn h2 84 27 = gn h 84 27 := fr_gn fq2 rfl
  have t2_7 : gn h2 84 28 = gn h 84 28 := fr_gn fq2 rfl
  have t2_8 : gn h2 84 29 = gn h 84 29 := fr_gn fq2 rfl
  show Ends _ _ (110, lv, [.int (nJ v2)], h2, 0, 0) _
  refine E_is rfl (fun lv3 L3_3 kp3 => ?_)
  have L3_0 := kp3 0 _ (nbz rfl) rfl L0
  have L3_1 := kp3 1 _ (nbz rfl) rfl L1
  have L3_2 := kp3 2 _ (nbz rfl) rfl L2
  refine E_al rfl L3_0 ?_
  have b4 : gn h2 77 12 ≤ 3 := gn_hi hh2 rfl (by decide)
  refine E_gf rfl hh2 rfl (gi_gn hh2 rfl (by decide)) ?_
  by_cases hb5 : (gn h2 77 12) = 0
  · refine E_ifT rfl (decide_eq_true ((nJ_eq0 (by first | decide | with_reducible assumption | omega)).mpr hb5)) ?_
    obtain ⟨c1, c2, c3⟩ := vc2 hb5
    have hne := hcond c1 c2 v2 va2 (by first | decide | with_reducible assumption | omega) c3
    have WF := JN_wf hh0 hJ
    have rA := rc_mg WF ha1 (by first | decide | with_reducible assumption | omega) va2 (by first | decide | with_reducible assumption | omega) hne
    have rB := rc_pos (WFb_mg WF ha1 (by first | decide | with_reducible assumption | omega) va2 (show v2 ≤ 9 by omega))
    have rC := hJ.2.2
    have hj7 : gn h0 84 28 ≤ 7 := by omega
    have w86 : ∀ k, gn h2 86 k = gn h0 86 k := fun k => by rw [fr_gn fq2 (rg_no rfl _)]; exact e86 k
    have hkk : kk = 64 + 2 * gn h0 84 28 := by omega
    refine E_al rfl L3_0 ?_
    refine E_gr rfl hh2 (q := 86) rfl ?_
    refine E_il rfl L3_1 ?_
    refine E_il rfl L3_2 ?_
    refine E_ias rfl hh2 rfl (by first | decide | with_reducible assumption | omega) (by decide) ?_
    have hh6 : HH (pt h2 86 kk (nJ a)) := HH_ptn hh2 (bd_u rfl (by first | decide | with_reducible assumption | omega)) (by first | decide | with_reducible assumption | omega) (by first | decide | with_reducible assumption | omega) (by first | decide | with_reducible assumption | omega)
    have fr6 : fr_g JX h0 (pt h2 86 kk (nJ a)) := fr_ptr (l := 64) (u := 79) rfl (by first | decide | with_reducible assumption | omega) (by first | decide | with_reducible assumption | omega) fr2
    have t6_0 : gn (pt h2 86 kk (nJ a)) 77 6 = gn h2 77 6 := gn_ne (by first | exact gxx rfl | omega)
    have t6_1 : gn (pt h2 86 kk (nJ a)) 77 7 = gn h2 77 7 := gn_ne (by first | exact gxx rfl | omega)
    have t6_2 : gn (pt h2 86 kk (nJ a)) 77 8 = gn h2 77 8 := gn_ne (by first | exact gxx rfl | omega)
    have t6_3 : gn (pt h2 86 kk (nJ a)) 77 9 = gn h2 77 9 := gn_ne (by first | exact gxx rfl | omega)
    have t6_4 : gn (pt h2 86 kk (nJ a)) 77 12 = gn h2 77 12 := gn_ne (by first | exact gxx rfl | omega)
    have t6_5 : gn (pt h2 86 kk (nJ a)) 84 24 = gn h2 84 24 := gn_ne (by first | exact gxx rfl | omega)
    have t6_6 : gn (pt h2 86 kk (nJ a)) 84 27 = gn h2 84 27 := gn_ne (by first | exact gxx rfl | omega)
    have t6_7 : gn (pt h2 86 kk (nJ a)) 84 28 = gn h2 84 28 := gn_ne (by first | exact gxx rfl | omega)
    have t6_8 : gn (pt h2 86 kk (nJ a)) 84 29 = gn h2 84 29 := gn_ne (by first | exact gxx rfl | omega)
    generalize hz6 : (pt h2 86 kk (nJ a)) = g6 at hh6 fr6 t6_0 t6_1 t6_2 t6_3 t6_4 t6_5 t6_6 t6_7 t6_8 ⊢
    refine E_al rfl L3_0 ?_
    refine E_gr rfl hh6 (q := 86) rfl ?_
    refine E_il rfl L3_1 ?_
    refine E_ci 1 rfl ci1 ?_
    refine E_bin rfl (nJ_add _ _) ?_
    refine E_il rfl L3_3 ?_
    refine E_ias rfl hh6 rfl (by first | decide | with_reducible assumption | omega) (by decide) ?_
    have hh7 : HH (pt g6 86 ((kk + 1)) (nJ v2)) := HH_ptn hh6 (bd_u rfl (by first | decide | with_reducible assumption | omega)) (by first | decide | with_reducible assumption | omega) (by first | decide | with_reducible assumption | omega) (by first | decide | with_reducible assumption | omega)
    have fr7 : fr_g JX h0 (pt g6 86 ((kk + 1)) (nJ v2)) := fr_ptr (l := 64) (u := 79) rfl (by first | decide | with_reducible assumption | omega) (by first | decide | with_reducible assumption | omega) fr6
    have t7_0 : gn (pt g6 86 ((kk + 1)) (nJ v2)) 77 6 = gn g6 77 6 := gn_ne (by first | exact gxx rfl | omega)
    have t7_1 : gn (pt g6 86 ((kk + 1)) (nJ v2)) 77 7 = gn g6 77 7 := gn_ne (by first | exact gxx rfl | omega)
    have t7_2 : gn (pt g6 86 ((kk + 1)) (nJ v2)) 77 8 = gn g6 77 8 := gn_ne (by first | exact gxx rfl | omega)
    have t7_3 : gn (pt g6 86 ((kk + 1)) (nJ v2)) 77 9 = gn g6 77 9 := gn_ne (by first | exact gxx rfl | omega)
    have t7_4 : gn (pt g6 86 ((kk + 1)) (nJ v2)) 77 12 = gn g6 77 12 := gn_ne (by first | exact gxx rfl | omega)
    have t7_5 : gn (pt g6 86 ((kk + 1)) (nJ v2)) 84 24 = gn g6 84 24 := gn_ne (by first | exact gxx rfl | omega)
    have t7_6 : gn (pt g6 86 ((kk + 1)) (nJ v2)) 84 27 = gn g6 84 27 := gn_ne (by first | exact gxx rfl | omega)
    have t7_7 : gn (pt g6 86 ((kk + 1)) (nJ v2)) 84 28 = gn g6 84 28 := gn_ne (by first | exact gxx rfl | omega)
    have t7_8 : gn (pt g6 86 ((kk + 1)) (nJ v2)) 84 29 = gn g6 84 29 := gn_ne (by first | exact gxx rfl | omega)
    generalize hz7 : (pt g6 86 ((kk + 1)) (nJ v2)) = g7 at hh7 fr7 t7_0 t7_1 t7_2 t7_3 t7_4 t7_5 t7_6 t7_7 t7_8 ⊢
    refine E_al rfl L3_0 ?_
    refine E_ci 4 rfl ci4 ?_
    refine E_al rfl L3_0 ?_
    refine E_ci 4 rfl ci4 ?_
    refine E_call rfl (Sp_le (by first | exact Nat.add_le_add_left (Nat.le_of_ble_eq_true rfl) _ | exact Nat.le_of_ble_eq_true rfl | omega) (sp_hasRead (d := 0) hh7 (by first | decide | with_reducible assumption | omega) rfl (by decide))) (chk77 hh7 rfl rfl (by show 2 ≤ 8; decide)) (fun h8 r8 => ?_)
    rintro ⟨e8, f8⟩
    rw [e8, f8]
    have b8 : gn g7 84 28 ≤ 8 := gn_hi hh7 rfl (by decide)
    show Ends _ _ (142, lv3, [.int (nJ (gn g7 84 28)), .int (nJ 4), .ref 77], g7, 0, 0) _
    refine E_ci 1 rfl ci1 ?_
    refine E_bin rfl (nJ_add _ _) ?_
    refine E_call rfl (Sp_le (by first | exact Nat.add_le_add_left (Nat.le_of_ble_eq_true rfl) _ | exact Nat.le_of_ble_eq_true rfl | omega) (sp_tells (d := 0) hh7 (by first | decide | with_reducible assumption | omega))) (chk77 hh7 rfl rfl (by show 0 ≤ 8; decide)) (fun h9 r9 => ?_)
    rintro ⟨e9, f9⟩
    have hh9 : HH (pt g7 84 28 (nJ (((gn g7 84 28) + 1)))) := HH_ptn hh7 rfl (by first | decide | with_reducible assumption | omega) (by first | decide | with_reducible assumption | omega) (by first | decide | with_reducible assumption | omega)
    have fr9 : fr_g JX h0 (pt g7 84 28 (nJ (((gn g7 84 28) + 1)))) := fr_ptr (l := 28) (u := 28) rfl (by first | decide | with_reducible assumption | omega) (by first | decide | with_reducible assumption | omega) fr7
    have t9_0 : gn (pt g7 84 28 (nJ (((gn g7 84 28) + 1)))) 77 6 = gn g7 77 6 := gn_ne (by first | exact gxx rfl | omega)
    have t9_1 : gn (pt g7 84 28 (nJ (((gn g7 84 28) + 1)))) 77 7 = gn g7 77 7 := gn_ne (by first | exact gxx rfl | omega)
    have t9_2 : gn (pt g7 84 28 (nJ (((gn g7 84 28) + 1)))) 77 8 = gn g7 77 8 := gn_ne (by first | exact gxx rfl | omega)
    have t9_3 : gn (pt g7 84 28 (nJ (((gn g7 84 28) + 1)))) 77 9 = gn g7 77 9 := gn_ne (by first | exact gxx rfl | omega)
    have t9_4 : gn (pt g7 84 28 (nJ (((gn g7 84 28) + 1)))) 77 12 = gn g7 77 12 := gn_ne (by first | exact gxx rfl | omega)
    have t9_5 : gn (pt g7 84 28 (nJ (((gn g7 84 28) + 1)))) 84 24 = gn g7 84 24 := gn_ne (by first | exact gxx rfl | omega)
    have t9_6 : gn (pt g7 84 28 (nJ (((gn g7 84 28) + 1)))) 84 27 = gn g7 84 27 := gn_ne (by first | exact gxx rfl | omega)
    have t9_7 : gn (pt g7 84 28 (nJ (((gn g7 84 28) + 1)))) 84 28 = ((gn g7 84 28) + 1) := gn_ptn hh7 rfl (by first | decide | with_reducible assumption | omega) (by first | decide | with_reducible assumption | omega) (by first | decide | with_reducible assumption | omega)
    have t9_8 : gn (pt g7 84 28 (nJ (((gn g7 84 28) + 1)))) 84 29 = gn g7 84 29 := gn_ne (by first | exact gxx rfl | omega)
    have u9 : ∀ k, gn (pt g7 84 28 (nJ (((gn g7 84 28) + 1)))) 85 k = gn g7 85 k := fun k => gn_ne (by first | exact gxx rfl | omega)
    have y9 : ∀ k, gn (pt g7 84 28 (nJ (((gn g7 84 28) + 1)))) 86 k = gn g7 86 k := fun k => gn_ne (by first | exact gxx rfl | omega)
    rw [e9, f9]
    show Ends _ _ (147, lv3, [], (pt g7 84 28 (nJ (((gn g7 84 28) + 1)))), 0, 0) _
    generalize hz9 : (pt g7 84 28 (nJ (((gn g7 84 28) + 1)))) = g9 at hh9 fr9 t9_0 t9_1 t9_2 t9_3 t9_4 t9_5 t9_6 t9_7 t9_8 u9 y9 ⊢
    have eO : ∀ k, k ≠ kk → k ≠ kk + 1 → gn g9 86 k = gn h0 86 k := fun k k1 k2 => by rw [y9, ← hz7, gn_ne (fun _ => k2), ← hz6, gn_ne (fun _ => k1)]; exact w86 k
    have eA : gn g9 86 kk = a := by rw [y9, ← hz7, gn_ne (by first | exact gxx rfl | omega), ← hz6, gn_ptn hh2 (bd_u rfl (by first | decide | with_reducible assumption | omega)) (by first | decide | with_reducible assumption | omega) (by first | decide | with_reducible assumption | omega) (by first | decide | with_reducible assumption | omega)]
    have eB : gn g9 86 (kk + 1) = v2 := by rw [y9, ← hz7, gn_ptn hh6 (bd_u rfl (by first | decide | with_reducible assumption | omega)) (by first | decide | with_reducible assumption | omega) (by first | decide | with_reducible assumption | omega) (by first | decide | with_reducible assumption | omega)]
    have e28 : gn g9 84 28 = gn h0 84 28 + 1 := by omega
    refine E_ret rfl ⟨rfl, ⟨hh9, by omega, by omega, by omega⟩, fr9, by omega, ⟨by omega, fun i hi => ?_, ?_⟩⟩
    · rw [e28] at hi
      by_cases e : i = gn h0 84 28
      · rw [e, ← hkk, eA, eB]; exact ⟨ha1, by omega⟩
      · rw [eO _ (by first | decide | with_reducible assumption | omega) (by first | decide | with_reducible assumption | omega), eO _ (by first | decide | with_reducible assumption | omega) (by first | decide | with_reducible assumption | omega)]; exact hJ.2.1 i (by first | decide | with_reducible assumption | omega)
    · rw [e28]
      show rc (mg (bk (gn g9 86) (gn h0 84 28)) (gn g9 86 (64 + 2 * gn h0 84 28)) (gn g9 86 (64 + 2 * gn h0 84 28 + 1))) + (gn h0 84 28 + 1) = 9
      rw [bk_eq (e := gn h0 86) (fun i hi => eO i (by first | decide | with_reducible assumption | omega) (by first | decide | with_reducible assumption | omega)), ← hkk, eA, eB]
      omega
  · refine E_ifF rfl (decide_eq_false (fun q => hb5 ((nJ_eq0 (by first | decide | with_reducible assumption | omega)).mp q))) ?_
    refine E_ret rfl ⟨rfl, ⟨hh2, by omega, by omega, by omega⟩, fr2, by omega, ?_⟩
    have w86 : gn h2 86 = gn h0 86 := funext (fun k => by rw [fr_gn fq2 (rg_no rfl _)]; exact e86 k)
    have w28 : gn h2 84 28 = gn h0 84 28 := by omega
    unfold JN
    rw [w86, w28]
    exact hJ
theorem sp_joinLine {h0 : pm_H} {d : Nat} (hh0 : HH h0) (hr1 : gn h0 77 9 ≤ gn h0 77 7) (hr2 : gn h0 77 7 ≤ gn h0 77 6) (hr3 : gn h0 77 8 = 0 ∨ gn h0 77 9 < gn h0 77 7) (hJ : JN h0) : Sp (d + 8) 282 h0 [.ref 77] (fun h' r => r = none ∧ RR h' ∧ fr_g JX h0 h' ∧ gn h0 77 9 ≤ gn h' 77 9 ∧ JN h') := by
  refine Sp_of aiX9_joinLine rfl rfl rfl ?_
  have L0 : pm_get (lv_args 0 [.ref 77]) 0 = some (.ref 77) := rfl
  generalize lv_args 0 [.ref 77] = lv at L0 ⊢
  have h5 := b500 hh0
  refine E_ci 2 rfl ci2 ?_
  refine E_ci 32 rfl ci32 ?_
  refine E_al rfl L0 ?_
  refine E_ci 4 rfl ci4 ?_
  refine E_call rfl (Sp_le (by first | exact Nat.add_le_add_left (Nat.le_of_ble_eq_true rfl) _ | exact Nat.le_of_ble_eq_true rfl | omega) (sp_hasRead (d := 0) hh0 (by first | decide | with_reducible assumption | omega) rfl (by decide))) (chk77 hh0 rfl rfl (by show 2 ≤ 8; decide)) (fun h1 r1 => ?_)
  rintro ⟨e1, f1⟩
  rw [e1, f1]
  have b1 : gn h0 84 28 ≤ 8 := gn_hi hh0 rfl (by decide)
  show Ends _ _ (8, lv, [.int (nJ (gn h0 84 28)), .int (nJ 32), .int (nJ 2)], h0, 0, 0) _
  refine E_ci 7 rfl ci7 ?_
  refine E_call rfl (Sp_le (by first | exact Nat.add_le_add_left (Nat.le_of_ble_eq_true rfl) _ | exact Nat.le_of_ble_eq_true rfl | omega) (sp_lessOf (d := 0) (by first | decide | with_reducible assumption | omega) (by first | decide | with_reducible assumption | omega))) (chkS rfl (by show 2 ≤ 8; decide)) (fun h2 r2 => ?_)
  rintro ⟨e2, f2⟩
  rw [e2, f2]
  show Ends _ _ (13, lv, [.int (nJ (min ((gn h0 84 28)) 7)), .int (nJ 32), .int (nJ 2)], h0, 0, 0) _
  refine E_bin rfl (nJ_add _ _) ?_
  refine E_bin rfl (nJ_mul _ _) ?_
  refine E_is rfl (fun lv3 L3_1 kp3 => ?_)
  have L3_0 := kp3 0 _ (nbz rfl) rfl L0
  refine E_al rfl L3_0 ?_
  refine E_ci 1 rfl ci1 ?_
  refine E_al rfl L3_0 ?_
  refine E_ci 0 rfl ci0 ?_
  refine E_call rfl (Sp_le (by first | exact Nat.add_le_add_left (Nat.le_of_ble_eq_true rfl) _ | exact Nat.le_of_ble_eq_true rfl | omega) (sp_hasRead (d := 0) hh0 (by first | decide | with_reducible assumption | omega) rfl (by decide))) (chk77 hh0 rfl rfl (by show 2 ≤ 8; decide)) (fun h4 r4 => ?_)
  rintro ⟨e4, f4⟩
  rw [e4, f4]
  have b4 : gn h0 84 24 ≤ 8 := gn_hi hh0 rfl (by decide)
  show Ends _ _ (23, lv3, [.int (nJ (gn h0 84 24)), .int (nJ 1), .ref 77], h0, 0, 0) _
  refine E_ci 1 rfl ci1 ?_
  refine E_bin rfl (nJ_add _ _) ?_
  refine E_call rfl (Sp_le (by first | exact Nat.add_le_add_left (Nat.le_of_ble_eq_true rfl) _ | exact Nat.le_of_ble_eq_true rfl | omega) (sp_number (d := 0) hh0 (by first | decide | with_reducible assumption | omega) (by first | decide | with_reducible assumption | omega) (by first | decide | with_reducible assumption | omega) (by first | decide | with_reducible assumption | omega) (by first | decide | with_reducible assumption | omega))) (chk77 hh0 rfl rfl (by show 0 ≤ 8; decide)) (fun h5 r5 => ?_)
  rintro ⟨⟨hh5, ra5, rb5, rc5⟩, fq5, mo5, v5, va5, vb5, f5, vc5⟩
  rw [f5]
  have fr5 : fr_g JX h0 h5 := fr_trans (fr_rf JX h0) (fr_wk rfl fq5)
  have t5_0 : gn h5 77 6 = gn h0 77 6 := fr_gn fq5 rfl
  have t5_5 : gn h5 84 24 = gn h0 84 24 := fr_gn fq5 rfl
  have t5_6 : gn h5 84 27 = gn h0 84 27 := fr_gn fq5 rfl
  have t5_7 : gn h5 84 28 = gn h0 84 28 := fr_gn fq5 rfl
  have t5_8 : gn h5 84 29 = gn h0 84 29 := fr_gn fq5 rfl
  show Ends _ _ (28, lv3, [.int (nJ v5)], h5, 0, 0) _
  refine E_is rfl (fun lv6 L6_2 kp6 => ?_)
  have L6_0 := kp6 0 _ (nbz rfl) rfl L3_0
  have L6_1 := kp6 1 _ (nbz rfl) rfl L3_1
  refine E_al rfl L6_0 ?_
  refine E_ci 4 rfl ci4 ?_
  refine E_al rfl L6_0 ?_
  refine E_ci 4 rfl ci4 ?_
  refine E_call rfl (Sp_le (by first | exact Nat.add_le_add_left (Nat.le_of_ble_eq_true rfl) _ | exact Nat.le_of_ble_eq_true rfl | omega) (sp_hasRead (d := 0) hh5 (by first | decide | with_reducible assumption | omega) rfl (by decide))) (chk77 hh5 rfl rfl (by show 2 ≤ 8; decide)) (fun h7 r7 => ?_)
  rintro ⟨e7, f7⟩
  rw [e7, f7]
  have b7 : gn h5 84 28 ≤ 8 := gn_hi hh5 rfl (by decide)
  show Ends _ _ (36, lv6, [.int (nJ (gn h5 84 28)), .int (nJ 4), .ref 77], h5, 0, 0) _
  refine E_call rfl (Sp_le (by first | exact Nat.add_le_add_left (Nat.le_of_ble_eq_true rfl) _ | exact Nat.le_of_ble_eq_true rfl | omega) (sp_laysBlocks4 (d := 0) hh5 (by first | decide | with_reducible assumption | omega))) (chk77 hh5 rfl rfl (by show 0 ≤ 8; decide)) (fun h8 r8 => ?_)
  rintro ⟨e8, hh8, fq8, cq8⟩
  rw [e8]
  have fr8 : fr_g JX h0 h8 := fr_trans fr5 (fr_wk rfl fq8)
  have t8_0 : gn h8 77 6 = gn h5 77 6 := fr_gn fq8 rfl
  have t8_1 : gn h8 77 7 = gn h5 77 7 := fr_gn fq8 rfl
  have t8_2 : gn h8 77 8 = gn h5 77 8 := fr_gn fq8 rfl
  have t8_3 : gn h8 77 9 = gn h5 77 9 := fr_gn fq8 rfl
  have t8_4 : gn h8 77 12 = gn h5 77 12 := fr_gn fq8 rfl
  have t8_5 : gn h8 84 24 = gn h5 84 24 := fr_gn fq8 rfl
  have t8_6 : gn h8 84 27 = gn h5 84 27 := fr_gn fq8 rfl
  have t8_7 : gn h8 84 28 = gn h5 84 28 := fr_gn fq8 rfl
  have t8_8 : gn h8 84 29 = gn h5 84 29 := fr_gn fq8 rfl
  have z86 : gn h5 86 = gn h0 86 := funext (fun k => fr_gn fq5 (rg_no rfl _))
  have z28 : gn h5 84 28 = gn h0 84 28 := by omega
  rw [z86, z28] at cq8
  have y86 : ∀ k, gn h8 86 k = gn h0 86 k := fun k => by rw [fr_gn fq8 (rg_no rfl _), z86]
  show Ends _ _ (39, lv6, [], h8, 0, 0) _
  refine E_al rfl L6_0 ?_
  have b9 : gn h8 77 12 ≤ 3 := gn_hi hh8 rfl (by decide)
  refine E_gf rfl hh8 rfl (gi_gn hh8 rfl (by decide)) ?_
  by_cases hb10 : ¬ (gn h8 77 12) = 0
  · refine E_ifT rfl (decide_eq_true (fun q => hb10 ((nJ_eq0 (by first | decide | with_reducible assumption | omega)).mp q))) ?_
    refine jl_tail hh0 hJ lv6 hh8 (by first | decide | with_reducible assumption | omega) (by first | decide | with_reducible assumption | omega) (by first | decide | with_reducible assumption | omega) (by first | decide | with_reducible assumption | omega) fr8 (by first | decide | with_reducible assumption | omega) (by first | decide | with_reducible assumption | omega) y86 rfl (by first | decide | with_reducible assumption | omega) (by first | decide | with_reducible assumption | omega) (fun q => absurd q hb10) L6_0 L6_1 L6_2
  · refine E_ifF rfl (decide_eq_false (fun q => hb10 (fun z => q ((nJ_eq0 (by first | decide | with_reducible assumption | omega)).mpr z)))) ?_
    refine E_al rfl L6_0 ?_
    have b11 : gn h8 77 8 ≤ 4 := gn_hi hh8 rfl (by decide)
    refine E_gf rfl hh8 rfl (gi_gn hh8 rfl (by decide)) ?_
    refine E_ci 2 rfl ci2 ?_
    by_cases hb12 : ¬ (gn h8 77 8) = 2
    · refine E_icT rfl (decide_eq_true (fun q => hb12 ((nJ_eq (by first | decide | with_reducible assumption | omega) (by first | decide | with_reducible assumption | omega)).mp q))) ?_
      refine jl_tail hh0 hJ lv6 hh8 (by first | decide | with_reducible assumption | omega) (by first | decide | with_reducible assumption | omega) (by first | decide | with_reducible assumption | omega) (by first | decide | with_reducible assumption | omega) fr8 (by first | decide | with_reducible assumption | omega) (by first | decide | with_reducible assumption | omega) y86 rfl (by first | decide | with_reducible assumption | omega) (by first | decide | with_reducible assumption | omega) (fun _ q => absurd q (by first | decide | with_reducible assumption | omega)) L6_0 L6_1 L6_2
    · refine E_icF rfl (decide_eq_false (fun q => hb12 (fun z => q ((nJ_eq (by first | decide | with_reducible assumption | omega) (by first | decide | with_reducible assumption | omega)).mpr z)))) ?_
      refine E_al rfl L6_0 ?_
      refine E_gf rfl hh8 rfl (rfl) ?_
      refine E_i2l rfl ?_
      refine E_c rfl ?_
      refine E_al rfl L6_0 ?_
      refine E_ci 0 rfl ci0 ?_
      refine E_call rfl (Sp_le (by first | exact Nat.add_le_add_left (Nat.le_of_ble_eq_true rfl) _ | exact Nat.le_of_ble_eq_true rfl | omega) (sp_hasRead (d := 0) hh8 (by first | decide | with_reducible assumption | omega) rfl (by decide))) (chk77 hh8 rfl rfl (by show 4 ≤ 8; decide)) (fun h13 r13 => ?_)
      rintro ⟨e13, f13⟩
      rw [e13, f13]
      have b13 : gn h8 84 24 ≤ 8 := gn_hi hh8 rfl (by decide)
      show Ends _ _ (65, lv6, [.int (nJ (gn h8 84 24)), .long (1), .long ((gi h8 77 10)).toInt64], h8, 0, 0) _
      refine E_i2l rfl ?_
      refine E_c rfl ?_
      refine E_lbin rfl ?_
      refine E_call rfl (sp_in (a := ((gi h8 77 10)).toInt) (b := 1) (c := (((((gn h8 84 24)) : Nat) : Int) + 1)) (i2l_toInt _) rfl (i2l_add1 (by first | decide | with_reducible assumption | omega))) (chkS rfl (by show 0 ≤ 8; decide)) (fun h14 r14 => ?_)
      rintro ⟨e14, f14⟩
      rw [e14, f14]
      show Ends _ _ (71, lv6, [.int (zb (1 ≤ ((gi h8 77 10)).toInt ∧ ((gi h8 77 10)).toInt ≤ (((((gn h8 84 24)) : Nat) : Int) + 1)))], h8, 0, 0) _
      by_cases hb15 : ¬ (1 ≤ ((gi h8 77 10)).toInt ∧ ((gi h8 77 10)).toInt ≤ (((((gn h8 84 24)) : Nat) : Int) + 1))
      · refine E_ifT rfl (by rw [zb_F hb15]; rfl) ?_
        refine jl_tail hh0 hJ lv6 hh8 (by first | decide | with_reducible assumption | omega) (by first | decide | with_reducible assumption | omega) (by first | decide | with_reducible assumption | omega) (by first | decide | with_reducible assumption | omega) fr8 (by first | decide | with_reducible assumption | omega) (by first | decide | with_reducible assumption | omega) y86 rfl (by first | decide | with_reducible assumption | omega) (by first | decide | with_reducible assumption | omega) (fun _ _ b b1 b2 e => absurd ⟨(by rw [e, nJ_toInt (by first | decide | with_reducible assumption | omega)]; omega), (by rw [e, nJ_toInt (by first | decide | with_reducible assumption | omega)]; omega)⟩ hb15) L6_0 L6_1 L6_2
      · refine E_ifF rfl (by rw [zb_T (Classical.not_not.mp hb15)]; rfl) ?_
        have hin := Classical.not_not.mp hb15
        obtain ⟨b9, hb9, hbe⟩ := nJ_of2 (n := gn h8 84 24 + 1) (x := gi h8 77 10) (by first | decide | with_reducible assumption | omega) (by have := hin.2; omega)
        have hb1 : 1 ≤ b9 := by have h9 := hin.1; rw [hbe, nJ_toInt (by first | decide | with_reducible assumption | omega)] at h9; omega
        refine E_al rfl L6_0 ?_
        refine E_il rfl L6_2 ?_
        refine E_al rfl L6_0 ?_
        refine E_gf rfl hh8 rfl (show gi h8 77 10 = nJ b9 from hbe) ?_
        refine E_al rfl L6_0 ?_
        refine E_ci 0 rfl ci0 ?_
        refine E_call rfl (Sp_le (by first | exact Nat.add_le_add_left (Nat.le_of_ble_eq_true rfl) _ | exact Nat.le_of_ble_eq_true rfl | omega) (sp_hasRead (d := 0) hh8 (by first | decide | with_reducible assumption | omega) rfl (by decide))) (chk77 hh8 rfl rfl (by show 3 ≤ 8; decide)) (fun h16 r16 => ?_)
        rintro ⟨e16, f16⟩
        rw [e16, f16]
        have b16 : gn h8 84 24 ≤ 8 := gn_hi hh8 rfl (by decide)
        show Ends _ _ (85, lv6, [.int (nJ (gn h8 84 24)), .int (nJ b9), .int (nJ v5), .ref 77], h8, 0, 0) _
        refine E_ci 1 rfl ci1 ?_
        refine E_bin rfl (nJ_add _ _) ?_
        refine E_call rfl (Sp_le (by first | exact Nat.add_le_add_left (Nat.le_of_ble_eq_true rfl) _ | exact Nat.le_of_ble_eq_true rfl | omega) (sp_mayJoin (d := 0) hh8 (by first | decide | with_reducible assumption | omega) (by first | decide | with_reducible assumption | omega) (by first | decide | with_reducible assumption | omega) (by first | decide | with_reducible assumption | omega) (by first | decide | with_reducible assumption | omega) (by first | decide | with_reducible assumption | omega))) (chk77 hh8 rfl rfl (by show 0 ≤ 8; decide)) (fun h17 r17 => ?_)
        rintro ⟨hh17, fq17, f17⟩
        have fr17 : fr_g JX h0 h17 := fr_trans fr8 (fr_wk rfl fq17)
        have t17_0 : gn h17 77 6 = gn h8 77 6 := fr_gn fq17 rfl
        have t17_1 : gn h17 77 7 = gn h8 77 7 := fr_gn fq17 rfl
        have t17_2 : gn h17 77 8 = gn h8 77 8 := fr_gn fq17 rfl
        have t17_3 : gn h17 77 9 = gn h8 77 9 := fr_gn fq17 rfl
        have t17_4 : gn h17 77 12 = gn h8 77 12 := fr_gn fq17 rfl
        have t17_5 : gn h17 84 24 = gn h8 84 24 := fr_gn fq17 rfl
        have t17_6 : gn h17 84 27 = gn h8 84 27 := fr_gn fq17 rfl
        have t17_7 : gn h17 84 28 = gn h8 84 28 := fr_gn fq17 rfl
        have t17_8 : gn h17 84 29 = gn h8 84 29 := fr_gn fq17 rfl
        have v86 : ∀ k, gn h17 86 k = gn h0 86 k := fun k => by rw [fr_gn fq17 rfl]; exact y86 k
        have v10 : gi h17 77 10 = nJ b9 := by rw [fr_gi fq17 rfl]; exact hbe
        rcases f17 with f17 | ⟨f17, ne17⟩
        · rw [f17]
          show Ends _ _ (90, lv6, [.int (nJ 0)], h17, 0, 0) _
          refine E_ifF rfl (by decide) ?_
          refine E_al rfl L6_0 ?_
          refine E_ci 2 rfl ci2 ?_
          refine E_call rfl (Sp_le (by first | exact Nat.add_le_add_left (Nat.le_of_ble_eq_true rfl) _ | exact Nat.le_of_ble_eq_true rfl | omega) (sp_fails (d := 0) (k := 2) hh17 (by first | decide | with_reducible assumption | omega) (by first | decide | with_reducible assumption | omega))) (chk77 hh17 rfl rfl (by show 0 ≤ 8; decide)) (fun h18 r18 => ?_)
          rintro ⟨e18, hh18, fq18, mo18⟩
          rw [e18]
          have fr18 : fr_g JX h0 h18 := fr_trans fr17 (fr_wk rfl fq18)
          have t18_0 : gn h18 77 6 = gn h17 77 6 := fr_gn fq18 rfl
          have t18_1 : gn h18 77 7 = gn h17 77 7 := fr_gn fq18 rfl
          have t18_2 : gn h18 77 8 = gn h17 77 8 := fr_gn fq18 rfl
          have t18_3 : gn h18 77 9 = gn h17 77 9 := fr_gn fq18 rfl
          have t18_5 : gn h18 84 24 = gn h17 84 24 := fr_gn fq18 rfl
          have t18_6 : gn h18 84 27 = gn h17 84 27 := fr_gn fq18 rfl
          have t18_7 : gn h18 84 28 = gn h17 84 28 := fr_gn fq18 rfl
          have t18_8 : gn h18 84 29 = gn h17 84 29 := fr_gn fq18 rfl
          show Ends _ _ (98, lv6, [], h18, 0, 0) _
          have x86 : ∀ k, gn h18 86 k = gn h0 86 k := fun k => by rw [fr_gn fq18 (rg_no rfl _)]; exact v86 k
          refine jl_tail hh0 hJ lv6 hh18 (by first | decide | with_reducible assumption | omega) (by first | decide | with_reducible assumption | omega) (by first | decide | with_reducible assumption | omega) (by first | decide | with_reducible assumption | omega) fr18 (by first | decide | with_reducible assumption | omega) (by first | decide | with_reducible assumption | omega) x86 rfl (by first | decide | with_reducible assumption | omega) (by first | decide | with_reducible assumption | omega) (fun q => absurd q mo18) L6_0 L6_1 L6_2
        · rw [f17]
          show Ends _ _ (90, lv6, [.int (nJ 1)], h17, 0, 0) _
          refine E_ifT rfl (by decide) ?_
          refine jl_tail hh0 hJ lv6 hh17 (by first | decide | with_reducible assumption | omega) (by first | decide | with_reducible assumption | omega) (by first | decide | with_reducible assumption | omega) (by first | decide | with_reducible assumption | omega) fr17 (by first | decide | with_reducible assumption | omega) (by first | decide | with_reducible assumption | omega) v86 rfl (by first | decide | with_reducible assumption | omega) (by first | decide | with_reducible assumption | omega) (fun _ _ b b1 b2 e => ?_) L6_0 L6_1 L6_2
          rw [v10] at e
          have hbb : b9 = b := (nJ_eq (by first | decide | with_reducible assumption | omega) (by first | decide | with_reducible assumption | omega)).mp e
          subst hbb
          rw [← cq8 _ (by first | decide | with_reducible assumption | omega), ← cq8 _ (by first | decide | with_reducible assumption | omega)]
          exact ne17
noncomputable def W4 (h : pm_H) : Prop := gn h 84 27 ≤ gn h 84 24 ∧ (∀ c, c < gn h 84 27 → 1 ≤ gn h 85 (64 + 2 * c)) ∧ JN h ∧ gn h 84 29 = 0
theorem JN_eq {h h' : pm_H} (h1 : gn h' 84 28 = gn h 84 28) (h2 : ∀ k, gn h' 86 k = gn h 86 k) (J : JN h) : JN h' := by
  have e : gn h' 86 = gn h 86 := funext h2
  unfold JN at J ⊢
  rw [h1, e]
  exact J
theorem W4_eq {h h' : pm_H} (h1 : ∀ k, gn h' 84 k = gn h 84 k) (h2 : ∀ k, gn h' 85 k = gn h 85 k) (h3 : ∀ k, gn h' 86 k = gn h 86 k) (W : W4 h) : W4 h' := by
  obtain ⟨w1, w2, w3, w4⟩ := W
  refine ⟨by rw [h1, h1]; exact w1, fun c hc => ?_, JN_eq (h1 28) h3 w3, by rw [h1]; exact w4⟩
  rw [h1] at hc
  rw [h2]
  exact w2 c hc
theorem W4_fr {M : List Rng} {h h' : pm_H} (hM : M.all (fun r => !(Nat.beq r.1 84) && (!(Nat.beq r.1 85) && !(Nat.beq r.1 86))) = true) (hf : fr_g M h h') (W : W4 h) : W4 h' := by
  have hm : ∀ a, (a = 84 ∨ a = 85 ∨ a = 86) → ∀ k, gn h' a k = gn h a k := fun a ha k => fr_gn hf (rg_no (List.all_eq_true.mpr fun q hq => by
    have := List.all_eq_true.mp hM q hq
    simp only [Bool.and_eq_true] at this
    rcases ha with rfl | rfl | rfl
    · exact this.1
    · exact this.2.1
    · exact this.2.2) k)
  exact W4_eq (hm 84 (.inl rfl)) (hm 85 (.inr (.inl rfl))) (hm 86 (.inr (.inr rfl))) W
noncomputable def LX : List Rng := [(77, 7, 13), (85, 64, 79), (84, 27, 28), (86, 64, 79), (101, 0, 9)]
theorem sp_lineHere {h0 : pm_H} {d : Nat} (hh0 : HH h0) (hr1 : gn h0 77 9 ≤ gn h0 77 7) (hr2 : gn h0 77 7 ≤ gn h0 77 6) (hr3 : gn h0 77 8 = 0 ∨ gn h0 77 9 < gn h0 77 7) (hW : W4 h0) : Sp (d + 10) 304 h0 [.ref 77] (fun h' r => r = none ∧ RR h' ∧ fr_g LX h0 h' ∧ gn h0 77 9 ≤ gn h' 77 9 ∧ W4 h') := by
  refine Sp_of aiX9_lineHere rfl rfl rfl ?_
  have L0 : pm_get (lv_args 0 [.ref 77]) 0 = some (.ref 77) := rfl
  generalize lv_args 0 [.ref 77] = lv at L0 ⊢
  have h5 := b500 hh0
  refine E_al rfl L0 ?_
  refine E_c rfl ?_
  refine E_call rfl (Sp_le (by first | exact Nat.add_le_add_left (Nat.le_of_ble_eq_true rfl) _ | exact Nat.le_of_ble_eq_true rfl | omega) (sp_is (d := 0) hh0)) (chk77 hh0 rfl rfl (by show 0 ≤ 8; decide)) (fun h1 r1 => ?_)
  rintro ⟨e1, f1⟩
  rw [e1]
  rcases f1 with f1 | ⟨f1, ib1, it1⟩
  · rw [f1]
    show Ends _ _ (7, lv, [.int (nJ 0)], h0, 0, 0) _
    refine E_ifT rfl (by decide) ?_
    refine E_al rfl L0 ?_
    refine E_c rfl ?_
    refine E_call rfl (Sp_le (by first | exact Nat.add_le_add_left (Nat.le_of_ble_eq_true rfl) _ | exact Nat.le_of_ble_eq_true rfl | omega) (sp_is (d := 0) hh0)) (chk77 hh0 rfl rfl (by show 0 ≤ 8; decide)) (fun h2 r2 => ?_)
    rintro ⟨e2, f2⟩
    rw [e2]
    rcases f2 with f2 | ⟨f2, ib2, it2⟩
    · rw [f2]
      show Ends _ _ (54, lv, [.int (nJ 0)], h0, 0, 0) _
      refine E_ifT rfl (by decide) ?_
      refine E_al rfl L0 ?_
      refine E_ci 1 rfl ci1 ?_
      refine E_call rfl (Sp_le (by first | exact Nat.add_le_add_left (Nat.le_of_ble_eq_true rfl) _ | exact Nat.le_of_ble_eq_true rfl | omega) (sp_fails (d := 0) (k := 1) hh0 (by first | decide | with_reducible assumption | omega) (by first | decide | with_reducible assumption | omega))) (chk77 hh0 rfl rfl (by show 0 ≤ 8; decide)) (fun h3 r3 => ?_)
      rintro ⟨e3, hh3, fq3, mo3⟩
      rw [e3]
      have fr3 : fr_g LX h0 h3 := fr_trans (fr_rf LX h0) (fr_wk rfl fq3)
      have t3_0 : gn h3 77 6 = gn h0 77 6 := fr_gn fq3 rfl
      have t3_1 : gn h3 77 7 = gn h0 77 7 := fr_gn fq3 rfl
      have t3_2 : gn h3 77 8 = gn h0 77 8 := fr_gn fq3 rfl
      have t3_3 : gn h3 77 9 = gn h0 77 9 := fr_gn fq3 rfl
      have t3_5 : gn h3 84 24 = gn h0 84 24 := fr_gn fq3 rfl
      have t3_6 : gn h3 84 27 = gn h0 84 27 := fr_gn fq3 rfl
      show Ends _ _ (73, lv, [], h3, 0, 0) _
      have wy3 : W4 h3 := W4_fr rfl fq3 hW
      exact E_ret rfl ⟨rfl, ⟨hh3, by omega, by omega, by omega⟩, fr3, by omega, wy3⟩
    · rw [f2]
      show Ends _ _ (54, lv, [.int (nJ 1)], h0, 0, 0) _
      refine E_ifF rfl (by decide) ?_
      refine E_al rfl L0 ?_
      refine E_call rfl (Sp_le (by first | exact Nat.add_le_add_left (Nat.le_of_ble_eq_true rfl) _ | exact Nat.le_of_ble_eq_true rfl | omega) (sp_follows (d := 0) hh0 (by first | decide | with_reducible assumption | omega))) (chk77 hh0 rfl rfl (by show 0 ≤ 8; decide)) (fun h4 r4 => ?_)
      rintro ⟨e4, ⟨hh4, ra4, rb4, rc4⟩, fq4, mo4⟩
      rw [e4]
      have fr4 : fr_g LX h0 h4 := fr_trans (fr_rf LX h0) (fr_wk rfl fq4)
      have t4_0 : gn h4 77 6 = gn h0 77 6 := fr_gn fq4 rfl
      have t4_4 : gn h4 77 12 = gn h0 77 12 := fr_gn fq4 rfl
      have t4_5 : gn h4 84 24 = gn h0 84 24 := fr_gn fq4 rfl
      have t4_6 : gn h4 84 27 = gn h0 84 27 := fr_gn fq4 rfl
      show Ends _ _ (61, lv, [], h4, 0, 0) _
      have wy4 : W4 h4 := W4_fr rfl fq4 hW
      refine E_al rfl L0 ?_
      refine E_call rfl (Sp_le (by first | exact Nat.add_le_add_left (Nat.le_of_ble_eq_true rfl) _ | exact Nat.le_of_ble_eq_true rfl | omega) (sp_joinLine (d := 0) hh4 (by first | decide | with_reducible assumption | omega) (by first | decide | with_reducible assumption | omega) (by first | decide | with_reducible assumption | omega) wy4.2.2.1)) (chk77 hh4 rfl rfl (by show 0 ≤ 8; decide)) (fun h5 r5 => ?_)
      rintro ⟨e5, ⟨hh5, ra5, rb5, rc5⟩, fq5, mo5, jn5⟩
      rw [e5]
      have fr5 : fr_g LX h0 h5 := fr_trans fr4 (fr_wk rfl fq5)
      have wy5 : W4 h5 := ⟨by rw [show gn h5 84 27 = gn h4 84 27 from fr_gn fq5 rfl, show gn h5 84 24 = gn h4 84 24 from fr_gn fq5 rfl]; exact wy4.1, fun c hc => by rw [show gn h5 84 27 = gn h4 84 27 from fr_gn fq5 rfl] at hc; rw [fr_gn fq5 (rg_no rfl _)]; exact wy4.2.1 c hc, jn5, by rw [show gn h5 84 29 = gn h4 84 29 from fr_gn fq5 rfl]; exact wy4.2.2.2⟩
      show Ends _ _ (65, lv, [], h5, 0, 0) _
      refine E_goto rfl ?_
      exact E_ret rfl ⟨rfl, ⟨hh5, by omega, by omega, by omega⟩, fr5, by omega, wy5⟩
  · rw [f1]
    show Ends _ _ (7, lv, [.int (nJ 1)], h0, 0, 0) _
    refine E_ifF rfl (by decide) ?_
    refine E_al rfl L0 ?_
    refine E_ci 3 rfl ci3 ?_
    refine E_call rfl (Sp_le (by first | exact Nat.add_le_add_left (Nat.le_of_ble_eq_true rfl) _ | exact Nat.le_of_ble_eq_true rfl | omega) (sp_hasRead (d := 0) hh0 (by first | decide | with_reducible assumption | omega) rfl (by decide))) (chk77 hh0 rfl rfl (by show 0 ≤ 8; decide)) (fun h6 r6 => ?_)
    rintro ⟨e6, f6⟩
    rw [e6, f6]
    have b6 : gn h0 84 27 ≤ 8 := gn_hi hh0 rfl (by decide)
    show Ends _ _ (15, lv, [.int (nJ (gn h0 84 27))], h0, 0, 0) _
    refine E_al rfl L0 ?_
    refine E_ci 0 rfl ci0 ?_
    refine E_call rfl (Sp_le (by first | exact Nat.add_le_add_left (Nat.le_of_ble_eq_true rfl) _ | exact Nat.le_of_ble_eq_true rfl | omega) (sp_hasRead (d := 0) hh0 (by first | decide | with_reducible assumption | omega) rfl (by decide))) (chk77 hh0 rfl rfl (by show 1 ≤ 8; decide)) (fun h7 r7 => ?_)
    rintro ⟨e7, f7⟩
    rw [e7, f7]
    have b7 : gn h0 84 24 ≤ 8 := gn_hi hh0 rfl (by decide)
    show Ends _ _ (20, lv, [.int (nJ (gn h0 84 24)), .int (nJ (gn h0 84 27))], h0, 0, 0) _
    by_cases hb8 : ¬ (gn h0 84 27) = (gn h0 84 24)
    · refine E_icT rfl (decide_eq_true (fun q => hb8 ((nJ_eq (by first | decide | with_reducible assumption | omega) (by first | decide | with_reducible assumption | omega)).mp q))) ?_
      refine E_al rfl L0 ?_
      have b9 : gn h0 77 12 ≤ 3 := gn_hi hh0 rfl (by decide)
      refine E_gf rfl hh0 rfl (gi_gn hh0 rfl (by decide)) ?_
      by_cases hb10 : (gn h0 77 12) = 0
      · refine E_ifT rfl (decide_eq_true ((nJ_eq0 (by first | decide | with_reducible assumption | omega)).mpr hb10)) ?_
        refine E_al rfl L0 ?_
        refine E_call rfl (Sp_le (by first | exact Nat.add_le_add_left (Nat.le_of_ble_eq_true rfl) _ | exact Nat.le_of_ble_eq_true rfl | omega) (sp_follows (d := 0) hh0 (by first | decide | with_reducible assumption | omega))) (chk77 hh0 rfl rfl (by show 0 ≤ 8; decide)) (fun h11 r11 => ?_)
        rintro ⟨e11, ⟨hh11, ra11, rb11, rc11⟩, fq11, mo11⟩
        rw [e11]
        have fr11 : fr_g LX h0 h11 := fr_trans (fr_rf LX h0) (fr_wk rfl fq11)
        have t11_0 : gn h11 77 6 = gn h0 77 6 := fr_gn fq11 rfl
        have t11_4 : gn h11 77 12 = gn h0 77 12 := fr_gn fq11 rfl
        have t11_5 : gn h11 84 24 = gn h0 84 24 := fr_gn fq11 rfl
        have t11_6 : gn h11 84 27 = gn h0 84 27 := fr_gn fq11 rfl
        show Ends _ _ (40, lv, [], h11, 0, 0) _
        have wy11 : W4 h11 := W4_fr rfl fq11 hW
        refine E_al rfl L0 ?_
        have wA := wy11.1
        refine E_call rfl (Sp_le (by first | exact Nat.add_le_add_left (Nat.le_of_ble_eq_true rfl) _ | exact Nat.le_of_ble_eq_true rfl | omega) (sp_carLine (d := 0) hh11 (by first | decide | with_reducible assumption | omega) (by first | decide | with_reducible assumption | omega) (by first | decide | with_reducible assumption | omega) (by first | decide | with_reducible assumption | omega) wy11.2.1)) (chk77 hh11 rfl rfl (by show 0 ≤ 8; decide)) (fun h12 r12 => ?_)
        rintro ⟨e12, ⟨hh12, ra12, rb12, rc12⟩, fq12, mo12, ca12, cb12⟩
        rw [e12]
        have fr12 : fr_g LX h0 h12 := fr_trans fr11 (fr_wk rfl fq12)
        have wy12 : W4 h12 := ⟨by rw [ca12, show gn h12 84 24 = gn h11 84 24 from fr_gn fq12 rfl]; omega, fun c hc => cb12 c (by rw [← ca12]; exact hc), JN_eq (fr_gn fq12 rfl) (fun k => fr_gn fq12 (rg_no rfl _)) wy11.2.2.1, by rw [show gn h12 84 29 = gn h11 84 29 from fr_gn fq12 rfl]; exact wy11.2.2.2⟩
        show Ends _ _ (44, lv, [], h12, 0, 0) _
        refine E_goto rfl ?_
        exact E_ret rfl ⟨rfl, ⟨hh12, by omega, by omega, by omega⟩, fr12, by omega, wy12⟩
      · refine E_ifF rfl (decide_eq_false (fun q => hb10 ((nJ_eq0 (by first | decide | with_reducible assumption | omega)).mp q))) ?_
        exact E_ret rfl ⟨rfl, ⟨hh0, by omega, by omega, by omega⟩, (fr_rf LX h0), by omega, hW⟩
    · refine E_icF rfl (decide_eq_false (fun q => hb8 (fun z => q ((nJ_eq (by first | decide | with_reducible assumption | omega) (by first | decide | with_reducible assumption | omega)).mpr z)))) ?_
      refine E_al rfl L0 ?_
      refine E_ci 3 rfl ci3 ?_
      refine E_call rfl (Sp_le (by first | exact Nat.add_le_add_left (Nat.le_of_ble_eq_true rfl) _ | exact Nat.le_of_ble_eq_true rfl | omega) (sp_fails (d := 0) (k := 3) hh0 (by first | decide | with_reducible assumption | omega) (by first | decide | with_reducible assumption | omega))) (chk77 hh0 rfl rfl (by show 0 ≤ 8; decide)) (fun h13 r13 => ?_)
      rintro ⟨e13, hh13, fq13, mo13⟩
      rw [e13]
      have fr13 : fr_g LX h0 h13 := fr_trans (fr_rf LX h0) (fr_wk rfl fq13)
      have t13_0 : gn h13 77 6 = gn h0 77 6 := fr_gn fq13 rfl
      have t13_1 : gn h13 77 7 = gn h0 77 7 := fr_gn fq13 rfl
      have t13_2 : gn h13 77 8 = gn h0 77 8 := fr_gn fq13 rfl
      have t13_3 : gn h13 77 9 = gn h0 77 9 := fr_gn fq13 rfl
      have t13_5 : gn h13 84 24 = gn h0 84 24 := fr_gn fq13 rfl
      have t13_6 : gn h13 84 27 = gn h0 84 27 := fr_gn fq13 rfl
      show Ends _ _ (28, lv, [], h13, 0, 0) _
      have wy13 : W4 h13 := W4_fr rfl fq13 hW
      refine E_al rfl L0 ?_
      have b14 : gn h13 77 12 ≤ 3 := gn_hi hh13 rfl (by decide)
      refine E_gf rfl hh13 rfl (gi_gn hh13 rfl (by decide)) ?_
      by_cases hb15 : (gn h13 77 12) = 0
      · refine E_ifT rfl (decide_eq_true ((nJ_eq0 (by first | decide | with_reducible assumption | omega)).mpr hb15)) ?_
        refine E_al rfl L0 ?_
        refine E_call rfl (Sp_le (by first | exact Nat.add_le_add_left (Nat.le_of_ble_eq_true rfl) _ | exact Nat.le_of_ble_eq_true rfl | omega) (sp_follows (d := 0) hh13 (by first | decide | with_reducible assumption | omega))) (chk77 hh13 rfl rfl (by show 0 ≤ 8; decide)) (fun h16 r16 => ?_)
        rintro ⟨e16, ⟨hh16, ra16, rb16, rc16⟩, fq16, mo16⟩
        rw [e16]
        have fr16 : fr_g LX h0 h16 := fr_trans fr13 (fr_wk rfl fq16)
        have t16_0 : gn h16 77 6 = gn h13 77 6 := fr_gn fq16 rfl
        have t16_4 : gn h16 77 12 = gn h13 77 12 := fr_gn fq16 rfl
        have t16_5 : gn h16 84 24 = gn h13 84 24 := fr_gn fq16 rfl
        have t16_6 : gn h16 84 27 = gn h13 84 27 := fr_gn fq16 rfl
        show Ends _ _ (40, lv, [], h16, 0, 0) _
        have wy16 : W4 h16 := W4_fr rfl fq16 wy13
        refine E_al rfl L0 ?_
        have wA := wy16.1
        refine E_call rfl (Sp_le (by first | exact Nat.add_le_add_left (Nat.le_of_ble_eq_true rfl) _ | exact Nat.le_of_ble_eq_true rfl | omega) (sp_carLine (d := 0) hh16 (by first | decide | with_reducible assumption | omega) (by first | decide | with_reducible assumption | omega) (by first | decide | with_reducible assumption | omega) (by first | decide | with_reducible assumption | omega) wy16.2.1)) (chk77 hh16 rfl rfl (by show 0 ≤ 8; decide)) (fun h17 r17 => ?_)
        rintro ⟨e17, ⟨hh17, ra17, rb17, rc17⟩, fq17, mo17, ca17, cb17⟩
        rw [e17]
        have fr17 : fr_g LX h0 h17 := fr_trans fr16 (fr_wk rfl fq17)
        have wy17 : W4 h17 := ⟨by rw [ca17, show gn h17 84 24 = gn h16 84 24 from fr_gn fq17 rfl]; omega, fun c hc => cb17 c (by rw [← ca17]; exact hc), JN_eq (fr_gn fq17 rfl) (fun k => fr_gn fq17 (rg_no rfl _)) wy16.2.2.1, by rw [show gn h17 84 29 = gn h16 84 29 from fr_gn fq17 rfl]; exact wy16.2.2.2⟩
        show Ends _ _ (44, lv, [], h17, 0, 0) _
        refine E_goto rfl ?_
        exact E_ret rfl ⟨rfl, ⟨hh17, by omega, by omega, by omega⟩, fr17, by omega, wy17⟩
      · refine E_ifF rfl (decide_eq_false (fun q => hb15 ((nJ_eq0 (by first | decide | with_reducible assumption | omega)).mp q))) ?_
        exact E_ret rfl ⟨rfl, ⟨hh13, by omega, by omega, by omega⟩, fr13, by omega, wy13⟩
end
section
/-! by hand: calls that change a row (written by gen_t18.py) -/
noncomputable def VM : List Rng := [(77, 0, 5), (77, 7, 13), (77, 16, 44), (83, 0, 4), (84, 0, 29), (85, 0, 79), (86, 0, 79), (87, 0, 299), (89, 0, 7), (90, 0, 9), (91, 0, 7), (92, 0, 8), (93, 0, 8), (94, 0, 8), (95, 0, 7), (96, 0, 17), (97, 0, 7), (98, 0, 8), (99, 0, 4), (100, 0, 5), (101, 0, 9), (102, 0, 71)]
noncomputable def VMI : List Rng := (88, 0, 2) :: VM
/-- what image answers -/
noncomputable def imv (v : Int32) : Int32 := if 0 ≤ v.toInt ∧ v.toInt ≤ 2 then 0 else -2
theorem imv_in {v : Int32} (h : 0 ≤ v.toInt ∧ v.toInt ≤ 2) : imv v = 0 := if_pos h
theorem imv_no {v : Int32} (h : ¬ (0 ≤ v.toInt ∧ v.toInt ≤ 2)) : imv v = -2 := if_neg h
/-- what back answers -/
noncomputable def bkv (A : Nat) (h : pm_H) (v : Int32) : Int32 := if 0 ≤ v.toInt ∧ v.toInt ≤ 2 then (if gi h A v.toInt.toNat = 0 then -6 else 0) else -2
theorem bkv_no {A : Nat} {h : pm_H} {v : Int32} (q : ¬ (0 ≤ v.toInt ∧ v.toInt ≤ 2)) : bkv A h v = -2 := if_neg q
theorem bkv_6 {A k : Nat} {h : pm_H} (hk : k ≤ 2) (e : gi h A k = 0) : bkv A h (nJ k) = -6 := by
  unfold bkv
  rw [nJ_toInt (by first | decide | with_reducible assumption | omega), if_pos (by first | decide | with_reducible assumption | omega), show (k : Int).toNat = k from by omega, if_pos e]
theorem bkv_0 {A k : Nat} {h : pm_H} (hk : k ≤ 2) (e : ¬ gi h A k = 0) : bkv A h (nJ k) = 0 := by
  unfold bkv
  rw [nJ_toInt (by first | decide | with_reducible assumption | omega), if_pos (by first | decide | with_reducible assumption | omega), show (k : Int).toNat = k from by omega, if_neg e]
theorem kp_in {A k : Nat} {g h0 : pm_H} (hg : HH g) (hA : hsF A = some (.inl (2, 3, [(0, 1)]))) (hk : k < 3) (e : ∀ j, gi g A j = gi h0 A j) : ∀ j, j < 3 → gi (pt g A k 1) A j = if nJ k = nJ j then 1 else gi h0 A j := by
  intro j hj
  by_cases q : k = j
  · subst q
    rw [if_pos rfl]
    exact gi_pt hg (bd_u hA hk) (by decide) (by decide)
  · rw [if_neg (fun z => q ((nJ_eq (by first | decide | with_reducible assumption | omega) (by first | decide | with_reducible assumption | omega)).mp z)), gi_ne (fun _ => by omega)]
    exact e j
theorem kp_out {A : Nat} {x : Int32} {g h0 : pm_H} (hx : ¬ (0 ≤ x.toInt ∧ x.toInt ≤ 2)) (e : ∀ j, gi g A j = gi h0 A j) : ∀ j, j < 3 → gi g A j = if x = nJ j then 1 else gi h0 A j := by
  intro j hj
  rw [if_neg (fun q => by subst q; rw [nJ_toInt (by first | decide | with_reducible assumption | omega)] at hx; omega)]
  exact e j
noncomputable def VQ (h0 h' : pm_H) (r : Option Value) : Prop := HH h' ∧ fr_g VM h0 h' ∧ RV h' ∧ ∃ x : Int32, r = some (.int x)
theorem RV_fr {M : List Rng} {h h' : pm_H} (hh : HH h) (hM : M.all (fun r => !(Nat.beq r.1 84) && (!(Nat.beq r.1 85) && !(Nat.beq r.1 87))) = true) (hf : fr_g M h h') (V : RV h) : RV h' := by
  have hm : ∀ a, (a = 84 ∨ a = 85 ∨ a = 87) → ∀ k, gn h' a k = gn h a k := fun a ha k => fr_gn hf (rg_no (List.all_eq_true.mpr fun q hq => by
    have := List.all_eq_true.mp hM q hq
    simp only [Bool.and_eq_true] at this
    rcases ha with rfl | rfl | rfl
    · exact this.1
    · exact this.2.1
    · exact this.2.2) k)
  exact RV_hi hh (fun k _ => hm 84 (.inl rfl) k) (fun k _ => hm 85 (.inr (.inl rfl)) k) (hm 87 (.inr (.inr rfl))) V
theorem FAg_fact {h : pm_H} (hh : HH h) (F : FAg 0 h) : w0.1.2.1 125 h := by
  show FA 87 0 87 2 3 20 h
  intro i hi _ t g h1 h2 h3
  have q := F i hi
  rw [show 60 * 0 + 3 * i = 0 + 3 * i by omega, show 0 + 3 * i + 2 = 2 + 3 * i by omega] at q
  have e1 : gi h 87 (0 + 3 * i) = t := by unfold gi; rw [h1]
  have e2 : gi h 87 (2 + 3 * i) = g := by unfold gi; rw [h2]
  have b1 := (ld_gi hh (bd_87a (k := 0 + 3 * i) (by first | decide | with_reducible assumption | omega) (by first | decide | with_reducible assumption | omega))).2
  have b2 := (ld_gi hh (bd_87c (k := 2 + 3 * i) (by first | decide | with_reducible assumption | omega) (by first | decide | with_reducible assumption | omega))).2
  rw [e1] at b1
  rw [e2] at b2
  unfold gn at q
  rw [e1, e2] at q
  dsimp only at b1 b2
  omega
/-- one more act -/
theorem RV_act {h g : pm_H} {K kd c x : Nat} (hh : HH h) (V : RV h) (hK : gn h 84 5 = K) (hK20 : K < 20) (e5 : gn g 84 5 = K + 1) (e84 : ∀ k, k ≠ 5 → gn g 84 k = gn h 84 k) (e85 : ∀ k, gn g 85 k = gn h 85 k) (e0 : gn g 87 (3 * K) = kd) (e1 : gn g 87 (3 * K + 1) = c) (e2 : gn g 87 (3 * K + 2) = x) (eo : ∀ k, k ≠ 3 * K → k ≠ 3 * K + 1 → k ≠ 3 * K + 2 → gn g 87 k = gn h 87 k) (hc : (kd = 0 → 1 ≤ x) ∧ (¬ kd = 0 → c < gn h 84 3 ∧ x < gn h 84 3)) : RV g := by
  have h8 : gn h 84 3 ≤ 8 := gn_hi hh rfl (by decide)
  refine ⟨fun r hr => ?_, fun r hr => ?_⟩
  · by_cases h0 : r = 0
    · subst h0
      obtain ⟨r1, r2, r3⟩ := V.1 0 hr
      refine ⟨by rw [e84 _ (by first | decide | with_reducible assumption | omega), e84 _ (by first | decide | with_reducible assumption | omega)]; exact r1, fun c' hc' => ?_, fun k hk => ?_⟩
      · rw [e84 _ (by first | decide | with_reducible assumption | omega)] at hc'
        rw [e85]; exact r2 c' hc'
      · rw [e84 (6 * 0 + 3) (by first | decide | with_reducible assumption | omega)]
        have hk : k < gn g 84 5 := hk
        by_cases ek : k = K
        · rw [show 60 * 0 + 3 * k = 3 * K by omega, e0, e1, e2]; exact hc
        · rw [eo _ (by first | decide | with_reducible assumption | omega) (by first | decide | with_reducible assumption | omega) (by first | decide | with_reducible assumption | omega), eo _ (by first | decide | with_reducible assumption | omega) (by first | decide | with_reducible assumption | omega) (by first | decide | with_reducible assumption | omega), eo _ (by first | decide | with_reducible assumption | omega) (by first | decide | with_reducible assumption | omega) (by first | decide | with_reducible assumption | omega)]
          exact r3 k (show k < gn h 84 5 by omega)
    · exact RI_copy (row_b hh (by first | decide | with_reducible assumption | omega)).1 (row_b hh (by first | decide | with_reducible assumption | omega)).2 (fun k hk => e84 _ (by first | decide | with_reducible assumption | omega)) (fun k hk => e85 _) (fun k hk => eo _ (by first | decide | with_reducible assumption | omega) (by first | decide | with_reducible assumption | omega) (by first | decide | with_reducible assumption | omega)) (V.1 r hr)
  · by_cases h0 : r = 0
    · subst h0
      intro i hi
      by_cases ek : i = K
      · rw [show 60 * 0 + 3 * i = 3 * K by omega, e0, e2]
        intro q
        have := (hc.2 q).2
        omega
      · rw [eo _ (by first | decide | with_reducible assumption | omega) (by first | decide | with_reducible assumption | omega) (by first | decide | with_reducible assumption | omega), eo _ (by first | decide | with_reducible assumption | omega) (by first | decide | with_reducible assumption | omega) (by first | decide | with_reducible assumption | omega)]
        exact V.2 0 hr i hi
    · exact FAg_copy (fun k hk => eo _ (by first | decide | with_reducible assumption | omega) (by first | decide | with_reducible assumption | omega) (by first | decide | with_reducible assumption | omega)) (V.2 r hr)
/-- fewer acts -/
theorem RV_less {h g : pm_H} (hh : HH h) (V : RV h) (e5 : gn g 84 5 ≤ gn h 84 5) (e84 : ∀ k, k ≠ 5 → gn g 84 k = gn h 84 k) (e85 : ∀ k, gn g 85 k = gn h 85 k) (e87 : ∀ k, gn g 87 k = gn h 87 k) : RV g := by
  refine ⟨fun r hr => ?_, fun r hr => FAg_copy (fun k _ => e87 _) (V.2 r hr)⟩
  by_cases h0 : r = 0
  · subst h0
    obtain ⟨r1, r2, r3⟩ := V.1 0 hr
    refine ⟨by rw [e84 _ (by first | decide | with_reducible assumption | omega), e84 _ (by first | decide | with_reducible assumption | omega)]; exact r1, fun c' hc' => ?_, fun k hk => ?_⟩
    · rw [e84 _ (by first | decide | with_reducible assumption | omega)] at hc'
      rw [e85]; exact r2 c' hc'
    · rw [e84 (6 * 0 + 3) (by first | decide | with_reducible assumption | omega), e87, e87, e87]
      have hk : k < gn g 84 5 := hk
      exact r3 k (show k < gn h 84 5 by omega)
  · exact RI_copy (row_b hh (by first | decide | with_reducible assumption | omega)).1 (row_b hh (by first | decide | with_reducible assumption | omega)).2 (fun k hk => e84 _ (by first | decide | with_reducible assumption | omega)) (fun k hk => e85 _) (fun k hk => e87 _) (V.1 r hr)
theorem rv_ci {a b : Int} {h : pm_H} {r : Option Value} (hv : rv_g h (some (.inl (cI a b))) r) : ∃ x : Int32, r = some (.int x) := by
  cases r with
  | none => exact hv.elim
  | some v => cases v with
    | int x => exact ⟨x, rfl⟩
    | _ => exact hv.elim
theorem E_zas {look : Nat → Option pm_I} {call : pm_Call} {Q : pm_H → Option Value → Prop} {pc n : Nat} {lv : List (Nat × Value)} {st : List Value} {h : pm_H} {z : Nat × Nat} {j : Nat} (h1 : look pc = some (.inl (s_zast n))) (hh : HH h) (hj : j < 3) (kk : Ends look call (n, lv, st, pt h 88 j 1, z) Q) : Ends look call (pc, lv, .int (nJ 1) :: .int (nJ j) :: .ref 88 :: st, h, z) Q := by
  obtain ⟨f, hx, hf⟩ := ar_of (a := 88) (t := 2) (len := 3) (p := [(0, 1)]) hh rfl
  have h2 := nJ_toInt (n := j) (by first | decide | with_reducible assumption | omega)
  have h3 : pm_ix (nJ j) 3 = true := ai_ix (by first | decide | with_reducible assumption | omega) (by first | decide | with_reducible assumption | omega)
  have h4 : (nJ j).toNatClampNeg = j := by show (nJ j).toInt.toNat = j; omega
  have h5 : pt h 88 j 1 = h.set 88 (.inl (2, 3, .inl (upd f j 1))) := by unfold pt; rw [hx]
  have h6 : vp_nar .boolean (nJ 1) = 1 := by decide
  refine E_st h1 ?_ kk
  simp only [s_zast, hx, h3, h4, cond_true, h5, h6]
theorem E_zal {look : Nat → Option pm_I} {call : pm_Call} {Q : pm_H → Option Value → Prop} {pc n : Nat} {lv : List (Nat × Value)} {st : List Value} {h : pm_H} {z : Nat × Nat} {j : Nat} (h1 : look pc = some (.inl (s_zald n))) (hh : HH h) (hj : j < 3) (kk : Ends look call (n, lv, .int (gi h 88 j) :: st, h, z) Q) : Ends look call (pc, lv, .int (nJ j) :: .ref 88 :: st, h, z) Q := by
  obtain ⟨f, hx, hf⟩ := ar_of (a := 88) (t := 2) (len := 3) (p := [(0, 1)]) hh rfl
  have h2 := nJ_toInt (n := j) (by first | decide | with_reducible assumption | omega)
  have h3 : pm_ix (nJ j) 3 = true := ai_ix (by first | decide | with_reducible assumption | omega) (by first | decide | with_reducible assumption | omega)
  have h4 : (nJ j).toNatClampNeg = j := by show (nJ j).toInt.toNat = j; omega
  refine E_st h1 ?_ kk
  simp only [s_zald, hx, h3, h4, cond_true, ← hf]
theorem sp_isPlace {h : pm_H} {d : Nat} {x : Int32} (hh : HH h) : Sp (d + 2) 276 h [.ref 77, .int x] (fun h' r => h' = h ∧ r = some (.int (zb (0 < (gi h 83 0).toInt ∧ 1 ≤ x.toInt ∧ x.toInt ≤ (gn h 84 0 : Int))))) := by
  refine Sp_of aiX9_isPlace rfl rfl rfl ?_
  refine E_al rfl (show pm_get (lv_args 0 [.ref 77, .int x]) 0 = _ from rfl) ?_
  refine E_call rfl (sp_isStreet hh) (chk77 hh rfl rfl (by show 0 ≤ 8; decide)) (fun h1 r1 => ?_)
  rintro ⟨e1, f1⟩
  rw [e1, f1]
  show Ends _ _ (4, (lv_args 0 [.ref 77, .int x]), [.int (zb (0 < (gi h 83 0).toInt))], h, 0, 0) _
  by_cases hb2 : ¬ (0 < (gi h 83 0).toInt)
  · refine E_ifT rfl (by rw [zb_F hb2]; rfl) ?_
    refine E_ci 0 rfl ci0 ?_
    exact E_rtz rfl (.inl rfl) ⟨rfl, by rw [zb_F (by first | decide | with_reducible assumption | omega)]⟩
  · refine E_ifF rfl (by rw [zb_T (Classical.not_not.mp hb2)]; rfl) ?_
    refine E_il rfl (show pm_get (lv_args 0 [.ref 77, .int x]) 1 = _ from rfl) ?_
    refine E_i2l rfl ?_
    refine E_c rfl ?_
    refine E_al rfl (show pm_get (lv_args 0 [.ref 77, .int x]) 0 = _ from rfl) ?_
    refine E_call rfl (sp_places hh) (chk77 hh rfl rfl (by show 4 ≤ 8; decide)) (fun h3 r3 => ?_)
    rintro ⟨e3, f3, c3⟩
    rw [e3, f3]
    show Ends _ _ (14, (lv_args 0 [.ref 77, .int x]), [.int (nJ (gn h 84 0)), .long (1), .long (x).toInt64], h, 0, 0) _
    refine E_i2l rfl ?_
    refine E_call rfl (sp_in (a := x.toInt) (b := 1) (c := ((((gn h 84 0)) : Nat) : Int)) (i2l_toInt _) rfl (i2l_nJ (by first | decide | with_reducible assumption | omega))) (chkS rfl (by show 0 ≤ 8; decide)) (fun h4 r4 => ?_)
    rintro ⟨e4, f4⟩
    rw [e4, f4]
    show Ends _ _ (18, (lv_args 0 [.ref 77, .int x]), [.int (zb (1 ≤ x.toInt ∧ x.toInt ≤ ((((gn h 84 0)) : Nat) : Int)))], h, 0, 0) _
    by_cases hb5 : ¬ (1 ≤ x.toInt ∧ x.toInt ≤ ((((gn h 84 0)) : Nat) : Int))
    · refine E_ifT rfl (by rw [zb_F hb5]; rfl) ?_
      refine E_ci 0 rfl ci0 ?_
      exact E_rtz rfl (.inl rfl) ⟨rfl, by rw [zb_F (by first | decide | with_reducible assumption | omega)]⟩
    · refine E_ifF rfl (by rw [zb_T (Classical.not_not.mp hb5)]; rfl) ?_
      refine E_ci 1 rfl ci1 ?_
      refine E_goto rfl ?_
      exact E_rtz rfl (.inr rfl) ⟨rfl, by rw [zb_T (by first | decide | with_reducible assumption | omega)]⟩
theorem sp_areTwo {h : pm_H} {d : Nat} {x y : Int32} (hh : HH h) : Sp (d + 3) 208 h [.ref 77, .int x, .int y] (fun h' r => h' = h ∧ r = some (.int (zb ((0 ≤ x.toInt ∧ x.toInt ≤ (gn h 84 3 : Int) - 1) ∧ (0 ≤ y.toInt ∧ y.toInt ≤ (gn h 84 3 : Int) - 1) ∧ ¬ x = y)))) := by
  refine Sp_of aiX9_areTwo rfl rfl rfl ?_
  refine E_al rfl (show pm_get (lv_args 0 [.ref 77, .int x, .int y]) 0 = _ from rfl) ?_
  refine E_il rfl (show pm_get (lv_args 0 [.ref 77, .int x, .int y]) 1 = _ from rfl) ?_
  refine E_i2l rfl ?_
  refine E_call rfl (sp_isCar hh) (chk77 hh rfl rfl (by show 0 ≤ 8; decide)) (fun h1 r1 => ?_)
  rintro ⟨e1, f1⟩
  rw [e1, f1]
  show Ends _ _ (6, (lv_args 0 [.ref 77, .int x, .int y]), [.int (zb (0 ≤ x.toInt ∧ x.toInt ≤ (gn h 84 3 : Int) - 1))], h, 0, 0) _
  by_cases hb2 : ¬ (0 ≤ x.toInt ∧ x.toInt ≤ (gn h 84 3 : Int) - 1)
  · refine E_ifT rfl (by rw [zb_F hb2]; rfl) ?_
    refine E_ci 0 rfl ci0 ?_
    exact E_rtz rfl (.inl rfl) ⟨rfl, by rw [zb_F (fun q => hb2 q.1)]⟩
  · refine E_ifF rfl (by rw [zb_T (Classical.not_not.mp hb2)]; rfl) ?_
    refine E_al rfl (show pm_get (lv_args 0 [.ref 77, .int x, .int y]) 0 = _ from rfl) ?_
    refine E_il rfl (show pm_get (lv_args 0 [.ref 77, .int x, .int y]) 2 = _ from rfl) ?_
    refine E_i2l rfl ?_
    refine E_call rfl (sp_isCar hh) (chk77 hh rfl rfl (by show 0 ≤ 8; decide)) (fun h3 r3 => ?_)
    rintro ⟨e3, f3⟩
    rw [e3, f3]
    show Ends _ _ (15, (lv_args 0 [.ref 77, .int x, .int y]), [.int (zb (0 ≤ y.toInt ∧ y.toInt ≤ (gn h 84 3 : Int) - 1))], h, 0, 0) _
    by_cases hb4 : ¬ (0 ≤ y.toInt ∧ y.toInt ≤ (gn h 84 3 : Int) - 1)
    · refine E_ifT rfl (by rw [zb_F hb4]; rfl) ?_
      refine E_ci 0 rfl ci0 ?_
      exact E_rtz rfl (.inl rfl) ⟨rfl, by rw [zb_F (fun q => hb4 q.2.1)]⟩
    · refine E_ifF rfl (by rw [zb_T (Classical.not_not.mp hb4)]; rfl) ?_
      refine E_il rfl (show pm_get (lv_args 0 [.ref 77, .int x, .int y]) 1 = _ from rfl) ?_
      refine E_il rfl (show pm_get (lv_args 0 [.ref 77, .int x, .int y]) 2 = _ from rfl) ?_
      by_cases hb5 : x = y
      · refine E_icT rfl (decide_eq_true hb5) ?_
        refine E_ci 0 rfl ci0 ?_
        exact E_rtz rfl (.inl rfl) ⟨rfl, by rw [zb_F (fun q => q.2.2 hb5)]⟩
      · refine E_icF rfl (decide_eq_false hb5) ?_
        refine E_ci 1 rfl ci1 ?_
        refine E_goto rfl ?_
        exact E_rtz rfl (.inr rfl) ⟨rfl, by rw [zb_T ⟨Classical.not_not.mp hb2, Classical.not_not.mp hb4, hb5⟩]⟩
theorem tv_undo {h0 : pm_H} {d : Nat} (hh0 : HH h0) (hV : RV h0) : Sp (d + 40) 366 h0 [.ref 77] (VQ h0) := by
  refine Sp_of aiX9_undo rfl rfl rfl ?_
  have L0 : pm_get (lv_args 0 [.ref 77]) 0 = some (.ref 77) := rfl
  generalize lv_args 0 [.ref 77] = lv at L0 ⊢
  refine E_al rfl L0 ?_
  refine E_ci 0 rfl ci0 ?_
  refine E_pf rfl hh0 rfl ?_
  have hh1 : HH (pt h0 77 0 (nJ 0)) := HH_ptn hh0 rfl (by first | decide | with_reducible assumption | omega) (by first | decide | with_reducible assumption | omega) (by first | decide | with_reducible assumption | omega)
  have fr1 : fr_g VM h0 (pt h0 77 0 (nJ 0)) := fr_ptr (l := 0) (u := 0) rfl (by first | decide | with_reducible assumption | omega) (by first | decide | with_reducible assumption | omega) (fr_rf VM h0)
  have V0 : RV (pt h0 77 0 (nJ 0)) := RV_fr hh0 (M := [(77, 0, 0)]) rfl (fr_ptr (l := 0) (u := 0) rfl (by first | decide | with_reducible assumption | omega) (by first | decide | with_reducible assumption | omega) (fr_rf _ _)) hV
  refine E_al rfl L0 ?_
  refine E_call rfl (sp_isStreet hh1) (chk77 hh1 rfl rfl (by show 0 ≤ 8; decide)) (fun h2 r2 => ?_)
  rintro ⟨e2, f2⟩
  rw [e2, f2]
  show Ends _ _ (9, lv, [.int (zb (0 < (gi (pt h0 77 0 (nJ 0)) 83 0).toInt))], (pt h0 77 0 (nJ 0)), 0, 0) _
  by_cases hb3 : 0 < (gi (pt h0 77 0 (nJ 0)) 83 0).toInt
  · refine E_ifT rfl (by rw [zb_T hb3]; rfl) ?_
    refine E_al rfl L0 ?_
    refine E_gr rfl hh1 (q := 84) rfl ?_
    refine E_ci 5 rfl ci5 ?_
    have b4 : gn (pt h0 77 0 (nJ 0)) 84 5 ≤ 20 := gn_hi hh1 rfl (by decide)
    refine E_ial rfl hh1 rfl (by first | decide | with_reducible assumption | omega) (by decide) (gi_gn hh1 rfl (by decide)) ?_
    by_cases hb5 : ¬ (gn (pt h0 77 0 (nJ 0)) 84 5) = 0
    · refine E_ifT rfl (decide_eq_true (fun q => hb5 ((nJ_eq0 (by first | decide | with_reducible assumption | omega)).mp q))) ?_
      refine E_al rfl L0 ?_
      refine E_gr rfl hh1 (q := 84) rfl ?_
      refine E_ci 5 rfl ci5 ?_
      refine E_dup2 rfl rfl rfl ?_
      have b6 : gn (pt h0 77 0 (nJ 0)) 84 5 ≤ 20 := gn_hi hh1 rfl (by decide)
      refine E_ial rfl hh1 rfl (by first | decide | with_reducible assumption | omega) (by decide) (gi_gn hh1 rfl (by decide)) ?_
      refine E_ci 1 rfl ci1 ?_
      refine E_bin rfl (nJ_sub (by first | decide | with_reducible assumption | omega)) ?_
      refine E_ias rfl hh1 rfl (by first | decide | with_reducible assumption | omega) (by decide) ?_
      have hh7 : HH (pt (pt h0 77 0 (nJ 0)) 84 5 (nJ (((gn (pt h0 77 0 (nJ 0)) 84 5) - 1)))) := HH_ptn hh1 rfl (by first | decide | with_reducible assumption | omega) (by first | decide | with_reducible assumption | omega) (by first | decide | with_reducible assumption | omega)
      have fr7 : fr_g VM h0 (pt (pt h0 77 0 (nJ 0)) 84 5 (nJ (((gn (pt h0 77 0 (nJ 0)) 84 5) - 1)))) := fr_ptr (l := 0) (u := 29) rfl (by first | decide | with_reducible assumption | omega) (by first | decide | with_reducible assumption | omega) fr1
      have V3 : RV (pt (pt h0 77 0 (nJ 0)) 84 5 (nJ (((gn (pt h0 77 0 (nJ 0)) 84 5) - 1)))) := RV_less hh1 V0 (by rw [gn_ptn hh1 rfl (by first | decide | with_reducible assumption | omega) (by first | decide | with_reducible assumption | omega) (by first | decide | with_reducible assumption | omega)]; omega) (fun k hk => gn_ne (fun _ => hk)) (fun k => gn_ne (by first | exact gxx rfl | omega)) (fun k => gn_ne (by first | exact gxx rfl | omega))
      refine E_al rfl L0 ?_
      refine E_gr rfl hh7 (q := 84) rfl ?_
      refine E_ci 5 rfl ci5 ?_
      have b8 : gn (pt (pt h0 77 0 (nJ 0)) 84 5 (nJ (((gn (pt h0 77 0 (nJ 0)) 84 5) - 1)))) 84 5 ≤ 20 := gn_hi hh7 rfl (by decide)
      refine E_ial rfl hh7 rfl (by first | decide | with_reducible assumption | omega) (by decide) (gi_gn hh7 rfl (by decide)) ?_
      exact E_rti rfl ⟨hh7, fr7, V3, _, rfl⟩
    · refine E_ifF rfl (decide_eq_false (fun q => hb5 (fun z => q ((nJ_eq0 (by first | decide | with_reducible assumption | omega)).mpr z)))) ?_
      refine E_c rfl ?_
      exact E_rti rfl ⟨hh1, fr1, V0, _, rfl⟩
  · refine E_ifF rfl (by rw [zb_F hb3]; rfl) ?_
    refine E_c rfl ?_
    exact E_rti rfl ⟨hh1, fr1, V0, _, rfl⟩
theorem tv_anew {h0 : pm_H} {d : Nat} (hh0 : HH h0) (hV : RV h0) : Sp (d + 40) 207 h0 [.ref 77] (VQ h0) := by
  refine Sp_of aiX9_anew rfl rfl rfl ?_
  have L0 : pm_get (lv_args 0 [.ref 77]) 0 = some (.ref 77) := rfl
  generalize lv_args 0 [.ref 77] = lv at L0 ⊢
  refine E_al rfl L0 ?_
  refine E_ci 0 rfl ci0 ?_
  refine E_pf rfl hh0 rfl ?_
  have hh1 : HH (pt h0 77 0 (nJ 0)) := HH_ptn hh0 rfl (by first | decide | with_reducible assumption | omega) (by first | decide | with_reducible assumption | omega) (by first | decide | with_reducible assumption | omega)
  have fr1 : fr_g VM h0 (pt h0 77 0 (nJ 0)) := fr_ptr (l := 0) (u := 0) rfl (by first | decide | with_reducible assumption | omega) (by first | decide | with_reducible assumption | omega) (fr_rf VM h0)
  have V0 : RV (pt h0 77 0 (nJ 0)) := RV_fr hh0 (M := [(77, 0, 0)]) rfl (fr_ptr (l := 0) (u := 0) rfl (by first | decide | with_reducible assumption | omega) (by first | decide | with_reducible assumption | omega) (fr_rf _ _)) hV
  refine E_al rfl L0 ?_
  refine E_call rfl (sp_isStreet hh1) (chk77 hh1 rfl rfl (by show 0 ≤ 8; decide)) (fun h2 r2 => ?_)
  rintro ⟨e2, f2⟩
  rw [e2, f2]
  show Ends _ _ (9, lv, [.int (zb (0 < (gi (pt h0 77 0 (nJ 0)) 83 0).toInt))], (pt h0 77 0 (nJ 0)), 0, 0) _
  by_cases hb3 : 0 < (gi (pt h0 77 0 (nJ 0)) 83 0).toInt
  · refine E_ifT rfl (by rw [zb_T hb3]; rfl) ?_
    refine E_al rfl L0 ?_
    refine E_gr rfl hh1 (q := 84) rfl ?_
    refine E_ci 5 rfl ci5 ?_
    have b4 : gn (pt h0 77 0 (nJ 0)) 84 5 ≤ 20 := gn_hi hh1 rfl (by decide)
    refine E_ial rfl hh1 rfl (by first | decide | with_reducible assumption | omega) (by decide) (gi_gn hh1 rfl (by decide)) ?_
    refine E_is rfl (fun lv5 L5_1 kp5 => ?_)
    have L5_0 := kp5 0 _ (nbz rfl) rfl L0
    refine E_al rfl L5_0 ?_
    refine E_gr rfl hh1 (q := 84) rfl ?_
    refine E_ci 5 rfl ci5 ?_
    refine E_ci 0 rfl ci0 ?_
    refine E_ias rfl hh1 rfl (by first | decide | with_reducible assumption | omega) (by decide) ?_
    have hh6 : HH (pt (pt h0 77 0 (nJ 0)) 84 5 (nJ 0)) := HH_ptn hh1 rfl (by first | decide | with_reducible assumption | omega) (by first | decide | with_reducible assumption | omega) (by first | decide | with_reducible assumption | omega)
    have fr6 : fr_g VM h0 (pt (pt h0 77 0 (nJ 0)) 84 5 (nJ 0)) := fr_ptr (l := 0) (u := 29) rfl (by first | decide | with_reducible assumption | omega) (by first | decide | with_reducible assumption | omega) fr1
    have V3 : RV (pt (pt h0 77 0 (nJ 0)) 84 5 (nJ 0)) := RV_less hh1 V0 (by rw [gn_ptn hh1 rfl (by first | decide | with_reducible assumption | omega) (by first | decide | with_reducible assumption | omega) (by first | decide | with_reducible assumption | omega)]; omega) (fun k hk => gn_ne (fun _ => hk)) (fun k => gn_ne (by first | exact gxx rfl | omega)) (fun k => gn_ne (by first | exact gxx rfl | omega))
    refine E_il rfl L5_1 ?_
    exact E_rti rfl ⟨hh6, fr6, V3, _, rfl⟩
  · refine E_ifF rfl (by rw [zb_F hb3]; rfl) ?_
    refine E_c rfl ?_
    exact E_rti rfl ⟨hh1, fr1, V0, _, rfl⟩
theorem tv_rate {h0 : pm_H} {d : Nat} {x y : Int32} (hh0 : HH h0) (hV : RV h0) : Sp (d + 40) 329 h0 [.ref 77, .int x, .int y] (VQ h0) := by
  refine Sp_of aiX9_rate rfl rfl rfl ?_
  have L0 : pm_get (lv_args 0 [.ref 77, .int x, .int y]) 0 = some (.ref 77) := rfl
  have L1 : pm_get (lv_args 0 [.ref 77, .int x, .int y]) 1 = some (.int x) := rfl
  have L2 : pm_get (lv_args 0 [.ref 77, .int x, .int y]) 2 = some (.int y) := rfl
  generalize lv_args 0 [.ref 77, .int x, .int y] = lv at L0 L1 L2 ⊢
  refine E_al rfl L0 ?_
  refine E_ci 0 rfl ci0 ?_
  refine E_pf rfl hh0 rfl ?_
  have hh1 : HH (pt h0 77 0 (nJ 0)) := HH_ptn hh0 rfl (by first | decide | with_reducible assumption | omega) (by first | decide | with_reducible assumption | omega) (by first | decide | with_reducible assumption | omega)
  have fr1 : fr_g VM h0 (pt h0 77 0 (nJ 0)) := fr_ptr (l := 0) (u := 0) rfl (by first | decide | with_reducible assumption | omega) (by first | decide | with_reducible assumption | omega) (fr_rf VM h0)
  have V0 : RV (pt h0 77 0 (nJ 0)) := RV_fr hh0 (M := [(77, 0, 0)]) rfl (fr_ptr (l := 0) (u := 0) rfl (by first | decide | with_reducible assumption | omega) (by first | decide | with_reducible assumption | omega) (fr_rf _ _)) hV
  refine E_al rfl L0 ?_
  refine E_il rfl L1 ?_
  refine E_i2l rfl ?_
  refine E_call rfl (sp_isCar hh1) (chk77 hh1 rfl rfl (by show 0 ≤ 8; decide)) (fun h2 r2 => ?_)
  rintro ⟨e2, f2⟩
  rw [e2, f2]
  show Ends _ _ (11, lv, [.int (zb (0 ≤ x.toInt ∧ x.toInt ≤ (gn (pt h0 77 0 (nJ 0)) 84 3 : Int) - 1))], (pt h0 77 0 (nJ 0)), 0, 0) _
  by_cases hb3 : ¬ (0 ≤ x.toInt ∧ x.toInt ≤ (gn (pt h0 77 0 (nJ 0)) 84 3 : Int) - 1)
  · refine E_ifT rfl (by rw [zb_F hb3]; rfl) ?_
    refine E_c rfl ?_
    exact E_rti rfl ⟨hh1, fr1, V0, _, rfl⟩
  · refine E_ifF rfl (by rw [zb_T (Classical.not_not.mp hb3)]; rfl) ?_
    have hcar := Classical.not_not.mp hb3
    refine E_il rfl L2 ?_
    refine E_i2l rfl ?_
    refine E_c rfl ?_
    refine E_c rfl ?_
    refine E_call rfl (sp_in (a := y.toInt) (b := 0) (c := 99) (i2l_toInt _) rfl rfl) (chkS rfl (by show 0 ≤ 8; decide)) (fun h4 r4 => ?_)
    rintro ⟨e4, f4⟩
    rw [e4, f4]
    show Ends _ _ (23, lv, [.int (zb (0 ≤ y.toInt ∧ y.toInt ≤ 99))], (pt h0 77 0 (nJ 0)), 0, 0) _
    by_cases hb5 : 0 ≤ y.toInt ∧ y.toInt ≤ 99
    · refine E_ifT rfl (by rw [zb_T hb5]; rfl) ?_
      have hC8 : gn (pt h0 77 0 (nJ 0)) 84 3 ≤ 8 := gn_hi hh1 rfl (by decide)
      obtain ⟨k, hk, rfl⟩ := nJ_of2 (n := gn (pt h0 77 0 (nJ 0)) 84 3 - 1) hcar.1 (by have := hcar.2; have := hcar.1; omega)
      obtain ⟨n, hn, rfl⟩ := nJ_of2 (n := 99) (x := y) hb5.1 hb5.2
      refine E_al rfl L0 ?_
      refine E_gr rfl hh1 (q := 84) rfl ?_
      refine E_ci 5 rfl ci5 ?_
      have b6 : gn (pt h0 77 0 (nJ 0)) 84 5 ≤ 20 := gn_hi hh1 rfl (by decide)
      refine E_ial rfl hh1 rfl (by first | decide | with_reducible assumption | omega) (by decide) (gi_gn hh1 rfl (by decide)) ?_
      by_cases hb7 : (gn (pt h0 77 0 (nJ 0)) 84 5) = 0
      · refine E_ifT rfl (decide_eq_true ((nJ_le0 (by first | decide | with_reducible assumption | omega)).mpr hb7)) ?_
        refine E_al rfl L0 ?_
        refine E_gr rfl hh1 (q := 85) rfl ?_
        refine E_ci 2 rfl ci2 ?_
        refine E_il rfl L1 ?_
        refine E_bin rfl (nJ_mul _ _) ?_
        refine E_ci 1 rfl ci1 ?_
        refine E_bin rfl (nJ_add _ _) ?_
        refine E_ial rfl hh1 rfl (by first | decide | with_reducible assumption | omega) (by decide) (show gi (pt h0 77 0 (nJ 0)) 85 (((2 * k) + 1)) = (gi (pt h0 77 0 (nJ 0)) 85 (((2 * k) + 1))) from rfl) ?_
        refine E_is rfl (fun lv8 L8_3 kp8 => ?_)
        have L8_0 := kp8 0 _ (nbz rfl) rfl L0
        have L8_1 := kp8 1 _ (nbz rfl) rfl L1
        have L8_2 := kp8 2 _ (nbz rfl) rfl L2
        refine E_al rfl L8_0 ?_
        refine E_gr rfl hh1 (q := 85) rfl ?_
        refine E_ci 2 rfl ci2 ?_
        refine E_il rfl L8_1 ?_
        refine E_bin rfl (nJ_mul _ _) ?_
        refine E_ci 1 rfl ci1 ?_
        refine E_bin rfl (nJ_add _ _) ?_
        refine E_il rfl L8_2 ?_
        refine E_ias rfl hh1 rfl (by first | decide | with_reducible assumption | omega) (by decide) ?_
        have hh9 : HH (pt (pt h0 77 0 (nJ 0)) 85 (((2 * k) + 1)) (nJ n)) := HH_ptn hh1 (bd_85o (by first | decide | with_reducible assumption | omega) (by first | decide | with_reducible assumption | omega)) (by first | decide | with_reducible assumption | omega) (by first | decide | with_reducible assumption | omega) (by first | decide | with_reducible assumption | omega)
        have fr9 : fr_g VM h0 (pt (pt h0 77 0 (nJ 0)) 85 (((2 * k) + 1)) (nJ n)) := fr_ptr (l := 0) (u := 79) rfl (by first | decide | with_reducible assumption | omega) (by first | decide | with_reducible assumption | omega) fr1
        have V3 : RV (pt (pt h0 77 0 (nJ 0)) 85 (((2 * k) + 1)) (nJ n)) := by
          refine ⟨fun r hr => RI_eq (V0.1 r hr) (fun k => gn_ne (by first | exact gxx rfl | omega)) (fun c => gn_ne (fun _ => by omega)) (fun k => gn_ne (by first | exact gxx rfl | omega)), fun r hr => FAg_copy (fun k _ => gn_ne (by first | exact gxx rfl | omega)) (V0.2 r hr)⟩
        refine E_il rfl L8_3 ?_
        exact E_rti rfl ⟨hh9, fr9, V3, _, rfl⟩
      · refine E_ifF rfl (decide_eq_false (fun q => hb7 ((nJ_le0 (by first | decide | with_reducible assumption | omega)).mp q))) ?_
        refine E_c rfl ?_
        exact E_rti rfl ⟨hh1, fr1, V0, _, rfl⟩
    · refine E_ifF rfl (by rw [zb_F hb5]; rfl) ?_
      refine E_c rfl ?_
      exact E_rti rfl ⟨hh1, fr1, V0, _, rfl⟩
theorem tv_image {h0 : pm_H} {d : Nat} {x : Int32} (hh0 : HH h0) (hV : RV h0) : Sp (d + 40) 260 h0 [.ref 77, .int x] (fun h' r => HH h' ∧ fr_g VMI h0 h' ∧ RV h' ∧ r = some (.int (imv x)) ∧ ∀ j, j < 3 → gi h' 88 j = if x = nJ j then 1 else gi h0 88 j) := by
  refine Sp_of aiX9_image rfl rfl rfl ?_
  have L0 : pm_get (lv_args 0 [.ref 77, .int x]) 0 = some (.ref 77) := rfl
  have L1 : pm_get (lv_args 0 [.ref 77, .int x]) 1 = some (.int x) := rfl
  generalize lv_args 0 [.ref 77, .int x] = lv at L0 L1 ⊢
  refine E_al rfl L0 ?_
  refine E_ci 0 rfl ci0 ?_
  refine E_pf rfl hh0 rfl ?_
  have hh1 : HH (pt h0 77 0 (nJ 0)) := HH_ptn hh0 rfl (by first | decide | with_reducible assumption | omega) (by first | decide | with_reducible assumption | omega) (by first | decide | with_reducible assumption | omega)
  have fr1 : fr_g VMI h0 (pt h0 77 0 (nJ 0)) := fr_ptr (l := 0) (u := 0) rfl (by first | decide | with_reducible assumption | omega) (by first | decide | with_reducible assumption | omega) (fr_rf VMI h0)
  have V0 : RV (pt h0 77 0 (nJ 0)) := RV_fr hh0 (M := [(77, 0, 0)]) rfl (fr_ptr (l := 0) (u := 0) rfl (by first | decide | with_reducible assumption | omega) (by first | decide | with_reducible assumption | omega) (fr_rf _ _)) hV
  refine E_il rfl L1 ?_
  refine E_i2l rfl ?_
  refine E_c rfl ?_
  refine E_c rfl ?_
  refine E_call rfl (sp_in (a := x.toInt) (b := 0) (c := 2) (i2l_toInt _) rfl rfl) (chkS rfl (by show 0 ≤ 8; decide)) (fun h2 r2 => ?_)
  rintro ⟨e2, f2⟩
  rw [e2, f2]
  show Ends _ _ (14, lv, [.int (zb (0 ≤ x.toInt ∧ x.toInt ≤ 2))], (pt h0 77 0 (nJ 0)), 0, 0) _
  by_cases hb3 : 0 ≤ x.toInt ∧ x.toInt ≤ 2
  · refine E_ifT rfl (by rw [zb_T hb3]; rfl) ?_
    obtain ⟨k, hk, rfl⟩ := nJ_of2 (n := 2) hb3.1 hb3.2
    refine E_al rfl L0 ?_
    refine E_ci 0 rfl ci0 ?_
    refine E_ci 1 rfl ci1 ?_
    refine E_il rfl L1 ?_
    refine E_bin rfl (nJ_add _ _) ?_
    refine E_call rfl (Sp_le (by first | exact Nat.add_le_add_left (Nat.le_of_ble_eq_true rfl) _ | exact Nat.le_of_ble_eq_true rfl | omega) (sp_copyStreet (d := 0) hh1 (by first | decide | with_reducible assumption | omega) (by first | decide | with_reducible assumption | omega) (by first | decide | with_reducible assumption | omega))) (chk77 hh1 rfl rfl (by show 0 ≤ 8; decide)) (fun h4 r4 => ?_)
    rintro ⟨e4, hh4, fq4, ka4, kb4, kc4, kd4⟩
    rw [e4]
    have fr4 : fr_g VMI h0 h4 := fr_trans fr1 (fr_wk rfl fq4)
    have V4 : RV h4 := ⟨fun r hr => if e : r = (1 + k) then (by rw [e]; exact ka4 (V0.1 _ (by first | decide | with_reducible assumption | omega))) else kc4 r (by first | decide | with_reducible assumption | omega) e (V0.1 r hr), fun r hr => if e : r = (1 + k) then (by rw [e]; exact kb4 (V0.2 _ (by first | decide | with_reducible assumption | omega))) else kd4 r (by first | decide | with_reducible assumption | omega) e (V0.2 r hr)⟩
    show Ends _ _ (28, lv, [], h4, 0, 0) _
    refine E_al rfl L0 ?_
    refine E_gr rfl hh4 (q := 88) rfl ?_
    refine E_il rfl L1 ?_
    refine E_ci 1 rfl ci1 ?_
    refine E_zas rfl hh4 (by first | decide | with_reducible assumption | omega) ?_
    have hh5 : HH (pt h4 88 k 1) := HH_pt hh4 (bd_u rfl (by first | decide | with_reducible assumption | omega)) (by decide) (by decide)
    have fr5 : fr_g VMI h0 (pt h4 88 k 1) := fr_ptr (l := 0) (u := 2) rfl (by first | decide | with_reducible assumption | omega) (by first | decide | with_reducible assumption | omega) fr4
    have V5 : RV (pt h4 88 k 1) := RV_fr hh4 (M := [(88, 0, 2)]) rfl (fr_ptr (l := 0) (u := 2) rfl (by first | decide | with_reducible assumption | omega) (by first | decide | with_reducible assumption | omega) (fr_rf _ _)) V4
    refine E_ci 0 rfl ci0 ?_
    exact E_rti rfl ⟨hh5, fr5, V5, by rw [imv_in hb3]; rfl, kp_in hh4 rfl (by first | decide | with_reducible assumption | omega) (fun j => by rw [fr_gi fq4 (rg_no rfl _), gi_ne (by first | exact gxx rfl | omega)])⟩
  · refine E_ifF rfl (by rw [zb_F hb3]; rfl) ?_
    refine E_c rfl ?_
    exact E_rti rfl ⟨hh1, fr1, V0, by rw [imv_no hb3], kp_out hb3 (fun j => gi_ne (by first | exact gxx rfl | omega))⟩
theorem tv_back {h0 : pm_H} {d : Nat} {x : Int32} (hh0 : HH h0) (hV : RV h0) : Sp (d + 40) 212 h0 [.ref 77, .int x] (fun h' r => HH h' ∧ fr_g VM h0 h' ∧ RV h' ∧ r = some (.int (bkv 88 h0 x))) := by
  refine Sp_of aiX9_back rfl rfl rfl ?_
  have L0 : pm_get (lv_args 0 [.ref 77, .int x]) 0 = some (.ref 77) := rfl
  have L1 : pm_get (lv_args 0 [.ref 77, .int x]) 1 = some (.int x) := rfl
  generalize lv_args 0 [.ref 77, .int x] = lv at L0 L1 ⊢
  refine E_al rfl L0 ?_
  refine E_ci 0 rfl ci0 ?_
  refine E_pf rfl hh0 rfl ?_
  have hh1 : HH (pt h0 77 0 (nJ 0)) := HH_ptn hh0 rfl (by first | decide | with_reducible assumption | omega) (by first | decide | with_reducible assumption | omega) (by first | decide | with_reducible assumption | omega)
  have fr1 : fr_g VM h0 (pt h0 77 0 (nJ 0)) := fr_ptr (l := 0) (u := 0) rfl (by first | decide | with_reducible assumption | omega) (by first | decide | with_reducible assumption | omega) (fr_rf VM h0)
  have V0 : RV (pt h0 77 0 (nJ 0)) := RV_fr hh0 (M := [(77, 0, 0)]) rfl (fr_ptr (l := 0) (u := 0) rfl (by first | decide | with_reducible assumption | omega) (by first | decide | with_reducible assumption | omega) (fr_rf _ _)) hV
  refine E_il rfl L1 ?_
  refine E_i2l rfl ?_
  refine E_c rfl ?_
  refine E_c rfl ?_
  refine E_call rfl (sp_in (a := x.toInt) (b := 0) (c := 2) (i2l_toInt _) rfl rfl) (chkS rfl (by show 0 ≤ 8; decide)) (fun h2 r2 => ?_)
  rintro ⟨e2, f2⟩
  rw [e2, f2]
  show Ends _ _ (14, lv, [.int (zb (0 ≤ x.toInt ∧ x.toInt ≤ 2))], (pt h0 77 0 (nJ 0)), 0, 0) _
  by_cases hb3 : 0 ≤ x.toInt ∧ x.toInt ≤ 2
  · refine E_ifT rfl (by rw [zb_T hb3]; rfl) ?_
    obtain ⟨k, hk, rfl⟩ := nJ_of2 (n := 2) hb3.1 hb3.2
    refine E_al rfl L0 ?_
    refine E_gr rfl hh1 (q := 88) rfl ?_
    refine E_il rfl L1 ?_
    refine E_zal rfl hh1 (by first | decide | with_reducible assumption | omega) ?_
    by_cases hb4 : ¬ (gi (pt h0 77 0 (nJ 0)) 88 k) = 0
    · refine E_ifT rfl (decide_eq_true hb4) ?_
      refine E_al rfl L0 ?_
      refine E_ci 1 rfl ci1 ?_
      refine E_il rfl L1 ?_
      refine E_bin rfl (nJ_add _ _) ?_
      refine E_ci 0 rfl ci0 ?_
      refine E_call rfl (Sp_le (by first | exact Nat.add_le_add_left (Nat.le_of_ble_eq_true rfl) _ | exact Nat.le_of_ble_eq_true rfl | omega) (sp_copyStreet (d := 0) hh1 (by first | decide | with_reducible assumption | omega) (by first | decide | with_reducible assumption | omega) (by first | decide | with_reducible assumption | omega))) (chk77 hh1 rfl rfl (by show 0 ≤ 8; decide)) (fun h5 r5 => ?_)
      rintro ⟨e5, hh5, fq5, ka5, kb5, kc5, kd5⟩
      rw [e5]
      have fr5 : fr_g VM h0 h5 := fr_trans fr1 (fr_wk rfl fq5)
      have V5 : RV h5 := ⟨fun r hr => if e : r = 0 then (by rw [e]; exact ka5 (V0.1 _ (by first | decide | with_reducible assumption | omega))) else kc5 r (by first | decide | with_reducible assumption | omega) e (V0.1 r hr), fun r hr => if e : r = 0 then (by rw [e]; exact kb5 (V0.2 _ (by first | decide | with_reducible assumption | omega))) else kd5 r (by first | decide | with_reducible assumption | omega) e (V0.2 r hr)⟩
      show Ends _ _ (40, lv, [], h5, 0, 0) _
      refine E_ci 0 rfl ci0 ?_
      exact E_rti rfl ⟨hh5, fr5, V5, by rw [bkv_0 (by first | decide | with_reducible assumption | omega) (by have q := hb4; rw [gi_ne (by first | exact gxx rfl | omega)] at q; exact q)]; rfl⟩
    · refine E_ifF rfl (decide_eq_false hb4) ?_
      refine E_c rfl ?_
      exact E_rti rfl ⟨hh1, fr1, V0, by rw [bkv_6 (by first | decide | with_reducible assumption | omega) (by have q := Classical.not_not.mp hb4; rw [gi_ne (by first | exact gxx rfl | omega)] at q; exact q)]⟩
  · refine E_ifF rfl (by rw [zb_F hb3]; rfl) ?_
    refine E_c rfl ?_
    exact E_rti rfl ⟨hh1, fr1, V0, by rw [bkv_no hb3]⟩
end
section
/-! by hand: street (written by gen_t19.py) -/
theorem bd_84r : ∀ k : Fin 6, (match bd 84 (24 + k.val) with | some q => decide (q.1 ≤ 0) && decide (0 ≤ q.2) | none => false) = true := by decide +kernel
theorem bd_84e {k : Nat} (hk : k < 6) : ∃ q, bd 84 (24 + k) = some q ∧ q.1 ≤ 0 ∧ 0 ≤ q.2 := by
  have h := bd_84r ⟨k, hk⟩
  dsimp only at h
  cases hb : bd 84 (24 + k) with
  | none => rw [hb] at h; cases h
  | some q =>
    rw [hb] at h
    simp only [Bool.and_eq_true, decide_eq_true_eq] at h
    exact ⟨q, rfl, h.1, h.2⟩
noncomputable def ZM : List Rng := [(83, 4, 4), (84, 24, 29)]
theorem cl_loop {h0 : pm_H} {d : Nat} (j : Nat) : ∀ {h : pm_H} {k : Nat} (lv : List (Nat × Value)), k + j = 6 → HH h → fr_g ZM h0 h → gi h 83 4 = nJ 0 → (∀ i, i < k → gn h 84 (24 + i) = 0) → pm_get lv 0 = some (.ref 77) → pm_get lv 1 = some (.int (nJ k)) → Ends (pm_at tX9_clears) (pm_Rt pm_P (d + 1)) (9, lv, [], h, 0, 0) (fun h' r => r = none ∧ HH h' ∧ fr_g ZM h0 h' ∧ gi h' 83 4 = nJ 0 ∧ ∀ i, i < 6 → gn h' 84 (24 + i) = 0) := by
  induction j with
  | zero =>
    intro h k lv hj hh hfr h83 hz L0 L1
    refine E_il rfl L1 ?_
    refine E_ci 6 rfl ci6 ?_
    refine E_icT rfl (decide_eq_true ((nJ_le (by first | decide | with_reducible assumption | omega) (by first | decide | with_reducible assumption | omega)).mpr (by first | decide | with_reducible assumption | omega))) ?_
    exact E_ret rfl ⟨rfl, hh, hfr, h83, fun i hi => hz i (by first | decide | with_reducible assumption | omega)⟩
  | succ j ih =>
    intro h k lv hj hh hfr h83 hz L0 L1
    refine E_il rfl L1 ?_
    refine E_ci 6 rfl ci6 ?_
    refine E_icF rfl (decide_eq_false (fun q => absurd ((nJ_le (by first | decide | with_reducible assumption | omega) (by first | decide | with_reducible assumption | omega)).mp q) (by first | decide | with_reducible assumption | omega))) ?_
    refine E_al rfl L0 ?_
    refine E_il rfl L1 ?_
    refine E_ci 0 rfl ci0 ?_
    obtain ⟨q, hq, q1, q2⟩ := bd_84e (k := k) (by first | decide | with_reducible assumption | omega)
    refine E_call rfl (sp_tells hh (by first | decide | with_reducible assumption | omega)) (chk77 hh rfl rfl (by show 0 ≤ 8; decide)) (fun h1 r1 => ?_)
    rintro ⟨e1, f1⟩
    have hhq : HH (pt h 84 (24 + k) (nJ 0)) := HH_pt hh hq (by show q.1 ≤ 0; exact q1) (by show 0 ≤ q.2; exact q2)
    rw [e1, f1]
    show Ends _ _ (21, lv, [], (pt h 84 (24 + k) (nJ 0)), 0, 0) _
    refine E_inc rfl L1 (nJ_inc _) (fun lv2 L2_1 kp2 => ?_)
    have L2_0 := kp2 0 _ (nbz rfl) rfl L0
    refine E_goto rfl ?_
    refine ih lv2 (by first | decide | with_reducible assumption | omega) hhq (fr_ptr (l := 24) (u := 29) rfl (by first | decide | with_reducible assumption | omega) (by first | decide | with_reducible assumption | omega) hfr) (by rw [gi_ne (by first | exact gxx rfl | omega)]; exact h83) (fun i hi => ?_) L2_0 L2_1
    by_cases e : i = k
    · rw [e]; exact gn_of (gi_pt hh hq (by show q.1 ≤ 0; exact q1) (by show 0 ≤ q.2; exact q2)) (by first | decide | with_reducible assumption | omega)
    · rw [gn_ne (fun _ => by omega)]; exact hz i (by first | decide | with_reducible assumption | omega)
theorem sp_clears {h0 : pm_H} {d : Nat} (hh0 : HH h0) : Sp (d + 2) 227 h0 [.ref 77] (fun h' r => r = none ∧ HH h' ∧ fr_g ZM h0 h' ∧ gi h' 83 4 = nJ 0 ∧ ∀ i, i < 6 → gn h' 84 (24 + i) = 0) := by
  refine Sp_of aiX9_clears rfl rfl rfl ?_
  refine E_al rfl (show pm_get (lv_args 0 [.ref 77]) 0 = _ from rfl) ?_
  refine E_gr rfl hh0 (q := 83) rfl ?_
  refine E_ci 4 rfl ci4 ?_
  refine E_ci 0 rfl ci0 ?_
  refine E_ias rfl hh0 rfl (by first | decide | with_reducible assumption | omega) (by decide) ?_
  have hh1 : HH (pt h0 83 4 (nJ 0)) := HH_ptn hh0 (bd_u rfl (by first | decide | with_reducible assumption | omega)) (by first | decide | with_reducible assumption | omega) (by first | decide | with_reducible assumption | omega) (by first | decide | with_reducible assumption | omega)
  have fr1 : fr_g ZM h0 (pt h0 83 4 (nJ 0)) := fr_ptr (l := 4) (u := 4) rfl (by first | decide | with_reducible assumption | omega) (by first | decide | with_reducible assumption | omega) (fr_rf ZM h0)
  refine E_ci 0 rfl ci0 ?_
  refine E_is rfl (fun lv2 L2_1 kp2 => ?_)
  have L2_0 := kp2 0 _ (nbz rfl) rfl (show pm_get (lv_args 0 [.ref 77]) 0 = _ from rfl)
  exact cl_loop 6 (k := 0) lv2 (by first | decide | with_reducible assumption | omega) hh1 fr1 (gi_pt hh0 (bd_u rfl (by first | decide | with_reducible assumption | omega)) (ai_lo _) (ai_hi _)) (fun i hi => absurd hi (Nat.not_lt_zero _)) L2_0 L2_1
theorem sp_isGood {h : pm_H} {d : Nat} (hh : HH h) : Sp (d + 1) 269 h [.ref 77] (fun h' r => h' = h ∧ (¬ gn h 77 12 = 0 ∧ r = some (.int (nJ 0)) ∨ gn h 77 12 = 0 ∧ r = some (.int (nJ 1)))) := by
  refine Sp_of aiX9_isGood rfl rfl rfl ?_
  refine E_al rfl (show pm_get (lv_args 0 [.ref 77]) 0 = _ from rfl) ?_
  have b1 : gn h 77 12 ≤ 3 := gn_hi hh rfl (by decide)
  refine E_gf rfl hh rfl (gi_gn hh rfl (by decide)) ?_
  by_cases hb2 : ¬ (gn h 77 12) = 0
  · refine E_ifT rfl (decide_eq_true (fun q => hb2 ((nJ_eq0 (by first | decide | with_reducible assumption | omega)).mp q))) ?_
    refine E_ci 0 rfl ci0 ?_
    exact E_rtz rfl (.inl rfl) ⟨rfl, .inl ⟨hb2, rfl⟩⟩
  · refine E_ifF rfl (decide_eq_false (fun q => hb2 (fun z => q ((nJ_eq0 (by first | decide | with_reducible assumption | omega)).mpr z)))) ?_
    refine E_ci 1 rfl ci1 ?_
    refine E_goto rfl ?_
    exact E_rtz rfl (.inr rfl) ⟨rfl, .inr ⟨Classical.not_not.mp hb2, rfl⟩⟩
theorem sp_over6 {h0 : pm_H} {d : Nat} (hh0 : HH h0) : Sp (d + 1) 275 h0 [.ref 77] (fun h' r => gn h' 77 6 = 0) := by
  refine Sp_of aiX9_isOver rfl rfl rfl ?_
  refine E_al rfl (show pm_get (lv_args 0 [.ref 77]) 0 = _ from rfl) ?_
  refine E_ci 0 rfl ci0 ?_
  refine E_pf rfl hh0 rfl ?_
  have hh1 : HH (pt h0 77 6 (nJ 0)) := HH_ptn hh0 rfl (by first | decide | with_reducible assumption | omega) (by first | decide | with_reducible assumption | omega) (by first | decide | with_reducible assumption | omega)
  have t1_0 : gn (pt h0 77 6 (nJ 0)) 77 6 = 0 := gn_ptn hh0 rfl (by first | decide | with_reducible assumption | omega) (by first | decide | with_reducible assumption | omega) (by first | decide | with_reducible assumption | omega)
  generalize hz1 : (pt h0 77 6 (nJ 0)) = g1 at hh1 t1_0 ⊢
  refine E_al rfl (show pm_get (lv_args 0 [.ref 77]) 0 = _ from rfl) ?_
  refine E_al rfl (show pm_get (lv_args 0 [.ref 77]) 0 = _ from rfl) ?_
  have b2 : gn g1 77 12 ≤ 3 := gn_hi hh1 rfl (by decide)
  refine E_gf rfl hh1 rfl (gi_gn hh1 rfl (by decide)) ?_
  refine E_pf rfl hh1 rfl ?_
  have hh3 : HH (pt g1 77 14 (nJ ((gn g1 77 12)))) := HH_ptn hh1 rfl (by first | decide | with_reducible assumption | omega) (by first | decide | with_reducible assumption | omega) (by first | decide | with_reducible assumption | omega)
  have t3_0 : gn (pt g1 77 14 (nJ ((gn g1 77 12)))) 77 6 = gn g1 77 6 := gn_ne (by first | exact gxx rfl | omega)
  generalize hz3 : (pt g1 77 14 (nJ ((gn g1 77 12)))) = g3 at hh3 t3_0 ⊢
  refine E_al rfl (show pm_get (lv_args 0 [.ref 77]) 0 = _ from rfl) ?_
  refine E_al rfl (show pm_get (lv_args 0 [.ref 77]) 0 = _ from rfl) ?_
  have b4 : gn g3 77 12 ≤ 3 := gn_hi hh3 rfl (by decide)
  refine E_gf rfl hh3 rfl (gi_gn hh3 rfl (by decide)) ?_
  by_cases hb5 : ¬ (gn g3 77 12) = 0
  · refine E_ifT rfl (decide_eq_true (fun q => hb5 ((nJ_eq0 (by first | decide | with_reducible assumption | omega)).mp q))) ?_
    refine E_al rfl (show pm_get (lv_args 0 [.ref 77]) 0 = _ from rfl) ?_
    refine E_gf rfl hh3 rfl (rfl) ?_
    refine E_pf rfl hh3 rfl ?_
    have hh6 : HH (pt g3 77 15 (gi g3 77 13)) := HH_pt hh3 rfl (ld_gi hh3 (a := 77) (k := 13) rfl).2.1 (ld_gi hh3 (a := 77) (k := 13) rfl).2.2
    have t6_0 : gn (pt g3 77 15 (gi g3 77 13)) 77 6 = gn g3 77 6 := gn_ne (by first | exact gxx rfl | omega)
    generalize hz6 : (pt g3 77 15 (gi g3 77 13)) = g6 at hh6 t6_0 ⊢
    exact E_ret rfl (by first | decide | with_reducible assumption | omega)
  · refine E_ifF rfl (decide_eq_false (fun q => hb5 (fun z => q ((nJ_eq0 (by first | decide | with_reducible assumption | omega)).mpr z)))) ?_
    refine E_c rfl ?_
    refine E_goto rfl ?_
    refine E_pf rfl hh3 rfl ?_
    have hh7 : HH (pt g3 77 15 (-1)) := HH_pt hh3 rfl (by decide) (by decide)
    have t7_0 : gn (pt g3 77 15 (-1)) 77 6 = gn g3 77 6 := gn_ne (by first | exact gxx rfl | omega)
    generalize hz7 : (pt g3 77 15 (-1)) = g7 at hh7 t7_0 ⊢
    exact E_ret rfl (by first | decide | with_reducible assumption | omega)
noncomputable def VMS : List Rng := (77, 6, 15) :: VM
noncomputable def VQS (h0 h' : pm_H) (r : Option Value) : Prop := HH h' ∧ fr_g VMS h0 h' ∧ RV h' ∧ gn h' 77 6 = 0 ∧ ∃ x : Int32, r = some (.int x)
noncomputable def STM : List Rng := [(77, 0, 0), (77, 6, 6), (77, 7, 15), (83, 4, 4), (84, 24, 29), (85, 64, 79), (86, 64, 79), (101, 0, 9)]
theorem RV_st {h0 h : pm_H} (hh0 : HH h0) (hf : fr_g STM h0 h) (V : RV h0) : RV h := RV_hi hh0 (fun k hk => fr_gn hf (rg_dis_in (l := 0) (u := 23) rfl (Nat.zero_le _) (by first | decide | with_reducible assumption | omega))) (fun k hk => fr_gn hf (rg_dis_in (l := 0) (u := 63) rfl (Nat.zero_le _) (by first | decide | with_reducible assumption | omega))) (fun k => fr_gn hf (rg_no rfl _)) V
theorem RI_4 {h : pm_H} (W : W4 h) : RI 4 h := by
  obtain ⟨w1, w2, w3, w4⟩ := W
  refine ⟨w1, w2, fun k hk => ?_⟩
  have hk : k < gn h 84 29 := hk
  omega
theorem JN_zero {h : pm_H} (h1 : gn h 84 28 = 0) : JN h := by
  unfold JN
  rw [h1]
  exact ⟨by omega, fun i hi => absurd hi (Nat.not_lt_zero _), rfl⟩
theorem st_end {h0 h : pm_H} {d : Nat} (hh0 : HH h0) (hV : RV h0) (lv : List (Nat × Value)) (hh : HH h) (hfr : fr_g STM h0 h) (hW : W4 h) (L0 : pm_get lv 0 = some (.ref 77)) : Ends (pm_at tX9_street) (pm_Rt pm_P (d + 39)) (118, lv, [], h, 0, 0) (VQS h0) := by
  refine E_al rfl L0 ?_
  refine E_call rfl (Sp_le (by first | exact Nat.add_le_add_left (Nat.le_of_ble_eq_true rfl) _ | exact Nat.le_of_ble_eq_true rfl | omega) (Sp_and (sp_isOver (d := 0) hh) (sp_over6 (d := 0) hh))) (chk77 hh rfl rfl (by show 0 ≤ 8; decide)) (fun h1 r1 => ?_)
  rintro ⟨⟨e1, hh1, fq1⟩, n61⟩
  rw [e1]
  have fr1 : fr_g STM h0 h1 := fr_trans hfr (fr_wk rfl fq1)
  have wy1 : W4 h1 := W4_fr rfl fq1 hW
  show Ends _ _ (122, lv, [], h1, 0, 0) _
  refine E_al rfl L0 ?_
  have b2 : gn h1 77 12 ≤ 3 := gn_hi hh1 rfl (by decide)
  refine E_gf rfl hh1 rfl (gi_gn hh1 rfl (by decide)) ?_
  by_cases hb3 : (gn h1 77 12) = 0
  · refine E_ifT rfl (decide_eq_true ((nJ_eq0 (by first | decide | with_reducible assumption | omega)).mpr hb3)) ?_
    refine E_al rfl L0 ?_
    refine E_ci 4 rfl ci4 ?_
    refine E_ci 0 rfl ci0 ?_
    refine E_call rfl (Sp_le (by first | exact Nat.add_le_add_left (Nat.le_of_ble_eq_true rfl) _ | exact Nat.le_of_ble_eq_true rfl | omega) (sp_copyStreet (d := 0) hh1 (by first | decide | with_reducible assumption | omega) (by first | decide | with_reducible assumption | omega) (by first | decide | with_reducible assumption | omega))) (chk77 hh1 rfl rfl (by show 0 ≤ 8; decide)) (fun h4 r4 => ?_)
    rintro ⟨e4, hh4, fq4, ka4, kb4, kc4, kd4⟩
    rw [e4]
    have V1 := RV_st hh0 fr1 hV
    have V4 : RV h4 := ⟨fun r hr => if e : r = 0 then (by rw [e]; exact ka4 (RI_4 wy1)) else kc4 r (by first | decide | with_reducible assumption | omega) e (V1.1 r hr), fun r hr => if e : r = 0 then (by rw [e]; exact kb4 (V1.2 4 (by first | decide | with_reducible assumption | omega))) else kd4 r (by first | decide | with_reducible assumption | omega) e (V1.2 r hr)⟩
    have fw4 : fr_g VMS h0 h4 := fr_trans (fr_wk rfl fr1) (fr_wk rfl fq4)
    have m64 : gn h4 77 6 = 0 := (fr_gn fq4 (rg_no rfl _)).trans n61
    show Ends _ _ (138, lv, [], h4, 0, 0) _
    refine E_al rfl L0 ?_
    refine E_gr rfl hh4 (q := 83) rfl ?_
    refine E_ci 0 rfl ci0 ?_
    refine E_ial rfl hh4 rfl (by first | decide | with_reducible assumption | omega) (by decide) (show gi h4 83 0 = (gi h4 83 0) from rfl) ?_
    exact E_rti rfl ⟨hh4, fw4, V4, m64, _, rfl⟩
  · refine E_ifF rfl (decide_eq_false (fun q => hb3 ((nJ_eq0 (by first | decide | with_reducible assumption | omega)).mp q))) ?_
    refine E_c rfl ?_
    exact E_rti rfl ⟨hh1, fr_wk rfl fr1, RV_st hh0 fr1 hV, n61, _, rfl⟩
theorem st_loop {h0 : pm_H} {d : Nat} (hh0 : HH h0) (hV : RV h0) (u : Nat) : ∀ {h : pm_H} {L : Nat} (lv : List (Nat × Value)), HH h → gn h 77 9 ≤ gn h 77 7 → gn h 77 7 ≤ gn h 77 6 → (gn h 77 8 = 0 ∨ gn h 77 9 < gn h 77 7) → fr_g STM h0 h → W4 h → gi h 83 4 = nJ L → L ≤ 501 → (gn h 77 12 = 0 → L ≤ gn h 77 9) → (L = 0 → gn h 84 27 = 0) → (gn h 77 12 = 0 → 501 ≤ u + gn h 77 9) → pm_get lv 0 = some (.ref 77) → Ends (pm_at tX9_street) (pm_Rt pm_P (d + 39)) (13, lv, [], h, 0, 0) (VQS h0) := by
  induction u with
  | zero =>
    intro h L lv hh hr1 hr2 hr3 hfr hW hl hL1 hL2 hcar hu L0
    have h5 := b500 hh
    refine E_al rfl L0 ?_
    refine E_call rfl (Sp_le (by first | exact Nat.add_le_add_left (Nat.le_of_ble_eq_true rfl) _ | exact Nat.le_of_ble_eq_true rfl | omega) (sp_isGood (d := 0) hh)) (chk77 hh rfl rfl (by show 0 ≤ 8; decide)) (fun h1 r1 => ?_)
    rintro ⟨e1, f1⟩
    rw [e1]
    rcases f1 with ⟨gd1, f1⟩ | ⟨gd1, f1⟩
    · rw [f1]
      show Ends _ _ (17, lv, [.int (nJ 0)], h, 0, 0) _
      refine E_ifT rfl (by decide) ?_
      exact st_end hh0 hV lv hh hfr hW L0
    · rw [f1]
      show Ends _ _ (17, lv, [.int (nJ 1)], h, 0, 0) _
      refine E_ifF rfl (by decide) ?_
      refine E_al rfl L0 ?_
      have b2 : gn h 77 8 ≤ 4 := gn_hi hh rfl (by decide)
      refine E_gf rfl hh rfl (gi_gn hh rfl (by decide)) ?_
      by_cases hb3 : (gn h 77 8) = 0
      · refine E_ifT rfl (decide_eq_true ((nJ_eq0 (by first | decide | with_reducible assumption | omega)).mpr hb3)) ?_
        exact st_end hh0 hV lv hh hfr hW L0
      · refine E_ifF rfl (decide_eq_false (fun q => hb3 ((nJ_eq0 (by first | decide | with_reducible assumption | omega)).mp q))) ?_
        exfalso; omega
  | succ u ih =>
    intro h L lv hh hr1 hr2 hr3 hfr hW hl hL1 hL2 hcar hu L0
    have h5 := b500 hh
    refine E_al rfl L0 ?_
    refine E_call rfl (Sp_le (by first | exact Nat.add_le_add_left (Nat.le_of_ble_eq_true rfl) _ | exact Nat.le_of_ble_eq_true rfl | omega) (sp_isGood (d := 0) hh)) (chk77 hh rfl rfl (by show 0 ≤ 8; decide)) (fun h1 r1 => ?_)
    rintro ⟨e1, f1⟩
    rw [e1]
    rcases f1 with ⟨gd1, f1⟩ | ⟨gd1, f1⟩
    · rw [f1]
      show Ends _ _ (17, lv, [.int (nJ 0)], h, 0, 0) _
      refine E_ifT rfl (by decide) ?_
      exact st_end hh0 hV lv hh hfr hW L0
    · rw [f1]
      show Ends _ _ (17, lv, [.int (nJ 1)], h, 0, 0) _
      refine E_ifF rfl (by decide) ?_
      refine E_al rfl L0 ?_
      have b2 : gn h 77 8 ≤ 4 := gn_hi hh rfl (by decide)
      refine E_gf rfl hh rfl (gi_gn hh rfl (by decide)) ?_
      by_cases hb3 : (gn h 77 8) = 0
      · refine E_ifT rfl (decide_eq_true ((nJ_eq0 (by first | decide | with_reducible assumption | omega)).mpr hb3)) ?_
        exact st_end hh0 hV lv hh hfr hW L0
      · refine E_ifF rfl (decide_eq_false (fun q => hb3 ((nJ_eq0 (by first | decide | with_reducible assumption | omega)).mp q))) ?_
        refine E_al rfl L0 ?_
        refine E_gr rfl hh (q := 83) rfl ?_
        refine E_ci 4 rfl ci4 ?_
        refine E_ial rfl hh rfl (by first | decide | with_reducible assumption | omega) (by decide) (show gi h 83 4 = nJ L from hl) ?_
        by_cases hb4 : ¬ L = 0
        · refine E_ifT rfl (decide_eq_true (fun q => hb4 ((nJ_eq0 (by first | decide | with_reducible assumption | omega)).mp q))) ?_
          refine E_al rfl L0 ?_
          refine E_call rfl (Sp_le (by first | exact Nat.add_le_add_left (Nat.le_of_ble_eq_true rfl) _ | exact Nat.le_of_ble_eq_true rfl | omega) (sp_lineHere (d := 0) hh (by first | decide | with_reducible assumption | omega) (by first | decide | with_reducible assumption | omega) (by first | decide | with_reducible assumption | omega) hW)) (chk77 hh rfl rfl (by show 0 ≤ 8; decide)) (fun h5 r5 => ?_)
          rintro ⟨e5, ⟨hh5, ra5, rb5, rc5⟩, fq5, mo5, wy5⟩
          rw [e5]
          have fr5 : fr_g STM h0 h5 := fr_trans hfr (fr_wk rfl fq5)
          have l5 : gi h5 83 4 = nJ L := by rw [fr_gi fq5 (rg_no rfl _)]; exact hl
          show Ends _ _ (94, lv, [], h5, 0, 0) _
          refine E_al rfl L0 ?_
          refine E_call rfl (Sp_le (by first | exact Nat.add_le_add_left (Nat.le_of_ble_eq_true rfl) _ | exact Nat.le_of_ble_eq_true rfl | omega) (sp_isGood (d := 0) hh5)) (chk77 hh5 rfl rfl (by show 0 ≤ 8; decide)) (fun h6 r6 => ?_)
          rintro ⟨e6, f6⟩
          rw [e6]
          rcases f6 with ⟨gd6, f6⟩ | ⟨gd6, f6⟩
          · rw [f6]
            show Ends _ _ (98, lv, [.int (nJ 0)], h5, 0, 0) _
            refine E_ifT rfl (by decide) ?_
            refine E_al rfl L0 ?_
            refine E_gr rfl hh5 (q := 83) rfl ?_
            refine E_ci 4 rfl ci4 ?_
            refine E_dup2 rfl rfl rfl ?_
            refine E_ial rfl hh5 rfl (by first | decide | with_reducible assumption | omega) (by decide) (show gi h5 83 4 = nJ L from l5) ?_
            refine E_ci 1 rfl ci1 ?_
            refine E_bin rfl (nJ_add _ _) ?_
            refine E_ias rfl hh5 rfl (by first | decide | with_reducible assumption | omega) (by decide) ?_
            have hh7 : HH (pt h5 83 4 (nJ ((L + 1)))) := HH_ptn hh5 (bd_u rfl (by first | decide | with_reducible assumption | omega)) (by first | decide | with_reducible assumption | omega) (by first | decide | with_reducible assumption | omega) (by first | decide | with_reducible assumption | omega)
            have fr7 : fr_g STM h0 (pt h5 83 4 (nJ ((L + 1)))) := fr_ptr (l := 4) (u := 4) rfl (by first | decide | with_reducible assumption | omega) (by first | decide | with_reducible assumption | omega) fr5
            have t7_0 : gn (pt h5 83 4 (nJ ((L + 1)))) 77 6 = gn h5 77 6 := gn_ne (by first | exact gxx rfl | omega)
            have t7_1 : gn (pt h5 83 4 (nJ ((L + 1)))) 77 7 = gn h5 77 7 := gn_ne (by first | exact gxx rfl | omega)
            have t7_2 : gn (pt h5 83 4 (nJ ((L + 1)))) 77 8 = gn h5 77 8 := gn_ne (by first | exact gxx rfl | omega)
            have t7_3 : gn (pt h5 83 4 (nJ ((L + 1)))) 77 9 = gn h5 77 9 := gn_ne (by first | exact gxx rfl | omega)
            have t7_4 : gn (pt h5 83 4 (nJ ((L + 1)))) 77 12 = gn h5 77 12 := gn_ne (by first | exact gxx rfl | omega)
            have t7_5 : gn (pt h5 83 4 (nJ ((L + 1)))) 84 24 = gn h5 84 24 := gn_ne (by first | exact gxx rfl | omega)
            have t7_6 : gn (pt h5 83 4 (nJ ((L + 1)))) 84 27 = gn h5 84 27 := gn_ne (by first | exact gxx rfl | omega)
            have t7_7 : gn (pt h5 83 4 (nJ ((L + 1)))) 84 28 = gn h5 84 28 := gn_ne (by first | exact gxx rfl | omega)
            have t7_8 : gn (pt h5 83 4 (nJ ((L + 1)))) 84 29 = gn h5 84 29 := gn_ne (by first | exact gxx rfl | omega)
            generalize hz7 : (pt h5 83 4 (nJ ((L + 1)))) = g7 at hh7 fr7 t7_0 t7_1 t7_2 t7_3 t7_4 t7_5 t7_6 t7_7 t7_8 ⊢
            refine E_goto rfl ?_
            exact ih (L := L + 1) lv hh7 (by first | decide | with_reducible assumption | omega) (by first | decide | with_reducible assumption | omega) (by first | decide | with_reducible assumption | omega) fr7 (W4_eq (fun k => by rw [← hz7]; exact gn_ne (by first | exact gxx rfl | omega)) (fun k => by rw [← hz7]; exact gn_ne (by first | exact gxx rfl | omega)) (fun k => by rw [← hz7]; exact gn_ne (by first | exact gxx rfl | omega)) wy5) (by rw [← hz7]; exact gi_pt hh5 (bd_u rfl (by first | decide | with_reducible assumption | omega)) (ai_lo _) (ai_hi _)) (by first | decide | with_reducible assumption | omega) (fun q => by omega) (fun q => by omega) (fun q => by omega) L0
          · rw [f6]
            show Ends _ _ (98, lv, [.int (nJ 1)], h5, 0, 0) _
            refine E_ifF rfl (by decide) ?_
            refine E_al rfl L0 ?_
            refine E_call rfl (Sp_le (by first | exact Nat.add_le_add_left (Nat.le_of_ble_eq_true rfl) _ | exact Nat.le_of_ble_eq_true rfl | omega) (sp_closes (d := 0) hh5 (by first | decide | with_reducible assumption | omega) (by first | decide | with_reducible assumption | omega) (by first | decide | with_reducible assumption | omega))) (chk77 hh5 rfl rfl (by show 0 ≤ 8; decide)) (fun h8 r8 => ?_)
            rintro ⟨e8, ⟨hh8, ra8, rb8, rc8⟩, fq8, mo8, cl8⟩
            rw [e8]
            have fr8 : fr_g STM h0 h8 := fr_trans fr5 (fr_wk rfl fq8)
            have wy8 : W4 h8 := W4_fr rfl fq8 wy5
            have l8 : gi h8 83 4 = nJ L := by rw [fr_gi fq8 (rg_no rfl _)]; exact l5
            show Ends _ _ (105, lv, [], h8, 0, 0) _
            refine E_al rfl L0 ?_
            refine E_gr rfl hh8 (q := 83) rfl ?_
            refine E_ci 4 rfl ci4 ?_
            refine E_dup2 rfl rfl rfl ?_
            refine E_ial rfl hh8 rfl (by first | decide | with_reducible assumption | omega) (by decide) (show gi h8 83 4 = nJ L from l8) ?_
            refine E_ci 1 rfl ci1 ?_
            refine E_bin rfl (nJ_add _ _) ?_
            refine E_ias rfl hh8 rfl (by first | decide | with_reducible assumption | omega) (by decide) ?_
            have hh9 : HH (pt h8 83 4 (nJ ((L + 1)))) := HH_ptn hh8 (bd_u rfl (by first | decide | with_reducible assumption | omega)) (by first | decide | with_reducible assumption | omega) (by first | decide | with_reducible assumption | omega) (by first | decide | with_reducible assumption | omega)
            have fr9 : fr_g STM h0 (pt h8 83 4 (nJ ((L + 1)))) := fr_ptr (l := 4) (u := 4) rfl (by first | decide | with_reducible assumption | omega) (by first | decide | with_reducible assumption | omega) fr8
            have t9_0 : gn (pt h8 83 4 (nJ ((L + 1)))) 77 6 = gn h8 77 6 := gn_ne (by first | exact gxx rfl | omega)
            have t9_1 : gn (pt h8 83 4 (nJ ((L + 1)))) 77 7 = gn h8 77 7 := gn_ne (by first | exact gxx rfl | omega)
            have t9_2 : gn (pt h8 83 4 (nJ ((L + 1)))) 77 8 = gn h8 77 8 := gn_ne (by first | exact gxx rfl | omega)
            have t9_3 : gn (pt h8 83 4 (nJ ((L + 1)))) 77 9 = gn h8 77 9 := gn_ne (by first | exact gxx rfl | omega)
            have t9_4 : gn (pt h8 83 4 (nJ ((L + 1)))) 77 12 = gn h8 77 12 := gn_ne (by first | exact gxx rfl | omega)
            have t9_5 : gn (pt h8 83 4 (nJ ((L + 1)))) 84 24 = gn h8 84 24 := gn_ne (by first | exact gxx rfl | omega)
            have t9_6 : gn (pt h8 83 4 (nJ ((L + 1)))) 84 27 = gn h8 84 27 := gn_ne (by first | exact gxx rfl | omega)
            have t9_7 : gn (pt h8 83 4 (nJ ((L + 1)))) 84 28 = gn h8 84 28 := gn_ne (by first | exact gxx rfl | omega)
            have t9_8 : gn (pt h8 83 4 (nJ ((L + 1)))) 84 29 = gn h8 84 29 := gn_ne (by first | exact gxx rfl | omega)
            generalize hz9 : (pt h8 83 4 (nJ ((L + 1)))) = g9 at hh9 fr9 t9_0 t9_1 t9_2 t9_3 t9_4 t9_5 t9_6 t9_7 t9_8 ⊢
            refine E_goto rfl ?_
            exact ih (L := L + 1) lv hh9 (by first | decide | with_reducible assumption | omega) (by first | decide | with_reducible assumption | omega) (by first | decide | with_reducible assumption | omega) fr9 (W4_eq (fun k => by rw [← hz9]; exact gn_ne (by first | exact gxx rfl | omega)) (fun k => by rw [← hz9]; exact gn_ne (by first | exact gxx rfl | omega)) (fun k => by rw [← hz9]; exact gn_ne (by first | exact gxx rfl | omega)) wy8) (by rw [← hz9]; exact gi_pt hh8 (bd_u rfl (by first | decide | with_reducible assumption | omega)) (ai_lo _) (ai_hi _)) (by first | decide | with_reducible assumption | omega) (fun q => by omega) (fun q => by omega) (fun q => by omega) L0
        · refine E_ifF rfl (decide_eq_false (fun q => hb4 (fun z => q ((nJ_eq0 (by first | decide | with_reducible assumption | omega)).mpr z)))) ?_
          have hL0 : L = 0 := Classical.not_not.mp hb4
          have hcr := hcar hL0
          refine E_al rfl L0 ?_
          refine E_c rfl ?_
          refine E_call rfl (Sp_le (by first | exact Nat.add_le_add_left (Nat.le_of_ble_eq_true rfl) _ | exact Nat.le_of_ble_eq_true rfl | omega) (sp_asks (d := 0) hh (by first | decide | with_reducible assumption | omega) (by first | decide | with_reducible assumption | omega) (by first | decide | with_reducible assumption | omega))) (chk77 hh rfl rfl (by show 0 ≤ 8; decide)) (fun h10 r10 => ?_)
          rintro ⟨e10, ⟨hh10, ra10, rb10, rc10⟩, fq10, mo10, bd10⟩
          rw [e10]
          have fr10 : fr_g STM h0 h10 := fr_trans hfr (fr_wk rfl fq10)
          have t10_0 : gn h10 77 6 = gn h 77 6 := fr_gn fq10 rfl
          have t10_5 : gn h10 84 24 = gn h 84 24 := fr_gn fq10 rfl
          have t10_6 : gn h10 84 27 = gn h 84 27 := fr_gn fq10 rfl
          have t10_7 : gn h10 84 28 = gn h 84 28 := fr_gn fq10 rfl
          have t10_8 : gn h10 84 29 = gn h 84 29 := fr_gn fq10 rfl
          show Ends _ _ (43, lv, [], h10, 0, 0) _
          have wy10 : W4 h10 := W4_fr rfl fq10 hW
          have l10 : gi h10 83 4 = nJ L := by rw [fr_gi fq10 (rg_no rfl _)]; exact hl
          refine E_al rfl L0 ?_
          refine E_ci 0 rfl ci0 ?_
          refine E_al rfl L0 ?_
          refine E_c rfl ?_
          refine E_ci 1 rfl ci1 ?_
          refine E_ci 8 rfl ci8 ?_
          refine E_call rfl (Sp_le (by first | exact Nat.add_le_add_left (Nat.le_of_ble_eq_true rfl) _ | exact Nat.le_of_ble_eq_true rfl | omega) (sp_number_ (d := 0) hh10 (by first | decide | with_reducible assumption | omega) (by first | decide | with_reducible assumption | omega) (by first | decide | with_reducible assumption | omega) (by first | decide | with_reducible assumption | omega) (by first | decide | with_reducible assumption | omega))) (chk77 hh10 rfl rfl (by show 2 ≤ 8; decide)) (fun h11 r11 => ?_)
          rintro ⟨⟨hh11, ra11, rb11, rc11⟩, fq11, mo11, v11, va11, vb11, f11, vc11⟩
          rw [f11]
          have fr11 : fr_g STM h0 h11 := fr_trans fr10 (fr_wk rfl fq11)
          have t11_0 : gn h11 77 6 = gn h10 77 6 := fr_gn fq11 rfl
          have t11_5 : gn h11 84 24 = gn h10 84 24 := fr_gn fq11 rfl
          have t11_6 : gn h11 84 27 = gn h10 84 27 := fr_gn fq11 rfl
          have t11_7 : gn h11 84 28 = gn h10 84 28 := fr_gn fq11 rfl
          have t11_8 : gn h11 84 29 = gn h10 84 29 := fr_gn fq11 rfl
          have u11 : ∀ k, gn h11 85 k = gn h10 85 k := fun k => fr_gn fq11 (rg_no rfl _)
          show Ends _ _ (55, lv, [.int (nJ v11), .int (nJ 0), .ref 77], h11, 0, 0) _
          have wy11 : W4 h11 := W4_fr rfl fq11 wy10
          have l11 : gi h11 83 4 = nJ L := by rw [fr_gi fq11 (rg_no rfl _)]; exact l10
          refine E_call rfl (Sp_le (by first | exact Nat.add_le_add_left (Nat.le_of_ble_eq_true rfl) _ | exact Nat.le_of_ble_eq_true rfl | omega) (sp_tells (d := 0) hh11 (by first | decide | with_reducible assumption | omega))) (chk77 hh11 rfl rfl (by show 0 ≤ 8; decide)) (fun h12 r12 => ?_)
          rintro ⟨e12, f12⟩
          have hh12 : HH (pt h11 84 24 (nJ v11)) := HH_ptn hh11 rfl (by first | decide | with_reducible assumption | omega) (by first | decide | with_reducible assumption | omega) (by first | decide | with_reducible assumption | omega)
          have fr12 : fr_g STM h0 (pt h11 84 24 (nJ v11)) := fr_ptr (l := 24) (u := 24) rfl (by first | decide | with_reducible assumption | omega) (by first | decide | with_reducible assumption | omega) fr11
          have t12_0 : gn (pt h11 84 24 (nJ v11)) 77 6 = gn h11 77 6 := gn_ne (by first | exact gxx rfl | omega)
          have t12_1 : gn (pt h11 84 24 (nJ v11)) 77 7 = gn h11 77 7 := gn_ne (by first | exact gxx rfl | omega)
          have t12_2 : gn (pt h11 84 24 (nJ v11)) 77 8 = gn h11 77 8 := gn_ne (by first | exact gxx rfl | omega)
          have t12_3 : gn (pt h11 84 24 (nJ v11)) 77 9 = gn h11 77 9 := gn_ne (by first | exact gxx rfl | omega)
          have t12_4 : gn (pt h11 84 24 (nJ v11)) 77 12 = gn h11 77 12 := gn_ne (by first | exact gxx rfl | omega)
          have t12_5 : gn (pt h11 84 24 (nJ v11)) 84 24 = v11 := gn_ptn hh11 rfl (by first | decide | with_reducible assumption | omega) (by first | decide | with_reducible assumption | omega) (by first | decide | with_reducible assumption | omega)
          have t12_6 : gn (pt h11 84 24 (nJ v11)) 84 27 = gn h11 84 27 := gn_ne (by first | exact gxx rfl | omega)
          have t12_7 : gn (pt h11 84 24 (nJ v11)) 84 28 = gn h11 84 28 := gn_ne (by first | exact gxx rfl | omega)
          have t12_8 : gn (pt h11 84 24 (nJ v11)) 84 29 = gn h11 84 29 := gn_ne (by first | exact gxx rfl | omega)
          have u12 : ∀ k, gn (pt h11 84 24 (nJ v11)) 85 k = gn h11 85 k := fun k => gn_ne (by first | exact gxx rfl | omega)
          have y12 : ∀ k, gn (pt h11 84 24 (nJ v11)) 86 k = gn h11 86 k := fun k => gn_ne (by first | exact gxx rfl | omega)
          rw [e12, f12]
          show Ends _ _ (58, lv, [], (pt h11 84 24 (nJ v11)), 0, 0) _
          generalize hz12 : (pt h11 84 24 (nJ v11)) = g12 at hh12 fr12 t12_0 t12_1 t12_2 t12_3 t12_4 t12_5 t12_6 t12_7 t12_8 u12 y12 ⊢
          have wy12 : W4 g12 := by
            have wo := wy11
            refine ⟨by omega, fun c hc => by omega, JN_eq (by first | decide | with_reducible assumption | omega) y12 wo.2.2.1, by have := wo.2.2.2; omega⟩
          have l12 : gi g12 83 4 = nJ L := by rw [← hz12, gi_ne (by first | exact gxx rfl | omega)]; exact l11
          refine E_al rfl L0 ?_
          refine E_ci 1 rfl ci1 ?_
          refine E_al rfl L0 ?_
          refine E_c rfl ?_
          refine E_ci 0 rfl ci0 ?_
          refine E_ci 3 rfl ci3 ?_
          refine E_call rfl (Sp_le (by first | exact Nat.add_le_add_left (Nat.le_of_ble_eq_true rfl) _ | exact Nat.le_of_ble_eq_true rfl | omega) (sp_number_ (d := 0) hh12 (by first | decide | with_reducible assumption | omega) (by first | decide | with_reducible assumption | omega) (by first | decide | with_reducible assumption | omega) (by first | decide | with_reducible assumption | omega) (by first | decide | with_reducible assumption | omega))) (chk77 hh12 rfl rfl (by show 2 ≤ 8; decide)) (fun h13 r13 => ?_)
          rintro ⟨⟨hh13, ra13, rb13, rc13⟩, fq13, mo13, v13, va13, vb13, f13, vc13⟩
          rw [f13]
          have fr13 : fr_g STM h0 h13 := fr_trans fr12 (fr_wk rfl fq13)
          have t13_0 : gn h13 77 6 = gn g12 77 6 := fr_gn fq13 rfl
          have t13_5 : gn h13 84 24 = gn g12 84 24 := fr_gn fq13 rfl
          have t13_6 : gn h13 84 27 = gn g12 84 27 := fr_gn fq13 rfl
          have t13_7 : gn h13 84 28 = gn g12 84 28 := fr_gn fq13 rfl
          have t13_8 : gn h13 84 29 = gn g12 84 29 := fr_gn fq13 rfl
          have u13 : ∀ k, gn h13 85 k = gn g12 85 k := fun k => fr_gn fq13 (rg_no rfl _)
          show Ends _ _ (69, lv, [.int (nJ v13), .int (nJ 1), .ref 77], h13, 0, 0) _
          have wy13 : W4 h13 := W4_fr rfl fq13 wy12
          have l13 : gi h13 83 4 = nJ L := by rw [fr_gi fq13 (rg_no rfl _)]; exact l12
          refine E_call rfl (Sp_le (by first | exact Nat.add_le_add_left (Nat.le_of_ble_eq_true rfl) _ | exact Nat.le_of_ble_eq_true rfl | omega) (sp_tells (d := 0) hh13 (by first | decide | with_reducible assumption | omega))) (chk77 hh13 rfl rfl (by show 0 ≤ 8; decide)) (fun h14 r14 => ?_)
          rintro ⟨e14, f14⟩
          have hh14 : HH (pt h13 84 25 (nJ v13)) := HH_ptn hh13 rfl (by first | decide | with_reducible assumption | omega) (by first | decide | with_reducible assumption | omega) (by first | decide | with_reducible assumption | omega)
          have fr14 : fr_g STM h0 (pt h13 84 25 (nJ v13)) := fr_ptr (l := 25) (u := 25) rfl (by first | decide | with_reducible assumption | omega) (by first | decide | with_reducible assumption | omega) fr13
          have t14_0 : gn (pt h13 84 25 (nJ v13)) 77 6 = gn h13 77 6 := gn_ne (by first | exact gxx rfl | omega)
          have t14_1 : gn (pt h13 84 25 (nJ v13)) 77 7 = gn h13 77 7 := gn_ne (by first | exact gxx rfl | omega)
          have t14_2 : gn (pt h13 84 25 (nJ v13)) 77 8 = gn h13 77 8 := gn_ne (by first | exact gxx rfl | omega)
          have t14_3 : gn (pt h13 84 25 (nJ v13)) 77 9 = gn h13 77 9 := gn_ne (by first | exact gxx rfl | omega)
          have t14_4 : gn (pt h13 84 25 (nJ v13)) 77 12 = gn h13 77 12 := gn_ne (by first | exact gxx rfl | omega)
          have t14_5 : gn (pt h13 84 25 (nJ v13)) 84 24 = gn h13 84 24 := gn_ne (by first | exact gxx rfl | omega)
          have t14_6 : gn (pt h13 84 25 (nJ v13)) 84 27 = gn h13 84 27 := gn_ne (by first | exact gxx rfl | omega)
          have t14_7 : gn (pt h13 84 25 (nJ v13)) 84 28 = gn h13 84 28 := gn_ne (by first | exact gxx rfl | omega)
          have t14_8 : gn (pt h13 84 25 (nJ v13)) 84 29 = gn h13 84 29 := gn_ne (by first | exact gxx rfl | omega)
          have u14 : ∀ k, gn (pt h13 84 25 (nJ v13)) 85 k = gn h13 85 k := fun k => gn_ne (by first | exact gxx rfl | omega)
          have y14 : ∀ k, gn (pt h13 84 25 (nJ v13)) 86 k = gn h13 86 k := fun k => gn_ne (by first | exact gxx rfl | omega)
          rw [e14, f14]
          show Ends _ _ (72, lv, [], (pt h13 84 25 (nJ v13)), 0, 0) _
          generalize hz14 : (pt h13 84 25 (nJ v13)) = g14 at hh14 fr14 t14_0 t14_1 t14_2 t14_3 t14_4 t14_5 t14_6 t14_7 t14_8 u14 y14 ⊢
          have wy14 : W4 g14 := by
            have wo := wy13
            refine ⟨by omega, fun c hc => by omega, JN_eq (by first | decide | with_reducible assumption | omega) y14 wo.2.2.1, by have := wo.2.2.2; omega⟩
          have l14 : gi g14 83 4 = nJ L := by rw [← hz14, gi_ne (by first | exact gxx rfl | omega)]; exact l13
          refine E_al rfl L0 ?_
          refine E_ci 2 rfl ci2 ?_
          refine E_al rfl L0 ?_
          refine E_c rfl ?_
          refine E_ci 0 rfl ci0 ?_
          refine E_ci 10 rfl ci10 ?_
          refine E_call rfl (Sp_le (by first | exact Nat.add_le_add_left (Nat.le_of_ble_eq_true rfl) _ | exact Nat.le_of_ble_eq_true rfl | omega) (sp_number_ (d := 0) hh14 (by first | decide | with_reducible assumption | omega) (by first | decide | with_reducible assumption | omega) (by first | decide | with_reducible assumption | omega) (by first | decide | with_reducible assumption | omega) (by first | decide | with_reducible assumption | omega))) (chk77 hh14 rfl rfl (by show 2 ≤ 8; decide)) (fun h15 r15 => ?_)
          rintro ⟨⟨hh15, ra15, rb15, rc15⟩, fq15, mo15, v15, va15, vb15, f15, vc15⟩
          rw [f15]
          have fr15 : fr_g STM h0 h15 := fr_trans fr14 (fr_wk rfl fq15)
          have t15_0 : gn h15 77 6 = gn g14 77 6 := fr_gn fq15 rfl
          have t15_5 : gn h15 84 24 = gn g14 84 24 := fr_gn fq15 rfl
          have t15_6 : gn h15 84 27 = gn g14 84 27 := fr_gn fq15 rfl
          have t15_7 : gn h15 84 28 = gn g14 84 28 := fr_gn fq15 rfl
          have t15_8 : gn h15 84 29 = gn g14 84 29 := fr_gn fq15 rfl
          have u15 : ∀ k, gn h15 85 k = gn g14 85 k := fun k => fr_gn fq15 (rg_no rfl _)
          show Ends _ _ (84, lv, [.int (nJ v15), .int (nJ 2), .ref 77], h15, 0, 0) _
          have wy15 : W4 h15 := W4_fr rfl fq15 wy14
          have l15 : gi h15 83 4 = nJ L := by rw [fr_gi fq15 (rg_no rfl _)]; exact l14
          refine E_call rfl (Sp_le (by first | exact Nat.add_le_add_left (Nat.le_of_ble_eq_true rfl) _ | exact Nat.le_of_ble_eq_true rfl | omega) (sp_tells (d := 0) hh15 (by first | decide | with_reducible assumption | omega))) (chk77 hh15 rfl rfl (by show 0 ≤ 8; decide)) (fun h16 r16 => ?_)
          rintro ⟨e16, f16⟩
          have hh16 : HH (pt h15 84 26 (nJ v15)) := HH_ptn hh15 rfl (by first | decide | with_reducible assumption | omega) (by first | decide | with_reducible assumption | omega) (by first | decide | with_reducible assumption | omega)
          have fr16 : fr_g STM h0 (pt h15 84 26 (nJ v15)) := fr_ptr (l := 26) (u := 26) rfl (by first | decide | with_reducible assumption | omega) (by first | decide | with_reducible assumption | omega) fr15
          have t16_0 : gn (pt h15 84 26 (nJ v15)) 77 6 = gn h15 77 6 := gn_ne (by first | exact gxx rfl | omega)
          have t16_1 : gn (pt h15 84 26 (nJ v15)) 77 7 = gn h15 77 7 := gn_ne (by first | exact gxx rfl | omega)
          have t16_2 : gn (pt h15 84 26 (nJ v15)) 77 8 = gn h15 77 8 := gn_ne (by first | exact gxx rfl | omega)
          have t16_3 : gn (pt h15 84 26 (nJ v15)) 77 9 = gn h15 77 9 := gn_ne (by first | exact gxx rfl | omega)
          have t16_4 : gn (pt h15 84 26 (nJ v15)) 77 12 = gn h15 77 12 := gn_ne (by first | exact gxx rfl | omega)
          have t16_5 : gn (pt h15 84 26 (nJ v15)) 84 24 = gn h15 84 24 := gn_ne (by first | exact gxx rfl | omega)
          have t16_6 : gn (pt h15 84 26 (nJ v15)) 84 27 = gn h15 84 27 := gn_ne (by first | exact gxx rfl | omega)
          have t16_7 : gn (pt h15 84 26 (nJ v15)) 84 28 = gn h15 84 28 := gn_ne (by first | exact gxx rfl | omega)
          have t16_8 : gn (pt h15 84 26 (nJ v15)) 84 29 = gn h15 84 29 := gn_ne (by first | exact gxx rfl | omega)
          have u16 : ∀ k, gn (pt h15 84 26 (nJ v15)) 85 k = gn h15 85 k := fun k => gn_ne (by first | exact gxx rfl | omega)
          have y16 : ∀ k, gn (pt h15 84 26 (nJ v15)) 86 k = gn h15 86 k := fun k => gn_ne (by first | exact gxx rfl | omega)
          rw [e16, f16]
          show Ends _ _ (87, lv, [], (pt h15 84 26 (nJ v15)), 0, 0) _
          generalize hz16 : (pt h15 84 26 (nJ v15)) = g16 at hh16 fr16 t16_0 t16_1 t16_2 t16_3 t16_4 t16_5 t16_6 t16_7 t16_8 u16 y16 ⊢
          have wy16 : W4 g16 := by
            have wo := wy15
            refine ⟨by omega, fun c hc => by omega, JN_eq (by first | decide | with_reducible assumption | omega) y16 wo.2.2.1, by have := wo.2.2.2; omega⟩
          have l16 : gi g16 83 4 = nJ L := by rw [← hz16, gi_ne (by first | exact gxx rfl | omega)]; exact l15
          refine E_goto rfl ?_
          refine E_al rfl L0 ?_
          refine E_call rfl (Sp_le (by first | exact Nat.add_le_add_left (Nat.le_of_ble_eq_true rfl) _ | exact Nat.le_of_ble_eq_true rfl | omega) (sp_isGood (d := 0) hh16)) (chk77 hh16 rfl rfl (by show 0 ≤ 8; decide)) (fun h17 r17 => ?_)
          rintro ⟨e17, f17⟩
          rw [e17]
          rcases f17 with ⟨gd17, f17⟩ | ⟨gd17, f17⟩
          · rw [f17]
            show Ends _ _ (98, lv, [.int (nJ 0)], g16, 0, 0) _
            refine E_ifT rfl (by decide) ?_
            refine E_al rfl L0 ?_
            refine E_gr rfl hh16 (q := 83) rfl ?_
            refine E_ci 4 rfl ci4 ?_
            refine E_dup2 rfl rfl rfl ?_
            refine E_ial rfl hh16 rfl (by first | decide | with_reducible assumption | omega) (by decide) (show gi g16 83 4 = nJ L from l16) ?_
            refine E_ci 1 rfl ci1 ?_
            refine E_bin rfl (nJ_add _ _) ?_
            refine E_ias rfl hh16 rfl (by first | decide | with_reducible assumption | omega) (by decide) ?_
            have hh18 : HH (pt g16 83 4 (nJ ((L + 1)))) := HH_ptn hh16 (bd_u rfl (by first | decide | with_reducible assumption | omega)) (by first | decide | with_reducible assumption | omega) (by first | decide | with_reducible assumption | omega) (by first | decide | with_reducible assumption | omega)
            have fr18 : fr_g STM h0 (pt g16 83 4 (nJ ((L + 1)))) := fr_ptr (l := 4) (u := 4) rfl (by first | decide | with_reducible assumption | omega) (by first | decide | with_reducible assumption | omega) fr16
            have t18_0 : gn (pt g16 83 4 (nJ ((L + 1)))) 77 6 = gn g16 77 6 := gn_ne (by first | exact gxx rfl | omega)
            have t18_1 : gn (pt g16 83 4 (nJ ((L + 1)))) 77 7 = gn g16 77 7 := gn_ne (by first | exact gxx rfl | omega)
            have t18_2 : gn (pt g16 83 4 (nJ ((L + 1)))) 77 8 = gn g16 77 8 := gn_ne (by first | exact gxx rfl | omega)
            have t18_3 : gn (pt g16 83 4 (nJ ((L + 1)))) 77 9 = gn g16 77 9 := gn_ne (by first | exact gxx rfl | omega)
            have t18_4 : gn (pt g16 83 4 (nJ ((L + 1)))) 77 12 = gn g16 77 12 := gn_ne (by first | exact gxx rfl | omega)
            have t18_5 : gn (pt g16 83 4 (nJ ((L + 1)))) 84 24 = gn g16 84 24 := gn_ne (by first | exact gxx rfl | omega)
            have t18_6 : gn (pt g16 83 4 (nJ ((L + 1)))) 84 27 = gn g16 84 27 := gn_ne (by first | exact gxx rfl | omega)
            have t18_7 : gn (pt g16 83 4 (nJ ((L + 1)))) 84 28 = gn g16 84 28 := gn_ne (by first | exact gxx rfl | omega)
            have t18_8 : gn (pt g16 83 4 (nJ ((L + 1)))) 84 29 = gn g16 84 29 := gn_ne (by first | exact gxx rfl | omega)
            generalize hz18 : (pt g16 83 4 (nJ ((L + 1)))) = g18 at hh18 fr18 t18_0 t18_1 t18_2 t18_3 t18_4 t18_5 t18_6 t18_7 t18_8 ⊢
            refine E_goto rfl ?_
            exact ih (L := L + 1) lv hh18 (by first | decide | with_reducible assumption | omega) (by first | decide | with_reducible assumption | omega) (by first | decide | with_reducible assumption | omega) fr18 (W4_eq (fun k => by rw [← hz18]; exact gn_ne (by first | exact gxx rfl | omega)) (fun k => by rw [← hz18]; exact gn_ne (by first | exact gxx rfl | omega)) (fun k => by rw [← hz18]; exact gn_ne (by first | exact gxx rfl | omega)) wy16) (by rw [← hz18]; exact gi_pt hh16 (bd_u rfl (by first | decide | with_reducible assumption | omega)) (ai_lo _) (ai_hi _)) (by first | decide | with_reducible assumption | omega) (fun q => by omega) (fun q => by omega) (fun q => by omega) L0
          · rw [f17]
            show Ends _ _ (98, lv, [.int (nJ 1)], g16, 0, 0) _
            refine E_ifF rfl (by decide) ?_
            refine E_al rfl L0 ?_
            refine E_call rfl (Sp_le (by first | exact Nat.add_le_add_left (Nat.le_of_ble_eq_true rfl) _ | exact Nat.le_of_ble_eq_true rfl | omega) (sp_closes (d := 0) hh16 (by first | decide | with_reducible assumption | omega) (by first | decide | with_reducible assumption | omega) (by first | decide | with_reducible assumption | omega))) (chk77 hh16 rfl rfl (by show 0 ≤ 8; decide)) (fun h19 r19 => ?_)
            rintro ⟨e19, ⟨hh19, ra19, rb19, rc19⟩, fq19, mo19, cl19⟩
            rw [e19]
            have fr19 : fr_g STM h0 h19 := fr_trans fr16 (fr_wk rfl fq19)
            have wy19 : W4 h19 := W4_fr rfl fq19 wy16
            have l19 : gi h19 83 4 = nJ L := by rw [fr_gi fq19 (rg_no rfl _)]; exact l16
            show Ends _ _ (105, lv, [], h19, 0, 0) _
            refine E_al rfl L0 ?_
            refine E_gr rfl hh19 (q := 83) rfl ?_
            refine E_ci 4 rfl ci4 ?_
            refine E_dup2 rfl rfl rfl ?_
            refine E_ial rfl hh19 rfl (by first | decide | with_reducible assumption | omega) (by decide) (show gi h19 83 4 = nJ L from l19) ?_
            refine E_ci 1 rfl ci1 ?_
            refine E_bin rfl (nJ_add _ _) ?_
            refine E_ias rfl hh19 rfl (by first | decide | with_reducible assumption | omega) (by decide) ?_
            have hh20 : HH (pt h19 83 4 (nJ ((L + 1)))) := HH_ptn hh19 (bd_u rfl (by first | decide | with_reducible assumption | omega)) (by first | decide | with_reducible assumption | omega) (by first | decide | with_reducible assumption | omega) (by first | decide | with_reducible assumption | omega)
            have fr20 : fr_g STM h0 (pt h19 83 4 (nJ ((L + 1)))) := fr_ptr (l := 4) (u := 4) rfl (by first | decide | with_reducible assumption | omega) (by first | decide | with_reducible assumption | omega) fr19
            have t20_0 : gn (pt h19 83 4 (nJ ((L + 1)))) 77 6 = gn h19 77 6 := gn_ne (by first | exact gxx rfl | omega)
            have t20_1 : gn (pt h19 83 4 (nJ ((L + 1)))) 77 7 = gn h19 77 7 := gn_ne (by first | exact gxx rfl | omega)
            have t20_2 : gn (pt h19 83 4 (nJ ((L + 1)))) 77 8 = gn h19 77 8 := gn_ne (by first | exact gxx rfl | omega)
            have t20_3 : gn (pt h19 83 4 (nJ ((L + 1)))) 77 9 = gn h19 77 9 := gn_ne (by first | exact gxx rfl | omega)
            have t20_4 : gn (pt h19 83 4 (nJ ((L + 1)))) 77 12 = gn h19 77 12 := gn_ne (by first | exact gxx rfl | omega)
            have t20_5 : gn (pt h19 83 4 (nJ ((L + 1)))) 84 24 = gn h19 84 24 := gn_ne (by first | exact gxx rfl | omega)
            have t20_6 : gn (pt h19 83 4 (nJ ((L + 1)))) 84 27 = gn h19 84 27 := gn_ne (by first | exact gxx rfl | omega)
            have t20_7 : gn (pt h19 83 4 (nJ ((L + 1)))) 84 28 = gn h19 84 28 := gn_ne (by first | exact gxx rfl | omega)
            have t20_8 : gn (pt h19 83 4 (nJ ((L + 1)))) 84 29 = gn h19 84 29 := gn_ne (by first | exact gxx rfl | omega)
            generalize hz20 : (pt h19 83 4 (nJ ((L + 1)))) = g20 at hh20 fr20 t20_0 t20_1 t20_2 t20_3 t20_4 t20_5 t20_6 t20_7 t20_8 ⊢
            refine E_goto rfl ?_
            exact ih (L := L + 1) lv hh20 (by first | decide | with_reducible assumption | omega) (by first | decide | with_reducible assumption | omega) (by first | decide | with_reducible assumption | omega) fr20 (W4_eq (fun k => by rw [← hz20]; exact gn_ne (by first | exact gxx rfl | omega)) (fun k => by rw [← hz20]; exact gn_ne (by first | exact gxx rfl | omega)) (fun k => by rw [← hz20]; exact gn_ne (by first | exact gxx rfl | omega)) wy19) (by rw [← hz20]; exact gi_pt hh19 (bd_u rfl (by first | decide | with_reducible assumption | omega)) (ai_lo _) (ai_hi _)) (by first | decide | with_reducible assumption | omega) (fun q => by omega) (fun q => by omega) (fun q => by omega) L0
theorem tv_street {h0 : pm_H} {d : Nat} (hh0 : HH h0) (hV : RV h0) : Sp (d + 40) 354 h0 [.ref 77] (VQS h0) := by
  refine Sp_of aiX9_street rfl rfl rfl ?_
  refine E_al rfl (show pm_get (lv_args 0 [.ref 77]) 0 = _ from rfl) ?_
  refine E_ci 0 rfl ci0 ?_
  refine E_pf rfl hh0 rfl ?_
  have hh1 : HH (pt h0 77 0 (nJ 0)) := HH_ptn hh0 rfl (by first | decide | with_reducible assumption | omega) (by first | decide | with_reducible assumption | omega) (by first | decide | with_reducible assumption | omega)
  have fr1 : fr_g STM h0 (pt h0 77 0 (nJ 0)) := fr_ptr (l := 0) (u := 0) rfl (by first | decide | with_reducible assumption | omega) (by first | decide | with_reducible assumption | omega) (fr_rf STM h0)
  refine E_al rfl (show pm_get (lv_args 0 [.ref 77]) 0 = _ from rfl) ?_
  refine E_call rfl (Sp_le (by first | exact Nat.add_le_add_left (Nat.le_of_ble_eq_true rfl) _ | exact Nat.le_of_ble_eq_true rfl | omega) (sp_clears (d := 0) hh1)) (chk77 hh1 rfl rfl (by show 0 ≤ 8; decide)) (fun h2 r2 => ?_)
  rintro ⟨e2, hh2, fq2, l2, z2⟩
  rw [e2]
  have fr2 : fr_g STM h0 h2 := fr_trans fr1 (fr_wk rfl fq2)
  have wy2 : W4 h2 := ⟨by rw [show gn h2 84 27 = 0 from z2 3 (by first | decide | with_reducible assumption | omega)]; omega, fun c hc => by rw [show gn h2 84 27 = 0 from z2 3 (by first | decide | with_reducible assumption | omega)] at hc; omega, JN_zero (z2 4 (by first | decide | with_reducible assumption | omega)), z2 5 (by first | decide | with_reducible assumption | omega)⟩
  have c2 : gn h2 84 27 = 0 := z2 3 (by first | decide | with_reducible assumption | omega)
  show Ends _ _ (9, (lv_args 0 [.ref 77]), [], h2, 0, 0) _
  refine E_al rfl (show pm_get (lv_args 0 [.ref 77]) 0 = _ from rfl) ?_
  refine E_call rfl (Sp_le (by first | exact Nat.add_le_add_left (Nat.le_of_ble_eq_true rfl) _ | exact Nat.le_of_ble_eq_true rfl | omega) (sp_begins (d := 0) hh2)) (chk77 hh2 rfl rfl (by show 0 ≤ 8; decide)) (fun h3 r3 => ?_)
  rintro ⟨e3, ⟨hh3, ra3, rb3, rc3⟩, fq3⟩
  rw [e3]
  have fr3 : fr_g STM h0 h3 := fr_trans fr2 (fr_wk rfl fq3)
  have wy3 : W4 h3 := W4_fr rfl fq3 wy2
  have l3 : gi h3 83 4 = nJ 0 := by rw [fr_gi fq3 (rg_no rfl _)]; exact l2
  have c3 : gn h3 84 27 = 0 := by rw [fr_gn fq3 (rg_no rfl _)]; exact c2
  show Ends _ _ (13, (lv_args 0 [.ref 77]), [], h3, 0, 0) _
  exact st_loop hh0 hV 501 (L := 0) (lv_args 0 [.ref 77]) hh3 ra3 rb3 rc3 fr3 wy3 l3 (by first | decide | with_reducible assumption | omega) (fun _ => by omega) (fun _ => c3) (fun _ => by omega) (show pm_get (lv_args 0 [.ref 77]) 0 = _ from rfl)
end
section
theorem Go_ifT {look : Nat → Option pm_I} {call : pm_Call} {z : Bool} {t n : Nat} {ρ : List (Nat × Value) × List Value × pm_H × Nat × Nat} {o : pm_H × Option Value} (hz : z = true) (h : pm_Go look call (t, ρ) o) : pm_Go look call (bif z then t else n, ρ) o := by
  subst hz; exact h
theorem Go_ifF {look : Nat → Option pm_I} {call : pm_Call} {z : Bool} {t n : Nat} {ρ : List (Nat × Value) × List Value × pm_H × Nat × Nat} {o : pm_H × Option Value} (hz : z = false) (h : pm_Go look call (n, ρ) o) : pm_Go look call (bif z then t else n, ρ) o := by
  subst hz; exact h
/-- a method's run out of its rows -/
theorem Rt_of {d y : Nat} {h : pm_H} {as : List Value} {h' : pm_H} {r : Option Value} {I : pm_M} (hI : pm_at pm_P y = some I) (hl : (lg_sl as).length ≤ I.2.2.1) (hg : pm_Go (pm_at I.2.2.2.2.2.2.2) (pm_Rt pm_P d) (0, lv_args 0 as, [], h, I.2.2.2.2.2.1, I.2.2.2.2.2.2.1) (h', r)) : pm_Rt pm_P (d + 1) y h as h' r := ⟨I, hI, hl, hg⟩
theorem chkV {k ci mc ms a : Nat} {st fs as : List Value} {w : pm_H × Nat × Nat} (h1 : Nat.ble k st.length = true) (h2 : (st.take k).reverse = .ref a :: as) (h3 : w.1[a]? = some (.inr (ci, fs))) (h4 : Nat.ble (pm_sz (st.drop k)) 8 = true) (h5 : Nat.ble mc w.2.1 = true) (h6 : Nat.ble ms w.2.2 = true) (h7 : Nat.blt ci 100 = true) : pm_chk k (some ci) mc ms st w :=
  ⟨Nat.le_of_ble_eq_true h1, fun q hq => by cases hq; exact ⟨fun _ => ⟨a, fs, as, h2, h3⟩, fun h9 => absurd (Nat.le_of_ble_eq_true h7) (Nat.not_lt.mpr h9)⟩, Nat.le_of_ble_eq_true h4, Nat.le_of_ble_eq_true h5, Nat.le_of_ble_eq_true h6⟩
set_option maxRecDepth 20000 in
set_option maxHeartbeats 4000000 in
theorem rc_0 (d : Nat) : pm_Rt pm_P (d + 1) 56 [.inr (8, [.null, .null, .null, .null, .null, .null, .null, .null, .null, .null, .null, .null]), .inr (6, [.null, .int 0])] [.ref 1] [.inr (8, [.null, .null, .null, .null, .null, .null, .null, .null, .null, .null, .null, .null]), .inr (6, [.ref 2, .int 0]), .inl (1, 500, .inl (fun _ => 0))] none := by
  refine Rt_of aiX6_init (by decide) ?_
  refine Go_st rfl rfl ?_
  refine Go_st rfl rfl ?_
  refine Go_st rfl rfl ?_
  refine Go_st rfl rfl ?_
  refine Go_st rfl rfl ?_
  refine Go_st rfl rfl ?_
  exact Go_ret rfl ⟨rfl, rfl⟩
set_option maxRecDepth 20000 in
set_option maxHeartbeats 4000000 in
theorem rc_1 (d : Nat) : pm_Rt pm_P (d + 1) 52 [.inr (8, [.ref 1, .null, .null, .null, .null, .null, .null, .null, .null, .null, .null, .null]), .inr (6, [.ref 2, .int 0]), .inl (1, 500, .inl (fun _ => 0)), .inr (2, [.null, .int 0, .int 0, .ref 1, .null, .int 0, .int 0, .int 0, .int 0, .int 0]), .inr (5, [.int 0, .int 0, .int 0, .int 0, .int 0, .int 0, .int 0, .null, .null, .null, .null, .null, .null, .null, .null])] [.ref 4] [.inr (8, [.ref 1, .null, .null, .null, .null, .null, .null, .null, .null, .null, .null, .null]), .inr (6, [.ref 2, .int 0]), .inl (1, 500, .inl (fun _ => 0)), .inr (2, [.null, .int 0, .int 0, .ref 1, .null, .int 0, .int 0, .int 0, .int 0, .int 0]), .inr (5, [.int 0, .int 0, .int 0, .int 0, .int 0, .int 0, .int 0, .ref 5, .ref 6, .ref 7, .ref 8, .ref 9, .ref 10, .ref 11, .ref 12]), .inl (0, 8, .inl (fun _ => 0)), .inl (0, 8, .inl (fun _ => 0)), .inl (0, 8, .inl (fun _ => 0)), .inl (0, 8, .inl (fun _ => 0)), .inl (0, 8, .inl (fun _ => 0)), .inl (0, 20, .inl (fun _ => 0)), .inl (0, 20, .inl (fun _ => 0)), .inl (2, 20, .inl (fun _ => 0))] none := by
  refine Rt_of aiX5_init (by decide) ?_
  refine Go_st rfl rfl ?_
  refine Go_st rfl rfl ?_
  refine Go_st rfl rfl ?_
  refine Go_st rfl rfl ?_
  refine Go_st rfl rfl ?_
  refine Go_st rfl rfl ?_
  refine Go_st rfl rfl ?_
  refine Go_st rfl rfl ?_
  refine Go_st rfl rfl ?_
  refine Go_st rfl rfl ?_
  refine Go_st rfl rfl ?_
  refine Go_st rfl rfl ?_
  refine Go_st rfl rfl ?_
  refine Go_st rfl rfl ?_
  refine Go_st rfl rfl ?_
  refine Go_st rfl rfl ?_
  refine Go_st rfl rfl ?_
  refine Go_st rfl rfl ?_
  refine Go_st rfl rfl ?_
  refine Go_st rfl rfl ?_
  refine Go_st rfl rfl ?_
  refine Go_st rfl rfl ?_
  refine Go_st rfl rfl ?_
  refine Go_st rfl rfl ?_
  refine Go_st rfl rfl ?_
  refine Go_st rfl rfl ?_
  refine Go_st rfl rfl ?_
  refine Go_st rfl rfl ?_
  refine Go_st rfl rfl ?_
  refine Go_st rfl rfl ?_
  refine Go_st rfl rfl ?_
  refine Go_st rfl rfl ?_
  refine Go_st rfl rfl ?_
  refine Go_st rfl rfl ?_
  exact Go_ret rfl ⟨rfl, rfl⟩
set_option maxRecDepth 20000 in
set_option maxHeartbeats 4000000 in
theorem rc_2 (d : Nat) : pm_Rt pm_P (d + 1) 13 [.inr (8, [.ref 1, .null, .null, .null, .null, .null, .null, .null, .null, .null, .null, .null]), .inr (6, [.ref 2, .int 0]), .inl (1, 500, .inl (fun _ => 0)), .inr (2, [.ref 4, .int 0, .int 0, .ref 1, .null, .int 0, .int 0, .int 0, .int 0, .int 0]), .inr (5, [.int 0, .int 0, .int 0, .int 0, .int 0, .int 0, .int 0, .ref 5, .ref 6, .ref 7, .ref 8, .ref 9, .ref 10, .ref 11, .ref 12]), .inl (0, 8, .inl (fun _ => 0)), .inl (0, 8, .inl (fun _ => 0)), .inl (0, 8, .inl (fun _ => 0)), .inl (0, 8, .inl (fun _ => 0)), .inl (0, 8, .inl (fun _ => 0)), .inl (0, 20, .inl (fun _ => 0)), .inl (0, 20, .inl (fun _ => 0)), .inl (2, 20, .inl (fun _ => 0)), .inr (0, [.null, .int 0])] [.ref 13] [.inr (8, [.ref 1, .null, .null, .null, .null, .null, .null, .null, .null, .null, .null, .null]), .inr (6, [.ref 2, .int 0]), .inl (1, 500, .inl (fun _ => 0)), .inr (2, [.ref 4, .int 0, .int 0, .ref 1, .null, .int 0, .int 0, .int 0, .int 0, .int 0]), .inr (5, [.int 0, .int 0, .int 0, .int 0, .int 0, .int 0, .int 0, .ref 5, .ref 6, .ref 7, .ref 8, .ref 9, .ref 10, .ref 11, .ref 12]), .inl (0, 8, .inl (fun _ => 0)), .inl (0, 8, .inl (fun _ => 0)), .inl (0, 8, .inl (fun _ => 0)), .inl (0, 8, .inl (fun _ => 0)), .inl (0, 8, .inl (fun _ => 0)), .inl (0, 20, .inl (fun _ => 0)), .inl (0, 20, .inl (fun _ => 0)), .inl (2, 20, .inl (fun _ => 0)), .inr (0, [.ref 14, .int 0]), .inl (0, 10, .inl (fun _ => 0))] none := by
  refine Rt_of aiX0_init (by decide) ?_
  refine Go_st rfl rfl ?_
  refine Go_st rfl rfl ?_
  refine Go_st rfl rfl ?_
  refine Go_st rfl rfl ?_
  refine Go_st rfl rfl ?_
  refine Go_st rfl rfl ?_
  exact Go_ret rfl ⟨rfl, rfl⟩
set_option maxRecDepth 20000 in
set_option maxHeartbeats 4000000 in
theorem rc_3 (d : Nat) : pm_Rt pm_P (d + 2) 26 [.inr (8, [.ref 1, .null, .null, .null, .null, .null, .null, .null, .null, .null, .null, .null]), .inr (6, [.ref 2, .int 0]), .inl (1, 500, .inl (fun _ => 0)), .inr (2, [.null, .int 0, .int 0, .null, .null, .int 0, .int 0, .int 0, .int 0, .int 0])] [.ref 3, .ref 1] [.inr (8, [.ref 1, .null, .null, .null, .null, .null, .null, .null, .null, .null, .null, .null]), .inr (6, [.ref 2, .int 0]), .inl (1, 500, .inl (fun _ => 0)), .inr (2, [.ref 4, .int 0, .int (-1), .ref 1, .ref 13, .int 0, .int 0, .int 0, .int 0, .int 0]), .inr (5, [.int 0, .int 0, .int 0, .int 0, .int 0, .int 0, .int 0, .ref 5, .ref 6, .ref 7, .ref 8, .ref 9, .ref 10, .ref 11, .ref 12]), .inl (0, 8, .inl (fun _ => 0)), .inl (0, 8, .inl (fun _ => 0)), .inl (0, 8, .inl (fun _ => 0)), .inl (0, 8, .inl (fun _ => 0)), .inl (0, 8, .inl (fun _ => 0)), .inl (0, 20, .inl (fun _ => 0)), .inl (0, 20, .inl (fun _ => 0)), .inl (2, 20, .inl (fun _ => 0)), .inr (0, [.ref 14, .int 0]), .inl (0, 10, .inl (fun _ => 0))] none := by
  refine Rt_of aiX2_init (by decide) ?_
  refine Go_st rfl rfl ?_
  refine Go_st rfl rfl ?_
  refine Go_st rfl rfl ?_
  refine Go_st rfl rfl ?_
  refine Go_st rfl rfl ?_
  refine Go_st rfl rfl ?_
  refine Go_st rfl rfl ?_
  refine Go_st rfl rfl ?_
  refine Go_call rfl (rc_1 d) (chkV rfl rfl rfl rfl rfl rfl rfl) ?_
  refine Go_st rfl rfl ?_
  refine Go_st rfl rfl ?_
  refine Go_st rfl rfl ?_
  refine Go_st rfl rfl ?_
  refine Go_call rfl (rc_2 d) (chkV rfl rfl rfl rfl rfl rfl rfl) ?_
  refine Go_st rfl rfl ?_
  refine Go_st rfl rfl ?_
  refine Go_st rfl rfl ?_
  refine Go_st rfl rfl ?_
  exact Go_ret rfl ⟨rfl, rfl⟩
set_option maxRecDepth 20000 in
set_option maxHeartbeats 4000000 in
theorem rc_4 (d : Nat) : pm_Rt pm_P (d + 1) 52 [.inr (8, [.ref 1, .ref 3, .null, .null, .null, .null, .null, .null, .null, .null, .null, .null]), .inr (6, [.ref 2, .int 0]), .inl (1, 500, .inl (fun _ => 0)), .inr (2, [.ref 4, .int 0, .int (-1), .ref 1, .ref 13, .int 0, .int 0, .int 0, .int 0, .int 0]), .inr (5, [.int 0, .int 0, .int 0, .int 0, .int 0, .int 0, .int 0, .ref 5, .ref 6, .ref 7, .ref 8, .ref 9, .ref 10, .ref 11, .ref 12]), .inl (0, 8, .inl (fun _ => 0)), .inl (0, 8, .inl (fun _ => 0)), .inl (0, 8, .inl (fun _ => 0)), .inl (0, 8, .inl (fun _ => 0)), .inl (0, 8, .inl (fun _ => 0)), .inl (0, 20, .inl (fun _ => 0)), .inl (0, 20, .inl (fun _ => 0)), .inl (2, 20, .inl (fun _ => 0)), .inr (0, [.ref 14, .int 0]), .inl (0, 10, .inl (fun _ => 0)), .inr (5, [.int 0, .int 0, .int 0, .int 0, .int 0, .int 0, .int 0, .null, .null, .null, .null, .null, .null, .null, .null])] [.ref 15] [.inr (8, [.ref 1, .ref 3, .null, .null, .null, .null, .null, .null, .null, .null, .null, .null]), .inr (6, [.ref 2, .int 0]), .inl (1, 500, .inl (fun _ => 0)), .inr (2, [.ref 4, .int 0, .int (-1), .ref 1, .ref 13, .int 0, .int 0, .int 0, .int 0, .int 0]), .inr (5, [.int 0, .int 0, .int 0, .int 0, .int 0, .int 0, .int 0, .ref 5, .ref 6, .ref 7, .ref 8, .ref 9, .ref 10, .ref 11, .ref 12]), .inl (0, 8, .inl (fun _ => 0)), .inl (0, 8, .inl (fun _ => 0)), .inl (0, 8, .inl (fun _ => 0)), .inl (0, 8, .inl (fun _ => 0)), .inl (0, 8, .inl (fun _ => 0)), .inl (0, 20, .inl (fun _ => 0)), .inl (0, 20, .inl (fun _ => 0)), .inl (2, 20, .inl (fun _ => 0)), .inr (0, [.ref 14, .int 0]), .inl (0, 10, .inl (fun _ => 0)), .inr (5, [.int 0, .int 0, .int 0, .int 0, .int 0, .int 0, .int 0, .ref 16, .ref 17, .ref 18, .ref 19, .ref 20, .ref 21, .ref 22, .ref 23]), .inl (0, 8, .inl (fun _ => 0)), .inl (0, 8, .inl (fun _ => 0)), .inl (0, 8, .inl (fun _ => 0)), .inl (0, 8, .inl (fun _ => 0)), .inl (0, 8, .inl (fun _ => 0)), .inl (0, 20, .inl (fun _ => 0)), .inl (0, 20, .inl (fun _ => 0)), .inl (2, 20, .inl (fun _ => 0))] none := by
  refine Rt_of aiX5_init (by decide) ?_
  refine Go_st rfl rfl ?_
  refine Go_st rfl rfl ?_
  refine Go_st rfl rfl ?_
  refine Go_st rfl rfl ?_
  refine Go_st rfl rfl ?_
  refine Go_st rfl rfl ?_
  refine Go_st rfl rfl ?_
  refine Go_st rfl rfl ?_
  refine Go_st rfl rfl ?_
  refine Go_st rfl rfl ?_
  refine Go_st rfl rfl ?_
  refine Go_st rfl rfl ?_
  refine Go_st rfl rfl ?_
  refine Go_st rfl rfl ?_
  refine Go_st rfl rfl ?_
  refine Go_st rfl rfl ?_
  refine Go_st rfl rfl ?_
  refine Go_st rfl rfl ?_
  refine Go_st rfl rfl ?_
  refine Go_st rfl rfl ?_
  refine Go_st rfl rfl ?_
  refine Go_st rfl rfl ?_
  refine Go_st rfl rfl ?_
  refine Go_st rfl rfl ?_
  refine Go_st rfl rfl ?_
  refine Go_st rfl rfl ?_
  refine Go_st rfl rfl ?_
  refine Go_st rfl rfl ?_
  refine Go_st rfl rfl ?_
  refine Go_st rfl rfl ?_
  refine Go_st rfl rfl ?_
  refine Go_st rfl rfl ?_
  refine Go_st rfl rfl ?_
  refine Go_st rfl rfl ?_
  exact Go_ret rfl ⟨rfl, rfl⟩
set_option maxRecDepth 20000 in
set_option maxHeartbeats 4000000 in
theorem rc_5 (d : Nat) : pm_Rt pm_P (d + 1) 52 [.inr (8, [.ref 1, .ref 3, .ref 15, .ref 24, .null, .null, .null, .null, .null, .null, .null, .null]), .inr (6, [.ref 2, .int 0]), .inl (1, 500, .inl (fun _ => 0)), .inr (2, [.ref 4, .int 0, .int (-1), .ref 1, .ref 13, .int 0, .int 0, .int 0, .int 0, .int 0]), .inr (5, [.int 0, .int 0, .int 0, .int 0, .int 0, .int 0, .int 0, .ref 5, .ref 6, .ref 7, .ref 8, .ref 9, .ref 10, .ref 11, .ref 12]), .inl (0, 8, .inl (fun _ => 0)), .inl (0, 8, .inl (fun _ => 0)), .inl (0, 8, .inl (fun _ => 0)), .inl (0, 8, .inl (fun _ => 0)), .inl (0, 8, .inl (fun _ => 0)), .inl (0, 20, .inl (fun _ => 0)), .inl (0, 20, .inl (fun _ => 0)), .inl (2, 20, .inl (fun _ => 0)), .inr (0, [.ref 14, .int 0]), .inl (0, 10, .inl (fun _ => 0)), .inr (5, [.int 0, .int 0, .int 0, .int 0, .int 0, .int 0, .int 0, .ref 16, .ref 17, .ref 18, .ref 19, .ref 20, .ref 21, .ref 22, .ref 23]), .inl (0, 8, .inl (fun _ => 0)), .inl (0, 8, .inl (fun _ => 0)), .inl (0, 8, .inl (fun _ => 0)), .inl (0, 8, .inl (fun _ => 0)), .inl (0, 8, .inl (fun _ => 0)), .inl (0, 20, .inl (fun _ => 0)), .inl (0, 20, .inl (fun _ => 0)), .inl (2, 20, .inl (fun _ => 0)), .inl (4, 3, .inr (.inr (.inr (.inr (fun _ => none))))), .inr (5, [.int 0, .int 0, .int 0, .int 0, .int 0, .int 0, .int 0, .null, .null, .null, .null, .null, .null, .null, .null])] [.ref 25] [.inr (8, [.ref 1, .ref 3, .ref 15, .ref 24, .null, .null, .null, .null, .null, .null, .null, .null]), .inr (6, [.ref 2, .int 0]), .inl (1, 500, .inl (fun _ => 0)), .inr (2, [.ref 4, .int 0, .int (-1), .ref 1, .ref 13, .int 0, .int 0, .int 0, .int 0, .int 0]), .inr (5, [.int 0, .int 0, .int 0, .int 0, .int 0, .int 0, .int 0, .ref 5, .ref 6, .ref 7, .ref 8, .ref 9, .ref 10, .ref 11, .ref 12]), .inl (0, 8, .inl (fun _ => 0)), .inl (0, 8, .inl (fun _ => 0)), .inl (0, 8, .inl (fun _ => 0)), .inl (0, 8, .inl (fun _ => 0)), .inl (0, 8, .inl (fun _ => 0)), .inl (0, 20, .inl (fun _ => 0)), .inl (0, 20, .inl (fun _ => 0)), .inl (2, 20, .inl (fun _ => 0)), .inr (0, [.ref 14, .int 0]), .inl (0, 10, .inl (fun _ => 0)), .inr (5, [.int 0, .int 0, .int 0, .int 0, .int 0, .int 0, .int 0, .ref 16, .ref 17, .ref 18, .ref 19, .ref 20, .ref 21, .ref 22, .ref 23]), .inl (0, 8, .inl (fun _ => 0)), .inl (0, 8, .inl (fun _ => 0)), .inl (0, 8, .inl (fun _ => 0)), .inl (0, 8, .inl (fun _ => 0)), .inl (0, 8, .inl (fun _ => 0)), .inl (0, 20, .inl (fun _ => 0)), .inl (0, 20, .inl (fun _ => 0)), .inl (2, 20, .inl (fun _ => 0)), .inl (4, 3, .inr (.inr (.inr (.inr (fun _ => none))))), .inr (5, [.int 0, .int 0, .int 0, .int 0, .int 0, .int 0, .int 0, .ref 26, .ref 27, .ref 28, .ref 29, .ref 30, .ref 31, .ref 32, .ref 33]), .inl (0, 8, .inl (fun _ => 0)), .inl (0, 8, .inl (fun _ => 0)), .inl (0, 8, .inl (fun _ => 0)), .inl (0, 8, .inl (fun _ => 0)), .inl (0, 8, .inl (fun _ => 0)), .inl (0, 20, .inl (fun _ => 0)), .inl (0, 20, .inl (fun _ => 0)), .inl (2, 20, .inl (fun _ => 0))] none := by
  refine Rt_of aiX5_init (by decide) ?_
  refine Go_st rfl rfl ?_
  refine Go_st rfl rfl ?_
  refine Go_st rfl rfl ?_
  refine Go_st rfl rfl ?_
  refine Go_st rfl rfl ?_
  refine Go_st rfl rfl ?_
  refine Go_st rfl rfl ?_
  refine Go_st rfl rfl ?_
  refine Go_st rfl rfl ?_
  refine Go_st rfl rfl ?_
  refine Go_st rfl rfl ?_
  refine Go_st rfl rfl ?_
  refine Go_st rfl rfl ?_
  refine Go_st rfl rfl ?_
  refine Go_st rfl rfl ?_
  refine Go_st rfl rfl ?_
  refine Go_st rfl rfl ?_
  refine Go_st rfl rfl ?_
  refine Go_st rfl rfl ?_
  refine Go_st rfl rfl ?_
  refine Go_st rfl rfl ?_
  refine Go_st rfl rfl ?_
  refine Go_st rfl rfl ?_
  refine Go_st rfl rfl ?_
  refine Go_st rfl rfl ?_
  refine Go_st rfl rfl ?_
  refine Go_st rfl rfl ?_
  refine Go_st rfl rfl ?_
  refine Go_st rfl rfl ?_
  refine Go_st rfl rfl ?_
  refine Go_st rfl rfl ?_
  refine Go_st rfl rfl ?_
  refine Go_st rfl rfl ?_
  refine Go_st rfl rfl ?_
  exact Go_ret rfl ⟨rfl, rfl⟩
set_option maxRecDepth 20000 in
set_option maxHeartbeats 4000000 in
theorem rc_6 (d : Nat) : pm_Rt pm_P (d + 1) 52 [.inr (8, [.ref 1, .ref 3, .ref 15, .ref 24, .null, .null, .null, .null, .null, .null, .null, .null]), .inr (6, [.ref 2, .int 0]), .inl (1, 500, .inl (fun _ => 0)), .inr (2, [.ref 4, .int 0, .int (-1), .ref 1, .ref 13, .int 0, .int 0, .int 0, .int 0, .int 0]), .inr (5, [.int 0, .int 0, .int 0, .int 0, .int 0, .int 0, .int 0, .ref 5, .ref 6, .ref 7, .ref 8, .ref 9, .ref 10, .ref 11, .ref 12]), .inl (0, 8, .inl (fun _ => 0)), .inl (0, 8, .inl (fun _ => 0)), .inl (0, 8, .inl (fun _ => 0)), .inl (0, 8, .inl (fun _ => 0)), .inl (0, 8, .inl (fun _ => 0)), .inl (0, 20, .inl (fun _ => 0)), .inl (0, 20, .inl (fun _ => 0)), .inl (2, 20, .inl (fun _ => 0)), .inr (0, [.ref 14, .int 0]), .inl (0, 10, .inl (fun _ => 0)), .inr (5, [.int 0, .int 0, .int 0, .int 0, .int 0, .int 0, .int 0, .ref 16, .ref 17, .ref 18, .ref 19, .ref 20, .ref 21, .ref 22, .ref 23]), .inl (0, 8, .inl (fun _ => 0)), .inl (0, 8, .inl (fun _ => 0)), .inl (0, 8, .inl (fun _ => 0)), .inl (0, 8, .inl (fun _ => 0)), .inl (0, 8, .inl (fun _ => 0)), .inl (0, 20, .inl (fun _ => 0)), .inl (0, 20, .inl (fun _ => 0)), .inl (2, 20, .inl (fun _ => 0)), .inl (4, 3, .inr (.inr (.inr (.inr (va_up (fun _ => none) 0 (some 25)))))), .inr (5, [.int 0, .int 0, .int 0, .int 0, .int 0, .int 0, .int 0, .ref 26, .ref 27, .ref 28, .ref 29, .ref 30, .ref 31, .ref 32, .ref 33]), .inl (0, 8, .inl (fun _ => 0)), .inl (0, 8, .inl (fun _ => 0)), .inl (0, 8, .inl (fun _ => 0)), .inl (0, 8, .inl (fun _ => 0)), .inl (0, 8, .inl (fun _ => 0)), .inl (0, 20, .inl (fun _ => 0)), .inl (0, 20, .inl (fun _ => 0)), .inl (2, 20, .inl (fun _ => 0)), .inr (5, [.int 0, .int 0, .int 0, .int 0, .int 0, .int 0, .int 0, .null, .null, .null, .null, .null, .null, .null, .null])] [.ref 34] [.inr (8, [.ref 1, .ref 3, .ref 15, .ref 24, .null, .null, .null, .null, .null, .null, .null, .null]), .inr (6, [.ref 2, .int 0]), .inl (1, 500, .inl (fun _ => 0)), .inr (2, [.ref 4, .int 0, .int (-1), .ref 1, .ref 13, .int 0, .int 0, .int 0, .int 0, .int 0]), .inr (5, [.int 0, .int 0, .int 0, .int 0, .int 0, .int 0, .int 0, .ref 5, .ref 6, .ref 7, .ref 8, .ref 9, .ref 10, .ref 11, .ref 12]), .inl (0, 8, .inl (fun _ => 0)), .inl (0, 8, .inl (fun _ => 0)), .inl (0, 8, .inl (fun _ => 0)), .inl (0, 8, .inl (fun _ => 0)), .inl (0, 8, .inl (fun _ => 0)), .inl (0, 20, .inl (fun _ => 0)), .inl (0, 20, .inl (fun _ => 0)), .inl (2, 20, .inl (fun _ => 0)), .inr (0, [.ref 14, .int 0]), .inl (0, 10, .inl (fun _ => 0)), .inr (5, [.int 0, .int 0, .int 0, .int 0, .int 0, .int 0, .int 0, .ref 16, .ref 17, .ref 18, .ref 19, .ref 20, .ref 21, .ref 22, .ref 23]), .inl (0, 8, .inl (fun _ => 0)), .inl (0, 8, .inl (fun _ => 0)), .inl (0, 8, .inl (fun _ => 0)), .inl (0, 8, .inl (fun _ => 0)), .inl (0, 8, .inl (fun _ => 0)), .inl (0, 20, .inl (fun _ => 0)), .inl (0, 20, .inl (fun _ => 0)), .inl (2, 20, .inl (fun _ => 0)), .inl (4, 3, .inr (.inr (.inr (.inr (va_up (fun _ => none) 0 (some 25)))))), .inr (5, [.int 0, .int 0, .int 0, .int 0, .int 0, .int 0, .int 0, .ref 26, .ref 27, .ref 28, .ref 29, .ref 30, .ref 31, .ref 32, .ref 33]), .inl (0, 8, .inl (fun _ => 0)), .inl (0, 8, .inl (fun _ => 0)), .inl (0, 8, .inl (fun _ => 0)), .inl (0, 8, .inl (fun _ => 0)), .inl (0, 8, .inl (fun _ => 0)), .inl (0, 20, .inl (fun _ => 0)), .inl (0, 20, .inl (fun _ => 0)), .inl (2, 20, .inl (fun _ => 0)), .inr (5, [.int 0, .int 0, .int 0, .int 0, .int 0, .int 0, .int 0, .ref 35, .ref 36, .ref 37, .ref 38, .ref 39, .ref 40, .ref 41, .ref 42]), .inl (0, 8, .inl (fun _ => 0)), .inl (0, 8, .inl (fun _ => 0)), .inl (0, 8, .inl (fun _ => 0)), .inl (0, 8, .inl (fun _ => 0)), .inl (0, 8, .inl (fun _ => 0)), .inl (0, 20, .inl (fun _ => 0)), .inl (0, 20, .inl (fun _ => 0)), .inl (2, 20, .inl (fun _ => 0))] none := by
  refine Rt_of aiX5_init (by decide) ?_
  refine Go_st rfl rfl ?_
  refine Go_st rfl rfl ?_
  refine Go_st rfl rfl ?_
  refine Go_st rfl rfl ?_
  refine Go_st rfl rfl ?_
  refine Go_st rfl rfl ?_
  refine Go_st rfl rfl ?_
  refine Go_st rfl rfl ?_
  refine Go_st rfl rfl ?_
  refine Go_st rfl rfl ?_
  refine Go_st rfl rfl ?_
  refine Go_st rfl rfl ?_
  refine Go_st rfl rfl ?_
  refine Go_st rfl rfl ?_
  refine Go_st rfl rfl ?_
  refine Go_st rfl rfl ?_
  refine Go_st rfl rfl ?_
  refine Go_st rfl rfl ?_
  refine Go_st rfl rfl ?_
  refine Go_st rfl rfl ?_
  refine Go_st rfl rfl ?_
  refine Go_st rfl rfl ?_
  refine Go_st rfl rfl ?_
  refine Go_st rfl rfl ?_
  refine Go_st rfl rfl ?_
  refine Go_st rfl rfl ?_
  refine Go_st rfl rfl ?_
  refine Go_st rfl rfl ?_
  refine Go_st rfl rfl ?_
  refine Go_st rfl rfl ?_
  refine Go_st rfl rfl ?_
  refine Go_st rfl rfl ?_
  refine Go_st rfl rfl ?_
  refine Go_st rfl rfl ?_
  exact Go_ret rfl ⟨rfl, rfl⟩
set_option maxRecDepth 20000 in
set_option maxHeartbeats 4000000 in
theorem rc_7 (d : Nat) : pm_Rt pm_P (d + 1) 52 [.inr (8, [.ref 1, .ref 3, .ref 15, .ref 24, .null, .null, .null, .null, .null, .null, .null, .null]), .inr (6, [.ref 2, .int 0]), .inl (1, 500, .inl (fun _ => 0)), .inr (2, [.ref 4, .int 0, .int (-1), .ref 1, .ref 13, .int 0, .int 0, .int 0, .int 0, .int 0]), .inr (5, [.int 0, .int 0, .int 0, .int 0, .int 0, .int 0, .int 0, .ref 5, .ref 6, .ref 7, .ref 8, .ref 9, .ref 10, .ref 11, .ref 12]), .inl (0, 8, .inl (fun _ => 0)), .inl (0, 8, .inl (fun _ => 0)), .inl (0, 8, .inl (fun _ => 0)), .inl (0, 8, .inl (fun _ => 0)), .inl (0, 8, .inl (fun _ => 0)), .inl (0, 20, .inl (fun _ => 0)), .inl (0, 20, .inl (fun _ => 0)), .inl (2, 20, .inl (fun _ => 0)), .inr (0, [.ref 14, .int 0]), .inl (0, 10, .inl (fun _ => 0)), .inr (5, [.int 0, .int 0, .int 0, .int 0, .int 0, .int 0, .int 0, .ref 16, .ref 17, .ref 18, .ref 19, .ref 20, .ref 21, .ref 22, .ref 23]), .inl (0, 8, .inl (fun _ => 0)), .inl (0, 8, .inl (fun _ => 0)), .inl (0, 8, .inl (fun _ => 0)), .inl (0, 8, .inl (fun _ => 0)), .inl (0, 8, .inl (fun _ => 0)), .inl (0, 20, .inl (fun _ => 0)), .inl (0, 20, .inl (fun _ => 0)), .inl (2, 20, .inl (fun _ => 0)), .inl (4, 3, .inr (.inr (.inr (.inr (va_up (va_up (fun _ => none) 0 (some 25)) 1 (some 34)))))), .inr (5, [.int 0, .int 0, .int 0, .int 0, .int 0, .int 0, .int 0, .ref 26, .ref 27, .ref 28, .ref 29, .ref 30, .ref 31, .ref 32, .ref 33]), .inl (0, 8, .inl (fun _ => 0)), .inl (0, 8, .inl (fun _ => 0)), .inl (0, 8, .inl (fun _ => 0)), .inl (0, 8, .inl (fun _ => 0)), .inl (0, 8, .inl (fun _ => 0)), .inl (0, 20, .inl (fun _ => 0)), .inl (0, 20, .inl (fun _ => 0)), .inl (2, 20, .inl (fun _ => 0)), .inr (5, [.int 0, .int 0, .int 0, .int 0, .int 0, .int 0, .int 0, .ref 35, .ref 36, .ref 37, .ref 38, .ref 39, .ref 40, .ref 41, .ref 42]), .inl (0, 8, .inl (fun _ => 0)), .inl (0, 8, .inl (fun _ => 0)), .inl (0, 8, .inl (fun _ => 0)), .inl (0, 8, .inl (fun _ => 0)), .inl (0, 8, .inl (fun _ => 0)), .inl (0, 20, .inl (fun _ => 0)), .inl (0, 20, .inl (fun _ => 0)), .inl (2, 20, .inl (fun _ => 0)), .inr (5, [.int 0, .int 0, .int 0, .int 0, .int 0, .int 0, .int 0, .null, .null, .null, .null, .null, .null, .null, .null])] [.ref 43] [.inr (8, [.ref 1, .ref 3, .ref 15, .ref 24, .null, .null, .null, .null, .null, .null, .null, .null]), .inr (6, [.ref 2, .int 0]), .inl (1, 500, .inl (fun _ => 0)), .inr (2, [.ref 4, .int 0, .int (-1), .ref 1, .ref 13, .int 0, .int 0, .int 0, .int 0, .int 0]), .inr (5, [.int 0, .int 0, .int 0, .int 0, .int 0, .int 0, .int 0, .ref 5, .ref 6, .ref 7, .ref 8, .ref 9, .ref 10, .ref 11, .ref 12]), .inl (0, 8, .inl (fun _ => 0)), .inl (0, 8, .inl (fun _ => 0)), .inl (0, 8, .inl (fun _ => 0)), .inl (0, 8, .inl (fun _ => 0)), .inl (0, 8, .inl (fun _ => 0)), .inl (0, 20, .inl (fun _ => 0)), .inl (0, 20, .inl (fun _ => 0)), .inl (2, 20, .inl (fun _ => 0)), .inr (0, [.ref 14, .int 0]), .inl (0, 10, .inl (fun _ => 0)), .inr (5, [.int 0, .int 0, .int 0, .int 0, .int 0, .int 0, .int 0, .ref 16, .ref 17, .ref 18, .ref 19, .ref 20, .ref 21, .ref 22, .ref 23]), .inl (0, 8, .inl (fun _ => 0)), .inl (0, 8, .inl (fun _ => 0)), .inl (0, 8, .inl (fun _ => 0)), .inl (0, 8, .inl (fun _ => 0)), .inl (0, 8, .inl (fun _ => 0)), .inl (0, 20, .inl (fun _ => 0)), .inl (0, 20, .inl (fun _ => 0)), .inl (2, 20, .inl (fun _ => 0)), .inl (4, 3, .inr (.inr (.inr (.inr (va_up (va_up (fun _ => none) 0 (some 25)) 1 (some 34)))))), .inr (5, [.int 0, .int 0, .int 0, .int 0, .int 0, .int 0, .int 0, .ref 26, .ref 27, .ref 28, .ref 29, .ref 30, .ref 31, .ref 32, .ref 33]), .inl (0, 8, .inl (fun _ => 0)), .inl (0, 8, .inl (fun _ => 0)), .inl (0, 8, .inl (fun _ => 0)), .inl (0, 8, .inl (fun _ => 0)), .inl (0, 8, .inl (fun _ => 0)), .inl (0, 20, .inl (fun _ => 0)), .inl (0, 20, .inl (fun _ => 0)), .inl (2, 20, .inl (fun _ => 0)), .inr (5, [.int 0, .int 0, .int 0, .int 0, .int 0, .int 0, .int 0, .ref 35, .ref 36, .ref 37, .ref 38, .ref 39, .ref 40, .ref 41, .ref 42]), .inl (0, 8, .inl (fun _ => 0)), .inl (0, 8, .inl (fun _ => 0)), .inl (0, 8, .inl (fun _ => 0)), .inl (0, 8, .inl (fun _ => 0)), .inl (0, 8, .inl (fun _ => 0)), .inl (0, 20, .inl (fun _ => 0)), .inl (0, 20, .inl (fun _ => 0)), .inl (2, 20, .inl (fun _ => 0)), .inr (5, [.int 0, .int 0, .int 0, .int 0, .int 0, .int 0, .int 0, .ref 44, .ref 45, .ref 46, .ref 47, .ref 48, .ref 49, .ref 50, .ref 51]), .inl (0, 8, .inl (fun _ => 0)), .inl (0, 8, .inl (fun _ => 0)), .inl (0, 8, .inl (fun _ => 0)), .inl (0, 8, .inl (fun _ => 0)), .inl (0, 8, .inl (fun _ => 0)), .inl (0, 20, .inl (fun _ => 0)), .inl (0, 20, .inl (fun _ => 0)), .inl (2, 20, .inl (fun _ => 0))] none := by
  refine Rt_of aiX5_init (by decide) ?_
  refine Go_st rfl rfl ?_
  refine Go_st rfl rfl ?_
  refine Go_st rfl rfl ?_
  refine Go_st rfl rfl ?_
  refine Go_st rfl rfl ?_
  refine Go_st rfl rfl ?_
  refine Go_st rfl rfl ?_
  refine Go_st rfl rfl ?_
  refine Go_st rfl rfl ?_
  refine Go_st rfl rfl ?_
  refine Go_st rfl rfl ?_
  refine Go_st rfl rfl ?_
  refine Go_st rfl rfl ?_
  refine Go_st rfl rfl ?_
  refine Go_st rfl rfl ?_
  refine Go_st rfl rfl ?_
  refine Go_st rfl rfl ?_
  refine Go_st rfl rfl ?_
  refine Go_st rfl rfl ?_
  refine Go_st rfl rfl ?_
  refine Go_st rfl rfl ?_
  refine Go_st rfl rfl ?_
  refine Go_st rfl rfl ?_
  refine Go_st rfl rfl ?_
  refine Go_st rfl rfl ?_
  refine Go_st rfl rfl ?_
  refine Go_st rfl rfl ?_
  refine Go_st rfl rfl ?_
  refine Go_st rfl rfl ?_
  refine Go_st rfl rfl ?_
  refine Go_st rfl rfl ?_
  refine Go_st rfl rfl ?_
  refine Go_st rfl rfl ?_
  refine Go_st rfl rfl ?_
  exact Go_ret rfl ⟨rfl, rfl⟩
set_option maxRecDepth 20000 in
set_option maxHeartbeats 4000000 in
theorem rc_8 (d : Nat) : pm_Rt pm_P (d + 1) 46 [.inr (8, [.ref 1, .ref 3, .ref 15, .ref 24, .ref 52, .ref 53, .null, .null, .null, .null, .null, .null]), .inr (6, [.ref 2, .int 0]), .inl (1, 500, .inl (fun _ => 0)), .inr (2, [.ref 4, .int 0, .int (-1), .ref 1, .ref 13, .int 0, .int 0, .int 0, .int 0, .int 0]), .inr (5, [.int 0, .int 0, .int 0, .int 0, .int 0, .int 0, .int 0, .ref 5, .ref 6, .ref 7, .ref 8, .ref 9, .ref 10, .ref 11, .ref 12]), .inl (0, 8, .inl (fun _ => 0)), .inl (0, 8, .inl (fun _ => 0)), .inl (0, 8, .inl (fun _ => 0)), .inl (0, 8, .inl (fun _ => 0)), .inl (0, 8, .inl (fun _ => 0)), .inl (0, 20, .inl (fun _ => 0)), .inl (0, 20, .inl (fun _ => 0)), .inl (2, 20, .inl (fun _ => 0)), .inr (0, [.ref 14, .int 0]), .inl (0, 10, .inl (fun _ => 0)), .inr (5, [.int 0, .int 0, .int 0, .int 0, .int 0, .int 0, .int 0, .ref 16, .ref 17, .ref 18, .ref 19, .ref 20, .ref 21, .ref 22, .ref 23]), .inl (0, 8, .inl (fun _ => 0)), .inl (0, 8, .inl (fun _ => 0)), .inl (0, 8, .inl (fun _ => 0)), .inl (0, 8, .inl (fun _ => 0)), .inl (0, 8, .inl (fun _ => 0)), .inl (0, 20, .inl (fun _ => 0)), .inl (0, 20, .inl (fun _ => 0)), .inl (2, 20, .inl (fun _ => 0)), .inl (4, 3, .inr (.inr (.inr (.inr (va_up (va_up (va_up (fun _ => none) 0 (some 25)) 1 (some 34)) 2 (some 43)))))), .inr (5, [.int 0, .int 0, .int 0, .int 0, .int 0, .int 0, .int 0, .ref 26, .ref 27, .ref 28, .ref 29, .ref 30, .ref 31, .ref 32, .ref 33]), .inl (0, 8, .inl (fun _ => 0)), .inl (0, 8, .inl (fun _ => 0)), .inl (0, 8, .inl (fun _ => 0)), .inl (0, 8, .inl (fun _ => 0)), .inl (0, 8, .inl (fun _ => 0)), .inl (0, 20, .inl (fun _ => 0)), .inl (0, 20, .inl (fun _ => 0)), .inl (2, 20, .inl (fun _ => 0)), .inr (5, [.int 0, .int 0, .int 0, .int 0, .int 0, .int 0, .int 0, .ref 35, .ref 36, .ref 37, .ref 38, .ref 39, .ref 40, .ref 41, .ref 42]), .inl (0, 8, .inl (fun _ => 0)), .inl (0, 8, .inl (fun _ => 0)), .inl (0, 8, .inl (fun _ => 0)), .inl (0, 8, .inl (fun _ => 0)), .inl (0, 8, .inl (fun _ => 0)), .inl (0, 20, .inl (fun _ => 0)), .inl (0, 20, .inl (fun _ => 0)), .inl (2, 20, .inl (fun _ => 0)), .inr (5, [.int 0, .int 0, .int 0, .int 0, .int 0, .int 0, .int 0, .ref 44, .ref 45, .ref 46, .ref 47, .ref 48, .ref 49, .ref 50, .ref 51]), .inl (0, 8, .inl (fun _ => 0)), .inl (0, 8, .inl (fun _ => 0)), .inl (0, 8, .inl (fun _ => 0)), .inl (0, 8, .inl (fun _ => 0)), .inl (0, 8, .inl (fun _ => 0)), .inl (0, 20, .inl (fun _ => 0)), .inl (0, 20, .inl (fun _ => 0)), .inl (2, 20, .inl (fun _ => 0)), .inl (2, 3, .inl (fun _ => 0)), .inl (5, 4, .inr (.inr (.inr (.inr (fun _ => none))))), .inr (4, [.null, .int 0, .int 0, .int 0])] [.ref 54] [.inr (8, [.ref 1, .ref 3, .ref 15, .ref 24, .ref 52, .ref 53, .null, .null, .null, .null, .null, .null]), .inr (6, [.ref 2, .int 0]), .inl (1, 500, .inl (fun _ => 0)), .inr (2, [.ref 4, .int 0, .int (-1), .ref 1, .ref 13, .int 0, .int 0, .int 0, .int 0, .int 0]), .inr (5, [.int 0, .int 0, .int 0, .int 0, .int 0, .int 0, .int 0, .ref 5, .ref 6, .ref 7, .ref 8, .ref 9, .ref 10, .ref 11, .ref 12]), .inl (0, 8, .inl (fun _ => 0)), .inl (0, 8, .inl (fun _ => 0)), .inl (0, 8, .inl (fun _ => 0)), .inl (0, 8, .inl (fun _ => 0)), .inl (0, 8, .inl (fun _ => 0)), .inl (0, 20, .inl (fun _ => 0)), .inl (0, 20, .inl (fun _ => 0)), .inl (2, 20, .inl (fun _ => 0)), .inr (0, [.ref 14, .int 0]), .inl (0, 10, .inl (fun _ => 0)), .inr (5, [.int 0, .int 0, .int 0, .int 0, .int 0, .int 0, .int 0, .ref 16, .ref 17, .ref 18, .ref 19, .ref 20, .ref 21, .ref 22, .ref 23]), .inl (0, 8, .inl (fun _ => 0)), .inl (0, 8, .inl (fun _ => 0)), .inl (0, 8, .inl (fun _ => 0)), .inl (0, 8, .inl (fun _ => 0)), .inl (0, 8, .inl (fun _ => 0)), .inl (0, 20, .inl (fun _ => 0)), .inl (0, 20, .inl (fun _ => 0)), .inl (2, 20, .inl (fun _ => 0)), .inl (4, 3, .inr (.inr (.inr (.inr (va_up (va_up (va_up (fun _ => none) 0 (some 25)) 1 (some 34)) 2 (some 43)))))), .inr (5, [.int 0, .int 0, .int 0, .int 0, .int 0, .int 0, .int 0, .ref 26, .ref 27, .ref 28, .ref 29, .ref 30, .ref 31, .ref 32, .ref 33]), .inl (0, 8, .inl (fun _ => 0)), .inl (0, 8, .inl (fun _ => 0)), .inl (0, 8, .inl (fun _ => 0)), .inl (0, 8, .inl (fun _ => 0)), .inl (0, 8, .inl (fun _ => 0)), .inl (0, 20, .inl (fun _ => 0)), .inl (0, 20, .inl (fun _ => 0)), .inl (2, 20, .inl (fun _ => 0)), .inr (5, [.int 0, .int 0, .int 0, .int 0, .int 0, .int 0, .int 0, .ref 35, .ref 36, .ref 37, .ref 38, .ref 39, .ref 40, .ref 41, .ref 42]), .inl (0, 8, .inl (fun _ => 0)), .inl (0, 8, .inl (fun _ => 0)), .inl (0, 8, .inl (fun _ => 0)), .inl (0, 8, .inl (fun _ => 0)), .inl (0, 8, .inl (fun _ => 0)), .inl (0, 20, .inl (fun _ => 0)), .inl (0, 20, .inl (fun _ => 0)), .inl (2, 20, .inl (fun _ => 0)), .inr (5, [.int 0, .int 0, .int 0, .int 0, .int 0, .int 0, .int 0, .ref 44, .ref 45, .ref 46, .ref 47, .ref 48, .ref 49, .ref 50, .ref 51]), .inl (0, 8, .inl (fun _ => 0)), .inl (0, 8, .inl (fun _ => 0)), .inl (0, 8, .inl (fun _ => 0)), .inl (0, 8, .inl (fun _ => 0)), .inl (0, 8, .inl (fun _ => 0)), .inl (0, 20, .inl (fun _ => 0)), .inl (0, 20, .inl (fun _ => 0)), .inl (2, 20, .inl (fun _ => 0)), .inl (2, 3, .inl (fun _ => 0)), .inl (5, 4, .inr (.inr (.inr (.inr (fun _ => none))))), .inr (4, [.ref 55, .int 0, .int 0, .int 0]), .inl (3, 60, .inr (.inl (fun _ => 0)))] none := by
  refine Rt_of aiX4_init (by decide) ?_
  refine Go_st rfl rfl ?_
  refine Go_st rfl rfl ?_
  refine Go_st rfl rfl ?_
  refine Go_st rfl rfl ?_
  refine Go_st rfl rfl ?_
  refine Go_st rfl rfl ?_
  exact Go_ret rfl ⟨rfl, rfl⟩
set_option maxRecDepth 20000 in
set_option maxHeartbeats 4000000 in
theorem rc_9 (d : Nat) : pm_Rt pm_P (d + 1) 46 [.inr (8, [.ref 1, .ref 3, .ref 15, .ref 24, .ref 52, .ref 53, .null, .null, .null, .null, .null, .null]), .inr (6, [.ref 2, .int 0]), .inl (1, 500, .inl (fun _ => 0)), .inr (2, [.ref 4, .int 0, .int (-1), .ref 1, .ref 13, .int 0, .int 0, .int 0, .int 0, .int 0]), .inr (5, [.int 0, .int 0, .int 0, .int 0, .int 0, .int 0, .int 0, .ref 5, .ref 6, .ref 7, .ref 8, .ref 9, .ref 10, .ref 11, .ref 12]), .inl (0, 8, .inl (fun _ => 0)), .inl (0, 8, .inl (fun _ => 0)), .inl (0, 8, .inl (fun _ => 0)), .inl (0, 8, .inl (fun _ => 0)), .inl (0, 8, .inl (fun _ => 0)), .inl (0, 20, .inl (fun _ => 0)), .inl (0, 20, .inl (fun _ => 0)), .inl (2, 20, .inl (fun _ => 0)), .inr (0, [.ref 14, .int 0]), .inl (0, 10, .inl (fun _ => 0)), .inr (5, [.int 0, .int 0, .int 0, .int 0, .int 0, .int 0, .int 0, .ref 16, .ref 17, .ref 18, .ref 19, .ref 20, .ref 21, .ref 22, .ref 23]), .inl (0, 8, .inl (fun _ => 0)), .inl (0, 8, .inl (fun _ => 0)), .inl (0, 8, .inl (fun _ => 0)), .inl (0, 8, .inl (fun _ => 0)), .inl (0, 8, .inl (fun _ => 0)), .inl (0, 20, .inl (fun _ => 0)), .inl (0, 20, .inl (fun _ => 0)), .inl (2, 20, .inl (fun _ => 0)), .inl (4, 3, .inr (.inr (.inr (.inr (va_up (va_up (va_up (fun _ => none) 0 (some 25)) 1 (some 34)) 2 (some 43)))))), .inr (5, [.int 0, .int 0, .int 0, .int 0, .int 0, .int 0, .int 0, .ref 26, .ref 27, .ref 28, .ref 29, .ref 30, .ref 31, .ref 32, .ref 33]), .inl (0, 8, .inl (fun _ => 0)), .inl (0, 8, .inl (fun _ => 0)), .inl (0, 8, .inl (fun _ => 0)), .inl (0, 8, .inl (fun _ => 0)), .inl (0, 8, .inl (fun _ => 0)), .inl (0, 20, .inl (fun _ => 0)), .inl (0, 20, .inl (fun _ => 0)), .inl (2, 20, .inl (fun _ => 0)), .inr (5, [.int 0, .int 0, .int 0, .int 0, .int 0, .int 0, .int 0, .ref 35, .ref 36, .ref 37, .ref 38, .ref 39, .ref 40, .ref 41, .ref 42]), .inl (0, 8, .inl (fun _ => 0)), .inl (0, 8, .inl (fun _ => 0)), .inl (0, 8, .inl (fun _ => 0)), .inl (0, 8, .inl (fun _ => 0)), .inl (0, 8, .inl (fun _ => 0)), .inl (0, 20, .inl (fun _ => 0)), .inl (0, 20, .inl (fun _ => 0)), .inl (2, 20, .inl (fun _ => 0)), .inr (5, [.int 0, .int 0, .int 0, .int 0, .int 0, .int 0, .int 0, .ref 44, .ref 45, .ref 46, .ref 47, .ref 48, .ref 49, .ref 50, .ref 51]), .inl (0, 8, .inl (fun _ => 0)), .inl (0, 8, .inl (fun _ => 0)), .inl (0, 8, .inl (fun _ => 0)), .inl (0, 8, .inl (fun _ => 0)), .inl (0, 8, .inl (fun _ => 0)), .inl (0, 20, .inl (fun _ => 0)), .inl (0, 20, .inl (fun _ => 0)), .inl (2, 20, .inl (fun _ => 0)), .inl (2, 3, .inl (fun _ => 0)), .inl (5, 4, .inr (.inr (.inr (.inr (va_up (fun _ => none) 0 (some 54)))))), .inr (4, [.ref 55, .int 0, .int 0, .int 0]), .inl (3, 60, .inr (.inl (fun _ => 0))), .inr (4, [.null, .int 0, .int 0, .int 0])] [.ref 56] [.inr (8, [.ref 1, .ref 3, .ref 15, .ref 24, .ref 52, .ref 53, .null, .null, .null, .null, .null, .null]), .inr (6, [.ref 2, .int 0]), .inl (1, 500, .inl (fun _ => 0)), .inr (2, [.ref 4, .int 0, .int (-1), .ref 1, .ref 13, .int 0, .int 0, .int 0, .int 0, .int 0]), .inr (5, [.int 0, .int 0, .int 0, .int 0, .int 0, .int 0, .int 0, .ref 5, .ref 6, .ref 7, .ref 8, .ref 9, .ref 10, .ref 11, .ref 12]), .inl (0, 8, .inl (fun _ => 0)), .inl (0, 8, .inl (fun _ => 0)), .inl (0, 8, .inl (fun _ => 0)), .inl (0, 8, .inl (fun _ => 0)), .inl (0, 8, .inl (fun _ => 0)), .inl (0, 20, .inl (fun _ => 0)), .inl (0, 20, .inl (fun _ => 0)), .inl (2, 20, .inl (fun _ => 0)), .inr (0, [.ref 14, .int 0]), .inl (0, 10, .inl (fun _ => 0)), .inr (5, [.int 0, .int 0, .int 0, .int 0, .int 0, .int 0, .int 0, .ref 16, .ref 17, .ref 18, .ref 19, .ref 20, .ref 21, .ref 22, .ref 23]), .inl (0, 8, .inl (fun _ => 0)), .inl (0, 8, .inl (fun _ => 0)), .inl (0, 8, .inl (fun _ => 0)), .inl (0, 8, .inl (fun _ => 0)), .inl (0, 8, .inl (fun _ => 0)), .inl (0, 20, .inl (fun _ => 0)), .inl (0, 20, .inl (fun _ => 0)), .inl (2, 20, .inl (fun _ => 0)), .inl (4, 3, .inr (.inr (.inr (.inr (va_up (va_up (va_up (fun _ => none) 0 (some 25)) 1 (some 34)) 2 (some 43)))))), .inr (5, [.int 0, .int 0, .int 0, .int 0, .int 0, .int 0, .int 0, .ref 26, .ref 27, .ref 28, .ref 29, .ref 30, .ref 31, .ref 32, .ref 33]), .inl (0, 8, .inl (fun _ => 0)), .inl (0, 8, .inl (fun _ => 0)), .inl (0, 8, .inl (fun _ => 0)), .inl (0, 8, .inl (fun _ => 0)), .inl (0, 8, .inl (fun _ => 0)), .inl (0, 20, .inl (fun _ => 0)), .inl (0, 20, .inl (fun _ => 0)), .inl (2, 20, .inl (fun _ => 0)), .inr (5, [.int 0, .int 0, .int 0, .int 0, .int 0, .int 0, .int 0, .ref 35, .ref 36, .ref 37, .ref 38, .ref 39, .ref 40, .ref 41, .ref 42]), .inl (0, 8, .inl (fun _ => 0)), .inl (0, 8, .inl (fun _ => 0)), .inl (0, 8, .inl (fun _ => 0)), .inl (0, 8, .inl (fun _ => 0)), .inl (0, 8, .inl (fun _ => 0)), .inl (0, 20, .inl (fun _ => 0)), .inl (0, 20, .inl (fun _ => 0)), .inl (2, 20, .inl (fun _ => 0)), .inr (5, [.int 0, .int 0, .int 0, .int 0, .int 0, .int 0, .int 0, .ref 44, .ref 45, .ref 46, .ref 47, .ref 48, .ref 49, .ref 50, .ref 51]), .inl (0, 8, .inl (fun _ => 0)), .inl (0, 8, .inl (fun _ => 0)), .inl (0, 8, .inl (fun _ => 0)), .inl (0, 8, .inl (fun _ => 0)), .inl (0, 8, .inl (fun _ => 0)), .inl (0, 20, .inl (fun _ => 0)), .inl (0, 20, .inl (fun _ => 0)), .inl (2, 20, .inl (fun _ => 0)), .inl (2, 3, .inl (fun _ => 0)), .inl (5, 4, .inr (.inr (.inr (.inr (va_up (fun _ => none) 0 (some 54)))))), .inr (4, [.ref 55, .int 0, .int 0, .int 0]), .inl (3, 60, .inr (.inl (fun _ => 0))), .inr (4, [.ref 57, .int 0, .int 0, .int 0]), .inl (3, 60, .inr (.inl (fun _ => 0)))] none := by
  refine Rt_of aiX4_init (by decide) ?_
  refine Go_st rfl rfl ?_
  refine Go_st rfl rfl ?_
  refine Go_st rfl rfl ?_
  refine Go_st rfl rfl ?_
  refine Go_st rfl rfl ?_
  refine Go_st rfl rfl ?_
  exact Go_ret rfl ⟨rfl, rfl⟩
set_option maxRecDepth 20000 in
set_option maxHeartbeats 4000000 in
theorem rc_10 (d : Nat) : pm_Rt pm_P (d + 1) 46 [.inr (8, [.ref 1, .ref 3, .ref 15, .ref 24, .ref 52, .ref 53, .null, .null, .null, .null, .null, .null]), .inr (6, [.ref 2, .int 0]), .inl (1, 500, .inl (fun _ => 0)), .inr (2, [.ref 4, .int 0, .int (-1), .ref 1, .ref 13, .int 0, .int 0, .int 0, .int 0, .int 0]), .inr (5, [.int 0, .int 0, .int 0, .int 0, .int 0, .int 0, .int 0, .ref 5, .ref 6, .ref 7, .ref 8, .ref 9, .ref 10, .ref 11, .ref 12]), .inl (0, 8, .inl (fun _ => 0)), .inl (0, 8, .inl (fun _ => 0)), .inl (0, 8, .inl (fun _ => 0)), .inl (0, 8, .inl (fun _ => 0)), .inl (0, 8, .inl (fun _ => 0)), .inl (0, 20, .inl (fun _ => 0)), .inl (0, 20, .inl (fun _ => 0)), .inl (2, 20, .inl (fun _ => 0)), .inr (0, [.ref 14, .int 0]), .inl (0, 10, .inl (fun _ => 0)), .inr (5, [.int 0, .int 0, .int 0, .int 0, .int 0, .int 0, .int 0, .ref 16, .ref 17, .ref 18, .ref 19, .ref 20, .ref 21, .ref 22, .ref 23]), .inl (0, 8, .inl (fun _ => 0)), .inl (0, 8, .inl (fun _ => 0)), .inl (0, 8, .inl (fun _ => 0)), .inl (0, 8, .inl (fun _ => 0)), .inl (0, 8, .inl (fun _ => 0)), .inl (0, 20, .inl (fun _ => 0)), .inl (0, 20, .inl (fun _ => 0)), .inl (2, 20, .inl (fun _ => 0)), .inl (4, 3, .inr (.inr (.inr (.inr (va_up (va_up (va_up (fun _ => none) 0 (some 25)) 1 (some 34)) 2 (some 43)))))), .inr (5, [.int 0, .int 0, .int 0, .int 0, .int 0, .int 0, .int 0, .ref 26, .ref 27, .ref 28, .ref 29, .ref 30, .ref 31, .ref 32, .ref 33]), .inl (0, 8, .inl (fun _ => 0)), .inl (0, 8, .inl (fun _ => 0)), .inl (0, 8, .inl (fun _ => 0)), .inl (0, 8, .inl (fun _ => 0)), .inl (0, 8, .inl (fun _ => 0)), .inl (0, 20, .inl (fun _ => 0)), .inl (0, 20, .inl (fun _ => 0)), .inl (2, 20, .inl (fun _ => 0)), .inr (5, [.int 0, .int 0, .int 0, .int 0, .int 0, .int 0, .int 0, .ref 35, .ref 36, .ref 37, .ref 38, .ref 39, .ref 40, .ref 41, .ref 42]), .inl (0, 8, .inl (fun _ => 0)), .inl (0, 8, .inl (fun _ => 0)), .inl (0, 8, .inl (fun _ => 0)), .inl (0, 8, .inl (fun _ => 0)), .inl (0, 8, .inl (fun _ => 0)), .inl (0, 20, .inl (fun _ => 0)), .inl (0, 20, .inl (fun _ => 0)), .inl (2, 20, .inl (fun _ => 0)), .inr (5, [.int 0, .int 0, .int 0, .int 0, .int 0, .int 0, .int 0, .ref 44, .ref 45, .ref 46, .ref 47, .ref 48, .ref 49, .ref 50, .ref 51]), .inl (0, 8, .inl (fun _ => 0)), .inl (0, 8, .inl (fun _ => 0)), .inl (0, 8, .inl (fun _ => 0)), .inl (0, 8, .inl (fun _ => 0)), .inl (0, 8, .inl (fun _ => 0)), .inl (0, 20, .inl (fun _ => 0)), .inl (0, 20, .inl (fun _ => 0)), .inl (2, 20, .inl (fun _ => 0)), .inl (2, 3, .inl (fun _ => 0)), .inl (5, 4, .inr (.inr (.inr (.inr (va_up (va_up (fun _ => none) 0 (some 54)) 1 (some 56)))))), .inr (4, [.ref 55, .int 0, .int 0, .int 0]), .inl (3, 60, .inr (.inl (fun _ => 0))), .inr (4, [.ref 57, .int 0, .int 0, .int 0]), .inl (3, 60, .inr (.inl (fun _ => 0))), .inr (4, [.null, .int 0, .int 0, .int 0])] [.ref 58] [.inr (8, [.ref 1, .ref 3, .ref 15, .ref 24, .ref 52, .ref 53, .null, .null, .null, .null, .null, .null]), .inr (6, [.ref 2, .int 0]), .inl (1, 500, .inl (fun _ => 0)), .inr (2, [.ref 4, .int 0, .int (-1), .ref 1, .ref 13, .int 0, .int 0, .int 0, .int 0, .int 0]), .inr (5, [.int 0, .int 0, .int 0, .int 0, .int 0, .int 0, .int 0, .ref 5, .ref 6, .ref 7, .ref 8, .ref 9, .ref 10, .ref 11, .ref 12]), .inl (0, 8, .inl (fun _ => 0)), .inl (0, 8, .inl (fun _ => 0)), .inl (0, 8, .inl (fun _ => 0)), .inl (0, 8, .inl (fun _ => 0)), .inl (0, 8, .inl (fun _ => 0)), .inl (0, 20, .inl (fun _ => 0)), .inl (0, 20, .inl (fun _ => 0)), .inl (2, 20, .inl (fun _ => 0)), .inr (0, [.ref 14, .int 0]), .inl (0, 10, .inl (fun _ => 0)), .inr (5, [.int 0, .int 0, .int 0, .int 0, .int 0, .int 0, .int 0, .ref 16, .ref 17, .ref 18, .ref 19, .ref 20, .ref 21, .ref 22, .ref 23]), .inl (0, 8, .inl (fun _ => 0)), .inl (0, 8, .inl (fun _ => 0)), .inl (0, 8, .inl (fun _ => 0)), .inl (0, 8, .inl (fun _ => 0)), .inl (0, 8, .inl (fun _ => 0)), .inl (0, 20, .inl (fun _ => 0)), .inl (0, 20, .inl (fun _ => 0)), .inl (2, 20, .inl (fun _ => 0)), .inl (4, 3, .inr (.inr (.inr (.inr (va_up (va_up (va_up (fun _ => none) 0 (some 25)) 1 (some 34)) 2 (some 43)))))), .inr (5, [.int 0, .int 0, .int 0, .int 0, .int 0, .int 0, .int 0, .ref 26, .ref 27, .ref 28, .ref 29, .ref 30, .ref 31, .ref 32, .ref 33]), .inl (0, 8, .inl (fun _ => 0)), .inl (0, 8, .inl (fun _ => 0)), .inl (0, 8, .inl (fun _ => 0)), .inl (0, 8, .inl (fun _ => 0)), .inl (0, 8, .inl (fun _ => 0)), .inl (0, 20, .inl (fun _ => 0)), .inl (0, 20, .inl (fun _ => 0)), .inl (2, 20, .inl (fun _ => 0)), .inr (5, [.int 0, .int 0, .int 0, .int 0, .int 0, .int 0, .int 0, .ref 35, .ref 36, .ref 37, .ref 38, .ref 39, .ref 40, .ref 41, .ref 42]), .inl (0, 8, .inl (fun _ => 0)), .inl (0, 8, .inl (fun _ => 0)), .inl (0, 8, .inl (fun _ => 0)), .inl (0, 8, .inl (fun _ => 0)), .inl (0, 8, .inl (fun _ => 0)), .inl (0, 20, .inl (fun _ => 0)), .inl (0, 20, .inl (fun _ => 0)), .inl (2, 20, .inl (fun _ => 0)), .inr (5, [.int 0, .int 0, .int 0, .int 0, .int 0, .int 0, .int 0, .ref 44, .ref 45, .ref 46, .ref 47, .ref 48, .ref 49, .ref 50, .ref 51]), .inl (0, 8, .inl (fun _ => 0)), .inl (0, 8, .inl (fun _ => 0)), .inl (0, 8, .inl (fun _ => 0)), .inl (0, 8, .inl (fun _ => 0)), .inl (0, 8, .inl (fun _ => 0)), .inl (0, 20, .inl (fun _ => 0)), .inl (0, 20, .inl (fun _ => 0)), .inl (2, 20, .inl (fun _ => 0)), .inl (2, 3, .inl (fun _ => 0)), .inl (5, 4, .inr (.inr (.inr (.inr (va_up (va_up (fun _ => none) 0 (some 54)) 1 (some 56)))))), .inr (4, [.ref 55, .int 0, .int 0, .int 0]), .inl (3, 60, .inr (.inl (fun _ => 0))), .inr (4, [.ref 57, .int 0, .int 0, .int 0]), .inl (3, 60, .inr (.inl (fun _ => 0))), .inr (4, [.ref 59, .int 0, .int 0, .int 0]), .inl (3, 60, .inr (.inl (fun _ => 0)))] none := by
  refine Rt_of aiX4_init (by decide) ?_
  refine Go_st rfl rfl ?_
  refine Go_st rfl rfl ?_
  refine Go_st rfl rfl ?_
  refine Go_st rfl rfl ?_
  refine Go_st rfl rfl ?_
  refine Go_st rfl rfl ?_
  exact Go_ret rfl ⟨rfl, rfl⟩
set_option maxRecDepth 20000 in
set_option maxHeartbeats 4000000 in
theorem rc_11 (d : Nat) : pm_Rt pm_P (d + 1) 46 [.inr (8, [.ref 1, .ref 3, .ref 15, .ref 24, .ref 52, .ref 53, .null, .null, .null, .null, .null, .null]), .inr (6, [.ref 2, .int 0]), .inl (1, 500, .inl (fun _ => 0)), .inr (2, [.ref 4, .int 0, .int (-1), .ref 1, .ref 13, .int 0, .int 0, .int 0, .int 0, .int 0]), .inr (5, [.int 0, .int 0, .int 0, .int 0, .int 0, .int 0, .int 0, .ref 5, .ref 6, .ref 7, .ref 8, .ref 9, .ref 10, .ref 11, .ref 12]), .inl (0, 8, .inl (fun _ => 0)), .inl (0, 8, .inl (fun _ => 0)), .inl (0, 8, .inl (fun _ => 0)), .inl (0, 8, .inl (fun _ => 0)), .inl (0, 8, .inl (fun _ => 0)), .inl (0, 20, .inl (fun _ => 0)), .inl (0, 20, .inl (fun _ => 0)), .inl (2, 20, .inl (fun _ => 0)), .inr (0, [.ref 14, .int 0]), .inl (0, 10, .inl (fun _ => 0)), .inr (5, [.int 0, .int 0, .int 0, .int 0, .int 0, .int 0, .int 0, .ref 16, .ref 17, .ref 18, .ref 19, .ref 20, .ref 21, .ref 22, .ref 23]), .inl (0, 8, .inl (fun _ => 0)), .inl (0, 8, .inl (fun _ => 0)), .inl (0, 8, .inl (fun _ => 0)), .inl (0, 8, .inl (fun _ => 0)), .inl (0, 8, .inl (fun _ => 0)), .inl (0, 20, .inl (fun _ => 0)), .inl (0, 20, .inl (fun _ => 0)), .inl (2, 20, .inl (fun _ => 0)), .inl (4, 3, .inr (.inr (.inr (.inr (va_up (va_up (va_up (fun _ => none) 0 (some 25)) 1 (some 34)) 2 (some 43)))))), .inr (5, [.int 0, .int 0, .int 0, .int 0, .int 0, .int 0, .int 0, .ref 26, .ref 27, .ref 28, .ref 29, .ref 30, .ref 31, .ref 32, .ref 33]), .inl (0, 8, .inl (fun _ => 0)), .inl (0, 8, .inl (fun _ => 0)), .inl (0, 8, .inl (fun _ => 0)), .inl (0, 8, .inl (fun _ => 0)), .inl (0, 8, .inl (fun _ => 0)), .inl (0, 20, .inl (fun _ => 0)), .inl (0, 20, .inl (fun _ => 0)), .inl (2, 20, .inl (fun _ => 0)), .inr (5, [.int 0, .int 0, .int 0, .int 0, .int 0, .int 0, .int 0, .ref 35, .ref 36, .ref 37, .ref 38, .ref 39, .ref 40, .ref 41, .ref 42]), .inl (0, 8, .inl (fun _ => 0)), .inl (0, 8, .inl (fun _ => 0)), .inl (0, 8, .inl (fun _ => 0)), .inl (0, 8, .inl (fun _ => 0)), .inl (0, 8, .inl (fun _ => 0)), .inl (0, 20, .inl (fun _ => 0)), .inl (0, 20, .inl (fun _ => 0)), .inl (2, 20, .inl (fun _ => 0)), .inr (5, [.int 0, .int 0, .int 0, .int 0, .int 0, .int 0, .int 0, .ref 44, .ref 45, .ref 46, .ref 47, .ref 48, .ref 49, .ref 50, .ref 51]), .inl (0, 8, .inl (fun _ => 0)), .inl (0, 8, .inl (fun _ => 0)), .inl (0, 8, .inl (fun _ => 0)), .inl (0, 8, .inl (fun _ => 0)), .inl (0, 8, .inl (fun _ => 0)), .inl (0, 20, .inl (fun _ => 0)), .inl (0, 20, .inl (fun _ => 0)), .inl (2, 20, .inl (fun _ => 0)), .inl (2, 3, .inl (fun _ => 0)), .inl (5, 4, .inr (.inr (.inr (.inr (va_up (va_up (va_up (fun _ => none) 0 (some 54)) 1 (some 56)) 2 (some 58)))))), .inr (4, [.ref 55, .int 0, .int 0, .int 0]), .inl (3, 60, .inr (.inl (fun _ => 0))), .inr (4, [.ref 57, .int 0, .int 0, .int 0]), .inl (3, 60, .inr (.inl (fun _ => 0))), .inr (4, [.ref 59, .int 0, .int 0, .int 0]), .inl (3, 60, .inr (.inl (fun _ => 0))), .inr (4, [.null, .int 0, .int 0, .int 0])] [.ref 60] [.inr (8, [.ref 1, .ref 3, .ref 15, .ref 24, .ref 52, .ref 53, .null, .null, .null, .null, .null, .null]), .inr (6, [.ref 2, .int 0]), .inl (1, 500, .inl (fun _ => 0)), .inr (2, [.ref 4, .int 0, .int (-1), .ref 1, .ref 13, .int 0, .int 0, .int 0, .int 0, .int 0]), .inr (5, [.int 0, .int 0, .int 0, .int 0, .int 0, .int 0, .int 0, .ref 5, .ref 6, .ref 7, .ref 8, .ref 9, .ref 10, .ref 11, .ref 12]), .inl (0, 8, .inl (fun _ => 0)), .inl (0, 8, .inl (fun _ => 0)), .inl (0, 8, .inl (fun _ => 0)), .inl (0, 8, .inl (fun _ => 0)), .inl (0, 8, .inl (fun _ => 0)), .inl (0, 20, .inl (fun _ => 0)), .inl (0, 20, .inl (fun _ => 0)), .inl (2, 20, .inl (fun _ => 0)), .inr (0, [.ref 14, .int 0]), .inl (0, 10, .inl (fun _ => 0)), .inr (5, [.int 0, .int 0, .int 0, .int 0, .int 0, .int 0, .int 0, .ref 16, .ref 17, .ref 18, .ref 19, .ref 20, .ref 21, .ref 22, .ref 23]), .inl (0, 8, .inl (fun _ => 0)), .inl (0, 8, .inl (fun _ => 0)), .inl (0, 8, .inl (fun _ => 0)), .inl (0, 8, .inl (fun _ => 0)), .inl (0, 8, .inl (fun _ => 0)), .inl (0, 20, .inl (fun _ => 0)), .inl (0, 20, .inl (fun _ => 0)), .inl (2, 20, .inl (fun _ => 0)), .inl (4, 3, .inr (.inr (.inr (.inr (va_up (va_up (va_up (fun _ => none) 0 (some 25)) 1 (some 34)) 2 (some 43)))))), .inr (5, [.int 0, .int 0, .int 0, .int 0, .int 0, .int 0, .int 0, .ref 26, .ref 27, .ref 28, .ref 29, .ref 30, .ref 31, .ref 32, .ref 33]), .inl (0, 8, .inl (fun _ => 0)), .inl (0, 8, .inl (fun _ => 0)), .inl (0, 8, .inl (fun _ => 0)), .inl (0, 8, .inl (fun _ => 0)), .inl (0, 8, .inl (fun _ => 0)), .inl (0, 20, .inl (fun _ => 0)), .inl (0, 20, .inl (fun _ => 0)), .inl (2, 20, .inl (fun _ => 0)), .inr (5, [.int 0, .int 0, .int 0, .int 0, .int 0, .int 0, .int 0, .ref 35, .ref 36, .ref 37, .ref 38, .ref 39, .ref 40, .ref 41, .ref 42]), .inl (0, 8, .inl (fun _ => 0)), .inl (0, 8, .inl (fun _ => 0)), .inl (0, 8, .inl (fun _ => 0)), .inl (0, 8, .inl (fun _ => 0)), .inl (0, 8, .inl (fun _ => 0)), .inl (0, 20, .inl (fun _ => 0)), .inl (0, 20, .inl (fun _ => 0)), .inl (2, 20, .inl (fun _ => 0)), .inr (5, [.int 0, .int 0, .int 0, .int 0, .int 0, .int 0, .int 0, .ref 44, .ref 45, .ref 46, .ref 47, .ref 48, .ref 49, .ref 50, .ref 51]), .inl (0, 8, .inl (fun _ => 0)), .inl (0, 8, .inl (fun _ => 0)), .inl (0, 8, .inl (fun _ => 0)), .inl (0, 8, .inl (fun _ => 0)), .inl (0, 8, .inl (fun _ => 0)), .inl (0, 20, .inl (fun _ => 0)), .inl (0, 20, .inl (fun _ => 0)), .inl (2, 20, .inl (fun _ => 0)), .inl (2, 3, .inl (fun _ => 0)), .inl (5, 4, .inr (.inr (.inr (.inr (va_up (va_up (va_up (fun _ => none) 0 (some 54)) 1 (some 56)) 2 (some 58)))))), .inr (4, [.ref 55, .int 0, .int 0, .int 0]), .inl (3, 60, .inr (.inl (fun _ => 0))), .inr (4, [.ref 57, .int 0, .int 0, .int 0]), .inl (3, 60, .inr (.inl (fun _ => 0))), .inr (4, [.ref 59, .int 0, .int 0, .int 0]), .inl (3, 60, .inr (.inl (fun _ => 0))), .inr (4, [.ref 61, .int 0, .int 0, .int 0]), .inl (3, 60, .inr (.inl (fun _ => 0)))] none := by
  refine Rt_of aiX4_init (by decide) ?_
  refine Go_st rfl rfl ?_
  refine Go_st rfl rfl ?_
  refine Go_st rfl rfl ?_
  refine Go_st rfl rfl ?_
  refine Go_st rfl rfl ?_
  refine Go_st rfl rfl ?_
  exact Go_ret rfl ⟨rfl, rfl⟩
set_option maxRecDepth 20000 in
set_option maxHeartbeats 4000000 in
theorem rc_12 (d : Nat) : pm_Rt pm_P (d + 1) 22 [.inr (8, [.ref 1, .ref 3, .ref 15, .ref 24, .ref 52, .ref 53, .null, .null, .null, .null, .null, .null]), .inr (6, [.ref 2, .int 0]), .inl (1, 500, .inl (fun _ => 0)), .inr (2, [.ref 4, .int 0, .int (-1), .ref 1, .ref 13, .int 0, .int 0, .int 0, .int 0, .int 0]), .inr (5, [.int 0, .int 0, .int 0, .int 0, .int 0, .int 0, .int 0, .ref 5, .ref 6, .ref 7, .ref 8, .ref 9, .ref 10, .ref 11, .ref 12]), .inl (0, 8, .inl (fun _ => 0)), .inl (0, 8, .inl (fun _ => 0)), .inl (0, 8, .inl (fun _ => 0)), .inl (0, 8, .inl (fun _ => 0)), .inl (0, 8, .inl (fun _ => 0)), .inl (0, 20, .inl (fun _ => 0)), .inl (0, 20, .inl (fun _ => 0)), .inl (2, 20, .inl (fun _ => 0)), .inr (0, [.ref 14, .int 0]), .inl (0, 10, .inl (fun _ => 0)), .inr (5, [.int 0, .int 0, .int 0, .int 0, .int 0, .int 0, .int 0, .ref 16, .ref 17, .ref 18, .ref 19, .ref 20, .ref 21, .ref 22, .ref 23]), .inl (0, 8, .inl (fun _ => 0)), .inl (0, 8, .inl (fun _ => 0)), .inl (0, 8, .inl (fun _ => 0)), .inl (0, 8, .inl (fun _ => 0)), .inl (0, 8, .inl (fun _ => 0)), .inl (0, 20, .inl (fun _ => 0)), .inl (0, 20, .inl (fun _ => 0)), .inl (2, 20, .inl (fun _ => 0)), .inl (4, 3, .inr (.inr (.inr (.inr (va_up (va_up (va_up (fun _ => none) 0 (some 25)) 1 (some 34)) 2 (some 43)))))), .inr (5, [.int 0, .int 0, .int 0, .int 0, .int 0, .int 0, .int 0, .ref 26, .ref 27, .ref 28, .ref 29, .ref 30, .ref 31, .ref 32, .ref 33]), .inl (0, 8, .inl (fun _ => 0)), .inl (0, 8, .inl (fun _ => 0)), .inl (0, 8, .inl (fun _ => 0)), .inl (0, 8, .inl (fun _ => 0)), .inl (0, 8, .inl (fun _ => 0)), .inl (0, 20, .inl (fun _ => 0)), .inl (0, 20, .inl (fun _ => 0)), .inl (2, 20, .inl (fun _ => 0)), .inr (5, [.int 0, .int 0, .int 0, .int 0, .int 0, .int 0, .int 0, .ref 35, .ref 36, .ref 37, .ref 38, .ref 39, .ref 40, .ref 41, .ref 42]), .inl (0, 8, .inl (fun _ => 0)), .inl (0, 8, .inl (fun _ => 0)), .inl (0, 8, .inl (fun _ => 0)), .inl (0, 8, .inl (fun _ => 0)), .inl (0, 8, .inl (fun _ => 0)), .inl (0, 20, .inl (fun _ => 0)), .inl (0, 20, .inl (fun _ => 0)), .inl (2, 20, .inl (fun _ => 0)), .inr (5, [.int 0, .int 0, .int 0, .int 0, .int 0, .int 0, .int 0, .ref 44, .ref 45, .ref 46, .ref 47, .ref 48, .ref 49, .ref 50, .ref 51]), .inl (0, 8, .inl (fun _ => 0)), .inl (0, 8, .inl (fun _ => 0)), .inl (0, 8, .inl (fun _ => 0)), .inl (0, 8, .inl (fun _ => 0)), .inl (0, 8, .inl (fun _ => 0)), .inl (0, 20, .inl (fun _ => 0)), .inl (0, 20, .inl (fun _ => 0)), .inl (2, 20, .inl (fun _ => 0)), .inl (2, 3, .inl (fun _ => 0)), .inl (5, 4, .inr (.inr (.inr (.inr (va_up (va_up (va_up (va_up (fun _ => none) 0 (some 54)) 1 (some 56)) 2 (some 58)) 3 (some 60)))))), .inr (4, [.ref 55, .int 0, .int 0, .int 0]), .inl (3, 60, .inr (.inl (fun _ => 0))), .inr (4, [.ref 57, .int 0, .int 0, .int 0]), .inl (3, 60, .inr (.inl (fun _ => 0))), .inr (4, [.ref 59, .int 0, .int 0, .int 0]), .inl (3, 60, .inr (.inl (fun _ => 0))), .inr (4, [.ref 61, .int 0, .int 0, .int 0]), .inl (3, 60, .inr (.inl (fun _ => 0))), .inr (1, [.null, .int 0, .int 0, .int 0])] [.ref 62] [.inr (8, [.ref 1, .ref 3, .ref 15, .ref 24, .ref 52, .ref 53, .null, .null, .null, .null, .null, .null]), .inr (6, [.ref 2, .int 0]), .inl (1, 500, .inl (fun _ => 0)), .inr (2, [.ref 4, .int 0, .int (-1), .ref 1, .ref 13, .int 0, .int 0, .int 0, .int 0, .int 0]), .inr (5, [.int 0, .int 0, .int 0, .int 0, .int 0, .int 0, .int 0, .ref 5, .ref 6, .ref 7, .ref 8, .ref 9, .ref 10, .ref 11, .ref 12]), .inl (0, 8, .inl (fun _ => 0)), .inl (0, 8, .inl (fun _ => 0)), .inl (0, 8, .inl (fun _ => 0)), .inl (0, 8, .inl (fun _ => 0)), .inl (0, 8, .inl (fun _ => 0)), .inl (0, 20, .inl (fun _ => 0)), .inl (0, 20, .inl (fun _ => 0)), .inl (2, 20, .inl (fun _ => 0)), .inr (0, [.ref 14, .int 0]), .inl (0, 10, .inl (fun _ => 0)), .inr (5, [.int 0, .int 0, .int 0, .int 0, .int 0, .int 0, .int 0, .ref 16, .ref 17, .ref 18, .ref 19, .ref 20, .ref 21, .ref 22, .ref 23]), .inl (0, 8, .inl (fun _ => 0)), .inl (0, 8, .inl (fun _ => 0)), .inl (0, 8, .inl (fun _ => 0)), .inl (0, 8, .inl (fun _ => 0)), .inl (0, 8, .inl (fun _ => 0)), .inl (0, 20, .inl (fun _ => 0)), .inl (0, 20, .inl (fun _ => 0)), .inl (2, 20, .inl (fun _ => 0)), .inl (4, 3, .inr (.inr (.inr (.inr (va_up (va_up (va_up (fun _ => none) 0 (some 25)) 1 (some 34)) 2 (some 43)))))), .inr (5, [.int 0, .int 0, .int 0, .int 0, .int 0, .int 0, .int 0, .ref 26, .ref 27, .ref 28, .ref 29, .ref 30, .ref 31, .ref 32, .ref 33]), .inl (0, 8, .inl (fun _ => 0)), .inl (0, 8, .inl (fun _ => 0)), .inl (0, 8, .inl (fun _ => 0)), .inl (0, 8, .inl (fun _ => 0)), .inl (0, 8, .inl (fun _ => 0)), .inl (0, 20, .inl (fun _ => 0)), .inl (0, 20, .inl (fun _ => 0)), .inl (2, 20, .inl (fun _ => 0)), .inr (5, [.int 0, .int 0, .int 0, .int 0, .int 0, .int 0, .int 0, .ref 35, .ref 36, .ref 37, .ref 38, .ref 39, .ref 40, .ref 41, .ref 42]), .inl (0, 8, .inl (fun _ => 0)), .inl (0, 8, .inl (fun _ => 0)), .inl (0, 8, .inl (fun _ => 0)), .inl (0, 8, .inl (fun _ => 0)), .inl (0, 8, .inl (fun _ => 0)), .inl (0, 20, .inl (fun _ => 0)), .inl (0, 20, .inl (fun _ => 0)), .inl (2, 20, .inl (fun _ => 0)), .inr (5, [.int 0, .int 0, .int 0, .int 0, .int 0, .int 0, .int 0, .ref 44, .ref 45, .ref 46, .ref 47, .ref 48, .ref 49, .ref 50, .ref 51]), .inl (0, 8, .inl (fun _ => 0)), .inl (0, 8, .inl (fun _ => 0)), .inl (0, 8, .inl (fun _ => 0)), .inl (0, 8, .inl (fun _ => 0)), .inl (0, 8, .inl (fun _ => 0)), .inl (0, 20, .inl (fun _ => 0)), .inl (0, 20, .inl (fun _ => 0)), .inl (2, 20, .inl (fun _ => 0)), .inl (2, 3, .inl (fun _ => 0)), .inl (5, 4, .inr (.inr (.inr (.inr (va_up (va_up (va_up (va_up (fun _ => none) 0 (some 54)) 1 (some 56)) 2 (some 58)) 3 (some 60)))))), .inr (4, [.ref 55, .int 0, .int 0, .int 0]), .inl (3, 60, .inr (.inl (fun _ => 0))), .inr (4, [.ref 57, .int 0, .int 0, .int 0]), .inl (3, 60, .inr (.inl (fun _ => 0))), .inr (4, [.ref 59, .int 0, .int 0, .int 0]), .inl (3, 60, .inr (.inl (fun _ => 0))), .inr (4, [.ref 61, .int 0, .int 0, .int 0]), .inl (3, 60, .inr (.inl (fun _ => 0))), .inr (1, [.ref 63, .int 0, .int 0, .int 0]), .inl (0, 8, .inl (fun _ => 0))] none := by
  refine Rt_of aiX1_init (by decide) ?_
  refine Go_st rfl rfl ?_
  refine Go_st rfl rfl ?_
  refine Go_st rfl rfl ?_
  refine Go_st rfl rfl ?_
  refine Go_st rfl rfl ?_
  refine Go_st rfl rfl ?_
  exact Go_ret rfl ⟨rfl, rfl⟩
set_option maxRecDepth 20000 in
set_option maxHeartbeats 4000000 in
theorem rc_13 (d : Nat) : pm_Rt pm_P (d + 1) 66 [.inr (8, [.ref 1, .ref 3, .ref 15, .ref 24, .ref 52, .ref 53, .ref 62, .null, .null, .null, .null, .null]), .inr (6, [.ref 2, .int 0]), .inl (1, 500, .inl (fun _ => 0)), .inr (2, [.ref 4, .int 0, .int (-1), .ref 1, .ref 13, .int 0, .int 0, .int 0, .int 0, .int 0]), .inr (5, [.int 0, .int 0, .int 0, .int 0, .int 0, .int 0, .int 0, .ref 5, .ref 6, .ref 7, .ref 8, .ref 9, .ref 10, .ref 11, .ref 12]), .inl (0, 8, .inl (fun _ => 0)), .inl (0, 8, .inl (fun _ => 0)), .inl (0, 8, .inl (fun _ => 0)), .inl (0, 8, .inl (fun _ => 0)), .inl (0, 8, .inl (fun _ => 0)), .inl (0, 20, .inl (fun _ => 0)), .inl (0, 20, .inl (fun _ => 0)), .inl (2, 20, .inl (fun _ => 0)), .inr (0, [.ref 14, .int 0]), .inl (0, 10, .inl (fun _ => 0)), .inr (5, [.int 0, .int 0, .int 0, .int 0, .int 0, .int 0, .int 0, .ref 16, .ref 17, .ref 18, .ref 19, .ref 20, .ref 21, .ref 22, .ref 23]), .inl (0, 8, .inl (fun _ => 0)), .inl (0, 8, .inl (fun _ => 0)), .inl (0, 8, .inl (fun _ => 0)), .inl (0, 8, .inl (fun _ => 0)), .inl (0, 8, .inl (fun _ => 0)), .inl (0, 20, .inl (fun _ => 0)), .inl (0, 20, .inl (fun _ => 0)), .inl (2, 20, .inl (fun _ => 0)), .inl (4, 3, .inr (.inr (.inr (.inr (va_up (va_up (va_up (fun _ => none) 0 (some 25)) 1 (some 34)) 2 (some 43)))))), .inr (5, [.int 0, .int 0, .int 0, .int 0, .int 0, .int 0, .int 0, .ref 26, .ref 27, .ref 28, .ref 29, .ref 30, .ref 31, .ref 32, .ref 33]), .inl (0, 8, .inl (fun _ => 0)), .inl (0, 8, .inl (fun _ => 0)), .inl (0, 8, .inl (fun _ => 0)), .inl (0, 8, .inl (fun _ => 0)), .inl (0, 8, .inl (fun _ => 0)), .inl (0, 20, .inl (fun _ => 0)), .inl (0, 20, .inl (fun _ => 0)), .inl (2, 20, .inl (fun _ => 0)), .inr (5, [.int 0, .int 0, .int 0, .int 0, .int 0, .int 0, .int 0, .ref 35, .ref 36, .ref 37, .ref 38, .ref 39, .ref 40, .ref 41, .ref 42]), .inl (0, 8, .inl (fun _ => 0)), .inl (0, 8, .inl (fun _ => 0)), .inl (0, 8, .inl (fun _ => 0)), .inl (0, 8, .inl (fun _ => 0)), .inl (0, 8, .inl (fun _ => 0)), .inl (0, 20, .inl (fun _ => 0)), .inl (0, 20, .inl (fun _ => 0)), .inl (2, 20, .inl (fun _ => 0)), .inr (5, [.int 0, .int 0, .int 0, .int 0, .int 0, .int 0, .int 0, .ref 44, .ref 45, .ref 46, .ref 47, .ref 48, .ref 49, .ref 50, .ref 51]), .inl (0, 8, .inl (fun _ => 0)), .inl (0, 8, .inl (fun _ => 0)), .inl (0, 8, .inl (fun _ => 0)), .inl (0, 8, .inl (fun _ => 0)), .inl (0, 8, .inl (fun _ => 0)), .inl (0, 20, .inl (fun _ => 0)), .inl (0, 20, .inl (fun _ => 0)), .inl (2, 20, .inl (fun _ => 0)), .inl (2, 3, .inl (fun _ => 0)), .inl (5, 4, .inr (.inr (.inr (.inr (va_up (va_up (va_up (va_up (fun _ => none) 0 (some 54)) 1 (some 56)) 2 (some 58)) 3 (some 60)))))), .inr (4, [.ref 55, .int 0, .int 0, .int 0]), .inl (3, 60, .inr (.inl (fun _ => 0))), .inr (4, [.ref 57, .int 0, .int 0, .int 0]), .inl (3, 60, .inr (.inl (fun _ => 0))), .inr (4, [.ref 59, .int 0, .int 0, .int 0]), .inl (3, 60, .inr (.inl (fun _ => 0))), .inr (4, [.ref 61, .int 0, .int 0, .int 0]), .inl (3, 60, .inr (.inl (fun _ => 0))), .inr (1, [.ref 63, .int 0, .int 0, .int 0]), .inl (0, 8, .inl (fun _ => 0)), .inr (7, [.null, .null, .null, .null, .null, .int 0, .int 0])] [.ref 64] [.inr (8, [.ref 1, .ref 3, .ref 15, .ref 24, .ref 52, .ref 53, .ref 62, .null, .null, .null, .null, .null]), .inr (6, [.ref 2, .int 0]), .inl (1, 500, .inl (fun _ => 0)), .inr (2, [.ref 4, .int 0, .int (-1), .ref 1, .ref 13, .int 0, .int 0, .int 0, .int 0, .int 0]), .inr (5, [.int 0, .int 0, .int 0, .int 0, .int 0, .int 0, .int 0, .ref 5, .ref 6, .ref 7, .ref 8, .ref 9, .ref 10, .ref 11, .ref 12]), .inl (0, 8, .inl (fun _ => 0)), .inl (0, 8, .inl (fun _ => 0)), .inl (0, 8, .inl (fun _ => 0)), .inl (0, 8, .inl (fun _ => 0)), .inl (0, 8, .inl (fun _ => 0)), .inl (0, 20, .inl (fun _ => 0)), .inl (0, 20, .inl (fun _ => 0)), .inl (2, 20, .inl (fun _ => 0)), .inr (0, [.ref 14, .int 0]), .inl (0, 10, .inl (fun _ => 0)), .inr (5, [.int 0, .int 0, .int 0, .int 0, .int 0, .int 0, .int 0, .ref 16, .ref 17, .ref 18, .ref 19, .ref 20, .ref 21, .ref 22, .ref 23]), .inl (0, 8, .inl (fun _ => 0)), .inl (0, 8, .inl (fun _ => 0)), .inl (0, 8, .inl (fun _ => 0)), .inl (0, 8, .inl (fun _ => 0)), .inl (0, 8, .inl (fun _ => 0)), .inl (0, 20, .inl (fun _ => 0)), .inl (0, 20, .inl (fun _ => 0)), .inl (2, 20, .inl (fun _ => 0)), .inl (4, 3, .inr (.inr (.inr (.inr (va_up (va_up (va_up (fun _ => none) 0 (some 25)) 1 (some 34)) 2 (some 43)))))), .inr (5, [.int 0, .int 0, .int 0, .int 0, .int 0, .int 0, .int 0, .ref 26, .ref 27, .ref 28, .ref 29, .ref 30, .ref 31, .ref 32, .ref 33]), .inl (0, 8, .inl (fun _ => 0)), .inl (0, 8, .inl (fun _ => 0)), .inl (0, 8, .inl (fun _ => 0)), .inl (0, 8, .inl (fun _ => 0)), .inl (0, 8, .inl (fun _ => 0)), .inl (0, 20, .inl (fun _ => 0)), .inl (0, 20, .inl (fun _ => 0)), .inl (2, 20, .inl (fun _ => 0)), .inr (5, [.int 0, .int 0, .int 0, .int 0, .int 0, .int 0, .int 0, .ref 35, .ref 36, .ref 37, .ref 38, .ref 39, .ref 40, .ref 41, .ref 42]), .inl (0, 8, .inl (fun _ => 0)), .inl (0, 8, .inl (fun _ => 0)), .inl (0, 8, .inl (fun _ => 0)), .inl (0, 8, .inl (fun _ => 0)), .inl (0, 8, .inl (fun _ => 0)), .inl (0, 20, .inl (fun _ => 0)), .inl (0, 20, .inl (fun _ => 0)), .inl (2, 20, .inl (fun _ => 0)), .inr (5, [.int 0, .int 0, .int 0, .int 0, .int 0, .int 0, .int 0, .ref 44, .ref 45, .ref 46, .ref 47, .ref 48, .ref 49, .ref 50, .ref 51]), .inl (0, 8, .inl (fun _ => 0)), .inl (0, 8, .inl (fun _ => 0)), .inl (0, 8, .inl (fun _ => 0)), .inl (0, 8, .inl (fun _ => 0)), .inl (0, 8, .inl (fun _ => 0)), .inl (0, 20, .inl (fun _ => 0)), .inl (0, 20, .inl (fun _ => 0)), .inl (2, 20, .inl (fun _ => 0)), .inl (2, 3, .inl (fun _ => 0)), .inl (5, 4, .inr (.inr (.inr (.inr (va_up (va_up (va_up (va_up (fun _ => none) 0 (some 54)) 1 (some 56)) 2 (some 58)) 3 (some 60)))))), .inr (4, [.ref 55, .int 0, .int 0, .int 0]), .inl (3, 60, .inr (.inl (fun _ => 0))), .inr (4, [.ref 57, .int 0, .int 0, .int 0]), .inl (3, 60, .inr (.inl (fun _ => 0))), .inr (4, [.ref 59, .int 0, .int 0, .int 0]), .inl (3, 60, .inr (.inl (fun _ => 0))), .inr (4, [.ref 61, .int 0, .int 0, .int 0]), .inl (3, 60, .inr (.inl (fun _ => 0))), .inr (1, [.ref 63, .int 0, .int 0, .int 0]), .inl (0, 8, .inl (fun _ => 0)), .inr (7, [.ref 65, .ref 66, .ref 67, .ref 68, .ref 69, .int 0, .int 0]), .inl (0, 9, .inl (fun _ => 0)), .inl (0, 9, .inl (fun _ => 0)), .inl (0, 9, .inl (fun _ => 0)), .inl (0, 9, .inl (fun _ => 0)), .inl (0, 9, .inl (fun _ => 0))] none := by
  refine Rt_of aiX7_init (by decide) ?_
  refine Go_st rfl rfl ?_
  refine Go_st rfl rfl ?_
  refine Go_st rfl rfl ?_
  refine Go_st rfl rfl ?_
  refine Go_st rfl rfl ?_
  refine Go_st rfl rfl ?_
  refine Go_st rfl rfl ?_
  refine Go_st rfl rfl ?_
  refine Go_st rfl rfl ?_
  refine Go_st rfl rfl ?_
  refine Go_st rfl rfl ?_
  refine Go_st rfl rfl ?_
  refine Go_st rfl rfl ?_
  refine Go_st rfl rfl ?_
  refine Go_st rfl rfl ?_
  refine Go_st rfl rfl ?_
  refine Go_st rfl rfl ?_
  refine Go_st rfl rfl ?_
  refine Go_st rfl rfl ?_
  refine Go_st rfl rfl ?_
  refine Go_st rfl rfl ?_
  refine Go_st rfl rfl ?_
  exact Go_ret rfl ⟨rfl, rfl⟩
set_option maxRecDepth 20000 in
set_option maxHeartbeats 4000000 in
theorem rc_14 (d : Nat) : pm_Rt pm_P (d + 1) 13 [.inr (8, [.ref 1, .ref 3, .ref 15, .ref 24, .ref 52, .ref 53, .ref 62, .ref 64, .null, .null, .null, .null]), .inr (6, [.ref 2, .int 0]), .inl (1, 500, .inl (fun _ => 0)), .inr (2, [.ref 4, .int 0, .int (-1), .ref 1, .ref 13, .int 0, .int 0, .int 0, .int 0, .int 0]), .inr (5, [.int 0, .int 0, .int 0, .int 0, .int 0, .int 0, .int 0, .ref 5, .ref 6, .ref 7, .ref 8, .ref 9, .ref 10, .ref 11, .ref 12]), .inl (0, 8, .inl (fun _ => 0)), .inl (0, 8, .inl (fun _ => 0)), .inl (0, 8, .inl (fun _ => 0)), .inl (0, 8, .inl (fun _ => 0)), .inl (0, 8, .inl (fun _ => 0)), .inl (0, 20, .inl (fun _ => 0)), .inl (0, 20, .inl (fun _ => 0)), .inl (2, 20, .inl (fun _ => 0)), .inr (0, [.ref 14, .int 0]), .inl (0, 10, .inl (fun _ => 0)), .inr (5, [.int 0, .int 0, .int 0, .int 0, .int 0, .int 0, .int 0, .ref 16, .ref 17, .ref 18, .ref 19, .ref 20, .ref 21, .ref 22, .ref 23]), .inl (0, 8, .inl (fun _ => 0)), .inl (0, 8, .inl (fun _ => 0)), .inl (0, 8, .inl (fun _ => 0)), .inl (0, 8, .inl (fun _ => 0)), .inl (0, 8, .inl (fun _ => 0)), .inl (0, 20, .inl (fun _ => 0)), .inl (0, 20, .inl (fun _ => 0)), .inl (2, 20, .inl (fun _ => 0)), .inl (4, 3, .inr (.inr (.inr (.inr (va_up (va_up (va_up (fun _ => none) 0 (some 25)) 1 (some 34)) 2 (some 43)))))), .inr (5, [.int 0, .int 0, .int 0, .int 0, .int 0, .int 0, .int 0, .ref 26, .ref 27, .ref 28, .ref 29, .ref 30, .ref 31, .ref 32, .ref 33]), .inl (0, 8, .inl (fun _ => 0)), .inl (0, 8, .inl (fun _ => 0)), .inl (0, 8, .inl (fun _ => 0)), .inl (0, 8, .inl (fun _ => 0)), .inl (0, 8, .inl (fun _ => 0)), .inl (0, 20, .inl (fun _ => 0)), .inl (0, 20, .inl (fun _ => 0)), .inl (2, 20, .inl (fun _ => 0)), .inr (5, [.int 0, .int 0, .int 0, .int 0, .int 0, .int 0, .int 0, .ref 35, .ref 36, .ref 37, .ref 38, .ref 39, .ref 40, .ref 41, .ref 42]), .inl (0, 8, .inl (fun _ => 0)), .inl (0, 8, .inl (fun _ => 0)), .inl (0, 8, .inl (fun _ => 0)), .inl (0, 8, .inl (fun _ => 0)), .inl (0, 8, .inl (fun _ => 0)), .inl (0, 20, .inl (fun _ => 0)), .inl (0, 20, .inl (fun _ => 0)), .inl (2, 20, .inl (fun _ => 0)), .inr (5, [.int 0, .int 0, .int 0, .int 0, .int 0, .int 0, .int 0, .ref 44, .ref 45, .ref 46, .ref 47, .ref 48, .ref 49, .ref 50, .ref 51]), .inl (0, 8, .inl (fun _ => 0)), .inl (0, 8, .inl (fun _ => 0)), .inl (0, 8, .inl (fun _ => 0)), .inl (0, 8, .inl (fun _ => 0)), .inl (0, 8, .inl (fun _ => 0)), .inl (0, 20, .inl (fun _ => 0)), .inl (0, 20, .inl (fun _ => 0)), .inl (2, 20, .inl (fun _ => 0)), .inl (2, 3, .inl (fun _ => 0)), .inl (5, 4, .inr (.inr (.inr (.inr (va_up (va_up (va_up (va_up (fun _ => none) 0 (some 54)) 1 (some 56)) 2 (some 58)) 3 (some 60)))))), .inr (4, [.ref 55, .int 0, .int 0, .int 0]), .inl (3, 60, .inr (.inl (fun _ => 0))), .inr (4, [.ref 57, .int 0, .int 0, .int 0]), .inl (3, 60, .inr (.inl (fun _ => 0))), .inr (4, [.ref 59, .int 0, .int 0, .int 0]), .inl (3, 60, .inr (.inl (fun _ => 0))), .inr (4, [.ref 61, .int 0, .int 0, .int 0]), .inl (3, 60, .inr (.inl (fun _ => 0))), .inr (1, [.ref 63, .int 0, .int 0, .int 0]), .inl (0, 8, .inl (fun _ => 0)), .inr (7, [.ref 65, .ref 66, .ref 67, .ref 68, .ref 69, .int 0, .int 0]), .inl (0, 9, .inl (fun _ => 0)), .inl (0, 9, .inl (fun _ => 0)), .inl (0, 9, .inl (fun _ => 0)), .inl (0, 9, .inl (fun _ => 0)), .inl (0, 9, .inl (fun _ => 0)), .inr (0, [.null, .int 0])] [.ref 70] [.inr (8, [.ref 1, .ref 3, .ref 15, .ref 24, .ref 52, .ref 53, .ref 62, .ref 64, .null, .null, .null, .null]), .inr (6, [.ref 2, .int 0]), .inl (1, 500, .inl (fun _ => 0)), .inr (2, [.ref 4, .int 0, .int (-1), .ref 1, .ref 13, .int 0, .int 0, .int 0, .int 0, .int 0]), .inr (5, [.int 0, .int 0, .int 0, .int 0, .int 0, .int 0, .int 0, .ref 5, .ref 6, .ref 7, .ref 8, .ref 9, .ref 10, .ref 11, .ref 12]), .inl (0, 8, .inl (fun _ => 0)), .inl (0, 8, .inl (fun _ => 0)), .inl (0, 8, .inl (fun _ => 0)), .inl (0, 8, .inl (fun _ => 0)), .inl (0, 8, .inl (fun _ => 0)), .inl (0, 20, .inl (fun _ => 0)), .inl (0, 20, .inl (fun _ => 0)), .inl (2, 20, .inl (fun _ => 0)), .inr (0, [.ref 14, .int 0]), .inl (0, 10, .inl (fun _ => 0)), .inr (5, [.int 0, .int 0, .int 0, .int 0, .int 0, .int 0, .int 0, .ref 16, .ref 17, .ref 18, .ref 19, .ref 20, .ref 21, .ref 22, .ref 23]), .inl (0, 8, .inl (fun _ => 0)), .inl (0, 8, .inl (fun _ => 0)), .inl (0, 8, .inl (fun _ => 0)), .inl (0, 8, .inl (fun _ => 0)), .inl (0, 8, .inl (fun _ => 0)), .inl (0, 20, .inl (fun _ => 0)), .inl (0, 20, .inl (fun _ => 0)), .inl (2, 20, .inl (fun _ => 0)), .inl (4, 3, .inr (.inr (.inr (.inr (va_up (va_up (va_up (fun _ => none) 0 (some 25)) 1 (some 34)) 2 (some 43)))))), .inr (5, [.int 0, .int 0, .int 0, .int 0, .int 0, .int 0, .int 0, .ref 26, .ref 27, .ref 28, .ref 29, .ref 30, .ref 31, .ref 32, .ref 33]), .inl (0, 8, .inl (fun _ => 0)), .inl (0, 8, .inl (fun _ => 0)), .inl (0, 8, .inl (fun _ => 0)), .inl (0, 8, .inl (fun _ => 0)), .inl (0, 8, .inl (fun _ => 0)), .inl (0, 20, .inl (fun _ => 0)), .inl (0, 20, .inl (fun _ => 0)), .inl (2, 20, .inl (fun _ => 0)), .inr (5, [.int 0, .int 0, .int 0, .int 0, .int 0, .int 0, .int 0, .ref 35, .ref 36, .ref 37, .ref 38, .ref 39, .ref 40, .ref 41, .ref 42]), .inl (0, 8, .inl (fun _ => 0)), .inl (0, 8, .inl (fun _ => 0)), .inl (0, 8, .inl (fun _ => 0)), .inl (0, 8, .inl (fun _ => 0)), .inl (0, 8, .inl (fun _ => 0)), .inl (0, 20, .inl (fun _ => 0)), .inl (0, 20, .inl (fun _ => 0)), .inl (2, 20, .inl (fun _ => 0)), .inr (5, [.int 0, .int 0, .int 0, .int 0, .int 0, .int 0, .int 0, .ref 44, .ref 45, .ref 46, .ref 47, .ref 48, .ref 49, .ref 50, .ref 51]), .inl (0, 8, .inl (fun _ => 0)), .inl (0, 8, .inl (fun _ => 0)), .inl (0, 8, .inl (fun _ => 0)), .inl (0, 8, .inl (fun _ => 0)), .inl (0, 8, .inl (fun _ => 0)), .inl (0, 20, .inl (fun _ => 0)), .inl (0, 20, .inl (fun _ => 0)), .inl (2, 20, .inl (fun _ => 0)), .inl (2, 3, .inl (fun _ => 0)), .inl (5, 4, .inr (.inr (.inr (.inr (va_up (va_up (va_up (va_up (fun _ => none) 0 (some 54)) 1 (some 56)) 2 (some 58)) 3 (some 60)))))), .inr (4, [.ref 55, .int 0, .int 0, .int 0]), .inl (3, 60, .inr (.inl (fun _ => 0))), .inr (4, [.ref 57, .int 0, .int 0, .int 0]), .inl (3, 60, .inr (.inl (fun _ => 0))), .inr (4, [.ref 59, .int 0, .int 0, .int 0]), .inl (3, 60, .inr (.inl (fun _ => 0))), .inr (4, [.ref 61, .int 0, .int 0, .int 0]), .inl (3, 60, .inr (.inl (fun _ => 0))), .inr (1, [.ref 63, .int 0, .int 0, .int 0]), .inl (0, 8, .inl (fun _ => 0)), .inr (7, [.ref 65, .ref 66, .ref 67, .ref 68, .ref 69, .int 0, .int 0]), .inl (0, 9, .inl (fun _ => 0)), .inl (0, 9, .inl (fun _ => 0)), .inl (0, 9, .inl (fun _ => 0)), .inl (0, 9, .inl (fun _ => 0)), .inl (0, 9, .inl (fun _ => 0)), .inr (0, [.ref 71, .int 0]), .inl (0, 10, .inl (fun _ => 0))] none := by
  refine Rt_of aiX0_init (by decide) ?_
  refine Go_st rfl rfl ?_
  refine Go_st rfl rfl ?_
  refine Go_st rfl rfl ?_
  refine Go_st rfl rfl ?_
  refine Go_st rfl rfl ?_
  refine Go_st rfl rfl ?_
  exact Go_ret rfl ⟨rfl, rfl⟩
set_option maxRecDepth 20000 in
set_option maxHeartbeats 4000000 in
theorem rc_15 (d : Nat) : pm_Rt pm_P (d + 1) 43 [.inr (8, [.ref 1, .ref 3, .ref 15, .ref 24, .ref 52, .ref 53, .ref 62, .ref 64, .ref 70, .null, .null, .null]), .inr (6, [.ref 2, .int 0]), .inl (1, 500, .inl (fun _ => 0)), .inr (2, [.ref 4, .int 0, .int (-1), .ref 1, .ref 13, .int 0, .int 0, .int 0, .int 0, .int 0]), .inr (5, [.int 0, .int 0, .int 0, .int 0, .int 0, .int 0, .int 0, .ref 5, .ref 6, .ref 7, .ref 8, .ref 9, .ref 10, .ref 11, .ref 12]), .inl (0, 8, .inl (fun _ => 0)), .inl (0, 8, .inl (fun _ => 0)), .inl (0, 8, .inl (fun _ => 0)), .inl (0, 8, .inl (fun _ => 0)), .inl (0, 8, .inl (fun _ => 0)), .inl (0, 20, .inl (fun _ => 0)), .inl (0, 20, .inl (fun _ => 0)), .inl (2, 20, .inl (fun _ => 0)), .inr (0, [.ref 14, .int 0]), .inl (0, 10, .inl (fun _ => 0)), .inr (5, [.int 0, .int 0, .int 0, .int 0, .int 0, .int 0, .int 0, .ref 16, .ref 17, .ref 18, .ref 19, .ref 20, .ref 21, .ref 22, .ref 23]), .inl (0, 8, .inl (fun _ => 0)), .inl (0, 8, .inl (fun _ => 0)), .inl (0, 8, .inl (fun _ => 0)), .inl (0, 8, .inl (fun _ => 0)), .inl (0, 8, .inl (fun _ => 0)), .inl (0, 20, .inl (fun _ => 0)), .inl (0, 20, .inl (fun _ => 0)), .inl (2, 20, .inl (fun _ => 0)), .inl (4, 3, .inr (.inr (.inr (.inr (va_up (va_up (va_up (fun _ => none) 0 (some 25)) 1 (some 34)) 2 (some 43)))))), .inr (5, [.int 0, .int 0, .int 0, .int 0, .int 0, .int 0, .int 0, .ref 26, .ref 27, .ref 28, .ref 29, .ref 30, .ref 31, .ref 32, .ref 33]), .inl (0, 8, .inl (fun _ => 0)), .inl (0, 8, .inl (fun _ => 0)), .inl (0, 8, .inl (fun _ => 0)), .inl (0, 8, .inl (fun _ => 0)), .inl (0, 8, .inl (fun _ => 0)), .inl (0, 20, .inl (fun _ => 0)), .inl (0, 20, .inl (fun _ => 0)), .inl (2, 20, .inl (fun _ => 0)), .inr (5, [.int 0, .int 0, .int 0, .int 0, .int 0, .int 0, .int 0, .ref 35, .ref 36, .ref 37, .ref 38, .ref 39, .ref 40, .ref 41, .ref 42]), .inl (0, 8, .inl (fun _ => 0)), .inl (0, 8, .inl (fun _ => 0)), .inl (0, 8, .inl (fun _ => 0)), .inl (0, 8, .inl (fun _ => 0)), .inl (0, 8, .inl (fun _ => 0)), .inl (0, 20, .inl (fun _ => 0)), .inl (0, 20, .inl (fun _ => 0)), .inl (2, 20, .inl (fun _ => 0)), .inr (5, [.int 0, .int 0, .int 0, .int 0, .int 0, .int 0, .int 0, .ref 44, .ref 45, .ref 46, .ref 47, .ref 48, .ref 49, .ref 50, .ref 51]), .inl (0, 8, .inl (fun _ => 0)), .inl (0, 8, .inl (fun _ => 0)), .inl (0, 8, .inl (fun _ => 0)), .inl (0, 8, .inl (fun _ => 0)), .inl (0, 8, .inl (fun _ => 0)), .inl (0, 20, .inl (fun _ => 0)), .inl (0, 20, .inl (fun _ => 0)), .inl (2, 20, .inl (fun _ => 0)), .inl (2, 3, .inl (fun _ => 0)), .inl (5, 4, .inr (.inr (.inr (.inr (va_up (va_up (va_up (va_up (fun _ => none) 0 (some 54)) 1 (some 56)) 2 (some 58)) 3 (some 60)))))), .inr (4, [.ref 55, .int 0, .int 0, .int 0]), .inl (3, 60, .inr (.inl (fun _ => 0))), .inr (4, [.ref 57, .int 0, .int 0, .int 0]), .inl (3, 60, .inr (.inl (fun _ => 0))), .inr (4, [.ref 59, .int 0, .int 0, .int 0]), .inl (3, 60, .inr (.inl (fun _ => 0))), .inr (4, [.ref 61, .int 0, .int 0, .int 0]), .inl (3, 60, .inr (.inl (fun _ => 0))), .inr (1, [.ref 63, .int 0, .int 0, .int 0]), .inl (0, 8, .inl (fun _ => 0)), .inr (7, [.ref 65, .ref 66, .ref 67, .ref 68, .ref 69, .int 0, .int 0]), .inl (0, 9, .inl (fun _ => 0)), .inl (0, 9, .inl (fun _ => 0)), .inl (0, 9, .inl (fun _ => 0)), .inl (0, 9, .inl (fun _ => 0)), .inl (0, 9, .inl (fun _ => 0)), .inr (0, [.ref 71, .int 0]), .inl (0, 10, .inl (fun _ => 0)), .inr (3, [.null, .null])] [.ref 72] [.inr (8, [.ref 1, .ref 3, .ref 15, .ref 24, .ref 52, .ref 53, .ref 62, .ref 64, .ref 70, .null, .null, .null]), .inr (6, [.ref 2, .int 0]), .inl (1, 500, .inl (fun _ => 0)), .inr (2, [.ref 4, .int 0, .int (-1), .ref 1, .ref 13, .int 0, .int 0, .int 0, .int 0, .int 0]), .inr (5, [.int 0, .int 0, .int 0, .int 0, .int 0, .int 0, .int 0, .ref 5, .ref 6, .ref 7, .ref 8, .ref 9, .ref 10, .ref 11, .ref 12]), .inl (0, 8, .inl (fun _ => 0)), .inl (0, 8, .inl (fun _ => 0)), .inl (0, 8, .inl (fun _ => 0)), .inl (0, 8, .inl (fun _ => 0)), .inl (0, 8, .inl (fun _ => 0)), .inl (0, 20, .inl (fun _ => 0)), .inl (0, 20, .inl (fun _ => 0)), .inl (2, 20, .inl (fun _ => 0)), .inr (0, [.ref 14, .int 0]), .inl (0, 10, .inl (fun _ => 0)), .inr (5, [.int 0, .int 0, .int 0, .int 0, .int 0, .int 0, .int 0, .ref 16, .ref 17, .ref 18, .ref 19, .ref 20, .ref 21, .ref 22, .ref 23]), .inl (0, 8, .inl (fun _ => 0)), .inl (0, 8, .inl (fun _ => 0)), .inl (0, 8, .inl (fun _ => 0)), .inl (0, 8, .inl (fun _ => 0)), .inl (0, 8, .inl (fun _ => 0)), .inl (0, 20, .inl (fun _ => 0)), .inl (0, 20, .inl (fun _ => 0)), .inl (2, 20, .inl (fun _ => 0)), .inl (4, 3, .inr (.inr (.inr (.inr (va_up (va_up (va_up (fun _ => none) 0 (some 25)) 1 (some 34)) 2 (some 43)))))), .inr (5, [.int 0, .int 0, .int 0, .int 0, .int 0, .int 0, .int 0, .ref 26, .ref 27, .ref 28, .ref 29, .ref 30, .ref 31, .ref 32, .ref 33]), .inl (0, 8, .inl (fun _ => 0)), .inl (0, 8, .inl (fun _ => 0)), .inl (0, 8, .inl (fun _ => 0)), .inl (0, 8, .inl (fun _ => 0)), .inl (0, 8, .inl (fun _ => 0)), .inl (0, 20, .inl (fun _ => 0)), .inl (0, 20, .inl (fun _ => 0)), .inl (2, 20, .inl (fun _ => 0)), .inr (5, [.int 0, .int 0, .int 0, .int 0, .int 0, .int 0, .int 0, .ref 35, .ref 36, .ref 37, .ref 38, .ref 39, .ref 40, .ref 41, .ref 42]), .inl (0, 8, .inl (fun _ => 0)), .inl (0, 8, .inl (fun _ => 0)), .inl (0, 8, .inl (fun _ => 0)), .inl (0, 8, .inl (fun _ => 0)), .inl (0, 8, .inl (fun _ => 0)), .inl (0, 20, .inl (fun _ => 0)), .inl (0, 20, .inl (fun _ => 0)), .inl (2, 20, .inl (fun _ => 0)), .inr (5, [.int 0, .int 0, .int 0, .int 0, .int 0, .int 0, .int 0, .ref 44, .ref 45, .ref 46, .ref 47, .ref 48, .ref 49, .ref 50, .ref 51]), .inl (0, 8, .inl (fun _ => 0)), .inl (0, 8, .inl (fun _ => 0)), .inl (0, 8, .inl (fun _ => 0)), .inl (0, 8, .inl (fun _ => 0)), .inl (0, 8, .inl (fun _ => 0)), .inl (0, 20, .inl (fun _ => 0)), .inl (0, 20, .inl (fun _ => 0)), .inl (2, 20, .inl (fun _ => 0)), .inl (2, 3, .inl (fun _ => 0)), .inl (5, 4, .inr (.inr (.inr (.inr (va_up (va_up (va_up (va_up (fun _ => none) 0 (some 54)) 1 (some 56)) 2 (some 58)) 3 (some 60)))))), .inr (4, [.ref 55, .int 0, .int 0, .int 0]), .inl (3, 60, .inr (.inl (fun _ => 0))), .inr (4, [.ref 57, .int 0, .int 0, .int 0]), .inl (3, 60, .inr (.inl (fun _ => 0))), .inr (4, [.ref 59, .int 0, .int 0, .int 0]), .inl (3, 60, .inr (.inl (fun _ => 0))), .inr (4, [.ref 61, .int 0, .int 0, .int 0]), .inl (3, 60, .inr (.inl (fun _ => 0))), .inr (1, [.ref 63, .int 0, .int 0, .int 0]), .inl (0, 8, .inl (fun _ => 0)), .inr (7, [.ref 65, .ref 66, .ref 67, .ref 68, .ref 69, .int 0, .int 0]), .inl (0, 9, .inl (fun _ => 0)), .inl (0, 9, .inl (fun _ => 0)), .inl (0, 9, .inl (fun _ => 0)), .inl (0, 9, .inl (fun _ => 0)), .inl (0, 9, .inl (fun _ => 0)), .inr (0, [.ref 71, .int 0]), .inl (0, 10, .inl (fun _ => 0)), .inr (3, [.ref 73, .ref 74]), .inl (0, 256, .inl (fun _ => 0)), .inl (0, 256, .inl (fun _ => 0))] none := by
  refine Rt_of aiX3_init (by decide) ?_
  refine Go_st rfl rfl ?_
  refine Go_st rfl rfl ?_
  refine Go_st rfl rfl ?_
  refine Go_st rfl rfl ?_
  refine Go_st rfl rfl ?_
  refine Go_st rfl rfl ?_
  refine Go_st rfl rfl ?_
  refine Go_st rfl rfl ?_
  refine Go_st rfl rfl ?_
  refine Go_st rfl rfl ?_
  exact Go_ret rfl ⟨rfl, rfl⟩
set_option maxRecDepth 20000 in
set_option maxHeartbeats 4000000 in
theorem rc_16 (d : Nat) : pm_Rt pm_P (d + 3) 122 [.inr (8, [.null, .null, .null, .null, .null, .null, .null, .null, .null, .null, .null, .null])] [.ref 0] [.inr (8, [.ref 1, .ref 3, .ref 15, .ref 24, .ref 52, .ref 53, .ref 62, .ref 64, .ref 70, .ref 72, .ref 75, .ref 76]), .inr (6, [.ref 2, .int 0]), .inl (1, 500, .inl (fun _ => 0)), .inr (2, [.ref 4, .int 0, .int (-1), .ref 1, .ref 13, .int 0, .int 0, .int 0, .int 0, .int 0]), .inr (5, [.int 0, .int 0, .int 0, .int 0, .int 0, .int 0, .int 0, .ref 5, .ref 6, .ref 7, .ref 8, .ref 9, .ref 10, .ref 11, .ref 12]), .inl (0, 8, .inl (fun _ => 0)), .inl (0, 8, .inl (fun _ => 0)), .inl (0, 8, .inl (fun _ => 0)), .inl (0, 8, .inl (fun _ => 0)), .inl (0, 8, .inl (fun _ => 0)), .inl (0, 20, .inl (fun _ => 0)), .inl (0, 20, .inl (fun _ => 0)), .inl (2, 20, .inl (fun _ => 0)), .inr (0, [.ref 14, .int 0]), .inl (0, 10, .inl (fun _ => 0)), .inr (5, [.int 0, .int 0, .int 0, .int 0, .int 0, .int 0, .int 0, .ref 16, .ref 17, .ref 18, .ref 19, .ref 20, .ref 21, .ref 22, .ref 23]), .inl (0, 8, .inl (fun _ => 0)), .inl (0, 8, .inl (fun _ => 0)), .inl (0, 8, .inl (fun _ => 0)), .inl (0, 8, .inl (fun _ => 0)), .inl (0, 8, .inl (fun _ => 0)), .inl (0, 20, .inl (fun _ => 0)), .inl (0, 20, .inl (fun _ => 0)), .inl (2, 20, .inl (fun _ => 0)), .inl (4, 3, .inr (.inr (.inr (.inr (va_up (va_up (va_up (fun _ => none) 0 (some 25)) 1 (some 34)) 2 (some 43)))))), .inr (5, [.int 0, .int 0, .int 0, .int 0, .int 0, .int 0, .int 0, .ref 26, .ref 27, .ref 28, .ref 29, .ref 30, .ref 31, .ref 32, .ref 33]), .inl (0, 8, .inl (fun _ => 0)), .inl (0, 8, .inl (fun _ => 0)), .inl (0, 8, .inl (fun _ => 0)), .inl (0, 8, .inl (fun _ => 0)), .inl (0, 8, .inl (fun _ => 0)), .inl (0, 20, .inl (fun _ => 0)), .inl (0, 20, .inl (fun _ => 0)), .inl (2, 20, .inl (fun _ => 0)), .inr (5, [.int 0, .int 0, .int 0, .int 0, .int 0, .int 0, .int 0, .ref 35, .ref 36, .ref 37, .ref 38, .ref 39, .ref 40, .ref 41, .ref 42]), .inl (0, 8, .inl (fun _ => 0)), .inl (0, 8, .inl (fun _ => 0)), .inl (0, 8, .inl (fun _ => 0)), .inl (0, 8, .inl (fun _ => 0)), .inl (0, 8, .inl (fun _ => 0)), .inl (0, 20, .inl (fun _ => 0)), .inl (0, 20, .inl (fun _ => 0)), .inl (2, 20, .inl (fun _ => 0)), .inr (5, [.int 0, .int 0, .int 0, .int 0, .int 0, .int 0, .int 0, .ref 44, .ref 45, .ref 46, .ref 47, .ref 48, .ref 49, .ref 50, .ref 51]), .inl (0, 8, .inl (fun _ => 0)), .inl (0, 8, .inl (fun _ => 0)), .inl (0, 8, .inl (fun _ => 0)), .inl (0, 8, .inl (fun _ => 0)), .inl (0, 8, .inl (fun _ => 0)), .inl (0, 20, .inl (fun _ => 0)), .inl (0, 20, .inl (fun _ => 0)), .inl (2, 20, .inl (fun _ => 0)), .inl (2, 3, .inl (fun _ => 0)), .inl (5, 4, .inr (.inr (.inr (.inr (va_up (va_up (va_up (va_up (fun _ => none) 0 (some 54)) 1 (some 56)) 2 (some 58)) 3 (some 60)))))), .inr (4, [.ref 55, .int 0, .int 0, .int 0]), .inl (3, 60, .inr (.inl (fun _ => 0))), .inr (4, [.ref 57, .int 0, .int 0, .int 0]), .inl (3, 60, .inr (.inl (fun _ => 0))), .inr (4, [.ref 59, .int 0, .int 0, .int 0]), .inl (3, 60, .inr (.inl (fun _ => 0))), .inr (4, [.ref 61, .int 0, .int 0, .int 0]), .inl (3, 60, .inr (.inl (fun _ => 0))), .inr (1, [.ref 63, .int 0, .int 0, .int 0]), .inl (0, 8, .inl (fun _ => 0)), .inr (7, [.ref 65, .ref 66, .ref 67, .ref 68, .ref 69, .int 0, .int 0]), .inl (0, 9, .inl (fun _ => 0)), .inl (0, 9, .inl (fun _ => 0)), .inl (0, 9, .inl (fun _ => 0)), .inl (0, 9, .inl (fun _ => 0)), .inl (0, 9, .inl (fun _ => 0)), .inr (0, [.ref 71, .int 0]), .inl (0, 10, .inl (fun _ => 0)), .inr (3, [.ref 73, .ref 74]), .inl (0, 256, .inl (fun _ => 0)), .inl (0, 256, .inl (fun _ => 0)), .inl (0, 8, .inl (fun _ => 0)), .inl (0, 64, .inl (fun _ => 0))] none := by
  refine Rt_of aiX8_init (by decide) ?_
  refine Go_st rfl rfl ?_
  refine Go_st rfl rfl ?_
  refine Go_st rfl rfl ?_
  refine Go_st rfl rfl ?_
  refine Go_st rfl rfl ?_
  refine Go_call rfl (rc_0 (d + 1)) (chkV rfl rfl rfl rfl rfl rfl rfl) ?_
  refine Go_st rfl rfl ?_
  refine Go_st rfl rfl ?_
  refine Go_st rfl rfl ?_
  refine Go_st rfl rfl ?_
  refine Go_st rfl rfl ?_
  refine Go_st rfl rfl ?_
  refine Go_call rfl (rc_3 d) (chkV rfl rfl rfl rfl rfl rfl rfl) ?_
  refine Go_st rfl rfl ?_
  refine Go_st rfl rfl ?_
  refine Go_st rfl rfl ?_
  refine Go_st rfl rfl ?_
  refine Go_call rfl (rc_4 (d + 1)) (chkV rfl rfl rfl rfl rfl rfl rfl) ?_
  refine Go_st rfl rfl ?_
  refine Go_st rfl rfl ?_
  refine Go_st rfl rfl ?_
  refine Go_st rfl rfl ?_
  refine Go_st rfl rfl ?_
  refine Go_st rfl rfl ?_
  refine Go_st rfl rfl ?_
  refine Go_st rfl rfl ?_
  refine Go_st rfl rfl ?_
  refine Go_st rfl rfl ?_
  refine Go_ifF (by decide +kernel) ?_
  refine Go_st rfl rfl ?_
  refine Go_st rfl rfl ?_
  refine Go_st rfl rfl ?_
  refine Go_st rfl rfl ?_
  refine Go_st rfl rfl ?_
  refine Go_call rfl (rc_5 (d + 1)) (chkV rfl rfl rfl rfl rfl rfl rfl) ?_
  refine Go_st rfl rfl ?_
  refine Go_st rfl rfl ?_
  refine Go_st rfl rfl ?_
  refine Go_st rfl rfl ?_
  refine Go_st rfl rfl ?_
  refine Go_st rfl rfl ?_
  refine Go_ifF (by decide +kernel) ?_
  refine Go_st rfl rfl ?_
  refine Go_st rfl rfl ?_
  refine Go_st rfl rfl ?_
  refine Go_st rfl rfl ?_
  refine Go_st rfl rfl ?_
  refine Go_call rfl (rc_6 (d + 1)) (chkV rfl rfl rfl rfl rfl rfl rfl) ?_
  refine Go_st rfl rfl ?_
  refine Go_st rfl rfl ?_
  refine Go_st rfl rfl ?_
  refine Go_st rfl rfl ?_
  refine Go_st rfl rfl ?_
  refine Go_st rfl rfl ?_
  refine Go_ifF (by decide +kernel) ?_
  refine Go_st rfl rfl ?_
  refine Go_st rfl rfl ?_
  refine Go_st rfl rfl ?_
  refine Go_st rfl rfl ?_
  refine Go_st rfl rfl ?_
  refine Go_call rfl (rc_7 (d + 1)) (chkV rfl rfl rfl rfl rfl rfl rfl) ?_
  refine Go_st rfl rfl ?_
  refine Go_st rfl rfl ?_
  refine Go_st rfl rfl ?_
  refine Go_st rfl rfl ?_
  refine Go_st rfl rfl ?_
  refine Go_st rfl rfl ?_
  refine Go_ifT (by decide +kernel) ?_
  refine Go_st rfl rfl ?_
  refine Go_st rfl rfl ?_
  refine Go_st rfl rfl ?_
  refine Go_st rfl rfl ?_
  refine Go_st rfl rfl ?_
  refine Go_st rfl rfl ?_
  refine Go_st rfl rfl ?_
  refine Go_st rfl rfl ?_
  refine Go_st rfl rfl ?_
  refine Go_st rfl rfl ?_
  refine Go_st rfl rfl ?_
  refine Go_st rfl rfl ?_
  refine Go_st rfl rfl ?_
  refine Go_ifF (by decide +kernel) ?_
  refine Go_st rfl rfl ?_
  refine Go_st rfl rfl ?_
  refine Go_st rfl rfl ?_
  refine Go_st rfl rfl ?_
  refine Go_st rfl rfl ?_
  refine Go_call rfl (rc_8 (d + 1)) (chkV rfl rfl rfl rfl rfl rfl rfl) ?_
  refine Go_st rfl rfl ?_
  refine Go_st rfl rfl ?_
  refine Go_st rfl rfl ?_
  refine Go_st rfl rfl ?_
  refine Go_st rfl rfl ?_
  refine Go_st rfl rfl ?_
  refine Go_ifF (by decide +kernel) ?_
  refine Go_st rfl rfl ?_
  refine Go_st rfl rfl ?_
  refine Go_st rfl rfl ?_
  refine Go_st rfl rfl ?_
  refine Go_st rfl rfl ?_
  refine Go_call rfl (rc_9 (d + 1)) (chkV rfl rfl rfl rfl rfl rfl rfl) ?_
  refine Go_st rfl rfl ?_
  refine Go_st rfl rfl ?_
  refine Go_st rfl rfl ?_
  refine Go_st rfl rfl ?_
  refine Go_st rfl rfl ?_
  refine Go_st rfl rfl ?_
  refine Go_ifF (by decide +kernel) ?_
  refine Go_st rfl rfl ?_
  refine Go_st rfl rfl ?_
  refine Go_st rfl rfl ?_
  refine Go_st rfl rfl ?_
  refine Go_st rfl rfl ?_
  refine Go_call rfl (rc_10 (d + 1)) (chkV rfl rfl rfl rfl rfl rfl rfl) ?_
  refine Go_st rfl rfl ?_
  refine Go_st rfl rfl ?_
  refine Go_st rfl rfl ?_
  refine Go_st rfl rfl ?_
  refine Go_st rfl rfl ?_
  refine Go_st rfl rfl ?_
  refine Go_ifF (by decide +kernel) ?_
  refine Go_st rfl rfl ?_
  refine Go_st rfl rfl ?_
  refine Go_st rfl rfl ?_
  refine Go_st rfl rfl ?_
  refine Go_st rfl rfl ?_
  refine Go_call rfl (rc_11 (d + 1)) (chkV rfl rfl rfl rfl rfl rfl rfl) ?_
  refine Go_st rfl rfl ?_
  refine Go_st rfl rfl ?_
  refine Go_st rfl rfl ?_
  refine Go_st rfl rfl ?_
  refine Go_st rfl rfl ?_
  refine Go_st rfl rfl ?_
  refine Go_ifT (by decide +kernel) ?_
  refine Go_st rfl rfl ?_
  refine Go_st rfl rfl ?_
  refine Go_st rfl rfl ?_
  refine Go_call rfl (rc_12 (d + 1)) (chkV rfl rfl rfl rfl rfl rfl rfl) ?_
  refine Go_st rfl rfl ?_
  refine Go_st rfl rfl ?_
  refine Go_st rfl rfl ?_
  refine Go_st rfl rfl ?_
  refine Go_call rfl (rc_13 (d + 1)) (chkV rfl rfl rfl rfl rfl rfl rfl) ?_
  refine Go_st rfl rfl ?_
  refine Go_st rfl rfl ?_
  refine Go_st rfl rfl ?_
  refine Go_st rfl rfl ?_
  refine Go_call rfl (rc_14 (d + 1)) (chkV rfl rfl rfl rfl rfl rfl rfl) ?_
  refine Go_st rfl rfl ?_
  refine Go_st rfl rfl ?_
  refine Go_st rfl rfl ?_
  refine Go_st rfl rfl ?_
  refine Go_call rfl (rc_15 (d + 1)) (chkV rfl rfl rfl rfl rfl rfl rfl) ?_
  refine Go_st rfl rfl ?_
  refine Go_st rfl rfl ?_
  refine Go_st rfl rfl ?_
  refine Go_st rfl rfl ?_
  refine Go_st rfl rfl ?_
  refine Go_st rfl rfl ?_
  refine Go_st rfl rfl ?_
  refine Go_st rfl rfl ?_
  refine Go_st rfl rfl ?_
  exact Go_ret rfl ⟨rfl, rfl⟩
set_option maxRecDepth 20000 in
set_option maxHeartbeats 4000000 in
theorem rc_17 (d : Nat) : pm_Rt pm_P (d + 1) 262 [.inr (8, [.ref 1, .ref 3, .ref 15, .ref 24, .ref 52, .ref 53, .ref 62, .ref 64, .ref 70, .ref 72, .ref 75, .ref 76]), .inr (6, [.ref 2, .int 0]), .inl (1, 500, .inl (fun _ => 0)), .inr (2, [.ref 4, .int 0, .int (-1), .ref 1, .ref 13, .int 0, .int 0, .int 0, .int 0, .int 0]), .inr (5, [.int 0, .int 0, .int 0, .int 0, .int 0, .int 0, .int 0, .ref 5, .ref 6, .ref 7, .ref 8, .ref 9, .ref 10, .ref 11, .ref 12]), .inl (0, 8, .inl (fun _ => 0)), .inl (0, 8, .inl (fun _ => 0)), .inl (0, 8, .inl (fun _ => 0)), .inl (0, 8, .inl (fun _ => 0)), .inl (0, 8, .inl (fun _ => 0)), .inl (0, 20, .inl (fun _ => 0)), .inl (0, 20, .inl (fun _ => 0)), .inl (2, 20, .inl (fun _ => 0)), .inr (0, [.ref 14, .int 0]), .inl (0, 10, .inl (fun _ => 0)), .inr (5, [.int 0, .int 0, .int 0, .int 0, .int 0, .int 0, .int 0, .ref 16, .ref 17, .ref 18, .ref 19, .ref 20, .ref 21, .ref 22, .ref 23]), .inl (0, 8, .inl (fun _ => 0)), .inl (0, 8, .inl (fun _ => 0)), .inl (0, 8, .inl (fun _ => 0)), .inl (0, 8, .inl (fun _ => 0)), .inl (0, 8, .inl (fun _ => 0)), .inl (0, 20, .inl (fun _ => 0)), .inl (0, 20, .inl (fun _ => 0)), .inl (2, 20, .inl (fun _ => 0)), .inl (4, 3, .inr (.inr (.inr (.inr (va_up (va_up (va_up (fun _ => none) 0 (some 25)) 1 (some 34)) 2 (some 43)))))), .inr (5, [.int 0, .int 0, .int 0, .int 0, .int 0, .int 0, .int 0, .ref 26, .ref 27, .ref 28, .ref 29, .ref 30, .ref 31, .ref 32, .ref 33]), .inl (0, 8, .inl (fun _ => 0)), .inl (0, 8, .inl (fun _ => 0)), .inl (0, 8, .inl (fun _ => 0)), .inl (0, 8, .inl (fun _ => 0)), .inl (0, 8, .inl (fun _ => 0)), .inl (0, 20, .inl (fun _ => 0)), .inl (0, 20, .inl (fun _ => 0)), .inl (2, 20, .inl (fun _ => 0)), .inr (5, [.int 0, .int 0, .int 0, .int 0, .int 0, .int 0, .int 0, .ref 35, .ref 36, .ref 37, .ref 38, .ref 39, .ref 40, .ref 41, .ref 42]), .inl (0, 8, .inl (fun _ => 0)), .inl (0, 8, .inl (fun _ => 0)), .inl (0, 8, .inl (fun _ => 0)), .inl (0, 8, .inl (fun _ => 0)), .inl (0, 8, .inl (fun _ => 0)), .inl (0, 20, .inl (fun _ => 0)), .inl (0, 20, .inl (fun _ => 0)), .inl (2, 20, .inl (fun _ => 0)), .inr (5, [.int 0, .int 0, .int 0, .int 0, .int 0, .int 0, .int 0, .ref 44, .ref 45, .ref 46, .ref 47, .ref 48, .ref 49, .ref 50, .ref 51]), .inl (0, 8, .inl (fun _ => 0)), .inl (0, 8, .inl (fun _ => 0)), .inl (0, 8, .inl (fun _ => 0)), .inl (0, 8, .inl (fun _ => 0)), .inl (0, 8, .inl (fun _ => 0)), .inl (0, 20, .inl (fun _ => 0)), .inl (0, 20, .inl (fun _ => 0)), .inl (2, 20, .inl (fun _ => 0)), .inl (2, 3, .inl (fun _ => 0)), .inl (5, 4, .inr (.inr (.inr (.inr (va_up (va_up (va_up (va_up (fun _ => none) 0 (some 54)) 1 (some 56)) 2 (some 58)) 3 (some 60)))))), .inr (4, [.ref 55, .int 0, .int 0, .int 0]), .inl (3, 60, .inr (.inl (fun _ => 0))), .inr (4, [.ref 57, .int 0, .int 0, .int 0]), .inl (3, 60, .inr (.inl (fun _ => 0))), .inr (4, [.ref 59, .int 0, .int 0, .int 0]), .inl (3, 60, .inr (.inl (fun _ => 0))), .inr (4, [.ref 61, .int 0, .int 0, .int 0]), .inl (3, 60, .inr (.inl (fun _ => 0))), .inr (1, [.ref 63, .int 0, .int 0, .int 0]), .inl (0, 8, .inl (fun _ => 0)), .inr (7, [.ref 65, .ref 66, .ref 67, .ref 68, .ref 69, .int 0, .int 0]), .inl (0, 9, .inl (fun _ => 0)), .inl (0, 9, .inl (fun _ => 0)), .inl (0, 9, .inl (fun _ => 0)), .inl (0, 9, .inl (fun _ => 0)), .inl (0, 9, .inl (fun _ => 0)), .inr (0, [.ref 71, .int 0]), .inl (0, 10, .inl (fun _ => 0)), .inr (3, [.ref 73, .ref 74]), .inl (0, 256, .inl (fun _ => 0)), .inl (0, 256, .inl (fun _ => 0)), .inl (0, 8, .inl (fun _ => 0)), .inl (0, 64, .inl (fun _ => 0)), .inr (9, [.int 0, .null, .null, .null, .null, .null, .int 0, .int 0, .int 0, .int 0, .int 0, .long 0, .int 0, .int 0, .int 0, .int 0, .null, .null, .null, .null, .null, .null, .int 0, .int 0, .null, .null, .null, .int 0, .null, .null, .null, .null, .null, .null, .null, .int 0, .int 0, .null, .null, .int 0, .null, .int 0, .int 0, .int 0, .null])] [.ref 77] [.inr (8, [.ref 1, .ref 3, .ref 15, .ref 24, .ref 52, .ref 53, .ref 62, .ref 64, .ref 70, .ref 72, .ref 75, .ref 76]), .inr (6, [.ref 2, .int 0]), .inl (1, 500, .inl (fun _ => 0)), .inr (2, [.ref 4, .int 0, .int (-1), .ref 1, .ref 13, .int 0, .int 0, .int 0, .int 0, .int 0]), .inr (5, [.int 0, .int 0, .int 0, .int 0, .int 0, .int 0, .int 0, .ref 5, .ref 6, .ref 7, .ref 8, .ref 9, .ref 10, .ref 11, .ref 12]), .inl (0, 8, .inl (fun _ => 0)), .inl (0, 8, .inl (fun _ => 0)), .inl (0, 8, .inl (fun _ => 0)), .inl (0, 8, .inl (fun _ => 0)), .inl (0, 8, .inl (fun _ => 0)), .inl (0, 20, .inl (fun _ => 0)), .inl (0, 20, .inl (fun _ => 0)), .inl (2, 20, .inl (fun _ => 0)), .inr (0, [.ref 14, .int 0]), .inl (0, 10, .inl (fun _ => 0)), .inr (5, [.int 0, .int 0, .int 0, .int 0, .int 0, .int 0, .int 0, .ref 16, .ref 17, .ref 18, .ref 19, .ref 20, .ref 21, .ref 22, .ref 23]), .inl (0, 8, .inl (fun _ => 0)), .inl (0, 8, .inl (fun _ => 0)), .inl (0, 8, .inl (fun _ => 0)), .inl (0, 8, .inl (fun _ => 0)), .inl (0, 8, .inl (fun _ => 0)), .inl (0, 20, .inl (fun _ => 0)), .inl (0, 20, .inl (fun _ => 0)), .inl (2, 20, .inl (fun _ => 0)), .inl (4, 3, .inr (.inr (.inr (.inr (va_up (va_up (va_up (fun _ => none) 0 (some 25)) 1 (some 34)) 2 (some 43)))))), .inr (5, [.int 0, .int 0, .int 0, .int 0, .int 0, .int 0, .int 0, .ref 26, .ref 27, .ref 28, .ref 29, .ref 30, .ref 31, .ref 32, .ref 33]), .inl (0, 8, .inl (fun _ => 0)), .inl (0, 8, .inl (fun _ => 0)), .inl (0, 8, .inl (fun _ => 0)), .inl (0, 8, .inl (fun _ => 0)), .inl (0, 8, .inl (fun _ => 0)), .inl (0, 20, .inl (fun _ => 0)), .inl (0, 20, .inl (fun _ => 0)), .inl (2, 20, .inl (fun _ => 0)), .inr (5, [.int 0, .int 0, .int 0, .int 0, .int 0, .int 0, .int 0, .ref 35, .ref 36, .ref 37, .ref 38, .ref 39, .ref 40, .ref 41, .ref 42]), .inl (0, 8, .inl (fun _ => 0)), .inl (0, 8, .inl (fun _ => 0)), .inl (0, 8, .inl (fun _ => 0)), .inl (0, 8, .inl (fun _ => 0)), .inl (0, 8, .inl (fun _ => 0)), .inl (0, 20, .inl (fun _ => 0)), .inl (0, 20, .inl (fun _ => 0)), .inl (2, 20, .inl (fun _ => 0)), .inr (5, [.int 0, .int 0, .int 0, .int 0, .int 0, .int 0, .int 0, .ref 44, .ref 45, .ref 46, .ref 47, .ref 48, .ref 49, .ref 50, .ref 51]), .inl (0, 8, .inl (fun _ => 0)), .inl (0, 8, .inl (fun _ => 0)), .inl (0, 8, .inl (fun _ => 0)), .inl (0, 8, .inl (fun _ => 0)), .inl (0, 8, .inl (fun _ => 0)), .inl (0, 20, .inl (fun _ => 0)), .inl (0, 20, .inl (fun _ => 0)), .inl (2, 20, .inl (fun _ => 0)), .inl (2, 3, .inl (fun _ => 0)), .inl (5, 4, .inr (.inr (.inr (.inr (va_up (va_up (va_up (va_up (fun _ => none) 0 (some 54)) 1 (some 56)) 2 (some 58)) 3 (some 60)))))), .inr (4, [.ref 55, .int 0, .int 0, .int 0]), .inl (3, 60, .inr (.inl (fun _ => 0))), .inr (4, [.ref 57, .int 0, .int 0, .int 0]), .inl (3, 60, .inr (.inl (fun _ => 0))), .inr (4, [.ref 59, .int 0, .int 0, .int 0]), .inl (3, 60, .inr (.inl (fun _ => 0))), .inr (4, [.ref 61, .int 0, .int 0, .int 0]), .inl (3, 60, .inr (.inl (fun _ => 0))), .inr (1, [.ref 63, .int 0, .int 0, .int 0]), .inl (0, 8, .inl (fun _ => 0)), .inr (7, [.ref 65, .ref 66, .ref 67, .ref 68, .ref 69, .int 0, .int 0]), .inl (0, 9, .inl (fun _ => 0)), .inl (0, 9, .inl (fun _ => 0)), .inl (0, 9, .inl (fun _ => 0)), .inl (0, 9, .inl (fun _ => 0)), .inl (0, 9, .inl (fun _ => 0)), .inr (0, [.ref 71, .int 0]), .inl (0, 10, .inl (fun _ => 0)), .inr (3, [.ref 73, .ref 74]), .inl (0, 256, .inl (fun _ => 0)), .inl (0, 256, .inl (fun _ => 0)), .inl (0, 8, .inl (fun _ => 0)), .inl (0, 64, .inl (fun _ => 0)), .inr (9, [.int 0, .ref 78, .ref 79, .ref 80, .ref 81, .ref 82, .int 0, .int 0, .int 0, .int 0, .int 0, .long 0, .int 0, .int 0, .int 0, .int (-1), .ref 83, .ref 84, .ref 85, .ref 86, .ref 87, .ref 88, .int 0, .int 0, .ref 89, .ref 90, .ref 91, .int 0, .ref 92, .ref 93, .ref 94, .ref 95, .ref 96, .ref 97, .ref 98, .int 0, .int 0, .ref 99, .ref 100, .int 0, .ref 101, .int 0, .int 0, .int 0, .ref 102]), .inl (0, 4, .inl (upd (upd (upd (upd (fun _ => 0) 0 (-1)) 1 (-1)) 2 (-1)) 3 (-1))), .inl (0, 4, .inl (fun _ => 0)), .inl (3, 240, .inr (.inl (fun _ => 0))), .inl (3, 60, .inr (.inl (fun _ => 0))), .inl (1, 500, .inl (fun _ => 0)), .inl (0, 5, .inl (fun _ => 0)), .inl (0, 30, .inl (fun _ => 0)), .inl (0, 80, .inl (fun _ => 0)), .inl (0, 80, .inl (fun _ => 0)), .inl (0, 300, .inl (fun _ => 0)), .inl (2, 3, .inl (fun _ => 0)), .inl (0, 8, .inl (fun _ => 0)), .inl (0, 10, .inl (fun _ => 0)), .inl (0, 8, .inl (fun _ => 0)), .inl (0, 9, .inl (fun _ => 0)), .inl (0, 9, .inl (fun _ => 0)), .inl (0, 9, .inl (fun _ => 0)), .inl (0, 8, .inl (fun _ => 0)), .inl (0, 18, .inl (fun _ => 0)), .inl (0, 8, .inl (fun _ => 0)), .inl (0, 9, .inl (fun _ => 0)), .inl (0, 5, .inl (fun _ => 0)), .inl (0, 6, .inl (fun _ => 0)), .inl (0, 10, .inl (fun _ => 0)), .inl (0, 72, .inl (fun _ => 0))] none := by
  refine Rt_of aiX9_init (by decide) ?_
  refine Go_st rfl rfl ?_
  refine Go_st rfl rfl ?_
  refine Go_st rfl rfl ?_
  refine Go_st rfl rfl ?_
  refine Go_st rfl rfl ?_
  refine Go_st rfl rfl ?_
  refine Go_st rfl rfl ?_
  refine Go_st rfl rfl ?_
  refine Go_st rfl rfl ?_
  refine Go_st rfl rfl ?_
  refine Go_st rfl rfl ?_
  refine Go_st rfl rfl ?_
  refine Go_st rfl rfl ?_
  refine Go_st rfl rfl ?_
  refine Go_st rfl rfl ?_
  refine Go_st rfl rfl ?_
  refine Go_st rfl rfl ?_
  refine Go_st rfl rfl ?_
  refine Go_st rfl rfl ?_
  refine Go_st rfl rfl ?_
  refine Go_st rfl rfl ?_
  refine Go_st rfl rfl ?_
  refine Go_st rfl rfl ?_
  refine Go_st rfl rfl ?_
  refine Go_st rfl rfl ?_
  refine Go_st rfl rfl ?_
  refine Go_st rfl rfl ?_
  refine Go_st rfl rfl ?_
  refine Go_st rfl rfl ?_
  refine Go_st rfl rfl ?_
  refine Go_st rfl rfl ?_
  refine Go_st rfl rfl ?_
  refine Go_st rfl rfl ?_
  refine Go_st rfl rfl ?_
  refine Go_st rfl rfl ?_
  refine Go_st rfl rfl ?_
  refine Go_st rfl rfl ?_
  refine Go_st rfl rfl ?_
  refine Go_st rfl rfl ?_
  refine Go_st rfl rfl ?_
  refine Go_st rfl rfl ?_
  refine Go_st rfl rfl ?_
  refine Go_st rfl rfl ?_
  refine Go_st rfl rfl ?_
  refine Go_st rfl rfl ?_
  refine Go_st rfl rfl ?_
  refine Go_st rfl rfl ?_
  refine Go_st rfl rfl ?_
  refine Go_st rfl rfl ?_
  refine Go_st rfl rfl ?_
  refine Go_st rfl rfl ?_
  refine Go_st rfl rfl ?_
  refine Go_st rfl rfl ?_
  refine Go_st rfl rfl ?_
  refine Go_st rfl rfl ?_
  refine Go_st rfl rfl ?_
  refine Go_st rfl rfl ?_
  refine Go_st rfl rfl ?_
  refine Go_st rfl rfl ?_
  refine Go_st rfl rfl ?_
  refine Go_st rfl rfl ?_
  refine Go_st rfl rfl ?_
  refine Go_st rfl rfl ?_
  refine Go_st rfl rfl ?_
  refine Go_st rfl rfl ?_
  refine Go_st rfl rfl ?_
  refine Go_st rfl rfl ?_
  refine Go_st rfl rfl ?_
  refine Go_st rfl rfl ?_
  refine Go_st rfl rfl ?_
  refine Go_st rfl rfl ?_
  refine Go_st rfl rfl ?_
  refine Go_st rfl rfl ?_
  refine Go_st rfl rfl ?_
  refine Go_st rfl rfl ?_
  refine Go_st rfl rfl ?_
  refine Go_st rfl rfl ?_
  refine Go_st rfl rfl ?_
  refine Go_st rfl rfl ?_
  refine Go_st rfl rfl ?_
  refine Go_st rfl rfl ?_
  refine Go_st rfl rfl ?_
  refine Go_st rfl rfl ?_
  refine Go_st rfl rfl ?_
  refine Go_st rfl rfl ?_
  refine Go_st rfl rfl ?_
  refine Go_st rfl rfl ?_
  refine Go_st rfl rfl ?_
  refine Go_st rfl rfl ?_
  refine Go_st rfl rfl ?_
  refine Go_st rfl rfl ?_
  refine Go_st rfl rfl ?_
  refine Go_st rfl rfl ?_
  refine Go_st rfl rfl ?_
  refine Go_st rfl rfl ?_
  refine Go_st rfl rfl ?_
  refine Go_st rfl rfl ?_
  refine Go_st rfl rfl ?_
  refine Go_st rfl rfl ?_
  refine Go_st rfl rfl ?_
  refine Go_st rfl rfl ?_
  refine Go_st rfl rfl ?_
  refine Go_st rfl rfl ?_
  refine Go_st rfl rfl ?_
  refine Go_st rfl rfl ?_
  refine Go_st rfl rfl ?_
  refine Go_st rfl rfl ?_
  refine Go_st rfl rfl ?_
  refine Go_st rfl rfl ?_
  refine Go_st rfl rfl ?_
  refine Go_ifF (by decide +kernel) ?_
  refine Go_st rfl rfl ?_
  refine Go_st rfl rfl ?_
  refine Go_st rfl rfl ?_
  refine Go_st rfl rfl ?_
  refine Go_st rfl rfl ?_
  refine Go_st rfl rfl ?_
  refine Go_st rfl rfl ?_
  refine Go_st rfl rfl ?_
  refine Go_st rfl rfl ?_
  refine Go_st rfl rfl ?_
  refine Go_ifF (by decide +kernel) ?_
  refine Go_st rfl rfl ?_
  refine Go_st rfl rfl ?_
  refine Go_st rfl rfl ?_
  refine Go_st rfl rfl ?_
  refine Go_st rfl rfl ?_
  refine Go_st rfl rfl ?_
  refine Go_st rfl rfl ?_
  refine Go_st rfl rfl ?_
  refine Go_st rfl rfl ?_
  refine Go_st rfl rfl ?_
  refine Go_ifF (by decide +kernel) ?_
  refine Go_st rfl rfl ?_
  refine Go_st rfl rfl ?_
  refine Go_st rfl rfl ?_
  refine Go_st rfl rfl ?_
  refine Go_st rfl rfl ?_
  refine Go_st rfl rfl ?_
  refine Go_st rfl rfl ?_
  refine Go_st rfl rfl ?_
  refine Go_st rfl rfl ?_
  refine Go_st rfl rfl ?_
  refine Go_ifF (by decide +kernel) ?_
  refine Go_st rfl rfl ?_
  refine Go_st rfl rfl ?_
  refine Go_st rfl rfl ?_
  refine Go_st rfl rfl ?_
  refine Go_st rfl rfl ?_
  refine Go_st rfl rfl ?_
  refine Go_st rfl rfl ?_
  refine Go_st rfl rfl ?_
  refine Go_st rfl rfl ?_
  refine Go_st rfl rfl ?_
  refine Go_ifT (by decide +kernel) ?_
  exact Go_ret rfl ⟨rfl, rfl⟩
noncomputable def hp0 : pm_H := [.inr (8, [.ref 1, .ref 3, .ref 15, .ref 24, .ref 52, .ref 53, .ref 62, .ref 64, .ref 70, .ref 72, .ref 75, .ref 76]), .inr (6, [.ref 2, .int 0]), .inl (1, 500, .inl (fun _ => 0)), .inr (2, [.ref 4, .int 0, .int (-1), .ref 1, .ref 13, .int 0, .int 0, .int 0, .int 0, .int 0]), .inr (5, [.int 0, .int 0, .int 0, .int 0, .int 0, .int 0, .int 0, .ref 5, .ref 6, .ref 7, .ref 8, .ref 9, .ref 10, .ref 11, .ref 12]), .inl (0, 8, .inl (fun _ => 0)), .inl (0, 8, .inl (fun _ => 0)), .inl (0, 8, .inl (fun _ => 0)), .inl (0, 8, .inl (fun _ => 0)), .inl (0, 8, .inl (fun _ => 0)), .inl (0, 20, .inl (fun _ => 0)), .inl (0, 20, .inl (fun _ => 0)), .inl (2, 20, .inl (fun _ => 0)), .inr (0, [.ref 14, .int 0]), .inl (0, 10, .inl (fun _ => 0)), .inr (5, [.int 0, .int 0, .int 0, .int 0, .int 0, .int 0, .int 0, .ref 16, .ref 17, .ref 18, .ref 19, .ref 20, .ref 21, .ref 22, .ref 23]), .inl (0, 8, .inl (fun _ => 0)), .inl (0, 8, .inl (fun _ => 0)), .inl (0, 8, .inl (fun _ => 0)), .inl (0, 8, .inl (fun _ => 0)), .inl (0, 8, .inl (fun _ => 0)), .inl (0, 20, .inl (fun _ => 0)), .inl (0, 20, .inl (fun _ => 0)), .inl (2, 20, .inl (fun _ => 0)), .inl (4, 3, .inr (.inr (.inr (.inr (va_up (va_up (va_up (fun _ => none) 0 (some 25)) 1 (some 34)) 2 (some 43)))))), .inr (5, [.int 0, .int 0, .int 0, .int 0, .int 0, .int 0, .int 0, .ref 26, .ref 27, .ref 28, .ref 29, .ref 30, .ref 31, .ref 32, .ref 33]), .inl (0, 8, .inl (fun _ => 0)), .inl (0, 8, .inl (fun _ => 0)), .inl (0, 8, .inl (fun _ => 0)), .inl (0, 8, .inl (fun _ => 0)), .inl (0, 8, .inl (fun _ => 0)), .inl (0, 20, .inl (fun _ => 0)), .inl (0, 20, .inl (fun _ => 0)), .inl (2, 20, .inl (fun _ => 0)), .inr (5, [.int 0, .int 0, .int 0, .int 0, .int 0, .int 0, .int 0, .ref 35, .ref 36, .ref 37, .ref 38, .ref 39, .ref 40, .ref 41, .ref 42]), .inl (0, 8, .inl (fun _ => 0)), .inl (0, 8, .inl (fun _ => 0)), .inl (0, 8, .inl (fun _ => 0)), .inl (0, 8, .inl (fun _ => 0)), .inl (0, 8, .inl (fun _ => 0)), .inl (0, 20, .inl (fun _ => 0)), .inl (0, 20, .inl (fun _ => 0)), .inl (2, 20, .inl (fun _ => 0)), .inr (5, [.int 0, .int 0, .int 0, .int 0, .int 0, .int 0, .int 0, .ref 44, .ref 45, .ref 46, .ref 47, .ref 48, .ref 49, .ref 50, .ref 51]), .inl (0, 8, .inl (fun _ => 0)), .inl (0, 8, .inl (fun _ => 0)), .inl (0, 8, .inl (fun _ => 0)), .inl (0, 8, .inl (fun _ => 0)), .inl (0, 8, .inl (fun _ => 0)), .inl (0, 20, .inl (fun _ => 0)), .inl (0, 20, .inl (fun _ => 0)), .inl (2, 20, .inl (fun _ => 0)), .inl (2, 3, .inl (fun _ => 0)), .inl (5, 4, .inr (.inr (.inr (.inr (va_up (va_up (va_up (va_up (fun _ => none) 0 (some 54)) 1 (some 56)) 2 (some 58)) 3 (some 60)))))), .inr (4, [.ref 55, .int 0, .int 0, .int 0]), .inl (3, 60, .inr (.inl (fun _ => 0))), .inr (4, [.ref 57, .int 0, .int 0, .int 0]), .inl (3, 60, .inr (.inl (fun _ => 0))), .inr (4, [.ref 59, .int 0, .int 0, .int 0]), .inl (3, 60, .inr (.inl (fun _ => 0))), .inr (4, [.ref 61, .int 0, .int 0, .int 0]), .inl (3, 60, .inr (.inl (fun _ => 0))), .inr (1, [.ref 63, .int 0, .int 0, .int 0]), .inl (0, 8, .inl (fun _ => 0)), .inr (7, [.ref 65, .ref 66, .ref 67, .ref 68, .ref 69, .int 0, .int 0]), .inl (0, 9, .inl (fun _ => 0)), .inl (0, 9, .inl (fun _ => 0)), .inl (0, 9, .inl (fun _ => 0)), .inl (0, 9, .inl (fun _ => 0)), .inl (0, 9, .inl (fun _ => 0)), .inr (0, [.ref 71, .int 0]), .inl (0, 10, .inl (fun _ => 0)), .inr (3, [.ref 73, .ref 74]), .inl (0, 256, .inl (fun _ => 0)), .inl (0, 256, .inl (fun _ => 0)), .inl (0, 8, .inl (fun _ => 0)), .inl (0, 64, .inl (fun _ => 0)), .inr (9, [.int 0, .ref 78, .ref 79, .ref 80, .ref 81, .ref 82, .int 0, .int 0, .int 0, .int 0, .int 0, .long 0, .int 0, .int 0, .int 0, .int (-1), .ref 83, .ref 84, .ref 85, .ref 86, .ref 87, .ref 88, .int 0, .int 0, .ref 89, .ref 90, .ref 91, .int 0, .ref 92, .ref 93, .ref 94, .ref 95, .ref 96, .ref 97, .ref 98, .int 0, .int 0, .ref 99, .ref 100, .int 0, .ref 101, .int 0, .int 0, .int 0, .ref 102]), .inl (0, 4, .inl (upd (upd (upd (upd (fun _ => 0) 0 (-1)) 1 (-1)) 2 (-1)) 3 (-1))), .inl (0, 4, .inl (fun _ => 0)), .inl (3, 240, .inr (.inl (fun _ => 0))), .inl (3, 60, .inr (.inl (fun _ => 0))), .inl (1, 500, .inl (fun _ => 0)), .inl (0, 5, .inl (fun _ => 0)), .inl (0, 30, .inl (fun _ => 0)), .inl (0, 80, .inl (fun _ => 0)), .inl (0, 80, .inl (fun _ => 0)), .inl (0, 300, .inl (fun _ => 0)), .inl (2, 3, .inl (fun _ => 0)), .inl (0, 8, .inl (fun _ => 0)), .inl (0, 10, .inl (fun _ => 0)), .inl (0, 8, .inl (fun _ => 0)), .inl (0, 9, .inl (fun _ => 0)), .inl (0, 9, .inl (fun _ => 0)), .inl (0, 9, .inl (fun _ => 0)), .inl (0, 8, .inl (fun _ => 0)), .inl (0, 18, .inl (fun _ => 0)), .inl (0, 8, .inl (fun _ => 0)), .inl (0, 9, .inl (fun _ => 0)), .inl (0, 5, .inl (fun _ => 0)), .inl (0, 6, .inl (fun _ => 0)), .inl (0, 10, .inl (fun _ => 0)), .inl (0, 72, .inl (fun _ => 0))]
end
