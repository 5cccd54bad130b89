section
theorem sp_copyRow87 {h0 : pm_H} {d a b : Nat} (hh : HH h0) (ha : a ≤ 4) (hb : b ≤ 4) (hab : a ≠ b) : Sp (d + 1) 231 h0 [.ref 87, .int (nJ 60), .int (nJ a), .int (nJ b)] (fun h' r => r = none ∧ HH h' ∧ fr_g [(87, 0, 299)] h0 h' ∧ (∀ k, k < 60 → gi h' 87 (60 * b + k) = gi h0 87 (60 * a + k)) ∧ ∀ j, (j < 60 * b ∨ 60 * b + 60 ≤ j) → gi h' 87 j = gi h0 87 j) := by
  refine Sp_of aiX9_copyRow rfl rfl rfl ?_
  refine E_ci 0 rfl (by decide) ?_
  refine E_is rfl (fun lv1 L1_4 kp1 => ?_)
  have L1_0 := kp1 0 _ (by decide) rfl (show pm_get (lv_args 0 [.ref 87, .int (nJ 60), .int (nJ a), .int (nJ b)]) 0 = _ from rfl)
  have L1_1 := kp1 1 _ (by decide) rfl (show pm_get (lv_args 0 [.ref 87, .int (nJ 60), .int (nJ a), .int (nJ b)]) 1 = _ from rfl)
  have L1_2 := kp1 2 _ (by decide) rfl (show pm_get (lv_args 0 [.ref 87, .int (nJ 60), .int (nJ a), .int (nJ b)]) 2 = _ from rfl)
  have L1_3 := kp1 3 _ (by decide) rfl (show pm_get (lv_args 0 [.ref 87, .int (nJ 60), .int (nJ a), .int (nJ b)]) 3 = _ from rfl)
  exact cr_loop87 hh ha hb hab 60 (k := 0) lv1 (by omega) hh (fr_rf _ _) (fun k1 h1 => absurd h1 (Nat.not_lt_zero _)) (fun _ _ => rfl) L1_0 L1_1 L1_2 L1_3 L1_4
noncomputable def VC : List Rng := [(83, 0, 4), (84, 0, 29), (85, 0, 79), (86, 0, 79), (87, 0, 299)]
theorem gn_gi {h h' : pm_H} {a k j : Nat} (e : gi h' a k = gi h a j) : gn h' a k = gn h a j := by unfold gn; rw [e]
noncomputable def KQ (a b : Nat) (h0 h' : pm_H) (r : Option Value) : Prop := r = none ∧ HH h' ∧ fr_g VC h0 h' ∧ (RI a h0 → RI b h') ∧ (FAg a h0 → FAg b h') ∧ (∀ r, r ≤ 4 → r ≠ b → RI r h0 → RI r h') ∧ ∀ r, r ≤ 4 → r ≠ b → FAg r h0 → FAg r h'
theorem sp_copyStreet {h0 : pm_H} {d a b : Nat} (hh0 : HH h0) (ha : a ≤ 4) (hb : b ≤ 4) (hab : a ≠ b) : Sp (d + 2) 232 h0 [.ref 77, .int (nJ a), .int (nJ b)] (KQ a b h0) := by
  refine Sp_of aiX9_copyStreet rfl rfl rfl ?_
  refine E_al rfl (show pm_get (lv_args 0 [.ref 77, .int (nJ a), .int (nJ b)]) 0 = _ from rfl) ?_
  refine E_gr rfl hh0 (q := 83) rfl ?_
  refine E_ci 1 rfl (by decide) ?_
  refine E_il rfl (show pm_get (lv_args 0 [.ref 77, .int (nJ a), .int (nJ b)]) 1 = _ from rfl) ?_
  refine E_il rfl (show pm_get (lv_args 0 [.ref 77, .int (nJ a), .int (nJ b)]) 2 = _ from rfl) ?_
  refine E_call rfl (Sp_le (by omega) (sp_copyRow83 (d := 0) hh0 ha hb hab)) (chkS rfl (by show 0 ≤ 8; decide)) (fun h1 r1 => ?_)
  rintro ⟨e1, hh1, fq1, cq1, oq1⟩
  rw [e1]
  have fr1 : fr_g VC h0 h1 := fr_trans (fr_rf VC h0) (fr_wk rfl fq1)
  show Ends _ _ (10, (lv_args 0 [.ref 77, .int (nJ a), .int (nJ b)]), [], h1, 0, 0) _
  refine E_al rfl (show pm_get (lv_args 0 [.ref 77, .int (nJ a), .int (nJ b)]) 0 = _ from rfl) ?_
  refine E_gr rfl hh1 (q := 84) rfl ?_
  refine E_ci 6 rfl (by decide) ?_
  refine E_il rfl (show pm_get (lv_args 0 [.ref 77, .int (nJ a), .int (nJ b)]) 1 = _ from rfl) ?_
  refine E_il rfl (show pm_get (lv_args 0 [.ref 77, .int (nJ a), .int (nJ b)]) 2 = _ from rfl) ?_
  refine E_call rfl (Sp_le (by omega) (sp_copyRow84 (d := 0) hh1 ha hb hab)) (chkS rfl (by show 0 ≤ 8; decide)) (fun h2 r2 => ?_)
  rintro ⟨e2, hh2, fq2, cq2, oq2⟩
  rw [e2]
  have fr2 : fr_g VC h0 h2 := fr_trans fr1 (fr_wk rfl fq2)
  show Ends _ _ (21, (lv_args 0 [.ref 77, .int (nJ a), .int (nJ b)]), [], h2, 0, 0) _
  refine E_al rfl (show pm_get (lv_args 0 [.ref 77, .int (nJ a), .int (nJ b)]) 0 = _ from rfl) ?_
  refine E_gr rfl hh2 (q := 85) rfl ?_
  refine E_ci 16 rfl (by decide) ?_
  refine E_il rfl (show pm_get (lv_args 0 [.ref 77, .int (nJ a), .int (nJ b)]) 1 = _ from rfl) ?_
  refine E_il rfl (show pm_get (lv_args 0 [.ref 77, .int (nJ a), .int (nJ b)]) 2 = _ from rfl) ?_
  refine E_call rfl (Sp_le (by omega) (sp_copyRow85 (d := 0) hh2 ha hb hab)) (chkS rfl (by show 0 ≤ 8; decide)) (fun h3 r3 => ?_)
  rintro ⟨e3, hh3, fq3, cq3, oq3⟩
  rw [e3]
  have fr3 : fr_g VC h0 h3 := fr_trans fr2 (fr_wk rfl fq3)
  show Ends _ _ (32, (lv_args 0 [.ref 77, .int (nJ a), .int (nJ b)]), [], h3, 0, 0) _
  refine E_al rfl (show pm_get (lv_args 0 [.ref 77, .int (nJ a), .int (nJ b)]) 0 = _ from rfl) ?_
  refine E_gr rfl hh3 (q := 86) rfl ?_
  refine E_ci 16 rfl (by decide) ?_
  refine E_il rfl (show pm_get (lv_args 0 [.ref 77, .int (nJ a), .int (nJ b)]) 1 = _ from rfl) ?_
  refine E_il rfl (show pm_get (lv_args 0 [.ref 77, .int (nJ a), .int (nJ b)]) 2 = _ from rfl) ?_
  refine E_call rfl (Sp_le (by omega) (sp_copyRow86 (d := 0) hh3 ha hb hab)) (chkS rfl (by show 0 ≤ 8; decide)) (fun h4 r4 => ?_)
  rintro ⟨e4, hh4, fq4, cq4, oq4⟩
  rw [e4]
  have fr4 : fr_g VC h0 h4 := fr_trans fr3 (fr_wk rfl fq4)
  show Ends _ _ (43, (lv_args 0 [.ref 77, .int (nJ a), .int (nJ b)]), [], h4, 0, 0) _
  refine E_al rfl (show pm_get (lv_args 0 [.ref 77, .int (nJ a), .int (nJ b)]) 0 = _ from rfl) ?_
  refine E_gr rfl hh4 (q := 87) rfl ?_
  refine E_ci 60 rfl (by decide) ?_
  refine E_il rfl (show pm_get (lv_args 0 [.ref 77, .int (nJ a), .int (nJ b)]) 1 = _ from rfl) ?_
  refine E_il rfl (show pm_get (lv_args 0 [.ref 77, .int (nJ a), .int (nJ b)]) 2 = _ from rfl) ?_
  refine E_call rfl (Sp_le (by omega) (sp_copyRow87 (d := 0) hh4 ha hb hab)) (chkS rfl (by show 0 ≤ 8; decide)) (fun h5 r5 => ?_)
  rintro ⟨e5, hh5, fq5, cq5, oq5⟩
  rw [e5]
  have fr5 : fr_g VC h0 h5 := fr_trans fr4 (fr_wk rfl fq5)
  show Ends _ _ (54, (lv_args 0 [.ref 77, .int (nJ a), .int (nJ b)]), [], h5, 0, 0) _
  have c84 : ∀ k, k < 6 → gn h5 84 (6 * b + k) = gn h0 84 (6 * a + k) := fun k hk => gn_gi (by rw [fr_gi fq5 (rg_no rfl _), fr_gi fq4 (rg_no rfl _), fr_gi fq3 (rg_no rfl _)]; rw [cq2 k hk]; rw [fr_gi fq1 (rg_no rfl _)])
  have o84 : ∀ j, (j < 6 * b ∨ 6 * b + 6 ≤ j) → gn h5 84 j = gn h0 84 j := fun j hj => gn_gi (by rw [fr_gi fq5 (rg_no rfl _), fr_gi fq4 (rg_no rfl _), fr_gi fq3 (rg_no rfl _)]; rw [oq2 j hj]; rw [fr_gi fq1 (rg_no rfl _)])
  have c85 : ∀ k, k < 16 → gn h5 85 (16 * b + k) = gn h0 85 (16 * a + k) := fun k hk => gn_gi (by rw [fr_gi fq5 (rg_no rfl _), fr_gi fq4 (rg_no rfl _)]; rw [cq3 k hk]; rw [fr_gi fq2 (rg_no rfl _), fr_gi fq1 (rg_no rfl _)])
  have o85 : ∀ j, (j < 16 * b ∨ 16 * b + 16 ≤ j) → gn h5 85 j = gn h0 85 j := fun j hj => gn_gi (by rw [fr_gi fq5 (rg_no rfl _), fr_gi fq4 (rg_no rfl _)]; rw [oq3 j hj]; rw [fr_gi fq2 (rg_no rfl _), fr_gi fq1 (rg_no rfl _)])
  have c87 : ∀ k, k < 60 → gn h5 87 (60 * b + k) = gn h0 87 (60 * a + k) := fun k hk => gn_gi (by rw [cq5 k hk]; rw [fr_gi fq4 (rg_no rfl _), fr_gi fq3 (rg_no rfl _), fr_gi fq2 (rg_no rfl _), fr_gi fq1 (rg_no rfl _)])
  have o87 : ∀ j, (j < 60 * b ∨ 60 * b + 60 ≤ j) → gn h5 87 j = gn h0 87 j := fun j hj => gn_gi (by rw [oq5 j hj]; rw [fr_gi fq4 (rg_no rfl _), fr_gi fq3 (rg_no rfl _), fr_gi fq2 (rg_no rfl _), fr_gi fq1 (rg_no rfl _)])
  exact E_ret rfl ⟨rfl, hh5, fr5, RI_copy (row_b hh0 ha).1 (row_b hh0 ha).2 c84 c85 c87, FAg_copy c87, fun r hr hrb => RI_copy (row_b hh0 hr).1 (row_b hh0 hr).2 (fun k hk => o84 _ (by omega)) (fun k hk => o85 _ (by omega)) (fun k hk => o87 _ (by omega)), fun r hr hrb => FAg_copy (fun k hk => o87 _ (by omega))⟩
end
section
/-! by hand: blocks, the line of a car (written by gen_t16.py) -/
/-- blocks joined -/
noncomputable def mg (b : Nat → Nat) (x y : Nat) : Nat → Nat := fun k => if 1 ≤ k ∧ b k = max (b x) (b y) then min (b x) (b y) else b k
noncomputable def bk (e : Nat → Nat) : Nat → Nat → Nat
  | 0 => fun k => k
  | j + 1 => mg (bk e j) (e (64 + 2 * j)) (e (64 + 2 * j + 1))
noncomputable def WFb (b : Nat → Nat) : Prop := ∀ k, 1 ≤ k → k ≤ 9 → 1 ≤ b k ∧ b k ≤ k ∧ b (b k) = b k
noncomputable def Rt (b : Nat → Nat) (k : Nat) : Nat := if 1 ≤ k ∧ b k = k then 1 else 0
noncomputable def rc (b : Nat → Nat) : Nat := lc (Rt b) 10
theorem bk_eq {e e' : Nat → Nat} : ∀ {j : Nat}, (∀ i, i < 64 + 2 * j → e' i = e i) → bk e' j = bk e j
  | 0, _ => rfl
  | j + 1, h => by
    unfold bk
    rw [bk_eq (j := j) (fun i hi => h i (by omega)), h _ (by omega), h _ (by omega)]
theorem WFb_mg {b : Nat → Nat} {x y : Nat} (W : WFb b) (x1 : 1 ≤ x) (x9 : x ≤ 9) (y1 : 1 ≤ y) (y9 : y ≤ 9) : WFb (mg b x y) := by
  intro k k1 k9
  have wk := W k k1 k9
  have wx := W x x1 x9
  have wy := W y y1 y9
  have wbk := W (b k) wk.1 (by omega)
  by_cases hk : b k = max (b x) (b y)
  · have e1 : mg b x y k = min (b x) (b y) := if_pos ⟨k1, hk⟩
    rw [e1]
    refine ⟨by omega, by omega, ?_⟩
    by_cases hxy : b x = b y
    · have : min (b x) (b y) = b x := by omega
      rw [this]
      show (if 1 ≤ b x ∧ b (b x) = max (b x) (b y) then min (b x) (b y) else b (b x)) = b x
      rw [if_pos ⟨wx.1, by omega⟩]; omega
    · by_cases hle : b x ≤ b y
      · have : min (b x) (b y) = b x := by omega
        rw [this]
        show (if 1 ≤ b x ∧ b (b x) = max (b x) (b y) then min (b x) (b y) else b (b x)) = b x
        rw [if_neg (by omega)]; exact wx.2.2
      · have : min (b x) (b y) = b y := by omega
        rw [this]
        show (if 1 ≤ b y ∧ b (b y) = max (b x) (b y) then min (b x) (b y) else b (b y)) = b y
        rw [if_neg (by omega)]; exact wy.2.2
  · have e1 : mg b x y k = b k := if_neg (fun q => hk q.2)
    rw [e1]
    refine ⟨wk.1, wk.2.1, ?_⟩
    show (if 1 ≤ b k ∧ b (b k) = max (b x) (b y) then min (b x) (b y) else b (b k)) = b k
    rw [if_neg (by omega)]; exact wk.2.2
theorem rc_mg {b : Nat → Nat} {x y : Nat} (W : WFb b) (x1 : 1 ≤ x) (x9 : x ≤ 9) (y1 : 1 ≤ y) (y9 : y ≤ 9) (hne : b x ≠ b y) : rc (mg b x y) + 1 = rc b := by
  have wx := W x x1 x9
  have wy := W y y1 y9
  obtain ⟨M, hM⟩ : ∃ M, M = max (b x) (b y) := ⟨_, rfl⟩
  obtain ⟨m, hm⟩ : ∃ m, m = min (b x) (b y) := ⟨_, rfl⟩
  have hMM : b M = M := by
    by_cases hle : b x ≤ b y
    · have : M = b y := by omega
      rw [this]; exact wy.2.2
    · have : M = b x := by omega
      rw [this]; exact wx.2.2
  have hmm : b m = m := by
    by_cases hle : b x ≤ b y
    · have : m = b x := by omega
      rw [this]; exact wx.2.2
    · have : m = b y := by omega
      rw [this]; exact wy.2.2
  have hR : Rt b M ≠ 0 := by unfold Rt; rw [if_pos ⟨by omega, hMM⟩]; decide
  unfold rc
  rw [← lc_fu0 hR (n := 10) (by omega)]
  congr 1
  refine lc_eq (fun k hk => ?_)
  by_cases e : k = M
  · rw [e, fu_same]
    unfold Rt
    rw [if_neg]
    · intro q
      have : mg b x y M = m := by rw [hm]; exact if_pos ⟨q.1, by omega⟩
      omega
  · rw [fu_ne e]
    unfold Rt
    by_cases k1 : 1 ≤ k
    · by_cases hk2 : b k = M
      · have e2 : mg b x y k = m := by rw [hm]; exact if_pos ⟨k1, by omega⟩
        rw [if_neg (show ¬ (1 ≤ k ∧ b k = k) from fun q => e (by omega)), if_neg]
        intro q
        have h9 := q.2
        rw [e2] at h9
        rw [← h9, hmm] at hk2
        omega
      · have e2 : mg b x y k = b k := if_neg (fun q => hk2 (by omega))
        rw [e2]
    · rw [if_neg (fun q => k1 q.1), if_neg (fun q => k1 q.1)]
end
