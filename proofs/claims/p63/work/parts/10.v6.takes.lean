section
/-! the class takes a street over, exactly (written by gen_t52.py) -/
theorem tk1_15_4 {h0 : pm_H} {d : Nat} {Q : pm_H → Option Value → Prop} (hh0 : HH h0) (K : ∀ (h : pm_H) (lv : List (Nat × Value)), HH h → fr_g [(16, 0, 7), (17, 0, 7), (18, 0, 7), (19, 0, 7), (20, 0, 7)] h0 h → (∀ k, k < 8 → gi h 16 k = gi h0 5 k ∧ gi h 17 k = gi h0 6 k ∧ gi h 18 k = gi h0 7 k ∧ gi h 19 k = gi h0 8 k ∧ gi h 20 k = gi h0 9 k) → pm_get lv 0 = some (.ref 15) → pm_get lv 1 = some (.ref 4) → Ends (pm_at tX5_take) (pm_Rt pm_P d) (130, lv, [], h, 0, 0) Q) (j : Nat) : ∀ {h : pm_H} {i : Nat} (lv : List (Nat × Value)), i + j = 8 → HH h → fr_g [(16, 0, 7), (17, 0, 7), (18, 0, 7), (19, 0, 7), (20, 0, 7)] h0 h → (∀ k, k < i → gi h 16 k = gi h0 5 k ∧ gi h 17 k = gi h0 6 k ∧ gi h 18 k = gi h0 7 k ∧ gi h 19 k = gi h0 8 k ∧ gi h 20 k = gi h0 9 k) → pm_get lv 0 = some (.ref 15) → pm_get lv 1 = some (.ref 4) → pm_get lv 2 = some (.int (nJ i)) → Ends (pm_at tX5_take) (pm_Rt pm_P d) (58, lv, [], h, 0, 0) Q := by
  induction j with
  | zero =>
    intro h i lv hj hh hf hc L0 L1 L2
    refine E_il rfl L2 ?_
    refine E_ci 8 rfl ci8 ?_
    refine E_icT rfl (decide_eq_true ((nJ_le (by omega) (by omega)).mpr (by omega))) ?_
    exact K h lv hh hf (fun k hk => hc k (by omega)) L0 L1
  | succ j ih =>
    intro h i lv hj hh hf hc L0 L1 L2
    refine E_il rfl L2 ?_
    refine E_ci 8 rfl ci8 ?_
    refine E_icF rfl (decide_eq_false (fun q => absurd ((nJ_le (by omega) (by omega)).mp q) (by omega))) ?_
    refine E_al rfl L0 ?_
    refine E_ogr (q := 16) rfl hh rfl rfl ?_
    refine E_il rfl L2 ?_
    refine E_al rfl L1 ?_
    refine E_ogr (q := 5) rfl hh rfl rfl ?_
    refine E_il rfl L2 ?_
    refine E_ial (v := gi h0 5 i) rfl hh rfl (by omega) (by decide) (by rw [fr_gi hf (rg_no rfl _)]) ?_
    have b1 := (ld_gi hh0 (a := 5) (k := i) (q := (0, 8)) (bd_u rfl (by omega))).2
    refine E_ias rfl hh rfl (by omega) (by decide) ?_
    have k1 : HH (pt h 16 i (gi h0 5 i)) := HH_pt (q := (0, 8)) hh (bd_u rfl (by omega)) b1.1 b1.2
    refine E_al rfl L0 ?_
    refine E_ogr (q := 17) rfl k1 rfl rfl ?_
    refine E_il rfl L2 ?_
    refine E_al rfl L1 ?_
    refine E_ogr (q := 6) rfl k1 rfl rfl ?_
    refine E_il rfl L2 ?_
    refine E_ial (v := gi h0 6 i) rfl k1 rfl (by omega) (by decide) (by rw [gi_ne (by first | exact gxx rfl | omega), fr_gi hf (rg_no rfl _)]) ?_
    have b2 := (ld_gi hh0 (a := 6) (k := i) (q := (0, 8)) (bd_u rfl (by omega))).2
    refine E_ias rfl k1 rfl (by omega) (by decide) ?_
    have k2 : HH (pt (pt h 16 i (gi h0 5 i)) 17 i (gi h0 6 i)) := HH_pt (q := (0, 8)) k1 (bd_u rfl (by omega)) b2.1 b2.2
    refine E_al rfl L0 ?_
    refine E_ogr (q := 18) rfl k2 rfl rfl ?_
    refine E_il rfl L2 ?_
    refine E_al rfl L1 ?_
    refine E_ogr (q := 7) rfl k2 rfl rfl ?_
    refine E_il rfl L2 ?_
    refine E_ial (v := gi h0 7 i) rfl k2 rfl (by omega) (by decide) (by rw [gi_ne (by first | exact gxx rfl | omega), gi_ne (by first | exact gxx rfl | omega), fr_gi hf (rg_no rfl _)]) ?_
    have b3 := (ld_gi hh0 (a := 7) (k := i) (q := (0, 99)) (bd_u rfl (by omega))).2
    refine E_ias rfl k2 rfl (by omega) (by decide) ?_
    have k3 : HH (pt (pt (pt h 16 i (gi h0 5 i)) 17 i (gi h0 6 i)) 18 i (gi h0 7 i)) := HH_pt (q := (0, 99)) k2 (bd_u rfl (by omega)) b3.1 b3.2
    refine E_al rfl L0 ?_
    refine E_ogr (q := 19) rfl k3 rfl rfl ?_
    refine E_il rfl L2 ?_
    refine E_al rfl L1 ?_
    refine E_ogr (q := 8) rfl k3 rfl rfl ?_
    refine E_il rfl L2 ?_
    refine E_ial (v := gi h0 8 i) rfl k3 rfl (by omega) (by decide) (by rw [gi_ne (by first | exact gxx rfl | omega), gi_ne (by first | exact gxx rfl | omega), gi_ne (by first | exact gxx rfl | omega), fr_gi hf (rg_no rfl _)]) ?_
    have b4 := (ld_gi hh0 (a := 8) (k := i) (q := (0, 9)) (bd_u rfl (by omega))).2
    refine E_ias rfl k3 rfl (by omega) (by decide) ?_
    have k4 : HH (pt (pt (pt (pt h 16 i (gi h0 5 i)) 17 i (gi h0 6 i)) 18 i (gi h0 7 i)) 19 i (gi h0 8 i)) := HH_pt (q := (0, 9)) k3 (bd_u rfl (by omega)) b4.1 b4.2
    refine E_al rfl L0 ?_
    refine E_ogr (q := 20) rfl k4 rfl rfl ?_
    refine E_il rfl L2 ?_
    refine E_al rfl L1 ?_
    refine E_ogr (q := 9) rfl k4 rfl rfl ?_
    refine E_il rfl L2 ?_
    refine E_ial (v := gi h0 9 i) rfl k4 rfl (by omega) (by decide) (by rw [gi_ne (by first | exact gxx rfl | omega), gi_ne (by first | exact gxx rfl | omega), gi_ne (by first | exact gxx rfl | omega), gi_ne (by first | exact gxx rfl | omega), fr_gi hf (rg_no rfl _)]) ?_
    have b5 := (ld_gi hh0 (a := 9) (k := i) (q := (0, 9)) (bd_u rfl (by omega))).2
    refine E_ias rfl k4 rfl (by omega) (by decide) ?_
    have k5 : HH (pt (pt (pt (pt (pt h 16 i (gi h0 5 i)) 17 i (gi h0 6 i)) 18 i (gi h0 7 i)) 19 i (gi h0 8 i)) 20 i (gi h0 9 i)) := HH_pt (q := (0, 9)) k4 (bd_u rfl (by omega)) b5.1 b5.2
    refine E_inc rfl L2 (nJ_inc _) (fun lv1 K2 kp => ?_)
    refine E_goto rfl ?_
    refine ih lv1 (i := i + 1) (by omega) k5 ?_ (fun k hk => ?_) (kp 0 _ (nbz rfl) rfl L0) (kp 1 _ (nbz rfl) rfl L1) K2
    · exact fr_ptr (l := 0) (u := 7) rfl (by omega) (by omega) (fr_ptr (l := 0) (u := 7) rfl (by omega) (by omega) (fr_ptr (l := 0) (u := 7) rfl (by omega) (by omega) (fr_ptr (l := 0) (u := 7) rfl (by omega) (by omega) (fr_ptr (l := 0) (u := 7) rfl (by omega) (by omega) (hf)))))
    · by_cases e : k = i
      · subst e
        refine ⟨?_, ?_, ?_, ?_, ?_⟩
        · rw [gi_ne (by first | exact gxx rfl | omega), gi_ne (by first | exact gxx rfl | omega), gi_ne (by first | exact gxx rfl | omega), gi_ne (by first | exact gxx rfl | omega)]; exact gi_pt (q := (0, 8)) hh (bd_u rfl (by omega)) b1.1 b1.2
        · rw [gi_ne (by first | exact gxx rfl | omega), gi_ne (by first | exact gxx rfl | omega), gi_ne (by first | exact gxx rfl | omega)]; exact gi_pt (q := (0, 8)) k1 (bd_u rfl (by omega)) b2.1 b2.2
        · rw [gi_ne (by first | exact gxx rfl | omega), gi_ne (by first | exact gxx rfl | omega)]; exact gi_pt (q := (0, 99)) k2 (bd_u rfl (by omega)) b3.1 b3.2
        · rw [gi_ne (by first | exact gxx rfl | omega)]; exact gi_pt (q := (0, 9)) k3 (bd_u rfl (by omega)) b4.1 b4.2
        · exact gi_pt (q := (0, 9)) k4 (bd_u rfl (by omega)) b5.1 b5.2
      · have q := hc k (by omega)
        refine ⟨?_, ?_, ?_, ?_, ?_⟩
        · rw [gi_ne (by first | exact gxx rfl | omega), gi_ne (by first | exact gxx rfl | omega), gi_ne (by first | exact gxx rfl | omega), gi_ne (by first | exact gxx rfl | omega), gi_ne (fun _ => e)]; exact q.1
        · rw [gi_ne (by first | exact gxx rfl | omega), gi_ne (by first | exact gxx rfl | omega), gi_ne (by first | exact gxx rfl | omega), gi_ne (fun _ => e), gi_ne (by first | exact gxx rfl | omega)]; exact q.2.1
        · rw [gi_ne (by first | exact gxx rfl | omega), gi_ne (by first | exact gxx rfl | omega), gi_ne (fun _ => e), gi_ne (by first | exact gxx rfl | omega), gi_ne (by first | exact gxx rfl | omega)]; exact q.2.2.1
        · rw [gi_ne (by first | exact gxx rfl | omega), gi_ne (fun _ => e), gi_ne (by first | exact gxx rfl | omega), gi_ne (by first | exact gxx rfl | omega), gi_ne (by first | exact gxx rfl | omega)]; exact q.2.2.2.1
        · rw [gi_ne (fun _ => e), gi_ne (by first | exact gxx rfl | omega), gi_ne (by first | exact gxx rfl | omega), gi_ne (by first | exact gxx rfl | omega), gi_ne (by first | exact gxx rfl | omega)]; exact q.2.2.2.2
theorem tk2_15_4 {h0 : pm_H} {d : Nat} {Q : pm_H → Option Value → Prop} (hh0 : HH h0) (K : ∀ (h : pm_H) (lv : List (Nat × Value)), HH h → fr_g [(21, 0, 19), (22, 0, 19), (23, 0, 19)] h0 h → (∀ k, k < 20 → gi h 21 k = gi h0 10 k ∧ gi h 22 k = gi h0 11 k ∧ gi h 23 k = gi h0 12 k) → pm_get lv 0 = some (.ref 15) → pm_get lv 1 = some (.ref 4) → Ends (pm_at tX5_take) (pm_Rt pm_P d) (180, lv, [], h, 0, 0) Q) (j : Nat) : ∀ {h : pm_H} {i : Nat} (lv : List (Nat × Value)), i + j = 20 → HH h → fr_g [(21, 0, 19), (22, 0, 19), (23, 0, 19)] h0 h → (∀ k, k < i → gi h 21 k = gi h0 10 k ∧ gi h 22 k = gi h0 11 k ∧ gi h 23 k = gi h0 12 k) → pm_get lv 0 = some (.ref 15) → pm_get lv 1 = some (.ref 4) → pm_get lv 2 = some (.int (nJ i)) → Ends (pm_at tX5_take) (pm_Rt pm_P d) (132, lv, [], h, 0, 0) Q := by
  induction j with
  | zero =>
    intro h i lv hj hh hf hc L0 L1 L2
    refine E_il rfl L2 ?_
    refine E_ci 20 rfl ci20 ?_
    refine E_icT rfl (decide_eq_true ((nJ_le (by omega) (by omega)).mpr (by omega))) ?_
    exact K h lv hh hf (fun k hk => hc k (by omega)) L0 L1
  | succ j ih =>
    intro h i lv hj hh hf hc L0 L1 L2
    refine E_il rfl L2 ?_
    refine E_ci 20 rfl ci20 ?_
    refine E_icF rfl (decide_eq_false (fun q => absurd ((nJ_le (by omega) (by omega)).mp q) (by omega))) ?_
    refine E_al rfl L0 ?_
    refine E_ogr (q := 21) rfl hh rfl rfl ?_
    refine E_il rfl L2 ?_
    refine E_al rfl L1 ?_
    refine E_ogr (q := 10) rfl hh rfl rfl ?_
    refine E_il rfl L2 ?_
    refine E_ial (v := gi h0 10 i) rfl hh rfl (by omega) (by decide) (by rw [fr_gi hf (rg_no rfl _)]) ?_
    have b6 := (ld_gi hh0 (a := 10) (k := i) (q := (0, 7)) (bd_u rfl (by omega))).2
    refine E_ias rfl hh rfl (by omega) (by decide) ?_
    have k6 : HH (pt h 21 i (gi h0 10 i)) := HH_pt (q := (0, 7)) hh (bd_u rfl (by omega)) b6.1 b6.2
    refine E_al rfl L0 ?_
    refine E_ogr (q := 22) rfl k6 rfl rfl ?_
    refine E_il rfl L2 ?_
    refine E_al rfl L1 ?_
    refine E_ogr (q := 11) rfl k6 rfl rfl ?_
    refine E_il rfl L2 ?_
    refine E_ial (v := gi h0 11 i) rfl k6 rfl (by omega) (by decide) (by rw [gi_ne (by first | exact gxx rfl | omega), fr_gi hf (rg_no rfl _)]) ?_
    have b7 := (ld_gi hh0 (a := 11) (k := i) (q := (0, 8)) (bd_u rfl (by omega))).2
    refine E_ias rfl k6 rfl (by omega) (by decide) ?_
    have k7 : HH (pt (pt h 21 i (gi h0 10 i)) 22 i (gi h0 11 i)) := HH_pt (q := (0, 8)) k6 (bd_u rfl (by omega)) b7.1 b7.2
    refine E_al rfl L0 ?_
    refine E_ogr (q := 23) rfl k7 rfl rfl ?_
    refine E_il rfl L2 ?_
    refine E_al rfl L1 ?_
    refine E_ogr (q := 12) rfl k7 rfl rfl ?_
    refine E_il rfl L2 ?_
    refine E_zalB (v := gi h0 12 i) rfl k7 rfl (by omega) (by decide) (by rw [gi_ne (by first | exact gxx rfl | omega), gi_ne (by first | exact gxx rfl | omega), fr_gi hf (rg_no rfl _)]) ?_
    have b8 := (ld_gi hh0 (a := 12) (k := i) (q := (0, 1)) (bd_u rfl (by omega))).2
    refine E_zasB rfl k7 rfl (by omega) (by decide) (nar_z b8.1 b8.2) ?_
    have k8 : HH (pt (pt (pt h 21 i (gi h0 10 i)) 22 i (gi h0 11 i)) 23 i (gi h0 12 i)) := HH_pt (q := (0, 1)) k7 (bd_u rfl (by omega)) b8.1 b8.2
    refine E_inc rfl L2 (nJ_inc _) (fun lv1 K2 kp => ?_)
    refine E_goto rfl ?_
    refine ih lv1 (i := i + 1) (by omega) k8 ?_ (fun k hk => ?_) (kp 0 _ (nbz rfl) rfl L0) (kp 1 _ (nbz rfl) rfl L1) K2
    · exact fr_ptr (l := 0) (u := 19) rfl (by omega) (by omega) (fr_ptr (l := 0) (u := 19) rfl (by omega) (by omega) (fr_ptr (l := 0) (u := 19) rfl (by omega) (by omega) (hf)))
    · by_cases e : k = i
      · subst e
        refine ⟨?_, ?_, ?_⟩
        · rw [gi_ne (by first | exact gxx rfl | omega), gi_ne (by first | exact gxx rfl | omega)]; exact gi_pt (q := (0, 7)) hh (bd_u rfl (by omega)) b6.1 b6.2
        · rw [gi_ne (by first | exact gxx rfl | omega)]; exact gi_pt (q := (0, 8)) k6 (bd_u rfl (by omega)) b7.1 b7.2
        · exact gi_pt (q := (0, 1)) k7 (bd_u rfl (by omega)) b8.1 b8.2
      · have q := hc k (by omega)
        refine ⟨?_, ?_, ?_⟩
        · rw [gi_ne (by first | exact gxx rfl | omega), gi_ne (by first | exact gxx rfl | omega), gi_ne (fun _ => e)]; exact q.1
        · rw [gi_ne (by first | exact gxx rfl | omega), gi_ne (fun _ => e), gi_ne (by first | exact gxx rfl | omega)]; exact q.2.1
        · rw [gi_ne (fun _ => e), gi_ne (by first | exact gxx rfl | omega), gi_ne (by first | exact gxx rfl | omega)]; exact q.2.2
noncomputable def TkF_15_4 : List Rng := [(15, 0, 6), (16, 0, 7), (17, 0, 7), (18, 0, 7), (19, 0, 7), (20, 0, 7), (21, 0, 19), (22, 0, 19), (23, 0, 19)]
noncomputable def TkQ_15_4 (h h' : pm_H) (r : Option Value) : Prop := r = none ∧ HH h' ∧ fr_g TkF_15_4 h h' ∧ (∀ k, k < 7 → gi h' 15 k = gi h 4 k) ∧ (∀ k, k < 8 → gi h' 16 k = gi h 5 k ∧ gi h' 17 k = gi h 6 k ∧ gi h' 18 k = gi h 7 k ∧ gi h' 19 k = gi h 8 k ∧ gi h' 20 k = gi h 9 k) ∧ ∀ k, k < 20 → gi h' 21 k = gi h 10 k ∧ gi h' 22 k = gi h 11 k ∧ gi h' 23 k = gi h 12 k
theorem sp_take_15_4 {h : pm_H} {d : Nat} (hh : HH h) : Sp (d + 1) 54 h [.ref 15, .ref 4] (TkQ_15_4 h) := by
  refine Sp_of aiX5_take rfl rfl rfl ?_
  have L0 : pm_get (lv_args 0 [.ref 15, .ref 4]) 0 = some (.ref 15) := rfl
  have L1 : pm_get (lv_args 0 [.ref 15, .ref 4]) 1 = some (.ref 4) := rfl
  generalize lv_args 0 [.ref 15, .ref 4] = lv at L0 L1 ⊢
  have st : ∀ {k : Nat} {q : Int × Int} {g : pm_H}, k < 7 → bd 15 k = some q → bd 4 k = some q → HH g → fr_g [(15, 0, 6)] h g → (∀ i, i < k → gi g 15 i = gi h 4 i) → HH (pt g 15 k (gi h 4 k)) ∧ fr_g [(15, 0, 6)] h (pt g 15 k (gi h 4 k)) ∧ ∀ i, i < k + 1 → gi (pt g 15 k (gi h 4 k)) 15 i = gi h 4 i := by
    intro k q g hk hb hb2 hg hf ha
    have b := (ld_gi hh hb2).2
    refine ⟨HH_pt hg hb b.1 b.2, fr_ptr (l := 0) (u := 6) rfl (by omega) (by omega) hf, fun i hi => ?_⟩
    by_cases e : i = k
    · rw [e]; exact gi_pt hg hb b.1 b.2
    · rw [gi_ne (fun _ => e)]; exact ha i (by omega)
  refine E_al rfl L0 ?_
  refine E_al rfl L1 ?_
  refine E_ogf (q := (0, 8)) (v := gi h 4 0) rfl hh rfl rfl rfl ?_
  refine E_opf (q := (0, 8)) rfl hh rfl rfl ?_
  obtain ⟨a0, b0, c0⟩ := st (k := 0) (q := (0, 8)) (by decide) rfl rfl hh (fr_rf _ _) (fun i hi => absurd hi (Nat.not_lt_zero i))
  refine E_al rfl L0 ?_
  refine E_al rfl L1 ?_
  refine E_ogf (q := (0, 3)) (v := gi h 4 1) rfl a0 rfl rfl (fr_gi b0 (rg_no rfl _)) ?_
  refine E_opf (q := (0, 3)) rfl a0 rfl rfl ?_
  obtain ⟨a1, b1, c1⟩ := st (k := 1) (q := (0, 3)) (by decide) rfl rfl a0 b0 c0
  refine E_al rfl L0 ?_
  refine E_al rfl L1 ?_
  refine E_ogf (q := (0, 10)) (v := gi h 4 2) rfl a1 rfl rfl (fr_gi b1 (rg_no rfl _)) ?_
  refine E_opf (q := (0, 10)) rfl a1 rfl rfl ?_
  obtain ⟨a2, b2, c2⟩ := st (k := 2) (q := (0, 10)) (by decide) rfl rfl a1 b1 c1
  refine E_al rfl L0 ?_
  refine E_al rfl L1 ?_
  refine E_ogf (q := ((-2147483648), 2147483647)) (v := gi h 4 3) rfl a2 rfl rfl (fr_gi b2 (rg_no rfl _)) ?_
  refine E_opf (q := ((-2147483648), 2147483647)) rfl a2 rfl rfl ?_
  obtain ⟨a3, b3, c3⟩ := st (k := 3) (q := ((-2147483648), 2147483647)) (by decide) rfl rfl a2 b2 c2
  refine E_al rfl L0 ?_
  refine E_al rfl L1 ?_
  refine E_ogf (q := (0, 8)) (v := gi h 4 4) rfl a3 rfl rfl (fr_gi b3 (rg_no rfl _)) ?_
  refine E_opf (q := (0, 8)) rfl a3 rfl rfl ?_
  obtain ⟨a4, b4, c4⟩ := st (k := 4) (q := (0, 8)) (by decide) rfl rfl a3 b3 c3
  refine E_al rfl L0 ?_
  refine E_al rfl L1 ?_
  refine E_ogf (q := (0, 8)) (v := gi h 4 5) rfl a4 rfl rfl (fr_gi b4 (rg_no rfl _)) ?_
  refine E_opf (q := (0, 8)) rfl a4 rfl rfl ?_
  obtain ⟨a5, b5, c5⟩ := st (k := 5) (q := (0, 8)) (by decide) rfl rfl a4 b4 c4
  refine E_al rfl L0 ?_
  refine E_al rfl L1 ?_
  refine E_ogf (q := (0, 20)) (v := gi h 4 6) rfl a5 rfl rfl (fr_gi b5 (rg_no rfl _)) ?_
  refine E_opf (q := (0, 20)) rfl a5 rfl rfl ?_
  obtain ⟨a6, b6, c6⟩ := st (k := 6) (q := (0, 20)) (by decide) rfl rfl a5 b5 c5
  generalize (pt (pt (pt (pt (pt (pt (pt h 15 0 (gi h 4 0)) 15 1 (gi h 4 1)) 15 2 (gi h 4 2)) 15 3 (gi h 4 3)) 15 4 (gi h 4 4)) 15 5 (gi h 4 5)) 15 6 (gi h 4 6)) = h6 at a6 b6 c6 ⊢
  refine E_ci 0 rfl ci0 ?_
  refine E_is rfl (fun lv1 K2 kp => ?_)
  refine tk1_15_4 a6 (fun h7 lv2 hh7 f7 c7 M0 M1 => ?_) 8 (i := 0) lv1 (by omega) a6 (fr_rf _ _) (fun k hk => absurd hk (Nat.not_lt_zero k)) (kp 0 _ (nbz rfl) rfl L0) (kp 1 _ (nbz rfl) rfl L1) K2
  refine E_ci 0 rfl ci0 ?_
  refine E_is rfl (fun lv3 K3 kp3 => ?_)
  refine tk2_15_4 hh7 (fun h8 lv4 hh8 f8 c8 N0 N1 => ?_) 20 (i := 0) lv3 (by omega) hh7 (fr_rf _ _) (fun k hk => absurd hk (Nat.not_lt_zero k)) (kp3 0 _ (nbz rfl) rfl M0) (kp3 1 _ (nbz rfl) rfl M1) K3
  refine E_ret rfl ⟨rfl, hh8, fr_trans (fr_wk rfl b6) (fr_trans (fr_wk rfl f7) (fr_wk rfl f8)), fun k hk => ?_, fun k hk => ?_, fun k hk => ?_⟩
  · rw [fr_gi f8 (rg_no rfl _), fr_gi f7 (rg_no rfl _)]; exact c6 k hk
  · obtain ⟨q1, q2, q3, q4, q5⟩ := c7 k hk
    refine ⟨?_, ?_, ?_, ?_, ?_⟩
    · rw [fr_gi f8 (rg_no rfl _), q1, fr_gi b6 (rg_no rfl _)]
    · rw [fr_gi f8 (rg_no rfl _), q2, fr_gi b6 (rg_no rfl _)]
    · rw [fr_gi f8 (rg_no rfl _), q3, fr_gi b6 (rg_no rfl _)]
    · rw [fr_gi f8 (rg_no rfl _), q4, fr_gi b6 (rg_no rfl _)]
    · rw [fr_gi f8 (rg_no rfl _), q5, fr_gi b6 (rg_no rfl _)]
  · obtain ⟨q6, q7, q8⟩ := c8 k hk
    refine ⟨?_, ?_, ?_⟩
    · rw [q6, fr_gi f7 (rg_no rfl _), fr_gi b6 (rg_no rfl _)]
    · rw [q7, fr_gi f7 (rg_no rfl _), fr_gi b6 (rg_no rfl _)]
    · rw [q8, fr_gi f7 (rg_no rfl _), fr_gi b6 (rg_no rfl _)]
/-! the class takes a street over, exactly (written by gen_t52.py) -/
theorem tk1_25_15 {h0 : pm_H} {d : Nat} {Q : pm_H → Option Value → Prop} (hh0 : HH h0) (K : ∀ (h : pm_H) (lv : List (Nat × Value)), HH h → fr_g [(26, 0, 7), (27, 0, 7), (28, 0, 7), (29, 0, 7), (30, 0, 7)] h0 h → (∀ k, k < 8 → gi h 26 k = gi h0 16 k ∧ gi h 27 k = gi h0 17 k ∧ gi h 28 k = gi h0 18 k ∧ gi h 29 k = gi h0 19 k ∧ gi h 30 k = gi h0 20 k) → pm_get lv 0 = some (.ref 25) → pm_get lv 1 = some (.ref 15) → Ends (pm_at tX5_take) (pm_Rt pm_P d) (130, lv, [], h, 0, 0) Q) (j : Nat) : ∀ {h : pm_H} {i : Nat} (lv : List (Nat × Value)), i + j = 8 → HH h → fr_g [(26, 0, 7), (27, 0, 7), (28, 0, 7), (29, 0, 7), (30, 0, 7)] h0 h → (∀ k, k < i → gi h 26 k = gi h0 16 k ∧ gi h 27 k = gi h0 17 k ∧ gi h 28 k = gi h0 18 k ∧ gi h 29 k = gi h0 19 k ∧ gi h 30 k = gi h0 20 k) → pm_get lv 0 = some (.ref 25) → pm_get lv 1 = some (.ref 15) → pm_get lv 2 = some (.int (nJ i)) → Ends (pm_at tX5_take) (pm_Rt pm_P d) (58, lv, [], h, 0, 0) Q := by
  induction j with
  | zero =>
    intro h i lv hj hh hf hc L0 L1 L2
    refine E_il rfl L2 ?_
    refine E_ci 8 rfl ci8 ?_
    refine E_icT rfl (decide_eq_true ((nJ_le (by omega) (by omega)).mpr (by omega))) ?_
    exact K h lv hh hf (fun k hk => hc k (by omega)) L0 L1
  | succ j ih =>
    intro h i lv hj hh hf hc L0 L1 L2
    refine E_il rfl L2 ?_
    refine E_ci 8 rfl ci8 ?_
    refine E_icF rfl (decide_eq_false (fun q => absurd ((nJ_le (by omega) (by omega)).mp q) (by omega))) ?_
    refine E_al rfl L0 ?_
    refine E_ogr (q := 26) rfl hh rfl rfl ?_
    refine E_il rfl L2 ?_
    refine E_al rfl L1 ?_
    refine E_ogr (q := 16) rfl hh rfl rfl ?_
    refine E_il rfl L2 ?_
    refine E_ial (v := gi h0 16 i) rfl hh rfl (by omega) (by decide) (by rw [fr_gi hf (rg_no rfl _)]) ?_
    have b1 := (ld_gi hh0 (a := 16) (k := i) (q := (0, 8)) (bd_u rfl (by omega))).2
    refine E_ias rfl hh rfl (by omega) (by decide) ?_
    have k1 : HH (pt h 26 i (gi h0 16 i)) := HH_pt (q := (0, 8)) hh (bd_u rfl (by omega)) b1.1 b1.2
    refine E_al rfl L0 ?_
    refine E_ogr (q := 27) rfl k1 rfl rfl ?_
    refine E_il rfl L2 ?_
    refine E_al rfl L1 ?_
    refine E_ogr (q := 17) rfl k1 rfl rfl ?_
    refine E_il rfl L2 ?_
    refine E_ial (v := gi h0 17 i) rfl k1 rfl (by omega) (by decide) (by rw [gi_ne (by first | exact gxx rfl | omega), fr_gi hf (rg_no rfl _)]) ?_
    have b2 := (ld_gi hh0 (a := 17) (k := i) (q := (0, 8)) (bd_u rfl (by omega))).2
    refine E_ias rfl k1 rfl (by omega) (by decide) ?_
    have k2 : HH (pt (pt h 26 i (gi h0 16 i)) 27 i (gi h0 17 i)) := HH_pt (q := (0, 8)) k1 (bd_u rfl (by omega)) b2.1 b2.2
    refine E_al rfl L0 ?_
    refine E_ogr (q := 28) rfl k2 rfl rfl ?_
    refine E_il rfl L2 ?_
    refine E_al rfl L1 ?_
    refine E_ogr (q := 18) rfl k2 rfl rfl ?_
    refine E_il rfl L2 ?_
    refine E_ial (v := gi h0 18 i) rfl k2 rfl (by omega) (by decide) (by rw [gi_ne (by first | exact gxx rfl | omega), gi_ne (by first | exact gxx rfl | omega), fr_gi hf (rg_no rfl _)]) ?_
    have b3 := (ld_gi hh0 (a := 18) (k := i) (q := (0, 99)) (bd_u rfl (by omega))).2
    refine E_ias rfl k2 rfl (by omega) (by decide) ?_
    have k3 : HH (pt (pt (pt h 26 i (gi h0 16 i)) 27 i (gi h0 17 i)) 28 i (gi h0 18 i)) := HH_pt (q := (0, 99)) k2 (bd_u rfl (by omega)) b3.1 b3.2
    refine E_al rfl L0 ?_
    refine E_ogr (q := 29) rfl k3 rfl rfl ?_
    refine E_il rfl L2 ?_
    refine E_al rfl L1 ?_
    refine E_ogr (q := 19) rfl k3 rfl rfl ?_
    refine E_il rfl L2 ?_
    refine E_ial (v := gi h0 19 i) rfl k3 rfl (by omega) (by decide) (by rw [gi_ne (by first | exact gxx rfl | omega), gi_ne (by first | exact gxx rfl | omega), gi_ne (by first | exact gxx rfl | omega), fr_gi hf (rg_no rfl _)]) ?_
    have b4 := (ld_gi hh0 (a := 19) (k := i) (q := (0, 9)) (bd_u rfl (by omega))).2
    refine E_ias rfl k3 rfl (by omega) (by decide) ?_
    have k4 : HH (pt (pt (pt (pt h 26 i (gi h0 16 i)) 27 i (gi h0 17 i)) 28 i (gi h0 18 i)) 29 i (gi h0 19 i)) := HH_pt (q := (0, 9)) k3 (bd_u rfl (by omega)) b4.1 b4.2
    refine E_al rfl L0 ?_
    refine E_ogr (q := 30) rfl k4 rfl rfl ?_
    refine E_il rfl L2 ?_
    refine E_al rfl L1 ?_
    refine E_ogr (q := 20) rfl k4 rfl rfl ?_
    refine E_il rfl L2 ?_
    refine E_ial (v := gi h0 20 i) rfl k4 rfl (by omega) (by decide) (by rw [gi_ne (by first | exact gxx rfl | omega), gi_ne (by first | exact gxx rfl | omega), gi_ne (by first | exact gxx rfl | omega), gi_ne (by first | exact gxx rfl | omega), fr_gi hf (rg_no rfl _)]) ?_
    have b5 := (ld_gi hh0 (a := 20) (k := i) (q := (0, 9)) (bd_u rfl (by omega))).2
    refine E_ias rfl k4 rfl (by omega) (by decide) ?_
    have k5 : HH (pt (pt (pt (pt (pt h 26 i (gi h0 16 i)) 27 i (gi h0 17 i)) 28 i (gi h0 18 i)) 29 i (gi h0 19 i)) 30 i (gi h0 20 i)) := HH_pt (q := (0, 9)) k4 (bd_u rfl (by omega)) b5.1 b5.2
    refine E_inc rfl L2 (nJ_inc _) (fun lv1 K2 kp => ?_)
    refine E_goto rfl ?_
    refine ih lv1 (i := i + 1) (by omega) k5 ?_ (fun k hk => ?_) (kp 0 _ (nbz rfl) rfl L0) (kp 1 _ (nbz rfl) rfl L1) K2
    · exact fr_ptr (l := 0) (u := 7) rfl (by omega) (by omega) (fr_ptr (l := 0) (u := 7) rfl (by omega) (by omega) (fr_ptr (l := 0) (u := 7) rfl (by omega) (by omega) (fr_ptr (l := 0) (u := 7) rfl (by omega) (by omega) (fr_ptr (l := 0) (u := 7) rfl (by omega) (by omega) (hf)))))
    · by_cases e : k = i
      · subst e
        refine ⟨?_, ?_, ?_, ?_, ?_⟩
        · rw [gi_ne (by first | exact gxx rfl | omega), gi_ne (by first | exact gxx rfl | omega), gi_ne (by first | exact gxx rfl | omega), gi_ne (by first | exact gxx rfl | omega)]; exact gi_pt (q := (0, 8)) hh (bd_u rfl (by omega)) b1.1 b1.2
        · rw [gi_ne (by first | exact gxx rfl | omega), gi_ne (by first | exact gxx rfl | omega), gi_ne (by first | exact gxx rfl | omega)]; exact gi_pt (q := (0, 8)) k1 (bd_u rfl (by omega)) b2.1 b2.2
        · rw [gi_ne (by first | exact gxx rfl | omega), gi_ne (by first | exact gxx rfl | omega)]; exact gi_pt (q := (0, 99)) k2 (bd_u rfl (by omega)) b3.1 b3.2
        · rw [gi_ne (by first | exact gxx rfl | omega)]; exact gi_pt (q := (0, 9)) k3 (bd_u rfl (by omega)) b4.1 b4.2
        · exact gi_pt (q := (0, 9)) k4 (bd_u rfl (by omega)) b5.1 b5.2
      · have q := hc k (by omega)
        refine ⟨?_, ?_, ?_, ?_, ?_⟩
        · rw [gi_ne (by first | exact gxx rfl | omega), gi_ne (by first | exact gxx rfl | omega), gi_ne (by first | exact gxx rfl | omega), gi_ne (by first | exact gxx rfl | omega), gi_ne (fun _ => e)]; exact q.1
        · rw [gi_ne (by first | exact gxx rfl | omega), gi_ne (by first | exact gxx rfl | omega), gi_ne (by first | exact gxx rfl | omega), gi_ne (fun _ => e), gi_ne (by first | exact gxx rfl | omega)]; exact q.2.1
        · rw [gi_ne (by first | exact gxx rfl | omega), gi_ne (by first | exact gxx rfl | omega), gi_ne (fun _ => e), gi_ne (by first | exact gxx rfl | omega), gi_ne (by first | exact gxx rfl | omega)]; exact q.2.2.1
        · rw [gi_ne (by first | exact gxx rfl | omega), gi_ne (fun _ => e), gi_ne (by first | exact gxx rfl | omega), gi_ne (by first | exact gxx rfl | omega), gi_ne (by first | exact gxx rfl | omega)]; exact q.2.2.2.1
        · rw [gi_ne (fun _ => e), gi_ne (by first | exact gxx rfl | omega), gi_ne (by first | exact gxx rfl | omega), gi_ne (by first | exact gxx rfl | omega), gi_ne (by first | exact gxx rfl | omega)]; exact q.2.2.2.2
theorem tk2_25_15 {h0 : pm_H} {d : Nat} {Q : pm_H → Option Value → Prop} (hh0 : HH h0) (K : ∀ (h : pm_H) (lv : List (Nat × Value)), HH h → fr_g [(31, 0, 19), (32, 0, 19), (33, 0, 19)] h0 h → (∀ k, k < 20 → gi h 31 k = gi h0 21 k ∧ gi h 32 k = gi h0 22 k ∧ gi h 33 k = gi h0 23 k) → pm_get lv 0 = some (.ref 25) → pm_get lv 1 = some (.ref 15) → Ends (pm_at tX5_take) (pm_Rt pm_P d) (180, lv, [], h, 0, 0) Q) (j : Nat) : ∀ {h : pm_H} {i : Nat} (lv : List (Nat × Value)), i + j = 20 → HH h → fr_g [(31, 0, 19), (32, 0, 19), (33, 0, 19)] h0 h → (∀ k, k < i → gi h 31 k = gi h0 21 k ∧ gi h 32 k = gi h0 22 k ∧ gi h 33 k = gi h0 23 k) → pm_get lv 0 = some (.ref 25) → pm_get lv 1 = some (.ref 15) → pm_get lv 2 = some (.int (nJ i)) → Ends (pm_at tX5_take) (pm_Rt pm_P d) (132, lv, [], h, 0, 0) Q := by
  induction j with
  | zero =>
    intro h i lv hj hh hf hc L0 L1 L2
    refine E_il rfl L2 ?_
    refine E_ci 20 rfl ci20 ?_
    refine E_icT rfl (decide_eq_true ((nJ_le (by omega) (by omega)).mpr (by omega))) ?_
    exact K h lv hh hf (fun k hk => hc k (by omega)) L0 L1
  | succ j ih =>
    intro h i lv hj hh hf hc L0 L1 L2
    refine E_il rfl L2 ?_
    refine E_ci 20 rfl ci20 ?_
    refine E_icF rfl (decide_eq_false (fun q => absurd ((nJ_le (by omega) (by omega)).mp q) (by omega))) ?_
    refine E_al rfl L0 ?_
    refine E_ogr (q := 31) rfl hh rfl rfl ?_
    refine E_il rfl L2 ?_
    refine E_al rfl L1 ?_
    refine E_ogr (q := 21) rfl hh rfl rfl ?_
    refine E_il rfl L2 ?_
    refine E_ial (v := gi h0 21 i) rfl hh rfl (by omega) (by decide) (by rw [fr_gi hf (rg_no rfl _)]) ?_
    have b6 := (ld_gi hh0 (a := 21) (k := i) (q := (0, 7)) (bd_u rfl (by omega))).2
    refine E_ias rfl hh rfl (by omega) (by decide) ?_
    have k6 : HH (pt h 31 i (gi h0 21 i)) := HH_pt (q := (0, 7)) hh (bd_u rfl (by omega)) b6.1 b6.2
    refine E_al rfl L0 ?_
    refine E_ogr (q := 32) rfl k6 rfl rfl ?_
    refine E_il rfl L2 ?_
    refine E_al rfl L1 ?_
    refine E_ogr (q := 22) rfl k6 rfl rfl ?_
    refine E_il rfl L2 ?_
    refine E_ial (v := gi h0 22 i) rfl k6 rfl (by omega) (by decide) (by rw [gi_ne (by first | exact gxx rfl | omega), fr_gi hf (rg_no rfl _)]) ?_
    have b7 := (ld_gi hh0 (a := 22) (k := i) (q := (0, 8)) (bd_u rfl (by omega))).2
    refine E_ias rfl k6 rfl (by omega) (by decide) ?_
    have k7 : HH (pt (pt h 31 i (gi h0 21 i)) 32 i (gi h0 22 i)) := HH_pt (q := (0, 8)) k6 (bd_u rfl (by omega)) b7.1 b7.2
    refine E_al rfl L0 ?_
    refine E_ogr (q := 33) rfl k7 rfl rfl ?_
    refine E_il rfl L2 ?_
    refine E_al rfl L1 ?_
    refine E_ogr (q := 23) rfl k7 rfl rfl ?_
    refine E_il rfl L2 ?_
    refine E_zalB (v := gi h0 23 i) rfl k7 rfl (by omega) (by decide) (by rw [gi_ne (by first | exact gxx rfl | omega), gi_ne (by first | exact gxx rfl | omega), fr_gi hf (rg_no rfl _)]) ?_
    have b8 := (ld_gi hh0 (a := 23) (k := i) (q := (0, 1)) (bd_u rfl (by omega))).2
    refine E_zasB rfl k7 rfl (by omega) (by decide) (nar_z b8.1 b8.2) ?_
    have k8 : HH (pt (pt (pt h 31 i (gi h0 21 i)) 32 i (gi h0 22 i)) 33 i (gi h0 23 i)) := HH_pt (q := (0, 1)) k7 (bd_u rfl (by omega)) b8.1 b8.2
    refine E_inc rfl L2 (nJ_inc _) (fun lv1 K2 kp => ?_)
    refine E_goto rfl ?_
    refine ih lv1 (i := i + 1) (by omega) k8 ?_ (fun k hk => ?_) (kp 0 _ (nbz rfl) rfl L0) (kp 1 _ (nbz rfl) rfl L1) K2
    · exact fr_ptr (l := 0) (u := 19) rfl (by omega) (by omega) (fr_ptr (l := 0) (u := 19) rfl (by omega) (by omega) (fr_ptr (l := 0) (u := 19) rfl (by omega) (by omega) (hf)))
    · by_cases e : k = i
      · subst e
        refine ⟨?_, ?_, ?_⟩
        · rw [gi_ne (by first | exact gxx rfl | omega), gi_ne (by first | exact gxx rfl | omega)]; exact gi_pt (q := (0, 7)) hh (bd_u rfl (by omega)) b6.1 b6.2
        · rw [gi_ne (by first | exact gxx rfl | omega)]; exact gi_pt (q := (0, 8)) k6 (bd_u rfl (by omega)) b7.1 b7.2
        · exact gi_pt (q := (0, 1)) k7 (bd_u rfl (by omega)) b8.1 b8.2
      · have q := hc k (by omega)
        refine ⟨?_, ?_, ?_⟩
        · rw [gi_ne (by first | exact gxx rfl | omega), gi_ne (by first | exact gxx rfl | omega), gi_ne (fun _ => e)]; exact q.1
        · rw [gi_ne (by first | exact gxx rfl | omega), gi_ne (fun _ => e), gi_ne (by first | exact gxx rfl | omega)]; exact q.2.1
        · rw [gi_ne (fun _ => e), gi_ne (by first | exact gxx rfl | omega), gi_ne (by first | exact gxx rfl | omega)]; exact q.2.2
noncomputable def TkF_25_15 : List Rng := [(25, 0, 6), (26, 0, 7), (27, 0, 7), (28, 0, 7), (29, 0, 7), (30, 0, 7), (31, 0, 19), (32, 0, 19), (33, 0, 19)]
noncomputable def TkQ_25_15 (h h' : pm_H) (r : Option Value) : Prop := r = none ∧ HH h' ∧ fr_g TkF_25_15 h h' ∧ (∀ k, k < 7 → gi h' 25 k = gi h 15 k) ∧ (∀ k, k < 8 → gi h' 26 k = gi h 16 k ∧ gi h' 27 k = gi h 17 k ∧ gi h' 28 k = gi h 18 k ∧ gi h' 29 k = gi h 19 k ∧ gi h' 30 k = gi h 20 k) ∧ ∀ k, k < 20 → gi h' 31 k = gi h 21 k ∧ gi h' 32 k = gi h 22 k ∧ gi h' 33 k = gi h 23 k
theorem sp_take_25_15 {h : pm_H} {d : Nat} (hh : HH h) : Sp (d + 1) 54 h [.ref 25, .ref 15] (TkQ_25_15 h) := by
  refine Sp_of aiX5_take rfl rfl rfl ?_
  have L0 : pm_get (lv_args 0 [.ref 25, .ref 15]) 0 = some (.ref 25) := rfl
  have L1 : pm_get (lv_args 0 [.ref 25, .ref 15]) 1 = some (.ref 15) := rfl
  generalize lv_args 0 [.ref 25, .ref 15] = lv at L0 L1 ⊢
  have st : ∀ {k : Nat} {q : Int × Int} {g : pm_H}, k < 7 → bd 25 k = some q → bd 15 k = some q → HH g → fr_g [(25, 0, 6)] h g → (∀ i, i < k → gi g 25 i = gi h 15 i) → HH (pt g 25 k (gi h 15 k)) ∧ fr_g [(25, 0, 6)] h (pt g 25 k (gi h 15 k)) ∧ ∀ i, i < k + 1 → gi (pt g 25 k (gi h 15 k)) 25 i = gi h 15 i := by
    intro k q g hk hb hb2 hg hf ha
    have b := (ld_gi hh hb2).2
    refine ⟨HH_pt hg hb b.1 b.2, fr_ptr (l := 0) (u := 6) rfl (by omega) (by omega) hf, fun i hi => ?_⟩
    by_cases e : i = k
    · rw [e]; exact gi_pt hg hb b.1 b.2
    · rw [gi_ne (fun _ => e)]; exact ha i (by omega)
  refine E_al rfl L0 ?_
  refine E_al rfl L1 ?_
  refine E_ogf (q := (0, 8)) (v := gi h 15 0) rfl hh rfl rfl rfl ?_
  refine E_opf (q := (0, 8)) rfl hh rfl rfl ?_
  obtain ⟨a0, b0, c0⟩ := st (k := 0) (q := (0, 8)) (by decide) rfl rfl hh (fr_rf _ _) (fun i hi => absurd hi (Nat.not_lt_zero i))
  refine E_al rfl L0 ?_
  refine E_al rfl L1 ?_
  refine E_ogf (q := (0, 3)) (v := gi h 15 1) rfl a0 rfl rfl (fr_gi b0 (rg_no rfl _)) ?_
  refine E_opf (q := (0, 3)) rfl a0 rfl rfl ?_
  obtain ⟨a1, b1, c1⟩ := st (k := 1) (q := (0, 3)) (by decide) rfl rfl a0 b0 c0
  refine E_al rfl L0 ?_
  refine E_al rfl L1 ?_
  refine E_ogf (q := (0, 10)) (v := gi h 15 2) rfl a1 rfl rfl (fr_gi b1 (rg_no rfl _)) ?_
  refine E_opf (q := (0, 10)) rfl a1 rfl rfl ?_
  obtain ⟨a2, b2, c2⟩ := st (k := 2) (q := (0, 10)) (by decide) rfl rfl a1 b1 c1
  refine E_al rfl L0 ?_
  refine E_al rfl L1 ?_
  refine E_ogf (q := ((-2147483648), 2147483647)) (v := gi h 15 3) rfl a2 rfl rfl (fr_gi b2 (rg_no rfl _)) ?_
  refine E_opf (q := ((-2147483648), 2147483647)) rfl a2 rfl rfl ?_
  obtain ⟨a3, b3, c3⟩ := st (k := 3) (q := ((-2147483648), 2147483647)) (by decide) rfl rfl a2 b2 c2
  refine E_al rfl L0 ?_
  refine E_al rfl L1 ?_
  refine E_ogf (q := (0, 8)) (v := gi h 15 4) rfl a3 rfl rfl (fr_gi b3 (rg_no rfl _)) ?_
  refine E_opf (q := (0, 8)) rfl a3 rfl rfl ?_
  obtain ⟨a4, b4, c4⟩ := st (k := 4) (q := (0, 8)) (by decide) rfl rfl a3 b3 c3
  refine E_al rfl L0 ?_
  refine E_al rfl L1 ?_
  refine E_ogf (q := (0, 8)) (v := gi h 15 5) rfl a4 rfl rfl (fr_gi b4 (rg_no rfl _)) ?_
  refine E_opf (q := (0, 8)) rfl a4 rfl rfl ?_
  obtain ⟨a5, b5, c5⟩ := st (k := 5) (q := (0, 8)) (by decide) rfl rfl a4 b4 c4
  refine E_al rfl L0 ?_
  refine E_al rfl L1 ?_
  refine E_ogf (q := (0, 20)) (v := gi h 15 6) rfl a5 rfl rfl (fr_gi b5 (rg_no rfl _)) ?_
  refine E_opf (q := (0, 20)) rfl a5 rfl rfl ?_
  obtain ⟨a6, b6, c6⟩ := st (k := 6) (q := (0, 20)) (by decide) rfl rfl a5 b5 c5
  generalize (pt (pt (pt (pt (pt (pt (pt h 25 0 (gi h 15 0)) 25 1 (gi h 15 1)) 25 2 (gi h 15 2)) 25 3 (gi h 15 3)) 25 4 (gi h 15 4)) 25 5 (gi h 15 5)) 25 6 (gi h 15 6)) = h6 at a6 b6 c6 ⊢
  refine E_ci 0 rfl ci0 ?_
  refine E_is rfl (fun lv1 K2 kp => ?_)
  refine tk1_25_15 a6 (fun h7 lv2 hh7 f7 c7 M0 M1 => ?_) 8 (i := 0) lv1 (by omega) a6 (fr_rf _ _) (fun k hk => absurd hk (Nat.not_lt_zero k)) (kp 0 _ (nbz rfl) rfl L0) (kp 1 _ (nbz rfl) rfl L1) K2
  refine E_ci 0 rfl ci0 ?_
  refine E_is rfl (fun lv3 K3 kp3 => ?_)
  refine tk2_25_15 hh7 (fun h8 lv4 hh8 f8 c8 N0 N1 => ?_) 20 (i := 0) lv3 (by omega) hh7 (fr_rf _ _) (fun k hk => absurd hk (Nat.not_lt_zero k)) (kp3 0 _ (nbz rfl) rfl M0) (kp3 1 _ (nbz rfl) rfl M1) K3
  refine E_ret rfl ⟨rfl, hh8, fr_trans (fr_wk rfl b6) (fr_trans (fr_wk rfl f7) (fr_wk rfl f8)), fun k hk => ?_, fun k hk => ?_, fun k hk => ?_⟩
  · rw [fr_gi f8 (rg_no rfl _), fr_gi f7 (rg_no rfl _)]; exact c6 k hk
  · obtain ⟨q1, q2, q3, q4, q5⟩ := c7 k hk
    refine ⟨?_, ?_, ?_, ?_, ?_⟩
    · rw [fr_gi f8 (rg_no rfl _), q1, fr_gi b6 (rg_no rfl _)]
    · rw [fr_gi f8 (rg_no rfl _), q2, fr_gi b6 (rg_no rfl _)]
    · rw [fr_gi f8 (rg_no rfl _), q3, fr_gi b6 (rg_no rfl _)]
    · rw [fr_gi f8 (rg_no rfl _), q4, fr_gi b6 (rg_no rfl _)]
    · rw [fr_gi f8 (rg_no rfl _), q5, fr_gi b6 (rg_no rfl _)]
  · obtain ⟨q6, q7, q8⟩ := c8 k hk
    refine ⟨?_, ?_, ?_⟩
    · rw [q6, fr_gi f7 (rg_no rfl _), fr_gi b6 (rg_no rfl _)]
    · rw [q7, fr_gi f7 (rg_no rfl _), fr_gi b6 (rg_no rfl _)]
    · rw [q8, fr_gi f7 (rg_no rfl _), fr_gi b6 (rg_no rfl _)]
theorem tk1_34_15 {h0 : pm_H} {d : Nat} {Q : pm_H → Option Value → Prop} (hh0 : HH h0) (K : ∀ (h : pm_H) (lv : List (Nat × Value)), HH h → fr_g [(35, 0, 7), (36, 0, 7), (37, 0, 7), (38, 0, 7), (39, 0, 7)] h0 h → (∀ k, k < 8 → gi h 35 k = gi h0 16 k ∧ gi h 36 k = gi h0 17 k ∧ gi h 37 k = gi h0 18 k ∧ gi h 38 k = gi h0 19 k ∧ gi h 39 k = gi h0 20 k) → pm_get lv 0 = some (.ref 34) → pm_get lv 1 = some (.ref 15) → Ends (pm_at tX5_take) (pm_Rt pm_P d) (130, lv, [], h, 0, 0) Q) (j : Nat) : ∀ {h : pm_H} {i : Nat} (lv : List (Nat × Value)), i + j = 8 → HH h → fr_g [(35, 0, 7), (36, 0, 7), (37, 0, 7), (38, 0, 7), (39, 0, 7)] h0 h → (∀ k, k < i → gi h 35 k = gi h0 16 k ∧ gi h 36 k = gi h0 17 k ∧ gi h 37 k = gi h0 18 k ∧ gi h 38 k = gi h0 19 k ∧ gi h 39 k = gi h0 20 k) → pm_get lv 0 = some (.ref 34) → pm_get lv 1 = some (.ref 15) → pm_get lv 2 = some (.int (nJ i)) → Ends (pm_at tX5_take) (pm_Rt pm_P d) (58, lv, [], h, 0, 0) Q := by
  induction j with
  | zero =>
    intro h i lv hj hh hf hc L0 L1 L2
    refine E_il rfl L2 ?_
    refine E_ci 8 rfl ci8 ?_
    refine E_icT rfl (decide_eq_true ((nJ_le (by omega) (by omega)).mpr (by omega))) ?_
    exact K h lv hh hf (fun k hk => hc k (by omega)) L0 L1
  | succ j ih =>
    intro h i lv hj hh hf hc L0 L1 L2
    refine E_il rfl L2 ?_
    refine E_ci 8 rfl ci8 ?_
    refine E_icF rfl (decide_eq_false (fun q => absurd ((nJ_le (by omega) (by omega)).mp q) (by omega))) ?_
    refine E_al rfl L0 ?_
    refine E_ogr (q := 35) rfl hh rfl rfl ?_
    refine E_il rfl L2 ?_
    refine E_al rfl L1 ?_
    refine E_ogr (q := 16) rfl hh rfl rfl ?_
    refine E_il rfl L2 ?_
    refine E_ial (v := gi h0 16 i) rfl hh rfl (by omega) (by decide) (by rw [fr_gi hf (rg_no rfl _)]) ?_
    have b1 := (ld_gi hh0 (a := 16) (k := i) (q := (0, 8)) (bd_u rfl (by omega))).2
    refine E_ias rfl hh rfl (by omega) (by decide) ?_
    have k1 : HH (pt h 35 i (gi h0 16 i)) := HH_pt (q := (0, 8)) hh (bd_u rfl (by omega)) b1.1 b1.2
    refine E_al rfl L0 ?_
    refine E_ogr (q := 36) rfl k1 rfl rfl ?_
    refine E_il rfl L2 ?_
    refine E_al rfl L1 ?_
    refine E_ogr (q := 17) rfl k1 rfl rfl ?_
    refine E_il rfl L2 ?_
    refine E_ial (v := gi h0 17 i) rfl k1 rfl (by omega) (by decide) (by rw [gi_ne (by first | exact gxx rfl | omega), fr_gi hf (rg_no rfl _)]) ?_
    have b2 := (ld_gi hh0 (a := 17) (k := i) (q := (0, 8)) (bd_u rfl (by omega))).2
    refine E_ias rfl k1 rfl (by omega) (by decide) ?_
    have k2 : HH (pt (pt h 35 i (gi h0 16 i)) 36 i (gi h0 17 i)) := HH_pt (q := (0, 8)) k1 (bd_u rfl (by omega)) b2.1 b2.2
    refine E_al rfl L0 ?_
    refine E_ogr (q := 37) rfl k2 rfl rfl ?_
    refine E_il rfl L2 ?_
    refine E_al rfl L1 ?_
    refine E_ogr (q := 18) rfl k2 rfl rfl ?_
    refine E_il rfl L2 ?_
    refine E_ial (v := gi h0 18 i) rfl k2 rfl (by omega) (by decide) (by rw [gi_ne (by first | exact gxx rfl | omega), gi_ne (by first | exact gxx rfl | omega), fr_gi hf (rg_no rfl _)]) ?_
    have b3 := (ld_gi hh0 (a := 18) (k := i) (q := (0, 99)) (bd_u rfl (by omega))).2
    refine E_ias rfl k2 rfl (by omega) (by decide) ?_
    have k3 : HH (pt (pt (pt h 35 i (gi h0 16 i)) 36 i (gi h0 17 i)) 37 i (gi h0 18 i)) := HH_pt (q := (0, 99)) k2 (bd_u rfl (by omega)) b3.1 b3.2
    refine E_al rfl L0 ?_
    refine E_ogr (q := 38) rfl k3 rfl rfl ?_
    refine E_il rfl L2 ?_
    refine E_al rfl L1 ?_
    refine E_ogr (q := 19) rfl k3 rfl rfl ?_
    refine E_il rfl L2 ?_
    refine E_ial (v := gi h0 19 i) rfl k3 rfl (by omega) (by decide) (by rw [gi_ne (by first | exact gxx rfl | omega), gi_ne (by first | exact gxx rfl | omega), gi_ne (by first | exact gxx rfl | omega), fr_gi hf (rg_no rfl _)]) ?_
    have b4 := (ld_gi hh0 (a := 19) (k := i) (q := (0, 9)) (bd_u rfl (by omega))).2
    refine E_ias rfl k3 rfl (by omega) (by decide) ?_
    have k4 : HH (pt (pt (pt (pt h 35 i (gi h0 16 i)) 36 i (gi h0 17 i)) 37 i (gi h0 18 i)) 38 i (gi h0 19 i)) := HH_pt (q := (0, 9)) k3 (bd_u rfl (by omega)) b4.1 b4.2
    refine E_al rfl L0 ?_
    refine E_ogr (q := 39) rfl k4 rfl rfl ?_
    refine E_il rfl L2 ?_
    refine E_al rfl L1 ?_
    refine E_ogr (q := 20) rfl k4 rfl rfl ?_
    refine E_il rfl L2 ?_
    refine E_ial (v := gi h0 20 i) rfl k4 rfl (by omega) (by decide) (by rw [gi_ne (by first | exact gxx rfl | omega), gi_ne (by first | exact gxx rfl | omega), gi_ne (by first | exact gxx rfl | omega), gi_ne (by first | exact gxx rfl | omega), fr_gi hf (rg_no rfl _)]) ?_
    have b5 := (ld_gi hh0 (a := 20) (k := i) (q := (0, 9)) (bd_u rfl (by omega))).2
    refine E_ias rfl k4 rfl (by omega) (by decide) ?_
    have k5 : HH (pt (pt (pt (pt (pt h 35 i (gi h0 16 i)) 36 i (gi h0 17 i)) 37 i (gi h0 18 i)) 38 i (gi h0 19 i)) 39 i (gi h0 20 i)) := HH_pt (q := (0, 9)) k4 (bd_u rfl (by omega)) b5.1 b5.2
    refine E_inc rfl L2 (nJ_inc _) (fun lv1 K2 kp => ?_)
    refine E_goto rfl ?_
    refine ih lv1 (i := i + 1) (by omega) k5 ?_ (fun k hk => ?_) (kp 0 _ (nbz rfl) rfl L0) (kp 1 _ (nbz rfl) rfl L1) K2
    · exact fr_ptr (l := 0) (u := 7) rfl (by omega) (by omega) (fr_ptr (l := 0) (u := 7) rfl (by omega) (by omega) (fr_ptr (l := 0) (u := 7) rfl (by omega) (by omega) (fr_ptr (l := 0) (u := 7) rfl (by omega) (by omega) (fr_ptr (l := 0) (u := 7) rfl (by omega) (by omega) (hf)))))
    · by_cases e : k = i
      · subst e
        refine ⟨?_, ?_, ?_, ?_, ?_⟩
        · rw [gi_ne (by first | exact gxx rfl | omega), gi_ne (by first | exact gxx rfl | omega), gi_ne (by first | exact gxx rfl | omega), gi_ne (by first | exact gxx rfl | omega)]; exact gi_pt (q := (0, 8)) hh (bd_u rfl (by omega)) b1.1 b1.2
        · rw [gi_ne (by first | exact gxx rfl | omega), gi_ne (by first | exact gxx rfl | omega), gi_ne (by first | exact gxx rfl | omega)]; exact gi_pt (q := (0, 8)) k1 (bd_u rfl (by omega)) b2.1 b2.2
        · rw [gi_ne (by first | exact gxx rfl | omega), gi_ne (by first | exact gxx rfl | omega)]; exact gi_pt (q := (0, 99)) k2 (bd_u rfl (by omega)) b3.1 b3.2
        · rw [gi_ne (by first | exact gxx rfl | omega)]; exact gi_pt (q := (0, 9)) k3 (bd_u rfl (by omega)) b4.1 b4.2
        · exact gi_pt (q := (0, 9)) k4 (bd_u rfl (by omega)) b5.1 b5.2
      · have q := hc k (by omega)
        refine ⟨?_, ?_, ?_, ?_, ?_⟩
        · rw [gi_ne (by first | exact gxx rfl | omega), gi_ne (by first | exact gxx rfl | omega), gi_ne (by first | exact gxx rfl | omega), gi_ne (by first | exact gxx rfl | omega), gi_ne (fun _ => e)]; exact q.1
        · rw [gi_ne (by first | exact gxx rfl | omega), gi_ne (by first | exact gxx rfl | omega), gi_ne (by first | exact gxx rfl | omega), gi_ne (fun _ => e), gi_ne (by first | exact gxx rfl | omega)]; exact q.2.1
        · rw [gi_ne (by first | exact gxx rfl | omega), gi_ne (by first | exact gxx rfl | omega), gi_ne (fun _ => e), gi_ne (by first | exact gxx rfl | omega), gi_ne (by first | exact gxx rfl | omega)]; exact q.2.2.1
        · rw [gi_ne (by first | exact gxx rfl | omega), gi_ne (fun _ => e), gi_ne (by first | exact gxx rfl | omega), gi_ne (by first | exact gxx rfl | omega), gi_ne (by first | exact gxx rfl | omega)]; exact q.2.2.2.1
        · rw [gi_ne (fun _ => e), gi_ne (by first | exact gxx rfl | omega), gi_ne (by first | exact gxx rfl | omega), gi_ne (by first | exact gxx rfl | omega), gi_ne (by first | exact gxx rfl | omega)]; exact q.2.2.2.2
theorem tk2_34_15 {h0 : pm_H} {d : Nat} {Q : pm_H → Option Value → Prop} (hh0 : HH h0) (K : ∀ (h : pm_H) (lv : List (Nat × Value)), HH h → fr_g [(40, 0, 19), (41, 0, 19), (42, 0, 19)] h0 h → (∀ k, k < 20 → gi h 40 k = gi h0 21 k ∧ gi h 41 k = gi h0 22 k ∧ gi h 42 k = gi h0 23 k) → pm_get lv 0 = some (.ref 34) → pm_get lv 1 = some (.ref 15) → Ends (pm_at tX5_take) (pm_Rt pm_P d) (180, lv, [], h, 0, 0) Q) (j : Nat) : ∀ {h : pm_H} {i : Nat} (lv : List (Nat × Value)), i + j = 20 → HH h → fr_g [(40, 0, 19), (41, 0, 19), (42, 0, 19)] h0 h → (∀ k, k < i → gi h 40 k = gi h0 21 k ∧ gi h 41 k = gi h0 22 k ∧ gi h 42 k = gi h0 23 k) → pm_get lv 0 = some (.ref 34) → pm_get lv 1 = some (.ref 15) → pm_get lv 2 = some (.int (nJ i)) → Ends (pm_at tX5_take) (pm_Rt pm_P d) (132, lv, [], h, 0, 0) Q := by
  induction j with
  | zero =>
    intro h i lv hj hh hf hc L0 L1 L2
    refine E_il rfl L2 ?_
    refine E_ci 20 rfl ci20 ?_
    refine E_icT rfl (decide_eq_true ((nJ_le (by omega) (by omega)).mpr (by omega))) ?_
    exact K h lv hh hf (fun k hk => hc k (by omega)) L0 L1
  | succ j ih =>
    intro h i lv hj hh hf hc L0 L1 L2
    refine E_il rfl L2 ?_
    refine E_ci 20 rfl ci20 ?_
    refine E_icF rfl (decide_eq_false (fun q => absurd ((nJ_le (by omega) (by omega)).mp q) (by omega))) ?_
    refine E_al rfl L0 ?_
    refine E_ogr (q := 40) rfl hh rfl rfl ?_
    refine E_il rfl L2 ?_
    refine E_al rfl L1 ?_
    refine E_ogr (q := 21) rfl hh rfl rfl ?_
    refine E_il rfl L2 ?_
    refine E_ial (v := gi h0 21 i) rfl hh rfl (by omega) (by decide) (by rw [fr_gi hf (rg_no rfl _)]) ?_
    have b6 := (ld_gi hh0 (a := 21) (k := i) (q := (0, 7)) (bd_u rfl (by omega))).2
    refine E_ias rfl hh rfl (by omega) (by decide) ?_
    have k6 : HH (pt h 40 i (gi h0 21 i)) := HH_pt (q := (0, 7)) hh (bd_u rfl (by omega)) b6.1 b6.2
    refine E_al rfl L0 ?_
    refine E_ogr (q := 41) rfl k6 rfl rfl ?_
    refine E_il rfl L2 ?_
    refine E_al rfl L1 ?_
    refine E_ogr (q := 22) rfl k6 rfl rfl ?_
    refine E_il rfl L2 ?_
    refine E_ial (v := gi h0 22 i) rfl k6 rfl (by omega) (by decide) (by rw [gi_ne (by first | exact gxx rfl | omega), fr_gi hf (rg_no rfl _)]) ?_
    have b7 := (ld_gi hh0 (a := 22) (k := i) (q := (0, 8)) (bd_u rfl (by omega))).2
    refine E_ias rfl k6 rfl (by omega) (by decide) ?_
    have k7 : HH (pt (pt h 40 i (gi h0 21 i)) 41 i (gi h0 22 i)) := HH_pt (q := (0, 8)) k6 (bd_u rfl (by omega)) b7.1 b7.2
    refine E_al rfl L0 ?_
    refine E_ogr (q := 42) rfl k7 rfl rfl ?_
    refine E_il rfl L2 ?_
    refine E_al rfl L1 ?_
    refine E_ogr (q := 23) rfl k7 rfl rfl ?_
    refine E_il rfl L2 ?_
    refine E_zalB (v := gi h0 23 i) rfl k7 rfl (by omega) (by decide) (by rw [gi_ne (by first | exact gxx rfl | omega), gi_ne (by first | exact gxx rfl | omega), fr_gi hf (rg_no rfl _)]) ?_
    have b8 := (ld_gi hh0 (a := 23) (k := i) (q := (0, 1)) (bd_u rfl (by omega))).2
    refine E_zasB rfl k7 rfl (by omega) (by decide) (nar_z b8.1 b8.2) ?_
    have k8 : HH (pt (pt (pt h 40 i (gi h0 21 i)) 41 i (gi h0 22 i)) 42 i (gi h0 23 i)) := HH_pt (q := (0, 1)) k7 (bd_u rfl (by omega)) b8.1 b8.2
    refine E_inc rfl L2 (nJ_inc _) (fun lv1 K2 kp => ?_)
    refine E_goto rfl ?_
    refine ih lv1 (i := i + 1) (by omega) k8 ?_ (fun k hk => ?_) (kp 0 _ (nbz rfl) rfl L0) (kp 1 _ (nbz rfl) rfl L1) K2
    · exact fr_ptr (l := 0) (u := 19) rfl (by omega) (by omega) (fr_ptr (l := 0) (u := 19) rfl (by omega) (by omega) (fr_ptr (l := 0) (u := 19) rfl (by omega) (by omega) (hf)))
    · by_cases e : k = i
      · subst e
        refine ⟨?_, ?_, ?_⟩
        · rw [gi_ne (by first | exact gxx rfl | omega), gi_ne (by first | exact gxx rfl | omega)]; exact gi_pt (q := (0, 7)) hh (bd_u rfl (by omega)) b6.1 b6.2
        · rw [gi_ne (by first | exact gxx rfl | omega)]; exact gi_pt (q := (0, 8)) k6 (bd_u rfl (by omega)) b7.1 b7.2
        · exact gi_pt (q := (0, 1)) k7 (bd_u rfl (by omega)) b8.1 b8.2
      · have q := hc k (by omega)
        refine ⟨?_, ?_, ?_⟩
        · rw [gi_ne (by first | exact gxx rfl | omega), gi_ne (by first | exact gxx rfl | omega), gi_ne (fun _ => e)]; exact q.1
        · rw [gi_ne (by first | exact gxx rfl | omega), gi_ne (fun _ => e), gi_ne (by first | exact gxx rfl | omega)]; exact q.2.1
        · rw [gi_ne (fun _ => e), gi_ne (by first | exact gxx rfl | omega), gi_ne (by first | exact gxx rfl | omega)]; exact q.2.2
noncomputable def TkF_34_15 : List Rng := [(34, 0, 6), (35, 0, 7), (36, 0, 7), (37, 0, 7), (38, 0, 7), (39, 0, 7), (40, 0, 19), (41, 0, 19), (42, 0, 19)]
noncomputable def TkQ_34_15 (h h' : pm_H) (r : Option Value) : Prop := r = none ∧ HH h' ∧ fr_g TkF_34_15 h h' ∧ (∀ k, k < 7 → gi h' 34 k = gi h 15 k) ∧ (∀ k, k < 8 → gi h' 35 k = gi h 16 k ∧ gi h' 36 k = gi h 17 k ∧ gi h' 37 k = gi h 18 k ∧ gi h' 38 k = gi h 19 k ∧ gi h' 39 k = gi h 20 k) ∧ ∀ k, k < 20 → gi h' 40 k = gi h 21 k ∧ gi h' 41 k = gi h 22 k ∧ gi h' 42 k = gi h 23 k
theorem sp_take_34_15 {h : pm_H} {d : Nat} (hh : HH h) : Sp (d + 1) 54 h [.ref 34, .ref 15] (TkQ_34_15 h) := by
  refine Sp_of aiX5_take rfl rfl rfl ?_
  have L0 : pm_get (lv_args 0 [.ref 34, .ref 15]) 0 = some (.ref 34) := rfl
  have L1 : pm_get (lv_args 0 [.ref 34, .ref 15]) 1 = some (.ref 15) := rfl
  generalize lv_args 0 [.ref 34, .ref 15] = lv at L0 L1 ⊢
  have st : ∀ {k : Nat} {q : Int × Int} {g : pm_H}, k < 7 → bd 34 k = some q → bd 15 k = some q → HH g → fr_g [(34, 0, 6)] h g → (∀ i, i < k → gi g 34 i = gi h 15 i) → HH (pt g 34 k (gi h 15 k)) ∧ fr_g [(34, 0, 6)] h (pt g 34 k (gi h 15 k)) ∧ ∀ i, i < k + 1 → gi (pt g 34 k (gi h 15 k)) 34 i = gi h 15 i := by
    intro k q g hk hb hb2 hg hf ha
    have b := (ld_gi hh hb2).2
    refine ⟨HH_pt hg hb b.1 b.2, fr_ptr (l := 0) (u := 6) rfl (by omega) (by omega) hf, fun i hi => ?_⟩
    by_cases e : i = k
    · rw [e]; exact gi_pt hg hb b.1 b.2
    · rw [gi_ne (fun _ => e)]; exact ha i (by omega)
  refine E_al rfl L0 ?_
  refine E_al rfl L1 ?_
  refine E_ogf (q := (0, 8)) (v := gi h 15 0) rfl hh rfl rfl rfl ?_
  refine E_opf (q := (0, 8)) rfl hh rfl rfl ?_
  obtain ⟨a0, b0, c0⟩ := st (k := 0) (q := (0, 8)) (by decide) rfl rfl hh (fr_rf _ _) (fun i hi => absurd hi (Nat.not_lt_zero i))
  refine E_al rfl L0 ?_
  refine E_al rfl L1 ?_
  refine E_ogf (q := (0, 3)) (v := gi h 15 1) rfl a0 rfl rfl (fr_gi b0 (rg_no rfl _)) ?_
  refine E_opf (q := (0, 3)) rfl a0 rfl rfl ?_
  obtain ⟨a1, b1, c1⟩ := st (k := 1) (q := (0, 3)) (by decide) rfl rfl a0 b0 c0
  refine E_al rfl L0 ?_
  refine E_al rfl L1 ?_
  refine E_ogf (q := (0, 10)) (v := gi h 15 2) rfl a1 rfl rfl (fr_gi b1 (rg_no rfl _)) ?_
  refine E_opf (q := (0, 10)) rfl a1 rfl rfl ?_
  obtain ⟨a2, b2, c2⟩ := st (k := 2) (q := (0, 10)) (by decide) rfl rfl a1 b1 c1
  refine E_al rfl L0 ?_
  refine E_al rfl L1 ?_
  refine E_ogf (q := ((-2147483648), 2147483647)) (v := gi h 15 3) rfl a2 rfl rfl (fr_gi b2 (rg_no rfl _)) ?_
  refine E_opf (q := ((-2147483648), 2147483647)) rfl a2 rfl rfl ?_
  obtain ⟨a3, b3, c3⟩ := st (k := 3) (q := ((-2147483648), 2147483647)) (by decide) rfl rfl a2 b2 c2
  refine E_al rfl L0 ?_
  refine E_al rfl L1 ?_
  refine E_ogf (q := (0, 8)) (v := gi h 15 4) rfl a3 rfl rfl (fr_gi b3 (rg_no rfl _)) ?_
  refine E_opf (q := (0, 8)) rfl a3 rfl rfl ?_
  obtain ⟨a4, b4, c4⟩ := st (k := 4) (q := (0, 8)) (by decide) rfl rfl a3 b3 c3
  refine E_al rfl L0 ?_
  refine E_al rfl L1 ?_
  refine E_ogf (q := (0, 8)) (v := gi h 15 5) rfl a4 rfl rfl (fr_gi b4 (rg_no rfl _)) ?_
  refine E_opf (q := (0, 8)) rfl a4 rfl rfl ?_
  obtain ⟨a5, b5, c5⟩ := st (k := 5) (q := (0, 8)) (by decide) rfl rfl a4 b4 c4
  refine E_al rfl L0 ?_
  refine E_al rfl L1 ?_
  refine E_ogf (q := (0, 20)) (v := gi h 15 6) rfl a5 rfl rfl (fr_gi b5 (rg_no rfl _)) ?_
  refine E_opf (q := (0, 20)) rfl a5 rfl rfl ?_
  obtain ⟨a6, b6, c6⟩ := st (k := 6) (q := (0, 20)) (by decide) rfl rfl a5 b5 c5
  generalize (pt (pt (pt (pt (pt (pt (pt h 34 0 (gi h 15 0)) 34 1 (gi h 15 1)) 34 2 (gi h 15 2)) 34 3 (gi h 15 3)) 34 4 (gi h 15 4)) 34 5 (gi h 15 5)) 34 6 (gi h 15 6)) = h6 at a6 b6 c6 ⊢
  refine E_ci 0 rfl ci0 ?_
  refine E_is rfl (fun lv1 K2 kp => ?_)
  refine tk1_34_15 a6 (fun h7 lv2 hh7 f7 c7 M0 M1 => ?_) 8 (i := 0) lv1 (by omega) a6 (fr_rf _ _) (fun k hk => absurd hk (Nat.not_lt_zero k)) (kp 0 _ (nbz rfl) rfl L0) (kp 1 _ (nbz rfl) rfl L1) K2
  refine E_ci 0 rfl ci0 ?_
  refine E_is rfl (fun lv3 K3 kp3 => ?_)
  refine tk2_34_15 hh7 (fun h8 lv4 hh8 f8 c8 N0 N1 => ?_) 20 (i := 0) lv3 (by omega) hh7 (fr_rf _ _) (fun k hk => absurd hk (Nat.not_lt_zero k)) (kp3 0 _ (nbz rfl) rfl M0) (kp3 1 _ (nbz rfl) rfl M1) K3
  refine E_ret rfl ⟨rfl, hh8, fr_trans (fr_wk rfl b6) (fr_trans (fr_wk rfl f7) (fr_wk rfl f8)), fun k hk => ?_, fun k hk => ?_, fun k hk => ?_⟩
  · rw [fr_gi f8 (rg_no rfl _), fr_gi f7 (rg_no rfl _)]; exact c6 k hk
  · obtain ⟨q1, q2, q3, q4, q5⟩ := c7 k hk
    refine ⟨?_, ?_, ?_, ?_, ?_⟩
    · rw [fr_gi f8 (rg_no rfl _), q1, fr_gi b6 (rg_no rfl _)]
    · rw [fr_gi f8 (rg_no rfl _), q2, fr_gi b6 (rg_no rfl _)]
    · rw [fr_gi f8 (rg_no rfl _), q3, fr_gi b6 (rg_no rfl _)]
    · rw [fr_gi f8 (rg_no rfl _), q4, fr_gi b6 (rg_no rfl _)]
    · rw [fr_gi f8 (rg_no rfl _), q5, fr_gi b6 (rg_no rfl _)]
  · obtain ⟨q6, q7, q8⟩ := c8 k hk
    refine ⟨?_, ?_, ?_⟩
    · rw [q6, fr_gi f7 (rg_no rfl _), fr_gi b6 (rg_no rfl _)]
    · rw [q7, fr_gi f7 (rg_no rfl _), fr_gi b6 (rg_no rfl _)]
    · rw [q8, fr_gi f7 (rg_no rfl _), fr_gi b6 (rg_no rfl _)]
theorem tk1_43_15 {h0 : pm_H} {d : Nat} {Q : pm_H → Option Value → Prop} (hh0 : HH h0) (K : ∀ (h : pm_H) (lv : List (Nat × Value)), HH h → fr_g [(44, 0, 7), (45, 0, 7), (46, 0, 7), (47, 0, 7), (48, 0, 7)] h0 h → (∀ k, k < 8 → gi h 44 k = gi h0 16 k ∧ gi h 45 k = gi h0 17 k ∧ gi h 46 k = gi h0 18 k ∧ gi h 47 k = gi h0 19 k ∧ gi h 48 k = gi h0 20 k) → pm_get lv 0 = some (.ref 43) → pm_get lv 1 = some (.ref 15) → Ends (pm_at tX5_take) (pm_Rt pm_P d) (130, lv, [], h, 0, 0) Q) (j : Nat) : ∀ {h : pm_H} {i : Nat} (lv : List (Nat × Value)), i + j = 8 → HH h → fr_g [(44, 0, 7), (45, 0, 7), (46, 0, 7), (47, 0, 7), (48, 0, 7)] h0 h → (∀ k, k < i → gi h 44 k = gi h0 16 k ∧ gi h 45 k = gi h0 17 k ∧ gi h 46 k = gi h0 18 k ∧ gi h 47 k = gi h0 19 k ∧ gi h 48 k = gi h0 20 k) → pm_get lv 0 = some (.ref 43) → pm_get lv 1 = some (.ref 15) → pm_get lv 2 = some (.int (nJ i)) → Ends (pm_at tX5_take) (pm_Rt pm_P d) (58, lv, [], h, 0, 0) Q := by
  induction j with
  | zero =>
    intro h i lv hj hh hf hc L0 L1 L2
    refine E_il rfl L2 ?_
    refine E_ci 8 rfl ci8 ?_
    refine E_icT rfl (decide_eq_true ((nJ_le (by omega) (by omega)).mpr (by omega))) ?_
    exact K h lv hh hf (fun k hk => hc k (by omega)) L0 L1
  | succ j ih =>
    intro h i lv hj hh hf hc L0 L1 L2
    refine E_il rfl L2 ?_
    refine E_ci 8 rfl ci8 ?_
    refine E_icF rfl (decide_eq_false (fun q => absurd ((nJ_le (by omega) (by omega)).mp q) (by omega))) ?_
    refine E_al rfl L0 ?_
    refine E_ogr (q := 44) rfl hh rfl rfl ?_
    refine E_il rfl L2 ?_
    refine E_al rfl L1 ?_
    refine E_ogr (q := 16) rfl hh rfl rfl ?_
    refine E_il rfl L2 ?_
    refine E_ial (v := gi h0 16 i) rfl hh rfl (by omega) (by decide) (by rw [fr_gi hf (rg_no rfl _)]) ?_
    have b1 := (ld_gi hh0 (a := 16) (k := i) (q := (0, 8)) (bd_u rfl (by omega))).2
    refine E_ias rfl hh rfl (by omega) (by decide) ?_
    have k1 : HH (pt h 44 i (gi h0 16 i)) := HH_pt (q := (0, 8)) hh (bd_u rfl (by omega)) b1.1 b1.2
    refine E_al rfl L0 ?_
    refine E_ogr (q := 45) rfl k1 rfl rfl ?_
    refine E_il rfl L2 ?_
    refine E_al rfl L1 ?_
    refine E_ogr (q := 17) rfl k1 rfl rfl ?_
    refine E_il rfl L2 ?_
    refine E_ial (v := gi h0 17 i) rfl k1 rfl (by omega) (by decide) (by rw [gi_ne (by first | exact gxx rfl | omega), fr_gi hf (rg_no rfl _)]) ?_
    have b2 := (ld_gi hh0 (a := 17) (k := i) (q := (0, 8)) (bd_u rfl (by omega))).2
    refine E_ias rfl k1 rfl (by omega) (by decide) ?_
    have k2 : HH (pt (pt h 44 i (gi h0 16 i)) 45 i (gi h0 17 i)) := HH_pt (q := (0, 8)) k1 (bd_u rfl (by omega)) b2.1 b2.2
    refine E_al rfl L0 ?_
    refine E_ogr (q := 46) rfl k2 rfl rfl ?_
    refine E_il rfl L2 ?_
    refine E_al rfl L1 ?_
    refine E_ogr (q := 18) rfl k2 rfl rfl ?_
    refine E_il rfl L2 ?_
    refine E_ial (v := gi h0 18 i) rfl k2 rfl (by omega) (by decide) (by rw [gi_ne (by first | exact gxx rfl | omega), gi_ne (by first | exact gxx rfl | omega), fr_gi hf (rg_no rfl _)]) ?_
    have b3 := (ld_gi hh0 (a := 18) (k := i) (q := (0, 99)) (bd_u rfl (by omega))).2
    refine E_ias rfl k2 rfl (by omega) (by decide) ?_
    have k3 : HH (pt (pt (pt h 44 i (gi h0 16 i)) 45 i (gi h0 17 i)) 46 i (gi h0 18 i)) := HH_pt (q := (0, 99)) k2 (bd_u rfl (by omega)) b3.1 b3.2
    refine E_al rfl L0 ?_
    refine E_ogr (q := 47) rfl k3 rfl rfl ?_
    refine E_il rfl L2 ?_
    refine E_al rfl L1 ?_
    refine E_ogr (q := 19) rfl k3 rfl rfl ?_
    refine E_il rfl L2 ?_
    refine E_ial (v := gi h0 19 i) rfl k3 rfl (by omega) (by decide) (by rw [gi_ne (by first | exact gxx rfl | omega), gi_ne (by first | exact gxx rfl | omega), gi_ne (by first | exact gxx rfl | omega), fr_gi hf (rg_no rfl _)]) ?_
    have b4 := (ld_gi hh0 (a := 19) (k := i) (q := (0, 9)) (bd_u rfl (by omega))).2
    refine E_ias rfl k3 rfl (by omega) (by decide) ?_
    have k4 : HH (pt (pt (pt (pt h 44 i (gi h0 16 i)) 45 i (gi h0 17 i)) 46 i (gi h0 18 i)) 47 i (gi h0 19 i)) := HH_pt (q := (0, 9)) k3 (bd_u rfl (by omega)) b4.1 b4.2
    refine E_al rfl L0 ?_
    refine E_ogr (q := 48) rfl k4 rfl rfl ?_
    refine E_il rfl L2 ?_
    refine E_al rfl L1 ?_
    refine E_ogr (q := 20) rfl k4 rfl rfl ?_
    refine E_il rfl L2 ?_
    refine E_ial (v := gi h0 20 i) rfl k4 rfl (by omega) (by decide) (by rw [gi_ne (by first | exact gxx rfl | omega), gi_ne (by first | exact gxx rfl | omega), gi_ne (by first | exact gxx rfl | omega), gi_ne (by first | exact gxx rfl | omega), fr_gi hf (rg_no rfl _)]) ?_
    have b5 := (ld_gi hh0 (a := 20) (k := i) (q := (0, 9)) (bd_u rfl (by omega))).2
    refine E_ias rfl k4 rfl (by omega) (by decide) ?_
    have k5 : HH (pt (pt (pt (pt (pt h 44 i (gi h0 16 i)) 45 i (gi h0 17 i)) 46 i (gi h0 18 i)) 47 i (gi h0 19 i)) 48 i (gi h0 20 i)) := HH_pt (q := (0, 9)) k4 (bd_u rfl (by omega)) b5.1 b5.2
    refine E_inc rfl L2 (nJ_inc _) (fun lv1 K2 kp => ?_)
    refine E_goto rfl ?_
    refine ih lv1 (i := i + 1) (by omega) k5 ?_ (fun k hk => ?_) (kp 0 _ (nbz rfl) rfl L0) (kp 1 _ (nbz rfl) rfl L1) K2
    · exact fr_ptr (l := 0) (u := 7) rfl (by omega) (by omega) (fr_ptr (l := 0) (u := 7) rfl (by omega) (by omega) (fr_ptr (l := 0) (u := 7) rfl (by omega) (by omega) (fr_ptr (l := 0) (u := 7) rfl (by omega) (by omega) (fr_ptr (l := 0) (u := 7) rfl (by omega) (by omega) (hf)))))
    · by_cases e : k = i
      · subst e
        refine ⟨?_, ?_, ?_, ?_, ?_⟩
        · rw [gi_ne (by first | exact gxx rfl | omega), gi_ne (by first | exact gxx rfl | omega), gi_ne (by first | exact gxx rfl | omega), gi_ne (by first | exact gxx rfl | omega)]; exact gi_pt (q := (0, 8)) hh (bd_u rfl (by omega)) b1.1 b1.2
        · rw [gi_ne (by first | exact gxx rfl | omega), gi_ne (by first | exact gxx rfl | omega), gi_ne (by first | exact gxx rfl | omega)]; exact gi_pt (q := (0, 8)) k1 (bd_u rfl (by omega)) b2.1 b2.2
        · rw [gi_ne (by first | exact gxx rfl | omega), gi_ne (by first | exact gxx rfl | omega)]; exact gi_pt (q := (0, 99)) k2 (bd_u rfl (by omega)) b3.1 b3.2
        · rw [gi_ne (by first | exact gxx rfl | omega)]; exact gi_pt (q := (0, 9)) k3 (bd_u rfl (by omega)) b4.1 b4.2
        · exact gi_pt (q := (0, 9)) k4 (bd_u rfl (by omega)) b5.1 b5.2
      · have q := hc k (by omega)
        refine ⟨?_, ?_, ?_, ?_, ?_⟩
        · rw [gi_ne (by first | exact gxx rfl | omega), gi_ne (by first | exact gxx rfl | omega), gi_ne (by first | exact gxx rfl | omega), gi_ne (by first | exact gxx rfl | omega), gi_ne (fun _ => e)]; exact q.1
        · rw [gi_ne (by first | exact gxx rfl | omega), gi_ne (by first | exact gxx rfl | omega), gi_ne (by first | exact gxx rfl | omega), gi_ne (fun _ => e), gi_ne (by first | exact gxx rfl | omega)]; exact q.2.1
        · rw [gi_ne (by first | exact gxx rfl | omega), gi_ne (by first | exact gxx rfl | omega), gi_ne (fun _ => e), gi_ne (by first | exact gxx rfl | omega), gi_ne (by first | exact gxx rfl | omega)]; exact q.2.2.1
        · rw [gi_ne (by first | exact gxx rfl | omega), gi_ne (fun _ => e), gi_ne (by first | exact gxx rfl | omega), gi_ne (by first | exact gxx rfl | omega), gi_ne (by first | exact gxx rfl | omega)]; exact q.2.2.2.1
        · rw [gi_ne (fun _ => e), gi_ne (by first | exact gxx rfl | omega), gi_ne (by first | exact gxx rfl | omega), gi_ne (by first | exact gxx rfl | omega), gi_ne (by first | exact gxx rfl | omega)]; exact q.2.2.2.2
theorem tk2_43_15 {h0 : pm_H} {d : Nat} {Q : pm_H → Option Value → Prop} (hh0 : HH h0) (K : ∀ (h : pm_H) (lv : List (Nat × Value)), HH h → fr_g [(49, 0, 19), (50, 0, 19), (51, 0, 19)] h0 h → (∀ k, k < 20 → gi h 49 k = gi h0 21 k ∧ gi h 50 k = gi h0 22 k ∧ gi h 51 k = gi h0 23 k) → pm_get lv 0 = some (.ref 43) → pm_get lv 1 = some (.ref 15) → Ends (pm_at tX5_take) (pm_Rt pm_P d) (180, lv, [], h, 0, 0) Q) (j : Nat) : ∀ {h : pm_H} {i : Nat} (lv : List (Nat × Value)), i + j = 20 → HH h → fr_g [(49, 0, 19), (50, 0, 19), (51, 0, 19)] h0 h → (∀ k, k < i → gi h 49 k = gi h0 21 k ∧ gi h 50 k = gi h0 22 k ∧ gi h 51 k = gi h0 23 k) → pm_get lv 0 = some (.ref 43) → pm_get lv 1 = some (.ref 15) → pm_get lv 2 = some (.int (nJ i)) → Ends (pm_at tX5_take) (pm_Rt pm_P d) (132, lv, [], h, 0, 0) Q := by
  induction j with
  | zero =>
    intro h i lv hj hh hf hc L0 L1 L2
    refine E_il rfl L2 ?_
    refine E_ci 20 rfl ci20 ?_
    refine E_icT rfl (decide_eq_true ((nJ_le (by omega) (by omega)).mpr (by omega))) ?_
    exact K h lv hh hf (fun k hk => hc k (by omega)) L0 L1
  | succ j ih =>
    intro h i lv hj hh hf hc L0 L1 L2
    refine E_il rfl L2 ?_
    refine E_ci 20 rfl ci20 ?_
    refine E_icF rfl (decide_eq_false (fun q => absurd ((nJ_le (by omega) (by omega)).mp q) (by omega))) ?_
    refine E_al rfl L0 ?_
    refine E_ogr (q := 49) rfl hh rfl rfl ?_
    refine E_il rfl L2 ?_
    refine E_al rfl L1 ?_
    refine E_ogr (q := 21) rfl hh rfl rfl ?_
    refine E_il rfl L2 ?_
    refine E_ial (v := gi h0 21 i) rfl hh rfl (by omega) (by decide) (by rw [fr_gi hf (rg_no rfl _)]) ?_
    have b6 := (ld_gi hh0 (a := 21) (k := i) (q := (0, 7)) (bd_u rfl (by omega))).2
    refine E_ias rfl hh rfl (by omega) (by decide) ?_
    have k6 : HH (pt h 49 i (gi h0 21 i)) := HH_pt (q := (0, 7)) hh (bd_u rfl (by omega)) b6.1 b6.2
    refine E_al rfl L0 ?_
    refine E_ogr (q := 50) rfl k6 rfl rfl ?_
    refine E_il rfl L2 ?_
    refine E_al rfl L1 ?_
    refine E_ogr (q := 22) rfl k6 rfl rfl ?_
    refine E_il rfl L2 ?_
    refine E_ial (v := gi h0 22 i) rfl k6 rfl (by omega) (by decide) (by rw [gi_ne (by first | exact gxx rfl | omega), fr_gi hf (rg_no rfl _)]) ?_
    have b7 := (ld_gi hh0 (a := 22) (k := i) (q := (0, 8)) (bd_u rfl (by omega))).2
    refine E_ias rfl k6 rfl (by omega) (by decide) ?_
    have k7 : HH (pt (pt h 49 i (gi h0 21 i)) 50 i (gi h0 22 i)) := HH_pt (q := (0, 8)) k6 (bd_u rfl (by omega)) b7.1 b7.2
    refine E_al rfl L0 ?_
    refine E_ogr (q := 51) rfl k7 rfl rfl ?_
    refine E_il rfl L2 ?_
    refine E_al rfl L1 ?_
    refine E_ogr (q := 23) rfl k7 rfl rfl ?_
    refine E_il rfl L2 ?_
    refine E_zalB (v := gi h0 23 i) rfl k7 rfl (by omega) (by decide) (by rw [gi_ne (by first | exact gxx rfl | omega), gi_ne (by first | exact gxx rfl | omega), fr_gi hf (rg_no rfl _)]) ?_
    have b8 := (ld_gi hh0 (a := 23) (k := i) (q := (0, 1)) (bd_u rfl (by omega))).2
    refine E_zasB rfl k7 rfl (by omega) (by decide) (nar_z b8.1 b8.2) ?_
    have k8 : HH (pt (pt (pt h 49 i (gi h0 21 i)) 50 i (gi h0 22 i)) 51 i (gi h0 23 i)) := HH_pt (q := (0, 1)) k7 (bd_u rfl (by omega)) b8.1 b8.2
    refine E_inc rfl L2 (nJ_inc _) (fun lv1 K2 kp => ?_)
    refine E_goto rfl ?_
    refine ih lv1 (i := i + 1) (by omega) k8 ?_ (fun k hk => ?_) (kp 0 _ (nbz rfl) rfl L0) (kp 1 _ (nbz rfl) rfl L1) K2
    · exact fr_ptr (l := 0) (u := 19) rfl (by omega) (by omega) (fr_ptr (l := 0) (u := 19) rfl (by omega) (by omega) (fr_ptr (l := 0) (u := 19) rfl (by omega) (by omega) (hf)))
    · by_cases e : k = i
      · subst e
        refine ⟨?_, ?_, ?_⟩
        · rw [gi_ne (by first | exact gxx rfl | omega), gi_ne (by first | exact gxx rfl | omega)]; exact gi_pt (q := (0, 7)) hh (bd_u rfl (by omega)) b6.1 b6.2
        · rw [gi_ne (by first | exact gxx rfl | omega)]; exact gi_pt (q := (0, 8)) k6 (bd_u rfl (by omega)) b7.1 b7.2
        · exact gi_pt (q := (0, 1)) k7 (bd_u rfl (by omega)) b8.1 b8.2
      · have q := hc k (by omega)
        refine ⟨?_, ?_, ?_⟩
        · rw [gi_ne (by first | exact gxx rfl | omega), gi_ne (by first | exact gxx rfl | omega), gi_ne (fun _ => e)]; exact q.1
        · rw [gi_ne (by first | exact gxx rfl | omega), gi_ne (fun _ => e), gi_ne (by first | exact gxx rfl | omega)]; exact q.2.1
        · rw [gi_ne (fun _ => e), gi_ne (by first | exact gxx rfl | omega), gi_ne (by first | exact gxx rfl | omega)]; exact q.2.2
noncomputable def TkF_43_15 : List Rng := [(43, 0, 6), (44, 0, 7), (45, 0, 7), (46, 0, 7), (47, 0, 7), (48, 0, 7), (49, 0, 19), (50, 0, 19), (51, 0, 19)]
noncomputable def TkQ_43_15 (h h' : pm_H) (r : Option Value) : Prop := r = none ∧ HH h' ∧ fr_g TkF_43_15 h h' ∧ (∀ k, k < 7 → gi h' 43 k = gi h 15 k) ∧ (∀ k, k < 8 → gi h' 44 k = gi h 16 k ∧ gi h' 45 k = gi h 17 k ∧ gi h' 46 k = gi h 18 k ∧ gi h' 47 k = gi h 19 k ∧ gi h' 48 k = gi h 20 k) ∧ ∀ k, k < 20 → gi h' 49 k = gi h 21 k ∧ gi h' 50 k = gi h 22 k ∧ gi h' 51 k = gi h 23 k
theorem sp_take_43_15 {h : pm_H} {d : Nat} (hh : HH h) : Sp (d + 1) 54 h [.ref 43, .ref 15] (TkQ_43_15 h) := by
  refine Sp_of aiX5_take rfl rfl rfl ?_
  have L0 : pm_get (lv_args 0 [.ref 43, .ref 15]) 0 = some (.ref 43) := rfl
  have L1 : pm_get (lv_args 0 [.ref 43, .ref 15]) 1 = some (.ref 15) := rfl
  generalize lv_args 0 [.ref 43, .ref 15] = lv at L0 L1 ⊢
  have st : ∀ {k : Nat} {q : Int × Int} {g : pm_H}, k < 7 → bd 43 k = some q → bd 15 k = some q → HH g → fr_g [(43, 0, 6)] h g → (∀ i, i < k → gi g 43 i = gi h 15 i) → HH (pt g 43 k (gi h 15 k)) ∧ fr_g [(43, 0, 6)] h (pt g 43 k (gi h 15 k)) ∧ ∀ i, i < k + 1 → gi (pt g 43 k (gi h 15 k)) 43 i = gi h 15 i := by
    intro k q g hk hb hb2 hg hf ha
    have b := (ld_gi hh hb2).2
    refine ⟨HH_pt hg hb b.1 b.2, fr_ptr (l := 0) (u := 6) rfl (by omega) (by omega) hf, fun i hi => ?_⟩
    by_cases e : i = k
    · rw [e]; exact gi_pt hg hb b.1 b.2
    · rw [gi_ne (fun _ => e)]; exact ha i (by omega)
  refine E_al rfl L0 ?_
  refine E_al rfl L1 ?_
  refine E_ogf (q := (0, 8)) (v := gi h 15 0) rfl hh rfl rfl rfl ?_
  refine E_opf (q := (0, 8)) rfl hh rfl rfl ?_
  obtain ⟨a0, b0, c0⟩ := st (k := 0) (q := (0, 8)) (by decide) rfl rfl hh (fr_rf _ _) (fun i hi => absurd hi (Nat.not_lt_zero i))
  refine E_al rfl L0 ?_
  refine E_al rfl L1 ?_
  refine E_ogf (q := (0, 3)) (v := gi h 15 1) rfl a0 rfl rfl (fr_gi b0 (rg_no rfl _)) ?_
  refine E_opf (q := (0, 3)) rfl a0 rfl rfl ?_
  obtain ⟨a1, b1, c1⟩ := st (k := 1) (q := (0, 3)) (by decide) rfl rfl a0 b0 c0
  refine E_al rfl L0 ?_
  refine E_al rfl L1 ?_
  refine E_ogf (q := (0, 10)) (v := gi h 15 2) rfl a1 rfl rfl (fr_gi b1 (rg_no rfl _)) ?_
  refine E_opf (q := (0, 10)) rfl a1 rfl rfl ?_
  obtain ⟨a2, b2, c2⟩ := st (k := 2) (q := (0, 10)) (by decide) rfl rfl a1 b1 c1
  refine E_al rfl L0 ?_
  refine E_al rfl L1 ?_
  refine E_ogf (q := ((-2147483648), 2147483647)) (v := gi h 15 3) rfl a2 rfl rfl (fr_gi b2 (rg_no rfl _)) ?_
  refine E_opf (q := ((-2147483648), 2147483647)) rfl a2 rfl rfl ?_
  obtain ⟨a3, b3, c3⟩ := st (k := 3) (q := ((-2147483648), 2147483647)) (by decide) rfl rfl a2 b2 c2
  refine E_al rfl L0 ?_
  refine E_al rfl L1 ?_
  refine E_ogf (q := (0, 8)) (v := gi h 15 4) rfl a3 rfl rfl (fr_gi b3 (rg_no rfl _)) ?_
  refine E_opf (q := (0, 8)) rfl a3 rfl rfl ?_
  obtain ⟨a4, b4, c4⟩ := st (k := 4) (q := (0, 8)) (by decide) rfl rfl a3 b3 c3
  refine E_al rfl L0 ?_
  refine E_al rfl L1 ?_
  refine E_ogf (q := (0, 8)) (v := gi h 15 5) rfl a4 rfl rfl (fr_gi b4 (rg_no rfl _)) ?_
  refine E_opf (q := (0, 8)) rfl a4 rfl rfl ?_
  obtain ⟨a5, b5, c5⟩ := st (k := 5) (q := (0, 8)) (by decide) rfl rfl a4 b4 c4
  refine E_al rfl L0 ?_
  refine E_al rfl L1 ?_
  refine E_ogf (q := (0, 20)) (v := gi h 15 6) rfl a5 rfl rfl (fr_gi b5 (rg_no rfl _)) ?_
  refine E_opf (q := (0, 20)) rfl a5 rfl rfl ?_
  obtain ⟨a6, b6, c6⟩ := st (k := 6) (q := (0, 20)) (by decide) rfl rfl a5 b5 c5
  generalize (pt (pt (pt (pt (pt (pt (pt h 43 0 (gi h 15 0)) 43 1 (gi h 15 1)) 43 2 (gi h 15 2)) 43 3 (gi h 15 3)) 43 4 (gi h 15 4)) 43 5 (gi h 15 5)) 43 6 (gi h 15 6)) = h6 at a6 b6 c6 ⊢
  refine E_ci 0 rfl ci0 ?_
  refine E_is rfl (fun lv1 K2 kp => ?_)
  refine tk1_43_15 a6 (fun h7 lv2 hh7 f7 c7 M0 M1 => ?_) 8 (i := 0) lv1 (by omega) a6 (fr_rf _ _) (fun k hk => absurd hk (Nat.not_lt_zero k)) (kp 0 _ (nbz rfl) rfl L0) (kp 1 _ (nbz rfl) rfl L1) K2
  refine E_ci 0 rfl ci0 ?_
  refine E_is rfl (fun lv3 K3 kp3 => ?_)
  refine tk2_43_15 hh7 (fun h8 lv4 hh8 f8 c8 N0 N1 => ?_) 20 (i := 0) lv3 (by omega) hh7 (fr_rf _ _) (fun k hk => absurd hk (Nat.not_lt_zero k)) (kp3 0 _ (nbz rfl) rfl M0) (kp3 1 _ (nbz rfl) rfl M1) K3
  refine E_ret rfl ⟨rfl, hh8, fr_trans (fr_wk rfl b6) (fr_trans (fr_wk rfl f7) (fr_wk rfl f8)), fun k hk => ?_, fun k hk => ?_, fun k hk => ?_⟩
  · rw [fr_gi f8 (rg_no rfl _), fr_gi f7 (rg_no rfl _)]; exact c6 k hk
  · obtain ⟨q1, q2, q3, q4, q5⟩ := c7 k hk
    refine ⟨?_, ?_, ?_, ?_, ?_⟩
    · rw [fr_gi f8 (rg_no rfl _), q1, fr_gi b6 (rg_no rfl _)]
    · rw [fr_gi f8 (rg_no rfl _), q2, fr_gi b6 (rg_no rfl _)]
    · rw [fr_gi f8 (rg_no rfl _), q3, fr_gi b6 (rg_no rfl _)]
    · rw [fr_gi f8 (rg_no rfl _), q4, fr_gi b6 (rg_no rfl _)]
    · rw [fr_gi f8 (rg_no rfl _), q5, fr_gi b6 (rg_no rfl _)]
  · obtain ⟨q6, q7, q8⟩ := c8 k hk
    refine ⟨?_, ?_, ?_⟩
    · rw [q6, fr_gi f7 (rg_no rfl _), fr_gi b6 (rg_no rfl _)]
    · rw [q7, fr_gi f7 (rg_no rfl _), fr_gi b6 (rg_no rfl _)]
    · rw [q8, fr_gi f7 (rg_no rfl _), fr_gi b6 (rg_no rfl _)]
theorem tk1_15_25 {h0 : pm_H} {d : Nat} {Q : pm_H → Option Value → Prop} (hh0 : HH h0) (K : ∀ (h : pm_H) (lv : List (Nat × Value)), HH h → fr_g [(16, 0, 7), (17, 0, 7), (18, 0, 7), (19, 0, 7), (20, 0, 7)] h0 h → (∀ k, k < 8 → gi h 16 k = gi h0 26 k ∧ gi h 17 k = gi h0 27 k ∧ gi h 18 k = gi h0 28 k ∧ gi h 19 k = gi h0 29 k ∧ gi h 20 k = gi h0 30 k) → pm_get lv 0 = some (.ref 15) → pm_get lv 1 = some (.ref 25) → Ends (pm_at tX5_take) (pm_Rt pm_P d) (130, lv, [], h, 0, 0) Q) (j : Nat) : ∀ {h : pm_H} {i : Nat} (lv : List (Nat × Value)), i + j = 8 → HH h → fr_g [(16, 0, 7), (17, 0, 7), (18, 0, 7), (19, 0, 7), (20, 0, 7)] h0 h → (∀ k, k < i → gi h 16 k = gi h0 26 k ∧ gi h 17 k = gi h0 27 k ∧ gi h 18 k = gi h0 28 k ∧ gi h 19 k = gi h0 29 k ∧ gi h 20 k = gi h0 30 k) → pm_get lv 0 = some (.ref 15) → pm_get lv 1 = some (.ref 25) → pm_get lv 2 = some (.int (nJ i)) → Ends (pm_at tX5_take) (pm_Rt pm_P d) (58, lv, [], h, 0, 0) Q := by
  induction j with
  | zero =>
    intro h i lv hj hh hf hc L0 L1 L2
    refine E_il rfl L2 ?_
    refine E_ci 8 rfl ci8 ?_
    refine E_icT rfl (decide_eq_true ((nJ_le (by omega) (by omega)).mpr (by omega))) ?_
    exact K h lv hh hf (fun k hk => hc k (by omega)) L0 L1
  | succ j ih =>
    intro h i lv hj hh hf hc L0 L1 L2
    refine E_il rfl L2 ?_
    refine E_ci 8 rfl ci8 ?_
    refine E_icF rfl (decide_eq_false (fun q => absurd ((nJ_le (by omega) (by omega)).mp q) (by omega))) ?_
    refine E_al rfl L0 ?_
    refine E_ogr (q := 16) rfl hh rfl rfl ?_
    refine E_il rfl L2 ?_
    refine E_al rfl L1 ?_
    refine E_ogr (q := 26) rfl hh rfl rfl ?_
    refine E_il rfl L2 ?_
    refine E_ial (v := gi h0 26 i) rfl hh rfl (by omega) (by decide) (by rw [fr_gi hf (rg_no rfl _)]) ?_
    have b1 := (ld_gi hh0 (a := 26) (k := i) (q := (0, 8)) (bd_u rfl (by omega))).2
    refine E_ias rfl hh rfl (by omega) (by decide) ?_
    have k1 : HH (pt h 16 i (gi h0 26 i)) := HH_pt (q := (0, 8)) hh (bd_u rfl (by omega)) b1.1 b1.2
    refine E_al rfl L0 ?_
    refine E_ogr (q := 17) rfl k1 rfl rfl ?_
    refine E_il rfl L2 ?_
    refine E_al rfl L1 ?_
    refine E_ogr (q := 27) rfl k1 rfl rfl ?_
    refine E_il rfl L2 ?_
    refine E_ial (v := gi h0 27 i) rfl k1 rfl (by omega) (by decide) (by rw [gi_ne (by first | exact gxx rfl | omega), fr_gi hf (rg_no rfl _)]) ?_
    have b2 := (ld_gi hh0 (a := 27) (k := i) (q := (0, 8)) (bd_u rfl (by omega))).2
    refine E_ias rfl k1 rfl (by omega) (by decide) ?_
    have k2 : HH (pt (pt h 16 i (gi h0 26 i)) 17 i (gi h0 27 i)) := HH_pt (q := (0, 8)) k1 (bd_u rfl (by omega)) b2.1 b2.2
    refine E_al rfl L0 ?_
    refine E_ogr (q := 18) rfl k2 rfl rfl ?_
    refine E_il rfl L2 ?_
    refine E_al rfl L1 ?_
    refine E_ogr (q := 28) rfl k2 rfl rfl ?_
    refine E_il rfl L2 ?_
    refine E_ial (v := gi h0 28 i) rfl k2 rfl (by omega) (by decide) (by rw [gi_ne (by first | exact gxx rfl | omega), gi_ne (by first | exact gxx rfl | omega), fr_gi hf (rg_no rfl _)]) ?_
    have b3 := (ld_gi hh0 (a := 28) (k := i) (q := (0, 99)) (bd_u rfl (by omega))).2
    refine E_ias rfl k2 rfl (by omega) (by decide) ?_
    have k3 : HH (pt (pt (pt h 16 i (gi h0 26 i)) 17 i (gi h0 27 i)) 18 i (gi h0 28 i)) := HH_pt (q := (0, 99)) k2 (bd_u rfl (by omega)) b3.1 b3.2
    refine E_al rfl L0 ?_
    refine E_ogr (q := 19) rfl k3 rfl rfl ?_
    refine E_il rfl L2 ?_
    refine E_al rfl L1 ?_
    refine E_ogr (q := 29) rfl k3 rfl rfl ?_
    refine E_il rfl L2 ?_
    refine E_ial (v := gi h0 29 i) rfl k3 rfl (by omega) (by decide) (by rw [gi_ne (by first | exact gxx rfl | omega), gi_ne (by first | exact gxx rfl | omega), gi_ne (by first | exact gxx rfl | omega), fr_gi hf (rg_no rfl _)]) ?_
    have b4 := (ld_gi hh0 (a := 29) (k := i) (q := (0, 9)) (bd_u rfl (by omega))).2
    refine E_ias rfl k3 rfl (by omega) (by decide) ?_
    have k4 : HH (pt (pt (pt (pt h 16 i (gi h0 26 i)) 17 i (gi h0 27 i)) 18 i (gi h0 28 i)) 19 i (gi h0 29 i)) := HH_pt (q := (0, 9)) k3 (bd_u rfl (by omega)) b4.1 b4.2
    refine E_al rfl L0 ?_
    refine E_ogr (q := 20) rfl k4 rfl rfl ?_
    refine E_il rfl L2 ?_
    refine E_al rfl L1 ?_
    refine E_ogr (q := 30) rfl k4 rfl rfl ?_
    refine E_il rfl L2 ?_
    refine E_ial (v := gi h0 30 i) rfl k4 rfl (by omega) (by decide) (by rw [gi_ne (by first | exact gxx rfl | omega), gi_ne (by first | exact gxx rfl | omega), gi_ne (by first | exact gxx rfl | omega), gi_ne (by first | exact gxx rfl | omega), fr_gi hf (rg_no rfl _)]) ?_
    have b5 := (ld_gi hh0 (a := 30) (k := i) (q := (0, 9)) (bd_u rfl (by omega))).2
    refine E_ias rfl k4 rfl (by omega) (by decide) ?_
    have k5 : HH (pt (pt (pt (pt (pt h 16 i (gi h0 26 i)) 17 i (gi h0 27 i)) 18 i (gi h0 28 i)) 19 i (gi h0 29 i)) 20 i (gi h0 30 i)) := HH_pt (q := (0, 9)) k4 (bd_u rfl (by omega)) b5.1 b5.2
    refine E_inc rfl L2 (nJ_inc _) (fun lv1 K2 kp => ?_)
    refine E_goto rfl ?_
    refine ih lv1 (i := i + 1) (by omega) k5 ?_ (fun k hk => ?_) (kp 0 _ (nbz rfl) rfl L0) (kp 1 _ (nbz rfl) rfl L1) K2
    · exact fr_ptr (l := 0) (u := 7) rfl (by omega) (by omega) (fr_ptr (l := 0) (u := 7) rfl (by omega) (by omega) (fr_ptr (l := 0) (u := 7) rfl (by omega) (by omega) (fr_ptr (l := 0) (u := 7) rfl (by omega) (by omega) (fr_ptr (l := 0) (u := 7) rfl (by omega) (by omega) (hf)))))
    · by_cases e : k = i
      · subst e
        refine ⟨?_, ?_, ?_, ?_, ?_⟩
        · rw [gi_ne (by first | exact gxx rfl | omega), gi_ne (by first | exact gxx rfl | omega), gi_ne (by first | exact gxx rfl | omega), gi_ne (by first | exact gxx rfl | omega)]; exact gi_pt (q := (0, 8)) hh (bd_u rfl (by omega)) b1.1 b1.2
        · rw [gi_ne (by first | exact gxx rfl | omega), gi_ne (by first | exact gxx rfl | omega), gi_ne (by first | exact gxx rfl | omega)]; exact gi_pt (q := (0, 8)) k1 (bd_u rfl (by omega)) b2.1 b2.2
        · rw [gi_ne (by first | exact gxx rfl | omega), gi_ne (by first | exact gxx rfl | omega)]; exact gi_pt (q := (0, 99)) k2 (bd_u rfl (by omega)) b3.1 b3.2
        · rw [gi_ne (by first | exact gxx rfl | omega)]; exact gi_pt (q := (0, 9)) k3 (bd_u rfl (by omega)) b4.1 b4.2
        · exact gi_pt (q := (0, 9)) k4 (bd_u rfl (by omega)) b5.1 b5.2
      · have q := hc k (by omega)
        refine ⟨?_, ?_, ?_, ?_, ?_⟩
        · rw [gi_ne (by first | exact gxx rfl | omega), gi_ne (by first | exact gxx rfl | omega), gi_ne (by first | exact gxx rfl | omega), gi_ne (by first | exact gxx rfl | omega), gi_ne (fun _ => e)]; exact q.1
        · rw [gi_ne (by first | exact gxx rfl | omega), gi_ne (by first | exact gxx rfl | omega), gi_ne (by first | exact gxx rfl | omega), gi_ne (fun _ => e), gi_ne (by first | exact gxx rfl | omega)]; exact q.2.1
        · rw [gi_ne (by first | exact gxx rfl | omega), gi_ne (by first | exact gxx rfl | omega), gi_ne (fun _ => e), gi_ne (by first | exact gxx rfl | omega), gi_ne (by first | exact gxx rfl | omega)]; exact q.2.2.1
        · rw [gi_ne (by first | exact gxx rfl | omega), gi_ne (fun _ => e), gi_ne (by first | exact gxx rfl | omega), gi_ne (by first | exact gxx rfl | omega), gi_ne (by first | exact gxx rfl | omega)]; exact q.2.2.2.1
        · rw [gi_ne (fun _ => e), gi_ne (by first | exact gxx rfl | omega), gi_ne (by first | exact gxx rfl | omega), gi_ne (by first | exact gxx rfl | omega), gi_ne (by first | exact gxx rfl | omega)]; exact q.2.2.2.2
theorem tk2_15_25 {h0 : pm_H} {d : Nat} {Q : pm_H → Option Value → Prop} (hh0 : HH h0) (K : ∀ (h : pm_H) (lv : List (Nat × Value)), HH h → fr_g [(21, 0, 19), (22, 0, 19), (23, 0, 19)] h0 h → (∀ k, k < 20 → gi h 21 k = gi h0 31 k ∧ gi h 22 k = gi h0 32 k ∧ gi h 23 k = gi h0 33 k) → pm_get lv 0 = some (.ref 15) → pm_get lv 1 = some (.ref 25) → Ends (pm_at tX5_take) (pm_Rt pm_P d) (180, lv, [], h, 0, 0) Q) (j : Nat) : ∀ {h : pm_H} {i : Nat} (lv : List (Nat × Value)), i + j = 20 → HH h → fr_g [(21, 0, 19), (22, 0, 19), (23, 0, 19)] h0 h → (∀ k, k < i → gi h 21 k = gi h0 31 k ∧ gi h 22 k = gi h0 32 k ∧ gi h 23 k = gi h0 33 k) → pm_get lv 0 = some (.ref 15) → pm_get lv 1 = some (.ref 25) → pm_get lv 2 = some (.int (nJ i)) → Ends (pm_at tX5_take) (pm_Rt pm_P d) (132, lv, [], h, 0, 0) Q := by
  induction j with
  | zero =>
    intro h i lv hj hh hf hc L0 L1 L2
    refine E_il rfl L2 ?_
    refine E_ci 20 rfl ci20 ?_
    refine E_icT rfl (decide_eq_true ((nJ_le (by omega) (by omega)).mpr (by omega))) ?_
    exact K h lv hh hf (fun k hk => hc k (by omega)) L0 L1
  | succ j ih =>
    intro h i lv hj hh hf hc L0 L1 L2
    refine E_il rfl L2 ?_
    refine E_ci 20 rfl ci20 ?_
    refine E_icF rfl (decide_eq_false (fun q => absurd ((nJ_le (by omega) (by omega)).mp q) (by omega))) ?_
    refine E_al rfl L0 ?_
    refine E_ogr (q := 21) rfl hh rfl rfl ?_
    refine E_il rfl L2 ?_
    refine E_al rfl L1 ?_
    refine E_ogr (q := 31) rfl hh rfl rfl ?_
    refine E_il rfl L2 ?_
    refine E_ial (v := gi h0 31 i) rfl hh rfl (by omega) (by decide) (by rw [fr_gi hf (rg_no rfl _)]) ?_
    have b6 := (ld_gi hh0 (a := 31) (k := i) (q := (0, 7)) (bd_u rfl (by omega))).2
    refine E_ias rfl hh rfl (by omega) (by decide) ?_
    have k6 : HH (pt h 21 i (gi h0 31 i)) := HH_pt (q := (0, 7)) hh (bd_u rfl (by omega)) b6.1 b6.2
    refine E_al rfl L0 ?_
    refine E_ogr (q := 22) rfl k6 rfl rfl ?_
    refine E_il rfl L2 ?_
    refine E_al rfl L1 ?_
    refine E_ogr (q := 32) rfl k6 rfl rfl ?_
    refine E_il rfl L2 ?_
    refine E_ial (v := gi h0 32 i) rfl k6 rfl (by omega) (by decide) (by rw [gi_ne (by first | exact gxx rfl | omega), fr_gi hf (rg_no rfl _)]) ?_
    have b7 := (ld_gi hh0 (a := 32) (k := i) (q := (0, 8)) (bd_u rfl (by omega))).2
    refine E_ias rfl k6 rfl (by omega) (by decide) ?_
    have k7 : HH (pt (pt h 21 i (gi h0 31 i)) 22 i (gi h0 32 i)) := HH_pt (q := (0, 8)) k6 (bd_u rfl (by omega)) b7.1 b7.2
    refine E_al rfl L0 ?_
    refine E_ogr (q := 23) rfl k7 rfl rfl ?_
    refine E_il rfl L2 ?_
    refine E_al rfl L1 ?_
    refine E_ogr (q := 33) rfl k7 rfl rfl ?_
    refine E_il rfl L2 ?_
    refine E_zalB (v := gi h0 33 i) rfl k7 rfl (by omega) (by decide) (by rw [gi_ne (by first | exact gxx rfl | omega), gi_ne (by first | exact gxx rfl | omega), fr_gi hf (rg_no rfl _)]) ?_
    have b8 := (ld_gi hh0 (a := 33) (k := i) (q := (0, 1)) (bd_u rfl (by omega))).2
    refine E_zasB rfl k7 rfl (by omega) (by decide) (nar_z b8.1 b8.2) ?_
    have k8 : HH (pt (pt (pt h 21 i (gi h0 31 i)) 22 i (gi h0 32 i)) 23 i (gi h0 33 i)) := HH_pt (q := (0, 1)) k7 (bd_u rfl (by omega)) b8.1 b8.2
    refine E_inc rfl L2 (nJ_inc _) (fun lv1 K2 kp => ?_)
    refine E_goto rfl ?_
    refine ih lv1 (i := i + 1) (by omega) k8 ?_ (fun k hk => ?_) (kp 0 _ (nbz rfl) rfl L0) (kp 1 _ (nbz rfl) rfl L1) K2
    · exact fr_ptr (l := 0) (u := 19) rfl (by omega) (by omega) (fr_ptr (l := 0) (u := 19) rfl (by omega) (by omega) (fr_ptr (l := 0) (u := 19) rfl (by omega) (by omega) (hf)))
    · by_cases e : k = i
      · subst e
        refine ⟨?_, ?_, ?_⟩
        · rw [gi_ne (by first | exact gxx rfl | omega), gi_ne (by first | exact gxx rfl | omega)]; exact gi_pt (q := (0, 7)) hh (bd_u rfl (by omega)) b6.1 b6.2
        · rw [gi_ne (by first | exact gxx rfl | omega)]; exact gi_pt (q := (0, 8)) k6 (bd_u rfl (by omega)) b7.1 b7.2
        · exact gi_pt (q := (0, 1)) k7 (bd_u rfl (by omega)) b8.1 b8.2
      · have q := hc k (by omega)
        refine ⟨?_, ?_, ?_⟩
        · rw [gi_ne (by first | exact gxx rfl | omega), gi_ne (by first | exact gxx rfl | omega), gi_ne (fun _ => e)]; exact q.1
        · rw [gi_ne (by first | exact gxx rfl | omega), gi_ne (fun _ => e), gi_ne (by first | exact gxx rfl | omega)]; exact q.2.1
        · rw [gi_ne (fun _ => e), gi_ne (by first | exact gxx rfl | omega), gi_ne (by first | exact gxx rfl | omega)]; exact q.2.2
noncomputable def TkF_15_25 : List Rng := [(15, 0, 6), (16, 0, 7), (17, 0, 7), (18, 0, 7), (19, 0, 7), (20, 0, 7), (21, 0, 19), (22, 0, 19), (23, 0, 19)]
noncomputable def TkQ_15_25 (h h' : pm_H) (r : Option Value) : Prop := r = none ∧ HH h' ∧ fr_g TkF_15_25 h h' ∧ (∀ k, k < 7 → gi h' 15 k = gi h 25 k) ∧ (∀ k, k < 8 → gi h' 16 k = gi h 26 k ∧ gi h' 17 k = gi h 27 k ∧ gi h' 18 k = gi h 28 k ∧ gi h' 19 k = gi h 29 k ∧ gi h' 20 k = gi h 30 k) ∧ ∀ k, k < 20 → gi h' 21 k = gi h 31 k ∧ gi h' 22 k = gi h 32 k ∧ gi h' 23 k = gi h 33 k
theorem sp_take_15_25 {h : pm_H} {d : Nat} (hh : HH h) : Sp (d + 1) 54 h [.ref 15, .ref 25] (TkQ_15_25 h) := by
  refine Sp_of aiX5_take rfl rfl rfl ?_
  have L0 : pm_get (lv_args 0 [.ref 15, .ref 25]) 0 = some (.ref 15) := rfl
  have L1 : pm_get (lv_args 0 [.ref 15, .ref 25]) 1 = some (.ref 25) := rfl
  generalize lv_args 0 [.ref 15, .ref 25] = lv at L0 L1 ⊢
  have st : ∀ {k : Nat} {q : Int × Int} {g : pm_H}, k < 7 → bd 15 k = some q → bd 25 k = some q → HH g → fr_g [(15, 0, 6)] h g → (∀ i, i < k → gi g 15 i = gi h 25 i) → HH (pt g 15 k (gi h 25 k)) ∧ fr_g [(15, 0, 6)] h (pt g 15 k (gi h 25 k)) ∧ ∀ i, i < k + 1 → gi (pt g 15 k (gi h 25 k)) 15 i = gi h 25 i := by
    intro k q g hk hb hb2 hg hf ha
    have b := (ld_gi hh hb2).2
    refine ⟨HH_pt hg hb b.1 b.2, fr_ptr (l := 0) (u := 6) rfl (by omega) (by omega) hf, fun i hi => ?_⟩
    by_cases e : i = k
    · rw [e]; exact gi_pt hg hb b.1 b.2
    · rw [gi_ne (fun _ => e)]; exact ha i (by omega)
  refine E_al rfl L0 ?_
  refine E_al rfl L1 ?_
  refine E_ogf (q := (0, 8)) (v := gi h 25 0) rfl hh rfl rfl rfl ?_
  refine E_opf (q := (0, 8)) rfl hh rfl rfl ?_
  obtain ⟨a0, b0, c0⟩ := st (k := 0) (q := (0, 8)) (by decide) rfl rfl hh (fr_rf _ _) (fun i hi => absurd hi (Nat.not_lt_zero i))
  refine E_al rfl L0 ?_
  refine E_al rfl L1 ?_
  refine E_ogf (q := (0, 3)) (v := gi h 25 1) rfl a0 rfl rfl (fr_gi b0 (rg_no rfl _)) ?_
  refine E_opf (q := (0, 3)) rfl a0 rfl rfl ?_
  obtain ⟨a1, b1, c1⟩ := st (k := 1) (q := (0, 3)) (by decide) rfl rfl a0 b0 c0
  refine E_al rfl L0 ?_
  refine E_al rfl L1 ?_
  refine E_ogf (q := (0, 10)) (v := gi h 25 2) rfl a1 rfl rfl (fr_gi b1 (rg_no rfl _)) ?_
  refine E_opf (q := (0, 10)) rfl a1 rfl rfl ?_
  obtain ⟨a2, b2, c2⟩ := st (k := 2) (q := (0, 10)) (by decide) rfl rfl a1 b1 c1
  refine E_al rfl L0 ?_
  refine E_al rfl L1 ?_
  refine E_ogf (q := ((-2147483648), 2147483647)) (v := gi h 25 3) rfl a2 rfl rfl (fr_gi b2 (rg_no rfl _)) ?_
  refine E_opf (q := ((-2147483648), 2147483647)) rfl a2 rfl rfl ?_
  obtain ⟨a3, b3, c3⟩ := st (k := 3) (q := ((-2147483648), 2147483647)) (by decide) rfl rfl a2 b2 c2
  refine E_al rfl L0 ?_
  refine E_al rfl L1 ?_
  refine E_ogf (q := (0, 8)) (v := gi h 25 4) rfl a3 rfl rfl (fr_gi b3 (rg_no rfl _)) ?_
  refine E_opf (q := (0, 8)) rfl a3 rfl rfl ?_
  obtain ⟨a4, b4, c4⟩ := st (k := 4) (q := (0, 8)) (by decide) rfl rfl a3 b3 c3
  refine E_al rfl L0 ?_
  refine E_al rfl L1 ?_
  refine E_ogf (q := (0, 8)) (v := gi h 25 5) rfl a4 rfl rfl (fr_gi b4 (rg_no rfl _)) ?_
  refine E_opf (q := (0, 8)) rfl a4 rfl rfl ?_
  obtain ⟨a5, b5, c5⟩ := st (k := 5) (q := (0, 8)) (by decide) rfl rfl a4 b4 c4
  refine E_al rfl L0 ?_
  refine E_al rfl L1 ?_
  refine E_ogf (q := (0, 20)) (v := gi h 25 6) rfl a5 rfl rfl (fr_gi b5 (rg_no rfl _)) ?_
  refine E_opf (q := (0, 20)) rfl a5 rfl rfl ?_
  obtain ⟨a6, b6, c6⟩ := st (k := 6) (q := (0, 20)) (by decide) rfl rfl a5 b5 c5
  generalize (pt (pt (pt (pt (pt (pt (pt h 15 0 (gi h 25 0)) 15 1 (gi h 25 1)) 15 2 (gi h 25 2)) 15 3 (gi h 25 3)) 15 4 (gi h 25 4)) 15 5 (gi h 25 5)) 15 6 (gi h 25 6)) = h6 at a6 b6 c6 ⊢
  refine E_ci 0 rfl ci0 ?_
  refine E_is rfl (fun lv1 K2 kp => ?_)
  refine tk1_15_25 a6 (fun h7 lv2 hh7 f7 c7 M0 M1 => ?_) 8 (i := 0) lv1 (by omega) a6 (fr_rf _ _) (fun k hk => absurd hk (Nat.not_lt_zero k)) (kp 0 _ (nbz rfl) rfl L0) (kp 1 _ (nbz rfl) rfl L1) K2
  refine E_ci 0 rfl ci0 ?_
  refine E_is rfl (fun lv3 K3 kp3 => ?_)
  refine tk2_15_25 hh7 (fun h8 lv4 hh8 f8 c8 N0 N1 => ?_) 20 (i := 0) lv3 (by omega) hh7 (fr_rf _ _) (fun k hk => absurd hk (Nat.not_lt_zero k)) (kp3 0 _ (nbz rfl) rfl M0) (kp3 1 _ (nbz rfl) rfl M1) K3
  refine E_ret rfl ⟨rfl, hh8, fr_trans (fr_wk rfl b6) (fr_trans (fr_wk rfl f7) (fr_wk rfl f8)), fun k hk => ?_, fun k hk => ?_, fun k hk => ?_⟩
  · rw [fr_gi f8 (rg_no rfl _), fr_gi f7 (rg_no rfl _)]; exact c6 k hk
  · obtain ⟨q1, q2, q3, q4, q5⟩ := c7 k hk
    refine ⟨?_, ?_, ?_, ?_, ?_⟩
    · rw [fr_gi f8 (rg_no rfl _), q1, fr_gi b6 (rg_no rfl _)]
    · rw [fr_gi f8 (rg_no rfl _), q2, fr_gi b6 (rg_no rfl _)]
    · rw [fr_gi f8 (rg_no rfl _), q3, fr_gi b6 (rg_no rfl _)]
    · rw [fr_gi f8 (rg_no rfl _), q4, fr_gi b6 (rg_no rfl _)]
    · rw [fr_gi f8 (rg_no rfl _), q5, fr_gi b6 (rg_no rfl _)]
  · obtain ⟨q6, q7, q8⟩ := c8 k hk
    refine ⟨?_, ?_, ?_⟩
    · rw [q6, fr_gi f7 (rg_no rfl _), fr_gi b6 (rg_no rfl _)]
    · rw [q7, fr_gi f7 (rg_no rfl _), fr_gi b6 (rg_no rfl _)]
    · rw [q8, fr_gi f7 (rg_no rfl _), fr_gi b6 (rg_no rfl _)]
theorem tk1_15_34 {h0 : pm_H} {d : Nat} {Q : pm_H → Option Value → Prop} (hh0 : HH h0) (K : ∀ (h : pm_H) (lv : List (Nat × Value)), HH h → fr_g [(16, 0, 7), (17, 0, 7), (18, 0, 7), (19, 0, 7), (20, 0, 7)] h0 h → (∀ k, k < 8 → gi h 16 k = gi h0 35 k ∧ gi h 17 k = gi h0 36 k ∧ gi h 18 k = gi h0 37 k ∧ gi h 19 k = gi h0 38 k ∧ gi h 20 k = gi h0 39 k) → pm_get lv 0 = some (.ref 15) → pm_get lv 1 = some (.ref 34) → Ends (pm_at tX5_take) (pm_Rt pm_P d) (130, lv, [], h, 0, 0) Q) (j : Nat) : ∀ {h : pm_H} {i : Nat} (lv : List (Nat × Value)), i + j = 8 → HH h → fr_g [(16, 0, 7), (17, 0, 7), (18, 0, 7), (19, 0, 7), (20, 0, 7)] h0 h → (∀ k, k < i → gi h 16 k = gi h0 35 k ∧ gi h 17 k = gi h0 36 k ∧ gi h 18 k = gi h0 37 k ∧ gi h 19 k = gi h0 38 k ∧ gi h 20 k = gi h0 39 k) → pm_get lv 0 = some (.ref 15) → pm_get lv 1 = some (.ref 34) → pm_get lv 2 = some (.int (nJ i)) → Ends (pm_at tX5_take) (pm_Rt pm_P d) (58, lv, [], h, 0, 0) Q := by
  induction j with
  | zero =>
    intro h i lv hj hh hf hc L0 L1 L2
    refine E_il rfl L2 ?_
    refine E_ci 8 rfl ci8 ?_
    refine E_icT rfl (decide_eq_true ((nJ_le (by omega) (by omega)).mpr (by omega))) ?_
    exact K h lv hh hf (fun k hk => hc k (by omega)) L0 L1
  | succ j ih =>
    intro h i lv hj hh hf hc L0 L1 L2
    refine E_il rfl L2 ?_
    refine E_ci 8 rfl ci8 ?_
    refine E_icF rfl (decide_eq_false (fun q => absurd ((nJ_le (by omega) (by omega)).mp q) (by omega))) ?_
    refine E_al rfl L0 ?_
    refine E_ogr (q := 16) rfl hh rfl rfl ?_
    refine E_il rfl L2 ?_
    refine E_al rfl L1 ?_
    refine E_ogr (q := 35) rfl hh rfl rfl ?_
    refine E_il rfl L2 ?_
    refine E_ial (v := gi h0 35 i) rfl hh rfl (by omega) (by decide) (by rw [fr_gi hf (rg_no rfl _)]) ?_
    have b1 := (ld_gi hh0 (a := 35) (k := i) (q := (0, 8)) (bd_u rfl (by omega))).2
    refine E_ias rfl hh rfl (by omega) (by decide) ?_
    have k1 : HH (pt h 16 i (gi h0 35 i)) := HH_pt (q := (0, 8)) hh (bd_u rfl (by omega)) b1.1 b1.2
    refine E_al rfl L0 ?_
    refine E_ogr (q := 17) rfl k1 rfl rfl ?_
    refine E_il rfl L2 ?_
    refine E_al rfl L1 ?_
    refine E_ogr (q := 36) rfl k1 rfl rfl ?_
    refine E_il rfl L2 ?_
    refine E_ial (v := gi h0 36 i) rfl k1 rfl (by omega) (by decide) (by rw [gi_ne (by first | exact gxx rfl | omega), fr_gi hf (rg_no rfl _)]) ?_
    have b2 := (ld_gi hh0 (a := 36) (k := i) (q := (0, 8)) (bd_u rfl (by omega))).2
    refine E_ias rfl k1 rfl (by omega) (by decide) ?_
    have k2 : HH (pt (pt h 16 i (gi h0 35 i)) 17 i (gi h0 36 i)) := HH_pt (q := (0, 8)) k1 (bd_u rfl (by omega)) b2.1 b2.2
    refine E_al rfl L0 ?_
    refine E_ogr (q := 18) rfl k2 rfl rfl ?_
    refine E_il rfl L2 ?_
    refine E_al rfl L1 ?_
    refine E_ogr (q := 37) rfl k2 rfl rfl ?_
    refine E_il rfl L2 ?_
    refine E_ial (v := gi h0 37 i) rfl k2 rfl (by omega) (by decide) (by rw [gi_ne (by first | exact gxx rfl | omega), gi_ne (by first | exact gxx rfl | omega), fr_gi hf (rg_no rfl _)]) ?_
    have b3 := (ld_gi hh0 (a := 37) (k := i) (q := (0, 99)) (bd_u rfl (by omega))).2
    refine E_ias rfl k2 rfl (by omega) (by decide) ?_
    have k3 : HH (pt (pt (pt h 16 i (gi h0 35 i)) 17 i (gi h0 36 i)) 18 i (gi h0 37 i)) := HH_pt (q := (0, 99)) k2 (bd_u rfl (by omega)) b3.1 b3.2
    refine E_al rfl L0 ?_
    refine E_ogr (q := 19) rfl k3 rfl rfl ?_
    refine E_il rfl L2 ?_
    refine E_al rfl L1 ?_
    refine E_ogr (q := 38) rfl k3 rfl rfl ?_
    refine E_il rfl L2 ?_
    refine E_ial (v := gi h0 38 i) rfl k3 rfl (by omega) (by decide) (by rw [gi_ne (by first | exact gxx rfl | omega), gi_ne (by first | exact gxx rfl | omega), gi_ne (by first | exact gxx rfl | omega), fr_gi hf (rg_no rfl _)]) ?_
    have b4 := (ld_gi hh0 (a := 38) (k := i) (q := (0, 9)) (bd_u rfl (by omega))).2
    refine E_ias rfl k3 rfl (by omega) (by decide) ?_
    have k4 : HH (pt (pt (pt (pt h 16 i (gi h0 35 i)) 17 i (gi h0 36 i)) 18 i (gi h0 37 i)) 19 i (gi h0 38 i)) := HH_pt (q := (0, 9)) k3 (bd_u rfl (by omega)) b4.1 b4.2
    refine E_al rfl L0 ?_
    refine E_ogr (q := 20) rfl k4 rfl rfl ?_
    refine E_il rfl L2 ?_
    refine E_al rfl L1 ?_
    refine E_ogr (q := 39) rfl k4 rfl rfl ?_
    refine E_il rfl L2 ?_
    refine E_ial (v := gi h0 39 i) rfl k4 rfl (by omega) (by decide) (by rw [gi_ne (by first | exact gxx rfl | omega), gi_ne (by first | exact gxx rfl | omega), gi_ne (by first | exact gxx rfl | omega), gi_ne (by first | exact gxx rfl | omega), fr_gi hf (rg_no rfl _)]) ?_
    have b5 := (ld_gi hh0 (a := 39) (k := i) (q := (0, 9)) (bd_u rfl (by omega))).2
    refine E_ias rfl k4 rfl (by omega) (by decide) ?_
    have k5 : HH (pt (pt (pt (pt (pt h 16 i (gi h0 35 i)) 17 i (gi h0 36 i)) 18 i (gi h0 37 i)) 19 i (gi h0 38 i)) 20 i (gi h0 39 i)) := HH_pt (q := (0, 9)) k4 (bd_u rfl (by omega)) b5.1 b5.2
    refine E_inc rfl L2 (nJ_inc _) (fun lv1 K2 kp => ?_)
    refine E_goto rfl ?_
    refine ih lv1 (i := i + 1) (by omega) k5 ?_ (fun k hk => ?_) (kp 0 _ (nbz rfl) rfl L0) (kp 1 _ (nbz rfl) rfl L1) K2
    · exact fr_ptr (l := 0) (u := 7) rfl (by omega) (by omega) (fr_ptr (l := 0) (u := 7) rfl (by omega) (by omega) (fr_ptr (l := 0) (u := 7) rfl (by omega) (by omega) (fr_ptr (l := 0) (u := 7) rfl (by omega) (by omega) (fr_ptr (l := 0) (u := 7) rfl (by omega) (by omega) (hf)))))
    · by_cases e : k = i
      · subst e
        refine ⟨?_, ?_, ?_, ?_, ?_⟩
        · rw [gi_ne (by first | exact gxx rfl | omega), gi_ne (by first | exact gxx rfl | omega), gi_ne (by first | exact gxx rfl | omega), gi_ne (by first | exact gxx rfl | omega)]; exact gi_pt (q := (0, 8)) hh (bd_u rfl (by omega)) b1.1 b1.2
        · rw [gi_ne (by first | exact gxx rfl | omega), gi_ne (by first | exact gxx rfl | omega), gi_ne (by first | exact gxx rfl | omega)]; exact gi_pt (q := (0, 8)) k1 (bd_u rfl (by omega)) b2.1 b2.2
        · rw [gi_ne (by first | exact gxx rfl | omega), gi_ne (by first | exact gxx rfl | omega)]; exact gi_pt (q := (0, 99)) k2 (bd_u rfl (by omega)) b3.1 b3.2
        · rw [gi_ne (by first | exact gxx rfl | omega)]; exact gi_pt (q := (0, 9)) k3 (bd_u rfl (by omega)) b4.1 b4.2
        · exact gi_pt (q := (0, 9)) k4 (bd_u rfl (by omega)) b5.1 b5.2
      · have q := hc k (by omega)
        refine ⟨?_, ?_, ?_, ?_, ?_⟩
        · rw [gi_ne (by first | exact gxx rfl | omega), gi_ne (by first | exact gxx rfl | omega), gi_ne (by first | exact gxx rfl | omega), gi_ne (by first | exact gxx rfl | omega), gi_ne (fun _ => e)]; exact q.1
        · rw [gi_ne (by first | exact gxx rfl | omega), gi_ne (by first | exact gxx rfl | omega), gi_ne (by first | exact gxx rfl | omega), gi_ne (fun _ => e), gi_ne (by first | exact gxx rfl | omega)]; exact q.2.1
        · rw [gi_ne (by first | exact gxx rfl | omega), gi_ne (by first | exact gxx rfl | omega), gi_ne (fun _ => e), gi_ne (by first | exact gxx rfl | omega), gi_ne (by first | exact gxx rfl | omega)]; exact q.2.2.1
        · rw [gi_ne (by first | exact gxx rfl | omega), gi_ne (fun _ => e), gi_ne (by first | exact gxx rfl | omega), gi_ne (by first | exact gxx rfl | omega), gi_ne (by first | exact gxx rfl | omega)]; exact q.2.2.2.1
        · rw [gi_ne (fun _ => e), gi_ne (by first | exact gxx rfl | omega), gi_ne (by first | exact gxx rfl | omega), gi_ne (by first | exact gxx rfl | omega), gi_ne (by first | exact gxx rfl | omega)]; exact q.2.2.2.2
theorem tk2_15_34 {h0 : pm_H} {d : Nat} {Q : pm_H → Option Value → Prop} (hh0 : HH h0) (K : ∀ (h : pm_H) (lv : List (Nat × Value)), HH h → fr_g [(21, 0, 19), (22, 0, 19), (23, 0, 19)] h0 h → (∀ k, k < 20 → gi h 21 k = gi h0 40 k ∧ gi h 22 k = gi h0 41 k ∧ gi h 23 k = gi h0 42 k) → pm_get lv 0 = some (.ref 15) → pm_get lv 1 = some (.ref 34) → Ends (pm_at tX5_take) (pm_Rt pm_P d) (180, lv, [], h, 0, 0) Q) (j : Nat) : ∀ {h : pm_H} {i : Nat} (lv : List (Nat × Value)), i + j = 20 → HH h → fr_g [(21, 0, 19), (22, 0, 19), (23, 0, 19)] h0 h → (∀ k, k < i → gi h 21 k = gi h0 40 k ∧ gi h 22 k = gi h0 41 k ∧ gi h 23 k = gi h0 42 k) → pm_get lv 0 = some (.ref 15) → pm_get lv 1 = some (.ref 34) → pm_get lv 2 = some (.int (nJ i)) → Ends (pm_at tX5_take) (pm_Rt pm_P d) (132, lv, [], h, 0, 0) Q := by
  induction j with
  | zero =>
    intro h i lv hj hh hf hc L0 L1 L2
    refine E_il rfl L2 ?_
    refine E_ci 20 rfl ci20 ?_
    refine E_icT rfl (decide_eq_true ((nJ_le (by omega) (by omega)).mpr (by omega))) ?_
    exact K h lv hh hf (fun k hk => hc k (by omega)) L0 L1
  | succ j ih =>
    intro h i lv hj hh hf hc L0 L1 L2
    refine E_il rfl L2 ?_
    refine E_ci 20 rfl ci20 ?_
    refine E_icF rfl (decide_eq_false (fun q => absurd ((nJ_le (by omega) (by omega)).mp q) (by omega))) ?_
    refine E_al rfl L0 ?_
    refine E_ogr (q := 21) rfl hh rfl rfl ?_
    refine E_il rfl L2 ?_
    refine E_al rfl L1 ?_
    refine E_ogr (q := 40) rfl hh rfl rfl ?_
    refine E_il rfl L2 ?_
    refine E_ial (v := gi h0 40 i) rfl hh rfl (by omega) (by decide) (by rw [fr_gi hf (rg_no rfl _)]) ?_
    have b6 := (ld_gi hh0 (a := 40) (k := i) (q := (0, 7)) (bd_u rfl (by omega))).2
    refine E_ias rfl hh rfl (by omega) (by decide) ?_
    have k6 : HH (pt h 21 i (gi h0 40 i)) := HH_pt (q := (0, 7)) hh (bd_u rfl (by omega)) b6.1 b6.2
    refine E_al rfl L0 ?_
    refine E_ogr (q := 22) rfl k6 rfl rfl ?_
    refine E_il rfl L2 ?_
    refine E_al rfl L1 ?_
    refine E_ogr (q := 41) rfl k6 rfl rfl ?_
    refine E_il rfl L2 ?_
    refine E_ial (v := gi h0 41 i) rfl k6 rfl (by omega) (by decide) (by rw [gi_ne (by first | exact gxx rfl | omega), fr_gi hf (rg_no rfl _)]) ?_
    have b7 := (ld_gi hh0 (a := 41) (k := i) (q := (0, 8)) (bd_u rfl (by omega))).2
    refine E_ias rfl k6 rfl (by omega) (by decide) ?_
    have k7 : HH (pt (pt h 21 i (gi h0 40 i)) 22 i (gi h0 41 i)) := HH_pt (q := (0, 8)) k6 (bd_u rfl (by omega)) b7.1 b7.2
    refine E_al rfl L0 ?_
    refine E_ogr (q := 23) rfl k7 rfl rfl ?_
    refine E_il rfl L2 ?_
    refine E_al rfl L1 ?_
    refine E_ogr (q := 42) rfl k7 rfl rfl ?_
    refine E_il rfl L2 ?_
    refine E_zalB (v := gi h0 42 i) rfl k7 rfl (by omega) (by decide) (by rw [gi_ne (by first | exact gxx rfl | omega), gi_ne (by first | exact gxx rfl | omega), fr_gi hf (rg_no rfl _)]) ?_
    have b8 := (ld_gi hh0 (a := 42) (k := i) (q := (0, 1)) (bd_u rfl (by omega))).2
    refine E_zasB rfl k7 rfl (by omega) (by decide) (nar_z b8.1 b8.2) ?_
    have k8 : HH (pt (pt (pt h 21 i (gi h0 40 i)) 22 i (gi h0 41 i)) 23 i (gi h0 42 i)) := HH_pt (q := (0, 1)) k7 (bd_u rfl (by omega)) b8.1 b8.2
    refine E_inc rfl L2 (nJ_inc _) (fun lv1 K2 kp => ?_)
    refine E_goto rfl ?_
    refine ih lv1 (i := i + 1) (by omega) k8 ?_ (fun k hk => ?_) (kp 0 _ (nbz rfl) rfl L0) (kp 1 _ (nbz rfl) rfl L1) K2
    · exact fr_ptr (l := 0) (u := 19) rfl (by omega) (by omega) (fr_ptr (l := 0) (u := 19) rfl (by omega) (by omega) (fr_ptr (l := 0) (u := 19) rfl (by omega) (by omega) (hf)))
    · by_cases e : k = i
      · subst e
        refine ⟨?_, ?_, ?_⟩
        · rw [gi_ne (by first | exact gxx rfl | omega), gi_ne (by first | exact gxx rfl | omega)]; exact gi_pt (q := (0, 7)) hh (bd_u rfl (by omega)) b6.1 b6.2
        · rw [gi_ne (by first | exact gxx rfl | omega)]; exact gi_pt (q := (0, 8)) k6 (bd_u rfl (by omega)) b7.1 b7.2
        · exact gi_pt (q := (0, 1)) k7 (bd_u rfl (by omega)) b8.1 b8.2
      · have q := hc k (by omega)
        refine ⟨?_, ?_, ?_⟩
        · rw [gi_ne (by first | exact gxx rfl | omega), gi_ne (by first | exact gxx rfl | omega), gi_ne (fun _ => e)]; exact q.1
        · rw [gi_ne (by first | exact gxx rfl | omega), gi_ne (fun _ => e), gi_ne (by first | exact gxx rfl | omega)]; exact q.2.1
        · rw [gi_ne (fun _ => e), gi_ne (by first | exact gxx rfl | omega), gi_ne (by first | exact gxx rfl | omega)]; exact q.2.2
noncomputable def TkF_15_34 : List Rng := [(15, 0, 6), (16, 0, 7), (17, 0, 7), (18, 0, 7), (19, 0, 7), (20, 0, 7), (21, 0, 19), (22, 0, 19), (23, 0, 19)]
noncomputable def TkQ_15_34 (h h' : pm_H) (r : Option Value) : Prop := r = none ∧ HH h' ∧ fr_g TkF_15_34 h h' ∧ (∀ k, k < 7 → gi h' 15 k = gi h 34 k) ∧ (∀ k, k < 8 → gi h' 16 k = gi h 35 k ∧ gi h' 17 k = gi h 36 k ∧ gi h' 18 k = gi h 37 k ∧ gi h' 19 k = gi h 38 k ∧ gi h' 20 k = gi h 39 k) ∧ ∀ k, k < 20 → gi h' 21 k = gi h 40 k ∧ gi h' 22 k = gi h 41 k ∧ gi h' 23 k = gi h 42 k
theorem sp_take_15_34 {h : pm_H} {d : Nat} (hh : HH h) : Sp (d + 1) 54 h [.ref 15, .ref 34] (TkQ_15_34 h) := by
  refine Sp_of aiX5_take rfl rfl rfl ?_
  have L0 : pm_get (lv_args 0 [.ref 15, .ref 34]) 0 = some (.ref 15) := rfl
  have L1 : pm_get (lv_args 0 [.ref 15, .ref 34]) 1 = some (.ref 34) := rfl
  generalize lv_args 0 [.ref 15, .ref 34] = lv at L0 L1 ⊢
  have st : ∀ {k : Nat} {q : Int × Int} {g : pm_H}, k < 7 → bd 15 k = some q → bd 34 k = some q → HH g → fr_g [(15, 0, 6)] h g → (∀ i, i < k → gi g 15 i = gi h 34 i) → HH (pt g 15 k (gi h 34 k)) ∧ fr_g [(15, 0, 6)] h (pt g 15 k (gi h 34 k)) ∧ ∀ i, i < k + 1 → gi (pt g 15 k (gi h 34 k)) 15 i = gi h 34 i := by
    intro k q g hk hb hb2 hg hf ha
    have b := (ld_gi hh hb2).2
    refine ⟨HH_pt hg hb b.1 b.2, fr_ptr (l := 0) (u := 6) rfl (by omega) (by omega) hf, fun i hi => ?_⟩
    by_cases e : i = k
    · rw [e]; exact gi_pt hg hb b.1 b.2
    · rw [gi_ne (fun _ => e)]; exact ha i (by omega)
  refine E_al rfl L0 ?_
  refine E_al rfl L1 ?_
  refine E_ogf (q := (0, 8)) (v := gi h 34 0) rfl hh rfl rfl rfl ?_
  refine E_opf (q := (0, 8)) rfl hh rfl rfl ?_
  obtain ⟨a0, b0, c0⟩ := st (k := 0) (q := (0, 8)) (by decide) rfl rfl hh (fr_rf _ _) (fun i hi => absurd hi (Nat.not_lt_zero i))
  refine E_al rfl L0 ?_
  refine E_al rfl L1 ?_
  refine E_ogf (q := (0, 3)) (v := gi h 34 1) rfl a0 rfl rfl (fr_gi b0 (rg_no rfl _)) ?_
  refine E_opf (q := (0, 3)) rfl a0 rfl rfl ?_
  obtain ⟨a1, b1, c1⟩ := st (k := 1) (q := (0, 3)) (by decide) rfl rfl a0 b0 c0
  refine E_al rfl L0 ?_
  refine E_al rfl L1 ?_
  refine E_ogf (q := (0, 10)) (v := gi h 34 2) rfl a1 rfl rfl (fr_gi b1 (rg_no rfl _)) ?_
  refine E_opf (q := (0, 10)) rfl a1 rfl rfl ?_
  obtain ⟨a2, b2, c2⟩ := st (k := 2) (q := (0, 10)) (by decide) rfl rfl a1 b1 c1
  refine E_al rfl L0 ?_
  refine E_al rfl L1 ?_
  refine E_ogf (q := ((-2147483648), 2147483647)) (v := gi h 34 3) rfl a2 rfl rfl (fr_gi b2 (rg_no rfl _)) ?_
  refine E_opf (q := ((-2147483648), 2147483647)) rfl a2 rfl rfl ?_
  obtain ⟨a3, b3, c3⟩ := st (k := 3) (q := ((-2147483648), 2147483647)) (by decide) rfl rfl a2 b2 c2
  refine E_al rfl L0 ?_
  refine E_al rfl L1 ?_
  refine E_ogf (q := (0, 8)) (v := gi h 34 4) rfl a3 rfl rfl (fr_gi b3 (rg_no rfl _)) ?_
  refine E_opf (q := (0, 8)) rfl a3 rfl rfl ?_
  obtain ⟨a4, b4, c4⟩ := st (k := 4) (q := (0, 8)) (by decide) rfl rfl a3 b3 c3
  refine E_al rfl L0 ?_
  refine E_al rfl L1 ?_
  refine E_ogf (q := (0, 8)) (v := gi h 34 5) rfl a4 rfl rfl (fr_gi b4 (rg_no rfl _)) ?_
  refine E_opf (q := (0, 8)) rfl a4 rfl rfl ?_
  obtain ⟨a5, b5, c5⟩ := st (k := 5) (q := (0, 8)) (by decide) rfl rfl a4 b4 c4
  refine E_al rfl L0 ?_
  refine E_al rfl L1 ?_
  refine E_ogf (q := (0, 20)) (v := gi h 34 6) rfl a5 rfl rfl (fr_gi b5 (rg_no rfl _)) ?_
  refine E_opf (q := (0, 20)) rfl a5 rfl rfl ?_
  obtain ⟨a6, b6, c6⟩ := st (k := 6) (q := (0, 20)) (by decide) rfl rfl a5 b5 c5
  generalize (pt (pt (pt (pt (pt (pt (pt h 15 0 (gi h 34 0)) 15 1 (gi h 34 1)) 15 2 (gi h 34 2)) 15 3 (gi h 34 3)) 15 4 (gi h 34 4)) 15 5 (gi h 34 5)) 15 6 (gi h 34 6)) = h6 at a6 b6 c6 ⊢
  refine E_ci 0 rfl ci0 ?_
  refine E_is rfl (fun lv1 K2 kp => ?_)
  refine tk1_15_34 a6 (fun h7 lv2 hh7 f7 c7 M0 M1 => ?_) 8 (i := 0) lv1 (by omega) a6 (fr_rf _ _) (fun k hk => absurd hk (Nat.not_lt_zero k)) (kp 0 _ (nbz rfl) rfl L0) (kp 1 _ (nbz rfl) rfl L1) K2
  refine E_ci 0 rfl ci0 ?_
  refine E_is rfl (fun lv3 K3 kp3 => ?_)
  refine tk2_15_34 hh7 (fun h8 lv4 hh8 f8 c8 N0 N1 => ?_) 20 (i := 0) lv3 (by omega) hh7 (fr_rf _ _) (fun k hk => absurd hk (Nat.not_lt_zero k)) (kp3 0 _ (nbz rfl) rfl M0) (kp3 1 _ (nbz rfl) rfl M1) K3
  refine E_ret rfl ⟨rfl, hh8, fr_trans (fr_wk rfl b6) (fr_trans (fr_wk rfl f7) (fr_wk rfl f8)), fun k hk => ?_, fun k hk => ?_, fun k hk => ?_⟩
  · rw [fr_gi f8 (rg_no rfl _), fr_gi f7 (rg_no rfl _)]; exact c6 k hk
  · obtain ⟨q1, q2, q3, q4, q5⟩ := c7 k hk
    refine ⟨?_, ?_, ?_, ?_, ?_⟩
    · rw [fr_gi f8 (rg_no rfl _), q1, fr_gi b6 (rg_no rfl _)]
    · rw [fr_gi f8 (rg_no rfl _), q2, fr_gi b6 (rg_no rfl _)]
    · rw [fr_gi f8 (rg_no rfl _), q3, fr_gi b6 (rg_no rfl _)]
    · rw [fr_gi f8 (rg_no rfl _), q4, fr_gi b6 (rg_no rfl _)]
    · rw [fr_gi f8 (rg_no rfl _), q5, fr_gi b6 (rg_no rfl _)]
  · obtain ⟨q6, q7, q8⟩ := c8 k hk
    refine ⟨?_, ?_, ?_⟩
    · rw [q6, fr_gi f7 (rg_no rfl _), fr_gi b6 (rg_no rfl _)]
    · rw [q7, fr_gi f7 (rg_no rfl _), fr_gi b6 (rg_no rfl _)]
    · rw [q8, fr_gi f7 (rg_no rfl _), fr_gi b6 (rg_no rfl _)]
theorem tk1_15_43 {h0 : pm_H} {d : Nat} {Q : pm_H → Option Value → Prop} (hh0 : HH h0) (K : ∀ (h : pm_H) (lv : List (Nat × Value)), HH h → fr_g [(16, 0, 7), (17, 0, 7), (18, 0, 7), (19, 0, 7), (20, 0, 7)] h0 h → (∀ k, k < 8 → gi h 16 k = gi h0 44 k ∧ gi h 17 k = gi h0 45 k ∧ gi h 18 k = gi h0 46 k ∧ gi h 19 k = gi h0 47 k ∧ gi h 20 k = gi h0 48 k) → pm_get lv 0 = some (.ref 15) → pm_get lv 1 = some (.ref 43) → Ends (pm_at tX5_take) (pm_Rt pm_P d) (130, lv, [], h, 0, 0) Q) (j : Nat) : ∀ {h : pm_H} {i : Nat} (lv : List (Nat × Value)), i + j = 8 → HH h → fr_g [(16, 0, 7), (17, 0, 7), (18, 0, 7), (19, 0, 7), (20, 0, 7)] h0 h → (∀ k, k < i → gi h 16 k = gi h0 44 k ∧ gi h 17 k = gi h0 45 k ∧ gi h 18 k = gi h0 46 k ∧ gi h 19 k = gi h0 47 k ∧ gi h 20 k = gi h0 48 k) → pm_get lv 0 = some (.ref 15) → pm_get lv 1 = some (.ref 43) → pm_get lv 2 = some (.int (nJ i)) → Ends (pm_at tX5_take) (pm_Rt pm_P d) (58, lv, [], h, 0, 0) Q := by
  induction j with
  | zero =>
    intro h i lv hj hh hf hc L0 L1 L2
    refine E_il rfl L2 ?_
    refine E_ci 8 rfl ci8 ?_
    refine E_icT rfl (decide_eq_true ((nJ_le (by omega) (by omega)).mpr (by omega))) ?_
    exact K h lv hh hf (fun k hk => hc k (by omega)) L0 L1
  | succ j ih =>
    intro h i lv hj hh hf hc L0 L1 L2
    refine E_il rfl L2 ?_
    refine E_ci 8 rfl ci8 ?_
    refine E_icF rfl (decide_eq_false (fun q => absurd ((nJ_le (by omega) (by omega)).mp q) (by omega))) ?_
    refine E_al rfl L0 ?_
    refine E_ogr (q := 16) rfl hh rfl rfl ?_
    refine E_il rfl L2 ?_
    refine E_al rfl L1 ?_
    refine E_ogr (q := 44) rfl hh rfl rfl ?_
    refine E_il rfl L2 ?_
    refine E_ial (v := gi h0 44 i) rfl hh rfl (by omega) (by decide) (by rw [fr_gi hf (rg_no rfl _)]) ?_
    have b1 := (ld_gi hh0 (a := 44) (k := i) (q := (0, 8)) (bd_u rfl (by omega))).2
    refine E_ias rfl hh rfl (by omega) (by decide) ?_
    have k1 : HH (pt h 16 i (gi h0 44 i)) := HH_pt (q := (0, 8)) hh (bd_u rfl (by omega)) b1.1 b1.2
    refine E_al rfl L0 ?_
    refine E_ogr (q := 17) rfl k1 rfl rfl ?_
    refine E_il rfl L2 ?_
    refine E_al rfl L1 ?_
    refine E_ogr (q := 45) rfl k1 rfl rfl ?_
    refine E_il rfl L2 ?_
    refine E_ial (v := gi h0 45 i) rfl k1 rfl (by omega) (by decide) (by rw [gi_ne (by first | exact gxx rfl | omega), fr_gi hf (rg_no rfl _)]) ?_
    have b2 := (ld_gi hh0 (a := 45) (k := i) (q := (0, 8)) (bd_u rfl (by omega))).2
    refine E_ias rfl k1 rfl (by omega) (by decide) ?_
    have k2 : HH (pt (pt h 16 i (gi h0 44 i)) 17 i (gi h0 45 i)) := HH_pt (q := (0, 8)) k1 (bd_u rfl (by omega)) b2.1 b2.2
    refine E_al rfl L0 ?_
    refine E_ogr (q := 18) rfl k2 rfl rfl ?_
    refine E_il rfl L2 ?_
    refine E_al rfl L1 ?_
    refine E_ogr (q := 46) rfl k2 rfl rfl ?_
    refine E_il rfl L2 ?_
    refine E_ial (v := gi h0 46 i) rfl k2 rfl (by omega) (by decide) (by rw [gi_ne (by first | exact gxx rfl | omega), gi_ne (by first | exact gxx rfl | omega), fr_gi hf (rg_no rfl _)]) ?_
    have b3 := (ld_gi hh0 (a := 46) (k := i) (q := (0, 99)) (bd_u rfl (by omega))).2
    refine E_ias rfl k2 rfl (by omega) (by decide) ?_
    have k3 : HH (pt (pt (pt h 16 i (gi h0 44 i)) 17 i (gi h0 45 i)) 18 i (gi h0 46 i)) := HH_pt (q := (0, 99)) k2 (bd_u rfl (by omega)) b3.1 b3.2
    refine E_al rfl L0 ?_
    refine E_ogr (q := 19) rfl k3 rfl rfl ?_
    refine E_il rfl L2 ?_
    refine E_al rfl L1 ?_
    refine E_ogr (q := 47) rfl k3 rfl rfl ?_
    refine E_il rfl L2 ?_
    refine E_ial (v := gi h0 47 i) rfl k3 rfl (by omega) (by decide) (by rw [gi_ne (by first | exact gxx rfl | omega), gi_ne (by first | exact gxx rfl | omega), gi_ne (by first | exact gxx rfl | omega), fr_gi hf (rg_no rfl _)]) ?_
    have b4 := (ld_gi hh0 (a := 47) (k := i) (q := (0, 9)) (bd_u rfl (by omega))).2
    refine E_ias rfl k3 rfl (by omega) (by decide) ?_
    have k4 : HH (pt (pt (pt (pt h 16 i (gi h0 44 i)) 17 i (gi h0 45 i)) 18 i (gi h0 46 i)) 19 i (gi h0 47 i)) := HH_pt (q := (0, 9)) k3 (bd_u rfl (by omega)) b4.1 b4.2
    refine E_al rfl L0 ?_
    refine E_ogr (q := 20) rfl k4 rfl rfl ?_
    refine E_il rfl L2 ?_
    refine E_al rfl L1 ?_
    refine E_ogr (q := 48) rfl k4 rfl rfl ?_
    refine E_il rfl L2 ?_
    refine E_ial (v := gi h0 48 i) rfl k4 rfl (by omega) (by decide) (by rw [gi_ne (by first | exact gxx rfl | omega), gi_ne (by first | exact gxx rfl | omega), gi_ne (by first | exact gxx rfl | omega), gi_ne (by first | exact gxx rfl | omega), fr_gi hf (rg_no rfl _)]) ?_
    have b5 := (ld_gi hh0 (a := 48) (k := i) (q := (0, 9)) (bd_u rfl (by omega))).2
    refine E_ias rfl k4 rfl (by omega) (by decide) ?_
    have k5 : HH (pt (pt (pt (pt (pt h 16 i (gi h0 44 i)) 17 i (gi h0 45 i)) 18 i (gi h0 46 i)) 19 i (gi h0 47 i)) 20 i (gi h0 48 i)) := HH_pt (q := (0, 9)) k4 (bd_u rfl (by omega)) b5.1 b5.2
    refine E_inc rfl L2 (nJ_inc _) (fun lv1 K2 kp => ?_)
    refine E_goto rfl ?_
    refine ih lv1 (i := i + 1) (by omega) k5 ?_ (fun k hk => ?_) (kp 0 _ (nbz rfl) rfl L0) (kp 1 _ (nbz rfl) rfl L1) K2
    · exact fr_ptr (l := 0) (u := 7) rfl (by omega) (by omega) (fr_ptr (l := 0) (u := 7) rfl (by omega) (by omega) (fr_ptr (l := 0) (u := 7) rfl (by omega) (by omega) (fr_ptr (l := 0) (u := 7) rfl (by omega) (by omega) (fr_ptr (l := 0) (u := 7) rfl (by omega) (by omega) (hf)))))
    · by_cases e : k = i
      · subst e
        refine ⟨?_, ?_, ?_, ?_, ?_⟩
        · rw [gi_ne (by first | exact gxx rfl | omega), gi_ne (by first | exact gxx rfl | omega), gi_ne (by first | exact gxx rfl | omega), gi_ne (by first | exact gxx rfl | omega)]; exact gi_pt (q := (0, 8)) hh (bd_u rfl (by omega)) b1.1 b1.2
        · rw [gi_ne (by first | exact gxx rfl | omega), gi_ne (by first | exact gxx rfl | omega), gi_ne (by first | exact gxx rfl | omega)]; exact gi_pt (q := (0, 8)) k1 (bd_u rfl (by omega)) b2.1 b2.2
        · rw [gi_ne (by first | exact gxx rfl | omega), gi_ne (by first | exact gxx rfl | omega)]; exact gi_pt (q := (0, 99)) k2 (bd_u rfl (by omega)) b3.1 b3.2
        · rw [gi_ne (by first | exact gxx rfl | omega)]; exact gi_pt (q := (0, 9)) k3 (bd_u rfl (by omega)) b4.1 b4.2
        · exact gi_pt (q := (0, 9)) k4 (bd_u rfl (by omega)) b5.1 b5.2
      · have q := hc k (by omega)
        refine ⟨?_, ?_, ?_, ?_, ?_⟩
        · rw [gi_ne (by first | exact gxx rfl | omega), gi_ne (by first | exact gxx rfl | omega), gi_ne (by first | exact gxx rfl | omega), gi_ne (by first | exact gxx rfl | omega), gi_ne (fun _ => e)]; exact q.1
        · rw [gi_ne (by first | exact gxx rfl | omega), gi_ne (by first | exact gxx rfl | omega), gi_ne (by first | exact gxx rfl | omega), gi_ne (fun _ => e), gi_ne (by first | exact gxx rfl | omega)]; exact q.2.1
        · rw [gi_ne (by first | exact gxx rfl | omega), gi_ne (by first | exact gxx rfl | omega), gi_ne (fun _ => e), gi_ne (by first | exact gxx rfl | omega), gi_ne (by first | exact gxx rfl | omega)]; exact q.2.2.1
        · rw [gi_ne (by first | exact gxx rfl | omega), gi_ne (fun _ => e), gi_ne (by first | exact gxx rfl | omega), gi_ne (by first | exact gxx rfl | omega), gi_ne (by first | exact gxx rfl | omega)]; exact q.2.2.2.1
        · rw [gi_ne (fun _ => e), gi_ne (by first | exact gxx rfl | omega), gi_ne (by first | exact gxx rfl | omega), gi_ne (by first | exact gxx rfl | omega), gi_ne (by first | exact gxx rfl | omega)]; exact q.2.2.2.2
theorem tk2_15_43 {h0 : pm_H} {d : Nat} {Q : pm_H → Option Value → Prop} (hh0 : HH h0) (K : ∀ (h : pm_H) (lv : List (Nat × Value)), HH h → fr_g [(21, 0, 19), (22, 0, 19), (23, 0, 19)] h0 h → (∀ k, k < 20 → gi h 21 k = gi h0 49 k ∧ gi h 22 k = gi h0 50 k ∧ gi h 23 k = gi h0 51 k) → pm_get lv 0 = some (.ref 15) → pm_get lv 1 = some (.ref 43) → Ends (pm_at tX5_take) (pm_Rt pm_P d) (180, lv, [], h, 0, 0) Q) (j : Nat) : ∀ {h : pm_H} {i : Nat} (lv : List (Nat × Value)), i + j = 20 → HH h → fr_g [(21, 0, 19), (22, 0, 19), (23, 0, 19)] h0 h → (∀ k, k < i → gi h 21 k = gi h0 49 k ∧ gi h 22 k = gi h0 50 k ∧ gi h 23 k = gi h0 51 k) → pm_get lv 0 = some (.ref 15) → pm_get lv 1 = some (.ref 43) → pm_get lv 2 = some (.int (nJ i)) → Ends (pm_at tX5_take) (pm_Rt pm_P d) (132, lv, [], h, 0, 0) Q := by
  induction j with
  | zero =>
    intro h i lv hj hh hf hc L0 L1 L2
    refine E_il rfl L2 ?_
    refine E_ci 20 rfl ci20 ?_
    refine E_icT rfl (decide_eq_true ((nJ_le (by omega) (by omega)).mpr (by omega))) ?_
    exact K h lv hh hf (fun k hk => hc k (by omega)) L0 L1
  | succ j ih =>
    intro h i lv hj hh hf hc L0 L1 L2
    refine E_il rfl L2 ?_
    refine E_ci 20 rfl ci20 ?_
    refine E_icF rfl (decide_eq_false (fun q => absurd ((nJ_le (by omega) (by omega)).mp q) (by omega))) ?_
    refine E_al rfl L0 ?_
    refine E_ogr (q := 21) rfl hh rfl rfl ?_
    refine E_il rfl L2 ?_
    refine E_al rfl L1 ?_
    refine E_ogr (q := 49) rfl hh rfl rfl ?_
    refine E_il rfl L2 ?_
    refine E_ial (v := gi h0 49 i) rfl hh rfl (by omega) (by decide) (by rw [fr_gi hf (rg_no rfl _)]) ?_
    have b6 := (ld_gi hh0 (a := 49) (k := i) (q := (0, 7)) (bd_u rfl (by omega))).2
    refine E_ias rfl hh rfl (by omega) (by decide) ?_
    have k6 : HH (pt h 21 i (gi h0 49 i)) := HH_pt (q := (0, 7)) hh (bd_u rfl (by omega)) b6.1 b6.2
    refine E_al rfl L0 ?_
    refine E_ogr (q := 22) rfl k6 rfl rfl ?_
    refine E_il rfl L2 ?_
    refine E_al rfl L1 ?_
    refine E_ogr (q := 50) rfl k6 rfl rfl ?_
    refine E_il rfl L2 ?_
    refine E_ial (v := gi h0 50 i) rfl k6 rfl (by omega) (by decide) (by rw [gi_ne (by first | exact gxx rfl | omega), fr_gi hf (rg_no rfl _)]) ?_
    have b7 := (ld_gi hh0 (a := 50) (k := i) (q := (0, 8)) (bd_u rfl (by omega))).2
    refine E_ias rfl k6 rfl (by omega) (by decide) ?_
    have k7 : HH (pt (pt h 21 i (gi h0 49 i)) 22 i (gi h0 50 i)) := HH_pt (q := (0, 8)) k6 (bd_u rfl (by omega)) b7.1 b7.2
    refine E_al rfl L0 ?_
    refine E_ogr (q := 23) rfl k7 rfl rfl ?_
    refine E_il rfl L2 ?_
    refine E_al rfl L1 ?_
    refine E_ogr (q := 51) rfl k7 rfl rfl ?_
    refine E_il rfl L2 ?_
    refine E_zalB (v := gi h0 51 i) rfl k7 rfl (by omega) (by decide) (by rw [gi_ne (by first | exact gxx rfl | omega), gi_ne (by first | exact gxx rfl | omega), fr_gi hf (rg_no rfl _)]) ?_
    have b8 := (ld_gi hh0 (a := 51) (k := i) (q := (0, 1)) (bd_u rfl (by omega))).2
    refine E_zasB rfl k7 rfl (by omega) (by decide) (nar_z b8.1 b8.2) ?_
    have k8 : HH (pt (pt (pt h 21 i (gi h0 49 i)) 22 i (gi h0 50 i)) 23 i (gi h0 51 i)) := HH_pt (q := (0, 1)) k7 (bd_u rfl (by omega)) b8.1 b8.2
    refine E_inc rfl L2 (nJ_inc _) (fun lv1 K2 kp => ?_)
    refine E_goto rfl ?_
    refine ih lv1 (i := i + 1) (by omega) k8 ?_ (fun k hk => ?_) (kp 0 _ (nbz rfl) rfl L0) (kp 1 _ (nbz rfl) rfl L1) K2
    · exact fr_ptr (l := 0) (u := 19) rfl (by omega) (by omega) (fr_ptr (l := 0) (u := 19) rfl (by omega) (by omega) (fr_ptr (l := 0) (u := 19) rfl (by omega) (by omega) (hf)))
    · by_cases e : k = i
      · subst e
        refine ⟨?_, ?_, ?_⟩
        · rw [gi_ne (by first | exact gxx rfl | omega), gi_ne (by first | exact gxx rfl | omega)]; exact gi_pt (q := (0, 7)) hh (bd_u rfl (by omega)) b6.1 b6.2
        · rw [gi_ne (by first | exact gxx rfl | omega)]; exact gi_pt (q := (0, 8)) k6 (bd_u rfl (by omega)) b7.1 b7.2
        · exact gi_pt (q := (0, 1)) k7 (bd_u rfl (by omega)) b8.1 b8.2
      · have q := hc k (by omega)
        refine ⟨?_, ?_, ?_⟩
        · rw [gi_ne (by first | exact gxx rfl | omega), gi_ne (by first | exact gxx rfl | omega), gi_ne (fun _ => e)]; exact q.1
        · rw [gi_ne (by first | exact gxx rfl | omega), gi_ne (fun _ => e), gi_ne (by first | exact gxx rfl | omega)]; exact q.2.1
        · rw [gi_ne (fun _ => e), gi_ne (by first | exact gxx rfl | omega), gi_ne (by first | exact gxx rfl | omega)]; exact q.2.2
noncomputable def TkF_15_43 : List Rng := [(15, 0, 6), (16, 0, 7), (17, 0, 7), (18, 0, 7), (19, 0, 7), (20, 0, 7), (21, 0, 19), (22, 0, 19), (23, 0, 19)]
noncomputable def TkQ_15_43 (h h' : pm_H) (r : Option Value) : Prop := r = none ∧ HH h' ∧ fr_g TkF_15_43 h h' ∧ (∀ k, k < 7 → gi h' 15 k = gi h 43 k) ∧ (∀ k, k < 8 → gi h' 16 k = gi h 44 k ∧ gi h' 17 k = gi h 45 k ∧ gi h' 18 k = gi h 46 k ∧ gi h' 19 k = gi h 47 k ∧ gi h' 20 k = gi h 48 k) ∧ ∀ k, k < 20 → gi h' 21 k = gi h 49 k ∧ gi h' 22 k = gi h 50 k ∧ gi h' 23 k = gi h 51 k
theorem sp_take_15_43 {h : pm_H} {d : Nat} (hh : HH h) : Sp (d + 1) 54 h [.ref 15, .ref 43] (TkQ_15_43 h) := by
  refine Sp_of aiX5_take rfl rfl rfl ?_
  have L0 : pm_get (lv_args 0 [.ref 15, .ref 43]) 0 = some (.ref 15) := rfl
  have L1 : pm_get (lv_args 0 [.ref 15, .ref 43]) 1 = some (.ref 43) := rfl
  generalize lv_args 0 [.ref 15, .ref 43] = lv at L0 L1 ⊢
  have st : ∀ {k : Nat} {q : Int × Int} {g : pm_H}, k < 7 → bd 15 k = some q → bd 43 k = some q → HH g → fr_g [(15, 0, 6)] h g → (∀ i, i < k → gi g 15 i = gi h 43 i) → HH (pt g 15 k (gi h 43 k)) ∧ fr_g [(15, 0, 6)] h (pt g 15 k (gi h 43 k)) ∧ ∀ i, i < k + 1 → gi (pt g 15 k (gi h 43 k)) 15 i = gi h 43 i := by
    intro k q g hk hb hb2 hg hf ha
    have b := (ld_gi hh hb2).2
    refine ⟨HH_pt hg hb b.1 b.2, fr_ptr (l := 0) (u := 6) rfl (by omega) (by omega) hf, fun i hi => ?_⟩
    by_cases e : i = k
    · rw [e]; exact gi_pt hg hb b.1 b.2
    · rw [gi_ne (fun _ => e)]; exact ha i (by omega)
  refine E_al rfl L0 ?_
  refine E_al rfl L1 ?_
  refine E_ogf (q := (0, 8)) (v := gi h 43 0) rfl hh rfl rfl rfl ?_
  refine E_opf (q := (0, 8)) rfl hh rfl rfl ?_
  obtain ⟨a0, b0, c0⟩ := st (k := 0) (q := (0, 8)) (by decide) rfl rfl hh (fr_rf _ _) (fun i hi => absurd hi (Nat.not_lt_zero i))
  refine E_al rfl L0 ?_
  refine E_al rfl L1 ?_
  refine E_ogf (q := (0, 3)) (v := gi h 43 1) rfl a0 rfl rfl (fr_gi b0 (rg_no rfl _)) ?_
  refine E_opf (q := (0, 3)) rfl a0 rfl rfl ?_
  obtain ⟨a1, b1, c1⟩ := st (k := 1) (q := (0, 3)) (by decide) rfl rfl a0 b0 c0
  refine E_al rfl L0 ?_
  refine E_al rfl L1 ?_
  refine E_ogf (q := (0, 10)) (v := gi h 43 2) rfl a1 rfl rfl (fr_gi b1 (rg_no rfl _)) ?_
  refine E_opf (q := (0, 10)) rfl a1 rfl rfl ?_
  obtain ⟨a2, b2, c2⟩ := st (k := 2) (q := (0, 10)) (by decide) rfl rfl a1 b1 c1
  refine E_al rfl L0 ?_
  refine E_al rfl L1 ?_
  refine E_ogf (q := ((-2147483648), 2147483647)) (v := gi h 43 3) rfl a2 rfl rfl (fr_gi b2 (rg_no rfl _)) ?_
  refine E_opf (q := ((-2147483648), 2147483647)) rfl a2 rfl rfl ?_
  obtain ⟨a3, b3, c3⟩ := st (k := 3) (q := ((-2147483648), 2147483647)) (by decide) rfl rfl a2 b2 c2
  refine E_al rfl L0 ?_
  refine E_al rfl L1 ?_
  refine E_ogf (q := (0, 8)) (v := gi h 43 4) rfl a3 rfl rfl (fr_gi b3 (rg_no rfl _)) ?_
  refine E_opf (q := (0, 8)) rfl a3 rfl rfl ?_
  obtain ⟨a4, b4, c4⟩ := st (k := 4) (q := (0, 8)) (by decide) rfl rfl a3 b3 c3
  refine E_al rfl L0 ?_
  refine E_al rfl L1 ?_
  refine E_ogf (q := (0, 8)) (v := gi h 43 5) rfl a4 rfl rfl (fr_gi b4 (rg_no rfl _)) ?_
  refine E_opf (q := (0, 8)) rfl a4 rfl rfl ?_
  obtain ⟨a5, b5, c5⟩ := st (k := 5) (q := (0, 8)) (by decide) rfl rfl a4 b4 c4
  refine E_al rfl L0 ?_
  refine E_al rfl L1 ?_
  refine E_ogf (q := (0, 20)) (v := gi h 43 6) rfl a5 rfl rfl (fr_gi b5 (rg_no rfl _)) ?_
  refine E_opf (q := (0, 20)) rfl a5 rfl rfl ?_
  obtain ⟨a6, b6, c6⟩ := st (k := 6) (q := (0, 20)) (by decide) rfl rfl a5 b5 c5
  generalize (pt (pt (pt (pt (pt (pt (pt h 15 0 (gi h 43 0)) 15 1 (gi h 43 1)) 15 2 (gi h 43 2)) 15 3 (gi h 43 3)) 15 4 (gi h 43 4)) 15 5 (gi h 43 5)) 15 6 (gi h 43 6)) = h6 at a6 b6 c6 ⊢
  refine E_ci 0 rfl ci0 ?_
  refine E_is rfl (fun lv1 K2 kp => ?_)
  refine tk1_15_43 a6 (fun h7 lv2 hh7 f7 c7 M0 M1 => ?_) 8 (i := 0) lv1 (by omega) a6 (fr_rf _ _) (fun k hk => absurd hk (Nat.not_lt_zero k)) (kp 0 _ (nbz rfl) rfl L0) (kp 1 _ (nbz rfl) rfl L1) K2
  refine E_ci 0 rfl ci0 ?_
  refine E_is rfl (fun lv3 K3 kp3 => ?_)
  refine tk2_15_43 hh7 (fun h8 lv4 hh8 f8 c8 N0 N1 => ?_) 20 (i := 0) lv3 (by omega) hh7 (fr_rf _ _) (fun k hk => absurd hk (Nat.not_lt_zero k)) (kp3 0 _ (nbz rfl) rfl M0) (kp3 1 _ (nbz rfl) rfl M1) K3
  refine E_ret rfl ⟨rfl, hh8, fr_trans (fr_wk rfl b6) (fr_trans (fr_wk rfl f7) (fr_wk rfl f8)), fun k hk => ?_, fun k hk => ?_, fun k hk => ?_⟩
  · rw [fr_gi f8 (rg_no rfl _), fr_gi f7 (rg_no rfl _)]; exact c6 k hk
  · obtain ⟨q1, q2, q3, q4, q5⟩ := c7 k hk
    refine ⟨?_, ?_, ?_, ?_, ?_⟩
    · rw [fr_gi f8 (rg_no rfl _), q1, fr_gi b6 (rg_no rfl _)]
    · rw [fr_gi f8 (rg_no rfl _), q2, fr_gi b6 (rg_no rfl _)]
    · rw [fr_gi f8 (rg_no rfl _), q3, fr_gi b6 (rg_no rfl _)]
    · rw [fr_gi f8 (rg_no rfl _), q4, fr_gi b6 (rg_no rfl _)]
    · rw [fr_gi f8 (rg_no rfl _), q5, fr_gi b6 (rg_no rfl _)]
  · obtain ⟨q6, q7, q8⟩ := c8 k hk
    refine ⟨?_, ?_, ?_⟩
    · rw [q6, fr_gi f7 (rg_no rfl _), fr_gi b6 (rg_no rfl _)]
    · rw [q7, fr_gi f7 (rg_no rfl _), fr_gi b6 (rg_no rfl _)]
    · rw [q8, fr_gi f7 (rg_no rfl _), fr_gi b6 (rg_no rfl _)]
end
section
/-! a street taken over: the summaries of take by hand (wants t1, t52b) -/
theorem FA_cp {h h' : pm_H} {T G T' G' : Nat} (hh : HH h) (hh' : HH h') (c1 : ∀ i, i < 20 → bd T i = some (0, 1)) (c2 : ∀ i, i < 20 → bd G i = some (0, 8)) (d1 : ∀ i, i < 20 → bd T' i = some (0, 1)) (d2 : ∀ i, i < 20 → bd G' i = some (0, 8)) (e : ∀ i, i < 20 → gi h' G' i = gi h G i ∧ gi h' T' i = gi h T i) (F : FA T 0 G 0 1 20 h) : FA T' 0 G' 0 1 20 h' := by
  intro i hi hj t g ht hg hz
  have k : 0 + 1 * i = i := by omega
  rw [k] at ht hg
  rw [(ld_gi hh' (d1 i hi)).1] at ht
  rw [(ld_gi hh' (d2 i hi)).1] at hg
  injection ht with ht
  injection ht with ht
  injection hg with hg
  injection hg with hg
  exact F i hi hj t g (by rw [k, (ld_gi hh (c1 i hi)).1, ← (e i hi).2, ht]) (by rw [k, (ld_gi hh (c2 i hi)).1, ← (e i hi).1, hg]) hz
theorem tk_sum {A B fA fB TA GA TB GB : Nat} {M : List Rng} (sp : ∀ {h : pm_H}, HH h → Sp 1 54 h [.ref A, .ref B] (fun h' r => r = none ∧ HH h' ∧ fr_g M h h' ∧ ∀ i, i < 20 → gi h' GA i = gi h GB i ∧ gi h' TA i = gi h TB i)) (b1 : ∀ i, i < 20 → bd TB i = some (0, 1)) (b2 : ∀ i, i < 20 → bd GB i = some (0, 8)) (b3 : ∀ i, i < 20 → bd TA i = some (0, 1)) (b4 : ∀ i, i < 20 → bd GA i = some (0, 8)) (eB : ∀ h, w0.1.2.1 fB h = FA TB 0 GB 0 1 20 h) (eA : ∀ h, w0.1.2.1 fA h = FA TA 0 GA 0 1 20 h) {fs : List Nat} (hfs : fB ∈ fs) : sum_g w0 (pm_Rt pm_P 1) (54, [cR A, cR B], [], fs, M, [([cR A, cR B], [], [fA], none)]) := by
  intro h as hh ha _ hf
  match as, ha with
  | [.ref a, .ref b], ⟨h1, h2, _⟩ =>
    have h1 : a = A := h1
    have h2 : b = B := h2
    subst h1
    subst h2
    obtain ⟨h', r, p1, rfl, hh', fr, t⟩ := sp hh
    have fb : FA TB 0 GB 0 1 20 h := (eB h) ▸ hf fB hfs
    refine ⟨h', none, p1, hh', fr, _, List.mem_cons_self, ⟨rfl, rfl, trivial⟩, fun _ hq => absurd hq List.not_mem_nil, fun i hi => ?_, trivial⟩
    rw [List.mem_singleton.mp hi, eA]
    exact FA_cp hh hh' b1 b2 b3 b4 t fb
theorem tkq_43_15 : sum_g w0 (pm_Rt pm_P 1) (54, [cR 43, cR 15], [], [41, 104], TkF_43_15, [([cR 43, cR 15], [], [104], none)]) := by
  refine tk_sum (TA := 51) (GA := 50) (TB := 23) (GB := 22) (fB := 41) (fun hh => Sp_mono ?_ (sp_take_43_15 (d := 0) hh)) (fun i hi => bd_u rfl (by omega)) (fun i hi => bd_u rfl (by omega)) (fun i hi => bd_u rfl (by omega)) (fun i hi => bd_u rfl (by omega)) (fun _ => rfl) (fun _ => rfl) (List.mem_cons_self)
  rintro h' r ⟨e1, e2, e3, -, -, e4⟩
  exact ⟨e1, e2, e3, fun i hi => ⟨(e4 i hi).2.1, (e4 i hi).2.2⟩⟩
theorem tkq_34_15 : sum_g w0 (pm_Rt pm_P 1) (54, [cR 34, cR 15], [], [41, 83], TkF_34_15, [([cR 34, cR 15], [], [83], none)]) := by
  refine tk_sum (TA := 42) (GA := 41) (TB := 23) (GB := 22) (fB := 41) (fun hh => Sp_mono ?_ (sp_take_34_15 (d := 0) hh)) (fun i hi => bd_u rfl (by omega)) (fun i hi => bd_u rfl (by omega)) (fun i hi => bd_u rfl (by omega)) (fun i hi => bd_u rfl (by omega)) (fun _ => rfl) (fun _ => rfl) (List.mem_cons_self)
  rintro h' r ⟨e1, e2, e3, -, -, e4⟩
  exact ⟨e1, e2, e3, fun i hi => ⟨(e4 i hi).2.1, (e4 i hi).2.2⟩⟩
theorem tkq_25_15 : sum_g w0 (pm_Rt pm_P 1) (54, [cR 25, cR 15], [], [41, 62], TkF_25_15, [([cR 25, cR 15], [], [62], none)]) := by
  refine tk_sum (TA := 33) (GA := 32) (TB := 23) (GB := 22) (fB := 41) (fun hh => Sp_mono ?_ (sp_take_25_15 (d := 0) hh)) (fun i hi => bd_u rfl (by omega)) (fun i hi => bd_u rfl (by omega)) (fun i hi => bd_u rfl (by omega)) (fun i hi => bd_u rfl (by omega)) (fun _ => rfl) (fun _ => rfl) (List.mem_cons_self)
  rintro h' r ⟨e1, e2, e3, -, -, e4⟩
  exact ⟨e1, e2, e3, fun i hi => ⟨(e4 i hi).2.1, (e4 i hi).2.2⟩⟩
theorem tkq_15_43 : sum_g w0 (pm_Rt pm_P 1) (54, [cR 15, cR 43], [], [41, 104], TkF_15_43, [([cR 15, cR 43], [], [41], none)]) := by
  refine tk_sum (TA := 23) (GA := 22) (TB := 51) (GB := 50) (fB := 104) (fun hh => Sp_mono ?_ (sp_take_15_43 (d := 0) hh)) (fun i hi => bd_u rfl (by omega)) (fun i hi => bd_u rfl (by omega)) (fun i hi => bd_u rfl (by omega)) (fun i hi => bd_u rfl (by omega)) (fun _ => rfl) (fun _ => rfl) (List.mem_cons_of_mem _ List.mem_cons_self)
  rintro h' r ⟨e1, e2, e3, -, -, e4⟩
  exact ⟨e1, e2, e3, fun i hi => ⟨(e4 i hi).2.1, (e4 i hi).2.2⟩⟩
theorem tkq_15_34 : sum_g w0 (pm_Rt pm_P 1) (54, [cR 15, cR 34], [], [41, 83], TkF_15_34, [([cR 15, cR 34], [], [41], none)]) := by
  refine tk_sum (TA := 23) (GA := 22) (TB := 42) (GB := 41) (fB := 83) (fun hh => Sp_mono ?_ (sp_take_15_34 (d := 0) hh)) (fun i hi => bd_u rfl (by omega)) (fun i hi => bd_u rfl (by omega)) (fun i hi => bd_u rfl (by omega)) (fun i hi => bd_u rfl (by omega)) (fun _ => rfl) (fun _ => rfl) (List.mem_cons_of_mem _ List.mem_cons_self)
  rintro h' r ⟨e1, e2, e3, -, -, e4⟩
  exact ⟨e1, e2, e3, fun i hi => ⟨(e4 i hi).2.1, (e4 i hi).2.2⟩⟩
theorem tkq_15_25 : sum_g w0 (pm_Rt pm_P 1) (54, [cR 15, cR 25], [], [41, 62], TkF_15_25, [([cR 15, cR 25], [], [41], none)]) := by
  refine tk_sum (TA := 23) (GA := 22) (TB := 33) (GB := 32) (fB := 62) (fun hh => Sp_mono ?_ (sp_take_15_25 (d := 0) hh)) (fun i hi => bd_u rfl (by omega)) (fun i hi => bd_u rfl (by omega)) (fun i hi => bd_u rfl (by omega)) (fun i hi => bd_u rfl (by omega)) (fun _ => rfl) (fun _ => rfl) (List.mem_cons_of_mem _ List.mem_cons_self)
  rintro h' r ⟨e1, e2, e3, -, -, e4⟩
  exact ⟨e1, e2, e3, fun i hi => ⟨(e4 i hi).2.1, (e4 i hi).2.2⟩⟩
theorem tkq_15_4 : sum_g w0 (pm_Rt pm_P 1) (54, [cR 15, cR 4], [], [20, 41], TkF_15_4, [([cR 15, cR 4], [], [41], none)]) := by
  refine tk_sum (TA := 23) (GA := 22) (TB := 12) (GB := 11) (fB := 20) (fun hh => Sp_mono ?_ (sp_take_15_4 (d := 0) hh)) (fun i hi => bd_u rfl (by omega)) (fun i hi => bd_u rfl (by omega)) (fun i hi => bd_u rfl (by omega)) (fun i hi => bd_u rfl (by omega)) (fun _ => rfl) (fun _ => rfl) (List.mem_cons_self)
  rintro h' r ⟨e1, e2, e3, -, -, e4⟩
  exact ⟨e1, e2, e3, fun i hi => ⟨(e4 i hi).2.1, (e4 i hi).2.2⟩⟩
end
section
/-! by hand: whyNot of the reference (its summary S643 in place of the executor's check) -/
theorem sp_isCarL {h : pm_H} {d : Nat} {y : Int64} (hh : HH h) : Sp (d + 2) 267 h [.ref 77, .long y] (fun h' r => h' = h ∧ r = some (.int (zb (0 ≤ y.toInt ∧ y.toInt ≤ (gn h 84 3 : Int) - 1)))) := by
  refine Sp_of aiX9_isCar rfl rfl rfl ?_
  refine E_ll rfl (x := y) rfl ?_
  refine E_c rfl ?_
  refine E_al rfl (x := 77) rfl ?_
  refine E_call rfl (sp_cars hh) (chk77 hh rfl rfl (by show 4 ≤ 8; decide)) (fun h1 r1 => ?_)
  rintro ⟨e1, f1, c1⟩
  rw [e1, f1]
  refine E_i2l rfl ?_
  refine E_c rfl ?_
  refine E_lbin rfl ?_
  refine E_call rfl (sp_in (x := y) rfl (b := 0) rfl (c := (gn h 84 3 : Int) - 1) (i2l_sub1 (by omega))) (chkS rfl (by show 0 ≤ 8; decide)) (fun h2 r2 => ?_)
  rintro ⟨e2, f2⟩
  rw [e2, f2]
  exact E_rtz rfl (zb_01 _) ⟨rfl, rfl⟩
theorem nJ_mulE (a b : Nat) : nJ a * nJ b = nJ (a * b) := by
  unfold nJ
  rw [← Int32.ofInt_mul]
  rfl
noncomputable def WnQ (h : pm_H) (x : Int32) (h' : pm_H) (r : Option Value) : Prop := h' = h ∧ ((∃ y : Int32, r = some (.int y) ∧ -6 ≤ y.toInt ∧ y.toInt ≤ -2) ∨ ∃ s, s < 4 ∧ x = nJ s ∧ r = some (.int 0) ∧ 0 ≤ (gi h 78 s).toInt ∧ 1 ≤ (gi h 83 0).toInt ∧ LDf 80 (60 * s) 2 0 7 79 s h)
section WN
variable {h : pm_H} {d : Nat} {x : Int32}
theorem wn_lp {s : Nat} (hh : HH h) (hs : s < 4) (hx : x = nJ s) (hf : 0 ≤ (gi h 78 s).toInt) (hq : 1 ≤ (gi h 83 0).toInt) (ev : gn h 79 s % 2 = 0) (j : Nat) : ∀ {k : Nat} (lv : List (Nat × Value)), gn h 79 s ≤ 2 * k + j → k ≤ 30 → (∀ m, m < k → 0 ≤ (gl h 80 (60 * s + 2 * m)).toInt ∧ (gl h 80 (60 * s + 2 * m)).toInt ≤ 7) → pm_get lv 0 = some (.ref 77) → pm_get lv 1 = some (.int (nJ s)) → pm_get lv 3 = some (.int (nJ (2 * k))) → Ends (pm_at tX9_whyNot) (pm_Rt pm_P (d + 2)) (50, lv, [], h, 0, 0) (WnQ h x) := by
  have b79 : bd 79 s = some (0, 60) := bd_u rfl (by omega)
  have hn : gn h 79 s ≤ 60 := gn_hi hh b79 (by decide)
  have n8 : gn h 84 3 ≤ 8 := gn_hi hh rfl (by decide)
  have no : ∀ (lv : List (Nat × Value)), Ends (pm_at tX9_whyNot) (pm_Rt pm_P (d + 2)) (103, lv, [], h, 0, 0) (WnQ h x) := by
    intro lv
    refine E_c rfl ?_
    exact E_rti rfl ⟨rfl, .inl ⟨_, rfl, by decide, by decide⟩⟩
  have yes : ∀ {k : Nat} (lv : List (Nat × Value)), gn h 79 s ≤ 2 * k → (∀ m, m < k → 0 ≤ (gl h 80 (60 * s + 2 * m)).toInt ∧ (gl h 80 (60 * s + 2 * m)).toInt ≤ 7) → Ends (pm_at tX9_whyNot) (pm_Rt pm_P (d + 2)) (112, lv, [], h, 0, 0) (WnQ h x) := by
    intro k lv hk hi
    refine E_ci 0 rfl ci0 ?_
    refine E_rti rfl ⟨rfl, .inr ⟨s, hs, hx, rfl, hf, hq, fun n m h1 h2 => ?_⟩⟩
    rw [(ld_gi hh b79).1] at h1
    cases h1
    have h3 : (gi h 79 s).toInt = gn h 79 s := by rw [gi_gn hh b79 (by decide), nJ_toInt (by omega), gn_of (gi_gn hh b79 (by decide)) (by omega)]
    exact ⟨_, ld_gl hh (len := 240) rfl, (hi m (by omega)).1, (hi m (by omega)).2⟩
  induction j with
  | zero =>
    intro k lv hj hk hi L0 L1 L3
    refine E_il rfl L3 ?_
    refine E_al rfl L0 ?_
    refine E_gr rfl hh (q := 79) rfl ?_
    refine E_il rfl L1 ?_
    refine E_ial rfl hh rfl (by omega) (by decide) (gi_gn hh b79 (by decide)) ?_
    refine E_icT rfl (decide_eq_true ((nJ_le (by omega) (by omega)).mpr (by omega))) ?_
    exact yes lv (by omega) hi
  | succ j ih =>
    intro k lv hj hk hi L0 L1 L3
    refine E_il rfl L3 ?_
    refine E_al rfl L0 ?_
    refine E_gr rfl hh (q := 79) rfl ?_
    refine E_il rfl L1 ?_
    refine E_ial rfl hh rfl (by omega) (by decide) (gi_gn hh b79 (by decide)) ?_
    by_cases b0 : gn h 79 s ≤ 2 * k
    · refine E_icT rfl (decide_eq_true ((nJ_le (by omega) (by omega)).mpr b0)) ?_
      exact yes lv b0 hi
    refine E_icF rfl (decide_eq_false (fun q => b0 ((nJ_le (by omega) (by omega)).mp q))) ?_
    refine E_ci 60 rfl ci60 ?_
    refine E_il rfl L1 ?_
    refine E_bin rfl (nJ_mulE _ _) ?_
    refine E_il rfl L3 ?_
    refine E_bin rfl (nJ_add _ _) ?_
    refine E_is rfl (fun lv1 M4 kp => ?_)
    have M0 := kp 0 _ (nbz rfl) rfl L0
    have M1 := kp 1 _ (nbz rfl) rfl L1
    have M3 := kp 3 _ (nbz rfl) rfl L3
    refine E_al rfl M0 ?_
    refine E_al rfl M0 ?_
    refine E_gr rfl hh (q := 80) rfl ?_
    refine E_il rfl M4 ?_
    refine E_lal (len := 240) rfl hh rfl (by omega) (by decide) ?_
    refine E_call rfl (sp_isCarL (d := d) hh) (chk77 hh rfl rfl (by show 0 ≤ 8; decide)) (fun h1 r1 => ?_)
    rintro ⟨e1, f1⟩
    rw [e1, f1]
    by_cases b1 : 0 ≤ (gl h 80 (60 * s + 2 * k)).toInt ∧ (gl h 80 (60 * s + 2 * k)).toInt ≤ (gn h 84 3 : Int) - 1
    · refine E_ifF rfl (by rw [zb_T b1]; rfl) ?_
      refine E_al rfl M0 ?_
      refine E_gr rfl hh (q := 80) rfl ?_
      refine E_il rfl M4 ?_
      refine E_ci 1 rfl ci1 ?_
      refine E_bin rfl (nJ_add _ _) ?_
      refine E_lal (len := 240) rfl hh rfl (by omega) (by decide) ?_
      refine E_c rfl ?_
      refine E_al rfl M0 ?_
      refine E_call rfl (Sp_le (by first | exact Nat.add_le_add_left (Nat.le_of_ble_eq_true rfl) _ | exact Nat.le_of_ble_eq_true rfl | omega) (sp_places (d := d) hh)) (chk77 hh rfl rfl (by show 4 ≤ 8; decide)) (fun h2 r2 => ?_)
      rintro ⟨e2, f2, c2⟩
      rw [e2, f2]
      refine E_i2l rfl ?_
      refine E_call rfl (Sp_le (by first | exact Nat.add_le_add_left (Nat.le_of_ble_eq_true rfl) _ | exact Nat.le_of_ble_eq_true rfl | omega) (sp_in (d := d) rfl (b := 0) rfl (c := (gn h 84 0 : Int)) (i2l_nJ (by omega)))) (chkS rfl (by show 0 ≤ 8; decide)) (fun h3 r3 => ?_)
      rintro ⟨e3, f3⟩
      rw [e3, f3]
      by_cases b2 : 0 ≤ (gl h 80 (60 * s + 2 * k + 1)).toInt ∧ (gl h 80 (60 * s + 2 * k + 1)).toInt ≤ (gn h 84 0 : Int)
      · refine E_ifT rfl (by rw [zb_T b2]; rfl) ?_
        refine E_inc rfl M3 (show nJ (2 * k) + 2 = nJ (2 * (k + 1)) from nJ_add (2 * k) 2) (fun lv2 N3 kp2 => ?_)
        refine E_goto rfl ?_
        refine ih lv2 (by omega) (by omega) (fun m hm => ?_) (kp2 0 _ (nbz rfl) rfl M0) (kp2 1 _ (nbz rfl) rfl M1) N3
        by_cases e : m = k
        · rw [e]; exact ⟨b1.1, by omega⟩
        · exact hi m (by omega)
      · refine E_ifF rfl (by rw [zb_F b2]; rfl) ?_
        exact no lv1
    · refine E_ifT rfl (by rw [zb_F b1]; rfl) ?_
      exact no lv1
theorem par_tab : ∀ m : Fin 61, (nJ m.val - nJ m.val / 2 * 2 = 0) ↔ m.val % 2 = 0 := by decide +kernel
theorem sp_whyNotX (hh : HH h) : Sp (d + 3) 372 h [.ref 77, .int x, .int (nJ 1)] (WnQ h x) := by
  refine Sp_of aiX9_whyNot rfl rfl rfl ?_
  have L0 : pm_get (lv_args 0 [.ref 77, .int x, .int (nJ 1)]) 0 = some (.ref 77) := rfl
  have L1 : pm_get (lv_args 0 [.ref 77, .int x, .int (nJ 1)]) 1 = some (.int x) := rfl
  have L2 : pm_get (lv_args 0 [.ref 77, .int x, .int (nJ 1)]) 2 = some (.int (nJ 1)) := rfl
  generalize lv_args 0 [.ref 77, .int x, .int (nJ 1)] = lv at L0 L1 L2 ⊢
  have no : Ends (pm_at tX9_whyNot) (pm_Rt pm_P (d + 2)) (18, lv, [], h, 0, 0) (WnQ h x) := by
    refine E_c rfl ?_
    exact E_rti rfl ⟨rfl, .inl ⟨_, rfl, by decide, by decide⟩⟩
  refine E_il rfl L1 ?_
  refine E_call rfl (sp_isSlot (d := d)) (chkS rfl (by show 0 ≤ 8; decide)) (fun h1 r1 => ?_)
  rintro ⟨e1, f1⟩
  rw [e1, f1]
  by_cases b1 : 0 ≤ x.toInt ∧ x.toInt ≤ 3
  · refine E_ifF rfl (by rw [zb_T b1]; rfl) ?_
    obtain ⟨s, hs, rfl⟩ : ∃ s, s < 4 ∧ x = nJ s := ⟨x.toInt.toNat, by omega, nJ_of b1.1⟩
    refine E_al rfl L0 ?_
    refine E_call rfl (Sp_le (by first | exact Nat.add_le_add_left (Nat.le_of_ble_eq_true rfl) _ | exact Nat.le_of_ble_eq_true rfl | omega) (sp_isStreet (d := d) hh)) (chk77 hh rfl rfl (by show 0 ≤ 8; decide)) (fun h2 r2 => ?_)
    rintro ⟨e2, f2⟩
    rw [e2, f2]
    by_cases b2 : 0 < (gi h 83 0).toInt
    · refine E_ifF rfl (by rw [zb_T b2]; rfl) ?_
      refine E_il rfl L2 ?_
      refine E_ifT rfl (by decide) ?_
      refine E_al rfl L0 ?_
      refine E_gr rfl hh (q := 78) rfl ?_
      refine E_il rfl L1 ?_
      refine E_ial rfl hh rfl (by omega) (by decide) rfl ?_
      refine E_c rfl ?_
      have b78 : bd 78 s = some (-1, 3) := bd_u rfl (by omega)
      have r78 := (ld_gi hh b78).2
      dsimp only at r78
      have z1 : (-1 : Int32).toInt = -1 := rfl
      by_cases b3 : gi h 78 s = -1
      · refine E_icF rfl (decide_eq_false (fun q => q b3)) ?_
        refine E_c rfl ?_
        exact E_rti rfl ⟨rfl, .inl ⟨_, rfl, by decide, by decide⟩⟩
      · refine E_icT rfl (decide_eq_true b3) ?_
        have f0 : 0 ≤ (gi h 78 s).toInt := by
          have : ¬ (gi h 78 s).toInt = -1 := fun q => b3 (Int32.toInt_inj.mp (by rw [q, z1]))
          omega
        have b79 : bd 79 s = some (0, 60) := bd_u rfl (by omega)
        have hn : gn h 79 s ≤ 60 := gn_hi hh b79 (by decide)
        refine E_al rfl L0 ?_
        refine E_gr rfl hh (q := 79) rfl ?_
        refine E_il rfl L1 ?_
        refine E_ial rfl hh rfl (by omega) (by decide) (gi_gn hh b79 (by decide)) ?_
        refine E_c rfl ?_
        refine E_dv rfl (by decide) ?_
        have pt := par_tab ⟨gn h 79 s, by omega⟩
        by_cases b4 : gn h 79 s % 2 = 0
        · refine E_ifT rfl (decide_eq_true (pt.mpr b4)) ?_
          refine E_ci 0 rfl ci0 ?_
          refine E_is rfl (fun lv1 K3 kp => ?_)
          exact wn_lp hh hs rfl f0 (by omega) b4 60 (k := 0) lv1 (by omega) (by omega) (fun m hm => absurd hm (Nat.not_lt_zero m)) (kp 0 _ (nbz rfl) rfl L0) (kp 1 _ (nbz rfl) rfl L1) K3
        · refine E_ifF rfl (decide_eq_false (fun q => b4 (pt.mp q))) ?_
          refine E_c rfl ?_
          exact E_rti rfl ⟨rfl, .inl ⟨_, rfl, by decide, by decide⟩⟩
    · refine E_ifT rfl (by rw [zb_F b2]; rfl) ?_
      exact no
  · refine E_ifT rfl (by rw [zb_F b1]; rfl) ?_
    exact no
end WN
set_option maxRecDepth 20000 in
theorem wnq : sum_g w0 (pm_Rt pm_P 3) (372, [cR 77, cI (-2147483648) 2147483647, cI 1 1], [], [], [], [([cR 77, cI (-2147483648) 2147483647, cI 1 1], [], [], some (.inl (cI (-6) (-2)))), ([cR 77, cI 3 3, cI 1 1], [((78, 3), 0, 3), ((83, 0), 1, 2147483647)], [953], some (.inl (cI 0 0))), ([cR 77, cI 2 2, cI 1 1], [((78, 2), 0, 3), ((83, 0), 1, 2147483647)], [891], some (.inl (cI 0 0))), ([cR 77, cI 1 1, cI 1 1], [((78, 1), 0, 3), ((83, 0), 1, 2147483647)], [829], some (.inl (cI 0 0))), ([cR 77, cI 0 0, cI 1 1], [((78, 0), 0, 3), ((83, 0), 1, 2147483647)], [767], some (.inl (cI 0 0)))]) := by
  intro h as hh ha _ _
  match as, ha with
  | [.ref a, .int x, .int y], ⟨h1, h2, h3, _⟩ =>
    have h1 : a = 77 := h1
    have h3 : (1 : Int) ≤ y.toInt ∧ y.toInt ≤ 1 := h3
    have h4 : y = nJ 1 := Int32.toInt_inj.mp (show y.toInt = 1 by omega)
    subst h1
    subst h4
    obtain ⟨h', r, p1, e, p2⟩ := sp_whyNotX (d := 0) (x := x) hh
    subst e
    refine ⟨h', r, p1, hh, fun _ _ _ => rfl, ?_⟩
    have mm : ∀ {s : Nat}, s < 4 → 0 ≤ (gi h' 78 s).toInt → 1 ≤ (gi h' 83 0).toInt → ∀ q ∈ ([((78, s), 0, 3), ((83, 0), 1, 2147483647)] : MB), ∃ x : Int32, ld h' q.1.1 q.1.2 = some (.int x) ∧ q.2.1 ≤ x.toInt ∧ x.toInt ≤ q.2.2 := by
      intro s hs f1 f2 q hq
      have b78 : bd 78 s = some (-1, 3) := bd_u rfl (by omega)
      rcases List.mem_cons.mp hq with hq | hq
      · rw [hq]; exact ⟨_, (ld_gi hh b78).1, f1, (ld_gi hh b78).2.2⟩
      · rw [List.mem_singleton.mp hq]; exact ⟨_, (ld_gi hh (a := 83) (k := 0) rfl).1, f2, (ld_gi hh (a := 83) (k := 0) rfl).2.2⟩
    rcases p2 with ⟨y, rfl, y1, y2⟩ | ⟨s, hs, rfl, rfl, f0, f1, f2⟩
    · exact ⟨_, List.mem_cons_self, ⟨rfl, ⟨ai_lo x, ai_hi x⟩, ⟨by decide, by decide⟩, trivial⟩, fun _ hq => absurd hq List.not_mem_nil, fun _ hq => absurd hq List.not_mem_nil, ⟨y1, y2⟩⟩
    · match s, hs, f0, f1, f2 with
      | 0, hs, f0, f1, f2 => exact ⟨_, List.mem_cons_of_mem _ (List.mem_cons_of_mem _ (List.mem_cons_of_mem _ (List.mem_cons_of_mem _ List.mem_cons_self))), ⟨rfl, ⟨by decide, by decide⟩, ⟨by decide, by decide⟩, trivial⟩, mm hs f0 f1, fun i hi => by rw [List.mem_singleton.mp hi]; exact f2, ⟨by decide, by decide⟩⟩
      | 1, hs, f0, f1, f2 => exact ⟨_, List.mem_cons_of_mem _ (List.mem_cons_of_mem _ (List.mem_cons_of_mem _ List.mem_cons_self)), ⟨rfl, ⟨by decide, by decide⟩, ⟨by decide, by decide⟩, trivial⟩, mm hs f0 f1, fun i hi => by rw [List.mem_singleton.mp hi]; exact f2, ⟨by decide, by decide⟩⟩
      | 2, hs, f0, f1, f2 => exact ⟨_, List.mem_cons_of_mem _ (List.mem_cons_of_mem _ List.mem_cons_self), ⟨rfl, ⟨by decide, by decide⟩, ⟨by decide, by decide⟩, trivial⟩, mm hs f0 f1, fun i hi => by rw [List.mem_singleton.mp hi]; exact f2, ⟨by decide, by decide⟩⟩
      | 3, hs, f0, f1, f2 => exact ⟨_, List.mem_cons_of_mem _ List.mem_cons_self, ⟨rfl, ⟨by decide, by decide⟩, ⟨by decide, by decide⟩, trivial⟩, mm hs f0 f1, fun i hi => by rw [List.mem_singleton.mp hi]; exact f2, ⟨by decide, by decide⟩⟩
end
section
/-! by hand: isAsSeen of the class, isSo of the reference (their summaries for the four slots; wants t29, t37) -/
section SEE
variable {h : pm_H} {d : Nat}
theorem as_loop {s : Nat} (hh : HH h) (hs : s < 4) (F : LDf (55 + 2 * s) 0 2 1 7 (54 + 2 * s) 3 h) (j : Nat) : ∀ {k : Nat} (lv : List (Nat × Value)), gn h (54 + 2 * s) 3 ≤ 2 * k + j → k ≤ 31 → pm_get lv 0 = some (.ref 0) → pm_get lv 1 = some (.ref (54 + 2 * s)) → pm_get lv 2 = some (.int (nJ (2 * k))) → Ends (pm_at tX8_isAsSeen) (pm_Rt pm_P d) (2, lv, [], h, 0, 0) (fun h' r => h' = h ∧ (r = some (.int 1) ∨ (r = some (.int 0) ∧ 2 ≤ gn h (54 + 2 * s) 3))) := by
  obtain ⟨S1, S2, S3, S4, S5, S6⟩ := isS_at s hs
  have hn : gn h (54 + 2 * s) 3 ≤ 60 := gn_hi hh S6 (by decide)
  have yes : ∀ (lv : List (Nat × Value)), Ends (pm_at tX8_isAsSeen) (pm_Rt pm_P d) (48, lv, [], h, 0, 0) (fun h' r => h' = h ∧ (r = some (.int 1) ∨ (r = some (.int 0) ∧ 2 ≤ gn h (54 + 2 * s) 3))) := by
    intro lv
    refine E_c rfl ?_
    exact E_rtz rfl (.inr rfl) ⟨rfl, .inl rfl⟩
  induction j with
  | zero =>
    intro k lv hj hk L0 L1 L2
    refine E_il rfl L2 ?_
    refine E_ci 1 rfl ci1 ?_
    refine E_bin rfl (nJ_add _ _) ?_
    refine E_al rfl L1 ?_
    refine E_ogf rfl hh S1 S6 (gi_gn hh S6 (by decide)) ?_
    refine E_icT rfl (decide_eq_true ((nJ_le (by omega) (by omega)).mpr (by omega))) ?_
    exact yes lv
  | succ j ih =>
    intro k lv hj hk L0 L1 L2
    refine E_il rfl L2 ?_
    refine E_ci 1 rfl ci1 ?_
    refine E_bin rfl (nJ_add _ _) ?_
    refine E_al rfl L1 ?_
    refine E_ogf rfl hh S1 S6 (gi_gn hh S6 (by decide)) ?_
    by_cases b0 : gn h (54 + 2 * s) 3 ≤ 2 * k + 1
    · refine E_icT rfl (decide_eq_true ((nJ_le (by omega) (by omega)).mpr b0)) ?_
      exact yes lv
    refine E_icF rfl (decide_eq_false (fun q => b0 ((nJ_le (by omega) (by omega)).mp q))) ?_
    obtain ⟨x, e1, e2, e3⟩ := F (gi h (54 + 2 * s) 3) k (ld_gi hh S6).1 (by rw [gi_gn hh S6 (by decide), nJ_toInt (by omega)]; omega)
    have ex : gl h (55 + 2 * s) (2 * k) = x := by
      rw [show 0 + 2 * k = 2 * k by omega, ld_gl hh S3] at e1
      injection e1 with e1
      injection e1
    refine E_al rfl L0 ?_
    refine E_ogr (q := 62) rfl hh rfl rfl ?_
    refine E_ogr (q := 63) rfl hh rfl rfl ?_
    refine E_al rfl L1 ?_
    refine E_ogr rfl hh S1 S2 ?_
    refine E_il rfl L2 ?_
    refine E_lal rfl hh S3 (by omega) (by decide) ?_
    refine E_l2i rfl (show (gl h (55 + 2 * s) (2 * k)).toInt32 = nJ x.toInt.toNat from by
      rw [ex]
      apply Int32.toInt_inj.mp
      rw [Int64.toInt_toInt32, nJ_toInt (by omega), Int.bmod_eq_of_le (by omega) (by omega)]
      omega) ?_
    refine E_ial rfl hh rfl (by omega) (by decide) rfl ?_
    refine E_i2l rfl ?_
    refine E_al rfl L1 ?_
    refine E_ogr rfl hh S1 S2 ?_
    refine E_il rfl L2 ?_
    refine E_ci 1 rfl ci1 ?_
    refine E_bin rfl (nJ_add _ _) ?_
    refine E_lal rfl hh S3 (by omega) (by decide) ?_
    refine E_lcmp rfl ?_
    by_cases b1 : lg_cmp (gi h 63 x.toInt.toNat).toInt64 (gl h (55 + 2 * s) (2 * k + 1)) = 0
    · refine E_ifT rfl (decide_eq_true b1) ?_
      refine E_inc rfl L2 (show nJ (2 * k) + 2 = nJ (2 * (k + 1)) from nJ_add (2 * k) 2) (fun lv2 N2 kp2 => ?_)
      refine E_goto rfl ?_
      exact ih lv2 (by omega) (by omega) (kp2 0 _ (nbz rfl) rfl L0) (kp2 1 _ (nbz rfl) rfl L1) N2
    · refine E_ifF rfl (decide_eq_false b1) ?_
      refine E_c rfl ?_
      exact E_rtz rfl (.inl rfl) ⟨rfl, .inr ⟨rfl, by omega⟩⟩
theorem sp_isAsSeenB {s : Nat} (hh : HH h) (hs : s < 4) (F : LDf (55 + 2 * s) 0 2 1 7 (54 + 2 * s) 3 h) : Sp (d + 1) 124 h [.ref 0, .ref (54 + 2 * s)] (fun h' r => h' = h ∧ (r = some (.int 1) ∨ (r = some (.int 0) ∧ 2 ≤ gn h (54 + 2 * s) 3))) := by
  refine Sp_of aiX8_isAsSeen rfl rfl rfl ?_
  have L0 : pm_get (lv_args 0 [.ref 0, .ref (54 + 2 * s)]) 0 = some (.ref 0) := rfl
  have L1 : pm_get (lv_args 0 [.ref 0, .ref (54 + 2 * s)]) 1 = some (.ref (54 + 2 * s)) := rfl
  generalize lv_args 0 [.ref 0, .ref (54 + 2 * s)] = lv at L0 L1 ⊢
  refine E_ci 0 rfl ci0 ?_
  refine E_is rfl (fun lv1 K2 kp => ?_)
  have hn : gn h (54 + 2 * s) 3 ≤ 60 := gn_hi hh (isS_at s hs).2.2.2.2.2 (by decide)
  exact as_loop hh hs F 60 (k := 0) lv1 (by omega) (by omega) (kp 0 _ (nbz rfl) rfl L0) (kp 1 _ (nbz rfl) rfl L1) K2
theorem as_sum {s f : Nat} (hs : s < 4) (eF : ∀ h, w0.1.2.1 f h = LDf (55 + 2 * s) 0 2 1 7 (54 + 2 * s) 3 h) : sum_g w0 (pm_Rt pm_P 1) (124, [cR 0, cR (54 + 2 * s)], [], [f], [], [([cR 0, cR (54 + 2 * s)], [((54 + 2 * s, 3), 2, 60)], [], some (.inl (cI 0 0))), ([cR 0, cR (54 + 2 * s)], [], [], some (.inl (cI 1 1)))]) := by
  intro h as hh ha _ hf
  match as, ha with
  | [.ref a, .ref b], ⟨h1, h2, _⟩ =>
    have h1 : a = 0 := h1
    have h2 : b = 54 + 2 * s := h2
    subst h1
    subst h2
    obtain ⟨h', r, p1, e, p2⟩ := sp_isAsSeenB (d := 0) hh hs ((eF h) ▸ hf f List.mem_cons_self)
    subst e
    have S6 := (isS_at s hs).2.2.2.2.2
    refine ⟨h', r, p1, hh, fun _ _ _ => rfl, ?_⟩
    rcases p2 with rfl | ⟨rfl, q⟩
    · exact ⟨_, List.mem_cons_of_mem _ List.mem_cons_self, ⟨rfl, rfl, trivial⟩, fun _ hq => absurd hq List.not_mem_nil, fun _ hq => absurd hq List.not_mem_nil, ⟨by decide, by decide⟩⟩
    · refine ⟨_, List.mem_cons_self, ⟨rfl, rfl, trivial⟩, fun k hk => ?_, fun _ hq => absurd hq List.not_mem_nil, ⟨by decide, by decide⟩⟩
      rw [List.mem_singleton.mp hk]
      have hn : gn h' (54 + 2 * s) 3 ≤ 60 := gn_hi hh S6 (by decide)
      have tn := nJ_toInt (n := gn h' (54 + 2 * s) 3) (by omega)
      refine ⟨_, (ld_gi hh S6).1, ?_, ?_⟩
      · rw [gi_gn hh S6 (by decide), tn]; show (2 : Int) ≤ _; omega
      · rw [gi_gn hh S6 (by decide), tn]; show _ ≤ (60 : Int); omega
theorem sp_seenB {v : Nat} (hh : HH h) (v7 : v ≤ 7) : Sp (d + 1) 343 h [.ref 77, .int (nJ v)] (fun h' r => h' = h ∧ ∃ y : Int32, r = some (.int y)) := by
  refine Sp_of aiX9_seenPlace rfl rfl rfl ?_
  have L0 : pm_get (lv_args 0 [.ref 77, .int (nJ v)]) 0 = some (.ref 77) := rfl
  have L1 : pm_get (lv_args 0 [.ref 77, .int (nJ v)]) 1 = some (.int (nJ v)) := rfl
  generalize lv_args 0 [.ref 77, .int (nJ v)] = lv at L0 L1 ⊢
  refine E_al rfl L0 ?_
  refine E_gr rfl hh (q := 91) rfl ?_
  refine E_il rfl L1 ?_
  refine E_ial rfl hh rfl (by omega) (by decide) rfl ?_
  refine E_c rfl ?_
  by_cases b : gi h 91 v = -1
  · refine E_icF rfl (decide_eq_false (fun q => q b)) ?_
    refine E_c rfl ?_
    refine E_goto rfl ?_
    exact E_rti rfl ⟨rfl, _, rfl⟩
  · refine E_icT rfl (decide_eq_true b) ?_
    refine E_al rfl L0 ?_
    refine E_gr rfl hh (q := 91) rfl ?_
    refine E_il rfl L1 ?_
    refine E_ial rfl hh rfl (by omega) (by decide) rfl ?_
    exact E_rti rfl ⟨rfl, _, rfl⟩
theorem so_loop {s : Nat} (hh : HH h) (hs : s < 4) (F : LDf 80 (60 * s) 2 0 7 79 s h) (j : Nat) : ∀ {k : Nat} (lv : List (Nat × Value)), gn h 79 s ≤ 2 * k + j → k ≤ 31 → pm_get lv 0 = some (.ref 77) → pm_get lv 1 = some (.int (nJ s)) → pm_get lv 2 = some (.int (nJ (2 * k))) → Ends (pm_at tX9_isSo) (pm_Rt pm_P (d + 1)) (2, lv, [], h, 0, 0) (fun h' r => h' = h ∧ (r = some (.int 1) ∨ (r = some (.int 0) ∧ 1 ≤ gn h 79 s))) := by
  have b79 : bd 79 s = some (0, 60) := bd_u rfl (by omega)
  have hn : gn h 79 s ≤ 60 := gn_hi hh b79 (by decide)
  have yes : ∀ (lv : List (Nat × Value)), Ends (pm_at tX9_isSo) (pm_Rt pm_P (d + 1)) (54, lv, [], h, 0, 0) (fun h' r => h' = h ∧ (r = some (.int 1) ∨ (r = some (.int 0) ∧ 1 ≤ gn h 79 s))) := by
    intro lv
    refine E_c rfl ?_
    exact E_rtz rfl (.inr rfl) ⟨rfl, .inl rfl⟩
  induction j with
  | zero =>
    intro k lv hj hk L0 L1 L2
    refine E_il rfl L2 ?_
    refine E_al rfl L0 ?_
    refine E_gr rfl hh (q := 79) rfl ?_
    refine E_il rfl L1 ?_
    refine E_ial rfl hh rfl (by omega) (by decide) (gi_gn hh b79 (by decide)) ?_
    refine E_icT rfl (decide_eq_true ((nJ_le (by omega) (by omega)).mpr (by omega))) ?_
    exact yes lv
  | succ j ih =>
    intro k lv hj hk L0 L1 L2
    refine E_il rfl L2 ?_
    refine E_al rfl L0 ?_
    refine E_gr rfl hh (q := 79) rfl ?_
    refine E_il rfl L1 ?_
    refine E_ial rfl hh rfl (by omega) (by decide) (gi_gn hh b79 (by decide)) ?_
    by_cases b0 : gn h 79 s ≤ 2 * k
    · refine E_icT rfl (decide_eq_true ((nJ_le (by omega) (by omega)).mpr b0)) ?_
      exact yes lv
    refine E_icF rfl (decide_eq_false (fun q => b0 ((nJ_le (by omega) (by omega)).mp q))) ?_
    obtain ⟨x, e1, e2, e3⟩ := F (gi h 79 s) k (ld_gi hh b79).1 (by rw [gi_gn hh b79 (by decide), nJ_toInt (by omega)]; omega)
    have ex : gl h 80 (60 * s + 2 * k) = x := by
      rw [ld_gl hh (len := 240) rfl] at e1
      injection e1 with e1
      injection e1
    refine E_al rfl L0 ?_
    refine E_al rfl L0 ?_
    refine E_gr rfl hh (q := 80) rfl ?_
    refine E_ci 60 rfl ci60 ?_
    refine E_il rfl L1 ?_
    refine E_bin rfl (nJ_mulE _ _) ?_
    refine E_il rfl L2 ?_
    refine E_bin rfl (nJ_add _ _) ?_
    refine E_lal (len := 240) rfl hh rfl (by omega) (by decide) ?_
    refine E_l2i rfl (show (gl h 80 (60 * s + 2 * k)).toInt32 = nJ x.toInt.toNat from by
      rw [ex]
      apply Int32.toInt_inj.mp
      rw [Int64.toInt_toInt32, nJ_toInt (by omega), Int.bmod_eq_of_le (by omega) (by omega)]
      omega) ?_
    refine E_call rfl (sp_seenB (d := d) hh (by omega)) (chk77 hh rfl rfl (by show 0 ≤ 8; decide)) (fun h1 r1 => ?_)
    rintro ⟨f1, y, f2⟩
    rw [f1, f2]
    refine E_i2l rfl ?_
    refine E_al rfl L0 ?_
    refine E_gr rfl hh (q := 80) rfl ?_
    refine E_ci 60 rfl ci60 ?_
    refine E_il rfl L1 ?_
    refine E_bin rfl (nJ_mulE _ _) ?_
    refine E_il rfl L2 ?_
    refine E_bin rfl (nJ_add _ _) ?_
    refine E_ci 1 rfl ci1 ?_
    refine E_bin rfl (nJ_add _ _) ?_
    refine E_lal (len := 240) rfl hh rfl (by omega) (by decide) ?_
    refine E_lcmp rfl ?_
    by_cases b1 : lg_cmp y.toInt64 (gl h 80 (60 * s + 2 * k + 1)) = 0
    · refine E_ifT rfl (decide_eq_true b1) ?_
      refine E_inc rfl L2 (show nJ (2 * k) + 2 = nJ (2 * (k + 1)) from nJ_add (2 * k) 2) (fun lv2 N2 kp2 => ?_)
      refine E_goto rfl ?_
      exact ih lv2 (by omega) (by omega) (kp2 0 _ (nbz rfl) rfl L0) (kp2 1 _ (nbz rfl) rfl L1) N2
    · refine E_ifF rfl (decide_eq_false b1) ?_
      refine E_c rfl ?_
      exact E_rtz rfl (.inl rfl) ⟨rfl, .inr ⟨rfl, by omega⟩⟩
theorem sp_isSoB {s : Nat} (hh : HH h) (hs : s < 4) (F : LDf 80 (60 * s) 2 0 7 79 s h) : Sp (d + 2) 280 h [.ref 77, .int (nJ s)] (fun h' r => h' = h ∧ (r = some (.int 1) ∨ (r = some (.int 0) ∧ 1 ≤ gn h 79 s))) := by
  refine Sp_of aiX9_isSo rfl rfl rfl ?_
  have L0 : pm_get (lv_args 0 [.ref 77, .int (nJ s)]) 0 = some (.ref 77) := rfl
  have L1 : pm_get (lv_args 0 [.ref 77, .int (nJ s)]) 1 = some (.int (nJ s)) := rfl
  generalize lv_args 0 [.ref 77, .int (nJ s)] = lv at L0 L1 ⊢
  refine E_ci 0 rfl ci0 ?_
  refine E_is rfl (fun lv1 K2 kp => ?_)
  have hn : gn h 79 s ≤ 60 := gn_hi hh (bd_u rfl (by omega)) (by decide)
  exact so_loop hh hs F 60 (k := 0) lv1 (by omega) (by omega) (kp 0 _ (nbz rfl) rfl L0) (kp 1 _ (nbz rfl) rfl L1) K2
theorem so_sum {s f : Nat} {i : Int} (hs : s < 4) (hi : i = (s : Int)) (eF : ∀ h, w0.1.2.1 f h = LDf 80 (60 * s) 2 0 7 79 s h) : sum_g w0 (pm_Rt pm_P 2) (280, [cR 77, cI i i], [], [f], [], [([cR 77, cI i i], [((79, s), 1, 60)], [], some (.inl (cI 0 0))), ([cR 77, cI i i], [], [], some (.inl (cI 1 1)))]) := by
  intro h as hh ha _ hf
  match as, ha with
  | [.ref a, .int x], ⟨h1, h2, _⟩ =>
    have h1 : a = 77 := h1
    have h2 : i ≤ x.toInt ∧ x.toInt ≤ i := h2
    subst h1
    have hx : x = nJ s := Int32.toInt_inj.mp (by rw [nJ_toInt (by omega)]; omega)
    obtain ⟨h', r, p1, e, p2⟩ := sp_isSoB (d := 0) hh hs ((eF h) ▸ hf f List.mem_cons_self)
    subst e
    have b79 : bd 79 s = some (0, 60) := bd_u rfl (by omega)
    refine ⟨h', r, by rw [hx]; exact p1, hh, fun _ _ _ => rfl, ?_⟩
    rcases p2 with rfl | ⟨rfl, q⟩
    · exact ⟨_, List.mem_cons_of_mem _ List.mem_cons_self, ⟨rfl, h2, trivial⟩, fun _ hq => absurd hq List.not_mem_nil, fun _ hq => absurd hq List.not_mem_nil, ⟨by decide, by decide⟩⟩
    · refine ⟨_, List.mem_cons_self, ⟨rfl, h2, trivial⟩, fun k hk => ?_, fun _ hq => absurd hq List.not_mem_nil, ⟨by decide, by decide⟩⟩
      rw [List.mem_singleton.mp hk]
      have hn : gn h' 79 s ≤ 60 := gn_hi hh b79 (by decide)
      have tn := nJ_toInt (n := gn h' 79 s) (by omega)
      refine ⟨_, (ld_gi hh b79).1, ?_, ?_⟩
      · rw [gi_gn hh b79 (by decide), tn]; show (1 : Int) ≤ _; omega
      · rw [gi_gn hh b79 (by decide), tn]; show _ ≤ (60 : Int); omega
theorem asq0 : sum_g w0 (pm_Rt pm_P 1) (124, [cR 0, cR 54], [], [271], [], [([cR 0, cR 54], [((54, 3), 2, 60)], [], some (.inl (cI 0 0))), ([cR 0, cR 54], [], [], some (.inl (cI 1 1)))]) := as_sum (s := 0) (by omega) (fun _ => rfl)
theorem asq1 : sum_g w0 (pm_Rt pm_P 1) (124, [cR 0, cR 56], [], [333], [], [([cR 0, cR 56], [((56, 3), 2, 60)], [], some (.inl (cI 0 0))), ([cR 0, cR 56], [], [], some (.inl (cI 1 1)))]) := as_sum (s := 1) (by omega) (fun _ => rfl)
theorem asq2 : sum_g w0 (pm_Rt pm_P 1) (124, [cR 0, cR 58], [], [395], [], [([cR 0, cR 58], [((58, 3), 2, 60)], [], some (.inl (cI 0 0))), ([cR 0, cR 58], [], [], some (.inl (cI 1 1)))]) := as_sum (s := 2) (by omega) (fun _ => rfl)
theorem asq3 : sum_g w0 (pm_Rt pm_P 1) (124, [cR 0, cR 60], [], [457], [], [([cR 0, cR 60], [((60, 3), 2, 60)], [], some (.inl (cI 0 0))), ([cR 0, cR 60], [], [], some (.inl (cI 1 1)))]) := as_sum (s := 3) (by omega) (fun _ => rfl)
theorem soq0 : sum_g w0 (pm_Rt pm_P 2) (280, [cR 77, cI 0 0], [], [767], [], [([cR 77, cI 0 0], [((79, 0), 1, 60)], [], some (.inl (cI 0 0))), ([cR 77, cI 0 0], [], [], some (.inl (cI 1 1)))]) := so_sum (s := 0) (by omega) rfl (fun _ => rfl)
theorem soq1 : sum_g w0 (pm_Rt pm_P 2) (280, [cR 77, cI 1 1], [], [829], [], [([cR 77, cI 1 1], [((79, 1), 1, 60)], [], some (.inl (cI 0 0))), ([cR 77, cI 1 1], [], [], some (.inl (cI 1 1)))]) := so_sum (s := 1) (by omega) rfl (fun _ => rfl)
theorem soq2 : sum_g w0 (pm_Rt pm_P 2) (280, [cR 77, cI 2 2], [], [891], [], [([cR 77, cI 2 2], [((79, 2), 1, 60)], [], some (.inl (cI 0 0))), ([cR 77, cI 2 2], [], [], some (.inl (cI 1 1)))]) := so_sum (s := 2) (by omega) rfl (fun _ => rfl)
theorem soq3 : sum_g w0 (pm_Rt pm_P 2) (280, [cR 77, cI 3 3], [], [953], [], [([cR 77, cI 3 3], [((79, 3), 1, 60)], [], some (.inl (cI 0 0))), ([cR 77, cI 3 3], [], [], some (.inl (cI 1 1)))]) := so_sum (s := 3) (by omega) rfl (fun _ => rfl)
end SEE
end
section
/-! rows of long arrays, frames of one cell -/
theorem fr_one {M : List Rng} {h h' : pm_H} {c j l u : Nat} (hs : rg_sub M c l u = true) (h1 : l ≤ j) (h2 : j ≤ u) (hf : fr_g [(c, j, j)] h h') : fr_g M h h' := by
  intro b k hbk
  refine hf b k ?_
  cases hq : rg_in [(c, j, j)] b k with
  | false => rfl
  | true =>
    obtain ⟨r, hr, hc⟩ := List.any_eq_true.mp hq
    have er := List.mem_singleton.mp hr
    subst er
    simp only [Bool.and_eq_true] at hc
    have e1 : c = b := Nat.eq_of_beq_eq_true hc.1
    have e2 : j ≤ k := Nat.le_of_ble_eq_true hc.2.1
    have e3 : k ≤ j := Nat.le_of_ble_eq_true hc.2.2
    have e4 : k = j := by omega
    subst e1
    subst e4
    rw [rg_sub_in hs h1 h2] at hbk
    cases hbk
section SLT
variable {look : Nat → Option pm_I} {call : pm_Call} {Q : pm_H → Option Value → Prop} {pc n i t : Nat} {lv : List (Nat × Value)} {st : List Value} {w : pm_H × Nat × Nat} {h : pm_H} {z : Nat × Nat}
theorem E_opT {a c k : Nat} {q : Int × Int} {v : Int32} {ty : FieldType} (h1 : look pc = some (.inl (s_putf c k ty n))) (hf : pm_fit ty (.int v) = true) (hh : HH h) (hc : ciO a = some c) (hb : bd a k = some q) (kk : Ends look call (n, lv, st, pt h a k v, z) Q) : Ends look call (pc, lv, .int v :: .ref a :: st, h, z) Q := by
  obtain ⟨vs, hx, hv⟩ := obO hh hc
  have h2 := (ld_gi hh hb).1
  have h3 : vs[k]? = some (.int (gi h a k)) := by
    unfold ld at h2
    rw [hx] at h2
    exact h2
  have h4 : Nat.blt k vs.length = true := Nat.ble_eq_true_of_le (List.getElem?_eq_some_iff.mp h3).1
  have h5 : pt h a k v = h.set a (.inr (c, vs.set k (.int v))) := by unfold pt; rw [hx]
  refine E_st h1 ?_ kk
  simp only [s_putf, hx, h4, h5, hf, Nat.beq_refl, Bool.and_self, cond_true]
theorem E_las {a len j : Nat} {v : Int64} (h1 : look pc = some (.inl (s_last n))) (hh : HH h) (hc : hsF a = some (.inr (.inl len))) (hj : j < len) (hj2 : len < 2147483648) (kk : ∀ h', HH h' → fr_g [(a, j, j)] h h' → gl h' a j = v → Ends look call (n, lv, st, h', z) Q) : Ends look call (pc, lv, .long v :: .int (nJ j) :: .ref a :: st, h, z) Q := by
  obtain ⟨x, hx, hg⟩ := hf_at hh hc
  match x, hx, hg with
  | .inl (t2, len2, .inr (.inl f)), hx, hg =>
    obtain ⟨rfl, rfl⟩ := hg
    have h2 := nJ_toInt (n := j) (by omega)
    have h3 : pm_ix (nJ j) len2 = true := ai_ix (by omega) (by omega)
    have h4 : (nJ j).toNatClampNeg = j := by show (nJ j).toInt.toNat = j; omega
    have hl := (List.getElem?_eq_some_iff.mp hx).1
    refine E_st h1 (σ' := (n, lv, st, h.set a (.inl (3, len2, .inr (.inl (vp_updL f j v)))), z)) ?_ (kk _ (hf_set hh hc ⟨rfl, rfl⟩) ?_ ?_)
    · simp only [s_last, hx, h3, h4, cond_true]
    · intro b k hbk
      by_cases e : b = a
      · subst e
        have hk : k ≠ j := fun q => by
          rw [q, rg_in_one (Nat.le_refl _) (Nat.le_refl _) (List.mem_singleton_self _)] at hbk
          cases hbk
        unfold ld
        rw [List.getElem?_set_self hl, hx]
        show some (Value.long (vp_updL f j v k)) = some (Value.long (f k))
        unfold vp_updL
        rw [if_neg hk]
      · unfold ld
        rw [List.getElem?_set_ne (Ne.symm e)]
    · unfold gl ld
      rw [List.getElem?_set_self hl]
      show vp_updL f j v j = v
      unfold vp_updL
      rw [if_pos rfl]
end SLT
end
section
/-! by hand: paste of the reference (its summary S961 in place of the executor's check; wants t7, t31's rows) -/
noncomputable def PF9 : List Rng := [(77, 0, 0), (80, 0, 239), (81, 0, 59)]
noncomputable def PbQ (h : pm_H) (x i y j n : Int32) (h' : pm_H) (r : Option Value) : Prop := HH h' ∧ fr_g PF9 h h' ∧ ((∃ v : Int32, r = some (.int v) ∧ -8 ≤ v.toInt ∧ v.toInt ≤ -2) ∨ (r = some (.int 0) ∧ 0 ≤ x.toInt ∧ x.toInt ≤ 3 ∧ 0 ≤ i.toInt ∧ i.toInt ≤ 60 ∧ 0 ≤ y.toInt ∧ y.toInt ≤ 3 ∧ 0 ≤ j.toInt ∧ j.toInt ≤ 60 ∧ 0 ≤ n.toInt ∧ n.toInt ≤ 60))
theorem i2l_addE (x y : Int32) : (x.toInt64 + y.toInt64).toInt = x.toInt + y.toInt := by
  have := ai_lo x
  have := ai_hi x
  have := ai_lo y
  have := ai_hi y
  rw [Int64.toInt_add, i2l_toInt, i2l_toInt]
  exact Int.bmod_eq_of_le (by omega) (by omega)
section PB9
variable {d s t a b n : Nat} {h0 : pm_H}
theorem pb9_b (ht : t < 4) (hb : b + n ≤ 60) (j : Nat) : ∀ {h : pm_H} {c : Nat} (lv : List (Nat × Value)), c + j = n → HH h → fr_g PF9 h0 h → pm_get lv 0 = some (.ref 77) → pm_get lv 3 = some (.int (nJ t)) → pm_get lv 4 = some (.int (nJ b)) → pm_get lv 5 = some (.int (nJ n)) → pm_get lv 6 = some (.int (nJ c)) → Ends (pm_at tX9_paste) (pm_Rt pm_P d) (155, lv, [], h, 0, 0) (fun h' r => HH h' ∧ fr_g PF9 h0 h' ∧ r = some (.int 0)) := by
  induction j with
  | zero =>
    intro h c lv hj hh hf L0 L3 L4 L5 L6
    refine E_il rfl L6 ?_
    refine E_il rfl L5 ?_
    refine E_icT rfl (decide_eq_true ((nJ_le (by omega) (by omega)).mpr (by omega))) ?_
    refine E_c rfl ?_
    exact E_rti rfl ⟨hh, hf, rfl⟩
  | succ j ih =>
    intro h c lv hj hh hf L0 L3 L4 L5 L6
    refine E_il rfl L6 ?_
    refine E_il rfl L5 ?_
    refine E_icF rfl (decide_eq_false (fun q => absurd ((nJ_le (by omega) (by omega)).mp q) (by omega))) ?_
    refine E_al rfl L0 ?_
    refine E_gr rfl hh (q := 80) rfl ?_
    refine E_ci 60 rfl ci60 ?_
    refine E_il rfl L3 ?_
    refine E_bin rfl (nJ_mulE _ _) ?_
    refine E_il rfl L4 ?_
    refine E_bin rfl (nJ_add _ _) ?_
    refine E_il rfl L6 ?_
    refine E_bin rfl (nJ_add _ _) ?_
    refine E_al rfl L0 ?_
    refine E_gr rfl hh (q := 81) rfl ?_
    refine E_il rfl L6 ?_
    refine E_lal rfl hh rfl (by omega) (by decide) ?_
    refine E_las rfl hh rfl (by omega) (by decide) (fun h1 hh1 f1 _ => ?_)
    refine E_inc rfl L6 (nJ_inc _) (fun lv1 K6 kp => ?_)
    refine E_goto rfl ?_
    exact ih lv1 (by omega) hh1 (fr_trans hf (fr_one (l := 0) (u := 239) rfl (by omega) (by omega) f1)) (kp 0 _ (nbz rfl) rfl L0) (kp 3 _ (nbz rfl) rfl L3) (kp 4 _ (nbz rfl) rfl L4) (kp 5 _ (nbz rfl) rfl L5) K6
theorem pb9_a (hs : s < 4) (ht : t < 4) (ha : a + n ≤ 60) (hb : b + n ≤ 60) (j : Nat) : ∀ {h : pm_H} {c : Nat} (lv : List (Nat × Value)), c + j = n → HH h → fr_g PF9 h0 h → pm_get lv 0 = some (.ref 77) → pm_get lv 1 = some (.int (nJ s)) → pm_get lv 2 = some (.int (nJ a)) → pm_get lv 3 = some (.int (nJ t)) → pm_get lv 4 = some (.int (nJ b)) → pm_get lv 5 = some (.int (nJ n)) → pm_get lv 6 = some (.int (nJ c)) → Ends (pm_at tX9_paste) (pm_Rt pm_P d) (118, lv, [], h, 0, 0) (fun h' r => HH h' ∧ fr_g PF9 h0 h' ∧ r = some (.int 0)) := by
  induction j with
  | zero =>
    intro h c lv hj hh hf L0 L1 L2 L3 L4 L5 L6
    refine E_il rfl L6 ?_
    refine E_il rfl L5 ?_
    refine E_icT rfl (decide_eq_true ((nJ_le (by omega) (by omega)).mpr (by omega))) ?_
    refine E_ci 0 rfl ci0 ?_
    refine E_is rfl (fun lv1 K6 kp => ?_)
    exact pb9_b ht hb n (c := 0) lv1 (by omega) hh hf (kp 0 _ (nbz rfl) rfl L0) (kp 3 _ (nbz rfl) rfl L3) (kp 4 _ (nbz rfl) rfl L4) (kp 5 _ (nbz rfl) rfl L5) K6
  | succ j ih =>
    intro h c lv hj hh hf L0 L1 L2 L3 L4 L5 L6
    refine E_il rfl L6 ?_
    refine E_il rfl L5 ?_
    refine E_icF rfl (decide_eq_false (fun q => absurd ((nJ_le (by omega) (by omega)).mp q) (by omega))) ?_
    refine E_al rfl L0 ?_
    refine E_gr rfl hh (q := 81) rfl ?_
    refine E_il rfl L6 ?_
    refine E_al rfl L0 ?_
    refine E_gr rfl hh (q := 80) rfl ?_
    refine E_ci 60 rfl ci60 ?_
    refine E_il rfl L1 ?_
    refine E_bin rfl (nJ_mulE _ _) ?_
    refine E_il rfl L2 ?_
    refine E_bin rfl (nJ_add _ _) ?_
    refine E_il rfl L6 ?_
    refine E_bin rfl (nJ_add _ _) ?_
    refine E_lal rfl hh rfl (by omega) (by decide) ?_
    refine E_las rfl hh rfl (by omega) (by decide) (fun h1 hh1 f1 _ => ?_)
    refine E_inc rfl L6 (nJ_inc _) (fun lv1 K6 kp => ?_)
    refine E_goto rfl ?_
    exact ih lv1 (by omega) hh1 (fr_trans hf (fr_one (l := 0) (u := 59) rfl (by omega) (by omega) f1)) (kp 0 _ (nbz rfl) rfl L0) (kp 1 _ (nbz rfl) rfl L1) (kp 2 _ (nbz rfl) rfl L2) (kp 3 _ (nbz rfl) rfl L3) (kp 4 _ (nbz rfl) rfl L4) (kp 5 _ (nbz rfl) rfl L5) K6
theorem sp_paste9E {h : pm_H} {x i y j n : Int32} (hh : HH h) : Sp (d + 3) 323 h [.ref 77, .int x, .int i, .int y, .int j, .int n] (PbQ h x i y j n) := by
  refine Sp_of aiX9_paste rfl rfl rfl ?_
  have L0 : pm_get (lv_args 0 [.ref 77, .int x, .int i, .int y, .int j, .int n]) 0 = some (.ref 77) := rfl
  have L1 : pm_get (lv_args 0 [.ref 77, .int x, .int i, .int y, .int j, .int n]) 1 = some (.int x) := rfl
  have L2 : pm_get (lv_args 0 [.ref 77, .int x, .int i, .int y, .int j, .int n]) 2 = some (.int i) := rfl
  have L3 : pm_get (lv_args 0 [.ref 77, .int x, .int i, .int y, .int j, .int n]) 3 = some (.int y) := rfl
  have L4 : pm_get (lv_args 0 [.ref 77, .int x, .int i, .int y, .int j, .int n]) 4 = some (.int j) := rfl
  have L5 : pm_get (lv_args 0 [.ref 77, .int x, .int i, .int y, .int j, .int n]) 5 = some (.int n) := rfl
  generalize lv_args 0 [.ref 77, .int x, .int i, .int y, .int j, .int n] = lv at L0 L1 L2 L3 L4 L5 ⊢
  have z0 : (0 : Int32).toInt = 0 := rfl
  refine E_al rfl L0 ?_
  refine E_ci 0 rfl ci0 ?_
  refine E_pf rfl hh rfl ?_
  have hg : HH (pt h 77 0 (nJ 0)) := HH_ptn hh rfl (by omega) (by omega) (by omega)
  have fg : fr_g PF9 h (pt h 77 0 (nJ 0)) := fr_ptr (l := 0) (u := 0) rfl (by omega) (by omega) (fr_rf _ _)
  have no : Ends (pm_at tX9_paste) (pm_Rt pm_P (d + 2)) (19, lv, [], pt h 77 0 (nJ 0), 0, 0) (PbQ h x i y j n) := by
    refine E_c rfl ?_
    exact E_rti rfl ⟨hg, fg, .inl ⟨_, rfl, by decide, by decide⟩⟩
  refine E_il rfl L1 ?_
  refine E_call rfl sp_isSlot (chkS rfl (by show 0 ≤ 8; decide)) (fun h1 r1 => ?_)
  rintro ⟨e1, f1⟩
  rw [e1, f1]
  by_cases b0 : 0 ≤ x.toInt ∧ x.toInt ≤ 3
  · refine E_ifF rfl (by rw [zb_T b0]; rfl) ?_
    refine E_il rfl L3 ?_
    refine E_call rfl sp_isSlot (chkS rfl (by show 0 ≤ 8; decide)) (fun h2 r2 => ?_)
    rintro ⟨e2, f2⟩
    rw [e2, f2]
    by_cases c0 : 0 ≤ y.toInt ∧ y.toInt ≤ 3
    · refine E_ifT rfl (by rw [zb_T c0]; rfl) ?_
      obtain ⟨s, hs, rfl⟩ : ∃ s, s < 4 ∧ x = nJ s := ⟨x.toInt.toNat, by omega, nJ_of b0.1⟩
      obtain ⟨t, ht, rfl⟩ : ∃ s, s < 4 ∧ y = nJ s := ⟨y.toInt.toNat, by omega, nJ_of c0.1⟩
      refine E_al rfl L0 ?_
      refine E_gr rfl hg (q := 78) rfl ?_
      refine E_il rfl L1 ?_
      refine E_ial (v := gi h 78 s) rfl hg rfl (by omega) (by decide) (gi_ne (by first | exact gxx rfl | omega)) ?_
      refine E_c rfl ?_
      by_cases b1 : gi h 78 s = -1
      · refine E_icT rfl (decide_eq_true b1) ?_
        refine E_c rfl ?_
        exact E_rti rfl ⟨hg, fg, .inl ⟨_, rfl, by decide, by decide⟩⟩
      refine E_icF rfl (decide_eq_false b1) ?_
      refine E_al rfl L0 ?_
      refine E_gr rfl hg (q := 78) rfl ?_
      refine E_il rfl L3 ?_
      refine E_ial (v := gi h 78 t) rfl hg rfl (by omega) (by decide) (gi_ne (by first | exact gxx rfl | omega)) ?_
      refine E_c rfl ?_
      by_cases b2 : gi h 78 t = -1
      · refine E_icF rfl (decide_eq_false (fun q => q b2)) ?_
        refine E_c rfl ?_
        exact E_rti rfl ⟨hg, fg, .inl ⟨_, rfl, by decide, by decide⟩⟩
      refine E_icT rfl (decide_eq_true b2) ?_
      refine E_al rfl L0 ?_
      refine E_gr rfl hg (q := 78) rfl ?_
      refine E_il rfl L1 ?_
      refine E_ial (v := gi h 78 s) rfl hg rfl (by omega) (by decide) (gi_ne (by first | exact gxx rfl | omega)) ?_
      refine E_al rfl L0 ?_
      refine E_gr rfl hg (q := 78) rfl ?_
      refine E_il rfl L3 ?_
      refine E_ial (v := gi h 78 t) rfl hg rfl (by omega) (by decide) (gi_ne (by first | exact gxx rfl | omega)) ?_
      by_cases b3 : gi h 78 s = gi h 78 t
      · refine E_icT rfl (decide_eq_true b3) ?_
        have g1 := (ld_gi hh (a := 79) (k := s) (bd_u rfl (by omega))).2
        have g2 := (ld_gi hh (a := 79) (k := t) (bd_u rfl (by omega))).2
        dsimp only at g1 g2
        have no7 : Ends (pm_at tX9_paste) (pm_Rt pm_P (d + 2)) (112, lv, [], pt h 77 0 (nJ 0), 0, 0) (PbQ h (nJ s) i (nJ t) j n) := by
          refine E_c rfl ?_
          exact E_rti rfl ⟨hg, fg, .inl ⟨_, rfl, by decide, by decide⟩⟩
        refine E_il rfl L2 ?_
        by_cases k1 : i < 0
        · have q := Int32.lt_iff_toInt_lt.mp k1
          refine E_ifT rfl (decide_eq_true k1) ?_
          exact no7
        have q1 : ¬ i.toInt < (0 : Int32).toInt := fun z => k1 (Int32.lt_iff_toInt_lt.mpr z)
        refine E_ifF rfl (decide_eq_false k1) ?_
        refine E_il rfl L4 ?_
        by_cases k2 : j < 0
        · have q := Int32.lt_iff_toInt_lt.mp k2
          refine E_ifT rfl (decide_eq_true k2) ?_
          exact no7
        have q2 : ¬ j.toInt < (0 : Int32).toInt := fun z => k2 (Int32.lt_iff_toInt_lt.mpr z)
        refine E_ifF rfl (decide_eq_false k2) ?_
        refine E_il rfl L5 ?_
        by_cases k3 : n < 0
        · have q := Int32.lt_iff_toInt_lt.mp k3
          refine E_ifT rfl (decide_eq_true k3) ?_
          exact no7
        have q3 : ¬ n.toInt < (0 : Int32).toInt := fun z => k3 (Int32.lt_iff_toInt_lt.mpr z)
        refine E_ifF rfl (decide_eq_false k3) ?_
        refine E_il rfl L2 ?_
        refine E_i2l rfl ?_
        refine E_il rfl L5 ?_
        refine E_i2l rfl ?_
        refine E_lbin rfl ?_
        refine E_al rfl L0 ?_
        refine E_gr rfl hg (q := 79) rfl ?_
        refine E_il rfl L1 ?_
        refine E_ial (v := gi h 79 s) rfl hg rfl (by omega) (by decide) (gi_ne (by first | exact gxx rfl | omega)) ?_
        refine E_i2l rfl ?_
        refine E_lcmp rfl ?_
        by_cases k4 : (gi h 79 s).toInt < i.toInt + n.toInt
        · refine E_ifT rfl (decide_eq_true ((lg_cmp_gt _ _).mpr (by rw [Int64.lt_iff_toInt_lt, i2l_addE, i2l_toInt]; omega))) ?_
          exact no7
        refine E_ifF rfl (decide_eq_false (fun q => absurd ((lg_cmp_gt _ _).mp q) (by rw [Int64.lt_iff_toInt_lt, i2l_addE, i2l_toInt]; omega))) ?_
        refine E_il rfl L4 ?_
        refine E_i2l rfl ?_
        refine E_il rfl L5 ?_
        refine E_i2l rfl ?_
        refine E_lbin rfl ?_
        refine E_al rfl L0 ?_
        refine E_gr rfl hg (q := 79) rfl ?_
        refine E_il rfl L3 ?_
        refine E_ial (v := gi h 79 t) rfl hg rfl (by omega) (by decide) (gi_ne (by first | exact gxx rfl | omega)) ?_
        refine E_i2l rfl ?_
        refine E_lcmp rfl ?_
        by_cases k5 : j.toInt + n.toInt ≤ (gi h 79 t).toInt
        · refine E_ifT rfl (decide_eq_true ((lg_cmp_le _ _).mpr (by rw [Int64.le_iff_toInt_le, i2l_addE, i2l_toInt]; omega))) ?_
          obtain ⟨a, ha, rfl⟩ : ∃ k, k ≤ 60 ∧ i = nJ k := ⟨i.toInt.toNat, by omega, nJ_of (by omega)⟩
          obtain ⟨b, hb, rfl⟩ : ∃ k, k ≤ 60 ∧ j = nJ k := ⟨j.toInt.toNat, by omega, nJ_of (by omega)⟩
          obtain ⟨m, hm, rfl⟩ : ∃ k, k ≤ 60 ∧ n = nJ k := ⟨n.toInt.toNat, by omega, nJ_of (by omega)⟩
          have ea := nJ_toInt (n := a) (by omega)
          have eb := nJ_toInt (n := b) (by omega)
          have em := nJ_toInt (n := m) (by omega)
          refine E_ci 0 rfl ci0 ?_
          refine E_is rfl (fun lv1 K6 kp => ?_)
          refine Ends_mono ?_ (pb9_a hs ht (by omega) (by omega) m (c := 0) lv1 (by omega) hg fg (kp 0 _ (nbz rfl) rfl L0) (kp 1 _ (nbz rfl) rfl L1) (kp 2 _ (nbz rfl) rfl L2) (kp 3 _ (nbz rfl) rfl L3) (kp 4 _ (nbz rfl) rfl L4) (kp 5 _ (nbz rfl) rfl L5) K6)
          rintro h' r ⟨u1, u2, u3⟩
          exact ⟨u1, u2, .inr ⟨u3, by omega, by omega, by omega, by omega, by omega, by omega, by omega, by omega, by omega, by omega⟩⟩
        · refine E_ifF rfl (decide_eq_false (fun q => absurd ((lg_cmp_le _ _).mp q) (by rw [Int64.le_iff_toInt_le, i2l_addE, i2l_toInt]; omega))) ?_
          exact no7
      · refine E_icF rfl (decide_eq_false b3) ?_
        refine E_c rfl ?_
        exact E_rti rfl ⟨hg, fg, .inl ⟨_, rfl, by decide, by decide⟩⟩
    · refine E_ifF rfl (by rw [zb_F c0]; rfl) ?_
      exact no
  · refine E_ifT rfl (by rw [zb_F b0]; rfl) ?_
    exact no
end PB9
set_option maxRecDepth 20000 in
theorem paq : sum_g w0 (pm_Rt pm_P 3) (323, [cR 77, cI (-2147483648) 2147483647, cI (-2147483648) 2147483647, cI (-2147483648) 2147483647, cI (-2147483648) 2147483647, cI (-2147483648) 2147483647], [], [], [(77, 0, 0), (80, 0, 239), (81, 0, 59)], [([cR 77, cI (-2147483648) 2147483647, cI (-2147483648) 2147483647, cI (-2147483648) 2147483647, cI (-2147483648) 2147483647, cI (-2147483648) 2147483647], [], [], some (.inl (cI (-8) (-2)))), ([cR 77, cI 0 3, cI 0 60, cI 0 3, cI 0 60, cI 0 60], [], [], some (.inl (cI 0 0)))]) := by
  intro h as hh ha _ _
  match as, ha with
  | [.ref a, .int x, .int i, .int y, .int j, .int n], ⟨h1, _⟩ =>
    have h1 : a = 77 := h1
    subst h1
    obtain ⟨h', r, p1, hh', fr, p2⟩ := sp_paste9E (d := 0) (x := x) (i := i) (y := y) (j := j) (n := n) hh
    refine ⟨h', r, p1, hh', fr, ?_⟩
    rcases p2 with ⟨v, rfl, v1, v2⟩ | ⟨rfl, x1, x2, i1, i2, y1, y2, j1, j2, n1, n2⟩
    · exact ⟨_, List.mem_cons_self, ⟨rfl, ⟨ai_lo x, ai_hi x⟩, ⟨ai_lo i, ai_hi i⟩, ⟨ai_lo y, ai_hi y⟩, ⟨ai_lo j, ai_hi j⟩, ⟨ai_lo n, ai_hi n⟩, trivial⟩, fun _ hq => absurd hq List.not_mem_nil, fun _ hq => absurd hq List.not_mem_nil, ⟨v1, v2⟩⟩
    · exact ⟨_, List.mem_cons_of_mem _ List.mem_cons_self, ⟨rfl, ⟨x1, x2⟩, ⟨i1, i2⟩, ⟨y1, y2⟩, ⟨j1, j2⟩, ⟨n1, n2⟩, trivial⟩, fun _ hq => absurd hq List.not_mem_nil, fun _ hq => absurd hq List.not_mem_nil, ⟨by decide, by decide⟩⟩
end
section
/-! an act done, for every number of an act -/
section DOA
variable {h : pm_H} {d : Nat} {x y : Int32}
theorem g15 (hh : HH h) : gi h 15 0 = nJ (gn h 15 0) ∧ gn h 15 0 ≤ 8 ∧ gi h 15 4 = nJ (gn h 15 4) ∧ gn h 15 4 ≤ 8 ∧ gi h 15 6 = nJ (gn h 15 6) ∧ gn h 15 6 ≤ 20 := ⟨gi_gn hh rfl (by decide), gn_hi hh rfl (by decide), gi_gn hh rfl (by decide), gn_hi hh rfl (by decide), gi_gn hh rfl (by decide), gn_hi hh rfl (by decide)⟩
theorem sp_hasCar8 (hh : HH h) : Sp (d + 1) 114 h [.ref 0, .int x] (fun h' r => h' = h ∧ r = some (.int (zb (0 ≤ x.toInt ∧ x.toInt < (gn h 15 4 : Int))))) := by
  obtain ⟨-, -, a3, a4, -⟩ := g15 hh
  have z0 : (0 : Int32).toInt = 0 := rfl
  refine Sp_of aiX8_hasCar rfl rfl rfl ?_
  have L0 : pm_get (lv_args 0 [.ref 0, .int x]) 0 = some (.ref 0) := rfl
  have L1 : pm_get (lv_args 0 [.ref 0, .int x]) 1 = some (.int x) := rfl
  generalize lv_args 0 [.ref 0, .int x] = lv at L0 L1 ⊢
  refine E_il rfl L1 ?_
  by_cases b1 : x < 0
  · have q := Int32.lt_iff_toInt_lt.mp b1
    refine E_ifT rfl (decide_eq_true b1) ?_
    refine E_ci 0 rfl ci0 ?_
    exact E_rtz rfl (.inl rfl) ⟨rfl, by rw [zb_F (by omega)]⟩
  have q1 : ¬ x.toInt < (0 : Int32).toInt := fun z => b1 (Int32.lt_iff_toInt_lt.mpr z)
  refine E_ifF rfl (decide_eq_false b1) ?_
  refine E_il rfl L1 ?_
  refine E_al rfl L0 ?_
  refine E_ogr (q := 15) rfl hh rfl rfl ?_
  refine E_ogf (q := (0, 8)) rfl hh rfl rfl a3 ?_
  by_cases b2 : nJ (gn h 15 4) ≤ x
  · have q := Int32.le_iff_toInt_le.mp b2
    rw [nJ_toInt (by omega)] at q
    refine E_icT rfl (decide_eq_true b2) ?_
    refine E_ci 0 rfl ci0 ?_
    exact E_rtz rfl (.inl rfl) ⟨rfl, by rw [zb_F (by omega)]⟩
  · have q : ¬ (nJ (gn h 15 4)).toInt ≤ x.toInt := fun z => b2 (Int32.le_iff_toInt_le.mpr z)
    rw [nJ_toInt (by omega)] at q
    refine E_icF rfl (decide_eq_false b2) ?_
    refine E_ci 1 rfl ci1 ?_
    refine E_goto rfl ?_
    exact E_rtz rfl (.inr rfl) ⟨rfl, by rw [zb_T (by omega)]⟩
/-- an act done -/
theorem sp_doAct {i : Nat} (hh : HH h) (hi : i < 20) (hx : ¬ gi h 23 i = 0 → gn h 22 i ≤ 7) : Sp (d + 1) 51 h [.ref 15, .int (nJ i)] (fun h' r => r = none ∧ HH h' ∧ fr_g [(17, 0, 7)] h h') := by
  have c1 : gi h 21 i = nJ (gn h 21 i) := gi_gn hh (bd_u rfl hi) (by decide)
  have c2 : gn h 21 i ≤ 7 := gn_hi hh (bd_u rfl hi) (by decide)
  have x1 : gi h 22 i = nJ (gn h 22 i) := gi_gn hh (bd_u rfl hi) (by decide)
  have x2 : gn h 22 i ≤ 8 := gn_hi hh (bd_u rfl hi) (by decide)
  refine Sp_of aiX5_doAct rfl rfl rfl ?_
  have L0 : pm_get (lv_args 0 [.ref 15, .int (nJ i)]) 0 = some (.ref 15) := rfl
  have L1 : pm_get (lv_args 0 [.ref 15, .int (nJ i)]) 1 = some (.int (nJ i)) := rfl
  generalize lv_args 0 [.ref 15, .int (nJ i)] = lv at L0 L1 ⊢
  refine E_al rfl L0 ?_
  refine E_ogr (q := 21) rfl hh rfl rfl ?_
  refine E_il rfl L1 ?_
  refine E_ial rfl hh rfl hi (by decide) c1 ?_
  refine E_is rfl (fun lv1 K2 kp1 => ?_)
  refine E_al rfl (kp1 0 _ (nbz rfl) rfl L0) ?_
  refine E_ogr (q := 22) rfl hh rfl rfl ?_
  refine E_il rfl (kp1 1 _ (nbz rfl) rfl L1) ?_
  refine E_ial rfl hh rfl hi (by decide) x1 ?_
  refine E_is rfl (fun lv2 K3 kp2 => ?_)
  have M0 := kp2 0 _ (nbz rfl) rfl (kp1 0 _ (nbz rfl) rfl L0)
  have M1 := kp2 1 _ (nbz rfl) rfl (kp1 1 _ (nbz rfl) rfl L1)
  have M2 := kp2 2 _ (nbz rfl) rfl K2
  refine E_al rfl M0 ?_
  refine E_ogr (q := 23) rfl hh rfl rfl ?_
  refine E_il rfl M1 ?_
  refine E_zalB rfl hh rfl hi (by decide) rfl ?_
  have b17 : ∀ k, k ≤ 7 → bd 17 k = some (0, 8) := fun k hk => bd_u rfl (by omega)
  by_cases b : gi h 23 i = 0
  · refine E_ifT rfl (decide_eq_true b) ?_
    refine E_al rfl M0 ?_
    refine E_ogr (q := 17) rfl hh rfl rfl ?_
    refine E_il rfl M2 ?_
    refine E_il rfl K3 ?_
    refine E_ias rfl hh rfl (by omega) (by decide) ?_
    exact E_ret rfl ⟨rfl, HH_ptn hh (b17 _ c2) (by omega) (by omega) (by omega), fr_ptr (l := 0) (u := 7) rfl (by omega) (by omega) (fr_rf _ _)⟩
  · have x7 := hx b
    refine E_ifF rfl (decide_eq_false b) ?_
    have n1 : gi h 17 (gn h 21 i) = nJ (gn h 17 (gn h 21 i)) := gi_gn hh (b17 _ c2) (by decide)
    have n2 : gn h 17 (gn h 21 i) ≤ 8 := gn_hi hh (b17 _ c2) (by decide)
    have n3 : gi h 17 (gn h 22 i) = nJ (gn h 17 (gn h 22 i)) := gi_gn hh (b17 _ x7) (by decide)
    have n4 : gn h 17 (gn h 22 i) ≤ 8 := gn_hi hh (b17 _ x7) (by decide)
    refine E_al rfl M0 ?_
    refine E_ogr (q := 17) rfl hh rfl rfl ?_
    refine E_il rfl M2 ?_
    refine E_ial rfl hh rfl (by omega) (by decide) n1 ?_
    refine E_is rfl (fun lv3 K4 kp3 => ?_)
    have N0 := kp3 0 _ (nbz rfl) rfl M0
    have N2 := kp3 2 _ (nbz rfl) rfl M2
    have N3 := kp3 3 _ (nbz rfl) rfl K3
    refine E_al rfl N0 ?_
    refine E_ogr (q := 17) rfl hh rfl rfl ?_
    refine E_il rfl N2 ?_
    refine E_al rfl N0 ?_
    refine E_ogr (q := 17) rfl hh rfl rfl ?_
    refine E_il rfl N3 ?_
    refine E_ial rfl hh rfl (by omega) (by decide) n3 ?_
    refine E_ias rfl hh rfl (by omega) (by decide) ?_
    have h1 : HH (pt h 17 (gn h 21 i) (nJ (gn h 17 (gn h 22 i)))) := HH_ptn hh (b17 _ c2) (by omega) (by omega) (by omega)
    refine E_al rfl N0 ?_
    refine E_ogr (q := 17) rfl h1 rfl rfl ?_
    refine E_il rfl N3 ?_
    refine E_il rfl K4 ?_
    refine E_ias rfl h1 rfl (by omega) (by decide) ?_
    refine E_goto rfl ?_
    exact E_ret rfl ⟨rfl, HH_ptn h1 (b17 _ x7) (by omega) (by omega) (by omega), fr_ptr (l := 0) (u := 7) rfl (by omega) (by omega) (fr_ptr (l := 0) (u := 7) rfl (by omega) (by omega) (fr_rf _ _))⟩
noncomputable def KAF : List Rng := [(15, 6, 6), (17, 0, 7)]
theorem dq : sum_g w0 (pm_Rt pm_P 1) (51, [cR 15, cI 0 19], [], [41], [(17, 0, 7)], [([cR 15, cI 0 19], [], [], none)]) := by
  intro h as hh ha _ hf
  match as, ha with
  | [.ref a, .int x], ⟨h1, h2, _⟩ =>
    have h1 : a = 15 := h1
    have h2 : (0 : Int) ≤ x.toInt ∧ x.toInt ≤ 19 := h2
    subst h1
    obtain ⟨i, hi, rfl⟩ : ∃ i, i < 20 ∧ x = nJ i := ⟨x.toInt.toNat, by omega, nJ_of h2.1⟩
    have F : FA 23 0 22 0 1 20 h := hf 41 List.mem_cons_self
    have k : 0 + 1 * i = i := by omega
    have b23 : bd 23 i = some (0, 1) := bd_u rfl hi
    have b22 : bd 22 i = some (0, 8) := bd_u rfl hi
    have x1 : gi h 22 i = nJ (gn h 22 i) := gi_gn hh b22 (by decide)
    have x2 : gn h 22 i ≤ 8 := gn_hi hh b22 rfl
    have hx : ¬ gi h 23 i = 0 → gn h 22 i ≤ 7 := fun q => by
      have e := F i hi (by omega) (gi h 23 i) (gi h 22 i) (by rw [k]; exact (ld_gi hh b23).1) (by rw [k]; exact (ld_gi hh b22).1) (fun z => q (Int32.toInt_inj.mp z))
      rw [x1, nJ_toInt (by omega)] at e
      omega
    obtain ⟨h', r, p1, rfl, hh', fr⟩ := sp_doAct (d := 0) hh hi hx
    exact ⟨h', none, p1, hh', fr, _, List.mem_cons_self, ⟨rfl, h2, trivial⟩, fun _ hq => absurd hq List.not_mem_nil, fun _ hq => absurd hq List.not_mem_nil, trivial⟩
end DOA
end
section
/-! how many want so -/
theorem wn_loop {h : pm_H} {d p : Nat} (hh : HH h) (hp : p < 2147483648) (k : Nat) : ∀ {c n : Nat}, n = cw (gn h 89) p c → ∀ (lv : List (Nat × Value)), c + k = gn h 84 3 → pm_get lv 0 = some (.ref 77) → pm_get lv 1 = some (.int (nJ p)) → pm_get lv 2 = some (.int (nJ n)) → pm_get lv 3 = some (.int (nJ c)) → Ends (pm_at tX9_wanting) (pm_Rt pm_P (d + 1)) (4, lv, [], h, 0, 0) (fun h' r => h' = h ∧ r = some (.int (nJ (cw (gn h 89) p (gn h 84 3))))) := by
  have hC : gn h 84 3 ≤ 8 := gn_hi hh rfl (by decide)
  induction k with
  | zero =>
    intro c n hn lv hk L0 L1 L2 L3
    have hn8 := cw_le (gn h 89) p c
    refine E_il rfl L3 ?_
    refine E_al rfl L0 ?_
    refine E_call rfl (sp_cars hh) (chk77 hh rfl rfl (by show 1 ≤ 8; decide)) (fun h1 r1 => ?_)
    rintro ⟨e1, f1, c1⟩
    rw [e1, f1]
    show Ends _ _ (9, lv, [.int (nJ (gn h 84 3)), .int (nJ c)], h, 0, 0) _
    refine E_icT rfl (decide_eq_true ((nJ_le (by omega) (by omega)).mpr (by omega))) ?_
    refine E_il rfl L2 ?_
    exact E_rti rfl ⟨rfl, by rw [hn, show gn h 84 3 = c by omega]⟩
  | succ k ih =>
    intro c n hn lv hk L0 L1 L2 L3
    have hn8 := cw_le (gn h 89) p c
    refine E_il rfl L3 ?_
    refine E_al rfl L0 ?_
    refine E_call rfl (sp_cars hh) (chk77 hh rfl rfl (by show 1 ≤ 8; decide)) (fun h1 r1 => ?_)
    rintro ⟨e1, f1, c1⟩
    rw [e1, f1]
    show Ends _ _ (9, lv, [.int (nJ (gn h 84 3)), .int (nJ c)], h, 0, 0) _
    refine E_icF rfl (decide_eq_false (fun q => absurd ((nJ_le (by omega) (by omega)).mp q) (by omega))) ?_
    refine E_il rfl L2 ?_
    refine E_al rfl L0 ?_
    refine E_gr rfl hh (q := 89) rfl ?_
    refine E_il rfl L3 ?_
    have b2 : gn h 89 c ≤ 8 := gn_hi hh (bd_u rfl (by omega)) (by decide)
    refine E_ial rfl hh rfl (by omega) (by decide) (gi_gn hh (bd_u rfl (by omega)) (by decide)) ?_
    refine E_il rfl L1 ?_
    by_cases hb3 : p < (gn h 89 c)
    · refine E_icT rfl (decide_eq_true ((nJ_lt (by omega) (by omega)).mpr hb3)) ?_
      refine E_ci 0 rfl ci0 ?_
      refine E_bin rfl (nJ_add _ _) ?_
      refine E_is rfl (fun lv4 L4_2 kp4 => ?_)
      have L4_0 := kp4 0 _ (nbz rfl) rfl L0
      have L4_1 := kp4 1 _ (nbz rfl) rfl L1
      have L4_3 := kp4 3 _ (nbz rfl) rfl L3
      refine E_inc rfl L4_3 (nJ_inc _) (fun lv5 L5_3 kp5 => ?_)
      have L5_0 := kp5 0 _ (nbz rfl) rfl L4_0
      have L5_1 := kp5 1 _ (nbz rfl) rfl L4_1
      have L5_2 := kp5 2 _ (nbz rfl) rfl L4_2
      refine E_goto rfl ?_
      refine ih (c := c + 1) (n := (n + 0)) ?_ lv5 (by omega) L5_0 L5_1 L5_2 L5_3
      rw [hn, cw_F (by omega)]
    · refine E_icF rfl (decide_eq_false (fun q => hb3 ((nJ_lt (by omega) (by omega)).mp q))) ?_
      refine E_ci 1 rfl ci1 ?_
      refine E_goto rfl ?_
      refine E_bin rfl (nJ_add _ _) ?_
      refine E_is rfl (fun lv6 L6_2 kp6 => ?_)
      have L6_0 := kp6 0 _ (nbz rfl) rfl L0
      have L6_1 := kp6 1 _ (nbz rfl) rfl L1
      have L6_3 := kp6 3 _ (nbz rfl) rfl L3
      refine E_inc rfl L6_3 (nJ_inc _) (fun lv7 L7_3 kp7 => ?_)
      have L7_0 := kp7 0 _ (nbz rfl) rfl L6_0
      have L7_1 := kp7 1 _ (nbz rfl) rfl L6_1
      have L7_2 := kp7 2 _ (nbz rfl) rfl L6_2
      refine E_goto rfl ?_
      refine ih (c := c + 1) (n := (n + 1)) ?_ lv7 (by omega) L7_0 L7_1 L7_2 L7_3
      rw [hn, cw_T (by omega)]
theorem sp_wanting {h : pm_H} {d p : Nat} (hh : HH h) (hp : p < 2147483648) : Sp (d + 2) 369 h [.ref 77, .int (nJ p)] (fun h' r => h' = h ∧ r = some (.int (nJ (cw (gn h 89) p (gn h 84 3))))) := by
  refine Sp_of aiX9_wanting rfl rfl rfl ?_
  refine E_ci 0 rfl ci0 ?_
  refine E_is rfl (fun lv1 L1_2 kp1 => ?_)
  have L1_0 := kp1 0 _ (nbz rfl) rfl (show pm_get (lv_args 0 [.ref 77, .int (nJ p)]) 0 = _ from rfl)
  have L1_1 := kp1 1 _ (nbz rfl) rfl (show pm_get (lv_args 0 [.ref 77, .int (nJ p)]) 1 = _ from rfl)
  refine E_ci 0 rfl ci0 ?_
  refine E_is rfl (fun lv2 L2_3 kp2 => ?_)
  have L2_0 := kp2 0 _ (nbz rfl) rfl L1_0
  have L2_1 := kp2 1 _ (nbz rfl) rfl L1_1
  have L2_2 := kp2 2 _ (nbz rfl) rfl L1_2
  exact wn_loop hh hp (gn h 84 3) (c := 0) (n := 0) rfl lv2 (by omega) L2_0 L2_1 L2_2 L2_3
/-! how many want so: the summaries of wanting by hand (wants sp_wanting) -/
theorem wq_full {f : Nat → Nat} {p : Nat} : ∀ {n : Nat}, (∀ c, c < n → f c ≤ p) → cw f p n = n
  | 0, _ => rfl
  | n + 1, h => by rw [cw_T (h n (Nat.lt_succ_self n)), wq_full (fun c hc => h c (Nat.lt_succ_of_lt hc))]
theorem wq_sp {h : pm_H} (hh : HH h) {p : Nat} (hp : p ≤ 9) : Sp 2 369 h [.ref 77, .int (nJ p)] (fun h' r => h' = h ∧ ∃ k : Nat, k ≤ gn h 84 3 ∧ (8 ≤ p → k = gn h 84 3) ∧ r = some (.int (nJ k))) := by
  obtain ⟨h', r, p1, e, f⟩ := sp_wanting (d := 0) hh (p := p) (by omega)
  have c8 : gn h 84 3 ≤ 8 := gn_hi hh rfl rfl
  exact ⟨h', r, p1, e, _, cw_le _ _ _, fun q => wq_full (fun c hc => Nat.le_trans (gn_hi (n := 8) hh (bd_u (a := 89) rfl (by omega)) rfl) q), f⟩
theorem wq_c {h : pm_H} {a b : Int} (hh : HH h) (hm : mm_g h [((84, 3), a, b)]) : a ≤ (gn h 84 3 : Int) ∧ (gn h 84 3 : Int) ≤ b := by
  obtain ⟨x, e, u, v⟩ := hm _ List.mem_cons_self
  have e2 := (ld_gi hh (a := 84) (k := 3) rfl).1
  have e3 : ld h 84 3 = some (.int x) := e
  rw [e3] at e2
  injection e2 with e2
  injection e2 with e2
  have c8 : gn h 84 3 ≤ 8 := gn_hi hh rfl rfl
  have g : gi h 84 3 = nJ (gn h 84 3) := gi_gn hh rfl (by decide)
  have t := nJ_toInt (n := gn h 84 3) (by omega)
  rw [← g, ← e2] at t
  have u : a ≤ x.toInt := u
  have v : x.toInt ≤ b := v
  omega
theorem wq_ld {h : pm_H} (hh : HH h) : ld h 84 3 = some (.int (nJ (gn h 84 3))) := by
  rw [← (gi_gn hh rfl (by decide) : gi h 84 3 = nJ (gn h 84 3))]
  exact (ld_gi hh rfl).1
theorem wqA {lo hi c : Int} (h0 : 0 ≤ lo) (h9 : hi ≤ 9) : sum_g w0 (pm_Rt pm_P 2) (369, [cR 77, cI lo hi], [((84, 3), c, c)], [], [], [([cR 77, cI lo hi], [], [], some (.inl (cI 0 c)))]) := by
  intro h as hh ha hm _
  match as, ha with
  | [.ref a, .int x], ⟨h1, h2, _⟩ =>
    have h1 : a = 77 := h1
    have h2 : lo ≤ x.toInt ∧ x.toInt ≤ hi := h2
    subst h1
    obtain ⟨p, hp, rfl⟩ : ∃ p, p ≤ 9 ∧ x = nJ p := ⟨x.toInt.toNat, by omega, nJ_of (by omega)⟩
    have cc := wq_c hh hm
    have c8 : gn h 84 3 ≤ 8 := gn_hi hh rfl rfl
    obtain ⟨h', r, p1, e, k, k1, k2, rfl⟩ := wq_sp hh hp
    subst e
    have kt := nJ_toInt (n := k) (by omega)
    exact ⟨_, _, p1, hh, fun _ _ _ => rfl, _, List.mem_cons_self, ⟨rfl, h2, trivial⟩, fun _ hq => absurd hq List.not_mem_nil, fun _ hq => absurd hq List.not_mem_nil, by show (0 : Int) ≤ (nJ k).toInt; omega, by show (nJ k).toInt ≤ c; omega⟩
theorem wqB {c : Int} : sum_g w0 (pm_Rt pm_P 2) (369, [cR 77, cI 8 8], [((84, 3), c, c)], [], [], [([cR 77, cI 8 8], [((84, 3), c, c)], [], some (.inr (84, 3)))]) := by
  intro h as hh ha hm _
  match as, ha with
  | [.ref a, .int x], ⟨h1, h2, _⟩ =>
    have h1 : a = 77 := h1
    have h2 : 8 ≤ x.toInt ∧ x.toInt ≤ 8 := h2
    subst h1
    obtain ⟨p, hp, h8, rfl⟩ : ∃ p, p ≤ 9 ∧ 8 ≤ p ∧ x = nJ p := ⟨x.toInt.toNat, by omega, by omega, nJ_of (by omega)⟩
    obtain ⟨h', r, p1, e, k, k1, k2, rfl⟩ := wq_sp hh hp
    subst e
    rw [k2 h8] at p1
    exact ⟨_, _, p1, hh, fun _ _ _ => rfl, _, List.mem_cons_self, ⟨rfl, h2, trivial⟩, hm, fun _ hq => absurd hq List.not_mem_nil, wq_ld hh⟩
theorem wqD {c : Int} : sum_g w0 (pm_Rt pm_P 2) (369, [cR 77, cI 8 8], [((84, 3), c, c)], [], [], [([cR 77, cI 8 8], [], [], some (.inl (cI c c)))]) := by
  intro h as hh ha hm _
  match as, ha with
  | [.ref a, .int x], ⟨h1, h2, _⟩ =>
    have h1 : a = 77 := h1
    have h2 : 8 ≤ x.toInt ∧ x.toInt ≤ 8 := h2
    subst h1
    obtain ⟨p, hp, h8, rfl⟩ : ∃ p, p ≤ 9 ∧ 8 ≤ p ∧ x = nJ p := ⟨x.toInt.toNat, by omega, by omega, nJ_of (by omega)⟩
    have cc := wq_c hh hm
    have c8 : gn h 84 3 ≤ 8 := gn_hi hh rfl rfl
    obtain ⟨h', r, p1, e, k, k1, k2, rfl⟩ := wq_sp hh hp
    subst e
    have k3 := k2 h8
    have kt := nJ_toInt (n := k) (by omega)
    exact ⟨_, _, p1, hh, fun _ _ _ => rfl, _, List.mem_cons_self, ⟨rfl, h2, trivial⟩, fun _ hq => absurd hq List.not_mem_nil, fun _ hq => absurd hq List.not_mem_nil, by show c ≤ (nJ k).toInt; omega, by show (nJ k).toInt ≤ c; omega⟩
theorem wqC {lo hi : Int} (h0 : 0 ≤ lo) (h9 : hi ≤ 9) : sum_g w0 (pm_Rt pm_P 2) (369, [cR 77, cI lo hi], [], [], [], [([cR 77, cI lo hi], [((84, 3), 0, 0)], [], some (.inl (cI 0 0))), ([cR 77, cI lo hi], [((84, 3), 1, 8)], [], some (.inl (cI 0 8)))]) := by
  intro h as hh ha _ _
  match as, ha with
  | [.ref a, .int x], ⟨h1, h2, _⟩ =>
    have h1 : a = 77 := h1
    have h2 : lo ≤ x.toInt ∧ x.toInt ≤ hi := h2
    subst h1
    obtain ⟨p, hp, rfl⟩ : ∃ p, p ≤ 9 ∧ x = nJ p := ⟨x.toInt.toNat, by omega, nJ_of (by omega)⟩
    have c8 : gn h 84 3 ≤ 8 := gn_hi hh rfl rfl
    have ct := nJ_toInt (n := gn h 84 3) (by omega)
    obtain ⟨h', r, p1, e, k, k1, k2, rfl⟩ := wq_sp hh hp
    subst e
    have kt := nJ_toInt (n := k) (by omega)
    by_cases z : gn h' 84 3 = 0
    · refine ⟨_, _, p1, hh, fun _ _ _ => rfl, _, List.mem_cons_self, ⟨rfl, h2, trivial⟩, fun q hq => ?_, fun _ hq => absurd hq List.not_mem_nil, by show (0 : Int) ≤ (nJ k).toInt; omega, by show (nJ k).toInt ≤ 0; omega⟩
      cases List.mem_singleton.mp hq
      exact ⟨_, wq_ld hh, by show (0 : Int) ≤ (nJ (gn h' 84 3)).toInt; omega, by show (nJ (gn h' 84 3)).toInt ≤ 0; omega⟩
    · refine ⟨_, _, p1, hh, fun _ _ _ => rfl, _, List.mem_cons_of_mem _ List.mem_cons_self, ⟨rfl, h2, trivial⟩, fun q hq => ?_, fun _ hq => absurd hq List.not_mem_nil, by show (0 : Int) ≤ (nJ k).toInt; omega, by show (nJ k).toInt ≤ 8; omega⟩
      cases List.mem_singleton.mp hq
      exact ⟨_, wq_ld hh, by show (1 : Int) ≤ (nJ (gn h' 84 3)).toInt; omega, by show (nJ (gn h' 84 3)).toInt ≤ 8; omega⟩
end
