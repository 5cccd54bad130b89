section
theorem tk2_25_15 {h0 : pm_H} {d : Nat} {Q : pm_H → Option Value → Prop} (hh0 : HH h0) (K : ∀ (h : pm_H) (lv : List (Nat × Value)), HH h → fr_g [(31, 0, 19), (32, 0, 19), (33, 0, 19)] h0 h → (∀ k, k < 20 → gi h 31 k = gi h0 21 k ∧ gi h 32 k = gi h0 22 k ∧ gi h 33 k = gi h0 23 k) → pm_get lv 0 = some (.ref 25) → pm_get lv 1 = some (.ref 15) → Ends (pm_at tX5_take) (pm_Rt pm_P d) (180, lv, [], h, 0, 0) Q) (j : Nat) : ∀ {h : pm_H} {i : Nat} (lv : List (Nat × Value)), i + j = 20 → HH h → fr_g [(31, 0, 19), (32, 0, 19), (33, 0, 19)] h0 h → (∀ k, k < i → gi h 31 k = gi h0 21 k ∧ gi h 32 k = gi h0 22 k ∧ gi h 33 k = gi h0 23 k) → pm_get lv 0 = some (.ref 25) → pm_get lv 1 = some (.ref 15) → pm_get lv 2 = some (.int (nJ i)) → Ends (pm_at tX5_take) (pm_Rt pm_P d) (132, lv, [], h, 0, 0) Q := by
  induction j with
  | zero =>
    intro h i lv hj hh hf hc L0 L1 L2
    refine E_il rfl L2 ?_
    refine E_ci 20 rfl (by decide) ?_
    refine E_icT rfl (decide_eq_true ((nJ_le (by omega) (by omega)).mpr (by omega))) ?_
    exact K h lv hh hf (fun k hk => hc k (by omega)) L0 L1
  | succ j ih =>
    intro h i lv hj hh hf hc L0 L1 L2
    refine E_il rfl L2 ?_
    refine E_ci 20 rfl (by decide) ?_
    refine E_icF rfl (decide_eq_false (fun q => absurd ((nJ_le (by omega) (by omega)).mp q) (by omega))) ?_
    refine E_al rfl L0 ?_
    refine E_ogr (q := 31) rfl hh rfl rfl ?_
    refine E_il rfl L2 ?_
    refine E_al rfl L1 ?_
    refine E_ogr (q := 21) rfl hh rfl rfl ?_
    refine E_il rfl L2 ?_
    refine E_ial (v := gi h0 21 i) rfl hh rfl (by omega) (by decide) (by rw [fr_gi hf (rg_no rfl _)]) ?_
    have b6 := (ld_gi hh0 (a := 21) (k := i) (q := (0, 7)) (bd_u rfl (by omega))).2
    refine E_ias rfl hh rfl (by omega) (by decide) ?_
    have k6 : HH (pt h 31 i (gi h0 21 i)) := HH_pt (q := (0, 7)) hh (bd_u rfl (by omega)) b6.1 b6.2
    refine E_al rfl L0 ?_
    refine E_ogr (q := 32) rfl k6 rfl rfl ?_
    refine E_il rfl L2 ?_
    refine E_al rfl L1 ?_
    refine E_ogr (q := 22) rfl k6 rfl rfl ?_
    refine E_il rfl L2 ?_
    refine E_ial (v := gi h0 22 i) rfl k6 rfl (by omega) (by decide) (by rw [gi_ne (by omega), fr_gi hf (rg_no rfl _)]) ?_
    have b7 := (ld_gi hh0 (a := 22) (k := i) (q := (0, 8)) (bd_u rfl (by omega))).2
    refine E_ias rfl k6 rfl (by omega) (by decide) ?_
    have k7 : HH (pt (pt h 31 i (gi h0 21 i)) 32 i (gi h0 22 i)) := HH_pt (q := (0, 8)) k6 (bd_u rfl (by omega)) b7.1 b7.2
    refine E_al rfl L0 ?_
    refine E_ogr (q := 33) rfl k7 rfl rfl ?_
    refine E_il rfl L2 ?_
    refine E_al rfl L1 ?_
    refine E_ogr (q := 23) rfl k7 rfl rfl ?_
    refine E_il rfl L2 ?_
    refine E_zalB (v := gi h0 23 i) rfl k7 rfl (by omega) (by decide) (by rw [gi_ne (by omega), gi_ne (by omega), fr_gi hf (rg_no rfl _)]) ?_
    have b8 := (ld_gi hh0 (a := 23) (k := i) (q := (0, 1)) (bd_u rfl (by omega))).2
    refine E_zasB rfl k7 rfl (by omega) (by decide) (nar_z b8.1 b8.2) ?_
    have k8 : HH (pt (pt (pt h 31 i (gi h0 21 i)) 32 i (gi h0 22 i)) 33 i (gi h0 23 i)) := HH_pt (q := (0, 1)) k7 (bd_u rfl (by omega)) b8.1 b8.2
    refine E_inc rfl L2 (nJ_inc _) (fun lv1 K2 kp => ?_)
    refine E_goto rfl ?_
    refine ih lv1 (i := i + 1) (by omega) k8 ?_ (fun k hk => ?_) (kp 0 _ (by decide) rfl L0) (kp 1 _ (by decide) rfl L1) K2
    · exact fr_ptr (l := 0) (u := 19) rfl (by omega) (by omega) (fr_ptr (l := 0) (u := 19) rfl (by omega) (by omega) (fr_ptr (l := 0) (u := 19) rfl (by omega) (by omega) (hf)))
    · by_cases e : k = i
      · subst e
        refine ⟨?_, ?_, ?_⟩
        · rw [gi_ne (by omega), gi_ne (by omega)]; exact gi_pt (q := (0, 7)) hh (bd_u rfl (by omega)) b6.1 b6.2
        · rw [gi_ne (by omega)]; exact gi_pt (q := (0, 8)) k6 (bd_u rfl (by omega)) b7.1 b7.2
        · exact gi_pt (q := (0, 1)) k7 (bd_u rfl (by omega)) b8.1 b8.2
      · have q := hc k (by omega)
        refine ⟨?_, ?_, ?_⟩
        · rw [gi_ne (by omega), gi_ne (by omega), gi_ne (fun _ => e)]; exact q.1
        · rw [gi_ne (by omega), gi_ne (fun _ => e), gi_ne (by omega)]; exact q.2.1
        · rw [gi_ne (fun _ => e), gi_ne (by omega), gi_ne (by omega)]; exact q.2.2
noncomputable def TkF_25_15 : List Rng := [(25, 0, 6), (26, 0, 7), (27, 0, 7), (28, 0, 7), (29, 0, 7), (30, 0, 7), (31, 0, 19), (32, 0, 19), (33, 0, 19)]
noncomputable def TkQ_25_15 (h h' : pm_H) (r : Option Value) : Prop := r = none ∧ HH h' ∧ fr_g TkF_25_15 h h' ∧ (∀ k, k < 7 → gi h' 25 k = gi h 15 k) ∧ (∀ k, k < 8 → gi h' 26 k = gi h 16 k ∧ gi h' 27 k = gi h 17 k ∧ gi h' 28 k = gi h 18 k ∧ gi h' 29 k = gi h 19 k ∧ gi h' 30 k = gi h 20 k) ∧ ∀ k, k < 20 → gi h' 31 k = gi h 21 k ∧ gi h' 32 k = gi h 22 k ∧ gi h' 33 k = gi h 23 k
theorem sp_take_25_15 {h : pm_H} {d : Nat} (hh : HH h) : Sp (d + 1) 54 h [.ref 25, .ref 15] (TkQ_25_15 h) := by
  refine Sp_of aiX5_take rfl rfl rfl ?_
  have L0 : pm_get (lv_args 0 [.ref 25, .ref 15]) 0 = some (.ref 25) := rfl
  have L1 : pm_get (lv_args 0 [.ref 25, .ref 15]) 1 = some (.ref 15) := rfl
  generalize lv_args 0 [.ref 25, .ref 15] = lv at L0 L1 ⊢
  have st : ∀ {k : Nat} {q : Int × Int} {g : pm_H}, k < 7 → bd 25 k = some q → bd 15 k = some q → HH g → fr_g [(25, 0, 6)] h g → (∀ i, i < k → gi g 25 i = gi h 15 i) → HH (pt g 25 k (gi h 15 k)) ∧ fr_g [(25, 0, 6)] h (pt g 25 k (gi h 15 k)) ∧ ∀ i, i < k + 1 → gi (pt g 25 k (gi h 15 k)) 25 i = gi h 15 i := by
    intro k q g hk hb hb2 hg hf ha
    have b := (ld_gi hh hb2).2
    refine ⟨HH_pt hg hb b.1 b.2, fr_ptr (l := 0) (u := 6) rfl (by omega) (by omega) hf, fun i hi => ?_⟩
    by_cases e : i = k
    · rw [e]; exact gi_pt hg hb b.1 b.2
    · rw [gi_ne (fun _ => e)]; exact ha i (by omega)
  refine E_al rfl L0 ?_
  refine E_al rfl L1 ?_
  refine E_ogf (q := (0, 8)) (v := gi h 15 0) rfl hh rfl rfl rfl ?_
  refine E_opf (q := (0, 8)) rfl hh rfl rfl ?_
  obtain ⟨a0, b0, c0⟩ := st (k := 0) (q := (0, 8)) (by decide) rfl rfl hh (fr_rf _ _) (fun i hi => absurd hi (Nat.not_lt_zero i))
  refine E_al rfl L0 ?_
  refine E_al rfl L1 ?_
  refine E_ogf (q := (0, 3)) (v := gi h 15 1) rfl a0 rfl rfl (fr_gi b0 (rg_no rfl _)) ?_
  refine E_opf (q := (0, 3)) rfl a0 rfl rfl ?_
  obtain ⟨a1, b1, c1⟩ := st (k := 1) (q := (0, 3)) (by decide) rfl rfl a0 b0 c0
  refine E_al rfl L0 ?_
  refine E_al rfl L1 ?_
  refine E_ogf (q := (0, 10)) (v := gi h 15 2) rfl a1 rfl rfl (fr_gi b1 (rg_no rfl _)) ?_
  refine E_opf (q := (0, 10)) rfl a1 rfl rfl ?_
  obtain ⟨a2, b2, c2⟩ := st (k := 2) (q := (0, 10)) (by decide) rfl rfl a1 b1 c1
  refine E_al rfl L0 ?_
  refine E_al rfl L1 ?_
  refine E_ogf (q := ((-2147483648), 2147483647)) (v := gi h 15 3) rfl a2 rfl rfl (fr_gi b2 (rg_no rfl _)) ?_
  refine E_opf (q := ((-2147483648), 2147483647)) rfl a2 rfl rfl ?_
  obtain ⟨a3, b3, c3⟩ := st (k := 3) (q := ((-2147483648), 2147483647)) (by decide) rfl rfl a2 b2 c2
  refine E_al rfl L0 ?_
  refine E_al rfl L1 ?_
  refine E_ogf (q := (0, 8)) (v := gi h 15 4) rfl a3 rfl rfl (fr_gi b3 (rg_no rfl _)) ?_
  refine E_opf (q := (0, 8)) rfl a3 rfl rfl ?_
  obtain ⟨a4, b4, c4⟩ := st (k := 4) (q := (0, 8)) (by decide) rfl rfl a3 b3 c3
  refine E_al rfl L0 ?_
  refine E_al rfl L1 ?_
  refine E_ogf (q := (0, 8)) (v := gi h 15 5) rfl a4 rfl rfl (fr_gi b4 (rg_no rfl _)) ?_
  refine E_opf (q := (0, 8)) rfl a4 rfl rfl ?_
  obtain ⟨a5, b5, c5⟩ := st (k := 5) (q := (0, 8)) (by decide) rfl rfl a4 b4 c4
  refine E_al rfl L0 ?_
  refine E_al rfl L1 ?_
  refine E_ogf (q := (0, 20)) (v := gi h 15 6) rfl a5 rfl rfl (fr_gi b5 (rg_no rfl _)) ?_
  refine E_opf (q := (0, 20)) rfl a5 rfl rfl ?_
  obtain ⟨a6, b6, c6⟩ := st (k := 6) (q := (0, 20)) (by decide) rfl rfl a5 b5 c5
  generalize (pt (pt (pt (pt (pt (pt (pt h 25 0 (gi h 15 0)) 25 1 (gi h 15 1)) 25 2 (gi h 15 2)) 25 3 (gi h 15 3)) 25 4 (gi h 15 4)) 25 5 (gi h 15 5)) 25 6 (gi h 15 6)) = h6 at a6 b6 c6 ⊢
  refine E_ci 0 rfl (by decide) ?_
  refine E_is rfl (fun lv1 K2 kp => ?_)
  refine tk1_25_15 a6 (fun h7 lv2 hh7 f7 c7 M0 M1 => ?_) 8 (i := 0) lv1 (by omega) a6 (fr_rf _ _) (fun k hk => absurd hk (Nat.not_lt_zero k)) (kp 0 _ (by decide) rfl L0) (kp 1 _ (by decide) rfl L1) K2
  refine E_ci 0 rfl (by decide) ?_
  refine E_is rfl (fun lv3 K3 kp3 => ?_)
  refine tk2_25_15 hh7 (fun h8 lv4 hh8 f8 c8 N0 N1 => ?_) 20 (i := 0) lv3 (by omega) hh7 (fr_rf _ _) (fun k hk => absurd hk (Nat.not_lt_zero k)) (kp3 0 _ (by decide) rfl M0) (kp3 1 _ (by decide) rfl M1) K3
  refine E_ret rfl ⟨rfl, hh8, fr_trans (fr_wk rfl b6) (fr_trans (fr_wk rfl f7) (fr_wk rfl f8)), fun k hk => ?_, fun k hk => ?_, fun k hk => ?_⟩
  · rw [fr_gi f8 (rg_no rfl _), fr_gi f7 (rg_no rfl _)]; exact c6 k hk
  · obtain ⟨q1, q2, q3, q4, q5⟩ := c7 k hk
    refine ⟨?_, ?_, ?_, ?_, ?_⟩
    · rw [fr_gi f8 (rg_no rfl _), q1, fr_gi b6 (rg_no rfl _)]
    · rw [fr_gi f8 (rg_no rfl _), q2, fr_gi b6 (rg_no rfl _)]
    · rw [fr_gi f8 (rg_no rfl _), q3, fr_gi b6 (rg_no rfl _)]
    · rw [fr_gi f8 (rg_no rfl _), q4, fr_gi b6 (rg_no rfl _)]
    · rw [fr_gi f8 (rg_no rfl _), q5, fr_gi b6 (rg_no rfl _)]
  · obtain ⟨q6, q7, q8⟩ := c8 k hk
    refine ⟨?_, ?_, ?_⟩
    · rw [q6, fr_gi f7 (rg_no rfl _), fr_gi b6 (rg_no rfl _)]
    · rw [q7, fr_gi f7 (rg_no rfl _), fr_gi b6 (rg_no rfl _)]
    · rw [q8, fr_gi f7 (rg_no rfl _), fr_gi b6 (rg_no rfl _)]
theorem tk1_34_15 {h0 : pm_H} {d : Nat} {Q : pm_H → Option Value → Prop} (hh0 : HH h0) (K : ∀ (h : pm_H) (lv : List (Nat × Value)), HH h → fr_g [(35, 0, 7), (36, 0, 7), (37, 0, 7), (38, 0, 7), (39, 0, 7)] h0 h → (∀ k, k < 8 → gi h 35 k = gi h0 16 k ∧ gi h 36 k = gi h0 17 k ∧ gi h 37 k = gi h0 18 k ∧ gi h 38 k = gi h0 19 k ∧ gi h 39 k = gi h0 20 k) → pm_get lv 0 = some (.ref 34) → pm_get lv 1 = some (.ref 15) → Ends (pm_at tX5_take) (pm_Rt pm_P d) (130, lv, [], h, 0, 0) Q) (j : Nat) : ∀ {h : pm_H} {i : Nat} (lv : List (Nat × Value)), i + j = 8 → HH h → fr_g [(35, 0, 7), (36, 0, 7), (37, 0, 7), (38, 0, 7), (39, 0, 7)] h0 h → (∀ k, k < i → gi h 35 k = gi h0 16 k ∧ gi h 36 k = gi h0 17 k ∧ gi h 37 k = gi h0 18 k ∧ gi h 38 k = gi h0 19 k ∧ gi h 39 k = gi h0 20 k) → pm_get lv 0 = some (.ref 34) → pm_get lv 1 = some (.ref 15) → pm_get lv 2 = some (.int (nJ i)) → Ends (pm_at tX5_take) (pm_Rt pm_P d) (58, lv, [], h, 0, 0) Q := by
  induction j with
  | zero =>
    intro h i lv hj hh hf hc L0 L1 L2
    refine E_il rfl L2 ?_
    refine E_ci 8 rfl (by decide) ?_
    refine E_icT rfl (decide_eq_true ((nJ_le (by omega) (by omega)).mpr (by omega))) ?_
    exact K h lv hh hf (fun k hk => hc k (by omega)) L0 L1
  | succ j ih =>
    intro h i lv hj hh hf hc L0 L1 L2
    refine E_il rfl L2 ?_
    refine E_ci 8 rfl (by decide) ?_
    refine E_icF rfl (decide_eq_false (fun q => absurd ((nJ_le (by omega) (by omega)).mp q) (by omega))) ?_
    refine E_al rfl L0 ?_
    refine E_ogr (q := 35) rfl hh rfl rfl ?_
    refine E_il rfl L2 ?_
    refine E_al rfl L1 ?_
    refine E_ogr (q := 16) rfl hh rfl rfl ?_
    refine E_il rfl L2 ?_
    refine E_ial (v := gi h0 16 i) rfl hh rfl (by omega) (by decide) (by rw [fr_gi hf (rg_no rfl _)]) ?_
    have b1 := (ld_gi hh0 (a := 16) (k := i) (q := (0, 8)) (bd_u rfl (by omega))).2
    refine E_ias rfl hh rfl (by omega) (by decide) ?_
    have k1 : HH (pt h 35 i (gi h0 16 i)) := HH_pt (q := (0, 8)) hh (bd_u rfl (by omega)) b1.1 b1.2
    refine E_al rfl L0 ?_
    refine E_ogr (q := 36) rfl k1 rfl rfl ?_
    refine E_il rfl L2 ?_
    refine E_al rfl L1 ?_
    refine E_ogr (q := 17) rfl k1 rfl rfl ?_
    refine E_il rfl L2 ?_
    refine E_ial (v := gi h0 17 i) rfl k1 rfl (by omega) (by decide) (by rw [gi_ne (by omega), fr_gi hf (rg_no rfl _)]) ?_
    have b2 := (ld_gi hh0 (a := 17) (k := i) (q := (0, 8)) (bd_u rfl (by omega))).2
    refine E_ias rfl k1 rfl (by omega) (by decide) ?_
    have k2 : HH (pt (pt h 35 i (gi h0 16 i)) 36 i (gi h0 17 i)) := HH_pt (q := (0, 8)) k1 (bd_u rfl (by omega)) b2.1 b2.2
    refine E_al rfl L0 ?_
    refine E_ogr (q := 37) rfl k2 rfl rfl ?_
    refine E_il rfl L2 ?_
    refine E_al rfl L1 ?_
    refine E_ogr (q := 18) rfl k2 rfl rfl ?_
    refine E_il rfl L2 ?_
    refine E_ial (v := gi h0 18 i) rfl k2 rfl (by omega) (by decide) (by rw [gi_ne (by omega), gi_ne (by omega), fr_gi hf (rg_no rfl _)]) ?_
    have b3 := (ld_gi hh0 (a := 18) (k := i) (q := (0, 99)) (bd_u rfl (by omega))).2
    refine E_ias rfl k2 rfl (by omega) (by decide) ?_
    have k3 : HH (pt (pt (pt h 35 i (gi h0 16 i)) 36 i (gi h0 17 i)) 37 i (gi h0 18 i)) := HH_pt (q := (0, 99)) k2 (bd_u rfl (by omega)) b3.1 b3.2
    refine E_al rfl L0 ?_
    refine E_ogr (q := 38) rfl k3 rfl rfl ?_
    refine E_il rfl L2 ?_
    refine E_al rfl L1 ?_
    refine E_ogr (q := 19) rfl k3 rfl rfl ?_
    refine E_il rfl L2 ?_
    refine E_ial (v := gi h0 19 i) rfl k3 rfl (by omega) (by decide) (by rw [gi_ne (by omega), gi_ne (by omega), gi_ne (by omega), fr_gi hf (rg_no rfl _)]) ?_
    have b4 := (ld_gi hh0 (a := 19) (k := i) (q := (0, 9)) (bd_u rfl (by omega))).2
    refine E_ias rfl k3 rfl (by omega) (by decide) ?_
    have k4 : HH (pt (pt (pt (pt h 35 i (gi h0 16 i)) 36 i (gi h0 17 i)) 37 i (gi h0 18 i)) 38 i (gi h0 19 i)) := HH_pt (q := (0, 9)) k3 (bd_u rfl (by omega)) b4.1 b4.2
    refine E_al rfl L0 ?_
    refine E_ogr (q := 39) rfl k4 rfl rfl ?_
    refine E_il rfl L2 ?_
    refine E_al rfl L1 ?_
    refine E_ogr (q := 20) rfl k4 rfl rfl ?_
    refine E_il rfl L2 ?_
    refine E_ial (v := gi h0 20 i) rfl k4 rfl (by omega) (by decide) (by rw [gi_ne (by omega), gi_ne (by omega), gi_ne (by omega), gi_ne (by omega), fr_gi hf (rg_no rfl _)]) ?_
    have b5 := (ld_gi hh0 (a := 20) (k := i) (q := (0, 9)) (bd_u rfl (by omega))).2
    refine E_ias rfl k4 rfl (by omega) (by decide) ?_
    have k5 : HH (pt (pt (pt (pt (pt h 35 i (gi h0 16 i)) 36 i (gi h0 17 i)) 37 i (gi h0 18 i)) 38 i (gi h0 19 i)) 39 i (gi h0 20 i)) := HH_pt (q := (0, 9)) k4 (bd_u rfl (by omega)) b5.1 b5.2
    refine E_inc rfl L2 (nJ_inc _) (fun lv1 K2 kp => ?_)
    refine E_goto rfl ?_
    refine ih lv1 (i := i + 1) (by omega) k5 ?_ (fun k hk => ?_) (kp 0 _ (by decide) rfl L0) (kp 1 _ (by decide) rfl L1) K2
    · exact fr_ptr (l := 0) (u := 7) rfl (by omega) (by omega) (fr_ptr (l := 0) (u := 7) rfl (by omega) (by omega) (fr_ptr (l := 0) (u := 7) rfl (by omega) (by omega) (fr_ptr (l := 0) (u := 7) rfl (by omega) (by omega) (fr_ptr (l := 0) (u := 7) rfl (by omega) (by omega) (hf)))))
    · by_cases e : k = i
      · subst e
        refine ⟨?_, ?_, ?_, ?_, ?_⟩
        · rw [gi_ne (by omega), gi_ne (by omega), gi_ne (by omega), gi_ne (by omega)]; exact gi_pt (q := (0, 8)) hh (bd_u rfl (by omega)) b1.1 b1.2
        · rw [gi_ne (by omega), gi_ne (by omega), gi_ne (by omega)]; exact gi_pt (q := (0, 8)) k1 (bd_u rfl (by omega)) b2.1 b2.2
        · rw [gi_ne (by omega), gi_ne (by omega)]; exact gi_pt (q := (0, 99)) k2 (bd_u rfl (by omega)) b3.1 b3.2
        · rw [gi_ne (by omega)]; exact gi_pt (q := (0, 9)) k3 (bd_u rfl (by omega)) b4.1 b4.2
        · exact gi_pt (q := (0, 9)) k4 (bd_u rfl (by omega)) b5.1 b5.2
      · have q := hc k (by omega)
        refine ⟨?_, ?_, ?_, ?_, ?_⟩
        · rw [gi_ne (by omega), gi_ne (by omega), gi_ne (by omega), gi_ne (by omega), gi_ne (fun _ => e)]; exact q.1
        · rw [gi_ne (by omega), gi_ne (by omega), gi_ne (by omega), gi_ne (fun _ => e), gi_ne (by omega)]; exact q.2.1
        · rw [gi_ne (by omega), gi_ne (by omega), gi_ne (fun _ => e), gi_ne (by omega), gi_ne (by omega)]; exact q.2.2.1
        · rw [gi_ne (by omega), gi_ne (fun _ => e), gi_ne (by omega), gi_ne (by omega), gi_ne (by omega)]; exact q.2.2.2.1
        · rw [gi_ne (fun _ => e), gi_ne (by omega), gi_ne (by omega), gi_ne (by omega), gi_ne (by omega)]; exact q.2.2.2.2
end
