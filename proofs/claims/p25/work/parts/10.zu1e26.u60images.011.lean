section
theorem hB_le {W : Nat → Nat} {n : Nat} {q c0 : Nat} {s : HG} (V : hV W n q c0 s) {i : Nat} (hi : i < s.2.2) : s.1 i ≤ n := by
  by_cases z : i = 0
  · rw [z, V.2.1]; exact Nat.zero_le n
  · obtain ⟨c, h1, h2, -⟩ := V.2.2.1 i (by omega) hi
    omega
/-! the class -/
noncomputable def TF : List Rng := [(64, 5, 6), (65, 0, 8), (66, 0, 8)]
section HNG
variable {h0 : pm_H} {d n : Nat} {W : Nat → Nat}
theorem sp_beginT {h : pm_H} (hh : HH h) (n8 : n ≤ 8) : Sp (d + 1) 58 h [.ref 64, .int (nJ n)] (fun h' r => r = none ∧ HH h' ∧ fr_g TF h h' ∧ gi h' 64 5 = nJ (n + 1) ∧ gi h' 64 6 = nJ 1 ∧ gi h' 66 0 = nJ 0 ∧ ∀ v, gi h' 65 v = gi h 65 v) := by
  refine Sp_of aiX7_begin rfl rfl rfl ?_
  have L0 : pm_get (lv_args 0 [.ref 64, .int (nJ n)]) 0 = some (.ref 64) := rfl
  have L1 : pm_get (lv_args 0 [.ref 64, .int (nJ n)]) 1 = some (.int (nJ n)) := rfl
  generalize lv_args 0 [.ref 64, .int (nJ n)] = lv at L0 L1 ⊢
  refine E_al rfl L0 ?_
  refine E_il rfl L1 ?_
  refine E_ci 1 rfl (by decide) ?_
  refine E_bin rfl (nJ_add _ _) ?_
  refine E_opf (q := (0, 9)) rfl hh rfl rfl ?_
  have h1 : HH (pt h 64 5 (nJ (n + 1))) := HH_ptn hh rfl (by omega) (by omega) (by omega)
  have F1 : fr_g TF h (pt h 64 5 (nJ (n + 1))) := fr_ptr (l := 5) (u := 6) rfl (by omega) (by omega) (fr_rf _ _)
  have g1 : gi (pt h 64 5 (nJ (n + 1))) 64 5 = nJ (n + 1) := gi_ptn hh rfl (by omega) (by omega) (by omega)
  have p1 : ∀ v, gi (pt h 64 5 (nJ (n + 1))) 65 v = gi h 65 v := fun v => gi_ne (by omega)
  generalize pt h 64 5 (nJ (n + 1)) = a at h1 F1 g1 p1 ⊢
  refine E_al rfl L0 ?_
  refine E_ci 1 rfl (by decide) ?_
  refine E_opf (q := (0, 9)) rfl h1 rfl rfl ?_
  have h2 : HH (pt a 64 6 (nJ 1)) := HH_ptn h1 rfl (by omega) (by omega) (by omega)
  have F2 : fr_g TF h (pt a 64 6 (nJ 1)) := fr_ptr (l := 5) (u := 6) rfl (by omega) (by omega) F1
  have g2 : gi (pt a 64 6 (nJ 1)) 64 6 = nJ 1 := gi_ptn h1 rfl (by omega) (by omega) (by omega)
  have g3 : gi (pt a 64 6 (nJ 1)) 64 5 = nJ (n + 1) := by rw [gi_ne (by omega)]; exact g1
  have p2 : ∀ v, gi (pt a 64 6 (nJ 1)) 65 v = gi h 65 v := fun v => by rw [gi_ne (by omega)]; exact p1 v
  generalize pt a 64 6 (nJ 1) = b at h2 F2 g2 g3 p2 ⊢
  refine E_al rfl L0 ?_
  refine E_ogr (q := 66) rfl h2 rfl rfl ?_
  refine E_ci 0 rfl (by decide) ?_
  refine E_ci 0 rfl (by decide) ?_
  refine E_ias rfl h2 rfl (by omega) (by decide) ?_
  have b66 : bd 66 0 = some (0, 8) := bd_u rfl (by omega)
  refine E_ret rfl ⟨rfl, HH_ptn h2 b66 (by omega) (by omega) (by omega), fr_ptr (l := 0) (u := 8) rfl (by omega) (by omega) F2, ?_, ?_, gi_ptn h2 b66 (by omega) (by omega) (by omega), fun v => ?_⟩
  · rw [gi_ne (by omega)]; exact g3
  · rw [gi_ne (by omega)]; exact g2
  · rw [gi_ne (by omega)]; exact p2 v
theorem sp_bringT {h : pm_H} {m v f : Nat} (hh : HH h) (n8 : n ≤ 8) (hm : m ≤ n) (v8 : v ≤ 8) (f8 : f ≤ 8) (g5 : gi h 64 5 = nJ (n + 1)) (g6 : gi h 64 6 = nJ m) : Sp (d + 1) 59 h [.ref 64, .int (nJ v), .int (nJ f)] (fun h' r => r = none ∧ HH h' ∧ fr_g TF h h' ∧ gi h' 64 5 = nJ (n + 1) ∧ gi h' 64 6 = nJ (m + 1) ∧ gi h' 66 m = nJ v ∧ (∀ i, i ≠ m → gi h' 66 i = gi h 66 i) ∧ gi h' 65 v = nJ f ∧ ∀ i, i ≠ v → gi h' 65 i = gi h 65 i) := by
  refine Sp_of aiX7_bring rfl rfl rfl ?_
  have L0 : pm_get (lv_args 0 [.ref 64, .int (nJ v), .int (nJ f)]) 0 = some (.ref 64) := rfl
  have L1 : pm_get (lv_args 0 [.ref 64, .int (nJ v), .int (nJ f)]) 1 = some (.int (nJ v)) := rfl
  have L2 : pm_get (lv_args 0 [.ref 64, .int (nJ v), .int (nJ f)]) 2 = some (.int (nJ f)) := rfl
  generalize lv_args 0 [.ref 64, .int (nJ v), .int (nJ f)] = lv at L0 L1 L2 ⊢
  refine E_al rfl L0 ?_
  refine E_ogf (q := (0, 9)) rfl hh rfl rfl g6 ?_
  refine E_al rfl L0 ?_
  refine E_ogf (q := (0, 9)) rfl hh rfl rfl g5 ?_
  refine E_icF rfl (decide_eq_false (fun z => absurd ((nJ_le (by omega) (by omega)).mp z) (by omega))) ?_
  refine E_al rfl L0 ?_
  refine E_ogr (q := 65) rfl hh rfl rfl ?_
  refine E_il rfl L1 ?_
  refine E_il rfl L2 ?_
  refine E_ias rfl hh rfl (by omega) (by decide) ?_
  have b65 : bd 65 v = some (0, 8) := bd_u rfl (by omega)
  have h1 : HH (pt h 65 v (nJ f)) := HH_ptn hh b65 (by omega) (by omega) (by omega)
  have F1 : fr_g TF h (pt h 65 v (nJ f)) := fr_ptr (l := 0) (u := 8) rfl (by omega) (by omega) (fr_rf _ _)
  have k1 : gi (pt h 65 v (nJ f)) 65 v = nJ f := gi_ptn hh b65 (by omega) (by omega) (by omega)
  have k2 : ∀ i, i ≠ v → gi (pt h 65 v (nJ f)) 65 i = gi h 65 i := fun i hi => gi_ne (fun _ => hi)
  have k3 : gi (pt h 65 v (nJ f)) 64 5 = nJ (n + 1) := by rw [gi_ne (by omega)]; exact g5
  have k4 : gi (pt h 65 v (nJ f)) 64 6 = nJ m := by rw [gi_ne (by omega)]; exact g6
  have k5 : ∀ i, gi (pt h 65 v (nJ f)) 66 i = gi h 66 i := fun i => gi_ne (by omega)
  generalize pt h 65 v (nJ f) = a at h1 F1 k1 k2 k3 k4 k5 ⊢
  refine E_al rfl L0 ?_
  refine E_ogr (q := 66) rfl h1 rfl rfl ?_
  refine E_al rfl L0 ?_
  refine E_ogf (q := (0, 9)) rfl h1 rfl rfl k4 ?_
  refine E_il rfl L1 ?_
  refine E_ias rfl h1 rfl (by omega) (by decide) ?_
  have b66 : bd 66 m = some (0, 8) := bd_u rfl (by omega)
  have h2 : HH (pt a 66 m (nJ v)) := HH_ptn h1 b66 (by omega) (by omega) (by omega)
  have F2 : fr_g TF h (pt a 66 m (nJ v)) := fr_ptr (l := 0) (u := 8) rfl (by omega) (by omega) F1
  have m1 : gi (pt a 66 m (nJ v)) 66 m = nJ v := gi_ptn h1 b66 (by omega) (by omega) (by omega)
  have m2 : ∀ i, i ≠ m → gi (pt a 66 m (nJ v)) 66 i = gi h 66 i := fun i hi => by rw [gi_ne (fun _ => hi)]; exact k5 i
  have m3 : gi (pt a 66 m (nJ v)) 64 5 = nJ (n + 1) := by rw [gi_ne (by omega)]; exact k3
  have m4 : gi (pt a 66 m (nJ v)) 64 6 = nJ m := by rw [gi_ne (by omega)]; exact k4
  have m5 : gi (pt a 66 m (nJ v)) 65 v = nJ f := by rw [gi_ne (by omega)]; exact k1
  have m6 : ∀ i, i ≠ v → gi (pt a 66 m (nJ v)) 65 i = gi h 65 i := fun i hi => by rw [gi_ne (by omega)]; exact k2 i hi
  generalize pt a 66 m (nJ v) = b at h2 F2 m1 m2 m3 m4 m5 m6 ⊢
  refine E_al rfl L0 ?_
  refine E_dup rfl rfl ?_
  refine E_ogf (q := (0, 9)) rfl h2 rfl rfl m4 ?_
  refine E_ci 1 rfl (by decide) ?_
  refine E_bin rfl (nJ_add _ _) ?_
  refine E_opf (q := (0, 9)) rfl h2 rfl rfl ?_
  refine E_ret rfl ⟨rfl, HH_ptn h2 rfl (by omega) (by omega) (by omega), fr_ptr (l := 5) (u := 6) rfl (by omega) (by omega) F2, ?_, gi_ptn h2 rfl (by omega) (by omega) (by omega), ?_, fun i hi => ?_, ?_, fun i hi => ?_⟩
  · rw [gi_ne (by omega)]; exact m3
  · rw [gi_ne (by omega)]; exact m1
  · rw [gi_ne (by omega)]; exact m2 i hi
  · rw [gi_ne (by omega)]; exact m5
  · rw [gi_ne (by omega)]; exact m6 i hi
theorem hn8_in {q : Nat} {Q : pm_H → Option Value → Prop} (n8 : n ≤ 8) (hq : q < n) (wb : ∀ c, c < n → 1 ≤ W c ∧ W c ≤ n) (lw : q < 1 + cw W q n) (VB : hV W n q 0 (hB W n q)) (h17 : ∀ h, fr_g TF h0 h → ∀ c, c < n → gi h 17 c = nJ (W c)) (j : Nat) : ∀ {h : pm_H} {c : Nat} (lv : List (Nat × Value)), c + j = n → HH h → fr_g TF h0 h → TRH 65 66 n q c W (hI W (q + 1) (hB W n q) c) h → gi h 64 5 = nJ (n + 1) → gi h 64 6 = nJ (hI W (q + 1) (hB W n q) c).2.2 → pm_get lv 0 = some (.ref 64) → pm_get lv 1 = some (.ref 17) → pm_get lv 2 = some (.int (nJ n)) → pm_get lv 3 = some (.int (nJ (q + 1))) → pm_get lv 4 = some (.int (nJ ((hB W n q).1 q))) → pm_get lv 5 = some (.int (nJ c)) → (∀ (h' : pm_H) (lv' : List (Nat × Value)), HH h' → fr_g TF h0 h' → TRH 65 66 n (q + 1) 0 W (hB W n (q + 1)) h' → gi h' 64 5 = nJ (n + 1) → gi h' 64 6 = nJ (hB W n (q + 1)).2.2 → pm_get lv' 0 = some (.ref 64) → pm_get lv' 1 = some (.ref 17) → pm_get lv' 2 = some (.int (nJ n)) → pm_get lv' 3 = some (.int (nJ (q + 1))) → Ends (pm_at tX7_hang) (pm_Rt pm_P (d + 1)) (55, lv', [], h', 0, 0) Q) → Ends (pm_at tX7_hang) (pm_Rt pm_P (d + 1)) (25, lv, [], h, 0, 0) Q := by
  induction j with
  | zero =>
    intro h c lv hj hh F T g5 g6 L0 L1 L2 L3 L4 L5 K
    have e : c = n := by omega
    subst e
    refine E_il rfl L5 ?_
    refine E_il rfl L2 ?_
    refine E_icT rfl (decide_eq_true ((nJ_le (by omega) (by omega)).mpr (by omega))) ?_
    exact K h lv hh F (TRH_next T) g5 g6 L0 L1 L2 L3
  | succ j ih =>
    intro h c lv hj hh F T g5 g6 L0 L1 L2 L3 L4 L5 K
    have hc : c < n := by omega
    have w := wb c hc
    have cnt := hI_c (W := W) (p := q + 1) (s := hB W n q) c
    have v1 := VB.1
    have z0 : ce W (q + 1) 0 = 0 := rfl
    refine E_il rfl L5 ?_
    refine E_il rfl L2 ?_
    refine E_icF rfl (decide_eq_false (fun z => absurd ((nJ_le (by omega) (by omega)).mp z) (by omega))) ?_
    refine E_al rfl L1 ?_
    refine E_il rfl L5 ?_
    refine E_ial rfl hh rfl (by omega) (by decide) (h17 h F c hc) ?_
    refine E_il rfl L3 ?_
    have nx : ∀ (h' : pm_H) (lv : List (Nat × Value)), HH h' → fr_g TF h0 h' → TRH 65 66 n q (c + 1) W (hI W (q + 1) (hB W n q) (c + 1)) h' → gi h' 64 5 = nJ (n + 1) → gi h' 64 6 = nJ (hI W (q + 1) (hB W n q) (c + 1)).2.2 → pm_get lv 0 = some (.ref 64) → pm_get lv 1 = some (.ref 17) → pm_get lv 2 = some (.int (nJ n)) → pm_get lv 3 = some (.int (nJ (q + 1))) → pm_get lv 4 = some (.int (nJ ((hB W n q).1 q))) → pm_get lv 5 = some (.int (nJ c)) → Ends (pm_at tX7_hang) (pm_Rt pm_P (d + 1)) (49, lv, [], h', 0, 0) Q := by
      intro h' lv hh' F' T' g5' g6' N0 N1 N2 N3 N4 N5
      refine E_inc rfl N5 (nJ_inc _) (fun lv2 K5 kp2 => ?_)
      refine E_goto rfl ?_
      exact ih lv2 (by omega) hh' F' T' g5' g6' (kp2 0 _ (by decide) rfl N0) (kp2 1 _ (by decide) rfl N1) (kp2 2 _ (by decide) rfl N2) (kp2 3 _ (by decide) rfl N3) (kp2 4 _ (by decide) rfl N4) K5 K
    by_cases e : W c = q + 1
    · refine E_icF rfl (decide_eq_false (fun z => z (by rw [e]))) ?_
      have cl := ce_lt W (q + 1) hc e
      have cs := cw_succ W q n
      have cwl := cw_le W (q + 1) n
      refine E_al rfl L0 ?_
      refine E_il rfl L5 ?_
      refine E_ci 1 rfl (by decide) ?_
      refine E_bin rfl (nJ_add _ _) ?_
      refine E_il rfl L4 ?_
      have f8 : (hB W n q).1 q ≤ n := hB_le VB (by omega)
      refine E_call rfl (sp_bringT (d := d) (m := (hI W (q + 1) (hB W n q) c).2.2) hh n8 (by omega) (show c + 1 ≤ 8 by omega) (show (hB W n q).1 q ≤ 8 by omega) g5 g6) (chkO (a := 64) hh rfl rfl rfl rfl (by show 0 ≤ 8; decide)) (fun h1 r1 => ?_)
      rintro ⟨e1, hh1, f1, k5, k6, b1, b2, a1, a2⟩
      rw [e1]
      refine nx h1 lv hh1 (fr_trans F f1) (TRH_add e T b1 b2 ?_ a2) k5 ?_ L0 L1 L2 L3 L4 L5
      · rw [a1, hI_lo (by omega) c]
      · rw [k6]
        show _ = nJ (hstep W (q + 1) c (hI W (q + 1) (hB W n q) c)).2.2
        unfold hstep
        rw [if_pos e]
    · refine E_icT rfl (decide_eq_true (fun z => e ((nJ_eq (by omega) (by omega)).mp z))) ?_
      refine nx h lv hh F (TRH_skip e T) g5 ?_ L0 L1 L2 L3 L4 L5
      rw [g6]
      show _ = nJ (hstep W (q + 1) c (hI W (q + 1) (hB W n q) c)).2.2
      unfold hstep
      rw [if_neg e]
end HNG
end
