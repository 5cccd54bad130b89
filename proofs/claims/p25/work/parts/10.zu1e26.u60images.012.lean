section
section HNG
variable {h0 : pm_H} {d n : Nat} {W : Nat → Nat}
theorem hn8_out (n8 : n ≤ 8) (wb : ∀ c, c < n → 1 ≤ W c ∧ W c ≤ n) (lw : ∀ q, 1 ≤ q → q ≤ n → q ≤ cw W q n) (h17 : ∀ h, fr_g TF h0 h → ∀ c, c < n → gi h 17 c = nJ (W c)) (j : Nat) : ∀ {h : pm_H} {q : Nat} (lv : List (Nat × Value)), q + j = n → HH h → fr_g TF h0 h → TRH 65 66 n q 0 W (hB W n q) h → gi h 64 5 = nJ (n + 1) → gi h 64 6 = nJ (hB W n q).2.2 → pm_get lv 0 = some (.ref 64) → pm_get lv 1 = some (.ref 17) → pm_get lv 2 = some (.int (nJ n)) → pm_get lv 3 = some (.int (nJ (q + 1))) → Ends (pm_at tX7_hang) (pm_Rt pm_P (d + 1)) (7, lv, [], h, 0, 0) (fun h' r => r = none ∧ HH h' ∧ fr_g TF h0 h' ∧ TRX 65 66 n (hB W n n).1 (hB W n n).2.1 h' ∧ gi h' 64 5 = nJ (n + 1)) := by
  have w1 : ∀ c, c < n → 1 ≤ W c := fun c hc => (wb c hc).1
  induction j with
  | zero =>
    intro h q lv hj hh F T g5 g6 L0 L1 L2 L3
    have e : q = n := by omega
    subst e
    refine E_il rfl L3 ?_
    refine E_il rfl L2 ?_
    refine E_icT rfl (decide_eq_true ((nJ_lt (by omega) (by omega)).mpr (by omega))) ?_
    exact E_ret rfl ⟨rfl, hh, F, TRH_end wb (hV_B w1 lw (Nat.le_refl q)) T, g5⟩
  | succ j ih =>
    intro h q lv hj hh F T g5 g6 L0 L1 L2 L3
    have VB := hV_B w1 lw (show q ≤ n by omega)
    have lq : q < 1 + cw W q n := by
      rcases Nat.eq_zero_or_pos q with z | z
      · omega
      · have := lw q z (by omega); omega
    have v1 := VB.1
    have z0 : ce W (q + 1) 0 = 0 := rfl
    refine E_il rfl L3 ?_
    refine E_il rfl L2 ?_
    refine E_icF rfl (decide_eq_false (fun z => absurd ((nJ_lt (by omega) (by omega)).mp z) (by omega))) ?_
    refine E_al rfl L0 ?_
    refine E_ogr (q := 66) rfl hh rfl rfl ?_
    refine E_il rfl L3 ?_
    refine E_ci 1 rfl (by decide) ?_
    refine E_bin rfl (show nJ (q + 1) - nJ 1 = nJ q from nJ_sub (by omega)) ?_
    refine E_ial rfl hh rfl (by omega) (by decide) (T.1 q (by omega)) ?_
    refine E_is rfl (fun lv1 K4 kp => ?_)
    refine E_ci 0 rfl (by decide) ?_
    refine E_is rfl (fun lv2 K5 kp2 => ?_)
    refine hn8_in n8 (show q < n by omega) wb lq VB h17 n (c := 0) lv2 (by omega) hh F T g5 g6 (kp2 0 _ (by decide) rfl (kp 0 _ (by decide) rfl L0)) (kp2 1 _ (by decide) rfl (kp 1 _ (by decide) rfl L1)) (kp2 2 _ (by decide) rfl (kp 2 _ (by decide) rfl L2)) (kp2 3 _ (by decide) rfl (kp 3 _ (by decide) rfl L3)) (kp2 4 _ (by decide) rfl K4) K5 (fun h' lv' hh' F' T' g5' g6' M0 M1 M2 M3 => ?_)
    refine E_inc rfl M3 (nJ_inc _) (fun lv3 K3 kp3 => ?_)
    refine E_goto rfl ?_
    exact ih lv3 (by omega) hh' F' T' g5' g6' (kp3 0 _ (by decide) rfl M0) (kp3 1 _ (by decide) rfl M1) (kp3 2 _ (by decide) rfl M2) K3
theorem sp_hang8 {h : pm_H} (hh : HH h) (n8 : n ≤ 8) (wb : ∀ c, c < n → 1 ≤ W c ∧ W c ≤ n) (lw : ∀ q, 1 ≤ q → q ≤ n → q ≤ cw W q n) (h17 : ∀ c, c < n → gi h 17 c = nJ (W c)) : Sp (d + 2) 63 h [.ref 64, .ref 17, .int (nJ n)] (fun h' r => r = none ∧ HH h' ∧ fr_g TF h h' ∧ TRX 65 66 n (hB W n n).1 (hB W n n).2.1 h' ∧ gi h' 64 5 = nJ (n + 1)) := by
  refine Sp_of aiX7_hang rfl rfl rfl ?_
  have L0 : pm_get (lv_args 0 [.ref 64, .ref 17, .int (nJ n)]) 0 = some (.ref 64) := rfl
  have L1 : pm_get (lv_args 0 [.ref 64, .ref 17, .int (nJ n)]) 1 = some (.ref 17) := rfl
  have L2 : pm_get (lv_args 0 [.ref 64, .ref 17, .int (nJ n)]) 2 = some (.int (nJ n)) := rfl
  generalize lv_args 0 [.ref 64, .ref 17, .int (nJ n)] = lv at L0 L1 L2 ⊢
  refine E_al rfl L0 ?_
  refine E_il rfl L2 ?_
  refine E_call rfl (sp_beginT (d := d) hh n8) (chkO (a := 64) hh rfl rfl rfl rfl (by show 0 ≤ 8; decide)) (fun h1 r1 => ?_)
  rintro ⟨e1, hh1, f1, k5, k6, b0, a0⟩
  rw [e1]
  refine E_ci 1 rfl (by decide) ?_
  refine E_is rfl (fun lv1 K3 kp => ?_)
  refine hn8_out (h0 := h) n8 wb lw (fun g f c hc => by rw [fr_gi f (rg_no rfl _)]; exact h17 c hc) n (q := 0) lv1 (by omega) hh1 f1 ⟨fun i hi => ?_, fun c hc p => ?_⟩ k5 k6 (kp 0 _ (by decide) rfl L0) (kp 1 _ (by decide) rfl L1) (kp 2 _ (by decide) rfl L2) K3
  · have hi : i < 1 := hi
    rw [show i = 0 by omega]; exact b0
  · have := (wb c hc).1
    rcases p with p | ⟨_, p⟩ <;> omega
/-! the reference -/
theorem hn9_in {q : Nat} {Q : pm_H → Option Value → Prop} (n8 : n ≤ 8) (hq : q < n) (wb : ∀ c, c < n → 1 ≤ W c ∧ W c ≤ n) (lw : q < 1 + cw W q n) (VB : hV W n q 0 (hB W n q)) (h89 : ∀ h, fr_g LM h0 h → gn h 84 3 = n ∧ ∀ c, c < n → gi h 89 c = nJ (W c)) (j : Nat) : ∀ {h : pm_H} {c : Nat} (lv : List (Nat × Value)), c + j = n → HH h → fr_g LM h0 h → TRH 92 93 n q c W (hI W (q + 1) (hB W n q) c) h → pm_get lv 0 = some (.ref 77) → pm_get lv 1 = some (.int (nJ (hI W (q + 1) (hB W n q) c).2.2)) → pm_get lv 2 = some (.int (nJ (q + 1))) → pm_get lv 3 = some (.int (nJ c)) → (∀ (h' : pm_H) (lv' : List (Nat × Value)), HH h' → fr_g LM h0 h' → TRH 92 93 n (q + 1) 0 W (hB W n (q + 1)) h' → pm_get lv' 0 = some (.ref 77) → pm_get lv' 1 = some (.int (nJ (hB W n (q + 1)).2.2)) → pm_get lv' 2 = some (.int (nJ (q + 1))) → Ends (pm_at tX9_laysTree) (pm_Rt pm_P (d + 1)) (76, lv', [], h', 0, 0) Q) → Ends (pm_at tX9_laysTree) (pm_Rt pm_P (d + 1)) (21, lv, [], h, 0, 0) Q := by
  induction j with
  | zero =>
    intro h c lv hj hh F T L0 L1 L2 L3 K
    have e : c = n := by omega
    have u3 := (h89 h F).1
    refine E_il rfl L3 ?_
    refine E_al rfl L0 ?_
    refine E_call rfl (sp_cars (d := d) hh) (chk77 hh rfl rfl (by show 1 ≤ 8; decide)) (fun h1 r1 => ?_)
    rintro ⟨e1, f1, -⟩
    rw [e1, f1, u3]
    subst e
    refine E_icT rfl (decide_eq_true ((nJ_le (by omega) (by omega)).mpr (by omega))) ?_
    exact K h lv hh F (TRH_next T) L0 L1 L2
  | succ j ih =>
    intro h c lv hj hh F T L0 L1 L2 L3 K
    have hc : c < n := by omega
    have w := wb c hc
    obtain ⟨u3, u9⟩ := h89 h F
    have cnt := hI_c (W := W) (p := q + 1) (s := hB W n q) c
    have v1 := VB.1
    have z0 : ce W (q + 1) 0 = 0 := rfl
    refine E_il rfl L3 ?_
    refine E_al rfl L0 ?_
    refine E_call rfl (sp_cars (d := d) hh) (chk77 hh rfl rfl (by show 1 ≤ 8; decide)) (fun h1 r1 => ?_)
    rintro ⟨e1, f1, -⟩
    rw [e1, f1, u3]
    refine E_icF rfl (decide_eq_false (fun z => absurd ((nJ_le (by omega) (by omega)).mp z) (by omega))) ?_
    refine E_al rfl L0 ?_
    refine E_gr rfl hh (q := 89) rfl ?_
    refine E_il rfl L3 ?_
    refine E_ial rfl hh rfl (by omega) (by decide) (u9 c hc) ?_
    refine E_il rfl L2 ?_
    have nx : ∀ (h' : pm_H) (lv : List (Nat × Value)), HH h' → fr_g LM h0 h' → TRH 92 93 n q (c + 1) W (hI W (q + 1) (hB W n q) (c + 1)) h' → pm_get lv 0 = some (.ref 77) → pm_get lv 1 = some (.int (nJ (hI W (q + 1) (hB W n q) (c + 1)).2.2)) → pm_get lv 2 = some (.int (nJ (q + 1))) → pm_get lv 3 = some (.int (nJ c)) → Ends (pm_at tX9_laysTree) (pm_Rt pm_P (d + 1)) (70, lv, [], h', 0, 0) Q := by
      intro h' lv hh' F' T' N0 N1 N2 N3
      refine E_inc rfl N3 (nJ_inc _) (fun lv2 K3 kp2 => ?_)
      refine E_goto rfl ?_
      exact ih lv2 (by omega) hh' F' T' (kp2 0 _ (by decide) rfl N0) (kp2 1 _ (by decide) rfl N1) (kp2 2 _ (by decide) rfl N2) K3 K
    have eI : hI W (q + 1) (hB W n q) (c + 1) = hstep W (q + 1) c (hI W (q + 1) (hB W n q) c) := rfl
    by_cases e : W c = q + 1
    · refine E_icT rfl (decide_eq_true (by rw [e])) ?_
      have cl := ce_lt W (q + 1) hc e
      have cs := cw_succ W q n
      have cwl := cw_le W (q + 1) n
      have f8 : (hB W n q).1 q ≤ n := hB_le VB (by omega)
      have eq : (hI W (q + 1) (hB W n q) c).1 q = (hB W n q).1 q := hI_lo (by omega) c
      have tq := T.1 q (by omega)
      refine E_al rfl L0 ?_
      refine E_gr rfl hh (q := 92) rfl ?_
      refine E_il rfl L3 ?_
      refine E_ci 1 rfl (by decide) ?_
      refine E_bin rfl (nJ_add _ _) ?_
      refine E_al rfl L0 ?_
      refine E_gr rfl hh (q := 93) rfl ?_
      refine E_il rfl L2 ?_
      refine E_ci 1 rfl (by decide) ?_
      refine E_bin rfl (show nJ (q + 1) - nJ 1 = nJ q from nJ_sub (by omega)) ?_
      refine E_ial rfl hh rfl (by omega) (by decide) tq ?_
      refine E_ias rfl hh rfl (by omega) (by decide) ?_
      have b92 : bd 92 (c + 1) = some (0, 8) := bd_u rfl (by omega)
      rw [eq] at tq ⊢
      have h1 : HH (pt h 92 (c + 1) (nJ ((hB W n q).1 q))) := HH_ptn hh b92 (by omega) (by omega) (by omega)
      have F1 : fr_g LM h0 (pt h 92 (c + 1) (nJ ((hB W n q).1 q))) := fr_ptr (l := 0) (u := 8) rfl (by omega) (by omega) F
      have k1 : gi (pt h 92 (c + 1) (nJ ((hB W n q).1 q))) 92 (c + 1) = nJ ((hB W n q).1 q) := gi_ptn hh b92 (by omega) (by omega) (by omega)
      have k2 : ∀ i, i ≠ c + 1 → gi (pt h 92 (c + 1) (nJ ((hB W n q).1 q))) 92 i = gi h 92 i := fun i hi => gi_ne (fun _ => hi)
      have k3 : ∀ i, gi (pt h 92 (c + 1) (nJ ((hB W n q).1 q))) 93 i = gi h 93 i := fun i => gi_ne (by omega)
      generalize pt h 92 (c + 1) (nJ ((hB W n q).1 q)) = a at h1 F1 k1 k2 k3 ⊢
      refine E_al rfl L0 ?_
      refine E_gr rfl h1 (q := 93) rfl ?_
      refine E_il rfl L1 ?_
      refine E_il rfl L3 ?_
      refine E_ci 1 rfl (by decide) ?_
      refine E_bin rfl (nJ_add _ _) ?_
      refine E_ias rfl h1 rfl (by omega) (by decide) ?_
      have b93 : bd 93 (hI W (q + 1) (hB W n q) c).2.2 = some (0, 8) := bd_u rfl (by omega)
      have h2 : HH (pt a 93 (hI W (q + 1) (hB W n q) c).2.2 (nJ (c + 1))) := HH_ptn h1 b93 (by omega) (by omega) (by omega)
      have F2 : fr_g LM h0 (pt a 93 (hI W (q + 1) (hB W n q) c).2.2 (nJ (c + 1))) := fr_ptr (l := 0) (u := 8) rfl (by omega) (by omega) F1
      have m1 : gi (pt a 93 (hI W (q + 1) (hB W n q) c).2.2 (nJ (c + 1))) 93 (hI W (q + 1) (hB W n q) c).2.2 = nJ (c + 1) := gi_ptn h1 b93 (by omega) (by omega) (by omega)
      have m2 : ∀ i, i ≠ (hI W (q + 1) (hB W n q) c).2.2 → gi (pt a 93 (hI W (q + 1) (hB W n q) c).2.2 (nJ (c + 1))) 93 i = gi h 93 i := fun i hi => by rw [gi_ne (fun _ => hi)]; exact k3 i
      have m3 : ∀ i, gi (pt a 93 (hI W (q + 1) (hB W n q) c).2.2 (nJ (c + 1))) 92 i = gi a 92 i := fun i => gi_ne (by omega)
      generalize pt a 93 (hI W (q + 1) (hB W n q) c).2.2 (nJ (c + 1)) = b at h2 F2 m1 m2 m3 ⊢
      refine E_inc rfl L1 (nJ_inc _) (fun lv2 K1 kp2 => ?_)
      refine nx b lv2 h2 F2 (TRH_add e T m1 m2 (by rw [m3, eq]; exact k1) (fun i hi => by rw [m3]; exact k2 i hi)) (kp2 0 _ (by decide) rfl L0) ?_ (kp2 2 _ (by decide) rfl L2) (kp2 3 _ (by decide) rfl L3)
      rw [eI]
      unfold hstep
      rw [if_pos e]
      exact K1
    · refine E_icF rfl (decide_eq_false (fun z => e ((nJ_eq (by omega) (by omega)).mp z))) ?_
      refine E_goto rfl ?_
      refine nx h lv hh F (TRH_skip e T) L0 ?_ L2 L3
      rw [eI]
      unfold hstep
      rw [if_neg e]
      exact L1
end HNG
end
