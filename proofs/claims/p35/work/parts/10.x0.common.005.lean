section
theorem rd_s2 {d N : Nat} {h : pm_H} {l : Nat → Nat} {Q : pm_H → Option Value → Prop} {e s y : Nat} (hh : HH h) (hN9 : N ≤ 9) (hl : ∀ v, v < N → gi h 94 v = nJ (l v)) (hl8 : ∀ v, v < N → l v < 100) (hy : y < N) (hly : l y = 1) (K : ∀ {x : Nat} (lv : List (Nat × Value)), x < N → s ≤ x → l x = 1 → (∀ v, s ≤ v → v < x → ¬ l v = 1) → pm_get lv 0 = some (.ref 77) → pm_get lv 1 = some (.int (nJ N)) → pm_get lv 2 = some (.int (nJ e)) → pm_get lv 3 = some (.int (nJ x)) → Ends (pm_at tX9_reads0) (pm_Rt pm_P (d + 2)) (153, lv, [], h, 0, 0) Q) (j : Nat) : ∀ {x : Nat} (lv : List (Nat × Value)), x + j = y → s ≤ x → (∀ v, s ≤ v → v < x → ¬ l v = 1) → pm_get lv 0 = some (.ref 77) → pm_get lv 1 = some (.int (nJ N)) → pm_get lv 2 = some (.int (nJ e)) → pm_get lv 3 = some (.int (nJ x)) → Ends (pm_at tX9_reads0) (pm_Rt pm_P (d + 2)) (137, lv, [], h, 0, 0) Q := by
  induction j with
  | zero =>
    intro x lv hj hbs hbe L0 L1 L2 L3
    have hxy : x = y := by omega
    subst hxy
    have hlx := hl8 x (by omega)
    refine E_al rfl L0 ?_
    refine E_gr rfl hh (q := 94) rfl ?_
    refine E_il rfl L3 ?_
    refine E_ial rfl hh rfl (by omega) (by decide) (show gi h 94 x = nJ ((l x)) from hl x (by omega)) ?_
    refine E_ci 1 rfl ci1 ?_
    refine E_icT rfl (decide_eq_true ((nJ_eq (by omega) (by omega)).mpr hly)) ?_
    exact K lv (by omega) hbs hly hbe L0 L1 L2 L3
  | succ j ih =>
    intro x lv hj hbs hbe L0 L1 L2 L3
    have hlx := hl8 x (by omega)
    refine E_al rfl L0 ?_
    refine E_gr rfl hh (q := 94) rfl ?_
    refine E_il rfl L3 ?_
    refine E_ial rfl hh rfl (by omega) (by decide) (show gi h 94 x = nJ ((l x)) from hl x (by omega)) ?_
    refine E_ci 1 rfl ci1 ?_
    by_cases hb1 : l x = 1
    · refine E_icT rfl (decide_eq_true ((nJ_eq (by omega) (by omega)).mpr hb1)) ?_
      exact K lv (by omega) hbs hb1 hbe L0 L1 L2 L3
    · refine E_icF rfl (decide_eq_false (fun q => hb1 ((nJ_eq (by omega) (by omega)).mp q))) ?_
      refine E_inc rfl L3 (nJ_inc _) (fun lv2 L2_3 kp2 => ?_)
      have L2_0 := kp2 0 _ (nbz rfl) rfl L0
      have L2_1 := kp2 1 _ (nbz rfl) rfl L1
      have L2_2 := kp2 2 _ (nbz rfl) rfl L2
      refine E_goto rfl ?_
      exact ih lv2 (by omega) (by omega) (fun v h1 h2 => by by_cases e : v = x; (· subst e; exact hb1); (· exact hbe v h1 (by omega))) L2_0 L2_1 L2_2 L2_3
theorem rd_s3 {d N : Nat} {h : pm_H} {l : Nat → Nat} {Q : pm_H → Option Value → Prop} {e a s y : Nat} (hh : HH h) (hN9 : N ≤ 9) (hl : ∀ v, v < N → gi h 94 v = nJ (l v)) (hl8 : ∀ v, v < N → l v < 100) (hy : y < N) (hly : l y = 1) (K : ∀ {x : Nat} (lv : List (Nat × Value)), x < N → s ≤ x → l x = 1 → (∀ v, s ≤ v → v < x → ¬ l v = 1) → pm_get lv 0 = some (.ref 77) → pm_get lv 1 = some (.int (nJ N)) → pm_get lv 2 = some (.int (nJ e)) → pm_get lv 3 = some (.int (nJ a)) → pm_get lv 4 = some (.int (nJ x)) → Ends (pm_at tX9_reads0) (pm_Rt pm_P (d + 2)) (175, lv, [], h, 0, 0) Q) (j : Nat) : ∀ {x : Nat} (lv : List (Nat × Value)), x + j = y → s ≤ x → (∀ v, s ≤ v → v < x → ¬ l v = 1) → pm_get lv 0 = some (.ref 77) → pm_get lv 1 = some (.int (nJ N)) → pm_get lv 2 = some (.int (nJ e)) → pm_get lv 3 = some (.int (nJ a)) → pm_get lv 4 = some (.int (nJ x)) → Ends (pm_at tX9_reads0) (pm_Rt pm_P (d + 2)) (158, lv, [], h, 0, 0) Q := by
  induction j with
  | zero =>
    intro x lv hj hbs hbe L0 L1 L2 L3 L4
    have hxy : x = y := by omega
    subst hxy
    have hlx := hl8 x (by omega)
    refine E_al rfl L0 ?_
    refine E_gr rfl hh (q := 94) rfl ?_
    refine E_il rfl L4 ?_
    refine E_ial rfl hh rfl (by omega) (by decide) (show gi h 94 x = nJ ((l x)) from hl x (by omega)) ?_
    refine E_ci 1 rfl ci1 ?_
    refine E_icT rfl (decide_eq_true ((nJ_eq (by omega) (by omega)).mpr hly)) ?_
    exact K lv (by omega) hbs hly hbe L0 L1 L2 L3 L4
  | succ j ih =>
    intro x lv hj hbs hbe L0 L1 L2 L3 L4
    have hlx := hl8 x (by omega)
    refine E_al rfl L0 ?_
    refine E_gr rfl hh (q := 94) rfl ?_
    refine E_il rfl L4 ?_
    refine E_ial rfl hh rfl (by omega) (by decide) (show gi h 94 x = nJ ((l x)) from hl x (by omega)) ?_
    refine E_ci 1 rfl ci1 ?_
    by_cases hb1 : l x = 1
    · refine E_icT rfl (decide_eq_true ((nJ_eq (by omega) (by omega)).mpr hb1)) ?_
      exact K lv (by omega) hbs hb1 hbe L0 L1 L2 L3 L4
    · refine E_icF rfl (decide_eq_false (fun q => hb1 ((nJ_eq (by omega) (by omega)).mp q))) ?_
      refine E_inc rfl L4 (nJ_inc _) (fun lv2 L2_4 kp2 => ?_)
      have L2_0 := kp2 0 _ (nbz rfl) rfl L0
      have L2_1 := kp2 1 _ (nbz rfl) rfl L1
      have L2_2 := kp2 2 _ (nbz rfl) rfl L2
      have L2_3 := kp2 3 _ (nbz rfl) rfl L3
      refine E_goto rfl ?_
      exact ih lv2 (by omega) (by omega) (fun v h1 h2 => by by_cases e : v = x; (· subst e; exact hb1); (· exact hbe v h1 (by omega))) L2_0 L2_1 L2_2 L2_3 L2_4
theorem rd_last {h0 : pm_H} {d N : Nat} (hh0 : HH h0) (hN2 : 2 ≤ N) (hN9 : N ≤ 9) (hc : ∀ j, j < N - 2 → gn h0 95 j < N) {h : pm_H} {a b : Nat} {l : Nat → Nat} (R : RD h0 h N (N - 2) 0 l) (ha : a < N) (hb : b < N) (hab : a ≠ b) (hla : l a = 1) (hlb : l b = 1) (lv : List (Nat × Value)) (L0 : pm_get lv 0 = some (.ref 77)) (L1 : pm_get lv 1 = some (.int (nJ N))) (L2 : pm_get lv 2 = some (.int (nJ (2 * (N - 2))))) (L3 : pm_get lv 3 = some (.int (nJ a))) (L4 : pm_get lv 4 = some (.int (nJ b))) : Ends (pm_at tX9_reads0) (pm_Rt pm_P (d + 2)) (175, lv, [], h, 0, 0) (DQ h0 N) := by
  refine E_al rfl L0 ?_
  refine E_gr rfl R.1 (q := 96) rfl ?_
  refine E_il rfl L2 ?_
  refine E_il rfl L3 ?_
  refine E_ias rfl R.1 rfl (by omega) (by decide) ?_
  have hh1 : HH (pt h 96 ((2 * (N - 2))) (nJ a)) := HH_ptn R.1 (bd_u rfl (by omega)) (by omega) (by omega) (by omega)
  refine E_al rfl L0 ?_
  refine E_gr rfl hh1 (q := 96) rfl ?_
  refine E_il rfl L2 ?_
  refine E_ci 1 rfl ci1 ?_
  refine E_bin rfl (nJ_add _ _) ?_
  refine E_il rfl L4 ?_
  refine E_ias rfl hh1 rfl (by omega) (by decide) ?_
  have hh2 : HH (pt (pt h 96 ((2 * (N - 2))) (nJ a)) 96 (((2 * (N - 2)) + 1)) (nJ b)) := HH_ptn hh1 (bd_u rfl (by omega)) (by omega) (by omega) (by omega)
  refine E_al rfl L0 ?_
  refine E_il rfl L1 ?_
  obtain ⟨k1, k2, k3, k4⟩ := RD_end hN2 hN9 R ha hb hab hla hlb
  refine E_call rfl (sp_roots k1 hN2 hN9 k3 k4) (chk77 hh2 rfl rfl (by show 0 ≤ 8; decide)) (fun h9 r9 => ?_)
  rintro ⟨e9, hh9, fr9, q9⟩
  rw [e9]
  show Ends _ _ (197, lv, [], h9, 0, 0) _
  exact E_ret rfl ⟨rfl, hh9, fr_trans k2 (fr_wk rfl fr9), q9⟩
theorem rd_two {h0 : pm_H} {d N : Nat} (hh0 : HH h0) (hN2 : 2 ≤ N) (hN9 : N ≤ 9) (hc : ∀ j, j < N - 2 → gn h0 95 j < N) {h : pm_H} {l : Nat → Nat} (R : RD h0 h N (N - 2) 0 l) (lv : List (Nat × Value)) (L0 : pm_get lv 0 = some (.ref 77)) (L1 : pm_get lv 1 = some (.int (nJ N))) (L2 : pm_get lv 2 = some (.int (nJ (2 * (N - 2))))) : Ends (pm_at tX9_reads0) (pm_Rt pm_P (d + 2)) (135, lv, [], h, 0, 0) (DQ h0 N) := by
  have hone : ∀ v, v < N → l v ≠ 0 → l v = 1 := fun v hv h1 => by
    cases R.2.2.2.1 v hv with
    | inl e => exact absurd e h1
    | inr e => exact e
  have hl8 : ∀ v, v < N → l v < 100 := fun v hv => by
    by_cases e : l v = 0
    · omega
    · rw [hone v hv e]; omega
  refine E_ci 0 rfl ci0 ?_
  refine E_is rfl (fun lv1 L1_3 kp1 => ?_)
  have L1_0 := kp1 0 _ (nbz rfl) rfl L0
  have L1_1 := kp1 1 _ (nbz rfl) rfl L1
  have L1_2 := kp1 2 _ (nbz rfl) rfl L2
  obtain ⟨y, hy, hly⟩ := leaf_ex (k := 0) R.2.2.2.2.2.1 R.2.2.2.2.2.2.1
  refine rd_s2 (s := 0) (y := y) R.1 hN9 R.2.2.1 hl8 hy hly (fun {x} lv1 hx _ hlx hbe K0 K1 K2 K3 => ?_) y lv1 (by omega) (Nat.zero_le _) (fun v h1 h2 => by omega) L1_0 L1_1 L1_2 L1_3
  refine E_il rfl K3 ?_
  refine E_ci 1 rfl ci1 ?_
  refine E_bin rfl (nJ_add _ _) ?_
  refine E_is rfl (fun lv1 L1_4 kp1 => ?_)
  have L1_0 := kp1 0 _ (nbz rfl) rfl K0
  have L1_1 := kp1 1 _ (nbz rfl) rfl K1
  have L1_2 := kp1 2 _ (nbz rfl) rfl K2
  have L1_3 := kp1 3 _ (nbz rfl) rfl K3
  have s1 := lc_fu0 (l := l) (v := x) (by omega) (n := N) hx
  obtain ⟨y2, y3, y4⟩ := lc_pos (l := fu l x 0) (n := N) (by have := R.2.2.2.2.2.2.1; omega)
  have hyx : y2 ≠ x := fun e => y4 (by rw [e, fu_same])
  rw [fu_ne hyx] at y4
  have hy1 : l y2 = 1 := hone y2 y3 y4
  have hgt : x < y2 := by
    by_cases q : y2 < x
    · exact absurd hy1 (hbe y2 (Nat.zero_le _) q)
    · omega
  exact rd_s3 (s := x + 1) (y := y2) R.1 hN9 R.2.2.1 hl8 y3 hy1 (fun {x2} lv2 a1 a2 a3 a4 b0 b1 b2 b3 b4 => rd_last hh0 hN2 hN9 hc R hx a1 (by omega) hlx a3 lv2 b0 b1 b2 b3 b4) (y2 - (x + 1)) lv1 (by omega) (Nat.le_refl _) (fun v h1 h2 => by omega) L1_0 L1_1 L1_2 L1_3 L1_4
theorem rd_loop {h0 : pm_H} {d N : Nat} (hh0 : HH h0) (hN2 : 2 ≤ N) (hN9 : N ≤ 9) (hc : ∀ j, j < N - 2 → gn h0 95 j < N) (k : Nat) : ∀ {h : pm_H} {i : Nat} {l : Nat → Nat} (lv : List (Nat × Value)), i + k = N - 2 → RD h0 h N i k l → pm_get lv 0 = some (.ref 77) → pm_get lv 1 = some (.int (nJ N)) → pm_get lv 2 = some (.int (nJ (2 * i))) → pm_get lv 3 = some (.int (nJ i)) → Ends (pm_at tX9_reads0) (pm_Rt pm_P (d + 2)) (54, lv, [], h, 0, 0) (DQ h0 N) := by
  induction k with
  | zero =>
    intro h i l lv hj R L0 L1 L2 L3
    have hiN : i = N - 2 := by omega
    refine E_il rfl L3 ?_
    refine E_il rfl L1 ?_
    refine E_ci 2 rfl ci2 ?_
    refine E_bin rfl (nJ_sub (by omega)) ?_
    refine E_icT rfl (decide_eq_true ((nJ_le (by omega) (by omega)).mpr (by omega))) ?_
    exact rd_two hh0 hN2 hN9 hc (hiN ▸ R) lv L0 L1 (hiN ▸ L2)
  | succ k ih =>
    intro h i l lv hj R L0 L1 L2 L3
    have hl8 : ∀ v, v < N → l v < 100 := fun v hv => by
      have := ocr_le (gn h0 95) v (k + 1) i
      cases R.2.2.2.1 v hv with
      | inl e => omega
      | inr e => omega
    refine E_il rfl L3 ?_
    refine E_il rfl L1 ?_
    refine E_ci 2 rfl ci2 ?_
    refine E_bin rfl (nJ_sub (by omega)) ?_
    refine E_icF rfl (decide_eq_false (fun q => absurd ((nJ_le (by omega) (by omega)).mp q) (by omega))) ?_
    refine E_ci 0 rfl ci0 ?_
    refine E_is rfl (fun lv1 L1_4 kp1 => ?_)
    have L1_0 := kp1 0 _ (nbz rfl) rfl L0
    have L1_1 := kp1 1 _ (nbz rfl) rfl L1
    have L1_2 := kp1 2 _ (nbz rfl) rfl L2
    have L1_3 := kp1 3 _ (nbz rfl) rfl L3
    obtain ⟨y, hy, hly⟩ := leaf_ex R.2.2.2.2.2.1 R.2.2.2.2.2.2.1
    refine rd_s1 (s := 0) (y := y) R.1 hN9 R.2.2.1 hl8 hy hly (fun {x} lv1 hx _ hlx _ K0 K1 K2 K3 K4 => ?_) y lv1 (by omega) (Nat.zero_le _) (fun v h1 h2 => by omega) L1_0 L1_1 L1_2 L1_3 L1_4
    have hci := hc i (by omega)
    have hcn : l (gn h0 95 i) ≠ 0 := R.2.2.2.2.1 i (Nat.le_refl _) (by omega)
    have hc8 := hl8 _ hci
    have hxc : gn h0 95 i ≠ x := fun e => by
      have hoc : ocr (gn h0 95) (gn h0 95 i) (k + 1) i = 1 + ocr (gn h0 95) (gn h0 95 i) k (i + 1) := by
        show (if gn h0 95 i = gn h0 95 i then 1 else 0) + _ = _
        rw [if_pos rfl]
      cases R.2.2.2.1 _ hci with
      | inl q => exact hcn q
      | inr q => rw [e] at q hoc; omega
    refine E_al rfl K0 ?_
    refine E_gr rfl R.1 (q := 96) rfl ?_
    refine E_il rfl K2 ?_
    refine E_il rfl K4 ?_
    refine E_ias rfl R.1 rfl (by omega) (by decide) ?_
    have hh1 : HH (pt h 96 ((2 * i)) (nJ x)) := HH_ptn R.1 (bd_u rfl (by omega)) (by omega) (by omega) (by omega)
    refine E_al rfl K0 ?_
    refine E_gr rfl hh1 (q := 96) rfl ?_
    refine E_il rfl K2 ?_
    refine E_ci 1 rfl ci1 ?_
    refine E_bin rfl (nJ_add _ _) ?_
    refine E_al rfl K0 ?_
    refine E_gr rfl hh1 (q := 95) rfl ?_
    refine E_il rfl K3 ?_
    refine E_ial rfl hh1 rfl (by omega) (by decide) (show gi (pt h 96 ((2 * i)) (nJ x)) 95 i = nJ ((gn h0 95 i)) from by rw [gi_ne (by first | exact gxx rfl | omega), fr_gi R.2.1 (rg_no rfl _)]; exact gi_gn hh0 (bd_u rfl (by omega)) (by decide)) ?_
    refine E_ias rfl hh1 rfl (by omega) (by decide) ?_
    have hh2 : HH (pt (pt h 96 ((2 * i)) (nJ x)) 96 (((2 * i) + 1)) (nJ ((gn h0 95 i)))) := HH_ptn hh1 (bd_u rfl (by omega)) (by omega) (by omega) (by omega)
    refine E_inc rfl K2 (nJ_inc2 _) (fun lv3 L3_2 kp3 => ?_)
    have L3_0 := kp3 0 _ (nbz rfl) rfl K0
    have L3_1 := kp3 1 _ (nbz rfl) rfl K1
    have L3_3 := kp3 3 _ (nbz rfl) rfl K3
    have L3_4 := kp3 4 _ (nbz rfl) rfl K4
    refine E_al rfl L3_0 ?_
    refine E_gr rfl hh2 (q := 94) rfl ?_
    refine E_il rfl L3_4 ?_
    refine E_ci 0 rfl ci0 ?_
    refine E_ias rfl hh2 rfl (by omega) (by decide) ?_
    have hh4 : HH (pt (pt (pt h 96 ((2 * i)) (nJ x)) 96 (((2 * i) + 1)) (nJ ((gn h0 95 i)))) 94 x (nJ 0)) := HH_ptn hh2 (bd_u rfl (by omega)) (by omega) (by omega) (by omega)
    refine E_al rfl L3_0 ?_
    refine E_gr rfl hh4 (q := 94) rfl ?_
    refine E_al rfl L3_0 ?_
    refine E_gr rfl hh4 (q := 95) rfl ?_
    refine E_il rfl L3_3 ?_
    refine E_ial rfl hh4 rfl (by omega) (by decide) (show gi (pt (pt (pt h 96 ((2 * i)) (nJ x)) 96 (((2 * i) + 1)) (nJ ((gn h0 95 i)))) 94 x (nJ 0)) 95 i = nJ ((gn h0 95 i)) from by rw [gi_ne (by first | exact gxx rfl | omega), gi_ne (by first | exact gxx rfl | omega), gi_ne (by first | exact gxx rfl | omega), fr_gi R.2.1 (rg_no rfl _)]; exact gi_gn hh0 (bd_u rfl (by omega)) (by decide)) ?_
    refine E_dup2 rfl rfl rfl ?_
    refine E_ial rfl hh4 rfl (by omega) (by decide) (show gi (pt (pt (pt h 96 ((2 * i)) (nJ x)) 96 (((2 * i) + 1)) (nJ ((gn h0 95 i)))) 94 x (nJ 0)) 94 ((gn h0 95 i)) = nJ ((l (gn h0 95 i))) from by rw [gi_ne (fun _ => hxc), gi_ne (by first | exact gxx rfl | omega), gi_ne (by first | exact gxx rfl | omega)]; exact R.2.2.1 _ hci) ?_
    refine E_ci 1 rfl ci1 ?_
    refine E_bin rfl (nJ_sub (by omega)) ?_
    refine E_ias rfl hh4 rfl (by omega) (by decide) ?_
    have hh5 : HH (pt (pt (pt (pt h 96 ((2 * i)) (nJ x)) 96 (((2 * i) + 1)) (nJ ((gn h0 95 i)))) 94 x (nJ 0)) 94 ((gn h0 95 i)) (nJ (((l (gn h0 95 i)) - 1)))) := HH_ptn hh4 (bd_u rfl (by omega)) (by omega) (by omega) (by omega)
    refine E_inc rfl L3_3 (nJ_inc _) (fun lv6 L6_3 kp6 => ?_)
    have L6_0 := kp6 0 _ (nbz rfl) rfl L3_0
    have L6_1 := kp6 1 _ (nbz rfl) rfl L3_1
    have L6_2 := kp6 2 _ (nbz rfl) rfl L3_2
    have L6_4 := kp6 4 _ (nbz rfl) rfl L3_4
    refine E_goto rfl ?_
    exact ih lv6 (by omega) (RD_step hN9 (by omega) hci R hx hlx) L6_0 L6_1 L6_2 L6_3
theorem rd_cnt {h0 : pm_H} {d N : Nat} (hh0 : HH h0) (hN2 : 2 ≤ N) (hN9 : N ≤ 9) (hc : ∀ j, j < N - 2 → gn h0 95 j < N) (k : Nat) : ∀ {h : pm_H} {i : Nat} {l : Nat → Nat} (lv : List (Nat × Value)), i + k = N - 2 → HH h → fr_g DM h0 h → (∀ v, v < N → gi h 94 v = nJ (l v)) → (∀ v, v < N → l v + ocr (gn h0 95) v k i = 1 + ocr (gn h0 95) v (N - 2) 0) → sm l N + k = N + (N - 2) → pm_get lv 0 = some (.ref 77) → pm_get lv 1 = some (.int (nJ N)) → pm_get lv 2 = some (.int (nJ i)) → Ends (pm_at tX9_reads0) (pm_Rt pm_P (d + 2)) (22, lv, [], h, 0, 0) (DQ h0 N) := by
  induction k with
  | zero =>
    intro h i l lv hj hh hfr hl ho hs L0 L1 L2
    have hone : ∀ v, v < N → l v ≠ 0 := fun v hv => by have := ho v hv; have h3 : ocr (gn h0 95) v 0 i = 0 := rfl; omega
    refine E_il rfl L2 ?_
    refine E_il rfl L1 ?_
    refine E_ci 2 rfl ci2 ?_
    refine E_bin rfl (nJ_sub (by omega)) ?_
    refine E_icT rfl (decide_eq_true ((nJ_le (by omega) (by omega)).mpr (by omega))) ?_
    refine E_ci 0 rfl ci0 ?_
    refine E_is rfl (fun lv1 L1_2 kp1 => ?_)
    have L1_0 := kp1 0 _ (nbz rfl) rfl L0
    have L1_1 := kp1 1 _ (nbz rfl) rfl L1
    refine E_ci 0 rfl ci0 ?_
    refine E_is rfl (fun lv2 L2_3 kp2 => ?_)
    have L2_0 := kp2 0 _ (nbz rfl) rfl L1_0
    have L2_1 := kp2 1 _ (nbz rfl) rfl L1_1
    have L2_2 := kp2 2 _ (nbz rfl) rfl L1_2
    refine rd_loop hh0 hN2 hN9 hc (N - 2) (i := 0) (l := l) lv2 (by omega) ⟨hh, hfr, hl, fun v hv => ?_, fun j h1 h2 => ?_, ?_, ?_, fun q hq => by omega, fun m hm hs => .inr ?_⟩ L2_0 L2_1 L2_2 L2_3
    · right; have := ho v hv; have h3 : ocr (gn h0 95) v 0 i = 0 := rfl; omega
    · have := hone _ (hc j (by omega)); omega
    · omega
    · rw [lc_all (fun v hv => hone v hv)]; omega
    · obtain ⟨u, v, u1, v1, u2, v2⟩ := hs; exact ⟨u, v, u1, v1, hone u u1, hone v v1, u2, v2⟩
  | succ k ih =>
    intro h i l lv hj hh hfr hl ho hs L0 L1 L2
    have hl8 : ∀ v, v < N → l v < 100 := fun v hv => by have := ho v hv; have := ocr_le (gn h0 95) v (N - 2) 0; omega
    refine E_il rfl L2 ?_
    refine E_il rfl L1 ?_
    refine E_ci 2 rfl ci2 ?_
    refine E_bin rfl (nJ_sub (by omega)) ?_
    refine E_icF rfl (decide_eq_false (fun q => absurd ((nJ_le (by omega) (by omega)).mp q) (by omega))) ?_
    have hci := hc i (by omega)
    have hlc := hl8 _ hci
    refine E_al rfl L0 ?_
    refine E_gr rfl hh (q := 94) rfl ?_
    refine E_al rfl L0 ?_
    refine E_gr rfl hh (q := 95) rfl ?_
    refine E_il rfl L2 ?_
    refine E_ial rfl hh rfl (by omega) (by decide) (show gi h 95 i = nJ ((gn h0 95 i)) from by rw [fr_gi hfr (rg_no rfl _)]; exact gi_gn hh0 (bd_u rfl (by omega)) (by decide)) ?_
    refine E_dup2 rfl rfl rfl ?_
    refine E_ial rfl hh rfl (by omega) (by decide) (show gi h 94 ((gn h0 95 i)) = nJ ((l (gn h0 95 i))) from hl _ hci) ?_
    refine E_ci 1 rfl ci1 ?_
    refine E_bin rfl (nJ_add _ _) ?_
    refine E_ias rfl hh rfl (by omega) (by decide) ?_
    have hh1 : HH (pt h 94 ((gn h0 95 i)) (nJ (((l (gn h0 95 i)) + 1)))) := HH_ptn hh (bd_u rfl (by omega)) (by omega) (by omega) (by omega)
    refine E_inc rfl L2 (nJ_inc _) (fun lv2 L2_2 kp2 => ?_)
    have L2_0 := kp2 0 _ (nbz rfl) rfl L0
    have L2_1 := kp2 1 _ (nbz rfl) rfl L1
    refine E_goto rfl ?_
    refine ih (l := fu l (gn h0 95 i) (l (gn h0 95 i) + 1)) lv2 (by omega) hh1 (fr_ptr (l := 0) (u := 8) rfl (by omega) (by omega) hfr) (fun v hv => ?_) (fun v hv => ?_) ?_ L2_0 L2_1 L2_2
    · by_cases e : v = gn h0 95 i
      · rw [e, fu_same, gi_pt hh (bd_u rfl (by omega)) (ai_lo _) (ai_hi _)]
      · rw [fu_ne e, gi_ne (fun _ => e)]; exact hl v hv
    · have h1 := ho v hv
      have h2 : ocr (gn h0 95) v (k + 1) i = (if gn h0 95 i = v then 1 else 0) + ocr (gn h0 95) v k (i + 1) := rfl
      by_cases e : v = gn h0 95 i
      · rw [if_pos e.symm] at h2; rw [e, fu_same]; rw [e] at h1 h2; omega
      · rw [if_neg (fun q => e q.symm)] at h2; rw [fu_ne e]; omega
    · have := sm_fu (l := l) (v := gn h0 95 i) (x := l (gn h0 95 i) + 1) (n := N) hci
      omega
theorem rd_one {h0 : pm_H} {d N : Nat} (hh0 : HH h0) (hN2 : 2 ≤ N) (hN9 : N ≤ 9) (hc : ∀ j, j < N - 2 → gn h0 95 j < N) (k : Nat) : ∀ {h : pm_H} {i : Nat} (lv : List (Nat × Value)), i + k = N → HH h → fr_g DM h0 h → (∀ v, v < i → gi h 94 v = nJ 1) → pm_get lv 0 = some (.ref 77) → pm_get lv 1 = some (.int (nJ N)) → pm_get lv 2 = some (.int (nJ i)) → Ends (pm_at tX9_reads0) (pm_Rt pm_P (d + 2)) (2, lv, [], h, 0, 0) (DQ h0 N) := by
  induction k with
  | zero =>
    intro h i lv hj hh hfr hl L0 L1 L2
    refine E_il rfl L2 ?_
    refine E_il rfl L1 ?_
    refine E_icT rfl (decide_eq_true ((nJ_le (by omega) (by omega)).mpr (by omega))) ?_
    refine E_ci 0 rfl ci0 ?_
    refine E_is rfl (fun lv1 L1_2 kp1 => ?_)
    have L1_0 := kp1 0 _ (nbz rfl) rfl L0
    have L1_1 := kp1 1 _ (nbz rfl) rfl L1
    exact rd_cnt hh0 hN2 hN9 hc (N - 2) (i := 0) (l := fun _ => 1) lv1 (by omega) hh hfr (fun v hv => hl v (by omega)) (fun v hv => rfl) (by rw [sm_one (fun v hv => rfl)]) L1_0 L1_1 L1_2
  | succ k ih =>
    intro h i lv hj hh hfr hl L0 L1 L2
    refine E_il rfl L2 ?_
    refine E_il rfl L1 ?_
    refine E_icF rfl (decide_eq_false (fun q => absurd ((nJ_le (by omega) (by omega)).mp q) (by omega))) ?_
    refine E_al rfl L0 ?_
    refine E_gr rfl hh (q := 94) rfl ?_
    refine E_il rfl L2 ?_
    refine E_ci 1 rfl ci1 ?_
    refine E_ias rfl hh rfl (by omega) (by decide) ?_
    have hh1 : HH (pt h 94 i (nJ 1)) := HH_ptn hh (bd_u rfl (by omega)) (by omega) (by omega) (by omega)
    refine E_inc rfl L2 (nJ_inc _) (fun lv2 L2_2 kp2 => ?_)
    have L2_0 := kp2 0 _ (nbz rfl) rfl L0
    have L2_1 := kp2 1 _ (nbz rfl) rfl L1
    refine E_goto rfl ?_
    refine ih lv2 (by omega) hh1 (fr_ptr (l := 0) (u := 8) rfl (by omega) (by omega) hfr) (fun v hv => ?_) L2_0 L2_1 L2_2
    by_cases e : v = i
    · rw [e, gi_pt hh (bd_u rfl (by omega)) (ai_lo _) (ai_hi _)]
    · rw [gi_ne (fun _ => e)]; exact hl v (by omega)
theorem sp_reads0 {h0 : pm_H} {d N : Nat} (hh : HH h0) (hN2 : 2 ≤ N) (hN9 : N ≤ 9) (hc : ∀ j, j < N - 2 → gn h0 95 j < N) : Sp (d + 3) 330 h0 [.ref 77, .int (nJ N)] (DQ h0 N) := by
  refine Sp_of aiX9_reads0 rfl rfl rfl ?_
  refine E_ci 0 rfl ci0 ?_
  refine E_is rfl (fun lv1 L1_2 kp1 => ?_)
  have L1_0 := kp1 0 _ (nbz rfl) rfl (show pm_get (lv_args 0 [.ref 77, .int (nJ N)]) 0 = _ from rfl)
  have L1_1 := kp1 1 _ (nbz rfl) rfl (show pm_get (lv_args 0 [.ref 77, .int (nJ N)]) 1 = _ from rfl)
  exact rd_one hh hN2 hN9 hc N (i := 0) lv1 (by omega) hh (fr_rf _ _) (fun v hv => absurd hv (Nat.not_lt_zero _)) L1_0 L1_1 L1_2
end
section
/-! by hand: pairs turned, wishes laid (written by gen_t8.py) -/
end
