/-! sum of both (written by gen_u68.py; wants u67b) -/
section SUMN
variable {h h2 : pm_H} {d : Nat}
noncomputable def WLc (h : pm_H) (c : Nat) : Nat := wlk (L9 h) (P9 h) (2 ^ N9 h - 1) (W9 h) c
theorem WLc_s (c : Nat) : WLc h (c + 1) = WLc h c + (if SP9 h c = 0 then 0 else ds9 h c) := rfl
theorem sn_loop (hh : HH h) (B : B9 h) (T : LV9 h h2) (j : Nat) : ∀ {c : Nat} (lv : List (Nat × Value)), c + j = N9 h → pm_get lv 0 = some (.ref 77) → pm_get lv 1 = some (.int (nJ (WLc h c))) → pm_get lv 2 = some (.int (nJ c)) → Ends (pm_at tX9_sumNow) (pm_Rt pm_P (d + 2)) (4, lv, [], h2, 0, 0) (fun h' r => h' = h2 ∧ r = some (.int (nJ (WL9 h)))) := by
  have T0 := T
  obtain ⟨hh2, u0, u3, t1, t2, t3, t4⟩ := T
  obtain ⟨l3, p8, n8⟩ := g9s hh
  induction j with
  | zero =>
    intro c lv hj L0 L1 L2
    refine E_il rfl L2 ?_
    refine E_al rfl L0 ?_
    refine E_call rfl (Sp_le (by omega) (sp_cars (d := d) hh2)) (chk77 hh2 rfl rfl (by show 1 ≤ 8; decide)) (fun h1 r1 => ?_)
    rintro ⟨e1, f1, -⟩
    rw [e1, f1, u3]
    refine E_icT rfl (decide_eq_true ((nJ_le (by omega) (by omega)).mpr (by omega))) ?_
    refine E_il rfl L1 ?_
    have e : c = N9 h := by omega
    exact E_rti rfl ⟨rfl, by rw [e]; rfl⟩
  | succ j ih =>
    intro c lv hj L0 L1 L2
    refine E_il rfl L2 ?_
    refine E_al rfl L0 ?_
    refine E_call rfl (Sp_le (by omega) (sp_cars (d := d) hh2)) (chk77 hh2 rfl rfl (by show 1 ≤ 8; decide)) (fun h1 r1 => ?_)
    rintro ⟨e1, f1, -⟩
    rw [e1, f1, u3]
    refine E_icF rfl (decide_eq_false (fun z => absurd ((nJ_le (by omega) (by omega)).mp z) (by omega))) ?_
    have hc : c < N9 h := by omega
    have s8 := SP9_le B hc
    refine E_il rfl L1 ?_
    refine E_al rfl L0 ?_
    refine E_gr rfl hh2 (q := 91) rfl ?_
    refine E_il rfl L2 ?_
    refine E_ial rfl hh2 rfl (by omega) (by decide) (t3 c hc) ?_
    refine E_c rfl ?_
    have nx : Ends (pm_at tX9_sumNow) (pm_Rt pm_P (d + 2)) (32, lv, [.int (nJ (if SP9 h c = 0 then 0 else ds9 h c)), .int (nJ (WLc h c))], h2, 0, 0) (fun h' r => h' = h2 ∧ r = some (.int (nJ (WL9 h)))) := by
      refine E_bin rfl (nJ_add _ _) ?_
      refine E_is rfl (fun lv1 K1 kp => ?_)
      refine E_inc rfl (kp 2 _ (by decide) rfl L2) (nJ_inc _) (fun lv2 K2 kp2 => ?_)
      refine E_goto rfl ?_
      exact ih (c := c + 1) lv2 (by omega) (kp2 0 _ (by decide) rfl (kp 0 _ (by decide) rfl L0)) (by rw [WLc_s]; exact kp2 1 _ (by decide) rfl K1) K2
    by_cases z : SP9 h c = 0
    · refine E_icF rfl (decide_eq_false (fun q => q ((pO_n1 (by omega)).mpr z))) ?_
      refine E_ci 0 rfl (by decide) ?_
      refine E_goto rfl ?_
      rw [if_pos z] at nx
      exact nx
    · refine E_icT rfl (decide_eq_true (fun q => z ((pO_n1 (by omega)).mp q))) ?_
      refine E_al rfl L0 ?_
      refine E_il rfl L2 ?_
      refine E_call rfl (sp_stepsOf (d := d) hh B T0 hc z) (chk77 hh2 rfl rfl (by show 1 ≤ 8; decide)) (fun h3 r3 => ?_)
      rintro ⟨e3, f3⟩
      rw [e3, f3]
      rw [if_neg z] at nx
      exact nx
theorem sp_sumNow (hh : HH h) (B : B9 h) (T : LV9 h h2) : Sp (d + 3) 356 h2 [.ref 77] (fun h' r => h' = h2 ∧ r = some (.int (nJ (WL9 h)))) := by
  refine Sp_of aiX9_sumNow rfl rfl rfl ?_
  have L0 : pm_get (lv_args 0 [.ref 77]) 0 = some (.ref 77) := rfl
  generalize lv_args 0 [.ref 77] = lv at L0 ⊢
  refine E_ci 0 rfl (by decide) ?_
  refine E_is rfl (fun lv1 K1 kp => ?_)
  refine E_ci 0 rfl (by decide) ?_
  refine E_is rfl (fun lv2 K2 kp2 => ?_)
  exact sn_loop hh B T (N9 h) (c := 0) lv2 (by omega) (kp2 0 _ (by decide) rfl (kp 0 _ (by decide) rfl L0)) (kp2 1 _ (by decide) rfl K1) K2
end SUMN
section Q_sum
variable {h : pm_H} {d : Nat}
theorem c8_sum {h h2 : pm_H} {lv : List (Nat × Value)} (hh : HH h) (B : B9 h) (T : LT9 h h2) (L0 : pm_get lv 0 = some (.ref 0)) : Ends (pm_at tX8_sum) (pm_Rt pm_P (d + 5)) (14, lv, [], h2, 0, 0) (fun h' r => K9 h h' ∧ r = some (.int (nJ (WL9 h)))) := by
  have T0 := T
  obtain ⟨hh2, f, t1, t2, t3, t4, t5, t6, t7⟩ := T
  have kk : K9 h h2 := K9_fr f rfl rfl rfl rfl
  obtain ⟨l3, p8, n8⟩ := g9s hh
  refine E_al rfl L0 ?_
  refine E_ogr (q := 62) rfl hh2 rfl rfl ?_
  refine E_ogf (q := (-2147483648, 2147483647)) rfl hh2 rfl rfl t3 ?_
  exact E_rti rfl ⟨kk, rfl⟩
theorem sp_sum8 (hh : HH h) (R : QRE h) : Sp (d + 6) 186 h [.ref 0] (fun h' r => K9 h h' ∧ r = some (.int (qv h (nJ (WL9 h))))) := by
  refine Sp_of aiX8_sum rfl rfl rfl ?_
  have L0 : pm_get (lv_args 0 [.ref 0]) 0 = some (.ref 0) := rfl
  generalize lv_args 0 [.ref 0] = lv at L0 ⊢
  have k0 : K9 h h := ⟨fun _ => rfl, fun _ => rfl, fun _ => rfl, fun _ => rfl⟩
  refine E_al rfl L0 ?_
  refine E_call rfl (Sp_le (by omega) (sp_hasStreet8 (d := d) hh)) (chkO (a := 0) hh rfl rfl rfl rfl (by show 0 ≤ 8; decide)) (fun h1 r1 => ?_)
  rintro ⟨e1, f1⟩
  rw [e1, f1]
  by_cases b : 0 < gn h 15 0
  · refine E_ifT rfl (by rw [zb_T b]; rfl) ?_
    rw [show qv h (nJ (WL9 h)) = nJ (WL9 h) from if_pos ((st_eq R).mp b)]
    refine E_al rfl L0 ?_
    refine E_call rfl (sp_parkAllX (d := d) hh R) (chkO (a := 0) hh rfl rfl rfl rfl (by show 0 ≤ 8; decide)) (fun h2 r2 => ?_)
    rintro ⟨e2, T⟩
    rw [e2]
    exact c8_sum hh (B9_of R) T L0
  · refine E_ifF rfl (by rw [zb_F b]; rfl) ?_
    rw [show qv h (nJ (WL9 h)) = -2 from if_neg (fun q => b ((st_eq R).mpr q))]
    refine E_c rfl ?_
    exact E_rti rfl ⟨k0, rfl⟩
theorem r9_sum {h h2 : pm_H} {lv : List (Nat × Value)} (hh : HH h) (B : B9 h) (T : LV9 h h2) (L0 : pm_get lv 0 = some (.ref 77)) : Ends (pm_at tX9_sum) (pm_Rt pm_P (d + 6)) (19, lv, [], h2, 0, 0) (fun h' r => r = some (.int (nJ (WL9 h)))) := by
  have T0 := T
  obtain ⟨hh2, u0, u3, t1, t2, t3, t4⟩ := T
  obtain ⟨l3, p8, n8⟩ := g9s hh
  refine E_al rfl L0 ?_
  refine E_call rfl (Sp_le (by omega) (sp_sumNow (d := d) hh B T0)) (chk77 hh2 rfl rfl (by show 0 ≤ 8; decide)) (fun h3 r3 => ?_)
  rintro ⟨e3, f3⟩
  rw [e3, f3]
  exact E_rti rfl rfl
theorem sp_sum9 (hh : HH h) (V : V9 h) (B : B9 h) : Sp (d + 7) 355 h [.ref 77] (fun h' r => r = some (.int (qv h (nJ (WL9 h))))) := by
  refine Sp_of aiX9_sum rfl rfl rfl ?_
  have L0 : pm_get (lv_args 0 [.ref 77]) 0 = some (.ref 77) := rfl
  generalize lv_args 0 [.ref 77] = lv at L0 ⊢
  refine E_al rfl L0 ?_
  refine E_ci 0 rfl (by decide) ?_
  refine E_pf rfl hh rfl ?_
  have hg : HH (pt h 77 0 (nJ 0)) := HH_ptn hh rfl (by omega) (by omega) (by omega)
  have k : K9 h (pt h 77 0 (nJ 0)) := K9_77
  generalize pt h 77 0 (nJ 0) = g at hg k ⊢
  refine E_al rfl L0 ?_
  refine E_call rfl (Sp_le (by omega) (sp_isStreet (d := d) hg)) (chk77 hg rfl rfl (by show 0 ≤ 8; decide)) (fun h1 r1 => ?_)
  rintro ⟨e1, f1⟩
  rw [e1, f1]
  rw [k.2.2.2]
  by_cases b : 0 < (gi h 83 0).toInt
  · refine E_ifT rfl (by rw [zb_T b]; rfl) ?_
    rw [show qv h (nJ (WL9 h)) = nJ (WL9 h) from if_pos (b)]
    refine E_al rfl L0 ?_
    refine E_call rfl (Sp_le (by omega) (sp_laysNowX (d := d) hg (V9_K k V) (B9_K k B))) (chk77 hg rfl rfl (by show 0 ≤ 8; decide)) (fun h2 r2 => ?_)
    rintro ⟨e2, T0⟩
    rw [e2]
    have T := LV9_of k T0
    exact r9_sum hh B T L0
  · refine E_ifF rfl (by rw [zb_F b]; rfl) ?_
    rw [show qv h (nJ (WL9 h)) = -2 from if_neg (b)]
    refine E_c rfl ?_
    exact E_rti rfl rfl
end Q_sum
noncomputable def half_sum (h : pm_H) (r : Int32) : Prop := QRE h ∧ r = qv h (nJ (WL9 h))
theorem g8_sum {h : pm_H} (I : IVQ h) : Sp 100 186 h [.ref 0] (fun h' v => IVh h' ∧ ∃ r : Int32, v = some (.int r) ∧ half_sum h' r) := by
  refine Sp_le (by omega) (Sp_mono ?_ (Sp_and (top_all (as := [.ref 0]) q171 (by decide +kernel) I.1 ⟨rfl, trivial⟩) (sp_sum8 (d := 0) I.1.1 I.2)))
  rintro h' v ⟨⟨s1, s2, -⟩, k, rfl⟩
  exact ⟨s1, _, rfl, QRE_fr s2 rfl I.2, by rw [qv_K k, WL9_K k]⟩
theorem g9_sum {h : pm_H} {r : Int32} (I : IVh h) (J : half_sum h r) : Sp 100 355 h [.ref 77] (fun h' v => IVQ h' ∧ v = some (.int r)) := by
  obtain ⟨J1, rfl⟩ := J
  refine Sp_le (by omega) (Sp_mono ?_ (Sp_and (top_all (as := [.ref 77]) q173 (by decide +kernel) I ⟨rfl, trivial⟩) (sp_sum9 (d := 0) I.1 (V9_of J1) (B9_of J1))))
  rintro h' v ⟨⟨s1, s2, -⟩, rfl⟩
  exact ⟨⟨s1, QRE_fr s2 rfl J1⟩, rfl⟩
