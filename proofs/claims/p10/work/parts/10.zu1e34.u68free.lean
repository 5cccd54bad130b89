/-! free of both (written by gen_u68.py; wants u67b) -/
noncomputable def fre (m : Nat) : Nat → Nat
  | 0 => 0
  | q + 1 => if isB m q = false then fre m q + 2 ^ q else fre m q
theorem fre_lt (m : Nat) : ∀ q, fre m q < 2 ^ q
  | 0 => by show 0 < 1; omega
  | q + 1 => by
    have := fre_lt m q
    have e : 2 ^ (q + 1) = 2 ^ q + 2 ^ q := by rw [Nat.pow_succ]; omega
    show (if isB m q = false then fre m q + 2 ^ q else fre m q) < _
    split <;> omega
theorem fre_tab : ∀ p : Fin 9, ∀ m : Fin 512, nJ (2 ^ p.val - 1) &&& (nJ m.val ^^^ -1) = nJ (fre m.val p.val) := by decide +kernel
theorem TK9_lt {h : pm_H} (hh : HH h) (B : B9 h) : TK9 h < 512 := Nat.lt_of_lt_of_le (tk_lt (Nat.le_trans (g9s hh).2.1 (by decide)) B) (Nat.le_trans (Nat.pow_le_pow_right (n := 2) (by omega) (g9s hh).2.1) (by decide))
theorem HD9_free {h : pm_H} (hh : HH h) (B : B9 h) {q : Nat} (q1 : 1 ≤ q) (q9 : q ≤ 9) : HD9 h q = 0 ↔ isB (TK9 h) (q - 1) = false := hd_free (Nat.le_trans (g9s hh).2.1 (by decide)) B q q1 q9
section FREL
variable {h h2 : pm_H} {d : Nat}
theorem fr_loop (hh : HH h) (B : B9 h) (T : LV9 h h2) (j : Nat) : ∀ {q : Nat} (lv : List (Nat × Value)), q + j = P9 h → pm_get lv 0 = some (.ref 77) → pm_get lv 1 = some (.int (nJ (fre (TK9 h) q))) → pm_get lv 2 = some (.int (nJ (q + 1))) → Ends (pm_at tX9_free) (pm_Rt pm_P (d + 6)) (23, lv, [], h2, 0, 0) (fun h' r => r = some (.int (nJ (fre (TK9 h) (P9 h))))) := by
  obtain ⟨hh2, u0, u3, t1, t2, t3, t4⟩ := T
  obtain ⟨l3, p8, n8⟩ := g9s hh
  induction j with
  | zero =>
    intro q lv hj L0 L1 L2
    refine E_il rfl L2 ?_
    refine E_al rfl L0 ?_
    refine E_call rfl (Sp_le (by omega) (sp_places (d := d) hh2)) (chk77 hh2 rfl rfl (by show 1 ≤ 8; decide)) (fun h1 r1 => ?_)
    rintro ⟨e1, f1, -⟩
    rw [e1, f1, u0]
    refine E_icT rfl (decide_eq_true ((nJ_lt (by omega) (by omega)).mpr (by omega))) ?_
    refine E_il rfl L1 ?_
    have e : q = P9 h := by omega
    exact E_rti rfl (by rw [e])
  | succ j ih =>
    intro q lv hj L0 L1 L2
    refine E_il rfl L2 ?_
    refine E_al rfl L0 ?_
    refine E_call rfl (Sp_le (by omega) (sp_places (d := d) hh2)) (chk77 hh2 rfl rfl (by show 1 ≤ 8; decide)) (fun h1 r1 => ?_)
    rintro ⟨e1, f1, -⟩
    rw [e1, f1, u0]
    refine E_icF rfl (decide_eq_false (fun z => absurd ((nJ_lt (by omega) (by omega)).mp z) (by omega))) ?_
    have h9 := hd_le (l := L9 h) (p := P9 h) (s := 2 ^ N9 h - 1) (W := W9 h) (q := q + 1) (N9 h)
    have hf : HD9 h (q + 1) = 0 ↔ isB (TK9 h) q = false := HD9_free hh B (by omega) (by omega)
    have i9 : HD9 h (q + 1) < 2147483648 := by have : HD9 h (q + 1) ≤ N9 h := h9; omega
    have fl := fre_lt (TK9 h) q
    have q8 : 2 ^ q ≤ 2 ^ 8 := Nat.pow_le_pow_right (by omega) (by omega)
    refine E_il rfl L1 ?_
    refine E_al rfl L0 ?_
    refine E_gr rfl hh2 (q := 90) rfl ?_
    refine E_il rfl L2 ?_
    refine E_ial rfl hh2 rfl (by omega) (by decide) (t2 (q + 1) (by omega)) ?_
    refine E_c rfl ?_
    have nx : ∀ {v : Int32}, nJ (fre (TK9 h) q) ||| v = nJ (fre (TK9 h) (q + 1)) → Ends (pm_at tX9_free) (pm_Rt pm_P (d + 6)) (51, lv, [.int v, .int (nJ (fre (TK9 h) q))], h2, 0, 0) (fun h' r => r = some (.int (nJ (fre (TK9 h) (P9 h))))) := by
      intro v e
      refine E_bin rfl e ?_
      refine E_is rfl (fun lv1 K1 kp => ?_)
      refine E_inc rfl (kp 2 _ (by decide) rfl L2) (nJ_inc _) (fun lv2 K2 kp2 => ?_)
      refine E_goto rfl ?_
      exact ih lv2 (by omega) (kp2 0 _ (by decide) rfl (kp 0 _ (by decide) rfl L0)) (kp2 1 _ (by decide) rfl K1) K2
    by_cases z : isB (TK9 h) q = false
    · refine E_icF rfl (decide_eq_false (fun w => w ((pI_n1 i9).mpr (hf.mpr z)))) ?_
      refine E_ci 1 rfl (by decide) ?_
      refine E_il rfl L2 ?_
      refine E_ci 1 rfl (by decide) ?_
      refine E_bin rfl (nJ_sub (by omega)) ?_
      refine E_bin rfl rfl ?_
      refine E_goto rfl ?_
      refine nx ?_
      rw [show q + 1 - 1 = q by omega, or_new (by omega) (by omega) (isB_hi fl)]
      show _ = nJ (if _ then _ else _)
      rw [if_pos z]
    · refine E_icT rfl (decide_eq_true (fun w => z (hf.mp ((pI_n1 i9).mp w)))) ?_
      refine E_ci 0 rfl (by decide) ?_
      refine nx ?_
      show nJ (fre (TK9 h) q) ||| 0 = nJ (if _ then _ else _)
      rw [if_neg z, Int32.or_zero]
end FREL
section Q_free
variable {h : pm_H} {d : Nat}
theorem c8_free {h h2 : pm_H} {lv : List (Nat × Value)} (hh : HH h) (B : B9 h) (T : LT9 h h2) (L0 : pm_get lv 0 = some (.ref 0)) : Ends (pm_at tX8_free) (pm_Rt pm_P (d + 5)) (14, lv, [], h2, 0, 0) (fun h' r => K9 h h' ∧ r = some (.int (nJ (fre (TK9 h) (P9 h))))) := by
  have T0 := T
  obtain ⟨hh2, f, t1, t2, t3, t4, t5, t6, t7⟩ := T
  have kk : K9 h h2 := K9_fr f rfl rfl rfl rfl
  obtain ⟨l3, p8, n8⟩ := g9s hh
  refine E_ci 1 rfl (by decide) ?_
  refine E_al rfl L0 ?_
  refine E_ogr (q := 15) rfl hh2 rfl rfl ?_
  refine E_ogf (q := (0, 8)) rfl hh2 rfl rfl t6 ?_
  refine E_bin rfl rfl ?_
  refine E_ci 1 rfl (by decide) ?_
  refine E_bin rfl (cm_bits p8) ?_
  refine E_al rfl L0 ?_
  refine E_ogr (q := 62) rfl hh2 rfl rfl ?_
  refine E_ogf (q := (0, 511)) rfl hh2 rfl rfl t1 ?_
  refine E_c rfl ?_
  refine E_bin rfl rfl ?_
  refine E_bin rfl (fre_tab ⟨P9 h, by omega⟩ ⟨TK9 h, TK9_lt hh B⟩) ?_
  exact E_rti rfl ⟨kk, rfl⟩
theorem sp_free8 (hh : HH h) (R : QRE h) : Sp (d + 6) 110 h [.ref 0] (fun h' r => K9 h h' ∧ r = some (.int (qv h (nJ (fre (TK9 h) (P9 h)))))) := by
  refine Sp_of aiX8_free rfl rfl rfl ?_
  have L0 : pm_get (lv_args 0 [.ref 0]) 0 = some (.ref 0) := rfl
  generalize lv_args 0 [.ref 0] = lv at L0 ⊢
  have k0 : K9 h h := ⟨fun _ => rfl, fun _ => rfl, fun _ => rfl, fun _ => rfl⟩
  refine E_al rfl L0 ?_
  refine E_call rfl (Sp_le (by omega) (sp_hasStreet8 (d := d) hh)) (chkO (a := 0) hh rfl rfl rfl rfl (by show 0 ≤ 8; decide)) (fun h1 r1 => ?_)
  rintro ⟨e1, f1⟩
  rw [e1, f1]
  by_cases b : 0 < gn h 15 0
  · refine E_ifT rfl (by rw [zb_T b]; rfl) ?_
    rw [show qv h (nJ (fre (TK9 h) (P9 h))) = nJ (fre (TK9 h) (P9 h)) from if_pos ((st_eq R).mp b)]
    refine E_al rfl L0 ?_
    refine E_call rfl (sp_parkAllX (d := d) hh R) (chkO (a := 0) hh rfl rfl rfl rfl (by show 0 ≤ 8; decide)) (fun h2 r2 => ?_)
    rintro ⟨e2, T⟩
    rw [e2]
    exact c8_free hh (B9_of R) T L0
  · refine E_ifF rfl (by rw [zb_F b]; rfl) ?_
    rw [show qv h (nJ (fre (TK9 h) (P9 h))) = -2 from if_neg (fun q => b ((st_eq R).mpr q))]
    refine E_c rfl ?_
    exact E_rti rfl ⟨k0, rfl⟩
theorem r9_free {h h2 : pm_H} {lv : List (Nat × Value)} (hh : HH h) (B : B9 h) (T : LV9 h h2) (L0 : pm_get lv 0 = some (.ref 77)) : Ends (pm_at tX9_free) (pm_Rt pm_P (d + 6)) (19, lv, [], h2, 0, 0) (fun h' r => r = some (.int (nJ (fre (TK9 h) (P9 h))))) := by
  have T0 := T
  obtain ⟨hh2, u0, u3, t1, t2, t3, t4⟩ := T
  obtain ⟨l3, p8, n8⟩ := g9s hh
  refine E_ci 0 rfl (by decide) ?_
  refine E_is rfl (fun lv1 K1 kp => ?_)
  refine E_ci 1 rfl (by decide) ?_
  refine E_is rfl (fun lv2 K2 kp2 => ?_)
  exact fr_loop hh B T0 (P9 h) (q := 0) lv2 (by omega) (kp2 0 _ (by decide) rfl (kp 0 _ (by decide) rfl L0)) (kp2 1 _ (by decide) rfl K1) K2
theorem sp_free9 (hh : HH h) (V : V9 h) (B : B9 h) : Sp (d + 7) 253 h [.ref 77] (fun h' r => r = some (.int (qv h (nJ (fre (TK9 h) (P9 h)))))) := by
  refine Sp_of aiX9_free rfl rfl rfl ?_
  have L0 : pm_get (lv_args 0 [.ref 77]) 0 = some (.ref 77) := rfl
  generalize lv_args 0 [.ref 77] = lv at L0 ⊢
  refine E_al rfl L0 ?_
  refine E_ci 0 rfl (by decide) ?_
  refine E_pf rfl hh rfl ?_
  have hg : HH (pt h 77 0 (nJ 0)) := HH_ptn hh rfl (by omega) (by omega) (by omega)
  have k : K9 h (pt h 77 0 (nJ 0)) := K9_77
  generalize pt h 77 0 (nJ 0) = g at hg k ⊢
  refine E_al rfl L0 ?_
  refine E_call rfl (Sp_le (by omega) (sp_isStreet (d := d) hg)) (chk77 hg rfl rfl (by show 0 ≤ 8; decide)) (fun h1 r1 => ?_)
  rintro ⟨e1, f1⟩
  rw [e1, f1]
  rw [k.2.2.2]
  by_cases b : 0 < (gi h 83 0).toInt
  · refine E_ifT rfl (by rw [zb_T b]; rfl) ?_
    rw [show qv h (nJ (fre (TK9 h) (P9 h))) = nJ (fre (TK9 h) (P9 h)) from if_pos (b)]
    refine E_al rfl L0 ?_
    refine E_call rfl (Sp_le (by omega) (sp_laysNowX (d := d) hg (V9_K k V) (B9_K k B))) (chk77 hg rfl rfl (by show 0 ≤ 8; decide)) (fun h2 r2 => ?_)
    rintro ⟨e2, T0⟩
    rw [e2]
    have T := LV9_of k T0
    exact r9_free hh B T L0
  · refine E_ifF rfl (by rw [zb_F b]; rfl) ?_
    rw [show qv h (nJ (fre (TK9 h) (P9 h))) = -2 from if_neg (b)]
    refine E_c rfl ?_
    exact E_rti rfl rfl
end Q_free
noncomputable def half_free (h : pm_H) (r : Int32) : Prop := QRE h ∧ r = qv h (nJ (fre (TK9 h) (P9 h)))
theorem g8_free {h : pm_H} (I : IVQ h) : Sp 100 110 h [.ref 0] (fun h' v => IVh h' ∧ ∃ r : Int32, v = some (.int r) ∧ half_free h' r) := by
  refine Sp_le (by omega) (Sp_mono ?_ (Sp_and (top_all (as := [.ref 0]) q162 (by decide +kernel) I.1 ⟨rfl, trivial⟩) (sp_free8 (d := 0) I.1.1 I.2)))
  rintro h' v ⟨⟨s1, s2, -⟩, k, rfl⟩
  exact ⟨s1, _, rfl, QRE_fr s2 rfl I.2, by rw [qv_K k, TK9_K k, P9_K k]⟩
theorem g9_free {h : pm_H} {r : Int32} (I : IVh h) (J : half_free h r) : Sp 100 253 h [.ref 77] (fun h' v => IVQ h' ∧ v = some (.int r)) := by
  obtain ⟨J1, rfl⟩ := J
  refine Sp_le (by omega) (Sp_mono ?_ (Sp_and (top_all (as := [.ref 77]) q163 (by decide +kernel) I ⟨rfl, trivial⟩) (sp_free9 (d := 0) I.1 (V9_of J1) (B9_of J1))))
  rintro h' v ⟨⟨s1, s2, -⟩, rfl⟩
  exact ⟨⟨s1, QRE_fr s2 rfl J1⟩, rfl⟩
