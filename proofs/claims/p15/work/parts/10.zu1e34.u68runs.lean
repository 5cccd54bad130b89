/-! runs of both (written by gen_u68.py; wants u67b) -/
noncomputable def rns (m : Nat) : Nat → Nat
  | 0 => 0
  | q + 1 => if isB m q = true ∧ (q = 0 ∨ isB m (q - 1) = false) then rns m q + 1 else rns m q
theorem rns_le (m : Nat) : ∀ q, rns m q ≤ q
  | 0 => Nat.le_refl 0
  | q + 1 => by
    have := rns_le m q
    show (if isB m q = true ∧ (q = 0 ∨ isB m (q - 1) = false) then rns m q + 1 else rns m q) ≤ q + 1
    split <;> omega
theorem rns_tab : ∀ p : Fin 9, ∀ m : Fin 256, m.val < 2 ^ p.val → bcn (nJ m.val &&& ((nJ m.val <<< (nJ 1 &&& 31)) ^^^ -1)) = nJ (rns m.val p.val) := by decide +kernel
theorem TK9_lp {h : pm_H} (hh : HH h) (B : B9 h) : TK9 h < 2 ^ P9 h := tk_lt (Nat.le_trans (g9s hh).2.1 (by decide)) B
theorem HD9_free {h : pm_H} (hh : HH h) (B : B9 h) {q : Nat} (q1 : 1 ≤ q) (q9 : q ≤ 9) : HD9 h q = 0 ↔ isB (TK9 h) (q - 1) = false := hd_free (Nat.le_trans (g9s hh).2.1 (by decide)) B q q1 q9
section RUNS
variable {h h2 : pm_H} {d : Nat}
theorem rn_loop (hh : HH h) (B : B9 h) (T : LV9 h h2) (j : Nat) : ∀ {q : Nat} (lv : List (Nat × Value)), q + j = P9 h → pm_get lv 0 = some (.ref 77) → pm_get lv 1 = some (.int (nJ (rns (TK9 h) q))) → pm_get lv 2 = some (.int (nJ (q + 1))) → Ends (pm_at tX9_runs) (pm_Rt pm_P (d + 6)) (23, lv, [], h2, 0, 0) (fun h' r => r = some (.int (nJ (rns (TK9 h) (P9 h))))) := by
  obtain ⟨hh2, u0, u3, t1, t2, t3, t4⟩ := T
  obtain ⟨l3, p8, n8⟩ := g9s hh
  have hz : ∀ q, 1 ≤ q → q ≤ 9 → (gi h2 90 q = -1 ↔ isB (TK9 h) (q - 1) = false) := fun q q1 q9 => by
    have : HD9 h q ≤ N9 h := hd_le (N9 h)
    rw [t2 q q9, pI_n1 (by omega)]
    exact HD9_free hh B q1 q9
  induction j with
  | zero =>
    intro q lv hj L0 L1 L2
    refine E_il rfl L2 ?_
    refine E_al rfl L0 ?_
    refine E_call rfl (Sp_le (by omega) (sp_places (d := d) hh2)) (chk77 hh2 rfl rfl (by show 1 ≤ 8; decide)) (fun h1 r1 => ?_)
    rintro ⟨e1, f1, -⟩
    rw [e1, f1, u0]
    refine E_icT rfl (decide_eq_true ((nJ_lt (by omega) (by omega)).mpr (by omega))) ?_
    refine E_il rfl L1 ?_
    have e : q = P9 h := by omega
    exact E_rti rfl (by rw [e])
  | succ j ih =>
    intro q lv hj L0 L1 L2
    refine E_il rfl L2 ?_
    refine E_al rfl L0 ?_
    refine E_call rfl (Sp_le (by omega) (sp_places (d := d) hh2)) (chk77 hh2 rfl rfl (by show 1 ≤ 8; decide)) (fun h1 r1 => ?_)
    rintro ⟨e1, f1, -⟩
    rw [e1, f1, u0]
    refine E_icF rfl (decide_eq_false (fun z => absurd ((nJ_lt (by omega) (by omega)).mp z) (by omega))) ?_
    have hq := hz (q + 1) (by omega) (by omega)
    rw [show q + 1 - 1 = q by omega] at hq
    have es : rns (TK9 h) (q + 1) = if isB (TK9 h) q = true ∧ (q = 0 ∨ isB (TK9 h) (q - 1) = false) then rns (TK9 h) q + 1 else rns (TK9 h) q := rfl
    refine E_il rfl L1 ?_
    refine E_al rfl L0 ?_
    refine E_gr rfl hh2 (q := 90) rfl ?_
    refine E_il rfl L2 ?_
    refine E_ial rfl hh2 rfl (by omega) (by decide) rfl ?_
    refine E_c rfl ?_
    have nx : ∀ {v : Nat}, rns (TK9 h) q + v = rns (TK9 h) (q + 1) → Ends (pm_at tX9_runs) (pm_Rt pm_P (d + 6)) (64, lv, [.int (nJ v), .int (nJ (rns (TK9 h) q))], h2, 0, 0) (fun h' r => r = some (.int (nJ (rns (TK9 h) (P9 h))))) := by
      intro v e
      refine E_bin rfl (nJ_add _ _) ?_
      rw [e]
      refine E_is rfl (fun lv1 K1 kp => ?_)
      refine E_inc rfl (kp 2 _ (by decide) rfl L2) (nJ_inc _) (fun lv2 K2 kp2 => ?_)
      refine E_goto rfl ?_
      exact ih lv2 (by omega) (kp2 0 _ (by decide) rfl (kp 0 _ (by decide) rfl L0)) (kp2 1 _ (by decide) rfl K1) K2
    have no : ¬ (isB (TK9 h) q = true ∧ (q = 0 ∨ isB (TK9 h) (q - 1) = false)) → Ends (pm_at tX9_runs) (pm_Rt pm_P (d + 6)) (63, lv, [.int (nJ (rns (TK9 h) q))], h2, 0, 0) (fun h' r => r = some (.int (nJ (rns (TK9 h) (P9 h))))) := by
      intro k
      rw [if_neg k] at es
      refine E_ci 0 rfl (by decide) ?_
      exact nx (by rw [es]; omega)
    have yes : (isB (TK9 h) q = true ∧ (q = 0 ∨ isB (TK9 h) (q - 1) = false)) → Ends (pm_at tX9_runs) (pm_Rt pm_P (d + 6)) (59, lv, [.int (nJ (rns (TK9 h) q))], h2, 0, 0) (fun h' r => r = some (.int (nJ (rns (TK9 h) (P9 h))))) := by
      intro k
      rw [if_pos k] at es
      refine E_ci 1 rfl (by decide) ?_
      refine E_goto rfl ?_
      exact nx (by rw [es])
    by_cases z : isB (TK9 h) q = false
    · refine E_icT rfl (decide_eq_true (hq.mpr z)) ?_
      exact no (fun k => by rw [z] at k; exact absurd k.1 (by decide))
    have z' : isB (TK9 h) q = true := by cases k : isB (TK9 h) q; exact absurd k z; rfl
    refine E_icF rfl (decide_eq_false (fun k => z (hq.mp k))) ?_
    refine E_il rfl L2 ?_
    refine E_ci 1 rfl (by decide) ?_
    by_cases w : q = 0
    · refine E_icT rfl (decide_eq_true ((nJ_eq (by omega) (by omega)).mpr (by omega))) ?_
      exact yes ⟨z', .inl w⟩
    refine E_icF rfl (decide_eq_false (fun k => by have := (nJ_eq (by omega) (by omega)).mp k; omega)) ?_
    have hp := hz q (by omega) (by omega)
    refine E_al rfl L0 ?_
    refine E_gr rfl hh2 (q := 90) rfl ?_
    refine E_il rfl L2 ?_
    refine E_ci 1 rfl (by decide) ?_
    refine E_bin rfl (nJ_sub (by omega)) ?_
    rw [show q + 1 - 1 = q by omega]
    refine E_ial rfl hh2 rfl (by omega) (by decide) rfl ?_
    refine E_c rfl ?_
    by_cases y : isB (TK9 h) (q - 1) = false
    · refine E_icF rfl (decide_eq_false (fun k => k (hp.mpr y))) ?_
      exact yes ⟨z', .inr y⟩
    · refine E_icT rfl (decide_eq_true (fun k => y (hp.mp k))) ?_
      exact no (fun k => by rcases k.2 with k | k; exact w k; exact y k)
end RUNS
section Q_runs
variable {h : pm_H} {d : Nat}
theorem c8_runs {h h2 : pm_H} {lv : List (Nat × Value)} (hh : HH h) (B : B9 h) (T : LT9 h h2) (L0 : pm_get lv 0 = some (.ref 0)) : Ends (pm_at tX8_runs) (pm_Rt pm_P (d + 5)) (14, lv, [], h2, 0, 0) (fun h' r => K9 h h' ∧ r = some (.int (nJ (rns (TK9 h) (P9 h))))) := by
  have T0 := T
  obtain ⟨hh2, f, t1, t2, t3, t4, t5, t6, t7⟩ := T
  have kk : K9 h h2 := K9_fr f rfl rfl rfl rfl
  obtain ⟨l3, p8, n8⟩ := g9s hh
  refine E_al rfl L0 ?_
  refine E_ogr (q := 62) rfl hh2 rfl rfl ?_
  refine E_ogf (q := (0, 511)) rfl hh2 rfl rfl t1 ?_
  refine E_al rfl L0 ?_
  refine E_ogr (q := 62) rfl hh2 rfl rfl ?_
  refine E_ogf (q := (0, 511)) rfl hh2 rfl rfl t1 ?_
  refine E_ci 1 rfl (by decide) ?_
  refine E_bin rfl rfl ?_
  refine E_c rfl ?_
  refine E_bin rfl rfl ?_
  refine E_bin rfl rfl ?_
  refine E_call rfl (Sp_le (by omega) (sp_bitCount (d := d))) (chkS rfl (by show 0 ≤ 8; decide)) (fun h3 r3 => ?_)
  rintro ⟨e3, f3⟩
  rw [e3, f3]
  have lp := TK9_lp hh B
  have m8 : TK9 h < 256 := Nat.lt_of_lt_of_le lp (Nat.le_trans (Nat.pow_le_pow_right (n := 2) (by omega) p8) (by decide))
  exact E_rti rfl ⟨kk, by rw [← rns_tab ⟨P9 h, by omega⟩ ⟨TK9 h, m8⟩ lp]⟩
theorem sp_runs8 (hh : HH h) (R : QRE h) : Sp (d + 6) 174 h [.ref 0] (fun h' r => K9 h h' ∧ r = some (.int (qv h (nJ (rns (TK9 h) (P9 h)))))) := by
  refine Sp_of aiX8_runs rfl rfl rfl ?_
  have L0 : pm_get (lv_args 0 [.ref 0]) 0 = some (.ref 0) := rfl
  generalize lv_args 0 [.ref 0] = lv at L0 ⊢
  have k0 : K9 h h := ⟨fun _ => rfl, fun _ => rfl, fun _ => rfl, fun _ => rfl⟩
  refine E_al rfl L0 ?_
  refine E_call rfl (Sp_le (by omega) (sp_hasStreet8 (d := d) hh)) (chkO (a := 0) hh rfl rfl rfl rfl (by show 0 ≤ 8; decide)) (fun h1 r1 => ?_)
  rintro ⟨e1, f1⟩
  rw [e1, f1]
  by_cases b : 0 < gn h 15 0
  · refine E_ifT rfl (by rw [zb_T b]; rfl) ?_
    rw [show qv h (nJ (rns (TK9 h) (P9 h))) = nJ (rns (TK9 h) (P9 h)) from if_pos ((st_eq R).mp b)]
    refine E_al rfl L0 ?_
    refine E_call rfl (sp_parkAllX (d := d) hh R) (chkO (a := 0) hh rfl rfl rfl rfl (by show 0 ≤ 8; decide)) (fun h2 r2 => ?_)
    rintro ⟨e2, T⟩
    rw [e2]
    exact c8_runs hh (B9_of R) T L0
  · refine E_ifF rfl (by rw [zb_F b]; rfl) ?_
    rw [show qv h (nJ (rns (TK9 h) (P9 h))) = -2 from if_neg (fun q => b ((st_eq R).mpr q))]
    refine E_c rfl ?_
    exact E_rti rfl ⟨k0, rfl⟩
theorem r9_runs {h h2 : pm_H} {lv : List (Nat × Value)} (hh : HH h) (B : B9 h) (T : LV9 h h2) (L0 : pm_get lv 0 = some (.ref 77)) : Ends (pm_at tX9_runs) (pm_Rt pm_P (d + 6)) (19, lv, [], h2, 0, 0) (fun h' r => r = some (.int (nJ (rns (TK9 h) (P9 h))))) := by
  have T0 := T
  obtain ⟨hh2, u0, u3, t1, t2, t3, t4⟩ := T
  obtain ⟨l3, p8, n8⟩ := g9s hh
  refine E_ci 0 rfl (by decide) ?_
  refine E_is rfl (fun lv1 K1 kp => ?_)
  refine E_ci 1 rfl (by decide) ?_
  refine E_is rfl (fun lv2 K2 kp2 => ?_)
  exact rn_loop hh B T0 (P9 h) (q := 0) lv2 (by omega) (kp2 0 _ (by decide) rfl (kp 0 _ (by decide) rfl L0)) (kp2 1 _ (by decide) rfl K1) K2
theorem sp_runs9 (hh : HH h) (V : V9 h) (B : B9 h) : Sp (d + 7) 341 h [.ref 77] (fun h' r => r = some (.int (qv h (nJ (rns (TK9 h) (P9 h)))))) := by
  refine Sp_of aiX9_runs rfl rfl rfl ?_
  have L0 : pm_get (lv_args 0 [.ref 77]) 0 = some (.ref 77) := rfl
  generalize lv_args 0 [.ref 77] = lv at L0 ⊢
  refine E_al rfl L0 ?_
  refine E_ci 0 rfl (by decide) ?_
  refine E_pf rfl hh rfl ?_
  have hg : HH (pt h 77 0 (nJ 0)) := HH_ptn hh rfl (by omega) (by omega) (by omega)
  have k : K9 h (pt h 77 0 (nJ 0)) := K9_77
  generalize pt h 77 0 (nJ 0) = g at hg k ⊢
  refine E_al rfl L0 ?_
  refine E_call rfl (Sp_le (by omega) (sp_isStreet (d := d) hg)) (chk77 hg rfl rfl (by show 0 ≤ 8; decide)) (fun h1 r1 => ?_)
  rintro ⟨e1, f1⟩
  rw [e1, f1]
  rw [k.2.2.2]
  by_cases b : 0 < (gi h 83 0).toInt
  · refine E_ifT rfl (by rw [zb_T b]; rfl) ?_
    rw [show qv h (nJ (rns (TK9 h) (P9 h))) = nJ (rns (TK9 h) (P9 h)) from if_pos (b)]
    refine E_al rfl L0 ?_
    refine E_call rfl (Sp_le (by omega) (sp_laysNowX (d := d) hg (V9_K k V) (B9_K k B))) (chk77 hg rfl rfl (by show 0 ≤ 8; decide)) (fun h2 r2 => ?_)
    rintro ⟨e2, T0⟩
    rw [e2]
    have T := LV9_of k T0
    exact r9_runs hh B T L0
  · refine E_ifF rfl (by rw [zb_F b]; rfl) ?_
    rw [show qv h (nJ (rns (TK9 h) (P9 h))) = -2 from if_neg (b)]
    refine E_c rfl ?_
    exact E_rti rfl rfl
end Q_runs
noncomputable def half_runs (h : pm_H) (r : Int32) : Prop := QRE h ∧ r = qv h (nJ (rns (TK9 h) (P9 h)))
theorem g8_runs {h : pm_H} (I : IVQ h) : Sp 100 174 h [.ref 0] (fun h' v => IVh h' ∧ ∃ r : Int32, v = some (.int r) ∧ half_runs h' r) := by
  refine Sp_le (by omega) (Sp_mono ?_ (Sp_and (top_all (as := [.ref 0]) q177 (by decide +kernel) I.1 ⟨rfl, trivial⟩) (sp_runs8 (d := 0) I.1.1 I.2)))
  rintro h' v ⟨⟨s1, s2, -⟩, k, rfl⟩
  exact ⟨s1, _, rfl, QRE_fr s2 rfl I.2, by rw [qv_K k, TK9_K k, P9_K k]⟩
theorem g9_runs {h : pm_H} {r : Int32} (I : IVh h) (J : half_runs h r) : Sp 100 341 h [.ref 77] (fun h' v => IVQ h' ∧ v = some (.int r)) := by
  obtain ⟨J1, rfl⟩ := J
  refine Sp_le (by omega) (Sp_mono ?_ (Sp_and (top_all (as := [.ref 77]) q178 (by decide +kernel) I ⟨rfl, trivial⟩) (sp_runs9 (d := 0) I.1 (V9_of J1) (B9_of J1))))
  rintro h' v ⟨⟨s1, s2, -⟩, rfl⟩
  exact ⟨⟨s1, QRE_fr s2 rfl J1⟩, rfl⟩
