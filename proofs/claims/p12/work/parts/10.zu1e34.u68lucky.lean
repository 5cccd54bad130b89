/-! lucky of both (written by gen_u68.py; wants u67b) -/
noncomputable def lky (S W : Nat → Nat) : Nat → Nat
  | 0 => 0
  | n + 1 => if S n = W n then lky S W n + 2 ^ n else lky S W n
theorem lky_lt (S W : Nat → Nat) : ∀ n, lky S W n < 2 ^ n
  | 0 => by show 0 < 1; omega
  | n + 1 => by
    have := lky_lt S W n
    have e : 2 ^ (n + 1) = 2 ^ n + 2 ^ n := by rw [Nat.pow_succ]; omega
    show (if S n = W n then lky S W n + 2 ^ n else lky S W n) < _
    split <;> omega
section LKY
variable {h h2 : pm_H} {d : Nat}
theorem lk8_loop (hh : HH h) (B : B9 h) (T : LT9 h h2) (j : Nat) : ∀ {c : Nat} (lv : List (Nat × Value)), c + j = N9 h → pm_get lv 0 = some (.ref 0) → pm_get lv 1 = some (.int (nJ (lky (SP9 h) (W9 h) c))) → pm_get lv 2 = some (.int (nJ c)) → Ends (pm_at tX8_lucky) (pm_Rt pm_P (d + 5)) (18, lv, [], h2, 0, 0) (fun h' r => h' = h2 ∧ r = some (.int (nJ (lky (SP9 h) (W9 h) (N9 h))))) := by
  obtain ⟨hh2, f, t1, t2, t3, t4, t5, t6, t7⟩ := T
  obtain ⟨l3, p8, n8⟩ := g9s hh
  induction j with
  | zero =>
    intro c lv hj L0 L1 L2
    refine E_il rfl L2 ?_
    refine E_al rfl L0 ?_
    refine E_ogr (q := 15) rfl hh2 rfl rfl ?_
    refine E_ogf (q := (0, 8)) rfl hh2 rfl rfl t5 ?_
    refine E_icT rfl (decide_eq_true ((nJ_le (by omega) (by omega)).mpr (by omega))) ?_
    refine E_il rfl L1 ?_
    have e : c = N9 h := by omega
    exact E_rti rfl ⟨rfl, by rw [e]⟩
  | succ j ih =>
    intro c lv hj L0 L1 L2
    have hc : c < N9 h := by omega
    have s8 := SP9_le B hc
    have w8 := (B c hc).2
    have lt := lky_lt (SP9 h) (W9 h) c
    have q8 : 2 ^ c ≤ 2 ^ 8 := Nat.pow_le_pow_right (by omega) (by omega)
    refine E_il rfl L2 ?_
    refine E_al rfl L0 ?_
    refine E_ogr (q := 15) rfl hh2 rfl rfl ?_
    refine E_ogf (q := (0, 8)) rfl hh2 rfl rfl t5 ?_
    refine E_icF rfl (decide_eq_false (fun z => absurd ((nJ_le (by omega) (by omega)).mp z) (by omega))) ?_
    refine E_al rfl L0 ?_
    refine E_ogr (q := 62) rfl hh2 rfl rfl ?_
    refine E_ogr (q := 63) rfl hh2 rfl rfl ?_
    refine E_il rfl L2 ?_
    refine E_ial rfl hh2 rfl (by omega) (by decide) (t4 c hc) ?_
    refine E_al rfl L0 ?_
    refine E_ogr (q := 15) rfl hh2 rfl rfl ?_
    refine E_ogr (q := 17) rfl hh2 rfl rfl ?_
    refine E_il rfl L2 ?_
    refine E_ial rfl hh2 rfl (by omega) (by decide) (t7 c hc) ?_
    have nx : ∀ (lv : List (Nat × Value)), pm_get lv 0 = some (.ref 0) → pm_get lv 1 = some (.int (nJ (lky (SP9 h) (W9 h) (c + 1)))) → pm_get lv 2 = some (.int (nJ c)) → Ends (pm_at tX8_lucky) (pm_Rt pm_P (d + 5)) (56, lv, [], h2, 0, 0) (fun h' r => h' = h2 ∧ r = some (.int (nJ (lky (SP9 h) (W9 h) (N9 h))))) := by
      intro lv M0 M1 M2
      refine E_inc rfl M2 (nJ_inc _) (fun lv2 K2 kp2 => ?_)
      refine E_goto rfl ?_
      exact ih lv2 (by omega) (kp2 0 _ (by decide) rfl M0) (kp2 1 _ (by decide) rfl M1) K2
    have es : lky (SP9 h) (W9 h) (c + 1) = if SP9 h c = W9 h c then lky (SP9 h) (W9 h) c + 2 ^ c else lky (SP9 h) (W9 h) c := rfl
    by_cases z : SP9 h c = W9 h c
    · refine E_icF rfl (decide_eq_false (fun w => w ((nJ_eq (by omega) (by omega)).mpr z))) ?_
      rw [if_pos z] at es
      refine E_il rfl L1 ?_
      refine E_ci 1 rfl (by decide) ?_
      refine E_il rfl L2 ?_
      refine E_bin rfl rfl ?_
      refine E_bin rfl (or_new (by omega) (by omega) (isB_hi lt)) ?_
      refine E_is rfl (fun lv1 K1 kp => ?_)
      exact nx lv1 (kp 0 _ (by decide) rfl L0) (by rw [es]; exact K1) (kp 2 _ (by decide) rfl L2)
    · refine E_icT rfl (decide_eq_true (fun w => z ((nJ_eq (by omega) (by omega)).mp w))) ?_
      rw [if_neg z] at es
      exact nx lv L0 (by rw [es]; exact L1) L2
theorem pO_eq {a b : Nat} (ha : a < 1000) (hb : b < 1000) (b1 : 1 ≤ b) : pO a = nJ b ↔ a = b := by
  unfold pO
  by_cases z : a = 0
  · rw [if_pos z]
    constructor
    · intro e
      have := congrArg Int32.toInt e
      rw [nJ_toInt (by omega)] at this
      have z1 : (-1 : Int32).toInt = -1 := rfl
      omega
    · intro e; omega
  · rw [if_neg z]; exact nJ_eq (by omega) (by omega)
theorem lk9_loop (hh : HH h) (B : B9 h) (T : LV9 h h2) (j : Nat) : ∀ {c : Nat} (lv : List (Nat × Value)), c + j = N9 h → pm_get lv 0 = some (.ref 77) → pm_get lv 1 = some (.int (nJ (lky (SP9 h) (W9 h) c))) → pm_get lv 2 = some (.int (nJ c)) → Ends (pm_at tX9_lucky) (pm_Rt pm_P (d + 6)) (23, lv, [], h2, 0, 0) (fun h' r => r = some (.int (nJ (lky (SP9 h) (W9 h) (N9 h))))) := by
  obtain ⟨hh2, u0, u3, t1, t2, t3, t4⟩ := T
  obtain ⟨l3, p8, n8⟩ := g9s hh
  induction j with
  | zero =>
    intro c lv hj L0 L1 L2
    refine E_il rfl L2 ?_
    refine E_al rfl L0 ?_
    refine E_call rfl (Sp_le (by omega) (sp_cars (d := d) hh2)) (chk77 hh2 rfl rfl (by show 1 ≤ 8; decide)) (fun h1 r1 => ?_)
    rintro ⟨e1, f1, -⟩
    rw [e1, f1, u3]
    refine E_icT rfl (decide_eq_true ((nJ_le (by omega) (by omega)).mpr (by omega))) ?_
    refine E_il rfl L1 ?_
    have e : c = N9 h := by omega
    exact E_rti rfl (by rw [e])
  | succ j ih =>
    intro c lv hj L0 L1 L2
    have hc : c < N9 h := by omega
    have s8 := SP9_le B hc
    have wb := B c hc
    have lt := lky_lt (SP9 h) (W9 h) c
    have q8 : 2 ^ c ≤ 2 ^ 8 := Nat.pow_le_pow_right (by omega) (by omega)
    refine E_il rfl L2 ?_
    refine E_al rfl L0 ?_
    refine E_call rfl (Sp_le (by omega) (sp_cars (d := d) hh2)) (chk77 hh2 rfl rfl (by show 1 ≤ 8; decide)) (fun h1 r1 => ?_)
    rintro ⟨e1, f1, -⟩
    rw [e1, f1, u3]
    refine E_icF rfl (decide_eq_false (fun z => absurd ((nJ_le (by omega) (by omega)).mp z) (by omega))) ?_
    refine E_il rfl L1 ?_
    refine E_al rfl L0 ?_
    refine E_gr rfl hh2 (q := 91) rfl ?_
    refine E_il rfl L2 ?_
    refine E_ial rfl hh2 rfl (by omega) (by decide) (t3 c hc) ?_
    refine E_al rfl L0 ?_
    refine E_gr rfl hh2 (q := 89) rfl ?_
    refine E_il rfl L2 ?_
    refine E_ial rfl hh2 rfl (by omega) (by decide) (t4 c hc) ?_
    have nx : ∀ {v : Int32}, nJ (lky (SP9 h) (W9 h) c) ||| v = nJ (lky (SP9 h) (W9 h) (c + 1)) → Ends (pm_at tX9_lucky) (pm_Rt pm_P (d + 6)) (54, lv, [.int v, .int (nJ (lky (SP9 h) (W9 h) c))], h2, 0, 0) (fun h' r => r = some (.int (nJ (lky (SP9 h) (W9 h) (N9 h))))) := by
      intro v e
      refine E_bin rfl e ?_
      refine E_is rfl (fun lv1 K1 kp => ?_)
      refine E_inc rfl (kp 2 _ (by decide) rfl L2) (nJ_inc _) (fun lv2 K2 kp2 => ?_)
      refine E_goto rfl ?_
      exact ih lv2 (by omega) (kp2 0 _ (by decide) rfl (kp 0 _ (by decide) rfl L0)) (kp2 1 _ (by decide) rfl K1) K2
    have es : lky (SP9 h) (W9 h) (c + 1) = if SP9 h c = W9 h c then lky (SP9 h) (W9 h) c + 2 ^ c else lky (SP9 h) (W9 h) c := rfl
    by_cases z : SP9 h c = W9 h c
    · refine E_icF rfl (decide_eq_false (fun w => w ((pO_eq (by omega) (by omega) wb.1).mpr z))) ?_
      refine E_ci 1 rfl (by decide) ?_
      refine E_il rfl L2 ?_
      refine E_bin rfl rfl ?_
      refine E_goto rfl ?_
      refine nx ?_
      rw [es, if_pos z, or_new (by omega) (by omega) (isB_hi lt)]
    · refine E_icT rfl (decide_eq_true (fun w => z ((pO_eq (by omega) (by omega) wb.1).mp w))) ?_
      refine E_ci 0 rfl (by decide) ?_
      refine nx ?_
      rw [es, if_neg z]
      exact Int32.or_zero
end LKY
section Q_lucky
variable {h : pm_H} {d : Nat}
theorem c8_lucky {h h2 : pm_H} {lv : List (Nat × Value)} (hh : HH h) (B : B9 h) (T : LT9 h h2) (L0 : pm_get lv 0 = some (.ref 0)) : Ends (pm_at tX8_lucky) (pm_Rt pm_P (d + 5)) (14, lv, [], h2, 0, 0) (fun h' r => K9 h h' ∧ r = some (.int (nJ (lky (SP9 h) (W9 h) (N9 h))))) := by
  have T0 := T
  obtain ⟨hh2, f, t1, t2, t3, t4, t5, t6, t7⟩ := T
  have kk : K9 h h2 := K9_fr f rfl rfl rfl rfl
  obtain ⟨l3, p8, n8⟩ := g9s hh
  refine E_ci 0 rfl (by decide) ?_
  refine E_is rfl (fun lv1 K1 kp => ?_)
  refine E_ci 0 rfl (by decide) ?_
  refine E_is rfl (fun lv2 K2 kp2 => ?_)
  refine Ends_mono ?_ (lk8_loop hh B T0 (N9 h) (c := 0) lv2 (by omega) (kp2 0 _ (by decide) rfl (kp 0 _ (by decide) rfl L0)) (kp2 1 _ (by decide) rfl K1) K2)
  rintro h' r ⟨rfl, e⟩
  exact ⟨kk, e⟩
theorem sp_lucky8 (hh : HH h) (R : QRE h) : Sp (d + 6) 145 h [.ref 0] (fun h' r => K9 h h' ∧ r = some (.int (qv h (nJ (lky (SP9 h) (W9 h) (N9 h)))))) := by
  refine Sp_of aiX8_lucky rfl rfl rfl ?_
  have L0 : pm_get (lv_args 0 [.ref 0]) 0 = some (.ref 0) := rfl
  generalize lv_args 0 [.ref 0] = lv at L0 ⊢
  have k0 : K9 h h := ⟨fun _ => rfl, fun _ => rfl, fun _ => rfl, fun _ => rfl⟩
  refine E_al rfl L0 ?_
  refine E_call rfl (Sp_le (by omega) (sp_hasStreet8 (d := d) hh)) (chkO (a := 0) hh rfl rfl rfl rfl (by show 0 ≤ 8; decide)) (fun h1 r1 => ?_)
  rintro ⟨e1, f1⟩
  rw [e1, f1]
  by_cases b : 0 < gn h 15 0
  · refine E_ifT rfl (by rw [zb_T b]; rfl) ?_
    rw [show qv h (nJ (lky (SP9 h) (W9 h) (N9 h))) = nJ (lky (SP9 h) (W9 h) (N9 h)) from if_pos ((st_eq R).mp b)]
    refine E_al rfl L0 ?_
    refine E_call rfl (sp_parkAllX (d := d) hh R) (chkO (a := 0) hh rfl rfl rfl rfl (by show 0 ≤ 8; decide)) (fun h2 r2 => ?_)
    rintro ⟨e2, T⟩
    rw [e2]
    exact c8_lucky hh (B9_of R) T L0
  · refine E_ifF rfl (by rw [zb_F b]; rfl) ?_
    rw [show qv h (nJ (lky (SP9 h) (W9 h) (N9 h))) = -2 from if_neg (fun q => b ((st_eq R).mpr q))]
    refine E_c rfl ?_
    exact E_rti rfl ⟨k0, rfl⟩
theorem r9_lucky {h h2 : pm_H} {lv : List (Nat × Value)} (hh : HH h) (B : B9 h) (T : LV9 h h2) (L0 : pm_get lv 0 = some (.ref 77)) : Ends (pm_at tX9_lucky) (pm_Rt pm_P (d + 6)) (19, lv, [], h2, 0, 0) (fun h' r => r = some (.int (nJ (lky (SP9 h) (W9 h) (N9 h))))) := by
  have T0 := T
  obtain ⟨hh2, u0, u3, t1, t2, t3, t4⟩ := T
  obtain ⟨l3, p8, n8⟩ := g9s hh
  refine E_ci 0 rfl (by decide) ?_
  refine E_is rfl (fun lv1 K1 kp => ?_)
  refine E_ci 0 rfl (by decide) ?_
  refine E_is rfl (fun lv2 K2 kp2 => ?_)
  exact lk9_loop hh B T0 (N9 h) (c := 0) lv2 (by omega) (kp2 0 _ (by decide) rfl (kp 0 _ (by decide) rfl L0)) (kp2 1 _ (by decide) rfl K1) K2
theorem sp_lucky9 (hh : HH h) (V : V9 h) (B : B9 h) : Sp (d + 7) 307 h [.ref 77] (fun h' r => r = some (.int (qv h (nJ (lky (SP9 h) (W9 h) (N9 h)))))) := by
  refine Sp_of aiX9_lucky rfl rfl rfl ?_
  have L0 : pm_get (lv_args 0 [.ref 77]) 0 = some (.ref 77) := rfl
  generalize lv_args 0 [.ref 77] = lv at L0 ⊢
  refine E_al rfl L0 ?_
  refine E_ci 0 rfl (by decide) ?_
  refine E_pf rfl hh rfl ?_
  have hg : HH (pt h 77 0 (nJ 0)) := HH_ptn hh rfl (by omega) (by omega) (by omega)
  have k : K9 h (pt h 77 0 (nJ 0)) := K9_77
  generalize pt h 77 0 (nJ 0) = g at hg k ⊢
  refine E_al rfl L0 ?_
  refine E_call rfl (Sp_le (by omega) (sp_isStreet (d := d) hg)) (chk77 hg rfl rfl (by show 0 ≤ 8; decide)) (fun h1 r1 => ?_)
  rintro ⟨e1, f1⟩
  rw [e1, f1]
  rw [k.2.2.2]
  by_cases b : 0 < (gi h 83 0).toInt
  · refine E_ifT rfl (by rw [zb_T b]; rfl) ?_
    rw [show qv h (nJ (lky (SP9 h) (W9 h) (N9 h))) = nJ (lky (SP9 h) (W9 h) (N9 h)) from if_pos (b)]
    refine E_al rfl L0 ?_
    refine E_call rfl (Sp_le (by omega) (sp_laysNowX (d := d) hg (V9_K k V) (B9_K k B))) (chk77 hg rfl rfl (by show 0 ≤ 8; decide)) (fun h2 r2 => ?_)
    rintro ⟨e2, T0⟩
    rw [e2]
    have T := LV9_of k T0
    exact r9_lucky hh B T L0
  · refine E_ifF rfl (by rw [zb_F b]; rfl) ?_
    rw [show qv h (nJ (lky (SP9 h) (W9 h) (N9 h))) = -2 from if_neg (b)]
    refine E_c rfl ?_
    exact E_rti rfl rfl
end Q_lucky
noncomputable def half_lucky (h : pm_H) (r : Int32) : Prop := QRE h ∧ r = qv h (nJ (lky (SP9 h) (W9 h) (N9 h)))
theorem g8_lucky {h : pm_H} (I : IVQ h) : Sp 100 145 h [.ref 0] (fun h' v => IVh h' ∧ ∃ r : Int32, v = some (.int r) ∧ half_lucky h' r) := by
  refine Sp_le (by omega) (Sp_mono ?_ (Sp_and (top_all (as := [.ref 0]) q169 (by decide +kernel) I.1 ⟨rfl, trivial⟩) (sp_lucky8 (d := 0) I.1.1 I.2)))
  rintro h' v ⟨⟨s1, s2, -⟩, k, rfl⟩
  exact ⟨s1, _, rfl, QRE_fr s2 rfl I.2, by rw [qv_K k, SP9_K k, W9_K k, N9_K k]⟩
theorem g9_lucky {h : pm_H} {r : Int32} (I : IVh h) (J : half_lucky h r) : Sp 100 307 h [.ref 77] (fun h' v => IVQ h' ∧ v = some (.int r)) := by
  obtain ⟨J1, rfl⟩ := J
  refine Sp_le (by omega) (Sp_mono ?_ (Sp_and (top_all (as := [.ref 77]) q170 (by decide +kernel) I ⟨rfl, trivial⟩) (sp_lucky9 (d := 0) I.1 (V9_of J1) (B9_of J1))))
  rintro h' v ⟨⟨s1, s2, -⟩, rfl⟩
  exact ⟨⟨s1, QRE_fr s2 rfl J1⟩, rfl⟩
