/-! holder of both (written by gen_u68.py; wants u67b) -/
theorem hd_stay {l p s n q : Nat} {W : Nat → Nat} (p9 : p ≤ 9) (V : ∀ c, c < n + 1 → 1 ≤ W c ∧ W c ≤ p) (q1 : 1 ≤ q) (q9 : q ≤ 9) (z : ¬ hd l p s W n q = 0) : hd l p s W (n + 1) q = hd l p s W n q := by
  have ok := spt_ok (l := l) (s := s) (W := W) (V n (by omega)).1 (V n (by omega)).2
  have hf := hd_free (l := l) (s := s) p9 (n := n) (W := W) (fun c hc => V c (by omega)) q q1 q9
  show (if spt l p s W n = q ∧ q ≠ 0 then n + 1 else hd l p s W n q) = _
  refine if_neg ?_
  rintro ⟨e, -⟩
  rcases ok with o | ⟨-, -, o⟩
  · omega
  · rw [e] at o; exact z (hf.mpr o)
theorem hd_far {l p s n q : Nat} {W : Nat → Nat} (p9 : p ≤ 9) (q1 : 1 ≤ q) (q9 : q ≤ 9) (z : ¬ hd l p s W n q = 0) : ∀ j, (∀ c, c < n + j → 1 ≤ W c ∧ W c ≤ p) → hd l p s W (n + j) q = hd l p s W n q
  | 0, _ => rfl
  | j + 1, V => by
    have ih := hd_far (l := l) (s := s) p9 q1 q9 z j (fun c hc => V c (by omega))
    have V' : ∀ c, c < (n + j) + 1 → 1 ≤ W c ∧ W c ≤ p := fun c hc => V c (by omega)
    exact (hd_stay (n := n + j) p9 V' q1 q9 (by rw [ih]; exact z)).trans ih
section HOLD
variable {h h2 : pm_H} {d : Nat}
theorem ho_loop {q : Nat} (hh : HH h) (B : B9 h) (T : LT9 h h2) (q1 : 1 ≤ q) (qp : q ≤ P9 h) (j : Nat) : ∀ {c : Nat} (lv : List (Nat × Value)), c + j = N9 h → hd (L9 h) (P9 h) (2 ^ N9 h - 1) (W9 h) c q = 0 → pm_get lv 0 = some (.ref 0) → pm_get lv 1 = some (.int (nJ q)) → pm_get lv 2 = some (.int (nJ c)) → Ends (pm_at tX8_holder) (pm_Rt pm_P (d + 5)) (17, lv, [], h2, 0, 0) (fun h' r => h' = h2 ∧ r = some (.int (pI (HD9 h q)))) := by
  obtain ⟨hh2, f, t1, t2, t3, t4, t5, t6, t7⟩ := T
  obtain ⟨l3, p8, n8⟩ := g9s hh
  induction j with
  | zero =>
    intro c lv hj hz L0 L1 L2
    refine E_il rfl L2 ?_
    refine E_al rfl L0 ?_
    refine E_ogr (q := 15) rfl hh2 rfl rfl ?_
    refine E_ogf (q := (0, 8)) rfl hh2 rfl rfl t5 ?_
    refine E_icT rfl (decide_eq_true ((nJ_le (by omega) (by omega)).mpr (by omega))) ?_
    refine E_c rfl ?_
    have e : c = N9 h := by omega
    rw [e] at hz
    exact E_rti rfl ⟨rfl, by unfold HD9; rw [hz]; rfl⟩
  | succ j ih =>
    intro c lv hj hz L0 L1 L2
    have hc : c < N9 h := by omega
    have s8 := SP9_le B hc
    refine E_il rfl L2 ?_
    refine E_al rfl L0 ?_
    refine E_ogr (q := 15) rfl hh2 rfl rfl ?_
    refine E_ogf (q := (0, 8)) rfl hh2 rfl rfl t5 ?_
    refine E_icF rfl (decide_eq_false (fun z => absurd ((nJ_le (by omega) (by omega)).mp z) (by omega))) ?_
    refine E_al rfl L0 ?_
    refine E_ogr (q := 62) rfl hh2 rfl rfl ?_
    refine E_ogr (q := 63) rfl hh2 rfl rfl ?_
    refine E_il rfl L2 ?_
    refine E_ial rfl hh2 rfl (by omega) (by decide) (t4 c hc) ?_
    refine E_il rfl L1 ?_
    have es : hd (L9 h) (P9 h) (2 ^ N9 h - 1) (W9 h) (c + 1) q = if SP9 h c = q ∧ q ≠ 0 then c + 1 else hd (L9 h) (P9 h) (2 ^ N9 h - 1) (W9 h) c q := rfl
    by_cases z : SP9 h c = q
    · refine E_icF rfl (decide_eq_false (fun w => w ((nJ_eq (by omega) (by omega)).mpr z))) ?_
      refine E_il rfl L2 ?_
      rw [if_pos ⟨z, by omega⟩] at es
      have ef := hd_far (l := L9 h) (p := P9 h) (s := 2 ^ N9 h - 1) (W := W9 h) (n := c + 1) (q := q) (by omega) q1 (by omega) (by omega) (N9 h - (c + 1)) (fun i hi => B i (by omega))
      rw [show c + 1 + (N9 h - (c + 1)) = N9 h by omega, es] at ef
      exact E_rti rfl ⟨rfl, by unfold HD9; rw [ef]; rfl⟩
    · refine E_icT rfl (decide_eq_true (fun w => z ((nJ_eq (by omega) (by omega)).mp w))) ?_
      rw [if_neg (fun w => z w.1)] at es
      refine E_inc rfl L2 (nJ_inc _) (fun lv1 K2 kp => ?_)
      refine E_goto rfl ?_
      exact ih lv1 (by omega) (by rw [es]; exact hz) (kp 0 _ (by decide) rfl L0) (kp 1 _ (by decide) rfl L1) K2
end HOLD
section Q_holder
variable {h : pm_H} {d : Nat}
theorem c8_holder {h h2 : pm_H} {lv : List (Nat × Value)} {c : Nat} (hh : HH h) (B : B9 h) (T : LT9 h h2) (c1 : 1 ≤ c) (cp : c ≤ P9 h) (L0 : pm_get lv 0 = some (.ref 0)) (L1 : pm_get lv 1 = some (.int (nJ c))) : Ends (pm_at tX8_holder) (pm_Rt pm_P (d + 5)) (15, lv, [], h2, 0, 0) (fun h' r => K9 h h' ∧ r = some (.int (pI (HD9 h c)))) := by
  have T0 := T
  obtain ⟨hh2, f, t1, t2, t3, t4, t5, t6, t7⟩ := T
  have kk : K9 h h2 := K9_fr f rfl rfl rfl rfl
  obtain ⟨l3, p8, n8⟩ := g9s hh
  refine E_ci 0 rfl (by decide) ?_
  refine E_is rfl (fun lv1 K2 kp => ?_)
  refine Ends_mono ?_ (ho_loop hh B T0 c1 cp (N9 h) (c := 0) lv1 (by omega) rfl (kp 0 _ (by decide) rfl L0) (kp 1 _ (by decide) rfl L1) K2)
  rintro h' r ⟨rfl, e⟩
  exact ⟨kk, e⟩
theorem sp_holder8 {x : Int32} (hh : HH h) (R : QRE h) : Sp (d + 6) 119 h [.ref 0, .int x] (fun h' r => K9 h h' ∧ r = some (.int (pq h (fun q => pI (HD9 h q)) x))) := by
  refine Sp_of aiX8_holder rfl rfl rfl ?_
  have L0 : pm_get (lv_args 0 [.ref 0, .int x]) 0 = some (.ref 0) := rfl
  have L1 : pm_get (lv_args 0 [.ref 0, .int x]) 1 = some (.int x) := rfl
  generalize lv_args 0 [.ref 0, .int x] = lv at L0 L1 ⊢
  have k0 : K9 h h := ⟨fun _ => rfl, fun _ => rfl, fun _ => rfl, fun _ => rfl⟩
  refine E_al rfl L0 ?_
  refine E_il rfl L1 ?_
  refine E_call rfl (Sp_le (by omega) (sp_hasPlace8 (d := d) hh)) (chkO (a := 0) hh rfl rfl rfl rfl (by show 0 ≤ 8; decide)) (fun h1 r1 => ?_)
  rintro ⟨e1, f1⟩
  rw [e1, f1]
  have e0 : gn h 15 0 = P9 h := gn_eq (R.2.1.1.2.1 0 (by omega))
  by_cases b : 1 ≤ x.toInt ∧ x.toInt ≤ (gn h 15 0 : Int)
  · refine E_ifT rfl (by rw [zb_T b]; rfl) ?_
    rw [show pq h (fun q => pI (HD9 h q)) x = (fun q => pI (HD9 h q)) x.toInt.toNat from if_pos (⟨(st_eq R).mp (by omega), b.1, by rw [← e0]; exact b.2⟩)]
    refine E_al rfl L0 ?_
    refine E_call rfl (sp_parkAllX (d := d) hh R) (chkO (a := 0) hh rfl rfl rfl rfl (by show 0 ≤ 8; decide)) (fun h2 r2 => ?_)
    rintro ⟨e2, T⟩
    rw [e2]
    obtain ⟨c, hc, rfl⟩ : ∃ c, c < 2147483648 ∧ x = nJ c := ⟨x.toInt.toNat, by have := x.toInt_lt; omega, nJ_of (by omega)⟩
    have xc := nJ_toInt hc
    rw [show (nJ c).toInt.toNat = c by omega]
    exact c8_holder hh (B9_of R) T (by omega) (by omega) L0 L1
  · refine E_ifF rfl (by rw [zb_F b]; rfl) ?_
    rw [show pq h (fun q => pI (HD9 h q)) x = -2 from if_neg (fun q => b ⟨q.2.1, by rw [e0]; exact q.2.2⟩)]
    refine E_c rfl ?_
    exact E_rti rfl ⟨k0, rfl⟩
theorem r9_holder {h h2 : pm_H} {lv : List (Nat × Value)} {c : Nat} (hh : HH h) (B : B9 h) (T : LV9 h h2) (c1 : 1 ≤ c) (cp : c ≤ P9 h) (L0 : pm_get lv 0 = some (.ref 77)) (L1 : pm_get lv 1 = some (.int (nJ c))) : Ends (pm_at tX9_holder) (pm_Rt pm_P (d + 6)) (20, lv, [], h2, 0, 0) (fun h' r => r = some (.int (pI (HD9 h c)))) := by
  have T0 := T
  obtain ⟨hh2, u0, u3, t1, t2, t3, t4⟩ := T
  obtain ⟨l3, p8, n8⟩ := g9s hh
  refine E_al rfl L0 ?_
  refine E_gr rfl hh2 (q := 90) rfl ?_
  refine E_il rfl L1 ?_
  refine E_ial rfl hh2 rfl (by omega) (by decide) (t2 c (by omega)) ?_
  exact E_rti rfl rfl
theorem sp_holder9 {x : Int32} (hh : HH h) (V : V9 h) (B : B9 h) : Sp (d + 7) 258 h [.ref 77, .int x] (fun h' r => r = some (.int (pq h (fun q => pI (HD9 h q)) x))) := by
  refine Sp_of aiX9_holder rfl rfl rfl ?_
  have L0 : pm_get (lv_args 0 [.ref 77, .int x]) 0 = some (.ref 77) := rfl
  have L1 : pm_get (lv_args 0 [.ref 77, .int x]) 1 = some (.int x) := rfl
  generalize lv_args 0 [.ref 77, .int x] = lv at L0 L1 ⊢
  refine E_al rfl L0 ?_
  refine E_ci 0 rfl (by decide) ?_
  refine E_pf rfl hh rfl ?_
  have hg : HH (pt h 77 0 (nJ 0)) := HH_ptn hh rfl (by omega) (by omega) (by omega)
  have k : K9 h (pt h 77 0 (nJ 0)) := K9_77
  generalize pt h 77 0 (nJ 0) = g at hg k ⊢
  refine E_al rfl L0 ?_
  refine E_il rfl L1 ?_
  refine E_call rfl (Sp_le (by omega) (sp_isPlace (d := d) hg)) (chk77 hg rfl rfl (by show 0 ≤ 8; decide)) (fun h1 r1 => ?_)
  rintro ⟨e1, f1⟩
  rw [e1, f1]
  rw [k.2.2.2, show gn g 84 0 = P9 h from P9_K k]
  by_cases b : 0 < (gi h 83 0).toInt ∧ 1 ≤ x.toInt ∧ x.toInt ≤ (P9 h : Int)
  · refine E_ifT rfl (by rw [zb_T b]; rfl) ?_
    rw [show pq h (fun q => pI (HD9 h q)) x = (fun q => pI (HD9 h q)) x.toInt.toNat from if_pos (b)]
    refine E_al rfl L0 ?_
    refine E_call rfl (Sp_le (by omega) (sp_laysNowX (d := d) hg (V9_K k V) (B9_K k B))) (chk77 hg rfl rfl (by show 0 ≤ 8; decide)) (fun h2 r2 => ?_)
    rintro ⟨e2, T0⟩
    rw [e2]
    have T := LV9_of k T0
    obtain ⟨c, hc, rfl⟩ : ∃ c, c < 2147483648 ∧ x = nJ c := ⟨x.toInt.toNat, by have := x.toInt_lt; omega, nJ_of (by omega)⟩
    have xc := nJ_toInt hc
    rw [show (nJ c).toInt.toNat = c by omega]
    exact r9_holder hh B T (by omega) (by omega) L0 L1
  · refine E_ifF rfl (by rw [zb_F b]; rfl) ?_
    rw [show pq h (fun q => pI (HD9 h q)) x = -2 from if_neg (b)]
    refine E_c rfl ?_
    exact E_rti rfl rfl
end Q_holder
noncomputable def half_holder (h : pm_H) (r x : Int32) : Prop := QRE h ∧ r = pq h (fun q => pI (HD9 h q)) x
theorem g8_holder {h : pm_H} {x : Int32} (I : IVQ h) : Sp 100 119 h [.ref 0, .int x] (fun h' v => IVh h' ∧ ∃ r : Int32, v = some (.int r) ∧ half_holder h' r x) := by
  refine Sp_le (by omega) (Sp_mono ?_ (Sp_and (top_all (as := [.ref 0, .int x]) q165 (by decide +kernel) I.1 ⟨rfl, aI _, trivial⟩) (sp_holder8 (d := 0) I.1.1 I.2)))
  rintro h' v ⟨⟨s1, s2, -⟩, k, rfl⟩
  exact ⟨s1, _, rfl, QRE_fr s2 rfl I.2, by rw [pq_K k, HD9_K k]⟩
theorem g9_holder {h : pm_H} {r x : Int32} (I : IVh h) (J : half_holder h r x) : Sp 100 258 h [.ref 77, .int x] (fun h' v => IVQ h' ∧ v = some (.int r)) := by
  obtain ⟨J1, rfl⟩ := J
  refine Sp_le (by omega) (Sp_mono ?_ (Sp_and (top_all (as := [.ref 77, .int x]) q168 (by decide +kernel) I ⟨rfl, aI _, trivial⟩) (sp_holder9 (d := 0) I.1 (V9_of J1) (B9_of J1))))
  rintro h' v ⟨⟨s1, s2, -⟩, rfl⟩
  exact ⟨⟨s1, QRE_fr s2 rfl J1⟩, rfl⟩
