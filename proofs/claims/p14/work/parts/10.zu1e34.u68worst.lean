/-! worst of both (written by gen_u68.py; wants u67b) -/
noncomputable def wst (S D : Nat → Nat) : Nat → Nat
  | 0 => 0
  | n + 1 => if ¬ S n = 0 ∧ (wst S D n = 0 ∨ D (wst S D n - 1) < D n) then n + 1 else wst S D n
theorem wst_le (S D : Nat → Nat) : ∀ n, wst S D n ≤ n
  | 0 => Nat.le_refl 0
  | n + 1 => by
    have := wst_le S D n
    show (if ¬ S n = 0 ∧ (wst S D n = 0 ∨ D (wst S D n - 1) < D n) then n + 1 else wst S D n) ≤ _
    split <;> omega
theorem wst_S (S D : Nat → Nat) : ∀ n, ¬ wst S D n = 0 → ¬ S (wst S D n - 1) = 0
  | 0, h => absurd rfl h
  | n + 1, h => by
    have ih := wst_S S D n
    have e : wst S D (n + 1) = if ¬ S n = 0 ∧ (wst S D n = 0 ∨ D (wst S D n - 1) < D n) then n + 1 else wst S D n := rfl
    by_cases c : ¬ S n = 0 ∧ (wst S D n = 0 ∨ D (wst S D n - 1) < D n)
    · rw [if_pos c] at e; rw [e]; exact c.1
    · rw [if_neg c] at e; rw [e] at h ⊢; exact ih h
/-- the most so far, counted from 1; 0: none yet -/
noncomputable def mst (S D : Nat → Nat) (n : Nat) : Nat := if wst S D n = 0 then 0 else D (wst S D n - 1) + 1
theorem pI_ltp {a b : Nat} (ha : a < 1000) (hb : b < 1000) : nJ a ≤ pI b ↔ a < b := by
  cases b with
  | zero =>
    constructor
    · intro q
      have := Int32.le_iff_toInt_le.mp q
      rw [nJ_toInt (by omega)] at this
      have z : (pI 0).toInt = -1 := rfl
      omega
    · intro q; omega
  | succ k =>
    show nJ a ≤ nJ k ↔ _
    rw [nJ_le (by omega) (by omega)]
    omega
section WST
variable {h h2 : pm_H} {d : Nat}
theorem ds9_le (hh : HH h) (B : B9 h) {i : Nat} (hi : i < N9 h) : ds9 h i ≤ 8 := by
  have := SP9_le B hi
  have := (B i hi).2
  have := (g9s hh).2.1
  unfold ds9 dst
  omega
theorem ws8_loop (hh : HH h) (B : B9 h) (T : LT9 h h2) (j : Nat) : ∀ {c : Nat} (lv : List (Nat × Value)), c + j = N9 h → pm_get lv 0 = some (.ref 0) → pm_get lv 1 = some (.int (pI (wst (SP9 h) (ds9 h) c))) → pm_get lv 2 = some (.int (pI (mst (SP9 h) (ds9 h) c))) → pm_get lv 3 = some (.int (nJ c)) → Ends (pm_at tX8_worst) (pm_Rt pm_P (d + 5)) (20, lv, [], h2, 0, 0) (fun h' r => h' = h2 ∧ r = some (.int (pI (wst (SP9 h) (ds9 h) (N9 h))))) := by
  have T0 := T
  obtain ⟨hh2, f, t1, t2, t3, t4, t5, t6, t7⟩ := T
  obtain ⟨l3, p8, n8⟩ := g9s hh
  induction j with
  | zero =>
    intro c lv hj L0 L1 L2 L3
    refine E_il rfl L3 ?_
    refine E_al rfl L0 ?_
    refine E_ogr (q := 15) rfl hh2 rfl rfl ?_
    refine E_ogf (q := (0, 8)) rfl hh2 rfl rfl t5 ?_
    refine E_icT rfl (decide_eq_true ((nJ_le (by omega) (by omega)).mpr (by omega))) ?_
    refine E_il rfl L1 ?_
    have e : c = N9 h := by omega
    exact E_rti rfl ⟨rfl, by rw [e]⟩
  | succ j ih =>
    intro c lv hj L0 L1 L2 L3
    have hc : c < N9 h := by omega
    have s8 := SP9_le B hc
    have d8 := ds9_le hh B hc
    have wl := wst_le (SP9 h) (ds9 h) c
    refine E_il rfl L3 ?_
    refine E_al rfl L0 ?_
    refine E_ogr (q := 15) rfl hh2 rfl rfl ?_
    refine E_ogf (q := (0, 8)) rfl hh2 rfl rfl t5 ?_
    refine E_icF rfl (decide_eq_false (fun z => absurd ((nJ_le (by omega) (by omega)).mp z) (by omega))) ?_
    refine E_al rfl L0 ?_
    refine E_ogr (q := 62) rfl hh2 rfl rfl ?_
    refine E_ogr (q := 63) rfl hh2 rfl rfl ?_
    refine E_il rfl L3 ?_
    refine E_ial rfl hh2 rfl (by omega) (by decide) (t4 c hc) ?_
    have nx : ∀ (lv : List (Nat × Value)), pm_get lv 0 = some (.ref 0) → pm_get lv 1 = some (.int (pI (wst (SP9 h) (ds9 h) (c + 1)))) → pm_get lv 2 = some (.int (pI (mst (SP9 h) (ds9 h) (c + 1)))) → pm_get lv 3 = some (.int (nJ c)) → Ends (pm_at tX8_worst) (pm_Rt pm_P (d + 5)) (60, lv, [], h2, 0, 0) (fun h' r => h' = h2 ∧ r = some (.int (pI (wst (SP9 h) (ds9 h) (N9 h))))) := by
      intro lv M0 M1 M2 M3
      refine E_inc rfl M3 (nJ_inc _) (fun lv2 K3 kp2 => ?_)
      refine E_goto rfl ?_
      exact ih lv2 (by omega) (kp2 0 _ (by decide) rfl M0) (kp2 1 _ (by decide) rfl M1) (kp2 2 _ (by decide) rfl M2) K3
    have es : wst (SP9 h) (ds9 h) (c + 1) = if ¬ SP9 h c = 0 ∧ (wst (SP9 h) (ds9 h) c = 0 ∨ ds9 h (wst (SP9 h) (ds9 h) c - 1) < ds9 h c) then c + 1 else wst (SP9 h) (ds9 h) c := rfl
    have stay : ¬ (¬ SP9 h c = 0 ∧ (wst (SP9 h) (ds9 h) c = 0 ∨ ds9 h (wst (SP9 h) (ds9 h) c - 1) < ds9 h c)) → Ends (pm_at tX8_worst) (pm_Rt pm_P (d + 5)) (60, lv, [], h2, 0, 0) (fun h' r => h' = h2 ∧ r = some (.int (pI (wst (SP9 h) (ds9 h) (N9 h))))) := by
      intro q
      rw [if_neg q] at es
      have em : mst (SP9 h) (ds9 h) (c + 1) = mst (SP9 h) (ds9 h) c := by unfold mst; rw [es]
      exact nx lv L0 (by rw [es]; exact L1) (by rw [em]; exact L2) L3
    by_cases z : SP9 h c = 0
    · refine E_ifT rfl (decide_eq_true ((nJ_eq0 (by omega)).mpr z)) ?_
      exact stay (fun q => q.1 z)
    refine E_ifF rfl (decide_eq_false (fun q => z ((nJ_eq0 (by omega)).mp q))) ?_
    refine E_al rfl L0 ?_
    refine E_il rfl L3 ?_
    refine E_call rfl (Sp_le (by omega) (sp_stepsInLot (d := d) hh B T0 hc)) (chkO (a := 0) hh2 rfl rfl rfl rfl (by show 0 ≤ 8; decide)) (fun h3 r3 => ?_)
    rintro ⟨e3, f3⟩
    rw [e3, f3]
    refine E_il rfl L2 ?_
    have m9 : mst (SP9 h) (ds9 h) c < 1000 := by
      unfold mst
      by_cases w : wst (SP9 h) (ds9 h) c = 0
      · rw [if_pos w]; omega
      · rw [if_neg w]
        have := ds9_le hh B (i := wst (SP9 h) (ds9 h) c - 1) (by omega)
        omega
    have mc : ds9 h c < mst (SP9 h) (ds9 h) c ↔ ¬ (wst (SP9 h) (ds9 h) c = 0 ∨ ds9 h (wst (SP9 h) (ds9 h) c - 1) < ds9 h c) := by
      unfold mst
      by_cases w : wst (SP9 h) (ds9 h) c = 0
      · rw [if_pos w]
        constructor
        · intro q; omega
        · intro q; exact absurd (.inl w) q
      · rw [if_neg w]
        constructor
        · intro q
          rintro (q1 | q1)
          · exact w q1
          · omega
        · intro q
          have : ¬ ds9 h (wst (SP9 h) (ds9 h) c - 1) < ds9 h c := fun k => q (.inr k)
          omega
    by_cases y : ds9 h c < mst (SP9 h) (ds9 h) c
    · refine E_icT rfl (decide_eq_true ((pI_ltp (by omega) m9).mpr y)) ?_
      exact stay (fun q => mc.mp y q.2)
    · refine E_icF rfl (decide_eq_false (fun q => y ((pI_ltp (by omega) m9).mp q))) ?_
      have yy : wst (SP9 h) (ds9 h) c = 0 ∨ ds9 h (wst (SP9 h) (ds9 h) c - 1) < ds9 h c := Classical.byContradiction (fun q => y (mc.mpr q))
      rw [if_pos ⟨z, yy⟩] at es
      have em : mst (SP9 h) (ds9 h) (c + 1) = ds9 h c + 1 := by unfold mst; rw [es, if_neg (by omega), show c + 1 - 1 = c by omega]
      refine E_al rfl L0 ?_
      refine E_il rfl L3 ?_
      refine E_call rfl (Sp_le (by omega) (sp_stepsInLot (d := d) hh B T0 hc)) (chkO (a := 0) hh2 rfl rfl rfl rfl (by show 0 ≤ 8; decide)) (fun h4 r4 => ?_)
      rintro ⟨e4, f4⟩
      rw [e4, f4]
      refine E_is rfl (fun lv1 K2 kp => ?_)
      refine E_il rfl (kp 3 _ (by decide) rfl L3) ?_
      refine E_is rfl (fun lv2 K1 kp2 => ?_)
      exact nx lv2 (kp2 0 _ (by decide) rfl (kp 0 _ (by decide) rfl L0)) (by rw [es]; exact K1) (by rw [em]; exact kp2 2 _ (by decide) rfl K2) (kp2 3 _ (by decide) rfl (kp 3 _ (by decide) rfl L3))
theorem ws9_loop (hh : HH h) (B : B9 h) (T : LV9 h h2) (j : Nat) : ∀ {c : Nat} (lv : List (Nat × Value)), c + j = N9 h → pm_get lv 0 = some (.ref 77) → pm_get lv 1 = some (.int (pI (wst (SP9 h) (ds9 h) c))) → pm_get lv 2 = some (.int (nJ c)) → Ends (pm_at tX9_worst) (pm_Rt pm_P (d + 6)) (23, lv, [], h2, 0, 0) (fun h' r => r = some (.int (pI (wst (SP9 h) (ds9 h) (N9 h))))) := by
  have T0 := T
  obtain ⟨hh2, u0, u3, t1, t2, t3, t4⟩ := T
  obtain ⟨l3, p8, n8⟩ := g9s hh
  induction j with
  | zero =>
    intro c lv hj L0 L1 L2
    refine E_il rfl L2 ?_
    refine E_al rfl L0 ?_
    refine E_call rfl (Sp_le (by omega) (sp_cars (d := d) hh2)) (chk77 hh2 rfl rfl (by show 1 ≤ 8; decide)) (fun h1 r1 => ?_)
    rintro ⟨e1, f1, -⟩
    rw [e1, f1, u3]
    refine E_icT rfl (decide_eq_true ((nJ_le (by omega) (by omega)).mpr (by omega))) ?_
    refine E_il rfl L1 ?_
    have e : c = N9 h := by omega
    exact E_rti rfl (by rw [e])
  | succ j ih =>
    intro c lv hj L0 L1 L2
    have hc : c < N9 h := by omega
    have s8 := SP9_le B hc
    have d8 := ds9_le hh B hc
    have wl := wst_le (SP9 h) (ds9 h) c
    refine E_il rfl L2 ?_
    refine E_al rfl L0 ?_
    refine E_call rfl (Sp_le (by omega) (sp_cars (d := d) hh2)) (chk77 hh2 rfl rfl (by show 1 ≤ 8; decide)) (fun h1 r1 => ?_)
    rintro ⟨e1, f1, -⟩
    rw [e1, f1, u3]
    refine E_icF rfl (decide_eq_false (fun z => absurd ((nJ_le (by omega) (by omega)).mp z) (by omega))) ?_
    refine E_al rfl L0 ?_
    refine E_gr rfl hh2 (q := 91) rfl ?_
    refine E_il rfl L2 ?_
    refine E_ial rfl hh2 rfl (by omega) (by decide) (t3 c hc) ?_
    refine E_c rfl ?_
    have nx : ∀ (lv : List (Nat × Value)), pm_get lv 0 = some (.ref 77) → pm_get lv 1 = some (.int (pI (wst (SP9 h) (ds9 h) (c + 1)))) → pm_get lv 2 = some (.int (nJ c)) → Ends (pm_at tX9_worst) (pm_Rt pm_P (d + 6)) (61, lv, [], h2, 0, 0) (fun h' r => r = some (.int (pI (wst (SP9 h) (ds9 h) (N9 h))))) := by
      intro lv M0 M1 M2
      refine E_inc rfl M2 (nJ_inc _) (fun lv2 K2 kp2 => ?_)
      refine E_goto rfl ?_
      exact ih lv2 (by omega) (kp2 0 _ (by decide) rfl M0) (kp2 1 _ (by decide) rfl M1) K2
    have es : wst (SP9 h) (ds9 h) (c + 1) = if ¬ SP9 h c = 0 ∧ (wst (SP9 h) (ds9 h) c = 0 ∨ ds9 h (wst (SP9 h) (ds9 h) c - 1) < ds9 h c) then c + 1 else wst (SP9 h) (ds9 h) c := rfl
    by_cases z : SP9 h c = 0
    · refine E_icT rfl (decide_eq_true ((pO_n1 (by omega)).mpr z)) ?_
      rw [if_neg (fun q => q.1 z)] at es
      exact nx lv L0 (by rw [es]; exact L1) L2
    refine E_icF rfl (decide_eq_false (fun q => z ((pO_n1 (by omega)).mp q))) ?_
    refine E_il rfl L1 ?_
    refine E_c rfl ?_
    have set : (wst (SP9 h) (ds9 h) c = 0 ∨ ds9 h (wst (SP9 h) (ds9 h) c - 1) < ds9 h c) → Ends (pm_at tX9_worst) (pm_Rt pm_P (d + 6)) (59, lv, [], h2, 0, 0) (fun h' r => r = some (.int (pI (wst (SP9 h) (ds9 h) (N9 h))))) := by
      intro q
      rw [if_pos ⟨z, q⟩] at es
      refine E_il rfl L2 ?_
      refine E_is rfl (fun lv1 K1 kp => ?_)
      exact nx lv1 (kp 0 _ (by decide) rfl L0) (by rw [es]; exact K1) (kp 2 _ (by decide) rfl L2)
    by_cases w : wst (SP9 h) (ds9 h) c = 0
    · refine E_icT rfl (decide_eq_true ((pI_n1 (by omega)).mpr w)) ?_
      exact set (.inl w)
    refine E_icF rfl (decide_eq_false (fun q => w ((pI_n1 (by omega)).mp q))) ?_
    have hw : wst (SP9 h) (ds9 h) c - 1 < N9 h := by omega
    have dw := ds9_le hh B hw
    have ep : pI (wst (SP9 h) (ds9 h) c) = nJ (wst (SP9 h) (ds9 h) c - 1) := by
      rw [← pI_of]; exact nJ_sub (by omega)
    refine E_al rfl L0 ?_
    refine E_il rfl L2 ?_
    refine E_call rfl (Sp_le (by omega) (sp_stepsOf (d := d) hh B T0 hc z)) (chk77 hh2 rfl rfl (by show 0 ≤ 8; decide)) (fun h3 r3 => ?_)
    rintro ⟨e3, f3⟩
    rw [e3, f3]
    refine E_al rfl L0 ?_
    refine E_il rfl (show pm_get lv 1 = some (.int (nJ (wst (SP9 h) (ds9 h) c - 1))) by rw [← ep]; exact L1) ?_
    refine E_call rfl (Sp_le (by omega) (sp_stepsOf (d := d) hh B T0 hw (wst_S _ _ c w))) (chk77 hh2 rfl rfl (by show 1 ≤ 8; decide)) (fun h4 r4 => ?_)
    rintro ⟨e4, f4⟩
    rw [e4, f4]
    by_cases y : ds9 h c ≤ ds9 h (wst (SP9 h) (ds9 h) c - 1)
    · refine E_icT rfl (decide_eq_true ((nJ_le (by omega) (by omega)).mpr y)) ?_
      rw [if_neg (fun q => by rcases q.2 with k | k; exact w k; omega)] at es
      exact nx lv L0 (by rw [es]; exact L1) L2
    · refine E_icF rfl (decide_eq_false (fun q => y ((nJ_le (by omega) (by omega)).mp q))) ?_
      exact set (.inr (by omega))
end WST
section Q_worst
variable {h : pm_H} {d : Nat}
theorem c8_worst {h h2 : pm_H} {lv : List (Nat × Value)} (hh : HH h) (B : B9 h) (T : LT9 h h2) (L0 : pm_get lv 0 = some (.ref 0)) : Ends (pm_at tX8_worst) (pm_Rt pm_P (d + 5)) (14, lv, [], h2, 0, 0) (fun h' r => K9 h h' ∧ r = some (.int (pI (wst (SP9 h) (ds9 h) (N9 h))))) := by
  have T0 := T
  obtain ⟨hh2, f, t1, t2, t3, t4, t5, t6, t7⟩ := T
  have kk : K9 h h2 := K9_fr f rfl rfl rfl rfl
  obtain ⟨l3, p8, n8⟩ := g9s hh
  refine E_c rfl ?_
  refine E_is rfl (fun lv1 K1 kp => ?_)
  refine E_c rfl ?_
  refine E_is rfl (fun lv2 K2 kp2 => ?_)
  refine E_ci 0 rfl (by decide) ?_
  refine E_is rfl (fun lv3 K3 kp3 => ?_)
  refine Ends_mono ?_ (ws8_loop hh B T0 (N9 h) (c := 0) lv3 (by omega) (kp3 0 _ (by decide) rfl (kp2 0 _ (by decide) rfl (kp 0 _ (by decide) rfl L0))) (kp3 1 _ (by decide) rfl (kp2 1 _ (by decide) rfl K1)) (kp3 2 _ (by decide) rfl K2) K3)
  rintro h' r ⟨rfl, e⟩
  exact ⟨kk, e⟩
theorem sp_worst8 (hh : HH h) (R : QRE h) : Sp (d + 6) 201 h [.ref 0] (fun h' r => K9 h h' ∧ r = some (.int (qv h (pI (wst (SP9 h) (ds9 h) (N9 h)))))) := by
  refine Sp_of aiX8_worst rfl rfl rfl ?_
  have L0 : pm_get (lv_args 0 [.ref 0]) 0 = some (.ref 0) := rfl
  generalize lv_args 0 [.ref 0] = lv at L0 ⊢
  have k0 : K9 h h := ⟨fun _ => rfl, fun _ => rfl, fun _ => rfl, fun _ => rfl⟩
  refine E_al rfl L0 ?_
  refine E_call rfl (Sp_le (by omega) (sp_hasStreet8 (d := d) hh)) (chkO (a := 0) hh rfl rfl rfl rfl (by show 0 ≤ 8; decide)) (fun h1 r1 => ?_)
  rintro ⟨e1, f1⟩
  rw [e1, f1]
  by_cases b : 0 < gn h 15 0
  · refine E_ifT rfl (by rw [zb_T b]; rfl) ?_
    rw [show qv h (pI (wst (SP9 h) (ds9 h) (N9 h))) = pI (wst (SP9 h) (ds9 h) (N9 h)) from if_pos ((st_eq R).mp b)]
    refine E_al rfl L0 ?_
    refine E_call rfl (sp_parkAllX (d := d) hh R) (chkO (a := 0) hh rfl rfl rfl rfl (by show 0 ≤ 8; decide)) (fun h2 r2 => ?_)
    rintro ⟨e2, T⟩
    rw [e2]
    exact c8_worst hh (B9_of R) T L0
  · refine E_ifF rfl (by rw [zb_F b]; rfl) ?_
    rw [show qv h (pI (wst (SP9 h) (ds9 h) (N9 h))) = -2 from if_neg (fun q => b ((st_eq R).mpr q))]
    refine E_c rfl ?_
    exact E_rti rfl ⟨k0, rfl⟩
theorem r9_worst {h h2 : pm_H} {lv : List (Nat × Value)} (hh : HH h) (B : B9 h) (T : LV9 h h2) (L0 : pm_get lv 0 = some (.ref 77)) : Ends (pm_at tX9_worst) (pm_Rt pm_P (d + 6)) (19, lv, [], h2, 0, 0) (fun h' r => r = some (.int (pI (wst (SP9 h) (ds9 h) (N9 h))))) := by
  have T0 := T
  obtain ⟨hh2, u0, u3, t1, t2, t3, t4⟩ := T
  obtain ⟨l3, p8, n8⟩ := g9s hh
  refine E_c rfl ?_
  refine E_is rfl (fun lv1 K1 kp => ?_)
  refine E_ci 0 rfl (by decide) ?_
  refine E_is rfl (fun lv2 K2 kp2 => ?_)
  exact ws9_loop hh B T0 (N9 h) (c := 0) lv2 (by omega) (kp2 0 _ (by decide) rfl (kp 0 _ (by decide) rfl L0)) (kp2 1 _ (by decide) rfl K1) K2
theorem sp_worst9 (hh : HH h) (V : V9 h) (B : B9 h) : Sp (d + 7) 376 h [.ref 77] (fun h' r => r = some (.int (qv h (pI (wst (SP9 h) (ds9 h) (N9 h)))))) := by
  refine Sp_of aiX9_worst rfl rfl rfl ?_
  have L0 : pm_get (lv_args 0 [.ref 77]) 0 = some (.ref 77) := rfl
  generalize lv_args 0 [.ref 77] = lv at L0 ⊢
  refine E_al rfl L0 ?_
  refine E_ci 0 rfl (by decide) ?_
  refine E_pf rfl hh rfl ?_
  have hg : HH (pt h 77 0 (nJ 0)) := HH_ptn hh rfl (by omega) (by omega) (by omega)
  have k : K9 h (pt h 77 0 (nJ 0)) := K9_77
  generalize pt h 77 0 (nJ 0) = g at hg k ⊢
  refine E_al rfl L0 ?_
  refine E_call rfl (Sp_le (by omega) (sp_isStreet (d := d) hg)) (chk77 hg rfl rfl (by show 0 ≤ 8; decide)) (fun h1 r1 => ?_)
  rintro ⟨e1, f1⟩
  rw [e1, f1]
  rw [k.2.2.2]
  by_cases b : 0 < (gi h 83 0).toInt
  · refine E_ifT rfl (by rw [zb_T b]; rfl) ?_
    rw [show qv h (pI (wst (SP9 h) (ds9 h) (N9 h))) = pI (wst (SP9 h) (ds9 h) (N9 h)) from if_pos (b)]
    refine E_al rfl L0 ?_
    refine E_call rfl (Sp_le (by omega) (sp_laysNowX (d := d) hg (V9_K k V) (B9_K k B))) (chk77 hg rfl rfl (by show 0 ≤ 8; decide)) (fun h2 r2 => ?_)
    rintro ⟨e2, T0⟩
    rw [e2]
    have T := LV9_of k T0
    exact r9_worst hh B T L0
  · refine E_ifF rfl (by rw [zb_F b]; rfl) ?_
    rw [show qv h (pI (wst (SP9 h) (ds9 h) (N9 h))) = -2 from if_neg (b)]
    refine E_c rfl ?_
    exact E_rti rfl rfl
end Q_worst
noncomputable def half_worst (h : pm_H) (r : Int32) : Prop := QRE h ∧ r = qv h (pI (wst (SP9 h) (ds9 h) (N9 h)))
theorem g8_worst {h : pm_H} (I : IVQ h) : Sp 100 201 h [.ref 0] (fun h' v => IVh h' ∧ ∃ r : Int32, v = some (.int r) ∧ half_worst h' r) := by
  refine Sp_le (by omega) (Sp_mono ?_ (Sp_and (top_all (as := [.ref 0]) q174 (by decide +kernel) I.1 ⟨rfl, trivial⟩) (sp_worst8 (d := 0) I.1.1 I.2)))
  rintro h' v ⟨⟨s1, s2, -⟩, k, rfl⟩
  exact ⟨s1, _, rfl, QRE_fr s2 rfl I.2, by rw [qv_K k, SP9_K k, ds9_K k, N9_K k]⟩
theorem g9_worst {h : pm_H} {r : Int32} (I : IVh h) (J : half_worst h r) : Sp 100 376 h [.ref 77] (fun h' v => IVQ h' ∧ v = some (.int r)) := by
  obtain ⟨J1, rfl⟩ := J
  refine Sp_le (by omega) (Sp_mono ?_ (Sp_and (top_all (as := [.ref 77]) q175 (by decide +kernel) I ⟨rfl, trivial⟩) (sp_worst9 (d := 0) I.1 (V9_of J1) (B9_of J1))))
  rintro h' v ⟨⟨s1, s2, -⟩, rfl⟩
  exact ⟨⟨s1, QRE_fr s2 rfl J1⟩, rfl⟩
