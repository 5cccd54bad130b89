/-! steps of both (written by gen_u68.py; wants u67b) -/
section Q_steps
variable {h : pm_H} {d : Nat}
theorem c8_steps {h h2 : pm_H} {lv : List (Nat × Value)} {c : Nat} (hh : HH h) (B : B9 h) (T : LT9 h h2) (hc : c < N9 h) (L0 : pm_get lv 0 = some (.ref 0)) (L1 : pm_get lv 1 = some (.int (nJ c))) : Ends (pm_at tX8_steps) (pm_Rt pm_P (d + 5)) (15, lv, [], h2, 0, 0) (fun h' r => K9 h h' ∧ r = some (.int (if SP9 h c = 0 then -1 else nJ (ds9 h c)))) := by
  have T0 := T
  obtain ⟨hh2, f, t1, t2, t3, t4, t5, t6, t7⟩ := T
  have kk : K9 h h2 := K9_fr f rfl rfl rfl rfl
  obtain ⟨l3, p8, n8⟩ := g9s hh
  refine E_al rfl L0 ?_
  refine E_ogr (q := 62) rfl hh2 rfl rfl ?_
  refine E_ogr (q := 63) rfl hh2 rfl rfl ?_
  refine E_il rfl L1 ?_
  refine E_ial rfl hh2 rfl (by omega) (by decide) (t4 c hc) ?_
  have s8 := SP9_le B hc
  by_cases z : SP9 h c = 0
  · refine E_ifF rfl (decide_eq_false (fun q => q ((nJ_eq0 (by omega)).mpr z))) ?_
    refine E_c rfl ?_
    refine E_goto rfl ?_
    exact E_rti rfl ⟨kk, by rw [if_pos z]⟩
  · refine E_ifT rfl (decide_eq_true (fun q => z ((nJ_eq0 (by omega)).mp q))) ?_
    refine E_al rfl L0 ?_
    refine E_il rfl L1 ?_
    refine E_call rfl (Sp_le (by omega) (sp_stepsInLot (d := d) hh B T0 hc)) (chkO (a := 0) hh2 rfl rfl rfl rfl (by show 0 ≤ 8; decide)) (fun h3 r3 => ?_)
    rintro ⟨e3, f3⟩
    rw [e3, f3]
    exact E_rti rfl ⟨kk, by rw [if_neg z]⟩
theorem sp_steps8 {x : Int32} (hh : HH h) (R : QRE h) : Sp (d + 6) 183 h [.ref 0, .int x] (fun h' r => K9 h h' ∧ r = some (.int (cq h (fun i => if SP9 h i = 0 then -1 else nJ (ds9 h i)) x))) := by
  refine Sp_of aiX8_steps rfl rfl rfl ?_
  have L0 : pm_get (lv_args 0 [.ref 0, .int x]) 0 = some (.ref 0) := rfl
  have L1 : pm_get (lv_args 0 [.ref 0, .int x]) 1 = some (.int x) := rfl
  generalize lv_args 0 [.ref 0, .int x] = lv at L0 L1 ⊢
  have k0 : K9 h h := ⟨fun _ => rfl, fun _ => rfl, fun _ => rfl, fun _ => rfl⟩
  refine E_al rfl L0 ?_
  refine E_il rfl L1 ?_
  refine E_call rfl (Sp_le (by omega) (sp_hasCar8 (d := d) hh)) (chkO (a := 0) hh rfl rfl rfl rfl (by show 0 ≤ 8; decide)) (fun h1 r1 => ?_)
  rintro ⟨e1, f1⟩
  rw [e1, f1]
  rw [show gn h 15 4 = N9 h from gn_eq R.2.1.1.2.2.1]
  by_cases b : 0 ≤ x.toInt ∧ x.toInt < (N9 h : Int)
  · refine E_ifT rfl (by rw [zb_T b]; rfl) ?_
    rw [show cq h (fun i => if SP9 h i = 0 then -1 else nJ (ds9 h i)) x = (fun i => if SP9 h i = 0 then -1 else nJ (ds9 h i)) x.toInt.toNat from if_pos (b)]
    refine E_al rfl L0 ?_
    refine E_call rfl (sp_parkAllX (d := d) hh R) (chkO (a := 0) hh rfl rfl rfl rfl (by show 0 ≤ 8; decide)) (fun h2 r2 => ?_)
    rintro ⟨e2, T⟩
    rw [e2]
    obtain ⟨c, hc, rfl⟩ : ∃ c, c < 2147483648 ∧ x = nJ c := ⟨x.toInt.toNat, by have := x.toInt_lt; omega, nJ_of (by omega)⟩
    have xc := nJ_toInt hc
    rw [show (nJ c).toInt.toNat = c by omega]
    exact c8_steps hh (B9_of R) T (by omega) L0 L1
  · refine E_ifF rfl (by rw [zb_F b]; rfl) ?_
    rw [show cq h (fun i => if SP9 h i = 0 then -1 else nJ (ds9 h i)) x = -2 from if_neg (b)]
    refine E_c rfl ?_
    exact E_rti rfl ⟨k0, rfl⟩
theorem r9_steps {h h2 : pm_H} {lv : List (Nat × Value)} {c : Nat} (hh : HH h) (B : B9 h) (T : LV9 h h2) (hc : c < N9 h) (L0 : pm_get lv 0 = some (.ref 77)) (L1 : pm_get lv 1 = some (.int (nJ c))) : Ends (pm_at tX9_steps) (pm_Rt pm_P (d + 6)) (21, lv, [], h2, 0, 0) (fun h' r => r = some (.int (if SP9 h c = 0 then -1 else nJ (ds9 h c)))) := by
  have T0 := T
  obtain ⟨hh2, u0, u3, t1, t2, t3, t4⟩ := T
  obtain ⟨l3, p8, n8⟩ := g9s hh
  refine E_al rfl L0 ?_
  refine E_gr rfl hh2 (q := 91) rfl ?_
  refine E_il rfl L1 ?_
  refine E_ial rfl hh2 rfl (by omega) (by decide) (t3 c hc) ?_
  refine E_c rfl ?_
  have s8 := SP9_le B hc
  by_cases z : SP9 h c = 0
  · refine E_icF rfl (decide_eq_false (fun q => q ((pO_n1 (by omega)).mpr z))) ?_
    refine E_c rfl ?_
    refine E_goto rfl ?_
    exact E_rti rfl (by rw [if_pos z])
  · refine E_icT rfl (decide_eq_true (fun q => z ((pO_n1 (by omega)).mp q))) ?_
    refine E_al rfl L0 ?_
    refine E_il rfl L1 ?_
    refine E_call rfl (Sp_le (by omega) (sp_stepsOf (d := d) hh B T0 hc z)) (chk77 hh2 rfl rfl (by show 0 ≤ 8; decide)) (fun h3 r3 => ?_)
    rintro ⟨e3, f3⟩
    rw [e3, f3]
    exact E_rti rfl (by rw [if_neg z])
theorem sp_steps9 {x : Int32} (hh : HH h) (V : V9 h) (B : B9 h) : Sp (d + 7) 352 h [.ref 77, .int x] (fun h' r => r = some (.int (cq h (fun i => if SP9 h i = 0 then -1 else nJ (ds9 h i)) x))) := by
  refine Sp_of aiX9_steps rfl rfl rfl ?_
  have L0 : pm_get (lv_args 0 [.ref 77, .int x]) 0 = some (.ref 77) := rfl
  have L1 : pm_get (lv_args 0 [.ref 77, .int x]) 1 = some (.int x) := rfl
  generalize lv_args 0 [.ref 77, .int x] = lv at L0 L1 ⊢
  refine E_al rfl L0 ?_
  refine E_ci 0 rfl (by decide) ?_
  refine E_pf rfl hh rfl ?_
  have hg : HH (pt h 77 0 (nJ 0)) := HH_ptn hh rfl (by omega) (by omega) (by omega)
  have k : K9 h (pt h 77 0 (nJ 0)) := K9_77
  generalize pt h 77 0 (nJ 0) = g at hg k ⊢
  refine E_al rfl L0 ?_
  refine E_il rfl L1 ?_
  refine E_i2l rfl ?_
  refine E_call rfl (Sp_le (by omega) (sp_isCar (d := d) hg)) (chk77 hg rfl rfl (by show 0 ≤ 8; decide)) (fun h1 r1 => ?_)
  rintro ⟨e1, f1⟩
  rw [e1, f1]
  rw [show gn g 84 3 = N9 h from N9_K k]
  by_cases b : 0 ≤ x.toInt ∧ x.toInt ≤ (N9 h : Int) - 1
  · refine E_ifT rfl (by rw [zb_T b]; rfl) ?_
    rw [show cq h (fun i => if SP9 h i = 0 then -1 else nJ (ds9 h i)) x = (fun i => if SP9 h i = 0 then -1 else nJ (ds9 h i)) x.toInt.toNat from if_pos (⟨b.1, by omega⟩)]
    refine E_al rfl L0 ?_
    refine E_call rfl (Sp_le (by omega) (sp_laysNowX (d := d) hg (V9_K k V) (B9_K k B))) (chk77 hg rfl rfl (by show 0 ≤ 8; decide)) (fun h2 r2 => ?_)
    rintro ⟨e2, T0⟩
    rw [e2]
    have T := LV9_of k T0
    obtain ⟨c, hc, rfl⟩ : ∃ c, c < 2147483648 ∧ x = nJ c := ⟨x.toInt.toNat, by have := x.toInt_lt; omega, nJ_of (by omega)⟩
    have xc := nJ_toInt hc
    rw [show (nJ c).toInt.toNat = c by omega]
    exact r9_steps hh B T (by omega) L0 L1
  · refine E_ifF rfl (by rw [zb_F b]; rfl) ?_
    rw [show cq h (fun i => if SP9 h i = 0 then -1 else nJ (ds9 h i)) x = -2 from if_neg (fun q => b ⟨q.1, by omega⟩)]
    refine E_c rfl ?_
    exact E_rti rfl rfl
end Q_steps
noncomputable def half_steps (h : pm_H) (r x : Int32) : Prop := QRE h ∧ r = cq h (fun i => if SP9 h i = 0 then -1 else nJ (ds9 h i)) x
theorem g8_steps {h : pm_H} {x : Int32} (I : IVQ h) : Sp 100 183 h [.ref 0, .int x] (fun h' v => IVh h' ∧ ∃ r : Int32, v = some (.int r) ∧ half_steps h' r x) := by
  refine Sp_le (by omega) (Sp_mono ?_ (Sp_and (top_all (as := [.ref 0, .int x]) q154 (by decide +kernel) I.1 ⟨rfl, aI _, trivial⟩) (sp_steps8 (d := 0) I.1.1 I.2)))
  rintro h' v ⟨⟨s1, s2, -⟩, k, rfl⟩
  exact ⟨s1, _, rfl, QRE_fr s2 rfl I.2, by rw [cq_K k, SP9_K k, ds9_K k]⟩
theorem g9_steps {h : pm_H} {r x : Int32} (I : IVh h) (J : half_steps h r x) : Sp 100 352 h [.ref 77, .int x] (fun h' v => IVQ h' ∧ v = some (.int r)) := by
  obtain ⟨J1, rfl⟩ := J
  refine Sp_le (by omega) (Sp_mono ?_ (Sp_and (top_all (as := [.ref 77, .int x]) q157 (by decide +kernel) I ⟨rfl, aI _, trivial⟩) (sp_steps9 (d := 0) I.1 (V9_of J1) (B9_of J1))))
  rintro h' v ⟨⟨s1, s2, -⟩, rfl⟩
  exact ⟨⟨s1, QRE_fr s2 rfl J1⟩, rfl⟩
