/-! the relation of class and reference (written by gen_t27.py) -/
noncomputable def KP (h : pm_H) : Prop := ∀ j, j < 3 → gi h 52 j = gi h 88 j
noncomputable def REL (h : pm_H) : Prop := TP h ∧ KP h
noncomputable def IVR (h : pm_H) : Prop := IVh h ∧ REL h
noncomputable def kpB (M : List Rng) : Bool := M.all (fun r => !(Nat.beq r.1 52)) && M.all (fun r => !(Nat.beq r.1 88))
noncomputable def tpB (M : List Rng) : Bool := (!(rg_in M 1 1) && !(rg_in M 77 6)) && (M.all (fun r => !(Nat.beq r.1 2)) && M.all (fun r => !(Nat.beq r.1 82)))
noncomputable def relB (M : List Rng) : Bool := tpB M && kpB M
theorem KP_fr {M : List Rng} {h h' : pm_H} (hf : fr_g M h h') (hb : kpB M = true) (K : KP h) : KP h' := by
  unfold kpB at hb
  rw [Bool.and_eq_true] at hb
  intro j hj
  rw [fr_gi hf (rg_no hb.1 j), fr_gi hf (rg_no hb.2 j)]
  exact K j hj
theorem TP_frB {M : List Rng} {h h' : pm_H} (hf : fr_g M h h') (hb : tpB M = true) (T : TP h) : TP h' := by
  unfold tpB at hb
  rw [Bool.and_eq_true, Bool.and_eq_true, Bool.and_eq_true, Bool.not_eq_true', Bool.not_eq_true'] at hb
  exact TP_fr hf hb.1.1 hb.1.2 hb.2.1 hb.2.2 T
theorem REL_fr {M : List Rng} {h h' : pm_H} (hf : fr_g M h h') (hb : relB M = true) (R : REL h) : REL h' := by
  unfold relB at hb
  rw [Bool.and_eq_true] at hb
  exact ⟨TP_frB hf hb.1 R.1, KP_fr hf hb.2 R.2⟩
theorem tR_int {d y : Nat} {h : pm_H} {as : List Value} {M : List Rng} (hd : Nat.ble d 100 = true) (hM : relB M = true) (R : REL h) (k : Sp d y h as (fun h' r => IVh h' ∧ fr_g M h h' ∧ ∃ x : Int32, r = some (.int x))) : Sp 100 y h as (fun h' r => IVR h' ∧ ∃ x : Int32, r = some (.int x)) :=
  Sp_le (Nat.le_of_ble_eq_true hd) (Sp_mono (fun _ _ q => ⟨⟨q.1, REL_fr q.2.1 hM R⟩, q.2.2⟩) k)
theorem tR_lng {d y : Nat} {h : pm_H} {as : List Value} {M : List Rng} (hd : Nat.ble d 100 = true) (hM : relB M = true) (R : REL h) (k : Sp d y h as (fun h' r => IVh h' ∧ fr_g M h h' ∧ ∃ x : Int64, r = some (.long x))) : Sp 100 y h as (fun h' r => IVR h' ∧ ∃ x : Int64, r = some (.long x)) :=
  Sp_le (Nat.le_of_ble_eq_true hd) (Sp_mono (fun _ _ q => ⟨⟨q.1, REL_fr q.2.1 hM R⟩, q.2.2⟩) k)
/-- feed: between the class's call and the reference's -/
noncomputable def half_feed (h : pm_H) (x a b c d e : Int32) : Prop := KP h ∧ ((gn h 77 6 + 20 ≤ 500 ∧ x = nJ (gn h 77 6 + 20) ∧ gn h 1 1 = gn h 77 6 + 20 ∧ (∀ j, j < gn h 77 6 → gi h 2 j = gi h 82 j) ∧ ∀ i, i < 20 → gi h 2 (gn h 77 6 + i) = b20 a b c d e i) ∨ (¬ gn h 77 6 + 20 ≤ 500 ∧ x = -1 ∧ TP h))
theorem c8_feed {h : pm_H} {a b c d e : Int32} (I : IVR h) : Sp 100 106 h [.ref 0, .int a, .int b, .int c, .int d, .int e] (fun h' r => IVh h' ∧ ∃ x : Int32, r = some (.int x) ∧ half_feed h' x a b c d e) := by
  refine Sp_le (by omega) (Sp_mono ?_ (Sp_and (top_all (as := [.ref 0, .int a, .int b, .int c, .int d, .int e]) q1 (by decide +kernel) I.1 ⟨rfl, aI _, aI _, aI _, aI _, aI _, trivial⟩) (sp_feed8 (dd := 0) I.1.1)))
  rintro h' r ⟨⟨s1, s2, -⟩, s3⟩
  obtain ⟨T1, T2⟩ := I.2.1
  have e6 : gn h' 77 6 = gn h 77 6 := fr_gn s2 rfl
  have k1 : KP h' := KP_fr s2 rfl I.2.2
  rcases s3 with ⟨n1, e1, rfl⟩ | ⟨n1, e1, rfl⟩
  · obtain ⟨p1, p2, p3, p4, p5⟩ := rd20_ok (v1 := a) (v2 := b) (v3 := c) (v4 := d) (v5 := e) isT8 I.1.1 n1
    rw [← e1] at p2 p3 p4
    refine ⟨s1, _, rfl, k1, .inl ⟨by omega, by rw [e6, T1], by omega, fun j hj => ?_, fun i hi => ?_⟩⟩
    · rw [p3 j (by omega), fr_gi s2 (rg_no rfl j)]
      exact T2 j (by omega)
    · rw [e6, ← T1]
      exact p4 i hi
  · exact ⟨s1, _, rfl, k1, .inr ⟨by omega, rfl, by rw [e1]; exact I.2.1⟩⟩
theorem c9_feed {h : pm_H} {x a b c d e : Int32} (I : IVh h) (J : half_feed h x a b c d e) : Sp 100 247 h [.ref 77, .int a, .int b, .int c, .int d, .int e] (fun h' r => IVR h' ∧ r = some (.int x)) := by
  refine Sp_le (by omega) (Sp_mono ?_ (Sp_and (top_all (as := [.ref 77, .int a, .int b, .int c, .int d, .int e]) q7 (by decide +kernel) I ⟨rfl, aI _, aI _, aI _, aI _, aI _, trivial⟩) (sp_feed9 (dd := 0) I.1)))
  rintro h' r ⟨⟨s1, s2, -⟩, s3⟩
  obtain ⟨k0, J⟩ := J
  have k1 : KP h' := KP_fr s2 rfl k0
  have e11 : gn h' 1 1 = gn h 1 1 := fr_gn s2 rfl
  rcases s3 with ⟨n1, e1, rfl⟩ | ⟨n1, e1, rfl⟩
  · rcases J with ⟨j1, rfl, j3, j4, j5⟩ | ⟨j1, -, -⟩
    · have hb : HH (pt h 77 0 (nJ 0)) := HH_ptn I.1 rfl (by omega) (by omega) (by omega)
      have eb : gn (pt h 77 0 (nJ 0)) 77 6 = gn h 77 6 := gn_ne (by omega)
      obtain ⟨p1, p2, p3, p4, p5⟩ := rd20_ok (v1 := a) (v2 := b) (v3 := c) (v4 := d) (v5 := e) isT9 hb (by omega)
      rw [← e1] at p2 p3 p4
      refine ⟨⟨s1, ⟨by omega, fun j hj => ?_⟩, k1⟩, rfl⟩
      rw [e11] at hj
      rw [fr_gi s2 (rg_no rfl j)]
      by_cases hj2 : j < gn h 77 6
      · rw [j4 j hj2, p3 j (by omega)]
        exact (gi_ne (by omega)).symm
      · have h5 := j5 (j - gn h 77 6) (by omega)
        have h4 := p4 (j - gn h 77 6) (by omega)
        rw [eb] at h4
        rw [show gn h 77 6 + (j - gn h 77 6) = j by omega] at h5 h4
        rw [h5, h4]
    · exact absurd n1 j1
  · rcases J with ⟨j1, -⟩ | ⟨j1, rfl, j3⟩
    · exact absurd j1 n1
    · exact ⟨⟨s1, TP_fr (M := [(77, 0, 0)]) (by rw [e1]; exact fr_ptr (l := 0) (u := 0) rfl (by omega) (by omega) (fr_rf _ _)) rfl rfl rfl rfl j3, k1⟩, rfl⟩
noncomputable def half_end (h : pm_H) (x v : Int32) : Prop := KP h ∧ (((0 ≤ v.toInt ∧ v.toInt ≤ ((gn h 77 6 : Nat) : Int)) ∧ x = v ∧ gn h 1 1 = v.toInt.toNat ∧ ∀ j, j < gn h 77 6 → gi h 2 j = gi h 82 j) ∨ (¬ (0 ≤ v.toInt ∧ v.toInt ≤ ((gn h 77 6 : Nat) : Int)) ∧ x = -1 ∧ TP h))
theorem c8_end {h : pm_H} {v : Int32} (I : IVR h) : Sp 100 101 h [.ref 0, .int v] (fun h' r => IVh h' ∧ ∃ x : Int32, r = some (.int x) ∧ half_end h' x v) := by
  refine Sp_le (by omega) (Sp_mono ?_ (Sp_and (top_all (as := [.ref 0, .int v]) q8 (by decide +kernel) I.1 ⟨rfl, aI _, trivial⟩) (sp_end8 (d := 0) I.1.1)))
  rintro h' r ⟨⟨s1, s2, -⟩, s3⟩
  obtain ⟨T1, T2⟩ := I.2.1
  have e6 : gn h' 77 6 = gn h 77 6 := fr_gn s2 rfl
  have k1 : KP h' := KP_fr s2 rfl I.2.2
  have hn5 : gn h 1 1 ≤ 500 := gn_hi I.1.1 rfl (by decide)
  rcases s3 with ⟨n1, e1, rfl⟩ | ⟨n1, e1, rfl⟩
  · refine ⟨s1, _, rfl, k1, .inl ⟨⟨n1.1, by have := n1.2; omega⟩, rfl, ?_, fun j hj => ?_⟩⟩
    · unfold gn
      rw [e1, gi_pt I.1.1 (q := (0, 500)) rfl n1.1 (by have := n1.2; show _ ≤ (500 : Int); omega)]
    · rw [fr_gi s2 (rg_no rfl j), fr_gi s2 (rg_no rfl j)]
      exact T2 j (by omega)
  · refine ⟨s1, _, rfl, k1, .inr ⟨fun q => n1 ⟨q.1, by have := q.2; omega⟩, rfl, by rw [e1]; exact I.2.1⟩⟩
theorem c9_end {h : pm_H} {x v : Int32} (I : IVh h) (J : half_end h x v) : Sp 100 241 h [.ref 77, .int v] (fun h' r => IVR h' ∧ r = some (.int x)) := by
  refine Sp_le (by omega) (Sp_mono ?_ (Sp_and (top_all (as := [.ref 77, .int v]) q10 (by decide +kernel) I ⟨rfl, aI _, trivial⟩) (sp_end9 (d := 0) I.1)))
  rintro h' r ⟨⟨s1, s2, -⟩, s3⟩
  obtain ⟨k0, J⟩ := J
  have k1 : KP h' := KP_fr s2 rfl k0
  have e11 : gn h' 1 1 = gn h 1 1 := fr_gn s2 rfl
  have hn5 : gn h 77 6 ≤ 500 := gn_hi I.1 rfl (by decide)
  rcases s3 with ⟨n1, e1, rfl⟩ | ⟨n1, e1, rfl⟩
  · rcases J with ⟨j1, rfl, j3, j4⟩ | ⟨j1, -, -⟩
    · have hb : HH (pt h 77 0 (nJ 0)) := HH_ptn I.1 rfl (by omega) (by omega) (by omega)
      have e2 : gn h' 77 6 = x.toInt.toNat := by
        unfold gn
        rw [e1, gi_pt hb (q := (0, 500)) rfl n1.1 (by have := n1.2; show _ ≤ (500 : Int); omega)]
      refine ⟨⟨s1, ⟨by omega, fun j hj => ?_⟩, k1⟩, rfl⟩
      rw [fr_gi s2 (rg_no rfl j), fr_gi s2 (rg_no rfl j)]
      exact j4 j (by have := n1.2; omega)
    · exact absurd n1 j1
  · rcases J with ⟨j1, -⟩ | ⟨j1, rfl, j3⟩
    · exact absurd j1 n1
    · exact ⟨⟨s1, TP_fr (M := [(77, 0, 0)]) (by rw [e1]; exact fr_ptr (l := 0) (u := 0) rfl (by omega) (by omega) (fr_rf _ _)) rfl rfl rfl rfl j3, k1⟩, rfl⟩
noncomputable def half_street (h : pm_H) : Prop := gn h 1 1 = 0 ∧ KP h
theorem c8_street {h : pm_H} (I : IVR h) : Sp 100 185 h [.ref 0] (fun h' r => IVh h' ∧ ∃ x : Int32, r = some (.int x) ∧ half_street h') := by
  refine Sp_le (by omega) (Sp_mono ?_ (top_all (as := [.ref 0]) q106 (by decide +kernel) I.1 ⟨rfl, trivial⟩))
  rintro h' r ⟨s1, s2, C, hC, s3, s4⟩
  have e := List.mem_singleton.mp hC
  subst e
  obtain ⟨x, hx⟩ := rv_ci s4
  obtain ⟨y, y1, y2, y3⟩ := s3 ((1, 1), 0, 0) List.mem_cons_self
  refine ⟨s1, x, hx, ?_, KP_fr s2 rfl I.2.2⟩
  have y1 : ld h' 1 1 = some (.int y) := y1
  have y2 : (0 : Int) ≤ y.toInt := y2
  have y3 : y.toInt ≤ (0 : Int) := y3
  unfold gn gi
  rw [y1]
  show y.toInt.toNat = 0
  omega
theorem c9_street {h : pm_H} (I : IVh h) (J : half_street h) : Sp 100 354 h [.ref 77] (fun h' r => IVR h' ∧ ∃ x : Int32, r = some (.int x)) := by
  refine Sp_le (by omega) (Sp_mono ?_ (tv_street (d := 0) I.1 I.2.2))
  rintro h' r ⟨a1, a2, a3, a4, a5⟩
  have e11 : gn h' 1 1 = gn h 1 1 := fr_gn a2 rfl
  have j1 := J.1
  exact ⟨⟨IVh_fr (M := VMS) (by decide +kernel) a2 a1 I a3, ⟨by omega, fun j hj => by omega⟩, KP_fr a2 rfl J.2⟩, a5⟩
theorem sp_image8 {h : pm_H} {x : Int32} (I : IVh h) : Sp 20 121 h [.ref 0, .int x] (fun h' r => r = some (.int (imv x)) ∧ ∀ j, j < 3 → gi h' 52 j = if x = nJ j then 1 else gi h 52 j) := by
  refine Sp_of (d := 19) aiX8_image rfl rfl rfl ?_
  have L0 : pm_get (lv_args 0 [.ref 0, .int x]) 0 = some (.ref 0) := rfl
  have L1 : pm_get (lv_args 0 [.ref 0, .int x]) 1 = some (.int x) := rfl
  generalize lv_args 0 [.ref 0, .int x] = lv at L0 L1 ⊢
  refine E_il rfl L1 ?_
  by_cases hr : 0 ≤ x.toInt ∧ x.toInt ≤ 2
  · obtain ⟨k, hk, rfl⟩ := nJ_of2 (n := 2) hr.1 hr.2
    refine E_ifF rfl (decide_eq_false (nJ_lt0 (by omega))) ?_
    refine E_il rfl L1 ?_
    refine E_ci 3 rfl (by decide) ?_
    refine E_icT rfl (decide_eq_true ((nJ_lt (by omega) (by omega)).mpr (by omega))) ?_
    match k, hk with
    | 0, _ =>
      refine E_al rfl L0 ?_
      refine E_ogr rfl I.1 rfl (q := 24) rfl ?_
      refine E_il rfl L1 ?_
      refine E_aal rfl I.1 rfl (q := 25) rfl (by decide) ?_
      refine E_al rfl L0 ?_
      refine E_ogr rfl I.1 rfl (q := 15) rfl ?_
      refine E_call rfl (Sp_le (by omega) (Sp_sum (as := [.ref 25, .ref 15]) q904 I.1 ⟨rfl, rfl, trivial⟩ (fun _ hq => absurd hq List.not_mem_nil) (fun i hi => I.2.1 i (List.mem_of_elem_eq_true (List.all_eq_true.mp (show [41, 62].all (fun i => List.elem i CF) = true from rfl) i hi))))) (chkO (a := 25) I.1 rfl rfl rfl rfl (by show 0 ≤ 8; decide)) (fun h4 r4 => ?_)
      rintro ⟨hh4, fq4, C4, hC4, -, -, -, rv4⟩
      have e4 : r4 = none := by have e := List.mem_singleton.mp hC4; subst e; cases r4 with | none => rfl | some v => exact rv4.elim
      rw [e4]
      show Ends _ _ (25, lv, [], h4, 0, 0) _
      refine E_al rfl L0 ?_
      refine E_ogr rfl hh4 rfl (q := 52) rfl ?_
      refine E_il rfl L1 ?_
      refine E_ci 1 rfl (by decide) ?_
      refine E_zasA rfl hh4 rfl (by decide) ?_
      refine E_ci 0 rfl (by decide) ?_
      exact E_rti rfl ⟨by rw [imv_in hr]; rfl, kp_in hh4 rfl (by decide) (fun j => fr_gi fq4 (rg_no rfl j))⟩
    | 1, _ =>
      refine E_al rfl L0 ?_
      refine E_ogr rfl I.1 rfl (q := 24) rfl ?_
      refine E_il rfl L1 ?_
      refine E_aal rfl I.1 rfl (q := 34) rfl (by decide) ?_
      refine E_al rfl L0 ?_
      refine E_ogr rfl I.1 rfl (q := 15) rfl ?_
      refine E_call rfl (Sp_le (by omega) (Sp_sum (as := [.ref 34, .ref 15]) q903 I.1 ⟨rfl, rfl, trivial⟩ (fun _ hq => absurd hq List.not_mem_nil) (fun i hi => I.2.1 i (List.mem_of_elem_eq_true (List.all_eq_true.mp (show [41, 83].all (fun i => List.elem i CF) = true from rfl) i hi))))) (chkO (a := 34) I.1 rfl rfl rfl rfl (by show 0 ≤ 8; decide)) (fun h4 r4 => ?_)
      rintro ⟨hh4, fq4, C4, hC4, -, -, -, rv4⟩
      have e4 : r4 = none := by have e := List.mem_singleton.mp hC4; subst e; cases r4 with | none => rfl | some v => exact rv4.elim
      rw [e4]
      show Ends _ _ (25, lv, [], h4, 0, 0) _
      refine E_al rfl L0 ?_
      refine E_ogr rfl hh4 rfl (q := 52) rfl ?_
      refine E_il rfl L1 ?_
      refine E_ci 1 rfl (by decide) ?_
      refine E_zasA rfl hh4 rfl (by decide) ?_
      refine E_ci 0 rfl (by decide) ?_
      exact E_rti rfl ⟨by rw [imv_in hr]; rfl, kp_in hh4 rfl (by decide) (fun j => fr_gi fq4 (rg_no rfl j))⟩
    | 2, _ =>
      refine E_al rfl L0 ?_
      refine E_ogr rfl I.1 rfl (q := 24) rfl ?_
      refine E_il rfl L1 ?_
      refine E_aal rfl I.1 rfl (q := 43) rfl (by decide) ?_
      refine E_al rfl L0 ?_
      refine E_ogr rfl I.1 rfl (q := 15) rfl ?_
      refine E_call rfl (Sp_le (by omega) (Sp_sum (as := [.ref 43, .ref 15]) q902 I.1 ⟨rfl, rfl, trivial⟩ (fun _ hq => absurd hq List.not_mem_nil) (fun i hi => I.2.1 i (List.mem_of_elem_eq_true (List.all_eq_true.mp (show [41, 104].all (fun i => List.elem i CF) = true from rfl) i hi))))) (chkO (a := 43) I.1 rfl rfl rfl rfl (by show 0 ≤ 8; decide)) (fun h4 r4 => ?_)
      rintro ⟨hh4, fq4, C4, hC4, -, -, -, rv4⟩
      have e4 : r4 = none := by have e := List.mem_singleton.mp hC4; subst e; cases r4 with | none => rfl | some v => exact rv4.elim
      rw [e4]
      show Ends _ _ (25, lv, [], h4, 0, 0) _
      refine E_al rfl L0 ?_
      refine E_ogr rfl hh4 rfl (q := 52) rfl ?_
      refine E_il rfl L1 ?_
      refine E_ci 1 rfl (by decide) ?_
      refine E_zasA rfl hh4 rfl (by decide) ?_
      refine E_ci 0 rfl (by decide) ?_
      exact E_rti rfl ⟨by rw [imv_in hr]; rfl, kp_in hh4 rfl (by decide) (fun j => fr_gi fq4 (rg_no rfl j))⟩
  · have z0 : (0 : Int32).toInt = 0 := rfl
    by_cases h0 : x < 0
    · refine E_ifT rfl (decide_eq_true h0) ?_
      refine E_c rfl ?_
      exact E_rti rfl ⟨by rw [imv_no hr], kp_out hr (fun j => rfl)⟩
    · refine E_ifF rfl (decide_eq_false h0) ?_
      refine E_il rfl L1 ?_
      refine E_ci 3 rfl (by decide) ?_
      refine E_icF rfl (decide_eq_false (fun q => hr ?_)) ?_
      · have q1 := Int32.lt_iff_toInt_lt.mp q
        rw [nJ_toInt (by omega)] at q1
        have q2 : ¬ x.toInt < (0 : Int32).toInt := fun z => h0 (Int32.lt_iff_toInt_lt.mpr z)
        omega
      · refine E_c rfl ?_
        exact E_rti rfl ⟨by rw [imv_no hr], kp_out hr (fun j => rfl)⟩
theorem sp_back8 {h : pm_H} {x : Int32} (I : IVh h) : Sp 20 82 h [.ref 0, .int x] (fun h' r => r = some (.int (bkv 52 h x))) := by
  refine Sp_of (d := 19) aiX8_back rfl rfl rfl ?_
  have L0 : pm_get (lv_args 0 [.ref 0, .int x]) 0 = some (.ref 0) := rfl
  have L1 : pm_get (lv_args 0 [.ref 0, .int x]) 1 = some (.int x) := rfl
  generalize lv_args 0 [.ref 0, .int x] = lv at L0 L1 ⊢
  refine E_il rfl L1 ?_
  by_cases hr : 0 ≤ x.toInt ∧ x.toInt ≤ 2
  · obtain ⟨k, hk, rfl⟩ := nJ_of2 (n := 2) hr.1 hr.2
    refine E_ifF rfl (decide_eq_false (nJ_lt0 (by omega))) ?_
    refine E_il rfl L1 ?_
    refine E_ci 3 rfl (by decide) ?_
    refine E_icT rfl (decide_eq_true ((nJ_lt (by omega) (by omega)).mpr (by omega))) ?_
    refine E_al rfl L0 ?_
    refine E_ogr rfl I.1 rfl (q := 52) rfl ?_
    refine E_il rfl L1 ?_
    refine E_zalA rfl I.1 rfl (by omega) ?_
    by_cases hz : gi h 52 k = 0
    · refine E_ifF rfl (decide_eq_false (fun q => q hz)) ?_
      refine E_c rfl ?_
      exact E_rti rfl (by rw [bkv_6 hk hz])
    · refine E_ifT rfl (decide_eq_true hz) ?_
      have hb := bkv_0 hk hz
      match k, hk, hb with
      | 0, _, hb =>
        refine E_al rfl L0 ?_
        refine E_ogr rfl I.1 rfl (q := 15) rfl ?_
        refine E_al rfl L0 ?_
        refine E_ogr rfl I.1 rfl (q := 24) rfl ?_
        refine E_il rfl L1 ?_
        refine E_aal rfl I.1 rfl (q := 25) rfl (by decide) ?_
        refine E_call rfl (Sp_le (by omega) (Sp_sum (as := [.ref 15, .ref 25]) q926 I.1 ⟨rfl, rfl, trivial⟩ (fun _ hq => absurd hq List.not_mem_nil) (fun i hi => I.2.1 i (List.mem_of_elem_eq_true (List.all_eq_true.mp (show [41, 62].all (fun i => List.elem i CF) = true from rfl) i hi))))) (chkO (a := 15) I.1 rfl rfl rfl rfl (by show 0 ≤ 8; decide)) (fun h4 r4 => ?_)
        rintro ⟨hh4, fq4, C4, hC4, -, -, -, rv4⟩
        have e4 : r4 = none := by have e := List.mem_singleton.mp hC4; subst e; cases r4 with | none => rfl | some v => exact rv4.elim
        rw [e4]
        show Ends _ _ (37, lv, [], h4, 0, 0) _
        refine E_ci 0 rfl (by decide) ?_
        exact E_rti rfl (by rw [hb]; rfl)
      | 1, _, hb =>
        refine E_al rfl L0 ?_
        refine E_ogr rfl I.1 rfl (q := 15) rfl ?_
        refine E_al rfl L0 ?_
        refine E_ogr rfl I.1 rfl (q := 24) rfl ?_
        refine E_il rfl L1 ?_
        refine E_aal rfl I.1 rfl (q := 34) rfl (by decide) ?_
        refine E_call rfl (Sp_le (by omega) (Sp_sum (as := [.ref 15, .ref 34]) q925 I.1 ⟨rfl, rfl, trivial⟩ (fun _ hq => absurd hq List.not_mem_nil) (fun i hi => I.2.1 i (List.mem_of_elem_eq_true (List.all_eq_true.mp (show [41, 83].all (fun i => List.elem i CF) = true from rfl) i hi))))) (chkO (a := 15) I.1 rfl rfl rfl rfl (by show 0 ≤ 8; decide)) (fun h4 r4 => ?_)
        rintro ⟨hh4, fq4, C4, hC4, -, -, -, rv4⟩
        have e4 : r4 = none := by have e := List.mem_singleton.mp hC4; subst e; cases r4 with | none => rfl | some v => exact rv4.elim
        rw [e4]
        show Ends _ _ (37, lv, [], h4, 0, 0) _
        refine E_ci 0 rfl (by decide) ?_
        exact E_rti rfl (by rw [hb]; rfl)
      | 2, _, hb =>
        refine E_al rfl L0 ?_
        refine E_ogr rfl I.1 rfl (q := 15) rfl ?_
        refine E_al rfl L0 ?_
        refine E_ogr rfl I.1 rfl (q := 24) rfl ?_
        refine E_il rfl L1 ?_
        refine E_aal rfl I.1 rfl (q := 43) rfl (by decide) ?_
        refine E_call rfl (Sp_le (by omega) (Sp_sum (as := [.ref 15, .ref 43]) q924 I.1 ⟨rfl, rfl, trivial⟩ (fun _ hq => absurd hq List.not_mem_nil) (fun i hi => I.2.1 i (List.mem_of_elem_eq_true (List.all_eq_true.mp (show [41, 104].all (fun i => List.elem i CF) = true from rfl) i hi))))) (chkO (a := 15) I.1 rfl rfl rfl rfl (by show 0 ≤ 8; decide)) (fun h4 r4 => ?_)
        rintro ⟨hh4, fq4, C4, hC4, -, -, -, rv4⟩
        have e4 : r4 = none := by have e := List.mem_singleton.mp hC4; subst e; cases r4 with | none => rfl | some v => exact rv4.elim
        rw [e4]
        show Ends _ _ (37, lv, [], h4, 0, 0) _
        refine E_ci 0 rfl (by decide) ?_
        exact E_rti rfl (by rw [hb]; rfl)
  · have z0 : (0 : Int32).toInt = 0 := rfl
    by_cases h0 : x < 0
    · refine E_ifT rfl (decide_eq_true h0) ?_
      refine E_c rfl ?_
      exact E_rti rfl (by rw [bkv_no hr])
    · refine E_ifF rfl (decide_eq_false h0) ?_
      refine E_il rfl L1 ?_
      refine E_ci 3 rfl (by decide) ?_
      refine E_icF rfl (decide_eq_false (fun q => hr ?_)) ?_
      · have q1 := Int32.lt_iff_toInt_lt.mp q
        rw [nJ_toInt (by omega)] at q1
        have q2 : ¬ x.toInt < (0 : Int32).toInt := fun z => h0 (Int32.lt_iff_toInt_lt.mpr z)
        omega
      · refine E_c rfl ?_
        exact E_rti rfl (by rw [bkv_no hr])
noncomputable def half_image (h : pm_H) (x v : Int32) : Prop := TP h ∧ x = imv v ∧ ∀ j, j < 3 → gi h 52 j = if v = nJ j then 1 else gi h 88 j
theorem c8_image {h : pm_H} {v : Int32} (I : IVR h) : Sp 100 121 h [.ref 0, .int v] (fun h' r => IVh h' ∧ ∃ x : Int32, r = some (.int x) ∧ half_image h' x v) := by
  refine Sp_le (by omega) (Sp_mono ?_ (Sp_and (top_all (as := [.ref 0, .int v]) q905 (by decide +kernel) I.1 ⟨rfl, aI _, trivial⟩) (sp_image8 I.1)))
  rintro h' r ⟨⟨s1, s2, -⟩, rfl, s3⟩
  refine ⟨s1, _, rfl, TP_frB s2 rfl I.2.1, rfl, fun j hj => ?_⟩
  rw [s3 j hj, I.2.2 j hj, fr_gi s2 (rg_no rfl j)]
theorem c9_image {h : pm_H} {x v : Int32} (I : IVh h) (J : half_image h x v) : Sp 100 260 h [.ref 77, .int v] (fun h' r => IVR h' ∧ r = some (.int x)) := by
  refine Sp_le (by omega) (Sp_mono ?_ (tv_image (d := 0) I.1 I.2.2))
  rintro h' r ⟨a1, a2, a3, rfl, a5⟩
  obtain ⟨j1, rfl, j3⟩ := J
  refine ⟨⟨IVh_fr (M := VMI) (by decide +kernel) a2 a1 I a3, TP_frB a2 rfl j1, fun j hj => ?_⟩, rfl⟩
  rw [a5 j hj, fr_gi a2 (rg_no rfl j)]
  exact j3 j hj
theorem bkv_eq {A B : Nat} {h g : pm_H} {v : Int32} (e : ∀ j, j < 3 → gi h A j = gi g B j) : bkv A h v = bkv B g v := by
  unfold bkv
  by_cases q : 0 ≤ v.toInt ∧ v.toInt ≤ 2
  · rw [if_pos q, if_pos q, e _ (by omega)]
  · rw [if_neg q, if_neg q]
noncomputable def half_back (h : pm_H) (x v : Int32) : Prop := REL h ∧ x = bkv 88 h v
theorem c8_back {h : pm_H} {v : Int32} (I : IVR h) : Sp 100 82 h [.ref 0, .int v] (fun h' r => IVh h' ∧ ∃ x : Int32, r = some (.int x) ∧ half_back h' x v) := by
  refine Sp_le (by omega) (Sp_mono ?_ (Sp_and (top_all (as := [.ref 0, .int v]) q927 (by decide +kernel) I.1 ⟨rfl, aI _, trivial⟩) (sp_back8 I.1)))
  rintro h' r ⟨⟨s1, s2, -⟩, rfl⟩
  refine ⟨s1, _, rfl, REL_fr s2 rfl I.2, bkv_eq (fun j hj => ?_)⟩
  rw [fr_gi s2 (rg_no rfl j)]
  exact I.2.2 j hj
theorem c9_back {h : pm_H} {x v : Int32} (I : IVh h) (J : half_back h x v) : Sp 100 212 h [.ref 77, .int v] (fun h' r => IVR h' ∧ r = some (.int x)) := by
  refine Sp_le (by omega) (Sp_mono ?_ (tv_back (d := 0) I.1 I.2.2))
  rintro h' r ⟨a1, a2, a3, rfl⟩
  obtain ⟨j1, rfl⟩ := J
  exact ⟨⟨IVh_fr (M := VM) (by decide +kernel) a2 a1 I a3, REL_fr a2 rfl j1⟩, rfl⟩
theorem IVR_hp0 : IVR hp0 := ⟨IVh_hp0, ⟨rfl, fun j hj => absurd hj (Nat.not_lt_zero j)⟩, fun _ _ => rfl⟩
