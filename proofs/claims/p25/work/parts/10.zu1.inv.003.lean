section
theorem sp_end8 {h : pm_H} {d : Nat} {x : Int32} (hh : HH h) : Sp (d + 1) 101 h [.ref 0, .int x] (fun h' r => ((0 ≤ x.toInt ∧ x.toInt ≤ (gn h 1 1 : Int)) ∧ h' = pt h 1 1 x ∧ r = some (.int x)) ∨ (¬ (0 ≤ x.toInt ∧ x.toInt ≤ (gn h 1 1 : Int)) ∧ h' = h ∧ r = some (.int (-1)))) := by
  have hn5 : gn h 1 1 ≤ 500 := gn_hi hh rfl (by decide)
  refine Sp_of aiX8_end rfl rfl rfl ?_
  refine E_il rfl (show pm_get (lv_args 0 [.ref 0, .int x]) 1 = _ from rfl) ?_
  by_cases hb1 : x.toInt < 0
  · refine E_ifT rfl (decide_eq_true (Int32.lt_iff_toInt_lt.mpr hb1)) ?_
    refine E_c rfl ?_
    exact E_rti rfl (.inr ⟨fun q => by have q1 := q.1; have q2 := q.2; omega, rfl, rfl⟩)
  · refine E_ifF rfl (decide_eq_false (fun q => hb1 (Int32.lt_iff_toInt_lt.mp q))) ?_
    refine E_il rfl (show pm_get (lv_args 0 [.ref 0, .int x]) 1 = _ from rfl) ?_
    refine E_al rfl (show pm_get (lv_args 0 [.ref 0, .int x]) 0 = _ from rfl) ?_
    refine E_ogr rfl hh rfl (q := 1) rfl ?_
    refine E_ogf rfl hh rfl rfl (show gi h 1 1 = nJ ((gn h 1 1)) from (gi_gn hh rfl (by decide))) ?_
    by_cases hb2 : x.toInt ≤ (gn h 1 1 : Int)
    · refine E_icT rfl (decide_eq_true (Int32.le_iff_toInt_le.mpr (by rw [nJ_toInt (by omega)]; exact hb2))) ?_
      have hx0 : 0 ≤ x.toInt := by omega
      have hx1 : x.toInt ≤ (gn h 1 1 : Int) := hb2
      refine E_al rfl (show pm_get (lv_args 0 [.ref 0, .int x]) 0 = _ from rfl) ?_
      refine E_ogr rfl hh rfl (q := 1) rfl ?_
      refine E_il rfl (show pm_get (lv_args 0 [.ref 0, .int x]) 1 = _ from rfl) ?_
      refine E_opf rfl hh rfl rfl ?_
      have hh3 : HH (pt h 1 1 x) := HH_pt hh rfl (by show (0 : Int) ≤ _; exact hx0) (by show _ ≤ (500 : Int); omega)
      refine E_il rfl (show pm_get (lv_args 0 [.ref 0, .int x]) 1 = _ from rfl) ?_
      exact E_rti rfl (.inl ⟨⟨hx0, hx1⟩, rfl, rfl⟩)
    · refine E_icF rfl (decide_eq_false (fun q => hb2 (by have q9 := Int32.le_iff_toInt_le.mp q; rw [nJ_toInt (by omega)] at q9; exact q9))) ?_
      refine E_c rfl ?_
      exact E_rti rfl (.inr ⟨fun q => by have q1 := q.1; have q2 := q.2; omega, rfl, rfl⟩)
theorem sp_end9 {h : pm_H} {d : Nat} {x : Int32} (hh : HH h) : Sp (d + 2) 241 h [.ref 77, .int x] (fun h' r => ((0 ≤ x.toInt ∧ x.toInt ≤ ((gn h 77 6 : Nat) : Int)) ∧ h' = pt (pt h 77 0 (nJ 0)) 77 6 x ∧ r = some (.int x)) ∨ (¬ (0 ≤ x.toInt ∧ x.toInt ≤ ((gn h 77 6 : Nat) : Int)) ∧ h' = pt h 77 0 (nJ 0) ∧ r = some (.int (-1)))) := by
  have hn5 : gn h 77 6 ≤ 500 := gn_hi hh rfl (by decide)
  refine Sp_of aiX9_end rfl rfl rfl ?_
  refine E_al rfl (show pm_get (lv_args 0 [.ref 77, .int x]) 0 = _ from rfl) ?_
  refine E_ci 0 rfl (by decide) ?_
  refine E_pf rfl hh rfl ?_
  have hh1 : HH (pt h 77 0 (nJ 0)) := HH_ptn hh rfl (by omega) (by omega) (by omega)
  refine E_il rfl (show pm_get (lv_args 0 [.ref 77, .int x]) 1 = _ from rfl) ?_
  refine E_i2l rfl ?_
  refine E_c rfl ?_
  refine E_al rfl (show pm_get (lv_args 0 [.ref 77, .int x]) 0 = _ from rfl) ?_
  refine E_gf rfl hh1 rfl (show gi (pt h 77 0 (nJ 0)) 77 6 = nJ ((gn h 77 6)) from (by rw [gi_ne (by omega)]; exact gi_gn hh rfl (by decide))) ?_
  refine E_i2l rfl ?_
  refine E_call rfl (sp_in (a := x.toInt) (b := 0) (c := ((((gn h 77 6)) : Nat) : Int)) (i2l_toInt _) rfl (i2l_nJ (by omega))) (chkS rfl (by show 0 ≤ 8; decide)) (fun h2 r2 => ?_)
  rintro ⟨e2, f2⟩
  rw [e2, f2]
  show Ends _ _ (16, (lv_args 0 [.ref 77, .int x]), [.int (zb (0 ≤ x.toInt ∧ x.toInt ≤ ((((gn h 77 6)) : Nat) : Int)))], (pt h 77 0 (nJ 0)), 0, 0) _
  by_cases hb3 : 0 ≤ x.toInt ∧ x.toInt ≤ ((((gn h 77 6)) : Nat) : Int)
  · refine E_ifT rfl (by rw [zb_T hb3]; rfl) ?_
    refine E_al rfl (show pm_get (lv_args 0 [.ref 77, .int x]) 0 = _ from rfl) ?_
    refine E_il rfl (show pm_get (lv_args 0 [.ref 77, .int x]) 1 = _ from rfl) ?_
    refine E_pf rfl hh1 rfl ?_
    have hh4 : HH (pt (pt h 77 0 (nJ 0)) 77 6 x) := HH_pt hh1 rfl (by show (0 : Int) ≤ _; exact hb3.1) (by show _ ≤ (500 : Int); have := hb3.2; omega)
    refine E_il rfl (show pm_get (lv_args 0 [.ref 77, .int x]) 1 = _ from rfl) ?_
    exact E_rti rfl (.inl ⟨hb3, rfl, rfl⟩)
  · refine E_ifF rfl (by rw [zb_F hb3]; rfl) ?_
    refine E_c rfl ?_
    exact E_rti rfl (.inr ⟨hb3, rfl, rfl⟩)
end
section
/-! the relation of class and reference (written by gen_t27.py) -/
noncomputable def KP (h : pm_H) : Prop := ∀ j, j < 3 → gi h 52 j = gi h 88 j
noncomputable def REL (h : pm_H) : Prop := TP h ∧ KP h
noncomputable def IVR (h : pm_H) : Prop := IVh h ∧ REL h
noncomputable def kpB (M : List Rng) : Bool := M.all (fun r => !(Nat.beq r.1 52)) && M.all (fun r => !(Nat.beq r.1 88))
noncomputable def tpB (M : List Rng) : Bool := (!(rg_in M 1 1) && !(rg_in M 77 6)) && (M.all (fun r => !(Nat.beq r.1 2)) && M.all (fun r => !(Nat.beq r.1 82)))
noncomputable def relB (M : List Rng) : Bool := tpB M && kpB M
theorem KP_fr {M : List Rng} {h h' : pm_H} (hf : fr_g M h h') (hb : kpB M = true) (K : KP h) : KP h' := by
  unfold kpB at hb
  rw [Bool.and_eq_true] at hb
  intro j hj
  rw [fr_gi hf (rg_no hb.1 j), fr_gi hf (rg_no hb.2 j)]
  exact K j hj
theorem TP_frB {M : List Rng} {h h' : pm_H} (hf : fr_g M h h') (hb : tpB M = true) (T : TP h) : TP h' := by
  unfold tpB at hb
  rw [Bool.and_eq_true, Bool.and_eq_true, Bool.and_eq_true, Bool.not_eq_true', Bool.not_eq_true'] at hb
  exact TP_fr hf hb.1.1 hb.1.2 hb.2.1 hb.2.2 T
theorem REL_fr {M : List Rng} {h h' : pm_H} (hf : fr_g M h h') (hb : relB M = true) (R : REL h) : REL h' := by
  unfold relB at hb
  rw [Bool.and_eq_true] at hb
  exact ⟨TP_frB hf hb.1 R.1, KP_fr hf hb.2 R.2⟩
/-- feed: between the class's call and the reference's -/
noncomputable def half_feed (h : pm_H) (x a b c d e : Int32) : Prop := KP h ∧ ((gn h 77 6 + 20 ≤ 500 ∧ x = nJ (gn h 77 6 + 20) ∧ gn h 1 1 = gn h 77 6 + 20 ∧ (∀ j, j < gn h 77 6 → gi h 2 j = gi h 82 j) ∧ ∀ i, i < 20 → gi h 2 (gn h 77 6 + i) = b20 a b c d e i) ∨ (¬ gn h 77 6 + 20 ≤ 500 ∧ x = -1 ∧ TP h))
theorem c8_feed {h : pm_H} {a b c d e : Int32} (I : IVR h) : Sp 100 106 h [.ref 0, .int a, .int b, .int c, .int d, .int e] (fun h' r => IVh h' ∧ ∃ x : Int32, r = some (.int x) ∧ half_feed h' x a b c d e) := by
  refine Sp_le (by omega) (Sp_mono ?_ (Sp_and (top_all (as := [.ref 0, .int a, .int b, .int c, .int d, .int e]) q1 (by decide +kernel) I.1 ⟨rfl, aI _, aI _, aI _, aI _, aI _, trivial⟩) (sp_feed8 (dd := 0) I.1.1)))
  rintro h' r ⟨⟨s1, s2, -⟩, s3⟩
  obtain ⟨T1, T2⟩ := I.2.1
  have e6 : gn h' 77 6 = gn h 77 6 := fr_gn s2 rfl
  have k1 : KP h' := KP_fr s2 rfl I.2.2
  rcases s3 with ⟨n1, e1, rfl⟩ | ⟨n1, e1, rfl⟩
  · obtain ⟨p1, p2, p3, p4, p5⟩ := rd20_ok (v1 := a) (v2 := b) (v3 := c) (v4 := d) (v5 := e) isT8 I.1.1 n1
    rw [← e1] at p2 p3 p4
    refine ⟨s1, _, rfl, k1, .inl ⟨by omega, by rw [e6, T1], by omega, fun j hj => ?_, fun i hi => ?_⟩⟩
    · rw [p3 j (by omega), fr_gi s2 (rg_no rfl j)]
      exact T2 j (by omega)
    · rw [e6, ← T1]
      exact p4 i hi
  · exact ⟨s1, _, rfl, k1, .inr ⟨by omega, rfl, by rw [e1]; exact I.2.1⟩⟩
theorem c9_feed {h : pm_H} {x a b c d e : Int32} (I : IVh h) (J : half_feed h x a b c d e) : Sp 100 247 h [.ref 77, .int a, .int b, .int c, .int d, .int e] (fun h' r => IVR h' ∧ r = some (.int x)) := by
  refine Sp_le (by omega) (Sp_mono ?_ (Sp_and (top_all (as := [.ref 77, .int a, .int b, .int c, .int d, .int e]) q7 (by decide +kernel) I ⟨rfl, aI _, aI _, aI _, aI _, aI _, trivial⟩) (sp_feed9 (dd := 0) I.1)))
  rintro h' r ⟨⟨s1, s2, -⟩, s3⟩
  obtain ⟨k0, J⟩ := J
  have k1 : KP h' := KP_fr s2 rfl k0
  have e11 : gn h' 1 1 = gn h 1 1 := fr_gn s2 rfl
  rcases s3 with ⟨n1, e1, rfl⟩ | ⟨n1, e1, rfl⟩
  · rcases J with ⟨j1, rfl, j3, j4, j5⟩ | ⟨j1, -, -⟩
    · have hb : HH (pt h 77 0 (nJ 0)) := HH_ptn I.1 rfl (by omega) (by omega) (by omega)
      have eb : gn (pt h 77 0 (nJ 0)) 77 6 = gn h 77 6 := gn_ne (by omega)
      obtain ⟨p1, p2, p3, p4, p5⟩ := rd20_ok (v1 := a) (v2 := b) (v3 := c) (v4 := d) (v5 := e) isT9 hb (by omega)
      rw [← e1] at p2 p3 p4
      refine ⟨⟨s1, ⟨by omega, fun j hj => ?_⟩, k1⟩, rfl⟩
      rw [e11] at hj
      rw [fr_gi s2 (rg_no rfl j)]
      by_cases hj2 : j < gn h 77 6
      · rw [j4 j hj2, p3 j (by omega)]
        exact (gi_ne (by omega)).symm
      · have h5 := j5 (j - gn h 77 6) (by omega)
        have h4 := p4 (j - gn h 77 6) (by omega)
        rw [eb] at h4
        rw [show gn h 77 6 + (j - gn h 77 6) = j by omega] at h5 h4
        rw [h5, h4]
    · exact absurd n1 j1
  · rcases J with ⟨j1, -⟩ | ⟨j1, rfl, j3⟩
    · exact absurd j1 n1
    · exact ⟨⟨s1, TP_fr (M := [(77, 0, 0)]) (by rw [e1]; exact fr_ptr (l := 0) (u := 0) rfl (by omega) (by omega) (fr_rf _ _)) rfl rfl rfl rfl j3, k1⟩, rfl⟩
noncomputable def half_end (h : pm_H) (x v : Int32) : Prop := KP h ∧ (((0 ≤ v.toInt ∧ v.toInt ≤ ((gn h 77 6 : Nat) : Int)) ∧ x = v ∧ gn h 1 1 = v.toInt.toNat ∧ ∀ j, j < gn h 77 6 → gi h 2 j = gi h 82 j) ∨ (¬ (0 ≤ v.toInt ∧ v.toInt ≤ ((gn h 77 6 : Nat) : Int)) ∧ x = -1 ∧ TP h))
theorem c8_end {h : pm_H} {v : Int32} (I : IVR h) : Sp 100 101 h [.ref 0, .int v] (fun h' r => IVh h' ∧ ∃ x : Int32, r = some (.int x) ∧ half_end h' x v) := by
  refine Sp_le (by omega) (Sp_mono ?_ (Sp_and (top_all (as := [.ref 0, .int v]) q8 (by decide +kernel) I.1 ⟨rfl, aI _, trivial⟩) (sp_end8 (d := 0) I.1.1)))
  rintro h' r ⟨⟨s1, s2, -⟩, s3⟩
  obtain ⟨T1, T2⟩ := I.2.1
  have e6 : gn h' 77 6 = gn h 77 6 := fr_gn s2 rfl
  have k1 : KP h' := KP_fr s2 rfl I.2.2
  have hn5 : gn h 1 1 ≤ 500 := gn_hi I.1.1 rfl (by decide)
  rcases s3 with ⟨n1, e1, rfl⟩ | ⟨n1, e1, rfl⟩
  · refine ⟨s1, _, rfl, k1, .inl ⟨⟨n1.1, by have := n1.2; omega⟩, rfl, ?_, fun j hj => ?_⟩⟩
    · unfold gn
      rw [e1, gi_pt I.1.1 (q := (0, 500)) rfl n1.1 (by have := n1.2; show _ ≤ (500 : Int); omega)]
    · rw [fr_gi s2 (rg_no rfl j), fr_gi s2 (rg_no rfl j)]
      exact T2 j (by omega)
  · refine ⟨s1, _, rfl, k1, .inr ⟨fun q => n1 ⟨q.1, by have := q.2; omega⟩, rfl, by rw [e1]; exact I.2.1⟩⟩
theorem c9_end {h : pm_H} {x v : Int32} (I : IVh h) (J : half_end h x v) : Sp 100 241 h [.ref 77, .int v] (fun h' r => IVR h' ∧ r = some (.int x)) := by
  refine Sp_le (by omega) (Sp_mono ?_ (Sp_and (top_all (as := [.ref 77, .int v]) q10 (by decide +kernel) I ⟨rfl, aI _, trivial⟩) (sp_end9 (d := 0) I.1)))
  rintro h' r ⟨⟨s1, s2, -⟩, s3⟩
  obtain ⟨k0, J⟩ := J
  have k1 : KP h' := KP_fr s2 rfl k0
  have e11 : gn h' 1 1 = gn h 1 1 := fr_gn s2 rfl
  have hn5 : gn h 77 6 ≤ 500 := gn_hi I.1 rfl (by decide)
  rcases s3 with ⟨n1, e1, rfl⟩ | ⟨n1, e1, rfl⟩
  · rcases J with ⟨j1, rfl, j3, j4⟩ | ⟨j1, -, -⟩
    · have hb : HH (pt h 77 0 (nJ 0)) := HH_ptn I.1 rfl (by omega) (by omega) (by omega)
      have e2 : gn h' 77 6 = x.toInt.toNat := by
        unfold gn
        rw [e1, gi_pt hb (q := (0, 500)) rfl n1.1 (by have := n1.2; show _ ≤ (500 : Int); omega)]
      refine ⟨⟨s1, ⟨by omega, fun j hj => ?_⟩, k1⟩, rfl⟩
      rw [fr_gi s2 (rg_no rfl j), fr_gi s2 (rg_no rfl j)]
      exact j4 j (by have := n1.2; omega)
    · exact absurd n1 j1
  · rcases J with ⟨j1, -⟩ | ⟨j1, rfl, j3⟩
    · exact absurd j1 n1
    · exact ⟨⟨s1, TP_fr (M := [(77, 0, 0)]) (by rw [e1]; exact fr_ptr (l := 0) (u := 0) rfl (by omega) (by omega) (fr_rf _ _)) rfl rfl rfl rfl j3, k1⟩, rfl⟩
end
