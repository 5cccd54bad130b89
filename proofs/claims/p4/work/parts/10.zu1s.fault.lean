/-! pairs of calls over tape, kept images and the last fault (wants t27, t33's Sp_aj in t32, t53) -/
theorem Sp_aj {d y : Nat} {h : pm_H} {as : List Value} {Q Q' : pm_H → Option Value → Prop} (a : Sp d y h as Q) (b : Sp d y h as Q') : Sp d y h as (fun h' r => Q h' r ∧ Q' h' r) := by
  obtain ⟨h1, r1, a1, a2⟩ := a
  obtain ⟨h2, r2, b1, b2⟩ := b
  obtain ⟨rfl, rfl⟩ := pm_Rt_det _ _ _ _ _ _ _ _ a1 b1
  exact ⟨h1, r1, a1, a2, b2⟩
def FR (h : pm_H) : Prop := gi h 3 1 = gi h 77 14 ∧ gi h 3 2 = gi h 77 15
def RFt (h : pm_H) : Prop := REL h ∧ FR h
def IVF (h : pm_H) : Prop := IVh h ∧ RFt h
def frB (M : List Rng) : Bool := M.all (fun r => !(Nat.beq r.1 3)) && (!(rg_in M 77 14) && !(rg_in M 77 15))
def rfB (M : List Rng) : Bool := relB M && frB M
theorem FR_fr {M : List Rng} {h h' : pm_H} (hf : fr_g M h h') (hb : frB M = true) (S : FR h) : FR h' := by
  unfold frB at hb
  rw [Bool.and_eq_true, Bool.and_eq_true, Bool.not_eq_true', Bool.not_eq_true'] at hb
  unfold FR
  rw [fr_gi hf (rg_no hb.1 _), fr_gi hf (rg_no hb.1 _), fr_gi hf hb.2.1, fr_gi hf hb.2.2]
  exact S
theorem RFt_fr {M : List Rng} {h h' : pm_H} (hf : fr_g M h h') (hb : rfB M = true) (R : RFt h) : RFt h' := by
  unfold rfB at hb
  rw [Bool.and_eq_true] at hb
  exact ⟨REL_fr hf hb.1 R.1, FR_fr hf hb.2 R.2⟩
theorem tF_int {d y : Nat} {h : pm_H} {as : List Value} {M : List Rng} (hd : Nat.ble d 100 = true) (hM : rfB M = true) (R : RFt h) (k : Sp d y h as (fun h' r => IVh h' ∧ fr_g M h h' ∧ ∃ x : Int32, r = some (.int x))) : Sp 100 y h as (fun h' r => IVF h' ∧ ∃ x : Int32, r = some (.int x)) :=
  Sp_le (Nat.le_of_ble_eq_true hd) (Sp_mono (fun _ _ q => ⟨⟨q.1, RFt_fr q.2.1 hM R⟩, q.2.2⟩) k)
theorem tF_lng {d y : Nat} {h : pm_H} {as : List Value} {M : List Rng} (hd : Nat.ble d 100 = true) (hM : rfB M = true) (R : RFt h) (k : Sp d y h as (fun h' r => IVh h' ∧ fr_g M h h' ∧ ∃ x : Int64, r = some (.long x))) : Sp 100 y h as (fun h' r => IVF h' ∧ ∃ x : Int64, r = some (.long x)) :=
  Sp_le (Nat.le_of_ble_eq_true hd) (Sp_mono (fun _ _ q => ⟨⟨q.1, RFt_fr q.2.1 hM R⟩, q.2.2⟩) k)
theorem IVF_hp0 : IVF hp0 := ⟨IVR_hp0.1, IVR_hp0.2, by decide +kernel, by decide +kernel⟩
theorem hf_FR {d y : Nat} {h : pm_H} {as : List Value} {M : List Rng} {P : pm_H → Int32 → Prop} {U : pm_H → Option Value → Prop} (hd : d ≤ 100) (hM : frB M = true) (S : FR h) (a : Sp 100 y h as (fun h' r => IVh h' ∧ ∃ x : Int32, r = some (.int x) ∧ P h' x)) (b : Sp d y h as (fun h' r => U h' r ∧ fr_g M h h')) : Sp 100 y h as (fun h' r => IVh h' ∧ ∃ x : Int32, r = some (.int x) ∧ (P h' x ∧ FR h')) :=
  Sp_mono (fun _ _ q => by
    obtain ⟨⟨q1, x, q2, q3⟩, -, q4⟩ := q
    exact ⟨q1, x, q2, q3, FR_fr q4 hM S⟩) (Sp_aj a (Sp_le hd b))
theorem hs_FR {d y : Nat} {h : pm_H} {as : List Value} {M : List Rng} {P : Option Value → Prop} {U : pm_H → Option Value → Prop} (hd : d ≤ 100) (hM : frB M = true) (S : FR h) (a : Sp 100 y h as (fun h' r => IVR h' ∧ P r)) (b : Sp d y h as (fun h' r => U h' r ∧ fr_g M h h')) : Sp 100 y h as (fun h' r => IVF h' ∧ P r) :=
  Sp_mono (fun _ _ q => by
    obtain ⟨⟨q1, q2⟩, -, q4⟩ := q
    exact ⟨⟨q1.1, q1.2, FR_fr q4 hM S⟩, q2⟩) (Sp_aj a (Sp_le hd b))
theorem tg_all {d : Nat} {S : Sum1} (q : sum_g w0 (pm_Rt pm_P d) S) (hb : topB S = true) {h : pm_H} {as : List Value} (I : IVh h) (ha : f2 cv_g S.2.1 as) : Sp d S.1 h as (fun h' _ => IVh h' ∧ fr_g S.2.2.2.2.1 h h') :=
  Sp_mono (fun _ _ q => ⟨q.1, q.2.1⟩) (top_all q hb I ha)
section OLF
variable {h : pm_H} {x v a b c d e : Int32}
theorem f8_feed (I : IVF h) : Sp 100 106 h [.ref 0, .int a, .int b, .int c, .int d, .int e] (fun h' r => IVh h' ∧ ∃ x : Int32, r = some (.int x) ∧ (half_feed h' x a b c d e ∧ FR h')) :=
  hf_FR (by omega) rfl I.2.2 (c8_feed ⟨I.1, I.2.1⟩) (tg_all (as := [.ref 0, .int a, .int b, .int c, .int d, .int e]) q1 (by decide +kernel) I.1 ⟨rfl, aI _, aI _, aI _, aI _, aI _, trivial⟩)
theorem f9_feed (I : IVh h) (J : half_feed h x a b c d e ∧ FR h) : Sp 100 247 h [.ref 77, .int a, .int b, .int c, .int d, .int e] (fun h' r => IVF h' ∧ r = some (.int x)) :=
  hs_FR (by omega) rfl J.2 (c9_feed I J.1) (tg_all (as := [.ref 77, .int a, .int b, .int c, .int d, .int e]) q7 (by decide +kernel) I ⟨rfl, aI _, aI _, aI _, aI _, aI _, trivial⟩)
theorem f8_end (I : IVF h) : Sp 100 101 h [.ref 0, .int v] (fun h' r => IVh h' ∧ ∃ x : Int32, r = some (.int x) ∧ (half_end h' x v ∧ FR h')) :=
  hf_FR (by omega) rfl I.2.2 (c8_end ⟨I.1, I.2.1⟩) (tg_all (as := [.ref 0, .int v]) q8 (by decide +kernel) I.1 ⟨rfl, aI _, trivial⟩)
theorem f9_end (I : IVh h) (J : half_end h x v ∧ FR h) : Sp 100 241 h [.ref 77, .int v] (fun h' r => IVF h' ∧ r = some (.int x)) :=
  hs_FR (by omega) rfl J.2 (c9_end I J.1) (tg_all (as := [.ref 77, .int v]) q10 (by decide +kernel) I ⟨rfl, aI _, trivial⟩)
theorem f8_image (I : IVF h) : Sp 100 121 h [.ref 0, .int v] (fun h' r => IVh h' ∧ ∃ x : Int32, r = some (.int x) ∧ (half_image h' x v ∧ FR h')) :=
  hf_FR (by omega) rfl I.2.2 (c8_image ⟨I.1, I.2.1⟩) (tg_all (as := [.ref 0, .int v]) q905 (by decide +kernel) I.1 ⟨rfl, aI _, trivial⟩)
theorem f9_image (I : IVh h) (J : half_image h x v ∧ FR h) : Sp 100 260 h [.ref 77, .int v] (fun h' r => IVF h' ∧ r = some (.int x)) :=
  hs_FR (M := VMI) (U := fun h' _ => HH h') (d := 40) (by omega) rfl J.2 (c9_image I J.1) (Sp_mono (fun _ _ q => ⟨q.1, q.2.1⟩) (tv_image (d := 0) I.1 I.2.2))
theorem f8_back (I : IVF h) : Sp 100 82 h [.ref 0, .int v] (fun h' r => IVh h' ∧ ∃ x : Int32, r = some (.int x) ∧ (half_back h' x v ∧ FR h')) :=
  hf_FR (by omega) rfl I.2.2 (c8_back ⟨I.1, I.2.1⟩) (tg_all (as := [.ref 0, .int v]) q927 (by decide +kernel) I.1 ⟨rfl, aI _, trivial⟩)
theorem f9_back (I : IVh h) (J : half_back h x v ∧ FR h) : Sp 100 212 h [.ref 77, .int v] (fun h' r => IVF h' ∧ r = some (.int x)) :=
  hs_FR (M := VM) (U := fun h' _ => HH h') (d := 40) (by omega) rfl J.2 (c9_back I J.1) (Sp_mono (fun _ _ q => ⟨q.1, q.2.1⟩) (tv_back (d := 0) I.1 I.2.2))
end OLF
def half_st (h : pm_H) (x : Int32) : Prop := gn h 1 1 = 0 ∧ KP h ∧ ∃ (T : Nat → Int32) (L : Nat), TB T L h ∧ x = stv (PRS T L) ∧ gi h 3 1 = nJ (pxk (PRS T L).1) ∧ gi h 3 2 = pxp (PRS T L).1
theorem f8_street {h : pm_H} (I : IVF h) : Sp 100 185 h [.ref 0] (fun h' r => IVh h' ∧ ∃ x : Int32, r = some (.int x) ∧ half_st h' x) := by
  have hh : HH h := I.1.1
  have l5 : gn h 1 1 ≤ 500 := gn_hi hh rfl (by decide)
  have A : TA (gi h 2) (gn h 1 1) h := ⟨hh, gi_gn hh rfl (by decide), l5, fun _ _ => rfl⟩
  refine Sp_le (by omega) (Sp_mono ?_ (Sp_and (top_all (as := [.ref 0]) q106 (by decide +kernel) I.1 ⟨rfl, trivial⟩) (sp_street8 (d := 0) A)))
  rintro h' r ⟨⟨s1, s2, -⟩, rfl, hh', g1, g31, g32, -, -⟩
  obtain ⟨T1, T2⟩ := I.2.1.1
  refine ⟨s1, _, rfl, gn_of g1 (by omega), KP_fr s2 rfl I.2.1.2, gi h 2, gn h 1 1, ⟨hh', ?_, l5, fun j hj => ?_⟩, rfl, g31, g32⟩
  · rw [fr_gi s2 rfl, T1]
    exact gi_gn hh rfl (by decide)
  · rw [fr_gi s2 (rg_no rfl _)]
    exact (T2 j hj).symm
theorem f9_street {h : pm_H} {x : Int32} (I : IVh h) (J : half_st h x) : Sp 100 354 h [.ref 77] (fun h' r => IVF h' ∧ r = some (.int x)) := by
  obtain ⟨j1, j2, T, L, B, rfl, j31, j32⟩ := J
  refine Sp_le (by omega) (Sp_mono ?_ (Sp_and (tv_street (d := 0) I.1 I.2.2) (sp_street9 (d := 0) B)))
  rintro h' r ⟨⟨a1, a2, a3, a4, a5⟩, rfl, -, -, g14, g15, -, -⟩
  have e11 : gn h' 1 1 = gn h 1 1 := fr_gn a2 rfl
  refine ⟨⟨IVh_fr (M := VMS) (by decide +kernel) a2 a1 I a3, ⟨⟨by omega, fun j hj => by omega⟩, KP_fr a2 rfl j2⟩, ?_, ?_⟩, rfl⟩
  · rw [fr_gi a2 (rg_no rfl _), j31, g14]
  · rw [fr_gi a2 (rg_no rfl _), j32, g15]
/-- what fault answers -/
def flv (a b : Int32) (v : Int32) : Int32 := if v = 0 then a else if v = 1 then b else -1
section FLT
variable {h : pm_H} {d : Nat} {x v : Int32}
theorem sp_fault8 (hh : HH h) : Sp (d + 1) 105 h [.ref 0, .int v] (fun _ r => r = some (.int (flv (gi h 3 1) (gi h 3 2) v))) := by
  refine Sp_of aiX8_fault rfl rfl rfl ?_
  have L0 : pm_get (lv_args 0 [.ref 0, .int v]) 0 = some (.ref 0) := rfl
  have L1 : pm_get (lv_args 0 [.ref 0, .int v]) 1 = some (.int v) := rfl
  generalize lv_args 0 [.ref 0, .int v] = lv at L0 L1 ⊢
  unfold flv
  refine E_il rfl L1 ?_
  by_cases b0 : v = 0
  · rw [if_pos b0]
    refine E_ifF rfl (decide_eq_false (fun q => q b0)) ?_
    refine E_al rfl L0 ?_
    refine E_ogr (q := 3) rfl hh rfl rfl ?_
    refine E_ogf (q := (0, 3)) rfl hh rfl rfl rfl ?_
    exact E_rti rfl rfl
  rw [if_neg b0]
  refine E_ifT rfl (decide_eq_true b0) ?_
  refine E_il rfl L1 ?_
  refine E_c rfl ?_
  by_cases b1 : v = 1
  · rw [if_pos b1]
    refine E_icF rfl (decide_eq_false (fun q => q b1)) ?_
    refine E_al rfl L0 ?_
    refine E_ogr (q := 3) rfl hh rfl rfl ?_
    refine E_ogf (q := ((-1), 500)) rfl hh rfl rfl rfl ?_
    refine E_goto rfl ?_
    exact E_rti rfl rfl
  rw [if_neg b1]
  refine E_icT rfl (decide_eq_true b1) ?_
  refine E_c rfl ?_
  exact E_rti rfl rfl
theorem sp_fault9 (hh : HH h) : Sp (d + 1) 246 h [.ref 77, .int v] (fun _ r => r = some (.int (flv (gi h 77 14) (gi h 77 15) v))) := by
  refine Sp_of aiX9_fault rfl rfl rfl ?_
  have L0 : pm_get (lv_args 0 [.ref 77, .int v]) 0 = some (.ref 77) := rfl
  have L1 : pm_get (lv_args 0 [.ref 77, .int v]) 1 = some (.int v) := rfl
  generalize lv_args 0 [.ref 77, .int v] = lv at L0 L1 ⊢
  refine E_al rfl L0 ?_
  refine E_ci 0 rfl (by decide) ?_
  refine E_pf rfl hh rfl ?_
  have hg : HH (pt h 77 0 (nJ 0)) := HH_ptn hh rfl (by omega) (by omega) (by omega)
  unfold flv
  refine E_il rfl L1 ?_
  by_cases b0 : v = 0
  · rw [if_pos b0]
    refine E_ifF rfl (decide_eq_false (fun q => q b0)) ?_
    refine E_al rfl L0 ?_
    refine E_gf (q := (0, 3)) (v := gi h 77 14) rfl hg rfl (gi_ne (by omega)) ?_
    refine E_goto rfl ?_
    exact E_rti rfl rfl
  rw [if_neg b0]
  refine E_ifT rfl (decide_eq_true b0) ?_
  refine E_il rfl L1 ?_
  refine E_c rfl ?_
  by_cases b1 : v = 1
  · rw [if_pos b1]
    refine E_icF rfl (decide_eq_false (fun q => q b1)) ?_
    refine E_al rfl L0 ?_
    refine E_gf (q := ((-1), 500)) (v := gi h 77 15) rfl hg rfl (gi_ne (by omega)) ?_
    refine E_goto rfl ?_
    exact E_rti rfl rfl
  rw [if_neg b1]
  refine E_icT rfl (decide_eq_true b1) ?_
  refine E_c rfl ?_
  exact E_rti rfl rfl
end FLT
def half_fault (h : pm_H) (x v : Int32) : Prop := RFt h ∧ x = flv (gi h 77 14) (gi h 77 15) v
theorem f8_fault {h : pm_H} {v : Int32} (I : IVF h) : Sp 100 105 h [.ref 0, .int v] (fun h' r => IVh h' ∧ ∃ x : Int32, r = some (.int x) ∧ half_fault h' x v) := by
  refine Sp_le (by omega) (Sp_mono ?_ (Sp_and (top_all (as := [.ref 0, .int v]) q107 (by decide +kernel) I.1 ⟨rfl, aI _, trivial⟩) (sp_fault8 (d := 0) I.1.1)))
  rintro h' r ⟨⟨s1, s2, -⟩, rfl⟩
  refine ⟨s1, _, rfl, RFt_fr s2 rfl I.2, ?_⟩
  rw [fr_gi s2 rfl, fr_gi s2 rfl, I.2.2.1, I.2.2.2]
theorem f9_fault {h : pm_H} {x v : Int32} (I : IVh h) (J : half_fault h x v) : Sp 100 246 h [.ref 77, .int v] (fun h' r => IVF h' ∧ r = some (.int x)) := by
  refine Sp_le (by omega) (Sp_mono ?_ (Sp_and (top_all (as := [.ref 77, .int v]) q108 (by decide +kernel) I ⟨rfl, aI _, trivial⟩) (sp_fault9 (d := 0) I.1)))
  rintro h' r ⟨⟨s1, s2, -⟩, rfl⟩
  obtain ⟨J1, rfl⟩ := J
  exact ⟨⟨s1, RFt_fr s2 rfl J1⟩, rfl⟩
