section
/-! image and back of both, exactly; the streets' relation (written by gen_t60.py; wants t33, t52b, t53, t56 to t59) -/
noncomputable def CPY (A B : Nat) (h h' : pm_H) : Prop := (∀ j, j < 7 → gi h' A j = gi h B j) ∧ (∀ i, i < 8 → gi h' (A + 3) i = gi h (B + 3) i) ∧ (∀ i, i < 8 → gi h' (A + 1) i = gi h (B + 1) i ∧ gi h' (A + 2) i = gi h (B + 2) i ∧ gi h' (A + 4) i = gi h (B + 4) i ∧ gi h' (A + 5) i = gi h (B + 5) i) ∧ ∀ i, i < 20 → gi h' (A + 6) i = gi h (B + 6) i ∧ gi h' (A + 7) i = gi h (B + 7) i ∧ gi h' (A + 8) i = gi h (B + 8) i
noncomputable def KEE (A : Nat) (h h' : pm_H) : Prop := ∀ q, q ≤ 8 → ∀ j, gi h' (A + q) j = gi h (A + q) j
noncomputable def kB (M : List Rng) (A : Nat) : Bool := (List.range 9).all (fun q => M.all (fun r => !(Nat.beq r.1 (A + q))))
theorem kB_at {M : List Rng} {A q : Nat} (h : kB M A = true) (hq : q ≤ 8) : M.all (fun r => !(Nat.beq r.1 (A + q))) = true := List.all_eq_true.mp h q (List.mem_range.mpr (by omega))
noncomputable def imA (k : Nat) : Nat := 25 + 9 * k
theorem KEE_fr {M : List Rng} {A : Nat} {h h' : pm_H} (hf : fr_g M h h') (h1 : kB M A = true) : KEE A h h' := fun _ hq _ => fr_gi hf (rg_no (kB_at h1 hq) _)
section IM8
variable {h : pm_H} {x : Int32}
/-- what image of the class leaves -/
noncomputable def IX8 (h : pm_H) (x : Int32) (h' : pm_H) : Prop := (∃ k, k < 3 ∧ x = nJ k ∧ CPY (imA k) 15 h h' ∧ KEE 15 h h' ∧ ∀ j, j < 3 → j ≠ k → KEE (imA j) h h') ∨ (¬ (0 ≤ x.toInt ∧ x.toInt ≤ 2) ∧ h' = h)
noncomputable def BX8 (h : pm_H) (x : Int32) (h' : pm_H) : Prop := (∃ k, k < 3 ∧ x = nJ k ∧ ¬ gi h 52 k = 0 ∧ CPY 15 (imA k) h h' ∧ ∀ j, j < 3 → KEE (imA j) h h') ∨ (¬ (∃ k, k < 3 ∧ x = nJ k ∧ ¬ gi h 52 k = 0) ∧ h' = h)
theorem sp_imageX8 (hh : HH h) : Sp 20 121 h [.ref 0, .int x] (fun h' _ => IX8 h x h') := by
  refine Sp_of (d := 19) aiX8_image rfl rfl rfl ?_
  have L0 : pm_get (lv_args 0 [.ref 0, .int x]) 0 = some (.ref 0) := rfl
  have L1 : pm_get (lv_args 0 [.ref 0, .int x]) 1 = some (.int x) := rfl
  generalize lv_args 0 [.ref 0, .int x] = lv at L0 L1 ⊢
  refine E_il rfl L1 ?_
  by_cases hr : 0 ≤ x.toInt ∧ x.toInt ≤ 2
  · obtain ⟨k, hk, rfl⟩ := nJ_of2 (n := 2) hr.1 hr.2
    refine E_ifF rfl (decide_eq_false (nJ_lt0 (by omega))) ?_
    refine E_il rfl L1 ?_
    refine E_ci 3 rfl (by decide) ?_
    refine E_icT rfl (decide_eq_true ((nJ_lt (by omega) (by omega)).mpr (by omega))) ?_
    match k, hk with
    | 0, _ =>
      refine E_al rfl L0 ?_
      refine E_ogr rfl hh rfl (q := 24) rfl ?_
      refine E_il rfl L1 ?_
      refine E_aal rfl hh rfl (q := 25) rfl (by decide) ?_
      refine E_al rfl L0 ?_
      refine E_ogr rfl hh rfl (q := 15) rfl ?_
      refine E_call rfl (Sp_le (by omega) (sp_take_25_15 (d := 0) hh)) (chkO (a := 25) hh rfl rfl rfl rfl (by show 0 ≤ 8; decide)) (fun h4 r4 => ?_)
      rintro ⟨e4, hh4, f4, t0, t1, t2⟩
      rw [e4]
      refine E_al rfl L0 ?_
      refine E_ogr rfl hh4 rfl (q := 52) rfl ?_
      refine E_il rfl L1 ?_
      refine E_ci 1 rfl (by decide) ?_
      refine E_zasA rfl hh4 rfl (by decide) ?_
      refine E_ci 0 rfl (by decide) ?_
      refine E_rti rfl (.inl ⟨0, by omega, rfl, ⟨fun j hj => ?_, fun i hi => ?_, fun i hi => ?_, fun i hi => ?_⟩, fun q hq j => ?_, fun j hj hne => ?_⟩)
      · show gi (pt h4 52 0 1) 25 j = _
        rw [gi_ne (by omega)]; exact t0 j hj
      · show gi (pt h4 52 0 1) 28 i = gi h 18 i
        rw [gi_ne (by omega)]; exact (t1 i hi).2.2.1
      · show gi (pt h4 52 0 1) 26 i = gi h 16 i ∧ gi (pt h4 52 0 1) 27 i = gi h 17 i ∧ gi (pt h4 52 0 1) 29 i = gi h 19 i ∧ gi (pt h4 52 0 1) 30 i = gi h 20 i
        rw [gi_ne (by omega), gi_ne (by omega), gi_ne (by omega), gi_ne (by omega)]
        obtain ⟨a1, a2, -, a4, a5⟩ := t1 i hi
        exact ⟨a1, a2, a4, a5⟩
      · show gi (pt h4 52 0 1) 31 i = gi h 21 i ∧ gi (pt h4 52 0 1) 32 i = gi h 22 i ∧ gi (pt h4 52 0 1) 33 i = gi h 23 i
        rw [gi_ne (by omega), gi_ne (by omega), gi_ne (by omega)]
        exact t2 i hi
      · rw [gi_ne (by omega), fr_gi f4 (rg_no (kB_at (A := 15) rfl hq) _)]
      · match j, hj, hne with
        | 0, _, hne => exact absurd rfl hne
        | 1, _, hne => exact fun q hq i => by show gi (pt h4 52 0 1) (34 + q) i = gi h (34 + q) i; rw [gi_ne (by omega), fr_gi f4 (rg_no (kB_at (A := 34) rfl hq) _)]
        | 2, _, hne => exact fun q hq i => by show gi (pt h4 52 0 1) (43 + q) i = gi h (43 + q) i; rw [gi_ne (by omega), fr_gi f4 (rg_no (kB_at (A := 43) rfl hq) _)]
    | 1, _ =>
      refine E_al rfl L0 ?_
      refine E_ogr rfl hh rfl (q := 24) rfl ?_
      refine E_il rfl L1 ?_
      refine E_aal rfl hh rfl (q := 34) rfl (by decide) ?_
      refine E_al rfl L0 ?_
      refine E_ogr rfl hh rfl (q := 15) rfl ?_
      refine E_call rfl (Sp_le (by omega) (sp_take_34_15 (d := 0) hh)) (chkO (a := 34) hh rfl rfl rfl rfl (by show 0 ≤ 8; decide)) (fun h4 r4 => ?_)
      rintro ⟨e4, hh4, f4, t0, t1, t2⟩
      rw [e4]
      refine E_al rfl L0 ?_
      refine E_ogr rfl hh4 rfl (q := 52) rfl ?_
      refine E_il rfl L1 ?_
      refine E_ci 1 rfl (by decide) ?_
      refine E_zasA rfl hh4 rfl (by decide) ?_
      refine E_ci 0 rfl (by decide) ?_
      refine E_rti rfl (.inl ⟨1, by omega, rfl, ⟨fun j hj => ?_, fun i hi => ?_, fun i hi => ?_, fun i hi => ?_⟩, fun q hq j => ?_, fun j hj hne => ?_⟩)
      · show gi (pt h4 52 1 1) 34 j = _
        rw [gi_ne (by omega)]; exact t0 j hj
      · show gi (pt h4 52 1 1) 37 i = gi h 18 i
        rw [gi_ne (by omega)]; exact (t1 i hi).2.2.1
      · show gi (pt h4 52 1 1) 35 i = gi h 16 i ∧ gi (pt h4 52 1 1) 36 i = gi h 17 i ∧ gi (pt h4 52 1 1) 38 i = gi h 19 i ∧ gi (pt h4 52 1 1) 39 i = gi h 20 i
        rw [gi_ne (by omega), gi_ne (by omega), gi_ne (by omega), gi_ne (by omega)]
        obtain ⟨a1, a2, -, a4, a5⟩ := t1 i hi
        exact ⟨a1, a2, a4, a5⟩
      · show gi (pt h4 52 1 1) 40 i = gi h 21 i ∧ gi (pt h4 52 1 1) 41 i = gi h 22 i ∧ gi (pt h4 52 1 1) 42 i = gi h 23 i
        rw [gi_ne (by omega), gi_ne (by omega), gi_ne (by omega)]
        exact t2 i hi
      · rw [gi_ne (by omega), fr_gi f4 (rg_no (kB_at (A := 15) rfl hq) _)]
      · match j, hj, hne with
        | 0, _, hne => exact fun q hq i => by show gi (pt h4 52 1 1) (25 + q) i = gi h (25 + q) i; rw [gi_ne (by omega), fr_gi f4 (rg_no (kB_at (A := 25) rfl hq) _)]
        | 1, _, hne => exact absurd rfl hne
        | 2, _, hne => exact fun q hq i => by show gi (pt h4 52 1 1) (43 + q) i = gi h (43 + q) i; rw [gi_ne (by omega), fr_gi f4 (rg_no (kB_at (A := 43) rfl hq) _)]
    | 2, _ =>
      refine E_al rfl L0 ?_
      refine E_ogr rfl hh rfl (q := 24) rfl ?_
      refine E_il rfl L1 ?_
      refine E_aal rfl hh rfl (q := 43) rfl (by decide) ?_
      refine E_al rfl L0 ?_
      refine E_ogr rfl hh rfl (q := 15) rfl ?_
      refine E_call rfl (Sp_le (by omega) (sp_take_43_15 (d := 0) hh)) (chkO (a := 43) hh rfl rfl rfl rfl (by show 0 ≤ 8; decide)) (fun h4 r4 => ?_)
      rintro ⟨e4, hh4, f4, t0, t1, t2⟩
      rw [e4]
      refine E_al rfl L0 ?_
      refine E_ogr rfl hh4 rfl (q := 52) rfl ?_
      refine E_il rfl L1 ?_
      refine E_ci 1 rfl (by decide) ?_
      refine E_zasA rfl hh4 rfl (by decide) ?_
      refine E_ci 0 rfl (by decide) ?_
      refine E_rti rfl (.inl ⟨2, by omega, rfl, ⟨fun j hj => ?_, fun i hi => ?_, fun i hi => ?_, fun i hi => ?_⟩, fun q hq j => ?_, fun j hj hne => ?_⟩)
      · show gi (pt h4 52 2 1) 43 j = _
        rw [gi_ne (by omega)]; exact t0 j hj
      · show gi (pt h4 52 2 1) 46 i = gi h 18 i
        rw [gi_ne (by omega)]; exact (t1 i hi).2.2.1
      · show gi (pt h4 52 2 1) 44 i = gi h 16 i ∧ gi (pt h4 52 2 1) 45 i = gi h 17 i ∧ gi (pt h4 52 2 1) 47 i = gi h 19 i ∧ gi (pt h4 52 2 1) 48 i = gi h 20 i
        rw [gi_ne (by omega), gi_ne (by omega), gi_ne (by omega), gi_ne (by omega)]
        obtain ⟨a1, a2, -, a4, a5⟩ := t1 i hi
        exact ⟨a1, a2, a4, a5⟩
      · show gi (pt h4 52 2 1) 49 i = gi h 21 i ∧ gi (pt h4 52 2 1) 50 i = gi h 22 i ∧ gi (pt h4 52 2 1) 51 i = gi h 23 i
        rw [gi_ne (by omega), gi_ne (by omega), gi_ne (by omega)]
        exact t2 i hi
      · rw [gi_ne (by omega), fr_gi f4 (rg_no (kB_at (A := 15) rfl hq) _)]
      · match j, hj, hne with
        | 0, _, hne => exact fun q hq i => by show gi (pt h4 52 2 1) (25 + q) i = gi h (25 + q) i; rw [gi_ne (by omega), fr_gi f4 (rg_no (kB_at (A := 25) rfl hq) _)]
        | 1, _, hne => exact fun q hq i => by show gi (pt h4 52 2 1) (34 + q) i = gi h (34 + q) i; rw [gi_ne (by omega), fr_gi f4 (rg_no (kB_at (A := 34) rfl hq) _)]
        | 2, _, hne => exact absurd rfl hne
  · have z0 : (0 : Int32).toInt = 0 := rfl
    by_cases h0 : x < 0
    · refine E_ifT rfl (decide_eq_true h0) ?_
      refine E_c rfl ?_
      exact E_rti rfl (.inr ⟨hr, rfl⟩)
    · refine E_ifF rfl (decide_eq_false h0) ?_
      refine E_il rfl L1 ?_
      refine E_ci 3 rfl (by decide) ?_
      refine E_icF rfl (decide_eq_false (fun q => hr ?_)) ?_
      · have q1 := Int32.lt_iff_toInt_lt.mp q
        rw [nJ_toInt (by omega)] at q1
        have q2 : ¬ x.toInt < (0 : Int32).toInt := fun z => h0 (Int32.lt_iff_toInt_lt.mpr z)
        omega
      · refine E_c rfl ?_
        exact E_rti rfl (.inr ⟨hr, rfl⟩)
theorem sp_backX8 (hh : HH h) : Sp 20 82 h [.ref 0, .int x] (fun h' _ => BX8 h x h') := by
  refine Sp_of (d := 19) aiX8_back rfl rfl rfl ?_
  have L0 : pm_get (lv_args 0 [.ref 0, .int x]) 0 = some (.ref 0) := rfl
  have L1 : pm_get (lv_args 0 [.ref 0, .int x]) 1 = some (.int x) := rfl
  generalize lv_args 0 [.ref 0, .int x] = lv at L0 L1 ⊢
  refine E_il rfl L1 ?_
  by_cases hr : 0 ≤ x.toInt ∧ x.toInt ≤ 2
  · obtain ⟨k, hk, rfl⟩ := nJ_of2 (n := 2) hr.1 hr.2
    refine E_ifF rfl (decide_eq_false (nJ_lt0 (by omega))) ?_
    refine E_il rfl L1 ?_
    refine E_ci 3 rfl (by decide) ?_
    refine E_icT rfl (decide_eq_true ((nJ_lt (by omega) (by omega)).mpr (by omega))) ?_
    refine E_al rfl L0 ?_
    refine E_ogr rfl hh rfl (q := 52) rfl ?_
    refine E_il rfl L1 ?_
    refine E_zalA rfl hh rfl (by omega) ?_
    by_cases hz : gi h 52 k = 0
    · refine E_ifF rfl (decide_eq_false (fun q => q hz)) ?_
      refine E_c rfl ?_
      refine E_rti rfl (.inr ⟨?_, rfl⟩)
      rintro ⟨j, hj, ej, nj⟩
      rw [(nJ_eq (by omega) (by omega)).mp ej] at hz
      exact nj hz
    · refine E_ifT rfl (decide_eq_true hz) ?_
      match k, hk, hz with
      | 0, _, hz =>
        refine E_al rfl L0 ?_
        refine E_ogr rfl hh rfl (q := 15) rfl ?_
        refine E_al rfl L0 ?_
        refine E_ogr rfl hh rfl (q := 24) rfl ?_
        refine E_il rfl L1 ?_
        refine E_aal rfl hh rfl (q := 25) rfl (by decide) ?_
        refine E_call rfl (Sp_le (by omega) (sp_take_15_25 (d := 0) hh)) (chkO (a := 15) hh rfl rfl rfl rfl (by show 0 ≤ 8; decide)) (fun h4 r4 => ?_)
        rintro ⟨e4, hh4, f4, t0, t1, t2⟩
        rw [e4]
        refine E_ci 0 rfl (by decide) ?_
        refine E_rti rfl (.inl ⟨0, by omega, rfl, hz, ⟨t0, fun i hi => (t1 i hi).2.2.1, fun i hi => ⟨(t1 i hi).1, (t1 i hi).2.1, (t1 i hi).2.2.2.1, (t1 i hi).2.2.2.2⟩, t2⟩, fun j hj => ?_⟩)
        match j, hj with
        | 0, _ => exact fun q hq i => by show gi h4 (25 + q) i = gi h (25 + q) i; rw [fr_gi f4 (rg_no (kB_at (A := 25) rfl hq) _)]
        | 1, _ => exact fun q hq i => by show gi h4 (34 + q) i = gi h (34 + q) i; rw [fr_gi f4 (rg_no (kB_at (A := 34) rfl hq) _)]
        | 2, _ => exact fun q hq i => by show gi h4 (43 + q) i = gi h (43 + q) i; rw [fr_gi f4 (rg_no (kB_at (A := 43) rfl hq) _)]
      | 1, _, hz =>
        refine E_al rfl L0 ?_
        refine E_ogr rfl hh rfl (q := 15) rfl ?_
        refine E_al rfl L0 ?_
        refine E_ogr rfl hh rfl (q := 24) rfl ?_
        refine E_il rfl L1 ?_
        refine E_aal rfl hh rfl (q := 34) rfl (by decide) ?_
        refine E_call rfl (Sp_le (by omega) (sp_take_15_34 (d := 0) hh)) (chkO (a := 15) hh rfl rfl rfl rfl (by show 0 ≤ 8; decide)) (fun h4 r4 => ?_)
        rintro ⟨e4, hh4, f4, t0, t1, t2⟩
        rw [e4]
        refine E_ci 0 rfl (by decide) ?_
        refine E_rti rfl (.inl ⟨1, by omega, rfl, hz, ⟨t0, fun i hi => (t1 i hi).2.2.1, fun i hi => ⟨(t1 i hi).1, (t1 i hi).2.1, (t1 i hi).2.2.2.1, (t1 i hi).2.2.2.2⟩, t2⟩, fun j hj => ?_⟩)
        match j, hj with
        | 0, _ => exact fun q hq i => by show gi h4 (25 + q) i = gi h (25 + q) i; rw [fr_gi f4 (rg_no (kB_at (A := 25) rfl hq) _)]
        | 1, _ => exact fun q hq i => by show gi h4 (34 + q) i = gi h (34 + q) i; rw [fr_gi f4 (rg_no (kB_at (A := 34) rfl hq) _)]
        | 2, _ => exact fun q hq i => by show gi h4 (43 + q) i = gi h (43 + q) i; rw [fr_gi f4 (rg_no (kB_at (A := 43) rfl hq) _)]
      | 2, _, hz =>
        refine E_al rfl L0 ?_
        refine E_ogr rfl hh rfl (q := 15) rfl ?_
        refine E_al rfl L0 ?_
        refine E_ogr rfl hh rfl (q := 24) rfl ?_
        refine E_il rfl L1 ?_
        refine E_aal rfl hh rfl (q := 43) rfl (by decide) ?_
        refine E_call rfl (Sp_le (by omega) (sp_take_15_43 (d := 0) hh)) (chkO (a := 15) hh rfl rfl rfl rfl (by show 0 ≤ 8; decide)) (fun h4 r4 => ?_)
        rintro ⟨e4, hh4, f4, t0, t1, t2⟩
        rw [e4]
        refine E_ci 0 rfl (by decide) ?_
        refine E_rti rfl (.inl ⟨2, by omega, rfl, hz, ⟨t0, fun i hi => (t1 i hi).2.2.1, fun i hi => ⟨(t1 i hi).1, (t1 i hi).2.1, (t1 i hi).2.2.2.1, (t1 i hi).2.2.2.2⟩, t2⟩, fun j hj => ?_⟩)
        match j, hj with
        | 0, _ => exact fun q hq i => by show gi h4 (25 + q) i = gi h (25 + q) i; rw [fr_gi f4 (rg_no (kB_at (A := 25) rfl hq) _)]
        | 1, _ => exact fun q hq i => by show gi h4 (34 + q) i = gi h (34 + q) i; rw [fr_gi f4 (rg_no (kB_at (A := 34) rfl hq) _)]
        | 2, _ => exact fun q hq i => by show gi h4 (43 + q) i = gi h (43 + q) i; rw [fr_gi f4 (rg_no (kB_at (A := 43) rfl hq) _)]
  · have z0 : (0 : Int32).toInt = 0 := rfl
    by_cases h0 : x < 0
    · refine E_ifT rfl (decide_eq_true h0) ?_
      refine E_c rfl ?_
      exact E_rti rfl (.inr ⟨fun ⟨j, hj, ej, _⟩ => hr (by rw [ej, nJ_toInt (by omega)]; omega), rfl⟩)
    · refine E_ifF rfl (decide_eq_false h0) ?_
      refine E_il rfl L1 ?_
      refine E_ci 3 rfl (by decide) ?_
      refine E_icF rfl (decide_eq_false (fun q => hr ?_)) ?_
      · have q1 := Int32.lt_iff_toInt_lt.mp q
        rw [nJ_toInt (by omega)] at q1
        have q2 : ¬ x.toInt < (0 : Int32).toInt := fun z => h0 (Int32.lt_iff_toInt_lt.mpr z)
        omega
      · refine E_c rfl ?_
        exact E_rti rfl (.inr ⟨fun ⟨j, hj, ej, _⟩ => hr (by rw [ej, nJ_toInt (by omega)]; omega), rfl⟩)
end IM8
section IM9
variable {h : pm_H} {d : Nat} {x : Int32}
end IM9
end
