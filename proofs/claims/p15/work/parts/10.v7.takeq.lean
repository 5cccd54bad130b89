/-! a street taken over: the summaries of take by hand (wants t1, t52b) -/
theorem FA_cp {h h' : pm_H} {T G T' G' : Nat} (hh : HH h) (hh' : HH h') (c1 : ∀ i, i < 20 → bd T i = some (0, 1)) (c2 : ∀ i, i < 20 → bd G i = some (0, 8)) (d1 : ∀ i, i < 20 → bd T' i = some (0, 1)) (d2 : ∀ i, i < 20 → bd G' i = some (0, 8)) (e : ∀ i, i < 20 → gi h' G' i = gi h G i ∧ gi h' T' i = gi h T i) (F : FA T 0 G 0 1 20 h) : FA T' 0 G' 0 1 20 h' := by
  intro i hi hj t g ht hg hz
  have k : 0 + 1 * i = i := by omega
  rw [k] at ht hg
  rw [(ld_gi hh' (d1 i hi)).1] at ht
  rw [(ld_gi hh' (d2 i hi)).1] at hg
  injection ht with ht
  injection ht with ht
  injection hg with hg
  injection hg with hg
  exact F i hi hj t g (by rw [k, (ld_gi hh (c1 i hi)).1, ← (e i hi).2, ht]) (by rw [k, (ld_gi hh (c2 i hi)).1, ← (e i hi).1, hg]) hz
theorem tk_sum {A B fA fB TA GA TB GB : Nat} {M : List Rng} (sp : ∀ {h : pm_H}, HH h → Sp 1 54 h [.ref A, .ref B] (fun h' r => r = none ∧ HH h' ∧ fr_g M h h' ∧ ∀ i, i < 20 → gi h' GA i = gi h GB i ∧ gi h' TA i = gi h TB i)) (b1 : ∀ i, i < 20 → bd TB i = some (0, 1)) (b2 : ∀ i, i < 20 → bd GB i = some (0, 8)) (b3 : ∀ i, i < 20 → bd TA i = some (0, 1)) (b4 : ∀ i, i < 20 → bd GA i = some (0, 8)) (eB : ∀ h, w0.1.2.1 fB h = FA TB 0 GB 0 1 20 h) (eA : ∀ h, w0.1.2.1 fA h = FA TA 0 GA 0 1 20 h) {fs : List Nat} (hfs : fB ∈ fs) : sum_g w0 (pm_Rt pm_P 1) (54, [cR A, cR B], [], fs, M, [([cR A, cR B], [], [fA], none)]) := by
  intro h as hh ha _ hf
  match as, ha with
  | [.ref a, .ref b], ⟨h1, h2, _⟩ =>
    have h1 : a = A := h1
    have h2 : b = B := h2
    subst h1
    subst h2
    obtain ⟨h', r, p1, rfl, hh', fr, t⟩ := sp hh
    have fb : FA TB 0 GB 0 1 20 h := (eB h) ▸ hf fB hfs
    refine ⟨h', none, p1, hh', fr, _, List.mem_cons_self, ⟨rfl, rfl, trivial⟩, fun _ hq => absurd hq List.not_mem_nil, fun i hi => ?_, trivial⟩
    rw [List.mem_singleton.mp hi, eA]
    exact FA_cp hh hh' b1 b2 b3 b4 t fb
theorem tkq_43_15 : sum_g w0 (pm_Rt pm_P 1) (54, [cR 43, cR 15], [], [41, 104], TkF_43_15, [([cR 43, cR 15], [], [104], none)]) := by
  refine tk_sum (TA := 51) (GA := 50) (TB := 23) (GB := 22) (fB := 41) (fun hh => Sp_mono ?_ (sp_take_43_15 (d := 0) hh)) (fun i hi => bd_u rfl (by omega)) (fun i hi => bd_u rfl (by omega)) (fun i hi => bd_u rfl (by omega)) (fun i hi => bd_u rfl (by omega)) (fun _ => rfl) (fun _ => rfl) (List.mem_cons_self)
  rintro h' r ⟨e1, e2, e3, -, -, e4⟩
  exact ⟨e1, e2, e3, fun i hi => ⟨(e4 i hi).2.1, (e4 i hi).2.2⟩⟩
theorem tkq_34_15 : sum_g w0 (pm_Rt pm_P 1) (54, [cR 34, cR 15], [], [41, 83], TkF_34_15, [([cR 34, cR 15], [], [83], none)]) := by
  refine tk_sum (TA := 42) (GA := 41) (TB := 23) (GB := 22) (fB := 41) (fun hh => Sp_mono ?_ (sp_take_34_15 (d := 0) hh)) (fun i hi => bd_u rfl (by omega)) (fun i hi => bd_u rfl (by omega)) (fun i hi => bd_u rfl (by omega)) (fun i hi => bd_u rfl (by omega)) (fun _ => rfl) (fun _ => rfl) (List.mem_cons_self)
  rintro h' r ⟨e1, e2, e3, -, -, e4⟩
  exact ⟨e1, e2, e3, fun i hi => ⟨(e4 i hi).2.1, (e4 i hi).2.2⟩⟩
theorem tkq_25_15 : sum_g w0 (pm_Rt pm_P 1) (54, [cR 25, cR 15], [], [41, 62], TkF_25_15, [([cR 25, cR 15], [], [62], none)]) := by
  refine tk_sum (TA := 33) (GA := 32) (TB := 23) (GB := 22) (fB := 41) (fun hh => Sp_mono ?_ (sp_take_25_15 (d := 0) hh)) (fun i hi => bd_u rfl (by omega)) (fun i hi => bd_u rfl (by omega)) (fun i hi => bd_u rfl (by omega)) (fun i hi => bd_u rfl (by omega)) (fun _ => rfl) (fun _ => rfl) (List.mem_cons_self)
  rintro h' r ⟨e1, e2, e3, -, -, e4⟩
  exact ⟨e1, e2, e3, fun i hi => ⟨(e4 i hi).2.1, (e4 i hi).2.2⟩⟩
theorem tkq_15_43 : sum_g w0 (pm_Rt pm_P 1) (54, [cR 15, cR 43], [], [41, 104], TkF_15_43, [([cR 15, cR 43], [], [41], none)]) := by
  refine tk_sum (TA := 23) (GA := 22) (TB := 51) (GB := 50) (fB := 104) (fun hh => Sp_mono ?_ (sp_take_15_43 (d := 0) hh)) (fun i hi => bd_u rfl (by omega)) (fun i hi => bd_u rfl (by omega)) (fun i hi => bd_u rfl (by omega)) (fun i hi => bd_u rfl (by omega)) (fun _ => rfl) (fun _ => rfl) (List.mem_cons_of_mem _ List.mem_cons_self)
  rintro h' r ⟨e1, e2, e3, -, -, e4⟩
  exact ⟨e1, e2, e3, fun i hi => ⟨(e4 i hi).2.1, (e4 i hi).2.2⟩⟩
theorem tkq_15_34 : sum_g w0 (pm_Rt pm_P 1) (54, [cR 15, cR 34], [], [41, 83], TkF_15_34, [([cR 15, cR 34], [], [41], none)]) := by
  refine tk_sum (TA := 23) (GA := 22) (TB := 42) (GB := 41) (fB := 83) (fun hh => Sp_mono ?_ (sp_take_15_34 (d := 0) hh)) (fun i hi => bd_u rfl (by omega)) (fun i hi => bd_u rfl (by omega)) (fun i hi => bd_u rfl (by omega)) (fun i hi => bd_u rfl (by omega)) (fun _ => rfl) (fun _ => rfl) (List.mem_cons_of_mem _ List.mem_cons_self)
  rintro h' r ⟨e1, e2, e3, -, -, e4⟩
  exact ⟨e1, e2, e3, fun i hi => ⟨(e4 i hi).2.1, (e4 i hi).2.2⟩⟩
theorem tkq_15_25 : sum_g w0 (pm_Rt pm_P 1) (54, [cR 15, cR 25], [], [41, 62], TkF_15_25, [([cR 15, cR 25], [], [41], none)]) := by
  refine tk_sum (TA := 23) (GA := 22) (TB := 33) (GB := 32) (fB := 62) (fun hh => Sp_mono ?_ (sp_take_15_25 (d := 0) hh)) (fun i hi => bd_u rfl (by omega)) (fun i hi => bd_u rfl (by omega)) (fun i hi => bd_u rfl (by omega)) (fun i hi => bd_u rfl (by omega)) (fun _ => rfl) (fun _ => rfl) (List.mem_cons_of_mem _ List.mem_cons_self)
  rintro h' r ⟨e1, e2, e3, -, -, e4⟩
  exact ⟨e1, e2, e3, fun i hi => ⟨(e4 i hi).2.1, (e4 i hi).2.2⟩⟩
theorem tkq_15_4 : sum_g w0 (pm_Rt pm_P 1) (54, [cR 15, cR 4], [], [20, 41], TkF_15_4, [([cR 15, cR 4], [], [41], none)]) := by
  refine tk_sum (TA := 23) (GA := 22) (TB := 12) (GB := 11) (fB := 20) (fun hh => Sp_mono ?_ (sp_take_15_4 (d := 0) hh)) (fun i hi => bd_u rfl (by omega)) (fun i hi => bd_u rfl (by omega)) (fun i hi => bd_u rfl (by omega)) (fun i hi => bd_u rfl (by omega)) (fun _ => rfl) (fun _ => rfl) (List.mem_cons_self)
  rintro h' r ⟨e1, e2, e3, -, -, e4⟩
  exact ⟨e1, e2, e3, fun i hi => ⟨(e4 i hi).2.1, (e4 i hi).2.2⟩⟩
