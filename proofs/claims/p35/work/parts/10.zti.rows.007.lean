section
noncomputable def hp0 : pm_H := [.inr (8, [.ref 1, .ref 3, .ref 15, .ref 24, .ref 52, .ref 53, .ref 62, .ref 64, .ref 70, .ref 72, .ref 75, .ref 76]), .inr (6, [.ref 2, .int 0]), .inl (1, 500, .inl (fun _ => 0)), .inr (2, [.ref 4, .int 0, .int (-1), .ref 1, .ref 13, .int 0, .int 0, .int 0, .int 0, .int 0]), .inr (5, [.int 0, .int 0, .int 0, .int 0, .int 0, .int 0, .int 0, .ref 5, .ref 6, .ref 7, .ref 8, .ref 9, .ref 10, .ref 11, .ref 12]), .inl (0, 8, .inl (fun _ => 0)), .inl (0, 8, .inl (fun _ => 0)), .inl (0, 8, .inl (fun _ => 0)), .inl (0, 8, .inl (fun _ => 0)), .inl (0, 8, .inl (fun _ => 0)), .inl (0, 20, .inl (fun _ => 0)), .inl (0, 20, .inl (fun _ => 0)), .inl (2, 20, .inl (fun _ => 0)), .inr (0, [.ref 14, .int 0]), .inl (0, 10, .inl (fun _ => 0)), .inr (5, [.int 0, .int 0, .int 0, .int 0, .int 0, .int 0, .int 0, .ref 16, .ref 17, .ref 18, .ref 19, .ref 20, .ref 21, .ref 22, .ref 23]), .inl (0, 8, .inl (fun _ => 0)), .inl (0, 8, .inl (fun _ => 0)), .inl (0, 8, .inl (fun _ => 0)), .inl (0, 8, .inl (fun _ => 0)), .inl (0, 8, .inl (fun _ => 0)), .inl (0, 20, .inl (fun _ => 0)), .inl (0, 20, .inl (fun _ => 0)), .inl (2, 20, .inl (fun _ => 0)), .inl (4, 3, .inr (.inr (.inr (.inr (va_up (va_up (va_up (fun _ => none) 0 (some 25)) 1 (some 34)) 2 (some 43)))))), .inr (5, [.int 0, .int 0, .int 0, .int 0, .int 0, .int 0, .int 0, .ref 26, .ref 27, .ref 28, .ref 29, .ref 30, .ref 31, .ref 32, .ref 33]), .inl (0, 8, .inl (fun _ => 0)), .inl (0, 8, .inl (fun _ => 0)), .inl (0, 8, .inl (fun _ => 0)), .inl (0, 8, .inl (fun _ => 0)), .inl (0, 8, .inl (fun _ => 0)), .inl (0, 20, .inl (fun _ => 0)), .inl (0, 20, .inl (fun _ => 0)), .inl (2, 20, .inl (fun _ => 0)), .inr (5, [.int 0, .int 0, .int 0, .int 0, .int 0, .int 0, .int 0, .ref 35, .ref 36, .ref 37, .ref 38, .ref 39, .ref 40, .ref 41, .ref 42]), .inl (0, 8, .inl (fun _ => 0)), .inl (0, 8, .inl (fun _ => 0)), .inl (0, 8, .inl (fun _ => 0)), .inl (0, 8, .inl (fun _ => 0)), .inl (0, 8, .inl (fun _ => 0)), .inl (0, 20, .inl (fun _ => 0)), .inl (0, 20, .inl (fun _ => 0)), .inl (2, 20, .inl (fun _ => 0)), .inr (5, [.int 0, .int 0, .int 0, .int 0, .int 0, .int 0, .int 0, .ref 44, .ref 45, .ref 46, .ref 47, .ref 48, .ref 49, .ref 50, .ref 51]), .inl (0, 8, .inl (fun _ => 0)), .inl (0, 8, .inl (fun _ => 0)), .inl (0, 8, .inl (fun _ => 0)), .inl (0, 8, .inl (fun _ => 0)), .inl (0, 8, .inl (fun _ => 0)), .inl (0, 20, .inl (fun _ => 0)), .inl (0, 20, .inl (fun _ => 0)), .inl (2, 20, .inl (fun _ => 0)), .inl (2, 3, .inl (fun _ => 0)), .inl (5, 4, .inr (.inr (.inr (.inr (va_up (va_up (va_up (va_up (fun _ => none) 0 (some 54)) 1 (some 56)) 2 (some 58)) 3 (some 60)))))), .inr (4, [.ref 55, .int 0, .int 0, .int 0]), .inl (3, 60, .inr (.inl (fun _ => 0))), .inr (4, [.ref 57, .int 0, .int 0, .int 0]), .inl (3, 60, .inr (.inl (fun _ => 0))), .inr (4, [.ref 59, .int 0, .int 0, .int 0]), .inl (3, 60, .inr (.inl (fun _ => 0))), .inr (4, [.ref 61, .int 0, .int 0, .int 0]), .inl (3, 60, .inr (.inl (fun _ => 0))), .inr (1, [.ref 63, .int 0, .int 0, .int 0]), .inl (0, 8, .inl (fun _ => 0)), .inr (7, [.ref 65, .ref 66, .ref 67, .ref 68, .ref 69, .int 0, .int 0]), .inl (0, 9, .inl (fun _ => 0)), .inl (0, 9, .inl (fun _ => 0)), .inl (0, 9, .inl (fun _ => 0)), .inl (0, 9, .inl (fun _ => 0)), .inl (0, 9, .inl (fun _ => 0)), .inr (0, [.ref 71, .int 0]), .inl (0, 10, .inl (fun _ => 0)), .inr (3, [.ref 73, .ref 74]), .inl (0, 256, .inl (fun _ => 0)), .inl (0, 256, .inl (fun _ => 0)), .inl (0, 8, .inl (fun _ => 0)), .inl (0, 64, .inl (fun _ => 0)), .inr (9, [.int 0, .ref 78, .ref 79, .ref 80, .ref 81, .ref 82, .int 0, .int 0, .int 0, .int 0, .int 0, .long 0, .int 0, .int 0, .int 0, .int (-1), .ref 83, .ref 84, .ref 85, .ref 86, .ref 87, .ref 88, .int 0, .int 0, .ref 89, .ref 90, .ref 91, .int 0, .ref 92, .ref 93, .ref 94, .ref 95, .ref 96, .ref 97, .ref 98, .int 0, .int 0, .ref 99, .ref 100, .int 0, .ref 101, .int 0, .int 0, .int 0, .ref 102]), .inl (0, 4, .inl (upd (upd (upd (upd (fun _ => 0) 0 (-1)) 1 (-1)) 2 (-1)) 3 (-1))), .inl (0, 4, .inl (fun _ => 0)), .inl (3, 240, .inr (.inl (fun _ => 0))), .inl (3, 60, .inr (.inl (fun _ => 0))), .inl (1, 500, .inl (fun _ => 0)), .inl (0, 5, .inl (fun _ => 0)), .inl (0, 30, .inl (fun _ => 0)), .inl (0, 80, .inl (fun _ => 0)), .inl (0, 80, .inl (fun _ => 0)), .inl (0, 300, .inl (fun _ => 0)), .inl (2, 3, .inl (fun _ => 0)), .inl (0, 8, .inl (fun _ => 0)), .inl (0, 10, .inl (fun _ => 0)), .inl (0, 8, .inl (fun _ => 0)), .inl (0, 9, .inl (fun _ => 0)), .inl (0, 9, .inl (fun _ => 0)), .inl (0, 9, .inl (fun _ => 0)), .inl (0, 8, .inl (fun _ => 0)), .inl (0, 18, .inl (fun _ => 0)), .inl (0, 8, .inl (fun _ => 0)), .inl (0, 9, .inl (fun _ => 0)), .inl (0, 5, .inl (fun _ => 0)), .inl (0, 6, .inl (fun _ => 0)), .inl (0, 10, .inl (fun _ => 0)), .inl (0, 72, .inl (fun _ => 0))]
end
section
/-! the law's invariant (written by gen_t20.py) -/
noncomputable def CF : List Nat := [20, 41, 62, 83, 104]
noncomputable def IVh (h : pm_H) : Prop := HH h ∧ (∀ i ∈ CF, w0.1.2.1 i h) ∧ RV h
theorem fact_fr {M : List Rng} {h h' : pm_H} {i : Nat} (hM : M.all (fun r => rg_dis (sp0 i) r.1 r.2.1 r.2.2) = true) (hh : HH h) (hh' : HH h') (hf : fr_g M h h') (hi : w0.1.2.1 i h) : w0.1.2.1 i h' := by
  refine w0.2 i h h' hh hh' (fun a k hak => hf a k ?_) hi
  cases hb : rg_in M a k with
  | false => rfl
  | true =>
    obtain ⟨r, hr, hc⟩ := List.any_eq_true.mp hb
    simp only [Bool.and_eq_true] at hc
    have h1 := List.all_eq_true.mp hM r hr
    have he := Nat.eq_of_beq_eq_true hc.1
    subst he
    have h2 : rg_in (sp0 i) r.1 k = false := rg_dis_in h1 (Nat.le_of_ble_eq_true hc.2.1) (Nat.le_of_ble_eq_true hc.2.2)
    have h3 : rg_in (sp0 i) r.1 k = true := hak
    rw [h2] at h3
    cases h3
theorem IVh_fr {M : List Rng} {h h' : pm_H} (hM : CF.all (fun i => M.all (fun r => rg_dis (sp0 i) r.1 r.2.1 r.2.2)) = true) (hf : fr_g M h h') (hh' : HH h') (I : IVh h) (V : RV h') : IVh h' :=
  ⟨hh', fun i hi => fact_fr (List.all_eq_true.mp hM i hi) I.1 hh' hf (I.2.1 i hi), V⟩
theorem top_sum {d : Nat} {S : Sum1} (q : sum_g w0 (pm_Rt pm_P d) S) (hm : S.2.2.1 = []) (hp : S.2.2.2.1.all (fun i => CF.contains i || Nat.beq i 125) = true) (hv : S.2.2.2.2.1.all (fun r => !(Nat.beq r.1 84) && (!(Nat.beq r.1 85) && !(Nat.beq r.1 87))) = true) (hk : S.2.2.2.2.2.all (fun C => CF.all (fun i => C.2.2.1.contains i || S.2.2.2.2.1.all (fun r => rg_dis (sp0 i) r.1 r.2.1 r.2.2))) = true) {h : pm_H} {as : List Value} (I : IVh h) (ha : f2 cv_g S.2.1 as) : Sp d S.1 h as (fun h' r => IVh h' ∧ fr_g S.2.2.2.2.1 h h' ∧ ∃ C ∈ S.2.2.2.2.2, mm_g h' C.2.1 ∧ rv_g h' C.2.2.2 r) := by
  refine Sp_mono ?_ (Sp_sum q I.1 ha (by rw [hm]; exact fun _ hq => absurd hq List.not_mem_nil) (fun i hi => ?_))
  · rintro h' r ⟨q1, q2, C, hC, -, q5, q3, q4⟩
    refine ⟨⟨q1, fun i hi => ?_, RV_fr I.1 hv q2 I.2.2⟩, q2, C, hC, q5, q4⟩
    have h1 := List.all_eq_true.mp (List.all_eq_true.mp hk C hC) i hi
    rw [Bool.or_eq_true] at h1
    cases h1 with
    | inl h1 => exact q3 i (by simpa using h1)
    | inr h1 => exact fact_fr h1 I.1 q1 q2 (I.2.1 i hi)
  · have h1 := List.all_eq_true.mp hp i hi
    rw [Bool.or_eq_true] at h1
    cases h1 with
    | inl h1 => exact I.2.1 i (by simpa using h1)
    | inr h1 => rw [Nat.eq_of_beq_eq_true h1]; exact FAg_fact I.1 (I.2.2.2 0 (by omega))
noncomputable def isI (C : Cs) : Bool := match C.2.2.2 with
  | some (.inl (.inl _)) => true
  | some (.inr _) => true
  | _ => false
noncomputable def isL (C : Cs) : Bool := match C.2.2.2 with
  | some (.inl (.inr (.inl _))) => true
  | _ => false
theorem rv_isI {C : Cs} {h : pm_H} {r : Option Value} (hC : isI C = true) (hv : rv_g h C.2.2.2 r) : ∃ x : Int32, r = some (.int x) := by
  unfold isI at hC
  split at hC
  · rename_i c e
    rw [e] at hv
    cases r with
    | none => exact hv.elim
    | some v => cases v with
      | int x => exact ⟨x, rfl⟩
      | _ => exact hv.elim
  · rename_i c e
    rw [e] at hv
    cases r with
    | none => exact hv.elim
    | some v => cases v with
      | int x => exact ⟨x, rfl⟩
      | _ => exact hv.elim
  · cases hC
theorem rv_isL {C : Cs} {h : pm_H} {r : Option Value} (hC : isL C = true) (hv : rv_g h C.2.2.2 r) : ∃ x : Int64, r = some (.long x) := by
  unfold isL at hC
  split at hC
  · rename_i c e
    rw [e] at hv
    cases r with
    | none => exact hv.elim
    | some v => cases v with
      | long x => exact ⟨x, rfl⟩
      | _ => exact hv.elim
  · cases hC
noncomputable def topB (S : Sum1) : Bool := (match S.2.2.1 with | [] => true | _ => false) && (S.2.2.2.1.all (fun i => CF.contains i || Nat.beq i 125) && (S.2.2.2.2.1.all (fun r => !(Nat.beq r.1 84) && (!(Nat.beq r.1 85) && !(Nat.beq r.1 87))) && S.2.2.2.2.2.all (fun C => CF.all (fun i => C.2.2.1.contains i || S.2.2.2.2.1.all (fun r => rg_dis (sp0 i) r.1 r.2.1 r.2.2)))))
theorem topB_m {S : Sum1} (h : topB S = true) : S.2.2.1 = [] := by
  unfold topB at h
  rw [Bool.and_eq_true] at h
  have h1 := h.1
  split at h1
  · assumption
  · cases h1
theorem topB_r {S : Sum1} (h : topB S = true) : S.2.2.2.1.all (fun i => CF.contains i || Nat.beq i 125) = true ∧ S.2.2.2.2.1.all (fun r => !(Nat.beq r.1 84) && (!(Nat.beq r.1 85) && !(Nat.beq r.1 87))) = true ∧ S.2.2.2.2.2.all (fun C => CF.all (fun i => C.2.2.1.contains i || S.2.2.2.2.1.all (fun r => rg_dis (sp0 i) r.1 r.2.1 r.2.2))) = true := by
  unfold topB at h
  rw [Bool.and_eq_true, Bool.and_eq_true, Bool.and_eq_true] at h
  exact h.2
theorem top_all {d : Nat} {S : Sum1} (q : sum_g w0 (pm_Rt pm_P d) S) (hb : topB S = true) {h : pm_H} {as : List Value} (I : IVh h) (ha : f2 cv_g S.2.1 as) : Sp d S.1 h as (fun h' r => IVh h' ∧ fr_g S.2.2.2.2.1 h h' ∧ ∃ C ∈ S.2.2.2.2.2, mm_g h' C.2.1 ∧ rv_g h' C.2.2.2 r) := by
  obtain ⟨b1, b2, b3⟩ := topB_r hb
  exact top_sum q (topB_m hb) b1 b2 b3 I ha
theorem top_int {d : Nat} {S : Sum1} (q : sum_g w0 (pm_Rt pm_P d) S) (hb : topB S = true) (hi : S.2.2.2.2.2.all isI = true) {h : pm_H} {as : List Value} (I : IVh h) (ha : f2 cv_g S.2.1 as) : Sp d S.1 h as (fun h' r => IVh h' ∧ fr_g S.2.2.2.2.1 h h' ∧ ∃ x : Int32, r = some (.int x)) := by
  refine Sp_mono ?_ (top_all q hb I ha)
  rintro h' r ⟨q1, q2, C, hC, -, q3⟩
  exact ⟨q1, q2, rv_isI (List.all_eq_true.mp hi C hC) q3⟩
theorem top_lng {d : Nat} {S : Sum1} (q : sum_g w0 (pm_Rt pm_P d) S) (hb : topB S = true) (hi : S.2.2.2.2.2.all isL = true) {h : pm_H} {as : List Value} (I : IVh h) (ha : f2 cv_g S.2.1 as) : Sp d S.1 h as (fun h' r => IVh h' ∧ fr_g S.2.2.2.2.1 h h' ∧ ∃ x : Int64, r = some (.long x)) := by
  refine Sp_mono ?_ (top_all q hb I ha)
  rintro h' r ⟨q1, q2, C, hC, -, q3⟩
  exact ⟨q1, q2, rv_isL (List.all_eq_true.mp hi C hC) q3⟩
theorem top_TQ {d y : Nat} {h : pm_H} {as : List Value} (hd : Nat.ble d 100 = true) (I : IVh h) (k : Sp d y h as (TQ h)) : Sp 100 y h as (fun h' r => IVh h' ∧ fr_g TM h h' ∧ ∃ x : Int32, r = some (.int x)) := by
  refine Sp_le (Nat.le_of_ble_eq_true hd) (Sp_mono ?_ k)
  rintro h' r ⟨q1, q2, q3⟩
  exact ⟨IVh_fr (M := TM) (by decide +kernel) q2 q1 I (RV_fr I.1 rfl q2 I.2.2), q2, q3⟩
theorem aI (x : Int32) : cv_g (cI (-2147483648) 2147483647) (.int x) := ⟨ai_lo x, ai_hi x⟩
theorem aL (x : Int64) : cv_g (cL (-9223372036854775808) 9223372036854775807) (.long x) := ⟨al_lo x, al_hi x⟩
theorem hs_f2 : ∀ {hs : List AE} {h : pm_H}, f2 ae_g hs h → hs_g hs h
  | [], [], _ => ⟨rfl, fun a c x h1 _ => by cases h1⟩
  | [], _ :: _, h => h.elim
  | _ :: _, [], h => h.elim
  | c0 :: hs, x0 :: h, hf => by
    have ih := hs_f2 hf.2
    refine ⟨congrArg (· + 1) ih.1, fun a c x h1 h2 => ?_⟩
    cases a with
    | zero => cases h1; cases h2; exact hf.1
    | succ a => exact ih.2 a c x h1 h2
theorem z_arr {p : List (Int × Int)} (hp : p.all (fun q => decide (q.1 ≤ 0) && decide (0 ≤ q.2)) = true) : ∀ (j : Nat) (lo hi : Int), pat_at p j = some (lo, hi) → lo ≤ ((fun _ : Nat => (0 : Int32)) j).toInt ∧ ((fun _ : Nat => (0 : Int32)) j).toInt ≤ hi := by
  intro j lo hi hj
  have h1 := List.all_eq_true.mp hp (lo, hi) (List.mem_of_getElem? hj)
  simp only [Bool.and_eq_true, decide_eq_true_eq] at h1
  exact h1
theorem z_wid : ∀ (j : Nat) (lo hi : Int), pat_at [((-1 : Int), (3 : Int))] j = some (lo, hi) → lo ≤ (upd (upd (upd (upd (fun _ => 0) 0 (-1)) 1 (-1)) 2 (-1)) 3 (-1) j).toInt ∧ (upd (upd (upd (upd (fun _ => 0) 0 (-1)) 1 (-1)) 2 (-1)) 3 (-1) j).toInt ≤ hi := by
  intro j lo hi hj
  have h1 : (lo, hi) = (-1, 3) := List.mem_singleton.mp (List.mem_of_getElem? hj)
  cases h1
  unfold upd
  have e1 : (-1 : Int32).toInt = -1 := rfl
  have e0 : (0 : Int32).toInt = 0 := rfl
  split
  · omega
  · split
    · omega
    · split
      · omega
      · split
        · omega
        · show (-1 : Int) ≤ (0 : Int32).toInt ∧ (0 : Int32).toInt ≤ 3; omega
noncomputable def af_b (c : AF) (v : Value) : Bool := match c, v with
  | .inl (lo, hi), .int x => decide (lo ≤ x.toInt) && decide (x.toInt ≤ hi)
  | .inr (.inl ()), .long _ => true
  | .inr (.inr (.inl a)), .ref a' => Nat.beq a' a
  | .inr (.inr (.inr ())), .null => true
  | _, _ => false
theorem af_b_ok {c : AF} {v : Value} (h : af_b c v = true) : af_g c v := by
  unfold af_b at h
  split at h
  · simp only [Bool.and_eq_true, decide_eq_true_eq] at h; exact h
  · trivial
  · exact Nat.eq_of_beq_eq_true h
  · trivial
  · cases h
theorem o_chk : ∀ {fs : List AF} {vs : List Value}, (fs.zip vs).all (fun q => af_b q.1 q.2) = true → ∀ (k : Nat) (c : AF) (v : Value), fs[k]? = some c → vs[k]? = some v → af_g c v
  | [], _, _, k, c, v, h1, _ => by cases h1
  | _ :: _, [], _, k, c, v, _, h2 => by cases h2
  | f :: fs, u :: vs, h, k, c, v, h1, h2 => by
    rw [List.zip_cons_cons, List.all_cons, Bool.and_eq_true] at h
    cases k with
    | zero => cases h1; cases h2; exact af_b_ok h.1
    | succ k => exact o_chk h.2 k c v h1 h2
theorem HH_hp0 : HH hp0 := by
  refine hs_f2 ?_
  refine And.intro (show ae_g (.inr (.inr (.inr (8, [.inr (.inr (.inl 1)), .inr (.inr (.inl 3)), .inr (.inr (.inl 15)), .inr (.inr (.inl 24)), .inr (.inr (.inl 52)), .inr (.inr (.inl 53)), .inr (.inr (.inl 62)), .inr (.inr (.inl 64)), .inr (.inr (.inl 70)), .inr (.inr (.inl 72)), .inr (.inr (.inl 75)), .inr (.inr (.inl 76))])))) (.inr (8, [.ref 1, .ref 3, .ref 15, .ref 24, .ref 52, .ref 53, .ref 62, .ref 64, .ref 70, .ref 72, .ref 75, .ref 76])) from ⟨rfl, rfl, o_chk (by decide)⟩) ?_
  refine And.intro (show ae_g (.inr (.inr (.inr (6, [.inr (.inr (.inl 2)), .inl (0, 500)])))) (.inr (6, [.ref 2, .int 0])) from ⟨rfl, rfl, o_chk (by decide)⟩) ?_
  refine And.intro (show ae_g (.inl (1, 500, [((-128), 127)])) (.inl (1, 500, .inl (fun _ => 0))) from ⟨rfl, rfl, z_arr (by decide)⟩) ?_
  refine And.intro (show ae_g (.inr (.inr (.inr (2, [.inr (.inr (.inl 4)), .inl (0, 3), .inl ((-1), 500), .inr (.inr (.inl 1)), .inr (.inr (.inl 13)), .inl (0, 4), .inl (0, 500), .inl (0, 500), .inl ((-2147483648), 2147483647), .inl (0, 99)])))) (.inr (2, [.ref 4, .int 0, .int (-1), .ref 1, .ref 13, .int 0, .int 0, .int 0, .int 0, .int 0])) from ⟨rfl, rfl, o_chk (by decide)⟩) ?_
  refine And.intro (show ae_g (.inr (.inr (.inr (5, [.inl (0, 8), .inl (0, 3), .inl (0, 10), .inl ((-2147483648), 2147483647), .inl (0, 8), .inl (0, 8), .inl (0, 20), .inr (.inr (.inl 5)), .inr (.inr (.inl 6)), .inr (.inr (.inl 7)), .inr (.inr (.inl 8)), .inr (.inr (.inl 9)), .inr (.inr (.inl 10)), .inr (.inr (.inl 11)), .inr (.inr (.inl 12))])))) (.inr (5, [.int 0, .int 0, .int 0, .int 0, .int 0, .int 0, .int 0, .ref 5, .ref 6, .ref 7, .ref 8, .ref 9, .ref 10, .ref 11, .ref 12])) from ⟨rfl, rfl, o_chk (by decide)⟩) ?_
  refine And.intro (show ae_g (.inl (0, 8, [(0, 8)])) (.inl (0, 8, .inl (fun _ => 0))) from ⟨rfl, rfl, z_arr (by decide)⟩) ?_
  refine And.intro (show ae_g (.inl (0, 8, [(0, 8)])) (.inl (0, 8, .inl (fun _ => 0))) from ⟨rfl, rfl, z_arr (by decide)⟩) ?_
  refine And.intro (show ae_g (.inl (0, 8, [(0, 99)])) (.inl (0, 8, .inl (fun _ => 0))) from ⟨rfl, rfl, z_arr (by decide)⟩) ?_
  refine And.intro (show ae_g (.inl (0, 8, [(0, 9)])) (.inl (0, 8, .inl (fun _ => 0))) from ⟨rfl, rfl, z_arr (by decide)⟩) ?_
  refine And.intro (show ae_g (.inl (0, 8, [(0, 9)])) (.inl (0, 8, .inl (fun _ => 0))) from ⟨rfl, rfl, z_arr (by decide)⟩) ?_
  refine And.intro (show ae_g (.inl (0, 20, [(0, 7)])) (.inl (0, 20, .inl (fun _ => 0))) from ⟨rfl, rfl, z_arr (by decide)⟩) ?_
  refine And.intro (show ae_g (.inl (0, 20, [(0, 8)])) (.inl (0, 20, .inl (fun _ => 0))) from ⟨rfl, rfl, z_arr (by decide)⟩) ?_
  refine And.intro (show ae_g (.inl (2, 20, [(0, 1)])) (.inl (2, 20, .inl (fun _ => 0))) from ⟨rfl, rfl, z_arr (by decide)⟩) ?_
  refine And.intro (show ae_g (.inr (.inr (.inr (0, [.inr (.inr (.inl 14)), .inl (0, 9)])))) (.inr (0, [.ref 14, .int 0])) from ⟨rfl, rfl, o_chk (by decide)⟩) ?_
  refine And.intro (show ae_g (.inl (0, 10, [(0, 511)])) (.inl (0, 10, .inl (fun _ => 0))) from ⟨rfl, rfl, z_arr (by decide)⟩) ?_
  refine And.intro (show ae_g (.inr (.inr (.inr (5, [.inl (0, 8), .inl (0, 3), .inl (0, 10), .inl ((-2147483648), 2147483647), .inl (0, 8), .inl (0, 8), .inl (0, 20), .inr (.inr (.inl 16)), .inr (.inr (.inl 17)), .inr (.inr (.inl 18)), .inr (.inr (.inl 19)), .inr (.inr (.inl 20)), .inr (.inr (.inl 21)), .inr (.inr (.inl 22)), .inr (.inr (.inl 23))])))) (.inr (5, [.int 0, .int 0, .int 0, .int 0, .int 0, .int 0, .int 0, .ref 16, .ref 17, .ref 18, .ref 19, .ref 20, .ref 21, .ref 22, .ref 23])) from ⟨rfl, rfl, o_chk (by decide)⟩) ?_
  refine And.intro (show ae_g (.inl (0, 8, [(0, 8)])) (.inl (0, 8, .inl (fun _ => 0))) from ⟨rfl, rfl, z_arr (by decide)⟩) ?_
  refine And.intro (show ae_g (.inl (0, 8, [(0, 8)])) (.inl (0, 8, .inl (fun _ => 0))) from ⟨rfl, rfl, z_arr (by decide)⟩) ?_
  refine And.intro (show ae_g (.inl (0, 8, [(0, 99)])) (.inl (0, 8, .inl (fun _ => 0))) from ⟨rfl, rfl, z_arr (by decide)⟩) ?_
  refine And.intro (show ae_g (.inl (0, 8, [(0, 9)])) (.inl (0, 8, .inl (fun _ => 0))) from ⟨rfl, rfl, z_arr (by decide)⟩) ?_
  refine And.intro (show ae_g (.inl (0, 8, [(0, 9)])) (.inl (0, 8, .inl (fun _ => 0))) from ⟨rfl, rfl, z_arr (by decide)⟩) ?_
  refine And.intro (show ae_g (.inl (0, 20, [(0, 7)])) (.inl (0, 20, .inl (fun _ => 0))) from ⟨rfl, rfl, z_arr (by decide)⟩) ?_
  refine And.intro (show ae_g (.inl (0, 20, [(0, 8)])) (.inl (0, 20, .inl (fun _ => 0))) from ⟨rfl, rfl, z_arr (by decide)⟩) ?_
  refine And.intro (show ae_g (.inl (2, 20, [(0, 1)])) (.inl (2, 20, .inl (fun _ => 0))) from ⟨rfl, rfl, z_arr (by decide)⟩) ?_
  refine And.intro (show ae_g (.inr (.inr (.inl (4, [some 25, some 34, some 43])))) (.inl (4, 3, .inr (.inr (.inr (.inr (va_up (va_up (va_up (fun _ => none) 0 (some 25)) 1 (some 34)) 2 (some 43))))))) from ⟨rfl, rfl, fun j y hj => by match j, hj with | 0, hj => cases hj; rfl | 1, hj => cases hj; rfl | 2, hj => cases hj; rfl | j + 3, hj => cases hj⟩) ?_
  refine And.intro (show ae_g (.inr (.inr (.inr (5, [.inl (0, 8), .inl (0, 3), .inl (0, 10), .inl ((-2147483648), 2147483647), .inl (0, 8), .inl (0, 8), .inl (0, 20), .inr (.inr (.inl 26)), .inr (.inr (.inl 27)), .inr (.inr (.inl 28)), .inr (.inr (.inl 29)), .inr (.inr (.inl 30)), .inr (.inr (.inl 31)), .inr (.inr (.inl 32)), .inr (.inr (.inl 33))])))) (.inr (5, [.int 0, .int 0, .int 0, .int 0, .int 0, .int 0, .int 0, .ref 26, .ref 27, .ref 28, .ref 29, .ref 30, .ref 31, .ref 32, .ref 33])) from ⟨rfl, rfl, o_chk (by decide)⟩) ?_
  refine And.intro (show ae_g (.inl (0, 8, [(0, 8)])) (.inl (0, 8, .inl (fun _ => 0))) from ⟨rfl, rfl, z_arr (by decide)⟩) ?_
  refine And.intro (show ae_g (.inl (0, 8, [(0, 8)])) (.inl (0, 8, .inl (fun _ => 0))) from ⟨rfl, rfl, z_arr (by decide)⟩) ?_
  refine And.intro (show ae_g (.inl (0, 8, [(0, 99)])) (.inl (0, 8, .inl (fun _ => 0))) from ⟨rfl, rfl, z_arr (by decide)⟩) ?_
  refine And.intro (show ae_g (.inl (0, 8, [(0, 9)])) (.inl (0, 8, .inl (fun _ => 0))) from ⟨rfl, rfl, z_arr (by decide)⟩) ?_
  refine And.intro (show ae_g (.inl (0, 8, [(0, 9)])) (.inl (0, 8, .inl (fun _ => 0))) from ⟨rfl, rfl, z_arr (by decide)⟩) ?_
  refine And.intro (show ae_g (.inl (0, 20, [(0, 7)])) (.inl (0, 20, .inl (fun _ => 0))) from ⟨rfl, rfl, z_arr (by decide)⟩) ?_
  refine And.intro (show ae_g (.inl (0, 20, [(0, 8)])) (.inl (0, 20, .inl (fun _ => 0))) from ⟨rfl, rfl, z_arr (by decide)⟩) ?_
  refine And.intro (show ae_g (.inl (2, 20, [(0, 1)])) (.inl (2, 20, .inl (fun _ => 0))) from ⟨rfl, rfl, z_arr (by decide)⟩) ?_
  refine And.intro (show ae_g (.inr (.inr (.inr (5, [.inl (0, 8), .inl (0, 3), .inl (0, 10), .inl ((-2147483648), 2147483647), .inl (0, 8), .inl (0, 8), .inl (0, 20), .inr (.inr (.inl 35)), .inr (.inr (.inl 36)), .inr (.inr (.inl 37)), .inr (.inr (.inl 38)), .inr (.inr (.inl 39)), .inr (.inr (.inl 40)), .inr (.inr (.inl 41)), .inr (.inr (.inl 42))])))) (.inr (5, [.int 0, .int 0, .int 0, .int 0, .int 0, .int 0, .int 0, .ref 35, .ref 36, .ref 37, .ref 38, .ref 39, .ref 40, .ref 41, .ref 42])) from ⟨rfl, rfl, o_chk (by decide)⟩) ?_
  refine And.intro (show ae_g (.inl (0, 8, [(0, 8)])) (.inl (0, 8, .inl (fun _ => 0))) from ⟨rfl, rfl, z_arr (by decide)⟩) ?_
  refine And.intro (show ae_g (.inl (0, 8, [(0, 8)])) (.inl (0, 8, .inl (fun _ => 0))) from ⟨rfl, rfl, z_arr (by decide)⟩) ?_
  refine And.intro (show ae_g (.inl (0, 8, [(0, 99)])) (.inl (0, 8, .inl (fun _ => 0))) from ⟨rfl, rfl, z_arr (by decide)⟩) ?_
  refine And.intro (show ae_g (.inl (0, 8, [(0, 9)])) (.inl (0, 8, .inl (fun _ => 0))) from ⟨rfl, rfl, z_arr (by decide)⟩) ?_
  refine And.intro (show ae_g (.inl (0, 8, [(0, 9)])) (.inl (0, 8, .inl (fun _ => 0))) from ⟨rfl, rfl, z_arr (by decide)⟩) ?_
  refine And.intro (show ae_g (.inl (0, 20, [(0, 7)])) (.inl (0, 20, .inl (fun _ => 0))) from ⟨rfl, rfl, z_arr (by decide)⟩) ?_
  refine And.intro (show ae_g (.inl (0, 20, [(0, 8)])) (.inl (0, 20, .inl (fun _ => 0))) from ⟨rfl, rfl, z_arr (by decide)⟩) ?_
  refine And.intro (show ae_g (.inl (2, 20, [(0, 1)])) (.inl (2, 20, .inl (fun _ => 0))) from ⟨rfl, rfl, z_arr (by decide)⟩) ?_
  refine And.intro (show ae_g (.inr (.inr (.inr (5, [.inl (0, 8), .inl (0, 3), .inl (0, 10), .inl ((-2147483648), 2147483647), .inl (0, 8), .inl (0, 8), .inl (0, 20), .inr (.inr (.inl 44)), .inr (.inr (.inl 45)), .inr (.inr (.inl 46)), .inr (.inr (.inl 47)), .inr (.inr (.inl 48)), .inr (.inr (.inl 49)), .inr (.inr (.inl 50)), .inr (.inr (.inl 51))])))) (.inr (5, [.int 0, .int 0, .int 0, .int 0, .int 0, .int 0, .int 0, .ref 44, .ref 45, .ref 46, .ref 47, .ref 48, .ref 49, .ref 50, .ref 51])) from ⟨rfl, rfl, o_chk (by decide)⟩) ?_
  refine And.intro (show ae_g (.inl (0, 8, [(0, 8)])) (.inl (0, 8, .inl (fun _ => 0))) from ⟨rfl, rfl, z_arr (by decide)⟩) ?_
  refine And.intro (show ae_g (.inl (0, 8, [(0, 8)])) (.inl (0, 8, .inl (fun _ => 0))) from ⟨rfl, rfl, z_arr (by decide)⟩) ?_
  refine And.intro (show ae_g (.inl (0, 8, [(0, 99)])) (.inl (0, 8, .inl (fun _ => 0))) from ⟨rfl, rfl, z_arr (by decide)⟩) ?_
  refine And.intro (show ae_g (.inl (0, 8, [(0, 9)])) (.inl (0, 8, .inl (fun _ => 0))) from ⟨rfl, rfl, z_arr (by decide)⟩) ?_
  refine And.intro (show ae_g (.inl (0, 8, [(0, 9)])) (.inl (0, 8, .inl (fun _ => 0))) from ⟨rfl, rfl, z_arr (by decide)⟩) ?_
  refine And.intro (show ae_g (.inl (0, 20, [(0, 7)])) (.inl (0, 20, .inl (fun _ => 0))) from ⟨rfl, rfl, z_arr (by decide)⟩) ?_
  refine And.intro (show ae_g (.inl (0, 20, [(0, 8)])) (.inl (0, 20, .inl (fun _ => 0))) from ⟨rfl, rfl, z_arr (by decide)⟩) ?_
  refine And.intro (show ae_g (.inl (2, 20, [(0, 1)])) (.inl (2, 20, .inl (fun _ => 0))) from ⟨rfl, rfl, z_arr (by decide)⟩) ?_
  refine And.intro (show ae_g (.inl (2, 3, [(0, 1)])) (.inl (2, 3, .inl (fun _ => 0))) from ⟨rfl, rfl, z_arr (by decide)⟩) ?_
  refine And.intro (show ae_g (.inr (.inr (.inl (5, [some 54, some 56, some 58, some 60])))) (.inl (5, 4, .inr (.inr (.inr (.inr (va_up (va_up (va_up (va_up (fun _ => none) 0 (some 54)) 1 (some 56)) 2 (some 58)) 3 (some 60))))))) from ⟨rfl, rfl, fun j y hj => by match j, hj with | 0, hj => cases hj; rfl | 1, hj => cases hj; rfl | 2, hj => cases hj; rfl | 3, hj => cases hj; rfl | j + 4, hj => cases hj⟩) ?_
  refine And.intro (show ae_g (.inr (.inr (.inr (4, [.inr (.inr (.inl 55)), .inl (0, 1), .inl (0, 3), .inl (0, 60)])))) (.inr (4, [.ref 55, .int 0, .int 0, .int 0])) from ⟨rfl, rfl, o_chk (by decide)⟩) ?_
  refine And.intro (show ae_g (.inr (.inl 60)) (.inl (3, 60, .inr (.inl (fun _ => 0)))) from ⟨rfl, rfl⟩) ?_
  refine And.intro (show ae_g (.inr (.inr (.inr (4, [.inr (.inr (.inl 57)), .inl (0, 1), .inl (0, 3), .inl (0, 60)])))) (.inr (4, [.ref 57, .int 0, .int 0, .int 0])) from ⟨rfl, rfl, o_chk (by decide)⟩) ?_
  refine And.intro (show ae_g (.inr (.inl 60)) (.inl (3, 60, .inr (.inl (fun _ => 0)))) from ⟨rfl, rfl⟩) ?_
  refine And.intro (show ae_g (.inr (.inr (.inr (4, [.inr (.inr (.inl 59)), .inl (0, 1), .inl (0, 3), .inl (0, 60)])))) (.inr (4, [.ref 59, .int 0, .int 0, .int 0])) from ⟨rfl, rfl, o_chk (by decide)⟩) ?_
  refine And.intro (show ae_g (.inr (.inl 60)) (.inl (3, 60, .inr (.inl (fun _ => 0)))) from ⟨rfl, rfl⟩) ?_
  refine And.intro (show ae_g (.inr (.inr (.inr (4, [.inr (.inr (.inl 61)), .inl (0, 1), .inl (0, 3), .inl (0, 60)])))) (.inr (4, [.ref 61, .int 0, .int 0, .int 0])) from ⟨rfl, rfl, o_chk (by decide)⟩) ?_
  refine And.intro (show ae_g (.inr (.inl 60)) (.inl (3, 60, .inr (.inl (fun _ => 0)))) from ⟨rfl, rfl⟩) ?_
  refine And.intro (show ae_g (.inr (.inr (.inr (1, [.inr (.inr (.inl 63)), .inl (0, 511), .inl (0, 255), .inl ((-2147483648), 2147483647)])))) (.inr (1, [.ref 63, .int 0, .int 0, .int 0])) from ⟨rfl, rfl, o_chk (by decide)⟩) ?_
  refine And.intro (show ae_g (.inl (0, 8, [(0, 9)])) (.inl (0, 8, .inl (fun _ => 0))) from ⟨rfl, rfl, z_arr (by decide)⟩) ?_
  refine And.intro (show ae_g (.inr (.inr (.inr (7, [.inr (.inr (.inl 65)), .inr (.inr (.inl 66)), .inr (.inr (.inl 67)), .inr (.inr (.inl 68)), .inr (.inr (.inl 69)), .inl (0, 9), .inl (0, 9)])))) (.inr (7, [.ref 65, .ref 66, .ref 67, .ref 68, .ref 69, .int 0, .int 0])) from ⟨rfl, rfl, o_chk (by decide)⟩) ?_
  refine And.intro (show ae_g (.inl (0, 9, [(0, 8)])) (.inl (0, 9, .inl (fun _ => 0))) from ⟨rfl, rfl, z_arr (by decide)⟩) ?_
  refine And.intro (show ae_g (.inl (0, 9, [(0, 8)])) (.inl (0, 9, .inl (fun _ => 0))) from ⟨rfl, rfl, z_arr (by decide)⟩) ?_
  refine And.intro (show ae_g (.inl (0, 9, [((-2147483648), 2147483647)])) (.inl (0, 9, .inl (fun _ => 0))) from ⟨rfl, rfl, z_arr (by decide)⟩) ?_
  refine And.intro (show ae_g (.inl (0, 9, [(0, 511)])) (.inl (0, 9, .inl (fun _ => 0))) from ⟨rfl, rfl, z_arr (by decide)⟩) ?_
  refine And.intro (show ae_g (.inl (0, 9, [(0, 8)])) (.inl (0, 9, .inl (fun _ => 0))) from ⟨rfl, rfl, z_arr (by decide)⟩) ?_
  refine And.intro (show ae_g (.inr (.inr (.inr (0, [.inr (.inr (.inl 71)), .inl (0, 9)])))) (.inr (0, [.ref 71, .int 0])) from ⟨rfl, rfl, o_chk (by decide)⟩) ?_
  refine And.intro (show ae_g (.inl (0, 10, [(0, 511)])) (.inl (0, 10, .inl (fun _ => 0))) from ⟨rfl, rfl, z_arr (by decide)⟩) ?_
  refine And.intro (show ae_g (.inr (.inr (.inr (3, [.inr (.inr (.inl 73)), .inr (.inr (.inl 74))])))) (.inr (3, [.ref 73, .ref 74])) from ⟨rfl, rfl, o_chk (by decide)⟩) ?_
  refine And.intro (show ae_g (.inl (0, 256, [(0, 511)])) (.inl (0, 256, .inl (fun _ => 0))) from ⟨rfl, rfl, z_arr (by decide)⟩) ?_
  refine And.intro (show ae_g (.inl (0, 256, [((-2147483648), 2147483647)])) (.inl (0, 256, .inl (fun _ => 0))) from ⟨rfl, rfl, z_arr (by decide)⟩) ?_
  refine And.intro (show ae_g (.inl (0, 8, [(0, 9)])) (.inl (0, 8, .inl (fun _ => 0))) from ⟨rfl, rfl, z_arr (by decide)⟩) ?_
  refine And.intro (show ae_g (.inl (0, 64, [(0, 9)])) (.inl (0, 64, .inl (fun _ => 0))) from ⟨rfl, rfl, z_arr (by decide)⟩) ?_
  refine And.intro (show ae_g (.inr (.inr (.inr (9, [.inl (0, 0), .inr (.inr (.inl 78)), .inr (.inr (.inl 79)), .inr (.inr (.inl 80)), .inr (.inr (.inl 81)), .inr (.inr (.inl 82)), .inl (0, 500), .inl (0, 500), .inl (0, 4), .inl (0, 500), .inl ((-2147483648), 2147483647), .inr (.inl ()), .inl (0, 3), .inl ((-1), 500), .inl (0, 3), .inl ((-1), 500), .inr (.inr (.inl 83)), .inr (.inr (.inl 84)), .inr (.inr (.inl 85)), .inr (.inr (.inl 86)), .inr (.inr (.inl 87)), .inr (.inr (.inl 88)), .inl (0, 3), .inl ((-2147483648), 2147483647), .inr (.inr (.inl 89)), .inr (.inr (.inl 90)), .inr (.inr (.inl 91)), .inl (0, 255), .inr (.inr (.inl 92)), .inr (.inr (.inl 93)), .inr (.inr (.inl 94)), .inr (.inr (.inl 95)), .inr (.inr (.inl 96)), .inr (.inr (.inl 97)), .inr (.inr (.inl 98)), .inl ((-2147483648), 2147483647), .inl (0, 9), .inr (.inr (.inl 99)), .inr (.inr (.inl 100)), .inl (0, 6), .inr (.inr (.inl 101)), .inl (0, 255), .inl ((-1), 7), .inl ((-2147483648), 2147483647), .inr (.inr (.inl 102))])))) (.inr (9, [.int 0, .ref 78, .ref 79, .ref 80, .ref 81, .ref 82, .int 0, .int 0, .int 0, .int 0, .int 0, .long 0, .int 0, .int 0, .int 0, .int (-1), .ref 83, .ref 84, .ref 85, .ref 86, .ref 87, .ref 88, .int 0, .int 0, .ref 89, .ref 90, .ref 91, .int 0, .ref 92, .ref 93, .ref 94, .ref 95, .ref 96, .ref 97, .ref 98, .int 0, .int 0, .ref 99, .ref 100, .int 0, .ref 101, .int 0, .int 0, .int 0, .ref 102])) from ⟨rfl, rfl, o_chk (by decide)⟩) ?_
  refine And.intro (show ae_g (.inl (0, 4, [((-1), 3)])) (.inl (0, 4, .inl (upd (upd (upd (upd (fun _ => 0) 0 (-1)) 1 (-1)) 2 (-1)) 3 (-1)))) from ⟨rfl, rfl, z_wid⟩) ?_
  refine And.intro (show ae_g (.inl (0, 4, [(0, 60)])) (.inl (0, 4, .inl (fun _ => 0))) from ⟨rfl, rfl, z_arr (by decide)⟩) ?_
  refine And.intro (show ae_g (.inr (.inl 240)) (.inl (3, 240, .inr (.inl (fun _ => 0)))) from ⟨rfl, rfl⟩) ?_
  refine And.intro (show ae_g (.inr (.inl 60)) (.inl (3, 60, .inr (.inl (fun _ => 0)))) from ⟨rfl, rfl⟩) ?_
  refine And.intro (show ae_g (.inl (1, 500, [((-128), 127)])) (.inl (1, 500, .inl (fun _ => 0))) from ⟨rfl, rfl, z_arr (by decide)⟩) ?_
  refine And.intro (show ae_g (.inl (0, 5, [((-2147483648), 2147483647)])) (.inl (0, 5, .inl (fun _ => 0))) from ⟨rfl, rfl, z_arr (by decide)⟩) ?_
  refine And.intro (show ae_g (.inl (0, 30, [(0, 8), (0, 3), (0, 10), (0, 8), (0, 8), (0, 20)])) (.inl (0, 30, .inl (fun _ => 0))) from ⟨rfl, rfl, z_arr (by decide)⟩) ?_
  refine And.intro (show ae_g (.inl (0, 80, [(0, 8), (0, 99)])) (.inl (0, 80, .inl (fun _ => 0))) from ⟨rfl, rfl, z_arr (by decide)⟩) ?_
  refine And.intro (show ae_g (.inl (0, 80, [(0, 9)])) (.inl (0, 80, .inl (fun _ => 0))) from ⟨rfl, rfl, z_arr (by decide)⟩) ?_
  refine And.intro (show ae_g (.inl (0, 300, [(0, 1), (0, 7), (0, 8)])) (.inl (0, 300, .inl (fun _ => 0))) from ⟨rfl, rfl, z_arr (by decide)⟩) ?_
  refine And.intro (show ae_g (.inl (2, 3, [(0, 1)])) (.inl (2, 3, .inl (fun _ => 0))) from ⟨rfl, rfl, z_arr (by decide)⟩) ?_
  refine And.intro (show ae_g (.inl (0, 8, [(0, 8)])) (.inl (0, 8, .inl (fun _ => 0))) from ⟨rfl, rfl, z_arr (by decide)⟩) ?_
  refine And.intro (show ae_g (.inl (0, 10, [((-1), 7)])) (.inl (0, 10, .inl (fun _ => 0))) from ⟨rfl, rfl, z_arr (by decide)⟩) ?_
  refine And.intro (show ae_g (.inl (0, 8, [((-1), 9)])) (.inl (0, 8, .inl (fun _ => 0))) from ⟨rfl, rfl, z_arr (by decide)⟩) ?_
  refine And.intro (show ae_g (.inl (0, 9, [(0, 8)])) (.inl (0, 9, .inl (fun _ => 0))) from ⟨rfl, rfl, z_arr (by decide)⟩) ?_
  refine And.intro (show ae_g (.inl (0, 9, [(0, 8)])) (.inl (0, 9, .inl (fun _ => 0))) from ⟨rfl, rfl, z_arr (by decide)⟩) ?_
  refine And.intro (show ae_g (.inl (0, 9, [((-2147483648), 2147483647)])) (.inl (0, 9, .inl (fun _ => 0))) from ⟨rfl, rfl, z_arr (by decide)⟩) ?_
  refine And.intro (show ae_g (.inl (0, 8, [(0, 8)])) (.inl (0, 8, .inl (fun _ => 0))) from ⟨rfl, rfl, z_arr (by decide)⟩) ?_
  refine And.intro (show ae_g (.inl (0, 18, [(0, 8)])) (.inl (0, 18, .inl (fun _ => 0))) from ⟨rfl, rfl, z_arr (by decide)⟩) ?_
  refine And.intro (show ae_g (.inl (0, 8, [((-2147483648), 2147483647)])) (.inl (0, 8, .inl (fun _ => 0))) from ⟨rfl, rfl, z_arr (by decide)⟩) ?_
  refine And.intro (show ae_g (.inl (0, 9, [(0, 8)])) (.inl (0, 9, .inl (fun _ => 0))) from ⟨rfl, rfl, z_arr (by decide)⟩) ?_
  refine And.intro (show ae_g (.inl (0, 5, [(0, 4)])) (.inl (0, 5, .inl (fun _ => 0))) from ⟨rfl, rfl, z_arr (by decide)⟩) ?_
  refine And.intro (show ae_g (.inl (0, 6, [(0, 1)])) (.inl (0, 6, .inl (fun _ => 0))) from ⟨rfl, rfl, z_arr (by decide)⟩) ?_
  refine And.intro (show ae_g (.inl (0, 10, [(0, 9)])) (.inl (0, 10, .inl (fun _ => 0))) from ⟨rfl, rfl, z_arr (by decide)⟩) ?_
  refine And.intro (show ae_g (.inl (0, 72, [((-1), 9)])) (.inl (0, 72, .inl (fun _ => 0))) from ⟨rfl, rfl, z_arr (by decide)⟩) ?_
  exact trivial
end
