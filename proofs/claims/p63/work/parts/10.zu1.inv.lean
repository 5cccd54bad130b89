section
/-! the law's invariant (written by gen_t20.py) -/
noncomputable def CF : List Nat := [20, 41, 62, 83, 104]
noncomputable def IVh (h : pm_H) : Prop := HH h ∧ (∀ i ∈ CF, w0.1.2.1 i h) ∧ RV h
theorem fact_fr {M : List Rng} {h h' : pm_H} {i : Nat} (hM : M.all (fun r => rg_dis (sp0 i) r.1 r.2.1 r.2.2) = true) (hh : HH h) (hh' : HH h') (hf : fr_g M h h') (hi : w0.1.2.1 i h) : w0.1.2.1 i h' := by
  refine w0.2 i h h' hh hh' (fun a k hak => hf a k ?_) hi
  cases hb : rg_in M a k with
  | false => rfl
  | true =>
    obtain ⟨r, hr, hc⟩ := List.any_eq_true.mp hb
    simp only [Bool.and_eq_true] at hc
    have h1 := List.all_eq_true.mp hM r hr
    have he := Nat.eq_of_beq_eq_true hc.1
    subst he
    have h2 : rg_in (sp0 i) r.1 k = false := rg_dis_in h1 (Nat.le_of_ble_eq_true hc.2.1) (Nat.le_of_ble_eq_true hc.2.2)
    have h3 : rg_in (sp0 i) r.1 k = true := hak
    rw [h2] at h3
    cases h3
theorem IVh_fr {M : List Rng} {h h' : pm_H} (hM : CF.all (fun i => M.all (fun r => rg_dis (sp0 i) r.1 r.2.1 r.2.2)) = true) (hf : fr_g M h h') (hh' : HH h') (I : IVh h) (V : RV h') : IVh h' :=
  ⟨hh', fun i hi => fact_fr (List.all_eq_true.mp hM i hi) I.1 hh' hf (I.2.1 i hi), V⟩
theorem top_sum {d : Nat} {S : Sum1} (q : sum_g w0 (pm_Rt pm_P d) S) (hm : S.2.2.1 = []) (hp : S.2.2.2.1.all (fun i => CF.contains i || Nat.beq i 125) = true) (hv : S.2.2.2.2.1.all (fun r => !(Nat.beq r.1 84) && (!(Nat.beq r.1 85) && !(Nat.beq r.1 87))) = true) (hk : S.2.2.2.2.2.all (fun C => CF.all (fun i => C.2.2.1.contains i || S.2.2.2.2.1.all (fun r => rg_dis (sp0 i) r.1 r.2.1 r.2.2))) = true) {h : pm_H} {as : List Value} (I : IVh h) (ha : f2 cv_g S.2.1 as) : Sp d S.1 h as (fun h' r => IVh h' ∧ fr_g S.2.2.2.2.1 h h' ∧ ∃ C ∈ S.2.2.2.2.2, mm_g h' C.2.1 ∧ rv_g h' C.2.2.2 r) := by
  refine Sp_mono ?_ (Sp_sum q I.1 ha (by rw [hm]; exact fun _ hq => absurd hq List.not_mem_nil) (fun i hi => ?_))
  · rintro h' r ⟨q1, q2, C, hC, -, q5, q3, q4⟩
    refine ⟨⟨q1, fun i hi => ?_, RV_fr I.1 hv q2 I.2.2⟩, q2, C, hC, q5, q4⟩
    have h1 := List.all_eq_true.mp (List.all_eq_true.mp hk C hC) i hi
    rw [Bool.or_eq_true] at h1
    cases h1 with
    | inl h1 => exact q3 i (by simpa using h1)
    | inr h1 => exact fact_fr h1 I.1 q1 q2 (I.2.1 i hi)
  · have h1 := List.all_eq_true.mp hp i hi
    rw [Bool.or_eq_true] at h1
    cases h1 with
    | inl h1 => exact I.2.1 i (by simpa using h1)
    | inr h1 => rw [Nat.eq_of_beq_eq_true h1]; exact FAg_fact I.1 (I.2.2.2 0 (by first | decide | with_reducible assumption | omega))
noncomputable def isI (C : Cs) : Bool := match C.2.2.2 with
  | some (.inl (.inl _)) => true
  | some (.inr _) => true
  | _ => false
noncomputable def isL (C : Cs) : Bool := match C.2.2.2 with
  | some (.inl (.inr (.inl _))) => true
  | _ => false
theorem rv_isI {C : Cs} {h : pm_H} {r : Option Value} (hC : isI C = true) (hv : rv_g h C.2.2.2 r) : ∃ x : Int32, r = some (.int x) := by
  unfold isI at hC
  split at hC
  · rename_i c e
    rw [e] at hv
    cases r with
    | none => exact hv.elim
    | some v => cases v with
      | int x => exact ⟨x, rfl⟩
      | _ => exact hv.elim
  · rename_i c e
    rw [e] at hv
    cases r with
    | none => exact hv.elim
    | some v => cases v with
      | int x => exact ⟨x, rfl⟩
      | _ => exact hv.elim
  · cases hC
theorem rv_isL {C : Cs} {h : pm_H} {r : Option Value} (hC : isL C = true) (hv : rv_g h C.2.2.2 r) : ∃ x : Int64, r = some (.long x) := by
  unfold isL at hC
  split at hC
  · rename_i c e
    rw [e] at hv
    cases r with
    | none => exact hv.elim
    | some v => cases v with
      | long x => exact ⟨x, rfl⟩
      | _ => exact hv.elim
  · cases hC
noncomputable def topB (S : Sum1) : Bool := (match S.2.2.1 with | [] => true | _ => false) && (S.2.2.2.1.all (fun i => CF.contains i || Nat.beq i 125) && (S.2.2.2.2.1.all (fun r => !(Nat.beq r.1 84) && (!(Nat.beq r.1 85) && !(Nat.beq r.1 87))) && S.2.2.2.2.2.all (fun C => CF.all (fun i => C.2.2.1.contains i || S.2.2.2.2.1.all (fun r => rg_dis (sp0 i) r.1 r.2.1 r.2.2)))))
theorem topB_m {S : Sum1} (h : topB S = true) : S.2.2.1 = [] := by
  unfold topB at h
  rw [Bool.and_eq_true] at h
  have h1 := h.1
  split at h1
  · assumption
  · cases h1
theorem topB_r {S : Sum1} (h : topB S = true) : S.2.2.2.1.all (fun i => CF.contains i || Nat.beq i 125) = true ∧ S.2.2.2.2.1.all (fun r => !(Nat.beq r.1 84) && (!(Nat.beq r.1 85) && !(Nat.beq r.1 87))) = true ∧ S.2.2.2.2.2.all (fun C => CF.all (fun i => C.2.2.1.contains i || S.2.2.2.2.1.all (fun r => rg_dis (sp0 i) r.1 r.2.1 r.2.2))) = true := by
  unfold topB at h
  rw [Bool.and_eq_true, Bool.and_eq_true, Bool.and_eq_true] at h
  exact h.2
theorem top_all {d : Nat} {S : Sum1} (q : sum_g w0 (pm_Rt pm_P d) S) (hb : topB S = true) {h : pm_H} {as : List Value} (I : IVh h) (ha : f2 cv_g S.2.1 as) : Sp d S.1 h as (fun h' r => IVh h' ∧ fr_g S.2.2.2.2.1 h h' ∧ ∃ C ∈ S.2.2.2.2.2, mm_g h' C.2.1 ∧ rv_g h' C.2.2.2 r) := by
  obtain ⟨b1, b2, b3⟩ := topB_r hb
  exact top_sum q (topB_m hb) b1 b2 b3 I ha
theorem top_int {d : Nat} {S : Sum1} (q : sum_g w0 (pm_Rt pm_P d) S) (hb : topB S = true) (hi : S.2.2.2.2.2.all isI = true) {h : pm_H} {as : List Value} (I : IVh h) (ha : f2 cv_g S.2.1 as) : Sp d S.1 h as (fun h' r => IVh h' ∧ fr_g S.2.2.2.2.1 h h' ∧ ∃ x : Int32, r = some (.int x)) := by
  refine Sp_mono ?_ (top_all q hb I ha)
  rintro h' r ⟨q1, q2, C, hC, -, q3⟩
  exact ⟨q1, q2, rv_isI (List.all_eq_true.mp hi C hC) q3⟩
theorem top_lng {d : Nat} {S : Sum1} (q : sum_g w0 (pm_Rt pm_P d) S) (hb : topB S = true) (hi : S.2.2.2.2.2.all isL = true) {h : pm_H} {as : List Value} (I : IVh h) (ha : f2 cv_g S.2.1 as) : Sp d S.1 h as (fun h' r => IVh h' ∧ fr_g S.2.2.2.2.1 h h' ∧ ∃ x : Int64, r = some (.long x)) := by
  refine Sp_mono ?_ (top_all q hb I ha)
  rintro h' r ⟨q1, q2, C, hC, -, q3⟩
  exact ⟨q1, q2, rv_isL (List.all_eq_true.mp hi C hC) q3⟩
theorem top_TQ {d y : Nat} {h : pm_H} {as : List Value} (hd : Nat.ble d 100 = true) (I : IVh h) (k : Sp d y h as (TQ h)) : Sp 100 y h as (fun h' r => IVh h' ∧ fr_g TM h h' ∧ ∃ x : Int32, r = some (.int x)) := by
  refine Sp_le (Nat.le_of_ble_eq_true hd) (Sp_mono ?_ k)
  rintro h' r ⟨q1, q2, q3⟩
  exact ⟨IVh_fr (M := TM) (by decide +kernel) q2 q1 I (RV_fr I.1 rfl q2 I.2.2), q2, q3⟩
theorem aI (x : Int32) : cv_g (cI (-2147483648) 2147483647) (.int x) := ⟨ai_lo x, ai_hi x⟩
theorem aL (x : Int64) : cv_g (cL (-9223372036854775808) 9223372036854775807) (.long x) := ⟨al_lo x, al_hi x⟩
theorem hs_f2 : ∀ {hs : List AE} {h : pm_H}, f2 ae_g hs h → hs_g hs h
  | [], [], _ => ⟨rfl, fun a c x h1 _ => by cases h1⟩
  | [], _ :: _, h => h.elim
  | _ :: _, [], h => h.elim
  | c0 :: hs, x0 :: h, hf => by
    have ih := hs_f2 hf.2
    refine ⟨congrArg (· + 1) ih.1, fun a c x h1 h2 => ?_⟩
    cases a with
    | zero => cases h1; cases h2; exact hf.1
    | succ a => exact ih.2 a c x h1 h2
theorem z_arr {p : List (Int × Int)} (hp : p.all (fun q => decide (q.1 ≤ 0) && decide (0 ≤ q.2)) = true) : ∀ (j : Nat) (lo hi : Int), pat_at p j = some (lo, hi) → lo ≤ ((fun _ : Nat => (0 : Int32)) j).toInt ∧ ((fun _ : Nat => (0 : Int32)) j).toInt ≤ hi := by
  intro j lo hi hj
  have h1 := List.all_eq_true.mp hp (lo, hi) (List.mem_of_getElem? hj)
  simp only [Bool.and_eq_true, decide_eq_true_eq] at h1
  exact h1
theorem z_wid : ∀ (j : Nat) (lo hi : Int), pat_at [((-1 : Int), (3 : Int))] j = some (lo, hi) → lo ≤ (upd (upd (upd (upd (fun _ => 0) 0 (-1)) 1 (-1)) 2 (-1)) 3 (-1) j).toInt ∧ (upd (upd (upd (upd (fun _ => 0) 0 (-1)) 1 (-1)) 2 (-1)) 3 (-1) j).toInt ≤ hi := by
  intro j lo hi hj
  have h1 : (lo, hi) = (-1, 3) := List.mem_singleton.mp (List.mem_of_getElem? hj)
  cases h1
  unfold upd
  have e1 : (-1 : Int32).toInt = -1 := rfl
  have e0 : (0 : Int32).toInt = 0 := rfl
  split
  · omega
  · split
    · omega
    · split
      · omega
      · split
        · omega
        · show (-1 : Int) ≤ (0 : Int32).toInt ∧ (0 : Int32).toInt ≤ 3; omega
noncomputable def af_b (c : AF) (v : Value) : Bool := match c, v with
  | .inl (lo, hi), .int x => decide (lo ≤ x.toInt) && decide (x.toInt ≤ hi)
  | .inr (.inl ()), .long _ => true
  | .inr (.inr (.inl a)), .ref a' => Nat.beq a' a
  | .inr (.inr (.inr ())), .null => true
  | _, _ => false
theorem af_b_ok {c : AF} {v : Value} (h : af_b c v = true) : af_g c v := by
  unfold af_b at h
  split at h
  · simp only [Bool.and_eq_true, decide_eq_true_eq] at h; exact h
  · trivial
  · exact Nat.eq_of_beq_eq_true h
  · trivial
  · cases h
theorem o_chk : ∀ {fs : List AF} {vs : List Value}, (fs.zip vs).all (fun q => af_b q.1 q.2) = true → ∀ (k : Nat) (c : AF) (v : Value), fs[k]? = some c → vs[k]? = some v → af_g c v
  | [], _, _, k, c, v, h1, _ => by cases h1
  | _ :: _, [], _, k, c, v, _, h2 => by cases h2
  | f :: fs, u :: vs, h, k, c, v, h1, h2 => by
    rw [List.zip_cons_cons, List.all_cons, Bool.and_eq_true] at h
    cases k with
    | zero => cases h1; cases h2; exact af_b_ok h.1
    | succ k => exact o_chk h.2 k c v h1 h2
theorem HH_hp0 : HH hp0 := by
  refine hs_f2 ?_
  refine And.intro (show ae_g (.inr (.inr (.inr (8, [.inr (.inr (.inl 1)), .inr (.inr (.inl 3)), .inr (.inr (.inl 15)), .inr (.inr (.inl 24)), .inr (.inr (.inl 52)), .inr (.inr (.inl 53)), .inr (.inr (.inl 62)), .inr (.inr (.inl 64)), .inr (.inr (.inl 70)), .inr (.inr (.inl 72)), .inr (.inr (.inl 75)), .inr (.inr (.inl 76))])))) (.inr (8, [.ref 1, .ref 3, .ref 15, .ref 24, .ref 52, .ref 53, .ref 62, .ref 64, .ref 70, .ref 72, .ref 75, .ref 76])) from ⟨rfl, rfl, o_chk (by decide)⟩) ?_
  refine And.intro (show ae_g (.inr (.inr (.inr (6, [.inr (.inr (.inl 2)), .inl (0, 500)])))) (.inr (6, [.ref 2, .int 0])) from ⟨rfl, rfl, o_chk (by decide)⟩) ?_
  refine And.intro (show ae_g (.inl (1, 500, [((-128), 127)])) (.inl (1, 500, .inl (fun _ => 0))) from ⟨rfl, rfl, z_arr (by decide)⟩) ?_
  refine And.intro (show ae_g (.inr (.inr (.inr (2, [.inr (.inr (.inl 4)), .inl (0, 3), .inl ((-1), 500), .inr (.inr (.inl 1)), .inr (.inr (.inl 13)), .inl (0, 4), .inl (0, 500), .inl (0, 500), .inl ((-2147483648), 2147483647), .inl (0, 99)])))) (.inr (2, [.ref 4, .int 0, .int (-1), .ref 1, .ref 13, .int 0, .int 0, .int 0, .int 0, .int 0])) from ⟨rfl, rfl, o_chk (by decide)⟩) ?_
  refine And.intro (show ae_g (.inr (.inr (.inr (5, [.inl (0, 8), .inl (0, 3), .inl (0, 10), .inl ((-2147483648), 2147483647), .inl (0, 8), .inl (0, 8), .inl (0, 20), .inr (.inr (.inl 5)), .inr (.inr (.inl 6)), .inr (.inr (.inl 7)), .inr (.inr (.inl 8)), .inr (.inr (.inl 9)), .inr (.inr (.inl 10)), .inr (.inr (.inl 11)), .inr (.inr (.inl 12))])))) (.inr (5, [.int 0, .int 0, .int 0, .int 0, .int 0, .int 0, .int 0, .ref 5, .ref 6, .ref 7, .ref 8, .ref 9, .ref 10, .ref 11, .ref 12])) from ⟨rfl, rfl, o_chk (by decide)⟩) ?_
  refine And.intro (show ae_g (.inl (0, 8, [(0, 8)])) (.inl (0, 8, .inl (fun _ => 0))) from ⟨rfl, rfl, z_arr (by decide)⟩) ?_
  refine And.intro (show ae_g (.inl (0, 8, [(0, 8)])) (.inl (0, 8, .inl (fun _ => 0))) from ⟨rfl, rfl, z_arr (by decide)⟩) ?_
  refine And.intro (show ae_g (.inl (0, 8, [(0, 99)])) (.inl (0, 8, .inl (fun _ => 0))) from ⟨rfl, rfl, z_arr (by decide)⟩) ?_
  refine And.intro (show ae_g (.inl (0, 8, [(0, 9)])) (.inl (0, 8, .inl (fun _ => 0))) from ⟨rfl, rfl, z_arr (by decide)⟩) ?_
  refine And.intro (show ae_g (.inl (0, 8, [(0, 9)])) (.inl (0, 8, .inl (fun _ => 0))) from ⟨rfl, rfl, z_arr (by decide)⟩) ?_
  refine And.intro (show ae_g (.inl (0, 20, [(0, 7)])) (.inl (0, 20, .inl (fun _ => 0))) from ⟨rfl, rfl, z_arr (by decide)⟩) ?_
  refine And.intro (show ae_g (.inl (0, 20, [(0, 8)])) (.inl (0, 20, .inl (fun _ => 0))) from ⟨rfl, rfl, z_arr (by decide)⟩) ?_
  refine And.intro (show ae_g (.inl (2, 20, [(0, 1)])) (.inl (2, 20, .inl (fun _ => 0))) from ⟨rfl, rfl, z_arr (by decide)⟩) ?_
  refine And.intro (show ae_g (.inr (.inr (.inr (0, [.inr (.inr (.inl 14)), .inl (0, 9)])))) (.inr (0, [.ref 14, .int 0])) from ⟨rfl, rfl, o_chk (by decide)⟩) ?_
  refine And.intro (show ae_g (.inl (0, 10, [(0, 511)])) (.inl (0, 10, .inl (fun _ => 0))) from ⟨rfl, rfl, z_arr (by decide)⟩) ?_
  refine And.intro (show ae_g (.inr (.inr (.inr (5, [.inl (0, 8), .inl (0, 3), .inl (0, 10), .inl ((-2147483648), 2147483647), .inl (0, 8), .inl (0, 8), .inl (0, 20), .inr (.inr (.inl 16)), .inr (.inr (.inl 17)), .inr (.inr (.inl 18)), .inr (.inr (.inl 19)), .inr (.inr (.inl 20)), .inr (.inr (.inl 21)), .inr (.inr (.inl 22)), .inr (.inr (.inl 23))])))) (.inr (5, [.int 0, .int 0, .int 0, .int 0, .int 0, .int 0, .int 0, .ref 16, .ref 17, .ref 18, .ref 19, .ref 20, .ref 21, .ref 22, .ref 23])) from ⟨rfl, rfl, o_chk (by decide)⟩) ?_
  refine And.intro (show ae_g (.inl (0, 8, [(0, 8)])) (.inl (0, 8, .inl (fun _ => 0))) from ⟨rfl, rfl, z_arr (by decide)⟩) ?_
  refine And.intro (show ae_g (.inl (0, 8, [(0, 8)])) (.inl (0, 8, .inl (fun _ => 0))) from ⟨rfl, rfl, z_arr (by decide)⟩) ?_
  refine And.intro (show ae_g (.inl (0, 8, [(0, 99)])) (.inl (0, 8, .inl (fun _ => 0))) from ⟨rfl, rfl, z_arr (by decide)⟩) ?_
  refine And.intro (show ae_g (.inl (0, 8, [(0, 9)])) (.inl (0, 8, .inl (fun _ => 0))) from ⟨rfl, rfl, z_arr (by decide)⟩) ?_
  refine And.intro (show ae_g (.inl (0, 8, [(0, 9)])) (.inl (0, 8, .inl (fun _ => 0))) from ⟨rfl, rfl, z_arr (by decide)⟩) ?_
  refine And.intro (show ae_g (.inl (0, 20, [(0, 7)])) (.inl (0, 20, .inl (fun _ => 0))) from ⟨rfl, rfl, z_arr (by decide)⟩) ?_
  refine And.intro (show ae_g (.inl (0, 20, [(0, 8)])) (.inl (0, 20, .inl (fun _ => 0))) from ⟨rfl, rfl, z_arr (by decide)⟩) ?_
  refine And.intro (show ae_g (.inl (2, 20, [(0, 1)])) (.inl (2, 20, .inl (fun _ => 0))) from ⟨rfl, rfl, z_arr (by decide)⟩) ?_
  refine And.intro (show ae_g (.inr (.inr (.inl (4, [some 25, some 34, some 43])))) (.inl (4, 3, .inr (.inr (.inr (.inr (va_up (va_up (va_up (fun _ => none) 0 (some 25)) 1 (some 34)) 2 (some 43))))))) from ⟨rfl, rfl, fun j y hj => by match j, hj with | 0, hj => cases hj; rfl | 1, hj => cases hj; rfl | 2, hj => cases hj; rfl | j + 3, hj => cases hj⟩) ?_
  refine And.intro (show ae_g (.inr (.inr (.inr (5, [.inl (0, 8), .inl (0, 3), .inl (0, 10), .inl ((-2147483648), 2147483647), .inl (0, 8), .inl (0, 8), .inl (0, 20), .inr (.inr (.inl 26)), .inr (.inr (.inl 27)), .inr (.inr (.inl 28)), .inr (.inr (.inl 29)), .inr (.inr (.inl 30)), .inr (.inr (.inl 31)), .inr (.inr (.inl 32)), .inr (.inr (.inl 33))])))) (.inr (5, [.int 0, .int 0, .int 0, .int 0, .int 0, .int 0, .int 0, .ref 26, .ref 27, .ref 28, .ref 29, .ref 30, .ref 31, .ref 32, .ref 33])) from ⟨rfl, rfl, o_chk (by decide)⟩) ?_
  refine And.intro (show ae_g (.inl (0, 8, [(0, 8)])) (.inl (0, 8, .inl (fun _ => 0))) from ⟨rfl, rfl, z_arr (by decide)⟩) ?_
  refine And.intro (show ae_g (.inl (0, 8, [(0, 8)])) (.inl (0, 8, .inl (fun _ => 0))) from ⟨rfl, rfl, z_arr (by decide)⟩) ?_
  refine And.intro (show ae_g (.inl (0, 8, [(0, 99)])) (.inl (0, 8, .inl (fun _ => 0))) from ⟨rfl, rfl, z_arr (by decide)⟩) ?_
  refine And.intro (show ae_g (.inl (0, 8, [(0, 9)])) (.inl (0, 8, .inl (fun _ => 0))) from ⟨rfl, rfl, z_arr (by decide)⟩) ?_
  refine And.intro (show ae_g (.inl (0, 8, [(0, 9)])) (.inl (0, 8, .inl (fun _ => 0))) from ⟨rfl, rfl, z_arr (by decide)⟩) ?_
  refine And.intro (show ae_g (.inl (0, 20, [(0, 7)])) (.inl (0, 20, .inl (fun _ => 0))) from ⟨rfl, rfl, z_arr (by decide)⟩) ?_
  refine And.intro (show ae_g (.inl (0, 20, [(0, 8)])) (.inl (0, 20, .inl (fun _ => 0))) from ⟨rfl, rfl, z_arr (by decide)⟩) ?_
  refine And.intro (show ae_g (.inl (2, 20, [(0, 1)])) (.inl (2, 20, .inl (fun _ => 0))) from ⟨rfl, rfl, z_arr (by decide)⟩) ?_
  refine And.intro (show ae_g (.inr (.inr (.inr (5, [.inl (0, 8), .inl (0, 3), .inl (0, 10), .inl ((-2147483648), 2147483647), .inl (0, 8), .inl (0, 8), .inl (0, 20), .inr (.inr (.inl 35)), .inr (.inr (.inl 36)), .inr (.inr (.inl 37)), .inr (.inr (.inl 38)), .inr (.inr (.inl 39)), .inr (.inr (.inl 40)), .inr (.inr (.inl 41)), .inr (.inr (.inl 42))])))) (.inr (5, [.int 0, .int 0, .int 0, .int 0, .int 0, .int 0, .int 0, .ref 35, .ref 36, .ref 37, .ref 38, .ref 39, .ref 40, .ref 41, .ref 42])) from ⟨rfl, rfl, o_chk (by decide)⟩) ?_
  refine And.intro (show ae_g (.inl (0, 8, [(0, 8)])) (.inl (0, 8, .inl (fun _ => 0))) from ⟨rfl, rfl, z_arr (by decide)⟩) ?_
  refine And.intro (show ae_g (.inl (0, 8, [(0, 8)])) (.inl (0, 8, .inl (fun _ => 0))) from ⟨rfl, rfl, z_arr (by decide)⟩) ?_
  refine And.intro (show ae_g (.inl (0, 8, [(0, 99)])) (.inl (0, 8, .inl (fun _ => 0))) from ⟨rfl, rfl, z_arr (by decide)⟩) ?_
  refine And.intro (show ae_g (.inl (0, 8, [(0, 9)])) (.inl (0, 8, .inl (fun _ => 0))) from ⟨rfl, rfl, z_arr (by decide)⟩) ?_
  refine And.intro (show ae_g (.inl (0, 8, [(0, 9)])) (.inl (0, 8, .inl (fun _ => 0))) from ⟨rfl, rfl, z_arr (by decide)⟩) ?_
  refine And.intro (show ae_g (.inl (0, 20, [(0, 7)])) (.inl (0, 20, .inl (fun _ => 0))) from ⟨rfl, rfl, z_arr (by decide)⟩) ?_
  refine And.intro (show ae_g (.inl (0, 20, [(0, 8)])) (.inl (0, 20, .inl (fun _ => 0))) from ⟨rfl, rfl, z_arr (by decide)⟩) ?_
  refine And.intro (show ae_g (.inl (2, 20, [(0, 1)])) (.inl (2, 20, .inl (fun _ => 0))) from ⟨rfl, rfl, z_arr (by decide)⟩) ?_
  refine And.intro (show ae_g (.inr (.inr (.inr (5, [.inl (0, 8), .inl (0, 3), .inl (0, 10), .inl ((-2147483648), 2147483647), .inl (0, 8), .inl (0, 8), .inl (0, 20), .inr (.inr (.inl 44)), .inr (.inr (.inl 45)), .inr (.inr (.inl 46)), .inr (.inr (.inl 47)), .inr (.inr (.inl 48)), .inr (.inr (.inl 49)), .inr (.inr (.inl 50)), .inr (.inr (.inl 51))])))) (.inr (5, [.int 0, .int 0, .int 0, .int 0, .int 0, .int 0, .int 0, .ref 44, .ref 45, .ref 46, .ref 47, .ref 48, .ref 49, .ref 50, .ref 51])) from ⟨rfl, rfl, o_chk (by decide)⟩) ?_
  refine And.intro (show ae_g (.inl (0, 8, [(0, 8)])) (.inl (0, 8, .inl (fun _ => 0))) from ⟨rfl, rfl, z_arr (by decide)⟩) ?_
  refine And.intro (show ae_g (.inl (0, 8, [(0, 8)])) (.inl (0, 8, .inl (fun _ => 0))) from ⟨rfl, rfl, z_arr (by decide)⟩) ?_
  refine And.intro (show ae_g (.inl (0, 8, [(0, 99)])) (.inl (0, 8, .inl (fun _ => 0))) from ⟨rfl, rfl, z_arr (by decide)⟩) ?_
  refine And.intro (show ae_g (.inl (0, 8, [(0, 9)])) (.inl (0, 8, .inl (fun _ => 0))) from ⟨rfl, rfl, z_arr (by decide)⟩) ?_
  refine And.intro (show ae_g (.inl (0, 8, [(0, 9)])) (.inl (0, 8, .inl (fun _ => 0))) from ⟨rfl, rfl, z_arr (by decide)⟩) ?_
  refine And.intro (show ae_g (.inl (0, 20, [(0, 7)])) (.inl (0, 20, .inl (fun _ => 0))) from ⟨rfl, rfl, z_arr (by decide)⟩) ?_
  refine And.intro (show ae_g (.inl (0, 20, [(0, 8)])) (.inl (0, 20, .inl (fun _ => 0))) from ⟨rfl, rfl, z_arr (by decide)⟩) ?_
  refine And.intro (show ae_g (.inl (2, 20, [(0, 1)])) (.inl (2, 20, .inl (fun _ => 0))) from ⟨rfl, rfl, z_arr (by decide)⟩) ?_
  refine And.intro (show ae_g (.inl (2, 3, [(0, 1)])) (.inl (2, 3, .inl (fun _ => 0))) from ⟨rfl, rfl, z_arr (by decide)⟩) ?_
  refine And.intro (show ae_g (.inr (.inr (.inl (5, [some 54, some 56, some 58, some 60])))) (.inl (5, 4, .inr (.inr (.inr (.inr (va_up (va_up (va_up (va_up (fun _ => none) 0 (some 54)) 1 (some 56)) 2 (some 58)) 3 (some 60))))))) from ⟨rfl, rfl, fun j y hj => by match j, hj with | 0, hj => cases hj; rfl | 1, hj => cases hj; rfl | 2, hj => cases hj; rfl | 3, hj => cases hj; rfl | j + 4, hj => cases hj⟩) ?_
  refine And.intro (show ae_g (.inr (.inr (.inr (4, [.inr (.inr (.inl 55)), .inl (0, 1), .inl (0, 3), .inl (0, 60)])))) (.inr (4, [.ref 55, .int 0, .int 0, .int 0])) from ⟨rfl, rfl, o_chk (by decide)⟩) ?_
  refine And.intro (show ae_g (.inr (.inl 60)) (.inl (3, 60, .inr (.inl (fun _ => 0)))) from ⟨rfl, rfl⟩) ?_
  refine And.intro (show ae_g (.inr (.inr (.inr (4, [.inr (.inr (.inl 57)), .inl (0, 1), .inl (0, 3), .inl (0, 60)])))) (.inr (4, [.ref 57, .int 0, .int 0, .int 0])) from ⟨rfl, rfl, o_chk (by decide)⟩) ?_
  refine And.intro (show ae_g (.inr (.inl 60)) (.inl (3, 60, .inr (.inl (fun _ => 0)))) from ⟨rfl, rfl⟩) ?_
  refine And.intro (show ae_g (.inr (.inr (.inr (4, [.inr (.inr (.inl 59)), .inl (0, 1), .inl (0, 3), .inl (0, 60)])))) (.inr (4, [.ref 59, .int 0, .int 0, .int 0])) from ⟨rfl, rfl, o_chk (by decide)⟩) ?_
  refine And.intro (show ae_g (.inr (.inl 60)) (.inl (3, 60, .inr (.inl (fun _ => 0)))) from ⟨rfl, rfl⟩) ?_
  refine And.intro (show ae_g (.inr (.inr (.inr (4, [.inr (.inr (.inl 61)), .inl (0, 1), .inl (0, 3), .inl (0, 60)])))) (.inr (4, [.ref 61, .int 0, .int 0, .int 0])) from ⟨rfl, rfl, o_chk (by decide)⟩) ?_
  refine And.intro (show ae_g (.inr (.inl 60)) (.inl (3, 60, .inr (.inl (fun _ => 0)))) from ⟨rfl, rfl⟩) ?_
  refine And.intro (show ae_g (.inr (.inr (.inr (1, [.inr (.inr (.inl 63)), .inl (0, 511), .inl (0, 255), .inl ((-2147483648), 2147483647)])))) (.inr (1, [.ref 63, .int 0, .int 0, .int 0])) from ⟨rfl, rfl, o_chk (by decide)⟩) ?_
  refine And.intro (show ae_g (.inl (0, 8, [(0, 9)])) (.inl (0, 8, .inl (fun _ => 0))) from ⟨rfl, rfl, z_arr (by decide)⟩) ?_
  refine And.intro (show ae_g (.inr (.inr (.inr (7, [.inr (.inr (.inl 65)), .inr (.inr (.inl 66)), .inr (.inr (.inl 67)), .inr (.inr (.inl 68)), .inr (.inr (.inl 69)), .inl (0, 9), .inl (0, 9)])))) (.inr (7, [.ref 65, .ref 66, .ref 67, .ref 68, .ref 69, .int 0, .int 0])) from ⟨rfl, rfl, o_chk (by decide)⟩) ?_
  refine And.intro (show ae_g (.inl (0, 9, [(0, 8)])) (.inl (0, 9, .inl (fun _ => 0))) from ⟨rfl, rfl, z_arr (by decide)⟩) ?_
  refine And.intro (show ae_g (.inl (0, 9, [(0, 8)])) (.inl (0, 9, .inl (fun _ => 0))) from ⟨rfl, rfl, z_arr (by decide)⟩) ?_
  refine And.intro (show ae_g (.inl (0, 9, [((-2147483648), 2147483647)])) (.inl (0, 9, .inl (fun _ => 0))) from ⟨rfl, rfl, z_arr (by decide)⟩) ?_
  refine And.intro (show ae_g (.inl (0, 9, [(0, 511)])) (.inl (0, 9, .inl (fun _ => 0))) from ⟨rfl, rfl, z_arr (by decide)⟩) ?_
  refine And.intro (show ae_g (.inl (0, 9, [(0, 8)])) (.inl (0, 9, .inl (fun _ => 0))) from ⟨rfl, rfl, z_arr (by decide)⟩) ?_
  refine And.intro (show ae_g (.inr (.inr (.inr (0, [.inr (.inr (.inl 71)), .inl (0, 9)])))) (.inr (0, [.ref 71, .int 0])) from ⟨rfl, rfl, o_chk (by decide)⟩) ?_
  refine And.intro (show ae_g (.inl (0, 10, [(0, 511)])) (.inl (0, 10, .inl (fun _ => 0))) from ⟨rfl, rfl, z_arr (by decide)⟩) ?_
  refine And.intro (show ae_g (.inr (.inr (.inr (3, [.inr (.inr (.inl 73)), .inr (.inr (.inl 74))])))) (.inr (3, [.ref 73, .ref 74])) from ⟨rfl, rfl, o_chk (by decide)⟩) ?_
  refine And.intro (show ae_g (.inl (0, 256, [(0, 511)])) (.inl (0, 256, .inl (fun _ => 0))) from ⟨rfl, rfl, z_arr (by decide)⟩) ?_
  refine And.intro (show ae_g (.inl (0, 256, [((-2147483648), 2147483647)])) (.inl (0, 256, .inl (fun _ => 0))) from ⟨rfl, rfl, z_arr (by decide)⟩) ?_
  refine And.intro (show ae_g (.inl (0, 8, [(0, 9)])) (.inl (0, 8, .inl (fun _ => 0))) from ⟨rfl, rfl, z_arr (by decide)⟩) ?_
  refine And.intro (show ae_g (.inl (0, 64, [(0, 9)])) (.inl (0, 64, .inl (fun _ => 0))) from ⟨rfl, rfl, z_arr (by decide)⟩) ?_
  refine And.intro (show ae_g (.inr (.inr (.inr (9, [.inl (0, 0), .inr (.inr (.inl 78)), .inr (.inr (.inl 79)), .inr (.inr (.inl 80)), .inr (.inr (.inl 81)), .inr (.inr (.inl 82)), .inl (0, 500), .inl (0, 500), .inl (0, 4), .inl (0, 500), .inl ((-2147483648), 2147483647), .inr (.inl ()), .inl (0, 3), .inl ((-1), 500), .inl (0, 3), .inl ((-1), 500), .inr (.inr (.inl 83)), .inr (.inr (.inl 84)), .inr (.inr (.inl 85)), .inr (.inr (.inl 86)), .inr (.inr (.inl 87)), .inr (.inr (.inl 88)), .inl (0, 3), .inl ((-2147483648), 2147483647), .inr (.inr (.inl 89)), .inr (.inr (.inl 90)), .inr (.inr (.inl 91)), .inl (0, 255), .inr (.inr (.inl 92)), .inr (.inr (.inl 93)), .inr (.inr (.inl 94)), .inr (.inr (.inl 95)), .inr (.inr (.inl 96)), .inr (.inr (.inl 97)), .inr (.inr (.inl 98)), .inl ((-2147483648), 2147483647), .inl (0, 9), .inr (.inr (.inl 99)), .inr (.inr (.inl 100)), .inl (0, 6), .inr (.inr (.inl 101)), .inl (0, 255), .inl ((-1), 7), .inl ((-2147483648), 2147483647), .inr (.inr (.inl 102))])))) (.inr (9, [.int 0, .ref 78, .ref 79, .ref 80, .ref 81, .ref 82, .int 0, .int 0, .int 0, .int 0, .int 0, .long 0, .int 0, .int 0, .int 0, .int (-1), .ref 83, .ref 84, .ref 85, .ref 86, .ref 87, .ref 88, .int 0, .int 0, .ref 89, .ref 90, .ref 91, .int 0, .ref 92, .ref 93, .ref 94, .ref 95, .ref 96, .ref 97, .ref 98, .int 0, .int 0, .ref 99, .ref 100, .int 0, .ref 101, .int 0, .int 0, .int 0, .ref 102])) from ⟨rfl, rfl, o_chk (by decide)⟩) ?_
  refine And.intro (show ae_g (.inl (0, 4, [((-1), 3)])) (.inl (0, 4, .inl (upd (upd (upd (upd (fun _ => 0) 0 (-1)) 1 (-1)) 2 (-1)) 3 (-1)))) from ⟨rfl, rfl, z_wid⟩) ?_
  refine And.intro (show ae_g (.inl (0, 4, [(0, 60)])) (.inl (0, 4, .inl (fun _ => 0))) from ⟨rfl, rfl, z_arr (by decide)⟩) ?_
  refine And.intro (show ae_g (.inr (.inl 240)) (.inl (3, 240, .inr (.inl (fun _ => 0)))) from ⟨rfl, rfl⟩) ?_
  refine And.intro (show ae_g (.inr (.inl 60)) (.inl (3, 60, .inr (.inl (fun _ => 0)))) from ⟨rfl, rfl⟩) ?_
  refine And.intro (show ae_g (.inl (1, 500, [((-128), 127)])) (.inl (1, 500, .inl (fun _ => 0))) from ⟨rfl, rfl, z_arr (by decide)⟩) ?_
  refine And.intro (show ae_g (.inl (0, 5, [((-2147483648), 2147483647)])) (.inl (0, 5, .inl (fun _ => 0))) from ⟨rfl, rfl, z_arr (by decide)⟩) ?_
  refine And.intro (show ae_g (.inl (0, 30, [(0, 8), (0, 3), (0, 10), (0, 8), (0, 8), (0, 20)])) (.inl (0, 30, .inl (fun _ => 0))) from ⟨rfl, rfl, z_arr (by decide)⟩) ?_
  refine And.intro (show ae_g (.inl (0, 80, [(0, 8), (0, 99)])) (.inl (0, 80, .inl (fun _ => 0))) from ⟨rfl, rfl, z_arr (by decide)⟩) ?_
  refine And.intro (show ae_g (.inl (0, 80, [(0, 9)])) (.inl (0, 80, .inl (fun _ => 0))) from ⟨rfl, rfl, z_arr (by decide)⟩) ?_
  refine And.intro (show ae_g (.inl (0, 300, [(0, 1), (0, 7), (0, 8)])) (.inl (0, 300, .inl (fun _ => 0))) from ⟨rfl, rfl, z_arr (by decide)⟩) ?_
  refine And.intro (show ae_g (.inl (2, 3, [(0, 1)])) (.inl (2, 3, .inl (fun _ => 0))) from ⟨rfl, rfl, z_arr (by decide)⟩) ?_
  refine And.intro (show ae_g (.inl (0, 8, [(0, 8)])) (.inl (0, 8, .inl (fun _ => 0))) from ⟨rfl, rfl, z_arr (by decide)⟩) ?_
  refine And.intro (show ae_g (.inl (0, 10, [((-1), 7)])) (.inl (0, 10, .inl (fun _ => 0))) from ⟨rfl, rfl, z_arr (by decide)⟩) ?_
  refine And.intro (show ae_g (.inl (0, 8, [((-1), 9)])) (.inl (0, 8, .inl (fun _ => 0))) from ⟨rfl, rfl, z_arr (by decide)⟩) ?_
  refine And.intro (show ae_g (.inl (0, 9, [(0, 8)])) (.inl (0, 9, .inl (fun _ => 0))) from ⟨rfl, rfl, z_arr (by decide)⟩) ?_
  refine And.intro (show ae_g (.inl (0, 9, [(0, 8)])) (.inl (0, 9, .inl (fun _ => 0))) from ⟨rfl, rfl, z_arr (by decide)⟩) ?_
  refine And.intro (show ae_g (.inl (0, 9, [((-2147483648), 2147483647)])) (.inl (0, 9, .inl (fun _ => 0))) from ⟨rfl, rfl, z_arr (by decide)⟩) ?_
  refine And.intro (show ae_g (.inl (0, 8, [(0, 8)])) (.inl (0, 8, .inl (fun _ => 0))) from ⟨rfl, rfl, z_arr (by decide)⟩) ?_
  refine And.intro (show ae_g (.inl (0, 18, [(0, 8)])) (.inl (0, 18, .inl (fun _ => 0))) from ⟨rfl, rfl, z_arr (by decide)⟩) ?_
  refine And.intro (show ae_g (.inl (0, 8, [((-2147483648), 2147483647)])) (.inl (0, 8, .inl (fun _ => 0))) from ⟨rfl, rfl, z_arr (by decide)⟩) ?_
  refine And.intro (show ae_g (.inl (0, 9, [(0, 8)])) (.inl (0, 9, .inl (fun _ => 0))) from ⟨rfl, rfl, z_arr (by decide)⟩) ?_
  refine And.intro (show ae_g (.inl (0, 5, [(0, 4)])) (.inl (0, 5, .inl (fun _ => 0))) from ⟨rfl, rfl, z_arr (by decide)⟩) ?_
  refine And.intro (show ae_g (.inl (0, 6, [(0, 1)])) (.inl (0, 6, .inl (fun _ => 0))) from ⟨rfl, rfl, z_arr (by decide)⟩) ?_
  refine And.intro (show ae_g (.inl (0, 10, [(0, 9)])) (.inl (0, 10, .inl (fun _ => 0))) from ⟨rfl, rfl, z_arr (by decide)⟩) ?_
  refine And.intro (show ae_g (.inl (0, 72, [((-1), 9)])) (.inl (0, 72, .inl (fun _ => 0))) from ⟨rfl, rfl, z_arr (by decide)⟩) ?_
  exact trivial
theorem FA_hp0 (T a G b st j : Nat) (hT : ∀ k, ld hp0 T k = some (.int 0)) : FA T a G b st j hp0 := by
  intro i _ _ t g h1 _ h3
  rw [hT] at h1
  cases h1
  exact absurd rfl h3
theorem RV_hp0 : RV hp0 := by
  have e84 : ∀ k, gn hp0 84 k = 0 := fun k => rfl
  have e87 : ∀ k, gn hp0 87 k = 0 := fun k => rfl
  refine ⟨fun r _ => ⟨by rw [e84, e84]; omega, fun c hc => ?_, fun k hk => ?_⟩, fun r _ i _ q => absurd (e87 _) q⟩
  · rw [e84] at hc; omega
  · rw [e84] at hk; omega
theorem IVh_hp0 : IVh hp0 := by
  refine ⟨HH_hp0, fun i hi => ?_, RV_hp0⟩
  have hi : i ∈ [20, 41, 62, 83, 104] := hi
  simp only [List.mem_cons, List.not_mem_nil, or_false] at hi
  rcases hi with rfl | rfl | rfl | rfl | rfl
  · exact (FA_hp0 12 0 11 0 1 20 (fun _ => rfl) : FA 12 0 11 0 1 20 hp0)
  · exact (FA_hp0 23 0 22 0 1 20 (fun _ => rfl) : FA 23 0 22 0 1 20 hp0)
  · exact (FA_hp0 33 0 32 0 1 20 (fun _ => rfl) : FA 33 0 32 0 1 20 hp0)
  · exact (FA_hp0 42 0 41 0 1 20 (fun _ => rfl) : FA 42 0 41 0 1 20 hp0)
  · exact (FA_hp0 51 0 50 0 1 20 (fun _ => rfl) : FA 51 0 50 0 1 20 hp0)
end
section
/-! the tapes -/
/-- a byte of a number, as it is stored -/
noncomputable def byv (v : Int32) (s : Nat) : Int32 := vp_nar .byte (v >>> (nJ s &&& 31)).toInt8.toInt32
theorem nar_b (v : Int32) : -128 ≤ (vp_nar .byte v).toInt ∧ (vp_nar .byte v).toInt ≤ 127 := by
  have e : vp_nar .byte v = v.toInt8.toInt32 := rfl
  rw [e, Int8.toInt_toInt32]
  have h1 := Int8.le_toInt v.toInt8
  have h2 := Int8.toInt_lt v.toInt8
  omega
/-- one byte more -/
noncomputable def rdb (A a k : Nat) (h : pm_H) (b : Int32) : pm_H := pt (pt h A (gn h a k) b) a k (nJ (gn h a k + 1))
/-- a tape: bytes in cell A, their number at (a, k) -/
noncomputable def isT (A a k : Nat) : Prop := A ≠ a ∧ bd a k = some (0, 500) ∧ hsF A = some (.inl (1, 500, [((-128), 127)]))
theorem isT8 : isT 2 1 1 := ⟨by decide, rfl, rfl⟩
theorem isT9 : isT 82 77 6 := ⟨by decide, rfl, rfl⟩
theorem rdb_ok {A a k : Nat} {h : pm_H} {b : Int32} (t : isT A a k) (hh : HH h) (hn : gn h a k < 500) (hb : -128 ≤ b.toInt ∧ b.toInt ≤ 127) : HH (pt h A (gn h a k) b) ∧ gn (pt h A (gn h a k) b) a k = gn h a k ∧ HH (rdb A a k h b) ∧ gn (rdb A a k h b) a k = gn h a k + 1 ∧ (∀ j, j < gn h a k → gi (rdb A a k h b) A j = gi h A j) ∧ gi (rdb A a k h b) A (gn h a k) = b ∧ fr_g [(a, k, k), (A, 0, 499)] h (rdb A a k h b) := by
  obtain ⟨t1, t2, t3⟩ := t
  have h1 : HH (pt h A (gn h a k) b) := HH_pt hh (bd_u t3 hn) hb.1 hb.2
  have t1' : A = a → False := t1
  have h2 : gn (pt h A (gn h a k) b) a k = gn h a k := gn_ne (fun e => absurd e.symm t1)
  refine ⟨h1, h2, HH_ptn h1 t2 (by first | decide | with_reducible assumption | omega) (by first | decide | with_reducible assumption | omega) (by first | decide | with_reducible assumption | omega), gn_ptn h1 t2 (by first | decide | with_reducible assumption | omega) (by first | decide | with_reducible assumption | omega) (by first | decide | with_reducible assumption | omega), fun j hj => ?_, ?_, ?_⟩
  · unfold rdb
    rw [gi_ne (fun e => absurd e t1), gi_ne (fun _ => by omega)]
  · unfold rdb
    rw [gi_ne (fun e => absurd e t1)]
    exact gi_pt hh (bd_u t3 hn) hb.1 hb.2
  · unfold rdb
    refine fr_ptr (l := k) (u := k) ?_ (Nat.le_refl _) (Nat.le_refl _) (fr_ptr (l := 0) (u := 499) ?_ (Nat.zero_le _) (by first | decide | with_reducible assumption | omega) (fr_rf _ _))
    · unfold rg_sub; simp
    · unfold rg_sub; simp
/-- four bytes more -/
noncomputable def rd4 (A a k : Nat) (h : pm_H) (v : Int32) : pm_H := rdb A a k (rdb A a k (rdb A a k (rdb A a k h (byv v 24)) (byv v 16)) (byv v 8)) (byv v 0)
noncomputable def b4 (v : Int32) (i : Nat) : Int32 := byv v (24 - 8 * i)
theorem rd4_ok {A a k : Nat} {h : pm_H} {v : Int32} (t : isT A a k) (hh : HH h) (hn : gn h a k + 4 ≤ 500) : HH (rd4 A a k h v) ∧ gn (rd4 A a k h v) a k = gn h a k + 4 ∧ (∀ j, j < gn h a k → gi (rd4 A a k h v) A j = gi h A j) ∧ (∀ i, i < 4 → gi (rd4 A a k h v) A (gn h a k + i) = b4 v i) ∧ fr_g [(a, k, k), (A, 0, 499)] h (rd4 A a k h v) := by
  obtain ⟨-, -, p1, p2, p3, p4, p5⟩ := rdb_ok (b := byv v 24) t hh (by first | decide | with_reducible assumption | omega) (nar_b _)
  obtain ⟨-, -, q1, q2, q3, q4, q5⟩ := rdb_ok (b := byv v 16) t p1 (by first | decide | with_reducible assumption | omega) (nar_b _)
  obtain ⟨-, -, r1, r2, r3, r4, r5⟩ := rdb_ok (b := byv v 8) t q1 (by first | decide | with_reducible assumption | omega) (nar_b _)
  obtain ⟨-, -, s1, s2, s3, s4, s5⟩ := rdb_ok (b := byv v 0) t r1 (by first | decide | with_reducible assumption | omega) (nar_b _)
  refine ⟨s1, by show gn (rdb _ _ _ _ _) a k = _; omega, fun j hj => ?_, fun i hi => ?_, fr_trans p5 (fr_trans q5 (fr_trans r5 s5))⟩
  · exact (s3 j (by first | decide | with_reducible assumption | omega)).trans ((r3 j (by first | decide | with_reducible assumption | omega)).trans ((q3 j (by first | decide | with_reducible assumption | omega)).trans (p3 j hj)))
  · match i, hi with
    | 0, _ => exact (s3 _ (by first | decide | with_reducible assumption | omega)).trans ((r3 _ (by first | decide | with_reducible assumption | omega)).trans ((q3 _ (by first | decide | with_reducible assumption | omega)).trans p4))
    | 1, _ => rw [← p2]; exact (s3 _ (by first | decide | with_reducible assumption | omega)).trans ((r3 _ (by first | decide | with_reducible assumption | omega)).trans q4)
    | 2, _ => rw [show gn h a k + 2 = gn (rdb A a k (rdb A a k h (byv v 24)) (byv v 16)) a k by omega]; exact (s3 _ (by first | decide | with_reducible assumption | omega)).trans r4
    | 3, _ => rw [show gn h a k + 3 = gn (rdb A a k (rdb A a k (rdb A a k h (byv v 24)) (byv v 16)) (byv v 8)) a k by omega]; exact s4
/-- twenty bytes more -/
noncomputable def rd20 (A a k : Nat) (h : pm_H) (v1 v2 v3 v4 v5 : Int32) : pm_H := rd4 A a k (rd4 A a k (rd4 A a k (rd4 A a k (rd4 A a k h v1) v2) v3) v4) v5
noncomputable def b20 (v1 v2 v3 v4 v5 : Int32) (i : Nat) : Int32 := if i < 4 then b4 v1 i else if i < 8 then b4 v2 (i - 4) else if i < 12 then b4 v3 (i - 8) else if i < 16 then b4 v4 (i - 12) else b4 v5 (i - 16)
theorem rd20_ok {A a k : Nat} {h : pm_H} {v1 v2 v3 v4 v5 : Int32} (t : isT A a k) (hh : HH h) (hn : gn h a k + 20 ≤ 500) : HH (rd20 A a k h v1 v2 v3 v4 v5) ∧ gn (rd20 A a k h v1 v2 v3 v4 v5) a k = gn h a k + 20 ∧ (∀ j, j < gn h a k → gi (rd20 A a k h v1 v2 v3 v4 v5) A j = gi h A j) ∧ (∀ i, i < 20 → gi (rd20 A a k h v1 v2 v3 v4 v5) A (gn h a k + i) = b20 v1 v2 v3 v4 v5 i) ∧ fr_g [(a, k, k), (A, 0, 499)] h (rd20 A a k h v1 v2 v3 v4 v5) := by
  obtain ⟨a1, a2, a3, a4, a5⟩ := rd4_ok (v := v1) t hh (by first | decide | with_reducible assumption | omega)
  obtain ⟨c1, c2, c3, c4, c5⟩ := rd4_ok (v := v2) t a1 (by first | decide | with_reducible assumption | omega)
  obtain ⟨d1, d2, d3, d4, d5⟩ := rd4_ok (v := v3) t c1 (by first | decide | with_reducible assumption | omega)
  obtain ⟨e1, e2, e3, e4, e5⟩ := rd4_ok (v := v4) t d1 (by first | decide | with_reducible assumption | omega)
  obtain ⟨f1, f2, f3, f4, f5⟩ := rd4_ok (v := v5) t e1 (by first | decide | with_reducible assumption | omega)
  refine ⟨f1, by show gn (rd4 _ _ _ _ _) a k = _; omega, fun j hj => ?_, fun i hi => ?_, fr_trans a5 (fr_trans c5 (fr_trans d5 (fr_trans e5 f5)))⟩
  · exact (f3 j (by first | decide | with_reducible assumption | omega)).trans ((e3 j (by first | decide | with_reducible assumption | omega)).trans ((d3 j (by first | decide | with_reducible assumption | omega)).trans ((c3 j (by first | decide | with_reducible assumption | omega)).trans (a3 j hj))))
  · unfold b20
    split
    · exact (f3 _ (by first | decide | with_reducible assumption | omega)).trans ((e3 _ (by first | decide | with_reducible assumption | omega)).trans ((d3 _ (by first | decide | with_reducible assumption | omega)).trans ((c3 _ (by first | decide | with_reducible assumption | omega)).trans (a4 i (by first | decide | with_reducible assumption | omega)))))
    · split
      · have := c4 (i - 4) (by first | decide | with_reducible assumption | omega)
        rw [show gn (rd4 A a k h v1) a k + (i - 4) = gn h a k + i by omega] at this
        exact (f3 _ (by first | decide | with_reducible assumption | omega)).trans ((e3 _ (by first | decide | with_reducible assumption | omega)).trans ((d3 _ (by first | decide | with_reducible assumption | omega)).trans this))
      · split
        · have := d4 (i - 8) (by first | decide | with_reducible assumption | omega)
          rw [show gn (rd4 A a k (rd4 A a k h v1) v2) a k + (i - 8) = gn h a k + i by omega] at this
          exact (f3 _ (by first | decide | with_reducible assumption | omega)).trans ((e3 _ (by first | decide | with_reducible assumption | omega)).trans this)
        · split
          · have := e4 (i - 12) (by first | decide | with_reducible assumption | omega)
            rw [show gn (rd4 A a k (rd4 A a k (rd4 A a k h v1) v2) v3) a k + (i - 12) = gn h a k + i by omega] at this
            exact (f3 _ (by first | decide | with_reducible assumption | omega)).trans this
          · have := f4 (i - 16) (by first | decide | with_reducible assumption | omega)
            rw [show gn (rd4 A a k (rd4 A a k (rd4 A a k (rd4 A a k h v1) v2) v3) v4) a k + (i - 16) = gn h a k + i by omega] at this
            exact this
/-- the tapes of class and reference -/
noncomputable def TP (h : pm_H) : Prop := gn h 1 1 = gn h 77 6 ∧ ∀ j, j < gn h 1 1 → gi h 2 j = gi h 82 j
theorem TP_fr {M : List Rng} {h h' : pm_H} (hf : fr_g M h h') (h1 : rg_in M 1 1 = false) (h2 : rg_in M 77 6 = false) (h3 : M.all (fun r => !(Nat.beq r.1 2)) = true) (h4 : M.all (fun r => !(Nat.beq r.1 82)) = true) (T : TP h) : TP h' := by
  refine ⟨by rw [fr_gn hf h1, fr_gn hf h2]; exact T.1, fun j hj => ?_⟩
  rw [fr_gn hf h1] at hj
  rw [fr_gi hf (rg_no h3 j), fr_gi hf (rg_no h4 j)]
  exact T.2 j hj
end
section
/-! by hand: feed and end of class and reference (written by gen_t26.py) -/
theorem add_r {h : pm_H} {d s : Nat} {v x : Int32} {Q : pm_H → Option Value → Prop} (lv : List (Nat × Value)) (hh : HH h) (hn : gn h 1 1 < 500) (hs : s < 32) (hx : nJ s + (-8) = x) (L0 : pm_get lv 0 = some (.ref 1)) (L1 : pm_get lv 1 = some (.int v)) (L2 : pm_get lv 2 = some (.int (nJ s))) (K : ∀ lv : List (Nat × Value), pm_get lv 0 = some (.ref 1) → pm_get lv 1 = some (.int v) → pm_get lv 2 = some (.int x) → Ends (pm_at tX6_add) (pm_Rt pm_P d) (3, lv, [], rdb 2 1 1 h (byv v s), 0, 0) Q) : Ends (pm_at tX6_add) (pm_Rt pm_P d) (3, lv, [], h, 0, 0) Q := by
  refine E_il rfl L2 ?_
  refine E_ifF rfl (decide_eq_false (nJ_lt0 (by first | decide | with_reducible assumption | omega))) ?_
  refine E_al rfl L0 ?_
  refine E_ogf rfl hh rfl rfl (show gi h 1 1 = nJ ((gn h 1 1)) from (gi_gn hh rfl (by decide))) ?_
  refine E_ci 500 rfl ci500 ?_
  refine E_icF rfl (decide_eq_false (fun q => absurd ((nJ_le (a := 500) (by first | decide | with_reducible assumption | omega) (by first | decide | with_reducible assumption | omega)).mp q) (by first | decide | with_reducible assumption | omega))) ?_
  refine E_al rfl L0 ?_
  refine E_ogr rfl hh rfl (q := 2) rfl ?_
  refine E_al rfl L0 ?_
  refine E_ogf rfl hh rfl rfl (show gi h 1 1 = nJ ((gn h 1 1)) from (gi_gn hh rfl (by decide))) ?_
  refine E_il rfl L1 ?_
  refine E_il rfl L2 ?_
  refine E_bin rfl rfl ?_
  refine E_un rfl ?_
  refine E_bas rfl hh rfl (by first | decide | with_reducible assumption | omega) (by decide) ?_
  obtain ⟨p1, p2, p3, p4, -, -, -⟩ := rdb_ok (b := byv v s) isT8 hh hn (nar_b _)
  show Ends _ _ (30, lv, [], (pt h 2 (gn h 1 1) (byv v s)), 0, 0) _
  refine E_al rfl L0 ?_
  refine E_dup rfl rfl ?_
  refine E_ogf rfl p1 rfl rfl (show gi (pt h 2 (gn h 1 1) (byv v s)) 1 1 = nJ ((gn h 1 1)) from (by rw [gi_ne (by first | exact gxx rfl | omega)]; exact gi_gn hh rfl (by decide))) ?_
  refine E_ci 1 rfl ci1 ?_
  refine E_bin rfl (nJ_add _ _) ?_
  refine E_opf rfl p1 rfl rfl ?_
  have hh1 : HH (pt (pt h 2 (gn h 1 1) (byv v s)) 1 1 (nJ (((gn h 1 1) + 1)))) := HH_ptn p1 rfl (by first | decide | with_reducible assumption | omega) (by first | decide | with_reducible assumption | omega) (by first | decide | with_reducible assumption | omega)
  refine E_inc rfl L2 hx (fun lv2 L2_2 kp2 => ?_)
  have L2_0 := kp2 0 _ (nbz rfl) rfl L0
  have L2_1 := kp2 1 _ (nbz rfl) rfl L1
  refine E_goto rfl ?_
  exact K lv2 L2_0 L2_1 L2_2
theorem sp_add {h : pm_H} {d : Nat} {v : Int32} (hh : HH h) (hn : gn h 1 1 + 4 ≤ 500) : Sp (d + 1) 55 h [.ref 1, .int v] (fun h' r => r = none ∧ h' = rd4 2 1 1 h v) := by
  refine Sp_of aiX6_add rfl rfl rfl ?_
  refine E_ci 24 rfl ci24 ?_
  refine E_is rfl (fun lv1 L1_2 kp1 => ?_)
  have L1_0 := kp1 0 _ (nbz rfl) rfl (show pm_get (lv_args 0 [.ref 1, .int v]) 0 = _ from rfl)
  have L1_1 := kp1 1 _ (nbz rfl) rfl (show pm_get (lv_args 0 [.ref 1, .int v]) 1 = _ from rfl)
  have T := isT8
  obtain ⟨-, -, p1, p2, -, -, -⟩ := rdb_ok (b := byv v 24) T hh (by first | decide | with_reducible assumption | omega) (nar_b _)
  obtain ⟨-, -, q1, q2, -, -, -⟩ := rdb_ok (b := byv v 16) T p1 (by first | decide | with_reducible assumption | omega) (nar_b _)
  obtain ⟨-, -, r1, r2, -, -, -⟩ := rdb_ok (b := byv v 8) T q1 (by first | decide | with_reducible assumption | omega) (nar_b _)
  refine add_r (x := nJ 16) _ hh (by first | decide | with_reducible assumption | omega) (by first | decide | with_reducible assumption | omega) (by decide) L1_0 L1_1 L1_2 (fun lv A0 A1 A2 => ?_)
  refine add_r (x := nJ 8) _ p1 (by first | decide | with_reducible assumption | omega) (by first | decide | with_reducible assumption | omega) (by decide) A0 A1 A2 (fun lv A0 A1 A2 => ?_)
  refine add_r (x := nJ 0) _ q1 (by first | decide | with_reducible assumption | omega) (by first | decide | with_reducible assumption | omega) (by decide) A0 A1 A2 (fun lv A0 A1 A2 => ?_)
  refine add_r (x := -8) _ r1 (by first | decide | with_reducible assumption | omega) (by first | decide | with_reducible assumption | omega) (by decide) A0 A1 A2 (fun lv A0 A1 A2 => ?_)
  refine E_il rfl A2 ?_
  refine E_ifT rfl (by decide) ?_
  exact E_ret rfl ⟨rfl, rfl⟩
theorem four_r {h : pm_H} {d s : Nat} {v x : Int32} {Q : pm_H → Option Value → Prop} (lv : List (Nat × Value)) (hh : HH h) (hn : gn h 77 6 < 500) (hs : s < 32) (hx : nJ s + (-8) = x) (L0 : pm_get lv 0 = some (.ref 77)) (L1 : pm_get lv 1 = some (.int v)) (L2 : pm_get lv 2 = some (.int (nJ s))) (K : ∀ lv : List (Nat × Value), pm_get lv 0 = some (.ref 77) → pm_get lv 1 = some (.int v) → pm_get lv 2 = some (.int x) → Ends (pm_at tX9_four) (pm_Rt pm_P d) (3, lv, [], rdb 82 77 6 h (byv v s), 0, 0) Q) : Ends (pm_at tX9_four) (pm_Rt pm_P d) (3, lv, [], h, 0, 0) Q := by
  refine E_il rfl L2 ?_
  refine E_ifF rfl (decide_eq_false (nJ_lt0 (by first | decide | with_reducible assumption | omega))) ?_
  refine E_al rfl L0 ?_
  refine E_gr rfl hh (q := 82) rfl ?_
  refine E_al rfl L0 ?_
  refine E_gf rfl hh rfl (show gi h 77 6 = nJ ((gn h 77 6)) from (gi_gn hh rfl (by decide))) ?_
  refine E_il rfl L1 ?_
  refine E_il rfl L2 ?_
  refine E_bin rfl rfl ?_
  refine E_un rfl ?_
  refine E_bas rfl hh rfl (by first | decide | with_reducible assumption | omega) (by decide) ?_
  obtain ⟨p1, p2, p3, p4, -, -, -⟩ := rdb_ok (b := byv v s) isT9 hh hn (nar_b _)
  show Ends _ _ (20, lv, [], (pt h 82 (gn h 77 6) (byv v s)), 0, 0) _
  refine E_al rfl L0 ?_
  refine E_dup rfl rfl ?_
  refine E_gf rfl p1 rfl (show gi (pt h 82 (gn h 77 6) (byv v s)) 77 6 = nJ ((gn h 77 6)) from (by rw [gi_ne (by first | exact gxx rfl | omega)]; exact gi_gn hh rfl (by decide))) ?_
  refine E_ci 1 rfl ci1 ?_
  refine E_bin rfl (nJ_add _ _) ?_
  refine E_pf rfl p1 rfl ?_
  have hh1 : HH (pt (pt h 82 (gn h 77 6) (byv v s)) 77 6 (nJ (((gn h 77 6) + 1)))) := HH_ptn p1 rfl (by first | decide | with_reducible assumption | omega) (by first | decide | with_reducible assumption | omega) (by first | decide | with_reducible assumption | omega)
  refine E_inc rfl L2 hx (fun lv2 L2_2 kp2 => ?_)
  have L2_0 := kp2 0 _ (nbz rfl) rfl L0
  have L2_1 := kp2 1 _ (nbz rfl) rfl L1
  refine E_goto rfl ?_
  exact K lv2 L2_0 L2_1 L2_2
theorem sp_four {h : pm_H} {d : Nat} {v : Int32} (hh : HH h) (hn : gn h 77 6 + 4 ≤ 500) : Sp (d + 1) 252 h [.ref 77, .int v] (fun h' r => r = none ∧ h' = rd4 82 77 6 h v) := by
  refine Sp_of aiX9_four rfl rfl rfl ?_
  refine E_ci 24 rfl ci24 ?_
  refine E_is rfl (fun lv1 L1_2 kp1 => ?_)
  have L1_0 := kp1 0 _ (nbz rfl) rfl (show pm_get (lv_args 0 [.ref 77, .int v]) 0 = _ from rfl)
  have L1_1 := kp1 1 _ (nbz rfl) rfl (show pm_get (lv_args 0 [.ref 77, .int v]) 1 = _ from rfl)
  have T := isT9
  obtain ⟨-, -, p1, p2, -, -, -⟩ := rdb_ok (b := byv v 24) T hh (by first | decide | with_reducible assumption | omega) (nar_b _)
  obtain ⟨-, -, q1, q2, -, -, -⟩ := rdb_ok (b := byv v 16) T p1 (by first | decide | with_reducible assumption | omega) (nar_b _)
  obtain ⟨-, -, r1, r2, -, -, -⟩ := rdb_ok (b := byv v 8) T q1 (by first | decide | with_reducible assumption | omega) (nar_b _)
  refine four_r (x := nJ 16) _ hh (by first | decide | with_reducible assumption | omega) (by first | decide | with_reducible assumption | omega) (by decide) L1_0 L1_1 L1_2 (fun lv A0 A1 A2 => ?_)
  refine four_r (x := nJ 8) _ p1 (by first | decide | with_reducible assumption | omega) (by first | decide | with_reducible assumption | omega) (by decide) A0 A1 A2 (fun lv A0 A1 A2 => ?_)
  refine four_r (x := nJ 0) _ q1 (by first | decide | with_reducible assumption | omega) (by first | decide | with_reducible assumption | omega) (by decide) A0 A1 A2 (fun lv A0 A1 A2 => ?_)
  refine four_r (x := -8) _ r1 (by first | decide | with_reducible assumption | omega) (by first | decide | with_reducible assumption | omega) (by decide) A0 A1 A2 (fun lv A0 A1 A2 => ?_)
  refine E_il rfl A2 ?_
  refine E_ifT rfl (by decide) ?_
  exact E_ret rfl ⟨rfl, rfl⟩
theorem sp_feed8 {h : pm_H} {dd : Nat} {a b c d e : Int32} (hh : HH h) : Sp (dd + 2) 106 h [.ref 0, .int a, .int b, .int c, .int d, .int e] (fun h' r => (gn h 1 1 + 20 ≤ 500 ∧ h' = rd20 2 1 1 h a b c d e ∧ r = some (.int (nJ (gn h 1 1 + 20)))) ∨ (¬ gn h 1 1 + 20 ≤ 500 ∧ h' = h ∧ r = some (.int (-1)))) := by
  have hn5 : gn h 1 1 ≤ 500 := gn_hi hh rfl (by decide)
  refine Sp_of aiX8_feed rfl rfl rfl ?_
  refine E_al rfl (show pm_get (lv_args 0 [.ref 0, .int a, .int b, .int c, .int d, .int e]) 0 = _ from rfl) ?_
  refine E_ogr rfl hh rfl (q := 1) rfl ?_
  refine E_ogf rfl hh rfl rfl (show gi h 1 1 = nJ ((gn h 1 1)) from (gi_gn hh rfl (by decide))) ?_
  refine E_ci 480 rfl ci480 ?_
  by_cases hb1 : (gn h 1 1) ≤ 480
  · refine E_icT rfl (decide_eq_true ((nJ_le (by first | decide | with_reducible assumption | omega) (by first | decide | with_reducible assumption | omega)).mpr hb1)) ?_
    refine E_al rfl (show pm_get (lv_args 0 [.ref 0, .int a, .int b, .int c, .int d, .int e]) 0 = _ from rfl) ?_
    refine E_ogr rfl hh rfl (q := 1) rfl ?_
    refine E_il rfl (show pm_get (lv_args 0 [.ref 0, .int a, .int b, .int c, .int d, .int e]) 1 = _ from rfl) ?_
    refine E_call rfl (Sp_le (by first | exact Nat.add_le_add_left (Nat.le_of_ble_eq_true rfl) _ | exact Nat.le_of_ble_eq_true rfl | omega) (sp_add (d := 0) hh (by first | decide | with_reducible assumption | omega))) (chkO (a := 1) hh rfl rfl rfl rfl (by show 0 ≤ 8; decide)) (fun h2 r2 => ?_)
    rintro ⟨e2, f2⟩
    rw [e2, f2]
    obtain ⟨y2, n2, -, -, -⟩ := rd4_ok (v := a) isT8 hh (by first | decide | with_reducible assumption | omega)
    show Ends _ _ (23, (lv_args 0 [.ref 0, .int a, .int b, .int c, .int d, .int e]), [], (rd4 2 1 1 h a), 0, 0) _
    refine E_al rfl (show pm_get (lv_args 0 [.ref 0, .int a, .int b, .int c, .int d, .int e]) 0 = _ from rfl) ?_
    refine E_ogr rfl y2 rfl (q := 1) rfl ?_
    refine E_il rfl (show pm_get (lv_args 0 [.ref 0, .int a, .int b, .int c, .int d, .int e]) 2 = _ from rfl) ?_
    refine E_call rfl (Sp_le (by first | exact Nat.add_le_add_left (Nat.le_of_ble_eq_true rfl) _ | exact Nat.le_of_ble_eq_true rfl | omega) (sp_add (d := 0) y2 (by first | decide | with_reducible assumption | omega))) (chkO (a := 1) y2 rfl rfl rfl rfl (by show 0 ≤ 8; decide)) (fun h3 r3 => ?_)
    rintro ⟨e3, f3⟩
    rw [e3, f3]
    obtain ⟨y3, n3, -, -, -⟩ := rd4_ok (v := b) isT8 y2 (by first | decide | with_reducible assumption | omega)
    show Ends _ _ (31, (lv_args 0 [.ref 0, .int a, .int b, .int c, .int d, .int e]), [], (rd4 2 1 1 (rd4 2 1 1 h a) b), 0, 0) _
    refine E_al rfl (show pm_get (lv_args 0 [.ref 0, .int a, .int b, .int c, .int d, .int e]) 0 = _ from rfl) ?_
    refine E_ogr rfl y3 rfl (q := 1) rfl ?_
    refine E_il rfl (show pm_get (lv_args 0 [.ref 0, .int a, .int b, .int c, .int d, .int e]) 3 = _ from rfl) ?_
    refine E_call rfl (Sp_le (by first | exact Nat.add_le_add_left (Nat.le_of_ble_eq_true rfl) _ | exact Nat.le_of_ble_eq_true rfl | omega) (sp_add (d := 0) y3 (by first | decide | with_reducible assumption | omega))) (chkO (a := 1) y3 rfl rfl rfl rfl (by show 0 ≤ 8; decide)) (fun h4 r4 => ?_)
    rintro ⟨e4, f4⟩
    rw [e4, f4]
    obtain ⟨y4, n4, -, -, -⟩ := rd4_ok (v := c) isT8 y3 (by first | decide | with_reducible assumption | omega)
    show Ends _ _ (39, (lv_args 0 [.ref 0, .int a, .int b, .int c, .int d, .int e]), [], (rd4 2 1 1 (rd4 2 1 1 (rd4 2 1 1 h a) b) c), 0, 0) _
    refine E_al rfl (show pm_get (lv_args 0 [.ref 0, .int a, .int b, .int c, .int d, .int e]) 0 = _ from rfl) ?_
    refine E_ogr rfl y4 rfl (q := 1) rfl ?_
    refine E_il rfl (show pm_get (lv_args 0 [.ref 0, .int a, .int b, .int c, .int d, .int e]) 4 = _ from rfl) ?_
    refine E_call rfl (Sp_le (by first | exact Nat.add_le_add_left (Nat.le_of_ble_eq_true rfl) _ | exact Nat.le_of_ble_eq_true rfl | omega) (sp_add (d := 0) y4 (by first | decide | with_reducible assumption | omega))) (chkO (a := 1) y4 rfl rfl rfl rfl (by show 0 ≤ 8; decide)) (fun h5 r5 => ?_)
    rintro ⟨e5, f5⟩
    rw [e5, f5]
    obtain ⟨y5, n5, -, -, -⟩ := rd4_ok (v := d) isT8 y4 (by first | decide | with_reducible assumption | omega)
    show Ends _ _ (48, (lv_args 0 [.ref 0, .int a, .int b, .int c, .int d, .int e]), [], (rd4 2 1 1 (rd4 2 1 1 (rd4 2 1 1 (rd4 2 1 1 h a) b) c) d), 0, 0) _
    refine E_al rfl (show pm_get (lv_args 0 [.ref 0, .int a, .int b, .int c, .int d, .int e]) 0 = _ from rfl) ?_
    refine E_ogr rfl y5 rfl (q := 1) rfl ?_
    refine E_il rfl (show pm_get (lv_args 0 [.ref 0, .int a, .int b, .int c, .int d, .int e]) 5 = _ from rfl) ?_
    refine E_call rfl (Sp_le (by first | exact Nat.add_le_add_left (Nat.le_of_ble_eq_true rfl) _ | exact Nat.le_of_ble_eq_true rfl | omega) (sp_add (d := 0) y5 (by first | decide | with_reducible assumption | omega))) (chkO (a := 1) y5 rfl rfl rfl rfl (by show 0 ≤ 8; decide)) (fun h6 r6 => ?_)
    rintro ⟨e6, f6⟩
    rw [e6, f6]
    obtain ⟨y6, n6, -, -, -⟩ := rd4_ok (v := e) isT8 y5 (by first | decide | with_reducible assumption | omega)
    show Ends _ _ (57, (lv_args 0 [.ref 0, .int a, .int b, .int c, .int d, .int e]), [], (rd4 2 1 1 (rd4 2 1 1 (rd4 2 1 1 (rd4 2 1 1 (rd4 2 1 1 h a) b) c) d) e), 0, 0) _
    refine E_al rfl (show pm_get (lv_args 0 [.ref 0, .int a, .int b, .int c, .int d, .int e]) 0 = _ from rfl) ?_
    refine E_ogr rfl y6 rfl (q := 1) rfl ?_
    refine E_ogf rfl y6 rfl rfl (show gi (rd4 2 1 1 (rd4 2 1 1 (rd4 2 1 1 (rd4 2 1 1 (rd4 2 1 1 h a) b) c) d) e) 1 1 = nJ ((gn h 1 1 + 20)) from (by rw [gi_gn y6 rfl (by decide)]; exact congrArg nJ (by first | decide | with_reducible assumption | omega))) ?_
    exact E_rti rfl (.inl ⟨by omega, rfl, rfl⟩)
  · refine E_icF rfl (decide_eq_false (fun q => hb1 ((nJ_le (by first | decide | with_reducible assumption | omega) (by first | decide | with_reducible assumption | omega)).mp q))) ?_
    refine E_c rfl ?_
    exact E_rti rfl (.inr ⟨by omega, rfl, rfl⟩)
theorem sp_feed9 {h : pm_H} {dd : Nat} {a b c d e : Int32} (hh : HH h) : Sp (dd + 2) 247 h [.ref 77, .int a, .int b, .int c, .int d, .int e] (fun h' r => (gn h 77 6 + 20 ≤ 500 ∧ h' = rd20 82 77 6 (pt h 77 0 (nJ 0)) a b c d e ∧ r = some (.int (nJ (gn h 77 6 + 20)))) ∨ (¬ gn h 77 6 + 20 ≤ 500 ∧ h' = (pt h 77 0 (nJ 0)) ∧ r = some (.int (-1)))) := by
  have hn5 : gn h 77 6 ≤ 500 := gn_hi hh rfl (by decide)
  refine Sp_of aiX9_feed rfl rfl rfl ?_
  refine E_al rfl (show pm_get (lv_args 0 [.ref 77, .int a, .int b, .int c, .int d, .int e]) 0 = _ from rfl) ?_
  refine E_ci 0 rfl ci0 ?_
  refine E_pf rfl hh rfl ?_
  have hh1 : HH (pt h 77 0 (nJ 0)) := HH_ptn hh rfl (by first | decide | with_reducible assumption | omega) (by first | decide | with_reducible assumption | omega) (by first | decide | with_reducible assumption | omega)
  have n0 : gn (pt h 77 0 (nJ 0)) 77 6 = gn h 77 6 := gn_ne (by first | exact gxx rfl | omega)
  refine E_al rfl (show pm_get (lv_args 0 [.ref 77, .int a, .int b, .int c, .int d, .int e]) 0 = _ from rfl) ?_
  refine E_gf rfl hh1 rfl (show gi (pt h 77 0 (nJ 0)) 77 6 = nJ ((gn h 77 6)) from (by rw [gi_ne (by first | exact gxx rfl | omega)]; exact gi_gn hh rfl (by decide))) ?_
  refine E_ci 20 rfl ci20 ?_
  refine E_bin rfl (nJ_add _ _) ?_
  refine E_ci 500 rfl ci500 ?_
  by_cases hb2 : ((gn h 77 6) + 20) ≤ 500
  · refine E_icT rfl (decide_eq_true ((nJ_le (by first | decide | with_reducible assumption | omega) (by first | decide | with_reducible assumption | omega)).mpr hb2)) ?_
    refine E_al rfl (show pm_get (lv_args 0 [.ref 77, .int a, .int b, .int c, .int d, .int e]) 0 = _ from rfl) ?_
    refine E_il rfl (show pm_get (lv_args 0 [.ref 77, .int a, .int b, .int c, .int d, .int e]) 1 = _ from rfl) ?_
    refine E_call rfl (Sp_le (by first | exact Nat.add_le_add_left (Nat.le_of_ble_eq_true rfl) _ | exact Nat.le_of_ble_eq_true rfl | omega) (sp_four (d := 0) hh1 (by first | decide | with_reducible assumption | omega))) (chk77 hh1 rfl rfl (by show 0 ≤ 8; decide)) (fun h3 r3 => ?_)
    rintro ⟨e3, f3⟩
    rw [e3, f3]
    obtain ⟨y3, n3, -, -, -⟩ := rd4_ok (v := a) isT9 hh1 (by first | decide | with_reducible assumption | omega)
    show Ends _ _ (25, (lv_args 0 [.ref 77, .int a, .int b, .int c, .int d, .int e]), [], (rd4 82 77 6 (pt h 77 0 (nJ 0)) a), 0, 0) _
    refine E_al rfl (show pm_get (lv_args 0 [.ref 77, .int a, .int b, .int c, .int d, .int e]) 0 = _ from rfl) ?_
    refine E_il rfl (show pm_get (lv_args 0 [.ref 77, .int a, .int b, .int c, .int d, .int e]) 2 = _ from rfl) ?_
    refine E_call rfl (Sp_le (by first | exact Nat.add_le_add_left (Nat.le_of_ble_eq_true rfl) _ | exact Nat.le_of_ble_eq_true rfl | omega) (sp_four (d := 0) y3 (by first | decide | with_reducible assumption | omega))) (chk77 y3 rfl rfl (by show 0 ≤ 8; decide)) (fun h4 r4 => ?_)
    rintro ⟨e4, f4⟩
    rw [e4, f4]
    obtain ⟨y4, n4, -, -, -⟩ := rd4_ok (v := b) isT9 y3 (by first | decide | with_reducible assumption | omega)
    show Ends _ _ (30, (lv_args 0 [.ref 77, .int a, .int b, .int c, .int d, .int e]), [], (rd4 82 77 6 (rd4 82 77 6 (pt h 77 0 (nJ 0)) a) b), 0, 0) _
    refine E_al rfl (show pm_get (lv_args 0 [.ref 77, .int a, .int b, .int c, .int d, .int e]) 0 = _ from rfl) ?_
    refine E_il rfl (show pm_get (lv_args 0 [.ref 77, .int a, .int b, .int c, .int d, .int e]) 3 = _ from rfl) ?_
    refine E_call rfl (Sp_le (by first | exact Nat.add_le_add_left (Nat.le_of_ble_eq_true rfl) _ | exact Nat.le_of_ble_eq_true rfl | omega) (sp_four (d := 0) y4 (by first | decide | with_reducible assumption | omega))) (chk77 y4 rfl rfl (by show 0 ≤ 8; decide)) (fun h5 r5 => ?_)
    rintro ⟨e5, f5⟩
    rw [e5, f5]
    obtain ⟨y5, n5, -, -, -⟩ := rd4_ok (v := c) isT9 y4 (by first | decide | with_reducible assumption | omega)
    show Ends _ _ (35, (lv_args 0 [.ref 77, .int a, .int b, .int c, .int d, .int e]), [], (rd4 82 77 6 (rd4 82 77 6 (rd4 82 77 6 (pt h 77 0 (nJ 0)) a) b) c), 0, 0) _
    refine E_al rfl (show pm_get (lv_args 0 [.ref 77, .int a, .int b, .int c, .int d, .int e]) 0 = _ from rfl) ?_
    refine E_il rfl (show pm_get (lv_args 0 [.ref 77, .int a, .int b, .int c, .int d, .int e]) 4 = _ from rfl) ?_
    refine E_call rfl (Sp_le (by first | exact Nat.add_le_add_left (Nat.le_of_ble_eq_true rfl) _ | exact Nat.le_of_ble_eq_true rfl | omega) (sp_four (d := 0) y5 (by first | decide | with_reducible assumption | omega))) (chk77 y5 rfl rfl (by show 0 ≤ 8; decide)) (fun h6 r6 => ?_)
    rintro ⟨e6, f6⟩
    rw [e6, f6]
    obtain ⟨y6, n6, -, -, -⟩ := rd4_ok (v := d) isT9 y5 (by first | decide | with_reducible assumption | omega)
    show Ends _ _ (41, (lv_args 0 [.ref 77, .int a, .int b, .int c, .int d, .int e]), [], (rd4 82 77 6 (rd4 82 77 6 (rd4 82 77 6 (rd4 82 77 6 (pt h 77 0 (nJ 0)) a) b) c) d), 0, 0) _
    refine E_al rfl (show pm_get (lv_args 0 [.ref 77, .int a, .int b, .int c, .int d, .int e]) 0 = _ from rfl) ?_
    refine E_il rfl (show pm_get (lv_args 0 [.ref 77, .int a, .int b, .int c, .int d, .int e]) 5 = _ from rfl) ?_
    refine E_call rfl (Sp_le (by first | exact Nat.add_le_add_left (Nat.le_of_ble_eq_true rfl) _ | exact Nat.le_of_ble_eq_true rfl | omega) (sp_four (d := 0) y6 (by first | decide | with_reducible assumption | omega))) (chk77 y6 rfl rfl (by show 0 ≤ 8; decide)) (fun h7 r7 => ?_)
    rintro ⟨e7, f7⟩
    rw [e7, f7]
    obtain ⟨y7, n7, -, -, -⟩ := rd4_ok (v := e) isT9 y6 (by first | decide | with_reducible assumption | omega)
    show Ends _ _ (47, (lv_args 0 [.ref 77, .int a, .int b, .int c, .int d, .int e]), [], (rd4 82 77 6 (rd4 82 77 6 (rd4 82 77 6 (rd4 82 77 6 (rd4 82 77 6 (pt h 77 0 (nJ 0)) a) b) c) d) e), 0, 0) _
    refine E_al rfl (show pm_get (lv_args 0 [.ref 77, .int a, .int b, .int c, .int d, .int e]) 0 = _ from rfl) ?_
    refine E_gf rfl y7 rfl (show gi (rd4 82 77 6 (rd4 82 77 6 (rd4 82 77 6 (rd4 82 77 6 (rd4 82 77 6 (pt h 77 0 (nJ 0)) a) b) c) d) e) 77 6 = nJ ((gn h 77 6 + 20)) from (by rw [gi_gn y7 rfl (by decide)]; exact congrArg nJ (by first | decide | with_reducible assumption | omega))) ?_
    exact E_rti rfl (.inl ⟨by omega, rfl, rfl⟩)
  · refine E_icF rfl (decide_eq_false (fun q => hb2 ((nJ_le (by first | decide | with_reducible assumption | omega) (by first | decide | with_reducible assumption | omega)).mp q))) ?_
    refine E_c rfl ?_
    exact E_rti rfl (.inr ⟨by omega, rfl, rfl⟩)
theorem sp_end8 {h : pm_H} {d : Nat} {x : Int32} (hh : HH h) : Sp (d + 1) 101 h [.ref 0, .int x] (fun h' r => ((0 ≤ x.toInt ∧ x.toInt ≤ (gn h 1 1 : Int)) ∧ h' = pt h 1 1 x ∧ r = some (.int x)) ∨ (¬ (0 ≤ x.toInt ∧ x.toInt ≤ (gn h 1 1 : Int)) ∧ h' = h ∧ r = some (.int (-1)))) := by
  have hn5 : gn h 1 1 ≤ 500 := gn_hi hh rfl (by decide)
  refine Sp_of aiX8_end rfl rfl rfl ?_
  refine E_il rfl (show pm_get (lv_args 0 [.ref 0, .int x]) 1 = _ from rfl) ?_
  by_cases hb1 : x.toInt < 0
  · refine E_ifT rfl (decide_eq_true (Int32.lt_iff_toInt_lt.mpr hb1)) ?_
    refine E_c rfl ?_
    exact E_rti rfl (.inr ⟨fun q => by have q1 := q.1; have q2 := q.2; omega, rfl, rfl⟩)
  · refine E_ifF rfl (decide_eq_false (fun q => hb1 (Int32.lt_iff_toInt_lt.mp q))) ?_
    refine E_il rfl (show pm_get (lv_args 0 [.ref 0, .int x]) 1 = _ from rfl) ?_
    refine E_al rfl (show pm_get (lv_args 0 [.ref 0, .int x]) 0 = _ from rfl) ?_
    refine E_ogr rfl hh rfl (q := 1) rfl ?_
    refine E_ogf rfl hh rfl rfl (show gi h 1 1 = nJ ((gn h 1 1)) from (gi_gn hh rfl (by decide))) ?_
    by_cases hb2 : x.toInt ≤ (gn h 1 1 : Int)
    · refine E_icT rfl (decide_eq_true (Int32.le_iff_toInt_le.mpr (by rw [nJ_toInt (by first | decide | with_reducible assumption | omega)]; exact hb2))) ?_
      have hx0 : 0 ≤ x.toInt := by omega
      have hx1 : x.toInt ≤ (gn h 1 1 : Int) := hb2
      refine E_al rfl (show pm_get (lv_args 0 [.ref 0, .int x]) 0 = _ from rfl) ?_
      refine E_ogr rfl hh rfl (q := 1) rfl ?_
      refine E_il rfl (show pm_get (lv_args 0 [.ref 0, .int x]) 1 = _ from rfl) ?_
      refine E_opf rfl hh rfl rfl ?_
      have hh3 : HH (pt h 1 1 x) := HH_pt hh rfl (by show (0 : Int) ≤ _; exact hx0) (by show _ ≤ (500 : Int); omega)
      refine E_il rfl (show pm_get (lv_args 0 [.ref 0, .int x]) 1 = _ from rfl) ?_
      exact E_rti rfl (.inl ⟨⟨hx0, hx1⟩, rfl, rfl⟩)
    · refine E_icF rfl (decide_eq_false (fun q => hb2 (by have q9 := Int32.le_iff_toInt_le.mp q; rw [nJ_toInt (by first | decide | with_reducible assumption | omega)] at q9; exact q9))) ?_
      refine E_c rfl ?_
      exact E_rti rfl (.inr ⟨fun q => by have q1 := q.1; have q2 := q.2; omega, rfl, rfl⟩)
theorem sp_end9 {h : pm_H} {d : Nat} {x : Int32} (hh : HH h) : Sp (d + 2) 241 h [.ref 77, .int x] (fun h' r => ((0 ≤ x.toInt ∧ x.toInt ≤ ((gn h 77 6 : Nat) : Int)) ∧ h' = pt (pt h 77 0 (nJ 0)) 77 6 x ∧ r = some (.int x)) ∨ (¬ (0 ≤ x.toInt ∧ x.toInt ≤ ((gn h 77 6 : Nat) : Int)) ∧ h' = pt h 77 0 (nJ 0) ∧ r = some (.int (-1)))) := by
  have hn5 : gn h 77 6 ≤ 500 := gn_hi hh rfl (by decide)
  refine Sp_of aiX9_end rfl rfl rfl ?_
  refine E_al rfl (show pm_get (lv_args 0 [.ref 77, .int x]) 0 = _ from rfl) ?_
  refine E_ci 0 rfl ci0 ?_
  refine E_pf rfl hh rfl ?_
  have hh1 : HH (pt h 77 0 (nJ 0)) := HH_ptn hh rfl (by first | decide | with_reducible assumption | omega) (by first | decide | with_reducible assumption | omega) (by first | decide | with_reducible assumption | omega)
  refine E_il rfl (show pm_get (lv_args 0 [.ref 77, .int x]) 1 = _ from rfl) ?_
  refine E_i2l rfl ?_
  refine E_c rfl ?_
  refine E_al rfl (show pm_get (lv_args 0 [.ref 77, .int x]) 0 = _ from rfl) ?_
  refine E_gf rfl hh1 rfl (show gi (pt h 77 0 (nJ 0)) 77 6 = nJ ((gn h 77 6)) from (by rw [gi_ne (by first | exact gxx rfl | omega)]; exact gi_gn hh rfl (by decide))) ?_
  refine E_i2l rfl ?_
  refine E_call rfl (sp_in (a := x.toInt) (b := 0) (c := ((((gn h 77 6)) : Nat) : Int)) (i2l_toInt _) rfl (i2l_nJ (by first | decide | with_reducible assumption | omega))) (chkS rfl (by show 0 ≤ 8; decide)) (fun h2 r2 => ?_)
  rintro ⟨e2, f2⟩
  rw [e2, f2]
  show Ends _ _ (16, (lv_args 0 [.ref 77, .int x]), [.int (zb (0 ≤ x.toInt ∧ x.toInt ≤ ((((gn h 77 6)) : Nat) : Int)))], (pt h 77 0 (nJ 0)), 0, 0) _
  by_cases hb3 : 0 ≤ x.toInt ∧ x.toInt ≤ ((((gn h 77 6)) : Nat) : Int)
  · refine E_ifT rfl (by rw [zb_T hb3]; rfl) ?_
    refine E_al rfl (show pm_get (lv_args 0 [.ref 77, .int x]) 0 = _ from rfl) ?_
    refine E_il rfl (show pm_get (lv_args 0 [.ref 77, .int x]) 1 = _ from rfl) ?_
    refine E_pf rfl hh1 rfl ?_
    have hh4 : HH (pt (pt h 77 0 (nJ 0)) 77 6 x) := HH_pt hh1 rfl (by show (0 : Int) ≤ _; exact hb3.1) (by show _ ≤ (500 : Int); have := hb3.2; omega)
    refine E_il rfl (show pm_get (lv_args 0 [.ref 77, .int x]) 1 = _ from rfl) ?_
    exact E_rti rfl (.inl ⟨hb3, rfl, rfl⟩)
  · refine E_ifF rfl (by rw [zb_F hb3]; rfl) ?_
    refine E_c rfl ?_
    exact E_rti rfl (.inr ⟨hb3, rfl, rfl⟩)
end
section
/-! the relation of class and reference (written by gen_t27.py) -/
noncomputable def KP (h : pm_H) : Prop := ∀ j, j < 3 → gi h 52 j = gi h 88 j
noncomputable def REL (h : pm_H) : Prop := TP h ∧ KP h
noncomputable def IVR (h : pm_H) : Prop := IVh h ∧ REL h
noncomputable def kpB (M : List Rng) : Bool := M.all (fun r => !(Nat.beq r.1 52)) && M.all (fun r => !(Nat.beq r.1 88))
noncomputable def tpB (M : List Rng) : Bool := (!(rg_in M 1 1) && !(rg_in M 77 6)) && (M.all (fun r => !(Nat.beq r.1 2)) && M.all (fun r => !(Nat.beq r.1 82)))
noncomputable def relB (M : List Rng) : Bool := tpB M && kpB M
theorem KP_fr {M : List Rng} {h h' : pm_H} (hf : fr_g M h h') (hb : kpB M = true) (K : KP h) : KP h' := by
  unfold kpB at hb
  rw [Bool.and_eq_true] at hb
  intro j hj
  rw [fr_gi hf (rg_no hb.1 j), fr_gi hf (rg_no hb.2 j)]
  exact K j hj
theorem TP_frB {M : List Rng} {h h' : pm_H} (hf : fr_g M h h') (hb : tpB M = true) (T : TP h) : TP h' := by
  unfold tpB at hb
  rw [Bool.and_eq_true, Bool.and_eq_true, Bool.and_eq_true, Bool.not_eq_true', Bool.not_eq_true'] at hb
  exact TP_fr hf hb.1.1 hb.1.2 hb.2.1 hb.2.2 T
theorem REL_fr {M : List Rng} {h h' : pm_H} (hf : fr_g M h h') (hb : relB M = true) (R : REL h) : REL h' := by
  unfold relB at hb
  rw [Bool.and_eq_true] at hb
  exact ⟨TP_frB hf hb.1 R.1, KP_fr hf hb.2 R.2⟩
/-- feed: between the class's call and the reference's -/
noncomputable def half_feed (h : pm_H) (x a b c d e : Int32) : Prop := KP h ∧ ((gn h 77 6 + 20 ≤ 500 ∧ x = nJ (gn h 77 6 + 20) ∧ gn h 1 1 = gn h 77 6 + 20 ∧ (∀ j, j < gn h 77 6 → gi h 2 j = gi h 82 j) ∧ ∀ i, i < 20 → gi h 2 (gn h 77 6 + i) = b20 a b c d e i) ∨ (¬ gn h 77 6 + 20 ≤ 500 ∧ x = -1 ∧ TP h))
theorem c8_feed {h : pm_H} {a b c d e : Int32} (I : IVR h) : Sp 100 106 h [.ref 0, .int a, .int b, .int c, .int d, .int e] (fun h' r => IVh h' ∧ ∃ x : Int32, r = some (.int x) ∧ half_feed h' x a b c d e) := by
  refine Sp_le (by first | exact Nat.add_le_add_left (Nat.le_of_ble_eq_true rfl) _ | exact Nat.le_of_ble_eq_true rfl | omega) (Sp_mono ?_ (Sp_and (top_all (as := [.ref 0, .int a, .int b, .int c, .int d, .int e]) q1 (by decide +kernel) I.1 ⟨rfl, aI _, aI _, aI _, aI _, aI _, trivial⟩) (sp_feed8 (dd := 0) I.1.1)))
  rintro h' r ⟨⟨s1, s2, -⟩, s3⟩
  obtain ⟨T1, T2⟩ := I.2.1
  have e6 : gn h' 77 6 = gn h 77 6 := fr_gn s2 rfl
  have k1 : KP h' := KP_fr s2 rfl I.2.2
  rcases s3 with ⟨n1, e1, rfl⟩ | ⟨n1, e1, rfl⟩
  · obtain ⟨p1, p2, p3, p4, p5⟩ := rd20_ok (v1 := a) (v2 := b) (v3 := c) (v4 := d) (v5 := e) isT8 I.1.1 n1
    rw [← e1] at p2 p3 p4
    refine ⟨s1, _, rfl, k1, .inl ⟨by omega, by rw [e6, T1], by omega, fun j hj => ?_, fun i hi => ?_⟩⟩
    · rw [p3 j (by first | decide | with_reducible assumption | omega), fr_gi s2 (rg_no rfl j)]
      exact T2 j (by first | decide | with_reducible assumption | omega)
    · rw [e6, ← T1]
      exact p4 i hi
  · exact ⟨s1, _, rfl, k1, .inr ⟨by omega, rfl, by rw [e1]; exact I.2.1⟩⟩
theorem c9_feed {h : pm_H} {x a b c d e : Int32} (I : IVh h) (J : half_feed h x a b c d e) : Sp 100 247 h [.ref 77, .int a, .int b, .int c, .int d, .int e] (fun h' r => IVR h' ∧ r = some (.int x)) := by
  refine Sp_le (by first | exact Nat.add_le_add_left (Nat.le_of_ble_eq_true rfl) _ | exact Nat.le_of_ble_eq_true rfl | omega) (Sp_mono ?_ (Sp_and (top_all (as := [.ref 77, .int a, .int b, .int c, .int d, .int e]) q7 (by decide +kernel) I ⟨rfl, aI _, aI _, aI _, aI _, aI _, trivial⟩) (sp_feed9 (dd := 0) I.1)))
  rintro h' r ⟨⟨s1, s2, -⟩, s3⟩
  obtain ⟨k0, J⟩ := J
  have k1 : KP h' := KP_fr s2 rfl k0
  have e11 : gn h' 1 1 = gn h 1 1 := fr_gn s2 rfl
  rcases s3 with ⟨n1, e1, rfl⟩ | ⟨n1, e1, rfl⟩
  · rcases J with ⟨j1, rfl, j3, j4, j5⟩ | ⟨j1, -, -⟩
    · have hb : HH (pt h 77 0 (nJ 0)) := HH_ptn I.1 rfl (by first | decide | with_reducible assumption | omega) (by first | decide | with_reducible assumption | omega) (by first | decide | with_reducible assumption | omega)
      have eb : gn (pt h 77 0 (nJ 0)) 77 6 = gn h 77 6 := gn_ne (by first | exact gxx rfl | omega)
      obtain ⟨p1, p2, p3, p4, p5⟩ := rd20_ok (v1 := a) (v2 := b) (v3 := c) (v4 := d) (v5 := e) isT9 hb (by first | decide | with_reducible assumption | omega)
      rw [← e1] at p2 p3 p4
      refine ⟨⟨s1, ⟨by omega, fun j hj => ?_⟩, k1⟩, rfl⟩
      rw [e11] at hj
      rw [fr_gi s2 (rg_no rfl j)]
      by_cases hj2 : j < gn h 77 6
      · rw [j4 j hj2, p3 j (by first | decide | with_reducible assumption | omega)]
        exact (gi_ne (by first | exact gxx rfl | omega)).symm
      · have h5 := j5 (j - gn h 77 6) (by first | decide | with_reducible assumption | omega)
        have h4 := p4 (j - gn h 77 6) (by first | decide | with_reducible assumption | omega)
        rw [eb] at h4
        rw [show gn h 77 6 + (j - gn h 77 6) = j by omega] at h5 h4
        rw [h5, h4]
    · exact absurd n1 j1
  · rcases J with ⟨j1, -⟩ | ⟨j1, rfl, j3⟩
    · exact absurd j1 n1
    · exact ⟨⟨s1, TP_fr (M := [(77, 0, 0)]) (by rw [e1]; exact fr_ptr (l := 0) (u := 0) rfl (by first | decide | with_reducible assumption | omega) (by first | decide | with_reducible assumption | omega) (fr_rf _ _)) rfl rfl rfl rfl j3, k1⟩, rfl⟩
noncomputable def half_end (h : pm_H) (x v : Int32) : Prop := KP h ∧ (((0 ≤ v.toInt ∧ v.toInt ≤ ((gn h 77 6 : Nat) : Int)) ∧ x = v ∧ gn h 1 1 = v.toInt.toNat ∧ ∀ j, j < gn h 77 6 → gi h 2 j = gi h 82 j) ∨ (¬ (0 ≤ v.toInt ∧ v.toInt ≤ ((gn h 77 6 : Nat) : Int)) ∧ x = -1 ∧ TP h))
theorem c8_end {h : pm_H} {v : Int32} (I : IVR h) : Sp 100 101 h [.ref 0, .int v] (fun h' r => IVh h' ∧ ∃ x : Int32, r = some (.int x) ∧ half_end h' x v) := by
  refine Sp_le (by first | exact Nat.add_le_add_left (Nat.le_of_ble_eq_true rfl) _ | exact Nat.le_of_ble_eq_true rfl | omega) (Sp_mono ?_ (Sp_and (top_all (as := [.ref 0, .int v]) q8 (by decide +kernel) I.1 ⟨rfl, aI _, trivial⟩) (sp_end8 (d := 0) I.1.1)))
  rintro h' r ⟨⟨s1, s2, -⟩, s3⟩
  obtain ⟨T1, T2⟩ := I.2.1
  have e6 : gn h' 77 6 = gn h 77 6 := fr_gn s2 rfl
  have k1 : KP h' := KP_fr s2 rfl I.2.2
  have hn5 : gn h 1 1 ≤ 500 := gn_hi I.1.1 rfl (by decide)
  rcases s3 with ⟨n1, e1, rfl⟩ | ⟨n1, e1, rfl⟩
  · refine ⟨s1, _, rfl, k1, .inl ⟨⟨n1.1, by have := n1.2; omega⟩, rfl, ?_, fun j hj => ?_⟩⟩
    · unfold gn
      rw [e1, gi_pt I.1.1 (q := (0, 500)) rfl n1.1 (by have := n1.2; show _ ≤ (500 : Int); omega)]
    · rw [fr_gi s2 (rg_no rfl j), fr_gi s2 (rg_no rfl j)]
      exact T2 j (by first | decide | with_reducible assumption | omega)
  · refine ⟨s1, _, rfl, k1, .inr ⟨fun q => n1 ⟨q.1, by have := q.2; omega⟩, rfl, by rw [e1]; exact I.2.1⟩⟩
theorem c9_end {h : pm_H} {x v : Int32} (I : IVh h) (J : half_end h x v) : Sp 100 241 h [.ref 77, .int v] (fun h' r => IVR h' ∧ r = some (.int x)) := by
  refine Sp_le (by first | exact Nat.add_le_add_left (Nat.le_of_ble_eq_true rfl) _ | exact Nat.le_of_ble_eq_true rfl | omega) (Sp_mono ?_ (Sp_and (top_all (as := [.ref 77, .int v]) q10 (by decide +kernel) I ⟨rfl, aI _, trivial⟩) (sp_end9 (d := 0) I.1)))
  rintro h' r ⟨⟨s1, s2, -⟩, s3⟩
  obtain ⟨k0, J⟩ := J
  have k1 : KP h' := KP_fr s2 rfl k0
  have e11 : gn h' 1 1 = gn h 1 1 := fr_gn s2 rfl
  have hn5 : gn h 77 6 ≤ 500 := gn_hi I.1 rfl (by decide)
  rcases s3 with ⟨n1, e1, rfl⟩ | ⟨n1, e1, rfl⟩
  · rcases J with ⟨j1, rfl, j3, j4⟩ | ⟨j1, -, -⟩
    · have hb : HH (pt h 77 0 (nJ 0)) := HH_ptn I.1 rfl (by first | decide | with_reducible assumption | omega) (by first | decide | with_reducible assumption | omega) (by first | decide | with_reducible assumption | omega)
      have e2 : gn h' 77 6 = x.toInt.toNat := by
        unfold gn
        rw [e1, gi_pt hb (q := (0, 500)) rfl n1.1 (by have := n1.2; show _ ≤ (500 : Int); omega)]
      refine ⟨⟨s1, ⟨by omega, fun j hj => ?_⟩, k1⟩, rfl⟩
      rw [fr_gi s2 (rg_no rfl j), fr_gi s2 (rg_no rfl j)]
      exact j4 j (by have := n1.2; omega)
    · exact absurd n1 j1
  · rcases J with ⟨j1, -⟩ | ⟨j1, rfl, j3⟩
    · exact absurd j1 n1
    · exact ⟨⟨s1, TP_fr (M := [(77, 0, 0)]) (by rw [e1]; exact fr_ptr (l := 0) (u := 0) rfl (by first | decide | with_reducible assumption | omega) (by first | decide | with_reducible assumption | omega) (fr_rf _ _)) rfl rfl rfl rfl j3, k1⟩, rfl⟩
theorem sp_image8 {h : pm_H} {x : Int32} (I : IVh h) : Sp 20 121 h [.ref 0, .int x] (fun h' r => r = some (.int (imv x)) ∧ ∀ j, j < 3 → gi h' 52 j = if x = nJ j then 1 else gi h 52 j) := by
  refine Sp_of (d := 19) aiX8_image rfl rfl rfl ?_
  have L0 : pm_get (lv_args 0 [.ref 0, .int x]) 0 = some (.ref 0) := rfl
  have L1 : pm_get (lv_args 0 [.ref 0, .int x]) 1 = some (.int x) := rfl
  generalize lv_args 0 [.ref 0, .int x] = lv at L0 L1 ⊢
  refine E_il rfl L1 ?_
  by_cases hr : 0 ≤ x.toInt ∧ x.toInt ≤ 2
  · obtain ⟨k, hk, rfl⟩ := nJ_of2 (n := 2) hr.1 hr.2
    refine E_ifF rfl (decide_eq_false (nJ_lt0 (by first | decide | with_reducible assumption | omega))) ?_
    refine E_il rfl L1 ?_
    refine E_ci 3 rfl ci3 ?_
    refine E_icT rfl (decide_eq_true ((nJ_lt (by first | decide | with_reducible assumption | omega) (by first | decide | with_reducible assumption | omega)).mpr (by first | decide | with_reducible assumption | omega))) ?_
    match k, hk with
    | 0, _ =>
      refine E_al rfl L0 ?_
      refine E_ogr rfl I.1 rfl (q := 24) rfl ?_
      refine E_il rfl L1 ?_
      refine E_aal rfl I.1 rfl (q := 25) rfl (by decide) ?_
      refine E_al rfl L0 ?_
      refine E_ogr rfl I.1 rfl (q := 15) rfl ?_
      refine E_call rfl (Sp_le (by first | exact Nat.add_le_add_left (Nat.le_of_ble_eq_true rfl) _ | exact Nat.le_of_ble_eq_true rfl | omega) (Sp_sum (as := [.ref 25, .ref 15]) q904 I.1 ⟨rfl, rfl, trivial⟩ (fun _ hq => absurd hq List.not_mem_nil) (fun i hi => I.2.1 i (List.mem_of_elem_eq_true (List.all_eq_true.mp (show [41, 62].all (fun i => List.elem i CF) = true from rfl) i hi))))) (chkO (a := 25) I.1 rfl rfl rfl rfl (by show 0 ≤ 8; decide)) (fun h4 r4 => ?_)
      rintro ⟨hh4, fq4, C4, hC4, -, -, -, rv4⟩
      have e4 : r4 = none := by have e := List.mem_singleton.mp hC4; subst e; cases r4 with | none => rfl | some v => exact rv4.elim
      rw [e4]
      show Ends _ _ (25, lv, [], h4, 0, 0) _
      refine E_al rfl L0 ?_
      refine E_ogr rfl hh4 rfl (q := 52) rfl ?_
      refine E_il rfl L1 ?_
      refine E_ci 1 rfl ci1 ?_
      refine E_zasA rfl hh4 rfl (by decide) ?_
      refine E_ci 0 rfl ci0 ?_
      exact E_rti rfl ⟨by rw [imv_in hr]; rfl, kp_in hh4 rfl (by decide) (fun j => fr_gi fq4 (rg_no rfl j))⟩
    | 1, _ =>
      refine E_al rfl L0 ?_
      refine E_ogr rfl I.1 rfl (q := 24) rfl ?_
      refine E_il rfl L1 ?_
      refine E_aal rfl I.1 rfl (q := 34) rfl (by decide) ?_
      refine E_al rfl L0 ?_
      refine E_ogr rfl I.1 rfl (q := 15) rfl ?_
      refine E_call rfl (Sp_le (by first | exact Nat.add_le_add_left (Nat.le_of_ble_eq_true rfl) _ | exact Nat.le_of_ble_eq_true rfl | omega) (Sp_sum (as := [.ref 34, .ref 15]) q903 I.1 ⟨rfl, rfl, trivial⟩ (fun _ hq => absurd hq List.not_mem_nil) (fun i hi => I.2.1 i (List.mem_of_elem_eq_true (List.all_eq_true.mp (show [41, 83].all (fun i => List.elem i CF) = true from rfl) i hi))))) (chkO (a := 34) I.1 rfl rfl rfl rfl (by show 0 ≤ 8; decide)) (fun h4 r4 => ?_)
      rintro ⟨hh4, fq4, C4, hC4, -, -, -, rv4⟩
      have e4 : r4 = none := by have e := List.mem_singleton.mp hC4; subst e; cases r4 with | none => rfl | some v => exact rv4.elim
      rw [e4]
      show Ends _ _ (25, lv, [], h4, 0, 0) _
      refine E_al rfl L0 ?_
      refine E_ogr rfl hh4 rfl (q := 52) rfl ?_
      refine E_il rfl L1 ?_
      refine E_ci 1 rfl ci1 ?_
      refine E_zasA rfl hh4 rfl (by decide) ?_
      refine E_ci 0 rfl ci0 ?_
      exact E_rti rfl ⟨by rw [imv_in hr]; rfl, kp_in hh4 rfl (by decide) (fun j => fr_gi fq4 (rg_no rfl j))⟩
    | 2, _ =>
      refine E_al rfl L0 ?_
      refine E_ogr rfl I.1 rfl (q := 24) rfl ?_
      refine E_il rfl L1 ?_
      refine E_aal rfl I.1 rfl (q := 43) rfl (by decide) ?_
      refine E_al rfl L0 ?_
      refine E_ogr rfl I.1 rfl (q := 15) rfl ?_
      refine E_call rfl (Sp_le (by first | exact Nat.add_le_add_left (Nat.le_of_ble_eq_true rfl) _ | exact Nat.le_of_ble_eq_true rfl | omega) (Sp_sum (as := [.ref 43, .ref 15]) q902 I.1 ⟨rfl, rfl, trivial⟩ (fun _ hq => absurd hq List.not_mem_nil) (fun i hi => I.2.1 i (List.mem_of_elem_eq_true (List.all_eq_true.mp (show [41, 104].all (fun i => List.elem i CF) = true from rfl) i hi))))) (chkO (a := 43) I.1 rfl rfl rfl rfl (by show 0 ≤ 8; decide)) (fun h4 r4 => ?_)
      rintro ⟨hh4, fq4, C4, hC4, -, -, -, rv4⟩
      have e4 : r4 = none := by have e := List.mem_singleton.mp hC4; subst e; cases r4 with | none => rfl | some v => exact rv4.elim
      rw [e4]
      show Ends _ _ (25, lv, [], h4, 0, 0) _
      refine E_al rfl L0 ?_
      refine E_ogr rfl hh4 rfl (q := 52) rfl ?_
      refine E_il rfl L1 ?_
      refine E_ci 1 rfl ci1 ?_
      refine E_zasA rfl hh4 rfl (by decide) ?_
      refine E_ci 0 rfl ci0 ?_
      exact E_rti rfl ⟨by rw [imv_in hr]; rfl, kp_in hh4 rfl (by decide) (fun j => fr_gi fq4 (rg_no rfl j))⟩
  · have z0 : (0 : Int32).toInt = 0 := rfl
    by_cases h0 : x < 0
    · refine E_ifT rfl (decide_eq_true h0) ?_
      refine E_c rfl ?_
      exact E_rti rfl ⟨by rw [imv_no hr], kp_out hr (fun j => rfl)⟩
    · refine E_ifF rfl (decide_eq_false h0) ?_
      refine E_il rfl L1 ?_
      refine E_ci 3 rfl ci3 ?_
      refine E_icF rfl (decide_eq_false (fun q => hr ?_)) ?_
      · have q1 := Int32.lt_iff_toInt_lt.mp q
        rw [nJ_toInt (by first | decide | with_reducible assumption | omega)] at q1
        have q2 : ¬ x.toInt < (0 : Int32).toInt := fun z => h0 (Int32.lt_iff_toInt_lt.mpr z)
        omega
      · refine E_c rfl ?_
        exact E_rti rfl ⟨by rw [imv_no hr], kp_out hr (fun j => rfl)⟩
theorem sp_back8 {h : pm_H} {x : Int32} (I : IVh h) : Sp 20 82 h [.ref 0, .int x] (fun h' r => r = some (.int (bkv 52 h x))) := by
  refine Sp_of (d := 19) aiX8_back rfl rfl rfl ?_
  have L0 : pm_get (lv_args 0 [.ref 0, .int x]) 0 = some (.ref 0) := rfl
  have L1 : pm_get (lv_args 0 [.ref 0, .int x]) 1 = some (.int x) := rfl
  generalize lv_args 0 [.ref 0, .int x] = lv at L0 L1 ⊢
  refine E_il rfl L1 ?_
  by_cases hr : 0 ≤ x.toInt ∧ x.toInt ≤ 2
  · obtain ⟨k, hk, rfl⟩ := nJ_of2 (n := 2) hr.1 hr.2
    refine E_ifF rfl (decide_eq_false (nJ_lt0 (by first | decide | with_reducible assumption | omega))) ?_
    refine E_il rfl L1 ?_
    refine E_ci 3 rfl ci3 ?_
    refine E_icT rfl (decide_eq_true ((nJ_lt (by first | decide | with_reducible assumption | omega) (by first | decide | with_reducible assumption | omega)).mpr (by first | decide | with_reducible assumption | omega))) ?_
    refine E_al rfl L0 ?_
    refine E_ogr rfl I.1 rfl (q := 52) rfl ?_
    refine E_il rfl L1 ?_
    refine E_zalA rfl I.1 rfl (by first | decide | with_reducible assumption | omega) ?_
    by_cases hz : gi h 52 k = 0
    · refine E_ifF rfl (decide_eq_false (fun q => q hz)) ?_
      refine E_c rfl ?_
      exact E_rti rfl (by rw [bkv_6 hk hz])
    · refine E_ifT rfl (decide_eq_true hz) ?_
      have hb := bkv_0 hk hz
      match k, hk, hb with
      | 0, _, hb =>
        refine E_al rfl L0 ?_
        refine E_ogr rfl I.1 rfl (q := 15) rfl ?_
        refine E_al rfl L0 ?_
        refine E_ogr rfl I.1 rfl (q := 24) rfl ?_
        refine E_il rfl L1 ?_
        refine E_aal rfl I.1 rfl (q := 25) rfl (by decide) ?_
        refine E_call rfl (Sp_le (by first | exact Nat.add_le_add_left (Nat.le_of_ble_eq_true rfl) _ | exact Nat.le_of_ble_eq_true rfl | omega) (Sp_sum (as := [.ref 15, .ref 25]) q926 I.1 ⟨rfl, rfl, trivial⟩ (fun _ hq => absurd hq List.not_mem_nil) (fun i hi => I.2.1 i (List.mem_of_elem_eq_true (List.all_eq_true.mp (show [41, 62].all (fun i => List.elem i CF) = true from rfl) i hi))))) (chkO (a := 15) I.1 rfl rfl rfl rfl (by show 0 ≤ 8; decide)) (fun h4 r4 => ?_)
        rintro ⟨hh4, fq4, C4, hC4, -, -, -, rv4⟩
        have e4 : r4 = none := by have e := List.mem_singleton.mp hC4; subst e; cases r4 with | none => rfl | some v => exact rv4.elim
        rw [e4]
        show Ends _ _ (37, lv, [], h4, 0, 0) _
        refine E_ci 0 rfl ci0 ?_
        exact E_rti rfl (by rw [hb]; rfl)
      | 1, _, hb =>
        refine E_al rfl L0 ?_
        refine E_ogr rfl I.1 rfl (q := 15) rfl ?_
        refine E_al rfl L0 ?_
        refine E_ogr rfl I.1 rfl (q := 24) rfl ?_
        refine E_il rfl L1 ?_
        refine E_aal rfl I.1 rfl (q := 34) rfl (by decide) ?_
        refine E_call rfl (Sp_le (by first | exact Nat.add_le_add_left (Nat.le_of_ble_eq_true rfl) _ | exact Nat.le_of_ble_eq_true rfl | omega) (Sp_sum (as := [.ref 15, .ref 34]) q925 I.1 ⟨rfl, rfl, trivial⟩ (fun _ hq => absurd hq List.not_mem_nil) (fun i hi => I.2.1 i (List.mem_of_elem_eq_true (List.all_eq_true.mp (show [41, 83].all (fun i => List.elem i CF) = true from rfl) i hi))))) (chkO (a := 15) I.1 rfl rfl rfl rfl (by show 0 ≤ 8; decide)) (fun h4 r4 => ?_)
        rintro ⟨hh4, fq4, C4, hC4, -, -, -, rv4⟩
        have e4 : r4 = none := by have e := List.mem_singleton.mp hC4; subst e; cases r4 with | none => rfl | some v => exact rv4.elim
        rw [e4]
        show Ends _ _ (37, lv, [], h4, 0, 0) _
        refine E_ci 0 rfl ci0 ?_
        exact E_rti rfl (by rw [hb]; rfl)
      | 2, _, hb =>
        refine E_al rfl L0 ?_
        refine E_ogr rfl I.1 rfl (q := 15) rfl ?_
        refine E_al rfl L0 ?_
        refine E_ogr rfl I.1 rfl (q := 24) rfl ?_
        refine E_il rfl L1 ?_
        refine E_aal rfl I.1 rfl (q := 43) rfl (by decide) ?_
        refine E_call rfl (Sp_le (by first | exact Nat.add_le_add_left (Nat.le_of_ble_eq_true rfl) _ | exact Nat.le_of_ble_eq_true rfl | omega) (Sp_sum (as := [.ref 15, .ref 43]) q924 I.1 ⟨rfl, rfl, trivial⟩ (fun _ hq => absurd hq List.not_mem_nil) (fun i hi => I.2.1 i (List.mem_of_elem_eq_true (List.all_eq_true.mp (show [41, 104].all (fun i => List.elem i CF) = true from rfl) i hi))))) (chkO (a := 15) I.1 rfl rfl rfl rfl (by show 0 ≤ 8; decide)) (fun h4 r4 => ?_)
        rintro ⟨hh4, fq4, C4, hC4, -, -, -, rv4⟩
        have e4 : r4 = none := by have e := List.mem_singleton.mp hC4; subst e; cases r4 with | none => rfl | some v => exact rv4.elim
        rw [e4]
        show Ends _ _ (37, lv, [], h4, 0, 0) _
        refine E_ci 0 rfl ci0 ?_
        exact E_rti rfl (by rw [hb]; rfl)
  · have z0 : (0 : Int32).toInt = 0 := rfl
    by_cases h0 : x < 0
    · refine E_ifT rfl (decide_eq_true h0) ?_
      refine E_c rfl ?_
      exact E_rti rfl (by rw [bkv_no hr])
    · refine E_ifF rfl (decide_eq_false h0) ?_
      refine E_il rfl L1 ?_
      refine E_ci 3 rfl ci3 ?_
      refine E_icF rfl (decide_eq_false (fun q => hr ?_)) ?_
      · have q1 := Int32.lt_iff_toInt_lt.mp q
        rw [nJ_toInt (by first | decide | with_reducible assumption | omega)] at q1
        have q2 : ¬ x.toInt < (0 : Int32).toInt := fun z => h0 (Int32.lt_iff_toInt_lt.mpr z)
        omega
      · refine E_c rfl ?_
        exact E_rti rfl (by rw [bkv_no hr])
noncomputable def half_image (h : pm_H) (x v : Int32) : Prop := TP h ∧ x = imv v ∧ ∀ j, j < 3 → gi h 52 j = if v = nJ j then 1 else gi h 88 j
theorem c8_image {h : pm_H} {v : Int32} (I : IVR h) : Sp 100 121 h [.ref 0, .int v] (fun h' r => IVh h' ∧ ∃ x : Int32, r = some (.int x) ∧ half_image h' x v) := by
  refine Sp_le (by first | exact Nat.add_le_add_left (Nat.le_of_ble_eq_true rfl) _ | exact Nat.le_of_ble_eq_true rfl | omega) (Sp_mono ?_ (Sp_and (top_all (as := [.ref 0, .int v]) q905 (by decide +kernel) I.1 ⟨rfl, aI _, trivial⟩) (sp_image8 I.1)))
  rintro h' r ⟨⟨s1, s2, -⟩, rfl, s3⟩
  refine ⟨s1, _, rfl, TP_frB s2 rfl I.2.1, rfl, fun j hj => ?_⟩
  rw [s3 j hj, I.2.2 j hj, fr_gi s2 (rg_no rfl j)]
theorem c9_image {h : pm_H} {x v : Int32} (I : IVh h) (J : half_image h x v) : Sp 100 260 h [.ref 77, .int v] (fun h' r => IVR h' ∧ r = some (.int x)) := by
  refine Sp_le (by first | exact Nat.add_le_add_left (Nat.le_of_ble_eq_true rfl) _ | exact Nat.le_of_ble_eq_true rfl | omega) (Sp_mono ?_ (tv_image (d := 0) I.1 I.2.2))
  rintro h' r ⟨a1, a2, a3, rfl, a5⟩
  obtain ⟨j1, rfl, j3⟩ := J
  refine ⟨⟨IVh_fr (M := VMI) (by decide +kernel) a2 a1 I a3, TP_frB a2 rfl j1, fun j hj => ?_⟩, rfl⟩
  rw [a5 j hj, fr_gi a2 (rg_no rfl j)]
  exact j3 j hj
theorem bkv_eq {A B : Nat} {h g : pm_H} {v : Int32} (e : ∀ j, j < 3 → gi h A j = gi g B j) : bkv A h v = bkv B g v := by
  unfold bkv
  by_cases q : 0 ≤ v.toInt ∧ v.toInt ≤ 2
  · rw [if_pos q, if_pos q, e _ (by first | decide | with_reducible assumption | omega)]
  · rw [if_neg q, if_neg q]
noncomputable def half_back (h : pm_H) (x v : Int32) : Prop := REL h ∧ x = bkv 88 h v
theorem c8_back {h : pm_H} {v : Int32} (I : IVR h) : Sp 100 82 h [.ref 0, .int v] (fun h' r => IVh h' ∧ ∃ x : Int32, r = some (.int x) ∧ half_back h' x v) := by
  refine Sp_le (by first | exact Nat.add_le_add_left (Nat.le_of_ble_eq_true rfl) _ | exact Nat.le_of_ble_eq_true rfl | omega) (Sp_mono ?_ (Sp_and (top_all (as := [.ref 0, .int v]) q927 (by decide +kernel) I.1 ⟨rfl, aI _, trivial⟩) (sp_back8 I.1)))
  rintro h' r ⟨⟨s1, s2, -⟩, rfl⟩
  refine ⟨s1, _, rfl, REL_fr s2 rfl I.2, bkv_eq (fun j hj => ?_)⟩
  rw [fr_gi s2 (rg_no rfl j)]
  exact I.2.2 j hj
theorem c9_back {h : pm_H} {x v : Int32} (I : IVh h) (J : half_back h x v) : Sp 100 212 h [.ref 77, .int v] (fun h' r => IVR h' ∧ r = some (.int x)) := by
  refine Sp_le (by first | exact Nat.add_le_add_left (Nat.le_of_ble_eq_true rfl) _ | exact Nat.le_of_ble_eq_true rfl | omega) (Sp_mono ?_ (tv_back (d := 0) I.1 I.2.2))
  rintro h' r ⟨a1, a2, a3, rfl⟩
  obtain ⟨j1, rfl⟩ := J
  exact ⟨⟨IVh_fr (M := VM) (by decide +kernel) a2 a1 I a3, REL_fr a2 rfl j1⟩, rfl⟩
theorem IVR_hp0 : IVR hp0 := ⟨IVh_hp0, ⟨rfl, fun j hj => absurd hj (Nat.not_lt_zero j)⟩, fun _ _ => rfl⟩
end
section
/-! by hand: the class's paste -/
theorem E_cpy {look : Nat → Option pm_I} {call : pm_Call} {Q : pm_H → Option Value → Prop} {pc n : Nat} {lv : List (Nat × Value)} {st : List Value} {h : pm_H} {z : Nat × Nat} {a0 a1 : Nat} {sp dp m : Int32} (h1 : look pc = some (.inl (s_copy n))) (hh : HH h) (c0 : hsF a0 = some (.inr (.inl 60))) (c1 : hsF a1 = some (.inr (.inl 60))) (k1 : 0 ≤ sp.toInt) (k2 : 0 ≤ dp.toInt) (k3 : 0 ≤ m.toInt) (k4 : sp.toInt + m.toInt ≤ 60) (k5 : dp.toInt + m.toInt ≤ 60) (hs : Nat.ble (pm_sz st) 8 = true) (kk : ∀ h', HH h' → fr_g [(a1, 0, 59)] h h' → Ends look call (n, lv, st, h', z) Q) : Ends look call (pc, lv, .int m :: .int dp :: .ref a1 :: .int sp :: .ref a0 :: st, h, z) Q := by
  obtain ⟨x, hx, hg⟩ := hf_at hh c0
  obtain ⟨y, hy, hk⟩ := hf_at hh c1
  match x, hx, hg, y, hy, hk with
  | .inl (t2, len2, .inr (.inl f)), hx, hg, .inl (t3, len3, .inr (.inl g)), hy, hk =>
    obtain ⟨rfl, rfl⟩ := hg
    obtain ⟨rfl, rfl⟩ := hk
    have z0 : (0 : Int32).toInt = 0 := rfl
    have n1 : ∀ w : Int32, 0 ≤ w.toInt → (!(decide (w < 0))) = true := fun w hw => by
      rw [decide_eq_false (fun q => by have := Int32.lt_iff_toInt_lt.mp q; omega)]; rfl
    have e1 : sp.toNatClampNeg = sp.toInt.toNat := rfl
    have e2 : dp.toNatClampNeg = dp.toInt.toNat := rfl
    have e3 : m.toNatClampNeg = m.toInt.toNat := rfl
    have b1 : Nat.ble (sp.toNatClampNeg + m.toNatClampNeg) 60 = true := Nat.ble_eq_true_of_le (by rw [e1, e3]; omega)
    have b2 : Nat.ble (dp.toNatClampNeg + m.toNatClampNeg) 60 = true := Nat.ble_eq_true_of_le (by rw [e2, e3]; omega)
    refine E_st h1 (σ' := (n, lv, st, h.set a1 (.inl (3, 60, .inr (.inl (va_cpy f g sp.toNatClampNeg dp.toNatClampNeg m.toNatClampNeg)))), z)) ?_ (kk _ (hf_set hh c1 ⟨rfl, rfl⟩) ?_)
    · simp only [s_copy, hx, hy, n1 sp k1, n1 dp k2, n1 m k3, b1, b2, hs, Bool.and_self, cond_true]
    · intro b j hbj
      by_cases e : b = a1
      · subst e
        have hj : ¬ j ≤ 59 := fun hj => by
          rw [rg_in_one (Nat.zero_le _) hj (List.mem_singleton_self _)] at hbj
          cases hbj
        have e9 : va_cpy f g sp.toNatClampNeg dp.toNatClampNeg m.toNatClampNeg j = g j := by
          unfold va_cpy
          rw [if_neg (by rw [e2, e3]; omega)]
        unfold ld
        rw [List.getElem?_set_self (List.getElem?_eq_some_iff.mp hy).1, hy]
        dsimp only
        rw [e9]
      · unfold ld
        rw [List.getElem?_set_ne (Ne.symm e)]
/-- so many numbers from there on lie in the slot -/
noncomputable def hol (h : pm_H) (a : Nat) (f n : Int32) : Prop := 0 ≤ f.toInt ∧ 0 ≤ n.toInt ∧ f.toInt + n.toInt ≤ (gi h a 3).toInt
section PS
variable {h : pm_H} {d a c k : Nat} {x : Int32}
theorem sp_holds {f n : Int32} (hh : HH h) (S : isS a c) : Sp (d + 1) 45 h [.ref a, .int f, .int n] (fun h' r => h' = h ∧ ((hol h a f n ∧ r = some (.int 1)) ∨ (¬ hol h a f n ∧ r = some (.int 0)))) := by
  obtain ⟨S1, S2, S3, S4, S5, S6⟩ := S
  refine Sp_of aiX4_holds rfl rfl rfl ?_
  have L0 : pm_get (lv_args 0 [.ref a, .int f, .int n]) 0 = some (.ref a) := rfl
  have L1 : pm_get (lv_args 0 [.ref a, .int f, .int n]) 1 = some (.int f) := rfl
  have L2 : pm_get (lv_args 0 [.ref a, .int f, .int n]) 2 = some (.int n) := rfl
  generalize lv_args 0 [.ref a, .int f, .int n] = lv at L0 L1 L2 ⊢
  have z0 : (0 : Int32).toInt = 0 := rfl
  have no : ∀ {lv : List (Nat × Value)}, ¬ hol h a f n → Ends (pm_at tX4_holds) (pm_Rt pm_P d) (22, lv, [], h, 0, 0) (fun h' r => h' = h ∧ ((hol h a f n ∧ r = some (.int 1)) ∨ (¬ hol h a f n ∧ r = some (.int 0)))) := by
    intro lv hn
    refine E_ci 0 rfl ci0 ?_
    exact E_rtz rfl (.inl rfl) ⟨rfl, .inr ⟨hn, rfl⟩⟩
  refine E_il rfl L1 ?_
  by_cases b1 : f < 0
  · have q := Int32.lt_iff_toInt_lt.mp b1
    refine E_ifT rfl (decide_eq_true b1) ?_
    exact no (fun z => by have := z.1; omega)
  · have q1 : ¬ f.toInt < (0 : Int32).toInt := fun z => b1 (Int32.lt_iff_toInt_lt.mpr z)
    refine E_ifF rfl (decide_eq_false b1) ?_
    refine E_il rfl L2 ?_
    by_cases b2 : n < 0
    · have q := Int32.lt_iff_toInt_lt.mp b2
      refine E_ifT rfl (decide_eq_true b2) ?_
      exact no (fun z => by have := z.2.1; omega)
    · have q2 : ¬ n.toInt < (0 : Int32).toInt := fun z => b2 (Int32.lt_iff_toInt_lt.mpr z)
      refine E_ifF rfl (decide_eq_false b2) ?_
      refine E_il rfl L1 ?_
      refine E_al rfl L0 ?_
      refine E_ogf rfl hh S1 S6 rfl ?_
      refine E_il rfl L2 ?_
      refine E_bin rfl rfl ?_
      have g := (ld_gi hh S6).2
      dsimp only at g
      have hn := ai_hi n
      have es : (gi h a 3 - n).toInt = (gi h a 3).toInt - n.toInt := by
        rw [Int32.toInt_sub]
        exact Int.bmod_eq_of_le (by first | decide | with_reducible assumption | omega) (by first | decide | with_reducible assumption | omega)
      by_cases b3 : gi h a 3 - n < f
      · have q := Int32.lt_iff_toInt_lt.mp b3
        refine E_icT rfl (decide_eq_true b3) ?_
        exact no (fun z => by have := z.2.2; omega)
      · have q3 : ¬ (gi h a 3 - n).toInt < f.toInt := fun z => b3 (Int32.lt_iff_toInt_lt.mpr z)
        refine E_icF rfl (decide_eq_false b3) ?_
        refine E_ci 1 rfl ci1 ?_
        refine E_goto rfl ?_
        exact E_rtz rfl (.inr rfl) ⟨rfl, .inl ⟨⟨by omega, by omega, by omega⟩, rfl⟩⟩
/-- what paste answers -/
noncomputable def psv (h : pm_H) (a i b k n : Int32) (r : Int32) : Prop :=
  (¬ ((0 ≤ a.toInt ∧ a.toInt ≤ 3) ∧ 0 ≤ b.toInt ∧ b.toInt ≤ 3) ∧ r = -2) ∨ ∃ s t, s < 4 ∧ t < 4 ∧ a = nJ s ∧ b = nJ t ∧
    (((gi h (54 + 2 * s) 1 = 0 ∨ gi h (54 + 2 * t) 1 = 0) ∧ r = -6) ∨ (¬ (gi h (54 + 2 * s) 1 = 0 ∨ gi h (54 + 2 * t) 1 = 0) ∧
      ((¬ gi h (54 + 2 * s) 2 = gi h (54 + 2 * t) 2 ∧ r = -8) ∨ (gi h (54 + 2 * s) 2 = gi h (54 + 2 * t) 2 ∧
        ((¬ (hol h (54 + 2 * s) i n ∧ hol h (54 + 2 * t) k n) ∧ r = -7) ∨ ((hol h (54 + 2 * s) i n ∧ hol h (54 + 2 * t) k n) ∧ r = 0))))))
noncomputable def PM : List Rng := [(55, 0, 59), (57, 0, 59), (59, 0, 59), (61, 0, 59)]
theorem PM_at {h h' : pm_H} : ∀ t, t < 4 → fr_g [(55 + 2 * t, 0, 59)] h h' → fr_g PM h h'
  | 0, _, hf => fr_wk rfl hf
  | 1, _, hf => fr_wk rfl hf
  | 2, _, hf => fr_wk rfl hf
  | 3, _, hf => fr_wk rfl hf
  | s + 4, hs, _ => absurd hs (by first | decide | with_reducible assumption | omega)
noncomputable def PQ (h : pm_H) (a i b k n : Int32) (h' : pm_H) (r : Option Value) : Prop := HH h' ∧ fr_g PM h h' ∧ ∃ x : Int32, r = some (.int x) ∧ psv h a i b k n x
theorem sp_paste8 {x i y j n : Int32} (hh : HH h) : Sp (d + 2) 158 h [.ref 0, .int x, .int i, .int y, .int j, .int n] (PQ h x i y j n) := by
  refine Sp_of aiX8_paste rfl rfl rfl ?_
  have L0 : pm_get (lv_args 0 [.ref 0, .int x, .int i, .int y, .int j, .int n]) 0 = some (.ref 0) := rfl
  have L1 : pm_get (lv_args 0 [.ref 0, .int x, .int i, .int y, .int j, .int n]) 1 = some (.int x) := rfl
  have L2 : pm_get (lv_args 0 [.ref 0, .int x, .int i, .int y, .int j, .int n]) 2 = some (.int i) := rfl
  have L3 : pm_get (lv_args 0 [.ref 0, .int x, .int i, .int y, .int j, .int n]) 3 = some (.int y) := rfl
  have L4 : pm_get (lv_args 0 [.ref 0, .int x, .int i, .int y, .int j, .int n]) 4 = some (.int j) := rfl
  have L5 : pm_get (lv_args 0 [.ref 0, .int x, .int i, .int y, .int j, .int n]) 5 = some (.int n) := rfl
  generalize lv_args 0 [.ref 0, .int x, .int i, .int y, .int j, .int n] = lv at L0 L1 L2 L3 L4 L5 ⊢
  have no : ∀ {lv : List (Nat × Value)}, ¬ ((0 ≤ x.toInt ∧ x.toInt ≤ 3) ∧ 0 ≤ y.toInt ∧ y.toInt ≤ 3) → Ends (pm_at tX8_paste) (pm_Rt pm_P (d + 1)) (14, lv, [], h, 0, 0) (PQ h x i y j n) := by
    intro lv hn
    refine E_c rfl ?_
    exact E_rti rfl ⟨hh, fr_rf _ _, _, rfl, .inl ⟨hn, rfl⟩⟩
  refine E_il rfl L1 ?_
  refine E_call rfl (sp_isSlot8 (d := d)) (chkS rfl (by show 0 ≤ 8; decide)) (fun h1 r1 => ?_)
  rintro ⟨e1, rv⟩
  rw [e1]
  rcases rv with ⟨a0, a3, hr⟩ | ⟨an, hr⟩
  · rw [hr]
    refine E_ifF rfl (by decide) ?_
    refine E_il rfl L3 ?_
    refine E_call rfl (sp_isSlot8 (d := d)) (chkS rfl (by show 0 ≤ 8; decide)) (fun h2 r2 => ?_)
    rintro ⟨e2, rw2⟩
    rw [e2]
    rcases rw2 with ⟨c0, c3, hr2⟩ | ⟨cn, hr2⟩
    · rw [hr2]
      refine E_ifT rfl (by decide) ?_
      obtain ⟨s, hs, rfl⟩ : ∃ s, s < 4 ∧ x = nJ s := ⟨x.toInt.toNat, by omega, nJ_of a0⟩
      obtain ⟨t, ht, rfl⟩ : ∃ s, s < 4 ∧ y = nJ s := ⟨y.toInt.toNat, by omega, nJ_of c0⟩
      obtain ⟨S1, S2, S3, S4, S5, S6⟩ := isS_at s hs
      obtain ⟨T1, T2, T3, T4, T5, T6⟩ := isS_at t ht
      have fin : ∀ {r : Int32}, (((gi h (54 + 2 * s) 1 = 0 ∨ gi h (54 + 2 * t) 1 = 0) ∧ r = -6) ∨ (¬ (gi h (54 + 2 * s) 1 = 0 ∨ gi h (54 + 2 * t) 1 = 0) ∧
      ((¬ gi h (54 + 2 * s) 2 = gi h (54 + 2 * t) 2 ∧ r = -8) ∨ (gi h (54 + 2 * s) 2 = gi h (54 + 2 * t) 2 ∧
        ((¬ (hol h (54 + 2 * s) i n ∧ hol h (54 + 2 * t) j n) ∧ r = -7) ∨ ((hol h (54 + 2 * s) i n ∧ hol h (54 + 2 * t) j n) ∧ r = 0)))))) → psv h (nJ s) i (nJ t) j n r := fun q => .inr ⟨s, t, hs, ht, rfl, rfl, q⟩
      refine E_al rfl L0 ?_
      refine E_ogr rfl hh rfl (q := 53) rfl ?_
      refine E_il rfl L1 ?_
      refine E_aal rfl hh rfl (slot_at s hs) (by decide) ?_
      refine E_asr rfl (fun lv1 M6 kp => ?_)
      have M0 := kp 0 _ (nbz rfl) rfl L0
      have M2 := kp 2 _ (nbz rfl) rfl L2
      have M3 := kp 3 _ (nbz rfl) rfl L3
      have M4 := kp 4 _ (nbz rfl) rfl L4
      have M5 := kp 5 _ (nbz rfl) rfl L5
      refine E_al rfl M0 ?_
      refine E_ogr rfl hh rfl (q := 53) rfl ?_
      refine E_il rfl M3 ?_
      refine E_aal rfl hh rfl (slot_at t ht) (by decide) ?_
      refine E_asr rfl (fun lv2 N7 kp2 => ?_)
      have N2 := kp2 2 _ (nbz rfl) rfl M2
      have N4 := kp2 4 _ (nbz rfl) rfl M4
      have N5 := kp2 5 _ (nbz rfl) rfl M5
      have N6 := kp2 6 _ (nbz rfl) rfl M6
      refine E_al rfl N6 ?_
      refine E_ogf rfl hh S1 S4 rfl ?_
      by_cases b1 : gi h (54 + 2 * s) 1 = 0
      · refine E_ifT rfl (decide_eq_true b1) ?_
        refine E_c rfl ?_
        exact E_rti rfl ⟨hh, fr_rf _ _, _, rfl, fin (.inl ⟨.inl b1, rfl⟩)⟩
      refine E_ifF rfl (decide_eq_false b1) ?_
      refine E_al rfl N7 ?_
      refine E_ogf rfl hh T1 T4 rfl ?_
      by_cases b2 : gi h (54 + 2 * t) 1 = 0
      · refine E_ifF rfl (decide_eq_false (fun q => q b2)) ?_
        refine E_c rfl ?_
        exact E_rti rfl ⟨hh, fr_rf _ _, _, rfl, fin (.inl ⟨.inr b2, rfl⟩)⟩
      refine E_ifT rfl (decide_eq_true b2) ?_
      have b12 : ¬ (gi h (54 + 2 * s) 1 = 0 ∨ gi h (54 + 2 * t) 1 = 0) := fun q => q.elim b1 b2
      refine E_al rfl N6 ?_
      refine E_ogf rfl hh S1 S5 rfl ?_
      refine E_al rfl N7 ?_
      refine E_ogf rfl hh T1 T5 rfl ?_
      by_cases b3 : gi h (54 + 2 * s) 2 = gi h (54 + 2 * t) 2
      · refine E_icT rfl (decide_eq_true b3) ?_
        have fin7 : ∀ {lv : List (Nat × Value)}, ¬ (hol h (54 + 2 * s) i n ∧ hol h (54 + 2 * t) j n) → Ends (pm_at tX8_paste) (pm_Rt pm_P (d + 1)) (91, lv, [], h, 0, 0) (PQ h (nJ s) i (nJ t) j n) := by
          intro lv hn
          refine E_c rfl ?_
          exact E_rti rfl ⟨hh, fr_rf _ _, _, rfl, fin (.inr ⟨b12, .inr ⟨b3, .inl ⟨hn, rfl⟩⟩⟩)⟩
        refine E_al rfl N6 ?_
        refine E_il rfl N2 ?_
        refine E_il rfl N5 ?_
        refine E_call rfl (sp_holds (d := d) hh (isS_at s hs)) (chkO (a := 54 + 2 * s) hh S1 rfl rfl rfl (by show 0 ≤ 8; decide)) (fun h3 r3 => ?_)
        rintro ⟨e3, rw3⟩
        rw [e3]
        rcases rw3 with ⟨o3, hr3⟩ | ⟨o3, hr3⟩
        · rw [hr3]
          refine E_ifF rfl (by decide) ?_
          refine E_al rfl N7 ?_
          refine E_il rfl N4 ?_
          refine E_il rfl N5 ?_
          refine E_call rfl (sp_holds (d := d) hh (isS_at t ht)) (chkO (a := 54 + 2 * t) hh T1 rfl rfl rfl (by show 0 ≤ 8; decide)) (fun h4 r4 => ?_)
          rintro ⟨e4, rw4⟩
          rw [e4]
          rcases rw4 with ⟨o4, hr4⟩ | ⟨o4, hr4⟩
          · rw [hr4]
            refine E_ifT rfl (by decide) ?_
            have g6 := (ld_gi hh S6).2
            have t6 := (ld_gi hh T6).2
            dsimp only at g6 t6
            have u1 := o3.2.2
            have u2 := o4.2.2
            refine E_al rfl N6 ?_
            refine E_ogr rfl hh S1 S2 ?_
            refine E_il rfl N2 ?_
            refine E_al rfl N7 ?_
            refine E_ogr rfl hh T1 T2 ?_
            refine E_il rfl N4 ?_
            refine E_il rfl N5 ?_
            refine E_cpy rfl hh S3 T3 o3.1 o4.1 o3.2.1 (by first | decide | with_reducible assumption | omega) (by first | decide | with_reducible assumption | omega) rfl (fun h5 hh5 fr5 => ?_)
            refine E_ci 0 rfl ci0 ?_
            exact E_rti rfl ⟨hh5, PM_at t ht fr5, _, rfl, fin (.inr ⟨b12, .inr ⟨b3, .inr ⟨⟨o3, o4⟩, rfl⟩⟩⟩)⟩
          · rw [hr4]
            refine E_ifF rfl (by decide) ?_
            exact fin7 (fun q => o4 q.2)
        · rw [hr3]
          refine E_ifT rfl (by decide) ?_
          exact fin7 (fun q => o3 q.1)
      · refine E_icF rfl (decide_eq_false b3) ?_
        refine E_c rfl ?_
        exact E_rti rfl ⟨hh, fr_rf _ _, _, rfl, fin (.inr ⟨b12, .inl ⟨b3, rfl⟩⟩)⟩
    · rw [hr2]
      refine E_ifF rfl (by decide) ?_
      exact no (fun q => cn q.2)
  · rw [hr]
    refine E_ifT rfl (by decide) ?_
    exact no (fun q => an q.1)
end PS
end
section
/-! row of class and reference by hand; the relation of the slots (wants t25, E_aal, t29, sp_isSlot) -/
/-- a slot begun anew -/
noncomputable def BQ (a c w n : Nat) (h h' : pm_H) (r : Option Value) : Prop := r = none ∧ HH h' ∧ fr_g [(a, 1, 3), (c, 0, 59)] h h' ∧ gi h' a 1 = 1 ∧ gi h' a 2 = nJ w ∧ gi h' a 3 = nJ n
theorem bg_loop {a c w n d : Nat} {h0 : pm_H} (hac : a ≠ c) (S : isS a c) (hn : n ≤ 60) (j : Nat) : ∀ {h : pm_H} {i : Nat} (lv : List (Nat × Value)), i + j = n → HH h → fr_g [(a, 1, 3), (c, 0, 59)] h0 h → gi h a 1 = 1 → gi h a 2 = nJ w → gi h a 3 = nJ n → pm_get lv 0 = some (.ref a) → pm_get lv 2 = some (.int (nJ n)) → pm_get lv 3 = some (.int (nJ i)) → Ends (pm_at tX4_begin) (pm_Rt pm_P d) (17, lv, [], h, 0, 0) (BQ a c w n h0) := by
  obtain ⟨S1, S2, S3, S4, S5, S6⟩ := S
  induction j with
  | zero =>
    intro h i lv hj hh hf g1 g2 g3 L0 L2 L3
    refine E_il rfl L3 ?_
    refine E_il rfl L2 ?_
    refine E_icT rfl (decide_eq_true ((nJ_le (by first | decide | with_reducible assumption | omega) (by first | decide | with_reducible assumption | omega)).mpr (by first | decide | with_reducible assumption | omega))) ?_
    exact E_ret rfl ⟨rfl, hh, hf, g1, g2, g3⟩
  | succ j ih =>
    intro h i lv hj hh hf g1 g2 g3 L0 L2 L3
    refine E_il rfl L3 ?_
    refine E_il rfl L2 ?_
    refine E_icF rfl (decide_eq_false (fun q => absurd ((nJ_le (by first | decide | with_reducible assumption | omega) (by first | decide | with_reducible assumption | omega)).mp q) (by first | decide | with_reducible assumption | omega))) ?_
    refine E_al rfl L0 ?_
    refine E_ogr rfl hh S1 S2 ?_
    refine E_il rfl L3 ?_
    refine E_c rfl ?_
    refine E_las rfl hh S3 (by first | decide | with_reducible assumption | omega) (by decide) (fun h1 hh1 f1 _ => ?_)
    have no : ∀ k, rg_in [(c, i, i)] a k = false := fun k => rg_no (by have e : Nat.beq c a = false := (by cases hq : Nat.beq c a with | false => rfl | true => exact absurd (Nat.eq_of_beq_eq_true hq).symm hac); simp [e]) k
    refine E_inc rfl L3 (nJ_inc _) (fun lv1 K3 kp => ?_)
    refine E_goto rfl ?_
    exact ih lv1 (by first | decide | with_reducible assumption | omega) hh1 (fr_trans hf (fr_one (l := 0) (u := 59) (by unfold rg_sub; simp) (Nat.zero_le _) (by first | decide | with_reducible assumption | omega) f1)) (by rw [fr_gi f1 (no 1)]; exact g1) (by rw [fr_gi f1 (no 2)]; exact g2) (by rw [fr_gi f1 (no 3)]; exact g3) (kp 0 _ (nbz rfl) rfl L0) (kp 2 _ (nbz rfl) rfl L2) K3
theorem sp_begin {h : pm_H} {a c w n d : Nat} (hac : a ≠ c) (S : isS a c) (hh : HH h) (hw : w ≤ 3) (hn : n ≤ 60) : Sp (d + 1) 44 h [.ref a, .int (nJ w), .int (nJ n)] (BQ a c w n h) := by
  have S0 := S
  obtain ⟨S1, S2, S3, S4, S5, S6⟩ := S
  refine Sp_of aiX4_begin rfl rfl rfl ?_
  have L0 : pm_get (lv_args 0 [.ref a, .int (nJ w), .int (nJ n)]) 0 = some (.ref a) := rfl
  have L1 : pm_get (lv_args 0 [.ref a, .int (nJ w), .int (nJ n)]) 1 = some (.int (nJ w)) := rfl
  have L2 : pm_get (lv_args 0 [.ref a, .int (nJ w), .int (nJ n)]) 2 = some (.int (nJ n)) := rfl
  generalize lv_args 0 [.ref a, .int (nJ w), .int (nJ n)] = lv at L0 L1 L2 ⊢
  refine E_al rfl L0 ?_
  refine E_c rfl ?_
  refine E_opT rfl rfl hh S1 S4 ?_
  have h1 : HH (pt h a 1 1) := HH_pt hh S4 (by decide) (by decide)
  refine E_al rfl L0 ?_
  refine E_il rfl L1 ?_
  refine E_opf rfl h1 S1 S5 ?_
  have h2 : HH (pt (pt h a 1 1) a 2 (nJ w)) := HH_ptn h1 S5 (by first | decide | with_reducible assumption | omega) (by first | decide | with_reducible assumption | omega) (by first | decide | with_reducible assumption | omega)
  refine E_al rfl L0 ?_
  refine E_il rfl L2 ?_
  refine E_opf rfl h2 S1 S6 ?_
  have h3 : HH (pt (pt (pt h a 1 1) a 2 (nJ w)) a 3 (nJ n)) := HH_ptn h2 S6 (by first | decide | with_reducible assumption | omega) (by first | decide | with_reducible assumption | omega) (by first | decide | with_reducible assumption | omega)
  refine E_ci 0 rfl ci0 ?_
  refine E_is rfl (fun lv1 K3 kp => ?_)
  refine bg_loop hac S0 hn n (i := 0) lv1 (by first | decide | with_reducible assumption | omega) h3 ?_ ?_ ?_ ?_ (kp 0 _ (nbz rfl) rfl L0) (kp 2 _ (nbz rfl) rfl L2) K3
  · refine fr_ptr (l := 1) (u := 3) (by unfold rg_sub; simp) (by first | decide | with_reducible assumption | omega) (by first | decide | with_reducible assumption | omega) (fr_ptr (l := 1) (u := 3) (by unfold rg_sub; simp) (by first | decide | with_reducible assumption | omega) (by first | decide | with_reducible assumption | omega) (fr_ptr (l := 1) (u := 3) (by unfold rg_sub; simp) (by first | decide | with_reducible assumption | omega) (by first | decide | with_reducible assumption | omega) (fr_rf _ _)))
  · rw [gi_ne (by first | exact gxx rfl | omega), gi_ne (by first | exact gxx rfl | omega)]; exact gi_pt hh S4 (by decide) (by decide)
  · rw [gi_ne (by first | exact gxx rfl | omega)]; exact gi_pt h1 S5 (by rw [nJ_toInt (by first | decide | with_reducible assumption | omega)]; show (0 : Int) ≤ _; omega) (by rw [nJ_toInt (by first | decide | with_reducible assumption | omega)]; show _ ≤ (3 : Int); omega)
  · exact gi_pt h2 S6 (by rw [nJ_toInt (by first | decide | with_reducible assumption | omega)]; show (0 : Int) ≤ _; omega) (by rw [nJ_toInt (by first | decide | with_reducible assumption | omega)]; show _ ≤ (60 : Int); omega)
/-- what row answers -/
noncomputable def rowv (a b c : Int32) : Int32 := if a.toInt < 0 ∨ 3 < a.toInt ∨ b.toInt < 0 ∨ 3 < b.toInt ∨ 60 < c.toInt then -2 else if c.toInt < 0 then -3 else 0
noncomputable def rin (a b c : Int32) : Prop := (0 ≤ a.toInt ∧ a.toInt ≤ 3) ∧ (0 ≤ b.toInt ∧ b.toInt ≤ 3) ∧ 0 ≤ c.toInt ∧ c.toInt ≤ 60
theorem rowv_2 {a b c : Int32} (q : a.toInt < 0 ∨ 3 < a.toInt ∨ b.toInt < 0 ∨ 3 < b.toInt ∨ 60 < c.toInt) : rowv a b c = -2 ∧ ¬ rin a b c := ⟨if_pos q, fun z => by obtain ⟨z1, z2, z3⟩ := z; omega⟩
theorem rowv_3 {a b c : Int32} (q : ¬ (a.toInt < 0 ∨ 3 < a.toInt ∨ b.toInt < 0 ∨ 3 < b.toInt ∨ 60 < c.toInt)) (q2 : c.toInt < 0) : rowv a b c = -3 ∧ ¬ rin a b c := ⟨(if_neg q).trans (if_pos q2), fun z => by obtain ⟨z1, z2, z3⟩ := z; omega⟩
theorem rowv_0 {a b c : Int32} (q : rin a b c) : rowv a b c = 0 := (if_neg (by obtain ⟨z1, z2, z3⟩ := q; omega)).trans (if_neg (by obtain ⟨z1, z2, z3⟩ := q; omega))
noncomputable def RQ8 (x y v : Int32) (h h' : pm_H) (r : Option Value) : Prop := r = some (.int (rowv x y v)) ∧ ((rin x y v ∧ HH h' ∧ ∃ s, s < 4 ∧ x = nJ s ∧ fr_g [(54 + 2 * s, 1, 3), (55 + 2 * s, 0, 59)] h h' ∧ gi h' (54 + 2 * s) 1 = 1 ∧ gi h' (54 + 2 * s) 2 = y ∧ gi h' (54 + 2 * s) 3 = v) ∨ (¬ rin x y v ∧ h' = h))
theorem sp_row8 {h : pm_H} {d : Nat} {x y v : Int32} (hh : HH h) : Sp (d + 2) 171 h [.ref 0, .int x, .int y, .int v] (RQ8 x y v h) := by
  refine Sp_of aiX8_row rfl rfl rfl ?_
  have L0 : pm_get (lv_args 0 [.ref 0, .int x, .int y, .int v]) 0 = some (.ref 0) := rfl
  have L1 : pm_get (lv_args 0 [.ref 0, .int x, .int y, .int v]) 1 = some (.int x) := rfl
  have L2 : pm_get (lv_args 0 [.ref 0, .int x, .int y, .int v]) 2 = some (.int y) := rfl
  have L3 : pm_get (lv_args 0 [.ref 0, .int x, .int y, .int v]) 3 = some (.int v) := rfl
  generalize lv_args 0 [.ref 0, .int x, .int y, .int v] = lv at L0 L1 L2 L3 ⊢
  have z0 : (0 : Int32).toInt = 0 := rfl
  have no : (x.toInt < 0 ∨ 3 < x.toInt ∨ y.toInt < 0 ∨ 3 < y.toInt ∨ 60 < v.toInt) → Ends (pm_at tX8_row) (pm_Rt pm_P (d + 1)) (22, lv, [], h, 0, 0) (RQ8 x y v h) := by
    intro q
    refine E_c rfl ?_
    exact E_rti rfl ⟨by rw [(rowv_2 q).1], .inr ⟨(rowv_2 q).2, rfl⟩⟩
  refine E_il rfl L1 ?_
  refine E_call rfl (sp_isSlot8 (d := d)) (chkS rfl (by show 0 ≤ 8; decide)) (fun h1 r1 => ?_)
  rintro ⟨e1, rv⟩
  rw [e1]
  rcases rv with ⟨a0, a3, hr⟩ | ⟨an, hr⟩
  · rw [hr]
    refine E_ifF rfl (by decide) ?_
    refine E_il rfl L2 ?_
    by_cases b1 : y < 0
    · have q := Int32.lt_iff_toInt_lt.mp b1
      refine E_ifT rfl (decide_eq_true b1) ?_
      exact no (by first | decide | with_reducible assumption | omega)
    have q1 : ¬ y.toInt < (0 : Int32).toInt := fun w => b1 (Int32.lt_iff_toInt_lt.mpr w)
    refine E_ifF rfl (decide_eq_false b1) ?_
    refine E_il rfl L2 ?_
    refine E_ci 4 rfl ci4 ?_
    by_cases b2 : nJ 4 ≤ y
    · have q := Int32.le_iff_toInt_le.mp b2
      rw [nJ_toInt (by first | decide | with_reducible assumption | omega)] at q
      refine E_icT rfl (decide_eq_true b2) ?_
      exact no (by first | decide | with_reducible assumption | omega)
    have q2 : ¬ (nJ 4).toInt ≤ y.toInt := fun w => b2 (Int32.le_iff_toInt_le.mpr w)
    rw [nJ_toInt (by first | decide | with_reducible assumption | omega)] at q2
    refine E_icF rfl (decide_eq_false b2) ?_
    refine E_il rfl L3 ?_
    refine E_ci 60 rfl ci60 ?_
    by_cases b3 : v ≤ nJ 60
    · have q3 := Int32.le_iff_toInt_le.mp b3
      rw [nJ_toInt (by first | decide | with_reducible assumption | omega)] at q3
      refine E_icT rfl (decide_eq_true b3) ?_
      refine E_il rfl L3 ?_
      by_cases b4 : 0 ≤ v
      · have q4 := Int32.le_iff_toInt_le.mp b4
        refine E_ifT rfl (decide_eq_true b4) ?_
        have hr : rin x y v := ⟨⟨a0, a3⟩, ⟨by omega, by omega⟩, by omega, by omega⟩
        obtain ⟨s, hs, rfl⟩ : ∃ s, s < 4 ∧ x = nJ s := ⟨x.toInt.toNat, by omega, nJ_of a0⟩
        obtain ⟨w, hw, rfl⟩ : ∃ s, s ≤ 3 ∧ y = nJ s := ⟨y.toInt.toNat, by omega, nJ_of (by first | decide | with_reducible assumption | omega)⟩
        obtain ⟨n, hn, rfl⟩ : ∃ s, s ≤ 60 ∧ v = nJ s := ⟨v.toInt.toNat, by omega, nJ_of (by first | decide | with_reducible assumption | omega)⟩
        have S := isS_at s hs
        refine E_al rfl L0 ?_
        refine E_ogr rfl hh rfl (q := 53) rfl ?_
        refine E_il rfl L1 ?_
        refine E_aal rfl hh rfl (slot_at s hs) (by decide) ?_
        refine E_il rfl L2 ?_
        refine E_il rfl L3 ?_
        refine E_call rfl (sp_begin (d := d) (by first | decide | with_reducible assumption | omega) S hh hw hn) (chkO (a := 54 + 2 * s) hh S.1 rfl rfl rfl (by show 0 ≤ 8; decide)) (fun h2 r2 => ?_)
        rintro ⟨e2, hh2, f2, g1, g2, g3⟩
        rw [e2]
        refine E_ci 0 rfl ci0 ?_
        exact E_rti rfl ⟨by rw [rowv_0 hr]; rfl, .inl ⟨hr, hh2, s, hs, rfl, f2, g1, g2, g3⟩⟩
      · have q4 : ¬ (0 : Int32).toInt ≤ v.toInt := fun w => b4 (Int32.le_iff_toInt_le.mpr w)
        refine E_ifF rfl (decide_eq_false b4) ?_
        refine E_c rfl ?_
        have q5 := rowv_3 (a := x) (b := y) (c := v) (by first | decide | with_reducible assumption | omega) (by first | decide | with_reducible assumption | omega)
        exact E_rti rfl ⟨by rw [q5.1], .inr ⟨q5.2, rfl⟩⟩
    · have q3 : ¬ v.toInt ≤ (nJ 60).toInt := fun w => b3 (Int32.le_iff_toInt_le.mpr w)
      rw [nJ_toInt (by first | decide | with_reducible assumption | omega)] at q3
      refine E_icF rfl (decide_eq_false b3) ?_
      exact no (by first | decide | with_reducible assumption | omega)
  · rw [hr]
    refine E_ifT rfl (by decide) ?_
    exact no (by first | decide | with_reducible assumption | omega)
/-! the reference's row -/
noncomputable def RM9 (s : Nat) : List Rng := [(77, 0, 0), (78, s, s), (79, s, s), (80, 0, 239)]
noncomputable def RQ9 (x y v : Int32) (h h' : pm_H) (r : Option Value) : Prop := r = some (.int (rowv x y v)) ∧ ((rin x y v ∧ HH h' ∧ ∃ s, s < 4 ∧ x = nJ s ∧ fr_g (RM9 s) h h' ∧ gi h' 78 s = y ∧ gi h' 79 s = v) ∨ (¬ rin x y v ∧ h' = pt h 77 0 (nJ 0)))
theorem rw9_loop {h0 : pm_H} {d s w n : Nat} (hs : s < 4) (hn : n ≤ 60) (hr : rin (nJ s) (nJ w) (nJ n)) (j : Nat) : ∀ {h : pm_H} {i : Nat} (lv : List (Nat × Value)), i + j = n → HH h → fr_g (RM9 s) h0 h → gi h 78 s = nJ w → gi h 79 s = nJ n → pm_get lv 0 = some (.ref 77) → pm_get lv 1 = some (.int (nJ s)) → pm_get lv 3 = some (.int (nJ n)) → pm_get lv 4 = some (.int (nJ i)) → Ends (pm_at tX9_row) (pm_Rt pm_P d) (57, lv, [], h, 0, 0) (RQ9 (nJ s) (nJ w) (nJ n) h0) := by
  induction j with
  | zero =>
    intro h i lv hj hh hf g1 g2 L0 L1 L3 L4
    refine E_il rfl L4 ?_
    refine E_il rfl L3 ?_
    refine E_icT rfl (decide_eq_true ((nJ_le (by first | decide | with_reducible assumption | omega) (by first | decide | with_reducible assumption | omega)).mpr (by first | decide | with_reducible assumption | omega))) ?_
    refine E_ci 0 rfl ci0 ?_
    exact E_rti rfl ⟨by rw [rowv_0 hr]; rfl, .inl ⟨hr, hh, s, hs, rfl, hf, g1, g2⟩⟩
  | succ j ih =>
    intro h i lv hj hh hf g1 g2 L0 L1 L3 L4
    refine E_il rfl L4 ?_
    refine E_il rfl L3 ?_
    refine E_icF rfl (decide_eq_false (fun q => absurd ((nJ_le (by first | decide | with_reducible assumption | omega) (by first | decide | with_reducible assumption | omega)).mp q) (by first | decide | with_reducible assumption | omega))) ?_
    refine E_al rfl L0 ?_
    refine E_gr rfl hh (q := 80) rfl ?_
    refine E_ci 60 rfl ci60 ?_
    refine E_il rfl L1 ?_
    refine E_bin rfl (nJ_mul _ _) ?_
    refine E_il rfl L4 ?_
    refine E_bin rfl (nJ_add _ _) ?_
    refine E_c rfl ?_
    refine E_las rfl hh rfl (by first | decide | with_reducible assumption | omega) (by decide) (fun h1 hh1 f1 _ => ?_)
    refine E_inc rfl L4 (nJ_inc _) (fun lv1 K4 kp => ?_)
    refine E_goto rfl ?_
    exact ih lv1 (by first | decide | with_reducible assumption | omega) hh1 (fr_trans hf (fr_one (l := 0) (u := 239) rfl (Nat.zero_le _) (by first | decide | with_reducible assumption | omega) f1)) (by rw [fr_gi f1 (rg_no rfl _)]; exact g1) (by rw [fr_gi f1 (rg_no rfl _)]; exact g2) (kp 0 _ (nbz rfl) rfl L0) (kp 1 _ (nbz rfl) rfl L1) (kp 3 _ (nbz rfl) rfl L3) K4
theorem sp_row9 {h : pm_H} {d : Nat} {x y v : Int32} (hh : HH h) : Sp (d + 3) 338 h [.ref 77, .int x, .int y, .int v] (RQ9 x y v h) := by
  refine Sp_of aiX9_row rfl rfl rfl ?_
  have L0 : pm_get (lv_args 0 [.ref 77, .int x, .int y, .int v]) 0 = some (.ref 77) := rfl
  have L1 : pm_get (lv_args 0 [.ref 77, .int x, .int y, .int v]) 1 = some (.int x) := rfl
  have L2 : pm_get (lv_args 0 [.ref 77, .int x, .int y, .int v]) 2 = some (.int y) := rfl
  have L3 : pm_get (lv_args 0 [.ref 77, .int x, .int y, .int v]) 3 = some (.int v) := rfl
  generalize lv_args 0 [.ref 77, .int x, .int y, .int v] = lv at L0 L1 L2 L3 ⊢
  have z0 : (0 : Int32).toInt = 0 := rfl
  refine E_al rfl L0 ?_
  refine E_ci 0 rfl ci0 ?_
  refine E_pf rfl hh rfl ?_
  have hg : HH (pt h 77 0 (nJ 0)) := HH_ptn hh rfl (by first | decide | with_reducible assumption | omega) (by first | decide | with_reducible assumption | omega) (by first | decide | with_reducible assumption | omega)
  have no : (x.toInt < 0 ∨ 3 < x.toInt ∨ y.toInt < 0 ∨ 3 < y.toInt ∨ 60 < v.toInt) → Ends (pm_at tX9_row) (pm_Rt pm_P (d + 2)) (30, lv, [], pt h 77 0 (nJ 0), 0, 0) (RQ9 x y v h) := by
    intro q
    refine E_c rfl ?_
    exact E_rti rfl ⟨by rw [(rowv_2 q).1], .inr ⟨(rowv_2 q).2, rfl⟩⟩
  refine E_il rfl L1 ?_
  refine E_call rfl sp_isSlot (chkS rfl (by show 0 ≤ 8; decide)) (fun h1 r1 => ?_)
  rintro ⟨e1, f1⟩
  rw [e1, f1]
  by_cases b0 : 0 ≤ x.toInt ∧ x.toInt ≤ 3
  · refine E_ifF rfl (by rw [zb_T b0]; rfl) ?_
    refine E_il rfl L2 ?_
    refine E_i2l rfl ?_
    refine E_c rfl ?_
    refine E_c rfl ?_
    refine E_call rfl (sp_in (a := y.toInt) (b := 0) (c := 3) (i2l_toInt _) rfl rfl) (chkS rfl (by show 0 ≤ 8; decide)) (fun h2 r2 => ?_)
    rintro ⟨e2, f2⟩
    rw [e2, f2]
    by_cases b1 : 0 ≤ y.toInt ∧ y.toInt ≤ 3
    · refine E_ifF rfl (by rw [zb_T b1]; rfl) ?_
      refine E_il rfl L3 ?_
      refine E_ci 60 rfl ci60 ?_
      by_cases b3 : v ≤ nJ 60
      · have q3 := Int32.le_iff_toInt_le.mp b3
        rw [nJ_toInt (by first | decide | with_reducible assumption | omega)] at q3
        refine E_icT rfl (decide_eq_true b3) ?_
        refine E_il rfl L3 ?_
        by_cases b4 : 0 ≤ v
        · have q4 := Int32.le_iff_toInt_le.mp b4
          refine E_ifT rfl (decide_eq_true b4) ?_
          have hr : rin x y v := ⟨b0, b1, by omega, by omega⟩
          obtain ⟨s, hs, rfl⟩ : ∃ s, s < 4 ∧ x = nJ s := ⟨x.toInt.toNat, by omega, nJ_of b0.1⟩
          obtain ⟨w, hw, rfl⟩ : ∃ s, s ≤ 3 ∧ y = nJ s := ⟨y.toInt.toNat, by omega, nJ_of b1.1⟩
          obtain ⟨n, hn, rfl⟩ : ∃ s, s ≤ 60 ∧ v = nJ s := ⟨v.toInt.toNat, by omega, nJ_of (by first | decide | with_reducible assumption | omega)⟩
          refine E_al rfl L0 ?_
          refine E_gr rfl hg (q := 78) rfl ?_
          refine E_il rfl L1 ?_
          refine E_il rfl L2 ?_
          refine E_ias rfl hg rfl (by first | decide | with_reducible assumption | omega) (by decide) ?_
          have h1 : HH (pt (pt h 77 0 (nJ 0)) 78 s (nJ w)) := HH_ptn hg (bd_u rfl (by first | decide | with_reducible assumption | omega)) (by first | decide | with_reducible assumption | omega) (by first | decide | with_reducible assumption | omega) (by first | decide | with_reducible assumption | omega)
          refine E_al rfl L0 ?_
          refine E_gr rfl h1 (q := 79) rfl ?_
          refine E_il rfl L1 ?_
          refine E_il rfl L3 ?_
          refine E_ias rfl h1 rfl (by first | decide | with_reducible assumption | omega) (by decide) ?_
          have h2 : HH (pt (pt (pt h 77 0 (nJ 0)) 78 s (nJ w)) 79 s (nJ n)) := HH_ptn h1 (bd_u rfl (by first | decide | with_reducible assumption | omega)) (by first | decide | with_reducible assumption | omega) (by first | decide | with_reducible assumption | omega) (by first | decide | with_reducible assumption | omega)
          refine E_ci 0 rfl ci0 ?_
          refine E_is rfl (fun lv1 K4 kp => ?_)
          refine rw9_loop hs hn hr n (i := 0) lv1 (by first | decide | with_reducible assumption | omega) h2 ?_ ?_ ?_ (kp 0 _ (nbz rfl) rfl L0) (kp 1 _ (nbz rfl) rfl L1) (kp 3 _ (nbz rfl) rfl L3) K4
          · refine fr_ptr (l := s) (u := s) (by unfold RM9 rg_sub; simp) (Nat.le_refl _) (Nat.le_refl _) (fr_ptr (l := s) (u := s) (by unfold RM9 rg_sub; simp) (Nat.le_refl _) (Nat.le_refl _) (fr_ptr (l := 0) (u := 0) (by unfold RM9 rg_sub; simp) (Nat.le_refl _) (Nat.le_refl _) (fr_rf _ _)))
          · rw [gi_ne (by first | exact gxx rfl | omega)]
            exact gi_pt hg (bd_u rfl (by first | decide | with_reducible assumption | omega)) (by rw [nJ_toInt (by first | decide | with_reducible assumption | omega)]; show (-1 : Int) ≤ _; omega) (by rw [nJ_toInt (by first | decide | with_reducible assumption | omega)]; show _ ≤ (3 : Int); omega)
          · exact gi_pt h1 (bd_u rfl (by first | decide | with_reducible assumption | omega)) (by rw [nJ_toInt (by first | decide | with_reducible assumption | omega)]; show (0 : Int) ≤ _; omega) (by rw [nJ_toInt (by first | decide | with_reducible assumption | omega)]; show _ ≤ (60 : Int); omega)
        · have q4 : ¬ (0 : Int32).toInt ≤ v.toInt := fun w => b4 (Int32.le_iff_toInt_le.mpr w)
          refine E_ifF rfl (decide_eq_false b4) ?_
          refine E_c rfl ?_
          have q5 := rowv_3 (a := x) (b := y) (c := v) (by first | decide | with_reducible assumption | omega) (by first | decide | with_reducible assumption | omega)
          exact E_rti rfl ⟨by rw [q5.1], .inr ⟨q5.2, rfl⟩⟩
      · have q3 : ¬ v.toInt ≤ (nJ 60).toInt := fun w => b3 (Int32.le_iff_toInt_le.mpr w)
        rw [nJ_toInt (by first | decide | with_reducible assumption | omega)] at q3
        refine E_icF rfl (decide_eq_false b3) ?_
        exact no (by first | decide | with_reducible assumption | omega)
    · refine E_ifT rfl (by rw [zb_F b1]; rfl) ?_
      exact no (by first | decide | with_reducible assumption | omega)
  · refine E_ifT rfl (by rw [zb_F b0]; rfl) ?_
    exact no (by first | decide | with_reducible assumption | omega)
/-! the relation of the slots -/
noncomputable def SL1 (s : Nat) (h : pm_H) : Prop := gi h (54 + 2 * s) 1 = (if gi h 78 s = -1 then 0 else 1) ∧ (¬ gi h 78 s = -1 → gi h (54 + 2 * s) 2 = gi h 78 s) ∧ gi h (54 + 2 * s) 3 = gi h 79 s
noncomputable def SL (h : pm_H) : Prop := ∀ s, s < 4 → SL1 s h
end
section
/-! the slots, II: write and paste of both, pairs of calls over the slots' relation (wants t30, t31, t27) -/
theorem Sp_an {d y : Nat} {h : pm_H} {as : List Value} {Q Q' : pm_H → Option Value → Prop} (a : Sp d y h as Q) (b : Sp d y h as Q') : Sp d y h as (fun h' r => Q h' r ∧ Q' h' r) := by
  obtain ⟨h1, r1, a1, a2⟩ := a
  obtain ⟨h2, r2, b1, b2⟩ := b
  obtain ⟨rfl, rfl⟩ := pm_Rt_det _ _ _ _ _ _ _ _ a1 b1
  exact ⟨h1, r1, a1, a2, b2⟩
section WRT
variable {look : Nat → Option pm_I} {call : pm_Call} {Q : pm_H → Option Value → Prop} {pc n i t : Nat} {lv : List (Nat × Value)} {st : List Value} {w : pm_H × Nat × Nat} {h : pm_H} {z : Nat × Nat}
theorem gp_nw {v u : Value} {j : Nat} (hj : j ≠ i) (hj1 : j + 1 ≠ i) (e : pm_get lv j = some u) : pm_get (pm_put1 i v lv) j = some u := by
  unfold pm_put1
  refine pm_get_ne hj (pm_get_filter e ?_)
  simp only [Bool.and_eq_true, Bool.not_eq_true', Bool.and_eq_false_iff, beq_eq_false_iff_ne]
  exact ⟨hj, .inl hj1⟩
theorem E_asw {a : Nat} (h1 : look pc = some (.inl (s_as i n))) (k : ∀ lv' : List (Nat × Value), pm_get lv' i = some (.ref a) → (∀ (j : Nat) (u : Value), j ≠ i → j + 1 ≠ i → pm_get lv j = some u → pm_get lv' j = some u) → Ends look call (n, lv', st, w) Q) : Ends look call (pc, lv, .ref a :: st, w) Q :=
  E_st h1 rfl (k (pm_put1 i (.ref a) lv) gp_self (fun _ _ a b c => gp_nw a b c))
theorem E_rtl {v : Int64} (h1 : look pc = some (.inr (.inr 3))) (hq : Q h (some (.long v))) : Ends look call (pc, lv, [.long v], h, z) Q := ⟨h, some (.long v), Go_ret h1 ⟨v, rfl, rfl⟩, hq⟩
theorem E_tsA {lo hi : Int} {ts : List Nat} {dd : Nat} {x : Int32} (h1 : look pc = some (.inl (s_tsw lo hi ts dd))) (hz : (decide (x.toInt < lo) || decide (hi < x.toInt)) = false) (ht : ts[(x.toInt - lo).toNat]? = some t) (k : Ends look call (t, lv, st, w) Q) : Ends look call (pc, lv, .int x :: st, w) Q := E_st h1 (by simp only [s_tsw, hz, cond_false, ht]) k
theorem E_tsD {lo hi : Int} {ts : List Nat} {dd : Nat} {x : Int32} (h1 : look pc = some (.inl (s_tsw lo hi ts dd))) (hz : (decide (x.toInt < lo) || decide (hi < x.toInt)) = true) (k : Ends look call (dd, lv, st, w) Q) : Ends look call (pc, lv, .int x :: st, w) Q := E_st h1 (by simp only [s_tsw, hz, cond_true]) k
end WRT
/-- a number cut to its width -/
noncomputable def cutv (v : Int64) (w : Int32) : Int64 := if w = 0 then v.toInt32.toInt8.toInt32.toInt64 else if w = 1 then v.toInt32.toInt16.toInt32.toInt64 else if w = 2 then v.toInt32.toInt64 else v
section CUT
variable {h : pm_H} {d : Nat} {v : Int64} {w : Int32}
theorem sp_cut8 : Sp (d + 1) 97 h [.long v, .int w] (fun h' r => h' = h ∧ r = some (.long (cutv v w))) := by
  refine Sp_of aiX8_cut rfl rfl rfl ?_
  have L0 : pm_get (lv_args 0 [.long v, .int w]) 0 = some (.long v) := rfl
  have L2 : pm_get (lv_args 0 [.long v, .int w]) 2 = some (.int w) := rfl
  generalize lv_args 0 [.long v, .int w] = lv at L0 L2 ⊢
  refine E_il rfl L2 ?_
  by_cases e0 : w = 0
  · subst e0
    refine E_tsA (t := 28) rfl (by decide) (by decide) ?_
    refine E_ll rfl L0 ?_
    refine E_l2i rfl rfl ?_
    refine E_un rfl ?_
    refine E_i2l rfl ?_
    exact E_rtl rfl ⟨rfl, by unfold cutv; rw [if_pos rfl]⟩
  by_cases e1 : w = 1
  · subst e1
    refine E_tsA (t := 33) rfl (by decide) (by decide) ?_
    refine E_ll rfl L0 ?_
    refine E_l2i rfl rfl ?_
    refine E_un rfl ?_
    refine E_i2l rfl ?_
    exact E_rtl rfl ⟨rfl, by unfold cutv; rw [if_neg e0, if_pos rfl]⟩
  by_cases e2 : w = 2
  · subst e2
    refine E_tsA (t := 38) rfl (by decide) (by decide) ?_
    refine E_ll rfl L0 ?_
    refine E_l2i rfl rfl ?_
    refine E_i2l rfl ?_
    exact E_rtl rfl ⟨rfl, by unfold cutv; rw [if_neg e0, if_neg e1, if_pos rfl]⟩
  have n0 : w.toInt ≠ 0 := fun q => e0 (Int32.toInt_inj.mp q)
  have n1 : w.toInt ≠ 1 := fun q => e1 (Int32.toInt_inj.mp q)
  have n2 : w.toInt ≠ 2 := fun q => e2 (Int32.toInt_inj.mp q)
  have hz : (decide (w.toInt < 0) || decide (2 < w.toInt)) = true := by
    rw [Bool.or_eq_true, decide_eq_true_iff, decide_eq_true_iff]
    omega
  refine E_tsD rfl hz ?_
  refine E_ll rfl L0 ?_
  exact E_rtl rfl ⟨rfl, by unfold cutv; rw [if_neg e0, if_neg e1, if_neg e2]⟩
theorem sp_cut9 : Sp (d + 1) 236 h [.long v, .int w] (fun h' r => h' = h ∧ r = some (.long (cutv v w))) := by
  refine Sp_of aiX9_cut rfl rfl rfl ?_
  have L0 : pm_get (lv_args 0 [.long v, .int w]) 0 = some (.long v) := rfl
  have L2 : pm_get (lv_args 0 [.long v, .int w]) 2 = some (.int w) := rfl
  generalize lv_args 0 [.long v, .int w] = lv at L0 L2 ⊢
  refine E_il rfl L2 ?_
  by_cases e0 : w = 0
  · refine E_ifF rfl (decide_eq_false (fun q => q e0)) ?_
    refine E_ll rfl L0 ?_
    refine E_l2i rfl rfl ?_
    refine E_un rfl ?_
    refine E_i2l rfl ?_
    refine E_goto rfl ?_
    exact E_rtl rfl ⟨rfl, by unfold cutv; rw [if_pos e0]⟩
  refine E_ifT rfl (decide_eq_true e0) ?_
  refine E_il rfl L2 ?_
  refine E_c rfl ?_
  by_cases e1 : w = 1
  · refine E_icF rfl (decide_eq_false (fun q => q e1)) ?_
    refine E_ll rfl L0 ?_
    refine E_l2i rfl rfl ?_
    refine E_un rfl ?_
    refine E_i2l rfl ?_
    refine E_goto rfl ?_
    exact E_rtl rfl ⟨rfl, by unfold cutv; rw [if_neg e0, if_pos e1]⟩
  refine E_icT rfl (decide_eq_true e1) ?_
  refine E_il rfl L2 ?_
  refine E_c rfl ?_
  by_cases e2 : w = 2
  · refine E_icF rfl (decide_eq_false (fun q => q e2)) ?_
    refine E_ll rfl L0 ?_
    refine E_l2i rfl rfl ?_
    refine E_i2l rfl ?_
    refine E_goto rfl ?_
    exact E_rtl rfl ⟨rfl, by unfold cutv; rw [if_neg e0, if_neg e1, if_pos e2]⟩
  refine E_icT rfl (decide_eq_true e2) ?_
  refine E_ll rfl L0 ?_
  exact E_rtl rfl ⟨rfl, by unfold cutv; rw [if_neg e0, if_neg e1, if_neg e2]⟩
end CUT
/-- what write answers: f filled, m how many -/
noncomputable def wrv (f m : Nat → Int32) (x i : Int32) : Int32 := if 0 ≤ x.toInt ∧ x.toInt ≤ 3 then (if f x.toInt.toNat = 0 then -6 else if 0 ≤ i.toInt ∧ i.toInt < (m x.toInt.toNat).toInt then 0 else -7) else -2
theorem nJ_nat {s : Nat} (hs : s < 4) : (nJ s).toInt.toNat = s := by rw [nJ_toInt (by first | decide | with_reducible assumption | omega)]; omega
theorem nJ_sl {s : Nat} (hs : s < 4) : 0 ≤ (nJ s).toInt ∧ (nJ s).toInt ≤ 3 := by rw [nJ_toInt (by first | decide | with_reducible assumption | omega)]; omega
section WRV
variable {f m f' m' w w' : Nat → Int32} {s : Nat} {x i : Int32}
theorem wrv_6 (hs : s < 4) (e : f s = 0) : wrv f m (nJ s) i = -6 := by
  unfold wrv
  rw [if_pos (nJ_sl hs), nJ_nat hs, if_pos e]
theorem wrv_7 (hs : s < 4) (e : ¬ f s = 0) (b : ¬ (0 ≤ i.toInt ∧ i.toInt < (m s).toInt)) : wrv f m (nJ s) i = -7 := by
  unfold wrv
  rw [if_pos (nJ_sl hs), nJ_nat hs, if_neg e, if_neg b]
theorem wrv_0 (hs : s < 4) (e : ¬ f s = 0) (b : 0 ≤ i.toInt ∧ i.toInt < (m s).toInt) : wrv f m (nJ s) i = 0 := by
  unfold wrv
  rw [if_pos (nJ_sl hs), nJ_nat hs, if_neg e, if_pos b]
theorem wrv_2 (b : ¬ (0 ≤ x.toInt ∧ x.toInt ≤ 3)) : wrv f m x i = -2 := if_neg b
theorem wrv_eq (h1 : ∀ s, s < 4 → f s = f' s) (h2 : ∀ s, s < 4 → m s = m' s) : wrv f m x i = wrv f' m' x i := by
  unfold wrv
  by_cases q : 0 ≤ x.toInt ∧ x.toInt ≤ 3
  · rw [if_pos q, if_pos q, h1 _ (by first | decide | with_reducible assumption | omega), h2 _ (by first | decide | with_reducible assumption | omega)]
  · rw [if_neg q, if_neg q]
/-- what paste answers: w the width -/
noncomputable def pav (f w m : Nat → Int32) (x i y j n : Int32) : Int32 := if (0 ≤ x.toInt ∧ x.toInt ≤ 3) ∧ 0 ≤ y.toInt ∧ y.toInt ≤ 3 then (if f x.toInt.toNat = 0 ∨ f y.toInt.toNat = 0 then -6 else if w x.toInt.toNat = w y.toInt.toNat then (if (0 ≤ i.toInt ∧ 0 ≤ n.toInt ∧ i.toInt + n.toInt ≤ (m x.toInt.toNat).toInt) ∧ 0 ≤ j.toInt ∧ 0 ≤ n.toInt ∧ j.toInt + n.toInt ≤ (m y.toInt.toNat).toInt then 0 else -7) else -8) else -2
theorem pav_in {t : Nat} {j n : Int32} (hs : s < 4) (ht : t < 4) : pav f w m (nJ s) i (nJ t) j n = if f s = 0 ∨ f t = 0 then -6 else if w s = w t then (if (0 ≤ i.toInt ∧ 0 ≤ n.toInt ∧ i.toInt + n.toInt ≤ (m s).toInt) ∧ 0 ≤ j.toInt ∧ 0 ≤ n.toInt ∧ j.toInt + n.toInt ≤ (m t).toInt then 0 else -7) else -8 := by
  unfold pav
  rw [if_pos ⟨nJ_sl hs, nJ_sl ht⟩, nJ_nat hs, nJ_nat ht]
theorem pav_2 {y j n : Int32} (b : ¬ ((0 ≤ x.toInt ∧ x.toInt ≤ 3) ∧ 0 ≤ y.toInt ∧ y.toInt ≤ 3)) : pav f w m x i y j n = -2 := if_neg b
theorem pav_eq {y j n : Int32} (h1 : ∀ s, s < 4 → f s = f' s) (h2 : ∀ s, s < 4 → ¬ f' s = 0 → w s = w' s) (h3 : ∀ s, s < 4 → m s = m' s) : pav f w m x i y j n = pav f' w' m' x i y j n := by
  by_cases q : (0 ≤ x.toInt ∧ x.toInt ≤ 3) ∧ 0 ≤ y.toInt ∧ y.toInt ≤ 3
  · obtain ⟨s, hs, rfl⟩ : ∃ s, s < 4 ∧ x = nJ s := ⟨x.toInt.toNat, by omega, nJ_of q.1.1⟩
    obtain ⟨t, ht, rfl⟩ : ∃ s, s < 4 ∧ y = nJ s := ⟨y.toInt.toNat, by omega, nJ_of q.2.1⟩
    rw [pav_in hs ht, pav_in hs ht, h1 s hs, h1 t ht, h3 s hs, h3 t ht]
    by_cases z : f' s = 0 ∨ f' t = 0
    · rw [if_pos z, if_pos z]
    · rw [if_neg z, if_neg z, h2 s hs (fun e => z (.inl e)), h2 t ht (fun e => z (.inr e))]
  · rw [pav_2 q, pav_2 q]
end WRV
noncomputable def cf (h : pm_H) (s : Nat) : Int32 := gi h (54 + 2 * s) 1
noncomputable def cwd (h : pm_H) (s : Nat) : Int32 := gi h (54 + 2 * s) 2
noncomputable def cm (h : pm_H) (s : Nat) : Int32 := gi h (54 + 2 * s) 3
noncomputable def rf (h : pm_H) (s : Nat) : Int32 := if gi h 78 s = -1 then 0 else 1
noncomputable def rfw (h : pm_H) (s : Nat) : Int32 := gi h 78 s
noncomputable def rm (h : pm_H) (s : Nat) : Int32 := gi h 79 s
theorem rf_0 {h : pm_H} {s : Nat} (e : gi h 78 s = -1) : rf h s = 0 := if_pos e
theorem rf_1 {h : pm_H} {s : Nat} (e : ¬ gi h 78 s = -1) : ¬ rf h s = 0 := fun q => by
  unfold rf at q
  rw [if_neg e] at q
  exact absurd q (by decide)
theorem psv_pav {h : pm_H} {x i y j n r : Int32} (q : psv h x i y j n r) : r = pav (cf h) (cwd h) (cm h) x i y j n := by
  rcases q with ⟨q, rfl⟩ | ⟨s, t, hs, ht, rfl, rfl, q⟩
  · rw [pav_2 q]
  · rw [pav_in hs ht]
    rcases q with ⟨q, rfl⟩ | ⟨q, q2⟩
    · exact (if_pos q).symm
    rw [if_neg (show ¬ (cf h s = 0 ∨ cf h t = 0) from q)]
    rcases q2 with ⟨q2, rfl⟩ | ⟨q2, q3⟩
    · exact (if_neg q2).symm
    rw [if_pos (show cwd h s = cwd h t from q2)]
    rcases q3 with ⟨q3, rfl⟩ | ⟨q3, rfl⟩
    · exact (if_neg q3).symm
    · exact (if_pos q3).symm
section WR8
variable {h : pm_H} {d : Nat} {x i : Int32} {v : Int64}
theorem sp_write8 (hh : HH h) : Sp (d + 2) 203 h [.ref 0, .int x, .int i, .long v] (fun _ r => r = some (.int (wrv (cf h) (cm h) x i))) := by
  refine Sp_of aiX8_write rfl rfl rfl ?_
  have L0 : pm_get (lv_args 0 [.ref 0, .int x, .int i, .long v]) 0 = some (.ref 0) := rfl
  have L1 : pm_get (lv_args 0 [.ref 0, .int x, .int i, .long v]) 1 = some (.int x) := rfl
  have L2 : pm_get (lv_args 0 [.ref 0, .int x, .int i, .long v]) 2 = some (.int i) := rfl
  have L3 : pm_get (lv_args 0 [.ref 0, .int x, .int i, .long v]) 3 = some (.long v) := rfl
  generalize lv_args 0 [.ref 0, .int x, .int i, .long v] = lv at L0 L1 L2 L3 ⊢
  have z0 : (0 : Int32).toInt = 0 := rfl
  refine E_il rfl L1 ?_
  refine E_call rfl (sp_isSlot8 (d := d)) (chkS rfl (by show 0 ≤ 8; decide)) (fun h1 r1 => ?_)
  rintro ⟨e1, rv⟩
  rw [e1]
  rcases rv with ⟨a0, a3, hr⟩ | ⟨an, hr⟩
  · rw [hr]
    refine E_ifT rfl (by decide) ?_
    obtain ⟨s, hs, rfl⟩ : ∃ s, s < 4 ∧ x = nJ s := ⟨x.toInt.toNat, by omega, nJ_of a0⟩
    obtain ⟨S1, S2, S3, S4, S5, S6⟩ := isS_at s hs
    refine E_al rfl L0 ?_
    refine E_ogr rfl hh rfl (q := 53) rfl ?_
    refine E_il rfl L1 ?_
    refine E_aal rfl hh rfl (slot_at s hs) (by decide) ?_
    refine E_asw rfl (fun lv1 M5 kp => ?_)
    have M2 := kp 2 _ (nbz rfl) (nbz rfl) L2
    have M3 := kp 3 _ (nbz rfl) (nbz rfl) L3
    refine E_al rfl M5 ?_
    refine E_ogf rfl hh S1 S4 rfl ?_
    by_cases b1 : gi h (54 + 2 * s) 1 = 0
    · refine E_ifF rfl (decide_eq_false (fun q => q b1)) ?_
      refine E_c rfl ?_
      exact E_rti rfl (by rw [wrv_6 hs b1])
    refine E_ifT rfl (decide_eq_true b1) ?_
    have g := (ld_gi hh S6).2
    dsimp only at g
    have no : ∀ {lv : List (Nat × Value)}, ¬ (0 ≤ i.toInt ∧ i.toInt < (gi h (54 + 2 * s) 3).toInt) → Ends (pm_at tX8_write) (pm_Rt pm_P (d + 1)) (42, lv, [], h, 0, 0) (fun _ r => r = some (.int (wrv (cf h) (cm h) (nJ s) i))) := by
      intro lv hn
      refine E_c rfl ?_
      exact E_rti rfl (by rw [wrv_7 hs b1 hn])
    refine E_il rfl M2 ?_
    by_cases b2 : i < 0
    · have q := Int32.lt_iff_toInt_lt.mp b2
      refine E_ifT rfl (decide_eq_true b2) ?_
      exact no (by first | decide | with_reducible assumption | omega)
    have q2 : ¬ i.toInt < (0 : Int32).toInt := fun z => b2 (Int32.lt_iff_toInt_lt.mpr z)
    refine E_ifF rfl (decide_eq_false b2) ?_
    refine E_il rfl M2 ?_
    refine E_al rfl M5 ?_
    refine E_ogf rfl hh S1 S6 rfl ?_
    by_cases b3 : i < gi h (54 + 2 * s) 3
    · have q3 := Int32.lt_iff_toInt_lt.mp b3
      refine E_icT rfl (decide_eq_true b3) ?_
      obtain ⟨k, hk, rfl⟩ : ∃ k, k < 60 ∧ i = nJ k := ⟨i.toInt.toNat, by omega, nJ_of (by first | decide | with_reducible assumption | omega)⟩
      refine E_al rfl M5 ?_
      refine E_ogr rfl hh S1 S2 ?_
      refine E_il rfl M2 ?_
      refine E_ll rfl M3 ?_
      refine E_al rfl M5 ?_
      refine E_ogf rfl hh S1 S5 rfl ?_
      refine E_call rfl (sp_cut8 (d := d)) (chkS rfl (by show 2 ≤ 8; decide)) (fun h3 r3 => ?_)
      rintro ⟨e3, f3⟩
      rw [e3, f3]
      refine E_las rfl hh S3 hk (by decide) (fun h4 _ _ _ => ?_)
      refine E_c rfl ?_
      exact E_rti rfl (by rw [wrv_0 hs b1 ⟨by omega, q3⟩])
    · have q3 : ¬ i.toInt < (gi h (54 + 2 * s) 3).toInt := fun z => b3 (Int32.lt_iff_toInt_lt.mpr z)
      refine E_icF rfl (decide_eq_false b3) ?_
      exact no (fun z => q3 z.2)
  · rw [hr]
    refine E_ifF rfl (by decide) ?_
    refine E_c rfl ?_
    exact E_rti rfl (by rw [wrv_2 an])
theorem sp_write9 (hh : HH h) : Sp (d + 3) 380 h [.ref 77, .int x, .int i, .long v] (fun _ r => r = some (.int (wrv (rf h) (rm h) x i))) := by
  refine Sp_of aiX9_write rfl rfl rfl ?_
  have L0 : pm_get (lv_args 0 [.ref 77, .int x, .int i, .long v]) 0 = some (.ref 77) := rfl
  have L1 : pm_get (lv_args 0 [.ref 77, .int x, .int i, .long v]) 1 = some (.int x) := rfl
  have L2 : pm_get (lv_args 0 [.ref 77, .int x, .int i, .long v]) 2 = some (.int i) := rfl
  have L3 : pm_get (lv_args 0 [.ref 77, .int x, .int i, .long v]) 3 = some (.long v) := rfl
  generalize lv_args 0 [.ref 77, .int x, .int i, .long v] = lv at L0 L1 L2 L3 ⊢
  have o1 : (1 : Int32).toInt = 1 := rfl
  refine E_al rfl L0 ?_
  refine E_ci 0 rfl ci0 ?_
  refine E_pf rfl hh rfl ?_
  have hg : HH (pt h 77 0 (nJ 0)) := HH_ptn hh rfl (by first | decide | with_reducible assumption | omega) (by first | decide | with_reducible assumption | omega) (by first | decide | with_reducible assumption | omega)
  refine E_il rfl L1 ?_
  refine E_call rfl sp_isSlot (chkS rfl (by show 0 ≤ 8; decide)) (fun h1 r1 => ?_)
  rintro ⟨e1, f1⟩
  rw [e1, f1]
  by_cases b0 : 0 ≤ x.toInt ∧ x.toInt ≤ 3
  · refine E_ifT rfl (by rw [zb_T b0]; rfl) ?_
    obtain ⟨s, hs, rfl⟩ : ∃ s, s < 4 ∧ x = nJ s := ⟨x.toInt.toNat, by omega, nJ_of b0.1⟩
    refine E_al rfl L0 ?_
    refine E_gr rfl hg (q := 78) rfl ?_
    refine E_il rfl L1 ?_
    refine E_ial (v := gi h 78 s) rfl hg rfl (by first | decide | with_reducible assumption | omega) (by decide) (gi_ne (by first | exact gxx rfl | omega)) ?_
    refine E_c rfl ?_
    by_cases b1 : gi h 78 s = -1
    · refine E_icF rfl (decide_eq_false (fun q => q b1)) ?_
      refine E_c rfl ?_
      exact E_rti rfl (by rw [wrv_6 hs (rf_0 b1)])
    refine E_icT rfl (decide_eq_true b1) ?_
    refine E_il rfl L2 ?_
    refine E_i2l rfl ?_
    refine E_c rfl ?_
    refine E_al rfl L0 ?_
    refine E_gr rfl hg (q := 79) rfl ?_
    refine E_il rfl L1 ?_
    refine E_ial (v := gi h 79 s) rfl hg rfl (by first | decide | with_reducible assumption | omega) (by decide) (gi_ne (by first | exact gxx rfl | omega)) ?_
    refine E_c rfl ?_
    refine E_bin rfl rfl ?_
    refine E_i2l rfl ?_
    have g := (ld_gi hh (a := 79) (k := s) (bd_u rfl (by first | decide | with_reducible assumption | omega))).2
    dsimp only at g
    have es : (gi h 79 s - 1).toInt = (gi h 79 s).toInt - 1 := by
      rw [Int32.toInt_sub, o1]
      exact Int.bmod_eq_of_le (by first | decide | with_reducible assumption | omega) (by first | decide | with_reducible assumption | omega)
    refine E_call rfl (sp_in (a := i.toInt) (b := 0) (c := (gi h 79 s).toInt - 1) (i2l_toInt _) rfl (by rw [i2l_toInt]; exact es)) (chkS rfl (by show 0 ≤ 8; decide)) (fun h2 r2 => ?_)
    rintro ⟨e2, f2⟩
    rw [e2, f2]
    by_cases b2 : 0 ≤ i.toInt ∧ i.toInt ≤ (gi h 79 s).toInt - 1
    · refine E_ifT rfl (by rw [zb_T b2]; rfl) ?_
      obtain ⟨k, hk, rfl⟩ : ∃ k, k < 60 ∧ i = nJ k := ⟨i.toInt.toNat, by omega, nJ_of b2.1⟩
      refine E_al rfl L0 ?_
      refine E_gr rfl hg (q := 80) rfl ?_
      refine E_ci 60 rfl ci60 ?_
      refine E_il rfl L1 ?_
      refine E_bin rfl (nJ_mul _ _) ?_
      refine E_il rfl L2 ?_
      refine E_bin rfl (nJ_add _ _) ?_
      refine E_ll rfl L3 ?_
      refine E_al rfl L0 ?_
      refine E_gr rfl hg (q := 78) rfl ?_
      refine E_il rfl L1 ?_
      refine E_ial rfl hg rfl (by first | decide | with_reducible assumption | omega) (by decide) rfl ?_
      refine E_call rfl (sp_cut9 (d := d + 1)) (chkS rfl (by show 2 ≤ 8; decide)) (fun h3 r3 => ?_)
      rintro ⟨e3, f3⟩
      rw [e3, f3]
      refine E_las rfl hg rfl (by first | decide | with_reducible assumption | omega) (by decide) (fun h4 _ _ _ => ?_)
      refine E_c rfl ?_
      exact E_rti rfl (by rw [wrv_0 hs (rf_1 b1) ⟨b2.1, by have := b2.2; show _ < (gi h 79 s).toInt; omega⟩])
    · refine E_ifF rfl (by rw [zb_F b2]; rfl) ?_
      refine E_c rfl ?_
      exact E_rti rfl (by rw [wrv_7 hs (rf_1 b1) (fun z => b2 ⟨z.1, by have : _ < (gi h 79 s).toInt := z.2; omega⟩)])
  · refine E_ifF rfl (by rw [zb_F b0]; rfl) ?_
    refine E_c rfl ?_
    exact E_rti rfl (by rw [wrv_2 b0])
end WR8
/-! the reference's paste -/
theorem i2l_add (x y : Int32) : (x.toInt64 + y.toInt64).toInt = x.toInt + y.toInt := by
  have := ai_lo x
  have := ai_hi x
  have := ai_lo y
  have := ai_hi y
  rw [Int64.toInt_add, i2l_toInt, i2l_toInt]
  exact Int.bmod_eq_of_le (by first | decide | with_reducible assumption | omega) (by first | decide | with_reducible assumption | omega)
section PA9
variable {d s t a b n : Nat}
theorem p9_b (ht : t < 4) (hb : b + n ≤ 60) (j : Nat) : ∀ {h : pm_H} {c : Nat} (lv : List (Nat × Value)), c + j = n → HH h → pm_get lv 0 = some (.ref 77) → pm_get lv 3 = some (.int (nJ t)) → pm_get lv 4 = some (.int (nJ b)) → pm_get lv 5 = some (.int (nJ n)) → pm_get lv 6 = some (.int (nJ c)) → Ends (pm_at tX9_paste) (pm_Rt pm_P d) (155, lv, [], h, 0, 0) (fun _ r => r = some (.int 0)) := by
  induction j with
  | zero =>
    intro h c lv hj hh L0 L3 L4 L5 L6
    refine E_il rfl L6 ?_
    refine E_il rfl L5 ?_
    refine E_icT rfl (decide_eq_true ((nJ_le (by first | decide | with_reducible assumption | omega) (by first | decide | with_reducible assumption | omega)).mpr (by first | decide | with_reducible assumption | omega))) ?_
    refine E_c rfl ?_
    exact E_rti rfl rfl
  | succ j ih =>
    intro h c lv hj hh L0 L3 L4 L5 L6
    refine E_il rfl L6 ?_
    refine E_il rfl L5 ?_
    refine E_icF rfl (decide_eq_false (fun q => absurd ((nJ_le (by first | decide | with_reducible assumption | omega) (by first | decide | with_reducible assumption | omega)).mp q) (by first | decide | with_reducible assumption | omega))) ?_
    refine E_al rfl L0 ?_
    refine E_gr rfl hh (q := 80) rfl ?_
    refine E_ci 60 rfl ci60 ?_
    refine E_il rfl L3 ?_
    refine E_bin rfl (nJ_mul _ _) ?_
    refine E_il rfl L4 ?_
    refine E_bin rfl (nJ_add _ _) ?_
    refine E_il rfl L6 ?_
    refine E_bin rfl (nJ_add _ _) ?_
    refine E_al rfl L0 ?_
    refine E_gr rfl hh (q := 81) rfl ?_
    refine E_il rfl L6 ?_
    refine E_lal rfl hh rfl (by first | decide | with_reducible assumption | omega) (by decide) ?_
    refine E_las rfl hh rfl (by first | decide | with_reducible assumption | omega) (by decide) (fun h1 hh1 _ _ => ?_)
    refine E_inc rfl L6 (nJ_inc _) (fun lv1 K6 kp => ?_)
    refine E_goto rfl ?_
    exact ih lv1 (by first | decide | with_reducible assumption | omega) hh1 (kp 0 _ (nbz rfl) rfl L0) (kp 3 _ (nbz rfl) rfl L3) (kp 4 _ (nbz rfl) rfl L4) (kp 5 _ (nbz rfl) rfl L5) K6
theorem p9_a (hs : s < 4) (ht : t < 4) (ha : a + n ≤ 60) (hb : b + n ≤ 60) (j : Nat) : ∀ {h : pm_H} {c : Nat} (lv : List (Nat × Value)), c + j = n → HH h → pm_get lv 0 = some (.ref 77) → pm_get lv 1 = some (.int (nJ s)) → pm_get lv 2 = some (.int (nJ a)) → pm_get lv 3 = some (.int (nJ t)) → pm_get lv 4 = some (.int (nJ b)) → pm_get lv 5 = some (.int (nJ n)) → pm_get lv 6 = some (.int (nJ c)) → Ends (pm_at tX9_paste) (pm_Rt pm_P d) (118, lv, [], h, 0, 0) (fun _ r => r = some (.int 0)) := by
  induction j with
  | zero =>
    intro h c lv hj hh L0 L1 L2 L3 L4 L5 L6
    refine E_il rfl L6 ?_
    refine E_il rfl L5 ?_
    refine E_icT rfl (decide_eq_true ((nJ_le (by first | decide | with_reducible assumption | omega) (by first | decide | with_reducible assumption | omega)).mpr (by first | decide | with_reducible assumption | omega))) ?_
    refine E_ci 0 rfl ci0 ?_
    refine E_is rfl (fun lv1 K6 kp => ?_)
    exact p9_b ht hb n (c := 0) lv1 (by first | decide | with_reducible assumption | omega) hh (kp 0 _ (nbz rfl) rfl L0) (kp 3 _ (nbz rfl) rfl L3) (kp 4 _ (nbz rfl) rfl L4) (kp 5 _ (nbz rfl) rfl L5) K6
  | succ j ih =>
    intro h c lv hj hh L0 L1 L2 L3 L4 L5 L6
    refine E_il rfl L6 ?_
    refine E_il rfl L5 ?_
    refine E_icF rfl (decide_eq_false (fun q => absurd ((nJ_le (by first | decide | with_reducible assumption | omega) (by first | decide | with_reducible assumption | omega)).mp q) (by first | decide | with_reducible assumption | omega))) ?_
    refine E_al rfl L0 ?_
    refine E_gr rfl hh (q := 81) rfl ?_
    refine E_il rfl L6 ?_
    refine E_al rfl L0 ?_
    refine E_gr rfl hh (q := 80) rfl ?_
    refine E_ci 60 rfl ci60 ?_
    refine E_il rfl L1 ?_
    refine E_bin rfl (nJ_mul _ _) ?_
    refine E_il rfl L2 ?_
    refine E_bin rfl (nJ_add _ _) ?_
    refine E_il rfl L6 ?_
    refine E_bin rfl (nJ_add _ _) ?_
    refine E_lal rfl hh rfl (by first | decide | with_reducible assumption | omega) (by decide) ?_
    refine E_las rfl hh rfl (by first | decide | with_reducible assumption | omega) (by decide) (fun h1 hh1 _ _ => ?_)
    refine E_inc rfl L6 (nJ_inc _) (fun lv1 K6 kp => ?_)
    refine E_goto rfl ?_
    exact ih lv1 (by first | decide | with_reducible assumption | omega) hh1 (kp 0 _ (nbz rfl) rfl L0) (kp 1 _ (nbz rfl) rfl L1) (kp 2 _ (nbz rfl) rfl L2) (kp 3 _ (nbz rfl) rfl L3) (kp 4 _ (nbz rfl) rfl L4) (kp 5 _ (nbz rfl) rfl L5) K6
theorem sp_paste9 {h : pm_H} {x i y j n : Int32} (hh : HH h) : Sp (d + 3) 323 h [.ref 77, .int x, .int i, .int y, .int j, .int n] (fun _ r => r = some (.int (pav (rf h) (rfw h) (rm h) x i y j n))) := by
  refine Sp_of aiX9_paste rfl rfl rfl ?_
  have L0 : pm_get (lv_args 0 [.ref 77, .int x, .int i, .int y, .int j, .int n]) 0 = some (.ref 77) := rfl
  have L1 : pm_get (lv_args 0 [.ref 77, .int x, .int i, .int y, .int j, .int n]) 1 = some (.int x) := rfl
  have L2 : pm_get (lv_args 0 [.ref 77, .int x, .int i, .int y, .int j, .int n]) 2 = some (.int i) := rfl
  have L3 : pm_get (lv_args 0 [.ref 77, .int x, .int i, .int y, .int j, .int n]) 3 = some (.int y) := rfl
  have L4 : pm_get (lv_args 0 [.ref 77, .int x, .int i, .int y, .int j, .int n]) 4 = some (.int j) := rfl
  have L5 : pm_get (lv_args 0 [.ref 77, .int x, .int i, .int y, .int j, .int n]) 5 = some (.int n) := rfl
  generalize lv_args 0 [.ref 77, .int x, .int i, .int y, .int j, .int n] = lv at L0 L1 L2 L3 L4 L5 ⊢
  have z0 : (0 : Int32).toInt = 0 := rfl
  refine E_al rfl L0 ?_
  refine E_ci 0 rfl ci0 ?_
  refine E_pf rfl hh rfl ?_
  have hg : HH (pt h 77 0 (nJ 0)) := HH_ptn hh rfl (by first | decide | with_reducible assumption | omega) (by first | decide | with_reducible assumption | omega) (by first | decide | with_reducible assumption | omega)
  have no : ¬ ((0 ≤ x.toInt ∧ x.toInt ≤ 3) ∧ 0 ≤ y.toInt ∧ y.toInt ≤ 3) → Ends (pm_at tX9_paste) (pm_Rt pm_P (d + 2)) (19, lv, [], pt h 77 0 (nJ 0), 0, 0) (fun _ r => r = some (.int (pav (rf h) (rfw h) (rm h) x i y j n))) := by
    intro hn
    refine E_c rfl ?_
    exact E_rti rfl (by rw [pav_2 hn])
  refine E_il rfl L1 ?_
  refine E_call rfl sp_isSlot (chkS rfl (by show 0 ≤ 8; decide)) (fun h1 r1 => ?_)
  rintro ⟨e1, f1⟩
  rw [e1, f1]
  by_cases b0 : 0 ≤ x.toInt ∧ x.toInt ≤ 3
  · refine E_ifF rfl (by rw [zb_T b0]; rfl) ?_
    refine E_il rfl L3 ?_
    refine E_call rfl sp_isSlot (chkS rfl (by show 0 ≤ 8; decide)) (fun h2 r2 => ?_)
    rintro ⟨e2, f2⟩
    rw [e2, f2]
    by_cases c0 : 0 ≤ y.toInt ∧ y.toInt ≤ 3
    · refine E_ifT rfl (by rw [zb_T c0]; rfl) ?_
      obtain ⟨s, hs, rfl⟩ : ∃ s, s < 4 ∧ x = nJ s := ⟨x.toInt.toNat, by omega, nJ_of b0.1⟩
      obtain ⟨t, ht, rfl⟩ : ∃ s, s < 4 ∧ y = nJ s := ⟨y.toInt.toNat, by omega, nJ_of c0.1⟩
      rw [pav_in hs ht]
      refine E_al rfl L0 ?_
      refine E_gr rfl hg (q := 78) rfl ?_
      refine E_il rfl L1 ?_
      refine E_ial (v := gi h 78 s) rfl hg rfl (by first | decide | with_reducible assumption | omega) (by decide) (gi_ne (by first | exact gxx rfl | omega)) ?_
      refine E_c rfl ?_
      by_cases b1 : gi h 78 s = -1
      · refine E_icT rfl (decide_eq_true b1) ?_
        refine E_c rfl ?_
        exact E_rti rfl (by rw [if_pos (.inl (rf_0 b1))])
      refine E_icF rfl (decide_eq_false b1) ?_
      refine E_al rfl L0 ?_
      refine E_gr rfl hg (q := 78) rfl ?_
      refine E_il rfl L3 ?_
      refine E_ial (v := gi h 78 t) rfl hg rfl (by first | decide | with_reducible assumption | omega) (by decide) (gi_ne (by first | exact gxx rfl | omega)) ?_
      refine E_c rfl ?_
      by_cases b2 : gi h 78 t = -1
      · refine E_icF rfl (decide_eq_false (fun q => q b2)) ?_
        refine E_c rfl ?_
        exact E_rti rfl (by rw [if_pos (.inr (rf_0 b2))])
      refine E_icT rfl (decide_eq_true b2) ?_
      rw [if_neg (fun q : rf h s = 0 ∨ rf h t = 0 => q.elim (rf_1 b1) (rf_1 b2))]
      refine E_al rfl L0 ?_
      refine E_gr rfl hg (q := 78) rfl ?_
      refine E_il rfl L1 ?_
      refine E_ial (v := gi h 78 s) rfl hg rfl (by first | decide | with_reducible assumption | omega) (by decide) (gi_ne (by first | exact gxx rfl | omega)) ?_
      refine E_al rfl L0 ?_
      refine E_gr rfl hg (q := 78) rfl ?_
      refine E_il rfl L3 ?_
      refine E_ial (v := gi h 78 t) rfl hg rfl (by first | decide | with_reducible assumption | omega) (by decide) (gi_ne (by first | exact gxx rfl | omega)) ?_
      by_cases b3 : gi h 78 s = gi h 78 t
      · refine E_icT rfl (decide_eq_true b3) ?_
        rw [if_pos (show rfw h s = rfw h t from b3)]
        have g1 := (ld_gi hh (a := 79) (k := s) (bd_u rfl (by first | decide | with_reducible assumption | omega))).2
        have g2 := (ld_gi hh (a := 79) (k := t) (bd_u rfl (by first | decide | with_reducible assumption | omega))).2
        dsimp only at g1 g2
        have no7 : ¬ ((0 ≤ i.toInt ∧ 0 ≤ n.toInt ∧ i.toInt + n.toInt ≤ (rm h s).toInt) ∧ 0 ≤ j.toInt ∧ 0 ≤ n.toInt ∧ j.toInt + n.toInt ≤ (rm h t).toInt) → Ends (pm_at tX9_paste) (pm_Rt pm_P (d + 2)) (112, lv, [], pt h 77 0 (nJ 0), 0, 0) (fun _ r => r = some (.int (if (0 ≤ i.toInt ∧ 0 ≤ n.toInt ∧ i.toInt + n.toInt ≤ (rm h s).toInt) ∧ 0 ≤ j.toInt ∧ 0 ≤ n.toInt ∧ j.toInt + n.toInt ≤ (rm h t).toInt then 0 else -7))) := by
          intro hn
          refine E_c rfl ?_
          exact E_rti rfl (by rw [if_neg hn])
        have r1 : rm h s = gi h 79 s := rfl
        have r2 : rm h t = gi h 79 t := rfl
        rw [r1, r2] at no7 ⊢
        refine E_il rfl L2 ?_
        by_cases k1 : i < 0
        · have q := Int32.lt_iff_toInt_lt.mp k1
          refine E_ifT rfl (decide_eq_true k1) ?_
          exact no7 (by first | decide | with_reducible assumption | omega)
        have q1 : ¬ i.toInt < (0 : Int32).toInt := fun z => k1 (Int32.lt_iff_toInt_lt.mpr z)
        refine E_ifF rfl (decide_eq_false k1) ?_
        refine E_il rfl L4 ?_
        by_cases k2 : j < 0
        · have q := Int32.lt_iff_toInt_lt.mp k2
          refine E_ifT rfl (decide_eq_true k2) ?_
          exact no7 (by first | decide | with_reducible assumption | omega)
        have q2 : ¬ j.toInt < (0 : Int32).toInt := fun z => k2 (Int32.lt_iff_toInt_lt.mpr z)
        refine E_ifF rfl (decide_eq_false k2) ?_
        refine E_il rfl L5 ?_
        by_cases k3 : n < 0
        · have q := Int32.lt_iff_toInt_lt.mp k3
          refine E_ifT rfl (decide_eq_true k3) ?_
          exact no7 (by first | decide | with_reducible assumption | omega)
        have q3 : ¬ n.toInt < (0 : Int32).toInt := fun z => k3 (Int32.lt_iff_toInt_lt.mpr z)
        refine E_ifF rfl (decide_eq_false k3) ?_
        refine E_il rfl L2 ?_
        refine E_i2l rfl ?_
        refine E_il rfl L5 ?_
        refine E_i2l rfl ?_
        refine E_lbin rfl ?_
        refine E_al rfl L0 ?_
        refine E_gr rfl hg (q := 79) rfl ?_
        refine E_il rfl L1 ?_
        refine E_ial (v := gi h 79 s) rfl hg rfl (by first | decide | with_reducible assumption | omega) (by decide) (gi_ne (by first | exact gxx rfl | omega)) ?_
        refine E_i2l rfl ?_
        refine E_lcmp rfl ?_
        by_cases k4 : (gi h 79 s).toInt < i.toInt + n.toInt
        · refine E_ifT rfl (decide_eq_true ((lg_cmp_gt _ _).mpr (by rw [Int64.lt_iff_toInt_lt, i2l_add, i2l_toInt]; omega))) ?_
          exact no7 (by first | decide | with_reducible assumption | omega)
        refine E_ifF rfl (decide_eq_false (fun q => absurd ((lg_cmp_gt _ _).mp q) (by rw [Int64.lt_iff_toInt_lt, i2l_add, i2l_toInt]; omega))) ?_
        refine E_il rfl L4 ?_
        refine E_i2l rfl ?_
        refine E_il rfl L5 ?_
        refine E_i2l rfl ?_
        refine E_lbin rfl ?_
        refine E_al rfl L0 ?_
        refine E_gr rfl hg (q := 79) rfl ?_
        refine E_il rfl L3 ?_
        refine E_ial (v := gi h 79 t) rfl hg rfl (by first | decide | with_reducible assumption | omega) (by decide) (gi_ne (by first | exact gxx rfl | omega)) ?_
        refine E_i2l rfl ?_
        refine E_lcmp rfl ?_
        by_cases k5 : j.toInt + n.toInt ≤ (gi h 79 t).toInt
        · refine E_ifT rfl (decide_eq_true ((lg_cmp_le _ _).mpr (by rw [Int64.le_iff_toInt_le, i2l_add, i2l_toInt]; omega))) ?_
          rw [if_pos (by first | decide | with_reducible assumption | omega)]
          obtain ⟨a, ha, rfl⟩ : ∃ k, k ≤ 60 ∧ i = nJ k := ⟨i.toInt.toNat, by omega, nJ_of (by first | decide | with_reducible assumption | omega)⟩
          obtain ⟨b, hb, rfl⟩ : ∃ k, k ≤ 60 ∧ j = nJ k := ⟨j.toInt.toNat, by omega, nJ_of (by first | decide | with_reducible assumption | omega)⟩
          obtain ⟨m, hm, rfl⟩ : ∃ k, k ≤ 60 ∧ n = nJ k := ⟨n.toInt.toNat, by omega, nJ_of (by first | decide | with_reducible assumption | omega)⟩
          have ea := nJ_toInt (n := a) (by first | decide | with_reducible assumption | omega)
          have eb := nJ_toInt (n := b) (by first | decide | with_reducible assumption | omega)
          have em := nJ_toInt (n := m) (by first | decide | with_reducible assumption | omega)
          refine E_ci 0 rfl ci0 ?_
          refine E_is rfl (fun lv1 K6 kp => ?_)
          exact p9_a hs ht (by first | decide | with_reducible assumption | omega) (by first | decide | with_reducible assumption | omega) m (c := 0) lv1 (by first | decide | with_reducible assumption | omega) hg (kp 0 _ (nbz rfl) rfl L0) (kp 1 _ (nbz rfl) rfl L1) (kp 2 _ (nbz rfl) rfl L2) (kp 3 _ (nbz rfl) rfl L3) (kp 4 _ (nbz rfl) rfl L4) (kp 5 _ (nbz rfl) rfl L5) K6
        · refine E_ifF rfl (decide_eq_false (fun q => absurd ((lg_cmp_le _ _).mp q) (by rw [Int64.le_iff_toInt_le, i2l_add, i2l_toInt]; omega))) ?_
          exact no7 (by first | decide | with_reducible assumption | omega)
      · refine E_icF rfl (decide_eq_false b3) ?_
        rw [if_neg (show ¬ rfw h s = rfw h t from b3)]
        refine E_c rfl ?_
        exact E_rti rfl rfl
    · refine E_ifF rfl (by rw [zb_F c0]; rfl) ?_
      exact no (fun q => c0 q.2)
  · refine E_ifT rfl (by rw [zb_F b0]; rfl) ?_
    exact no (fun q => b0 q.1)
end PA9
end
section
/-! pairs of calls over the slots' relation (wants t32) -/
noncomputable def RES (h : pm_H) : Prop := REL h ∧ SL h
noncomputable def IVS (h : pm_H) : Prop := IVh h ∧ RES h
noncomputable def slB (M : List Rng) : Bool := (M.all (fun r => !(Nat.beq r.1 54)) && M.all (fun r => !(Nat.beq r.1 56))) && ((M.all (fun r => !(Nat.beq r.1 58)) && M.all (fun r => !(Nat.beq r.1 60))) && (M.all (fun r => !(Nat.beq r.1 78)) && M.all (fun r => !(Nat.beq r.1 79))))
noncomputable def resB (M : List Rng) : Bool := relB M && slB M
theorem SL1_eq {h h' : pm_H} {s : Nat} (e1 : gi h' (54 + 2 * s) 1 = gi h (54 + 2 * s) 1) (e2 : gi h' (54 + 2 * s) 2 = gi h (54 + 2 * s) 2) (e3 : gi h' (54 + 2 * s) 3 = gi h (54 + 2 * s) 3) (e4 : gi h' 78 s = gi h 78 s) (e5 : gi h' 79 s = gi h 79 s) (S : SL1 s h) : SL1 s h' := by
  unfold SL1
  rw [e1, e2, e3, e4, e5]
  exact S
theorem slB_at {M : List Rng} (hb : slB M = true) : ∀ s, s < 4 → M.all (fun r => !(Nat.beq r.1 (54 + 2 * s))) = true := by
  unfold slB at hb
  simp only [Bool.and_eq_true] at hb
  intro s hs
  match s, hs with
  | 0, _ => exact hb.1.1
  | 1, _ => exact hb.1.2
  | 2, _ => exact hb.2.1.1
  | 3, _ => exact hb.2.1.2
theorem slB_r {M : List Rng} (hb : slB M = true) : M.all (fun r => !(Nat.beq r.1 78)) = true ∧ M.all (fun r => !(Nat.beq r.1 79)) = true := by
  unfold slB at hb
  simp only [Bool.and_eq_true] at hb
  exact hb.2.2
theorem SL_fr {M : List Rng} {h h' : pm_H} (hf : fr_g M h h') (hb : slB M = true) (S : SL h) : SL h' := by
  intro s hs
  have c1 := slB_at hb s hs
  have c2 := slB_r hb
  exact SL1_eq (fr_gi hf (rg_no c1 _)) (fr_gi hf (rg_no c1 _)) (fr_gi hf (rg_no c1 _)) (fr_gi hf (rg_no c2.1 _)) (fr_gi hf (rg_no c2.2 _)) (S s hs)
theorem RES_fr {M : List Rng} {h h' : pm_H} (hf : fr_g M h h') (hb : resB M = true) (R : RES h) : RES h' := by
  unfold resB at hb
  rw [Bool.and_eq_true] at hb
  exact ⟨REL_fr hf hb.1 R.1, SL_fr hf hb.2 R.2⟩
theorem IVS_hp0 : IVS hp0 := by
  refine ⟨IVR_hp0.1, IVR_hp0.2, fun s hs => ?_⟩
  match s, hs with
  | 0, _ => exact ⟨by decide +kernel, fun q => absurd (by decide +kernel) q, by decide +kernel⟩
  | 1, _ => exact ⟨by decide +kernel, fun q => absurd (by decide +kernel) q, by decide +kernel⟩
  | 2, _ => exact ⟨by decide +kernel, fun q => absurd (by decide +kernel) q, by decide +kernel⟩
  | 3, _ => exact ⟨by decide +kernel, fun q => absurd (by decide +kernel) q, by decide +kernel⟩
/-- a call that keeps the slots' places, joined to a pair's first half -/
theorem hf_SL {d y : Nat} {h : pm_H} {as : List Value} {M : List Rng} {P : pm_H → Int32 → Prop} {T : pm_H → Option Value → Prop} (hd : d ≤ 100) (hM : slB M = true) (S : SL h) (a : Sp 100 y h as (fun h' r => IVh h' ∧ ∃ x : Int32, r = some (.int x) ∧ P h' x)) (b : Sp d y h as (fun h' r => T h' r ∧ fr_g M h h')) : Sp 100 y h as (fun h' r => IVh h' ∧ ∃ x : Int32, r = some (.int x) ∧ (P h' x ∧ SL h')) :=
  Sp_mono (fun _ _ q => by
    obtain ⟨⟨q1, x, q2, q3⟩, -, q4⟩ := q
    exact ⟨q1, x, q2, q3, SL_fr q4 hM S⟩) (Sp_an a (Sp_le hd b))
/-- the same of a second half -/
theorem hs_SL {d y : Nat} {h : pm_H} {as : List Value} {M : List Rng} {P : Option Value → Prop} {T : pm_H → Option Value → Prop} (hd : d ≤ 100) (hM : slB M = true) (S : SL h) (a : Sp 100 y h as (fun h' r => IVR h' ∧ P r)) (b : Sp d y h as (fun h' r => T h' r ∧ fr_g M h h')) : Sp 100 y h as (fun h' r => IVS h' ∧ P r) :=
  Sp_mono (fun _ _ q => by
    obtain ⟨⟨q1, q2⟩, -, q4⟩ := q
    exact ⟨⟨q1.1, q1.2, SL_fr q4 hM S⟩, q2⟩) (Sp_an a (Sp_le hd b))
theorem tf_all {d : Nat} {S : Sum1} (q : sum_g w0 (pm_Rt pm_P d) S) (hb : topB S = true) {h : pm_H} {as : List Value} (I : IVh h) (ha : f2 cv_g S.2.1 as) : Sp d S.1 h as (fun h' _ => IVh h' ∧ fr_g S.2.2.2.2.1 h h') :=
  Sp_mono (fun _ _ q => ⟨q.1, q.2.1⟩) (top_all q hb I ha)
section OLD
variable {h : pm_H} {x v a b c d e : Int32}
theorem d8_feed (I : IVS h) : Sp 100 106 h [.ref 0, .int a, .int b, .int c, .int d, .int e] (fun h' r => IVh h' ∧ ∃ x : Int32, r = some (.int x) ∧ (half_feed h' x a b c d e ∧ SL h')) :=
  hf_SL (by first | decide | with_reducible assumption | omega) rfl I.2.2 (c8_feed ⟨I.1, I.2.1⟩) (tf_all (as := [.ref 0, .int a, .int b, .int c, .int d, .int e]) q1 (by decide +kernel) I.1 ⟨rfl, aI _, aI _, aI _, aI _, aI _, trivial⟩)
theorem d9_feed (I : IVh h) (J : half_feed h x a b c d e ∧ SL h) : Sp 100 247 h [.ref 77, .int a, .int b, .int c, .int d, .int e] (fun h' r => IVS h' ∧ r = some (.int x)) :=
  hs_SL (by first | decide | with_reducible assumption | omega) rfl J.2 (c9_feed I J.1) (tf_all (as := [.ref 77, .int a, .int b, .int c, .int d, .int e]) q7 (by decide +kernel) I ⟨rfl, aI _, aI _, aI _, aI _, aI _, trivial⟩)
theorem d8_end (I : IVS h) : Sp 100 101 h [.ref 0, .int v] (fun h' r => IVh h' ∧ ∃ x : Int32, r = some (.int x) ∧ (half_end h' x v ∧ SL h')) :=
  hf_SL (by first | decide | with_reducible assumption | omega) rfl I.2.2 (c8_end ⟨I.1, I.2.1⟩) (tf_all (as := [.ref 0, .int v]) q8 (by decide +kernel) I.1 ⟨rfl, aI _, trivial⟩)
theorem d9_end (I : IVh h) (J : half_end h x v ∧ SL h) : Sp 100 241 h [.ref 77, .int v] (fun h' r => IVS h' ∧ r = some (.int x)) :=
  hs_SL (by first | decide | with_reducible assumption | omega) rfl J.2 (c9_end I J.1) (tf_all (as := [.ref 77, .int v]) q10 (by decide +kernel) I ⟨rfl, aI _, trivial⟩)
theorem d8_image (I : IVS h) : Sp 100 121 h [.ref 0, .int v] (fun h' r => IVh h' ∧ ∃ x : Int32, r = some (.int x) ∧ (half_image h' x v ∧ SL h')) :=
  hf_SL (by first | decide | with_reducible assumption | omega) rfl I.2.2 (c8_image ⟨I.1, I.2.1⟩) (tf_all (as := [.ref 0, .int v]) q905 (by decide +kernel) I.1 ⟨rfl, aI _, trivial⟩)
theorem d9_image (I : IVh h) (J : half_image h x v ∧ SL h) : Sp 100 260 h [.ref 77, .int v] (fun h' r => IVS h' ∧ r = some (.int x)) :=
  hs_SL (M := VMI) (T := fun h' _ => HH h') (d := 40) (by first | decide | with_reducible assumption | omega) rfl J.2 (c9_image I J.1) (Sp_mono (fun _ _ q => ⟨q.1, q.2.1⟩) (tv_image (d := 0) I.1 I.2.2))
theorem d8_back (I : IVS h) : Sp 100 82 h [.ref 0, .int v] (fun h' r => IVh h' ∧ ∃ x : Int32, r = some (.int x) ∧ (half_back h' x v ∧ SL h')) :=
  hf_SL (by first | decide | with_reducible assumption | omega) rfl I.2.2 (c8_back ⟨I.1, I.2.1⟩) (tf_all (as := [.ref 0, .int v]) q927 (by decide +kernel) I.1 ⟨rfl, aI _, trivial⟩)
theorem d9_back (I : IVh h) (J : half_back h x v ∧ SL h) : Sp 100 212 h [.ref 77, .int v] (fun h' r => IVS h' ∧ r = some (.int x)) :=
  hs_SL (M := VM) (T := fun h' _ => HH h') (d := 40) (by first | decide | with_reducible assumption | omega) rfl J.2 (c9_back I J.1) (Sp_mono (fun _ _ q => ⟨q.1, q.2.1⟩) (tv_back (d := 0) I.1 I.2.2))
end OLD
theorem beq_no {a b : Nat} (h : a ≠ b) : Nat.beq a b = false := by
  cases hq : Nat.beq a b with
  | false => rfl
  | true => exact absurd (Nat.eq_of_beq_eq_true hq) h
theorem no2 {a1 l1 u1 a2 l2 u2 b : Nat} (h1 : a1 ≠ b) (h2 : a2 ≠ b) (k : Nat) : rg_in [(a1, l1, u1), (a2, l2, u2)] b k = false := rg_no (by simp [beq_no h1, beq_no h2]) k
theorem RM9_no {s0 b k : Nat} (h1 : 77 ≠ b) (h2 : b ≠ 80) (h3 : b = 78 ∨ b = 79 → k ≠ s0) : rg_in (RM9 s0) b k = false := by
  cases hq : rg_in (RM9 s0) b k with
  | false => rfl
  | true =>
    obtain ⟨r, hr, hc⟩ := List.any_eq_true.mp hq
    simp only [Bool.and_eq_true] at hc
    have c1 := Nat.eq_of_beq_eq_true hc.1
    have c2 := Nat.le_of_ble_eq_true hc.2.1
    have c3 := Nat.le_of_ble_eq_true hc.2.2
    simp only [RM9, List.mem_cons, List.not_mem_nil, or_false] at hr
    rcases hr with rfl | rfl | rfl | rfl
    · exact absurd c1 h1
    · exact absurd (Nat.le_antisymm c3 c2) (h3 (.inl c1.symm))
    · exact absurd (Nat.le_antisymm c3 c2) (h3 (.inr c1.symm))
    · exact absurd c1.symm h2
/-- row: between the class's call and the reference's -/
noncomputable def half_row (h : pm_H) (x a b c : Int32) : Prop := REL h ∧ x = rowv a b c ∧ ∀ s, s < 4 → (rin a b c ∧ a = nJ s ∧ gi h (54 + 2 * s) 1 = 1 ∧ gi h (54 + 2 * s) 2 = b ∧ gi h (54 + 2 * s) 3 = c) ∨ (¬ (rin a b c ∧ a = nJ s) ∧ SL1 s h)
section ROW
variable {h : pm_H} {x a b c : Int32}
theorem d8_row (I : IVS h) : Sp 100 171 h [.ref 0, .int a, .int b, .int c] (fun h' r => IVh h' ∧ ∃ x : Int32, r = some (.int x) ∧ half_row h' x a b c) := by
  refine Sp_le (by first | exact Nat.add_le_add_left (Nat.le_of_ble_eq_true rfl) _ | exact Nat.le_of_ble_eq_true rfl | omega) (Sp_mono ?_ (Sp_and (top_all (as := [.ref 0, .int a, .int b, .int c]) q949 (by decide +kernel) I.1 ⟨rfl, aI _, aI _, aI _, trivial⟩) (sp_row8 (d := 0) I.1.1)))
  rintro h' r ⟨⟨s1, s2, -⟩, s3, s4⟩
  refine ⟨s1, _, s3, REL_fr s2 rfl I.2.1, rfl, fun s hs => ?_⟩
  rcases s4 with ⟨hr, -, s0, hs0, rfl, f0, g1, g2, g3⟩ | ⟨hr, rfl⟩
  · by_cases e : s = s0
    · subst e
      exact .inl ⟨hr, rfl, g1, g2, g3⟩
    · refine .inr ⟨fun q => e ?_, ?_⟩
      · exact ((nJ_eq (by first | decide | with_reducible assumption | omega) (by first | decide | with_reducible assumption | omega)).mp q.2).symm
      · exact SL1_eq (fr_gi f0 (no2 (by first | decide | with_reducible assumption | omega) (by first | decide | with_reducible assumption | omega) _)) (fr_gi f0 (no2 (by first | decide | with_reducible assumption | omega) (by first | decide | with_reducible assumption | omega) _)) (fr_gi f0 (no2 (by first | decide | with_reducible assumption | omega) (by first | decide | with_reducible assumption | omega) _)) (fr_gi f0 (no2 (by first | decide | with_reducible assumption | omega) (by first | decide | with_reducible assumption | omega) _)) (fr_gi f0 (no2 (by first | decide | with_reducible assumption | omega) (by first | decide | with_reducible assumption | omega) _)) (I.2.2 s hs)
  · exact .inr ⟨fun q => hr q.1, I.2.2 s hs⟩
theorem d9_row (I : IVh h) (J : half_row h x a b c) : Sp 100 338 h [.ref 77, .int a, .int b, .int c] (fun h' r => IVS h' ∧ r = some (.int x)) := by
  refine Sp_le (by first | exact Nat.add_le_add_left (Nat.le_of_ble_eq_true rfl) _ | exact Nat.le_of_ble_eq_true rfl | omega) (Sp_mono ?_ (Sp_and (top_all (as := [.ref 77, .int a, .int b, .int c]) q950 (by decide +kernel) I ⟨rfl, aI _, aI _, aI _, trivial⟩) (sp_row9 (d := 0) I.1)))
  rintro h' r ⟨⟨s1, s2, -⟩, s3, s4⟩
  obtain ⟨J1, rfl, J3⟩ := J
  refine ⟨⟨s1, REL_fr s2 rfl J1, fun s hs => ?_⟩, s3⟩
  rcases s4 with ⟨hr, -, s0, hs0, rfl, f0, g1, g2⟩ | ⟨hr, rfl⟩
  · have eA : ∀ k, gi h' (54 + 2 * s) k = gi h (54 + 2 * s) k := fun k => fr_gi f0 (RM9_no (by first | decide | with_reducible assumption | omega) (by first | decide | with_reducible assumption | omega) (by first | decide | with_reducible assumption | omega))
    rcases J3 s hs with ⟨-, e, j1, j2, j3⟩ | ⟨e, S⟩
    · have e := (nJ_eq (by first | decide | with_reducible assumption | omega) (by first | decide | with_reducible assumption | omega)).mp e
      subst e
      have z0 : (0 : Int32).toInt = 0 := rfl
      have nb : ¬ gi h' 78 s0 = -1 := fun q => by
        rw [g1] at q
        have q2 := hr.2.1.1
        rw [q] at q2
        exact absurd q2 (by decide)
      refine ⟨by rw [if_neg nb, eA]; exact j1, fun _ => by rw [eA, g1]; exact j2, by rw [eA, g2]; exact j3⟩
    · have ne : s ≠ s0 := fun q => e ⟨hr, by rw [q]⟩
      exact SL1_eq (eA _) (eA _) (eA _) (fr_gi f0 (RM9_no (by first | decide | with_reducible assumption | omega) (by first | decide | with_reducible assumption | omega) (fun _ => ne))) (fr_gi f0 (RM9_no (by first | decide | with_reducible assumption | omega) (by first | decide | with_reducible assumption | omega) (fun _ => ne))) S
  · rcases J3 s hs with ⟨q, -⟩ | ⟨-, S⟩
    · exact absurd q hr
    · exact SL1_eq (gi_ne (by first | exact gxx rfl | omega)) (gi_ne (by first | exact gxx rfl | omega)) (gi_ne (by first | exact gxx rfl | omega)) (gi_ne (by first | exact gxx rfl | omega)) (gi_ne (by first | exact gxx rfl | omega)) S
end ROW
noncomputable def half_write (h : pm_H) (x a b : Int32) : Prop := RES h ∧ x = wrv (rf h) (rm h) a b
theorem rf_fr {M : List Rng} {h h' : pm_H} (hf : fr_g M h h') (hb : slB M = true) (s : Nat) : rf h' s = rf h s ∧ rfw h' s = rfw h s ∧ rm h' s = rm h s := by
  have c2 := slB_r hb
  have e4 : gi h' 78 s = gi h 78 s := fr_gi hf (rg_no c2.1 _)
  have e5 : gi h' 79 s = gi h 79 s := fr_gi hf (rg_no c2.2 _)
  refine ⟨?_, e4, e5⟩
  unfold rf
  rw [e4]
theorem SL_cf {h : pm_H} (S : SL h) (s : Nat) (hs : s < 4) : cf h s = rf h s ∧ (¬ rf h s = 0 → cwd h s = rfw h s) ∧ cm h s = rm h s := by
  obtain ⟨S1, S2, S3⟩ := S s hs
  exact ⟨S1, fun q => S2 (fun e => q (rf_0 e)), S3⟩
section WRP
variable {h : pm_H} {x a b i j n : Int32} {v : Int64}
theorem d8_write (I : IVS h) : Sp 100 203 h [.ref 0, .int a, .int b, .long v] (fun h' r => IVh h' ∧ ∃ x : Int32, r = some (.int x) ∧ half_write h' x a b) := by
  refine Sp_le (by first | exact Nat.add_le_add_left (Nat.le_of_ble_eq_true rfl) _ | exact Nat.le_of_ble_eq_true rfl | omega) (Sp_mono ?_ (Sp_and (top_all (as := [.ref 0, .int a, .int b, .long v]) q952 (by decide +kernel) I.1 ⟨rfl, aI _, aI _, aL _, trivial⟩) (sp_write8 (d := 0) I.1.1)))
  rintro h' r ⟨⟨s1, s2, -⟩, s3⟩
  refine ⟨s1, _, s3, RES_fr s2 rfl I.2, wrv_eq (fun s hs => ?_) (fun s hs => ?_)⟩
  · rw [(rf_fr s2 rfl s).1]
    exact (SL_cf I.2.2 s hs).1
  · rw [(rf_fr s2 rfl s).2.2]
    exact (SL_cf I.2.2 s hs).2.2
theorem d9_write (I : IVh h) (J : half_write h x a b) : Sp 100 380 h [.ref 77, .int a, .int b, .long v] (fun h' r => IVS h' ∧ r = some (.int x)) := by
  refine Sp_le (by first | exact Nat.add_le_add_left (Nat.le_of_ble_eq_true rfl) _ | exact Nat.le_of_ble_eq_true rfl | omega) (Sp_mono ?_ (Sp_and (top_all (as := [.ref 77, .int a, .int b, .long v]) q955 (by decide +kernel) I ⟨rfl, aI _, aI _, aL _, trivial⟩) (sp_write9 (d := 0) I.1)))
  rintro h' r ⟨⟨s1, s2, -⟩, s3⟩
  obtain ⟨J1, rfl⟩ := J
  exact ⟨⟨s1, RES_fr s2 rfl J1⟩, s3⟩
noncomputable def half_paste (h : pm_H) (x a i b j n : Int32) : Prop := RES h ∧ x = pav (rf h) (rfw h) (rm h) a i b j n
theorem d8_paste (I : IVS h) : Sp 100 158 h [.ref 0, .int a, .int i, .int b, .int j, .int n] (fun h' r => IVh h' ∧ ∃ x : Int32, r = some (.int x) ∧ half_paste h' x a i b j n) := by
  refine Sp_le (by first | exact Nat.add_le_add_left (Nat.le_of_ble_eq_true rfl) _ | exact Nat.le_of_ble_eq_true rfl | omega) (Sp_mono ?_ (sp_paste8 (d := 0) I.1.1))
  rintro h' r ⟨q1, q2, x, q3, q4⟩
  refine ⟨IVh_fr (M := PM) (by decide +kernel) q2 q1 I.1 (RV_fr I.1.1 rfl q2 I.1.2.2), x, q3, RES_fr q2 rfl I.2, (psv_pav q4).trans (pav_eq (fun s hs => ?_) (fun s hs => ?_) (fun s hs => ?_))⟩
  · rw [(rf_fr q2 rfl s).1]
    exact (SL_cf I.2.2 s hs).1
  · rw [(rf_fr q2 rfl s).1, (rf_fr q2 rfl s).2.1]
    exact (SL_cf I.2.2 s hs).2.1
  · rw [(rf_fr q2 rfl s).2.2]
    exact (SL_cf I.2.2 s hs).2.2
theorem d9_paste (I : IVh h) (J : half_paste h x a i b j n) : Sp 100 323 h [.ref 77, .int a, .int i, .int b, .int j, .int n] (fun h' r => IVS h' ∧ r = some (.int x)) := by
  refine Sp_le (by first | exact Nat.add_le_add_left (Nat.le_of_ble_eq_true rfl) _ | exact Nat.le_of_ble_eq_true rfl | omega) (Sp_mono ?_ (Sp_and (top_all (as := [.ref 77, .int a, .int i, .int b, .int j, .int n]) q961 (by decide +kernel) I ⟨rfl, aI _, aI _, aI _, aI _, aI _, trivial⟩) (sp_paste9 (d := 0) I.1)))
  rintro h' r ⟨⟨s1, s2, -⟩, s3⟩
  obtain ⟨J1, rfl⟩ := J
  exact ⟨⟨s1, RES_fr s2 rfl J1⟩, s3⟩
end WRP
end
section
/-! the reading of a tape, told purely: tokens -/
noncomputable def upf (p : Nat → Bool) (L : Nat) : Nat → Nat → Nat
  | 0, i => i
  | n + 1, i => bif Nat.blt i L && p i then upf p L n (i + 1) else i
noncomputable def up (p : Nat → Bool) (L i : Nat) : Nat := upf p L (L - i) i
theorem up_no {p : Nat → Bool} {L i : Nat} (h : ¬ (i < L ∧ p i = true)) : up p L i = i := by
  unfold up
  cases hn : L - i with
  | zero => rfl
  | succ n =>
    show (bif Nat.blt i L && p i then upf p L n (i + 1) else i) = i
    cases hb : (Nat.blt i L && p i) with
    | false => rfl
    | true =>
      rw [Bool.and_eq_true] at hb
      exact absurd ⟨Nat.le_of_ble_eq_true hb.1, hb.2⟩ h
theorem up_go {p : Nat → Bool} {L i : Nat} (h : i < L) (hp : p i = true) : up p L i = up p L (i + 1) := by
  unfold up
  obtain ⟨n, hn⟩ : ∃ n, L - i = n + 1 := ⟨L - i - 1, by omega⟩
  rw [hn, show L - (i + 1) = n by omega]
  show (bif Nat.blt i L && p i then upf p L n (i + 1) else i) = _
  rw [show Nat.blt i L = true from Nat.ble_eq_true_of_le h, hp]
  rfl
theorem up_at {p : Nat → Bool} {L : Nat} (j : Nat) : ∀ {i : Nat}, i + j = L → i ≤ up p L i ∧ up p L i ≤ L ∧ (∀ m, i ≤ m → m < up p L i → p m = true) := by
  induction j with
  | zero =>
    intro i h
    rw [up_no (fun q => absurd q.1 (by first | decide | with_reducible assumption | omega))]
    exact ⟨Nat.le_refl _, by omega, fun m h1 h2 => absurd h2 (by first | decide | with_reducible assumption | omega)⟩
  | succ j ih =>
    intro i h
    by_cases hp : p i = true
    · rw [up_go (by first | decide | with_reducible assumption | omega) hp]
      obtain ⟨a, b, c⟩ := ih (i := i + 1) (by first | decide | with_reducible assumption | omega)
      refine ⟨by omega, b, fun m h1 h2 => ?_⟩
      by_cases e : m = i
      · rw [e]; exact hp
      · exact c m (by first | decide | with_reducible assumption | omega) h2
    · rw [up_no (fun q => hp q.2)]
      exact ⟨Nat.le_refl _, by omega, fun m h1 h2 => absurd h2 (by first | decide | with_reducible assumption | omega)⟩
theorem up_le {p : Nat → Bool} {L i : Nat} (h : i ≤ L) : i ≤ up p L i ∧ up p L i ≤ L ∧ (∀ m, i ≤ m → m < up p L i → p m = true) := up_at (L - i) (by first | decide | with_reducible assumption | omega)
theorem up_lt {p : Nat → Bool} {L i : Nat} (h : i < L) (hp : p i = true) : i < up p L i := by
  rw [up_go h hp]
  have := (up_le (p := p) (L := L) (i := i + 1) (by first | decide | with_reducible assumption | omega)).1
  omega
noncomputable def spb (b : Int32) : Bool := decide (b = 32) || decide (b = 10)
noncomputable def ltb (b : Int32) : Bool := !(decide (b < 97)) && !(decide (122 < b))
noncomputable def dgb (b : Int32) : Bool := !(decide (b < 48)) && !(decide (57 < b))
section TOK
variable (T : Nat → Int32) (L : Nat)
noncomputable def skp (i : Nat) : Nat := up (fun j => spb (T j)) L i
/-- a token's kind and end, by its start -/
noncomputable def tkk (s : Nat) : Nat := bif Nat.blt s L then (bif ltb (T s) then 1 else bif dgb (T s) then 2 else bif decide (T s = 59) then 3 else 4) else 0
noncomputable def tke (s : Nat) : Nat := bif Nat.blt s L then (bif ltb (T s) then up (fun j => ltb (T j)) L s else bif dgb (T s) then up (fun j => dgb (T j)) L s else s + 1) else s
noncomputable def nxt (s : Nat) : Nat := skp T L (tke T L s)
noncomputable def vfo (s : Nat) : Nat → Nat
  | 0 => 0
  | n + 1 => min 1000 (10 * vfo s n + ((T (s + n)).toInt.toNat - 48))
noncomputable def wfo (s : Nat) : Nat → Int
  | 0 => 0
  | n + 1 => 27 * wfo s n + ((T (s + n)).toInt - 96)
/-- a number's value, not above 1000 -/
noncomputable def tkv (s : Nat) : Nat := vfo T s (tke T L s - s)
noncomputable def wnm (s n : Nat) : Int := if n ≤ 12 then wfo T s n else -1
noncomputable def wIs (s : Nat) (W : List Int32) : Bool := decide (tkk T L s = 1) && (decide (tke T L s = s + W.length) && (List.range W.length).all (fun i => decide (T (s + i) = W.getD i 0)))
end TOK
section TOK2
variable {T : Nat → Int32} {L s : Nat}
theorem tk_0 (h : ¬ s < L) : tkk T L s = 0 ∧ tke T L s = s := by
  have e : Nat.blt s L = false := by
    cases hb : Nat.blt s L with
    | false => rfl
    | true => exact absurd (Nat.le_of_ble_eq_true hb) h
  unfold tkk tke
  rw [e]
  exact ⟨rfl, rfl⟩
theorem tk_1 (h : s < L) (h1 : ltb (T s) = true) : tkk T L s = 1 ∧ tke T L s = up (fun j => ltb (T j)) L s := by
  unfold tkk tke
  rw [show Nat.blt s L = true from Nat.ble_eq_true_of_le h, h1]
  exact ⟨rfl, rfl⟩
theorem tk_2 (h : s < L) (h1 : ltb (T s) = false) (h2 : dgb (T s) = true) : tkk T L s = 2 ∧ tke T L s = up (fun j => dgb (T j)) L s := by
  unfold tkk tke
  rw [show Nat.blt s L = true from Nat.ble_eq_true_of_le h, h1, h2]
  exact ⟨rfl, rfl⟩
theorem tk_3 (h : s < L) (h1 : ltb (T s) = false) (h2 : dgb (T s) = false) (h3 : T s = 59) : tkk T L s = 3 ∧ tke T L s = s + 1 := by
  unfold tkk tke
  rw [show Nat.blt s L = true from Nat.ble_eq_true_of_le h, h1, h2, decide_eq_true h3]
  exact ⟨rfl, rfl⟩
theorem tk_4 (h : s < L) (h1 : ltb (T s) = false) (h2 : dgb (T s) = false) (h3 : ¬ T s = 59) : tkk T L s = 4 ∧ tke T L s = s + 1 := by
  unfold tkk tke
  rw [show Nat.blt s L = true from Nat.ble_eq_true_of_le h, h1, h2, decide_eq_false h3]
  exact ⟨rfl, rfl⟩
theorem tke_le (h : s ≤ L) : s ≤ tke T L s ∧ tke T L s ≤ L ∧ (s < L → s < tke T L s) := by
  by_cases hs : s < L
  · cases h1 : ltb (T s) with
    | true =>
      rw [(tk_1 hs h1).2]
      have a := up_le (p := fun j => ltb (T j)) h
      exact ⟨a.1, a.2.1, fun _ => up_lt (p := fun j => ltb (T j)) hs h1⟩
    | false =>
      cases h2 : dgb (T s) with
      | true =>
        rw [(tk_2 hs h1 h2).2]
        have a := up_le (p := fun j => dgb (T j)) h
        exact ⟨a.1, a.2.1, fun _ => up_lt (p := fun j => dgb (T j)) hs h2⟩
      | false =>
        by_cases h3 : T s = 59
        · rw [(tk_3 hs h1 h2 h3).2]
          omega
        · rw [(tk_4 hs h1 h2 h3).2]
          omega
  · rw [(tk_0 hs).2]
    omega
theorem tkk_le : tkk T L s ≤ 4 := by
  by_cases hs : s < L
  · cases h1 : ltb (T s) with
    | true => rw [(tk_1 hs h1).1]; omega
    | false =>
      cases h2 : dgb (T s) with
      | true => rw [(tk_2 hs h1 h2).1]; omega
      | false =>
        by_cases h3 : T s = 59
        · rw [(tk_3 hs h1 h2 h3).1]; omega
        · rw [(tk_4 hs h1 h2 h3).1]; omega
  · rw [(tk_0 hs).1]; omega
theorem tkk_lt (h : tkk T L s ≠ 0) : s < L := Classical.byContradiction (fun q => h (tk_0 q).1)
theorem skp_le {i : Nat} (h : i ≤ L) : i ≤ skp T L i ∧ skp T L i ≤ L := ⟨(up_le h).1, (up_le h).2.1⟩
theorem nxt_le (h : s ≤ L) : s ≤ nxt T L s ∧ nxt T L s ≤ L ∧ (s < L → s < nxt T L s) := by
  have a := tke_le (T := T) h
  have b := skp_le (T := T) a.2.1
  unfold nxt
  exact ⟨by omega, b.2, fun q => by have := a.2.2 q; omega⟩
theorem ltb_iff {b : Int32} : ltb b = true ↔ 97 ≤ b.toInt ∧ b.toInt ≤ 122 := by
  have z1 : (97 : Int32).toInt = 97 := rfl
  have z2 : (122 : Int32).toInt = 122 := rfl
  unfold ltb
  rw [Bool.and_eq_true, Bool.not_eq_true', Bool.not_eq_true', decide_eq_false_iff_not, decide_eq_false_iff_not, Int32.lt_iff_toInt_lt, Int32.lt_iff_toInt_lt]
  omega
theorem dgb_iff {b : Int32} : dgb b = true ↔ 48 ≤ b.toInt ∧ b.toInt ≤ 57 := by
  have z1 : (48 : Int32).toInt = 48 := rfl
  have z2 : (57 : Int32).toInt = 57 := rfl
  unfold dgb
  rw [Bool.and_eq_true, Bool.not_eq_true', Bool.not_eq_true', decide_eq_false_iff_not, decide_eq_false_iff_not, Int32.lt_iff_toInt_lt, Int32.lt_iff_toInt_lt]
  omega
theorem tok1_all (h : tkk T L s = 1) : s < L ∧ ∀ m, s ≤ m → m < tke T L s → ltb (T m) = true := by
  have hs := tkk_lt (T := T) (L := L) (s := s) (by first | decide | with_reducible assumption | omega)
  refine ⟨hs, ?_⟩
  cases h1 : ltb (T s) with
  | true =>
    rw [(tk_1 hs h1).2]
    exact (up_le (p := fun j => ltb (T j)) (Nat.le_of_lt hs)).2.2
  | false =>
    cases h2 : dgb (T s) with
    | true => rw [(tk_2 hs h1 h2).1] at h; omega
    | false =>
      by_cases h3 : T s = 59
      · rw [(tk_3 hs h1 h2 h3).1] at h; omega
      · rw [(tk_4 hs h1 h2 h3).1] at h; omega
/-- what a reader keeps of a number -/
noncomputable def Vr (v c : Nat) : Prop := (v = c ∧ c < 1000) ∨ (1000 ≤ v ∧ c = 1000)
theorem Vr_bd {v c lo hi : Nat} (h : Vr v c) (hh : hi < 1000) : (lo ≤ v ∧ v ≤ hi) ↔ (lo ≤ c ∧ c ≤ hi) := by
  rcases h with ⟨h1, h2⟩ | ⟨h1, h2⟩ <;> omega
theorem Vr_eq {v c hi : Nat} (h : Vr v c) (hh : hi < 1000) (hc : c ≤ hi) : v = c := by
  rcases h with ⟨h1, h2⟩ | ⟨h1, h2⟩ <;> omega
theorem wfo_ge {s n : Nat} (h : ∀ i, i < n → ltb (T (s + i)) = true) : 0 ≤ wfo T s n := by
  induction n with
  | zero => exact Int.le_refl _
  | succ n ih =>
    have a := ih (fun i hi => h i (by first | decide | with_reducible assumption | omega))
    have b := ltb_iff.mp (h n (by first | decide | with_reducible assumption | omega))
    show 0 ≤ 27 * wfo T s n + ((T (s + n)).toInt - 96)
    omega
theorem wfo_inj {T' : Nat → Int32} {s' : Nat} : ∀ {n m : Nat}, (∀ i, i < n → ltb (T (s + i)) = true) → (∀ i, i < m → ltb (T' (s' + i)) = true) → wfo T s n = wfo T' s' m → n = m ∧ ∀ i, i < n → T (s + i) = T' (s' + i)
  | 0, 0, _, _, _ => ⟨rfl, fun i hi => absurd hi (Nat.not_lt_zero i)⟩
  | 0, m + 1, _, h2, e => by
    have a := wfo_ge (fun i hi => h2 i (Nat.lt_succ_of_lt hi))
    have b := ltb_iff.mp (h2 m (Nat.lt_succ_self m))
    have e : (0 : Int) = 27 * wfo T' s' m + ((T' (s' + m)).toInt - 96) := e
    omega
  | n + 1, 0, h1, _, e => by
    have a := wfo_ge (fun i hi => h1 i (Nat.lt_succ_of_lt hi))
    have b := ltb_iff.mp (h1 n (Nat.lt_succ_self n))
    have e : 27 * wfo T s n + ((T (s + n)).toInt - 96) = 0 := e
    omega
  | n + 1, m + 1, h1, h2, e => by
    have a := ltb_iff.mp (h1 n (Nat.lt_succ_self n))
    have b := ltb_iff.mp (h2 m (Nat.lt_succ_self m))
    have e : 27 * wfo T s n + ((T (s + n)).toInt - 96) = 27 * wfo T' s' m + ((T' (s' + m)).toInt - 96) := e
    have e1 : (T (s + n)).toInt = (T' (s' + m)).toInt := by omega
    obtain ⟨q1, q2⟩ := wfo_inj (n := n) (m := m) (fun i hi => h1 i (Nat.lt_succ_of_lt hi)) (fun i hi => h2 i (Nat.lt_succ_of_lt hi)) (by first | decide | with_reducible assumption | omega)
    subst q1
    refine ⟨rfl, fun i hi => ?_⟩
    by_cases z : i = n
    · subst z
      exact Int32.toInt_inj.mp e1
    · exact q2 i (by first | decide | with_reducible assumption | omega)
theorem wIs_iff {W : List Int32} : wIs T L s W = true ↔ tkk T L s = 1 ∧ tke T L s = s + W.length ∧ ∀ i, i < W.length → T (s + i) = W.getD i 0 := by
  unfold wIs
  rw [Bool.and_eq_true, Bool.and_eq_true, decide_eq_true_iff, decide_eq_true_iff, List.all_eq_true]
  constructor
  · rintro ⟨h1, h2, h3⟩
    exact ⟨h1, h2, fun i hi => of_decide_eq_true (h3 i (List.mem_range.mpr hi))⟩
  · rintro ⟨h1, h2, h3⟩
    exact ⟨h1, h2, fun i hi => decide_eq_true (h3 i (List.mem_range.mp hi))⟩
/-- a word is the word whose number it has -/
theorem wIs_num {W : List Int32} (h : tkk T L s = 1) (hW : ∀ i, i < W.length → ltb (W.getD i 0) = true) (h12 : W.length ≤ 12) : wIs T L s W = true ↔ wnm T s (tke T L s - s) = wfo (fun i => W.getD i 0) 0 W.length := by
  obtain ⟨hs, ha⟩ := tok1_all h
  have he := tke_le (T := T) (Nat.le_of_lt hs)
  have hA : ∀ i, i < tke T L s - s → ltb (T (s + i)) = true := fun i hi => ha _ (by first | decide | with_reducible assumption | omega) (by first | decide | with_reducible assumption | omega)
  have hB : ∀ i, i < W.length → ltb ((fun i => W.getD i 0) (0 + i)) = true := fun i hi => by
    show ltb (W.getD (0 + i) 0) = true
    rw [Nat.zero_add]
    exact hW i hi
  rw [wIs_iff]
  constructor
  · rintro ⟨-, h2, h3⟩
    have e : tke T L s - s = W.length := by omega
    rw [e]
    unfold wnm
    rw [if_pos h12]
    have : ∀ n, n ≤ W.length → wfo T s n = wfo (fun i => W.getD i 0) 0 n := by
      intro n
      induction n with
      | zero => intro _; rfl
      | succ n ih =>
        intro hn
        show 27 * wfo T s n + ((T (s + n)).toInt - 96) = 27 * wfo (fun i => W.getD i 0) 0 n + ((W.getD (0 + n) 0).toInt - 96)
        rw [ih (by first | decide | with_reducible assumption | omega), h3 n (by first | decide | with_reducible assumption | omega), Nat.zero_add]
    exact this _ (Nat.le_refl _)
  · intro e
    unfold wnm at e
    split at e
    · obtain ⟨q1, q2⟩ := wfo_inj (T := T) (s := s) (T' := fun i => W.getD i 0) (s' := 0) (n := tke T L s - s) (m := W.length) hA hB e
      refine ⟨h, by omega, fun i hi => ?_⟩
      have := q2 i (by first | decide | with_reducible assumption | omega)
      rw [Nat.zero_add] at this
      exact this
    · have := wfo_ge (T := fun i => W.getD i 0) (s := 0) hB
      omega
end TOK2
end
section
/-! the class's tokens (wants t40, t25, t29's obj lemmas, E_bal) -/
noncomputable def TA (T : Nat → Int32) (L : Nat) (h : pm_H) : Prop := HH h ∧ gi h 1 1 = nJ L ∧ L ≤ 500 ∧ ∀ j, j < L → gi h 2 j = T j
theorem gi_ptn {h : pm_H} {a k v : Nat} {lo hi : Int} (hh : HH h) (hb : bd a k = some (lo, hi)) (hv : v < 2147483648) (h1 : lo ≤ (v : Int)) (h2 : (v : Int) ≤ hi) : gi (pt h a k (nJ v)) a k = nJ v := gi_pt hh hb (by rw [nJ_toInt hv]; exact h1) (by rw [nJ_toInt hv]; exact h2)
theorem TA_pt {T : Nat → Int32} {L a k : Nat} {v : Int32} {h : pm_H} (A : TA T L h) (ha : 3 ≤ a) (hh : HH (pt h a k v)) : TA T L (pt h a k v) := ⟨hh, by rw [gi_ne (by first | exact gxx rfl | omega)]; exact A.2.1, A.2.2.1, fun j hj => by rw [gi_ne (by first | exact gxx rfl | omega)]; exact A.2.2.2 j hj⟩
theorem TA_fr {T : Nat → Int32} {L : Nat} {M : List Rng} {h h' : pm_H} (hf : fr_g M h h') (h1 : M.all (fun r => !(Nat.beq r.1 1)) = true) (h2 : M.all (fun r => !(Nat.beq r.1 2)) = true) (hh : HH h') (A : TA T L h) : TA T L h' := ⟨hh, by rw [fr_gi hf (rg_no h1 _)]; exact A.2.1, A.2.2.1, fun j hj => by rw [fr_gi hf (rg_no h2 _)]; exact A.2.2.2 j hj⟩
section CTK
variable {look : Nat → Option pm_I} {call : pm_Call} {Q : pm_H → Option Value → Prop} {pc n1 n2 n3 n4 n5 n6 i f : Nat} {lv : List (Nat × Value)} {st : List Value} {h : pm_H} {z : Nat × Nat} {T : Nat → Int32} {L : Nat}
theorem E_rlen (h1 : look pc = some (.inl (s_al 0 n1))) (h2 : look n1 = some (.inl (s_getf 2 3 n2))) (h3 : look n2 = some (.inl (s_getf 6 1 n3))) (L0 : pm_get lv 0 = some (.ref 3)) (A : TA T L h) (k : Ends look call (n3, lv, .int (nJ L) :: st, h, z) Q) : Ends look call (pc, lv, st, h, z) Q :=
  E_al h1 L0 (E_ogr (q := 1) h2 A.1 rfl rfl (E_ogf (q := (0, 500)) h3 A.1 rfl rfl A.2.1 k))
theorem E_rbyt (h1 : look pc = some (.inl (s_al 0 n1))) (h2 : look n1 = some (.inl (s_getf 2 3 n2))) (h3 : look n2 = some (.inl (s_getf 6 0 n3))) (h4 : look n3 = some (.inl (s_al 0 n4))) (h5 : look n4 = some (.inl (s_getf 2 f n5))) (h6 : look n5 = some (.inl (s_bald n6))) (L0 : pm_get lv 0 = some (.ref 3)) (A : TA T L h) (hb : bd 3 f = some (0, 500)) (e : gi h 3 f = nJ i) (hi : i < L) (k : Ends look call (n6, lv, .int (T i) :: st, h, z) Q) : Ends look call (pc, lv, st, h, z) Q := by
  have h5' := A.2.2.1
  refine E_al h1 L0 ?_
  refine E_ogr (q := 1) h2 A.1 rfl rfl ?_
  refine E_ogr (q := 2) h3 A.1 rfl rfl ?_
  refine E_al h4 L0 ?_
  refine E_ogf h5 A.1 rfl hb e ?_
  refine E_bal (a := 2) (len := 500) h6 A.1 rfl (by first | decide | with_reducible assumption | omega) (by decide) ?_
  rw [A.2.2.2 i hi]
  exact k
theorem E_rinc (h1 : look pc = some (.inl (s_al 0 n1))) (h2 : look n1 = some (.inl (s_dup n2))) (h3 : look n2 = some (.inl (s_getf 2 7 n3))) (h4 : look n3 = some (.inl (s_const (.int 1) n4))) (h5 : look n4 = some (.inl (s_bin (fun x y => x + y) n5))) (h6 : look n5 = some (.inl (s_putf 2 7 .int n6))) (L0 : pm_get lv 0 = some (.ref 3)) (hh : HH h) (e : gi h 3 7 = nJ i) (k : Ends look call (n6, lv, st, pt h 3 7 (nJ (i + 1)), z) Q) : Ends look call (pc, lv, st, h, z) Q :=
  E_al h1 L0 (E_dup h2 rfl (E_ogf (q := (0, 500)) h3 hh rfl rfl e (E_ci 1 h4 (by decide) (E_bin h5 (nJ_add i 1) (E_opf (q := (0, 500)) h6 hh rfl rfl k)))))
end CTK
section CLS
variable {h : pm_H} {d : Nat} {b : Int32}
theorem ltb_lo (b1 : b < 97) : ltb b = false := by unfold ltb; rw [decide_eq_true b1]; rfl
theorem ltb_hi (b2 : 122 < b) : ltb b = false := by unfold ltb; rw [decide_eq_true b2]; exact Bool.and_false _
theorem ltb_in (b1 : ¬ b < 97) (b2 : ¬ 122 < b) : ltb b = true := by unfold ltb; rw [decide_eq_false b1, decide_eq_false b2]; rfl
theorem dgb_lo (b1 : b < 48) : dgb b = false := by unfold dgb; rw [decide_eq_true b1]; rfl
theorem dgb_hi (b2 : 57 < b) : dgb b = false := by unfold dgb; rw [decide_eq_true b2]; exact Bool.and_false _
theorem dgb_in (b1 : ¬ b < 48) (b2 : ¬ 57 < b) : dgb b = true := by unfold dgb; rw [decide_eq_false b1, decide_eq_false b2]; rfl
theorem zb_no {p : Bool} (e : p = false) : zb (p = true) = nJ 0 := zb_F (by rw [e]; decide)
theorem sp_isLetter : Sp (d + 1) 28 h [.int b] (fun h' r => h' = h ∧ r = some (.int (zb (ltb b = true)))) := by
  refine Sp_of aiX2_isLetter rfl rfl rfl ?_
  have L0 : pm_get (lv_args 0 [.int b]) 0 = some (.int b) := rfl
  generalize lv_args 0 [.int b] = lv at L0 ⊢
  refine E_il rfl L0 ?_
  refine E_c rfl ?_
  by_cases b1 : b < 97
  · refine E_icT rfl (decide_eq_true b1) ?_
    refine E_ci 0 rfl ci0 ?_
    exact E_rtz rfl (.inl rfl) ⟨rfl, by rw [zb_no (ltb_lo b1)]⟩
  refine E_icF rfl (decide_eq_false b1) ?_
  refine E_il rfl L0 ?_
  refine E_c rfl ?_
  by_cases b2 : 122 < b
  · refine E_icT rfl (decide_eq_true b2) ?_
    refine E_ci 0 rfl ci0 ?_
    exact E_rtz rfl (.inl rfl) ⟨rfl, by rw [zb_no (ltb_hi b2)]⟩
  refine E_icF rfl (decide_eq_false b2) ?_
  refine E_ci 1 rfl ci1 ?_
  refine E_goto rfl ?_
  exact E_rtz rfl (.inr rfl) ⟨rfl, by rw [zb_T (ltb_in b1 b2)]⟩
theorem sp_isDigit : Sp (d + 1) 27 h [.int b] (fun h' r => h' = h ∧ r = some (.int (zb (dgb b = true)))) := by
  refine Sp_of aiX2_isDigit rfl rfl rfl ?_
  have L0 : pm_get (lv_args 0 [.int b]) 0 = some (.int b) := rfl
  generalize lv_args 0 [.int b] = lv at L0 ⊢
  refine E_il rfl L0 ?_
  refine E_c rfl ?_
  by_cases b1 : b < 48
  · refine E_icT rfl (decide_eq_true b1) ?_
    refine E_ci 0 rfl ci0 ?_
    exact E_rtz rfl (.inl rfl) ⟨rfl, by rw [zb_no (dgb_lo b1)]⟩
  refine E_icF rfl (decide_eq_false b1) ?_
  refine E_il rfl L0 ?_
  refine E_c rfl ?_
  by_cases b2 : 57 < b
  · refine E_icT rfl (decide_eq_true b2) ?_
    refine E_ci 0 rfl ci0 ?_
    exact E_rtz rfl (.inl rfl) ⟨rfl, by rw [zb_no (dgb_hi b2)]⟩
  refine E_icF rfl (decide_eq_false b2) ?_
  refine E_ci 1 rfl ci1 ?_
  refine E_goto rfl ?_
  exact E_rtz rfl (.inr rfl) ⟨rfl, by rw [zb_T (dgb_in b1 b2)]⟩
end CLS
/-- the token that the class's reader is at -/
noncomputable def CT (T : Nat → Int32) (L s : Nat) (h : pm_H) : Prop := gi h 3 6 = nJ s ∧ gi h 3 7 = nJ (tke T L s) ∧ gi h 3 5 = nJ (tkk T L s) ∧ (tkk T L s = 2 → ∃ v, v ≤ 9999 ∧ gi h 3 8 = nJ v ∧ Vr v (tkv T L s))
theorem Vr_c1 {v c d : Nat} (h : Vr v c) (hv : v < 1000) : Vr (10 * v + d) (min 1000 (10 * c + d)) := by
  unfold Vr at *
  omega
theorem Vr_c2 {v c d : Nat} (h : Vr v c) (hv : 1000 ≤ v) : Vr v (min 1000 (10 * c + d)) := by
  unfold Vr at *
  omega
theorem Vr_c3 {v c d : Nat} (h : Vr v c) : Vr (10 * v + d) (min 1000 (10 * c + d)) := by
  unfold Vr at *
  omega
section CTL
variable {T : Nat → Int32} {L d : Nat}
theorem rdl_loop (j : Nat) : ∀ {h : pm_H} {i : Nat} (lv : List (Nat × Value)), i + j = L → TA T L h → gi h 3 7 = nJ i → pm_get lv 0 = some (.ref 3) → Ends (pm_at tX2_readLetters) (pm_Rt pm_P (d + 1)) (5, lv, [], h, 0, 0) (fun h' r => r = none ∧ HH h' ∧ fr_g [(3, 7, 7)] h h' ∧ gi h' 3 7 = nJ (up (fun j => ltb (T j)) L i)) := by
  induction j with
  | zero =>
    intro h i lv hj A g L0
    have h5 := A.2.2.1
    refine E_al rfl L0 ?_
    refine E_ogf (q := (0, 500)) rfl A.1 rfl rfl g ?_
    refine E_rlen rfl rfl rfl L0 A ?_
    refine E_icT rfl (decide_eq_true ((nJ_le (by first | decide | with_reducible assumption | omega) (by first | decide | with_reducible assumption | omega)).mpr (by first | decide | with_reducible assumption | omega))) ?_
    rw [up_no (L := L) (i := i) (fun q => absurd q.1 (by first | decide | with_reducible assumption | omega))]
    exact E_ret rfl ⟨rfl, A.1, fr_rf _ _, g⟩
  | succ j ih =>
    intro h i lv hj A g L0
    have h5 := A.2.2.1
    refine E_al rfl L0 ?_
    refine E_ogf (q := (0, 500)) rfl A.1 rfl rfl g ?_
    refine E_rlen rfl rfl rfl L0 A ?_
    refine E_icF rfl (decide_eq_false (fun q => absurd ((nJ_le (by first | decide | with_reducible assumption | omega) (by first | decide | with_reducible assumption | omega)).mp q) (by first | decide | with_reducible assumption | omega))) ?_
    refine E_rbyt rfl rfl rfl rfl rfl rfl L0 A rfl g (by first | decide | with_reducible assumption | omega) ?_
    refine E_call rfl (sp_isLetter (d := d)) (chkS rfl (by show 0 ≤ 8; decide)) (fun h1 r1 => ?_)
    rintro ⟨e1, f1⟩
    rw [e1, f1]
    by_cases b : ltb (T i) = true
    · refine E_ifF rfl (by rw [zb_T b]; rfl) ?_
      refine E_rinc rfl rfl rfl rfl rfl rfl L0 A.1 g ?_
      refine E_goto rfl ?_
      have hh1 : HH (pt h 3 7 (nJ (i + 1))) := HH_ptn A.1 rfl (by first | decide | with_reducible assumption | omega) (by first | decide | with_reducible assumption | omega) (by first | decide | with_reducible assumption | omega)
      refine Ends_mono ?_ (ih lv (i := i + 1) (by first | decide | with_reducible assumption | omega) (TA_pt A (by first | decide | with_reducible assumption | omega) hh1) (gi_ptn A.1 rfl (by first | decide | with_reducible assumption | omega) (by first | decide | with_reducible assumption | omega) (by first | decide | with_reducible assumption | omega)) L0)
      rintro h' r ⟨q1, q2, q3, q4⟩
      refine ⟨q1, q2, fr_trans (fr_ptr (l := 7) (u := 7) rfl (by first | decide | with_reducible assumption | omega) (by first | decide | with_reducible assumption | omega) (fr_rf _ _)) q3, ?_⟩
      rw [up_go (p := fun j => ltb (T j)) (by first | decide | with_reducible assumption | omega) b]
      exact q4
    · refine E_ifT rfl (by rw [zb_F b]; rfl) ?_
      rw [up_no (L := L) (i := i) (fun q => b q.2)]
      exact E_ret rfl ⟨rfl, A.1, fr_rf _ _, g⟩
theorem sp_readLetters {h : pm_H} {i : Nat} (A : TA T L h) (hi : i ≤ L) (g : gi h 3 7 = nJ i) : Sp (d + 2) 34 h [.ref 3] (fun h' r => r = none ∧ HH h' ∧ fr_g [(3, 5, 5), (3, 7, 7)] h h' ∧ gi h' 3 5 = nJ 1 ∧ gi h' 3 7 = nJ (up (fun j => ltb (T j)) L i)) := by
  refine Sp_of aiX2_readLetters rfl rfl rfl ?_
  have L0 : pm_get (lv_args 0 [.ref 3]) 0 = some (.ref 3) := rfl
  generalize lv_args 0 [.ref 3] = lv at L0 ⊢
  refine E_al rfl L0 ?_
  refine E_ci 1 rfl ci1 ?_
  refine E_opf (q := (0, 4)) rfl A.1 rfl rfl ?_
  have hh1 : HH (pt h 3 5 (nJ 1)) := HH_ptn A.1 rfl (by first | decide | with_reducible assumption | omega) (by first | decide | with_reducible assumption | omega) (by first | decide | with_reducible assumption | omega)
  refine Ends_mono ?_ (rdl_loop (d := d) (L - i) lv (i := i) (by first | decide | with_reducible assumption | omega) (TA_pt A (by first | decide | with_reducible assumption | omega) hh1) (by rw [gi_ne (by first | exact gxx rfl | omega)]; exact g) L0)
  rintro h' r ⟨q1, q2, q3, q4⟩
  refine ⟨q1, q2, fr_trans (fr_ptr (l := 5) (u := 5) rfl (by first | decide | with_reducible assumption | omega) (by first | decide | with_reducible assumption | omega) (fr_rf _ _)) (fr_wk rfl q3), ?_, q4⟩
  rw [fr_gi q3 rfl]
  exact gi_ptn A.1 rfl (by first | decide | with_reducible assumption | omega) (by first | decide | with_reducible assumption | omega) (by first | decide | with_reducible assumption | omega)
theorem rdd_loop {s : Nat} (j : Nat) : ∀ {h : pm_H} {i m v : Nat} (lv : List (Nat × Value)), i + j = L → s + m = i → TA T L h → gi h 3 7 = nJ i → gi h 3 8 = nJ v → v ≤ 9999 → Vr v (vfo T s m) → pm_get lv 0 = some (.ref 3) → Ends (pm_at tX2_readDigits) (pm_Rt pm_P (d + 1)) (10, lv, [], h, 0, 0) (fun h' r => r = none ∧ HH h' ∧ fr_g [(3, 7, 8)] h h' ∧ gi h' 3 7 = nJ (up (fun j => dgb (T j)) L i) ∧ ∃ v, v ≤ 9999 ∧ gi h' 3 8 = nJ v ∧ Vr v (vfo T s (up (fun j => dgb (T j)) L i - s))) := by
  induction j with
  | zero =>
    intro h i m v lv hj hm A g g8 hv hV L0
    have h5 := A.2.2.1
    refine E_al rfl L0 ?_
    refine E_ogf (q := (0, 500)) rfl A.1 rfl rfl g ?_
    refine E_rlen rfl rfl rfl L0 A ?_
    refine E_icT rfl (decide_eq_true ((nJ_le (by first | decide | with_reducible assumption | omega) (by first | decide | with_reducible assumption | omega)).mpr (by first | decide | with_reducible assumption | omega))) ?_
    rw [up_no (L := L) (i := i) (fun q => absurd q.1 (by first | decide | with_reducible assumption | omega)), show i - s = m by omega]
    exact E_ret rfl ⟨rfl, A.1, fr_rf _ _, g, v, hv, g8, hV⟩
  | succ j ih =>
    intro h i m v lv hj hm A g g8 hv hV L0
    have h5 := A.2.2.1
    refine E_al rfl L0 ?_
    refine E_ogf (q := (0, 500)) rfl A.1 rfl rfl g ?_
    refine E_rlen rfl rfl rfl L0 A ?_
    refine E_icF rfl (decide_eq_false (fun q => absurd ((nJ_le (by first | decide | with_reducible assumption | omega) (by first | decide | with_reducible assumption | omega)).mp q) (by first | decide | with_reducible assumption | omega))) ?_
    refine E_rbyt rfl rfl rfl rfl rfl rfl L0 A rfl g (by first | decide | with_reducible assumption | omega) ?_
    refine E_call rfl (sp_isDigit (d := d)) (chkS rfl (by show 0 ≤ 8; decide)) (fun h1 r1 => ?_)
    rintro ⟨e1, f1⟩
    rw [e1, f1]
    by_cases b : dgb (T i) = true
    · have hd := dgb_iff.mp b
      refine E_ifF rfl (by rw [zb_T b]; rfl) ?_
      have vs : vfo T s (m + 1) = min 1000 (10 * vfo T s m + ((T i).toInt.toNat - 48)) := by rw [← hm]; rfl
      have eT : T i = nJ (T i).toInt.toNat := nJ_of (by first | decide | with_reducible assumption | omega)
      rw [up_go (p := fun j => dgb (T j)) (by first | decide | with_reducible assumption | omega) b]
      refine E_al rfl L0 ?_
      refine E_ogf rfl A.1 rfl rfl g8 ?_
      refine E_ci 1000 rfl ci1000 ?_
      by_cases b2 : 1000 ≤ v
      · refine E_icT rfl (decide_eq_true ((nJ_le (by first | decide | with_reducible assumption | omega) (by first | decide | with_reducible assumption | omega)).mpr b2)) ?_
        refine E_rinc rfl rfl rfl rfl rfl rfl L0 A.1 g ?_
        refine E_goto rfl ?_
        have hh1 : HH (pt h 3 7 (nJ (i + 1))) := HH_ptn A.1 rfl (by first | decide | with_reducible assumption | omega) (by first | decide | with_reducible assumption | omega) (by first | decide | with_reducible assumption | omega)
        refine Ends_mono ?_ (ih lv (i := i + 1) (m := m + 1) (by first | decide | with_reducible assumption | omega) (by first | decide | with_reducible assumption | omega) (TA_pt A (by first | decide | with_reducible assumption | omega) hh1) (gi_ptn A.1 rfl (by first | decide | with_reducible assumption | omega) (by first | decide | with_reducible assumption | omega) (by first | decide | with_reducible assumption | omega)) (by rw [gi_ne (by first | exact gxx rfl | omega)]; exact g8) hv (by rw [vs]; exact Vr_c2 hV b2) L0)
        rintro h' r ⟨q1, q2, q3, q4⟩
        exact ⟨q1, q2, fr_trans (fr_ptr (l := 7) (u := 8) rfl (by first | decide | with_reducible assumption | omega) (by first | decide | with_reducible assumption | omega) (fr_rf _ _)) q3, q4⟩
      · refine E_icF rfl (decide_eq_false (fun q => b2 ((nJ_le (by first | decide | with_reducible assumption | omega) (by first | decide | with_reducible assumption | omega)).mp q))) ?_
        refine E_al rfl L0 ?_
        refine E_ci 10 rfl ci10 ?_
        refine E_al rfl L0 ?_
        refine E_ogf rfl A.1 rfl rfl g8 ?_
        refine E_bin rfl (nJ_mul _ _) ?_
        refine E_rbyt rfl rfl rfl rfl rfl rfl L0 A rfl g (by first | decide | with_reducible assumption | omega) ?_
        refine E_bin (v := nJ (10 * v + (T i).toInt.toNat)) rfl (by rw [← nJ_add, ← eT]) ?_
        refine E_ci 48 rfl ci48 ?_
        refine E_bin rfl (nJ_sub (by first | decide | with_reducible assumption | omega)) ?_
        refine E_opf rfl A.1 rfl rfl ?_
        have ev : 10 * v + (T i).toInt.toNat - 48 = 10 * v + ((T i).toInt.toNat - 48) := by omega
        rw [ev]
        have hh0 : HH (pt h 3 8 (nJ (10 * v + ((T i).toInt.toNat - 48)))) := HH_ptn A.1 rfl (by first | decide | with_reducible assumption | omega) (by first | decide | with_reducible assumption | omega) (by first | decide | with_reducible assumption | omega)
        have A0 := TA_pt A (by first | decide | with_reducible assumption | omega) hh0
        have g0 : gi (pt h 3 8 (nJ (10 * v + ((T i).toInt.toNat - 48)))) 3 7 = nJ i := by rw [gi_ne (by first | exact gxx rfl | omega)]; exact g
        refine E_rinc rfl rfl rfl rfl rfl rfl L0 hh0 g0 ?_
        refine E_goto rfl ?_
        have hh1 : HH (pt (pt h 3 8 (nJ (10 * v + ((T i).toInt.toNat - 48)))) 3 7 (nJ (i + 1))) := HH_ptn hh0 rfl (by first | decide | with_reducible assumption | omega) (by first | decide | with_reducible assumption | omega) (by first | decide | with_reducible assumption | omega)
        refine Ends_mono ?_ (ih lv (i := i + 1) (m := m + 1) (v := 10 * v + ((T i).toInt.toNat - 48)) (by first | decide | with_reducible assumption | omega) (by first | decide | with_reducible assumption | omega) (TA_pt A0 (by first | decide | with_reducible assumption | omega) hh1) (gi_ptn hh0 rfl (by first | decide | with_reducible assumption | omega) (by first | decide | with_reducible assumption | omega) (by first | decide | with_reducible assumption | omega)) (by rw [gi_ne (by first | exact gxx rfl | omega)]; exact gi_ptn A.1 rfl (by first | decide | with_reducible assumption | omega) (by first | decide | with_reducible assumption | omega) (by first | decide | with_reducible assumption | omega)) (by first | decide | with_reducible assumption | omega) (by rw [vs]; exact Vr_c1 hV (by first | decide | with_reducible assumption | omega)) L0)
        rintro h' r ⟨q1, q2, q3, q4⟩
        exact ⟨q1, q2, fr_trans (fr_ptr (l := 7) (u := 8) rfl (by first | decide | with_reducible assumption | omega) (by first | decide | with_reducible assumption | omega) (fr_ptr (l := 7) (u := 8) rfl (by first | decide | with_reducible assumption | omega) (by first | decide | with_reducible assumption | omega) (fr_rf _ _))) q3, q4⟩
    · refine E_ifT rfl (by rw [zb_F b]; rfl) ?_
      rw [up_no (L := L) (i := i) (fun q => b q.2), show i - s = m by omega]
      exact E_ret rfl ⟨rfl, A.1, fr_rf _ _, g, v, hv, g8, hV⟩
theorem sp_readDigits {h : pm_H} {i : Nat} (A : TA T L h) (hi : i ≤ L) (g : gi h 3 7 = nJ i) : Sp (d + 2) 31 h [.ref 3] (fun h' r => r = none ∧ HH h' ∧ fr_g [(3, 5, 5), (3, 7, 8)] h h' ∧ gi h' 3 5 = nJ 2 ∧ gi h' 3 7 = nJ (up (fun j => dgb (T j)) L i) ∧ ∃ v, v ≤ 9999 ∧ gi h' 3 8 = nJ v ∧ Vr v (vfo T i (up (fun j => dgb (T j)) L i - i))) := by
  refine Sp_of aiX2_readDigits rfl rfl rfl ?_
  have L0 : pm_get (lv_args 0 [.ref 3]) 0 = some (.ref 3) := rfl
  generalize lv_args 0 [.ref 3] = lv at L0 ⊢
  refine E_al rfl L0 ?_
  refine E_ci 2 rfl ci2 ?_
  refine E_opf (q := (0, 4)) rfl A.1 rfl rfl ?_
  have hh1 : HH (pt h 3 5 (nJ 2)) := HH_ptn A.1 rfl (by first | decide | with_reducible assumption | omega) (by first | decide | with_reducible assumption | omega) (by first | decide | with_reducible assumption | omega)
  have A1 := TA_pt A (by first | decide | with_reducible assumption | omega) hh1
  refine E_al rfl L0 ?_
  refine E_ci 0 rfl ci0 ?_
  refine E_opf rfl hh1 rfl rfl ?_
  have hh2 : HH (pt (pt h 3 5 (nJ 2)) 3 8 (nJ 0)) := HH_ptn hh1 rfl (by first | decide | with_reducible assumption | omega) (by first | decide | with_reducible assumption | omega) (by first | decide | with_reducible assumption | omega)
  refine Ends_mono ?_ (rdd_loop (d := d) (s := i) (L - i) lv (i := i) (m := 0) (v := 0) (by first | decide | with_reducible assumption | omega) (by first | decide | with_reducible assumption | omega) (TA_pt A1 (by first | decide | with_reducible assumption | omega) hh2) (by rw [gi_ne (by first | exact gxx rfl | omega), gi_ne (by first | exact gxx rfl | omega)]; exact g) (gi_ptn hh1 rfl (by first | decide | with_reducible assumption | omega) (by first | decide | with_reducible assumption | omega) (by first | decide | with_reducible assumption | omega)) (by first | decide | with_reducible assumption | omega) (.inl ⟨rfl, by show (0 : Nat) < 1000; omega⟩) L0)
  rintro h' r ⟨q1, q2, q3, q4, q5⟩
  refine ⟨q1, q2, fr_trans (fr_ptr (l := 7) (u := 8) rfl (by first | decide | with_reducible assumption | omega) (by first | decide | with_reducible assumption | omega) (fr_ptr (l := 5) (u := 5) rfl (by first | decide | with_reducible assumption | omega) (by first | decide | with_reducible assumption | omega) (fr_rf _ _))) (fr_wk rfl q3), ?_, q4, q5⟩
  rw [fr_gi q3 rfl, gi_ne (by first | exact gxx rfl | omega)]
  exact gi_ptn A.1 rfl (by first | decide | with_reducible assumption | omega) (by first | decide | with_reducible assumption | omega) (by first | decide | with_reducible assumption | omega)
theorem rdt_tail {h : pm_H} {i : Nat} (lv : List (Nat × Value)) (A : TA T L h) (hi : i ≤ L) (g : gi h 3 7 = nJ i) (L0 : pm_get lv 0 = some (.ref 3)) : Ends (pm_at tX2_readToken) (pm_Rt pm_P (d + 2)) (61, lv, [], h, 0, 0) (fun h' r => r = none ∧ HH h' ∧ fr_g [(3, 5, 8)] h h' ∧ CT T L i h') := by
  have h5 := A.2.2.1
  refine E_al rfl L0 ?_
  refine E_al rfl L0 ?_
  refine E_ogf (q := (0, 500)) rfl A.1 rfl rfl g ?_
  refine E_opf (q := (0, 500)) rfl A.1 rfl rfl ?_
  have hh1 : HH (pt h 3 6 (nJ i)) := HH_ptn A.1 rfl (by first | decide | with_reducible assumption | omega) (by first | decide | with_reducible assumption | omega) (by first | decide | with_reducible assumption | omega)
  have A1 := TA_pt A (by first | decide | with_reducible assumption | omega) hh1
  have g6 : gi (pt h 3 6 (nJ i)) 3 6 = nJ i := gi_ptn A.1 rfl (by first | decide | with_reducible assumption | omega) (by first | decide | with_reducible assumption | omega) (by first | decide | with_reducible assumption | omega)
  have g7 : gi (pt h 3 6 (nJ i)) 3 7 = nJ i := by rw [gi_ne (by first | exact gxx rfl | omega)]; exact g
  have f1 : fr_g [(3, 5, 8)] h (pt h 3 6 (nJ i)) := fr_ptr (l := 5) (u := 8) rfl (by first | decide | with_reducible assumption | omega) (by first | decide | with_reducible assumption | omega) (fr_rf _ _)
  generalize pt h 3 6 (nJ i) = h1 at hh1 A1 g6 g7 f1 ⊢
  refine E_al rfl L0 ?_
  refine E_ogf (q := (0, 500)) rfl hh1 rfl rfl g6 ?_
  refine E_rlen rfl rfl rfl L0 A1 ?_
  by_cases b0 : i < L
  · refine E_icT rfl (decide_eq_true ((nJ_lt (by first | decide | with_reducible assumption | omega) (by first | decide | with_reducible assumption | omega)).mpr b0)) ?_
    refine E_rbyt rfl rfl rfl rfl rfl rfl L0 A1 rfl g6 b0 ?_
    refine E_call rfl (sp_isLetter (d := d + 1)) (chkS rfl (by show 0 ≤ 8; decide)) (fun h2 r2 => ?_)
    rintro ⟨e2, f2⟩
    rw [e2, f2]
    by_cases b1 : ltb (T i) = true
    · refine E_ifF rfl (by rw [zb_T b1]; rfl) ?_
      refine E_al rfl L0 ?_
      refine E_call rfl (sp_readLetters (d := d) A1 hi g7) (chkO (a := 3) hh1 rfl rfl rfl rfl (by show 0 ≤ 8; decide)) (fun h3 r3 => ?_)
      rintro ⟨e3, q2, q3, q4, q5⟩
      rw [e3]
      refine E_goto rfl ?_
      have k := tk_1 (T := T) b0 b1
      refine E_ret rfl ⟨rfl, q2, fr_trans f1 (fr_wk rfl q3), ?_, ?_, ?_, fun q => absurd q (by rw [k.1]; omega)⟩
      · rw [fr_gi q3 rfl]; exact g6
      · rw [q5, k.2]
      · rw [q4, k.1]
    · have b1' : ltb (T i) = false := by cases hq : ltb (T i) with | false => rfl | true => exact absurd hq b1
      refine E_ifT rfl (by rw [zb_F b1]; rfl) ?_
      refine E_rbyt rfl rfl rfl rfl rfl rfl L0 A1 rfl g6 b0 ?_
      refine E_call rfl (sp_isDigit (d := d + 1)) (chkS rfl (by show 0 ≤ 8; decide)) (fun h3 r3 => ?_)
      rintro ⟨e3, f3⟩
      rw [e3, f3]
      by_cases b2 : dgb (T i) = true
      · refine E_ifF rfl (by rw [zb_T b2]; rfl) ?_
        refine E_al rfl L0 ?_
        refine E_call rfl (sp_readDigits (d := d) A1 hi g7) (chkO (a := 3) hh1 rfl rfl rfl rfl (by show 0 ≤ 8; decide)) (fun h4 r4 => ?_)
        rintro ⟨e4, q2, q3, q4, q5, q6⟩
        rw [e4]
        refine E_goto rfl ?_
        have k := tk_2 (T := T) b0 b1' b2
        refine E_ret rfl ⟨rfl, q2, fr_trans f1 (fr_wk rfl q3), ?_, ?_, ?_, fun _ => ?_⟩
        · rw [fr_gi q3 rfl]; exact g6
        · rw [q5, k.2]
        · rw [q4, k.1]
        · unfold tkv
          rw [k.2]
          exact q6
      · have b2' : dgb (T i) = false := by cases hq : dgb (T i) with | false => rfl | true => exact absurd hq b2
        refine E_ifT rfl (by rw [zb_F b2]; rfl) ?_
        refine E_al rfl L0 ?_
        refine E_rbyt rfl rfl rfl rfl rfl rfl L0 A1 rfl g6 b0 ?_
        refine E_ci 59 rfl ci59 ?_
        have fin : ∀ k, k ≤ 4 → tkk T L i = k → tke T L i = i + 1 → k ≠ 2 → Ends (pm_at tX2_readToken) (pm_Rt pm_P (d + 2)) (164, lv, [.int (nJ k), .ref 3], h1, 0, 0) (fun h' r => r = none ∧ HH h' ∧ fr_g [(3, 5, 8)] h h' ∧ CT T L i h') := by
          intro k hk k1 k2 k3
          refine E_opf (q := (0, 4)) rfl hh1 rfl rfl ?_
          have hh2 : HH (pt h1 3 5 (nJ k)) := HH_ptn hh1 rfl (by first | decide | with_reducible assumption | omega) (by first | decide | with_reducible assumption | omega) (by first | decide | with_reducible assumption | omega)
          have g72 : gi (pt h1 3 5 (nJ k)) 3 7 = nJ i := by rw [gi_ne (by first | exact gxx rfl | omega)]; exact g7
          refine E_rinc rfl rfl rfl rfl rfl rfl L0 hh2 g72 ?_
          have hh3 : HH (pt (pt h1 3 5 (nJ k)) 3 7 (nJ (i + 1))) := HH_ptn hh2 rfl (by first | decide | with_reducible assumption | omega) (by first | decide | with_reducible assumption | omega) (by first | decide | with_reducible assumption | omega)
          refine E_ret rfl ⟨rfl, hh3, fr_ptr (l := 5) (u := 8) rfl (by first | decide | with_reducible assumption | omega) (by first | decide | with_reducible assumption | omega) (fr_ptr (l := 5) (u := 8) rfl (by first | decide | with_reducible assumption | omega) (by first | decide | with_reducible assumption | omega) f1), ?_, ?_, ?_, fun q => absurd q (by first | decide | with_reducible assumption | omega)⟩
          · rw [gi_ne (by first | exact gxx rfl | omega), gi_ne (by first | exact gxx rfl | omega)]; exact g6
          · rw [k2]; exact gi_ptn hh2 rfl (by first | decide | with_reducible assumption | omega) (by first | decide | with_reducible assumption | omega) (by first | decide | with_reducible assumption | omega)
          · rw [k1, gi_ne (by first | exact gxx rfl | omega)]; exact gi_ptn hh1 rfl (by first | decide | with_reducible assumption | omega) (by first | decide | with_reducible assumption | omega) (by first | decide | with_reducible assumption | omega)
        have e59 : (59 : Int32) = nJ 59 := by decide
        by_cases b3 : T i = 59
        · refine E_icF rfl (decide_eq_false (fun q => q (b3.trans e59))) ?_
          refine E_ci 3 rfl ci3 ?_
          refine E_goto rfl ?_
          exact fin 3 (by first | decide | with_reducible assumption | omega) (tk_3 b0 b1' b2' b3).1 (tk_3 b0 b1' b2' b3).2 (by first | decide | with_reducible assumption | omega)
        · refine E_icT rfl (decide_eq_true (fun q => b3 (q.trans e59.symm))) ?_
          refine E_ci 4 rfl ci4 ?_
          exact fin 4 (by first | decide | with_reducible assumption | omega) (tk_4 b0 b1' b2' b3).1 (tk_4 b0 b1' b2' b3).2 (by first | decide | with_reducible assumption | omega)
  · refine E_icF rfl (decide_eq_false (fun q => b0 ((nJ_lt (by first | decide | with_reducible assumption | omega) (by first | decide | with_reducible assumption | omega)).mp q))) ?_
    refine E_al rfl L0 ?_
    refine E_ci 0 rfl ci0 ?_
    refine E_opf (q := (0, 4)) rfl hh1 rfl rfl ?_
    refine E_goto rfl ?_
    have k := tk_0 (T := T) b0
    have hh2 : HH (pt h1 3 5 (nJ 0)) := HH_ptn hh1 rfl (by first | decide | with_reducible assumption | omega) (by first | decide | with_reducible assumption | omega) (by first | decide | with_reducible assumption | omega)
    refine E_ret rfl ⟨rfl, hh2, fr_ptr (l := 5) (u := 8) rfl (by first | decide | with_reducible assumption | omega) (by first | decide | with_reducible assumption | omega) f1, ?_, ?_, ?_, fun q => absurd q (by rw [k.1]; omega)⟩
    · rw [gi_ne (by first | exact gxx rfl | omega)]; exact g6
    · rw [gi_ne (by first | exact gxx rfl | omega), k.2]; exact g7
    · rw [k.1]; exact gi_ptn hh1 rfl (by first | decide | with_reducible assumption | omega) (by first | decide | with_reducible assumption | omega) (by first | decide | with_reducible assumption | omega)
theorem rdt_loop (j : Nat) : ∀ {h : pm_H} {i : Nat} (lv : List (Nat × Value)), i + j = L → TA T L h → gi h 3 7 = nJ i → pm_get lv 0 = some (.ref 3) → Ends (pm_at tX2_readToken) (pm_Rt pm_P (d + 2)) (0, lv, [], h, 0, 0) (fun h' r => r = none ∧ HH h' ∧ fr_g [(3, 5, 8)] h h' ∧ CT T L (skp T L i) h') := by
  have e32 : (32 : Int32) = nJ 32 := by decide
  have e10 : (10 : Int32) = nJ 10 := by decide
  induction j with
  | zero =>
    intro h i lv hj A g L0
    have h5 := A.2.2.1
    unfold skp
    rw [up_no (L := L) (i := i) (fun q => absurd q.1 (by first | decide | with_reducible assumption | omega))]
    refine E_al rfl L0 ?_
    refine E_ogf (q := (0, 500)) rfl A.1 rfl rfl g ?_
    refine E_rlen rfl rfl rfl L0 A ?_
    refine E_icT rfl (decide_eq_true ((nJ_le (by first | decide | with_reducible assumption | omega) (by first | decide | with_reducible assumption | omega)).mpr (by first | decide | with_reducible assumption | omega))) ?_
    exact rdt_tail lv A (by first | decide | with_reducible assumption | omega) g L0
  | succ j ih =>
    intro h i lv hj A g L0
    have h5 := A.2.2.1
    have go : spb (T i) = true → Ends (pm_at tX2_readToken) (pm_Rt pm_P (d + 2)) (48, lv, [], h, 0, 0) (fun h' r => r = none ∧ HH h' ∧ fr_g [(3, 5, 8)] h h' ∧ CT T L (skp T L i) h') := by
      intro b
      refine E_rinc rfl rfl rfl rfl rfl rfl L0 A.1 g ?_
      refine E_goto rfl ?_
      have hh1 : HH (pt h 3 7 (nJ (i + 1))) := HH_ptn A.1 rfl (by first | decide | with_reducible assumption | omega) (by first | decide | with_reducible assumption | omega) (by first | decide | with_reducible assumption | omega)
      refine Ends_mono ?_ (ih lv (i := i + 1) (by first | decide | with_reducible assumption | omega) (TA_pt A (by first | decide | with_reducible assumption | omega) hh1) (gi_ptn A.1 rfl (by first | decide | with_reducible assumption | omega) (by first | decide | with_reducible assumption | omega) (by first | decide | with_reducible assumption | omega)) L0)
      rintro h' r ⟨q1, q2, q3, q4⟩
      refine ⟨q1, q2, fr_trans (fr_ptr (l := 5) (u := 8) rfl (by first | decide | with_reducible assumption | omega) (by first | decide | with_reducible assumption | omega) (fr_rf _ _)) q3, ?_⟩
      unfold skp
      rw [up_go (p := fun j => spb (T j)) (by first | decide | with_reducible assumption | omega) b]
      exact q4
    refine E_al rfl L0 ?_
    refine E_ogf (q := (0, 500)) rfl A.1 rfl rfl g ?_
    refine E_rlen rfl rfl rfl L0 A ?_
    refine E_icF rfl (decide_eq_false (fun q => absurd ((nJ_le (by first | decide | with_reducible assumption | omega) (by first | decide | with_reducible assumption | omega)).mp q) (by first | decide | with_reducible assumption | omega))) ?_
    refine E_rbyt rfl rfl rfl rfl rfl rfl L0 A rfl g (by first | decide | with_reducible assumption | omega) ?_
    refine E_ci 32 rfl ci32 ?_
    by_cases b1 : T i = 32
    · refine E_icT rfl (decide_eq_true (b1.trans e32)) ?_
      exact go (by unfold spb; rw [decide_eq_true b1]; rfl)
    refine E_icF rfl (decide_eq_false (fun q => b1 (q.trans e32.symm))) ?_
    refine E_rbyt rfl rfl rfl rfl rfl rfl L0 A rfl g (by first | decide | with_reducible assumption | omega) ?_
    refine E_ci 10 rfl ci10 ?_
    by_cases b2 : T i = 10
    · refine E_icF rfl (decide_eq_false (fun q => q (b2.trans e10))) ?_
      exact go (by unfold spb; rw [decide_eq_true b2]; exact Bool.or_true _)
    refine E_icT rfl (decide_eq_true (fun q => b2 (q.trans e10.symm))) ?_
    have e : skp T L i = i := by
      unfold skp
      exact up_no (fun q => by
        have q2 : spb (T i) = true := q.2
        unfold spb at q2
        rw [decide_eq_false b1, decide_eq_false b2] at q2
        cases q2)
    rw [e]
    exact rdt_tail lv A (by first | decide | with_reducible assumption | omega) g L0
theorem sp_readToken {h : pm_H} {i : Nat} (A : TA T L h) (hi : i ≤ L) (g : gi h 3 7 = nJ i) : Sp (d + 3) 37 h [.ref 3] (fun h' r => r = none ∧ HH h' ∧ fr_g [(3, 5, 8)] h h' ∧ CT T L (skp T L i) h') := by
  refine Sp_of aiX2_readToken rfl rfl rfl ?_
  have L0 : pm_get (lv_args 0 [.ref 3]) 0 = some (.ref 3) := rfl
  generalize lv_args 0 [.ref 3] = lv at L0 ⊢
  exact rdt_loop (d := d) (L - i) lv (i := i) (by first | decide | with_reducible assumption | omega) A g L0
end CTL
end
section
/-! the reference's tokens (wants t40, t41, 10.zte) -/
noncomputable def TB (T : Nat → Int32) (L : Nat) (h : pm_H) : Prop := HH h ∧ gi h 77 6 = nJ L ∧ L ≤ 500 ∧ ∀ j, j < L → gi h 82 j = T j
theorem TB_pt {T : Nat → Int32} {L k : Nat} {v : Int32} {h : pm_H} (A : TB T L h) (hk : k ≠ 6) (hh : HH (pt h 77 k v)) : TB T L (pt h 77 k v) := ⟨hh, by rw [gi_ne (by first | exact gxx rfl | omega)]; exact A.2.1, A.2.2.1, fun j hj => by rw [gi_ne (by first | exact gxx rfl | omega)]; exact A.2.2.2 j hj⟩
theorem TB_fr {T : Nat → Int32} {L : Nat} {M : List Rng} {h h' : pm_H} (hf : fr_g M h h') (h1 : rg_in M 77 6 = false) (h2 : M.all (fun r => !(Nat.beq r.1 82)) = true) (hh : HH h') (A : TB T L h) : TB T L h' := ⟨hh, by rw [fr_gi hf h1]; exact A.2.1, A.2.2.1, fun j hj => by rw [fr_gi hf (rg_no h2 _)]; exact A.2.2.2 j hj⟩
section RTK
variable {look : Nat → Option pm_I} {call : pm_Call} {Q : pm_H → Option Value → Prop} {pc n n1 n2 n3 n4 n5 n6 i k : Nat} {lv : List (Nat × Value)} {st : List Value} {h : pm_H} {z : Nat × Nat} {T : Nat → Int32} {L d : Nat}
theorem E_gfw (h1 : look pc = some (.inl (s_getf 9 k n))) (hh : HH h) (hk : lf77 k = true) (kk : Ends look call (n, lv, .long (gl h 77 k) :: st, h, z) Q) : Ends look call (pc, lv, .ref 77 :: st, h, z) Q := by
  obtain ⟨vs, x, hx, hv, -⟩ := ob77l hh hk
  have e : gl h 77 k = x := by
    unfold gl ld
    rw [hx]
    dsimp only
    rw [hv]
  rw [e] at kk
  refine E_st h1 ?_ kk
  simp only [s_getf, hx, hv]
  rfl
theorem E_pfw {y : Int64} (h1 : look pc = some (.inl (s_putf 9 k .long n))) (hh : HH h) (hk : lf77 k = true) (kk : ∀ h' : pm_H, HH h' → fr_g [(77, k, k)] h h' → gl h' 77 k = y → Ends look call (n, lv, st, h', z) Q) : Ends look call (pc, lv, .long y :: .ref 77 :: st, h, z) Q := by
  obtain ⟨vs, x, hx, hv, hs⟩ := ob77l hh hk
  have hl := (List.getElem?_eq_some_iff.mp hv).1
  have h4 : Nat.blt k vs.length = true := Nat.ble_eq_true_of_le hl
  refine E_st h1 ?_ (kk (h.set 77 (.inr (9, vs.set k (.long y)))) (hs y) (fun b j hbj => ld_setf hx (fun hb hj => ?_)) ?_)
  · simp only [s_putf, hx, h4]
    rfl
  · subst hb; subst hj
    rw [rg_in_one (Nat.le_refl _) (Nat.le_refl _) (List.mem_singleton_self _)] at hbj
    cases hbj
  · unfold gl ld
    rw [List.getElem?_set_self (List.getElem?_eq_some_iff.mp hx).1]
    dsimp only
    rw [List.getElem?_set_self hl]
theorem sp_isB {lo hi : Int32} (B : TB T L h) (hk : k ≤ L) : Sp (d + 1) 266 h [.ref 77, .int (nJ k), .int lo, .int hi] (fun h' r => h' = h ∧ r = some (.int (zb (k < L ∧ ¬ T k < lo ∧ ¬ hi < T k)))) := by
  have h5 := B.2.2.1
  have eL : gn h 77 6 = L := gn_of B.2.1 (by first | decide | with_reducible assumption | omega)
  refine Sp_mono ?_ (sp_isByte (d := d) (k := k) (lo := lo) (hi := hi) B.1 (by first | decide | with_reducible assumption | omega))
  rintro h' r ⟨e, q⟩
  refine ⟨e, ?_⟩
  have iff : PB h k lo hi ↔ (k < L ∧ ¬ T k < lo ∧ ¬ hi < T k) := by
    unfold PB
    rw [eL]
    constructor
    · rintro ⟨a, b⟩
      rw [B.2.2.2 k a] at b
      exact ⟨a, b⟩
    · rintro ⟨a, b⟩
      rw [B.2.2.2 k a]
      exact ⟨a, b⟩
  rcases q with ⟨q, rfl⟩ | ⟨q, rfl⟩
  · rw [zb_F (fun z => q (iff.mpr z))]
  · rw [zb_T (iff.mp q)]
theorem E_isB {lo hi : Int32} (h1 : look pc = some (.inl (s_al 0 n1))) (h2 : look n1 = some (.inl (s_al 0 n2))) (h3 : look n2 = some (.inl (s_getf 9 7 n3))) (h4 : look n3 = some (.inl (s_const (.int lo) n4))) (h5 : look n4 = some (.inl (s_const (.int hi) n5))) (h6 : look n5 = some (.inr (.inl (266, 4, some 9, 0, 0)))) (L0 : pm_get lv 0 = some (.ref 77)) (B : TB T L h) (hiL : i ≤ L) (g : gi h 77 7 = nJ i) (kk : Ends look (pm_Rt pm_P (d + 1)) (n5 + 3, lv, [.int (zb (i < L ∧ ¬ T i < lo ∧ ¬ hi < T i))], h, z) Q) : Ends look (pm_Rt pm_P (d + 1)) (pc, lv, [], h, z) Q := by
  refine E_al h1 L0 ?_
  refine E_al h2 L0 ?_
  refine E_gf (q := (0, 500)) h3 B.1 rfl g ?_
  refine E_c h4 ?_
  refine E_c h5 ?_
  refine E_call h6 (sp_isB B hiL) (chk77 B.1 rfl rfl (by show 0 ≤ 8; decide)) (fun h' r q => ?_)
  rw [q.1, q.2]
  exact kk
theorem E_sinc (h1 : look pc = some (.inl (s_al 0 n1))) (h2 : look n1 = some (.inl (s_dup n2))) (h3 : look n2 = some (.inl (s_getf 9 7 n3))) (h4 : look n3 = some (.inl (s_const (.int 1) n4))) (h5 : look n4 = some (.inl (s_bin (fun x y => x + y) n5))) (h6 : look n5 = some (.inl (s_putf 9 7 .int n6))) (L0 : pm_get lv 0 = some (.ref 77)) (hh : HH h) (e : gi h 77 7 = nJ i) (kk : Ends look call (n6, lv, st, pt h 77 7 (nJ (i + 1)), z) Q) : Ends look call (pc, lv, st, h, z) Q :=
  E_al h1 L0 (E_dup h2 rfl (E_gf (q := (0, 500)) h3 hh rfl e (E_ci 1 h4 (by decide) (E_bin h5 (nJ_add i 1) (E_pf (q := (0, 500)) h6 hh rfl kk)))))
/-- the byte at the spot -/
theorem E_sbyt (h2 : look pc = some (.inl (s_al 0 n1))) (h3 : look n1 = some (.inl (s_getf 9 5 n2))) (h4 : look n2 = some (.inl (s_al 0 n3))) (h5 : look n3 = some (.inl (s_getf 9 7 n4))) (h6 : look n4 = some (.inl (s_bald n5))) (L0 : pm_get lv 0 = some (.ref 77)) (B : TB T L h) (hi : i < L) (g : gi h 77 7 = nJ i) (kk : Ends look call (n5, lv, .int (T i) :: st, h, z) Q) : Ends look call (pc, lv, st, h, z) Q := by
  have h5' := B.2.2.1
  refine E_al h2 L0 ?_
  refine E_gr (q := 82) h3 B.1 rfl ?_
  refine E_al h4 L0 ?_
  refine E_gf (q := (0, 500)) h5 B.1 rfl g ?_
  refine E_bal (a := 82) (len := 500) h6 B.1 rfl (by first | decide | with_reducible assumption | omega) (by decide) ?_
  rw [B.2.2.2 i hi]
  exact kk
end RTK
theorem isb_lt {b : Int32} : (¬ b < 97 ∧ ¬ 122 < b) ↔ ltb b = true := by
  constructor
  · rintro ⟨a, c⟩
    exact ltb_in a c
  · intro q
    exact ⟨fun a => absurd q (by rw [ltb_lo a]; decide), fun a => absurd q (by rw [ltb_hi a]; decide)⟩
theorem isb_dg {b : Int32} : (¬ b < 48 ∧ ¬ 57 < b) ↔ dgb b = true := by
  constructor
  · rintro ⟨a, c⟩
    exact dgb_in a c
  · intro q
    exact ⟨fun a => absurd q (by rw [dgb_lo a]; decide), fun a => absurd q (by rw [dgb_hi a]; decide)⟩
theorem isb_eq {b c : Int32} : (¬ b < c ∧ ¬ c < b) ↔ b = c := by
  rw [Int32.lt_iff_toInt_lt, Int32.lt_iff_toInt_lt]
  constructor
  · intro q
    exact Int32.toInt_inj.mp (by first | decide | with_reducible assumption | omega)
  · intro q
    rw [q]
    omega
/-- the token that the reference is at -/
noncomputable def RT (T : Nat → Int32) (L s : Nat) (h : pm_H) : Prop := gi h 77 9 = nJ s ∧ gi h 77 7 = nJ (tke T L s) ∧ gi h 77 8 = nJ (tkk T L s) ∧ (tkk T L s = 2 → ∃ v, v ≤ 1000009 ∧ gi h 77 10 = nJ v ∧ Vr v (tkv T L s)) ∧ (tkk T L s = 1 → (gl h 77 11).toInt = wnm T s (tke T L s - s))
theorem Vr_r1 {v c d : Nat} (h : Vr v c) (hv : 1000 ≤ v) : Vr 1000000 (min 1000 (10 * c + d)) := by
  unfold Vr at *
  omega
theorem wfo_lt {T : Nat → Int32} {s n : Nat} (h : ∀ i, i < n → ltb (T (s + i)) = true) : wfo T s n < ((27 ^ n : Nat) : Int) := by
  induction n with
  | zero => show (0 : Int) < 1; decide
  | succ n ih =>
    have a := ih (fun i hi => h i (by first | decide | with_reducible assumption | omega))
    have b := ltb_iff.mp (h n (by first | decide | with_reducible assumption | omega))
    have e : ((27 ^ (n + 1) : Nat) : Int) = ((27 ^ n : Nat) : Int) * 27 := by rw [Nat.pow_succ, Int.natCast_mul]; rfl
    rw [e]
    show 27 * wfo T s n + ((T (s + n)).toInt - 96) < _
    omega
theorem i64_lin {w : Int64} {t : Int32} (h0 : 0 ≤ w.toInt) (h1 : w.toInt ≤ 10000000000000000) : ((27 * w + t.toInt64) - 96).toInt = 27 * w.toInt + (t.toInt - 96) := by
  have a := ai_lo t
  have b := ai_hi t
  have c27 : (27 : Int64).toInt = 27 := rfl
  have c96 : (96 : Int64).toInt = 96 := rfl
  have e1 : (27 * w).toInt = 27 * w.toInt := by
    rw [Int64.toInt_mul, c27]
    exact Int.bmod_eq_of_le (by first | decide | with_reducible assumption | omega) (by first | decide | with_reducible assumption | omega)
  have e2 : (27 * w + t.toInt64).toInt = 27 * w.toInt + t.toInt := by
    rw [Int64.toInt_add, e1, i2l_toInt]
    exact Int.bmod_eq_of_le (by first | decide | with_reducible assumption | omega) (by first | decide | with_reducible assumption | omega)
  rw [Int64.toInt_sub, e2, c96, Int.bmod_eq_of_le (by first | decide | with_reducible assumption | omega) (by first | decide | with_reducible assumption | omega)]
  omega
section RTL
variable {T : Nat → Int32} {L d : Nat}
theorem fw_let {s : Nat} (j : Nat) : ∀ {h : pm_H} {i n : Nat} (lv : List (Nat × Value)), i + j = L → s + n = i → TB T L h → gi h 77 7 = nJ i → (gl h 77 11).toInt = wnm T s n → (∀ m, m < n → ltb (T (s + m)) = true) → pm_get lv 0 = some (.ref 77) → pm_get lv 1 = some (.int (nJ n)) → Ends (pm_at tX9_follows) (pm_Rt pm_P (d + 1)) (102, lv, [], h, 0, 0) (fun h' r => r = none ∧ HH h' ∧ fr_g [(77, 7, 7), (77, 11, 11)] h h' ∧ gi h' 77 7 = nJ (up (fun j => ltb (T j)) L i) ∧ (gl h' 77 11).toInt = wnm T s (up (fun j => ltb (T j)) L i - s)) := by
  induction j with
  | zero =>
    intro h i n lv hj hn B g gw ha L0 L1
    have h5 := B.2.2.1
    refine E_isB rfl rfl rfl rfl rfl rfl L0 B (by first | decide | with_reducible assumption | omega) g ?_
    refine E_ifT rfl (by rw [zb_F (fun q => absurd q.1 (by first | decide | with_reducible assumption | omega))]; rfl) ?_
    refine E_goto rfl ?_
    rw [up_no (L := L) (i := i) (fun q => absurd q.1 (by first | decide | with_reducible assumption | omega)), show i - s = n by omega]
    exact E_ret rfl ⟨rfl, B.1, fr_rf _ _, g, gw⟩
  | succ j ih =>
    intro h i n lv hj hn B g gw ha L0 L1
    have h5 := B.2.2.1
    refine E_isB rfl rfl rfl rfl rfl rfl L0 B (by first | decide | with_reducible assumption | omega) g ?_
    by_cases b : ltb (T i) = true
    · refine E_ifF rfl (by rw [zb_T ⟨by omega, isb_lt.mpr b⟩]; rfl) ?_
      rw [up_go (p := fun j => ltb (T j)) (by first | decide | with_reducible assumption | omega) b]
      have e11 : (11 : Int32) = nJ 11 := by decide
      have ha' : ∀ m, m < n + 1 → ltb (T (s + m)) = true := fun m hm => by
        by_cases q : m = n
        · rw [q, hn]; exact b
        · exact ha m (by first | decide | with_reducible assumption | omega)
      have rest : ∀ {h1 : pm_H}, HH h1 → fr_g [(77, 11, 11)] h h1 → (gl h1 77 11).toInt = wnm T s (n + 1) → Ends (pm_at tX9_follows) (pm_Rt pm_P (d + 1)) (169, lv, [], h1, 0, 0) (fun h' r => r = none ∧ HH h' ∧ fr_g [(77, 7, 7), (77, 11, 11)] h h' ∧ gi h' 77 7 = nJ (up (fun j => ltb (T j)) L (i + 1)) ∧ (gl h' 77 11).toInt = wnm T s (up (fun j => ltb (T j)) L (i + 1) - s)) := by
        intro h1 hh1 f1 gw1
        have B1 := TB_fr f1 rfl rfl hh1 B
        have g1 : gi h1 77 7 = nJ i := by rw [fr_gi f1 rfl]; exact g
        refine E_sinc rfl rfl rfl rfl rfl rfl L0 hh1 g1 ?_
        have hh2 : HH (pt h1 77 7 (nJ (i + 1))) := HH_ptn hh1 rfl (by first | decide | with_reducible assumption | omega) (by first | decide | with_reducible assumption | omega) (by first | decide | with_reducible assumption | omega)
        refine E_inc rfl L1 (nJ_inc _) (fun lv1 K1 kp => ?_)
        refine E_goto rfl ?_
        have eg : gl (pt h1 77 7 (nJ (i + 1))) 77 11 = gl h1 77 11 := by unfold gl; rw [ld_pt (by first | decide | with_reducible assumption | omega)]
        refine Ends_mono ?_ (ih lv1 (i := i + 1) (n := n + 1) (by first | decide | with_reducible assumption | omega) (by first | decide | with_reducible assumption | omega) (TB_pt B1 (by first | decide | with_reducible assumption | omega) hh2) (gi_ptn hh1 rfl (by first | decide | with_reducible assumption | omega) (by first | decide | with_reducible assumption | omega) (by first | decide | with_reducible assumption | omega)) (by rw [eg]; exact gw1) ha' (kp 0 _ (nbz rfl) rfl L0) K1)
        rintro h' r ⟨q1, q2, q3, q4⟩
        exact ⟨q1, q2, fr_trans (fr_ptr (l := 7) (u := 7) rfl (by first | decide | with_reducible assumption | omega) (by first | decide | with_reducible assumption | omega) (fr_wk rfl f1)) q3, q4⟩
      refine E_al rfl L0 ?_
      refine E_il rfl L1 ?_
      refine E_ci 11 rfl ci11 ?_
      by_cases b2 : n ≤ 11
      · refine E_icT rfl (decide_eq_true ((nJ_le (by first | decide | with_reducible assumption | omega) (by first | decide | with_reducible assumption | omega)).mpr b2)) ?_
        refine E_c rfl ?_
        refine E_al rfl L0 ?_
        refine E_gfw rfl B.1 rfl ?_
        refine E_lbin rfl ?_
        refine E_sbyt rfl rfl rfl rfl rfl L0 B (by first | decide | with_reducible assumption | omega) g ?_
        refine E_i2l rfl ?_
        refine E_lbin rfl ?_
        refine E_c rfl ?_
        refine E_lbin rfl ?_
        refine E_pfw rfl B.1 rfl (fun h1 hh1 f1 e1 => ?_)
        have w0 := wfo_ge ha
        have w1 := wfo_lt ha
        have w2 : 27 ^ n ≤ 27 ^ 11 := Nat.pow_le_pow_right (by decide) b2
        have w3 : (27 : Nat) ^ 11 = 5559060566555523 := by decide
        have ew : wnm T s n = wfo T s n := if_pos (by first | decide | with_reducible assumption | omega)
        have ew1 : wnm T s (n + 1) = wfo T s (n + 1) := if_pos (by first | decide | with_reducible assumption | omega)
        rw [ew] at gw
        refine E_il rfl L1 ?_
        refine E_ci 11 rfl ci11 ?_
        refine E_icT rfl (decide_eq_true ((nJ_le (by first | decide | with_reducible assumption | omega) (by first | decide | with_reducible assumption | omega)).mpr b2)) ?_
        refine rest hh1 f1 ?_
        rw [e1, ew1]
        have := i64_lin (w := gl h 77 11) (t := T i) (by first | decide | with_reducible assumption | omega) (by first | decide | with_reducible assumption | omega)
        rw [gw] at this
        show _ = 27 * wfo T s n + ((T (s + n)).toInt - 96)
        rw [hn]
        exact this
      · refine E_icF rfl (decide_eq_false (fun q => b2 ((nJ_le (by first | decide | with_reducible assumption | omega) (by first | decide | with_reducible assumption | omega)).mp q))) ?_
        refine E_c rfl ?_
        refine E_goto rfl ?_
        refine E_pfw rfl B.1 rfl (fun h1 hh1 f1 e1 => ?_)
        refine E_il rfl L1 ?_
        refine E_ci 11 rfl ci11 ?_
        refine E_icF rfl (decide_eq_false (fun q => b2 ((nJ_le (by first | decide | with_reducible assumption | omega) (by first | decide | with_reducible assumption | omega)).mp q))) ?_
        refine E_al rfl L0 ?_
        refine E_c rfl ?_
        refine E_pfw rfl hh1 rfl (fun h2 hh2 f2 e2 => ?_)
        refine rest hh2 (fr_trans f1 f2) ?_
        rw [e2, show wnm T s (n + 1) = -1 from if_neg (by first | decide | with_reducible assumption | omega)]
        rfl
    · refine E_ifT rfl (by rw [zb_F (fun q => b (isb_lt.mp q.2))]; rfl) ?_
      refine E_goto rfl ?_
      rw [up_no (L := L) (i := i) (fun q => b q.2), show i - s = n by omega]
      exact E_ret rfl ⟨rfl, B.1, fr_rf _ _, g, gw⟩
theorem fw_num {s : Nat} (j : Nat) : ∀ {h : pm_H} {i n v : Nat} (lv : List (Nat × Value)), i + j = L → s + n = i → TB T L h → gi h 77 7 = nJ i → gi h 77 10 = nJ v → v ≤ 1000009 → Vr v (vfo T s n) → pm_get lv 0 = some (.ref 77) → Ends (pm_at tX9_follows) (pm_Rt pm_P (d + 1)) (208, lv, [], h, 0, 0) (fun h' r => r = none ∧ HH h' ∧ fr_g [(77, 7, 7), (77, 10, 10)] h h' ∧ gi h' 77 7 = nJ (up (fun j => dgb (T j)) L i) ∧ ∃ v, v ≤ 1000009 ∧ gi h' 77 10 = nJ v ∧ Vr v (vfo T s (up (fun j => dgb (T j)) L i - s))) := by
  induction j with
  | zero =>
    intro h i n v lv hj hn B g gv hv hV L0
    have h5 := B.2.2.1
    refine E_isB rfl rfl rfl rfl rfl rfl L0 B (by first | decide | with_reducible assumption | omega) g ?_
    refine E_ifT rfl (by rw [zb_F (fun q => absurd q.1 (by first | decide | with_reducible assumption | omega))]; rfl) ?_
    rw [up_no (L := L) (i := i) (fun q => absurd q.1 (by first | decide | with_reducible assumption | omega)), show i - s = n by omega]
    exact E_ret rfl ⟨rfl, B.1, fr_rf _ _, g, v, hv, gv, hV⟩
  | succ j ih =>
    intro h i n v lv hj hn B g gv hv hV L0
    have h5 := B.2.2.1
    refine E_isB rfl rfl rfl rfl rfl rfl L0 B (by first | decide | with_reducible assumption | omega) g ?_
    by_cases b : dgb (T i) = true
    · have hd := dgb_iff.mp b
      refine E_ifF rfl (by rw [zb_T ⟨by omega, isb_dg.mpr b⟩]; rfl) ?_
      rw [up_go (p := fun j => dgb (T j)) (by first | decide | with_reducible assumption | omega) b]
      have vs : vfo T s (n + 1) = min 1000 (10 * vfo T s n + ((T i).toInt.toNat - 48)) := by rw [← hn]; rfl
      have eT : T i = nJ (T i).toInt.toNat := nJ_of (by first | decide | with_reducible assumption | omega)
      have rest : ∀ {v' : Nat}, v' ≤ 1000009 → Vr v' (vfo T s (n + 1)) → Ends (pm_at tX9_follows) (pm_Rt pm_P (d + 1)) (258, lv, [.int (nJ v'), .ref 77], h, 0, 0) (fun h' r => r = none ∧ HH h' ∧ fr_g [(77, 7, 7), (77, 10, 10)] h h' ∧ gi h' 77 7 = nJ (up (fun j => dgb (T j)) L (i + 1)) ∧ ∃ v, v ≤ 1000009 ∧ gi h' 77 10 = nJ v ∧ Vr v (vfo T s (up (fun j => dgb (T j)) L (i + 1) - s))) := by
        intro v' hv' hV'
        refine E_pf rfl B.1 rfl ?_
        have hh1 : HH (pt h 77 10 (nJ v')) := HH_ptn B.1 rfl (by first | decide | with_reducible assumption | omega) (by first | decide | with_reducible assumption | omega) (by first | decide | with_reducible assumption | omega)
        have B1 := TB_pt B (by first | decide | with_reducible assumption | omega) hh1
        have g1 : gi (pt h 77 10 (nJ v')) 77 7 = nJ i := by rw [gi_ne (by first | exact gxx rfl | omega)]; exact g
        refine E_sinc rfl rfl rfl rfl rfl rfl L0 hh1 g1 ?_
        have hh2 : HH (pt (pt h 77 10 (nJ v')) 77 7 (nJ (i + 1))) := HH_ptn hh1 rfl (by first | decide | with_reducible assumption | omega) (by first | decide | with_reducible assumption | omega) (by first | decide | with_reducible assumption | omega)
        refine E_goto rfl ?_
        refine Ends_mono ?_ (ih lv (i := i + 1) (n := n + 1) (v := v') (by first | decide | with_reducible assumption | omega) (by first | decide | with_reducible assumption | omega) (TB_pt B1 (by first | decide | with_reducible assumption | omega) hh2) (gi_ptn hh1 rfl (by first | decide | with_reducible assumption | omega) (by first | decide | with_reducible assumption | omega) (by first | decide | with_reducible assumption | omega)) (by rw [gi_ne (by first | exact gxx rfl | omega)]; exact gi_ptn B.1 rfl (by first | decide | with_reducible assumption | omega) (by first | decide | with_reducible assumption | omega) (by first | decide | with_reducible assumption | omega)) hv' hV' L0)
        rintro h' r ⟨q1, q2, q3, q4⟩
        exact ⟨q1, q2, fr_trans (fr_ptr (l := 7) (u := 7) rfl (by first | decide | with_reducible assumption | omega) (by first | decide | with_reducible assumption | omega) (fr_ptr (l := 10) (u := 10) rfl (by first | decide | with_reducible assumption | omega) (by first | decide | with_reducible assumption | omega) (fr_rf _ _))) q3, q4⟩
      refine E_al rfl L0 ?_
      refine E_al rfl L0 ?_
      refine E_gf rfl B.1 rfl gv ?_
      refine E_ci 100000 rfl ci100000 ?_
      by_cases b2 : v ≤ 100000
      · refine E_icT rfl (decide_eq_true ((nJ_le (by first | decide | with_reducible assumption | omega) (by first | decide | with_reducible assumption | omega)).mpr b2)) ?_
        refine E_ci 10 rfl ci10 ?_
        refine E_al rfl L0 ?_
        refine E_gf rfl B.1 rfl gv ?_
        refine E_bin rfl (nJ_mul _ _) ?_
        refine E_sbyt rfl rfl rfl rfl rfl L0 B (by first | decide | with_reducible assumption | omega) g ?_
        refine E_bin (v := nJ (10 * v + (T i).toInt.toNat)) rfl (by rw [← nJ_add, ← eT]) ?_
        refine E_ci 48 rfl ci48 ?_
        refine E_bin rfl (nJ_sub (by first | decide | with_reducible assumption | omega)) ?_
        have ev : 10 * v + (T i).toInt.toNat - 48 = 10 * v + ((T i).toInt.toNat - 48) := by omega
        rw [ev]
        exact rest (by first | decide | with_reducible assumption | omega) (by rw [vs]; exact Vr_c3 hV)
      · refine E_icF rfl (decide_eq_false (fun q => b2 ((nJ_le (by first | decide | with_reducible assumption | omega) (by first | decide | with_reducible assumption | omega)).mp q))) ?_
        refine E_ci 1000000 rfl ci1000000 ?_
        refine E_goto rfl ?_
        exact rest (by first | decide | with_reducible assumption | omega) (by rw [vs]; exact Vr_r1 hV (by first | decide | with_reducible assumption | omega))
    · refine E_ifT rfl (by rw [zb_F (fun q => b (isb_dg.mp q.2))]; rfl) ?_
      rw [up_no (L := L) (i := i) (fun q => b q.2), show i - s = n by omega]
      exact E_ret rfl ⟨rfl, B.1, fr_rf _ _, g, v, hv, gv, hV⟩
theorem fw_tail {h : pm_H} {i : Nat} (lv : List (Nat × Value)) (B : TB T L h) (hi : i ≤ L) (g : gi h 77 7 = nJ i) (L0 : pm_get lv 0 = some (.ref 77)) : Ends (pm_at tX9_follows) (pm_Rt pm_P (d + 1)) (43, lv, [], h, 0, 0) (fun h' r => r = none ∧ HH h' ∧ fr_g FM h h' ∧ RT T L i h') := by
  have h5 := B.2.2.1
  refine E_al rfl L0 ?_
  refine E_al rfl L0 ?_
  refine E_gf (q := (0, 500)) rfl B.1 rfl g ?_
  refine E_pf (q := (0, 500)) rfl B.1 rfl ?_
  have hha : HH (pt h 77 9 (nJ i)) := HH_ptn B.1 rfl (by first | decide | with_reducible assumption | omega) (by first | decide | with_reducible assumption | omega) (by first | decide | with_reducible assumption | omega)
  have Ba := TB_pt B (by first | decide | with_reducible assumption | omega) hha
  have g9a : gi (pt h 77 9 (nJ i)) 77 9 = nJ i := gi_ptn B.1 rfl (by first | decide | with_reducible assumption | omega) (by first | decide | with_reducible assumption | omega) (by first | decide | with_reducible assumption | omega)
  have g7a : gi (pt h 77 9 (nJ i)) 77 7 = nJ i := by rw [gi_ne (by first | exact gxx rfl | omega)]; exact g
  have fa : fr_g FM h (pt h 77 9 (nJ i)) := fr_ptr (l := 7) (u := 11) rfl (by first | decide | with_reducible assumption | omega) (by first | decide | with_reducible assumption | omega) (fr_rf _ _)
  generalize pt h 77 9 (nJ i) = ha at hha Ba g9a g7a fa ⊢
  refine E_al rfl L0 ?_
  refine E_ci 0 rfl ci0 ?_
  refine E_pf rfl hha rfl ?_
  have hhb : HH (pt ha 77 10 (nJ 0)) := HH_ptn hha rfl (by first | decide | with_reducible assumption | omega) (by first | decide | with_reducible assumption | omega) (by first | decide | with_reducible assumption | omega)
  have Bb := TB_pt Ba (by first | decide | with_reducible assumption | omega) hhb
  have gvb : gi (pt ha 77 10 (nJ 0)) 77 10 = nJ 0 := gi_ptn hha rfl (by first | decide | with_reducible assumption | omega) (by first | decide | with_reducible assumption | omega) (by first | decide | with_reducible assumption | omega)
  have g9b : gi (pt ha 77 10 (nJ 0)) 77 9 = nJ i := by rw [gi_ne (by first | exact gxx rfl | omega)]; exact g9a
  have g7b : gi (pt ha 77 10 (nJ 0)) 77 7 = nJ i := by rw [gi_ne (by first | exact gxx rfl | omega)]; exact g7a
  have fb : fr_g FM h (pt ha 77 10 (nJ 0)) := fr_ptr (l := 7) (u := 11) rfl (by first | decide | with_reducible assumption | omega) (by first | decide | with_reducible assumption | omega) fa
  generalize pt ha 77 10 (nJ 0) = hb at hhb Bb gvb g9b g7b fb ⊢
  refine E_al rfl L0 ?_
  refine E_c rfl ?_
  refine E_pfw rfl hhb rfl (fun h1 hh1 f1 ew => ?_)
  have B1 := TB_fr f1 rfl rfl hh1 Bb
  have gv : gi h1 77 10 = nJ 0 := by rw [fr_gi f1 rfl]; exact gvb
  have g9 : gi h1 77 9 = nJ i := by rw [fr_gi f1 rfl]; exact g9b
  have g7 : gi h1 77 7 = nJ i := by rw [fr_gi f1 rfl]; exact g7b
  have fh : fr_g FM h h1 := fr_trans fb (fr_wk rfl f1)
  have gw : (gl h1 77 11).toInt = 0 := by rw [ew]; rfl
  refine E_al rfl L0 ?_
  refine E_gf (q := (0, 500)) rfl hh1 rfl g7 ?_
  refine E_al rfl L0 ?_
  refine E_gf (q := (0, 500)) rfl hh1 rfl B1.2.1 ?_
  have setk : ∀ k, k ≤ 4 → HH (pt h1 77 8 (nJ k)) ∧ TB T L (pt h1 77 8 (nJ k)) ∧ gi (pt h1 77 8 (nJ k)) 77 8 = nJ k ∧ gi (pt h1 77 8 (nJ k)) 77 9 = nJ i ∧ gi (pt h1 77 8 (nJ k)) 77 7 = nJ i ∧ fr_g FM h (pt h1 77 8 (nJ k)) := by
    intro k hk
    have a : HH (pt h1 77 8 (nJ k)) := HH_ptn hh1 rfl (by first | decide | with_reducible assumption | omega) (by first | decide | with_reducible assumption | omega) (by first | decide | with_reducible assumption | omega)
    exact ⟨a, TB_pt B1 (by first | decide | with_reducible assumption | omega) a, gi_ptn hh1 rfl (by first | decide | with_reducible assumption | omega) (by first | decide | with_reducible assumption | omega) (by first | decide | with_reducible assumption | omega), by rw [gi_ne (by first | exact gxx rfl | omega)]; exact g9, by rw [gi_ne (by first | exact gxx rfl | omega)]; exact g7, fr_ptr (l := 7) (u := 11) rfl (by first | decide | with_reducible assumption | omega) (by first | decide | with_reducible assumption | omega) fh⟩
  by_cases b0 : i < L
  · refine E_icT rfl (decide_eq_true (fun q => absurd ((nJ_eq (by first | decide | with_reducible assumption | omega) (by first | decide | with_reducible assumption | omega)).mp q) (by first | decide | with_reducible assumption | omega))) ?_
    refine E_isB rfl rfl rfl rfl rfl rfl L0 B1 hi g7 ?_
    by_cases b1 : ltb (T i) = true
    · refine E_ifF rfl (by rw [zb_T ⟨b0, isb_lt.mpr b1⟩]; rfl) ?_
      refine E_al rfl L0 ?_
      refine E_ci 1 rfl ci1 ?_
      refine E_pf (q := (0, 4)) rfl hh1 rfl ?_
      obtain ⟨a1, a2, a3, a4, a5, a6⟩ := setk 1 (by first | decide | with_reducible assumption | omega)
      have aw : (gl (pt h1 77 8 (nJ 1)) 77 11).toInt = wnm T i 0 := by
        have e : gl (pt h1 77 8 (nJ 1)) 77 11 = gl h1 77 11 := by unfold gl; rw [ld_pt (by first | decide | with_reducible assumption | omega)]
        rw [e, gw]
        rfl
      generalize pt h1 77 8 (nJ 1) = h2 at a1 a2 a3 a4 a5 a6 aw ⊢
      refine E_ci 0 rfl ci0 ?_
      refine E_is rfl (fun lv1 K1 kp => ?_)
      refine Ends_mono ?_ (fw_let (d := d) (s := i) (L - i) lv1 (i := i) (n := 0) (by first | decide | with_reducible assumption | omega) (by first | decide | with_reducible assumption | omega) a2 a5 aw (fun m hm => absurd hm (Nat.not_lt_zero m)) (kp 0 _ (nbz rfl) rfl L0) K1)
      rintro h' r ⟨q1, q2, q3, q4, q5⟩
      have k := tk_1 (T := T) b0 b1
      refine ⟨q1, q2, fr_trans a6 (fr_wk rfl q3), ?_, ?_, ?_, fun q => absurd q (by rw [k.1]; omega), fun _ => ?_⟩
      · rw [fr_gi q3 rfl]; exact a4
      · rw [q4, k.2]
      · rw [fr_gi q3 rfl, k.1]; exact a3
      · rw [k.2]; exact q5
    · have b1' : ltb (T i) = false := by cases hq : ltb (T i) with | false => rfl | true => exact absurd hq b1
      refine E_ifT rfl (by rw [zb_F (fun q => b1 (isb_lt.mp q.2))]; rfl) ?_
      refine E_isB rfl rfl rfl rfl rfl rfl L0 B1 hi g7 ?_
      by_cases b2 : dgb (T i) = true
      · refine E_ifF rfl (by rw [zb_T ⟨b0, isb_dg.mpr b2⟩]; rfl) ?_
        refine E_al rfl L0 ?_
        refine E_ci 2 rfl ci2 ?_
        refine E_pf (q := (0, 4)) rfl hh1 rfl ?_
        obtain ⟨a1, a2, a3, a4, a5, a6⟩ := setk 2 (by first | decide | with_reducible assumption | omega)
        have av : gi (pt h1 77 8 (nJ 2)) 77 10 = nJ 0 := by rw [gi_ne (by first | exact gxx rfl | omega)]; exact gv
        generalize pt h1 77 8 (nJ 2) = h2 at a1 a2 a3 a4 a5 a6 av ⊢
        refine Ends_mono ?_ (fw_num (d := d) (s := i) (L - i) lv (i := i) (n := 0) (v := 0) (by first | decide | with_reducible assumption | omega) (by first | decide | with_reducible assumption | omega) a2 a5 av (by first | decide | with_reducible assumption | omega) (.inl ⟨rfl, by show (0 : Nat) < 1000; omega⟩) L0)
        rintro h' r ⟨q1, q2, q3, q4, q5⟩
        have k := tk_2 (T := T) b0 b1' b2
        refine ⟨q1, q2, fr_trans a6 (fr_wk rfl q3), ?_, ?_, ?_, fun _ => ?_, fun q => absurd q (by rw [k.1]; omega)⟩
        · rw [fr_gi q3 rfl]; exact a4
        · rw [q4, k.2]
        · rw [fr_gi q3 rfl, k.1]; exact a3
        · unfold tkv
          rw [k.2]
          exact q5
      · have b2' : dgb (T i) = false := by cases hq : dgb (T i) with | false => rfl | true => exact absurd hq b2
        refine E_ifT rfl (by rw [zb_F (fun q => b2 (isb_dg.mp q.2))]; rfl) ?_
        refine E_al rfl L0 ?_
        refine E_sbyt rfl rfl rfl rfl rfl L0 B1 b0 g7 ?_
        refine E_ci 59 rfl ci59 ?_
        have fin : ∀ k, k ≤ 4 → tkk T L i = k → tke T L i = i + 1 → k ≠ 2 → k ≠ 1 → Ends (pm_at tX9_follows) (pm_Rt pm_P (d + 1)) (294, lv, [.int (nJ k), .ref 77], h1, 0, 0) (fun h' r => r = none ∧ HH h' ∧ fr_g FM h h' ∧ RT T L i h') := by
          intro k hk k1 k2 k3 k4
          refine E_pf (q := (0, 4)) rfl hh1 rfl ?_
          obtain ⟨a1, a2, a3, a4, a5, a6⟩ := setk k hk
          generalize pt h1 77 8 (nJ k) = h2 at a1 a2 a3 a4 a5 a6 ⊢
          refine E_sinc rfl rfl rfl rfl rfl rfl L0 a1 a5 ?_
          have hh3 : HH (pt h2 77 7 (nJ (i + 1))) := HH_ptn a1 rfl (by first | decide | with_reducible assumption | omega) (by first | decide | with_reducible assumption | omega) (by first | decide | with_reducible assumption | omega)
          refine E_ret rfl ⟨rfl, hh3, fr_ptr (l := 7) (u := 11) rfl (by first | decide | with_reducible assumption | omega) (by first | decide | with_reducible assumption | omega) a6, ?_, ?_, ?_, fun q => absurd q (by first | decide | with_reducible assumption | omega), fun q => absurd q (by first | decide | with_reducible assumption | omega)⟩
          · rw [gi_ne (by first | exact gxx rfl | omega)]; exact a4
          · rw [k2]; exact gi_ptn a1 rfl (by first | decide | with_reducible assumption | omega) (by first | decide | with_reducible assumption | omega) (by first | decide | with_reducible assumption | omega)
          · rw [k1, gi_ne (by first | exact gxx rfl | omega)]; exact a3
        have e59 : (59 : Int32) = nJ 59 := by decide
        by_cases b3 : T i = 59
        · refine E_icF rfl (decide_eq_false (fun q => q (b3.trans e59))) ?_
          refine E_ci 3 rfl ci3 ?_
          refine E_goto rfl ?_
          exact fin 3 (by first | decide | with_reducible assumption | omega) (tk_3 b0 b1' b2' b3).1 (tk_3 b0 b1' b2' b3).2 (by first | decide | with_reducible assumption | omega) (by first | decide | with_reducible assumption | omega)
        · refine E_icT rfl (decide_eq_true (fun q => b3 (q.trans e59.symm))) ?_
          refine E_ci 4 rfl ci4 ?_
          exact fin 4 (by first | decide | with_reducible assumption | omega) (tk_4 b0 b1' b2' b3).1 (tk_4 b0 b1' b2' b3).2 (by first | decide | with_reducible assumption | omega) (by first | decide | with_reducible assumption | omega)
  · have eL : i = L := by omega
    refine E_icF rfl (decide_eq_false (fun q => q (by rw [eL]))) ?_
    refine E_al rfl L0 ?_
    refine E_ci 0 rfl ci0 ?_
    refine E_pf (q := (0, 4)) rfl hh1 rfl ?_
    obtain ⟨a1, a2, a3, a4, a5, a6⟩ := setk 0 (by first | decide | with_reducible assumption | omega)
    generalize pt h1 77 8 (nJ 0) = h2 at a1 a2 a3 a4 a5 a6 ⊢
    refine E_goto rfl ?_
    have k := tk_0 (T := T) b0
    refine E_ret rfl ⟨rfl, a1, a6, a4, ?_, ?_, fun q => absurd q (by rw [k.1]; omega), fun q => absurd q (by rw [k.1]; omega)⟩
    · rw [k.2]; exact a5
    · rw [k.1]; exact a3
theorem fw_loop (j : Nat) : ∀ {h : pm_H} {i : Nat} (lv : List (Nat × Value)), i + j = L → TB T L h → gi h 77 7 = nJ i → pm_get lv 0 = some (.ref 77) → Ends (pm_at tX9_follows) (pm_Rt pm_P (d + 1)) (0, lv, [], h, 0, 0) (fun h' r => r = none ∧ HH h' ∧ fr_g FM h h' ∧ RT T L (skp T L i) h') := by
  induction j with
  | zero =>
    intro h i lv hj B g L0
    have h5 := B.2.2.1
    unfold skp
    rw [up_no (L := L) (i := i) (fun q => absurd q.1 (by first | decide | with_reducible assumption | omega))]
    refine E_isB rfl rfl rfl rfl rfl rfl L0 B (by first | decide | with_reducible assumption | omega) g ?_
    refine E_ifF rfl (by rw [zb_F (fun q => absurd q.1 (by first | decide | with_reducible assumption | omega))]; rfl) ?_
    refine E_isB rfl rfl rfl rfl rfl rfl L0 B (by first | decide | with_reducible assumption | omega) g ?_
    refine E_ifT rfl (by rw [zb_F (fun q => absurd q.1 (by first | decide | with_reducible assumption | omega))]; rfl) ?_
    exact fw_tail lv B (by first | decide | with_reducible assumption | omega) g L0
  | succ j ih =>
    intro h i lv hj B g L0
    have h5 := B.2.2.1
    have go : spb (T i) = true → Ends (pm_at tX9_follows) (pm_Rt pm_P (d + 1)) (30, lv, [], h, 0, 0) (fun h' r => r = none ∧ HH h' ∧ fr_g FM h h' ∧ RT T L (skp T L i) h') := by
      intro b
      refine E_sinc rfl rfl rfl rfl rfl rfl L0 B.1 g ?_
      refine E_goto rfl ?_
      have hh1 : HH (pt h 77 7 (nJ (i + 1))) := HH_ptn B.1 rfl (by first | decide | with_reducible assumption | omega) (by first | decide | with_reducible assumption | omega) (by first | decide | with_reducible assumption | omega)
      refine Ends_mono ?_ (ih lv (i := i + 1) (by first | decide | with_reducible assumption | omega) (TB_pt B (by first | decide | with_reducible assumption | omega) hh1) (gi_ptn B.1 rfl (by first | decide | with_reducible assumption | omega) (by first | decide | with_reducible assumption | omega) (by first | decide | with_reducible assumption | omega)) L0)
      rintro h' r ⟨q1, q2, q3, q4⟩
      refine ⟨q1, q2, fr_trans (fr_ptr (l := 7) (u := 11) rfl (by first | decide | with_reducible assumption | omega) (by first | decide | with_reducible assumption | omega) (fr_rf _ _)) q3, ?_⟩
      unfold skp
      rw [up_go (p := fun j => spb (T j)) (by first | decide | with_reducible assumption | omega) b]
      exact q4
    refine E_isB rfl rfl rfl rfl rfl rfl L0 B (by first | decide | with_reducible assumption | omega) g ?_
    by_cases b1 : T i = 32
    · refine E_ifT rfl (by rw [zb_T ⟨by omega, isb_eq.mpr b1⟩]; rfl) ?_
      exact go (by unfold spb; rw [decide_eq_true b1]; rfl)
    refine E_ifF rfl (by rw [zb_F (fun q => b1 (isb_eq.mp q.2))]; rfl) ?_
    refine E_isB rfl rfl rfl rfl rfl rfl L0 B (by first | decide | with_reducible assumption | omega) g ?_
    by_cases b2 : T i = 10
    · refine E_ifF rfl (by rw [zb_T ⟨by omega, isb_eq.mpr b2⟩]; rfl) ?_
      exact go (by unfold spb; rw [decide_eq_true b2]; exact Bool.or_true _)
    refine E_ifT rfl (by rw [zb_F (fun q => b2 (isb_eq.mp q.2))]; rfl) ?_
    have e : skp T L i = i := by
      unfold skp
      exact up_no (fun q => by
        have q2 : spb (T i) = true := q.2
        unfold spb at q2
        rw [decide_eq_false b1, decide_eq_false b2] at q2
        cases q2)
    rw [e]
    exact fw_tail lv B (by first | decide | with_reducible assumption | omega) g L0
theorem sp_fw {h : pm_H} {i : Nat} (B : TB T L h) (hi : i ≤ L) (g : gi h 77 7 = nJ i) : Sp (d + 2) 251 h [.ref 77] (fun h' r => r = none ∧ HH h' ∧ fr_g FM h h' ∧ RT T L (skp T L i) h') := by
  refine Sp_of aiX9_follows rfl rfl rfl ?_
  have L0 : pm_get (lv_args 0 [.ref 77]) 0 = some (.ref 77) := rfl
  generalize lv_args 0 [.ref 77] = lv at L0 ⊢
  exact fw_loop (d := d) (L - i) lv (i := i) (by first | decide | with_reducible assumption | omega) B g L0
end RTL
end
section
/-! what a reader does at a token, purely; the class's ways (wants t40, t41) -/
noncomputable abbrev Px : Type := (Nat × Nat) ⊕ Nat
noncomputable def isR : Px → Bool
  | .inl _ => false
  | .inr _ => true
section OPS
variable (T : Nat → Int32) (L : Nat)
noncomputable def bW (W : List Int32) : Px → Px
  | .inl f => .inl f
  | .inr s => bif wIs T L s W then .inr (nxt T L s) else .inl (1, s)
noncomputable def okN (lo hi s : Nat) : Bool := Nat.beq (tkk T L s) 2 && (Nat.ble lo (tkv T L s) && Nat.ble (tkv T L s) hi)
noncomputable def bN (lo hi : Nat) : Px → Px
  | .inl f => .inl f
  | .inr s => bif okN T L lo hi s then .inr (nxt T L s) else .inl (bif Nat.beq (tkk T L s) 2 then 2 else 1, s)
noncomputable def bV (lo hi : Nat) : Px → Nat
  | .inl _ => lo
  | .inr s => bif okN T L lo hi s then tkv T L s else lo
noncomputable def bS : Px → Px
  | .inl f => .inl f
  | .inr s => bif Nat.beq (tkk T L s) 3 then .inr (nxt T L s) else .inl (1, s)
noncomputable def bF (k : Nat) : Px → Px
  | .inl f => .inl f
  | .inr s => .inl (k, s)
/-- where the class's reader is -/
noncomputable def CS : Px → pm_H → Prop
  | .inl (k, p) => fun h => TA T L h ∧ gi h 3 1 = nJ k ∧ gi h 3 2 = nJ p ∧ 1 ≤ k ∧ k ≤ 3 ∧ p ≤ L
  | .inr s => fun h => TA T L h ∧ CT T L s h ∧ gi h 3 1 = nJ 0 ∧ gi h 3 2 = -1 ∧ s ≤ L
end OPS
theorem isR_r {s : Nat} : zb (isR (.inr s) = true) = nJ 1 := zb_T rfl
theorem isR_l {f : Nat × Nat} : zb (isR (.inl f) = true) = nJ 0 := zb_no rfl
theorem nbeq {a b : Nat} : Nat.beq a b = true ↔ a = b := ⟨Nat.eq_of_beq_eq_true, fun e => by rw [e]; exact Nat.beq_refl _⟩
theorem nbeqF {a b : Nat} (h : a ≠ b) : Nat.beq a b = false := by
  cases hq : Nat.beq a b with
  | false => rfl
  | true => exact absurd (Nat.eq_of_beq_eq_true hq) h
theorem nble {a b : Nat} : Nat.ble a b = true ↔ a ≤ b := ⟨Nat.le_of_ble_eq_true, Nat.ble_eq_true_of_le⟩
section OPL
variable {T : Nat → Int32} {L s lo hi k : Nat} {W : List Int32}
theorem bW_T (h : wIs T L s W = true) : bW T L W (.inr s) = .inr (nxt T L s) := by unfold bW; dsimp only; rw [h]; rfl
theorem bW_F (h : wIs T L s W = false) : bW T L W (.inr s) = .inl (1, s) := by unfold bW; dsimp only; rw [h]; rfl
theorem okN_iff : okN T L lo hi s = true ↔ tkk T L s = 2 ∧ lo ≤ tkv T L s ∧ tkv T L s ≤ hi := by
  unfold okN
  rw [Bool.and_eq_true, Bool.and_eq_true, nbeq, nble, nble]
theorem okN_F (h : ¬ (tkk T L s = 2 ∧ lo ≤ tkv T L s ∧ tkv T L s ≤ hi)) : okN T L lo hi s = false := by
  cases hq : okN T L lo hi s with
  | false => rfl
  | true => exact absurd (okN_iff.mp hq) h
theorem bN_T (h : okN T L lo hi s = true) : bN T L lo hi (.inr s) = .inr (nxt T L s) ∧ bV T L lo hi (.inr s) = tkv T L s := by unfold bN bV; dsimp only; rw [h]; exact ⟨rfl, rfl⟩
theorem bN_1 (h : ¬ tkk T L s = 2) : bN T L lo hi (.inr s) = .inl (1, s) ∧ bV T L lo hi (.inr s) = lo := by
  have e := okN_F (T := T) (L := L) (s := s) (lo := lo) (hi := hi) (fun q => h q.1)
  unfold bN bV
  dsimp only
  rw [e, nbeqF h]
  exact ⟨rfl, rfl⟩
theorem bN_2 (h : tkk T L s = 2) (h2 : ¬ (lo ≤ tkv T L s ∧ tkv T L s ≤ hi)) : bN T L lo hi (.inr s) = .inl (2, s) ∧ bV T L lo hi (.inr s) = lo := by
  have e := okN_F (T := T) (L := L) (s := s) (lo := lo) (hi := hi) (fun q => h2 q.2)
  unfold bN bV
  dsimp only
  rw [e, nbeq.mpr h]
  exact ⟨rfl, rfl⟩
theorem bS_T (h : tkk T L s = 3) : bS T L (.inr s) = .inr (nxt T L s) := by unfold bS; dsimp only; rw [nbeq.mpr h]; rfl
theorem bS_F (h : ¬ tkk T L s = 3) : bS T L (.inr s) = .inl (1, s) := by unfold bS; dsimp only; rw [nbeqF h]; rfl
end OPL
/-! Strings -/
section STR
variable {look : Nat → Option pm_I} {call : pm_Call} {Q : pm_H → Option Value → Prop} {pc n i k : Nat} {lv : List (Nat × Value)} {st : List Value} {w : pm_H × Nat × Nat} {h : pm_H} {z : Nat × Nat}
theorem E_alS {x : Nat} (h1 : look pc = some (.inl (s_al i n))) (e : pm_get lv i = some (.retAddr x)) (kk : Ends look call (n, lv, .retAddr x :: st, w) Q) : Ends look call (pc, lv, st, w) Q := E_st h1 (by simp only [s_al, e]) kk
theorem str_b (hk : k < 8) : (Nat.ble 4 (4 + k) && Nat.blt (4 + k) 12) = true := by
  rw [Nat.ble_eq_true_of_le (by first | decide | with_reducible assumption | omega), show Nat.blt (4 + k) 12 = true from Nat.ble_eq_true_of_le (by first | decide | with_reducible assumption | omega)]
  rfl
theorem str_c (hk : k < 8) : (Nat.ble 12 (12 + k) && Nat.blt (12 + k) 20) = true := by
  rw [Nat.ble_eq_true_of_le (by first | decide | with_reducible assumption | omega), show Nat.blt (12 + k) 20 = true from Nat.ble_eq_true_of_le (by first | decide | with_reducible assumption | omega)]
  rfl
theorem E_sval (h1 : look pc = some (.inl (s_sval n))) (hk : k < 8) (kk : Ends look call (n, lv, .retAddr (12 + k) :: st, w) Q) : Ends look call (pc, lv, .retAddr (4 + k) :: st, w) Q := by
  have e : 4 + k + 8 = 12 + k := by omega
  refine E_st h1 ?_ kk
  simp only [s_sval, str_b hk, cond_true, e]
theorem E_scod (h1 : look pc = some (.inl (s_scod n))) (hk : k < 8) (kk : Ends look call (n, lv, .int 0 :: st, w) Q) : Ends look call (pc, lv, .retAddr (4 + k) :: st, w) Q := by
  refine E_st h1 ?_ kk
  simp only [s_scod, str_b hk, cond_true]
theorem E_sblen (h1 : look pc = some (.inl (s_sblen n))) (hk : k < 8) (kk : Ends look call (n, lv, .int (Int32.ofNat (pm_len.getD k 0)) :: st, w) Q) : Ends look call (pc, lv, .retAddr (12 + k) :: st, w) Q := by
  have e : 12 + k - 12 = k := by omega
  refine E_st h1 ?_ kk
  simp only [s_sblen, str_c hk, cond_true, e]
theorem E_sbald {j : Nat} (h1 : look pc = some (.inl (s_sbald n))) (hk : k < 8) (hj : j < pm_len.getD k 0) (hj2 : j < 100) (kk : Ends look call (n, lv, .int ((pm_byt.getD k []).getD j 0) :: st, w) Q) : Ends look call (pc, lv, .int (nJ j) :: .retAddr (12 + k) :: st, w) Q := by
  have e : 12 + k - 12 = k := by omega
  have h2 := nJ_toInt (n := j) (by first | decide | with_reducible assumption | omega)
  have h3 : pm_ix (nJ j) (pm_len.getD k 0) = true := ai_ix (by first | decide | with_reducible assumption | omega) (by first | decide | with_reducible assumption | omega)
  have h4 : (nJ j).toNatClampNeg = j := by show (nJ j).toInt.toNat = j; omega
  refine E_st h1 ?_ kk
  simp only [s_sbald, str_c hk, e, h3, h4, Bool.and_self, cond_true]
theorem chkT {as : List Value} {k i : Nat} (hi : i < 8) (hl : Nat.ble k st.length = true) (e : (st.take k).reverse = .retAddr (4 + i) :: as) (hs : pm_sz (st.drop k) ≤ 8) : pm_chk k (some 100) 0 0 st (h, z) := by
  refine ⟨Nat.le_of_ble_eq_true hl, fun q hq => ?_, hs, Nat.zero_le _, Nat.zero_le _⟩
  cases hq
  exact ⟨fun h7 => absurd h7 (by first | decide | with_reducible assumption | omega), fun _ => ⟨i, as, hi, e⟩⟩
end STR
theorem byt_tab : ∀ k : Fin 8, (pm_byt.getD k.val []).length = pm_len.getD k.val 0 ∧ pm_len.getD k.val 0 ≤ 6 ∧ ∀ j : Fin 6, (((pm_byt.getD k.val []).getD j.val 0 &&& 255).toUInt32 % 65536).toInt32 = (pm_byt.getD k.val []).getD j.val 0 ∧ narrow .char (.int ((pm_byt.getD k.val []).getD j.val 0)) = .int ((pm_byt.getD k.val []).getD j.val 0) := by decide +kernel
theorem len_tab : ∀ k : Fin 8, Int32.ofNat (pm_len.getD k.val 0) >>> ((0 : Int32) &&& 31) = nJ (pm_len.getD k.val 0) ∧ Int32.ofNat (pm_len.getD k.val 0) = nJ (pm_len.getD k.val 0) := by decide +kernel
section STS
variable {h : pm_H} {d k j : Nat}
theorem sp_coder (hk : k < 8) : Sp (d + 1) 2 h [.retAddr (4 + k)] (fun h' r => h' = h ∧ r = some (.int 0)) := by
  refine Sp_of aiJ0_coder_7d493 rfl rfl rfl ?_
  have L0 : pm_get (lv_args 0 [.retAddr (4 + k)]) 0 = some (.retAddr (4 + k)) := rfl
  generalize lv_args 0 [.retAddr (4 + k)] = lv at L0 ⊢
  refine E_c rfl ?_
  refine E_ifF rfl (by decide) ?_
  refine E_alS rfl L0 ?_
  refine E_scod rfl hk ?_
  refine E_goto rfl ?_
  exact ⟨h, some (.int 0), Go_ret rfl ⟨0, rfl, by decide, rfl⟩, rfl, rfl⟩
theorem sp_latin (hk : k < 8) : Sp (d + 1) 3 h [.retAddr (4 + k)] (fun h' r => h' = h ∧ r = some (.int 1)) := by
  refine Sp_of aiJ0_isLatin1_aae02 rfl rfl rfl ?_
  have L0 : pm_get (lv_args 0 [.retAddr (4 + k)]) 0 = some (.retAddr (4 + k)) := rfl
  generalize lv_args 0 [.retAddr (4 + k)] = lv at L0 ⊢
  refine E_c rfl ?_
  refine E_ifF rfl (by decide) ?_
  refine E_alS rfl L0 ?_
  refine E_scod rfl hk ?_
  refine E_ifF rfl (by decide) ?_
  refine E_c rfl ?_
  refine E_goto rfl ?_
  exact E_rtz rfl (.inr rfl) ⟨rfl, rfl⟩
theorem sp_slen (hk : k < 8) : Sp (d + 2) 4 h [.retAddr (4 + k)] (fun h' r => h' = h ∧ r = some (.int (nJ (pm_len.getD k 0)))) := by
  refine Sp_of aiJ0_length_8abf5 rfl rfl rfl ?_
  have L0 : pm_get (lv_args 0 [.retAddr (4 + k)]) 0 = some (.retAddr (4 + k)) := rfl
  generalize lv_args 0 [.retAddr (4 + k)] = lv at L0 ⊢
  refine E_alS rfl L0 ?_
  refine E_sval rfl hk ?_
  refine E_sblen rfl hk ?_
  refine E_alS rfl L0 ?_
  refine E_call rfl (sp_coder (d := d) hk) (chkT hk rfl rfl (by show 1 ≤ 8; decide)) (fun h1 r1 => ?_)
  rintro ⟨e1, f1⟩
  rw [e1, f1]
  refine E_bin rfl (len_tab ⟨k, hk⟩).1 ?_
  exact E_rti rfl ⟨rfl, rfl⟩
theorem sp_ck3 {x y : Int32} (h0 : ¬ x < 0) (h1 : x < y) : Sp (d + 1) 6 h [.int x, .int y, .retAddr 3] (fun h' r => h' = h ∧ r = some (.int x)) := by
  refine Sp_of aiJ3_checkIndex_8e157 rfl rfl rfl ?_
  have L0 : pm_get (lv_args 0 [.int x, .int y, .retAddr 3]) 0 = some (.int x) := rfl
  have L1 : pm_get (lv_args 0 [.int x, .int y, .retAddr 3]) 1 = some (.int y) := rfl
  generalize lv_args 0 [.int x, .int y, .retAddr 3] = lv at L0 L1 ⊢
  refine E_il rfl L0 ?_
  refine E_ifF rfl (decide_eq_false h0) ?_
  refine E_il rfl L0 ?_
  refine E_il rfl L1 ?_
  refine E_icT rfl (decide_eq_true h1) ?_
  refine E_il rfl L0 ?_
  exact E_rti rfl ⟨rfl, rfl⟩
theorem sp_ck0 {x y : Int32} (h0 : ¬ x < 0) (h1 : x < y) : Sp (d + 2) 1 h [.int x, .int y] (fun h' r => h' = h ∧ r = none) := by
  refine Sp_of aiJ0_checkIndex_df160 rfl rfl rfl ?_
  have L0 : pm_get (lv_args 0 [.int x, .int y]) 0 = some (.int x) := rfl
  have L1 : pm_get (lv_args 0 [.int x, .int y]) 1 = some (.int y) := rfl
  generalize lv_args 0 [.int x, .int y] = lv at L0 L1 ⊢
  refine E_il rfl L0 ?_
  refine E_il rfl L1 ?_
  refine E_c rfl ?_
  refine E_call rfl (sp_ck3 (d := d) h0 h1) (chkS rfl (by show 0 ≤ 8; decide)) (fun h2 r2 => ?_)
  rintro ⟨e2, f2⟩
  rw [e2, f2]
  refine E_pop rfl rfl ?_
  exact E_ret rfl ⟨rfl, rfl⟩
theorem E_rt5 {look : Nat → Option pm_I} {call : pm_Call} {Q : pm_H → Option Value → Prop} {pc : Nat} {lv : List (Nat × Value)} {z : Nat × Nat} {v : Int32} (h1 : look pc = some (.inr (.inr 5))) (hn : narrow .char (.int v) = .int v) (hq : Q h (some (.int v))) : Ends look call (pc, lv, [.int v], h, z) Q := ⟨h, some (.int v), Go_ret h1 ⟨v, rfl, hn, rfl⟩, hq⟩
theorem sp_char1 (hk : k < 8) (hj : j < pm_len.getD k 0) : Sp (d + 3) 5 h [.retAddr (12 + k), .int (nJ j)] (fun h' r => h' = h ∧ r = some (.int ((pm_byt.getD k []).getD j 0))) := by
  obtain ⟨t1, t2, t3⟩ := byt_tab ⟨k, hk⟩
  dsimp only at t1 t2 t3
  obtain ⟨t4, t5⟩ := t3 ⟨j, by omega⟩
  dsimp only at t4 t5
  refine Sp_of aiJ1_charAt_3b067 rfl rfl rfl ?_
  have L0 : pm_get (lv_args 0 [.retAddr (12 + k), .int (nJ j)]) 0 = some (.retAddr (12 + k)) := rfl
  have L1 : pm_get (lv_args 0 [.retAddr (12 + k), .int (nJ j)]) 1 = some (.int (nJ j)) := rfl
  generalize lv_args 0 [.retAddr (12 + k), .int (nJ j)] = lv at L0 L1 ⊢
  refine E_il rfl L1 ?_
  refine E_alS rfl L0 ?_
  refine E_sblen rfl hk ?_
  refine E_call rfl (sp_ck0 (d := d) (nJ_lt0 (by first | decide | with_reducible assumption | omega)) (by rw [(len_tab ⟨k, hk⟩).2]; exact (nJ_lt (by first | decide | with_reducible assumption | omega) (by show pm_len.getD k 0 < _; omega)).mpr hj)) (chkS rfl (by show 0 ≤ 8; decide)) (fun h2 r2 => ?_)
  rintro ⟨e2, f2⟩
  rw [e2, f2]
  refine E_alS rfl L0 ?_
  refine E_il rfl L1 ?_
  refine E_sbald rfl hk hj (by first | decide | with_reducible assumption | omega) ?_
  refine E_c rfl ?_
  refine E_bin rfl rfl ?_
  refine E_un rfl ?_
  rw [t4]
  exact E_rt5 rfl t5 ⟨rfl, rfl⟩
theorem sp_charAt (hk : k < 8) (hj : j < pm_len.getD k 0) : Sp (d + 4) 0 h [.retAddr (4 + k), .int (nJ j)] (fun h' r => h' = h ∧ r = some (.int ((pm_byt.getD k []).getD j 0))) := by
  obtain ⟨t1, t2, t3⟩ := byt_tab ⟨k, hk⟩
  dsimp only at t1 t2 t3
  obtain ⟨t4, t5⟩ := t3 ⟨j, by omega⟩
  dsimp only at t4 t5
  refine Sp_of aiJ0_charAt_5068e rfl rfl rfl ?_
  have L0 : pm_get (lv_args 0 [.retAddr (4 + k), .int (nJ j)]) 0 = some (.retAddr (4 + k)) := rfl
  have L1 : pm_get (lv_args 0 [.retAddr (4 + k), .int (nJ j)]) 1 = some (.int (nJ j)) := rfl
  generalize lv_args 0 [.retAddr (4 + k), .int (nJ j)] = lv at L0 L1 ⊢
  refine E_alS rfl L0 ?_
  refine E_call rfl (sp_latin (d := d + 2) hk) (chkT hk rfl rfl (by show 0 ≤ 8; decide)) (fun h1 r1 => ?_)
  rintro ⟨e1, f1⟩
  rw [e1, f1]
  refine E_ifF rfl (by decide) ?_
  refine E_alS rfl L0 ?_
  refine E_sval rfl hk ?_
  refine E_il rfl L1 ?_
  refine E_call rfl (sp_char1 (d := d) hk hj) (chkS rfl (by show 0 ≤ 8; decide)) (fun h2 r2 => ?_)
  rintro ⟨e2, f2⟩
  rw [e2, f2]
  exact E_rt5 rfl t5 ⟨rfl, rfl⟩
end STS
section COP
variable {T : Nat → Int32} {L d s k : Nat} {h : pm_H}
theorem iw_loop (A : TA T L h) (g6 : gi h 3 6 = nJ s) (hk : k < 8) (h1 : tkk T L s = 1) (h2 : tke T L s = s + pm_len.getD k 0) (h3 : s + pm_len.getD k 0 ≤ L) (j : Nat) : ∀ {i : Nat} (lv : List (Nat × Value)), i + j = pm_len.getD k 0 → (∀ m, m < i → T (s + m) = (pm_byt.getD k []).getD m 0) → pm_get lv 0 = some (.ref 3) → pm_get lv 1 = some (.retAddr (4 + k)) → pm_get lv 2 = some (.int (nJ i)) → Ends (pm_at tX2_isWord) (pm_Rt pm_P (d + 4)) (28, lv, [], h, 0, 0) (fun h' r => h' = h ∧ r = some (.int (zb (wIs T L s (pm_byt.getD k []) = true)))) := by
  obtain ⟨t1, t2, t3⟩ := byt_tab ⟨k, hk⟩
  dsimp only at t1 t2 t3
  have h5 := A.2.2.1
  induction j with
  | zero =>
    intro i lv hj hm L0 L1 L2
    refine E_il rfl L2 ?_
    refine E_alS rfl L1 ?_
    refine E_call rfl (sp_slen (d := d + 2) hk) (chkT hk rfl rfl (by show 1 ≤ 8; decide)) (fun h4 r4 => ?_)
    rintro ⟨e4, f4⟩
    rw [e4, f4]
    refine E_icT rfl (decide_eq_true ((nJ_le (by first | decide | with_reducible assumption | omega) (by first | decide | with_reducible assumption | omega)).mpr (by first | decide | with_reducible assumption | omega))) ?_
    refine E_ci 1 rfl ci1 ?_
    exact E_rtz rfl (.inr rfl) ⟨rfl, by rw [zb_T (wIs_iff.mpr ⟨h1, by rw [t1]; exact h2, fun i hi => hm i (by first | decide | with_reducible assumption | omega)⟩)]⟩
  | succ j ih =>
    intro i lv hj hm L0 L1 L2
    refine E_il rfl L2 ?_
    refine E_alS rfl L1 ?_
    refine E_call rfl (sp_slen (d := d + 2) hk) (chkT hk rfl rfl (by show 1 ≤ 8; decide)) (fun h4 r4 => ?_)
    rintro ⟨e4, f4⟩
    rw [e4, f4]
    refine E_icF rfl (decide_eq_false (fun q => absurd ((nJ_le (by first | decide | with_reducible assumption | omega) (by first | decide | with_reducible assumption | omega)).mp q) (by first | decide | with_reducible assumption | omega))) ?_
    refine E_al rfl L0 ?_
    refine E_ogr (q := 1) rfl A.1 rfl rfl ?_
    refine E_ogr (q := 2) rfl A.1 rfl rfl ?_
    refine E_al rfl L0 ?_
    refine E_ogf (q := (0, 500)) rfl A.1 rfl rfl g6 ?_
    refine E_il rfl L2 ?_
    refine E_bin rfl (nJ_add _ _) ?_
    refine E_bal (a := 2) (len := 500) rfl A.1 rfl (by first | decide | with_reducible assumption | omega) (by decide) ?_
    rw [A.2.2.2 (s + i) (by first | decide | with_reducible assumption | omega)]
    refine E_alS rfl L1 ?_
    refine E_il rfl L2 ?_
    refine E_call rfl (sp_charAt (d := d) hk (by first | decide | with_reducible assumption | omega)) (chkT hk rfl rfl (by show 1 ≤ 8; decide)) (fun h6 r6 => ?_)
    rintro ⟨e6, f6⟩
    rw [e6, f6]
    by_cases b : T (s + i) = (pm_byt.getD k []).getD i 0
    · refine E_icT rfl (decide_eq_true b) ?_
      refine E_inc rfl L2 (nJ_inc _) (fun lv1 K2 kp => ?_)
      refine E_goto rfl ?_
      refine ih lv1 (by first | decide | with_reducible assumption | omega) (fun m hm2 => ?_) (kp 0 _ (nbz rfl) rfl L0) (kp 1 _ (nbz rfl) rfl L1) K2
      by_cases e : m = i
      · rw [e]; exact b
      · exact hm m (by first | decide | with_reducible assumption | omega)
    · refine E_icF rfl (decide_eq_false b) ?_
      refine E_ci 0 rfl ci0 ?_
      exact E_rtz rfl (.inl rfl) ⟨rfl, by rw [zb_F (fun q => b ((wIs_iff.mp q).2.2 i (by first | decide | with_reducible assumption | omega)))]⟩
theorem sp_isWord (C : CS T L (.inr s) h) (hk : k < 8) : Sp (d + 5) 29 h [.ref 3, .retAddr (4 + k)] (fun h' r => h' = h ∧ r = some (.int (zb (wIs T L s (pm_byt.getD k []) = true)))) := by
  obtain ⟨A, ⟨c6, c7, c5, c8⟩, -, -, hs⟩ := C
  obtain ⟨t1, t2, t3⟩ := byt_tab ⟨k, hk⟩
  dsimp only at t1 t2 t3
  have h5 := A.2.2.1
  have he := tke_le (T := T) hs
  have hkk := tkk_le (T := T) (L := L) (s := s)
  refine Sp_of aiX2_isWord rfl rfl rfl ?_
  have L0 : pm_get (lv_args 0 [.ref 3, .retAddr (4 + k)]) 0 = some (.ref 3) := rfl
  have L1 : pm_get (lv_args 0 [.ref 3, .retAddr (4 + k)]) 1 = some (.retAddr (4 + k)) := rfl
  generalize lv_args 0 [.ref 3, .retAddr (4 + k)] = lv at L0 L1 ⊢
  have no : ¬ (tkk T L s = 1 ∧ tke T L s = s + pm_len.getD k 0) → Ends (pm_at tX2_isWord) (pm_Rt pm_P (d + 4)) (24, lv, [], h, 0, 0) (fun h' r => h' = h ∧ r = some (.int (zb (wIs T L s (pm_byt.getD k []) = true)))) := by
    intro q
    refine E_ci 0 rfl ci0 ?_
    exact E_rtz rfl (.inl rfl) ⟨rfl, by rw [zb_F (fun z => q ⟨(wIs_iff.mp z).1, by rw [← t1]; exact (wIs_iff.mp z).2.1⟩)]⟩
  refine E_al rfl L0 ?_
  refine E_ogf (q := (0, 4)) rfl A.1 rfl rfl c5 ?_
  refine E_ci 1 rfl ci1 ?_
  by_cases b1 : tkk T L s = 1
  · refine E_icF rfl (decide_eq_false (fun q => q (by rw [b1]))) ?_
    refine E_al rfl L0 ?_
    refine E_ogf (q := (0, 500)) rfl A.1 rfl rfl c7 ?_
    refine E_al rfl L0 ?_
    refine E_ogf (q := (0, 500)) rfl A.1 rfl rfl c6 ?_
    refine E_bin rfl (nJ_sub he.1) ?_
    refine E_alS rfl L1 ?_
    refine E_call rfl (sp_slen (d := d + 2) hk) (chkT hk rfl rfl (by show 1 ≤ 8; decide)) (fun h4 r4 => ?_)
    rintro ⟨e4, f4⟩
    rw [e4, f4]
    by_cases b2 : tke T L s - s = pm_len.getD k 0
    · refine E_icT rfl (decide_eq_true (by rw [b2])) ?_
      refine E_ci 0 rfl ci0 ?_
      refine E_is rfl (fun lv1 K2 kp => ?_)
      exact iw_loop A c6 hk b1 (by first | decide | with_reducible assumption | omega) (by first | decide | with_reducible assumption | omega) (pm_len.getD k 0) (i := 0) lv1 (by first | decide | with_reducible assumption | omega) (fun m hm => absurd hm (Nat.not_lt_zero m)) (kp 0 _ (nbz rfl) rfl L0) (kp 1 _ (nbz rfl) rfl L1) K2
    · refine E_icF rfl (decide_eq_false (fun q => b2 ((nJ_eq (by first | decide | with_reducible assumption | omega) (by first | decide | with_reducible assumption | omega)).mp q))) ?_
      exact no (fun z => b2 (by first | decide | with_reducible assumption | omega))
  · refine E_icT rfl (decide_eq_true (fun q => b1 ((nJ_eq (by first | decide | with_reducible assumption | omega) (by first | decide | with_reducible assumption | omega)).mp q))) ?_
    exact no (fun z => b1 z.1)
theorem sp_refuse (C : CS T L (.inr s) h) (k1 : 1 ≤ k) (k3 : k ≤ 3) : Sp (d + 1) 38 h [.ref 3, .int (nJ k)] (fun h' r => r = some (.int (nJ 0)) ∧ fr_g [(3, 1, 2)] h h' ∧ CS T L (.inl (k, s)) h') := by
  obtain ⟨A, ⟨c6, c7, c5, c8⟩, -, -, hs⟩ := C
  have h5 := A.2.2.1
  refine Sp_of aiX2_refuse rfl rfl rfl ?_
  have L0 : pm_get (lv_args 0 [.ref 3, .int (nJ k)]) 0 = some (.ref 3) := rfl
  have L1 : pm_get (lv_args 0 [.ref 3, .int (nJ k)]) 1 = some (.int (nJ k)) := rfl
  generalize lv_args 0 [.ref 3, .int (nJ k)] = lv at L0 L1 ⊢
  refine E_al rfl L0 ?_
  refine E_il rfl L1 ?_
  refine E_opf (q := (0, 3)) rfl A.1 rfl rfl ?_
  have hh1 : HH (pt h 3 1 (nJ k)) := HH_ptn A.1 rfl (by first | decide | with_reducible assumption | omega) (by first | decide | with_reducible assumption | omega) (by first | decide | with_reducible assumption | omega)
  refine E_al rfl L0 ?_
  refine E_al rfl L0 ?_
  refine E_ogf (q := (0, 500)) (v := nJ s) rfl hh1 rfl rfl (by rw [gi_ne (by first | exact gxx rfl | omega)]; exact c6) ?_
  refine E_opf (q := ((-1), 500)) rfl hh1 rfl rfl ?_
  have hh2 : HH (pt (pt h 3 1 (nJ k)) 3 2 (nJ s)) := HH_ptn hh1 rfl (by first | decide | with_reducible assumption | omega) (by first | decide | with_reducible assumption | omega) (by first | decide | with_reducible assumption | omega)
  refine E_ci 0 rfl ci0 ?_
  refine E_rtz rfl (.inl rfl) ⟨rfl, fr_ptr (l := 1) (u := 2) rfl (by first | decide | with_reducible assumption | omega) (by first | decide | with_reducible assumption | omega) (fr_ptr (l := 1) (u := 2) rfl (by first | decide | with_reducible assumption | omega) (by first | decide | with_reducible assumption | omega) (fr_rf _ _)), ?_, ?_, ?_, k1, k3, hs⟩
  · exact TA_pt (TA_pt A (by first | decide | with_reducible assumption | omega) hh1) (by first | decide | with_reducible assumption | omega) hh2
  · rw [gi_ne (by first | exact gxx rfl | omega)]; exact gi_ptn A.1 rfl (by first | decide | with_reducible assumption | omega) (by first | decide | with_reducible assumption | omega) (by first | decide | with_reducible assumption | omega)
  · exact gi_ptn hh1 rfl (by first | decide | with_reducible assumption | omega) (by first | decide | with_reducible assumption | omega) (by first | decide | with_reducible assumption | omega)
theorem sp_nextTok (C : CS T L (.inr s) h) : Sp (d + 3) 37 h [.ref 3] (fun h' r => r = none ∧ fr_g [(3, 5, 8)] h h' ∧ CS T L (.inr (nxt T L s)) h') := by
  obtain ⟨A, ⟨c6, c7, c5, c8⟩, c1, c2, hs⟩ := C
  have he := tke_le (T := T) hs
  refine Sp_mono ?_ (sp_readToken (d := d) A he.2.1 c7)
  rintro h' r ⟨q1, q2, q3, q4⟩
  exact ⟨q1, q3, TA_fr q3 rfl rfl q2 A, q4, by rw [fr_gi q3 rfl]; exact c1, by rw [fr_gi q3 rfl]; exact c2, (nxt_le hs).2.1⟩
theorem sp_takeWord (C : CS T L (.inr s) h) (hk : k < 8) : Sp (d + 6) 41 h [.ref 3, .retAddr (4 + k)] (fun h' r => r = some (.int (zb (isR (bW T L (pm_byt.getD k []) (.inr s)) = true))) ∧ fr_g [(3, 1, 2), (3, 5, 8)] h h' ∧ CS T L (bW T L (pm_byt.getD k []) (.inr s)) h') := by
  have hh : HH h := C.1.1
  refine Sp_of aiX2_takeWord rfl rfl rfl ?_
  have L0 : pm_get (lv_args 0 [.ref 3, .retAddr (4 + k)]) 0 = some (.ref 3) := rfl
  have L1 : pm_get (lv_args 0 [.ref 3, .retAddr (4 + k)]) 1 = some (.retAddr (4 + k)) := rfl
  generalize lv_args 0 [.ref 3, .retAddr (4 + k)] = lv at L0 L1 ⊢
  refine E_al rfl L0 ?_
  refine E_alS rfl L1 ?_
  refine E_call rfl (sp_isWord (d := d) C hk) (chkO (a := 3) hh rfl rfl rfl rfl (by show 0 ≤ 8; decide)) (fun h1 r1 => ?_)
  rintro ⟨e1, f1⟩
  rw [e1, f1]
  cases hw : wIs T L s (pm_byt.getD k []) with
  | true =>
    rw [bW_T hw]
    refine E_ifT rfl (by rw [zb_T rfl]; rfl) ?_
    refine E_al rfl L0 ?_
    refine E_call rfl (Sp_le (by first | exact Nat.add_le_add_left (Nat.le_of_ble_eq_true rfl) _ | exact Nat.le_of_ble_eq_true rfl | omega) (sp_nextTok (d := d) C)) (chkO (a := 3) hh rfl rfl rfl rfl (by show 0 ≤ 8; decide)) (fun h2 r2 => ?_)
    rintro ⟨e2, f2, C2⟩
    rw [e2]
    refine E_ci 1 rfl ci1 ?_
    exact E_rtz rfl (.inr rfl) ⟨by rw [isR_r], fr_wk rfl f2, C2⟩
  | false =>
    rw [bW_F hw]
    refine E_ifF rfl (by rw [zb_F (by decide)]; rfl) ?_
    refine E_al rfl L0 ?_
    refine E_ci 1 rfl ci1 ?_
    refine E_call rfl (Sp_le (by first | exact Nat.add_le_add_left (Nat.le_of_ble_eq_true rfl) _ | exact Nat.le_of_ble_eq_true rfl | omega) (sp_refuse (d := d) (k := 1) C (by first | decide | with_reducible assumption | omega) (by first | decide | with_reducible assumption | omega))) (chkO (a := 3) hh rfl rfl rfl rfl (by show 0 ≤ 8; decide)) (fun h2 r2 => ?_)
    rintro ⟨e2, f2, C2⟩
    rw [e2]
    exact E_rtz rfl (.inl rfl) ⟨by rw [isR_l], fr_wk rfl f2, C2⟩
theorem sp_takeNumber {lo hi : Nat} (C : CS T L (.inr s) h) (h99 : hi ≤ 99) (hlo : lo ≤ hi) : Sp (d + 6) 39 h [.ref 3, .int (nJ lo), .int (nJ hi)] (fun h' r => r = some (.int (zb (isR (bN T L lo hi (.inr s)) = true))) ∧ fr_g [(3, 1, 2), (3, 5, 9)] h h' ∧ CS T L (bN T L lo hi (.inr s)) h' ∧ (isR (bN T L lo hi (.inr s)) = true → gi h' 3 9 = nJ (bV T L lo hi (.inr s)) ∧ lo ≤ bV T L lo hi (.inr s) ∧ bV T L lo hi (.inr s) ≤ hi)) := by
  have C0 := C
  obtain ⟨A, ⟨c6, c7, c5, c8⟩, c1, c2, hs⟩ := C
  have hh : HH h := A.1
  have hkk := tkk_le (T := T) (L := L) (s := s)
  refine Sp_of aiX2_takeNumber rfl rfl rfl ?_
  have L0 : pm_get (lv_args 0 [.ref 3, .int (nJ lo), .int (nJ hi)]) 0 = some (.ref 3) := rfl
  have L1 : pm_get (lv_args 0 [.ref 3, .int (nJ lo), .int (nJ hi)]) 1 = some (.int (nJ lo)) := rfl
  have L2 : pm_get (lv_args 0 [.ref 3, .int (nJ lo), .int (nJ hi)]) 2 = some (.int (nJ hi)) := rfl
  generalize lv_args 0 [.ref 3, .int (nJ lo), .int (nJ hi)] = lv at L0 L1 L2 ⊢
  refine E_al rfl L0 ?_
  refine E_ogf (q := (0, 4)) rfl hh rfl rfl c5 ?_
  refine E_ci 2 rfl ci2 ?_
  by_cases b1 : tkk T L s = 2
  · obtain ⟨v, v1, v2, v3⟩ := c8 b1
    have vb := Vr_bd (lo := lo) (hi := hi) v3 (by first | decide | with_reducible assumption | omega)
    refine E_icT rfl (decide_eq_true (by rw [b1])) ?_
    have no2 : ¬ (lo ≤ tkv T L s ∧ tkv T L s ≤ hi) → Ends (pm_at tX2_takeNumber) (pm_Rt pm_P (d + 5)) (30, lv, [], h, 0, 0) (fun h' r => r = some (.int (zb (isR (bN T L lo hi (.inr s)) = true))) ∧ fr_g [(3, 1, 2), (3, 5, 9)] h h' ∧ CS T L (bN T L lo hi (.inr s)) h' ∧ (isR (bN T L lo hi (.inr s)) = true → gi h' 3 9 = nJ (bV T L lo hi (.inr s)) ∧ lo ≤ bV T L lo hi (.inr s) ∧ bV T L lo hi (.inr s) ≤ hi)) := by
      intro q
      rw [(bN_2 b1 q).1]
      refine E_al rfl L0 ?_
      refine E_ci 2 rfl ci2 ?_
      refine E_call rfl (Sp_le (by first | exact Nat.add_le_add_left (Nat.le_of_ble_eq_true rfl) _ | exact Nat.le_of_ble_eq_true rfl | omega) (sp_refuse (d := d) (k := 2) C0 (by first | decide | with_reducible assumption | omega) (by first | decide | with_reducible assumption | omega))) (chkO (a := 3) hh rfl rfl rfl rfl (by show 0 ≤ 8; decide)) (fun h2 r2 => ?_)
      rintro ⟨e2, f2, C2⟩
      rw [e2]
      exact E_rtz rfl (.inl rfl) ⟨by rw [isR_l], fr_wk rfl f2, C2, fun q => by cases q⟩
    refine E_al rfl L0 ?_
    refine E_ogf rfl hh rfl rfl v2 ?_
    refine E_il rfl L1 ?_
    by_cases b2 : v < lo
    · refine E_icT rfl (decide_eq_true ((nJ_lt (by first | decide | with_reducible assumption | omega) (by first | decide | with_reducible assumption | omega)).mpr b2)) ?_
      exact no2 (fun q => absurd (vb.mpr q) (by first | decide | with_reducible assumption | omega))
    refine E_icF rfl (decide_eq_false (fun q => b2 ((nJ_lt (by first | decide | with_reducible assumption | omega) (by first | decide | with_reducible assumption | omega)).mp q))) ?_
    refine E_al rfl L0 ?_
    refine E_ogf rfl hh rfl rfl v2 ?_
    refine E_il rfl L2 ?_
    by_cases b3 : v ≤ hi
    · refine E_icT rfl (decide_eq_true ((nJ_le (by first | decide | with_reducible assumption | omega) (by first | decide | with_reducible assumption | omega)).mpr b3)) ?_
      have vq := vb.mp ⟨by omega, b3⟩
      have ev := Vr_eq v3 (hi := hi) (by first | decide | with_reducible assumption | omega) vq.2
      have ok : okN T L lo hi s = true := okN_iff.mpr ⟨b1, vq⟩
      rw [(bN_T ok).1, (bN_T ok).2]
      refine E_al rfl L0 ?_
      refine E_al rfl L0 ?_
      refine E_ogf rfl hh rfl rfl v2 ?_
      refine E_opf (q := (0, 99)) rfl hh rfl rfl ?_
      have hh1 : HH (pt h 3 9 (nJ v)) := HH_ptn hh rfl (by first | decide | with_reducible assumption | omega) (by first | decide | with_reducible assumption | omega) (by first | decide | with_reducible assumption | omega)
      have C1 : CS T L (.inr s) (pt h 3 9 (nJ v)) := ⟨TA_pt A (by first | decide | with_reducible assumption | omega) hh1, ⟨by rw [gi_ne (by first | exact gxx rfl | omega)]; exact c6, by rw [gi_ne (by first | exact gxx rfl | omega)]; exact c7, by rw [gi_ne (by first | exact gxx rfl | omega)]; exact c5, fun q => by rw [gi_ne (by first | exact gxx rfl | omega)]; exact c8 q⟩, by rw [gi_ne (by first | exact gxx rfl | omega)]; exact c1, by rw [gi_ne (by first | exact gxx rfl | omega)]; exact c2, hs⟩
      refine E_al rfl L0 ?_
      refine E_call rfl (Sp_le (by first | exact Nat.add_le_add_left (Nat.le_of_ble_eq_true rfl) _ | exact Nat.le_of_ble_eq_true rfl | omega) (sp_nextTok (d := d) C1)) (chkO (a := 3) hh1 rfl rfl rfl rfl (by show 0 ≤ 8; decide)) (fun h2 r2 => ?_)
      rintro ⟨e2, f2, C2⟩
      rw [e2]
      refine E_ci 1 rfl ci1 ?_
      refine E_rtz rfl (.inr rfl) ⟨by rw [isR_r], fr_trans (fr_ptr (l := 5) (u := 9) rfl (by first | decide | with_reducible assumption | omega) (by first | decide | with_reducible assumption | omega) (fr_rf _ _)) (fr_wk rfl f2), C2, fun _ => ⟨?_, vq⟩⟩
      rw [fr_gi f2 rfl, ← ev]
      exact gi_ptn hh rfl (by first | decide | with_reducible assumption | omega) (by first | decide | with_reducible assumption | omega) (by first | decide | with_reducible assumption | omega)
    · refine E_icF rfl (decide_eq_false (fun q => b3 ((nJ_le (by first | decide | with_reducible assumption | omega) (by first | decide | with_reducible assumption | omega)).mp q))) ?_
      exact no2 (fun q => b3 (vb.mpr q).2)
  · refine E_icF rfl (decide_eq_false (fun q => b1 ((nJ_eq (by first | decide | with_reducible assumption | omega) (by first | decide | with_reducible assumption | omega)).mp q))) ?_
    rw [(bN_1 b1).1]
    refine E_al rfl L0 ?_
    refine E_ci 1 rfl ci1 ?_
    refine E_call rfl (Sp_le (by first | exact Nat.add_le_add_left (Nat.le_of_ble_eq_true rfl) _ | exact Nat.le_of_ble_eq_true rfl | omega) (sp_refuse (d := d) (k := 1) C0 (by first | decide | with_reducible assumption | omega) (by first | decide | with_reducible assumption | omega))) (chkO (a := 3) hh rfl rfl rfl rfl (by show 0 ≤ 8; decide)) (fun h2 r2 => ?_)
    rintro ⟨e2, f2, C2⟩
    rw [e2]
    exact E_rtz rfl (.inl rfl) ⟨by rw [isR_l], fr_wk rfl f2, C2, fun q => by cases q⟩
theorem sp_takeSemi (C : CS T L (.inr s) h) : Sp (d + 6) 40 h [.ref 3] (fun h' r => r = some (.int (zb (isR (bS T L (.inr s)) = true))) ∧ fr_g [(3, 1, 2), (3, 5, 8)] h h' ∧ CS T L (bS T L (.inr s)) h') := by
  have hh : HH h := C.1.1
  have c5 := C.2.1.2.2.1
  have hkk := tkk_le (T := T) (L := L) (s := s)
  refine Sp_of aiX2_takeSemicolon rfl rfl rfl ?_
  have L0 : pm_get (lv_args 0 [.ref 3]) 0 = some (.ref 3) := rfl
  generalize lv_args 0 [.ref 3] = lv at L0 ⊢
  refine E_al rfl L0 ?_
  refine E_ogf (q := (0, 4)) rfl hh rfl rfl c5 ?_
  refine E_ci 3 rfl ci3 ?_
  by_cases b1 : tkk T L s = 3
  · rw [bS_T b1]
    refine E_icT rfl (decide_eq_true (by rw [b1])) ?_
    refine E_al rfl L0 ?_
    refine E_call rfl (Sp_le (by first | exact Nat.add_le_add_left (Nat.le_of_ble_eq_true rfl) _ | exact Nat.le_of_ble_eq_true rfl | omega) (sp_nextTok (d := d) C)) (chkO (a := 3) hh rfl rfl rfl rfl (by show 0 ≤ 8; decide)) (fun h2 r2 => ?_)
    rintro ⟨e2, f2, C2⟩
    rw [e2]
    refine E_ci 1 rfl ci1 ?_
    exact E_rtz rfl (.inr rfl) ⟨by rw [isR_r], fr_wk rfl f2, C2⟩
  · rw [bS_F b1]
    refine E_icF rfl (decide_eq_false (fun q => b1 ((nJ_eq (by first | decide | with_reducible assumption | omega) (by first | decide | with_reducible assumption | omega)).mp q))) ?_
    refine E_al rfl L0 ?_
    refine E_ci 1 rfl ci1 ?_
    refine E_call rfl (Sp_le (by first | exact Nat.add_le_add_left (Nat.le_of_ble_eq_true rfl) _ | exact Nat.le_of_ble_eq_true rfl | omega) (sp_refuse (d := d) (k := 1) C (by first | decide | with_reducible assumption | omega) (by first | decide | with_reducible assumption | omega))) (chkO (a := 3) hh rfl rfl rfl rfl (by show 0 ≤ 8; decide)) (fun h2 r2 => ?_)
    rintro ⟨e2, f2, C2⟩
    rw [e2]
    exact E_rtz rfl (.inl rfl) ⟨by rw [isR_l], fr_wk rfl f2, C2⟩
end COP
end
