section
/-! the law's invariant (written by gen_t20.py) -/
noncomputable def CF : List Nat := [20, 41, 62, 83, 104]
noncomputable def IVh (h : pm_H) : Prop := HH h ∧ (∀ i ∈ CF, w0.1.2.1 i h) ∧ RV h
theorem fact_fr {M : List Rng} {h h' : pm_H} {i : Nat} (hM : M.all (fun r => rg_dis (sp0 i) r.1 r.2.1 r.2.2) = true) (hh : HH h) (hh' : HH h') (hf : fr_g M h h') (hi : w0.1.2.1 i h) : w0.1.2.1 i h' := by
  refine w0.2 i h h' hh hh' (fun a k hak => hf a k ?_) hi
  cases hb : rg_in M a k with
  | false => rfl
  | true =>
    obtain ⟨r, hr, hc⟩ := List.any_eq_true.mp hb
    simp only [Bool.and_eq_true] at hc
    have h1 := List.all_eq_true.mp hM r hr
    have he := Nat.eq_of_beq_eq_true hc.1
    subst he
    have h2 : rg_in (sp0 i) r.1 k = false := rg_dis_in h1 (Nat.le_of_ble_eq_true hc.2.1) (Nat.le_of_ble_eq_true hc.2.2)
    have h3 : rg_in (sp0 i) r.1 k = true := hak
    rw [h2] at h3
    cases h3
theorem IVh_fr {M : List Rng} {h h' : pm_H} (hM : CF.all (fun i => M.all (fun r => rg_dis (sp0 i) r.1 r.2.1 r.2.2)) = true) (hf : fr_g M h h') (hh' : HH h') (I : IVh h) (V : RV h') : IVh h' :=
  ⟨hh', fun i hi => fact_fr (List.all_eq_true.mp hM i hi) I.1 hh' hf (I.2.1 i hi), V⟩
theorem top_sum {d : Nat} {S : Sum1} (q : sum_g w0 (pm_Rt pm_P d) S) (hm : S.2.2.1 = []) (hp : S.2.2.2.1.all (fun i => CF.contains i || Nat.beq i 125) = true) (hv : S.2.2.2.2.1.all (fun r => !(Nat.beq r.1 84) && (!(Nat.beq r.1 85) && !(Nat.beq r.1 87))) = true) (hk : S.2.2.2.2.2.all (fun C => CF.all (fun i => C.2.2.1.contains i || S.2.2.2.2.1.all (fun r => rg_dis (sp0 i) r.1 r.2.1 r.2.2))) = true) {h : pm_H} {as : List Value} (I : IVh h) (ha : f2 cv_g S.2.1 as) : Sp d S.1 h as (fun h' r => IVh h' ∧ fr_g S.2.2.2.2.1 h h' ∧ ∃ C ∈ S.2.2.2.2.2, mm_g h' C.2.1 ∧ rv_g h' C.2.2.2 r) := by
  refine Sp_mono ?_ (Sp_sum q I.1 ha (by rw [hm]; exact fun _ hq => absurd hq List.not_mem_nil) (fun i hi => ?_))
  · rintro h' r ⟨q1, q2, C, hC, -, q5, q3, q4⟩
    refine ⟨⟨q1, fun i hi => ?_, RV_fr I.1 hv q2 I.2.2⟩, q2, C, hC, q5, q4⟩
    have h1 := List.all_eq_true.mp (List.all_eq_true.mp hk C hC) i hi
    rw [Bool.or_eq_true] at h1
    cases h1 with
    | inl h1 => exact q3 i (by simpa using h1)
    | inr h1 => exact fact_fr h1 I.1 q1 q2 (I.2.1 i hi)
  · have h1 := List.all_eq_true.mp hp i hi
    rw [Bool.or_eq_true] at h1
    cases h1 with
    | inl h1 => exact I.2.1 i (by simpa using h1)
    | inr h1 => rw [Nat.eq_of_beq_eq_true h1]; exact FAg_fact I.1 (I.2.2.2 0 (by first | decide | with_reducible assumption | omega))
noncomputable def isI (C : Cs) : Bool := match C.2.2.2 with
  | some (.inl (.inl _)) => true
  | some (.inr _) => true
  | _ => false
noncomputable def isL (C : Cs) : Bool := match C.2.2.2 with
  | some (.inl (.inr (.inl _))) => true
  | _ => false
theorem rv_isI {C : Cs} {h : pm_H} {r : Option Value} (hC : isI C = true) (hv : rv_g h C.2.2.2 r) : ∃ x : Int32, r = some (.int x) := by
  unfold isI at hC
  split at hC
  · rename_i c e
    rw [e] at hv
    cases r with
    | none => exact hv.elim
    | some v => cases v with
      | int x => exact ⟨x, rfl⟩
      | _ => exact hv.elim
  · rename_i c e
    rw [e] at hv
    cases r with
    | none => exact hv.elim
    | some v => cases v with
      | int x => exact ⟨x, rfl⟩
      | _ => exact hv.elim
  · cases hC
theorem rv_isL {C : Cs} {h : pm_H} {r : Option Value} (hC : isL C = true) (hv : rv_g h C.2.2.2 r) : ∃ x : Int64, r = some (.long x) := by
  unfold isL at hC
  split at hC
  · rename_i c e
    rw [e] at hv
    cases r with
    | none => exact hv.elim
    | some v => cases v with
      | long x => exact ⟨x, rfl⟩
      | _ => exact hv.elim
  · cases hC
noncomputable def topB (S : Sum1) : Bool := (match S.2.2.1 with | [] => true | _ => false) && (S.2.2.2.1.all (fun i => CF.contains i || Nat.beq i 125) && (S.2.2.2.2.1.all (fun r => !(Nat.beq r.1 84) && (!(Nat.beq r.1 85) && !(Nat.beq r.1 87))) && S.2.2.2.2.2.all (fun C => CF.all (fun i => C.2.2.1.contains i || S.2.2.2.2.1.all (fun r => rg_dis (sp0 i) r.1 r.2.1 r.2.2)))))
theorem topB_m {S : Sum1} (h : topB S = true) : S.2.2.1 = [] := by
  unfold topB at h
  rw [Bool.and_eq_true] at h
  have h1 := h.1
  split at h1
  · assumption
  · cases h1
theorem topB_r {S : Sum1} (h : topB S = true) : S.2.2.2.1.all (fun i => CF.contains i || Nat.beq i 125) = true ∧ S.2.2.2.2.1.all (fun r => !(Nat.beq r.1 84) && (!(Nat.beq r.1 85) && !(Nat.beq r.1 87))) = true ∧ S.2.2.2.2.2.all (fun C => CF.all (fun i => C.2.2.1.contains i || S.2.2.2.2.1.all (fun r => rg_dis (sp0 i) r.1 r.2.1 r.2.2))) = true := by
  unfold topB at h
  rw [Bool.and_eq_true, Bool.and_eq_true, Bool.and_eq_true] at h
  exact h.2
theorem top_all {d : Nat} {S : Sum1} (q : sum_g w0 (pm_Rt pm_P d) S) (hb : topB S = true) {h : pm_H} {as : List Value} (I : IVh h) (ha : f2 cv_g S.2.1 as) : Sp d S.1 h as (fun h' r => IVh h' ∧ fr_g S.2.2.2.2.1 h h' ∧ ∃ C ∈ S.2.2.2.2.2, mm_g h' C.2.1 ∧ rv_g h' C.2.2.2 r) := by
  obtain ⟨b1, b2, b3⟩ := topB_r hb
  exact top_sum q (topB_m hb) b1 b2 b3 I ha
theorem top_int {d : Nat} {S : Sum1} (q : sum_g w0 (pm_Rt pm_P d) S) (hb : topB S = true) (hi : S.2.2.2.2.2.all isI = true) {h : pm_H} {as : List Value} (I : IVh h) (ha : f2 cv_g S.2.1 as) : Sp d S.1 h as (fun h' r => IVh h' ∧ fr_g S.2.2.2.2.1 h h' ∧ ∃ x : Int32, r = some (.int x)) := by
  refine Sp_mono ?_ (top_all q hb I ha)
  rintro h' r ⟨q1, q2, C, hC, -, q3⟩
  exact ⟨q1, q2, rv_isI (List.all_eq_true.mp hi C hC) q3⟩
theorem top_lng {d : Nat} {S : Sum1} (q : sum_g w0 (pm_Rt pm_P d) S) (hb : topB S = true) (hi : S.2.2.2.2.2.all isL = true) {h : pm_H} {as : List Value} (I : IVh h) (ha : f2 cv_g S.2.1 as) : Sp d S.1 h as (fun h' r => IVh h' ∧ fr_g S.2.2.2.2.1 h h' ∧ ∃ x : Int64, r = some (.long x)) := by
  refine Sp_mono ?_ (top_all q hb I ha)
  rintro h' r ⟨q1, q2, C, hC, -, q3⟩
  exact ⟨q1, q2, rv_isL (List.all_eq_true.mp hi C hC) q3⟩
theorem top_TQ {d y : Nat} {h : pm_H} {as : List Value} (hd : Nat.ble d 100 = true) (I : IVh h) (k : Sp d y h as (TQ h)) : Sp 100 y h as (fun h' r => IVh h' ∧ fr_g TM h h' ∧ ∃ x : Int32, r = some (.int x)) := by
  refine Sp_le (Nat.le_of_ble_eq_true hd) (Sp_mono ?_ k)
  rintro h' r ⟨q1, q2, q3⟩
  exact ⟨IVh_fr (M := TM) (by decide +kernel) q2 q1 I (RV_fr I.1 rfl q2 I.2.2), q2, q3⟩
theorem top_VQ {d y : Nat} {h : pm_H} {as : List Value} (hd : Nat.ble d 100 = true) (I : IVh h) (k : Sp d y h as (VQ h)) : Sp 100 y h as (fun h' r => IVh h' ∧ fr_g VM h h' ∧ ∃ x : Int32, r = some (.int x)) := by
  refine Sp_le (Nat.le_of_ble_eq_true hd) (Sp_mono ?_ k)
  rintro h' r ⟨q1, q2, q3, q4⟩
  exact ⟨IVh_fr (M := VM) (by decide +kernel) q2 q1 I q3, q2, q4⟩
theorem aI (x : Int32) : cv_g (cI (-2147483648) 2147483647) (.int x) := ⟨ai_lo x, ai_hi x⟩
theorem aL (x : Int64) : cv_g (cL (-9223372036854775808) 9223372036854775807) (.long x) := ⟨al_lo x, al_hi x⟩
theorem hs_f2 : ∀ {hs : List AE} {h : pm_H}, f2 ae_g hs h → hs_g hs h
  | [], [], _ => ⟨rfl, fun a c x h1 _ => by cases h1⟩
  | [], _ :: _, h => h.elim
  | _ :: _, [], h => h.elim
  | c0 :: hs, x0 :: h, hf => by
    have ih := hs_f2 hf.2
    refine ⟨congrArg (· + 1) ih.1, fun a c x h1 h2 => ?_⟩
    cases a with
    | zero => cases h1; cases h2; exact hf.1
    | succ a => exact ih.2 a c x h1 h2
theorem z_arr {p : List (Int × Int)} (hp : p.all (fun q => decide (q.1 ≤ 0) && decide (0 ≤ q.2)) = true) : ∀ (j : Nat) (lo hi : Int), pat_at p j = some (lo, hi) → lo ≤ ((fun _ : Nat => (0 : Int32)) j).toInt ∧ ((fun _ : Nat => (0 : Int32)) j).toInt ≤ hi := by
  intro j lo hi hj
  have h1 := List.all_eq_true.mp hp (lo, hi) (List.mem_of_getElem? hj)
  simp only [Bool.and_eq_true, decide_eq_true_eq] at h1
  exact h1
theorem z_wid : ∀ (j : Nat) (lo hi : Int), pat_at [((-1 : Int), (3 : Int))] j = some (lo, hi) → lo ≤ (upd (upd (upd (upd (fun _ => 0) 0 (-1)) 1 (-1)) 2 (-1)) 3 (-1) j).toInt ∧ (upd (upd (upd (upd (fun _ => 0) 0 (-1)) 1 (-1)) 2 (-1)) 3 (-1) j).toInt ≤ hi := by
  intro j lo hi hj
  have h1 : (lo, hi) = (-1, 3) := List.mem_singleton.mp (List.mem_of_getElem? hj)
  cases h1
  unfold upd
  have e1 : (-1 : Int32).toInt = -1 := rfl
  have e0 : (0 : Int32).toInt = 0 := rfl
  split
  · omega
  · split
    · omega
    · split
      · omega
      · split
        · omega
        · show (-1 : Int) ≤ (0 : Int32).toInt ∧ (0 : Int32).toInt ≤ 3; omega
noncomputable def af_b (c : AF) (v : Value) : Bool := match c, v with
  | .inl (lo, hi), .int x => decide (lo ≤ x.toInt) && decide (x.toInt ≤ hi)
  | .inr (.inl ()), .long _ => true
  | .inr (.inr (.inl a)), .ref a' => Nat.beq a' a
  | .inr (.inr (.inr ())), .null => true
  | _, _ => false
theorem af_b_ok {c : AF} {v : Value} (h : af_b c v = true) : af_g c v := by
  unfold af_b at h
  split at h
  · simp only [Bool.and_eq_true, decide_eq_true_eq] at h; exact h
  · trivial
  · exact Nat.eq_of_beq_eq_true h
  · trivial
  · cases h
theorem o_chk : ∀ {fs : List AF} {vs : List Value}, (fs.zip vs).all (fun q => af_b q.1 q.2) = true → ∀ (k : Nat) (c : AF) (v : Value), fs[k]? = some c → vs[k]? = some v → af_g c v
  | [], _, _, k, c, v, h1, _ => by cases h1
  | _ :: _, [], _, k, c, v, _, h2 => by cases h2
  | f :: fs, u :: vs, h, k, c, v, h1, h2 => by
    rw [List.zip_cons_cons, List.all_cons, Bool.and_eq_true] at h
    cases k with
    | zero => cases h1; cases h2; exact af_b_ok h.1
    | succ k => exact o_chk h.2 k c v h1 h2
theorem HH_hp0 : HH hp0 := by
  refine hs_f2 ?_
  refine And.intro (show ae_g (.inr (.inr (.inr (8, [.inr (.inr (.inl 1)), .inr (.inr (.inl 3)), .inr (.inr (.inl 15)), .inr (.inr (.inl 24)), .inr (.inr (.inl 52)), .inr (.inr (.inl 53)), .inr (.inr (.inl 62)), .inr (.inr (.inl 64)), .inr (.inr (.inl 70)), .inr (.inr (.inl 72)), .inr (.inr (.inl 75)), .inr (.inr (.inl 76))])))) (.inr (8, [.ref 1, .ref 3, .ref 15, .ref 24, .ref 52, .ref 53, .ref 62, .ref 64, .ref 70, .ref 72, .ref 75, .ref 76])) from ⟨rfl, rfl, o_chk (by decide)⟩) ?_
  refine And.intro (show ae_g (.inr (.inr (.inr (6, [.inr (.inr (.inl 2)), .inl (0, 500)])))) (.inr (6, [.ref 2, .int 0])) from ⟨rfl, rfl, o_chk (by decide)⟩) ?_
  refine And.intro (show ae_g (.inl (1, 500, [((-128), 127)])) (.inl (1, 500, .inl (fun _ => 0))) from ⟨rfl, rfl, z_arr (by decide)⟩) ?_
  refine And.intro (show ae_g (.inr (.inr (.inr (2, [.inr (.inr (.inl 4)), .inl (0, 3), .inl ((-1), 500), .inr (.inr (.inl 1)), .inr (.inr (.inl 13)), .inl (0, 4), .inl (0, 500), .inl (0, 500), .inl ((-2147483648), 2147483647), .inl (0, 99)])))) (.inr (2, [.ref 4, .int 0, .int (-1), .ref 1, .ref 13, .int 0, .int 0, .int 0, .int 0, .int 0])) from ⟨rfl, rfl, o_chk (by decide)⟩) ?_
  refine And.intro (show ae_g (.inr (.inr (.inr (5, [.inl (0, 8), .inl (0, 3), .inl (0, 10), .inl ((-2147483648), 2147483647), .inl (0, 8), .inl (0, 8), .inl (0, 20), .inr (.inr (.inl 5)), .inr (.inr (.inl 6)), .inr (.inr (.inl 7)), .inr (.inr (.inl 8)), .inr (.inr (.inl 9)), .inr (.inr (.inl 10)), .inr (.inr (.inl 11)), .inr (.inr (.inl 12))])))) (.inr (5, [.int 0, .int 0, .int 0, .int 0, .int 0, .int 0, .int 0, .ref 5, .ref 6, .ref 7, .ref 8, .ref 9, .ref 10, .ref 11, .ref 12])) from ⟨rfl, rfl, o_chk (by decide)⟩) ?_
  refine And.intro (show ae_g (.inl (0, 8, [(0, 8)])) (.inl (0, 8, .inl (fun _ => 0))) from ⟨rfl, rfl, z_arr (by decide)⟩) ?_
  refine And.intro (show ae_g (.inl (0, 8, [(0, 8)])) (.inl (0, 8, .inl (fun _ => 0))) from ⟨rfl, rfl, z_arr (by decide)⟩) ?_
  refine And.intro (show ae_g (.inl (0, 8, [(0, 99)])) (.inl (0, 8, .inl (fun _ => 0))) from ⟨rfl, rfl, z_arr (by decide)⟩) ?_
  refine And.intro (show ae_g (.inl (0, 8, [(0, 9)])) (.inl (0, 8, .inl (fun _ => 0))) from ⟨rfl, rfl, z_arr (by decide)⟩) ?_
  refine And.intro (show ae_g (.inl (0, 8, [(0, 9)])) (.inl (0, 8, .inl (fun _ => 0))) from ⟨rfl, rfl, z_arr (by decide)⟩) ?_
  refine And.intro (show ae_g (.inl (0, 20, [(0, 7)])) (.inl (0, 20, .inl (fun _ => 0))) from ⟨rfl, rfl, z_arr (by decide)⟩) ?_
  refine And.intro (show ae_g (.inl (0, 20, [(0, 8)])) (.inl (0, 20, .inl (fun _ => 0))) from ⟨rfl, rfl, z_arr (by decide)⟩) ?_
  refine And.intro (show ae_g (.inl (2, 20, [(0, 1)])) (.inl (2, 20, .inl (fun _ => 0))) from ⟨rfl, rfl, z_arr (by decide)⟩) ?_
  refine And.intro (show ae_g (.inr (.inr (.inr (0, [.inr (.inr (.inl 14)), .inl (0, 9)])))) (.inr (0, [.ref 14, .int 0])) from ⟨rfl, rfl, o_chk (by decide)⟩) ?_
  refine And.intro (show ae_g (.inl (0, 10, [(0, 511)])) (.inl (0, 10, .inl (fun _ => 0))) from ⟨rfl, rfl, z_arr (by decide)⟩) ?_
  refine And.intro (show ae_g (.inr (.inr (.inr (5, [.inl (0, 8), .inl (0, 3), .inl (0, 10), .inl ((-2147483648), 2147483647), .inl (0, 8), .inl (0, 8), .inl (0, 20), .inr (.inr (.inl 16)), .inr (.inr (.inl 17)), .inr (.inr (.inl 18)), .inr (.inr (.inl 19)), .inr (.inr (.inl 20)), .inr (.inr (.inl 21)), .inr (.inr (.inl 22)), .inr (.inr (.inl 23))])))) (.inr (5, [.int 0, .int 0, .int 0, .int 0, .int 0, .int 0, .int 0, .ref 16, .ref 17, .ref 18, .ref 19, .ref 20, .ref 21, .ref 22, .ref 23])) from ⟨rfl, rfl, o_chk (by decide)⟩) ?_
  refine And.intro (show ae_g (.inl (0, 8, [(0, 8)])) (.inl (0, 8, .inl (fun _ => 0))) from ⟨rfl, rfl, z_arr (by decide)⟩) ?_
  refine And.intro (show ae_g (.inl (0, 8, [(0, 8)])) (.inl (0, 8, .inl (fun _ => 0))) from ⟨rfl, rfl, z_arr (by decide)⟩) ?_
  refine And.intro (show ae_g (.inl (0, 8, [(0, 99)])) (.inl (0, 8, .inl (fun _ => 0))) from ⟨rfl, rfl, z_arr (by decide)⟩) ?_
  refine And.intro (show ae_g (.inl (0, 8, [(0, 9)])) (.inl (0, 8, .inl (fun _ => 0))) from ⟨rfl, rfl, z_arr (by decide)⟩) ?_
  refine And.intro (show ae_g (.inl (0, 8, [(0, 9)])) (.inl (0, 8, .inl (fun _ => 0))) from ⟨rfl, rfl, z_arr (by decide)⟩) ?_
  refine And.intro (show ae_g (.inl (0, 20, [(0, 7)])) (.inl (0, 20, .inl (fun _ => 0))) from ⟨rfl, rfl, z_arr (by decide)⟩) ?_
  refine And.intro (show ae_g (.inl (0, 20, [(0, 8)])) (.inl (0, 20, .inl (fun _ => 0))) from ⟨rfl, rfl, z_arr (by decide)⟩) ?_
  refine And.intro (show ae_g (.inl (2, 20, [(0, 1)])) (.inl (2, 20, .inl (fun _ => 0))) from ⟨rfl, rfl, z_arr (by decide)⟩) ?_
  refine And.intro (show ae_g (.inr (.inr (.inl (4, [some 25, some 34, some 43])))) (.inl (4, 3, .inr (.inr (.inr (.inr (va_up (va_up (va_up (fun _ => none) 0 (some 25)) 1 (some 34)) 2 (some 43))))))) from ⟨rfl, rfl, fun j y hj => by match j, hj with | 0, hj => cases hj; rfl | 1, hj => cases hj; rfl | 2, hj => cases hj; rfl | j + 3, hj => cases hj⟩) ?_
  refine And.intro (show ae_g (.inr (.inr (.inr (5, [.inl (0, 8), .inl (0, 3), .inl (0, 10), .inl ((-2147483648), 2147483647), .inl (0, 8), .inl (0, 8), .inl (0, 20), .inr (.inr (.inl 26)), .inr (.inr (.inl 27)), .inr (.inr (.inl 28)), .inr (.inr (.inl 29)), .inr (.inr (.inl 30)), .inr (.inr (.inl 31)), .inr (.inr (.inl 32)), .inr (.inr (.inl 33))])))) (.inr (5, [.int 0, .int 0, .int 0, .int 0, .int 0, .int 0, .int 0, .ref 26, .ref 27, .ref 28, .ref 29, .ref 30, .ref 31, .ref 32, .ref 33])) from ⟨rfl, rfl, o_chk (by decide)⟩) ?_
  refine And.intro (show ae_g (.inl (0, 8, [(0, 8)])) (.inl (0, 8, .inl (fun _ => 0))) from ⟨rfl, rfl, z_arr (by decide)⟩) ?_
  refine And.intro (show ae_g (.inl (0, 8, [(0, 8)])) (.inl (0, 8, .inl (fun _ => 0))) from ⟨rfl, rfl, z_arr (by decide)⟩) ?_
  refine And.intro (show ae_g (.inl (0, 8, [(0, 99)])) (.inl (0, 8, .inl (fun _ => 0))) from ⟨rfl, rfl, z_arr (by decide)⟩) ?_
  refine And.intro (show ae_g (.inl (0, 8, [(0, 9)])) (.inl (0, 8, .inl (fun _ => 0))) from ⟨rfl, rfl, z_arr (by decide)⟩) ?_
  refine And.intro (show ae_g (.inl (0, 8, [(0, 9)])) (.inl (0, 8, .inl (fun _ => 0))) from ⟨rfl, rfl, z_arr (by decide)⟩) ?_
  refine And.intro (show ae_g (.inl (0, 20, [(0, 7)])) (.inl (0, 20, .inl (fun _ => 0))) from ⟨rfl, rfl, z_arr (by decide)⟩) ?_
  refine And.intro (show ae_g (.inl (0, 20, [(0, 8)])) (.inl (0, 20, .inl (fun _ => 0))) from ⟨rfl, rfl, z_arr (by decide)⟩) ?_
  refine And.intro (show ae_g (.inl (2, 20, [(0, 1)])) (.inl (2, 20, .inl (fun _ => 0))) from ⟨rfl, rfl, z_arr (by decide)⟩) ?_
  refine And.intro (show ae_g (.inr (.inr (.inr (5, [.inl (0, 8), .inl (0, 3), .inl (0, 10), .inl ((-2147483648), 2147483647), .inl (0, 8), .inl (0, 8), .inl (0, 20), .inr (.inr (.inl 35)), .inr (.inr (.inl 36)), .inr (.inr (.inl 37)), .inr (.inr (.inl 38)), .inr (.inr (.inl 39)), .inr (.inr (.inl 40)), .inr (.inr (.inl 41)), .inr (.inr (.inl 42))])))) (.inr (5, [.int 0, .int 0, .int 0, .int 0, .int 0, .int 0, .int 0, .ref 35, .ref 36, .ref 37, .ref 38, .ref 39, .ref 40, .ref 41, .ref 42])) from ⟨rfl, rfl, o_chk (by decide)⟩) ?_
  refine And.intro (show ae_g (.inl (0, 8, [(0, 8)])) (.inl (0, 8, .inl (fun _ => 0))) from ⟨rfl, rfl, z_arr (by decide)⟩) ?_
  refine And.intro (show ae_g (.inl (0, 8, [(0, 8)])) (.inl (0, 8, .inl (fun _ => 0))) from ⟨rfl, rfl, z_arr (by decide)⟩) ?_
  refine And.intro (show ae_g (.inl (0, 8, [(0, 99)])) (.inl (0, 8, .inl (fun _ => 0))) from ⟨rfl, rfl, z_arr (by decide)⟩) ?_
  refine And.intro (show ae_g (.inl (0, 8, [(0, 9)])) (.inl (0, 8, .inl (fun _ => 0))) from ⟨rfl, rfl, z_arr (by decide)⟩) ?_
  refine And.intro (show ae_g (.inl (0, 8, [(0, 9)])) (.inl (0, 8, .inl (fun _ => 0))) from ⟨rfl, rfl, z_arr (by decide)⟩) ?_
  refine And.intro (show ae_g (.inl (0, 20, [(0, 7)])) (.inl (0, 20, .inl (fun _ => 0))) from ⟨rfl, rfl, z_arr (by decide)⟩) ?_
  refine And.intro (show ae_g (.inl (0, 20, [(0, 8)])) (.inl (0, 20, .inl (fun _ => 0))) from ⟨rfl, rfl, z_arr (by decide)⟩) ?_
  refine And.intro (show ae_g (.inl (2, 20, [(0, 1)])) (.inl (2, 20, .inl (fun _ => 0))) from ⟨rfl, rfl, z_arr (by decide)⟩) ?_
  refine And.intro (show ae_g (.inr (.inr (.inr (5, [.inl (0, 8), .inl (0, 3), .inl (0, 10), .inl ((-2147483648), 2147483647), .inl (0, 8), .inl (0, 8), .inl (0, 20), .inr (.inr (.inl 44)), .inr (.inr (.inl 45)), .inr (.inr (.inl 46)), .inr (.inr (.inl 47)), .inr (.inr (.inl 48)), .inr (.inr (.inl 49)), .inr (.inr (.inl 50)), .inr (.inr (.inl 51))])))) (.inr (5, [.int 0, .int 0, .int 0, .int 0, .int 0, .int 0, .int 0, .ref 44, .ref 45, .ref 46, .ref 47, .ref 48, .ref 49, .ref 50, .ref 51])) from ⟨rfl, rfl, o_chk (by decide)⟩) ?_
  refine And.intro (show ae_g (.inl (0, 8, [(0, 8)])) (.inl (0, 8, .inl (fun _ => 0))) from ⟨rfl, rfl, z_arr (by decide)⟩) ?_
  refine And.intro (show ae_g (.inl (0, 8, [(0, 8)])) (.inl (0, 8, .inl (fun _ => 0))) from ⟨rfl, rfl, z_arr (by decide)⟩) ?_
  refine And.intro (show ae_g (.inl (0, 8, [(0, 99)])) (.inl (0, 8, .inl (fun _ => 0))) from ⟨rfl, rfl, z_arr (by decide)⟩) ?_
  refine And.intro (show ae_g (.inl (0, 8, [(0, 9)])) (.inl (0, 8, .inl (fun _ => 0))) from ⟨rfl, rfl, z_arr (by decide)⟩) ?_
  refine And.intro (show ae_g (.inl (0, 8, [(0, 9)])) (.inl (0, 8, .inl (fun _ => 0))) from ⟨rfl, rfl, z_arr (by decide)⟩) ?_
  refine And.intro (show ae_g (.inl (0, 20, [(0, 7)])) (.inl (0, 20, .inl (fun _ => 0))) from ⟨rfl, rfl, z_arr (by decide)⟩) ?_
  refine And.intro (show ae_g (.inl (0, 20, [(0, 8)])) (.inl (0, 20, .inl (fun _ => 0))) from ⟨rfl, rfl, z_arr (by decide)⟩) ?_
  refine And.intro (show ae_g (.inl (2, 20, [(0, 1)])) (.inl (2, 20, .inl (fun _ => 0))) from ⟨rfl, rfl, z_arr (by decide)⟩) ?_
  refine And.intro (show ae_g (.inl (2, 3, [(0, 1)])) (.inl (2, 3, .inl (fun _ => 0))) from ⟨rfl, rfl, z_arr (by decide)⟩) ?_
  refine And.intro (show ae_g (.inr (.inr (.inl (5, [some 54, some 56, some 58, some 60])))) (.inl (5, 4, .inr (.inr (.inr (.inr (va_up (va_up (va_up (va_up (fun _ => none) 0 (some 54)) 1 (some 56)) 2 (some 58)) 3 (some 60))))))) from ⟨rfl, rfl, fun j y hj => by match j, hj with | 0, hj => cases hj; rfl | 1, hj => cases hj; rfl | 2, hj => cases hj; rfl | 3, hj => cases hj; rfl | j + 4, hj => cases hj⟩) ?_
  refine And.intro (show ae_g (.inr (.inr (.inr (4, [.inr (.inr (.inl 55)), .inl (0, 1), .inl (0, 3), .inl (0, 60)])))) (.inr (4, [.ref 55, .int 0, .int 0, .int 0])) from ⟨rfl, rfl, o_chk (by decide)⟩) ?_
  refine And.intro (show ae_g (.inr (.inl 60)) (.inl (3, 60, .inr (.inl (fun _ => 0)))) from ⟨rfl, rfl⟩) ?_
  refine And.intro (show ae_g (.inr (.inr (.inr (4, [.inr (.inr (.inl 57)), .inl (0, 1), .inl (0, 3), .inl (0, 60)])))) (.inr (4, [.ref 57, .int 0, .int 0, .int 0])) from ⟨rfl, rfl, o_chk (by decide)⟩) ?_
  refine And.intro (show ae_g (.inr (.inl 60)) (.inl (3, 60, .inr (.inl (fun _ => 0)))) from ⟨rfl, rfl⟩) ?_
  refine And.intro (show ae_g (.inr (.inr (.inr (4, [.inr (.inr (.inl 59)), .inl (0, 1), .inl (0, 3), .inl (0, 60)])))) (.inr (4, [.ref 59, .int 0, .int 0, .int 0])) from ⟨rfl, rfl, o_chk (by decide)⟩) ?_
  refine And.intro (show ae_g (.inr (.inl 60)) (.inl (3, 60, .inr (.inl (fun _ => 0)))) from ⟨rfl, rfl⟩) ?_
  refine And.intro (show ae_g (.inr (.inr (.inr (4, [.inr (.inr (.inl 61)), .inl (0, 1), .inl (0, 3), .inl (0, 60)])))) (.inr (4, [.ref 61, .int 0, .int 0, .int 0])) from ⟨rfl, rfl, o_chk (by decide)⟩) ?_
  refine And.intro (show ae_g (.inr (.inl 60)) (.inl (3, 60, .inr (.inl (fun _ => 0)))) from ⟨rfl, rfl⟩) ?_
  refine And.intro (show ae_g (.inr (.inr (.inr (1, [.inr (.inr (.inl 63)), .inl (0, 511), .inl (0, 255), .inl ((-2147483648), 2147483647)])))) (.inr (1, [.ref 63, .int 0, .int 0, .int 0])) from ⟨rfl, rfl, o_chk (by decide)⟩) ?_
  refine And.intro (show ae_g (.inl (0, 8, [(0, 9)])) (.inl (0, 8, .inl (fun _ => 0))) from ⟨rfl, rfl, z_arr (by decide)⟩) ?_
  refine And.intro (show ae_g (.inr (.inr (.inr (7, [.inr (.inr (.inl 65)), .inr (.inr (.inl 66)), .inr (.inr (.inl 67)), .inr (.inr (.inl 68)), .inr (.inr (.inl 69)), .inl (0, 9), .inl (0, 9)])))) (.inr (7, [.ref 65, .ref 66, .ref 67, .ref 68, .ref 69, .int 0, .int 0])) from ⟨rfl, rfl, o_chk (by decide)⟩) ?_
  refine And.intro (show ae_g (.inl (0, 9, [(0, 8)])) (.inl (0, 9, .inl (fun _ => 0))) from ⟨rfl, rfl, z_arr (by decide)⟩) ?_
  refine And.intro (show ae_g (.inl (0, 9, [(0, 8)])) (.inl (0, 9, .inl (fun _ => 0))) from ⟨rfl, rfl, z_arr (by decide)⟩) ?_
  refine And.intro (show ae_g (.inl (0, 9, [((-2147483648), 2147483647)])) (.inl (0, 9, .inl (fun _ => 0))) from ⟨rfl, rfl, z_arr (by decide)⟩) ?_
  refine And.intro (show ae_g (.inl (0, 9, [(0, 511)])) (.inl (0, 9, .inl (fun _ => 0))) from ⟨rfl, rfl, z_arr (by decide)⟩) ?_
  refine And.intro (show ae_g (.inl (0, 9, [(0, 8)])) (.inl (0, 9, .inl (fun _ => 0))) from ⟨rfl, rfl, z_arr (by decide)⟩) ?_
  refine And.intro (show ae_g (.inr (.inr (.inr (0, [.inr (.inr (.inl 71)), .inl (0, 9)])))) (.inr (0, [.ref 71, .int 0])) from ⟨rfl, rfl, o_chk (by decide)⟩) ?_
  refine And.intro (show ae_g (.inl (0, 10, [(0, 511)])) (.inl (0, 10, .inl (fun _ => 0))) from ⟨rfl, rfl, z_arr (by decide)⟩) ?_
  refine And.intro (show ae_g (.inr (.inr (.inr (3, [.inr (.inr (.inl 73)), .inr (.inr (.inl 74))])))) (.inr (3, [.ref 73, .ref 74])) from ⟨rfl, rfl, o_chk (by decide)⟩) ?_
  refine And.intro (show ae_g (.inl (0, 256, [(0, 511)])) (.inl (0, 256, .inl (fun _ => 0))) from ⟨rfl, rfl, z_arr (by decide)⟩) ?_
  refine And.intro (show ae_g (.inl (0, 256, [((-2147483648), 2147483647)])) (.inl (0, 256, .inl (fun _ => 0))) from ⟨rfl, rfl, z_arr (by decide)⟩) ?_
  refine And.intro (show ae_g (.inl (0, 8, [(0, 9)])) (.inl (0, 8, .inl (fun _ => 0))) from ⟨rfl, rfl, z_arr (by decide)⟩) ?_
  refine And.intro (show ae_g (.inl (0, 64, [(0, 9)])) (.inl (0, 64, .inl (fun _ => 0))) from ⟨rfl, rfl, z_arr (by decide)⟩) ?_
  refine And.intro (show ae_g (.inr (.inr (.inr (9, [.inl (0, 0), .inr (.inr (.inl 78)), .inr (.inr (.inl 79)), .inr (.inr (.inl 80)), .inr (.inr (.inl 81)), .inr (.inr (.inl 82)), .inl (0, 500), .inl (0, 500), .inl (0, 4), .inl (0, 500), .inl ((-2147483648), 2147483647), .inr (.inl ()), .inl (0, 3), .inl ((-1), 500), .inl (0, 3), .inl ((-1), 500), .inr (.inr (.inl 83)), .inr (.inr (.inl 84)), .inr (.inr (.inl 85)), .inr (.inr (.inl 86)), .inr (.inr (.inl 87)), .inr (.inr (.inl 88)), .inl (0, 3), .inl ((-2147483648), 2147483647), .inr (.inr (.inl 89)), .inr (.inr (.inl 90)), .inr (.inr (.inl 91)), .inl (0, 255), .inr (.inr (.inl 92)), .inr (.inr (.inl 93)), .inr (.inr (.inl 94)), .inr (.inr (.inl 95)), .inr (.inr (.inl 96)), .inr (.inr (.inl 97)), .inr (.inr (.inl 98)), .inl ((-2147483648), 2147483647), .inl (0, 9), .inr (.inr (.inl 99)), .inr (.inr (.inl 100)), .inl (0, 6), .inr (.inr (.inl 101)), .inl (0, 255), .inl ((-1), 7), .inl ((-2147483648), 2147483647), .inr (.inr (.inl 102))])))) (.inr (9, [.int 0, .ref 78, .ref 79, .ref 80, .ref 81, .ref 82, .int 0, .int 0, .int 0, .int 0, .int 0, .long 0, .int 0, .int 0, .int 0, .int (-1), .ref 83, .ref 84, .ref 85, .ref 86, .ref 87, .ref 88, .int 0, .int 0, .ref 89, .ref 90, .ref 91, .int 0, .ref 92, .ref 93, .ref 94, .ref 95, .ref 96, .ref 97, .ref 98, .int 0, .int 0, .ref 99, .ref 100, .int 0, .ref 101, .int 0, .int 0, .int 0, .ref 102])) from ⟨rfl, rfl, o_chk (by decide)⟩) ?_
  refine And.intro (show ae_g (.inl (0, 4, [((-1), 3)])) (.inl (0, 4, .inl (upd (upd (upd (upd (fun _ => 0) 0 (-1)) 1 (-1)) 2 (-1)) 3 (-1)))) from ⟨rfl, rfl, z_wid⟩) ?_
  refine And.intro (show ae_g (.inl (0, 4, [(0, 60)])) (.inl (0, 4, .inl (fun _ => 0))) from ⟨rfl, rfl, z_arr (by decide)⟩) ?_
  refine And.intro (show ae_g (.inr (.inl 240)) (.inl (3, 240, .inr (.inl (fun _ => 0)))) from ⟨rfl, rfl⟩) ?_
  refine And.intro (show ae_g (.inr (.inl 60)) (.inl (3, 60, .inr (.inl (fun _ => 0)))) from ⟨rfl, rfl⟩) ?_
  refine And.intro (show ae_g (.inl (1, 500, [((-128), 127)])) (.inl (1, 500, .inl (fun _ => 0))) from ⟨rfl, rfl, z_arr (by decide)⟩) ?_
  refine And.intro (show ae_g (.inl (0, 5, [((-2147483648), 2147483647)])) (.inl (0, 5, .inl (fun _ => 0))) from ⟨rfl, rfl, z_arr (by decide)⟩) ?_
  refine And.intro (show ae_g (.inl (0, 30, [(0, 8), (0, 3), (0, 10), (0, 8), (0, 8), (0, 20)])) (.inl (0, 30, .inl (fun _ => 0))) from ⟨rfl, rfl, z_arr (by decide)⟩) ?_
  refine And.intro (show ae_g (.inl (0, 80, [(0, 8), (0, 99)])) (.inl (0, 80, .inl (fun _ => 0))) from ⟨rfl, rfl, z_arr (by decide)⟩) ?_
  refine And.intro (show ae_g (.inl (0, 80, [(0, 9)])) (.inl (0, 80, .inl (fun _ => 0))) from ⟨rfl, rfl, z_arr (by decide)⟩) ?_
  refine And.intro (show ae_g (.inl (0, 300, [(0, 1), (0, 7), (0, 8)])) (.inl (0, 300, .inl (fun _ => 0))) from ⟨rfl, rfl, z_arr (by decide)⟩) ?_
  refine And.intro (show ae_g (.inl (2, 3, [(0, 1)])) (.inl (2, 3, .inl (fun _ => 0))) from ⟨rfl, rfl, z_arr (by decide)⟩) ?_
  refine And.intro (show ae_g (.inl (0, 8, [(0, 8)])) (.inl (0, 8, .inl (fun _ => 0))) from ⟨rfl, rfl, z_arr (by decide)⟩) ?_
  refine And.intro (show ae_g (.inl (0, 10, [((-1), 7)])) (.inl (0, 10, .inl (fun _ => 0))) from ⟨rfl, rfl, z_arr (by decide)⟩) ?_
  refine And.intro (show ae_g (.inl (0, 8, [((-1), 9)])) (.inl (0, 8, .inl (fun _ => 0))) from ⟨rfl, rfl, z_arr (by decide)⟩) ?_
  refine And.intro (show ae_g (.inl (0, 9, [(0, 8)])) (.inl (0, 9, .inl (fun _ => 0))) from ⟨rfl, rfl, z_arr (by decide)⟩) ?_
  refine And.intro (show ae_g (.inl (0, 9, [(0, 8)])) (.inl (0, 9, .inl (fun _ => 0))) from ⟨rfl, rfl, z_arr (by decide)⟩) ?_
  refine And.intro (show ae_g (.inl (0, 9, [((-2147483648), 2147483647)])) (.inl (0, 9, .inl (fun _ => 0))) from ⟨rfl, rfl, z_arr (by decide)⟩) ?_
  refine And.intro (show ae_g (.inl (0, 8, [(0, 8)])) (.inl (0, 8, .inl (fun _ => 0))) from ⟨rfl, rfl, z_arr (by decide)⟩) ?_
  refine And.intro (show ae_g (.inl (0, 18, [(0, 8)])) (.inl (0, 18, .inl (fun _ => 0))) from ⟨rfl, rfl, z_arr (by decide)⟩) ?_
  refine And.intro (show ae_g (.inl (0, 8, [((-2147483648), 2147483647)])) (.inl (0, 8, .inl (fun _ => 0))) from ⟨rfl, rfl, z_arr (by decide)⟩) ?_
  refine And.intro (show ae_g (.inl (0, 9, [(0, 8)])) (.inl (0, 9, .inl (fun _ => 0))) from ⟨rfl, rfl, z_arr (by decide)⟩) ?_
  refine And.intro (show ae_g (.inl (0, 5, [(0, 4)])) (.inl (0, 5, .inl (fun _ => 0))) from ⟨rfl, rfl, z_arr (by decide)⟩) ?_
  refine And.intro (show ae_g (.inl (0, 6, [(0, 1)])) (.inl (0, 6, .inl (fun _ => 0))) from ⟨rfl, rfl, z_arr (by decide)⟩) ?_
  refine And.intro (show ae_g (.inl (0, 10, [(0, 9)])) (.inl (0, 10, .inl (fun _ => 0))) from ⟨rfl, rfl, z_arr (by decide)⟩) ?_
  refine And.intro (show ae_g (.inl (0, 72, [((-1), 9)])) (.inl (0, 72, .inl (fun _ => 0))) from ⟨rfl, rfl, z_arr (by decide)⟩) ?_
  exact trivial
theorem FA_hp0 (T a G b st j : Nat) (hT : ∀ k, ld hp0 T k = some (.int 0)) : FA T a G b st j hp0 := by
  intro i _ _ t g h1 _ h3
  rw [hT] at h1
  cases h1
  exact absurd rfl h3
theorem RV_hp0 : RV hp0 := by
  have e84 : ∀ k, gn hp0 84 k = 0 := fun k => rfl
  have e87 : ∀ k, gn hp0 87 k = 0 := fun k => rfl
  refine ⟨fun r _ => ⟨by rw [e84, e84]; omega, fun c hc => ?_, fun k hk => ?_⟩, fun r _ i _ q => absurd (e87 _) q⟩
  · rw [e84] at hc; omega
  · rw [e84] at hk; omega
theorem IVh_hp0 : IVh hp0 := by
  refine ⟨HH_hp0, fun i hi => ?_, RV_hp0⟩
  have hi : i ∈ [20, 41, 62, 83, 104] := hi
  simp only [List.mem_cons, List.not_mem_nil, or_false] at hi
  rcases hi with rfl | rfl | rfl | rfl | rfl
  · exact (FA_hp0 12 0 11 0 1 20 (fun _ => rfl) : FA 12 0 11 0 1 20 hp0)
  · exact (FA_hp0 23 0 22 0 1 20 (fun _ => rfl) : FA 23 0 22 0 1 20 hp0)
  · exact (FA_hp0 33 0 32 0 1 20 (fun _ => rfl) : FA 33 0 32 0 1 20 hp0)
  · exact (FA_hp0 42 0 41 0 1 20 (fun _ => rfl) : FA 42 0 41 0 1 20 hp0)
  · exact (FA_hp0 51 0 50 0 1 20 (fun _ => rfl) : FA 51 0 50 0 1 20 hp0)
end
section
/-! the tapes -/
/-- a byte of a number, as it is stored -/
noncomputable def byv (v : Int32) (s : Nat) : Int32 := vp_nar .byte (v >>> (nJ s &&& 31)).toInt8.toInt32
theorem nar_b (v : Int32) : -128 ≤ (vp_nar .byte v).toInt ∧ (vp_nar .byte v).toInt ≤ 127 := by
  have e : vp_nar .byte v = v.toInt8.toInt32 := rfl
  rw [e, Int8.toInt_toInt32]
  have h1 := Int8.le_toInt v.toInt8
  have h2 := Int8.toInt_lt v.toInt8
  omega
/-- one byte more -/
noncomputable def rdb (A a k : Nat) (h : pm_H) (b : Int32) : pm_H := pt (pt h A (gn h a k) b) a k (nJ (gn h a k + 1))
/-- a tape: bytes in cell A, their number at (a, k) -/
noncomputable def isT (A a k : Nat) : Prop := A ≠ a ∧ bd a k = some (0, 500) ∧ hsF A = some (.inl (1, 500, [((-128), 127)]))
theorem isT8 : isT 2 1 1 := ⟨by decide, rfl, rfl⟩
theorem isT9 : isT 82 77 6 := ⟨by decide, rfl, rfl⟩
theorem rdb_ok {A a k : Nat} {h : pm_H} {b : Int32} (t : isT A a k) (hh : HH h) (hn : gn h a k < 500) (hb : -128 ≤ b.toInt ∧ b.toInt ≤ 127) : HH (pt h A (gn h a k) b) ∧ gn (pt h A (gn h a k) b) a k = gn h a k ∧ HH (rdb A a k h b) ∧ gn (rdb A a k h b) a k = gn h a k + 1 ∧ (∀ j, j < gn h a k → gi (rdb A a k h b) A j = gi h A j) ∧ gi (rdb A a k h b) A (gn h a k) = b ∧ fr_g [(a, k, k), (A, 0, 499)] h (rdb A a k h b) := by
  obtain ⟨t1, t2, t3⟩ := t
  have h1 : HH (pt h A (gn h a k) b) := HH_pt hh (bd_u t3 hn) hb.1 hb.2
  have t1' : A = a → False := t1
  have h2 : gn (pt h A (gn h a k) b) a k = gn h a k := gn_ne (fun e => absurd e.symm t1)
  refine ⟨h1, h2, HH_ptn h1 t2 (by first | decide | with_reducible assumption | omega) (by first | decide | with_reducible assumption | omega) (by first | decide | with_reducible assumption | omega), gn_ptn h1 t2 (by first | decide | with_reducible assumption | omega) (by first | decide | with_reducible assumption | omega) (by first | decide | with_reducible assumption | omega), fun j hj => ?_, ?_, ?_⟩
  · unfold rdb
    rw [gi_ne (fun e => absurd e t1), gi_ne (fun _ => by omega)]
  · unfold rdb
    rw [gi_ne (fun e => absurd e t1)]
    exact gi_pt hh (bd_u t3 hn) hb.1 hb.2
  · unfold rdb
    refine fr_ptr (l := k) (u := k) ?_ (Nat.le_refl _) (Nat.le_refl _) (fr_ptr (l := 0) (u := 499) ?_ (Nat.zero_le _) (by first | decide | with_reducible assumption | omega) (fr_rf _ _))
    · unfold rg_sub; simp
    · unfold rg_sub; simp
/-- four bytes more -/
noncomputable def rd4 (A a k : Nat) (h : pm_H) (v : Int32) : pm_H := rdb A a k (rdb A a k (rdb A a k (rdb A a k h (byv v 24)) (byv v 16)) (byv v 8)) (byv v 0)
noncomputable def b4 (v : Int32) (i : Nat) : Int32 := byv v (24 - 8 * i)
theorem rd4_ok {A a k : Nat} {h : pm_H} {v : Int32} (t : isT A a k) (hh : HH h) (hn : gn h a k + 4 ≤ 500) : HH (rd4 A a k h v) ∧ gn (rd4 A a k h v) a k = gn h a k + 4 ∧ (∀ j, j < gn h a k → gi (rd4 A a k h v) A j = gi h A j) ∧ (∀ i, i < 4 → gi (rd4 A a k h v) A (gn h a k + i) = b4 v i) ∧ fr_g [(a, k, k), (A, 0, 499)] h (rd4 A a k h v) := by
  obtain ⟨-, -, p1, p2, p3, p4, p5⟩ := rdb_ok (b := byv v 24) t hh (by first | decide | with_reducible assumption | omega) (nar_b _)
  obtain ⟨-, -, q1, q2, q3, q4, q5⟩ := rdb_ok (b := byv v 16) t p1 (by first | decide | with_reducible assumption | omega) (nar_b _)
  obtain ⟨-, -, r1, r2, r3, r4, r5⟩ := rdb_ok (b := byv v 8) t q1 (by first | decide | with_reducible assumption | omega) (nar_b _)
  obtain ⟨-, -, s1, s2, s3, s4, s5⟩ := rdb_ok (b := byv v 0) t r1 (by first | decide | with_reducible assumption | omega) (nar_b _)
  refine ⟨s1, by show gn (rdb _ _ _ _ _) a k = _; omega, fun j hj => ?_, fun i hi => ?_, fr_trans p5 (fr_trans q5 (fr_trans r5 s5))⟩
  · exact (s3 j (by first | decide | with_reducible assumption | omega)).trans ((r3 j (by first | decide | with_reducible assumption | omega)).trans ((q3 j (by first | decide | with_reducible assumption | omega)).trans (p3 j hj)))
  · match i, hi with
    | 0, _ => exact (s3 _ (by first | decide | with_reducible assumption | omega)).trans ((r3 _ (by first | decide | with_reducible assumption | omega)).trans ((q3 _ (by first | decide | with_reducible assumption | omega)).trans p4))
    | 1, _ => rw [← p2]; exact (s3 _ (by first | decide | with_reducible assumption | omega)).trans ((r3 _ (by first | decide | with_reducible assumption | omega)).trans q4)
    | 2, _ => rw [show gn h a k + 2 = gn (rdb A a k (rdb A a k h (byv v 24)) (byv v 16)) a k by omega]; exact (s3 _ (by first | decide | with_reducible assumption | omega)).trans r4
    | 3, _ => rw [show gn h a k + 3 = gn (rdb A a k (rdb A a k (rdb A a k h (byv v 24)) (byv v 16)) (byv v 8)) a k by omega]; exact s4
/-- twenty bytes more -/
noncomputable def rd20 (A a k : Nat) (h : pm_H) (v1 v2 v3 v4 v5 : Int32) : pm_H := rd4 A a k (rd4 A a k (rd4 A a k (rd4 A a k (rd4 A a k h v1) v2) v3) v4) v5
noncomputable def b20 (v1 v2 v3 v4 v5 : Int32) (i : Nat) : Int32 := if i < 4 then b4 v1 i else if i < 8 then b4 v2 (i - 4) else if i < 12 then b4 v3 (i - 8) else if i < 16 then b4 v4 (i - 12) else b4 v5 (i - 16)
theorem rd20_ok {A a k : Nat} {h : pm_H} {v1 v2 v3 v4 v5 : Int32} (t : isT A a k) (hh : HH h) (hn : gn h a k + 20 ≤ 500) : HH (rd20 A a k h v1 v2 v3 v4 v5) ∧ gn (rd20 A a k h v1 v2 v3 v4 v5) a k = gn h a k + 20 ∧ (∀ j, j < gn h a k → gi (rd20 A a k h v1 v2 v3 v4 v5) A j = gi h A j) ∧ (∀ i, i < 20 → gi (rd20 A a k h v1 v2 v3 v4 v5) A (gn h a k + i) = b20 v1 v2 v3 v4 v5 i) ∧ fr_g [(a, k, k), (A, 0, 499)] h (rd20 A a k h v1 v2 v3 v4 v5) := by
  obtain ⟨a1, a2, a3, a4, a5⟩ := rd4_ok (v := v1) t hh (by first | decide | with_reducible assumption | omega)
  obtain ⟨c1, c2, c3, c4, c5⟩ := rd4_ok (v := v2) t a1 (by first | decide | with_reducible assumption | omega)
  obtain ⟨d1, d2, d3, d4, d5⟩ := rd4_ok (v := v3) t c1 (by first | decide | with_reducible assumption | omega)
  obtain ⟨e1, e2, e3, e4, e5⟩ := rd4_ok (v := v4) t d1 (by first | decide | with_reducible assumption | omega)
  obtain ⟨f1, f2, f3, f4, f5⟩ := rd4_ok (v := v5) t e1 (by first | decide | with_reducible assumption | omega)
  refine ⟨f1, by show gn (rd4 _ _ _ _ _) a k = _; omega, fun j hj => ?_, fun i hi => ?_, fr_trans a5 (fr_trans c5 (fr_trans d5 (fr_trans e5 f5)))⟩
  · exact (f3 j (by first | decide | with_reducible assumption | omega)).trans ((e3 j (by first | decide | with_reducible assumption | omega)).trans ((d3 j (by first | decide | with_reducible assumption | omega)).trans ((c3 j (by first | decide | with_reducible assumption | omega)).trans (a3 j hj))))
  · unfold b20
    split
    · exact (f3 _ (by first | decide | with_reducible assumption | omega)).trans ((e3 _ (by first | decide | with_reducible assumption | omega)).trans ((d3 _ (by first | decide | with_reducible assumption | omega)).trans ((c3 _ (by first | decide | with_reducible assumption | omega)).trans (a4 i (by first | decide | with_reducible assumption | omega)))))
    · split
      · have := c4 (i - 4) (by first | decide | with_reducible assumption | omega)
        rw [show gn (rd4 A a k h v1) a k + (i - 4) = gn h a k + i by omega] at this
        exact (f3 _ (by first | decide | with_reducible assumption | omega)).trans ((e3 _ (by first | decide | with_reducible assumption | omega)).trans ((d3 _ (by first | decide | with_reducible assumption | omega)).trans this))
      · split
        · have := d4 (i - 8) (by first | decide | with_reducible assumption | omega)
          rw [show gn (rd4 A a k (rd4 A a k h v1) v2) a k + (i - 8) = gn h a k + i by omega] at this
          exact (f3 _ (by first | decide | with_reducible assumption | omega)).trans ((e3 _ (by first | decide | with_reducible assumption | omega)).trans this)
        · split
          · have := e4 (i - 12) (by first | decide | with_reducible assumption | omega)
            rw [show gn (rd4 A a k (rd4 A a k (rd4 A a k h v1) v2) v3) a k + (i - 12) = gn h a k + i by omega] at this
            exact (f3 _ (by first | decide | with_reducible assumption | omega)).trans this
          · have := f4 (i - 16) (by first | decide | with_reducible assumption | omega)
            rw [show gn (rd4 A a k (rd4 A a k (rd4 A a k (rd4 A a k h v1) v2) v3) v4) a k + (i - 16) = gn h a k + i by omega] at this
            exact this
/-- the tapes of class and reference -/
noncomputable def TP (h : pm_H) : Prop := gn h 1 1 = gn h 77 6 ∧ ∀ j, j < gn h 1 1 → gi h 2 j = gi h 82 j
theorem TP_fr {M : List Rng} {h h' : pm_H} (hf : fr_g M h h') (h1 : rg_in M 1 1 = false) (h2 : rg_in M 77 6 = false) (h3 : M.all (fun r => !(Nat.beq r.1 2)) = true) (h4 : M.all (fun r => !(Nat.beq r.1 82)) = true) (T : TP h) : TP h' := by
  refine ⟨by rw [fr_gn hf h1, fr_gn hf h2]; exact T.1, fun j hj => ?_⟩
  rw [fr_gn hf h1] at hj
  rw [fr_gi hf (rg_no h3 j), fr_gi hf (rg_no h4 j)]
  exact T.2 j hj
end
section
/-! by hand: feed and end of class and reference (written by gen_t26.py) -/
theorem add_r {h : pm_H} {d s : Nat} {v x : Int32} {Q : pm_H → Option Value → Prop} (lv : List (Nat × Value)) (hh : HH h) (hn : gn h 1 1 < 500) (hs : s < 32) (hx : nJ s + (-8) = x) (L0 : pm_get lv 0 = some (.ref 1)) (L1 : pm_get lv 1 = some (.int v)) (L2 : pm_get lv 2 = some (.int (nJ s))) (K : ∀ lv : List (Nat × Value), pm_get lv 0 = some (.ref 1) → pm_get lv 1 = some (.int v) → pm_get lv 2 = some (.int x) → Ends (pm_at tX6_add) (pm_Rt pm_P d) (3, lv, [], rdb 2 1 1 h (byv v s), 0, 0) Q) : Ends (pm_at tX6_add) (pm_Rt pm_P d) (3, lv, [], h, 0, 0) Q := by
  refine E_il rfl L2 ?_
  refine E_ifF rfl (decide_eq_false (nJ_lt0 (by first | decide | with_reducible assumption | omega))) ?_
  refine E_al rfl L0 ?_
  refine E_ogf rfl hh rfl rfl (show gi h 1 1 = nJ ((gn h 1 1)) from (gi_gn hh rfl (by decide))) ?_
  refine E_ci 500 rfl ci500 ?_
  refine E_icF rfl (decide_eq_false (fun q => absurd ((nJ_le (a := 500) (by first | decide | with_reducible assumption | omega) (by first | decide | with_reducible assumption | omega)).mp q) (by first | decide | with_reducible assumption | omega))) ?_
  refine E_al rfl L0 ?_
  refine E_ogr rfl hh rfl (q := 2) rfl ?_
  refine E_al rfl L0 ?_
  refine E_ogf rfl hh rfl rfl (show gi h 1 1 = nJ ((gn h 1 1)) from (gi_gn hh rfl (by decide))) ?_
  refine E_il rfl L1 ?_
  refine E_il rfl L2 ?_
  refine E_bin rfl rfl ?_
  refine E_un rfl ?_
  refine E_bas rfl hh rfl (by first | decide | with_reducible assumption | omega) (by decide) ?_
  obtain ⟨p1, p2, p3, p4, -, -, -⟩ := rdb_ok (b := byv v s) isT8 hh hn (nar_b _)
  show Ends _ _ (30, lv, [], (pt h 2 (gn h 1 1) (byv v s)), 0, 0) _
  refine E_al rfl L0 ?_
  refine E_dup rfl rfl ?_
  refine E_ogf rfl p1 rfl rfl (show gi (pt h 2 (gn h 1 1) (byv v s)) 1 1 = nJ ((gn h 1 1)) from (by rw [gi_ne (by first | exact gxx rfl | omega)]; exact gi_gn hh rfl (by decide))) ?_
  refine E_ci 1 rfl ci1 ?_
  refine E_bin rfl (nJ_add _ _) ?_
  refine E_opf rfl p1 rfl rfl ?_
  have hh1 : HH (pt (pt h 2 (gn h 1 1) (byv v s)) 1 1 (nJ (((gn h 1 1) + 1)))) := HH_ptn p1 rfl (by first | decide | with_reducible assumption | omega) (by first | decide | with_reducible assumption | omega) (by first | decide | with_reducible assumption | omega)
  refine E_inc rfl L2 hx (fun lv2 L2_2 kp2 => ?_)
  have L2_0 := kp2 0 _ (nbz rfl) rfl L0
  have L2_1 := kp2 1 _ (nbz rfl) rfl L1
  refine E_goto rfl ?_
  exact K lv2 L2_0 L2_1 L2_2
theorem sp_add {h : pm_H} {d : Nat} {v : Int32} (hh : HH h) (hn : gn h 1 1 + 4 ≤ 500) : Sp (d + 1) 55 h [.ref 1, .int v] (fun h' r => r = none ∧ h' = rd4 2 1 1 h v) := by
  refine Sp_of aiX6_add rfl rfl rfl ?_
  refine E_ci 24 rfl ci24 ?_
  refine E_is rfl (fun lv1 L1_2 kp1 => ?_)
  have L1_0 := kp1 0 _ (nbz rfl) rfl (show pm_get (lv_args 0 [.ref 1, .int v]) 0 = _ from rfl)
  have L1_1 := kp1 1 _ (nbz rfl) rfl (show pm_get (lv_args 0 [.ref 1, .int v]) 1 = _ from rfl)
  have T := isT8
  obtain ⟨-, -, p1, p2, -, -, -⟩ := rdb_ok (b := byv v 24) T hh (by first | decide | with_reducible assumption | omega) (nar_b _)
  obtain ⟨-, -, q1, q2, -, -, -⟩ := rdb_ok (b := byv v 16) T p1 (by first | decide | with_reducible assumption | omega) (nar_b _)
  obtain ⟨-, -, r1, r2, -, -, -⟩ := rdb_ok (b := byv v 8) T q1 (by first | decide | with_reducible assumption | omega) (nar_b _)
  refine add_r (x := nJ 16) _ hh (by first | decide | with_reducible assumption | omega) (by first | decide | with_reducible assumption | omega) (by decide) L1_0 L1_1 L1_2 (fun lv A0 A1 A2 => ?_)
  refine add_r (x := nJ 8) _ p1 (by first | decide | with_reducible assumption | omega) (by first | decide | with_reducible assumption | omega) (by decide) A0 A1 A2 (fun lv A0 A1 A2 => ?_)
  refine add_r (x := nJ 0) _ q1 (by first | decide | with_reducible assumption | omega) (by first | decide | with_reducible assumption | omega) (by decide) A0 A1 A2 (fun lv A0 A1 A2 => ?_)
  refine add_r (x := -8) _ r1 (by first | decide | with_reducible assumption | omega) (by first | decide | with_reducible assumption | omega) (by decide) A0 A1 A2 (fun lv A0 A1 A2 => ?_)
  refine E_il rfl A2 ?_
  refine E_ifT rfl (by decide) ?_
  exact E_ret rfl ⟨rfl, rfl⟩
theorem four_r {h : pm_H} {d s : Nat} {v x : Int32} {Q : pm_H → Option Value → Prop} (lv : List (Nat × Value)) (hh : HH h) (hn : gn h 77 6 < 500) (hs : s < 32) (hx : nJ s + (-8) = x) (L0 : pm_get lv 0 = some (.ref 77)) (L1 : pm_get lv 1 = some (.int v)) (L2 : pm_get lv 2 = some (.int (nJ s))) (K : ∀ lv : List (Nat × Value), pm_get lv 0 = some (.ref 77) → pm_get lv 1 = some (.int v) → pm_get lv 2 = some (.int x) → Ends (pm_at tX9_four) (pm_Rt pm_P d) (3, lv, [], rdb 82 77 6 h (byv v s), 0, 0) Q) : Ends (pm_at tX9_four) (pm_Rt pm_P d) (3, lv, [], h, 0, 0) Q := by
  refine E_il rfl L2 ?_
  refine E_ifF rfl (decide_eq_false (nJ_lt0 (by first | decide | with_reducible assumption | omega))) ?_
  refine E_al rfl L0 ?_
  refine E_gr rfl hh (q := 82) rfl ?_
  refine E_al rfl L0 ?_
  refine E_gf rfl hh rfl (show gi h 77 6 = nJ ((gn h 77 6)) from (gi_gn hh rfl (by decide))) ?_
  refine E_il rfl L1 ?_
  refine E_il rfl L2 ?_
  refine E_bin rfl rfl ?_
  refine E_un rfl ?_
  refine E_bas rfl hh rfl (by first | decide | with_reducible assumption | omega) (by decide) ?_
  obtain ⟨p1, p2, p3, p4, -, -, -⟩ := rdb_ok (b := byv v s) isT9 hh hn (nar_b _)
  show Ends _ _ (20, lv, [], (pt h 82 (gn h 77 6) (byv v s)), 0, 0) _
  refine E_al rfl L0 ?_
  refine E_dup rfl rfl ?_
  refine E_gf rfl p1 rfl (show gi (pt h 82 (gn h 77 6) (byv v s)) 77 6 = nJ ((gn h 77 6)) from (by rw [gi_ne (by first | exact gxx rfl | omega)]; exact gi_gn hh rfl (by decide))) ?_
  refine E_ci 1 rfl ci1 ?_
  refine E_bin rfl (nJ_add _ _) ?_
  refine E_pf rfl p1 rfl ?_
  have hh1 : HH (pt (pt h 82 (gn h 77 6) (byv v s)) 77 6 (nJ (((gn h 77 6) + 1)))) := HH_ptn p1 rfl (by first | decide | with_reducible assumption | omega) (by first | decide | with_reducible assumption | omega) (by first | decide | with_reducible assumption | omega)
  refine E_inc rfl L2 hx (fun lv2 L2_2 kp2 => ?_)
  have L2_0 := kp2 0 _ (nbz rfl) rfl L0
  have L2_1 := kp2 1 _ (nbz rfl) rfl L1
  refine E_goto rfl ?_
  exact K lv2 L2_0 L2_1 L2_2
theorem sp_four {h : pm_H} {d : Nat} {v : Int32} (hh : HH h) (hn : gn h 77 6 + 4 ≤ 500) : Sp (d + 1) 252 h [.ref 77, .int v] (fun h' r => r = none ∧ h' = rd4 82 77 6 h v) := by
  refine Sp_of aiX9_four rfl rfl rfl ?_
  refine E_ci 24 rfl ci24 ?_
  refine E_is rfl (fun lv1 L1_2 kp1 => ?_)
  have L1_0 := kp1 0 _ (nbz rfl) rfl (show pm_get (lv_args 0 [.ref 77, .int v]) 0 = _ from rfl)
  have L1_1 := kp1 1 _ (nbz rfl) rfl (show pm_get (lv_args 0 [.ref 77, .int v]) 1 = _ from rfl)
  have T := isT9
  obtain ⟨-, -, p1, p2, -, -, -⟩ := rdb_ok (b := byv v 24) T hh (by first | decide | with_reducible assumption | omega) (nar_b _)
  obtain ⟨-, -, q1, q2, -, -, -⟩ := rdb_ok (b := byv v 16) T p1 (by first | decide | with_reducible assumption | omega) (nar_b _)
  obtain ⟨-, -, r1, r2, -, -, -⟩ := rdb_ok (b := byv v 8) T q1 (by first | decide | with_reducible assumption | omega) (nar_b _)
  refine four_r (x := nJ 16) _ hh (by first | decide | with_reducible assumption | omega) (by first | decide | with_reducible assumption | omega) (by decide) L1_0 L1_1 L1_2 (fun lv A0 A1 A2 => ?_)
  refine four_r (x := nJ 8) _ p1 (by first | decide | with_reducible assumption | omega) (by first | decide | with_reducible assumption | omega) (by decide) A0 A1 A2 (fun lv A0 A1 A2 => ?_)
  refine four_r (x := nJ 0) _ q1 (by first | decide | with_reducible assumption | omega) (by first | decide | with_reducible assumption | omega) (by decide) A0 A1 A2 (fun lv A0 A1 A2 => ?_)
  refine four_r (x := -8) _ r1 (by first | decide | with_reducible assumption | omega) (by first | decide | with_reducible assumption | omega) (by decide) A0 A1 A2 (fun lv A0 A1 A2 => ?_)
  refine E_il rfl A2 ?_
  refine E_ifT rfl (by decide) ?_
  exact E_ret rfl ⟨rfl, rfl⟩
theorem sp_feed8 {h : pm_H} {dd : Nat} {a b c d e : Int32} (hh : HH h) : Sp (dd + 2) 106 h [.ref 0, .int a, .int b, .int c, .int d, .int e] (fun h' r => (gn h 1 1 + 20 ≤ 500 ∧ h' = rd20 2 1 1 h a b c d e ∧ r = some (.int (nJ (gn h 1 1 + 20)))) ∨ (¬ gn h 1 1 + 20 ≤ 500 ∧ h' = h ∧ r = some (.int (-1)))) := by
  have hn5 : gn h 1 1 ≤ 500 := gn_hi hh rfl (by decide)
  refine Sp_of aiX8_feed rfl rfl rfl ?_
  refine E_al rfl (show pm_get (lv_args 0 [.ref 0, .int a, .int b, .int c, .int d, .int e]) 0 = _ from rfl) ?_
  refine E_ogr rfl hh rfl (q := 1) rfl ?_
  refine E_ogf rfl hh rfl rfl (show gi h 1 1 = nJ ((gn h 1 1)) from (gi_gn hh rfl (by decide))) ?_
  refine E_ci 480 rfl ci480 ?_
  by_cases hb1 : (gn h 1 1) ≤ 480
  · refine E_icT rfl (decide_eq_true ((nJ_le (by first | decide | with_reducible assumption | omega) (by first | decide | with_reducible assumption | omega)).mpr hb1)) ?_
    refine E_al rfl (show pm_get (lv_args 0 [.ref 0, .int a, .int b, .int c, .int d, .int e]) 0 = _ from rfl) ?_
    refine E_ogr rfl hh rfl (q := 1) rfl ?_
    refine E_il rfl (show pm_get (lv_args 0 [.ref 0, .int a, .int b, .int c, .int d, .int e]) 1 = _ from rfl) ?_
    refine E_call rfl (Sp_le (by first | exact Nat.add_le_add_left (Nat.le_of_ble_eq_true rfl) _ | exact Nat.le_of_ble_eq_true rfl | omega) (sp_add (d := 0) hh (by first | decide | with_reducible assumption | omega))) (chkO (a := 1) hh rfl rfl rfl rfl (by show 0 ≤ 8; decide)) (fun h2 r2 => ?_)
    rintro ⟨e2, f2⟩
    rw [e2, f2]
    obtain ⟨y2, n2, -, -, -⟩ := rd4_ok (v := a) isT8 hh (by first | decide | with_reducible assumption | omega)
    show Ends _ _ (23, (lv_args 0 [.ref 0, .int a, .int b, .int c, .int d, .int e]), [], (rd4 2 1 1 h a), 0, 0) _
    refine E_al rfl (show pm_get (lv_args 0 [.ref 0, .int a, .int b, .int c, .int d, .int e]) 0 = _ from rfl) ?_
    refine E_ogr rfl y2 rfl (q := 1) rfl ?_
    refine E_il rfl (show pm_get (lv_args 0 [.ref 0, .int a, .int b, .int c, .int d, .int e]) 2 = _ from rfl) ?_
    refine E_call rfl (Sp_le (by first | exact Nat.add_le_add_left (Nat.le_of_ble_eq_true rfl) _ | exact Nat.le_of_ble_eq_true rfl | omega) (sp_add (d := 0) y2 (by first | decide | with_reducible assumption | omega))) (chkO (a := 1) y2 rfl rfl rfl rfl (by show 0 ≤ 8; decide)) (fun h3 r3 => ?_)
    rintro ⟨e3, f3⟩
    rw [e3, f3]
    obtain ⟨y3, n3, -, -, -⟩ := rd4_ok (v := b) isT8 y2 (by first | decide | with_reducible assumption | omega)
    show Ends _ _ (31, (lv_args 0 [.ref 0, .int a, .int b, .int c, .int d, .int e]), [], (rd4 2 1 1 (rd4 2 1 1 h a) b), 0, 0) _
    refine E_al rfl (show pm_get (lv_args 0 [.ref 0, .int a, .int b, .int c, .int d, .int e]) 0 = _ from rfl) ?_
    refine E_ogr rfl y3 rfl (q := 1) rfl ?_
    refine E_il rfl (show pm_get (lv_args 0 [.ref 0, .int a, .int b, .int c, .int d, .int e]) 3 = _ from rfl) ?_
    refine E_call rfl (Sp_le (by first | exact Nat.add_le_add_left (Nat.le_of_ble_eq_true rfl) _ | exact Nat.le_of_ble_eq_true rfl | omega) (sp_add (d := 0) y3 (by first | decide | with_reducible assumption | omega))) (chkO (a := 1) y3 rfl rfl rfl rfl (by show 0 ≤ 8; decide)) (fun h4 r4 => ?_)
    rintro ⟨e4, f4⟩
    rw [e4, f4]
    obtain ⟨y4, n4, -, -, -⟩ := rd4_ok (v := c) isT8 y3 (by first | decide | with_reducible assumption | omega)
    show Ends _ _ (39, (lv_args 0 [.ref 0, .int a, .int b, .int c, .int d, .int e]), [], (rd4 2 1 1 (rd4 2 1 1 (rd4 2 1 1 h a) b) c), 0, 0) _
    refine E_al rfl (show pm_get (lv_args 0 [.ref 0, .int a, .int b, .int c, .int d, .int e]) 0 = _ from rfl) ?_
    refine E_ogr rfl y4 rfl (q := 1) rfl ?_
    refine E_il rfl (show pm_get (lv_args 0 [.ref 0, .int a, .int b, .int c, .int d, .int e]) 4 = _ from rfl) ?_
    refine E_call rfl (Sp_le (by first | exact Nat.add_le_add_left (Nat.le_of_ble_eq_true rfl) _ | exact Nat.le_of_ble_eq_true rfl | omega) (sp_add (d := 0) y4 (by first | decide | with_reducible assumption | omega))) (chkO (a := 1) y4 rfl rfl rfl rfl (by show 0 ≤ 8; decide)) (fun h5 r5 => ?_)
    rintro ⟨e5, f5⟩
    rw [e5, f5]
    obtain ⟨y5, n5, -, -, -⟩ := rd4_ok (v := d) isT8 y4 (by first | decide | with_reducible assumption | omega)
    show Ends _ _ (48, (lv_args 0 [.ref 0, .int a, .int b, .int c, .int d, .int e]), [], (rd4 2 1 1 (rd4 2 1 1 (rd4 2 1 1 (rd4 2 1 1 h a) b) c) d), 0, 0) _
    refine E_al rfl (show pm_get (lv_args 0 [.ref 0, .int a, .int b, .int c, .int d, .int e]) 0 = _ from rfl) ?_
    refine E_ogr rfl y5 rfl (q := 1) rfl ?_
    refine E_il rfl (show pm_get (lv_args 0 [.ref 0, .int a, .int b, .int c, .int d, .int e]) 5 = _ from rfl) ?_
    refine E_call rfl (Sp_le (by first | exact Nat.add_le_add_left (Nat.le_of_ble_eq_true rfl) _ | exact Nat.le_of_ble_eq_true rfl | omega) (sp_add (d := 0) y5 (by first | decide | with_reducible assumption | omega))) (chkO (a := 1) y5 rfl rfl rfl rfl (by show 0 ≤ 8; decide)) (fun h6 r6 => ?_)
    rintro ⟨e6, f6⟩
    rw [e6, f6]
    obtain ⟨y6, n6, -, -, -⟩ := rd4_ok (v := e) isT8 y5 (by first | decide | with_reducible assumption | omega)
    show Ends _ _ (57, (lv_args 0 [.ref 0, .int a, .int b, .int c, .int d, .int e]), [], (rd4 2 1 1 (rd4 2 1 1 (rd4 2 1 1 (rd4 2 1 1 (rd4 2 1 1 h a) b) c) d) e), 0, 0) _
    refine E_al rfl (show pm_get (lv_args 0 [.ref 0, .int a, .int b, .int c, .int d, .int e]) 0 = _ from rfl) ?_
    refine E_ogr rfl y6 rfl (q := 1) rfl ?_
    refine E_ogf rfl y6 rfl rfl (show gi (rd4 2 1 1 (rd4 2 1 1 (rd4 2 1 1 (rd4 2 1 1 (rd4 2 1 1 h a) b) c) d) e) 1 1 = nJ ((gn h 1 1 + 20)) from (by rw [gi_gn y6 rfl (by decide)]; exact congrArg nJ (by first | decide | with_reducible assumption | omega))) ?_
    exact E_rti rfl (.inl ⟨by omega, rfl, rfl⟩)
  · refine E_icF rfl (decide_eq_false (fun q => hb1 ((nJ_le (by first | decide | with_reducible assumption | omega) (by first | decide | with_reducible assumption | omega)).mp q))) ?_
    refine E_c rfl ?_
    exact E_rti rfl (.inr ⟨by omega, rfl, rfl⟩)
theorem sp_feed9 {h : pm_H} {dd : Nat} {a b c d e : Int32} (hh : HH h) : Sp (dd + 2) 247 h [.ref 77, .int a, .int b, .int c, .int d, .int e] (fun h' r => (gn h 77 6 + 20 ≤ 500 ∧ h' = rd20 82 77 6 (pt h 77 0 (nJ 0)) a b c d e ∧ r = some (.int (nJ (gn h 77 6 + 20)))) ∨ (¬ gn h 77 6 + 20 ≤ 500 ∧ h' = (pt h 77 0 (nJ 0)) ∧ r = some (.int (-1)))) := by
  have hn5 : gn h 77 6 ≤ 500 := gn_hi hh rfl (by decide)
  refine Sp_of aiX9_feed rfl rfl rfl ?_
  refine E_al rfl (show pm_get (lv_args 0 [.ref 77, .int a, .int b, .int c, .int d, .int e]) 0 = _ from rfl) ?_
  refine E_ci 0 rfl ci0 ?_
  refine E_pf rfl hh rfl ?_
  have hh1 : HH (pt h 77 0 (nJ 0)) := HH_ptn hh rfl (by first | decide | with_reducible assumption | omega) (by first | decide | with_reducible assumption | omega) (by first | decide | with_reducible assumption | omega)
  have n0 : gn (pt h 77 0 (nJ 0)) 77 6 = gn h 77 6 := gn_ne (by first | exact gxx rfl | omega)
  refine E_al rfl (show pm_get (lv_args 0 [.ref 77, .int a, .int b, .int c, .int d, .int e]) 0 = _ from rfl) ?_
  refine E_gf rfl hh1 rfl (show gi (pt h 77 0 (nJ 0)) 77 6 = nJ ((gn h 77 6)) from (by rw [gi_ne (by first | exact gxx rfl | omega)]; exact gi_gn hh rfl (by decide))) ?_
  refine E_ci 20 rfl ci20 ?_
  refine E_bin rfl (nJ_add _ _) ?_
  refine E_ci 500 rfl ci500 ?_
  by_cases hb2 : ((gn h 77 6) + 20) ≤ 500
  · refine E_icT rfl (decide_eq_true ((nJ_le (by first | decide | with_reducible assumption | omega) (by first | decide | with_reducible assumption | omega)).mpr hb2)) ?_
    refine E_al rfl (show pm_get (lv_args 0 [.ref 77, .int a, .int b, .int c, .int d, .int e]) 0 = _ from rfl) ?_
    refine E_il rfl (show pm_get (lv_args 0 [.ref 77, .int a, .int b, .int c, .int d, .int e]) 1 = _ from rfl) ?_
    refine E_call rfl (Sp_le (by first | exact Nat.add_le_add_left (Nat.le_of_ble_eq_true rfl) _ | exact Nat.le_of_ble_eq_true rfl | omega) (sp_four (d := 0) hh1 (by first | decide | with_reducible assumption | omega))) (chk77 hh1 rfl rfl (by show 0 ≤ 8; decide)) (fun h3 r3 => ?_)
    rintro ⟨e3, f3⟩
    rw [e3, f3]
    obtain ⟨y3, n3, -, -, -⟩ := rd4_ok (v := a) isT9 hh1 (by first | decide | with_reducible assumption | omega)
    show Ends _ _ (25, (lv_args 0 [.ref 77, .int a, .int b, .int c, .int d, .int e]), [], (rd4 82 77 6 (pt h 77 0 (nJ 0)) a), 0, 0) _
    refine E_al rfl (show pm_get (lv_args 0 [.ref 77, .int a, .int b, .int c, .int d, .int e]) 0 = _ from rfl) ?_
    refine E_il rfl (show pm_get (lv_args 0 [.ref 77, .int a, .int b, .int c, .int d, .int e]) 2 = _ from rfl) ?_
    refine E_call rfl (Sp_le (by first | exact Nat.add_le_add_left (Nat.le_of_ble_eq_true rfl) _ | exact Nat.le_of_ble_eq_true rfl | omega) (sp_four (d := 0) y3 (by first | decide | with_reducible assumption | omega))) (chk77 y3 rfl rfl (by show 0 ≤ 8; decide)) (fun h4 r4 => ?_)
    rintro ⟨e4, f4⟩
    rw [e4, f4]
    obtain ⟨y4, n4, -, -, -⟩ := rd4_ok (v := b) isT9 y3 (by first | decide | with_reducible assumption | omega)
    show Ends _ _ (30, (lv_args 0 [.ref 77, .int a, .int b, .int c, .int d, .int e]), [], (rd4 82 77 6 (rd4 82 77 6 (pt h 77 0 (nJ 0)) a) b), 0, 0) _
    refine E_al rfl (show pm_get (lv_args 0 [.ref 77, .int a, .int b, .int c, .int d, .int e]) 0 = _ from rfl) ?_
    refine E_il rfl (show pm_get (lv_args 0 [.ref 77, .int a, .int b, .int c, .int d, .int e]) 3 = _ from rfl) ?_
    refine E_call rfl (Sp_le (by first | exact Nat.add_le_add_left (Nat.le_of_ble_eq_true rfl) _ | exact Nat.le_of_ble_eq_true rfl | omega) (sp_four (d := 0) y4 (by first | decide | with_reducible assumption | omega))) (chk77 y4 rfl rfl (by show 0 ≤ 8; decide)) (fun h5 r5 => ?_)
    rintro ⟨e5, f5⟩
    rw [e5, f5]
    obtain ⟨y5, n5, -, -, -⟩ := rd4_ok (v := c) isT9 y4 (by first | decide | with_reducible assumption | omega)
    show Ends _ _ (35, (lv_args 0 [.ref 77, .int a, .int b, .int c, .int d, .int e]), [], (rd4 82 77 6 (rd4 82 77 6 (rd4 82 77 6 (pt h 77 0 (nJ 0)) a) b) c), 0, 0) _
    refine E_al rfl (show pm_get (lv_args 0 [.ref 77, .int a, .int b, .int c, .int d, .int e]) 0 = _ from rfl) ?_
    refine E_il rfl (show pm_get (lv_args 0 [.ref 77, .int a, .int b, .int c, .int d, .int e]) 4 = _ from rfl) ?_
    refine E_call rfl (Sp_le (by first | exact Nat.add_le_add_left (Nat.le_of_ble_eq_true rfl) _ | exact Nat.le_of_ble_eq_true rfl | omega) (sp_four (d := 0) y5 (by first | decide | with_reducible assumption | omega))) (chk77 y5 rfl rfl (by show 0 ≤ 8; decide)) (fun h6 r6 => ?_)
    rintro ⟨e6, f6⟩
    rw [e6, f6]
    obtain ⟨y6, n6, -, -, -⟩ := rd4_ok (v := d) isT9 y5 (by first | decide | with_reducible assumption | omega)
    show Ends _ _ (41, (lv_args 0 [.ref 77, .int a, .int b, .int c, .int d, .int e]), [], (rd4 82 77 6 (rd4 82 77 6 (rd4 82 77 6 (rd4 82 77 6 (pt h 77 0 (nJ 0)) a) b) c) d), 0, 0) _
    refine E_al rfl (show pm_get (lv_args 0 [.ref 77, .int a, .int b, .int c, .int d, .int e]) 0 = _ from rfl) ?_
    refine E_il rfl (show pm_get (lv_args 0 [.ref 77, .int a, .int b, .int c, .int d, .int e]) 5 = _ from rfl) ?_
    refine E_call rfl (Sp_le (by first | exact Nat.add_le_add_left (Nat.le_of_ble_eq_true rfl) _ | exact Nat.le_of_ble_eq_true rfl | omega) (sp_four (d := 0) y6 (by first | decide | with_reducible assumption | omega))) (chk77 y6 rfl rfl (by show 0 ≤ 8; decide)) (fun h7 r7 => ?_)
    rintro ⟨e7, f7⟩
    rw [e7, f7]
    obtain ⟨y7, n7, -, -, -⟩ := rd4_ok (v := e) isT9 y6 (by first | decide | with_reducible assumption | omega)
    show Ends _ _ (47, (lv_args 0 [.ref 77, .int a, .int b, .int c, .int d, .int e]), [], (rd4 82 77 6 (rd4 82 77 6 (rd4 82 77 6 (rd4 82 77 6 (rd4 82 77 6 (pt h 77 0 (nJ 0)) a) b) c) d) e), 0, 0) _
    refine E_al rfl (show pm_get (lv_args 0 [.ref 77, .int a, .int b, .int c, .int d, .int e]) 0 = _ from rfl) ?_
    refine E_gf rfl y7 rfl (show gi (rd4 82 77 6 (rd4 82 77 6 (rd4 82 77 6 (rd4 82 77 6 (rd4 82 77 6 (pt h 77 0 (nJ 0)) a) b) c) d) e) 77 6 = nJ ((gn h 77 6 + 20)) from (by rw [gi_gn y7 rfl (by decide)]; exact congrArg nJ (by first | decide | with_reducible assumption | omega))) ?_
    exact E_rti rfl (.inl ⟨by omega, rfl, rfl⟩)
  · refine E_icF rfl (decide_eq_false (fun q => hb2 ((nJ_le (by first | decide | with_reducible assumption | omega) (by first | decide | with_reducible assumption | omega)).mp q))) ?_
    refine E_c rfl ?_
    exact E_rti rfl (.inr ⟨by omega, rfl, rfl⟩)
theorem sp_end8 {h : pm_H} {d : Nat} {x : Int32} (hh : HH h) : Sp (d + 1) 101 h [.ref 0, .int x] (fun h' r => ((0 ≤ x.toInt ∧ x.toInt ≤ (gn h 1 1 : Int)) ∧ h' = pt h 1 1 x ∧ r = some (.int x)) ∨ (¬ (0 ≤ x.toInt ∧ x.toInt ≤ (gn h 1 1 : Int)) ∧ h' = h ∧ r = some (.int (-1)))) := by
  have hn5 : gn h 1 1 ≤ 500 := gn_hi hh rfl (by decide)
  refine Sp_of aiX8_end rfl rfl rfl ?_
  refine E_il rfl (show pm_get (lv_args 0 [.ref 0, .int x]) 1 = _ from rfl) ?_
  by_cases hb1 : x.toInt < 0
  · refine E_ifT rfl (decide_eq_true (Int32.lt_iff_toInt_lt.mpr hb1)) ?_
    refine E_c rfl ?_
    exact E_rti rfl (.inr ⟨fun q => by have q1 := q.1; have q2 := q.2; omega, rfl, rfl⟩)
  · refine E_ifF rfl (decide_eq_false (fun q => hb1 (Int32.lt_iff_toInt_lt.mp q))) ?_
    refine E_il rfl (show pm_get (lv_args 0 [.ref 0, .int x]) 1 = _ from rfl) ?_
    refine E_al rfl (show pm_get (lv_args 0 [.ref 0, .int x]) 0 = _ from rfl) ?_
    refine E_ogr rfl hh rfl (q := 1) rfl ?_
    refine E_ogf rfl hh rfl rfl (show gi h 1 1 = nJ ((gn h 1 1)) from (gi_gn hh rfl (by decide))) ?_
    by_cases hb2 : x.toInt ≤ (gn h 1 1 : Int)
    · refine E_icT rfl (decide_eq_true (Int32.le_iff_toInt_le.mpr (by rw [nJ_toInt (by first | decide | with_reducible assumption | omega)]; exact hb2))) ?_
      have hx0 : 0 ≤ x.toInt := by omega
      have hx1 : x.toInt ≤ (gn h 1 1 : Int) := hb2
      refine E_al rfl (show pm_get (lv_args 0 [.ref 0, .int x]) 0 = _ from rfl) ?_
      refine E_ogr rfl hh rfl (q := 1) rfl ?_
      refine E_il rfl (show pm_get (lv_args 0 [.ref 0, .int x]) 1 = _ from rfl) ?_
      refine E_opf rfl hh rfl rfl ?_
      have hh3 : HH (pt h 1 1 x) := HH_pt hh rfl (by show (0 : Int) ≤ _; exact hx0) (by show _ ≤ (500 : Int); omega)
      refine E_il rfl (show pm_get (lv_args 0 [.ref 0, .int x]) 1 = _ from rfl) ?_
      exact E_rti rfl (.inl ⟨⟨hx0, hx1⟩, rfl, rfl⟩)
    · refine E_icF rfl (decide_eq_false (fun q => hb2 (by have q9 := Int32.le_iff_toInt_le.mp q; rw [nJ_toInt (by first | decide | with_reducible assumption | omega)] at q9; exact q9))) ?_
      refine E_c rfl ?_
      exact E_rti rfl (.inr ⟨fun q => by have q1 := q.1; have q2 := q.2; omega, rfl, rfl⟩)
theorem sp_end9 {h : pm_H} {d : Nat} {x : Int32} (hh : HH h) : Sp (d + 2) 241 h [.ref 77, .int x] (fun h' r => ((0 ≤ x.toInt ∧ x.toInt ≤ ((gn h 77 6 : Nat) : Int)) ∧ h' = pt (pt h 77 0 (nJ 0)) 77 6 x ∧ r = some (.int x)) ∨ (¬ (0 ≤ x.toInt ∧ x.toInt ≤ ((gn h 77 6 : Nat) : Int)) ∧ h' = pt h 77 0 (nJ 0) ∧ r = some (.int (-1)))) := by
  have hn5 : gn h 77 6 ≤ 500 := gn_hi hh rfl (by decide)
  refine Sp_of aiX9_end rfl rfl rfl ?_
  refine E_al rfl (show pm_get (lv_args 0 [.ref 77, .int x]) 0 = _ from rfl) ?_
  refine E_ci 0 rfl ci0 ?_
  refine E_pf rfl hh rfl ?_
  have hh1 : HH (pt h 77 0 (nJ 0)) := HH_ptn hh rfl (by first | decide | with_reducible assumption | omega) (by first | decide | with_reducible assumption | omega) (by first | decide | with_reducible assumption | omega)
  refine E_il rfl (show pm_get (lv_args 0 [.ref 77, .int x]) 1 = _ from rfl) ?_
  refine E_i2l rfl ?_
  refine E_c rfl ?_
  refine E_al rfl (show pm_get (lv_args 0 [.ref 77, .int x]) 0 = _ from rfl) ?_
  refine E_gf rfl hh1 rfl (show gi (pt h 77 0 (nJ 0)) 77 6 = nJ ((gn h 77 6)) from (by rw [gi_ne (by first | exact gxx rfl | omega)]; exact gi_gn hh rfl (by decide))) ?_
  refine E_i2l rfl ?_
  refine E_call rfl (sp_in (a := x.toInt) (b := 0) (c := ((((gn h 77 6)) : Nat) : Int)) (i2l_toInt _) rfl (i2l_nJ (by first | decide | with_reducible assumption | omega))) (chkS rfl (by show 0 ≤ 8; decide)) (fun h2 r2 => ?_)
  rintro ⟨e2, f2⟩
  rw [e2, f2]
  show Ends _ _ (16, (lv_args 0 [.ref 77, .int x]), [.int (zb (0 ≤ x.toInt ∧ x.toInt ≤ ((((gn h 77 6)) : Nat) : Int)))], (pt h 77 0 (nJ 0)), 0, 0) _
  by_cases hb3 : 0 ≤ x.toInt ∧ x.toInt ≤ ((((gn h 77 6)) : Nat) : Int)
  · refine E_ifT rfl (by rw [zb_T hb3]; rfl) ?_
    refine E_al rfl (show pm_get (lv_args 0 [.ref 77, .int x]) 0 = _ from rfl) ?_
    refine E_il rfl (show pm_get (lv_args 0 [.ref 77, .int x]) 1 = _ from rfl) ?_
    refine E_pf rfl hh1 rfl ?_
    have hh4 : HH (pt (pt h 77 0 (nJ 0)) 77 6 x) := HH_pt hh1 rfl (by show (0 : Int) ≤ _; exact hb3.1) (by show _ ≤ (500 : Int); have := hb3.2; omega)
    refine E_il rfl (show pm_get (lv_args 0 [.ref 77, .int x]) 1 = _ from rfl) ?_
    exact E_rti rfl (.inl ⟨hb3, rfl, rfl⟩)
  · refine E_ifF rfl (by rw [zb_F hb3]; rfl) ?_
    refine E_c rfl ?_
    exact E_rti rfl (.inr ⟨hb3, rfl, rfl⟩)
end
section
/-! the relation of class and reference (written by gen_t27.py) -/
noncomputable def KP (h : pm_H) : Prop := ∀ j, j < 3 → gi h 52 j = gi h 88 j
noncomputable def REL (h : pm_H) : Prop := TP h ∧ KP h
noncomputable def IVR (h : pm_H) : Prop := IVh h ∧ REL h
noncomputable def kpB (M : List Rng) : Bool := M.all (fun r => !(Nat.beq r.1 52)) && M.all (fun r => !(Nat.beq r.1 88))
noncomputable def tpB (M : List Rng) : Bool := (!(rg_in M 1 1) && !(rg_in M 77 6)) && (M.all (fun r => !(Nat.beq r.1 2)) && M.all (fun r => !(Nat.beq r.1 82)))
noncomputable def relB (M : List Rng) : Bool := tpB M && kpB M
theorem KP_fr {M : List Rng} {h h' : pm_H} (hf : fr_g M h h') (hb : kpB M = true) (K : KP h) : KP h' := by
  unfold kpB at hb
  rw [Bool.and_eq_true] at hb
  intro j hj
  rw [fr_gi hf (rg_no hb.1 j), fr_gi hf (rg_no hb.2 j)]
  exact K j hj
theorem TP_frB {M : List Rng} {h h' : pm_H} (hf : fr_g M h h') (hb : tpB M = true) (T : TP h) : TP h' := by
  unfold tpB at hb
  rw [Bool.and_eq_true, Bool.and_eq_true, Bool.and_eq_true, Bool.not_eq_true', Bool.not_eq_true'] at hb
  exact TP_fr hf hb.1.1 hb.1.2 hb.2.1 hb.2.2 T
theorem REL_fr {M : List Rng} {h h' : pm_H} (hf : fr_g M h h') (hb : relB M = true) (R : REL h) : REL h' := by
  unfold relB at hb
  rw [Bool.and_eq_true] at hb
  exact ⟨TP_frB hf hb.1 R.1, KP_fr hf hb.2 R.2⟩
theorem tR_int {d y : Nat} {h : pm_H} {as : List Value} {M : List Rng} (hd : Nat.ble d 100 = true) (hM : relB M = true) (R : REL h) (k : Sp d y h as (fun h' r => IVh h' ∧ fr_g M h h' ∧ ∃ x : Int32, r = some (.int x))) : Sp 100 y h as (fun h' r => IVR h' ∧ ∃ x : Int32, r = some (.int x)) :=
  Sp_le (Nat.le_of_ble_eq_true hd) (Sp_mono (fun _ _ q => ⟨⟨q.1, REL_fr q.2.1 hM R⟩, q.2.2⟩) k)
theorem tR_lng {d y : Nat} {h : pm_H} {as : List Value} {M : List Rng} (hd : Nat.ble d 100 = true) (hM : relB M = true) (R : REL h) (k : Sp d y h as (fun h' r => IVh h' ∧ fr_g M h h' ∧ ∃ x : Int64, r = some (.long x))) : Sp 100 y h as (fun h' r => IVR h' ∧ ∃ x : Int64, r = some (.long x)) :=
  Sp_le (Nat.le_of_ble_eq_true hd) (Sp_mono (fun _ _ q => ⟨⟨q.1, REL_fr q.2.1 hM R⟩, q.2.2⟩) k)
/-- feed: between the class's call and the reference's -/
noncomputable def half_feed (h : pm_H) (x a b c d e : Int32) : Prop := KP h ∧ ((gn h 77 6 + 20 ≤ 500 ∧ x = nJ (gn h 77 6 + 20) ∧ gn h 1 1 = gn h 77 6 + 20 ∧ (∀ j, j < gn h 77 6 → gi h 2 j = gi h 82 j) ∧ ∀ i, i < 20 → gi h 2 (gn h 77 6 + i) = b20 a b c d e i) ∨ (¬ gn h 77 6 + 20 ≤ 500 ∧ x = -1 ∧ TP h))
theorem c8_feed {h : pm_H} {a b c d e : Int32} (I : IVR h) : Sp 100 106 h [.ref 0, .int a, .int b, .int c, .int d, .int e] (fun h' r => IVh h' ∧ ∃ x : Int32, r = some (.int x) ∧ half_feed h' x a b c d e) := by
  refine Sp_le (by first | exact Nat.add_le_add_left (Nat.le_of_ble_eq_true rfl) _ | exact Nat.le_of_ble_eq_true rfl | omega) (Sp_mono ?_ (Sp_and (top_all (as := [.ref 0, .int a, .int b, .int c, .int d, .int e]) q1 (by decide +kernel) I.1 ⟨rfl, aI _, aI _, aI _, aI _, aI _, trivial⟩) (sp_feed8 (dd := 0) I.1.1)))
  rintro h' r ⟨⟨s1, s2, -⟩, s3⟩
  obtain ⟨T1, T2⟩ := I.2.1
  have e6 : gn h' 77 6 = gn h 77 6 := fr_gn s2 rfl
  have k1 : KP h' := KP_fr s2 rfl I.2.2
  rcases s3 with ⟨n1, e1, rfl⟩ | ⟨n1, e1, rfl⟩
  · obtain ⟨p1, p2, p3, p4, p5⟩ := rd20_ok (v1 := a) (v2 := b) (v3 := c) (v4 := d) (v5 := e) isT8 I.1.1 n1
    rw [← e1] at p2 p3 p4
    refine ⟨s1, _, rfl, k1, .inl ⟨by omega, by rw [e6, T1], by omega, fun j hj => ?_, fun i hi => ?_⟩⟩
    · rw [p3 j (by first | decide | with_reducible assumption | omega), fr_gi s2 (rg_no rfl j)]
      exact T2 j (by first | decide | with_reducible assumption | omega)
    · rw [e6, ← T1]
      exact p4 i hi
  · exact ⟨s1, _, rfl, k1, .inr ⟨by omega, rfl, by rw [e1]; exact I.2.1⟩⟩
theorem c9_feed {h : pm_H} {x a b c d e : Int32} (I : IVh h) (J : half_feed h x a b c d e) : Sp 100 247 h [.ref 77, .int a, .int b, .int c, .int d, .int e] (fun h' r => IVR h' ∧ r = some (.int x)) := by
  refine Sp_le (by first | exact Nat.add_le_add_left (Nat.le_of_ble_eq_true rfl) _ | exact Nat.le_of_ble_eq_true rfl | omega) (Sp_mono ?_ (Sp_and (top_all (as := [.ref 77, .int a, .int b, .int c, .int d, .int e]) q7 (by decide +kernel) I ⟨rfl, aI _, aI _, aI _, aI _, aI _, trivial⟩) (sp_feed9 (dd := 0) I.1)))
  rintro h' r ⟨⟨s1, s2, -⟩, s3⟩
  obtain ⟨k0, J⟩ := J
  have k1 : KP h' := KP_fr s2 rfl k0
  have e11 : gn h' 1 1 = gn h 1 1 := fr_gn s2 rfl
  rcases s3 with ⟨n1, e1, rfl⟩ | ⟨n1, e1, rfl⟩
  · rcases J with ⟨j1, rfl, j3, j4, j5⟩ | ⟨j1, -, -⟩
    · have hb : HH (pt h 77 0 (nJ 0)) := HH_ptn I.1 rfl (by first | decide | with_reducible assumption | omega) (by first | decide | with_reducible assumption | omega) (by first | decide | with_reducible assumption | omega)
      have eb : gn (pt h 77 0 (nJ 0)) 77 6 = gn h 77 6 := gn_ne (by first | exact gxx rfl | omega)
      obtain ⟨p1, p2, p3, p4, p5⟩ := rd20_ok (v1 := a) (v2 := b) (v3 := c) (v4 := d) (v5 := e) isT9 hb (by first | decide | with_reducible assumption | omega)
      rw [← e1] at p2 p3 p4
      refine ⟨⟨s1, ⟨by omega, fun j hj => ?_⟩, k1⟩, rfl⟩
      rw [e11] at hj
      rw [fr_gi s2 (rg_no rfl j)]
      by_cases hj2 : j < gn h 77 6
      · rw [j4 j hj2, p3 j (by first | decide | with_reducible assumption | omega)]
        exact (gi_ne (by first | exact gxx rfl | omega)).symm
      · have h5 := j5 (j - gn h 77 6) (by first | decide | with_reducible assumption | omega)
        have h4 := p4 (j - gn h 77 6) (by first | decide | with_reducible assumption | omega)
        rw [eb] at h4
        rw [show gn h 77 6 + (j - gn h 77 6) = j by omega] at h5 h4
        rw [h5, h4]
    · exact absurd n1 j1
  · rcases J with ⟨j1, -⟩ | ⟨j1, rfl, j3⟩
    · exact absurd j1 n1
    · exact ⟨⟨s1, TP_fr (M := [(77, 0, 0)]) (by rw [e1]; exact fr_ptr (l := 0) (u := 0) rfl (by first | decide | with_reducible assumption | omega) (by first | decide | with_reducible assumption | omega) (fr_rf _ _)) rfl rfl rfl rfl j3, k1⟩, rfl⟩
noncomputable def half_end (h : pm_H) (x v : Int32) : Prop := KP h ∧ (((0 ≤ v.toInt ∧ v.toInt ≤ ((gn h 77 6 : Nat) : Int)) ∧ x = v ∧ gn h 1 1 = v.toInt.toNat ∧ ∀ j, j < gn h 77 6 → gi h 2 j = gi h 82 j) ∨ (¬ (0 ≤ v.toInt ∧ v.toInt ≤ ((gn h 77 6 : Nat) : Int)) ∧ x = -1 ∧ TP h))
theorem c8_end {h : pm_H} {v : Int32} (I : IVR h) : Sp 100 101 h [.ref 0, .int v] (fun h' r => IVh h' ∧ ∃ x : Int32, r = some (.int x) ∧ half_end h' x v) := by
  refine Sp_le (by first | exact Nat.add_le_add_left (Nat.le_of_ble_eq_true rfl) _ | exact Nat.le_of_ble_eq_true rfl | omega) (Sp_mono ?_ (Sp_and (top_all (as := [.ref 0, .int v]) q8 (by decide +kernel) I.1 ⟨rfl, aI _, trivial⟩) (sp_end8 (d := 0) I.1.1)))
  rintro h' r ⟨⟨s1, s2, -⟩, s3⟩
  obtain ⟨T1, T2⟩ := I.2.1
  have e6 : gn h' 77 6 = gn h 77 6 := fr_gn s2 rfl
  have k1 : KP h' := KP_fr s2 rfl I.2.2
  have hn5 : gn h 1 1 ≤ 500 := gn_hi I.1.1 rfl (by decide)
  rcases s3 with ⟨n1, e1, rfl⟩ | ⟨n1, e1, rfl⟩
  · refine ⟨s1, _, rfl, k1, .inl ⟨⟨n1.1, by have := n1.2; omega⟩, rfl, ?_, fun j hj => ?_⟩⟩
    · unfold gn
      rw [e1, gi_pt I.1.1 (q := (0, 500)) rfl n1.1 (by have := n1.2; show _ ≤ (500 : Int); omega)]
    · rw [fr_gi s2 (rg_no rfl j), fr_gi s2 (rg_no rfl j)]
      exact T2 j (by first | decide | with_reducible assumption | omega)
  · refine ⟨s1, _, rfl, k1, .inr ⟨fun q => n1 ⟨q.1, by have := q.2; omega⟩, rfl, by rw [e1]; exact I.2.1⟩⟩
theorem c9_end {h : pm_H} {x v : Int32} (I : IVh h) (J : half_end h x v) : Sp 100 241 h [.ref 77, .int v] (fun h' r => IVR h' ∧ r = some (.int x)) := by
  refine Sp_le (by first | exact Nat.add_le_add_left (Nat.le_of_ble_eq_true rfl) _ | exact Nat.le_of_ble_eq_true rfl | omega) (Sp_mono ?_ (Sp_and (top_all (as := [.ref 77, .int v]) q10 (by decide +kernel) I ⟨rfl, aI _, trivial⟩) (sp_end9 (d := 0) I.1)))
  rintro h' r ⟨⟨s1, s2, -⟩, s3⟩
  obtain ⟨k0, J⟩ := J
  have k1 : KP h' := KP_fr s2 rfl k0
  have e11 : gn h' 1 1 = gn h 1 1 := fr_gn s2 rfl
  have hn5 : gn h 77 6 ≤ 500 := gn_hi I.1 rfl (by decide)
  rcases s3 with ⟨n1, e1, rfl⟩ | ⟨n1, e1, rfl⟩
  · rcases J with ⟨j1, rfl, j3, j4⟩ | ⟨j1, -, -⟩
    · have hb : HH (pt h 77 0 (nJ 0)) := HH_ptn I.1 rfl (by first | decide | with_reducible assumption | omega) (by first | decide | with_reducible assumption | omega) (by first | decide | with_reducible assumption | omega)
      have e2 : gn h' 77 6 = x.toInt.toNat := by
        unfold gn
        rw [e1, gi_pt hb (q := (0, 500)) rfl n1.1 (by have := n1.2; show _ ≤ (500 : Int); omega)]
      refine ⟨⟨s1, ⟨by omega, fun j hj => ?_⟩, k1⟩, rfl⟩
      rw [fr_gi s2 (rg_no rfl j), fr_gi s2 (rg_no rfl j)]
      exact j4 j (by have := n1.2; omega)
    · exact absurd n1 j1
  · rcases J with ⟨j1, -⟩ | ⟨j1, rfl, j3⟩
    · exact absurd j1 n1
    · exact ⟨⟨s1, TP_fr (M := [(77, 0, 0)]) (by rw [e1]; exact fr_ptr (l := 0) (u := 0) rfl (by first | decide | with_reducible assumption | omega) (by first | decide | with_reducible assumption | omega) (fr_rf _ _)) rfl rfl rfl rfl j3, k1⟩, rfl⟩
noncomputable def half_street (h : pm_H) : Prop := gn h 1 1 = 0 ∧ KP h
theorem c8_street {h : pm_H} (I : IVR h) : Sp 100 185 h [.ref 0] (fun h' r => IVh h' ∧ ∃ x : Int32, r = some (.int x) ∧ half_street h') := by
  refine Sp_le (by first | exact Nat.add_le_add_left (Nat.le_of_ble_eq_true rfl) _ | exact Nat.le_of_ble_eq_true rfl | omega) (Sp_mono ?_ (top_all (as := [.ref 0]) q106 (by decide +kernel) I.1 ⟨rfl, trivial⟩))
  rintro h' r ⟨s1, s2, C, hC, s3, s4⟩
  have e := List.mem_singleton.mp hC
  subst e
  obtain ⟨x, hx⟩ := rv_ci s4
  obtain ⟨y, y1, y2, y3⟩ := s3 ((1, 1), 0, 0) List.mem_cons_self
  refine ⟨s1, x, hx, ?_, KP_fr s2 rfl I.2.2⟩
  have y1 : ld h' 1 1 = some (.int y) := y1
  have y2 : (0 : Int) ≤ y.toInt := y2
  have y3 : y.toInt ≤ (0 : Int) := y3
  unfold gn gi
  rw [y1]
  show y.toInt.toNat = 0
  omega
theorem c9_street {h : pm_H} (I : IVh h) (J : half_street h) : Sp 100 354 h [.ref 77] (fun h' r => IVR h' ∧ ∃ x : Int32, r = some (.int x)) := by
  refine Sp_le (by first | exact Nat.add_le_add_left (Nat.le_of_ble_eq_true rfl) _ | exact Nat.le_of_ble_eq_true rfl | omega) (Sp_mono ?_ (tv_street (d := 0) I.1 I.2.2))
  rintro h' r ⟨a1, a2, a3, a4, a5⟩
  have e11 : gn h' 1 1 = gn h 1 1 := fr_gn a2 rfl
  have j1 := J.1
  exact ⟨⟨IVh_fr (M := VMS) (by decide +kernel) a2 a1 I a3, ⟨by omega, fun j hj => by omega⟩, KP_fr a2 rfl J.2⟩, a5⟩
theorem sp_image8 {h : pm_H} {x : Int32} (I : IVh h) : Sp 20 121 h [.ref 0, .int x] (fun h' r => r = some (.int (imv x)) ∧ ∀ j, j < 3 → gi h' 52 j = if x = nJ j then 1 else gi h 52 j) := by
  refine Sp_of (d := 19) aiX8_image rfl rfl rfl ?_
  have L0 : pm_get (lv_args 0 [.ref 0, .int x]) 0 = some (.ref 0) := rfl
  have L1 : pm_get (lv_args 0 [.ref 0, .int x]) 1 = some (.int x) := rfl
  generalize lv_args 0 [.ref 0, .int x] = lv at L0 L1 ⊢
  refine E_il rfl L1 ?_
  by_cases hr : 0 ≤ x.toInt ∧ x.toInt ≤ 2
  · obtain ⟨k, hk, rfl⟩ := nJ_of2 (n := 2) hr.1 hr.2
    refine E_ifF rfl (decide_eq_false (nJ_lt0 (by first | decide | with_reducible assumption | omega))) ?_
    refine E_il rfl L1 ?_
    refine E_ci 3 rfl ci3 ?_
    refine E_icT rfl (decide_eq_true ((nJ_lt (by first | decide | with_reducible assumption | omega) (by first | decide | with_reducible assumption | omega)).mpr (by first | decide | with_reducible assumption | omega))) ?_
    match k, hk with
    | 0, _ =>
      refine E_al rfl L0 ?_
      refine E_ogr rfl I.1 rfl (q := 24) rfl ?_
      refine E_il rfl L1 ?_
      refine E_aal rfl I.1 rfl (q := 25) rfl (by decide) ?_
      refine E_al rfl L0 ?_
      refine E_ogr rfl I.1 rfl (q := 15) rfl ?_
      refine E_call rfl (Sp_le (by first | exact Nat.add_le_add_left (Nat.le_of_ble_eq_true rfl) _ | exact Nat.le_of_ble_eq_true rfl | omega) (Sp_sum (as := [.ref 25, .ref 15]) q904 I.1 ⟨rfl, rfl, trivial⟩ (fun _ hq => absurd hq List.not_mem_nil) (fun i hi => I.2.1 i (List.mem_of_elem_eq_true (List.all_eq_true.mp (show [41, 62].all (fun i => List.elem i CF) = true from rfl) i hi))))) (chkO (a := 25) I.1 rfl rfl rfl rfl (by show 0 ≤ 8; decide)) (fun h4 r4 => ?_)
      rintro ⟨hh4, fq4, C4, hC4, -, -, -, rv4⟩
      have e4 : r4 = none := by have e := List.mem_singleton.mp hC4; subst e; cases r4 with | none => rfl | some v => exact rv4.elim
      rw [e4]
      show Ends _ _ (25, lv, [], h4, 0, 0) _
      refine E_al rfl L0 ?_
      refine E_ogr rfl hh4 rfl (q := 52) rfl ?_
      refine E_il rfl L1 ?_
      refine E_ci 1 rfl ci1 ?_
      refine E_zasA rfl hh4 rfl (by decide) ?_
      refine E_ci 0 rfl ci0 ?_
      exact E_rti rfl ⟨by rw [imv_in hr]; rfl, kp_in hh4 rfl (by decide) (fun j => fr_gi fq4 (rg_no rfl j))⟩
    | 1, _ =>
      refine E_al rfl L0 ?_
      refine E_ogr rfl I.1 rfl (q := 24) rfl ?_
      refine E_il rfl L1 ?_
      refine E_aal rfl I.1 rfl (q := 34) rfl (by decide) ?_
      refine E_al rfl L0 ?_
      refine E_ogr rfl I.1 rfl (q := 15) rfl ?_
      refine E_call rfl (Sp_le (by first | exact Nat.add_le_add_left (Nat.le_of_ble_eq_true rfl) _ | exact Nat.le_of_ble_eq_true rfl | omega) (Sp_sum (as := [.ref 34, .ref 15]) q903 I.1 ⟨rfl, rfl, trivial⟩ (fun _ hq => absurd hq List.not_mem_nil) (fun i hi => I.2.1 i (List.mem_of_elem_eq_true (List.all_eq_true.mp (show [41, 83].all (fun i => List.elem i CF) = true from rfl) i hi))))) (chkO (a := 34) I.1 rfl rfl rfl rfl (by show 0 ≤ 8; decide)) (fun h4 r4 => ?_)
      rintro ⟨hh4, fq4, C4, hC4, -, -, -, rv4⟩
      have e4 : r4 = none := by have e := List.mem_singleton.mp hC4; subst e; cases r4 with | none => rfl | some v => exact rv4.elim
      rw [e4]
      show Ends _ _ (25, lv, [], h4, 0, 0) _
      refine E_al rfl L0 ?_
      refine E_ogr rfl hh4 rfl (q := 52) rfl ?_
      refine E_il rfl L1 ?_
      refine E_ci 1 rfl ci1 ?_
      refine E_zasA rfl hh4 rfl (by decide) ?_
      refine E_ci 0 rfl ci0 ?_
      exact E_rti rfl ⟨by rw [imv_in hr]; rfl, kp_in hh4 rfl (by decide) (fun j => fr_gi fq4 (rg_no rfl j))⟩
    | 2, _ =>
      refine E_al rfl L0 ?_
      refine E_ogr rfl I.1 rfl (q := 24) rfl ?_
      refine E_il rfl L1 ?_
      refine E_aal rfl I.1 rfl (q := 43) rfl (by decide) ?_
      refine E_al rfl L0 ?_
      refine E_ogr rfl I.1 rfl (q := 15) rfl ?_
      refine E_call rfl (Sp_le (by first | exact Nat.add_le_add_left (Nat.le_of_ble_eq_true rfl) _ | exact Nat.le_of_ble_eq_true rfl | omega) (Sp_sum (as := [.ref 43, .ref 15]) q902 I.1 ⟨rfl, rfl, trivial⟩ (fun _ hq => absurd hq List.not_mem_nil) (fun i hi => I.2.1 i (List.mem_of_elem_eq_true (List.all_eq_true.mp (show [41, 104].all (fun i => List.elem i CF) = true from rfl) i hi))))) (chkO (a := 43) I.1 rfl rfl rfl rfl (by show 0 ≤ 8; decide)) (fun h4 r4 => ?_)
      rintro ⟨hh4, fq4, C4, hC4, -, -, -, rv4⟩
      have e4 : r4 = none := by have e := List.mem_singleton.mp hC4; subst e; cases r4 with | none => rfl | some v => exact rv4.elim
      rw [e4]
      show Ends _ _ (25, lv, [], h4, 0, 0) _
      refine E_al rfl L0 ?_
      refine E_ogr rfl hh4 rfl (q := 52) rfl ?_
      refine E_il rfl L1 ?_
      refine E_ci 1 rfl ci1 ?_
      refine E_zasA rfl hh4 rfl (by decide) ?_
      refine E_ci 0 rfl ci0 ?_
      exact E_rti rfl ⟨by rw [imv_in hr]; rfl, kp_in hh4 rfl (by decide) (fun j => fr_gi fq4 (rg_no rfl j))⟩
  · have z0 : (0 : Int32).toInt = 0 := rfl
    by_cases h0 : x < 0
    · refine E_ifT rfl (decide_eq_true h0) ?_
      refine E_c rfl ?_
      exact E_rti rfl ⟨by rw [imv_no hr], kp_out hr (fun j => rfl)⟩
    · refine E_ifF rfl (decide_eq_false h0) ?_
      refine E_il rfl L1 ?_
      refine E_ci 3 rfl ci3 ?_
      refine E_icF rfl (decide_eq_false (fun q => hr ?_)) ?_
      · have q1 := Int32.lt_iff_toInt_lt.mp q
        rw [nJ_toInt (by first | decide | with_reducible assumption | omega)] at q1
        have q2 : ¬ x.toInt < (0 : Int32).toInt := fun z => h0 (Int32.lt_iff_toInt_lt.mpr z)
        omega
      · refine E_c rfl ?_
        exact E_rti rfl ⟨by rw [imv_no hr], kp_out hr (fun j => rfl)⟩
theorem sp_back8 {h : pm_H} {x : Int32} (I : IVh h) : Sp 20 82 h [.ref 0, .int x] (fun h' r => r = some (.int (bkv 52 h x))) := by
  refine Sp_of (d := 19) aiX8_back rfl rfl rfl ?_
  have L0 : pm_get (lv_args 0 [.ref 0, .int x]) 0 = some (.ref 0) := rfl
  have L1 : pm_get (lv_args 0 [.ref 0, .int x]) 1 = some (.int x) := rfl
  generalize lv_args 0 [.ref 0, .int x] = lv at L0 L1 ⊢
  refine E_il rfl L1 ?_
  by_cases hr : 0 ≤ x.toInt ∧ x.toInt ≤ 2
  · obtain ⟨k, hk, rfl⟩ := nJ_of2 (n := 2) hr.1 hr.2
    refine E_ifF rfl (decide_eq_false (nJ_lt0 (by first | decide | with_reducible assumption | omega))) ?_
    refine E_il rfl L1 ?_
    refine E_ci 3 rfl ci3 ?_
    refine E_icT rfl (decide_eq_true ((nJ_lt (by first | decide | with_reducible assumption | omega) (by first | decide | with_reducible assumption | omega)).mpr (by first | decide | with_reducible assumption | omega))) ?_
    refine E_al rfl L0 ?_
    refine E_ogr rfl I.1 rfl (q := 52) rfl ?_
    refine E_il rfl L1 ?_
    refine E_zalA rfl I.1 rfl (by first | decide | with_reducible assumption | omega) ?_
    by_cases hz : gi h 52 k = 0
    · refine E_ifF rfl (decide_eq_false (fun q => q hz)) ?_
      refine E_c rfl ?_
      exact E_rti rfl (by rw [bkv_6 hk hz])
    · refine E_ifT rfl (decide_eq_true hz) ?_
      have hb := bkv_0 hk hz
      match k, hk, hb with
      | 0, _, hb =>
        refine E_al rfl L0 ?_
        refine E_ogr rfl I.1 rfl (q := 15) rfl ?_
        refine E_al rfl L0 ?_
        refine E_ogr rfl I.1 rfl (q := 24) rfl ?_
        refine E_il rfl L1 ?_
        refine E_aal rfl I.1 rfl (q := 25) rfl (by decide) ?_
        refine E_call rfl (Sp_le (by first | exact Nat.add_le_add_left (Nat.le_of_ble_eq_true rfl) _ | exact Nat.le_of_ble_eq_true rfl | omega) (Sp_sum (as := [.ref 15, .ref 25]) q926 I.1 ⟨rfl, rfl, trivial⟩ (fun _ hq => absurd hq List.not_mem_nil) (fun i hi => I.2.1 i (List.mem_of_elem_eq_true (List.all_eq_true.mp (show [41, 62].all (fun i => List.elem i CF) = true from rfl) i hi))))) (chkO (a := 15) I.1 rfl rfl rfl rfl (by show 0 ≤ 8; decide)) (fun h4 r4 => ?_)
        rintro ⟨hh4, fq4, C4, hC4, -, -, -, rv4⟩
        have e4 : r4 = none := by have e := List.mem_singleton.mp hC4; subst e; cases r4 with | none => rfl | some v => exact rv4.elim
        rw [e4]
        show Ends _ _ (37, lv, [], h4, 0, 0) _
        refine E_ci 0 rfl ci0 ?_
        exact E_rti rfl (by rw [hb]; rfl)
      | 1, _, hb =>
        refine E_al rfl L0 ?_
        refine E_ogr rfl I.1 rfl (q := 15) rfl ?_
        refine E_al rfl L0 ?_
        refine E_ogr rfl I.1 rfl (q := 24) rfl ?_
        refine E_il rfl L1 ?_
        refine E_aal rfl I.1 rfl (q := 34) rfl (by decide) ?_
        refine E_call rfl (Sp_le (by first | exact Nat.add_le_add_left (Nat.le_of_ble_eq_true rfl) _ | exact Nat.le_of_ble_eq_true rfl | omega) (Sp_sum (as := [.ref 15, .ref 34]) q925 I.1 ⟨rfl, rfl, trivial⟩ (fun _ hq => absurd hq List.not_mem_nil) (fun i hi => I.2.1 i (List.mem_of_elem_eq_true (List.all_eq_true.mp (show [41, 83].all (fun i => List.elem i CF) = true from rfl) i hi))))) (chkO (a := 15) I.1 rfl rfl rfl rfl (by show 0 ≤ 8; decide)) (fun h4 r4 => ?_)
        rintro ⟨hh4, fq4, C4, hC4, -, -, -, rv4⟩
        have e4 : r4 = none := by have e := List.mem_singleton.mp hC4; subst e; cases r4 with | none => rfl | some v => exact rv4.elim
        rw [e4]
        show Ends _ _ (37, lv, [], h4, 0, 0) _
        refine E_ci 0 rfl ci0 ?_
        exact E_rti rfl (by rw [hb]; rfl)
      | 2, _, hb =>
        refine E_al rfl L0 ?_
        refine E_ogr rfl I.1 rfl (q := 15) rfl ?_
        refine E_al rfl L0 ?_
        refine E_ogr rfl I.1 rfl (q := 24) rfl ?_
        refine E_il rfl L1 ?_
        refine E_aal rfl I.1 rfl (q := 43) rfl (by decide) ?_
        refine E_call rfl (Sp_le (by first | exact Nat.add_le_add_left (Nat.le_of_ble_eq_true rfl) _ | exact Nat.le_of_ble_eq_true rfl | omega) (Sp_sum (as := [.ref 15, .ref 43]) q924 I.1 ⟨rfl, rfl, trivial⟩ (fun _ hq => absurd hq List.not_mem_nil) (fun i hi => I.2.1 i (List.mem_of_elem_eq_true (List.all_eq_true.mp (show [41, 104].all (fun i => List.elem i CF) = true from rfl) i hi))))) (chkO (a := 15) I.1 rfl rfl rfl rfl (by show 0 ≤ 8; decide)) (fun h4 r4 => ?_)
        rintro ⟨hh4, fq4, C4, hC4, -, -, -, rv4⟩
        have e4 : r4 = none := by have e := List.mem_singleton.mp hC4; subst e; cases r4 with | none => rfl | some v => exact rv4.elim
        rw [e4]
        show Ends _ _ (37, lv, [], h4, 0, 0) _
        refine E_ci 0 rfl ci0 ?_
        exact E_rti rfl (by rw [hb]; rfl)
  · have z0 : (0 : Int32).toInt = 0 := rfl
    by_cases h0 : x < 0
    · refine E_ifT rfl (decide_eq_true h0) ?_
      refine E_c rfl ?_
      exact E_rti rfl (by rw [bkv_no hr])
    · refine E_ifF rfl (decide_eq_false h0) ?_
      refine E_il rfl L1 ?_
      refine E_ci 3 rfl ci3 ?_
      refine E_icF rfl (decide_eq_false (fun q => hr ?_)) ?_
      · have q1 := Int32.lt_iff_toInt_lt.mp q
        rw [nJ_toInt (by first | decide | with_reducible assumption | omega)] at q1
        have q2 : ¬ x.toInt < (0 : Int32).toInt := fun z => h0 (Int32.lt_iff_toInt_lt.mpr z)
        omega
      · refine E_c rfl ?_
        exact E_rti rfl (by rw [bkv_no hr])
noncomputable def half_image (h : pm_H) (x v : Int32) : Prop := TP h ∧ x = imv v ∧ ∀ j, j < 3 → gi h 52 j = if v = nJ j then 1 else gi h 88 j
theorem c8_image {h : pm_H} {v : Int32} (I : IVR h) : Sp 100 121 h [.ref 0, .int v] (fun h' r => IVh h' ∧ ∃ x : Int32, r = some (.int x) ∧ half_image h' x v) := by
  refine Sp_le (by first | exact Nat.add_le_add_left (Nat.le_of_ble_eq_true rfl) _ | exact Nat.le_of_ble_eq_true rfl | omega) (Sp_mono ?_ (Sp_and (top_all (as := [.ref 0, .int v]) q905 (by decide +kernel) I.1 ⟨rfl, aI _, trivial⟩) (sp_image8 I.1)))
  rintro h' r ⟨⟨s1, s2, -⟩, rfl, s3⟩
  refine ⟨s1, _, rfl, TP_frB s2 rfl I.2.1, rfl, fun j hj => ?_⟩
  rw [s3 j hj, I.2.2 j hj, fr_gi s2 (rg_no rfl j)]
theorem c9_image {h : pm_H} {x v : Int32} (I : IVh h) (J : half_image h x v) : Sp 100 260 h [.ref 77, .int v] (fun h' r => IVR h' ∧ r = some (.int x)) := by
  refine Sp_le (by first | exact Nat.add_le_add_left (Nat.le_of_ble_eq_true rfl) _ | exact Nat.le_of_ble_eq_true rfl | omega) (Sp_mono ?_ (tv_image (d := 0) I.1 I.2.2))
  rintro h' r ⟨a1, a2, a3, rfl, a5⟩
  obtain ⟨j1, rfl, j3⟩ := J
  refine ⟨⟨IVh_fr (M := VMI) (by decide +kernel) a2 a1 I a3, TP_frB a2 rfl j1, fun j hj => ?_⟩, rfl⟩
  rw [a5 j hj, fr_gi a2 (rg_no rfl j)]
  exact j3 j hj
theorem bkv_eq {A B : Nat} {h g : pm_H} {v : Int32} (e : ∀ j, j < 3 → gi h A j = gi g B j) : bkv A h v = bkv B g v := by
  unfold bkv
  by_cases q : 0 ≤ v.toInt ∧ v.toInt ≤ 2
  · rw [if_pos q, if_pos q, e _ (by first | decide | with_reducible assumption | omega)]
  · rw [if_neg q, if_neg q]
noncomputable def half_back (h : pm_H) (x v : Int32) : Prop := REL h ∧ x = bkv 88 h v
theorem c8_back {h : pm_H} {v : Int32} (I : IVR h) : Sp 100 82 h [.ref 0, .int v] (fun h' r => IVh h' ∧ ∃ x : Int32, r = some (.int x) ∧ half_back h' x v) := by
  refine Sp_le (by first | exact Nat.add_le_add_left (Nat.le_of_ble_eq_true rfl) _ | exact Nat.le_of_ble_eq_true rfl | omega) (Sp_mono ?_ (Sp_and (top_all (as := [.ref 0, .int v]) q927 (by decide +kernel) I.1 ⟨rfl, aI _, trivial⟩) (sp_back8 I.1)))
  rintro h' r ⟨⟨s1, s2, -⟩, rfl⟩
  refine ⟨s1, _, rfl, REL_fr s2 rfl I.2, bkv_eq (fun j hj => ?_)⟩
  rw [fr_gi s2 (rg_no rfl j)]
  exact I.2.2 j hj
theorem c9_back {h : pm_H} {x v : Int32} (I : IVh h) (J : half_back h x v) : Sp 100 212 h [.ref 77, .int v] (fun h' r => IVR h' ∧ r = some (.int x)) := by
  refine Sp_le (by first | exact Nat.add_le_add_left (Nat.le_of_ble_eq_true rfl) _ | exact Nat.le_of_ble_eq_true rfl | omega) (Sp_mono ?_ (tv_back (d := 0) I.1 I.2.2))
  rintro h' r ⟨a1, a2, a3, rfl⟩
  obtain ⟨j1, rfl⟩ := J
  exact ⟨⟨IVh_fr (M := VM) (by decide +kernel) a2 a1 I a3, REL_fr a2 rfl j1⟩, rfl⟩
theorem IVR_hp0 : IVR hp0 := ⟨IVh_hp0, ⟨rfl, fun j hj => absurd hj (Nat.not_lt_zero j)⟩, fun _ _ => rfl⟩
end
section
/-! by hand: the class's paste -/
theorem E_cpy {look : Nat → Option pm_I} {call : pm_Call} {Q : pm_H → Option Value → Prop} {pc n : Nat} {lv : List (Nat × Value)} {st : List Value} {h : pm_H} {z : Nat × Nat} {a0 a1 : Nat} {sp dp m : Int32} (h1 : look pc = some (.inl (s_copy n))) (hh : HH h) (c0 : hsF a0 = some (.inr (.inl 60))) (c1 : hsF a1 = some (.inr (.inl 60))) (k1 : 0 ≤ sp.toInt) (k2 : 0 ≤ dp.toInt) (k3 : 0 ≤ m.toInt) (k4 : sp.toInt + m.toInt ≤ 60) (k5 : dp.toInt + m.toInt ≤ 60) (hs : Nat.ble (pm_sz st) 8 = true) (kk : ∀ h', HH h' → fr_g [(a1, 0, 59)] h h' → Ends look call (n, lv, st, h', z) Q) : Ends look call (pc, lv, .int m :: .int dp :: .ref a1 :: .int sp :: .ref a0 :: st, h, z) Q := by
  obtain ⟨x, hx, hg⟩ := hf_at hh c0
  obtain ⟨y, hy, hk⟩ := hf_at hh c1
  match x, hx, hg, y, hy, hk with
  | .inl (t2, len2, .inr (.inl f)), hx, hg, .inl (t3, len3, .inr (.inl g)), hy, hk =>
    obtain ⟨rfl, rfl⟩ := hg
    obtain ⟨rfl, rfl⟩ := hk
    have z0 : (0 : Int32).toInt = 0 := rfl
    have n1 : ∀ w : Int32, 0 ≤ w.toInt → (!(decide (w < 0))) = true := fun w hw => by
      rw [decide_eq_false (fun q => by have := Int32.lt_iff_toInt_lt.mp q; omega)]; rfl
    have e1 : sp.toNatClampNeg = sp.toInt.toNat := rfl
    have e2 : dp.toNatClampNeg = dp.toInt.toNat := rfl
    have e3 : m.toNatClampNeg = m.toInt.toNat := rfl
    have b1 : Nat.ble (sp.toNatClampNeg + m.toNatClampNeg) 60 = true := Nat.ble_eq_true_of_le (by rw [e1, e3]; omega)
    have b2 : Nat.ble (dp.toNatClampNeg + m.toNatClampNeg) 60 = true := Nat.ble_eq_true_of_le (by rw [e2, e3]; omega)
    refine E_st h1 (σ' := (n, lv, st, h.set a1 (.inl (3, 60, .inr (.inl (va_cpy f g sp.toNatClampNeg dp.toNatClampNeg m.toNatClampNeg)))), z)) ?_ (kk _ (hf_set hh c1 ⟨rfl, rfl⟩) ?_)
    · simp only [s_copy, hx, hy, n1 sp k1, n1 dp k2, n1 m k3, b1, b2, hs, Bool.and_self, cond_true]
    · intro b j hbj
      by_cases e : b = a1
      · subst e
        have hj : ¬ j ≤ 59 := fun hj => by
          rw [rg_in_one (Nat.zero_le _) hj (List.mem_singleton_self _)] at hbj
          cases hbj
        have e9 : va_cpy f g sp.toNatClampNeg dp.toNatClampNeg m.toNatClampNeg j = g j := by
          unfold va_cpy
          rw [if_neg (by rw [e2, e3]; omega)]
        unfold ld
        rw [List.getElem?_set_self (List.getElem?_eq_some_iff.mp hy).1, hy]
        dsimp only
        rw [e9]
      · unfold ld
        rw [List.getElem?_set_ne (Ne.symm e)]
/-- so many numbers from there on lie in the slot -/
noncomputable def hol (h : pm_H) (a : Nat) (f n : Int32) : Prop := 0 ≤ f.toInt ∧ 0 ≤ n.toInt ∧ f.toInt + n.toInt ≤ (gi h a 3).toInt
section PS
variable {h : pm_H} {d a c k : Nat} {x : Int32}
theorem sp_holds {f n : Int32} (hh : HH h) (S : isS a c) : Sp (d + 1) 45 h [.ref a, .int f, .int n] (fun h' r => h' = h ∧ ((hol h a f n ∧ r = some (.int 1)) ∨ (¬ hol h a f n ∧ r = some (.int 0)))) := by
  obtain ⟨S1, S2, S3, S4, S5, S6⟩ := S
  refine Sp_of aiX4_holds rfl rfl rfl ?_
  have L0 : pm_get (lv_args 0 [.ref a, .int f, .int n]) 0 = some (.ref a) := rfl
  have L1 : pm_get (lv_args 0 [.ref a, .int f, .int n]) 1 = some (.int f) := rfl
  have L2 : pm_get (lv_args 0 [.ref a, .int f, .int n]) 2 = some (.int n) := rfl
  generalize lv_args 0 [.ref a, .int f, .int n] = lv at L0 L1 L2 ⊢
  have z0 : (0 : Int32).toInt = 0 := rfl
  have no : ∀ {lv : List (Nat × Value)}, ¬ hol h a f n → Ends (pm_at tX4_holds) (pm_Rt pm_P d) (22, lv, [], h, 0, 0) (fun h' r => h' = h ∧ ((hol h a f n ∧ r = some (.int 1)) ∨ (¬ hol h a f n ∧ r = some (.int 0)))) := by
    intro lv hn
    refine E_ci 0 rfl ci0 ?_
    exact E_rtz rfl (.inl rfl) ⟨rfl, .inr ⟨hn, rfl⟩⟩
  refine E_il rfl L1 ?_
  by_cases b1 : f < 0
  · have q := Int32.lt_iff_toInt_lt.mp b1
    refine E_ifT rfl (decide_eq_true b1) ?_
    exact no (fun z => by have := z.1; omega)
  · have q1 : ¬ f.toInt < (0 : Int32).toInt := fun z => b1 (Int32.lt_iff_toInt_lt.mpr z)
    refine E_ifF rfl (decide_eq_false b1) ?_
    refine E_il rfl L2 ?_
    by_cases b2 : n < 0
    · have q := Int32.lt_iff_toInt_lt.mp b2
      refine E_ifT rfl (decide_eq_true b2) ?_
      exact no (fun z => by have := z.2.1; omega)
    · have q2 : ¬ n.toInt < (0 : Int32).toInt := fun z => b2 (Int32.lt_iff_toInt_lt.mpr z)
      refine E_ifF rfl (decide_eq_false b2) ?_
      refine E_il rfl L1 ?_
      refine E_al rfl L0 ?_
      refine E_ogf rfl hh S1 S6 rfl ?_
      refine E_il rfl L2 ?_
      refine E_bin rfl rfl ?_
      have g := (ld_gi hh S6).2
      dsimp only at g
      have hn := ai_hi n
      have es : (gi h a 3 - n).toInt = (gi h a 3).toInt - n.toInt := by
        rw [Int32.toInt_sub]
        exact Int.bmod_eq_of_le (by first | decide | with_reducible assumption | omega) (by first | decide | with_reducible assumption | omega)
      by_cases b3 : gi h a 3 - n < f
      · have q := Int32.lt_iff_toInt_lt.mp b3
        refine E_icT rfl (decide_eq_true b3) ?_
        exact no (fun z => by have := z.2.2; omega)
      · have q3 : ¬ (gi h a 3 - n).toInt < f.toInt := fun z => b3 (Int32.lt_iff_toInt_lt.mpr z)
        refine E_icF rfl (decide_eq_false b3) ?_
        refine E_ci 1 rfl ci1 ?_
        refine E_goto rfl ?_
        exact E_rtz rfl (.inr rfl) ⟨rfl, .inl ⟨⟨by omega, by omega, by omega⟩, rfl⟩⟩
/-- what paste answers -/
noncomputable def psv (h : pm_H) (a i b k n : Int32) (r : Int32) : Prop :=
  (¬ ((0 ≤ a.toInt ∧ a.toInt ≤ 3) ∧ 0 ≤ b.toInt ∧ b.toInt ≤ 3) ∧ r = -2) ∨ ∃ s t, s < 4 ∧ t < 4 ∧ a = nJ s ∧ b = nJ t ∧
    (((gi h (54 + 2 * s) 1 = 0 ∨ gi h (54 + 2 * t) 1 = 0) ∧ r = -6) ∨ (¬ (gi h (54 + 2 * s) 1 = 0 ∨ gi h (54 + 2 * t) 1 = 0) ∧
      ((¬ gi h (54 + 2 * s) 2 = gi h (54 + 2 * t) 2 ∧ r = -8) ∨ (gi h (54 + 2 * s) 2 = gi h (54 + 2 * t) 2 ∧
        ((¬ (hol h (54 + 2 * s) i n ∧ hol h (54 + 2 * t) k n) ∧ r = -7) ∨ ((hol h (54 + 2 * s) i n ∧ hol h (54 + 2 * t) k n) ∧ r = 0))))))
noncomputable def PM : List Rng := [(55, 0, 59), (57, 0, 59), (59, 0, 59), (61, 0, 59)]
theorem PM_at {h h' : pm_H} : ∀ t, t < 4 → fr_g [(55 + 2 * t, 0, 59)] h h' → fr_g PM h h'
  | 0, _, hf => fr_wk rfl hf
  | 1, _, hf => fr_wk rfl hf
  | 2, _, hf => fr_wk rfl hf
  | 3, _, hf => fr_wk rfl hf
  | s + 4, hs, _ => absurd hs (by first | decide | with_reducible assumption | omega)
noncomputable def PQ (h : pm_H) (a i b k n : Int32) (h' : pm_H) (r : Option Value) : Prop := HH h' ∧ fr_g PM h h' ∧ ∃ x : Int32, r = some (.int x) ∧ psv h a i b k n x
theorem sp_paste8 {x i y j n : Int32} (hh : HH h) : Sp (d + 2) 158 h [.ref 0, .int x, .int i, .int y, .int j, .int n] (PQ h x i y j n) := by
  refine Sp_of aiX8_paste rfl rfl rfl ?_
  have L0 : pm_get (lv_args 0 [.ref 0, .int x, .int i, .int y, .int j, .int n]) 0 = some (.ref 0) := rfl
  have L1 : pm_get (lv_args 0 [.ref 0, .int x, .int i, .int y, .int j, .int n]) 1 = some (.int x) := rfl
  have L2 : pm_get (lv_args 0 [.ref 0, .int x, .int i, .int y, .int j, .int n]) 2 = some (.int i) := rfl
  have L3 : pm_get (lv_args 0 [.ref 0, .int x, .int i, .int y, .int j, .int n]) 3 = some (.int y) := rfl
  have L4 : pm_get (lv_args 0 [.ref 0, .int x, .int i, .int y, .int j, .int n]) 4 = some (.int j) := rfl
  have L5 : pm_get (lv_args 0 [.ref 0, .int x, .int i, .int y, .int j, .int n]) 5 = some (.int n) := rfl
  generalize lv_args 0 [.ref 0, .int x, .int i, .int y, .int j, .int n] = lv at L0 L1 L2 L3 L4 L5 ⊢
  have no : ∀ {lv : List (Nat × Value)}, ¬ ((0 ≤ x.toInt ∧ x.toInt ≤ 3) ∧ 0 ≤ y.toInt ∧ y.toInt ≤ 3) → Ends (pm_at tX8_paste) (pm_Rt pm_P (d + 1)) (14, lv, [], h, 0, 0) (PQ h x i y j n) := by
    intro lv hn
    refine E_c rfl ?_
    exact E_rti rfl ⟨hh, fr_rf _ _, _, rfl, .inl ⟨hn, rfl⟩⟩
  refine E_il rfl L1 ?_
  refine E_call rfl (sp_isSlot8 (d := d)) (chkS rfl (by show 0 ≤ 8; decide)) (fun h1 r1 => ?_)
  rintro ⟨e1, rv⟩
  rw [e1]
  rcases rv with ⟨a0, a3, hr⟩ | ⟨an, hr⟩
  · rw [hr]
    refine E_ifF rfl (by decide) ?_
    refine E_il rfl L3 ?_
    refine E_call rfl (sp_isSlot8 (d := d)) (chkS rfl (by show 0 ≤ 8; decide)) (fun h2 r2 => ?_)
    rintro ⟨e2, rw2⟩
    rw [e2]
    rcases rw2 with ⟨c0, c3, hr2⟩ | ⟨cn, hr2⟩
    · rw [hr2]
      refine E_ifT rfl (by decide) ?_
      obtain ⟨s, hs, rfl⟩ : ∃ s, s < 4 ∧ x = nJ s := ⟨x.toInt.toNat, by omega, nJ_of a0⟩
      obtain ⟨t, ht, rfl⟩ : ∃ s, s < 4 ∧ y = nJ s := ⟨y.toInt.toNat, by omega, nJ_of c0⟩
      obtain ⟨S1, S2, S3, S4, S5, S6⟩ := isS_at s hs
      obtain ⟨T1, T2, T3, T4, T5, T6⟩ := isS_at t ht
      have fin : ∀ {r : Int32}, (((gi h (54 + 2 * s) 1 = 0 ∨ gi h (54 + 2 * t) 1 = 0) ∧ r = -6) ∨ (¬ (gi h (54 + 2 * s) 1 = 0 ∨ gi h (54 + 2 * t) 1 = 0) ∧
      ((¬ gi h (54 + 2 * s) 2 = gi h (54 + 2 * t) 2 ∧ r = -8) ∨ (gi h (54 + 2 * s) 2 = gi h (54 + 2 * t) 2 ∧
        ((¬ (hol h (54 + 2 * s) i n ∧ hol h (54 + 2 * t) j n) ∧ r = -7) ∨ ((hol h (54 + 2 * s) i n ∧ hol h (54 + 2 * t) j n) ∧ r = 0)))))) → psv h (nJ s) i (nJ t) j n r := fun q => .inr ⟨s, t, hs, ht, rfl, rfl, q⟩
      refine E_al rfl L0 ?_
      refine E_ogr rfl hh rfl (q := 53) rfl ?_
      refine E_il rfl L1 ?_
      refine E_aal rfl hh rfl (slot_at s hs) (by decide) ?_
      refine E_asr rfl (fun lv1 M6 kp => ?_)
      have M0 := kp 0 _ (nbz rfl) rfl L0
      have M2 := kp 2 _ (nbz rfl) rfl L2
      have M3 := kp 3 _ (nbz rfl) rfl L3
      have M4 := kp 4 _ (nbz rfl) rfl L4
      have M5 := kp 5 _ (nbz rfl) rfl L5
      refine E_al rfl M0 ?_
      refine E_ogr rfl hh rfl (q := 53) rfl ?_
      refine E_il rfl M3 ?_
      refine E_aal rfl hh rfl (slot_at t ht) (by decide) ?_
      refine E_asr rfl (fun lv2 N7 kp2 => ?_)
      have N2 := kp2 2 _ (nbz rfl) rfl M2
      have N4 := kp2 4 _ (nbz rfl) rfl M4
      have N5 := kp2 5 _ (nbz rfl) rfl M5
      have N6 := kp2 6 _ (nbz rfl) rfl M6
      refine E_al rfl N6 ?_
      refine E_ogf rfl hh S1 S4 rfl ?_
      by_cases b1 : gi h (54 + 2 * s) 1 = 0
      · refine E_ifT rfl (decide_eq_true b1) ?_
        refine E_c rfl ?_
        exact E_rti rfl ⟨hh, fr_rf _ _, _, rfl, fin (.inl ⟨.inl b1, rfl⟩)⟩
      refine E_ifF rfl (decide_eq_false b1) ?_
      refine E_al rfl N7 ?_
      refine E_ogf rfl hh T1 T4 rfl ?_
      by_cases b2 : gi h (54 + 2 * t) 1 = 0
      · refine E_ifF rfl (decide_eq_false (fun q => q b2)) ?_
        refine E_c rfl ?_
        exact E_rti rfl ⟨hh, fr_rf _ _, _, rfl, fin (.inl ⟨.inr b2, rfl⟩)⟩
      refine E_ifT rfl (decide_eq_true b2) ?_
      have b12 : ¬ (gi h (54 + 2 * s) 1 = 0 ∨ gi h (54 + 2 * t) 1 = 0) := fun q => q.elim b1 b2
      refine E_al rfl N6 ?_
      refine E_ogf rfl hh S1 S5 rfl ?_
      refine E_al rfl N7 ?_
      refine E_ogf rfl hh T1 T5 rfl ?_
      by_cases b3 : gi h (54 + 2 * s) 2 = gi h (54 + 2 * t) 2
      · refine E_icT rfl (decide_eq_true b3) ?_
        have fin7 : ∀ {lv : List (Nat × Value)}, ¬ (hol h (54 + 2 * s) i n ∧ hol h (54 + 2 * t) j n) → Ends (pm_at tX8_paste) (pm_Rt pm_P (d + 1)) (91, lv, [], h, 0, 0) (PQ h (nJ s) i (nJ t) j n) := by
          intro lv hn
          refine E_c rfl ?_
          exact E_rti rfl ⟨hh, fr_rf _ _, _, rfl, fin (.inr ⟨b12, .inr ⟨b3, .inl ⟨hn, rfl⟩⟩⟩)⟩
        refine E_al rfl N6 ?_
        refine E_il rfl N2 ?_
        refine E_il rfl N5 ?_
        refine E_call rfl (sp_holds (d := d) hh (isS_at s hs)) (chkO (a := 54 + 2 * s) hh S1 rfl rfl rfl (by show 0 ≤ 8; decide)) (fun h3 r3 => ?_)
        rintro ⟨e3, rw3⟩
        rw [e3]
        rcases rw3 with ⟨o3, hr3⟩ | ⟨o3, hr3⟩
        · rw [hr3]
          refine E_ifF rfl (by decide) ?_
          refine E_al rfl N7 ?_
          refine E_il rfl N4 ?_
          refine E_il rfl N5 ?_
          refine E_call rfl (sp_holds (d := d) hh (isS_at t ht)) (chkO (a := 54 + 2 * t) hh T1 rfl rfl rfl (by show 0 ≤ 8; decide)) (fun h4 r4 => ?_)
          rintro ⟨e4, rw4⟩
          rw [e4]
          rcases rw4 with ⟨o4, hr4⟩ | ⟨o4, hr4⟩
          · rw [hr4]
            refine E_ifT rfl (by decide) ?_
            have g6 := (ld_gi hh S6).2
            have t6 := (ld_gi hh T6).2
            dsimp only at g6 t6
            have u1 := o3.2.2
            have u2 := o4.2.2
            refine E_al rfl N6 ?_
            refine E_ogr rfl hh S1 S2 ?_
            refine E_il rfl N2 ?_
            refine E_al rfl N7 ?_
            refine E_ogr rfl hh T1 T2 ?_
            refine E_il rfl N4 ?_
            refine E_il rfl N5 ?_
            refine E_cpy rfl hh S3 T3 o3.1 o4.1 o3.2.1 (by first | decide | with_reducible assumption | omega) (by first | decide | with_reducible assumption | omega) rfl (fun h5 hh5 fr5 => ?_)
            refine E_ci 0 rfl ci0 ?_
            exact E_rti rfl ⟨hh5, PM_at t ht fr5, _, rfl, fin (.inr ⟨b12, .inr ⟨b3, .inr ⟨⟨o3, o4⟩, rfl⟩⟩⟩)⟩
          · rw [hr4]
            refine E_ifF rfl (by decide) ?_
            exact fin7 (fun q => o4 q.2)
        · rw [hr3]
          refine E_ifT rfl (by decide) ?_
          exact fin7 (fun q => o3 q.1)
      · refine E_icF rfl (decide_eq_false b3) ?_
        refine E_c rfl ?_
        exact E_rti rfl ⟨hh, fr_rf _ _, _, rfl, fin (.inr ⟨b12, .inl ⟨b3, rfl⟩⟩)⟩
    · rw [hr2]
      refine E_ifF rfl (by decide) ?_
      exact no (fun q => cn q.2)
  · rw [hr]
    refine E_ifT rfl (by decide) ?_
    exact no (fun q => an q.1)
end PS
theorem top_PQ {h : pm_H} {x i y j n : Int32} (I : IVh h) : Sp 2 158 h [.ref 0, .int x, .int i, .int y, .int j, .int n] (fun h' r => IVh h' ∧ fr_g PM h h' ∧ ∃ x : Int32, r = some (.int x)) := by
  refine Sp_mono ?_ (sp_paste8 (d := 0) I.1)
  rintro h' r ⟨q1, q2, x, q3, -⟩
  exact ⟨IVh_fr (M := PM) (by decide +kernel) q2 q1 I (RV_fr I.1 rfl q2 I.2.2), q2, x, q3⟩
end
section
/-! the law's own run (written by gen_t21.py) -/
noncomputable def RQ1 (_ : pm_H) (r : Option Value) : Prop := r = some (.int 1)
section ENDW
variable {look : Nat → Option pm_I} {call : pm_Call} {Q : pm_H → Option Value → Prop} {pc n i t : Nat} {lv : List (Nat × Value)} {st : List Value} {w : pm_H × Nat × Nat} {h : pm_H} {z : Nat × Nat}
theorem E_alr {x : Nat} (h1 : look pc = some (.inl (s_al i n))) (e : pm_get lv i = some (.retAddr x)) (k : Ends look call (n, lv, .retAddr x :: st, w) Q) : Ends look call (pc, lv, st, w) Q := E_st h1 (by simp only [s_al, e]) k
theorem E_sld {L j : Nat} {xs : Nat → Int32} (h1 : look pc = some (.inl (s_sld L xs n))) (hj : j < L) (hL : L ≤ 3072) (k : Ends look call (n, lv, .int (xs j) :: st, w) Q) : Ends look call (pc, lv, .int (nJ j) :: .retAddr 0 :: st, w) Q := by
  have h2 := nJ_toInt (n := j) (by first | decide | with_reducible assumption | omega)
  have h3 : pm_ix (nJ j) L = true := ai_ix (by first | decide | with_reducible assumption | omega) (by first | decide | with_reducible assumption | omega)
  have h4 : (nJ j).toNatClampNeg = j := by show (nJ j).toInt.toNat = j; omega
  refine E_st h1 ?_ k
  simp only [s_sld, h3, h4, cond_true]
theorem E_slen {L : Nat} (h1 : look pc = some (.inl (s_slen L n))) (hL : L ≤ 3072) (k : Ends look call (n, lv, .int (nJ L) :: st, w) Q) : Ends look call (pc, lv, .retAddr 0 :: st, w) Q := by
  have e : Int32.ofNat L = nJ L := by
    apply Int32.toInt_inj.mp
    rw [nJ_toInt (by first | decide | with_reducible assumption | omega), Int32.toInt_ofNat_of_lt (by first | decide | with_reducible assumption | omega)]
  refine E_st h1 ?_ k
  simp only [s_slen, e]
theorem E_lsh {op : Int64 → Int32 → Int64} {x : Int64} {y : Int32} (h1 : look pc = some (.inl (s_lsh op n))) (k : Ends look call (n, lv, .long (op x y) :: st, w) Q) : Ends look call (pc, lv, .int y :: .long x :: st, w) Q := E_st h1 rfl k
theorem E_pop2 {x : Value} (h1 : look pc = some (.inl (s_pop2 n))) (e : x.category = 2) (k : Ends look call (n, lv, st, w) Q) : Ends look call (pc, lv, x :: st, w) Q := E_st h1 (by simp only [s_pop2, e]; rfl) k
theorem E_tsw {lo hi : Int} {ts : List Nat} {dd : Nat} {x : Int32} (h1 : look pc = some (.inl (s_tsw lo hi ts dd))) (hz : (decide (x.toInt < lo) || decide (hi < x.toInt)) = false) (ht : ts[(x.toInt - lo).toNat]? = some t) (k : Ends look call (t, lv, st, w) Q) : Ends look call (pc, lv, .int x :: st, w) Q := E_st h1 (by simp only [s_tsw, hz, cond_false, ht]) k
theorem E_tswD {lo hi : Int} {ts : List Nat} {dd : Nat} {x : Int32} (h1 : look pc = some (.inl (s_tsw lo hi ts dd))) (hz : (decide (x.toInt < lo) || decide (hi < x.toInt)) = true) (k : Ends look call (dd, lv, st, w) Q) : Ends look call (pc, lv, .int x :: st, w) Q := E_st h1 (by simp only [s_tsw, hz, cond_true]) k
theorem chkR {a ci k : Nat} {fs : List AF} {as : List Value} (hh : HH h) (hc : hsF a = some (.inr (.inr (.inr (ci, fs))))) (h9 : Nat.blt ci 100 = true) (hl : Nat.ble k st.length = true) (e : (st.take k).reverse = .ref a :: as) (hs : pm_sz (st.drop k) ≤ 8) : pm_chk k (some ci) 0 0 st (h, z) := by
  obtain ⟨x, hx, hg⟩ := hf_at hh hc
  match x, hx, hg with
  | .inr (cq, vs), hx, hg =>
    obtain ⟨rfl, -, -⟩ := hg
    refine ⟨Nat.le_of_ble_eq_true hl, fun q hq => ?_, hs, Nat.zero_le _, Nat.zero_le _⟩
    cases hq
    exact ⟨fun _ => ⟨a, vs, as, e, hx⟩, fun h7 => absurd (Nat.le_of_ble_eq_true h9) (Nat.not_lt.mpr h7)⟩
end ENDW
theorem nJ_inc6 (a : Nat) : nJ a + 6 = nJ (a + 6) := nJ_add a 6
set_option maxRecDepth 20000 in
theorem bl_0 {L : Nat} {xs : Nat → Int32} (hL : L ≤ 3072) {h : pm_H} {i : Nat} (hi : i + 6 ≤ L) (lv : List (Nat × Value)) (I : IVR h) (L0 : pm_get lv 0 = some (.retAddr 0)) (L1 : pm_get lv 1 = some (.ref 0)) (L2 : pm_get lv 2 = some (.ref 77)) (L3 : pm_get lv 3 = some (.int (nJ i))) (K : ∀ h', IVR h' → Ends (pm_tr (lb_all L xs)) (pm_Rt pm_P 100) (2392, lv, [], h', 599897, 7298671) RQ1) : Ends (pm_tr (lb_all L xs)) (pm_Rt pm_P 100) (376, lv, [], h, 599897, 7298671) RQ1 := by
  refine E_al rfl L1 ?_
  refine E_alr rfl L0 ?_
  refine E_il rfl L3 ?_
  refine E_ci 1 rfl ci1 ?_
  refine E_bin rfl (nJ_add _ _) ?_
  refine E_sld rfl (by first | decide | with_reducible assumption | omega) hL ?_
  refine E_alr rfl L0 ?_
  refine E_il rfl L3 ?_
  refine E_ci 2 rfl ci2 ?_
  refine E_bin rfl (nJ_add _ _) ?_
  refine E_sld rfl (by first | decide | with_reducible assumption | omega) hL ?_
  refine E_alr rfl L0 ?_
  refine E_il rfl L3 ?_
  refine E_ci 3 rfl ci3 ?_
  refine E_bin rfl (nJ_add _ _) ?_
  refine E_sld rfl (by first | decide | with_reducible assumption | omega) hL ?_
  refine E_alr rfl L0 ?_
  refine E_il rfl L3 ?_
  refine E_ci 4 rfl ci4 ?_
  refine E_bin rfl (nJ_add _ _) ?_
  refine E_sld rfl (by first | decide | with_reducible assumption | omega) hL ?_
  refine E_alr rfl L0 ?_
  refine E_il rfl L3 ?_
  refine E_ci 5 rfl ci5 ?_
  refine E_bin rfl (nJ_add _ _) ?_
  refine E_sld rfl (by first | decide | with_reducible assumption | omega) hL ?_
  refine E_call rfl (c8_feed I) (chkR (a := 0) I.1.1 rfl rfl rfl rfl (by show 0 ≤ 8; decide)) (fun h1 r1 => ?_)
  rintro ⟨I1, x1, f1, J1⟩
  rw [f1]
  show Ends _ _ (405, lv, [.int x1], h1, 599897, 7298671) _
  refine E_pop rfl rfl ?_
  refine E_al rfl L2 ?_
  refine E_alr rfl L0 ?_
  refine E_il rfl L3 ?_
  refine E_ci 1 rfl ci1 ?_
  refine E_bin rfl (nJ_add _ _) ?_
  refine E_sld rfl (by first | decide | with_reducible assumption | omega) hL ?_
  refine E_alr rfl L0 ?_
  refine E_il rfl L3 ?_
  refine E_ci 2 rfl ci2 ?_
  refine E_bin rfl (nJ_add _ _) ?_
  refine E_sld rfl (by first | decide | with_reducible assumption | omega) hL ?_
  refine E_alr rfl L0 ?_
  refine E_il rfl L3 ?_
  refine E_ci 3 rfl ci3 ?_
  refine E_bin rfl (nJ_add _ _) ?_
  refine E_sld rfl (by first | decide | with_reducible assumption | omega) hL ?_
  refine E_alr rfl L0 ?_
  refine E_il rfl L3 ?_
  refine E_ci 4 rfl ci4 ?_
  refine E_bin rfl (nJ_add _ _) ?_
  refine E_sld rfl (by first | decide | with_reducible assumption | omega) hL ?_
  refine E_alr rfl L0 ?_
  refine E_il rfl L3 ?_
  refine E_ci 5 rfl ci5 ?_
  refine E_bin rfl (nJ_add _ _) ?_
  refine E_sld rfl (by first | decide | with_reducible assumption | omega) hL ?_
  refine E_call rfl (c9_feed I1 J1) (chkR (a := 77) I1.1 rfl rfl rfl rfl (by show 0 ≤ 8; decide)) (fun h2 r2 => ?_)
  rintro ⟨I2, f2⟩
  rw [f2]
  show Ends _ _ (435, lv, [.int x1], h2, 599897, 7298671) _
  refine E_pop rfl rfl ?_
  refine E_goto rfl ?_
  exact K _ I2
set_option maxRecDepth 20000 in
theorem bl_1 {L : Nat} {xs : Nat → Int32} (hL : L ≤ 3072) {h : pm_H} {i : Nat} (hi : i + 6 ≤ L) (lv : List (Nat × Value)) (I : IVR h) (L0 : pm_get lv 0 = some (.retAddr 0)) (L1 : pm_get lv 1 = some (.ref 0)) (L2 : pm_get lv 2 = some (.ref 77)) (L3 : pm_get lv 3 = some (.int (nJ i))) (K : ∀ h', IVR h' → Ends (pm_tr (lb_all L xs)) (pm_Rt pm_P 100) (2392, lv, [], h', 599897, 7298671) RQ1) : Ends (pm_tr (lb_all L xs)) (pm_Rt pm_P 100) (439, lv, [], h, 599897, 7298671) RQ1 := by
  refine E_al rfl L1 ?_
  refine E_alr rfl L0 ?_
  refine E_il rfl L3 ?_
  refine E_ci 1 rfl ci1 ?_
  refine E_bin rfl (nJ_add _ _) ?_
  refine E_sld rfl (by first | decide | with_reducible assumption | omega) hL ?_
  refine E_call rfl (c8_end I) (chkR (a := 0) I.1.1 rfl rfl rfl rfl (by show 0 ≤ 8; decide)) (fun h1 r1 => ?_)
  rintro ⟨I1, x1, f1, J1⟩
  rw [f1]
  show Ends _ _ (448, lv, [.int x1], h1, 599897, 7298671) _
  refine E_pop rfl rfl ?_
  refine E_al rfl L2 ?_
  refine E_alr rfl L0 ?_
  refine E_il rfl L3 ?_
  refine E_ci 1 rfl ci1 ?_
  refine E_bin rfl (nJ_add _ _) ?_
  refine E_sld rfl (by first | decide | with_reducible assumption | omega) hL ?_
  refine E_call rfl (c9_end I1 J1) (chkR (a := 77) I1.1 rfl rfl rfl rfl (by show 0 ≤ 8; decide)) (fun h2 r2 => ?_)
  rintro ⟨I2, f2⟩
  rw [f2]
  show Ends _ _ (458, lv, [.int x1], h2, 599897, 7298671) _
  refine E_pop rfl rfl ?_
  refine E_goto rfl ?_
  exact K _ I2
set_option maxRecDepth 20000 in
theorem bl_2 {L : Nat} {xs : Nat → Int32} (hL : L ≤ 3072) {h : pm_H} {i : Nat} (hi : i + 6 ≤ L) (lv : List (Nat × Value)) (I : IVR h) (L0 : pm_get lv 0 = some (.retAddr 0)) (L1 : pm_get lv 1 = some (.ref 0)) (L2 : pm_get lv 2 = some (.ref 77)) (L3 : pm_get lv 3 = some (.int (nJ i))) (K : ∀ h', IVR h' → Ends (pm_tr (lb_all L xs)) (pm_Rt pm_P 100) (2392, lv, [], h', 599897, 7298671) RQ1) : Ends (pm_tr (lb_all L xs)) (pm_Rt pm_P 100) (462, lv, [], h, 599897, 7298671) RQ1 := by
  refine E_al rfl L1 ?_
  refine E_call rfl (c8_street I) (chkR (a := 0) I.1.1 rfl rfl rfl rfl (by show 0 ≤ 8; decide)) (fun h1 r1 => ?_)
  rintro ⟨I1, x1, f1, J1⟩
  rw [f1]
  show Ends _ _ (466, lv, [.int x1], h1, 599897, 7298671) _
  refine E_pop rfl rfl ?_
  refine E_al rfl L2 ?_
  refine E_call rfl (c9_street I1 J1) (chkR (a := 77) I1.1 rfl rfl rfl rfl (by show 0 ≤ 8; decide)) (fun h2 r2 => ?_)
  rintro ⟨I2, x2, f2⟩
  rw [f2]
  show Ends _ _ (471, lv, [.int x2], h2, 599897, 7298671) _
  refine E_pop rfl rfl ?_
  refine E_goto rfl ?_
  exact K _ I2
set_option maxRecDepth 20000 in
theorem bl_3 {L : Nat} {xs : Nat → Int32} (hL : L ≤ 3072) {h : pm_H} {i : Nat} (hi : i + 6 ≤ L) (lv : List (Nat × Value)) (I : IVR h) (L0 : pm_get lv 0 = some (.retAddr 0)) (L1 : pm_get lv 1 = some (.ref 0)) (L2 : pm_get lv 2 = some (.ref 77)) (L3 : pm_get lv 3 = some (.int (nJ i))) (K : ∀ h', IVR h' → Ends (pm_tr (lb_all L xs)) (pm_Rt pm_P 100) (2392, lv, [], h', 599897, 7298671) RQ1) : Ends (pm_tr (lb_all L xs)) (pm_Rt pm_P 100) (475, lv, [], h, 599897, 7298671) RQ1 := by
  refine E_al rfl L1 ?_
  refine E_alr rfl L0 ?_
  refine E_il rfl L3 ?_
  refine E_ci 1 rfl ci1 ?_
  refine E_bin rfl (nJ_add _ _) ?_
  refine E_sld rfl (by first | decide | with_reducible assumption | omega) hL ?_
  refine E_call rfl (tR_int (by decide +kernel) (by decide +kernel) I.2 (top_int (as := [.ref 0, .int (xs ((i + 1)))]) q107 (by decide +kernel) (by decide +kernel) I.1 ⟨rfl, aI _, trivial⟩)) (chkR (a := 0) I.1.1 rfl rfl rfl rfl (by show 0 ≤ 8; decide)) (fun h1 r1 => ?_)
  rintro ⟨I1, x1, f1⟩
  rw [f1]
  show Ends _ _ (484, lv, [.int x1], h1, 599897, 7298671) _
  refine E_pop rfl rfl ?_
  refine E_al rfl L2 ?_
  refine E_alr rfl L0 ?_
  refine E_il rfl L3 ?_
  refine E_ci 1 rfl ci1 ?_
  refine E_bin rfl (nJ_add _ _) ?_
  refine E_sld rfl (by first | decide | with_reducible assumption | omega) hL ?_
  refine E_call rfl (tR_int (by decide +kernel) (by decide +kernel) I1.2 (top_int (as := [.ref 77, .int (xs ((i + 1)))]) q108 (by decide +kernel) (by decide +kernel) I1.1 ⟨rfl, aI _, trivial⟩)) (chkR (a := 77) I1.1.1 rfl rfl rfl rfl (by show 0 ≤ 8; decide)) (fun h2 r2 => ?_)
  rintro ⟨I2, x2, f2⟩
  rw [f2]
  show Ends _ _ (494, lv, [.int x2], h2, 599897, 7298671) _
  refine E_pop rfl rfl ?_
  refine E_goto rfl ?_
  exact K _ I2
set_option maxRecDepth 20000 in
theorem bl_4 {L : Nat} {xs : Nat → Int32} (hL : L ≤ 3072) {h : pm_H} {i : Nat} (hi : i + 6 ≤ L) (lv : List (Nat × Value)) (I : IVR h) (L0 : pm_get lv 0 = some (.retAddr 0)) (L1 : pm_get lv 1 = some (.ref 0)) (L2 : pm_get lv 2 = some (.ref 77)) (L3 : pm_get lv 3 = some (.int (nJ i))) (K : ∀ h', IVR h' → Ends (pm_tr (lb_all L xs)) (pm_Rt pm_P 100) (2392, lv, [], h', 599897, 7298671) RQ1) : Ends (pm_tr (lb_all L xs)) (pm_Rt pm_P 100) (498, lv, [], h, 599897, 7298671) RQ1 := by
  refine E_al rfl L1 ?_
  refine E_alr rfl L0 ?_
  refine E_il rfl L3 ?_
  refine E_ci 1 rfl ci1 ?_
  refine E_bin rfl (nJ_add _ _) ?_
  refine E_sld rfl (by first | decide | with_reducible assumption | omega) hL ?_
  refine E_alr rfl L0 ?_
  refine E_il rfl L3 ?_
  refine E_ci 2 rfl ci2 ?_
  refine E_bin rfl (nJ_add _ _) ?_
  refine E_sld rfl (by first | decide | with_reducible assumption | omega) hL ?_
  refine E_call rfl (tR_int (by decide +kernel) (by decide +kernel) I.2 (top_int (as := [.ref 0, .int (xs ((i + 1))), .int (xs ((i + 2)))]) q111 (by decide +kernel) (by decide +kernel) I.1 ⟨rfl, aI _, aI _, trivial⟩)) (chkR (a := 0) I.1.1 rfl rfl rfl rfl (by show 0 ≤ 8; decide)) (fun h1 r1 => ?_)
  rintro ⟨I1, x1, f1⟩
  rw [f1]
  show Ends _ _ (512, lv, [.int x1], h1, 599897, 7298671) _
  refine E_pop rfl rfl ?_
  refine E_al rfl L2 ?_
  refine E_alr rfl L0 ?_
  refine E_il rfl L3 ?_
  refine E_ci 1 rfl ci1 ?_
  refine E_bin rfl (nJ_add _ _) ?_
  refine E_sld rfl (by first | decide | with_reducible assumption | omega) hL ?_
  refine E_alr rfl L0 ?_
  refine E_il rfl L3 ?_
  refine E_ci 2 rfl ci2 ?_
  refine E_bin rfl (nJ_add _ _) ?_
  refine E_sld rfl (by first | decide | with_reducible assumption | omega) hL ?_
  refine E_call rfl (tR_int (by decide +kernel) (by decide +kernel) I1.2 (top_int (as := [.ref 77, .int (xs ((i + 1))), .int (xs ((i + 2)))]) q119 (by decide +kernel) (by decide +kernel) I1.1 ⟨rfl, aI _, aI _, trivial⟩)) (chkR (a := 77) I1.1.1 rfl rfl rfl rfl (by show 0 ≤ 8; decide)) (fun h2 r2 => ?_)
  rintro ⟨I2, x2, f2⟩
  rw [f2]
  show Ends _ _ (527, lv, [.int x2], h2, 599897, 7298671) _
  refine E_pop rfl rfl ?_
  refine E_goto rfl ?_
  exact K _ I2
set_option maxRecDepth 20000 in
theorem bl_5 {L : Nat} {xs : Nat → Int32} (hL : L ≤ 3072) {h : pm_H} {i : Nat} (hi : i + 6 ≤ L) (lv : List (Nat × Value)) (I : IVR h) (L0 : pm_get lv 0 = some (.retAddr 0)) (L1 : pm_get lv 1 = some (.ref 0)) (L2 : pm_get lv 2 = some (.ref 77)) (L3 : pm_get lv 3 = some (.int (nJ i))) (K : ∀ h', IVR h' → Ends (pm_tr (lb_all L xs)) (pm_Rt pm_P 100) (2392, lv, [], h', 599897, 7298671) RQ1) : Ends (pm_tr (lb_all L xs)) (pm_Rt pm_P 100) (531, lv, [], h, 599897, 7298671) RQ1 := by
  refine E_al rfl L1 ?_
  refine E_alr rfl L0 ?_
  refine E_il rfl L3 ?_
  refine E_ci 1 rfl ci1 ?_
  refine E_bin rfl (nJ_add _ _) ?_
  refine E_sld rfl (by first | decide | with_reducible assumption | omega) hL ?_
  refine E_call rfl (tR_int (by decide +kernel) (by decide +kernel) I.2 (top_int (as := [.ref 0, .int (xs ((i + 1)))]) q138 (by decide +kernel) (by decide +kernel) I.1 ⟨rfl, aI _, trivial⟩)) (chkR (a := 0) I.1.1 rfl rfl rfl rfl (by show 0 ≤ 8; decide)) (fun h1 r1 => ?_)
  rintro ⟨I1, x1, f1⟩
  rw [f1]
  show Ends _ _ (540, lv, [.int x1], h1, 599897, 7298671) _
  refine E_pop rfl rfl ?_
  refine E_al rfl L2 ?_
  refine E_alr rfl L0 ?_
  refine E_il rfl L3 ?_
  refine E_ci 1 rfl ci1 ?_
  refine E_bin rfl (nJ_add _ _) ?_
  refine E_sld rfl (by first | decide | with_reducible assumption | omega) hL ?_
  refine E_call rfl (tR_int (by decide +kernel) (by decide +kernel) I1.2 (top_int (as := [.ref 77, .int (xs ((i + 1)))]) q151 (by decide +kernel) (by decide +kernel) I1.1 ⟨rfl, aI _, trivial⟩)) (chkR (a := 77) I1.1.1 rfl rfl rfl rfl (by show 0 ≤ 8; decide)) (fun h2 r2 => ?_)
  rintro ⟨I2, x2, f2⟩
  rw [f2]
  show Ends _ _ (550, lv, [.int x2], h2, 599897, 7298671) _
  refine E_pop rfl rfl ?_
  refine E_goto rfl ?_
  exact K _ I2
set_option maxRecDepth 20000 in
theorem bl_6 {L : Nat} {xs : Nat → Int32} (hL : L ≤ 3072) {h : pm_H} {i : Nat} (hi : i + 6 ≤ L) (lv : List (Nat × Value)) (I : IVR h) (L0 : pm_get lv 0 = some (.retAddr 0)) (L1 : pm_get lv 1 = some (.ref 0)) (L2 : pm_get lv 2 = some (.ref 77)) (L3 : pm_get lv 3 = some (.int (nJ i))) (K : ∀ h', IVR h' → Ends (pm_tr (lb_all L xs)) (pm_Rt pm_P 100) (2392, lv, [], h', 599897, 7298671) RQ1) : Ends (pm_tr (lb_all L xs)) (pm_Rt pm_P 100) (554, lv, [], h, 599897, 7298671) RQ1 := by
  refine E_al rfl L1 ?_
  refine E_alr rfl L0 ?_
  refine E_il rfl L3 ?_
  refine E_ci 1 rfl ci1 ?_
  refine E_bin rfl (nJ_add _ _) ?_
  refine E_sld rfl (by first | decide | with_reducible assumption | omega) hL ?_
  refine E_call rfl (tR_int (by decide +kernel) (by decide +kernel) I.2 (top_int (as := [.ref 0, .int (xs ((i + 1)))]) q154 (by decide +kernel) (by decide +kernel) I.1 ⟨rfl, aI _, trivial⟩)) (chkR (a := 0) I.1.1 rfl rfl rfl rfl (by show 0 ≤ 8; decide)) (fun h1 r1 => ?_)
  rintro ⟨I1, x1, f1⟩
  rw [f1]
  show Ends _ _ (563, lv, [.int x1], h1, 599897, 7298671) _
  refine E_pop rfl rfl ?_
  refine E_al rfl L2 ?_
  refine E_alr rfl L0 ?_
  refine E_il rfl L3 ?_
  refine E_ci 1 rfl ci1 ?_
  refine E_bin rfl (nJ_add _ _) ?_
  refine E_sld rfl (by first | decide | with_reducible assumption | omega) hL ?_
  refine E_call rfl (tR_int (by decide +kernel) (by decide +kernel) I1.2 (top_int (as := [.ref 77, .int (xs ((i + 1)))]) q157 (by decide +kernel) (by decide +kernel) I1.1 ⟨rfl, aI _, trivial⟩)) (chkR (a := 77) I1.1.1 rfl rfl rfl rfl (by show 0 ≤ 8; decide)) (fun h2 r2 => ?_)
  rintro ⟨I2, x2, f2⟩
  rw [f2]
  show Ends _ _ (573, lv, [.int x2], h2, 599897, 7298671) _
  refine E_pop rfl rfl ?_
  refine E_goto rfl ?_
  exact K _ I2
set_option maxRecDepth 20000 in
theorem bl_7 {L : Nat} {xs : Nat → Int32} (hL : L ≤ 3072) {h : pm_H} {i : Nat} (hi : i + 6 ≤ L) (lv : List (Nat × Value)) (I : IVR h) (L0 : pm_get lv 0 = some (.retAddr 0)) (L1 : pm_get lv 1 = some (.ref 0)) (L2 : pm_get lv 2 = some (.ref 77)) (L3 : pm_get lv 3 = some (.int (nJ i))) (K : ∀ h', IVR h' → Ends (pm_tr (lb_all L xs)) (pm_Rt pm_P 100) (2392, lv, [], h', 599897, 7298671) RQ1) : Ends (pm_tr (lb_all L xs)) (pm_Rt pm_P 100) (577, lv, [], h, 599897, 7298671) RQ1 := by
  refine E_al rfl L1 ?_
  refine E_call rfl (tR_int (by decide +kernel) (by decide +kernel) I.2 (top_int (as := [.ref 0]) q159 (by decide +kernel) (by decide +kernel) I.1 ⟨rfl, trivial⟩)) (chkR (a := 0) I.1.1 rfl rfl rfl rfl (by show 0 ≤ 8; decide)) (fun h1 r1 => ?_)
  rintro ⟨I1, x1, f1⟩
  rw [f1]
  show Ends _ _ (581, lv, [.int x1], h1, 599897, 7298671) _
  refine E_pop rfl rfl ?_
  refine E_al rfl L2 ?_
  refine E_call rfl (tR_int (by decide +kernel) (by decide +kernel) I1.2 (top_int (as := [.ref 77]) q161 (by decide +kernel) (by decide +kernel) I1.1 ⟨rfl, trivial⟩)) (chkR (a := 77) I1.1.1 rfl rfl rfl rfl (by show 0 ≤ 8; decide)) (fun h2 r2 => ?_)
  rintro ⟨I2, x2, f2⟩
  rw [f2]
  show Ends _ _ (586, lv, [.int x2], h2, 599897, 7298671) _
  refine E_pop rfl rfl ?_
  refine E_goto rfl ?_
  exact K _ I2
set_option maxRecDepth 20000 in
theorem bl_8 {L : Nat} {xs : Nat → Int32} (hL : L ≤ 3072) {h : pm_H} {i : Nat} (hi : i + 6 ≤ L) (lv : List (Nat × Value)) (I : IVR h) (L0 : pm_get lv 0 = some (.retAddr 0)) (L1 : pm_get lv 1 = some (.ref 0)) (L2 : pm_get lv 2 = some (.ref 77)) (L3 : pm_get lv 3 = some (.int (nJ i))) (K : ∀ h', IVR h' → Ends (pm_tr (lb_all L xs)) (pm_Rt pm_P 100) (2392, lv, [], h', 599897, 7298671) RQ1) : Ends (pm_tr (lb_all L xs)) (pm_Rt pm_P 100) (590, lv, [], h, 599897, 7298671) RQ1 := by
  refine E_al rfl L1 ?_
  refine E_call rfl (tR_int (by decide +kernel) (by decide +kernel) I.2 (top_int (as := [.ref 0]) q162 (by decide +kernel) (by decide +kernel) I.1 ⟨rfl, trivial⟩)) (chkR (a := 0) I.1.1 rfl rfl rfl rfl (by show 0 ≤ 8; decide)) (fun h1 r1 => ?_)
  rintro ⟨I1, x1, f1⟩
  rw [f1]
  show Ends _ _ (594, lv, [.int x1], h1, 599897, 7298671) _
  refine E_pop rfl rfl ?_
  refine E_al rfl L2 ?_
  refine E_call rfl (tR_int (by decide +kernel) (by decide +kernel) I1.2 (top_int (as := [.ref 77]) q163 (by decide +kernel) (by decide +kernel) I1.1 ⟨rfl, trivial⟩)) (chkR (a := 77) I1.1.1 rfl rfl rfl rfl (by show 0 ≤ 8; decide)) (fun h2 r2 => ?_)
  rintro ⟨I2, x2, f2⟩
  rw [f2]
  show Ends _ _ (599, lv, [.int x2], h2, 599897, 7298671) _
  refine E_pop rfl rfl ?_
  refine E_goto rfl ?_
  exact K _ I2
set_option maxRecDepth 20000 in
theorem bl_9 {L : Nat} {xs : Nat → Int32} (hL : L ≤ 3072) {h : pm_H} {i : Nat} (hi : i + 6 ≤ L) (lv : List (Nat × Value)) (I : IVR h) (L0 : pm_get lv 0 = some (.retAddr 0)) (L1 : pm_get lv 1 = some (.ref 0)) (L2 : pm_get lv 2 = some (.ref 77)) (L3 : pm_get lv 3 = some (.int (nJ i))) (K : ∀ h', IVR h' → Ends (pm_tr (lb_all L xs)) (pm_Rt pm_P 100) (2392, lv, [], h', 599897, 7298671) RQ1) : Ends (pm_tr (lb_all L xs)) (pm_Rt pm_P 100) (603, lv, [], h, 599897, 7298671) RQ1 := by
  refine E_al rfl L1 ?_
  refine E_alr rfl L0 ?_
  refine E_il rfl L3 ?_
  refine E_ci 1 rfl ci1 ?_
  refine E_bin rfl (nJ_add _ _) ?_
  refine E_sld rfl (by first | decide | with_reducible assumption | omega) hL ?_
  refine E_call rfl (tR_int (by decide +kernel) (by decide +kernel) I.2 (top_int (as := [.ref 0, .int (xs ((i + 1)))]) q165 (by decide +kernel) (by decide +kernel) I.1 ⟨rfl, aI _, trivial⟩)) (chkR (a := 0) I.1.1 rfl rfl rfl rfl (by show 0 ≤ 8; decide)) (fun h1 r1 => ?_)
  rintro ⟨I1, x1, f1⟩
  rw [f1]
  show Ends _ _ (612, lv, [.int x1], h1, 599897, 7298671) _
  refine E_pop rfl rfl ?_
  refine E_al rfl L2 ?_
  refine E_alr rfl L0 ?_
  refine E_il rfl L3 ?_
  refine E_ci 1 rfl ci1 ?_
  refine E_bin rfl (nJ_add _ _) ?_
  refine E_sld rfl (by first | decide | with_reducible assumption | omega) hL ?_
  refine E_call rfl (tR_int (by decide +kernel) (by decide +kernel) I1.2 (top_int (as := [.ref 77, .int (xs ((i + 1)))]) q168 (by decide +kernel) (by decide +kernel) I1.1 ⟨rfl, aI _, trivial⟩)) (chkR (a := 77) I1.1.1 rfl rfl rfl rfl (by show 0 ≤ 8; decide)) (fun h2 r2 => ?_)
  rintro ⟨I2, x2, f2⟩
  rw [f2]
  show Ends _ _ (622, lv, [.int x2], h2, 599897, 7298671) _
  refine E_pop rfl rfl ?_
  refine E_goto rfl ?_
  exact K _ I2
set_option maxRecDepth 20000 in
theorem bl_10 {L : Nat} {xs : Nat → Int32} (hL : L ≤ 3072) {h : pm_H} {i : Nat} (hi : i + 6 ≤ L) (lv : List (Nat × Value)) (I : IVR h) (L0 : pm_get lv 0 = some (.retAddr 0)) (L1 : pm_get lv 1 = some (.ref 0)) (L2 : pm_get lv 2 = some (.ref 77)) (L3 : pm_get lv 3 = some (.int (nJ i))) (K : ∀ h', IVR h' → Ends (pm_tr (lb_all L xs)) (pm_Rt pm_P 100) (2392, lv, [], h', 599897, 7298671) RQ1) : Ends (pm_tr (lb_all L xs)) (pm_Rt pm_P 100) (626, lv, [], h, 599897, 7298671) RQ1 := by
  refine E_al rfl L1 ?_
  refine E_call rfl (tR_int (by decide +kernel) (by decide +kernel) I.2 (top_int (as := [.ref 0]) q169 (by decide +kernel) (by decide +kernel) I.1 ⟨rfl, trivial⟩)) (chkR (a := 0) I.1.1 rfl rfl rfl rfl (by show 0 ≤ 8; decide)) (fun h1 r1 => ?_)
  rintro ⟨I1, x1, f1⟩
  rw [f1]
  show Ends _ _ (630, lv, [.int x1], h1, 599897, 7298671) _
  refine E_pop rfl rfl ?_
  refine E_al rfl L2 ?_
  refine E_call rfl (tR_int (by decide +kernel) (by decide +kernel) I1.2 (top_int (as := [.ref 77]) q170 (by decide +kernel) (by decide +kernel) I1.1 ⟨rfl, trivial⟩)) (chkR (a := 77) I1.1.1 rfl rfl rfl rfl (by show 0 ≤ 8; decide)) (fun h2 r2 => ?_)
  rintro ⟨I2, x2, f2⟩
  rw [f2]
  show Ends _ _ (635, lv, [.int x2], h2, 599897, 7298671) _
  refine E_pop rfl rfl ?_
  refine E_goto rfl ?_
  exact K _ I2
set_option maxRecDepth 20000 in
theorem bl_11 {L : Nat} {xs : Nat → Int32} (hL : L ≤ 3072) {h : pm_H} {i : Nat} (hi : i + 6 ≤ L) (lv : List (Nat × Value)) (I : IVR h) (L0 : pm_get lv 0 = some (.retAddr 0)) (L1 : pm_get lv 1 = some (.ref 0)) (L2 : pm_get lv 2 = some (.ref 77)) (L3 : pm_get lv 3 = some (.int (nJ i))) (K : ∀ h', IVR h' → Ends (pm_tr (lb_all L xs)) (pm_Rt pm_P 100) (2392, lv, [], h', 599897, 7298671) RQ1) : Ends (pm_tr (lb_all L xs)) (pm_Rt pm_P 100) (639, lv, [], h, 599897, 7298671) RQ1 := by
  refine E_al rfl L1 ?_
  refine E_call rfl (tR_int (by decide +kernel) (by decide +kernel) I.2 (top_int (as := [.ref 0]) q171 (by decide +kernel) (by decide +kernel) I.1 ⟨rfl, trivial⟩)) (chkR (a := 0) I.1.1 rfl rfl rfl rfl (by show 0 ≤ 8; decide)) (fun h1 r1 => ?_)
  rintro ⟨I1, x1, f1⟩
  rw [f1]
  show Ends _ _ (643, lv, [.int x1], h1, 599897, 7298671) _
  refine E_pop rfl rfl ?_
  refine E_al rfl L2 ?_
  refine E_call rfl (tR_int (by decide +kernel) (by decide +kernel) I1.2 (top_int (as := [.ref 77]) q173 (by decide +kernel) (by decide +kernel) I1.1 ⟨rfl, trivial⟩)) (chkR (a := 77) I1.1.1 rfl rfl rfl rfl (by show 0 ≤ 8; decide)) (fun h2 r2 => ?_)
  rintro ⟨I2, x2, f2⟩
  rw [f2]
  show Ends _ _ (648, lv, [.int x2], h2, 599897, 7298671) _
  refine E_pop rfl rfl ?_
  refine E_goto rfl ?_
  exact K _ I2
set_option maxRecDepth 20000 in
theorem bl_12 {L : Nat} {xs : Nat → Int32} (hL : L ≤ 3072) {h : pm_H} {i : Nat} (hi : i + 6 ≤ L) (lv : List (Nat × Value)) (I : IVR h) (L0 : pm_get lv 0 = some (.retAddr 0)) (L1 : pm_get lv 1 = some (.ref 0)) (L2 : pm_get lv 2 = some (.ref 77)) (L3 : pm_get lv 3 = some (.int (nJ i))) (K : ∀ h', IVR h' → Ends (pm_tr (lb_all L xs)) (pm_Rt pm_P 100) (2392, lv, [], h', 599897, 7298671) RQ1) : Ends (pm_tr (lb_all L xs)) (pm_Rt pm_P 100) (652, lv, [], h, 599897, 7298671) RQ1 := by
  refine E_al rfl L1 ?_
  refine E_call rfl (tR_int (by decide +kernel) (by decide +kernel) I.2 (top_int (as := [.ref 0]) q174 (by decide +kernel) (by decide +kernel) I.1 ⟨rfl, trivial⟩)) (chkR (a := 0) I.1.1 rfl rfl rfl rfl (by show 0 ≤ 8; decide)) (fun h1 r1 => ?_)
  rintro ⟨I1, x1, f1⟩
  rw [f1]
  show Ends _ _ (656, lv, [.int x1], h1, 599897, 7298671) _
  refine E_pop rfl rfl ?_
  refine E_al rfl L2 ?_
  refine E_call rfl (tR_int (by decide +kernel) (by decide +kernel) I1.2 (top_int (as := [.ref 77]) q175 (by decide +kernel) (by decide +kernel) I1.1 ⟨rfl, trivial⟩)) (chkR (a := 77) I1.1.1 rfl rfl rfl rfl (by show 0 ≤ 8; decide)) (fun h2 r2 => ?_)
  rintro ⟨I2, x2, f2⟩
  rw [f2]
  show Ends _ _ (661, lv, [.int x2], h2, 599897, 7298671) _
  refine E_pop rfl rfl ?_
  refine E_goto rfl ?_
  exact K _ I2
set_option maxRecDepth 20000 in
theorem bl_13 {L : Nat} {xs : Nat → Int32} (hL : L ≤ 3072) {h : pm_H} {i : Nat} (hi : i + 6 ≤ L) (lv : List (Nat × Value)) (I : IVR h) (L0 : pm_get lv 0 = some (.retAddr 0)) (L1 : pm_get lv 1 = some (.ref 0)) (L2 : pm_get lv 2 = some (.ref 77)) (L3 : pm_get lv 3 = some (.int (nJ i))) (K : ∀ h', IVR h' → Ends (pm_tr (lb_all L xs)) (pm_Rt pm_P 100) (2392, lv, [], h', 599897, 7298671) RQ1) : Ends (pm_tr (lb_all L xs)) (pm_Rt pm_P 100) (665, lv, [], h, 599897, 7298671) RQ1 := by
  refine E_al rfl L1 ?_
  refine E_call rfl (tR_int (by decide +kernel) (by decide +kernel) I.2 (top_int (as := [.ref 0]) q177 (by decide +kernel) (by decide +kernel) I.1 ⟨rfl, trivial⟩)) (chkR (a := 0) I.1.1 rfl rfl rfl rfl (by show 0 ≤ 8; decide)) (fun h1 r1 => ?_)
  rintro ⟨I1, x1, f1⟩
  rw [f1]
  show Ends _ _ (669, lv, [.int x1], h1, 599897, 7298671) _
  refine E_pop rfl rfl ?_
  refine E_al rfl L2 ?_
  refine E_call rfl (tR_int (by decide +kernel) (by decide +kernel) I1.2 (top_int (as := [.ref 77]) q178 (by decide +kernel) (by decide +kernel) I1.1 ⟨rfl, trivial⟩)) (chkR (a := 77) I1.1.1 rfl rfl rfl rfl (by show 0 ≤ 8; decide)) (fun h2 r2 => ?_)
  rintro ⟨I2, x2, f2⟩
  rw [f2]
  show Ends _ _ (674, lv, [.int x2], h2, 599897, 7298671) _
  refine E_pop rfl rfl ?_
  refine E_goto rfl ?_
  exact K _ I2
set_option maxRecDepth 20000 in
theorem bl_14 {L : Nat} {xs : Nat → Int32} (hL : L ≤ 3072) {h : pm_H} {i : Nat} (hi : i + 6 ≤ L) (lv : List (Nat × Value)) (I : IVR h) (L0 : pm_get lv 0 = some (.retAddr 0)) (L1 : pm_get lv 1 = some (.ref 0)) (L2 : pm_get lv 2 = some (.ref 77)) (L3 : pm_get lv 3 = some (.int (nJ i))) (K : ∀ h', IVR h' → Ends (pm_tr (lb_all L xs)) (pm_Rt pm_P 100) (2392, lv, [], h', 599897, 7298671) RQ1) : Ends (pm_tr (lb_all L xs)) (pm_Rt pm_P 100) (678, lv, [], h, 599897, 7298671) RQ1 := by
  refine E_al rfl L1 ?_
  refine E_alr rfl L0 ?_
  refine E_il rfl L3 ?_
  refine E_ci 1 rfl ci1 ?_
  refine E_bin rfl (nJ_add _ _) ?_
  refine E_sld rfl (by first | decide | with_reducible assumption | omega) hL ?_
  refine E_call rfl (tR_int (by decide +kernel) (by decide +kernel) I.2 (top_int (as := [.ref 0, .int (xs ((i + 1)))]) q180 (by decide +kernel) (by decide +kernel) I.1 ⟨rfl, aI _, trivial⟩)) (chkR (a := 0) I.1.1 rfl rfl rfl rfl (by show 0 ≤ 8; decide)) (fun h1 r1 => ?_)
  rintro ⟨I1, x1, f1⟩
  rw [f1]
  show Ends _ _ (687, lv, [.int x1], h1, 599897, 7298671) _
  refine E_pop rfl rfl ?_
  refine E_al rfl L2 ?_
  refine E_alr rfl L0 ?_
  refine E_il rfl L3 ?_
  refine E_ci 1 rfl ci1 ?_
  refine E_bin rfl (nJ_add _ _) ?_
  refine E_sld rfl (by first | decide | with_reducible assumption | omega) hL ?_
  refine E_call rfl (tR_int (by decide +kernel) (by decide +kernel) I1.2 (top_int (as := [.ref 77, .int (xs ((i + 1)))]) q245 (by decide +kernel) (by decide +kernel) I1.1 ⟨rfl, aI _, trivial⟩)) (chkR (a := 77) I1.1.1 rfl rfl rfl rfl (by show 0 ≤ 8; decide)) (fun h2 r2 => ?_)
  rintro ⟨I2, x2, f2⟩
  rw [f2]
  show Ends _ _ (697, lv, [.int x2], h2, 599897, 7298671) _
  refine E_pop rfl rfl ?_
  refine E_goto rfl ?_
  exact K _ I2
set_option maxRecDepth 20000 in
theorem bl_15 {L : Nat} {xs : Nat → Int32} (hL : L ≤ 3072) {h : pm_H} {i : Nat} (hi : i + 6 ≤ L) (lv : List (Nat × Value)) (I : IVR h) (L0 : pm_get lv 0 = some (.retAddr 0)) (L1 : pm_get lv 1 = some (.ref 0)) (L2 : pm_get lv 2 = some (.ref 77)) (L3 : pm_get lv 3 = some (.int (nJ i))) (K : ∀ h', IVR h' → Ends (pm_tr (lb_all L xs)) (pm_Rt pm_P 100) (2392, lv, [], h', 599897, 7298671) RQ1) : Ends (pm_tr (lb_all L xs)) (pm_Rt pm_P 100) (701, lv, [], h, 599897, 7298671) RQ1 := by
  refine E_al rfl L1 ?_
  refine E_call rfl (tR_int (by decide +kernel) (by decide +kernel) I.2 (top_int (as := [.ref 0]) q247 (by decide +kernel) (by decide +kernel) I.1 ⟨rfl, trivial⟩)) (chkR (a := 0) I.1.1 rfl rfl rfl rfl (by show 0 ≤ 8; decide)) (fun h1 r1 => ?_)
  rintro ⟨I1, x1, f1⟩
  rw [f1]
  show Ends _ _ (705, lv, [.int x1], h1, 599897, 7298671) _
  refine E_pop rfl rfl ?_
  refine E_al rfl L2 ?_
  refine E_call rfl (tR_int (by decide +kernel) (by decide +kernel) I1.2 (top_int (as := [.ref 77]) q250 (by decide +kernel) (by decide +kernel) I1.1 ⟨rfl, trivial⟩)) (chkR (a := 77) I1.1.1 rfl rfl rfl rfl (by show 0 ≤ 8; decide)) (fun h2 r2 => ?_)
  rintro ⟨I2, x2, f2⟩
  rw [f2]
  show Ends _ _ (710, lv, [.int x2], h2, 599897, 7298671) _
  refine E_pop rfl rfl ?_
  refine E_goto rfl ?_
  exact K _ I2
set_option maxRecDepth 20000 in
theorem bl_16 {L : Nat} {xs : Nat → Int32} (hL : L ≤ 3072) {h : pm_H} {i : Nat} (hi : i + 6 ≤ L) (lv : List (Nat × Value)) (I : IVR h) (L0 : pm_get lv 0 = some (.retAddr 0)) (L1 : pm_get lv 1 = some (.ref 0)) (L2 : pm_get lv 2 = some (.ref 77)) (L3 : pm_get lv 3 = some (.int (nJ i))) (K : ∀ h', IVR h' → Ends (pm_tr (lb_all L xs)) (pm_Rt pm_P 100) (2392, lv, [], h', 599897, 7298671) RQ1) : Ends (pm_tr (lb_all L xs)) (pm_Rt pm_P 100) (714, lv, [], h, 599897, 7298671) RQ1 := by
  refine E_al rfl L1 ?_
  refine E_call rfl (tR_int (by decide +kernel) (by decide +kernel) I.2 (top_int (as := [.ref 0]) q252 (by decide +kernel) (by decide +kernel) I.1 ⟨rfl, trivial⟩)) (chkR (a := 0) I.1.1 rfl rfl rfl rfl (by show 0 ≤ 8; decide)) (fun h1 r1 => ?_)
  rintro ⟨I1, x1, f1⟩
  rw [f1]
  show Ends _ _ (718, lv, [.int x1], h1, 599897, 7298671) _
  refine E_pop rfl rfl ?_
  refine E_al rfl L2 ?_
  refine E_call rfl (tR_int (by decide +kernel) (by decide +kernel) I1.2 (top_int (as := [.ref 77]) q254 (by decide +kernel) (by decide +kernel) I1.1 ⟨rfl, trivial⟩)) (chkR (a := 77) I1.1.1 rfl rfl rfl rfl (by show 0 ≤ 8; decide)) (fun h2 r2 => ?_)
  rintro ⟨I2, x2, f2⟩
  rw [f2]
  show Ends _ _ (723, lv, [.int x2], h2, 599897, 7298671) _
  refine E_pop rfl rfl ?_
  refine E_goto rfl ?_
  exact K _ I2
set_option maxRecDepth 20000 in
theorem bl_17 {L : Nat} {xs : Nat → Int32} (hL : L ≤ 3072) {h : pm_H} {i : Nat} (hi : i + 6 ≤ L) (lv : List (Nat × Value)) (I : IVR h) (L0 : pm_get lv 0 = some (.retAddr 0)) (L1 : pm_get lv 1 = some (.ref 0)) (L2 : pm_get lv 2 = some (.ref 77)) (L3 : pm_get lv 3 = some (.int (nJ i))) (K : ∀ h', IVR h' → Ends (pm_tr (lb_all L xs)) (pm_Rt pm_P 100) (2392, lv, [], h', 599897, 7298671) RQ1) : Ends (pm_tr (lb_all L xs)) (pm_Rt pm_P 100) (727, lv, [], h, 599897, 7298671) RQ1 := by
  refine E_al rfl L1 ?_
  refine E_call rfl (tR_int (by decide +kernel) (by decide +kernel) I.2 (top_int (as := [.ref 0]) q257 (by decide +kernel) (by decide +kernel) I.1 ⟨rfl, trivial⟩)) (chkR (a := 0) I.1.1 rfl rfl rfl rfl (by show 0 ≤ 8; decide)) (fun h1 r1 => ?_)
  rintro ⟨I1, x1, f1⟩
  rw [f1]
  show Ends _ _ (731, lv, [.int x1], h1, 599897, 7298671) _
  refine E_pop rfl rfl ?_
  refine E_al rfl L2 ?_
  refine E_call rfl (tR_int (by decide +kernel) (by decide +kernel) I1.2 (top_int (as := [.ref 77]) q258 (by decide +kernel) (by decide +kernel) I1.1 ⟨rfl, trivial⟩)) (chkR (a := 77) I1.1.1 rfl rfl rfl rfl (by show 0 ≤ 8; decide)) (fun h2 r2 => ?_)
  rintro ⟨I2, x2, f2⟩
  rw [f2]
  show Ends _ _ (736, lv, [.int x2], h2, 599897, 7298671) _
  refine E_pop rfl rfl ?_
  refine E_goto rfl ?_
  exact K _ I2
set_option maxRecDepth 20000 in
theorem bl_18 {L : Nat} {xs : Nat → Int32} (hL : L ≤ 3072) {h : pm_H} {i : Nat} (hi : i + 6 ≤ L) (lv : List (Nat × Value)) (I : IVR h) (L0 : pm_get lv 0 = some (.retAddr 0)) (L1 : pm_get lv 1 = some (.ref 0)) (L2 : pm_get lv 2 = some (.ref 77)) (L3 : pm_get lv 3 = some (.int (nJ i))) (K : ∀ h', IVR h' → Ends (pm_tr (lb_all L xs)) (pm_Rt pm_P 100) (2392, lv, [], h', 599897, 7298671) RQ1) : Ends (pm_tr (lb_all L xs)) (pm_Rt pm_P 100) (740, lv, [], h, 599897, 7298671) RQ1 := by
  refine E_al rfl L1 ?_
  refine E_call rfl (tR_int (by decide +kernel) (by decide +kernel) I.2 (top_int (as := [.ref 0]) q264 (by decide +kernel) (by decide +kernel) I.1 ⟨rfl, trivial⟩)) (chkR (a := 0) I.1.1 rfl rfl rfl rfl (by show 0 ≤ 8; decide)) (fun h1 r1 => ?_)
  rintro ⟨I1, x1, f1⟩
  rw [f1]
  show Ends _ _ (744, lv, [.int x1], h1, 599897, 7298671) _
  refine E_pop rfl rfl ?_
  refine E_al rfl L2 ?_
  refine E_call rfl (tR_int (by decide +kernel) (by decide +kernel) I1.2 (top_int (as := [.ref 77]) q267 (by decide +kernel) (by decide +kernel) I1.1 ⟨rfl, trivial⟩)) (chkR (a := 77) I1.1.1 rfl rfl rfl rfl (by show 0 ≤ 8; decide)) (fun h2 r2 => ?_)
  rintro ⟨I2, x2, f2⟩
  rw [f2]
  show Ends _ _ (749, lv, [.int x2], h2, 599897, 7298671) _
  refine E_pop rfl rfl ?_
  refine E_goto rfl ?_
  exact K _ I2
set_option maxRecDepth 20000 in
theorem bl_19 {L : Nat} {xs : Nat → Int32} (hL : L ≤ 3072) {h : pm_H} {i : Nat} (hi : i + 6 ≤ L) (lv : List (Nat × Value)) (I : IVR h) (L0 : pm_get lv 0 = some (.retAddr 0)) (L1 : pm_get lv 1 = some (.ref 0)) (L2 : pm_get lv 2 = some (.ref 77)) (L3 : pm_get lv 3 = some (.int (nJ i))) (K : ∀ h', IVR h' → Ends (pm_tr (lb_all L xs)) (pm_Rt pm_P 100) (2392, lv, [], h', 599897, 7298671) RQ1) : Ends (pm_tr (lb_all L xs)) (pm_Rt pm_P 100) (753, lv, [], h, 599897, 7298671) RQ1 := by
  refine E_al rfl L1 ?_
  refine E_alr rfl L0 ?_
  refine E_il rfl L3 ?_
  refine E_ci 1 rfl ci1 ?_
  refine E_bin rfl (nJ_add _ _) ?_
  refine E_sld rfl (by first | decide | with_reducible assumption | omega) hL ?_
  refine E_call rfl (tR_int (by decide +kernel) (by decide +kernel) I.2 (top_int (as := [.ref 0, .int (xs ((i + 1)))]) q276 (by decide +kernel) (by decide +kernel) I.1 ⟨rfl, aI _, trivial⟩)) (chkR (a := 0) I.1.1 rfl rfl rfl rfl (by show 0 ≤ 8; decide)) (fun h1 r1 => ?_)
  rintro ⟨I1, x1, f1⟩
  rw [f1]
  show Ends _ _ (762, lv, [.int x1], h1, 599897, 7298671) _
  refine E_pop rfl rfl ?_
  refine E_al rfl L2 ?_
  refine E_alr rfl L0 ?_
  refine E_il rfl L3 ?_
  refine E_ci 1 rfl ci1 ?_
  refine E_bin rfl (nJ_add _ _) ?_
  refine E_sld rfl (by first | decide | with_reducible assumption | omega) hL ?_
  refine E_call rfl (tR_int (by decide +kernel) (by decide +kernel) I1.2 (top_TQ (d := 30) rfl I1.1 (tp_ring (d := 0) I1.1.1 (I1.1.2.2.1 0 (by first | decide | with_reducible assumption | omega))))) (chkR (a := 77) I1.1.1 rfl rfl rfl rfl (by show 0 ≤ 8; decide)) (fun h2 r2 => ?_)
  rintro ⟨I2, x2, f2⟩
  rw [f2]
  show Ends _ _ (772, lv, [.int x2], h2, 599897, 7298671) _
  refine E_pop rfl rfl ?_
  refine E_goto rfl ?_
  exact K _ I2
set_option maxRecDepth 20000 in
theorem bl_20 {L : Nat} {xs : Nat → Int32} (hL : L ≤ 3072) {h : pm_H} {i : Nat} (hi : i + 6 ≤ L) (lv : List (Nat × Value)) (I : IVR h) (L0 : pm_get lv 0 = some (.retAddr 0)) (L1 : pm_get lv 1 = some (.ref 0)) (L2 : pm_get lv 2 = some (.ref 77)) (L3 : pm_get lv 3 = some (.int (nJ i))) (K : ∀ h', IVR h' → Ends (pm_tr (lb_all L xs)) (pm_Rt pm_P 100) (2392, lv, [], h', 599897, 7298671) RQ1) : Ends (pm_tr (lb_all L xs)) (pm_Rt pm_P 100) (776, lv, [], h, 599897, 7298671) RQ1 := by
  refine E_al rfl L1 ?_
  refine E_call rfl (tR_int (by decide +kernel) (by decide +kernel) I.2 (top_int (as := [.ref 0]) q278 (by decide +kernel) (by decide +kernel) I.1 ⟨rfl, trivial⟩)) (chkR (a := 0) I.1.1 rfl rfl rfl rfl (by show 0 ≤ 8; decide)) (fun h1 r1 => ?_)
  rintro ⟨I1, x1, f1⟩
  rw [f1]
  show Ends _ _ (780, lv, [.int x1], h1, 599897, 7298671) _
  refine E_pop rfl rfl ?_
  refine E_al rfl L2 ?_
  refine E_call rfl (tR_int (by decide +kernel) (by decide +kernel) I1.2 (top_TQ (d := 30) rfl I1.1 (tp_hole (d := 0) I1.1.1 (I1.1.2.2.1 0 (by first | decide | with_reducible assumption | omega))))) (chkR (a := 77) I1.1.1 rfl rfl rfl rfl (by show 0 ≤ 8; decide)) (fun h2 r2 => ?_)
  rintro ⟨I2, x2, f2⟩
  rw [f2]
  show Ends _ _ (785, lv, [.int x2], h2, 599897, 7298671) _
  refine E_pop rfl rfl ?_
  refine E_goto rfl ?_
  exact K _ I2
set_option maxRecDepth 20000 in
theorem bl_21 {L : Nat} {xs : Nat → Int32} (hL : L ≤ 3072) {h : pm_H} {i : Nat} (hi : i + 6 ≤ L) (lv : List (Nat × Value)) (I : IVR h) (L0 : pm_get lv 0 = some (.retAddr 0)) (L1 : pm_get lv 1 = some (.ref 0)) (L2 : pm_get lv 2 = some (.ref 77)) (L3 : pm_get lv 3 = some (.int (nJ i))) (K : ∀ h', IVR h' → Ends (pm_tr (lb_all L xs)) (pm_Rt pm_P 100) (2392, lv, [], h', 599897, 7298671) RQ1) : Ends (pm_tr (lb_all L xs)) (pm_Rt pm_P 100) (789, lv, [], h, 599897, 7298671) RQ1 := by
  refine E_al rfl L1 ?_
  refine E_call rfl (tR_int (by decide +kernel) (by decide +kernel) I.2 (top_int (as := [.ref 0]) q279 (by decide +kernel) (by decide +kernel) I.1 ⟨rfl, trivial⟩)) (chkR (a := 0) I.1.1 rfl rfl rfl rfl (by show 0 ≤ 8; decide)) (fun h1 r1 => ?_)
  rintro ⟨I1, x1, f1⟩
  rw [f1]
  show Ends _ _ (793, lv, [.int x1], h1, 599897, 7298671) _
  refine E_pop rfl rfl ?_
  refine E_al rfl L2 ?_
  refine E_call rfl (tR_int (by decide +kernel) (by decide +kernel) I1.2 (top_TQ (d := 30) rfl I1.1 (tp_shifts (d := 0) I1.1.1 (I1.1.2.2.1 0 (by first | decide | with_reducible assumption | omega))))) (chkR (a := 77) I1.1.1 rfl rfl rfl rfl (by show 0 ≤ 8; decide)) (fun h2 r2 => ?_)
  rintro ⟨I2, x2, f2⟩
  rw [f2]
  show Ends _ _ (798, lv, [.int x2], h2, 599897, 7298671) _
  refine E_pop rfl rfl ?_
  refine E_goto rfl ?_
  exact K _ I2
set_option maxRecDepth 20000 in
theorem bl_22 {L : Nat} {xs : Nat → Int32} (hL : L ≤ 3072) {h : pm_H} {i : Nat} (hi : i + 6 ≤ L) (lv : List (Nat × Value)) (I : IVR h) (L0 : pm_get lv 0 = some (.retAddr 0)) (L1 : pm_get lv 1 = some (.ref 0)) (L2 : pm_get lv 2 = some (.ref 77)) (L3 : pm_get lv 3 = some (.int (nJ i))) (K : ∀ h', IVR h' → Ends (pm_tr (lb_all L xs)) (pm_Rt pm_P 100) (2392, lv, [], h', 599897, 7298671) RQ1) : Ends (pm_tr (lb_all L xs)) (pm_Rt pm_P 100) (802, lv, [], h, 599897, 7298671) RQ1 := by
  refine E_al rfl L1 ?_
  refine E_alr rfl L0 ?_
  refine E_il rfl L3 ?_
  refine E_ci 1 rfl ci1 ?_
  refine E_bin rfl (nJ_add _ _) ?_
  refine E_sld rfl (by first | decide | with_reducible assumption | omega) hL ?_
  refine E_alr rfl L0 ?_
  refine E_il rfl L3 ?_
  refine E_ci 2 rfl ci2 ?_
  refine E_bin rfl (nJ_add _ _) ?_
  refine E_sld rfl (by first | decide | with_reducible assumption | omega) hL ?_
  refine E_call rfl (tR_int (by decide +kernel) (by decide +kernel) I.2 (top_int (as := [.ref 0, .int (xs ((i + 1))), .int (xs ((i + 2)))]) q280 (by decide +kernel) (by decide +kernel) I.1 ⟨rfl, aI _, aI _, trivial⟩)) (chkR (a := 0) I.1.1 rfl rfl rfl rfl (by show 0 ≤ 8; decide)) (fun h1 r1 => ?_)
  rintro ⟨I1, x1, f1⟩
  rw [f1]
  show Ends _ _ (816, lv, [.int x1], h1, 599897, 7298671) _
  refine E_pop rfl rfl ?_
  refine E_al rfl L2 ?_
  refine E_alr rfl L0 ?_
  refine E_il rfl L3 ?_
  refine E_ci 1 rfl ci1 ?_
  refine E_bin rfl (nJ_add _ _) ?_
  refine E_sld rfl (by first | decide | with_reducible assumption | omega) hL ?_
  refine E_alr rfl L0 ?_
  refine E_il rfl L3 ?_
  refine E_ci 2 rfl ci2 ?_
  refine E_bin rfl (nJ_add _ _) ?_
  refine E_sld rfl (by first | decide | with_reducible assumption | omega) hL ?_
  refine E_call rfl (tR_int (by decide +kernel) (by decide +kernel) I1.2 (top_int (as := [.ref 77, .int (xs ((i + 1))), .int (xs ((i + 2)))]) q283 (by decide +kernel) (by decide +kernel) I1.1 ⟨rfl, aI _, aI _, trivial⟩)) (chkR (a := 77) I1.1.1 rfl rfl rfl rfl (by show 0 ≤ 8; decide)) (fun h2 r2 => ?_)
  rintro ⟨I2, x2, f2⟩
  rw [f2]
  show Ends _ _ (831, lv, [.int x2], h2, 599897, 7298671) _
  refine E_pop rfl rfl ?_
  refine E_goto rfl ?_
  exact K _ I2
set_option maxRecDepth 20000 in
theorem bl_23 {L : Nat} {xs : Nat → Int32} (hL : L ≤ 3072) {h : pm_H} {i : Nat} (hi : i + 6 ≤ L) (lv : List (Nat × Value)) (I : IVR h) (L0 : pm_get lv 0 = some (.retAddr 0)) (L1 : pm_get lv 1 = some (.ref 0)) (L2 : pm_get lv 2 = some (.ref 77)) (L3 : pm_get lv 3 = some (.int (nJ i))) (K : ∀ h', IVR h' → Ends (pm_tr (lb_all L xs)) (pm_Rt pm_P 100) (2392, lv, [], h', 599897, 7298671) RQ1) : Ends (pm_tr (lb_all L xs)) (pm_Rt pm_P 100) (835, lv, [], h, 599897, 7298671) RQ1 := by
  refine E_al rfl L1 ?_
  refine E_alr rfl L0 ?_
  refine E_il rfl L3 ?_
  refine E_ci 1 rfl ci1 ?_
  refine E_bin rfl (nJ_add _ _) ?_
  refine E_sld rfl (by first | decide | with_reducible assumption | omega) hL ?_
  refine E_call rfl (tR_int (by decide +kernel) (by decide +kernel) I.2 (top_int (as := [.ref 0, .int (xs ((i + 1)))]) q289 (by decide +kernel) (by decide +kernel) I.1 ⟨rfl, aI _, trivial⟩)) (chkR (a := 0) I.1.1 rfl rfl rfl rfl (by show 0 ≤ 8; decide)) (fun h1 r1 => ?_)
  rintro ⟨I1, x1, f1⟩
  rw [f1]
  show Ends _ _ (844, lv, [.int x1], h1, 599897, 7298671) _
  refine E_pop rfl rfl ?_
  refine E_al rfl L2 ?_
  refine E_alr rfl L0 ?_
  refine E_il rfl L3 ?_
  refine E_ci 1 rfl ci1 ?_
  refine E_bin rfl (nJ_add _ _) ?_
  refine E_sld rfl (by first | decide | with_reducible assumption | omega) hL ?_
  refine E_call rfl (tR_int (by decide +kernel) (by decide +kernel) I1.2 (top_TQ (d := 30) rfl I1.1 (tp_parent (d := 0) I1.1.1 (I1.1.2.2.1 0 (by first | decide | with_reducible assumption | omega))))) (chkR (a := 77) I1.1.1 rfl rfl rfl rfl (by show 0 ≤ 8; decide)) (fun h2 r2 => ?_)
  rintro ⟨I2, x2, f2⟩
  rw [f2]
  show Ends _ _ (854, lv, [.int x2], h2, 599897, 7298671) _
  refine E_pop rfl rfl ?_
  refine E_goto rfl ?_
  exact K _ I2
set_option maxRecDepth 20000 in
theorem bl_24 {L : Nat} {xs : Nat → Int32} (hL : L ≤ 3072) {h : pm_H} {i : Nat} (hi : i + 6 ≤ L) (lv : List (Nat × Value)) (I : IVR h) (L0 : pm_get lv 0 = some (.retAddr 0)) (L1 : pm_get lv 1 = some (.ref 0)) (L2 : pm_get lv 2 = some (.ref 77)) (L3 : pm_get lv 3 = some (.int (nJ i))) (K : ∀ h', IVR h' → Ends (pm_tr (lb_all L xs)) (pm_Rt pm_P 100) (2392, lv, [], h', 599897, 7298671) RQ1) : Ends (pm_tr (lb_all L xs)) (pm_Rt pm_P 100) (858, lv, [], h, 599897, 7298671) RQ1 := by
  refine E_al rfl L1 ?_
  refine E_alr rfl L0 ?_
  refine E_il rfl L3 ?_
  refine E_ci 1 rfl ci1 ?_
  refine E_bin rfl (nJ_add _ _) ?_
  refine E_sld rfl (by first | decide | with_reducible assumption | omega) hL ?_
  refine E_call rfl (tR_int (by decide +kernel) (by decide +kernel) I.2 (top_int (as := [.ref 0, .int (xs ((i + 1)))]) q291 (by decide +kernel) (by decide +kernel) I.1 ⟨rfl, aI _, trivial⟩)) (chkR (a := 0) I.1.1 rfl rfl rfl rfl (by show 0 ≤ 8; decide)) (fun h1 r1 => ?_)
  rintro ⟨I1, x1, f1⟩
  rw [f1]
  show Ends _ _ (867, lv, [.int x1], h1, 599897, 7298671) _
  refine E_pop rfl rfl ?_
  refine E_al rfl L2 ?_
  refine E_alr rfl L0 ?_
  refine E_il rfl L3 ?_
  refine E_ci 1 rfl ci1 ?_
  refine E_bin rfl (nJ_add _ _) ?_
  refine E_sld rfl (by first | decide | with_reducible assumption | omega) hL ?_
  refine E_call rfl (tR_int (by decide +kernel) (by decide +kernel) I1.2 (top_TQ (d := 30) rfl I1.1 (tp_depth (d := 0) I1.1.1 (I1.1.2.2.1 0 (by first | decide | with_reducible assumption | omega))))) (chkR (a := 77) I1.1.1 rfl rfl rfl rfl (by show 0 ≤ 8; decide)) (fun h2 r2 => ?_)
  rintro ⟨I2, x2, f2⟩
  rw [f2]
  show Ends _ _ (877, lv, [.int x2], h2, 599897, 7298671) _
  refine E_pop rfl rfl ?_
  refine E_goto rfl ?_
  exact K _ I2
set_option maxRecDepth 20000 in
theorem bl_25 {L : Nat} {xs : Nat → Int32} (hL : L ≤ 3072) {h : pm_H} {i : Nat} (hi : i + 6 ≤ L) (lv : List (Nat × Value)) (I : IVR h) (L0 : pm_get lv 0 = some (.retAddr 0)) (L1 : pm_get lv 1 = some (.ref 0)) (L2 : pm_get lv 2 = some (.ref 77)) (L3 : pm_get lv 3 = some (.int (nJ i))) (K : ∀ h', IVR h' → Ends (pm_tr (lb_all L xs)) (pm_Rt pm_P 100) (2392, lv, [], h', 599897, 7298671) RQ1) : Ends (pm_tr (lb_all L xs)) (pm_Rt pm_P 100) (881, lv, [], h, 599897, 7298671) RQ1 := by
  refine E_al rfl L1 ?_
  refine E_alr rfl L0 ?_
  refine E_il rfl L3 ?_
  refine E_ci 1 rfl ci1 ?_
  refine E_bin rfl (nJ_add _ _) ?_
  refine E_sld rfl (by first | decide | with_reducible assumption | omega) hL ?_
  refine E_call rfl (tR_int (by decide +kernel) (by decide +kernel) I.2 (top_int (as := [.ref 0, .int (xs ((i + 1)))]) q293 (by decide +kernel) (by decide +kernel) I.1 ⟨rfl, aI _, trivial⟩)) (chkR (a := 0) I.1.1 rfl rfl rfl rfl (by show 0 ≤ 8; decide)) (fun h1 r1 => ?_)
  rintro ⟨I1, x1, f1⟩
  rw [f1]
  show Ends _ _ (890, lv, [.int x1], h1, 599897, 7298671) _
  refine E_pop rfl rfl ?_
  refine E_al rfl L2 ?_
  refine E_alr rfl L0 ?_
  refine E_il rfl L3 ?_
  refine E_ci 1 rfl ci1 ?_
  refine E_bin rfl (nJ_add _ _) ?_
  refine E_sld rfl (by first | decide | with_reducible assumption | omega) hL ?_
  refine E_call rfl (tR_int (by decide +kernel) (by decide +kernel) I1.2 (top_TQ (d := 30) rfl I1.1 (tp_kids (d := 0) I1.1.1 (I1.1.2.2.1 0 (by first | decide | with_reducible assumption | omega))))) (chkR (a := 77) I1.1.1 rfl rfl rfl rfl (by show 0 ≤ 8; decide)) (fun h2 r2 => ?_)
  rintro ⟨I2, x2, f2⟩
  rw [f2]
  show Ends _ _ (900, lv, [.int x2], h2, 599897, 7298671) _
  refine E_pop rfl rfl ?_
  refine E_goto rfl ?_
  exact K _ I2
set_option maxRecDepth 20000 in
theorem bl_26 {L : Nat} {xs : Nat → Int32} (hL : L ≤ 3072) {h : pm_H} {i : Nat} (hi : i + 6 ≤ L) (lv : List (Nat × Value)) (I : IVR h) (L0 : pm_get lv 0 = some (.retAddr 0)) (L1 : pm_get lv 1 = some (.ref 0)) (L2 : pm_get lv 2 = some (.ref 77)) (L3 : pm_get lv 3 = some (.int (nJ i))) (K : ∀ h', IVR h' → Ends (pm_tr (lb_all L xs)) (pm_Rt pm_P 100) (2392, lv, [], h', 599897, 7298671) RQ1) : Ends (pm_tr (lb_all L xs)) (pm_Rt pm_P 100) (904, lv, [], h, 599897, 7298671) RQ1 := by
  refine E_al rfl L1 ?_
  refine E_alr rfl L0 ?_
  refine E_il rfl L3 ?_
  refine E_ci 1 rfl ci1 ?_
  refine E_bin rfl (nJ_add _ _) ?_
  refine E_sld rfl (by first | decide | with_reducible assumption | omega) hL ?_
  refine E_call rfl (tR_int (by decide +kernel) (by decide +kernel) I.2 (top_int (as := [.ref 0, .int (xs ((i + 1)))]) q296 (by decide +kernel) (by decide +kernel) I.1 ⟨rfl, aI _, trivial⟩)) (chkR (a := 0) I.1.1 rfl rfl rfl rfl (by show 0 ≤ 8; decide)) (fun h1 r1 => ?_)
  rintro ⟨I1, x1, f1⟩
  rw [f1]
  show Ends _ _ (913, lv, [.int x1], h1, 599897, 7298671) _
  refine E_pop rfl rfl ?_
  refine E_al rfl L2 ?_
  refine E_alr rfl L0 ?_
  refine E_il rfl L3 ?_
  refine E_ci 1 rfl ci1 ?_
  refine E_bin rfl (nJ_add _ _) ?_
  refine E_sld rfl (by first | decide | with_reducible assumption | omega) hL ?_
  refine E_call rfl (tR_int (by decide +kernel) (by decide +kernel) I1.2 (top_TQ (d := 30) rfl I1.1 (tp_queue (d := 0) I1.1.1 (I1.1.2.2.1 0 (by first | decide | with_reducible assumption | omega))))) (chkR (a := 77) I1.1.1 rfl rfl rfl rfl (by show 0 ≤ 8; decide)) (fun h2 r2 => ?_)
  rintro ⟨I2, x2, f2⟩
  rw [f2]
  show Ends _ _ (923, lv, [.int x2], h2, 599897, 7298671) _
  refine E_pop rfl rfl ?_
  refine E_goto rfl ?_
  exact K _ I2
set_option maxRecDepth 20000 in
theorem bl_27 {L : Nat} {xs : Nat → Int32} (hL : L ≤ 3072) {h : pm_H} {i : Nat} (hi : i + 6 ≤ L) (lv : List (Nat × Value)) (I : IVR h) (L0 : pm_get lv 0 = some (.retAddr 0)) (L1 : pm_get lv 1 = some (.ref 0)) (L2 : pm_get lv 2 = some (.ref 77)) (L3 : pm_get lv 3 = some (.int (nJ i))) (K : ∀ h', IVR h' → Ends (pm_tr (lb_all L xs)) (pm_Rt pm_P 100) (2392, lv, [], h', 599897, 7298671) RQ1) : Ends (pm_tr (lb_all L xs)) (pm_Rt pm_P 100) (927, lv, [], h, 599897, 7298671) RQ1 := by
  refine E_al rfl L1 ?_
  refine E_call rfl (tR_int (by decide +kernel) (by decide +kernel) I.2 (top_int (as := [.ref 0]) q298 (by decide +kernel) (by decide +kernel) I.1 ⟨rfl, trivial⟩)) (chkR (a := 0) I.1.1 rfl rfl rfl rfl (by show 0 ≤ 8; decide)) (fun h1 r1 => ?_)
  rintro ⟨I1, x1, f1⟩
  rw [f1]
  show Ends _ _ (931, lv, [.int x1], h1, 599897, 7298671) _
  refine E_pop rfl rfl ?_
  refine E_al rfl L2 ?_
  refine E_call rfl (tR_int (by decide +kernel) (by decide +kernel) I1.2 (top_TQ (d := 30) rfl I1.1 (tp_leaves (d := 0) I1.1.1 (I1.1.2.2.1 0 (by first | decide | with_reducible assumption | omega))))) (chkR (a := 77) I1.1.1 rfl rfl rfl rfl (by show 0 ≤ 8; decide)) (fun h2 r2 => ?_)
  rintro ⟨I2, x2, f2⟩
  rw [f2]
  show Ends _ _ (936, lv, [.int x2], h2, 599897, 7298671) _
  refine E_pop rfl rfl ?_
  refine E_goto rfl ?_
  exact K _ I2
set_option maxRecDepth 20000 in
theorem bl_28 {L : Nat} {xs : Nat → Int32} (hL : L ≤ 3072) {h : pm_H} {i : Nat} (hi : i + 6 ≤ L) (lv : List (Nat × Value)) (I : IVR h) (L0 : pm_get lv 0 = some (.retAddr 0)) (L1 : pm_get lv 1 = some (.ref 0)) (L2 : pm_get lv 2 = some (.ref 77)) (L3 : pm_get lv 3 = some (.int (nJ i))) (K : ∀ h', IVR h' → Ends (pm_tr (lb_all L xs)) (pm_Rt pm_P 100) (2392, lv, [], h', 599897, 7298671) RQ1) : Ends (pm_tr (lb_all L xs)) (pm_Rt pm_P 100) (940, lv, [], h, 599897, 7298671) RQ1 := by
  refine E_al rfl L1 ?_
  refine E_call rfl (tR_int (by decide +kernel) (by decide +kernel) I.2 (top_int (as := [.ref 0]) q301 (by decide +kernel) (by decide +kernel) I.1 ⟨rfl, trivial⟩)) (chkR (a := 0) I.1.1 rfl rfl rfl rfl (by show 0 ≤ 8; decide)) (fun h1 r1 => ?_)
  rintro ⟨I1, x1, f1⟩
  rw [f1]
  show Ends _ _ (944, lv, [.int x1], h1, 599897, 7298671) _
  refine E_pop rfl rfl ?_
  refine E_al rfl L2 ?_
  refine E_call rfl (tR_int (by decide +kernel) (by decide +kernel) I1.2 (top_TQ (d := 30) rfl I1.1 (tp_inversions (d := 0) I1.1.1 (I1.1.2.2.1 0 (by first | decide | with_reducible assumption | omega))))) (chkR (a := 77) I1.1.1 rfl rfl rfl rfl (by show 0 ≤ 8; decide)) (fun h2 r2 => ?_)
  rintro ⟨I2, x2, f2⟩
  rw [f2]
  show Ends _ _ (949, lv, [.int x2], h2, 599897, 7298671) _
  refine E_pop rfl rfl ?_
  refine E_goto rfl ?_
  exact K _ I2
set_option maxRecDepth 20000 in
theorem bl_29 {L : Nat} {xs : Nat → Int32} (hL : L ≤ 3072) {h : pm_H} {i : Nat} (hi : i + 6 ≤ L) (lv : List (Nat × Value)) (I : IVR h) (L0 : pm_get lv 0 = some (.retAddr 0)) (L1 : pm_get lv 1 = some (.ref 0)) (L2 : pm_get lv 2 = some (.ref 77)) (L3 : pm_get lv 3 = some (.int (nJ i))) (K : ∀ h', IVR h' → Ends (pm_tr (lb_all L xs)) (pm_Rt pm_P 100) (2392, lv, [], h', 599897, 7298671) RQ1) : Ends (pm_tr (lb_all L xs)) (pm_Rt pm_P 100) (953, lv, [], h, 599897, 7298671) RQ1 := by
  refine E_al rfl L1 ?_
  refine E_alr rfl L0 ?_
  refine E_il rfl L3 ?_
  refine E_ci 1 rfl ci1 ?_
  refine E_bin rfl (nJ_add _ _) ?_
  refine E_sld rfl (by first | decide | with_reducible assumption | omega) hL ?_
  refine E_call rfl (tR_int (by decide +kernel) (by decide +kernel) I.2 (top_int (as := [.ref 0, .int (xs ((i + 1)))]) q307 (by decide +kernel) (by decide +kernel) I.1 ⟨rfl, aI _, trivial⟩)) (chkR (a := 0) I.1.1 rfl rfl rfl rfl (by show 0 ≤ 8; decide)) (fun h1 r1 => ?_)
  rintro ⟨I1, x1, f1⟩
  rw [f1]
  show Ends _ _ (962, lv, [.int x1], h1, 599897, 7298671) _
  refine E_pop rfl rfl ?_
  refine E_al rfl L2 ?_
  refine E_alr rfl L0 ?_
  refine E_il rfl L3 ?_
  refine E_ci 1 rfl ci1 ?_
  refine E_bin rfl (nJ_add _ _) ?_
  refine E_sld rfl (by first | decide | with_reducible assumption | omega) hL ?_
  refine E_call rfl (tR_int (by decide +kernel) (by decide +kernel) I1.2 (top_TQ (d := 30) rfl I1.1 (tp_code (d := 0) I1.1.1 (I1.1.2.2.1 0 (by first | decide | with_reducible assumption | omega))))) (chkR (a := 77) I1.1.1 rfl rfl rfl rfl (by show 0 ≤ 8; decide)) (fun h2 r2 => ?_)
  rintro ⟨I2, x2, f2⟩
  rw [f2]
  show Ends _ _ (972, lv, [.int x2], h2, 599897, 7298671) _
  refine E_pop rfl rfl ?_
  refine E_goto rfl ?_
  exact K _ I2
set_option maxRecDepth 20000 in
theorem bl_30 {L : Nat} {xs : Nat → Int32} (hL : L ≤ 3072) {h : pm_H} {i : Nat} (hi : i + 6 ≤ L) (lv : List (Nat × Value)) (I : IVR h) (L0 : pm_get lv 0 = some (.retAddr 0)) (L1 : pm_get lv 1 = some (.ref 0)) (L2 : pm_get lv 2 = some (.ref 77)) (L3 : pm_get lv 3 = some (.int (nJ i))) (K : ∀ h', IVR h' → Ends (pm_tr (lb_all L xs)) (pm_Rt pm_P 100) (2392, lv, [], h', 599897, 7298671) RQ1) : Ends (pm_tr (lb_all L xs)) (pm_Rt pm_P 100) (976, lv, [], h, 599897, 7298671) RQ1 := by
  refine E_al rfl L1 ?_
  refine E_alr rfl L0 ?_
  refine E_il rfl L3 ?_
  refine E_ci 1 rfl ci1 ?_
  refine E_bin rfl (nJ_add _ _) ?_
  refine E_sld rfl (by first | decide | with_reducible assumption | omega) hL ?_
  refine E_call rfl (tR_int (by decide +kernel) (by decide +kernel) I.2 (top_int (as := [.ref 0, .int (xs ((i + 1)))]) q312 (by decide +kernel) (by decide +kernel) I.1 ⟨rfl, aI _, trivial⟩)) (chkR (a := 0) I.1.1 rfl rfl rfl rfl (by show 0 ≤ 8; decide)) (fun h1 r1 => ?_)
  rintro ⟨I1, x1, f1⟩
  rw [f1]
  show Ends _ _ (985, lv, [.int x1], h1, 599897, 7298671) _
  refine E_pop rfl rfl ?_
  refine E_al rfl L2 ?_
  refine E_alr rfl L0 ?_
  refine E_il rfl L3 ?_
  refine E_ci 1 rfl ci1 ?_
  refine E_bin rfl (nJ_add _ _) ?_
  refine E_sld rfl (by first | decide | with_reducible assumption | omega) hL ?_
  refine E_call rfl (tR_int (by decide +kernel) (by decide +kernel) I1.2 (top_TQ (d := 30) rfl I1.1 (tp_burnt (d := 0) I1.1.1 (I1.1.2.2.1 0 (by first | decide | with_reducible assumption | omega))))) (chkR (a := 77) I1.1.1 rfl rfl rfl rfl (by show 0 ≤ 8; decide)) (fun h2 r2 => ?_)
  rintro ⟨I2, x2, f2⟩
  rw [f2]
  show Ends _ _ (995, lv, [.int x2], h2, 599897, 7298671) _
  refine E_pop rfl rfl ?_
  refine E_goto rfl ?_
  exact K _ I2
set_option maxRecDepth 20000 in
theorem bl_31 {L : Nat} {xs : Nat → Int32} (hL : L ≤ 3072) {h : pm_H} {i : Nat} (hi : i + 6 ≤ L) (lv : List (Nat × Value)) (I : IVR h) (L0 : pm_get lv 0 = some (.retAddr 0)) (L1 : pm_get lv 1 = some (.ref 0)) (L2 : pm_get lv 2 = some (.ref 77)) (L3 : pm_get lv 3 = some (.int (nJ i))) (K : ∀ h', IVR h' → Ends (pm_tr (lb_all L xs)) (pm_Rt pm_P 100) (2392, lv, [], h', 599897, 7298671) RQ1) : Ends (pm_tr (lb_all L xs)) (pm_Rt pm_P 100) (999, lv, [], h, 599897, 7298671) RQ1 := by
  refine E_al rfl L1 ?_
  refine E_call rfl (tR_int (by decide +kernel) (by decide +kernel) I.2 (top_int (as := [.ref 0]) q313 (by decide +kernel) (by decide +kernel) I.1 ⟨rfl, trivial⟩)) (chkR (a := 0) I.1.1 rfl rfl rfl rfl (by show 0 ≤ 8; decide)) (fun h1 r1 => ?_)
  rintro ⟨I1, x1, f1⟩
  rw [f1]
  show Ends _ _ (1003, lv, [.int x1], h1, 599897, 7298671) _
  refine E_pop rfl rfl ?_
  refine E_al rfl L2 ?_
  refine E_call rfl (tR_int (by decide +kernel) (by decide +kernel) I1.2 (top_TQ (d := 30) rfl I1.1 (tp_turned (d := 0) I1.1.1 (I1.1.2.2.1 0 (by first | decide | with_reducible assumption | omega))))) (chkR (a := 77) I1.1.1 rfl rfl rfl rfl (by show 0 ≤ 8; decide)) (fun h2 r2 => ?_)
  rintro ⟨I2, x2, f2⟩
  rw [f2]
  show Ends _ _ (1008, lv, [.int x2], h2, 599897, 7298671) _
  refine E_pop rfl rfl ?_
  refine E_goto rfl ?_
  exact K _ I2
set_option maxRecDepth 20000 in
theorem bl_32 {L : Nat} {xs : Nat → Int32} (hL : L ≤ 3072) {h : pm_H} {i : Nat} (hi : i + 6 ≤ L) (lv : List (Nat × Value)) (I : IVR h) (L0 : pm_get lv 0 = some (.retAddr 0)) (L1 : pm_get lv 1 = some (.ref 0)) (L2 : pm_get lv 2 = some (.ref 77)) (L3 : pm_get lv 3 = some (.int (nJ i))) (K : ∀ h', IVR h' → Ends (pm_tr (lb_all L xs)) (pm_Rt pm_P 100) (2392, lv, [], h', 599897, 7298671) RQ1) : Ends (pm_tr (lb_all L xs)) (pm_Rt pm_P 100) (1012, lv, [], h, 599897, 7298671) RQ1 := by
  refine E_al rfl L1 ?_
  refine E_alr rfl L0 ?_
  refine E_il rfl L3 ?_
  refine E_ci 1 rfl ci1 ?_
  refine E_bin rfl (nJ_add _ _) ?_
  refine E_sld rfl (by first | decide | with_reducible assumption | omega) hL ?_
  refine E_call rfl (tR_int (by decide +kernel) (by decide +kernel) I.2 (top_int (as := [.ref 0, .int (xs ((i + 1)))]) q314 (by decide +kernel) (by decide +kernel) I.1 ⟨rfl, aI _, trivial⟩)) (chkR (a := 0) I.1.1 rfl rfl rfl rfl (by show 0 ≤ 8; decide)) (fun h1 r1 => ?_)
  rintro ⟨I1, x1, f1⟩
  rw [f1]
  show Ends _ _ (1021, lv, [.int x1], h1, 599897, 7298671) _
  refine E_pop rfl rfl ?_
  refine E_al rfl L2 ?_
  refine E_alr rfl L0 ?_
  refine E_il rfl L3 ?_
  refine E_ci 1 rfl ci1 ?_
  refine E_bin rfl (nJ_add _ _) ?_
  refine E_sld rfl (by first | decide | with_reducible assumption | omega) hL ?_
  refine E_call rfl (tR_int (by decide +kernel) (by decide +kernel) I1.2 (top_TQ (d := 30) rfl I1.1 (tp_visit (d := 0) I1.1.1 (I1.1.2.2.1 0 (by first | decide | with_reducible assumption | omega))))) (chkR (a := 77) I1.1.1 rfl rfl rfl rfl (by show 0 ≤ 8; decide)) (fun h2 r2 => ?_)
  rintro ⟨I2, x2, f2⟩
  rw [f2]
  show Ends _ _ (1031, lv, [.int x2], h2, 599897, 7298671) _
  refine E_pop rfl rfl ?_
  refine E_goto rfl ?_
  exact K _ I2
set_option maxRecDepth 20000 in
theorem bl_33 {L : Nat} {xs : Nat → Int32} (hL : L ≤ 3072) {h : pm_H} {i : Nat} (hi : i + 6 ≤ L) (lv : List (Nat × Value)) (I : IVR h) (L0 : pm_get lv 0 = some (.retAddr 0)) (L1 : pm_get lv 1 = some (.ref 0)) (L2 : pm_get lv 2 = some (.ref 77)) (L3 : pm_get lv 3 = some (.int (nJ i))) (K : ∀ h', IVR h' → Ends (pm_tr (lb_all L xs)) (pm_Rt pm_P 100) (2392, lv, [], h', 599897, 7298671) RQ1) : Ends (pm_tr (lb_all L xs)) (pm_Rt pm_P 100) (1035, lv, [], h, 599897, 7298671) RQ1 := by
  refine E_al rfl L1 ?_
  refine E_alr rfl L0 ?_
  refine E_il rfl L3 ?_
  refine E_ci 1 rfl ci1 ?_
  refine E_bin rfl (nJ_add _ _) ?_
  refine E_sld rfl (by first | decide | with_reducible assumption | omega) hL ?_
  refine E_alr rfl L0 ?_
  refine E_il rfl L3 ?_
  refine E_ci 2 rfl ci2 ?_
  refine E_bin rfl (nJ_add _ _) ?_
  refine E_sld rfl (by first | decide | with_reducible assumption | omega) hL ?_
  refine E_call rfl (tR_int (by decide +kernel) (by decide +kernel) I.2 (top_int (as := [.ref 0, .int (xs ((i + 1))), .int (xs ((i + 2)))]) q484 (by decide +kernel) (by decide +kernel) I.1 ⟨rfl, aI _, aI _, trivial⟩)) (chkR (a := 0) I.1.1 rfl rfl rfl rfl (by show 0 ≤ 8; decide)) (fun h1 r1 => ?_)
  rintro ⟨I1, x1, f1⟩
  rw [f1]
  show Ends _ _ (1049, lv, [.int x1], h1, 599897, 7298671) _
  refine E_pop rfl rfl ?_
  refine E_al rfl L2 ?_
  refine E_alr rfl L0 ?_
  refine E_il rfl L3 ?_
  refine E_ci 1 rfl ci1 ?_
  refine E_bin rfl (nJ_add _ _) ?_
  refine E_sld rfl (by first | decide | with_reducible assumption | omega) hL ?_
  refine E_alr rfl L0 ?_
  refine E_il rfl L3 ?_
  refine E_ci 2 rfl ci2 ?_
  refine E_bin rfl (nJ_add _ _) ?_
  refine E_sld rfl (by first | decide | with_reducible assumption | omega) hL ?_
  refine E_call rfl (tR_int (by decide +kernel) (by decide +kernel) I1.2 (top_TQ (d := 30) rfl I1.1 (tp_above (d := 0) I1.1.1 (I1.1.2.2.1 0 (by first | decide | with_reducible assumption | omega))))) (chkR (a := 77) I1.1.1 rfl rfl rfl rfl (by show 0 ≤ 8; decide)) (fun h2 r2 => ?_)
  rintro ⟨I2, x2, f2⟩
  rw [f2]
  show Ends _ _ (1064, lv, [.int x2], h2, 599897, 7298671) _
  refine E_pop rfl rfl ?_
  refine E_goto rfl ?_
  exact K _ I2
set_option maxRecDepth 20000 in
theorem bl_34 {L : Nat} {xs : Nat → Int32} (hL : L ≤ 3072) {h : pm_H} {i : Nat} (hi : i + 6 ≤ L) (lv : List (Nat × Value)) (I : IVR h) (L0 : pm_get lv 0 = some (.retAddr 0)) (L1 : pm_get lv 1 = some (.ref 0)) (L2 : pm_get lv 2 = some (.ref 77)) (L3 : pm_get lv 3 = some (.int (nJ i))) (K : ∀ h', IVR h' → Ends (pm_tr (lb_all L xs)) (pm_Rt pm_P 100) (2392, lv, [], h', 599897, 7298671) RQ1) : Ends (pm_tr (lb_all L xs)) (pm_Rt pm_P 100) (1068, lv, [], h, 599897, 7298671) RQ1 := by
  refine E_al rfl L1 ?_
  refine E_alr rfl L0 ?_
  refine E_il rfl L3 ?_
  refine E_ci 1 rfl ci1 ?_
  refine E_bin rfl (nJ_add _ _) ?_
  refine E_sld rfl (by first | decide | with_reducible assumption | omega) hL ?_
  refine E_alr rfl L0 ?_
  refine E_il rfl L3 ?_
  refine E_ci 2 rfl ci2 ?_
  refine E_bin rfl (nJ_add _ _) ?_
  refine E_sld rfl (by first | decide | with_reducible assumption | omega) hL ?_
  refine E_call rfl (tR_int (by decide +kernel) (by decide +kernel) I.2 (top_int (as := [.ref 0, .int (xs ((i + 1))), .int (xs ((i + 2)))]) q491 (by decide +kernel) (by decide +kernel) I.1 ⟨rfl, aI _, aI _, trivial⟩)) (chkR (a := 0) I.1.1 rfl rfl rfl rfl (by show 0 ≤ 8; decide)) (fun h1 r1 => ?_)
  rintro ⟨I1, x1, f1⟩
  rw [f1]
  show Ends _ _ (1082, lv, [.int x1], h1, 599897, 7298671) _
  refine E_pop rfl rfl ?_
  refine E_al rfl L2 ?_
  refine E_alr rfl L0 ?_
  refine E_il rfl L3 ?_
  refine E_ci 1 rfl ci1 ?_
  refine E_bin rfl (nJ_add _ _) ?_
  refine E_sld rfl (by first | decide | with_reducible assumption | omega) hL ?_
  refine E_alr rfl L0 ?_
  refine E_il rfl L3 ?_
  refine E_ci 2 rfl ci2 ?_
  refine E_bin rfl (nJ_add _ _) ?_
  refine E_sld rfl (by first | decide | with_reducible assumption | omega) hL ?_
  refine E_call rfl (tR_int (by decide +kernel) (by decide +kernel) I1.2 (top_TQ (d := 30) rfl I1.1 (tp_wish (d := 0) I1.1.1 (I1.1.2.2.1 0 (by first | decide | with_reducible assumption | omega))))) (chkR (a := 77) I1.1.1 rfl rfl rfl rfl (by show 0 ≤ 8; decide)) (fun h2 r2 => ?_)
  rintro ⟨I2, x2, f2⟩
  rw [f2]
  show Ends _ _ (1097, lv, [.int x2], h2, 599897, 7298671) _
  refine E_pop rfl rfl ?_
  refine E_goto rfl ?_
  exact K _ I2
set_option maxRecDepth 20000 in
theorem bl_35 {L : Nat} {xs : Nat → Int32} (hL : L ≤ 3072) {h : pm_H} {i : Nat} (hi : i + 6 ≤ L) (lv : List (Nat × Value)) (I : IVR h) (L0 : pm_get lv 0 = some (.retAddr 0)) (L1 : pm_get lv 1 = some (.ref 0)) (L2 : pm_get lv 2 = some (.ref 77)) (L3 : pm_get lv 3 = some (.int (nJ i))) (K : ∀ h', IVR h' → Ends (pm_tr (lb_all L xs)) (pm_Rt pm_P 100) (2392, lv, [], h', 599897, 7298671) RQ1) : Ends (pm_tr (lb_all L xs)) (pm_Rt pm_P 100) (1101, lv, [], h, 599897, 7298671) RQ1 := by
  refine E_al rfl L1 ?_
  refine E_alr rfl L0 ?_
  refine E_il rfl L3 ?_
  refine E_ci 1 rfl ci1 ?_
  refine E_bin rfl (nJ_add _ _) ?_
  refine E_sld rfl (by first | decide | with_reducible assumption | omega) hL ?_
  refine E_alr rfl L0 ?_
  refine E_il rfl L3 ?_
  refine E_ci 2 rfl ci2 ?_
  refine E_bin rfl (nJ_add _ _) ?_
  refine E_sld rfl (by first | decide | with_reducible assumption | omega) hL ?_
  refine E_call rfl (tR_int (by decide +kernel) (by decide +kernel) I.2 (top_int (as := [.ref 0, .int (xs ((i + 1))), .int (xs ((i + 2)))]) q495 (by decide +kernel) (by decide +kernel) I.1 ⟨rfl, aI _, aI _, trivial⟩)) (chkR (a := 0) I.1.1 rfl rfl rfl rfl (by show 0 ≤ 8; decide)) (fun h1 r1 => ?_)
  rintro ⟨I1, x1, f1⟩
  rw [f1]
  show Ends _ _ (1115, lv, [.int x1], h1, 599897, 7298671) _
  refine E_pop rfl rfl ?_
  refine E_al rfl L2 ?_
  refine E_alr rfl L0 ?_
  refine E_il rfl L3 ?_
  refine E_ci 1 rfl ci1 ?_
  refine E_bin rfl (nJ_add _ _) ?_
  refine E_sld rfl (by first | decide | with_reducible assumption | omega) hL ?_
  refine E_alr rfl L0 ?_
  refine E_il rfl L3 ?_
  refine E_ci 2 rfl ci2 ?_
  refine E_bin rfl (nJ_add _ _) ?_
  refine E_sld rfl (by first | decide | with_reducible assumption | omega) hL ?_
  refine E_call rfl (tR_int (by decide +kernel) (by decide +kernel) I1.2 (top_TQ (d := 30) rfl I1.1 (tp_regain (d := 0) I1.1.1 (I1.1.2.2.1 0 (by first | decide | with_reducible assumption | omega))))) (chkR (a := 77) I1.1.1 rfl rfl rfl rfl (by show 0 ≤ 8; decide)) (fun h2 r2 => ?_)
  rintro ⟨I2, x2, f2⟩
  rw [f2]
  show Ends _ _ (1130, lv, [.int x2], h2, 599897, 7298671) _
  refine E_pop rfl rfl ?_
  refine E_goto rfl ?_
  exact K _ I2
set_option maxRecDepth 20000 in
theorem bl_36 {L : Nat} {xs : Nat → Int32} (hL : L ≤ 3072) {h : pm_H} {i : Nat} (hi : i + 6 ≤ L) (lv : List (Nat × Value)) (I : IVR h) (L0 : pm_get lv 0 = some (.retAddr 0)) (L1 : pm_get lv 1 = some (.ref 0)) (L2 : pm_get lv 2 = some (.ref 77)) (L3 : pm_get lv 3 = some (.int (nJ i))) (K : ∀ h', IVR h' → Ends (pm_tr (lb_all L xs)) (pm_Rt pm_P 100) (2392, lv, [], h', 599897, 7298671) RQ1) : Ends (pm_tr (lb_all L xs)) (pm_Rt pm_P 100) (1134, lv, [], h, 599897, 7298671) RQ1 := by
  refine E_al rfl L1 ?_
  refine E_alr rfl L0 ?_
  refine E_il rfl L3 ?_
  refine E_ci 1 rfl ci1 ?_
  refine E_bin rfl (nJ_add _ _) ?_
  refine E_sld rfl (by first | decide | with_reducible assumption | omega) hL ?_
  refine E_call rfl (tR_int (by decide +kernel) (by decide +kernel) I.2 (top_int (as := [.ref 0, .int (xs ((i + 1)))]) q496 (by decide +kernel) (by decide +kernel) I.1 ⟨rfl, aI _, trivial⟩)) (chkR (a := 0) I.1.1 rfl rfl rfl rfl (by show 0 ≤ 8; decide)) (fun h1 r1 => ?_)
  rintro ⟨I1, x1, f1⟩
  rw [f1]
  show Ends _ _ (1143, lv, [.int x1], h1, 599897, 7298671) _
  refine E_pop rfl rfl ?_
  refine E_al rfl L2 ?_
  refine E_alr rfl L0 ?_
  refine E_il rfl L3 ?_
  refine E_ci 1 rfl ci1 ?_
  refine E_bin rfl (nJ_add _ _) ?_
  refine E_sld rfl (by first | decide | with_reducible assumption | omega) hL ?_
  refine E_call rfl (tR_int (by decide +kernel) (by decide +kernel) I1.2 (top_TQ (d := 30) rfl I1.1 (tp_upset (d := 0) I1.1.1 (I1.1.2.2.1 0 (by first | decide | with_reducible assumption | omega))))) (chkR (a := 77) I1.1.1 rfl rfl rfl rfl (by show 0 ≤ 8; decide)) (fun h2 r2 => ?_)
  rintro ⟨I2, x2, f2⟩
  rw [f2]
  show Ends _ _ (1153, lv, [.int x2], h2, 599897, 7298671) _
  refine E_pop rfl rfl ?_
  refine E_goto rfl ?_
  exact K _ I2
set_option maxRecDepth 20000 in
theorem bl_37 {L : Nat} {xs : Nat → Int32} (hL : L ≤ 3072) {h : pm_H} {i : Nat} (hi : i + 6 ≤ L) (lv : List (Nat × Value)) (I : IVR h) (L0 : pm_get lv 0 = some (.retAddr 0)) (L1 : pm_get lv 1 = some (.ref 0)) (L2 : pm_get lv 2 = some (.ref 77)) (L3 : pm_get lv 3 = some (.int (nJ i))) (K : ∀ h', IVR h' → Ends (pm_tr (lb_all L xs)) (pm_Rt pm_P 100) (2392, lv, [], h', 599897, 7298671) RQ1) : Ends (pm_tr (lb_all L xs)) (pm_Rt pm_P 100) (1157, lv, [], h, 599897, 7298671) RQ1 := by
  refine E_al rfl L1 ?_
  refine E_alr rfl L0 ?_
  refine E_il rfl L3 ?_
  refine E_ci 1 rfl ci1 ?_
  refine E_bin rfl (nJ_add _ _) ?_
  refine E_sld rfl (by first | decide | with_reducible assumption | omega) hL ?_
  refine E_call rfl (tR_int (by decide +kernel) (by decide +kernel) I.2 (top_int (as := [.ref 0, .int (xs ((i + 1)))]) q499 (by decide +kernel) (by decide +kernel) I.1 ⟨rfl, aI _, trivial⟩)) (chkR (a := 0) I.1.1 rfl rfl rfl rfl (by show 0 ≤ 8; decide)) (fun h1 r1 => ?_)
  rintro ⟨I1, x1, f1⟩
  rw [f1]
  show Ends _ _ (1166, lv, [.int x1], h1, 599897, 7298671) _
  refine E_pop rfl rfl ?_
  refine E_al rfl L2 ?_
  refine E_alr rfl L0 ?_
  refine E_il rfl L3 ?_
  refine E_ci 1 rfl ci1 ?_
  refine E_bin rfl (nJ_add _ _) ?_
  refine E_sld rfl (by first | decide | with_reducible assumption | omega) hL ?_
  refine E_call rfl (tR_int (by decide +kernel) (by decide +kernel) I1.2 (top_int (as := [.ref 77, .int (xs ((i + 1)))]) q504 (by decide +kernel) (by decide +kernel) I1.1 ⟨rfl, aI _, trivial⟩)) (chkR (a := 77) I1.1.1 rfl rfl rfl rfl (by show 0 ≤ 8; decide)) (fun h2 r2 => ?_)
  rintro ⟨I2, x2, f2⟩
  rw [f2]
  show Ends _ _ (1176, lv, [.int x2], h2, 599897, 7298671) _
  refine E_pop rfl rfl ?_
  refine E_goto rfl ?_
  exact K _ I2
set_option maxRecDepth 20000 in
theorem bl_38 {L : Nat} {xs : Nat → Int32} (hL : L ≤ 3072) {h : pm_H} {i : Nat} (hi : i + 6 ≤ L) (lv : List (Nat × Value)) (I : IVR h) (L0 : pm_get lv 0 = some (.retAddr 0)) (L1 : pm_get lv 1 = some (.ref 0)) (L2 : pm_get lv 2 = some (.ref 77)) (L3 : pm_get lv 3 = some (.int (nJ i))) (K : ∀ h', IVR h' → Ends (pm_tr (lb_all L xs)) (pm_Rt pm_P 100) (2392, lv, [], h', 599897, 7298671) RQ1) : Ends (pm_tr (lb_all L xs)) (pm_Rt pm_P 100) (1180, lv, [], h, 599897, 7298671) RQ1 := by
  refine E_al rfl L1 ?_
  refine E_alr rfl L0 ?_
  refine E_il rfl L3 ?_
  refine E_ci 1 rfl ci1 ?_
  refine E_bin rfl (nJ_add _ _) ?_
  refine E_sld rfl (by first | decide | with_reducible assumption | omega) hL ?_
  refine E_alr rfl L0 ?_
  refine E_il rfl L3 ?_
  refine E_ci 2 rfl ci2 ?_
  refine E_bin rfl (nJ_add _ _) ?_
  refine E_sld rfl (by first | decide | with_reducible assumption | omega) hL ?_
  refine E_call rfl (tR_int (by decide +kernel) (by decide +kernel) I.2 (top_int (as := [.ref 0, .int (xs ((i + 1))), .int (xs ((i + 2)))]) q506 (by decide +kernel) (by decide +kernel) I.1 ⟨rfl, aI _, aI _, trivial⟩)) (chkR (a := 0) I.1.1 rfl rfl rfl rfl (by show 0 ≤ 8; decide)) (fun h1 r1 => ?_)
  rintro ⟨I1, x1, f1⟩
  rw [f1]
  show Ends _ _ (1194, lv, [.int x1], h1, 599897, 7298671) _
  refine E_pop rfl rfl ?_
  refine E_al rfl L2 ?_
  refine E_alr rfl L0 ?_
  refine E_il rfl L3 ?_
  refine E_ci 1 rfl ci1 ?_
  refine E_bin rfl (nJ_add _ _) ?_
  refine E_sld rfl (by first | decide | with_reducible assumption | omega) hL ?_
  refine E_alr rfl L0 ?_
  refine E_il rfl L3 ?_
  refine E_ci 2 rfl ci2 ?_
  refine E_bin rfl (nJ_add _ _) ?_
  refine E_sld rfl (by first | decide | with_reducible assumption | omega) hL ?_
  refine E_call rfl (tR_int (by decide +kernel) (by decide +kernel) I1.2 (top_int (as := [.ref 77, .int (xs ((i + 1))), .int (xs ((i + 2)))]) q509 (by decide +kernel) (by decide +kernel) I1.1 ⟨rfl, aI _, aI _, trivial⟩)) (chkR (a := 77) I1.1.1 rfl rfl rfl rfl (by show 0 ≤ 8; decide)) (fun h2 r2 => ?_)
  rintro ⟨I2, x2, f2⟩
  rw [f2]
  show Ends _ _ (1209, lv, [.int x2], h2, 599897, 7298671) _
  refine E_pop rfl rfl ?_
  refine E_goto rfl ?_
  exact K _ I2
set_option maxRecDepth 20000 in
theorem bl_39 {L : Nat} {xs : Nat → Int32} (hL : L ≤ 3072) {h : pm_H} {i : Nat} (hi : i + 6 ≤ L) (lv : List (Nat × Value)) (I : IVR h) (L0 : pm_get lv 0 = some (.retAddr 0)) (L1 : pm_get lv 1 = some (.ref 0)) (L2 : pm_get lv 2 = some (.ref 77)) (L3 : pm_get lv 3 = some (.int (nJ i))) (K : ∀ h', IVR h' → Ends (pm_tr (lb_all L xs)) (pm_Rt pm_P 100) (2392, lv, [], h', 599897, 7298671) RQ1) : Ends (pm_tr (lb_all L xs)) (pm_Rt pm_P 100) (1213, lv, [], h, 599897, 7298671) RQ1 := by
  refine E_al rfl L1 ?_
  refine E_alr rfl L0 ?_
  refine E_il rfl L3 ?_
  refine E_ci 1 rfl ci1 ?_
  refine E_bin rfl (nJ_add _ _) ?_
  refine E_sld rfl (by first | decide | with_reducible assumption | omega) hL ?_
  refine E_alr rfl L0 ?_
  refine E_il rfl L3 ?_
  refine E_ci 2 rfl ci2 ?_
  refine E_bin rfl (nJ_add _ _) ?_
  refine E_sld rfl (by first | decide | with_reducible assumption | omega) hL ?_
  refine E_call rfl (tR_int (by decide +kernel) (by decide +kernel) I.2 (top_int (as := [.ref 0, .int (xs ((i + 1))), .int (xs ((i + 2)))]) q510 (by decide +kernel) (by decide +kernel) I.1 ⟨rfl, aI _, aI _, trivial⟩)) (chkR (a := 0) I.1.1 rfl rfl rfl rfl (by show 0 ≤ 8; decide)) (fun h1 r1 => ?_)
  rintro ⟨I1, x1, f1⟩
  rw [f1]
  show Ends _ _ (1227, lv, [.int x1], h1, 599897, 7298671) _
  refine E_pop rfl rfl ?_
  refine E_al rfl L2 ?_
  refine E_alr rfl L0 ?_
  refine E_il rfl L3 ?_
  refine E_ci 1 rfl ci1 ?_
  refine E_bin rfl (nJ_add _ _) ?_
  refine E_sld rfl (by first | decide | with_reducible assumption | omega) hL ?_
  refine E_alr rfl L0 ?_
  refine E_il rfl L3 ?_
  refine E_ci 2 rfl ci2 ?_
  refine E_bin rfl (nJ_add _ _) ?_
  refine E_sld rfl (by first | decide | with_reducible assumption | omega) hL ?_
  refine E_call rfl (tR_int (by decide +kernel) (by decide +kernel) I1.2 (top_TQ (d := 30) rfl I1.1 (tp_trees (d := 0) I1.1.1 (I1.1.2.2.1 0 (by first | decide | with_reducible assumption | omega))))) (chkR (a := 77) I1.1.1 rfl rfl rfl rfl (by show 0 ≤ 8; decide)) (fun h2 r2 => ?_)
  rintro ⟨I2, x2, f2⟩
  rw [f2]
  show Ends _ _ (1242, lv, [.int x2], h2, 599897, 7298671) _
  refine E_pop rfl rfl ?_
  refine E_goto rfl ?_
  exact K _ I2
set_option maxRecDepth 20000 in
theorem bl_40 {L : Nat} {xs : Nat → Int32} (hL : L ≤ 3072) {h : pm_H} {i : Nat} (hi : i + 6 ≤ L) (lv : List (Nat × Value)) (I : IVR h) (L0 : pm_get lv 0 = some (.retAddr 0)) (L1 : pm_get lv 1 = some (.ref 0)) (L2 : pm_get lv 2 = some (.ref 77)) (L3 : pm_get lv 3 = some (.int (nJ i))) (K : ∀ h', IVR h' → Ends (pm_tr (lb_all L xs)) (pm_Rt pm_P 100) (2392, lv, [], h', 599897, 7298671) RQ1) : Ends (pm_tr (lb_all L xs)) (pm_Rt pm_P 100) (1246, lv, [], h, 599897, 7298671) RQ1 := by
  refine E_al rfl L1 ?_
  refine E_alr rfl L0 ?_
  refine E_il rfl L3 ?_
  refine E_ci 1 rfl ci1 ?_
  refine E_bin rfl (nJ_add _ _) ?_
  refine E_sld rfl (by first | decide | with_reducible assumption | omega) hL ?_
  refine E_alr rfl L0 ?_
  refine E_il rfl L3 ?_
  refine E_ci 2 rfl ci2 ?_
  refine E_bin rfl (nJ_add _ _) ?_
  refine E_sld rfl (by first | decide | with_reducible assumption | omega) hL ?_
  refine E_call rfl (tR_int (by decide +kernel) (by decide +kernel) I.2 (top_int (as := [.ref 0, .int (xs ((i + 1))), .int (xs ((i + 2)))]) q512 (by decide +kernel) (by decide +kernel) I.1 ⟨rfl, aI _, aI _, trivial⟩)) (chkR (a := 0) I.1.1 rfl rfl rfl rfl (by show 0 ≤ 8; decide)) (fun h1 r1 => ?_)
  rintro ⟨I1, x1, f1⟩
  rw [f1]
  show Ends _ _ (1260, lv, [.int x1], h1, 599897, 7298671) _
  refine E_pop rfl rfl ?_
  refine E_al rfl L2 ?_
  refine E_alr rfl L0 ?_
  refine E_il rfl L3 ?_
  refine E_ci 1 rfl ci1 ?_
  refine E_bin rfl (nJ_add _ _) ?_
  refine E_sld rfl (by first | decide | with_reducible assumption | omega) hL ?_
  refine E_alr rfl L0 ?_
  refine E_il rfl L3 ?_
  refine E_ci 2 rfl ci2 ?_
  refine E_bin rfl (nJ_add _ _) ?_
  refine E_sld rfl (by first | decide | with_reducible assumption | omega) hL ?_
  refine E_call rfl (tR_int (by decide +kernel) (by decide +kernel) I1.2 (top_int (as := [.ref 77, .int (xs ((i + 1))), .int (xs ((i + 2)))]) q515 (by decide +kernel) (by decide +kernel) I1.1 ⟨rfl, aI _, aI _, trivial⟩)) (chkR (a := 77) I1.1.1 rfl rfl rfl rfl (by show 0 ≤ 8; decide)) (fun h2 r2 => ?_)
  rintro ⟨I2, x2, f2⟩
  rw [f2]
  show Ends _ _ (1275, lv, [.int x2], h2, 599897, 7298671) _
  refine E_pop rfl rfl ?_
  refine E_goto rfl ?_
  exact K _ I2
set_option maxRecDepth 20000 in
theorem bl_41 {L : Nat} {xs : Nat → Int32} (hL : L ≤ 3072) {h : pm_H} {i : Nat} (hi : i + 6 ≤ L) (lv : List (Nat × Value)) (I : IVR h) (L0 : pm_get lv 0 = some (.retAddr 0)) (L1 : pm_get lv 1 = some (.ref 0)) (L2 : pm_get lv 2 = some (.ref 77)) (L3 : pm_get lv 3 = some (.int (nJ i))) (K : ∀ h', IVR h' → Ends (pm_tr (lb_all L xs)) (pm_Rt pm_P 100) (2392, lv, [], h', 599897, 7298671) RQ1) : Ends (pm_tr (lb_all L xs)) (pm_Rt pm_P 100) (1279, lv, [], h, 599897, 7298671) RQ1 := by
  refine E_al rfl L1 ?_
  refine E_alr rfl L0 ?_
  refine E_il rfl L3 ?_
  refine E_ci 1 rfl ci1 ?_
  refine E_bin rfl (nJ_add _ _) ?_
  refine E_sld rfl (by first | decide | with_reducible assumption | omega) hL ?_
  refine E_call rfl (tR_int (by decide +kernel) (by decide +kernel) I.2 (top_int (as := [.ref 0, .int (xs ((i + 1)))]) q520 (by decide +kernel) (by decide +kernel) I.1 ⟨rfl, aI _, trivial⟩)) (chkR (a := 0) I.1.1 rfl rfl rfl rfl (by show 0 ≤ 8; decide)) (fun h1 r1 => ?_)
  rintro ⟨I1, x1, f1⟩
  rw [f1]
  show Ends _ _ (1288, lv, [.int x1], h1, 599897, 7298671) _
  refine E_pop rfl rfl ?_
  refine E_al rfl L2 ?_
  refine E_alr rfl L0 ?_
  refine E_il rfl L3 ?_
  refine E_ci 1 rfl ci1 ?_
  refine E_bin rfl (nJ_add _ _) ?_
  refine E_sld rfl (by first | decide | with_reducible assumption | omega) hL ?_
  refine E_call rfl (tR_int (by decide +kernel) (by decide +kernel) I1.2 (top_int (as := [.ref 77, .int (xs ((i + 1)))]) q528 (by decide +kernel) (by decide +kernel) I1.1 ⟨rfl, aI _, trivial⟩)) (chkR (a := 77) I1.1.1 rfl rfl rfl rfl (by show 0 ≤ 8; decide)) (fun h2 r2 => ?_)
  rintro ⟨I2, x2, f2⟩
  rw [f2]
  show Ends _ _ (1298, lv, [.int x2], h2, 599897, 7298671) _
  refine E_pop rfl rfl ?_
  refine E_goto rfl ?_
  exact K _ I2
set_option maxRecDepth 20000 in
theorem bl_42 {L : Nat} {xs : Nat → Int32} (hL : L ≤ 3072) {h : pm_H} {i : Nat} (hi : i + 6 ≤ L) (lv : List (Nat × Value)) (I : IVR h) (L0 : pm_get lv 0 = some (.retAddr 0)) (L1 : pm_get lv 1 = some (.ref 0)) (L2 : pm_get lv 2 = some (.ref 77)) (L3 : pm_get lv 3 = some (.int (nJ i))) (K : ∀ h', IVR h' → Ends (pm_tr (lb_all L xs)) (pm_Rt pm_P 100) (2392, lv, [], h', 599897, 7298671) RQ1) : Ends (pm_tr (lb_all L xs)) (pm_Rt pm_P 100) (1302, lv, [], h, 599897, 7298671) RQ1 := by
  refine E_al rfl L1 ?_
  refine E_alr rfl L0 ?_
  refine E_il rfl L3 ?_
  refine E_ci 1 rfl ci1 ?_
  refine E_bin rfl (nJ_add _ _) ?_
  refine E_sld rfl (by first | decide | with_reducible assumption | omega) hL ?_
  refine E_call rfl (tR_int (by decide +kernel) (by decide +kernel) I.2 (top_int (as := [.ref 0, .int (xs ((i + 1)))]) q530 (by decide +kernel) (by decide +kernel) I.1 ⟨rfl, aI _, trivial⟩)) (chkR (a := 0) I.1.1 rfl rfl rfl rfl (by show 0 ≤ 8; decide)) (fun h1 r1 => ?_)
  rintro ⟨I1, x1, f1⟩
  rw [f1]
  show Ends _ _ (1311, lv, [.int x1], h1, 599897, 7298671) _
  refine E_pop rfl rfl ?_
  refine E_al rfl L2 ?_
  refine E_alr rfl L0 ?_
  refine E_il rfl L3 ?_
  refine E_ci 1 rfl ci1 ?_
  refine E_bin rfl (nJ_add _ _) ?_
  refine E_sld rfl (by first | decide | with_reducible assumption | omega) hL ?_
  refine E_call rfl (tR_int (by decide +kernel) (by decide +kernel) I1.2 (top_int (as := [.ref 77, .int (xs ((i + 1)))]) q533 (by decide +kernel) (by decide +kernel) I1.1 ⟨rfl, aI _, trivial⟩)) (chkR (a := 77) I1.1.1 rfl rfl rfl rfl (by show 0 ≤ 8; decide)) (fun h2 r2 => ?_)
  rintro ⟨I2, x2, f2⟩
  rw [f2]
  show Ends _ _ (1321, lv, [.int x2], h2, 599897, 7298671) _
  refine E_pop rfl rfl ?_
  refine E_goto rfl ?_
  exact K _ I2
set_option maxRecDepth 20000 in
theorem bl_43 {L : Nat} {xs : Nat → Int32} (hL : L ≤ 3072) {h : pm_H} {i : Nat} (hi : i + 6 ≤ L) (lv : List (Nat × Value)) (I : IVR h) (L0 : pm_get lv 0 = some (.retAddr 0)) (L1 : pm_get lv 1 = some (.ref 0)) (L2 : pm_get lv 2 = some (.ref 77)) (L3 : pm_get lv 3 = some (.int (nJ i))) (K : ∀ h', IVR h' → Ends (pm_tr (lb_all L xs)) (pm_Rt pm_P 100) (2392, lv, [], h', 599897, 7298671) RQ1) : Ends (pm_tr (lb_all L xs)) (pm_Rt pm_P 100) (1325, lv, [], h, 599897, 7298671) RQ1 := by
  refine E_al rfl L1 ?_
  refine E_call rfl (tR_int (by decide +kernel) (by decide +kernel) I.2 (top_int (as := [.ref 0]) q534 (by decide +kernel) (by decide +kernel) I.1 ⟨rfl, trivial⟩)) (chkR (a := 0) I.1.1 rfl rfl rfl rfl (by show 0 ≤ 8; decide)) (fun h1 r1 => ?_)
  rintro ⟨I1, x1, f1⟩
  rw [f1]
  show Ends _ _ (1329, lv, [.int x1], h1, 599897, 7298671) _
  refine E_pop rfl rfl ?_
  refine E_al rfl L2 ?_
  refine E_call rfl (tR_int (by decide +kernel) (by decide +kernel) I1.2 (top_int (as := [.ref 77]) q537 (by decide +kernel) (by decide +kernel) I1.1 ⟨rfl, trivial⟩)) (chkR (a := 77) I1.1.1 rfl rfl rfl rfl (by show 0 ≤ 8; decide)) (fun h2 r2 => ?_)
  rintro ⟨I2, x2, f2⟩
  rw [f2]
  show Ends _ _ (1334, lv, [.int x2], h2, 599897, 7298671) _
  refine E_pop rfl rfl ?_
  refine E_goto rfl ?_
  exact K _ I2
set_option maxRecDepth 20000 in
theorem bl_44 {L : Nat} {xs : Nat → Int32} (hL : L ≤ 3072) {h : pm_H} {i : Nat} (hi : i + 6 ≤ L) (lv : List (Nat × Value)) (I : IVR h) (L0 : pm_get lv 0 = some (.retAddr 0)) (L1 : pm_get lv 1 = some (.ref 0)) (L2 : pm_get lv 2 = some (.ref 77)) (L3 : pm_get lv 3 = some (.int (nJ i))) (K : ∀ h', IVR h' → Ends (pm_tr (lb_all L xs)) (pm_Rt pm_P 100) (2392, lv, [], h', 599897, 7298671) RQ1) : Ends (pm_tr (lb_all L xs)) (pm_Rt pm_P 100) (1338, lv, [], h, 599897, 7298671) RQ1 := by
  refine E_al rfl L1 ?_
  refine E_alr rfl L0 ?_
  refine E_il rfl L3 ?_
  refine E_ci 1 rfl ci1 ?_
  refine E_bin rfl (nJ_add _ _) ?_
  refine E_sld rfl (by first | decide | with_reducible assumption | omega) hL ?_
  refine E_call rfl (tR_int (by decide +kernel) (by decide +kernel) I.2 (top_int (as := [.ref 0, .int (xs ((i + 1)))]) q540 (by decide +kernel) (by decide +kernel) I.1 ⟨rfl, aI _, trivial⟩)) (chkR (a := 0) I.1.1 rfl rfl rfl rfl (by show 0 ≤ 8; decide)) (fun h1 r1 => ?_)
  rintro ⟨I1, x1, f1⟩
  rw [f1]
  show Ends _ _ (1347, lv, [.int x1], h1, 599897, 7298671) _
  refine E_pop rfl rfl ?_
  refine E_al rfl L2 ?_
  refine E_alr rfl L0 ?_
  refine E_il rfl L3 ?_
  refine E_ci 1 rfl ci1 ?_
  refine E_bin rfl (nJ_add _ _) ?_
  refine E_sld rfl (by first | decide | with_reducible assumption | omega) hL ?_
  refine E_call rfl (tR_int (by decide +kernel) (by decide +kernel) I1.2 (top_int (as := [.ref 77, .int (xs ((i + 1)))]) q544 (by decide +kernel) (by decide +kernel) I1.1 ⟨rfl, aI _, trivial⟩)) (chkR (a := 77) I1.1.1 rfl rfl rfl rfl (by show 0 ≤ 8; decide)) (fun h2 r2 => ?_)
  rintro ⟨I2, x2, f2⟩
  rw [f2]
  show Ends _ _ (1357, lv, [.int x2], h2, 599897, 7298671) _
  refine E_pop rfl rfl ?_
  refine E_goto rfl ?_
  exact K _ I2
set_option maxRecDepth 20000 in
theorem bl_45 {L : Nat} {xs : Nat → Int32} (hL : L ≤ 3072) {h : pm_H} {i : Nat} (hi : i + 6 ≤ L) (lv : List (Nat × Value)) (I : IVR h) (L0 : pm_get lv 0 = some (.retAddr 0)) (L1 : pm_get lv 1 = some (.ref 0)) (L2 : pm_get lv 2 = some (.ref 77)) (L3 : pm_get lv 3 = some (.int (nJ i))) (K : ∀ h', IVR h' → Ends (pm_tr (lb_all L xs)) (pm_Rt pm_P 100) (2392, lv, [], h', 599897, 7298671) RQ1) : Ends (pm_tr (lb_all L xs)) (pm_Rt pm_P 100) (1361, lv, [], h, 599897, 7298671) RQ1 := by
  refine E_al rfl L1 ?_
  refine E_call rfl (tR_int (by decide +kernel) (by decide +kernel) I.2 (top_int (as := [.ref 0]) q550 (by decide +kernel) (by decide +kernel) I.1 ⟨rfl, trivial⟩)) (chkR (a := 0) I.1.1 rfl rfl rfl rfl (by show 0 ≤ 8; decide)) (fun h1 r1 => ?_)
  rintro ⟨I1, x1, f1⟩
  rw [f1]
  show Ends _ _ (1365, lv, [.int x1], h1, 599897, 7298671) _
  refine E_pop rfl rfl ?_
  refine E_al rfl L2 ?_
  refine E_call rfl (tR_int (by decide +kernel) (by decide +kernel) I1.2 (top_int (as := [.ref 77]) q556 (by decide +kernel) (by decide +kernel) I1.1 ⟨rfl, trivial⟩)) (chkR (a := 77) I1.1.1 rfl rfl rfl rfl (by show 0 ≤ 8; decide)) (fun h2 r2 => ?_)
  rintro ⟨I2, x2, f2⟩
  rw [f2]
  show Ends _ _ (1370, lv, [.int x2], h2, 599897, 7298671) _
  refine E_pop rfl rfl ?_
  refine E_goto rfl ?_
  exact K _ I2
set_option maxRecDepth 20000 in
theorem bl_46 {L : Nat} {xs : Nat → Int32} (hL : L ≤ 3072) {h : pm_H} {i : Nat} (hi : i + 6 ≤ L) (lv : List (Nat × Value)) (I : IVR h) (L0 : pm_get lv 0 = some (.retAddr 0)) (L1 : pm_get lv 1 = some (.ref 0)) (L2 : pm_get lv 2 = some (.ref 77)) (L3 : pm_get lv 3 = some (.int (nJ i))) (K : ∀ h', IVR h' → Ends (pm_tr (lb_all L xs)) (pm_Rt pm_P 100) (2392, lv, [], h', 599897, 7298671) RQ1) : Ends (pm_tr (lb_all L xs)) (pm_Rt pm_P 100) (1374, lv, [], h, 599897, 7298671) RQ1 := by
  refine E_al rfl L1 ?_
  refine E_alr rfl L0 ?_
  refine E_il rfl L3 ?_
  refine E_ci 1 rfl ci1 ?_
  refine E_bin rfl (nJ_add _ _) ?_
  refine E_sld rfl (by first | decide | with_reducible assumption | omega) hL ?_
  refine E_alr rfl L0 ?_
  refine E_il rfl L3 ?_
  refine E_ci 2 rfl ci2 ?_
  refine E_bin rfl (nJ_add _ _) ?_
  refine E_sld rfl (by first | decide | with_reducible assumption | omega) hL ?_
  refine E_call rfl (tR_int (by decide +kernel) (by decide +kernel) I.2 (top_int (as := [.ref 0, .int (xs ((i + 1))), .int (xs ((i + 2)))]) q558 (by decide +kernel) (by decide +kernel) I.1 ⟨rfl, aI _, aI _, trivial⟩)) (chkR (a := 0) I.1.1 rfl rfl rfl rfl (by show 0 ≤ 8; decide)) (fun h1 r1 => ?_)
  rintro ⟨I1, x1, f1⟩
  rw [f1]
  show Ends _ _ (1388, lv, [.int x1], h1, 599897, 7298671) _
  refine E_pop rfl rfl ?_
  refine E_al rfl L2 ?_
  refine E_alr rfl L0 ?_
  refine E_il rfl L3 ?_
  refine E_ci 1 rfl ci1 ?_
  refine E_bin rfl (nJ_add _ _) ?_
  refine E_sld rfl (by first | decide | with_reducible assumption | omega) hL ?_
  refine E_alr rfl L0 ?_
  refine E_il rfl L3 ?_
  refine E_ci 2 rfl ci2 ?_
  refine E_bin rfl (nJ_add _ _) ?_
  refine E_sld rfl (by first | decide | with_reducible assumption | omega) hL ?_
  refine E_call rfl (tR_int (by decide +kernel) (by decide +kernel) I1.2 (top_int (as := [.ref 77, .int (xs ((i + 1))), .int (xs ((i + 2)))]) q564 (by decide +kernel) (by decide +kernel) I1.1 ⟨rfl, aI _, aI _, trivial⟩)) (chkR (a := 77) I1.1.1 rfl rfl rfl rfl (by show 0 ≤ 8; decide)) (fun h2 r2 => ?_)
  rintro ⟨I2, x2, f2⟩
  rw [f2]
  show Ends _ _ (1403, lv, [.int x2], h2, 599897, 7298671) _
  refine E_pop rfl rfl ?_
  refine E_goto rfl ?_
  exact K _ I2
set_option maxRecDepth 20000 in
theorem bl_47 {L : Nat} {xs : Nat → Int32} (hL : L ≤ 3072) {h : pm_H} {i : Nat} (hi : i + 6 ≤ L) (lv : List (Nat × Value)) (I : IVR h) (L0 : pm_get lv 0 = some (.retAddr 0)) (L1 : pm_get lv 1 = some (.ref 0)) (L2 : pm_get lv 2 = some (.ref 77)) (L3 : pm_get lv 3 = some (.int (nJ i))) (K : ∀ h', IVR h' → Ends (pm_tr (lb_all L xs)) (pm_Rt pm_P 100) (2392, lv, [], h', 599897, 7298671) RQ1) : Ends (pm_tr (lb_all L xs)) (pm_Rt pm_P 100) (1407, lv, [], h, 599897, 7298671) RQ1 := by
  refine E_al rfl L1 ?_
  refine E_alr rfl L0 ?_
  refine E_il rfl L3 ?_
  refine E_ci 1 rfl ci1 ?_
  refine E_bin rfl (nJ_add _ _) ?_
  refine E_sld rfl (by first | decide | with_reducible assumption | omega) hL ?_
  refine E_alr rfl L0 ?_
  refine E_il rfl L3 ?_
  refine E_ci 2 rfl ci2 ?_
  refine E_bin rfl (nJ_add _ _) ?_
  refine E_sld rfl (by first | decide | with_reducible assumption | omega) hL ?_
  refine E_call rfl (tR_int (by decide +kernel) (by decide +kernel) I.2 (top_int (as := [.ref 0, .int (xs ((i + 1))), .int (xs ((i + 2)))]) q566 (by decide +kernel) (by decide +kernel) I.1 ⟨rfl, aI _, aI _, trivial⟩)) (chkR (a := 0) I.1.1 rfl rfl rfl rfl (by show 0 ≤ 8; decide)) (fun h1 r1 => ?_)
  rintro ⟨I1, x1, f1⟩
  rw [f1]
  show Ends _ _ (1421, lv, [.int x1], h1, 599897, 7298671) _
  refine E_pop rfl rfl ?_
  refine E_al rfl L2 ?_
  refine E_alr rfl L0 ?_
  refine E_il rfl L3 ?_
  refine E_ci 1 rfl ci1 ?_
  refine E_bin rfl (nJ_add _ _) ?_
  refine E_sld rfl (by first | decide | with_reducible assumption | omega) hL ?_
  refine E_alr rfl L0 ?_
  refine E_il rfl L3 ?_
  refine E_ci 2 rfl ci2 ?_
  refine E_bin rfl (nJ_add _ _) ?_
  refine E_sld rfl (by first | decide | with_reducible assumption | omega) hL ?_
  refine E_call rfl (tR_int (by decide +kernel) (by decide +kernel) I1.2 (top_int (as := [.ref 77, .int (xs ((i + 1))), .int (xs ((i + 2)))]) q568 (by decide +kernel) (by decide +kernel) I1.1 ⟨rfl, aI _, aI _, trivial⟩)) (chkR (a := 77) I1.1.1 rfl rfl rfl rfl (by show 0 ≤ 8; decide)) (fun h2 r2 => ?_)
  rintro ⟨I2, x2, f2⟩
  rw [f2]
  show Ends _ _ (1436, lv, [.int x2], h2, 599897, 7298671) _
  refine E_pop rfl rfl ?_
  refine E_goto rfl ?_
  exact K _ I2
set_option maxRecDepth 20000 in
theorem bl_48 {L : Nat} {xs : Nat → Int32} (hL : L ≤ 3072) {h : pm_H} {i : Nat} (hi : i + 6 ≤ L) (lv : List (Nat × Value)) (I : IVR h) (L0 : pm_get lv 0 = some (.retAddr 0)) (L1 : pm_get lv 1 = some (.ref 0)) (L2 : pm_get lv 2 = some (.ref 77)) (L3 : pm_get lv 3 = some (.int (nJ i))) (K : ∀ h', IVR h' → Ends (pm_tr (lb_all L xs)) (pm_Rt pm_P 100) (2392, lv, [], h', 599897, 7298671) RQ1) : Ends (pm_tr (lb_all L xs)) (pm_Rt pm_P 100) (1440, lv, [], h, 599897, 7298671) RQ1 := by
  refine E_al rfl L1 ?_
  refine E_call rfl (tR_int (by decide +kernel) (by decide +kernel) I.2 (top_int (as := [.ref 0]) q576 (by decide +kernel) (by decide +kernel) I.1 ⟨rfl, trivial⟩)) (chkR (a := 0) I.1.1 rfl rfl rfl rfl (by show 0 ≤ 8; decide)) (fun h1 r1 => ?_)
  rintro ⟨I1, x1, f1⟩
  rw [f1]
  show Ends _ _ (1444, lv, [.int x1], h1, 599897, 7298671) _
  refine E_pop rfl rfl ?_
  refine E_al rfl L2 ?_
  refine E_call rfl (tR_int (by decide +kernel) (by decide +kernel) I1.2 (top_int (as := [.ref 77]) q577 (by decide +kernel) (by decide +kernel) I1.1 ⟨rfl, trivial⟩)) (chkR (a := 77) I1.1.1 rfl rfl rfl rfl (by show 0 ≤ 8; decide)) (fun h2 r2 => ?_)
  rintro ⟨I2, x2, f2⟩
  rw [f2]
  show Ends _ _ (1449, lv, [.int x2], h2, 599897, 7298671) _
  refine E_pop rfl rfl ?_
  refine E_goto rfl ?_
  exact K _ I2
set_option maxRecDepth 20000 in
theorem bl_49 {L : Nat} {xs : Nat → Int32} (hL : L ≤ 3072) {h : pm_H} {i : Nat} (hi : i + 6 ≤ L) (lv : List (Nat × Value)) (I : IVR h) (L0 : pm_get lv 0 = some (.retAddr 0)) (L1 : pm_get lv 1 = some (.ref 0)) (L2 : pm_get lv 2 = some (.ref 77)) (L3 : pm_get lv 3 = some (.int (nJ i))) (K : ∀ h', IVR h' → Ends (pm_tr (lb_all L xs)) (pm_Rt pm_P 100) (2392, lv, [], h', 599897, 7298671) RQ1) : Ends (pm_tr (lb_all L xs)) (pm_Rt pm_P 100) (1453, lv, [], h, 599897, 7298671) RQ1 := by
  refine E_al rfl L1 ?_
  refine E_alr rfl L0 ?_
  refine E_il rfl L3 ?_
  refine E_ci 1 rfl ci1 ?_
  refine E_bin rfl (nJ_add _ _) ?_
  refine E_sld rfl (by first | decide | with_reducible assumption | omega) hL ?_
  refine E_call rfl (tR_int (by decide +kernel) (by decide +kernel) I.2 (top_int (as := [.ref 0, .int (xs ((i + 1)))]) q580 (by decide +kernel) (by decide +kernel) I.1 ⟨rfl, aI _, trivial⟩)) (chkR (a := 0) I.1.1 rfl rfl rfl rfl (by show 0 ≤ 8; decide)) (fun h1 r1 => ?_)
  rintro ⟨I1, x1, f1⟩
  rw [f1]
  show Ends _ _ (1462, lv, [.int x1], h1, 599897, 7298671) _
  refine E_pop rfl rfl ?_
  refine E_al rfl L2 ?_
  refine E_alr rfl L0 ?_
  refine E_il rfl L3 ?_
  refine E_ci 1 rfl ci1 ?_
  refine E_bin rfl (nJ_add _ _) ?_
  refine E_sld rfl (by first | decide | with_reducible assumption | omega) hL ?_
  refine E_call rfl (tR_int (by decide +kernel) (by decide +kernel) I1.2 (top_int (as := [.ref 77, .int (xs ((i + 1)))]) q585 (by decide +kernel) (by decide +kernel) I1.1 ⟨rfl, aI _, trivial⟩)) (chkR (a := 77) I1.1.1 rfl rfl rfl rfl (by show 0 ≤ 8; decide)) (fun h2 r2 => ?_)
  rintro ⟨I2, x2, f2⟩
  rw [f2]
  show Ends _ _ (1472, lv, [.int x2], h2, 599897, 7298671) _
  refine E_pop rfl rfl ?_
  refine E_goto rfl ?_
  exact K _ I2
set_option maxRecDepth 20000 in
theorem bl_50 {L : Nat} {xs : Nat → Int32} (hL : L ≤ 3072) {h : pm_H} {i : Nat} (hi : i + 6 ≤ L) (lv : List (Nat × Value)) (I : IVR h) (L0 : pm_get lv 0 = some (.retAddr 0)) (L1 : pm_get lv 1 = some (.ref 0)) (L2 : pm_get lv 2 = some (.ref 77)) (L3 : pm_get lv 3 = some (.int (nJ i))) (K : ∀ h', IVR h' → Ends (pm_tr (lb_all L xs)) (pm_Rt pm_P 100) (2392, lv, [], h', 599897, 7298671) RQ1) : Ends (pm_tr (lb_all L xs)) (pm_Rt pm_P 100) (1476, lv, [], h, 599897, 7298671) RQ1 := by
  refine E_al rfl L1 ?_
  refine E_alr rfl L0 ?_
  refine E_il rfl L3 ?_
  refine E_ci 1 rfl ci1 ?_
  refine E_bin rfl (nJ_add _ _) ?_
  refine E_sld rfl (by first | decide | with_reducible assumption | omega) hL ?_
  refine E_alr rfl L0 ?_
  refine E_il rfl L3 ?_
  refine E_ci 2 rfl ci2 ?_
  refine E_bin rfl (nJ_add _ _) ?_
  refine E_sld rfl (by first | decide | with_reducible assumption | omega) hL ?_
  refine E_call rfl (tR_int (by decide +kernel) (by decide +kernel) I.2 (top_int (as := [.ref 0, .int (xs ((i + 1))), .int (xs ((i + 2)))]) q593 (by decide +kernel) (by decide +kernel) I.1 ⟨rfl, aI _, aI _, trivial⟩)) (chkR (a := 0) I.1.1 rfl rfl rfl rfl (by show 0 ≤ 8; decide)) (fun h1 r1 => ?_)
  rintro ⟨I1, x1, f1⟩
  rw [f1]
  show Ends _ _ (1490, lv, [.int x1], h1, 599897, 7298671) _
  refine E_pop rfl rfl ?_
  refine E_al rfl L2 ?_
  refine E_alr rfl L0 ?_
  refine E_il rfl L3 ?_
  refine E_ci 1 rfl ci1 ?_
  refine E_bin rfl (nJ_add _ _) ?_
  refine E_sld rfl (by first | decide | with_reducible assumption | omega) hL ?_
  refine E_alr rfl L0 ?_
  refine E_il rfl L3 ?_
  refine E_ci 2 rfl ci2 ?_
  refine E_bin rfl (nJ_add _ _) ?_
  refine E_sld rfl (by first | decide | with_reducible assumption | omega) hL ?_
  refine E_call rfl (tR_int (by decide +kernel) (by decide +kernel) I1.2 (top_int (as := [.ref 77, .int (xs ((i + 1))), .int (xs ((i + 2)))]) q595 (by decide +kernel) (by decide +kernel) I1.1 ⟨rfl, aI _, aI _, trivial⟩)) (chkR (a := 77) I1.1.1 rfl rfl rfl rfl (by show 0 ≤ 8; decide)) (fun h2 r2 => ?_)
  rintro ⟨I2, x2, f2⟩
  rw [f2]
  show Ends _ _ (1505, lv, [.int x2], h2, 599897, 7298671) _
  refine E_pop rfl rfl ?_
  refine E_goto rfl ?_
  exact K _ I2
set_option maxRecDepth 20000 in
theorem bl_51 {L : Nat} {xs : Nat → Int32} (hL : L ≤ 3072) {h : pm_H} {i : Nat} (hi : i + 6 ≤ L) (lv : List (Nat × Value)) (I : IVR h) (L0 : pm_get lv 0 = some (.retAddr 0)) (L1 : pm_get lv 1 = some (.ref 0)) (L2 : pm_get lv 2 = some (.ref 77)) (L3 : pm_get lv 3 = some (.int (nJ i))) (K : ∀ h', IVR h' → Ends (pm_tr (lb_all L xs)) (pm_Rt pm_P 100) (2392, lv, [], h', 599897, 7298671) RQ1) : Ends (pm_tr (lb_all L xs)) (pm_Rt pm_P 100) (1509, lv, [], h, 599897, 7298671) RQ1 := by
  refine E_al rfl L1 ?_
  refine E_call rfl (tR_int (by decide +kernel) (by decide +kernel) I.2 (top_int (as := [.ref 0]) q599 (by decide +kernel) (by decide +kernel) I.1 ⟨rfl, trivial⟩)) (chkR (a := 0) I.1.1 rfl rfl rfl rfl (by show 0 ≤ 8; decide)) (fun h1 r1 => ?_)
  rintro ⟨I1, x1, f1⟩
  rw [f1]
  show Ends _ _ (1513, lv, [.int x1], h1, 599897, 7298671) _
  refine E_pop rfl rfl ?_
  refine E_al rfl L2 ?_
  refine E_call rfl (tR_int (by decide +kernel) (by decide +kernel) I1.2 (top_int (as := [.ref 77]) q602 (by decide +kernel) (by decide +kernel) I1.1 ⟨rfl, trivial⟩)) (chkR (a := 77) I1.1.1 rfl rfl rfl rfl (by show 0 ≤ 8; decide)) (fun h2 r2 => ?_)
  rintro ⟨I2, x2, f2⟩
  rw [f2]
  show Ends _ _ (1518, lv, [.int x2], h2, 599897, 7298671) _
  refine E_pop rfl rfl ?_
  refine E_goto rfl ?_
  exact K _ I2
set_option maxRecDepth 20000 in
theorem bl_52 {L : Nat} {xs : Nat → Int32} (hL : L ≤ 3072) {h : pm_H} {i : Nat} (hi : i + 6 ≤ L) (lv : List (Nat × Value)) (I : IVR h) (L0 : pm_get lv 0 = some (.retAddr 0)) (L1 : pm_get lv 1 = some (.ref 0)) (L2 : pm_get lv 2 = some (.ref 77)) (L3 : pm_get lv 3 = some (.int (nJ i))) (K : ∀ h', IVR h' → Ends (pm_tr (lb_all L xs)) (pm_Rt pm_P 100) (2392, lv, [], h', 599897, 7298671) RQ1) : Ends (pm_tr (lb_all L xs)) (pm_Rt pm_P 100) (1522, lv, [], h, 599897, 7298671) RQ1 := by
  refine E_al rfl L1 ?_
  refine E_call rfl (tR_int (by decide +kernel) (by decide +kernel) I.2 (top_int (as := [.ref 0]) q603 (by decide +kernel) (by decide +kernel) I.1 ⟨rfl, trivial⟩)) (chkR (a := 0) I.1.1 rfl rfl rfl rfl (by show 0 ≤ 8; decide)) (fun h1 r1 => ?_)
  rintro ⟨I1, x1, f1⟩
  rw [f1]
  show Ends _ _ (1526, lv, [.int x1], h1, 599897, 7298671) _
  refine E_pop rfl rfl ?_
  refine E_al rfl L2 ?_
  refine E_call rfl (tR_int (by decide +kernel) (by decide +kernel) I1.2 (top_int (as := [.ref 77]) q604 (by decide +kernel) (by decide +kernel) I1.1 ⟨rfl, trivial⟩)) (chkR (a := 77) I1.1.1 rfl rfl rfl rfl (by show 0 ≤ 8; decide)) (fun h2 r2 => ?_)
  rintro ⟨I2, x2, f2⟩
  rw [f2]
  show Ends _ _ (1531, lv, [.int x2], h2, 599897, 7298671) _
  refine E_pop rfl rfl ?_
  refine E_goto rfl ?_
  exact K _ I2
set_option maxRecDepth 20000 in
theorem bl_53 {L : Nat} {xs : Nat → Int32} (hL : L ≤ 3072) {h : pm_H} {i : Nat} (hi : i + 6 ≤ L) (lv : List (Nat × Value)) (I : IVR h) (L0 : pm_get lv 0 = some (.retAddr 0)) (L1 : pm_get lv 1 = some (.ref 0)) (L2 : pm_get lv 2 = some (.ref 77)) (L3 : pm_get lv 3 = some (.int (nJ i))) (K : ∀ h', IVR h' → Ends (pm_tr (lb_all L xs)) (pm_Rt pm_P 100) (2392, lv, [], h', 599897, 7298671) RQ1) : Ends (pm_tr (lb_all L xs)) (pm_Rt pm_P 100) (1535, lv, [], h, 599897, 7298671) RQ1 := by
  refine E_al rfl L1 ?_
  refine E_call rfl (tR_int (by decide +kernel) (by decide +kernel) I.2 (top_int (as := [.ref 0]) q605 (by decide +kernel) (by decide +kernel) I.1 ⟨rfl, trivial⟩)) (chkR (a := 0) I.1.1 rfl rfl rfl rfl (by show 0 ≤ 8; decide)) (fun h1 r1 => ?_)
  rintro ⟨I1, x1, f1⟩
  rw [f1]
  show Ends _ _ (1539, lv, [.int x1], h1, 599897, 7298671) _
  refine E_pop rfl rfl ?_
  refine E_al rfl L2 ?_
  refine E_call rfl (tR_int (by decide +kernel) (by decide +kernel) I1.2 (top_int (as := [.ref 77]) q606 (by decide +kernel) (by decide +kernel) I1.1 ⟨rfl, trivial⟩)) (chkR (a := 77) I1.1.1 rfl rfl rfl rfl (by show 0 ≤ 8; decide)) (fun h2 r2 => ?_)
  rintro ⟨I2, x2, f2⟩
  rw [f2]
  show Ends _ _ (1544, lv, [.int x2], h2, 599897, 7298671) _
  refine E_pop rfl rfl ?_
  refine E_goto rfl ?_
  exact K _ I2
set_option maxRecDepth 20000 in
theorem bl_54 {L : Nat} {xs : Nat → Int32} (hL : L ≤ 3072) {h : pm_H} {i : Nat} (hi : i + 6 ≤ L) (lv : List (Nat × Value)) (I : IVR h) (L0 : pm_get lv 0 = some (.retAddr 0)) (L1 : pm_get lv 1 = some (.ref 0)) (L2 : pm_get lv 2 = some (.ref 77)) (L3 : pm_get lv 3 = some (.int (nJ i))) (K : ∀ h', IVR h' → Ends (pm_tr (lb_all L xs)) (pm_Rt pm_P 100) (2392, lv, [], h', 599897, 7298671) RQ1) : Ends (pm_tr (lb_all L xs)) (pm_Rt pm_P 100) (1548, lv, [], h, 599897, 7298671) RQ1 := by
  refine E_al rfl L1 ?_
  refine E_call rfl (tR_int (by decide +kernel) (by decide +kernel) I.2 (top_int (as := [.ref 0]) q615 (by decide +kernel) (by decide +kernel) I.1 ⟨rfl, trivial⟩)) (chkR (a := 0) I.1.1 rfl rfl rfl rfl (by show 0 ≤ 8; decide)) (fun h1 r1 => ?_)
  rintro ⟨I1, x1, f1⟩
  rw [f1]
  show Ends _ _ (1552, lv, [.int x1], h1, 599897, 7298671) _
  refine E_pop rfl rfl ?_
  refine E_al rfl L2 ?_
  refine E_call rfl (tR_int (by decide +kernel) (by decide +kernel) I1.2 (top_int (as := [.ref 77]) q619 (by decide +kernel) (by decide +kernel) I1.1 ⟨rfl, trivial⟩)) (chkR (a := 77) I1.1.1 rfl rfl rfl rfl (by show 0 ≤ 8; decide)) (fun h2 r2 => ?_)
  rintro ⟨I2, x2, f2⟩
  rw [f2]
  show Ends _ _ (1557, lv, [.int x2], h2, 599897, 7298671) _
  refine E_pop rfl rfl ?_
  refine E_goto rfl ?_
  exact K _ I2
set_option maxRecDepth 20000 in
theorem bl_55 {L : Nat} {xs : Nat → Int32} (hL : L ≤ 3072) {h : pm_H} {i : Nat} (hi : i + 6 ≤ L) (lv : List (Nat × Value)) (I : IVR h) (L0 : pm_get lv 0 = some (.retAddr 0)) (L1 : pm_get lv 1 = some (.ref 0)) (L2 : pm_get lv 2 = some (.ref 77)) (L3 : pm_get lv 3 = some (.int (nJ i))) (K : ∀ h', IVR h' → Ends (pm_tr (lb_all L xs)) (pm_Rt pm_P 100) (2392, lv, [], h', 599897, 7298671) RQ1) : Ends (pm_tr (lb_all L xs)) (pm_Rt pm_P 100) (1561, lv, [], h, 599897, 7298671) RQ1 := by
  refine E_al rfl L1 ?_
  refine E_call rfl (tR_int (by decide +kernel) (by decide +kernel) I.2 (top_int (as := [.ref 0]) q621 (by decide +kernel) (by decide +kernel) I.1 ⟨rfl, trivial⟩)) (chkR (a := 0) I.1.1 rfl rfl rfl rfl (by show 0 ≤ 8; decide)) (fun h1 r1 => ?_)
  rintro ⟨I1, x1, f1⟩
  rw [f1]
  show Ends _ _ (1565, lv, [.int x1], h1, 599897, 7298671) _
  refine E_pop rfl rfl ?_
  refine E_al rfl L2 ?_
  refine E_call rfl (tR_int (by decide +kernel) (by decide +kernel) I1.2 (top_int (as := [.ref 77]) q623 (by decide +kernel) (by decide +kernel) I1.1 ⟨rfl, trivial⟩)) (chkR (a := 77) I1.1.1 rfl rfl rfl rfl (by show 0 ≤ 8; decide)) (fun h2 r2 => ?_)
  rintro ⟨I2, x2, f2⟩
  rw [f2]
  show Ends _ _ (1570, lv, [.int x2], h2, 599897, 7298671) _
  refine E_pop rfl rfl ?_
  refine E_goto rfl ?_
  exact K _ I2
set_option maxRecDepth 20000 in
theorem bl_56 {L : Nat} {xs : Nat → Int32} (hL : L ≤ 3072) {h : pm_H} {i : Nat} (hi : i + 6 ≤ L) (lv : List (Nat × Value)) (I : IVR h) (L0 : pm_get lv 0 = some (.retAddr 0)) (L1 : pm_get lv 1 = some (.ref 0)) (L2 : pm_get lv 2 = some (.ref 77)) (L3 : pm_get lv 3 = some (.int (nJ i))) (K : ∀ h', IVR h' → Ends (pm_tr (lb_all L xs)) (pm_Rt pm_P 100) (2392, lv, [], h', 599897, 7298671) RQ1) : Ends (pm_tr (lb_all L xs)) (pm_Rt pm_P 100) (1574, lv, [], h, 599897, 7298671) RQ1 := by
  refine E_al rfl L1 ?_
  refine E_call rfl (tR_int (by decide +kernel) (by decide +kernel) I.2 (top_int (as := [.ref 0]) q626 (by decide +kernel) (by decide +kernel) I.1 ⟨rfl, trivial⟩)) (chkR (a := 0) I.1.1 rfl rfl rfl rfl (by show 0 ≤ 8; decide)) (fun h1 r1 => ?_)
  rintro ⟨I1, x1, f1⟩
  rw [f1]
  show Ends _ _ (1578, lv, [.int x1], h1, 599897, 7298671) _
  refine E_pop rfl rfl ?_
  refine E_al rfl L2 ?_
  refine E_call rfl (tR_int (by decide +kernel) (by decide +kernel) I1.2 (top_int (as := [.ref 77]) q627 (by decide +kernel) (by decide +kernel) I1.1 ⟨rfl, trivial⟩)) (chkR (a := 77) I1.1.1 rfl rfl rfl rfl (by show 0 ≤ 8; decide)) (fun h2 r2 => ?_)
  rintro ⟨I2, x2, f2⟩
  rw [f2]
  show Ends _ _ (1583, lv, [.int x2], h2, 599897, 7298671) _
  refine E_pop rfl rfl ?_
  refine E_goto rfl ?_
  exact K _ I2
set_option maxRecDepth 20000 in
theorem bl_57 {L : Nat} {xs : Nat → Int32} (hL : L ≤ 3072) {h : pm_H} {i : Nat} (hi : i + 6 ≤ L) (lv : List (Nat × Value)) (I : IVR h) (L0 : pm_get lv 0 = some (.retAddr 0)) (L1 : pm_get lv 1 = some (.ref 0)) (L2 : pm_get lv 2 = some (.ref 77)) (L3 : pm_get lv 3 = some (.int (nJ i))) (K : ∀ h', IVR h' → Ends (pm_tr (lb_all L xs)) (pm_Rt pm_P 100) (2392, lv, [], h', 599897, 7298671) RQ1) : Ends (pm_tr (lb_all L xs)) (pm_Rt pm_P 100) (1587, lv, [], h, 599897, 7298671) RQ1 := by
  refine E_al rfl L1 ?_
  refine E_alr rfl L0 ?_
  refine E_il rfl L3 ?_
  refine E_ci 1 rfl ci1 ?_
  refine E_bin rfl (nJ_add _ _) ?_
  refine E_sld rfl (by first | decide | with_reducible assumption | omega) hL ?_
  refine E_alr rfl L0 ?_
  refine E_il rfl L3 ?_
  refine E_ci 2 rfl ci2 ?_
  refine E_bin rfl (nJ_add _ _) ?_
  refine E_sld rfl (by first | decide | with_reducible assumption | omega) hL ?_
  refine E_call rfl (tR_int (by decide +kernel) (by decide +kernel) I.2 (top_int (as := [.ref 0, .int (xs ((i + 1))), .int (xs ((i + 2)))]) q638 (by decide +kernel) (by decide +kernel) I.1 ⟨rfl, aI _, aI _, trivial⟩)) (chkR (a := 0) I.1.1 rfl rfl rfl rfl (by show 0 ≤ 8; decide)) (fun h1 r1 => ?_)
  rintro ⟨I1, x1, f1⟩
  rw [f1]
  show Ends _ _ (1601, lv, [.int x1], h1, 599897, 7298671) _
  refine E_pop rfl rfl ?_
  refine E_al rfl L2 ?_
  refine E_alr rfl L0 ?_
  refine E_il rfl L3 ?_
  refine E_ci 1 rfl ci1 ?_
  refine E_bin rfl (nJ_add _ _) ?_
  refine E_sld rfl (by first | decide | with_reducible assumption | omega) hL ?_
  refine E_alr rfl L0 ?_
  refine E_il rfl L3 ?_
  refine E_ci 2 rfl ci2 ?_
  refine E_bin rfl (nJ_add _ _) ?_
  refine E_sld rfl (by first | decide | with_reducible assumption | omega) hL ?_
  refine E_call rfl (tR_int (by decide +kernel) (by decide +kernel) I1.2 (top_int (as := [.ref 77, .int (xs ((i + 1))), .int (xs ((i + 2)))]) q656 (by decide +kernel) (by decide +kernel) I1.1 ⟨rfl, aI _, aI _, trivial⟩)) (chkR (a := 77) I1.1.1 rfl rfl rfl rfl (by show 0 ≤ 8; decide)) (fun h2 r2 => ?_)
  rintro ⟨I2, x2, f2⟩
  rw [f2]
  show Ends _ _ (1616, lv, [.int x2], h2, 599897, 7298671) _
  refine E_pop rfl rfl ?_
  refine E_goto rfl ?_
  exact K _ I2
set_option maxRecDepth 20000 in
theorem bl_58 {L : Nat} {xs : Nat → Int32} (hL : L ≤ 3072) {h : pm_H} {i : Nat} (hi : i + 6 ≤ L) (lv : List (Nat × Value)) (I : IVR h) (L0 : pm_get lv 0 = some (.retAddr 0)) (L1 : pm_get lv 1 = some (.ref 0)) (L2 : pm_get lv 2 = some (.ref 77)) (L3 : pm_get lv 3 = some (.int (nJ i))) (K : ∀ h', IVR h' → Ends (pm_tr (lb_all L xs)) (pm_Rt pm_P 100) (2392, lv, [], h', 599897, 7298671) RQ1) : Ends (pm_tr (lb_all L xs)) (pm_Rt pm_P 100) (1620, lv, [], h, 599897, 7298671) RQ1 := by
  refine E_al rfl L1 ?_
  refine E_alr rfl L0 ?_
  refine E_il rfl L3 ?_
  refine E_ci 1 rfl ci1 ?_
  refine E_bin rfl (nJ_add _ _) ?_
  refine E_sld rfl (by first | decide | with_reducible assumption | omega) hL ?_
  refine E_alr rfl L0 ?_
  refine E_il rfl L3 ?_
  refine E_ci 2 rfl ci2 ?_
  refine E_bin rfl (nJ_add _ _) ?_
  refine E_sld rfl (by first | decide | with_reducible assumption | omega) hL ?_
  refine E_call rfl (tR_int (by decide +kernel) (by decide +kernel) I.2 (top_int (as := [.ref 0, .int (xs ((i + 1))), .int (xs ((i + 2)))]) q661 (by decide +kernel) (by decide +kernel) I.1 ⟨rfl, aI _, aI _, trivial⟩)) (chkR (a := 0) I.1.1 rfl rfl rfl rfl (by show 0 ≤ 8; decide)) (fun h1 r1 => ?_)
  rintro ⟨I1, x1, f1⟩
  rw [f1]
  show Ends _ _ (1634, lv, [.int x1], h1, 599897, 7298671) _
  refine E_pop rfl rfl ?_
  refine E_al rfl L2 ?_
  refine E_alr rfl L0 ?_
  refine E_il rfl L3 ?_
  refine E_ci 1 rfl ci1 ?_
  refine E_bin rfl (nJ_add _ _) ?_
  refine E_sld rfl (by first | decide | with_reducible assumption | omega) hL ?_
  refine E_alr rfl L0 ?_
  refine E_il rfl L3 ?_
  refine E_ci 2 rfl ci2 ?_
  refine E_bin rfl (nJ_add _ _) ?_
  refine E_sld rfl (by first | decide | with_reducible assumption | omega) hL ?_
  refine E_call rfl (tR_int (by decide +kernel) (by decide +kernel) I1.2 (top_int (as := [.ref 77, .int (xs ((i + 1))), .int (xs ((i + 2)))]) q662 (by decide +kernel) (by decide +kernel) I1.1 ⟨rfl, aI _, aI _, trivial⟩)) (chkR (a := 77) I1.1.1 rfl rfl rfl rfl (by show 0 ≤ 8; decide)) (fun h2 r2 => ?_)
  rintro ⟨I2, x2, f2⟩
  rw [f2]
  show Ends _ _ (1649, lv, [.int x2], h2, 599897, 7298671) _
  refine E_pop rfl rfl ?_
  refine E_goto rfl ?_
  exact K _ I2
set_option maxRecDepth 20000 in
theorem bl_59 {L : Nat} {xs : Nat → Int32} (hL : L ≤ 3072) {h : pm_H} {i : Nat} (hi : i + 6 ≤ L) (lv : List (Nat × Value)) (I : IVR h) (L0 : pm_get lv 0 = some (.retAddr 0)) (L1 : pm_get lv 1 = some (.ref 0)) (L2 : pm_get lv 2 = some (.ref 77)) (L3 : pm_get lv 3 = some (.int (nJ i))) (K : ∀ h', IVR h' → Ends (pm_tr (lb_all L xs)) (pm_Rt pm_P 100) (2392, lv, [], h', 599897, 7298671) RQ1) : Ends (pm_tr (lb_all L xs)) (pm_Rt pm_P 100) (1653, lv, [], h, 599897, 7298671) RQ1 := by
  refine E_al rfl L1 ?_
  refine E_alr rfl L0 ?_
  refine E_il rfl L3 ?_
  refine E_ci 1 rfl ci1 ?_
  refine E_bin rfl (nJ_add _ _) ?_
  refine E_sld rfl (by first | decide | with_reducible assumption | omega) hL ?_
  refine E_alr rfl L0 ?_
  refine E_il rfl L3 ?_
  refine E_ci 2 rfl ci2 ?_
  refine E_bin rfl (nJ_add _ _) ?_
  refine E_sld rfl (by first | decide | with_reducible assumption | omega) hL ?_
  refine E_call rfl (tR_int (by decide +kernel) (by decide +kernel) I.2 (top_int (as := [.ref 0, .int (xs ((i + 1))), .int (xs ((i + 2)))]) q664 (by decide +kernel) (by decide +kernel) I.1 ⟨rfl, aI _, aI _, trivial⟩)) (chkR (a := 0) I.1.1 rfl rfl rfl rfl (by show 0 ≤ 8; decide)) (fun h1 r1 => ?_)
  rintro ⟨I1, x1, f1⟩
  rw [f1]
  show Ends _ _ (1667, lv, [.int x1], h1, 599897, 7298671) _
  refine E_pop rfl rfl ?_
  refine E_al rfl L2 ?_
  refine E_alr rfl L0 ?_
  refine E_il rfl L3 ?_
  refine E_ci 1 rfl ci1 ?_
  refine E_bin rfl (nJ_add _ _) ?_
  refine E_sld rfl (by first | decide | with_reducible assumption | omega) hL ?_
  refine E_alr rfl L0 ?_
  refine E_il rfl L3 ?_
  refine E_ci 2 rfl ci2 ?_
  refine E_bin rfl (nJ_add _ _) ?_
  refine E_sld rfl (by first | decide | with_reducible assumption | omega) hL ?_
  refine E_call rfl (tR_int (by decide +kernel) (by decide +kernel) I1.2 (top_int (as := [.ref 77, .int (xs ((i + 1))), .int (xs ((i + 2)))]) q665 (by decide +kernel) (by decide +kernel) I1.1 ⟨rfl, aI _, aI _, trivial⟩)) (chkR (a := 77) I1.1.1 rfl rfl rfl rfl (by show 0 ≤ 8; decide)) (fun h2 r2 => ?_)
  rintro ⟨I2, x2, f2⟩
  rw [f2]
  show Ends _ _ (1682, lv, [.int x2], h2, 599897, 7298671) _
  refine E_pop rfl rfl ?_
  refine E_goto rfl ?_
  exact K _ I2
set_option maxRecDepth 20000 in
theorem bl_60 {L : Nat} {xs : Nat → Int32} (hL : L ≤ 3072) {h : pm_H} {i : Nat} (hi : i + 6 ≤ L) (lv : List (Nat × Value)) (I : IVR h) (L0 : pm_get lv 0 = some (.retAddr 0)) (L1 : pm_get lv 1 = some (.ref 0)) (L2 : pm_get lv 2 = some (.ref 77)) (L3 : pm_get lv 3 = some (.int (nJ i))) (K : ∀ h', IVR h' → Ends (pm_tr (lb_all L xs)) (pm_Rt pm_P 100) (2392, lv, [], h', 599897, 7298671) RQ1) : Ends (pm_tr (lb_all L xs)) (pm_Rt pm_P 100) (1686, lv, [], h, 599897, 7298671) RQ1 := by
  refine E_al rfl L1 ?_
  refine E_alr rfl L0 ?_
  refine E_il rfl L3 ?_
  refine E_ci 1 rfl ci1 ?_
  refine E_bin rfl (nJ_add _ _) ?_
  refine E_sld rfl (by first | decide | with_reducible assumption | omega) hL ?_
  refine E_call rfl (tR_int (by decide +kernel) (by decide +kernel) I.2 (top_int (as := [.ref 0, .int (xs ((i + 1)))]) q667 (by decide +kernel) (by decide +kernel) I.1 ⟨rfl, aI _, trivial⟩)) (chkR (a := 0) I.1.1 rfl rfl rfl rfl (by show 0 ≤ 8; decide)) (fun h1 r1 => ?_)
  rintro ⟨I1, x1, f1⟩
  rw [f1]
  show Ends _ _ (1695, lv, [.int x1], h1, 599897, 7298671) _
  refine E_pop rfl rfl ?_
  refine E_al rfl L2 ?_
  refine E_alr rfl L0 ?_
  refine E_il rfl L3 ?_
  refine E_ci 1 rfl ci1 ?_
  refine E_bin rfl (nJ_add _ _) ?_
  refine E_sld rfl (by first | decide | with_reducible assumption | omega) hL ?_
  refine E_call rfl (tR_int (by decide +kernel) (by decide +kernel) I1.2 (top_int (as := [.ref 77, .int (xs ((i + 1)))]) q669 (by decide +kernel) (by decide +kernel) I1.1 ⟨rfl, aI _, trivial⟩)) (chkR (a := 77) I1.1.1 rfl rfl rfl rfl (by show 0 ≤ 8; decide)) (fun h2 r2 => ?_)
  rintro ⟨I2, x2, f2⟩
  rw [f2]
  show Ends _ _ (1705, lv, [.int x2], h2, 599897, 7298671) _
  refine E_pop rfl rfl ?_
  refine E_goto rfl ?_
  exact K _ I2
set_option maxRecDepth 20000 in
theorem bl_61 {L : Nat} {xs : Nat → Int32} (hL : L ≤ 3072) {h : pm_H} {i : Nat} (hi : i + 6 ≤ L) (lv : List (Nat × Value)) (I : IVR h) (L0 : pm_get lv 0 = some (.retAddr 0)) (L1 : pm_get lv 1 = some (.ref 0)) (L2 : pm_get lv 2 = some (.ref 77)) (L3 : pm_get lv 3 = some (.int (nJ i))) (K : ∀ h', IVR h' → Ends (pm_tr (lb_all L xs)) (pm_Rt pm_P 100) (2392, lv, [], h', 599897, 7298671) RQ1) : Ends (pm_tr (lb_all L xs)) (pm_Rt pm_P 100) (1709, lv, [], h, 599897, 7298671) RQ1 := by
  refine E_al rfl L1 ?_
  refine E_alr rfl L0 ?_
  refine E_il rfl L3 ?_
  refine E_ci 1 rfl ci1 ?_
  refine E_bin rfl (nJ_add _ _) ?_
  refine E_sld rfl (by first | decide | with_reducible assumption | omega) hL ?_
  refine E_call rfl (tR_int (by decide +kernel) (by decide +kernel) I.2 (top_int (as := [.ref 0, .int (xs ((i + 1)))]) q670 (by decide +kernel) (by decide +kernel) I.1 ⟨rfl, aI _, trivial⟩)) (chkR (a := 0) I.1.1 rfl rfl rfl rfl (by show 0 ≤ 8; decide)) (fun h1 r1 => ?_)
  rintro ⟨I1, x1, f1⟩
  rw [f1]
  show Ends _ _ (1718, lv, [.int x1], h1, 599897, 7298671) _
  refine E_pop rfl rfl ?_
  refine E_al rfl L2 ?_
  refine E_alr rfl L0 ?_
  refine E_il rfl L3 ?_
  refine E_ci 1 rfl ci1 ?_
  refine E_bin rfl (nJ_add _ _) ?_
  refine E_sld rfl (by first | decide | with_reducible assumption | omega) hL ?_
  refine E_call rfl (tR_int (by decide +kernel) (by decide +kernel) I1.2 (top_int (as := [.ref 77, .int (xs ((i + 1)))]) q671 (by decide +kernel) (by decide +kernel) I1.1 ⟨rfl, aI _, trivial⟩)) (chkR (a := 77) I1.1.1 rfl rfl rfl rfl (by show 0 ≤ 8; decide)) (fun h2 r2 => ?_)
  rintro ⟨I2, x2, f2⟩
  rw [f2]
  show Ends _ _ (1728, lv, [.int x2], h2, 599897, 7298671) _
  refine E_pop rfl rfl ?_
  refine E_goto rfl ?_
  exact K _ I2
set_option maxRecDepth 20000 in
theorem bl_62 {L : Nat} {xs : Nat → Int32} (hL : L ≤ 3072) {h : pm_H} {i : Nat} (hi : i + 6 ≤ L) (lv : List (Nat × Value)) (I : IVR h) (L0 : pm_get lv 0 = some (.retAddr 0)) (L1 : pm_get lv 1 = some (.ref 0)) (L2 : pm_get lv 2 = some (.ref 77)) (L3 : pm_get lv 3 = some (.int (nJ i))) (K : ∀ h', IVR h' → Ends (pm_tr (lb_all L xs)) (pm_Rt pm_P 100) (2392, lv, [], h', 599897, 7298671) RQ1) : Ends (pm_tr (lb_all L xs)) (pm_Rt pm_P 100) (1732, lv, [], h, 599897, 7298671) RQ1 := by
  refine E_al rfl L1 ?_
  refine E_call rfl (tR_int (by decide +kernel) (by decide +kernel) I.2 (top_int (as := [.ref 0]) q675 (by decide +kernel) (by decide +kernel) I.1 ⟨rfl, trivial⟩)) (chkR (a := 0) I.1.1 rfl rfl rfl rfl (by show 0 ≤ 8; decide)) (fun h1 r1 => ?_)
  rintro ⟨I1, x1, f1⟩
  rw [f1]
  show Ends _ _ (1736, lv, [.int x1], h1, 599897, 7298671) _
  refine E_pop rfl rfl ?_
  refine E_al rfl L2 ?_
  refine E_call rfl (tR_int (by decide +kernel) (by decide +kernel) I1.2 (top_int (as := [.ref 77]) q676 (by decide +kernel) (by decide +kernel) I1.1 ⟨rfl, trivial⟩)) (chkR (a := 77) I1.1.1 rfl rfl rfl rfl (by show 0 ≤ 8; decide)) (fun h2 r2 => ?_)
  rintro ⟨I2, x2, f2⟩
  rw [f2]
  show Ends _ _ (1741, lv, [.int x2], h2, 599897, 7298671) _
  refine E_pop rfl rfl ?_
  refine E_goto rfl ?_
  exact K _ I2
set_option maxRecDepth 20000 in
theorem bl_63 {L : Nat} {xs : Nat → Int32} (hL : L ≤ 3072) {h : pm_H} {i : Nat} (hi : i + 6 ≤ L) (lv : List (Nat × Value)) (I : IVR h) (L0 : pm_get lv 0 = some (.retAddr 0)) (L1 : pm_get lv 1 = some (.ref 0)) (L2 : pm_get lv 2 = some (.ref 77)) (L3 : pm_get lv 3 = some (.int (nJ i))) (K : ∀ h', IVR h' → Ends (pm_tr (lb_all L xs)) (pm_Rt pm_P 100) (2392, lv, [], h', 599897, 7298671) RQ1) : Ends (pm_tr (lb_all L xs)) (pm_Rt pm_P 100) (1745, lv, [], h, 599897, 7298671) RQ1 := by
  refine E_al rfl L1 ?_
  refine E_alr rfl L0 ?_
  refine E_il rfl L3 ?_
  refine E_ci 1 rfl ci1 ?_
  refine E_bin rfl (nJ_add _ _) ?_
  refine E_sld rfl (by first | decide | with_reducible assumption | omega) hL ?_
  refine E_call rfl (tR_int (by decide +kernel) (by decide +kernel) I.2 (top_int (as := [.ref 0, .int (xs ((i + 1)))]) q677 (by decide +kernel) (by decide +kernel) I.1 ⟨rfl, aI _, trivial⟩)) (chkR (a := 0) I.1.1 rfl rfl rfl rfl (by show 0 ≤ 8; decide)) (fun h1 r1 => ?_)
  rintro ⟨I1, x1, f1⟩
  rw [f1]
  show Ends _ _ (1754, lv, [.int x1], h1, 599897, 7298671) _
  refine E_pop rfl rfl ?_
  refine E_al rfl L2 ?_
  refine E_alr rfl L0 ?_
  refine E_il rfl L3 ?_
  refine E_ci 1 rfl ci1 ?_
  refine E_bin rfl (nJ_add _ _) ?_
  refine E_sld rfl (by first | decide | with_reducible assumption | omega) hL ?_
  refine E_call rfl (tR_int (by decide +kernel) (by decide +kernel) I1.2 (top_int (as := [.ref 77, .int (xs ((i + 1)))]) q680 (by decide +kernel) (by decide +kernel) I1.1 ⟨rfl, aI _, trivial⟩)) (chkR (a := 77) I1.1.1 rfl rfl rfl rfl (by show 0 ≤ 8; decide)) (fun h2 r2 => ?_)
  rintro ⟨I2, x2, f2⟩
  rw [f2]
  show Ends _ _ (1764, lv, [.int x2], h2, 599897, 7298671) _
  refine E_pop rfl rfl ?_
  refine E_goto rfl ?_
  exact K _ I2
set_option maxRecDepth 20000 in
theorem bl_64 {L : Nat} {xs : Nat → Int32} (hL : L ≤ 3072) {h : pm_H} {i : Nat} (hi : i + 6 ≤ L) (lv : List (Nat × Value)) (I : IVR h) (L0 : pm_get lv 0 = some (.retAddr 0)) (L1 : pm_get lv 1 = some (.ref 0)) (L2 : pm_get lv 2 = some (.ref 77)) (L3 : pm_get lv 3 = some (.int (nJ i))) (K : ∀ h', IVR h' → Ends (pm_tr (lb_all L xs)) (pm_Rt pm_P 100) (2392, lv, [], h', 599897, 7298671) RQ1) : Ends (pm_tr (lb_all L xs)) (pm_Rt pm_P 100) (1768, lv, [], h, 599897, 7298671) RQ1 := by
  refine E_al rfl L1 ?_
  refine E_alr rfl L0 ?_
  refine E_il rfl L3 ?_
  refine E_ci 1 rfl ci1 ?_
  refine E_bin rfl (nJ_add _ _) ?_
  refine E_sld rfl (by first | decide | with_reducible assumption | omega) hL ?_
  refine E_alr rfl L0 ?_
  refine E_il rfl L3 ?_
  refine E_ci 2 rfl ci2 ?_
  refine E_bin rfl (nJ_add _ _) ?_
  refine E_sld rfl (by first | decide | with_reducible assumption | omega) hL ?_
  refine E_call rfl (tR_int (by decide +kernel) (by decide +kernel) I.2 (top_int (as := [.ref 0, .int (xs ((i + 1))), .int (xs ((i + 2)))]) q730 (by decide +kernel) (by decide +kernel) I.1 ⟨rfl, aI _, aI _, trivial⟩)) (chkR (a := 0) I.1.1 rfl rfl rfl rfl (by show 0 ≤ 8; decide)) (fun h1 r1 => ?_)
  rintro ⟨I1, x1, f1⟩
  rw [f1]
  show Ends _ _ (1782, lv, [.int x1], h1, 599897, 7298671) _
  refine E_pop rfl rfl ?_
  refine E_al rfl L2 ?_
  refine E_alr rfl L0 ?_
  refine E_il rfl L3 ?_
  refine E_ci 1 rfl ci1 ?_
  refine E_bin rfl (nJ_add _ _) ?_
  refine E_sld rfl (by first | decide | with_reducible assumption | omega) hL ?_
  refine E_alr rfl L0 ?_
  refine E_il rfl L3 ?_
  refine E_ci 2 rfl ci2 ?_
  refine E_bin rfl (nJ_add _ _) ?_
  refine E_sld rfl (by first | decide | with_reducible assumption | omega) hL ?_
  refine E_call rfl (tR_int (by decide +kernel) (by decide +kernel) I1.2 (top_int (as := [.ref 77, .int (xs ((i + 1))), .int (xs ((i + 2)))]) q964 (by decide +kernel) (by decide +kernel) I1.1 ⟨rfl, aI _, aI _, trivial⟩)) (chkR (a := 77) I1.1.1 rfl rfl rfl rfl (by show 0 ≤ 8; decide)) (fun h2 r2 => ?_)
  rintro ⟨I2, x2, f2⟩
  rw [f2]
  show Ends _ _ (1797, lv, [.int x2], h2, 599897, 7298671) _
  refine E_pop rfl rfl ?_
  refine E_goto rfl ?_
  exact K _ I2
set_option maxRecDepth 20000 in
theorem bl_65 {L : Nat} {xs : Nat → Int32} (hL : L ≤ 3072) {h : pm_H} {i : Nat} (hi : i + 6 ≤ L) (lv : List (Nat × Value)) (I : IVR h) (L0 : pm_get lv 0 = some (.retAddr 0)) (L1 : pm_get lv 1 = some (.ref 0)) (L2 : pm_get lv 2 = some (.ref 77)) (L3 : pm_get lv 3 = some (.int (nJ i))) (K : ∀ h', IVR h' → Ends (pm_tr (lb_all L xs)) (pm_Rt pm_P 100) (2392, lv, [], h', 599897, 7298671) RQ1) : Ends (pm_tr (lb_all L xs)) (pm_Rt pm_P 100) (1801, lv, [], h, 599897, 7298671) RQ1 := by
  refine E_al rfl L1 ?_
  refine E_alr rfl L0 ?_
  refine E_il rfl L3 ?_
  refine E_ci 1 rfl ci1 ?_
  refine E_bin rfl (nJ_add _ _) ?_
  refine E_sld rfl (by first | decide | with_reducible assumption | omega) hL ?_
  refine E_alr rfl L0 ?_
  refine E_il rfl L3 ?_
  refine E_ci 2 rfl ci2 ?_
  refine E_bin rfl (nJ_add _ _) ?_
  refine E_sld rfl (by first | decide | with_reducible assumption | omega) hL ?_
  refine E_call rfl (tR_int (by decide +kernel) (by decide +kernel) I.2 (top_int (as := [.ref 0, .int (xs ((i + 1))), .int (xs ((i + 2)))]) q754 (by decide +kernel) (by decide +kernel) I.1 ⟨rfl, aI _, aI _, trivial⟩)) (chkR (a := 0) I.1.1 rfl rfl rfl rfl (by show 0 ≤ 8; decide)) (fun h1 r1 => ?_)
  rintro ⟨I1, x1, f1⟩
  rw [f1]
  show Ends _ _ (1815, lv, [.int x1], h1, 599897, 7298671) _
  refine E_pop rfl rfl ?_
  refine E_al rfl L2 ?_
  refine E_alr rfl L0 ?_
  refine E_il rfl L3 ?_
  refine E_ci 1 rfl ci1 ?_
  refine E_bin rfl (nJ_add _ _) ?_
  refine E_sld rfl (by first | decide | with_reducible assumption | omega) hL ?_
  refine E_alr rfl L0 ?_
  refine E_il rfl L3 ?_
  refine E_ci 2 rfl ci2 ?_
  refine E_bin rfl (nJ_add _ _) ?_
  refine E_sld rfl (by first | decide | with_reducible assumption | omega) hL ?_
  refine E_call rfl (tR_int (by decide +kernel) (by decide +kernel) I1.2 (top_int (as := [.ref 77, .int (xs ((i + 1))), .int (xs ((i + 2)))]) q761 (by decide +kernel) (by decide +kernel) I1.1 ⟨rfl, aI _, aI _, trivial⟩)) (chkR (a := 77) I1.1.1 rfl rfl rfl rfl (by show 0 ≤ 8; decide)) (fun h2 r2 => ?_)
  rintro ⟨I2, x2, f2⟩
  rw [f2]
  show Ends _ _ (1830, lv, [.int x2], h2, 599897, 7298671) _
  refine E_pop rfl rfl ?_
  refine E_goto rfl ?_
  exact K _ I2
set_option maxRecDepth 20000 in
theorem bl_66 {L : Nat} {xs : Nat → Int32} (hL : L ≤ 3072) {h : pm_H} {i : Nat} (hi : i + 6 ≤ L) (lv : List (Nat × Value)) (I : IVR h) (L0 : pm_get lv 0 = some (.retAddr 0)) (L1 : pm_get lv 1 = some (.ref 0)) (L2 : pm_get lv 2 = some (.ref 77)) (L3 : pm_get lv 3 = some (.int (nJ i))) (K : ∀ h', IVR h' → Ends (pm_tr (lb_all L xs)) (pm_Rt pm_P 100) (2392, lv, [], h', 599897, 7298671) RQ1) : Ends (pm_tr (lb_all L xs)) (pm_Rt pm_P 100) (1834, lv, [], h, 599897, 7298671) RQ1 := by
  refine E_al rfl L1 ?_
  refine E_alr rfl L0 ?_
  refine E_il rfl L3 ?_
  refine E_ci 1 rfl ci1 ?_
  refine E_bin rfl (nJ_add _ _) ?_
  refine E_sld rfl (by first | decide | with_reducible assumption | omega) hL ?_
  refine E_alr rfl L0 ?_
  refine E_il rfl L3 ?_
  refine E_ci 2 rfl ci2 ?_
  refine E_bin rfl (nJ_add _ _) ?_
  refine E_sld rfl (by first | decide | with_reducible assumption | omega) hL ?_
  refine E_alr rfl L0 ?_
  refine E_il rfl L3 ?_
  refine E_ci 3 rfl ci3 ?_
  refine E_bin rfl (nJ_add _ _) ?_
  refine E_sld rfl (by first | decide | with_reducible assumption | omega) hL ?_
  refine E_alr rfl L0 ?_
  refine E_il rfl L3 ?_
  refine E_ci 4 rfl ci4 ?_
  refine E_bin rfl (nJ_add _ _) ?_
  refine E_sld rfl (by first | decide | with_reducible assumption | omega) hL ?_
  refine E_call rfl (tR_int (by decide +kernel) (by decide +kernel) I.2 (top_int (as := [.ref 0, .int (xs ((i + 1))), .int (xs ((i + 2))), .int (xs ((i + 3))), .int (xs ((i + 4)))]) q764 (by decide +kernel) (by decide +kernel) I.1 ⟨rfl, aI _, aI _, aI _, aI _, trivial⟩)) (chkR (a := 0) I.1.1 rfl rfl rfl rfl (by show 0 ≤ 8; decide)) (fun h1 r1 => ?_)
  rintro ⟨I1, x1, f1⟩
  rw [f1]
  show Ends _ _ (1858, lv, [.int x1], h1, 599897, 7298671) _
  refine E_pop rfl rfl ?_
  refine E_al rfl L2 ?_
  refine E_alr rfl L0 ?_
  refine E_il rfl L3 ?_
  refine E_ci 1 rfl ci1 ?_
  refine E_bin rfl (nJ_add _ _) ?_
  refine E_sld rfl (by first | decide | with_reducible assumption | omega) hL ?_
  refine E_alr rfl L0 ?_
  refine E_il rfl L3 ?_
  refine E_ci 2 rfl ci2 ?_
  refine E_bin rfl (nJ_add _ _) ?_
  refine E_sld rfl (by first | decide | with_reducible assumption | omega) hL ?_
  refine E_alr rfl L0 ?_
  refine E_il rfl L3 ?_
  refine E_ci 3 rfl ci3 ?_
  refine E_bin rfl (nJ_add _ _) ?_
  refine E_sld rfl (by first | decide | with_reducible assumption | omega) hL ?_
  refine E_alr rfl L0 ?_
  refine E_il rfl L3 ?_
  refine E_ci 4 rfl ci4 ?_
  refine E_bin rfl (nJ_add _ _) ?_
  refine E_sld rfl (by first | decide | with_reducible assumption | omega) hL ?_
  refine E_call rfl (tR_int (by decide +kernel) (by decide +kernel) I1.2 (top_int (as := [.ref 77, .int (xs ((i + 1))), .int (xs ((i + 2))), .int (xs ((i + 3))), .int (xs ((i + 4)))]) q767 (by decide +kernel) (by decide +kernel) I1.1 ⟨rfl, aI _, aI _, aI _, aI _, trivial⟩)) (chkR (a := 77) I1.1.1 rfl rfl rfl rfl (by show 0 ≤ 8; decide)) (fun h2 r2 => ?_)
  rintro ⟨I2, x2, f2⟩
  rw [f2]
  show Ends _ _ (1883, lv, [.int x2], h2, 599897, 7298671) _
  refine E_pop rfl rfl ?_
  refine E_goto rfl ?_
  exact K _ I2
set_option maxRecDepth 20000 in
theorem bl_67 {L : Nat} {xs : Nat → Int32} (hL : L ≤ 3072) {h : pm_H} {i : Nat} (hi : i + 6 ≤ L) (lv : List (Nat × Value)) (I : IVR h) (L0 : pm_get lv 0 = some (.retAddr 0)) (L1 : pm_get lv 1 = some (.ref 0)) (L2 : pm_get lv 2 = some (.ref 77)) (L3 : pm_get lv 3 = some (.int (nJ i))) (K : ∀ h', IVR h' → Ends (pm_tr (lb_all L xs)) (pm_Rt pm_P 100) (2392, lv, [], h', 599897, 7298671) RQ1) : Ends (pm_tr (lb_all L xs)) (pm_Rt pm_P 100) (1887, lv, [], h, 599897, 7298671) RQ1 := by
  refine E_al rfl L1 ?_
  refine E_alr rfl L0 ?_
  refine E_il rfl L3 ?_
  refine E_ci 1 rfl ci1 ?_
  refine E_bin rfl (nJ_add _ _) ?_
  refine E_sld rfl (by first | decide | with_reducible assumption | omega) hL ?_
  refine E_alr rfl L0 ?_
  refine E_il rfl L3 ?_
  refine E_ci 2 rfl ci2 ?_
  refine E_bin rfl (nJ_add _ _) ?_
  refine E_sld rfl (by first | decide | with_reducible assumption | omega) hL ?_
  refine E_call rfl (tR_int (by decide +kernel) (by decide +kernel) I.2 (top_int (as := [.ref 0, .int (xs ((i + 1))), .int (xs ((i + 2)))]) q779 (by decide +kernel) (by decide +kernel) I.1 ⟨rfl, aI _, aI _, trivial⟩)) (chkR (a := 0) I.1.1 rfl rfl rfl rfl (by show 0 ≤ 8; decide)) (fun h1 r1 => ?_)
  rintro ⟨I1, x1, f1⟩
  rw [f1]
  show Ends _ _ (1901, lv, [.int x1], h1, 599897, 7298671) _
  refine E_pop rfl rfl ?_
  refine E_al rfl L2 ?_
  refine E_alr rfl L0 ?_
  refine E_il rfl L3 ?_
  refine E_ci 1 rfl ci1 ?_
  refine E_bin rfl (nJ_add _ _) ?_
  refine E_sld rfl (by first | decide | with_reducible assumption | omega) hL ?_
  refine E_alr rfl L0 ?_
  refine E_il rfl L3 ?_
  refine E_ci 2 rfl ci2 ?_
  refine E_bin rfl (nJ_add _ _) ?_
  refine E_sld rfl (by first | decide | with_reducible assumption | omega) hL ?_
  refine E_call rfl (tR_int (by decide +kernel) (by decide +kernel) I1.2 (top_int (as := [.ref 77, .int (xs ((i + 1))), .int (xs ((i + 2)))]) q966 (by decide +kernel) (by decide +kernel) I1.1 ⟨rfl, aI _, aI _, trivial⟩)) (chkR (a := 77) I1.1.1 rfl rfl rfl rfl (by show 0 ≤ 8; decide)) (fun h2 r2 => ?_)
  rintro ⟨I2, x2, f2⟩
  rw [f2]
  show Ends _ _ (1916, lv, [.int x2], h2, 599897, 7298671) _
  refine E_pop rfl rfl ?_
  refine E_goto rfl ?_
  exact K _ I2
set_option maxRecDepth 20000 in
theorem bl_68 {L : Nat} {xs : Nat → Int32} (hL : L ≤ 3072) {h : pm_H} {i : Nat} (hi : i + 6 ≤ L) (lv : List (Nat × Value)) (I : IVR h) (L0 : pm_get lv 0 = some (.retAddr 0)) (L1 : pm_get lv 1 = some (.ref 0)) (L2 : pm_get lv 2 = some (.ref 77)) (L3 : pm_get lv 3 = some (.int (nJ i))) (K : ∀ h', IVR h' → Ends (pm_tr (lb_all L xs)) (pm_Rt pm_P 100) (2392, lv, [], h', 599897, 7298671) RQ1) : Ends (pm_tr (lb_all L xs)) (pm_Rt pm_P 100) (1920, lv, [], h, 599897, 7298671) RQ1 := by
  refine E_al rfl L1 ?_
  refine E_alr rfl L0 ?_
  refine E_il rfl L3 ?_
  refine E_ci 1 rfl ci1 ?_
  refine E_bin rfl (nJ_add _ _) ?_
  refine E_sld rfl (by first | decide | with_reducible assumption | omega) hL ?_
  refine E_call rfl (tR_lng (by decide +kernel) (by decide +kernel) I.2 (top_lng (as := [.ref 0, .int (xs ((i + 1)))]) q844 (by decide +kernel) (by decide +kernel) I.1 ⟨rfl, aI _, trivial⟩)) (chkR (a := 0) I.1.1 rfl rfl rfl rfl (by show 0 ≤ 8; decide)) (fun h1 r1 => ?_)
  rintro ⟨I1, x1, f1⟩
  rw [f1]
  show Ends _ _ (1929, lv, [.long x1], h1, 599897, 7298671) _
  refine E_pop2 rfl rfl ?_
  refine E_al rfl L2 ?_
  refine E_alr rfl L0 ?_
  refine E_il rfl L3 ?_
  refine E_ci 1 rfl ci1 ?_
  refine E_bin rfl (nJ_add _ _) ?_
  refine E_sld rfl (by first | decide | with_reducible assumption | omega) hL ?_
  refine E_call rfl (tR_lng (by decide +kernel) (by decide +kernel) I1.2 (top_lng (as := [.ref 77, .int (xs ((i + 1)))]) q967 (by decide +kernel) (by decide +kernel) I1.1 ⟨rfl, aI _, trivial⟩)) (chkR (a := 77) I1.1.1 rfl rfl rfl rfl (by show 0 ≤ 8; decide)) (fun h2 r2 => ?_)
  rintro ⟨I2, x2, f2⟩
  rw [f2]
  show Ends _ _ (1939, lv, [.long x2], h2, 599897, 7298671) _
  refine E_pop2 rfl rfl ?_
  refine E_goto rfl ?_
  exact K _ I2
set_option maxRecDepth 20000 in
theorem bl_69 {L : Nat} {xs : Nat → Int32} (hL : L ≤ 3072) {h : pm_H} {i : Nat} (hi : i + 6 ≤ L) (lv : List (Nat × Value)) (I : IVR h) (L0 : pm_get lv 0 = some (.retAddr 0)) (L1 : pm_get lv 1 = some (.ref 0)) (L2 : pm_get lv 2 = some (.ref 77)) (L3 : pm_get lv 3 = some (.int (nJ i))) (K : ∀ h', IVR h' → Ends (pm_tr (lb_all L xs)) (pm_Rt pm_P 100) (2392, lv, [], h', 599897, 7298671) RQ1) : Ends (pm_tr (lb_all L xs)) (pm_Rt pm_P 100) (1943, lv, [], h, 599897, 7298671) RQ1 := by
  refine E_al rfl L1 ?_
  refine E_alr rfl L0 ?_
  refine E_il rfl L3 ?_
  refine E_ci 1 rfl ci1 ?_
  refine E_bin rfl (nJ_add _ _) ?_
  refine E_sld rfl (by first | decide | with_reducible assumption | omega) hL ?_
  refine E_alr rfl L0 ?_
  refine E_il rfl L3 ?_
  refine E_ci 2 rfl ci2 ?_
  refine E_bin rfl (nJ_add _ _) ?_
  refine E_sld rfl (by first | decide | with_reducible assumption | omega) hL ?_
  refine E_call rfl (tR_int (by decide +kernel) (by decide +kernel) I.2 (top_int (as := [.ref 0, .int (xs ((i + 1))), .int (xs ((i + 2)))]) q868 (by decide +kernel) (by decide +kernel) I.1 ⟨rfl, aI _, aI _, trivial⟩)) (chkR (a := 0) I.1.1 rfl rfl rfl rfl (by show 0 ≤ 8; decide)) (fun h1 r1 => ?_)
  rintro ⟨I1, x1, f1⟩
  rw [f1]
  show Ends _ _ (1957, lv, [.int x1], h1, 599897, 7298671) _
  refine E_pop rfl rfl ?_
  refine E_al rfl L2 ?_
  refine E_alr rfl L0 ?_
  refine E_il rfl L3 ?_
  refine E_ci 1 rfl ci1 ?_
  refine E_bin rfl (nJ_add _ _) ?_
  refine E_sld rfl (by first | decide | with_reducible assumption | omega) hL ?_
  refine E_alr rfl L0 ?_
  refine E_il rfl L3 ?_
  refine E_ci 2 rfl ci2 ?_
  refine E_bin rfl (nJ_add _ _) ?_
  refine E_sld rfl (by first | decide | with_reducible assumption | omega) hL ?_
  refine E_call rfl (tR_int (by decide +kernel) (by decide +kernel) I1.2 (top_VQ (d := 40) rfl I1.1 (tv_wants (d := 0) I1.1.1 I1.1.2.2))) (chkR (a := 77) I1.1.1 rfl rfl rfl rfl (by show 0 ≤ 8; decide)) (fun h2 r2 => ?_)
  rintro ⟨I2, x2, f2⟩
  rw [f2]
  show Ends _ _ (1972, lv, [.int x2], h2, 599897, 7298671) _
  refine E_pop rfl rfl ?_
  refine E_goto rfl ?_
  exact K _ I2
set_option maxRecDepth 20000 in
theorem bl_70 {L : Nat} {xs : Nat → Int32} (hL : L ≤ 3072) {h : pm_H} {i : Nat} (hi : i + 6 ≤ L) (lv : List (Nat × Value)) (I : IVR h) (L0 : pm_get lv 0 = some (.retAddr 0)) (L1 : pm_get lv 1 = some (.ref 0)) (L2 : pm_get lv 2 = some (.ref 77)) (L3 : pm_get lv 3 = some (.int (nJ i))) (K : ∀ h', IVR h' → Ends (pm_tr (lb_all L xs)) (pm_Rt pm_P 100) (2392, lv, [], h', 599897, 7298671) RQ1) : Ends (pm_tr (lb_all L xs)) (pm_Rt pm_P 100) (1976, lv, [], h, 599897, 7298671) RQ1 := by
  refine E_al rfl L1 ?_
  refine E_alr rfl L0 ?_
  refine E_il rfl L3 ?_
  refine E_ci 1 rfl ci1 ?_
  refine E_bin rfl (nJ_add _ _) ?_
  refine E_sld rfl (by first | decide | with_reducible assumption | omega) hL ?_
  refine E_alr rfl L0 ?_
  refine E_il rfl L3 ?_
  refine E_ci 2 rfl ci2 ?_
  refine E_bin rfl (nJ_add _ _) ?_
  refine E_sld rfl (by first | decide | with_reducible assumption | omega) hL ?_
  refine E_call rfl (tR_int (by decide +kernel) (by decide +kernel) I.2 (top_int (as := [.ref 0, .int (xs ((i + 1))), .int (xs ((i + 2)))]) q873 (by decide +kernel) (by decide +kernel) I.1 ⟨rfl, aI _, aI _, trivial⟩)) (chkR (a := 0) I.1.1 rfl rfl rfl rfl (by show 0 ≤ 8; decide)) (fun h1 r1 => ?_)
  rintro ⟨I1, x1, f1⟩
  rw [f1]
  show Ends _ _ (1990, lv, [.int x1], h1, 599897, 7298671) _
  refine E_pop rfl rfl ?_
  refine E_al rfl L2 ?_
  refine E_alr rfl L0 ?_
  refine E_il rfl L3 ?_
  refine E_ci 1 rfl ci1 ?_
  refine E_bin rfl (nJ_add _ _) ?_
  refine E_sld rfl (by first | decide | with_reducible assumption | omega) hL ?_
  refine E_alr rfl L0 ?_
  refine E_il rfl L3 ?_
  refine E_ci 2 rfl ci2 ?_
  refine E_bin rfl (nJ_add _ _) ?_
  refine E_sld rfl (by first | decide | with_reducible assumption | omega) hL ?_
  refine E_call rfl (tR_int (by decide +kernel) (by decide +kernel) I1.2 (top_VQ (d := 40) rfl I1.1 (tv_trades (d := 0) I1.1.1 I1.1.2.2))) (chkR (a := 77) I1.1.1 rfl rfl rfl rfl (by show 0 ≤ 8; decide)) (fun h2 r2 => ?_)
  rintro ⟨I2, x2, f2⟩
  rw [f2]
  show Ends _ _ (2005, lv, [.int x2], h2, 599897, 7298671) _
  refine E_pop rfl rfl ?_
  refine E_goto rfl ?_
  exact K _ I2
set_option maxRecDepth 20000 in
theorem bl_71 {L : Nat} {xs : Nat → Int32} (hL : L ≤ 3072) {h : pm_H} {i : Nat} (hi : i + 6 ≤ L) (lv : List (Nat × Value)) (I : IVR h) (L0 : pm_get lv 0 = some (.retAddr 0)) (L1 : pm_get lv 1 = some (.ref 0)) (L2 : pm_get lv 2 = some (.ref 77)) (L3 : pm_get lv 3 = some (.int (nJ i))) (K : ∀ h', IVR h' → Ends (pm_tr (lb_all L xs)) (pm_Rt pm_P 100) (2392, lv, [], h', 599897, 7298671) RQ1) : Ends (pm_tr (lb_all L xs)) (pm_Rt pm_P 100) (2009, lv, [], h, 599897, 7298671) RQ1 := by
  refine E_al rfl L1 ?_
  refine E_call rfl (tR_int (by decide +kernel) (by decide +kernel) I.2 (top_int (as := [.ref 0]) q878 (by decide +kernel) (by decide +kernel) I.1 ⟨rfl, trivial⟩)) (chkR (a := 0) I.1.1 rfl rfl rfl rfl (by show 0 ≤ 8; decide)) (fun h1 r1 => ?_)
  rintro ⟨I1, x1, f1⟩
  rw [f1]
  show Ends _ _ (2013, lv, [.int x1], h1, 599897, 7298671) _
  refine E_pop rfl rfl ?_
  refine E_al rfl L2 ?_
  refine E_call rfl (tR_int (by decide +kernel) (by decide +kernel) I1.2 (top_VQ (d := 40) rfl I1.1 (tv_undo (d := 0) I1.1.1 I1.1.2.2))) (chkR (a := 77) I1.1.1 rfl rfl rfl rfl (by show 0 ≤ 8; decide)) (fun h2 r2 => ?_)
  rintro ⟨I2, x2, f2⟩
  rw [f2]
  show Ends _ _ (2018, lv, [.int x2], h2, 599897, 7298671) _
  refine E_pop rfl rfl ?_
  refine E_goto rfl ?_
  exact K _ I2
set_option maxRecDepth 20000 in
theorem bl_72 {L : Nat} {xs : Nat → Int32} (hL : L ≤ 3072) {h : pm_H} {i : Nat} (hi : i + 6 ≤ L) (lv : List (Nat × Value)) (I : IVR h) (L0 : pm_get lv 0 = some (.retAddr 0)) (L1 : pm_get lv 1 = some (.ref 0)) (L2 : pm_get lv 2 = some (.ref 77)) (L3 : pm_get lv 3 = some (.int (nJ i))) (K : ∀ h', IVR h' → Ends (pm_tr (lb_all L xs)) (pm_Rt pm_P 100) (2392, lv, [], h', 599897, 7298671) RQ1) : Ends (pm_tr (lb_all L xs)) (pm_Rt pm_P 100) (2022, lv, [], h, 599897, 7298671) RQ1 := by
  refine E_al rfl L1 ?_
  refine E_call rfl (tR_int (by decide +kernel) (by decide +kernel) I.2 (top_int (as := [.ref 0]) q881 (by decide +kernel) (by decide +kernel) I.1 ⟨rfl, trivial⟩)) (chkR (a := 0) I.1.1 rfl rfl rfl rfl (by show 0 ≤ 8; decide)) (fun h1 r1 => ?_)
  rintro ⟨I1, x1, f1⟩
  rw [f1]
  show Ends _ _ (2026, lv, [.int x1], h1, 599897, 7298671) _
  refine E_pop rfl rfl ?_
  refine E_al rfl L2 ?_
  refine E_call rfl (tR_int (by decide +kernel) (by decide +kernel) I1.2 (top_VQ (d := 40) rfl I1.1 (tv_anew (d := 0) I1.1.1 I1.1.2.2))) (chkR (a := 77) I1.1.1 rfl rfl rfl rfl (by show 0 ≤ 8; decide)) (fun h2 r2 => ?_)
  rintro ⟨I2, x2, f2⟩
  rw [f2]
  show Ends _ _ (2031, lv, [.int x2], h2, 599897, 7298671) _
  refine E_pop rfl rfl ?_
  refine E_goto rfl ?_
  exact K _ I2
set_option maxRecDepth 20000 in
theorem bl_73 {L : Nat} {xs : Nat → Int32} (hL : L ≤ 3072) {h : pm_H} {i : Nat} (hi : i + 6 ≤ L) (lv : List (Nat × Value)) (I : IVR h) (L0 : pm_get lv 0 = some (.retAddr 0)) (L1 : pm_get lv 1 = some (.ref 0)) (L2 : pm_get lv 2 = some (.ref 77)) (L3 : pm_get lv 3 = some (.int (nJ i))) (K : ∀ h', IVR h' → Ends (pm_tr (lb_all L xs)) (pm_Rt pm_P 100) (2392, lv, [], h', 599897, 7298671) RQ1) : Ends (pm_tr (lb_all L xs)) (pm_Rt pm_P 100) (2035, lv, [], h, 599897, 7298671) RQ1 := by
  refine E_al rfl L1 ?_
  refine E_alr rfl L0 ?_
  refine E_il rfl L3 ?_
  refine E_ci 1 rfl ci1 ?_
  refine E_bin rfl (nJ_add _ _) ?_
  refine E_sld rfl (by first | decide | with_reducible assumption | omega) hL ?_
  refine E_alr rfl L0 ?_
  refine E_il rfl L3 ?_
  refine E_ci 2 rfl ci2 ?_
  refine E_bin rfl (nJ_add _ _) ?_
  refine E_sld rfl (by first | decide | with_reducible assumption | omega) hL ?_
  refine E_call rfl (tR_int (by decide +kernel) (by decide +kernel) I.2 (top_int (as := [.ref 0, .int (xs ((i + 1))), .int (xs ((i + 2)))]) q885 (by decide +kernel) (by decide +kernel) I.1 ⟨rfl, aI _, aI _, trivial⟩)) (chkR (a := 0) I.1.1 rfl rfl rfl rfl (by show 0 ≤ 8; decide)) (fun h1 r1 => ?_)
  rintro ⟨I1, x1, f1⟩
  rw [f1]
  show Ends _ _ (2049, lv, [.int x1], h1, 599897, 7298671) _
  refine E_pop rfl rfl ?_
  refine E_al rfl L2 ?_
  refine E_alr rfl L0 ?_
  refine E_il rfl L3 ?_
  refine E_ci 1 rfl ci1 ?_
  refine E_bin rfl (nJ_add _ _) ?_
  refine E_sld rfl (by first | decide | with_reducible assumption | omega) hL ?_
  refine E_alr rfl L0 ?_
  refine E_il rfl L3 ?_
  refine E_ci 2 rfl ci2 ?_
  refine E_bin rfl (nJ_add _ _) ?_
  refine E_sld rfl (by first | decide | with_reducible assumption | omega) hL ?_
  refine E_call rfl (tR_int (by decide +kernel) (by decide +kernel) I1.2 (top_int (as := [.ref 77, .int (xs ((i + 1))), .int (xs ((i + 2)))]) q889 (by decide +kernel) (by decide +kernel) I1.1 ⟨rfl, aI _, aI _, trivial⟩)) (chkR (a := 77) I1.1.1 rfl rfl rfl rfl (by show 0 ≤ 8; decide)) (fun h2 r2 => ?_)
  rintro ⟨I2, x2, f2⟩
  rw [f2]
  show Ends _ _ (2064, lv, [.int x2], h2, 599897, 7298671) _
  refine E_pop rfl rfl ?_
  refine E_goto rfl ?_
  exact K _ I2
set_option maxRecDepth 20000 in
theorem bl_74 {L : Nat} {xs : Nat → Int32} (hL : L ≤ 3072) {h : pm_H} {i : Nat} (hi : i + 6 ≤ L) (lv : List (Nat × Value)) (I : IVR h) (L0 : pm_get lv 0 = some (.retAddr 0)) (L1 : pm_get lv 1 = some (.ref 0)) (L2 : pm_get lv 2 = some (.ref 77)) (L3 : pm_get lv 3 = some (.int (nJ i))) (K : ∀ h', IVR h' → Ends (pm_tr (lb_all L xs)) (pm_Rt pm_P 100) (2392, lv, [], h', 599897, 7298671) RQ1) : Ends (pm_tr (lb_all L xs)) (pm_Rt pm_P 100) (2068, lv, [], h, 599897, 7298671) RQ1 := by
  refine E_al rfl L1 ?_
  refine E_alr rfl L0 ?_
  refine E_il rfl L3 ?_
  refine E_ci 1 rfl ci1 ?_
  refine E_bin rfl (nJ_add _ _) ?_
  refine E_sld rfl (by first | decide | with_reducible assumption | omega) hL ?_
  refine E_alr rfl L0 ?_
  refine E_il rfl L3 ?_
  refine E_ci 2 rfl ci2 ?_
  refine E_bin rfl (nJ_add _ _) ?_
  refine E_sld rfl (by first | decide | with_reducible assumption | omega) hL ?_
  refine E_alr rfl L0 ?_
  refine E_il rfl L3 ?_
  refine E_ci 3 rfl ci3 ?_
  refine E_bin rfl (nJ_add _ _) ?_
  refine E_sld rfl (by first | decide | with_reducible assumption | omega) hL ?_
  refine E_call rfl (tR_int (by decide +kernel) (by decide +kernel) I.2 (top_int (as := [.ref 0, .int (xs ((i + 1))), .int (xs ((i + 2))), .int (xs ((i + 3)))]) q891 (by decide +kernel) (by decide +kernel) I.1 ⟨rfl, aI _, aI _, aI _, trivial⟩)) (chkR (a := 0) I.1.1 rfl rfl rfl rfl (by show 0 ≤ 8; decide)) (fun h1 r1 => ?_)
  rintro ⟨I1, x1, f1⟩
  rw [f1]
  show Ends _ _ (2087, lv, [.int x1], h1, 599897, 7298671) _
  refine E_pop rfl rfl ?_
  refine E_al rfl L2 ?_
  refine E_alr rfl L0 ?_
  refine E_il rfl L3 ?_
  refine E_ci 1 rfl ci1 ?_
  refine E_bin rfl (nJ_add _ _) ?_
  refine E_sld rfl (by first | decide | with_reducible assumption | omega) hL ?_
  refine E_alr rfl L0 ?_
  refine E_il rfl L3 ?_
  refine E_ci 2 rfl ci2 ?_
  refine E_bin rfl (nJ_add _ _) ?_
  refine E_sld rfl (by first | decide | with_reducible assumption | omega) hL ?_
  refine E_alr rfl L0 ?_
  refine E_il rfl L3 ?_
  refine E_ci 3 rfl ci3 ?_
  refine E_bin rfl (nJ_add _ _) ?_
  refine E_sld rfl (by first | decide | with_reducible assumption | omega) hL ?_
  refine E_call rfl (tR_int (by decide +kernel) (by decide +kernel) I1.2 (top_int (as := [.ref 77, .int (xs ((i + 1))), .int (xs ((i + 2))), .int (xs ((i + 3)))]) q894 (by decide +kernel) (by decide +kernel) I1.1 ⟨rfl, aI _, aI _, aI _, trivial⟩)) (chkR (a := 77) I1.1.1 rfl rfl rfl rfl (by show 0 ≤ 8; decide)) (fun h2 r2 => ?_)
  rintro ⟨I2, x2, f2⟩
  rw [f2]
  show Ends _ _ (2107, lv, [.int x2], h2, 599897, 7298671) _
  refine E_pop rfl rfl ?_
  refine E_goto rfl ?_
  exact K _ I2
set_option maxRecDepth 20000 in
theorem bl_75 {L : Nat} {xs : Nat → Int32} (hL : L ≤ 3072) {h : pm_H} {i : Nat} (hi : i + 6 ≤ L) (lv : List (Nat × Value)) (I : IVR h) (L0 : pm_get lv 0 = some (.retAddr 0)) (L1 : pm_get lv 1 = some (.ref 0)) (L2 : pm_get lv 2 = some (.ref 77)) (L3 : pm_get lv 3 = some (.int (nJ i))) (K : ∀ h', IVR h' → Ends (pm_tr (lb_all L xs)) (pm_Rt pm_P 100) (2392, lv, [], h', 599897, 7298671) RQ1) : Ends (pm_tr (lb_all L xs)) (pm_Rt pm_P 100) (2111, lv, [], h, 599897, 7298671) RQ1 := by
  refine E_al rfl L1 ?_
  refine E_alr rfl L0 ?_
  refine E_il rfl L3 ?_
  refine E_ci 1 rfl ci1 ?_
  refine E_bin rfl (nJ_add _ _) ?_
  refine E_sld rfl (by first | decide | with_reducible assumption | omega) hL ?_
  refine E_alr rfl L0 ?_
  refine E_il rfl L3 ?_
  refine E_ci 2 rfl ci2 ?_
  refine E_bin rfl (nJ_add _ _) ?_
  refine E_sld rfl (by first | decide | with_reducible assumption | omega) hL ?_
  refine E_call rfl (tR_int (by decide +kernel) (by decide +kernel) I.2 (top_int (as := [.ref 0, .int (xs ((i + 1))), .int (xs ((i + 2)))]) q895 (by decide +kernel) (by decide +kernel) I.1 ⟨rfl, aI _, aI _, trivial⟩)) (chkR (a := 0) I.1.1 rfl rfl rfl rfl (by show 0 ≤ 8; decide)) (fun h1 r1 => ?_)
  rintro ⟨I1, x1, f1⟩
  rw [f1]
  show Ends _ _ (2125, lv, [.int x1], h1, 599897, 7298671) _
  refine E_pop rfl rfl ?_
  refine E_al rfl L2 ?_
  refine E_alr rfl L0 ?_
  refine E_il rfl L3 ?_
  refine E_ci 1 rfl ci1 ?_
  refine E_bin rfl (nJ_add _ _) ?_
  refine E_sld rfl (by first | decide | with_reducible assumption | omega) hL ?_
  refine E_alr rfl L0 ?_
  refine E_il rfl L3 ?_
  refine E_ci 2 rfl ci2 ?_
  refine E_bin rfl (nJ_add _ _) ?_
  refine E_sld rfl (by first | decide | with_reducible assumption | omega) hL ?_
  refine E_call rfl (tR_int (by decide +kernel) (by decide +kernel) I1.2 (top_VQ (d := 40) rfl I1.1 (tv_rate (d := 0) I1.1.1 I1.1.2.2))) (chkR (a := 77) I1.1.1 rfl rfl rfl rfl (by show 0 ≤ 8; decide)) (fun h2 r2 => ?_)
  rintro ⟨I2, x2, f2⟩
  rw [f2]
  show Ends _ _ (2140, lv, [.int x2], h2, 599897, 7298671) _
  refine E_pop rfl rfl ?_
  refine E_goto rfl ?_
  exact K _ I2
set_option maxRecDepth 20000 in
theorem bl_76 {L : Nat} {xs : Nat → Int32} (hL : L ≤ 3072) {h : pm_H} {i : Nat} (hi : i + 6 ≤ L) (lv : List (Nat × Value)) (I : IVR h) (L0 : pm_get lv 0 = some (.retAddr 0)) (L1 : pm_get lv 1 = some (.ref 0)) (L2 : pm_get lv 2 = some (.ref 77)) (L3 : pm_get lv 3 = some (.int (nJ i))) (K : ∀ h', IVR h' → Ends (pm_tr (lb_all L xs)) (pm_Rt pm_P 100) (2392, lv, [], h', 599897, 7298671) RQ1) : Ends (pm_tr (lb_all L xs)) (pm_Rt pm_P 100) (2144, lv, [], h, 599897, 7298671) RQ1 := by
  refine E_al rfl L1 ?_
  refine E_alr rfl L0 ?_
  refine E_il rfl L3 ?_
  refine E_ci 1 rfl ci1 ?_
  refine E_bin rfl (nJ_add _ _) ?_
  refine E_sld rfl (by first | decide | with_reducible assumption | omega) hL ?_
  refine E_call rfl (tR_int (by decide +kernel) (by decide +kernel) I.2 (top_int (as := [.ref 0, .int (xs ((i + 1)))]) q899 (by decide +kernel) (by decide +kernel) I.1 ⟨rfl, aI _, trivial⟩)) (chkR (a := 0) I.1.1 rfl rfl rfl rfl (by show 0 ≤ 8; decide)) (fun h1 r1 => ?_)
  rintro ⟨I1, x1, f1⟩
  rw [f1]
  show Ends _ _ (2153, lv, [.int x1], h1, 599897, 7298671) _
  refine E_pop rfl rfl ?_
  refine E_al rfl L2 ?_
  refine E_alr rfl L0 ?_
  refine E_il rfl L3 ?_
  refine E_ci 1 rfl ci1 ?_
  refine E_bin rfl (nJ_add _ _) ?_
  refine E_sld rfl (by first | decide | with_reducible assumption | omega) hL ?_
  refine E_call rfl (tR_int (by decide +kernel) (by decide +kernel) I1.2 (top_int (as := [.ref 77, .int (xs ((i + 1)))]) q901 (by decide +kernel) (by decide +kernel) I1.1 ⟨rfl, aI _, trivial⟩)) (chkR (a := 77) I1.1.1 rfl rfl rfl rfl (by show 0 ≤ 8; decide)) (fun h2 r2 => ?_)
  rintro ⟨I2, x2, f2⟩
  rw [f2]
  show Ends _ _ (2163, lv, [.int x2], h2, 599897, 7298671) _
  refine E_pop rfl rfl ?_
  refine E_goto rfl ?_
  exact K _ I2
set_option maxRecDepth 20000 in
theorem bl_77 {L : Nat} {xs : Nat → Int32} (hL : L ≤ 3072) {h : pm_H} {i : Nat} (hi : i + 6 ≤ L) (lv : List (Nat × Value)) (I : IVR h) (L0 : pm_get lv 0 = some (.retAddr 0)) (L1 : pm_get lv 1 = some (.ref 0)) (L2 : pm_get lv 2 = some (.ref 77)) (L3 : pm_get lv 3 = some (.int (nJ i))) (K : ∀ h', IVR h' → Ends (pm_tr (lb_all L xs)) (pm_Rt pm_P 100) (2392, lv, [], h', 599897, 7298671) RQ1) : Ends (pm_tr (lb_all L xs)) (pm_Rt pm_P 100) (2167, lv, [], h, 599897, 7298671) RQ1 := by
  refine E_al rfl L1 ?_
  refine E_alr rfl L0 ?_
  refine E_il rfl L3 ?_
  refine E_ci 1 rfl ci1 ?_
  refine E_bin rfl (nJ_add _ _) ?_
  refine E_sld rfl (by first | decide | with_reducible assumption | omega) hL ?_
  refine E_call rfl (c8_image I) (chkR (a := 0) I.1.1 rfl rfl rfl rfl (by show 0 ≤ 8; decide)) (fun h1 r1 => ?_)
  rintro ⟨I1, x1, f1, J1⟩
  rw [f1]
  show Ends _ _ (2176, lv, [.int x1], h1, 599897, 7298671) _
  refine E_pop rfl rfl ?_
  refine E_al rfl L2 ?_
  refine E_alr rfl L0 ?_
  refine E_il rfl L3 ?_
  refine E_ci 1 rfl ci1 ?_
  refine E_bin rfl (nJ_add _ _) ?_
  refine E_sld rfl (by first | decide | with_reducible assumption | omega) hL ?_
  refine E_call rfl (c9_image I1 J1) (chkR (a := 77) I1.1 rfl rfl rfl rfl (by show 0 ≤ 8; decide)) (fun h2 r2 => ?_)
  rintro ⟨I2, f2⟩
  rw [f2]
  show Ends _ _ (2186, lv, [.int x1], h2, 599897, 7298671) _
  refine E_pop rfl rfl ?_
  refine E_goto rfl ?_
  exact K _ I2
set_option maxRecDepth 20000 in
theorem bl_78 {L : Nat} {xs : Nat → Int32} (hL : L ≤ 3072) {h : pm_H} {i : Nat} (hi : i + 6 ≤ L) (lv : List (Nat × Value)) (I : IVR h) (L0 : pm_get lv 0 = some (.retAddr 0)) (L1 : pm_get lv 1 = some (.ref 0)) (L2 : pm_get lv 2 = some (.ref 77)) (L3 : pm_get lv 3 = some (.int (nJ i))) (K : ∀ h', IVR h' → Ends (pm_tr (lb_all L xs)) (pm_Rt pm_P 100) (2392, lv, [], h', 599897, 7298671) RQ1) : Ends (pm_tr (lb_all L xs)) (pm_Rt pm_P 100) (2190, lv, [], h, 599897, 7298671) RQ1 := by
  refine E_al rfl L1 ?_
  refine E_alr rfl L0 ?_
  refine E_il rfl L3 ?_
  refine E_ci 1 rfl ci1 ?_
  refine E_bin rfl (nJ_add _ _) ?_
  refine E_sld rfl (by first | decide | with_reducible assumption | omega) hL ?_
  refine E_call rfl (c8_back I) (chkR (a := 0) I.1.1 rfl rfl rfl rfl (by show 0 ≤ 8; decide)) (fun h1 r1 => ?_)
  rintro ⟨I1, x1, f1, J1⟩
  rw [f1]
  show Ends _ _ (2199, lv, [.int x1], h1, 599897, 7298671) _
  refine E_al rfl L2 ?_
  refine E_alr rfl L0 ?_
  refine E_il rfl L3 ?_
  refine E_ci 1 rfl ci1 ?_
  refine E_bin rfl (nJ_add _ _) ?_
  refine E_sld rfl (by first | decide | with_reducible assumption | omega) hL ?_
  refine E_call rfl (c9_back I1 J1) (chkR (a := 77) I1.1 rfl rfl rfl rfl (by show 1 ≤ 8; decide)) (fun h2 r2 => ?_)
  rintro ⟨I2, f2⟩
  rw [f2]
  show Ends _ _ (2208, lv, [.int x1, .int x1], h2, 599897, 7298671) _
  refine E_icT rfl (decide_eq_true rfl) ?_
  exact K _ I2
set_option maxRecDepth 20000 in
theorem bl_79 {L : Nat} {xs : Nat → Int32} (hL : L ≤ 3072) {h : pm_H} {i : Nat} (hi : i + 6 ≤ L) (lv : List (Nat × Value)) (I : IVR h) (L0 : pm_get lv 0 = some (.retAddr 0)) (L1 : pm_get lv 1 = some (.ref 0)) (L2 : pm_get lv 2 = some (.ref 77)) (L3 : pm_get lv 3 = some (.int (nJ i))) (K : ∀ h', IVR h' → Ends (pm_tr (lb_all L xs)) (pm_Rt pm_P 100) (2392, lv, [], h', 599897, 7298671) RQ1) : Ends (pm_tr (lb_all L xs)) (pm_Rt pm_P 100) (2213, lv, [], h, 599897, 7298671) RQ1 := by
  refine E_al rfl L1 ?_
  refine E_alr rfl L0 ?_
  refine E_il rfl L3 ?_
  refine E_ci 1 rfl ci1 ?_
  refine E_bin rfl (nJ_add _ _) ?_
  refine E_sld rfl (by first | decide | with_reducible assumption | omega) hL ?_
  refine E_alr rfl L0 ?_
  refine E_il rfl L3 ?_
  refine E_ci 2 rfl ci2 ?_
  refine E_bin rfl (nJ_add _ _) ?_
  refine E_sld rfl (by first | decide | with_reducible assumption | omega) hL ?_
  refine E_alr rfl L0 ?_
  refine E_il rfl L3 ?_
  refine E_ci 3 rfl ci3 ?_
  refine E_bin rfl (nJ_add _ _) ?_
  refine E_sld rfl (by first | decide | with_reducible assumption | omega) hL ?_
  refine E_call rfl (tR_int (by decide +kernel) (by decide +kernel) I.2 (top_int (as := [.ref 0, .int (xs ((i + 1))), .int (xs ((i + 2))), .int (xs ((i + 3)))]) q949 (by decide +kernel) (by decide +kernel) I.1 ⟨rfl, aI _, aI _, aI _, trivial⟩)) (chkR (a := 0) I.1.1 rfl rfl rfl rfl (by show 0 ≤ 8; decide)) (fun h1 r1 => ?_)
  rintro ⟨I1, x1, f1⟩
  rw [f1]
  show Ends _ _ (2232, lv, [.int x1], h1, 599897, 7298671) _
  refine E_pop rfl rfl ?_
  refine E_al rfl L2 ?_
  refine E_alr rfl L0 ?_
  refine E_il rfl L3 ?_
  refine E_ci 1 rfl ci1 ?_
  refine E_bin rfl (nJ_add _ _) ?_
  refine E_sld rfl (by first | decide | with_reducible assumption | omega) hL ?_
  refine E_alr rfl L0 ?_
  refine E_il rfl L3 ?_
  refine E_ci 2 rfl ci2 ?_
  refine E_bin rfl (nJ_add _ _) ?_
  refine E_sld rfl (by first | decide | with_reducible assumption | omega) hL ?_
  refine E_alr rfl L0 ?_
  refine E_il rfl L3 ?_
  refine E_ci 3 rfl ci3 ?_
  refine E_bin rfl (nJ_add _ _) ?_
  refine E_sld rfl (by first | decide | with_reducible assumption | omega) hL ?_
  refine E_call rfl (tR_int (by decide +kernel) (by decide +kernel) I1.2 (top_int (as := [.ref 77, .int (xs ((i + 1))), .int (xs ((i + 2))), .int (xs ((i + 3)))]) q950 (by decide +kernel) (by decide +kernel) I1.1 ⟨rfl, aI _, aI _, aI _, trivial⟩)) (chkR (a := 77) I1.1.1 rfl rfl rfl rfl (by show 0 ≤ 8; decide)) (fun h2 r2 => ?_)
  rintro ⟨I2, x2, f2⟩
  rw [f2]
  show Ends _ _ (2252, lv, [.int x2], h2, 599897, 7298671) _
  refine E_pop rfl rfl ?_
  refine E_goto rfl ?_
  exact K _ I2
set_option maxRecDepth 20000 in
theorem bl_80 {L : Nat} {xs : Nat → Int32} (hL : L ≤ 3072) {h : pm_H} {i : Nat} (hi : i + 6 ≤ L) (lv : List (Nat × Value)) (I : IVR h) (L0 : pm_get lv 0 = some (.retAddr 0)) (L1 : pm_get lv 1 = some (.ref 0)) (L2 : pm_get lv 2 = some (.ref 77)) (L3 : pm_get lv 3 = some (.int (nJ i))) (K : ∀ h', IVR h' → Ends (pm_tr (lb_all L xs)) (pm_Rt pm_P 100) (2392, lv, [], h', 599897, 7298671) RQ1) : Ends (pm_tr (lb_all L xs)) (pm_Rt pm_P 100) (2256, lv, [], h, 599897, 7298671) RQ1 := by
  refine E_al rfl L1 ?_
  refine E_alr rfl L0 ?_
  refine E_il rfl L3 ?_
  refine E_ci 1 rfl ci1 ?_
  refine E_bin rfl (nJ_add _ _) ?_
  refine E_sld rfl (by first | decide | with_reducible assumption | omega) hL ?_
  refine E_alr rfl L0 ?_
  refine E_il rfl L3 ?_
  refine E_ci 2 rfl ci2 ?_
  refine E_bin rfl (nJ_add _ _) ?_
  refine E_sld rfl (by first | decide | with_reducible assumption | omega) hL ?_
  refine E_alr rfl L0 ?_
  refine E_il rfl L3 ?_
  refine E_ci 3 rfl ci3 ?_
  refine E_bin rfl (nJ_add _ _) ?_
  refine E_sld rfl (by first | decide | with_reducible assumption | omega) hL ?_
  refine E_i2l rfl ?_
  refine E_ci 32 rfl ci32 ?_
  refine E_lsh rfl ?_
  refine E_alr rfl L0 ?_
  refine E_il rfl L3 ?_
  refine E_ci 4 rfl ci4 ?_
  refine E_bin rfl (nJ_add _ _) ?_
  refine E_sld rfl (by first | decide | with_reducible assumption | omega) hL ?_
  refine E_i2l rfl ?_
  refine E_c rfl ?_
  refine E_lbin rfl ?_
  refine E_lbin rfl ?_
  refine E_call rfl (tR_int (by decide +kernel) (by decide +kernel) I.2 (top_int (as := [.ref 0, .int (xs ((i + 1))), .int (xs ((i + 2))), .long _]) q952 (by decide +kernel) (by decide +kernel) I.1 ⟨rfl, aI _, aI _, aL _, trivial⟩)) (chkR (a := 0) I.1.1 rfl rfl rfl rfl (by show 0 ≤ 8; decide)) (fun h1 r1 => ?_)
  rintro ⟨I1, x1, f1⟩
  rw [f1]
  show Ends _ _ (2290, lv, [.int x1], h1, 599897, 7298671) _
  refine E_pop rfl rfl ?_
  refine E_al rfl L2 ?_
  refine E_alr rfl L0 ?_
  refine E_il rfl L3 ?_
  refine E_ci 1 rfl ci1 ?_
  refine E_bin rfl (nJ_add _ _) ?_
  refine E_sld rfl (by first | decide | with_reducible assumption | omega) hL ?_
  refine E_alr rfl L0 ?_
  refine E_il rfl L3 ?_
  refine E_ci 2 rfl ci2 ?_
  refine E_bin rfl (nJ_add _ _) ?_
  refine E_sld rfl (by first | decide | with_reducible assumption | omega) hL ?_
  refine E_alr rfl L0 ?_
  refine E_il rfl L3 ?_
  refine E_ci 3 rfl ci3 ?_
  refine E_bin rfl (nJ_add _ _) ?_
  refine E_sld rfl (by first | decide | with_reducible assumption | omega) hL ?_
  refine E_i2l rfl ?_
  refine E_ci 32 rfl ci32 ?_
  refine E_lsh rfl ?_
  refine E_alr rfl L0 ?_
  refine E_il rfl L3 ?_
  refine E_ci 4 rfl ci4 ?_
  refine E_bin rfl (nJ_add _ _) ?_
  refine E_sld rfl (by first | decide | with_reducible assumption | omega) hL ?_
  refine E_i2l rfl ?_
  refine E_c rfl ?_
  refine E_lbin rfl ?_
  refine E_lbin rfl ?_
  refine E_call rfl (tR_int (by decide +kernel) (by decide +kernel) I1.2 (top_int (as := [.ref 77, .int (xs ((i + 1))), .int (xs ((i + 2))), .long _]) q955 (by decide +kernel) (by decide +kernel) I1.1 ⟨rfl, aI _, aI _, aL _, trivial⟩)) (chkR (a := 77) I1.1.1 rfl rfl rfl rfl (by show 0 ≤ 8; decide)) (fun h2 r2 => ?_)
  rintro ⟨I2, x2, f2⟩
  rw [f2]
  show Ends _ _ (2325, lv, [.int x2], h2, 599897, 7298671) _
  refine E_pop rfl rfl ?_
  refine E_goto rfl ?_
  exact K _ I2
set_option maxRecDepth 20000 in
theorem bl_81 {L : Nat} {xs : Nat → Int32} (hL : L ≤ 3072) {h : pm_H} {i : Nat} (hi : i + 6 ≤ L) (lv : List (Nat × Value)) (I : IVR h) (L0 : pm_get lv 0 = some (.retAddr 0)) (L1 : pm_get lv 1 = some (.ref 0)) (L2 : pm_get lv 2 = some (.ref 77)) (L3 : pm_get lv 3 = some (.int (nJ i))) (K : ∀ h', IVR h' → Ends (pm_tr (lb_all L xs)) (pm_Rt pm_P 100) (2392, lv, [], h', 599897, 7298671) RQ1) : Ends (pm_tr (lb_all L xs)) (pm_Rt pm_P 100) (2329, lv, [], h, 599897, 7298671) RQ1 := by
  refine E_al rfl L1 ?_
  refine E_alr rfl L0 ?_
  refine E_il rfl L3 ?_
  refine E_ci 1 rfl ci1 ?_
  refine E_bin rfl (nJ_add _ _) ?_
  refine E_sld rfl (by first | decide | with_reducible assumption | omega) hL ?_
  refine E_alr rfl L0 ?_
  refine E_il rfl L3 ?_
  refine E_ci 2 rfl ci2 ?_
  refine E_bin rfl (nJ_add _ _) ?_
  refine E_sld rfl (by first | decide | with_reducible assumption | omega) hL ?_
  refine E_alr rfl L0 ?_
  refine E_il rfl L3 ?_
  refine E_ci 3 rfl ci3 ?_
  refine E_bin rfl (nJ_add _ _) ?_
  refine E_sld rfl (by first | decide | with_reducible assumption | omega) hL ?_
  refine E_alr rfl L0 ?_
  refine E_il rfl L3 ?_
  refine E_ci 4 rfl ci4 ?_
  refine E_bin rfl (nJ_add _ _) ?_
  refine E_sld rfl (by first | decide | with_reducible assumption | omega) hL ?_
  refine E_alr rfl L0 ?_
  refine E_il rfl L3 ?_
  refine E_ci 5 rfl ci5 ?_
  refine E_bin rfl (nJ_add _ _) ?_
  refine E_sld rfl (by first | decide | with_reducible assumption | omega) hL ?_
  refine E_call rfl (tR_int (by decide +kernel) (by decide +kernel) I.2 (top_PQ I.1)) (chkR (a := 0) I.1.1 rfl rfl rfl rfl (by show 0 ≤ 8; decide)) (fun h1 r1 => ?_)
  rintro ⟨I1, x1, f1⟩
  rw [f1]
  show Ends _ _ (2358, lv, [.int x1], h1, 599897, 7298671) _
  refine E_pop rfl rfl ?_
  refine E_al rfl L2 ?_
  refine E_alr rfl L0 ?_
  refine E_il rfl L3 ?_
  refine E_ci 1 rfl ci1 ?_
  refine E_bin rfl (nJ_add _ _) ?_
  refine E_sld rfl (by first | decide | with_reducible assumption | omega) hL ?_
  refine E_alr rfl L0 ?_
  refine E_il rfl L3 ?_
  refine E_ci 2 rfl ci2 ?_
  refine E_bin rfl (nJ_add _ _) ?_
  refine E_sld rfl (by first | decide | with_reducible assumption | omega) hL ?_
  refine E_alr rfl L0 ?_
  refine E_il rfl L3 ?_
  refine E_ci 3 rfl ci3 ?_
  refine E_bin rfl (nJ_add _ _) ?_
  refine E_sld rfl (by first | decide | with_reducible assumption | omega) hL ?_
  refine E_alr rfl L0 ?_
  refine E_il rfl L3 ?_
  refine E_ci 4 rfl ci4 ?_
  refine E_bin rfl (nJ_add _ _) ?_
  refine E_sld rfl (by first | decide | with_reducible assumption | omega) hL ?_
  refine E_alr rfl L0 ?_
  refine E_il rfl L3 ?_
  refine E_ci 5 rfl ci5 ?_
  refine E_bin rfl (nJ_add _ _) ?_
  refine E_sld rfl (by first | decide | with_reducible assumption | omega) hL ?_
  refine E_call rfl (tR_int (by decide +kernel) (by decide +kernel) I1.2 (top_int (as := [.ref 77, .int (xs ((i + 1))), .int (xs ((i + 2))), .int (xs ((i + 3))), .int (xs ((i + 4))), .int (xs ((i + 5)))]) q961 (by decide +kernel) (by decide +kernel) I1.1 ⟨rfl, aI _, aI _, aI _, aI _, aI _, trivial⟩)) (chkR (a := 77) I1.1.1 rfl rfl rfl rfl (by show 0 ≤ 8; decide)) (fun h2 r2 => ?_)
  rintro ⟨I2, x2, f2⟩
  rw [f2]
  show Ends _ _ (2388, lv, [.int x2], h2, 599897, 7298671) _
  refine E_pop rfl rfl ?_
  refine E_goto rfl ?_
  exact K _ I2
end
