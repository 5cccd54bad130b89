section
/-! by hand: calls that change a row (written by gen_t18.py) -/
noncomputable def VM : List Rng := [(77, 0, 5), (77, 7, 13), (77, 16, 44), (83, 0, 4), (84, 0, 29), (85, 0, 79), (86, 0, 79), (87, 0, 299), (89, 0, 7), (90, 0, 9), (91, 0, 7), (92, 0, 8), (93, 0, 8), (94, 0, 8), (95, 0, 7), (96, 0, 17), (97, 0, 7), (98, 0, 8), (99, 0, 4), (100, 0, 5), (101, 0, 9), (102, 0, 71)]
noncomputable def VMI : List Rng := (88, 0, 2) :: VM
/-- what image answers -/
noncomputable def imv (v : Int32) : Int32 := if 0 ≤ v.toInt ∧ v.toInt ≤ 2 then 0 else -2
theorem imv_in {v : Int32} (h : 0 ≤ v.toInt ∧ v.toInt ≤ 2) : imv v = 0 := if_pos h
theorem imv_no {v : Int32} (h : ¬ (0 ≤ v.toInt ∧ v.toInt ≤ 2)) : imv v = -2 := if_neg h
/-- what back answers -/
noncomputable def bkv (A : Nat) (h : pm_H) (v : Int32) : Int32 := if 0 ≤ v.toInt ∧ v.toInt ≤ 2 then (if gi h A v.toInt.toNat = 0 then -6 else 0) else -2
theorem bkv_no {A : Nat} {h : pm_H} {v : Int32} (q : ¬ (0 ≤ v.toInt ∧ v.toInt ≤ 2)) : bkv A h v = -2 := if_neg q
theorem bkv_6 {A k : Nat} {h : pm_H} (hk : k ≤ 2) (e : gi h A k = 0) : bkv A h (nJ k) = -6 := by
  unfold bkv
  rw [nJ_toInt (by omega), if_pos (by omega), show (k : Int).toNat = k from by omega, if_pos e]
theorem bkv_0 {A k : Nat} {h : pm_H} (hk : k ≤ 2) (e : ¬ gi h A k = 0) : bkv A h (nJ k) = 0 := by
  unfold bkv
  rw [nJ_toInt (by omega), if_pos (by omega), show (k : Int).toNat = k from by omega, if_neg e]
theorem kp_in {A k : Nat} {g h0 : pm_H} (hg : HH g) (hA : hsF A = some (.inl (2, 3, [(0, 1)]))) (hk : k < 3) (e : ∀ j, gi g A j = gi h0 A j) : ∀ j, j < 3 → gi (pt g A k 1) A j = if nJ k = nJ j then 1 else gi h0 A j := by
  intro j hj
  by_cases q : k = j
  · subst q
    rw [if_pos rfl]
    exact gi_pt hg (bd_u hA hk) (by decide) (by decide)
  · rw [if_neg (fun z => q ((nJ_eq (by omega) (by omega)).mp z)), gi_ne (fun _ => by omega)]
    exact e j
theorem kp_out {A : Nat} {x : Int32} {g h0 : pm_H} (hx : ¬ (0 ≤ x.toInt ∧ x.toInt ≤ 2)) (e : ∀ j, gi g A j = gi h0 A j) : ∀ j, j < 3 → gi g A j = if x = nJ j then 1 else gi h0 A j := by
  intro j hj
  rw [if_neg (fun q => by subst q; rw [nJ_toInt (by omega)] at hx; omega)]
  exact e j
noncomputable def VQ (h0 h' : pm_H) (r : Option Value) : Prop := HH h' ∧ fr_g VM h0 h' ∧ RV h' ∧ ∃ x : Int32, r = some (.int x)
theorem RV_fr {M : List Rng} {h h' : pm_H} (hh : HH h) (hM : M.all (fun r => !(Nat.beq r.1 84) && (!(Nat.beq r.1 85) && !(Nat.beq r.1 87))) = true) (hf : fr_g M h h') (V : RV h) : RV h' := by
  have hm : ∀ a, (a = 84 ∨ a = 85 ∨ a = 87) → ∀ k, gn h' a k = gn h a k := fun a ha k => fr_gn hf (rg_no (List.all_eq_true.mpr fun q hq => by
    have := List.all_eq_true.mp hM q hq
    simp only [Bool.and_eq_true] at this
    rcases ha with rfl | rfl | rfl
    · exact this.1
    · exact this.2.1
    · exact this.2.2) k)
  exact RV_hi hh (fun k _ => hm 84 (.inl rfl) k) (fun k _ => hm 85 (.inr (.inl rfl)) k) (hm 87 (.inr (.inr rfl))) V
theorem FAg_fact {h : pm_H} (hh : HH h) (F : FAg 0 h) : w0.1.2.1 125 h := by
  show FA 87 0 87 2 3 20 h
  intro i hi _ t g h1 h2 h3
  have q := F i hi
  rw [show 60 * 0 + 3 * i = 0 + 3 * i by omega, show 0 + 3 * i + 2 = 2 + 3 * i by omega] at q
  have e1 : gi h 87 (0 + 3 * i) = t := by unfold gi; rw [h1]
  have e2 : gi h 87 (2 + 3 * i) = g := by unfold gi; rw [h2]
  have b1 := (ld_gi hh (bd_87a (k := 0 + 3 * i) (by omega) (by omega))).2
  have b2 := (ld_gi hh (bd_87c (k := 2 + 3 * i) (by omega) (by omega))).2
  rw [e1] at b1
  rw [e2] at b2
  unfold gn at q
  rw [e1, e2] at q
  dsimp only at b1 b2
  omega
/-- one more act -/
theorem RV_act {h g : pm_H} {K kd c x : Nat} (hh : HH h) (V : RV h) (hK : gn h 84 5 = K) (hK20 : K < 20) (e5 : gn g 84 5 = K + 1) (e84 : ∀ k, k ≠ 5 → gn g 84 k = gn h 84 k) (e85 : ∀ k, gn g 85 k = gn h 85 k) (e0 : gn g 87 (3 * K) = kd) (e1 : gn g 87 (3 * K + 1) = c) (e2 : gn g 87 (3 * K + 2) = x) (eo : ∀ k, k ≠ 3 * K → k ≠ 3 * K + 1 → k ≠ 3 * K + 2 → gn g 87 k = gn h 87 k) (hc : (kd = 0 → 1 ≤ x) ∧ (¬ kd = 0 → c < gn h 84 3 ∧ x < gn h 84 3)) : RV g := by
  have h8 : gn h 84 3 ≤ 8 := gn_hi hh rfl (by decide)
  refine ⟨fun r hr => ?_, fun r hr => ?_⟩
  · by_cases h0 : r = 0
    · subst h0
      obtain ⟨r1, r2, r3⟩ := V.1 0 hr
      refine ⟨by rw [e84 _ (by omega), e84 _ (by omega)]; exact r1, fun c' hc' => ?_, fun k hk => ?_⟩
      · rw [e84 _ (by omega)] at hc'
        rw [e85]; exact r2 c' hc'
      · rw [e84 (6 * 0 + 3) (by omega)]
        have hk : k < gn g 84 5 := hk
        by_cases ek : k = K
        · rw [show 60 * 0 + 3 * k = 3 * K by omega, e0, e1, e2]; exact hc
        · rw [eo _ (by omega) (by omega) (by omega), eo _ (by omega) (by omega) (by omega), eo _ (by omega) (by omega) (by omega)]
          exact r3 k (show k < gn h 84 5 by omega)
    · exact RI_copy (row_b hh (by omega)).1 (row_b hh (by omega)).2 (fun k hk => e84 _ (by omega)) (fun k hk => e85 _) (fun k hk => eo _ (by omega) (by omega) (by omega)) (V.1 r hr)
  · by_cases h0 : r = 0
    · subst h0
      intro i hi
      by_cases ek : i = K
      · rw [show 60 * 0 + 3 * i = 3 * K by omega, e0, e2]
        intro q
        have := (hc.2 q).2
        omega
      · rw [eo _ (by omega) (by omega) (by omega), eo _ (by omega) (by omega) (by omega)]
        exact V.2 0 hr i hi
    · exact FAg_copy (fun k hk => eo _ (by omega) (by omega) (by omega)) (V.2 r hr)
/-- fewer acts -/
theorem RV_less {h g : pm_H} (hh : HH h) (V : RV h) (e5 : gn g 84 5 ≤ gn h 84 5) (e84 : ∀ k, k ≠ 5 → gn g 84 k = gn h 84 k) (e85 : ∀ k, gn g 85 k = gn h 85 k) (e87 : ∀ k, gn g 87 k = gn h 87 k) : RV g := by
  refine ⟨fun r hr => ?_, fun r hr => FAg_copy (fun k _ => e87 _) (V.2 r hr)⟩
  by_cases h0 : r = 0
  · subst h0
    obtain ⟨r1, r2, r3⟩ := V.1 0 hr
    refine ⟨by rw [e84 _ (by omega), e84 _ (by omega)]; exact r1, fun c' hc' => ?_, fun k hk => ?_⟩
    · rw [e84 _ (by omega)] at hc'
      rw [e85]; exact r2 c' hc'
    · rw [e84 (6 * 0 + 3) (by omega), e87, e87, e87]
      have hk : k < gn g 84 5 := hk
      exact r3 k (show k < gn h 84 5 by omega)
  · exact RI_copy (row_b hh (by omega)).1 (row_b hh (by omega)).2 (fun k hk => e84 _ (by omega)) (fun k hk => e85 _) (fun k hk => e87 _) (V.1 r hr)
theorem rv_ci {a b : Int} {h : pm_H} {r : Option Value} (hv : rv_g h (some (.inl (cI a b))) r) : ∃ x : Int32, r = some (.int x) := by
  cases r with
  | none => exact hv.elim
  | some v => cases v with
    | int x => exact ⟨x, rfl⟩
    | _ => exact hv.elim
theorem E_zas {look : Nat → Option pm_I} {call : pm_Call} {Q : pm_H → Option Value → Prop} {pc n : Nat} {lv : List (Nat × Value)} {st : List Value} {h : pm_H} {z : Nat × Nat} {j : Nat} (h1 : look pc = some (.inl (s_zast n))) (hh : HH h) (hj : j < 3) (kk : Ends look call (n, lv, st, pt h 88 j 1, z) Q) : Ends look call (pc, lv, .int (nJ 1) :: .int (nJ j) :: .ref 88 :: st, h, z) Q := by
  obtain ⟨f, hx, hf⟩ := ar_of (a := 88) (t := 2) (len := 3) (p := [(0, 1)]) hh rfl
  have h2 := nJ_toInt (n := j) (by omega)
  have h3 : pm_ix (nJ j) 3 = true := ai_ix (by omega) (by omega)
  have h4 : (nJ j).toNatClampNeg = j := by show (nJ j).toInt.toNat = j; omega
  have h5 : pt h 88 j 1 = h.set 88 (.inl (2, 3, .inl (upd f j 1))) := by unfold pt; rw [hx]
  have h6 : vp_nar .boolean (nJ 1) = 1 := by decide
  refine E_st h1 ?_ kk
  simp only [s_zast, hx, h3, h4, cond_true, h5, h6]
theorem E_zal {look : Nat → Option pm_I} {call : pm_Call} {Q : pm_H → Option Value → Prop} {pc n : Nat} {lv : List (Nat × Value)} {st : List Value} {h : pm_H} {z : Nat × Nat} {j : Nat} (h1 : look pc = some (.inl (s_zald n))) (hh : HH h) (hj : j < 3) (kk : Ends look call (n, lv, .int (gi h 88 j) :: st, h, z) Q) : Ends look call (pc, lv, .int (nJ j) :: .ref 88 :: st, h, z) Q := by
  obtain ⟨f, hx, hf⟩ := ar_of (a := 88) (t := 2) (len := 3) (p := [(0, 1)]) hh rfl
  have h2 := nJ_toInt (n := j) (by omega)
  have h3 : pm_ix (nJ j) 3 = true := ai_ix (by omega) (by omega)
  have h4 : (nJ j).toNatClampNeg = j := by show (nJ j).toInt.toNat = j; omega
  refine E_st h1 ?_ kk
  simp only [s_zald, hx, h3, h4, cond_true, ← hf]
theorem sp_isPlace {h : pm_H} {d : Nat} {x : Int32} (hh : HH h) : Sp (d + 2) 276 h [.ref 77, .int x] (fun h' r => h' = h ∧ r = some (.int (zb (0 < (gi h 83 0).toInt ∧ 1 ≤ x.toInt ∧ x.toInt ≤ (gn h 84 0 : Int))))) := by
  refine Sp_of aiX9_isPlace rfl rfl rfl ?_
  refine E_al rfl (show pm_get (lv_args 0 [.ref 77, .int x]) 0 = _ from rfl) ?_
  refine E_call rfl (sp_isStreet hh) (chk77 hh rfl rfl (by show 0 ≤ 8; decide)) (fun h1 r1 => ?_)
  rintro ⟨e1, f1⟩
  rw [e1, f1]
  show Ends _ _ (4, (lv_args 0 [.ref 77, .int x]), [.int (zb (0 < (gi h 83 0).toInt))], h, 0, 0) _
  by_cases hb2 : ¬ (0 < (gi h 83 0).toInt)
  · refine E_ifT rfl (by rw [zb_F hb2]; rfl) ?_
    refine E_ci 0 rfl ci0 ?_
    exact E_rtz rfl (.inl rfl) ⟨rfl, by rw [zb_F (by omega)]⟩
  · refine E_ifF rfl (by rw [zb_T (Classical.not_not.mp hb2)]; rfl) ?_
    refine E_il rfl (show pm_get (lv_args 0 [.ref 77, .int x]) 1 = _ from rfl) ?_
    refine E_i2l rfl ?_
    refine E_c rfl ?_
    refine E_al rfl (show pm_get (lv_args 0 [.ref 77, .int x]) 0 = _ from rfl) ?_
    refine E_call rfl (sp_places hh) (chk77 hh rfl rfl (by show 4 ≤ 8; decide)) (fun h3 r3 => ?_)
    rintro ⟨e3, f3, c3⟩
    rw [e3, f3]
    show Ends _ _ (14, (lv_args 0 [.ref 77, .int x]), [.int (nJ (gn h 84 0)), .long (1), .long (x).toInt64], h, 0, 0) _
    refine E_i2l rfl ?_
    refine E_call rfl (sp_in (a := x.toInt) (b := 1) (c := ((((gn h 84 0)) : Nat) : Int)) (i2l_toInt _) rfl (i2l_nJ (by omega))) (chkS rfl (by show 0 ≤ 8; decide)) (fun h4 r4 => ?_)
    rintro ⟨e4, f4⟩
    rw [e4, f4]
    show Ends _ _ (18, (lv_args 0 [.ref 77, .int x]), [.int (zb (1 ≤ x.toInt ∧ x.toInt ≤ ((((gn h 84 0)) : Nat) : Int)))], h, 0, 0) _
    by_cases hb5 : ¬ (1 ≤ x.toInt ∧ x.toInt ≤ ((((gn h 84 0)) : Nat) : Int))
    · refine E_ifT rfl (by rw [zb_F hb5]; rfl) ?_
      refine E_ci 0 rfl ci0 ?_
      exact E_rtz rfl (.inl rfl) ⟨rfl, by rw [zb_F (by omega)]⟩
    · refine E_ifF rfl (by rw [zb_T (Classical.not_not.mp hb5)]; rfl) ?_
      refine E_ci 1 rfl ci1 ?_
      refine E_goto rfl ?_
      exact E_rtz rfl (.inr rfl) ⟨rfl, by rw [zb_T (by omega)]⟩
theorem sp_areTwo {h : pm_H} {d : Nat} {x y : Int32} (hh : HH h) : Sp (d + 3) 208 h [.ref 77, .int x, .int y] (fun h' r => h' = h ∧ r = some (.int (zb ((0 ≤ x.toInt ∧ x.toInt ≤ (gn h 84 3 : Int) - 1) ∧ (0 ≤ y.toInt ∧ y.toInt ≤ (gn h 84 3 : Int) - 1) ∧ ¬ x = y)))) := by
  refine Sp_of aiX9_areTwo rfl rfl rfl ?_
  refine E_al rfl (show pm_get (lv_args 0 [.ref 77, .int x, .int y]) 0 = _ from rfl) ?_
  refine E_il rfl (show pm_get (lv_args 0 [.ref 77, .int x, .int y]) 1 = _ from rfl) ?_
  refine E_i2l rfl ?_
  refine E_call rfl (sp_isCar hh) (chk77 hh rfl rfl (by show 0 ≤ 8; decide)) (fun h1 r1 => ?_)
  rintro ⟨e1, f1⟩
  rw [e1, f1]
  show Ends _ _ (6, (lv_args 0 [.ref 77, .int x, .int y]), [.int (zb (0 ≤ x.toInt ∧ x.toInt ≤ (gn h 84 3 : Int) - 1))], h, 0, 0) _
  by_cases hb2 : ¬ (0 ≤ x.toInt ∧ x.toInt ≤ (gn h 84 3 : Int) - 1)
  · refine E_ifT rfl (by rw [zb_F hb2]; rfl) ?_
    refine E_ci 0 rfl ci0 ?_
    exact E_rtz rfl (.inl rfl) ⟨rfl, by rw [zb_F (fun q => hb2 q.1)]⟩
  · refine E_ifF rfl (by rw [zb_T (Classical.not_not.mp hb2)]; rfl) ?_
    refine E_al rfl (show pm_get (lv_args 0 [.ref 77, .int x, .int y]) 0 = _ from rfl) ?_
    refine E_il rfl (show pm_get (lv_args 0 [.ref 77, .int x, .int y]) 2 = _ from rfl) ?_
    refine E_i2l rfl ?_
    refine E_call rfl (sp_isCar hh) (chk77 hh rfl rfl (by show 0 ≤ 8; decide)) (fun h3 r3 => ?_)
    rintro ⟨e3, f3⟩
    rw [e3, f3]
    show Ends _ _ (15, (lv_args 0 [.ref 77, .int x, .int y]), [.int (zb (0 ≤ y.toInt ∧ y.toInt ≤ (gn h 84 3 : Int) - 1))], h, 0, 0) _
    by_cases hb4 : ¬ (0 ≤ y.toInt ∧ y.toInt ≤ (gn h 84 3 : Int) - 1)
    · refine E_ifT rfl (by rw [zb_F hb4]; rfl) ?_
      refine E_ci 0 rfl ci0 ?_
      exact E_rtz rfl (.inl rfl) ⟨rfl, by rw [zb_F (fun q => hb4 q.2.1)]⟩
    · refine E_ifF rfl (by rw [zb_T (Classical.not_not.mp hb4)]; rfl) ?_
      refine E_il rfl (show pm_get (lv_args 0 [.ref 77, .int x, .int y]) 1 = _ from rfl) ?_
      refine E_il rfl (show pm_get (lv_args 0 [.ref 77, .int x, .int y]) 2 = _ from rfl) ?_
      by_cases hb5 : x = y
      · refine E_icT rfl (decide_eq_true hb5) ?_
        refine E_ci 0 rfl ci0 ?_
        exact E_rtz rfl (.inl rfl) ⟨rfl, by rw [zb_F (fun q => q.2.2 hb5)]⟩
      · refine E_icF rfl (decide_eq_false hb5) ?_
        refine E_ci 1 rfl ci1 ?_
        refine E_goto rfl ?_
        exact E_rtz rfl (.inr rfl) ⟨rfl, by rw [zb_T ⟨Classical.not_not.mp hb2, Classical.not_not.mp hb4, hb5⟩]⟩
theorem sp_does {h0 : pm_H} {d kd c x : Nat} (hh0 : HH h0) (hV : RV h0) (hK : gn h0 84 5 < 20) (hkd : kd ≤ 1) (hc7 : c ≤ 7) (hx8 : x ≤ 8) (hcond : (kd = 0 → 1 ≤ x) ∧ (¬ kd = 0 → c < gn h0 84 3 ∧ x < gn h0 84 3)) : Sp (d + 7) 238 h0 [.ref 77, .int (nJ kd), .int (nJ c), .int (nJ x)] (VQ h0) := by
  refine Sp_of aiX9_does rfl rfl rfl ?_
  refine E_ci 3 rfl ci3 ?_
  refine E_al rfl (show pm_get (lv_args 0 [.ref 77, .int (nJ kd), .int (nJ c), .int (nJ x)]) 0 = _ from rfl) ?_
  refine E_gr rfl hh0 (q := 84) rfl ?_
  refine E_ci 5 rfl ci5 ?_
  have b1 : gn h0 84 5 ≤ 20 := gn_hi hh0 rfl (by decide)
  refine E_ial rfl hh0 rfl (by omega) (by decide) (gi_gn hh0 rfl (by decide)) ?_
  refine E_bin rfl (nJ_mul _ _) ?_
  refine E_is rfl (fun lv2 L2_4 kp2 => ?_)
  have L2_0 := kp2 0 _ (nbz rfl) rfl (show pm_get (lv_args 0 [.ref 77, .int (nJ kd), .int (nJ c), .int (nJ x)]) 0 = _ from rfl)
  have L2_1 := kp2 1 _ (nbz rfl) rfl (show pm_get (lv_args 0 [.ref 77, .int (nJ kd), .int (nJ c), .int (nJ x)]) 1 = _ from rfl)
  have L2_2 := kp2 2 _ (nbz rfl) rfl (show pm_get (lv_args 0 [.ref 77, .int (nJ kd), .int (nJ c), .int (nJ x)]) 2 = _ from rfl)
  have L2_3 := kp2 3 _ (nbz rfl) rfl (show pm_get (lv_args 0 [.ref 77, .int (nJ kd), .int (nJ c), .int (nJ x)]) 3 = _ from rfl)
  refine E_al rfl L2_0 ?_
  refine E_gr rfl hh0 (q := 87) rfl ?_
  refine E_il rfl L2_4 ?_
  refine E_il rfl L2_1 ?_
  refine E_ias rfl hh0 rfl (by omega) (by decide) ?_
  have hh3 : HH (pt h0 87 ((3 * (gn h0 84 5))) (nJ kd)) := HH_ptn hh0 (bd_87a (by omega) (by omega)) (by omega) (by omega) (by omega)
  have fr3 : fr_g VM h0 (pt h0 87 ((3 * (gn h0 84 5))) (nJ kd)) := fr_ptr (l := 0) (u := 299) rfl (by omega) (by omega) (fr_rf VM h0)
  refine E_al rfl L2_0 ?_
  refine E_gr rfl hh3 (q := 87) rfl ?_
  refine E_il rfl L2_4 ?_
  refine E_ci 1 rfl ci1 ?_
  refine E_bin rfl (nJ_add _ _) ?_
  refine E_il rfl L2_2 ?_
  refine E_ias rfl hh3 rfl (by omega) (by decide) ?_
  have hh4 : HH (pt (pt h0 87 ((3 * (gn h0 84 5))) (nJ kd)) 87 (((3 * (gn h0 84 5)) + 1)) (nJ c)) := HH_ptn hh3 (bd_87b (by omega) (by omega)) (by omega) (by omega) (by omega)
  have fr4 : fr_g VM h0 (pt (pt h0 87 ((3 * (gn h0 84 5))) (nJ kd)) 87 (((3 * (gn h0 84 5)) + 1)) (nJ c)) := fr_ptr (l := 0) (u := 299) rfl (by omega) (by omega) fr3
  refine E_al rfl L2_0 ?_
  refine E_gr rfl hh4 (q := 87) rfl ?_
  refine E_il rfl L2_4 ?_
  refine E_ci 2 rfl ci2 ?_
  refine E_bin rfl (nJ_add _ _) ?_
  refine E_il rfl L2_3 ?_
  refine E_ias rfl hh4 rfl (by omega) (by decide) ?_
  have hh5 : HH (pt (pt (pt h0 87 ((3 * (gn h0 84 5))) (nJ kd)) 87 (((3 * (gn h0 84 5)) + 1)) (nJ c)) 87 (((3 * (gn h0 84 5)) + 2)) (nJ x)) := HH_ptn hh4 (bd_87c (by omega) (by omega)) (by omega) (by omega) (by omega)
  have fr5 : fr_g VM h0 (pt (pt (pt h0 87 ((3 * (gn h0 84 5))) (nJ kd)) 87 (((3 * (gn h0 84 5)) + 1)) (nJ c)) 87 (((3 * (gn h0 84 5)) + 2)) (nJ x)) := fr_ptr (l := 0) (u := 299) rfl (by omega) (by omega) fr4
  refine E_al rfl L2_0 ?_
  refine E_gr rfl hh5 (q := 84) rfl ?_
  refine E_ci 5 rfl ci5 ?_
  refine E_dup2 rfl rfl rfl ?_
  refine E_ial rfl hh5 rfl (by omega) (by decide) (show gi (pt (pt (pt h0 87 ((3 * (gn h0 84 5))) (nJ kd)) 87 (((3 * (gn h0 84 5)) + 1)) (nJ c)) 87 (((3 * (gn h0 84 5)) + 2)) (nJ x)) 84 5 = nJ ((gn h0 84 5)) from by rw [gi_ne (by first | exact gxx rfl | omega), gi_ne (by first | exact gxx rfl | omega), gi_ne (by first | exact gxx rfl | omega)]; exact gi_gn hh0 rfl (by decide)) ?_
  refine E_ci 1 rfl ci1 ?_
  refine E_bin rfl (nJ_add _ _) ?_
  refine E_ias rfl hh5 rfl (by omega) (by decide) ?_
  have hh6 : HH (pt (pt (pt (pt h0 87 ((3 * (gn h0 84 5))) (nJ kd)) 87 (((3 * (gn h0 84 5)) + 1)) (nJ c)) 87 (((3 * (gn h0 84 5)) + 2)) (nJ x)) 84 5 (nJ (((gn h0 84 5) + 1)))) := HH_ptn hh5 rfl (by omega) (by omega) (by omega)
  have fr6 : fr_g VM h0 (pt (pt (pt (pt h0 87 ((3 * (gn h0 84 5))) (nJ kd)) 87 (((3 * (gn h0 84 5)) + 1)) (nJ c)) 87 (((3 * (gn h0 84 5)) + 2)) (nJ x)) 84 5 (nJ (((gn h0 84 5) + 1)))) := fr_ptr (l := 0) (u := 29) rfl (by omega) (by omega) fr5
  refine E_al rfl L2_0 ?_
  have V2 : RV (pt (pt (pt (pt h0 87 ((3 * (gn h0 84 5))) (nJ kd)) 87 (((3 * (gn h0 84 5)) + 1)) (nJ c)) 87 (((3 * (gn h0 84 5)) + 2)) (nJ x)) 84 5 (nJ (((gn h0 84 5) + 1)))) := RV_act hh0 hV rfl hK (gn_ptn hh5 rfl (by omega) (by omega) (by omega)) (fun k hk => by rw [gn_ne (fun _ => hk), gn_ne (by first | exact gxx rfl | omega), gn_ne (by first | exact gxx rfl | omega), gn_ne (by first | exact gxx rfl | omega)]) (fun k => by rw [gn_ne (by first | exact gxx rfl | omega), gn_ne (by first | exact gxx rfl | omega), gn_ne (by first | exact gxx rfl | omega), gn_ne (by first | exact gxx rfl | omega)]) (kd := kd) (c := c) (x := x) (by rw [gn_ne (by first | exact gxx rfl | omega), gn_ne (by first | exact gxx rfl | omega), gn_ne (by first | exact gxx rfl | omega), gn_ptn hh0 (bd_87a (by omega) (by omega)) (by omega) (by omega) (by omega)]) (by rw [gn_ne (by first | exact gxx rfl | omega), gn_ne (by first | exact gxx rfl | omega), gn_ptn hh3 (bd_87b (by omega) (by omega)) (by omega) (by omega) (by omega)]) (by rw [gn_ne (by first | exact gxx rfl | omega), gn_ptn hh4 (bd_87c (by omega) (by omega)) (by omega) (by omega) (by omega)]) (fun k k1 k2 k3 => by rw [gn_ne (by first | exact gxx rfl | omega), gn_ne (fun _ => k3), gn_ne (fun _ => k2), gn_ne (fun _ => k1)]) hcond
  refine E_call rfl (Sp_le (by first | exact Nat.add_le_add_left (Nat.le_of_ble_eq_true rfl) _ | exact Nat.le_of_ble_eq_true rfl | omega) (Sp_sum (as := [.ref 77]) q150 hh6 ⟨rfl, trivial⟩ (fun _ hq => absurd hq List.not_mem_nil) (fun i hi => by rw [List.mem_singleton.mp hi]; exact FAg_fact hh6 (V2.2 0 (by omega))))) (chk77 hh6 rfl rfl (by show 0 ≤ 8; decide)) (fun h7 r7 => ?_)
  rintro ⟨hh7, fq7, C7, hC7, -, -, -, rv7⟩
  have e7 : r7 = none := by have e := List.mem_singleton.mp hC7; subst e; cases r7 with | none => rfl | some v => exact rv7.elim
  rw [e7]
  have fr7 : fr_g VM h0 h7 := fr_trans fr6 (fr_wk rfl fq7)
  have V7 : RV h7 := RV_fr hh6 rfl fq7 V2
  show Ends _ _ (52, lv2, [], h7, 0, 0) _
  refine E_al rfl L2_0 ?_
  have b8 : gn h7 77 27 ≤ 255 := gn_hi hh7 rfl (by decide)
  refine E_gf rfl hh7 rfl (gi_gn hh7 rfl (by decide)) ?_
  refine E_call rfl (Sp_le (by first | exact Nat.add_le_add_left (Nat.le_of_ble_eq_true rfl) _ | exact Nat.le_of_ble_eq_true rfl | omega) (Sp_sum (as := [.int (nJ ((gn h7 77 27)))]) q616 hh7 ⟨nJ_in (by omega) (by omega), trivial⟩ (fun _ hq => absurd hq List.not_mem_nil) (fun _ hq => absurd hq List.not_mem_nil))) (chkS rfl (by show 0 ≤ 8; decide)) (fun h9 r9 => ?_)
  rintro ⟨hh9, fq9, C9, hC9, -, -, -, rv9⟩
  have hC9 : C9 ∈ [([cI 3 255], [], [], some (.inl (cI 2 8))), ([cI 1 128], [], [], some (.inl (cI 1 1))), ([cI 0 0], [], [], some (.inl (cI 0 0)))] := hC9
  obtain ⟨x9, f9⟩ : ∃ x : Int32, r9 = some (.int x) := by
    rcases List.mem_cons.mp hC9 with e | e
    · subst e; exact rv_ci rv9
    · rcases List.mem_cons.mp e with e | e
      · subst e; exact rv_ci rv9
      · have e := List.mem_singleton.mp e; subst e; exact rv_ci rv9
  rw [f9]
  have fr9 : fr_g VM h0 h9 := fr_trans fr7 (fr_wk rfl fq9)
  have V9 : RV h9 := RV_fr hh7 rfl fq9 V7
  show Ends _ _ (59, lv2, [.int x9], h9, 0, 0) _
  exact E_rti rfl ⟨hh9, fr9, V9, _, rfl⟩
theorem tv_wants {h0 : pm_H} {d : Nat} {x y : Int32} (hh0 : HH h0) (hV : RV h0) : Sp (d + 40) 370 h0 [.ref 77, .int x, .int y] (VQ h0) := by
  refine Sp_of aiX9_wants rfl rfl rfl ?_
  have L0 : pm_get (lv_args 0 [.ref 77, .int x, .int y]) 0 = some (.ref 77) := rfl
  have L1 : pm_get (lv_args 0 [.ref 77, .int x, .int y]) 1 = some (.int x) := rfl
  have L2 : pm_get (lv_args 0 [.ref 77, .int x, .int y]) 2 = some (.int y) := rfl
  generalize lv_args 0 [.ref 77, .int x, .int y] = lv at L0 L1 L2 ⊢
  refine E_al rfl L0 ?_
  refine E_ci 0 rfl ci0 ?_
  refine E_pf rfl hh0 rfl ?_
  have hh1 : HH (pt h0 77 0 (nJ 0)) := HH_ptn hh0 rfl (by omega) (by omega) (by omega)
  have fr1 : fr_g VM h0 (pt h0 77 0 (nJ 0)) := fr_ptr (l := 0) (u := 0) rfl (by omega) (by omega) (fr_rf VM h0)
  have V0 : RV (pt h0 77 0 (nJ 0)) := RV_fr hh0 (M := [(77, 0, 0)]) rfl (fr_ptr (l := 0) (u := 0) rfl (by omega) (by omega) (fr_rf _ _)) hV
  refine E_al rfl L0 ?_
  refine E_il rfl L1 ?_
  refine E_i2l rfl ?_
  refine E_call rfl (sp_isCar hh1) (chk77 hh1 rfl rfl (by show 0 ≤ 8; decide)) (fun h2 r2 => ?_)
  rintro ⟨e2, f2⟩
  rw [e2, f2]
  show Ends _ _ (11, lv, [.int (zb (0 ≤ x.toInt ∧ x.toInt ≤ (gn (pt h0 77 0 (nJ 0)) 84 3 : Int) - 1))], (pt h0 77 0 (nJ 0)), 0, 0) _
  by_cases hb3 : ¬ (0 ≤ x.toInt ∧ x.toInt ≤ (gn (pt h0 77 0 (nJ 0)) 84 3 : Int) - 1)
  · refine E_ifT rfl (by rw [zb_F hb3]; rfl) ?_
    refine E_c rfl ?_
    exact E_rti rfl ⟨hh1, fr1, V0, _, rfl⟩
  · refine E_ifF rfl (by rw [zb_T (Classical.not_not.mp hb3)]; rfl) ?_
    have hcar := Classical.not_not.mp hb3
    refine E_al rfl L0 ?_
    refine E_il rfl L2 ?_
    refine E_call rfl (Sp_le (by first | exact Nat.add_le_add_left (Nat.le_of_ble_eq_true rfl) _ | exact Nat.le_of_ble_eq_true rfl | omega) (sp_isPlace (d := 0) hh1)) (chk77 hh1 rfl rfl (by show 0 ≤ 8; decide)) (fun h4 r4 => ?_)
    rintro ⟨e4, f4⟩
    rw [e4, f4]
    show Ends _ _ (19, lv, [.int (zb (0 < (gi (pt h0 77 0 (nJ 0)) 83 0).toInt ∧ 1 ≤ y.toInt ∧ y.toInt ≤ (gn (pt h0 77 0 (nJ 0)) 84 0 : Int)))], (pt h0 77 0 (nJ 0)), 0, 0) _
    by_cases hb5 : 0 < (gi (pt h0 77 0 (nJ 0)) 83 0).toInt ∧ 1 ≤ y.toInt ∧ y.toInt ≤ (gn (pt h0 77 0 (nJ 0)) 84 0 : Int)
    · refine E_ifT rfl (by rw [zb_T hb5]; rfl) ?_
      have hC8 : gn (pt h0 77 0 (nJ 0)) 84 3 ≤ 8 := gn_hi hh1 rfl (by decide)
      have hP8 : gn (pt h0 77 0 (nJ 0)) 84 0 ≤ 8 := gn_hi hh1 rfl (by decide)
      obtain ⟨k, hk, rfl⟩ := nJ_of2 (n := gn (pt h0 77 0 (nJ 0)) 84 3 - 1) hcar.1 (by have := hcar.2; have := hcar.1; omega)
      obtain ⟨p, hp, rfl⟩ := nJ_of2 (n := gn (pt h0 77 0 (nJ 0)) 84 0) (x := y) (by have := hb5.2.1; omega) hb5.2.2
      have hp1 : 1 ≤ p := by have h9 := hb5.2.1; rw [nJ_toInt (by omega)] at h9; omega
      refine E_al rfl L0 ?_
      refine E_gr rfl hh1 (q := 84) rfl ?_
      refine E_ci 5 rfl ci5 ?_
      have b6 : gn (pt h0 77 0 (nJ 0)) 84 5 ≤ 20 := gn_hi hh1 rfl (by decide)
      refine E_ial rfl hh1 rfl (by omega) (by decide) (gi_gn hh1 rfl (by decide)) ?_
      refine E_ci 20 rfl ci20 ?_
      by_cases hb7 : ¬ (gn (pt h0 77 0 (nJ 0)) 84 5) = 20
      · refine E_icT rfl (decide_eq_true (fun q => hb7 ((nJ_eq (by omega) (by omega)).mp q))) ?_
        refine E_al rfl L0 ?_
        refine E_ci 0 rfl ci0 ?_
        refine E_il rfl L1 ?_
        refine E_il rfl L2 ?_
        refine E_call rfl (Sp_le (by first | exact Nat.add_le_add_left (Nat.le_of_ble_eq_true rfl) _ | exact Nat.le_of_ble_eq_true rfl | omega) (sp_does (d := 0) hh1 V0 (by omega) (by omega) (by omega) (by omega) (by omega))) (chk77 hh1 rfl rfl (by show 0 ≤ 8; decide)) (fun h8 r8 => ?_)
        rintro ⟨hh8, fq8, V8, x8, f8⟩
        rw [f8]
        have fr8 : fr_g VM h0 h8 := fr_trans fr1 fq8
        show Ends _ _ (48, lv, [.int x8], h8, 0, 0) _
        exact E_rti rfl ⟨hh8, fr8, V8, _, rfl⟩
      · refine E_icF rfl (decide_eq_false (fun q => hb7 (fun z => q ((nJ_eq (by omega) (by omega)).mpr z)))) ?_
        refine E_c rfl ?_
        refine E_goto rfl ?_
        exact E_rti rfl ⟨hh1, fr1, V0, _, rfl⟩
    · refine E_ifF rfl (by rw [zb_F hb5]; rfl) ?_
      refine E_c rfl ?_
      exact E_rti rfl ⟨hh1, fr1, V0, _, rfl⟩
end
