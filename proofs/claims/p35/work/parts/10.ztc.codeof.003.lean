section
theorem tp_shifts {h0 : pm_H} {d : Nat} (hh0 : HH h0) (hR : RI 0 h0) : Sp (d + 30) 347 h0 [.ref 77] (TQ h0) := by
  refine Sp_of aiX9_shifts rfl rfl rfl ?_
  have L0 : pm_get (lv_args 0 [.ref 77]) 0 = some (.ref 77) := rfl
  generalize lv_args 0 [.ref 77] = lv at L0 ⊢
  refine E_al rfl L0 ?_
  refine E_ci 0 rfl ci0 ?_
  refine E_pf rfl hh0 rfl ?_
  have hh1 : HH (pt h0 77 0 (nJ 0)) := HH_ptn hh0 rfl (by omega) (by omega) (by omega)
  have fr1 : fr_g TM h0 (pt h0 77 0 (nJ 0)) := fr_ptr (l := 0) (u := 0) rfl (by omega) (by omega) (fr_rf TM h0)
  refine E_al rfl L0 ?_
  refine E_call rfl (sp_isStreet hh1) (chk77 hh1 rfl rfl (by show 0 ≤ 8; decide)) (fun h2 r2 => ?_)
  rintro ⟨e2, f2⟩
  rw [e2, f2]
  show Ends _ _ (9, lv, [.int (zb (0 < (gi (pt h0 77 0 (nJ 0)) 83 0).toInt))], (pt h0 77 0 (nJ 0)), 0, 0) _
  by_cases hb3 : 0 < (gi (pt h0 77 0 (nJ 0)) 83 0).toInt
  · refine E_ifT rfl (by rw [zb_T hb3]; rfl) ?_
    refine E_al rfl L0 ?_
    refine E_call rfl (Sp_le (by first | exact Nat.add_le_add_left (Nat.le_of_ble_eq_true rfl) _ | exact Nat.le_of_ble_eq_true rfl | omega) (sp_lays (d := 0) hh1 (RI_fr hR rfl fr1))) (chk77 hh1 rfl rfl (by show 0 ≤ 8; decide)) (fun h4 r4 => ?_)
    rintro ⟨e4, hh4, fq4, wq4⟩
    rw [e4]
    have fr4 : fr_g TM h0 h4 := fr_trans fr1 (fr_wk rfl fq4)
    show Ends _ _ (19, lv, [], h4, 0, 0) _
    refine E_ci 0 rfl ci0 ?_
    refine E_is rfl (fun lv5 L5_1 kp5 => ?_)
    have L5_0 := kp5 0 _ (nbz rfl) rfl L0
    refine E_ci 0 rfl ci0 ?_
    refine E_is rfl (fun lv6 L6_2 kp6 => ?_)
    have L6_0 := kp6 0 _ (nbz rfl) rfl L5_0
    have L6_1 := kp6 1 _ (nbz rfl) rfl L5_1
    have hP8 : gn h4 84 0 ≤ 8 := gn_hi hh4 rfl (by decide)
    exact sf_loop hR hP8 (gn h4 84 0 + 1) (k := 0) lv6 (by omega) hh4 fr4 wq4 rfl L6_0 L6_1 L6_2
  · refine E_ifF rfl (by rw [zb_F hb3]; rfl) ?_
    refine E_c rfl ?_
    exact E_rti rfl ⟨hh1, fr1, _, rfl⟩
end
section
/-! by hand: the reader (written by gen_t14.py) -/
section ENDR
variable {look : Nat → Option pm_I} {call : pm_Call} {Q : pm_H → Option Value → Prop} {pc n i t : Nat} {lv : List (Nat × Value)} {st : List Value} {w : pm_H × Nat × Nat} {h : pm_H} {z : Nat × Nat}
theorem E_bal {a len j : Nat} {p : List (Int × Int)} (h1 : look pc = some (.inl (s_bald n))) (hh : HH h) (hc : hsF a = some (.inl (1, len, p))) (hj : j < len) (hj2 : len < 2147483648) (kk : Ends look call (n, lv, .int (gi h a j) :: st, h, z) Q) : Ends look call (pc, lv, .int (nJ j) :: .ref a :: st, h, z) Q := by
  obtain ⟨f, hx, hf⟩ := ar_of hh hc
  have h2 := nJ_toInt (n := j) (by omega)
  have h3 : pm_ix (nJ j) len = true := ai_ix (by omega) (by omega)
  have h4 : (nJ j).toNatClampNeg = j := by show (nJ j).toInt.toNat = j; omega
  refine E_st h1 ?_ kk
  simp only [s_bald, hx, h3, h4, cond_true, ← hf]
noncomputable def lf77 (k : Nat) : Bool := match hsF (77 : Nat) with
  | some (.inr (.inr (.inr (_, fs)))) => (match fs[k]? with | some (.inr (.inl ())) => true | _ => false)
  | _ => false
theorem ob77l (hh : HH h) {k : Nat} (hk : lf77 k = true) : ∃ (vs : List Value) (x : Int64), h[77]? = some (.inr (9, vs)) ∧ vs[k]? = some (.long x) ∧ ∀ y : Int64, HH (h.set 77 (.inr (9, vs.set k (.long y)))) := by
  cases hc : hsF (77 : Nat) with
  | none => cases hc
  | some c =>
    have hc' := hc
    cases hc
    obtain ⟨x, hx, hg⟩ := hf_at hh hc'
    match x, hx, hg with
    | .inr (cq, vs), hx, hg =>
      obtain ⟨rfl, hlen, hall⟩ := hg
      unfold lf77 at hk
      rw [hc'] at hk
      dsimp only at hk
      split at hk
      · rename_i hf
        have hl := (List.getElem?_eq_some_iff.mp hf).1
        have hl' : k < vs.length := Nat.lt_of_lt_of_eq hl hlen.symm
        have hv := hall k _ _ hf (List.getElem?_eq_getElem hl')
        have e0 : vs[k]? = some vs[k] := List.getElem?_eq_getElem hl'
        generalize vs[k] = v at hv e0
        cases v with
        | long y =>
          refine ⟨vs, y, hx, e0, fun y2 => hf_set hh hc' ⟨rfl, by rw [List.length_set]; exact hlen, fun q c u h3 h4 => ?_⟩⟩
          by_cases hq : k = q
          · subst hq
            rw [List.getElem?_set_self hl'] at h4
            cases h4
            rw [hf] at h3
            cases h3
            trivial
          · rw [List.getElem?_set_ne hq] at h4
            exact hall q c u h3 h4
        | _ => exact hv.elim
      · cases hk
theorem E_gfl {k : Nat} (h1 : look pc = some (.inl (s_getf 9 k n))) (hh : HH h) (hk : lf77 k = true) (kk : ∀ x : Int64, Ends look call (n, lv, .long x :: st, h, z) Q) : Ends look call (pc, lv, .ref 77 :: st, h, z) Q := by
  obtain ⟨vs, x, hx, hv, -⟩ := ob77l hh hk
  refine E_st h1 ?_ (kk x)
  simp only [s_getf, hx, hv]
  rfl
theorem E_pfl {k : Nat} {y : Int64} (h1 : look pc = some (.inl (s_putf 9 k .long n))) (hh : HH h) (hk : lf77 k = true) (kk : ∀ h' : pm_H, HH h' → fr_g [(77, k, k)] h h' → Ends look call (n, lv, st, h', z) Q) : Ends look call (pc, lv, .long y :: .ref 77 :: st, h, z) Q := by
  obtain ⟨vs, x, hx, hv, hs⟩ := ob77l hh hk
  have h4 : Nat.blt k vs.length = true := Nat.ble_eq_true_of_le (List.getElem?_eq_some_iff.mp hv).1
  refine E_st h1 ?_ (kk (h.set 77 (.inr (9, vs.set k (.long y)))) (hs y) (fun b j hbj => ld_setf hx (fun hb hj => ?_)))
  · simp only [s_putf, hx, h4]
    rfl
  · subst hb; subst hj
    rw [rg_in_one (Nat.le_refl _) (Nat.le_refl _) (List.mem_singleton_self _)] at hbj
    cases hbj
end ENDR
/-- the reader: what is begun, where it stands, the tape's end -/
noncomputable def RR (h : pm_H) : Prop := HH h ∧ gn h 77 9 ≤ gn h 77 7 ∧ gn h 77 7 ≤ gn h 77 6 ∧ (gn h 77 8 = 0 ∨ gn h 77 9 < gn h 77 7)
noncomputable def FM : List Rng := [(77, 7, 11)]
noncomputable def BB : List Rng := [(77, 7, 13)]
theorem b500 {h : pm_H} (hh : HH h) : gn h 77 6 ≤ 500 := gn_hi hh rfl (by decide)
/-- a letter of a kind stands there -/
noncomputable def PB (h : pm_H) (k : Nat) (lo hi : Int32) : Prop := k < gn h 77 6 ∧ ¬ gi h 82 k < lo ∧ ¬ hi < gi h 82 k
theorem PB_eq {h h' : pm_H} {k k' : Nat} {lo hi : Int32} (h1 : gn h' 77 6 = gn h 77 6) (h2 : k' = k) (h3 : gi h' 82 k = gi h 82 k) (p : PB h k lo hi) : PB h' k' lo hi := by
  subst h2
  unfold PB at p ⊢
  rw [h1, h3]
  exact p
theorem sp_isByte {h : pm_H} {d k : Nat} {lo hi : Int32} (hh : HH h) (hk : k ≤ 500) : Sp (d + 1) 266 h [.ref 77, .int (nJ k), .int lo, .int hi] (fun h' r => h' = h ∧ (¬ PB h k lo hi ∧ r = some (.int (nJ 0)) ∨ PB h k lo hi ∧ r = some (.int (nJ 1)))) := by
  refine Sp_of aiX9_isByte rfl rfl rfl ?_
  refine E_il rfl (show pm_get (lv_args 0 [.ref 77, .int (nJ k), .int lo, .int hi]) 1 = _ from rfl) ?_
  refine E_al rfl (show pm_get (lv_args 0 [.ref 77, .int (nJ k), .int lo, .int hi]) 0 = _ from rfl) ?_
  have b1 : gn h 77 6 ≤ 500 := gn_hi hh rfl (by decide)
  refine E_gf rfl hh rfl (gi_gn hh rfl (by decide)) ?_
  by_cases hb2 : (gn h 77 6) ≤ k
  · refine E_icT rfl (decide_eq_true ((nJ_le (by omega) (by omega)).mpr hb2)) ?_
    refine E_ci 0 rfl ci0 ?_
    exact E_rtz rfl (.inl rfl) ⟨rfl, .inl ⟨fun q => by have := q.1; omega, rfl⟩⟩
  · refine E_icF rfl (decide_eq_false (fun q => hb2 ((nJ_le (by omega) (by omega)).mp q))) ?_
    refine E_al rfl (show pm_get (lv_args 0 [.ref 77, .int (nJ k), .int lo, .int hi]) 0 = _ from rfl) ?_
    refine E_gr rfl hh (q := 82) rfl ?_
    refine E_il rfl (show pm_get (lv_args 0 [.ref 77, .int (nJ k), .int lo, .int hi]) 1 = _ from rfl) ?_
    refine E_bal rfl hh rfl (by omega) (by decide) ?_
    refine E_il rfl (show pm_get (lv_args 0 [.ref 77, .int (nJ k), .int lo, .int hi]) 2 = _ from rfl) ?_
    by_cases hb3 : (gi h 82 k) < lo
    · refine E_icT rfl (decide_eq_true hb3) ?_
      refine E_ci 0 rfl ci0 ?_
      exact E_rtz rfl (.inl rfl) ⟨rfl, .inl ⟨fun q => q.2.1 hb3, rfl⟩⟩
    · refine E_icF rfl (decide_eq_false hb3) ?_
      have hA := hb3
      refine E_al rfl (show pm_get (lv_args 0 [.ref 77, .int (nJ k), .int lo, .int hi]) 0 = _ from rfl) ?_
      refine E_gr rfl hh (q := 82) rfl ?_
      refine E_il rfl (show pm_get (lv_args 0 [.ref 77, .int (nJ k), .int lo, .int hi]) 1 = _ from rfl) ?_
      refine E_bal rfl hh rfl (by omega) (by decide) ?_
      refine E_il rfl (show pm_get (lv_args 0 [.ref 77, .int (nJ k), .int lo, .int hi]) 3 = _ from rfl) ?_
      by_cases hb4 : hi < (gi h 82 k)
      · refine E_icT rfl (decide_eq_true hb4) ?_
        refine E_ci 0 rfl ci0 ?_
        exact E_rtz rfl (.inl rfl) ⟨rfl, .inl ⟨fun q => q.2.2 hb4, rfl⟩⟩
      · refine E_icF rfl (decide_eq_false hb4) ?_
        refine E_ci 1 rfl ci1 ?_
        refine E_goto rfl ?_
        exact E_rtz rfl (.inr rfl) ⟨rfl, .inr ⟨⟨by omega, hA, hb4⟩, rfl⟩⟩
theorem fo_let {h0 : pm_H} {d : Nat} (j : Nat) : ∀ {h : pm_H} {n : Int32} (lv : List (Nat × Value)), HH h → fr_g FM h0 h → gn h 77 7 + j = gn h 77 6 → gn h 77 9 ≤ gn h 77 7 → gn h0 77 7 ≤ gn h 77 9 → (gn h 77 9 < gn h 77 7 ∨ PB h (gn h 77 7) (nJ 97) (nJ 122)) → pm_get lv 0 = some (.ref 77) → pm_get lv 1 = some (.int n) → Ends (pm_at tX9_follows) (pm_Rt pm_P (d + 1)) (102, lv, [], h, 0, 0) (fun h' r => r = none ∧ RR h' ∧ fr_g FM h0 h' ∧ gn h0 77 7 ≤ gn h' 77 9) := by
  induction j with
  | zero =>
    intro h n lv hh hfr hj hb1 hb2 hb3 L0 L1
    have h5 := b500 hh
    refine E_al rfl L0 ?_
    refine E_al rfl L0 ?_
    have b1 : gn h 77 7 ≤ 500 := gn_hi hh rfl (by decide)
    refine E_gf rfl hh rfl (gi_gn hh rfl (by decide)) ?_
    refine E_ci 97 rfl ci97 ?_
    refine E_ci 122 rfl ci122 ?_
    refine E_call rfl (Sp_le (by first | exact Nat.add_le_add_left (Nat.le_of_ble_eq_true rfl) _ | exact Nat.le_of_ble_eq_true rfl | omega) (sp_isByte (d := 0) hh (by omega))) (chk77 hh rfl rfl (by show 0 ≤ 8; decide)) (fun h2 r2 => ?_)
    rintro ⟨e2, f2⟩
    rw [e2]
    rcases f2 with ⟨pb2, f2⟩ | ⟨pb2, f2⟩
    · rw [f2]
      have hx := hb3.resolve_right pb2
      show Ends _ _ (114, lv, [.int (nJ 0)], h, 0, 0) _
      refine E_ifT rfl (by decide) ?_
      refine E_goto rfl ?_
      exact E_ret rfl ⟨rfl, ⟨hh, by omega, by omega, by omega⟩, hfr, by omega⟩
    · rw [f2]
      have lt2 := pb2.1
      show Ends _ _ (114, lv, [.int (nJ 1)], h, 0, 0) _
      refine E_ifF rfl (by decide) ?_
      refine E_al rfl L0 ?_
      refine E_il rfl L1 ?_
      refine E_ci 11 rfl ci11 ?_
      by_cases hb3 : n ≤ (nJ 11)
      · refine E_icT rfl (decide_eq_true hb3) ?_
        refine E_c rfl ?_
        refine E_al rfl L0 ?_
        refine E_gfl rfl hh rfl (fun x4 => ?_)
        refine E_lbin rfl ?_
        refine E_al rfl L0 ?_
        refine E_gr rfl hh (q := 82) rfl ?_
        refine E_al rfl L0 ?_
        have b5 : gn h 77 7 ≤ 500 := gn_hi hh rfl (by decide)
        refine E_gf rfl hh rfl (gi_gn hh rfl (by decide)) ?_
        refine E_bal rfl hh rfl (by omega) (by decide) ?_
        refine E_i2l rfl ?_
        refine E_lbin rfl ?_
        refine E_c rfl ?_
        refine E_lbin rfl ?_
        refine E_pfl rfl hh rfl (fun h6 hh6 fl6 => ?_)
        have fr6 : fr_g FM h0 h6 := fr_trans hfr (fr_wk rfl fl6)
        have t6_0 : gn h6 77 6 = gn h 77 6 := fr_gn fl6 rfl
        have t6_1 : gn h6 77 7 = gn h 77 7 := fr_gn fl6 rfl
        have t6_2 : gn h6 77 8 = gn h 77 8 := fr_gn fl6 rfl
        have t6_3 : gn h6 77 9 = gn h 77 9 := fr_gn fl6 rfl
        have t6_4 : gn h6 77 12 = gn h 77 12 := fr_gn fl6 rfl
        refine E_il rfl L1 ?_
        refine E_ci 11 rfl ci11 ?_
        by_cases hb7 : n ≤ (nJ 11)
        · refine E_icT rfl (decide_eq_true hb7) ?_
          refine E_al rfl L0 ?_
          refine E_dup rfl rfl ?_
          have b8 : gn h6 77 7 ≤ 500 := gn_hi hh6 rfl (by decide)
          refine E_gf rfl hh6 rfl (gi_gn hh6 rfl (by decide)) ?_
          refine E_ci 1 rfl ci1 ?_
          refine E_bin rfl (nJ_add _ _) ?_
          refine E_pf rfl hh6 rfl ?_
          have hh9 : HH (pt h6 77 7 (nJ (((gn h6 77 7) + 1)))) := HH_ptn hh6 rfl (by omega) (by omega) (by omega)
          have fr9 : fr_g FM h0 (pt h6 77 7 (nJ (((gn h6 77 7) + 1)))) := fr_ptr (l := 7) (u := 7) rfl (by omega) (by omega) fr6
          have t9_0 : gn (pt h6 77 7 (nJ (((gn h6 77 7) + 1)))) 77 6 = gn h6 77 6 := gn_ne (by first | exact gxx rfl | omega)
          have t9_1 : gn (pt h6 77 7 (nJ (((gn h6 77 7) + 1)))) 77 7 = ((gn h6 77 7) + 1) := gn_ptn hh6 rfl (by omega) (by omega) (by omega)
          have t9_2 : gn (pt h6 77 7 (nJ (((gn h6 77 7) + 1)))) 77 8 = gn h6 77 8 := gn_ne (by first | exact gxx rfl | omega)
          have t9_3 : gn (pt h6 77 7 (nJ (((gn h6 77 7) + 1)))) 77 9 = gn h6 77 9 := gn_ne (by first | exact gxx rfl | omega)
          have t9_4 : gn (pt h6 77 7 (nJ (((gn h6 77 7) + 1)))) 77 12 = gn h6 77 12 := gn_ne (by first | exact gxx rfl | omega)
          generalize hz9 : (pt h6 77 7 (nJ (((gn h6 77 7) + 1)))) = g9 at hh9 fr9 t9_0 t9_1 t9_2 t9_3 t9_4 ⊢
          refine E_inc rfl L1 rfl (fun lv10 L10_1 kp10 => ?_)
          have L10_0 := kp10 0 _ (nbz rfl) rfl L0
          refine E_goto rfl ?_
          exfalso; omega
        · refine E_icF rfl (decide_eq_false hb7) ?_
          refine E_al rfl L0 ?_
          refine E_c rfl ?_
          refine E_pfl rfl hh6 rfl (fun h11 hh11 fl11 => ?_)
          have fr11 : fr_g FM h0 h11 := fr_trans fr6 (fr_wk rfl fl11)
          have t11_0 : gn h11 77 6 = gn h6 77 6 := fr_gn fl11 rfl
          have t11_1 : gn h11 77 7 = gn h6 77 7 := fr_gn fl11 rfl
          have t11_2 : gn h11 77 8 = gn h6 77 8 := fr_gn fl11 rfl
          have t11_3 : gn h11 77 9 = gn h6 77 9 := fr_gn fl11 rfl
          have t11_4 : gn h11 77 12 = gn h6 77 12 := fr_gn fl11 rfl
          refine E_al rfl L0 ?_
          refine E_dup rfl rfl ?_
          have b12 : gn h11 77 7 ≤ 500 := gn_hi hh11 rfl (by decide)
          refine E_gf rfl hh11 rfl (gi_gn hh11 rfl (by decide)) ?_
          refine E_ci 1 rfl ci1 ?_
          refine E_bin rfl (nJ_add _ _) ?_
          refine E_pf rfl hh11 rfl ?_
          have hh13 : HH (pt h11 77 7 (nJ (((gn h11 77 7) + 1)))) := HH_ptn hh11 rfl (by omega) (by omega) (by omega)
          have fr13 : fr_g FM h0 (pt h11 77 7 (nJ (((gn h11 77 7) + 1)))) := fr_ptr (l := 7) (u := 7) rfl (by omega) (by omega) fr11
          have t13_0 : gn (pt h11 77 7 (nJ (((gn h11 77 7) + 1)))) 77 6 = gn h11 77 6 := gn_ne (by first | exact gxx rfl | omega)
          have t13_1 : gn (pt h11 77 7 (nJ (((gn h11 77 7) + 1)))) 77 7 = ((gn h11 77 7) + 1) := gn_ptn hh11 rfl (by omega) (by omega) (by omega)
          have t13_2 : gn (pt h11 77 7 (nJ (((gn h11 77 7) + 1)))) 77 8 = gn h11 77 8 := gn_ne (by first | exact gxx rfl | omega)
          have t13_3 : gn (pt h11 77 7 (nJ (((gn h11 77 7) + 1)))) 77 9 = gn h11 77 9 := gn_ne (by first | exact gxx rfl | omega)
          have t13_4 : gn (pt h11 77 7 (nJ (((gn h11 77 7) + 1)))) 77 12 = gn h11 77 12 := gn_ne (by first | exact gxx rfl | omega)
          generalize hz13 : (pt h11 77 7 (nJ (((gn h11 77 7) + 1)))) = g13 at hh13 fr13 t13_0 t13_1 t13_2 t13_3 t13_4 ⊢
          refine E_inc rfl L1 rfl (fun lv14 L14_1 kp14 => ?_)
          have L14_0 := kp14 0 _ (nbz rfl) rfl L0
          refine E_goto rfl ?_
          exfalso; omega
      · refine E_icF rfl (decide_eq_false hb3) ?_
        refine E_c rfl ?_
        refine E_goto rfl ?_
        refine E_pfl rfl hh rfl (fun h15 hh15 fl15 => ?_)
        have fr15 : fr_g FM h0 h15 := fr_trans hfr (fr_wk rfl fl15)
        have t15_0 : gn h15 77 6 = gn h 77 6 := fr_gn fl15 rfl
        have t15_1 : gn h15 77 7 = gn h 77 7 := fr_gn fl15 rfl
        have t15_2 : gn h15 77 8 = gn h 77 8 := fr_gn fl15 rfl
        have t15_3 : gn h15 77 9 = gn h 77 9 := fr_gn fl15 rfl
        have t15_4 : gn h15 77 12 = gn h 77 12 := fr_gn fl15 rfl
        refine E_il rfl L1 ?_
        refine E_ci 11 rfl ci11 ?_
        by_cases hb16 : n ≤ (nJ 11)
        · refine E_icT rfl (decide_eq_true hb16) ?_
          refine E_al rfl L0 ?_
          refine E_dup rfl rfl ?_
          have b17 : gn h15 77 7 ≤ 500 := gn_hi hh15 rfl (by decide)
          refine E_gf rfl hh15 rfl (gi_gn hh15 rfl (by decide)) ?_
          refine E_ci 1 rfl ci1 ?_
          refine E_bin rfl (nJ_add _ _) ?_
          refine E_pf rfl hh15 rfl ?_
          have hh18 : HH (pt h15 77 7 (nJ (((gn h15 77 7) + 1)))) := HH_ptn hh15 rfl (by omega) (by omega) (by omega)
          have fr18 : fr_g FM h0 (pt h15 77 7 (nJ (((gn h15 77 7) + 1)))) := fr_ptr (l := 7) (u := 7) rfl (by omega) (by omega) fr15
          have t18_0 : gn (pt h15 77 7 (nJ (((gn h15 77 7) + 1)))) 77 6 = gn h15 77 6 := gn_ne (by first | exact gxx rfl | omega)
          have t18_1 : gn (pt h15 77 7 (nJ (((gn h15 77 7) + 1)))) 77 7 = ((gn h15 77 7) + 1) := gn_ptn hh15 rfl (by omega) (by omega) (by omega)
          have t18_2 : gn (pt h15 77 7 (nJ (((gn h15 77 7) + 1)))) 77 8 = gn h15 77 8 := gn_ne (by first | exact gxx rfl | omega)
          have t18_3 : gn (pt h15 77 7 (nJ (((gn h15 77 7) + 1)))) 77 9 = gn h15 77 9 := gn_ne (by first | exact gxx rfl | omega)
          have t18_4 : gn (pt h15 77 7 (nJ (((gn h15 77 7) + 1)))) 77 12 = gn h15 77 12 := gn_ne (by first | exact gxx rfl | omega)
          generalize hz18 : (pt h15 77 7 (nJ (((gn h15 77 7) + 1)))) = g18 at hh18 fr18 t18_0 t18_1 t18_2 t18_3 t18_4 ⊢
          refine E_inc rfl L1 rfl (fun lv19 L19_1 kp19 => ?_)
          have L19_0 := kp19 0 _ (nbz rfl) rfl L0
          refine E_goto rfl ?_
          exfalso; omega
        · refine E_icF rfl (decide_eq_false hb16) ?_
          refine E_al rfl L0 ?_
          refine E_c rfl ?_
          refine E_pfl rfl hh15 rfl (fun h20 hh20 fl20 => ?_)
          have fr20 : fr_g FM h0 h20 := fr_trans fr15 (fr_wk rfl fl20)
          have t20_0 : gn h20 77 6 = gn h15 77 6 := fr_gn fl20 rfl
          have t20_1 : gn h20 77 7 = gn h15 77 7 := fr_gn fl20 rfl
          have t20_2 : gn h20 77 8 = gn h15 77 8 := fr_gn fl20 rfl
          have t20_3 : gn h20 77 9 = gn h15 77 9 := fr_gn fl20 rfl
          have t20_4 : gn h20 77 12 = gn h15 77 12 := fr_gn fl20 rfl
          refine E_al rfl L0 ?_
          refine E_dup rfl rfl ?_
          have b21 : gn h20 77 7 ≤ 500 := gn_hi hh20 rfl (by decide)
          refine E_gf rfl hh20 rfl (gi_gn hh20 rfl (by decide)) ?_
          refine E_ci 1 rfl ci1 ?_
          refine E_bin rfl (nJ_add _ _) ?_
          refine E_pf rfl hh20 rfl ?_
          have hh22 : HH (pt h20 77 7 (nJ (((gn h20 77 7) + 1)))) := HH_ptn hh20 rfl (by omega) (by omega) (by omega)
          have fr22 : fr_g FM h0 (pt h20 77 7 (nJ (((gn h20 77 7) + 1)))) := fr_ptr (l := 7) (u := 7) rfl (by omega) (by omega) fr20
          have t22_0 : gn (pt h20 77 7 (nJ (((gn h20 77 7) + 1)))) 77 6 = gn h20 77 6 := gn_ne (by first | exact gxx rfl | omega)
          have t22_1 : gn (pt h20 77 7 (nJ (((gn h20 77 7) + 1)))) 77 7 = ((gn h20 77 7) + 1) := gn_ptn hh20 rfl (by omega) (by omega) (by omega)
          have t22_2 : gn (pt h20 77 7 (nJ (((gn h20 77 7) + 1)))) 77 8 = gn h20 77 8 := gn_ne (by first | exact gxx rfl | omega)
          have t22_3 : gn (pt h20 77 7 (nJ (((gn h20 77 7) + 1)))) 77 9 = gn h20 77 9 := gn_ne (by first | exact gxx rfl | omega)
          have t22_4 : gn (pt h20 77 7 (nJ (((gn h20 77 7) + 1)))) 77 12 = gn h20 77 12 := gn_ne (by first | exact gxx rfl | omega)
          generalize hz22 : (pt h20 77 7 (nJ (((gn h20 77 7) + 1)))) = g22 at hh22 fr22 t22_0 t22_1 t22_2 t22_3 t22_4 ⊢
          refine E_inc rfl L1 rfl (fun lv23 L23_1 kp23 => ?_)
          have L23_0 := kp23 0 _ (nbz rfl) rfl L0
          refine E_goto rfl ?_
          exfalso; omega
  | succ j ih =>
    intro h n lv hh hfr hj hb1 hb2 hb3 L0 L1
    have h5 := b500 hh
    refine E_al rfl L0 ?_
    refine E_al rfl L0 ?_
    have b1 : gn h 77 7 ≤ 500 := gn_hi hh rfl (by decide)
    refine E_gf rfl hh rfl (gi_gn hh rfl (by decide)) ?_
    refine E_ci 97 rfl ci97 ?_
    refine E_ci 122 rfl ci122 ?_
    refine E_call rfl (Sp_le (by first | exact Nat.add_le_add_left (Nat.le_of_ble_eq_true rfl) _ | exact Nat.le_of_ble_eq_true rfl | omega) (sp_isByte (d := 0) hh (by omega))) (chk77 hh rfl rfl (by show 0 ≤ 8; decide)) (fun h2 r2 => ?_)
    rintro ⟨e2, f2⟩
    rw [e2]
    rcases f2 with ⟨pb2, f2⟩ | ⟨pb2, f2⟩
    · rw [f2]
      have hx := hb3.resolve_right pb2
      show Ends _ _ (114, lv, [.int (nJ 0)], h, 0, 0) _
      refine E_ifT rfl (by decide) ?_
      refine E_goto rfl ?_
      exact E_ret rfl ⟨rfl, ⟨hh, by omega, by omega, by omega⟩, hfr, by omega⟩
    · rw [f2]
      have lt2 := pb2.1
      show Ends _ _ (114, lv, [.int (nJ 1)], h, 0, 0) _
      refine E_ifF rfl (by decide) ?_
      refine E_al rfl L0 ?_
      refine E_il rfl L1 ?_
      refine E_ci 11 rfl ci11 ?_
      by_cases hb3 : n ≤ (nJ 11)
      · refine E_icT rfl (decide_eq_true hb3) ?_
        refine E_c rfl ?_
        refine E_al rfl L0 ?_
        refine E_gfl rfl hh rfl (fun x4 => ?_)
        refine E_lbin rfl ?_
        refine E_al rfl L0 ?_
        refine E_gr rfl hh (q := 82) rfl ?_
        refine E_al rfl L0 ?_
        have b5 : gn h 77 7 ≤ 500 := gn_hi hh rfl (by decide)
        refine E_gf rfl hh rfl (gi_gn hh rfl (by decide)) ?_
        refine E_bal rfl hh rfl (by omega) (by decide) ?_
        refine E_i2l rfl ?_
        refine E_lbin rfl ?_
        refine E_c rfl ?_
        refine E_lbin rfl ?_
        refine E_pfl rfl hh rfl (fun h6 hh6 fl6 => ?_)
        have fr6 : fr_g FM h0 h6 := fr_trans hfr (fr_wk rfl fl6)
        have t6_0 : gn h6 77 6 = gn h 77 6 := fr_gn fl6 rfl
        have t6_1 : gn h6 77 7 = gn h 77 7 := fr_gn fl6 rfl
        have t6_2 : gn h6 77 8 = gn h 77 8 := fr_gn fl6 rfl
        have t6_3 : gn h6 77 9 = gn h 77 9 := fr_gn fl6 rfl
        have t6_4 : gn h6 77 12 = gn h 77 12 := fr_gn fl6 rfl
        refine E_il rfl L1 ?_
        refine E_ci 11 rfl ci11 ?_
        by_cases hb7 : n ≤ (nJ 11)
        · refine E_icT rfl (decide_eq_true hb7) ?_
          refine E_al rfl L0 ?_
          refine E_dup rfl rfl ?_
          have b8 : gn h6 77 7 ≤ 500 := gn_hi hh6 rfl (by decide)
          refine E_gf rfl hh6 rfl (gi_gn hh6 rfl (by decide)) ?_
          refine E_ci 1 rfl ci1 ?_
          refine E_bin rfl (nJ_add _ _) ?_
          refine E_pf rfl hh6 rfl ?_
          have hh9 : HH (pt h6 77 7 (nJ (((gn h6 77 7) + 1)))) := HH_ptn hh6 rfl (by omega) (by omega) (by omega)
          have fr9 : fr_g FM h0 (pt h6 77 7 (nJ (((gn h6 77 7) + 1)))) := fr_ptr (l := 7) (u := 7) rfl (by omega) (by omega) fr6
          have t9_0 : gn (pt h6 77 7 (nJ (((gn h6 77 7) + 1)))) 77 6 = gn h6 77 6 := gn_ne (by first | exact gxx rfl | omega)
          have t9_1 : gn (pt h6 77 7 (nJ (((gn h6 77 7) + 1)))) 77 7 = ((gn h6 77 7) + 1) := gn_ptn hh6 rfl (by omega) (by omega) (by omega)
          have t9_2 : gn (pt h6 77 7 (nJ (((gn h6 77 7) + 1)))) 77 8 = gn h6 77 8 := gn_ne (by first | exact gxx rfl | omega)
          have t9_3 : gn (pt h6 77 7 (nJ (((gn h6 77 7) + 1)))) 77 9 = gn h6 77 9 := gn_ne (by first | exact gxx rfl | omega)
          have t9_4 : gn (pt h6 77 7 (nJ (((gn h6 77 7) + 1)))) 77 12 = gn h6 77 12 := gn_ne (by first | exact gxx rfl | omega)
          generalize hz9 : (pt h6 77 7 (nJ (((gn h6 77 7) + 1)))) = g9 at hh9 fr9 t9_0 t9_1 t9_2 t9_3 t9_4 ⊢
          refine E_inc rfl L1 rfl (fun lv10 L10_1 kp10 => ?_)
          have L10_0 := kp10 0 _ (nbz rfl) rfl L0
          refine E_goto rfl ?_
          exact ih lv10 hh9 fr9 (by omega) (by omega) (by omega) (.inl (by omega)) L10_0 L10_1
        · refine E_icF rfl (decide_eq_false hb7) ?_
          refine E_al rfl L0 ?_
          refine E_c rfl ?_
          refine E_pfl rfl hh6 rfl (fun h11 hh11 fl11 => ?_)
          have fr11 : fr_g FM h0 h11 := fr_trans fr6 (fr_wk rfl fl11)
          have t11_0 : gn h11 77 6 = gn h6 77 6 := fr_gn fl11 rfl
          have t11_1 : gn h11 77 7 = gn h6 77 7 := fr_gn fl11 rfl
          have t11_2 : gn h11 77 8 = gn h6 77 8 := fr_gn fl11 rfl
          have t11_3 : gn h11 77 9 = gn h6 77 9 := fr_gn fl11 rfl
          have t11_4 : gn h11 77 12 = gn h6 77 12 := fr_gn fl11 rfl
          refine E_al rfl L0 ?_
          refine E_dup rfl rfl ?_
          have b12 : gn h11 77 7 ≤ 500 := gn_hi hh11 rfl (by decide)
          refine E_gf rfl hh11 rfl (gi_gn hh11 rfl (by decide)) ?_
          refine E_ci 1 rfl ci1 ?_
          refine E_bin rfl (nJ_add _ _) ?_
          refine E_pf rfl hh11 rfl ?_
          have hh13 : HH (pt h11 77 7 (nJ (((gn h11 77 7) + 1)))) := HH_ptn hh11 rfl (by omega) (by omega) (by omega)
          have fr13 : fr_g FM h0 (pt h11 77 7 (nJ (((gn h11 77 7) + 1)))) := fr_ptr (l := 7) (u := 7) rfl (by omega) (by omega) fr11
          have t13_0 : gn (pt h11 77 7 (nJ (((gn h11 77 7) + 1)))) 77 6 = gn h11 77 6 := gn_ne (by first | exact gxx rfl | omega)
          have t13_1 : gn (pt h11 77 7 (nJ (((gn h11 77 7) + 1)))) 77 7 = ((gn h11 77 7) + 1) := gn_ptn hh11 rfl (by omega) (by omega) (by omega)
          have t13_2 : gn (pt h11 77 7 (nJ (((gn h11 77 7) + 1)))) 77 8 = gn h11 77 8 := gn_ne (by first | exact gxx rfl | omega)
          have t13_3 : gn (pt h11 77 7 (nJ (((gn h11 77 7) + 1)))) 77 9 = gn h11 77 9 := gn_ne (by first | exact gxx rfl | omega)
          have t13_4 : gn (pt h11 77 7 (nJ (((gn h11 77 7) + 1)))) 77 12 = gn h11 77 12 := gn_ne (by first | exact gxx rfl | omega)
          generalize hz13 : (pt h11 77 7 (nJ (((gn h11 77 7) + 1)))) = g13 at hh13 fr13 t13_0 t13_1 t13_2 t13_3 t13_4 ⊢
          refine E_inc rfl L1 rfl (fun lv14 L14_1 kp14 => ?_)
          have L14_0 := kp14 0 _ (nbz rfl) rfl L0
          refine E_goto rfl ?_
          exact ih lv14 hh13 fr13 (by omega) (by omega) (by omega) (.inl (by omega)) L14_0 L14_1
      · refine E_icF rfl (decide_eq_false hb3) ?_
        refine E_c rfl ?_
        refine E_goto rfl ?_
        refine E_pfl rfl hh rfl (fun h15 hh15 fl15 => ?_)
        have fr15 : fr_g FM h0 h15 := fr_trans hfr (fr_wk rfl fl15)
        have t15_0 : gn h15 77 6 = gn h 77 6 := fr_gn fl15 rfl
        have t15_1 : gn h15 77 7 = gn h 77 7 := fr_gn fl15 rfl
        have t15_2 : gn h15 77 8 = gn h 77 8 := fr_gn fl15 rfl
        have t15_3 : gn h15 77 9 = gn h 77 9 := fr_gn fl15 rfl
        have t15_4 : gn h15 77 12 = gn h 77 12 := fr_gn fl15 rfl
        refine E_il rfl L1 ?_
        refine E_ci 11 rfl ci11 ?_
        by_cases hb16 : n ≤ (nJ 11)
        · refine E_icT rfl (decide_eq_true hb16) ?_
          refine E_al rfl L0 ?_
          refine E_dup rfl rfl ?_
          have b17 : gn h15 77 7 ≤ 500 := gn_hi hh15 rfl (by decide)
          refine E_gf rfl hh15 rfl (gi_gn hh15 rfl (by decide)) ?_
          refine E_ci 1 rfl ci1 ?_
          refine E_bin rfl (nJ_add _ _) ?_
          refine E_pf rfl hh15 rfl ?_
          have hh18 : HH (pt h15 77 7 (nJ (((gn h15 77 7) + 1)))) := HH_ptn hh15 rfl (by omega) (by omega) (by omega)
          have fr18 : fr_g FM h0 (pt h15 77 7 (nJ (((gn h15 77 7) + 1)))) := fr_ptr (l := 7) (u := 7) rfl (by omega) (by omega) fr15
          have t18_0 : gn (pt h15 77 7 (nJ (((gn h15 77 7) + 1)))) 77 6 = gn h15 77 6 := gn_ne (by first | exact gxx rfl | omega)
          have t18_1 : gn (pt h15 77 7 (nJ (((gn h15 77 7) + 1)))) 77 7 = ((gn h15 77 7) + 1) := gn_ptn hh15 rfl (by omega) (by omega) (by omega)
          have t18_2 : gn (pt h15 77 7 (nJ (((gn h15 77 7) + 1)))) 77 8 = gn h15 77 8 := gn_ne (by first | exact gxx rfl | omega)
          have t18_3 : gn (pt h15 77 7 (nJ (((gn h15 77 7) + 1)))) 77 9 = gn h15 77 9 := gn_ne (by first | exact gxx rfl | omega)
          have t18_4 : gn (pt h15 77 7 (nJ (((gn h15 77 7) + 1)))) 77 12 = gn h15 77 12 := gn_ne (by first | exact gxx rfl | omega)
          generalize hz18 : (pt h15 77 7 (nJ (((gn h15 77 7) + 1)))) = g18 at hh18 fr18 t18_0 t18_1 t18_2 t18_3 t18_4 ⊢
          refine E_inc rfl L1 rfl (fun lv19 L19_1 kp19 => ?_)
          have L19_0 := kp19 0 _ (nbz rfl) rfl L0
          refine E_goto rfl ?_
          exact ih lv19 hh18 fr18 (by omega) (by omega) (by omega) (.inl (by omega)) L19_0 L19_1
        · refine E_icF rfl (decide_eq_false hb16) ?_
          refine E_al rfl L0 ?_
          refine E_c rfl ?_
          refine E_pfl rfl hh15 rfl (fun h20 hh20 fl20 => ?_)
          have fr20 : fr_g FM h0 h20 := fr_trans fr15 (fr_wk rfl fl20)
          have t20_0 : gn h20 77 6 = gn h15 77 6 := fr_gn fl20 rfl
          have t20_1 : gn h20 77 7 = gn h15 77 7 := fr_gn fl20 rfl
          have t20_2 : gn h20 77 8 = gn h15 77 8 := fr_gn fl20 rfl
          have t20_3 : gn h20 77 9 = gn h15 77 9 := fr_gn fl20 rfl
          have t20_4 : gn h20 77 12 = gn h15 77 12 := fr_gn fl20 rfl
          refine E_al rfl L0 ?_
          refine E_dup rfl rfl ?_
          have b21 : gn h20 77 7 ≤ 500 := gn_hi hh20 rfl (by decide)
          refine E_gf rfl hh20 rfl (gi_gn hh20 rfl (by decide)) ?_
          refine E_ci 1 rfl ci1 ?_
          refine E_bin rfl (nJ_add _ _) ?_
          refine E_pf rfl hh20 rfl ?_
          have hh22 : HH (pt h20 77 7 (nJ (((gn h20 77 7) + 1)))) := HH_ptn hh20 rfl (by omega) (by omega) (by omega)
          have fr22 : fr_g FM h0 (pt h20 77 7 (nJ (((gn h20 77 7) + 1)))) := fr_ptr (l := 7) (u := 7) rfl (by omega) (by omega) fr20
          have t22_0 : gn (pt h20 77 7 (nJ (((gn h20 77 7) + 1)))) 77 6 = gn h20 77 6 := gn_ne (by first | exact gxx rfl | omega)
          have t22_1 : gn (pt h20 77 7 (nJ (((gn h20 77 7) + 1)))) 77 7 = ((gn h20 77 7) + 1) := gn_ptn hh20 rfl (by omega) (by omega) (by omega)
          have t22_2 : gn (pt h20 77 7 (nJ (((gn h20 77 7) + 1)))) 77 8 = gn h20 77 8 := gn_ne (by first | exact gxx rfl | omega)
          have t22_3 : gn (pt h20 77 7 (nJ (((gn h20 77 7) + 1)))) 77 9 = gn h20 77 9 := gn_ne (by first | exact gxx rfl | omega)
          have t22_4 : gn (pt h20 77 7 (nJ (((gn h20 77 7) + 1)))) 77 12 = gn h20 77 12 := gn_ne (by first | exact gxx rfl | omega)
          generalize hz22 : (pt h20 77 7 (nJ (((gn h20 77 7) + 1)))) = g22 at hh22 fr22 t22_0 t22_1 t22_2 t22_3 t22_4 ⊢
          refine E_inc rfl L1 rfl (fun lv23 L23_1 kp23 => ?_)
          have L23_0 := kp23 0 _ (nbz rfl) rfl L0
          refine E_goto rfl ?_
          exact ih lv23 hh22 fr22 (by omega) (by omega) (by omega) (.inl (by omega)) L23_0 L23_1
end
