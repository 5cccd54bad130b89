section
theorem sf_loop {h0 : pm_H} {d P : Nat} (hR : RI 0 h0) (hP8 : P ≤ 8) (j : Nat) : ∀ {h : pm_H} {b : Int32} {k : Nat} (lv : List (Nat × Value)), k + j = P + 1 → HH h → fr_g TM h0 h → (∀ c, c < gn h 84 3 → 1 ≤ gn h 89 c) → gn h 84 0 = P → pm_get lv 0 = some (.ref 77) → pm_get lv 1 = some (.int b) → pm_get lv 2 = some (.int (nJ k)) → Ends (pm_at tX9_shifts) (pm_Rt pm_P (d + 29)) (23, lv, [], h, 0, 0) (TQ h0) := by
  induction j with
  | zero =>
    intro h b k lv hj hh hfr hw hP L0 L1 L2
    refine E_il rfl L2 ?_
    refine E_al rfl L0 ?_
    refine E_call rfl (sp_places hh) (chk77 hh rfl rfl (by show 1 ≤ 8; decide)) (fun h1 r1 => ?_)
    rintro ⟨e1, f1, c1⟩
    rw [e1, f1]
    show Ends _ _ (28, lv, [.int (nJ (gn h 84 0)), .int (nJ k)], h, 0, 0) _
    refine E_icT rfl (decide_eq_true ((nJ_lt (by omega) (by omega)).mpr (by omega))) ?_
    refine E_il rfl L1 ?_
    exact E_rti rfl ⟨hh, hfr, _, rfl⟩
  | succ j ih =>
    intro h b k lv hj hh hfr hw hP L0 L1 L2
    refine E_il rfl L2 ?_
    refine E_al rfl L0 ?_
    refine E_call rfl (sp_places hh) (chk77 hh rfl rfl (by show 1 ≤ 8; decide)) (fun h1 r1 => ?_)
    rintro ⟨e1, f1, c1⟩
    rw [e1, f1]
    show Ends _ _ (28, lv, [.int (nJ (gn h 84 0)), .int (nJ k)], h, 0, 0) _
    refine E_icF rfl (decide_eq_false (fun q => absurd ((nJ_lt (by omega) (by omega)).mp q) (by omega))) ?_
    refine E_al rfl L0 ?_
    refine E_il rfl L2 ?_
    refine E_call rfl (Sp_le (by omega) (sp_ringFree (d := 0) hh (RI_fr hR rfl hfr).1 (by omega) hw)) (chk77 hh rfl rfl (by show 0 ≤ 8; decide)) (fun h2 r2 => ?_)
    rintro ⟨hh2, fq2, x2, f2⟩
    rw [f2]
    have fr2 : fr_g TM h0 h2 := fr_trans hfr (fr_wk rfl fq2)
    have pe2 : gn h2 84 0 = gn h 84 0 := fr_gn fq2 (rg_no rfl _)
    show Ends _ _ (36, lv, [.int x2], h2, 0, 0) _
    refine E_pop rfl rfl ?_
    refine E_il rfl L1 ?_
    refine E_al rfl L0 ?_
    refine E_gr rfl hh2 (q := 90) rfl ?_
    refine E_al rfl L0 ?_
    refine E_call rfl (sp_places hh2) (chk77 hh2 rfl rfl (by show 2 ≤ 8; decide)) (fun h3 r3 => ?_)
    rintro ⟨e3, f3, c3⟩
    rw [e3, f3]
    show Ends _ _ (46, lv, [.int (nJ (gn h2 84 0)), .ref 90, .int b], h2, 0, 0) _
    refine E_ci 1 rfl (by decide) ?_
    refine E_bin rfl (nJ_add _ _) ?_
    refine E_ial rfl hh2 rfl (by omega) (by decide) (show gi h2 90 (((gn h2 84 0) + 1)) = (gi h2 90 (((gn h2 84 0) + 1))) from rfl) ?_
    refine E_c rfl ?_
    by_cases hb4 : ¬ (gi h2 90 (((gn h2 84 0) + 1))) = -1
    · refine E_icT rfl (decide_eq_true hb4) ?_
      refine E_ci 0 rfl (by decide) ?_
      refine E_bin rfl rfl ?_
      refine E_is rfl (fun lv5 L5_1 kp5 => ?_)
      have L5_0 := kp5 0 _ (by decide) rfl L0
      have L5_2 := kp5 2 _ (by decide) rfl L2
      refine E_inc rfl L5_2 (nJ_inc _) (fun lv6 L6_2 kp6 => ?_)
      have L6_0 := kp6 0 _ (by decide) rfl L5_0
      have L6_1 := kp6 1 _ (by decide) rfl L5_1
      refine E_goto rfl ?_
      exact ih lv6 (by omega) hh2 fr2 (fun c hc => by rw [fr_gn fq2 (rg_no rfl _)] at hc ⊢; exact hw c hc) (by rw [pe2]; exact hP) L6_0 L6_1 L6_2
    · refine E_icF rfl (decide_eq_false hb4) ?_
      refine E_ci 1 rfl (by decide) ?_
      refine E_il rfl L2 ?_
      refine E_bin rfl rfl ?_
      refine E_goto rfl ?_
      refine E_bin rfl rfl ?_
      refine E_is rfl (fun lv7 L7_1 kp7 => ?_)
      have L7_0 := kp7 0 _ (by decide) rfl L0
      have L7_2 := kp7 2 _ (by decide) rfl L2
      refine E_inc rfl L7_2 (nJ_inc _) (fun lv8 L8_2 kp8 => ?_)
      have L8_0 := kp8 0 _ (by decide) rfl L7_0
      have L8_1 := kp8 1 _ (by decide) rfl L7_1
      refine E_goto rfl ?_
      exact ih lv8 (by omega) hh2 fr2 (fun c hc => by rw [fr_gn fq2 (rg_no rfl _)] at hc ⊢; exact hw c hc) (by rw [pe2]; exact hP) L8_0 L8_1 L8_2
theorem tp_shifts {h0 : pm_H} {d : Nat} (hh0 : HH h0) (hR : RI 0 h0) : Sp (d + 30) 347 h0 [.ref 77] (TQ h0) := by
  refine Sp_of aiX9_shifts rfl rfl rfl ?_
  have L0 : pm_get (lv_args 0 [.ref 77]) 0 = some (.ref 77) := rfl
  generalize lv_args 0 [.ref 77] = lv at L0 ⊢
  refine E_al rfl L0 ?_
  refine E_ci 0 rfl (by decide) ?_
  refine E_pf rfl hh0 rfl ?_
  have hh1 : HH (pt h0 77 0 (nJ 0)) := HH_ptn hh0 rfl (by omega) (by omega) (by omega)
  have fr1 : fr_g TM h0 (pt h0 77 0 (nJ 0)) := fr_ptr (l := 0) (u := 0) rfl (by omega) (by omega) (fr_rf TM h0)
  refine E_al rfl L0 ?_
  refine E_call rfl (sp_isStreet hh1) (chk77 hh1 rfl rfl (by show 0 ≤ 8; decide)) (fun h2 r2 => ?_)
  rintro ⟨e2, f2⟩
  rw [e2, f2]
  show Ends _ _ (9, lv, [.int (zb (0 < (gi (pt h0 77 0 (nJ 0)) 83 0).toInt))], (pt h0 77 0 (nJ 0)), 0, 0) _
  by_cases hb3 : 0 < (gi (pt h0 77 0 (nJ 0)) 83 0).toInt
  · refine E_ifT rfl (by rw [zb_T hb3]; rfl) ?_
    refine E_al rfl L0 ?_
    refine E_call rfl (Sp_le (by omega) (sp_lays (d := 0) hh1 (RI_fr hR rfl fr1))) (chk77 hh1 rfl rfl (by show 0 ≤ 8; decide)) (fun h4 r4 => ?_)
    rintro ⟨e4, hh4, fq4, wq4⟩
    rw [e4]
    have fr4 : fr_g TM h0 h4 := fr_trans fr1 (fr_wk rfl fq4)
    show Ends _ _ (19, lv, [], h4, 0, 0) _
    refine E_ci 0 rfl (by decide) ?_
    refine E_is rfl (fun lv5 L5_1 kp5 => ?_)
    have L5_0 := kp5 0 _ (by decide) rfl L0
    refine E_ci 0 rfl (by decide) ?_
    refine E_is rfl (fun lv6 L6_2 kp6 => ?_)
    have L6_0 := kp6 0 _ (by decide) rfl L5_0
    have L6_1 := kp6 1 _ (by decide) rfl L5_1
    have hP8 : gn h4 84 0 ≤ 8 := gn_hi hh4 rfl (by decide)
    exact sf_loop hR hP8 (gn h4 84 0 + 1) (k := 0) lv6 (by omega) hh4 fr4 wq4 rfl L6_0 L6_1 L6_2
  · refine E_ifF rfl (by rw [zb_F hb3]; rfl) ?_
    refine E_c rfl ?_
    exact E_rti rfl ⟨hh1, fr1, _, rfl⟩
end
section
/-! by hand: the reader (written by gen_t14.py) -/
section ENDR
variable {look : Nat → Option pm_I} {call : pm_Call} {Q : pm_H → Option Value → Prop} {pc n i t : Nat} {lv : List (Nat × Value)} {st : List Value} {w : pm_H × Nat × Nat} {h : pm_H} {z : Nat × Nat}
theorem E_bal {a len j : Nat} {p : List (Int × Int)} (h1 : look pc = some (.inl (s_bald n))) (hh : HH h) (hc : hs0[a]? = some (.inl (1, len, p))) (hj : j < len) (hj2 : len < 2147483648) (kk : Ends look call (n, lv, .int (gi h a j) :: st, h, z) Q) : Ends look call (pc, lv, .int (nJ j) :: .ref a :: st, h, z) Q := by
  obtain ⟨f, hx, hf⟩ := ar_of hh hc
  have h2 := nJ_toInt (n := j) (by omega)
  have h3 : pm_ix (nJ j) len = true := ai_ix (by omega) (by omega)
  have h4 : (nJ j).toNatClampNeg = j := by show (nJ j).toInt.toNat = j; omega
  refine E_st h1 ?_ kk
  simp only [s_bald, hx, h3, h4, cond_true, ← hf]
noncomputable def lf77 (k : Nat) : Bool := match hs0[(77 : Nat)]? with
  | some (.inr (.inr (.inr (_, fs)))) => (match fs[k]? with | some (.inr (.inl ())) => true | _ => false)
  | _ => false
theorem ob77l (hh : HH h) {k : Nat} (hk : lf77 k = true) : ∃ (vs : List Value) (x : Int64), h[77]? = some (.inr (9, vs)) ∧ vs[k]? = some (.long x) ∧ ∀ y : Int64, HH (h.set 77 (.inr (9, vs.set k (.long y)))) := by
  cases hc : hs0[(77 : Nat)]? with
  | none => cases hc
  | some c =>
    have hc' := hc
    cases hc
    obtain ⟨x, hx, hg⟩ := hs_at hh hc'
    match x, hx, hg with
    | .inr (cq, vs), hx, hg =>
      obtain ⟨rfl, hlen, hall⟩ := hg
      unfold lf77 at hk
      rw [hc'] at hk
      dsimp only at hk
      split at hk
      · rename_i hf
        have hl := (List.getElem?_eq_some_iff.mp hf).1
        have hl' : k < vs.length := Nat.lt_of_lt_of_eq hl hlen.symm
        have hv := hall k _ _ hf (List.getElem?_eq_getElem hl')
        have e0 : vs[k]? = some vs[k] := List.getElem?_eq_getElem hl'
        generalize vs[k] = v at hv e0
        cases v with
        | long y =>
          refine ⟨vs, y, hx, e0, fun y2 => hs_set hh hc' ⟨rfl, by rw [List.length_set]; exact hlen, fun q c u h3 h4 => ?_⟩⟩
          by_cases hq : k = q
          · subst hq
            rw [List.getElem?_set_self hl'] at h4
            cases h4
            rw [hf] at h3
            cases h3
            trivial
          · rw [List.getElem?_set_ne hq] at h4
            exact hall q c u h3 h4
        | _ => exact hv.elim
      · cases hk
theorem E_gfl {k : Nat} (h1 : look pc = some (.inl (s_getf 9 k n))) (hh : HH h) (hk : lf77 k = true) (kk : ∀ x : Int64, Ends look call (n, lv, .long x :: st, h, z) Q) : Ends look call (pc, lv, .ref 77 :: st, h, z) Q := by
  obtain ⟨vs, x, hx, hv, -⟩ := ob77l hh hk
  refine E_st h1 ?_ (kk x)
  simp only [s_getf, hx, hv]
  rfl
theorem E_pfl {k : Nat} {y : Int64} (h1 : look pc = some (.inl (s_putf 9 k .long n))) (hh : HH h) (hk : lf77 k = true) (kk : ∀ h' : pm_H, HH h' → fr_g [(77, k, k)] h h' → Ends look call (n, lv, st, h', z) Q) : Ends look call (pc, lv, .long y :: .ref 77 :: st, h, z) Q := by
  obtain ⟨vs, x, hx, hv, hs⟩ := ob77l hh hk
  have h4 : Nat.blt k vs.length = true := Nat.ble_eq_true_of_le (List.getElem?_eq_some_iff.mp hv).1
  refine E_st h1 ?_ (kk (h.set 77 (.inr (9, vs.set k (.long y)))) (hs y) (fun b j hbj => ld_setf hx (fun hb hj => ?_)))
  · simp only [s_putf, hx, h4]
    rfl
  · subst hb; subst hj
    rw [rg_in_one (Nat.le_refl _) (Nat.le_refl _) (List.mem_singleton_self _)] at hbj
    cases hbj
end ENDR
/-- the reader: what is begun, where it stands, the tape's end -/
noncomputable def RR (h : pm_H) : Prop := HH h ∧ gn h 77 9 ≤ gn h 77 7 ∧ gn h 77 7 ≤ gn h 77 6 ∧ (gn h 77 8 = 0 ∨ gn h 77 9 < gn h 77 7)
noncomputable def FM : List Rng := [(77, 7, 11)]
noncomputable def BB : List Rng := [(77, 7, 13)]
theorem b500 {h : pm_H} (hh : HH h) : gn h 77 6 ≤ 500 := gn_hi hh rfl (by decide)
/-- a letter of a kind stands there -/
noncomputable def PB (h : pm_H) (k : Nat) (lo hi : Int32) : Prop := k < gn h 77 6 ∧ ¬ gi h 82 k < lo ∧ ¬ hi < gi h 82 k
theorem PB_eq {h h' : pm_H} {k k' : Nat} {lo hi : Int32} (h1 : gn h' 77 6 = gn h 77 6) (h2 : k' = k) (h3 : gi h' 82 k = gi h 82 k) (p : PB h k lo hi) : PB h' k' lo hi := by
  subst h2
  unfold PB at p ⊢
  rw [h1, h3]
  exact p
theorem sp_isByte {h : pm_H} {d k : Nat} {lo hi : Int32} (hh : HH h) (hk : k ≤ 500) : Sp (d + 1) 266 h [.ref 77, .int (nJ k), .int lo, .int hi] (fun h' r => h' = h ∧ (¬ PB h k lo hi ∧ r = some (.int (nJ 0)) ∨ PB h k lo hi ∧ r = some (.int (nJ 1)))) := by
  refine Sp_of aiX9_isByte rfl rfl rfl ?_
  refine E_il rfl (show pm_get (lv_args 0 [.ref 77, .int (nJ k), .int lo, .int hi]) 1 = _ from rfl) ?_
  refine E_al rfl (show pm_get (lv_args 0 [.ref 77, .int (nJ k), .int lo, .int hi]) 0 = _ from rfl) ?_
  have b1 : gn h 77 6 ≤ 500 := gn_hi hh rfl (by decide)
  refine E_gf rfl hh rfl (gi_gn hh rfl (by decide)) ?_
  by_cases hb2 : (gn h 77 6) ≤ k
  · refine E_icT rfl (decide_eq_true ((nJ_le (by omega) (by omega)).mpr hb2)) ?_
    refine E_ci 0 rfl (by decide) ?_
    exact E_rtz rfl (.inl rfl) ⟨rfl, .inl ⟨fun q => by have := q.1; omega, rfl⟩⟩
  · refine E_icF rfl (decide_eq_false (fun q => hb2 ((nJ_le (by omega) (by omega)).mp q))) ?_
    refine E_al rfl (show pm_get (lv_args 0 [.ref 77, .int (nJ k), .int lo, .int hi]) 0 = _ from rfl) ?_
    refine E_gr rfl hh (q := 82) rfl ?_
    refine E_il rfl (show pm_get (lv_args 0 [.ref 77, .int (nJ k), .int lo, .int hi]) 1 = _ from rfl) ?_
    refine E_bal rfl hh rfl (by omega) (by decide) ?_
    refine E_il rfl (show pm_get (lv_args 0 [.ref 77, .int (nJ k), .int lo, .int hi]) 2 = _ from rfl) ?_
    by_cases hb3 : (gi h 82 k) < lo
    · refine E_icT rfl (decide_eq_true hb3) ?_
      refine E_ci 0 rfl (by decide) ?_
      exact E_rtz rfl (.inl rfl) ⟨rfl, .inl ⟨fun q => q.2.1 hb3, rfl⟩⟩
    · refine E_icF rfl (decide_eq_false hb3) ?_
      have hA := hb3
      refine E_al rfl (show pm_get (lv_args 0 [.ref 77, .int (nJ k), .int lo, .int hi]) 0 = _ from rfl) ?_
      refine E_gr rfl hh (q := 82) rfl ?_
      refine E_il rfl (show pm_get (lv_args 0 [.ref 77, .int (nJ k), .int lo, .int hi]) 1 = _ from rfl) ?_
      refine E_bal rfl hh rfl (by omega) (by decide) ?_
      refine E_il rfl (show pm_get (lv_args 0 [.ref 77, .int (nJ k), .int lo, .int hi]) 3 = _ from rfl) ?_
      by_cases hb4 : hi < (gi h 82 k)
      · refine E_icT rfl (decide_eq_true hb4) ?_
        refine E_ci 0 rfl (by decide) ?_
        exact E_rtz rfl (.inl rfl) ⟨rfl, .inl ⟨fun q => q.2.2 hb4, rfl⟩⟩
      · refine E_icF rfl (decide_eq_false hb4) ?_
        refine E_ci 1 rfl (by decide) ?_
        refine E_goto rfl ?_
        exact E_rtz rfl (.inr rfl) ⟨rfl, .inr ⟨⟨by omega, hA, hb4⟩, rfl⟩⟩
end
