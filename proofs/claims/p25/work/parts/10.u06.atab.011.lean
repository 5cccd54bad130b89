section
theorem zb_T {p : Prop} [Decidable p] (h : p) : zb p = nJ 1 := by unfold zb; rw [decide_eq_true h]; rfl
theorem zb_F {p : Prop} [Decidable p] (h : ¬ p) : zb p = nJ 0 := by unfold zb; rw [decide_eq_false h]; rfl
theorem zb_01 (p : Prop) [Decidable p] : zb p = 0 ∨ zb p = 1 := by
  by_cases h : p
  · rw [zb_T h]; exact .inr rfl
  · rw [zb_F h]; exact .inl rfl
theorem i2l_toInt (x : Int32) : x.toInt64.toInt = x.toInt := Int32.toInt_toInt64 x
theorem i2l_nJ {n : Nat} (h : n < 2147483648) : (nJ n).toInt64.toInt = (n : Int) := by rw [i2l_toInt, nJ_toInt h]
theorem i2l_sub1 {n : Nat} (h : n < 2147483648) : ((nJ n).toInt64 - 1).toInt = (n : Int) - 1 := by
  rw [Int64.toInt_sub, i2l_nJ h]
  exact al_bmod (by show -9223372036854775808 ≤ (n : Int) - 1; omega) (by show (n : Int) - 1 ≤ 9223372036854775807; omega)
noncomputable def gl (h : pm_H) (a k : Nat) : Int64 := match ld h a k with | some (.long x) => x | _ => 0
section ENDL
variable {look : Nat → Option pm_I} {call : pm_Call} {Q : pm_H → Option Value → Prop} {pc n i t : Nat} {lv : List (Nat × Value)} {st : List Value} {w : pm_H × Nat × Nat} {h : pm_H} {z : Nat × Nat}
theorem E_ll {x : Int64} (h1 : look pc = some (.inl (s_ll i n))) (e : pm_get lv i = some (.long x)) (k : Ends look call (n, lv, .long x :: st, w) Q) : Ends look call (pc, lv, st, w) Q := E_st h1 (by simp only [s_ll, e]) k
theorem E_i2l {x : Int32} (h1 : look pc = some (.inl (s_i2l n))) (k : Ends look call (n, lv, .long x.toInt64 :: st, w) Q) : Ends look call (pc, lv, .int x :: st, w) Q := E_st h1 rfl k
theorem E_l2i {x : Int64} {v : Int32} (h1 : look pc = some (.inl (s_l2i n))) (e : x.toInt32 = v) (k : Ends look call (n, lv, .int v :: st, w) Q) : Ends look call (pc, lv, .long x :: st, w) Q := by subst e; exact E_st h1 rfl k
theorem E_lbin {op : Int64 → Int64 → Int64} {x y : Int64} (h1 : look pc = some (.inl (s_lbin op n))) (k : Ends look call (n, lv, .long (op x y) :: st, w) Q) : Ends look call (pc, lv, .long y :: .long x :: st, w) Q := E_st h1 rfl k
theorem E_lcmp {x y : Int64} (h1 : look pc = some (.inl (s_lcmp n))) (k : Ends look call (n, lv, .int (lg_cmp x y) :: st, w) Q) : Ends look call (pc, lv, .long y :: .long x :: st, w) Q := E_st h1 rfl k
theorem E_lal {a len j : Nat} (h1 : look pc = some (.inl (s_lald n))) (hh : HH h) (hc : hs0[a]? = some (.inr (.inl len))) (hj : j < len) (hj2 : len < 2147483648) (kk : Ends look call (n, lv, .long (gl h a j) :: st, h, z) Q) : Ends look call (pc, lv, .int (nJ j) :: .ref a :: st, h, z) Q := by
  obtain ⟨x, hx, hg⟩ := hs_at hh hc
  match x, hx, hg with
  | .inl (t2, len2, .inr (.inl f)), hx, hg =>
    obtain ⟨rfl, rfl⟩ := hg
    have h2 := nJ_toInt (n := j) (by omega)
    have h3 : pm_ix (nJ j) len2 = true := ai_ix (by omega) (by omega)
    have h4 : (nJ j).toNatClampNeg = j := by show (nJ j).toInt.toNat = j; omega
    have h5 : gl h a j = f j := by unfold gl ld; rw [hx]
    refine E_st h1 ?_ kk
    simp only [s_lald, hx, h3, h4, cond_true, h5]
end ENDL
theorem sp_in {h : pm_H} {d : Nat} {x lo hi : Int64} {a b c : Int} (e1 : x.toInt = a) (e2 : lo.toInt = b) (e3 : hi.toInt = c) : Sp (d + 1) 261 h [.long x, .long lo, .long hi] (fun h' r => h' = h ∧ r = some (.int (zb (b ≤ a ∧ a ≤ c)))) := by
  refine Sp_of aiX9_in rfl rfl rfl ?_
  refine E_ll rfl (x := x) rfl ?_
  refine E_ll rfl (x := lo) rfl ?_
  refine E_lcmp rfl ?_
  by_cases h1 : a < b
  · refine E_ifT rfl (decide_eq_true ((lg_cmp_lt _ _).mpr (by rw [Int64.lt_iff_toInt_lt]; omega))) ?_
    refine E_ci 0 rfl (by decide) ?_
    exact E_rtz rfl (.inl rfl) ⟨rfl, by rw [zb_F (by omega)]⟩
  · refine E_ifF rfl (decide_eq_false (fun q => absurd ((lg_cmp_lt _ _).mp q) (by rw [Int64.lt_iff_toInt_lt]; omega))) ?_
    refine E_ll rfl (x := x) rfl ?_
    refine E_ll rfl (x := hi) rfl ?_
    refine E_lcmp rfl ?_
    by_cases h2 : c < a
    · refine E_ifT rfl (decide_eq_true ((lg_cmp_gt _ _).mpr (by rw [Int64.lt_iff_toInt_lt]; omega))) ?_
      refine E_ci 0 rfl (by decide) ?_
      exact E_rtz rfl (.inl rfl) ⟨rfl, by rw [zb_F (by omega)]⟩
    · refine E_ifF rfl (decide_eq_false (fun q => absurd ((lg_cmp_gt _ _).mp q) (by rw [Int64.lt_iff_toInt_lt]; omega))) ?_
      refine E_ci 1 rfl (by decide) ?_
      refine E_goto rfl ?_
      exact E_rtz rfl (.inr rfl) ⟨rfl, by rw [zb_T (by omega)]⟩
theorem sp_isSlot {h : pm_H} {d : Nat} {x : Int32} : Sp (d + 2) 278 h [.int x] (fun h' r => h' = h ∧ r = some (.int (zb (0 ≤ x.toInt ∧ x.toInt ≤ 3)))) := by
  refine Sp_of aiX9_isSlot rfl rfl rfl ?_
  refine E_il rfl (x := x) rfl ?_
  refine E_i2l rfl ?_
  refine E_c rfl ?_
  refine E_c rfl ?_
  refine E_call rfl (sp_in (i2l_toInt x) (b := 0) rfl (c := 3) rfl) (chkS rfl (by show 0 ≤ 8; decide)) (fun h1 r1 => ?_)
  rintro ⟨e1, f1⟩
  rw [e1, f1]
  exact E_rtz rfl (zb_01 _) ⟨rfl, rfl⟩
theorem sp_isStreet {h : pm_H} {d : Nat} (hh : HH h) : Sp (d + 1) 281 h [.ref 77] (fun h' r => h' = h ∧ r = some (.int (zb (0 < (gi h 83 0).toInt)))) := by
  refine Sp_of aiX9_isStreet rfl rfl rfl ?_
  refine E_al rfl (x := 77) rfl ?_
  refine E_gr rfl hh (q := 83) rfl ?_
  refine E_ci 0 rfl (by decide) ?_
  refine E_ial rfl hh rfl (by decide) (by decide) rfl ?_
  have h0 : (0 : Int32).toInt = 0 := rfl
  by_cases h1 : (gi h 83 0).toInt ≤ 0
  · refine E_ifT rfl (decide_eq_true (by rw [Int32.le_iff_toInt_le]; omega)) ?_
    refine E_ci 0 rfl (by decide) ?_
    exact E_rtz rfl (.inl rfl) ⟨rfl, by rw [zb_F (by omega)]⟩
  · refine E_ifF rfl (decide_eq_false (by rw [Int32.le_iff_toInt_le]; omega)) ?_
    refine E_ci 1 rfl (by decide) ?_
    refine E_goto rfl ?_
    exact E_rtz rfl (.inr rfl) ⟨rfl, by rw [zb_T (by omega)]⟩
theorem sp_isCar {h : pm_H} {d : Nat} {x : Int32} (hh : HH h) : Sp (d + 2) 267 h [.ref 77, .long x.toInt64] (fun h' r => h' = h ∧ r = some (.int (zb (0 ≤ x.toInt ∧ x.toInt ≤ (gn h 84 3 : Int) - 1)))) := by
  refine Sp_of aiX9_isCar rfl rfl rfl ?_
  refine E_ll rfl (x := x.toInt64) rfl ?_
  refine E_c rfl ?_
  refine E_al rfl (x := 77) rfl ?_
  refine E_call rfl (sp_cars hh) (chk77 hh rfl rfl (by show 4 ≤ 8; decide)) (fun h1 r1 => ?_)
  rintro ⟨e1, f1, c1⟩
  rw [e1, f1]
  refine E_i2l rfl ?_
  refine E_c rfl ?_
  refine E_lbin rfl ?_
  refine E_call rfl (sp_in (i2l_toInt x) (b := 0) rfl (c := (gn h 84 3 : Int) - 1) (i2l_sub1 (by omega))) (chkS rfl (by show 0 ≤ 8; decide)) (fun h2 r2 => ?_)
  rintro ⟨e2, f2⟩
  rw [e2, f2]
  exact E_rtz rfl (zb_01 _) ⟨rfl, rfl⟩
theorem nJ_of2 {x : Int32} {n : Nat} (h0 : 0 ≤ x.toInt) (h1 : x.toInt ≤ (n : Int)) : ∃ k, k ≤ n ∧ x = nJ k := ⟨x.toInt.toNat, by omega, nJ_of h0⟩
end
section
/-! objects of any cell; byte stores; the tape of class and reference -/
noncomputable def frO (a k : Nat) : Option Nat := match hs0[a]? with
  | some (.inr (.inr (.inr (_, fs)))) => (match fs[k]? with | some (.inr (.inr (.inl q))) => some q | _ => none)
  | _ => none
noncomputable def ciO (a : Nat) : Option Nat := match hs0[a]? with
  | some (.inr (.inr (.inr (c, _)))) => some c
  | _ => none
section OBJ
variable {look : Nat → Option pm_I} {call : pm_Call} {Q : pm_H → Option Value → Prop} {pc n i t : Nat} {lv : List (Nat × Value)} {st : List Value} {w : pm_H × Nat × Nat} {h : pm_H} {z : Nat × Nat}
theorem obO {a c : Nat} (hh : HH h) (hc : ciO a = some c) : ∃ vs : List Value, h[a]? = some (.inr (c, vs)) ∧ ∀ (k : Nat) (q : Nat), frO a k = some q → vs[k]? = some (.ref q) := by
  unfold ciO at hc
  split at hc
  · rename_i c' fs hf0
    cases hc
    obtain ⟨x, hx, hg⟩ := hs_at hh hf0
    match x, hx, hg with
    | .inr (cq, vs), hx, hg =>
      obtain ⟨rfl, hlen, hall⟩ := hg
      refine ⟨vs, hx, fun k q hk => ?_⟩
      unfold frO at hk
      rw [hf0] at hk
      dsimp only at hk
      split at hk
      · rename_i q' hf
        cases hk
        have hl := (List.getElem?_eq_some_iff.mp hf).1
        have hl' : k < vs.length := Nat.lt_of_lt_of_eq hl hlen.symm
        have hv := hall k _ _ hf (List.getElem?_eq_getElem hl')
        rw [List.getElem?_eq_getElem hl']
        generalize vs[k] = v at hv
        cases v with
        | ref y => exact congrArg some (congrArg Value.ref hv)
        | _ => exact hv.elim
      · cases hk
  · cases hc
theorem E_ogr {a c k q : Nat} (h1 : look pc = some (.inl (s_getf c k n))) (hh : HH h) (hc : ciO a = some c) (e : frO a k = some q) (kk : Ends look call (n, lv, .ref q :: st, h, z) Q) : Ends look call (pc, lv, .ref a :: st, h, z) Q := by
  obtain ⟨vs, hx, hv⟩ := obO hh hc
  refine E_st h1 ?_ kk
  simp only [s_getf, hx, hv k q e, Nat.beq_refl, cond_true]
theorem E_ogf {a c k : Nat} {q : Int × Int} {v : Int32} (h1 : look pc = some (.inl (s_getf c k n))) (hh : HH h) (hc : ciO a = some c) (hb : bd a k = some q) (e : gi h a k = v) (kk : Ends look call (n, lv, .int v :: st, h, z) Q) : Ends look call (pc, lv, .ref a :: st, h, z) Q := by
  obtain ⟨vs, hx, hv⟩ := obO hh hc
  have h2 := (ld_gi hh hb).1
  have h3 : vs[k]? = some (.int v) := by
    unfold ld at h2
    rw [hx, e] at h2
    exact h2
  refine E_st h1 ?_ kk
  simp only [s_getf, hx, h3, Nat.beq_refl, cond_true]
theorem E_opf {a c k : Nat} {q : Int × Int} {v : Int32} (h1 : look pc = some (.inl (s_putf c k .int n))) (hh : HH h) (hc : ciO a = some c) (hb : bd a k = some q) (kk : Ends look call (n, lv, st, pt h a k v, z) Q) : Ends look call (pc, lv, .int v :: .ref a :: st, h, z) Q := by
  obtain ⟨vs, hx, hv⟩ := obO hh hc
  have h2 := (ld_gi hh hb).1
  have h3 : vs[k]? = some (.int (gi h a k)) := by
    unfold ld at h2
    rw [hx] at h2
    exact h2
  have h4 : Nat.blt k vs.length = true := Nat.ble_eq_true_of_le (List.getElem?_eq_some_iff.mp h3).1
  have h5 : pt h a k v = h.set a (.inr (c, vs.set k (.int v))) := by unfold pt; rw [hx]
  refine E_st h1 ?_ kk
  simp only [s_putf, hx, h4, h5, Nat.beq_refl]
  rfl
theorem E_un {op : Int32 → Int32} {x : Int32} (h1 : look pc = some (.inl (s_un op n))) (k : Ends look call (n, lv, .int (op x) :: st, w) Q) : Ends look call (pc, lv, .int x :: st, w) Q := E_st h1 rfl k
theorem E_bas {a len j : Nat} {p : List (Int × Int)} {v : Int32} (h1 : look pc = some (.inl (s_bast n))) (hh : HH h) (hc : hs0[a]? = some (.inl (1, len, p))) (hj : j < len) (hj2 : len < 2147483648) (kk : Ends look call (n, lv, st, pt h a j (vp_nar .byte v), z) Q) : Ends look call (pc, lv, .int v :: .int (nJ j) :: .ref a :: st, h, z) Q := by
  obtain ⟨f, hx, hf⟩ := ar_of hh hc
  have h2 := nJ_toInt (n := j) (by omega)
  have h3 : pm_ix (nJ j) len = true := ai_ix (by omega) (by omega)
  have h4 : (nJ j).toNatClampNeg = j := by show (nJ j).toInt.toNat = j; omega
  have h5 : pt h a j (vp_nar .byte v) = h.set a (.inl (1, len, .inl (upd f j (vp_nar .byte v)))) := by unfold pt; rw [hx]
  refine E_st h1 ?_ kk
  simp only [s_bast, hx, h3, h4, cond_true, h5]
theorem chkO {a ci k : Nat} {as : List Value} (hh : HH h) (hc : ciO a = some ci) (h9 : Nat.blt ci 100 = true) (hl : Nat.ble k st.length = true) (e : (st.take k).reverse = .ref a :: as) (hs : pm_sz (st.drop k) ≤ 8) : pm_chk k (some ci) 0 0 st (h, z) := by
  obtain ⟨vs, hx, -⟩ := obO hh hc
  refine ⟨Nat.le_of_ble_eq_true hl, fun q hq => ?_, hs, Nat.zero_le _, Nat.zero_le _⟩
  cases hq
  exact ⟨fun _ => ⟨a, vs, as, e, hx⟩, fun h7 => absurd (Nat.le_of_ble_eq_true h9) (Nat.not_lt.mpr h7)⟩
end OBJ
section ARR
variable {look : Nat → Option pm_I} {call : pm_Call} {Q : pm_H → Option Value → Prop} {pc n i t : Nat} {lv : List (Nat × Value)} {st : List Value} {w : pm_H × Nat × Nat} {h : pm_H} {z : Nat × Nat}
end ARR
end
