/-! objects of any cell; byte stores; the tape of class and reference -/
noncomputable def frO (a k : Nat) : Option Nat := match hs0[a]? with
  | some (.inr (.inr (.inr (_, fs)))) => (match fs[k]? with | some (.inr (.inr (.inl q))) => some q | _ => none)
  | _ => none
noncomputable def ciO (a : Nat) : Option Nat := match hs0[a]? with
  | some (.inr (.inr (.inr (c, _)))) => some c
  | _ => none
section OBJ
variable {look : Nat → Option pm_I} {call : pm_Call} {Q : pm_H → Option Value → Prop} {pc n i t : Nat} {lv : List (Nat × Value)} {st : List Value} {w : pm_H × Nat × Nat} {h : pm_H} {z : Nat × Nat}
theorem obO {a c : Nat} (hh : HH h) (hc : ciO a = some c) : ∃ vs : List Value, h[a]? = some (.inr (c, vs)) ∧ ∀ (k : Nat) (q : Nat), frO a k = some q → vs[k]? = some (.ref q) := by
  unfold ciO at hc
  split at hc
  · rename_i c' fs hf0
    cases hc
    obtain ⟨x, hx, hg⟩ := hs_at hh hf0
    match x, hx, hg with
    | .inr (cq, vs), hx, hg =>
      obtain ⟨rfl, hlen, hall⟩ := hg
      refine ⟨vs, hx, fun k q hk => ?_⟩
      unfold frO at hk
      rw [hf0] at hk
      dsimp only at hk
      split at hk
      · rename_i q' hf
        cases hk
        have hl := (List.getElem?_eq_some_iff.mp hf).1
        have hl' : k < vs.length := Nat.lt_of_lt_of_eq hl hlen.symm
        have hv := hall k _ _ hf (List.getElem?_eq_getElem hl')
        rw [List.getElem?_eq_getElem hl']
        generalize vs[k] = v at hv
        cases v with
        | ref y => exact congrArg some (congrArg Value.ref hv)
        | _ => exact hv.elim
      · cases hk
  · cases hc
theorem E_ogr {a c k q : Nat} (h1 : look pc = some (.inl (s_getf c k n))) (hh : HH h) (hc : ciO a = some c) (e : frO a k = some q) (kk : Ends look call (n, lv, .ref q :: st, h, z) Q) : Ends look call (pc, lv, .ref a :: st, h, z) Q := by
  obtain ⟨vs, hx, hv⟩ := obO hh hc
  refine E_st h1 ?_ kk
  simp only [s_getf, hx, hv k q e, Nat.beq_refl, cond_true]
theorem E_ogf {a c k : Nat} {q : Int × Int} {v : Int32} (h1 : look pc = some (.inl (s_getf c k n))) (hh : HH h) (hc : ciO a = some c) (hb : bd a k = some q) (e : gi h a k = v) (kk : Ends look call (n, lv, .int v :: st, h, z) Q) : Ends look call (pc, lv, .ref a :: st, h, z) Q := by
  obtain ⟨vs, hx, hv⟩ := obO hh hc
  have h2 := (ld_gi hh hb).1
  have h3 : vs[k]? = some (.int v) := by
    unfold ld at h2
    rw [hx, e] at h2
    exact h2
  refine E_st h1 ?_ kk
  simp only [s_getf, hx, h3, Nat.beq_refl, cond_true]
theorem E_opf {a c k : Nat} {q : Int × Int} {v : Int32} (h1 : look pc = some (.inl (s_putf c k .int n))) (hh : HH h) (hc : ciO a = some c) (hb : bd a k = some q) (kk : Ends look call (n, lv, st, pt h a k v, z) Q) : Ends look call (pc, lv, .int v :: .ref a :: st, h, z) Q := by
  obtain ⟨vs, hx, hv⟩ := obO hh hc
  have h2 := (ld_gi hh hb).1
  have h3 : vs[k]? = some (.int (gi h a k)) := by
    unfold ld at h2
    rw [hx] at h2
    exact h2
  have h4 : Nat.blt k vs.length = true := Nat.ble_eq_true_of_le (List.getElem?_eq_some_iff.mp h3).1
  have h5 : pt h a k v = h.set a (.inr (c, vs.set k (.int v))) := by unfold pt; rw [hx]
  refine E_st h1 ?_ kk
  simp only [s_putf, hx, h4, h5, Nat.beq_refl]
  rfl
theorem E_un {op : Int32 → Int32} {x : Int32} (h1 : look pc = some (.inl (s_un op n))) (k : Ends look call (n, lv, .int (op x) :: st, w) Q) : Ends look call (pc, lv, .int x :: st, w) Q := E_st h1 rfl k
theorem E_bas {a len j : Nat} {p : List (Int × Int)} {v : Int32} (h1 : look pc = some (.inl (s_bast n))) (hh : HH h) (hc : hs0[a]? = some (.inl (1, len, p))) (hj : j < len) (hj2 : len < 2147483648) (kk : Ends look call (n, lv, st, pt h a j (vp_nar .byte v), z) Q) : Ends look call (pc, lv, .int v :: .int (nJ j) :: .ref a :: st, h, z) Q := by
  obtain ⟨f, hx, hf⟩ := ar_of hh hc
  have h2 := nJ_toInt (n := j) (by omega)
  have h3 : pm_ix (nJ j) len = true := ai_ix (by omega) (by omega)
  have h4 : (nJ j).toNatClampNeg = j := by show (nJ j).toInt.toNat = j; omega
  have h5 : pt h a j (vp_nar .byte v) = h.set a (.inl (1, len, .inl (upd f j (vp_nar .byte v)))) := by unfold pt; rw [hx]
  refine E_st h1 ?_ kk
  simp only [s_bast, hx, h3, h4, cond_true, h5]
theorem chkO {a ci k : Nat} {as : List Value} (hh : HH h) (hc : ciO a = some ci) (h9 : Nat.blt ci 100 = true) (hl : Nat.ble k st.length = true) (e : (st.take k).reverse = .ref a :: as) (hs : pm_sz (st.drop k) ≤ 8) : pm_chk k (some ci) 0 0 st (h, z) := by
  obtain ⟨vs, hx, -⟩ := obO hh hc
  refine ⟨Nat.le_of_ble_eq_true hl, fun q hq => ?_, hs, Nat.zero_le _, Nat.zero_le _⟩
  cases hq
  exact ⟨fun _ => ⟨a, vs, as, e, hx⟩, fun h7 => absurd (Nat.le_of_ble_eq_true h9) (Nat.not_lt.mpr h7)⟩
end OBJ
section ARR
variable {look : Nat → Option pm_I} {call : pm_Call} {Q : pm_H → Option Value → Prop} {pc n i t : Nat} {lv : List (Nat × Value)} {st : List Value} {w : pm_H × Nat × Nat} {h : pm_H} {z : Nat × Nat}
theorem E_aal {a t j q : Nat} {fs : List (Option Nat)} (h1 : look pc = some (.inl (s_aald t n))) (hh : HH h) (hc : hs0[a]? = some (.inr (.inr (.inl (t, fs))))) (hj : fs[j]? = some (some q)) (hl : fs.length < 2147483648) (kk : Ends look call (n, lv, .ref q :: st, h, z) Q) : Ends look call (pc, lv, .int (nJ j) :: .ref a :: st, h, z) Q := by
  obtain ⟨x, hx, hg⟩ := hs_at hh hc
  match x, hx, hg with
  | .inl (t2, len2, .inr (.inr (.inr (.inr g)))), hx, hg =>
    obtain ⟨rfl, rfl, hall⟩ := hg
    have hjl := (List.getElem?_eq_some_iff.mp hj).1
    have h2 := nJ_toInt (n := j) (by omega)
    have h3 : pm_ix (nJ j) fs.length = true := ai_ix (by omega) (by omega)
    have h4 : (nJ j).toNatClampNeg = j := by show (nJ j).toInt.toNat = j; omega
    refine E_st h1 ?_ kk
    simp only [s_aald, hx, h3, h4, hall j _ hj, Nat.beq_refl, Bool.and_self, cond_true]
    rfl
theorem E_zasA {A j : Nat} (h1 : look pc = some (.inl (s_zast n))) (hh : HH h) (hA : hs0[A]? = some (.inl (2, 3, [(0, 1)]))) (hj : j < 3) (kk : Ends look call (n, lv, st, pt h A j 1, z) Q) : Ends look call (pc, lv, .int (nJ 1) :: .int (nJ j) :: .ref A :: st, h, z) Q := by
  obtain ⟨f, hx, hf⟩ := ar_of hh hA
  have h2 := nJ_toInt (n := j) (by omega)
  have h3 : pm_ix (nJ j) 3 = true := ai_ix (by omega) (by omega)
  have h4 : (nJ j).toNatClampNeg = j := by show (nJ j).toInt.toNat = j; omega
  have h5 : pt h A j 1 = h.set A (.inl (2, 3, .inl (upd f j 1))) := by unfold pt; rw [hx]
  have h6 : vp_nar .boolean (nJ 1) = 1 := by decide
  refine E_st h1 ?_ kk
  simp only [s_zast, hx, h3, h4, cond_true, h5, h6]
theorem E_zalA {A j : Nat} (h1 : look pc = some (.inl (s_zald n))) (hh : HH h) (hA : hs0[A]? = some (.inl (2, 3, [(0, 1)]))) (hj : j < 3) (kk : Ends look call (n, lv, .int (gi h A j) :: st, h, z) Q) : Ends look call (pc, lv, .int (nJ j) :: .ref A :: st, h, z) Q := by
  obtain ⟨f, hx, hf⟩ := ar_of hh hA
  have h2 := nJ_toInt (n := j) (by omega)
  have h3 : pm_ix (nJ j) 3 = true := ai_ix (by omega) (by omega)
  have h4 : (nJ j).toNatClampNeg = j := by show (nJ j).toInt.toNat = j; omega
  refine E_st h1 ?_ kk
  simp only [s_zald, hx, h3, h4, cond_true, ← hf]
end ARR
