/-! rows of long arrays, frames of one cell -/
theorem fr_one {M : List Rng} {h h' : pm_H} {c j l u : Nat} (hs : rg_sub M c l u = true) (h1 : l ≤ j) (h2 : j ≤ u) (hf : fr_g [(c, j, j)] h h') : fr_g M h h' := by
  intro b k hbk
  refine hf b k ?_
  cases hq : rg_in [(c, j, j)] b k with
  | false => rfl
  | true =>
    obtain ⟨r, hr, hc⟩ := List.any_eq_true.mp hq
    have er := List.mem_singleton.mp hr
    subst er
    simp only [Bool.and_eq_true] at hc
    have e1 : c = b := Nat.eq_of_beq_eq_true hc.1
    have e2 : j ≤ k := Nat.le_of_ble_eq_true hc.2.1
    have e3 : k ≤ j := Nat.le_of_ble_eq_true hc.2.2
    have e4 : k = j := by omega
    subst e1
    subst e4
    rw [rg_sub_in hs h1 h2] at hbk
    cases hbk
section SLT
variable {look : Nat → Option pm_I} {call : pm_Call} {Q : pm_H → Option Value → Prop} {pc n i t : Nat} {lv : List (Nat × Value)} {st : List Value} {w : pm_H × Nat × Nat} {h : pm_H} {z : Nat × Nat}
theorem E_opT {a c k : Nat} {q : Int × Int} {v : Int32} {ty : FieldType} (h1 : look pc = some (.inl (s_putf c k ty n))) (hf : pm_fit ty (.int v) = true) (hh : HH h) (hc : ciO a = some c) (hb : bd a k = some q) (kk : Ends look call (n, lv, st, pt h a k v, z) Q) : Ends look call (pc, lv, .int v :: .ref a :: st, h, z) Q := by
  obtain ⟨vs, hx, hv⟩ := obO hh hc
  have h2 := (ld_gi hh hb).1
  have h3 : vs[k]? = some (.int (gi h a k)) := by
    unfold ld at h2
    rw [hx] at h2
    exact h2
  have h4 : Nat.blt k vs.length = true := Nat.ble_eq_true_of_le (List.getElem?_eq_some_iff.mp h3).1
  have h5 : pt h a k v = h.set a (.inr (c, vs.set k (.int v))) := by unfold pt; rw [hx]
  refine E_st h1 ?_ kk
  simp only [s_putf, hx, h4, h5, hf, Nat.beq_refl, Bool.and_self, cond_true]
theorem E_las {a len j : Nat} {v : Int64} (h1 : look pc = some (.inl (s_last n))) (hh : HH h) (hc : hs0[a]? = some (.inr (.inl len))) (hj : j < len) (hj2 : len < 2147483648) (kk : ∀ h', HH h' → fr_g [(a, j, j)] h h' → gl h' a j = v → Ends look call (n, lv, st, h', z) Q) : Ends look call (pc, lv, .long v :: .int (nJ j) :: .ref a :: st, h, z) Q := by
  obtain ⟨x, hx, hg⟩ := hs_at hh hc
  match x, hx, hg with
  | .inl (t2, len2, .inr (.inl f)), hx, hg =>
    obtain ⟨rfl, rfl⟩ := hg
    have h2 := nJ_toInt (n := j) (by omega)
    have h3 : pm_ix (nJ j) len2 = true := ai_ix (by omega) (by omega)
    have h4 : (nJ j).toNatClampNeg = j := by show (nJ j).toInt.toNat = j; omega
    have hl := (List.getElem?_eq_some_iff.mp hx).1
    refine E_st h1 (σ' := (n, lv, st, h.set a (.inl (3, len2, .inr (.inl (vp_updL f j v)))), z)) ?_ (kk _ (hs_set hh hc ⟨rfl, rfl⟩) ?_ ?_)
    · simp only [s_last, hx, h3, h4, cond_true]
    · intro b k hbk
      by_cases e : b = a
      · subst e
        have hk : k ≠ j := fun q => by
          rw [q, rg_in_one (Nat.le_refl _) (Nat.le_refl _) (List.mem_singleton_self _)] at hbk
          cases hbk
        unfold ld
        rw [List.getElem?_set_self hl, hx]
        show some (Value.long (vp_updL f j v k)) = some (Value.long (f k))
        unfold vp_updL
        rw [if_neg hk]
      · unfold ld
        rw [List.getElem?_set_ne (Ne.symm e)]
    · unfold gl ld
      rw [List.getElem?_set_self hl]
      show vp_updL f j v j = v
      unfold vp_updL
      rw [if_pos rfl]
end SLT
