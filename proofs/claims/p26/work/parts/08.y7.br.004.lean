section
section AIH
variable {w : AW}
noncomputable def a_getf (w : AW) (ci k n : Nat) : AS → Option (List AS) := fun A => match A.2.2.1 with
  | .inr (.inr (.inl a)) :: st => match w.1.1[a]? with
    | some (.inr (.inr (.inr (cj, fs)))) => bif Nat.beq cj ci then (match fs[k]? with
      | some (.inl (lo, hi)) => (a_gm n A.2.1 st A.2.2.2.1 A.2.2.2.2 a k lo hi).map (fun B => [B])
      | some (.inr (.inr (.inl q))) => some [(n, A.2.1, .inr (.inr (.inl q)) :: st, A.2.2.2)]
      | some (.inr (.inl ())) => some [a_pl n A.2.1 st A.2.2.2.1 A.2.2.2.2 (-9223372036854775808) 9223372036854775807]
      | _ => none) else none
    | _ => none
  | _ => none
theorem a_getf_ok (ci k n : Nat) : ai_ok w (s_getf ci k n) (a_getf w ci k n) := by
  rintro E ⟨pc, lv, st, iv, ex⟩ ⟨pc', cl, cs, W⟩ As ⟨ρ, g1, g2, g3, g4, g5⟩ h
  simp only [a_getf] at h
  split at h
  · rename_i a st'
    split at h
    · rename_i cj fs hc
      cases hb : Nat.beq cj ci with
      | false => rw [hb] at h; cases h
      | true =>
        rw [hb, cond_true] at h
        obtain ⟨v, cs, rfl, ha, hr⟩ := f2_cons g4
        obtain rfl := av_ref ha
        obtain ⟨x, hx, hg⟩ := hs_at g5.1 hc
        dsimp only at hx
        match x, hx, hg with
        | .inr (cq, vs), hx, hg =>
          obtain ⟨rfl, hlen, hall⟩ := hg
          have hstep : ∀ v, vs[k]? = some v → s_getf ci k n (pc', cl, .ref a :: cs, W) = some (n, cl, v :: cs, W) := by
            intro v hv
            simp only [s_getf]
            rw [hx]
            simp only
            rw [hb, hv]
            rfl
          have hval : ∀ c, fs[k]? = some c → ∃ v, vs[k]? = some v ∧ af_g c v := by
            intro c hcc
            have hl : k < fs.length := (List.getElem?_eq_some_iff.mp hcc).1
            have hl' : k < vs.length := by omega
            exact ⟨vs[k], List.getElem?_eq_getElem hl', hall k c _ hcc (List.getElem?_eq_getElem hl')⟩
          have gg : as_r w E ρ (pc, lv, st', iv, ex) (pc', cl, cs, W) := ⟨g1, g2, g3, hr, g5⟩
          split at h
          · rename_i lo hi hf
            obtain ⟨B, hB, rfl⟩ := Option.map_eq_some_iff.mp h
            obtain ⟨v, e1, e2⟩ := hval _ hf
            cases v with
            | int y => exact ⟨_, hstep _ e1, B, List.mem_singleton_self _, a_gm_ok gg (by unfold ld; rw [hx]; exact e1) e2.1 e2.2 hB⟩
            | _ => exact e2.elim
          · rename_i q hf
            obtain ⟨v, e1, e2⟩ := hval _ hf
            cases v with
            | ref y => cases h; exact ⟨_, hstep _ e1, _, List.mem_singleton_self _, ρ, g1, rfl, g3, ⟨e2, hr⟩, g5⟩
            | _ => exact e2.elim
          · rename_i hf
            obtain ⟨v, e1, e2⟩ := hval _ hf
            cases v with
            | long y => cases h; exact ⟨_, hstep _ e1, _, List.mem_singleton_self _, a_pl_ok gg (al_lo _) (al_hi _)⟩
            | _ => exact e2.elim
          · cases h
    · cases h
  · cases h
/-- bounds of all elements -/
noncomputable def pat_lo : List (Int × Int) → Int
  | [] => -2147483648
  | [q] => q.1
  | q :: l => min q.1 (pat_lo l)
noncomputable def pat_hi : List (Int × Int) → Int
  | [] => 2147483647
  | [q] => q.2
  | q :: l => max q.2 (pat_hi l)
theorem pat_lo_ok {q : Int × Int} : ∀ {p : List (Int × Int)}, q ∈ p → pat_lo p ≤ q.1 ∧ q.2 ≤ pat_hi p
  | [], h => absurd h List.not_mem_nil
  | [a], h => by
    have h := List.mem_singleton.mp h
    subst h
    exact ⟨Int.le_refl _, Int.le_refl _⟩
  | a :: b :: l, h => by
    have e1 : pat_lo (a :: b :: l) = min a.1 (pat_lo (b :: l)) := rfl
    have e2 : pat_hi (a :: b :: l) = max a.2 (pat_hi (b :: l)) := rfl
    cases List.mem_cons.mp h with
    | inl e => subst e; omega
    | inr h => have := pat_lo_ok h; omega
theorem pat_at_some {p : List (Int × Int)} (h : p ≠ []) (j : Nat) : ∃ q, pat_at p j = some q ∧ q ∈ p := by
  have hl : j % p.length < p.length := Nat.mod_lt _ (List.length_pos_iff.mpr h)
  exact ⟨p[j % p.length], List.getElem?_eq_getElem hl, List.getElem_mem hl⟩
theorem pat_all {p : List (Int × Int)} {f : Nat → Int32} (h : ∀ j lo hi, pat_at p j = some (lo, hi) → lo ≤ (f j).toInt ∧ (f j).toInt ≤ hi) (j : Nat) : pat_lo p ≤ (f j).toInt ∧ (f j).toInt ≤ pat_hi p := by
  by_cases hp : p = []
  · subst hp; exact ⟨ai_lo _, ai_hi _⟩
  · obtain ⟨⟨lo, hi⟩, e, hm⟩ := pat_at_some hp j
    have h1 := h j lo hi e
    have h2 := pat_lo_ok hm
    dsimp only at h2
    omega
/-- an element of an int array of class t, read -/
noncomputable def a_ald (w : AW) (t n : Nat) : AS → Option (List AS) := fun A => match A.2.2.1 with
  | .inl (k, o) :: .inr (.inr (.inl a)) :: st => match w.1.1[a]?, iv_rng A.2.2.2.1 k o with
    | some (.inl (t', len, p)), some (l, u) => bif Nat.beq t' t && (decide (0 ≤ l) && decide (u < (len : Int))) then (bif decide (l = u) then (match pat_at p l.toNat with
        | some (lo, hi) => (a_gm n A.2.1 st A.2.2.2.1 A.2.2.2.2 a l.toNat lo hi).map (fun B => [B])
        | none => none) else some [a_pi n A.2.1 st A.2.2.2.1 A.2.2.2.2 (pat_lo p) (pat_hi p)]) else none
    | _, _ => none
  | _ => none
theorem a_ald_ok (t n : Nat) (f : pm_S → Option pm_S) (hf : ∀ (pc : Nat) (cl : List (Nat × Value)) (i : Int32) (a : Nat) (cs : List Value) (W : pm_H × Nat × Nat) (len : Nat) (g : Nat → Int32), W.1[a]? = some (.inl (t, len, .inl g)) → pm_ix i len = true → f (pc, cl, .int i :: .ref a :: cs, W) = some (n, cl, .int (g i.toNatClampNeg) :: cs, W)) : ai_ok w f (a_ald w t n) := by
  rintro E ⟨pc, lv, st, iv, ex⟩ ⟨pc', cl, cs, W⟩ As ⟨ρ, g1, g2, g3, g4, g5⟩ h
  simp only [a_ald] at h
  split at h
  · rename_i k o a st'
    split at h
    · rename_i t' len p l u hc hr
      cases hb : (Nat.beq t' t && (decide (0 ≤ l) && decide (u < (len : Int)))) with
      | false => rw [hb] at h; cases h
      | true =>
        rw [hb, cond_true] at h
        simp only [Bool.and_eq_true, decide_eq_true_eq] at hb
        obtain ⟨hb1, hb2, hb3⟩ := hb
        have ht : t' = t := Nat.eq_of_beq_eq_true hb1
        subst ht
        obtain ⟨v, cs, rfl, ha, hr0⟩ := f2_cons g4
        obtain ⟨u', cs, rfl, hc1, hs2⟩ := f2_cons hr0
        obtain ⟨i, rfl, ha⟩ := av_int ha
        obtain rfl := av_ref hc1
        obtain ⟨x, hx, hg⟩ := hs_at g5.1 hc
        dsimp only at hx
        match x, hx, hg with
        | .inl (t2, len2, .inl g), hx, hg =>
          obtain ⟨rfl, rfl, hall⟩ := hg
          have b1 := iv_rng_ok g1 ha hr
          have hstep := hf pc' cl i a cs W _ g hx (ai_ix (by omega) (by omega))
          have gg : as_r w E ρ (pc, lv, st', iv, ex) (pc', cl, cs, W) := ⟨g1, g2, g3, hs2, g5⟩
          cases hd : decide (l = u) with
          | false =>
            rw [hd] at h
            cases h
            have := pat_all hall i.toNatClampNeg
            exact ⟨_, hstep, _, List.mem_singleton_self _, a_pi_ok gg this.1 this.2⟩
          | true =>
            rw [hd, cond_true] at h
            have hd := of_decide_eq_true hd
            have hi : i.toNatClampNeg = l.toNat := by show i.toInt.toNat = l.toNat; omega
            split at h
            · rename_i lo hi' hp
              obtain ⟨B, hB, rfl⟩ := Option.map_eq_some_iff.mp h
              have := hall _ _ _ hp
              refine ⟨_, hstep, B, List.mem_singleton_self _, ?_⟩
              rw [hi]
              exact a_gm_ok gg (by unfold ld; rw [hx]) this.1 this.2 hB
            · cases h
    · cases h
  · cases h
end AIH
end
