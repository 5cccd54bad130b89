/-! THE EXECUTOR, part 4: fields and arrays -/
section AIH
variable {hs : List AE}
theorem ai_ix {i : Int32} {len : Nat} (h1 : 0 ≤ i.toInt) (h2 : i.toInt < (len : Int)) : pm_ix i len = true := by
  unfold pm_ix
  have h3 : ¬ i < 0 := by rw [Int32.lt_iff_toInt_lt]; show ¬ i.toInt < 0; omega
  have h4 : i.toNatClampNeg < len := by show i.toInt.toNat < len; omega
  simp only [h3, decide_false, Bool.not_false, Bool.true_and]
  exact Nat.ble_eq_true_of_le h4
/-- a value of a field, read: an int gets a fresh symbol -/
def a_getf (ci k n : Nat) : AS → Option (List AS) := fun A => match A.2.2.1 with
  | .inr (.inr (.inl a)) :: st => match hs[a]? with
    | some (.inr (.inr (.inr (cj, fs)))) => bif Nat.beq cj ci then (match fs[k]? with
      | some (.inl (lo, hi)) => ai_new n A.2.1 st A.2.2.2 lo hi
      | some (.inr (.inr (.inl q))) => some [(n, A.2.1, .inr (.inr (.inl q)) :: st, A.2.2.2)]
      | _ => none) else none
    | _ => none
  | _ => none
theorem a_getf_ok (ci k n : Nat) : ai_ok hs (s_getf ci k n) (a_getf (hs := hs) ci k n) := by
  rintro E ⟨pc, lv, st, iv⟩ ⟨pc', cl, cs, w⟩ As ⟨ρ, g1, g2, g3, g4, g5⟩ h
  simp only [a_getf] at h
  split at h
  · rename_i a st'
    split at h
    · rename_i cj fs hc
      cases hb : Nat.beq cj ci with
      | false => rw [hb] at h; cases h
      | true =>
        rw [hb, cond_true] at h
        obtain ⟨v, cs, rfl, ha, hr⟩ := f2_cons g4
        ·
          cases v with
          | ref a' =>
            obtain rfl : a' = a := ha
            obtain ⟨x, hx, hg⟩ := hs_at g5 hc
            match x, hx, hg with
            | .inr (cq, vs), hx, hg =>
              obtain ⟨rfl, hlen, hall⟩ := hg
              have hstep : ∀ v, vs[k]? = some v → s_getf ci k n (pc', cl, .ref a' :: cs, w) = some (n, cl, v :: cs, w) := by
                intro v hv
                simp only [s_getf]
                simp only at hx
                rw [hx]
                simp only
                rw [hb, hv]
                rfl
              have hval : ∀ c, fs[k]? = some c → ∃ v, vs[k]? = some v ∧ af_g c v := by
                intro c hcc
                have hl : k < fs.length := (List.getElem?_eq_some_iff.mp hcc).1
                have hl' : k < vs.length := by omega
                exact ⟨vs[k], List.getElem?_eq_getElem hl', hall k c _ hcc (List.getElem?_eq_getElem hl')⟩
              split at h
              · rename_i lo hi hf
                obtain ⟨v, e1, e2⟩ := hval _ hf
                cases v with
                | int y => exact ⟨_, hstep _ e1, ai_new_ok h g1 g3 hr g5 e2.1 e2.2⟩
                | _ => exact e2.elim
              · rename_i q hf
                obtain ⟨v, e1, e2⟩ := hval _ hf
                cases v with
                | ref y => cases h; exact ⟨_, hstep _ e1, _, List.mem_singleton_self _, ρ, g1, rfl, g3, ⟨e2, hr⟩, g5⟩
                | _ => exact e2.elim
              · cases h
          | _ => exact ha.elim
    · cases h
  · cases h
/-- an element of an int array of class t, read -/
def a_ald (t n : Nat) : AS → Option (List AS) := fun A => match A.2.2.1 with
  | .inl (k, o) :: .inr (.inr (.inl a)) :: st => match hs[a]?, iv_rng A.2.2.2 k o with
    | some (.inl (t', len, lo, hi)), some (l, u) => bif Nat.beq t' t && (decide (0 ≤ l) && decide (u < (len : Int))) then ai_new n A.2.1 st A.2.2.2 lo hi else none
    | _, _ => none
  | _ => none
theorem a_ald_ok (t n : Nat) (f : pm_S → Option pm_S) (hf : ∀ (pc : Nat) (cl : List (Nat × Value)) (i : Int32) (a : Nat) (cs : List Value) (w : pm_H × Nat × Nat) (len : Nat) (g : Nat → Int32), w.1[a]? = some (.inl (t, len, .inl g)) → pm_ix i len = true → f (pc, cl, .int i :: .ref a :: cs, w) = some (n, cl, .int (g i.toNatClampNeg) :: cs, w)) : ai_ok hs f (a_ald (hs := hs) t n) := by
  rintro E ⟨pc, lv, st, iv⟩ ⟨pc', cl, cs, w⟩ As ⟨ρ, g1, g2, g3, g4, g5⟩ h
  simp only [a_ald] at h
  split at h
  · rename_i k o a st'
    split at h
    · rename_i t' len lo hi l u hc hr
      cases hb : (Nat.beq t' t && (decide (0 ≤ l) && decide (u < (len : Int)))) with
      | false => rw [hb] at h; cases h
      | true =>
        rw [hb, cond_true] at h
        simp only [Bool.and_eq_true, decide_eq_true_eq] at hb
        obtain ⟨hb1, hb2, hb3⟩ := hb
        have ht : t' = t := Nat.eq_of_beq_eq_true hb1
        subst ht
        obtain ⟨v, cs, rfl, ha, hr0⟩ := f2_cons g4
        ·
          obtain ⟨u', cs, rfl, hc1, hs2⟩ := f2_cons hr0
          ·
            cases v with
            | int i =>
              cases u' with
              | ref a' =>
                obtain rfl : a' = a := hc1
                obtain ⟨x, hx, hg⟩ := hs_at g5 hc
                match x, hx, hg with
                | .inl (t2, len2, .inl g), hx, hg =>
                  obtain ⟨rfl, rfl, hall⟩ := hg
                  have b1 := iv_rng_ok g1 ha hr
                  exact ⟨_, hf pc' cl i a' cs w _ g hx (ai_ix (by omega) (by omega)), ai_new_ok h g1 g3 hs2 g5 (hall _).1 (hall _).2⟩
              | _ => exact hc1.elim
            | _ => exact ha.elim
    · cases h
  · cases h
theorem a_iald_ok (n : Nat) : ai_ok hs (s_iald n) (a_ald (hs := hs) 0 n) := a_ald_ok 0 n _ (fun pc cl i a cs w len g h1 h2 => by simp only [s_iald]; rw [h1]; simp only; rw [h2]; rfl)
theorem a_bald_ok (n : Nat) : ai_ok hs (s_bald n) (a_ald (hs := hs) 1 n) := a_ald_ok 1 n _ (fun pc cl i a cs w len g h1 h2 => by simp only [s_bald]; rw [h1]; simp only; rw [h2]; rfl)
theorem a_zald_ok (n : Nat) : ai_ok hs (s_zald n) (a_ald (hs := hs) 2 n) := a_ald_ok 2 n _ (fun pc cl i a cs w len g h1 h2 => by simp only [s_zald]; rw [h1]; simp only; rw [h2]; rfl)
end AIH
