section
section AIT
variable {w : AW}
/-- a reference out of an array -/
noncomputable def a_aald (w : AW) (t n : Nat) : AS → Option (List AS) := fun A => match A.2.2.1 with
  | .inl (k, o) :: .inr (.inr (.inl a)) :: st => match w.1.1[a]?, iv_rng A.2.2.2.1 k o with
    | some (.inr (.inr (.inl (t', fs)))), some (l, u) => bif Nat.beq t' t && ((decide (0 ≤ l) && decide (u < (fs.length : Int))) && fs.all (fun q => q.isSome)) then some (a_each k o A.2.2.2.1 (fun j iv' => match fs[j]? with
        | some (some r) => some (n, A.2.1, .inr (.inr (.inl r)) :: st, iv', A.2.2.2.2)
        | _ => none) l.toNat (u - l + 1).toNat) else none
    | _, _ => none
  | _ => none
theorem a_aald_ok (t n : Nat) : ai_ok w (s_aald t n) (a_aald w t n) := by
  rintro E ⟨pc, lv, st, iv, ex⟩ ⟨pc', cl, cs, W⟩ As ⟨ρ, g1, g2, g3, g4, g5⟩ h
  simp only [a_aald] at h
  split at h
  · rename_i k o a st'
    split at h
    · rename_i t' fs l u hc hr
      cases hb : (Nat.beq t' t && ((decide (0 ≤ l) && decide (u < (fs.length : Int))) && fs.all (fun q => q.isSome))) with
      | false => rw [hb] at h; cases h
      | true =>
        rw [hb] at h
        cases h
        simp only [Bool.and_eq_true, decide_eq_true_eq] at hb
        obtain ⟨hb1, ⟨hb2, hb3⟩, hb4⟩ := hb
        obtain ⟨v, cs, rfl, ha, hr0⟩ := f2_cons g4
        obtain ⟨u', cs, rfl, hc1, hs2⟩ := f2_cons hr0
        obtain ⟨i, rfl, ha⟩ := av_int ha
        obtain rfl := av_ref hc1
        obtain ⟨z, hx, hg⟩ := hs_at g5.1 hc
        dsimp only at hx
        match z, hx, hg with
        | .inl (t2, len2, .inr (.inr (.inr (.inr g)))), hx, hg =>
          obtain ⟨rfl, rfl, hall⟩ := hg
          have b1 := iv_rng_ok g1 ha hr
          have hi := ai_ix (i := i) (len := fs.length) (by omega) (by omega)
          have hlt : i.toNatClampNeg < fs.length := by show i.toInt.toNat < fs.length; omega
          have hfi : fs[i.toNatClampNeg]? = some fs[i.toNatClampNeg] := List.getElem?_eq_getElem hlt
          have hsm := List.all_eq_true.mp hb4 _ (List.getElem_mem hlt)
          obtain ⟨r, hr'⟩ := Option.isSome_iff_exists.mp hsm
          rw [hr'] at hfi
          have hgi := hall _ _ hfi
          have hcast : ((i.toNatClampNeg : Nat) : Int) = i.toInt := by show ((i.toInt.toNat : Nat) : Int) = i.toInt; omega
          obtain ⟨iv', e1, e2, e3⟩ := iv_nar_ok (lo := (i.toNatClampNeg : Int)) (hi := (i.toNatClampNeg : Int)) g1 ha (by omega) (by omega)
          have gg : as_r w E ρ (pc, lv, st', iv, ex) (pc', cl, cs, W) := ⟨g1, g2, g3, hs2, g5⟩
          obtain ⟨q1, q2, q3, q4, q5⟩ := as_iv gg e2 e3
          refine ⟨(n, cl, .ref r :: cs, W), ?_, (n, lv, .inr (.inr (.inl r)) :: st', iv', ex), a_each_in e1 (by simp only [hfi]) _ _ ?_ ?_, ρ, q1, rfl, q3, ⟨rfl, q4⟩, q5⟩
          · simp only [s_aald]
            rw [hx]
            simp only
            rw [hb1, hi, hgi]
            rfl
          · show l.toNat ≤ i.toInt.toNat; omega
          · show i.toInt.toNat < l.toNat + _; omega
    · cases h
  · cases h
/-- a switch -/
noncomputable def a_tsw (lo hi : Int) (ts : List Nat) (d : Nat) : AS → Option (List AS) := fun A => match A.2.2.1 with
  | .inl (k, o) :: st => bif decide ((ts.length : Int) = hi - lo + 1) then some (a_each k (o - lo) A.2.2.2.1 (fun j iv' => match ts[j]? with
        | some t => some (t, A.2.1, st, iv', A.2.2.2.2)
        | none => none) 0 ts.length ++ ((match iv_nar A.2.2.2.1 k o (-2147483648) (lo - 1) with | some iv' => [(d, A.2.1, st, iv', A.2.2.2.2)] | none => []) ++ (match iv_nar A.2.2.2.1 k o (hi + 1) 2147483647 with | some iv' => [(d, A.2.1, st, iv', A.2.2.2.2)] | none => []))) else none
  | _ => none
theorem a_tsw_ok (lo hi : Int) (ts : List Nat) (d : Nat) : ai_ok w (s_tsw lo hi ts d) (a_tsw lo hi ts d) := by
  rintro E ⟨pc, lv, st, iv, ex⟩ ⟨pc', cl, cs, W⟩ As ⟨ρ, g1, g2, g3, g4, g5⟩ h
  simp only [a_tsw] at h
  split at h
  · rename_i k o st'
    cases hb : decide ((ts.length : Int) = hi - lo + 1) with
    | false => rw [hb] at h; cases h
    | true =>
      rw [hb] at h
      cases h
      have hb1 := of_decide_eq_true hb
      obtain ⟨v, cs, rfl, ha, hr⟩ := f2_cons g4
      obtain ⟨x, rfl, ha⟩ := av_int ha
      have gg : as_r w E ρ (pc, lv, st', iv, ex) (pc', cl, cs, W) := ⟨g1, g2, g3, hr, g5⟩
      have xl := ai_lo x
      have xh := ai_hi x
      by_cases h1 : x.toInt < lo
      · obtain ⟨iv', e1, e2, e3⟩ := iv_nar_ok (lo := -2147483648) (hi := lo - 1) g1 ha (by omega) (by omega)
        obtain ⟨q1, q2, q3, q4, q5⟩ := as_iv gg e2 e3
        refine ⟨(d, cl, cs, W), by simp only [s_tsw, h1, decide_true, Bool.true_or, cond_true], (d, lv, st', iv', ex), ?_, ρ, q1, rfl, q3, q4, q5⟩
        refine List.mem_append_right _ (List.mem_append_left _ ?_)
        rw [e1]
        exact List.mem_singleton_self _
      · by_cases h2 : hi < x.toInt
        · obtain ⟨iv', e1, e2, e3⟩ := iv_nar_ok (lo := hi + 1) (hi := 2147483647) g1 ha (by omega) (by omega)
          obtain ⟨q1, q2, q3, q4, q5⟩ := as_iv gg e2 e3
          refine ⟨(d, cl, cs, W), by simp only [s_tsw, h2, decide_true, Bool.or_true, cond_true], (d, lv, st', iv', ex), ?_, ρ, q1, rfl, q3, q4, q5⟩
          refine List.mem_append_right _ (List.mem_append_right _ ?_)
          rw [e1]
          exact List.mem_singleton_self _
        · have hlt : (x.toInt - lo).toNat < ts.length := by omega
          have hj : ts[(x.toInt - lo).toNat]? = some ts[(x.toInt - lo).toNat] := List.getElem?_eq_getElem hlt
          have hc : (((x.toInt - lo).toNat : Nat) : Int) = x.toInt - lo := by omega
          have ha2 : av_ev iv.length ρ k (o - lo) (x.toInt - lo) := by
            cases k with
            | none => have ha : x.toInt = o := ha; show x.toInt - lo = o - lo; omega
            | some k => exact ⟨ha.1, by have := ha.2; show x.toInt - lo = ρ k + (o - lo); omega⟩
          obtain ⟨iv', e1, e2, e3⟩ := iv_nar_ok (lo := ((x.toInt - lo).toNat : Int)) (hi := ((x.toInt - lo).toNat : Int)) g1 ha2 (by omega) (by omega)
          obtain ⟨q1, q2, q3, q4, q5⟩ := as_iv gg e2 e3
          refine ⟨(ts[(x.toInt - lo).toNat], cl, cs, W), ?_, (ts[(x.toInt - lo).toNat], lv, st', iv', ex), List.mem_append_left _ (a_each_in e1 (by simp only [hj]) _ _ (by omega) (by omega)), ρ, q1, rfl, q3, q4, q5⟩
          simp only [s_tsw, h1, h2, decide_false, Bool.or_self, cond_false, hj]
  · cases h
end AIT
end
section
/-! THE EXECUTOR (second writing), part 10: what lies outside; cases -/
section AIU
variable {w : AW}
end AIU
end
