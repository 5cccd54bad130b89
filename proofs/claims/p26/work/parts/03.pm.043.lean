section
section AIQ
variable {w : AW}
noncomputable def a_add (n : Nat) : AS → Option (List AS) := fun A => match A.2.2.1 with
  | .inl (k2, o2) :: .inl (k1, o1) :: st => (a_addc n A.2.1 st A.2.2.2.1 A.2.2.2.2 k1 o1 k2 o2).map (fun B => [B])
  | _ => none
theorem a_add_ok (n : Nat) : ai_ok w (s_bin (fun x y => x + y) n) (a_add n) := by
  rintro E ⟨pc, lv, st, iv, ex⟩ ⟨pc', cl, cs, W⟩ As ⟨ρ, g1, g2, g3, g4, g5⟩ h
  simp only [a_add] at h
  split at h
  · rename_i k2 o2 k1 o1 st'
    obtain ⟨A, hA, rfl⟩ := Option.map_eq_some_iff.mp h
    obtain ⟨v, cs, rfl, ha, hr0⟩ := f2_cons g4
    obtain ⟨u, cs, rfl, hc, hr⟩ := f2_cons hr0
    obtain ⟨y, rfl, ha⟩ := av_int ha
    obtain ⟨x, rfl, hc⟩ := av_int hc
    exact ⟨(n, cl, .int (x + y) :: cs, W), rfl, _, List.mem_singleton_self _, a_addc_ok (st := st') (pc := pc) (pc' := pc') ⟨g1, g2, g3, hr, g5⟩ hc ha hA⟩
  · cases h
noncomputable def a_sub (n : Nat) : AS → Option (List AS) := fun A => match A.2.2.1 with
  | .inl (k2, o2) :: .inl (k1, o1) :: st => (a_subc n A.2.1 st A.2.2.2.1 A.2.2.2.2 k1 o1 k2 o2).map (fun B => [B])
  | _ => none
theorem a_sub_ok (n : Nat) : ai_ok w (s_bin (fun x y => x - y) n) (a_sub n) := by
  rintro E ⟨pc, lv, st, iv, ex⟩ ⟨pc', cl, cs, W⟩ As ⟨ρ, g1, g2, g3, g4, g5⟩ h
  simp only [a_sub] at h
  split at h
  · rename_i k2 o2 k1 o1 st'
    obtain ⟨A, hA, rfl⟩ := Option.map_eq_some_iff.mp h
    obtain ⟨v, cs, rfl, ha, hr0⟩ := f2_cons g4
    obtain ⟨u, cs, rfl, hc, hr⟩ := f2_cons hr0
    obtain ⟨y, rfl, ha⟩ := av_int ha
    obtain ⟨x, rfl, hc⟩ := av_int hc
    exact ⟨(n, cl, .int (x - y) :: cs, W), rfl, _, List.mem_singleton_self _, a_subc_ok (st := st') (pc := pc) (pc' := pc') ⟨g1, g2, g3, hr, g5⟩ hc ha hA⟩
  · cases h
/-- a local counts on -/
noncomputable def a_inc (i : Nat) (d : Int32) (n : Nat) : AS → Option (List AS) := fun A => match as_get A.2.1 i with
  | some (.inl (k, o)) => match iv_rng A.2.2.2.1 k o with
    | some (lo, hi) => bif kp1 A.2.2.2.2.2.2.2.2 A.2.1 i then (bif ai_in (lo + d.toInt) (hi + d.toInt) then some [(n, as_put1 i (.inl (k, (o + d.toInt))) A.2.1, A.2.2.1, A.2.2.2)] else some [(n, as_put1 i (.inl (some A.2.2.2.1.length, 0)) A.2.1, A.2.2.1, A.2.2.2.1 ++ [(-2147483648, 2147483647)], A.2.2.2.2)]) else none
    | none => none
  | _ => none
theorem a_inc_ok (i : Nat) (d : Int32) (n : Nat) : ai_ok w (s_inc i d n) (a_inc i d n) := by
  rintro E ⟨pc, lv, st, iv, ex⟩ ⟨pc', cl, cs, W⟩ As ⟨ρ, g⟩ h
  obtain ⟨g1, g2, g3, g4, g5⟩ := id g
  simp only [a_inc] at h
  split at h
  · rename_i k o e
    split at h
    · rename_i lo hi er
      cases hk : kp1 ex.2.2.2.2 lv i with
      | false => rw [hk] at h; cases h
      | true =>
        rw [hk, cond_true] at h
        obtain ⟨v, e1, e2⟩ := g3 i _ (as_get_in e)
        obtain ⟨x, rfl, e2⟩ := av_int e2
        have hstep : s_inc i d n (pc', cl, cs, W) = some (n, pm_put1 i (.int (x + d)) cl, cs, W) := by
          simp only [s_inc]; simp only at e1; rw [e1]
        cases hb : ai_in (lo + d.toInt) (hi + d.toInt) with
        | false =>
          rw [hb] at h
          cases h
          obtain ⟨⟨p1, p2, p3, p4, p5⟩, q⟩ := as_grow (v := (x + d).toInt) (lo := -2147483648) (hi := 2147483647) g (ai_lo _) (ai_hi _)
          exact ⟨_, hstep, _, List.mem_singleton_self _, _, p1, rfl, as_put1_ok p3 q, p4, ex_put1 p3 hk p5⟩
        | true =>
          rw [hb] at h
          cases h
          have hr := iv_rng_ok g1 e2 er
          have hi2 := ai_in_ok hb
          have hx : (x + d).toInt = x.toInt + d.toInt := ai_add (by omega) (by omega)
          refine ⟨_, hstep, _, List.mem_singleton_self _, ρ, g1, rfl, as_put1_ok g3 ?_, g4, ex_put1 g3 hk g5⟩
          show av_ev iv.length ρ k (o + d.toInt) (x + d).toInt
          rw [hx]
          exact av_ev_add e2
    · cases h
  · cases h
end AIQ
end

