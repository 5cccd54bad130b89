section
/-! THE EXECUTOR (second writing), part 7: one number, longs, branches, switches -/
section AIB
variable {w : AW}
/-- the value stays, its kind too -/
theorem i2b_id {x : Int32} (h1 : -128 ≤ x.toInt) (h2 : x.toInt ≤ 127) : x.toInt8.toInt32.toInt = x.toInt := by
  rw [Int8.toInt_toInt32, Int32.toInt_toInt8]
  unfold Int.bmod
  have e : ((2 ^ 8 : Nat) : Int) = 256 := rfl
  simp only [e]
  split <;> omega
theorem i2b_rg (x : Int32) : -128 ≤ x.toInt8.toInt32.toInt ∧ x.toInt8.toInt32.toInt ≤ 127 := by
  rw [Int8.toInt_toInt32]
  have h1 := Int8.le_toInt x.toInt8
  have h2 := Int8.toInt_lt x.toInt8
  omega
theorem i2s_id {x : Int32} (h1 : -32768 ≤ x.toInt) (h2 : x.toInt ≤ 32767) : x.toInt16.toInt32.toInt = x.toInt := by
  rw [Int16.toInt_toInt32, Int32.toInt_toInt16]
  unfold Int.bmod
  have e : ((2 ^ 16 : Nat) : Int) = 65536 := rfl
  simp only [e]
  split <;> omega
theorem i2s_rg (x : Int32) : -32768 ≤ x.toInt16.toInt32.toInt ∧ x.toInt16.toInt32.toInt ≤ 32767 := by
  rw [Int16.toInt_toInt32]
  have h1 := Int16.le_toInt x.toInt16
  have h2 := Int16.toInt_lt x.toInt16
  omega
noncomputable def a_nar (a b : Int) (n : Nat) : AS → Option (List AS) := fun A => match A.2.2.1 with
  | .inl (k, o) :: st => match iv_rng A.2.2.2.1 k o with
    | some (l, u) => bif decide (a ≤ l) && decide (u ≤ b) then some [(n, A.2.1, .inl (k, o) :: st, A.2.2.2)] else some [a_pi n A.2.1 st A.2.2.2.1 A.2.2.2.2 a b]
    | none => none
  | _ => none
theorem a_nar_ok {op : Int32 → Int32} {a b : Int} (n : Nat) (hid : ∀ x : Int32, a ≤ x.toInt → x.toInt ≤ b → (op x).toInt = x.toInt) (hrg : ∀ x : Int32, a ≤ (op x).toInt ∧ (op x).toInt ≤ b) : ai_ok w (s_un op n) (a_nar a b n) := by
  rintro E ⟨pc, lv, st, iv, ex⟩ ⟨pc', cl, cs, W⟩ As ⟨ρ, g1, g2, g3, g4, g5⟩ h
  simp only [a_nar] at h
  split at h
  · rename_i k o st'
    split at h
    · rename_i l u r
      obtain ⟨v, cs, rfl, ha, hr⟩ := f2_cons g4
      obtain ⟨x, rfl, ha⟩ := av_int ha
      have b1 := iv_rng_ok g1 ha r
      cases hb : (decide (a ≤ l) && decide (u ≤ b)) with
      | true =>
        rw [hb] at h
        cases h
        simp only [Bool.and_eq_true, decide_eq_true_eq] at hb
        refine ⟨(n, cl, .int (op x) :: cs, W), rfl, _, List.mem_singleton_self _, ρ, g1, rfl, g3, ⟨?_, hr⟩, g5⟩
        show av_ev iv.length ρ k o (op x).toInt
        rw [hid x (by omega) (by omega)]
        exact ha
      | false =>
        rw [hb] at h
        cases h
        exact ⟨(n, cl, .int (op x) :: cs, W), rfl, _, List.mem_singleton_self _, a_pi_ok (st := st') (pc := pc) (pc' := pc') ⟨g1, g2, g3, hr, g5⟩ (hrg x).1 (hrg x).2⟩
    · cases h
  · cases h
theorem a_i2b_ok (n : Nat) : ai_ok w (s_un (fun x => x.toInt8.toInt32) n) (a_nar (-128) 127 n) := a_nar_ok n (fun _ => i2b_id) i2b_rg
theorem a_i2s_ok (n : Nat) : ai_ok w (s_un (fun x => x.toInt16.toInt32) n) (a_nar (-32768) 32767 n) := a_nar_ok n (fun _ => i2s_id) i2s_rg
theorem i2c_nat (x : Int32) : ((x.toUInt32 % 65536).toInt32).toBitVec.toNat = x.toBitVec.toNat % 65536 := rfl
theorem i2c_id {x : Int32} (h1 : 0 ≤ x.toInt) (h2 : x.toInt ≤ 65535) : ((x.toUInt32 % 65536).toInt32).toInt = x.toInt := by
  obtain ⟨e, l⟩ := ai_nn h1
  have hn := i2c_nat x
  rw [ai_of (by omega), hn, e]
  omega
theorem i2c_rg (x : Int32) : 0 ≤ ((x.toUInt32 % 65536).toInt32).toInt ∧ ((x.toUInt32 % 65536).toInt32).toInt ≤ 65535 := by
  have hn := i2c_nat x
  rw [ai_of (by omega), hn]
  omega
theorem a_i2c_ok (n : Nat) : ai_ok w (s_un (fun x => (x.toUInt32 % 65536).toInt32) n) (a_nar 0 65535 n) := a_nar_ok n (fun _ => i2c_id) i2c_rg
noncomputable def a_neg (n : Nat) : AS → Option (List AS) := fun A => match A.2.2.1 with
  | .inl (k, o) :: st => match iv_rng A.2.2.2.1 k o with
    | some (l, u) => some [a_pi n A.2.1 st A.2.2.2.1 A.2.2.2.2 (ai_bnd (-u) (-l)).1 (ai_bnd (-u) (-l)).2]
    | none => none
  | _ => none
theorem a_neg_ok (n : Nat) : ai_ok w (s_un (fun x => -x) n) (a_neg n) := by
  rintro E ⟨pc, lv, st, iv, ex⟩ ⟨pc', cl, cs, W⟩ As ⟨ρ, g1, g2, g3, g4, g5⟩ h
  simp only [a_neg] at h
  split at h
  · rename_i k o st'
    split at h
    · rename_i l u r
      cases h
      obtain ⟨v, cs, rfl, ha, hr⟩ := f2_cons g4
      obtain ⟨x, rfl, ha⟩ := av_int ha
      have b1 := iv_rng_ok g1 ha r
      have hq := ai_bnd_ok (z := -x) (lo := -u) (hi := -l) (fun hb => by
        have := ai_in_ok hb
        rw [Int32.toInt_neg, ai_bmod (by omega) (by omega)]
        omega)
      exact ⟨(n, cl, .int (-x) :: cs, W), rfl, _, List.mem_singleton_self _, a_pi_ok (st := st') (pc := pc) (pc' := pc') ⟨g1, g2, g3, hr, g5⟩ hq.1 hq.2⟩
    · cases h
  · cases h
/-- longs -/
noncomputable def a_i2l (n : Nat) : AS → Option (List AS) := fun A => match A.2.2.1 with
  | .inl (k, o) :: st => some [(n, A.2.1, .inr (.inl (k, o)) :: st, A.2.2.2)]
  | _ => none
theorem a_i2l_ok (n : Nat) : ai_ok w (s_i2l n) (a_i2l n) := by
  rintro E ⟨pc, lv, st, iv, ex⟩ ⟨pc', cl, cs, W⟩ As ⟨ρ, g1, g2, g3, g4, g5⟩ h
  simp only [a_i2l] at h
  split at h
  · rename_i k o st'
    cases h
    obtain ⟨v, cs, rfl, ha, hr⟩ := f2_cons g4
    obtain ⟨x, rfl, ha⟩ := av_int ha
    refine ⟨(n, cl, .long x.toInt64 :: cs, W), rfl, _, List.mem_singleton_self _, ρ, g1, rfl, g3, ⟨?_, hr⟩, g5⟩
    show av_ev iv.length ρ k o x.toInt64.toInt
    rw [Int32.toInt_toInt64]
    exact ha
  · cases h
noncomputable def a_l2i (n : Nat) : AS → Option (List AS) := fun A => match A.2.2.1 with
  | .inr (.inl (k, o)) :: st => match iv_rng A.2.2.2.1 k o with
    | some (l, u) => bif ai_in l u then some [(n, A.2.1, .inl (k, o) :: st, A.2.2.2)] else some [a_pi n A.2.1 st A.2.2.2.1 A.2.2.2.2 (-2147483648) 2147483647]
    | none => none
  | _ => none
theorem a_l2i_ok (n : Nat) : ai_ok w (s_l2i n) (a_l2i n) := by
  rintro E ⟨pc, lv, st, iv, ex⟩ ⟨pc', cl, cs, W⟩ As ⟨ρ, g1, g2, g3, g4, g5⟩ h
  simp only [a_l2i] at h
  split at h
  · rename_i k o st'
    split at h
    · rename_i l u r
      obtain ⟨v, cs, rfl, ha, hr⟩ := f2_cons g4
      obtain ⟨x, rfl, ha⟩ := av_long ha
      have b1 := iv_rng_ok g1 ha r
      cases hb : ai_in l u with
      | true =>
        rw [hb] at h
        cases h
        have := ai_in_ok hb
        refine ⟨(n, cl, .int x.toInt32 :: cs, W), rfl, _, List.mem_singleton_self _, ρ, g1, rfl, g3, ⟨?_, hr⟩, g5⟩
        show av_ev iv.length ρ k o x.toInt32.toInt
        rw [Int64.toInt_toInt32, ai_bmod (by omega) (by omega)]
        exact ha
      | false =>
        rw [hb] at h
        cases h
        exact ⟨(n, cl, .int x.toInt32 :: cs, W), rfl, _, List.mem_singleton_self _, a_pi_ok (st := st') (pc := pc) (pc' := pc') ⟨g1, g2, g3, hr, g5⟩ (ai_lo _) (ai_hi _)⟩
    · cases h
  · cases h
end AIB
end
