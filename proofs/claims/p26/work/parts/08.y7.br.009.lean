section
section AIU
variable {w : AW}
noncomputable def a_sval (n : Nat) : AS → Option (List AS) := fun A => match A.2.2.1 with
  | .inr (.inr (.inr (.inl k))) :: st => bif Nat.ble 4 k && Nat.blt k 12 then some [(n, A.2.1, .inr (.inr (.inr (.inl (k + 8)))) :: st, A.2.2.2)] else none
  | _ => none
theorem a_sval_ok (n : Nat) : ai_ok w (s_sval n) (a_sval n) := by
  rintro E ⟨pc, lv, st, iv, ex⟩ ⟨pc', cl, cs, W⟩ As ⟨ρ, g1, g2, g3, g4, g5⟩ h
  simp only [a_sval] at h
  split at h
  · rename_i k st'
    cases hb : (Nat.ble 4 k && Nat.blt k 12) with
    | false => rw [hb] at h; cases h
    | true =>
      rw [hb] at h
      cases h
      obtain ⟨v, cs, rfl, ha, hr⟩ := f2_cons g4
      obtain rfl := av_out ha
      exact ⟨(n, cl, .retAddr (k + 8) :: cs, W), by simp only [s_sval, hb, cond_true], _, List.mem_singleton_self _, ρ, g1, rfl, g3, ⟨rfl, hr⟩, g5⟩
  · cases h
noncomputable def a_scod (n : Nat) : AS → Option (List AS) := fun A => match A.2.2.1 with
  | .inr (.inr (.inr (.inl k))) :: st => bif Nat.ble 4 k && Nat.blt k 12 then some [(n, A.2.1, .inl (none, 0) :: st, A.2.2.2)] else none
  | _ => none
theorem a_scod_ok (n : Nat) : ai_ok w (s_scod n) (a_scod n) := by
  rintro E ⟨pc, lv, st, iv, ex⟩ ⟨pc', cl, cs, W⟩ As ⟨ρ, g1, g2, g3, g4, g5⟩ h
  simp only [a_scod] at h
  split at h
  · rename_i k st'
    cases hb : (Nat.ble 4 k && Nat.blt k 12) with
    | false => rw [hb] at h; cases h
    | true =>
      rw [hb] at h
      cases h
      obtain ⟨v, cs, rfl, ha, hr⟩ := f2_cons g4
      obtain rfl := av_out ha
      exact ⟨(n, cl, .int 0 :: cs, W), by simp only [s_scod, hb, cond_true], _, List.mem_singleton_self _, ρ, g1, rfl, g3, ⟨rfl, hr⟩, g5⟩
  · cases h
noncomputable def a_sblen (n : Nat) : AS → Option (List AS) := fun A => match A.2.2.1 with
  | .inr (.inr (.inr (.inl k))) :: st => bif Nat.ble 12 k && Nat.blt k 20 then some [(n, A.2.1, .inl (none, (Int32.ofNat (pm_len.getD (k - 12) 0)).toInt) :: st, A.2.2.2)] else none
  | _ => none
theorem a_sblen_ok (n : Nat) : ai_ok w (s_sblen n) (a_sblen n) := by
  rintro E ⟨pc, lv, st, iv, ex⟩ ⟨pc', cl, cs, W⟩ As ⟨ρ, g1, g2, g3, g4, g5⟩ h
  simp only [a_sblen] at h
  split at h
  · rename_i k st'
    cases hb : (Nat.ble 12 k && Nat.blt k 20) with
    | false => rw [hb] at h; cases h
    | true =>
      rw [hb] at h
      cases h
      obtain ⟨v, cs, rfl, ha, hr⟩ := f2_cons g4
      obtain rfl := av_out ha
      exact ⟨(n, cl, .int (Int32.ofNat (pm_len.getD (k - 12) 0)) :: cs, W), by simp only [s_sblen, hb, cond_true], _, List.mem_singleton_self _, ρ, g1, rfl, g3, ⟨rfl, hr⟩, g5⟩
  · cases h
theorem byt_rg (k j : Nat) : 0 ≤ ((pm_byt.getD k []).getD j 0).toInt ∧ ((pm_byt.getD k []).getD j 0).toInt ≤ 127 := by
  have hall : ∀ l ∈ pm_byt, ∀ b ∈ l, 0 ≤ b.toInt ∧ b.toInt ≤ 127 := by decide +kernel
  have h0 : 0 ≤ (0 : Int32).toInt ∧ (0 : Int32).toInt ≤ 127 := by decide
  rw [List.getD_eq_getElem?_getD, List.getD_eq_getElem?_getD]
  cases hk : pm_byt[k]? with
  | none => exact h0
  | some l =>
    show 0 ≤ (l[j]?.getD 0).toInt ∧ (l[j]?.getD 0).toInt ≤ 127
    cases hj : l[j]? with
    | none => exact h0
    | some b => exact hall l (List.mem_of_getElem? hk) b (List.mem_of_getElem? hj)
noncomputable def a_sbald (n : Nat) : AS → Option (List AS) := fun A => match A.2.2.1 with
  | .inl (kk, o) :: .inr (.inr (.inr (.inl k))) :: st => match iv_rng A.2.2.2.1 kk o with
    | some (l, u) => bif (Nat.ble 12 k && Nat.blt k 20) && (decide (0 ≤ l) && decide (u < ((pm_len.getD (k - 12) 0 : Nat) : Int))) then some [a_pi n A.2.1 st A.2.2.2.1 A.2.2.2.2 0 127] else none
    | none => none
  | _ => none
theorem a_sbald_ok (n : Nat) : ai_ok w (s_sbald n) (a_sbald n) := by
  rintro E ⟨pc, lv, st, iv, ex⟩ ⟨pc', cl, cs, W⟩ As ⟨ρ, g1, g2, g3, g4, g5⟩ h
  simp only [a_sbald] at h
  split at h
  · rename_i kk o k st'
    split at h
    · rename_i l u r
      cases hb : ((Nat.ble 12 k && Nat.blt k 20) && (decide (0 ≤ l) && decide (u < ((pm_len.getD (k - 12) 0 : Nat) : Int)))) with
      | false => rw [hb] at h; cases h
      | true =>
        rw [hb] at h
        cases h
        rw [Bool.and_eq_true] at hb
        obtain ⟨hb1, hb2⟩ := hb
        simp only [Bool.and_eq_true, decide_eq_true_eq] at hb2
        obtain ⟨v, cs, rfl, ha, hr0⟩ := f2_cons g4
        obtain ⟨v2, cs, rfl, hc, hr⟩ := f2_cons hr0
        obtain ⟨i, rfl, ha⟩ := av_int ha
        obtain rfl := av_out hc
        have b1 := iv_rng_ok g1 ha r
        have hi := ai_ix (i := i) (len := pm_len.getD (k - 12) 0) (by omega) (by omega)
        have hv := byt_rg (k - 12) i.toNatClampNeg
        exact ⟨(n, cl, .int ((pm_byt.getD (k - 12) []).getD i.toNatClampNeg 0) :: cs, W), by simp only [s_sbald, hb1, hi, Bool.and_self, cond_true], _, List.mem_singleton_self _, a_pi_ok (st := st') (pc := pc) (pc' := pc') ⟨g1, g2, g3, hr, g5⟩ hv.1 hv.2⟩
    · cases h
  · cases h
theorem fac_rg : ∀ j : Fin 9, 1 ≤ (pm_fac j.1).toInt ∧ (pm_fac j.1).toInt ≤ 40320 := by decide +kernel
theorem rbs_rg : ∀ j : Fin 55, 0 ≤ (pm_rbs j.1).toInt ∧ (pm_rbs j.1).toInt ≤ 270 := by decide +kernel
noncomputable def a_tald (n : Nat) : AS → Option (List AS) := fun A => match A.2.2.1 with
  | .inl (kk, o) :: .inr (.inr (.inr (.inl 1))) :: st => match iv_rng A.2.2.2.1 kk o with
    | some (l, u) => bif decide (0 ≤ l) && decide (u < 9) then some [a_pi n A.2.1 st A.2.2.2.1 A.2.2.2.2 1 40320] else none
    | none => none
  | .inl (kk, o) :: .inr (.inr (.inr (.inl 2))) :: st => match iv_rng A.2.2.2.1 kk o with
    | some (l, u) => bif decide (0 ≤ l) && decide (u < 55) then some [a_pi n A.2.1 st A.2.2.2.1 A.2.2.2.2 0 270] else none
    | none => none
  | _ => none
theorem a_tald_ok (n : Nat) : ai_ok w (s_tald n) (a_tald n) := by
  rintro E ⟨pc, lv, st, iv, ex⟩ ⟨pc', cl, cs, W⟩ As ⟨ρ, g1, g2, g3, g4, g5⟩ h
  simp only [a_tald] at h
  split at h
  · rename_i kk o st'
    split at h
    · rename_i l u r
      cases hb : (decide (0 ≤ l) && decide (u < 9)) with
      | false => rw [hb] at h; cases h
      | true =>
        rw [hb] at h
        cases h
        simp only [Bool.and_eq_true, decide_eq_true_eq] at hb
        obtain ⟨v, cs, rfl, ha, hr0⟩ := f2_cons g4
        obtain ⟨v2, cs, rfl, hc, hr⟩ := f2_cons hr0
        obtain ⟨i, rfl, ha⟩ := av_int ha
        obtain rfl := av_out hc
        have b1 := iv_rng_ok g1 ha r
        have hi := ai_ix (i := i) (len := 9) (by omega) (by omega)
        have hv := fac_rg ⟨i.toNatClampNeg, by show i.toInt.toNat < 9; omega⟩
        exact ⟨(n, cl, .int (pm_fac i.toNatClampNeg) :: cs, W), by simp only [s_tald, hi, cond_true], _, List.mem_singleton_self _, a_pi_ok (st := st') (pc := pc) (pc' := pc') ⟨g1, g2, g3, hr, g5⟩ hv.1 hv.2⟩
    · cases h
  · rename_i kk o st'
    split at h
    · rename_i l u r
      cases hb : (decide (0 ≤ l) && decide (u < 55)) with
      | false => rw [hb] at h; cases h
      | true =>
        rw [hb] at h
        cases h
        simp only [Bool.and_eq_true, decide_eq_true_eq] at hb
        obtain ⟨v, cs, rfl, ha, hr0⟩ := f2_cons g4
        obtain ⟨v2, cs, rfl, hc, hr⟩ := f2_cons hr0
        obtain ⟨i, rfl, ha⟩ := av_int ha
        obtain rfl := av_out hc
        have b1 := iv_rng_ok g1 ha r
        have hi := ai_ix (i := i) (len := 55) (by omega) (by omega)
        have hv := rbs_rg ⟨i.toNatClampNeg, by show i.toInt.toNat < 55; omega⟩
        exact ⟨(n, cl, .int (pm_rbs i.toNatClampNeg) :: cs, W), by simp only [s_tald, hi, cond_true], _, List.mem_singleton_self _, a_pi_ok (st := st') (pc := pc) (pc' := pc') ⟨g1, g2, g3, hr, g5⟩ hv.1 hv.2⟩
    · cases h
  · cases h
end AIU
end
