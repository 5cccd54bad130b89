section
noncomputable def pm_ix (i : Int32) (n : Nat) : Bool := !(decide (i < 0)) && Nat.blt i.toNatClampNeg n
theorem pm_ix_in {i : Int32} {n : Nat} (h : pm_ix i n = true) : vp_in i n := by
  simp only [pm_ix, Bool.and_eq_true, Bool.not_eq_true', decide_eq_false_iff_not] at h
  have h2 : i.toNatClampNeg < n := Nat.le_of_ble_eq_true h.2
  intro q
  rcases q with q | q
  · exact h.1 q
  · omega
noncomputable def s_iald (n : Nat) : pm_S → Option pm_S := fun σ => match σ.2.2.1 with
  | .int i :: .ref a :: st => match σ.2.2.2.1[a]? with
    | some (.inl (0, len, .inl f)) => bif pm_ix i len then some (n, σ.2.1, .int (f i.toNatClampNeg) :: st, σ.2.2.2) else none
    | _ => none
  | _ => none
noncomputable def s_bald (n : Nat) : pm_S → Option pm_S := fun σ => match σ.2.2.1 with
  | .int i :: .ref a :: st => match σ.2.2.2.1[a]? with
    | some (.inl (1, len, .inl f)) => bif pm_ix i len then some (n, σ.2.1, .int (f i.toNatClampNeg) :: st, σ.2.2.2) else none
    | _ => none
  | _ => none
noncomputable def s_zald (n : Nat) : pm_S → Option pm_S := fun σ => match σ.2.2.1 with
  | .int i :: .ref a :: st => match σ.2.2.2.1[a]? with
    | some (.inl (2, len, .inl f)) => bif pm_ix i len then some (n, σ.2.1, .int (f i.toNatClampNeg) :: st, σ.2.2.2) else none
    | _ => none
  | _ => none
noncomputable def s_lald (n : Nat) : pm_S → Option pm_S := fun σ => match σ.2.2.1 with
  | .int i :: .ref a :: st => match σ.2.2.2.1[a]? with
    | some (.inl (3, len, .inr (.inl f))) => bif pm_ix i len then some (n, σ.2.1, .long (f i.toNatClampNeg) :: st, σ.2.2.2) else none
    | _ => none
  | _ => none
theorem k_iald {cc : ByteArray} {own : String} {nL pc : Nat} {ini : Bool} (hd : decode cc pc = .ok (.iaload, 1)) : pm_okF cc own nL ini pc (s_iald (pc + 1)) := by
  intro p l e R s m args below meth c D aC B b Q Cx hR1 hR2 lv st w σ' hf kk
  simp only [s_iald] at hf
  split at hf
  · rename_i i a st
    split at hf
    · rename_i len f he
      cases hb : pm_ix i len with
      | false => rw [hb] at hf; cases hf
      | true =>
        rw [hb] at hf
        obtain rfl := Option.some.inj hf
        intro H locs ls cells slots h1 h2 h3 h4 h5 h6
        exact va_iald Cx.1 Cx.2.1 Cx.2.2.2.2.2.1.1 h3 a 0 (pm_w_at he) rfl (pm_ix_in hb) hd (kk H locs ls cells slots h1 h2 h3 h4 h5 h6)
    · cases hf
  · cases hf
theorem k_bald {cc : ByteArray} {own : String} {nL pc : Nat} {ini : Bool} (hd : decode cc pc = .ok (.baload, 1)) : pm_okF cc own nL ini pc (s_bald (pc + 1)) := by
  intro p l e R s m args below meth c D aC B b Q Cx hR1 hR2 lv st w σ' hf kk
  simp only [s_bald] at hf
  split at hf
  · rename_i i a st
    split at hf
    · rename_i len f he
      cases hb : pm_ix i len with
      | false => rw [hb] at hf; cases hf
      | true =>
        rw [hb] at hf
        obtain rfl := Option.some.inj hf
        intro H locs ls cells slots h1 h2 h3 h4 h5 h6
        exact va_bald Cx.1 Cx.2.1 Cx.2.2.2.2.2.1.1 h3 a 1 (pm_w_at he) rfl (pm_ix_in hb) hd (kk H locs ls cells slots h1 h2 h3 h4 h5 h6)
    · cases hf
  · cases hf
theorem k_zald {cc : ByteArray} {own : String} {nL pc : Nat} {ini : Bool} (hd : decode cc pc = .ok (.baload, 1)) : pm_okF cc own nL ini pc (s_zald (pc + 1)) := by
  intro p l e R s m args below meth c D aC B b Q Cx hR1 hR2 lv st w σ' hf kk
  simp only [s_zald] at hf
  split at hf
  · rename_i i a st
    split at hf
    · rename_i len f he
      cases hb : pm_ix i len with
      | false => rw [hb] at hf; cases hf
      | true =>
        rw [hb] at hf
        obtain rfl := Option.some.inj hf
        intro H locs ls cells slots h1 h2 h3 h4 h5 h6
        exact va_zald Cx.1 Cx.2.1 Cx.2.2.2.2.2.1.1 h3 a 2 (pm_w_at he) rfl (pm_ix_in hb) hd (kk H locs ls cells slots h1 h2 h3 h4 h5 h6)
    · cases hf
  · cases hf
theorem k_lald {cc : ByteArray} {own : String} {nL pc : Nat} {ini : Bool} (hd : decode cc pc = .ok (.laload, 1)) : pm_okF cc own nL ini pc (s_lald (pc + 1)) := by
  intro p l e R s m args below meth c D aC B b Q Cx hR1 hR2 lv st w σ' hf kk
  simp only [s_lald] at hf
  split at hf
  · rename_i i a st
    split at hf
    · rename_i len f he
      cases hb : pm_ix i len with
      | false => rw [hb] at hf; cases hf
      | true =>
        rw [hb] at hf
        obtain rfl := Option.some.inj hf
        intro H locs ls cells slots h1 h2 h3 h4 h5 h6
        exact va_lald Cx.1 Cx.2.1 Cx.2.2.2.2.2.1.1 h3 a 3 (pm_w_at he) rfl (pm_ix_in hb) hd (kk H locs ls cells slots h1 h2 h3 h4 h5 h6)
    · cases hf
  · cases hf
noncomputable def pm_r (r : Option Nat) : Value := match r with
  | none => .null
  | some a => .ref a
theorem pm_r_v (B : Nat) (b : Nat → Option Nat) (r : Option Nat) : va_rf (r.map (fun k => B + k)) = pm_v B b (pm_r r) := by cases r <;> rfl
noncomputable def s_aald (t n : Nat) : pm_S → Option pm_S := fun σ => match σ.2.2.1 with
  | .int i :: .ref a :: st => match σ.2.2.2.1[a]? with
    | some (.inl (t', len, .inr (.inr (.inr (.inr f))))) => bif Nat.beq t' t && pm_ix i len then some (n, σ.2.1, pm_r (f i.toNatClampNeg) :: st, σ.2.2.2) else none
    | _ => none
  | _ => none
theorem k_aald {cc : ByteArray} {own : String} {nL pc : Nat} {ini : Bool} {t : Nat} {C : String} (ht : ∀ aC : Nat → ClassId, (pm_tys aC)[t]? = some (aC t, .object C)) (hd : decode cc pc = .ok (.aaload, 1)) : pm_okF cc own nL ini pc (s_aald t (pc + 1)) := by
  intro p l e R s m args below meth c D aC B b Q Cx hR1 hR2 lv st w σ' hf kk
  simp only [s_aald] at hf
  split at hf
  · rename_i i a st
    split at hf
    · rename_i t' len f he
      cases hb : (Nat.beq t' t && pm_ix i len) with
      | false => rw [hb] at hf; cases hf
      | true =>
        rw [hb] at hf
        obtain ⟨hb1, hb2⟩ := Bool.and_eq_true_iff.mp hb
        obtain rfl := Nat.eq_of_beq_eq_true hb1
        obtain rfl := Option.some.inj hf
        intro H locs ls cells slots h1 h2 h3 h4 h5 h6
        have k2 := kk H locs ls cells slots h1 h2 h3 h4 h5 h6
        simp only [List.map_cons, ← pm_r_v] at k2
        exact va_aldq Cx.1 Cx.2.1 Cx.2.2.2.2.2.1.1 h3 a t' (pm_w_at he) (ht aC) (pm_ix_in hb2) hd k2
    · cases hf
  · cases hf
noncomputable def s_iast (n : Nat) : pm_S → Option pm_S := fun σ => match σ.2.2.1 with
  | .int x :: .int i :: .ref a :: st => match σ.2.2.2.1[a]? with
    | some (.inl (0, len, .inl f)) => bif pm_ix i len then some (n, σ.2.1, st, σ.2.2.2.1.set a (.inl (0, len, .inl (upd f i.toNatClampNeg x))), σ.2.2.2.2) else none
    | _ => none
  | _ => none
end
