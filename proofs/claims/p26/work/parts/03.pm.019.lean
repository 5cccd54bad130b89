section
section PMO
variable {cc : ByteArray} {own : String} {nL pc : Nat} {ini : Bool}
theorem k_tald (hd : decode cc pc = .ok (.iaload, 1)) : pm_okF cc own nL ini pc (s_tald (pc + 1)) := by
  intro p l e R s m args below meth c D aC B b Q Cx hR1 hR2 lv st w σ' hf k
  simp only [s_tald] at hf
  split at hf
  · rename_i i st
    cases hb : pm_ix i 9 with
    | false => rw [hb] at hf; cases hf
    | true =>
      rw [hb] at hf
      obtain rfl := Option.some.inj hf
      intro H locs ls cells slots h1 h2 h3 h4 h5 h6
      obtain ⟨⟨t, e1, hZ, hT⟩, -⟩ := Cx.2.2.2.2.2.1.2.2.2.2
      simp only [List.map_cons, pm_v, e1, va_rf]
      exact va_ti Cx.1 Cx.2.1 hT h4 (pm_ix_in hb) rfl hd (k H locs ls cells slots h1 h2 h3 h4 h5 h6)
  · rename_i i st
    cases hb : pm_ix i 55 with
    | false => rw [hb] at hf; cases hf
    | true =>
      rw [hb] at hf
      obtain rfl := Option.some.inj hf
      intro H locs ls cells slots h1 h2 h3 h4 h5 h6
      obtain ⟨-, ⟨t, e1, hZ, hT⟩, -⟩ := Cx.2.2.2.2.2.1.2.2.2.2
      simp only [List.map_cons, pm_v, e1, va_rf]
      exact va_ti Cx.1 Cx.2.1 hT h4 (pm_ix_in hb) rfl hd (k H locs ls cells slots h1 h2 h3 h4 h5 h6)
  · cases hf
noncomputable def s_sval (n : Nat) : pm_S → Option pm_S := fun σ => match σ.2.2.1 with
  | .retAddr k :: st => bif Nat.ble 4 k && Nat.blt k 12 then some (n, σ.2.1, .retAddr (k + 8) :: st, σ.2.2.2) else none
  | _ => none
theorem pm_str {k : Nat} (h : (Nat.ble 4 k && Nat.blt k 12) = true) : ∃ i : Nat, i < 8 ∧ k = 4 + i := by
  obtain ⟨h1, h2⟩ := Bool.and_eq_true_iff.mp h
  have a := Nat.le_of_ble_eq_true h1
  have b : k + 1 ≤ 12 := Nat.le_of_ble_eq_true h2
  exact ⟨k - 4, by omega, by omega⟩
theorem pm_strb {k : Nat} (h : (Nat.ble 12 k && Nat.blt k 20) = true) : ∃ i : Nat, i < 8 ∧ k = 12 + i := by
  obtain ⟨h1, h2⟩ := Bool.and_eq_true_iff.mp h
  have a := Nat.le_of_ble_eq_true h1
  have b : k + 1 ≤ 20 := Nat.le_of_ble_eq_true h2
  exact ⟨k - 12, by omega, by omega⟩
theorem k_sval {index : Nat} (hw : Cond.fieldLink own index "java/lang/String" "value" "[B" ∈ pm_T) (hd : decode cc pc = .ok (.getfield index, 3)) : pm_okF cc own nL ini pc (s_sval (pc + 3)) := by
  intro p l e R s m args below meth c D aC B b Q Cx hR1 hR2 lv st w σ' hf k
  simp only [s_sval] at hf
  split at hf
  · rename_i q st
    cases hb : (Nat.ble 4 q && Nat.blt q 12) with
    | false => rw [hb] at hf; cases hf
    | true =>
      rw [hb] at hf
      obtain rfl := Option.some.inj hf
      obtain ⟨i, hi, rfl⟩ := pm_str hb
      intro H locs ls cells slots h1 h2 h3 h4 h5 h6
      obtain ⟨-, -, -, -, adK, adV, hE, hA⟩ := Cx.2.2.2.2.2.1.2.2.2.2
      have k2 := k H locs ls cells slots h1 h2 h3 h4 h5 h6
      have e2 : b (4 + i + 8) = some (adV i) := by rw [show 4 + i + 8 = 12 + i by omega]; exact (hA i hi).2
      simp only [List.map_cons, pm_v, e2, va_rf] at k2
      simp only [List.map_cons, pm_v, (hA i hi).1, va_rf]
      exact vk_getf (A := fun q => B ≤ q) Cx.1 Cx.2.1 (hE.1 i hi).2.2.1 h4 Cx.2.2.2.1 (Cx.2.2.2.2.1 _ hw) (fun _ h9 => h9) hd k2
  · cases hf
noncomputable def s_scod (n : Nat) : pm_S → Option pm_S := fun σ => match σ.2.2.1 with
  | .retAddr k :: st => bif Nat.ble 4 k && Nat.blt k 12 then some (n, σ.2.1, .int 0 :: st, σ.2.2.2) else none
  | _ => none
theorem k_scod {index : Nat} (hw : Cond.fieldLink own index "java/lang/String" "coder" "B" ∈ pm_T) (hd : decode cc pc = .ok (.getfield index, 3)) : pm_okF cc own nL ini pc (s_scod (pc + 3)) := by
  intro p l e R s m args below meth c D aC B b Q Cx hR1 hR2 lv st w σ' hf k
  simp only [s_scod] at hf
  split at hf
  · rename_i q st
    cases hb : (Nat.ble 4 q && Nat.blt q 12) with
    | false => rw [hb] at hf; cases hf
    | true =>
      rw [hb] at hf
      obtain rfl := Option.some.inj hf
      obtain ⟨i, hi, rfl⟩ := pm_str hb
      intro H locs ls cells slots h1 h2 h3 h4 h5 h6
      obtain ⟨-, -, -, -, adK, adV, hE, hA⟩ := Cx.2.2.2.2.2.1.2.2.2.2
      simp only [List.map_cons, pm_v, (hA i hi).1, va_rf]
      exact vk_getf (A := fun q => B ≤ q) Cx.1 Cx.2.1 (hE.1 i hi).2.1 h4 Cx.2.2.2.1 (Cx.2.2.2.2.1 _ hw) (fun _ h9 => h9) hd (k H locs ls cells slots h1 h2 h3 h4 h5 h6)
  · cases hf
noncomputable def s_sbald (n : Nat) : pm_S → Option pm_S := fun σ => match σ.2.2.1 with
  | .int j :: .retAddr k :: st => bif (Nat.ble 12 k && Nat.blt k 20) && pm_ix j (pm_len.getD (k - 12) 0) then some (n, σ.2.1, .int ((pm_byt.getD (k - 12) []).getD j.toNatClampNeg 0) :: st, σ.2.2.2) else none
  | _ => none
theorem k_sbald (hd : decode cc pc = .ok (.baload, 1)) : pm_okF cc own nL ini pc (s_sbald (pc + 1)) := by
  intro p l e R s m args below meth c D aC B b Q Cx hR1 hR2 lv st w σ' hf k
  simp only [s_sbald] at hf
  split at hf
  · rename_i j q st
    cases hb : ((Nat.ble 12 q && Nat.blt q 20) && pm_ix j (pm_len.getD (q - 12) 0)) with
    | false => rw [hb] at hf; cases hf
    | true =>
      rw [hb] at hf
      obtain rfl := Option.some.inj hf
      obtain ⟨hb1, hb2⟩ := Bool.and_eq_true_iff.mp hb
      obtain ⟨i, hi, rfl⟩ := pm_strb hb1
      intro H locs ls cells slots h1 h2 h3 h4 h5 h6
      obtain ⟨-, -, -, -, adK, adV, hE, hA⟩ := Cx.2.2.2.2.2.1.2.2.2.2
      have k2 := k H locs ls cells slots h1 h2 h3 h4 h5 h6
      have e2 : 12 + i - 12 = i := by omega
      rw [e2] at hb2
      simp only [List.map_cons, pm_v, e2] at k2
      simp only [List.map_cons, pm_v, (hA i hi).2, va_rf]
      exact va_tb Cx.1 Cx.2.1 (hE.1 i hi).2.2.2 h4 (pm_ix_in hb2) rfl hd k2
  · cases hf
noncomputable def s_sblen (n : Nat) : pm_S → Option pm_S := fun σ => match σ.2.2.1 with
  | .retAddr k :: st => bif Nat.ble 12 k && Nat.blt k 20 then some (n, σ.2.1, .int (Int32.ofNat (pm_len.getD (k - 12) 0)) :: st, σ.2.2.2) else none
  | _ => none
theorem k_sblen (hd : decode cc pc = .ok (.arraylength, 1)) : pm_okF cc own nL ini pc (s_sblen (pc + 1)) := by
  intro p l e R s m args below meth c D aC B b Q Cx hR1 hR2 lv st w σ' hf k
  simp only [s_sblen] at hf
  split at hf
  · rename_i q st
    cases hb : (Nat.ble 12 q && Nat.blt q 20) with
    | false => rw [hb] at hf; cases hf
    | true =>
      rw [hb] at hf
      obtain rfl := Option.some.inj hf
      obtain ⟨i, hi, rfl⟩ := pm_strb hb
      intro H locs ls cells slots h1 h2 h3 h4 h5 h6
      obtain ⟨-, -, -, -, adK, adV, hE, hA⟩ := Cx.2.2.2.2.2.1.2.2.2.2
      have k2 := k H locs ls cells slots h1 h2 h3 h4 h5 h6
      have e2 : 12 + i - 12 = i := by omega
      simp only [List.map_cons, pm_v, e2] at k2
      simp only [List.map_cons, pm_v, (hA i hi).2, va_rf]
      exact va_tlen Cx.1 Cx.2.1 (hE.1 i hi).2.2.2 h4 rfl hd k2
  · cases hf
end PMO
end
