/-! THE PURE MACHINE, part 7: cells outside (static tables, Strings), nest mates, a copied row, small conversions -/
section PMO
variable {cc : ByteArray} {own : String} {nL pc : Nat} {ini : Bool}
theorem k_gets_fac {index : Nat} (hw : Cond.fieldLink own index RX8 "FACTORIALS" "[I" ∈ pm_T) (hd : decode cc pc = .ok (.getstatic index, 3)) : pm_okF cc own nL ini pc (s_const (.retAddr 1) (pc + 3)) := by
  intro p l e R s m args below meth c D aC B b Q Cx hR1 hR2 lv st w σ' hf k
  obtain rfl := Option.some.inj hf
  intro H locs ls cells slots h1 h2 h3 h4 h5 h6
  obtain ⟨⟨t, e1, hZ, hT⟩, -⟩ := Cx.2.2.2.2.2.1.2.2.2.2
  have k2 := k H locs ls cells slots h1 h2 h3 h4 h5 h6
  simp only [List.map_cons, pm_v, e1, va_rf] at k2
  exact va_gets (A := fun q => B ≤ q) Cx.1 Cx.2.1 hZ h4 Cx.2.2.2.1 (Cx.2.2.2.2.1 _ hw) (fun _ h9 => h9) hd k2
theorem k_gets_rbs {index : Nat} (hw : Cond.fieldLink own index RX8 "ROWS_BY_STEPS" "[I" ∈ pm_T) (hd : decode cc pc = .ok (.getstatic index, 3)) : pm_okF cc own nL ini pc (s_const (.retAddr 2) (pc + 3)) := by
  intro p l e R s m args below meth c D aC B b Q Cx hR1 hR2 lv st w σ' hf k
  obtain rfl := Option.some.inj hf
  intro H locs ls cells slots h1 h2 h3 h4 h5 h6
  obtain ⟨-, ⟨t, e1, hZ, hT⟩, -⟩ := Cx.2.2.2.2.2.1.2.2.2.2
  have k2 := k H locs ls cells slots h1 h2 h3 h4 h5 h6
  simp only [List.map_cons, pm_v, e1, va_rf] at k2
  exact va_gets (A := fun q => B ≤ q) Cx.1 Cx.2.1 hZ h4 Cx.2.2.2.1 (Cx.2.2.2.2.1 _ hw) (fun _ h9 => h9) hd k2
theorem k_gets_cs {index : Nat} (hw : Cond.fieldLink own index RJ0 "COMPACT_STRINGS" "Z" ∈ pm_T) (hd : decode cc pc = .ok (.getstatic index, 3)) : pm_okF cc own nL ini pc (s_const (.int 1) (pc + 3)) := by
  intro p l e R s m args below meth c D aC B b Q Cx hR1 hR2 lv st w σ' hf k
  obtain rfl := Option.some.inj hf
  intro H locs ls cells slots h1 h2 h3 h4 h5 h6
  obtain ⟨-, -, hZ, -⟩ := Cx.2.2.2.2.2.1.2.2.2.2
  exact va_gets (A := fun q => B ≤ q) Cx.1 Cx.2.1 hZ h4 Cx.2.2.2.1 (Cx.2.2.2.2.1 _ hw) (fun _ h9 => h9) hd (k H locs ls cells slots h1 h2 h3 h4 h5 h6)
theorem k_gets_fm {index : Nat} (hw : Cond.fieldLink own index RJ3 "SIOOBE_FORMATTER" "Ljava/util/function/BiFunction;" ∈ pm_T) (hd : decode cc pc = .ok (.getstatic index, 3)) : pm_okF cc own nL ini pc (s_const (.retAddr 3) (pc + 3)) := by
  intro p l e R s m args below meth c D aC B b Q Cx hR1 hR2 lv st w σ' hf k
  obtain rfl := Option.some.inj hf
  intro H locs ls cells slots h1 h2 h3 h4 h5 h6
  obtain ⟨-, -, -, hZ, -⟩ := Cx.2.2.2.2.2.1.2.2.2.2
  exact va_gets (A := fun q => B ≤ q) Cx.1 Cx.2.1 hZ h4 Cx.2.2.2.1 (Cx.2.2.2.2.1 _ hw) (fun _ h9 => h9) hd (k H locs ls cells slots h1 h2 h3 h4 h5 h6)
theorem k_ldcs {i index : Nat} (hi : i < 8) (hx : pm_six i = index) (hd : decode cc pc = .ok (.ldc index, 2)) : pm_okF cc RX2 nL ini pc (s_const (.retAddr (4 + i)) (pc + 2)) := by
  intro p l e R s m args below meth c D aC B b Q Cx hR1 hR2 lv st w σ' hf k
  subst hx
  obtain rfl := Option.some.inj hf
  intro H locs ls cells slots h1 h2 h3 h4 h5 h6
  obtain ⟨a, e1, hr⟩ := Cx.2.2.2.2.2.1.2.2.2.1.2 i hi
  have k2 := k H locs ls cells slots h1 h2 h3 h4 h5 h6
  simp only [List.map_cons, pm_v, e1, va_rf] at k2
  exact va_ldcS Cx.1 Cx.2.1 Cx.2.2.2.1 hr hd k2
noncomputable def s_tald (n : Nat) : pm_S → Option pm_S := fun σ => match σ.2.2.1 with
  | .int i :: .retAddr 1 :: st => bif pm_ix i 9 then some (n, σ.2.1, .int (pm_fac i.toNatClampNeg) :: st, σ.2.2.2) else none
  | .int i :: .retAddr 2 :: st => bif pm_ix i 55 then some (n, σ.2.1, .int (pm_rbs i.toNatClampNeg) :: st, σ.2.2.2) else none
  | _ => none
theorem k_tald (hd : decode cc pc = .ok (.iaload, 1)) : pm_okF cc own nL ini pc (s_tald (pc + 1)) := by
  intro p l e R s m args below meth c D aC B b Q Cx hR1 hR2 lv st w σ' hf k
  simp only [s_tald] at hf
  split at hf
  · rename_i i st
    cases hb : pm_ix i 9 with
    | false => rw [hb] at hf; cases hf
    | true =>
      rw [hb] at hf
      obtain rfl := Option.some.inj hf
      intro H locs ls cells slots h1 h2 h3 h4 h5 h6
      obtain ⟨⟨t, e1, hZ, hT⟩, -⟩ := Cx.2.2.2.2.2.1.2.2.2.2
      simp only [List.map_cons, pm_v, e1, va_rf]
      exact va_ti Cx.1 Cx.2.1 hT h4 (pm_ix_in hb) rfl hd (k H locs ls cells slots h1 h2 h3 h4 h5 h6)
  · rename_i i st
    cases hb : pm_ix i 55 with
    | false => rw [hb] at hf; cases hf
    | true =>
      rw [hb] at hf
      obtain rfl := Option.some.inj hf
      intro H locs ls cells slots h1 h2 h3 h4 h5 h6
      obtain ⟨-, ⟨t, e1, hZ, hT⟩, -⟩ := Cx.2.2.2.2.2.1.2.2.2.2
      simp only [List.map_cons, pm_v, e1, va_rf]
      exact va_ti Cx.1 Cx.2.1 hT h4 (pm_ix_in hb) rfl hd (k H locs ls cells slots h1 h2 h3 h4 h5 h6)
  · cases hf
noncomputable def s_sval (n : Nat) : pm_S → Option pm_S := fun σ => match σ.2.2.1 with
  | .retAddr k :: st => bif Nat.ble 4 k && Nat.blt k 12 then some (n, σ.2.1, .retAddr (k + 8) :: st, σ.2.2.2) else none
  | _ => none
theorem pm_str {k : Nat} (h : (Nat.ble 4 k && Nat.blt k 12) = true) : ∃ i : Nat, i < 8 ∧ k = 4 + i := by
  obtain ⟨h1, h2⟩ := Bool.and_eq_true_iff.mp h
  have a := Nat.le_of_ble_eq_true h1
  have b : k + 1 ≤ 12 := Nat.le_of_ble_eq_true h2
  exact ⟨k - 4, by omega, by omega⟩
theorem pm_strb {k : Nat} (h : (Nat.ble 12 k && Nat.blt k 20) = true) : ∃ i : Nat, i < 8 ∧ k = 12 + i := by
  obtain ⟨h1, h2⟩ := Bool.and_eq_true_iff.mp h
  have a := Nat.le_of_ble_eq_true h1
  have b : k + 1 ≤ 20 := Nat.le_of_ble_eq_true h2
  exact ⟨k - 12, by omega, by omega⟩
theorem k_sval {index : Nat} (hw : Cond.fieldLink own index "java/lang/String" "value" "[B" ∈ pm_T) (hd : decode cc pc = .ok (.getfield index, 3)) : pm_okF cc own nL ini pc (s_sval (pc + 3)) := by
  intro p l e R s m args below meth c D aC B b Q Cx hR1 hR2 lv st w σ' hf k
  simp only [s_sval] at hf
  split at hf
  · rename_i q st
    cases hb : (Nat.ble 4 q && Nat.blt q 12) with
    | false => rw [hb] at hf; cases hf
    | true =>
      rw [hb] at hf
      obtain rfl := Option.some.inj hf
      obtain ⟨i, hi, rfl⟩ := pm_str hb
      intro H locs ls cells slots h1 h2 h3 h4 h5 h6
      obtain ⟨-, -, -, -, adK, adV, hE, hA⟩ := Cx.2.2.2.2.2.1.2.2.2.2
      have k2 := k H locs ls cells slots h1 h2 h3 h4 h5 h6
      have e2 : b (4 + i + 8) = some (adV i) := by rw [show 4 + i + 8 = 12 + i by omega]; exact (hA i hi).2
      simp only [List.map_cons, pm_v, e2, va_rf] at k2
      simp only [List.map_cons, pm_v, (hA i hi).1, va_rf]
      exact vk_getf (A := fun q => B ≤ q) Cx.1 Cx.2.1 (hE.1 i hi).2.2.1 h4 Cx.2.2.2.1 (Cx.2.2.2.2.1 _ hw) (fun _ h9 => h9) hd k2
  · cases hf
noncomputable def s_scod (n : Nat) : pm_S → Option pm_S := fun σ => match σ.2.2.1 with
  | .retAddr k :: st => bif Nat.ble 4 k && Nat.blt k 12 then some (n, σ.2.1, .int 0 :: st, σ.2.2.2) else none
  | _ => none
theorem k_scod {index : Nat} (hw : Cond.fieldLink own index "java/lang/String" "coder" "B" ∈ pm_T) (hd : decode cc pc = .ok (.getfield index, 3)) : pm_okF cc own nL ini pc (s_scod (pc + 3)) := by
  intro p l e R s m args below meth c D aC B b Q Cx hR1 hR2 lv st w σ' hf k
  simp only [s_scod] at hf
  split at hf
  · rename_i q st
    cases hb : (Nat.ble 4 q && Nat.blt q 12) with
    | false => rw [hb] at hf; cases hf
    | true =>
      rw [hb] at hf
      obtain rfl := Option.some.inj hf
      obtain ⟨i, hi, rfl⟩ := pm_str hb
      intro H locs ls cells slots h1 h2 h3 h4 h5 h6
      obtain ⟨-, -, -, -, adK, adV, hE, hA⟩ := Cx.2.2.2.2.2.1.2.2.2.2
      simp only [List.map_cons, pm_v, (hA i hi).1, va_rf]
      exact vk_getf (A := fun q => B ≤ q) Cx.1 Cx.2.1 (hE.1 i hi).2.1 h4 Cx.2.2.2.1 (Cx.2.2.2.2.1 _ hw) (fun _ h9 => h9) hd (k H locs ls cells slots h1 h2 h3 h4 h5 h6)
  · cases hf
noncomputable def s_sbald (n : Nat) : pm_S → Option pm_S := fun σ => match σ.2.2.1 with
  | .int j :: .retAddr k :: st => bif (Nat.ble 12 k && Nat.blt k 20) && pm_ix j (pm_len.getD (k - 12) 0) then some (n, σ.2.1, .int ((pm_byt.getD (k - 12) []).getD j.toNatClampNeg 0) :: st, σ.2.2.2) else none
  | _ => none
theorem k_sbald (hd : decode cc pc = .ok (.baload, 1)) : pm_okF cc own nL ini pc (s_sbald (pc + 1)) := by
  intro p l e R s m args below meth c D aC B b Q Cx hR1 hR2 lv st w σ' hf k
  simp only [s_sbald] at hf
  split at hf
  · rename_i j q st
    cases hb : ((Nat.ble 12 q && Nat.blt q 20) && pm_ix j (pm_len.getD (q - 12) 0)) with
    | false => rw [hb] at hf; cases hf
    | true =>
      rw [hb] at hf
      obtain rfl := Option.some.inj hf
      obtain ⟨hb1, hb2⟩ := Bool.and_eq_true_iff.mp hb
      obtain ⟨i, hi, rfl⟩ := pm_strb hb1
      intro H locs ls cells slots h1 h2 h3 h4 h5 h6
      obtain ⟨-, -, -, -, adK, adV, hE, hA⟩ := Cx.2.2.2.2.2.1.2.2.2.2
      have k2 := k H locs ls cells slots h1 h2 h3 h4 h5 h6
      have e2 : 12 + i - 12 = i := by omega
      rw [e2] at hb2
      simp only [List.map_cons, pm_v, e2] at k2
      simp only [List.map_cons, pm_v, (hA i hi).2, va_rf]
      exact va_tb Cx.1 Cx.2.1 (hE.1 i hi).2.2.2 h4 (pm_ix_in hb2) rfl hd k2
  · cases hf
noncomputable def s_sblen (n : Nat) : pm_S → Option pm_S := fun σ => match σ.2.2.1 with
  | .retAddr k :: st => bif Nat.ble 12 k && Nat.blt k 20 then some (n, σ.2.1, .int (Int32.ofNat (pm_len.getD (k - 12) 0)) :: st, σ.2.2.2) else none
  | _ => none
theorem k_sblen (hd : decode cc pc = .ok (.arraylength, 1)) : pm_okF cc own nL ini pc (s_sblen (pc + 1)) := by
  intro p l e R s m args below meth c D aC B b Q Cx hR1 hR2 lv st w σ' hf k
  simp only [s_sblen] at hf
  split at hf
  · rename_i q st
    cases hb : (Nat.ble 12 q && Nat.blt q 20) with
    | false => rw [hb] at hf; cases hf
    | true =>
      rw [hb] at hf
      obtain rfl := Option.some.inj hf
      obtain ⟨i, hi, rfl⟩ := pm_strb hb
      intro H locs ls cells slots h1 h2 h3 h4 h5 h6
      obtain ⟨-, -, -, -, adK, adV, hE, hA⟩ := Cx.2.2.2.2.2.1.2.2.2.2
      have k2 := k H locs ls cells slots h1 h2 h3 h4 h5 h6
      have e2 : 12 + i - 12 = i := by omega
      simp only [List.map_cons, pm_v, e2] at k2
      simp only [List.map_cons, pm_v, (hA i hi).2, va_rf]
      exact va_tlen Cx.1 Cx.2.1 (hE.1 i hi).2.2.2 h4 rfl hd k2
  · cases hf
theorem k_i2c (hd : decode cc pc = .ok (.i2c, 1)) : pm_okF cc own nL ini pc (s_un (fun x => (x.toUInt32 % 65536).toInt32) (pc + 1)) := by
  intro p l e R s m args below meth c D aC B b Q C hR1 hR2 lv st w σ' hf k
  simp only [s_un] at hf
  split at hf
  · obtain rfl := Option.some.inj hf
    intro H locs ls cells slots h1 h2 h3 h4 h5 h6
    exact lv_i2c C.1 C.2.1 hd rfl (k H locs ls cells slots h1 h2 h3 h4 h5 h6)
  · cases hf
theorem k_iushr (hd : decode cc pc = .ok (.iushr, 1)) : pm_okF cc own nL ini pc (s_bin (fun x y => (x.toUInt32 >>> (y.toUInt32 &&& Int32.toUInt32 31)).toInt32) (pc + 1)) := by
  intro p l e R s m args below meth c D aC B b Q C hR1 hR2 lv st w σ' hf k
  simp only [s_bin] at hf
  split at hf
  · obtain rfl := Option.some.inj hf
    intro H locs ls cells slots h1 h2 h3 h4 h5 h6
    exact lv_iushr C.1 C.2.1 hd rfl (k H locs ls cells slots h1 h2 h3 h4 h5 h6)
  · cases hf
/-- a call of a String's method -/
theorem k_callVX {index : Nat} {y : MethodName} {bytes : ByteArray} {maxL : Nat} {ret : Option FieldType} {n mc ms : Nat} (hy : y.cls = "java/lang/String") (hd : decode cc pc = .ok (.invokevirtual index, 3)) (hcw : Cond.code y bytes maxL ret ∈ pm_T) (hw1 : Cond.methodLink own index y ∈ pm_T) (hw2 : Cond.instanceMethod y ∈ pm_T) (hw3 : Cond.selects y.cls y y ∈ pm_T) (hw4 : Cond.initialized y.cls ∈ pm_T) (hdesc : y.cls ≠ "java/lang/invoke/MethodHandle" ∧ y.cls ≠ "java/lang/invoke/VarHandle" ∧ (parseMethodDescriptor y.desc).map (fun d => d.parameters.length) = some n) (hL : maxL ≤ 80) : pm_okC cc own nL ini pc y bytes maxL ret (n + 1) (some 100) mc ms := by
  intro p l e R s m args below meth c D aC B b Q Cx rF rL hR1 hR2 lv st w h' r hch hM kk
  intro H locs ls cells slots h1 h2 h3 h4 h5 h6
  obtain ⟨c1, c2, c3, c4, c5⟩ := hch
  obtain ⟨i, as, hi, e1⟩ := (c2 100 rfl).2 (Nat.le_refl _)
  obtain ⟨-, -, -, -, adK, adV, hE, hA⟩ := id Cx.2.2.2.2.2.1.2.2.2.2
  have hst := pm_st_split c1
  have hlen := pm_len_as c1
  simp only at h2 h3 h5 h6
  rw [e1] at hM hst hlen
  generalize hrest : st.drop (n + 1) = rest at hst kk c3
  subst hst
  have eq4 : pm_v B b (.retAddr (4 + i)) = .ref (adK i) := by simp only [pm_v, (hA i hi).1, va_rf]
  refine pm_called (rest := rest.map (pm_v B b)) (va_runV (As := as.map (pm_v B b)) (b := adK i) (n := n) ⟨Cx.1, Cx.2.1, Cx.2.2.1, Cx.2.2.2.1, Cx.2.2.2.2.1⟩ hM (cwV n Cx.2.2.2.2.1 ?_ rfl rfl rfl ⟨rfl, hdesc⟩ ⟨hR1, by show 8 + (maxL + 11) + rL ≤ R.locals; omega⟩) ⟨pm_Pc_blind D aC B b w.1 (.retAddr (4 + i) :: as), by rw [hy]; exact vk_recv hE hi h4, fun U hU hW => ⟨by rw [List.map_cons, eq4], by rw [hU]; exact h2, by rw [hU]; exact h3, Cx.2.2.2.2.2.1.moved hW hU h4⟩⟩ rfl (by simp at hlen ⊢; omega) h1.1 (by simp [List.map_append, eq4]) (lv_room (by rw [pm_sz_v]; exact c3)) hd ⟨by omega, by omega⟩) h4 Cx.2.2.2.2.2.2.1 (fun H1 locs1 z1 g1 g2 => ?_)
  · intro x hx
    rcases List.mem_append.mp hx with hx | hx
    · have : x ∈ pm_T := by
        simp only [List.mem_cons, List.not_mem_nil, or_false] at hx
        rcases hx with rfl | rfl | rfl | rfl
        · exact hw1
        · exact hw2
        · exact hw3
        · exact hw4
      exact ⟨this, pm_T_word this⟩
    · exact pm_good hcw x hx
  · have k2 := kk H1 locs1 ls (cells + mc) (slots + ms) h1 z1 g1 g2 (by simp only; omega) (by simp only; omega)
    simp only [pm_toList] at k2
    exact k2
/-- a static call of a nest mate -/
theorem k_callSN {index : Nat} {host : String} {y : MethodName} {bytes : ByteArray} {maxL : Nat} {ret : Option FieldType} {n mc ms : Nat} (hN : ∀ (D : va_G) (aC : Nat → ClassId) (B : Nat) (b : Nat → Option Nat) (U : State), pm_K D aC B b U → va_Nw (.methodLinkNest own index y host) U) (hd : decode cc pc = .ok (.invokestatic index, 3)) (hcw : Cond.code y bytes maxL ret ∈ pm_T) (hw2 : Cond.static y ∈ pm_T) (hw4 : Cond.initialized y.cls ∈ pm_T) (hdesc : y.cls ≠ "java/lang/invoke/MethodHandle" ∧ y.cls ≠ "java/lang/invoke/VarHandle" ∧ (parseMethodDescriptor y.desc).map (fun d => d.parameters.length) = some n) (hL : maxL ≤ 80) : pm_okC cc own nL ini pc y bytes maxL ret n none mc ms := by
  intro p l e R s m args below meth c D aC B b Q Cx rF rL hR1 hR2 lv st w h' r hch hM kk
  intro H locs ls cells slots h1 h2 h3 h4 h5 h6
  obtain ⟨c1, c2, c3, c4, c5⟩ := hch
  have hst := pm_st_split c1
  have hlen := pm_len_as c1
  simp only at h2 h3 h5 h6
  generalize hrest : st.drop n = rest at hst kk c3
  generalize has : (st.take n).reverse = as at hM hst hlen
  subst hst
  refine pm_called (rest := rest.map (pm_v B b)) (va_runSN (As := as.map (pm_v B b)) (n := n) ⟨Cx.1, Cx.2.1, Cx.2.2.1, Cx.2.2.2.1, Cx.2.2.2.2.1⟩ hM ⟨va_cnB n Cx.2.2.2.2.1 (pm_good hcw) rfl rfl rfl (hN D aC B b s Cx.2.2.2.2.2.1) (Cx.2.2.2.2.1 _ hw4) hdesc ⟨hR1, by show 8 + (maxL + 11) + rL ≤ R.locals; omega⟩, Cx.2.2.2.2.1 _ hw2, trivial⟩ ⟨pm_Pc_blind D aC B b w.1 as, fun U hU hW => ⟨rfl, by rw [hU]; exact h2, by rw [hU]; exact h3, Cx.2.2.2.2.2.1.moved hW hU h4⟩⟩ rfl (by rw [List.length_map]; exact hlen) h1.1 (by simp [List.map_append]) (lv_room (by rw [pm_sz_v]; exact c3)) hd ⟨by omega, by omega⟩) h4 Cx.2.2.2.2.2.2.1 (fun H1 locs1 z1 g1 g2 => ?_)
  have k2 := kk H1 locs1 ls (cells + mc) (slots + ms) h1 z1 g1 g2 (by simp only; omega) (by simp only; omega)
  simp only [pm_toList] at k2
  exact k2
end PMO
noncomputable def s_pop2 (n : Nat) : pm_S → Option pm_S := fun σ => match σ.2.2.1 with
  | x :: st => bif Nat.beq x.category 2 then some (n, σ.2.1, st, σ.2.2.2) else none
  | _ => none
theorem k_pop2 {cc : ByteArray} {own : String} {nL pc : Nat} {ini : Bool} (hd : decode cc pc = .ok (.pop2, 1)) : pm_okF cc own nL ini pc (s_pop2 (pc + 1)) := by
  intro p l e R s m args below meth c D aC B b Q C hR1 hR2 lv st w σ' hf k
  simp only [s_pop2] at hf
  split at hf
  · rename_i x st
    cases hb : Nat.beq x.category 2 with
    | false => rw [hb] at hf; cases hf
    | true =>
      rw [hb] at hf
      obtain rfl := Option.some.inj hf
      intro H locs ls cells slots h1 h2 h3 h4 h5 h6
      exact lv_pop2_2 C.1 C.2.1 hd (by rw [pm_v_cat]; exact Nat.eq_of_beq_eq_true hb) (k H locs ls cells slots h1 h2 h3 h4 h5 h6)
  · cases hf
