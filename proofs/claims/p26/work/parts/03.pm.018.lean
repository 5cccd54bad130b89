section
theorem pm_t1 {w : Cond} (i : Nat) (h : tables_1_1[i]? = some w) (hg : goodWord w = true) : w ∈ pm_T := List.mem_filter.mpr ⟨List.mem_append_right _ (List.mem_append_left _ (List.mem_of_getElem? h)), hg⟩
theorem pm_t2 {w : Cond} (i : Nat) (h : tables_1_2[i]? = some w) (hg : goodWord w = true) : w ∈ pm_T := List.mem_filter.mpr ⟨List.mem_append_right _ (List.mem_append_right _ (List.mem_append_left _ (List.mem_of_getElem? h))), hg⟩
theorem pm_t3 {w : Cond} (i : Nat) (h : tables_1_3[i]? = some w) (hg : goodWord w = true) : w ∈ pm_T := List.mem_filter.mpr ⟨List.mem_append_right _ (List.mem_append_right _ (List.mem_append_right _ (List.mem_append_left _ (List.mem_of_getElem? h)))), hg⟩
theorem pm_t4 {w : Cond} (i : Nat) (h : tables_1_4[i]? = some w) (hg : goodWord w = true) : w ∈ pm_T := List.mem_filter.mpr ⟨List.mem_append_right _ (List.mem_append_right _ (List.mem_append_right _ (List.mem_append_right _ (List.mem_append_left _ (List.mem_of_getElem? h))))), hg⟩
theorem pm_t5 {w : Cond} (i : Nat) (h : tables_1_5[i]? = some w) (hg : goodWord w = true) : w ∈ pm_T := List.mem_filter.mpr ⟨List.mem_append_right _ (List.mem_append_right _ (List.mem_append_right _ (List.mem_append_right _ (List.mem_append_right _ (List.mem_append_left _ (List.mem_of_getElem? h)))))), hg⟩
theorem pm_t6 {w : Cond} (i : Nat) (h : tables_1_6[i]? = some w) (hg : goodWord w = true) : w ∈ pm_T := List.mem_filter.mpr ⟨List.mem_append_right _ (List.mem_append_right _ (List.mem_append_right _ (List.mem_append_right _ (List.mem_append_right _ (List.mem_append_right _ (List.mem_append_left _ (List.mem_of_getElem? h))))))), hg⟩
theorem pm_t7 {w : Cond} (i : Nat) (h : tables_1_7[i]? = some w) (hg : goodWord w = true) : w ∈ pm_T := List.mem_filter.mpr ⟨List.mem_append_right _ (List.mem_append_right _ (List.mem_append_right _ (List.mem_append_right _ (List.mem_append_right _ (List.mem_append_right _ (List.mem_append_right _ (List.mem_append_left _ (List.mem_of_getElem? h)))))))), hg⟩
theorem pm_t8 {w : Cond} (i : Nat) (h : tables_1_8[i]? = some w) (hg : goodWord w = true) : w ∈ pm_T := List.mem_filter.mpr ⟨List.mem_append_right _ (List.mem_append_right _ (List.mem_append_right _ (List.mem_append_right _ (List.mem_append_right _ (List.mem_append_right _ (List.mem_append_right _ (List.mem_append_right _ (List.mem_append_left _ (List.mem_of_getElem? h))))))))), hg⟩
theorem pm_t9 {w : Cond} (i : Nat) (h : tables_1_9[i]? = some w) (hg : goodWord w = true) : w ∈ pm_T := List.mem_filter.mpr ⟨List.mem_append_right _ (List.mem_append_right _ (List.mem_append_right _ (List.mem_append_right _ (List.mem_append_right _ (List.mem_append_right _ (List.mem_append_right _ (List.mem_append_right _ (List.mem_append_right _ (List.mem_of_getElem? h))))))))), hg⟩
end
section
/-! THE PURE MACHINE, part 7: cells outside (static tables, Strings), nest mates, a copied row, small conversions -/
section PMO
variable {cc : ByteArray} {own : String} {nL pc : Nat} {ini : Bool}
theorem k_gets_fac {index : Nat} (hw : Cond.fieldLink own index RX8 "FACTORIALS" "[I" ∈ pm_T) (hd : decode cc pc = .ok (.getstatic index, 3)) : pm_okF cc own nL ini pc (s_const (.retAddr 1) (pc + 3)) := by
  intro p l e R s m args below meth c D aC B b Q Cx hR1 hR2 lv st w σ' hf k
  obtain rfl := Option.some.inj hf
  intro H locs ls cells slots h1 h2 h3 h4 h5 h6
  obtain ⟨⟨t, e1, hZ, hT⟩, -⟩ := Cx.2.2.2.2.2.1.2.2.2.2
  have k2 := k H locs ls cells slots h1 h2 h3 h4 h5 h6
  simp only [List.map_cons, pm_v, e1, va_rf] at k2
  exact va_gets (A := fun q => B ≤ q) Cx.1 Cx.2.1 hZ h4 Cx.2.2.2.1 (Cx.2.2.2.2.1 _ hw) (fun _ h9 => h9) hd k2
theorem k_gets_rbs {index : Nat} (hw : Cond.fieldLink own index RX8 "ROWS_BY_STEPS" "[I" ∈ pm_T) (hd : decode cc pc = .ok (.getstatic index, 3)) : pm_okF cc own nL ini pc (s_const (.retAddr 2) (pc + 3)) := by
  intro p l e R s m args below meth c D aC B b Q Cx hR1 hR2 lv st w σ' hf k
  obtain rfl := Option.some.inj hf
  intro H locs ls cells slots h1 h2 h3 h4 h5 h6
  obtain ⟨-, ⟨t, e1, hZ, hT⟩, -⟩ := Cx.2.2.2.2.2.1.2.2.2.2
  have k2 := k H locs ls cells slots h1 h2 h3 h4 h5 h6
  simp only [List.map_cons, pm_v, e1, va_rf] at k2
  exact va_gets (A := fun q => B ≤ q) Cx.1 Cx.2.1 hZ h4 Cx.2.2.2.1 (Cx.2.2.2.2.1 _ hw) (fun _ h9 => h9) hd k2
theorem k_gets_cs {index : Nat} (hw : Cond.fieldLink own index RJ0 "COMPACT_STRINGS" "Z" ∈ pm_T) (hd : decode cc pc = .ok (.getstatic index, 3)) : pm_okF cc own nL ini pc (s_const (.int 1) (pc + 3)) := by
  intro p l e R s m args below meth c D aC B b Q Cx hR1 hR2 lv st w σ' hf k
  obtain rfl := Option.some.inj hf
  intro H locs ls cells slots h1 h2 h3 h4 h5 h6
  obtain ⟨-, -, hZ, -⟩ := Cx.2.2.2.2.2.1.2.2.2.2
  exact va_gets (A := fun q => B ≤ q) Cx.1 Cx.2.1 hZ h4 Cx.2.2.2.1 (Cx.2.2.2.2.1 _ hw) (fun _ h9 => h9) hd (k H locs ls cells slots h1 h2 h3 h4 h5 h6)
theorem k_gets_fm {index : Nat} (hw : Cond.fieldLink own index RJ3 "SIOOBE_FORMATTER" "Ljava/util/function/BiFunction;" ∈ pm_T) (hd : decode cc pc = .ok (.getstatic index, 3)) : pm_okF cc own nL ini pc (s_const (.retAddr 3) (pc + 3)) := by
  intro p l e R s m args below meth c D aC B b Q Cx hR1 hR2 lv st w σ' hf k
  obtain rfl := Option.some.inj hf
  intro H locs ls cells slots h1 h2 h3 h4 h5 h6
  obtain ⟨-, -, -, hZ, -⟩ := Cx.2.2.2.2.2.1.2.2.2.2
  exact va_gets (A := fun q => B ≤ q) Cx.1 Cx.2.1 hZ h4 Cx.2.2.2.1 (Cx.2.2.2.2.1 _ hw) (fun _ h9 => h9) hd (k H locs ls cells slots h1 h2 h3 h4 h5 h6)
theorem k_ldcs {i index : Nat} (hi : i < 8) (hx : pm_six i = index) (hd : decode cc pc = .ok (.ldc index, 2)) : pm_okF cc RX2 nL ini pc (s_const (.retAddr (4 + i)) (pc + 2)) := by
  intro p l e R s m args below meth c D aC B b Q Cx hR1 hR2 lv st w σ' hf k
  subst hx
  obtain rfl := Option.some.inj hf
  intro H locs ls cells slots h1 h2 h3 h4 h5 h6
  obtain ⟨a, e1, hr⟩ := Cx.2.2.2.2.2.1.2.2.2.1.2 i hi
  have k2 := k H locs ls cells slots h1 h2 h3 h4 h5 h6
  simp only [List.map_cons, pm_v, e1, va_rf] at k2
  exact va_ldcS Cx.1 Cx.2.1 Cx.2.2.2.1 hr hd k2
noncomputable def s_tald (n : Nat) : pm_S → Option pm_S := fun σ => match σ.2.2.1 with
  | .int i :: .retAddr 1 :: st => bif pm_ix i 9 then some (n, σ.2.1, .int (pm_fac i.toNatClampNeg) :: st, σ.2.2.2) else none
  | .int i :: .retAddr 2 :: st => bif pm_ix i 55 then some (n, σ.2.1, .int (pm_rbs i.toNatClampNeg) :: st, σ.2.2.2) else none
  | _ => none
end PMO
end
