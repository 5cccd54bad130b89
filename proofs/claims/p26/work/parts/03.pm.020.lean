section
section PMO
variable {cc : ByteArray} {own : String} {nL pc : Nat} {ini : Bool}
theorem k_i2c (hd : decode cc pc = .ok (.i2c, 1)) : pm_okF cc own nL ini pc (s_un (fun x => (x.toUInt32 % 65536).toInt32) (pc + 1)) := by
  intro p l e R s m args below meth c D aC B b Q C hR1 hR2 lv st w σ' hf k
  simp only [s_un] at hf
  split at hf
  · obtain rfl := Option.some.inj hf
    intro H locs ls cells slots h1 h2 h3 h4 h5 h6
    exact lv_i2c C.1 C.2.1 hd rfl (k H locs ls cells slots h1 h2 h3 h4 h5 h6)
  · cases hf
theorem k_iushr (hd : decode cc pc = .ok (.iushr, 1)) : pm_okF cc own nL ini pc (s_bin (fun x y => (x.toUInt32 >>> (y.toUInt32 &&& Int32.toUInt32 31)).toInt32) (pc + 1)) := by
  intro p l e R s m args below meth c D aC B b Q C hR1 hR2 lv st w σ' hf k
  simp only [s_bin] at hf
  split at hf
  · obtain rfl := Option.some.inj hf
    intro H locs ls cells slots h1 h2 h3 h4 h5 h6
    exact lv_iushr C.1 C.2.1 hd rfl (k H locs ls cells slots h1 h2 h3 h4 h5 h6)
  · cases hf
/-- a call of a String's method -/
theorem k_callVX {index : Nat} {y : MethodName} {bytes : ByteArray} {maxL : Nat} {ret : Option FieldType} {n mc ms : Nat} (hy : y.cls = "java/lang/String") (hd : decode cc pc = .ok (.invokevirtual index, 3)) (hcw : Cond.code y bytes maxL ret ∈ pm_T) (hw1 : Cond.methodLink own index y ∈ pm_T) (hw2 : Cond.instanceMethod y ∈ pm_T) (hw3 : Cond.selects y.cls y y ∈ pm_T) (hw4 : Cond.initialized y.cls ∈ pm_T) (hdesc : y.cls ≠ "java/lang/invoke/MethodHandle" ∧ y.cls ≠ "java/lang/invoke/VarHandle" ∧ (parseMethodDescriptor y.desc).map (fun d => d.parameters.length) = some n) (hL : maxL ≤ 80) : pm_okC cc own nL ini pc y bytes maxL ret (n + 1) (some 100) mc ms := by
  intro p l e R s m args below meth c D aC B b Q Cx rF rL hR1 hR2 lv st w h' r hch hM kk
  intro H locs ls cells slots h1 h2 h3 h4 h5 h6
  obtain ⟨c1, c2, c3, c4, c5⟩ := hch
  obtain ⟨i, as, hi, e1⟩ := (c2 100 rfl).2 (Nat.le_refl _)
  obtain ⟨-, -, -, -, adK, adV, hE, hA⟩ := id Cx.2.2.2.2.2.1.2.2.2.2
  have hst := pm_st_split c1
  have hlen := pm_len_as c1
  simp only at h2 h3 h5 h6
  rw [e1] at hM hst hlen
  generalize hrest : st.drop (n + 1) = rest at hst kk c3
  subst hst
  have eq4 : pm_v B b (.retAddr (4 + i)) = .ref (adK i) := by simp only [pm_v, (hA i hi).1, va_rf]
  refine pm_called (rest := rest.map (pm_v B b)) (va_runV (As := as.map (pm_v B b)) (b := adK i) (n := n) ⟨Cx.1, Cx.2.1, Cx.2.2.1, Cx.2.2.2.1, Cx.2.2.2.2.1⟩ hM (cwV n Cx.2.2.2.2.1 ?_ rfl rfl rfl ⟨rfl, hdesc⟩ ⟨hR1, by show 8 + (maxL + 11) + rL ≤ R.locals; omega⟩) ⟨pm_Pc_blind D aC B b w.1 (.retAddr (4 + i) :: as), by rw [hy]; exact vk_recv hE hi h4, fun U hU hW => ⟨by rw [List.map_cons, eq4], by rw [hU]; exact h2, by rw [hU]; exact h3, Cx.2.2.2.2.2.1.moved hW hU h4⟩⟩ rfl (by simp at hlen ⊢; omega) h1.1 (by simp [List.map_append, eq4]) (lv_room (by rw [pm_sz_v]; exact c3)) hd ⟨by omega, by omega⟩) h4 Cx.2.2.2.2.2.2.1 (fun H1 locs1 z1 g1 g2 => ?_)
  · intro x hx
    rcases List.mem_append.mp hx with hx | hx
    · have : x ∈ pm_T := by
        simp only [List.mem_cons, List.not_mem_nil, or_false] at hx
        rcases hx with rfl | rfl | rfl | rfl
        · exact hw1
        · exact hw2
        · exact hw3
        · exact hw4
      exact ⟨this, pm_T_word this⟩
    · exact pm_good hcw x hx
  · have k2 := kk H1 locs1 ls (cells + mc) (slots + ms) h1 z1 g1 g2 (by simp only; omega) (by simp only; omega)
    simp only [pm_toList] at k2
    exact k2
/-- a static call of a nest mate -/
theorem k_callSN {index : Nat} {host : String} {y : MethodName} {bytes : ByteArray} {maxL : Nat} {ret : Option FieldType} {n mc ms : Nat} (hN : ∀ (D : va_G) (aC : Nat → ClassId) (B : Nat) (b : Nat → Option Nat) (U : State), pm_K D aC B b U → va_Nw (.methodLinkNest own index y host) U) (hd : decode cc pc = .ok (.invokestatic index, 3)) (hcw : Cond.code y bytes maxL ret ∈ pm_T) (hw2 : Cond.static y ∈ pm_T) (hw4 : Cond.initialized y.cls ∈ pm_T) (hdesc : y.cls ≠ "java/lang/invoke/MethodHandle" ∧ y.cls ≠ "java/lang/invoke/VarHandle" ∧ (parseMethodDescriptor y.desc).map (fun d => d.parameters.length) = some n) (hL : maxL ≤ 80) : pm_okC cc own nL ini pc y bytes maxL ret n none mc ms := by
  intro p l e R s m args below meth c D aC B b Q Cx rF rL hR1 hR2 lv st w h' r hch hM kk
  intro H locs ls cells slots h1 h2 h3 h4 h5 h6
  obtain ⟨c1, c2, c3, c4, c5⟩ := hch
  have hst := pm_st_split c1
  have hlen := pm_len_as c1
  simp only at h2 h3 h5 h6
  generalize hrest : st.drop n = rest at hst kk c3
  generalize has : (st.take n).reverse = as at hM hst hlen
  subst hst
  refine pm_called (rest := rest.map (pm_v B b)) (va_runSN (As := as.map (pm_v B b)) (n := n) ⟨Cx.1, Cx.2.1, Cx.2.2.1, Cx.2.2.2.1, Cx.2.2.2.2.1⟩ hM ⟨va_cnB n Cx.2.2.2.2.1 (pm_good hcw) rfl rfl rfl (hN D aC B b s Cx.2.2.2.2.2.1) (Cx.2.2.2.2.1 _ hw4) hdesc ⟨hR1, by show 8 + (maxL + 11) + rL ≤ R.locals; omega⟩, Cx.2.2.2.2.1 _ hw2, trivial⟩ ⟨pm_Pc_blind D aC B b w.1 as, fun U hU hW => ⟨rfl, by rw [hU]; exact h2, by rw [hU]; exact h3, Cx.2.2.2.2.2.1.moved hW hU h4⟩⟩ rfl (by rw [List.length_map]; exact hlen) h1.1 (by simp [List.map_append]) (lv_room (by rw [pm_sz_v]; exact c3)) hd ⟨by omega, by omega⟩) h4 Cx.2.2.2.2.2.2.1 (fun H1 locs1 z1 g1 g2 => ?_)
  have k2 := kk H1 locs1 ls (cells + mc) (slots + ms) h1 z1 g1 g2 (by simp only; omega) (by simp only; omega)
  simp only [pm_toList] at k2
  exact k2
end PMO
noncomputable def s_pop2 (n : Nat) : pm_S → Option pm_S := fun σ => match σ.2.2.1 with
  | x :: st => bif Nat.beq x.category 2 then some (n, σ.2.1, st, σ.2.2.2) else none
  | _ => none
theorem k_pop2 {cc : ByteArray} {own : String} {nL pc : Nat} {ini : Bool} (hd : decode cc pc = .ok (.pop2, 1)) : pm_okF cc own nL ini pc (s_pop2 (pc + 1)) := by
  intro p l e R s m args below meth c D aC B b Q C hR1 hR2 lv st w σ' hf k
  simp only [s_pop2] at hf
  split at hf
  · rename_i x st
    cases hb : Nat.beq x.category 2 with
    | false => rw [hb] at hf; cases hf
    | true =>
      rw [hb] at hf
      obtain rfl := Option.some.inj hf
      intro H locs ls cells slots h1 h2 h3 h4 h5 h6
      exact lv_pop2_2 C.1 C.2.1 hd (by rw [pm_v_cat]; exact Nat.eq_of_beq_eq_true hb) (k H locs ls cells slots h1 h2 h3 h4 h5 h6)
  · cases hf
end
section
/-! THE PURE MACHINE, part 8: System.arraycopy of two rows of longs -/
noncomputable def s_copy (n : Nat) : pm_S → Option pm_S := fun σ => match σ.2.2.1 with
  | .int m :: .int dp :: .ref a1 :: .int sp :: .ref a0 :: st => match σ.2.2.2.1[a0]? with
    | some (.inl (3, n0, .inr (.inl f))) => match σ.2.2.2.1[a1]? with
      | some (.inl (3, n1, .inr (.inl g))) => bif (!(decide (sp < 0)) && (!(decide (dp < 0)) && !(decide (m < 0)))) && (Nat.ble (sp.toNatClampNeg + m.toNatClampNeg) n0 && (Nat.ble (dp.toNatClampNeg + m.toNatClampNeg) n1 && Nat.ble (pm_sz st) 8)) then some (n, σ.2.1, st, σ.2.2.2.1.set a1 (.inl (3, n1, .inr (.inl (va_cpy f g sp.toNatClampNeg dp.toNatClampNeg m.toNatClampNeg)))), σ.2.2.2.2) else none
      | _ => none
    | _ => none
  | _ => none
end
