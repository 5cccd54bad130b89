section
noncomputable def s_const (v : Value) (n : Nat) : pm_S → Option pm_S := fun σ => some (n, σ.2.1, v :: σ.2.2.1, σ.2.2.2)
theorem k_iconst {cc : ByteArray} {own : String} {nL pc : Nat} {ini : Bool} {n : Int} {v : Int32} (hd : decode cc pc = .ok (.iconst n, 1)) (hv : Int32.ofInt n = v) : pm_okF cc own nL ini pc (s_const (.int v) (pc + 1)) := by
  intro p l e R s m args below meth c D aC B b Q C hR1 hR2 lv st w σ' hf k
  obtain rfl := Option.some.inj hf
  intro H locs ls cells slots h1 h2 h3 h4 h5 h6
  exact lv_iconst C.1 C.2.1 hd hv (k H locs ls cells slots h1 h2 h3 h4 h5 h6)
theorem k_bipush {cc : ByteArray} {own : String} {nL pc : Nat} {ini : Bool} {n : Int} {v : Int32} (hd : decode cc pc = .ok (.bipush n, 2)) (hv : (Int8.ofInt n).toInt32 = v) : pm_okF cc own nL ini pc (s_const (.int v) (pc + 2)) := by
  intro p l e R s m args below meth c D aC B b Q C hR1 hR2 lv st w σ' hf k
  obtain rfl := Option.some.inj hf
  intro H locs ls cells slots h1 h2 h3 h4 h5 h6
  exact lv_bipush C.1 C.2.1 hd hv (k H locs ls cells slots h1 h2 h3 h4 h5 h6)
theorem k_sipush {cc : ByteArray} {own : String} {nL pc : Nat} {ini : Bool} {n : Int} {v : Int32} (hd : decode cc pc = .ok (.sipush n, 3)) (hv : (Int16.ofInt n).toInt32 = v) : pm_okF cc own nL ini pc (s_const (.int v) (pc + 3)) := by
  intro p l e R s m args below meth c D aC B b Q C hR1 hR2 lv st w σ' hf k
  obtain rfl := Option.some.inj hf
  intro H locs ls cells slots h1 h2 h3 h4 h5 h6
  exact lv_sipush C.1 C.2.1 hd hv (k H locs ls cells slots h1 h2 h3 h4 h5 h6)
theorem k_lconst {cc : ByteArray} {own : String} {nL pc : Nat} {ini : Bool} {n : Fin 2} {v : Int64} (hd : decode cc pc = .ok (.lconst n, 1)) (hv : Int64.ofNat (n : Nat) = v) : pm_okF cc own nL ini pc (s_const (.long v) (pc + 1)) := by
  intro p l e R s m args below meth c D aC B b Q C hR1 hR2 lv st w σ' hf k
  obtain rfl := Option.some.inj hf
  intro H locs ls cells slots h1 h2 h3 h4 h5 h6
  exact lv_lconst C.1 C.2.1 hd hv (k H locs ls cells slots h1 h2 h3 h4 h5 h6)
theorem k_ldc {cc : ByteArray} {own : String} {nL pc : Nat} {ini : Bool} {i : Nat} {v : Int32} (hd : decode cc pc = .ok (.ldc i, 2)) (hw : Cond.constant own i v ∈ pm_T) : pm_okF cc own nL ini pc (s_const (.int v) (pc + 2)) := by
  intro p l e R s m args below meth c D aC B b Q C hR1 hR2 lv st w σ' hf k
  obtain rfl := Option.some.inj hf
  intro H locs ls cells slots h1 h2 h3 h4 h5 h6
  exact lv_ldc C.1 C.2.1 C.2.2.2.1 (C.2.2.2.2.1 _ hw) hd (k H locs ls cells slots h1 h2 h3 h4 h5 h6)
theorem k_ldcw {cc : ByteArray} {own : String} {nL pc : Nat} {ini : Bool} {i : Nat} {v : Int32} (hd : decode cc pc = .ok (.ldc_w i, 3)) (hw : Cond.constant own i v ∈ pm_T) : pm_okF cc own nL ini pc (s_const (.int v) (pc + 3)) := by
  intro p l e R s m args below meth c D aC B b Q C hR1 hR2 lv st w σ' hf k
  obtain rfl := Option.some.inj hf
  intro H locs ls cells slots h1 h2 h3 h4 h5 h6
  exact lv_ldcw C.1 C.2.1 C.2.2.2.1 (C.2.2.2.2.1 _ hw) hd (k H locs ls cells slots h1 h2 h3 h4 h5 h6)
theorem k_ldc2 {cc : ByteArray} {own : String} {nL pc : Nat} {ini : Bool} {i : Nat} {v : Int64} (hd : decode cc pc = .ok (.ldc2_w i, 3)) (hw : Cond.constantLong own i v ∈ pm_T) : pm_okF cc own nL ini pc (s_const (.long v) (pc + 3)) := by
  intro p l e R s m args below meth c D aC B b Q C hR1 hR2 lv st w σ' hf k
  obtain rfl := Option.some.inj hf
  intro H locs ls cells slots h1 h2 h3 h4 h5 h6
  exact lv_ldc2 C.1 C.2.1 C.2.2.2.1 (C.2.2.2.2.1 _ hw) hd (k H locs ls cells slots h1 h2 h3 h4 h5 h6)
noncomputable def s_il (i n : Nat) : pm_S → Option pm_S := fun σ => match pm_get σ.2.1 i with
  | some (.int x) => some (n, σ.2.1, .int x :: σ.2.2.1, σ.2.2.2)
  | _ => none
theorem k_iload_n {cc : ByteArray} {own : String} {nL pc : Nat} {ini : Bool} {j : Fin 4} {i : Nat} (hd : decode cc pc = .ok (.iload_n j, 1)) (hi : (j : Nat) = i) : pm_okF cc own nL ini pc (s_il i (pc + 1)) := by
  intro p l e R s m args below meth c D aC B b Q C hR1 hR2 lv st w σ' hf k
  simp only [s_il] at hf
  split at hf
  · rename_i x he
    obtain rfl := Option.some.inj hf
    intro H locs ls cells slots h1 h2 h3 h4 h5 h6
    exact lv_iload_n C.1 C.2.1 hd hi (pm_loc h1 he) (k H locs ls cells slots h1 h2 h3 h4 h5 h6)
  · cases hf
theorem k_iload {cc : ByteArray} {own : String} {nL pc : Nat} {ini : Bool} {i : Nat} (hd : decode cc pc = .ok (.iload i, 2)) : pm_okF cc own nL ini pc (s_il i (pc + 2)) := by
  intro p l e R s m args below meth c D aC B b Q C hR1 hR2 lv st w σ' hf k
  simp only [s_il] at hf
  split at hf
  · rename_i x he
    obtain rfl := Option.some.inj hf
    intro H locs ls cells slots h1 h2 h3 h4 h5 h6
    exact lv_iload C.1 C.2.1 hd (pm_loc h1 he) (k H locs ls cells slots h1 h2 h3 h4 h5 h6)
  · cases hf
noncomputable def s_ll (i n : Nat) : pm_S → Option pm_S := fun σ => match pm_get σ.2.1 i with
  | some (.long x) => some (n, σ.2.1, .long x :: σ.2.2.1, σ.2.2.2)
  | _ => none
theorem k_lload_n {cc : ByteArray} {own : String} {nL pc : Nat} {ini : Bool} {j : Fin 4} {i : Nat} (hd : decode cc pc = .ok (.lload_n j, 1)) (hi : (j : Nat) = i) : pm_okF cc own nL ini pc (s_ll i (pc + 1)) := by
  intro p l e R s m args below meth c D aC B b Q C hR1 hR2 lv st w σ' hf k
  simp only [s_ll] at hf
  split at hf
  · rename_i x he
    obtain rfl := Option.some.inj hf
    intro H locs ls cells slots h1 h2 h3 h4 h5 h6
    exact lv_lload_n C.1 C.2.1 hd hi (pm_loc h1 he) (k H locs ls cells slots h1 h2 h3 h4 h5 h6)
  · cases hf
theorem k_lload {cc : ByteArray} {own : String} {nL pc : Nat} {ini : Bool} {i : Nat} (hd : decode cc pc = .ok (.lload i, 2)) : pm_okF cc own nL ini pc (s_ll i (pc + 2)) := by
  intro p l e R s m args below meth c D aC B b Q C hR1 hR2 lv st w σ' hf k
  simp only [s_ll] at hf
  split at hf
  · rename_i x he
    obtain rfl := Option.some.inj hf
    intro H locs ls cells slots h1 h2 h3 h4 h5 h6
    exact lv_lload C.1 C.2.1 hd (pm_loc h1 he) (k H locs ls cells slots h1 h2 h3 h4 h5 h6)
  · cases hf
noncomputable def s_al (i n : Nat) : pm_S → Option pm_S := fun σ => match pm_get σ.2.1 i with
  | some (.ref x) => some (n, σ.2.1, .ref x :: σ.2.2.1, σ.2.2.2)
  | some (.retAddr x) => some (n, σ.2.1, .retAddr x :: σ.2.2.1, σ.2.2.2)
  | _ => none
end
