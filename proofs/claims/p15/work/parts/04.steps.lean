/-! THE PURE MACHINE, part 2: its steps, each with the row of the kit that it stands on (written by gen_steps.py) -/
noncomputable def s_const (v : Value) (n : Nat) : pm_S → Option pm_S := fun σ => some (n, σ.2.1, v :: σ.2.2.1, σ.2.2.2)
theorem k_iconst {cc : ByteArray} {own : String} {nL pc : Nat} {ini : Bool} {n : Int} {v : Int32} (hd : decode cc pc = .ok (.iconst n, 1)) (hv : Int32.ofInt n = v) : pm_okF cc own nL ini pc (s_const (.int v) (pc + 1)) := by
  intro p l e R s m args below meth c D aC B b Q C hR1 hR2 lv st w σ' hf k
  obtain rfl := Option.some.inj hf
  intro H locs ls cells slots h1 h2 h3 h4 h5 h6
  exact lv_iconst C.1 C.2.1 hd hv (k H locs ls cells slots h1 h2 h3 h4 h5 h6)
theorem k_bipush {cc : ByteArray} {own : String} {nL pc : Nat} {ini : Bool} {n : Int} {v : Int32} (hd : decode cc pc = .ok (.bipush n, 2)) (hv : (Int8.ofInt n).toInt32 = v) : pm_okF cc own nL ini pc (s_const (.int v) (pc + 2)) := by
  intro p l e R s m args below meth c D aC B b Q C hR1 hR2 lv st w σ' hf k
  obtain rfl := Option.some.inj hf
  intro H locs ls cells slots h1 h2 h3 h4 h5 h6
  exact lv_bipush C.1 C.2.1 hd hv (k H locs ls cells slots h1 h2 h3 h4 h5 h6)
theorem k_sipush {cc : ByteArray} {own : String} {nL pc : Nat} {ini : Bool} {n : Int} {v : Int32} (hd : decode cc pc = .ok (.sipush n, 3)) (hv : (Int16.ofInt n).toInt32 = v) : pm_okF cc own nL ini pc (s_const (.int v) (pc + 3)) := by
  intro p l e R s m args below meth c D aC B b Q C hR1 hR2 lv st w σ' hf k
  obtain rfl := Option.some.inj hf
  intro H locs ls cells slots h1 h2 h3 h4 h5 h6
  exact lv_sipush C.1 C.2.1 hd hv (k H locs ls cells slots h1 h2 h3 h4 h5 h6)
theorem k_lconst {cc : ByteArray} {own : String} {nL pc : Nat} {ini : Bool} {n : Fin 2} {v : Int64} (hd : decode cc pc = .ok (.lconst n, 1)) (hv : Int64.ofNat (n : Nat) = v) : pm_okF cc own nL ini pc (s_const (.long v) (pc + 1)) := by
  intro p l e R s m args below meth c D aC B b Q C hR1 hR2 lv st w σ' hf k
  obtain rfl := Option.some.inj hf
  intro H locs ls cells slots h1 h2 h3 h4 h5 h6
  exact lv_lconst C.1 C.2.1 hd hv (k H locs ls cells slots h1 h2 h3 h4 h5 h6)
theorem k_ldc {cc : ByteArray} {own : String} {nL pc : Nat} {ini : Bool} {i : Nat} {v : Int32} (hd : decode cc pc = .ok (.ldc i, 2)) (hw : Cond.constant own i v ∈ pm_T) : pm_okF cc own nL ini pc (s_const (.int v) (pc + 2)) := by
  intro p l e R s m args below meth c D aC B b Q C hR1 hR2 lv st w σ' hf k
  obtain rfl := Option.some.inj hf
  intro H locs ls cells slots h1 h2 h3 h4 h5 h6
  exact lv_ldc C.1 C.2.1 C.2.2.2.1 (C.2.2.2.2.1 _ hw) hd (k H locs ls cells slots h1 h2 h3 h4 h5 h6)
theorem k_ldcw {cc : ByteArray} {own : String} {nL pc : Nat} {ini : Bool} {i : Nat} {v : Int32} (hd : decode cc pc = .ok (.ldc_w i, 3)) (hw : Cond.constant own i v ∈ pm_T) : pm_okF cc own nL ini pc (s_const (.int v) (pc + 3)) := by
  intro p l e R s m args below meth c D aC B b Q C hR1 hR2 lv st w σ' hf k
  obtain rfl := Option.some.inj hf
  intro H locs ls cells slots h1 h2 h3 h4 h5 h6
  exact lv_ldcw C.1 C.2.1 C.2.2.2.1 (C.2.2.2.2.1 _ hw) hd (k H locs ls cells slots h1 h2 h3 h4 h5 h6)
theorem k_ldc2 {cc : ByteArray} {own : String} {nL pc : Nat} {ini : Bool} {i : Nat} {v : Int64} (hd : decode cc pc = .ok (.ldc2_w i, 3)) (hw : Cond.constantLong own i v ∈ pm_T) : pm_okF cc own nL ini pc (s_const (.long v) (pc + 3)) := by
  intro p l e R s m args below meth c D aC B b Q C hR1 hR2 lv st w σ' hf k
  obtain rfl := Option.some.inj hf
  intro H locs ls cells slots h1 h2 h3 h4 h5 h6
  exact lv_ldc2 C.1 C.2.1 C.2.2.2.1 (C.2.2.2.2.1 _ hw) hd (k H locs ls cells slots h1 h2 h3 h4 h5 h6)
noncomputable def s_il (i n : Nat) : pm_S → Option pm_S := fun σ => match pm_get σ.2.1 i with
  | some (.int x) => some (n, σ.2.1, .int x :: σ.2.2.1, σ.2.2.2)
  | _ => none
theorem k_iload_n {cc : ByteArray} {own : String} {nL pc : Nat} {ini : Bool} {j : Fin 4} {i : Nat} (hd : decode cc pc = .ok (.iload_n j, 1)) (hi : (j : Nat) = i) : pm_okF cc own nL ini pc (s_il i (pc + 1)) := by
  intro p l e R s m args below meth c D aC B b Q C hR1 hR2 lv st w σ' hf k
  simp only [s_il] at hf
  split at hf
  · rename_i x he
    obtain rfl := Option.some.inj hf
    intro H locs ls cells slots h1 h2 h3 h4 h5 h6
    exact lv_iload_n C.1 C.2.1 hd hi (pm_loc h1 he) (k H locs ls cells slots h1 h2 h3 h4 h5 h6)
  · cases hf
theorem k_iload {cc : ByteArray} {own : String} {nL pc : Nat} {ini : Bool} {i : Nat} (hd : decode cc pc = .ok (.iload i, 2)) : pm_okF cc own nL ini pc (s_il i (pc + 2)) := by
  intro p l e R s m args below meth c D aC B b Q C hR1 hR2 lv st w σ' hf k
  simp only [s_il] at hf
  split at hf
  · rename_i x he
    obtain rfl := Option.some.inj hf
    intro H locs ls cells slots h1 h2 h3 h4 h5 h6
    exact lv_iload C.1 C.2.1 hd (pm_loc h1 he) (k H locs ls cells slots h1 h2 h3 h4 h5 h6)
  · cases hf
noncomputable def s_ll (i n : Nat) : pm_S → Option pm_S := fun σ => match pm_get σ.2.1 i with
  | some (.long x) => some (n, σ.2.1, .long x :: σ.2.2.1, σ.2.2.2)
  | _ => none
theorem k_lload_n {cc : ByteArray} {own : String} {nL pc : Nat} {ini : Bool} {j : Fin 4} {i : Nat} (hd : decode cc pc = .ok (.lload_n j, 1)) (hi : (j : Nat) = i) : pm_okF cc own nL ini pc (s_ll i (pc + 1)) := by
  intro p l e R s m args below meth c D aC B b Q C hR1 hR2 lv st w σ' hf k
  simp only [s_ll] at hf
  split at hf
  · rename_i x he
    obtain rfl := Option.some.inj hf
    intro H locs ls cells slots h1 h2 h3 h4 h5 h6
    exact lv_lload_n C.1 C.2.1 hd hi (pm_loc h1 he) (k H locs ls cells slots h1 h2 h3 h4 h5 h6)
  · cases hf
theorem k_lload {cc : ByteArray} {own : String} {nL pc : Nat} {ini : Bool} {i : Nat} (hd : decode cc pc = .ok (.lload i, 2)) : pm_okF cc own nL ini pc (s_ll i (pc + 2)) := by
  intro p l e R s m args below meth c D aC B b Q C hR1 hR2 lv st w σ' hf k
  simp only [s_ll] at hf
  split at hf
  · rename_i x he
    obtain rfl := Option.some.inj hf
    intro H locs ls cells slots h1 h2 h3 h4 h5 h6
    exact lv_lload C.1 C.2.1 hd (pm_loc h1 he) (k H locs ls cells slots h1 h2 h3 h4 h5 h6)
  · cases hf
noncomputable def s_al (i n : Nat) : pm_S → Option pm_S := fun σ => match pm_get σ.2.1 i with
  | some (.ref x) => some (n, σ.2.1, .ref x :: σ.2.2.1, σ.2.2.2)
  | some (.retAddr x) => some (n, σ.2.1, .retAddr x :: σ.2.2.1, σ.2.2.2)
  | _ => none
theorem k_aload_n {cc : ByteArray} {own : String} {nL pc : Nat} {ini : Bool} {j : Fin 4} {i : Nat} (hd : decode cc pc = .ok (.aload_n j, 1)) (hi : (j : Nat) = i) : pm_okF cc own nL ini pc (s_al i (pc + 1)) := by
  intro p l e R s m args below meth c D aC B b Q C hR1 hR2 lv st w σ' hf k
  simp only [s_al] at hf
  split at hf
  · rename_i x he
    obtain rfl := Option.some.inj hf
    intro H locs ls cells slots h1 h2 h3 h4 h5 h6
    exact lv_aload_n C.1 C.2.1 hd hi (pm_loc h1 he) (k H locs ls cells slots h1 h2 h3 h4 h5 h6)
  · rename_i x he
    obtain rfl := Option.some.inj hf
    intro H locs ls cells slots h1 h2 h3 h4 h5 h6
    have hg := pm_loc h1 he
    have k2 := k H locs ls cells slots h1 h2 h3 h4 h5 h6
    simp only [List.map_cons, pm_v] at hg k2
    cases hb : b x with
    | none =>
      rw [hb] at hg k2
      exact lv_aload_nN C.1 C.2.1 hd hi hg k2
    | some q =>
      rw [hb] at hg k2
      exact lv_aload_n C.1 C.2.1 hd hi hg k2
  · cases hf
theorem k_aload {cc : ByteArray} {own : String} {nL pc : Nat} {ini : Bool} {i : Nat} (hd : decode cc pc = .ok (.aload i, 2)) : pm_okF cc own nL ini pc (s_al i (pc + 2)) := by
  intro p l e R s m args below meth c D aC B b Q C hR1 hR2 lv st w σ' hf k
  simp only [s_al] at hf
  split at hf
  · rename_i x he
    obtain rfl := Option.some.inj hf
    intro H locs ls cells slots h1 h2 h3 h4 h5 h6
    exact lv_aload C.1 C.2.1 hd (pm_loc h1 he) (k H locs ls cells slots h1 h2 h3 h4 h5 h6)
  · rename_i x he
    obtain rfl := Option.some.inj hf
    intro H locs ls cells slots h1 h2 h3 h4 h5 h6
    have hg := pm_loc h1 he
    have k2 := k H locs ls cells slots h1 h2 h3 h4 h5 h6
    simp only [List.map_cons, pm_v] at hg k2
    cases hb : b x with
    | none =>
      rw [hb] at hg k2
      exact lv_aloadN C.1 C.2.1 hd hg k2
    | some q =>
      rw [hb] at hg k2
      exact lv_aload C.1 C.2.1 hd hg k2
  · cases hf
noncomputable def s_is (i n : Nat) : pm_S → Option pm_S := fun σ => match σ.2.2.1 with
  | .int x :: st => some (n, pm_put1 i (.int x) σ.2.1, st, σ.2.2.2)
  | _ => none
theorem k_istore_n {cc : ByteArray} {own : String} {nL pc : Nat} {ini : Bool} {j : Fin 4} {i : Nat} (hd : decode cc pc = .ok (.istore_n j, 1)) (hi : (j : Nat) = i) (hn : i < nL) : pm_okF cc own nL ini pc (s_is i (pc + 1)) := by
  intro p l e R s m args below meth c D aC B b Q C hR1 hR2 lv st w σ' hf k
  simp only [s_is] at hf
  split at hf
  · rename_i x st
    obtain rfl := Option.some.inj hf
    intro H locs ls cells slots h1 h2 h3 h4 h5 h6
    exact lv_istore_n C.1 C.2.1 hd hi h1 hn (pm_put1_map B b i (.int x) lv) (fun ls' h1' => k H locs ls' cells slots h1' h2 h3 h4 h5 h6)
  · cases hf
theorem k_istore {cc : ByteArray} {own : String} {nL pc : Nat} {ini : Bool} {i : Nat} (hd : decode cc pc = .ok (.istore i, 2)) (hn : i < nL) : pm_okF cc own nL ini pc (s_is i (pc + 2)) := by
  intro p l e R s m args below meth c D aC B b Q C hR1 hR2 lv st w σ' hf k
  simp only [s_is] at hf
  split at hf
  · rename_i x st
    obtain rfl := Option.some.inj hf
    intro H locs ls cells slots h1 h2 h3 h4 h5 h6
    exact lv_istore C.1 C.2.1 hd h1 hn (pm_put1_map B b i (.int x) lv) (fun ls' h1' => k H locs ls' cells slots h1' h2 h3 h4 h5 h6)
  · cases hf
noncomputable def s_ls (i n : Nat) : pm_S → Option pm_S := fun σ => match σ.2.2.1 with
  | .long x :: st => some (n, pm_put2 i (.long x) σ.2.1, st, σ.2.2.2)
  | _ => none
theorem k_lstore_n {cc : ByteArray} {own : String} {nL pc : Nat} {ini : Bool} {j : Fin 4} {i : Nat} (hd : decode cc pc = .ok (.lstore_n j, 1)) (hi : (j : Nat) = i) (hn : i + 1 < nL) : pm_okF cc own nL ini pc (s_ls i (pc + 1)) := by
  intro p l e R s m args below meth c D aC B b Q C hR1 hR2 lv st w σ' hf k
  simp only [s_ls] at hf
  split at hf
  · rename_i x st
    obtain rfl := Option.some.inj hf
    intro H locs ls cells slots h1 h2 h3 h4 h5 h6
    exact lv_lstore_n C.1 C.2.1 hd hi h1 hn (pm_put2_map B b i (.long x) lv) (fun ls' h1' => k H locs ls' cells slots h1' h2 h3 h4 h5 h6)
  · cases hf
theorem k_lstore {cc : ByteArray} {own : String} {nL pc : Nat} {ini : Bool} {i : Nat} (hd : decode cc pc = .ok (.lstore i, 2)) (hn : i + 1 < nL) : pm_okF cc own nL ini pc (s_ls i (pc + 2)) := by
  intro p l e R s m args below meth c D aC B b Q C hR1 hR2 lv st w σ' hf k
  simp only [s_ls] at hf
  split at hf
  · rename_i x st
    obtain rfl := Option.some.inj hf
    intro H locs ls cells slots h1 h2 h3 h4 h5 h6
    exact lv_lstore C.1 C.2.1 hd h1 hn (pm_put2_map B b i (.long x) lv) (fun ls' h1' => k H locs ls' cells slots h1' h2 h3 h4 h5 h6)
  · cases hf
noncomputable def s_as (i n : Nat) : pm_S → Option pm_S := fun σ => match σ.2.2.1 with
  | .ref x :: st => some (n, pm_put1 i (.ref x) σ.2.1, st, σ.2.2.2)
  | _ => none
theorem k_astore_n {cc : ByteArray} {own : String} {nL pc : Nat} {ini : Bool} {j : Fin 4} {i : Nat} (hd : decode cc pc = .ok (.astore_n j, 1)) (hi : (j : Nat) = i) (hn : i < nL) : pm_okF cc own nL ini pc (s_as i (pc + 1)) := by
  intro p l e R s m args below meth c D aC B b Q C hR1 hR2 lv st w σ' hf k
  simp only [s_as] at hf
  split at hf
  · rename_i x st
    obtain rfl := Option.some.inj hf
    intro H locs ls cells slots h1 h2 h3 h4 h5 h6
    exact lv_astore_n C.1 C.2.1 hd hi h1 hn (pm_put1_map B b i (.ref x) lv) (fun ls' h1' => k H locs ls' cells slots h1' h2 h3 h4 h5 h6)
  · cases hf
theorem k_astore {cc : ByteArray} {own : String} {nL pc : Nat} {ini : Bool} {i : Nat} (hd : decode cc pc = .ok (.astore i, 2)) (hn : i < nL) : pm_okF cc own nL ini pc (s_as i (pc + 2)) := by
  intro p l e R s m args below meth c D aC B b Q C hR1 hR2 lv st w σ' hf k
  simp only [s_as] at hf
  split at hf
  · rename_i x st
    obtain rfl := Option.some.inj hf
    intro H locs ls cells slots h1 h2 h3 h4 h5 h6
    exact lv_astore C.1 C.2.1 hd h1 hn (pm_put1_map B b i (.ref x) lv) (fun ls' h1' => k H locs ls' cells slots h1' h2 h3 h4 h5 h6)
  · cases hf
noncomputable def s_inc (i : Nat) (d : Int32) (n : Nat) : pm_S → Option pm_S := fun σ => match pm_get σ.2.1 i with
  | some (.int x) => some (n, pm_put1 i (.int (x + d)) σ.2.1, σ.2.2.1, σ.2.2.2)
  | _ => none
theorem k_iinc {cc : ByteArray} {own : String} {nL pc : Nat} {ini : Bool} {i : Nat} {n : Int} {d : Int32} (hd : decode cc pc = .ok (.iinc i n, 3)) (hv : Int32.ofInt n = d) (hn : i < nL) : pm_okF cc own nL ini pc (s_inc i d (pc + 3)) := by
  intro p l e R s m args below meth c D aC B b Q C hR1 hR2 lv st w σ' hf k
  subst hv
  simp only [s_inc] at hf
  split at hf
  · rename_i x he
    obtain rfl := Option.some.inj hf
    intro H locs ls cells slots h1 h2 h3 h4 h5 h6
    obtain ⟨q, hq⟩ := List.getElem?_of_mem (List.mem_map.mpr ⟨(i, .int x), pm_get_in he, rfl⟩ : pm_q B b (i, .int x) ∈ lv.map (pm_q B b))
    exact lv_iinc C.1 C.2.1 hd h1 hq rfl hn (pm_put1_map B b i (.int (x + Int32.ofInt n)) lv) (fun ls' h1' => k H locs ls' cells slots h1' h2 h3 h4 h5 h6)
  · cases hf
noncomputable def s_bin (op : Int32 → Int32 → Int32) (n : Nat) : pm_S → Option pm_S := fun σ => match σ.2.2.1 with
  | .int y :: .int x :: st => some (n, σ.2.1, .int (op x y) :: st, σ.2.2.2)
  | _ => none
noncomputable def s_lbin (op : Int64 → Int64 → Int64) (n : Nat) : pm_S → Option pm_S := fun σ => match σ.2.2.1 with
  | .long y :: .long x :: st => some (n, σ.2.1, .long (op x y) :: st, σ.2.2.2)
  | _ => none
noncomputable def s_div (op : Int32 → Int32 → Int32) (n : Nat) : pm_S → Option pm_S := fun σ => match σ.2.2.1 with
  | .int y :: .int x :: st => if y = 0 then none else some (n, σ.2.1, .int (op x y) :: st, σ.2.2.2)
  | _ => none
noncomputable def s_ldiv (op : Int64 → Int64 → Int64) (n : Nat) : pm_S → Option pm_S := fun σ => match σ.2.2.1 with
  | .long y :: .long x :: st => if y = 0 then none else some (n, σ.2.1, .long (op x y) :: st, σ.2.2.2)
  | _ => none
noncomputable def s_lcmp (n : Nat) : pm_S → Option pm_S := fun σ => match σ.2.2.1 with
  | .long y :: .long x :: st => some (n, σ.2.1, .int (lg_cmp x y) :: st, σ.2.2.2)
  | _ => none
noncomputable def s_lsh (op : Int64 → Int32 → Int64) (n : Nat) : pm_S → Option pm_S := fun σ => match σ.2.2.1 with
  | .int y :: .long x :: st => some (n, σ.2.1, .long (op x y) :: st, σ.2.2.2)
  | _ => none
noncomputable def s_un (op : Int32 → Int32) (n : Nat) : pm_S → Option pm_S := fun σ => match σ.2.2.1 with
  | .int x :: st => some (n, σ.2.1, .int (op x) :: st, σ.2.2.2)
  | _ => none
noncomputable def s_lun (op : Int64 → Int64) (n : Nat) : pm_S → Option pm_S := fun σ => match σ.2.2.1 with
  | .long x :: st => some (n, σ.2.1, .long (op x) :: st, σ.2.2.2)
  | _ => none
noncomputable def s_i2l (n : Nat) : pm_S → Option pm_S := fun σ => match σ.2.2.1 with
  | .int x :: st => some (n, σ.2.1, .long x.toInt64 :: st, σ.2.2.2)
  | _ => none
noncomputable def s_l2i (n : Nat) : pm_S → Option pm_S := fun σ => match σ.2.2.1 with
  | .long x :: st => some (n, σ.2.1, .int x.toInt32 :: st, σ.2.2.2)
  | _ => none
theorem k_iadd {cc : ByteArray} {own : String} {nL pc : Nat} {ini : Bool} (hd : decode cc pc = .ok (.iadd, 1)) : pm_okF cc own nL ini pc (s_bin (fun x y => x + y) (pc + 1)) := by
  intro p l e R s m args below meth c D aC B b Q C hR1 hR2 lv st w σ' hf k
  simp only [s_bin] at hf
  split at hf
  · obtain rfl := Option.some.inj hf
    intro H locs ls cells slots h1 h2 h3 h4 h5 h6
    exact lv_iadd C.1 C.2.1 hd (k H locs ls cells slots h1 h2 h3 h4 h5 h6)
  · cases hf
theorem k_isub {cc : ByteArray} {own : String} {nL pc : Nat} {ini : Bool} (hd : decode cc pc = .ok (.isub, 1)) : pm_okF cc own nL ini pc (s_bin (fun x y => x - y) (pc + 1)) := by
  intro p l e R s m args below meth c D aC B b Q C hR1 hR2 lv st w σ' hf k
  simp only [s_bin] at hf
  split at hf
  · obtain rfl := Option.some.inj hf
    intro H locs ls cells slots h1 h2 h3 h4 h5 h6
    exact lv_isub C.1 C.2.1 hd (k H locs ls cells slots h1 h2 h3 h4 h5 h6)
  · cases hf
theorem k_imul {cc : ByteArray} {own : String} {nL pc : Nat} {ini : Bool} (hd : decode cc pc = .ok (.imul, 1)) : pm_okF cc own nL ini pc (s_bin (fun x y => x * y) (pc + 1)) := by
  intro p l e R s m args below meth c D aC B b Q C hR1 hR2 lv st w σ' hf k
  simp only [s_bin] at hf
  split at hf
  · obtain rfl := Option.some.inj hf
    intro H locs ls cells slots h1 h2 h3 h4 h5 h6
    exact lv_imul C.1 C.2.1 hd (k H locs ls cells slots h1 h2 h3 h4 h5 h6)
  · cases hf
theorem k_iand {cc : ByteArray} {own : String} {nL pc : Nat} {ini : Bool} (hd : decode cc pc = .ok (.iand, 1)) : pm_okF cc own nL ini pc (s_bin (fun x y => x &&& y) (pc + 1)) := by
  intro p l e R s m args below meth c D aC B b Q C hR1 hR2 lv st w σ' hf k
  simp only [s_bin] at hf
  split at hf
  · obtain rfl := Option.some.inj hf
    intro H locs ls cells slots h1 h2 h3 h4 h5 h6
    exact lv_iand C.1 C.2.1 hd (k H locs ls cells slots h1 h2 h3 h4 h5 h6)
  · cases hf
theorem k_ior {cc : ByteArray} {own : String} {nL pc : Nat} {ini : Bool} (hd : decode cc pc = .ok (.ior, 1)) : pm_okF cc own nL ini pc (s_bin (fun x y => x ||| y) (pc + 1)) := by
  intro p l e R s m args below meth c D aC B b Q C hR1 hR2 lv st w σ' hf k
  simp only [s_bin] at hf
  split at hf
  · obtain rfl := Option.some.inj hf
    intro H locs ls cells slots h1 h2 h3 h4 h5 h6
    exact lv_ior C.1 C.2.1 hd (k H locs ls cells slots h1 h2 h3 h4 h5 h6)
  · cases hf
theorem k_ixor {cc : ByteArray} {own : String} {nL pc : Nat} {ini : Bool} (hd : decode cc pc = .ok (.ixor, 1)) : pm_okF cc own nL ini pc (s_bin (fun x y => x ^^^ y) (pc + 1)) := by
  intro p l e R s m args below meth c D aC B b Q C hR1 hR2 lv st w σ' hf k
  simp only [s_bin] at hf
  split at hf
  · obtain rfl := Option.some.inj hf
    intro H locs ls cells slots h1 h2 h3 h4 h5 h6
    exact lv_ixor C.1 C.2.1 hd (k H locs ls cells slots h1 h2 h3 h4 h5 h6)
  · cases hf
theorem k_ishl {cc : ByteArray} {own : String} {nL pc : Nat} {ini : Bool} (hd : decode cc pc = .ok (.ishl, 1)) : pm_okF cc own nL ini pc (s_bin (fun x y => x <<< (y &&& 31)) (pc + 1)) := by
  intro p l e R s m args below meth c D aC B b Q C hR1 hR2 lv st w σ' hf k
  simp only [s_bin] at hf
  split at hf
  · obtain rfl := Option.some.inj hf
    intro H locs ls cells slots h1 h2 h3 h4 h5 h6
    exact lv_ishl C.1 C.2.1 hd (k H locs ls cells slots h1 h2 h3 h4 h5 h6)
  · cases hf
theorem k_ishr {cc : ByteArray} {own : String} {nL pc : Nat} {ini : Bool} (hd : decode cc pc = .ok (.ishr, 1)) : pm_okF cc own nL ini pc (s_bin (fun x y => x >>> (y &&& 31)) (pc + 1)) := by
  intro p l e R s m args below meth c D aC B b Q C hR1 hR2 lv st w σ' hf k
  simp only [s_bin] at hf
  split at hf
  · obtain rfl := Option.some.inj hf
    intro H locs ls cells slots h1 h2 h3 h4 h5 h6
    exact lv_ishr C.1 C.2.1 hd (k H locs ls cells slots h1 h2 h3 h4 h5 h6)
  · cases hf
theorem k_ladd {cc : ByteArray} {own : String} {nL pc : Nat} {ini : Bool} (hd : decode cc pc = .ok (.ladd, 1)) : pm_okF cc own nL ini pc (s_lbin (fun x y => x + y) (pc + 1)) := by
  intro p l e R s m args below meth c D aC B b Q C hR1 hR2 lv st w σ' hf k
  simp only [s_lbin] at hf
  split at hf
  · obtain rfl := Option.some.inj hf
    intro H locs ls cells slots h1 h2 h3 h4 h5 h6
    exact lv_ladd C.1 C.2.1 hd (k H locs ls cells slots h1 h2 h3 h4 h5 h6)
  · cases hf
theorem k_lsub {cc : ByteArray} {own : String} {nL pc : Nat} {ini : Bool} (hd : decode cc pc = .ok (.lsub, 1)) : pm_okF cc own nL ini pc (s_lbin (fun x y => x - y) (pc + 1)) := by
  intro p l e R s m args below meth c D aC B b Q C hR1 hR2 lv st w σ' hf k
  simp only [s_lbin] at hf
  split at hf
  · obtain rfl := Option.some.inj hf
    intro H locs ls cells slots h1 h2 h3 h4 h5 h6
    exact lv_lsub C.1 C.2.1 hd (k H locs ls cells slots h1 h2 h3 h4 h5 h6)
  · cases hf
theorem k_lmul {cc : ByteArray} {own : String} {nL pc : Nat} {ini : Bool} (hd : decode cc pc = .ok (.lmul, 1)) : pm_okF cc own nL ini pc (s_lbin (fun x y => x * y) (pc + 1)) := by
  intro p l e R s m args below meth c D aC B b Q C hR1 hR2 lv st w σ' hf k
  simp only [s_lbin] at hf
  split at hf
  · obtain rfl := Option.some.inj hf
    intro H locs ls cells slots h1 h2 h3 h4 h5 h6
    exact lv_lmul C.1 C.2.1 hd (k H locs ls cells slots h1 h2 h3 h4 h5 h6)
  · cases hf
theorem k_land {cc : ByteArray} {own : String} {nL pc : Nat} {ini : Bool} (hd : decode cc pc = .ok (.land, 1)) : pm_okF cc own nL ini pc (s_lbin (fun x y => x &&& y) (pc + 1)) := by
  intro p l e R s m args below meth c D aC B b Q C hR1 hR2 lv st w σ' hf k
  simp only [s_lbin] at hf
  split at hf
  · obtain rfl := Option.some.inj hf
    intro H locs ls cells slots h1 h2 h3 h4 h5 h6
    exact lv_land C.1 C.2.1 hd (k H locs ls cells slots h1 h2 h3 h4 h5 h6)
  · cases hf
theorem k_lor {cc : ByteArray} {own : String} {nL pc : Nat} {ini : Bool} (hd : decode cc pc = .ok (.lor, 1)) : pm_okF cc own nL ini pc (s_lbin (fun x y => x ||| y) (pc + 1)) := by
  intro p l e R s m args below meth c D aC B b Q C hR1 hR2 lv st w σ' hf k
  simp only [s_lbin] at hf
  split at hf
  · obtain rfl := Option.some.inj hf
    intro H locs ls cells slots h1 h2 h3 h4 h5 h6
    exact lv_lor C.1 C.2.1 hd (k H locs ls cells slots h1 h2 h3 h4 h5 h6)
  · cases hf
theorem k_lcmp {cc : ByteArray} {own : String} {nL pc : Nat} {ini : Bool} (hd : decode cc pc = .ok (.lcmp, 1)) : pm_okF cc own nL ini pc (s_lcmp (pc + 1)) := by
  intro p l e R s m args below meth c D aC B b Q C hR1 hR2 lv st w σ' hf k
  simp only [s_lcmp] at hf
  split at hf
  · obtain rfl := Option.some.inj hf
    intro H locs ls cells slots h1 h2 h3 h4 h5 h6
    exact W.lcmp C.1 C.2.1 hd (k H locs ls cells slots h1 h2 h3 h4 h5 h6)
  · cases hf
theorem k_lneg {cc : ByteArray} {own : String} {nL pc : Nat} {ini : Bool} (hd : decode cc pc = .ok (.lneg, 1)) : pm_okF cc own nL ini pc (s_lun (fun x => -x) (pc + 1)) := by
  intro p l e R s m args below meth c D aC B b Q C hR1 hR2 lv st w σ' hf k
  simp only [s_lun] at hf
  split at hf
  · obtain rfl := Option.some.inj hf
    intro H locs ls cells slots h1 h2 h3 h4 h5 h6
    exact lv_lneg C.1 C.2.1 hd (k H locs ls cells slots h1 h2 h3 h4 h5 h6)
  · cases hf
theorem k_ineg {cc : ByteArray} {own : String} {nL pc : Nat} {ini : Bool} (hd : decode cc pc = .ok (.ineg, 1)) : pm_okF cc own nL ini pc (s_un (fun x => -x) (pc + 1)) := by
  intro p l e R s m args below meth c D aC B b Q C hR1 hR2 lv st w σ' hf k
  simp only [s_un] at hf
  split at hf
  · obtain rfl := Option.some.inj hf
    intro H locs ls cells slots h1 h2 h3 h4 h5 h6
    exact lv_ineg C.1 C.2.1 hd (k H locs ls cells slots h1 h2 h3 h4 h5 h6)
  · cases hf
theorem k_i2b {cc : ByteArray} {own : String} {nL pc : Nat} {ini : Bool} (hd : decode cc pc = .ok (.i2b, 1)) : pm_okF cc own nL ini pc (s_un (fun x => x.toInt8.toInt32) (pc + 1)) := by
  intro p l e R s m args below meth c D aC B b Q C hR1 hR2 lv st w σ' hf k
  simp only [s_un] at hf
  split at hf
  · obtain rfl := Option.some.inj hf
    intro H locs ls cells slots h1 h2 h3 h4 h5 h6
    exact lv_i2b C.1 C.2.1 hd rfl (k H locs ls cells slots h1 h2 h3 h4 h5 h6)
  · cases hf
theorem k_i2s {cc : ByteArray} {own : String} {nL pc : Nat} {ini : Bool} (hd : decode cc pc = .ok (.i2s, 1)) : pm_okF cc own nL ini pc (s_un (fun x => x.toInt16.toInt32) (pc + 1)) := by
  intro p l e R s m args below meth c D aC B b Q C hR1 hR2 lv st w σ' hf k
  simp only [s_un] at hf
  split at hf
  · obtain rfl := Option.some.inj hf
    intro H locs ls cells slots h1 h2 h3 h4 h5 h6
    exact lv_i2s C.1 C.2.1 hd rfl (k H locs ls cells slots h1 h2 h3 h4 h5 h6)
  · cases hf
theorem k_i2l {cc : ByteArray} {own : String} {nL pc : Nat} {ini : Bool} (hd : decode cc pc = .ok (.i2l, 1)) : pm_okF cc own nL ini pc (s_i2l (pc + 1)) := by
  intro p l e R s m args below meth c D aC B b Q C hR1 hR2 lv st w σ' hf k
  simp only [s_i2l] at hf
  split at hf
  · obtain rfl := Option.some.inj hf
    intro H locs ls cells slots h1 h2 h3 h4 h5 h6
    exact lv_i2l C.1 C.2.1 hd rfl (k H locs ls cells slots h1 h2 h3 h4 h5 h6)
  · cases hf
theorem k_l2i {cc : ByteArray} {own : String} {nL pc : Nat} {ini : Bool} (hd : decode cc pc = .ok (.l2i, 1)) : pm_okF cc own nL ini pc (s_l2i (pc + 1)) := by
  intro p l e R s m args below meth c D aC B b Q C hR1 hR2 lv st w σ' hf k
  simp only [s_l2i] at hf
  split at hf
  · obtain rfl := Option.some.inj hf
    intro H locs ls cells slots h1 h2 h3 h4 h5 h6
    exact lv_l2i C.1 C.2.1 hd rfl (k H locs ls cells slots h1 h2 h3 h4 h5 h6)
  · cases hf
theorem k_lshl {cc : ByteArray} {own : String} {nL pc : Nat} {ini : Bool} (hd : decode cc pc = .ok (.lshl, 1)) : pm_okF cc own nL ini pc (s_lsh (fun x y => x <<< (y.toInt64 &&& 63)) (pc + 1)) := by
  intro p l e R s m args below meth c D aC B b Q C hR1 hR2 lv st w σ' hf k
  simp only [s_lsh] at hf
  split at hf
  · obtain rfl := Option.some.inj hf
    intro H locs ls cells slots h1 h2 h3 h4 h5 h6
    exact lv_lshl C.1 C.2.1 hd rfl (k H locs ls cells slots h1 h2 h3 h4 h5 h6)
  · cases hf
theorem k_idiv {cc : ByteArray} {own : String} {nL pc : Nat} {ini : Bool} (hd : decode cc pc = .ok (.idiv, 1)) : pm_okF cc own nL ini pc (s_div (fun x y => x / y) (pc + 1)) := by
  intro p l e R s m args below meth c D aC B b Q C hR1 hR2 lv st w σ' hf k
  simp only [s_div] at hf
  split at hf
  · split at hf
    · cases hf
    · rename_i hy
      obtain rfl := Option.some.inj hf
      intro H locs ls cells slots h1 h2 h3 h4 h5 h6
      exact lv_idiv C.1 C.2.1 hd hy (k H locs ls cells slots h1 h2 h3 h4 h5 h6)
  · cases hf
theorem k_irem {cc : ByteArray} {own : String} {nL pc : Nat} {ini : Bool} (hd : decode cc pc = .ok (.irem, 1)) : pm_okF cc own nL ini pc (s_div (fun x y => x - x / y * y) (pc + 1)) := by
  intro p l e R s m args below meth c D aC B b Q C hR1 hR2 lv st w σ' hf k
  simp only [s_div] at hf
  split at hf
  · split at hf
    · cases hf
    · rename_i hy
      obtain rfl := Option.some.inj hf
      intro H locs ls cells slots h1 h2 h3 h4 h5 h6
      exact lv_irem C.1 C.2.1 hd hy (k H locs ls cells slots h1 h2 h3 h4 h5 h6)
  · cases hf
theorem k_ldiv {cc : ByteArray} {own : String} {nL pc : Nat} {ini : Bool} (hd : decode cc pc = .ok (.ldiv, 1)) : pm_okF cc own nL ini pc (s_ldiv (fun x y => x / y) (pc + 1)) := by
  intro p l e R s m args below meth c D aC B b Q C hR1 hR2 lv st w σ' hf k
  simp only [s_ldiv] at hf
  split at hf
  · split at hf
    · cases hf
    · rename_i hy
      obtain rfl := Option.some.inj hf
      intro H locs ls cells slots h1 h2 h3 h4 h5 h6
      exact lv_ldiv C.1 C.2.1 hd hy (k H locs ls cells slots h1 h2 h3 h4 h5 h6)
  · cases hf
theorem k_lrem {cc : ByteArray} {own : String} {nL pc : Nat} {ini : Bool} (hd : decode cc pc = .ok (.lrem, 1)) : pm_okF cc own nL ini pc (s_ldiv (fun x y => x - x / y * y) (pc + 1)) := by
  intro p l e R s m args below meth c D aC B b Q C hR1 hR2 lv st w σ' hf k
  simp only [s_ldiv] at hf
  split at hf
  · split at hf
    · cases hf
    · rename_i hy
      obtain rfl := Option.some.inj hf
      intro H locs ls cells slots h1 h2 h3 h4 h5 h6
      exact lv_lrem C.1 C.2.1 hd hy (k H locs ls cells slots h1 h2 h3 h4 h5 h6)
  · cases hf
noncomputable def s_if (q : Int32 → Bool) (t n : Nat) : pm_S → Option pm_S := fun σ => match σ.2.2.1 with
  | .int x :: st => some (bif q x then t else n, σ.2.1, st, σ.2.2.2)
  | _ => none
noncomputable def s_icmp (q : Int32 → Int32 → Bool) (t n : Nat) : pm_S → Option pm_S := fun σ => match σ.2.2.1 with
  | .int y :: .int x :: st => some (bif q x y then t else n, σ.2.1, st, σ.2.2.2)
  | _ => none
noncomputable def s_goto (t : Nat) : pm_S → Option pm_S := fun σ => some (t, σ.2.1, σ.2.2.1, σ.2.2.2)
theorem k_goto {cc : ByteArray} {own : String} {nL pc : Nat} {ini : Bool} {off : Int} {t : Nat} (hd : decode cc pc = .ok (.goto off, 3)) (ht : (pc : Int) + off = (t : Int)) : pm_okF cc own nL ini pc (s_goto t) := by
  intro p l e R s m args below meth c D aC B b Q C hR1 hR2 lv st w σ' hf k
  obtain rfl := Option.some.inj hf
  intro H locs ls cells slots h1 h2 h3 h4 h5 h6
  exact lv_goto C.1 C.2.1 hd ht (k H locs ls cells slots h1 h2 h3 h4 h5 h6)
theorem k_if_eq {cc : ByteArray} {own : String} {nL pc : Nat} {ini : Bool} {off : Int} {t : Nat} (hd : decode cc pc = .ok (.ifCond .eq off, 3)) (ht : (pc : Int) + off = (t : Int)) : pm_okF cc own nL ini pc (s_if (fun x => decide (x = 0)) t (pc + 3)) := by
  intro p l e R s m args below meth c D aC B b Q C hR1 hR2 lv st w σ' hf k
  simp only [s_if] at hf
  split at hf
  · obtain rfl := Option.some.inj hf
    intro H locs ls cells slots h1 h2 h3 h4 h5 h6
    refine lv_if_eq C.1 C.2.1 hd ht (fun c0 => ?_) (fun c0 => ?_)
    · have k2 := (k H locs ls cells slots h1 h2 h3 h4 h5 h6)
      rw [show ∀ z : Bool, z = true → (bif z then t else pc + 3) = t from fun z hz => by rw [hz]; rfl] at k2
      · exact k2
      · exact decide_eq_true c0
    · have k2 := (k H locs ls cells slots h1 h2 h3 h4 h5 h6)
      rw [show ∀ z : Bool, z = false → (bif z then t else pc + 3) = pc + 3 from fun z hz => by rw [hz]; rfl] at k2
      · exact k2
      · exact decide_eq_false c0
  · cases hf
theorem k_icmp_eq {cc : ByteArray} {own : String} {nL pc : Nat} {ini : Bool} {off : Int} {t : Nat} (hd : decode cc pc = .ok (.if_icmp .eq off, 3)) (ht : (pc : Int) + off = (t : Int)) : pm_okF cc own nL ini pc (s_icmp (fun x y => decide (x = y)) t (pc + 3)) := by
  intro p l e R s m args below meth c D aC B b Q C hR1 hR2 lv st w σ' hf k
  simp only [s_icmp] at hf
  split at hf
  · obtain rfl := Option.some.inj hf
    intro H locs ls cells slots h1 h2 h3 h4 h5 h6
    refine lv_icmp_eq C.1 C.2.1 hd ht (fun c0 => ?_) (fun c0 => ?_)
    · have k2 := (k H locs ls cells slots h1 h2 h3 h4 h5 h6)
      rw [show ∀ z : Bool, z = true → (bif z then t else pc + 3) = t from fun z hz => by rw [hz]; rfl] at k2
      · exact k2
      · exact decide_eq_true c0
    · have k2 := (k H locs ls cells slots h1 h2 h3 h4 h5 h6)
      rw [show ∀ z : Bool, z = false → (bif z then t else pc + 3) = pc + 3 from fun z hz => by rw [hz]; rfl] at k2
      · exact k2
      · exact decide_eq_false c0
  · cases hf
theorem k_if_ne {cc : ByteArray} {own : String} {nL pc : Nat} {ini : Bool} {off : Int} {t : Nat} (hd : decode cc pc = .ok (.ifCond .ne off, 3)) (ht : (pc : Int) + off = (t : Int)) : pm_okF cc own nL ini pc (s_if (fun x => decide (¬ x = 0)) t (pc + 3)) := by
  intro p l e R s m args below meth c D aC B b Q C hR1 hR2 lv st w σ' hf k
  simp only [s_if] at hf
  split at hf
  · obtain rfl := Option.some.inj hf
    intro H locs ls cells slots h1 h2 h3 h4 h5 h6
    refine lv_if_ne C.1 C.2.1 hd ht (fun c0 => ?_) (fun c0 => ?_)
    · have k2 := (k H locs ls cells slots h1 h2 h3 h4 h5 h6)
      rw [show ∀ z : Bool, z = true → (bif z then t else pc + 3) = t from fun z hz => by rw [hz]; rfl] at k2
      · exact k2
      · exact decide_eq_true c0
    · have k2 := (k H locs ls cells slots h1 h2 h3 h4 h5 h6)
      rw [show ∀ z : Bool, z = false → (bif z then t else pc + 3) = pc + 3 from fun z hz => by rw [hz]; rfl] at k2
      · exact k2
      · exact decide_eq_false (fun h => h c0)
  · cases hf
theorem k_icmp_ne {cc : ByteArray} {own : String} {nL pc : Nat} {ini : Bool} {off : Int} {t : Nat} (hd : decode cc pc = .ok (.if_icmp .ne off, 3)) (ht : (pc : Int) + off = (t : Int)) : pm_okF cc own nL ini pc (s_icmp (fun x y => decide (¬ x = y)) t (pc + 3)) := by
  intro p l e R s m args below meth c D aC B b Q C hR1 hR2 lv st w σ' hf k
  simp only [s_icmp] at hf
  split at hf
  · obtain rfl := Option.some.inj hf
    intro H locs ls cells slots h1 h2 h3 h4 h5 h6
    refine lv_icmp_ne C.1 C.2.1 hd ht (fun c0 => ?_) (fun c0 => ?_)
    · have k2 := (k H locs ls cells slots h1 h2 h3 h4 h5 h6)
      rw [show ∀ z : Bool, z = true → (bif z then t else pc + 3) = t from fun z hz => by rw [hz]; rfl] at k2
      · exact k2
      · exact decide_eq_true c0
    · have k2 := (k H locs ls cells slots h1 h2 h3 h4 h5 h6)
      rw [show ∀ z : Bool, z = false → (bif z then t else pc + 3) = pc + 3 from fun z hz => by rw [hz]; rfl] at k2
      · exact k2
      · exact decide_eq_false (fun h => h c0)
  · cases hf
theorem k_if_lt {cc : ByteArray} {own : String} {nL pc : Nat} {ini : Bool} {off : Int} {t : Nat} (hd : decode cc pc = .ok (.ifCond .lt off, 3)) (ht : (pc : Int) + off = (t : Int)) : pm_okF cc own nL ini pc (s_if (fun x => decide (x < 0)) t (pc + 3)) := by
  intro p l e R s m args below meth c D aC B b Q C hR1 hR2 lv st w σ' hf k
  simp only [s_if] at hf
  split at hf
  · obtain rfl := Option.some.inj hf
    intro H locs ls cells slots h1 h2 h3 h4 h5 h6
    refine lv_if_lt C.1 C.2.1 hd ht (fun c0 => ?_) (fun c0 => ?_)
    · have k2 := (k H locs ls cells slots h1 h2 h3 h4 h5 h6)
      rw [show ∀ z : Bool, z = true → (bif z then t else pc + 3) = t from fun z hz => by rw [hz]; rfl] at k2
      · exact k2
      · exact decide_eq_true c0
    · have k2 := (k H locs ls cells slots h1 h2 h3 h4 h5 h6)
      rw [show ∀ z : Bool, z = false → (bif z then t else pc + 3) = pc + 3 from fun z hz => by rw [hz]; rfl] at k2
      · exact k2
      · exact decide_eq_false c0
  · cases hf
theorem k_icmp_lt {cc : ByteArray} {own : String} {nL pc : Nat} {ini : Bool} {off : Int} {t : Nat} (hd : decode cc pc = .ok (.if_icmp .lt off, 3)) (ht : (pc : Int) + off = (t : Int)) : pm_okF cc own nL ini pc (s_icmp (fun x y => decide (x < y)) t (pc + 3)) := by
  intro p l e R s m args below meth c D aC B b Q C hR1 hR2 lv st w σ' hf k
  simp only [s_icmp] at hf
  split at hf
  · obtain rfl := Option.some.inj hf
    intro H locs ls cells slots h1 h2 h3 h4 h5 h6
    refine lv_icmp_lt C.1 C.2.1 hd ht (fun c0 => ?_) (fun c0 => ?_)
    · have k2 := (k H locs ls cells slots h1 h2 h3 h4 h5 h6)
      rw [show ∀ z : Bool, z = true → (bif z then t else pc + 3) = t from fun z hz => by rw [hz]; rfl] at k2
      · exact k2
      · exact decide_eq_true c0
    · have k2 := (k H locs ls cells slots h1 h2 h3 h4 h5 h6)
      rw [show ∀ z : Bool, z = false → (bif z then t else pc + 3) = pc + 3 from fun z hz => by rw [hz]; rfl] at k2
      · exact k2
      · exact decide_eq_false c0
  · cases hf
theorem k_if_ge {cc : ByteArray} {own : String} {nL pc : Nat} {ini : Bool} {off : Int} {t : Nat} (hd : decode cc pc = .ok (.ifCond .ge off, 3)) (ht : (pc : Int) + off = (t : Int)) : pm_okF cc own nL ini pc (s_if (fun x => decide (0 ≤ x)) t (pc + 3)) := by
  intro p l e R s m args below meth c D aC B b Q C hR1 hR2 lv st w σ' hf k
  simp only [s_if] at hf
  split at hf
  · obtain rfl := Option.some.inj hf
    intro H locs ls cells slots h1 h2 h3 h4 h5 h6
    refine lv_if_ge C.1 C.2.1 hd ht (fun c0 => ?_) (fun c0 => ?_)
    · have k2 := (k H locs ls cells slots h1 h2 h3 h4 h5 h6)
      rw [show ∀ z : Bool, z = true → (bif z then t else pc + 3) = t from fun z hz => by rw [hz]; rfl] at k2
      · exact k2
      · exact decide_eq_true c0
    · have k2 := (k H locs ls cells slots h1 h2 h3 h4 h5 h6)
      rw [show ∀ z : Bool, z = false → (bif z then t else pc + 3) = pc + 3 from fun z hz => by rw [hz]; rfl] at k2
      · exact k2
      · exact decide_eq_false c0
  · cases hf
theorem k_icmp_ge {cc : ByteArray} {own : String} {nL pc : Nat} {ini : Bool} {off : Int} {t : Nat} (hd : decode cc pc = .ok (.if_icmp .ge off, 3)) (ht : (pc : Int) + off = (t : Int)) : pm_okF cc own nL ini pc (s_icmp (fun x y => decide (y ≤ x)) t (pc + 3)) := by
  intro p l e R s m args below meth c D aC B b Q C hR1 hR2 lv st w σ' hf k
  simp only [s_icmp] at hf
  split at hf
  · obtain rfl := Option.some.inj hf
    intro H locs ls cells slots h1 h2 h3 h4 h5 h6
    refine lv_icmp_ge C.1 C.2.1 hd ht (fun c0 => ?_) (fun c0 => ?_)
    · have k2 := (k H locs ls cells slots h1 h2 h3 h4 h5 h6)
      rw [show ∀ z : Bool, z = true → (bif z then t else pc + 3) = t from fun z hz => by rw [hz]; rfl] at k2
      · exact k2
      · exact decide_eq_true c0
    · have k2 := (k H locs ls cells slots h1 h2 h3 h4 h5 h6)
      rw [show ∀ z : Bool, z = false → (bif z then t else pc + 3) = pc + 3 from fun z hz => by rw [hz]; rfl] at k2
      · exact k2
      · exact decide_eq_false c0
  · cases hf
theorem k_if_gt {cc : ByteArray} {own : String} {nL pc : Nat} {ini : Bool} {off : Int} {t : Nat} (hd : decode cc pc = .ok (.ifCond .gt off, 3)) (ht : (pc : Int) + off = (t : Int)) : pm_okF cc own nL ini pc (s_if (fun x => decide (0 < x)) t (pc + 3)) := by
  intro p l e R s m args below meth c D aC B b Q C hR1 hR2 lv st w σ' hf k
  simp only [s_if] at hf
  split at hf
  · obtain rfl := Option.some.inj hf
    intro H locs ls cells slots h1 h2 h3 h4 h5 h6
    refine lv_if_gt C.1 C.2.1 hd ht (fun c0 => ?_) (fun c0 => ?_)
    · have k2 := (k H locs ls cells slots h1 h2 h3 h4 h5 h6)
      rw [show ∀ z : Bool, z = true → (bif z then t else pc + 3) = t from fun z hz => by rw [hz]; rfl] at k2
      · exact k2
      · exact decide_eq_true c0
    · have k2 := (k H locs ls cells slots h1 h2 h3 h4 h5 h6)
      rw [show ∀ z : Bool, z = false → (bif z then t else pc + 3) = pc + 3 from fun z hz => by rw [hz]; rfl] at k2
      · exact k2
      · exact decide_eq_false c0
  · cases hf
theorem k_icmp_gt {cc : ByteArray} {own : String} {nL pc : Nat} {ini : Bool} {off : Int} {t : Nat} (hd : decode cc pc = .ok (.if_icmp .gt off, 3)) (ht : (pc : Int) + off = (t : Int)) : pm_okF cc own nL ini pc (s_icmp (fun x y => decide (y < x)) t (pc + 3)) := by
  intro p l e R s m args below meth c D aC B b Q C hR1 hR2 lv st w σ' hf k
  simp only [s_icmp] at hf
  split at hf
  · obtain rfl := Option.some.inj hf
    intro H locs ls cells slots h1 h2 h3 h4 h5 h6
    refine lv_icmp_gt C.1 C.2.1 hd ht (fun c0 => ?_) (fun c0 => ?_)
    · have k2 := (k H locs ls cells slots h1 h2 h3 h4 h5 h6)
      rw [show ∀ z : Bool, z = true → (bif z then t else pc + 3) = t from fun z hz => by rw [hz]; rfl] at k2
      · exact k2
      · exact decide_eq_true c0
    · have k2 := (k H locs ls cells slots h1 h2 h3 h4 h5 h6)
      rw [show ∀ z : Bool, z = false → (bif z then t else pc + 3) = pc + 3 from fun z hz => by rw [hz]; rfl] at k2
      · exact k2
      · exact decide_eq_false c0
  · cases hf
theorem k_if_le {cc : ByteArray} {own : String} {nL pc : Nat} {ini : Bool} {off : Int} {t : Nat} (hd : decode cc pc = .ok (.ifCond .le off, 3)) (ht : (pc : Int) + off = (t : Int)) : pm_okF cc own nL ini pc (s_if (fun x => decide (x ≤ 0)) t (pc + 3)) := by
  intro p l e R s m args below meth c D aC B b Q C hR1 hR2 lv st w σ' hf k
  simp only [s_if] at hf
  split at hf
  · obtain rfl := Option.some.inj hf
    intro H locs ls cells slots h1 h2 h3 h4 h5 h6
    refine lv_if_le C.1 C.2.1 hd ht (fun c0 => ?_) (fun c0 => ?_)
    · have k2 := (k H locs ls cells slots h1 h2 h3 h4 h5 h6)
      rw [show ∀ z : Bool, z = true → (bif z then t else pc + 3) = t from fun z hz => by rw [hz]; rfl] at k2
      · exact k2
      · exact decide_eq_true c0
    · have k2 := (k H locs ls cells slots h1 h2 h3 h4 h5 h6)
      rw [show ∀ z : Bool, z = false → (bif z then t else pc + 3) = pc + 3 from fun z hz => by rw [hz]; rfl] at k2
      · exact k2
      · exact decide_eq_false c0
  · cases hf
theorem k_icmp_le {cc : ByteArray} {own : String} {nL pc : Nat} {ini : Bool} {off : Int} {t : Nat} (hd : decode cc pc = .ok (.if_icmp .le off, 3)) (ht : (pc : Int) + off = (t : Int)) : pm_okF cc own nL ini pc (s_icmp (fun x y => decide (x ≤ y)) t (pc + 3)) := by
  intro p l e R s m args below meth c D aC B b Q C hR1 hR2 lv st w σ' hf k
  simp only [s_icmp] at hf
  split at hf
  · obtain rfl := Option.some.inj hf
    intro H locs ls cells slots h1 h2 h3 h4 h5 h6
    refine lv_icmp_le C.1 C.2.1 hd ht (fun c0 => ?_) (fun c0 => ?_)
    · have k2 := (k H locs ls cells slots h1 h2 h3 h4 h5 h6)
      rw [show ∀ z : Bool, z = true → (bif z then t else pc + 3) = t from fun z hz => by rw [hz]; rfl] at k2
      · exact k2
      · exact decide_eq_true c0
    · have k2 := (k H locs ls cells slots h1 h2 h3 h4 h5 h6)
      rw [show ∀ z : Bool, z = false → (bif z then t else pc + 3) = pc + 3 from fun z hz => by rw [hz]; rfl] at k2
      · exact k2
      · exact decide_eq_false c0
  · cases hf
noncomputable def s_dup (n : Nat) : pm_S → Option pm_S := fun σ => match σ.2.2.1 with
  | x :: st => bif Nat.beq x.category 1 then some (n, σ.2.1, x :: x :: st, σ.2.2.2) else none
  | _ => none
theorem k_dup {cc : ByteArray} {own : String} {nL pc : Nat} {ini : Bool} (hd : decode cc pc = .ok (.dup, 1)) : pm_okF cc own nL ini pc (s_dup (pc + 1)) := by
  intro p l e R s m args below meth c D aC B b Q C hR1 hR2 lv st w σ' hf k
  simp only [s_dup] at hf
  split at hf
  · rename_i x st
    cases hb : Nat.beq x.category 1 with
    | false => rw [hb] at hf; cases hf
    | true =>
      rw [hb] at hf
      obtain rfl := Option.some.inj hf
      intro H locs ls cells slots h1 h2 h3 h4 h5 h6
      exact lv_dup C.1 C.2.1 hd (by rw [pm_v_cat]; exact Nat.eq_of_beq_eq_true hb) (k H locs ls cells slots h1 h2 h3 h4 h5 h6)
  · cases hf
noncomputable def s_pop (n : Nat) : pm_S → Option pm_S := fun σ => match σ.2.2.1 with
  | x :: st => bif Nat.beq x.category 1 then some (n, σ.2.1, st, σ.2.2.2) else none
  | _ => none
theorem k_pop {cc : ByteArray} {own : String} {nL pc : Nat} {ini : Bool} (hd : decode cc pc = .ok (.pop, 1)) : pm_okF cc own nL ini pc (s_pop (pc + 1)) := by
  intro p l e R s m args below meth c D aC B b Q C hR1 hR2 lv st w σ' hf k
  simp only [s_pop] at hf
  split at hf
  · rename_i x st
    cases hb : Nat.beq x.category 1 with
    | false => rw [hb] at hf; cases hf
    | true =>
      rw [hb] at hf
      obtain rfl := Option.some.inj hf
      intro H locs ls cells slots h1 h2 h3 h4 h5 h6
      exact lv_pop C.1 C.2.1 hd (by rw [pm_v_cat]; exact Nat.eq_of_beq_eq_true hb) (k H locs ls cells slots h1 h2 h3 h4 h5 h6)
  · cases hf
noncomputable def s_dup2 (n : Nat) : pm_S → Option pm_S := fun σ => match σ.2.2.1 with
  | x :: y :: st => bif Nat.beq x.category 1 && Nat.beq y.category 1 then some (n, σ.2.1, x :: y :: x :: y :: st, σ.2.2.2) else none
  | _ => none
theorem k_dup2 {cc : ByteArray} {own : String} {nL pc : Nat} {ini : Bool} (hd : decode cc pc = .ok (.dup2, 1)) : pm_okF cc own nL ini pc (s_dup2 (pc + 1)) := by
  intro p l e R s m args below meth c D aC B b Q C hR1 hR2 lv st w σ' hf k
  simp only [s_dup2] at hf
  split at hf
  · rename_i x y st
    cases hb : (Nat.beq x.category 1 && Nat.beq y.category 1) with
    | false => rw [hb] at hf; cases hf
    | true =>
      rw [hb] at hf
      obtain ⟨hx, hy⟩ := Bool.and_eq_true_iff.mp hb
      obtain rfl := Option.some.inj hf
      intro H locs ls cells slots h1 h2 h3 h4 h5 h6
      exact lv_dup2_11 C.1 C.2.1 hd (by rw [pm_v_cat]; exact Nat.eq_of_beq_eq_true hx) (by rw [pm_v_cat]; exact Nat.eq_of_beq_eq_true hy) (k H locs ls cells slots h1 h2 h3 h4 h5 h6)
  · cases hf
