section
theorem k_aload_n {cc : ByteArray} {own : String} {nL pc : Nat} {ini : Bool} {j : Fin 4} {i : Nat} (hd : decode cc pc = .ok (.aload_n j, 1)) (hi : (j : Nat) = i) : pm_okF cc own nL ini pc (s_al i (pc + 1)) := by
  intro p l e R s m args below meth c D aC B b Q C hR1 hR2 lv st w σ' hf k
  simp only [s_al] at hf
  split at hf
  · rename_i x he
    obtain rfl := Option.some.inj hf
    intro H locs ls cells slots h1 h2 h3 h4 h5 h6
    exact lv_aload_n C.1 C.2.1 hd hi (pm_loc h1 he) (k H locs ls cells slots h1 h2 h3 h4 h5 h6)
  · rename_i x he
    obtain rfl := Option.some.inj hf
    intro H locs ls cells slots h1 h2 h3 h4 h5 h6
    have hg := pm_loc h1 he
    have k2 := k H locs ls cells slots h1 h2 h3 h4 h5 h6
    simp only [List.map_cons, pm_v] at hg k2
    cases hb : b x with
    | none =>
      rw [hb] at hg k2
      exact lv_aload_nN C.1 C.2.1 hd hi hg k2
    | some q =>
      rw [hb] at hg k2
      exact lv_aload_n C.1 C.2.1 hd hi hg k2
  · cases hf
theorem k_aload {cc : ByteArray} {own : String} {nL pc : Nat} {ini : Bool} {i : Nat} (hd : decode cc pc = .ok (.aload i, 2)) : pm_okF cc own nL ini pc (s_al i (pc + 2)) := by
  intro p l e R s m args below meth c D aC B b Q C hR1 hR2 lv st w σ' hf k
  simp only [s_al] at hf
  split at hf
  · rename_i x he
    obtain rfl := Option.some.inj hf
    intro H locs ls cells slots h1 h2 h3 h4 h5 h6
    exact lv_aload C.1 C.2.1 hd (pm_loc h1 he) (k H locs ls cells slots h1 h2 h3 h4 h5 h6)
  · rename_i x he
    obtain rfl := Option.some.inj hf
    intro H locs ls cells slots h1 h2 h3 h4 h5 h6
    have hg := pm_loc h1 he
    have k2 := k H locs ls cells slots h1 h2 h3 h4 h5 h6
    simp only [List.map_cons, pm_v] at hg k2
    cases hb : b x with
    | none =>
      rw [hb] at hg k2
      exact lv_aloadN C.1 C.2.1 hd hg k2
    | some q =>
      rw [hb] at hg k2
      exact lv_aload C.1 C.2.1 hd hg k2
  · cases hf
noncomputable def s_is (i n : Nat) : pm_S → Option pm_S := fun σ => match σ.2.2.1 with
  | .int x :: st => some (n, pm_put1 i (.int x) σ.2.1, st, σ.2.2.2)
  | _ => none
theorem k_istore_n {cc : ByteArray} {own : String} {nL pc : Nat} {ini : Bool} {j : Fin 4} {i : Nat} (hd : decode cc pc = .ok (.istore_n j, 1)) (hi : (j : Nat) = i) (hn : i < nL) : pm_okF cc own nL ini pc (s_is i (pc + 1)) := by
  intro p l e R s m args below meth c D aC B b Q C hR1 hR2 lv st w σ' hf k
  simp only [s_is] at hf
  split at hf
  · rename_i x st
    obtain rfl := Option.some.inj hf
    intro H locs ls cells slots h1 h2 h3 h4 h5 h6
    exact lv_istore_n C.1 C.2.1 hd hi h1 hn (pm_put1_map B b i (.int x) lv) (fun ls' h1' => k H locs ls' cells slots h1' h2 h3 h4 h5 h6)
  · cases hf
theorem k_istore {cc : ByteArray} {own : String} {nL pc : Nat} {ini : Bool} {i : Nat} (hd : decode cc pc = .ok (.istore i, 2)) (hn : i < nL) : pm_okF cc own nL ini pc (s_is i (pc + 2)) := by
  intro p l e R s m args below meth c D aC B b Q C hR1 hR2 lv st w σ' hf k
  simp only [s_is] at hf
  split at hf
  · rename_i x st
    obtain rfl := Option.some.inj hf
    intro H locs ls cells slots h1 h2 h3 h4 h5 h6
    exact lv_istore C.1 C.2.1 hd h1 hn (pm_put1_map B b i (.int x) lv) (fun ls' h1' => k H locs ls' cells slots h1' h2 h3 h4 h5 h6)
  · cases hf
noncomputable def s_ls (i n : Nat) : pm_S → Option pm_S := fun σ => match σ.2.2.1 with
  | .long x :: st => some (n, pm_put2 i (.long x) σ.2.1, st, σ.2.2.2)
  | _ => none
theorem k_lstore_n {cc : ByteArray} {own : String} {nL pc : Nat} {ini : Bool} {j : Fin 4} {i : Nat} (hd : decode cc pc = .ok (.lstore_n j, 1)) (hi : (j : Nat) = i) (hn : i + 1 < nL) : pm_okF cc own nL ini pc (s_ls i (pc + 1)) := by
  intro p l e R s m args below meth c D aC B b Q C hR1 hR2 lv st w σ' hf k
  simp only [s_ls] at hf
  split at hf
  · rename_i x st
    obtain rfl := Option.some.inj hf
    intro H locs ls cells slots h1 h2 h3 h4 h5 h6
    exact lv_lstore_n C.1 C.2.1 hd hi h1 hn (pm_put2_map B b i (.long x) lv) (fun ls' h1' => k H locs ls' cells slots h1' h2 h3 h4 h5 h6)
  · cases hf
theorem k_lstore {cc : ByteArray} {own : String} {nL pc : Nat} {ini : Bool} {i : Nat} (hd : decode cc pc = .ok (.lstore i, 2)) (hn : i + 1 < nL) : pm_okF cc own nL ini pc (s_ls i (pc + 2)) := by
  intro p l e R s m args below meth c D aC B b Q C hR1 hR2 lv st w σ' hf k
  simp only [s_ls] at hf
  split at hf
  · rename_i x st
    obtain rfl := Option.some.inj hf
    intro H locs ls cells slots h1 h2 h3 h4 h5 h6
    exact lv_lstore C.1 C.2.1 hd h1 hn (pm_put2_map B b i (.long x) lv) (fun ls' h1' => k H locs ls' cells slots h1' h2 h3 h4 h5 h6)
  · cases hf
noncomputable def s_as (i n : Nat) : pm_S → Option pm_S := fun σ => match σ.2.2.1 with
  | .ref x :: st => some (n, pm_put1 i (.ref x) σ.2.1, st, σ.2.2.2)
  | _ => none
theorem k_astore_n {cc : ByteArray} {own : String} {nL pc : Nat} {ini : Bool} {j : Fin 4} {i : Nat} (hd : decode cc pc = .ok (.astore_n j, 1)) (hi : (j : Nat) = i) (hn : i < nL) : pm_okF cc own nL ini pc (s_as i (pc + 1)) := by
  intro p l e R s m args below meth c D aC B b Q C hR1 hR2 lv st w σ' hf k
  simp only [s_as] at hf
  split at hf
  · rename_i x st
    obtain rfl := Option.some.inj hf
    intro H locs ls cells slots h1 h2 h3 h4 h5 h6
    exact lv_astore_n C.1 C.2.1 hd hi h1 hn (pm_put1_map B b i (.ref x) lv) (fun ls' h1' => k H locs ls' cells slots h1' h2 h3 h4 h5 h6)
  · cases hf
theorem k_astore {cc : ByteArray} {own : String} {nL pc : Nat} {ini : Bool} {i : Nat} (hd : decode cc pc = .ok (.astore i, 2)) (hn : i < nL) : pm_okF cc own nL ini pc (s_as i (pc + 2)) := by
  intro p l e R s m args below meth c D aC B b Q C hR1 hR2 lv st w σ' hf k
  simp only [s_as] at hf
  split at hf
  · rename_i x st
    obtain rfl := Option.some.inj hf
    intro H locs ls cells slots h1 h2 h3 h4 h5 h6
    exact lv_astore C.1 C.2.1 hd h1 hn (pm_put1_map B b i (.ref x) lv) (fun ls' h1' => k H locs ls' cells slots h1' h2 h3 h4 h5 h6)
  · cases hf
noncomputable def s_inc (i : Nat) (d : Int32) (n : Nat) : pm_S → Option pm_S := fun σ => match pm_get σ.2.1 i with
  | some (.int x) => some (n, pm_put1 i (.int (x + d)) σ.2.1, σ.2.2.1, σ.2.2.2)
  | _ => none
theorem k_iinc {cc : ByteArray} {own : String} {nL pc : Nat} {ini : Bool} {i : Nat} {n : Int} {d : Int32} (hd : decode cc pc = .ok (.iinc i n, 3)) (hv : Int32.ofInt n = d) (hn : i < nL) : pm_okF cc own nL ini pc (s_inc i d (pc + 3)) := by
  intro p l e R s m args below meth c D aC B b Q C hR1 hR2 lv st w σ' hf k
  subst hv
  simp only [s_inc] at hf
  split at hf
  · rename_i x he
    obtain rfl := Option.some.inj hf
    intro H locs ls cells slots h1 h2 h3 h4 h5 h6
    obtain ⟨q, hq⟩ := List.getElem?_of_mem (List.mem_map.mpr ⟨(i, .int x), pm_get_in he, rfl⟩ : pm_q B b (i, .int x) ∈ lv.map (pm_q B b))
    exact lv_iinc C.1 C.2.1 hd h1 hq rfl hn (pm_put1_map B b i (.int (x + Int32.ofInt n)) lv) (fun ls' h1' => k H locs ls' cells slots h1' h2 h3 h4 h5 h6)
  · cases hf
end
