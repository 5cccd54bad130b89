section
noncomputable def s_bin (op : Int32 → Int32 → Int32) (n : Nat) : pm_S → Option pm_S := fun σ => match σ.2.2.1 with
  | .int y :: .int x :: st => some (n, σ.2.1, .int (op x y) :: st, σ.2.2.2)
  | _ => none
noncomputable def s_lbin (op : Int64 → Int64 → Int64) (n : Nat) : pm_S → Option pm_S := fun σ => match σ.2.2.1 with
  | .long y :: .long x :: st => some (n, σ.2.1, .long (op x y) :: st, σ.2.2.2)
  | _ => none
noncomputable def s_div (op : Int32 → Int32 → Int32) (n : Nat) : pm_S → Option pm_S := fun σ => match σ.2.2.1 with
  | .int y :: .int x :: st => if y = 0 then none else some (n, σ.2.1, .int (op x y) :: st, σ.2.2.2)
  | _ => none
noncomputable def s_ldiv (op : Int64 → Int64 → Int64) (n : Nat) : pm_S → Option pm_S := fun σ => match σ.2.2.1 with
  | .long y :: .long x :: st => if y = 0 then none else some (n, σ.2.1, .long (op x y) :: st, σ.2.2.2)
  | _ => none
noncomputable def s_lcmp (n : Nat) : pm_S → Option pm_S := fun σ => match σ.2.2.1 with
  | .long y :: .long x :: st => some (n, σ.2.1, .int (lg_cmp x y) :: st, σ.2.2.2)
  | _ => none
noncomputable def s_lsh (op : Int64 → Int32 → Int64) (n : Nat) : pm_S → Option pm_S := fun σ => match σ.2.2.1 with
  | .int y :: .long x :: st => some (n, σ.2.1, .long (op x y) :: st, σ.2.2.2)
  | _ => none
noncomputable def s_un (op : Int32 → Int32) (n : Nat) : pm_S → Option pm_S := fun σ => match σ.2.2.1 with
  | .int x :: st => some (n, σ.2.1, .int (op x) :: st, σ.2.2.2)
  | _ => none
noncomputable def s_lun (op : Int64 → Int64) (n : Nat) : pm_S → Option pm_S := fun σ => match σ.2.2.1 with
  | .long x :: st => some (n, σ.2.1, .long (op x) :: st, σ.2.2.2)
  | _ => none
noncomputable def s_i2l (n : Nat) : pm_S → Option pm_S := fun σ => match σ.2.2.1 with
  | .int x :: st => some (n, σ.2.1, .long x.toInt64 :: st, σ.2.2.2)
  | _ => none
noncomputable def s_l2i (n : Nat) : pm_S → Option pm_S := fun σ => match σ.2.2.1 with
  | .long x :: st => some (n, σ.2.1, .int x.toInt32 :: st, σ.2.2.2)
  | _ => none
theorem k_iadd {cc : ByteArray} {own : String} {nL pc : Nat} {ini : Bool} (hd : decode cc pc = .ok (.iadd, 1)) : pm_okF cc own nL ini pc (s_bin (fun x y => x + y) (pc + 1)) := by
  intro p l e R s m args below meth c D aC B b Q C hR1 hR2 lv st w σ' hf k
  simp only [s_bin] at hf
  split at hf
  · obtain rfl := Option.some.inj hf
    intro H locs ls cells slots h1 h2 h3 h4 h5 h6
    exact lv_iadd C.1 C.2.1 hd (k H locs ls cells slots h1 h2 h3 h4 h5 h6)
  · cases hf
theorem k_isub {cc : ByteArray} {own : String} {nL pc : Nat} {ini : Bool} (hd : decode cc pc = .ok (.isub, 1)) : pm_okF cc own nL ini pc (s_bin (fun x y => x - y) (pc + 1)) := by
  intro p l e R s m args below meth c D aC B b Q C hR1 hR2 lv st w σ' hf k
  simp only [s_bin] at hf
  split at hf
  · obtain rfl := Option.some.inj hf
    intro H locs ls cells slots h1 h2 h3 h4 h5 h6
    exact lv_isub C.1 C.2.1 hd (k H locs ls cells slots h1 h2 h3 h4 h5 h6)
  · cases hf
theorem k_imul {cc : ByteArray} {own : String} {nL pc : Nat} {ini : Bool} (hd : decode cc pc = .ok (.imul, 1)) : pm_okF cc own nL ini pc (s_bin (fun x y => x * y) (pc + 1)) := by
  intro p l e R s m args below meth c D aC B b Q C hR1 hR2 lv st w σ' hf k
  simp only [s_bin] at hf
  split at hf
  · obtain rfl := Option.some.inj hf
    intro H locs ls cells slots h1 h2 h3 h4 h5 h6
    exact lv_imul C.1 C.2.1 hd (k H locs ls cells slots h1 h2 h3 h4 h5 h6)
  · cases hf
theorem k_iand {cc : ByteArray} {own : String} {nL pc : Nat} {ini : Bool} (hd : decode cc pc = .ok (.iand, 1)) : pm_okF cc own nL ini pc (s_bin (fun x y => x &&& y) (pc + 1)) := by
  intro p l e R s m args below meth c D aC B b Q C hR1 hR2 lv st w σ' hf k
  simp only [s_bin] at hf
  split at hf
  · obtain rfl := Option.some.inj hf
    intro H locs ls cells slots h1 h2 h3 h4 h5 h6
    exact lv_iand C.1 C.2.1 hd (k H locs ls cells slots h1 h2 h3 h4 h5 h6)
  · cases hf
theorem k_ior {cc : ByteArray} {own : String} {nL pc : Nat} {ini : Bool} (hd : decode cc pc = .ok (.ior, 1)) : pm_okF cc own nL ini pc (s_bin (fun x y => x ||| y) (pc + 1)) := by
  intro p l e R s m args below meth c D aC B b Q C hR1 hR2 lv st w σ' hf k
  simp only [s_bin] at hf
  split at hf
  · obtain rfl := Option.some.inj hf
    intro H locs ls cells slots h1 h2 h3 h4 h5 h6
    exact lv_ior C.1 C.2.1 hd (k H locs ls cells slots h1 h2 h3 h4 h5 h6)
  · cases hf
theorem k_ixor {cc : ByteArray} {own : String} {nL pc : Nat} {ini : Bool} (hd : decode cc pc = .ok (.ixor, 1)) : pm_okF cc own nL ini pc (s_bin (fun x y => x ^^^ y) (pc + 1)) := by
  intro p l e R s m args below meth c D aC B b Q C hR1 hR2 lv st w σ' hf k
  simp only [s_bin] at hf
  split at hf
  · obtain rfl := Option.some.inj hf
    intro H locs ls cells slots h1 h2 h3 h4 h5 h6
    exact lv_ixor C.1 C.2.1 hd (k H locs ls cells slots h1 h2 h3 h4 h5 h6)
  · cases hf
theorem k_ishl {cc : ByteArray} {own : String} {nL pc : Nat} {ini : Bool} (hd : decode cc pc = .ok (.ishl, 1)) : pm_okF cc own nL ini pc (s_bin (fun x y => x <<< (y &&& 31)) (pc + 1)) := by
  intro p l e R s m args below meth c D aC B b Q C hR1 hR2 lv st w σ' hf k
  simp only [s_bin] at hf
  split at hf
  · obtain rfl := Option.some.inj hf
    intro H locs ls cells slots h1 h2 h3 h4 h5 h6
    exact lv_ishl C.1 C.2.1 hd (k H locs ls cells slots h1 h2 h3 h4 h5 h6)
  · cases hf
theorem k_ishr {cc : ByteArray} {own : String} {nL pc : Nat} {ini : Bool} (hd : decode cc pc = .ok (.ishr, 1)) : pm_okF cc own nL ini pc (s_bin (fun x y => x >>> (y &&& 31)) (pc + 1)) := by
  intro p l e R s m args below meth c D aC B b Q C hR1 hR2 lv st w σ' hf k
  simp only [s_bin] at hf
  split at hf
  · obtain rfl := Option.some.inj hf
    intro H locs ls cells slots h1 h2 h3 h4 h5 h6
    exact lv_ishr C.1 C.2.1 hd (k H locs ls cells slots h1 h2 h3 h4 h5 h6)
  · cases hf
theorem k_ladd {cc : ByteArray} {own : String} {nL pc : Nat} {ini : Bool} (hd : decode cc pc = .ok (.ladd, 1)) : pm_okF cc own nL ini pc (s_lbin (fun x y => x + y) (pc + 1)) := by
  intro p l e R s m args below meth c D aC B b Q C hR1 hR2 lv st w σ' hf k
  simp only [s_lbin] at hf
  split at hf
  · obtain rfl := Option.some.inj hf
    intro H locs ls cells slots h1 h2 h3 h4 h5 h6
    exact lv_ladd C.1 C.2.1 hd (k H locs ls cells slots h1 h2 h3 h4 h5 h6)
  · cases hf
end
