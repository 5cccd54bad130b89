section
theorem k_lsub {cc : ByteArray} {own : String} {nL pc : Nat} {ini : Bool} (hd : decode cc pc = .ok (.lsub, 1)) : pm_okF cc own nL ini pc (s_lbin (fun x y => x - y) (pc + 1)) := by
  intro p l e R s m args below meth c D aC B b Q C hR1 hR2 lv st w σ' hf k
  simp only [s_lbin] at hf
  split at hf
  · obtain rfl := Option.some.inj hf
    intro H locs ls cells slots h1 h2 h3 h4 h5 h6
    exact lv_lsub C.1 C.2.1 hd (k H locs ls cells slots h1 h2 h3 h4 h5 h6)
  · cases hf
theorem k_lmul {cc : ByteArray} {own : String} {nL pc : Nat} {ini : Bool} (hd : decode cc pc = .ok (.lmul, 1)) : pm_okF cc own nL ini pc (s_lbin (fun x y => x * y) (pc + 1)) := by
  intro p l e R s m args below meth c D aC B b Q C hR1 hR2 lv st w σ' hf k
  simp only [s_lbin] at hf
  split at hf
  · obtain rfl := Option.some.inj hf
    intro H locs ls cells slots h1 h2 h3 h4 h5 h6
    exact lv_lmul C.1 C.2.1 hd (k H locs ls cells slots h1 h2 h3 h4 h5 h6)
  · cases hf
theorem k_land {cc : ByteArray} {own : String} {nL pc : Nat} {ini : Bool} (hd : decode cc pc = .ok (.land, 1)) : pm_okF cc own nL ini pc (s_lbin (fun x y => x &&& y) (pc + 1)) := by
  intro p l e R s m args below meth c D aC B b Q C hR1 hR2 lv st w σ' hf k
  simp only [s_lbin] at hf
  split at hf
  · obtain rfl := Option.some.inj hf
    intro H locs ls cells slots h1 h2 h3 h4 h5 h6
    exact lv_land C.1 C.2.1 hd (k H locs ls cells slots h1 h2 h3 h4 h5 h6)
  · cases hf
theorem k_lor {cc : ByteArray} {own : String} {nL pc : Nat} {ini : Bool} (hd : decode cc pc = .ok (.lor, 1)) : pm_okF cc own nL ini pc (s_lbin (fun x y => x ||| y) (pc + 1)) := by
  intro p l e R s m args below meth c D aC B b Q C hR1 hR2 lv st w σ' hf k
  simp only [s_lbin] at hf
  split at hf
  · obtain rfl := Option.some.inj hf
    intro H locs ls cells slots h1 h2 h3 h4 h5 h6
    exact lv_lor C.1 C.2.1 hd (k H locs ls cells slots h1 h2 h3 h4 h5 h6)
  · cases hf
theorem k_lcmp {cc : ByteArray} {own : String} {nL pc : Nat} {ini : Bool} (hd : decode cc pc = .ok (.lcmp, 1)) : pm_okF cc own nL ini pc (s_lcmp (pc + 1)) := by
  intro p l e R s m args below meth c D aC B b Q C hR1 hR2 lv st w σ' hf k
  simp only [s_lcmp] at hf
  split at hf
  · obtain rfl := Option.some.inj hf
    intro H locs ls cells slots h1 h2 h3 h4 h5 h6
    exact W.lcmp C.1 C.2.1 hd (k H locs ls cells slots h1 h2 h3 h4 h5 h6)
  · cases hf
theorem k_lneg {cc : ByteArray} {own : String} {nL pc : Nat} {ini : Bool} (hd : decode cc pc = .ok (.lneg, 1)) : pm_okF cc own nL ini pc (s_lun (fun x => -x) (pc + 1)) := by
  intro p l e R s m args below meth c D aC B b Q C hR1 hR2 lv st w σ' hf k
  simp only [s_lun] at hf
  split at hf
  · obtain rfl := Option.some.inj hf
    intro H locs ls cells slots h1 h2 h3 h4 h5 h6
    exact lv_lneg C.1 C.2.1 hd (k H locs ls cells slots h1 h2 h3 h4 h5 h6)
  · cases hf
theorem k_ineg {cc : ByteArray} {own : String} {nL pc : Nat} {ini : Bool} (hd : decode cc pc = .ok (.ineg, 1)) : pm_okF cc own nL ini pc (s_un (fun x => -x) (pc + 1)) := by
  intro p l e R s m args below meth c D aC B b Q C hR1 hR2 lv st w σ' hf k
  simp only [s_un] at hf
  split at hf
  · obtain rfl := Option.some.inj hf
    intro H locs ls cells slots h1 h2 h3 h4 h5 h6
    exact lv_ineg C.1 C.2.1 hd (k H locs ls cells slots h1 h2 h3 h4 h5 h6)
  · cases hf
theorem k_i2b {cc : ByteArray} {own : String} {nL pc : Nat} {ini : Bool} (hd : decode cc pc = .ok (.i2b, 1)) : pm_okF cc own nL ini pc (s_un (fun x => x.toInt8.toInt32) (pc + 1)) := by
  intro p l e R s m args below meth c D aC B b Q C hR1 hR2 lv st w σ' hf k
  simp only [s_un] at hf
  split at hf
  · obtain rfl := Option.some.inj hf
    intro H locs ls cells slots h1 h2 h3 h4 h5 h6
    exact lv_i2b C.1 C.2.1 hd rfl (k H locs ls cells slots h1 h2 h3 h4 h5 h6)
  · cases hf
theorem k_i2s {cc : ByteArray} {own : String} {nL pc : Nat} {ini : Bool} (hd : decode cc pc = .ok (.i2s, 1)) : pm_okF cc own nL ini pc (s_un (fun x => x.toInt16.toInt32) (pc + 1)) := by
  intro p l e R s m args below meth c D aC B b Q C hR1 hR2 lv st w σ' hf k
  simp only [s_un] at hf
  split at hf
  · obtain rfl := Option.some.inj hf
    intro H locs ls cells slots h1 h2 h3 h4 h5 h6
    exact lv_i2s C.1 C.2.1 hd rfl (k H locs ls cells slots h1 h2 h3 h4 h5 h6)
  · cases hf
theorem k_i2l {cc : ByteArray} {own : String} {nL pc : Nat} {ini : Bool} (hd : decode cc pc = .ok (.i2l, 1)) : pm_okF cc own nL ini pc (s_i2l (pc + 1)) := by
  intro p l e R s m args below meth c D aC B b Q C hR1 hR2 lv st w σ' hf k
  simp only [s_i2l] at hf
  split at hf
  · obtain rfl := Option.some.inj hf
    intro H locs ls cells slots h1 h2 h3 h4 h5 h6
    exact lv_i2l C.1 C.2.1 hd rfl (k H locs ls cells slots h1 h2 h3 h4 h5 h6)
  · cases hf
theorem k_l2i {cc : ByteArray} {own : String} {nL pc : Nat} {ini : Bool} (hd : decode cc pc = .ok (.l2i, 1)) : pm_okF cc own nL ini pc (s_l2i (pc + 1)) := by
  intro p l e R s m args below meth c D aC B b Q C hR1 hR2 lv st w σ' hf k
  simp only [s_l2i] at hf
  split at hf
  · obtain rfl := Option.some.inj hf
    intro H locs ls cells slots h1 h2 h3 h4 h5 h6
    exact lv_l2i C.1 C.2.1 hd rfl (k H locs ls cells slots h1 h2 h3 h4 h5 h6)
  · cases hf
theorem k_lshl {cc : ByteArray} {own : String} {nL pc : Nat} {ini : Bool} (hd : decode cc pc = .ok (.lshl, 1)) : pm_okF cc own nL ini pc (s_lsh (fun x y => x <<< (y.toInt64 &&& 63)) (pc + 1)) := by
  intro p l e R s m args below meth c D aC B b Q C hR1 hR2 lv st w σ' hf k
  simp only [s_lsh] at hf
  split at hf
  · obtain rfl := Option.some.inj hf
    intro H locs ls cells slots h1 h2 h3 h4 h5 h6
    exact lv_lshl C.1 C.2.1 hd rfl (k H locs ls cells slots h1 h2 h3 h4 h5 h6)
  · cases hf
theorem k_idiv {cc : ByteArray} {own : String} {nL pc : Nat} {ini : Bool} (hd : decode cc pc = .ok (.idiv, 1)) : pm_okF cc own nL ini pc (s_div (fun x y => x / y) (pc + 1)) := by
  intro p l e R s m args below meth c D aC B b Q C hR1 hR2 lv st w σ' hf k
  simp only [s_div] at hf
  split at hf
  · split at hf
    · cases hf
    · rename_i hy
      obtain rfl := Option.some.inj hf
      intro H locs ls cells slots h1 h2 h3 h4 h5 h6
      exact lv_idiv C.1 C.2.1 hd hy (k H locs ls cells slots h1 h2 h3 h4 h5 h6)
  · cases hf
end
