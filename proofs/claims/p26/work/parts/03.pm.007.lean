section
theorem k_if_lt {cc : ByteArray} {own : String} {nL pc : Nat} {ini : Bool} {off : Int} {t : Nat} (hd : decode cc pc = .ok (.ifCond .lt off, 3)) (ht : (pc : Int) + off = (t : Int)) : pm_okF cc own nL ini pc (s_if (fun x => decide (x < 0)) t (pc + 3)) := by
  intro p l e R s m args below meth c D aC B b Q C hR1 hR2 lv st w σ' hf k
  simp only [s_if] at hf
  split at hf
  · obtain rfl := Option.some.inj hf
    intro H locs ls cells slots h1 h2 h3 h4 h5 h6
    refine lv_if_lt C.1 C.2.1 hd ht (fun c0 => ?_) (fun c0 => ?_)
    · have k2 := (k H locs ls cells slots h1 h2 h3 h4 h5 h6)
      rw [show ∀ z : Bool, z = true → (bif z then t else pc + 3) = t from fun z hz => by rw [hz]; rfl] at k2
      · exact k2
      · exact decide_eq_true c0
    · have k2 := (k H locs ls cells slots h1 h2 h3 h4 h5 h6)
      rw [show ∀ z : Bool, z = false → (bif z then t else pc + 3) = pc + 3 from fun z hz => by rw [hz]; rfl] at k2
      · exact k2
      · exact decide_eq_false c0
  · cases hf
theorem k_icmp_lt {cc : ByteArray} {own : String} {nL pc : Nat} {ini : Bool} {off : Int} {t : Nat} (hd : decode cc pc = .ok (.if_icmp .lt off, 3)) (ht : (pc : Int) + off = (t : Int)) : pm_okF cc own nL ini pc (s_icmp (fun x y => decide (x < y)) t (pc + 3)) := by
  intro p l e R s m args below meth c D aC B b Q C hR1 hR2 lv st w σ' hf k
  simp only [s_icmp] at hf
  split at hf
  · obtain rfl := Option.some.inj hf
    intro H locs ls cells slots h1 h2 h3 h4 h5 h6
    refine lv_icmp_lt C.1 C.2.1 hd ht (fun c0 => ?_) (fun c0 => ?_)
    · have k2 := (k H locs ls cells slots h1 h2 h3 h4 h5 h6)
      rw [show ∀ z : Bool, z = true → (bif z then t else pc + 3) = t from fun z hz => by rw [hz]; rfl] at k2
      · exact k2
      · exact decide_eq_true c0
    · have k2 := (k H locs ls cells slots h1 h2 h3 h4 h5 h6)
      rw [show ∀ z : Bool, z = false → (bif z then t else pc + 3) = pc + 3 from fun z hz => by rw [hz]; rfl] at k2
      · exact k2
      · exact decide_eq_false c0
  · cases hf
theorem k_if_ge {cc : ByteArray} {own : String} {nL pc : Nat} {ini : Bool} {off : Int} {t : Nat} (hd : decode cc pc = .ok (.ifCond .ge off, 3)) (ht : (pc : Int) + off = (t : Int)) : pm_okF cc own nL ini pc (s_if (fun x => decide (0 ≤ x)) t (pc + 3)) := by
  intro p l e R s m args below meth c D aC B b Q C hR1 hR2 lv st w σ' hf k
  simp only [s_if] at hf
  split at hf
  · obtain rfl := Option.some.inj hf
    intro H locs ls cells slots h1 h2 h3 h4 h5 h6
    refine lv_if_ge C.1 C.2.1 hd ht (fun c0 => ?_) (fun c0 => ?_)
    · have k2 := (k H locs ls cells slots h1 h2 h3 h4 h5 h6)
      rw [show ∀ z : Bool, z = true → (bif z then t else pc + 3) = t from fun z hz => by rw [hz]; rfl] at k2
      · exact k2
      · exact decide_eq_true c0
    · have k2 := (k H locs ls cells slots h1 h2 h3 h4 h5 h6)
      rw [show ∀ z : Bool, z = false → (bif z then t else pc + 3) = pc + 3 from fun z hz => by rw [hz]; rfl] at k2
      · exact k2
      · exact decide_eq_false c0
  · cases hf
theorem k_icmp_ge {cc : ByteArray} {own : String} {nL pc : Nat} {ini : Bool} {off : Int} {t : Nat} (hd : decode cc pc = .ok (.if_icmp .ge off, 3)) (ht : (pc : Int) + off = (t : Int)) : pm_okF cc own nL ini pc (s_icmp (fun x y => decide (y ≤ x)) t (pc + 3)) := by
  intro p l e R s m args below meth c D aC B b Q C hR1 hR2 lv st w σ' hf k
  simp only [s_icmp] at hf
  split at hf
  · obtain rfl := Option.some.inj hf
    intro H locs ls cells slots h1 h2 h3 h4 h5 h6
    refine lv_icmp_ge C.1 C.2.1 hd ht (fun c0 => ?_) (fun c0 => ?_)
    · have k2 := (k H locs ls cells slots h1 h2 h3 h4 h5 h6)
      rw [show ∀ z : Bool, z = true → (bif z then t else pc + 3) = t from fun z hz => by rw [hz]; rfl] at k2
      · exact k2
      · exact decide_eq_true c0
    · have k2 := (k H locs ls cells slots h1 h2 h3 h4 h5 h6)
      rw [show ∀ z : Bool, z = false → (bif z then t else pc + 3) = pc + 3 from fun z hz => by rw [hz]; rfl] at k2
      · exact k2
      · exact decide_eq_false c0
  · cases hf
theorem k_if_gt {cc : ByteArray} {own : String} {nL pc : Nat} {ini : Bool} {off : Int} {t : Nat} (hd : decode cc pc = .ok (.ifCond .gt off, 3)) (ht : (pc : Int) + off = (t : Int)) : pm_okF cc own nL ini pc (s_if (fun x => decide (0 < x)) t (pc + 3)) := by
  intro p l e R s m args below meth c D aC B b Q C hR1 hR2 lv st w σ' hf k
  simp only [s_if] at hf
  split at hf
  · obtain rfl := Option.some.inj hf
    intro H locs ls cells slots h1 h2 h3 h4 h5 h6
    refine lv_if_gt C.1 C.2.1 hd ht (fun c0 => ?_) (fun c0 => ?_)
    · have k2 := (k H locs ls cells slots h1 h2 h3 h4 h5 h6)
      rw [show ∀ z : Bool, z = true → (bif z then t else pc + 3) = t from fun z hz => by rw [hz]; rfl] at k2
      · exact k2
      · exact decide_eq_true c0
    · have k2 := (k H locs ls cells slots h1 h2 h3 h4 h5 h6)
      rw [show ∀ z : Bool, z = false → (bif z then t else pc + 3) = pc + 3 from fun z hz => by rw [hz]; rfl] at k2
      · exact k2
      · exact decide_eq_false c0
  · cases hf
theorem k_icmp_gt {cc : ByteArray} {own : String} {nL pc : Nat} {ini : Bool} {off : Int} {t : Nat} (hd : decode cc pc = .ok (.if_icmp .gt off, 3)) (ht : (pc : Int) + off = (t : Int)) : pm_okF cc own nL ini pc (s_icmp (fun x y => decide (y < x)) t (pc + 3)) := by
  intro p l e R s m args below meth c D aC B b Q C hR1 hR2 lv st w σ' hf k
  simp only [s_icmp] at hf
  split at hf
  · obtain rfl := Option.some.inj hf
    intro H locs ls cells slots h1 h2 h3 h4 h5 h6
    refine lv_icmp_gt C.1 C.2.1 hd ht (fun c0 => ?_) (fun c0 => ?_)
    · have k2 := (k H locs ls cells slots h1 h2 h3 h4 h5 h6)
      rw [show ∀ z : Bool, z = true → (bif z then t else pc + 3) = t from fun z hz => by rw [hz]; rfl] at k2
      · exact k2
      · exact decide_eq_true c0
    · have k2 := (k H locs ls cells slots h1 h2 h3 h4 h5 h6)
      rw [show ∀ z : Bool, z = false → (bif z then t else pc + 3) = pc + 3 from fun z hz => by rw [hz]; rfl] at k2
      · exact k2
      · exact decide_eq_false c0
  · cases hf
theorem k_if_le {cc : ByteArray} {own : String} {nL pc : Nat} {ini : Bool} {off : Int} {t : Nat} (hd : decode cc pc = .ok (.ifCond .le off, 3)) (ht : (pc : Int) + off = (t : Int)) : pm_okF cc own nL ini pc (s_if (fun x => decide (x ≤ 0)) t (pc + 3)) := by
  intro p l e R s m args below meth c D aC B b Q C hR1 hR2 lv st w σ' hf k
  simp only [s_if] at hf
  split at hf
  · obtain rfl := Option.some.inj hf
    intro H locs ls cells slots h1 h2 h3 h4 h5 h6
    refine lv_if_le C.1 C.2.1 hd ht (fun c0 => ?_) (fun c0 => ?_)
    · have k2 := (k H locs ls cells slots h1 h2 h3 h4 h5 h6)
      rw [show ∀ z : Bool, z = true → (bif z then t else pc + 3) = t from fun z hz => by rw [hz]; rfl] at k2
      · exact k2
      · exact decide_eq_true c0
    · have k2 := (k H locs ls cells slots h1 h2 h3 h4 h5 h6)
      rw [show ∀ z : Bool, z = false → (bif z then t else pc + 3) = pc + 3 from fun z hz => by rw [hz]; rfl] at k2
      · exact k2
      · exact decide_eq_false c0
  · cases hf
end
