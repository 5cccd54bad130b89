section
theorem k_irem {cc : ByteArray} {own : String} {nL pc : Nat} {ini : Bool} (hd : decode cc pc = .ok (.irem, 1)) : pm_okF cc own nL ini pc (s_div (fun x y => x - x / y * y) (pc + 1)) := by
  intro p l e R s m args below meth c D aC B b Q C hR1 hR2 lv st w σ' hf k
  simp only [s_div] at hf
  split at hf
  · split at hf
    · cases hf
    · rename_i hy
      obtain rfl := Option.some.inj hf
      intro H locs ls cells slots h1 h2 h3 h4 h5 h6
      exact lv_irem C.1 C.2.1 hd hy (k H locs ls cells slots h1 h2 h3 h4 h5 h6)
  · cases hf
theorem k_ldiv {cc : ByteArray} {own : String} {nL pc : Nat} {ini : Bool} (hd : decode cc pc = .ok (.ldiv, 1)) : pm_okF cc own nL ini pc (s_ldiv (fun x y => x / y) (pc + 1)) := by
  intro p l e R s m args below meth c D aC B b Q C hR1 hR2 lv st w σ' hf k
  simp only [s_ldiv] at hf
  split at hf
  · split at hf
    · cases hf
    · rename_i hy
      obtain rfl := Option.some.inj hf
      intro H locs ls cells slots h1 h2 h3 h4 h5 h6
      exact lv_ldiv C.1 C.2.1 hd hy (k H locs ls cells slots h1 h2 h3 h4 h5 h6)
  · cases hf
theorem k_lrem {cc : ByteArray} {own : String} {nL pc : Nat} {ini : Bool} (hd : decode cc pc = .ok (.lrem, 1)) : pm_okF cc own nL ini pc (s_ldiv (fun x y => x - x / y * y) (pc + 1)) := by
  intro p l e R s m args below meth c D aC B b Q C hR1 hR2 lv st w σ' hf k
  simp only [s_ldiv] at hf
  split at hf
  · split at hf
    · cases hf
    · rename_i hy
      obtain rfl := Option.some.inj hf
      intro H locs ls cells slots h1 h2 h3 h4 h5 h6
      exact lv_lrem C.1 C.2.1 hd hy (k H locs ls cells slots h1 h2 h3 h4 h5 h6)
  · cases hf
noncomputable def s_if (q : Int32 → Bool) (t n : Nat) : pm_S → Option pm_S := fun σ => match σ.2.2.1 with
  | .int x :: st => some (bif q x then t else n, σ.2.1, st, σ.2.2.2)
  | _ => none
noncomputable def s_icmp (q : Int32 → Int32 → Bool) (t n : Nat) : pm_S → Option pm_S := fun σ => match σ.2.2.1 with
  | .int y :: .int x :: st => some (bif q x y then t else n, σ.2.1, st, σ.2.2.2)
  | _ => none
noncomputable def s_goto (t : Nat) : pm_S → Option pm_S := fun σ => some (t, σ.2.1, σ.2.2.1, σ.2.2.2)
theorem k_goto {cc : ByteArray} {own : String} {nL pc : Nat} {ini : Bool} {off : Int} {t : Nat} (hd : decode cc pc = .ok (.goto off, 3)) (ht : (pc : Int) + off = (t : Int)) : pm_okF cc own nL ini pc (s_goto t) := by
  intro p l e R s m args below meth c D aC B b Q C hR1 hR2 lv st w σ' hf k
  obtain rfl := Option.some.inj hf
  intro H locs ls cells slots h1 h2 h3 h4 h5 h6
  exact lv_goto C.1 C.2.1 hd ht (k H locs ls cells slots h1 h2 h3 h4 h5 h6)
theorem k_if_eq {cc : ByteArray} {own : String} {nL pc : Nat} {ini : Bool} {off : Int} {t : Nat} (hd : decode cc pc = .ok (.ifCond .eq off, 3)) (ht : (pc : Int) + off = (t : Int)) : pm_okF cc own nL ini pc (s_if (fun x => decide (x = 0)) t (pc + 3)) := by
  intro p l e R s m args below meth c D aC B b Q C hR1 hR2 lv st w σ' hf k
  simp only [s_if] at hf
  split at hf
  · obtain rfl := Option.some.inj hf
    intro H locs ls cells slots h1 h2 h3 h4 h5 h6
    refine lv_if_eq C.1 C.2.1 hd ht (fun c0 => ?_) (fun c0 => ?_)
    · have k2 := (k H locs ls cells slots h1 h2 h3 h4 h5 h6)
      rw [show ∀ z : Bool, z = true → (bif z then t else pc + 3) = t from fun z hz => by rw [hz]; rfl] at k2
      · exact k2
      · exact decide_eq_true c0
    · have k2 := (k H locs ls cells slots h1 h2 h3 h4 h5 h6)
      rw [show ∀ z : Bool, z = false → (bif z then t else pc + 3) = pc + 3 from fun z hz => by rw [hz]; rfl] at k2
      · exact k2
      · exact decide_eq_false c0
  · cases hf
theorem k_icmp_eq {cc : ByteArray} {own : String} {nL pc : Nat} {ini : Bool} {off : Int} {t : Nat} (hd : decode cc pc = .ok (.if_icmp .eq off, 3)) (ht : (pc : Int) + off = (t : Int)) : pm_okF cc own nL ini pc (s_icmp (fun x y => decide (x = y)) t (pc + 3)) := by
  intro p l e R s m args below meth c D aC B b Q C hR1 hR2 lv st w σ' hf k
  simp only [s_icmp] at hf
  split at hf
  · obtain rfl := Option.some.inj hf
    intro H locs ls cells slots h1 h2 h3 h4 h5 h6
    refine lv_icmp_eq C.1 C.2.1 hd ht (fun c0 => ?_) (fun c0 => ?_)
    · have k2 := (k H locs ls cells slots h1 h2 h3 h4 h5 h6)
      rw [show ∀ z : Bool, z = true → (bif z then t else pc + 3) = t from fun z hz => by rw [hz]; rfl] at k2
      · exact k2
      · exact decide_eq_true c0
    · have k2 := (k H locs ls cells slots h1 h2 h3 h4 h5 h6)
      rw [show ∀ z : Bool, z = false → (bif z then t else pc + 3) = pc + 3 from fun z hz => by rw [hz]; rfl] at k2
      · exact k2
      · exact decide_eq_false c0
  · cases hf
theorem k_if_ne {cc : ByteArray} {own : String} {nL pc : Nat} {ini : Bool} {off : Int} {t : Nat} (hd : decode cc pc = .ok (.ifCond .ne off, 3)) (ht : (pc : Int) + off = (t : Int)) : pm_okF cc own nL ini pc (s_if (fun x => decide (¬ x = 0)) t (pc + 3)) := by
  intro p l e R s m args below meth c D aC B b Q C hR1 hR2 lv st w σ' hf k
  simp only [s_if] at hf
  split at hf
  · obtain rfl := Option.some.inj hf
    intro H locs ls cells slots h1 h2 h3 h4 h5 h6
    refine lv_if_ne C.1 C.2.1 hd ht (fun c0 => ?_) (fun c0 => ?_)
    · have k2 := (k H locs ls cells slots h1 h2 h3 h4 h5 h6)
      rw [show ∀ z : Bool, z = true → (bif z then t else pc + 3) = t from fun z hz => by rw [hz]; rfl] at k2
      · exact k2
      · exact decide_eq_true c0
    · have k2 := (k H locs ls cells slots h1 h2 h3 h4 h5 h6)
      rw [show ∀ z : Bool, z = false → (bif z then t else pc + 3) = pc + 3 from fun z hz => by rw [hz]; rfl] at k2
      · exact k2
      · exact decide_eq_false (fun h => h c0)
  · cases hf
theorem k_icmp_ne {cc : ByteArray} {own : String} {nL pc : Nat} {ini : Bool} {off : Int} {t : Nat} (hd : decode cc pc = .ok (.if_icmp .ne off, 3)) (ht : (pc : Int) + off = (t : Int)) : pm_okF cc own nL ini pc (s_icmp (fun x y => decide (¬ x = y)) t (pc + 3)) := by
  intro p l e R s m args below meth c D aC B b Q C hR1 hR2 lv st w σ' hf k
  simp only [s_icmp] at hf
  split at hf
  · obtain rfl := Option.some.inj hf
    intro H locs ls cells slots h1 h2 h3 h4 h5 h6
    refine lv_icmp_ne C.1 C.2.1 hd ht (fun c0 => ?_) (fun c0 => ?_)
    · have k2 := (k H locs ls cells slots h1 h2 h3 h4 h5 h6)
      rw [show ∀ z : Bool, z = true → (bif z then t else pc + 3) = t from fun z hz => by rw [hz]; rfl] at k2
      · exact k2
      · exact decide_eq_true c0
    · have k2 := (k H locs ls cells slots h1 h2 h3 h4 h5 h6)
      rw [show ∀ z : Bool, z = false → (bif z then t else pc + 3) = pc + 3 from fun z hz => by rw [hz]; rfl] at k2
      · exact k2
      · exact decide_eq_false (fun h => h c0)
  · cases hf
end
