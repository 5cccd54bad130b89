section
theorem k_icmp_le {cc : ByteArray} {own : String} {nL pc : Nat} {ini : Bool} {off : Int} {t : Nat} (hd : decode cc pc = .ok (.if_icmp .le off, 3)) (ht : (pc : Int) + off = (t : Int)) : pm_okF cc own nL ini pc (s_icmp (fun x y => decide (x ≤ y)) t (pc + 3)) := by
  intro p l e R s m args below meth c D aC B b Q C hR1 hR2 lv st w σ' hf k
  simp only [s_icmp] at hf
  split at hf
  · obtain rfl := Option.some.inj hf
    intro H locs ls cells slots h1 h2 h3 h4 h5 h6
    refine lv_icmp_le C.1 C.2.1 hd ht (fun c0 => ?_) (fun c0 => ?_)
    · have k2 := (k H locs ls cells slots h1 h2 h3 h4 h5 h6)
      rw [show ∀ z : Bool, z = true → (bif z then t else pc + 3) = t from fun z hz => by rw [hz]; rfl] at k2
      · exact k2
      · exact decide_eq_true c0
    · have k2 := (k H locs ls cells slots h1 h2 h3 h4 h5 h6)
      rw [show ∀ z : Bool, z = false → (bif z then t else pc + 3) = pc + 3 from fun z hz => by rw [hz]; rfl] at k2
      · exact k2
      · exact decide_eq_false c0
  · cases hf
noncomputable def s_dup (n : Nat) : pm_S → Option pm_S := fun σ => match σ.2.2.1 with
  | x :: st => bif Nat.beq x.category 1 then some (n, σ.2.1, x :: x :: st, σ.2.2.2) else none
  | _ => none
theorem k_dup {cc : ByteArray} {own : String} {nL pc : Nat} {ini : Bool} (hd : decode cc pc = .ok (.dup, 1)) : pm_okF cc own nL ini pc (s_dup (pc + 1)) := by
  intro p l e R s m args below meth c D aC B b Q C hR1 hR2 lv st w σ' hf k
  simp only [s_dup] at hf
  split at hf
  · rename_i x st
    cases hb : Nat.beq x.category 1 with
    | false => rw [hb] at hf; cases hf
    | true =>
      rw [hb] at hf
      obtain rfl := Option.some.inj hf
      intro H locs ls cells slots h1 h2 h3 h4 h5 h6
      exact lv_dup C.1 C.2.1 hd (by rw [pm_v_cat]; exact Nat.eq_of_beq_eq_true hb) (k H locs ls cells slots h1 h2 h3 h4 h5 h6)
  · cases hf
noncomputable def s_pop (n : Nat) : pm_S → Option pm_S := fun σ => match σ.2.2.1 with
  | x :: st => bif Nat.beq x.category 1 then some (n, σ.2.1, st, σ.2.2.2) else none
  | _ => none
theorem k_pop {cc : ByteArray} {own : String} {nL pc : Nat} {ini : Bool} (hd : decode cc pc = .ok (.pop, 1)) : pm_okF cc own nL ini pc (s_pop (pc + 1)) := by
  intro p l e R s m args below meth c D aC B b Q C hR1 hR2 lv st w σ' hf k
  simp only [s_pop] at hf
  split at hf
  · rename_i x st
    cases hb : Nat.beq x.category 1 with
    | false => rw [hb] at hf; cases hf
    | true =>
      rw [hb] at hf
      obtain rfl := Option.some.inj hf
      intro H locs ls cells slots h1 h2 h3 h4 h5 h6
      exact lv_pop C.1 C.2.1 hd (by rw [pm_v_cat]; exact Nat.eq_of_beq_eq_true hb) (k H locs ls cells slots h1 h2 h3 h4 h5 h6)
  · cases hf
noncomputable def s_dup2 (n : Nat) : pm_S → Option pm_S := fun σ => match σ.2.2.1 with
  | x :: y :: st => bif Nat.beq x.category 1 && Nat.beq y.category 1 then some (n, σ.2.1, x :: y :: x :: y :: st, σ.2.2.2) else none
  | _ => none
theorem k_dup2 {cc : ByteArray} {own : String} {nL pc : Nat} {ini : Bool} (hd : decode cc pc = .ok (.dup2, 1)) : pm_okF cc own nL ini pc (s_dup2 (pc + 1)) := by
  intro p l e R s m args below meth c D aC B b Q C hR1 hR2 lv st w σ' hf k
  simp only [s_dup2] at hf
  split at hf
  · rename_i x y st
    cases hb : (Nat.beq x.category 1 && Nat.beq y.category 1) with
    | false => rw [hb] at hf; cases hf
    | true =>
      rw [hb] at hf
      obtain ⟨hx, hy⟩ := Bool.and_eq_true_iff.mp hb
      obtain rfl := Option.some.inj hf
      intro H locs ls cells slots h1 h2 h3 h4 h5 h6
      exact lv_dup2_11 C.1 C.2.1 hd (by rw [pm_v_cat]; exact Nat.eq_of_beq_eq_true hx) (by rw [pm_v_cat]; exact Nat.eq_of_beq_eq_true hy) (k H locs ls cells slots h1 h2 h3 h4 h5 h6)
  · cases hf
end
section
/-! THE PURE MACHINE, part 3: fields, arrays, new cells (written by gen_heap.py) -/
noncomputable def pm_fit (ty : FieldType) (v : Value) : Bool := match ty, v with
  | .int, .int _ => true
  | .long, .long _ => true
  | .boolean, .int x => x == 0 || x == 1
  | .object _, .ref _ => true
  | .object _, .null => true
  | .array _, .ref _ => true
  | .array _, .null => true
  | _, _ => false
theorem pm_fit_ok {ty : FieldType} {v : Value} (B : Nat) (b : Nat → Option Nat) (h : pm_fit ty v = true) : narrow ty (pm_v B b v) = pm_v B b v ∧ fits ty (pm_v B b v) = true := by
  cases ty <;> cases v <;> first | (simp [pm_fit] at h; done) | (exact ⟨rfl, rfl⟩) | skip
  rename_i x
  simp only [pm_fit, Bool.or_eq_true, beq_iff_eq] at h
  rcases h with rfl | rfl <;> exact ⟨rfl, rfl⟩
/-- one cell is another, the rest as it was -/
theorem pm_stored {D : va_G} {aC : Nat → ClassId} {B k : Nat} {b : Nat → Option Nat} {h : pm_H} {x y : pm_E} {H H1 : Heap} (hP : va_P D vwCl (pm_w B b aC h) H) (hk : h[k]? = some x) (oq : ∀ q : Nat, q ≠ B + k → H1[q]? = H[q]?) (hat : va_at D vwCl (B + k, pm_e B b aC y) H1) : va_P D vwCl (pm_w B b aC (h.set k y)) H1 := by
  rw [← pm_w_set]
  exact hP.set (pm_w_D B b aC h) (pm_w_at hk) hat oq
/-- the cell behind the last is new -/
theorem pm_pushed {D : va_G} {aC : Nat → ClassId} {B : Nat} {b : Nat → Option Nat} {h : pm_H} {y : pm_E} {H H1 : Heap} (hP : va_P D vwCl (pm_w B b aC h) H) (hz : H.size = B + h.length) (oq : ∀ q : Nat, q < H.size → H1[q]? = H[q]?) (hat : va_at D vwCl (H.size, pm_e B b aC y) H1) : va_P D vwCl (pm_w B b aC (h ++ [y])) H1 := by
  rw [← pm_w_app]
  refine (hP.kept fun k q hq => oq q.1 ((hP k q hq).lt)).app (fun k q hq => ?_)
  have hl : k < 1 := (List.getElem?_eq_some_iff.mp hq).1
  rw [show k = 0 by omega] at hq
  cases hq
  rw [← hz]
  exact hat
theorem pm_grown {A : Nat → Prop} {H0 H H1 : Heap} {locs : List Loc} (hS : va_S A H0 H locs) (z : H1.size = H.size + 1) (oq : ∀ q : Nat, q < H.size → H1[q]? = H[q]?) : va_S A H0 H1 locs :=
  ⟨Nat.le_trans hS.1 (by omega), fun x h1 h2 => (oq x (Nat.lt_of_lt_of_le h1 hS.1)).trans (hS.2.1 x h1 h2), hS.2.2⟩
noncomputable def s_getf (ci k n : Nat) : pm_S → Option pm_S := fun σ => match σ.2.2.1 with
  | .ref a :: st => match σ.2.2.2.1[a]? with
    | some (.inr (cj, fs)) => bif Nat.beq cj ci then (match fs[k]? with | some v => some (n, σ.2.1, v :: st, σ.2.2.2) | none => none) else none
    | _ => none
  | _ => none
noncomputable def s_putf (ci k : Nat) (ty : FieldType) (n : Nat) : pm_S → Option pm_S := fun σ => match σ.2.2.1 with
  | v :: .ref a :: st => match σ.2.2.2.1[a]? with
    | some (.inr (cj, fs)) => bif Nat.beq cj ci && (pm_fit ty v && Nat.blt k fs.length) then some (n, σ.2.1, st, σ.2.2.2.1.set a (.inr (cj, fs.set k v)), σ.2.2.2.2) else none
    | _ => none
  | _ => none
end
