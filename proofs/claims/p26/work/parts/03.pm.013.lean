section
noncomputable def s_newq (t n : Nat) : pm_S → Option pm_S := fun σ => match σ.2.2.1 with
  | .int m :: st => bif !(decide (m < 0)) && (Nat.ble m.toNatClampNeg 10000 && (Nat.ble 1 σ.2.2.2.2.1 && Nat.ble m.toNatClampNeg σ.2.2.2.2.2)) then some (n, σ.2.1, .ref σ.2.2.2.1.length :: st, σ.2.2.2.1 ++ [.inl (t, m.toNatClampNeg, .inr (.inr (.inr (.inr (fun _ => none)))))], σ.2.2.2.2.1 - 1, σ.2.2.2.2.2 - m.toNatClampNeg) else none
  | _ => none
theorem k_newq {cc : ByteArray} {own : String} {nL pc : Nat} {ini : Bool} {t index : Nat} {C : String} (ht : ∀ aC : Nat → ClassId, (pm_tys aC)[t]? = some (aC t, .object C)) (hao : ∀ (D : va_G) (aC : Nat → ClassId) (B : Nat) (b : Nat → Option Nat) (U : State), pm_K D aC B b U → va_AO C U) (hw : Cond.classLink own index C ∈ pm_T) (hd : decode cc pc = .ok (.anewarray index, 3)) : pm_okF cc own nL ini pc (s_newq t (pc + 3)) := by
  intro p l e R s m args below meth c D aC B b Q Cx hR1 hR2 lv st w σ' hf kk
  simp only [s_newq] at hf
  split at hf
  · rename_i m st
    cases hb : (!(decide (m < 0)) && (Nat.ble m.toNatClampNeg 10000 && (Nat.ble 1 w.2.1 && Nat.ble m.toNatClampNeg w.2.2))) with
    | false => rw [hb] at hf; cases hf
    | true =>
      rw [hb] at hf
      obtain ⟨hb0, hb1⟩ := Bool.and_eq_true_iff.mp hb
      obtain ⟨hb1, hb2⟩ := Bool.and_eq_true_iff.mp hb1
      obtain ⟨hb2, hb3⟩ := Bool.and_eq_true_iff.mp hb2
      have hb1 := Nat.le_of_ble_eq_true hb1
      have hb2 := Nat.le_of_ble_eq_true hb2
      have hb3 := Nat.le_of_ble_eq_true hb3
      have hm : ¬ m < 0 := by simpa using hb0
      obtain rfl := Option.some.inj hf
      intro H locs ls cells slots h1 h2 h3 h4 h5 h6
      simp only at h2 h3 h5 h6
      refine W.anew Cx.1 Cx.2.1 Cx.2.2.2.1 (Cx.2.2.2.2.1 _ hw) (va_AO.use (hao D aC B b s Cx.2.2.2.2.2.1)) rfl hd rfl hm (by omega) (by omega) (by omega) fun cA kA comp f1 f2 f3 f4 => ?_
      generalize hH1 : H.push ({ cls := cA, slots := Array.replicate m.toNatClampNeg .null, vm := .none } : Cell) = H1
      have z1 : H1.size = H.size + 1 := by rw [← hH1, Array.size_push]
      have e1 : H1[H.size]? = some (arrV cA m.toNatClampNeg (fun _ => .null)) := by rw [← hH1, Array.getElem?_push_size, ← arrV_new]
      have o1 : ∀ q : Nat, q < H.size → H1[q]? = H[q]? := fun q hq => by rw [← hH1, Array.getElem?_push, if_neg (Nat.ne_of_lt hq)]
      obtain ⟨kA2, comp2, -, -, -, g4⟩ := (Cx.2.2.2.2.2.1.1.2 t _ (ht aC)).2
      have hcA : cA = aC t := Option.some.inj (f1.symm.trans g4)
      subst hcA
      have k2 := kk H1 locs ls (cells + 1) (slots + m.toNatClampNeg) h1 (by simp only [List.length_append, List.length_cons, List.length_nil]; omega) (pm_pushed h3 h2 o1 (by
        show H1[H.size]? = some (vp_cell _ _)
        rw [vp_cell_q]
        exact e1)) (pm_grown h4 z1 o1) (by simp only; omega) (by simp only; omega)
      simp only [List.map_cons, pm_v, ← h2] at k2
      exact k2
  · cases hf
noncomputable def pm_sz (st : List Value) : Nat := (st.map fun v => v.category).sum
theorem pm_sz_v (B : Nat) (b : Nat → Option Nat) (st : List Value) : ((st.map (pm_v B b)).map fun v => v.category).sum = pm_sz st := by
  unfold pm_sz
  rw [List.map_map]
  congr 1
  exact List.map_congr_left fun v _ => pm_v_cat B b v
noncomputable def s_obj (n : Nat) : pm_S → Option pm_S := fun σ => match σ.2.2.1 with
  | .ref _ :: st => bif Nat.ble (pm_sz st) 8 then some (n, σ.2.1, st, σ.2.2.2) else none
  | _ => none
theorem k_obj {cc : ByteArray} {own : String} {nL pc : Nat} {ini : Bool} {index : Nat} (hw1 : Cond.methodLink own index Lib.objectInit ∈ pm_T) (hw2 : Cond.instanceMethod Lib.objectInit ∈ pm_T) (hw3 : Cond.code Lib.objectInit ⟨#[0xb1]⟩ 1 none ∈ pm_T) (hd : decode cc pc = .ok (.invokespecial index, 3)) : pm_okF cc own nL ini pc (s_obj (pc + 3)) := by
  intro p l e R s m args below meth c D aC B b Q Cx hR1 hR2 lv st w σ' hf kk
  simp only [s_obj] at hf
  split at hf
  · rename_i a st
    cases hb : Nat.ble (pm_sz st) 8 with
    | false => rw [hb] at hf; cases hf
    | true =>
      rw [hb] at hf
      have hb := Nat.le_of_ble_eq_true hb
      obtain rfl := Option.some.inj hf
      intro H locs ls cells slots h1 h2 h3 h4 h5 h6
      exact W.objInit Cx.1 Cx.2.1 Cx.2.2.2.1 (Cx.2.2.2.2.1 _ hw1) (Cx.2.2.2.2.1 _ hw2) (Cx.2.2.2.2.1 _ hw3) rfl (by rw [Cx.2.2.1]; exact h1.1) rfl hd hR1 (by
        rw [pm_sz_v]
        show 2 * 0 + _ + 12 ≤ _
        omega) (kk H locs ls cells slots h1 h2 h3 h4 h5 h6)
  · cases hf
end
section
/-! THE PURE MACHINE, part 4: calls, returns, runs; methods by their runs -/
noncomputable def pm_at {α : Type} : List (Nat × α) → Nat → Option α
  | [], _ => none
  | q :: l, i => bif Nat.beq q.1 i then some q.2 else pm_at l i
theorem pm_at_in {α : Type} {i : Nat} {v : α} : ∀ {l : List (Nat × α)}, pm_at l i = some v → (i, v) ∈ l
  | [], h => by cases h
  | q :: l, h => by
    unfold pm_at at h
    cases hb : Nat.beq q.1 i with
    | true =>
      rw [hb] at h
      have h1 : q.1 = i := Nat.eq_of_beq_eq_true hb
      have h2 : q.2 = v := Option.some.inj h
      subst h1; subst h2
      exact List.mem_cons_self
    | false =>
      rw [hb] at h
      exact List.mem_cons_of_mem _ (pm_at_in h)
/-- what a call answers and leaves: method, heap, arguments, heap behind it, answer -/
noncomputable abbrev pm_Call : Type := Nat → pm_H → List Value → pm_H → Option Value → Prop
/-- what is tested ahead of a call -/
noncomputable def pm_chk (k : Nat) (ci : Option Nat) (mc ms : Nat) (st : List Value) (w : pm_H × Nat × Nat) : Prop :=
  k ≤ st.length ∧ (∀ q : Nat, ci = some q → (q < 100 → ∃ (a : Nat) (fs : List Value) (as : List Value), (st.take k).reverse = .ref a :: as ∧ w.1[a]? = some (.inr (q, fs))) ∧ (100 ≤ q → ∃ (i : Nat) (as : List Value), i < 8 ∧ (st.take k).reverse = .retAddr (4 + i) :: as)) ∧ pm_sz (st.drop k) ≤ 8 ∧ mc ≤ w.2.1 ∧ ms ≤ w.2.2
noncomputable def pm_ret (kd : Nat) (st : List Value) (h : pm_H) (o : pm_H × Option Value) : Prop := match kd with
  | 0 => st = [] ∧ o = (h, none)
  | 1 => ∃ v : Int32, st = [.int v] ∧ o = (h, some (.int v))
  | 2 => ∃ v : Int32, st = [.int v] ∧ (v = 0 ∨ v = 1) ∧ o = (h, some (.int v))
  | 3 => ∃ v : Int64, st = [.long v] ∧ o = (h, some (.long v))
  | 4 => ∃ v : Int32, st = [.int v] ∧ narrow .byte (.int v) = .int v ∧ o = (h, some (.int v))
  | _ => ∃ v : Int32, st = [.int v] ∧ narrow .char (.int v) = .int v ∧ o = (h, some (.int v))
end
