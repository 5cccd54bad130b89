section
theorem pm_nn {z : Int32} (hz : ¬ z < 0) : z.toInt = (z.toNatClampNeg : Int) := by
  have hz0 : (0 : Int) ≤ z.toInt := by
    have := Int32.not_lt.mp hz
    simpa using Int32.le_iff_toInt_le.mp this
  show z.toInt = ((z.toInt.toNat : Nat) : Int)
  omega
theorem k_copy {cc : ByteArray} {own : String} {nL pc : Nat} {ini : Bool} {index : Nat} (hw1 : Cond.methodLink own index arraycopyName ∈ pm_T) (hw2 : Cond.native arraycopyName ∈ pm_T) (hw3 : Cond.static arraycopyName ∈ pm_T) (hw4 : Cond.initialized "java/lang/System" ∈ pm_T) (hd : decode cc pc = .ok (.invokestatic index, 3)) : pm_okF cc own nL ini pc (s_copy (pc + 3)) := by
  intro p l e R s mi args below meth c D aC B b Q Cx hR1 hR2 lv st w σ' hf kk
  simp only [s_copy] at hf
  split at hf
  · rename_i m dp a1 sp a0 st
    split at hf
    · rename_i n0 f he0
      split at hf
      · rename_i n1 g he1
        cases hb : ((!(decide (sp < 0)) && (!(decide (dp < 0)) && !(decide (m < 0)))) && (Nat.ble (sp.toNatClampNeg + m.toNatClampNeg) n0 && (Nat.ble (dp.toNatClampNeg + m.toNatClampNeg) n1 && Nat.ble (pm_sz st) 8))) with
        | false => rw [hb] at hf; cases hf
        | true =>
          rw [hb] at hf
          obtain rfl := Option.some.inj hf
          obtain ⟨hb1, hb2⟩ := Bool.and_eq_true_iff.mp hb
          obtain ⟨hb2, hb3⟩ := Bool.and_eq_true_iff.mp hb2
          obtain ⟨hb3, hb4⟩ := Bool.and_eq_true_iff.mp hb3
          have g4 := Nat.le_of_ble_eq_true hb2
          have g5 := Nat.le_of_ble_eq_true hb3
          have g6 := Nat.le_of_ble_eq_true hb4
          have g123 : ¬ sp < 0 ∧ ¬ dp < 0 ∧ ¬ m < 0 := by simpa using hb1
          obtain ⟨g1, g2, g3⟩ := g123
          intro H locs ls cells slots h1 h2 h3 h4 h5 h6
          intro T hT X
          have hK := Cx.2.2.2.2.2.1.1
          have hc0 : H[B + a0]? = some (vp_cell (aC 3) (n0, .inr (.inl f))) := h3 a0 _ (pm_w_at he0)
          have hc1 : H[B + a1]? = some (vp_cell (aC 3) (n1, .inr (.inl g))) := h3 a1 _ (pm_w_at he1)
          obtain ⟨-, k0, hk0, cm0, hkk0⟩ := (hK.2 3 _ rfl).1 n0 (fun j => .long (f j))
          obtain ⟨-, k1, hk1, cm1, hkk1⟩ := (hK.2 3 _ rfl).1 n1 (fun j => .long (g j))
          obtain ⟨vm', X', step⟩ := X.arraycopy Cx.1 Cx.2.2.2.1 (Cx.2.2.2.2.1 _ hw1) (Cx.2.2.2.2.1 _ hw2) (Cx.2.2.2.2.1 _ hw3) (Cx.2.2.2.2.1 _ hw4) (src := B + a0) (dst := B + a1) (cs := vp_cell (aC 3) (n0, .inr (.inl f))) (cd := vp_cell (aC 3) (n1, .inr (.inl g))) (srcPos := sp) (destPos := dp) (n := m) (by rw [hT]; exact hc0) (by rw [hT]; exact hc1)
            (fun _ h => by cases h) (fun _ h => by cases h) (fun h => by cases h) (fun h => by cases h) hk0 hk1 hkk0 hkk1 (by simp [refKind]) g1 g2 g3
            (by rw [pm_nn g1, pm_nn g3]; show ¬ _ > ((arrV (aC 3) n0 (fun j => .long (f j))).slots.size : Int); rw [arrV_size]; omega)
            (by rw [pm_nn g2, pm_nn g3]; show ¬ _ > ((arrV (aC 3) n1 (fun j => .long (g j))).slots.size : Int); rw [arrV_size]; omega)
            (fun vm₁ _ i hi => by
              have e : (vp_cell (aC 3) (n0, .inr (.inl f))).slots.getD (sp.toNatClampNeg + i) .null = .long (f (sp.toNatClampNeg + i)) := by
                show (arrV (aC 3) n0 (fun j => .long (f j))).slots.getD _ _ = _
                rw [Array.getD_eq_getD_getElem?, arrV_read _ _ (by omega)]
                rfl
              refine ⟨?_, ?_⟩
              · rw [e]; rfl
              · rw [e]; exact trivial)
            (g := F0 mi pc ls (.int m :: .int dp :: .ref (B + a1) :: .int sp :: .ref (B + a0) :: st.map (pm_v B b))) rfl (by rw [Cx.2.2.1]; exact h1.1) (rest := st.map (pm_v B b)) rfl (by rw [Cx.2.1]; exact hd) hR1 (by
              have z := pm_sz_v B b st
              have y : nativeFrameWords "java/lang/System" "arraycopy" 5 + 11 ≤ 92 := by decide
              show 2 * 0 + _ + _ ≤ _
              omega)
          have e1 : copied (vp_cell (aC 3) (n0, .inr (.inl f))) (vp_cell (aC 3) (n1, .inr (.inl g))) sp dp m = vp_cell (aC 3) (n1, .inr (.inl (va_cpy f g sp.toNatClampNeg dp.toNatClampNeg m.toNatClampNeg))) := va_copied (fun z => .long z) (aC 3) (aC 3) f g g4
          rw [e1] at X' step
          have hl : B + a1 < H.size := (Array.getElem?_eq_some_iff.mp hc1).1
          have hheap : ((T.setVm vm').setCell (B + a1) (vp_cell (aC 3) (n1, .inr (.inl (va_cpy f g sp.toNatClampNeg dp.toNatClampNeg m.toNatClampNeg))))).heap = H.setIfInBounds (B + a1) (vp_cell (aC 3) (n1, .inr (.inl (va_cpy f g sp.toNatClampNeg dp.toNatClampNeg m.toNatClampNeg)))) := by rw [← hT]; rfl
          have oq : ∀ q : Nat, q ≠ B + a1 → (H.setIfInBounds (B + a1) (vp_cell (aC 3) (n1, .inr (.inl (va_cpy f g sp.toNatClampNeg dp.toNatClampNeg m.toNatClampNeg)))))[q]? = H[q]? := fun q hq => by simp [Array.getElem?_setIfInBounds, Ne.symm hq]
          obtain ⟨t, q1, q2⟩ := kk _ _ ls cells slots h1 (by simp only [Array.size_setIfInBounds, List.length_set]; exact h2) (pm_stored h3 he1 oq (show (H.setIfInBounds (B + a1) _)[B + a1]? = some _ by simp [Array.getElem?_setIfInBounds, hl])) ⟨by simp; exact h4.1, fun q z1 z2 => by
              rw [oq q (fun e => z2 (by rw [e]; exact Nat.le_add_right B a1))]
              exact h4.2.1 q z1 z2, fun q hq => by
              rcases List.mem_append.mp hq with h | h
              · exact h4.2.2 q h
              · obtain ⟨z, -, hz⟩ := List.mem_map.mp h
                rw [← hz]
                exact Nat.le_add_right B a1⟩ h5 h6 _ hheap X'
          exact ⟨t, step t q1, q2⟩
      · cases hf
    · cases hf
  · cases hf
end
section
/-! an instruction by its bytes (written by rowdec.py) -/
noncomputable def bk1 (c : ByteArray) (p o : Nat) : Bool := match c.data.toList.drop p with
  | [] => false
  | x :: _ => Nat.beq x.toNat o
noncomputable def bk2 (c : ByteArray) (p o n : Nat) : Bool := match c.data.toList.drop p with
  | x :: y :: _ => Nat.beq x.toNat o && Nat.beq y.toNat n
  | _ => false
noncomputable def bk3 (c : ByteArray) (p o n : Nat) : Bool := match c.data.toList.drop p with
  | x :: y :: z :: _ => Nat.beq x.toNat o && Nat.beq (y.toNat * 256 + z.toNat) n
  | _ => false
noncomputable def bkS (c : ByteArray) (p o : Nat) (n : Int) : Bool := match c.data.toList.drop p with
  | x :: y :: z :: _ => Nat.beq x.toNat o && decide (Reader.signed 16 (y.toNat * 256 + z.toNat) = n)
  | _ => false
end
