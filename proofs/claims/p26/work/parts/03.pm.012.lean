section
noncomputable def s_aast (t ci n : Nat) : pm_S → Option pm_S := fun σ => match σ.2.2.1 with
  | .ref v :: .int i :: .ref a :: st => match σ.2.2.2.1[a]? with
    | some (.inl (t', len, .inr (.inr (.inr (.inr f))))) => match σ.2.2.2.1[v]? with
      | some (.inr (cj, _)) => bif Nat.beq t' t && (Nat.beq cj ci && pm_ix i len) then some (n, σ.2.1, st, σ.2.2.2.1.set a (.inl (t', len, .inr (.inr (.inr (.inr (va_up f i.toNatClampNeg (some v))))))), σ.2.2.2.2) else none
      | _ => none
    | _ => none
  | _ => none
theorem k_aast {cc : ByteArray} {own : String} {nL pc : Nat} {ini : Bool} {t ci : Nat} {r : vw_C} (ht : ∀ aC : Nat → ClassId, (pm_tys aC)[t]? = some (aC t, .object r.1)) (hc : vwCl[ci]? = some r) (hd : decode cc pc = .ok (.aastore, 1)) : pm_okF cc own nL ini pc (s_aast t ci (pc + 1)) := by
  intro p l e R s m args below meth c D aC B b Q Cx hR1 hR2 lv st w σ' hf kk
  simp only [s_aast] at hf
  split at hf
  · rename_i v i a st
    split at hf
    · rename_i t' len f he
      split at hf
      · rename_i cj vs hv
        cases hb : (Nat.beq t' t && (Nat.beq cj ci && pm_ix i len)) with
        | false => rw [hb] at hf; cases hf
        | true =>
          rw [hb] at hf
          obtain ⟨hb1, hb2⟩ := Bool.and_eq_true_iff.mp hb
          obtain ⟨hb2, hb3⟩ := Bool.and_eq_true_iff.mp hb2
          obtain rfl := Nat.eq_of_beq_eq_true hb1
          obtain rfl := Nat.eq_of_beq_eq_true hb2
          obtain rfl := Option.some.inj hf
          intro H locs ls cells slots h1 h2 h3 h4 h5 h6
          have hin := pm_ix_in hb3
          have hlt : i.toNatClampNeg < len := Nat.not_le.mp fun q => hin (Or.inr q)
          have h0 : ¬ i < 0 := fun q => hin (Or.inl q)
          have hat : H[B + a]? = some (vp_cell (aC t') (len, .inr (.inr (.inr (.inr (fun i => (f i).map (fun k => B + k))))))) := h3 a _ (pm_w_at he)
          obtain ⟨r', hr', cellV, g1, g2, g3, -⟩ := h3 v _ (pm_w_at hv)
          have hcls := (Cx.2.2.2.2.2.1.1.1 cj r hc).2
          obtain ⟨kA, comp, k1, k2, k3, -⟩ := (Cx.2.2.2.2.2.1.1.2 t' _ (ht aC)).2
          have hcomp : comp = D.1 cj := Option.some.inj (k3.symm.trans hcls.1)
          subst hcomp
          have hcls2 := hcls
          obtain ⟨kC, hkC, -⟩ := hcls.2
          refine W.aast Cx.1 Cx.2.1 hat (fun q h => by cases h) (fun h => by cases h) k1 k2 rfl hkC ⟨h0, by show _ < (arrV _ _ _).slots.size; rw [arrV_size]; exact hlt⟩ g1 (fun q h => by rw [g3] at h; cases h) (by rw [g2]; exact hkC) (by rw [g2]; exact va_assign hcls2) rfl rfl hd fun H1 e1 z1 o1 => ?_
          refine kk H1 _ ls cells slots h1 (z1.trans (by rw [h2]; simp)) (pm_stored h3 he o1 ?_) (h4.put z1 o1 (Nat.le_add_right B a)) h5 h6
          show H1[B + a]? = some (vp_cell (aC t') (len, .inr (.inr (.inr (.inr (fun j => (va_up f i.toNatClampNeg (some v) j).map (fun k => B + k)))))))
          rw [e1, vp_cell_q, vp_cell_q, arrV_store]
          congr 2
          funext q
          by_cases hq : q = i.toNatClampNeg
          · subst hq
            simp [updV, va_up, va_rf]
          · simp [updV, va_up, hq]
      · cases hf
    · cases hf
  · cases hf
noncomputable def s_new (ci : Nat) (fs : List Value) (nf n : Nat) : pm_S → Option pm_S := fun σ => bif Nat.ble 1 σ.2.2.2.2.1 && Nat.ble nf σ.2.2.2.2.2 then some (n, σ.2.1, .ref σ.2.2.2.1.length :: σ.2.2.1, σ.2.2.2.1 ++ [.inr (ci, fs)], σ.2.2.2.2.1 - 1, σ.2.2.2.2.2 - nf) else none
theorem k_new {cc : ByteArray} {own : String} {nL pc : Nat} {ini : Bool} {ci index N : Nat} {C : String} {T : u_T} {ty0 : Nat → FieldType} {fs : List Value} (hc : vwCl[ci]? = some (C, T, N)) (hin : ∀ w ∈ u_ws C T N, w ∈ pm_T) (hty : ∀ k, k < N → parseFieldDescriptor (T k).2.2.1 = some (ty0 k)) (hfs : ∀ j, j < N → defaultValue (ty0 j) = vp_V fs j) (hfv : ∀ (B : Nat) (b : Nat → Option Nat), fs.map (pm_v B b) = fs) (hw1 : Cond.classLink own index C ∈ pm_T) (hw2 : Cond.instantiable C N ∈ pm_T) (hw3 : Cond.initialized C ∈ pm_T) (hd : decode cc pc = .ok (.new index, 3)) : pm_okF cc own nL ini pc (s_new ci fs N (pc + 3)) := by
  intro p l e R s m args below meth c D aC B b Q Cx hR1 hR2 lv st w σ' hf kk
  simp only [s_new] at hf
  cases hb : (Nat.ble 1 w.2.1 && Nat.ble N w.2.2) with
  | false => rw [hb] at hf; cases hf
  | true =>
    rw [hb] at hf
    obtain ⟨hb1, hb2⟩ := Bool.and_eq_true_iff.mp hb
    have hb1 := Nat.le_of_ble_eq_true hb1
    have hb2 := Nat.le_of_ble_eq_true hb2
    obtain rfl := Option.some.inj hf
    intro H locs ls cells slots h1 h2 h3 h4 h5 h6
    simp only at h2 h3 h5 h6
    have hKn := Cx.2.2.2.2.2.1.1.1 ci _ hc
    refine W.newcK Cx.1 Cx.2.1 Cx.2.2.2.1 (Cx.2.2.2.2.1 _ hw1) (Cx.2.2.2.2.1 _ hw2) (Cx.2.2.2.2.1 _ hw3) rfl hd (by omega) (by omega) hKn.2.1 rfl fun H1 kC hkC e1 z1 o1 => ?_
    have k2 := kk H1 locs ls (cells + 1) (slots + N) h1 (by simp only [List.length_append, List.length_cons, List.length_nil]; omega) (pm_pushed h3 h2 o1 ⟨_, hc, by
      show t_OB _ _ _ _ _ (vp_V (fs.map (pm_v B b)))
      rw [hfv]
      exact (u_born ty0 Cx.2.2.2.2.1 hin hKn hkC e1 hty).to hfs⟩) (pm_grown h4 z1 o1) (by simp only; omega) (by simp only; omega)
    simp only [List.map_cons, pm_v, ← h2] at k2
    exact k2
noncomputable def s_newa (t : Nat) (x : (Nat → Int32) ⊕ (Nat → Int64) ⊕ (Nat → UInt32) ⊕ (Nat → UInt64) ⊕ (Nat → Option Nat)) (n : Nat) : pm_S → Option pm_S := fun σ => match σ.2.2.1 with
  | .int m :: st => bif !(decide (m < 0)) && (Nat.ble m.toNatClampNeg 10000 && (Nat.ble 1 σ.2.2.2.2.1 && Nat.ble m.toNatClampNeg σ.2.2.2.2.2)) then some (n, σ.2.1, .ref σ.2.2.2.1.length :: st, σ.2.2.2.1 ++ [.inl (t, m.toNatClampNeg, x)], σ.2.2.2.2.1 - 1, σ.2.2.2.2.2 - m.toNatClampNeg) else none
  | _ => none
theorem k_newa {cc : ByteArray} {own : String} {nL pc : Nat} {ini : Bool} {t : Nat} {at0 : ArrayType} {ty : FieldType} {x : (Nat → Int32) ⊕ (Nat → Int64) ⊕ (Nat → UInt32) ⊕ (Nat → UInt64) ⊕ (Nat → Option Nat)} (hat : newarray.typeOf at0 = ty) (ht : ∀ aC : Nat → ClassId, (pm_tys aC)[t]? = some (aC t, ty)) (hra : ∀ (U : State) (q : ClassId), va_RA U q ty → U.vm.findClass ("[" ++ ty.toString) = some q) (hbz : componentBytes ty ≤ 8) (hxe : ∀ (B : Nat) (b : Nat → Option Nat) (aC : Nat → ClassId) (m : Nat), pm_e B b aC (.inl (t, m, x)) = .inl (aC t, m, x)) (hx : ∀ (cA : ClassId) (m : Nat), vp_cell cA (m, x) = arrV cA m (fun _ => defaultValue ty)) (hw : Cond.arrayClass ty ∈ pm_T) (hd : decode cc pc = .ok (.newarray at0, 2)) : pm_okF cc own nL ini pc (s_newa t x (pc + 2)) := by
  intro p l e R s m args below meth c D aC B b Q Cx hR1 hR2 lv st w σ' hf kk
  subst hat
  simp only [s_newa] at hf
  split at hf
  · rename_i m st
    cases hb : (!(decide (m < 0)) && (Nat.ble m.toNatClampNeg 10000 && (Nat.ble 1 w.2.1 && Nat.ble m.toNatClampNeg w.2.2))) with
    | false => rw [hb] at hf; cases hf
    | true =>
      rw [hb] at hf
      obtain ⟨hb0, hb1⟩ := Bool.and_eq_true_iff.mp hb
      obtain ⟨hb1, hb2⟩ := Bool.and_eq_true_iff.mp hb1
      obtain ⟨hb2, hb3⟩ := Bool.and_eq_true_iff.mp hb2
      have hb1 := Nat.le_of_ble_eq_true hb1
      have hb2 := Nat.le_of_ble_eq_true hb2
      have hb3 := Nat.le_of_ble_eq_true hb3
      have hm : ¬ m < 0 := by simpa using hb0
      obtain rfl := Option.some.inj hf
      intro H locs ls cells slots h1 h2 h3 h4 h5 h6
      simp only at h2 h3 h5 h6
      have hby : m.toNatClampNeg * componentBytes (newarray.typeOf at0) ≤ 536870912 := Nat.le_trans (Nat.mul_le_mul hb1 hbz) (by decide)
      refine va_newaK Cx.1 Cx.2.1 (Cx.2.2.2.2.1 _ hw) rfl hd rfl hm rfl hby (by omega) (by omega) rfl fun H1 cA e1 z1 o1 hAr hNm => ?_
      have hcA : cA = aC t := Option.some.inj (hNm.symm.trans (hra _ _ (Cx.2.2.2.2.2.1.1.2 t _ (ht aC)).2))
      subst hcA
      have k2 := kk H1 locs ls (cells + 1) (slots + m.toNatClampNeg) h1 (by simp only [List.length_append, List.length_cons, List.length_nil]; omega) (pm_pushed h3 h2 o1 (by
        rw [hxe]
        show H1[H.size]? = some (vp_cell _ _)
        rw [hx]
        exact e1)) (pm_grown h4 z1 o1) (by simp only; omega) (by simp only; omega)
      simp only [List.map_cons, pm_v, ← h2] at k2
      exact k2
  · cases hf
end
