section
theorem k_getf {cc : ByteArray} {own : String} {nL pc : Nat} {ini : Bool} {ci k index N : Nat} {C : String} {T : u_T} (hc : vwCl[ci]? = some (C, T, N)) (hin : ∀ w ∈ u_ws C T N, w ∈ pm_T) (hk : k < N) (hw : Cond.fieldLink own index (T k).1 (T k).2.1 (T k).2.2.1 ∈ pm_T) (hd : decode cc pc = .ok (.getfield index, 3)) : pm_okF cc own nL ini pc (s_getf ci k (pc + 3)) := by
  intro p l e R s m args below meth c D aC B b Q Cx hR1 hR2 lv st w σ' hf kk
  simp only [s_getf] at hf
  split at hf
  · rename_i a st
    split at hf
    · rename_i cj fs he
      cases hb : Nat.beq cj ci with
      | false => rw [hb] at hf; cases hf
      | true =>
        rw [hb] at hf
        simp only [cond_true] at hf
        obtain rfl := Nat.eq_of_beq_eq_true hb
        split at hf
        · rename_i v hv
          obtain rfl := Option.some.inj hf
          intro H locs ls cells slots h1 h2 h3 h4 h5 h6
          exact va_get (v := pm_v B b v) (fs := fs.map (pm_v B b)) Cx.1 Cx.2.1 Cx.2.2.2.2.1 hin Cx.2.2.2.1 Cx.2.2.2.2.2.1.1 h3 a (pm_w_at he) hc k hk (Cx.2.2.2.2.1 _ hw) (fun _ h9 => h9) (by rw [List.getElem?_map, hv]; rfl) hd (kk H locs ls cells slots h1 h2 h3 h4 h5 h6)
        · cases hf
    · cases hf
  · cases hf
theorem k_putf {cc : ByteArray} {own : String} {nL pc : Nat} {ini : Bool} {ci k index N : Nat} {C : String} {T : u_T} {ty0 : Nat → FieldType} {ty : FieldType} (hc : vwCl[ci]? = some (C, T, N)) (hin : ∀ w ∈ u_ws C T N, w ∈ pm_T) (hty : ∀ k, k < N → parseFieldDescriptor (T k).2.2.1 = some (ty0 k)) (hnm : ∀ a, a < N → ∀ b, b < N → a ≠ b → (T a).2.1 ≠ (T b).2.1) (hk : k < N) (hte : ty0 k = ty) (hfin : (T k).2.2.2 = false) (hw : Cond.fieldLink own index (T k).1 (T k).2.1 (T k).2.2.1 ∈ pm_T) (hd : decode cc pc = .ok (.putfield index, 3)) : pm_okF cc own nL ini pc (s_putf ci k ty (pc + 3)) := by
  intro p l e R s m args below meth c D aC B b Q Cx hR1 hR2 lv st w σ' hf kk
  simp only [s_putf] at hf
  split at hf
  · rename_i v a st
    split at hf
    · rename_i cj fs he
      cases hb : (Nat.beq cj ci && (pm_fit ty v && Nat.blt k fs.length)) with
      | false => rw [hb] at hf; cases hf
      | true =>
        rw [hb] at hf
        obtain ⟨hb1, hb2⟩ := Bool.and_eq_true_iff.mp hb
        obtain ⟨hb2, hb3⟩ := Bool.and_eq_true_iff.mp hb2
        obtain rfl := Nat.eq_of_beq_eq_true hb1
        obtain rfl := Option.some.inj hf
        obtain ⟨hn, hfit⟩ := pm_fit_ok B b hb2
        intro H locs ls cells slots h1 h2 h3 h4 h5 h6
        have hap := va_apart (own := own) Cx.2.2.2.2.1 hin ty0 hty hnm Cx.2.2.2.2.2.1.1 hc
        obtain ⟨r, hr, cell, q1, q2, q3, q4⟩ := h3 a _ (pm_w_at he)
        have hr : r = (C, T, N) := Option.some.inj (hr.symm.trans hc)
        subst hr
        obtain ⟨hS, hfc, kC, hkC, hkind⟩ := Cx.2.2.2.2.2.1.1.1 cj _ hc
        obtain ⟨cf, kf, fi, f, hi, hsl⟩ := hS k hk
        have hlay := Cx.2.2.2.2.1 _ (hin _ (u_in_lay hk))
        unfold u_lay at hlay
        rw [if_neg (by rw [hfin]; decide)] at hlay
        have hst := (u_facts hfc hkC (u_lays Cx.2.2.2.2.1 hin hk) hi).1
        have h9 := u_store hfc hkC hkind hlay hi (by rw [hty k hk, hte]) hn hfit
        refine W.putK Cx.1 Cx.2.1 (f := f) ⟨Cx.2.2.2.1, Cx.2.2.2.2.1 _ hw, ⟨_, _, _, hi⟩, hst⟩ (by rw [q2]; exact h9) q1 q3 (by rw [hsl]; exact k2_hasslot (q4 k hk)) rfl rfl hd fun H1 e1 z1 o1 => ?_
        rw [hsl] at e1 ⊢
        refine kk H1 _ ls cells slots h1 (z1.trans (by rw [h2]; simp)) (pm_stored h3 he o1 ?_) (h4.put z1 o1 (Nat.le_add_right B a)) h5 h6
        refine ⟨_, hc, t_OB.to (V := updV (vp_V (fs.map (pm_v B b))) k (pm_v B b v)) ⟨_, e1, q2, q3, t_set q4 hap hk _⟩ (fun j _ => ?_)⟩
        rw [vp_updV_set (by rw [List.length_map]; exact Nat.le_of_ble_eq_true hb3)]
        simp [pm_e, List.map_set]
    · cases hf
  · cases hf
theorem k_putF {cc : ByteArray} {own : String} {nL pc : Nat} {ci k index N : Nat} {C : String} {T : u_T} {ty0 : Nat → FieldType} {ty : FieldType} (hc : vwCl[ci]? = some (C, T, N)) (hin : ∀ w ∈ u_ws C T N, w ∈ pm_T) (hty : ∀ k, k < N → parseFieldDescriptor (T k).2.2.1 = some (ty0 k)) (hnm : ∀ a, a < N → ∀ b, b < N → a ≠ b → (T a).2.1 ≠ (T b).2.1) (hk : k < N) (hte : ty0 k = ty) (hfin : (T k).2.2.2 = true) (hdecl : (T k).1 = own) (hw : Cond.fieldLink own index (T k).1 (T k).2.1 (T k).2.2.1 ∈ pm_T) (hd : decode cc pc = .ok (.putfield index, 3)) : pm_okF cc own nL true pc (s_putf ci k ty (pc + 3)) := by
  intro p l e R s m args below meth c D aC B b Q Cx hR1 hR2 lv st w σ' hf kk
  simp only [s_putf] at hf
  split at hf
  · rename_i v a st
    split at hf
    · rename_i cj fs he
      cases hb : (Nat.beq cj ci && (pm_fit ty v && Nat.blt k fs.length)) with
      | false => rw [hb] at hf; cases hf
      | true =>
        rw [hb] at hf
        obtain ⟨hb1, hb2⟩ := Bool.and_eq_true_iff.mp hb
        obtain ⟨hb2, hb3⟩ := Bool.and_eq_true_iff.mp hb2
        obtain rfl := Nat.eq_of_beq_eq_true hb1
        obtain rfl := Option.some.inj hf
        obtain ⟨hn, hfit⟩ := pm_fit_ok B b hb2
        intro H locs ls cells slots h1 h2 h3 h4 h5 h6
        have hap := va_apart (own := own) Cx.2.2.2.2.1 hin ty0 hty hnm Cx.2.2.2.2.2.1.1 hc
        obtain ⟨r, hr, cell, q1, q2, q3, q4⟩ := h3 a _ (pm_w_at he)
        have hr : r = (C, T, N) := Option.some.inj (hr.symm.trans hc)
        subst hr
        obtain ⟨hS, hfc, kC, hkC, hkind⟩ := Cx.2.2.2.2.2.1.1.1 cj _ hc
        obtain ⟨cf, kf, fi, f, hi, hsl⟩ := hS k hk
        have hlay := Cx.2.2.2.2.1 _ (hin _ (u_in_lay hk))
        unfold u_lay at hlay
        rw [if_pos hfin] at hlay
        have hst := (u_facts hfc hkC (u_lays Cx.2.2.2.2.1 hin hk) hi).1
        have hcf : m.cls = cf := by
          obtain ⟨_, _, c', _, _, _, -, -, hf', -, -, -, hown2, -⟩ := Cond.laysFinal_spec hlay
          have e1 : c' = cf := by have := hi.symm.trans hf'; simp at this; exact this.1.symm
          rw [hdecl] at hown2
          rw [← e1]; exact Option.some.inj (Cx.2.2.2.1.symm.trans hown2)
        have h9 := u_fits hfc hkC hkind (Or.inr hlay) hi (by rw [hty k hk, hte]) hn hfit
        refine W.putFinK Cx.1 Cx.2.1 Cx.2.2.2.1 (Cx.2.2.2.2.1 _ hw) hi hst hcf (Cx.2.2.2.2.2.2.2 rfl) (by rw [q2]; exact h9) q1 q3 (by rw [hsl]; exact k2_hasslot (q4 k hk)) rfl rfl hd fun H1 e1 z1 o1 => ?_
        rw [hsl] at e1 ⊢
        refine kk H1 _ ls cells slots h1 (z1.trans (by rw [h2]; simp)) (pm_stored h3 he o1 ?_) (h4.put z1 o1 (Nat.le_add_right B a)) h5 h6
        refine ⟨_, hc, t_OB.to (V := updV (vp_V (fs.map (pm_v B b))) k (pm_v B b v)) ⟨_, e1, q2, q3, t_set q4 hap hk _⟩ (fun j _ => ?_)⟩
        rw [vp_updV_set (by rw [List.length_map]; exact Nat.le_of_ble_eq_true hb3)]
        simp [pm_e, List.map_set]
    · cases hf
  · cases hf
end
