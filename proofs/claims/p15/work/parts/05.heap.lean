/-! THE PURE MACHINE, part 3: fields, arrays, new cells (written by gen_heap.py) -/
noncomputable def pm_fit (ty : FieldType) (v : Value) : Bool := match ty, v with
  | .int, .int _ => true
  | .long, .long _ => true
  | .boolean, .int x => x == 0 || x == 1
  | .object _, .ref _ => true
  | .object _, .null => true
  | .array _, .ref _ => true
  | .array _, .null => true
  | _, _ => false
theorem pm_fit_ok {ty : FieldType} {v : Value} (B : Nat) (b : Nat → Option Nat) (h : pm_fit ty v = true) : narrow ty (pm_v B b v) = pm_v B b v ∧ fits ty (pm_v B b v) = true := by
  cases ty <;> cases v <;> first | (simp [pm_fit] at h; done) | (exact ⟨rfl, rfl⟩) | skip
  rename_i x
  simp only [pm_fit, Bool.or_eq_true, beq_iff_eq] at h
  rcases h with rfl | rfl <;> exact ⟨rfl, rfl⟩
/-- one cell is another, the rest as it was -/
theorem pm_stored {D : va_G} {aC : Nat → ClassId} {B k : Nat} {b : Nat → Option Nat} {h : pm_H} {x y : pm_E} {H H1 : Heap} (hP : va_P D vwCl (pm_w B b aC h) H) (hk : h[k]? = some x) (oq : ∀ q : Nat, q ≠ B + k → H1[q]? = H[q]?) (hat : va_at D vwCl (B + k, pm_e B b aC y) H1) : va_P D vwCl (pm_w B b aC (h.set k y)) H1 := by
  rw [← pm_w_set]
  exact hP.set (pm_w_D B b aC h) (pm_w_at hk) hat oq
/-- the cell behind the last is new -/
theorem pm_pushed {D : va_G} {aC : Nat → ClassId} {B : Nat} {b : Nat → Option Nat} {h : pm_H} {y : pm_E} {H H1 : Heap} (hP : va_P D vwCl (pm_w B b aC h) H) (hz : H.size = B + h.length) (oq : ∀ q : Nat, q < H.size → H1[q]? = H[q]?) (hat : va_at D vwCl (H.size, pm_e B b aC y) H1) : va_P D vwCl (pm_w B b aC (h ++ [y])) H1 := by
  rw [← pm_w_app]
  refine (hP.kept fun k q hq => oq q.1 ((hP k q hq).lt)).app (fun k q hq => ?_)
  have hl : k < 1 := (List.getElem?_eq_some_iff.mp hq).1
  rw [show k = 0 by omega] at hq
  cases hq
  rw [← hz]
  exact hat
theorem pm_grown {A : Nat → Prop} {H0 H H1 : Heap} {locs : List Loc} (hS : va_S A H0 H locs) (z : H1.size = H.size + 1) (oq : ∀ q : Nat, q < H.size → H1[q]? = H[q]?) : va_S A H0 H1 locs :=
  ⟨Nat.le_trans hS.1 (by omega), fun x h1 h2 => (oq x (Nat.lt_of_lt_of_le h1 hS.1)).trans (hS.2.1 x h1 h2), hS.2.2⟩
noncomputable def s_getf (ci k n : Nat) : pm_S → Option pm_S := fun σ => match σ.2.2.1 with
  | .ref a :: st => match σ.2.2.2.1[a]? with
    | some (.inr (cj, fs)) => bif Nat.beq cj ci then (match fs[k]? with | some v => some (n, σ.2.1, v :: st, σ.2.2.2) | none => none) else none
    | _ => none
  | _ => none
noncomputable def s_putf (ci k : Nat) (ty : FieldType) (n : Nat) : pm_S → Option pm_S := fun σ => match σ.2.2.1 with
  | v :: .ref a :: st => match σ.2.2.2.1[a]? with
    | some (.inr (cj, fs)) => bif Nat.beq cj ci && (pm_fit ty v && Nat.blt k fs.length) then some (n, σ.2.1, st, σ.2.2.2.1.set a (.inr (cj, fs.set k v)), σ.2.2.2.2) else none
    | _ => none
  | _ => none
theorem k_getf {cc : ByteArray} {own : String} {nL pc : Nat} {ini : Bool} {ci k index N : Nat} {C : String} {T : u_T} (hc : vwCl[ci]? = some (C, T, N)) (hin : ∀ w ∈ u_ws C T N, w ∈ pm_T) (hk : k < N) (hw : Cond.fieldLink own index (T k).1 (T k).2.1 (T k).2.2.1 ∈ pm_T) (hd : decode cc pc = .ok (.getfield index, 3)) : pm_okF cc own nL ini pc (s_getf ci k (pc + 3)) := by
  intro p l e R s m args below meth c D aC B b Q Cx hR1 hR2 lv st w σ' hf kk
  simp only [s_getf] at hf
  split at hf
  · rename_i a st
    split at hf
    · rename_i cj fs he
      cases hb : Nat.beq cj ci with
      | false => rw [hb] at hf; cases hf
      | true =>
        rw [hb] at hf
        simp only [cond_true] at hf
        obtain rfl := Nat.eq_of_beq_eq_true hb
        split at hf
        · rename_i v hv
          obtain rfl := Option.some.inj hf
          intro H locs ls cells slots h1 h2 h3 h4 h5 h6
          exact va_get (v := pm_v B b v) (fs := fs.map (pm_v B b)) Cx.1 Cx.2.1 Cx.2.2.2.2.1 hin Cx.2.2.2.1 Cx.2.2.2.2.2.1.1 h3 a (pm_w_at he) hc k hk (Cx.2.2.2.2.1 _ hw) (fun _ h9 => h9) (by rw [List.getElem?_map, hv]; rfl) hd (kk H locs ls cells slots h1 h2 h3 h4 h5 h6)
        · cases hf
    · cases hf
  · cases hf
theorem k_putf {cc : ByteArray} {own : String} {nL pc : Nat} {ini : Bool} {ci k index N : Nat} {C : String} {T : u_T} {ty0 : Nat → FieldType} {ty : FieldType} (hc : vwCl[ci]? = some (C, T, N)) (hin : ∀ w ∈ u_ws C T N, w ∈ pm_T) (hty : ∀ k, k < N → parseFieldDescriptor (T k).2.2.1 = some (ty0 k)) (hnm : ∀ a, a < N → ∀ b, b < N → a ≠ b → (T a).2.1 ≠ (T b).2.1) (hk : k < N) (hte : ty0 k = ty) (hfin : (T k).2.2.2 = false) (hw : Cond.fieldLink own index (T k).1 (T k).2.1 (T k).2.2.1 ∈ pm_T) (hd : decode cc pc = .ok (.putfield index, 3)) : pm_okF cc own nL ini pc (s_putf ci k ty (pc + 3)) := by
  intro p l e R s m args below meth c D aC B b Q Cx hR1 hR2 lv st w σ' hf kk
  simp only [s_putf] at hf
  split at hf
  · rename_i v a st
    split at hf
    · rename_i cj fs he
      cases hb : (Nat.beq cj ci && (pm_fit ty v && Nat.blt k fs.length)) with
      | false => rw [hb] at hf; cases hf
      | true =>
        rw [hb] at hf
        obtain ⟨hb1, hb2⟩ := Bool.and_eq_true_iff.mp hb
        obtain ⟨hb2, hb3⟩ := Bool.and_eq_true_iff.mp hb2
        obtain rfl := Nat.eq_of_beq_eq_true hb1
        obtain rfl := Option.some.inj hf
        obtain ⟨hn, hfit⟩ := pm_fit_ok B b hb2
        intro H locs ls cells slots h1 h2 h3 h4 h5 h6
        have hap := va_apart (own := own) Cx.2.2.2.2.1 hin ty0 hty hnm Cx.2.2.2.2.2.1.1 hc
        obtain ⟨r, hr, cell, q1, q2, q3, q4⟩ := h3 a _ (pm_w_at he)
        have hr : r = (C, T, N) := Option.some.inj (hr.symm.trans hc)
        subst hr
        obtain ⟨hS, hfc, kC, hkC, hkind⟩ := Cx.2.2.2.2.2.1.1.1 cj _ hc
        obtain ⟨cf, kf, fi, f, hi, hsl⟩ := hS k hk
        have hlay := Cx.2.2.2.2.1 _ (hin _ (u_in_lay hk))
        unfold u_lay at hlay
        rw [if_neg (by rw [hfin]; decide)] at hlay
        have hst := (u_facts hfc hkC (u_lays Cx.2.2.2.2.1 hin hk) hi).1
        have h9 := u_store hfc hkC hkind hlay hi (by rw [hty k hk, hte]) hn hfit
        refine W.putK Cx.1 Cx.2.1 (f := f) ⟨Cx.2.2.2.1, Cx.2.2.2.2.1 _ hw, ⟨_, _, _, hi⟩, hst⟩ (by rw [q2]; exact h9) q1 q3 (by rw [hsl]; exact k2_hasslot (q4 k hk)) rfl rfl hd fun H1 e1 z1 o1 => ?_
        rw [hsl] at e1 ⊢
        refine kk H1 _ ls cells slots h1 (z1.trans (by rw [h2]; simp)) (pm_stored h3 he o1 ?_) (h4.put z1 o1 (Nat.le_add_right B a)) h5 h6
        refine ⟨_, hc, t_OB.to (V := updV (vp_V (fs.map (pm_v B b))) k (pm_v B b v)) ⟨_, e1, q2, q3, t_set q4 hap hk _⟩ (fun j _ => ?_)⟩
        rw [vp_updV_set (by rw [List.length_map]; exact Nat.le_of_ble_eq_true hb3)]
        simp [pm_e, List.map_set]
    · cases hf
  · cases hf
theorem k_putF {cc : ByteArray} {own : String} {nL pc : Nat} {ci k index N : Nat} {C : String} {T : u_T} {ty0 : Nat → FieldType} {ty : FieldType} (hc : vwCl[ci]? = some (C, T, N)) (hin : ∀ w ∈ u_ws C T N, w ∈ pm_T) (hty : ∀ k, k < N → parseFieldDescriptor (T k).2.2.1 = some (ty0 k)) (hnm : ∀ a, a < N → ∀ b, b < N → a ≠ b → (T a).2.1 ≠ (T b).2.1) (hk : k < N) (hte : ty0 k = ty) (hfin : (T k).2.2.2 = true) (hdecl : (T k).1 = own) (hw : Cond.fieldLink own index (T k).1 (T k).2.1 (T k).2.2.1 ∈ pm_T) (hd : decode cc pc = .ok (.putfield index, 3)) : pm_okF cc own nL true pc (s_putf ci k ty (pc + 3)) := by
  intro p l e R s m args below meth c D aC B b Q Cx hR1 hR2 lv st w σ' hf kk
  simp only [s_putf] at hf
  split at hf
  · rename_i v a st
    split at hf
    · rename_i cj fs he
      cases hb : (Nat.beq cj ci && (pm_fit ty v && Nat.blt k fs.length)) with
      | false => rw [hb] at hf; cases hf
      | true =>
        rw [hb] at hf
        obtain ⟨hb1, hb2⟩ := Bool.and_eq_true_iff.mp hb
        obtain ⟨hb2, hb3⟩ := Bool.and_eq_true_iff.mp hb2
        obtain rfl := Nat.eq_of_beq_eq_true hb1
        obtain rfl := Option.some.inj hf
        obtain ⟨hn, hfit⟩ := pm_fit_ok B b hb2
        intro H locs ls cells slots h1 h2 h3 h4 h5 h6
        have hap := va_apart (own := own) Cx.2.2.2.2.1 hin ty0 hty hnm Cx.2.2.2.2.2.1.1 hc
        obtain ⟨r, hr, cell, q1, q2, q3, q4⟩ := h3 a _ (pm_w_at he)
        have hr : r = (C, T, N) := Option.some.inj (hr.symm.trans hc)
        subst hr
        obtain ⟨hS, hfc, kC, hkC, hkind⟩ := Cx.2.2.2.2.2.1.1.1 cj _ hc
        obtain ⟨cf, kf, fi, f, hi, hsl⟩ := hS k hk
        have hlay := Cx.2.2.2.2.1 _ (hin _ (u_in_lay hk))
        unfold u_lay at hlay
        rw [if_pos hfin] at hlay
        have hst := (u_facts hfc hkC (u_lays Cx.2.2.2.2.1 hin hk) hi).1
        have hcf : m.cls = cf := by
          obtain ⟨_, _, c', _, _, _, -, -, hf', -, -, -, hown2, -⟩ := Cond.laysFinal_spec hlay
          have e1 : c' = cf := by have := hi.symm.trans hf'; simp at this; exact this.1.symm
          rw [hdecl] at hown2
          rw [← e1]; exact Option.some.inj (Cx.2.2.2.1.symm.trans hown2)
        have h9 := u_fits hfc hkC hkind (Or.inr hlay) hi (by rw [hty k hk, hte]) hn hfit
        refine W.putFinK Cx.1 Cx.2.1 Cx.2.2.2.1 (Cx.2.2.2.2.1 _ hw) hi hst hcf (Cx.2.2.2.2.2.2.2 rfl) (by rw [q2]; exact h9) q1 q3 (by rw [hsl]; exact k2_hasslot (q4 k hk)) rfl rfl hd fun H1 e1 z1 o1 => ?_
        rw [hsl] at e1 ⊢
        refine kk H1 _ ls cells slots h1 (z1.trans (by rw [h2]; simp)) (pm_stored h3 he o1 ?_) (h4.put z1 o1 (Nat.le_add_right B a)) h5 h6
        refine ⟨_, hc, t_OB.to (V := updV (vp_V (fs.map (pm_v B b))) k (pm_v B b v)) ⟨_, e1, q2, q3, t_set q4 hap hk _⟩ (fun j _ => ?_)⟩
        rw [vp_updV_set (by rw [List.length_map]; exact Nat.le_of_ble_eq_true hb3)]
        simp [pm_e, List.map_set]
    · cases hf
  · cases hf
noncomputable def pm_ix (i : Int32) (n : Nat) : Bool := !(decide (i < 0)) && Nat.blt i.toNatClampNeg n
theorem pm_ix_in {i : Int32} {n : Nat} (h : pm_ix i n = true) : vp_in i n := by
  simp only [pm_ix, Bool.and_eq_true, Bool.not_eq_true', decide_eq_false_iff_not] at h
  have h2 : i.toNatClampNeg < n := Nat.le_of_ble_eq_true h.2
  intro q
  rcases q with q | q
  · exact h.1 q
  · omega
noncomputable def s_iald (n : Nat) : pm_S → Option pm_S := fun σ => match σ.2.2.1 with
  | .int i :: .ref a :: st => match σ.2.2.2.1[a]? with
    | some (.inl (0, len, .inl f)) => bif pm_ix i len then some (n, σ.2.1, .int (f i.toNatClampNeg) :: st, σ.2.2.2) else none
    | _ => none
  | _ => none
noncomputable def s_bald (n : Nat) : pm_S → Option pm_S := fun σ => match σ.2.2.1 with
  | .int i :: .ref a :: st => match σ.2.2.2.1[a]? with
    | some (.inl (1, len, .inl f)) => bif pm_ix i len then some (n, σ.2.1, .int (f i.toNatClampNeg) :: st, σ.2.2.2) else none
    | _ => none
  | _ => none
noncomputable def s_zald (n : Nat) : pm_S → Option pm_S := fun σ => match σ.2.2.1 with
  | .int i :: .ref a :: st => match σ.2.2.2.1[a]? with
    | some (.inl (2, len, .inl f)) => bif pm_ix i len then some (n, σ.2.1, .int (f i.toNatClampNeg) :: st, σ.2.2.2) else none
    | _ => none
  | _ => none
noncomputable def s_lald (n : Nat) : pm_S → Option pm_S := fun σ => match σ.2.2.1 with
  | .int i :: .ref a :: st => match σ.2.2.2.1[a]? with
    | some (.inl (3, len, .inr (.inl f))) => bif pm_ix i len then some (n, σ.2.1, .long (f i.toNatClampNeg) :: st, σ.2.2.2) else none
    | _ => none
  | _ => none
theorem k_iald {cc : ByteArray} {own : String} {nL pc : Nat} {ini : Bool} (hd : decode cc pc = .ok (.iaload, 1)) : pm_okF cc own nL ini pc (s_iald (pc + 1)) := by
  intro p l e R s m args below meth c D aC B b Q Cx hR1 hR2 lv st w σ' hf kk
  simp only [s_iald] at hf
  split at hf
  · rename_i i a st
    split at hf
    · rename_i len f he
      cases hb : pm_ix i len with
      | false => rw [hb] at hf; cases hf
      | true =>
        rw [hb] at hf
        obtain rfl := Option.some.inj hf
        intro H locs ls cells slots h1 h2 h3 h4 h5 h6
        exact va_iald Cx.1 Cx.2.1 Cx.2.2.2.2.2.1.1 h3 a 0 (pm_w_at he) rfl (pm_ix_in hb) hd (kk H locs ls cells slots h1 h2 h3 h4 h5 h6)
    · cases hf
  · cases hf
theorem k_bald {cc : ByteArray} {own : String} {nL pc : Nat} {ini : Bool} (hd : decode cc pc = .ok (.baload, 1)) : pm_okF cc own nL ini pc (s_bald (pc + 1)) := by
  intro p l e R s m args below meth c D aC B b Q Cx hR1 hR2 lv st w σ' hf kk
  simp only [s_bald] at hf
  split at hf
  · rename_i i a st
    split at hf
    · rename_i len f he
      cases hb : pm_ix i len with
      | false => rw [hb] at hf; cases hf
      | true =>
        rw [hb] at hf
        obtain rfl := Option.some.inj hf
        intro H locs ls cells slots h1 h2 h3 h4 h5 h6
        exact va_bald Cx.1 Cx.2.1 Cx.2.2.2.2.2.1.1 h3 a 1 (pm_w_at he) rfl (pm_ix_in hb) hd (kk H locs ls cells slots h1 h2 h3 h4 h5 h6)
    · cases hf
  · cases hf
theorem k_zald {cc : ByteArray} {own : String} {nL pc : Nat} {ini : Bool} (hd : decode cc pc = .ok (.baload, 1)) : pm_okF cc own nL ini pc (s_zald (pc + 1)) := by
  intro p l e R s m args below meth c D aC B b Q Cx hR1 hR2 lv st w σ' hf kk
  simp only [s_zald] at hf
  split at hf
  · rename_i i a st
    split at hf
    · rename_i len f he
      cases hb : pm_ix i len with
      | false => rw [hb] at hf; cases hf
      | true =>
        rw [hb] at hf
        obtain rfl := Option.some.inj hf
        intro H locs ls cells slots h1 h2 h3 h4 h5 h6
        exact va_zald Cx.1 Cx.2.1 Cx.2.2.2.2.2.1.1 h3 a 2 (pm_w_at he) rfl (pm_ix_in hb) hd (kk H locs ls cells slots h1 h2 h3 h4 h5 h6)
    · cases hf
  · cases hf
theorem k_lald {cc : ByteArray} {own : String} {nL pc : Nat} {ini : Bool} (hd : decode cc pc = .ok (.laload, 1)) : pm_okF cc own nL ini pc (s_lald (pc + 1)) := by
  intro p l e R s m args below meth c D aC B b Q Cx hR1 hR2 lv st w σ' hf kk
  simp only [s_lald] at hf
  split at hf
  · rename_i i a st
    split at hf
    · rename_i len f he
      cases hb : pm_ix i len with
      | false => rw [hb] at hf; cases hf
      | true =>
        rw [hb] at hf
        obtain rfl := Option.some.inj hf
        intro H locs ls cells slots h1 h2 h3 h4 h5 h6
        exact va_lald Cx.1 Cx.2.1 Cx.2.2.2.2.2.1.1 h3 a 3 (pm_w_at he) rfl (pm_ix_in hb) hd (kk H locs ls cells slots h1 h2 h3 h4 h5 h6)
    · cases hf
  · cases hf
noncomputable def pm_r (r : Option Nat) : Value := match r with
  | none => .null
  | some a => .ref a
theorem pm_r_v (B : Nat) (b : Nat → Option Nat) (r : Option Nat) : va_rf (r.map (fun k => B + k)) = pm_v B b (pm_r r) := by cases r <;> rfl
noncomputable def s_aald (t n : Nat) : pm_S → Option pm_S := fun σ => match σ.2.2.1 with
  | .int i :: .ref a :: st => match σ.2.2.2.1[a]? with
    | some (.inl (t', len, .inr (.inr (.inr (.inr f))))) => bif Nat.beq t' t && pm_ix i len then some (n, σ.2.1, pm_r (f i.toNatClampNeg) :: st, σ.2.2.2) else none
    | _ => none
  | _ => none
theorem k_aald {cc : ByteArray} {own : String} {nL pc : Nat} {ini : Bool} {t : Nat} {C : String} (ht : ∀ aC : Nat → ClassId, (pm_tys aC)[t]? = some (aC t, .object C)) (hd : decode cc pc = .ok (.aaload, 1)) : pm_okF cc own nL ini pc (s_aald t (pc + 1)) := by
  intro p l e R s m args below meth c D aC B b Q Cx hR1 hR2 lv st w σ' hf kk
  simp only [s_aald] at hf
  split at hf
  · rename_i i a st
    split at hf
    · rename_i t' len f he
      cases hb : (Nat.beq t' t && pm_ix i len) with
      | false => rw [hb] at hf; cases hf
      | true =>
        rw [hb] at hf
        obtain ⟨hb1, hb2⟩ := Bool.and_eq_true_iff.mp hb
        obtain rfl := Nat.eq_of_beq_eq_true hb1
        obtain rfl := Option.some.inj hf
        intro H locs ls cells slots h1 h2 h3 h4 h5 h6
        have k2 := kk H locs ls cells slots h1 h2 h3 h4 h5 h6
        simp only [List.map_cons, ← pm_r_v] at k2
        exact va_aldq Cx.1 Cx.2.1 Cx.2.2.2.2.2.1.1 h3 a t' (pm_w_at he) (ht aC) (pm_ix_in hb2) hd k2
    · cases hf
  · cases hf
noncomputable def s_iast (n : Nat) : pm_S → Option pm_S := fun σ => match σ.2.2.1 with
  | .int x :: .int i :: .ref a :: st => match σ.2.2.2.1[a]? with
    | some (.inl (0, len, .inl f)) => bif pm_ix i len then some (n, σ.2.1, st, σ.2.2.2.1.set a (.inl (0, len, .inl (upd f i.toNatClampNeg x))), σ.2.2.2.2) else none
    | _ => none
  | _ => none
theorem k_iast {cc : ByteArray} {own : String} {nL pc : Nat} {ini : Bool} (hd : decode cc pc = .ok (.iastore, 1)) : pm_okF cc own nL ini pc (s_iast (pc + 1)) := by
  intro p l e R s m args below meth c D aC B b Q Cx hR1 hR2 lv st w σ' hf kk
  simp only [s_iast] at hf
  split at hf
  · rename_i x i a st
    split at hf
    · rename_i len f he
      cases hb : pm_ix i len with
      | false => rw [hb] at hf; cases hf
      | true =>
        rw [hb] at hf
        obtain rfl := Option.some.inj hf
        intro H locs ls cells slots h1 h2 h3 h4 h5 h6
        have hat : H[B + a]? = some (vp_cell (aC 0) (len, .inl f)) := h3 a _ (pm_w_at he)
        refine W.iast Cx.1 Cx.2.1 hat ((Cx.2.2.2.2.2.1.1.2 0 _ rfl).1 len (fun j => .int (f j))) (fun q => by cases q) (by show ¬ (i < 0 ∨ (arrV _ _ _).slots.size ≤ _); rw [arrV_size]; exact pm_ix_in hb) rfl rfl hd fun H1 e1 z1 o1 => ?_
        refine kk H1 _ ls cells slots h1 (z1.trans (by rw [h2]; simp)) (pm_stored h3 he o1 ?_) (h4.put z1 o1 (Nat.le_add_right B a)) h5 h6
        show H1[B + a]? = some (vp_cell (aC 0) (len, .inl (upd f i.toNatClampNeg x)))
        rw [e1, vp_cell_i, vp_cell_i, arrV_store]
        congr 2
        funext q
        by_cases hq : q = i.toNatClampNeg
        · subst hq
          simp [updV, upd, vp_nar]
          try rfl
        · simp [updV, upd, hq]
    · cases hf
  · cases hf
noncomputable def s_bast (n : Nat) : pm_S → Option pm_S := fun σ => match σ.2.2.1 with
  | .int x :: .int i :: .ref a :: st => match σ.2.2.2.1[a]? with
    | some (.inl (1, len, .inl f)) => bif pm_ix i len then some (n, σ.2.1, st, σ.2.2.2.1.set a (.inl (1, len, .inl (upd f i.toNatClampNeg (vp_nar .byte x)))), σ.2.2.2.2) else none
    | _ => none
  | _ => none
theorem k_bast {cc : ByteArray} {own : String} {nL pc : Nat} {ini : Bool} (hd : decode cc pc = .ok (.bastore, 1)) : pm_okF cc own nL ini pc (s_bast (pc + 1)) := by
  intro p l e R s m args below meth c D aC B b Q Cx hR1 hR2 lv st w σ' hf kk
  simp only [s_bast] at hf
  split at hf
  · rename_i x i a st
    split at hf
    · rename_i len f he
      cases hb : pm_ix i len with
      | false => rw [hb] at hf; cases hf
      | true =>
        rw [hb] at hf
        obtain rfl := Option.some.inj hf
        intro H locs ls cells slots h1 h2 h3 h4 h5 h6
        have hat : H[B + a]? = some (vp_cell (aC 1) (len, .inl f)) := h3 a _ (pm_w_at he)
        refine W.bast Cx.1 Cx.2.1 hat ((Cx.2.2.2.2.2.1.1.2 1 _ rfl).1 len (fun j => .int (f j))) (fun q => by cases q) (by show ¬ (i < 0 ∨ (arrV _ _ _).slots.size ≤ _); rw [arrV_size]; exact pm_ix_in hb) rfl rfl hd fun H1 e1 z1 o1 => ?_
        refine kk H1 _ ls cells slots h1 (z1.trans (by rw [h2]; simp)) (pm_stored h3 he o1 ?_) (h4.put z1 o1 (Nat.le_add_right B a)) h5 h6
        show H1[B + a]? = some (vp_cell (aC 1) (len, .inl (upd f i.toNatClampNeg (vp_nar .byte x))))
        rw [e1, vp_cell_i, vp_cell_i, arrV_store]
        congr 2
        funext q
        by_cases hq : q = i.toNatClampNeg
        · subst hq
          simp [updV, upd, vp_nar]
          try rfl
        · simp [updV, upd, hq]
    · cases hf
  · cases hf
noncomputable def s_zast (n : Nat) : pm_S → Option pm_S := fun σ => match σ.2.2.1 with
  | .int x :: .int i :: .ref a :: st => match σ.2.2.2.1[a]? with
    | some (.inl (2, len, .inl f)) => bif pm_ix i len then some (n, σ.2.1, st, σ.2.2.2.1.set a (.inl (2, len, .inl (upd f i.toNatClampNeg (vp_nar .boolean x)))), σ.2.2.2.2) else none
    | _ => none
  | _ => none
theorem k_zast {cc : ByteArray} {own : String} {nL pc : Nat} {ini : Bool} (hd : decode cc pc = .ok (.bastore, 1)) : pm_okF cc own nL ini pc (s_zast (pc + 1)) := by
  intro p l e R s m args below meth c D aC B b Q Cx hR1 hR2 lv st w σ' hf kk
  simp only [s_zast] at hf
  split at hf
  · rename_i x i a st
    split at hf
    · rename_i len f he
      cases hb : pm_ix i len with
      | false => rw [hb] at hf; cases hf
      | true =>
        rw [hb] at hf
        obtain rfl := Option.some.inj hf
        intro H locs ls cells slots h1 h2 h3 h4 h5 h6
        have hat : H[B + a]? = some (vp_cell (aC 2) (len, .inl f)) := h3 a _ (pm_w_at he)
        refine W.zast Cx.1 Cx.2.1 hat ((Cx.2.2.2.2.2.1.1.2 2 _ rfl).1 len (fun j => .int (f j))) (fun q => by cases q) (by show ¬ (i < 0 ∨ (arrV _ _ _).slots.size ≤ _); rw [arrV_size]; exact pm_ix_in hb) rfl rfl hd fun H1 e1 z1 o1 => ?_
        refine kk H1 _ ls cells slots h1 (z1.trans (by rw [h2]; simp)) (pm_stored h3 he o1 ?_) (h4.put z1 o1 (Nat.le_add_right B a)) h5 h6
        show H1[B + a]? = some (vp_cell (aC 2) (len, .inl (upd f i.toNatClampNeg (vp_nar .boolean x))))
        rw [e1, vp_cell_i, vp_cell_i, arrV_store]
        congr 2
        funext q
        by_cases hq : q = i.toNatClampNeg
        · subst hq
          simp [updV, upd, vp_nar]
          try rfl
        · simp [updV, upd, hq]
    · cases hf
  · cases hf
noncomputable def s_last (n : Nat) : pm_S → Option pm_S := fun σ => match σ.2.2.1 with
  | .long x :: .int i :: .ref a :: st => match σ.2.2.2.1[a]? with
    | some (.inl (3, len, .inr (.inl f))) => bif pm_ix i len then some (n, σ.2.1, st, σ.2.2.2.1.set a (.inl (3, len, .inr (.inl (vp_updL f i.toNatClampNeg x)))), σ.2.2.2.2) else none
    | _ => none
  | _ => none
theorem k_last {cc : ByteArray} {own : String} {nL pc : Nat} {ini : Bool} (hd : decode cc pc = .ok (.lastore, 1)) : pm_okF cc own nL ini pc (s_last (pc + 1)) := by
  intro p l e R s m args below meth c D aC B b Q Cx hR1 hR2 lv st w σ' hf kk
  simp only [s_last] at hf
  split at hf
  · rename_i x i a st
    split at hf
    · rename_i len f he
      cases hb : pm_ix i len with
      | false => rw [hb] at hf; cases hf
      | true =>
        rw [hb] at hf
        obtain rfl := Option.some.inj hf
        intro H locs ls cells slots h1 h2 h3 h4 h5 h6
        have hat : H[B + a]? = some (vp_cell (aC 3) (len, .inr (.inl f))) := h3 a _ (pm_w_at he)
        refine W.last Cx.1 Cx.2.1 hat ((Cx.2.2.2.2.2.1.1.2 3 _ rfl).1 len (fun j => .long (f j))) (fun q => by cases q) (by show ¬ (i < 0 ∨ (arrV _ _ _).slots.size ≤ _); rw [arrV_size]; exact pm_ix_in hb) rfl rfl hd fun H1 e1 z1 o1 => ?_
        refine kk H1 _ ls cells slots h1 (z1.trans (by rw [h2]; simp)) (pm_stored h3 he o1 ?_) (h4.put z1 o1 (Nat.le_add_right B a)) h5 h6
        show H1[B + a]? = some (vp_cell (aC 3) (len, .inr (.inl (vp_updL f i.toNatClampNeg x))))
        rw [e1, vp_cell_l, vp_cell_l, arrV_store]
        congr 2
        funext q
        by_cases hq : q = i.toNatClampNeg
        · subst hq
          simp [updV, vp_updL, vp_nar]
          try rfl
        · simp [updV, vp_updL, hq]
    · cases hf
  · cases hf
noncomputable def s_aast (t ci n : Nat) : pm_S → Option pm_S := fun σ => match σ.2.2.1 with
  | .ref v :: .int i :: .ref a :: st => match σ.2.2.2.1[a]? with
    | some (.inl (t', len, .inr (.inr (.inr (.inr f))))) => match σ.2.2.2.1[v]? with
      | some (.inr (cj, _)) => bif Nat.beq t' t && (Nat.beq cj ci && pm_ix i len) then some (n, σ.2.1, st, σ.2.2.2.1.set a (.inl (t', len, .inr (.inr (.inr (.inr (va_up f i.toNatClampNeg (some v))))))), σ.2.2.2.2) else none
      | _ => none
    | _ => none
  | _ => none
theorem k_aast {cc : ByteArray} {own : String} {nL pc : Nat} {ini : Bool} {t ci : Nat} {r : vw_C} (ht : ∀ aC : Nat → ClassId, (pm_tys aC)[t]? = some (aC t, .object r.1)) (hc : vwCl[ci]? = some r) (hd : decode cc pc = .ok (.aastore, 1)) : pm_okF cc own nL ini pc (s_aast t ci (pc + 1)) := by
  intro p l e R s m args below meth c D aC B b Q Cx hR1 hR2 lv st w σ' hf kk
  simp only [s_aast] at hf
  split at hf
  · rename_i v i a st
    split at hf
    · rename_i t' len f he
      split at hf
      · rename_i cj vs hv
        cases hb : (Nat.beq t' t && (Nat.beq cj ci && pm_ix i len)) with
        | false => rw [hb] at hf; cases hf
        | true =>
          rw [hb] at hf
          obtain ⟨hb1, hb2⟩ := Bool.and_eq_true_iff.mp hb
          obtain ⟨hb2, hb3⟩ := Bool.and_eq_true_iff.mp hb2
          obtain rfl := Nat.eq_of_beq_eq_true hb1
          obtain rfl := Nat.eq_of_beq_eq_true hb2
          obtain rfl := Option.some.inj hf
          intro H locs ls cells slots h1 h2 h3 h4 h5 h6
          have hin := pm_ix_in hb3
          have hlt : i.toNatClampNeg < len := Nat.not_le.mp fun q => hin (Or.inr q)
          have h0 : ¬ i < 0 := fun q => hin (Or.inl q)
          have hat : H[B + a]? = some (vp_cell (aC t') (len, .inr (.inr (.inr (.inr (fun i => (f i).map (fun k => B + k))))))) := h3 a _ (pm_w_at he)
          obtain ⟨r', hr', cellV, g1, g2, g3, -⟩ := h3 v _ (pm_w_at hv)
          have hcls := (Cx.2.2.2.2.2.1.1.1 cj r hc).2
          obtain ⟨kA, comp, k1, k2, k3, -⟩ := (Cx.2.2.2.2.2.1.1.2 t' _ (ht aC)).2
          have hcomp : comp = D.1 cj := Option.some.inj (k3.symm.trans hcls.1)
          subst hcomp
          have hcls2 := hcls
          obtain ⟨kC, hkC, -⟩ := hcls.2
          refine W.aast Cx.1 Cx.2.1 hat (fun q h => by cases h) (fun h => by cases h) k1 k2 rfl hkC ⟨h0, by show _ < (arrV _ _ _).slots.size; rw [arrV_size]; exact hlt⟩ g1 (fun q h => by rw [g3] at h; cases h) (by rw [g2]; exact hkC) (by rw [g2]; exact va_assign hcls2) rfl rfl hd fun H1 e1 z1 o1 => ?_
          refine kk H1 _ ls cells slots h1 (z1.trans (by rw [h2]; simp)) (pm_stored h3 he o1 ?_) (h4.put z1 o1 (Nat.le_add_right B a)) h5 h6
          show H1[B + a]? = some (vp_cell (aC t') (len, .inr (.inr (.inr (.inr (fun j => (va_up f i.toNatClampNeg (some v) j).map (fun k => B + k)))))))
          rw [e1, vp_cell_q, vp_cell_q, arrV_store]
          congr 2
          funext q
          by_cases hq : q = i.toNatClampNeg
          · subst hq
            simp [updV, va_up, va_rf]
          · simp [updV, va_up, hq]
      · cases hf
    · cases hf
  · cases hf
noncomputable def s_new (ci : Nat) (fs : List Value) (nf n : Nat) : pm_S → Option pm_S := fun σ => bif Nat.ble 1 σ.2.2.2.2.1 && Nat.ble nf σ.2.2.2.2.2 then some (n, σ.2.1, .ref σ.2.2.2.1.length :: σ.2.2.1, σ.2.2.2.1 ++ [.inr (ci, fs)], σ.2.2.2.2.1 - 1, σ.2.2.2.2.2 - nf) else none
theorem k_new {cc : ByteArray} {own : String} {nL pc : Nat} {ini : Bool} {ci index N : Nat} {C : String} {T : u_T} {ty0 : Nat → FieldType} {fs : List Value} (hc : vwCl[ci]? = some (C, T, N)) (hin : ∀ w ∈ u_ws C T N, w ∈ pm_T) (hty : ∀ k, k < N → parseFieldDescriptor (T k).2.2.1 = some (ty0 k)) (hfs : ∀ j, j < N → defaultValue (ty0 j) = vp_V fs j) (hfv : ∀ (B : Nat) (b : Nat → Option Nat), fs.map (pm_v B b) = fs) (hw1 : Cond.classLink own index C ∈ pm_T) (hw2 : Cond.instantiable C N ∈ pm_T) (hw3 : Cond.initialized C ∈ pm_T) (hd : decode cc pc = .ok (.new index, 3)) : pm_okF cc own nL ini pc (s_new ci fs N (pc + 3)) := by
  intro p l e R s m args below meth c D aC B b Q Cx hR1 hR2 lv st w σ' hf kk
  simp only [s_new] at hf
  cases hb : (Nat.ble 1 w.2.1 && Nat.ble N w.2.2) with
  | false => rw [hb] at hf; cases hf
  | true =>
    rw [hb] at hf
    obtain ⟨hb1, hb2⟩ := Bool.and_eq_true_iff.mp hb
    have hb1 := Nat.le_of_ble_eq_true hb1
    have hb2 := Nat.le_of_ble_eq_true hb2
    obtain rfl := Option.some.inj hf
    intro H locs ls cells slots h1 h2 h3 h4 h5 h6
    simp only at h2 h3 h5 h6
    have hKn := Cx.2.2.2.2.2.1.1.1 ci _ hc
    refine W.newcK Cx.1 Cx.2.1 Cx.2.2.2.1 (Cx.2.2.2.2.1 _ hw1) (Cx.2.2.2.2.1 _ hw2) (Cx.2.2.2.2.1 _ hw3) rfl hd (by omega) (by omega) hKn.2.1 rfl fun H1 kC hkC e1 z1 o1 => ?_
    have k2 := kk H1 locs ls (cells + 1) (slots + N) h1 (by simp only [List.length_append, List.length_cons, List.length_nil]; omega) (pm_pushed h3 h2 o1 ⟨_, hc, by
      show t_OB _ _ _ _ _ (vp_V (fs.map (pm_v B b)))
      rw [hfv]
      exact (u_born ty0 Cx.2.2.2.2.1 hin hKn hkC e1 hty).to hfs⟩) (pm_grown h4 z1 o1) (by simp only; omega) (by simp only; omega)
    simp only [List.map_cons, pm_v, ← h2] at k2
    exact k2
noncomputable def s_newa (t : Nat) (x : (Nat → Int32) ⊕ (Nat → Int64) ⊕ (Nat → UInt32) ⊕ (Nat → UInt64) ⊕ (Nat → Option Nat)) (n : Nat) : pm_S → Option pm_S := fun σ => match σ.2.2.1 with
  | .int m :: st => bif !(decide (m < 0)) && (Nat.ble m.toNatClampNeg 10000 && (Nat.ble 1 σ.2.2.2.2.1 && Nat.ble m.toNatClampNeg σ.2.2.2.2.2)) then some (n, σ.2.1, .ref σ.2.2.2.1.length :: st, σ.2.2.2.1 ++ [.inl (t, m.toNatClampNeg, x)], σ.2.2.2.2.1 - 1, σ.2.2.2.2.2 - m.toNatClampNeg) else none
  | _ => none
theorem k_newa {cc : ByteArray} {own : String} {nL pc : Nat} {ini : Bool} {t : Nat} {at0 : ArrayType} {ty : FieldType} {x : (Nat → Int32) ⊕ (Nat → Int64) ⊕ (Nat → UInt32) ⊕ (Nat → UInt64) ⊕ (Nat → Option Nat)} (hat : newarray.typeOf at0 = ty) (ht : ∀ aC : Nat → ClassId, (pm_tys aC)[t]? = some (aC t, ty)) (hra : ∀ (U : State) (q : ClassId), va_RA U q ty → U.vm.findClass ("[" ++ ty.toString) = some q) (hbz : componentBytes ty ≤ 8) (hxe : ∀ (B : Nat) (b : Nat → Option Nat) (aC : Nat → ClassId) (m : Nat), pm_e B b aC (.inl (t, m, x)) = .inl (aC t, m, x)) (hx : ∀ (cA : ClassId) (m : Nat), vp_cell cA (m, x) = arrV cA m (fun _ => defaultValue ty)) (hw : Cond.arrayClass ty ∈ pm_T) (hd : decode cc pc = .ok (.newarray at0, 2)) : pm_okF cc own nL ini pc (s_newa t x (pc + 2)) := by
  intro p l e R s m args below meth c D aC B b Q Cx hR1 hR2 lv st w σ' hf kk
  subst hat
  simp only [s_newa] at hf
  split at hf
  · rename_i m st
    cases hb : (!(decide (m < 0)) && (Nat.ble m.toNatClampNeg 10000 && (Nat.ble 1 w.2.1 && Nat.ble m.toNatClampNeg w.2.2))) with
    | false => rw [hb] at hf; cases hf
    | true =>
      rw [hb] at hf
      obtain ⟨hb0, hb1⟩ := Bool.and_eq_true_iff.mp hb
      obtain ⟨hb1, hb2⟩ := Bool.and_eq_true_iff.mp hb1
      obtain ⟨hb2, hb3⟩ := Bool.and_eq_true_iff.mp hb2
      have hb1 := Nat.le_of_ble_eq_true hb1
      have hb2 := Nat.le_of_ble_eq_true hb2
      have hb3 := Nat.le_of_ble_eq_true hb3
      have hm : ¬ m < 0 := by simpa using hb0
      obtain rfl := Option.some.inj hf
      intro H locs ls cells slots h1 h2 h3 h4 h5 h6
      simp only at h2 h3 h5 h6
      have hby : m.toNatClampNeg * componentBytes (newarray.typeOf at0) ≤ 536870912 := Nat.le_trans (Nat.mul_le_mul hb1 hbz) (by decide)
      refine va_newaK Cx.1 Cx.2.1 (Cx.2.2.2.2.1 _ hw) rfl hd rfl hm rfl hby (by omega) (by omega) rfl fun H1 cA e1 z1 o1 hAr hNm => ?_
      have hcA : cA = aC t := Option.some.inj (hNm.symm.trans (hra _ _ (Cx.2.2.2.2.2.1.1.2 t _ (ht aC)).2))
      subst hcA
      have k2 := kk H1 locs ls (cells + 1) (slots + m.toNatClampNeg) h1 (by simp only [List.length_append, List.length_cons, List.length_nil]; omega) (pm_pushed h3 h2 o1 (by
        rw [hxe]
        show H1[H.size]? = some (vp_cell _ _)
        rw [hx]
        exact e1)) (pm_grown h4 z1 o1) (by simp only; omega) (by simp only; omega)
      simp only [List.map_cons, pm_v, ← h2] at k2
      exact k2
  · cases hf
noncomputable def s_newq (t n : Nat) : pm_S → Option pm_S := fun σ => match σ.2.2.1 with
  | .int m :: st => bif !(decide (m < 0)) && (Nat.ble m.toNatClampNeg 10000 && (Nat.ble 1 σ.2.2.2.2.1 && Nat.ble m.toNatClampNeg σ.2.2.2.2.2)) then some (n, σ.2.1, .ref σ.2.2.2.1.length :: st, σ.2.2.2.1 ++ [.inl (t, m.toNatClampNeg, .inr (.inr (.inr (.inr (fun _ => none)))))], σ.2.2.2.2.1 - 1, σ.2.2.2.2.2 - m.toNatClampNeg) else none
  | _ => none
theorem k_newq {cc : ByteArray} {own : String} {nL pc : Nat} {ini : Bool} {t index : Nat} {C : String} (ht : ∀ aC : Nat → ClassId, (pm_tys aC)[t]? = some (aC t, .object C)) (hao : ∀ (D : va_G) (aC : Nat → ClassId) (B : Nat) (b : Nat → Option Nat) (U : State), pm_K D aC B b U → va_AO C U) (hw : Cond.classLink own index C ∈ pm_T) (hd : decode cc pc = .ok (.anewarray index, 3)) : pm_okF cc own nL ini pc (s_newq t (pc + 3)) := by
  intro p l e R s m args below meth c D aC B b Q Cx hR1 hR2 lv st w σ' hf kk
  simp only [s_newq] at hf
  split at hf
  · rename_i m st
    cases hb : (!(decide (m < 0)) && (Nat.ble m.toNatClampNeg 10000 && (Nat.ble 1 w.2.1 && Nat.ble m.toNatClampNeg w.2.2))) with
    | false => rw [hb] at hf; cases hf
    | true =>
      rw [hb] at hf
      obtain ⟨hb0, hb1⟩ := Bool.and_eq_true_iff.mp hb
      obtain ⟨hb1, hb2⟩ := Bool.and_eq_true_iff.mp hb1
      obtain ⟨hb2, hb3⟩ := Bool.and_eq_true_iff.mp hb2
      have hb1 := Nat.le_of_ble_eq_true hb1
      have hb2 := Nat.le_of_ble_eq_true hb2
      have hb3 := Nat.le_of_ble_eq_true hb3
      have hm : ¬ m < 0 := by simpa using hb0
      obtain rfl := Option.some.inj hf
      intro H locs ls cells slots h1 h2 h3 h4 h5 h6
      simp only at h2 h3 h5 h6
      refine W.anew Cx.1 Cx.2.1 Cx.2.2.2.1 (Cx.2.2.2.2.1 _ hw) (va_AO.use (hao D aC B b s Cx.2.2.2.2.2.1)) rfl hd rfl hm (by omega) (by omega) (by omega) fun cA kA comp f1 f2 f3 f4 => ?_
      generalize hH1 : H.push ({ cls := cA, slots := Array.replicate m.toNatClampNeg .null, vm := .none } : Cell) = H1
      have z1 : H1.size = H.size + 1 := by rw [← hH1, Array.size_push]
      have e1 : H1[H.size]? = some (arrV cA m.toNatClampNeg (fun _ => .null)) := by rw [← hH1, Array.getElem?_push_size, ← arrV_new]
      have o1 : ∀ q : Nat, q < H.size → H1[q]? = H[q]? := fun q hq => by rw [← hH1, Array.getElem?_push, if_neg (Nat.ne_of_lt hq)]
      obtain ⟨kA2, comp2, -, -, -, g4⟩ := (Cx.2.2.2.2.2.1.1.2 t _ (ht aC)).2
      have hcA : cA = aC t := Option.some.inj (f1.symm.trans g4)
      subst hcA
      have k2 := kk H1 locs ls (cells + 1) (slots + m.toNatClampNeg) h1 (by simp only [List.length_append, List.length_cons, List.length_nil]; omega) (pm_pushed h3 h2 o1 (by
        show H1[H.size]? = some (vp_cell _ _)
        rw [vp_cell_q]
        exact e1)) (pm_grown h4 z1 o1) (by simp only; omega) (by simp only; omega)
      simp only [List.map_cons, pm_v, ← h2] at k2
      exact k2
  · cases hf
noncomputable def pm_sz (st : List Value) : Nat := (st.map fun v => v.category).sum
theorem pm_sz_v (B : Nat) (b : Nat → Option Nat) (st : List Value) : ((st.map (pm_v B b)).map fun v => v.category).sum = pm_sz st := by
  unfold pm_sz
  rw [List.map_map]
  congr 1
  exact List.map_congr_left fun v _ => pm_v_cat B b v
noncomputable def s_obj (n : Nat) : pm_S → Option pm_S := fun σ => match σ.2.2.1 with
  | .ref _ :: st => bif Nat.ble (pm_sz st) 8 then some (n, σ.2.1, st, σ.2.2.2) else none
  | _ => none
theorem k_obj {cc : ByteArray} {own : String} {nL pc : Nat} {ini : Bool} {index : Nat} (hw1 : Cond.methodLink own index Lib.objectInit ∈ pm_T) (hw2 : Cond.instanceMethod Lib.objectInit ∈ pm_T) (hw3 : Cond.code Lib.objectInit ⟨#[0xb1]⟩ 1 none ∈ pm_T) (hd : decode cc pc = .ok (.invokespecial index, 3)) : pm_okF cc own nL ini pc (s_obj (pc + 3)) := by
  intro p l e R s m args below meth c D aC B b Q Cx hR1 hR2 lv st w σ' hf kk
  simp only [s_obj] at hf
  split at hf
  · rename_i a st
    cases hb : Nat.ble (pm_sz st) 8 with
    | false => rw [hb] at hf; cases hf
    | true =>
      rw [hb] at hf
      have hb := Nat.le_of_ble_eq_true hb
      obtain rfl := Option.some.inj hf
      intro H locs ls cells slots h1 h2 h3 h4 h5 h6
      exact W.objInit Cx.1 Cx.2.1 Cx.2.2.2.1 (Cx.2.2.2.2.1 _ hw1) (Cx.2.2.2.2.1 _ hw2) (Cx.2.2.2.2.1 _ hw3) rfl (by rw [Cx.2.2.1]; exact h1.1) rfl hd hR1 (by
        rw [pm_sz_v]
        show 2 * 0 + _ + 12 ≤ _
        omega) (kk H locs ls cells slots h1 h2 h3 h4 h5 h6)
  · cases hf
