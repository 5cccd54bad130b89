section
theorem k_iast {cc : ByteArray} {own : String} {nL pc : Nat} {ini : Bool} (hd : decode cc pc = .ok (.iastore, 1)) : pm_okF cc own nL ini pc (s_iast (pc + 1)) := by
  intro p l e R s m args below meth c D aC B b Q Cx hR1 hR2 lv st w σ' hf kk
  simp only [s_iast] at hf
  split at hf
  · rename_i x i a st
    split at hf
    · rename_i len f he
      cases hb : pm_ix i len with
      | false => rw [hb] at hf; cases hf
      | true =>
        rw [hb] at hf
        obtain rfl := Option.some.inj hf
        intro H locs ls cells slots h1 h2 h3 h4 h5 h6
        have hat : H[B + a]? = some (vp_cell (aC 0) (len, .inl f)) := h3 a _ (pm_w_at he)
        refine W.iast Cx.1 Cx.2.1 hat ((Cx.2.2.2.2.2.1.1.2 0 _ rfl).1 len (fun j => .int (f j))) (fun q => by cases q) (by show ¬ (i < 0 ∨ (arrV _ _ _).slots.size ≤ _); rw [arrV_size]; exact pm_ix_in hb) rfl rfl hd fun H1 e1 z1 o1 => ?_
        refine kk H1 _ ls cells slots h1 (z1.trans (by rw [h2]; simp)) (pm_stored h3 he o1 ?_) (h4.put z1 o1 (Nat.le_add_right B a)) h5 h6
        show H1[B + a]? = some (vp_cell (aC 0) (len, .inl (upd f i.toNatClampNeg x)))
        rw [e1, vp_cell_i, vp_cell_i, arrV_store]
        congr 2
        funext q
        by_cases hq : q = i.toNatClampNeg
        · subst hq
          simp [updV, upd, vp_nar]
          try rfl
        · simp [updV, upd, hq]
    · cases hf
  · cases hf
noncomputable def s_bast (n : Nat) : pm_S → Option pm_S := fun σ => match σ.2.2.1 with
  | .int x :: .int i :: .ref a :: st => match σ.2.2.2.1[a]? with
    | some (.inl (1, len, .inl f)) => bif pm_ix i len then some (n, σ.2.1, st, σ.2.2.2.1.set a (.inl (1, len, .inl (upd f i.toNatClampNeg (vp_nar .byte x)))), σ.2.2.2.2) else none
    | _ => none
  | _ => none
theorem k_bast {cc : ByteArray} {own : String} {nL pc : Nat} {ini : Bool} (hd : decode cc pc = .ok (.bastore, 1)) : pm_okF cc own nL ini pc (s_bast (pc + 1)) := by
  intro p l e R s m args below meth c D aC B b Q Cx hR1 hR2 lv st w σ' hf kk
  simp only [s_bast] at hf
  split at hf
  · rename_i x i a st
    split at hf
    · rename_i len f he
      cases hb : pm_ix i len with
      | false => rw [hb] at hf; cases hf
      | true =>
        rw [hb] at hf
        obtain rfl := Option.some.inj hf
        intro H locs ls cells slots h1 h2 h3 h4 h5 h6
        have hat : H[B + a]? = some (vp_cell (aC 1) (len, .inl f)) := h3 a _ (pm_w_at he)
        refine W.bast Cx.1 Cx.2.1 hat ((Cx.2.2.2.2.2.1.1.2 1 _ rfl).1 len (fun j => .int (f j))) (fun q => by cases q) (by show ¬ (i < 0 ∨ (arrV _ _ _).slots.size ≤ _); rw [arrV_size]; exact pm_ix_in hb) rfl rfl hd fun H1 e1 z1 o1 => ?_
        refine kk H1 _ ls cells slots h1 (z1.trans (by rw [h2]; simp)) (pm_stored h3 he o1 ?_) (h4.put z1 o1 (Nat.le_add_right B a)) h5 h6
        show H1[B + a]? = some (vp_cell (aC 1) (len, .inl (upd f i.toNatClampNeg (vp_nar .byte x))))
        rw [e1, vp_cell_i, vp_cell_i, arrV_store]
        congr 2
        funext q
        by_cases hq : q = i.toNatClampNeg
        · subst hq
          simp [updV, upd, vp_nar]
          try rfl
        · simp [updV, upd, hq]
    · cases hf
  · cases hf
noncomputable def s_zast (n : Nat) : pm_S → Option pm_S := fun σ => match σ.2.2.1 with
  | .int x :: .int i :: .ref a :: st => match σ.2.2.2.1[a]? with
    | some (.inl (2, len, .inl f)) => bif pm_ix i len then some (n, σ.2.1, st, σ.2.2.2.1.set a (.inl (2, len, .inl (upd f i.toNatClampNeg (vp_nar .boolean x)))), σ.2.2.2.2) else none
    | _ => none
  | _ => none
theorem k_zast {cc : ByteArray} {own : String} {nL pc : Nat} {ini : Bool} (hd : decode cc pc = .ok (.bastore, 1)) : pm_okF cc own nL ini pc (s_zast (pc + 1)) := by
  intro p l e R s m args below meth c D aC B b Q Cx hR1 hR2 lv st w σ' hf kk
  simp only [s_zast] at hf
  split at hf
  · rename_i x i a st
    split at hf
    · rename_i len f he
      cases hb : pm_ix i len with
      | false => rw [hb] at hf; cases hf
      | true =>
        rw [hb] at hf
        obtain rfl := Option.some.inj hf
        intro H locs ls cells slots h1 h2 h3 h4 h5 h6
        have hat : H[B + a]? = some (vp_cell (aC 2) (len, .inl f)) := h3 a _ (pm_w_at he)
        refine W.zast Cx.1 Cx.2.1 hat ((Cx.2.2.2.2.2.1.1.2 2 _ rfl).1 len (fun j => .int (f j))) (fun q => by cases q) (by show ¬ (i < 0 ∨ (arrV _ _ _).slots.size ≤ _); rw [arrV_size]; exact pm_ix_in hb) rfl rfl hd fun H1 e1 z1 o1 => ?_
        refine kk H1 _ ls cells slots h1 (z1.trans (by rw [h2]; simp)) (pm_stored h3 he o1 ?_) (h4.put z1 o1 (Nat.le_add_right B a)) h5 h6
        show H1[B + a]? = some (vp_cell (aC 2) (len, .inl (upd f i.toNatClampNeg (vp_nar .boolean x))))
        rw [e1, vp_cell_i, vp_cell_i, arrV_store]
        congr 2
        funext q
        by_cases hq : q = i.toNatClampNeg
        · subst hq
          simp [updV, upd, vp_nar]
          try rfl
        · simp [updV, upd, hq]
    · cases hf
  · cases hf
noncomputable def s_last (n : Nat) : pm_S → Option pm_S := fun σ => match σ.2.2.1 with
  | .long x :: .int i :: .ref a :: st => match σ.2.2.2.1[a]? with
    | some (.inl (3, len, .inr (.inl f))) => bif pm_ix i len then some (n, σ.2.1, st, σ.2.2.2.1.set a (.inl (3, len, .inr (.inl (vp_updL f i.toNatClampNeg x)))), σ.2.2.2.2) else none
    | _ => none
  | _ => none
theorem k_last {cc : ByteArray} {own : String} {nL pc : Nat} {ini : Bool} (hd : decode cc pc = .ok (.lastore, 1)) : pm_okF cc own nL ini pc (s_last (pc + 1)) := by
  intro p l e R s m args below meth c D aC B b Q Cx hR1 hR2 lv st w σ' hf kk
  simp only [s_last] at hf
  split at hf
  · rename_i x i a st
    split at hf
    · rename_i len f he
      cases hb : pm_ix i len with
      | false => rw [hb] at hf; cases hf
      | true =>
        rw [hb] at hf
        obtain rfl := Option.some.inj hf
        intro H locs ls cells slots h1 h2 h3 h4 h5 h6
        have hat : H[B + a]? = some (vp_cell (aC 3) (len, .inr (.inl f))) := h3 a _ (pm_w_at he)
        refine W.last Cx.1 Cx.2.1 hat ((Cx.2.2.2.2.2.1.1.2 3 _ rfl).1 len (fun j => .long (f j))) (fun q => by cases q) (by show ¬ (i < 0 ∨ (arrV _ _ _).slots.size ≤ _); rw [arrV_size]; exact pm_ix_in hb) rfl rfl hd fun H1 e1 z1 o1 => ?_
        refine kk H1 _ ls cells slots h1 (z1.trans (by rw [h2]; simp)) (pm_stored h3 he o1 ?_) (h4.put z1 o1 (Nat.le_add_right B a)) h5 h6
        show H1[B + a]? = some (vp_cell (aC 3) (len, .inr (.inl (vp_updL f i.toNatClampNeg x))))
        rw [e1, vp_cell_l, vp_cell_l, arrV_store]
        congr 2
        funext q
        by_cases hq : q = i.toNatClampNeg
        · subst hq
          simp [updV, vp_updL, vp_nar]
          try rfl
        · simp [updV, vp_updL, hq]
    · cases hf
  · cases hf
end
