section
/-- a step of the law, which may read its script of L ints xs -/
noncomputable def pm_okX (cc : ByteArray) (own : String) (nL L : Nat) (xs : Nat → Int32) (pc : Nat) (f : pm_S → Option pm_S) : Prop :=
  ∀ (p : Program) (l : Launch) (e : Env) (R : Room) (s : State) (m : MethodId) (args : Array Value) (below : List Frame) (meth : Method) (c : Code) (D : va_G) (aC : Nat → ClassId) (B : Nat) (b : Nat → Option Nat) (Q : State → Prop),
    pm_C p s m args meth c cc own nL false D aC B b → ∀ bb : Nat, b 0 = some bb → va_X bb L xs s s.heap → bb < B → 1 ≤ R.frames → 100 ≤ R.locals → ∀ (lv : List (Nat × Value)) (st : List Value) (w : pm_H × Nat × Nat) (σ' : pm_S), f (pc, lv, st, w) = some σ' →
      pm_W p l e R s m args below meth c nL D aC B b Q σ' → pm_W p l e R s m args below meth c nL D aC B b Q (pc, lv, st, w)
theorem pm_okX_of {cc : ByteArray} {own : String} {nL L pc : Nat} {xs : Nat → Int32} {f : pm_S → Option pm_S} (h : pm_okF cc own nL false pc f) : pm_okX cc own nL L xs pc f :=
  fun p l e R s m args below meth c D aC B b Q C _ _ _ _ h1 h2 => h p l e R s m args below meth c D aC B b Q C h1 h2
noncomputable def s_sld (L : Nat) (xs : Nat → Int32) (n : Nat) : pm_S → Option pm_S := fun σ => match σ.2.2.1 with
  | .int i :: .retAddr 0 :: st => bif pm_ix i L then some (n, σ.2.1, .int (xs i.toNatClampNeg) :: st, σ.2.2.2) else none
  | _ => none
theorem k_sld {cc : ByteArray} {own : String} {nL L pc : Nat} {xs : Nat → Int32} (hd : decode cc pc = .ok (.iaload, 1)) : pm_okX cc own nL L xs pc (s_sld L xs (pc + 1)) := by
  intro p l e R s m args below meth c D aC B b Q Cx bb hb0 hX hbB hR1 hR2 lv st w σ' hf kk
  simp only [s_sld] at hf
  split at hf
  · rename_i i st
    cases hb : pm_ix i L with
    | false => rw [hb] at hf; cases hf
    | true =>
      rw [hb] at hf
      obtain rfl := Option.some.inj hf
      intro H locs ls cells slots h1 h2 h3 h4 h5 h6
      simp only [List.map_cons, pm_v, hb0]
      exact va_sld (A := fun q => B ≤ q) Cx.1 Cx.2.1 hX (Nat.lt_of_lt_of_le hbB Cx.2.2.2.2.2.2.1) (Nat.not_le.mpr hbB) h4 (pm_ix_in hb) hd (kk H locs ls cells slots h1 h2 h3 h4 h5 h6)
  · cases hf
noncomputable def s_slen (L : Nat) (n : Nat) : pm_S → Option pm_S := fun σ => match σ.2.2.1 with
  | .retAddr 0 :: st => some (n, σ.2.1, .int (Int32.ofNat L) :: st, σ.2.2.2)
  | _ => none
theorem k_slen {cc : ByteArray} {own : String} {nL L pc : Nat} {xs : Nat → Int32} (hd : decode cc pc = .ok (.arraylength, 1)) : pm_okX cc own nL L xs pc (s_slen L (pc + 1)) := by
  intro p l e R s m args below meth c D aC B b Q Cx bb hb0 hX hbB hR1 hR2 lv st w σ' hf kk
  simp only [s_slen] at hf
  split at hf
  · rename_i st
    obtain rfl := Option.some.inj hf
    intro H locs ls cells slots h1 h2 h3 h4 h5 h6
    simp only [List.map_cons, pm_v, hb0]
    exact va_slen (A := fun q => B ≤ q) Cx.1 Cx.2.1 hX (Nat.lt_of_lt_of_le hbB Cx.2.2.2.2.2.2.1) (Nat.not_le.mpr hbB) h4 hd (kk H locs ls cells slots h1 h2 h3 h4 h5 h6)
  · cases hf
noncomputable def s_tsw (lo hi : Int) (ts : List Nat) (d : Nat) : pm_S → Option pm_S := fun σ => match σ.2.2.1 with
  | .int x :: st => bif decide (x.toInt < lo) || decide (hi < x.toInt) then some (d, σ.2.1, st, σ.2.2.2) else (match ts[(x.toInt - lo).toNat]? with | some t => some (t, σ.2.1, st, σ.2.2.2) | none => none)
  | _ => none
theorem k_tsw {cc : ByteArray} {own : String} {nL pc : Nat} {ini : Bool} {dflt lo hi : Int} {offs : Array Int} {len d : Nat} {ts : List Nat} (hd : decode cc pc = .ok (.tableswitch dflt lo hi offs, len)) (h0 : (pc : Int) + dflt = (d : Int)) (ht : offs.toList.map (fun o => (pc : Int) + o) = ts.map (fun t : Nat => (t : Int))) : pm_okF cc own nL ini pc (s_tsw lo hi ts d) := by
  intro p l e R s m args below meth c D aC B b Q Cx hR1 hR2 lv st w σ' hf kk
  simp only [s_tsw] at hf
  split at hf
  · rename_i x st
    cases hb : (decide (x.toInt < lo) || decide (hi < x.toInt)) with
    | true =>
      rw [hb] at hf
      obtain rfl := Option.some.inj hf
      intro H locs ls cells slots h1 h2 h3 h4 h5 h6
      refine lv_tableOut Cx.1 Cx.2.1 hd ?_ h0 (kk H locs ls cells slots h1 h2 h3 h4 h5 h6)
      simpa using hb
    | false =>
      rw [hb] at hf
      simp only [cond_false] at hf
      have hb2 : ¬ x.toInt < lo ∧ ¬ hi < x.toInt := by simpa using hb
      split at hf
      · rename_i t htt
        obtain rfl := Option.some.inj hf
        have e1 : (offs.toList.map (fun o => (pc : Int) + o))[(x.toInt - lo).toNat]? = some (t : Int) := by rw [ht, List.getElem?_map, htt]; rfl
        rw [List.getElem?_map] at e1
        cases ho : offs.toList[(x.toInt - lo).toNat]? with
        | none => rw [ho] at e1; cases e1
        | some o =>
          rw [ho] at e1
          intro H locs ls cells slots h1 h2 h3 h4 h5 h6
          exact lv_tableIn Cx.1 Cx.2.1 hd hb2.1 hb2.2 (by rw [← Array.getElem?_toList]; exact ho) (Option.some.inj e1) (kk H locs ls cells slots h1 h2 h3 h4 h5 h6)
      · cases hf
  · cases hf
/-- tables in blocks: each with a bound above its places -/
noncomputable def pm_tr : List (Nat × List (Nat × pm_I)) → Nat → Option pm_I
  | [], _ => none
  | q :: l, pc => bif Nat.blt pc q.1 then pm_at q.2 pc else pm_tr l pc
theorem pm_tr_in {pc : Nat} {x : pm_I} : ∀ {l : List (Nat × List (Nat × pm_I))}, pm_tr l pc = some x → ∃ q ∈ l, (pc, x) ∈ q.2
  | [], h => by cases h
  | q :: l, h => by
    unfold pm_tr at h
    cases hb : Nat.blt pc q.1 with
    | true =>
      rw [hb] at h
      exact ⟨q, List.mem_cons_self, pm_at_in h⟩
    | false =>
      rw [hb] at h
      obtain ⟨q', h1, h2⟩ := pm_tr_in (l := l) h
      exact ⟨q', List.mem_cons_of_mem _ h1, h2⟩
/-- a row of the law is sound -/
noncomputable def pm_okL (P : List (Nat × pm_M)) (L : Nat) (xs : Nat → Int32) (q : Nat × pm_I) : Prop := match q.2 with
  | .inl f => pm_okX cL_law RL 4 L xs q.1 f
  | .inr (.inl (y, k, ci, mc, ms)) => ∃ I : pm_M, pm_at P y = some I ∧ I.2.2.2.2.2.1 = mc ∧ I.2.2.2.2.2.2.1 = ms ∧ pm_okC cL_law RL 4 false q.1 I.1 I.2.1 I.2.2.1 I.2.2.2.1 k ci mc ms
  | .inr (.inr kd) => kd = 2 ∧ decode cL_law q.1 = .ok (.ireturn, 1)
theorem pm_t0 {w : Cond} (i : Nat) (h : (k2_sels lw_privs)[i]? = some w) (hg : goodWord w = true) : w ∈ pm_T := List.mem_filter.mpr ⟨List.mem_append_left _ (List.mem_of_getElem? h), hg⟩
end
