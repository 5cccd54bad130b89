section
/-- name, code, locals, answer's type, class, constructor, cells, slots, rows -/
noncomputable abbrev pm_M : Type := MethodName × ByteArray × Nat × Option FieldType × Bool × Nat × Nat × List (Nat × pm_I)
/-- the methods' runs, calls at most d deep -/
noncomputable def pm_Rt (P : List (Nat × pm_M)) : Nat → pm_Call
  | 0 => fun _ _ _ _ _ => False
  | d + 1 => fun y h as h' r => ∃ I : pm_M, pm_at P y = some I ∧ (lg_sl as).length ≤ I.2.2.1 ∧ pm_Go (pm_at I.2.2.2.2.2.2.2) (pm_Rt P d) (0, lv_args 0 as, [], h, I.2.2.2.2.2.1, I.2.2.2.2.2.2.1) (h', r)
/-- a return of the pure machine is one of the machine -/
noncomputable def pm_okR (cc : ByteArray) (ret : Option FieldType) (pc kd : Nat) : Prop := match kd with
  | 0 => ret = none ∧ decode cc pc = .ok (.return_, 1)
  | 1 => ret = some .int ∧ decode cc pc = .ok (.ireturn, 1)
  | 2 => ret = some .boolean ∧ decode cc pc = .ok (.ireturn, 1)
  | 3 => ret = some .long ∧ decode cc pc = .ok (.lreturn, 1)
  | 4 => ret = some .byte ∧ decode cc pc = .ok (.ireturn, 1)
  | _ => ret = some .char ∧ decode cc pc = .ok (.ireturn, 1)
/-- a row is sound: its step, its call, its return -/
noncomputable def pm_ok (P : List (Nat × pm_M)) (cc : ByteArray) (own : String) (nL : Nat) (ini : Bool) (ret : Option FieldType) (q : Nat × pm_I) : Prop := match q.2 with
  | .inl f => pm_okF cc own nL ini q.1 f
  | .inr (.inl (y, k, ci, mc, ms)) => ∃ I : pm_M, pm_at P y = some I ∧ I.2.2.2.2.2.1 = mc ∧ I.2.2.2.2.2.2.1 = ms ∧ pm_okC cc own nL ini q.1 I.1 I.2.1 I.2.2.1 I.2.2.2.1 k ci mc ms
  | .inr (.inr kd) => pm_okR cc ret q.1 kd
noncomputable def pm_okM (P : List (Nat × pm_M)) (I : pm_M) : Prop := plainFor I.1 = true ∧ (I.2.2.2.2.1 = true → I.1.name = "<init>") ∧ ∀ q ∈ I.2.2.2.2.2.2.2, pm_ok P I.2.1 I.1.cls I.2.2.1 I.2.2.2.2.1 I.2.2.2.1 q
section PMR
variable {p : Program} {l : Launch} {e : Env} {R : Room} {s : State} {m : MethodId} {args : Array Value} {below : List Frame} {meth : Method} {c : Code} {nL : Nat} {D : va_G} {aC : Nat → ClassId} {B : Nat} {b : Nat → Option Nat} {Q : State → Prop}
/-- a run of the pure machine is one of the machine -/
theorem pm_run {look : Nat → Option pm_I} {call : pm_Call} {o : pm_H × Option Value}
    (hF : ∀ (pc : Nat) (f : pm_S → Option pm_S), look pc = some (.inl f) → ∀ (lv : List (Nat × Value)) (st : List Value) (w : pm_H × Nat × Nat) (σ' : pm_S), f (pc, lv, st, w) = some σ' → pm_W p l e R s m args below meth c nL D aC B b Q σ' → pm_W p l e R s m args below meth c nL D aC B b Q (pc, lv, st, w))
    (hC : ∀ (pc y k : Nat) (ci : Option Nat) (mc ms : Nat), look pc = some (.inr (.inl (y, k, ci, mc, ms))) → ∀ (lv : List (Nat × Value)) (st : List Value) (w : pm_H × Nat × Nat) (h' : pm_H) (r : Option Value), call y w.1 (st.take k).reverse h' r → pm_chk k ci mc ms st w → pm_W p l e R s m args below meth c nL D aC B b Q (pc + 3, lv, r.toList ++ st.drop k, h', w.2.1 - mc, w.2.2 - ms) → pm_W p l e R s m args below meth c nL D aC B b Q (pc, lv, st, w))
    (hR : ∀ (pc kd : Nat), look pc = some (.inr (.inr kd)) → ∀ (lv : List (Nat × Value)) (st : List Value) (w : pm_H × Nat × Nat), pm_ret kd st w.1 o → pm_W p l e R s m args below meth c nL D aC B b Q (pc, lv, st, w)) :
    ∀ (n : Nat) (σ : pm_S), pm_go look call n σ o → pm_W p l e R s m args below meth c nL D aC B b Q σ := by
  intro n
  induction n with
  | zero => intro σ h; exact h.elim
  | succ n ih =>
    intro σ h
    obtain ⟨pc, lv, st, w⟩ := σ
    unfold pm_go at h
    simp only at h
    cases ha : look pc with
    | none => rw [ha] at h; exact h.elim
    | some x =>
      rw [ha] at h
      match x, ha, h with
      | .inl f, ha, h =>
        simp only at h
        cases hf : f (pc, lv, st, w) with
        | none => rw [hf] at h; exact h.elim
        | some σ' =>
          rw [hf] at h
          exact hF pc f ha lv st w σ' hf (ih σ' h)
      | .inr (.inl (y, k, ci, mc, ms)), ha, h =>
        obtain ⟨h', r, c1, c2, c3⟩ := h
        exact hC pc y k ci mc ms ha lv st w h' r c1 c2 (ih _ c3)
      | .inr (.inr kd), ha, h => exact hR pc kd ha lv st w h
end PMR
theorem pm_args (B : Nat) (b : Nat → Option Nat) : ∀ (as : List Value) (i : Nat), lv_args i (as.map (pm_v B b)) = (lv_args i as).map (pm_q B b)
  | [], _ => rfl
  | v :: as, i => by
    simp only [List.map_cons, lv_args, pm_v_cat]
    rw [pm_args B b as]
    rfl
theorem pm_sl (B : Nat) (b : Nat → Option Nat) (as : List Value) : (lg_sl (as.map (pm_v B b))).length = (lg_sl as).length := by
  induction as with
  | nil => rfl
  | cons v as ih =>
    simp only [lg_sl, List.map_cons, List.flatMap_cons, List.length_append, pm_v_cat] at ih ⊢
    rw [ih]
    split <;> rfl
/-- a method of a plain name, or with no entry in place of its code -/
theorem pm_ofW {l : Launch} {y : MethodName} {ws ws' : List Cond} {rm : Room} {Pc : Array Value → State → Prop} {Qc : Array Value → State → Outcome → State → Prop} {mc ms : Nat} {free : Addr → Prop} {cc : ByteArray} {maxL : Nat} {ret : Option FieldType}
    (hy : plainFor y = true) (hw : ws = Cond.code y cc maxL ret :: ws')
    (body : ∀ p e s m args below meth c s₁, BodyLoose p l y (headSpec ws rm) cc maxL ret e s m args below meth c s₁ → c.maxLocals = maxL → Pc args s →
      W p l e (headSpec ws rm).room s m args below meth c s.heap [] 0 0 (MQ below Qc args s mc ms free) (entryFrame m args maxL)) : Met l y ws rm Pc Qc mc ms free := by
  refine MetFree.of_bodySF (code := cc) (maxLocals := maxL) (ret := ret) hy ?_ ?_
  · intro args s m h hn
    obtain ⟨meth, c, h1, h2, h3, h4, h5, h6, -, -⟩ := Cond.code_spec hn (atoms_spec (ws := ws) h _ (by rw [hw]; exact List.mem_cons_self))
    exact ⟨meth, c, h1, h2, h3, h4, h5, h6⟩
  · intro p e s m args below meth c s₁ Bd hml hP _
    have hh0 : s₁.heap = s.heap := by rw [Bd.state]; rfl
    obtain ⟨t, a1, o, b1, b2, b3⟩ := body p e s m args below meth c s₁ Bd hml hP s₁ hh0 (Stand.of_body Bd)
    exact ⟨t, o, a1, b1, b2, ⟨b3.1, b3.2⟩⟩
/-- every method of the program, calls at most d deep -/
theorem pm_sound {P : List (Nat × pm_M)} (hP : ∀ q ∈ P, pm_okM P q.2) (l : Launch) (D : va_G) (aC : Nat → ClassId) (B : Nat) (b : Nat → Option Nat) : ∀ (d y : Nat) (h : pm_H) (as : List Value) (h' : pm_H) (r : Option Value) (I : pm_M), pm_at P y = some I → pm_Rt P d y h as h' r → pm_Mt l D aC B b I.1 I.2.1 I.2.2.1 I.2.2.2.1 (d + 1) (100 * (d + 1)) I.2.2.2.2.2.1 I.2.2.2.2.2.2.1 h as h' r := by
  intro d
  induction d with
  | zero => intro y h as h' r I _ hr; exact hr.elim
  | succ d ih =>
    intro y h as h' r I hI hr
    obtain ⟨I', hI', hlen, n, hgo⟩ := hr
    obtain rfl : I' = I := Option.some.inj (hI'.symm.trans hI)
    have hok := hP _ (pm_at_in hI)
    obtain ⟨yn, bytes, maxL, ret, ini, mc, ms, tab⟩ := I'
    obtain ⟨hpl, hini, hrows⟩ := hok
    dsimp only at hlen hgo hpl hini hrows ⊢
    refine pm_ofW (cc := bytes) (maxL := maxL) (ret := ret) hpl rfl ?_
    intro p e s m args below meth c s₁ Bd hml hv
    obtain ⟨rfl, hsz, hPw, hK⟩ := hv
    have hts := atoms_spec (ws := .code yn bytes maxL ret :: pm_T) Bd.pre
    have hown : s.vm.findClass yn.cls = some m.cls := findClass_of_methodNamed Bd.named
    have hlocks := Bd.notSynchronized
    have hBs : B ≤ s.heap.size := by rw [hsz]; exact Nat.le_add_right _ _
    have Cx : pm_C p s m ((as.map (pm_v B b)).toArray) meth c bytes yn.cls maxL ini D aC B b := ⟨Bd.exec, Bd.bytes, hml, hown, fun w hw => hts w (List.mem_cons_of_mem _ hw), hK, hBs, fun hi => by rw [← hini hi]; exact (name_of_methodNamed Bd.named Bd.method).1⟩
    have hl := lv_entry (as.map (pm_v B b)) (n := maxL) (by rw [pm_sl]; exact hlen)
    rw [pm_args] at hl
    rw [lg_entry_eq]
    refine pm_run (look := pm_at tab) (call := pm_Rt P d) (o := (h', r)) ?_ ?_ ?_ n _ hgo s.heap [] _ 0 0 hl hsz hPw va_S.rf (by show 0 + mc ≤ mc; omega) (by show 0 + ms ≤ ms; omega)
    · intro pc f ha lv st w σ' hf k
      have hq : pm_okF bytes yn.cls maxL ini pc f := hrows _ (pm_at_in ha)
      exact hq p l e _ s m _ below meth c D aC B b _ Cx (by show 1 ≤ d + 1 + 1; omega) (by show 100 ≤ 100 * (d + 1 + 1); omega) lv st w σ' hf k
    · intro pc y2 k ci mc2 ms2 ha lv st w h2 r2 hcall hch kk
      obtain ⟨I2, e1, e2, e3, e4⟩ : ∃ I : pm_M, pm_at P y2 = some I ∧ I.2.2.2.2.2.1 = mc2 ∧ I.2.2.2.2.2.2.1 = ms2 ∧ pm_okC bytes yn.cls maxL ini pc I.1 I.2.1 I.2.2.1 I.2.2.2.1 k ci mc2 ms2 := hrows _ (pm_at_in ha)
      subst e2; subst e3
      exact e4 p l e _ s m _ below meth c D aC B b _ Cx (d + 1) (100 * (d + 1)) (by show d + 1 + 1 ≤ d + 1 + 1; omega) (by show 100 * (d + 1) + 100 ≤ 100 * (d + 1 + 1); omega) lv st w h2 r2 hch (ih y2 w.1 _ h2 r2 I2 e1 hcall) kk
    · intro pc kd ha lv st w hret
      have hq : pm_okR bytes ret pc kd := hrows _ (pm_at_in ha)
      intro H locs ls cells slots h1 h2 h3 h4 h5 h6
      dsimp only at h1 h2 h3 h5 h6
      have hQ : ∀ t : State, t.heap = H → ∀ r0 : Option Value, (h', r) = (w.1, r0) → pm_Qc D aC B b h' r ((as.map (pm_v B b)).toArray) s (.returned (r0.map (pm_v B b))) t := by
        intro t ht r0 ho
        cases ho
        refine ⟨rfl, by rw [ht]; exact h2, by rw [ht]; exact h3, by rw [ht]; exact h4.1, fun q hq => ?_⟩
        rw [ht]
        exact h4.2.1 q (Nat.lt_of_lt_of_le hq hBs) (Nat.not_le.mpr hq)
      have hcc : cells ≤ mc := by
        have z : cells + w.2.1 ≤ mc := h5
        omega
      have hss : slots ≤ ms := by
        have z : slots + w.2.2 ≤ ms := h6
        omega
      refine W.widen hcc hss ?_
      match kd, hq, hret with
      | 0, hq, hret =>
        obtain ⟨rfl, ho⟩ := hret
        exact W.vret Bd.exec Bd.bytes (Bd.returns.trans hq.1) (fun t ht hW => hQ t ht none ho) h4.2.2 hq.2
      | 1, hq, hret =>
        obtain ⟨v, rfl, ho⟩ := hret
        exact W.iret Bd.exec Bd.bytes (Bd.returns.trans hq.1) (fun t ht hW => hQ t ht (some (.int v)) ho) h4.2.2 hq.2
      | 2, hq, hret =>
        obtain ⟨v, rfl, hv, ho⟩ := hret
        exact W.zret Bd.exec Bd.bytes (Bd.returns.trans hq.1) (by rcases hv with rfl | rfl <;> rfl) (fun t ht hW => hQ t ht (some (.int v)) ho) h4.2.2 hq.2
      | 4, hq, hret =>
        obtain ⟨v, rfl, hv, ho⟩ := hret
        exact W.zret Bd.exec Bd.bytes (Bd.returns.trans hq.1) hv (fun t ht hW => hQ t ht (some (.int v)) ho) h4.2.2 hq.2
      | k + 5, hq, hret =>
        obtain ⟨v, rfl, hv, ho⟩ := hret
        exact W.zret Bd.exec Bd.bytes (Bd.returns.trans hq.1) hv (fun t ht hW => hQ t ht (some (.int v)) ho) h4.2.2 hq.2
      | 3, hq, hret =>
        obtain ⟨v, rfl, ho⟩ := hret
        exact W.lret Bd.exec Bd.bytes (Bd.returns.trans hq.1) (fun t ht hW => hQ t ht (some (.long v)) ho) h4.2.2 hq.2
end
section
/-! THE PURE MACHINE, part 6: the law's own rows (its script), switches, tables in blocks -/
end
