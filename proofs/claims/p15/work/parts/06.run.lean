/-! THE PURE MACHINE, part 4: calls, returns, runs; methods by their runs -/
noncomputable def pm_at {α : Type} : List (Nat × α) → Nat → Option α
  | [], _ => none
  | q :: l, i => bif Nat.beq q.1 i then some q.2 else pm_at l i
theorem pm_at_in {α : Type} {i : Nat} {v : α} : ∀ {l : List (Nat × α)}, pm_at l i = some v → (i, v) ∈ l
  | [], h => by cases h
  | q :: l, h => by
    unfold pm_at at h
    cases hb : Nat.beq q.1 i with
    | true =>
      rw [hb] at h
      have h1 : q.1 = i := Nat.eq_of_beq_eq_true hb
      have h2 : q.2 = v := Option.some.inj h
      subst h1; subst h2
      exact List.mem_cons_self
    | false =>
      rw [hb] at h
      exact List.mem_cons_of_mem _ (pm_at_in h)
/-- what a call answers and leaves: method, heap, arguments, heap behind it, answer -/
noncomputable abbrev pm_Call : Type := Nat → pm_H → List Value → pm_H → Option Value → Prop
/-- what is tested ahead of a call -/
noncomputable def pm_chk (k : Nat) (ci : Option Nat) (mc ms : Nat) (st : List Value) (w : pm_H × Nat × Nat) : Prop :=
  k ≤ st.length ∧ (∀ q : Nat, ci = some q → (q < 100 → ∃ (a : Nat) (fs : List Value) (as : List Value), (st.take k).reverse = .ref a :: as ∧ w.1[a]? = some (.inr (q, fs))) ∧ (100 ≤ q → ∃ (i : Nat) (as : List Value), i < 8 ∧ (st.take k).reverse = .retAddr (4 + i) :: as)) ∧ pm_sz (st.drop k) ≤ 8 ∧ mc ≤ w.2.1 ∧ ms ≤ w.2.2
noncomputable def pm_ret (kd : Nat) (st : List Value) (h : pm_H) (o : pm_H × Option Value) : Prop := match kd with
  | 0 => st = [] ∧ o = (h, none)
  | 1 => ∃ v : Int32, st = [.int v] ∧ o = (h, some (.int v))
  | 2 => ∃ v : Int32, st = [.int v] ∧ (v = 0 ∨ v = 1) ∧ o = (h, some (.int v))
  | 3 => ∃ v : Int64, st = [.long v] ∧ o = (h, some (.long v))
  | 4 => ∃ v : Int32, st = [.int v] ∧ narrow .byte (.int v) = .int v ∧ o = (h, some (.int v))
  | _ => ∃ v : Int32, st = [.int v] ∧ narrow .char (.int v) = .int v ∧ o = (h, some (.int v))
noncomputable def pm_go (look : Nat → Option pm_I) (call : pm_Call) : Nat → pm_S → pm_H × Option Value → Prop
  | 0, _, _ => False
  | n + 1, σ, o => match look σ.1 with
    | none => False
    | some (.inl f) => match f σ with
      | none => False
      | some σ' => pm_go look call n σ' o
    | some (.inr (.inl (y, k, ci, mc, ms))) => ∃ (h' : pm_H) (r : Option Value), call y σ.2.2.2.1 (σ.2.2.1.take k).reverse h' r ∧ pm_chk k ci mc ms σ.2.2.1 σ.2.2.2 ∧ pm_go look call n (σ.1 + 3, σ.2.1, r.toList ++ σ.2.2.1.drop k, h', σ.2.2.2.2.1 - mc, σ.2.2.2.2.2 - ms) o
    | some (.inr (.inr kd)) => pm_ret kd σ.2.2.1 σ.2.2.2.1 o
/-- from here the run ends so -/
noncomputable def pm_Go (look : Nat → Option pm_I) (call : pm_Call) (σ : pm_S) (o : pm_H × Option Value) : Prop := ∃ n, pm_go look call n σ o
theorem Go_st {look : Nat → Option pm_I} {call : pm_Call} {σ σ' : pm_S} {o : pm_H × Option Value} {f : pm_S → Option pm_S} (h1 : look σ.1 = some (.inl f)) (h2 : f σ = some σ') (k : pm_Go look call σ' o) : pm_Go look call σ o := by
  obtain ⟨n, hn⟩ := k
  refine ⟨n + 1, ?_⟩
  unfold pm_go
  rw [h1]
  simp only [h2]
  exact hn
theorem Go_call {look : Nat → Option pm_I} {call : pm_Call} {σ : pm_S} {o : pm_H × Option Value} {y k mc ms : Nat} {ci : Option Nat} {h' : pm_H} {r : Option Value} (h1 : look σ.1 = some (.inr (.inl (y, k, ci, mc, ms)))) (hc : call y σ.2.2.2.1 (σ.2.2.1.take k).reverse h' r) (h2 : pm_chk k ci mc ms σ.2.2.1 σ.2.2.2) (kk : pm_Go look call (σ.1 + 3, σ.2.1, r.toList ++ σ.2.2.1.drop k, h', σ.2.2.2.2.1 - mc, σ.2.2.2.2.2 - ms) o) : pm_Go look call σ o := by
  obtain ⟨n, hn⟩ := kk
  refine ⟨n + 1, ?_⟩
  unfold pm_go
  rw [h1]
  exact ⟨h', r, hc, h2, hn⟩
theorem Go_ret {look : Nat → Option pm_I} {call : pm_Call} {σ : pm_S} {o : pm_H × Option Value} {kd : Nat} (h1 : look σ.1 = some (.inr (.inr kd))) (h2 : pm_ret kd σ.2.2.1 σ.2.2.2.1 o) : pm_Go look call σ o := by
  refine ⟨1, ?_⟩
  unfold pm_go
  rw [h1]
  exact h2
theorem Go_if {look : Nat → Option pm_I} {call : pm_Call} {z : Bool} {t n : Nat} {ρ : List (Nat × Value) × List Value × pm_H × Nat × Nat} {o : pm_H × Option Value} (ht : z = true → pm_Go look call (t, ρ) o) (hf : z = false → pm_Go look call (n, ρ) o) : pm_Go look call (bif z then t else n, ρ) o := by
  cases z
  · exact hf rfl
  · exact ht rfl
noncomputable def pm_Pc (D : va_G) (aC : Nat → ClassId) (B : Nat) (b : Nat → Option Nat) (h : pm_H) (as : List Value) : Array Value → State → Prop := fun v U => v = (as.map (pm_v B b)).toArray ∧ U.heap.size = B + h.length ∧ va_P D vwCl (pm_w B b aC h) U.heap ∧ pm_K D aC B b U
noncomputable def pm_Qc (D : va_G) (aC : Nat → ClassId) (B : Nat) (b : Nat → Option Nat) (h' : pm_H) (r : Option Value) : Array Value → State → Outcome → State → Prop := fun _ st oc t => oc = .returned (r.map (pm_v B b)) ∧ t.heap.size = B + h'.length ∧ va_P D vwCl (pm_w B b aC h') t.heap ∧ st.heap.size ≤ t.heap.size ∧ ∀ q : Nat, q < B → t.heap[q]? = st.heap[q]?
theorem pm_Pc_blind (D : va_G) (aC : Nat → ClassId) (B : Nat) (b : Nat → Option Nat) (h : pm_H) (as : List Value) : FrameBlind (pm_Pc D aC B b h as) := fun _ _ _ _ q => ⟨q.1, q.2.1, q.2.2.1, q.2.2.2.call⟩
/-- a method's contract of one run: from this heap and these arguments it comes to that heap and that answer -/
noncomputable def pm_Mt (l : Launch) (D : va_G) (aC : Nat → ClassId) (B : Nat) (b : Nat → Option Nat) (y : MethodName) (bytes : ByteArray) (maxL : Nat) (ret : Option FieldType) (rF rL mc ms : Nat) (h : pm_H) (as : List Value) (h' : pm_H) (r : Option Value) : Prop :=
  Met l y (.code y bytes maxL ret :: pm_T) { frames := rF, cells := mc, slots := ms, locals := rL } (pm_Pc D aC B b h as) (pm_Qc D aC B b h' r) mc ms (fun q => B ≤ q)
section PMC
variable {p : Program} {l : Launch} {e : Env} {R : Room} {s : State} {m : MethodId} {args : Array Value} {below : List Frame} {meth : Method} {c : Code} {D : va_G} {aC : Nat → ClassId} {B : Nat} {b : Nat → Option Nat} {Q : State → Prop}
theorem pm_called {H : Heap} {locs : List Loc} {cells slots mc ms pc : Nat} {ls : Array Slot} {st0 rest : List Value} {h' : pm_H} {r : Option Value} {a : Array Value} (hr : va_Run p l e R s m args below meth c H locs cells slots mc ms (F0 m pc ls st0) rest (pm_Qc D aC B b h' r a) (fun q => B ≤ q)) (hS : va_S (fun q => B ≤ q) s.heap H locs) (hB : B ≤ s.heap.size)
    (kk : ∀ (H1 : Heap) (locs1 : List Loc), H1.size = B + h'.length → va_P D vwCl (pm_w B b aC h') H1 → va_S (fun q => B ≤ q) s.heap H1 locs1 → W p l e R s m args below meth c H1 locs1 (cells + mc) (slots + ms) Q (F0 m (pc + 3) ls ((r.map (pm_v B b)).toList ++ rest))) : W p l e R s m args below meth c H locs cells slots Q (F0 m pc ls st0) := by
  intro T hT X
  obtain ⟨v, st₀, t, T', L, h0, X', hL, e1, e2, ⟨hv, hz, hP, hg, hk⟩, st⟩ := hr T hT X
  have hv : v = r.map (pm_v B b) := by injection hv
  subst hv
  rw [h0] at hg hk
  obtain ⟨t2, a1, b1⟩ := kk T'.heap (locs ++ L) (by rw [e1]; exact hz) (by rw [e1]; exact hP) ⟨Nat.le_trans hS.1 (by rw [e1]; exact hg), fun q h1 h2 => by rw [e1, hk q (Nat.not_le.mp h2)]; exact hS.2.1 q h1 h2, fun q hq => by
      rcases List.mem_append.mp hq with h | h
      · exact hS.2.2 q h
      · exact hL q h⟩ T' rfl X'
  exact ⟨t2, st t2 a1, b1⟩
end PMC
/-- a call of the pure machine is one of the machine -/
noncomputable def pm_okC (cc : ByteArray) (own : String) (nL : Nat) (ini : Bool) (pc : Nat) (y : MethodName) (bytes : ByteArray) (maxL : Nat) (ret : Option FieldType) (k : Nat) (ci : Option Nat) (mc ms : Nat) : Prop :=
  ∀ (p : Program) (l : Launch) (e : Env) (R : Room) (s : State) (m : MethodId) (args : Array Value) (below : List Frame) (meth : Method) (c : Code) (D : va_G) (aC : Nat → ClassId) (B : Nat) (b : Nat → Option Nat) (Q : State → Prop),
    pm_C p s m args meth c cc own nL ini D aC B b → ∀ (rF rL : Nat), rF + 1 ≤ R.frames → rL + 100 ≤ R.locals → ∀ (lv : List (Nat × Value)) (st : List Value) (w : pm_H × Nat × Nat) (h' : pm_H) (r : Option Value), pm_chk k ci mc ms st w → pm_Mt l D aC B b y bytes maxL ret rF rL mc ms w.1 (st.take k).reverse h' r →
      pm_W p l e R s m args below meth c nL D aC B b Q (pc + 3, lv, r.toList ++ st.drop k, h', w.2.1 - mc, w.2.2 - ms) → pm_W p l e R s m args below meth c nL D aC B b Q (pc, lv, st, w)
theorem pm_good {y : MethodName} {bytes : ByteArray} {maxL : Nat} {ret : Option FieldType} (hcw : Cond.code y bytes maxL ret ∈ pm_T) : GoodIn pm_T (.code y bytes maxL ret :: pm_T) := by
  intro w hw
  rcases List.mem_cons.mp hw with rfl | hw
  · exact ⟨hcw, pm_T_word hcw⟩
  · exact ⟨hw, pm_T_word hw⟩
theorem pm_st_split {st : List Value} {k : Nat} (h : k ≤ st.length) : st = (st.take k).reverse.reverse ++ st.drop k := by
  rw [List.reverse_reverse, List.take_append_drop]
theorem pm_len_as {st : List Value} {k : Nat} (h : k ≤ st.length) : (st.take k).reverse.length = k := by
  rw [List.length_reverse, List.length_take]; omega
theorem pm_toList (B : Nat) (b : Nat → Option Nat) (r : Option Value) (st : List Value) : (r.toList ++ st).map (pm_v B b) = (r.map (pm_v B b)).toList ++ st.map (pm_v B b) := by
  cases r <;> simp
theorem k_callV {cc : ByteArray} {own : String} {nL pc : Nat} {ini : Bool} {index : Nat} {y : MethodName} {bytes : ByteArray} {maxL : Nat} {ret : Option FieldType} {n ci mc ms N : Nat} {T : u_T} (hd : decode cc pc = .ok (.invokevirtual index, 3)) (hc : vwCl[ci]? = some (y.cls, T, N)) (hcw : Cond.code y bytes maxL ret ∈ pm_T) (hw1 : Cond.methodLink own index y ∈ pm_T) (hw2 : Cond.instanceMethod y ∈ pm_T) (hw3 : Cond.selects y.cls y y ∈ pm_T) (hw4 : Cond.initialized y.cls ∈ pm_T) (hdesc : y.cls ≠ "java/lang/invoke/MethodHandle" ∧ y.cls ≠ "java/lang/invoke/VarHandle" ∧ (parseMethodDescriptor y.desc).map (fun d => d.parameters.length) = some n) (hL : maxL ≤ 80) (hci : ci < 100) : pm_okC cc own nL ini pc y bytes maxL ret (n + 1) (some ci) mc ms := by
  intro p l e R s m args below meth c D aC B b Q Cx rF rL hR1 hR2 lv st w h' r hch hM kk
  intro H locs ls cells slots h1 h2 h3 h4 h5 h6
  obtain ⟨c1, c2, c3, c4, c5⟩ := hch
  obtain ⟨a, fs, as, e1, e2⟩ := (c2 ci rfl).1 hci
  have hst := pm_st_split c1
  have hlen := pm_len_as c1
  simp only at h2 h3 h5 h6
  rw [e1] at hM hst hlen
  generalize hrest : st.drop (n + 1) = rest at hst kk c3
  subst hst
  refine pm_called (rest := rest.map (pm_v B b)) (va_runV (As := as.map (pm_v B b)) (b := B + a) (n := n) ⟨Cx.1, Cx.2.1, Cx.2.2.1, Cx.2.2.2.1, Cx.2.2.2.2.1⟩ hM (cwV n Cx.2.2.2.2.1 ?_ rfl rfl rfl ⟨rfl, hdesc⟩ ⟨hR1, by show 8 + (maxL + 11) + rL ≤ R.locals; omega⟩) ⟨pm_Pc_blind D aC B b w.1 (.ref a :: as), va_recv Cx.2.2.2.2.2.1.1 h3 hc (pm_w_at e2), fun U hU hW => ⟨rfl, by rw [hU]; exact h2, by rw [hU]; exact h3, Cx.2.2.2.2.2.1.moved hW hU h4⟩⟩ rfl (by simp at hlen ⊢; omega) h1.1 (by simp [List.map_append]; rfl) (lv_room (by rw [pm_sz_v]; exact c3)) hd ⟨by omega, by omega⟩) h4 Cx.2.2.2.2.2.2.1 (fun H1 locs1 z1 g1 g2 => ?_)
  · intro x hx
    rcases List.mem_append.mp hx with hx | hx
    · have : x ∈ pm_T := by
        simp only [List.mem_cons, List.not_mem_nil, or_false] at hx
        rcases hx with rfl | rfl | rfl | rfl
        · exact hw1
        · exact hw2
        · exact hw3
        · exact hw4
      exact ⟨this, pm_T_word this⟩
    · exact pm_good hcw x hx
  · have k2 := kk H1 locs1 ls (cells + mc) (slots + ms) h1 z1 g1 g2 (by simp only; omega) (by simp only; omega)
    simp only [pm_toList] at k2
    exact k2
theorem k_callS {cc : ByteArray} {own : String} {nL pc : Nat} {ini : Bool} {index : Nat} {y : MethodName} {bytes : ByteArray} {maxL : Nat} {ret : Option FieldType} {n mc ms : Nat} (hd : decode cc pc = .ok (.invokestatic index, 3)) (hcw : Cond.code y bytes maxL ret ∈ pm_T) (hw1 : Cond.methodLink own index y ∈ pm_T) (hw2 : Cond.static y ∈ pm_T) (hw4 : Cond.initialized y.cls ∈ pm_T) (hdesc : y.cls ≠ "java/lang/invoke/MethodHandle" ∧ y.cls ≠ "java/lang/invoke/VarHandle" ∧ (parseMethodDescriptor y.desc).map (fun d => d.parameters.length) = some n) (hL : maxL ≤ 80) : pm_okC cc own nL ini pc y bytes maxL ret n none mc ms := by
  intro p l e R s m args below meth c D aC B b Q Cx rF rL hR1 hR2 lv st w h' r hch hM kk
  intro H locs ls cells slots h1 h2 h3 h4 h5 h6
  obtain ⟨c1, c2, c3, c4, c5⟩ := hch
  have hst := pm_st_split c1
  have hlen := pm_len_as c1
  simp only at h2 h3 h5 h6
  generalize hrest : st.drop n = rest at hst kk c3
  generalize has : (st.take n).reverse = as at hM hst hlen
  subst hst
  refine pm_called (rest := rest.map (pm_v B b)) (va_runS (As := as.map (pm_v B b)) (n := n) ⟨Cx.1, Cx.2.1, Cx.2.2.1, Cx.2.2.2.1, Cx.2.2.2.2.1⟩ hM ⟨callB_of n Cx.2.2.2.2.1 (pm_good hcw) rfl rfl rfl (Cx.2.2.2.2.1 _ hw4) (Cx.2.2.2.2.1 _ hw1) hdesc ⟨hR1, by show 8 + (maxL + 11) + rL ≤ R.locals; omega⟩, Cx.2.2.2.2.1 _ hw2⟩ ⟨pm_Pc_blind D aC B b w.1 as, fun U hU hW => ⟨rfl, by rw [hU]; exact h2, by rw [hU]; exact h3, Cx.2.2.2.2.2.1.moved hW hU h4⟩⟩ rfl (by rw [List.length_map]; exact hlen) h1.1 (by simp [List.map_append]) (lv_room (by rw [pm_sz_v]; exact c3)) hd ⟨by omega, by omega⟩) h4 Cx.2.2.2.2.2.2.1 (fun H1 locs1 z1 g1 g2 => ?_)
  have k2 := kk H1 locs1 ls (cells + mc) (slots + ms) h1 z1 g1 g2 (by simp only; omega) (by simp only; omega)
  simp only [pm_toList] at k2
  exact k2
theorem k_callI {cc : ByteArray} {own : String} {nL pc : Nat} {ini : Bool} {index : Nat} {y : MethodName} {bytes : ByteArray} {maxL : Nat} {n ci mc ms : Nat} (hd : decode cc pc = .ok (.invokespecial index, 3)) (hcw : Cond.code y bytes maxL none ∈ pm_T) (hw1 : Cond.methodLink own index y ∈ pm_T) (hw2 : Cond.instanceMethod y ∈ pm_T) (hw4 : Cond.initialized y.cls ∈ pm_T) (hnm : y.name = "<init>") (hdesc : y.cls ≠ "java/lang/invoke/MethodHandle" ∧ y.cls ≠ "java/lang/invoke/VarHandle" ∧ (parseMethodDescriptor y.desc).map (fun d => d.parameters.length) = some n) (hL : maxL ≤ 80) (hci : ci < 100) : pm_okC cc own nL ini pc y bytes maxL none (n + 1) (some ci) mc ms := by
  intro p l e R s m args below meth c D aC B b Q Cx rF rL hR1 hR2 lv st w h' r hch hM kk
  intro H locs ls cells slots h1 h2 h3 h4 h5 h6
  obtain ⟨c1, c2, c3, c4, c5⟩ := hch
  obtain ⟨a, fs, as, e1, e2⟩ := (c2 ci rfl).1 hci
  have hst := pm_st_split c1
  have hlen := pm_len_as c1
  simp only at h2 h3 h5 h6
  rw [e1] at hM hst hlen
  generalize hrest : st.drop (n + 1) = rest at hst kk c3
  subst hst
  refine pm_called (rest := rest.map (pm_v B b)) (va_runI (As := as.map (pm_v B b)) (b := B + a) (n := n) ⟨Cx.1, Cx.2.1, Cx.2.2.1, Cx.2.2.2.1, Cx.2.2.2.2.1⟩ hM (cwI n Cx.2.2.2.2.1 (pm_good hcw) rfl rfl rfl (Cx.2.2.2.2.1 _ hw4) (Cx.2.2.2.2.1 _ hw1) (Cx.2.2.2.2.1 _ hw2) hnm hdesc ⟨hR1, by show 8 + (maxL + 11) + rL ≤ R.locals; omega⟩) ⟨pm_Pc_blind D aC B b w.1 (.ref a :: as), fun U hU hW => ⟨rfl, by rw [hU]; exact h2, by rw [hU]; exact h3, Cx.2.2.2.2.2.1.moved hW hU h4⟩⟩ rfl (by simp at hlen ⊢; omega) h1.1 (by simp [List.map_append]; rfl) (lv_room (by rw [pm_sz_v]; exact c3)) hd ⟨by omega, by omega⟩) h4 Cx.2.2.2.2.2.2.1 (fun H1 locs1 z1 g1 g2 => ?_)
  have k2 := kk H1 locs1 ls (cells + mc) (slots + ms) h1 z1 g1 g2 (by simp only; omega) (by simp only; omega)
  simp only [pm_toList] at k2
  exact k2
