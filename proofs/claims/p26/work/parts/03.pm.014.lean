section
noncomputable def pm_go (look : Nat → Option pm_I) (call : pm_Call) : Nat → pm_S → pm_H × Option Value → Prop
  | 0, _, _ => False
  | n + 1, σ, o => match look σ.1 with
    | none => False
    | some (.inl f) => match f σ with
      | none => False
      | some σ' => pm_go look call n σ' o
    | some (.inr (.inl (y, k, ci, mc, ms))) => ∃ (h' : pm_H) (r : Option Value), call y σ.2.2.2.1 (σ.2.2.1.take k).reverse h' r ∧ pm_chk k ci mc ms σ.2.2.1 σ.2.2.2 ∧ pm_go look call n (σ.1 + 3, σ.2.1, r.toList ++ σ.2.2.1.drop k, h', σ.2.2.2.2.1 - mc, σ.2.2.2.2.2 - ms) o
    | some (.inr (.inr kd)) => pm_ret kd σ.2.2.1 σ.2.2.2.1 o
/-- from here the run ends so -/
noncomputable def pm_Go (look : Nat → Option pm_I) (call : pm_Call) (σ : pm_S) (o : pm_H × Option Value) : Prop := ∃ n, pm_go look call n σ o
theorem Go_st {look : Nat → Option pm_I} {call : pm_Call} {σ σ' : pm_S} {o : pm_H × Option Value} {f : pm_S → Option pm_S} (h1 : look σ.1 = some (.inl f)) (h2 : f σ = some σ') (k : pm_Go look call σ' o) : pm_Go look call σ o := by
  obtain ⟨n, hn⟩ := k
  refine ⟨n + 1, ?_⟩
  unfold pm_go
  rw [h1]
  simp only [h2]
  exact hn
theorem Go_call {look : Nat → Option pm_I} {call : pm_Call} {σ : pm_S} {o : pm_H × Option Value} {y k mc ms : Nat} {ci : Option Nat} {h' : pm_H} {r : Option Value} (h1 : look σ.1 = some (.inr (.inl (y, k, ci, mc, ms)))) (hc : call y σ.2.2.2.1 (σ.2.2.1.take k).reverse h' r) (h2 : pm_chk k ci mc ms σ.2.2.1 σ.2.2.2) (kk : pm_Go look call (σ.1 + 3, σ.2.1, r.toList ++ σ.2.2.1.drop k, h', σ.2.2.2.2.1 - mc, σ.2.2.2.2.2 - ms) o) : pm_Go look call σ o := by
  obtain ⟨n, hn⟩ := kk
  refine ⟨n + 1, ?_⟩
  unfold pm_go
  rw [h1]
  exact ⟨h', r, hc, h2, hn⟩
theorem Go_ret {look : Nat → Option pm_I} {call : pm_Call} {σ : pm_S} {o : pm_H × Option Value} {kd : Nat} (h1 : look σ.1 = some (.inr (.inr kd))) (h2 : pm_ret kd σ.2.2.1 σ.2.2.2.1 o) : pm_Go look call σ o := by
  refine ⟨1, ?_⟩
  unfold pm_go
  rw [h1]
  exact h2
noncomputable def pm_Pc (D : va_G) (aC : Nat → ClassId) (B : Nat) (b : Nat → Option Nat) (h : pm_H) (as : List Value) : Array Value → State → Prop := fun v U => v = (as.map (pm_v B b)).toArray ∧ U.heap.size = B + h.length ∧ va_P D vwCl (pm_w B b aC h) U.heap ∧ pm_K D aC B b U
noncomputable def pm_Qc (D : va_G) (aC : Nat → ClassId) (B : Nat) (b : Nat → Option Nat) (h' : pm_H) (r : Option Value) : Array Value → State → Outcome → State → Prop := fun _ st oc t => oc = .returned (r.map (pm_v B b)) ∧ t.heap.size = B + h'.length ∧ va_P D vwCl (pm_w B b aC h') t.heap ∧ st.heap.size ≤ t.heap.size ∧ ∀ q : Nat, q < B → t.heap[q]? = st.heap[q]?
theorem pm_Pc_blind (D : va_G) (aC : Nat → ClassId) (B : Nat) (b : Nat → Option Nat) (h : pm_H) (as : List Value) : FrameBlind (pm_Pc D aC B b h as) := fun _ _ _ _ q => ⟨q.1, q.2.1, q.2.2.1, q.2.2.2.call⟩
/-- a method's contract of one run: from this heap and these arguments it comes to that heap and that answer -/
noncomputable def pm_Mt (l : Launch) (D : va_G) (aC : Nat → ClassId) (B : Nat) (b : Nat → Option Nat) (y : MethodName) (bytes : ByteArray) (maxL : Nat) (ret : Option FieldType) (rF rL mc ms : Nat) (h : pm_H) (as : List Value) (h' : pm_H) (r : Option Value) : Prop :=
  Met l y (.code y bytes maxL ret :: pm_T) { frames := rF, cells := mc, slots := ms, locals := rL } (pm_Pc D aC B b h as) (pm_Qc D aC B b h' r) mc ms (fun q => B ≤ q)
section PMC
variable {p : Program} {l : Launch} {e : Env} {R : Room} {s : State} {m : MethodId} {args : Array Value} {below : List Frame} {meth : Method} {c : Code} {D : va_G} {aC : Nat → ClassId} {B : Nat} {b : Nat → Option Nat} {Q : State → Prop}
theorem pm_called {H : Heap} {locs : List Loc} {cells slots mc ms pc : Nat} {ls : Array Slot} {st0 rest : List Value} {h' : pm_H} {r : Option Value} {a : Array Value} (hr : va_Run p l e R s m args below meth c H locs cells slots mc ms (F0 m pc ls st0) rest (pm_Qc D aC B b h' r a) (fun q => B ≤ q)) (hS : va_S (fun q => B ≤ q) s.heap H locs) (hB : B ≤ s.heap.size)
    (kk : ∀ (H1 : Heap) (locs1 : List Loc), H1.size = B + h'.length → va_P D vwCl (pm_w B b aC h') H1 → va_S (fun q => B ≤ q) s.heap H1 locs1 → W p l e R s m args below meth c H1 locs1 (cells + mc) (slots + ms) Q (F0 m (pc + 3) ls ((r.map (pm_v B b)).toList ++ rest))) : W p l e R s m args below meth c H locs cells slots Q (F0 m pc ls st0) := by
  intro T hT X
  obtain ⟨v, st₀, t, T', L, h0, X', hL, e1, e2, ⟨hv, hz, hP, hg, hk⟩, st⟩ := hr T hT X
  have hv : v = r.map (pm_v B b) := by injection hv
  subst hv
  rw [h0] at hg hk
  obtain ⟨t2, a1, b1⟩ := kk T'.heap (locs ++ L) (by rw [e1]; exact hz) (by rw [e1]; exact hP) ⟨Nat.le_trans hS.1 (by rw [e1]; exact hg), fun q h1 h2 => by rw [e1, hk q (Nat.not_le.mp h2)]; exact hS.2.1 q h1 h2, fun q hq => by
      rcases List.mem_append.mp hq with h | h
      · exact hS.2.2 q h
      · exact hL q h⟩ T' rfl X'
  exact ⟨t2, st t2 a1, b1⟩
end PMC
/-- a call of the pure machine is one of the machine -/
noncomputable def pm_okC (cc : ByteArray) (own : String) (nL : Nat) (ini : Bool) (pc : Nat) (y : MethodName) (bytes : ByteArray) (maxL : Nat) (ret : Option FieldType) (k : Nat) (ci : Option Nat) (mc ms : Nat) : Prop :=
  ∀ (p : Program) (l : Launch) (e : Env) (R : Room) (s : State) (m : MethodId) (args : Array Value) (below : List Frame) (meth : Method) (c : Code) (D : va_G) (aC : Nat → ClassId) (B : Nat) (b : Nat → Option Nat) (Q : State → Prop),
    pm_C p s m args meth c cc own nL ini D aC B b → ∀ (rF rL : Nat), rF + 1 ≤ R.frames → rL + 100 ≤ R.locals → ∀ (lv : List (Nat × Value)) (st : List Value) (w : pm_H × Nat × Nat) (h' : pm_H) (r : Option Value), pm_chk k ci mc ms st w → pm_Mt l D aC B b y bytes maxL ret rF rL mc ms w.1 (st.take k).reverse h' r →
      pm_W p l e R s m args below meth c nL D aC B b Q (pc + 3, lv, r.toList ++ st.drop k, h', w.2.1 - mc, w.2.2 - ms) → pm_W p l e R s m args below meth c nL D aC B b Q (pc, lv, st, w)
theorem pm_good {y : MethodName} {bytes : ByteArray} {maxL : Nat} {ret : Option FieldType} (hcw : Cond.code y bytes maxL ret ∈ pm_T) : GoodIn pm_T (.code y bytes maxL ret :: pm_T) := by
  intro w hw
  rcases List.mem_cons.mp hw with rfl | hw
  · exact ⟨hcw, pm_T_word hcw⟩
  · exact ⟨hw, pm_T_word hw⟩
theorem pm_st_split {st : List Value} {k : Nat} (h : k ≤ st.length) : st = (st.take k).reverse.reverse ++ st.drop k := by
  rw [List.reverse_reverse, List.take_append_drop]
end
