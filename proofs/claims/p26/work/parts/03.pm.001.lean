section
noncomputable def pm_rbs (j : Nat) : Int32 := [1, 0, 0, 0, 0, 0, 0, 0, 0, 0, 0, 2, 1, 0, 0, 0, 0, 0, 0, 0, 0, 0, 6, 6, 3, 1, 0, 0, 0, 0, 0, 0, 0, 24, 36, 30, 20, 10, 4, 1, 0, 0, 0, 0, 120, 240, 270, 240, 180, 120, 70, 35, 15, 5, 1].getD j 0
noncomputable def pm_len : List Nat := [6, 6, 3, 4, 3, 5, 6, 4]
noncomputable def pm_byt : List (List Int32) := [[115, 116, 114, 101, 101, 116], [112, 108, 97, 99, 101, 115], [108, 97, 119], [111, 100, 100, 115], [99, 97, 114], [119, 97, 110, 116, 115], [115, 116, 97, 110, 100, 115], [106, 111, 105, 110]]
noncomputable def pm_six (i : Nat) : Nat := [73, 78, 89, 93, 61, 108, 110, 116].getD i 0
noncomputable def pm_stx (i : Nat) : String := ["street", "places", "law", "odds", "car", "wants", "stands", "join"].getD i ""
/-- cells outside: 1, 2 the tables, 3 the JDK's formatter, 4 .. 11 the Strings, 12 .. 19 their bytes (0 is the law's script) -/
noncomputable def pm_O (B : Nat) (b : Nat → Option Nat) (U : State) (H : Heap) : Prop :=
  (∃ t, b 1 = some t ∧ va_Z RX8 "FACTORIALS" "[I" (.ref t) (fun q => B ≤ q) U H ∧ va_T .int t 9 (fun j => .int (pm_fac j)) (fun q => B ≤ q) U H) ∧
  (∃ t, b 2 = some t ∧ va_Z RX8 "ROWS_BY_STEPS" "[I" (.ref t) (fun q => B ≤ q) U H ∧ va_T .int t 55 (fun j => .int (pm_rbs j)) (fun q => B ≤ q) U H) ∧
  va_Z RJ0 "COMPACT_STRINGS" "Z" (.int 1) (fun q => B ≤ q) U H ∧
  va_Z RJ3 "SIOOBE_FORMATTER" "Ljava/util/function/BiFunction;" (va_rf (b 3)) (fun q => B ≤ q) U H ∧
  ∃ adK adV : Nat → Nat, vk_S 8 pm_len pm_byt adK adV (fun q => B ≤ q) U H ∧ ∀ i : Nat, i < 8 → b (4 + i) = some (adK i) ∧ b (12 + i) = some (adV i)
theorem pm_O.moved {B : Nat} {b : Nat → Option Nat} {u U : State} {H : Heap} (hvm : u.vm.Alike U.vm) (h : pm_O B b u H) : pm_O B b U H := by
  obtain ⟨⟨t, h1, h2, h3⟩, ⟨t2, g1, g2, g3⟩, h4, h5, adK, adV, h6, h7⟩ := h
  exact ⟨⟨t, h1, va_Z.moved hvm h2, va_T.moved hvm h3⟩, ⟨t2, g1, va_Z.moved hvm g2, va_T.moved hvm g3⟩, va_Z.moved hvm h4, va_Z.moved hvm h5, adK, adV, vk_S.moved hvm h6, h7⟩
theorem pm_O.kept {B : Nat} {b : Nat → Option Nat} {U : State} {H H1 : Heap} (h : pm_O B b U H) (hq : ∀ a : Nat, a < H.size → ¬ B ≤ a → H1[a]? = H[a]?) : pm_O B b U H1 := by
  obtain ⟨⟨t, h1, h2, h3⟩, ⟨t2, g1, g2, g3⟩, h4, h5, adK, adV, h6, h7⟩ := h
  exact ⟨⟨t, h1, h2.kept hq, h3.kept hq⟩, ⟨t2, g1, g2.kept hq, g3.kept hq⟩, h4.kept hq, h5.kept hq, adK, adV, h6.kept hq, h7⟩
noncomputable def pm_N (b : Nat → Option Nat) (U : State) : Prop := (va_Nw (.methodLinkNest RX0 19 yX8_placeBit RX8) U ∧ va_Nw (.methodLinkNest RX1 33 yX8_placeBit RX8) U ∧ va_Nw (.methodLinkNest RX3 24 yX8_placeBit RX8) U) ∧ ∀ i : Nat, i < 8 → ∃ a, b (4 + i) = some a ∧ vk_R RX2 (pm_six i) (pm_stx i) a U
theorem pm_N.warm {b : Nat → Option Nat} {s U : State} (hW : s.WarmedH U.vm) (h : pm_N b s) : pm_N b U :=
  ⟨⟨va_Nw.warmM hW h.1.1, va_Nw.warmM hW h.1.2.1, va_Nw.warmM hW h.1.2.2⟩, fun i hi => by obtain ⟨a, e, r⟩ := h.2 i hi; exact ⟨a, e, vk_R.warm hW r⟩⟩
theorem pm_N.same {b : Nat → Option Nat} {u U : State} (hv : u.vm = U.vm) (h : pm_N b u) : pm_N b U :=
  ⟨⟨va_Nw.same rfl hv h.1.1, va_Nw.same rfl hv h.1.2.1, va_Nw.same rfl hv h.1.2.2⟩, fun i hi => by obtain ⟨a, e, r⟩ := h.2 i hi; exact ⟨a, e, vk_R.same hv.symm r⟩⟩
/-- what the tables say of a state: classes, array classes, nest mates, Strings, the cells outside -/
noncomputable def pm_K (D : va_G) (aC : Nat → ClassId) (B : Nat) (b : Nat → Option Nat) (U : State) : Prop := va_K D vwCl (pm_tys aC) U ∧ va_AO RX5 U ∧ va_AO RX4 U ∧ pm_N b U ∧ pm_O B b U U.heap
theorem pm_K.moved {D : va_G} {aC : Nat → ClassId} {B : Nat} {b : Nat → Option Nat} {s U : State} {H : Heap} {locs : List Loc} (hW : s.WarmedH U.vm) (hU : U.heap = H) (hS : va_S (fun q => B ≤ q) s.heap H locs) (h : pm_K D aC B b s) : pm_K D aC B b U :=
  ⟨va_K.moved hW.alike h.1, va_AO.moved hW.alike h.2.1, va_AO.moved hW.alike h.2.2.1, h.2.2.2.1.warm hW, by rw [hU]; exact (h.2.2.2.2.kept hS.2.1).moved hW.alike⟩
theorem pm_K.call {D : va_G} {aC : Nat → ClassId} {B : Nat} {b : Nat → Option Nat} {U : State} {g : JFrame} {mk : MethodId} {a : Array Value} (h : pm_K D aC B b U) : pm_K D aC B b (U.calling g mk a) :=
  ⟨va_K.moved (u := U) (U := U.calling g mk a) (Vm.Alike.refl U.vm) h.1, va_AO.moved (u := U) (U := U.calling g mk a) (Vm.Alike.refl U.vm) h.2.1, va_AO.moved (u := U) (U := U.calling g mk a) (Vm.Alike.refl U.vm) h.2.2.1, h.2.2.2.1.same (u := U) (U := U.calling g mk a) rfl, h.2.2.2.2.moved (u := U) (U := U.calling g mk a) (Vm.Alike.refl U.vm)⟩
/-- what stays all through a method -/
noncomputable def pm_C (p : Program) (s : State) (m : MethodId) (args : Array Value) (meth : Method) (c : Code) (cc : ByteArray) (own : String) (nL : Nat) (ini : Bool) (D : va_G) (aC : Nat → ClassId) (B : Nat) (b : Nat → Option Nat) : Prop :=
  p.tables.exec = Jvm.exec ∧ c.code = cc ∧ c.maxLocals = nL ∧ s.vm.findClass own = some m.cls ∧ (∀ w ∈ pm_T, w.before args s = true) ∧ pm_K D aC B b s ∧ B ≤ s.heap.size ∧ (ini = true → meth.name = "<init>")
/-- the machine goes on from every heap and frame that are as the pure state says -/
noncomputable def pm_W (p : Program) (l : Launch) (e : Env) (R : Room) (s : State) (m : MethodId) (args : Array Value) (below : List Frame) (meth : Method) (c : Code) (nL : Nat) (D : va_G) (aC : Nat → ClassId) (B : Nat) (b : Nat → Option Nat) (Q : State → Prop) (σ : pm_S) : Prop :=
  ∀ (H : Heap) (locs : List Loc) (ls : Array Slot) (cells slots : Nat), lv_has ls nL (σ.2.1.map (pm_q B b)) → H.size = B + σ.2.2.2.1.length → va_P D vwCl (pm_w B b aC σ.2.2.2.1) H → va_S (fun q => B ≤ q) s.heap H locs → cells + σ.2.2.2.2.1 ≤ R.cells → slots + σ.2.2.2.2.2 ≤ R.slots →
    W p l e R s m args below meth c H locs cells slots Q (F0 m σ.1 ls (σ.2.2.1.map (pm_v B b)))
/-- a step of the pure machine is one of the machine -/
noncomputable def pm_okF (cc : ByteArray) (own : String) (nL : Nat) (ini : Bool) (pc : Nat) (f : pm_S → Option pm_S) : Prop :=
  ∀ (p : Program) (l : Launch) (e : Env) (R : Room) (s : State) (m : MethodId) (args : Array Value) (below : List Frame) (meth : Method) (c : Code) (D : va_G) (aC : Nat → ClassId) (B : Nat) (b : Nat → Option Nat) (Q : State → Prop),
    pm_C p s m args meth c cc own nL ini D aC B b → 1 ≤ R.frames → 100 ≤ R.locals → ∀ (lv : List (Nat × Value)) (st : List Value) (w : pm_H × Nat × Nat) (σ' : pm_S), f (pc, lv, st, w) = some σ' →
      pm_W p l e R s m args below meth c nL D aC B b Q σ' → pm_W p l e R s m args below meth c nL D aC B b Q (pc, lv, st, w)
end
section
/-! THE PURE MACHINE, part 2: its steps, each with the row of the kit that it stands on (written by gen_steps.py) -/
end
