/-! THE PURE MACHINE, part 1: cells by their numbers, what they are in a heap -/
noncomputable def pm_T : List Cond := lw_tbl.filter goodWord
theorem pm_in {w : Cond} (i : Nat) (h : lw_tbl[i]? = some w) (hg : goodWord w = true) : w ∈ pm_T := List.mem_filter.mpr ⟨List.mem_of_getElem? h, hg⟩
theorem pm_T_good : GoodIn lw_tbl pm_T := fun w hw => ⟨(List.mem_filter.mp hw).1, good_of_word (List.mem_filter.mp hw).2⟩
theorem pm_T_word {w : Cond} (h : w ∈ pm_T) : (w.onTables && w.keeps) = true ∨ ∃ ty, w = .arrayClass ty := good_of_word (List.mem_filter.mp h).2
noncomputable abbrev pm_E : Type := (Nat × vp_A) ⊕ (Nat × List Value)
noncomputable abbrev pm_H : Type := List pm_E
/-- pc, locals, stack, heap, cells and slots that may still be made -/
noncomputable abbrev pm_S : Type := Nat × List (Nat × Value) × List Value × pm_H × Nat × Nat
/-- a step; or a call (the method's number, how many arguments, the receiver's class, cells, slots); or a return (0: of nothing) -/
noncomputable abbrev pm_I : Type := (pm_S → Option pm_S) ⊕ ((Nat × Nat × Option Nat × Nat × Nat) ⊕ Nat)
/-- a value: cell k lies at B + k; the script's reference stands as a return address -/
noncomputable def pm_v (B : Nat) (b : Nat → Option Nat) (v : Value) : Value := match v with
  | .int x => .int x
  | .long x => .long x
  | .float x => .float x
  | .double x => .double x
  | .null => .null
  | .ref k => .ref (B + k)
  | .retAddr k => va_rf (b k)
theorem pm_v_cat (B : Nat) (b : Nat → Option Nat) (v : Value) : (pm_v B b v).category = v.category := by
  cases v with
  | retAddr k => show (va_rf (b k)).category = 1; cases b k <;> rfl
  | _ => rfl
noncomputable def pm_q (B : Nat) (b : Nat → Option Nat) (q : Nat × Value) : Nat × Value := (q.1, pm_v B b q.2)
noncomputable def pm_e (B : Nat) (b : Nat → Option Nat) (aC : Nat → ClassId) (x : pm_E) : va_E := match x with
  | .inl (t, n, .inl f) => .inl (aC t, n, .inl f)
  | .inl (t, n, .inr (.inl f)) => .inl (aC t, n, .inr (.inl f))
  | .inl (t, n, .inr (.inr (.inl f))) => .inl (aC t, n, .inr (.inr (.inl f)))
  | .inl (t, n, .inr (.inr (.inr (.inl f)))) => .inl (aC t, n, .inr (.inr (.inr (.inl f))))
  | .inl (t, n, .inr (.inr (.inr (.inr f)))) => .inl (aC t, n, .inr (.inr (.inr (.inr (fun i => (f i).map (fun k => B + k))))))
  | .inr (ci, fs) => .inr (ci, fs.map (pm_v B b))
noncomputable def pm_w (B : Nat) (b : Nat → Option Nat) (aC : Nat → ClassId) (h : pm_H) : va_W := h.mapIdx (fun k x => (B + k, pm_e B b aC x))
theorem pm_w_at {B : Nat} {b : Nat → Option Nat} {aC : Nat → ClassId} {h : pm_H} {k : Nat} {x : pm_E} (hk : h[k]? = some x) : (pm_w B b aC h)[k]? = some (B + k, pm_e B b aC x) := by
  simp [pm_w, hk]
theorem pm_w_get {B : Nat} {b : Nat → Option Nat} {aC : Nat → ClassId} {h : pm_H} {k : Nat} {q : Nat × va_E} (hk : (pm_w B b aC h)[k]? = some q) : q.1 = B + k := by
  simp only [pm_w, List.getElem?_mapIdx] at hk
  cases hx : h[k]? with
  | none => rw [hx] at hk; cases hk
  | some x => rw [hx] at hk; cases hk; rfl
theorem pm_w_set (B : Nat) (b : Nat → Option Nat) (aC : Nat → ClassId) (h : pm_H) (k : Nat) (x : pm_E) : (pm_w B b aC h).set k (B + k, pm_e B b aC x) = pm_w B b aC (h.set k x) := by
  apply List.ext_getElem?
  intro i
  simp only [pm_w, List.getElem?_set, List.getElem?_mapIdx, List.length_mapIdx]
  by_cases hi : k = i
  · subst hi
    by_cases hl : k < h.length
    · simp [hl]
    · simp [hl]
  · simp [hi]
theorem pm_w_app (B : Nat) (b : Nat → Option Nat) (aC : Nat → ClassId) (h : pm_H) (x : pm_E) : pm_w B b aC h ++ [(B + h.length, pm_e B b aC x)] = pm_w B b aC (h ++ [x]) := by
  simp [pm_w, List.mapIdx_append]
theorem pm_w_D (B : Nat) (b : Nat → Option Nat) (aC : Nat → ClassId) (h : pm_H) : va_D (fun q => B ≤ q) (pm_w B b aC h) := by
  refine ⟨fun i j p q hi hj e => ?_, fun k q hq => ?_⟩
  · have h1 := pm_w_get hi
    have h2 := pm_w_get hj
    omega
  · have h1 := pm_w_get hq
    show B ≤ q.1
    omega
noncomputable def pm_get : List (Nat × Value) → Nat → Option Value
  | [], _ => none
  | q :: l, i => bif Nat.beq q.1 i then some q.2 else pm_get l i
theorem pm_get_in {i : Nat} {v : Value} : ∀ {lv : List (Nat × Value)}, pm_get lv i = some v → (i, v) ∈ lv
  | [], h => by cases h
  | q :: l, h => by
    unfold pm_get at h
    cases hb : Nat.beq q.1 i with
    | true =>
      rw [hb] at h
      have h1 : q.1 = i := Nat.eq_of_beq_eq_true hb
      have h2 : q.2 = v := Option.some.inj h
      subst h1; subst h2
      exact List.mem_cons_self
    | false =>
      rw [hb] at h
      exact List.mem_cons_of_mem _ (pm_get_in h)
theorem pm_loc {B : Nat} {b : Nat → Option Nat} {lv : List (Nat × Value)} {ls : Array Slot} {nL i : Nat} {v : Value} (h : lv_has ls nL (lv.map (pm_q B b))) (hg : pm_get lv i = some v) : ls[i]? = some (.val (pm_v B b v)) :=
  h.2.2 (i, pm_v B b v) (List.mem_map.mpr ⟨(i, v), pm_get_in hg, rfl⟩)
noncomputable def pm_put1 (i : Nat) (v : Value) (lv : List (Nat × Value)) : List (Nat × Value) := (i, v) :: lv.filter (fun q => !(q.1 == i) && !(q.1 + 1 == i && q.2.category == 2))
noncomputable def pm_put2 (i : Nat) (v : Value) (lv : List (Nat × Value)) : List (Nat × Value) := (i, v) :: lv.filter (fun q => !(q.1 == i) && (!(q.1 == i + 1) && !(q.1 + 1 == i && q.2.category == 2)))
theorem pm_put1_map (B : Nat) (b : Nat → Option Nat) (i : Nat) (v : Value) (lv : List (Nat × Value)) : (i, pm_v B b v) :: (lv.map (pm_q B b)).filter (fun q => !(q.1 == i) && !(q.1 + 1 == i && q.2.category == 2)) = (pm_put1 i v lv).map (pm_q B b) := by
  simp only [pm_put1, List.map_cons, List.filter_map]
  refine congrArg (List.cons _) (congrArg (List.map _) (List.filter_congr fun q _ => ?_))
  simp [pm_q, pm_v_cat]
theorem pm_put2_map (B : Nat) (b : Nat → Option Nat) (i : Nat) (v : Value) (lv : List (Nat × Value)) : (i, pm_v B b v) :: (lv.map (pm_q B b)).filter (fun q => !(q.1 == i) && (!(q.1 == i + 1) && !(q.1 + 1 == i && q.2.category == 2))) = (pm_put2 i v lv).map (pm_q B b) := by
  simp only [pm_put2, List.map_cons, List.filter_map]
  refine congrArg (List.cons _) (congrArg (List.map _) (List.filter_congr fun q _ => ?_))
  simp [pm_q, pm_v_cat]
/-- the array classes by their numbers -/
noncomputable def pm_tys (aC : Nat → ClassId) : List (ClassId × FieldType) := [(aC 0, .int), (aC 1, .byte), (aC 2, .boolean), (aC 3, .long), (aC 4, .object RX5), (aC 5, .object RX4)]
/-- the class's static tables and the Reader's Strings, as the Statement gives them -/
noncomputable def pm_fac (j : Nat) : Int32 := [1, 1, 2, 6, 24, 120, 720, 5040, 40320].getD j 0
noncomputable def pm_rbs (j : Nat) : Int32 := [1, 0, 0, 0, 0, 0, 0, 0, 0, 0, 0, 2, 1, 0, 0, 0, 0, 0, 0, 0, 0, 0, 6, 6, 3, 1, 0, 0, 0, 0, 0, 0, 0, 24, 36, 30, 20, 10, 4, 1, 0, 0, 0, 0, 120, 240, 270, 240, 180, 120, 70, 35, 15, 5, 1].getD j 0
noncomputable def pm_len : List Nat := [6, 6, 3, 4, 3, 5, 6, 4]
noncomputable def pm_byt : List (List Int32) := [[115, 116, 114, 101, 101, 116], [112, 108, 97, 99, 101, 115], [108, 97, 119], [111, 100, 100, 115], [99, 97, 114], [119, 97, 110, 116, 115], [115, 116, 97, 110, 100, 115], [106, 111, 105, 110]]
noncomputable def pm_six (i : Nat) : Nat := [73, 78, 89, 93, 61, 108, 110, 116].getD i 0
noncomputable def pm_stx (i : Nat) : String := ["street", "places", "law", "odds", "car", "wants", "stands", "join"].getD i ""
/-- cells outside: 1, 2 the tables, 3 the JDK's formatter, 4 .. 11 the Strings, 12 .. 19 their bytes (0 is the law's script) -/
noncomputable def pm_O (B : Nat) (b : Nat → Option Nat) (U : State) (H : Heap) : Prop :=
  (∃ t, b 1 = some t ∧ va_Z RX8 "FACTORIALS" "[I" (.ref t) (fun q => B ≤ q) U H ∧ va_T .int t 9 (fun j => .int (pm_fac j)) (fun q => B ≤ q) U H) ∧
  (∃ t, b 2 = some t ∧ va_Z RX8 "ROWS_BY_STEPS" "[I" (.ref t) (fun q => B ≤ q) U H ∧ va_T .int t 55 (fun j => .int (pm_rbs j)) (fun q => B ≤ q) U H) ∧
  va_Z RJ0 "COMPACT_STRINGS" "Z" (.int 1) (fun q => B ≤ q) U H ∧
  va_Z RJ3 "SIOOBE_FORMATTER" "Ljava/util/function/BiFunction;" (va_rf (b 3)) (fun q => B ≤ q) U H ∧
  ∃ adK adV : Nat → Nat, vk_S 8 pm_len pm_byt adK adV (fun q => B ≤ q) U H ∧ ∀ i : Nat, i < 8 → b (4 + i) = some (adK i) ∧ b (12 + i) = some (adV i)
theorem pm_O.moved {B : Nat} {b : Nat → Option Nat} {u U : State} {H : Heap} (hvm : u.vm.Alike U.vm) (h : pm_O B b u H) : pm_O B b U H := by
  obtain ⟨⟨t, h1, h2, h3⟩, ⟨t2, g1, g2, g3⟩, h4, h5, adK, adV, h6, h7⟩ := h
  exact ⟨⟨t, h1, va_Z.moved hvm h2, va_T.moved hvm h3⟩, ⟨t2, g1, va_Z.moved hvm g2, va_T.moved hvm g3⟩, va_Z.moved hvm h4, va_Z.moved hvm h5, adK, adV, vk_S.moved hvm h6, h7⟩
theorem pm_O.kept {B : Nat} {b : Nat → Option Nat} {U : State} {H H1 : Heap} (h : pm_O B b U H) (hq : ∀ a : Nat, a < H.size → ¬ B ≤ a → H1[a]? = H[a]?) : pm_O B b U H1 := by
  obtain ⟨⟨t, h1, h2, h3⟩, ⟨t2, g1, g2, g3⟩, h4, h5, adK, adV, h6, h7⟩ := h
  exact ⟨⟨t, h1, h2.kept hq, h3.kept hq⟩, ⟨t2, g1, g2.kept hq, g3.kept hq⟩, h4.kept hq, h5.kept hq, adK, adV, h6.kept hq, h7⟩
noncomputable def pm_N (b : Nat → Option Nat) (U : State) : Prop := (va_Nw (.methodLinkNest RX0 19 yX8_placeBit RX8) U ∧ va_Nw (.methodLinkNest RX1 33 yX8_placeBit RX8) U ∧ va_Nw (.methodLinkNest RX3 24 yX8_placeBit RX8) U) ∧ ∀ i : Nat, i < 8 → ∃ a, b (4 + i) = some a ∧ vk_R RX2 (pm_six i) (pm_stx i) a U
theorem pm_N.warm {b : Nat → Option Nat} {s U : State} (hW : s.WarmedH U.vm) (h : pm_N b s) : pm_N b U :=
  ⟨⟨va_Nw.warmM hW h.1.1, va_Nw.warmM hW h.1.2.1, va_Nw.warmM hW h.1.2.2⟩, fun i hi => by obtain ⟨a, e, r⟩ := h.2 i hi; exact ⟨a, e, vk_R.warm hW r⟩⟩
theorem pm_N.same {b : Nat → Option Nat} {u U : State} (hv : u.vm = U.vm) (h : pm_N b u) : pm_N b U :=
  ⟨⟨va_Nw.same rfl hv h.1.1, va_Nw.same rfl hv h.1.2.1, va_Nw.same rfl hv h.1.2.2⟩, fun i hi => by obtain ⟨a, e, r⟩ := h.2 i hi; exact ⟨a, e, vk_R.same hv.symm r⟩⟩
/-- what the tables say of a state: classes, array classes, nest mates, Strings, the cells outside -/
noncomputable def pm_K (D : va_G) (aC : Nat → ClassId) (B : Nat) (b : Nat → Option Nat) (U : State) : Prop := va_K D vwCl (pm_tys aC) U ∧ va_AO RX5 U ∧ va_AO RX4 U ∧ pm_N b U ∧ pm_O B b U U.heap
theorem pm_K.moved {D : va_G} {aC : Nat → ClassId} {B : Nat} {b : Nat → Option Nat} {s U : State} {H : Heap} {locs : List Loc} (hW : s.WarmedH U.vm) (hU : U.heap = H) (hS : va_S (fun q => B ≤ q) s.heap H locs) (h : pm_K D aC B b s) : pm_K D aC B b U :=
  ⟨va_K.moved hW.alike h.1, va_AO.moved hW.alike h.2.1, va_AO.moved hW.alike h.2.2.1, h.2.2.2.1.warm hW, by rw [hU]; exact (h.2.2.2.2.kept hS.2.1).moved hW.alike⟩
theorem pm_K.call {D : va_G} {aC : Nat → ClassId} {B : Nat} {b : Nat → Option Nat} {U : State} {g : JFrame} {mk : MethodId} {a : Array Value} (h : pm_K D aC B b U) : pm_K D aC B b (U.calling g mk a) :=
  ⟨va_K.moved (u := U) (U := U.calling g mk a) (Vm.Alike.refl U.vm) h.1, va_AO.moved (u := U) (U := U.calling g mk a) (Vm.Alike.refl U.vm) h.2.1, va_AO.moved (u := U) (U := U.calling g mk a) (Vm.Alike.refl U.vm) h.2.2.1, h.2.2.2.1.same (u := U) (U := U.calling g mk a) rfl, h.2.2.2.2.moved (u := U) (U := U.calling g mk a) (Vm.Alike.refl U.vm)⟩
/-- what stays all through a method -/
noncomputable def pm_C (p : Program) (s : State) (m : MethodId) (args : Array Value) (meth : Method) (c : Code) (cc : ByteArray) (own : String) (nL : Nat) (ini : Bool) (D : va_G) (aC : Nat → ClassId) (B : Nat) (b : Nat → Option Nat) : Prop :=
  p.tables.exec = Jvm.exec ∧ c.code = cc ∧ c.maxLocals = nL ∧ s.vm.findClass own = some m.cls ∧ (∀ w ∈ pm_T, w.before args s = true) ∧ pm_K D aC B b s ∧ B ≤ s.heap.size ∧ (ini = true → meth.name = "<init>")
/-- the machine goes on from every heap and frame that are as the pure state says -/
noncomputable def pm_W (p : Program) (l : Launch) (e : Env) (R : Room) (s : State) (m : MethodId) (args : Array Value) (below : List Frame) (meth : Method) (c : Code) (nL : Nat) (D : va_G) (aC : Nat → ClassId) (B : Nat) (b : Nat → Option Nat) (Q : State → Prop) (σ : pm_S) : Prop :=
  ∀ (H : Heap) (locs : List Loc) (ls : Array Slot) (cells slots : Nat), lv_has ls nL (σ.2.1.map (pm_q B b)) → H.size = B + σ.2.2.2.1.length → va_P D vwCl (pm_w B b aC σ.2.2.2.1) H → va_S (fun q => B ≤ q) s.heap H locs → cells + σ.2.2.2.2.1 ≤ R.cells → slots + σ.2.2.2.2.2 ≤ R.slots →
    W p l e R s m args below meth c H locs cells slots Q (F0 m σ.1 ls (σ.2.2.1.map (pm_v B b)))
/-- a step of the pure machine is one of the machine -/
noncomputable def pm_okF (cc : ByteArray) (own : String) (nL : Nat) (ini : Bool) (pc : Nat) (f : pm_S → Option pm_S) : Prop :=
  ∀ (p : Program) (l : Launch) (e : Env) (R : Room) (s : State) (m : MethodId) (args : Array Value) (below : List Frame) (meth : Method) (c : Code) (D : va_G) (aC : Nat → ClassId) (B : Nat) (b : Nat → Option Nat) (Q : State → Prop),
    pm_C p s m args meth c cc own nL ini D aC B b → 1 ≤ R.frames → 100 ≤ R.locals → ∀ (lv : List (Nat × Value)) (st : List Value) (w : pm_H × Nat × Nat) (σ' : pm_S), f (pc, lv, st, w) = some σ' →
      pm_W p l e R s m args below meth c nL D aC B b Q σ' → pm_W p l e R s m args below meth c nL D aC B b Q (pc, lv, st, w)
