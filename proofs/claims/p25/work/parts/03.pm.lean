section
/-! THE PURE MACHINE, part 1: cells by their numbers, what they are in a heap -/
noncomputable def pm_T : List Cond := lw_tbl.filter goodWord
theorem pm_T_good : GoodIn lw_tbl pm_T := fun w hw => ⟨(List.mem_filter.mp hw).1, good_of_word (List.mem_filter.mp hw).2⟩
theorem pm_T_word {w : Cond} (h : w ∈ pm_T) : (w.onTables && w.keeps) = true ∨ ∃ ty, w = .arrayClass ty := good_of_word (List.mem_filter.mp h).2
noncomputable abbrev pm_E : Type := (Nat × vp_A) ⊕ (Nat × List Value)
noncomputable abbrev pm_H : Type := List pm_E
/-- pc, locals, stack, heap, cells and slots that may still be made -/
noncomputable abbrev pm_S : Type := Nat × List (Nat × Value) × List Value × pm_H × Nat × Nat
/-- a step; or a call (the method's number, how many arguments, the receiver's class, cells, slots); or a return (0: of nothing) -/
noncomputable abbrev pm_I : Type := (pm_S → Option pm_S) ⊕ ((Nat × Nat × Option Nat × Nat × Nat) ⊕ Nat)
/-- a value: cell k lies at B + k; the script's reference stands as a return address -/
noncomputable def pm_v (B : Nat) (b : Nat → Option Nat) (v : Value) : Value := match v with
  | .int x => .int x
  | .long x => .long x
  | .float x => .float x
  | .double x => .double x
  | .null => .null
  | .ref k => .ref (B + k)
  | .retAddr k => va_rf (b k)
theorem pm_v_cat (B : Nat) (b : Nat → Option Nat) (v : Value) : (pm_v B b v).category = v.category := by
  cases v with
  | retAddr k => show (va_rf (b k)).category = 1; cases b k <;> rfl
  | _ => rfl
noncomputable def pm_q (B : Nat) (b : Nat → Option Nat) (q : Nat × Value) : Nat × Value := (q.1, pm_v B b q.2)
noncomputable def pm_e (B : Nat) (b : Nat → Option Nat) (aC : Nat → ClassId) (x : pm_E) : va_E := match x with
  | .inl (t, n, .inl f) => .inl (aC t, n, .inl f)
  | .inl (t, n, .inr (.inl f)) => .inl (aC t, n, .inr (.inl f))
  | .inl (t, n, .inr (.inr (.inl f))) => .inl (aC t, n, .inr (.inr (.inl f)))
  | .inl (t, n, .inr (.inr (.inr (.inl f)))) => .inl (aC t, n, .inr (.inr (.inr (.inl f))))
  | .inl (t, n, .inr (.inr (.inr (.inr f)))) => .inl (aC t, n, .inr (.inr (.inr (.inr (fun i => (f i).map (fun k => B + k))))))
  | .inr (ci, fs) => .inr (ci, fs.map (pm_v B b))
noncomputable def pm_w (B : Nat) (b : Nat → Option Nat) (aC : Nat → ClassId) (h : pm_H) : va_W := h.mapIdx (fun k x => (B + k, pm_e B b aC x))
theorem pm_w_at {B : Nat} {b : Nat → Option Nat} {aC : Nat → ClassId} {h : pm_H} {k : Nat} {x : pm_E} (hk : h[k]? = some x) : (pm_w B b aC h)[k]? = some (B + k, pm_e B b aC x) := by
  simp [pm_w, hk]
theorem pm_w_get {B : Nat} {b : Nat → Option Nat} {aC : Nat → ClassId} {h : pm_H} {k : Nat} {q : Nat × va_E} (hk : (pm_w B b aC h)[k]? = some q) : q.1 = B + k := by
  simp only [pm_w, List.getElem?_mapIdx] at hk
  cases hx : h[k]? with
  | none => rw [hx] at hk; cases hk
  | some x => rw [hx] at hk; cases hk; rfl
theorem pm_w_set (B : Nat) (b : Nat → Option Nat) (aC : Nat → ClassId) (h : pm_H) (k : Nat) (x : pm_E) : (pm_w B b aC h).set k (B + k, pm_e B b aC x) = pm_w B b aC (h.set k x) := by
  apply List.ext_getElem?
  intro i
  simp only [pm_w, List.getElem?_set, List.getElem?_mapIdx, List.length_mapIdx]
  by_cases hi : k = i
  · subst hi
    by_cases hl : k < h.length
    · simp [hl]
    · simp [hl]
  · simp [hi]
theorem pm_w_app (B : Nat) (b : Nat → Option Nat) (aC : Nat → ClassId) (h : pm_H) (x : pm_E) : pm_w B b aC h ++ [(B + h.length, pm_e B b aC x)] = pm_w B b aC (h ++ [x]) := by
  simp [pm_w, List.mapIdx_append]
theorem pm_w_D (B : Nat) (b : Nat → Option Nat) (aC : Nat → ClassId) (h : pm_H) : va_D (fun q => B ≤ q) (pm_w B b aC h) := by
  refine ⟨fun i j p q hi hj e => ?_, fun k q hq => ?_⟩
  · have h1 := pm_w_get hi
    have h2 := pm_w_get hj
    omega
  · have h1 := pm_w_get hq
    show B ≤ q.1
    omega
noncomputable def pm_get : List (Nat × Value) → Nat → Option Value
  | [], _ => none
  | q :: l, i => bif Nat.beq q.1 i then some q.2 else pm_get l i
theorem pm_get_in {i : Nat} {v : Value} : ∀ {lv : List (Nat × Value)}, pm_get lv i = some v → (i, v) ∈ lv
  | [], h => by cases h
  | q :: l, h => by
    unfold pm_get at h
    cases hb : Nat.beq q.1 i with
    | true =>
      rw [hb] at h
      have h1 : q.1 = i := Nat.eq_of_beq_eq_true hb
      have h2 : q.2 = v := Option.some.inj h
      subst h1; subst h2
      exact List.mem_cons_self
    | false =>
      rw [hb] at h
      exact List.mem_cons_of_mem _ (pm_get_in h)
theorem pm_loc {B : Nat} {b : Nat → Option Nat} {lv : List (Nat × Value)} {ls : Array Slot} {nL i : Nat} {v : Value} (h : lv_has ls nL (lv.map (pm_q B b))) (hg : pm_get lv i = some v) : ls[i]? = some (.val (pm_v B b v)) :=
  h.2.2 (i, pm_v B b v) (List.mem_map.mpr ⟨(i, v), pm_get_in hg, rfl⟩)
noncomputable def pm_put1 (i : Nat) (v : Value) (lv : List (Nat × Value)) : List (Nat × Value) := (i, v) :: lv.filter (fun q => !(q.1 == i) && !(q.1 + 1 == i && q.2.category == 2))
noncomputable def pm_put2 (i : Nat) (v : Value) (lv : List (Nat × Value)) : List (Nat × Value) := (i, v) :: lv.filter (fun q => !(q.1 == i) && (!(q.1 == i + 1) && !(q.1 + 1 == i && q.2.category == 2)))
theorem pm_put1_map (B : Nat) (b : Nat → Option Nat) (i : Nat) (v : Value) (lv : List (Nat × Value)) : (i, pm_v B b v) :: (lv.map (pm_q B b)).filter (fun q => !(q.1 == i) && !(q.1 + 1 == i && q.2.category == 2)) = (pm_put1 i v lv).map (pm_q B b) := by
  simp only [pm_put1, List.map_cons, List.filter_map]
  refine congrArg (List.cons _) (congrArg (List.map _) (List.filter_congr fun q _ => ?_))
  simp [pm_q, pm_v_cat]
theorem pm_put2_map (B : Nat) (b : Nat → Option Nat) (i : Nat) (v : Value) (lv : List (Nat × Value)) : (i, pm_v B b v) :: (lv.map (pm_q B b)).filter (fun q => !(q.1 == i) && (!(q.1 == i + 1) && !(q.1 + 1 == i && q.2.category == 2))) = (pm_put2 i v lv).map (pm_q B b) := by
  simp only [pm_put2, List.map_cons, List.filter_map]
  refine congrArg (List.cons _) (congrArg (List.map _) (List.filter_congr fun q _ => ?_))
  simp [pm_q, pm_v_cat]
/-- the array classes by their numbers -/
noncomputable def pm_tys (aC : Nat → ClassId) : List (ClassId × FieldType) := [(aC 0, .int), (aC 1, .byte), (aC 2, .boolean), (aC 3, .long), (aC 4, .object RX5), (aC 5, .object RX4)]
/-- the class's static tables and the Reader's Strings, as the Statement gives them -/
noncomputable def pm_fac (j : Nat) : Int32 := [1, 1, 2, 6, 24, 120, 720, 5040, 40320].getD j 0
noncomputable def pm_rbs (j : Nat) : Int32 := [1, 0, 0, 0, 0, 0, 0, 0, 0, 0, 0, 2, 1, 0, 0, 0, 0, 0, 0, 0, 0, 0, 6, 6, 3, 1, 0, 0, 0, 0, 0, 0, 0, 24, 36, 30, 20, 10, 4, 1, 0, 0, 0, 0, 120, 240, 270, 240, 180, 120, 70, 35, 15, 5, 1].getD j 0
noncomputable def pm_len : List Nat := [6, 6, 3, 4, 3, 5, 6, 4]
noncomputable def pm_byt : List (List Int32) := [[115, 116, 114, 101, 101, 116], [112, 108, 97, 99, 101, 115], [108, 97, 119], [111, 100, 100, 115], [99, 97, 114], [119, 97, 110, 116, 115], [115, 116, 97, 110, 100, 115], [106, 111, 105, 110]]
noncomputable def pm_six (i : Nat) : Nat := [73, 78, 89, 93, 61, 108, 110, 116].getD i 0
noncomputable def pm_stx (i : Nat) : String := ["street", "places", "law", "odds", "car", "wants", "stands", "join"].getD i ""
/-- cells outside: 1, 2 the tables, 3 the JDK's formatter, 4 .. 11 the Strings, 12 .. 19 their bytes (0 is the law's script) -/
noncomputable def pm_O (B : Nat) (b : Nat → Option Nat) (U : State) (H : Heap) : Prop :=
  (∃ t, b 1 = some t ∧ va_Z RX8 "FACTORIALS" "[I" (.ref t) (fun q => B ≤ q) U H ∧ va_T .int t 9 (fun j => .int (pm_fac j)) (fun q => B ≤ q) U H) ∧
  (∃ t, b 2 = some t ∧ va_Z RX8 "ROWS_BY_STEPS" "[I" (.ref t) (fun q => B ≤ q) U H ∧ va_T .int t 55 (fun j => .int (pm_rbs j)) (fun q => B ≤ q) U H) ∧
  va_Z RJ0 "COMPACT_STRINGS" "Z" (.int 1) (fun q => B ≤ q) U H ∧
  va_Z RJ3 "SIOOBE_FORMATTER" "Ljava/util/function/BiFunction;" (va_rf (b 3)) (fun q => B ≤ q) U H ∧
  ∃ adK adV : Nat → Nat, vk_S 8 pm_len pm_byt adK adV (fun q => B ≤ q) U H ∧ ∀ i : Nat, i < 8 → b (4 + i) = some (adK i) ∧ b (12 + i) = some (adV i)
theorem pm_O.moved {B : Nat} {b : Nat → Option Nat} {u U : State} {H : Heap} (hvm : u.vm.Alike U.vm) (h : pm_O B b u H) : pm_O B b U H := by
  obtain ⟨⟨t, h1, h2, h3⟩, ⟨t2, g1, g2, g3⟩, h4, h5, adK, adV, h6, h7⟩ := h
  exact ⟨⟨t, h1, va_Z.moved hvm h2, va_T.moved hvm h3⟩, ⟨t2, g1, va_Z.moved hvm g2, va_T.moved hvm g3⟩, va_Z.moved hvm h4, va_Z.moved hvm h5, adK, adV, vk_S.moved hvm h6, h7⟩
theorem pm_O.kept {B : Nat} {b : Nat → Option Nat} {U : State} {H H1 : Heap} (h : pm_O B b U H) (hq : ∀ a : Nat, a < H.size → ¬ B ≤ a → H1[a]? = H[a]?) : pm_O B b U H1 := by
  obtain ⟨⟨t, h1, h2, h3⟩, ⟨t2, g1, g2, g3⟩, h4, h5, adK, adV, h6, h7⟩ := h
  exact ⟨⟨t, h1, h2.kept hq, h3.kept hq⟩, ⟨t2, g1, g2.kept hq, g3.kept hq⟩, h4.kept hq, h5.kept hq, adK, adV, h6.kept hq, h7⟩
noncomputable def pm_N (b : Nat → Option Nat) (U : State) : Prop := (va_Nw (.methodLinkNest RX0 19 yX8_placeBit RX8) U ∧ va_Nw (.methodLinkNest RX1 33 yX8_placeBit RX8) U ∧ va_Nw (.methodLinkNest RX3 24 yX8_placeBit RX8) U) ∧ ∀ i : Nat, i < 8 → ∃ a, b (4 + i) = some a ∧ vk_R RX2 (pm_six i) (pm_stx i) a U
theorem pm_N.warm {b : Nat → Option Nat} {s U : State} (hW : s.WarmedH U.vm) (h : pm_N b s) : pm_N b U :=
  ⟨⟨va_Nw.warmM hW h.1.1, va_Nw.warmM hW h.1.2.1, va_Nw.warmM hW h.1.2.2⟩, fun i hi => by obtain ⟨a, e, r⟩ := h.2 i hi; exact ⟨a, e, vk_R.warm hW r⟩⟩
theorem pm_N.same {b : Nat → Option Nat} {u U : State} (hv : u.vm = U.vm) (h : pm_N b u) : pm_N b U :=
  ⟨⟨va_Nw.same rfl hv h.1.1, va_Nw.same rfl hv h.1.2.1, va_Nw.same rfl hv h.1.2.2⟩, fun i hi => by obtain ⟨a, e, r⟩ := h.2 i hi; exact ⟨a, e, vk_R.same hv.symm r⟩⟩
/-- what the tables say of a state: classes, array classes, nest mates, Strings, the cells outside -/
noncomputable def pm_K (D : va_G) (aC : Nat → ClassId) (B : Nat) (b : Nat → Option Nat) (U : State) : Prop := va_K D vwCl (pm_tys aC) U ∧ va_AO RX5 U ∧ va_AO RX4 U ∧ pm_N b U ∧ pm_O B b U U.heap
theorem pm_K.moved {D : va_G} {aC : Nat → ClassId} {B : Nat} {b : Nat → Option Nat} {s U : State} {H : Heap} {locs : List Loc} (hW : s.WarmedH U.vm) (hU : U.heap = H) (hS : va_S (fun q => B ≤ q) s.heap H locs) (h : pm_K D aC B b s) : pm_K D aC B b U :=
  ⟨va_K.moved hW.alike h.1, va_AO.moved hW.alike h.2.1, va_AO.moved hW.alike h.2.2.1, h.2.2.2.1.warm hW, by rw [hU]; exact (h.2.2.2.2.kept hS.2.1).moved hW.alike⟩
theorem pm_K.call {D : va_G} {aC : Nat → ClassId} {B : Nat} {b : Nat → Option Nat} {U : State} {g : JFrame} {mk : MethodId} {a : Array Value} (h : pm_K D aC B b U) : pm_K D aC B b (U.calling g mk a) :=
  ⟨va_K.moved (u := U) (U := U.calling g mk a) (Vm.Alike.refl U.vm) h.1, va_AO.moved (u := U) (U := U.calling g mk a) (Vm.Alike.refl U.vm) h.2.1, va_AO.moved (u := U) (U := U.calling g mk a) (Vm.Alike.refl U.vm) h.2.2.1, h.2.2.2.1.same (u := U) (U := U.calling g mk a) rfl, h.2.2.2.2.moved (u := U) (U := U.calling g mk a) (Vm.Alike.refl U.vm)⟩
/-- what stays all through a method -/
noncomputable def pm_C (p : Program) (s : State) (m : MethodId) (args : Array Value) (meth : Method) (c : Code) (cc : ByteArray) (own : String) (nL : Nat) (ini : Bool) (D : va_G) (aC : Nat → ClassId) (B : Nat) (b : Nat → Option Nat) : Prop :=
  p.tables.exec = Jvm.exec ∧ c.code = cc ∧ c.maxLocals = nL ∧ s.vm.findClass own = some m.cls ∧ (∀ w ∈ pm_T, w.before args s = true) ∧ pm_K D aC B b s ∧ B ≤ s.heap.size ∧ (ini = true → meth.name = "<init>")
/-- the machine goes on from every heap and frame that are as the pure state says -/
noncomputable def pm_W (p : Program) (l : Launch) (e : Env) (R : Room) (s : State) (m : MethodId) (args : Array Value) (below : List Frame) (meth : Method) (c : Code) (nL : Nat) (D : va_G) (aC : Nat → ClassId) (B : Nat) (b : Nat → Option Nat) (Q : State → Prop) (σ : pm_S) : Prop :=
  ∀ (H : Heap) (locs : List Loc) (ls : Array Slot) (cells slots : Nat), lv_has ls nL (σ.2.1.map (pm_q B b)) → H.size = B + σ.2.2.2.1.length → va_P D vwCl (pm_w B b aC σ.2.2.2.1) H → va_S (fun q => B ≤ q) s.heap H locs → cells + σ.2.2.2.2.1 ≤ R.cells → slots + σ.2.2.2.2.2 ≤ R.slots →
    W p l e R s m args below meth c H locs cells slots Q (F0 m σ.1 ls (σ.2.2.1.map (pm_v B b)))
/-- a step of the pure machine is one of the machine -/
noncomputable def pm_okF (cc : ByteArray) (own : String) (nL : Nat) (ini : Bool) (pc : Nat) (f : pm_S → Option pm_S) : Prop :=
  ∀ (p : Program) (l : Launch) (e : Env) (R : Room) (s : State) (m : MethodId) (args : Array Value) (below : List Frame) (meth : Method) (c : Code) (D : va_G) (aC : Nat → ClassId) (B : Nat) (b : Nat → Option Nat) (Q : State → Prop),
    pm_C p s m args meth c cc own nL ini D aC B b → 1 ≤ R.frames → 100 ≤ R.locals → ∀ (lv : List (Nat × Value)) (st : List Value) (w : pm_H × Nat × Nat) (σ' : pm_S), f (pc, lv, st, w) = some σ' →
      pm_W p l e R s m args below meth c nL D aC B b Q σ' → pm_W p l e R s m args below meth c nL D aC B b Q (pc, lv, st, w)
end
section
/-! THE PURE MACHINE, part 2: its steps, each with the row of the kit that it stands on (written by gen_steps.py) -/
noncomputable def s_const (v : Value) (n : Nat) : pm_S → Option pm_S := fun σ => some (n, σ.2.1, v :: σ.2.2.1, σ.2.2.2)
theorem k_iconst {cc : ByteArray} {own : String} {nL pc : Nat} {ini : Bool} {n : Int} {v : Int32} (hd : decode cc pc = .ok (.iconst n, 1)) (hv : Int32.ofInt n = v) : pm_okF cc own nL ini pc (s_const (.int v) (pc + 1)) := by
  intro p l e R s m args below meth c D aC B b Q C hR1 hR2 lv st w σ' hf k
  obtain rfl := Option.some.inj hf
  intro H locs ls cells slots h1 h2 h3 h4 h5 h6
  exact lv_iconst C.1 C.2.1 hd hv (k H locs ls cells slots h1 h2 h3 h4 h5 h6)
theorem k_bipush {cc : ByteArray} {own : String} {nL pc : Nat} {ini : Bool} {n : Int} {v : Int32} (hd : decode cc pc = .ok (.bipush n, 2)) (hv : (Int8.ofInt n).toInt32 = v) : pm_okF cc own nL ini pc (s_const (.int v) (pc + 2)) := by
  intro p l e R s m args below meth c D aC B b Q C hR1 hR2 lv st w σ' hf k
  obtain rfl := Option.some.inj hf
  intro H locs ls cells slots h1 h2 h3 h4 h5 h6
  exact lv_bipush C.1 C.2.1 hd hv (k H locs ls cells slots h1 h2 h3 h4 h5 h6)
theorem k_sipush {cc : ByteArray} {own : String} {nL pc : Nat} {ini : Bool} {n : Int} {v : Int32} (hd : decode cc pc = .ok (.sipush n, 3)) (hv : (Int16.ofInt n).toInt32 = v) : pm_okF cc own nL ini pc (s_const (.int v) (pc + 3)) := by
  intro p l e R s m args below meth c D aC B b Q C hR1 hR2 lv st w σ' hf k
  obtain rfl := Option.some.inj hf
  intro H locs ls cells slots h1 h2 h3 h4 h5 h6
  exact lv_sipush C.1 C.2.1 hd hv (k H locs ls cells slots h1 h2 h3 h4 h5 h6)
theorem k_lconst {cc : ByteArray} {own : String} {nL pc : Nat} {ini : Bool} {n : Fin 2} {v : Int64} (hd : decode cc pc = .ok (.lconst n, 1)) (hv : Int64.ofNat (n : Nat) = v) : pm_okF cc own nL ini pc (s_const (.long v) (pc + 1)) := by
  intro p l e R s m args below meth c D aC B b Q C hR1 hR2 lv st w σ' hf k
  obtain rfl := Option.some.inj hf
  intro H locs ls cells slots h1 h2 h3 h4 h5 h6
  exact lv_lconst C.1 C.2.1 hd hv (k H locs ls cells slots h1 h2 h3 h4 h5 h6)
theorem k_ldc {cc : ByteArray} {own : String} {nL pc : Nat} {ini : Bool} {i : Nat} {v : Int32} (hd : decode cc pc = .ok (.ldc i, 2)) (hw : Cond.constant own i v ∈ pm_T) : pm_okF cc own nL ini pc (s_const (.int v) (pc + 2)) := by
  intro p l e R s m args below meth c D aC B b Q C hR1 hR2 lv st w σ' hf k
  obtain rfl := Option.some.inj hf
  intro H locs ls cells slots h1 h2 h3 h4 h5 h6
  exact lv_ldc C.1 C.2.1 C.2.2.2.1 (C.2.2.2.2.1 _ hw) hd (k H locs ls cells slots h1 h2 h3 h4 h5 h6)
theorem k_ldcw {cc : ByteArray} {own : String} {nL pc : Nat} {ini : Bool} {i : Nat} {v : Int32} (hd : decode cc pc = .ok (.ldc_w i, 3)) (hw : Cond.constant own i v ∈ pm_T) : pm_okF cc own nL ini pc (s_const (.int v) (pc + 3)) := by
  intro p l e R s m args below meth c D aC B b Q C hR1 hR2 lv st w σ' hf k
  obtain rfl := Option.some.inj hf
  intro H locs ls cells slots h1 h2 h3 h4 h5 h6
  exact lv_ldcw C.1 C.2.1 C.2.2.2.1 (C.2.2.2.2.1 _ hw) hd (k H locs ls cells slots h1 h2 h3 h4 h5 h6)
theorem k_ldc2 {cc : ByteArray} {own : String} {nL pc : Nat} {ini : Bool} {i : Nat} {v : Int64} (hd : decode cc pc = .ok (.ldc2_w i, 3)) (hw : Cond.constantLong own i v ∈ pm_T) : pm_okF cc own nL ini pc (s_const (.long v) (pc + 3)) := by
  intro p l e R s m args below meth c D aC B b Q C hR1 hR2 lv st w σ' hf k
  obtain rfl := Option.some.inj hf
  intro H locs ls cells slots h1 h2 h3 h4 h5 h6
  exact lv_ldc2 C.1 C.2.1 C.2.2.2.1 (C.2.2.2.2.1 _ hw) hd (k H locs ls cells slots h1 h2 h3 h4 h5 h6)
noncomputable def s_il (i n : Nat) : pm_S → Option pm_S := fun σ => match pm_get σ.2.1 i with
  | some (.int x) => some (n, σ.2.1, .int x :: σ.2.2.1, σ.2.2.2)
  | _ => none
theorem k_iload_n {cc : ByteArray} {own : String} {nL pc : Nat} {ini : Bool} {j : Fin 4} {i : Nat} (hd : decode cc pc = .ok (.iload_n j, 1)) (hi : (j : Nat) = i) : pm_okF cc own nL ini pc (s_il i (pc + 1)) := by
  intro p l e R s m args below meth c D aC B b Q C hR1 hR2 lv st w σ' hf k
  simp only [s_il] at hf
  split at hf
  · rename_i x he
    obtain rfl := Option.some.inj hf
    intro H locs ls cells slots h1 h2 h3 h4 h5 h6
    exact lv_iload_n C.1 C.2.1 hd hi (pm_loc h1 he) (k H locs ls cells slots h1 h2 h3 h4 h5 h6)
  · cases hf
theorem k_iload {cc : ByteArray} {own : String} {nL pc : Nat} {ini : Bool} {i : Nat} (hd : decode cc pc = .ok (.iload i, 2)) : pm_okF cc own nL ini pc (s_il i (pc + 2)) := by
  intro p l e R s m args below meth c D aC B b Q C hR1 hR2 lv st w σ' hf k
  simp only [s_il] at hf
  split at hf
  · rename_i x he
    obtain rfl := Option.some.inj hf
    intro H locs ls cells slots h1 h2 h3 h4 h5 h6
    exact lv_iload C.1 C.2.1 hd (pm_loc h1 he) (k H locs ls cells slots h1 h2 h3 h4 h5 h6)
  · cases hf
noncomputable def s_ll (i n : Nat) : pm_S → Option pm_S := fun σ => match pm_get σ.2.1 i with
  | some (.long x) => some (n, σ.2.1, .long x :: σ.2.2.1, σ.2.2.2)
  | _ => none
theorem k_lload_n {cc : ByteArray} {own : String} {nL pc : Nat} {ini : Bool} {j : Fin 4} {i : Nat} (hd : decode cc pc = .ok (.lload_n j, 1)) (hi : (j : Nat) = i) : pm_okF cc own nL ini pc (s_ll i (pc + 1)) := by
  intro p l e R s m args below meth c D aC B b Q C hR1 hR2 lv st w σ' hf k
  simp only [s_ll] at hf
  split at hf
  · rename_i x he
    obtain rfl := Option.some.inj hf
    intro H locs ls cells slots h1 h2 h3 h4 h5 h6
    exact lv_lload_n C.1 C.2.1 hd hi (pm_loc h1 he) (k H locs ls cells slots h1 h2 h3 h4 h5 h6)
  · cases hf
theorem k_lload {cc : ByteArray} {own : String} {nL pc : Nat} {ini : Bool} {i : Nat} (hd : decode cc pc = .ok (.lload i, 2)) : pm_okF cc own nL ini pc (s_ll i (pc + 2)) := by
  intro p l e R s m args below meth c D aC B b Q C hR1 hR2 lv st w σ' hf k
  simp only [s_ll] at hf
  split at hf
  · rename_i x he
    obtain rfl := Option.some.inj hf
    intro H locs ls cells slots h1 h2 h3 h4 h5 h6
    exact lv_lload C.1 C.2.1 hd (pm_loc h1 he) (k H locs ls cells slots h1 h2 h3 h4 h5 h6)
  · cases hf
noncomputable def s_al (i n : Nat) : pm_S → Option pm_S := fun σ => match pm_get σ.2.1 i with
  | some (.ref x) => some (n, σ.2.1, .ref x :: σ.2.2.1, σ.2.2.2)
  | some (.retAddr x) => some (n, σ.2.1, .retAddr x :: σ.2.2.1, σ.2.2.2)
  | _ => none
theorem k_aload_n {cc : ByteArray} {own : String} {nL pc : Nat} {ini : Bool} {j : Fin 4} {i : Nat} (hd : decode cc pc = .ok (.aload_n j, 1)) (hi : (j : Nat) = i) : pm_okF cc own nL ini pc (s_al i (pc + 1)) := by
  intro p l e R s m args below meth c D aC B b Q C hR1 hR2 lv st w σ' hf k
  simp only [s_al] at hf
  split at hf
  · rename_i x he
    obtain rfl := Option.some.inj hf
    intro H locs ls cells slots h1 h2 h3 h4 h5 h6
    exact lv_aload_n C.1 C.2.1 hd hi (pm_loc h1 he) (k H locs ls cells slots h1 h2 h3 h4 h5 h6)
  · rename_i x he
    obtain rfl := Option.some.inj hf
    intro H locs ls cells slots h1 h2 h3 h4 h5 h6
    have hg := pm_loc h1 he
    have k2 := k H locs ls cells slots h1 h2 h3 h4 h5 h6
    simp only [List.map_cons, pm_v] at hg k2
    cases hb : b x with
    | none =>
      rw [hb] at hg k2
      exact lv_aload_nN C.1 C.2.1 hd hi hg k2
    | some q =>
      rw [hb] at hg k2
      exact lv_aload_n C.1 C.2.1 hd hi hg k2
  · cases hf
theorem k_aload {cc : ByteArray} {own : String} {nL pc : Nat} {ini : Bool} {i : Nat} (hd : decode cc pc = .ok (.aload i, 2)) : pm_okF cc own nL ini pc (s_al i (pc + 2)) := by
  intro p l e R s m args below meth c D aC B b Q C hR1 hR2 lv st w σ' hf k
  simp only [s_al] at hf
  split at hf
  · rename_i x he
    obtain rfl := Option.some.inj hf
    intro H locs ls cells slots h1 h2 h3 h4 h5 h6
    exact lv_aload C.1 C.2.1 hd (pm_loc h1 he) (k H locs ls cells slots h1 h2 h3 h4 h5 h6)
  · rename_i x he
    obtain rfl := Option.some.inj hf
    intro H locs ls cells slots h1 h2 h3 h4 h5 h6
    have hg := pm_loc h1 he
    have k2 := k H locs ls cells slots h1 h2 h3 h4 h5 h6
    simp only [List.map_cons, pm_v] at hg k2
    cases hb : b x with
    | none =>
      rw [hb] at hg k2
      exact lv_aloadN C.1 C.2.1 hd hg k2
    | some q =>
      rw [hb] at hg k2
      exact lv_aload C.1 C.2.1 hd hg k2
  · cases hf
noncomputable def s_is (i n : Nat) : pm_S → Option pm_S := fun σ => match σ.2.2.1 with
  | .int x :: st => some (n, pm_put1 i (.int x) σ.2.1, st, σ.2.2.2)
  | _ => none
theorem k_istore_n {cc : ByteArray} {own : String} {nL pc : Nat} {ini : Bool} {j : Fin 4} {i : Nat} (hd : decode cc pc = .ok (.istore_n j, 1)) (hi : (j : Nat) = i) (hn : i < nL) : pm_okF cc own nL ini pc (s_is i (pc + 1)) := by
  intro p l e R s m args below meth c D aC B b Q C hR1 hR2 lv st w σ' hf k
  simp only [s_is] at hf
  split at hf
  · rename_i x st
    obtain rfl := Option.some.inj hf
    intro H locs ls cells slots h1 h2 h3 h4 h5 h6
    exact lv_istore_n C.1 C.2.1 hd hi h1 hn (pm_put1_map B b i (.int x) lv) (fun ls' h1' => k H locs ls' cells slots h1' h2 h3 h4 h5 h6)
  · cases hf
theorem k_istore {cc : ByteArray} {own : String} {nL pc : Nat} {ini : Bool} {i : Nat} (hd : decode cc pc = .ok (.istore i, 2)) (hn : i < nL) : pm_okF cc own nL ini pc (s_is i (pc + 2)) := by
  intro p l e R s m args below meth c D aC B b Q C hR1 hR2 lv st w σ' hf k
  simp only [s_is] at hf
  split at hf
  · rename_i x st
    obtain rfl := Option.some.inj hf
    intro H locs ls cells slots h1 h2 h3 h4 h5 h6
    exact lv_istore C.1 C.2.1 hd h1 hn (pm_put1_map B b i (.int x) lv) (fun ls' h1' => k H locs ls' cells slots h1' h2 h3 h4 h5 h6)
  · cases hf
noncomputable def s_ls (i n : Nat) : pm_S → Option pm_S := fun σ => match σ.2.2.1 with
  | .long x :: st => some (n, pm_put2 i (.long x) σ.2.1, st, σ.2.2.2)
  | _ => none
theorem k_lstore_n {cc : ByteArray} {own : String} {nL pc : Nat} {ini : Bool} {j : Fin 4} {i : Nat} (hd : decode cc pc = .ok (.lstore_n j, 1)) (hi : (j : Nat) = i) (hn : i + 1 < nL) : pm_okF cc own nL ini pc (s_ls i (pc + 1)) := by
  intro p l e R s m args below meth c D aC B b Q C hR1 hR2 lv st w σ' hf k
  simp only [s_ls] at hf
  split at hf
  · rename_i x st
    obtain rfl := Option.some.inj hf
    intro H locs ls cells slots h1 h2 h3 h4 h5 h6
    exact lv_lstore_n C.1 C.2.1 hd hi h1 hn (pm_put2_map B b i (.long x) lv) (fun ls' h1' => k H locs ls' cells slots h1' h2 h3 h4 h5 h6)
  · cases hf
theorem k_lstore {cc : ByteArray} {own : String} {nL pc : Nat} {ini : Bool} {i : Nat} (hd : decode cc pc = .ok (.lstore i, 2)) (hn : i + 1 < nL) : pm_okF cc own nL ini pc (s_ls i (pc + 2)) := by
  intro p l e R s m args below meth c D aC B b Q C hR1 hR2 lv st w σ' hf k
  simp only [s_ls] at hf
  split at hf
  · rename_i x st
    obtain rfl := Option.some.inj hf
    intro H locs ls cells slots h1 h2 h3 h4 h5 h6
    exact lv_lstore C.1 C.2.1 hd h1 hn (pm_put2_map B b i (.long x) lv) (fun ls' h1' => k H locs ls' cells slots h1' h2 h3 h4 h5 h6)
  · cases hf
noncomputable def s_as (i n : Nat) : pm_S → Option pm_S := fun σ => match σ.2.2.1 with
  | .ref x :: st => some (n, pm_put1 i (.ref x) σ.2.1, st, σ.2.2.2)
  | _ => none
theorem k_astore_n {cc : ByteArray} {own : String} {nL pc : Nat} {ini : Bool} {j : Fin 4} {i : Nat} (hd : decode cc pc = .ok (.astore_n j, 1)) (hi : (j : Nat) = i) (hn : i < nL) : pm_okF cc own nL ini pc (s_as i (pc + 1)) := by
  intro p l e R s m args below meth c D aC B b Q C hR1 hR2 lv st w σ' hf k
  simp only [s_as] at hf
  split at hf
  · rename_i x st
    obtain rfl := Option.some.inj hf
    intro H locs ls cells slots h1 h2 h3 h4 h5 h6
    exact lv_astore_n C.1 C.2.1 hd hi h1 hn (pm_put1_map B b i (.ref x) lv) (fun ls' h1' => k H locs ls' cells slots h1' h2 h3 h4 h5 h6)
  · cases hf
theorem k_astore {cc : ByteArray} {own : String} {nL pc : Nat} {ini : Bool} {i : Nat} (hd : decode cc pc = .ok (.astore i, 2)) (hn : i < nL) : pm_okF cc own nL ini pc (s_as i (pc + 2)) := by
  intro p l e R s m args below meth c D aC B b Q C hR1 hR2 lv st w σ' hf k
  simp only [s_as] at hf
  split at hf
  · rename_i x st
    obtain rfl := Option.some.inj hf
    intro H locs ls cells slots h1 h2 h3 h4 h5 h6
    exact lv_astore C.1 C.2.1 hd h1 hn (pm_put1_map B b i (.ref x) lv) (fun ls' h1' => k H locs ls' cells slots h1' h2 h3 h4 h5 h6)
  · cases hf
noncomputable def s_inc (i : Nat) (d : Int32) (n : Nat) : pm_S → Option pm_S := fun σ => match pm_get σ.2.1 i with
  | some (.int x) => some (n, pm_put1 i (.int (x + d)) σ.2.1, σ.2.2.1, σ.2.2.2)
  | _ => none
theorem k_iinc {cc : ByteArray} {own : String} {nL pc : Nat} {ini : Bool} {i : Nat} {n : Int} {d : Int32} (hd : decode cc pc = .ok (.iinc i n, 3)) (hv : Int32.ofInt n = d) (hn : i < nL) : pm_okF cc own nL ini pc (s_inc i d (pc + 3)) := by
  intro p l e R s m args below meth c D aC B b Q C hR1 hR2 lv st w σ' hf k
  subst hv
  simp only [s_inc] at hf
  split at hf
  · rename_i x he
    obtain rfl := Option.some.inj hf
    intro H locs ls cells slots h1 h2 h3 h4 h5 h6
    obtain ⟨q, hq⟩ := List.getElem?_of_mem (List.mem_map.mpr ⟨(i, .int x), pm_get_in he, rfl⟩ : pm_q B b (i, .int x) ∈ lv.map (pm_q B b))
    exact lv_iinc C.1 C.2.1 hd h1 hq rfl hn (pm_put1_map B b i (.int (x + Int32.ofInt n)) lv) (fun ls' h1' => k H locs ls' cells slots h1' h2 h3 h4 h5 h6)
  · cases hf
noncomputable def s_bin (op : Int32 → Int32 → Int32) (n : Nat) : pm_S → Option pm_S := fun σ => match σ.2.2.1 with
  | .int y :: .int x :: st => some (n, σ.2.1, .int (op x y) :: st, σ.2.2.2)
  | _ => none
noncomputable def s_lbin (op : Int64 → Int64 → Int64) (n : Nat) : pm_S → Option pm_S := fun σ => match σ.2.2.1 with
  | .long y :: .long x :: st => some (n, σ.2.1, .long (op x y) :: st, σ.2.2.2)
  | _ => none
noncomputable def s_div (op : Int32 → Int32 → Int32) (n : Nat) : pm_S → Option pm_S := fun σ => match σ.2.2.1 with
  | .int y :: .int x :: st => if y = 0 then none else some (n, σ.2.1, .int (op x y) :: st, σ.2.2.2)
  | _ => none
noncomputable def s_ldiv (op : Int64 → Int64 → Int64) (n : Nat) : pm_S → Option pm_S := fun σ => match σ.2.2.1 with
  | .long y :: .long x :: st => if y = 0 then none else some (n, σ.2.1, .long (op x y) :: st, σ.2.2.2)
  | _ => none
noncomputable def s_lcmp (n : Nat) : pm_S → Option pm_S := fun σ => match σ.2.2.1 with
  | .long y :: .long x :: st => some (n, σ.2.1, .int (lg_cmp x y) :: st, σ.2.2.2)
  | _ => none
noncomputable def s_lsh (op : Int64 → Int32 → Int64) (n : Nat) : pm_S → Option pm_S := fun σ => match σ.2.2.1 with
  | .int y :: .long x :: st => some (n, σ.2.1, .long (op x y) :: st, σ.2.2.2)
  | _ => none
noncomputable def s_un (op : Int32 → Int32) (n : Nat) : pm_S → Option pm_S := fun σ => match σ.2.2.1 with
  | .int x :: st => some (n, σ.2.1, .int (op x) :: st, σ.2.2.2)
  | _ => none
noncomputable def s_lun (op : Int64 → Int64) (n : Nat) : pm_S → Option pm_S := fun σ => match σ.2.2.1 with
  | .long x :: st => some (n, σ.2.1, .long (op x) :: st, σ.2.2.2)
  | _ => none
noncomputable def s_i2l (n : Nat) : pm_S → Option pm_S := fun σ => match σ.2.2.1 with
  | .int x :: st => some (n, σ.2.1, .long x.toInt64 :: st, σ.2.2.2)
  | _ => none
noncomputable def s_l2i (n : Nat) : pm_S → Option pm_S := fun σ => match σ.2.2.1 with
  | .long x :: st => some (n, σ.2.1, .int x.toInt32 :: st, σ.2.2.2)
  | _ => none
theorem k_iadd {cc : ByteArray} {own : String} {nL pc : Nat} {ini : Bool} (hd : decode cc pc = .ok (.iadd, 1)) : pm_okF cc own nL ini pc (s_bin (fun x y => x + y) (pc + 1)) := by
  intro p l e R s m args below meth c D aC B b Q C hR1 hR2 lv st w σ' hf k
  simp only [s_bin] at hf
  split at hf
  · obtain rfl := Option.some.inj hf
    intro H locs ls cells slots h1 h2 h3 h4 h5 h6
    exact lv_iadd C.1 C.2.1 hd (k H locs ls cells slots h1 h2 h3 h4 h5 h6)
  · cases hf
theorem k_isub {cc : ByteArray} {own : String} {nL pc : Nat} {ini : Bool} (hd : decode cc pc = .ok (.isub, 1)) : pm_okF cc own nL ini pc (s_bin (fun x y => x - y) (pc + 1)) := by
  intro p l e R s m args below meth c D aC B b Q C hR1 hR2 lv st w σ' hf k
  simp only [s_bin] at hf
  split at hf
  · obtain rfl := Option.some.inj hf
    intro H locs ls cells slots h1 h2 h3 h4 h5 h6
    exact lv_isub C.1 C.2.1 hd (k H locs ls cells slots h1 h2 h3 h4 h5 h6)
  · cases hf
theorem k_imul {cc : ByteArray} {own : String} {nL pc : Nat} {ini : Bool} (hd : decode cc pc = .ok (.imul, 1)) : pm_okF cc own nL ini pc (s_bin (fun x y => x * y) (pc + 1)) := by
  intro p l e R s m args below meth c D aC B b Q C hR1 hR2 lv st w σ' hf k
  simp only [s_bin] at hf
  split at hf
  · obtain rfl := Option.some.inj hf
    intro H locs ls cells slots h1 h2 h3 h4 h5 h6
    exact lv_imul C.1 C.2.1 hd (k H locs ls cells slots h1 h2 h3 h4 h5 h6)
  · cases hf
theorem k_iand {cc : ByteArray} {own : String} {nL pc : Nat} {ini : Bool} (hd : decode cc pc = .ok (.iand, 1)) : pm_okF cc own nL ini pc (s_bin (fun x y => x &&& y) (pc + 1)) := by
  intro p l e R s m args below meth c D aC B b Q C hR1 hR2 lv st w σ' hf k
  simp only [s_bin] at hf
  split at hf
  · obtain rfl := Option.some.inj hf
    intro H locs ls cells slots h1 h2 h3 h4 h5 h6
    exact lv_iand C.1 C.2.1 hd (k H locs ls cells slots h1 h2 h3 h4 h5 h6)
  · cases hf
theorem k_ior {cc : ByteArray} {own : String} {nL pc : Nat} {ini : Bool} (hd : decode cc pc = .ok (.ior, 1)) : pm_okF cc own nL ini pc (s_bin (fun x y => x ||| y) (pc + 1)) := by
  intro p l e R s m args below meth c D aC B b Q C hR1 hR2 lv st w σ' hf k
  simp only [s_bin] at hf
  split at hf
  · obtain rfl := Option.some.inj hf
    intro H locs ls cells slots h1 h2 h3 h4 h5 h6
    exact lv_ior C.1 C.2.1 hd (k H locs ls cells slots h1 h2 h3 h4 h5 h6)
  · cases hf
theorem k_ixor {cc : ByteArray} {own : String} {nL pc : Nat} {ini : Bool} (hd : decode cc pc = .ok (.ixor, 1)) : pm_okF cc own nL ini pc (s_bin (fun x y => x ^^^ y) (pc + 1)) := by
  intro p l e R s m args below meth c D aC B b Q C hR1 hR2 lv st w σ' hf k
  simp only [s_bin] at hf
  split at hf
  · obtain rfl := Option.some.inj hf
    intro H locs ls cells slots h1 h2 h3 h4 h5 h6
    exact lv_ixor C.1 C.2.1 hd (k H locs ls cells slots h1 h2 h3 h4 h5 h6)
  · cases hf
theorem k_ishl {cc : ByteArray} {own : String} {nL pc : Nat} {ini : Bool} (hd : decode cc pc = .ok (.ishl, 1)) : pm_okF cc own nL ini pc (s_bin (fun x y => x <<< (y &&& 31)) (pc + 1)) := by
  intro p l e R s m args below meth c D aC B b Q C hR1 hR2 lv st w σ' hf k
  simp only [s_bin] at hf
  split at hf
  · obtain rfl := Option.some.inj hf
    intro H locs ls cells slots h1 h2 h3 h4 h5 h6
    exact lv_ishl C.1 C.2.1 hd (k H locs ls cells slots h1 h2 h3 h4 h5 h6)
  · cases hf
theorem k_ishr {cc : ByteArray} {own : String} {nL pc : Nat} {ini : Bool} (hd : decode cc pc = .ok (.ishr, 1)) : pm_okF cc own nL ini pc (s_bin (fun x y => x >>> (y &&& 31)) (pc + 1)) := by
  intro p l e R s m args below meth c D aC B b Q C hR1 hR2 lv st w σ' hf k
  simp only [s_bin] at hf
  split at hf
  · obtain rfl := Option.some.inj hf
    intro H locs ls cells slots h1 h2 h3 h4 h5 h6
    exact lv_ishr C.1 C.2.1 hd (k H locs ls cells slots h1 h2 h3 h4 h5 h6)
  · cases hf
theorem k_ladd {cc : ByteArray} {own : String} {nL pc : Nat} {ini : Bool} (hd : decode cc pc = .ok (.ladd, 1)) : pm_okF cc own nL ini pc (s_lbin (fun x y => x + y) (pc + 1)) := by
  intro p l e R s m args below meth c D aC B b Q C hR1 hR2 lv st w σ' hf k
  simp only [s_lbin] at hf
  split at hf
  · obtain rfl := Option.some.inj hf
    intro H locs ls cells slots h1 h2 h3 h4 h5 h6
    exact lv_ladd C.1 C.2.1 hd (k H locs ls cells slots h1 h2 h3 h4 h5 h6)
  · cases hf
theorem k_lsub {cc : ByteArray} {own : String} {nL pc : Nat} {ini : Bool} (hd : decode cc pc = .ok (.lsub, 1)) : pm_okF cc own nL ini pc (s_lbin (fun x y => x - y) (pc + 1)) := by
  intro p l e R s m args below meth c D aC B b Q C hR1 hR2 lv st w σ' hf k
  simp only [s_lbin] at hf
  split at hf
  · obtain rfl := Option.some.inj hf
    intro H locs ls cells slots h1 h2 h3 h4 h5 h6
    exact lv_lsub C.1 C.2.1 hd (k H locs ls cells slots h1 h2 h3 h4 h5 h6)
  · cases hf
theorem k_lmul {cc : ByteArray} {own : String} {nL pc : Nat} {ini : Bool} (hd : decode cc pc = .ok (.lmul, 1)) : pm_okF cc own nL ini pc (s_lbin (fun x y => x * y) (pc + 1)) := by
  intro p l e R s m args below meth c D aC B b Q C hR1 hR2 lv st w σ' hf k
  simp only [s_lbin] at hf
  split at hf
  · obtain rfl := Option.some.inj hf
    intro H locs ls cells slots h1 h2 h3 h4 h5 h6
    exact lv_lmul C.1 C.2.1 hd (k H locs ls cells slots h1 h2 h3 h4 h5 h6)
  · cases hf
theorem k_land {cc : ByteArray} {own : String} {nL pc : Nat} {ini : Bool} (hd : decode cc pc = .ok (.land, 1)) : pm_okF cc own nL ini pc (s_lbin (fun x y => x &&& y) (pc + 1)) := by
  intro p l e R s m args below meth c D aC B b Q C hR1 hR2 lv st w σ' hf k
  simp only [s_lbin] at hf
  split at hf
  · obtain rfl := Option.some.inj hf
    intro H locs ls cells slots h1 h2 h3 h4 h5 h6
    exact lv_land C.1 C.2.1 hd (k H locs ls cells slots h1 h2 h3 h4 h5 h6)
  · cases hf
theorem k_lor {cc : ByteArray} {own : String} {nL pc : Nat} {ini : Bool} (hd : decode cc pc = .ok (.lor, 1)) : pm_okF cc own nL ini pc (s_lbin (fun x y => x ||| y) (pc + 1)) := by
  intro p l e R s m args below meth c D aC B b Q C hR1 hR2 lv st w σ' hf k
  simp only [s_lbin] at hf
  split at hf
  · obtain rfl := Option.some.inj hf
    intro H locs ls cells slots h1 h2 h3 h4 h5 h6
    exact lv_lor C.1 C.2.1 hd (k H locs ls cells slots h1 h2 h3 h4 h5 h6)
  · cases hf
theorem k_lcmp {cc : ByteArray} {own : String} {nL pc : Nat} {ini : Bool} (hd : decode cc pc = .ok (.lcmp, 1)) : pm_okF cc own nL ini pc (s_lcmp (pc + 1)) := by
  intro p l e R s m args below meth c D aC B b Q C hR1 hR2 lv st w σ' hf k
  simp only [s_lcmp] at hf
  split at hf
  · obtain rfl := Option.some.inj hf
    intro H locs ls cells slots h1 h2 h3 h4 h5 h6
    exact W.lcmp C.1 C.2.1 hd (k H locs ls cells slots h1 h2 h3 h4 h5 h6)
  · cases hf
theorem k_lneg {cc : ByteArray} {own : String} {nL pc : Nat} {ini : Bool} (hd : decode cc pc = .ok (.lneg, 1)) : pm_okF cc own nL ini pc (s_lun (fun x => -x) (pc + 1)) := by
  intro p l e R s m args below meth c D aC B b Q C hR1 hR2 lv st w σ' hf k
  simp only [s_lun] at hf
  split at hf
  · obtain rfl := Option.some.inj hf
    intro H locs ls cells slots h1 h2 h3 h4 h5 h6
    exact lv_lneg C.1 C.2.1 hd (k H locs ls cells slots h1 h2 h3 h4 h5 h6)
  · cases hf
theorem k_ineg {cc : ByteArray} {own : String} {nL pc : Nat} {ini : Bool} (hd : decode cc pc = .ok (.ineg, 1)) : pm_okF cc own nL ini pc (s_un (fun x => -x) (pc + 1)) := by
  intro p l e R s m args below meth c D aC B b Q C hR1 hR2 lv st w σ' hf k
  simp only [s_un] at hf
  split at hf
  · obtain rfl := Option.some.inj hf
    intro H locs ls cells slots h1 h2 h3 h4 h5 h6
    exact lv_ineg C.1 C.2.1 hd (k H locs ls cells slots h1 h2 h3 h4 h5 h6)
  · cases hf
theorem k_i2b {cc : ByteArray} {own : String} {nL pc : Nat} {ini : Bool} (hd : decode cc pc = .ok (.i2b, 1)) : pm_okF cc own nL ini pc (s_un (fun x => x.toInt8.toInt32) (pc + 1)) := by
  intro p l e R s m args below meth c D aC B b Q C hR1 hR2 lv st w σ' hf k
  simp only [s_un] at hf
  split at hf
  · obtain rfl := Option.some.inj hf
    intro H locs ls cells slots h1 h2 h3 h4 h5 h6
    exact lv_i2b C.1 C.2.1 hd rfl (k H locs ls cells slots h1 h2 h3 h4 h5 h6)
  · cases hf
theorem k_i2s {cc : ByteArray} {own : String} {nL pc : Nat} {ini : Bool} (hd : decode cc pc = .ok (.i2s, 1)) : pm_okF cc own nL ini pc (s_un (fun x => x.toInt16.toInt32) (pc + 1)) := by
  intro p l e R s m args below meth c D aC B b Q C hR1 hR2 lv st w σ' hf k
  simp only [s_un] at hf
  split at hf
  · obtain rfl := Option.some.inj hf
    intro H locs ls cells slots h1 h2 h3 h4 h5 h6
    exact lv_i2s C.1 C.2.1 hd rfl (k H locs ls cells slots h1 h2 h3 h4 h5 h6)
  · cases hf
theorem k_i2l {cc : ByteArray} {own : String} {nL pc : Nat} {ini : Bool} (hd : decode cc pc = .ok (.i2l, 1)) : pm_okF cc own nL ini pc (s_i2l (pc + 1)) := by
  intro p l e R s m args below meth c D aC B b Q C hR1 hR2 lv st w σ' hf k
  simp only [s_i2l] at hf
  split at hf
  · obtain rfl := Option.some.inj hf
    intro H locs ls cells slots h1 h2 h3 h4 h5 h6
    exact lv_i2l C.1 C.2.1 hd rfl (k H locs ls cells slots h1 h2 h3 h4 h5 h6)
  · cases hf
theorem k_l2i {cc : ByteArray} {own : String} {nL pc : Nat} {ini : Bool} (hd : decode cc pc = .ok (.l2i, 1)) : pm_okF cc own nL ini pc (s_l2i (pc + 1)) := by
  intro p l e R s m args below meth c D aC B b Q C hR1 hR2 lv st w σ' hf k
  simp only [s_l2i] at hf
  split at hf
  · obtain rfl := Option.some.inj hf
    intro H locs ls cells slots h1 h2 h3 h4 h5 h6
    exact lv_l2i C.1 C.2.1 hd rfl (k H locs ls cells slots h1 h2 h3 h4 h5 h6)
  · cases hf
theorem k_lshl {cc : ByteArray} {own : String} {nL pc : Nat} {ini : Bool} (hd : decode cc pc = .ok (.lshl, 1)) : pm_okF cc own nL ini pc (s_lsh (fun x y => x <<< (y.toInt64 &&& 63)) (pc + 1)) := by
  intro p l e R s m args below meth c D aC B b Q C hR1 hR2 lv st w σ' hf k
  simp only [s_lsh] at hf
  split at hf
  · obtain rfl := Option.some.inj hf
    intro H locs ls cells slots h1 h2 h3 h4 h5 h6
    exact lv_lshl C.1 C.2.1 hd rfl (k H locs ls cells slots h1 h2 h3 h4 h5 h6)
  · cases hf
theorem k_idiv {cc : ByteArray} {own : String} {nL pc : Nat} {ini : Bool} (hd : decode cc pc = .ok (.idiv, 1)) : pm_okF cc own nL ini pc (s_div (fun x y => x / y) (pc + 1)) := by
  intro p l e R s m args below meth c D aC B b Q C hR1 hR2 lv st w σ' hf k
  simp only [s_div] at hf
  split at hf
  · split at hf
    · cases hf
    · rename_i hy
      obtain rfl := Option.some.inj hf
      intro H locs ls cells slots h1 h2 h3 h4 h5 h6
      exact lv_idiv C.1 C.2.1 hd hy (k H locs ls cells slots h1 h2 h3 h4 h5 h6)
  · cases hf
theorem k_irem {cc : ByteArray} {own : String} {nL pc : Nat} {ini : Bool} (hd : decode cc pc = .ok (.irem, 1)) : pm_okF cc own nL ini pc (s_div (fun x y => x - x / y * y) (pc + 1)) := by
  intro p l e R s m args below meth c D aC B b Q C hR1 hR2 lv st w σ' hf k
  simp only [s_div] at hf
  split at hf
  · split at hf
    · cases hf
    · rename_i hy
      obtain rfl := Option.some.inj hf
      intro H locs ls cells slots h1 h2 h3 h4 h5 h6
      exact lv_irem C.1 C.2.1 hd hy (k H locs ls cells slots h1 h2 h3 h4 h5 h6)
  · cases hf
theorem k_ldiv {cc : ByteArray} {own : String} {nL pc : Nat} {ini : Bool} (hd : decode cc pc = .ok (.ldiv, 1)) : pm_okF cc own nL ini pc (s_ldiv (fun x y => x / y) (pc + 1)) := by
  intro p l e R s m args below meth c D aC B b Q C hR1 hR2 lv st w σ' hf k
  simp only [s_ldiv] at hf
  split at hf
  · split at hf
    · cases hf
    · rename_i hy
      obtain rfl := Option.some.inj hf
      intro H locs ls cells slots h1 h2 h3 h4 h5 h6
      exact lv_ldiv C.1 C.2.1 hd hy (k H locs ls cells slots h1 h2 h3 h4 h5 h6)
  · cases hf
theorem k_lrem {cc : ByteArray} {own : String} {nL pc : Nat} {ini : Bool} (hd : decode cc pc = .ok (.lrem, 1)) : pm_okF cc own nL ini pc (s_ldiv (fun x y => x - x / y * y) (pc + 1)) := by
  intro p l e R s m args below meth c D aC B b Q C hR1 hR2 lv st w σ' hf k
  simp only [s_ldiv] at hf
  split at hf
  · split at hf
    · cases hf
    · rename_i hy
      obtain rfl := Option.some.inj hf
      intro H locs ls cells slots h1 h2 h3 h4 h5 h6
      exact lv_lrem C.1 C.2.1 hd hy (k H locs ls cells slots h1 h2 h3 h4 h5 h6)
  · cases hf
noncomputable def s_if (q : Int32 → Bool) (t n : Nat) : pm_S → Option pm_S := fun σ => match σ.2.2.1 with
  | .int x :: st => some (bif q x then t else n, σ.2.1, st, σ.2.2.2)
  | _ => none
noncomputable def s_icmp (q : Int32 → Int32 → Bool) (t n : Nat) : pm_S → Option pm_S := fun σ => match σ.2.2.1 with
  | .int y :: .int x :: st => some (bif q x y then t else n, σ.2.1, st, σ.2.2.2)
  | _ => none
noncomputable def s_goto (t : Nat) : pm_S → Option pm_S := fun σ => some (t, σ.2.1, σ.2.2.1, σ.2.2.2)
theorem k_goto {cc : ByteArray} {own : String} {nL pc : Nat} {ini : Bool} {off : Int} {t : Nat} (hd : decode cc pc = .ok (.goto off, 3)) (ht : (pc : Int) + off = (t : Int)) : pm_okF cc own nL ini pc (s_goto t) := by
  intro p l e R s m args below meth c D aC B b Q C hR1 hR2 lv st w σ' hf k
  obtain rfl := Option.some.inj hf
  intro H locs ls cells slots h1 h2 h3 h4 h5 h6
  exact lv_goto C.1 C.2.1 hd ht (k H locs ls cells slots h1 h2 h3 h4 h5 h6)
theorem k_if_eq {cc : ByteArray} {own : String} {nL pc : Nat} {ini : Bool} {off : Int} {t : Nat} (hd : decode cc pc = .ok (.ifCond .eq off, 3)) (ht : (pc : Int) + off = (t : Int)) : pm_okF cc own nL ini pc (s_if (fun x => decide (x = 0)) t (pc + 3)) := by
  intro p l e R s m args below meth c D aC B b Q C hR1 hR2 lv st w σ' hf k
  simp only [s_if] at hf
  split at hf
  · obtain rfl := Option.some.inj hf
    intro H locs ls cells slots h1 h2 h3 h4 h5 h6
    refine lv_if_eq C.1 C.2.1 hd ht (fun c0 => ?_) (fun c0 => ?_)
    · have k2 := (k H locs ls cells slots h1 h2 h3 h4 h5 h6)
      rw [show ∀ z : Bool, z = true → (bif z then t else pc + 3) = t from fun z hz => by rw [hz]; rfl] at k2
      · exact k2
      · exact decide_eq_true c0
    · have k2 := (k H locs ls cells slots h1 h2 h3 h4 h5 h6)
      rw [show ∀ z : Bool, z = false → (bif z then t else pc + 3) = pc + 3 from fun z hz => by rw [hz]; rfl] at k2
      · exact k2
      · exact decide_eq_false c0
  · cases hf
theorem k_icmp_eq {cc : ByteArray} {own : String} {nL pc : Nat} {ini : Bool} {off : Int} {t : Nat} (hd : decode cc pc = .ok (.if_icmp .eq off, 3)) (ht : (pc : Int) + off = (t : Int)) : pm_okF cc own nL ini pc (s_icmp (fun x y => decide (x = y)) t (pc + 3)) := by
  intro p l e R s m args below meth c D aC B b Q C hR1 hR2 lv st w σ' hf k
  simp only [s_icmp] at hf
  split at hf
  · obtain rfl := Option.some.inj hf
    intro H locs ls cells slots h1 h2 h3 h4 h5 h6
    refine lv_icmp_eq C.1 C.2.1 hd ht (fun c0 => ?_) (fun c0 => ?_)
    · have k2 := (k H locs ls cells slots h1 h2 h3 h4 h5 h6)
      rw [show ∀ z : Bool, z = true → (bif z then t else pc + 3) = t from fun z hz => by rw [hz]; rfl] at k2
      · exact k2
      · exact decide_eq_true c0
    · have k2 := (k H locs ls cells slots h1 h2 h3 h4 h5 h6)
      rw [show ∀ z : Bool, z = false → (bif z then t else pc + 3) = pc + 3 from fun z hz => by rw [hz]; rfl] at k2
      · exact k2
      · exact decide_eq_false c0
  · cases hf
theorem k_if_ne {cc : ByteArray} {own : String} {nL pc : Nat} {ini : Bool} {off : Int} {t : Nat} (hd : decode cc pc = .ok (.ifCond .ne off, 3)) (ht : (pc : Int) + off = (t : Int)) : pm_okF cc own nL ini pc (s_if (fun x => decide (¬ x = 0)) t (pc + 3)) := by
  intro p l e R s m args below meth c D aC B b Q C hR1 hR2 lv st w σ' hf k
  simp only [s_if] at hf
  split at hf
  · obtain rfl := Option.some.inj hf
    intro H locs ls cells slots h1 h2 h3 h4 h5 h6
    refine lv_if_ne C.1 C.2.1 hd ht (fun c0 => ?_) (fun c0 => ?_)
    · have k2 := (k H locs ls cells slots h1 h2 h3 h4 h5 h6)
      rw [show ∀ z : Bool, z = true → (bif z then t else pc + 3) = t from fun z hz => by rw [hz]; rfl] at k2
      · exact k2
      · exact decide_eq_true c0
    · have k2 := (k H locs ls cells slots h1 h2 h3 h4 h5 h6)
      rw [show ∀ z : Bool, z = false → (bif z then t else pc + 3) = pc + 3 from fun z hz => by rw [hz]; rfl] at k2
      · exact k2
      · exact decide_eq_false (fun h => h c0)
  · cases hf
theorem k_icmp_ne {cc : ByteArray} {own : String} {nL pc : Nat} {ini : Bool} {off : Int} {t : Nat} (hd : decode cc pc = .ok (.if_icmp .ne off, 3)) (ht : (pc : Int) + off = (t : Int)) : pm_okF cc own nL ini pc (s_icmp (fun x y => decide (¬ x = y)) t (pc + 3)) := by
  intro p l e R s m args below meth c D aC B b Q C hR1 hR2 lv st w σ' hf k
  simp only [s_icmp] at hf
  split at hf
  · obtain rfl := Option.some.inj hf
    intro H locs ls cells slots h1 h2 h3 h4 h5 h6
    refine lv_icmp_ne C.1 C.2.1 hd ht (fun c0 => ?_) (fun c0 => ?_)
    · have k2 := (k H locs ls cells slots h1 h2 h3 h4 h5 h6)
      rw [show ∀ z : Bool, z = true → (bif z then t else pc + 3) = t from fun z hz => by rw [hz]; rfl] at k2
      · exact k2
      · exact decide_eq_true c0
    · have k2 := (k H locs ls cells slots h1 h2 h3 h4 h5 h6)
      rw [show ∀ z : Bool, z = false → (bif z then t else pc + 3) = pc + 3 from fun z hz => by rw [hz]; rfl] at k2
      · exact k2
      · exact decide_eq_false (fun h => h c0)
  · cases hf
theorem k_if_lt {cc : ByteArray} {own : String} {nL pc : Nat} {ini : Bool} {off : Int} {t : Nat} (hd : decode cc pc = .ok (.ifCond .lt off, 3)) (ht : (pc : Int) + off = (t : Int)) : pm_okF cc own nL ini pc (s_if (fun x => decide (x < 0)) t (pc + 3)) := by
  intro p l e R s m args below meth c D aC B b Q C hR1 hR2 lv st w σ' hf k
  simp only [s_if] at hf
  split at hf
  · obtain rfl := Option.some.inj hf
    intro H locs ls cells slots h1 h2 h3 h4 h5 h6
    refine lv_if_lt C.1 C.2.1 hd ht (fun c0 => ?_) (fun c0 => ?_)
    · have k2 := (k H locs ls cells slots h1 h2 h3 h4 h5 h6)
      rw [show ∀ z : Bool, z = true → (bif z then t else pc + 3) = t from fun z hz => by rw [hz]; rfl] at k2
      · exact k2
      · exact decide_eq_true c0
    · have k2 := (k H locs ls cells slots h1 h2 h3 h4 h5 h6)
      rw [show ∀ z : Bool, z = false → (bif z then t else pc + 3) = pc + 3 from fun z hz => by rw [hz]; rfl] at k2
      · exact k2
      · exact decide_eq_false c0
  · cases hf
theorem k_icmp_lt {cc : ByteArray} {own : String} {nL pc : Nat} {ini : Bool} {off : Int} {t : Nat} (hd : decode cc pc = .ok (.if_icmp .lt off, 3)) (ht : (pc : Int) + off = (t : Int)) : pm_okF cc own nL ini pc (s_icmp (fun x y => decide (x < y)) t (pc + 3)) := by
  intro p l e R s m args below meth c D aC B b Q C hR1 hR2 lv st w σ' hf k
  simp only [s_icmp] at hf
  split at hf
  · obtain rfl := Option.some.inj hf
    intro H locs ls cells slots h1 h2 h3 h4 h5 h6
    refine lv_icmp_lt C.1 C.2.1 hd ht (fun c0 => ?_) (fun c0 => ?_)
    · have k2 := (k H locs ls cells slots h1 h2 h3 h4 h5 h6)
      rw [show ∀ z : Bool, z = true → (bif z then t else pc + 3) = t from fun z hz => by rw [hz]; rfl] at k2
      · exact k2
      · exact decide_eq_true c0
    · have k2 := (k H locs ls cells slots h1 h2 h3 h4 h5 h6)
      rw [show ∀ z : Bool, z = false → (bif z then t else pc + 3) = pc + 3 from fun z hz => by rw [hz]; rfl] at k2
      · exact k2
      · exact decide_eq_false c0
  · cases hf
theorem k_if_ge {cc : ByteArray} {own : String} {nL pc : Nat} {ini : Bool} {off : Int} {t : Nat} (hd : decode cc pc = .ok (.ifCond .ge off, 3)) (ht : (pc : Int) + off = (t : Int)) : pm_okF cc own nL ini pc (s_if (fun x => decide (0 ≤ x)) t (pc + 3)) := by
  intro p l e R s m args below meth c D aC B b Q C hR1 hR2 lv st w σ' hf k
  simp only [s_if] at hf
  split at hf
  · obtain rfl := Option.some.inj hf
    intro H locs ls cells slots h1 h2 h3 h4 h5 h6
    refine lv_if_ge C.1 C.2.1 hd ht (fun c0 => ?_) (fun c0 => ?_)
    · have k2 := (k H locs ls cells slots h1 h2 h3 h4 h5 h6)
      rw [show ∀ z : Bool, z = true → (bif z then t else pc + 3) = t from fun z hz => by rw [hz]; rfl] at k2
      · exact k2
      · exact decide_eq_true c0
    · have k2 := (k H locs ls cells slots h1 h2 h3 h4 h5 h6)
      rw [show ∀ z : Bool, z = false → (bif z then t else pc + 3) = pc + 3 from fun z hz => by rw [hz]; rfl] at k2
      · exact k2
      · exact decide_eq_false c0
  · cases hf
theorem k_icmp_ge {cc : ByteArray} {own : String} {nL pc : Nat} {ini : Bool} {off : Int} {t : Nat} (hd : decode cc pc = .ok (.if_icmp .ge off, 3)) (ht : (pc : Int) + off = (t : Int)) : pm_okF cc own nL ini pc (s_icmp (fun x y => decide (y ≤ x)) t (pc + 3)) := by
  intro p l e R s m args below meth c D aC B b Q C hR1 hR2 lv st w σ' hf k
  simp only [s_icmp] at hf
  split at hf
  · obtain rfl := Option.some.inj hf
    intro H locs ls cells slots h1 h2 h3 h4 h5 h6
    refine lv_icmp_ge C.1 C.2.1 hd ht (fun c0 => ?_) (fun c0 => ?_)
    · have k2 := (k H locs ls cells slots h1 h2 h3 h4 h5 h6)
      rw [show ∀ z : Bool, z = true → (bif z then t else pc + 3) = t from fun z hz => by rw [hz]; rfl] at k2
      · exact k2
      · exact decide_eq_true c0
    · have k2 := (k H locs ls cells slots h1 h2 h3 h4 h5 h6)
      rw [show ∀ z : Bool, z = false → (bif z then t else pc + 3) = pc + 3 from fun z hz => by rw [hz]; rfl] at k2
      · exact k2
      · exact decide_eq_false c0
  · cases hf
theorem k_if_gt {cc : ByteArray} {own : String} {nL pc : Nat} {ini : Bool} {off : Int} {t : Nat} (hd : decode cc pc = .ok (.ifCond .gt off, 3)) (ht : (pc : Int) + off = (t : Int)) : pm_okF cc own nL ini pc (s_if (fun x => decide (0 < x)) t (pc + 3)) := by
  intro p l e R s m args below meth c D aC B b Q C hR1 hR2 lv st w σ' hf k
  simp only [s_if] at hf
  split at hf
  · obtain rfl := Option.some.inj hf
    intro H locs ls cells slots h1 h2 h3 h4 h5 h6
    refine lv_if_gt C.1 C.2.1 hd ht (fun c0 => ?_) (fun c0 => ?_)
    · have k2 := (k H locs ls cells slots h1 h2 h3 h4 h5 h6)
      rw [show ∀ z : Bool, z = true → (bif z then t else pc + 3) = t from fun z hz => by rw [hz]; rfl] at k2
      · exact k2
      · exact decide_eq_true c0
    · have k2 := (k H locs ls cells slots h1 h2 h3 h4 h5 h6)
      rw [show ∀ z : Bool, z = false → (bif z then t else pc + 3) = pc + 3 from fun z hz => by rw [hz]; rfl] at k2
      · exact k2
      · exact decide_eq_false c0
  · cases hf
theorem k_icmp_gt {cc : ByteArray} {own : String} {nL pc : Nat} {ini : Bool} {off : Int} {t : Nat} (hd : decode cc pc = .ok (.if_icmp .gt off, 3)) (ht : (pc : Int) + off = (t : Int)) : pm_okF cc own nL ini pc (s_icmp (fun x y => decide (y < x)) t (pc + 3)) := by
  intro p l e R s m args below meth c D aC B b Q C hR1 hR2 lv st w σ' hf k
  simp only [s_icmp] at hf
  split at hf
  · obtain rfl := Option.some.inj hf
    intro H locs ls cells slots h1 h2 h3 h4 h5 h6
    refine lv_icmp_gt C.1 C.2.1 hd ht (fun c0 => ?_) (fun c0 => ?_)
    · have k2 := (k H locs ls cells slots h1 h2 h3 h4 h5 h6)
      rw [show ∀ z : Bool, z = true → (bif z then t else pc + 3) = t from fun z hz => by rw [hz]; rfl] at k2
      · exact k2
      · exact decide_eq_true c0
    · have k2 := (k H locs ls cells slots h1 h2 h3 h4 h5 h6)
      rw [show ∀ z : Bool, z = false → (bif z then t else pc + 3) = pc + 3 from fun z hz => by rw [hz]; rfl] at k2
      · exact k2
      · exact decide_eq_false c0
  · cases hf
theorem k_if_le {cc : ByteArray} {own : String} {nL pc : Nat} {ini : Bool} {off : Int} {t : Nat} (hd : decode cc pc = .ok (.ifCond .le off, 3)) (ht : (pc : Int) + off = (t : Int)) : pm_okF cc own nL ini pc (s_if (fun x => decide (x ≤ 0)) t (pc + 3)) := by
  intro p l e R s m args below meth c D aC B b Q C hR1 hR2 lv st w σ' hf k
  simp only [s_if] at hf
  split at hf
  · obtain rfl := Option.some.inj hf
    intro H locs ls cells slots h1 h2 h3 h4 h5 h6
    refine lv_if_le C.1 C.2.1 hd ht (fun c0 => ?_) (fun c0 => ?_)
    · have k2 := (k H locs ls cells slots h1 h2 h3 h4 h5 h6)
      rw [show ∀ z : Bool, z = true → (bif z then t else pc + 3) = t from fun z hz => by rw [hz]; rfl] at k2
      · exact k2
      · exact decide_eq_true c0
    · have k2 := (k H locs ls cells slots h1 h2 h3 h4 h5 h6)
      rw [show ∀ z : Bool, z = false → (bif z then t else pc + 3) = pc + 3 from fun z hz => by rw [hz]; rfl] at k2
      · exact k2
      · exact decide_eq_false c0
  · cases hf
theorem k_icmp_le {cc : ByteArray} {own : String} {nL pc : Nat} {ini : Bool} {off : Int} {t : Nat} (hd : decode cc pc = .ok (.if_icmp .le off, 3)) (ht : (pc : Int) + off = (t : Int)) : pm_okF cc own nL ini pc (s_icmp (fun x y => decide (x ≤ y)) t (pc + 3)) := by
  intro p l e R s m args below meth c D aC B b Q C hR1 hR2 lv st w σ' hf k
  simp only [s_icmp] at hf
  split at hf
  · obtain rfl := Option.some.inj hf
    intro H locs ls cells slots h1 h2 h3 h4 h5 h6
    refine lv_icmp_le C.1 C.2.1 hd ht (fun c0 => ?_) (fun c0 => ?_)
    · have k2 := (k H locs ls cells slots h1 h2 h3 h4 h5 h6)
      rw [show ∀ z : Bool, z = true → (bif z then t else pc + 3) = t from fun z hz => by rw [hz]; rfl] at k2
      · exact k2
      · exact decide_eq_true c0
    · have k2 := (k H locs ls cells slots h1 h2 h3 h4 h5 h6)
      rw [show ∀ z : Bool, z = false → (bif z then t else pc + 3) = pc + 3 from fun z hz => by rw [hz]; rfl] at k2
      · exact k2
      · exact decide_eq_false c0
  · cases hf
noncomputable def s_dup (n : Nat) : pm_S → Option pm_S := fun σ => match σ.2.2.1 with
  | x :: st => bif Nat.beq x.category 1 then some (n, σ.2.1, x :: x :: st, σ.2.2.2) else none
  | _ => none
theorem k_dup {cc : ByteArray} {own : String} {nL pc : Nat} {ini : Bool} (hd : decode cc pc = .ok (.dup, 1)) : pm_okF cc own nL ini pc (s_dup (pc + 1)) := by
  intro p l e R s m args below meth c D aC B b Q C hR1 hR2 lv st w σ' hf k
  simp only [s_dup] at hf
  split at hf
  · rename_i x st
    cases hb : Nat.beq x.category 1 with
    | false => rw [hb] at hf; cases hf
    | true =>
      rw [hb] at hf
      obtain rfl := Option.some.inj hf
      intro H locs ls cells slots h1 h2 h3 h4 h5 h6
      exact lv_dup C.1 C.2.1 hd (by rw [pm_v_cat]; exact Nat.eq_of_beq_eq_true hb) (k H locs ls cells slots h1 h2 h3 h4 h5 h6)
  · cases hf
noncomputable def s_pop (n : Nat) : pm_S → Option pm_S := fun σ => match σ.2.2.1 with
  | x :: st => bif Nat.beq x.category 1 then some (n, σ.2.1, st, σ.2.2.2) else none
  | _ => none
theorem k_pop {cc : ByteArray} {own : String} {nL pc : Nat} {ini : Bool} (hd : decode cc pc = .ok (.pop, 1)) : pm_okF cc own nL ini pc (s_pop (pc + 1)) := by
  intro p l e R s m args below meth c D aC B b Q C hR1 hR2 lv st w σ' hf k
  simp only [s_pop] at hf
  split at hf
  · rename_i x st
    cases hb : Nat.beq x.category 1 with
    | false => rw [hb] at hf; cases hf
    | true =>
      rw [hb] at hf
      obtain rfl := Option.some.inj hf
      intro H locs ls cells slots h1 h2 h3 h4 h5 h6
      exact lv_pop C.1 C.2.1 hd (by rw [pm_v_cat]; exact Nat.eq_of_beq_eq_true hb) (k H locs ls cells slots h1 h2 h3 h4 h5 h6)
  · cases hf
noncomputable def s_dup2 (n : Nat) : pm_S → Option pm_S := fun σ => match σ.2.2.1 with
  | x :: y :: st => bif Nat.beq x.category 1 && Nat.beq y.category 1 then some (n, σ.2.1, x :: y :: x :: y :: st, σ.2.2.2) else none
  | _ => none
theorem k_dup2 {cc : ByteArray} {own : String} {nL pc : Nat} {ini : Bool} (hd : decode cc pc = .ok (.dup2, 1)) : pm_okF cc own nL ini pc (s_dup2 (pc + 1)) := by
  intro p l e R s m args below meth c D aC B b Q C hR1 hR2 lv st w σ' hf k
  simp only [s_dup2] at hf
  split at hf
  · rename_i x y st
    cases hb : (Nat.beq x.category 1 && Nat.beq y.category 1) with
    | false => rw [hb] at hf; cases hf
    | true =>
      rw [hb] at hf
      obtain ⟨hx, hy⟩ := Bool.and_eq_true_iff.mp hb
      obtain rfl := Option.some.inj hf
      intro H locs ls cells slots h1 h2 h3 h4 h5 h6
      exact lv_dup2_11 C.1 C.2.1 hd (by rw [pm_v_cat]; exact Nat.eq_of_beq_eq_true hx) (by rw [pm_v_cat]; exact Nat.eq_of_beq_eq_true hy) (k H locs ls cells slots h1 h2 h3 h4 h5 h6)
  · cases hf
end
section
/-! THE PURE MACHINE, part 3: fields, arrays, new cells (written by gen_heap.py) -/
noncomputable def pm_fit (ty : FieldType) (v : Value) : Bool := match ty, v with
  | .int, .int _ => true
  | .long, .long _ => true
  | .boolean, .int x => x == 0 || x == 1
  | .object _, .ref _ => true
  | .object _, .null => true
  | .array _, .ref _ => true
  | .array _, .null => true
  | _, _ => false
theorem pm_fit_ok {ty : FieldType} {v : Value} (B : Nat) (b : Nat → Option Nat) (h : pm_fit ty v = true) : narrow ty (pm_v B b v) = pm_v B b v ∧ fits ty (pm_v B b v) = true := by
  cases ty <;> cases v <;> first | (simp [pm_fit] at h; done) | (exact ⟨rfl, rfl⟩) | skip
  rename_i x
  simp only [pm_fit, Bool.or_eq_true, beq_iff_eq] at h
  rcases h with rfl | rfl <;> exact ⟨rfl, rfl⟩
/-- one cell is another, the rest as it was -/
theorem pm_stored {D : va_G} {aC : Nat → ClassId} {B k : Nat} {b : Nat → Option Nat} {h : pm_H} {x y : pm_E} {H H1 : Heap} (hP : va_P D vwCl (pm_w B b aC h) H) (hk : h[k]? = some x) (oq : ∀ q : Nat, q ≠ B + k → H1[q]? = H[q]?) (hat : va_at D vwCl (B + k, pm_e B b aC y) H1) : va_P D vwCl (pm_w B b aC (h.set k y)) H1 := by
  rw [← pm_w_set]
  exact hP.set (pm_w_D B b aC h) (pm_w_at hk) hat oq
/-- the cell behind the last is new -/
theorem pm_pushed {D : va_G} {aC : Nat → ClassId} {B : Nat} {b : Nat → Option Nat} {h : pm_H} {y : pm_E} {H H1 : Heap} (hP : va_P D vwCl (pm_w B b aC h) H) (hz : H.size = B + h.length) (oq : ∀ q : Nat, q < H.size → H1[q]? = H[q]?) (hat : va_at D vwCl (H.size, pm_e B b aC y) H1) : va_P D vwCl (pm_w B b aC (h ++ [y])) H1 := by
  rw [← pm_w_app]
  refine (hP.kept fun k q hq => oq q.1 ((hP k q hq).lt)).app (fun k q hq => ?_)
  have hl : k < 1 := (List.getElem?_eq_some_iff.mp hq).1
  rw [show k = 0 by omega] at hq
  cases hq
  rw [← hz]
  exact hat
theorem pm_grown {A : Nat → Prop} {H0 H H1 : Heap} {locs : List Loc} (hS : va_S A H0 H locs) (z : H1.size = H.size + 1) (oq : ∀ q : Nat, q < H.size → H1[q]? = H[q]?) : va_S A H0 H1 locs :=
  ⟨Nat.le_trans hS.1 (by omega), fun x h1 h2 => (oq x (Nat.lt_of_lt_of_le h1 hS.1)).trans (hS.2.1 x h1 h2), hS.2.2⟩
noncomputable def s_getf (ci k n : Nat) : pm_S → Option pm_S := fun σ => match σ.2.2.1 with
  | .ref a :: st => match σ.2.2.2.1[a]? with
    | some (.inr (cj, fs)) => bif Nat.beq cj ci then (match fs[k]? with | some v => some (n, σ.2.1, v :: st, σ.2.2.2) | none => none) else none
    | _ => none
  | _ => none
noncomputable def s_putf (ci k : Nat) (ty : FieldType) (n : Nat) : pm_S → Option pm_S := fun σ => match σ.2.2.1 with
  | v :: .ref a :: st => match σ.2.2.2.1[a]? with
    | some (.inr (cj, fs)) => bif Nat.beq cj ci && (pm_fit ty v && Nat.blt k fs.length) then some (n, σ.2.1, st, σ.2.2.2.1.set a (.inr (cj, fs.set k v)), σ.2.2.2.2) else none
    | _ => none
  | _ => none
theorem k_getf {cc : ByteArray} {own : String} {nL pc : Nat} {ini : Bool} {ci k index N : Nat} {C : String} {T : u_T} (hc : vwCl[ci]? = some (C, T, N)) (hin : ∀ w ∈ u_ws C T N, w ∈ pm_T) (hk : k < N) (hw : Cond.fieldLink own index (T k).1 (T k).2.1 (T k).2.2.1 ∈ pm_T) (hd : decode cc pc = .ok (.getfield index, 3)) : pm_okF cc own nL ini pc (s_getf ci k (pc + 3)) := by
  intro p l e R s m args below meth c D aC B b Q Cx hR1 hR2 lv st w σ' hf kk
  simp only [s_getf] at hf
  split at hf
  · rename_i a st
    split at hf
    · rename_i cj fs he
      cases hb : Nat.beq cj ci with
      | false => rw [hb] at hf; cases hf
      | true =>
        rw [hb] at hf
        simp only [cond_true] at hf
        obtain rfl := Nat.eq_of_beq_eq_true hb
        split at hf
        · rename_i v hv
          obtain rfl := Option.some.inj hf
          intro H locs ls cells slots h1 h2 h3 h4 h5 h6
          exact va_get (v := pm_v B b v) (fs := fs.map (pm_v B b)) Cx.1 Cx.2.1 Cx.2.2.2.2.1 hin Cx.2.2.2.1 Cx.2.2.2.2.2.1.1 h3 a (pm_w_at he) hc k hk (Cx.2.2.2.2.1 _ hw) (fun _ h9 => h9) (by rw [List.getElem?_map, hv]; rfl) hd (kk H locs ls cells slots h1 h2 h3 h4 h5 h6)
        · cases hf
    · cases hf
  · cases hf
theorem k_putf {cc : ByteArray} {own : String} {nL pc : Nat} {ini : Bool} {ci k index N : Nat} {C : String} {T : u_T} {ty0 : Nat → FieldType} {ty : FieldType} (hc : vwCl[ci]? = some (C, T, N)) (hin : ∀ w ∈ u_ws C T N, w ∈ pm_T) (hty : ∀ k, k < N → parseFieldDescriptor (T k).2.2.1 = some (ty0 k)) (hnm : ∀ a, a < N → ∀ b, b < N → a ≠ b → (T a).2.1 ≠ (T b).2.1) (hk : k < N) (hte : ty0 k = ty) (hfin : (T k).2.2.2 = false) (hw : Cond.fieldLink own index (T k).1 (T k).2.1 (T k).2.2.1 ∈ pm_T) (hd : decode cc pc = .ok (.putfield index, 3)) : pm_okF cc own nL ini pc (s_putf ci k ty (pc + 3)) := by
  intro p l e R s m args below meth c D aC B b Q Cx hR1 hR2 lv st w σ' hf kk
  simp only [s_putf] at hf
  split at hf
  · rename_i v a st
    split at hf
    · rename_i cj fs he
      cases hb : (Nat.beq cj ci && (pm_fit ty v && Nat.blt k fs.length)) with
      | false => rw [hb] at hf; cases hf
      | true =>
        rw [hb] at hf
        obtain ⟨hb1, hb2⟩ := Bool.and_eq_true_iff.mp hb
        obtain ⟨hb2, hb3⟩ := Bool.and_eq_true_iff.mp hb2
        obtain rfl := Nat.eq_of_beq_eq_true hb1
        obtain rfl := Option.some.inj hf
        obtain ⟨hn, hfit⟩ := pm_fit_ok B b hb2
        intro H locs ls cells slots h1 h2 h3 h4 h5 h6
        have hap := va_apart (own := own) Cx.2.2.2.2.1 hin ty0 hty hnm Cx.2.2.2.2.2.1.1 hc
        obtain ⟨r, hr, cell, q1, q2, q3, q4⟩ := h3 a _ (pm_w_at he)
        have hr : r = (C, T, N) := Option.some.inj (hr.symm.trans hc)
        subst hr
        obtain ⟨hS, hfc, kC, hkC, hkind⟩ := Cx.2.2.2.2.2.1.1.1 cj _ hc
        obtain ⟨cf, kf, fi, f, hi, hsl⟩ := hS k hk
        have hlay := Cx.2.2.2.2.1 _ (hin _ (u_in_lay hk))
        unfold u_lay at hlay
        rw [if_neg (by rw [hfin]; decide)] at hlay
        have hst := (u_facts hfc hkC (u_lays Cx.2.2.2.2.1 hin hk) hi).1
        have h9 := u_store hfc hkC hkind hlay hi (by rw [hty k hk, hte]) hn hfit
        refine W.putK Cx.1 Cx.2.1 (f := f) ⟨Cx.2.2.2.1, Cx.2.2.2.2.1 _ hw, ⟨_, _, _, hi⟩, hst⟩ (by rw [q2]; exact h9) q1 q3 (by rw [hsl]; exact k2_hasslot (q4 k hk)) rfl rfl hd fun H1 e1 z1 o1 => ?_
        rw [hsl] at e1 ⊢
        refine kk H1 _ ls cells slots h1 (z1.trans (by rw [h2]; simp)) (pm_stored h3 he o1 ?_) (h4.put z1 o1 (Nat.le_add_right B a)) h5 h6
        refine ⟨_, hc, t_OB.to (V := updV (vp_V (fs.map (pm_v B b))) k (pm_v B b v)) ⟨_, e1, q2, q3, t_set q4 hap hk _⟩ (fun j _ => ?_)⟩
        rw [vp_updV_set (by rw [List.length_map]; exact Nat.le_of_ble_eq_true hb3)]
        simp [pm_e, List.map_set]
    · cases hf
  · cases hf
theorem k_putF {cc : ByteArray} {own : String} {nL pc : Nat} {ci k index N : Nat} {C : String} {T : u_T} {ty0 : Nat → FieldType} {ty : FieldType} (hc : vwCl[ci]? = some (C, T, N)) (hin : ∀ w ∈ u_ws C T N, w ∈ pm_T) (hty : ∀ k, k < N → parseFieldDescriptor (T k).2.2.1 = some (ty0 k)) (hnm : ∀ a, a < N → ∀ b, b < N → a ≠ b → (T a).2.1 ≠ (T b).2.1) (hk : k < N) (hte : ty0 k = ty) (hfin : (T k).2.2.2 = true) (hdecl : (T k).1 = own) (hw : Cond.fieldLink own index (T k).1 (T k).2.1 (T k).2.2.1 ∈ pm_T) (hd : decode cc pc = .ok (.putfield index, 3)) : pm_okF cc own nL true pc (s_putf ci k ty (pc + 3)) := by
  intro p l e R s m args below meth c D aC B b Q Cx hR1 hR2 lv st w σ' hf kk
  simp only [s_putf] at hf
  split at hf
  · rename_i v a st
    split at hf
    · rename_i cj fs he
      cases hb : (Nat.beq cj ci && (pm_fit ty v && Nat.blt k fs.length)) with
      | false => rw [hb] at hf; cases hf
      | true =>
        rw [hb] at hf
        obtain ⟨hb1, hb2⟩ := Bool.and_eq_true_iff.mp hb
        obtain ⟨hb2, hb3⟩ := Bool.and_eq_true_iff.mp hb2
        obtain rfl := Nat.eq_of_beq_eq_true hb1
        obtain rfl := Option.some.inj hf
        obtain ⟨hn, hfit⟩ := pm_fit_ok B b hb2
        intro H locs ls cells slots h1 h2 h3 h4 h5 h6
        have hap := va_apart (own := own) Cx.2.2.2.2.1 hin ty0 hty hnm Cx.2.2.2.2.2.1.1 hc
        obtain ⟨r, hr, cell, q1, q2, q3, q4⟩ := h3 a _ (pm_w_at he)
        have hr : r = (C, T, N) := Option.some.inj (hr.symm.trans hc)
        subst hr
        obtain ⟨hS, hfc, kC, hkC, hkind⟩ := Cx.2.2.2.2.2.1.1.1 cj _ hc
        obtain ⟨cf, kf, fi, f, hi, hsl⟩ := hS k hk
        have hlay := Cx.2.2.2.2.1 _ (hin _ (u_in_lay hk))
        unfold u_lay at hlay
        rw [if_pos hfin] at hlay
        have hst := (u_facts hfc hkC (u_lays Cx.2.2.2.2.1 hin hk) hi).1
        have hcf : m.cls = cf := by
          obtain ⟨_, _, c', _, _, _, -, -, hf', -, -, -, hown2, -⟩ := Cond.laysFinal_spec hlay
          have e1 : c' = cf := by have := hi.symm.trans hf'; simp at this; exact this.1.symm
          rw [hdecl] at hown2
          rw [← e1]; exact Option.some.inj (Cx.2.2.2.1.symm.trans hown2)
        have h9 := u_fits hfc hkC hkind (Or.inr hlay) hi (by rw [hty k hk, hte]) hn hfit
        refine W.putFinK Cx.1 Cx.2.1 Cx.2.2.2.1 (Cx.2.2.2.2.1 _ hw) hi hst hcf (Cx.2.2.2.2.2.2.2 rfl) (by rw [q2]; exact h9) q1 q3 (by rw [hsl]; exact k2_hasslot (q4 k hk)) rfl rfl hd fun H1 e1 z1 o1 => ?_
        rw [hsl] at e1 ⊢
        refine kk H1 _ ls cells slots h1 (z1.trans (by rw [h2]; simp)) (pm_stored h3 he o1 ?_) (h4.put z1 o1 (Nat.le_add_right B a)) h5 h6
        refine ⟨_, hc, t_OB.to (V := updV (vp_V (fs.map (pm_v B b))) k (pm_v B b v)) ⟨_, e1, q2, q3, t_set q4 hap hk _⟩ (fun j _ => ?_)⟩
        rw [vp_updV_set (by rw [List.length_map]; exact Nat.le_of_ble_eq_true hb3)]
        simp [pm_e, List.map_set]
    · cases hf
  · cases hf
noncomputable def pm_ix (i : Int32) (n : Nat) : Bool := !(decide (i < 0)) && Nat.blt i.toNatClampNeg n
theorem pm_ix_in {i : Int32} {n : Nat} (h : pm_ix i n = true) : vp_in i n := by
  simp only [pm_ix, Bool.and_eq_true, Bool.not_eq_true', decide_eq_false_iff_not] at h
  have h2 : i.toNatClampNeg < n := Nat.le_of_ble_eq_true h.2
  intro q
  rcases q with q | q
  · exact h.1 q
  · omega
noncomputable def s_iald (n : Nat) : pm_S → Option pm_S := fun σ => match σ.2.2.1 with
  | .int i :: .ref a :: st => match σ.2.2.2.1[a]? with
    | some (.inl (0, len, .inl f)) => bif pm_ix i len then some (n, σ.2.1, .int (f i.toNatClampNeg) :: st, σ.2.2.2) else none
    | _ => none
  | _ => none
noncomputable def s_bald (n : Nat) : pm_S → Option pm_S := fun σ => match σ.2.2.1 with
  | .int i :: .ref a :: st => match σ.2.2.2.1[a]? with
    | some (.inl (1, len, .inl f)) => bif pm_ix i len then some (n, σ.2.1, .int (f i.toNatClampNeg) :: st, σ.2.2.2) else none
    | _ => none
  | _ => none
noncomputable def s_zald (n : Nat) : pm_S → Option pm_S := fun σ => match σ.2.2.1 with
  | .int i :: .ref a :: st => match σ.2.2.2.1[a]? with
    | some (.inl (2, len, .inl f)) => bif pm_ix i len then some (n, σ.2.1, .int (f i.toNatClampNeg) :: st, σ.2.2.2) else none
    | _ => none
  | _ => none
noncomputable def s_lald (n : Nat) : pm_S → Option pm_S := fun σ => match σ.2.2.1 with
  | .int i :: .ref a :: st => match σ.2.2.2.1[a]? with
    | some (.inl (3, len, .inr (.inl f))) => bif pm_ix i len then some (n, σ.2.1, .long (f i.toNatClampNeg) :: st, σ.2.2.2) else none
    | _ => none
  | _ => none
theorem k_iald {cc : ByteArray} {own : String} {nL pc : Nat} {ini : Bool} (hd : decode cc pc = .ok (.iaload, 1)) : pm_okF cc own nL ini pc (s_iald (pc + 1)) := by
  intro p l e R s m args below meth c D aC B b Q Cx hR1 hR2 lv st w σ' hf kk
  simp only [s_iald] at hf
  split at hf
  · rename_i i a st
    split at hf
    · rename_i len f he
      cases hb : pm_ix i len with
      | false => rw [hb] at hf; cases hf
      | true =>
        rw [hb] at hf
        obtain rfl := Option.some.inj hf
        intro H locs ls cells slots h1 h2 h3 h4 h5 h6
        exact va_iald Cx.1 Cx.2.1 Cx.2.2.2.2.2.1.1 h3 a 0 (pm_w_at he) rfl (pm_ix_in hb) hd (kk H locs ls cells slots h1 h2 h3 h4 h5 h6)
    · cases hf
  · cases hf
theorem k_bald {cc : ByteArray} {own : String} {nL pc : Nat} {ini : Bool} (hd : decode cc pc = .ok (.baload, 1)) : pm_okF cc own nL ini pc (s_bald (pc + 1)) := by
  intro p l e R s m args below meth c D aC B b Q Cx hR1 hR2 lv st w σ' hf kk
  simp only [s_bald] at hf
  split at hf
  · rename_i i a st
    split at hf
    · rename_i len f he
      cases hb : pm_ix i len with
      | false => rw [hb] at hf; cases hf
      | true =>
        rw [hb] at hf
        obtain rfl := Option.some.inj hf
        intro H locs ls cells slots h1 h2 h3 h4 h5 h6
        exact va_bald Cx.1 Cx.2.1 Cx.2.2.2.2.2.1.1 h3 a 1 (pm_w_at he) rfl (pm_ix_in hb) hd (kk H locs ls cells slots h1 h2 h3 h4 h5 h6)
    · cases hf
  · cases hf
theorem k_zald {cc : ByteArray} {own : String} {nL pc : Nat} {ini : Bool} (hd : decode cc pc = .ok (.baload, 1)) : pm_okF cc own nL ini pc (s_zald (pc + 1)) := by
  intro p l e R s m args below meth c D aC B b Q Cx hR1 hR2 lv st w σ' hf kk
  simp only [s_zald] at hf
  split at hf
  · rename_i i a st
    split at hf
    · rename_i len f he
      cases hb : pm_ix i len with
      | false => rw [hb] at hf; cases hf
      | true =>
        rw [hb] at hf
        obtain rfl := Option.some.inj hf
        intro H locs ls cells slots h1 h2 h3 h4 h5 h6
        exact va_zald Cx.1 Cx.2.1 Cx.2.2.2.2.2.1.1 h3 a 2 (pm_w_at he) rfl (pm_ix_in hb) hd (kk H locs ls cells slots h1 h2 h3 h4 h5 h6)
    · cases hf
  · cases hf
theorem k_lald {cc : ByteArray} {own : String} {nL pc : Nat} {ini : Bool} (hd : decode cc pc = .ok (.laload, 1)) : pm_okF cc own nL ini pc (s_lald (pc + 1)) := by
  intro p l e R s m args below meth c D aC B b Q Cx hR1 hR2 lv st w σ' hf kk
  simp only [s_lald] at hf
  split at hf
  · rename_i i a st
    split at hf
    · rename_i len f he
      cases hb : pm_ix i len with
      | false => rw [hb] at hf; cases hf
      | true =>
        rw [hb] at hf
        obtain rfl := Option.some.inj hf
        intro H locs ls cells slots h1 h2 h3 h4 h5 h6
        exact va_lald Cx.1 Cx.2.1 Cx.2.2.2.2.2.1.1 h3 a 3 (pm_w_at he) rfl (pm_ix_in hb) hd (kk H locs ls cells slots h1 h2 h3 h4 h5 h6)
    · cases hf
  · cases hf
noncomputable def pm_r (r : Option Nat) : Value := match r with
  | none => .null
  | some a => .ref a
theorem pm_r_v (B : Nat) (b : Nat → Option Nat) (r : Option Nat) : va_rf (r.map (fun k => B + k)) = pm_v B b (pm_r r) := by cases r <;> rfl
noncomputable def s_aald (t n : Nat) : pm_S → Option pm_S := fun σ => match σ.2.2.1 with
  | .int i :: .ref a :: st => match σ.2.2.2.1[a]? with
    | some (.inl (t', len, .inr (.inr (.inr (.inr f))))) => bif Nat.beq t' t && pm_ix i len then some (n, σ.2.1, pm_r (f i.toNatClampNeg) :: st, σ.2.2.2) else none
    | _ => none
  | _ => none
theorem k_aald {cc : ByteArray} {own : String} {nL pc : Nat} {ini : Bool} {t : Nat} {C : String} (ht : ∀ aC : Nat → ClassId, (pm_tys aC)[t]? = some (aC t, .object C)) (hd : decode cc pc = .ok (.aaload, 1)) : pm_okF cc own nL ini pc (s_aald t (pc + 1)) := by
  intro p l e R s m args below meth c D aC B b Q Cx hR1 hR2 lv st w σ' hf kk
  simp only [s_aald] at hf
  split at hf
  · rename_i i a st
    split at hf
    · rename_i t' len f he
      cases hb : (Nat.beq t' t && pm_ix i len) with
      | false => rw [hb] at hf; cases hf
      | true =>
        rw [hb] at hf
        obtain ⟨hb1, hb2⟩ := Bool.and_eq_true_iff.mp hb
        obtain rfl := Nat.eq_of_beq_eq_true hb1
        obtain rfl := Option.some.inj hf
        intro H locs ls cells slots h1 h2 h3 h4 h5 h6
        have k2 := kk H locs ls cells slots h1 h2 h3 h4 h5 h6
        simp only [List.map_cons, ← pm_r_v] at k2
        exact va_aldq Cx.1 Cx.2.1 Cx.2.2.2.2.2.1.1 h3 a t' (pm_w_at he) (ht aC) (pm_ix_in hb2) hd k2
    · cases hf
  · cases hf
noncomputable def s_iast (n : Nat) : pm_S → Option pm_S := fun σ => match σ.2.2.1 with
  | .int x :: .int i :: .ref a :: st => match σ.2.2.2.1[a]? with
    | some (.inl (0, len, .inl f)) => bif pm_ix i len then some (n, σ.2.1, st, σ.2.2.2.1.set a (.inl (0, len, .inl (upd f i.toNatClampNeg x))), σ.2.2.2.2) else none
    | _ => none
  | _ => none
theorem k_iast {cc : ByteArray} {own : String} {nL pc : Nat} {ini : Bool} (hd : decode cc pc = .ok (.iastore, 1)) : pm_okF cc own nL ini pc (s_iast (pc + 1)) := by
  intro p l e R s m args below meth c D aC B b Q Cx hR1 hR2 lv st w σ' hf kk
  simp only [s_iast] at hf
  split at hf
  · rename_i x i a st
    split at hf
    · rename_i len f he
      cases hb : pm_ix i len with
      | false => rw [hb] at hf; cases hf
      | true =>
        rw [hb] at hf
        obtain rfl := Option.some.inj hf
        intro H locs ls cells slots h1 h2 h3 h4 h5 h6
        have hat : H[B + a]? = some (vp_cell (aC 0) (len, .inl f)) := h3 a _ (pm_w_at he)
        refine W.iast Cx.1 Cx.2.1 hat ((Cx.2.2.2.2.2.1.1.2 0 _ rfl).1 len (fun j => .int (f j))) (fun q => by cases q) (by show ¬ (i < 0 ∨ (arrV _ _ _).slots.size ≤ _); rw [arrV_size]; exact pm_ix_in hb) rfl rfl hd fun H1 e1 z1 o1 => ?_
        refine kk H1 _ ls cells slots h1 (z1.trans (by rw [h2]; simp)) (pm_stored h3 he o1 ?_) (h4.put z1 o1 (Nat.le_add_right B a)) h5 h6
        show H1[B + a]? = some (vp_cell (aC 0) (len, .inl (upd f i.toNatClampNeg x)))
        rw [e1, vp_cell_i, vp_cell_i, arrV_store]
        congr 2
        funext q
        by_cases hq : q = i.toNatClampNeg
        · subst hq
          simp [updV, upd, vp_nar]
          try rfl
        · simp [updV, upd, hq]
    · cases hf
  · cases hf
noncomputable def s_bast (n : Nat) : pm_S → Option pm_S := fun σ => match σ.2.2.1 with
  | .int x :: .int i :: .ref a :: st => match σ.2.2.2.1[a]? with
    | some (.inl (1, len, .inl f)) => bif pm_ix i len then some (n, σ.2.1, st, σ.2.2.2.1.set a (.inl (1, len, .inl (upd f i.toNatClampNeg (vp_nar .byte x)))), σ.2.2.2.2) else none
    | _ => none
  | _ => none
theorem k_bast {cc : ByteArray} {own : String} {nL pc : Nat} {ini : Bool} (hd : decode cc pc = .ok (.bastore, 1)) : pm_okF cc own nL ini pc (s_bast (pc + 1)) := by
  intro p l e R s m args below meth c D aC B b Q Cx hR1 hR2 lv st w σ' hf kk
  simp only [s_bast] at hf
  split at hf
  · rename_i x i a st
    split at hf
    · rename_i len f he
      cases hb : pm_ix i len with
      | false => rw [hb] at hf; cases hf
      | true =>
        rw [hb] at hf
        obtain rfl := Option.some.inj hf
        intro H locs ls cells slots h1 h2 h3 h4 h5 h6
        have hat : H[B + a]? = some (vp_cell (aC 1) (len, .inl f)) := h3 a _ (pm_w_at he)
        refine W.bast Cx.1 Cx.2.1 hat ((Cx.2.2.2.2.2.1.1.2 1 _ rfl).1 len (fun j => .int (f j))) (fun q => by cases q) (by show ¬ (i < 0 ∨ (arrV _ _ _).slots.size ≤ _); rw [arrV_size]; exact pm_ix_in hb) rfl rfl hd fun H1 e1 z1 o1 => ?_
        refine kk H1 _ ls cells slots h1 (z1.trans (by rw [h2]; simp)) (pm_stored h3 he o1 ?_) (h4.put z1 o1 (Nat.le_add_right B a)) h5 h6
        show H1[B + a]? = some (vp_cell (aC 1) (len, .inl (upd f i.toNatClampNeg (vp_nar .byte x))))
        rw [e1, vp_cell_i, vp_cell_i, arrV_store]
        congr 2
        funext q
        by_cases hq : q = i.toNatClampNeg
        · subst hq
          simp [updV, upd, vp_nar]
          try rfl
        · simp [updV, upd, hq]
    · cases hf
  · cases hf
noncomputable def s_zast (n : Nat) : pm_S → Option pm_S := fun σ => match σ.2.2.1 with
  | .int x :: .int i :: .ref a :: st => match σ.2.2.2.1[a]? with
    | some (.inl (2, len, .inl f)) => bif pm_ix i len then some (n, σ.2.1, st, σ.2.2.2.1.set a (.inl (2, len, .inl (upd f i.toNatClampNeg (vp_nar .boolean x)))), σ.2.2.2.2) else none
    | _ => none
  | _ => none
theorem k_zast {cc : ByteArray} {own : String} {nL pc : Nat} {ini : Bool} (hd : decode cc pc = .ok (.bastore, 1)) : pm_okF cc own nL ini pc (s_zast (pc + 1)) := by
  intro p l e R s m args below meth c D aC B b Q Cx hR1 hR2 lv st w σ' hf kk
  simp only [s_zast] at hf
  split at hf
  · rename_i x i a st
    split at hf
    · rename_i len f he
      cases hb : pm_ix i len with
      | false => rw [hb] at hf; cases hf
      | true =>
        rw [hb] at hf
        obtain rfl := Option.some.inj hf
        intro H locs ls cells slots h1 h2 h3 h4 h5 h6
        have hat : H[B + a]? = some (vp_cell (aC 2) (len, .inl f)) := h3 a _ (pm_w_at he)
        refine W.zast Cx.1 Cx.2.1 hat ((Cx.2.2.2.2.2.1.1.2 2 _ rfl).1 len (fun j => .int (f j))) (fun q => by cases q) (by show ¬ (i < 0 ∨ (arrV _ _ _).slots.size ≤ _); rw [arrV_size]; exact pm_ix_in hb) rfl rfl hd fun H1 e1 z1 o1 => ?_
        refine kk H1 _ ls cells slots h1 (z1.trans (by rw [h2]; simp)) (pm_stored h3 he o1 ?_) (h4.put z1 o1 (Nat.le_add_right B a)) h5 h6
        show H1[B + a]? = some (vp_cell (aC 2) (len, .inl (upd f i.toNatClampNeg (vp_nar .boolean x))))
        rw [e1, vp_cell_i, vp_cell_i, arrV_store]
        congr 2
        funext q
        by_cases hq : q = i.toNatClampNeg
        · subst hq
          simp [updV, upd, vp_nar]
          try rfl
        · simp [updV, upd, hq]
    · cases hf
  · cases hf
noncomputable def s_last (n : Nat) : pm_S → Option pm_S := fun σ => match σ.2.2.1 with
  | .long x :: .int i :: .ref a :: st => match σ.2.2.2.1[a]? with
    | some (.inl (3, len, .inr (.inl f))) => bif pm_ix i len then some (n, σ.2.1, st, σ.2.2.2.1.set a (.inl (3, len, .inr (.inl (vp_updL f i.toNatClampNeg x)))), σ.2.2.2.2) else none
    | _ => none
  | _ => none
theorem k_last {cc : ByteArray} {own : String} {nL pc : Nat} {ini : Bool} (hd : decode cc pc = .ok (.lastore, 1)) : pm_okF cc own nL ini pc (s_last (pc + 1)) := by
  intro p l e R s m args below meth c D aC B b Q Cx hR1 hR2 lv st w σ' hf kk
  simp only [s_last] at hf
  split at hf
  · rename_i x i a st
    split at hf
    · rename_i len f he
      cases hb : pm_ix i len with
      | false => rw [hb] at hf; cases hf
      | true =>
        rw [hb] at hf
        obtain rfl := Option.some.inj hf
        intro H locs ls cells slots h1 h2 h3 h4 h5 h6
        have hat : H[B + a]? = some (vp_cell (aC 3) (len, .inr (.inl f))) := h3 a _ (pm_w_at he)
        refine W.last Cx.1 Cx.2.1 hat ((Cx.2.2.2.2.2.1.1.2 3 _ rfl).1 len (fun j => .long (f j))) (fun q => by cases q) (by show ¬ (i < 0 ∨ (arrV _ _ _).slots.size ≤ _); rw [arrV_size]; exact pm_ix_in hb) rfl rfl hd fun H1 e1 z1 o1 => ?_
        refine kk H1 _ ls cells slots h1 (z1.trans (by rw [h2]; simp)) (pm_stored h3 he o1 ?_) (h4.put z1 o1 (Nat.le_add_right B a)) h5 h6
        show H1[B + a]? = some (vp_cell (aC 3) (len, .inr (.inl (vp_updL f i.toNatClampNeg x))))
        rw [e1, vp_cell_l, vp_cell_l, arrV_store]
        congr 2
        funext q
        by_cases hq : q = i.toNatClampNeg
        · subst hq
          simp [updV, vp_updL, vp_nar]
          try rfl
        · simp [updV, vp_updL, hq]
    · cases hf
  · cases hf
noncomputable def s_aast (t ci n : Nat) : pm_S → Option pm_S := fun σ => match σ.2.2.1 with
  | .ref v :: .int i :: .ref a :: st => match σ.2.2.2.1[a]? with
    | some (.inl (t', len, .inr (.inr (.inr (.inr f))))) => match σ.2.2.2.1[v]? with
      | some (.inr (cj, _)) => bif Nat.beq t' t && (Nat.beq cj ci && pm_ix i len) then some (n, σ.2.1, st, σ.2.2.2.1.set a (.inl (t', len, .inr (.inr (.inr (.inr (va_up f i.toNatClampNeg (some v))))))), σ.2.2.2.2) else none
      | _ => none
    | _ => none
  | _ => none
theorem k_aast {cc : ByteArray} {own : String} {nL pc : Nat} {ini : Bool} {t ci : Nat} {r : vw_C} (ht : ∀ aC : Nat → ClassId, (pm_tys aC)[t]? = some (aC t, .object r.1)) (hc : vwCl[ci]? = some r) (hd : decode cc pc = .ok (.aastore, 1)) : pm_okF cc own nL ini pc (s_aast t ci (pc + 1)) := by
  intro p l e R s m args below meth c D aC B b Q Cx hR1 hR2 lv st w σ' hf kk
  simp only [s_aast] at hf
  split at hf
  · rename_i v i a st
    split at hf
    · rename_i t' len f he
      split at hf
      · rename_i cj vs hv
        cases hb : (Nat.beq t' t && (Nat.beq cj ci && pm_ix i len)) with
        | false => rw [hb] at hf; cases hf
        | true =>
          rw [hb] at hf
          obtain ⟨hb1, hb2⟩ := Bool.and_eq_true_iff.mp hb
          obtain ⟨hb2, hb3⟩ := Bool.and_eq_true_iff.mp hb2
          obtain rfl := Nat.eq_of_beq_eq_true hb1
          obtain rfl := Nat.eq_of_beq_eq_true hb2
          obtain rfl := Option.some.inj hf
          intro H locs ls cells slots h1 h2 h3 h4 h5 h6
          have hin := pm_ix_in hb3
          have hlt : i.toNatClampNeg < len := Nat.not_le.mp fun q => hin (Or.inr q)
          have h0 : ¬ i < 0 := fun q => hin (Or.inl q)
          have hat : H[B + a]? = some (vp_cell (aC t') (len, .inr (.inr (.inr (.inr (fun i => (f i).map (fun k => B + k))))))) := h3 a _ (pm_w_at he)
          obtain ⟨r', hr', cellV, g1, g2, g3, -⟩ := h3 v _ (pm_w_at hv)
          have hcls := (Cx.2.2.2.2.2.1.1.1 cj r hc).2
          obtain ⟨kA, comp, k1, k2, k3, -⟩ := (Cx.2.2.2.2.2.1.1.2 t' _ (ht aC)).2
          have hcomp : comp = D.1 cj := Option.some.inj (k3.symm.trans hcls.1)
          subst hcomp
          have hcls2 := hcls
          obtain ⟨kC, hkC, -⟩ := hcls.2
          refine W.aast Cx.1 Cx.2.1 hat (fun q h => by cases h) (fun h => by cases h) k1 k2 rfl hkC ⟨h0, by show _ < (arrV _ _ _).slots.size; rw [arrV_size]; exact hlt⟩ g1 (fun q h => by rw [g3] at h; cases h) (by rw [g2]; exact hkC) (by rw [g2]; exact va_assign hcls2) rfl rfl hd fun H1 e1 z1 o1 => ?_
          refine kk H1 _ ls cells slots h1 (z1.trans (by rw [h2]; simp)) (pm_stored h3 he o1 ?_) (h4.put z1 o1 (Nat.le_add_right B a)) h5 h6
          show H1[B + a]? = some (vp_cell (aC t') (len, .inr (.inr (.inr (.inr (fun j => (va_up f i.toNatClampNeg (some v) j).map (fun k => B + k)))))))
          rw [e1, vp_cell_q, vp_cell_q, arrV_store]
          congr 2
          funext q
          by_cases hq : q = i.toNatClampNeg
          · subst hq
            simp [updV, va_up, va_rf]
          · simp [updV, va_up, hq]
      · cases hf
    · cases hf
  · cases hf
noncomputable def s_new (ci : Nat) (fs : List Value) (nf n : Nat) : pm_S → Option pm_S := fun σ => bif Nat.ble 1 σ.2.2.2.2.1 && Nat.ble nf σ.2.2.2.2.2 then some (n, σ.2.1, .ref σ.2.2.2.1.length :: σ.2.2.1, σ.2.2.2.1 ++ [.inr (ci, fs)], σ.2.2.2.2.1 - 1, σ.2.2.2.2.2 - nf) else none
theorem k_new {cc : ByteArray} {own : String} {nL pc : Nat} {ini : Bool} {ci index N : Nat} {C : String} {T : u_T} {ty0 : Nat → FieldType} {fs : List Value} (hc : vwCl[ci]? = some (C, T, N)) (hin : ∀ w ∈ u_ws C T N, w ∈ pm_T) (hty : ∀ k, k < N → parseFieldDescriptor (T k).2.2.1 = some (ty0 k)) (hfs : ∀ j, j < N → defaultValue (ty0 j) = vp_V fs j) (hfv : ∀ (B : Nat) (b : Nat → Option Nat), fs.map (pm_v B b) = fs) (hw1 : Cond.classLink own index C ∈ pm_T) (hw2 : Cond.instantiable C N ∈ pm_T) (hw3 : Cond.initialized C ∈ pm_T) (hd : decode cc pc = .ok (.new index, 3)) : pm_okF cc own nL ini pc (s_new ci fs N (pc + 3)) := by
  intro p l e R s m args below meth c D aC B b Q Cx hR1 hR2 lv st w σ' hf kk
  simp only [s_new] at hf
  cases hb : (Nat.ble 1 w.2.1 && Nat.ble N w.2.2) with
  | false => rw [hb] at hf; cases hf
  | true =>
    rw [hb] at hf
    obtain ⟨hb1, hb2⟩ := Bool.and_eq_true_iff.mp hb
    have hb1 := Nat.le_of_ble_eq_true hb1
    have hb2 := Nat.le_of_ble_eq_true hb2
    obtain rfl := Option.some.inj hf
    intro H locs ls cells slots h1 h2 h3 h4 h5 h6
    simp only at h2 h3 h5 h6
    have hKn := Cx.2.2.2.2.2.1.1.1 ci _ hc
    refine W.newcK Cx.1 Cx.2.1 Cx.2.2.2.1 (Cx.2.2.2.2.1 _ hw1) (Cx.2.2.2.2.1 _ hw2) (Cx.2.2.2.2.1 _ hw3) rfl hd (by omega) (by omega) hKn.2.1 rfl fun H1 kC hkC e1 z1 o1 => ?_
    have k2 := kk H1 locs ls (cells + 1) (slots + N) h1 (by simp only [List.length_append, List.length_cons, List.length_nil]; omega) (pm_pushed h3 h2 o1 ⟨_, hc, by
      show t_OB _ _ _ _ _ (vp_V (fs.map (pm_v B b)))
      rw [hfv]
      exact (u_born ty0 Cx.2.2.2.2.1 hin hKn hkC e1 hty).to hfs⟩) (pm_grown h4 z1 o1) (by simp only; omega) (by simp only; omega)
    simp only [List.map_cons, pm_v, ← h2] at k2
    exact k2
noncomputable def s_newa (t : Nat) (x : (Nat → Int32) ⊕ (Nat → Int64) ⊕ (Nat → UInt32) ⊕ (Nat → UInt64) ⊕ (Nat → Option Nat)) (n : Nat) : pm_S → Option pm_S := fun σ => match σ.2.2.1 with
  | .int m :: st => bif !(decide (m < 0)) && (Nat.ble m.toNatClampNeg 10000 && (Nat.ble 1 σ.2.2.2.2.1 && Nat.ble m.toNatClampNeg σ.2.2.2.2.2)) then some (n, σ.2.1, .ref σ.2.2.2.1.length :: st, σ.2.2.2.1 ++ [.inl (t, m.toNatClampNeg, x)], σ.2.2.2.2.1 - 1, σ.2.2.2.2.2 - m.toNatClampNeg) else none
  | _ => none
theorem k_newa {cc : ByteArray} {own : String} {nL pc : Nat} {ini : Bool} {t : Nat} {at0 : ArrayType} {ty : FieldType} {x : (Nat → Int32) ⊕ (Nat → Int64) ⊕ (Nat → UInt32) ⊕ (Nat → UInt64) ⊕ (Nat → Option Nat)} (hat : newarray.typeOf at0 = ty) (ht : ∀ aC : Nat → ClassId, (pm_tys aC)[t]? = some (aC t, ty)) (hra : ∀ (U : State) (q : ClassId), va_RA U q ty → U.vm.findClass ("[" ++ ty.toString) = some q) (hbz : componentBytes ty ≤ 8) (hxe : ∀ (B : Nat) (b : Nat → Option Nat) (aC : Nat → ClassId) (m : Nat), pm_e B b aC (.inl (t, m, x)) = .inl (aC t, m, x)) (hx : ∀ (cA : ClassId) (m : Nat), vp_cell cA (m, x) = arrV cA m (fun _ => defaultValue ty)) (hw : Cond.arrayClass ty ∈ pm_T) (hd : decode cc pc = .ok (.newarray at0, 2)) : pm_okF cc own nL ini pc (s_newa t x (pc + 2)) := by
  intro p l e R s m args below meth c D aC B b Q Cx hR1 hR2 lv st w σ' hf kk
  subst hat
  simp only [s_newa] at hf
  split at hf
  · rename_i m st
    cases hb : (!(decide (m < 0)) && (Nat.ble m.toNatClampNeg 10000 && (Nat.ble 1 w.2.1 && Nat.ble m.toNatClampNeg w.2.2))) with
    | false => rw [hb] at hf; cases hf
    | true =>
      rw [hb] at hf
      obtain ⟨hb0, hb1⟩ := Bool.and_eq_true_iff.mp hb
      obtain ⟨hb1, hb2⟩ := Bool.and_eq_true_iff.mp hb1
      obtain ⟨hb2, hb3⟩ := Bool.and_eq_true_iff.mp hb2
      have hb1 := Nat.le_of_ble_eq_true hb1
      have hb2 := Nat.le_of_ble_eq_true hb2
      have hb3 := Nat.le_of_ble_eq_true hb3
      have hm : ¬ m < 0 := by simpa using hb0
      obtain rfl := Option.some.inj hf
      intro H locs ls cells slots h1 h2 h3 h4 h5 h6
      simp only at h2 h3 h5 h6
      have hby : m.toNatClampNeg * componentBytes (newarray.typeOf at0) ≤ 536870912 := Nat.le_trans (Nat.mul_le_mul hb1 hbz) (by decide)
      refine va_newaK Cx.1 Cx.2.1 (Cx.2.2.2.2.1 _ hw) rfl hd rfl hm rfl hby (by omega) (by omega) rfl fun H1 cA e1 z1 o1 hAr hNm => ?_
      have hcA : cA = aC t := Option.some.inj (hNm.symm.trans (hra _ _ (Cx.2.2.2.2.2.1.1.2 t _ (ht aC)).2))
      subst hcA
      have k2 := kk H1 locs ls (cells + 1) (slots + m.toNatClampNeg) h1 (by simp only [List.length_append, List.length_cons, List.length_nil]; omega) (pm_pushed h3 h2 o1 (by
        rw [hxe]
        show H1[H.size]? = some (vp_cell _ _)
        rw [hx]
        exact e1)) (pm_grown h4 z1 o1) (by simp only; omega) (by simp only; omega)
      simp only [List.map_cons, pm_v, ← h2] at k2
      exact k2
  · cases hf
noncomputable def s_newq (t n : Nat) : pm_S → Option pm_S := fun σ => match σ.2.2.1 with
  | .int m :: st => bif !(decide (m < 0)) && (Nat.ble m.toNatClampNeg 10000 && (Nat.ble 1 σ.2.2.2.2.1 && Nat.ble m.toNatClampNeg σ.2.2.2.2.2)) then some (n, σ.2.1, .ref σ.2.2.2.1.length :: st, σ.2.2.2.1 ++ [.inl (t, m.toNatClampNeg, .inr (.inr (.inr (.inr (fun _ => none)))))], σ.2.2.2.2.1 - 1, σ.2.2.2.2.2 - m.toNatClampNeg) else none
  | _ => none
theorem k_newq {cc : ByteArray} {own : String} {nL pc : Nat} {ini : Bool} {t index : Nat} {C : String} (ht : ∀ aC : Nat → ClassId, (pm_tys aC)[t]? = some (aC t, .object C)) (hao : ∀ (D : va_G) (aC : Nat → ClassId) (B : Nat) (b : Nat → Option Nat) (U : State), pm_K D aC B b U → va_AO C U) (hw : Cond.classLink own index C ∈ pm_T) (hd : decode cc pc = .ok (.anewarray index, 3)) : pm_okF cc own nL ini pc (s_newq t (pc + 3)) := by
  intro p l e R s m args below meth c D aC B b Q Cx hR1 hR2 lv st w σ' hf kk
  simp only [s_newq] at hf
  split at hf
  · rename_i m st
    cases hb : (!(decide (m < 0)) && (Nat.ble m.toNatClampNeg 10000 && (Nat.ble 1 w.2.1 && Nat.ble m.toNatClampNeg w.2.2))) with
    | false => rw [hb] at hf; cases hf
    | true =>
      rw [hb] at hf
      obtain ⟨hb0, hb1⟩ := Bool.and_eq_true_iff.mp hb
      obtain ⟨hb1, hb2⟩ := Bool.and_eq_true_iff.mp hb1
      obtain ⟨hb2, hb3⟩ := Bool.and_eq_true_iff.mp hb2
      have hb1 := Nat.le_of_ble_eq_true hb1
      have hb2 := Nat.le_of_ble_eq_true hb2
      have hb3 := Nat.le_of_ble_eq_true hb3
      have hm : ¬ m < 0 := by simpa using hb0
      obtain rfl := Option.some.inj hf
      intro H locs ls cells slots h1 h2 h3 h4 h5 h6
      simp only at h2 h3 h5 h6
      refine W.anew Cx.1 Cx.2.1 Cx.2.2.2.1 (Cx.2.2.2.2.1 _ hw) (va_AO.use (hao D aC B b s Cx.2.2.2.2.2.1)) rfl hd rfl hm (by omega) (by omega) (by omega) fun cA kA comp f1 f2 f3 f4 => ?_
      generalize hH1 : H.push ({ cls := cA, slots := Array.replicate m.toNatClampNeg .null, vm := .none } : Cell) = H1
      have z1 : H1.size = H.size + 1 := by rw [← hH1, Array.size_push]
      have e1 : H1[H.size]? = some (arrV cA m.toNatClampNeg (fun _ => .null)) := by rw [← hH1, Array.getElem?_push_size, ← arrV_new]
      have o1 : ∀ q : Nat, q < H.size → H1[q]? = H[q]? := fun q hq => by rw [← hH1, Array.getElem?_push, if_neg (Nat.ne_of_lt hq)]
      obtain ⟨kA2, comp2, -, -, -, g4⟩ := (Cx.2.2.2.2.2.1.1.2 t _ (ht aC)).2
      have hcA : cA = aC t := Option.some.inj (f1.symm.trans g4)
      subst hcA
      have k2 := kk H1 locs ls (cells + 1) (slots + m.toNatClampNeg) h1 (by simp only [List.length_append, List.length_cons, List.length_nil]; omega) (pm_pushed h3 h2 o1 (by
        show H1[H.size]? = some (vp_cell _ _)
        rw [vp_cell_q]
        exact e1)) (pm_grown h4 z1 o1) (by simp only; omega) (by simp only; omega)
      simp only [List.map_cons, pm_v, ← h2] at k2
      exact k2
  · cases hf
noncomputable def pm_sz (st : List Value) : Nat := (st.map fun v => v.category).sum
theorem pm_sz_v (B : Nat) (b : Nat → Option Nat) (st : List Value) : ((st.map (pm_v B b)).map fun v => v.category).sum = pm_sz st := by
  unfold pm_sz
  rw [List.map_map]
  congr 1
  exact List.map_congr_left fun v _ => pm_v_cat B b v
noncomputable def s_obj (n : Nat) : pm_S → Option pm_S := fun σ => match σ.2.2.1 with
  | .ref _ :: st => bif Nat.ble (pm_sz st) 8 then some (n, σ.2.1, st, σ.2.2.2) else none
  | _ => none
theorem k_obj {cc : ByteArray} {own : String} {nL pc : Nat} {ini : Bool} {index : Nat} (hw1 : Cond.methodLink own index Lib.objectInit ∈ pm_T) (hw2 : Cond.instanceMethod Lib.objectInit ∈ pm_T) (hw3 : Cond.code Lib.objectInit ⟨#[0xb1]⟩ 1 none ∈ pm_T) (hd : decode cc pc = .ok (.invokespecial index, 3)) : pm_okF cc own nL ini pc (s_obj (pc + 3)) := by
  intro p l e R s m args below meth c D aC B b Q Cx hR1 hR2 lv st w σ' hf kk
  simp only [s_obj] at hf
  split at hf
  · rename_i a st
    cases hb : Nat.ble (pm_sz st) 8 with
    | false => rw [hb] at hf; cases hf
    | true =>
      rw [hb] at hf
      have hb := Nat.le_of_ble_eq_true hb
      obtain rfl := Option.some.inj hf
      intro H locs ls cells slots h1 h2 h3 h4 h5 h6
      exact W.objInit Cx.1 Cx.2.1 Cx.2.2.2.1 (Cx.2.2.2.2.1 _ hw1) (Cx.2.2.2.2.1 _ hw2) (Cx.2.2.2.2.1 _ hw3) rfl (by rw [Cx.2.2.1]; exact h1.1) rfl hd hR1 (by
        rw [pm_sz_v]
        show 2 * 0 + _ + 12 ≤ _
        omega) (kk H locs ls cells slots h1 h2 h3 h4 h5 h6)
  · cases hf
end
section
/-! THE PURE MACHINE, part 4: calls, returns, runs; methods by their runs -/
noncomputable def pm_at {α : Type} : List (Nat × α) → Nat → Option α
  | [], _ => none
  | q :: l, i => bif Nat.beq q.1 i then some q.2 else pm_at l i
theorem pm_at_in {α : Type} {i : Nat} {v : α} : ∀ {l : List (Nat × α)}, pm_at l i = some v → (i, v) ∈ l
  | [], h => by cases h
  | q :: l, h => by
    unfold pm_at at h
    cases hb : Nat.beq q.1 i with
    | true =>
      rw [hb] at h
      have h1 : q.1 = i := Nat.eq_of_beq_eq_true hb
      have h2 : q.2 = v := Option.some.inj h
      subst h1; subst h2
      exact List.mem_cons_self
    | false =>
      rw [hb] at h
      exact List.mem_cons_of_mem _ (pm_at_in h)
/-- what a call answers and leaves: method, heap, arguments, heap behind it, answer -/
noncomputable abbrev pm_Call : Type := Nat → pm_H → List Value → pm_H → Option Value → Prop
/-- what is tested ahead of a call -/
noncomputable def pm_chk (k : Nat) (ci : Option Nat) (mc ms : Nat) (st : List Value) (w : pm_H × Nat × Nat) : Prop :=
  k ≤ st.length ∧ (∀ q : Nat, ci = some q → (q < 100 → ∃ (a : Nat) (fs : List Value) (as : List Value), (st.take k).reverse = .ref a :: as ∧ w.1[a]? = some (.inr (q, fs))) ∧ (100 ≤ q → ∃ (i : Nat) (as : List Value), i < 8 ∧ (st.take k).reverse = .retAddr (4 + i) :: as)) ∧ pm_sz (st.drop k) ≤ 8 ∧ mc ≤ w.2.1 ∧ ms ≤ w.2.2
noncomputable def pm_ret (kd : Nat) (st : List Value) (h : pm_H) (o : pm_H × Option Value) : Prop := match kd with
  | 0 => st = [] ∧ o = (h, none)
  | 1 => ∃ v : Int32, st = [.int v] ∧ o = (h, some (.int v))
  | 2 => ∃ v : Int32, st = [.int v] ∧ (v = 0 ∨ v = 1) ∧ o = (h, some (.int v))
  | 3 => ∃ v : Int64, st = [.long v] ∧ o = (h, some (.long v))
  | 4 => ∃ v : Int32, st = [.int v] ∧ narrow .byte (.int v) = .int v ∧ o = (h, some (.int v))
  | _ => ∃ v : Int32, st = [.int v] ∧ narrow .char (.int v) = .int v ∧ o = (h, some (.int v))
noncomputable def pm_go (look : Nat → Option pm_I) (call : pm_Call) : Nat → pm_S → pm_H × Option Value → Prop
  | 0, _, _ => False
  | n + 1, σ, o => match look σ.1 with
    | none => False
    | some (.inl f) => match f σ with
      | none => False
      | some σ' => pm_go look call n σ' o
    | some (.inr (.inl (y, k, ci, mc, ms))) => ∃ (h' : pm_H) (r : Option Value), call y σ.2.2.2.1 (σ.2.2.1.take k).reverse h' r ∧ pm_chk k ci mc ms σ.2.2.1 σ.2.2.2 ∧ pm_go look call n (σ.1 + 3, σ.2.1, r.toList ++ σ.2.2.1.drop k, h', σ.2.2.2.2.1 - mc, σ.2.2.2.2.2 - ms) o
    | some (.inr (.inr kd)) => pm_ret kd σ.2.2.1 σ.2.2.2.1 o
/-- from here the run ends so -/
noncomputable def pm_Go (look : Nat → Option pm_I) (call : pm_Call) (σ : pm_S) (o : pm_H × Option Value) : Prop := ∃ n, pm_go look call n σ o
theorem Go_st {look : Nat → Option pm_I} {call : pm_Call} {σ σ' : pm_S} {o : pm_H × Option Value} {f : pm_S → Option pm_S} (h1 : look σ.1 = some (.inl f)) (h2 : f σ = some σ') (k : pm_Go look call σ' o) : pm_Go look call σ o := by
  obtain ⟨n, hn⟩ := k
  refine ⟨n + 1, ?_⟩
  unfold pm_go
  rw [h1]
  simp only [h2]
  exact hn
theorem Go_call {look : Nat → Option pm_I} {call : pm_Call} {σ : pm_S} {o : pm_H × Option Value} {y k mc ms : Nat} {ci : Option Nat} {h' : pm_H} {r : Option Value} (h1 : look σ.1 = some (.inr (.inl (y, k, ci, mc, ms)))) (hc : call y σ.2.2.2.1 (σ.2.2.1.take k).reverse h' r) (h2 : pm_chk k ci mc ms σ.2.2.1 σ.2.2.2) (kk : pm_Go look call (σ.1 + 3, σ.2.1, r.toList ++ σ.2.2.1.drop k, h', σ.2.2.2.2.1 - mc, σ.2.2.2.2.2 - ms) o) : pm_Go look call σ o := by
  obtain ⟨n, hn⟩ := kk
  refine ⟨n + 1, ?_⟩
  unfold pm_go
  rw [h1]
  exact ⟨h', r, hc, h2, hn⟩
theorem Go_ret {look : Nat → Option pm_I} {call : pm_Call} {σ : pm_S} {o : pm_H × Option Value} {kd : Nat} (h1 : look σ.1 = some (.inr (.inr kd))) (h2 : pm_ret kd σ.2.2.1 σ.2.2.2.1 o) : pm_Go look call σ o := by
  refine ⟨1, ?_⟩
  unfold pm_go
  rw [h1]
  exact h2
noncomputable def pm_Pc (D : va_G) (aC : Nat → ClassId) (B : Nat) (b : Nat → Option Nat) (h : pm_H) (as : List Value) : Array Value → State → Prop := fun v U => v = (as.map (pm_v B b)).toArray ∧ U.heap.size = B + h.length ∧ va_P D vwCl (pm_w B b aC h) U.heap ∧ pm_K D aC B b U
noncomputable def pm_Qc (D : va_G) (aC : Nat → ClassId) (B : Nat) (b : Nat → Option Nat) (h' : pm_H) (r : Option Value) : Array Value → State → Outcome → State → Prop := fun _ st oc t => oc = .returned (r.map (pm_v B b)) ∧ t.heap.size = B + h'.length ∧ va_P D vwCl (pm_w B b aC h') t.heap ∧ st.heap.size ≤ t.heap.size ∧ ∀ q : Nat, q < B → t.heap[q]? = st.heap[q]?
theorem pm_Pc_blind (D : va_G) (aC : Nat → ClassId) (B : Nat) (b : Nat → Option Nat) (h : pm_H) (as : List Value) : FrameBlind (pm_Pc D aC B b h as) := fun _ _ _ _ q => ⟨q.1, q.2.1, q.2.2.1, q.2.2.2.call⟩
/-- a method's contract of one run: from this heap and these arguments it comes to that heap and that answer -/
noncomputable def pm_Mt (l : Launch) (D : va_G) (aC : Nat → ClassId) (B : Nat) (b : Nat → Option Nat) (y : MethodName) (bytes : ByteArray) (maxL : Nat) (ret : Option FieldType) (rF rL mc ms : Nat) (h : pm_H) (as : List Value) (h' : pm_H) (r : Option Value) : Prop :=
  Met l y (.code y bytes maxL ret :: pm_T) { frames := rF, cells := mc, slots := ms, locals := rL } (pm_Pc D aC B b h as) (pm_Qc D aC B b h' r) mc ms (fun q => B ≤ q)
section PMC
variable {p : Program} {l : Launch} {e : Env} {R : Room} {s : State} {m : MethodId} {args : Array Value} {below : List Frame} {meth : Method} {c : Code} {D : va_G} {aC : Nat → ClassId} {B : Nat} {b : Nat → Option Nat} {Q : State → Prop}
theorem pm_called {H : Heap} {locs : List Loc} {cells slots mc ms pc : Nat} {ls : Array Slot} {st0 rest : List Value} {h' : pm_H} {r : Option Value} {a : Array Value} (hr : va_Run p l e R s m args below meth c H locs cells slots mc ms (F0 m pc ls st0) rest (pm_Qc D aC B b h' r a) (fun q => B ≤ q)) (hS : va_S (fun q => B ≤ q) s.heap H locs) (hB : B ≤ s.heap.size)
    (kk : ∀ (H1 : Heap) (locs1 : List Loc), H1.size = B + h'.length → va_P D vwCl (pm_w B b aC h') H1 → va_S (fun q => B ≤ q) s.heap H1 locs1 → W p l e R s m args below meth c H1 locs1 (cells + mc) (slots + ms) Q (F0 m (pc + 3) ls ((r.map (pm_v B b)).toList ++ rest))) : W p l e R s m args below meth c H locs cells slots Q (F0 m pc ls st0) := by
  intro T hT X
  obtain ⟨v, st₀, t, T', L, h0, X', hL, e1, e2, ⟨hv, hz, hP, hg, hk⟩, st⟩ := hr T hT X
  have hv : v = r.map (pm_v B b) := by injection hv
  subst hv
  rw [h0] at hg hk
  obtain ⟨t2, a1, b1⟩ := kk T'.heap (locs ++ L) (by rw [e1]; exact hz) (by rw [e1]; exact hP) ⟨Nat.le_trans hS.1 (by rw [e1]; exact hg), fun q h1 h2 => by rw [e1, hk q (Nat.not_le.mp h2)]; exact hS.2.1 q h1 h2, fun q hq => by
      rcases List.mem_append.mp hq with h | h
      · exact hS.2.2 q h
      · exact hL q h⟩ T' rfl X'
  exact ⟨t2, st t2 a1, b1⟩
end PMC
/-- a call of the pure machine is one of the machine -/
noncomputable def pm_okC (cc : ByteArray) (own : String) (nL : Nat) (ini : Bool) (pc : Nat) (y : MethodName) (bytes : ByteArray) (maxL : Nat) (ret : Option FieldType) (k : Nat) (ci : Option Nat) (mc ms : Nat) : Prop :=
  ∀ (p : Program) (l : Launch) (e : Env) (R : Room) (s : State) (m : MethodId) (args : Array Value) (below : List Frame) (meth : Method) (c : Code) (D : va_G) (aC : Nat → ClassId) (B : Nat) (b : Nat → Option Nat) (Q : State → Prop),
    pm_C p s m args meth c cc own nL ini D aC B b → ∀ (rF rL : Nat), rF + 1 ≤ R.frames → rL + 100 ≤ R.locals → ∀ (lv : List (Nat × Value)) (st : List Value) (w : pm_H × Nat × Nat) (h' : pm_H) (r : Option Value), pm_chk k ci mc ms st w → pm_Mt l D aC B b y bytes maxL ret rF rL mc ms w.1 (st.take k).reverse h' r →
      pm_W p l e R s m args below meth c nL D aC B b Q (pc + 3, lv, r.toList ++ st.drop k, h', w.2.1 - mc, w.2.2 - ms) → pm_W p l e R s m args below meth c nL D aC B b Q (pc, lv, st, w)
theorem pm_good {y : MethodName} {bytes : ByteArray} {maxL : Nat} {ret : Option FieldType} (hcw : Cond.code y bytes maxL ret ∈ pm_T) : GoodIn pm_T (.code y bytes maxL ret :: pm_T) := by
  intro w hw
  rcases List.mem_cons.mp hw with rfl | hw
  · exact ⟨hcw, pm_T_word hcw⟩
  · exact ⟨hw, pm_T_word hw⟩
theorem pm_st_split {st : List Value} {k : Nat} (h : k ≤ st.length) : st = (st.take k).reverse.reverse ++ st.drop k := by
  rw [List.reverse_reverse, List.take_append_drop]
theorem pm_len_as {st : List Value} {k : Nat} (h : k ≤ st.length) : (st.take k).reverse.length = k := by
  rw [List.length_reverse, List.length_take]; omega
theorem pm_toList (B : Nat) (b : Nat → Option Nat) (r : Option Value) (st : List Value) : (r.toList ++ st).map (pm_v B b) = (r.map (pm_v B b)).toList ++ st.map (pm_v B b) := by
  cases r <;> simp
theorem k_callV {cc : ByteArray} {own : String} {nL pc : Nat} {ini : Bool} {index : Nat} {y : MethodName} {bytes : ByteArray} {maxL : Nat} {ret : Option FieldType} {n ci mc ms N : Nat} {T : u_T} (hd : decode cc pc = .ok (.invokevirtual index, 3)) (hc : vwCl[ci]? = some (y.cls, T, N)) (hcw : Cond.code y bytes maxL ret ∈ pm_T) (hw1 : Cond.methodLink own index y ∈ pm_T) (hw2 : Cond.instanceMethod y ∈ pm_T) (hw3 : Cond.selects y.cls y y ∈ pm_T) (hw4 : Cond.initialized y.cls ∈ pm_T) (hdesc : y.cls ≠ "java/lang/invoke/MethodHandle" ∧ y.cls ≠ "java/lang/invoke/VarHandle" ∧ (parseMethodDescriptor y.desc).map (fun d => d.parameters.length) = some n) (hL : maxL ≤ 80) (hci : ci < 100) : pm_okC cc own nL ini pc y bytes maxL ret (n + 1) (some ci) mc ms := by
  intro p l e R s m args below meth c D aC B b Q Cx rF rL hR1 hR2 lv st w h' r hch hM kk
  intro H locs ls cells slots h1 h2 h3 h4 h5 h6
  obtain ⟨c1, c2, c3, c4, c5⟩ := hch
  obtain ⟨a, fs, as, e1, e2⟩ := (c2 ci rfl).1 hci
  have hst := pm_st_split c1
  have hlen := pm_len_as c1
  simp only at h2 h3 h5 h6
  rw [e1] at hM hst hlen
  generalize hrest : st.drop (n + 1) = rest at hst kk c3
  subst hst
  refine pm_called (rest := rest.map (pm_v B b)) (va_runV (As := as.map (pm_v B b)) (b := B + a) (n := n) ⟨Cx.1, Cx.2.1, Cx.2.2.1, Cx.2.2.2.1, Cx.2.2.2.2.1⟩ hM (cwV n Cx.2.2.2.2.1 ?_ rfl rfl rfl ⟨rfl, hdesc⟩ ⟨hR1, by show 8 + (maxL + 11) + rL ≤ R.locals; omega⟩) ⟨pm_Pc_blind D aC B b w.1 (.ref a :: as), va_recv Cx.2.2.2.2.2.1.1 h3 hc (pm_w_at e2), fun U hU hW => ⟨rfl, by rw [hU]; exact h2, by rw [hU]; exact h3, Cx.2.2.2.2.2.1.moved hW hU h4⟩⟩ rfl (by simp at hlen ⊢; omega) h1.1 (by simp [List.map_append]; rfl) (lv_room (by rw [pm_sz_v]; exact c3)) hd ⟨by omega, by omega⟩) h4 Cx.2.2.2.2.2.2.1 (fun H1 locs1 z1 g1 g2 => ?_)
  · intro x hx
    rcases List.mem_append.mp hx with hx | hx
    · have : x ∈ pm_T := by
        simp only [List.mem_cons, List.not_mem_nil, or_false] at hx
        rcases hx with rfl | rfl | rfl | rfl
        · exact hw1
        · exact hw2
        · exact hw3
        · exact hw4
      exact ⟨this, pm_T_word this⟩
    · exact pm_good hcw x hx
  · have k2 := kk H1 locs1 ls (cells + mc) (slots + ms) h1 z1 g1 g2 (by simp only; omega) (by simp only; omega)
    simp only [pm_toList] at k2
    exact k2
theorem k_callS {cc : ByteArray} {own : String} {nL pc : Nat} {ini : Bool} {index : Nat} {y : MethodName} {bytes : ByteArray} {maxL : Nat} {ret : Option FieldType} {n mc ms : Nat} (hd : decode cc pc = .ok (.invokestatic index, 3)) (hcw : Cond.code y bytes maxL ret ∈ pm_T) (hw1 : Cond.methodLink own index y ∈ pm_T) (hw2 : Cond.static y ∈ pm_T) (hw4 : Cond.initialized y.cls ∈ pm_T) (hdesc : y.cls ≠ "java/lang/invoke/MethodHandle" ∧ y.cls ≠ "java/lang/invoke/VarHandle" ∧ (parseMethodDescriptor y.desc).map (fun d => d.parameters.length) = some n) (hL : maxL ≤ 80) : pm_okC cc own nL ini pc y bytes maxL ret n none mc ms := by
  intro p l e R s m args below meth c D aC B b Q Cx rF rL hR1 hR2 lv st w h' r hch hM kk
  intro H locs ls cells slots h1 h2 h3 h4 h5 h6
  obtain ⟨c1, c2, c3, c4, c5⟩ := hch
  have hst := pm_st_split c1
  have hlen := pm_len_as c1
  simp only at h2 h3 h5 h6
  generalize hrest : st.drop n = rest at hst kk c3
  generalize has : (st.take n).reverse = as at hM hst hlen
  subst hst
  refine pm_called (rest := rest.map (pm_v B b)) (va_runS (As := as.map (pm_v B b)) (n := n) ⟨Cx.1, Cx.2.1, Cx.2.2.1, Cx.2.2.2.1, Cx.2.2.2.2.1⟩ hM ⟨callB_of n Cx.2.2.2.2.1 (pm_good hcw) rfl rfl rfl (Cx.2.2.2.2.1 _ hw4) (Cx.2.2.2.2.1 _ hw1) hdesc ⟨hR1, by show 8 + (maxL + 11) + rL ≤ R.locals; omega⟩, Cx.2.2.2.2.1 _ hw2⟩ ⟨pm_Pc_blind D aC B b w.1 as, fun U hU hW => ⟨rfl, by rw [hU]; exact h2, by rw [hU]; exact h3, Cx.2.2.2.2.2.1.moved hW hU h4⟩⟩ rfl (by rw [List.length_map]; exact hlen) h1.1 (by simp [List.map_append]) (lv_room (by rw [pm_sz_v]; exact c3)) hd ⟨by omega, by omega⟩) h4 Cx.2.2.2.2.2.2.1 (fun H1 locs1 z1 g1 g2 => ?_)
  have k2 := kk H1 locs1 ls (cells + mc) (slots + ms) h1 z1 g1 g2 (by simp only; omega) (by simp only; omega)
  simp only [pm_toList] at k2
  exact k2
theorem k_callI {cc : ByteArray} {own : String} {nL pc : Nat} {ini : Bool} {index : Nat} {y : MethodName} {bytes : ByteArray} {maxL : Nat} {n ci mc ms : Nat} (hd : decode cc pc = .ok (.invokespecial index, 3)) (hcw : Cond.code y bytes maxL none ∈ pm_T) (hw1 : Cond.methodLink own index y ∈ pm_T) (hw2 : Cond.instanceMethod y ∈ pm_T) (hw4 : Cond.initialized y.cls ∈ pm_T) (hnm : y.name = "<init>") (hdesc : y.cls ≠ "java/lang/invoke/MethodHandle" ∧ y.cls ≠ "java/lang/invoke/VarHandle" ∧ (parseMethodDescriptor y.desc).map (fun d => d.parameters.length) = some n) (hL : maxL ≤ 80) (hci : ci < 100) : pm_okC cc own nL ini pc y bytes maxL none (n + 1) (some ci) mc ms := by
  intro p l e R s m args below meth c D aC B b Q Cx rF rL hR1 hR2 lv st w h' r hch hM kk
  intro H locs ls cells slots h1 h2 h3 h4 h5 h6
  obtain ⟨c1, c2, c3, c4, c5⟩ := hch
  obtain ⟨a, fs, as, e1, e2⟩ := (c2 ci rfl).1 hci
  have hst := pm_st_split c1
  have hlen := pm_len_as c1
  simp only at h2 h3 h5 h6
  rw [e1] at hM hst hlen
  generalize hrest : st.drop (n + 1) = rest at hst kk c3
  subst hst
  refine pm_called (rest := rest.map (pm_v B b)) (va_runI (As := as.map (pm_v B b)) (b := B + a) (n := n) ⟨Cx.1, Cx.2.1, Cx.2.2.1, Cx.2.2.2.1, Cx.2.2.2.2.1⟩ hM (cwI n Cx.2.2.2.2.1 (pm_good hcw) rfl rfl rfl (Cx.2.2.2.2.1 _ hw4) (Cx.2.2.2.2.1 _ hw1) (Cx.2.2.2.2.1 _ hw2) hnm hdesc ⟨hR1, by show 8 + (maxL + 11) + rL ≤ R.locals; omega⟩) ⟨pm_Pc_blind D aC B b w.1 (.ref a :: as), fun U hU hW => ⟨rfl, by rw [hU]; exact h2, by rw [hU]; exact h3, Cx.2.2.2.2.2.1.moved hW hU h4⟩⟩ rfl (by simp at hlen ⊢; omega) h1.1 (by simp [List.map_append]; rfl) (lv_room (by rw [pm_sz_v]; exact c3)) hd ⟨by omega, by omega⟩) h4 Cx.2.2.2.2.2.2.1 (fun H1 locs1 z1 g1 g2 => ?_)
  have k2 := kk H1 locs1 ls (cells + mc) (slots + ms) h1 z1 g1 g2 (by simp only; omega) (by simp only; omega)
  simp only [pm_toList] at k2
  exact k2
end
section
/-! THE PURE MACHINE, part 5: a method by its run, to any depth of calls; the law's own rows -/
/-- name, code, locals, answer's type, class, constructor, cells, slots, rows -/
noncomputable abbrev pm_M : Type := MethodName × ByteArray × Nat × Option FieldType × Bool × Nat × Nat × List (Nat × pm_I)
/-- the methods' runs, calls at most d deep -/
noncomputable def pm_Rt (P : List (Nat × pm_M)) : Nat → pm_Call
  | 0 => fun _ _ _ _ _ => False
  | d + 1 => fun y h as h' r => ∃ I : pm_M, pm_at P y = some I ∧ (lg_sl as).length ≤ I.2.2.1 ∧ pm_Go (pm_at I.2.2.2.2.2.2.2) (pm_Rt P d) (0, lv_args 0 as, [], h, I.2.2.2.2.2.1, I.2.2.2.2.2.2.1) (h', r)
/-- a return of the pure machine is one of the machine -/
noncomputable def pm_okR (cc : ByteArray) (ret : Option FieldType) (pc kd : Nat) : Prop := match kd with
  | 0 => ret = none ∧ decode cc pc = .ok (.return_, 1)
  | 1 => ret = some .int ∧ decode cc pc = .ok (.ireturn, 1)
  | 2 => ret = some .boolean ∧ decode cc pc = .ok (.ireturn, 1)
  | 3 => ret = some .long ∧ decode cc pc = .ok (.lreturn, 1)
  | 4 => ret = some .byte ∧ decode cc pc = .ok (.ireturn, 1)
  | _ => ret = some .char ∧ decode cc pc = .ok (.ireturn, 1)
/-- a row is sound: its step, its call, its return -/
noncomputable def pm_ok (P : List (Nat × pm_M)) (cc : ByteArray) (own : String) (nL : Nat) (ini : Bool) (ret : Option FieldType) (q : Nat × pm_I) : Prop := match q.2 with
  | .inl f => pm_okF cc own nL ini q.1 f
  | .inr (.inl (y, k, ci, mc, ms)) => ∃ I : pm_M, pm_at P y = some I ∧ I.2.2.2.2.2.1 = mc ∧ I.2.2.2.2.2.2.1 = ms ∧ pm_okC cc own nL ini q.1 I.1 I.2.1 I.2.2.1 I.2.2.2.1 k ci mc ms
  | .inr (.inr kd) => pm_okR cc ret q.1 kd
noncomputable def pm_okM (P : List (Nat × pm_M)) (I : pm_M) : Prop := plainFor I.1 = true ∧ (I.2.2.2.2.1 = true → I.1.name = "<init>") ∧ ∀ q ∈ I.2.2.2.2.2.2.2, pm_ok P I.2.1 I.1.cls I.2.2.1 I.2.2.2.2.1 I.2.2.2.1 q
section PMR
variable {p : Program} {l : Launch} {e : Env} {R : Room} {s : State} {m : MethodId} {args : Array Value} {below : List Frame} {meth : Method} {c : Code} {nL : Nat} {D : va_G} {aC : Nat → ClassId} {B : Nat} {b : Nat → Option Nat} {Q : State → Prop}
/-- a run of the pure machine is one of the machine -/
theorem pm_run {look : Nat → Option pm_I} {call : pm_Call} {o : pm_H × Option Value}
    (hF : ∀ (pc : Nat) (f : pm_S → Option pm_S), look pc = some (.inl f) → ∀ (lv : List (Nat × Value)) (st : List Value) (w : pm_H × Nat × Nat) (σ' : pm_S), f (pc, lv, st, w) = some σ' → pm_W p l e R s m args below meth c nL D aC B b Q σ' → pm_W p l e R s m args below meth c nL D aC B b Q (pc, lv, st, w))
    (hC : ∀ (pc y k : Nat) (ci : Option Nat) (mc ms : Nat), look pc = some (.inr (.inl (y, k, ci, mc, ms))) → ∀ (lv : List (Nat × Value)) (st : List Value) (w : pm_H × Nat × Nat) (h' : pm_H) (r : Option Value), call y w.1 (st.take k).reverse h' r → pm_chk k ci mc ms st w → pm_W p l e R s m args below meth c nL D aC B b Q (pc + 3, lv, r.toList ++ st.drop k, h', w.2.1 - mc, w.2.2 - ms) → pm_W p l e R s m args below meth c nL D aC B b Q (pc, lv, st, w))
    (hR : ∀ (pc kd : Nat), look pc = some (.inr (.inr kd)) → ∀ (lv : List (Nat × Value)) (st : List Value) (w : pm_H × Nat × Nat), pm_ret kd st w.1 o → pm_W p l e R s m args below meth c nL D aC B b Q (pc, lv, st, w)) :
    ∀ (n : Nat) (σ : pm_S), pm_go look call n σ o → pm_W p l e R s m args below meth c nL D aC B b Q σ := by
  intro n
  induction n with
  | zero => intro σ h; exact h.elim
  | succ n ih =>
    intro σ h
    obtain ⟨pc, lv, st, w⟩ := σ
    unfold pm_go at h
    simp only at h
    cases ha : look pc with
    | none => rw [ha] at h; exact h.elim
    | some x =>
      rw [ha] at h
      match x, ha, h with
      | .inl f, ha, h =>
        simp only at h
        cases hf : f (pc, lv, st, w) with
        | none => rw [hf] at h; exact h.elim
        | some σ' =>
          rw [hf] at h
          exact hF pc f ha lv st w σ' hf (ih σ' h)
      | .inr (.inl (y, k, ci, mc, ms)), ha, h =>
        obtain ⟨h', r, c1, c2, c3⟩ := h
        exact hC pc y k ci mc ms ha lv st w h' r c1 c2 (ih _ c3)
      | .inr (.inr kd), ha, h => exact hR pc kd ha lv st w h
end PMR
theorem pm_args (B : Nat) (b : Nat → Option Nat) : ∀ (as : List Value) (i : Nat), lv_args i (as.map (pm_v B b)) = (lv_args i as).map (pm_q B b)
  | [], _ => rfl
  | v :: as, i => by
    simp only [List.map_cons, lv_args, pm_v_cat]
    rw [pm_args B b as]
    rfl
theorem pm_sl (B : Nat) (b : Nat → Option Nat) (as : List Value) : (lg_sl (as.map (pm_v B b))).length = (lg_sl as).length := by
  induction as with
  | nil => rfl
  | cons v as ih =>
    simp only [lg_sl, List.map_cons, List.flatMap_cons, List.length_append, pm_v_cat] at ih ⊢
    rw [ih]
    split <;> rfl
/-- a method of a plain name, or with no entry in place of its code -/
theorem pm_ofW {l : Launch} {y : MethodName} {ws ws' : List Cond} {rm : Room} {Pc : Array Value → State → Prop} {Qc : Array Value → State → Outcome → State → Prop} {mc ms : Nat} {free : Addr → Prop} {cc : ByteArray} {maxL : Nat} {ret : Option FieldType}
    (hy : plainFor y = true) (hw : ws = Cond.code y cc maxL ret :: ws')
    (body : ∀ p e s m args below meth c s₁, BodyLoose p l y (headSpec ws rm) cc maxL ret e s m args below meth c s₁ → c.maxLocals = maxL → Pc args s →
      W p l e (headSpec ws rm).room s m args below meth c s.heap [] 0 0 (MQ below Qc args s mc ms free) (entryFrame m args maxL)) : Met l y ws rm Pc Qc mc ms free := by
  refine MetFree.of_bodySF (code := cc) (maxLocals := maxL) (ret := ret) hy ?_ ?_
  · intro args s m h hn
    obtain ⟨meth, c, h1, h2, h3, h4, h5, h6, -, -⟩ := Cond.code_spec hn (atoms_spec (ws := ws) h _ (by rw [hw]; exact List.mem_cons_self))
    exact ⟨meth, c, h1, h2, h3, h4, h5, h6⟩
  · intro p e s m args below meth c s₁ Bd hml hP _
    have hh0 : s₁.heap = s.heap := by rw [Bd.state]; rfl
    obtain ⟨t, a1, o, b1, b2, b3⟩ := body p e s m args below meth c s₁ Bd hml hP s₁ hh0 (Stand.of_body Bd)
    exact ⟨t, o, a1, b1, b2, ⟨b3.1, b3.2⟩⟩
/-- every method of the program, calls at most d deep -/
theorem pm_sound {P : List (Nat × pm_M)} (hP : ∀ q ∈ P, pm_okM P q.2) (l : Launch) (D : va_G) (aC : Nat → ClassId) (B : Nat) (b : Nat → Option Nat) : ∀ (d y : Nat) (h : pm_H) (as : List Value) (h' : pm_H) (r : Option Value) (I : pm_M), pm_at P y = some I → pm_Rt P d y h as h' r → pm_Mt l D aC B b I.1 I.2.1 I.2.2.1 I.2.2.2.1 (d + 1) (100 * (d + 1)) I.2.2.2.2.2.1 I.2.2.2.2.2.2.1 h as h' r := by
  intro d
  induction d with
  | zero => intro y h as h' r I _ hr; exact hr.elim
  | succ d ih =>
    intro y h as h' r I hI hr
    obtain ⟨I', hI', hlen, n, hgo⟩ := hr
    obtain rfl : I' = I := Option.some.inj (hI'.symm.trans hI)
    have hok := hP _ (pm_at_in hI)
    obtain ⟨yn, bytes, maxL, ret, ini, mc, ms, tab⟩ := I'
    obtain ⟨hpl, hini, hrows⟩ := hok
    dsimp only at hlen hgo hpl hini hrows ⊢
    refine pm_ofW (cc := bytes) (maxL := maxL) (ret := ret) hpl rfl ?_
    intro p e s m args below meth c s₁ Bd hml hv
    obtain ⟨rfl, hsz, hPw, hK⟩ := hv
    have hts := atoms_spec (ws := .code yn bytes maxL ret :: pm_T) Bd.pre
    have hown : s.vm.findClass yn.cls = some m.cls := findClass_of_methodNamed Bd.named
    have hlocks := Bd.notSynchronized
    have hBs : B ≤ s.heap.size := by rw [hsz]; exact Nat.le_add_right _ _
    have Cx : pm_C p s m ((as.map (pm_v B b)).toArray) meth c bytes yn.cls maxL ini D aC B b := ⟨Bd.exec, Bd.bytes, hml, hown, fun w hw => hts w (List.mem_cons_of_mem _ hw), hK, hBs, fun hi => by rw [← hini hi]; exact (name_of_methodNamed Bd.named Bd.method).1⟩
    have hl := lv_entry (as.map (pm_v B b)) (n := maxL) (by rw [pm_sl]; exact hlen)
    rw [pm_args] at hl
    rw [lg_entry_eq]
    refine pm_run (look := pm_at tab) (call := pm_Rt P d) (o := (h', r)) ?_ ?_ ?_ n _ hgo s.heap [] _ 0 0 hl hsz hPw va_S.rf (by show 0 + mc ≤ mc; omega) (by show 0 + ms ≤ ms; omega)
    · intro pc f ha lv st w σ' hf k
      have hq : pm_okF bytes yn.cls maxL ini pc f := hrows _ (pm_at_in ha)
      exact hq p l e _ s m _ below meth c D aC B b _ Cx (by show 1 ≤ d + 1 + 1; omega) (by show 100 ≤ 100 * (d + 1 + 1); omega) lv st w σ' hf k
    · intro pc y2 k ci mc2 ms2 ha lv st w h2 r2 hcall hch kk
      obtain ⟨I2, e1, e2, e3, e4⟩ : ∃ I : pm_M, pm_at P y2 = some I ∧ I.2.2.2.2.2.1 = mc2 ∧ I.2.2.2.2.2.2.1 = ms2 ∧ pm_okC bytes yn.cls maxL ini pc I.1 I.2.1 I.2.2.1 I.2.2.2.1 k ci mc2 ms2 := hrows _ (pm_at_in ha)
      subst e2; subst e3
      exact e4 p l e _ s m _ below meth c D aC B b _ Cx (d + 1) (100 * (d + 1)) (by show d + 1 + 1 ≤ d + 1 + 1; omega) (by show 100 * (d + 1) + 100 ≤ 100 * (d + 1 + 1); omega) lv st w h2 r2 hch (ih y2 w.1 _ h2 r2 I2 e1 hcall) kk
    · intro pc kd ha lv st w hret
      have hq : pm_okR bytes ret pc kd := hrows _ (pm_at_in ha)
      intro H locs ls cells slots h1 h2 h3 h4 h5 h6
      dsimp only at h1 h2 h3 h5 h6
      have hQ : ∀ t : State, t.heap = H → ∀ r0 : Option Value, (h', r) = (w.1, r0) → pm_Qc D aC B b h' r ((as.map (pm_v B b)).toArray) s (.returned (r0.map (pm_v B b))) t := by
        intro t ht r0 ho
        cases ho
        refine ⟨rfl, by rw [ht]; exact h2, by rw [ht]; exact h3, by rw [ht]; exact h4.1, fun q hq => ?_⟩
        rw [ht]
        exact h4.2.1 q (Nat.lt_of_lt_of_le hq hBs) (Nat.not_le.mpr hq)
      have hcc : cells ≤ mc := by
        have z : cells + w.2.1 ≤ mc := h5
        omega
      have hss : slots ≤ ms := by
        have z : slots + w.2.2 ≤ ms := h6
        omega
      refine W.widen hcc hss ?_
      match kd, hq, hret with
      | 0, hq, hret =>
        obtain ⟨rfl, ho⟩ := hret
        exact W.vret Bd.exec Bd.bytes (Bd.returns.trans hq.1) (fun t ht hW => hQ t ht none ho) h4.2.2 hq.2
      | 1, hq, hret =>
        obtain ⟨v, rfl, ho⟩ := hret
        exact W.iret Bd.exec Bd.bytes (Bd.returns.trans hq.1) (fun t ht hW => hQ t ht (some (.int v)) ho) h4.2.2 hq.2
      | 2, hq, hret =>
        obtain ⟨v, rfl, hv, ho⟩ := hret
        exact W.zret Bd.exec Bd.bytes (Bd.returns.trans hq.1) (by rcases hv with rfl | rfl <;> rfl) (fun t ht hW => hQ t ht (some (.int v)) ho) h4.2.2 hq.2
      | 4, hq, hret =>
        obtain ⟨v, rfl, hv, ho⟩ := hret
        exact W.zret Bd.exec Bd.bytes (Bd.returns.trans hq.1) hv (fun t ht hW => hQ t ht (some (.int v)) ho) h4.2.2 hq.2
      | k + 5, hq, hret =>
        obtain ⟨v, rfl, hv, ho⟩ := hret
        exact W.zret Bd.exec Bd.bytes (Bd.returns.trans hq.1) hv (fun t ht hW => hQ t ht (some (.int v)) ho) h4.2.2 hq.2
      | 3, hq, hret =>
        obtain ⟨v, rfl, ho⟩ := hret
        exact W.lret Bd.exec Bd.bytes (Bd.returns.trans hq.1) (fun t ht hW => hQ t ht (some (.long v)) ho) h4.2.2 hq.2
end
section
/-! THE PURE MACHINE, part 6: the law's own rows (its script), switches, tables in blocks -/
/-- a step of the law, which may read its script of L ints xs -/
noncomputable def pm_okX (cc : ByteArray) (own : String) (nL L : Nat) (xs : Nat → Int32) (pc : Nat) (f : pm_S → Option pm_S) : Prop :=
  ∀ (p : Program) (l : Launch) (e : Env) (R : Room) (s : State) (m : MethodId) (args : Array Value) (below : List Frame) (meth : Method) (c : Code) (D : va_G) (aC : Nat → ClassId) (B : Nat) (b : Nat → Option Nat) (Q : State → Prop),
    pm_C p s m args meth c cc own nL false D aC B b → ∀ bb : Nat, b 0 = some bb → va_X bb L xs s s.heap → bb < B → 1 ≤ R.frames → 100 ≤ R.locals → ∀ (lv : List (Nat × Value)) (st : List Value) (w : pm_H × Nat × Nat) (σ' : pm_S), f (pc, lv, st, w) = some σ' →
      pm_W p l e R s m args below meth c nL D aC B b Q σ' → pm_W p l e R s m args below meth c nL D aC B b Q (pc, lv, st, w)
theorem pm_okX_of {cc : ByteArray} {own : String} {nL L pc : Nat} {xs : Nat → Int32} {f : pm_S → Option pm_S} (h : pm_okF cc own nL false pc f) : pm_okX cc own nL L xs pc f :=
  fun p l e R s m args below meth c D aC B b Q C _ _ _ _ h1 h2 => h p l e R s m args below meth c D aC B b Q C h1 h2
noncomputable def s_sld (L : Nat) (xs : Nat → Int32) (n : Nat) : pm_S → Option pm_S := fun σ => match σ.2.2.1 with
  | .int i :: .retAddr 0 :: st => bif pm_ix i L then some (n, σ.2.1, .int (xs i.toNatClampNeg) :: st, σ.2.2.2) else none
  | _ => none
theorem k_sld {cc : ByteArray} {own : String} {nL L pc : Nat} {xs : Nat → Int32} (hd : decode cc pc = .ok (.iaload, 1)) : pm_okX cc own nL L xs pc (s_sld L xs (pc + 1)) := by
  intro p l e R s m args below meth c D aC B b Q Cx bb hb0 hX hbB hR1 hR2 lv st w σ' hf kk
  simp only [s_sld] at hf
  split at hf
  · rename_i i st
    cases hb : pm_ix i L with
    | false => rw [hb] at hf; cases hf
    | true =>
      rw [hb] at hf
      obtain rfl := Option.some.inj hf
      intro H locs ls cells slots h1 h2 h3 h4 h5 h6
      simp only [List.map_cons, pm_v, hb0]
      exact va_sld (A := fun q => B ≤ q) Cx.1 Cx.2.1 hX (Nat.lt_of_lt_of_le hbB Cx.2.2.2.2.2.2.1) (Nat.not_le.mpr hbB) h4 (pm_ix_in hb) hd (kk H locs ls cells slots h1 h2 h3 h4 h5 h6)
  · cases hf
noncomputable def s_slen (L : Nat) (n : Nat) : pm_S → Option pm_S := fun σ => match σ.2.2.1 with
  | .retAddr 0 :: st => some (n, σ.2.1, .int (Int32.ofNat L) :: st, σ.2.2.2)
  | _ => none
theorem k_slen {cc : ByteArray} {own : String} {nL L pc : Nat} {xs : Nat → Int32} (hd : decode cc pc = .ok (.arraylength, 1)) : pm_okX cc own nL L xs pc (s_slen L (pc + 1)) := by
  intro p l e R s m args below meth c D aC B b Q Cx bb hb0 hX hbB hR1 hR2 lv st w σ' hf kk
  simp only [s_slen] at hf
  split at hf
  · rename_i st
    obtain rfl := Option.some.inj hf
    intro H locs ls cells slots h1 h2 h3 h4 h5 h6
    simp only [List.map_cons, pm_v, hb0]
    exact va_slen (A := fun q => B ≤ q) Cx.1 Cx.2.1 hX (Nat.lt_of_lt_of_le hbB Cx.2.2.2.2.2.2.1) (Nat.not_le.mpr hbB) h4 hd (kk H locs ls cells slots h1 h2 h3 h4 h5 h6)
  · cases hf
noncomputable def s_tsw (lo hi : Int) (ts : List Nat) (d : Nat) : pm_S → Option pm_S := fun σ => match σ.2.2.1 with
  | .int x :: st => bif decide (x.toInt < lo) || decide (hi < x.toInt) then some (d, σ.2.1, st, σ.2.2.2) else (match ts[(x.toInt - lo).toNat]? with | some t => some (t, σ.2.1, st, σ.2.2.2) | none => none)
  | _ => none
theorem k_tsw {cc : ByteArray} {own : String} {nL pc : Nat} {ini : Bool} {dflt lo hi : Int} {offs : Array Int} {len d : Nat} {ts : List Nat} (hd : decode cc pc = .ok (.tableswitch dflt lo hi offs, len)) (h0 : (pc : Int) + dflt = (d : Int)) (ht : offs.toList.map (fun o => (pc : Int) + o) = ts.map (fun t : Nat => (t : Int))) : pm_okF cc own nL ini pc (s_tsw lo hi ts d) := by
  intro p l e R s m args below meth c D aC B b Q Cx hR1 hR2 lv st w σ' hf kk
  simp only [s_tsw] at hf
  split at hf
  · rename_i x st
    cases hb : (decide (x.toInt < lo) || decide (hi < x.toInt)) with
    | true =>
      rw [hb] at hf
      obtain rfl := Option.some.inj hf
      intro H locs ls cells slots h1 h2 h3 h4 h5 h6
      refine lv_tableOut Cx.1 Cx.2.1 hd ?_ h0 (kk H locs ls cells slots h1 h2 h3 h4 h5 h6)
      simpa using hb
    | false =>
      rw [hb] at hf
      simp only [cond_false] at hf
      have hb2 : ¬ x.toInt < lo ∧ ¬ hi < x.toInt := by simpa using hb
      split at hf
      · rename_i t htt
        obtain rfl := Option.some.inj hf
        have e1 : (offs.toList.map (fun o => (pc : Int) + o))[(x.toInt - lo).toNat]? = some (t : Int) := by rw [ht, List.getElem?_map, htt]; rfl
        rw [List.getElem?_map] at e1
        cases ho : offs.toList[(x.toInt - lo).toNat]? with
        | none => rw [ho] at e1; cases e1
        | some o =>
          rw [ho] at e1
          intro H locs ls cells slots h1 h2 h3 h4 h5 h6
          exact lv_tableIn Cx.1 Cx.2.1 hd hb2.1 hb2.2 (by rw [← Array.getElem?_toList]; exact ho) (Option.some.inj e1) (kk H locs ls cells slots h1 h2 h3 h4 h5 h6)
      · cases hf
  · cases hf
/-- tables in blocks: each with a bound above its places -/
noncomputable def pm_tr : List (Nat × List (Nat × pm_I)) → Nat → Option pm_I
  | [], _ => none
  | q :: l, pc => bif Nat.blt pc q.1 then pm_at q.2 pc else pm_tr l pc
theorem pm_tr_in {pc : Nat} {x : pm_I} : ∀ {l : List (Nat × List (Nat × pm_I))}, pm_tr l pc = some x → ∃ q ∈ l, (pc, x) ∈ q.2
  | [], h => by cases h
  | q :: l, h => by
    unfold pm_tr at h
    cases hb : Nat.blt pc q.1 with
    | true =>
      rw [hb] at h
      exact ⟨q, List.mem_cons_self, pm_at_in h⟩
    | false =>
      rw [hb] at h
      obtain ⟨q', h1, h2⟩ := pm_tr_in (l := l) h
      exact ⟨q', List.mem_cons_of_mem _ h1, h2⟩
/-- a row of the law is sound -/
noncomputable def pm_okL (P : List (Nat × pm_M)) (L : Nat) (xs : Nat → Int32) (q : Nat × pm_I) : Prop := match q.2 with
  | .inl f => pm_okX cL_law RL 4 L xs q.1 f
  | .inr (.inl (y, k, ci, mc, ms)) => ∃ I : pm_M, pm_at P y = some I ∧ I.2.2.2.2.2.1 = mc ∧ I.2.2.2.2.2.2.1 = ms ∧ pm_okC cL_law RL 4 false q.1 I.1 I.2.1 I.2.2.1 I.2.2.2.1 k ci mc ms
  | .inr (.inr kd) => kd = 2 ∧ decode cL_law q.1 = .ok (.ireturn, 1)
theorem pm_t0 {w : Cond} (i : Nat) (h : (k2_sels lw_privs)[i]? = some w) (hg : goodWord w = true) : w ∈ pm_T := List.mem_filter.mpr ⟨List.mem_append_left _ (List.mem_of_getElem? h), hg⟩
theorem pm_t1 {w : Cond} (i : Nat) (h : tables_1_1[i]? = some w) (hg : goodWord w = true) : w ∈ pm_T := List.mem_filter.mpr ⟨List.mem_append_right _ (List.mem_append_left _ (List.mem_of_getElem? h)), hg⟩
theorem pm_t2 {w : Cond} (i : Nat) (h : tables_1_2[i]? = some w) (hg : goodWord w = true) : w ∈ pm_T := List.mem_filter.mpr ⟨List.mem_append_right _ (List.mem_append_right _ (List.mem_append_left _ (List.mem_of_getElem? h))), hg⟩
theorem pm_t3 {w : Cond} (i : Nat) (h : tables_1_3[i]? = some w) (hg : goodWord w = true) : w ∈ pm_T := List.mem_filter.mpr ⟨List.mem_append_right _ (List.mem_append_right _ (List.mem_append_right _ (List.mem_append_left _ (List.mem_of_getElem? h)))), hg⟩
theorem pm_t4 {w : Cond} (i : Nat) (h : tables_1_4[i]? = some w) (hg : goodWord w = true) : w ∈ pm_T := List.mem_filter.mpr ⟨List.mem_append_right _ (List.mem_append_right _ (List.mem_append_right _ (List.mem_append_right _ (List.mem_append_left _ (List.mem_of_getElem? h))))), hg⟩
theorem pm_t5 {w : Cond} (i : Nat) (h : tables_1_5[i]? = some w) (hg : goodWord w = true) : w ∈ pm_T := List.mem_filter.mpr ⟨List.mem_append_right _ (List.mem_append_right _ (List.mem_append_right _ (List.mem_append_right _ (List.mem_append_right _ (List.mem_append_left _ (List.mem_of_getElem? h)))))), hg⟩
theorem pm_t6 {w : Cond} (i : Nat) (h : tables_1_6[i]? = some w) (hg : goodWord w = true) : w ∈ pm_T := List.mem_filter.mpr ⟨List.mem_append_right _ (List.mem_append_right _ (List.mem_append_right _ (List.mem_append_right _ (List.mem_append_right _ (List.mem_append_right _ (List.mem_append_left _ (List.mem_of_getElem? h))))))), hg⟩
theorem pm_t7 {w : Cond} (i : Nat) (h : tables_1_7[i]? = some w) (hg : goodWord w = true) : w ∈ pm_T := List.mem_filter.mpr ⟨List.mem_append_right _ (List.mem_append_right _ (List.mem_append_right _ (List.mem_append_right _ (List.mem_append_right _ (List.mem_append_right _ (List.mem_append_right _ (List.mem_append_left _ (List.mem_of_getElem? h)))))))), hg⟩
theorem pm_t8 {w : Cond} (i : Nat) (h : tables_1_8[i]? = some w) (hg : goodWord w = true) : w ∈ pm_T := List.mem_filter.mpr ⟨List.mem_append_right _ (List.mem_append_right _ (List.mem_append_right _ (List.mem_append_right _ (List.mem_append_right _ (List.mem_append_right _ (List.mem_append_right _ (List.mem_append_right _ (List.mem_append_left _ (List.mem_of_getElem? h))))))))), hg⟩
theorem pm_t9 {w : Cond} (i : Nat) (h : tables_1_9[i]? = some w) (hg : goodWord w = true) : w ∈ pm_T := List.mem_filter.mpr ⟨List.mem_append_right _ (List.mem_append_right _ (List.mem_append_right _ (List.mem_append_right _ (List.mem_append_right _ (List.mem_append_right _ (List.mem_append_right _ (List.mem_append_right _ (List.mem_append_right _ (List.mem_of_getElem? h))))))))), hg⟩
end
section
/-! THE PURE MACHINE, part 7: cells outside (static tables, Strings), nest mates, a copied row, small conversions -/
section PMO
variable {cc : ByteArray} {own : String} {nL pc : Nat} {ini : Bool}
theorem k_gets_fac {index : Nat} (hw : Cond.fieldLink own index RX8 "FACTORIALS" "[I" ∈ pm_T) (hd : decode cc pc = .ok (.getstatic index, 3)) : pm_okF cc own nL ini pc (s_const (.retAddr 1) (pc + 3)) := by
  intro p l e R s m args below meth c D aC B b Q Cx hR1 hR2 lv st w σ' hf k
  obtain rfl := Option.some.inj hf
  intro H locs ls cells slots h1 h2 h3 h4 h5 h6
  obtain ⟨⟨t, e1, hZ, hT⟩, -⟩ := Cx.2.2.2.2.2.1.2.2.2.2
  have k2 := k H locs ls cells slots h1 h2 h3 h4 h5 h6
  simp only [List.map_cons, pm_v, e1, va_rf] at k2
  exact va_gets (A := fun q => B ≤ q) Cx.1 Cx.2.1 hZ h4 Cx.2.2.2.1 (Cx.2.2.2.2.1 _ hw) (fun _ h9 => h9) hd k2
theorem k_gets_rbs {index : Nat} (hw : Cond.fieldLink own index RX8 "ROWS_BY_STEPS" "[I" ∈ pm_T) (hd : decode cc pc = .ok (.getstatic index, 3)) : pm_okF cc own nL ini pc (s_const (.retAddr 2) (pc + 3)) := by
  intro p l e R s m args below meth c D aC B b Q Cx hR1 hR2 lv st w σ' hf k
  obtain rfl := Option.some.inj hf
  intro H locs ls cells slots h1 h2 h3 h4 h5 h6
  obtain ⟨-, ⟨t, e1, hZ, hT⟩, -⟩ := Cx.2.2.2.2.2.1.2.2.2.2
  have k2 := k H locs ls cells slots h1 h2 h3 h4 h5 h6
  simp only [List.map_cons, pm_v, e1, va_rf] at k2
  exact va_gets (A := fun q => B ≤ q) Cx.1 Cx.2.1 hZ h4 Cx.2.2.2.1 (Cx.2.2.2.2.1 _ hw) (fun _ h9 => h9) hd k2
theorem k_gets_cs {index : Nat} (hw : Cond.fieldLink own index RJ0 "COMPACT_STRINGS" "Z" ∈ pm_T) (hd : decode cc pc = .ok (.getstatic index, 3)) : pm_okF cc own nL ini pc (s_const (.int 1) (pc + 3)) := by
  intro p l e R s m args below meth c D aC B b Q Cx hR1 hR2 lv st w σ' hf k
  obtain rfl := Option.some.inj hf
  intro H locs ls cells slots h1 h2 h3 h4 h5 h6
  obtain ⟨-, -, hZ, -⟩ := Cx.2.2.2.2.2.1.2.2.2.2
  exact va_gets (A := fun q => B ≤ q) Cx.1 Cx.2.1 hZ h4 Cx.2.2.2.1 (Cx.2.2.2.2.1 _ hw) (fun _ h9 => h9) hd (k H locs ls cells slots h1 h2 h3 h4 h5 h6)
theorem k_gets_fm {index : Nat} (hw : Cond.fieldLink own index RJ3 "SIOOBE_FORMATTER" "Ljava/util/function/BiFunction;" ∈ pm_T) (hd : decode cc pc = .ok (.getstatic index, 3)) : pm_okF cc own nL ini pc (s_const (.retAddr 3) (pc + 3)) := by
  intro p l e R s m args below meth c D aC B b Q Cx hR1 hR2 lv st w σ' hf k
  obtain rfl := Option.some.inj hf
  intro H locs ls cells slots h1 h2 h3 h4 h5 h6
  obtain ⟨-, -, -, hZ, -⟩ := Cx.2.2.2.2.2.1.2.2.2.2
  exact va_gets (A := fun q => B ≤ q) Cx.1 Cx.2.1 hZ h4 Cx.2.2.2.1 (Cx.2.2.2.2.1 _ hw) (fun _ h9 => h9) hd (k H locs ls cells slots h1 h2 h3 h4 h5 h6)
theorem k_ldcs {i index : Nat} (hi : i < 8) (hx : pm_six i = index) (hd : decode cc pc = .ok (.ldc index, 2)) : pm_okF cc RX2 nL ini pc (s_const (.retAddr (4 + i)) (pc + 2)) := by
  intro p l e R s m args below meth c D aC B b Q Cx hR1 hR2 lv st w σ' hf k
  subst hx
  obtain rfl := Option.some.inj hf
  intro H locs ls cells slots h1 h2 h3 h4 h5 h6
  obtain ⟨a, e1, hr⟩ := Cx.2.2.2.2.2.1.2.2.2.1.2 i hi
  have k2 := k H locs ls cells slots h1 h2 h3 h4 h5 h6
  simp only [List.map_cons, pm_v, e1, va_rf] at k2
  exact va_ldcS Cx.1 Cx.2.1 Cx.2.2.2.1 hr hd k2
noncomputable def s_tald (n : Nat) : pm_S → Option pm_S := fun σ => match σ.2.2.1 with
  | .int i :: .retAddr 1 :: st => bif pm_ix i 9 then some (n, σ.2.1, .int (pm_fac i.toNatClampNeg) :: st, σ.2.2.2) else none
  | .int i :: .retAddr 2 :: st => bif pm_ix i 55 then some (n, σ.2.1, .int (pm_rbs i.toNatClampNeg) :: st, σ.2.2.2) else none
  | _ => none
theorem k_tald (hd : decode cc pc = .ok (.iaload, 1)) : pm_okF cc own nL ini pc (s_tald (pc + 1)) := by
  intro p l e R s m args below meth c D aC B b Q Cx hR1 hR2 lv st w σ' hf k
  simp only [s_tald] at hf
  split at hf
  · rename_i i st
    cases hb : pm_ix i 9 with
    | false => rw [hb] at hf; cases hf
    | true =>
      rw [hb] at hf
      obtain rfl := Option.some.inj hf
      intro H locs ls cells slots h1 h2 h3 h4 h5 h6
      obtain ⟨⟨t, e1, hZ, hT⟩, -⟩ := Cx.2.2.2.2.2.1.2.2.2.2
      simp only [List.map_cons, pm_v, e1, va_rf]
      exact va_ti Cx.1 Cx.2.1 hT h4 (pm_ix_in hb) rfl hd (k H locs ls cells slots h1 h2 h3 h4 h5 h6)
  · rename_i i st
    cases hb : pm_ix i 55 with
    | false => rw [hb] at hf; cases hf
    | true =>
      rw [hb] at hf
      obtain rfl := Option.some.inj hf
      intro H locs ls cells slots h1 h2 h3 h4 h5 h6
      obtain ⟨-, ⟨t, e1, hZ, hT⟩, -⟩ := Cx.2.2.2.2.2.1.2.2.2.2
      simp only [List.map_cons, pm_v, e1, va_rf]
      exact va_ti Cx.1 Cx.2.1 hT h4 (pm_ix_in hb) rfl hd (k H locs ls cells slots h1 h2 h3 h4 h5 h6)
  · cases hf
noncomputable def s_sval (n : Nat) : pm_S → Option pm_S := fun σ => match σ.2.2.1 with
  | .retAddr k :: st => bif Nat.ble 4 k && Nat.blt k 12 then some (n, σ.2.1, .retAddr (k + 8) :: st, σ.2.2.2) else none
  | _ => none
theorem pm_str {k : Nat} (h : (Nat.ble 4 k && Nat.blt k 12) = true) : ∃ i : Nat, i < 8 ∧ k = 4 + i := by
  obtain ⟨h1, h2⟩ := Bool.and_eq_true_iff.mp h
  have a := Nat.le_of_ble_eq_true h1
  have b : k + 1 ≤ 12 := Nat.le_of_ble_eq_true h2
  exact ⟨k - 4, by omega, by omega⟩
theorem pm_strb {k : Nat} (h : (Nat.ble 12 k && Nat.blt k 20) = true) : ∃ i : Nat, i < 8 ∧ k = 12 + i := by
  obtain ⟨h1, h2⟩ := Bool.and_eq_true_iff.mp h
  have a := Nat.le_of_ble_eq_true h1
  have b : k + 1 ≤ 20 := Nat.le_of_ble_eq_true h2
  exact ⟨k - 12, by omega, by omega⟩
theorem k_sval {index : Nat} (hw : Cond.fieldLink own index "java/lang/String" "value" "[B" ∈ pm_T) (hd : decode cc pc = .ok (.getfield index, 3)) : pm_okF cc own nL ini pc (s_sval (pc + 3)) := by
  intro p l e R s m args below meth c D aC B b Q Cx hR1 hR2 lv st w σ' hf k
  simp only [s_sval] at hf
  split at hf
  · rename_i q st
    cases hb : (Nat.ble 4 q && Nat.blt q 12) with
    | false => rw [hb] at hf; cases hf
    | true =>
      rw [hb] at hf
      obtain rfl := Option.some.inj hf
      obtain ⟨i, hi, rfl⟩ := pm_str hb
      intro H locs ls cells slots h1 h2 h3 h4 h5 h6
      obtain ⟨-, -, -, -, adK, adV, hE, hA⟩ := Cx.2.2.2.2.2.1.2.2.2.2
      have k2 := k H locs ls cells slots h1 h2 h3 h4 h5 h6
      have e2 : b (4 + i + 8) = some (adV i) := by rw [show 4 + i + 8 = 12 + i by omega]; exact (hA i hi).2
      simp only [List.map_cons, pm_v, e2, va_rf] at k2
      simp only [List.map_cons, pm_v, (hA i hi).1, va_rf]
      exact vk_getf (A := fun q => B ≤ q) Cx.1 Cx.2.1 (hE.1 i hi).2.2.1 h4 Cx.2.2.2.1 (Cx.2.2.2.2.1 _ hw) (fun _ h9 => h9) hd k2
  · cases hf
noncomputable def s_scod (n : Nat) : pm_S → Option pm_S := fun σ => match σ.2.2.1 with
  | .retAddr k :: st => bif Nat.ble 4 k && Nat.blt k 12 then some (n, σ.2.1, .int 0 :: st, σ.2.2.2) else none
  | _ => none
theorem k_scod {index : Nat} (hw : Cond.fieldLink own index "java/lang/String" "coder" "B" ∈ pm_T) (hd : decode cc pc = .ok (.getfield index, 3)) : pm_okF cc own nL ini pc (s_scod (pc + 3)) := by
  intro p l e R s m args below meth c D aC B b Q Cx hR1 hR2 lv st w σ' hf k
  simp only [s_scod] at hf
  split at hf
  · rename_i q st
    cases hb : (Nat.ble 4 q && Nat.blt q 12) with
    | false => rw [hb] at hf; cases hf
    | true =>
      rw [hb] at hf
      obtain rfl := Option.some.inj hf
      obtain ⟨i, hi, rfl⟩ := pm_str hb
      intro H locs ls cells slots h1 h2 h3 h4 h5 h6
      obtain ⟨-, -, -, -, adK, adV, hE, hA⟩ := Cx.2.2.2.2.2.1.2.2.2.2
      simp only [List.map_cons, pm_v, (hA i hi).1, va_rf]
      exact vk_getf (A := fun q => B ≤ q) Cx.1 Cx.2.1 (hE.1 i hi).2.1 h4 Cx.2.2.2.1 (Cx.2.2.2.2.1 _ hw) (fun _ h9 => h9) hd (k H locs ls cells slots h1 h2 h3 h4 h5 h6)
  · cases hf
noncomputable def s_sbald (n : Nat) : pm_S → Option pm_S := fun σ => match σ.2.2.1 with
  | .int j :: .retAddr k :: st => bif (Nat.ble 12 k && Nat.blt k 20) && pm_ix j (pm_len.getD (k - 12) 0) then some (n, σ.2.1, .int ((pm_byt.getD (k - 12) []).getD j.toNatClampNeg 0) :: st, σ.2.2.2) else none
  | _ => none
theorem k_sbald (hd : decode cc pc = .ok (.baload, 1)) : pm_okF cc own nL ini pc (s_sbald (pc + 1)) := by
  intro p l e R s m args below meth c D aC B b Q Cx hR1 hR2 lv st w σ' hf k
  simp only [s_sbald] at hf
  split at hf
  · rename_i j q st
    cases hb : ((Nat.ble 12 q && Nat.blt q 20) && pm_ix j (pm_len.getD (q - 12) 0)) with
    | false => rw [hb] at hf; cases hf
    | true =>
      rw [hb] at hf
      obtain rfl := Option.some.inj hf
      obtain ⟨hb1, hb2⟩ := Bool.and_eq_true_iff.mp hb
      obtain ⟨i, hi, rfl⟩ := pm_strb hb1
      intro H locs ls cells slots h1 h2 h3 h4 h5 h6
      obtain ⟨-, -, -, -, adK, adV, hE, hA⟩ := Cx.2.2.2.2.2.1.2.2.2.2
      have k2 := k H locs ls cells slots h1 h2 h3 h4 h5 h6
      have e2 : 12 + i - 12 = i := by omega
      rw [e2] at hb2
      simp only [List.map_cons, pm_v, e2] at k2
      simp only [List.map_cons, pm_v, (hA i hi).2, va_rf]
      exact va_tb Cx.1 Cx.2.1 (hE.1 i hi).2.2.2 h4 (pm_ix_in hb2) rfl hd k2
  · cases hf
noncomputable def s_sblen (n : Nat) : pm_S → Option pm_S := fun σ => match σ.2.2.1 with
  | .retAddr k :: st => bif Nat.ble 12 k && Nat.blt k 20 then some (n, σ.2.1, .int (Int32.ofNat (pm_len.getD (k - 12) 0)) :: st, σ.2.2.2) else none
  | _ => none
theorem k_sblen (hd : decode cc pc = .ok (.arraylength, 1)) : pm_okF cc own nL ini pc (s_sblen (pc + 1)) := by
  intro p l e R s m args below meth c D aC B b Q Cx hR1 hR2 lv st w σ' hf k
  simp only [s_sblen] at hf
  split at hf
  · rename_i q st
    cases hb : (Nat.ble 12 q && Nat.blt q 20) with
    | false => rw [hb] at hf; cases hf
    | true =>
      rw [hb] at hf
      obtain rfl := Option.some.inj hf
      obtain ⟨i, hi, rfl⟩ := pm_strb hb
      intro H locs ls cells slots h1 h2 h3 h4 h5 h6
      obtain ⟨-, -, -, -, adK, adV, hE, hA⟩ := Cx.2.2.2.2.2.1.2.2.2.2
      have k2 := k H locs ls cells slots h1 h2 h3 h4 h5 h6
      have e2 : 12 + i - 12 = i := by omega
      simp only [List.map_cons, pm_v, e2] at k2
      simp only [List.map_cons, pm_v, (hA i hi).2, va_rf]
      exact va_tlen Cx.1 Cx.2.1 (hE.1 i hi).2.2.2 h4 rfl hd k2
  · cases hf
theorem k_i2c (hd : decode cc pc = .ok (.i2c, 1)) : pm_okF cc own nL ini pc (s_un (fun x => (x.toUInt32 % 65536).toInt32) (pc + 1)) := by
  intro p l e R s m args below meth c D aC B b Q C hR1 hR2 lv st w σ' hf k
  simp only [s_un] at hf
  split at hf
  · obtain rfl := Option.some.inj hf
    intro H locs ls cells slots h1 h2 h3 h4 h5 h6
    exact lv_i2c C.1 C.2.1 hd rfl (k H locs ls cells slots h1 h2 h3 h4 h5 h6)
  · cases hf
theorem k_iushr (hd : decode cc pc = .ok (.iushr, 1)) : pm_okF cc own nL ini pc (s_bin (fun x y => (x.toUInt32 >>> (y.toUInt32 &&& Int32.toUInt32 31)).toInt32) (pc + 1)) := by
  intro p l e R s m args below meth c D aC B b Q C hR1 hR2 lv st w σ' hf k
  simp only [s_bin] at hf
  split at hf
  · obtain rfl := Option.some.inj hf
    intro H locs ls cells slots h1 h2 h3 h4 h5 h6
    exact lv_iushr C.1 C.2.1 hd rfl (k H locs ls cells slots h1 h2 h3 h4 h5 h6)
  · cases hf
/-- a call of a String's method -/
theorem k_callVX {index : Nat} {y : MethodName} {bytes : ByteArray} {maxL : Nat} {ret : Option FieldType} {n mc ms : Nat} (hy : y.cls = "java/lang/String") (hd : decode cc pc = .ok (.invokevirtual index, 3)) (hcw : Cond.code y bytes maxL ret ∈ pm_T) (hw1 : Cond.methodLink own index y ∈ pm_T) (hw2 : Cond.instanceMethod y ∈ pm_T) (hw3 : Cond.selects y.cls y y ∈ pm_T) (hw4 : Cond.initialized y.cls ∈ pm_T) (hdesc : y.cls ≠ "java/lang/invoke/MethodHandle" ∧ y.cls ≠ "java/lang/invoke/VarHandle" ∧ (parseMethodDescriptor y.desc).map (fun d => d.parameters.length) = some n) (hL : maxL ≤ 80) : pm_okC cc own nL ini pc y bytes maxL ret (n + 1) (some 100) mc ms := by
  intro p l e R s m args below meth c D aC B b Q Cx rF rL hR1 hR2 lv st w h' r hch hM kk
  intro H locs ls cells slots h1 h2 h3 h4 h5 h6
  obtain ⟨c1, c2, c3, c4, c5⟩ := hch
  obtain ⟨i, as, hi, e1⟩ := (c2 100 rfl).2 (Nat.le_refl _)
  obtain ⟨-, -, -, -, adK, adV, hE, hA⟩ := id Cx.2.2.2.2.2.1.2.2.2.2
  have hst := pm_st_split c1
  have hlen := pm_len_as c1
  simp only at h2 h3 h5 h6
  rw [e1] at hM hst hlen
  generalize hrest : st.drop (n + 1) = rest at hst kk c3
  subst hst
  have eq4 : pm_v B b (.retAddr (4 + i)) = .ref (adK i) := by simp only [pm_v, (hA i hi).1, va_rf]
  refine pm_called (rest := rest.map (pm_v B b)) (va_runV (As := as.map (pm_v B b)) (b := adK i) (n := n) ⟨Cx.1, Cx.2.1, Cx.2.2.1, Cx.2.2.2.1, Cx.2.2.2.2.1⟩ hM (cwV n Cx.2.2.2.2.1 ?_ rfl rfl rfl ⟨rfl, hdesc⟩ ⟨hR1, by show 8 + (maxL + 11) + rL ≤ R.locals; omega⟩) ⟨pm_Pc_blind D aC B b w.1 (.retAddr (4 + i) :: as), by rw [hy]; exact vk_recv hE hi h4, fun U hU hW => ⟨by rw [List.map_cons, eq4], by rw [hU]; exact h2, by rw [hU]; exact h3, Cx.2.2.2.2.2.1.moved hW hU h4⟩⟩ rfl (by simp at hlen ⊢; omega) h1.1 (by simp [List.map_append, eq4]) (lv_room (by rw [pm_sz_v]; exact c3)) hd ⟨by omega, by omega⟩) h4 Cx.2.2.2.2.2.2.1 (fun H1 locs1 z1 g1 g2 => ?_)
  · intro x hx
    rcases List.mem_append.mp hx with hx | hx
    · have : x ∈ pm_T := by
        simp only [List.mem_cons, List.not_mem_nil, or_false] at hx
        rcases hx with rfl | rfl | rfl | rfl
        · exact hw1
        · exact hw2
        · exact hw3
        · exact hw4
      exact ⟨this, pm_T_word this⟩
    · exact pm_good hcw x hx
  · have k2 := kk H1 locs1 ls (cells + mc) (slots + ms) h1 z1 g1 g2 (by simp only; omega) (by simp only; omega)
    simp only [pm_toList] at k2
    exact k2
/-- a static call of a nest mate -/
theorem k_callSN {index : Nat} {host : String} {y : MethodName} {bytes : ByteArray} {maxL : Nat} {ret : Option FieldType} {n mc ms : Nat} (hN : ∀ (D : va_G) (aC : Nat → ClassId) (B : Nat) (b : Nat → Option Nat) (U : State), pm_K D aC B b U → va_Nw (.methodLinkNest own index y host) U) (hd : decode cc pc = .ok (.invokestatic index, 3)) (hcw : Cond.code y bytes maxL ret ∈ pm_T) (hw2 : Cond.static y ∈ pm_T) (hw4 : Cond.initialized y.cls ∈ pm_T) (hdesc : y.cls ≠ "java/lang/invoke/MethodHandle" ∧ y.cls ≠ "java/lang/invoke/VarHandle" ∧ (parseMethodDescriptor y.desc).map (fun d => d.parameters.length) = some n) (hL : maxL ≤ 80) : pm_okC cc own nL ini pc y bytes maxL ret n none mc ms := by
  intro p l e R s m args below meth c D aC B b Q Cx rF rL hR1 hR2 lv st w h' r hch hM kk
  intro H locs ls cells slots h1 h2 h3 h4 h5 h6
  obtain ⟨c1, c2, c3, c4, c5⟩ := hch
  have hst := pm_st_split c1
  have hlen := pm_len_as c1
  simp only at h2 h3 h5 h6
  generalize hrest : st.drop n = rest at hst kk c3
  generalize has : (st.take n).reverse = as at hM hst hlen
  subst hst
  refine pm_called (rest := rest.map (pm_v B b)) (va_runSN (As := as.map (pm_v B b)) (n := n) ⟨Cx.1, Cx.2.1, Cx.2.2.1, Cx.2.2.2.1, Cx.2.2.2.2.1⟩ hM ⟨va_cnB n Cx.2.2.2.2.1 (pm_good hcw) rfl rfl rfl (hN D aC B b s Cx.2.2.2.2.2.1) (Cx.2.2.2.2.1 _ hw4) hdesc ⟨hR1, by show 8 + (maxL + 11) + rL ≤ R.locals; omega⟩, Cx.2.2.2.2.1 _ hw2, trivial⟩ ⟨pm_Pc_blind D aC B b w.1 as, fun U hU hW => ⟨rfl, by rw [hU]; exact h2, by rw [hU]; exact h3, Cx.2.2.2.2.2.1.moved hW hU h4⟩⟩ rfl (by rw [List.length_map]; exact hlen) h1.1 (by simp [List.map_append]) (lv_room (by rw [pm_sz_v]; exact c3)) hd ⟨by omega, by omega⟩) h4 Cx.2.2.2.2.2.2.1 (fun H1 locs1 z1 g1 g2 => ?_)
  have k2 := kk H1 locs1 ls (cells + mc) (slots + ms) h1 z1 g1 g2 (by simp only; omega) (by simp only; omega)
  simp only [pm_toList] at k2
  exact k2
end PMO
noncomputable def s_pop2 (n : Nat) : pm_S → Option pm_S := fun σ => match σ.2.2.1 with
  | x :: st => bif Nat.beq x.category 2 then some (n, σ.2.1, st, σ.2.2.2) else none
  | _ => none
theorem k_pop2 {cc : ByteArray} {own : String} {nL pc : Nat} {ini : Bool} (hd : decode cc pc = .ok (.pop2, 1)) : pm_okF cc own nL ini pc (s_pop2 (pc + 1)) := by
  intro p l e R s m args below meth c D aC B b Q C hR1 hR2 lv st w σ' hf k
  simp only [s_pop2] at hf
  split at hf
  · rename_i x st
    cases hb : Nat.beq x.category 2 with
    | false => rw [hb] at hf; cases hf
    | true =>
      rw [hb] at hf
      obtain rfl := Option.some.inj hf
      intro H locs ls cells slots h1 h2 h3 h4 h5 h6
      exact lv_pop2_2 C.1 C.2.1 hd (by rw [pm_v_cat]; exact Nat.eq_of_beq_eq_true hb) (k H locs ls cells slots h1 h2 h3 h4 h5 h6)
  · cases hf
end
section
/-! THE PURE MACHINE, part 8: System.arraycopy of two rows of longs -/
noncomputable def s_copy (n : Nat) : pm_S → Option pm_S := fun σ => match σ.2.2.1 with
  | .int m :: .int dp :: .ref a1 :: .int sp :: .ref a0 :: st => match σ.2.2.2.1[a0]? with
    | some (.inl (3, n0, .inr (.inl f))) => match σ.2.2.2.1[a1]? with
      | some (.inl (3, n1, .inr (.inl g))) => bif (!(decide (sp < 0)) && (!(decide (dp < 0)) && !(decide (m < 0)))) && (Nat.ble (sp.toNatClampNeg + m.toNatClampNeg) n0 && (Nat.ble (dp.toNatClampNeg + m.toNatClampNeg) n1 && Nat.ble (pm_sz st) 8)) then some (n, σ.2.1, st, σ.2.2.2.1.set a1 (.inl (3, n1, .inr (.inl (va_cpy f g sp.toNatClampNeg dp.toNatClampNeg m.toNatClampNeg)))), σ.2.2.2.2) else none
      | _ => none
    | _ => none
  | _ => none
theorem pm_nn {z : Int32} (hz : ¬ z < 0) : z.toInt = (z.toNatClampNeg : Int) := by
  have hz0 : (0 : Int) ≤ z.toInt := by
    have := Int32.not_lt.mp hz
    simpa using Int32.le_iff_toInt_le.mp this
  show z.toInt = ((z.toInt.toNat : Nat) : Int)
  omega
theorem k_copy {cc : ByteArray} {own : String} {nL pc : Nat} {ini : Bool} {index : Nat} (hw1 : Cond.methodLink own index arraycopyName ∈ pm_T) (hw2 : Cond.native arraycopyName ∈ pm_T) (hw3 : Cond.static arraycopyName ∈ pm_T) (hw4 : Cond.initialized "java/lang/System" ∈ pm_T) (hd : decode cc pc = .ok (.invokestatic index, 3)) : pm_okF cc own nL ini pc (s_copy (pc + 3)) := by
  intro p l e R s mi args below meth c D aC B b Q Cx hR1 hR2 lv st w σ' hf kk
  simp only [s_copy] at hf
  split at hf
  · rename_i m dp a1 sp a0 st
    split at hf
    · rename_i n0 f he0
      split at hf
      · rename_i n1 g he1
        cases hb : ((!(decide (sp < 0)) && (!(decide (dp < 0)) && !(decide (m < 0)))) && (Nat.ble (sp.toNatClampNeg + m.toNatClampNeg) n0 && (Nat.ble (dp.toNatClampNeg + m.toNatClampNeg) n1 && Nat.ble (pm_sz st) 8))) with
        | false => rw [hb] at hf; cases hf
        | true =>
          rw [hb] at hf
          obtain rfl := Option.some.inj hf
          obtain ⟨hb1, hb2⟩ := Bool.and_eq_true_iff.mp hb
          obtain ⟨hb2, hb3⟩ := Bool.and_eq_true_iff.mp hb2
          obtain ⟨hb3, hb4⟩ := Bool.and_eq_true_iff.mp hb3
          have g4 := Nat.le_of_ble_eq_true hb2
          have g5 := Nat.le_of_ble_eq_true hb3
          have g6 := Nat.le_of_ble_eq_true hb4
          have g123 : ¬ sp < 0 ∧ ¬ dp < 0 ∧ ¬ m < 0 := by simpa using hb1
          obtain ⟨g1, g2, g3⟩ := g123
          intro H locs ls cells slots h1 h2 h3 h4 h5 h6
          intro T hT X
          have hK := Cx.2.2.2.2.2.1.1
          have hc0 : H[B + a0]? = some (vp_cell (aC 3) (n0, .inr (.inl f))) := h3 a0 _ (pm_w_at he0)
          have hc1 : H[B + a1]? = some (vp_cell (aC 3) (n1, .inr (.inl g))) := h3 a1 _ (pm_w_at he1)
          obtain ⟨-, k0, hk0, cm0, hkk0⟩ := (hK.2 3 _ rfl).1 n0 (fun j => .long (f j))
          obtain ⟨-, k1, hk1, cm1, hkk1⟩ := (hK.2 3 _ rfl).1 n1 (fun j => .long (g j))
          obtain ⟨vm', X', step⟩ := X.arraycopy Cx.1 Cx.2.2.2.1 (Cx.2.2.2.2.1 _ hw1) (Cx.2.2.2.2.1 _ hw2) (Cx.2.2.2.2.1 _ hw3) (Cx.2.2.2.2.1 _ hw4) (src := B + a0) (dst := B + a1) (cs := vp_cell (aC 3) (n0, .inr (.inl f))) (cd := vp_cell (aC 3) (n1, .inr (.inl g))) (srcPos := sp) (destPos := dp) (n := m) (by rw [hT]; exact hc0) (by rw [hT]; exact hc1)
            (fun _ h => by cases h) (fun _ h => by cases h) (fun h => by cases h) (fun h => by cases h) hk0 hk1 hkk0 hkk1 (by simp [refKind]) g1 g2 g3
            (by rw [pm_nn g1, pm_nn g3]; show ¬ _ > ((arrV (aC 3) n0 (fun j => .long (f j))).slots.size : Int); rw [arrV_size]; omega)
            (by rw [pm_nn g2, pm_nn g3]; show ¬ _ > ((arrV (aC 3) n1 (fun j => .long (g j))).slots.size : Int); rw [arrV_size]; omega)
            (fun vm₁ _ i hi => by
              have e : (vp_cell (aC 3) (n0, .inr (.inl f))).slots.getD (sp.toNatClampNeg + i) .null = .long (f (sp.toNatClampNeg + i)) := by
                show (arrV (aC 3) n0 (fun j => .long (f j))).slots.getD _ _ = _
                rw [Array.getD_eq_getD_getElem?, arrV_read _ _ (by omega)]
                rfl
              refine ⟨?_, ?_⟩
              · rw [e]; rfl
              · rw [e]; exact trivial)
            (g := F0 mi pc ls (.int m :: .int dp :: .ref (B + a1) :: .int sp :: .ref (B + a0) :: st.map (pm_v B b))) rfl (by rw [Cx.2.2.1]; exact h1.1) (rest := st.map (pm_v B b)) rfl (by rw [Cx.2.1]; exact hd) hR1 (by
              have z := pm_sz_v B b st
              have y : nativeFrameWords "java/lang/System" "arraycopy" 5 + 11 ≤ 92 := by decide
              show 2 * 0 + _ + _ ≤ _
              omega)
          have e1 : copied (vp_cell (aC 3) (n0, .inr (.inl f))) (vp_cell (aC 3) (n1, .inr (.inl g))) sp dp m = vp_cell (aC 3) (n1, .inr (.inl (va_cpy f g sp.toNatClampNeg dp.toNatClampNeg m.toNatClampNeg))) := va_copied (fun z => .long z) (aC 3) (aC 3) f g g4
          rw [e1] at X' step
          have hl : B + a1 < H.size := (Array.getElem?_eq_some_iff.mp hc1).1
          have hheap : ((T.setVm vm').setCell (B + a1) (vp_cell (aC 3) (n1, .inr (.inl (va_cpy f g sp.toNatClampNeg dp.toNatClampNeg m.toNatClampNeg))))).heap = H.setIfInBounds (B + a1) (vp_cell (aC 3) (n1, .inr (.inl (va_cpy f g sp.toNatClampNeg dp.toNatClampNeg m.toNatClampNeg)))) := by rw [← hT]; rfl
          have oq : ∀ q : Nat, q ≠ B + a1 → (H.setIfInBounds (B + a1) (vp_cell (aC 3) (n1, .inr (.inl (va_cpy f g sp.toNatClampNeg dp.toNatClampNeg m.toNatClampNeg)))))[q]? = H[q]? := fun q hq => by simp [Array.getElem?_setIfInBounds, Ne.symm hq]
          obtain ⟨t, q1, q2⟩ := kk _ _ ls cells slots h1 (by simp only [Array.size_setIfInBounds, List.length_set]; exact h2) (pm_stored h3 he1 oq (show (H.setIfInBounds (B + a1) _)[B + a1]? = some _ by simp [Array.getElem?_setIfInBounds, hl])) ⟨by simp; exact h4.1, fun q z1 z2 => by
              rw [oq q (fun e => z2 (by rw [e]; exact Nat.le_add_right B a1))]
              exact h4.2.1 q z1 z2, fun q hq => by
              rcases List.mem_append.mp hq with h | h
              · exact h4.2.2 q h
              · obtain ⟨z, -, hz⟩ := List.mem_map.mp h
                rw [← hz]
                exact Nat.le_add_right B a1⟩ h5 h6 _ hheap X'
          exact ⟨t, step t q1, q2⟩
      · cases hf
    · cases hf
  · cases hf
end
