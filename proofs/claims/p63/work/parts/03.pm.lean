section
/-! THE PURE MACHINE, part 1: cells by their numbers, what they are in a heap -/
noncomputable def pm_T : List Cond := lw_tbl.filter goodWord
theorem pm_T_good : GoodIn lw_tbl pm_T := fun w hw => ⟨(List.mem_filter.mp hw).1, good_of_word (List.mem_filter.mp hw).2⟩
theorem pm_T_word {w : Cond} (h : w ∈ pm_T) : (w.onTables && w.keeps) = true ∨ ∃ ty, w = .arrayClass ty := good_of_word (List.mem_filter.mp h).2
noncomputable abbrev pm_E : Type := (Nat × vp_A) ⊕ (Nat × List Value)
noncomputable abbrev pm_H : Type := List pm_E
/-- pc, locals, stack, heap, cells and slots that may still be made -/
noncomputable abbrev pm_S : Type := Nat × List (Nat × Value) × List Value × pm_H × Nat × Nat
/-- a step; or a call (the method's number, how many arguments, the receiver's class, cells, slots); or a return (0: of nothing) -/
noncomputable abbrev pm_I : Type := (pm_S → Option pm_S) ⊕ ((Nat × Nat × Option Nat × Nat × Nat) ⊕ Nat)
/-- a value: cell k lies at B + k; the script's reference stands as a return address -/
noncomputable def pm_v (B : Nat) (b : Nat → Option Nat) (v : Value) : Value := match v with
  | .int x => .int x
  | .long x => .long x
  | .float x => .float x
  | .double x => .double x
  | .null => .null
  | .ref k => .ref (B + k)
  | .retAddr k => va_rf (b k)
theorem pm_v_cat (B : Nat) (b : Nat → Option Nat) (v : Value) : (pm_v B b v).category = v.category := by
  cases v with
  | retAddr k => show (va_rf (b k)).category = 1; cases b k <;> rfl
  | _ => rfl
noncomputable def pm_q (B : Nat) (b : Nat → Option Nat) (q : Nat × Value) : Nat × Value := (q.1, pm_v B b q.2)
noncomputable def pm_e (B : Nat) (b : Nat → Option Nat) (aC : Nat → ClassId) (x : pm_E) : va_E := match x with
  | .inl (t, n, .inl f) => .inl (aC t, n, .inl f)
  | .inl (t, n, .inr (.inl f)) => .inl (aC t, n, .inr (.inl f))
  | .inl (t, n, .inr (.inr (.inl f))) => .inl (aC t, n, .inr (.inr (.inl f)))
  | .inl (t, n, .inr (.inr (.inr (.inl f)))) => .inl (aC t, n, .inr (.inr (.inr (.inl f))))
  | .inl (t, n, .inr (.inr (.inr (.inr f)))) => .inl (aC t, n, .inr (.inr (.inr (.inr (fun i => (f i).map (fun k => B + k))))))
  | .inr (ci, fs) => .inr (ci, fs.map (pm_v B b))
noncomputable def pm_w (B : Nat) (b : Nat → Option Nat) (aC : Nat → ClassId) (h : pm_H) : va_W := h.mapIdx (fun k x => (B + k, pm_e B b aC x))
theorem pm_w_at {B : Nat} {b : Nat → Option Nat} {aC : Nat → ClassId} {h : pm_H} {k : Nat} {x : pm_E} (hk : h[k]? = some x) : (pm_w B b aC h)[k]? = some (B + k, pm_e B b aC x) := by
  simp [pm_w, hk]
theorem pm_w_get {B : Nat} {b : Nat → Option Nat} {aC : Nat → ClassId} {h : pm_H} {k : Nat} {q : Nat × va_E} (hk : (pm_w B b aC h)[k]? = some q) : q.1 = B + k := by
  simp only [pm_w, List.getElem?_mapIdx] at hk
  cases hx : h[k]? with
  | none => rw [hx] at hk; cases hk
  | some x => rw [hx] at hk; cases hk; rfl
theorem pm_w_set (B : Nat) (b : Nat → Option Nat) (aC : Nat → ClassId) (h : pm_H) (k : Nat) (x : pm_E) : (pm_w B b aC h).set k (B + k, pm_e B b aC x) = pm_w B b aC (h.set k x) := by
  apply List.ext_getElem?
  intro i
  simp only [pm_w, List.getElem?_set, List.getElem?_mapIdx, List.length_mapIdx]
  by_cases hi : k = i
  · subst hi
    by_cases hl : k < h.length
    · simp [hl]
    · simp [hl]
  · simp [hi]
theorem pm_w_app (B : Nat) (b : Nat → Option Nat) (aC : Nat → ClassId) (h : pm_H) (x : pm_E) : pm_w B b aC h ++ [(B + h.length, pm_e B b aC x)] = pm_w B b aC (h ++ [x]) := by
  simp [pm_w, List.mapIdx_append]
theorem pm_w_D (B : Nat) (b : Nat → Option Nat) (aC : Nat → ClassId) (h : pm_H) : va_D (fun q => B ≤ q) (pm_w B b aC h) := by
  refine ⟨fun i j p q hi hj e => ?_, fun k q hq => ?_⟩
  · have h1 := pm_w_get hi
    have h2 := pm_w_get hj
    omega
  · have h1 := pm_w_get hq
    show B ≤ q.1
    omega
noncomputable def pm_get : List (Nat × Value) → Nat → Option Value
  | [], _ => none
  | q :: l, i => bif Nat.beq q.1 i then some q.2 else pm_get l i
theorem pm_get_in {i : Nat} {v : Value} : ∀ {lv : List (Nat × Value)}, pm_get lv i = some v → (i, v) ∈ lv
  | [], h => by cases h
  | q :: l, h => by
    unfold pm_get at h
    cases hb : Nat.beq q.1 i with
    | true =>
      rw [hb] at h
      have h1 : q.1 = i := Nat.eq_of_beq_eq_true hb
      have h2 : q.2 = v := Option.some.inj h
      subst h1; subst h2
      exact List.mem_cons_self
    | false =>
      rw [hb] at h
      exact List.mem_cons_of_mem _ (pm_get_in h)
theorem pm_loc {B : Nat} {b : Nat → Option Nat} {lv : List (Nat × Value)} {ls : Array Slot} {nL i : Nat} {v : Value} (h : lv_has ls nL (lv.map (pm_q B b))) (hg : pm_get lv i = some v) : ls[i]? = some (.val (pm_v B b v)) :=
  h.2.2 (i, pm_v B b v) (List.mem_map.mpr ⟨(i, v), pm_get_in hg, rfl⟩)
noncomputable def pm_put1 (i : Nat) (v : Value) (lv : List (Nat × Value)) : List (Nat × Value) := (i, v) :: lv.filter (fun q => !(q.1 == i) && !(q.1 + 1 == i && q.2.category == 2))
noncomputable def pm_put2 (i : Nat) (v : Value) (lv : List (Nat × Value)) : List (Nat × Value) := (i, v) :: lv.filter (fun q => !(q.1 == i) && (!(q.1 == i + 1) && !(q.1 + 1 == i && q.2.category == 2)))
theorem pm_put1_map (B : Nat) (b : Nat → Option Nat) (i : Nat) (v : Value) (lv : List (Nat × Value)) : (i, pm_v B b v) :: (lv.map (pm_q B b)).filter (fun q => !(q.1 == i) && !(q.1 + 1 == i && q.2.category == 2)) = (pm_put1 i v lv).map (pm_q B b) := by
  simp only [pm_put1, List.map_cons, List.filter_map]
  refine congrArg (List.cons _) (congrArg (List.map _) (List.filter_congr fun q _ => ?_))
  simp [pm_q, pm_v_cat]
theorem pm_put2_map (B : Nat) (b : Nat → Option Nat) (i : Nat) (v : Value) (lv : List (Nat × Value)) : (i, pm_v B b v) :: (lv.map (pm_q B b)).filter (fun q => !(q.1 == i) && (!(q.1 == i + 1) && !(q.1 + 1 == i && q.2.category == 2))) = (pm_put2 i v lv).map (pm_q B b) := by
  simp only [pm_put2, List.map_cons, List.filter_map]
  refine congrArg (List.cons _) (congrArg (List.map _) (List.filter_congr fun q _ => ?_))
  simp [pm_q, pm_v_cat]
/-- the array classes by their numbers -/
noncomputable def pm_tys (aC : Nat → ClassId) : List (ClassId × FieldType) := [(aC 0, .int), (aC 1, .byte), (aC 2, .boolean), (aC 3, .long), (aC 4, .object RX5), (aC 5, .object RX4)]
/-- the class's static tables and the Reader's Strings, as the Statement gives them -/
noncomputable def pm_fac (j : Nat) : Int32 := [1, 1, 2, 6, 24, 120, 720, 5040, 40320].getD j 0
noncomputable def pm_rbs (j : Nat) : Int32 := [1, 0, 0, 0, 0, 0, 0, 0, 0, 0, 0, 2, 1, 0, 0, 0, 0, 0, 0, 0, 0, 0, 6, 6, 3, 1, 0, 0, 0, 0, 0, 0, 0, 24, 36, 30, 20, 10, 4, 1, 0, 0, 0, 0, 120, 240, 270, 240, 180, 120, 70, 35, 15, 5, 1].getD j 0
noncomputable def pm_len : List Nat := [6, 6, 3, 4, 3, 5, 6, 4]
noncomputable def pm_byt : List (List Int32) := [[115, 116, 114, 101, 101, 116], [112, 108, 97, 99, 101, 115], [108, 97, 119], [111, 100, 100, 115], [99, 97, 114], [119, 97, 110, 116, 115], [115, 116, 97, 110, 100, 115], [106, 111, 105, 110]]
noncomputable def pm_six (i : Nat) : Nat := [73, 78, 89, 93, 61, 108, 110, 116].getD i 0
noncomputable def pm_stx (i : Nat) : String := ["street", "places", "law", "odds", "car", "wants", "stands", "join"].getD i ""
/-- cells outside: 1, 2 the tables, 3 the JDK's formatter, 4 .. 11 the Strings, 12 .. 19 their bytes (0 is the law's script) -/
noncomputable def pm_O (B : Nat) (b : Nat → Option Nat) (U : State) (H : Heap) : Prop :=
  (∃ t, b 1 = some t ∧ va_Z RX8 "FACTORIALS" "[I" (.ref t) (fun q => B ≤ q) U H ∧ va_T .int t 9 (fun j => .int (pm_fac j)) (fun q => B ≤ q) U H) ∧
  (∃ t, b 2 = some t ∧ va_Z RX8 "ROWS_BY_STEPS" "[I" (.ref t) (fun q => B ≤ q) U H ∧ va_T .int t 55 (fun j => .int (pm_rbs j)) (fun q => B ≤ q) U H) ∧
  va_Z RJ0 "COMPACT_STRINGS" "Z" (.int 1) (fun q => B ≤ q) U H ∧
  va_Z RJ3 "SIOOBE_FORMATTER" "Ljava/util/function/BiFunction;" (va_rf (b 3)) (fun q => B ≤ q) U H ∧
  ∃ adK adV : Nat → Nat, vk_S 8 pm_len pm_byt adK adV (fun q => B ≤ q) U H ∧ ∀ i : Nat, i < 8 → b (4 + i) = some (adK i) ∧ b (12 + i) = some (adV i)
theorem pm_O.moved {B : Nat} {b : Nat → Option Nat} {u U : State} {H : Heap} (hvm : u.vm.Alike U.vm) (h : pm_O B b u H) : pm_O B b U H := by
  obtain ⟨⟨t, h1, h2, h3⟩, ⟨t2, g1, g2, g3⟩, h4, h5, adK, adV, h6, h7⟩ := h
  exact ⟨⟨t, h1, va_Z.moved hvm h2, va_T.moved hvm h3⟩, ⟨t2, g1, va_Z.moved hvm g2, va_T.moved hvm g3⟩, va_Z.moved hvm h4, va_Z.moved hvm h5, adK, adV, vk_S.moved hvm h6, h7⟩
theorem pm_O.kept {B : Nat} {b : Nat → Option Nat} {U : State} {H H1 : Heap} (h : pm_O B b U H) (hq : ∀ a : Nat, a < H.size → ¬ B ≤ a → H1[a]? = H[a]?) : pm_O B b U H1 := by
  obtain ⟨⟨t, h1, h2, h3⟩, ⟨t2, g1, g2, g3⟩, h4, h5, adK, adV, h6, h7⟩ := h
  exact ⟨⟨t, h1, h2.kept hq, h3.kept hq⟩, ⟨t2, g1, g2.kept hq, g3.kept hq⟩, h4.kept hq, h5.kept hq, adK, adV, h6.kept hq, h7⟩
noncomputable def pm_N (b : Nat → Option Nat) (U : State) : Prop := (va_Nw (.methodLinkNest RX0 19 yX8_placeBit RX8) U ∧ va_Nw (.methodLinkNest RX1 33 yX8_placeBit RX8) U ∧ va_Nw (.methodLinkNest RX3 24 yX8_placeBit RX8) U) ∧ ∀ i : Nat, i < 8 → ∃ a, b (4 + i) = some a ∧ vk_R RX2 (pm_six i) (pm_stx i) a U
theorem pm_N.warm {b : Nat → Option Nat} {s U : State} (hW : s.WarmedH U.vm) (h : pm_N b s) : pm_N b U :=
  ⟨⟨va_Nw.warmM hW h.1.1, va_Nw.warmM hW h.1.2.1, va_Nw.warmM hW h.1.2.2⟩, fun i hi => by obtain ⟨a, e, r⟩ := h.2 i hi; exact ⟨a, e, vk_R.warm hW r⟩⟩
theorem pm_N.same {b : Nat → Option Nat} {u U : State} (hv : u.vm = U.vm) (h : pm_N b u) : pm_N b U :=
  ⟨⟨va_Nw.same rfl hv h.1.1, va_Nw.same rfl hv h.1.2.1, va_Nw.same rfl hv h.1.2.2⟩, fun i hi => by obtain ⟨a, e, r⟩ := h.2 i hi; exact ⟨a, e, vk_R.same hv.symm r⟩⟩
/-- what the tables say of a state: classes, array classes, nest mates, Strings, the cells outside -/
noncomputable def pm_K (D : va_G) (aC : Nat → ClassId) (B : Nat) (b : Nat → Option Nat) (U : State) : Prop := va_K D vwCl (pm_tys aC) U ∧ va_AO RX5 U ∧ va_AO RX4 U ∧ pm_N b U ∧ pm_O B b U U.heap
theorem pm_K.moved {D : va_G} {aC : Nat → ClassId} {B : Nat} {b : Nat → Option Nat} {s U : State} {H : Heap} {locs : List Loc} (hW : s.WarmedH U.vm) (hU : U.heap = H) (hS : va_S (fun q => B ≤ q) s.heap H locs) (h : pm_K D aC B b s) : pm_K D aC B b U :=
  ⟨va_K.moved hW.alike h.1, va_AO.moved hW.alike h.2.1, va_AO.moved hW.alike h.2.2.1, h.2.2.2.1.warm hW, by rw [hU]; exact (h.2.2.2.2.kept hS.2.1).moved hW.alike⟩
theorem pm_K.call {D : va_G} {aC : Nat → ClassId} {B : Nat} {b : Nat → Option Nat} {U : State} {g : JFrame} {mk : MethodId} {a : Array Value} (h : pm_K D aC B b U) : pm_K D aC B b (U.calling g mk a) :=
  ⟨va_K.moved (u := U) (U := U.calling g mk a) (Vm.Alike.refl U.vm) h.1, va_AO.moved (u := U) (U := U.calling g mk a) (Vm.Alike.refl U.vm) h.2.1, va_AO.moved (u := U) (U := U.calling g mk a) (Vm.Alike.refl U.vm) h.2.2.1, h.2.2.2.1.same (u := U) (U := U.calling g mk a) rfl, h.2.2.2.2.moved (u := U) (U := U.calling g mk a) (Vm.Alike.refl U.vm)⟩
/-- what stays all through a method -/
noncomputable def pm_C (p : Program) (s : State) (m : MethodId) (args : Array Value) (meth : Method) (c : Code) (cc : ByteArray) (own : String) (nL : Nat) (ini : Bool) (D : va_G) (aC : Nat → ClassId) (B : Nat) (b : Nat → Option Nat) : Prop :=
  p.tables.exec = Jvm.exec ∧ c.code = cc ∧ c.maxLocals = nL ∧ s.vm.findClass own = some m.cls ∧ (∀ w ∈ pm_T, w.before args s = true) ∧ pm_K D aC B b s ∧ B ≤ s.heap.size ∧ (ini = true → meth.name = "<init>")
/-- the machine goes on from every heap and frame that are as the pure state says -/
noncomputable def pm_W (p : Program) (l : Launch) (e : Env) (R : Room) (s : State) (m : MethodId) (args : Array Value) (below : List Frame) (meth : Method) (c : Code) (nL : Nat) (D : va_G) (aC : Nat → ClassId) (B : Nat) (b : Nat → Option Nat) (Q : State → Prop) (σ : pm_S) : Prop :=
  ∀ (H : Heap) (locs : List Loc) (ls : Array Slot) (cells slots : Nat), lv_has ls nL (σ.2.1.map (pm_q B b)) → H.size = B + σ.2.2.2.1.length → va_P D vwCl (pm_w B b aC σ.2.2.2.1) H → va_S (fun q => B ≤ q) s.heap H locs → cells + σ.2.2.2.2.1 ≤ R.cells → slots + σ.2.2.2.2.2 ≤ R.slots →
    W p l e R s m args below meth c H locs cells slots Q (F0 m σ.1 ls (σ.2.2.1.map (pm_v B b)))
/-- a step of the pure machine is one of the machine -/
noncomputable def pm_okF (cc : ByteArray) (own : String) (nL : Nat) (ini : Bool) (pc : Nat) (f : pm_S → Option pm_S) : Prop :=
  ∀ (p : Program) (l : Launch) (e : Env) (R : Room) (s : State) (m : MethodId) (args : Array Value) (below : List Frame) (meth : Method) (c : Code) (D : va_G) (aC : Nat → ClassId) (B : Nat) (b : Nat → Option Nat) (Q : State → Prop),
    pm_C p s m args meth c cc own nL ini D aC B b → 1 ≤ R.frames → 100 ≤ R.locals → ∀ (lv : List (Nat × Value)) (st : List Value) (w : pm_H × Nat × Nat) (σ' : pm_S), f (pc, lv, st, w) = some σ' →
      pm_W p l e R s m args below meth c nL D aC B b Q σ' → pm_W p l e R s m args below meth c nL D aC B b Q (pc, lv, st, w)
end
section
/-! THE PURE MACHINE, part 2: its steps, each with the row of the kit that it stands on (written by gen_steps.py) -/
noncomputable def s_const (v : Value) (n : Nat) : pm_S → Option pm_S := fun σ => some (n, σ.2.1, v :: σ.2.2.1, σ.2.2.2)
theorem k_iconst {cc : ByteArray} {own : String} {nL pc : Nat} {ini : Bool} {n : Int} {v : Int32} (hd : decode cc pc = .ok (.iconst n, 1)) (hv : Int32.ofInt n = v) : pm_okF cc own nL ini pc (s_const (.int v) (pc + 1)) := by
  intro p l e R s m args below meth c D aC B b Q C hR1 hR2 lv st w σ' hf k
  obtain rfl := Option.some.inj hf
  intro H locs ls cells slots h1 h2 h3 h4 h5 h6
  exact lv_iconst C.1 C.2.1 hd hv (k H locs ls cells slots h1 h2 h3 h4 h5 h6)
theorem k_bipush {cc : ByteArray} {own : String} {nL pc : Nat} {ini : Bool} {n : Int} {v : Int32} (hd : decode cc pc = .ok (.bipush n, 2)) (hv : (Int8.ofInt n).toInt32 = v) : pm_okF cc own nL ini pc (s_const (.int v) (pc + 2)) := by
  intro p l e R s m args below meth c D aC B b Q C hR1 hR2 lv st w σ' hf k
  obtain rfl := Option.some.inj hf
  intro H locs ls cells slots h1 h2 h3 h4 h5 h6
  exact lv_bipush C.1 C.2.1 hd hv (k H locs ls cells slots h1 h2 h3 h4 h5 h6)
theorem k_sipush {cc : ByteArray} {own : String} {nL pc : Nat} {ini : Bool} {n : Int} {v : Int32} (hd : decode cc pc = .ok (.sipush n, 3)) (hv : (Int16.ofInt n).toInt32 = v) : pm_okF cc own nL ini pc (s_const (.int v) (pc + 3)) := by
  intro p l e R s m args below meth c D aC B b Q C hR1 hR2 lv st w σ' hf k
  obtain rfl := Option.some.inj hf
  intro H locs ls cells slots h1 h2 h3 h4 h5 h6
  exact lv_sipush C.1 C.2.1 hd hv (k H locs ls cells slots h1 h2 h3 h4 h5 h6)
theorem k_lconst {cc : ByteArray} {own : String} {nL pc : Nat} {ini : Bool} {n : Fin 2} {v : Int64} (hd : decode cc pc = .ok (.lconst n, 1)) (hv : Int64.ofNat (n : Nat) = v) : pm_okF cc own nL ini pc (s_const (.long v) (pc + 1)) := by
  intro p l e R s m args below meth c D aC B b Q C hR1 hR2 lv st w σ' hf k
  obtain rfl := Option.some.inj hf
  intro H locs ls cells slots h1 h2 h3 h4 h5 h6
  exact lv_lconst C.1 C.2.1 hd hv (k H locs ls cells slots h1 h2 h3 h4 h5 h6)
theorem k_ldc {cc : ByteArray} {own : String} {nL pc : Nat} {ini : Bool} {i : Nat} {v : Int32} (hd : decode cc pc = .ok (.ldc i, 2)) (hw : Cond.constant own i v ∈ pm_T) : pm_okF cc own nL ini pc (s_const (.int v) (pc + 2)) := by
  intro p l e R s m args below meth c D aC B b Q C hR1 hR2 lv st w σ' hf k
  obtain rfl := Option.some.inj hf
  intro H locs ls cells slots h1 h2 h3 h4 h5 h6
  exact lv_ldc C.1 C.2.1 C.2.2.2.1 (C.2.2.2.2.1 _ hw) hd (k H locs ls cells slots h1 h2 h3 h4 h5 h6)
theorem k_ldcw {cc : ByteArray} {own : String} {nL pc : Nat} {ini : Bool} {i : Nat} {v : Int32} (hd : decode cc pc = .ok (.ldc_w i, 3)) (hw : Cond.constant own i v ∈ pm_T) : pm_okF cc own nL ini pc (s_const (.int v) (pc + 3)) := by
  intro p l e R s m args below meth c D aC B b Q C hR1 hR2 lv st w σ' hf k
  obtain rfl := Option.some.inj hf
  intro H locs ls cells slots h1 h2 h3 h4 h5 h6
  exact lv_ldcw C.1 C.2.1 C.2.2.2.1 (C.2.2.2.2.1 _ hw) hd (k H locs ls cells slots h1 h2 h3 h4 h5 h6)
theorem k_ldc2 {cc : ByteArray} {own : String} {nL pc : Nat} {ini : Bool} {i : Nat} {v : Int64} (hd : decode cc pc = .ok (.ldc2_w i, 3)) (hw : Cond.constantLong own i v ∈ pm_T) : pm_okF cc own nL ini pc (s_const (.long v) (pc + 3)) := by
  intro p l e R s m args below meth c D aC B b Q C hR1 hR2 lv st w σ' hf k
  obtain rfl := Option.some.inj hf
  intro H locs ls cells slots h1 h2 h3 h4 h5 h6
  exact lv_ldc2 C.1 C.2.1 C.2.2.2.1 (C.2.2.2.2.1 _ hw) hd (k H locs ls cells slots h1 h2 h3 h4 h5 h6)
noncomputable def s_il (i n : Nat) : pm_S → Option pm_S := fun σ => match pm_get σ.2.1 i with
  | some (.int x) => some (n, σ.2.1, .int x :: σ.2.2.1, σ.2.2.2)
  | _ => none
theorem k_iload_n {cc : ByteArray} {own : String} {nL pc : Nat} {ini : Bool} {j : Fin 4} {i : Nat} (hd : decode cc pc = .ok (.iload_n j, 1)) (hi : (j : Nat) = i) : pm_okF cc own nL ini pc (s_il i (pc + 1)) := by
  intro p l e R s m args below meth c D aC B b Q C hR1 hR2 lv st w σ' hf k
  simp only [s_il] at hf
  split at hf
  · rename_i x he
    obtain rfl := Option.some.inj hf
    intro H locs ls cells slots h1 h2 h3 h4 h5 h6
    exact lv_iload_n C.1 C.2.1 hd hi (pm_loc h1 he) (k H locs ls cells slots h1 h2 h3 h4 h5 h6)
  · cases hf
theorem k_iload {cc : ByteArray} {own : String} {nL pc : Nat} {ini : Bool} {i : Nat} (hd : decode cc pc = .ok (.iload i, 2)) : pm_okF cc own nL ini pc (s_il i (pc + 2)) := by
  intro p l e R s m args below meth c D aC B b Q C hR1 hR2 lv st w σ' hf k
  simp only [s_il] at hf
  split at hf
  · rename_i x he
    obtain rfl := Option.some.inj hf
    intro H locs ls cells slots h1 h2 h3 h4 h5 h6
    exact lv_iload C.1 C.2.1 hd (pm_loc h1 he) (k H locs ls cells slots h1 h2 h3 h4 h5 h6)
  · cases hf
noncomputable def s_ll (i n : Nat) : pm_S → Option pm_S := fun σ => match pm_get σ.2.1 i with
  | some (.long x) => some (n, σ.2.1, .long x :: σ.2.2.1, σ.2.2.2)
  | _ => none
theorem k_lload_n {cc : ByteArray} {own : String} {nL pc : Nat} {ini : Bool} {j : Fin 4} {i : Nat} (hd : decode cc pc = .ok (.lload_n j, 1)) (hi : (j : Nat) = i) : pm_okF cc own nL ini pc (s_ll i (pc + 1)) := by
  intro p l e R s m args below meth c D aC B b Q C hR1 hR2 lv st w σ' hf k
  simp only [s_ll] at hf
  split at hf
  · rename_i x he
    obtain rfl := Option.some.inj hf
    intro H locs ls cells slots h1 h2 h3 h4 h5 h6
    exact lv_lload_n C.1 C.2.1 hd hi (pm_loc h1 he) (k H locs ls cells slots h1 h2 h3 h4 h5 h6)
  · cases hf
theorem k_lload {cc : ByteArray} {own : String} {nL pc : Nat} {ini : Bool} {i : Nat} (hd : decode cc pc = .ok (.lload i, 2)) : pm_okF cc own nL ini pc (s_ll i (pc + 2)) := by
  intro p l e R s m args below meth c D aC B b Q C hR1 hR2 lv st w σ' hf k
  simp only [s_ll] at hf
  split at hf
  · rename_i x he
    obtain rfl := Option.some.inj hf
    intro H locs ls cells slots h1 h2 h3 h4 h5 h6
    exact lv_lload C.1 C.2.1 hd (pm_loc h1 he) (k H locs ls cells slots h1 h2 h3 h4 h5 h6)
  · cases hf
noncomputable def s_al (i n : Nat) : pm_S → Option pm_S := fun σ => match pm_get σ.2.1 i with
  | some (.ref x) => some (n, σ.2.1, .ref x :: σ.2.2.1, σ.2.2.2)
  | some (.retAddr x) => some (n, σ.2.1, .retAddr x :: σ.2.2.1, σ.2.2.2)
  | _ => none
theorem k_aload_n {cc : ByteArray} {own : String} {nL pc : Nat} {ini : Bool} {j : Fin 4} {i : Nat} (hd : decode cc pc = .ok (.aload_n j, 1)) (hi : (j : Nat) = i) : pm_okF cc own nL ini pc (s_al i (pc + 1)) := by
  intro p l e R s m args below meth c D aC B b Q C hR1 hR2 lv st w σ' hf k
  simp only [s_al] at hf
  split at hf
  · rename_i x he
    obtain rfl := Option.some.inj hf
    intro H locs ls cells slots h1 h2 h3 h4 h5 h6
    exact lv_aload_n C.1 C.2.1 hd hi (pm_loc h1 he) (k H locs ls cells slots h1 h2 h3 h4 h5 h6)
  · rename_i x he
    obtain rfl := Option.some.inj hf
    intro H locs ls cells slots h1 h2 h3 h4 h5 h6
    have hg := pm_loc h1 he
    have k2 := k H locs ls cells slots h1 h2 h3 h4 h5 h6
    simp only [List.map_cons, pm_v] at hg k2
    cases hb : b x with
    | none =>
      rw [hb] at hg k2
      exact lv_aload_nN C.1 C.2.1 hd hi hg k2
    | some q =>
      rw [hb] at hg k2
      exact lv_aload_n C.1 C.2.1 hd hi hg k2
  · cases hf
theorem k_aload {cc : ByteArray} {own : String} {nL pc : Nat} {ini : Bool} {i : Nat} (hd : decode cc pc = .ok (.aload i, 2)) : pm_okF cc own nL ini pc (s_al i (pc + 2)) := by
  intro p l e R s m args below meth c D aC B b Q C hR1 hR2 lv st w σ' hf k
  simp only [s_al] at hf
  split at hf
  · rename_i x he
    obtain rfl := Option.some.inj hf
    intro H locs ls cells slots h1 h2 h3 h4 h5 h6
    exact lv_aload C.1 C.2.1 hd (pm_loc h1 he) (k H locs ls cells slots h1 h2 h3 h4 h5 h6)
  · rename_i x he
    obtain rfl := Option.some.inj hf
    intro H locs ls cells slots h1 h2 h3 h4 h5 h6
    have hg := pm_loc h1 he
    have k2 := k H locs ls cells slots h1 h2 h3 h4 h5 h6
    simp only [List.map_cons, pm_v] at hg k2
    cases hb : b x with
    | none =>
      rw [hb] at hg k2
      exact lv_aloadN C.1 C.2.1 hd hg k2
    | some q =>
      rw [hb] at hg k2
      exact lv_aload C.1 C.2.1 hd hg k2
  · cases hf
noncomputable def s_is (i n : Nat) : pm_S → Option pm_S := fun σ => match σ.2.2.1 with
  | .int x :: st => some (n, pm_put1 i (.int x) σ.2.1, st, σ.2.2.2)
  | _ => none
theorem k_istore_n {cc : ByteArray} {own : String} {nL pc : Nat} {ini : Bool} {j : Fin 4} {i : Nat} (hd : decode cc pc = .ok (.istore_n j, 1)) (hi : (j : Nat) = i) (hn : i < nL) : pm_okF cc own nL ini pc (s_is i (pc + 1)) := by
  intro p l e R s m args below meth c D aC B b Q C hR1 hR2 lv st w σ' hf k
  simp only [s_is] at hf
  split at hf
  · rename_i x st
    obtain rfl := Option.some.inj hf
    intro H locs ls cells slots h1 h2 h3 h4 h5 h6
    exact lv_istore_n C.1 C.2.1 hd hi h1 hn (pm_put1_map B b i (.int x) lv) (fun ls' h1' => k H locs ls' cells slots h1' h2 h3 h4 h5 h6)
  · cases hf
theorem k_istore {cc : ByteArray} {own : String} {nL pc : Nat} {ini : Bool} {i : Nat} (hd : decode cc pc = .ok (.istore i, 2)) (hn : i < nL) : pm_okF cc own nL ini pc (s_is i (pc + 2)) := by
  intro p l e R s m args below meth c D aC B b Q C hR1 hR2 lv st w σ' hf k
  simp only [s_is] at hf
  split at hf
  · rename_i x st
    obtain rfl := Option.some.inj hf
    intro H locs ls cells slots h1 h2 h3 h4 h5 h6
    exact lv_istore C.1 C.2.1 hd h1 hn (pm_put1_map B b i (.int x) lv) (fun ls' h1' => k H locs ls' cells slots h1' h2 h3 h4 h5 h6)
  · cases hf
noncomputable def s_ls (i n : Nat) : pm_S → Option pm_S := fun σ => match σ.2.2.1 with
  | .long x :: st => some (n, pm_put2 i (.long x) σ.2.1, st, σ.2.2.2)
  | _ => none
theorem k_lstore_n {cc : ByteArray} {own : String} {nL pc : Nat} {ini : Bool} {j : Fin 4} {i : Nat} (hd : decode cc pc = .ok (.lstore_n j, 1)) (hi : (j : Nat) = i) (hn : i + 1 < nL) : pm_okF cc own nL ini pc (s_ls i (pc + 1)) := by
  intro p l e R s m args below meth c D aC B b Q C hR1 hR2 lv st w σ' hf k
  simp only [s_ls] at hf
  split at hf
  · rename_i x st
    obtain rfl := Option.some.inj hf
    intro H locs ls cells slots h1 h2 h3 h4 h5 h6
    exact lv_lstore_n C.1 C.2.1 hd hi h1 hn (pm_put2_map B b i (.long x) lv) (fun ls' h1' => k H locs ls' cells slots h1' h2 h3 h4 h5 h6)
  · cases hf
theorem k_lstore {cc : ByteArray} {own : String} {nL pc : Nat} {ini : Bool} {i : Nat} (hd : decode cc pc = .ok (.lstore i, 2)) (hn : i + 1 < nL) : pm_okF cc own nL ini pc (s_ls i (pc + 2)) := by
  intro p l e R s m args below meth c D aC B b Q C hR1 hR2 lv st w σ' hf k
  simp only [s_ls] at hf
  split at hf
  · rename_i x st
    obtain rfl := Option.some.inj hf
    intro H locs ls cells slots h1 h2 h3 h4 h5 h6
    exact lv_lstore C.1 C.2.1 hd h1 hn (pm_put2_map B b i (.long x) lv) (fun ls' h1' => k H locs ls' cells slots h1' h2 h3 h4 h5 h6)
  · cases hf
noncomputable def s_as (i n : Nat) : pm_S → Option pm_S := fun σ => match σ.2.2.1 with
  | .ref x :: st => some (n, pm_put1 i (.ref x) σ.2.1, st, σ.2.2.2)
  | _ => none
theorem k_astore_n {cc : ByteArray} {own : String} {nL pc : Nat} {ini : Bool} {j : Fin 4} {i : Nat} (hd : decode cc pc = .ok (.astore_n j, 1)) (hi : (j : Nat) = i) (hn : i < nL) : pm_okF cc own nL ini pc (s_as i (pc + 1)) := by
  intro p l e R s m args below meth c D aC B b Q C hR1 hR2 lv st w σ' hf k
  simp only [s_as] at hf
  split at hf
  · rename_i x st
    obtain rfl := Option.some.inj hf
    intro H locs ls cells slots h1 h2 h3 h4 h5 h6
    exact lv_astore_n C.1 C.2.1 hd hi h1 hn (pm_put1_map B b i (.ref x) lv) (fun ls' h1' => k H locs ls' cells slots h1' h2 h3 h4 h5 h6)
  · cases hf
theorem k_astore {cc : ByteArray} {own : String} {nL pc : Nat} {ini : Bool} {i : Nat} (hd : decode cc pc = .ok (.astore i, 2)) (hn : i < nL) : pm_okF cc own nL ini pc (s_as i (pc + 2)) := by
  intro p l e R s m args below meth c D aC B b Q C hR1 hR2 lv st w σ' hf k
  simp only [s_as] at hf
  split at hf
  · rename_i x st
    obtain rfl := Option.some.inj hf
    intro H locs ls cells slots h1 h2 h3 h4 h5 h6
    exact lv_astore C.1 C.2.1 hd h1 hn (pm_put1_map B b i (.ref x) lv) (fun ls' h1' => k H locs ls' cells slots h1' h2 h3 h4 h5 h6)
  · cases hf
noncomputable def s_inc (i : Nat) (d : Int32) (n : Nat) : pm_S → Option pm_S := fun σ => match pm_get σ.2.1 i with
  | some (.int x) => some (n, pm_put1 i (.int (x + d)) σ.2.1, σ.2.2.1, σ.2.2.2)
  | _ => none
theorem k_iinc {cc : ByteArray} {own : String} {nL pc : Nat} {ini : Bool} {i : Nat} {n : Int} {d : Int32} (hd : decode cc pc = .ok (.iinc i n, 3)) (hv : Int32.ofInt n = d) (hn : i < nL) : pm_okF cc own nL ini pc (s_inc i d (pc + 3)) := by
  intro p l e R s m args below meth c D aC B b Q C hR1 hR2 lv st w σ' hf k
  subst hv
  simp only [s_inc] at hf
  split at hf
  · rename_i x he
    obtain rfl := Option.some.inj hf
    intro H locs ls cells slots h1 h2 h3 h4 h5 h6
    obtain ⟨q, hq⟩ := List.getElem?_of_mem (List.mem_map.mpr ⟨(i, .int x), pm_get_in he, rfl⟩ : pm_q B b (i, .int x) ∈ lv.map (pm_q B b))
    exact lv_iinc C.1 C.2.1 hd h1 hq rfl hn (pm_put1_map B b i (.int (x + Int32.ofInt n)) lv) (fun ls' h1' => k H locs ls' cells slots h1' h2 h3 h4 h5 h6)
  · cases hf
noncomputable def s_bin (op : Int32 → Int32 → Int32) (n : Nat) : pm_S → Option pm_S := fun σ => match σ.2.2.1 with
  | .int y :: .int x :: st => some (n, σ.2.1, .int (op x y) :: st, σ.2.2.2)
  | _ => none
noncomputable def s_lbin (op : Int64 → Int64 → Int64) (n : Nat) : pm_S → Option pm_S := fun σ => match σ.2.2.1 with
  | .long y :: .long x :: st => some (n, σ.2.1, .long (op x y) :: st, σ.2.2.2)
  | _ => none
noncomputable def s_div (op : Int32 → Int32 → Int32) (n : Nat) : pm_S → Option pm_S := fun σ => match σ.2.2.1 with
  | .int y :: .int x :: st => if y = 0 then none else some (n, σ.2.1, .int (op x y) :: st, σ.2.2.2)
  | _ => none
noncomputable def s_ldiv (op : Int64 → Int64 → Int64) (n : Nat) : pm_S → Option pm_S := fun σ => match σ.2.2.1 with
  | .long y :: .long x :: st => if y = 0 then none else some (n, σ.2.1, .long (op x y) :: st, σ.2.2.2)
  | _ => none
noncomputable def s_lcmp (n : Nat) : pm_S → Option pm_S := fun σ => match σ.2.2.1 with
  | .long y :: .long x :: st => some (n, σ.2.1, .int (lg_cmp x y) :: st, σ.2.2.2)
  | _ => none
noncomputable def s_lsh (op : Int64 → Int32 → Int64) (n : Nat) : pm_S → Option pm_S := fun σ => match σ.2.2.1 with
  | .int y :: .long x :: st => some (n, σ.2.1, .long (op x y) :: st, σ.2.2.2)
  | _ => none
noncomputable def s_un (op : Int32 → Int32) (n : Nat) : pm_S → Option pm_S := fun σ => match σ.2.2.1 with
  | .int x :: st => some (n, σ.2.1, .int (op x) :: st, σ.2.2.2)
  | _ => none
noncomputable def s_lun (op : Int64 → Int64) (n : Nat) : pm_S → Option pm_S := fun σ => match σ.2.2.1 with
  | .long x :: st => some (n, σ.2.1, .long (op x) :: st, σ.2.2.2)
  | _ => none
noncomputable def s_i2l (n : Nat) : pm_S → Option pm_S := fun σ => match σ.2.2.1 with
  | .int x :: st => some (n, σ.2.1, .long x.toInt64 :: st, σ.2.2.2)
  | _ => none
noncomputable def s_l2i (n : Nat) : pm_S → Option pm_S := fun σ => match σ.2.2.1 with
  | .long x :: st => some (n, σ.2.1, .int x.toInt32 :: st, σ.2.2.2)
  | _ => none
theorem k_iadd {cc : ByteArray} {own : String} {nL pc : Nat} {ini : Bool} (hd : decode cc pc = .ok (.iadd, 1)) : pm_okF cc own nL ini pc (s_bin (fun x y => x + y) (pc + 1)) := by
  intro p l e R s m args below meth c D aC B b Q C hR1 hR2 lv st w σ' hf k
  simp only [s_bin] at hf
  split at hf
  · obtain rfl := Option.some.inj hf
    intro H locs ls cells slots h1 h2 h3 h4 h5 h6
    exact lv_iadd C.1 C.2.1 hd (k H locs ls cells slots h1 h2 h3 h4 h5 h6)
  · cases hf
theorem k_isub {cc : ByteArray} {own : String} {nL pc : Nat} {ini : Bool} (hd : decode cc pc = .ok (.isub, 1)) : pm_okF cc own nL ini pc (s_bin (fun x y => x - y) (pc + 1)) := by
  intro p l e R s m args below meth c D aC B b Q C hR1 hR2 lv st w σ' hf k
  simp only [s_bin] at hf
  split at hf
  · obtain rfl := Option.some.inj hf
    intro H locs ls cells slots h1 h2 h3 h4 h5 h6
    exact lv_isub C.1 C.2.1 hd (k H locs ls cells slots h1 h2 h3 h4 h5 h6)
  · cases hf
theorem k_imul {cc : ByteArray} {own : String} {nL pc : Nat} {ini : Bool} (hd : decode cc pc = .ok (.imul, 1)) : pm_okF cc own nL ini pc (s_bin (fun x y => x * y) (pc + 1)) := by
  intro p l e R s m args below meth c D aC B b Q C hR1 hR2 lv st w σ' hf k
  simp only [s_bin] at hf
  split at hf
  · obtain rfl := Option.some.inj hf
    intro H locs ls cells slots h1 h2 h3 h4 h5 h6
    exact lv_imul C.1 C.2.1 hd (k H locs ls cells slots h1 h2 h3 h4 h5 h6)
  · cases hf
theorem k_iand {cc : ByteArray} {own : String} {nL pc : Nat} {ini : Bool} (hd : decode cc pc = .ok (.iand, 1)) : pm_okF cc own nL ini pc (s_bin (fun x y => x &&& y) (pc + 1)) := by
  intro p l e R s m args below meth c D aC B b Q C hR1 hR2 lv st w σ' hf k
  simp only [s_bin] at hf
  split at hf
  · obtain rfl := Option.some.inj hf
    intro H locs ls cells slots h1 h2 h3 h4 h5 h6
    exact lv_iand C.1 C.2.1 hd (k H locs ls cells slots h1 h2 h3 h4 h5 h6)
  · cases hf
theorem k_ior {cc : ByteArray} {own : String} {nL pc : Nat} {ini : Bool} (hd : decode cc pc = .ok (.ior, 1)) : pm_okF cc own nL ini pc (s_bin (fun x y => x ||| y) (pc + 1)) := by
  intro p l e R s m args below meth c D aC B b Q C hR1 hR2 lv st w σ' hf k
  simp only [s_bin] at hf
  split at hf
  · obtain rfl := Option.some.inj hf
    intro H locs ls cells slots h1 h2 h3 h4 h5 h6
    exact lv_ior C.1 C.2.1 hd (k H locs ls cells slots h1 h2 h3 h4 h5 h6)
  · cases hf
theorem k_ixor {cc : ByteArray} {own : String} {nL pc : Nat} {ini : Bool} (hd : decode cc pc = .ok (.ixor, 1)) : pm_okF cc own nL ini pc (s_bin (fun x y => x ^^^ y) (pc + 1)) := by
  intro p l e R s m args below meth c D aC B b Q C hR1 hR2 lv st w σ' hf k
  simp only [s_bin] at hf
  split at hf
  · obtain rfl := Option.some.inj hf
    intro H locs ls cells slots h1 h2 h3 h4 h5 h6
    exact lv_ixor C.1 C.2.1 hd (k H locs ls cells slots h1 h2 h3 h4 h5 h6)
  · cases hf
theorem k_ishl {cc : ByteArray} {own : String} {nL pc : Nat} {ini : Bool} (hd : decode cc pc = .ok (.ishl, 1)) : pm_okF cc own nL ini pc (s_bin (fun x y => x <<< (y &&& 31)) (pc + 1)) := by
  intro p l e R s m args below meth c D aC B b Q C hR1 hR2 lv st w σ' hf k
  simp only [s_bin] at hf
  split at hf
  · obtain rfl := Option.some.inj hf
    intro H locs ls cells slots h1 h2 h3 h4 h5 h6
    exact lv_ishl C.1 C.2.1 hd (k H locs ls cells slots h1 h2 h3 h4 h5 h6)
  · cases hf
theorem k_ishr {cc : ByteArray} {own : String} {nL pc : Nat} {ini : Bool} (hd : decode cc pc = .ok (.ishr, 1)) : pm_okF cc own nL ini pc (s_bin (fun x y => x >>> (y &&& 31)) (pc + 1)) := by
  intro p l e R s m args below meth c D aC B b Q C hR1 hR2 lv st w σ' hf k
  simp only [s_bin] at hf
  split at hf
  · obtain rfl := Option.some.inj hf
    intro H locs ls cells slots h1 h2 h3 h4 h5 h6
    exact lv_ishr C.1 C.2.1 hd (k H locs ls cells slots h1 h2 h3 h4 h5 h6)
  · cases hf
theorem k_ladd {cc : ByteArray} {own : String} {nL pc : Nat} {ini : Bool} (hd : decode cc pc = .ok (.ladd, 1)) : pm_okF cc own nL ini pc (s_lbin (fun x y => x + y) (pc + 1)) := by
  intro p l e R s m args below meth c D aC B b Q C hR1 hR2 lv st w σ' hf k
  simp only [s_lbin] at hf
  split at hf
  · obtain rfl := Option.some.inj hf
    intro H locs ls cells slots h1 h2 h3 h4 h5 h6
    exact lv_ladd C.1 C.2.1 hd (k H locs ls cells slots h1 h2 h3 h4 h5 h6)
  · cases hf
theorem k_lsub {cc : ByteArray} {own : String} {nL pc : Nat} {ini : Bool} (hd : decode cc pc = .ok (.lsub, 1)) : pm_okF cc own nL ini pc (s_lbin (fun x y => x - y) (pc + 1)) := by
  intro p l e R s m args below meth c D aC B b Q C hR1 hR2 lv st w σ' hf k
  simp only [s_lbin] at hf
  split at hf
  · obtain rfl := Option.some.inj hf
    intro H locs ls cells slots h1 h2 h3 h4 h5 h6
    exact lv_lsub C.1 C.2.1 hd (k H locs ls cells slots h1 h2 h3 h4 h5 h6)
  · cases hf
theorem k_lmul {cc : ByteArray} {own : String} {nL pc : Nat} {ini : Bool} (hd : decode cc pc = .ok (.lmul, 1)) : pm_okF cc own nL ini pc (s_lbin (fun x y => x * y) (pc + 1)) := by
  intro p l e R s m args below meth c D aC B b Q C hR1 hR2 lv st w σ' hf k
  simp only [s_lbin] at hf
  split at hf
  · obtain rfl := Option.some.inj hf
    intro H locs ls cells slots h1 h2 h3 h4 h5 h6
    exact lv_lmul C.1 C.2.1 hd (k H locs ls cells slots h1 h2 h3 h4 h5 h6)
  · cases hf
theorem k_land {cc : ByteArray} {own : String} {nL pc : Nat} {ini : Bool} (hd : decode cc pc = .ok (.land, 1)) : pm_okF cc own nL ini pc (s_lbin (fun x y => x &&& y) (pc + 1)) := by
  intro p l e R s m args below meth c D aC B b Q C hR1 hR2 lv st w σ' hf k
  simp only [s_lbin] at hf
  split at hf
  · obtain rfl := Option.some.inj hf
    intro H locs ls cells slots h1 h2 h3 h4 h5 h6
    exact lv_land C.1 C.2.1 hd (k H locs ls cells slots h1 h2 h3 h4 h5 h6)
  · cases hf
theorem k_lor {cc : ByteArray} {own : String} {nL pc : Nat} {ini : Bool} (hd : decode cc pc = .ok (.lor, 1)) : pm_okF cc own nL ini pc (s_lbin (fun x y => x ||| y) (pc + 1)) := by
  intro p l e R s m args below meth c D aC B b Q C hR1 hR2 lv st w σ' hf k
  simp only [s_lbin] at hf
  split at hf
  · obtain rfl := Option.some.inj hf
    intro H locs ls cells slots h1 h2 h3 h4 h5 h6
    exact lv_lor C.1 C.2.1 hd (k H locs ls cells slots h1 h2 h3 h4 h5 h6)
  · cases hf
theorem k_lcmp {cc : ByteArray} {own : String} {nL pc : Nat} {ini : Bool} (hd : decode cc pc = .ok (.lcmp, 1)) : pm_okF cc own nL ini pc (s_lcmp (pc + 1)) := by
  intro p l e R s m args below meth c D aC B b Q C hR1 hR2 lv st w σ' hf k
  simp only [s_lcmp] at hf
  split at hf
  · obtain rfl := Option.some.inj hf
    intro H locs ls cells slots h1 h2 h3 h4 h5 h6
    exact W.lcmp C.1 C.2.1 hd (k H locs ls cells slots h1 h2 h3 h4 h5 h6)
  · cases hf
theorem k_lneg {cc : ByteArray} {own : String} {nL pc : Nat} {ini : Bool} (hd : decode cc pc = .ok (.lneg, 1)) : pm_okF cc own nL ini pc (s_lun (fun x => -x) (pc + 1)) := by
  intro p l e R s m args below meth c D aC B b Q C hR1 hR2 lv st w σ' hf k
  simp only [s_lun] at hf
  split at hf
  · obtain rfl := Option.some.inj hf
    intro H locs ls cells slots h1 h2 h3 h4 h5 h6
    exact lv_lneg C.1 C.2.1 hd (k H locs ls cells slots h1 h2 h3 h4 h5 h6)
  · cases hf
theorem k_ineg {cc : ByteArray} {own : String} {nL pc : Nat} {ini : Bool} (hd : decode cc pc = .ok (.ineg, 1)) : pm_okF cc own nL ini pc (s_un (fun x => -x) (pc + 1)) := by
  intro p l e R s m args below meth c D aC B b Q C hR1 hR2 lv st w σ' hf k
  simp only [s_un] at hf
  split at hf
  · obtain rfl := Option.some.inj hf
    intro H locs ls cells slots h1 h2 h3 h4 h5 h6
    exact lv_ineg C.1 C.2.1 hd (k H locs ls cells slots h1 h2 h3 h4 h5 h6)
  · cases hf
theorem k_i2b {cc : ByteArray} {own : String} {nL pc : Nat} {ini : Bool} (hd : decode cc pc = .ok (.i2b, 1)) : pm_okF cc own nL ini pc (s_un (fun x => x.toInt8.toInt32) (pc + 1)) := by
  intro p l e R s m args below meth c D aC B b Q C hR1 hR2 lv st w σ' hf k
  simp only [s_un] at hf
  split at hf
  · obtain rfl := Option.some.inj hf
    intro H locs ls cells slots h1 h2 h3 h4 h5 h6
    exact lv_i2b C.1 C.2.1 hd rfl (k H locs ls cells slots h1 h2 h3 h4 h5 h6)
  · cases hf
theorem k_i2s {cc : ByteArray} {own : String} {nL pc : Nat} {ini : Bool} (hd : decode cc pc = .ok (.i2s, 1)) : pm_okF cc own nL ini pc (s_un (fun x => x.toInt16.toInt32) (pc + 1)) := by
  intro p l e R s m args below meth c D aC B b Q C hR1 hR2 lv st w σ' hf k
  simp only [s_un] at hf
  split at hf
  · obtain rfl := Option.some.inj hf
    intro H locs ls cells slots h1 h2 h3 h4 h5 h6
    exact lv_i2s C.1 C.2.1 hd rfl (k H locs ls cells slots h1 h2 h3 h4 h5 h6)
  · cases hf
theorem k_i2l {cc : ByteArray} {own : String} {nL pc : Nat} {ini : Bool} (hd : decode cc pc = .ok (.i2l, 1)) : pm_okF cc own nL ini pc (s_i2l (pc + 1)) := by
  intro p l e R s m args below meth c D aC B b Q C hR1 hR2 lv st w σ' hf k
  simp only [s_i2l] at hf
  split at hf
  · obtain rfl := Option.some.inj hf
    intro H locs ls cells slots h1 h2 h3 h4 h5 h6
    exact lv_i2l C.1 C.2.1 hd rfl (k H locs ls cells slots h1 h2 h3 h4 h5 h6)
  · cases hf
theorem k_l2i {cc : ByteArray} {own : String} {nL pc : Nat} {ini : Bool} (hd : decode cc pc = .ok (.l2i, 1)) : pm_okF cc own nL ini pc (s_l2i (pc + 1)) := by
  intro p l e R s m args below meth c D aC B b Q C hR1 hR2 lv st w σ' hf k
  simp only [s_l2i] at hf
  split at hf
  · obtain rfl := Option.some.inj hf
    intro H locs ls cells slots h1 h2 h3 h4 h5 h6
    exact lv_l2i C.1 C.2.1 hd rfl (k H locs ls cells slots h1 h2 h3 h4 h5 h6)
  · cases hf
theorem k_lshl {cc : ByteArray} {own : String} {nL pc : Nat} {ini : Bool} (hd : decode cc pc = .ok (.lshl, 1)) : pm_okF cc own nL ini pc (s_lsh (fun x y => x <<< (y.toInt64 &&& 63)) (pc + 1)) := by
  intro p l e R s m args below meth c D aC B b Q C hR1 hR2 lv st w σ' hf k
  simp only [s_lsh] at hf
  split at hf
  · obtain rfl := Option.some.inj hf
    intro H locs ls cells slots h1 h2 h3 h4 h5 h6
    exact lv_lshl C.1 C.2.1 hd rfl (k H locs ls cells slots h1 h2 h3 h4 h5 h6)
  · cases hf
theorem k_idiv {cc : ByteArray} {own : String} {nL pc : Nat} {ini : Bool} (hd : decode cc pc = .ok (.idiv, 1)) : pm_okF cc own nL ini pc (s_div (fun x y => x / y) (pc + 1)) := by
  intro p l e R s m args below meth c D aC B b Q C hR1 hR2 lv st w σ' hf k
  simp only [s_div] at hf
  split at hf
  · split at hf
    · cases hf
    · rename_i hy
      obtain rfl := Option.some.inj hf
      intro H locs ls cells slots h1 h2 h3 h4 h5 h6
      exact lv_idiv C.1 C.2.1 hd hy (k H locs ls cells slots h1 h2 h3 h4 h5 h6)
  · cases hf
theorem k_irem {cc : ByteArray} {own : String} {nL pc : Nat} {ini : Bool} (hd : decode cc pc = .ok (.irem, 1)) : pm_okF cc own nL ini pc (s_div (fun x y => x - x / y * y) (pc + 1)) := by
  intro p l e R s m args below meth c D aC B b Q C hR1 hR2 lv st w σ' hf k
  simp only [s_div] at hf
  split at hf
  · split at hf
    · cases hf
    · rename_i hy
      obtain rfl := Option.some.inj hf
      intro H locs ls cells slots h1 h2 h3 h4 h5 h6
      exact lv_irem C.1 C.2.1 hd hy (k H locs ls cells slots h1 h2 h3 h4 h5 h6)
  · cases hf
theorem k_ldiv {cc : ByteArray} {own : String} {nL pc : Nat} {ini : Bool} (hd : decode cc pc = .ok (.ldiv, 1)) : pm_okF cc own nL ini pc (s_ldiv (fun x y => x / y) (pc + 1)) := by
  intro p l e R s m args below meth c D aC B b Q C hR1 hR2 lv st w σ' hf k
  simp only [s_ldiv] at hf
  split at hf
  · split at hf
    · cases hf
    · rename_i hy
      obtain rfl := Option.some.inj hf
      intro H locs ls cells slots h1 h2 h3 h4 h5 h6
      exact lv_ldiv C.1 C.2.1 hd hy (k H locs ls cells slots h1 h2 h3 h4 h5 h6)
  · cases hf
theorem k_lrem {cc : ByteArray} {own : String} {nL pc : Nat} {ini : Bool} (hd : decode cc pc = .ok (.lrem, 1)) : pm_okF cc own nL ini pc (s_ldiv (fun x y => x - x / y * y) (pc + 1)) := by
  intro p l e R s m args below meth c D aC B b Q C hR1 hR2 lv st w σ' hf k
  simp only [s_ldiv] at hf
  split at hf
  · split at hf
    · cases hf
    · rename_i hy
      obtain rfl := Option.some.inj hf
      intro H locs ls cells slots h1 h2 h3 h4 h5 h6
      exact lv_lrem C.1 C.2.1 hd hy (k H locs ls cells slots h1 h2 h3 h4 h5 h6)
  · cases hf
noncomputable def s_if (q : Int32 → Bool) (t n : Nat) : pm_S → Option pm_S := fun σ => match σ.2.2.1 with
  | .int x :: st => some (bif q x then t else n, σ.2.1, st, σ.2.2.2)
  | _ => none
noncomputable def s_icmp (q : Int32 → Int32 → Bool) (t n : Nat) : pm_S → Option pm_S := fun σ => match σ.2.2.1 with
  | .int y :: .int x :: st => some (bif q x y then t else n, σ.2.1, st, σ.2.2.2)
  | _ => none
noncomputable def s_goto (t : Nat) : pm_S → Option pm_S := fun σ => some (t, σ.2.1, σ.2.2.1, σ.2.2.2)
theorem k_goto {cc : ByteArray} {own : String} {nL pc : Nat} {ini : Bool} {off : Int} {t : Nat} (hd : decode cc pc = .ok (.goto off, 3)) (ht : (pc : Int) + off = (t : Int)) : pm_okF cc own nL ini pc (s_goto t) := by
  intro p l e R s m args below meth c D aC B b Q C hR1 hR2 lv st w σ' hf k
  obtain rfl := Option.some.inj hf
  intro H locs ls cells slots h1 h2 h3 h4 h5 h6
  exact lv_goto C.1 C.2.1 hd ht (k H locs ls cells slots h1 h2 h3 h4 h5 h6)
theorem k_if_eq {cc : ByteArray} {own : String} {nL pc : Nat} {ini : Bool} {off : Int} {t : Nat} (hd : decode cc pc = .ok (.ifCond .eq off, 3)) (ht : (pc : Int) + off = (t : Int)) : pm_okF cc own nL ini pc (s_if (fun x => decide (x = 0)) t (pc + 3)) := by
  intro p l e R s m args below meth c D aC B b Q C hR1 hR2 lv st w σ' hf k
  simp only [s_if] at hf
  split at hf
  · obtain rfl := Option.some.inj hf
    intro H locs ls cells slots h1 h2 h3 h4 h5 h6
    refine lv_if_eq C.1 C.2.1 hd ht (fun c0 => ?_) (fun c0 => ?_)
    · have k2 := (k H locs ls cells slots h1 h2 h3 h4 h5 h6)
      rw [show ∀ z : Bool, z = true → (bif z then t else pc + 3) = t from fun z hz => by rw [hz]; rfl] at k2
      · exact k2
      · exact decide_eq_true c0
    · have k2 := (k H locs ls cells slots h1 h2 h3 h4 h5 h6)
      rw [show ∀ z : Bool, z = false → (bif z then t else pc + 3) = pc + 3 from fun z hz => by rw [hz]; rfl] at k2
      · exact k2
      · exact decide_eq_false c0
  · cases hf
theorem k_icmp_eq {cc : ByteArray} {own : String} {nL pc : Nat} {ini : Bool} {off : Int} {t : Nat} (hd : decode cc pc = .ok (.if_icmp .eq off, 3)) (ht : (pc : Int) + off = (t : Int)) : pm_okF cc own nL ini pc (s_icmp (fun x y => decide (x = y)) t (pc + 3)) := by
  intro p l e R s m args below meth c D aC B b Q C hR1 hR2 lv st w σ' hf k
  simp only [s_icmp] at hf
  split at hf
  · obtain rfl := Option.some.inj hf
    intro H locs ls cells slots h1 h2 h3 h4 h5 h6
    refine lv_icmp_eq C.1 C.2.1 hd ht (fun c0 => ?_) (fun c0 => ?_)
    · have k2 := (k H locs ls cells slots h1 h2 h3 h4 h5 h6)
      rw [show ∀ z : Bool, z = true → (bif z then t else pc + 3) = t from fun z hz => by rw [hz]; rfl] at k2
      · exact k2
      · exact decide_eq_true c0
    · have k2 := (k H locs ls cells slots h1 h2 h3 h4 h5 h6)
      rw [show ∀ z : Bool, z = false → (bif z then t else pc + 3) = pc + 3 from fun z hz => by rw [hz]; rfl] at k2
      · exact k2
      · exact decide_eq_false c0
  · cases hf
theorem k_if_ne {cc : ByteArray} {own : String} {nL pc : Nat} {ini : Bool} {off : Int} {t : Nat} (hd : decode cc pc = .ok (.ifCond .ne off, 3)) (ht : (pc : Int) + off = (t : Int)) : pm_okF cc own nL ini pc (s_if (fun x => decide (¬ x = 0)) t (pc + 3)) := by
  intro p l e R s m args below meth c D aC B b Q C hR1 hR2 lv st w σ' hf k
  simp only [s_if] at hf
  split at hf
  · obtain rfl := Option.some.inj hf
    intro H locs ls cells slots h1 h2 h3 h4 h5 h6
    refine lv_if_ne C.1 C.2.1 hd ht (fun c0 => ?_) (fun c0 => ?_)
    · have k2 := (k H locs ls cells slots h1 h2 h3 h4 h5 h6)
      rw [show ∀ z : Bool, z = true → (bif z then t else pc + 3) = t from fun z hz => by rw [hz]; rfl] at k2
      · exact k2
      · exact decide_eq_true c0
    · have k2 := (k H locs ls cells slots h1 h2 h3 h4 h5 h6)
      rw [show ∀ z : Bool, z = false → (bif z then t else pc + 3) = pc + 3 from fun z hz => by rw [hz]; rfl] at k2
      · exact k2
      · exact decide_eq_false (fun h => h c0)
  · cases hf
theorem k_icmp_ne {cc : ByteArray} {own : String} {nL pc : Nat} {ini : Bool} {off : Int} {t : Nat} (hd : decode cc pc = .ok (.if_icmp .ne off, 3)) (ht : (pc : Int) + off = (t : Int)) : pm_okF cc own nL ini pc (s_icmp (fun x y => decide (¬ x = y)) t (pc + 3)) := by
  intro p l e R s m args below meth c D aC B b Q C hR1 hR2 lv st w σ' hf k
  simp only [s_icmp] at hf
  split at hf
  · obtain rfl := Option.some.inj hf
    intro H locs ls cells slots h1 h2 h3 h4 h5 h6
    refine lv_icmp_ne C.1 C.2.1 hd ht (fun c0 => ?_) (fun c0 => ?_)
    · have k2 := (k H locs ls cells slots h1 h2 h3 h4 h5 h6)
      rw [show ∀ z : Bool, z = true → (bif z then t else pc + 3) = t from fun z hz => by rw [hz]; rfl] at k2
      · exact k2
      · exact decide_eq_true c0
    · have k2 := (k H locs ls cells slots h1 h2 h3 h4 h5 h6)
      rw [show ∀ z : Bool, z = false → (bif z then t else pc + 3) = pc + 3 from fun z hz => by rw [hz]; rfl] at k2
      · exact k2
      · exact decide_eq_false (fun h => h c0)
  · cases hf
theorem k_if_lt {cc : ByteArray} {own : String} {nL pc : Nat} {ini : Bool} {off : Int} {t : Nat} (hd : decode cc pc = .ok (.ifCond .lt off, 3)) (ht : (pc : Int) + off = (t : Int)) : pm_okF cc own nL ini pc (s_if (fun x => decide (x < 0)) t (pc + 3)) := by
  intro p l e R s m args below meth c D aC B b Q C hR1 hR2 lv st w σ' hf k
  simp only [s_if] at hf
  split at hf
  · obtain rfl := Option.some.inj hf
    intro H locs ls cells slots h1 h2 h3 h4 h5 h6
    refine lv_if_lt C.1 C.2.1 hd ht (fun c0 => ?_) (fun c0 => ?_)
    · have k2 := (k H locs ls cells slots h1 h2 h3 h4 h5 h6)
      rw [show ∀ z : Bool, z = true → (bif z then t else pc + 3) = t from fun z hz => by rw [hz]; rfl] at k2
      · exact k2
      · exact decide_eq_true c0
    · have k2 := (k H locs ls cells slots h1 h2 h3 h4 h5 h6)
      rw [show ∀ z : Bool, z = false → (bif z then t else pc + 3) = pc + 3 from fun z hz => by rw [hz]; rfl] at k2
      · exact k2
      · exact decide_eq_false c0
  · cases hf
theorem k_icmp_lt {cc : ByteArray} {own : String} {nL pc : Nat} {ini : Bool} {off : Int} {t : Nat} (hd : decode cc pc = .ok (.if_icmp .lt off, 3)) (ht : (pc : Int) + off = (t : Int)) : pm_okF cc own nL ini pc (s_icmp (fun x y => decide (x < y)) t (pc + 3)) := by
  intro p l e R s m args below meth c D aC B b Q C hR1 hR2 lv st w σ' hf k
  simp only [s_icmp] at hf
  split at hf
  · obtain rfl := Option.some.inj hf
    intro H locs ls cells slots h1 h2 h3 h4 h5 h6
    refine lv_icmp_lt C.1 C.2.1 hd ht (fun c0 => ?_) (fun c0 => ?_)
    · have k2 := (k H locs ls cells slots h1 h2 h3 h4 h5 h6)
      rw [show ∀ z : Bool, z = true → (bif z then t else pc + 3) = t from fun z hz => by rw [hz]; rfl] at k2
      · exact k2
      · exact decide_eq_true c0
    · have k2 := (k H locs ls cells slots h1 h2 h3 h4 h5 h6)
      rw [show ∀ z : Bool, z = false → (bif z then t else pc + 3) = pc + 3 from fun z hz => by rw [hz]; rfl] at k2
      · exact k2
      · exact decide_eq_false c0
  · cases hf
theorem k_if_ge {cc : ByteArray} {own : String} {nL pc : Nat} {ini : Bool} {off : Int} {t : Nat} (hd : decode cc pc = .ok (.ifCond .ge off, 3)) (ht : (pc : Int) + off = (t : Int)) : pm_okF cc own nL ini pc (s_if (fun x => decide (0 ≤ x)) t (pc + 3)) := by
  intro p l e R s m args below meth c D aC B b Q C hR1 hR2 lv st w σ' hf k
  simp only [s_if] at hf
  split at hf
  · obtain rfl := Option.some.inj hf
    intro H locs ls cells slots h1 h2 h3 h4 h5 h6
    refine lv_if_ge C.1 C.2.1 hd ht (fun c0 => ?_) (fun c0 => ?_)
    · have k2 := (k H locs ls cells slots h1 h2 h3 h4 h5 h6)
      rw [show ∀ z : Bool, z = true → (bif z then t else pc + 3) = t from fun z hz => by rw [hz]; rfl] at k2
      · exact k2
      · exact decide_eq_true c0
    · have k2 := (k H locs ls cells slots h1 h2 h3 h4 h5 h6)
      rw [show ∀ z : Bool, z = false → (bif z then t else pc + 3) = pc + 3 from fun z hz => by rw [hz]; rfl] at k2
      · exact k2
      · exact decide_eq_false c0
  · cases hf
theorem k_icmp_ge {cc : ByteArray} {own : String} {nL pc : Nat} {ini : Bool} {off : Int} {t : Nat} (hd : decode cc pc = .ok (.if_icmp .ge off, 3)) (ht : (pc : Int) + off = (t : Int)) : pm_okF cc own nL ini pc (s_icmp (fun x y => decide (y ≤ x)) t (pc + 3)) := by
  intro p l e R s m args below meth c D aC B b Q C hR1 hR2 lv st w σ' hf k
  simp only [s_icmp] at hf
  split at hf
  · obtain rfl := Option.some.inj hf
    intro H locs ls cells slots h1 h2 h3 h4 h5 h6
    refine lv_icmp_ge C.1 C.2.1 hd ht (fun c0 => ?_) (fun c0 => ?_)
    · have k2 := (k H locs ls cells slots h1 h2 h3 h4 h5 h6)
      rw [show ∀ z : Bool, z = true → (bif z then t else pc + 3) = t from fun z hz => by rw [hz]; rfl] at k2
      · exact k2
      · exact decide_eq_true c0
    · have k2 := (k H locs ls cells slots h1 h2 h3 h4 h5 h6)
      rw [show ∀ z : Bool, z = false → (bif z then t else pc + 3) = pc + 3 from fun z hz => by rw [hz]; rfl] at k2
      · exact k2
      · exact decide_eq_false c0
  · cases hf
theorem k_if_gt {cc : ByteArray} {own : String} {nL pc : Nat} {ini : Bool} {off : Int} {t : Nat} (hd : decode cc pc = .ok (.ifCond .gt off, 3)) (ht : (pc : Int) + off = (t : Int)) : pm_okF cc own nL ini pc (s_if (fun x => decide (0 < x)) t (pc + 3)) := by
  intro p l e R s m args below meth c D aC B b Q C hR1 hR2 lv st w σ' hf k
  simp only [s_if] at hf
  split at hf
  · obtain rfl := Option.some.inj hf
    intro H locs ls cells slots h1 h2 h3 h4 h5 h6
    refine lv_if_gt C.1 C.2.1 hd ht (fun c0 => ?_) (fun c0 => ?_)
    · have k2 := (k H locs ls cells slots h1 h2 h3 h4 h5 h6)
      rw [show ∀ z : Bool, z = true → (bif z then t else pc + 3) = t from fun z hz => by rw [hz]; rfl] at k2
      · exact k2
      · exact decide_eq_true c0
    · have k2 := (k H locs ls cells slots h1 h2 h3 h4 h5 h6)
      rw [show ∀ z : Bool, z = false → (bif z then t else pc + 3) = pc + 3 from fun z hz => by rw [hz]; rfl] at k2
      · exact k2
      · exact decide_eq_false c0
  · cases hf
theorem k_icmp_gt {cc : ByteArray} {own : String} {nL pc : Nat} {ini : Bool} {off : Int} {t : Nat} (hd : decode cc pc = .ok (.if_icmp .gt off, 3)) (ht : (pc : Int) + off = (t : Int)) : pm_okF cc own nL ini pc (s_icmp (fun x y => decide (y < x)) t (pc + 3)) := by
  intro p l e R s m args below meth c D aC B b Q C hR1 hR2 lv st w σ' hf k
  simp only [s_icmp] at hf
  split at hf
  · obtain rfl := Option.some.inj hf
    intro H locs ls cells slots h1 h2 h3 h4 h5 h6
    refine lv_icmp_gt C.1 C.2.1 hd ht (fun c0 => ?_) (fun c0 => ?_)
    · have k2 := (k H locs ls cells slots h1 h2 h3 h4 h5 h6)
      rw [show ∀ z : Bool, z = true → (bif z then t else pc + 3) = t from fun z hz => by rw [hz]; rfl] at k2
      · exact k2
      · exact decide_eq_true c0
    · have k2 := (k H locs ls cells slots h1 h2 h3 h4 h5 h6)
      rw [show ∀ z : Bool, z = false → (bif z then t else pc + 3) = pc + 3 from fun z hz => by rw [hz]; rfl] at k2
      · exact k2
      · exact decide_eq_false c0
  · cases hf
theorem k_if_le {cc : ByteArray} {own : String} {nL pc : Nat} {ini : Bool} {off : Int} {t : Nat} (hd : decode cc pc = .ok (.ifCond .le off, 3)) (ht : (pc : Int) + off = (t : Int)) : pm_okF cc own nL ini pc (s_if (fun x => decide (x ≤ 0)) t (pc + 3)) := by
  intro p l e R s m args below meth c D aC B b Q C hR1 hR2 lv st w σ' hf k
  simp only [s_if] at hf
  split at hf
  · obtain rfl := Option.some.inj hf
    intro H locs ls cells slots h1 h2 h3 h4 h5 h6
    refine lv_if_le C.1 C.2.1 hd ht (fun c0 => ?_) (fun c0 => ?_)
    · have k2 := (k H locs ls cells slots h1 h2 h3 h4 h5 h6)
      rw [show ∀ z : Bool, z = true → (bif z then t else pc + 3) = t from fun z hz => by rw [hz]; rfl] at k2
      · exact k2
      · exact decide_eq_true c0
    · have k2 := (k H locs ls cells slots h1 h2 h3 h4 h5 h6)
      rw [show ∀ z : Bool, z = false → (bif z then t else pc + 3) = pc + 3 from fun z hz => by rw [hz]; rfl] at k2
      · exact k2
      · exact decide_eq_false c0
  · cases hf
theorem k_icmp_le {cc : ByteArray} {own : String} {nL pc : Nat} {ini : Bool} {off : Int} {t : Nat} (hd : decode cc pc = .ok (.if_icmp .le off, 3)) (ht : (pc : Int) + off = (t : Int)) : pm_okF cc own nL ini pc (s_icmp (fun x y => decide (x ≤ y)) t (pc + 3)) := by
  intro p l e R s m args below meth c D aC B b Q C hR1 hR2 lv st w σ' hf k
  simp only [s_icmp] at hf
  split at hf
  · obtain rfl := Option.some.inj hf
    intro H locs ls cells slots h1 h2 h3 h4 h5 h6
    refine lv_icmp_le C.1 C.2.1 hd ht (fun c0 => ?_) (fun c0 => ?_)
    · have k2 := (k H locs ls cells slots h1 h2 h3 h4 h5 h6)
      rw [show ∀ z : Bool, z = true → (bif z then t else pc + 3) = t from fun z hz => by rw [hz]; rfl] at k2
      · exact k2
      · exact decide_eq_true c0
    · have k2 := (k H locs ls cells slots h1 h2 h3 h4 h5 h6)
      rw [show ∀ z : Bool, z = false → (bif z then t else pc + 3) = pc + 3 from fun z hz => by rw [hz]; rfl] at k2
      · exact k2
      · exact decide_eq_false c0
  · cases hf
noncomputable def s_dup (n : Nat) : pm_S → Option pm_S := fun σ => match σ.2.2.1 with
  | x :: st => bif Nat.beq x.category 1 then some (n, σ.2.1, x :: x :: st, σ.2.2.2) else none
  | _ => none
theorem k_dup {cc : ByteArray} {own : String} {nL pc : Nat} {ini : Bool} (hd : decode cc pc = .ok (.dup, 1)) : pm_okF cc own nL ini pc (s_dup (pc + 1)) := by
  intro p l e R s m args below meth c D aC B b Q C hR1 hR2 lv st w σ' hf k
  simp only [s_dup] at hf
  split at hf
  · rename_i x st
    cases hb : Nat.beq x.category 1 with
    | false => rw [hb] at hf; cases hf
    | true =>
      rw [hb] at hf
      obtain rfl := Option.some.inj hf
      intro H locs ls cells slots h1 h2 h3 h4 h5 h6
      exact lv_dup C.1 C.2.1 hd (by rw [pm_v_cat]; exact Nat.eq_of_beq_eq_true hb) (k H locs ls cells slots h1 h2 h3 h4 h5 h6)
  · cases hf
noncomputable def s_pop (n : Nat) : pm_S → Option pm_S := fun σ => match σ.2.2.1 with
  | x :: st => bif Nat.beq x.category 1 then some (n, σ.2.1, st, σ.2.2.2) else none
  | _ => none
theorem k_pop {cc : ByteArray} {own : String} {nL pc : Nat} {ini : Bool} (hd : decode cc pc = .ok (.pop, 1)) : pm_okF cc own nL ini pc (s_pop (pc + 1)) := by
  intro p l e R s m args below meth c D aC B b Q C hR1 hR2 lv st w σ' hf k
  simp only [s_pop] at hf
  split at hf
  · rename_i x st
    cases hb : Nat.beq x.category 1 with
    | false => rw [hb] at hf; cases hf
    | true =>
      rw [hb] at hf
      obtain rfl := Option.some.inj hf
      intro H locs ls cells slots h1 h2 h3 h4 h5 h6
      exact lv_pop C.1 C.2.1 hd (by rw [pm_v_cat]; exact Nat.eq_of_beq_eq_true hb) (k H locs ls cells slots h1 h2 h3 h4 h5 h6)
  · cases hf
noncomputable def s_dup2 (n : Nat) : pm_S → Option pm_S := fun σ => match σ.2.2.1 with
  | x :: y :: st => bif Nat.beq x.category 1 && Nat.beq y.category 1 then some (n, σ.2.1, x :: y :: x :: y :: st, σ.2.2.2) else none
  | _ => none
theorem k_dup2 {cc : ByteArray} {own : String} {nL pc : Nat} {ini : Bool} (hd : decode cc pc = .ok (.dup2, 1)) : pm_okF cc own nL ini pc (s_dup2 (pc + 1)) := by
  intro p l e R s m args below meth c D aC B b Q C hR1 hR2 lv st w σ' hf k
  simp only [s_dup2] at hf
  split at hf
  · rename_i x y st
    cases hb : (Nat.beq x.category 1 && Nat.beq y.category 1) with
    | false => rw [hb] at hf; cases hf
    | true =>
      rw [hb] at hf
      obtain ⟨hx, hy⟩ := Bool.and_eq_true_iff.mp hb
      obtain rfl := Option.some.inj hf
      intro H locs ls cells slots h1 h2 h3 h4 h5 h6
      exact lv_dup2_11 C.1 C.2.1 hd (by rw [pm_v_cat]; exact Nat.eq_of_beq_eq_true hx) (by rw [pm_v_cat]; exact Nat.eq_of_beq_eq_true hy) (k H locs ls cells slots h1 h2 h3 h4 h5 h6)
  · cases hf
end
section
/-! THE PURE MACHINE, part 3: fields, arrays, new cells (written by gen_heap.py) -/
noncomputable def pm_fit (ty : FieldType) (v : Value) : Bool := match ty, v with
  | .int, .int _ => true
  | .long, .long _ => true
  | .boolean, .int x => x == 0 || x == 1
  | .object _, .ref _ => true
  | .object _, .null => true
  | .array _, .ref _ => true
  | .array _, .null => true
  | _, _ => false
theorem pm_fit_ok {ty : FieldType} {v : Value} (B : Nat) (b : Nat → Option Nat) (h : pm_fit ty v = true) : narrow ty (pm_v B b v) = pm_v B b v ∧ fits ty (pm_v B b v) = true := by
  cases ty <;> cases v <;> first | (simp [pm_fit] at h; done) | (exact ⟨rfl, rfl⟩) | skip
  rename_i x
  simp only [pm_fit, Bool.or_eq_true, beq_iff_eq] at h
  rcases h with rfl | rfl <;> exact ⟨rfl, rfl⟩
/-- one cell is another, the rest as it was -/
theorem pm_stored {D : va_G} {aC : Nat → ClassId} {B k : Nat} {b : Nat → Option Nat} {h : pm_H} {x y : pm_E} {H H1 : Heap} (hP : va_P D vwCl (pm_w B b aC h) H) (hk : h[k]? = some x) (oq : ∀ q : Nat, q ≠ B + k → H1[q]? = H[q]?) (hat : va_at D vwCl (B + k, pm_e B b aC y) H1) : va_P D vwCl (pm_w B b aC (h.set k y)) H1 := by
  rw [← pm_w_set]
  exact hP.set (pm_w_D B b aC h) (pm_w_at hk) hat oq
/-- the cell behind the last is new -/
theorem pm_pushed {D : va_G} {aC : Nat → ClassId} {B : Nat} {b : Nat → Option Nat} {h : pm_H} {y : pm_E} {H H1 : Heap} (hP : va_P D vwCl (pm_w B b aC h) H) (hz : H.size = B + h.length) (oq : ∀ q : Nat, q < H.size → H1[q]? = H[q]?) (hat : va_at D vwCl (H.size, pm_e B b aC y) H1) : va_P D vwCl (pm_w B b aC (h ++ [y])) H1 := by
  rw [← pm_w_app]
  refine (hP.kept fun k q hq => oq q.1 ((hP k q hq).lt)).app (fun k q hq => ?_)
  have hl : k < 1 := (List.getElem?_eq_some_iff.mp hq).1
  rw [show k = 0 by omega] at hq
  cases hq
  rw [← hz]
  exact hat
theorem pm_grown {A : Nat → Prop} {H0 H H1 : Heap} {locs : List Loc} (hS : va_S A H0 H locs) (z : H1.size = H.size + 1) (oq : ∀ q : Nat, q < H.size → H1[q]? = H[q]?) : va_S A H0 H1 locs :=
  ⟨Nat.le_trans hS.1 (by omega), fun x h1 h2 => (oq x (Nat.lt_of_lt_of_le h1 hS.1)).trans (hS.2.1 x h1 h2), hS.2.2⟩
noncomputable def s_getf (ci k n : Nat) : pm_S → Option pm_S := fun σ => match σ.2.2.1 with
  | .ref a :: st => match σ.2.2.2.1[a]? with
    | some (.inr (cj, fs)) => bif Nat.beq cj ci then (match fs[k]? with | some v => some (n, σ.2.1, v :: st, σ.2.2.2) | none => none) else none
    | _ => none
  | _ => none
noncomputable def s_putf (ci k : Nat) (ty : FieldType) (n : Nat) : pm_S → Option pm_S := fun σ => match σ.2.2.1 with
  | v :: .ref a :: st => match σ.2.2.2.1[a]? with
    | some (.inr (cj, fs)) => bif Nat.beq cj ci && (pm_fit ty v && Nat.blt k fs.length) then some (n, σ.2.1, st, σ.2.2.2.1.set a (.inr (cj, fs.set k v)), σ.2.2.2.2) else none
    | _ => none
  | _ => none
theorem k_getf {cc : ByteArray} {own : String} {nL pc : Nat} {ini : Bool} {ci k index N : Nat} {C : String} {T : u_T} (hc : vwCl[ci]? = some (C, T, N)) (hin : ∀ w ∈ u_ws C T N, w ∈ pm_T) (hk : k < N) (hw : Cond.fieldLink own index (T k).1 (T k).2.1 (T k).2.2.1 ∈ pm_T) (hd : decode cc pc = .ok (.getfield index, 3)) : pm_okF cc own nL ini pc (s_getf ci k (pc + 3)) := by
  intro p l e R s m args below meth c D aC B b Q Cx hR1 hR2 lv st w σ' hf kk
  simp only [s_getf] at hf
  split at hf
  · rename_i a st
    split at hf
    · rename_i cj fs he
      cases hb : Nat.beq cj ci with
      | false => rw [hb] at hf; cases hf
      | true =>
        rw [hb] at hf
        simp only [cond_true] at hf
        obtain rfl := Nat.eq_of_beq_eq_true hb
        split at hf
        · rename_i v hv
          obtain rfl := Option.some.inj hf
          intro H locs ls cells slots h1 h2 h3 h4 h5 h6
          exact va_get (v := pm_v B b v) (fs := fs.map (pm_v B b)) Cx.1 Cx.2.1 Cx.2.2.2.2.1 hin Cx.2.2.2.1 Cx.2.2.2.2.2.1.1 h3 a (pm_w_at he) hc k hk (Cx.2.2.2.2.1 _ hw) (fun _ h9 => h9) (by rw [List.getElem?_map, hv]; rfl) hd (kk H locs ls cells slots h1 h2 h3 h4 h5 h6)
        · cases hf
    · cases hf
  · cases hf
theorem k_putf {cc : ByteArray} {own : String} {nL pc : Nat} {ini : Bool} {ci k index N : Nat} {C : String} {T : u_T} {ty0 : Nat → FieldType} {ty : FieldType} (hc : vwCl[ci]? = some (C, T, N)) (hin : ∀ w ∈ u_ws C T N, w ∈ pm_T) (hty : ∀ k, k < N → parseFieldDescriptor (T k).2.2.1 = some (ty0 k)) (hnm : ∀ a, a < N → ∀ b, b < N → a ≠ b → (T a).2.1 ≠ (T b).2.1) (hk : k < N) (hte : ty0 k = ty) (hfin : (T k).2.2.2 = false) (hw : Cond.fieldLink own index (T k).1 (T k).2.1 (T k).2.2.1 ∈ pm_T) (hd : decode cc pc = .ok (.putfield index, 3)) : pm_okF cc own nL ini pc (s_putf ci k ty (pc + 3)) := by
  intro p l e R s m args below meth c D aC B b Q Cx hR1 hR2 lv st w σ' hf kk
  simp only [s_putf] at hf
  split at hf
  · rename_i v a st
    split at hf
    · rename_i cj fs he
      cases hb : (Nat.beq cj ci && (pm_fit ty v && Nat.blt k fs.length)) with
      | false => rw [hb] at hf; cases hf
      | true =>
        rw [hb] at hf
        obtain ⟨hb1, hb2⟩ := Bool.and_eq_true_iff.mp hb
        obtain ⟨hb2, hb3⟩ := Bool.and_eq_true_iff.mp hb2
        obtain rfl := Nat.eq_of_beq_eq_true hb1
        obtain rfl := Option.some.inj hf
        obtain ⟨hn, hfit⟩ := pm_fit_ok B b hb2
        intro H locs ls cells slots h1 h2 h3 h4 h5 h6
        have hap := va_apart (own := own) Cx.2.2.2.2.1 hin ty0 hty hnm Cx.2.2.2.2.2.1.1 hc
        obtain ⟨r, hr, cell, q1, q2, q3, q4⟩ := h3 a _ (pm_w_at he)
        have hr : r = (C, T, N) := Option.some.inj (hr.symm.trans hc)
        subst hr
        obtain ⟨hS, hfc, kC, hkC, hkind⟩ := Cx.2.2.2.2.2.1.1.1 cj _ hc
        obtain ⟨cf, kf, fi, f, hi, hsl⟩ := hS k hk
        have hlay := Cx.2.2.2.2.1 _ (hin _ (u_in_lay hk))
        unfold u_lay at hlay
        rw [if_neg (by rw [hfin]; decide)] at hlay
        have hst := (u_facts hfc hkC (u_lays Cx.2.2.2.2.1 hin hk) hi).1
        have h9 := u_store hfc hkC hkind hlay hi (by rw [hty k hk, hte]) hn hfit
        refine W.putK Cx.1 Cx.2.1 (f := f) ⟨Cx.2.2.2.1, Cx.2.2.2.2.1 _ hw, ⟨_, _, _, hi⟩, hst⟩ (by rw [q2]; exact h9) q1 q3 (by rw [hsl]; exact k2_hasslot (q4 k hk)) rfl rfl hd fun H1 e1 z1 o1 => ?_
        rw [hsl] at e1 ⊢
        refine kk H1 _ ls cells slots h1 (z1.trans (by rw [h2]; simp)) (pm_stored h3 he o1 ?_) (h4.put z1 o1 (Nat.le_add_right B a)) h5 h6
        refine ⟨_, hc, t_OB.to (V := updV (vp_V (fs.map (pm_v B b))) k (pm_v B b v)) ⟨_, e1, q2, q3, t_set q4 hap hk _⟩ (fun j _ => ?_)⟩
        rw [vp_updV_set (by rw [List.length_map]; exact Nat.le_of_ble_eq_true hb3)]
        simp [pm_e, List.map_set]
    · cases hf
  · cases hf
theorem k_putF {cc : ByteArray} {own : String} {nL pc : Nat} {ci k index N : Nat} {C : String} {T : u_T} {ty0 : Nat → FieldType} {ty : FieldType} (hc : vwCl[ci]? = some (C, T, N)) (hin : ∀ w ∈ u_ws C T N, w ∈ pm_T) (hty : ∀ k, k < N → parseFieldDescriptor (T k).2.2.1 = some (ty0 k)) (hnm : ∀ a, a < N → ∀ b, b < N → a ≠ b → (T a).2.1 ≠ (T b).2.1) (hk : k < N) (hte : ty0 k = ty) (hfin : (T k).2.2.2 = true) (hdecl : (T k).1 = own) (hw : Cond.fieldLink own index (T k).1 (T k).2.1 (T k).2.2.1 ∈ pm_T) (hd : decode cc pc = .ok (.putfield index, 3)) : pm_okF cc own nL true pc (s_putf ci k ty (pc + 3)) := by
  intro p l e R s m args below meth c D aC B b Q Cx hR1 hR2 lv st w σ' hf kk
  simp only [s_putf] at hf
  split at hf
  · rename_i v a st
    split at hf
    · rename_i cj fs he
      cases hb : (Nat.beq cj ci && (pm_fit ty v && Nat.blt k fs.length)) with
      | false => rw [hb] at hf; cases hf
      | true =>
        rw [hb] at hf
        obtain ⟨hb1, hb2⟩ := Bool.and_eq_true_iff.mp hb
        obtain ⟨hb2, hb3⟩ := Bool.and_eq_true_iff.mp hb2
        obtain rfl := Nat.eq_of_beq_eq_true hb1
        obtain rfl := Option.some.inj hf
        obtain ⟨hn, hfit⟩ := pm_fit_ok B b hb2
        intro H locs ls cells slots h1 h2 h3 h4 h5 h6
        have hap := va_apart (own := own) Cx.2.2.2.2.1 hin ty0 hty hnm Cx.2.2.2.2.2.1.1 hc
        obtain ⟨r, hr, cell, q1, q2, q3, q4⟩ := h3 a _ (pm_w_at he)
        have hr : r = (C, T, N) := Option.some.inj (hr.symm.trans hc)
        subst hr
        obtain ⟨hS, hfc, kC, hkC, hkind⟩ := Cx.2.2.2.2.2.1.1.1 cj _ hc
        obtain ⟨cf, kf, fi, f, hi, hsl⟩ := hS k hk
        have hlay := Cx.2.2.2.2.1 _ (hin _ (u_in_lay hk))
        unfold u_lay at hlay
        rw [if_pos hfin] at hlay
        have hst := (u_facts hfc hkC (u_lays Cx.2.2.2.2.1 hin hk) hi).1
        have hcf : m.cls = cf := by
          obtain ⟨_, _, c', _, _, _, -, -, hf', -, -, -, hown2, -⟩ := Cond.laysFinal_spec hlay
          have e1 : c' = cf := by have := hi.symm.trans hf'; simp at this; exact this.1.symm
          rw [hdecl] at hown2
          rw [← e1]; exact Option.some.inj (Cx.2.2.2.1.symm.trans hown2)
        have h9 := u_fits hfc hkC hkind (Or.inr hlay) hi (by rw [hty k hk, hte]) hn hfit
        refine W.putFinK Cx.1 Cx.2.1 Cx.2.2.2.1 (Cx.2.2.2.2.1 _ hw) hi hst hcf (Cx.2.2.2.2.2.2.2 rfl) (by rw [q2]; exact h9) q1 q3 (by rw [hsl]; exact k2_hasslot (q4 k hk)) rfl rfl hd fun H1 e1 z1 o1 => ?_
        rw [hsl] at e1 ⊢
        refine kk H1 _ ls cells slots h1 (z1.trans (by rw [h2]; simp)) (pm_stored h3 he o1 ?_) (h4.put z1 o1 (Nat.le_add_right B a)) h5 h6
        refine ⟨_, hc, t_OB.to (V := updV (vp_V (fs.map (pm_v B b))) k (pm_v B b v)) ⟨_, e1, q2, q3, t_set q4 hap hk _⟩ (fun j _ => ?_)⟩
        rw [vp_updV_set (by rw [List.length_map]; exact Nat.le_of_ble_eq_true hb3)]
        simp [pm_e, List.map_set]
    · cases hf
  · cases hf
noncomputable def pm_ix (i : Int32) (n : Nat) : Bool := !(decide (i < 0)) && Nat.blt i.toNatClampNeg n
theorem pm_ix_in {i : Int32} {n : Nat} (h : pm_ix i n = true) : vp_in i n := by
  simp only [pm_ix, Bool.and_eq_true, Bool.not_eq_true', decide_eq_false_iff_not] at h
  have h2 : i.toNatClampNeg < n := Nat.le_of_ble_eq_true h.2
  intro q
  rcases q with q | q
  · exact h.1 q
  · omega
noncomputable def s_iald (n : Nat) : pm_S → Option pm_S := fun σ => match σ.2.2.1 with
  | .int i :: .ref a :: st => match σ.2.2.2.1[a]? with
    | some (.inl (0, len, .inl f)) => bif pm_ix i len then some (n, σ.2.1, .int (f i.toNatClampNeg) :: st, σ.2.2.2) else none
    | _ => none
  | _ => none
noncomputable def s_bald (n : Nat) : pm_S → Option pm_S := fun σ => match σ.2.2.1 with
  | .int i :: .ref a :: st => match σ.2.2.2.1[a]? with
    | some (.inl (1, len, .inl f)) => bif pm_ix i len then some (n, σ.2.1, .int (f i.toNatClampNeg) :: st, σ.2.2.2) else none
    | _ => none
  | _ => none
noncomputable def s_zald (n : Nat) : pm_S → Option pm_S := fun σ => match σ.2.2.1 with
  | .int i :: .ref a :: st => match σ.2.2.2.1[a]? with
    | some (.inl (2, len, .inl f)) => bif pm_ix i len then some (n, σ.2.1, .int (f i.toNatClampNeg) :: st, σ.2.2.2) else none
    | _ => none
  | _ => none
noncomputable def s_lald (n : Nat) : pm_S → Option pm_S := fun σ => match σ.2.2.1 with
  | .int i :: .ref a :: st => match σ.2.2.2.1[a]? with
    | some (.inl (3, len, .inr (.inl f))) => bif pm_ix i len then some (n, σ.2.1, .long (f i.toNatClampNeg) :: st, σ.2.2.2) else none
    | _ => none
  | _ => none
theorem k_iald {cc : ByteArray} {own : String} {nL pc : Nat} {ini : Bool} (hd : decode cc pc = .ok (.iaload, 1)) : pm_okF cc own nL ini pc (s_iald (pc + 1)) := by
  intro p l e R s m args below meth c D aC B b Q Cx hR1 hR2 lv st w σ' hf kk
  simp only [s_iald] at hf
  split at hf
  · rename_i i a st
    split at hf
    · rename_i len f he
      cases hb : pm_ix i len with
      | false => rw [hb] at hf; cases hf
      | true =>
        rw [hb] at hf
        obtain rfl := Option.some.inj hf
        intro H locs ls cells slots h1 h2 h3 h4 h5 h6
        exact va_iald Cx.1 Cx.2.1 Cx.2.2.2.2.2.1.1 h3 a 0 (pm_w_at he) rfl (pm_ix_in hb) hd (kk H locs ls cells slots h1 h2 h3 h4 h5 h6)
    · cases hf
  · cases hf
theorem k_bald {cc : ByteArray} {own : String} {nL pc : Nat} {ini : Bool} (hd : decode cc pc = .ok (.baload, 1)) : pm_okF cc own nL ini pc (s_bald (pc + 1)) := by
  intro p l e R s m args below meth c D aC B b Q Cx hR1 hR2 lv st w σ' hf kk
  simp only [s_bald] at hf
  split at hf
  · rename_i i a st
    split at hf
    · rename_i len f he
      cases hb : pm_ix i len with
      | false => rw [hb] at hf; cases hf
      | true =>
        rw [hb] at hf
        obtain rfl := Option.some.inj hf
        intro H locs ls cells slots h1 h2 h3 h4 h5 h6
        exact va_bald Cx.1 Cx.2.1 Cx.2.2.2.2.2.1.1 h3 a 1 (pm_w_at he) rfl (pm_ix_in hb) hd (kk H locs ls cells slots h1 h2 h3 h4 h5 h6)
    · cases hf
  · cases hf
theorem k_zald {cc : ByteArray} {own : String} {nL pc : Nat} {ini : Bool} (hd : decode cc pc = .ok (.baload, 1)) : pm_okF cc own nL ini pc (s_zald (pc + 1)) := by
  intro p l e R s m args below meth c D aC B b Q Cx hR1 hR2 lv st w σ' hf kk
  simp only [s_zald] at hf
  split at hf
  · rename_i i a st
    split at hf
    · rename_i len f he
      cases hb : pm_ix i len with
      | false => rw [hb] at hf; cases hf
      | true =>
        rw [hb] at hf
        obtain rfl := Option.some.inj hf
        intro H locs ls cells slots h1 h2 h3 h4 h5 h6
        exact va_zald Cx.1 Cx.2.1 Cx.2.2.2.2.2.1.1 h3 a 2 (pm_w_at he) rfl (pm_ix_in hb) hd (kk H locs ls cells slots h1 h2 h3 h4 h5 h6)
    · cases hf
  · cases hf
theorem k_lald {cc : ByteArray} {own : String} {nL pc : Nat} {ini : Bool} (hd : decode cc pc = .ok (.laload, 1)) : pm_okF cc own nL ini pc (s_lald (pc + 1)) := by
  intro p l e R s m args below meth c D aC B b Q Cx hR1 hR2 lv st w σ' hf kk
  simp only [s_lald] at hf
  split at hf
  · rename_i i a st
    split at hf
    · rename_i len f he
      cases hb : pm_ix i len with
      | false => rw [hb] at hf; cases hf
      | true =>
        rw [hb] at hf
        obtain rfl := Option.some.inj hf
        intro H locs ls cells slots h1 h2 h3 h4 h5 h6
        exact va_lald Cx.1 Cx.2.1 Cx.2.2.2.2.2.1.1 h3 a 3 (pm_w_at he) rfl (pm_ix_in hb) hd (kk H locs ls cells slots h1 h2 h3 h4 h5 h6)
    · cases hf
  · cases hf
noncomputable def pm_r (r : Option Nat) : Value := match r with
  | none => .null
  | some a => .ref a
theorem pm_r_v (B : Nat) (b : Nat → Option Nat) (r : Option Nat) : va_rf (r.map (fun k => B + k)) = pm_v B b (pm_r r) := by cases r <;> rfl
noncomputable def s_aald (t n : Nat) : pm_S → Option pm_S := fun σ => match σ.2.2.1 with
  | .int i :: .ref a :: st => match σ.2.2.2.1[a]? with
    | some (.inl (t', len, .inr (.inr (.inr (.inr f))))) => bif Nat.beq t' t && pm_ix i len then some (n, σ.2.1, pm_r (f i.toNatClampNeg) :: st, σ.2.2.2) else none
    | _ => none
  | _ => none
theorem k_aald {cc : ByteArray} {own : String} {nL pc : Nat} {ini : Bool} {t : Nat} {C : String} (ht : ∀ aC : Nat → ClassId, (pm_tys aC)[t]? = some (aC t, .object C)) (hd : decode cc pc = .ok (.aaload, 1)) : pm_okF cc own nL ini pc (s_aald t (pc + 1)) := by
  intro p l e R s m args below meth c D aC B b Q Cx hR1 hR2 lv st w σ' hf kk
  simp only [s_aald] at hf
  split at hf
  · rename_i i a st
    split at hf
    · rename_i t' len f he
      cases hb : (Nat.beq t' t && pm_ix i len) with
      | false => rw [hb] at hf; cases hf
      | true =>
        rw [hb] at hf
        obtain ⟨hb1, hb2⟩ := Bool.and_eq_true_iff.mp hb
        obtain rfl := Nat.eq_of_beq_eq_true hb1
        obtain rfl := Option.some.inj hf
        intro H locs ls cells slots h1 h2 h3 h4 h5 h6
        have k2 := kk H locs ls cells slots h1 h2 h3 h4 h5 h6
        simp only [List.map_cons, ← pm_r_v] at k2
        exact va_aldq Cx.1 Cx.2.1 Cx.2.2.2.2.2.1.1 h3 a t' (pm_w_at he) (ht aC) (pm_ix_in hb2) hd k2
    · cases hf
  · cases hf
noncomputable def s_iast (n : Nat) : pm_S → Option pm_S := fun σ => match σ.2.2.1 with
  | .int x :: .int i :: .ref a :: st => match σ.2.2.2.1[a]? with
    | some (.inl (0, len, .inl f)) => bif pm_ix i len then some (n, σ.2.1, st, σ.2.2.2.1.set a (.inl (0, len, .inl (upd f i.toNatClampNeg x))), σ.2.2.2.2) else none
    | _ => none
  | _ => none
theorem k_iast {cc : ByteArray} {own : String} {nL pc : Nat} {ini : Bool} (hd : decode cc pc = .ok (.iastore, 1)) : pm_okF cc own nL ini pc (s_iast (pc + 1)) := by
  intro p l e R s m args below meth c D aC B b Q Cx hR1 hR2 lv st w σ' hf kk
  simp only [s_iast] at hf
  split at hf
  · rename_i x i a st
    split at hf
    · rename_i len f he
      cases hb : pm_ix i len with
      | false => rw [hb] at hf; cases hf
      | true =>
        rw [hb] at hf
        obtain rfl := Option.some.inj hf
        intro H locs ls cells slots h1 h2 h3 h4 h5 h6
        have hat : H[B + a]? = some (vp_cell (aC 0) (len, .inl f)) := h3 a _ (pm_w_at he)
        refine W.iast Cx.1 Cx.2.1 hat ((Cx.2.2.2.2.2.1.1.2 0 _ rfl).1 len (fun j => .int (f j))) (fun q => by cases q) (by show ¬ (i < 0 ∨ (arrV _ _ _).slots.size ≤ _); rw [arrV_size]; exact pm_ix_in hb) rfl rfl hd fun H1 e1 z1 o1 => ?_
        refine kk H1 _ ls cells slots h1 (z1.trans (by rw [h2]; simp)) (pm_stored h3 he o1 ?_) (h4.put z1 o1 (Nat.le_add_right B a)) h5 h6
        show H1[B + a]? = some (vp_cell (aC 0) (len, .inl (upd f i.toNatClampNeg x)))
        rw [e1, vp_cell_i, vp_cell_i, arrV_store]
        congr 2
        funext q
        by_cases hq : q = i.toNatClampNeg
        · subst hq
          simp [updV, upd, vp_nar]
          try rfl
        · simp [updV, upd, hq]
    · cases hf
  · cases hf
noncomputable def s_bast (n : Nat) : pm_S → Option pm_S := fun σ => match σ.2.2.1 with
  | .int x :: .int i :: .ref a :: st => match σ.2.2.2.1[a]? with
    | some (.inl (1, len, .inl f)) => bif pm_ix i len then some (n, σ.2.1, st, σ.2.2.2.1.set a (.inl (1, len, .inl (upd f i.toNatClampNeg (vp_nar .byte x)))), σ.2.2.2.2) else none
    | _ => none
  | _ => none
theorem k_bast {cc : ByteArray} {own : String} {nL pc : Nat} {ini : Bool} (hd : decode cc pc = .ok (.bastore, 1)) : pm_okF cc own nL ini pc (s_bast (pc + 1)) := by
  intro p l e R s m args below meth c D aC B b Q Cx hR1 hR2 lv st w σ' hf kk
  simp only [s_bast] at hf
  split at hf
  · rename_i x i a st
    split at hf
    · rename_i len f he
      cases hb : pm_ix i len with
      | false => rw [hb] at hf; cases hf
      | true =>
        rw [hb] at hf
        obtain rfl := Option.some.inj hf
        intro H locs ls cells slots h1 h2 h3 h4 h5 h6
        have hat : H[B + a]? = some (vp_cell (aC 1) (len, .inl f)) := h3 a _ (pm_w_at he)
        refine W.bast Cx.1 Cx.2.1 hat ((Cx.2.2.2.2.2.1.1.2 1 _ rfl).1 len (fun j => .int (f j))) (fun q => by cases q) (by show ¬ (i < 0 ∨ (arrV _ _ _).slots.size ≤ _); rw [arrV_size]; exact pm_ix_in hb) rfl rfl hd fun H1 e1 z1 o1 => ?_
        refine kk H1 _ ls cells slots h1 (z1.trans (by rw [h2]; simp)) (pm_stored h3 he o1 ?_) (h4.put z1 o1 (Nat.le_add_right B a)) h5 h6
        show H1[B + a]? = some (vp_cell (aC 1) (len, .inl (upd f i.toNatClampNeg (vp_nar .byte x))))
        rw [e1, vp_cell_i, vp_cell_i, arrV_store]
        congr 2
        funext q
        by_cases hq : q = i.toNatClampNeg
        · subst hq
          simp [updV, upd, vp_nar]
          try rfl
        · simp [updV, upd, hq]
    · cases hf
  · cases hf
noncomputable def s_zast (n : Nat) : pm_S → Option pm_S := fun σ => match σ.2.2.1 with
  | .int x :: .int i :: .ref a :: st => match σ.2.2.2.1[a]? with
    | some (.inl (2, len, .inl f)) => bif pm_ix i len then some (n, σ.2.1, st, σ.2.2.2.1.set a (.inl (2, len, .inl (upd f i.toNatClampNeg (vp_nar .boolean x)))), σ.2.2.2.2) else none
    | _ => none
  | _ => none
theorem k_zast {cc : ByteArray} {own : String} {nL pc : Nat} {ini : Bool} (hd : decode cc pc = .ok (.bastore, 1)) : pm_okF cc own nL ini pc (s_zast (pc + 1)) := by
  intro p l e R s m args below meth c D aC B b Q Cx hR1 hR2 lv st w σ' hf kk
  simp only [s_zast] at hf
  split at hf
  · rename_i x i a st
    split at hf
    · rename_i len f he
      cases hb : pm_ix i len with
      | false => rw [hb] at hf; cases hf
      | true =>
        rw [hb] at hf
        obtain rfl := Option.some.inj hf
        intro H locs ls cells slots h1 h2 h3 h4 h5 h6
        have hat : H[B + a]? = some (vp_cell (aC 2) (len, .inl f)) := h3 a _ (pm_w_at he)
        refine W.zast Cx.1 Cx.2.1 hat ((Cx.2.2.2.2.2.1.1.2 2 _ rfl).1 len (fun j => .int (f j))) (fun q => by cases q) (by show ¬ (i < 0 ∨ (arrV _ _ _).slots.size ≤ _); rw [arrV_size]; exact pm_ix_in hb) rfl rfl hd fun H1 e1 z1 o1 => ?_
        refine kk H1 _ ls cells slots h1 (z1.trans (by rw [h2]; simp)) (pm_stored h3 he o1 ?_) (h4.put z1 o1 (Nat.le_add_right B a)) h5 h6
        show H1[B + a]? = some (vp_cell (aC 2) (len, .inl (upd f i.toNatClampNeg (vp_nar .boolean x))))
        rw [e1, vp_cell_i, vp_cell_i, arrV_store]
        congr 2
        funext q
        by_cases hq : q = i.toNatClampNeg
        · subst hq
          simp [updV, upd, vp_nar]
          try rfl
        · simp [updV, upd, hq]
    · cases hf
  · cases hf
noncomputable def s_last (n : Nat) : pm_S → Option pm_S := fun σ => match σ.2.2.1 with
  | .long x :: .int i :: .ref a :: st => match σ.2.2.2.1[a]? with
    | some (.inl (3, len, .inr (.inl f))) => bif pm_ix i len then some (n, σ.2.1, st, σ.2.2.2.1.set a (.inl (3, len, .inr (.inl (vp_updL f i.toNatClampNeg x)))), σ.2.2.2.2) else none
    | _ => none
  | _ => none
theorem k_last {cc : ByteArray} {own : String} {nL pc : Nat} {ini : Bool} (hd : decode cc pc = .ok (.lastore, 1)) : pm_okF cc own nL ini pc (s_last (pc + 1)) := by
  intro p l e R s m args below meth c D aC B b Q Cx hR1 hR2 lv st w σ' hf kk
  simp only [s_last] at hf
  split at hf
  · rename_i x i a st
    split at hf
    · rename_i len f he
      cases hb : pm_ix i len with
      | false => rw [hb] at hf; cases hf
      | true =>
        rw [hb] at hf
        obtain rfl := Option.some.inj hf
        intro H locs ls cells slots h1 h2 h3 h4 h5 h6
        have hat : H[B + a]? = some (vp_cell (aC 3) (len, .inr (.inl f))) := h3 a _ (pm_w_at he)
        refine W.last Cx.1 Cx.2.1 hat ((Cx.2.2.2.2.2.1.1.2 3 _ rfl).1 len (fun j => .long (f j))) (fun q => by cases q) (by show ¬ (i < 0 ∨ (arrV _ _ _).slots.size ≤ _); rw [arrV_size]; exact pm_ix_in hb) rfl rfl hd fun H1 e1 z1 o1 => ?_
        refine kk H1 _ ls cells slots h1 (z1.trans (by rw [h2]; simp)) (pm_stored h3 he o1 ?_) (h4.put z1 o1 (Nat.le_add_right B a)) h5 h6
        show H1[B + a]? = some (vp_cell (aC 3) (len, .inr (.inl (vp_updL f i.toNatClampNeg x))))
        rw [e1, vp_cell_l, vp_cell_l, arrV_store]
        congr 2
        funext q
        by_cases hq : q = i.toNatClampNeg
        · subst hq
          simp [updV, vp_updL, vp_nar]
          try rfl
        · simp [updV, vp_updL, hq]
    · cases hf
  · cases hf
noncomputable def s_aast (t ci n : Nat) : pm_S → Option pm_S := fun σ => match σ.2.2.1 with
  | .ref v :: .int i :: .ref a :: st => match σ.2.2.2.1[a]? with
    | some (.inl (t', len, .inr (.inr (.inr (.inr f))))) => match σ.2.2.2.1[v]? with
      | some (.inr (cj, _)) => bif Nat.beq t' t && (Nat.beq cj ci && pm_ix i len) then some (n, σ.2.1, st, σ.2.2.2.1.set a (.inl (t', len, .inr (.inr (.inr (.inr (va_up f i.toNatClampNeg (some v))))))), σ.2.2.2.2) else none
      | _ => none
    | _ => none
  | _ => none
theorem k_aast {cc : ByteArray} {own : String} {nL pc : Nat} {ini : Bool} {t ci : Nat} {r : vw_C} (ht : ∀ aC : Nat → ClassId, (pm_tys aC)[t]? = some (aC t, .object r.1)) (hc : vwCl[ci]? = some r) (hd : decode cc pc = .ok (.aastore, 1)) : pm_okF cc own nL ini pc (s_aast t ci (pc + 1)) := by
  intro p l e R s m args below meth c D aC B b Q Cx hR1 hR2 lv st w σ' hf kk
  simp only [s_aast] at hf
  split at hf
  · rename_i v i a st
    split at hf
    · rename_i t' len f he
      split at hf
      · rename_i cj vs hv
        cases hb : (Nat.beq t' t && (Nat.beq cj ci && pm_ix i len)) with
        | false => rw [hb] at hf; cases hf
        | true =>
          rw [hb] at hf
          obtain ⟨hb1, hb2⟩ := Bool.and_eq_true_iff.mp hb
          obtain ⟨hb2, hb3⟩ := Bool.and_eq_true_iff.mp hb2
          obtain rfl := Nat.eq_of_beq_eq_true hb1
          obtain rfl := Nat.eq_of_beq_eq_true hb2
          obtain rfl := Option.some.inj hf
          intro H locs ls cells slots h1 h2 h3 h4 h5 h6
          have hin := pm_ix_in hb3
          have hlt : i.toNatClampNeg < len := Nat.not_le.mp fun q => hin (Or.inr q)
          have h0 : ¬ i < 0 := fun q => hin (Or.inl q)
          have hat : H[B + a]? = some (vp_cell (aC t') (len, .inr (.inr (.inr (.inr (fun i => (f i).map (fun k => B + k))))))) := h3 a _ (pm_w_at he)
          obtain ⟨r', hr', cellV, g1, g2, g3, -⟩ := h3 v _ (pm_w_at hv)
          have hcls := (Cx.2.2.2.2.2.1.1.1 cj r hc).2
          obtain ⟨kA, comp, k1, k2, k3, -⟩ := (Cx.2.2.2.2.2.1.1.2 t' _ (ht aC)).2
          have hcomp : comp = D.1 cj := Option.some.inj (k3.symm.trans hcls.1)
          subst hcomp
          have hcls2 := hcls
          obtain ⟨kC, hkC, -⟩ := hcls.2
          refine W.aast Cx.1 Cx.2.1 hat (fun q h => by cases h) (fun h => by cases h) k1 k2 rfl hkC ⟨h0, by show _ < (arrV _ _ _).slots.size; rw [arrV_size]; exact hlt⟩ g1 (fun q h => by rw [g3] at h; cases h) (by rw [g2]; exact hkC) (by rw [g2]; exact va_assign hcls2) rfl rfl hd fun H1 e1 z1 o1 => ?_
          refine kk H1 _ ls cells slots h1 (z1.trans (by rw [h2]; simp)) (pm_stored h3 he o1 ?_) (h4.put z1 o1 (Nat.le_add_right B a)) h5 h6
          show H1[B + a]? = some (vp_cell (aC t') (len, .inr (.inr (.inr (.inr (fun j => (va_up f i.toNatClampNeg (some v) j).map (fun k => B + k)))))))
          rw [e1, vp_cell_q, vp_cell_q, arrV_store]
          congr 2
          funext q
          by_cases hq : q = i.toNatClampNeg
          · subst hq
            simp [updV, va_up, va_rf]
          · simp [updV, va_up, hq]
      · cases hf
    · cases hf
  · cases hf
noncomputable def s_new (ci : Nat) (fs : List Value) (nf n : Nat) : pm_S → Option pm_S := fun σ => bif Nat.ble 1 σ.2.2.2.2.1 && Nat.ble nf σ.2.2.2.2.2 then some (n, σ.2.1, .ref σ.2.2.2.1.length :: σ.2.2.1, σ.2.2.2.1 ++ [.inr (ci, fs)], σ.2.2.2.2.1 - 1, σ.2.2.2.2.2 - nf) else none
theorem k_new {cc : ByteArray} {own : String} {nL pc : Nat} {ini : Bool} {ci index N : Nat} {C : String} {T : u_T} {ty0 : Nat → FieldType} {fs : List Value} (hc : vwCl[ci]? = some (C, T, N)) (hin : ∀ w ∈ u_ws C T N, w ∈ pm_T) (hty : ∀ k, k < N → parseFieldDescriptor (T k).2.2.1 = some (ty0 k)) (hfs : ∀ j, j < N → defaultValue (ty0 j) = vp_V fs j) (hfv : ∀ (B : Nat) (b : Nat → Option Nat), fs.map (pm_v B b) = fs) (hw1 : Cond.classLink own index C ∈ pm_T) (hw2 : Cond.instantiable C N ∈ pm_T) (hw3 : Cond.initialized C ∈ pm_T) (hd : decode cc pc = .ok (.new index, 3)) : pm_okF cc own nL ini pc (s_new ci fs N (pc + 3)) := by
  intro p l e R s m args below meth c D aC B b Q Cx hR1 hR2 lv st w σ' hf kk
  simp only [s_new] at hf
  cases hb : (Nat.ble 1 w.2.1 && Nat.ble N w.2.2) with
  | false => rw [hb] at hf; cases hf
  | true =>
    rw [hb] at hf
    obtain ⟨hb1, hb2⟩ := Bool.and_eq_true_iff.mp hb
    have hb1 := Nat.le_of_ble_eq_true hb1
    have hb2 := Nat.le_of_ble_eq_true hb2
    obtain rfl := Option.some.inj hf
    intro H locs ls cells slots h1 h2 h3 h4 h5 h6
    simp only at h2 h3 h5 h6
    have hKn := Cx.2.2.2.2.2.1.1.1 ci _ hc
    refine W.newcK Cx.1 Cx.2.1 Cx.2.2.2.1 (Cx.2.2.2.2.1 _ hw1) (Cx.2.2.2.2.1 _ hw2) (Cx.2.2.2.2.1 _ hw3) rfl hd (by omega) (by omega) hKn.2.1 rfl fun H1 kC hkC e1 z1 o1 => ?_
    have k2 := kk H1 locs ls (cells + 1) (slots + N) h1 (by simp only [List.length_append, List.length_cons, List.length_nil]; omega) (pm_pushed h3 h2 o1 ⟨_, hc, by
      show t_OB _ _ _ _ _ (vp_V (fs.map (pm_v B b)))
      rw [hfv]
      exact (u_born ty0 Cx.2.2.2.2.1 hin hKn hkC e1 hty).to hfs⟩) (pm_grown h4 z1 o1) (by simp only; omega) (by simp only; omega)
    simp only [List.map_cons, pm_v, ← h2] at k2
    exact k2
noncomputable def s_newa (t : Nat) (x : (Nat → Int32) ⊕ (Nat → Int64) ⊕ (Nat → UInt32) ⊕ (Nat → UInt64) ⊕ (Nat → Option Nat)) (n : Nat) : pm_S → Option pm_S := fun σ => match σ.2.2.1 with
  | .int m :: st => bif !(decide (m < 0)) && (Nat.ble m.toNatClampNeg 10000 && (Nat.ble 1 σ.2.2.2.2.1 && Nat.ble m.toNatClampNeg σ.2.2.2.2.2)) then some (n, σ.2.1, .ref σ.2.2.2.1.length :: st, σ.2.2.2.1 ++ [.inl (t, m.toNatClampNeg, x)], σ.2.2.2.2.1 - 1, σ.2.2.2.2.2 - m.toNatClampNeg) else none
  | _ => none
theorem k_newa {cc : ByteArray} {own : String} {nL pc : Nat} {ini : Bool} {t : Nat} {at0 : ArrayType} {ty : FieldType} {x : (Nat → Int32) ⊕ (Nat → Int64) ⊕ (Nat → UInt32) ⊕ (Nat → UInt64) ⊕ (Nat → Option Nat)} (hat : newarray.typeOf at0 = ty) (ht : ∀ aC : Nat → ClassId, (pm_tys aC)[t]? = some (aC t, ty)) (hra : ∀ (U : State) (q : ClassId), va_RA U q ty → U.vm.findClass ("[" ++ ty.toString) = some q) (hbz : componentBytes ty ≤ 8) (hxe : ∀ (B : Nat) (b : Nat → Option Nat) (aC : Nat → ClassId) (m : Nat), pm_e B b aC (.inl (t, m, x)) = .inl (aC t, m, x)) (hx : ∀ (cA : ClassId) (m : Nat), vp_cell cA (m, x) = arrV cA m (fun _ => defaultValue ty)) (hw : Cond.arrayClass ty ∈ pm_T) (hd : decode cc pc = .ok (.newarray at0, 2)) : pm_okF cc own nL ini pc (s_newa t x (pc + 2)) := by
  intro p l e R s m args below meth c D aC B b Q Cx hR1 hR2 lv st w σ' hf kk
  subst hat
  simp only [s_newa] at hf
  split at hf
  · rename_i m st
    cases hb : (!(decide (m < 0)) && (Nat.ble m.toNatClampNeg 10000 && (Nat.ble 1 w.2.1 && Nat.ble m.toNatClampNeg w.2.2))) with
    | false => rw [hb] at hf; cases hf
    | true =>
      rw [hb] at hf
      obtain ⟨hb0, hb1⟩ := Bool.and_eq_true_iff.mp hb
      obtain ⟨hb1, hb2⟩ := Bool.and_eq_true_iff.mp hb1
      obtain ⟨hb2, hb3⟩ := Bool.and_eq_true_iff.mp hb2
      have hb1 := Nat.le_of_ble_eq_true hb1
      have hb2 := Nat.le_of_ble_eq_true hb2
      have hb3 := Nat.le_of_ble_eq_true hb3
      have hm : ¬ m < 0 := by simpa using hb0
      obtain rfl := Option.some.inj hf
      intro H locs ls cells slots h1 h2 h3 h4 h5 h6
      simp only at h2 h3 h5 h6
      have hby : m.toNatClampNeg * componentBytes (newarray.typeOf at0) ≤ 536870912 := Nat.le_trans (Nat.mul_le_mul hb1 hbz) (by decide)
      refine va_newaK Cx.1 Cx.2.1 (Cx.2.2.2.2.1 _ hw) rfl hd rfl hm rfl hby (by omega) (by omega) rfl fun H1 cA e1 z1 o1 hAr hNm => ?_
      have hcA : cA = aC t := Option.some.inj (hNm.symm.trans (hra _ _ (Cx.2.2.2.2.2.1.1.2 t _ (ht aC)).2))
      subst hcA
      have k2 := kk H1 locs ls (cells + 1) (slots + m.toNatClampNeg) h1 (by simp only [List.length_append, List.length_cons, List.length_nil]; omega) (pm_pushed h3 h2 o1 (by
        rw [hxe]
        show H1[H.size]? = some (vp_cell _ _)
        rw [hx]
        exact e1)) (pm_grown h4 z1 o1) (by simp only; omega) (by simp only; omega)
      simp only [List.map_cons, pm_v, ← h2] at k2
      exact k2
  · cases hf
noncomputable def s_newq (t n : Nat) : pm_S → Option pm_S := fun σ => match σ.2.2.1 with
  | .int m :: st => bif !(decide (m < 0)) && (Nat.ble m.toNatClampNeg 10000 && (Nat.ble 1 σ.2.2.2.2.1 && Nat.ble m.toNatClampNeg σ.2.2.2.2.2)) then some (n, σ.2.1, .ref σ.2.2.2.1.length :: st, σ.2.2.2.1 ++ [.inl (t, m.toNatClampNeg, .inr (.inr (.inr (.inr (fun _ => none)))))], σ.2.2.2.2.1 - 1, σ.2.2.2.2.2 - m.toNatClampNeg) else none
  | _ => none
theorem k_newq {cc : ByteArray} {own : String} {nL pc : Nat} {ini : Bool} {t index : Nat} {C : String} (ht : ∀ aC : Nat → ClassId, (pm_tys aC)[t]? = some (aC t, .object C)) (hao : ∀ (D : va_G) (aC : Nat → ClassId) (B : Nat) (b : Nat → Option Nat) (U : State), pm_K D aC B b U → va_AO C U) (hw : Cond.classLink own index C ∈ pm_T) (hd : decode cc pc = .ok (.anewarray index, 3)) : pm_okF cc own nL ini pc (s_newq t (pc + 3)) := by
  intro p l e R s m args below meth c D aC B b Q Cx hR1 hR2 lv st w σ' hf kk
  simp only [s_newq] at hf
  split at hf
  · rename_i m st
    cases hb : (!(decide (m < 0)) && (Nat.ble m.toNatClampNeg 10000 && (Nat.ble 1 w.2.1 && Nat.ble m.toNatClampNeg w.2.2))) with
    | false => rw [hb] at hf; cases hf
    | true =>
      rw [hb] at hf
      obtain ⟨hb0, hb1⟩ := Bool.and_eq_true_iff.mp hb
      obtain ⟨hb1, hb2⟩ := Bool.and_eq_true_iff.mp hb1
      obtain ⟨hb2, hb3⟩ := Bool.and_eq_true_iff.mp hb2
      have hb1 := Nat.le_of_ble_eq_true hb1
      have hb2 := Nat.le_of_ble_eq_true hb2
      have hb3 := Nat.le_of_ble_eq_true hb3
      have hm : ¬ m < 0 := by simpa using hb0
      obtain rfl := Option.some.inj hf
      intro H locs ls cells slots h1 h2 h3 h4 h5 h6
      simp only at h2 h3 h5 h6
      refine W.anew Cx.1 Cx.2.1 Cx.2.2.2.1 (Cx.2.2.2.2.1 _ hw) (va_AO.use (hao D aC B b s Cx.2.2.2.2.2.1)) rfl hd rfl hm (by omega) (by omega) (by omega) fun cA kA comp f1 f2 f3 f4 => ?_
      generalize hH1 : H.push ({ cls := cA, slots := Array.replicate m.toNatClampNeg .null, vm := .none } : Cell) = H1
      have z1 : H1.size = H.size + 1 := by rw [← hH1, Array.size_push]
      have e1 : H1[H.size]? = some (arrV cA m.toNatClampNeg (fun _ => .null)) := by rw [← hH1, Array.getElem?_push_size, ← arrV_new]
      have o1 : ∀ q : Nat, q < H.size → H1[q]? = H[q]? := fun q hq => by rw [← hH1, Array.getElem?_push, if_neg (Nat.ne_of_lt hq)]
      obtain ⟨kA2, comp2, -, -, -, g4⟩ := (Cx.2.2.2.2.2.1.1.2 t _ (ht aC)).2
      have hcA : cA = aC t := Option.some.inj (f1.symm.trans g4)
      subst hcA
      have k2 := kk H1 locs ls (cells + 1) (slots + m.toNatClampNeg) h1 (by simp only [List.length_append, List.length_cons, List.length_nil]; omega) (pm_pushed h3 h2 o1 (by
        show H1[H.size]? = some (vp_cell _ _)
        rw [vp_cell_q]
        exact e1)) (pm_grown h4 z1 o1) (by simp only; omega) (by simp only; omega)
      simp only [List.map_cons, pm_v, ← h2] at k2
      exact k2
  · cases hf
noncomputable def pm_sz (st : List Value) : Nat := (st.map fun v => v.category).sum
theorem pm_sz_v (B : Nat) (b : Nat → Option Nat) (st : List Value) : ((st.map (pm_v B b)).map fun v => v.category).sum = pm_sz st := by
  unfold pm_sz
  rw [List.map_map]
  congr 1
  exact List.map_congr_left fun v _ => pm_v_cat B b v
noncomputable def s_obj (n : Nat) : pm_S → Option pm_S := fun σ => match σ.2.2.1 with
  | .ref _ :: st => bif Nat.ble (pm_sz st) 8 then some (n, σ.2.1, st, σ.2.2.2) else none
  | _ => none
theorem k_obj {cc : ByteArray} {own : String} {nL pc : Nat} {ini : Bool} {index : Nat} (hw1 : Cond.methodLink own index Lib.objectInit ∈ pm_T) (hw2 : Cond.instanceMethod Lib.objectInit ∈ pm_T) (hw3 : Cond.code Lib.objectInit ⟨#[0xb1]⟩ 1 none ∈ pm_T) (hd : decode cc pc = .ok (.invokespecial index, 3)) : pm_okF cc own nL ini pc (s_obj (pc + 3)) := by
  intro p l e R s m args below meth c D aC B b Q Cx hR1 hR2 lv st w σ' hf kk
  simp only [s_obj] at hf
  split at hf
  · rename_i a st
    cases hb : Nat.ble (pm_sz st) 8 with
    | false => rw [hb] at hf; cases hf
    | true =>
      rw [hb] at hf
      have hb := Nat.le_of_ble_eq_true hb
      obtain rfl := Option.some.inj hf
      intro H locs ls cells slots h1 h2 h3 h4 h5 h6
      exact W.objInit Cx.1 Cx.2.1 Cx.2.2.2.1 (Cx.2.2.2.2.1 _ hw1) (Cx.2.2.2.2.1 _ hw2) (Cx.2.2.2.2.1 _ hw3) rfl (by rw [Cx.2.2.1]; exact h1.1) rfl hd hR1 (by
        rw [pm_sz_v]
        show 2 * 0 + _ + 12 ≤ _
        omega) (kk H locs ls cells slots h1 h2 h3 h4 h5 h6)
  · cases hf
end
section
/-! THE PURE MACHINE, part 4: calls, returns, runs; methods by their runs -/
noncomputable def pm_at {α : Type} : List (Nat × α) → Nat → Option α
  | [], _ => none
  | q :: l, i => bif Nat.beq q.1 i then some q.2 else pm_at l i
theorem pm_at_in {α : Type} {i : Nat} {v : α} : ∀ {l : List (Nat × α)}, pm_at l i = some v → (i, v) ∈ l
  | [], h => by cases h
  | q :: l, h => by
    unfold pm_at at h
    cases hb : Nat.beq q.1 i with
    | true =>
      rw [hb] at h
      have h1 : q.1 = i := Nat.eq_of_beq_eq_true hb
      have h2 : q.2 = v := Option.some.inj h
      subst h1; subst h2
      exact List.mem_cons_self
    | false =>
      rw [hb] at h
      exact List.mem_cons_of_mem _ (pm_at_in h)
/-- what a call answers and leaves: method, heap, arguments, heap behind it, answer -/
noncomputable abbrev pm_Call : Type := Nat → pm_H → List Value → pm_H → Option Value → Prop
/-- what is tested ahead of a call -/
noncomputable def pm_chk (k : Nat) (ci : Option Nat) (mc ms : Nat) (st : List Value) (w : pm_H × Nat × Nat) : Prop :=
  k ≤ st.length ∧ (∀ q : Nat, ci = some q → (q < 100 → ∃ (a : Nat) (fs : List Value) (as : List Value), (st.take k).reverse = .ref a :: as ∧ w.1[a]? = some (.inr (q, fs))) ∧ (100 ≤ q → ∃ (i : Nat) (as : List Value), i < 8 ∧ (st.take k).reverse = .retAddr (4 + i) :: as)) ∧ pm_sz (st.drop k) ≤ 8 ∧ mc ≤ w.2.1 ∧ ms ≤ w.2.2
noncomputable def pm_ret (kd : Nat) (st : List Value) (h : pm_H) (o : pm_H × Option Value) : Prop := match kd with
  | 0 => st = [] ∧ o = (h, none)
  | 1 => ∃ v : Int32, st = [.int v] ∧ o = (h, some (.int v))
  | 2 => ∃ v : Int32, st = [.int v] ∧ (v = 0 ∨ v = 1) ∧ o = (h, some (.int v))
  | 3 => ∃ v : Int64, st = [.long v] ∧ o = (h, some (.long v))
  | 4 => ∃ v : Int32, st = [.int v] ∧ narrow .byte (.int v) = .int v ∧ o = (h, some (.int v))
  | _ => ∃ v : Int32, st = [.int v] ∧ narrow .char (.int v) = .int v ∧ o = (h, some (.int v))
noncomputable def pm_go (look : Nat → Option pm_I) (call : pm_Call) : Nat → pm_S → pm_H × Option Value → Prop
  | 0, _, _ => False
  | n + 1, σ, o => match look σ.1 with
    | none => False
    | some (.inl f) => match f σ with
      | none => False
      | some σ' => pm_go look call n σ' o
    | some (.inr (.inl (y, k, ci, mc, ms))) => ∃ (h' : pm_H) (r : Option Value), call y σ.2.2.2.1 (σ.2.2.1.take k).reverse h' r ∧ pm_chk k ci mc ms σ.2.2.1 σ.2.2.2 ∧ pm_go look call n (σ.1 + 3, σ.2.1, r.toList ++ σ.2.2.1.drop k, h', σ.2.2.2.2.1 - mc, σ.2.2.2.2.2 - ms) o
    | some (.inr (.inr kd)) => pm_ret kd σ.2.2.1 σ.2.2.2.1 o
/-- from here the run ends so -/
noncomputable def pm_Go (look : Nat → Option pm_I) (call : pm_Call) (σ : pm_S) (o : pm_H × Option Value) : Prop := ∃ n, pm_go look call n σ o
theorem Go_st {look : Nat → Option pm_I} {call : pm_Call} {σ σ' : pm_S} {o : pm_H × Option Value} {f : pm_S → Option pm_S} (h1 : look σ.1 = some (.inl f)) (h2 : f σ = some σ') (k : pm_Go look call σ' o) : pm_Go look call σ o := by
  obtain ⟨n, hn⟩ := k
  refine ⟨n + 1, ?_⟩
  unfold pm_go
  rw [h1]
  simp only [h2]
  exact hn
theorem Go_call {look : Nat → Option pm_I} {call : pm_Call} {σ : pm_S} {o : pm_H × Option Value} {y k mc ms : Nat} {ci : Option Nat} {h' : pm_H} {r : Option Value} (h1 : look σ.1 = some (.inr (.inl (y, k, ci, mc, ms)))) (hc : call y σ.2.2.2.1 (σ.2.2.1.take k).reverse h' r) (h2 : pm_chk k ci mc ms σ.2.2.1 σ.2.2.2) (kk : pm_Go look call (σ.1 + 3, σ.2.1, r.toList ++ σ.2.2.1.drop k, h', σ.2.2.2.2.1 - mc, σ.2.2.2.2.2 - ms) o) : pm_Go look call σ o := by
  obtain ⟨n, hn⟩ := kk
  refine ⟨n + 1, ?_⟩
  unfold pm_go
  rw [h1]
  exact ⟨h', r, hc, h2, hn⟩
theorem Go_ret {look : Nat → Option pm_I} {call : pm_Call} {σ : pm_S} {o : pm_H × Option Value} {kd : Nat} (h1 : look σ.1 = some (.inr (.inr kd))) (h2 : pm_ret kd σ.2.2.1 σ.2.2.2.1 o) : pm_Go look call σ o := by
  refine ⟨1, ?_⟩
  unfold pm_go
  rw [h1]
  exact h2
noncomputable def pm_Pc (D : va_G) (aC : Nat → ClassId) (B : Nat) (b : Nat → Option Nat) (h : pm_H) (as : List Value) : Array Value → State → Prop := fun v U => v = (as.map (pm_v B b)).toArray ∧ U.heap.size = B + h.length ∧ va_P D vwCl (pm_w B b aC h) U.heap ∧ pm_K D aC B b U
noncomputable def pm_Qc (D : va_G) (aC : Nat → ClassId) (B : Nat) (b : Nat → Option Nat) (h' : pm_H) (r : Option Value) : Array Value → State → Outcome → State → Prop := fun _ st oc t => oc = .returned (r.map (pm_v B b)) ∧ t.heap.size = B + h'.length ∧ va_P D vwCl (pm_w B b aC h') t.heap ∧ st.heap.size ≤ t.heap.size ∧ ∀ q : Nat, q < B → t.heap[q]? = st.heap[q]?
theorem pm_Pc_blind (D : va_G) (aC : Nat → ClassId) (B : Nat) (b : Nat → Option Nat) (h : pm_H) (as : List Value) : FrameBlind (pm_Pc D aC B b h as) := fun _ _ _ _ q => ⟨q.1, q.2.1, q.2.2.1, q.2.2.2.call⟩
/-- a method's contract of one run: from this heap and these arguments it comes to that heap and that answer -/
noncomputable def pm_Mt (l : Launch) (D : va_G) (aC : Nat → ClassId) (B : Nat) (b : Nat → Option Nat) (y : MethodName) (bytes : ByteArray) (maxL : Nat) (ret : Option FieldType) (rF rL mc ms : Nat) (h : pm_H) (as : List Value) (h' : pm_H) (r : Option Value) : Prop :=
  Met l y (.code y bytes maxL ret :: pm_T) { frames := rF, cells := mc, slots := ms, locals := rL } (pm_Pc D aC B b h as) (pm_Qc D aC B b h' r) mc ms (fun q => B ≤ q)
section PMC
variable {p : Program} {l : Launch} {e : Env} {R : Room} {s : State} {m : MethodId} {args : Array Value} {below : List Frame} {meth : Method} {c : Code} {D : va_G} {aC : Nat → ClassId} {B : Nat} {b : Nat → Option Nat} {Q : State → Prop}
theorem pm_called {H : Heap} {locs : List Loc} {cells slots mc ms pc : Nat} {ls : Array Slot} {st0 rest : List Value} {h' : pm_H} {r : Option Value} {a : Array Value} (hr : va_Run p l e R s m args below meth c H locs cells slots mc ms (F0 m pc ls st0) rest (pm_Qc D aC B b h' r a) (fun q => B ≤ q)) (hS : va_S (fun q => B ≤ q) s.heap H locs) (hB : B ≤ s.heap.size)
    (kk : ∀ (H1 : Heap) (locs1 : List Loc), H1.size = B + h'.length → va_P D vwCl (pm_w B b aC h') H1 → va_S (fun q => B ≤ q) s.heap H1 locs1 → W p l e R s m args below meth c H1 locs1 (cells + mc) (slots + ms) Q (F0 m (pc + 3) ls ((r.map (pm_v B b)).toList ++ rest))) : W p l e R s m args below meth c H locs cells slots Q (F0 m pc ls st0) := by
  intro T hT X
  obtain ⟨v, st₀, t, T', L, h0, X', hL, e1, e2, ⟨hv, hz, hP, hg, hk⟩, st⟩ := hr T hT X
  have hv : v = r.map (pm_v B b) := by injection hv
  subst hv
  rw [h0] at hg hk
  obtain ⟨t2, a1, b1⟩ := kk T'.heap (locs ++ L) (by rw [e1]; exact hz) (by rw [e1]; exact hP) ⟨Nat.le_trans hS.1 (by rw [e1]; exact hg), fun q h1 h2 => by rw [e1, hk q (Nat.not_le.mp h2)]; exact hS.2.1 q h1 h2, fun q hq => by
      rcases List.mem_append.mp hq with h | h
      · exact hS.2.2 q h
      · exact hL q h⟩ T' rfl X'
  exact ⟨t2, st t2 a1, b1⟩
end PMC
/-- a call of the pure machine is one of the machine -/
noncomputable def pm_okC (cc : ByteArray) (own : String) (nL : Nat) (ini : Bool) (pc : Nat) (y : MethodName) (bytes : ByteArray) (maxL : Nat) (ret : Option FieldType) (k : Nat) (ci : Option Nat) (mc ms : Nat) : Prop :=
  ∀ (p : Program) (l : Launch) (e : Env) (R : Room) (s : State) (m : MethodId) (args : Array Value) (below : List Frame) (meth : Method) (c : Code) (D : va_G) (aC : Nat → ClassId) (B : Nat) (b : Nat → Option Nat) (Q : State → Prop),
    pm_C p s m args meth c cc own nL ini D aC B b → ∀ (rF rL : Nat), rF + 1 ≤ R.frames → rL + 100 ≤ R.locals → ∀ (lv : List (Nat × Value)) (st : List Value) (w : pm_H × Nat × Nat) (h' : pm_H) (r : Option Value), pm_chk k ci mc ms st w → pm_Mt l D aC B b y bytes maxL ret rF rL mc ms w.1 (st.take k).reverse h' r →
      pm_W p l e R s m args below meth c nL D aC B b Q (pc + 3, lv, r.toList ++ st.drop k, h', w.2.1 - mc, w.2.2 - ms) → pm_W p l e R s m args below meth c nL D aC B b Q (pc, lv, st, w)
theorem pm_good {y : MethodName} {bytes : ByteArray} {maxL : Nat} {ret : Option FieldType} (hcw : Cond.code y bytes maxL ret ∈ pm_T) : GoodIn pm_T (.code y bytes maxL ret :: pm_T) := by
  intro w hw
  rcases List.mem_cons.mp hw with rfl | hw
  · exact ⟨hcw, pm_T_word hcw⟩
  · exact ⟨hw, pm_T_word hw⟩
theorem pm_st_split {st : List Value} {k : Nat} (h : k ≤ st.length) : st = (st.take k).reverse.reverse ++ st.drop k := by
  rw [List.reverse_reverse, List.take_append_drop]
theorem pm_len_as {st : List Value} {k : Nat} (h : k ≤ st.length) : (st.take k).reverse.length = k := by
  rw [List.length_reverse, List.length_take]; omega
theorem pm_toList (B : Nat) (b : Nat → Option Nat) (r : Option Value) (st : List Value) : (r.toList ++ st).map (pm_v B b) = (r.map (pm_v B b)).toList ++ st.map (pm_v B b) := by
  cases r <;> simp
theorem k_callV {cc : ByteArray} {own : String} {nL pc : Nat} {ini : Bool} {index : Nat} {y : MethodName} {bytes : ByteArray} {maxL : Nat} {ret : Option FieldType} {n ci mc ms N : Nat} {T : u_T} (hd : decode cc pc = .ok (.invokevirtual index, 3)) (hc : vwCl[ci]? = some (y.cls, T, N)) (hcw : Cond.code y bytes maxL ret ∈ pm_T) (hw1 : Cond.methodLink own index y ∈ pm_T) (hw2 : Cond.instanceMethod y ∈ pm_T) (hw3 : Cond.selects y.cls y y ∈ pm_T) (hw4 : Cond.initialized y.cls ∈ pm_T) (hdesc : y.cls ≠ "java/lang/invoke/MethodHandle" ∧ y.cls ≠ "java/lang/invoke/VarHandle" ∧ (parseMethodDescriptor y.desc).map (fun d => d.parameters.length) = some n) (hL : maxL ≤ 80) (hci : ci < 100) : pm_okC cc own nL ini pc y bytes maxL ret (n + 1) (some ci) mc ms := by
  intro p l e R s m args below meth c D aC B b Q Cx rF rL hR1 hR2 lv st w h' r hch hM kk
  intro H locs ls cells slots h1 h2 h3 h4 h5 h6
  obtain ⟨c1, c2, c3, c4, c5⟩ := hch
  obtain ⟨a, fs, as, e1, e2⟩ := (c2 ci rfl).1 hci
  have hst := pm_st_split c1
  have hlen := pm_len_as c1
  simp only at h2 h3 h5 h6
  rw [e1] at hM hst hlen
  generalize hrest : st.drop (n + 1) = rest at hst kk c3
  subst hst
  refine pm_called (rest := rest.map (pm_v B b)) (va_runV (As := as.map (pm_v B b)) (b := B + a) (n := n) ⟨Cx.1, Cx.2.1, Cx.2.2.1, Cx.2.2.2.1, Cx.2.2.2.2.1⟩ hM (cwV n Cx.2.2.2.2.1 ?_ rfl rfl rfl ⟨rfl, hdesc⟩ ⟨hR1, by show 8 + (maxL + 11) + rL ≤ R.locals; omega⟩) ⟨pm_Pc_blind D aC B b w.1 (.ref a :: as), va_recv Cx.2.2.2.2.2.1.1 h3 hc (pm_w_at e2), fun U hU hW => ⟨rfl, by rw [hU]; exact h2, by rw [hU]; exact h3, Cx.2.2.2.2.2.1.moved hW hU h4⟩⟩ rfl (by simp at hlen ⊢; omega) h1.1 (by simp [List.map_append]; rfl) (lv_room (by rw [pm_sz_v]; exact c3)) hd ⟨by omega, by omega⟩) h4 Cx.2.2.2.2.2.2.1 (fun H1 locs1 z1 g1 g2 => ?_)
  · intro x hx
    rcases List.mem_append.mp hx with hx | hx
    · have : x ∈ pm_T := by
        simp only [List.mem_cons, List.not_mem_nil, or_false] at hx
        rcases hx with rfl | rfl | rfl | rfl
        · exact hw1
        · exact hw2
        · exact hw3
        · exact hw4
      exact ⟨this, pm_T_word this⟩
    · exact pm_good hcw x hx
  · have k2 := kk H1 locs1 ls (cells + mc) (slots + ms) h1 z1 g1 g2 (by simp only; omega) (by simp only; omega)
    simp only [pm_toList] at k2
    exact k2
theorem k_callS {cc : ByteArray} {own : String} {nL pc : Nat} {ini : Bool} {index : Nat} {y : MethodName} {bytes : ByteArray} {maxL : Nat} {ret : Option FieldType} {n mc ms : Nat} (hd : decode cc pc = .ok (.invokestatic index, 3)) (hcw : Cond.code y bytes maxL ret ∈ pm_T) (hw1 : Cond.methodLink own index y ∈ pm_T) (hw2 : Cond.static y ∈ pm_T) (hw4 : Cond.initialized y.cls ∈ pm_T) (hdesc : y.cls ≠ "java/lang/invoke/MethodHandle" ∧ y.cls ≠ "java/lang/invoke/VarHandle" ∧ (parseMethodDescriptor y.desc).map (fun d => d.parameters.length) = some n) (hL : maxL ≤ 80) : pm_okC cc own nL ini pc y bytes maxL ret n none mc ms := by
  intro p l e R s m args below meth c D aC B b Q Cx rF rL hR1 hR2 lv st w h' r hch hM kk
  intro H locs ls cells slots h1 h2 h3 h4 h5 h6
  obtain ⟨c1, c2, c3, c4, c5⟩ := hch
  have hst := pm_st_split c1
  have hlen := pm_len_as c1
  simp only at h2 h3 h5 h6
  generalize hrest : st.drop n = rest at hst kk c3
  generalize has : (st.take n).reverse = as at hM hst hlen
  subst hst
  refine pm_called (rest := rest.map (pm_v B b)) (va_runS (As := as.map (pm_v B b)) (n := n) ⟨Cx.1, Cx.2.1, Cx.2.2.1, Cx.2.2.2.1, Cx.2.2.2.2.1⟩ hM ⟨callB_of n Cx.2.2.2.2.1 (pm_good hcw) rfl rfl rfl (Cx.2.2.2.2.1 _ hw4) (Cx.2.2.2.2.1 _ hw1) hdesc ⟨hR1, by show 8 + (maxL + 11) + rL ≤ R.locals; omega⟩, Cx.2.2.2.2.1 _ hw2⟩ ⟨pm_Pc_blind D aC B b w.1 as, fun U hU hW => ⟨rfl, by rw [hU]; exact h2, by rw [hU]; exact h3, Cx.2.2.2.2.2.1.moved hW hU h4⟩⟩ rfl (by rw [List.length_map]; exact hlen) h1.1 (by simp [List.map_append]) (lv_room (by rw [pm_sz_v]; exact c3)) hd ⟨by omega, by omega⟩) h4 Cx.2.2.2.2.2.2.1 (fun H1 locs1 z1 g1 g2 => ?_)
  have k2 := kk H1 locs1 ls (cells + mc) (slots + ms) h1 z1 g1 g2 (by simp only; omega) (by simp only; omega)
  simp only [pm_toList] at k2
  exact k2
theorem k_callI {cc : ByteArray} {own : String} {nL pc : Nat} {ini : Bool} {index : Nat} {y : MethodName} {bytes : ByteArray} {maxL : Nat} {n ci mc ms : Nat} (hd : decode cc pc = .ok (.invokespecial index, 3)) (hcw : Cond.code y bytes maxL none ∈ pm_T) (hw1 : Cond.methodLink own index y ∈ pm_T) (hw2 : Cond.instanceMethod y ∈ pm_T) (hw4 : Cond.initialized y.cls ∈ pm_T) (hnm : y.name = "<init>") (hdesc : y.cls ≠ "java/lang/invoke/MethodHandle" ∧ y.cls ≠ "java/lang/invoke/VarHandle" ∧ (parseMethodDescriptor y.desc).map (fun d => d.parameters.length) = some n) (hL : maxL ≤ 80) (hci : ci < 100) : pm_okC cc own nL ini pc y bytes maxL none (n + 1) (some ci) mc ms := by
  intro p l e R s m args below meth c D aC B b Q Cx rF rL hR1 hR2 lv st w h' r hch hM kk
  intro H locs ls cells slots h1 h2 h3 h4 h5 h6
  obtain ⟨c1, c2, c3, c4, c5⟩ := hch
  obtain ⟨a, fs, as, e1, e2⟩ := (c2 ci rfl).1 hci
  have hst := pm_st_split c1
  have hlen := pm_len_as c1
  simp only at h2 h3 h5 h6
  rw [e1] at hM hst hlen
  generalize hrest : st.drop (n + 1) = rest at hst kk c3
  subst hst
  refine pm_called (rest := rest.map (pm_v B b)) (va_runI (As := as.map (pm_v B b)) (b := B + a) (n := n) ⟨Cx.1, Cx.2.1, Cx.2.2.1, Cx.2.2.2.1, Cx.2.2.2.2.1⟩ hM (cwI n Cx.2.2.2.2.1 (pm_good hcw) rfl rfl rfl (Cx.2.2.2.2.1 _ hw4) (Cx.2.2.2.2.1 _ hw1) (Cx.2.2.2.2.1 _ hw2) hnm hdesc ⟨hR1, by show 8 + (maxL + 11) + rL ≤ R.locals; omega⟩) ⟨pm_Pc_blind D aC B b w.1 (.ref a :: as), fun U hU hW => ⟨rfl, by rw [hU]; exact h2, by rw [hU]; exact h3, Cx.2.2.2.2.2.1.moved hW hU h4⟩⟩ rfl (by simp at hlen ⊢; omega) h1.1 (by simp [List.map_append]; rfl) (lv_room (by rw [pm_sz_v]; exact c3)) hd ⟨by omega, by omega⟩) h4 Cx.2.2.2.2.2.2.1 (fun H1 locs1 z1 g1 g2 => ?_)
  have k2 := kk H1 locs1 ls (cells + mc) (slots + ms) h1 z1 g1 g2 (by simp only; omega) (by simp only; omega)
  simp only [pm_toList] at k2
  exact k2
end
section
/-! THE PURE MACHINE, part 5: a method by its run, to any depth of calls; the law's own rows -/
/-- name, code, locals, answer's type, class, constructor, cells, slots, rows -/
noncomputable abbrev pm_M : Type := MethodName × ByteArray × Nat × Option FieldType × Bool × Nat × Nat × List (Nat × pm_I)
/-- the methods' runs, calls at most d deep -/
noncomputable def pm_Rt (P : List (Nat × pm_M)) : Nat → pm_Call
  | 0 => fun _ _ _ _ _ => False
  | d + 1 => fun y h as h' r => ∃ I : pm_M, pm_at P y = some I ∧ (lg_sl as).length ≤ I.2.2.1 ∧ pm_Go (pm_at I.2.2.2.2.2.2.2) (pm_Rt P d) (0, lv_args 0 as, [], h, I.2.2.2.2.2.1, I.2.2.2.2.2.2.1) (h', r)
/-- a return of the pure machine is one of the machine -/
noncomputable def pm_okR (cc : ByteArray) (ret : Option FieldType) (pc kd : Nat) : Prop := match kd with
  | 0 => ret = none ∧ decode cc pc = .ok (.return_, 1)
  | 1 => ret = some .int ∧ decode cc pc = .ok (.ireturn, 1)
  | 2 => ret = some .boolean ∧ decode cc pc = .ok (.ireturn, 1)
  | 3 => ret = some .long ∧ decode cc pc = .ok (.lreturn, 1)
  | 4 => ret = some .byte ∧ decode cc pc = .ok (.ireturn, 1)
  | _ => ret = some .char ∧ decode cc pc = .ok (.ireturn, 1)
/-- a row is sound: its step, its call, its return -/
noncomputable def pm_ok (P : List (Nat × pm_M)) (cc : ByteArray) (own : String) (nL : Nat) (ini : Bool) (ret : Option FieldType) (q : Nat × pm_I) : Prop := match q.2 with
  | .inl f => pm_okF cc own nL ini q.1 f
  | .inr (.inl (y, k, ci, mc, ms)) => ∃ I : pm_M, pm_at P y = some I ∧ I.2.2.2.2.2.1 = mc ∧ I.2.2.2.2.2.2.1 = ms ∧ pm_okC cc own nL ini q.1 I.1 I.2.1 I.2.2.1 I.2.2.2.1 k ci mc ms
  | .inr (.inr kd) => pm_okR cc ret q.1 kd
noncomputable def pm_okM (P : List (Nat × pm_M)) (I : pm_M) : Prop := plainFor I.1 = true ∧ (I.2.2.2.2.1 = true → I.1.name = "<init>") ∧ ∀ q ∈ I.2.2.2.2.2.2.2, pm_ok P I.2.1 I.1.cls I.2.2.1 I.2.2.2.2.1 I.2.2.2.1 q
section PMR
variable {p : Program} {l : Launch} {e : Env} {R : Room} {s : State} {m : MethodId} {args : Array Value} {below : List Frame} {meth : Method} {c : Code} {nL : Nat} {D : va_G} {aC : Nat → ClassId} {B : Nat} {b : Nat → Option Nat} {Q : State → Prop}
/-- a run of the pure machine is one of the machine -/
theorem pm_run {look : Nat → Option pm_I} {call : pm_Call} {o : pm_H × Option Value}
    (hF : ∀ (pc : Nat) (f : pm_S → Option pm_S), look pc = some (.inl f) → ∀ (lv : List (Nat × Value)) (st : List Value) (w : pm_H × Nat × Nat) (σ' : pm_S), f (pc, lv, st, w) = some σ' → pm_W p l e R s m args below meth c nL D aC B b Q σ' → pm_W p l e R s m args below meth c nL D aC B b Q (pc, lv, st, w))
    (hC : ∀ (pc y k : Nat) (ci : Option Nat) (mc ms : Nat), look pc = some (.inr (.inl (y, k, ci, mc, ms))) → ∀ (lv : List (Nat × Value)) (st : List Value) (w : pm_H × Nat × Nat) (h' : pm_H) (r : Option Value), call y w.1 (st.take k).reverse h' r → pm_chk k ci mc ms st w → pm_W p l e R s m args below meth c nL D aC B b Q (pc + 3, lv, r.toList ++ st.drop k, h', w.2.1 - mc, w.2.2 - ms) → pm_W p l e R s m args below meth c nL D aC B b Q (pc, lv, st, w))
    (hR : ∀ (pc kd : Nat), look pc = some (.inr (.inr kd)) → ∀ (lv : List (Nat × Value)) (st : List Value) (w : pm_H × Nat × Nat), pm_ret kd st w.1 o → pm_W p l e R s m args below meth c nL D aC B b Q (pc, lv, st, w)) :
    ∀ (n : Nat) (σ : pm_S), pm_go look call n σ o → pm_W p l e R s m args below meth c nL D aC B b Q σ := by
  intro n
  induction n with
  | zero => intro σ h; exact h.elim
  | succ n ih =>
    intro σ h
    obtain ⟨pc, lv, st, w⟩ := σ
    unfold pm_go at h
    simp only at h
    cases ha : look pc with
    | none => rw [ha] at h; exact h.elim
    | some x =>
      rw [ha] at h
      match x, ha, h with
      | .inl f, ha, h =>
        simp only at h
        cases hf : f (pc, lv, st, w) with
        | none => rw [hf] at h; exact h.elim
        | some σ' =>
          rw [hf] at h
          exact hF pc f ha lv st w σ' hf (ih σ' h)
      | .inr (.inl (y, k, ci, mc, ms)), ha, h =>
        obtain ⟨h', r, c1, c2, c3⟩ := h
        exact hC pc y k ci mc ms ha lv st w h' r c1 c2 (ih _ c3)
      | .inr (.inr kd), ha, h => exact hR pc kd ha lv st w h
end PMR
theorem pm_args (B : Nat) (b : Nat → Option Nat) : ∀ (as : List Value) (i : Nat), lv_args i (as.map (pm_v B b)) = (lv_args i as).map (pm_q B b)
  | [], _ => rfl
  | v :: as, i => by
    simp only [List.map_cons, lv_args, pm_v_cat]
    rw [pm_args B b as]
    rfl
theorem pm_sl (B : Nat) (b : Nat → Option Nat) (as : List Value) : (lg_sl (as.map (pm_v B b))).length = (lg_sl as).length := by
  induction as with
  | nil => rfl
  | cons v as ih =>
    simp only [lg_sl, List.map_cons, List.flatMap_cons, List.length_append, pm_v_cat] at ih ⊢
    rw [ih]
    split <;> rfl
/-- a method of a plain name, or with no entry in place of its code -/
theorem pm_ofW {l : Launch} {y : MethodName} {ws ws' : List Cond} {rm : Room} {Pc : Array Value → State → Prop} {Qc : Array Value → State → Outcome → State → Prop} {mc ms : Nat} {free : Addr → Prop} {cc : ByteArray} {maxL : Nat} {ret : Option FieldType}
    (hy : plainFor y = true) (hw : ws = Cond.code y cc maxL ret :: ws')
    (body : ∀ p e s m args below meth c s₁, BodyLoose p l y (headSpec ws rm) cc maxL ret e s m args below meth c s₁ → c.maxLocals = maxL → Pc args s →
      W p l e (headSpec ws rm).room s m args below meth c s.heap [] 0 0 (MQ below Qc args s mc ms free) (entryFrame m args maxL)) : Met l y ws rm Pc Qc mc ms free := by
  refine MetFree.of_bodySF (code := cc) (maxLocals := maxL) (ret := ret) hy ?_ ?_
  · intro args s m h hn
    obtain ⟨meth, c, h1, h2, h3, h4, h5, h6, -, -⟩ := Cond.code_spec hn (atoms_spec (ws := ws) h _ (by rw [hw]; exact List.mem_cons_self))
    exact ⟨meth, c, h1, h2, h3, h4, h5, h6⟩
  · intro p e s m args below meth c s₁ Bd hml hP _
    have hh0 : s₁.heap = s.heap := by rw [Bd.state]; rfl
    obtain ⟨t, a1, o, b1, b2, b3⟩ := body p e s m args below meth c s₁ Bd hml hP s₁ hh0 (Stand.of_body Bd)
    exact ⟨t, o, a1, b1, b2, ⟨b3.1, b3.2⟩⟩
/-- every method of the program, calls at most d deep -/
theorem pm_sound {P : List (Nat × pm_M)} (hP : ∀ q ∈ P, pm_okM P q.2) (l : Launch) (D : va_G) (aC : Nat → ClassId) (B : Nat) (b : Nat → Option Nat) : ∀ (d y : Nat) (h : pm_H) (as : List Value) (h' : pm_H) (r : Option Value) (I : pm_M), pm_at P y = some I → pm_Rt P d y h as h' r → pm_Mt l D aC B b I.1 I.2.1 I.2.2.1 I.2.2.2.1 (d + 1) (100 * (d + 1)) I.2.2.2.2.2.1 I.2.2.2.2.2.2.1 h as h' r := by
  intro d
  induction d with
  | zero => intro y h as h' r I _ hr; exact hr.elim
  | succ d ih =>
    intro y h as h' r I hI hr
    obtain ⟨I', hI', hlen, n, hgo⟩ := hr
    obtain rfl : I' = I := Option.some.inj (hI'.symm.trans hI)
    have hok := hP _ (pm_at_in hI)
    obtain ⟨yn, bytes, maxL, ret, ini, mc, ms, tab⟩ := I'
    obtain ⟨hpl, hini, hrows⟩ := hok
    dsimp only at hlen hgo hpl hini hrows ⊢
    refine pm_ofW (cc := bytes) (maxL := maxL) (ret := ret) hpl rfl ?_
    intro p e s m args below meth c s₁ Bd hml hv
    obtain ⟨rfl, hsz, hPw, hK⟩ := hv
    have hts := atoms_spec (ws := .code yn bytes maxL ret :: pm_T) Bd.pre
    have hown : s.vm.findClass yn.cls = some m.cls := findClass_of_methodNamed Bd.named
    have hlocks := Bd.notSynchronized
    have hBs : B ≤ s.heap.size := by rw [hsz]; exact Nat.le_add_right _ _
    have Cx : pm_C p s m ((as.map (pm_v B b)).toArray) meth c bytes yn.cls maxL ini D aC B b := ⟨Bd.exec, Bd.bytes, hml, hown, fun w hw => hts w (List.mem_cons_of_mem _ hw), hK, hBs, fun hi => by rw [← hini hi]; exact (name_of_methodNamed Bd.named Bd.method).1⟩
    have hl := lv_entry (as.map (pm_v B b)) (n := maxL) (by rw [pm_sl]; exact hlen)
    rw [pm_args] at hl
    rw [lg_entry_eq]
    refine pm_run (look := pm_at tab) (call := pm_Rt P d) (o := (h', r)) ?_ ?_ ?_ n _ hgo s.heap [] _ 0 0 hl hsz hPw va_S.rf (by show 0 + mc ≤ mc; omega) (by show 0 + ms ≤ ms; omega)
    · intro pc f ha lv st w σ' hf k
      have hq : pm_okF bytes yn.cls maxL ini pc f := hrows _ (pm_at_in ha)
      exact hq p l e _ s m _ below meth c D aC B b _ Cx (by show 1 ≤ d + 1 + 1; omega) (by show 100 ≤ 100 * (d + 1 + 1); omega) lv st w σ' hf k
    · intro pc y2 k ci mc2 ms2 ha lv st w h2 r2 hcall hch kk
      obtain ⟨I2, e1, e2, e3, e4⟩ : ∃ I : pm_M, pm_at P y2 = some I ∧ I.2.2.2.2.2.1 = mc2 ∧ I.2.2.2.2.2.2.1 = ms2 ∧ pm_okC bytes yn.cls maxL ini pc I.1 I.2.1 I.2.2.1 I.2.2.2.1 k ci mc2 ms2 := hrows _ (pm_at_in ha)
      subst e2; subst e3
      exact e4 p l e _ s m _ below meth c D aC B b _ Cx (d + 1) (100 * (d + 1)) (by show d + 1 + 1 ≤ d + 1 + 1; omega) (by show 100 * (d + 1) + 100 ≤ 100 * (d + 1 + 1); omega) lv st w h2 r2 hch (ih y2 w.1 _ h2 r2 I2 e1 hcall) kk
    · intro pc kd ha lv st w hret
      have hq : pm_okR bytes ret pc kd := hrows _ (pm_at_in ha)
      intro H locs ls cells slots h1 h2 h3 h4 h5 h6
      dsimp only at h1 h2 h3 h5 h6
      have hQ : ∀ t : State, t.heap = H → ∀ r0 : Option Value, (h', r) = (w.1, r0) → pm_Qc D aC B b h' r ((as.map (pm_v B b)).toArray) s (.returned (r0.map (pm_v B b))) t := by
        intro t ht r0 ho
        cases ho
        refine ⟨rfl, by rw [ht]; exact h2, by rw [ht]; exact h3, by rw [ht]; exact h4.1, fun q hq => ?_⟩
        rw [ht]
        exact h4.2.1 q (Nat.lt_of_lt_of_le hq hBs) (Nat.not_le.mpr hq)
      have hcc : cells ≤ mc := by
        have z : cells + w.2.1 ≤ mc := h5
        omega
      have hss : slots ≤ ms := by
        have z : slots + w.2.2 ≤ ms := h6
        omega
      refine W.widen hcc hss ?_
      match kd, hq, hret with
      | 0, hq, hret =>
        obtain ⟨rfl, ho⟩ := hret
        exact W.vret Bd.exec Bd.bytes (Bd.returns.trans hq.1) (fun t ht hW => hQ t ht none ho) h4.2.2 hq.2
      | 1, hq, hret =>
        obtain ⟨v, rfl, ho⟩ := hret
        exact W.iret Bd.exec Bd.bytes (Bd.returns.trans hq.1) (fun t ht hW => hQ t ht (some (.int v)) ho) h4.2.2 hq.2
      | 2, hq, hret =>
        obtain ⟨v, rfl, hv, ho⟩ := hret
        exact W.zret Bd.exec Bd.bytes (Bd.returns.trans hq.1) (by rcases hv with rfl | rfl <;> rfl) (fun t ht hW => hQ t ht (some (.int v)) ho) h4.2.2 hq.2
      | 4, hq, hret =>
        obtain ⟨v, rfl, hv, ho⟩ := hret
        exact W.zret Bd.exec Bd.bytes (Bd.returns.trans hq.1) hv (fun t ht hW => hQ t ht (some (.int v)) ho) h4.2.2 hq.2
      | k + 5, hq, hret =>
        obtain ⟨v, rfl, hv, ho⟩ := hret
        exact W.zret Bd.exec Bd.bytes (Bd.returns.trans hq.1) hv (fun t ht hW => hQ t ht (some (.int v)) ho) h4.2.2 hq.2
      | 3, hq, hret =>
        obtain ⟨v, rfl, ho⟩ := hret
        exact W.lret Bd.exec Bd.bytes (Bd.returns.trans hq.1) (fun t ht hW => hQ t ht (some (.long v)) ho) h4.2.2 hq.2
end
section
/-! THE PURE MACHINE, part 6: the law's own rows (its script), switches, tables in blocks -/
/-- a step of the law, which may read its script of L ints xs -/
noncomputable def pm_okX (cc : ByteArray) (own : String) (nL L : Nat) (xs : Nat → Int32) (pc : Nat) (f : pm_S → Option pm_S) : Prop :=
  ∀ (p : Program) (l : Launch) (e : Env) (R : Room) (s : State) (m : MethodId) (args : Array Value) (below : List Frame) (meth : Method) (c : Code) (D : va_G) (aC : Nat → ClassId) (B : Nat) (b : Nat → Option Nat) (Q : State → Prop),
    pm_C p s m args meth c cc own nL false D aC B b → ∀ bb : Nat, b 0 = some bb → va_X bb L xs s s.heap → bb < B → 1 ≤ R.frames → 100 ≤ R.locals → ∀ (lv : List (Nat × Value)) (st : List Value) (w : pm_H × Nat × Nat) (σ' : pm_S), f (pc, lv, st, w) = some σ' →
      pm_W p l e R s m args below meth c nL D aC B b Q σ' → pm_W p l e R s m args below meth c nL D aC B b Q (pc, lv, st, w)
theorem pm_okX_of {cc : ByteArray} {own : String} {nL L pc : Nat} {xs : Nat → Int32} {f : pm_S → Option pm_S} (h : pm_okF cc own nL false pc f) : pm_okX cc own nL L xs pc f :=
  fun p l e R s m args below meth c D aC B b Q C _ _ _ _ h1 h2 => h p l e R s m args below meth c D aC B b Q C h1 h2
noncomputable def s_sld (L : Nat) (xs : Nat → Int32) (n : Nat) : pm_S → Option pm_S := fun σ => match σ.2.2.1 with
  | .int i :: .retAddr 0 :: st => bif pm_ix i L then some (n, σ.2.1, .int (xs i.toNatClampNeg) :: st, σ.2.2.2) else none
  | _ => none
theorem k_sld {cc : ByteArray} {own : String} {nL L pc : Nat} {xs : Nat → Int32} (hd : decode cc pc = .ok (.iaload, 1)) : pm_okX cc own nL L xs pc (s_sld L xs (pc + 1)) := by
  intro p l e R s m args below meth c D aC B b Q Cx bb hb0 hX hbB hR1 hR2 lv st w σ' hf kk
  simp only [s_sld] at hf
  split at hf
  · rename_i i st
    cases hb : pm_ix i L with
    | false => rw [hb] at hf; cases hf
    | true =>
      rw [hb] at hf
      obtain rfl := Option.some.inj hf
      intro H locs ls cells slots h1 h2 h3 h4 h5 h6
      simp only [List.map_cons, pm_v, hb0]
      exact va_sld (A := fun q => B ≤ q) Cx.1 Cx.2.1 hX (Nat.lt_of_lt_of_le hbB Cx.2.2.2.2.2.2.1) (Nat.not_le.mpr hbB) h4 (pm_ix_in hb) hd (kk H locs ls cells slots h1 h2 h3 h4 h5 h6)
  · cases hf
noncomputable def s_slen (L : Nat) (n : Nat) : pm_S → Option pm_S := fun σ => match σ.2.2.1 with
  | .retAddr 0 :: st => some (n, σ.2.1, .int (Int32.ofNat L) :: st, σ.2.2.2)
  | _ => none
theorem k_slen {cc : ByteArray} {own : String} {nL L pc : Nat} {xs : Nat → Int32} (hd : decode cc pc = .ok (.arraylength, 1)) : pm_okX cc own nL L xs pc (s_slen L (pc + 1)) := by
  intro p l e R s m args below meth c D aC B b Q Cx bb hb0 hX hbB hR1 hR2 lv st w σ' hf kk
  simp only [s_slen] at hf
  split at hf
  · rename_i st
    obtain rfl := Option.some.inj hf
    intro H locs ls cells slots h1 h2 h3 h4 h5 h6
    simp only [List.map_cons, pm_v, hb0]
    exact va_slen (A := fun q => B ≤ q) Cx.1 Cx.2.1 hX (Nat.lt_of_lt_of_le hbB Cx.2.2.2.2.2.2.1) (Nat.not_le.mpr hbB) h4 hd (kk H locs ls cells slots h1 h2 h3 h4 h5 h6)
  · cases hf
noncomputable def s_tsw (lo hi : Int) (ts : List Nat) (d : Nat) : pm_S → Option pm_S := fun σ => match σ.2.2.1 with
  | .int x :: st => bif decide (x.toInt < lo) || decide (hi < x.toInt) then some (d, σ.2.1, st, σ.2.2.2) else (match ts[(x.toInt - lo).toNat]? with | some t => some (t, σ.2.1, st, σ.2.2.2) | none => none)
  | _ => none
theorem k_tsw {cc : ByteArray} {own : String} {nL pc : Nat} {ini : Bool} {dflt lo hi : Int} {offs : Array Int} {len d : Nat} {ts : List Nat} (hd : decode cc pc = .ok (.tableswitch dflt lo hi offs, len)) (h0 : (pc : Int) + dflt = (d : Int)) (ht : offs.toList.map (fun o => (pc : Int) + o) = ts.map (fun t : Nat => (t : Int))) : pm_okF cc own nL ini pc (s_tsw lo hi ts d) := by
  intro p l e R s m args below meth c D aC B b Q Cx hR1 hR2 lv st w σ' hf kk
  simp only [s_tsw] at hf
  split at hf
  · rename_i x st
    cases hb : (decide (x.toInt < lo) || decide (hi < x.toInt)) with
    | true =>
      rw [hb] at hf
      obtain rfl := Option.some.inj hf
      intro H locs ls cells slots h1 h2 h3 h4 h5 h6
      refine lv_tableOut Cx.1 Cx.2.1 hd ?_ h0 (kk H locs ls cells slots h1 h2 h3 h4 h5 h6)
      simpa using hb
    | false =>
      rw [hb] at hf
      simp only [cond_false] at hf
      have hb2 : ¬ x.toInt < lo ∧ ¬ hi < x.toInt := by simpa using hb
      split at hf
      · rename_i t htt
        obtain rfl := Option.some.inj hf
        have e1 : (offs.toList.map (fun o => (pc : Int) + o))[(x.toInt - lo).toNat]? = some (t : Int) := by rw [ht, List.getElem?_map, htt]; rfl
        rw [List.getElem?_map] at e1
        cases ho : offs.toList[(x.toInt - lo).toNat]? with
        | none => rw [ho] at e1; cases e1
        | some o =>
          rw [ho] at e1
          intro H locs ls cells slots h1 h2 h3 h4 h5 h6
          exact lv_tableIn Cx.1 Cx.2.1 hd hb2.1 hb2.2 (by rw [← Array.getElem?_toList]; exact ho) (Option.some.inj e1) (kk H locs ls cells slots h1 h2 h3 h4 h5 h6)
      · cases hf
  · cases hf
/-- tables in blocks: each with a bound above its places -/
noncomputable def pm_tr : List (Nat × List (Nat × pm_I)) → Nat → Option pm_I
  | [], _ => none
  | q :: l, pc => bif Nat.blt pc q.1 then pm_at q.2 pc else pm_tr l pc
theorem pm_tr_in {pc : Nat} {x : pm_I} : ∀ {l : List (Nat × List (Nat × pm_I))}, pm_tr l pc = some x → ∃ q ∈ l, (pc, x) ∈ q.2
  | [], h => by cases h
  | q :: l, h => by
    unfold pm_tr at h
    cases hb : Nat.blt pc q.1 with
    | true =>
      rw [hb] at h
      exact ⟨q, List.mem_cons_self, pm_at_in h⟩
    | false =>
      rw [hb] at h
      obtain ⟨q', h1, h2⟩ := pm_tr_in (l := l) h
      exact ⟨q', List.mem_cons_of_mem _ h1, h2⟩
/-- a row of the law is sound -/
noncomputable def pm_okL (P : List (Nat × pm_M)) (L : Nat) (xs : Nat → Int32) (q : Nat × pm_I) : Prop := match q.2 with
  | .inl f => pm_okX cL_law RL 4 L xs q.1 f
  | .inr (.inl (y, k, ci, mc, ms)) => ∃ I : pm_M, pm_at P y = some I ∧ I.2.2.2.2.2.1 = mc ∧ I.2.2.2.2.2.2.1 = ms ∧ pm_okC cL_law RL 4 false q.1 I.1 I.2.1 I.2.2.1 I.2.2.2.1 k ci mc ms
  | .inr (.inr kd) => kd = 2 ∧ decode cL_law q.1 = .ok (.ireturn, 1)
theorem pm_t0 {w : Cond} (i : Nat) (h : (k2_sels lw_privs)[i]? = some w) (hg : goodWord w = true) : w ∈ pm_T := List.mem_filter.mpr ⟨List.mem_append_left _ (List.mem_of_getElem? h), hg⟩
theorem pm_t1 {w : Cond} (i : Nat) (h : tables_1_1[i]? = some w) (hg : goodWord w = true) : w ∈ pm_T := List.mem_filter.mpr ⟨List.mem_append_right _ (List.mem_append_left _ (List.mem_of_getElem? h)), hg⟩
theorem pm_t2 {w : Cond} (i : Nat) (h : tables_1_2[i]? = some w) (hg : goodWord w = true) : w ∈ pm_T := List.mem_filter.mpr ⟨List.mem_append_right _ (List.mem_append_right _ (List.mem_append_left _ (List.mem_of_getElem? h))), hg⟩
theorem pm_t3 {w : Cond} (i : Nat) (h : tables_1_3[i]? = some w) (hg : goodWord w = true) : w ∈ pm_T := List.mem_filter.mpr ⟨List.mem_append_right _ (List.mem_append_right _ (List.mem_append_right _ (List.mem_append_left _ (List.mem_of_getElem? h)))), hg⟩
theorem pm_t4 {w : Cond} (i : Nat) (h : tables_1_4[i]? = some w) (hg : goodWord w = true) : w ∈ pm_T := List.mem_filter.mpr ⟨List.mem_append_right _ (List.mem_append_right _ (List.mem_append_right _ (List.mem_append_right _ (List.mem_append_left _ (List.mem_of_getElem? h))))), hg⟩
theorem pm_t5 {w : Cond} (i : Nat) (h : tables_1_5[i]? = some w) (hg : goodWord w = true) : w ∈ pm_T := List.mem_filter.mpr ⟨List.mem_append_right _ (List.mem_append_right _ (List.mem_append_right _ (List.mem_append_right _ (List.mem_append_right _ (List.mem_append_left _ (List.mem_of_getElem? h)))))), hg⟩
theorem pm_t6 {w : Cond} (i : Nat) (h : tables_1_6[i]? = some w) (hg : goodWord w = true) : w ∈ pm_T := List.mem_filter.mpr ⟨List.mem_append_right _ (List.mem_append_right _ (List.mem_append_right _ (List.mem_append_right _ (List.mem_append_right _ (List.mem_append_right _ (List.mem_append_left _ (List.mem_of_getElem? h))))))), hg⟩
theorem pm_t7 {w : Cond} (i : Nat) (h : tables_1_7[i]? = some w) (hg : goodWord w = true) : w ∈ pm_T := List.mem_filter.mpr ⟨List.mem_append_right _ (List.mem_append_right _ (List.mem_append_right _ (List.mem_append_right _ (List.mem_append_right _ (List.mem_append_right _ (List.mem_append_right _ (List.mem_append_left _ (List.mem_of_getElem? h)))))))), hg⟩
theorem pm_t8 {w : Cond} (i : Nat) (h : tables_1_8[i]? = some w) (hg : goodWord w = true) : w ∈ pm_T := List.mem_filter.mpr ⟨List.mem_append_right _ (List.mem_append_right _ (List.mem_append_right _ (List.mem_append_right _ (List.mem_append_right _ (List.mem_append_right _ (List.mem_append_right _ (List.mem_append_right _ (List.mem_append_left _ (List.mem_of_getElem? h))))))))), hg⟩
theorem pm_t9 {w : Cond} (i : Nat) (h : tables_1_9[i]? = some w) (hg : goodWord w = true) : w ∈ pm_T := List.mem_filter.mpr ⟨List.mem_append_right _ (List.mem_append_right _ (List.mem_append_right _ (List.mem_append_right _ (List.mem_append_right _ (List.mem_append_right _ (List.mem_append_right _ (List.mem_append_right _ (List.mem_append_right _ (List.mem_of_getElem? h))))))))), hg⟩
end
section
/-! THE PURE MACHINE, part 7: cells outside (static tables, Strings), nest mates, a copied row, small conversions -/
section PMO
variable {cc : ByteArray} {own : String} {nL pc : Nat} {ini : Bool}
theorem k_gets_fac {index : Nat} (hw : Cond.fieldLink own index RX8 "FACTORIALS" "[I" ∈ pm_T) (hd : decode cc pc = .ok (.getstatic index, 3)) : pm_okF cc own nL ini pc (s_const (.retAddr 1) (pc + 3)) := by
  intro p l e R s m args below meth c D aC B b Q Cx hR1 hR2 lv st w σ' hf k
  obtain rfl := Option.some.inj hf
  intro H locs ls cells slots h1 h2 h3 h4 h5 h6
  obtain ⟨⟨t, e1, hZ, hT⟩, -⟩ := Cx.2.2.2.2.2.1.2.2.2.2
  have k2 := k H locs ls cells slots h1 h2 h3 h4 h5 h6
  simp only [List.map_cons, pm_v, e1, va_rf] at k2
  exact va_gets (A := fun q => B ≤ q) Cx.1 Cx.2.1 hZ h4 Cx.2.2.2.1 (Cx.2.2.2.2.1 _ hw) (fun _ h9 => h9) hd k2
theorem k_gets_rbs {index : Nat} (hw : Cond.fieldLink own index RX8 "ROWS_BY_STEPS" "[I" ∈ pm_T) (hd : decode cc pc = .ok (.getstatic index, 3)) : pm_okF cc own nL ini pc (s_const (.retAddr 2) (pc + 3)) := by
  intro p l e R s m args below meth c D aC B b Q Cx hR1 hR2 lv st w σ' hf k
  obtain rfl := Option.some.inj hf
  intro H locs ls cells slots h1 h2 h3 h4 h5 h6
  obtain ⟨-, ⟨t, e1, hZ, hT⟩, -⟩ := Cx.2.2.2.2.2.1.2.2.2.2
  have k2 := k H locs ls cells slots h1 h2 h3 h4 h5 h6
  simp only [List.map_cons, pm_v, e1, va_rf] at k2
  exact va_gets (A := fun q => B ≤ q) Cx.1 Cx.2.1 hZ h4 Cx.2.2.2.1 (Cx.2.2.2.2.1 _ hw) (fun _ h9 => h9) hd k2
theorem k_gets_cs {index : Nat} (hw : Cond.fieldLink own index RJ0 "COMPACT_STRINGS" "Z" ∈ pm_T) (hd : decode cc pc = .ok (.getstatic index, 3)) : pm_okF cc own nL ini pc (s_const (.int 1) (pc + 3)) := by
  intro p l e R s m args below meth c D aC B b Q Cx hR1 hR2 lv st w σ' hf k
  obtain rfl := Option.some.inj hf
  intro H locs ls cells slots h1 h2 h3 h4 h5 h6
  obtain ⟨-, -, hZ, -⟩ := Cx.2.2.2.2.2.1.2.2.2.2
  exact va_gets (A := fun q => B ≤ q) Cx.1 Cx.2.1 hZ h4 Cx.2.2.2.1 (Cx.2.2.2.2.1 _ hw) (fun _ h9 => h9) hd (k H locs ls cells slots h1 h2 h3 h4 h5 h6)
theorem k_gets_fm {index : Nat} (hw : Cond.fieldLink own index RJ3 "SIOOBE_FORMATTER" "Ljava/util/function/BiFunction;" ∈ pm_T) (hd : decode cc pc = .ok (.getstatic index, 3)) : pm_okF cc own nL ini pc (s_const (.retAddr 3) (pc + 3)) := by
  intro p l e R s m args below meth c D aC B b Q Cx hR1 hR2 lv st w σ' hf k
  obtain rfl := Option.some.inj hf
  intro H locs ls cells slots h1 h2 h3 h4 h5 h6
  obtain ⟨-, -, -, hZ, -⟩ := Cx.2.2.2.2.2.1.2.2.2.2
  exact va_gets (A := fun q => B ≤ q) Cx.1 Cx.2.1 hZ h4 Cx.2.2.2.1 (Cx.2.2.2.2.1 _ hw) (fun _ h9 => h9) hd (k H locs ls cells slots h1 h2 h3 h4 h5 h6)
theorem k_ldcs {i index : Nat} (hi : i < 8) (hx : pm_six i = index) (hd : decode cc pc = .ok (.ldc index, 2)) : pm_okF cc RX2 nL ini pc (s_const (.retAddr (4 + i)) (pc + 2)) := by
  intro p l e R s m args below meth c D aC B b Q Cx hR1 hR2 lv st w σ' hf k
  subst hx
  obtain rfl := Option.some.inj hf
  intro H locs ls cells slots h1 h2 h3 h4 h5 h6
  obtain ⟨a, e1, hr⟩ := Cx.2.2.2.2.2.1.2.2.2.1.2 i hi
  have k2 := k H locs ls cells slots h1 h2 h3 h4 h5 h6
  simp only [List.map_cons, pm_v, e1, va_rf] at k2
  exact va_ldcS Cx.1 Cx.2.1 Cx.2.2.2.1 hr hd k2
noncomputable def s_tald (n : Nat) : pm_S → Option pm_S := fun σ => match σ.2.2.1 with
  | .int i :: .retAddr 1 :: st => bif pm_ix i 9 then some (n, σ.2.1, .int (pm_fac i.toNatClampNeg) :: st, σ.2.2.2) else none
  | .int i :: .retAddr 2 :: st => bif pm_ix i 55 then some (n, σ.2.1, .int (pm_rbs i.toNatClampNeg) :: st, σ.2.2.2) else none
  | _ => none
theorem k_tald (hd : decode cc pc = .ok (.iaload, 1)) : pm_okF cc own nL ini pc (s_tald (pc + 1)) := by
  intro p l e R s m args below meth c D aC B b Q Cx hR1 hR2 lv st w σ' hf k
  simp only [s_tald] at hf
  split at hf
  · rename_i i st
    cases hb : pm_ix i 9 with
    | false => rw [hb] at hf; cases hf
    | true =>
      rw [hb] at hf
      obtain rfl := Option.some.inj hf
      intro H locs ls cells slots h1 h2 h3 h4 h5 h6
      obtain ⟨⟨t, e1, hZ, hT⟩, -⟩ := Cx.2.2.2.2.2.1.2.2.2.2
      simp only [List.map_cons, pm_v, e1, va_rf]
      exact va_ti Cx.1 Cx.2.1 hT h4 (pm_ix_in hb) rfl hd (k H locs ls cells slots h1 h2 h3 h4 h5 h6)
  · rename_i i st
    cases hb : pm_ix i 55 with
    | false => rw [hb] at hf; cases hf
    | true =>
      rw [hb] at hf
      obtain rfl := Option.some.inj hf
      intro H locs ls cells slots h1 h2 h3 h4 h5 h6
      obtain ⟨-, ⟨t, e1, hZ, hT⟩, -⟩ := Cx.2.2.2.2.2.1.2.2.2.2
      simp only [List.map_cons, pm_v, e1, va_rf]
      exact va_ti Cx.1 Cx.2.1 hT h4 (pm_ix_in hb) rfl hd (k H locs ls cells slots h1 h2 h3 h4 h5 h6)
  · cases hf
noncomputable def s_sval (n : Nat) : pm_S → Option pm_S := fun σ => match σ.2.2.1 with
  | .retAddr k :: st => bif Nat.ble 4 k && Nat.blt k 12 then some (n, σ.2.1, .retAddr (k + 8) :: st, σ.2.2.2) else none
  | _ => none
theorem pm_str {k : Nat} (h : (Nat.ble 4 k && Nat.blt k 12) = true) : ∃ i : Nat, i < 8 ∧ k = 4 + i := by
  obtain ⟨h1, h2⟩ := Bool.and_eq_true_iff.mp h
  have a := Nat.le_of_ble_eq_true h1
  have b : k + 1 ≤ 12 := Nat.le_of_ble_eq_true h2
  exact ⟨k - 4, by omega, by omega⟩
theorem pm_strb {k : Nat} (h : (Nat.ble 12 k && Nat.blt k 20) = true) : ∃ i : Nat, i < 8 ∧ k = 12 + i := by
  obtain ⟨h1, h2⟩ := Bool.and_eq_true_iff.mp h
  have a := Nat.le_of_ble_eq_true h1
  have b : k + 1 ≤ 20 := Nat.le_of_ble_eq_true h2
  exact ⟨k - 12, by omega, by omega⟩
theorem k_sval {index : Nat} (hw : Cond.fieldLink own index "java/lang/String" "value" "[B" ∈ pm_T) (hd : decode cc pc = .ok (.getfield index, 3)) : pm_okF cc own nL ini pc (s_sval (pc + 3)) := by
  intro p l e R s m args below meth c D aC B b Q Cx hR1 hR2 lv st w σ' hf k
  simp only [s_sval] at hf
  split at hf
  · rename_i q st
    cases hb : (Nat.ble 4 q && Nat.blt q 12) with
    | false => rw [hb] at hf; cases hf
    | true =>
      rw [hb] at hf
      obtain rfl := Option.some.inj hf
      obtain ⟨i, hi, rfl⟩ := pm_str hb
      intro H locs ls cells slots h1 h2 h3 h4 h5 h6
      obtain ⟨-, -, -, -, adK, adV, hE, hA⟩ := Cx.2.2.2.2.2.1.2.2.2.2
      have k2 := k H locs ls cells slots h1 h2 h3 h4 h5 h6
      have e2 : b (4 + i + 8) = some (adV i) := by rw [show 4 + i + 8 = 12 + i by omega]; exact (hA i hi).2
      simp only [List.map_cons, pm_v, e2, va_rf] at k2
      simp only [List.map_cons, pm_v, (hA i hi).1, va_rf]
      exact vk_getf (A := fun q => B ≤ q) Cx.1 Cx.2.1 (hE.1 i hi).2.2.1 h4 Cx.2.2.2.1 (Cx.2.2.2.2.1 _ hw) (fun _ h9 => h9) hd k2
  · cases hf
noncomputable def s_scod (n : Nat) : pm_S → Option pm_S := fun σ => match σ.2.2.1 with
  | .retAddr k :: st => bif Nat.ble 4 k && Nat.blt k 12 then some (n, σ.2.1, .int 0 :: st, σ.2.2.2) else none
  | _ => none
theorem k_scod {index : Nat} (hw : Cond.fieldLink own index "java/lang/String" "coder" "B" ∈ pm_T) (hd : decode cc pc = .ok (.getfield index, 3)) : pm_okF cc own nL ini pc (s_scod (pc + 3)) := by
  intro p l e R s m args below meth c D aC B b Q Cx hR1 hR2 lv st w σ' hf k
  simp only [s_scod] at hf
  split at hf
  · rename_i q st
    cases hb : (Nat.ble 4 q && Nat.blt q 12) with
    | false => rw [hb] at hf; cases hf
    | true =>
      rw [hb] at hf
      obtain rfl := Option.some.inj hf
      obtain ⟨i, hi, rfl⟩ := pm_str hb
      intro H locs ls cells slots h1 h2 h3 h4 h5 h6
      obtain ⟨-, -, -, -, adK, adV, hE, hA⟩ := Cx.2.2.2.2.2.1.2.2.2.2
      simp only [List.map_cons, pm_v, (hA i hi).1, va_rf]
      exact vk_getf (A := fun q => B ≤ q) Cx.1 Cx.2.1 (hE.1 i hi).2.1 h4 Cx.2.2.2.1 (Cx.2.2.2.2.1 _ hw) (fun _ h9 => h9) hd (k H locs ls cells slots h1 h2 h3 h4 h5 h6)
  · cases hf
noncomputable def s_sbald (n : Nat) : pm_S → Option pm_S := fun σ => match σ.2.2.1 with
  | .int j :: .retAddr k :: st => bif (Nat.ble 12 k && Nat.blt k 20) && pm_ix j (pm_len.getD (k - 12) 0) then some (n, σ.2.1, .int ((pm_byt.getD (k - 12) []).getD j.toNatClampNeg 0) :: st, σ.2.2.2) else none
  | _ => none
theorem k_sbald (hd : decode cc pc = .ok (.baload, 1)) : pm_okF cc own nL ini pc (s_sbald (pc + 1)) := by
  intro p l e R s m args below meth c D aC B b Q Cx hR1 hR2 lv st w σ' hf k
  simp only [s_sbald] at hf
  split at hf
  · rename_i j q st
    cases hb : ((Nat.ble 12 q && Nat.blt q 20) && pm_ix j (pm_len.getD (q - 12) 0)) with
    | false => rw [hb] at hf; cases hf
    | true =>
      rw [hb] at hf
      obtain rfl := Option.some.inj hf
      obtain ⟨hb1, hb2⟩ := Bool.and_eq_true_iff.mp hb
      obtain ⟨i, hi, rfl⟩ := pm_strb hb1
      intro H locs ls cells slots h1 h2 h3 h4 h5 h6
      obtain ⟨-, -, -, -, adK, adV, hE, hA⟩ := Cx.2.2.2.2.2.1.2.2.2.2
      have k2 := k H locs ls cells slots h1 h2 h3 h4 h5 h6
      have e2 : 12 + i - 12 = i := by omega
      rw [e2] at hb2
      simp only [List.map_cons, pm_v, e2] at k2
      simp only [List.map_cons, pm_v, (hA i hi).2, va_rf]
      exact va_tb Cx.1 Cx.2.1 (hE.1 i hi).2.2.2 h4 (pm_ix_in hb2) rfl hd k2
  · cases hf
noncomputable def s_sblen (n : Nat) : pm_S → Option pm_S := fun σ => match σ.2.2.1 with
  | .retAddr k :: st => bif Nat.ble 12 k && Nat.blt k 20 then some (n, σ.2.1, .int (Int32.ofNat (pm_len.getD (k - 12) 0)) :: st, σ.2.2.2) else none
  | _ => none
theorem k_sblen (hd : decode cc pc = .ok (.arraylength, 1)) : pm_okF cc own nL ini pc (s_sblen (pc + 1)) := by
  intro p l e R s m args below meth c D aC B b Q Cx hR1 hR2 lv st w σ' hf k
  simp only [s_sblen] at hf
  split at hf
  · rename_i q st
    cases hb : (Nat.ble 12 q && Nat.blt q 20) with
    | false => rw [hb] at hf; cases hf
    | true =>
      rw [hb] at hf
      obtain rfl := Option.some.inj hf
      obtain ⟨i, hi, rfl⟩ := pm_strb hb
      intro H locs ls cells slots h1 h2 h3 h4 h5 h6
      obtain ⟨-, -, -, -, adK, adV, hE, hA⟩ := Cx.2.2.2.2.2.1.2.2.2.2
      have k2 := k H locs ls cells slots h1 h2 h3 h4 h5 h6
      have e2 : 12 + i - 12 = i := by omega
      simp only [List.map_cons, pm_v, e2] at k2
      simp only [List.map_cons, pm_v, (hA i hi).2, va_rf]
      exact va_tlen Cx.1 Cx.2.1 (hE.1 i hi).2.2.2 h4 rfl hd k2
  · cases hf
theorem k_i2c (hd : decode cc pc = .ok (.i2c, 1)) : pm_okF cc own nL ini pc (s_un (fun x => (x.toUInt32 % 65536).toInt32) (pc + 1)) := by
  intro p l e R s m args below meth c D aC B b Q C hR1 hR2 lv st w σ' hf k
  simp only [s_un] at hf
  split at hf
  · obtain rfl := Option.some.inj hf
    intro H locs ls cells slots h1 h2 h3 h4 h5 h6
    exact lv_i2c C.1 C.2.1 hd rfl (k H locs ls cells slots h1 h2 h3 h4 h5 h6)
  · cases hf
theorem k_iushr (hd : decode cc pc = .ok (.iushr, 1)) : pm_okF cc own nL ini pc (s_bin (fun x y => (x.toUInt32 >>> (y.toUInt32 &&& Int32.toUInt32 31)).toInt32) (pc + 1)) := by
  intro p l e R s m args below meth c D aC B b Q C hR1 hR2 lv st w σ' hf k
  simp only [s_bin] at hf
  split at hf
  · obtain rfl := Option.some.inj hf
    intro H locs ls cells slots h1 h2 h3 h4 h5 h6
    exact lv_iushr C.1 C.2.1 hd rfl (k H locs ls cells slots h1 h2 h3 h4 h5 h6)
  · cases hf
/-- a call of a String's method -/
theorem k_callVX {index : Nat} {y : MethodName} {bytes : ByteArray} {maxL : Nat} {ret : Option FieldType} {n mc ms : Nat} (hy : y.cls = "java/lang/String") (hd : decode cc pc = .ok (.invokevirtual index, 3)) (hcw : Cond.code y bytes maxL ret ∈ pm_T) (hw1 : Cond.methodLink own index y ∈ pm_T) (hw2 : Cond.instanceMethod y ∈ pm_T) (hw3 : Cond.selects y.cls y y ∈ pm_T) (hw4 : Cond.initialized y.cls ∈ pm_T) (hdesc : y.cls ≠ "java/lang/invoke/MethodHandle" ∧ y.cls ≠ "java/lang/invoke/VarHandle" ∧ (parseMethodDescriptor y.desc).map (fun d => d.parameters.length) = some n) (hL : maxL ≤ 80) : pm_okC cc own nL ini pc y bytes maxL ret (n + 1) (some 100) mc ms := by
  intro p l e R s m args below meth c D aC B b Q Cx rF rL hR1 hR2 lv st w h' r hch hM kk
  intro H locs ls cells slots h1 h2 h3 h4 h5 h6
  obtain ⟨c1, c2, c3, c4, c5⟩ := hch
  obtain ⟨i, as, hi, e1⟩ := (c2 100 rfl).2 (Nat.le_refl _)
  obtain ⟨-, -, -, -, adK, adV, hE, hA⟩ := id Cx.2.2.2.2.2.1.2.2.2.2
  have hst := pm_st_split c1
  have hlen := pm_len_as c1
  simp only at h2 h3 h5 h6
  rw [e1] at hM hst hlen
  generalize hrest : st.drop (n + 1) = rest at hst kk c3
  subst hst
  have eq4 : pm_v B b (.retAddr (4 + i)) = .ref (adK i) := by simp only [pm_v, (hA i hi).1, va_rf]
  refine pm_called (rest := rest.map (pm_v B b)) (va_runV (As := as.map (pm_v B b)) (b := adK i) (n := n) ⟨Cx.1, Cx.2.1, Cx.2.2.1, Cx.2.2.2.1, Cx.2.2.2.2.1⟩ hM (cwV n Cx.2.2.2.2.1 ?_ rfl rfl rfl ⟨rfl, hdesc⟩ ⟨hR1, by show 8 + (maxL + 11) + rL ≤ R.locals; omega⟩) ⟨pm_Pc_blind D aC B b w.1 (.retAddr (4 + i) :: as), by rw [hy]; exact vk_recv hE hi h4, fun U hU hW => ⟨by rw [List.map_cons, eq4], by rw [hU]; exact h2, by rw [hU]; exact h3, Cx.2.2.2.2.2.1.moved hW hU h4⟩⟩ rfl (by simp at hlen ⊢; omega) h1.1 (by simp [List.map_append, eq4]) (lv_room (by rw [pm_sz_v]; exact c3)) hd ⟨by omega, by omega⟩) h4 Cx.2.2.2.2.2.2.1 (fun H1 locs1 z1 g1 g2 => ?_)
  · intro x hx
    rcases List.mem_append.mp hx with hx | hx
    · have : x ∈ pm_T := by
        simp only [List.mem_cons, List.not_mem_nil, or_false] at hx
        rcases hx with rfl | rfl | rfl | rfl
        · exact hw1
        · exact hw2
        · exact hw3
        · exact hw4
      exact ⟨this, pm_T_word this⟩
    · exact pm_good hcw x hx
  · have k2 := kk H1 locs1 ls (cells + mc) (slots + ms) h1 z1 g1 g2 (by simp only; omega) (by simp only; omega)
    simp only [pm_toList] at k2
    exact k2
/-- a static call of a nest mate -/
theorem k_callSN {index : Nat} {host : String} {y : MethodName} {bytes : ByteArray} {maxL : Nat} {ret : Option FieldType} {n mc ms : Nat} (hN : ∀ (D : va_G) (aC : Nat → ClassId) (B : Nat) (b : Nat → Option Nat) (U : State), pm_K D aC B b U → va_Nw (.methodLinkNest own index y host) U) (hd : decode cc pc = .ok (.invokestatic index, 3)) (hcw : Cond.code y bytes maxL ret ∈ pm_T) (hw2 : Cond.static y ∈ pm_T) (hw4 : Cond.initialized y.cls ∈ pm_T) (hdesc : y.cls ≠ "java/lang/invoke/MethodHandle" ∧ y.cls ≠ "java/lang/invoke/VarHandle" ∧ (parseMethodDescriptor y.desc).map (fun d => d.parameters.length) = some n) (hL : maxL ≤ 80) : pm_okC cc own nL ini pc y bytes maxL ret n none mc ms := by
  intro p l e R s m args below meth c D aC B b Q Cx rF rL hR1 hR2 lv st w h' r hch hM kk
  intro H locs ls cells slots h1 h2 h3 h4 h5 h6
  obtain ⟨c1, c2, c3, c4, c5⟩ := hch
  have hst := pm_st_split c1
  have hlen := pm_len_as c1
  simp only at h2 h3 h5 h6
  generalize hrest : st.drop n = rest at hst kk c3
  generalize has : (st.take n).reverse = as at hM hst hlen
  subst hst
  refine pm_called (rest := rest.map (pm_v B b)) (va_runSN (As := as.map (pm_v B b)) (n := n) ⟨Cx.1, Cx.2.1, Cx.2.2.1, Cx.2.2.2.1, Cx.2.2.2.2.1⟩ hM ⟨va_cnB n Cx.2.2.2.2.1 (pm_good hcw) rfl rfl rfl (hN D aC B b s Cx.2.2.2.2.2.1) (Cx.2.2.2.2.1 _ hw4) hdesc ⟨hR1, by show 8 + (maxL + 11) + rL ≤ R.locals; omega⟩, Cx.2.2.2.2.1 _ hw2, trivial⟩ ⟨pm_Pc_blind D aC B b w.1 as, fun U hU hW => ⟨rfl, by rw [hU]; exact h2, by rw [hU]; exact h3, Cx.2.2.2.2.2.1.moved hW hU h4⟩⟩ rfl (by rw [List.length_map]; exact hlen) h1.1 (by simp [List.map_append]) (lv_room (by rw [pm_sz_v]; exact c3)) hd ⟨by omega, by omega⟩) h4 Cx.2.2.2.2.2.2.1 (fun H1 locs1 z1 g1 g2 => ?_)
  have k2 := kk H1 locs1 ls (cells + mc) (slots + ms) h1 z1 g1 g2 (by simp only; omega) (by simp only; omega)
  simp only [pm_toList] at k2
  exact k2
end PMO
noncomputable def s_pop2 (n : Nat) : pm_S → Option pm_S := fun σ => match σ.2.2.1 with
  | x :: st => bif Nat.beq x.category 2 then some (n, σ.2.1, st, σ.2.2.2) else none
  | _ => none
theorem k_pop2 {cc : ByteArray} {own : String} {nL pc : Nat} {ini : Bool} (hd : decode cc pc = .ok (.pop2, 1)) : pm_okF cc own nL ini pc (s_pop2 (pc + 1)) := by
  intro p l e R s m args below meth c D aC B b Q C hR1 hR2 lv st w σ' hf k
  simp only [s_pop2] at hf
  split at hf
  · rename_i x st
    cases hb : Nat.beq x.category 2 with
    | false => rw [hb] at hf; cases hf
    | true =>
      rw [hb] at hf
      obtain rfl := Option.some.inj hf
      intro H locs ls cells slots h1 h2 h3 h4 h5 h6
      exact lv_pop2_2 C.1 C.2.1 hd (by rw [pm_v_cat]; exact Nat.eq_of_beq_eq_true hb) (k H locs ls cells slots h1 h2 h3 h4 h5 h6)
  · cases hf
end
section
/-! THE PURE MACHINE, part 8: System.arraycopy of two rows of longs -/
noncomputable def s_copy (n : Nat) : pm_S → Option pm_S := fun σ => match σ.2.2.1 with
  | .int m :: .int dp :: .ref a1 :: .int sp :: .ref a0 :: st => match σ.2.2.2.1[a0]? with
    | some (.inl (3, n0, .inr (.inl f))) => match σ.2.2.2.1[a1]? with
      | some (.inl (3, n1, .inr (.inl g))) => bif (!(decide (sp < 0)) && (!(decide (dp < 0)) && !(decide (m < 0)))) && (Nat.ble (sp.toNatClampNeg + m.toNatClampNeg) n0 && (Nat.ble (dp.toNatClampNeg + m.toNatClampNeg) n1 && Nat.ble (pm_sz st) 8)) then some (n, σ.2.1, st, σ.2.2.2.1.set a1 (.inl (3, n1, .inr (.inl (va_cpy f g sp.toNatClampNeg dp.toNatClampNeg m.toNatClampNeg)))), σ.2.2.2.2) else none
      | _ => none
    | _ => none
  | _ => none
theorem pm_nn {z : Int32} (hz : ¬ z < 0) : z.toInt = (z.toNatClampNeg : Int) := by
  have hz0 : (0 : Int) ≤ z.toInt := by
    have := Int32.not_lt.mp hz
    simpa using Int32.le_iff_toInt_le.mp this
  show z.toInt = ((z.toInt.toNat : Nat) : Int)
  omega
theorem k_copy {cc : ByteArray} {own : String} {nL pc : Nat} {ini : Bool} {index : Nat} (hw1 : Cond.methodLink own index arraycopyName ∈ pm_T) (hw2 : Cond.native arraycopyName ∈ pm_T) (hw3 : Cond.static arraycopyName ∈ pm_T) (hw4 : Cond.initialized "java/lang/System" ∈ pm_T) (hd : decode cc pc = .ok (.invokestatic index, 3)) : pm_okF cc own nL ini pc (s_copy (pc + 3)) := by
  intro p l e R s mi args below meth c D aC B b Q Cx hR1 hR2 lv st w σ' hf kk
  simp only [s_copy] at hf
  split at hf
  · rename_i m dp a1 sp a0 st
    split at hf
    · rename_i n0 f he0
      split at hf
      · rename_i n1 g he1
        cases hb : ((!(decide (sp < 0)) && (!(decide (dp < 0)) && !(decide (m < 0)))) && (Nat.ble (sp.toNatClampNeg + m.toNatClampNeg) n0 && (Nat.ble (dp.toNatClampNeg + m.toNatClampNeg) n1 && Nat.ble (pm_sz st) 8))) with
        | false => rw [hb] at hf; cases hf
        | true =>
          rw [hb] at hf
          obtain rfl := Option.some.inj hf
          obtain ⟨hb1, hb2⟩ := Bool.and_eq_true_iff.mp hb
          obtain ⟨hb2, hb3⟩ := Bool.and_eq_true_iff.mp hb2
          obtain ⟨hb3, hb4⟩ := Bool.and_eq_true_iff.mp hb3
          have g4 := Nat.le_of_ble_eq_true hb2
          have g5 := Nat.le_of_ble_eq_true hb3
          have g6 := Nat.le_of_ble_eq_true hb4
          have g123 : ¬ sp < 0 ∧ ¬ dp < 0 ∧ ¬ m < 0 := by simpa using hb1
          obtain ⟨g1, g2, g3⟩ := g123
          intro H locs ls cells slots h1 h2 h3 h4 h5 h6
          intro T hT X
          have hK := Cx.2.2.2.2.2.1.1
          have hc0 : H[B + a0]? = some (vp_cell (aC 3) (n0, .inr (.inl f))) := h3 a0 _ (pm_w_at he0)
          have hc1 : H[B + a1]? = some (vp_cell (aC 3) (n1, .inr (.inl g))) := h3 a1 _ (pm_w_at he1)
          obtain ⟨-, k0, hk0, cm0, hkk0⟩ := (hK.2 3 _ rfl).1 n0 (fun j => .long (f j))
          obtain ⟨-, k1, hk1, cm1, hkk1⟩ := (hK.2 3 _ rfl).1 n1 (fun j => .long (g j))
          obtain ⟨vm', X', step⟩ := X.arraycopy Cx.1 Cx.2.2.2.1 (Cx.2.2.2.2.1 _ hw1) (Cx.2.2.2.2.1 _ hw2) (Cx.2.2.2.2.1 _ hw3) (Cx.2.2.2.2.1 _ hw4) (src := B + a0) (dst := B + a1) (cs := vp_cell (aC 3) (n0, .inr (.inl f))) (cd := vp_cell (aC 3) (n1, .inr (.inl g))) (srcPos := sp) (destPos := dp) (n := m) (by rw [hT]; exact hc0) (by rw [hT]; exact hc1)
            (fun _ h => by cases h) (fun _ h => by cases h) (fun h => by cases h) (fun h => by cases h) hk0 hk1 hkk0 hkk1 (by simp [refKind]) g1 g2 g3
            (by rw [pm_nn g1, pm_nn g3]; show ¬ _ > ((arrV (aC 3) n0 (fun j => .long (f j))).slots.size : Int); rw [arrV_size]; omega)
            (by rw [pm_nn g2, pm_nn g3]; show ¬ _ > ((arrV (aC 3) n1 (fun j => .long (g j))).slots.size : Int); rw [arrV_size]; omega)
            (fun vm₁ _ i hi => by
              have e : (vp_cell (aC 3) (n0, .inr (.inl f))).slots.getD (sp.toNatClampNeg + i) .null = .long (f (sp.toNatClampNeg + i)) := by
                show (arrV (aC 3) n0 (fun j => .long (f j))).slots.getD _ _ = _
                rw [Array.getD_eq_getD_getElem?, arrV_read _ _ (by omega)]
                rfl
              refine ⟨?_, ?_⟩
              · rw [e]; rfl
              · rw [e]; exact trivial)
            (g := F0 mi pc ls (.int m :: .int dp :: .ref (B + a1) :: .int sp :: .ref (B + a0) :: st.map (pm_v B b))) rfl (by rw [Cx.2.2.1]; exact h1.1) (rest := st.map (pm_v B b)) rfl (by rw [Cx.2.1]; exact hd) hR1 (by
              have z := pm_sz_v B b st
              have y : nativeFrameWords "java/lang/System" "arraycopy" 5 + 11 ≤ 92 := by decide
              show 2 * 0 + _ + _ ≤ _
              omega)
          have e1 : copied (vp_cell (aC 3) (n0, .inr (.inl f))) (vp_cell (aC 3) (n1, .inr (.inl g))) sp dp m = vp_cell (aC 3) (n1, .inr (.inl (va_cpy f g sp.toNatClampNeg dp.toNatClampNeg m.toNatClampNeg))) := va_copied (fun z => .long z) (aC 3) (aC 3) f g g4
          rw [e1] at X' step
          have hl : B + a1 < H.size := (Array.getElem?_eq_some_iff.mp hc1).1
          have hheap : ((T.setVm vm').setCell (B + a1) (vp_cell (aC 3) (n1, .inr (.inl (va_cpy f g sp.toNatClampNeg dp.toNatClampNeg m.toNatClampNeg))))).heap = H.setIfInBounds (B + a1) (vp_cell (aC 3) (n1, .inr (.inl (va_cpy f g sp.toNatClampNeg dp.toNatClampNeg m.toNatClampNeg)))) := by rw [← hT]; rfl
          have oq : ∀ q : Nat, q ≠ B + a1 → (H.setIfInBounds (B + a1) (vp_cell (aC 3) (n1, .inr (.inl (va_cpy f g sp.toNatClampNeg dp.toNatClampNeg m.toNatClampNeg)))))[q]? = H[q]? := fun q hq => by simp [Array.getElem?_setIfInBounds, Ne.symm hq]
          obtain ⟨t, q1, q2⟩ := kk _ _ ls cells slots h1 (by simp only [Array.size_setIfInBounds, List.length_set]; exact h2) (pm_stored h3 he1 oq (show (H.setIfInBounds (B + a1) _)[B + a1]? = some _ by simp [Array.getElem?_setIfInBounds, hl])) ⟨by simp; exact h4.1, fun q z1 z2 => by
              rw [oq q (fun e => z2 (by rw [e]; exact Nat.le_add_right B a1))]
              exact h4.2.1 q z1 z2, fun q hq => by
              rcases List.mem_append.mp hq with h | h
              · exact h4.2.2 q h
              · obtain ⟨z, -, hz⟩ := List.mem_map.mp h
                rw [← hz]
                exact Nat.le_add_right B a1⟩ h5 h6 _ hheap X'
          exact ⟨t, step t q1, q2⟩
      · cases hf
    · cases hf
  · cases hf
end
section
/-! an instruction by its bytes (written by rowdec.py) -/
noncomputable def bdr (c : ByteArray) (p : Nat) : List UInt8 := Nat.rec c.data.toList (fun _ r => r.tail) p
theorem bdr_eq (c : ByteArray) : ∀ p : Nat, bdr c p = c.data.toList.drop p
  | 0 => rfl
  | p + 1 => by
    show (bdr c p).tail = _
    rw [bdr_eq c p, List.tail_drop]
noncomputable def bk1 (c : ByteArray) (p o : Nat) : Bool := match bdr c p with
  | [] => false
  | x :: _ => Nat.beq x.toNat o
noncomputable def bk2 (c : ByteArray) (p o n : Nat) : Bool := match bdr c p with
  | x :: y :: _ => Nat.beq x.toNat o && Nat.beq y.toNat n
  | _ => false
noncomputable def bk3 (c : ByteArray) (p o n : Nat) : Bool := match bdr c p with
  | x :: y :: z :: _ => Nat.beq x.toNat o && Nat.beq (y.toNat * 256 + z.toNat) n
  | _ => false
noncomputable def bkS (c : ByteArray) (p o : Nat) (n : Int) : Bool := match bdr c p with
  | x :: y :: z :: _ => Nat.beq x.toNat o && decide (Reader.signed 16 (y.toNat * 256 + z.toNat) = n)
  | _ => false
noncomputable def bkB (c : ByteArray) (p o : Nat) (n : Int) : Bool := match bdr c p with
  | x :: y :: _ => Nat.beq x.toNat o && decide (Reader.signed 8 y.toNat = n)
  | _ => false
noncomputable def bkI (c : ByteArray) (p o m : Nat) (n : Int) : Bool := match bdr c p with
  | x :: y :: z :: _ => Nat.beq x.toNat o && (Nat.beq y.toNat m && decide (Reader.signed 8 z.toNat = n))
  | _ => false
theorem dk_u1 {c : ByteArray} {p : Nat} (h : p < c.size) : (Reader.u1 : Decoder Nat) c p = .ok (c[p].toNat, p + 1) := by
  show (dite (p < c.size) (fun h => (_ : Decoder Nat)) (fun _ => _)) c p = _
  rw [dif_pos h]
  rfl
theorem dk_at {c : ByteArray} {p : Nat} {x : UInt8} {l : List UInt8} (e : bdr c p = x :: l) : (Reader.u1 : Decoder Nat) c p = .ok (x.toNat, p + 1) ∧ bdr c (p + 1) = l := by
  rw [bdr_eq] at e
  have hp : p < c.data.toList.length := by
    have := congrArg List.length e
    rw [List.length_drop, List.length_cons] at this
    omega
  have hs : p < c.size := hp
  have e2 : c[p] = c.data.toList[p] := rfl
  have e4 := List.drop_eq_getElem_cons hp
  rw [e] at e4
  injection e4 with a b
  exact ⟨by rw [dk_u1 hs, e2, ← a], by rw [bdr_eq]; exact b.symm⟩
theorem dk_1 {c : ByteArray} {p o : Nat} (h : bk1 c p o = true) : (Reader.u1 : Decoder Nat) c p = .ok (o, p + 1) := by
  unfold bk1 at h
  split at h
  · cases h
  · rename_i x l e
    rw [(dk_at e).1, Nat.eq_of_beq_eq_true h]
theorem dk_2 {c : ByteArray} {p o n : Nat} (h : bk2 c p o n = true) : (Reader.u1 : Decoder Nat) c p = .ok (o, p + 1) ∧ (Reader.u1 : Decoder Nat) c (p + 1) = .ok (n, p + 1 + 1) := by
  unfold bk2 at h
  split at h
  · rename_i x y l e
    rw [Bool.and_eq_true] at h
    obtain ⟨a, b⟩ := dk_at e
    exact ⟨by rw [a, Nat.eq_of_beq_eq_true h.1], by rw [(dk_at b).1, Nat.eq_of_beq_eq_true h.2]⟩
  · cases h
theorem dk_u2 {c : ByteArray} {p a b : Nat} (h1 : (Reader.u1 : Decoder Nat) c p = .ok (a, p + 1)) (h2 : (Reader.u1 : Decoder Nat) c (p + 1) = .ok (b, p + 1 + 1)) : (Reader.u2 : Decoder Nat) c p = .ok (a * 256 + b, p + 1 + 1) := by
  show Except.bind ((Reader.u1 : Decoder Nat) c p) _ = _
  rw [h1]
  show Except.bind ((Reader.u1 : Decoder Nat) c (p + 1)) _ = _
  rw [h2]
  rfl
theorem dk_3 {c : ByteArray} {p o n : Nat} (h : bk3 c p o n = true) : (Reader.u1 : Decoder Nat) c p = .ok (o, p + 1) ∧ (Reader.u2 : Decoder Nat) c (p + 1) = .ok (n, p + 1 + 1 + 1) := by
  unfold bk3 at h
  split at h
  · rename_i x y z l e
    rw [Bool.and_eq_true] at h
    obtain ⟨a, b⟩ := dk_at e
    obtain ⟨a2, b2⟩ := dk_at b
    exact ⟨by rw [a, Nat.eq_of_beq_eq_true h.1], by rw [dk_u2 a2 (dk_at b2).1, Nat.eq_of_beq_eq_true h.2]⟩
  · cases h
theorem dk_S {c : ByteArray} {p o : Nat} {n : Int} (h : bkS c p o n = true) : (Reader.u1 : Decoder Nat) c p = .ok (o, p + 1) ∧ (Reader.s2 : Decoder Int) c (p + 1) = .ok (n, p + 1 + 1 + 1) := by
  unfold bkS at h
  split at h
  · rename_i x y z l e
    rw [Bool.and_eq_true] at h
    obtain ⟨a, b⟩ := dk_at e
    obtain ⟨a2, b2⟩ := dk_at b
    refine ⟨by rw [a, Nat.eq_of_beq_eq_true h.1], ?_⟩
    show Except.bind ((Reader.u2 : Decoder Nat) c (p + 1)) _ = _
    rw [dk_u2 a2 (dk_at b2).1, ← of_decide_eq_true h.2]
    rfl
  · cases h
theorem dk_B {c : ByteArray} {p o : Nat} {n : Int} (h : bkB c p o n = true) : (Reader.u1 : Decoder Nat) c p = .ok (o, p + 1) ∧ (Reader.s1 : Decoder Int) c (p + 1) = .ok (n, p + 1 + 1) := by
  unfold bkB at h
  split at h
  · rename_i x y l e
    rw [Bool.and_eq_true] at h
    obtain ⟨a, b⟩ := dk_at e
    refine ⟨by rw [a, Nat.eq_of_beq_eq_true h.1], ?_⟩
    show Except.bind ((Reader.u1 : Decoder Nat) c (p + 1)) _ = _
    rw [(dk_at b).1, ← of_decide_eq_true h.2]
    rfl
  · cases h
theorem dk_I {c : ByteArray} {p o m : Nat} {n : Int} (h : bkI c p o m n = true) : (Reader.u1 : Decoder Nat) c p = .ok (o, p + 1) ∧ (Reader.u1 : Decoder Nat) c (p + 1) = .ok (m, p + 1 + 1) ∧ (Reader.s1 : Decoder Int) c (p + 1 + 1) = .ok (n, p + 1 + 1 + 1) := by
  unfold bkI at h
  split at h
  · rename_i x y z l e
    rw [Bool.and_eq_true, Bool.and_eq_true] at h
    obtain ⟨a, b⟩ := dk_at e
    obtain ⟨a2, b2⟩ := dk_at b
    refine ⟨by rw [a, Nat.eq_of_beq_eq_true h.1], by rw [a2, Nat.eq_of_beq_eq_true h.2.1], ?_⟩
    show Except.bind ((Reader.u1 : Decoder Nat) c (p + 1 + 1)) _ = _
    rw [(dk_at b2).1, ← of_decide_eq_true h.2.2]
    rfl
  · cases h
/-! Math: no rows of natives (read by rowdec.py) -/
noncomputable def natB (n d : String) : Bool := (n == "abs" && (d == "(I)I" || d == "(J)J")) || ((n == "max" || n == "min") && d == "(II)I")
theorem nat_all : Jvm.natives.all (fun r => !(r.cls == "java/lang/Math") || !(natB r.name r.desc)) = true := by decide +kernel
theorem nat_pf {y : MethodName} (hc : y.cls = "java/lang/Math") (hn : natB y.name y.desc = true) : plainFor y = true := by
  have e : NativeRow.find? Jvm.natives y.cls y.name y.desc = none := List.find?_eq_none.mpr (fun r hr => by
    have a := List.all_eq_true.mp nat_all r hr
    intro b
    rw [Bool.and_eq_true, Bool.and_eq_true] at b
    have b1 := eq_of_beq b.1.1
    have b2 := eq_of_beq b.1.2
    have b3 := eq_of_beq b.2
    rw [b1, b2, b3, hc, hn] at a
    exact absurd a (by decide))
  unfold plainFor
  rw [e]
  exact Bool.or_true _
set_option maxRecDepth 100000 in
noncomputable def dkF (p : Nat) : { F : Nat → Decoder Instr // (Decoder.instr p : Decoder Instr) = (Reader.u1 >>= F) } := ⟨_, rfl⟩
theorem dk_run {c : ByteArray} {p q n : Nat} {i : Instr} (h : (Decoder.instr p : Decoder Instr) c p = .ok (i, q)) (hn : q - p = n) : decode c p = .ok (i, n) := by
  show Except.bind ((Decoder.instr p : Decoder Instr) c p) _ = _
  rw [h]
  show Except.ok (_, q - p) = _
  rw [hn]
theorem dk_op {c : ByteArray} {p o q : Nat} {i : Instr} (h : (Reader.u1 : Decoder Nat) c p = .ok (o, p + 1)) (e : (dkF p).1 o c (p + 1) = .ok (i, q)) : (Decoder.instr p : Decoder Instr) c p = .ok (i, q) := by
  rw [(dkF p).2]
  show Except.bind ((Reader.u1 : Decoder Nat) c p) _ = _
  rw [h]
  exact e
theorem dk_k1 {c : ByteArray} {p o : Nat} {i : Instr} (h : bk1 c p o = true) (e : (dkF p).1 o = Pure.pure i) : decode c p = .ok (i, 1) :=
  dk_run (dk_op (dk_1 h) (by rw [e]; rfl)) (Nat.add_sub_cancel_left p 1)
theorem dk_q3 (p : Nat) : p + 1 + 1 + 1 - p = 3 := by omega
theorem dk_k3 {c : ByteArray} {p o n : Nat} {f : Nat → Instr} (h : bk3 c p o n = true) (e : (dkF p).1 o = (Reader.u2 >>= fun n => Pure.pure (f n))) : decode c p = .ok (f n, 3) := by
  obtain ⟨a, b⟩ := dk_3 h
  refine dk_run (dk_op a ?_) (dk_q3 p)
  rw [e]
  show Except.bind ((Reader.u2 : Decoder Nat) c (p + 1)) _ = _
  rw [b]
  rfl
theorem dk_kS {c : ByteArray} {p o : Nat} {n : Int} {f : Int → Instr} (h : bkS c p o n = true) (e : (dkF p).1 o = (Reader.s2 >>= fun n => Pure.pure (f n))) : decode c p = .ok (f n, 3) := by
  obtain ⟨a, b⟩ := dk_S h
  refine dk_run (dk_op a ?_) (dk_q3 p)
  rw [e]
  show Except.bind ((Reader.s2 : Decoder Int) c (p + 1)) _ = _
  rw [b]
  rfl
set_option maxRecDepth 100000 in
theorem dk_aaload {c : ByteArray} {p : Nat} (h : bk1 c p 50 = true) : decode c p = .ok (.aaload, 1) := dk_k1 h rfl
set_option maxRecDepth 100000 in
theorem dk_aastore {c : ByteArray} {p : Nat} (h : bk1 c p 83 = true) : decode c p = .ok (.aastore, 1) := dk_k1 h rfl
set_option maxRecDepth 100000 in
theorem dk_aload_n_0 {c : ByteArray} {p : Nat} (h : bk1 c p 42 = true) : decode c p = .ok (.aload_n 0, 1) := dk_k1 h rfl
set_option maxRecDepth 100000 in
theorem dk_aload_n_1 {c : ByteArray} {p : Nat} (h : bk1 c p 43 = true) : decode c p = .ok (.aload_n 1, 1) := dk_k1 h rfl
set_option maxRecDepth 100000 in
theorem dk_aload_n_2 {c : ByteArray} {p : Nat} (h : bk1 c p 44 = true) : decode c p = .ok (.aload_n 2, 1) := dk_k1 h rfl
set_option maxRecDepth 100000 in
theorem dk_aload_n_3 {c : ByteArray} {p : Nat} (h : bk1 c p 45 = true) : decode c p = .ok (.aload_n 3, 1) := dk_k1 h rfl
set_option maxRecDepth 100000 in
theorem dk_arraylength {c : ByteArray} {p : Nat} (h : bk1 c p 190 = true) : decode c p = .ok (.arraylength, 1) := dk_k1 h rfl
set_option maxRecDepth 100000 in
theorem dk_astore_n_1 {c : ByteArray} {p : Nat} (h : bk1 c p 76 = true) : decode c p = .ok (.astore_n 1, 1) := dk_k1 h rfl
set_option maxRecDepth 100000 in
theorem dk_astore_n_2 {c : ByteArray} {p : Nat} (h : bk1 c p 77 = true) : decode c p = .ok (.astore_n 2, 1) := dk_k1 h rfl
set_option maxRecDepth 100000 in
theorem dk_astore_n_3 {c : ByteArray} {p : Nat} (h : bk1 c p 78 = true) : decode c p = .ok (.astore_n 3, 1) := dk_k1 h rfl
set_option maxRecDepth 100000 in
theorem dk_baload {c : ByteArray} {p : Nat} (h : bk1 c p 51 = true) : decode c p = .ok (.baload, 1) := dk_k1 h rfl
set_option maxRecDepth 100000 in
theorem dk_bastore {c : ByteArray} {p : Nat} (h : bk1 c p 84 = true) : decode c p = .ok (.bastore, 1) := dk_k1 h rfl
set_option maxRecDepth 100000 in
theorem dk_dup {c : ByteArray} {p : Nat} (h : bk1 c p 89 = true) : decode c p = .ok (.dup, 1) := dk_k1 h rfl
set_option maxRecDepth 100000 in
theorem dk_dup2 {c : ByteArray} {p : Nat} (h : bk1 c p 92 = true) : decode c p = .ok (.dup2, 1) := dk_k1 h rfl
set_option maxRecDepth 100000 in
theorem dk_i2b {c : ByteArray} {p : Nat} (h : bk1 c p 145 = true) : decode c p = .ok (.i2b, 1) := dk_k1 h rfl
set_option maxRecDepth 100000 in
theorem dk_i2c {c : ByteArray} {p : Nat} (h : bk1 c p 146 = true) : decode c p = .ok (.i2c, 1) := dk_k1 h rfl
set_option maxRecDepth 100000 in
theorem dk_i2l {c : ByteArray} {p : Nat} (h : bk1 c p 133 = true) : decode c p = .ok (.i2l, 1) := dk_k1 h rfl
set_option maxRecDepth 100000 in
theorem dk_i2s {c : ByteArray} {p : Nat} (h : bk1 c p 147 = true) : decode c p = .ok (.i2s, 1) := dk_k1 h rfl
set_option maxRecDepth 100000 in
theorem dk_iadd {c : ByteArray} {p : Nat} (h : bk1 c p 96 = true) : decode c p = .ok (.iadd, 1) := dk_k1 h rfl
set_option maxRecDepth 100000 in
theorem dk_iaload {c : ByteArray} {p : Nat} (h : bk1 c p 46 = true) : decode c p = .ok (.iaload, 1) := dk_k1 h rfl
set_option maxRecDepth 100000 in
theorem dk_iand {c : ByteArray} {p : Nat} (h : bk1 c p 126 = true) : decode c p = .ok (.iand, 1) := dk_k1 h rfl
set_option maxRecDepth 100000 in
theorem dk_iastore {c : ByteArray} {p : Nat} (h : bk1 c p 79 = true) : decode c p = .ok (.iastore, 1) := dk_k1 h rfl
set_option maxRecDepth 100000 in
theorem dk_iconst_m {c : ByteArray} {p : Nat} (h : bk1 c p 2 = true) : decode c p = .ok (.iconst (-1), 1) := dk_k1 h rfl
set_option maxRecDepth 100000 in
theorem dk_iconst_0 {c : ByteArray} {p : Nat} (h : bk1 c p 3 = true) : decode c p = .ok (.iconst 0, 1) := dk_k1 h rfl
set_option maxRecDepth 100000 in
theorem dk_iconst_1 {c : ByteArray} {p : Nat} (h : bk1 c p 4 = true) : decode c p = .ok (.iconst 1, 1) := dk_k1 h rfl
set_option maxRecDepth 100000 in
theorem dk_iconst_2 {c : ByteArray} {p : Nat} (h : bk1 c p 5 = true) : decode c p = .ok (.iconst 2, 1) := dk_k1 h rfl
set_option maxRecDepth 100000 in
theorem dk_iconst_3 {c : ByteArray} {p : Nat} (h : bk1 c p 6 = true) : decode c p = .ok (.iconst 3, 1) := dk_k1 h rfl
set_option maxRecDepth 100000 in
theorem dk_iconst_4 {c : ByteArray} {p : Nat} (h : bk1 c p 7 = true) : decode c p = .ok (.iconst 4, 1) := dk_k1 h rfl
set_option maxRecDepth 100000 in
theorem dk_iconst_5 {c : ByteArray} {p : Nat} (h : bk1 c p 8 = true) : decode c p = .ok (.iconst 5, 1) := dk_k1 h rfl
set_option maxRecDepth 100000 in
theorem dk_idiv {c : ByteArray} {p : Nat} (h : bk1 c p 108 = true) : decode c p = .ok (.idiv, 1) := dk_k1 h rfl
set_option maxRecDepth 100000 in
theorem dk_iload_n_0 {c : ByteArray} {p : Nat} (h : bk1 c p 26 = true) : decode c p = .ok (.iload_n 0, 1) := dk_k1 h rfl
set_option maxRecDepth 100000 in
theorem dk_iload_n_1 {c : ByteArray} {p : Nat} (h : bk1 c p 27 = true) : decode c p = .ok (.iload_n 1, 1) := dk_k1 h rfl
set_option maxRecDepth 100000 in
theorem dk_iload_n_2 {c : ByteArray} {p : Nat} (h : bk1 c p 28 = true) : decode c p = .ok (.iload_n 2, 1) := dk_k1 h rfl
set_option maxRecDepth 100000 in
theorem dk_iload_n_3 {c : ByteArray} {p : Nat} (h : bk1 c p 29 = true) : decode c p = .ok (.iload_n 3, 1) := dk_k1 h rfl
set_option maxRecDepth 100000 in
theorem dk_imul {c : ByteArray} {p : Nat} (h : bk1 c p 104 = true) : decode c p = .ok (.imul, 1) := dk_k1 h rfl
set_option maxRecDepth 100000 in
theorem dk_ineg {c : ByteArray} {p : Nat} (h : bk1 c p 116 = true) : decode c p = .ok (.ineg, 1) := dk_k1 h rfl
set_option maxRecDepth 100000 in
theorem dk_ior {c : ByteArray} {p : Nat} (h : bk1 c p 128 = true) : decode c p = .ok (.ior, 1) := dk_k1 h rfl
set_option maxRecDepth 100000 in
theorem dk_irem {c : ByteArray} {p : Nat} (h : bk1 c p 112 = true) : decode c p = .ok (.irem, 1) := dk_k1 h rfl
set_option maxRecDepth 100000 in
theorem dk_ireturn {c : ByteArray} {p : Nat} (h : bk1 c p 172 = true) : decode c p = .ok (.ireturn, 1) := dk_k1 h rfl
set_option maxRecDepth 100000 in
theorem dk_ishl {c : ByteArray} {p : Nat} (h : bk1 c p 120 = true) : decode c p = .ok (.ishl, 1) := dk_k1 h rfl
set_option maxRecDepth 100000 in
theorem dk_ishr {c : ByteArray} {p : Nat} (h : bk1 c p 122 = true) : decode c p = .ok (.ishr, 1) := dk_k1 h rfl
set_option maxRecDepth 100000 in
theorem dk_istore_n_0 {c : ByteArray} {p : Nat} (h : bk1 c p 59 = true) : decode c p = .ok (.istore_n 0, 1) := dk_k1 h rfl
set_option maxRecDepth 100000 in
theorem dk_istore_n_1 {c : ByteArray} {p : Nat} (h : bk1 c p 60 = true) : decode c p = .ok (.istore_n 1, 1) := dk_k1 h rfl
set_option maxRecDepth 100000 in
theorem dk_istore_n_2 {c : ByteArray} {p : Nat} (h : bk1 c p 61 = true) : decode c p = .ok (.istore_n 2, 1) := dk_k1 h rfl
set_option maxRecDepth 100000 in
theorem dk_istore_n_3 {c : ByteArray} {p : Nat} (h : bk1 c p 62 = true) : decode c p = .ok (.istore_n 3, 1) := dk_k1 h rfl
set_option maxRecDepth 100000 in
theorem dk_isub {c : ByteArray} {p : Nat} (h : bk1 c p 100 = true) : decode c p = .ok (.isub, 1) := dk_k1 h rfl
set_option maxRecDepth 100000 in
theorem dk_iushr {c : ByteArray} {p : Nat} (h : bk1 c p 124 = true) : decode c p = .ok (.iushr, 1) := dk_k1 h rfl
set_option maxRecDepth 100000 in
theorem dk_ixor {c : ByteArray} {p : Nat} (h : bk1 c p 130 = true) : decode c p = .ok (.ixor, 1) := dk_k1 h rfl
set_option maxRecDepth 100000 in
theorem dk_l2i {c : ByteArray} {p : Nat} (h : bk1 c p 136 = true) : decode c p = .ok (.l2i, 1) := dk_k1 h rfl
set_option maxRecDepth 100000 in
theorem dk_ladd {c : ByteArray} {p : Nat} (h : bk1 c p 97 = true) : decode c p = .ok (.ladd, 1) := dk_k1 h rfl
set_option maxRecDepth 100000 in
theorem dk_laload {c : ByteArray} {p : Nat} (h : bk1 c p 47 = true) : decode c p = .ok (.laload, 1) := dk_k1 h rfl
set_option maxRecDepth 100000 in
theorem dk_land {c : ByteArray} {p : Nat} (h : bk1 c p 127 = true) : decode c p = .ok (.land, 1) := dk_k1 h rfl
set_option maxRecDepth 100000 in
theorem dk_lastore {c : ByteArray} {p : Nat} (h : bk1 c p 80 = true) : decode c p = .ok (.lastore, 1) := dk_k1 h rfl
set_option maxRecDepth 100000 in
theorem dk_lcmp {c : ByteArray} {p : Nat} (h : bk1 c p 148 = true) : decode c p = .ok (.lcmp, 1) := dk_k1 h rfl
set_option maxRecDepth 100000 in
theorem dk_lconst_0 {c : ByteArray} {p : Nat} (h : bk1 c p 9 = true) : decode c p = .ok (.lconst 0, 1) := dk_k1 h rfl
set_option maxRecDepth 100000 in
theorem dk_lconst_1 {c : ByteArray} {p : Nat} (h : bk1 c p 10 = true) : decode c p = .ok (.lconst 1, 1) := dk_k1 h rfl
set_option maxRecDepth 100000 in
theorem dk_ldiv {c : ByteArray} {p : Nat} (h : bk1 c p 109 = true) : decode c p = .ok (.ldiv, 1) := dk_k1 h rfl
set_option maxRecDepth 100000 in
theorem dk_lload_n_0 {c : ByteArray} {p : Nat} (h : bk1 c p 30 = true) : decode c p = .ok (.lload_n 0, 1) := dk_k1 h rfl
set_option maxRecDepth 100000 in
theorem dk_lload_n_1 {c : ByteArray} {p : Nat} (h : bk1 c p 31 = true) : decode c p = .ok (.lload_n 1, 1) := dk_k1 h rfl
set_option maxRecDepth 100000 in
theorem dk_lload_n_2 {c : ByteArray} {p : Nat} (h : bk1 c p 32 = true) : decode c p = .ok (.lload_n 2, 1) := dk_k1 h rfl
set_option maxRecDepth 100000 in
theorem dk_lload_n_3 {c : ByteArray} {p : Nat} (h : bk1 c p 33 = true) : decode c p = .ok (.lload_n 3, 1) := dk_k1 h rfl
set_option maxRecDepth 100000 in
theorem dk_lmul {c : ByteArray} {p : Nat} (h : bk1 c p 105 = true) : decode c p = .ok (.lmul, 1) := dk_k1 h rfl
set_option maxRecDepth 100000 in
theorem dk_lneg {c : ByteArray} {p : Nat} (h : bk1 c p 117 = true) : decode c p = .ok (.lneg, 1) := dk_k1 h rfl
set_option maxRecDepth 100000 in
theorem dk_lor {c : ByteArray} {p : Nat} (h : bk1 c p 129 = true) : decode c p = .ok (.lor, 1) := dk_k1 h rfl
set_option maxRecDepth 100000 in
theorem dk_lrem {c : ByteArray} {p : Nat} (h : bk1 c p 113 = true) : decode c p = .ok (.lrem, 1) := dk_k1 h rfl
set_option maxRecDepth 100000 in
theorem dk_lreturn {c : ByteArray} {p : Nat} (h : bk1 c p 173 = true) : decode c p = .ok (.lreturn, 1) := dk_k1 h rfl
set_option maxRecDepth 100000 in
theorem dk_lshl {c : ByteArray} {p : Nat} (h : bk1 c p 121 = true) : decode c p = .ok (.lshl, 1) := dk_k1 h rfl
set_option maxRecDepth 100000 in
theorem dk_lstore_n_2 {c : ByteArray} {p : Nat} (h : bk1 c p 65 = true) : decode c p = .ok (.lstore_n 2, 1) := dk_k1 h rfl
set_option maxRecDepth 100000 in
theorem dk_lstore_n_3 {c : ByteArray} {p : Nat} (h : bk1 c p 66 = true) : decode c p = .ok (.lstore_n 3, 1) := dk_k1 h rfl
set_option maxRecDepth 100000 in
theorem dk_lsub {c : ByteArray} {p : Nat} (h : bk1 c p 101 = true) : decode c p = .ok (.lsub, 1) := dk_k1 h rfl
set_option maxRecDepth 100000 in
theorem dk_pop {c : ByteArray} {p : Nat} (h : bk1 c p 87 = true) : decode c p = .ok (.pop, 1) := dk_k1 h rfl
set_option maxRecDepth 100000 in
theorem dk_pop2 {c : ByteArray} {p : Nat} (h : bk1 c p 88 = true) : decode c p = .ok (.pop2, 1) := dk_k1 h rfl
set_option maxRecDepth 100000 in
theorem dk_return {c : ByteArray} {p : Nat} (h : bk1 c p 177 = true) : decode c p = .ok (.return_, 1) := dk_k1 h rfl
set_option maxRecDepth 100000 in
theorem dk_aload {c : ByteArray} {p n : Nat} (h : bk2 c p 25 n = true) : decode c p = .ok (.aload n, 2) := by
  obtain ⟨a, b⟩ := dk_2 h
  show Except.bind (Except.bind ((Reader.u1 : Decoder Nat) c p) _) _ = _
  rw [a]
  show Except.bind (Except.bind ((Reader.u1 : Decoder Nat) c (p + 1)) _) _ = _
  rw [b]
  show Except.ok (_, p + 1 + 1 - p) = _
  rw [show p + 1 + 1 - p = 2 by omega]
set_option maxRecDepth 100000 in
theorem dk_astore {c : ByteArray} {p n : Nat} (h : bk2 c p 58 n = true) : decode c p = .ok (.astore n, 2) := by
  obtain ⟨a, b⟩ := dk_2 h
  show Except.bind (Except.bind ((Reader.u1 : Decoder Nat) c p) _) _ = _
  rw [a]
  show Except.bind (Except.bind ((Reader.u1 : Decoder Nat) c (p + 1)) _) _ = _
  rw [b]
  show Except.ok (_, p + 1 + 1 - p) = _
  rw [show p + 1 + 1 - p = 2 by omega]
set_option maxRecDepth 100000 in
theorem dk_iload {c : ByteArray} {p n : Nat} (h : bk2 c p 21 n = true) : decode c p = .ok (.iload n, 2) := by
  obtain ⟨a, b⟩ := dk_2 h
  show Except.bind (Except.bind ((Reader.u1 : Decoder Nat) c p) _) _ = _
  rw [a]
  show Except.bind (Except.bind ((Reader.u1 : Decoder Nat) c (p + 1)) _) _ = _
  rw [b]
  show Except.ok (_, p + 1 + 1 - p) = _
  rw [show p + 1 + 1 - p = 2 by omega]
set_option maxRecDepth 100000 in
theorem dk_istore {c : ByteArray} {p n : Nat} (h : bk2 c p 54 n = true) : decode c p = .ok (.istore n, 2) := by
  obtain ⟨a, b⟩ := dk_2 h
  show Except.bind (Except.bind ((Reader.u1 : Decoder Nat) c p) _) _ = _
  rw [a]
  show Except.bind (Except.bind ((Reader.u1 : Decoder Nat) c (p + 1)) _) _ = _
  rw [b]
  show Except.ok (_, p + 1 + 1 - p) = _
  rw [show p + 1 + 1 - p = 2 by omega]
set_option maxRecDepth 100000 in
theorem dk_ldc {c : ByteArray} {p n : Nat} (h : bk2 c p 18 n = true) : decode c p = .ok (.ldc n, 2) := by
  obtain ⟨a, b⟩ := dk_2 h
  show Except.bind (Except.bind ((Reader.u1 : Decoder Nat) c p) _) _ = _
  rw [a]
  show Except.bind (Except.bind ((Reader.u1 : Decoder Nat) c (p + 1)) _) _ = _
  rw [b]
  show Except.ok (_, p + 1 + 1 - p) = _
  rw [show p + 1 + 1 - p = 2 by omega]
set_option maxRecDepth 100000 in
theorem dk_lload {c : ByteArray} {p n : Nat} (h : bk2 c p 22 n = true) : decode c p = .ok (.lload n, 2) := by
  obtain ⟨a, b⟩ := dk_2 h
  show Except.bind (Except.bind ((Reader.u1 : Decoder Nat) c p) _) _ = _
  rw [a]
  show Except.bind (Except.bind ((Reader.u1 : Decoder Nat) c (p + 1)) _) _ = _
  rw [b]
  show Except.ok (_, p + 1 + 1 - p) = _
  rw [show p + 1 + 1 - p = 2 by omega]
set_option maxRecDepth 100000 in
theorem dk_lstore {c : ByteArray} {p n : Nat} (h : bk2 c p 55 n = true) : decode c p = .ok (.lstore n, 2) := by
  obtain ⟨a, b⟩ := dk_2 h
  show Except.bind (Except.bind ((Reader.u1 : Decoder Nat) c p) _) _ = _
  rw [a]
  show Except.bind (Except.bind ((Reader.u1 : Decoder Nat) c (p + 1)) _) _ = _
  rw [b]
  show Except.ok (_, p + 1 + 1 - p) = _
  rw [show p + 1 + 1 - p = 2 by omega]
set_option maxRecDepth 100000 in
theorem dk_anewarray {c : ByteArray} {p n : Nat} (h : bk3 c p 189 n = true) : decode c p = .ok (.anewarray n, 3) := dk_k3 h rfl
set_option maxRecDepth 100000 in
theorem dk_getfield {c : ByteArray} {p n : Nat} (h : bk3 c p 180 n = true) : decode c p = .ok (.getfield n, 3) := dk_k3 h rfl
set_option maxRecDepth 100000 in
theorem dk_getstatic {c : ByteArray} {p n : Nat} (h : bk3 c p 178 n = true) : decode c p = .ok (.getstatic n, 3) := dk_k3 h rfl
set_option maxRecDepth 100000 in
theorem dk_invokespecial {c : ByteArray} {p n : Nat} (h : bk3 c p 183 n = true) : decode c p = .ok (.invokespecial n, 3) := dk_k3 h rfl
set_option maxRecDepth 100000 in
theorem dk_invokestatic {c : ByteArray} {p n : Nat} (h : bk3 c p 184 n = true) : decode c p = .ok (.invokestatic n, 3) := dk_k3 h rfl
set_option maxRecDepth 100000 in
theorem dk_invokevirtual {c : ByteArray} {p n : Nat} (h : bk3 c p 182 n = true) : decode c p = .ok (.invokevirtual n, 3) := dk_k3 h rfl
set_option maxRecDepth 100000 in
theorem dk_ldc2_w {c : ByteArray} {p n : Nat} (h : bk3 c p 20 n = true) : decode c p = .ok (.ldc2_w n, 3) := dk_k3 h rfl
set_option maxRecDepth 100000 in
theorem dk_ldc_w {c : ByteArray} {p n : Nat} (h : bk3 c p 19 n = true) : decode c p = .ok (.ldc_w n, 3) := dk_k3 h rfl
set_option maxRecDepth 100000 in
theorem dk_new {c : ByteArray} {p n : Nat} (h : bk3 c p 187 n = true) : decode c p = .ok (.new n, 3) := dk_k3 h rfl
set_option maxRecDepth 100000 in
theorem dk_putfield {c : ByteArray} {p n : Nat} (h : bk3 c p 181 n = true) : decode c p = .ok (.putfield n, 3) := dk_k3 h rfl
set_option maxRecDepth 100000 in
theorem dk_bipush {c : ByteArray} {p : Nat} {n : Int} (h : bkB c p 16 n = true) : decode c p = .ok (.bipush n, 2) := by
  obtain ⟨a, b⟩ := dk_B h
  show Except.bind (Except.bind ((Reader.u1 : Decoder Nat) c p) _) _ = _
  rw [a]
  show Except.bind (Except.bind ((Reader.s1 : Decoder Int) c (p + 1)) _) _ = _
  rw [b]
  show Except.ok (_, p + 1 + 1 - p) = _
  rw [show p + 1 + 1 - p = 2 by omega]
set_option maxRecDepth 100000 in
theorem dk_iinc {c : ByteArray} {p m : Nat} {n : Int} (h : bkI c p 132 m n = true) : decode c p = .ok (.iinc m n, 3) := by
  obtain ⟨a, b, d⟩ := dk_I h
  show Except.bind (Except.bind ((Reader.u1 : Decoder Nat) c p) _) _ = _
  rw [a]
  show Except.bind (Except.bind ((Reader.u1 : Decoder Nat) c (p + 1)) _) _ = _
  rw [b]
  show Except.bind (Except.bind ((Reader.s1 : Decoder Int) c (p + 1 + 1)) _) _ = _
  rw [d]
  show Except.ok (_, p + 1 + 1 + 1 - p) = _
  rw [show p + 1 + 1 + 1 - p = 3 by omega]
set_option maxRecDepth 100000 in
theorem dk_goto {c : ByteArray} {p : Nat} {n : Int} (h : bkS c p 167 n = true) : decode c p = .ok (.goto n, 3) := dk_kS h rfl
set_option maxRecDepth 100000 in
theorem dk_ifCond_eq {c : ByteArray} {p : Nat} {n : Int} (h : bkS c p 153 n = true) : decode c p = .ok (.ifCond .eq n, 3) := dk_kS h rfl
set_option maxRecDepth 100000 in
theorem dk_ifCond_ge {c : ByteArray} {p : Nat} {n : Int} (h : bkS c p 156 n = true) : decode c p = .ok (.ifCond .ge n, 3) := dk_kS h rfl
set_option maxRecDepth 100000 in
theorem dk_ifCond_gt {c : ByteArray} {p : Nat} {n : Int} (h : bkS c p 157 n = true) : decode c p = .ok (.ifCond .gt n, 3) := dk_kS h rfl
set_option maxRecDepth 100000 in
theorem dk_ifCond_le {c : ByteArray} {p : Nat} {n : Int} (h : bkS c p 158 n = true) : decode c p = .ok (.ifCond .le n, 3) := dk_kS h rfl
set_option maxRecDepth 100000 in
theorem dk_ifCond_lt {c : ByteArray} {p : Nat} {n : Int} (h : bkS c p 155 n = true) : decode c p = .ok (.ifCond .lt n, 3) := dk_kS h rfl
set_option maxRecDepth 100000 in
theorem dk_ifCond_ne {c : ByteArray} {p : Nat} {n : Int} (h : bkS c p 154 n = true) : decode c p = .ok (.ifCond .ne n, 3) := dk_kS h rfl
set_option maxRecDepth 100000 in
theorem dk_if_icmp_eq {c : ByteArray} {p : Nat} {n : Int} (h : bkS c p 159 n = true) : decode c p = .ok (.if_icmp .eq n, 3) := dk_kS h rfl
set_option maxRecDepth 100000 in
theorem dk_if_icmp_ge {c : ByteArray} {p : Nat} {n : Int} (h : bkS c p 162 n = true) : decode c p = .ok (.if_icmp .ge n, 3) := dk_kS h rfl
set_option maxRecDepth 100000 in
theorem dk_if_icmp_gt {c : ByteArray} {p : Nat} {n : Int} (h : bkS c p 163 n = true) : decode c p = .ok (.if_icmp .gt n, 3) := dk_kS h rfl
set_option maxRecDepth 100000 in
theorem dk_if_icmp_le {c : ByteArray} {p : Nat} {n : Int} (h : bkS c p 164 n = true) : decode c p = .ok (.if_icmp .le n, 3) := dk_kS h rfl
set_option maxRecDepth 100000 in
theorem dk_if_icmp_lt {c : ByteArray} {p : Nat} {n : Int} (h : bkS c p 161 n = true) : decode c p = .ok (.if_icmp .lt n, 3) := dk_kS h rfl
set_option maxRecDepth 100000 in
theorem dk_if_icmp_ne {c : ByteArray} {p : Nat} {n : Int} (h : bkS c p 160 n = true) : decode c p = .ok (.if_icmp .ne n, 3) := dk_kS h rfl
set_option maxRecDepth 100000 in
theorem dk_sipush {c : ByteArray} {p : Nat} {n : Int} (h : bkS c p 17 n = true) : decode c p = .ok (.sipush n, 3) := dk_kS h rfl
end
section
/-! rows that check themselves: what a row may lean on is a method's bytes, class, locals, and what its pool says (written by arw.py) -/
noncomputable abbrev PL : Type := List (Nat × Nat × Nat) × List (Nat × Nat × Nat × FieldType) × List (Nat × Int32) × List (Nat × Int64)
noncomputable abbrev PX : Type := (ByteArray × String × Nat × Bool) × PL
noncomputable def px_g (own : String) (L : PL) : Prop := (∀ e ∈ L.1, ∀ (cc : ByteArray) (nL : Nat) (ini : Bool) (pc : Nat), bk3 cc pc 180 e.1 = true → pm_okF cc own nL ini pc (s_getf e.2.1 e.2.2 (pc + 3))) ∧ (∀ e ∈ L.2.1, ∀ (cc : ByteArray) (nL : Nat) (ini : Bool) (pc : Nat), bk3 cc pc 181 e.1 = true → pm_okF cc own nL ini pc (s_putf e.2.1 e.2.2.1 e.2.2.2 (pc + 3))) ∧ (∀ e ∈ L.2.2.1, Cond.constant own e.1 e.2 ∈ pm_T) ∧ ∀ e ∈ L.2.2.2, Cond.constantLong own e.1 e.2 ∈ pm_T
noncomputable def rw_g (f : pm_S → Option pm_S) (c : PX → Nat → Bool) : Prop := ∀ (X : PX) (pc : Nat), px_g X.1.2.1 X.2 → c X pc = true → pm_okF X.1.1 X.1.2.1 X.1.2.2.1 X.1.2.2.2 pc f
theorem ck_and {a b : Bool} (h : (a && b) = true) : a = true ∧ b = true := by rwa [Bool.and_eq_true] at h
theorem ck_or {a b : Bool} (h : (a || b) = true) : a = true ∨ b = true := by rwa [Bool.or_eq_true] at h
noncomputable def ck_no (_ : PX) (_ : Nat) : Bool := false
theorem ck_no_ok {f : pm_S → Option pm_S} : rw_g f ck_no := fun _ _ _ h => by cases h
noncomputable def ck_1 (o n : Nat) (X : PX) (pc : Nat) : Bool := Nat.beq n (pc + 1) && bk1 X.1.1 pc o
theorem ck_1_ok {o : Nat} {g : Nat → pm_S → Option pm_S} (k : ∀ (cc : ByteArray) (own : String) (nL : Nat) (ini : Bool) (pc : Nat), bk1 cc pc o = true → pm_okF cc own nL ini pc (g (pc + 1))) (n : Nat) : rw_g (g n) (ck_1 o n) := by
  intro X pc _ h
  obtain ⟨h1, h2⟩ := ck_and h
  rw [Nat.eq_of_beq_eq_true h1]
  exact k _ _ _ _ _ h2
noncomputable def ck_ld (b o i n : Nat) (X : PX) (pc : Nat) : Bool := (Nat.beq n (pc + 1) && (Nat.blt i 4 && bk1 X.1.1 pc (b + i))) || (Nat.beq n (pc + 2) && bk2 X.1.1 pc o i)
theorem ck_ld_ok {b o : Nat} {g : Nat → Nat → pm_S → Option pm_S} (k0 : ∀ (cc : ByteArray) (own : String) (nL : Nat) (ini : Bool) (pc i : Nat), i < 4 → bk1 cc pc (b + i) = true → pm_okF cc own nL ini pc (g i (pc + 1))) (k : ∀ (cc : ByteArray) (own : String) (nL : Nat) (ini : Bool) (pc i : Nat), bk2 cc pc o i = true → pm_okF cc own nL ini pc (g i (pc + 2))) (i n : Nat) : rw_g (g i n) (ck_ld b o i n) := by
  intro X pc _ h
  rcases ck_or h with h | h
  · obtain ⟨h1, h2⟩ := ck_and h
    obtain ⟨h2, h3⟩ := ck_and h2
    rw [Nat.eq_of_beq_eq_true h1]
    exact k0 _ _ _ _ _ _ (Nat.le_of_ble_eq_true h2) h3
  · obtain ⟨h1, h2⟩ := ck_and h
    rw [Nat.eq_of_beq_eq_true h1]
    exact k _ _ _ _ _ _ h2
noncomputable def ck_st (b o e i n : Nat) (X : PX) (pc : Nat) : Bool := Nat.blt (i + e) X.1.2.2.1 && ((Nat.beq n (pc + 1) && (Nat.blt i 4 && bk1 X.1.1 pc (b + i))) || (Nat.beq n (pc + 2) && bk2 X.1.1 pc o i))
theorem ck_st_ok {b o e : Nat} {g : Nat → Nat → pm_S → Option pm_S} (k0 : ∀ (cc : ByteArray) (own : String) (nL : Nat) (ini : Bool) (pc i : Nat), i + e < nL → i < 4 → bk1 cc pc (b + i) = true → pm_okF cc own nL ini pc (g i (pc + 1))) (k : ∀ (cc : ByteArray) (own : String) (nL : Nat) (ini : Bool) (pc i : Nat), i + e < nL → bk2 cc pc o i = true → pm_okF cc own nL ini pc (g i (pc + 2))) (i n : Nat) : rw_g (g i n) (ck_st b o e i n) := by
  intro X pc _ h
  obtain ⟨h0, h⟩ := ck_and h
  have h0 := Nat.le_of_ble_eq_true h0
  rcases ck_or h with h | h
  · obtain ⟨h1, h2⟩ := ck_and h
    obtain ⟨h2, h3⟩ := ck_and h2
    rw [Nat.eq_of_beq_eq_true h1]
    exact k0 _ _ _ _ _ _ h0 (Nat.le_of_ble_eq_true h2) h3
  · obtain ⟨h1, h2⟩ := ck_and h
    rw [Nat.eq_of_beq_eq_true h1]
    exact k _ _ _ _ _ _ h0 h2
theorem ck_4 {P : Nat → Prop} (h0 : P 0) (h1 : P 1) (h2 : P 2) (h3 : P 3) : ∀ i, i < 4 → P i
  | 0, _ => h0
  | 1, _ => h1
  | 2, _ => h2
  | 3, _ => h3
  | i + 4, h => absurd h (by omega)
noncomputable def ck_if (o t n : Nat) (X : PX) (pc : Nat) : Bool := Nat.beq n (pc + 3) && bkS X.1.1 pc o ((t : Int) - (pc : Int))
theorem ck_if_ok {o : Nat} {g : Nat → Nat → pm_S → Option pm_S} (k : ∀ (cc : ByteArray) (own : String) (nL : Nat) (ini : Bool) (pc : Nat) (off : Int) (t : Nat), bkS cc pc o off = true → (pc : Int) + off = (t : Int) → pm_okF cc own nL ini pc (g t (pc + 3))) (t n : Nat) : rw_g (g t n) (ck_if o t n) := by
  intro X pc _ h
  obtain ⟨h1, h2⟩ := ck_and h
  rw [Nat.eq_of_beq_eq_true h1]
  exact k _ _ _ _ _ _ _ h2 (by omega)
noncomputable def ck_goto (t : Nat) (X : PX) (pc : Nat) : Bool := bkS X.1.1 pc 167 ((t : Int) - (pc : Int))
theorem ck_goto_ok (t : Nat) : rw_g (s_goto t) (ck_goto t) := fun _ _ _ h => k_goto (dk_goto h) (by omega)
noncomputable def ck_inc (i : Nat) (d : Int32) (n : Nat) (X : PX) (pc : Nat) : Bool := Nat.beq n (pc + 3) && (Nat.blt i X.1.2.2.1 && (bkI X.1.1 pc 132 i d.toInt && decide (Int32.ofInt d.toInt = d)))
theorem ck_inc_ok (i : Nat) (d : Int32) (n : Nat) : rw_g (s_inc i d n) (ck_inc i d n) := by
  intro X pc _ h
  obtain ⟨h1, h⟩ := ck_and h
  obtain ⟨h2, h⟩ := ck_and h
  obtain ⟨h3, h4⟩ := ck_and h
  rw [Nat.eq_of_beq_eq_true h1]
  exact k_iinc (dk_iinc h3) (of_decide_eq_true h4) (Nat.le_of_ble_eq_true h2)
noncomputable def ck_gf (ci k n : Nat) (X : PX) (pc : Nat) : Bool := Nat.beq n (pc + 3) && X.2.1.any (fun e => Nat.beq e.2.1 ci && (Nat.beq e.2.2 k && bk3 X.1.1 pc 180 e.1))
theorem ck_gf_ok (ci k n : Nat) : rw_g (s_getf ci k n) (ck_gf ci k n) := by
  intro X pc g h
  obtain ⟨h1, h⟩ := ck_and h
  obtain ⟨e, he, h⟩ := List.any_eq_true.mp h
  obtain ⟨h2, h⟩ := ck_and h
  obtain ⟨h3, h4⟩ := ck_and h
  rw [Nat.eq_of_beq_eq_true h1, ← Nat.eq_of_beq_eq_true h2, ← Nat.eq_of_beq_eq_true h3]
  exact g.1 e he _ _ _ _ h4
noncomputable def ck_pf (ci k : Nat) (ty : FieldType) (n : Nat) (X : PX) (pc : Nat) : Bool := Nat.beq n (pc + 3) && X.2.2.1.any (fun e => Nat.beq e.2.1 ci && (Nat.beq e.2.2.1 k && (decide (e.2.2.2 = ty) && bk3 X.1.1 pc 181 e.1)))
theorem ck_pf_ok (ci k : Nat) (ty : FieldType) (n : Nat) : rw_g (s_putf ci k ty n) (ck_pf ci k ty n) := by
  intro X pc g h
  obtain ⟨h1, h⟩ := ck_and h
  obtain ⟨e, he, h⟩ := List.any_eq_true.mp h
  obtain ⟨h2, h⟩ := ck_and h
  obtain ⟨h3, h⟩ := ck_and h
  obtain ⟨h4, h5⟩ := ck_and h
  rw [Nat.eq_of_beq_eq_true h1, ← Nat.eq_of_beq_eq_true h2, ← Nat.eq_of_beq_eq_true h3, ← of_decide_eq_true h4]
  exact g.2.1 e he _ _ _ _ h5
noncomputable def ck_ic (v : Int32) (c : ByteArray) (pc : Nat) : Bool := (bk1 c pc 2 && decide (Int32.ofInt (-1) = v)) || ((bk1 c pc 3 && decide (Int32.ofInt 0 = v)) || ((bk1 c pc 4 && decide (Int32.ofInt 1 = v)) || ((bk1 c pc 5 && decide (Int32.ofInt 2 = v)) || ((bk1 c pc 6 && decide (Int32.ofInt 3 = v)) || ((bk1 c pc 7 && decide (Int32.ofInt 4 = v)) || (bk1 c pc 8 && decide (Int32.ofInt 5 = v)))))))
theorem ck_ic_ok {v : Int32} {cc : ByteArray} {own : String} {nL pc : Nat} {ini : Bool} (h : ck_ic v cc pc = true) : pm_okF cc own nL ini pc (s_const (.int v) (pc + 1)) := by
  rcases ck_or h with h | h
  · obtain ⟨h1, h2⟩ := ck_and h; exact k_iconst (dk_iconst_m h1) (of_decide_eq_true h2)
  rcases ck_or h with h | h
  · obtain ⟨h1, h2⟩ := ck_and h; exact k_iconst (dk_iconst_0 h1) (of_decide_eq_true h2)
  rcases ck_or h with h | h
  · obtain ⟨h1, h2⟩ := ck_and h; exact k_iconst (dk_iconst_1 h1) (of_decide_eq_true h2)
  rcases ck_or h with h | h
  · obtain ⟨h1, h2⟩ := ck_and h; exact k_iconst (dk_iconst_2 h1) (of_decide_eq_true h2)
  rcases ck_or h with h | h
  · obtain ⟨h1, h2⟩ := ck_and h; exact k_iconst (dk_iconst_3 h1) (of_decide_eq_true h2)
  rcases ck_or h with h | h
  · obtain ⟨h1, h2⟩ := ck_and h; exact k_iconst (dk_iconst_4 h1) (of_decide_eq_true h2)
  obtain ⟨h1, h2⟩ := ck_and h; exact k_iconst (dk_iconst_5 h1) (of_decide_eq_true h2)
noncomputable def ck_ci (v : Int32) (n : Nat) (X : PX) (pc : Nat) : Bool := (Nat.beq n (pc + 1) && ck_ic v X.1.1 pc) || ((Nat.beq n (pc + 2) && ((bkB X.1.1 pc 16 v.toInt && decide ((Int8.ofInt v.toInt).toInt32 = v)) || X.2.2.2.1.any (fun e => bk2 X.1.1 pc 18 e.1 && decide (e.2 = v)))) || (Nat.beq n (pc + 3) && ((bkS X.1.1 pc 17 v.toInt && decide ((Int16.ofInt v.toInt).toInt32 = v)) || X.2.2.2.1.any (fun e => bk3 X.1.1 pc 19 e.1 && decide (e.2 = v)))))
theorem ck_ci_ok (v : Int32) (n : Nat) : rw_g (s_const (.int v) n) (ck_ci v n) := by
  intro X pc g h
  rcases ck_or h with h | h
  · obtain ⟨h1, h⟩ := ck_and h
    rw [Nat.eq_of_beq_eq_true h1]
    exact ck_ic_ok h
  rcases ck_or h with h | h
  · obtain ⟨h1, h⟩ := ck_and h
    rw [Nat.eq_of_beq_eq_true h1]
    rcases ck_or h with h | h
    · obtain ⟨h2, h3⟩ := ck_and h; exact k_bipush (dk_bipush h2) (of_decide_eq_true h3)
    · obtain ⟨e, he, h⟩ := List.any_eq_true.mp h
      obtain ⟨h2, h3⟩ := ck_and h
      rw [← of_decide_eq_true h3]
      exact k_ldc (dk_ldc h2) (g.2.2.1 e he)
  · obtain ⟨h1, h⟩ := ck_and h
    rw [Nat.eq_of_beq_eq_true h1]
    rcases ck_or h with h | h
    · obtain ⟨h2, h3⟩ := ck_and h; exact k_sipush (dk_sipush h2) (of_decide_eq_true h3)
    · obtain ⟨e, he, h⟩ := List.any_eq_true.mp h
      obtain ⟨h2, h3⟩ := ck_and h
      rw [← of_decide_eq_true h3]
      exact k_ldcw (dk_ldc_w h2) (g.2.2.1 e he)
noncomputable def ck_cl (v : Int64) (n : Nat) (X : PX) (pc : Nat) : Bool := (Nat.beq n (pc + 1) && ((bk1 X.1.1 pc 9 && decide (Int64.ofNat 0 = v)) || (bk1 X.1.1 pc 10 && decide (Int64.ofNat 1 = v)))) || (Nat.beq n (pc + 3) && X.2.2.2.2.any (fun e => bk3 X.1.1 pc 20 e.1 && decide (e.2 = v)))
theorem ck_cl_ok (v : Int64) (n : Nat) : rw_g (s_const (.long v) n) (ck_cl v n) := by
  intro X pc g h
  rcases ck_or h with h | h
  · obtain ⟨h1, h⟩ := ck_and h
    rw [Nat.eq_of_beq_eq_true h1]
    rcases ck_or h with h | h
    · obtain ⟨h2, h3⟩ := ck_and h; exact k_lconst (dk_lconst_0 h2) (of_decide_eq_true h3)
    · obtain ⟨h2, h3⟩ := ck_and h; exact k_lconst (dk_lconst_1 h2) (of_decide_eq_true h3)
  · obtain ⟨h1, h⟩ := ck_and h
    rw [Nat.eq_of_beq_eq_true h1]
    obtain ⟨e, he, h⟩ := List.any_eq_true.mp h
    obtain ⟨h2, h3⟩ := ck_and h
    rw [← of_decide_eq_true h3]
    exact k_ldc2 (dk_ldc2_w h2) (g.2.2.2 e he)
noncomputable def ck_const (v : Value) (n : Nat) : PX → Nat → Bool := match v with
  | .int x => ck_ci x n
  | .long x => ck_cl x n
  | _ => ck_no
theorem ck_const_ok (v : Value) (n : Nat) : rw_g (s_const v n) (ck_const v n) := by
  unfold ck_const
  split
  · exact ck_ci_ok _ n
  · exact ck_cl_ok _ n
  · exact ck_no_ok
noncomputable def ck_aa (t n : Nat) (X : PX) (pc : Nat) : Bool := Nat.beq n (pc + 1) && (bk1 X.1.1 pc 50 && (Nat.beq t 4 || Nat.beq t 5))
theorem ck_aa_ok (t n : Nat) : rw_g (s_aald t n) (ck_aa t n) := by
  intro X pc _ h
  obtain ⟨h1, h⟩ := ck_and h
  obtain ⟨h2, h⟩ := ck_and h
  rw [Nat.eq_of_beq_eq_true h1]
  rcases ck_or h with h | h
  · rw [Nat.eq_of_beq_eq_true h]; exact k_aald (C := RX5) (fun _ => rfl) (dk_aaload h2)
  · rw [Nat.eq_of_beq_eq_true h]; exact k_aald (C := RX4) (fun _ => rfl) (dk_aaload h2)
theorem ck_il_ok : ∀ (i n : Nat), rw_g (s_il i n) (ck_ld 26 21 i n) := ck_ld_ok (fun cc own nL ini pc i h4 h => ck_4 (P := fun i => bk1 cc pc (26 + i) = true → pm_okF cc own nL ini pc (s_il i (pc + 1))) (fun h => k_iload_n (dk_iload_n_0 h) rfl) (fun h => k_iload_n (dk_iload_n_1 h) rfl) (fun h => k_iload_n (dk_iload_n_2 h) rfl) (fun h => k_iload_n (dk_iload_n_3 h) rfl) i h4 h) (fun _ _ _ _ _ _ h => k_iload (dk_iload h))
theorem ck_ll_ok : ∀ (i n : Nat), rw_g (s_ll i n) (ck_ld 30 22 i n) := ck_ld_ok (fun cc own nL ini pc i h4 h => ck_4 (P := fun i => bk1 cc pc (30 + i) = true → pm_okF cc own nL ini pc (s_ll i (pc + 1))) (fun h => k_lload_n (dk_lload_n_0 h) rfl) (fun h => k_lload_n (dk_lload_n_1 h) rfl) (fun h => k_lload_n (dk_lload_n_2 h) rfl) (fun h => k_lload_n (dk_lload_n_3 h) rfl) i h4 h) (fun _ _ _ _ _ _ h => k_lload (dk_lload h))
theorem ck_al_ok : ∀ (i n : Nat), rw_g (s_al i n) (ck_ld 42 25 i n) := ck_ld_ok (fun cc own nL ini pc i h4 h => ck_4 (P := fun i => bk1 cc pc (42 + i) = true → pm_okF cc own nL ini pc (s_al i (pc + 1))) (fun h => k_aload_n (dk_aload_n_0 h) rfl) (fun h => k_aload_n (dk_aload_n_1 h) rfl) (fun h => k_aload_n (dk_aload_n_2 h) rfl) (fun h => k_aload_n (dk_aload_n_3 h) rfl) i h4 h) (fun _ _ _ _ _ _ h => k_aload (dk_aload h))
theorem ck_is_ok : ∀ (i n : Nat), rw_g (s_is i n) (ck_st 59 54 0 i n) := ck_st_ok (fun cc own nL ini pc i hn h4 h => ck_4 (P := fun i => i + 0 < nL → bk1 cc pc (59 + i) = true → pm_okF cc own nL ini pc (s_is i (pc + 1))) (fun hn h => k_istore_n (dk_istore_n_0 h) rfl hn) (fun hn h => k_istore_n (dk_istore_n_1 h) rfl hn) (fun hn h => k_istore_n (dk_istore_n_2 h) rfl hn) (fun hn h => k_istore_n (dk_istore_n_3 h) rfl hn) i h4 hn h) (fun _ _ _ _ _ _ hn h => k_istore (dk_istore h) hn)
noncomputable def ck_ls (i n : Nat) (X : PX) (pc : Nat) : Bool := Nat.blt (i + 1) X.1.2.2.1 && ((Nat.beq n (pc + 1) && (Nat.beq i 2 && bk1 X.1.1 pc 65)) || ((Nat.beq n (pc + 1) && (Nat.beq i 3 && bk1 X.1.1 pc 66)) || ((Nat.beq n (pc + 2) && bk2 X.1.1 pc 55 i))))
theorem ck_ls_ok (i n : Nat) : rw_g (s_ls i n) (ck_ls i n) := by
  intro X pc _ h
  obtain ⟨h0, h⟩ := ck_and h
  have h0 : i + 1 < X.1.2.2.1 := Nat.le_of_ble_eq_true h0
  rcases ck_or h with h | h
  · obtain ⟨h1, h⟩ := ck_and h; obtain ⟨h2, h3⟩ := ck_and h; rw [Nat.eq_of_beq_eq_true h1]; have e := Nat.eq_of_beq_eq_true h2; subst e; exact k_lstore_n (dk_lstore_n_2 h3) rfl h0
  rcases ck_or h with h | h
  · obtain ⟨h1, h⟩ := ck_and h; obtain ⟨h2, h3⟩ := ck_and h; rw [Nat.eq_of_beq_eq_true h1]; have e := Nat.eq_of_beq_eq_true h2; subst e; exact k_lstore_n (dk_lstore_n_3 h3) rfl h0
  obtain ⟨h1, h⟩ := ck_and h; rw [Nat.eq_of_beq_eq_true h1]; exact k_lstore (dk_lstore h) h0
noncomputable def ck_as (i n : Nat) (X : PX) (pc : Nat) : Bool := Nat.blt (i + 0) X.1.2.2.1 && ((Nat.beq n (pc + 1) && (Nat.beq i 1 && bk1 X.1.1 pc 76)) || ((Nat.beq n (pc + 1) && (Nat.beq i 2 && bk1 X.1.1 pc 77)) || ((Nat.beq n (pc + 1) && (Nat.beq i 3 && bk1 X.1.1 pc 78)) || ((Nat.beq n (pc + 2) && bk2 X.1.1 pc 58 i)))))
theorem ck_as_ok (i n : Nat) : rw_g (s_as i n) (ck_as i n) := by
  intro X pc _ h
  obtain ⟨h0, h⟩ := ck_and h
  have h0 : i + 0 < X.1.2.2.1 := Nat.le_of_ble_eq_true h0
  rcases ck_or h with h | h
  · obtain ⟨h1, h⟩ := ck_and h; obtain ⟨h2, h3⟩ := ck_and h; rw [Nat.eq_of_beq_eq_true h1]; have e := Nat.eq_of_beq_eq_true h2; subst e; exact k_astore_n (dk_astore_n_1 h3) rfl h0
  rcases ck_or h with h | h
  · obtain ⟨h1, h⟩ := ck_and h; obtain ⟨h2, h3⟩ := ck_and h; rw [Nat.eq_of_beq_eq_true h1]; have e := Nat.eq_of_beq_eq_true h2; subst e; exact k_astore_n (dk_astore_n_2 h3) rfl h0
  rcases ck_or h with h | h
  · obtain ⟨h1, h⟩ := ck_and h; obtain ⟨h2, h3⟩ := ck_and h; rw [Nat.eq_of_beq_eq_true h1]; have e := Nat.eq_of_beq_eq_true h2; subst e; exact k_astore_n (dk_astore_n_3 h3) rfl h0
  obtain ⟨h1, h⟩ := ck_and h; rw [Nat.eq_of_beq_eq_true h1]; exact k_astore (dk_astore h) h0
end
section
/-! THE EXECUTOR (second writing), part 1: abstract values, heaps, states -/
/-- an int or a long is a symbol (or none) and an offset; references by their numbers -/
noncomputable abbrev AV : Type := (Option Nat × Int) ⊕ ((Option Nat × Int) ⊕ (Nat ⊕ (Nat ⊕ Unit)))
/-- the kinds that stand in certificates -/
noncomputable abbrev CV : Type := (Int × Int) ⊕ ((Int × Int) ⊕ (Nat ⊕ (Nat ⊕ Unit)))
noncomputable def av_ev (n : Nat) (ρ : Nat → Int) (k : Option Nat) (o : Int) (v : Int) : Prop := match k with
  | none => v = o
  | some k => k < n ∧ v = ρ k + o
noncomputable def av_g (n : Nat) (ρ : Nat → Int) (a : AV) (v : Value) : Prop := match a, v with
  | .inl (k, o), .int x => av_ev n ρ k o x.toInt
  | .inr (.inl (k, o)), .long x => av_ev n ρ k o x.toInt
  | .inr (.inr (.inl a)), .ref a' => a' = a
  | .inr (.inr (.inr (.inl k))), .retAddr k' => k' = k
  | .inr (.inr (.inr (.inr ()))), .null => True
  | _, _ => False
noncomputable def cv_g (c : CV) (v : Value) : Prop := match c, v with
  | .inl (lo, hi), .int x => lo ≤ x.toInt ∧ x.toInt ≤ hi
  | .inr (.inl (lo, hi)), .long x => lo ≤ x.toInt ∧ x.toInt ≤ hi
  | .inr (.inr (.inl a)), .ref a' => a' = a
  | .inr (.inr (.inr (.inl k))), .retAddr k' => k' = k
  | .inr (.inr (.inr (.inr ()))), .null => True
  | _, _ => False
noncomputable def av_cat (a : AV) : Nat := match a with
  | .inr (.inl (_, _)) => 2
  | _ => 1
theorem av_cat_eq {n : Nat} {ρ : Nat → Int} {a : AV} {v : Value} (h : av_g n ρ a v) : v.category = av_cat a := by
  rcases a with ⟨k, o⟩ | ⟨k, o⟩ | a | k | ⟨⟩ <;> cases v <;> first | rfl | exact h.elim
theorem av_ev_mono {n n' : Nat} {ρ ρ' : Nat → Int} {k : Option Nat} {o v : Int} (hn : n ≤ n') (hρ : ∀ q, q < n → ρ' q = ρ q) (h : av_ev n ρ k o v) : av_ev n' ρ' k o v := by
  cases k with
  | none => exact h
  | some k => exact ⟨Nat.lt_of_lt_of_le h.1 hn, by rw [hρ k h.1]; exact h.2⟩
theorem av_g_mono {n n' : Nat} {ρ ρ' : Nat → Int} {a : AV} {v : Value} (hn : n ≤ n') (hρ : ∀ q, q < n → ρ' q = ρ q) (h : av_g n ρ a v) : av_g n' ρ' a v := by
  rcases a with ⟨k, o⟩ | ⟨k, o⟩ | a | k | ⟨⟩ <;> cases v <;> first | exact av_ev_mono hn hρ h | exact h
theorem av_int {n : Nat} {ρ : Nat → Int} {k : Option Nat} {o : Int} {v : Value} (h : av_g n ρ (.inl (k, o)) v) : ∃ x : Int32, v = .int x ∧ av_ev n ρ k o x.toInt := by
  cases v with
  | int x => exact ⟨x, rfl, h⟩
  | _ => exact h.elim
theorem av_long {n : Nat} {ρ : Nat → Int} {k : Option Nat} {o : Int} {v : Value} (h : av_g n ρ (.inr (.inl (k, o))) v) : ∃ x : Int64, v = .long x ∧ av_ev n ρ k o x.toInt := by
  cases v with
  | long x => exact ⟨x, rfl, h⟩
  | _ => exact h.elim
theorem av_ref {n : Nat} {ρ : Nat → Int} {a : Nat} {v : Value} (h : av_g n ρ (.inr (.inr (.inl a))) v) : v = .ref a := by
  cases v with
  | ref x => exact congrArg Value.ref h
  | _ => exact h.elim
theorem av_out {n : Nat} {ρ : Nat → Int} {a : Nat} {v : Value} (h : av_g n ρ (.inr (.inr (.inr (.inl a)))) v) : v = .retAddr a := by
  cases v with
  | retAddr x => exact congrArg Value.retAddr h
  | _ => exact h.elim
noncomputable abbrev IV : Type := List (Int × Int)
noncomputable def iv_g (ρ : Nat → Int) (iv : IV) : Prop := ∀ k lo hi, iv[k]? = some (lo, hi) → lo ≤ ρ k ∧ ρ k ≤ hi
/-- a fresh symbol -/
noncomputable def iv_ext (ρ : Nat → Int) (n : Nat) (v : Int) : Nat → Int := fun q => bif Nat.beq q n then v else ρ q
theorem iv_ext_old {ρ : Nat → Int} {n : Nat} {v : Int} (q : Nat) (h : q < n) : iv_ext ρ n v q = ρ q := by
  unfold iv_ext
  cases hb : Nat.beq q n with
  | false => rfl
  | true => have := Nat.eq_of_beq_eq_true hb; omega
theorem iv_ext_new {ρ : Nat → Int} {n : Nat} {v : Int} : iv_ext ρ n v n = v := by
  unfold iv_ext; rw [Nat.beq_refl]; rfl
theorem iv_push {ρ : Nat → Int} {iv : IV} {v lo hi : Int} (h : iv_g ρ iv) (h1 : lo ≤ v) (h2 : v ≤ hi) : iv_g (iv_ext ρ iv.length v) (iv ++ [(lo, hi)]) := by
  intro k l u hk
  by_cases hlt : k < iv.length
  · rw [List.getElem?_append_left hlt] at hk
    rw [iv_ext_old k hlt]
    exact h k l u hk
  · have hk' := hk
    rw [List.getElem?_append_right (by omega)] at hk'
    have h0 : k - iv.length = 0 := by
      cases hd : k - iv.length with
      | zero => rfl
      | succ d => rw [hd] at hk'; cases hk'
    have he : k = iv.length := by omega
    subst he
    rw [h0] at hk'
    cases hk'
    rw [iv_ext_new]
    exact ⟨h1, h2⟩
/-- symbols that a segment began with (they keep what they stood for), the heap and the locals at the method's entry -/
noncomputable abbrev AEnv : Type := Nat × (Nat → Int) × pm_H × List (Nat × Value)
noncomputable def ia_g (E : AEnv) (ρ : Nat → Int) (iv : IV) : Prop := iv_g ρ iv ∧ E.1 ≤ iv.length ∧ ∀ k, k < E.1 → ρ k = E.2.1 k
theorem ia_push {E : AEnv} {ρ : Nat → Int} {iv : IV} {v lo hi : Int} (h : ia_g E ρ iv) (h1 : lo ≤ v) (h2 : v ≤ hi) : ia_g E (iv_ext ρ iv.length v) (iv ++ [(lo, hi)]) :=
  ⟨iv_push h.1 h1 h2, by rw [List.length_append]; exact Nat.le_trans h.2.1 (Nat.le_add_right _ _), fun k hk => (iv_ext_old k (Nat.lt_of_lt_of_le hk h.2.1)).trans (h.2.2 k hk)⟩
/-- the interval of a term -/
noncomputable def iv_rng (iv : IV) (k : Option Nat) (o : Int) : Option (Int × Int) := match k with
  | none => some (o, o)
  | some k => match iv[k]? with
    | some (lo, hi) => some (lo + o, hi + o)
    | none => none
theorem iv_rng_ok {E : AEnv} {n : Nat} {ρ : Nat → Int} {iv : IV} {k : Option Nat} {o v lo hi : Int} (h : ia_g E ρ iv) (hv : av_ev n ρ k o v) (hr : iv_rng iv k o = some (lo, hi)) : lo ≤ v ∧ v ≤ hi := by
  cases k with
  | none =>
    cases hr
    obtain rfl : v = o := hv
    omega
  | some k =>
    unfold iv_rng at hr
    simp only at hr
    split at hr
    · rename_i a b e
      cases hr
      have h1 := h.1 k a b e
      have h2 := hv.2
      omega
    · cases hr
noncomputable abbrev AF : Type := (Int × Int) ⊕ (Unit ⊕ (Nat ⊕ Unit))
noncomputable def af_g (c : AF) (v : Value) : Prop := match c, v with
  | .inl (lo, hi), .int x => lo ≤ x.toInt ∧ x.toInt ≤ hi
  | .inr (.inl ()), .long _ => True
  | .inr (.inr (.inl a)), .ref a' => a' = a
  | .inr (.inr (.inr ())), .null => True
  | _, _ => False
/-- cells: arrays of ints (class, length, bounds of the elements, again and again), of longs, of references; objects -/
noncomputable abbrev AE : Type := (Nat × Nat × List (Int × Int)) ⊕ (Nat ⊕ ((Nat × List (Option Nat)) ⊕ (Nat × List AF)))
noncomputable def pat_at (p : List (Int × Int)) (j : Nat) : Option (Int × Int) := p[j % p.length]?
noncomputable def ae_g (c : AE) (x : pm_E) : Prop := match c, x with
  | .inl (t, len, p), .inl (t', len', .inl f) => t' = t ∧ len' = len ∧ ∀ j lo hi, pat_at p j = some (lo, hi) → lo ≤ (f j).toInt ∧ (f j).toInt ≤ hi
  | .inr (.inl len), .inl (t', len', .inr (.inl _)) => t' = 3 ∧ len' = len
  | .inr (.inr (.inl (t, fs))), .inl (t', len', .inr (.inr (.inr (.inr f)))) => t' = t ∧ len' = fs.length ∧ ∀ (j : Nat) (y : Option Nat), fs[j]? = some y → f j = y
  | .inr (.inr (.inr (ci, fs))), .inr (cj, vs) => cj = ci ∧ vs.length = fs.length ∧ ∀ (k : Nat) (c : AF) (v : Value), fs[k]? = some c → vs[k]? = some v → af_g c v
  | _, _ => False
noncomputable def hs_g (hs : List AE) (h : pm_H) : Prop := h.length = hs.length ∧ ∀ (a : Nat) c x, hs[a]? = some c → h[a]? = some x → ae_g c x
theorem hs_at {hs : List AE} {h : pm_H} {a : Nat} {c : AE} (H : hs_g hs h) (hc : hs[a]? = some c) : ∃ x, h[a]? = some x ∧ ae_g c x := by
  have hl : a < hs.length := (List.getElem?_eq_some_iff.mp hc).1
  have hl' : a < h.length := by rw [H.1]; exact hl
  exact ⟨h[a], List.getElem?_eq_getElem hl', H.2 a c _ hc (List.getElem?_eq_getElem hl')⟩
theorem hs_set {hs : List AE} {h : pm_H} {a : Nat} {c : AE} {x : pm_E} (H : hs_g hs h) (hc : hs[a]? = some c) (hx : ae_g c x) : hs_g hs (h.set a x) := by
  refine ⟨by rw [List.length_set]; exact H.1, fun b c' x' h1 h2 => ?_⟩
  by_cases hab : a = b
  · subst hab
    have hl : a < h.length := by rw [H.1]; exact (List.getElem?_eq_some_iff.mp hc).1
    rw [List.getElem?_set_self hl] at h2
    cases h2
    rw [hc] at h1
    cases h1
    exact hx
  · rw [List.getElem?_set_ne hab] at h2
    exact H.2 b c' x' h1 h2
/-- what lies in a cell at a number: a field, an int, a long -/
noncomputable def ld (h : pm_H) (a k : Nat) : Option Value := match h[a]? with
  | some (.inl (_, _, .inl f)) => some (.int (f k))
  | some (.inl (_, _, .inr (.inl f))) => some (.long (f k))
  | some (.inr (_, vs)) => vs[k]?
  | _ => none
/-- ranges of numbers in cells -/
noncomputable abbrev Rng : Type := Nat × Nat × Nat
noncomputable def rg_in (M : List Rng) (a k : Nat) : Bool := M.any (fun r => Nat.beq r.1 a && (Nat.ble r.2.1 k && Nat.ble k r.2.2))
noncomputable def rg_sub (M : List Rng) (a l u : Nat) : Bool := M.any (fun r => Nat.beq r.1 a && (Nat.ble r.2.1 l && Nat.ble u r.2.2))
theorem rg_sub_in {M : List Rng} {a l u k : Nat} (h : rg_sub M a l u = true) (h1 : l ≤ k) (h2 : k ≤ u) : rg_in M a k = true := by
  obtain ⟨r, hr, hb⟩ := List.any_eq_true.mp h
  simp only [Bool.and_eq_true] at hb
  refine List.any_eq_true.mpr ⟨r, hr, ?_⟩
  simp only [Bool.and_eq_true]
  exact ⟨hb.1, Nat.ble_eq_true_of_le (Nat.le_trans (Nat.le_of_ble_eq_true hb.2.1) h1), Nat.ble_eq_true_of_le (Nat.le_trans h2 (Nat.le_of_ble_eq_true hb.2.2))⟩
/-- the ranges meet nowhere -/
noncomputable def rg_dis (S : List Rng) (a l u : Nat) : Bool := S.all (fun r => !(Nat.beq r.1 a) || (Nat.blt r.2.2 l || Nat.blt u r.2.1))
theorem rg_dis_in {S : List Rng} {a l u k : Nat} (h : rg_dis S a l u = true) (h1 : l ≤ k) (h2 : k ≤ u) : rg_in S a k = false := by
  cases hb : rg_in S a k with
  | false => rfl
  | true =>
    obtain ⟨r, hr, hc⟩ := List.any_eq_true.mp hb
    have hd := List.all_eq_true.mp h r hr
    simp only [Bool.and_eq_true] at hc
    simp only [Bool.or_eq_true, Bool.not_eq_true'] at hd
    have c1 := Nat.le_of_ble_eq_true hc.2.1
    have c2 := Nat.le_of_ble_eq_true hc.2.2
    rcases hd with hd | hd | hd
    · rw [hc.1] at hd; cases hd
    · have := Nat.le_of_ble_eq_true hd; omega
    · have := Nat.le_of_ble_eq_true hd; omega
/-- the world: shape of the heap, facts by number, what each fact reads -/
noncomputable abbrev AW : Type := { w : List AE × (Nat → pm_H → Prop) × (Nat → List Rng) // ∀ (i : Nat) (h h' : pm_H), hs_g w.1 h → hs_g w.1 h' → (∀ a k, rg_in (w.2.2 i) a k = true → ld h' a k = ld h a k) → w.2.1 i h → w.2.1 i h' }
/-- two lists, element by element -/
noncomputable def f2 {α β : Type} (R : α → β → Prop) : List α → List β → Prop
  | [], [] => True
  | a :: l, b :: m => R a b ∧ f2 R l m
  | _, _ => False
theorem f2_cons {α β : Type} {R : α → β → Prop} {a : α} {l : List α} {m : List β} (h : f2 R (a :: l) m) : ∃ b m', m = b :: m' ∧ R a b ∧ f2 R l m' := by
  cases m with
  | nil => exact h.elim
  | cons b m' => exact ⟨b, m', rfl, h.1, h.2⟩
theorem f2_mono {α β : Type} {R S : α → β → Prop} (hRS : ∀ a b, R a b → S a b) : ∀ {l : List α} {m : List β}, f2 R l m → f2 S l m
  | [], [], _ => trivial
  | [], _ :: _, h => h.elim
  | _ :: _, [], h => h.elim
  | _ :: _, _ :: _, h => ⟨hRS _ _ h.1, f2_mono hRS h.2⟩
/-- what is known of numbers in cells -/
noncomputable abbrev Mem : Type := List ((Nat × Nat) × AV)
/-- a sum of two symbols is a third; a symbol is at most another and a number -/
noncomputable abbrev Con : Type := (Nat × Nat × Nat) ⊕ (Nat × Nat × Int)
noncomputable def con_g (n : Nat) (ρ : Nat → Int) (c : Con) : Prop := match c with
  | .inl (s, a, b) => s < n ∧ a < n ∧ b < n ∧ ρ s = ρ a + ρ b
  | .inr (a, b, c) => a < n ∧ b < n ∧ ρ a ≤ ρ b + c
theorem con_g_mono {n n' : Nat} {ρ ρ' : Nat → Int} {c : Con} (hn : n ≤ n') (hρ : ∀ q, q < n → ρ' q = ρ q) (h : con_g n ρ c) : con_g n' ρ' c := by
  rcases c with ⟨s, a, b⟩ | ⟨a, b, c⟩
  · obtain ⟨h1, h2, h3, h4⟩ := h
    exact ⟨Nat.lt_of_lt_of_le h1 hn, Nat.lt_of_lt_of_le h2 hn, Nat.lt_of_lt_of_le h3 hn, by rw [hρ s h1, hρ a h2, hρ b h3]; exact h4⟩
  · obtain ⟨h1, h2, h4⟩ := h
    exact ⟨Nat.lt_of_lt_of_le h1 hn, Nat.lt_of_lt_of_le h2 hn, by rw [hρ a h1, hρ b h2]; exact h4⟩
/-- memory, relations, facts that hold, what may be stored to, locals that stay -/
noncomputable abbrev AX : Type := Mem × List Con × List Nat × List Rng × List Nat
/-- states: place in the code, locals, stack, intervals, and the rest -/
noncomputable abbrev AS : Type := Nat × List (Nat × AV) × List AV × IV × AX
noncomputable def ex_g (w : AW) (E : AEnv) (n : Nat) (ρ : Nat → Int) (x : AX) (cl : List (Nat × Value)) (h : pm_H) : Prop :=
  hs_g w.1.1 h ∧ (∀ q a, (q, a) ∈ x.1 → ∃ v, ld h q.1 q.2 = some v ∧ av_g n ρ a v) ∧ (∀ c ∈ x.2.1, con_g n ρ c) ∧ (∀ i ∈ x.2.2.1, w.1.2.1 i h) ∧ (∀ a k, rg_in x.2.2.2.1 a k = false → ld h a k = ld E.2.2.1 a k) ∧ ∀ i ∈ x.2.2.2.2, pm_get cl i = pm_get E.2.2.2 i
theorem ex_g_mono {w : AW} {E : AEnv} {n n' : Nat} {ρ ρ' : Nat → Int} {x : AX} {cl : List (Nat × Value)} {h : pm_H} (hn : n ≤ n') (hρ : ∀ q, q < n → ρ' q = ρ q) (g : ex_g w E n ρ x cl h) : ex_g w E n' ρ' x cl h := by
  obtain ⟨g1, g2, g3, g4, g5, g6⟩ := g
  refine ⟨g1, fun q a hm => ?_, fun c hc => con_g_mono hn hρ (g3 c hc), g4, g5, g6⟩
  obtain ⟨v, e1, e2⟩ := g2 q a hm
  exact ⟨v, e1, av_g_mono hn hρ e2⟩
/-- what a state says, its symbols standing for given numbers -/
noncomputable def as_r (w : AW) (E : AEnv) (ρ : Nat → Int) (A : AS) (σ : pm_S) : Prop := ia_g E ρ A.2.2.2.1 ∧ σ.1 = A.1 ∧ (∀ i a, (i, a) ∈ A.2.1 → ∃ v, pm_get σ.2.1 i = some v ∧ av_g A.2.2.2.1.length ρ a v) ∧ f2 (fun a v => av_g A.2.2.2.1.length ρ a v) A.2.2.1 σ.2.2.1 ∧ ex_g w E A.2.2.2.1.length ρ A.2.2.2.2 σ.2.1 σ.2.2.2.1
noncomputable def as_g (w : AW) (E : AEnv) (A : AS) (σ : pm_S) : Prop := ∃ ρ : Nat → Int, as_r w E ρ A σ
noncomputable def as_get : List (Nat × AV) → Nat → Option AV
  | [], _ => none
  | q :: l, i => bif Nat.beq q.1 i then some q.2 else as_get l i
theorem as_get_in {i : Nat} {a : AV} : ∀ {lv : List (Nat × AV)}, as_get lv i = some a → (i, a) ∈ lv
  | [], h => by cases h
  | q :: l, h => by
    unfold as_get at h
    cases hb : Nat.beq q.1 i with
    | true =>
      rw [hb] at h
      have h1 : q.1 = i := Nat.eq_of_beq_eq_true hb
      have h2 : q.2 = a := Option.some.inj h
      subst h1; subst h2
      exact List.mem_cons_self
    | false =>
      rw [hb] at h
      exact List.mem_cons_of_mem _ (as_get_in h)
/-- locals that a store leaves -/
theorem pm_get_filter {p : Nat × Value → Bool} {i : Nat} {v : Value} : ∀ {lv : List (Nat × Value)}, pm_get lv i = some v → p (i, v) = true → pm_get (lv.filter p) i = some v
  | [], h, _ => by cases h
  | q :: l, h, hp => by
    unfold pm_get at h
    cases hb : Nat.beq q.1 i with
    | true =>
      rw [hb] at h
      have h1 : q.1 = i := Nat.eq_of_beq_eq_true hb
      have h2 : q.2 = v := Option.some.inj h
      subst h1; subst h2
      rw [List.filter_cons_of_pos hp]
      unfold pm_get
      rw [hb]; rfl
    | false =>
      rw [hb] at h
      have ih := pm_get_filter (p := p) (i := i) (v := v) (lv := l) h hp
      cases hq : p q with
      | true =>
        rw [List.filter_cons_of_pos hq]
        unfold pm_get
        rw [hb]; exact ih
      | false =>
        rw [List.filter_cons_of_neg (by rw [hq]; exact Bool.false_ne_true)]
        exact ih
theorem pm_get_self {i : Nat} {v : Value} {l : List (Nat × Value)} : pm_get ((i, v) :: l) i = some v := by
  unfold pm_get; rw [Nat.beq_refl]; rfl
theorem pm_get_ne {i j : Nat} {v w : Value} {l : List (Nat × Value)} (h : j ≠ i) (hl : pm_get l j = some w) : pm_get ((i, v) :: l) j = some w := by
  unfold pm_get
  cases hb : Nat.beq i j with
  | true => exact absurd (Nat.eq_of_beq_eq_true hb).symm h
  | false => exact hl
noncomputable def as_put1 (i : Nat) (a : AV) (lv : List (Nat × AV)) : List (Nat × AV) := (i, a) :: lv.filter (fun q => !(Nat.beq q.1 i) && !(Nat.beq (q.1 + 1) i && Nat.beq (av_cat q.2) 2))
noncomputable def as_put2 (i : Nat) (a : AV) (lv : List (Nat × AV)) : List (Nat × AV) := (i, a) :: lv.filter (fun q => !(Nat.beq q.1 i) && (!(Nat.beq q.1 (i + 1)) && !(Nat.beq (q.1 + 1) i && Nat.beq (av_cat q.2) 2)))
theorem as_beq {a b : Nat} : (a == b) = Nat.beq a b := by
  cases h : Nat.beq a b with
  | true => rw [Nat.eq_of_beq_eq_true h]; exact beq_self_eq_true _
  | false => exact beq_eq_false_iff_ne.mpr (Nat.ne_of_beq_eq_false h)
theorem as_put1_ok {n : Nat} {ρ : Nat → Int} {i : Nat} {a : AV} {v : Value} {la : List (Nat × AV)} {lv : List (Nat × Value)} (h : ∀ j c, (j, c) ∈ la → ∃ w, pm_get lv j = some w ∧ av_g n ρ c w) (hv : av_g n ρ a v) :
    ∀ j c, (j, c) ∈ as_put1 i a la → ∃ w, pm_get (pm_put1 i v lv) j = some w ∧ av_g n ρ c w := by
  intro j c hm
  unfold as_put1 at hm
  cases List.mem_cons.mp hm with
  | inl e => cases e; exact ⟨v, pm_get_self, hv⟩
  | inr hm =>
    obtain ⟨hm1, hm2⟩ := List.mem_filter.mp hm
    obtain ⟨w, e1, e2⟩ := h j c hm1
    have hcat := av_cat_eq e2
    refine ⟨w, ?_, e2⟩
    simp only [← as_beq, Bool.and_eq_true, Bool.not_eq_true', Bool.and_eq_false_iff, beq_eq_false_iff_ne] at hm2
    refine pm_get_ne hm2.1 (pm_get_filter e1 ?_)
    simp only [Bool.and_eq_true, Bool.not_eq_true', Bool.and_eq_false_iff, beq_eq_false_iff_ne, hcat]
    exact hm2
theorem as_put2_ok {n : Nat} {ρ : Nat → Int} {i : Nat} {a : AV} {v : Value} {la : List (Nat × AV)} {lv : List (Nat × Value)} (h : ∀ j c, (j, c) ∈ la → ∃ w, pm_get lv j = some w ∧ av_g n ρ c w) (hv : av_g n ρ a v) :
    ∀ j c, (j, c) ∈ as_put2 i a la → ∃ w, pm_get (pm_put2 i v lv) j = some w ∧ av_g n ρ c w := by
  intro j c hm
  unfold as_put2 at hm
  cases List.mem_cons.mp hm with
  | inl e => cases e; exact ⟨v, pm_get_self, hv⟩
  | inr hm =>
    obtain ⟨hm1, hm2⟩ := List.mem_filter.mp hm
    obtain ⟨w, e1, e2⟩ := h j c hm1
    have hcat := av_cat_eq e2
    refine ⟨w, ?_, e2⟩
    simp only [← as_beq, Bool.and_eq_true, Bool.not_eq_true', Bool.and_eq_false_iff, beq_eq_false_iff_ne] at hm2
    refine pm_get_ne hm2.1 (pm_get_filter e1 ?_)
    simp only [Bool.and_eq_true, Bool.not_eq_true', Bool.and_eq_false_iff, beq_eq_false_iff_ne, hcat]
    exact hm2
end
section
/-! THE EXECUTOR (second writing), part 2: steps over abstract states; each covers the step of the pure machine -/
noncomputable def ai_ok (w : AW) (f : pm_S → Option pm_S) (g : AS → Option (List AS)) : Prop := ∀ (E : AEnv) (A : AS) (σ : pm_S) (As : List AS), as_g w E A σ → g A = some As → ∃ σ', f σ = some σ' ∧ ∃ A' ∈ As, as_g w E A' σ'
section AIS
variable {w : AW}
noncomputable def a_const (v : Value) (n : Nat) : AS → Option (List AS) := fun A => match v with
  | .int c => some [(n, A.2.1, .inl (none, c.toInt) :: A.2.2.1, A.2.2.2)]
  | .long c => some [(n, A.2.1, .inr (.inl (none, c.toInt)) :: A.2.2.1, A.2.2.2)]
  | .retAddr k => some [(n, A.2.1, .inr (.inr (.inr (.inl k))) :: A.2.2.1, A.2.2.2)]
  | _ => none
theorem a_const_ok (v : Value) (n : Nat) : ai_ok w (s_const v n) (a_const v n) := by
  rintro E ⟨pc, lv, st, iv, ex⟩ ⟨pc', cl, cs, W⟩ As ⟨ρ, g1, g2, g3, g4, g5⟩ h
  refine ⟨(n, cl, v :: cs, W), rfl, ?_⟩
  cases v with
  | int c => cases h; exact ⟨_, List.mem_singleton_self _, ρ, g1, rfl, g3, ⟨rfl, g4⟩, g5⟩
  | long c => cases h; exact ⟨_, List.mem_singleton_self _, ρ, g1, rfl, g3, ⟨rfl, g4⟩, g5⟩
  | retAddr c => cases h; exact ⟨_, List.mem_singleton_self _, ρ, g1, rfl, g3, ⟨rfl, g4⟩, g5⟩
  | _ => cases h
noncomputable def a_il (i n : Nat) : AS → Option (List AS) := fun A => match as_get A.2.1 i with
  | some (.inl (k, o)) => some [(n, A.2.1, .inl (k, o) :: A.2.2.1, A.2.2.2)]
  | _ => none
theorem a_il_ok (i n : Nat) : ai_ok w (s_il i n) (a_il i n) := by
  rintro E ⟨pc, lv, st, iv, ex⟩ ⟨pc', cl, cs, W⟩ As ⟨ρ, g1, g2, g3, g4, g5⟩ h
  simp only [a_il] at h
  split at h
  · rename_i k o e
    cases h
    obtain ⟨v, e1, e2⟩ := g3 i _ (as_get_in e)
    cases v with
    | int x => exact ⟨(n, cl, .int x :: cs, W), by simp only [s_il]; simp only at e1; rw [e1], _, List.mem_singleton_self _, ρ, g1, rfl, g3, ⟨e2, g4⟩, g5⟩
    | _ => exact e2.elim
  · cases h
noncomputable def a_ll (i n : Nat) : AS → Option (List AS) := fun A => match as_get A.2.1 i with
  | some (.inr (.inl (k, o))) => some [(n, A.2.1, .inr (.inl (k, o)) :: A.2.2.1, A.2.2.2)]
  | _ => none
theorem a_ll_ok (i n : Nat) : ai_ok w (s_ll i n) (a_ll i n) := by
  rintro E ⟨pc, lv, st, iv, ex⟩ ⟨pc', cl, cs, W⟩ As ⟨ρ, g1, g2, g3, g4, g5⟩ h
  simp only [a_ll] at h
  split at h
  · rename_i k o e
    cases h
    obtain ⟨v, e1, e2⟩ := g3 i _ (as_get_in e)
    cases v with
    | long x => exact ⟨(n, cl, .long x :: cs, W), by simp only [s_ll]; simp only at e1; rw [e1], _, List.mem_singleton_self _, ρ, g1, rfl, g3, ⟨e2, g4⟩, g5⟩
    | _ => exact e2.elim
  · cases h
noncomputable def a_al (i n : Nat) : AS → Option (List AS) := fun A => match as_get A.2.1 i with
  | some (.inr (.inr (.inl a))) => some [(n, A.2.1, .inr (.inr (.inl a)) :: A.2.2.1, A.2.2.2)]
  | some (.inr (.inr (.inr (.inl a)))) => some [(n, A.2.1, .inr (.inr (.inr (.inl a))) :: A.2.2.1, A.2.2.2)]
  | _ => none
theorem a_al_ok (i n : Nat) : ai_ok w (s_al i n) (a_al i n) := by
  rintro E ⟨pc, lv, st, iv, ex⟩ ⟨pc', cl, cs, W⟩ As ⟨ρ, g1, g2, g3, g4, g5⟩ h
  simp only [a_al] at h
  split at h
  · rename_i a e
    cases h
    obtain ⟨v, e1, e2⟩ := g3 i _ (as_get_in e)
    cases v with
    | ref x => exact ⟨(n, cl, .ref x :: cs, W), by simp only [s_al]; simp only at e1; rw [e1], _, List.mem_singleton_self _, ρ, g1, rfl, g3, ⟨e2, g4⟩, g5⟩
    | _ => exact e2.elim
  · rename_i a e
    cases h
    obtain ⟨v, e1, e2⟩ := g3 i _ (as_get_in e)
    cases v with
    | retAddr x => exact ⟨(n, cl, .retAddr x :: cs, W), by simp only [s_al]; simp only at e1; rw [e1], _, List.mem_singleton_self _, ρ, g1, rfl, g3, ⟨e2, g4⟩, g5⟩
    | _ => exact e2.elim
  · cases h
/-- a store to a local leaves those that stay -/
noncomputable def kp1 (K : List Nat) (lv : List (Nat × AV)) (i : Nat) : Bool := K.all (fun j => !(Nat.beq j i) && (match as_get lv j with | some a => !(Nat.beq (j + 1) i) || Nat.beq (av_cat a) 1 | none => false))
noncomputable def kp2 (K : List Nat) (lv : List (Nat × AV)) (i : Nat) : Bool := K.all (fun j => !(Nat.beq j i) && (!(Nat.beq j (i + 1)) && (match as_get lv j with | some a => !(Nat.beq (j + 1) i) || Nat.beq (av_cat a) 1 | none => false)))
theorem ex_put1 {E : AEnv} {n : Nat} {ρ : Nat → Int} {ex : AX} {cl : List (Nat × Value)} {h : pm_H} {lv : List (Nat × AV)} {i : Nat} {v : Value} (g3 : ∀ i a, (i, a) ∈ lv → ∃ v, pm_get cl i = some v ∧ av_g n ρ a v) (hk : kp1 ex.2.2.2.2 lv i = true) (g : ex_g w E n ρ ex cl h) : ex_g w E n ρ ex (pm_put1 i v cl) h := by
  obtain ⟨g1, g2, g4, g5, g6, g7⟩ := g
  refine ⟨g1, g2, g4, g5, g6, fun j hj => ?_⟩
  have h1 := List.all_eq_true.mp hk j hj
  rw [Bool.and_eq_true] at h1
  split at h1
  · rename_i a e
    obtain ⟨u, e1, e2⟩ := g3 j a (as_get_in e)
    have hcat := av_cat_eq e2
    rw [← g7 j hj, e1]
    simp only [← as_beq, Bool.not_eq_true', Bool.or_eq_true, beq_eq_false_iff_ne, beq_iff_eq] at h1
    refine pm_get_ne h1.1 (pm_get_filter e1 ?_)
    simp only [Bool.and_eq_true, Bool.not_eq_true', Bool.and_eq_false_iff, beq_eq_false_iff_ne, hcat]
    refine ⟨h1.1, ?_⟩
    cases h1.2 with
    | inl q => exact .inl q
    | inr q => right; rw [q]; decide
  · cases h1.2
theorem ex_put2 {E : AEnv} {n : Nat} {ρ : Nat → Int} {ex : AX} {cl : List (Nat × Value)} {h : pm_H} {lv : List (Nat × AV)} {i : Nat} {v : Value} (g3 : ∀ i a, (i, a) ∈ lv → ∃ v, pm_get cl i = some v ∧ av_g n ρ a v) (hk : kp2 ex.2.2.2.2 lv i = true) (g : ex_g w E n ρ ex cl h) : ex_g w E n ρ ex (pm_put2 i v cl) h := by
  obtain ⟨g1, g2, g4, g5, g6, g7⟩ := g
  refine ⟨g1, g2, g4, g5, g6, fun j hj => ?_⟩
  have h1 := List.all_eq_true.mp hk j hj
  rw [Bool.and_eq_true, Bool.and_eq_true] at h1
  split at h1
  · rename_i a e
    obtain ⟨u, e1, e2⟩ := g3 j a (as_get_in e)
    have hcat := av_cat_eq e2
    rw [← g7 j hj, e1]
    simp only [← as_beq, Bool.not_eq_true', Bool.or_eq_true, beq_eq_false_iff_ne, beq_iff_eq] at h1
    refine pm_get_ne h1.1 (pm_get_filter e1 ?_)
    simp only [Bool.and_eq_true, Bool.not_eq_true', Bool.and_eq_false_iff, beq_eq_false_iff_ne, hcat]
    refine ⟨h1.1, h1.2.1, ?_⟩
    cases h1.2.2 with
    | inl q => exact .inl q
    | inr q => right; rw [q]; decide
  · cases h1.2.2
noncomputable def a_is (i n : Nat) : AS → Option (List AS) := fun A => match A.2.2.1 with
  | .inl (k, o) :: st => bif kp1 A.2.2.2.2.2.2.2.2 A.2.1 i then some [(n, as_put1 i (.inl (k, o)) A.2.1, st, A.2.2.2)] else none
  | _ => none
theorem a_is_ok (i n : Nat) : ai_ok w (s_is i n) (a_is i n) := by
  rintro E ⟨pc, lv, st, iv, ex⟩ ⟨pc', cl, cs, W⟩ As ⟨ρ, g1, g2, g3, g4, g5⟩ h
  simp only [a_is] at h
  split at h
  · rename_i st'
    cases hb : kp1 ex.2.2.2.2 lv i with
    | false => rw [hb] at h; cases h
    | true =>
      rw [hb] at h
      cases h
      obtain ⟨v, cs, rfl, ha, hr⟩ := f2_cons g4
      cases v with
      | int x => exact ⟨(n, pm_put1 i (.int x) cl, cs, W), rfl, _, List.mem_singleton_self _, ρ, g1, rfl, as_put1_ok g3 ha, hr, ex_put1 g3 hb g5⟩
      | _ => exact ha.elim
  · cases h
noncomputable def a_ls (i n : Nat) : AS → Option (List AS) := fun A => match A.2.2.1 with
  | .inr (.inl (k, o)) :: st => bif kp2 A.2.2.2.2.2.2.2.2 A.2.1 i then some [(n, as_put2 i (.inr (.inl (k, o))) A.2.1, st, A.2.2.2)] else none
  | _ => none
theorem a_ls_ok (i n : Nat) : ai_ok w (s_ls i n) (a_ls i n) := by
  rintro E ⟨pc, lv, st, iv, ex⟩ ⟨pc', cl, cs, W⟩ As ⟨ρ, g1, g2, g3, g4, g5⟩ h
  simp only [a_ls] at h
  split at h
  · rename_i st'
    cases hb : kp2 ex.2.2.2.2 lv i with
    | false => rw [hb] at h; cases h
    | true =>
      rw [hb] at h
      cases h
      obtain ⟨v, cs, rfl, ha, hr⟩ := f2_cons g4
      cases v with
      | long x => exact ⟨(n, pm_put2 i (.long x) cl, cs, W), rfl, _, List.mem_singleton_self _, ρ, g1, rfl, as_put2_ok g3 ha, hr, ex_put2 g3 hb g5⟩
      | _ => exact ha.elim
  · cases h
noncomputable def a_as (i n : Nat) : AS → Option (List AS) := fun A => match A.2.2.1 with
  | .inr (.inr (.inl a)) :: st => bif kp1 A.2.2.2.2.2.2.2.2 A.2.1 i then some [(n, as_put1 i (.inr (.inr (.inl a))) A.2.1, st, A.2.2.2)] else none
  | _ => none
theorem a_as_ok (i n : Nat) : ai_ok w (s_as i n) (a_as i n) := by
  rintro E ⟨pc, lv, st, iv, ex⟩ ⟨pc', cl, cs, W⟩ As ⟨ρ, g1, g2, g3, g4, g5⟩ h
  simp only [a_as] at h
  split at h
  · rename_i st'
    cases hb : kp1 ex.2.2.2.2 lv i with
    | false => rw [hb] at h; cases h
    | true =>
      rw [hb] at h
      cases h
      obtain ⟨v, cs, rfl, ha, hr⟩ := f2_cons g4
      cases v with
      | ref x => exact ⟨(n, pm_put1 i (.ref x) cl, cs, W), rfl, _, List.mem_singleton_self _, ρ, g1, rfl, as_put1_ok g3 ha, hr, ex_put1 g3 hb g5⟩
      | _ => exact ha.elim
  · cases h
noncomputable def a_goto (t : Nat) : AS → Option (List AS) := fun A => some [(t, A.2.1, A.2.2.1, A.2.2.2)]
theorem a_goto_ok (t : Nat) : ai_ok w (s_goto t) (a_goto t) := by
  rintro E ⟨pc, lv, st, iv, ex⟩ ⟨pc', cl, cs, W⟩ As ⟨ρ, g1, g2, g3, g4, g5⟩ h
  cases h
  exact ⟨(t, cl, cs, W), rfl, _, List.mem_singleton_self _, ρ, g1, rfl, g3, g4, g5⟩
noncomputable def a_dup (n : Nat) : AS → Option (List AS) := fun A => match A.2.2.1 with
  | a :: st => bif Nat.beq (av_cat a) 1 then some [(n, A.2.1, a :: a :: st, A.2.2.2)] else none
  | _ => none
theorem a_dup_ok (n : Nat) : ai_ok w (s_dup n) (a_dup n) := by
  rintro E ⟨pc, lv, st, iv, ex⟩ ⟨pc', cl, cs, W⟩ As ⟨ρ, g1, g2, g3, g4, g5⟩ h
  simp only [a_dup] at h
  split at h
  · rename_i a st'
    cases hb : Nat.beq (av_cat a) 1 with
    | false => rw [hb] at h; cases h
    | true =>
      rw [hb] at h
      cases h
      obtain ⟨v, cs, rfl, ha, hr⟩ := f2_cons g4
      ·
        exact ⟨(n, cl, v :: v :: cs, W), by simp only [s_dup]; rw [av_cat_eq ha, hb]; rfl, _, List.mem_singleton_self _, ρ, g1, rfl, g3, ⟨ha, ha, hr⟩, g5⟩
  · cases h
noncomputable def a_pop (n : Nat) : AS → Option (List AS) := fun A => match A.2.2.1 with
  | a :: st => bif Nat.beq (av_cat a) 1 then some [(n, A.2.1, st, A.2.2.2)] else none
  | _ => none
theorem a_pop_ok (n : Nat) : ai_ok w (s_pop n) (a_pop n) := by
  rintro E ⟨pc, lv, st, iv, ex⟩ ⟨pc', cl, cs, W⟩ As ⟨ρ, g1, g2, g3, g4, g5⟩ h
  simp only [a_pop] at h
  split at h
  · rename_i a st'
    cases hb : Nat.beq (av_cat a) 1 with
    | false => rw [hb] at h; cases h
    | true =>
      rw [hb] at h
      cases h
      obtain ⟨v, cs, rfl, ha, hr⟩ := f2_cons g4
      ·
        exact ⟨(n, cl, cs, W), by simp only [s_pop]; rw [av_cat_eq ha, hb]; rfl, _, List.mem_singleton_self _, ρ, g1, rfl, g3, hr, g5⟩
  · cases h
noncomputable def a_dup2 (n : Nat) : AS → Option (List AS) := fun A => match A.2.2.1 with
  | a :: c :: st => bif Nat.beq (av_cat a) 1 && Nat.beq (av_cat c) 1 then some [(n, A.2.1, a :: c :: a :: c :: st, A.2.2.2)] else none
  | _ => none
theorem a_dup2_ok (n : Nat) : ai_ok w (s_dup2 n) (a_dup2 n) := by
  rintro E ⟨pc, lv, st, iv, ex⟩ ⟨pc', cl, cs, W⟩ As ⟨ρ, g1, g2, g3, g4, g5⟩ h
  simp only [a_dup2] at h
  split at h
  · rename_i a c st'
    cases hb : (Nat.beq (av_cat a) 1 && Nat.beq (av_cat c) 1) with
    | false => rw [hb] at h; cases h
    | true =>
      rw [hb] at h
      cases h
      obtain ⟨v, cs, rfl, ha, hr0⟩ := f2_cons g4
      ·
        obtain ⟨u, cs, rfl, hc, hr⟩ := f2_cons hr0
        ·
          exact ⟨(n, cl, v :: u :: v :: u :: cs, W), by simp only [s_dup2]; rw [av_cat_eq ha, av_cat_eq hc, hb]; rfl, _, List.mem_singleton_self _, ρ, g1, rfl, g3, ⟨ha, hc, ha, hc, hr⟩, g5⟩
  · cases h
end AIS
end
section
/-! THE EXECUTOR (second writing), part 3: numbers within bounds -/
theorem ai_bmod {v : Int} (h1 : -2147483648 ≤ v) (h2 : v ≤ 2147483647) : v.bmod (2 ^ 32) = v := by
  unfold Int.bmod
  have e : ((2 ^ 32 : Nat) : Int) = 4294967296 := rfl
  simp only [e]
  split <;> omega
theorem ai_lo (x : Int32) : -2147483648 ≤ x.toInt := by have := Int32.le_toInt x; omega
theorem ai_hi (x : Int32) : x.toInt ≤ 2147483647 := by have := Int32.toInt_lt x; omega
theorem ai_add {x y : Int32} (h1 : -2147483648 ≤ x.toInt + y.toInt) (h2 : x.toInt + y.toInt ≤ 2147483647) : (x + y).toInt = x.toInt + y.toInt := by
  rw [Int32.toInt_add]; exact ai_bmod h1 h2
theorem ai_sub {x y : Int32} (h1 : -2147483648 ≤ x.toInt - y.toInt) (h2 : x.toInt - y.toInt ≤ 2147483647) : (x - y).toInt = x.toInt - y.toInt := by
  rw [Int32.toInt_sub]; exact ai_bmod h1 h2
theorem ai_mul {x y : Int32} (h1 : -2147483648 ≤ x.toInt * y.toInt) (h2 : x.toInt * y.toInt ≤ 2147483647) : (x * y).toInt = x.toInt * y.toInt := by
  rw [Int32.toInt_mul]; exact ai_bmod h1 h2
/-- within the ints -/
noncomputable def ai_in (lo hi : Int) : Bool := decide (-2147483648 ≤ lo) && decide (hi ≤ 2147483647)
theorem ai_in_ok {lo hi : Int} (h : ai_in lo hi = true) : -2147483648 ≤ lo ∧ hi ≤ 2147483647 := by
  simpa [ai_in, Bool.and_eq_true, decide_eq_true_eq] using h
noncomputable def ai_bnd (lo hi : Int) : Int × Int := bif ai_in lo hi then (lo, hi) else (-2147483648, 2147483647)
theorem ai_bnd_ok {z : Int32} {lo hi : Int} (h : ai_in lo hi = true → lo ≤ z.toInt ∧ z.toInt ≤ hi) : (ai_bnd lo hi).1 ≤ z.toInt ∧ z.toInt ≤ (ai_bnd lo hi).2 := by
  unfold ai_bnd
  cases hb : ai_in lo hi with
  | false => exact ⟨ai_lo _, ai_hi _⟩
  | true => exact h hb
/-- the same for longs -/
theorem al_bmod {v : Int} (h1 : -9223372036854775808 ≤ v) (h2 : v ≤ 9223372036854775807) : v.bmod (2 ^ 64) = v := by
  unfold Int.bmod
  have e : ((2 ^ 64 : Nat) : Int) = 18446744073709551616 := rfl
  simp only [e]
  split <;> omega
theorem al_lo (x : Int64) : -9223372036854775808 ≤ x.toInt := by have := Int64.le_toInt x; omega
theorem al_hi (x : Int64) : x.toInt ≤ 9223372036854775807 := by have := Int64.toInt_lt x; omega
theorem al_add {x y : Int64} (h1 : -9223372036854775808 ≤ x.toInt + y.toInt) (h2 : x.toInt + y.toInt ≤ 9223372036854775807) : (x + y).toInt = x.toInt + y.toInt := by
  rw [Int64.toInt_add]; exact al_bmod h1 h2
theorem al_sub {x y : Int64} (h1 : -9223372036854775808 ≤ x.toInt - y.toInt) (h2 : x.toInt - y.toInt ≤ 9223372036854775807) : (x - y).toInt = x.toInt - y.toInt := by
  rw [Int64.toInt_sub]; exact al_bmod h1 h2
theorem al_mul {x y : Int64} (h1 : -9223372036854775808 ≤ x.toInt * y.toInt) (h2 : x.toInt * y.toInt ≤ 9223372036854775807) : (x * y).toInt = x.toInt * y.toInt := by
  rw [Int64.toInt_mul]; exact al_bmod h1 h2
noncomputable def al_in (lo hi : Int) : Bool := decide (-9223372036854775808 ≤ lo) && decide (hi ≤ 9223372036854775807)
theorem al_in_ok {lo hi : Int} (h : al_in lo hi = true) : -9223372036854775808 ≤ lo ∧ hi ≤ 9223372036854775807 := by
  simpa [al_in, Bool.and_eq_true, decide_eq_true_eq] using h
noncomputable def al_bnd (lo hi : Int) : Int × Int := bif al_in lo hi then (lo, hi) else (-9223372036854775808, 9223372036854775807)
theorem al_bnd_ok {z : Int64} {lo hi : Int} (h : al_in lo hi = true → lo ≤ z.toInt ∧ z.toInt ≤ hi) : (al_bnd lo hi).1 ≤ z.toInt ∧ z.toInt ≤ (al_bnd lo hi).2 := by
  unfold al_bnd
  cases hb : al_in lo hi with
  | false => exact ⟨al_lo _, al_hi _⟩
  | true => exact h hb
/-- products -/
noncomputable def mn4 (a b c d : Int) : Int := min (min a b) (min c d)
noncomputable def mx4 (a b c d : Int) : Int := max (max a b) (max c d)
theorem mul_btw {l u x y : Int} (h1 : l ≤ x) (h2 : x ≤ u) : min (l * y) (u * y) ≤ x * y ∧ x * y ≤ max (l * y) (u * y) := by
  by_cases hy : 0 ≤ y
  · have a := Int.mul_le_mul_of_nonneg_right h1 hy
    have b := Int.mul_le_mul_of_nonneg_right h2 hy
    omega
  · have hy : y ≤ 0 := by omega
    have a := Int.mul_le_mul_of_nonpos_right h1 hy
    have b := Int.mul_le_mul_of_nonpos_right h2 hy
    omega
theorem mul_rg {l1 u1 l2 u2 x y : Int} (h1 : l1 ≤ x) (h2 : x ≤ u1) (h3 : l2 ≤ y) (h4 : y ≤ u2) : mn4 (l1 * l2) (l1 * u2) (u1 * l2) (u1 * u2) ≤ x * y ∧ x * y ≤ mx4 (l1 * l2) (l1 * u2) (u1 * l2) (u1 * u2) := by
  have a := mul_btw (y := y) h1 h2
  have b := mul_btw (y := l1) h3 h4
  have c := mul_btw (y := u1) h3 h4
  rw [Int.mul_comm l2, Int.mul_comm u2, Int.mul_comm y] at b
  rw [Int.mul_comm l2, Int.mul_comm u2, Int.mul_comm y] at c
  unfold mn4 mx4
  omega
/-- bits -/
theorem ai_nn {x : Int32} (h : 0 ≤ x.toInt) : x.toInt = (x.toBitVec.toNat : Int) ∧ x.toBitVec.toNat < 2147483648 := by
  have h1 : x.toInt = x.toBitVec.toInt := rfl
  rw [h1, BitVec.toInt_eq_toNat_cond] at h ⊢
  have := x.toBitVec.isLt
  split at h <;> split <;> omega
theorem ai_of {x : Int32} (h : x.toBitVec.toNat < 2147483648) : x.toInt = (x.toBitVec.toNat : Int) := by
  have h1 : x.toInt = x.toBitVec.toInt := rfl
  rw [h1, BitVec.toInt_eq_toNat_cond]
  split <;> omega
theorem ai_and1 {x y : Int32} (h : 0 ≤ x.toInt) : 0 ≤ (x &&& y).toInt ∧ (x &&& y).toInt ≤ x.toInt := by
  obtain ⟨e, hl⟩ := ai_nn h
  have hb : (x &&& y).toBitVec.toNat = x.toBitVec.toNat &&& y.toBitVec.toNat := by rw [Int32.toBitVec_and, BitVec.toNat_and]
  have hle : x.toBitVec.toNat &&& y.toBitVec.toNat ≤ x.toBitVec.toNat := Nat.and_le_left
  rw [ai_of (x := x &&& y) (by omega), hb, e]
  omega
theorem ai_and2 {x y : Int32} (h : 0 ≤ y.toInt) : 0 ≤ (x &&& y).toInt ∧ (x &&& y).toInt ≤ y.toInt := by
  rw [Int32.and_comm]; exact ai_and1 h
theorem ai_or {x y : Int32} {k : Nat} (hx : 0 ≤ x.toInt) (hy : 0 ≤ y.toInt) (hk : k < 32) (h1 : x.toInt < 2 ^ k) (h2 : y.toInt < 2 ^ k) : x.toInt ≤ (x ||| y).toInt ∧ y.toInt ≤ (x ||| y).toInt ∧ (x ||| y).toInt < 2 ^ k := by
  obtain ⟨ex, lx⟩ := ai_nn hx
  obtain ⟨ey, ly⟩ := ai_nn hy
  have hp : (2 : Int) ^ k = ((2 ^ k : Nat) : Int) := by norm_cast
  rw [ex, hp] at h1
  rw [ey, hp] at h2
  have hb : (x ||| y).toBitVec.toNat = x.toBitVec.toNat ||| y.toBitVec.toNat := by rw [Int32.toBitVec_or, BitVec.toNat_or]
  have h3 : x.toBitVec.toNat ||| y.toBitVec.toNat < 2 ^ k := Nat.or_lt_two_pow (by omega) (by omega)
  have h4 : x.toBitVec.toNat ||| y.toBitVec.toNat < 2 ^ 31 := Nat.or_lt_two_pow (by omega) (by omega)
  have h5 : x.toBitVec.toNat ≤ x.toBitVec.toNat ||| y.toBitVec.toNat := Nat.left_le_or
  have h6 : y.toBitVec.toNat ≤ x.toBitVec.toNat ||| y.toBitVec.toNat := Nat.right_le_or
  rw [ai_of (x := x ||| y) (by omega), hb, ex, ey, hp]
  omega
theorem ai_xor {x y : Int32} {k : Nat} (hx : 0 ≤ x.toInt) (hy : 0 ≤ y.toInt) (h1 : x.toInt < 2 ^ k) (h2 : y.toInt < 2 ^ k) : 0 ≤ (x ^^^ y).toInt ∧ (x ^^^ y).toInt < 2 ^ k := by
  obtain ⟨ex, lx⟩ := ai_nn hx
  obtain ⟨ey, ly⟩ := ai_nn hy
  have hp : (2 : Int) ^ k = ((2 ^ k : Nat) : Int) := by norm_cast
  rw [ex, hp] at h1
  rw [ey, hp] at h2
  have hb : (x ^^^ y).toBitVec.toNat = x.toBitVec.toNat ^^^ y.toBitVec.toNat := by rw [Int32.toBitVec_xor, BitVec.toNat_xor]
  have h3 : x.toBitVec.toNat ^^^ y.toBitVec.toNat < 2 ^ k := Nat.xor_lt_two_pow (by omega) (by omega)
  have h4 : x.toBitVec.toNat ^^^ y.toBitVec.toNat < 2 ^ 31 := Nat.xor_lt_two_pow (by omega) (by omega)
  rw [ai_of (x := x ^^^ y) (by omega), hb, hp]
  omega
theorem ai_shn : ∀ n : Fin 32, ((Int32.ofNat n.1 &&& 31).toBitVec.smod 32).toNat = n.1 := by decide +kernel
theorem ai_ofn {y : Int32} (h1 : 0 ≤ y.toInt) : y = Int32.ofNat y.toInt.toNat := by
  apply Int32.toInt_inj.mp
  have := ai_hi y
  rw [Int32.toInt_ofNat_of_lt (by omega)]
  omega
theorem ai_shl {x y : Int32} (hx : 0 ≤ x.toInt) (hy : 0 ≤ y.toInt) (hy2 : y.toInt ≤ 31) (hm : x.toInt * 2 ^ y.toInt.toNat ≤ 2147483647) : (x <<< (y &&& 31)).toInt = x.toInt * 2 ^ y.toInt.toNat := by
  have hs := ai_shn ⟨y.toInt.toNat, by omega⟩
  simp only at hs
  rw [← ai_ofn hy] at hs
  obtain ⟨ex, lx⟩ := ai_nn hx
  have hp : (2 : Int) ^ y.toInt.toNat = ((2 ^ y.toInt.toNat : Nat) : Int) := by norm_cast
  have hb : (x <<< (y &&& 31)).toBitVec.toNat = x.toBitVec.toNat * 2 ^ y.toInt.toNat % 2 ^ 32 := by
    rw [Int32.toBitVec_shiftLeft, BitVec.shiftLeft_eq', BitVec.toNat_shiftLeft, hs, Nat.shiftLeft_eq]
  rw [ex, hp] at hm
  have hm' : x.toBitVec.toNat * 2 ^ y.toInt.toNat ≤ 2147483647 := Int.ofNat_le.mp (by rw [Int.natCast_mul]; exact hm)
  rw [Nat.mod_eq_of_lt (by omega)] at hb
  rw [ai_of (by omega), hb, ex, hp]
  exact Int.natCast_mul _ _
end
section
/-! THE EXECUTOR (second writing), part 4: fresh symbols, narrower intervals, relations -/
section AIP
variable {w : AW} {E : AEnv} {ρ : Nat → Int}
theorem as_grow {pc : Nat} {lv : List (Nat × AV)} {st : List AV} {iv : IV} {ex : AX} {σ : pm_S} {v lo hi : Int} (g : as_r w E ρ (pc, lv, st, iv, ex) σ) (h1 : lo ≤ v) (h2 : v ≤ hi) :
    as_r w E (iv_ext ρ iv.length v) (pc, lv, st, iv ++ [(lo, hi)], ex) σ ∧ av_ev (iv ++ [(lo, hi)]).length (iv_ext ρ iv.length v) (some iv.length) 0 v := by
  obtain ⟨g1, g2, g3, g4, g5⟩ := g
  dsimp only at g1 g2 g3 g4 g5
  have hle : iv.length ≤ (iv ++ [(lo, hi)]).length := by rw [List.length_append]; exact Nat.le_add_right _ _
  refine ⟨⟨ia_push g1 h1 h2, g2, fun i a hm => ?_, f2_mono (fun a b hab => av_g_mono hle iv_ext_old hab) g4, ex_g_mono hle iv_ext_old g5⟩, ?_, ?_⟩
  · obtain ⟨x, e1, e2⟩ := g3 i a hm
    exact ⟨x, e1, av_g_mono hle iv_ext_old e2⟩
  · rw [List.length_append]; exact Nat.lt_succ_self _
  · rw [iv_ext_new, Int.add_zero]
/-- an int, a long within bounds is pushed -/
noncomputable def a_pi (n : Nat) (lv : List (Nat × AV)) (st : List AV) (iv : IV) (ex : AX) (lo hi : Int) : AS := bif decide (lo = hi) then (n, lv, .inl (none, lo) :: st, iv, ex) else (n, lv, .inl (some iv.length, 0) :: st, iv ++ [(lo, hi)], ex)
noncomputable def a_pl (n : Nat) (lv : List (Nat × AV)) (st : List AV) (iv : IV) (ex : AX) (lo hi : Int) : AS := bif decide (lo = hi) then (n, lv, .inr (.inl (none, lo)) :: st, iv, ex) else (n, lv, .inr (.inl (some iv.length, 0)) :: st, iv ++ [(lo, hi)], ex)
theorem a_pi_ok {pc n : Nat} {lv : List (Nat × AV)} {st : List AV} {iv : IV} {ex : AX} {pc' : Nat} {cl : List (Nat × Value)} {cs : List Value} {W : pm_H × Nat × Nat} {v : Int32} {lo hi : Int} (g : as_r w E ρ (pc, lv, st, iv, ex) (pc', cl, cs, W)) (h1 : lo ≤ v.toInt) (h2 : v.toInt ≤ hi) : as_g w E (a_pi n lv st iv ex lo hi) (n, cl, .int v :: cs, W) := by
  unfold a_pi
  cases hb : decide (lo = hi) with
  | true =>
    have hb := of_decide_eq_true hb
    obtain ⟨g1, g2, g3, g4, g5⟩ := g
    exact ⟨ρ, g1, rfl, g3, ⟨(by show v.toInt = lo; omega), g4⟩, g5⟩
  | false =>
    obtain ⟨⟨g1, g2, g3, g4, g5⟩, e⟩ := as_grow g h1 h2
    exact ⟨_, g1, rfl, g3, ⟨e, g4⟩, g5⟩
theorem a_pl_ok {pc n : Nat} {lv : List (Nat × AV)} {st : List AV} {iv : IV} {ex : AX} {pc' : Nat} {cl : List (Nat × Value)} {cs : List Value} {W : pm_H × Nat × Nat} {v : Int64} {lo hi : Int} (g : as_r w E ρ (pc, lv, st, iv, ex) (pc', cl, cs, W)) (h1 : lo ≤ v.toInt) (h2 : v.toInt ≤ hi) : as_g w E (a_pl n lv st iv ex lo hi) (n, cl, .long v :: cs, W) := by
  unfold a_pl
  cases hb : decide (lo = hi) with
  | true =>
    have hb := of_decide_eq_true hb
    obtain ⟨g1, g2, g3, g4, g5⟩ := g
    exact ⟨ρ, g1, rfl, g3, ⟨(by show v.toInt = lo; omega), g4⟩, g5⟩
  | false =>
    obtain ⟨⟨g1, g2, g3, g4, g5⟩, e⟩ := as_grow g h1 h2
    exact ⟨_, g1, rfl, g3, ⟨e, g4⟩, g5⟩
theorem iv_at {iv : IV} {k : Nat} (h : k < iv.length) : ∃ l u, iv[k]? = some (l, u) := ⟨iv[k].1, iv[k].2, List.getElem?_eq_getElem h⟩
/-- a narrower interval -/
noncomputable def iv_nar (iv : IV) (k : Option Nat) (o lo hi : Int) : Option IV := match k with
  | none => bif decide (lo ≤ o) && decide (o ≤ hi) then some iv else none
  | some k => match iv[k]? with
    | some (l, u) => bif decide (max l (lo - o) ≤ min u (hi - o)) then some (iv.set k (max l (lo - o), min u (hi - o))) else none
    | none => none
theorem iv_nar_ok {iv : IV} {k : Option Nat} {o lo hi v : Int} (g : ia_g E ρ iv) (hv : av_ev iv.length ρ k o v) (h1 : lo ≤ v) (h2 : v ≤ hi) : ∃ iv', iv_nar iv k o lo hi = some iv' ∧ iv'.length = iv.length ∧ ia_g E ρ iv' := by
  cases k with
  | none =>
    have hv : v = o := hv
    subst hv
    refine ⟨iv, ?_, rfl, g⟩
    unfold iv_nar
    simp only [h1, h2, decide_true, Bool.and_self, cond_true]
  | some k =>
    obtain ⟨hk, hv⟩ := hv
    obtain ⟨l, u, hg⟩ := iv_at hk
    have hb := g.1 k l u hg
    have hle : max l (lo - o) ≤ min u (hi - o) := by omega
    refine ⟨iv.set k (max l (lo - o), min u (hi - o)), ?_, List.length_set, ⟨fun q a b hqq => ?_, by rw [List.length_set]; exact g.2.1, g.2.2⟩⟩
    · unfold iv_nar
      simp only [hg, hle, decide_true, cond_true]
    · by_cases hqk : k = q
      · subst hqk
        rw [List.getElem?_set_self hk] at hqq
        cases hqq
        omega
      · rw [List.getElem?_set_ne hqk] at hqq
        exact g.1 q a b hqq
theorem as_iv {pc : Nat} {lv : List (Nat × AV)} {st : List AV} {iv iv' : IV} {ex : AX} {σ : pm_S} (g : as_r w E ρ (pc, lv, st, iv, ex) σ) (hl : iv'.length = iv.length) (g1 : ia_g E ρ iv') : as_r w E ρ (pc, lv, st, iv', ex) σ := by
  obtain ⟨_, g2, g3, g4, g5⟩ := g
  dsimp only at g2 g3 g4 g5
  rw [← hl] at g3 g4 g5
  exact ⟨g1, g2, g3, g4, g5⟩
/-- one relation narrows its symbols -/
noncomputable def tg1 (c : Con) (iv : IV) : Option IV := match c with
  | .inl (s, a, b) => match iv[s]?, iv[a]?, iv[b]? with
    | some (sl, su), some (al, au), some (bl, bu) => match iv_nar iv (some s) 0 (al + bl) (au + bu) with
      | some iv => match iv_nar iv (some a) 0 (sl - bu) (su - bl) with
        | some iv => iv_nar iv (some b) 0 (sl - au) (su - al)
        | none => none
      | none => none
    | _, _, _ => some iv
  | .inr (a, b, c) => match iv[a]?, iv[b]? with
    | some (al, au), some (bl, bu) => match iv_nar iv (some a) 0 al (bu + c) with
      | some iv => iv_nar iv (some b) 0 (al - c) bu
      | none => none
    | _, _ => some iv
theorem tg1_ok {iv : IV} {c : Con} (g : ia_g E ρ iv) (hc : con_g iv.length ρ c) : ∃ iv', tg1 c iv = some iv' ∧ iv'.length = iv.length ∧ ia_g E ρ iv' := by
  rcases c with ⟨s, a, b⟩ | ⟨a, b, c⟩
  · obtain ⟨hs, ha, hb, he⟩ := hc
    obtain ⟨sl, su, es⟩ := iv_at hs
    obtain ⟨al, au, ea⟩ := iv_at ha
    obtain ⟨bl, bu, eb⟩ := iv_at hb
    have bs := g.1 s _ _ es
    have ba := g.1 a _ _ ea
    have bb := g.1 b _ _ eb
    unfold tg1
    simp only [es, ea, eb]
    obtain ⟨i1, e1, l1, g1⟩ := iv_nar_ok (k := some s) (o := 0) (v := ρ s) (lo := al + bl) (hi := au + bu) g ⟨hs, by omega⟩ (by omega) (by omega)
    obtain ⟨i2, e2, l2, g2⟩ := iv_nar_ok (k := some a) (o := 0) (v := ρ a) (lo := sl - bu) (hi := su - bl) g1 ⟨by omega, by omega⟩ (by omega) (by omega)
    obtain ⟨i3, e3, l3, g3⟩ := iv_nar_ok (k := some b) (o := 0) (v := ρ b) (lo := sl - au) (hi := su - al) g2 ⟨by omega, by omega⟩ (by omega) (by omega)
    rw [e1]
    simp only [e2]
    exact ⟨i3, e3, by omega, g3⟩
  · obtain ⟨ha, hb, he⟩ := hc
    obtain ⟨al, au, ea⟩ := iv_at ha
    obtain ⟨bl, bu, eb⟩ := iv_at hb
    have ba := g.1 a _ _ ea
    have bb := g.1 b _ _ eb
    unfold tg1
    simp only [ea, eb]
    obtain ⟨i1, e1, l1, g1⟩ := iv_nar_ok (k := some a) (o := 0) (v := ρ a) (lo := al) (hi := bu + c) g ⟨ha, by omega⟩ (by omega) (by omega)
    obtain ⟨i2, e2, l2, g2⟩ := iv_nar_ok (k := some b) (o := 0) (v := ρ b) (lo := al - c) (hi := bu) g1 ⟨by omega, by omega⟩ (by omega) (by omega)
    rw [e1]
    exact ⟨i2, e2, by omega, g2⟩
/-- all relations, once -/
noncomputable def tga : List Con → IV → Option IV
  | [], iv => some iv
  | c :: l, iv => match tg1 c iv with
    | some iv => tga l iv
    | none => none
theorem tga_ok : ∀ (l : List Con) (iv : IV), ia_g E ρ iv → (∀ c ∈ l, con_g iv.length ρ c) → ∃ iv', tga l iv = some iv' ∧ iv'.length = iv.length ∧ ia_g E ρ iv'
  | [], iv, g, _ => ⟨iv, rfl, rfl, g⟩
  | c :: l, iv, g, h => by
    obtain ⟨i1, e1, l1, g1⟩ := tg1_ok g (h c List.mem_cons_self)
    obtain ⟨i2, e2, l2, g2⟩ := tga_ok l i1 g1 (fun c hc => by rw [l1]; exact h c (List.mem_cons_of_mem _ hc))
    exact ⟨i2, by unfold tga; rw [e1]; exact e2, by omega, g2⟩
/-- a relation is added, if it does not speak against one that is there -/
noncomputable def con_bad (l : List Con) (a b : Nat) (c : Int) : Bool := l.any (fun q => match q with | .inr (a', b', c') => Nat.beq a a' && (Nat.beq b b' && false) || (Nat.beq a b' && (Nat.beq b a' && decide (c + c' < 0))) | _ => false)
theorem con_bad_ok {n : Nat} {l : List Con} {a b : Nat} {c : Int} (h : ∀ q ∈ l, con_g n ρ q) (hc : ρ a ≤ ρ b + c) : con_bad l a b c = false := by
  cases hb : con_bad l a b c with
  | false => rfl
  | true =>
    obtain ⟨q, hq, hp⟩ := List.any_eq_true.mp hb
    split at hp
    · rename_i a' b' c'
      simp only [Bool.and_false, Bool.false_or, Bool.and_eq_true, decide_eq_true_eq] at hp
      obtain ⟨h1, h2, h3⟩ := hp
      have h1 := Nat.eq_of_beq_eq_true h1
      have h2 := Nat.eq_of_beq_eq_true h2
      subst h1; subst h2
      have := (h _ hq).2.2
      omega
    · cases hp
/-- x + o ≤ y + p is taken in -/
noncomputable def br_le (iv : IV) (cs : List Con) (k1 : Option Nat) (o1 : Int) (k2 : Option Nat) (o2 : Int) : Option (IV × List Con) := match k1, k2 with
  | some a, some b => bif Nat.beq a b then (bif decide (o1 ≤ o2) then some (iv, cs) else none) else match iv_rng iv k1 o1, iv_rng iv k2 o2 with
    | some (l1, _), some (_, u2) => match iv_nar iv k1 o1 l1 u2 with
      | some iv => match iv_nar iv k2 o2 l1 u2 with
        | some iv => bif con_bad cs a b (o2 - o1) then none else match tga (.inr (a, b, o2 - o1) :: cs) iv with
          | some iv => some (iv, .inr (a, b, o2 - o1) :: cs)
          | none => none
        | none => none
      | none => none
    | _, _ => some (iv, cs)
  | _, _ => match iv_rng iv k1 o1, iv_rng iv k2 o2 with
    | some (l1, _), some (_, u2) => match iv_nar iv k1 o1 l1 u2 with
      | some iv => match iv_nar iv k2 o2 l1 u2 with
        | some iv => match tga cs iv with
          | some iv => some (iv, cs)
          | none => none
        | none => none
      | none => none
    | _, _ => some (iv, cs)
theorem br_le_ok {iv : IV} {cs : List Con} {k1 k2 : Option Nat} {o1 o2 x y : Int} (g : ia_g E ρ iv) (hc : ∀ c ∈ cs, con_g iv.length ρ c) (hx : av_ev iv.length ρ k1 o1 x) (hy : av_ev iv.length ρ k2 o2 y) (h : x ≤ y) :
    ∃ q : IV × List Con, br_le iv cs k1 o1 k2 o2 = some q ∧ q.1.length = iv.length ∧ ia_g E ρ q.1 ∧ ∀ c ∈ q.2, con_g iv.length ρ c := by
  have key : ∀ l1 u1 l2 u2, iv_rng iv k1 o1 = some (l1, u1) → iv_rng iv k2 o2 = some (l2, u2) → ∀ cs' : List Con, (∀ c ∈ cs', con_g iv.length ρ c) → ∃ i1, iv_nar iv k1 o1 l1 u2 = some i1 ∧ ∃ i2, iv_nar i1 k2 o2 l1 u2 = some i2 ∧ ∃ i3, tga cs' i2 = some i3 ∧ i3.length = iv.length ∧ ia_g E ρ i3 := by
    intro l1 u1 l2 u2 r1 r2 cs' hcs
    have b1 := iv_rng_ok g hx r1
    have b2 := iv_rng_ok g hy r2
    obtain ⟨i1, e1, n1, g1⟩ := iv_nar_ok g hx (lo := l1) (hi := u2) (by omega) (by omega)
    obtain ⟨i2, e2, n2, g2⟩ := iv_nar_ok (k := k2) (o := o2) (v := y) (lo := l1) (hi := u2) g1 (by rw [n1]; exact hy) (by omega) (by omega)
    obtain ⟨i3, e3, n3, g3⟩ := tga_ok cs' i2 g2 (fun c hc => by rw [n2, n1]; exact hcs c hc)
    exact ⟨i1, e1, i2, e2, i3, e3, by omega, g3⟩
  have rest : ∃ q : IV × List Con, (match iv_rng iv k1 o1, iv_rng iv k2 o2 with
    | some (l1, _), some (_, u2) => match iv_nar iv k1 o1 l1 u2 with
      | some iv => match iv_nar iv k2 o2 l1 u2 with
        | some iv => match tga cs iv with
          | some iv => some (iv, cs)
          | none => none
        | none => none
      | none => none
    | _, _ => some (iv, cs)) = some q ∧ q.1.length = iv.length ∧ ia_g E ρ q.1 ∧ ∀ c ∈ q.2, con_g iv.length ρ c := by
    split
    · rename_i l1 u1 l2 u2 r1 r2
      obtain ⟨i1, e1, i2, e2, i3, e3, n3, g3⟩ := key l1 u1 l2 u2 r1 r2 cs hc
      rw [e1]
      simp only [e2, e3]
      exact ⟨_, rfl, n3, g3, hc⟩
    · exact ⟨_, rfl, rfl, g, hc⟩
  unfold br_le
  cases k1 with
  | none => exact rest
  | some a =>
    cases k2 with
    | none => exact rest
    | some b =>
      dsimp only
      cases hab : Nat.beq a b with
      | true =>
        have hab := Nat.eq_of_beq_eq_true hab
        subst hab
        have h1 := hx.2
        have h2 := hy.2
        have ho : o1 ≤ o2 := by omega
        simp only [ho, decide_true, cond_true]
        exact ⟨_, rfl, rfl, g, hc⟩
      | false =>
        simp only [cond_false]
        split
        · rename_i l1 u1 l2 u2 r1 r2
          have h1 := hx.2
          have h2 := hy.2
          have hle : ρ a ≤ ρ b + (o2 - o1) := by omega
          have hcs : ∀ c ∈ ((.inr (a, b, o2 - o1) : Con) :: cs), con_g iv.length ρ c := by
            intro c hm
            cases List.mem_cons.mp hm with
            | inl e => subst e; exact ⟨hx.1, hy.1, hle⟩
            | inr hm => exact hc c hm
          obtain ⟨i1, e1, i2, e2, i3, e3, n3, g3⟩ := key l1 u1 l2 u2 r1 r2 _ hcs
          rw [e1]
          simp only [e2, e3, con_bad_ok hc hle, cond_false]
          exact ⟨_, rfl, n3, g3, hcs⟩
        · exact ⟨_, rfl, rfl, g, hc⟩
/-- x + o ≠ y + p is taken in: the ends are trimmed -/
noncomputable def br_ne (iv : IV) (k1 : Option Nat) (o1 : Int) (k2 : Option Nat) (o2 : Int) : Option IV := match iv_rng iv k1 o1, iv_rng iv k2 o2 with
  | some (l1, u1), some (l2, u2) =>
    bif decide (l2 = u2) then iv_nar iv k1 o1 (bif decide (l1 = l2) then l1 + 1 else l1) (bif decide (u1 = l2) then u1 - 1 else u1)
    else (bif decide (l1 = u1) then iv_nar iv k2 o2 (bif decide (l2 = l1) then l2 + 1 else l2) (bif decide (u2 = l1) then u2 - 1 else u2) else some iv)
  | _, _ => some iv
theorem br_ne_ok {iv : IV} {k1 k2 : Option Nat} {o1 o2 x y : Int} (g : ia_g E ρ iv) (hx : av_ev iv.length ρ k1 o1 x) (hy : av_ev iv.length ρ k2 o2 y) (h : ¬ x = y) : ∃ iv', br_ne iv k1 o1 k2 o2 = some iv' ∧ iv'.length = iv.length ∧ ia_g E ρ iv' := by
  unfold br_ne
  split
  · rename_i l1 u1 l2 u2 r1 r2
    have b1 := iv_rng_ok g hx r1
    have b2 := iv_rng_ok g hy r2
    cases h1 : decide (l2 = u2) with
    | true =>
      have h1 := of_decide_eq_true h1
      refine iv_nar_ok g hx ?_ ?_
      · cases h2 : decide (l1 = l2) with
        | true => have h2 := of_decide_eq_true h2; show l1 + 1 ≤ x; omega
        | false => exact b1.1
      · cases h2 : decide (u1 = l2) with
        | true => have h2 := of_decide_eq_true h2; show x ≤ u1 - 1; omega
        | false => exact b1.2
    | false =>
      cases h3 : decide (l1 = u1) with
      | true =>
        have h3 := of_decide_eq_true h3
        refine iv_nar_ok g hy ?_ ?_
        · cases h2 : decide (l2 = l1) with
          | true => have h2 := of_decide_eq_true h2; show l2 + 1 ≤ y; omega
          | false => exact b2.1
        · cases h2 : decide (u2 = l1) with
          | true => have h2 := of_decide_eq_true h2; show y ≤ u2 - 1; omega
          | false => exact b2.2
      | false => exact ⟨iv, rfl, rfl, g⟩
  · exact ⟨iv, rfl, rfl, g⟩
end AIP
end
section
/-! THE EXECUTOR (second writing), part 5: operations on numbers -/
section AIO
variable {w : AW}
theorem ai_ofi {x : Int32} {l : Int} (h : x.toInt = l) : x = Int32.ofInt l := by rw [← h, Int32.ofInt_toInt]
/-- two ints: exact, or by bounds -/
noncomputable def bo (op : Int32 → Int32 → Int32) (f : Int → Int → Int → Int → Int × Int) (l1 u1 l2 u2 : Int) : Int × Int := bif decide (l1 = u1) && decide (l2 = u2) then ((op (Int32.ofInt l1) (Int32.ofInt l2)).toInt, (op (Int32.ofInt l1) (Int32.ofInt l2)).toInt) else f l1 u1 l2 u2
noncomputable def bo_ok (op : Int32 → Int32 → Int32) (f : Int → Int → Int → Int → Int × Int) : Prop := ∀ (x y : Int32) (l1 u1 l2 u2 : Int), l1 ≤ x.toInt → x.toInt ≤ u1 → l2 ≤ y.toInt → y.toInt ≤ u2 → (f l1 u1 l2 u2).1 ≤ (op x y).toInt ∧ (op x y).toInt ≤ (f l1 u1 l2 u2).2
theorem bo_okx {op : Int32 → Int32 → Int32} {f : Int → Int → Int → Int → Int × Int} (h : bo_ok op f) : bo_ok op (bo op f) := by
  intro x y l1 u1 l2 u2 h1 h2 h3 h4
  unfold bo
  cases hb : (decide (l1 = u1) && decide (l2 = u2)) with
  | false => exact h x y l1 u1 l2 u2 h1 h2 h3 h4
  | true =>
    simp only [Bool.and_eq_true, decide_eq_true_eq] at hb
    rw [← ai_ofi (x := x) (l := l1) (by omega), ← ai_ofi (x := y) (l := l2) (by omega)]
    exact ⟨Int.le_refl _, Int.le_refl _⟩
noncomputable def a_bin (f : Int → Int → Int → Int → Int × Int) (n : Nat) : AS → Option (List AS) := fun A => match A.2.2.1 with
  | .inl (k2, o2) :: .inl (k1, o1) :: st => match iv_rng A.2.2.2.1 k1 o1, iv_rng A.2.2.2.1 k2 o2 with
    | some (l1, u1), some (l2, u2) => some [a_pi n A.2.1 st A.2.2.2.1 A.2.2.2.2 (f l1 u1 l2 u2).1 (f l1 u1 l2 u2).2]
    | _, _ => none
  | _ => none
theorem a_bin_ok {op : Int32 → Int32 → Int32} {f : Int → Int → Int → Int → Int × Int} (n : Nat) (hf : bo_ok op f) : ai_ok w (s_bin op n) (a_bin f n) := by
  rintro E ⟨pc, lv, st, iv, ex⟩ ⟨pc', cl, cs, W⟩ As ⟨ρ, g1, g2, g3, g4, g5⟩ h
  simp only [a_bin] at h
  split at h
  · rename_i k2 o2 k1 o1 st'
    split at h
    · rename_i l1 u1 l2 u2 r1 r2
      cases h
      obtain ⟨v, cs, rfl, ha, hr0⟩ := f2_cons g4
      obtain ⟨u, cs, rfl, hc, hr⟩ := f2_cons hr0
      obtain ⟨y, rfl, ha⟩ := av_int ha
      obtain ⟨x, rfl, hc⟩ := av_int hc
      have b1 := iv_rng_ok g1 hc r1
      have b2 := iv_rng_ok g1 ha r2
      have hq := hf x y l1 u1 l2 u2 b1.1 b1.2 b2.1 b2.2
      exact ⟨_, rfl, _, List.mem_singleton_self _, a_pi_ok (pc := pc) (pc' := pc') ⟨g1, g2, g3, hr, g5⟩ hq.1 hq.2⟩
    · cases h
  · cases h
noncomputable def a_div (f : Int → Int → Int → Int → Int × Int) (n : Nat) : AS → Option (List AS) := fun A => match A.2.2.1 with
  | .inl (k2, o2) :: .inl (k1, o1) :: st => match iv_rng A.2.2.2.1 k1 o1, iv_rng A.2.2.2.1 k2 o2 with
    | some (l1, u1), some (l2, u2) => bif decide (0 < l2) then some [a_pi n A.2.1 st A.2.2.2.1 A.2.2.2.2 (f l1 u1 l2 u2).1 (f l1 u1 l2 u2).2] else none
    | _, _ => none
  | _ => none
noncomputable def bd_ok (op : Int32 → Int32 → Int32) (f : Int → Int → Int → Int → Int × Int) : Prop := ∀ (x y : Int32) (l1 u1 l2 u2 : Int), 0 < l2 → l1 ≤ x.toInt → x.toInt ≤ u1 → l2 ≤ y.toInt → y.toInt ≤ u2 → (f l1 u1 l2 u2).1 ≤ (op x y).toInt ∧ (op x y).toInt ≤ (f l1 u1 l2 u2).2
theorem bd_okx {op : Int32 → Int32 → Int32} {f : Int → Int → Int → Int → Int × Int} (h : bd_ok op f) : bd_ok op (bo op f) := by
  intro x y l1 u1 l2 u2 h0 h1 h2 h3 h4
  unfold bo
  cases hb : (decide (l1 = u1) && decide (l2 = u2)) with
  | false => exact h x y l1 u1 l2 u2 h0 h1 h2 h3 h4
  | true =>
    simp only [Bool.and_eq_true, decide_eq_true_eq] at hb
    rw [← ai_ofi (x := x) (l := l1) (by omega), ← ai_ofi (x := y) (l := l2) (by omega)]
    exact ⟨Int.le_refl _, Int.le_refl _⟩
theorem a_div_ok {op : Int32 → Int32 → Int32} {f : Int → Int → Int → Int → Int × Int} (n : Nat) (hf : bd_ok op f) : ai_ok w (s_div op n) (a_div f n) := by
  rintro E ⟨pc, lv, st, iv, ex⟩ ⟨pc', cl, cs, W⟩ As ⟨ρ, g1, g2, g3, g4, g5⟩ h
  simp only [a_div] at h
  split at h
  · rename_i k2 o2 k1 o1 st'
    split at h
    · rename_i l1 u1 l2 u2 r1 r2
      cases hb : decide (0 < l2) with
      | false => rw [hb] at h; cases h
      | true =>
        rw [hb] at h
        have hb := of_decide_eq_true hb
        cases h
        obtain ⟨v, cs, rfl, ha, hr0⟩ := f2_cons g4
        obtain ⟨u, cs, rfl, hc, hr⟩ := f2_cons hr0
        obtain ⟨y, rfl, ha⟩ := av_int ha
        obtain ⟨x, rfl, hc⟩ := av_int hc
        have b1 := iv_rng_ok g1 hc r1
        have b2 := iv_rng_ok g1 ha r2
        have hq := hf x y l1 u1 l2 u2 hb b1.1 b1.2 b2.1 b2.2
        have hy : ¬ y = 0 := by
          intro e
          subst e
          have : (0 : Int32).toInt = 0 := rfl
          omega
        exact ⟨(n, cl, .int (op x y) :: cs, W), by simp only [s_div, if_neg hy], _, List.mem_singleton_self _, a_pi_ok (pc := pc) (pc' := pc') ⟨g1, g2, g3, hr, g5⟩ hq.1 hq.2⟩
    · cases h
  · cases h
/-- bounds of each operation -/
noncomputable def fb_top (_ _ _ _ : Int) : Int × Int := (-2147483648, 2147483647)
theorem fb_top_ok (op : Int32 → Int32 → Int32) : bo_ok op fb_top := fun _ _ _ _ _ _ _ _ _ _ => ⟨ai_lo _, ai_hi _⟩
noncomputable def fb_mul (l1 u1 l2 u2 : Int) : Int × Int := ai_bnd (mn4 (l1 * l2) (l1 * u2) (u1 * l2) (u1 * u2)) (mx4 (l1 * l2) (l1 * u2) (u1 * l2) (u1 * u2))
theorem fb_mul_ok : bo_ok (fun x y => x * y) fb_mul := by
  intro x y l1 u1 l2 u2 h1 h2 h3 h4
  have hm := mul_rg h1 h2 h3 h4
  refine ai_bnd_ok (fun hb => ?_)
  have hi := ai_in_ok hb
  show _ ≤ (x * y).toInt ∧ (x * y).toInt ≤ _
  rw [ai_mul (by omega) (by omega)]
  exact hm
noncomputable def fb_and (l1 u1 l2 u2 : Int) : Int × Int := bif decide (0 ≤ l1) then (0, bif decide (0 ≤ l2) then min u1 u2 else u1) else (bif decide (0 ≤ l2) then (0, u2) else (-2147483648, 2147483647))
theorem fb_and_ok : bo_ok (fun x y => x &&& y) fb_and := by
  intro x y l1 u1 l2 u2 h1 h2 h3 h4
  unfold fb_and
  cases ha : decide (0 ≤ l1) with
  | true =>
    have ha := of_decide_eq_true ha
    have q1 := ai_and1 (x := x) (y := y) (by omega)
    cases hb : decide (0 ≤ l2) with
    | true =>
      have hb := of_decide_eq_true hb
      have q2 := ai_and2 (x := x) (y := y) (by omega)
      show 0 ≤ (x &&& y).toInt ∧ (x &&& y).toInt ≤ min u1 u2
      omega
    | false => show 0 ≤ (x &&& y).toInt ∧ (x &&& y).toInt ≤ u1; omega
  | false =>
    cases hb : decide (0 ≤ l2) with
    | true =>
      have hb := of_decide_eq_true hb
      have q2 := ai_and2 (x := x) (y := y) (by omega)
      show 0 ≤ (x &&& y).toInt ∧ (x &&& y).toInt ≤ u2
      omega
    | false => exact ⟨ai_lo _, ai_hi _⟩
/-- how many bits -/
noncomputable def fb_k (u1 u2 : Int) : Nat := Nat.log2 (max u1 u2).toNat + 1
theorem fb_k_lt {u1 u2 : Int} : u1 < 2 ^ fb_k u1 u2 ∧ u2 < 2 ^ fb_k u1 u2 := by
  have h : (max u1 u2).toNat < 2 ^ fb_k u1 u2 := Nat.lt_log2_self
  have hp : (2 : Int) ^ fb_k u1 u2 = ((2 ^ fb_k u1 u2 : Nat) : Int) := by norm_cast
  rw [hp]
  omega
noncomputable def fb_or (l1 u1 l2 u2 : Int) : Int × Int := bif (decide (0 ≤ l1) && decide (0 ≤ l2)) && Nat.blt (fb_k u1 u2) 32 then (max l1 l2, 2 ^ fb_k u1 u2 - 1) else (-2147483648, 2147483647)
theorem fb_or_ok : bo_ok (fun x y => x ||| y) fb_or := by
  intro x y l1 u1 l2 u2 h1 h2 h3 h4
  unfold fb_or
  cases hb : ((decide (0 ≤ l1) && decide (0 ≤ l2)) && Nat.blt (fb_k u1 u2) 32) with
  | false => exact ⟨ai_lo _, ai_hi _⟩
  | true =>
    simp only [Bool.and_eq_true, decide_eq_true_eq] at hb
    have hk : fb_k u1 u2 < 32 := Nat.le_of_ble_eq_true hb.2
    have hl := fb_k_lt (u1 := u1) (u2 := u2)
    have q := ai_or (x := x) (y := y) (by omega) (by omega) hk (by omega) (by omega)
    show max l1 l2 ≤ (x ||| y).toInt ∧ (x ||| y).toInt ≤ 2 ^ fb_k u1 u2 - 1
    omega
noncomputable def fb_xor (l1 u1 l2 u2 : Int) : Int × Int := bif (decide (0 ≤ l1) && decide (0 ≤ l2)) && Nat.blt (fb_k u1 u2) 32 then (0, 2 ^ fb_k u1 u2 - 1) else (-2147483648, 2147483647)
theorem fb_xor_ok : bo_ok (fun x y => x ^^^ y) fb_xor := by
  intro x y l1 u1 l2 u2 h1 h2 h3 h4
  unfold fb_xor
  cases hb : ((decide (0 ≤ l1) && decide (0 ≤ l2)) && Nat.blt (fb_k u1 u2) 32) with
  | false => exact ⟨ai_lo _, ai_hi _⟩
  | true =>
    simp only [Bool.and_eq_true, decide_eq_true_eq] at hb
    have hl := fb_k_lt (u1 := u1) (u2 := u2)
    have q := ai_xor (x := x) (y := y) (k := fb_k u1 u2) (by omega) (by omega) (by omega) (by omega)
    show 0 ≤ (x ^^^ y).toInt ∧ (x ^^^ y).toInt ≤ 2 ^ fb_k u1 u2 - 1
    omega
noncomputable def fb_shl (l1 u1 l2 u2 : Int) : Int × Int := bif ((decide (0 ≤ l1) && decide (0 ≤ l2)) && decide (u2 ≤ 31)) && decide (u1 * 2 ^ u2.toNat ≤ 2147483647) then (l1 * 2 ^ l2.toNat, u1 * 2 ^ u2.toNat) else (-2147483648, 2147483647)
theorem pw_mono {a b : Nat} (h : a ≤ b) : (2 : Int) ^ a ≤ 2 ^ b := by
  have h1 : (2 : Nat) ^ a ≤ 2 ^ b := Nat.pow_le_pow_right (by decide) h
  have ha : (2 : Int) ^ a = ((2 ^ a : Nat) : Int) := by norm_cast
  have hb : (2 : Int) ^ b = ((2 ^ b : Nat) : Int) := by norm_cast
  omega
theorem pw_pos (a : Nat) : (0 : Int) < 2 ^ a := by
  have h1 : 0 < (2 : Nat) ^ a := Nat.pow_pos (by decide)
  have ha : (2 : Int) ^ a = ((2 ^ a : Nat) : Int) := by norm_cast
  omega
theorem fb_shl_ok : bo_ok (fun x y => x <<< (y &&& 31)) fb_shl := by
  intro x y l1 u1 l2 u2 h1 h2 h3 h4
  unfold fb_shl
  cases hb : (((decide (0 ≤ l1) && decide (0 ≤ l2)) && decide (u2 ≤ 31)) && decide (u1 * 2 ^ u2.toNat ≤ 2147483647)) with
  | false => exact ⟨ai_lo _, ai_hi _⟩
  | true =>
    simp only [Bool.and_eq_true, decide_eq_true_eq] at hb
    obtain ⟨⟨⟨b1, b2⟩, b3⟩, b4⟩ := hb
    have p1 := pw_mono (a := l2.toNat) (b := y.toInt.toNat) (by omega)
    have p2 := pw_mono (a := y.toInt.toNat) (b := u2.toNat) (by omega)
    have z1 := pw_pos l2.toNat
    have z2 := pw_pos y.toInt.toNat
    have z3 := pw_pos u2.toNat
    have m1 : l1 * 2 ^ l2.toNat ≤ x.toInt * 2 ^ y.toInt.toNat := Int.mul_le_mul h1 p1 (by omega) (by omega)
    have m2 : x.toInt * 2 ^ y.toInt.toNat ≤ u1 * 2 ^ u2.toNat := Int.mul_le_mul h2 p2 (by omega) (by omega)
    have e := ai_shl (x := x) (y := y) (by omega) (by omega) (by omega) (by omega)
    show l1 * 2 ^ l2.toNat ≤ (x <<< (y &&& 31)).toInt ∧ (x <<< (y &&& 31)).toInt ≤ u1 * 2 ^ u2.toNat
    rw [e]
    exact ⟨m1, m2⟩
/-- quotient and rest, the divisor positive -/
theorem ai_div {x y : Int32} (hy : 0 < y.toInt) : (x / y).toInt = x.toInt.tdiv y.toInt ∧ -2147483648 ≤ x.toInt.tdiv y.toInt ∧ x.toInt.tdiv y.toInt ≤ 2147483647 := by
  have l := ai_lo x
  have u := ai_hi x
  have hb : -2147483648 ≤ x.toInt.tdiv y.toInt ∧ x.toInt.tdiv y.toInt ≤ 2147483647 := by
    by_cases hx : 0 ≤ x.toInt
    · have a := Int.tdiv_nonneg hx (Int.le_of_lt hy)
      have b := Int.tdiv_le_self y.toInt hx
      omega
    · have a := Int.tdiv_nonneg (a := -x.toInt) (b := y.toInt) (by omega) (Int.le_of_lt hy)
      have b := Int.tdiv_le_self (a := -x.toInt) y.toInt (by omega)
      rw [Int.neg_tdiv] at a b
      omega
  rw [Int32.toInt_div]
  exact ⟨ai_bmod hb.1 hb.2, hb.1, hb.2⟩
theorem ai_rem {x y : Int32} (hy : 0 < y.toInt) : (x - x / y * y).toInt = x.toInt.tmod y.toInt := by
  obtain ⟨e, -, -⟩ := ai_div (x := x) hy
  have l := ai_lo x
  have u := ai_hi x
  have d := Int.tmod_def x.toInt y.toInt
  have t1 := Int.tmod_lt_of_pos x.toInt hy
  have t2 := Int.lt_tmod_of_pos x.toInt hy
  have hm : x.toInt.tdiv y.toInt * y.toInt = x.toInt - x.toInt.tmod y.toInt := by rw [Int.mul_comm]; omega
  have hs : (0 ≤ x.toInt → 0 ≤ x.toInt.tmod y.toInt ∧ x.toInt.tmod y.toInt ≤ x.toInt) ∧ (x.toInt ≤ 0 → x.toInt.tmod y.toInt ≤ 0 ∧ x.toInt ≤ x.toInt.tmod y.toInt) := by
    constructor
    · intro hx
      refine ⟨Int.tmod_nonneg _ hx, ?_⟩
      have := Int.tdiv_nonneg hx (Int.le_of_lt hy)
      have := Int.mul_nonneg this (Int.le_of_lt hy)
      omega
    · intro hx
      have a := Int.tmod_nonneg (a := -x.toInt) y.toInt (by omega)
      rw [Int.neg_tmod] at a
      have b := Int.tdiv_nonneg (a := -x.toInt) (b := y.toInt) (by omega) (Int.le_of_lt hy)
      have c := Int.mul_nonneg b (Int.le_of_lt hy)
      rw [Int.neg_tdiv, Int.neg_mul] at c
      omega
  have h1 : (x / y * y).toInt = x.toInt.tdiv y.toInt * y.toInt := by
    rw [ai_mul (x := x / y) (y := y)] <;> rw [e]
    · by_cases hx : 0 ≤ x.toInt
      · have := hs.1 hx; omega
      · have := hs.2 (by omega); omega
    · by_cases hx : 0 ≤ x.toInt
      · have := hs.1 hx; omega
      · have := hs.2 (by omega); omega
  rw [ai_sub (x := x) (y := x / y * y)] <;> rw [h1]
  · omega
  · have := ai_lo y; have := ai_hi y; omega
  · have := ai_lo y; have := ai_hi y; omega
noncomputable def fb_div (l1 u1 _ _ : Int) : Int × Int := bif decide (0 ≤ l1) then (0, u1) else (-2147483648, 2147483647)
theorem fb_div_ok : bd_ok (fun x y => x / y) fb_div := by
  intro x y l1 u1 l2 u2 h0 h1 h2 h3 h4
  unfold fb_div
  cases hb : decide (0 ≤ l1) with
  | false => exact ⟨ai_lo _, ai_hi _⟩
  | true =>
    have hb := of_decide_eq_true hb
    have e := (ai_div (x := x) (y := y) (by omega)).1
    have a := Int.tdiv_nonneg (a := x.toInt) (b := y.toInt) (by omega) (by omega)
    have b := Int.tdiv_le_self (a := x.toInt) y.toInt (by omega)
    show 0 ≤ (x / y).toInt ∧ (x / y).toInt ≤ u1
    rw [e]
    omega
noncomputable def fb_rem (l1 u1 _ u2 : Int) : Int × Int := bif decide (0 ≤ l1) then (0, min u1 (u2 - 1)) else (-(u2 - 1), u2 - 1)
theorem fb_rem_ok : bd_ok (fun x y => x - x / y * y) fb_rem := by
  intro x y l1 u1 l2 u2 h0 h1 h2 h3 h4
  unfold fb_rem
  have hy : 0 < y.toInt := by omega
  have t1 := Int.tmod_lt_of_pos x.toInt hy
  have t2 := Int.lt_tmod_of_pos x.toInt hy
  cases hb : decide (0 ≤ l1) with
  | false =>
    show -(u2 - 1) ≤ (x - x / y * y).toInt ∧ (x - x / y * y).toInt ≤ u2 - 1
    rw [ai_rem hy]
    omega
  | true =>
    have hb := of_decide_eq_true hb
    have a := Int.tmod_nonneg (a := x.toInt) y.toInt (by omega)
    have d := Int.tmod_def x.toInt y.toInt
    have c := Int.mul_nonneg (Int.le_of_lt hy) (Int.tdiv_nonneg (a := x.toInt) (b := y.toInt) (by omega) (by omega))
    show 0 ≤ (x - x / y * y).toInt ∧ (x - x / y * y).toInt ≤ min u1 (u2 - 1)
    rw [ai_rem hy]
    omega
end AIO
end
section
/-! THE EXECUTOR (second writing), part 6: sums, longs, branches -/
section AIQ
variable {w : AW}
theorem av_ev_add {n : Nat} {ρ : Nat → Int} {k : Option Nat} {o v d : Int} (h : av_ev n ρ k o v) : av_ev n ρ k (o + d) (v + d) := by
  cases k with
  | none => exact congrArg (· + d) h
  | some k => exact ⟨h.1, by have := h.2; show v + d = ρ k + (o + d); omega⟩
theorem av_ev_sub {n : Nat} {ρ : Nat → Int} {k : Option Nat} {o v d : Int} (h : av_ev n ρ k o v) : av_ev n ρ k (o - d) (v - d) := by
  rw [show o - d = o + -d by omega, show v - d = v + -d by omega]
  exact av_ev_add h
/-- the symbol of a sum that is known -/
noncomputable def con_sum (cs : List Con) (a b : Nat) : Option Nat := match cs with
  | [] => none
  | .inl (s, p, q) :: l => bif (Nat.beq p a && Nat.beq q b) || (Nat.beq p b && Nat.beq q a) then some s else con_sum l a b
  | _ :: l => con_sum l a b
theorem con_sum_ok {n : Nat} {ρ : Nat → Int} {a b s : Nat} : ∀ {cs : List Con}, (∀ c ∈ cs, con_g n ρ c) → con_sum cs a b = some s → s < n ∧ ρ s = ρ a + ρ b
  | [], _, h => by cases h
  | .inr _ :: l, hc, h => con_sum_ok (cs := l) (fun c hm => hc c (List.mem_cons_of_mem _ hm)) h
  | .inl (s', p, q) :: l, hc, h => by
    unfold con_sum at h
    cases hb : ((Nat.beq p a && Nat.beq q b) || (Nat.beq p b && Nat.beq q a)) with
    | false =>
      rw [hb] at h
      exact con_sum_ok (cs := l) (fun c hm => hc c (List.mem_cons_of_mem _ hm)) h
    | true =>
      rw [hb] at h
      cases h
      obtain ⟨h1, h2, h3, h4⟩ := hc _ List.mem_cons_self
      simp only [Bool.or_eq_true, Bool.and_eq_true] at hb
      rcases hb with ⟨e1, e2⟩ | ⟨e1, e2⟩
      · have e1 := Nat.eq_of_beq_eq_true e1
        have e2 := Nat.eq_of_beq_eq_true e2
        subst e1; subst e2
        exact ⟨h1, h4⟩
      · have e1 := Nat.eq_of_beq_eq_true e1
        have e2 := Nat.eq_of_beq_eq_true e2
        subst e1; subst e2
        exact ⟨h1, by omega⟩
/-- the symbol of a difference that is known -/
noncomputable def con_dif (cs : List Con) (a b : Nat) : Option Nat := match cs with
  | [] => none
  | .inl (s, p, q) :: l => bif Nat.beq s a && Nat.beq q b then some p else (bif Nat.beq s a && Nat.beq p b then some q else con_dif l a b)
  | _ :: l => con_dif l a b
theorem con_dif_ok {n : Nat} {ρ : Nat → Int} {a b s : Nat} : ∀ {cs : List Con}, (∀ c ∈ cs, con_g n ρ c) → con_dif cs a b = some s → s < n ∧ ρ s = ρ a - ρ b
  | [], _, h => by cases h
  | .inr _ :: l, hc, h => con_dif_ok (cs := l) (fun c hm => hc c (List.mem_cons_of_mem _ hm)) h
  | .inl (s', p, q) :: l, hc, h => by
    unfold con_dif at h
    obtain ⟨h1, h2, h3, h4⟩ := hc _ List.mem_cons_self
    cases hb : (Nat.beq s' a && Nat.beq q b) with
    | true =>
      rw [hb] at h
      cases h
      rw [Bool.and_eq_true] at hb
      have e1 := Nat.eq_of_beq_eq_true hb.1
      have e2 := Nat.eq_of_beq_eq_true hb.2
      subst e1; subst e2
      exact ⟨h2, by omega⟩
    | false =>
      rw [hb, cond_false] at h
      cases hd : (Nat.beq s' a && Nat.beq p b) with
      | true =>
        rw [hd] at h
        cases h
        rw [Bool.and_eq_true] at hd
        have e1 := Nat.eq_of_beq_eq_true hd.1
        have e2 := Nat.eq_of_beq_eq_true hd.2
        subst e1; subst e2
        exact ⟨h3, by omega⟩
      | false =>
        rw [hd] at h
        exact con_dif_ok (cs := l) (fun c hm => hc c (List.mem_cons_of_mem _ hm)) h
/-- bounds of a difference by relations -/
noncomputable def con_lo (cs : List Con) (a b : Nat) (lo : Int) : Int := match cs with
  | [] => lo
  | .inr (p, q, c) :: l => con_lo l a b (bif Nat.beq p b && Nat.beq q a then max lo (-c) else lo)
  | _ :: l => con_lo l a b lo
noncomputable def con_hi (cs : List Con) (a b : Nat) (hi : Int) : Int := match cs with
  | [] => hi
  | .inr (p, q, c) :: l => con_hi l a b (bif Nat.beq p a && Nat.beq q b then min hi c else hi)
  | _ :: l => con_hi l a b hi
theorem con_lo_ok {n : Nat} {ρ : Nat → Int} {a b : Nat} : ∀ {cs : List Con} {lo : Int}, (∀ c ∈ cs, con_g n ρ c) → lo ≤ ρ a - ρ b → con_lo cs a b lo ≤ ρ a - ρ b
  | [], _, _, h => h
  | .inl _ :: l, _, hc, h => con_lo_ok (cs := l) (fun c hm => hc c (List.mem_cons_of_mem _ hm)) h
  | .inr (p, q, c) :: l, lo, hc, h => by
    refine con_lo_ok (cs := l) (fun c hm => hc c (List.mem_cons_of_mem _ hm)) ?_
    cases hb : (Nat.beq p b && Nat.beq q a) with
    | false => exact h
    | true =>
      rw [Bool.and_eq_true] at hb
      have e1 := Nat.eq_of_beq_eq_true hb.1
      have e2 := Nat.eq_of_beq_eq_true hb.2
      subst e1; subst e2
      have := (hc _ List.mem_cons_self).2.2
      show max lo (-c) ≤ _
      omega
theorem con_hi_ok {n : Nat} {ρ : Nat → Int} {a b : Nat} : ∀ {cs : List Con} {hi : Int}, (∀ c ∈ cs, con_g n ρ c) → ρ a - ρ b ≤ hi → ρ a - ρ b ≤ con_hi cs a b hi
  | [], _, _, h => h
  | .inl _ :: l, _, hc, h => con_hi_ok (cs := l) (fun c hm => hc c (List.mem_cons_of_mem _ hm)) h
  | .inr (p, q, c) :: l, hi, hc, h => by
    refine con_hi_ok (cs := l) (fun c hm => hc c (List.mem_cons_of_mem _ hm)) ?_
    cases hb : (Nat.beq p a && Nat.beq q b) with
    | false => exact h
    | true =>
      rw [Bool.and_eq_true] at hb
      have e1 := Nat.eq_of_beq_eq_true hb.1
      have e2 := Nat.eq_of_beq_eq_true hb.2
      subst e1; subst e2
      have := (hc _ List.mem_cons_self).2.2
      show _ ≤ min hi c
      omega
/-- a fresh symbol that stands in a sum -/
noncomputable def a_pc (n : Nat) (lv : List (Nat × AV)) (st : List AV) (iv : IV) (ex : AX) (lo hi o : Int) (c : Nat → Con) : AS := bif decide (lo = hi) then (n, lv, .inl (none, lo + o) :: st, iv, ex) else (n, lv, .inl (some iv.length, o) :: st, iv ++ [(lo, hi)], ex.1, c iv.length :: ex.2.1, ex.2.2)
theorem a_pc_ok {E : AEnv} {ρ : Nat → Int} {pc n : Nat} {lv : List (Nat × AV)} {st : List AV} {iv : IV} {ex : AX} {pc' : Nat} {cl : List (Nat × Value)} {cs : List Value} {W : pm_H × Nat × Nat} {v : Int32} {lo hi o : Int} {c : Nat → Con} (g : as_r w E ρ (pc, lv, st, iv, ex) (pc', cl, cs, W)) (h1 : lo + o ≤ v.toInt) (h2 : v.toInt ≤ hi + o)
    (hc : ∀ ρ' : Nat → Int, (∀ q, q < iv.length → ρ' q = ρ q) → ρ' iv.length + o = v.toInt → con_g (iv.length + 1) ρ' (c iv.length)) : as_g w E (a_pc n lv st iv ex lo hi o c) (n, cl, .int v :: cs, W) := by
  unfold a_pc
  cases hb : decide (lo = hi) with
  | true =>
    have hb := of_decide_eq_true hb
    obtain ⟨g1, g2, g3, g4, g5⟩ := g
    exact ⟨ρ, g1, rfl, g3, ⟨(by show v.toInt = lo + o; omega), g4⟩, g5⟩
  | false =>
    obtain ⟨⟨g1, g2, g3, g4, g5⟩, e⟩ := as_grow (v := v.toInt - o) (lo := lo) (hi := hi) g (by omega) (by omega)
    have hn : (iv ++ [(lo, hi)]).length = iv.length + 1 := by rw [List.length_append]; rfl
    have e2 := e.2
    refine ⟨_, g1, rfl, g3, ⟨⟨e.1, by omega⟩, g4⟩, g5.1, g5.2.1, ?_, g5.2.2.2⟩
    intro q hq
    cases List.mem_cons.mp hq with
    | inl e' =>
      subst e'
      show con_g (iv ++ [(lo, hi)]).length _ _
      rw [hn]
      exact hc _ iv_ext_old (by omega)
    | inr hq => exact g5.2.2.1 q hq
noncomputable def a_addc (n : Nat) (lv : List (Nat × AV)) (st : List AV) (iv : IV) (ex : AX) (k1 : Option Nat) (o1 : Int) (k2 : Option Nat) (o2 : Int) : Option AS := match iv_rng iv k1 o1, iv_rng iv k2 o2 with
  | some (l1, u1), some (l2, u2) => bif ai_in (l1 + l2) (u1 + u2) then (match k2 with
      | none => some (n, lv, .inl (k1, o1 + o2) :: st, iv, ex)
      | some b => match k1 with
      | none => some (n, lv, .inl (some b, o1 + o2) :: st, iv, ex)
      | some a => match con_sum ex.2.1 a b with
        | some s => some (n, lv, .inl (some s, o1 + o2) :: st, iv, ex)
        | none => some (a_pc n lv st iv ex (l1 + l2 - o1 - o2) (u1 + u2 - o1 - o2) (o1 + o2) (fun s => .inl (s, a, b)))) else some (a_pi n lv st iv ex (-2147483648) 2147483647)
  | _, _ => none
theorem a_addc_ok {E : AEnv} {ρ : Nat → Int} {pc n : Nat} {lv : List (Nat × AV)} {st : List AV} {iv : IV} {ex : AX} {pc' : Nat} {cl : List (Nat × Value)} {cs : List Value} {W : pm_H × Nat × Nat} {x y : Int32} {k1 k2 : Option Nat} {o1 o2 : Int} {A : AS} (g : as_r w E ρ (pc, lv, st, iv, ex) (pc', cl, cs, W)) (hx : av_ev iv.length ρ k1 o1 x.toInt) (hy : av_ev iv.length ρ k2 o2 y.toInt)
    (h : a_addc n lv st iv ex k1 o1 k2 o2 = some A) : as_g w E A (n, cl, .int (x + y) :: cs, W) := by
  obtain ⟨g1, g2, g3, g4, g5⟩ := id g
  dsimp only at g1 g3 g4 g5
  unfold a_addc at h
  split at h
  · rename_i l1 u1 l2 u2 r1 r2
    have b1 := iv_rng_ok g1 hx r1
    have b2 := iv_rng_ok g1 hy r2
    cases hb : ai_in (l1 + l2) (u1 + u2) with
    | false =>
      rw [hb] at h
      cases h
      exact a_pi_ok g (ai_lo _) (ai_hi _)
    | true =>
      rw [hb, cond_true] at h
      have hi := ai_in_ok hb
      have hs : (x + y).toInt = x.toInt + y.toInt := ai_add (by omega) (by omega)
      split at h
      · cases h
        have hy : y.toInt = o2 := hy
        refine ⟨ρ, g1, rfl, g3, ⟨?_, g4⟩, g5⟩
        show av_ev iv.length ρ k1 (o1 + o2) (x + y).toInt
        rw [hs, hy]
        exact av_ev_add hx
      rename_i b
      split at h
      · cases h
        have hx : x.toInt = o1 := hx
        refine ⟨ρ, g1, rfl, g3, ⟨?_, g4⟩, g5⟩
        show av_ev iv.length ρ (some b) (o1 + o2) (x + y).toInt
        rw [hs, hx, Int.add_comm o1, Int.add_comm o1]
        exact av_ev_add hy
      · rename_i a
        split at h
        · rename_i s hss
          cases h
          obtain ⟨q1, q2⟩ := con_sum_ok g5.2.2.1 hss
          refine ⟨ρ, g1, rfl, g3, ⟨⟨q1, ?_⟩, g4⟩, g5⟩
          have := hx.2
          have := hy.2
          omega
        · cases h
          refine a_pc_ok g (by omega) (by omega) (fun ρ' e1 e2 => ?_)
          have ha := hx.1
          have hb := hy.1
          refine ⟨Nat.lt_succ_self _, Nat.lt_succ_of_lt ha, Nat.lt_succ_of_lt hb, ?_⟩
          rw [e1 a ha, e1 b hb]
          have := hx.2
          have := hy.2
          omega
  · cases h
noncomputable def a_subc (n : Nat) (lv : List (Nat × AV)) (st : List AV) (iv : IV) (ex : AX) (k1 : Option Nat) (o1 : Int) (k2 : Option Nat) (o2 : Int) : Option AS := match iv_rng iv k1 o1, iv_rng iv k2 o2 with
  | some (l1, u1), some (l2, u2) => bif ai_in (l1 - u2) (u1 - l2) then (match k2 with
      | none => some (n, lv, .inl (k1, o1 - o2) :: st, iv, ex)
      | some b => match k1 with
      | none => some (a_pi n lv st iv ex (l1 - u2) (u1 - l2))
      | some a => bif Nat.beq a b then some (n, lv, .inl (none, o1 - o2) :: st, iv, ex) else match con_dif ex.2.1 a b with
        | some s => some (n, lv, .inl (some s, o1 - o2) :: st, iv, ex)
        | none => some (a_pc n lv st iv ex (con_lo ex.2.1 a b (l1 - u2 - o1 + o2)) (con_hi ex.2.1 a b (u1 - l2 - o1 + o2)) (o1 - o2) (fun s => .inl (a, s, b)))) else some (a_pi n lv st iv ex (-2147483648) 2147483647)
  | _, _ => none
theorem a_subc_ok {E : AEnv} {ρ : Nat → Int} {pc n : Nat} {lv : List (Nat × AV)} {st : List AV} {iv : IV} {ex : AX} {pc' : Nat} {cl : List (Nat × Value)} {cs : List Value} {W : pm_H × Nat × Nat} {x y : Int32} {k1 k2 : Option Nat} {o1 o2 : Int} {A : AS} (g : as_r w E ρ (pc, lv, st, iv, ex) (pc', cl, cs, W)) (hx : av_ev iv.length ρ k1 o1 x.toInt) (hy : av_ev iv.length ρ k2 o2 y.toInt)
    (h : a_subc n lv st iv ex k1 o1 k2 o2 = some A) : as_g w E A (n, cl, .int (x - y) :: cs, W) := by
  obtain ⟨g1, g2, g3, g4, g5⟩ := id g
  dsimp only at g1 g3 g4 g5
  unfold a_subc at h
  split at h
  · rename_i l1 u1 l2 u2 r1 r2
    have b1 := iv_rng_ok g1 hx r1
    have b2 := iv_rng_ok g1 hy r2
    cases hb : ai_in (l1 - u2) (u1 - l2) with
    | false =>
      rw [hb] at h
      cases h
      exact a_pi_ok g (ai_lo _) (ai_hi _)
    | true =>
      rw [hb, cond_true] at h
      have hi := ai_in_ok hb
      have hs : (x - y).toInt = x.toInt - y.toInt := ai_sub (by omega) (by omega)
      split at h
      · cases h
        have hy : y.toInt = o2 := hy
        refine ⟨ρ, g1, rfl, g3, ⟨?_, g4⟩, g5⟩
        show av_ev iv.length ρ k1 (o1 - o2) (x - y).toInt
        rw [hs, hy]
        exact av_ev_sub hx
      rename_i b
      split at h
      · cases h
        exact a_pi_ok g (by omega) (by omega)
      · rename_i a
        have hx2 := hx.2
        have hy2 := hy.2
        cases hab : Nat.beq a b with
        | true =>
          rw [hab] at h
          cases h
          have hab := Nat.eq_of_beq_eq_true hab
          subst hab
          refine ⟨ρ, g1, rfl, g3, ⟨?_, g4⟩, g5⟩
          show (x - y).toInt = o1 - o2
          omega
        | false =>
          rw [hab, cond_false] at h
          split at h
          · rename_i s hss
            cases h
            obtain ⟨q1, q2⟩ := con_dif_ok g5.2.2.1 hss
            refine ⟨ρ, g1, rfl, g3, ⟨⟨q1, ?_⟩, g4⟩, g5⟩
            omega
          · cases h
            have w1 := con_lo_ok (a := a) (b := b) (lo := l1 - u2 - o1 + o2) g5.2.2.1 (by omega)
            have w2 := con_hi_ok (a := a) (b := b) (hi := u1 - l2 - o1 + o2) g5.2.2.1 (by omega)
            refine a_pc_ok g (by omega) (by omega) (fun ρ' e1 e2 => ?_)
            have ha := hx.1
            have hb := hy.1
            refine ⟨Nat.lt_succ_of_lt ha, Nat.lt_succ_self _, Nat.lt_succ_of_lt hb, ?_⟩
            rw [e1 a ha, e1 b hb]
            omega
  · cases h
noncomputable def a_add (n : Nat) : AS → Option (List AS) := fun A => match A.2.2.1 with
  | .inl (k2, o2) :: .inl (k1, o1) :: st => (a_addc n A.2.1 st A.2.2.2.1 A.2.2.2.2 k1 o1 k2 o2).map (fun B => [B])
  | _ => none
theorem a_add_ok (n : Nat) : ai_ok w (s_bin (fun x y => x + y) n) (a_add n) := by
  rintro E ⟨pc, lv, st, iv, ex⟩ ⟨pc', cl, cs, W⟩ As ⟨ρ, g1, g2, g3, g4, g5⟩ h
  simp only [a_add] at h
  split at h
  · rename_i k2 o2 k1 o1 st'
    obtain ⟨A, hA, rfl⟩ := Option.map_eq_some_iff.mp h
    obtain ⟨v, cs, rfl, ha, hr0⟩ := f2_cons g4
    obtain ⟨u, cs, rfl, hc, hr⟩ := f2_cons hr0
    obtain ⟨y, rfl, ha⟩ := av_int ha
    obtain ⟨x, rfl, hc⟩ := av_int hc
    exact ⟨(n, cl, .int (x + y) :: cs, W), rfl, _, List.mem_singleton_self _, a_addc_ok (st := st') (pc := pc) (pc' := pc') ⟨g1, g2, g3, hr, g5⟩ hc ha hA⟩
  · cases h
noncomputable def a_sub (n : Nat) : AS → Option (List AS) := fun A => match A.2.2.1 with
  | .inl (k2, o2) :: .inl (k1, o1) :: st => (a_subc n A.2.1 st A.2.2.2.1 A.2.2.2.2 k1 o1 k2 o2).map (fun B => [B])
  | _ => none
theorem a_sub_ok (n : Nat) : ai_ok w (s_bin (fun x y => x - y) n) (a_sub n) := by
  rintro E ⟨pc, lv, st, iv, ex⟩ ⟨pc', cl, cs, W⟩ As ⟨ρ, g1, g2, g3, g4, g5⟩ h
  simp only [a_sub] at h
  split at h
  · rename_i k2 o2 k1 o1 st'
    obtain ⟨A, hA, rfl⟩ := Option.map_eq_some_iff.mp h
    obtain ⟨v, cs, rfl, ha, hr0⟩ := f2_cons g4
    obtain ⟨u, cs, rfl, hc, hr⟩ := f2_cons hr0
    obtain ⟨y, rfl, ha⟩ := av_int ha
    obtain ⟨x, rfl, hc⟩ := av_int hc
    exact ⟨(n, cl, .int (x - y) :: cs, W), rfl, _, List.mem_singleton_self _, a_subc_ok (st := st') (pc := pc) (pc' := pc') ⟨g1, g2, g3, hr, g5⟩ hc ha hA⟩
  · cases h
/-- a local counts on -/
noncomputable def a_inc (i : Nat) (d : Int32) (n : Nat) : AS → Option (List AS) := fun A => match as_get A.2.1 i with
  | some (.inl (k, o)) => match iv_rng A.2.2.2.1 k o with
    | some (lo, hi) => bif kp1 A.2.2.2.2.2.2.2.2 A.2.1 i then (bif ai_in (lo + d.toInt) (hi + d.toInt) then some [(n, as_put1 i (.inl (k, (o + d.toInt))) A.2.1, A.2.2.1, A.2.2.2)] else some [(n, as_put1 i (.inl (some A.2.2.2.1.length, 0)) A.2.1, A.2.2.1, A.2.2.2.1 ++ [(-2147483648, 2147483647)], A.2.2.2.2)]) else none
    | none => none
  | _ => none
theorem a_inc_ok (i : Nat) (d : Int32) (n : Nat) : ai_ok w (s_inc i d n) (a_inc i d n) := by
  rintro E ⟨pc, lv, st, iv, ex⟩ ⟨pc', cl, cs, W⟩ As ⟨ρ, g⟩ h
  obtain ⟨g1, g2, g3, g4, g5⟩ := id g
  simp only [a_inc] at h
  split at h
  · rename_i k o e
    split at h
    · rename_i lo hi er
      cases hk : kp1 ex.2.2.2.2 lv i with
      | false => rw [hk] at h; cases h
      | true =>
        rw [hk, cond_true] at h
        obtain ⟨v, e1, e2⟩ := g3 i _ (as_get_in e)
        obtain ⟨x, rfl, e2⟩ := av_int e2
        have hstep : s_inc i d n (pc', cl, cs, W) = some (n, pm_put1 i (.int (x + d)) cl, cs, W) := by
          simp only [s_inc]; simp only at e1; rw [e1]
        cases hb : ai_in (lo + d.toInt) (hi + d.toInt) with
        | false =>
          rw [hb] at h
          cases h
          obtain ⟨⟨p1, p2, p3, p4, p5⟩, q⟩ := as_grow (v := (x + d).toInt) (lo := -2147483648) (hi := 2147483647) g (ai_lo _) (ai_hi _)
          exact ⟨_, hstep, _, List.mem_singleton_self _, _, p1, rfl, as_put1_ok p3 q, p4, ex_put1 p3 hk p5⟩
        | true =>
          rw [hb] at h
          cases h
          have hr := iv_rng_ok g1 e2 er
          have hi2 := ai_in_ok hb
          have hx : (x + d).toInt = x.toInt + d.toInt := ai_add (by omega) (by omega)
          refine ⟨_, hstep, _, List.mem_singleton_self _, ρ, g1, rfl, as_put1_ok g3 ?_, g4, ex_put1 g3 hk g5⟩
          show av_ev iv.length ρ k (o + d.toInt) (x + d).toInt
          rw [hx]
          exact av_ev_add e2
    · cases h
  · cases h
end AIQ
end
