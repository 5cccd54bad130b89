section
/-! THE PURE MACHINE, part 1: cells by their numbers, what they are in a heap -/
noncomputable def pm_T : List Cond := lw_tbl.filter goodWord
theorem pm_T_good : GoodIn lw_tbl pm_T := fun w hw => ⟨(List.mem_filter.mp hw).1, good_of_word (List.mem_filter.mp hw).2⟩
theorem pm_T_word {w : Cond} (h : w ∈ pm_T) : (w.onTables && w.keeps) = true ∨ ∃ ty, w = .arrayClass ty := good_of_word (List.mem_filter.mp h).2
noncomputable abbrev pm_E : Type := (Nat × vp_A) ⊕ (Nat × List Value)
noncomputable abbrev pm_H : Type := List pm_E
/-- pc, locals, stack, heap, cells and slots that may still be made -/
noncomputable abbrev pm_S : Type := Nat × List (Nat × Value) × List Value × pm_H × Nat × Nat
/-- a step; or a call (the method's number, how many arguments, the receiver's class, cells, slots); or a return (0: of nothing) -/
noncomputable abbrev pm_I : Type := (pm_S → Option pm_S) ⊕ ((Nat × Nat × Option Nat × Nat × Nat) ⊕ Nat)
/-- a value: cell k lies at B + k; the script's reference stands as a return address -/
noncomputable def pm_v (B : Nat) (b : Nat → Option Nat) (v : Value) : Value := match v with
  | .int x => .int x
  | .long x => .long x
  | .float x => .float x
  | .double x => .double x
  | .null => .null
  | .ref k => .ref (B + k)
  | .retAddr k => va_rf (b k)
theorem pm_v_cat (B : Nat) (b : Nat → Option Nat) (v : Value) : (pm_v B b v).category = v.category := by
  cases v with
  | retAddr k => show (va_rf (b k)).category = 1; cases b k <;> rfl
  | _ => rfl
noncomputable def pm_q (B : Nat) (b : Nat → Option Nat) (q : Nat × Value) : Nat × Value := (q.1, pm_v B b q.2)
noncomputable def pm_e (B : Nat) (b : Nat → Option Nat) (aC : Nat → ClassId) (x : pm_E) : va_E := match x with
  | .inl (t, n, .inl f) => .inl (aC t, n, .inl f)
  | .inl (t, n, .inr (.inl f)) => .inl (aC t, n, .inr (.inl f))
  | .inl (t, n, .inr (.inr (.inl f))) => .inl (aC t, n, .inr (.inr (.inl f)))
  | .inl (t, n, .inr (.inr (.inr (.inl f)))) => .inl (aC t, n, .inr (.inr (.inr (.inl f))))
  | .inl (t, n, .inr (.inr (.inr (.inr f)))) => .inl (aC t, n, .inr (.inr (.inr (.inr (fun i => (f i).map (fun k => B + k))))))
  | .inr (ci, fs) => .inr (ci, fs.map (pm_v B b))
noncomputable def pm_w (B : Nat) (b : Nat → Option Nat) (aC : Nat → ClassId) (h : pm_H) : va_W := h.mapIdx (fun k x => (B + k, pm_e B b aC x))
theorem pm_w_at {B : Nat} {b : Nat → Option Nat} {aC : Nat → ClassId} {h : pm_H} {k : Nat} {x : pm_E} (hk : h[k]? = some x) : (pm_w B b aC h)[k]? = some (B + k, pm_e B b aC x) := by
  simp [pm_w, hk]
theorem pm_w_get {B : Nat} {b : Nat → Option Nat} {aC : Nat → ClassId} {h : pm_H} {k : Nat} {q : Nat × va_E} (hk : (pm_w B b aC h)[k]? = some q) : q.1 = B + k := by
  simp only [pm_w, List.getElem?_mapIdx] at hk
  cases hx : h[k]? with
  | none => rw [hx] at hk; cases hk
  | some x => rw [hx] at hk; cases hk; rfl
theorem pm_w_set (B : Nat) (b : Nat → Option Nat) (aC : Nat → ClassId) (h : pm_H) (k : Nat) (x : pm_E) : (pm_w B b aC h).set k (B + k, pm_e B b aC x) = pm_w B b aC (h.set k x) := by
  apply List.ext_getElem?
  intro i
  simp only [pm_w, List.getElem?_set, List.getElem?_mapIdx, List.length_mapIdx]
  by_cases hi : k = i
  · subst hi
    by_cases hl : k < h.length
    · simp [hl]
    · simp [hl]
  · simp [hi]
theorem pm_w_app (B : Nat) (b : Nat → Option Nat) (aC : Nat → ClassId) (h : pm_H) (x : pm_E) : pm_w B b aC h ++ [(B + h.length, pm_e B b aC x)] = pm_w B b aC (h ++ [x]) := by
  simp [pm_w, List.mapIdx_append]
theorem pm_w_D (B : Nat) (b : Nat → Option Nat) (aC : Nat → ClassId) (h : pm_H) : va_D (fun q => B ≤ q) (pm_w B b aC h) := by
  refine ⟨fun i j p q hi hj e => ?_, fun k q hq => ?_⟩
  · have h1 := pm_w_get hi
    have h2 := pm_w_get hj
    omega
  · have h1 := pm_w_get hq
    show B ≤ q.1
    omega
noncomputable def pm_get : List (Nat × Value) → Nat → Option Value
  | [], _ => none
  | q :: l, i => bif Nat.beq q.1 i then some q.2 else pm_get l i
theorem pm_get_in {i : Nat} {v : Value} : ∀ {lv : List (Nat × Value)}, pm_get lv i = some v → (i, v) ∈ lv
  | [], h => by cases h
  | q :: l, h => by
    unfold pm_get at h
    cases hb : Nat.beq q.1 i with
    | true =>
      rw [hb] at h
      have h1 : q.1 = i := Nat.eq_of_beq_eq_true hb
      have h2 : q.2 = v := Option.some.inj h
      subst h1; subst h2
      exact List.mem_cons_self
    | false =>
      rw [hb] at h
      exact List.mem_cons_of_mem _ (pm_get_in h)
theorem pm_loc {B : Nat} {b : Nat → Option Nat} {lv : List (Nat × Value)} {ls : Array Slot} {nL i : Nat} {v : Value} (h : lv_has ls nL (lv.map (pm_q B b))) (hg : pm_get lv i = some v) : ls[i]? = some (.val (pm_v B b v)) :=
  h.2.2 (i, pm_v B b v) (List.mem_map.mpr ⟨(i, v), pm_get_in hg, rfl⟩)
noncomputable def pm_put1 (i : Nat) (v : Value) (lv : List (Nat × Value)) : List (Nat × Value) := (i, v) :: lv.filter (fun q => !(q.1 == i) && !(q.1 + 1 == i && q.2.category == 2))
noncomputable def pm_put2 (i : Nat) (v : Value) (lv : List (Nat × Value)) : List (Nat × Value) := (i, v) :: lv.filter (fun q => !(q.1 == i) && (!(q.1 == i + 1) && !(q.1 + 1 == i && q.2.category == 2)))
theorem pm_put1_map (B : Nat) (b : Nat → Option Nat) (i : Nat) (v : Value) (lv : List (Nat × Value)) : (i, pm_v B b v) :: (lv.map (pm_q B b)).filter (fun q => !(q.1 == i) && !(q.1 + 1 == i && q.2.category == 2)) = (pm_put1 i v lv).map (pm_q B b) := by
  simp only [pm_put1, List.map_cons, List.filter_map]
  refine congrArg (List.cons _) (congrArg (List.map _) (List.filter_congr fun q _ => ?_))
  simp [pm_q, pm_v_cat]
theorem pm_put2_map (B : Nat) (b : Nat → Option Nat) (i : Nat) (v : Value) (lv : List (Nat × Value)) : (i, pm_v B b v) :: (lv.map (pm_q B b)).filter (fun q => !(q.1 == i) && (!(q.1 == i + 1) && !(q.1 + 1 == i && q.2.category == 2))) = (pm_put2 i v lv).map (pm_q B b) := by
  simp only [pm_put2, List.map_cons, List.filter_map]
  refine congrArg (List.cons _) (congrArg (List.map _) (List.filter_congr fun q _ => ?_))
  simp [pm_q, pm_v_cat]
/-- the array classes by their numbers -/
noncomputable def pm_tys (aC : Nat → ClassId) : List (ClassId × FieldType) := [(aC 0, .int), (aC 1, .byte), (aC 2, .boolean), (aC 3, .long), (aC 4, .object RX5), (aC 5, .object RX4)]
/-- the class's static tables and the Reader's Strings, as the Statement gives them -/
noncomputable def pm_fac (j : Nat) : Int32 := [1, 1, 2, 6, 24, 120, 720, 5040, 40320].getD j 0
end
