section
/-! THE EXECUTOR (second writing), part 1: abstract values, heaps, states -/
/-- an int or a long is a symbol (or none) and an offset; references by their numbers -/
noncomputable abbrev AV : Type := (Option Nat × Int) ⊕ ((Option Nat × Int) ⊕ (Nat ⊕ (Nat ⊕ Unit)))
/-- the kinds that stand in certificates -/
noncomputable abbrev CV : Type := (Int × Int) ⊕ ((Int × Int) ⊕ (Nat ⊕ (Nat ⊕ Unit)))
noncomputable def av_ev (n : Nat) (ρ : Nat → Int) (k : Option Nat) (o : Int) (v : Int) : Prop := match k with
  | none => v = o
  | some k => k < n ∧ v = ρ k + o
noncomputable def av_g (n : Nat) (ρ : Nat → Int) (a : AV) (v : Value) : Prop := match a, v with
  | .inl (k, o), .int x => av_ev n ρ k o x.toInt
  | .inr (.inl (k, o)), .long x => av_ev n ρ k o x.toInt
  | .inr (.inr (.inl a)), .ref a' => a' = a
  | .inr (.inr (.inr (.inl k))), .retAddr k' => k' = k
  | .inr (.inr (.inr (.inr ()))), .null => True
  | _, _ => False
noncomputable def cv_g (c : CV) (v : Value) : Prop := match c, v with
  | .inl (lo, hi), .int x => lo ≤ x.toInt ∧ x.toInt ≤ hi
  | .inr (.inl (lo, hi)), .long x => lo ≤ x.toInt ∧ x.toInt ≤ hi
  | .inr (.inr (.inl a)), .ref a' => a' = a
  | .inr (.inr (.inr (.inl k))), .retAddr k' => k' = k
  | .inr (.inr (.inr (.inr ()))), .null => True
  | _, _ => False
noncomputable def av_cat (a : AV) : Nat := match a with
  | .inr (.inl (_, _)) => 2
  | _ => 1
theorem av_cat_eq {n : Nat} {ρ : Nat → Int} {a : AV} {v : Value} (h : av_g n ρ a v) : v.category = av_cat a := by
  rcases a with ⟨k, o⟩ | ⟨k, o⟩ | a | k | ⟨⟩ <;> cases v <;> first | rfl | exact h.elim
theorem av_ev_mono {n n' : Nat} {ρ ρ' : Nat → Int} {k : Option Nat} {o v : Int} (hn : n ≤ n') (hρ : ∀ q, q < n → ρ' q = ρ q) (h : av_ev n ρ k o v) : av_ev n' ρ' k o v := by
  cases k with
  | none => exact h
  | some k => exact ⟨Nat.lt_of_lt_of_le h.1 hn, by rw [hρ k h.1]; exact h.2⟩
theorem av_g_mono {n n' : Nat} {ρ ρ' : Nat → Int} {a : AV} {v : Value} (hn : n ≤ n') (hρ : ∀ q, q < n → ρ' q = ρ q) (h : av_g n ρ a v) : av_g n' ρ' a v := by
  rcases a with ⟨k, o⟩ | ⟨k, o⟩ | a | k | ⟨⟩ <;> cases v <;> first | exact av_ev_mono hn hρ h | exact h
theorem av_int {n : Nat} {ρ : Nat → Int} {k : Option Nat} {o : Int} {v : Value} (h : av_g n ρ (.inl (k, o)) v) : ∃ x : Int32, v = .int x ∧ av_ev n ρ k o x.toInt := by
  cases v with
  | int x => exact ⟨x, rfl, h⟩
  | _ => exact h.elim
theorem av_long {n : Nat} {ρ : Nat → Int} {k : Option Nat} {o : Int} {v : Value} (h : av_g n ρ (.inr (.inl (k, o))) v) : ∃ x : Int64, v = .long x ∧ av_ev n ρ k o x.toInt := by
  cases v with
  | long x => exact ⟨x, rfl, h⟩
  | _ => exact h.elim
theorem av_ref {n : Nat} {ρ : Nat → Int} {a : Nat} {v : Value} (h : av_g n ρ (.inr (.inr (.inl a))) v) : v = .ref a := by
  cases v with
  | ref x => exact congrArg Value.ref h
  | _ => exact h.elim
theorem av_out {n : Nat} {ρ : Nat → Int} {a : Nat} {v : Value} (h : av_g n ρ (.inr (.inr (.inr (.inl a)))) v) : v = .retAddr a := by
  cases v with
  | retAddr x => exact congrArg Value.retAddr h
  | _ => exact h.elim
noncomputable abbrev IV : Type := List (Int × Int)
noncomputable def iv_g (ρ : Nat → Int) (iv : IV) : Prop := ∀ k lo hi, iv[k]? = some (lo, hi) → lo ≤ ρ k ∧ ρ k ≤ hi
/-- a fresh symbol -/
noncomputable def iv_ext (ρ : Nat → Int) (n : Nat) (v : Int) : Nat → Int := fun q => bif Nat.beq q n then v else ρ q
theorem iv_ext_old {ρ : Nat → Int} {n : Nat} {v : Int} (q : Nat) (h : q < n) : iv_ext ρ n v q = ρ q := by
  unfold iv_ext
  cases hb : Nat.beq q n with
  | false => rfl
  | true => have := Nat.eq_of_beq_eq_true hb; omega
theorem iv_ext_new {ρ : Nat → Int} {n : Nat} {v : Int} : iv_ext ρ n v n = v := by
  unfold iv_ext; rw [Nat.beq_refl]; rfl
theorem iv_push {ρ : Nat → Int} {iv : IV} {v lo hi : Int} (h : iv_g ρ iv) (h1 : lo ≤ v) (h2 : v ≤ hi) : iv_g (iv_ext ρ iv.length v) (iv ++ [(lo, hi)]) := by
  intro k l u hk
  by_cases hlt : k < iv.length
  · rw [List.getElem?_append_left hlt] at hk
    rw [iv_ext_old k hlt]
    exact h k l u hk
  · have hk' := hk
    rw [List.getElem?_append_right (by omega)] at hk'
    have h0 : k - iv.length = 0 := by
      cases hd : k - iv.length with
      | zero => rfl
      | succ d => rw [hd] at hk'; cases hk'
    have he : k = iv.length := by omega
    subst he
    rw [h0] at hk'
    cases hk'
    rw [iv_ext_new]
    exact ⟨h1, h2⟩
/-- symbols that a segment began with (they keep what they stood for), the heap and the locals at the method's entry -/
noncomputable abbrev AEnv : Type := Nat × (Nat → Int) × pm_H × List (Nat × Value)
noncomputable def ia_g (E : AEnv) (ρ : Nat → Int) (iv : IV) : Prop := iv_g ρ iv ∧ E.1 ≤ iv.length ∧ ∀ k, k < E.1 → ρ k = E.2.1 k
theorem ia_push {E : AEnv} {ρ : Nat → Int} {iv : IV} {v lo hi : Int} (h : ia_g E ρ iv) (h1 : lo ≤ v) (h2 : v ≤ hi) : ia_g E (iv_ext ρ iv.length v) (iv ++ [(lo, hi)]) :=
  ⟨iv_push h.1 h1 h2, by rw [List.length_append]; exact Nat.le_trans h.2.1 (Nat.le_add_right _ _), fun k hk => (iv_ext_old k (Nat.lt_of_lt_of_le hk h.2.1)).trans (h.2.2 k hk)⟩
/-- the interval of a term -/
noncomputable def iv_rng (iv : IV) (k : Option Nat) (o : Int) : Option (Int × Int) := match k with
  | none => some (o, o)
  | some k => match iv[k]? with
    | some (lo, hi) => some (lo + o, hi + o)
    | none => none
theorem iv_rng_ok {E : AEnv} {n : Nat} {ρ : Nat → Int} {iv : IV} {k : Option Nat} {o v lo hi : Int} (h : ia_g E ρ iv) (hv : av_ev n ρ k o v) (hr : iv_rng iv k o = some (lo, hi)) : lo ≤ v ∧ v ≤ hi := by
  cases k with
  | none =>
    cases hr
    obtain rfl : v = o := hv
    omega
  | some k =>
    unfold iv_rng at hr
    simp only at hr
    split at hr
    · rename_i a b e
      cases hr
      have h1 := h.1 k a b e
      have h2 := hv.2
      omega
    · cases hr
noncomputable abbrev AF : Type := (Int × Int) ⊕ (Unit ⊕ (Nat ⊕ Unit))
noncomputable def af_g (c : AF) (v : Value) : Prop := match c, v with
  | .inl (lo, hi), .int x => lo ≤ x.toInt ∧ x.toInt ≤ hi
  | .inr (.inl ()), .long _ => True
  | .inr (.inr (.inl a)), .ref a' => a' = a
  | .inr (.inr (.inr ())), .null => True
  | _, _ => False
/-- cells: arrays of ints (class, length, bounds of the elements, again and again), of longs, of references; objects -/
noncomputable abbrev AE : Type := (Nat × Nat × List (Int × Int)) ⊕ (Nat ⊕ ((Nat × List (Option Nat)) ⊕ (Nat × List AF)))
noncomputable def pat_at (p : List (Int × Int)) (j : Nat) : Option (Int × Int) := p[j % p.length]?
noncomputable def ae_g (c : AE) (x : pm_E) : Prop := match c, x with
  | .inl (t, len, p), .inl (t', len', .inl f) => t' = t ∧ len' = len ∧ ∀ j lo hi, pat_at p j = some (lo, hi) → lo ≤ (f j).toInt ∧ (f j).toInt ≤ hi
  | .inr (.inl len), .inl (t', len', .inr (.inl _)) => t' = 3 ∧ len' = len
  | .inr (.inr (.inl (t, fs))), .inl (t', len', .inr (.inr (.inr (.inr f)))) => t' = t ∧ len' = fs.length ∧ ∀ (j : Nat) (y : Option Nat), fs[j]? = some y → f j = y
  | .inr (.inr (.inr (ci, fs))), .inr (cj, vs) => cj = ci ∧ vs.length = fs.length ∧ ∀ (k : Nat) (c : AF) (v : Value), fs[k]? = some c → vs[k]? = some v → af_g c v
  | _, _ => False
noncomputable def hs_g (hs : List AE) (h : pm_H) : Prop := h.length = hs.length ∧ ∀ (a : Nat) c x, hs[a]? = some c → h[a]? = some x → ae_g c x
theorem hs_at {hs : List AE} {h : pm_H} {a : Nat} {c : AE} (H : hs_g hs h) (hc : hs[a]? = some c) : ∃ x, h[a]? = some x ∧ ae_g c x := by
  have hl : a < hs.length := (List.getElem?_eq_some_iff.mp hc).1
  have hl' : a < h.length := by rw [H.1]; exact hl
  exact ⟨h[a], List.getElem?_eq_getElem hl', H.2 a c _ hc (List.getElem?_eq_getElem hl')⟩
theorem hs_set {hs : List AE} {h : pm_H} {a : Nat} {c : AE} {x : pm_E} (H : hs_g hs h) (hc : hs[a]? = some c) (hx : ae_g c x) : hs_g hs (h.set a x) := by
  refine ⟨by rw [List.length_set]; exact H.1, fun b c' x' h1 h2 => ?_⟩
  by_cases hab : a = b
  · subst hab
    have hl : a < h.length := by rw [H.1]; exact (List.getElem?_eq_some_iff.mp hc).1
    rw [List.getElem?_set_self hl] at h2
    cases h2
    rw [hc] at h1
    cases h1
    exact hx
  · rw [List.getElem?_set_ne hab] at h2
    exact H.2 b c' x' h1 h2
/-- what lies in a cell at a number: a field, an int, a long -/
noncomputable def ld (h : pm_H) (a k : Nat) : Option Value := match h[a]? with
  | some (.inl (_, _, .inl f)) => some (.int (f k))
  | some (.inl (_, _, .inr (.inl f))) => some (.long (f k))
  | some (.inr (_, vs)) => vs[k]?
  | _ => none
/-- ranges of numbers in cells -/
noncomputable abbrev Rng : Type := Nat × Nat × Nat
noncomputable def rg_in (M : List Rng) (a k : Nat) : Bool := M.any (fun r => Nat.beq r.1 a && (Nat.ble r.2.1 k && Nat.ble k r.2.2))
noncomputable def rg_sub (M : List Rng) (a l u : Nat) : Bool := M.any (fun r => Nat.beq r.1 a && (Nat.ble r.2.1 l && Nat.ble u r.2.2))
theorem rg_sub_in {M : List Rng} {a l u k : Nat} (h : rg_sub M a l u = true) (h1 : l ≤ k) (h2 : k ≤ u) : rg_in M a k = true := by
  obtain ⟨r, hr, hb⟩ := List.any_eq_true.mp h
  simp only [Bool.and_eq_true] at hb
  refine List.any_eq_true.mpr ⟨r, hr, ?_⟩
  simp only [Bool.and_eq_true]
  exact ⟨hb.1, Nat.ble_eq_true_of_le (Nat.le_trans (Nat.le_of_ble_eq_true hb.2.1) h1), Nat.ble_eq_true_of_le (Nat.le_trans h2 (Nat.le_of_ble_eq_true hb.2.2))⟩
/-- the ranges meet nowhere -/
noncomputable def rg_dis (S : List Rng) (a l u : Nat) : Bool := S.all (fun r => !(Nat.beq r.1 a) || (Nat.blt r.2.2 l || Nat.blt u r.2.1))
theorem rg_dis_in {S : List Rng} {a l u k : Nat} (h : rg_dis S a l u = true) (h1 : l ≤ k) (h2 : k ≤ u) : rg_in S a k = false := by
  cases hb : rg_in S a k with
  | false => rfl
  | true =>
    obtain ⟨r, hr, hc⟩ := List.any_eq_true.mp hb
    have hd := List.all_eq_true.mp h r hr
    simp only [Bool.and_eq_true] at hc
    simp only [Bool.or_eq_true, Bool.not_eq_true'] at hd
    have c1 := Nat.le_of_ble_eq_true hc.2.1
    have c2 := Nat.le_of_ble_eq_true hc.2.2
    rcases hd with hd | hd | hd
    · rw [hc.1] at hd; cases hd
    · have := Nat.le_of_ble_eq_true hd; omega
    · have := Nat.le_of_ble_eq_true hd; omega
/-- the world: shape of the heap, facts by number, what each fact reads -/
noncomputable abbrev AW : Type := { w : List AE × (Nat → pm_H → Prop) × (Nat → List Rng) // ∀ (i : Nat) (h h' : pm_H), hs_g w.1 h → hs_g w.1 h' → (∀ a k, rg_in (w.2.2 i) a k = true → ld h' a k = ld h a k) → w.2.1 i h → w.2.1 i h' }
/-- two lists, element by element -/
noncomputable def f2 {α β : Type} (R : α → β → Prop) : List α → List β → Prop
  | [], [] => True
  | a :: l, b :: m => R a b ∧ f2 R l m
  | _, _ => False
theorem f2_cons {α β : Type} {R : α → β → Prop} {a : α} {l : List α} {m : List β} (h : f2 R (a :: l) m) : ∃ b m', m = b :: m' ∧ R a b ∧ f2 R l m' := by
  cases m with
  | nil => exact h.elim
  | cons b m' => exact ⟨b, m', rfl, h.1, h.2⟩
theorem f2_mono {α β : Type} {R S : α → β → Prop} (hRS : ∀ a b, R a b → S a b) : ∀ {l : List α} {m : List β}, f2 R l m → f2 S l m
  | [], [], _ => trivial
  | [], _ :: _, h => h.elim
  | _ :: _, [], h => h.elim
  | _ :: _, _ :: _, h => ⟨hRS _ _ h.1, f2_mono hRS h.2⟩
/-- what is known of numbers in cells -/
noncomputable abbrev Mem : Type := List ((Nat × Nat) × AV)
/-- a sum of two symbols is a third; a symbol is at most another and a number -/
noncomputable abbrev Con : Type := (Nat × Nat × Nat) ⊕ (Nat × Nat × Int)
noncomputable def con_g (n : Nat) (ρ : Nat → Int) (c : Con) : Prop := match c with
  | .inl (s, a, b) => s < n ∧ a < n ∧ b < n ∧ ρ s = ρ a + ρ b
  | .inr (a, b, c) => a < n ∧ b < n ∧ ρ a ≤ ρ b + c
theorem con_g_mono {n n' : Nat} {ρ ρ' : Nat → Int} {c : Con} (hn : n ≤ n') (hρ : ∀ q, q < n → ρ' q = ρ q) (h : con_g n ρ c) : con_g n' ρ' c := by
  rcases c with ⟨s, a, b⟩ | ⟨a, b, c⟩
  · obtain ⟨h1, h2, h3, h4⟩ := h
    exact ⟨Nat.lt_of_lt_of_le h1 hn, Nat.lt_of_lt_of_le h2 hn, Nat.lt_of_lt_of_le h3 hn, by rw [hρ s h1, hρ a h2, hρ b h3]; exact h4⟩
  · obtain ⟨h1, h2, h4⟩ := h
    exact ⟨Nat.lt_of_lt_of_le h1 hn, Nat.lt_of_lt_of_le h2 hn, by rw [hρ a h1, hρ b h2]; exact h4⟩
/-- memory, relations, facts that hold, what may be stored to, locals that stay -/
noncomputable abbrev AX : Type := Mem × List Con × List Nat × List Rng × List Nat
/-- states: place in the code, locals, stack, intervals, and the rest -/
noncomputable abbrev AS : Type := Nat × List (Nat × AV) × List AV × IV × AX
noncomputable def ex_g (w : AW) (E : AEnv) (n : Nat) (ρ : Nat → Int) (x : AX) (cl : List (Nat × Value)) (h : pm_H) : Prop :=
  hs_g w.1.1 h ∧ (∀ q a, (q, a) ∈ x.1 → ∃ v, ld h q.1 q.2 = some v ∧ av_g n ρ a v) ∧ (∀ c ∈ x.2.1, con_g n ρ c) ∧ (∀ i ∈ x.2.2.1, w.1.2.1 i h) ∧ (∀ a k, rg_in x.2.2.2.1 a k = false → ld h a k = ld E.2.2.1 a k) ∧ ∀ i ∈ x.2.2.2.2, pm_get cl i = pm_get E.2.2.2 i
theorem ex_g_mono {w : AW} {E : AEnv} {n n' : Nat} {ρ ρ' : Nat → Int} {x : AX} {cl : List (Nat × Value)} {h : pm_H} (hn : n ≤ n') (hρ : ∀ q, q < n → ρ' q = ρ q) (g : ex_g w E n ρ x cl h) : ex_g w E n' ρ' x cl h := by
  obtain ⟨g1, g2, g3, g4, g5, g6⟩ := g
  refine ⟨g1, fun q a hm => ?_, fun c hc => con_g_mono hn hρ (g3 c hc), g4, g5, g6⟩
  obtain ⟨v, e1, e2⟩ := g2 q a hm
  exact ⟨v, e1, av_g_mono hn hρ e2⟩
/-- what a state says, its symbols standing for given numbers -/
noncomputable def as_r (w : AW) (E : AEnv) (ρ : Nat → Int) (A : AS) (σ : pm_S) : Prop := ia_g E ρ A.2.2.2.1 ∧ σ.1 = A.1 ∧ (∀ i a, (i, a) ∈ A.2.1 → ∃ v, pm_get σ.2.1 i = some v ∧ av_g A.2.2.2.1.length ρ a v) ∧ f2 (fun a v => av_g A.2.2.2.1.length ρ a v) A.2.2.1 σ.2.2.1 ∧ ex_g w E A.2.2.2.1.length ρ A.2.2.2.2 σ.2.1 σ.2.2.2.1
noncomputable def as_g (w : AW) (E : AEnv) (A : AS) (σ : pm_S) : Prop := ∃ ρ : Nat → Int, as_r w E ρ A σ
noncomputable def as_get : List (Nat × AV) → Nat → Option AV
  | [], _ => none
  | q :: l, i => bif Nat.beq q.1 i then some q.2 else as_get l i
theorem as_get_in {i : Nat} {a : AV} : ∀ {lv : List (Nat × AV)}, as_get lv i = some a → (i, a) ∈ lv
  | [], h => by cases h
  | q :: l, h => by
    unfold as_get at h
    cases hb : Nat.beq q.1 i with
    | true =>
      rw [hb] at h
      have h1 : q.1 = i := Nat.eq_of_beq_eq_true hb
      have h2 : q.2 = a := Option.some.inj h
      subst h1; subst h2
      exact List.mem_cons_self
    | false =>
      rw [hb] at h
      exact List.mem_cons_of_mem _ (as_get_in h)
/-- locals that a store leaves -/
theorem pm_get_filter {p : Nat × Value → Bool} {i : Nat} {v : Value} : ∀ {lv : List (Nat × Value)}, pm_get lv i = some v → p (i, v) = true → pm_get (lv.filter p) i = some v
  | [], h, _ => by cases h
  | q :: l, h, hp => by
    unfold pm_get at h
    cases hb : Nat.beq q.1 i with
    | true =>
      rw [hb] at h
      have h1 : q.1 = i := Nat.eq_of_beq_eq_true hb
      have h2 : q.2 = v := Option.some.inj h
      subst h1; subst h2
      rw [List.filter_cons_of_pos hp]
      unfold pm_get
      rw [hb]; rfl
    | false =>
      rw [hb] at h
      have ih := pm_get_filter (p := p) (i := i) (v := v) (lv := l) h hp
      cases hq : p q with
      | true =>
        rw [List.filter_cons_of_pos hq]
        unfold pm_get
        rw [hb]; exact ih
      | false =>
        rw [List.filter_cons_of_neg (by rw [hq]; exact Bool.false_ne_true)]
        exact ih
theorem pm_get_self {i : Nat} {v : Value} {l : List (Nat × Value)} : pm_get ((i, v) :: l) i = some v := by
  unfold pm_get; rw [Nat.beq_refl]; rfl
theorem pm_get_ne {i j : Nat} {v w : Value} {l : List (Nat × Value)} (h : j ≠ i) (hl : pm_get l j = some w) : pm_get ((i, v) :: l) j = some w := by
  unfold pm_get
  cases hb : Nat.beq i j with
  | true => exact absurd (Nat.eq_of_beq_eq_true hb).symm h
  | false => exact hl
noncomputable def as_put1 (i : Nat) (a : AV) (lv : List (Nat × AV)) : List (Nat × AV) := (i, a) :: lv.filter (fun q => !(Nat.beq q.1 i) && !(Nat.beq (q.1 + 1) i && Nat.beq (av_cat q.2) 2))
noncomputable def as_put2 (i : Nat) (a : AV) (lv : List (Nat × AV)) : List (Nat × AV) := (i, a) :: lv.filter (fun q => !(Nat.beq q.1 i) && (!(Nat.beq q.1 (i + 1)) && !(Nat.beq (q.1 + 1) i && Nat.beq (av_cat q.2) 2)))
theorem as_beq {a b : Nat} : (a == b) = Nat.beq a b := by
  cases h : Nat.beq a b with
  | true => rw [Nat.eq_of_beq_eq_true h]; exact beq_self_eq_true _
  | false => exact beq_eq_false_iff_ne.mpr (Nat.ne_of_beq_eq_false h)
theorem as_put1_ok {n : Nat} {ρ : Nat → Int} {i : Nat} {a : AV} {v : Value} {la : List (Nat × AV)} {lv : List (Nat × Value)} (h : ∀ j c, (j, c) ∈ la → ∃ w, pm_get lv j = some w ∧ av_g n ρ c w) (hv : av_g n ρ a v) :
    ∀ j c, (j, c) ∈ as_put1 i a la → ∃ w, pm_get (pm_put1 i v lv) j = some w ∧ av_g n ρ c w := by
  intro j c hm
  unfold as_put1 at hm
  cases List.mem_cons.mp hm with
  | inl e => cases e; exact ⟨v, pm_get_self, hv⟩
  | inr hm =>
    obtain ⟨hm1, hm2⟩ := List.mem_filter.mp hm
    obtain ⟨w, e1, e2⟩ := h j c hm1
    have hcat := av_cat_eq e2
    refine ⟨w, ?_, e2⟩
    simp only [← as_beq, Bool.and_eq_true, Bool.not_eq_true', Bool.and_eq_false_iff, beq_eq_false_iff_ne] at hm2
    refine pm_get_ne hm2.1 (pm_get_filter e1 ?_)
    simp only [Bool.and_eq_true, Bool.not_eq_true', Bool.and_eq_false_iff, beq_eq_false_iff_ne, hcat]
    exact hm2
theorem as_put2_ok {n : Nat} {ρ : Nat → Int} {i : Nat} {a : AV} {v : Value} {la : List (Nat × AV)} {lv : List (Nat × Value)} (h : ∀ j c, (j, c) ∈ la → ∃ w, pm_get lv j = some w ∧ av_g n ρ c w) (hv : av_g n ρ a v) :
    ∀ j c, (j, c) ∈ as_put2 i a la → ∃ w, pm_get (pm_put2 i v lv) j = some w ∧ av_g n ρ c w := by
  intro j c hm
  unfold as_put2 at hm
  cases List.mem_cons.mp hm with
  | inl e => cases e; exact ⟨v, pm_get_self, hv⟩
  | inr hm =>
    obtain ⟨hm1, hm2⟩ := List.mem_filter.mp hm
    obtain ⟨w, e1, e2⟩ := h j c hm1
    have hcat := av_cat_eq e2
    refine ⟨w, ?_, e2⟩
    simp only [← as_beq, Bool.and_eq_true, Bool.not_eq_true', Bool.and_eq_false_iff, beq_eq_false_iff_ne] at hm2
    refine pm_get_ne hm2.1 (pm_get_filter e1 ?_)
    simp only [Bool.and_eq_true, Bool.not_eq_true', Bool.and_eq_false_iff, beq_eq_false_iff_ne, hcat]
    exact hm2
end
section
/-! THE EXECUTOR (second writing), part 2: steps over abstract states; each covers the step of the pure machine -/
noncomputable def ai_ok (w : AW) (f : pm_S → Option pm_S) (g : AS → Option (List AS)) : Prop := ∀ (E : AEnv) (A : AS) (σ : pm_S) (As : List AS), as_g w E A σ → g A = some As → ∃ σ', f σ = some σ' ∧ ∃ A' ∈ As, as_g w E A' σ'
section AIS
variable {w : AW}
noncomputable def a_const (v : Value) (n : Nat) : AS → Option (List AS) := fun A => match v with
  | .int c => some [(n, A.2.1, .inl (none, c.toInt) :: A.2.2.1, A.2.2.2)]
  | .long c => some [(n, A.2.1, .inr (.inl (none, c.toInt)) :: A.2.2.1, A.2.2.2)]
  | .retAddr k => some [(n, A.2.1, .inr (.inr (.inr (.inl k))) :: A.2.2.1, A.2.2.2)]
  | _ => none
theorem a_const_ok (v : Value) (n : Nat) : ai_ok w (s_const v n) (a_const v n) := by
  rintro E ⟨pc, lv, st, iv, ex⟩ ⟨pc', cl, cs, W⟩ As ⟨ρ, g1, g2, g3, g4, g5⟩ h
  refine ⟨(n, cl, v :: cs, W), rfl, ?_⟩
  cases v with
  | int c => cases h; exact ⟨_, List.mem_singleton_self _, ρ, g1, rfl, g3, ⟨rfl, g4⟩, g5⟩
  | long c => cases h; exact ⟨_, List.mem_singleton_self _, ρ, g1, rfl, g3, ⟨rfl, g4⟩, g5⟩
  | retAddr c => cases h; exact ⟨_, List.mem_singleton_self _, ρ, g1, rfl, g3, ⟨rfl, g4⟩, g5⟩
  | _ => cases h
noncomputable def a_il (i n : Nat) : AS → Option (List AS) := fun A => match as_get A.2.1 i with
  | some (.inl (k, o)) => some [(n, A.2.1, .inl (k, o) :: A.2.2.1, A.2.2.2)]
  | _ => none
theorem a_il_ok (i n : Nat) : ai_ok w (s_il i n) (a_il i n) := by
  rintro E ⟨pc, lv, st, iv, ex⟩ ⟨pc', cl, cs, W⟩ As ⟨ρ, g1, g2, g3, g4, g5⟩ h
  simp only [a_il] at h
  split at h
  · rename_i k o e
    cases h
    obtain ⟨v, e1, e2⟩ := g3 i _ (as_get_in e)
    cases v with
    | int x => exact ⟨(n, cl, .int x :: cs, W), by simp only [s_il]; simp only at e1; rw [e1], _, List.mem_singleton_self _, ρ, g1, rfl, g3, ⟨e2, g4⟩, g5⟩
    | _ => exact e2.elim
  · cases h
noncomputable def a_ll (i n : Nat) : AS → Option (List AS) := fun A => match as_get A.2.1 i with
  | some (.inr (.inl (k, o))) => some [(n, A.2.1, .inr (.inl (k, o)) :: A.2.2.1, A.2.2.2)]
  | _ => none
theorem a_ll_ok (i n : Nat) : ai_ok w (s_ll i n) (a_ll i n) := by
  rintro E ⟨pc, lv, st, iv, ex⟩ ⟨pc', cl, cs, W⟩ As ⟨ρ, g1, g2, g3, g4, g5⟩ h
  simp only [a_ll] at h
  split at h
  · rename_i k o e
    cases h
    obtain ⟨v, e1, e2⟩ := g3 i _ (as_get_in e)
    cases v with
    | long x => exact ⟨(n, cl, .long x :: cs, W), by simp only [s_ll]; simp only at e1; rw [e1], _, List.mem_singleton_self _, ρ, g1, rfl, g3, ⟨e2, g4⟩, g5⟩
    | _ => exact e2.elim
  · cases h
noncomputable def a_al (i n : Nat) : AS → Option (List AS) := fun A => match as_get A.2.1 i with
  | some (.inr (.inr (.inl a))) => some [(n, A.2.1, .inr (.inr (.inl a)) :: A.2.2.1, A.2.2.2)]
  | some (.inr (.inr (.inr (.inl a)))) => some [(n, A.2.1, .inr (.inr (.inr (.inl a))) :: A.2.2.1, A.2.2.2)]
  | _ => none
theorem a_al_ok (i n : Nat) : ai_ok w (s_al i n) (a_al i n) := by
  rintro E ⟨pc, lv, st, iv, ex⟩ ⟨pc', cl, cs, W⟩ As ⟨ρ, g1, g2, g3, g4, g5⟩ h
  simp only [a_al] at h
  split at h
  · rename_i a e
    cases h
    obtain ⟨v, e1, e2⟩ := g3 i _ (as_get_in e)
    cases v with
    | ref x => exact ⟨(n, cl, .ref x :: cs, W), by simp only [s_al]; simp only at e1; rw [e1], _, List.mem_singleton_self _, ρ, g1, rfl, g3, ⟨e2, g4⟩, g5⟩
    | _ => exact e2.elim
  · rename_i a e
    cases h
    obtain ⟨v, e1, e2⟩ := g3 i _ (as_get_in e)
    cases v with
    | retAddr x => exact ⟨(n, cl, .retAddr x :: cs, W), by simp only [s_al]; simp only at e1; rw [e1], _, List.mem_singleton_self _, ρ, g1, rfl, g3, ⟨e2, g4⟩, g5⟩
    | _ => exact e2.elim
  · cases h
/-- a store to a local leaves those that stay -/
noncomputable def kp1 (K : List Nat) (lv : List (Nat × AV)) (i : Nat) : Bool := K.all (fun j => !(Nat.beq j i) && (match as_get lv j with | some a => !(Nat.beq (j + 1) i) || Nat.beq (av_cat a) 1 | none => false))
noncomputable def kp2 (K : List Nat) (lv : List (Nat × AV)) (i : Nat) : Bool := K.all (fun j => !(Nat.beq j i) && (!(Nat.beq j (i + 1)) && (match as_get lv j with | some a => !(Nat.beq (j + 1) i) || Nat.beq (av_cat a) 1 | none => false)))
theorem ex_put1 {E : AEnv} {n : Nat} {ρ : Nat → Int} {ex : AX} {cl : List (Nat × Value)} {h : pm_H} {lv : List (Nat × AV)} {i : Nat} {v : Value} (g3 : ∀ i a, (i, a) ∈ lv → ∃ v, pm_get cl i = some v ∧ av_g n ρ a v) (hk : kp1 ex.2.2.2.2 lv i = true) (g : ex_g w E n ρ ex cl h) : ex_g w E n ρ ex (pm_put1 i v cl) h := by
  obtain ⟨g1, g2, g4, g5, g6, g7⟩ := g
  refine ⟨g1, g2, g4, g5, g6, fun j hj => ?_⟩
  have h1 := List.all_eq_true.mp hk j hj
  rw [Bool.and_eq_true] at h1
  split at h1
  · rename_i a e
    obtain ⟨u, e1, e2⟩ := g3 j a (as_get_in e)
    have hcat := av_cat_eq e2
    rw [← g7 j hj, e1]
    simp only [← as_beq, Bool.not_eq_true', Bool.or_eq_true, beq_eq_false_iff_ne, beq_iff_eq] at h1
    refine pm_get_ne h1.1 (pm_get_filter e1 ?_)
    simp only [Bool.and_eq_true, Bool.not_eq_true', Bool.and_eq_false_iff, beq_eq_false_iff_ne, hcat]
    refine ⟨h1.1, ?_⟩
    cases h1.2 with
    | inl q => exact .inl q
    | inr q => right; rw [q]; decide
  · cases h1.2
theorem ex_put2 {E : AEnv} {n : Nat} {ρ : Nat → Int} {ex : AX} {cl : List (Nat × Value)} {h : pm_H} {lv : List (Nat × AV)} {i : Nat} {v : Value} (g3 : ∀ i a, (i, a) ∈ lv → ∃ v, pm_get cl i = some v ∧ av_g n ρ a v) (hk : kp2 ex.2.2.2.2 lv i = true) (g : ex_g w E n ρ ex cl h) : ex_g w E n ρ ex (pm_put2 i v cl) h := by
  obtain ⟨g1, g2, g4, g5, g6, g7⟩ := g
  refine ⟨g1, g2, g4, g5, g6, fun j hj => ?_⟩
  have h1 := List.all_eq_true.mp hk j hj
  rw [Bool.and_eq_true, Bool.and_eq_true] at h1
  split at h1
  · rename_i a e
    obtain ⟨u, e1, e2⟩ := g3 j a (as_get_in e)
    have hcat := av_cat_eq e2
    rw [← g7 j hj, e1]
    simp only [← as_beq, Bool.not_eq_true', Bool.or_eq_true, beq_eq_false_iff_ne, beq_iff_eq] at h1
    refine pm_get_ne h1.1 (pm_get_filter e1 ?_)
    simp only [Bool.and_eq_true, Bool.not_eq_true', Bool.and_eq_false_iff, beq_eq_false_iff_ne, hcat]
    refine ⟨h1.1, h1.2.1, ?_⟩
    cases h1.2.2 with
    | inl q => exact .inl q
    | inr q => right; rw [q]; decide
  · cases h1.2.2
noncomputable def a_is (i n : Nat) : AS → Option (List AS) := fun A => match A.2.2.1 with
  | .inl (k, o) :: st => bif kp1 A.2.2.2.2.2.2.2.2 A.2.1 i then some [(n, as_put1 i (.inl (k, o)) A.2.1, st, A.2.2.2)] else none
  | _ => none
theorem a_is_ok (i n : Nat) : ai_ok w (s_is i n) (a_is i n) := by
  rintro E ⟨pc, lv, st, iv, ex⟩ ⟨pc', cl, cs, W⟩ As ⟨ρ, g1, g2, g3, g4, g5⟩ h
  simp only [a_is] at h
  split at h
  · rename_i st'
    cases hb : kp1 ex.2.2.2.2 lv i with
    | false => rw [hb] at h; cases h
    | true =>
      rw [hb] at h
      cases h
      obtain ⟨v, cs, rfl, ha, hr⟩ := f2_cons g4
      cases v with
      | int x => exact ⟨(n, pm_put1 i (.int x) cl, cs, W), rfl, _, List.mem_singleton_self _, ρ, g1, rfl, as_put1_ok g3 ha, hr, ex_put1 g3 hb g5⟩
      | _ => exact ha.elim
  · cases h
noncomputable def a_ls (i n : Nat) : AS → Option (List AS) := fun A => match A.2.2.1 with
  | .inr (.inl (k, o)) :: st => bif kp2 A.2.2.2.2.2.2.2.2 A.2.1 i then some [(n, as_put2 i (.inr (.inl (k, o))) A.2.1, st, A.2.2.2)] else none
  | _ => none
theorem a_ls_ok (i n : Nat) : ai_ok w (s_ls i n) (a_ls i n) := by
  rintro E ⟨pc, lv, st, iv, ex⟩ ⟨pc', cl, cs, W⟩ As ⟨ρ, g1, g2, g3, g4, g5⟩ h
  simp only [a_ls] at h
  split at h
  · rename_i st'
    cases hb : kp2 ex.2.2.2.2 lv i with
    | false => rw [hb] at h; cases h
    | true =>
      rw [hb] at h
      cases h
      obtain ⟨v, cs, rfl, ha, hr⟩ := f2_cons g4
      cases v with
      | long x => exact ⟨(n, pm_put2 i (.long x) cl, cs, W), rfl, _, List.mem_singleton_self _, ρ, g1, rfl, as_put2_ok g3 ha, hr, ex_put2 g3 hb g5⟩
      | _ => exact ha.elim
  · cases h
noncomputable def a_as (i n : Nat) : AS → Option (List AS) := fun A => match A.2.2.1 with
  | .inr (.inr (.inl a)) :: st => bif kp1 A.2.2.2.2.2.2.2.2 A.2.1 i then some [(n, as_put1 i (.inr (.inr (.inl a))) A.2.1, st, A.2.2.2)] else none
  | _ => none
theorem a_as_ok (i n : Nat) : ai_ok w (s_as i n) (a_as i n) := by
  rintro E ⟨pc, lv, st, iv, ex⟩ ⟨pc', cl, cs, W⟩ As ⟨ρ, g1, g2, g3, g4, g5⟩ h
  simp only [a_as] at h
  split at h
  · rename_i st'
    cases hb : kp1 ex.2.2.2.2 lv i with
    | false => rw [hb] at h; cases h
    | true =>
      rw [hb] at h
      cases h
      obtain ⟨v, cs, rfl, ha, hr⟩ := f2_cons g4
      cases v with
      | ref x => exact ⟨(n, pm_put1 i (.ref x) cl, cs, W), rfl, _, List.mem_singleton_self _, ρ, g1, rfl, as_put1_ok g3 ha, hr, ex_put1 g3 hb g5⟩
      | _ => exact ha.elim
  · cases h
noncomputable def a_goto (t : Nat) : AS → Option (List AS) := fun A => some [(t, A.2.1, A.2.2.1, A.2.2.2)]
theorem a_goto_ok (t : Nat) : ai_ok w (s_goto t) (a_goto t) := by
  rintro E ⟨pc, lv, st, iv, ex⟩ ⟨pc', cl, cs, W⟩ As ⟨ρ, g1, g2, g3, g4, g5⟩ h
  cases h
  exact ⟨(t, cl, cs, W), rfl, _, List.mem_singleton_self _, ρ, g1, rfl, g3, g4, g5⟩
noncomputable def a_dup (n : Nat) : AS → Option (List AS) := fun A => match A.2.2.1 with
  | a :: st => bif Nat.beq (av_cat a) 1 then some [(n, A.2.1, a :: a :: st, A.2.2.2)] else none
  | _ => none
theorem a_dup_ok (n : Nat) : ai_ok w (s_dup n) (a_dup n) := by
  rintro E ⟨pc, lv, st, iv, ex⟩ ⟨pc', cl, cs, W⟩ As ⟨ρ, g1, g2, g3, g4, g5⟩ h
  simp only [a_dup] at h
  split at h
  · rename_i a st'
    cases hb : Nat.beq (av_cat a) 1 with
    | false => rw [hb] at h; cases h
    | true =>
      rw [hb] at h
      cases h
      obtain ⟨v, cs, rfl, ha, hr⟩ := f2_cons g4
      ·
        exact ⟨(n, cl, v :: v :: cs, W), by simp only [s_dup]; rw [av_cat_eq ha, hb]; rfl, _, List.mem_singleton_self _, ρ, g1, rfl, g3, ⟨ha, ha, hr⟩, g5⟩
  · cases h
noncomputable def a_pop (n : Nat) : AS → Option (List AS) := fun A => match A.2.2.1 with
  | a :: st => bif Nat.beq (av_cat a) 1 then some [(n, A.2.1, st, A.2.2.2)] else none
  | _ => none
theorem a_pop_ok (n : Nat) : ai_ok w (s_pop n) (a_pop n) := by
  rintro E ⟨pc, lv, st, iv, ex⟩ ⟨pc', cl, cs, W⟩ As ⟨ρ, g1, g2, g3, g4, g5⟩ h
  simp only [a_pop] at h
  split at h
  · rename_i a st'
    cases hb : Nat.beq (av_cat a) 1 with
    | false => rw [hb] at h; cases h
    | true =>
      rw [hb] at h
      cases h
      obtain ⟨v, cs, rfl, ha, hr⟩ := f2_cons g4
      ·
        exact ⟨(n, cl, cs, W), by simp only [s_pop]; rw [av_cat_eq ha, hb]; rfl, _, List.mem_singleton_self _, ρ, g1, rfl, g3, hr, g5⟩
  · cases h
noncomputable def a_pop2 (n : Nat) : AS → Option (List AS) := fun A => match A.2.2.1 with
  | a :: st => bif Nat.beq (av_cat a) 2 then some [(n, A.2.1, st, A.2.2.2)] else none
  | _ => none
theorem a_pop2_ok (n : Nat) : ai_ok w (s_pop2 n) (a_pop2 n) := by
  rintro E ⟨pc, lv, st, iv, ex⟩ ⟨pc', cl, cs, W⟩ As ⟨ρ, g1, g2, g3, g4, g5⟩ h
  simp only [a_pop2] at h
  split at h
  · rename_i a st'
    cases hb : Nat.beq (av_cat a) 2 with
    | false => rw [hb] at h; cases h
    | true =>
      rw [hb] at h
      cases h
      obtain ⟨v, cs, rfl, ha, hr⟩ := f2_cons g4
      ·
        exact ⟨(n, cl, cs, W), by simp only [s_pop2]; rw [av_cat_eq ha, hb]; rfl, _, List.mem_singleton_self _, ρ, g1, rfl, g3, hr, g5⟩
  · cases h
noncomputable def a_dup2 (n : Nat) : AS → Option (List AS) := fun A => match A.2.2.1 with
  | a :: c :: st => bif Nat.beq (av_cat a) 1 && Nat.beq (av_cat c) 1 then some [(n, A.2.1, a :: c :: a :: c :: st, A.2.2.2)] else none
  | _ => none
theorem a_dup2_ok (n : Nat) : ai_ok w (s_dup2 n) (a_dup2 n) := by
  rintro E ⟨pc, lv, st, iv, ex⟩ ⟨pc', cl, cs, W⟩ As ⟨ρ, g1, g2, g3, g4, g5⟩ h
  simp only [a_dup2] at h
  split at h
  · rename_i a c st'
    cases hb : (Nat.beq (av_cat a) 1 && Nat.beq (av_cat c) 1) with
    | false => rw [hb] at h; cases h
    | true =>
      rw [hb] at h
      cases h
      obtain ⟨v, cs, rfl, ha, hr0⟩ := f2_cons g4
      ·
        obtain ⟨u, cs, rfl, hc, hr⟩ := f2_cons hr0
        ·
          exact ⟨(n, cl, v :: u :: v :: u :: cs, W), by simp only [s_dup2]; rw [av_cat_eq ha, av_cat_eq hc, hb]; rfl, _, List.mem_singleton_self _, ρ, g1, rfl, g3, ⟨ha, hc, ha, hc, hr⟩, g5⟩
  · cases h
end AIS
end
section
/-! THE EXECUTOR (second writing), part 3: numbers within bounds -/
theorem ai_bmod {v : Int} (h1 : -2147483648 ≤ v) (h2 : v ≤ 2147483647) : v.bmod (2 ^ 32) = v := by
  unfold Int.bmod
  have e : ((2 ^ 32 : Nat) : Int) = 4294967296 := rfl
  simp only [e]
  split <;> omega
theorem ai_lo (x : Int32) : -2147483648 ≤ x.toInt := by have := Int32.le_toInt x; omega
theorem ai_hi (x : Int32) : x.toInt ≤ 2147483647 := by have := Int32.toInt_lt x; omega
theorem ai_add {x y : Int32} (h1 : -2147483648 ≤ x.toInt + y.toInt) (h2 : x.toInt + y.toInt ≤ 2147483647) : (x + y).toInt = x.toInt + y.toInt := by
  rw [Int32.toInt_add]; exact ai_bmod h1 h2
theorem ai_sub {x y : Int32} (h1 : -2147483648 ≤ x.toInt - y.toInt) (h2 : x.toInt - y.toInt ≤ 2147483647) : (x - y).toInt = x.toInt - y.toInt := by
  rw [Int32.toInt_sub]; exact ai_bmod h1 h2
theorem ai_mul {x y : Int32} (h1 : -2147483648 ≤ x.toInt * y.toInt) (h2 : x.toInt * y.toInt ≤ 2147483647) : (x * y).toInt = x.toInt * y.toInt := by
  rw [Int32.toInt_mul]; exact ai_bmod h1 h2
/-- within the ints -/
noncomputable def ai_in (lo hi : Int) : Bool := decide (-2147483648 ≤ lo) && decide (hi ≤ 2147483647)
theorem ai_in_ok {lo hi : Int} (h : ai_in lo hi = true) : -2147483648 ≤ lo ∧ hi ≤ 2147483647 := by
  simpa [ai_in, Bool.and_eq_true, decide_eq_true_eq] using h
noncomputable def ai_bnd (lo hi : Int) : Int × Int := bif ai_in lo hi then (lo, hi) else (-2147483648, 2147483647)
theorem ai_bnd_ok {z : Int32} {lo hi : Int} (h : ai_in lo hi = true → lo ≤ z.toInt ∧ z.toInt ≤ hi) : (ai_bnd lo hi).1 ≤ z.toInt ∧ z.toInt ≤ (ai_bnd lo hi).2 := by
  unfold ai_bnd
  cases hb : ai_in lo hi with
  | false => exact ⟨ai_lo _, ai_hi _⟩
  | true => exact h hb
/-- the same for longs -/
theorem al_bmod {v : Int} (h1 : -9223372036854775808 ≤ v) (h2 : v ≤ 9223372036854775807) : v.bmod (2 ^ 64) = v := by
  unfold Int.bmod
  have e : ((2 ^ 64 : Nat) : Int) = 18446744073709551616 := rfl
  simp only [e]
  split <;> omega
theorem al_lo (x : Int64) : -9223372036854775808 ≤ x.toInt := by have := Int64.le_toInt x; omega
theorem al_hi (x : Int64) : x.toInt ≤ 9223372036854775807 := by have := Int64.toInt_lt x; omega
theorem al_add {x y : Int64} (h1 : -9223372036854775808 ≤ x.toInt + y.toInt) (h2 : x.toInt + y.toInt ≤ 9223372036854775807) : (x + y).toInt = x.toInt + y.toInt := by
  rw [Int64.toInt_add]; exact al_bmod h1 h2
theorem al_sub {x y : Int64} (h1 : -9223372036854775808 ≤ x.toInt - y.toInt) (h2 : x.toInt - y.toInt ≤ 9223372036854775807) : (x - y).toInt = x.toInt - y.toInt := by
  rw [Int64.toInt_sub]; exact al_bmod h1 h2
theorem al_mul {x y : Int64} (h1 : -9223372036854775808 ≤ x.toInt * y.toInt) (h2 : x.toInt * y.toInt ≤ 9223372036854775807) : (x * y).toInt = x.toInt * y.toInt := by
  rw [Int64.toInt_mul]; exact al_bmod h1 h2
noncomputable def al_in (lo hi : Int) : Bool := decide (-9223372036854775808 ≤ lo) && decide (hi ≤ 9223372036854775807)
theorem al_in_ok {lo hi : Int} (h : al_in lo hi = true) : -9223372036854775808 ≤ lo ∧ hi ≤ 9223372036854775807 := by
  simpa [al_in, Bool.and_eq_true, decide_eq_true_eq] using h
noncomputable def al_bnd (lo hi : Int) : Int × Int := bif al_in lo hi then (lo, hi) else (-9223372036854775808, 9223372036854775807)
theorem al_bnd_ok {z : Int64} {lo hi : Int} (h : al_in lo hi = true → lo ≤ z.toInt ∧ z.toInt ≤ hi) : (al_bnd lo hi).1 ≤ z.toInt ∧ z.toInt ≤ (al_bnd lo hi).2 := by
  unfold al_bnd
  cases hb : al_in lo hi with
  | false => exact ⟨al_lo _, al_hi _⟩
  | true => exact h hb
/-- products -/
noncomputable def mn4 (a b c d : Int) : Int := min (min a b) (min c d)
noncomputable def mx4 (a b c d : Int) : Int := max (max a b) (max c d)
theorem mul_btw {l u x y : Int} (h1 : l ≤ x) (h2 : x ≤ u) : min (l * y) (u * y) ≤ x * y ∧ x * y ≤ max (l * y) (u * y) := by
  by_cases hy : 0 ≤ y
  · have a := Int.mul_le_mul_of_nonneg_right h1 hy
    have b := Int.mul_le_mul_of_nonneg_right h2 hy
    omega
  · have hy : y ≤ 0 := by omega
    have a := Int.mul_le_mul_of_nonpos_right h1 hy
    have b := Int.mul_le_mul_of_nonpos_right h2 hy
    omega
theorem mul_rg {l1 u1 l2 u2 x y : Int} (h1 : l1 ≤ x) (h2 : x ≤ u1) (h3 : l2 ≤ y) (h4 : y ≤ u2) : mn4 (l1 * l2) (l1 * u2) (u1 * l2) (u1 * u2) ≤ x * y ∧ x * y ≤ mx4 (l1 * l2) (l1 * u2) (u1 * l2) (u1 * u2) := by
  have a := mul_btw (y := y) h1 h2
  have b := mul_btw (y := l1) h3 h4
  have c := mul_btw (y := u1) h3 h4
  rw [Int.mul_comm l2, Int.mul_comm u2, Int.mul_comm y] at b
  rw [Int.mul_comm l2, Int.mul_comm u2, Int.mul_comm y] at c
  unfold mn4 mx4
  omega
/-- bits -/
theorem ai_nn {x : Int32} (h : 0 ≤ x.toInt) : x.toInt = (x.toBitVec.toNat : Int) ∧ x.toBitVec.toNat < 2147483648 := by
  have h1 : x.toInt = x.toBitVec.toInt := rfl
  rw [h1, BitVec.toInt_eq_toNat_cond] at h ⊢
  have := x.toBitVec.isLt
  split at h <;> split <;> omega
theorem ai_of {x : Int32} (h : x.toBitVec.toNat < 2147483648) : x.toInt = (x.toBitVec.toNat : Int) := by
  have h1 : x.toInt = x.toBitVec.toInt := rfl
  rw [h1, BitVec.toInt_eq_toNat_cond]
  split <;> omega
theorem ai_and1 {x y : Int32} (h : 0 ≤ x.toInt) : 0 ≤ (x &&& y).toInt ∧ (x &&& y).toInt ≤ x.toInt := by
  obtain ⟨e, hl⟩ := ai_nn h
  have hb : (x &&& y).toBitVec.toNat = x.toBitVec.toNat &&& y.toBitVec.toNat := by rw [Int32.toBitVec_and, BitVec.toNat_and]
  have hle : x.toBitVec.toNat &&& y.toBitVec.toNat ≤ x.toBitVec.toNat := Nat.and_le_left
  rw [ai_of (x := x &&& y) (by omega), hb, e]
  omega
theorem ai_and2 {x y : Int32} (h : 0 ≤ y.toInt) : 0 ≤ (x &&& y).toInt ∧ (x &&& y).toInt ≤ y.toInt := by
  rw [Int32.and_comm]; exact ai_and1 h
theorem ai_or {x y : Int32} {k : Nat} (hx : 0 ≤ x.toInt) (hy : 0 ≤ y.toInt) (hk : k < 32) (h1 : x.toInt < 2 ^ k) (h2 : y.toInt < 2 ^ k) : x.toInt ≤ (x ||| y).toInt ∧ y.toInt ≤ (x ||| y).toInt ∧ (x ||| y).toInt < 2 ^ k := by
  obtain ⟨ex, lx⟩ := ai_nn hx
  obtain ⟨ey, ly⟩ := ai_nn hy
  have hp : (2 : Int) ^ k = ((2 ^ k : Nat) : Int) := by norm_cast
  rw [ex, hp] at h1
  rw [ey, hp] at h2
  have hb : (x ||| y).toBitVec.toNat = x.toBitVec.toNat ||| y.toBitVec.toNat := by rw [Int32.toBitVec_or, BitVec.toNat_or]
  have h3 : x.toBitVec.toNat ||| y.toBitVec.toNat < 2 ^ k := Nat.or_lt_two_pow (by omega) (by omega)
  have h4 : x.toBitVec.toNat ||| y.toBitVec.toNat < 2 ^ 31 := Nat.or_lt_two_pow (by omega) (by omega)
  have h5 : x.toBitVec.toNat ≤ x.toBitVec.toNat ||| y.toBitVec.toNat := Nat.left_le_or
  have h6 : y.toBitVec.toNat ≤ x.toBitVec.toNat ||| y.toBitVec.toNat := Nat.right_le_or
  rw [ai_of (x := x ||| y) (by omega), hb, ex, ey, hp]
  omega
theorem ai_xor {x y : Int32} {k : Nat} (hx : 0 ≤ x.toInt) (hy : 0 ≤ y.toInt) (h1 : x.toInt < 2 ^ k) (h2 : y.toInt < 2 ^ k) : 0 ≤ (x ^^^ y).toInt ∧ (x ^^^ y).toInt < 2 ^ k := by
  obtain ⟨ex, lx⟩ := ai_nn hx
  obtain ⟨ey, ly⟩ := ai_nn hy
  have hp : (2 : Int) ^ k = ((2 ^ k : Nat) : Int) := by norm_cast
  rw [ex, hp] at h1
  rw [ey, hp] at h2
  have hb : (x ^^^ y).toBitVec.toNat = x.toBitVec.toNat ^^^ y.toBitVec.toNat := by rw [Int32.toBitVec_xor, BitVec.toNat_xor]
  have h3 : x.toBitVec.toNat ^^^ y.toBitVec.toNat < 2 ^ k := Nat.xor_lt_two_pow (by omega) (by omega)
  have h4 : x.toBitVec.toNat ^^^ y.toBitVec.toNat < 2 ^ 31 := Nat.xor_lt_two_pow (by omega) (by omega)
  rw [ai_of (x := x ^^^ y) (by omega), hb, hp]
  omega
theorem ai_shn : ∀ n : Fin 32, ((Int32.ofNat n.1 &&& 31).toBitVec.smod 32).toNat = n.1 := by decide +kernel
theorem ai_ofn {y : Int32} (h1 : 0 ≤ y.toInt) : y = Int32.ofNat y.toInt.toNat := by
  apply Int32.toInt_inj.mp
  have := ai_hi y
  rw [Int32.toInt_ofNat_of_lt (by omega)]
  omega
theorem ai_shl {x y : Int32} (hx : 0 ≤ x.toInt) (hy : 0 ≤ y.toInt) (hy2 : y.toInt ≤ 31) (hm : x.toInt * 2 ^ y.toInt.toNat ≤ 2147483647) : (x <<< (y &&& 31)).toInt = x.toInt * 2 ^ y.toInt.toNat := by
  have hs := ai_shn ⟨y.toInt.toNat, by omega⟩
  simp only at hs
  rw [← ai_ofn hy] at hs
  obtain ⟨ex, lx⟩ := ai_nn hx
  have hp : (2 : Int) ^ y.toInt.toNat = ((2 ^ y.toInt.toNat : Nat) : Int) := by norm_cast
  have hb : (x <<< (y &&& 31)).toBitVec.toNat = x.toBitVec.toNat * 2 ^ y.toInt.toNat % 2 ^ 32 := by
    rw [Int32.toBitVec_shiftLeft, BitVec.shiftLeft_eq', BitVec.toNat_shiftLeft, hs, Nat.shiftLeft_eq]
  rw [ex, hp] at hm
  have hm' : x.toBitVec.toNat * 2 ^ y.toInt.toNat ≤ 2147483647 := Int.ofNat_le.mp (by rw [Int.natCast_mul]; exact hm)
  rw [Nat.mod_eq_of_lt (by omega)] at hb
  rw [ai_of (by omega), hb, ex, hp]
  exact Int.natCast_mul _ _
end
section
/-! THE EXECUTOR (second writing), part 4: fresh symbols, narrower intervals, relations -/
section AIP
variable {w : AW} {E : AEnv} {ρ : Nat → Int}
theorem as_grow {pc : Nat} {lv : List (Nat × AV)} {st : List AV} {iv : IV} {ex : AX} {σ : pm_S} {v lo hi : Int} (g : as_r w E ρ (pc, lv, st, iv, ex) σ) (h1 : lo ≤ v) (h2 : v ≤ hi) :
    as_r w E (iv_ext ρ iv.length v) (pc, lv, st, iv ++ [(lo, hi)], ex) σ ∧ av_ev (iv ++ [(lo, hi)]).length (iv_ext ρ iv.length v) (some iv.length) 0 v := by
  obtain ⟨g1, g2, g3, g4, g5⟩ := g
  dsimp only at g1 g2 g3 g4 g5
  have hle : iv.length ≤ (iv ++ [(lo, hi)]).length := by rw [List.length_append]; exact Nat.le_add_right _ _
  refine ⟨⟨ia_push g1 h1 h2, g2, fun i a hm => ?_, f2_mono (fun a b hab => av_g_mono hle iv_ext_old hab) g4, ex_g_mono hle iv_ext_old g5⟩, ?_, ?_⟩
  · obtain ⟨x, e1, e2⟩ := g3 i a hm
    exact ⟨x, e1, av_g_mono hle iv_ext_old e2⟩
  · rw [List.length_append]; exact Nat.lt_succ_self _
  · rw [iv_ext_new, Int.add_zero]
/-- an int, a long within bounds is pushed -/
noncomputable def a_pi (n : Nat) (lv : List (Nat × AV)) (st : List AV) (iv : IV) (ex : AX) (lo hi : Int) : AS := bif decide (lo = hi) then (n, lv, .inl (none, lo) :: st, iv, ex) else (n, lv, .inl (some iv.length, 0) :: st, iv ++ [(lo, hi)], ex)
noncomputable def a_pl (n : Nat) (lv : List (Nat × AV)) (st : List AV) (iv : IV) (ex : AX) (lo hi : Int) : AS := bif decide (lo = hi) then (n, lv, .inr (.inl (none, lo)) :: st, iv, ex) else (n, lv, .inr (.inl (some iv.length, 0)) :: st, iv ++ [(lo, hi)], ex)
theorem a_pi_ok {pc n : Nat} {lv : List (Nat × AV)} {st : List AV} {iv : IV} {ex : AX} {pc' : Nat} {cl : List (Nat × Value)} {cs : List Value} {W : pm_H × Nat × Nat} {v : Int32} {lo hi : Int} (g : as_r w E ρ (pc, lv, st, iv, ex) (pc', cl, cs, W)) (h1 : lo ≤ v.toInt) (h2 : v.toInt ≤ hi) : as_g w E (a_pi n lv st iv ex lo hi) (n, cl, .int v :: cs, W) := by
  unfold a_pi
  cases hb : decide (lo = hi) with
  | true =>
    have hb := of_decide_eq_true hb
    obtain ⟨g1, g2, g3, g4, g5⟩ := g
    exact ⟨ρ, g1, rfl, g3, ⟨(by show v.toInt = lo; omega), g4⟩, g5⟩
  | false =>
    obtain ⟨⟨g1, g2, g3, g4, g5⟩, e⟩ := as_grow g h1 h2
    exact ⟨_, g1, rfl, g3, ⟨e, g4⟩, g5⟩
theorem a_pl_ok {pc n : Nat} {lv : List (Nat × AV)} {st : List AV} {iv : IV} {ex : AX} {pc' : Nat} {cl : List (Nat × Value)} {cs : List Value} {W : pm_H × Nat × Nat} {v : Int64} {lo hi : Int} (g : as_r w E ρ (pc, lv, st, iv, ex) (pc', cl, cs, W)) (h1 : lo ≤ v.toInt) (h2 : v.toInt ≤ hi) : as_g w E (a_pl n lv st iv ex lo hi) (n, cl, .long v :: cs, W) := by
  unfold a_pl
  cases hb : decide (lo = hi) with
  | true =>
    have hb := of_decide_eq_true hb
    obtain ⟨g1, g2, g3, g4, g5⟩ := g
    exact ⟨ρ, g1, rfl, g3, ⟨(by show v.toInt = lo; omega), g4⟩, g5⟩
  | false =>
    obtain ⟨⟨g1, g2, g3, g4, g5⟩, e⟩ := as_grow g h1 h2
    exact ⟨_, g1, rfl, g3, ⟨e, g4⟩, g5⟩
theorem iv_at {iv : IV} {k : Nat} (h : k < iv.length) : ∃ l u, iv[k]? = some (l, u) := ⟨iv[k].1, iv[k].2, List.getElem?_eq_getElem h⟩
/-- a narrower interval -/
noncomputable def iv_nar (iv : IV) (k : Option Nat) (o lo hi : Int) : Option IV := match k with
  | none => bif decide (lo ≤ o) && decide (o ≤ hi) then some iv else none
  | some k => match iv[k]? with
    | some (l, u) => bif decide (max l (lo - o) ≤ min u (hi - o)) then some (iv.set k (max l (lo - o), min u (hi - o))) else none
    | none => none
theorem iv_nar_ok {iv : IV} {k : Option Nat} {o lo hi v : Int} (g : ia_g E ρ iv) (hv : av_ev iv.length ρ k o v) (h1 : lo ≤ v) (h2 : v ≤ hi) : ∃ iv', iv_nar iv k o lo hi = some iv' ∧ iv'.length = iv.length ∧ ia_g E ρ iv' := by
  cases k with
  | none =>
    have hv : v = o := hv
    subst hv
    refine ⟨iv, ?_, rfl, g⟩
    unfold iv_nar
    simp only [h1, h2, decide_true, Bool.and_self, cond_true]
  | some k =>
    obtain ⟨hk, hv⟩ := hv
    obtain ⟨l, u, hg⟩ := iv_at hk
    have hb := g.1 k l u hg
    have hle : max l (lo - o) ≤ min u (hi - o) := by omega
    refine ⟨iv.set k (max l (lo - o), min u (hi - o)), ?_, List.length_set, ⟨fun q a b hqq => ?_, by rw [List.length_set]; exact g.2.1, g.2.2⟩⟩
    · unfold iv_nar
      simp only [hg, hle, decide_true, cond_true]
    · by_cases hqk : k = q
      · subst hqk
        rw [List.getElem?_set_self hk] at hqq
        cases hqq
        omega
      · rw [List.getElem?_set_ne hqk] at hqq
        exact g.1 q a b hqq
theorem as_iv {pc : Nat} {lv : List (Nat × AV)} {st : List AV} {iv iv' : IV} {ex : AX} {σ : pm_S} (g : as_r w E ρ (pc, lv, st, iv, ex) σ) (hl : iv'.length = iv.length) (g1 : ia_g E ρ iv') : as_r w E ρ (pc, lv, st, iv', ex) σ := by
  obtain ⟨_, g2, g3, g4, g5⟩ := g
  dsimp only at g2 g3 g4 g5
  rw [← hl] at g3 g4 g5
  exact ⟨g1, g2, g3, g4, g5⟩
/-- one relation narrows its symbols -/
noncomputable def tg1 (c : Con) (iv : IV) : Option IV := match c with
  | .inl (s, a, b) => match iv[s]?, iv[a]?, iv[b]? with
    | some (sl, su), some (al, au), some (bl, bu) => match iv_nar iv (some s) 0 (al + bl) (au + bu) with
      | some iv => match iv_nar iv (some a) 0 (sl - bu) (su - bl) with
        | some iv => iv_nar iv (some b) 0 (sl - au) (su - al)
        | none => none
      | none => none
    | _, _, _ => some iv
  | .inr (a, b, c) => match iv[a]?, iv[b]? with
    | some (al, au), some (bl, bu) => match iv_nar iv (some a) 0 al (bu + c) with
      | some iv => iv_nar iv (some b) 0 (al - c) bu
      | none => none
    | _, _ => some iv
theorem tg1_ok {iv : IV} {c : Con} (g : ia_g E ρ iv) (hc : con_g iv.length ρ c) : ∃ iv', tg1 c iv = some iv' ∧ iv'.length = iv.length ∧ ia_g E ρ iv' := by
  rcases c with ⟨s, a, b⟩ | ⟨a, b, c⟩
  · obtain ⟨hs, ha, hb, he⟩ := hc
    obtain ⟨sl, su, es⟩ := iv_at hs
    obtain ⟨al, au, ea⟩ := iv_at ha
    obtain ⟨bl, bu, eb⟩ := iv_at hb
    have bs := g.1 s _ _ es
    have ba := g.1 a _ _ ea
    have bb := g.1 b _ _ eb
    unfold tg1
    simp only [es, ea, eb]
    obtain ⟨i1, e1, l1, g1⟩ := iv_nar_ok (k := some s) (o := 0) (v := ρ s) (lo := al + bl) (hi := au + bu) g ⟨hs, by omega⟩ (by omega) (by omega)
    obtain ⟨i2, e2, l2, g2⟩ := iv_nar_ok (k := some a) (o := 0) (v := ρ a) (lo := sl - bu) (hi := su - bl) g1 ⟨by omega, by omega⟩ (by omega) (by omega)
    obtain ⟨i3, e3, l3, g3⟩ := iv_nar_ok (k := some b) (o := 0) (v := ρ b) (lo := sl - au) (hi := su - al) g2 ⟨by omega, by omega⟩ (by omega) (by omega)
    rw [e1]
    simp only [e2]
    exact ⟨i3, e3, by omega, g3⟩
  · obtain ⟨ha, hb, he⟩ := hc
    obtain ⟨al, au, ea⟩ := iv_at ha
    obtain ⟨bl, bu, eb⟩ := iv_at hb
    have ba := g.1 a _ _ ea
    have bb := g.1 b _ _ eb
    unfold tg1
    simp only [ea, eb]
    obtain ⟨i1, e1, l1, g1⟩ := iv_nar_ok (k := some a) (o := 0) (v := ρ a) (lo := al) (hi := bu + c) g ⟨ha, by omega⟩ (by omega) (by omega)
    obtain ⟨i2, e2, l2, g2⟩ := iv_nar_ok (k := some b) (o := 0) (v := ρ b) (lo := al - c) (hi := bu) g1 ⟨by omega, by omega⟩ (by omega) (by omega)
    rw [e1]
    exact ⟨i2, e2, by omega, g2⟩
/-- all relations, once -/
noncomputable def tga : List Con → IV → Option IV
  | [], iv => some iv
  | c :: l, iv => match tg1 c iv with
    | some iv => tga l iv
    | none => none
theorem tga_ok : ∀ (l : List Con) (iv : IV), ia_g E ρ iv → (∀ c ∈ l, con_g iv.length ρ c) → ∃ iv', tga l iv = some iv' ∧ iv'.length = iv.length ∧ ia_g E ρ iv'
  | [], iv, g, _ => ⟨iv, rfl, rfl, g⟩
  | c :: l, iv, g, h => by
    obtain ⟨i1, e1, l1, g1⟩ := tg1_ok g (h c List.mem_cons_self)
    obtain ⟨i2, e2, l2, g2⟩ := tga_ok l i1 g1 (fun c hc => by rw [l1]; exact h c (List.mem_cons_of_mem _ hc))
    exact ⟨i2, by unfold tga; rw [e1]; exact e2, by omega, g2⟩
/-- a relation is added, if it does not speak against one that is there -/
noncomputable def con_bad (l : List Con) (a b : Nat) (c : Int) : Bool := l.any (fun q => match q with | .inr (a', b', c') => Nat.beq a a' && (Nat.beq b b' && false) || (Nat.beq a b' && (Nat.beq b a' && decide (c + c' < 0))) | _ => false)
theorem con_bad_ok {n : Nat} {l : List Con} {a b : Nat} {c : Int} (h : ∀ q ∈ l, con_g n ρ q) (hc : ρ a ≤ ρ b + c) : con_bad l a b c = false := by
  cases hb : con_bad l a b c with
  | false => rfl
  | true =>
    obtain ⟨q, hq, hp⟩ := List.any_eq_true.mp hb
    split at hp
    · rename_i a' b' c'
      simp only [Bool.and_false, Bool.false_or, Bool.and_eq_true, decide_eq_true_eq] at hp
      obtain ⟨h1, h2, h3⟩ := hp
      have h1 := Nat.eq_of_beq_eq_true h1
      have h2 := Nat.eq_of_beq_eq_true h2
      subst h1; subst h2
      have := (h _ hq).2.2
      omega
    · cases hp
/-- x + o ≤ y + p is taken in -/
noncomputable def br_le (iv : IV) (cs : List Con) (k1 : Option Nat) (o1 : Int) (k2 : Option Nat) (o2 : Int) : Option (IV × List Con) := match k1, k2 with
  | some a, some b => bif Nat.beq a b then (bif decide (o1 ≤ o2) then some (iv, cs) else none) else match iv_rng iv k1 o1, iv_rng iv k2 o2 with
    | some (l1, _), some (_, u2) => match iv_nar iv k1 o1 l1 u2 with
      | some iv => match iv_nar iv k2 o2 l1 u2 with
        | some iv => bif con_bad cs a b (o2 - o1) then none else match tga (.inr (a, b, o2 - o1) :: cs) iv with
          | some iv => some (iv, .inr (a, b, o2 - o1) :: cs)
          | none => none
        | none => none
      | none => none
    | _, _ => some (iv, cs)
  | _, _ => match iv_rng iv k1 o1, iv_rng iv k2 o2 with
    | some (l1, _), some (_, u2) => match iv_nar iv k1 o1 l1 u2 with
      | some iv => match iv_nar iv k2 o2 l1 u2 with
        | some iv => match tga cs iv with
          | some iv => some (iv, cs)
          | none => none
        | none => none
      | none => none
    | _, _ => some (iv, cs)
theorem br_le_ok {iv : IV} {cs : List Con} {k1 k2 : Option Nat} {o1 o2 x y : Int} (g : ia_g E ρ iv) (hc : ∀ c ∈ cs, con_g iv.length ρ c) (hx : av_ev iv.length ρ k1 o1 x) (hy : av_ev iv.length ρ k2 o2 y) (h : x ≤ y) :
    ∃ q : IV × List Con, br_le iv cs k1 o1 k2 o2 = some q ∧ q.1.length = iv.length ∧ ia_g E ρ q.1 ∧ ∀ c ∈ q.2, con_g iv.length ρ c := by
  have key : ∀ l1 u1 l2 u2, iv_rng iv k1 o1 = some (l1, u1) → iv_rng iv k2 o2 = some (l2, u2) → ∀ cs' : List Con, (∀ c ∈ cs', con_g iv.length ρ c) → ∃ i1, iv_nar iv k1 o1 l1 u2 = some i1 ∧ ∃ i2, iv_nar i1 k2 o2 l1 u2 = some i2 ∧ ∃ i3, tga cs' i2 = some i3 ∧ i3.length = iv.length ∧ ia_g E ρ i3 := by
    intro l1 u1 l2 u2 r1 r2 cs' hcs
    have b1 := iv_rng_ok g hx r1
    have b2 := iv_rng_ok g hy r2
    obtain ⟨i1, e1, n1, g1⟩ := iv_nar_ok g hx (lo := l1) (hi := u2) (by omega) (by omega)
    obtain ⟨i2, e2, n2, g2⟩ := iv_nar_ok (k := k2) (o := o2) (v := y) (lo := l1) (hi := u2) g1 (by rw [n1]; exact hy) (by omega) (by omega)
    obtain ⟨i3, e3, n3, g3⟩ := tga_ok cs' i2 g2 (fun c hc => by rw [n2, n1]; exact hcs c hc)
    exact ⟨i1, e1, i2, e2, i3, e3, by omega, g3⟩
  have rest : ∃ q : IV × List Con, (match iv_rng iv k1 o1, iv_rng iv k2 o2 with
    | some (l1, _), some (_, u2) => match iv_nar iv k1 o1 l1 u2 with
      | some iv => match iv_nar iv k2 o2 l1 u2 with
        | some iv => match tga cs iv with
          | some iv => some (iv, cs)
          | none => none
        | none => none
      | none => none
    | _, _ => some (iv, cs)) = some q ∧ q.1.length = iv.length ∧ ia_g E ρ q.1 ∧ ∀ c ∈ q.2, con_g iv.length ρ c := by
    split
    · rename_i l1 u1 l2 u2 r1 r2
      obtain ⟨i1, e1, i2, e2, i3, e3, n3, g3⟩ := key l1 u1 l2 u2 r1 r2 cs hc
      rw [e1]
      simp only [e2, e3]
      exact ⟨_, rfl, n3, g3, hc⟩
    · exact ⟨_, rfl, rfl, g, hc⟩
  unfold br_le
  cases k1 with
  | none => exact rest
  | some a =>
    cases k2 with
    | none => exact rest
    | some b =>
      dsimp only
      cases hab : Nat.beq a b with
      | true =>
        have hab := Nat.eq_of_beq_eq_true hab
        subst hab
        have h1 := hx.2
        have h2 := hy.2
        have ho : o1 ≤ o2 := by omega
        simp only [ho, decide_true, cond_true]
        exact ⟨_, rfl, rfl, g, hc⟩
      | false =>
        simp only [cond_false]
        split
        · rename_i l1 u1 l2 u2 r1 r2
          have h1 := hx.2
          have h2 := hy.2
          have hle : ρ a ≤ ρ b + (o2 - o1) := by omega
          have hcs : ∀ c ∈ ((.inr (a, b, o2 - o1) : Con) :: cs), con_g iv.length ρ c := by
            intro c hm
            cases List.mem_cons.mp hm with
            | inl e => subst e; exact ⟨hx.1, hy.1, hle⟩
            | inr hm => exact hc c hm
          obtain ⟨i1, e1, i2, e2, i3, e3, n3, g3⟩ := key l1 u1 l2 u2 r1 r2 _ hcs
          rw [e1]
          simp only [e2, e3, con_bad_ok hc hle, cond_false]
          exact ⟨_, rfl, n3, g3, hcs⟩
        · exact ⟨_, rfl, rfl, g, hc⟩
/-- x + o ≠ y + p is taken in: the ends are trimmed -/
noncomputable def br_ne (iv : IV) (k1 : Option Nat) (o1 : Int) (k2 : Option Nat) (o2 : Int) : Option IV := match iv_rng iv k1 o1, iv_rng iv k2 o2 with
  | some (l1, u1), some (l2, u2) =>
    bif decide (l2 = u2) then iv_nar iv k1 o1 (bif decide (l1 = l2) then l1 + 1 else l1) (bif decide (u1 = l2) then u1 - 1 else u1)
    else (bif decide (l1 = u1) then iv_nar iv k2 o2 (bif decide (l2 = l1) then l2 + 1 else l2) (bif decide (u2 = l1) then u2 - 1 else u2) else some iv)
  | _, _ => some iv
theorem br_ne_ok {iv : IV} {k1 k2 : Option Nat} {o1 o2 x y : Int} (g : ia_g E ρ iv) (hx : av_ev iv.length ρ k1 o1 x) (hy : av_ev iv.length ρ k2 o2 y) (h : ¬ x = y) : ∃ iv', br_ne iv k1 o1 k2 o2 = some iv' ∧ iv'.length = iv.length ∧ ia_g E ρ iv' := by
  unfold br_ne
  split
  · rename_i l1 u1 l2 u2 r1 r2
    have b1 := iv_rng_ok g hx r1
    have b2 := iv_rng_ok g hy r2
    cases h1 : decide (l2 = u2) with
    | true =>
      have h1 := of_decide_eq_true h1
      refine iv_nar_ok g hx ?_ ?_
      · cases h2 : decide (l1 = l2) with
        | true => have h2 := of_decide_eq_true h2; show l1 + 1 ≤ x; omega
        | false => exact b1.1
      · cases h2 : decide (u1 = l2) with
        | true => have h2 := of_decide_eq_true h2; show x ≤ u1 - 1; omega
        | false => exact b1.2
    | false =>
      cases h3 : decide (l1 = u1) with
      | true =>
        have h3 := of_decide_eq_true h3
        refine iv_nar_ok g hy ?_ ?_
        · cases h2 : decide (l2 = l1) with
          | true => have h2 := of_decide_eq_true h2; show l2 + 1 ≤ y; omega
          | false => exact b2.1
        · cases h2 : decide (u2 = l1) with
          | true => have h2 := of_decide_eq_true h2; show y ≤ u2 - 1; omega
          | false => exact b2.2
      | false => exact ⟨iv, rfl, rfl, g⟩
  · exact ⟨iv, rfl, rfl, g⟩
end AIP
end
section
/-! THE EXECUTOR (second writing), part 5: operations on numbers -/
section AIO
variable {w : AW}
theorem ai_ofi {x : Int32} {l : Int} (h : x.toInt = l) : x = Int32.ofInt l := by rw [← h, Int32.ofInt_toInt]
theorem al_ofi {x : Int64} {l : Int} (h : x.toInt = l) : x = Int64.ofInt l := by rw [← h, Int64.ofInt_toInt]
/-- two ints: exact, or by bounds -/
noncomputable def bo (op : Int32 → Int32 → Int32) (f : Int → Int → Int → Int → Int × Int) (l1 u1 l2 u2 : Int) : Int × Int := bif decide (l1 = u1) && decide (l2 = u2) then ((op (Int32.ofInt l1) (Int32.ofInt l2)).toInt, (op (Int32.ofInt l1) (Int32.ofInt l2)).toInt) else f l1 u1 l2 u2
noncomputable def bo_ok (op : Int32 → Int32 → Int32) (f : Int → Int → Int → Int → Int × Int) : Prop := ∀ (x y : Int32) (l1 u1 l2 u2 : Int), l1 ≤ x.toInt → x.toInt ≤ u1 → l2 ≤ y.toInt → y.toInt ≤ u2 → (f l1 u1 l2 u2).1 ≤ (op x y).toInt ∧ (op x y).toInt ≤ (f l1 u1 l2 u2).2
theorem bo_okx {op : Int32 → Int32 → Int32} {f : Int → Int → Int → Int → Int × Int} (h : bo_ok op f) : bo_ok op (bo op f) := by
  intro x y l1 u1 l2 u2 h1 h2 h3 h4
  unfold bo
  cases hb : (decide (l1 = u1) && decide (l2 = u2)) with
  | false => exact h x y l1 u1 l2 u2 h1 h2 h3 h4
  | true =>
    simp only [Bool.and_eq_true, decide_eq_true_eq] at hb
    rw [← ai_ofi (x := x) (l := l1) (by omega), ← ai_ofi (x := y) (l := l2) (by omega)]
    exact ⟨Int.le_refl _, Int.le_refl _⟩
noncomputable def a_bin (f : Int → Int → Int → Int → Int × Int) (n : Nat) : AS → Option (List AS) := fun A => match A.2.2.1 with
  | .inl (k2, o2) :: .inl (k1, o1) :: st => match iv_rng A.2.2.2.1 k1 o1, iv_rng A.2.2.2.1 k2 o2 with
    | some (l1, u1), some (l2, u2) => some [a_pi n A.2.1 st A.2.2.2.1 A.2.2.2.2 (f l1 u1 l2 u2).1 (f l1 u1 l2 u2).2]
    | _, _ => none
  | _ => none
theorem a_bin_ok {op : Int32 → Int32 → Int32} {f : Int → Int → Int → Int → Int × Int} (n : Nat) (hf : bo_ok op f) : ai_ok w (s_bin op n) (a_bin f n) := by
  rintro E ⟨pc, lv, st, iv, ex⟩ ⟨pc', cl, cs, W⟩ As ⟨ρ, g1, g2, g3, g4, g5⟩ h
  simp only [a_bin] at h
  split at h
  · rename_i k2 o2 k1 o1 st'
    split at h
    · rename_i l1 u1 l2 u2 r1 r2
      cases h
      obtain ⟨v, cs, rfl, ha, hr0⟩ := f2_cons g4
      obtain ⟨u, cs, rfl, hc, hr⟩ := f2_cons hr0
      obtain ⟨y, rfl, ha⟩ := av_int ha
      obtain ⟨x, rfl, hc⟩ := av_int hc
      have b1 := iv_rng_ok g1 hc r1
      have b2 := iv_rng_ok g1 ha r2
      have hq := hf x y l1 u1 l2 u2 b1.1 b1.2 b2.1 b2.2
      exact ⟨_, rfl, _, List.mem_singleton_self _, a_pi_ok (pc := pc) (pc' := pc') ⟨g1, g2, g3, hr, g5⟩ hq.1 hq.2⟩
    · cases h
  · cases h
noncomputable def a_div (f : Int → Int → Int → Int → Int × Int) (n : Nat) : AS → Option (List AS) := fun A => match A.2.2.1 with
  | .inl (k2, o2) :: .inl (k1, o1) :: st => match iv_rng A.2.2.2.1 k1 o1, iv_rng A.2.2.2.1 k2 o2 with
    | some (l1, u1), some (l2, u2) => bif decide (0 < l2) then some [a_pi n A.2.1 st A.2.2.2.1 A.2.2.2.2 (f l1 u1 l2 u2).1 (f l1 u1 l2 u2).2] else none
    | _, _ => none
  | _ => none
noncomputable def bd_ok (op : Int32 → Int32 → Int32) (f : Int → Int → Int → Int → Int × Int) : Prop := ∀ (x y : Int32) (l1 u1 l2 u2 : Int), 0 < l2 → l1 ≤ x.toInt → x.toInt ≤ u1 → l2 ≤ y.toInt → y.toInt ≤ u2 → (f l1 u1 l2 u2).1 ≤ (op x y).toInt ∧ (op x y).toInt ≤ (f l1 u1 l2 u2).2
theorem bd_okx {op : Int32 → Int32 → Int32} {f : Int → Int → Int → Int → Int × Int} (h : bd_ok op f) : bd_ok op (bo op f) := by
  intro x y l1 u1 l2 u2 h0 h1 h2 h3 h4
  unfold bo
  cases hb : (decide (l1 = u1) && decide (l2 = u2)) with
  | false => exact h x y l1 u1 l2 u2 h0 h1 h2 h3 h4
  | true =>
    simp only [Bool.and_eq_true, decide_eq_true_eq] at hb
    rw [← ai_ofi (x := x) (l := l1) (by omega), ← ai_ofi (x := y) (l := l2) (by omega)]
    exact ⟨Int.le_refl _, Int.le_refl _⟩
theorem a_div_ok {op : Int32 → Int32 → Int32} {f : Int → Int → Int → Int → Int × Int} (n : Nat) (hf : bd_ok op f) : ai_ok w (s_div op n) (a_div f n) := by
  rintro E ⟨pc, lv, st, iv, ex⟩ ⟨pc', cl, cs, W⟩ As ⟨ρ, g1, g2, g3, g4, g5⟩ h
  simp only [a_div] at h
  split at h
  · rename_i k2 o2 k1 o1 st'
    split at h
    · rename_i l1 u1 l2 u2 r1 r2
      cases hb : decide (0 < l2) with
      | false => rw [hb] at h; cases h
      | true =>
        rw [hb] at h
        have hb := of_decide_eq_true hb
        cases h
        obtain ⟨v, cs, rfl, ha, hr0⟩ := f2_cons g4
        obtain ⟨u, cs, rfl, hc, hr⟩ := f2_cons hr0
        obtain ⟨y, rfl, ha⟩ := av_int ha
        obtain ⟨x, rfl, hc⟩ := av_int hc
        have b1 := iv_rng_ok g1 hc r1
        have b2 := iv_rng_ok g1 ha r2
        have hq := hf x y l1 u1 l2 u2 hb b1.1 b1.2 b2.1 b2.2
        have hy : ¬ y = 0 := by
          intro e
          subst e
          have : (0 : Int32).toInt = 0 := rfl
          omega
        exact ⟨(n, cl, .int (op x y) :: cs, W), by simp only [s_div, if_neg hy], _, List.mem_singleton_self _, a_pi_ok (pc := pc) (pc' := pc') ⟨g1, g2, g3, hr, g5⟩ hq.1 hq.2⟩
    · cases h
  · cases h
/-- bounds of each operation -/
noncomputable def fb_top (_ _ _ _ : Int) : Int × Int := (-2147483648, 2147483647)
theorem fb_top_ok (op : Int32 → Int32 → Int32) : bo_ok op fb_top := fun _ _ _ _ _ _ _ _ _ _ => ⟨ai_lo _, ai_hi _⟩
noncomputable def fb_mul (l1 u1 l2 u2 : Int) : Int × Int := ai_bnd (mn4 (l1 * l2) (l1 * u2) (u1 * l2) (u1 * u2)) (mx4 (l1 * l2) (l1 * u2) (u1 * l2) (u1 * u2))
theorem fb_mul_ok : bo_ok (fun x y => x * y) fb_mul := by
  intro x y l1 u1 l2 u2 h1 h2 h3 h4
  have hm := mul_rg h1 h2 h3 h4
  refine ai_bnd_ok (fun hb => ?_)
  have hi := ai_in_ok hb
  show _ ≤ (x * y).toInt ∧ (x * y).toInt ≤ _
  rw [ai_mul (by omega) (by omega)]
  exact hm
noncomputable def fb_and (l1 u1 l2 u2 : Int) : Int × Int := bif decide (0 ≤ l1) then (0, bif decide (0 ≤ l2) then min u1 u2 else u1) else (bif decide (0 ≤ l2) then (0, u2) else (-2147483648, 2147483647))
theorem fb_and_ok : bo_ok (fun x y => x &&& y) fb_and := by
  intro x y l1 u1 l2 u2 h1 h2 h3 h4
  unfold fb_and
  cases ha : decide (0 ≤ l1) with
  | true =>
    have ha := of_decide_eq_true ha
    have q1 := ai_and1 (x := x) (y := y) (by omega)
    cases hb : decide (0 ≤ l2) with
    | true =>
      have hb := of_decide_eq_true hb
      have q2 := ai_and2 (x := x) (y := y) (by omega)
      show 0 ≤ (x &&& y).toInt ∧ (x &&& y).toInt ≤ min u1 u2
      omega
    | false => show 0 ≤ (x &&& y).toInt ∧ (x &&& y).toInt ≤ u1; omega
  | false =>
    cases hb : decide (0 ≤ l2) with
    | true =>
      have hb := of_decide_eq_true hb
      have q2 := ai_and2 (x := x) (y := y) (by omega)
      show 0 ≤ (x &&& y).toInt ∧ (x &&& y).toInt ≤ u2
      omega
    | false => exact ⟨ai_lo _, ai_hi _⟩
/-- how many bits -/
noncomputable def fb_k (u1 u2 : Int) : Nat := Nat.log2 (max u1 u2).toNat + 1
theorem fb_k_lt {u1 u2 : Int} : u1 < 2 ^ fb_k u1 u2 ∧ u2 < 2 ^ fb_k u1 u2 := by
  have h : (max u1 u2).toNat < 2 ^ fb_k u1 u2 := Nat.lt_log2_self
  have hp : (2 : Int) ^ fb_k u1 u2 = ((2 ^ fb_k u1 u2 : Nat) : Int) := by norm_cast
  rw [hp]
  omega
noncomputable def fb_or (l1 u1 l2 u2 : Int) : Int × Int := bif (decide (0 ≤ l1) && decide (0 ≤ l2)) && Nat.blt (fb_k u1 u2) 32 then (max l1 l2, 2 ^ fb_k u1 u2 - 1) else (-2147483648, 2147483647)
theorem fb_or_ok : bo_ok (fun x y => x ||| y) fb_or := by
  intro x y l1 u1 l2 u2 h1 h2 h3 h4
  unfold fb_or
  cases hb : ((decide (0 ≤ l1) && decide (0 ≤ l2)) && Nat.blt (fb_k u1 u2) 32) with
  | false => exact ⟨ai_lo _, ai_hi _⟩
  | true =>
    simp only [Bool.and_eq_true, decide_eq_true_eq] at hb
    have hk : fb_k u1 u2 < 32 := Nat.le_of_ble_eq_true hb.2
    have hl := fb_k_lt (u1 := u1) (u2 := u2)
    have q := ai_or (x := x) (y := y) (by omega) (by omega) hk (by omega) (by omega)
    show max l1 l2 ≤ (x ||| y).toInt ∧ (x ||| y).toInt ≤ 2 ^ fb_k u1 u2 - 1
    omega
noncomputable def fb_xor (l1 u1 l2 u2 : Int) : Int × Int := bif (decide (0 ≤ l1) && decide (0 ≤ l2)) && Nat.blt (fb_k u1 u2) 32 then (0, 2 ^ fb_k u1 u2 - 1) else (-2147483648, 2147483647)
theorem fb_xor_ok : bo_ok (fun x y => x ^^^ y) fb_xor := by
  intro x y l1 u1 l2 u2 h1 h2 h3 h4
  unfold fb_xor
  cases hb : ((decide (0 ≤ l1) && decide (0 ≤ l2)) && Nat.blt (fb_k u1 u2) 32) with
  | false => exact ⟨ai_lo _, ai_hi _⟩
  | true =>
    simp only [Bool.and_eq_true, decide_eq_true_eq] at hb
    have hl := fb_k_lt (u1 := u1) (u2 := u2)
    have q := ai_xor (x := x) (y := y) (k := fb_k u1 u2) (by omega) (by omega) (by omega) (by omega)
    show 0 ≤ (x ^^^ y).toInt ∧ (x ^^^ y).toInt ≤ 2 ^ fb_k u1 u2 - 1
    omega
noncomputable def fb_shl (l1 u1 l2 u2 : Int) : Int × Int := bif ((decide (0 ≤ l1) && decide (0 ≤ l2)) && decide (u2 ≤ 31)) && decide (u1 * 2 ^ u2.toNat ≤ 2147483647) then (l1 * 2 ^ l2.toNat, u1 * 2 ^ u2.toNat) else (-2147483648, 2147483647)
theorem pw_mono {a b : Nat} (h : a ≤ b) : (2 : Int) ^ a ≤ 2 ^ b := by
  have h1 : (2 : Nat) ^ a ≤ 2 ^ b := Nat.pow_le_pow_right (by decide) h
  have ha : (2 : Int) ^ a = ((2 ^ a : Nat) : Int) := by norm_cast
  have hb : (2 : Int) ^ b = ((2 ^ b : Nat) : Int) := by norm_cast
  omega
theorem pw_pos (a : Nat) : (0 : Int) < 2 ^ a := by
  have h1 : 0 < (2 : Nat) ^ a := Nat.pow_pos (by decide)
  have ha : (2 : Int) ^ a = ((2 ^ a : Nat) : Int) := by norm_cast
  omega
theorem fb_shl_ok : bo_ok (fun x y => x <<< (y &&& 31)) fb_shl := by
  intro x y l1 u1 l2 u2 h1 h2 h3 h4
  unfold fb_shl
  cases hb : (((decide (0 ≤ l1) && decide (0 ≤ l2)) && decide (u2 ≤ 31)) && decide (u1 * 2 ^ u2.toNat ≤ 2147483647)) with
  | false => exact ⟨ai_lo _, ai_hi _⟩
  | true =>
    simp only [Bool.and_eq_true, decide_eq_true_eq] at hb
    obtain ⟨⟨⟨b1, b2⟩, b3⟩, b4⟩ := hb
    have p1 := pw_mono (a := l2.toNat) (b := y.toInt.toNat) (by omega)
    have p2 := pw_mono (a := y.toInt.toNat) (b := u2.toNat) (by omega)
    have z1 := pw_pos l2.toNat
    have z2 := pw_pos y.toInt.toNat
    have z3 := pw_pos u2.toNat
    have m1 : l1 * 2 ^ l2.toNat ≤ x.toInt * 2 ^ y.toInt.toNat := Int.mul_le_mul h1 p1 (by omega) (by omega)
    have m2 : x.toInt * 2 ^ y.toInt.toNat ≤ u1 * 2 ^ u2.toNat := Int.mul_le_mul h2 p2 (by omega) (by omega)
    have e := ai_shl (x := x) (y := y) (by omega) (by omega) (by omega) (by omega)
    show l1 * 2 ^ l2.toNat ≤ (x <<< (y &&& 31)).toInt ∧ (x <<< (y &&& 31)).toInt ≤ u1 * 2 ^ u2.toNat
    rw [e]
    exact ⟨m1, m2⟩
/-- quotient and rest, the divisor positive -/
theorem ai_div {x y : Int32} (hy : 0 < y.toInt) : (x / y).toInt = x.toInt.tdiv y.toInt ∧ -2147483648 ≤ x.toInt.tdiv y.toInt ∧ x.toInt.tdiv y.toInt ≤ 2147483647 := by
  have l := ai_lo x
  have u := ai_hi x
  have hb : -2147483648 ≤ x.toInt.tdiv y.toInt ∧ x.toInt.tdiv y.toInt ≤ 2147483647 := by
    by_cases hx : 0 ≤ x.toInt
    · have a := Int.tdiv_nonneg hx (Int.le_of_lt hy)
      have b := Int.tdiv_le_self y.toInt hx
      omega
    · have a := Int.tdiv_nonneg (a := -x.toInt) (b := y.toInt) (by omega) (Int.le_of_lt hy)
      have b := Int.tdiv_le_self (a := -x.toInt) y.toInt (by omega)
      rw [Int.neg_tdiv] at a b
      omega
  rw [Int32.toInt_div]
  exact ⟨ai_bmod hb.1 hb.2, hb.1, hb.2⟩
theorem ai_rem {x y : Int32} (hy : 0 < y.toInt) : (x - x / y * y).toInt = x.toInt.tmod y.toInt := by
  obtain ⟨e, -, -⟩ := ai_div (x := x) hy
  have l := ai_lo x
  have u := ai_hi x
  have d := Int.tmod_def x.toInt y.toInt
  have t1 := Int.tmod_lt_of_pos x.toInt hy
  have t2 := Int.lt_tmod_of_pos x.toInt hy
  have hm : x.toInt.tdiv y.toInt * y.toInt = x.toInt - x.toInt.tmod y.toInt := by rw [Int.mul_comm]; omega
  have hs : (0 ≤ x.toInt → 0 ≤ x.toInt.tmod y.toInt ∧ x.toInt.tmod y.toInt ≤ x.toInt) ∧ (x.toInt ≤ 0 → x.toInt.tmod y.toInt ≤ 0 ∧ x.toInt ≤ x.toInt.tmod y.toInt) := by
    constructor
    · intro hx
      refine ⟨Int.tmod_nonneg _ hx, ?_⟩
      have := Int.tdiv_nonneg hx (Int.le_of_lt hy)
      have := Int.mul_nonneg this (Int.le_of_lt hy)
      omega
    · intro hx
      have a := Int.tmod_nonneg (a := -x.toInt) y.toInt (by omega)
      rw [Int.neg_tmod] at a
      have b := Int.tdiv_nonneg (a := -x.toInt) (b := y.toInt) (by omega) (Int.le_of_lt hy)
      have c := Int.mul_nonneg b (Int.le_of_lt hy)
      rw [Int.neg_tdiv, Int.neg_mul] at c
      omega
  have h1 : (x / y * y).toInt = x.toInt.tdiv y.toInt * y.toInt := by
    rw [ai_mul (x := x / y) (y := y)] <;> rw [e]
    · by_cases hx : 0 ≤ x.toInt
      · have := hs.1 hx; omega
      · have := hs.2 (by omega); omega
    · by_cases hx : 0 ≤ x.toInt
      · have := hs.1 hx; omega
      · have := hs.2 (by omega); omega
  rw [ai_sub (x := x) (y := x / y * y)] <;> rw [h1]
  · omega
  · have := ai_lo y; have := ai_hi y; omega
  · have := ai_lo y; have := ai_hi y; omega
noncomputable def fb_div (l1 u1 _ _ : Int) : Int × Int := bif decide (0 ≤ l1) then (0, u1) else (-2147483648, 2147483647)
theorem fb_div_ok : bd_ok (fun x y => x / y) fb_div := by
  intro x y l1 u1 l2 u2 h0 h1 h2 h3 h4
  unfold fb_div
  cases hb : decide (0 ≤ l1) with
  | false => exact ⟨ai_lo _, ai_hi _⟩
  | true =>
    have hb := of_decide_eq_true hb
    have e := (ai_div (x := x) (y := y) (by omega)).1
    have a := Int.tdiv_nonneg (a := x.toInt) (b := y.toInt) (by omega) (by omega)
    have b := Int.tdiv_le_self (a := x.toInt) y.toInt (by omega)
    show 0 ≤ (x / y).toInt ∧ (x / y).toInt ≤ u1
    rw [e]
    omega
noncomputable def fb_rem (l1 u1 _ u2 : Int) : Int × Int := bif decide (0 ≤ l1) then (0, min u1 (u2 - 1)) else (-(u2 - 1), u2 - 1)
theorem fb_rem_ok : bd_ok (fun x y => x - x / y * y) fb_rem := by
  intro x y l1 u1 l2 u2 h0 h1 h2 h3 h4
  unfold fb_rem
  have hy : 0 < y.toInt := by omega
  have t1 := Int.tmod_lt_of_pos x.toInt hy
  have t2 := Int.lt_tmod_of_pos x.toInt hy
  cases hb : decide (0 ≤ l1) with
  | false =>
    show -(u2 - 1) ≤ (x - x / y * y).toInt ∧ (x - x / y * y).toInt ≤ u2 - 1
    rw [ai_rem hy]
    omega
  | true =>
    have hb := of_decide_eq_true hb
    have a := Int.tmod_nonneg (a := x.toInt) y.toInt (by omega)
    have d := Int.tmod_def x.toInt y.toInt
    have c := Int.mul_nonneg (Int.le_of_lt hy) (Int.tdiv_nonneg (a := x.toInt) (b := y.toInt) (by omega) (by omega))
    show 0 ≤ (x - x / y * y).toInt ∧ (x - x / y * y).toInt ≤ min u1 (u2 - 1)
    rw [ai_rem hy]
    omega
end AIO
end
section
/-! THE EXECUTOR (second writing), part 6: sums, longs, branches -/
section AIQ
variable {w : AW}
theorem av_ev_add {n : Nat} {ρ : Nat → Int} {k : Option Nat} {o v d : Int} (h : av_ev n ρ k o v) : av_ev n ρ k (o + d) (v + d) := by
  cases k with
  | none => exact congrArg (· + d) h
  | some k => exact ⟨h.1, by have := h.2; show v + d = ρ k + (o + d); omega⟩
theorem av_ev_sub {n : Nat} {ρ : Nat → Int} {k : Option Nat} {o v d : Int} (h : av_ev n ρ k o v) : av_ev n ρ k (o - d) (v - d) := by
  rw [show o - d = o + -d by omega, show v - d = v + -d by omega]
  exact av_ev_add h
/-- the symbol of a sum that is known -/
noncomputable def con_sum (cs : List Con) (a b : Nat) : Option Nat := match cs with
  | [] => none
  | .inl (s, p, q) :: l => bif (Nat.beq p a && Nat.beq q b) || (Nat.beq p b && Nat.beq q a) then some s else con_sum l a b
  | _ :: l => con_sum l a b
theorem con_sum_ok {n : Nat} {ρ : Nat → Int} {a b s : Nat} : ∀ {cs : List Con}, (∀ c ∈ cs, con_g n ρ c) → con_sum cs a b = some s → s < n ∧ ρ s = ρ a + ρ b
  | [], _, h => by cases h
  | .inr _ :: l, hc, h => con_sum_ok (cs := l) (fun c hm => hc c (List.mem_cons_of_mem _ hm)) h
  | .inl (s', p, q) :: l, hc, h => by
    unfold con_sum at h
    cases hb : ((Nat.beq p a && Nat.beq q b) || (Nat.beq p b && Nat.beq q a)) with
    | false =>
      rw [hb] at h
      exact con_sum_ok (cs := l) (fun c hm => hc c (List.mem_cons_of_mem _ hm)) h
    | true =>
      rw [hb] at h
      cases h
      obtain ⟨h1, h2, h3, h4⟩ := hc _ List.mem_cons_self
      simp only [Bool.or_eq_true, Bool.and_eq_true] at hb
      rcases hb with ⟨e1, e2⟩ | ⟨e1, e2⟩
      · have e1 := Nat.eq_of_beq_eq_true e1
        have e2 := Nat.eq_of_beq_eq_true e2
        subst e1; subst e2
        exact ⟨h1, h4⟩
      · have e1 := Nat.eq_of_beq_eq_true e1
        have e2 := Nat.eq_of_beq_eq_true e2
        subst e1; subst e2
        exact ⟨h1, by omega⟩
/-- the symbol of a difference that is known -/
noncomputable def con_dif (cs : List Con) (a b : Nat) : Option Nat := match cs with
  | [] => none
  | .inl (s, p, q) :: l => bif Nat.beq s a && Nat.beq q b then some p else (bif Nat.beq s a && Nat.beq p b then some q else con_dif l a b)
  | _ :: l => con_dif l a b
theorem con_dif_ok {n : Nat} {ρ : Nat → Int} {a b s : Nat} : ∀ {cs : List Con}, (∀ c ∈ cs, con_g n ρ c) → con_dif cs a b = some s → s < n ∧ ρ s = ρ a - ρ b
  | [], _, h => by cases h
  | .inr _ :: l, hc, h => con_dif_ok (cs := l) (fun c hm => hc c (List.mem_cons_of_mem _ hm)) h
  | .inl (s', p, q) :: l, hc, h => by
    unfold con_dif at h
    obtain ⟨h1, h2, h3, h4⟩ := hc _ List.mem_cons_self
    cases hb : (Nat.beq s' a && Nat.beq q b) with
    | true =>
      rw [hb] at h
      cases h
      rw [Bool.and_eq_true] at hb
      have e1 := Nat.eq_of_beq_eq_true hb.1
      have e2 := Nat.eq_of_beq_eq_true hb.2
      subst e1; subst e2
      exact ⟨h2, by omega⟩
    | false =>
      rw [hb, cond_false] at h
      cases hd : (Nat.beq s' a && Nat.beq p b) with
      | true =>
        rw [hd] at h
        cases h
        rw [Bool.and_eq_true] at hd
        have e1 := Nat.eq_of_beq_eq_true hd.1
        have e2 := Nat.eq_of_beq_eq_true hd.2
        subst e1; subst e2
        exact ⟨h3, by omega⟩
      | false =>
        rw [hd] at h
        exact con_dif_ok (cs := l) (fun c hm => hc c (List.mem_cons_of_mem _ hm)) h
/-- bounds of a difference by relations -/
noncomputable def con_lo (cs : List Con) (a b : Nat) (lo : Int) : Int := match cs with
  | [] => lo
  | .inr (p, q, c) :: l => con_lo l a b (bif Nat.beq p b && Nat.beq q a then max lo (-c) else lo)
  | _ :: l => con_lo l a b lo
noncomputable def con_hi (cs : List Con) (a b : Nat) (hi : Int) : Int := match cs with
  | [] => hi
  | .inr (p, q, c) :: l => con_hi l a b (bif Nat.beq p a && Nat.beq q b then min hi c else hi)
  | _ :: l => con_hi l a b hi
theorem con_lo_ok {n : Nat} {ρ : Nat → Int} {a b : Nat} : ∀ {cs : List Con} {lo : Int}, (∀ c ∈ cs, con_g n ρ c) → lo ≤ ρ a - ρ b → con_lo cs a b lo ≤ ρ a - ρ b
  | [], _, _, h => h
  | .inl _ :: l, _, hc, h => con_lo_ok (cs := l) (fun c hm => hc c (List.mem_cons_of_mem _ hm)) h
  | .inr (p, q, c) :: l, lo, hc, h => by
    refine con_lo_ok (cs := l) (fun c hm => hc c (List.mem_cons_of_mem _ hm)) ?_
    cases hb : (Nat.beq p b && Nat.beq q a) with
    | false => exact h
    | true =>
      rw [Bool.and_eq_true] at hb
      have e1 := Nat.eq_of_beq_eq_true hb.1
      have e2 := Nat.eq_of_beq_eq_true hb.2
      subst e1; subst e2
      have := (hc _ List.mem_cons_self).2.2
      show max lo (-c) ≤ _
      omega
theorem con_hi_ok {n : Nat} {ρ : Nat → Int} {a b : Nat} : ∀ {cs : List Con} {hi : Int}, (∀ c ∈ cs, con_g n ρ c) → ρ a - ρ b ≤ hi → ρ a - ρ b ≤ con_hi cs a b hi
  | [], _, _, h => h
  | .inl _ :: l, _, hc, h => con_hi_ok (cs := l) (fun c hm => hc c (List.mem_cons_of_mem _ hm)) h
  | .inr (p, q, c) :: l, hi, hc, h => by
    refine con_hi_ok (cs := l) (fun c hm => hc c (List.mem_cons_of_mem _ hm)) ?_
    cases hb : (Nat.beq p a && Nat.beq q b) with
    | false => exact h
    | true =>
      rw [Bool.and_eq_true] at hb
      have e1 := Nat.eq_of_beq_eq_true hb.1
      have e2 := Nat.eq_of_beq_eq_true hb.2
      subst e1; subst e2
      have := (hc _ List.mem_cons_self).2.2
      show _ ≤ min hi c
      omega
/-- a fresh symbol that stands in a sum -/
noncomputable def a_pc (n : Nat) (lv : List (Nat × AV)) (st : List AV) (iv : IV) (ex : AX) (lo hi o : Int) (c : Nat → Con) : AS := bif decide (lo = hi) then (n, lv, .inl (none, lo + o) :: st, iv, ex) else (n, lv, .inl (some iv.length, o) :: st, iv ++ [(lo, hi)], ex.1, c iv.length :: ex.2.1, ex.2.2)
theorem a_pc_ok {E : AEnv} {ρ : Nat → Int} {pc n : Nat} {lv : List (Nat × AV)} {st : List AV} {iv : IV} {ex : AX} {pc' : Nat} {cl : List (Nat × Value)} {cs : List Value} {W : pm_H × Nat × Nat} {v : Int32} {lo hi o : Int} {c : Nat → Con} (g : as_r w E ρ (pc, lv, st, iv, ex) (pc', cl, cs, W)) (h1 : lo + o ≤ v.toInt) (h2 : v.toInt ≤ hi + o)
    (hc : ∀ ρ' : Nat → Int, (∀ q, q < iv.length → ρ' q = ρ q) → ρ' iv.length + o = v.toInt → con_g (iv.length + 1) ρ' (c iv.length)) : as_g w E (a_pc n lv st iv ex lo hi o c) (n, cl, .int v :: cs, W) := by
  unfold a_pc
  cases hb : decide (lo = hi) with
  | true =>
    have hb := of_decide_eq_true hb
    obtain ⟨g1, g2, g3, g4, g5⟩ := g
    exact ⟨ρ, g1, rfl, g3, ⟨(by show v.toInt = lo + o; omega), g4⟩, g5⟩
  | false =>
    obtain ⟨⟨g1, g2, g3, g4, g5⟩, e⟩ := as_grow (v := v.toInt - o) (lo := lo) (hi := hi) g (by omega) (by omega)
    have hn : (iv ++ [(lo, hi)]).length = iv.length + 1 := by rw [List.length_append]; rfl
    have e2 := e.2
    refine ⟨_, g1, rfl, g3, ⟨⟨e.1, by omega⟩, g4⟩, g5.1, g5.2.1, ?_, g5.2.2.2⟩
    intro q hq
    cases List.mem_cons.mp hq with
    | inl e' =>
      subst e'
      show con_g (iv ++ [(lo, hi)]).length _ _
      rw [hn]
      exact hc _ iv_ext_old (by omega)
    | inr hq => exact g5.2.2.1 q hq
noncomputable def a_addc (n : Nat) (lv : List (Nat × AV)) (st : List AV) (iv : IV) (ex : AX) (k1 : Option Nat) (o1 : Int) (k2 : Option Nat) (o2 : Int) : Option AS := match iv_rng iv k1 o1, iv_rng iv k2 o2 with
  | some (l1, u1), some (l2, u2) => bif ai_in (l1 + l2) (u1 + u2) then (match k2 with
      | none => some (n, lv, .inl (k1, o1 + o2) :: st, iv, ex)
      | some b => match k1 with
      | none => some (n, lv, .inl (some b, o1 + o2) :: st, iv, ex)
      | some a => match con_sum ex.2.1 a b with
        | some s => some (n, lv, .inl (some s, o1 + o2) :: st, iv, ex)
        | none => some (a_pc n lv st iv ex (l1 + l2 - o1 - o2) (u1 + u2 - o1 - o2) (o1 + o2) (fun s => .inl (s, a, b)))) else some (a_pi n lv st iv ex (-2147483648) 2147483647)
  | _, _ => none
theorem a_addc_ok {E : AEnv} {ρ : Nat → Int} {pc n : Nat} {lv : List (Nat × AV)} {st : List AV} {iv : IV} {ex : AX} {pc' : Nat} {cl : List (Nat × Value)} {cs : List Value} {W : pm_H × Nat × Nat} {x y : Int32} {k1 k2 : Option Nat} {o1 o2 : Int} {A : AS} (g : as_r w E ρ (pc, lv, st, iv, ex) (pc', cl, cs, W)) (hx : av_ev iv.length ρ k1 o1 x.toInt) (hy : av_ev iv.length ρ k2 o2 y.toInt)
    (h : a_addc n lv st iv ex k1 o1 k2 o2 = some A) : as_g w E A (n, cl, .int (x + y) :: cs, W) := by
  obtain ⟨g1, g2, g3, g4, g5⟩ := id g
  dsimp only at g1 g3 g4 g5
  unfold a_addc at h
  split at h
  · rename_i l1 u1 l2 u2 r1 r2
    have b1 := iv_rng_ok g1 hx r1
    have b2 := iv_rng_ok g1 hy r2
    cases hb : ai_in (l1 + l2) (u1 + u2) with
    | false =>
      rw [hb] at h
      cases h
      exact a_pi_ok g (ai_lo _) (ai_hi _)
    | true =>
      rw [hb, cond_true] at h
      have hi := ai_in_ok hb
      have hs : (x + y).toInt = x.toInt + y.toInt := ai_add (by omega) (by omega)
      split at h
      · cases h
        have hy : y.toInt = o2 := hy
        refine ⟨ρ, g1, rfl, g3, ⟨?_, g4⟩, g5⟩
        show av_ev iv.length ρ k1 (o1 + o2) (x + y).toInt
        rw [hs, hy]
        exact av_ev_add hx
      rename_i b
      split at h
      · cases h
        have hx : x.toInt = o1 := hx
        refine ⟨ρ, g1, rfl, g3, ⟨?_, g4⟩, g5⟩
        show av_ev iv.length ρ (some b) (o1 + o2) (x + y).toInt
        rw [hs, hx, Int.add_comm o1, Int.add_comm o1]
        exact av_ev_add hy
      · rename_i a
        split at h
        · rename_i s hss
          cases h
          obtain ⟨q1, q2⟩ := con_sum_ok g5.2.2.1 hss
          refine ⟨ρ, g1, rfl, g3, ⟨⟨q1, ?_⟩, g4⟩, g5⟩
          have := hx.2
          have := hy.2
          omega
        · cases h
          refine a_pc_ok g (by omega) (by omega) (fun ρ' e1 e2 => ?_)
          have ha := hx.1
          have hb := hy.1
          refine ⟨Nat.lt_succ_self _, Nat.lt_succ_of_lt ha, Nat.lt_succ_of_lt hb, ?_⟩
          rw [e1 a ha, e1 b hb]
          have := hx.2
          have := hy.2
          omega
  · cases h
noncomputable def a_subc (n : Nat) (lv : List (Nat × AV)) (st : List AV) (iv : IV) (ex : AX) (k1 : Option Nat) (o1 : Int) (k2 : Option Nat) (o2 : Int) : Option AS := match iv_rng iv k1 o1, iv_rng iv k2 o2 with
  | some (l1, u1), some (l2, u2) => bif ai_in (l1 - u2) (u1 - l2) then (match k2 with
      | none => some (n, lv, .inl (k1, o1 - o2) :: st, iv, ex)
      | some b => match k1 with
      | none => some (a_pi n lv st iv ex (l1 - u2) (u1 - l2))
      | some a => bif Nat.beq a b then some (n, lv, .inl (none, o1 - o2) :: st, iv, ex) else match con_dif ex.2.1 a b with
        | some s => some (n, lv, .inl (some s, o1 - o2) :: st, iv, ex)
        | none => some (a_pc n lv st iv ex (con_lo ex.2.1 a b (l1 - u2 - o1 + o2)) (con_hi ex.2.1 a b (u1 - l2 - o1 + o2)) (o1 - o2) (fun s => .inl (a, s, b)))) else some (a_pi n lv st iv ex (-2147483648) 2147483647)
  | _, _ => none
theorem a_subc_ok {E : AEnv} {ρ : Nat → Int} {pc n : Nat} {lv : List (Nat × AV)} {st : List AV} {iv : IV} {ex : AX} {pc' : Nat} {cl : List (Nat × Value)} {cs : List Value} {W : pm_H × Nat × Nat} {x y : Int32} {k1 k2 : Option Nat} {o1 o2 : Int} {A : AS} (g : as_r w E ρ (pc, lv, st, iv, ex) (pc', cl, cs, W)) (hx : av_ev iv.length ρ k1 o1 x.toInt) (hy : av_ev iv.length ρ k2 o2 y.toInt)
    (h : a_subc n lv st iv ex k1 o1 k2 o2 = some A) : as_g w E A (n, cl, .int (x - y) :: cs, W) := by
  obtain ⟨g1, g2, g3, g4, g5⟩ := id g
  dsimp only at g1 g3 g4 g5
  unfold a_subc at h
  split at h
  · rename_i l1 u1 l2 u2 r1 r2
    have b1 := iv_rng_ok g1 hx r1
    have b2 := iv_rng_ok g1 hy r2
    cases hb : ai_in (l1 - u2) (u1 - l2) with
    | false =>
      rw [hb] at h
      cases h
      exact a_pi_ok g (ai_lo _) (ai_hi _)
    | true =>
      rw [hb, cond_true] at h
      have hi := ai_in_ok hb
      have hs : (x - y).toInt = x.toInt - y.toInt := ai_sub (by omega) (by omega)
      split at h
      · cases h
        have hy : y.toInt = o2 := hy
        refine ⟨ρ, g1, rfl, g3, ⟨?_, g4⟩, g5⟩
        show av_ev iv.length ρ k1 (o1 - o2) (x - y).toInt
        rw [hs, hy]
        exact av_ev_sub hx
      rename_i b
      split at h
      · cases h
        exact a_pi_ok g (by omega) (by omega)
      · rename_i a
        have hx2 := hx.2
        have hy2 := hy.2
        cases hab : Nat.beq a b with
        | true =>
          rw [hab] at h
          cases h
          have hab := Nat.eq_of_beq_eq_true hab
          subst hab
          refine ⟨ρ, g1, rfl, g3, ⟨?_, g4⟩, g5⟩
          show (x - y).toInt = o1 - o2
          omega
        | false =>
          rw [hab, cond_false] at h
          split at h
          · rename_i s hss
            cases h
            obtain ⟨q1, q2⟩ := con_dif_ok g5.2.2.1 hss
            refine ⟨ρ, g1, rfl, g3, ⟨⟨q1, ?_⟩, g4⟩, g5⟩
            omega
          · cases h
            have w1 := con_lo_ok (a := a) (b := b) (lo := l1 - u2 - o1 + o2) g5.2.2.1 (by omega)
            have w2 := con_hi_ok (a := a) (b := b) (hi := u1 - l2 - o1 + o2) g5.2.2.1 (by omega)
            refine a_pc_ok g (by omega) (by omega) (fun ρ' e1 e2 => ?_)
            have ha := hx.1
            have hb := hy.1
            refine ⟨Nat.lt_succ_of_lt ha, Nat.lt_succ_self _, Nat.lt_succ_of_lt hb, ?_⟩
            rw [e1 a ha, e1 b hb]
            omega
  · cases h
noncomputable def a_add (n : Nat) : AS → Option (List AS) := fun A => match A.2.2.1 with
  | .inl (k2, o2) :: .inl (k1, o1) :: st => (a_addc n A.2.1 st A.2.2.2.1 A.2.2.2.2 k1 o1 k2 o2).map (fun B => [B])
  | _ => none
theorem a_add_ok (n : Nat) : ai_ok w (s_bin (fun x y => x + y) n) (a_add n) := by
  rintro E ⟨pc, lv, st, iv, ex⟩ ⟨pc', cl, cs, W⟩ As ⟨ρ, g1, g2, g3, g4, g5⟩ h
  simp only [a_add] at h
  split at h
  · rename_i k2 o2 k1 o1 st'
    obtain ⟨A, hA, rfl⟩ := Option.map_eq_some_iff.mp h
    obtain ⟨v, cs, rfl, ha, hr0⟩ := f2_cons g4
    obtain ⟨u, cs, rfl, hc, hr⟩ := f2_cons hr0
    obtain ⟨y, rfl, ha⟩ := av_int ha
    obtain ⟨x, rfl, hc⟩ := av_int hc
    exact ⟨(n, cl, .int (x + y) :: cs, W), rfl, _, List.mem_singleton_self _, a_addc_ok (st := st') (pc := pc) (pc' := pc') ⟨g1, g2, g3, hr, g5⟩ hc ha hA⟩
  · cases h
noncomputable def a_sub (n : Nat) : AS → Option (List AS) := fun A => match A.2.2.1 with
  | .inl (k2, o2) :: .inl (k1, o1) :: st => (a_subc n A.2.1 st A.2.2.2.1 A.2.2.2.2 k1 o1 k2 o2).map (fun B => [B])
  | _ => none
theorem a_sub_ok (n : Nat) : ai_ok w (s_bin (fun x y => x - y) n) (a_sub n) := by
  rintro E ⟨pc, lv, st, iv, ex⟩ ⟨pc', cl, cs, W⟩ As ⟨ρ, g1, g2, g3, g4, g5⟩ h
  simp only [a_sub] at h
  split at h
  · rename_i k2 o2 k1 o1 st'
    obtain ⟨A, hA, rfl⟩ := Option.map_eq_some_iff.mp h
    obtain ⟨v, cs, rfl, ha, hr0⟩ := f2_cons g4
    obtain ⟨u, cs, rfl, hc, hr⟩ := f2_cons hr0
    obtain ⟨y, rfl, ha⟩ := av_int ha
    obtain ⟨x, rfl, hc⟩ := av_int hc
    exact ⟨(n, cl, .int (x - y) :: cs, W), rfl, _, List.mem_singleton_self _, a_subc_ok (st := st') (pc := pc) (pc' := pc') ⟨g1, g2, g3, hr, g5⟩ hc ha hA⟩
  · cases h
/-- a local counts on -/
noncomputable def a_inc (i : Nat) (d : Int32) (n : Nat) : AS → Option (List AS) := fun A => match as_get A.2.1 i with
  | some (.inl (k, o)) => match iv_rng A.2.2.2.1 k o with
    | some (lo, hi) => bif kp1 A.2.2.2.2.2.2.2.2 A.2.1 i then (bif ai_in (lo + d.toInt) (hi + d.toInt) then some [(n, as_put1 i (.inl (k, (o + d.toInt))) A.2.1, A.2.2.1, A.2.2.2)] else some [(n, as_put1 i (.inl (some A.2.2.2.1.length, 0)) A.2.1, A.2.2.1, A.2.2.2.1 ++ [(-2147483648, 2147483647)], A.2.2.2.2)]) else none
    | none => none
  | _ => none
theorem a_inc_ok (i : Nat) (d : Int32) (n : Nat) : ai_ok w (s_inc i d n) (a_inc i d n) := by
  rintro E ⟨pc, lv, st, iv, ex⟩ ⟨pc', cl, cs, W⟩ As ⟨ρ, g⟩ h
  obtain ⟨g1, g2, g3, g4, g5⟩ := id g
  simp only [a_inc] at h
  split at h
  · rename_i k o e
    split at h
    · rename_i lo hi er
      cases hk : kp1 ex.2.2.2.2 lv i with
      | false => rw [hk] at h; cases h
      | true =>
        rw [hk, cond_true] at h
        obtain ⟨v, e1, e2⟩ := g3 i _ (as_get_in e)
        obtain ⟨x, rfl, e2⟩ := av_int e2
        have hstep : s_inc i d n (pc', cl, cs, W) = some (n, pm_put1 i (.int (x + d)) cl, cs, W) := by
          simp only [s_inc]; simp only at e1; rw [e1]
        cases hb : ai_in (lo + d.toInt) (hi + d.toInt) with
        | false =>
          rw [hb] at h
          cases h
          obtain ⟨⟨p1, p2, p3, p4, p5⟩, q⟩ := as_grow (v := (x + d).toInt) (lo := -2147483648) (hi := 2147483647) g (ai_lo _) (ai_hi _)
          exact ⟨_, hstep, _, List.mem_singleton_self _, _, p1, rfl, as_put1_ok p3 q, p4, ex_put1 p3 hk p5⟩
        | true =>
          rw [hb] at h
          cases h
          have hr := iv_rng_ok g1 e2 er
          have hi2 := ai_in_ok hb
          have hx : (x + d).toInt = x.toInt + d.toInt := ai_add (by omega) (by omega)
          refine ⟨_, hstep, _, List.mem_singleton_self _, ρ, g1, rfl, as_put1_ok g3 ?_, g4, ex_put1 g3 hk g5⟩
          show av_ev iv.length ρ k (o + d.toInt) (x + d).toInt
          rw [hx]
          exact av_ev_add e2
    · cases h
  · cases h
end AIQ
end
section
/-! THE EXECUTOR (second writing), part 7: one number, longs, branches, switches -/
section AIB
variable {w : AW}
/-- the value stays, its kind too -/
theorem i2b_id {x : Int32} (h1 : -128 ≤ x.toInt) (h2 : x.toInt ≤ 127) : x.toInt8.toInt32.toInt = x.toInt := by
  rw [Int8.toInt_toInt32, Int32.toInt_toInt8]
  unfold Int.bmod
  have e : ((2 ^ 8 : Nat) : Int) = 256 := rfl
  simp only [e]
  split <;> omega
theorem i2b_rg (x : Int32) : -128 ≤ x.toInt8.toInt32.toInt ∧ x.toInt8.toInt32.toInt ≤ 127 := by
  rw [Int8.toInt_toInt32]
  have h1 := Int8.le_toInt x.toInt8
  have h2 := Int8.toInt_lt x.toInt8
  omega
theorem i2s_id {x : Int32} (h1 : -32768 ≤ x.toInt) (h2 : x.toInt ≤ 32767) : x.toInt16.toInt32.toInt = x.toInt := by
  rw [Int16.toInt_toInt32, Int32.toInt_toInt16]
  unfold Int.bmod
  have e : ((2 ^ 16 : Nat) : Int) = 65536 := rfl
  simp only [e]
  split <;> omega
theorem i2s_rg (x : Int32) : -32768 ≤ x.toInt16.toInt32.toInt ∧ x.toInt16.toInt32.toInt ≤ 32767 := by
  rw [Int16.toInt_toInt32]
  have h1 := Int16.le_toInt x.toInt16
  have h2 := Int16.toInt_lt x.toInt16
  omega
noncomputable def a_nar (a b : Int) (n : Nat) : AS → Option (List AS) := fun A => match A.2.2.1 with
  | .inl (k, o) :: st => match iv_rng A.2.2.2.1 k o with
    | some (l, u) => bif decide (a ≤ l) && decide (u ≤ b) then some [(n, A.2.1, .inl (k, o) :: st, A.2.2.2)] else some [a_pi n A.2.1 st A.2.2.2.1 A.2.2.2.2 a b]
    | none => none
  | _ => none
theorem a_nar_ok {op : Int32 → Int32} {a b : Int} (n : Nat) (hid : ∀ x : Int32, a ≤ x.toInt → x.toInt ≤ b → (op x).toInt = x.toInt) (hrg : ∀ x : Int32, a ≤ (op x).toInt ∧ (op x).toInt ≤ b) : ai_ok w (s_un op n) (a_nar a b n) := by
  rintro E ⟨pc, lv, st, iv, ex⟩ ⟨pc', cl, cs, W⟩ As ⟨ρ, g1, g2, g3, g4, g5⟩ h
  simp only [a_nar] at h
  split at h
  · rename_i k o st'
    split at h
    · rename_i l u r
      obtain ⟨v, cs, rfl, ha, hr⟩ := f2_cons g4
      obtain ⟨x, rfl, ha⟩ := av_int ha
      have b1 := iv_rng_ok g1 ha r
      cases hb : (decide (a ≤ l) && decide (u ≤ b)) with
      | true =>
        rw [hb] at h
        cases h
        simp only [Bool.and_eq_true, decide_eq_true_eq] at hb
        refine ⟨(n, cl, .int (op x) :: cs, W), rfl, _, List.mem_singleton_self _, ρ, g1, rfl, g3, ⟨?_, hr⟩, g5⟩
        show av_ev iv.length ρ k o (op x).toInt
        rw [hid x (by omega) (by omega)]
        exact ha
      | false =>
        rw [hb] at h
        cases h
        exact ⟨(n, cl, .int (op x) :: cs, W), rfl, _, List.mem_singleton_self _, a_pi_ok (st := st') (pc := pc) (pc' := pc') ⟨g1, g2, g3, hr, g5⟩ (hrg x).1 (hrg x).2⟩
    · cases h
  · cases h
theorem a_i2b_ok (n : Nat) : ai_ok w (s_un (fun x => x.toInt8.toInt32) n) (a_nar (-128) 127 n) := a_nar_ok n (fun _ => i2b_id) i2b_rg
theorem a_i2s_ok (n : Nat) : ai_ok w (s_un (fun x => x.toInt16.toInt32) n) (a_nar (-32768) 32767 n) := a_nar_ok n (fun _ => i2s_id) i2s_rg
theorem i2c_nat (x : Int32) : ((x.toUInt32 % 65536).toInt32).toBitVec.toNat = x.toBitVec.toNat % 65536 := rfl
theorem i2c_id {x : Int32} (h1 : 0 ≤ x.toInt) (h2 : x.toInt ≤ 65535) : ((x.toUInt32 % 65536).toInt32).toInt = x.toInt := by
  obtain ⟨e, l⟩ := ai_nn h1
  have hn := i2c_nat x
  rw [ai_of (by omega), hn, e]
  omega
theorem i2c_rg (x : Int32) : 0 ≤ ((x.toUInt32 % 65536).toInt32).toInt ∧ ((x.toUInt32 % 65536).toInt32).toInt ≤ 65535 := by
  have hn := i2c_nat x
  rw [ai_of (by omega), hn]
  omega
theorem a_i2c_ok (n : Nat) : ai_ok w (s_un (fun x => (x.toUInt32 % 65536).toInt32) n) (a_nar 0 65535 n) := a_nar_ok n (fun _ => i2c_id) i2c_rg
noncomputable def a_neg (n : Nat) : AS → Option (List AS) := fun A => match A.2.2.1 with
  | .inl (k, o) :: st => match iv_rng A.2.2.2.1 k o with
    | some (l, u) => some [a_pi n A.2.1 st A.2.2.2.1 A.2.2.2.2 (ai_bnd (-u) (-l)).1 (ai_bnd (-u) (-l)).2]
    | none => none
  | _ => none
theorem a_neg_ok (n : Nat) : ai_ok w (s_un (fun x => -x) n) (a_neg n) := by
  rintro E ⟨pc, lv, st, iv, ex⟩ ⟨pc', cl, cs, W⟩ As ⟨ρ, g1, g2, g3, g4, g5⟩ h
  simp only [a_neg] at h
  split at h
  · rename_i k o st'
    split at h
    · rename_i l u r
      cases h
      obtain ⟨v, cs, rfl, ha, hr⟩ := f2_cons g4
      obtain ⟨x, rfl, ha⟩ := av_int ha
      have b1 := iv_rng_ok g1 ha r
      have hq := ai_bnd_ok (z := -x) (lo := -u) (hi := -l) (fun hb => by
        have := ai_in_ok hb
        rw [Int32.toInt_neg, ai_bmod (by omega) (by omega)]
        omega)
      exact ⟨(n, cl, .int (-x) :: cs, W), rfl, _, List.mem_singleton_self _, a_pi_ok (st := st') (pc := pc) (pc' := pc') ⟨g1, g2, g3, hr, g5⟩ hq.1 hq.2⟩
    · cases h
  · cases h
/-- longs -/
noncomputable def a_i2l (n : Nat) : AS → Option (List AS) := fun A => match A.2.2.1 with
  | .inl (k, o) :: st => some [(n, A.2.1, .inr (.inl (k, o)) :: st, A.2.2.2)]
  | _ => none
theorem a_i2l_ok (n : Nat) : ai_ok w (s_i2l n) (a_i2l n) := by
  rintro E ⟨pc, lv, st, iv, ex⟩ ⟨pc', cl, cs, W⟩ As ⟨ρ, g1, g2, g3, g4, g5⟩ h
  simp only [a_i2l] at h
  split at h
  · rename_i k o st'
    cases h
    obtain ⟨v, cs, rfl, ha, hr⟩ := f2_cons g4
    obtain ⟨x, rfl, ha⟩ := av_int ha
    refine ⟨(n, cl, .long x.toInt64 :: cs, W), rfl, _, List.mem_singleton_self _, ρ, g1, rfl, g3, ⟨?_, hr⟩, g5⟩
    show av_ev iv.length ρ k o x.toInt64.toInt
    rw [Int32.toInt_toInt64]
    exact ha
  · cases h
noncomputable def a_l2i (n : Nat) : AS → Option (List AS) := fun A => match A.2.2.1 with
  | .inr (.inl (k, o)) :: st => match iv_rng A.2.2.2.1 k o with
    | some (l, u) => bif ai_in l u then some [(n, A.2.1, .inl (k, o) :: st, A.2.2.2)] else some [a_pi n A.2.1 st A.2.2.2.1 A.2.2.2.2 (-2147483648) 2147483647]
    | none => none
  | _ => none
theorem a_l2i_ok (n : Nat) : ai_ok w (s_l2i n) (a_l2i n) := by
  rintro E ⟨pc, lv, st, iv, ex⟩ ⟨pc', cl, cs, W⟩ As ⟨ρ, g1, g2, g3, g4, g5⟩ h
  simp only [a_l2i] at h
  split at h
  · rename_i k o st'
    split at h
    · rename_i l u r
      obtain ⟨v, cs, rfl, ha, hr⟩ := f2_cons g4
      obtain ⟨x, rfl, ha⟩ := av_long ha
      have b1 := iv_rng_ok g1 ha r
      cases hb : ai_in l u with
      | true =>
        rw [hb] at h
        cases h
        have := ai_in_ok hb
        refine ⟨(n, cl, .int x.toInt32 :: cs, W), rfl, _, List.mem_singleton_self _, ρ, g1, rfl, g3, ⟨?_, hr⟩, g5⟩
        show av_ev iv.length ρ k o x.toInt32.toInt
        rw [Int64.toInt_toInt32, ai_bmod (by omega) (by omega)]
        exact ha
      | false =>
        rw [hb] at h
        cases h
        exact ⟨(n, cl, .int x.toInt32 :: cs, W), rfl, _, List.mem_singleton_self _, a_pi_ok (st := st') (pc := pc) (pc' := pc') ⟨g1, g2, g3, hr, g5⟩ (ai_lo _) (ai_hi _)⟩
    · cases h
  · cases h
/-- two longs: by bounds; a known one added or taken away moves the offset -/
noncomputable def lo_ok (op : Int64 → Int64 → Int64) (f : Int → Int → Int → Int → Int × Int) : Prop := ∀ (x y : Int64) (l1 u1 l2 u2 : Int), l1 ≤ x.toInt → x.toInt ≤ u1 → l2 ≤ y.toInt → y.toInt ≤ u2 → (f l1 u1 l2 u2).1 ≤ (op x y).toInt ∧ (op x y).toInt ≤ (f l1 u1 l2 u2).2
noncomputable def a_lbin (f : Int → Int → Int → Int → Int × Int) (n : Nat) : AS → Option (List AS) := fun A => match A.2.2.1 with
  | .inr (.inl (k2, o2)) :: .inr (.inl (k1, o1)) :: st => match iv_rng A.2.2.2.1 k1 o1, iv_rng A.2.2.2.1 k2 o2 with
    | some (l1, u1), some (l2, u2) => some [a_pl n A.2.1 st A.2.2.2.1 A.2.2.2.2 (f l1 u1 l2 u2).1 (f l1 u1 l2 u2).2]
    | _, _ => none
  | _ => none
theorem a_lbin_ok {op : Int64 → Int64 → Int64} {f : Int → Int → Int → Int → Int × Int} (n : Nat) (hf : lo_ok op f) : ai_ok w (s_lbin op n) (a_lbin f n) := by
  rintro E ⟨pc, lv, st, iv, ex⟩ ⟨pc', cl, cs, W⟩ As ⟨ρ, g1, g2, g3, g4, g5⟩ h
  simp only [a_lbin] at h
  split at h
  · rename_i k2 o2 k1 o1 st'
    split at h
    · rename_i l1 u1 l2 u2 r1 r2
      cases h
      obtain ⟨v, cs, rfl, ha, hr0⟩ := f2_cons g4
      obtain ⟨u, cs, rfl, hc, hr⟩ := f2_cons hr0
      obtain ⟨y, rfl, ha⟩ := av_long ha
      obtain ⟨x, rfl, hc⟩ := av_long hc
      have b1 := iv_rng_ok g1 hc r1
      have b2 := iv_rng_ok g1 ha r2
      have hq := hf x y l1 u1 l2 u2 b1.1 b1.2 b2.1 b2.2
      exact ⟨(n, cl, .long (op x y) :: cs, W), rfl, _, List.mem_singleton_self _, a_pl_ok (st := st') (pc := pc) (pc' := pc') ⟨g1, g2, g3, hr, g5⟩ hq.1 hq.2⟩
    · cases h
  · cases h
noncomputable def fl_top (_ _ _ _ : Int) : Int × Int := (-9223372036854775808, 9223372036854775807)
theorem fl_top_ok (op : Int64 → Int64 → Int64) : lo_ok op fl_top := fun _ _ _ _ _ _ _ _ _ _ => ⟨al_lo _, al_hi _⟩
noncomputable def fl_mul (l1 u1 l2 u2 : Int) : Int × Int := al_bnd (mn4 (l1 * l2) (l1 * u2) (u1 * l2) (u1 * u2)) (mx4 (l1 * l2) (l1 * u2) (u1 * l2) (u1 * u2))
theorem fl_mul_ok : lo_ok (fun x y => x * y) fl_mul := by
  intro x y l1 u1 l2 u2 h1 h2 h3 h4
  have hm := mul_rg h1 h2 h3 h4
  refine al_bnd_ok (fun hb => ?_)
  have hi := al_in_ok hb
  show _ ≤ (x * y).toInt ∧ (x * y).toInt ≤ _
  rw [al_mul (by omega) (by omega)]
  exact hm
noncomputable def fl_add (l1 u1 l2 u2 : Int) : Int × Int := al_bnd (l1 + l2) (u1 + u2)
theorem fl_add_ok : lo_ok (fun x y => x + y) fl_add := by
  intro x y l1 u1 l2 u2 h1 h2 h3 h4
  refine al_bnd_ok (fun hb => ?_)
  have hi := al_in_ok hb
  show _ ≤ (x + y).toInt ∧ (x + y).toInt ≤ _
  rw [al_add (by omega) (by omega)]
  omega
noncomputable def fl_sub (l1 u1 l2 u2 : Int) : Int × Int := al_bnd (l1 - u2) (u1 - l2)
theorem fl_sub_ok : lo_ok (fun x y => x - y) fl_sub := by
  intro x y l1 u1 l2 u2 h1 h2 h3 h4
  refine al_bnd_ok (fun hb => ?_)
  have hi := al_in_ok hb
  show _ ≤ (x - y).toInt ∧ (x - y).toInt ≤ _
  rw [al_sub (by omega) (by omega)]
  omega
noncomputable def ld_ok (op : Int64 → Int64 → Int64) (f : Int → Int → Int → Int → Int × Int) : Prop := ∀ (x y : Int64) (l1 u1 l2 u2 : Int), 0 < l2 → l1 ≤ x.toInt → x.toInt ≤ u1 → l2 ≤ y.toInt → y.toInt ≤ u2 → (f l1 u1 l2 u2).1 ≤ (op x y).toInt ∧ (op x y).toInt ≤ (f l1 u1 l2 u2).2
noncomputable def a_ldiv (f : Int → Int → Int → Int → Int × Int) (n : Nat) : AS → Option (List AS) := fun A => match A.2.2.1 with
  | .inr (.inl (k2, o2)) :: .inr (.inl (k1, o1)) :: st => match iv_rng A.2.2.2.1 k1 o1, iv_rng A.2.2.2.1 k2 o2 with
    | some (l1, u1), some (l2, u2) => bif decide (0 < l2) then some [a_pl n A.2.1 st A.2.2.2.1 A.2.2.2.2 (f l1 u1 l2 u2).1 (f l1 u1 l2 u2).2] else (bif decide (u2 < 0) then some [a_pl n A.2.1 st A.2.2.2.1 A.2.2.2.2 (-9223372036854775808) 9223372036854775807] else none)
    | _, _ => none
  | _ => none
theorem a_ldiv_ok {op : Int64 → Int64 → Int64} {f : Int → Int → Int → Int → Int × Int} (n : Nat) (hf : ld_ok op f) : ai_ok w (s_ldiv op n) (a_ldiv f n) := by
  rintro E ⟨pc, lv, st, iv, ex⟩ ⟨pc', cl, cs, W⟩ As ⟨ρ, g1, g2, g3, g4, g5⟩ h
  simp only [a_ldiv] at h
  split at h
  · rename_i k2 o2 k1 o1 st'
    split at h
    · rename_i l1 u1 l2 u2 r1 r2
      obtain ⟨v, cs, rfl, ha, hr0⟩ := f2_cons g4
      obtain ⟨u, cs, rfl, hc, hr⟩ := f2_cons hr0
      obtain ⟨y, rfl, ha⟩ := av_long ha
      obtain ⟨x, rfl, hc⟩ := av_long hc
      have b1 := iv_rng_ok g1 hc r1
      have b2 := iv_rng_ok g1 ha r2
      have z : (0 : Int64).toInt = 0 := rfl
      cases hb : decide (0 < l2) with
      | true =>
        rw [hb] at h
        have hb := of_decide_eq_true hb
        cases h
        have hq := hf x y l1 u1 l2 u2 hb b1.1 b1.2 b2.1 b2.2
        have hy : ¬ y = 0 := by intro e; subst e; omega
        exact ⟨(n, cl, .long (op x y) :: cs, W), by simp only [s_ldiv, if_neg hy], _, List.mem_singleton_self _, a_pl_ok (st := st') (pc := pc) (pc' := pc') ⟨g1, g2, g3, hr, g5⟩ hq.1 hq.2⟩
      | false =>
        rw [hb, cond_false] at h
        cases hd : decide (u2 < 0) with
        | false => rw [hd] at h; cases h
        | true =>
          rw [hd] at h
          cases h
          have hd := of_decide_eq_true hd
          have hy : ¬ y = 0 := by intro e; subst e; omega
          exact ⟨(n, cl, .long (op x y) :: cs, W), by simp only [s_ldiv, if_neg hy], _, List.mem_singleton_self _, a_pl_ok (st := st') (pc := pc) (pc' := pc') ⟨g1, g2, g3, hr, g5⟩ (al_lo _) (al_hi _)⟩
    · cases h
  · cases h
theorem ld_top_ok (op : Int64 → Int64 → Int64) : ld_ok op fl_top := fun _ _ _ _ _ _ _ _ _ _ _ => ⟨al_lo _, al_hi _⟩
noncomputable def a_lneg (n : Nat) : AS → Option (List AS) := fun A => match A.2.2.1 with
  | .inr (.inl (k, o)) :: st => match iv_rng A.2.2.2.1 k o with
    | some (l, u) => some [a_pl n A.2.1 st A.2.2.2.1 A.2.2.2.2 (al_bnd (-u) (-l)).1 (al_bnd (-u) (-l)).2]
    | none => none
  | _ => none
theorem a_lneg_ok (n : Nat) : ai_ok w (s_lun (fun x => -x) n) (a_lneg n) := by
  rintro E ⟨pc, lv, st, iv, ex⟩ ⟨pc', cl, cs, W⟩ As ⟨ρ, g1, g2, g3, g4, g5⟩ h
  simp only [a_lneg] at h
  split at h
  · rename_i k o st'
    split at h
    · rename_i l u r
      cases h
      obtain ⟨v, cs, rfl, ha, hr⟩ := f2_cons g4
      obtain ⟨x, rfl, ha⟩ := av_long ha
      have b1 := iv_rng_ok g1 ha r
      have hq := al_bnd_ok (z := -x) (lo := -u) (hi := -l) (fun hb => by
        have := al_in_ok hb
        rw [Int64.toInt_neg, al_bmod (by omega) (by omega)]
        omega)
      exact ⟨(n, cl, .long (-x) :: cs, W), rfl, _, List.mem_singleton_self _, a_pl_ok (st := st') (pc := pc) (pc' := pc') ⟨g1, g2, g3, hr, g5⟩ hq.1 hq.2⟩
    · cases h
  · cases h
/-- a comparison taken in: 0 eq, 1 ne, 2 lt, 3 ge, 4 gt, 5 le -/
noncomputable def ic (c : Nat) (x y : Int) : Bool := match c with
  | 0 => decide (x = y)
  | 1 => decide (¬ x = y)
  | 2 => decide (x < y)
  | 3 => decide (y ≤ x)
  | 4 => decide (y < x)
  | _ => decide (x ≤ y)
noncomputable def br (c : Nat) (n : Nat) (lv : List (Nat × AV)) (st : List AV) (iv : IV) (ex : AX) (k1 : Option Nat) (o1 : Int) (k2 : Option Nat) (o2 : Int) : Option AS := match c with
  | 0 => match br_le iv ex.2.1 k1 o1 k2 o2 with
    | some (iv, cs) => match br_le iv cs k2 o2 k1 o1 with
      | some (iv, cs) => some (n, lv, st, iv, ex.1, cs, ex.2.2)
      | none => none
    | none => none
  | 1 => match br_ne iv k1 o1 k2 o2 with
    | some iv => some (n, lv, st, iv, ex)
    | none => none
  | 2 => match br_le iv ex.2.1 k1 (o1 + 1) k2 o2 with
    | some (iv, cs) => some (n, lv, st, iv, ex.1, cs, ex.2.2)
    | none => none
  | 3 => match br_le iv ex.2.1 k2 o2 k1 o1 with
    | some (iv, cs) => some (n, lv, st, iv, ex.1, cs, ex.2.2)
    | none => none
  | 4 => match br_le iv ex.2.1 k2 (o2 + 1) k1 o1 with
    | some (iv, cs) => some (n, lv, st, iv, ex.1, cs, ex.2.2)
    | none => none
  | _ => match br_le iv ex.2.1 k1 o1 k2 o2 with
    | some (iv, cs) => some (n, lv, st, iv, ex.1, cs, ex.2.2)
    | none => none
theorem br_ok {E : AEnv} {ρ : Nat → Int} {pc n : Nat} {lv : List (Nat × AV)} {st : List AV} {iv : IV} {ex : AX} {pc' : Nat} {cl : List (Nat × Value)} {cs : List Value} {W : pm_H × Nat × Nat} {k1 k2 : Option Nat} {o1 o2 x y : Int} (c : Nat) (g : as_r w E ρ (pc, lv, st, iv, ex) (pc', cl, cs, W)) (hx : av_ev iv.length ρ k1 o1 x) (hy : av_ev iv.length ρ k2 o2 y) (h : ic c x y = true) :
    ∃ B, br c n lv st iv ex k1 o1 k2 o2 = some B ∧ as_r w E ρ B (n, cl, cs, W) := by
  have base : ∀ iv' cs', iv'.length = iv.length → ia_g E ρ iv' → (∀ c ∈ cs', con_g iv.length ρ c) → as_r w E ρ (n, lv, st, iv', ex.1, cs', ex.2.2) (n, cl, cs, W) := by
    intro iv' cs' hl hi hc
    obtain ⟨q1, q2, q3, q4, q5⟩ := as_iv g hl hi
    exact ⟨q1, rfl, q3, q4, q5.1, q5.2.1, (by show ∀ c ∈ cs', con_g iv'.length ρ c; rw [hl]; exact hc), q5.2.2.2⟩
  obtain ⟨g1, g2, g3, g4, g5⟩ := id g
  dsimp only at g1 g5
  have one : ∀ {ka kb : Option Nat} {oa ob u v : Int}, av_ev iv.length ρ ka oa u → av_ev iv.length ρ kb ob v → u ≤ v → ∃ q : IV × List Con, br_le iv ex.2.1 ka oa kb ob = some q ∧ as_r w E ρ (n, lv, st, q.1, ex.1, q.2, ex.2.2) (n, cl, cs, W) := by
    intro ka kb oa ob u v hu hv huv
    obtain ⟨q, e, l, i, cc⟩ := br_le_ok g1 g5.2.2.1 hu hv huv
    exact ⟨q, e, base q.1 q.2 l i cc⟩
  match c, h with
  | 0, h =>
    have h : x = y := of_decide_eq_true h
    obtain ⟨q, e, l, i, cc⟩ := br_le_ok g1 g5.2.2.1 hx hy (by omega)
    obtain ⟨q2, e2, l2, i2, cc2⟩ := br_le_ok (k1 := k2) (k2 := k1) (o1 := o2) (o2 := o1) (x := y) (y := x) i (by rw [l]; exact cc) (by rw [l]; exact hy) (by rw [l]; exact hx) (by omega)
    unfold br
    rw [e]
    simp only [e2]
    exact ⟨_, rfl, base q2.1 q2.2 (by omega) i2 (by rw [l] at cc2; exact cc2)⟩
  | 1, h =>
    have h : ¬ x = y := of_decide_eq_true h
    obtain ⟨q, e, l, i⟩ := br_ne_ok g1 hx hy h
    unfold br
    rw [e]
    obtain ⟨q1, q2, q3, q4, q5⟩ := as_iv g l i
    exact ⟨_, rfl, q1, rfl, q3, q4, q5⟩
  | 2, h =>
    have h : x < y := of_decide_eq_true h
    obtain ⟨q, e, r⟩ := one (av_ev_add (d := 1) hx) hy (by omega)
    unfold br
    rw [e]
    exact ⟨_, rfl, r⟩
  | 3, h =>
    have h : y ≤ x := of_decide_eq_true h
    obtain ⟨q, e, r⟩ := one hy hx (by omega)
    unfold br
    rw [e]
    exact ⟨_, rfl, r⟩
  | 4, h =>
    have h : y < x := of_decide_eq_true h
    obtain ⟨q, e, r⟩ := one (av_ev_add (d := 1) hy) hx (by omega)
    unfold br
    rw [e]
    exact ⟨_, rfl, r⟩
  | c + 5, h =>
    have h : x ≤ y := of_decide_eq_true h
    obtain ⟨q, e, r⟩ := one hx hy (by omega)
    refine ⟨(n, lv, st, q.1, ex.1, q.2, ex.2.2), ?_, r⟩
    show (match br_le iv ex.2.1 k1 o1 k2 o2 with
      | some (iv, cs) => some (n, lv, st, iv, ex.1, cs, ex.2.2)
      | none => none) = _
    rw [e]
/-- the other branch -/
noncomputable def ic_not (c : Nat) : Nat := match c with
  | 0 => 1
  | 1 => 0
  | 2 => 3
  | 3 => 2
  | 4 => 5
  | _ => 4
theorem ic_not_ok {c : Nat} {x y : Int} (h : ic c x y = false) : ic (ic_not c) x y = true := by
  match c, h with
  | 0, h => have h : ¬ x = y := of_decide_eq_false h; exact decide_eq_true h
  | 1, h => have h : ¬ ¬ x = y := of_decide_eq_false h; exact decide_eq_true (show x = y by omega)
  | 2, h => have h : ¬ x < y := of_decide_eq_false h; exact decide_eq_true (show y ≤ x by omega)
  | 3, h => have h : ¬ y ≤ x := of_decide_eq_false h; exact decide_eq_true (show x < y by omega)
  | 4, h => have h : ¬ y < x := of_decide_eq_false h; exact decide_eq_true (show x ≤ y by omega)
  | c + 5, h => have h : ¬ x ≤ y := of_decide_eq_false h; exact decide_eq_true (show y < x by omega)
noncomputable def a_if2 (c t n : Nat) : AS → Option (List AS) := fun A => match A.2.2.1 with
  | .inl (k2, o2) :: .inl (k1, o1) :: st => some ((br c t A.2.1 st A.2.2.2.1 A.2.2.2.2 k1 o1 k2 o2).toList ++ (br (ic_not c) n A.2.1 st A.2.2.2.1 A.2.2.2.2 k1 o1 k2 o2).toList)
  | _ => none
theorem a_if2_ok {q : Int32 → Int32 → Bool} (c t n : Nat) (hq : ∀ x y : Int32, q x y = ic c x.toInt y.toInt) : ai_ok w (s_icmp q t n) (a_if2 c t n) := by
  rintro E ⟨pc, lv, st, iv, ex⟩ ⟨pc', cl, cs, W⟩ As ⟨ρ, g1, g2, g3, g4, g5⟩ h
  simp only [a_if2] at h
  split at h
  · rename_i k2 o2 k1 o1 st'
    cases h
    obtain ⟨v, cs, rfl, ha, hr0⟩ := f2_cons g4
    obtain ⟨u, cs, rfl, hc, hr⟩ := f2_cons hr0
    obtain ⟨y, rfl, ha⟩ := av_int ha
    obtain ⟨x, rfl, hc⟩ := av_int hc
    cases hb : ic c x.toInt y.toInt with
    | true =>
      obtain ⟨B, e1, e2⟩ := br_ok (n := t) (pc := pc) (pc' := pc') (st := st') (cs := cs) c ⟨g1, g2, g3, hr, g5⟩ hc ha hb
      refine ⟨(t, cl, cs, W), by simp only [s_icmp, hq, hb, cond_true], B, ?_, ρ, e2⟩
      rw [e1]
      exact List.mem_append_left _ (List.mem_singleton_self _)
    | false =>
      obtain ⟨B, e1, e2⟩ := br_ok (n := n) (pc := pc) (pc' := pc') (st := st') (cs := cs) (ic_not c) ⟨g1, g2, g3, hr, g5⟩ hc ha (ic_not_ok hb)
      refine ⟨(n, cl, cs, W), by simp only [s_icmp, hq, hb, cond_false], B, ?_, ρ, e2⟩
      rw [e1]
      exact List.mem_append_right _ (List.mem_singleton_self _)
  · cases h
noncomputable def a_if1 (c t n : Nat) : AS → Option (List AS) := fun A => match A.2.2.1 with
  | .inl (k1, o1) :: st => some ((br c t A.2.1 st A.2.2.2.1 A.2.2.2.2 k1 o1 none 0).toList ++ (br (ic_not c) n A.2.1 st A.2.2.2.1 A.2.2.2.2 k1 o1 none 0).toList)
  | _ => none
theorem a_if1_ok {q : Int32 → Bool} (c t n : Nat) (hq : ∀ x : Int32, q x = ic c x.toInt 0) : ai_ok w (s_if q t n) (a_if1 c t n) := by
  rintro E ⟨pc, lv, st, iv, ex⟩ ⟨pc', cl, cs, W⟩ As ⟨ρ, g1, g2, g3, g4, g5⟩ h
  simp only [a_if1] at h
  split at h
  · rename_i k1 o1 st'
    cases h
    obtain ⟨u, cs, rfl, hc, hr⟩ := f2_cons g4
    obtain ⟨x, rfl, hc⟩ := av_int hc
    have h0 : av_ev iv.length ρ none 0 0 := rfl
    cases hb : ic c x.toInt 0 with
    | true =>
      obtain ⟨B, e1, e2⟩ := br_ok (n := t) (pc := pc) (pc' := pc') (st := st') (cs := cs) c ⟨g1, g2, g3, hr, g5⟩ hc h0 hb
      refine ⟨(t, cl, cs, W), by simp only [s_if, hq, hb, cond_true], B, ?_, ρ, e2⟩
      rw [e1]
      exact List.mem_append_left _ (List.mem_singleton_self _)
    | false =>
      obtain ⟨B, e1, e2⟩ := br_ok (n := n) (pc := pc) (pc' := pc') (st := st') (cs := cs) (ic_not c) ⟨g1, g2, g3, hr, g5⟩ hc h0 (ic_not_ok hb)
      refine ⟨(n, cl, cs, W), by simp only [s_if, hq, hb, cond_false], B, ?_, ρ, e2⟩
      rw [e1]
      exact List.mem_append_right _ (List.mem_singleton_self _)
  · cases h
/-- two longs compared: three branches -/
noncomputable def a_lcmp (n : Nat) : AS → Option (List AS) := fun A => match A.2.2.1 with
  | .inr (.inl (k2, o2)) :: .inr (.inl (k1, o1)) :: st => some ((br 2 n A.2.1 (.inl (none, -1) :: st) A.2.2.2.1 A.2.2.2.2 k1 o1 k2 o2).toList ++ ((br 0 n A.2.1 (.inl (none, 0) :: st) A.2.2.2.1 A.2.2.2.2 k1 o1 k2 o2).toList ++ (br 4 n A.2.1 (.inl (none, 1) :: st) A.2.2.2.1 A.2.2.2.2 k1 o1 k2 o2).toList))
  | _ => none
theorem a_lcmp_ok (n : Nat) : ai_ok w (s_lcmp n) (a_lcmp n) := by
  rintro E ⟨pc, lv, st, iv, ex⟩ ⟨pc', cl, cs, W⟩ As ⟨ρ, g1, g2, g3, g4, g5⟩ h
  simp only [a_lcmp] at h
  split at h
  · rename_i k2 o2 k1 o1 st'
    cases h
    obtain ⟨v, cs, rfl, ha, hr0⟩ := f2_cons g4
    obtain ⟨u, cs, rfl, hc, hr⟩ := f2_cons hr0
    obtain ⟨y, rfl, ha⟩ := av_long ha
    obtain ⟨x, rfl, hc⟩ := av_long hc
    refine ⟨(n, cl, .int (lg_cmp x y) :: cs, W), rfl, ?_⟩
    by_cases h1 : x.toInt < y.toInt
    · have hv : lg_cmp x y = -1 := by
        unfold lg_cmp
        rw [if_neg (by rw [gt_iff_lt, Int64.lt_iff_toInt_lt]; omega), if_neg (by intro e; subst e; omega)]
      obtain ⟨B, e1, e2⟩ := br_ok (n := n) (pc := pc) (pc' := pc') (st := .inl (none, -1) :: st') (cs := .int (lg_cmp x y) :: cs) 2 ⟨g1, g2, g3, ⟨(by rw [hv]; rfl), hr⟩, g5⟩ hc ha (decide_eq_true h1)
      exact ⟨B, by rw [e1]; exact List.mem_append_left _ (List.mem_singleton_self _), ρ, e2⟩
    · by_cases h2 : x.toInt = y.toInt
      · have hv : lg_cmp x y = 0 := by
          unfold lg_cmp
          rw [if_neg (by rw [gt_iff_lt, Int64.lt_iff_toInt_lt]; omega), if_pos (Int64.toInt_inj.mp h2)]
        obtain ⟨B, e1, e2⟩ := br_ok (n := n) (pc := pc) (pc' := pc') (st := .inl (none, 0) :: st') (cs := .int (lg_cmp x y) :: cs) 0 ⟨g1, g2, g3, ⟨(by rw [hv]; rfl), hr⟩, g5⟩ hc ha (decide_eq_true h2)
        exact ⟨B, by rw [e1]; exact List.mem_append_right _ (List.mem_append_left _ (List.mem_singleton_self _)), ρ, e2⟩
      · have h3 : y.toInt < x.toInt := by omega
        have hv : lg_cmp x y = 1 := by
          unfold lg_cmp
          rw [if_pos (by rw [gt_iff_lt, Int64.lt_iff_toInt_lt]; exact h3)]
        obtain ⟨B, e1, e2⟩ := br_ok (n := n) (pc := pc) (pc' := pc') (st := .inl (none, 1) :: st') (cs := .int (lg_cmp x y) :: cs) 4 ⟨g1, g2, g3, ⟨(by rw [hv]; rfl), hr⟩, g5⟩ hc ha (decide_eq_true h3)
        exact ⟨B, by rw [e1]; exact List.mem_append_right _ (List.mem_append_right _ (List.mem_singleton_self _)), ρ, e2⟩
  · cases h
end AIB
end
section
/-! THE EXECUTOR (second writing), part 8: fields, arrays, switches, what lies outside -/
section AIH
variable {w : AW}
theorem ai_ix {i : Int32} {len : Nat} (h1 : 0 ≤ i.toInt) (h2 : i.toInt < (len : Int)) : pm_ix i len = true := by
  unfold pm_ix
  have h3 : ¬ i < 0 := by rw [Int32.lt_iff_toInt_lt]; show ¬ i.toInt < 0; omega
  have h4 : i.toNatClampNeg < len := by show i.toInt.toNat < len; omega
  simp only [h3, decide_false, Bool.not_false, Bool.true_and]
  exact Nat.ble_eq_true_of_le h4
noncomputable def mem_get : Mem → Nat → Nat → Option AV
  | [], _, _ => none
  | q :: l, a, k => bif Nat.beq q.1.1 a && Nat.beq q.1.2 k then some q.2 else mem_get l a k
theorem mem_get_in {a k : Nat} {v : AV} : ∀ {m : Mem}, mem_get m a k = some v → ((a, k), v) ∈ m
  | [], h => by cases h
  | ((a', k'), v') :: l, h => by
    unfold mem_get at h
    cases hb : (Nat.beq a' a && Nat.beq k' k) with
    | true =>
      simp only [hb, cond_true] at h
      rw [Bool.and_eq_true] at hb
      have h1 := Nat.eq_of_beq_eq_true hb.1
      have h2 := Nat.eq_of_beq_eq_true hb.2
      subst h1; subst h2
      cases h
      exact List.mem_cons_self
    | false =>
      simp only [hb, cond_false] at h
      exact List.mem_cons_of_mem _ (mem_get_in h)
/-- an int that lies at a known place is pushed, and known from now on -/
noncomputable def a_gm (n : Nat) (lv : List (Nat × AV)) (st : List AV) (iv : IV) (ex : AX) (a k : Nat) (lo hi : Int) : Option AS := match mem_get ex.1 a k with
  | some (.inl (q, o)) => some (n, lv, .inl (q, o) :: st, iv, ex)
  | some _ => none
  | none => bif decide (lo = hi) then some (n, lv, .inl (none, lo) :: st, iv, ((a, k), .inl (none, lo)) :: ex.1, ex.2) else some (n, lv, .inl (some iv.length, 0) :: st, iv ++ [(lo, hi)], ((a, k), .inl (some iv.length, 0)) :: ex.1, ex.2)
theorem a_gm_ok {E : AEnv} {ρ : Nat → Int} {pc n : Nat} {lv : List (Nat × AV)} {st : List AV} {iv : IV} {ex : AX} {pc' : Nat} {cl : List (Nat × Value)} {cs : List Value} {W : pm_H × Nat × Nat} {v : Int32} {a k : Nat} {lo hi : Int} {A : AS} (g : as_r w E ρ (pc, lv, st, iv, ex) (pc', cl, cs, W)) (hl : ld W.1 a k = some (.int v)) (h1 : lo ≤ v.toInt) (h2 : v.toInt ≤ hi)
    (h : a_gm n lv st iv ex a k lo hi = some A) : as_g w E A (n, cl, .int v :: cs, W) := by
  unfold a_gm at h
  split at h
  · rename_i q o hm
    cases h
    obtain ⟨g1, g2, g3, g4, g5⟩ := g
    obtain ⟨u, e1, e2⟩ := g5.2.1 _ _ (mem_get_in hm)
    dsimp only at e1
    rw [hl] at e1
    cases e1
    exact ⟨ρ, g1, rfl, g3, ⟨e2, g4⟩, g5⟩
  · cases h
  · cases hb : decide (lo = hi) with
    | true =>
      rw [hb] at h
      cases h
      have hb := of_decide_eq_true hb
      obtain ⟨g1, g2, g3, g4, g5⟩ := g
      have hv : v.toInt = lo := by omega
      refine ⟨ρ, g1, rfl, g3, ⟨hv, g4⟩, g5.1, fun q b hm => ?_, g5.2.2⟩
      cases List.mem_cons.mp hm with
      | inl e => cases e; exact ⟨_, hl, hv⟩
      | inr hm => exact g5.2.1 q b hm
    | false =>
      rw [hb] at h
      cases h
      obtain ⟨⟨g1, g2, g3, g4, g5⟩, e⟩ := as_grow g h1 h2
      refine ⟨_, g1, rfl, g3, ⟨e, g4⟩, g5.1, fun q b hm => ?_, g5.2.2⟩
      cases List.mem_cons.mp hm with
      | inl e' => cases e'; exact ⟨_, hl, e⟩
      | inr hm => exact g5.2.1 q b hm
noncomputable def a_getf (w : AW) (ci k n : Nat) : AS → Option (List AS) := fun A => match A.2.2.1 with
  | .inr (.inr (.inl a)) :: st => match w.1.1[a]? with
    | some (.inr (.inr (.inr (cj, fs)))) => bif Nat.beq cj ci then (match fs[k]? with
      | some (.inl (lo, hi)) => (a_gm n A.2.1 st A.2.2.2.1 A.2.2.2.2 a k lo hi).map (fun B => [B])
      | some (.inr (.inr (.inl q))) => some [(n, A.2.1, .inr (.inr (.inl q)) :: st, A.2.2.2)]
      | some (.inr (.inl ())) => some [a_pl n A.2.1 st A.2.2.2.1 A.2.2.2.2 (-9223372036854775808) 9223372036854775807]
      | _ => none) else none
    | _ => none
  | _ => none
theorem a_getf_ok (ci k n : Nat) : ai_ok w (s_getf ci k n) (a_getf w ci k n) := by
  rintro E ⟨pc, lv, st, iv, ex⟩ ⟨pc', cl, cs, W⟩ As ⟨ρ, g1, g2, g3, g4, g5⟩ h
  simp only [a_getf] at h
  split at h
  · rename_i a st'
    split at h
    · rename_i cj fs hc
      cases hb : Nat.beq cj ci with
      | false => rw [hb] at h; cases h
      | true =>
        rw [hb, cond_true] at h
        obtain ⟨v, cs, rfl, ha, hr⟩ := f2_cons g4
        obtain rfl := av_ref ha
        obtain ⟨x, hx, hg⟩ := hs_at g5.1 hc
        dsimp only at hx
        match x, hx, hg with
        | .inr (cq, vs), hx, hg =>
          obtain ⟨rfl, hlen, hall⟩ := hg
          have hstep : ∀ v, vs[k]? = some v → s_getf ci k n (pc', cl, .ref a :: cs, W) = some (n, cl, v :: cs, W) := by
            intro v hv
            simp only [s_getf]
            rw [hx]
            simp only
            rw [hb, hv]
            rfl
          have hval : ∀ c, fs[k]? = some c → ∃ v, vs[k]? = some v ∧ af_g c v := by
            intro c hcc
            have hl : k < fs.length := (List.getElem?_eq_some_iff.mp hcc).1
            have hl' : k < vs.length := by omega
            exact ⟨vs[k], List.getElem?_eq_getElem hl', hall k c _ hcc (List.getElem?_eq_getElem hl')⟩
          have gg : as_r w E ρ (pc, lv, st', iv, ex) (pc', cl, cs, W) := ⟨g1, g2, g3, hr, g5⟩
          split at h
          · rename_i lo hi hf
            obtain ⟨B, hB, rfl⟩ := Option.map_eq_some_iff.mp h
            obtain ⟨v, e1, e2⟩ := hval _ hf
            cases v with
            | int y => exact ⟨_, hstep _ e1, B, List.mem_singleton_self _, a_gm_ok gg (by unfold ld; rw [hx]; exact e1) e2.1 e2.2 hB⟩
            | _ => exact e2.elim
          · rename_i q hf
            obtain ⟨v, e1, e2⟩ := hval _ hf
            cases v with
            | ref y => cases h; exact ⟨_, hstep _ e1, _, List.mem_singleton_self _, ρ, g1, rfl, g3, ⟨e2, hr⟩, g5⟩
            | _ => exact e2.elim
          · rename_i hf
            obtain ⟨v, e1, e2⟩ := hval _ hf
            cases v with
            | long y => cases h; exact ⟨_, hstep _ e1, _, List.mem_singleton_self _, a_pl_ok gg (al_lo _) (al_hi _)⟩
            | _ => exact e2.elim
          · cases h
    · cases h
  · cases h
/-- bounds of all elements -/
noncomputable def pat_lo : List (Int × Int) → Int
  | [] => -2147483648
  | [q] => q.1
  | q :: l => min q.1 (pat_lo l)
noncomputable def pat_hi : List (Int × Int) → Int
  | [] => 2147483647
  | [q] => q.2
  | q :: l => max q.2 (pat_hi l)
theorem pat_lo_ok {q : Int × Int} : ∀ {p : List (Int × Int)}, q ∈ p → pat_lo p ≤ q.1 ∧ q.2 ≤ pat_hi p
  | [], h => absurd h List.not_mem_nil
  | [a], h => by
    have h := List.mem_singleton.mp h
    subst h
    exact ⟨Int.le_refl _, Int.le_refl _⟩
  | a :: b :: l, h => by
    have e1 : pat_lo (a :: b :: l) = min a.1 (pat_lo (b :: l)) := rfl
    have e2 : pat_hi (a :: b :: l) = max a.2 (pat_hi (b :: l)) := rfl
    cases List.mem_cons.mp h with
    | inl e => subst e; omega
    | inr h => have := pat_lo_ok h; omega
theorem pat_at_some {p : List (Int × Int)} (h : p ≠ []) (j : Nat) : ∃ q, pat_at p j = some q ∧ q ∈ p := by
  have hl : j % p.length < p.length := Nat.mod_lt _ (List.length_pos_iff.mpr h)
  exact ⟨p[j % p.length], List.getElem?_eq_getElem hl, List.getElem_mem hl⟩
theorem pat_all {p : List (Int × Int)} {f : Nat → Int32} (h : ∀ j lo hi, pat_at p j = some (lo, hi) → lo ≤ (f j).toInt ∧ (f j).toInt ≤ hi) (j : Nat) : pat_lo p ≤ (f j).toInt ∧ (f j).toInt ≤ pat_hi p := by
  by_cases hp : p = []
  · subst hp; exact ⟨ai_lo _, ai_hi _⟩
  · obtain ⟨⟨lo, hi⟩, e, hm⟩ := pat_at_some hp j
    have h1 := h j lo hi e
    have h2 := pat_lo_ok hm
    dsimp only at h2
    omega
/-- an element of an int array of class t, read -/
noncomputable def a_ald (w : AW) (t n : Nat) : AS → Option (List AS) := fun A => match A.2.2.1 with
  | .inl (k, o) :: .inr (.inr (.inl a)) :: st => match w.1.1[a]?, iv_rng A.2.2.2.1 k o with
    | some (.inl (t', len, p)), some (l, u) => bif Nat.beq t' t && (decide (0 ≤ l) && decide (u < (len : Int))) then (bif decide (l = u) then (match pat_at p l.toNat with
        | some (lo, hi) => (a_gm n A.2.1 st A.2.2.2.1 A.2.2.2.2 a l.toNat lo hi).map (fun B => [B])
        | none => none) else some [a_pi n A.2.1 st A.2.2.2.1 A.2.2.2.2 (pat_lo p) (pat_hi p)]) else none
    | _, _ => none
  | _ => none
theorem a_ald_ok (t n : Nat) (f : pm_S → Option pm_S) (hf : ∀ (pc : Nat) (cl : List (Nat × Value)) (i : Int32) (a : Nat) (cs : List Value) (W : pm_H × Nat × Nat) (len : Nat) (g : Nat → Int32), W.1[a]? = some (.inl (t, len, .inl g)) → pm_ix i len = true → f (pc, cl, .int i :: .ref a :: cs, W) = some (n, cl, .int (g i.toNatClampNeg) :: cs, W)) : ai_ok w f (a_ald w t n) := by
  rintro E ⟨pc, lv, st, iv, ex⟩ ⟨pc', cl, cs, W⟩ As ⟨ρ, g1, g2, g3, g4, g5⟩ h
  simp only [a_ald] at h
  split at h
  · rename_i k o a st'
    split at h
    · rename_i t' len p l u hc hr
      cases hb : (Nat.beq t' t && (decide (0 ≤ l) && decide (u < (len : Int)))) with
      | false => rw [hb] at h; cases h
      | true =>
        rw [hb, cond_true] at h
        simp only [Bool.and_eq_true, decide_eq_true_eq] at hb
        obtain ⟨hb1, hb2, hb3⟩ := hb
        have ht : t' = t := Nat.eq_of_beq_eq_true hb1
        subst ht
        obtain ⟨v, cs, rfl, ha, hr0⟩ := f2_cons g4
        obtain ⟨u', cs, rfl, hc1, hs2⟩ := f2_cons hr0
        obtain ⟨i, rfl, ha⟩ := av_int ha
        obtain rfl := av_ref hc1
        obtain ⟨x, hx, hg⟩ := hs_at g5.1 hc
        dsimp only at hx
        match x, hx, hg with
        | .inl (t2, len2, .inl g), hx, hg =>
          obtain ⟨rfl, rfl, hall⟩ := hg
          have b1 := iv_rng_ok g1 ha hr
          have hstep := hf pc' cl i a cs W _ g hx (ai_ix (by omega) (by omega))
          have gg : as_r w E ρ (pc, lv, st', iv, ex) (pc', cl, cs, W) := ⟨g1, g2, g3, hs2, g5⟩
          cases hd : decide (l = u) with
          | false =>
            rw [hd] at h
            cases h
            have := pat_all hall i.toNatClampNeg
            exact ⟨_, hstep, _, List.mem_singleton_self _, a_pi_ok gg this.1 this.2⟩
          | true =>
            rw [hd, cond_true] at h
            have hd := of_decide_eq_true hd
            have hi : i.toNatClampNeg = l.toNat := by show i.toInt.toNat = l.toNat; omega
            split at h
            · rename_i lo hi' hp
              obtain ⟨B, hB, rfl⟩ := Option.map_eq_some_iff.mp h
              have := hall _ _ _ hp
              refine ⟨_, hstep, B, List.mem_singleton_self _, ?_⟩
              rw [hi]
              exact a_gm_ok gg (by unfold ld; rw [hx]) this.1 this.2 hB
            · cases h
    · cases h
  · cases h
theorem a_iald_ok (n : Nat) : ai_ok w (s_iald n) (a_ald w 0 n) := a_ald_ok 0 n _ (fun pc cl i a cs w len g h1 h2 => by simp only [s_iald]; rw [h1]; simp only; rw [h2]; rfl)
theorem a_bald_ok (n : Nat) : ai_ok w (s_bald n) (a_ald w 1 n) := a_ald_ok 1 n _ (fun pc cl i a cs w len g h1 h2 => by simp only [s_bald]; rw [h1]; simp only; rw [h2]; rfl)
theorem a_zald_ok (n : Nat) : ai_ok w (s_zald n) (a_ald w 2 n) := a_ald_ok 2 n _ (fun pc cl i a cs w len g h1 h2 => by simp only [s_zald]; rw [h1]; simp only; rw [h2]; rfl)
noncomputable def a_lald (w : AW) (n : Nat) : AS → Option (List AS) := fun A => match A.2.2.1 with
  | .inl (k, o) :: .inr (.inr (.inl a)) :: st => match w.1.1[a]?, iv_rng A.2.2.2.1 k o with
    | some (.inr (.inl len)), some (l, u) => bif decide (0 ≤ l) && decide (u < (len : Int)) then some [a_pl n A.2.1 st A.2.2.2.1 A.2.2.2.2 (-9223372036854775808) 9223372036854775807] else none
    | _, _ => none
  | _ => none
theorem a_lald_ok (n : Nat) : ai_ok w (s_lald n) (a_lald w n) := by
  rintro E ⟨pc, lv, st, iv, ex⟩ ⟨pc', cl, cs, W⟩ As ⟨ρ, g1, g2, g3, g4, g5⟩ h
  simp only [a_lald] at h
  split at h
  · rename_i k o a st'
    split at h
    · rename_i len l u hc hr
      cases hb : (decide (0 ≤ l) && decide (u < (len : Int))) with
      | false => rw [hb] at h; cases h
      | true =>
        rw [hb] at h
        cases h
        simp only [Bool.and_eq_true, decide_eq_true_eq] at hb
        obtain ⟨v, cs, rfl, ha, hr0⟩ := f2_cons g4
        obtain ⟨u', cs, rfl, hc1, hs2⟩ := f2_cons hr0
        obtain ⟨i, rfl, ha⟩ := av_int ha
        obtain rfl := av_ref hc1
        obtain ⟨x, hx, hg⟩ := hs_at g5.1 hc
        dsimp only at hx
        match x, hx, hg with
        | .inl (t2, len2, .inr (.inl g)), hx, hg =>
          obtain ⟨rfl, rfl⟩ := hg
          have b1 := iv_rng_ok g1 ha hr
          have hi := ai_ix (i := i) (len := len2) (by omega) (by omega)
          exact ⟨(n, cl, .long (g i.toNatClampNeg) :: cs, W), by simp only [s_lald]; rw [hx]; simp only; rw [hi]; rfl, _, List.mem_singleton_self _, a_pl_ok (pc := pc) (pc' := pc') (st := st') ⟨g1, g2, g3, hs2, g5⟩ (al_lo _) (al_hi _)⟩
    · cases h
  · cases h
/-- what a store leaves known -/
noncomputable def ex_kill (w : AW) (ex : AX) (a l u : Nat) : AX := (ex.1.filter (fun q => !(Nat.beq q.1.1 a && (Nat.ble l q.1.2 && Nat.ble q.1.2 u))), ex.2.1, ex.2.2.1.filter (fun i => rg_dis (w.1.2.2 i) a l u), ex.2.2.2)
theorem ex_store {E : AEnv} {n : Nat} {ρ : Nat → Int} {ex : AX} {cl : List (Nat × Value)} {h h' : pm_H} {a i l u : Nat} (g : ex_g w E n ρ ex cl h) (hs : hs_g w.1.1 h') (hl : l ≤ i) (hu : i ≤ u) (hM : rg_sub ex.2.2.2.1 a l u = true) (hld : ∀ b k, (b = a → k ≠ i) → ld h' b k = ld h b k) : ex_g w E n ρ (ex_kill w ex a l u) cl h' := by
  obtain ⟨g1, g2, g3, g4, g5, g6⟩ := g
  refine ⟨hs, fun q b hm => ?_, g3, fun j hj => ?_, fun b k hk => ?_, g6⟩
  · obtain ⟨hm1, hm2⟩ := List.mem_filter.mp hm
    obtain ⟨v, e1, e2⟩ := g2 q b hm1
    refine ⟨v, ?_, e2⟩
    rw [hld _ _ (fun hq hk => ?_)]
    · exact e1
    · simp only [hq, hk, Nat.beq_refl, Nat.ble_eq_true_of_le hl, Nat.ble_eq_true_of_le hu, Bool.and_self, Bool.not_true] at hm2
      cases hm2
  · obtain ⟨hm1, hm2⟩ := List.mem_filter.mp hj
    refine w.2 j h h' g1 hs (fun b k hbk => hld b k (fun hq hk => ?_)) (g4 j hm1)
    subst hq; subst hk
    rw [rg_dis_in hm2 hl hu] at hbk
    cases hbk
  · rw [hld b k (fun hq hk' => ?_)]
    · exact g5 b k hk
    · subst hq; subst hk'
      have hk : rg_in ex.2.2.2.1 b k = false := hk
      rw [rg_sub_in hM hl hu] at hk
      cases hk
/-- a store whose place is known is remembered -/
noncomputable def ex_note (ex : AX) (a k : Nat) (v : AV) : AX := (((a, k), v) :: ex.1, ex.2)
theorem ex_note_ok {E : AEnv} {n : Nat} {ρ : Nat → Int} {ex : AX} {cl : List (Nat × Value)} {h : pm_H} {a k : Nat} {b : AV} {v : Value} (g : ex_g w E n ρ ex cl h) (hl : ld h a k = some v) (hv : av_g n ρ b v) : ex_g w E n ρ (ex_note ex a k b) cl h := by
  refine ⟨g.1, fun q c hm => ?_, g.2.2⟩
  cases List.mem_cons.mp hm with
  | inl e => cases e; exact ⟨v, hl, hv⟩
  | inr hm => exact g.2.1 q c hm
theorem ld_set_ne {h : pm_H} {a b k : Nat} {x : pm_E} (hb : b ≠ a) : ld (h.set a x) b k = ld h b k := by
  unfold ld
  rw [List.getElem?_set_ne (Ne.symm hb)]
theorem ld_seti {h : pm_H} {a b k i t len t' len' : Nat} {f : Nat → Int32} {v : Int32} (ha : h[a]? = some (.inl (t', len', .inl f))) (hbk : b = a → k ≠ i) : ld (h.set a (.inl (t, len, .inl (upd f i v)))) b k = ld h b k := by
  by_cases hb : b = a
  · subst hb
    have hl : b < h.length := (List.getElem?_eq_some_iff.mp ha).1
    unfold ld
    rw [List.getElem?_set_self hl, ha]
    simp only [upd, if_neg (hbk rfl)]
  · exact ld_set_ne hb
theorem ld_setl {h : pm_H} {a b k i t len t' len' : Nat} {f : Nat → Int64} {v : Int64} (ha : h[a]? = some (.inl (t', len', .inr (.inl f)))) (hbk : b = a → k ≠ i) : ld (h.set a (.inl (t, len, .inr (.inl (vp_updL f i v))))) b k = ld h b k := by
  by_cases hb : b = a
  · subst hb
    have hl : b < h.length := (List.getElem?_eq_some_iff.mp ha).1
    unfold ld
    rw [List.getElem?_set_self hl, ha]
    simp only [vp_updL, if_neg (hbk rfl)]
  · exact ld_set_ne hb
theorem ld_setf {h : pm_H} {a b k i c c' : Nat} {fs : List Value} {v : Value} (ha : h[a]? = some (.inr (c', fs))) (hbk : b = a → k ≠ i) : ld (h.set a (.inr (c, fs.set i v))) b k = ld h b k := by
  by_cases hb : b = a
  · subst hb
    have hl : b < h.length := (List.getElem?_eq_some_iff.mp ha).1
    unfold ld
    rw [List.getElem?_set_self hl, ha]
    simp only [List.getElem?_set_ne (Ne.symm (hbk rfl))]
  · exact ld_set_ne hb
end AIH
end
section
/-! THE EXECUTOR (second writing), part 9: stores, references, switches, what lies outside -/
section AIT
variable {w : AW}
/-- a value within the bounds of an element, or of all -/
noncomputable def pat_fit (p : List (Int × Int)) (l u a b : Int) : Bool := bif decide (l = u) then (match pat_at p l.toNat with | some (lo, hi) => decide (lo ≤ a) && decide (b ≤ hi) | none => false) else p.all (fun q => decide (q.1 ≤ a) && decide (b ≤ q.2))
theorem pat_fit_ok {p : List (Int × Int)} {f : Nat → Int32} {l u a b : Int} {i x : Int32} (h : ∀ j lo hi, pat_at p j = some (lo, hi) → lo ≤ (f j).toInt ∧ (f j).toInt ≤ hi) (hf : pat_fit p l u a b = true) (h0 : 0 ≤ l) (h1 : l ≤ i.toInt) (h2 : i.toInt ≤ u) (h3 : a ≤ x.toInt) (h4 : x.toInt ≤ b) :
    ∀ j lo hi, pat_at p j = some (lo, hi) → lo ≤ (upd f i.toNatClampNeg x j).toInt ∧ (upd f i.toNatClampNeg x j).toInt ≤ hi := by
  intro j lo hi hp
  unfold upd
  by_cases hj : j = i.toNatClampNeg
  · rw [if_pos hj]
    unfold pat_fit at hf
    cases hd : decide (l = u) with
    | true =>
      rw [hd, cond_true] at hf
      have hd := of_decide_eq_true hd
      have hi : j = l.toNat := by rw [hj]; show i.toInt.toNat = l.toNat; omega
      subst hi
      rw [hp] at hf
      simp only [Bool.and_eq_true, decide_eq_true_eq] at hf
      omega
    | false =>
      rw [hd, cond_false] at hf
      have hm : (lo, hi) ∈ p := List.mem_of_getElem? hp
      have := List.all_eq_true.mp hf _ hm
      simp only [Bool.and_eq_true, decide_eq_true_eq] at this
      omega
  · rw [if_neg hj]
    exact h j lo hi hp
/-- a store to an int array of class t: the value as it is, within c and d -/
noncomputable def a_ast (w : AW) (t : Nat) (c d : Int) (n : Nat) : AS → Option (List AS) := fun A => match A.2.2.1 with
  | .inl (kv, ov) :: .inl (k, o) :: .inr (.inr (.inl a)) :: st => match w.1.1[a]?, iv_rng A.2.2.2.1 k o, iv_rng A.2.2.2.1 kv ov with
    | some (.inl (t', len, p)), some (l, u), some (va, vb) => bif (Nat.beq t' t && (decide (0 ≤ l) && decide (u < (len : Int)))) && ((decide (c ≤ va) && decide (vb ≤ d)) && (pat_fit p l u va vb && rg_sub A.2.2.2.2.2.2.2.1 a l.toNat u.toNat)) then some [(n, A.2.1, st, A.2.2.2.1, bif decide (l = u) then ex_note (ex_kill w A.2.2.2.2 a l.toNat u.toNat) a l.toNat (.inl (kv, ov)) else ex_kill w A.2.2.2.2 a l.toNat u.toNat)] else none
    | _, _, _ => none
  | _ => none
theorem a_ast_ok (t : Nat) (c d : Int) (n : Nat) (f : pm_S → Option pm_S) (hf : ∀ (pc : Nat) (cl : List (Nat × Value)) (x i : Int32) (a : Nat) (cs : List Value) (W : pm_H × Nat × Nat) (len : Nat) (g : Nat → Int32), W.1[a]? = some (.inl (t, len, .inl g)) → pm_ix i len = true → c ≤ x.toInt → x.toInt ≤ d → f (pc, cl, .int x :: .int i :: .ref a :: cs, W) = some (n, cl, cs, W.1.set a (.inl (t, len, .inl (upd g i.toNatClampNeg x))), W.2)) : ai_ok w f (a_ast w t c d n) := by
  rintro E ⟨pc, lv, st, iv, ex⟩ ⟨pc', cl, cs, W⟩ As ⟨ρ, g1, g2, g3, g4, g5⟩ h
  simp only [a_ast] at h
  split at h
  · rename_i kv ov k o a st'
    split at h
    · rename_i t' len p l u va vb hc hr hrv
      cases hb : ((Nat.beq t' t && (decide (0 ≤ l) && decide (u < (len : Int)))) && ((decide (c ≤ va) && decide (vb ≤ d)) && (pat_fit p l u va vb && rg_sub ex.2.2.2.1 a l.toNat u.toNat))) with
      | false => rw [hb] at h; cases h
      | true =>
        rw [hb] at h
        cases h
        simp only [Bool.and_eq_true, decide_eq_true_eq] at hb
        obtain ⟨⟨hb1, hb2, hb3⟩, ⟨hb4, hb5⟩, hb6, hb7⟩ := hb
        have ht : t' = t := Nat.eq_of_beq_eq_true hb1
        subst ht
        obtain ⟨v0, cs, rfl, hv, hr00⟩ := f2_cons g4
        obtain ⟨v, cs, rfl, ha, hr0⟩ := f2_cons hr00
        obtain ⟨u', cs, rfl, hc1, hs2⟩ := f2_cons hr0
        obtain ⟨x, rfl, hv⟩ := av_int hv
        obtain ⟨i, rfl, ha⟩ := av_int ha
        obtain rfl := av_ref hc1
        obtain ⟨z, hx, hg⟩ := hs_at g5.1 hc
        dsimp only at hx
        match z, hx, hg with
        | .inl (t2, len2, .inl g), hx, hg =>
          obtain ⟨rfl, rfl, hall⟩ := hg
          have b1 := iv_rng_ok g1 ha hr
          have b2 := iv_rng_ok g1 hv hrv
          have hstep := hf pc' cl x i a cs W _ g hx (ai_ix (by omega) (by omega)) (by omega) (by omega)
          have hh : hs_g w.1.1 (W.1.set a (.inl (t2, len2, .inl (upd g i.toNatClampNeg x)))) := hs_set g5.1 hc ⟨rfl, rfl, pat_fit_ok hall hb6 hb2 b1.1 b1.2 b2.1 b2.2⟩
          have hi1 : l.toNat ≤ i.toNatClampNeg := by show l.toNat ≤ i.toInt.toNat; omega
          have hi2 : i.toNatClampNeg ≤ u.toNat := by show i.toInt.toNat ≤ u.toNat; omega
          have he : ex_g w E iv.length ρ (ex_kill w ex a l.toNat u.toNat) cl (W.1.set a (.inl (t2, len2, .inl (upd g i.toNatClampNeg x)))) := ex_store g5 hh hi1 hi2 hb7 (fun b k hbk => ld_seti hx hbk)
          refine ⟨_, hstep, _, List.mem_singleton_self _, ρ, g1, rfl, g3, hs2, ?_⟩
          show ex_g w E iv.length ρ (bif decide (l = u) then ex_note (ex_kill w ex a l.toNat u.toNat) a l.toNat (.inl (kv, ov)) else ex_kill w ex a l.toNat u.toNat) cl (W.1.set a (.inl (t2, len2, .inl (upd g i.toNatClampNeg x))))
          cases hd : decide (l = u) with
          | false => exact he
          | true =>
            have hd := of_decide_eq_true hd
            have hi : l.toNat = i.toNatClampNeg := by show l.toNat = i.toInt.toNat; omega
            refine ex_note_ok he (v := .int x) ?_ hv
            have hl : a < W.1.length := (List.getElem?_eq_some_iff.mp hx).1
            unfold ld
            rw [List.getElem?_set_self hl]
            simp only [upd, hi, if_pos]
    · cases h
  · cases h
theorem a_iast_ok (n : Nat) : ai_ok w (s_iast n) (a_ast w 0 (-2147483648) 2147483647 n) := a_ast_ok 0 _ _ n _ (fun pc cl x i a cs W len g h1 h2 _ _ => by simp only [s_iast]; rw [h1]; simp only; rw [h2]; rfl)
theorem a_bast_ok (n : Nat) : ai_ok w (s_bast n) (a_ast w 1 (-128) 127 n) := a_ast_ok 1 _ _ n _ (fun pc cl x i a cs W len g h1 h2 h3 h4 => by
  have hx : vp_nar .byte x = x := by rw [vp_nar_byte]; exact Int32.toInt_inj.mp (i2b_id h3 h4)
  simp only [s_bast]; rw [h1]; simp only; rw [h2, hx]; rfl)
theorem a_zast_ok (n : Nat) : ai_ok w (s_zast n) (a_ast w 2 0 1 n) := a_ast_ok 2 _ _ n _ (fun pc cl x i a cs W len g h1 h2 h3 h4 => by
  have hx : vp_nar .boolean x = x := by
    by_cases h0 : x.toInt = 0
    · have : x = 0 := Int32.toInt_inj.mp h0
      subst this; rfl
    · have : x = 1 := Int32.toInt_inj.mp (by show x.toInt = 1; omega)
      subst this; rfl
  simp only [s_zast]; rw [h1]; simp only; rw [h2, hx]; rfl)
noncomputable def a_last (w : AW) (n : Nat) : AS → Option (List AS) := fun A => match A.2.2.1 with
  | .inr (.inl _) :: .inl (k, o) :: .inr (.inr (.inl a)) :: st => match w.1.1[a]?, iv_rng A.2.2.2.1 k o with
    | some (.inr (.inl len)), some (l, u) => bif (decide (0 ≤ l) && decide (u < (len : Int))) && rg_sub A.2.2.2.2.2.2.2.1 a l.toNat u.toNat then some [(n, A.2.1, st, A.2.2.2.1, ex_kill w A.2.2.2.2 a l.toNat u.toNat)] else none
    | _, _ => none
  | _ => none
theorem a_last_ok (n : Nat) : ai_ok w (s_last n) (a_last w n) := by
  rintro E ⟨pc, lv, st, iv, ex⟩ ⟨pc', cl, cs, W⟩ As ⟨ρ, g1, g2, g3, g4, g5⟩ h
  simp only [a_last] at h
  split at h
  · rename_i va k o a st'
    split at h
    · rename_i len l u hc hr
      cases hb : ((decide (0 ≤ l) && decide (u < (len : Int))) && rg_sub ex.2.2.2.1 a l.toNat u.toNat) with
      | false => rw [hb] at h; cases h
      | true =>
        rw [hb] at h
        cases h
        simp only [Bool.and_eq_true, decide_eq_true_eq] at hb
        obtain ⟨⟨hb2, hb3⟩, hb7⟩ := hb
        obtain ⟨v0, cs, rfl, hv, hr00⟩ := f2_cons g4
        obtain ⟨v, cs, rfl, ha, hr0⟩ := f2_cons hr00
        obtain ⟨u', cs, rfl, hc1, hs2⟩ := f2_cons hr0
        obtain ⟨x, rfl, hv⟩ := av_long hv
        obtain ⟨i, rfl, ha⟩ := av_int ha
        obtain rfl := av_ref hc1
        obtain ⟨z, hx, hg⟩ := hs_at g5.1 hc
        dsimp only at hx
        match z, hx, hg with
        | .inl (t2, len2, .inr (.inl g)), hx, hg =>
          obtain ⟨rfl, rfl⟩ := hg
          have b1 := iv_rng_ok g1 ha hr
          have hi := ai_ix (i := i) (len := len2) (by omega) (by omega)
          have hh : hs_g w.1.1 (W.1.set a (.inl (3, len2, .inr (.inl (vp_updL g i.toNatClampNeg x))))) := hs_set g5.1 hc ⟨rfl, rfl⟩
          have hi1 : l.toNat ≤ i.toNatClampNeg := by show l.toNat ≤ i.toInt.toNat; omega
          have hi2 : i.toNatClampNeg ≤ u.toNat := by show i.toInt.toNat ≤ u.toNat; omega
          exact ⟨(n, cl, cs, W.1.set a (.inl (3, len2, .inr (.inl (vp_updL g i.toNatClampNeg x)))), W.2), by simp only [s_last]; rw [hx]; simp only; rw [hi]; rfl, _, List.mem_singleton_self _, ρ, g1, rfl, g3, hs2, ex_store g5 hh hi1 hi2 hb7 (fun b k hbk => ld_setl hx hbk)⟩
    · cases h
  · cases h
/-- a field is stored to -/
noncomputable def a_putf (w : AW) (ci k : Nat) (ty : FieldType) (n : Nat) : AS → Option (List AS) := fun A => match A.2.2.1 with
  | v :: .inr (.inr (.inl a)) :: st => match w.1.1[a]? with
    | some (.inr (.inr (.inr (cj, fs)))) => bif Nat.beq cj ci && rg_sub A.2.2.2.2.2.2.2.1 a k k then (match fs[k]?, v, ty with
      | some (.inl (lo, hi)), .inl (kv, ov), .int => match iv_rng A.2.2.2.1 kv ov with
        | some (va, vb) => bif decide (lo ≤ va) && decide (vb ≤ hi) then some [(n, A.2.1, st, A.2.2.2.1, ex_note (ex_kill w A.2.2.2.2 a k k) a k (.inl (kv, ov)))] else none
        | none => none
      | some (.inl (lo, hi)), .inl (kv, ov), .boolean => match iv_rng A.2.2.2.1 kv ov with
        | some (va, vb) => bif (decide (lo ≤ va) && decide (vb ≤ hi)) && (decide (0 ≤ va) && decide (vb ≤ 1)) then some [(n, A.2.1, st, A.2.2.2.1, ex_note (ex_kill w A.2.2.2.2 a k k) a k (.inl (kv, ov)))] else none
        | none => none
      | some (.inr (.inl ())), .inr (.inl _), .long => some [(n, A.2.1, st, A.2.2.2.1, ex_kill w A.2.2.2.2 a k k)]
      | _, _, _ => none) else none
    | _ => none
  | _ => none
theorem a_putf_ok (ci k : Nat) (ty : FieldType) (n : Nat) : ai_ok w (s_putf ci k ty n) (a_putf w ci k ty n) := by
  rintro E ⟨pc, lv, st, iv, ex⟩ ⟨pc', cl, cs, W⟩ As ⟨ρ, g1, g2, g3, g4, g5⟩ h
  simp only [a_putf] at h
  split at h
  · rename_i v a st'
    split at h
    · rename_i cj fs hc
      cases hb : (Nat.beq cj ci && rg_sub ex.2.2.2.1 a k k) with
      | false => rw [hb] at h; cases h
      | true =>
        rw [hb, cond_true] at h
        rw [Bool.and_eq_true] at hb
        obtain ⟨hb1, hb2⟩ := hb
        obtain ⟨v0, cs, rfl, hv, hr0⟩ := f2_cons g4
        obtain ⟨u', cs, rfl, hc1, hs2⟩ := f2_cons hr0
        obtain rfl := av_ref hc1
        obtain ⟨z, hx, hg⟩ := hs_at g5.1 hc
        dsimp only at hx
        match z, hx, hg with
        | .inr (cq, vs), hx, hg =>
          obtain ⟨rfl, hlen, hall⟩ := hg
          have key : ∀ cf, fs[k]? = some cf → af_g cf v0 → pm_fit ty v0 = true → s_putf ci k ty n (pc', cl, v0 :: .ref a :: cs, W) = some (n, cl, cs, W.1.set a (.inr (cq, vs.set k v0)), W.2) ∧ hs_g w.1.1 (W.1.set a (.inr (cq, vs.set k v0))) ∧ ld (W.1.set a (.inr (cq, vs.set k v0))) a k = some v0 := by
            intro cf hcf haf hfit
            have hl : k < fs.length := (List.getElem?_eq_some_iff.mp hcf).1
            have hl' : k < vs.length := by omega
            have hla : a < W.1.length := (List.getElem?_eq_some_iff.mp hx).1
            refine ⟨?_, hs_set g5.1 hc ⟨rfl, by rw [List.length_set]; exact hlen, fun q c y h1 h2 => ?_⟩, ?_⟩
            · simp only [s_putf]
              rw [hx]
              simp only
              have hlt : Nat.blt k vs.length = true := Nat.ble_eq_true_of_le hl'
              rw [hb1, hfit, hlt]
              rfl
            · by_cases hq : k = q
              · subst hq
                rw [List.getElem?_set_self hl'] at h2
                cases h2
                rw [hcf] at h1
                cases h1
                exact haf
              · rw [List.getElem?_set_ne hq] at h2
                exact hall q c y h1 h2
            · unfold ld
              rw [List.getElem?_set_self hla]
              simp only [List.getElem?_set_self hl']
          have hkill : hs_g w.1.1 (W.1.set a (.inr (cq, vs.set k v0))) → ex_g w E iv.length ρ (ex_kill w ex a k k) cl (W.1.set a (.inr (cq, vs.set k v0))) := fun hh => ex_store g5 hh (Nat.le_refl _) (Nat.le_refl _) hb2 (fun b q hbk => ld_setf hx hbk)
          split at h
          · rename_i lo hi kv ov hfk
            split at h
            · rename_i va vb hrv
              cases hd : (decide (lo ≤ va) && decide (vb ≤ hi)) with
              | false => rw [hd] at h; cases h
              | true =>
                rw [hd] at h
                cases h
                simp only [Bool.and_eq_true, decide_eq_true_eq] at hd
                obtain ⟨x, rfl, hv'⟩ := av_int hv
                have b2 := iv_rng_ok g1 hv' hrv
                obtain ⟨k1, k2, k3⟩ := key _ hfk (show lo ≤ x.toInt ∧ x.toInt ≤ hi by omega) rfl
                exact ⟨_, k1, _, List.mem_singleton_self _, ρ, g1, rfl, g3, hs2, ex_note_ok (hkill k2) k3 hv⟩
            · cases h
          · rename_i lo hi kv ov hfk
            split at h
            · rename_i va vb hrv
              cases hd : ((decide (lo ≤ va) && decide (vb ≤ hi)) && (decide (0 ≤ va) && decide (vb ≤ 1))) with
              | false => rw [hd] at h; cases h
              | true =>
                rw [hd] at h
                cases h
                simp only [Bool.and_eq_true, decide_eq_true_eq] at hd
                obtain ⟨x, rfl, hv'⟩ := av_int hv
                have b2 := iv_rng_ok g1 hv' hrv
                have hfit : pm_fit .boolean (.int x) = true := by
                  by_cases h0 : x.toInt = 0
                  · have : x = 0 := Int32.toInt_inj.mp h0
                    subst this; rfl
                  · have : x = 1 := Int32.toInt_inj.mp (by show x.toInt = 1; omega)
                    subst this; rfl
                obtain ⟨k1, k2, k3⟩ := key _ hfk (show lo ≤ x.toInt ∧ x.toInt ≤ hi by omega) hfit
                exact ⟨_, k1, _, List.mem_singleton_self _, ρ, g1, rfl, g3, hs2, ex_note_ok (hkill k2) k3 hv⟩
            · cases h
          · rename_i kv hfk
            cases h
            obtain ⟨x, rfl, hv'⟩ := av_long hv
            obtain ⟨k1, k2, k3⟩ := key _ hfk trivial rfl
            exact ⟨_, k1, _, List.mem_singleton_self _, ρ, g1, rfl, g3, hs2, hkill k2⟩
          · cases h
    · cases h
  · cases h
/-- one state for each number from l on -/
noncomputable def a_each (k : Option Nat) (o : Int) (iv : IV) (f : Nat → IV → Option AS) : Nat → Nat → List AS
  | _, 0 => []
  | l, m + 1 => (match iv_nar iv k o (l : Int) (l : Int) with | some iv' => (f l iv').toList | none => []) ++ a_each k o iv f (l + 1) m
theorem a_each_in {k : Option Nat} {o : Int} {iv : IV} {f : Nat → IV → Option AS} {iv' : IV} {B : AS} {j : Nat} (h1 : iv_nar iv k o (j : Int) (j : Int) = some iv') (h2 : f j iv' = some B) : ∀ (m l : Nat), l ≤ j → j < l + m → B ∈ a_each k o iv f l m
  | 0, l, h3, h4 => absurd h4 (by omega)
  | m + 1, l, h3, h4 => by
    unfold a_each
    by_cases hj : l = j
    · subst hj
      rw [h1]
      simp only [h2]
      exact List.mem_append_left _ (List.mem_singleton_self _)
    · exact List.mem_append_right _ (a_each_in h1 h2 m (l + 1) (by omega) (by omega))
/-- a reference out of an array -/
noncomputable def a_aald (w : AW) (t n : Nat) : AS → Option (List AS) := fun A => match A.2.2.1 with
  | .inl (k, o) :: .inr (.inr (.inl a)) :: st => match w.1.1[a]?, iv_rng A.2.2.2.1 k o with
    | some (.inr (.inr (.inl (t', fs)))), some (l, u) => bif Nat.beq t' t && ((decide (0 ≤ l) && decide (u < (fs.length : Int))) && fs.all (fun q => q.isSome)) then some (a_each k o A.2.2.2.1 (fun j iv' => match fs[j]? with
        | some (some r) => some (n, A.2.1, .inr (.inr (.inl r)) :: st, iv', A.2.2.2.2)
        | _ => none) l.toNat (u - l + 1).toNat) else none
    | _, _ => none
  | _ => none
theorem a_aald_ok (t n : Nat) : ai_ok w (s_aald t n) (a_aald w t n) := by
  rintro E ⟨pc, lv, st, iv, ex⟩ ⟨pc', cl, cs, W⟩ As ⟨ρ, g1, g2, g3, g4, g5⟩ h
  simp only [a_aald] at h
  split at h
  · rename_i k o a st'
    split at h
    · rename_i t' fs l u hc hr
      cases hb : (Nat.beq t' t && ((decide (0 ≤ l) && decide (u < (fs.length : Int))) && fs.all (fun q => q.isSome))) with
      | false => rw [hb] at h; cases h
      | true =>
        rw [hb] at h
        cases h
        simp only [Bool.and_eq_true, decide_eq_true_eq] at hb
        obtain ⟨hb1, ⟨hb2, hb3⟩, hb4⟩ := hb
        obtain ⟨v, cs, rfl, ha, hr0⟩ := f2_cons g4
        obtain ⟨u', cs, rfl, hc1, hs2⟩ := f2_cons hr0
        obtain ⟨i, rfl, ha⟩ := av_int ha
        obtain rfl := av_ref hc1
        obtain ⟨z, hx, hg⟩ := hs_at g5.1 hc
        dsimp only at hx
        match z, hx, hg with
        | .inl (t2, len2, .inr (.inr (.inr (.inr g)))), hx, hg =>
          obtain ⟨rfl, rfl, hall⟩ := hg
          have b1 := iv_rng_ok g1 ha hr
          have hi := ai_ix (i := i) (len := fs.length) (by omega) (by omega)
          have hlt : i.toNatClampNeg < fs.length := by show i.toInt.toNat < fs.length; omega
          have hfi : fs[i.toNatClampNeg]? = some fs[i.toNatClampNeg] := List.getElem?_eq_getElem hlt
          have hsm := List.all_eq_true.mp hb4 _ (List.getElem_mem hlt)
          obtain ⟨r, hr'⟩ := Option.isSome_iff_exists.mp hsm
          rw [hr'] at hfi
          have hgi := hall _ _ hfi
          have hcast : ((i.toNatClampNeg : Nat) : Int) = i.toInt := by show ((i.toInt.toNat : Nat) : Int) = i.toInt; omega
          obtain ⟨iv', e1, e2, e3⟩ := iv_nar_ok (lo := (i.toNatClampNeg : Int)) (hi := (i.toNatClampNeg : Int)) g1 ha (by omega) (by omega)
          have gg : as_r w E ρ (pc, lv, st', iv, ex) (pc', cl, cs, W) := ⟨g1, g2, g3, hs2, g5⟩
          obtain ⟨q1, q2, q3, q4, q5⟩ := as_iv gg e2 e3
          refine ⟨(n, cl, .ref r :: cs, W), ?_, (n, lv, .inr (.inr (.inl r)) :: st', iv', ex), a_each_in e1 (by simp only [hfi]) _ _ ?_ ?_, ρ, q1, rfl, q3, ⟨rfl, q4⟩, q5⟩
          · simp only [s_aald]
            rw [hx]
            simp only
            rw [hb1, hi, hgi]
            rfl
          · show l.toNat ≤ i.toInt.toNat; omega
          · show i.toInt.toNat < l.toNat + _; omega
    · cases h
  · cases h
/-- a switch -/
noncomputable def a_tsw (lo hi : Int) (ts : List Nat) (d : Nat) : AS → Option (List AS) := fun A => match A.2.2.1 with
  | .inl (k, o) :: st => bif decide ((ts.length : Int) = hi - lo + 1) then some (a_each k (o - lo) A.2.2.2.1 (fun j iv' => match ts[j]? with
        | some t => some (t, A.2.1, st, iv', A.2.2.2.2)
        | none => none) 0 ts.length ++ ((match iv_nar A.2.2.2.1 k o (-2147483648) (lo - 1) with | some iv' => [(d, A.2.1, st, iv', A.2.2.2.2)] | none => []) ++ (match iv_nar A.2.2.2.1 k o (hi + 1) 2147483647 with | some iv' => [(d, A.2.1, st, iv', A.2.2.2.2)] | none => []))) else none
  | _ => none
theorem a_tsw_ok (lo hi : Int) (ts : List Nat) (d : Nat) : ai_ok w (s_tsw lo hi ts d) (a_tsw lo hi ts d) := by
  rintro E ⟨pc, lv, st, iv, ex⟩ ⟨pc', cl, cs, W⟩ As ⟨ρ, g1, g2, g3, g4, g5⟩ h
  simp only [a_tsw] at h
  split at h
  · rename_i k o st'
    cases hb : decide ((ts.length : Int) = hi - lo + 1) with
    | false => rw [hb] at h; cases h
    | true =>
      rw [hb] at h
      cases h
      have hb1 := of_decide_eq_true hb
      obtain ⟨v, cs, rfl, ha, hr⟩ := f2_cons g4
      obtain ⟨x, rfl, ha⟩ := av_int ha
      have gg : as_r w E ρ (pc, lv, st', iv, ex) (pc', cl, cs, W) := ⟨g1, g2, g3, hr, g5⟩
      have xl := ai_lo x
      have xh := ai_hi x
      by_cases h1 : x.toInt < lo
      · obtain ⟨iv', e1, e2, e3⟩ := iv_nar_ok (lo := -2147483648) (hi := lo - 1) g1 ha (by omega) (by omega)
        obtain ⟨q1, q2, q3, q4, q5⟩ := as_iv gg e2 e3
        refine ⟨(d, cl, cs, W), by simp only [s_tsw, h1, decide_true, Bool.true_or, cond_true], (d, lv, st', iv', ex), ?_, ρ, q1, rfl, q3, q4, q5⟩
        refine List.mem_append_right _ (List.mem_append_left _ ?_)
        rw [e1]
        exact List.mem_singleton_self _
      · by_cases h2 : hi < x.toInt
        · obtain ⟨iv', e1, e2, e3⟩ := iv_nar_ok (lo := hi + 1) (hi := 2147483647) g1 ha (by omega) (by omega)
          obtain ⟨q1, q2, q3, q4, q5⟩ := as_iv gg e2 e3
          refine ⟨(d, cl, cs, W), by simp only [s_tsw, h2, decide_true, Bool.or_true, cond_true], (d, lv, st', iv', ex), ?_, ρ, q1, rfl, q3, q4, q5⟩
          refine List.mem_append_right _ (List.mem_append_right _ ?_)
          rw [e1]
          exact List.mem_singleton_self _
        · have hlt : (x.toInt - lo).toNat < ts.length := by omega
          have hj : ts[(x.toInt - lo).toNat]? = some ts[(x.toInt - lo).toNat] := List.getElem?_eq_getElem hlt
          have hc : (((x.toInt - lo).toNat : Nat) : Int) = x.toInt - lo := by omega
          have ha2 : av_ev iv.length ρ k (o - lo) (x.toInt - lo) := by
            cases k with
            | none => have ha : x.toInt = o := ha; show x.toInt - lo = o - lo; omega
            | some k => exact ⟨ha.1, by have := ha.2; show x.toInt - lo = ρ k + (o - lo); omega⟩
          obtain ⟨iv', e1, e2, e3⟩ := iv_nar_ok (lo := ((x.toInt - lo).toNat : Int)) (hi := ((x.toInt - lo).toNat : Int)) g1 ha2 (by omega) (by omega)
          obtain ⟨q1, q2, q3, q4, q5⟩ := as_iv gg e2 e3
          refine ⟨(ts[(x.toInt - lo).toNat], cl, cs, W), ?_, (ts[(x.toInt - lo).toNat], lv, st', iv', ex), List.mem_append_left _ (a_each_in e1 (by simp only [hj]) _ _ (by omega) (by omega)), ρ, q1, rfl, q3, q4, q5⟩
          simp only [s_tsw, h1, h2, decide_false, Bool.or_self, cond_false, hj]
  · cases h
end AIT
end
section
/-! THE EXECUTOR (second writing), part 10: what lies outside; cases -/
section AIU
variable {w : AW}
noncomputable def a_sval (n : Nat) : AS → Option (List AS) := fun A => match A.2.2.1 with
  | .inr (.inr (.inr (.inl k))) :: st => bif Nat.ble 4 k && Nat.blt k 12 then some [(n, A.2.1, .inr (.inr (.inr (.inl (k + 8)))) :: st, A.2.2.2)] else none
  | _ => none
theorem a_sval_ok (n : Nat) : ai_ok w (s_sval n) (a_sval n) := by
  rintro E ⟨pc, lv, st, iv, ex⟩ ⟨pc', cl, cs, W⟩ As ⟨ρ, g1, g2, g3, g4, g5⟩ h
  simp only [a_sval] at h
  split at h
  · rename_i k st'
    cases hb : (Nat.ble 4 k && Nat.blt k 12) with
    | false => rw [hb] at h; cases h
    | true =>
      rw [hb] at h
      cases h
      obtain ⟨v, cs, rfl, ha, hr⟩ := f2_cons g4
      obtain rfl := av_out ha
      exact ⟨(n, cl, .retAddr (k + 8) :: cs, W), by simp only [s_sval, hb, cond_true], _, List.mem_singleton_self _, ρ, g1, rfl, g3, ⟨rfl, hr⟩, g5⟩
  · cases h
noncomputable def a_scod (n : Nat) : AS → Option (List AS) := fun A => match A.2.2.1 with
  | .inr (.inr (.inr (.inl k))) :: st => bif Nat.ble 4 k && Nat.blt k 12 then some [(n, A.2.1, .inl (none, 0) :: st, A.2.2.2)] else none
  | _ => none
theorem a_scod_ok (n : Nat) : ai_ok w (s_scod n) (a_scod n) := by
  rintro E ⟨pc, lv, st, iv, ex⟩ ⟨pc', cl, cs, W⟩ As ⟨ρ, g1, g2, g3, g4, g5⟩ h
  simp only [a_scod] at h
  split at h
  · rename_i k st'
    cases hb : (Nat.ble 4 k && Nat.blt k 12) with
    | false => rw [hb] at h; cases h
    | true =>
      rw [hb] at h
      cases h
      obtain ⟨v, cs, rfl, ha, hr⟩ := f2_cons g4
      obtain rfl := av_out ha
      exact ⟨(n, cl, .int 0 :: cs, W), by simp only [s_scod, hb, cond_true], _, List.mem_singleton_self _, ρ, g1, rfl, g3, ⟨rfl, hr⟩, g5⟩
  · cases h
noncomputable def a_sblen (n : Nat) : AS → Option (List AS) := fun A => match A.2.2.1 with
  | .inr (.inr (.inr (.inl k))) :: st => bif Nat.ble 12 k && Nat.blt k 20 then some [(n, A.2.1, .inl (none, (Int32.ofNat (pm_len.getD (k - 12) 0)).toInt) :: st, A.2.2.2)] else none
  | _ => none
theorem a_sblen_ok (n : Nat) : ai_ok w (s_sblen n) (a_sblen n) := by
  rintro E ⟨pc, lv, st, iv, ex⟩ ⟨pc', cl, cs, W⟩ As ⟨ρ, g1, g2, g3, g4, g5⟩ h
  simp only [a_sblen] at h
  split at h
  · rename_i k st'
    cases hb : (Nat.ble 12 k && Nat.blt k 20) with
    | false => rw [hb] at h; cases h
    | true =>
      rw [hb] at h
      cases h
      obtain ⟨v, cs, rfl, ha, hr⟩ := f2_cons g4
      obtain rfl := av_out ha
      exact ⟨(n, cl, .int (Int32.ofNat (pm_len.getD (k - 12) 0)) :: cs, W), by simp only [s_sblen, hb, cond_true], _, List.mem_singleton_self _, ρ, g1, rfl, g3, ⟨rfl, hr⟩, g5⟩
  · cases h
theorem byt_rg (k j : Nat) : 0 ≤ ((pm_byt.getD k []).getD j 0).toInt ∧ ((pm_byt.getD k []).getD j 0).toInt ≤ 127 := by
  have hall : ∀ l ∈ pm_byt, ∀ b ∈ l, 0 ≤ b.toInt ∧ b.toInt ≤ 127 := by decide +kernel
  have h0 : 0 ≤ (0 : Int32).toInt ∧ (0 : Int32).toInt ≤ 127 := by decide
  rw [List.getD_eq_getElem?_getD, List.getD_eq_getElem?_getD]
  cases hk : pm_byt[k]? with
  | none => exact h0
  | some l =>
    show 0 ≤ (l[j]?.getD 0).toInt ∧ (l[j]?.getD 0).toInt ≤ 127
    cases hj : l[j]? with
    | none => exact h0
    | some b => exact hall l (List.mem_of_getElem? hk) b (List.mem_of_getElem? hj)
noncomputable def a_sbald (n : Nat) : AS → Option (List AS) := fun A => match A.2.2.1 with
  | .inl (kk, o) :: .inr (.inr (.inr (.inl k))) :: st => match iv_rng A.2.2.2.1 kk o with
    | some (l, u) => bif (Nat.ble 12 k && Nat.blt k 20) && (decide (0 ≤ l) && decide (u < ((pm_len.getD (k - 12) 0 : Nat) : Int))) then some [a_pi n A.2.1 st A.2.2.2.1 A.2.2.2.2 0 127] else none
    | none => none
  | _ => none
theorem a_sbald_ok (n : Nat) : ai_ok w (s_sbald n) (a_sbald n) := by
  rintro E ⟨pc, lv, st, iv, ex⟩ ⟨pc', cl, cs, W⟩ As ⟨ρ, g1, g2, g3, g4, g5⟩ h
  simp only [a_sbald] at h
  split at h
  · rename_i kk o k st'
    split at h
    · rename_i l u r
      cases hb : ((Nat.ble 12 k && Nat.blt k 20) && (decide (0 ≤ l) && decide (u < ((pm_len.getD (k - 12) 0 : Nat) : Int)))) with
      | false => rw [hb] at h; cases h
      | true =>
        rw [hb] at h
        cases h
        rw [Bool.and_eq_true] at hb
        obtain ⟨hb1, hb2⟩ := hb
        simp only [Bool.and_eq_true, decide_eq_true_eq] at hb2
        obtain ⟨v, cs, rfl, ha, hr0⟩ := f2_cons g4
        obtain ⟨v2, cs, rfl, hc, hr⟩ := f2_cons hr0
        obtain ⟨i, rfl, ha⟩ := av_int ha
        obtain rfl := av_out hc
        have b1 := iv_rng_ok g1 ha r
        have hi := ai_ix (i := i) (len := pm_len.getD (k - 12) 0) (by omega) (by omega)
        have hv := byt_rg (k - 12) i.toNatClampNeg
        exact ⟨(n, cl, .int ((pm_byt.getD (k - 12) []).getD i.toNatClampNeg 0) :: cs, W), by simp only [s_sbald, hb1, hi, Bool.and_self, cond_true], _, List.mem_singleton_self _, a_pi_ok (st := st') (pc := pc) (pc' := pc') ⟨g1, g2, g3, hr, g5⟩ hv.1 hv.2⟩
    · cases h
  · cases h
theorem fac_rg : ∀ j : Fin 9, 1 ≤ (pm_fac j.1).toInt ∧ (pm_fac j.1).toInt ≤ 40320 := by decide +kernel
theorem rbs_rg : ∀ j : Fin 55, 0 ≤ (pm_rbs j.1).toInt ∧ (pm_rbs j.1).toInt ≤ 270 := by decide +kernel
noncomputable def a_tald (n : Nat) : AS → Option (List AS) := fun A => match A.2.2.1 with
  | .inl (kk, o) :: .inr (.inr (.inr (.inl 1))) :: st => match iv_rng A.2.2.2.1 kk o with
    | some (l, u) => bif decide (0 ≤ l) && decide (u < 9) then some [a_pi n A.2.1 st A.2.2.2.1 A.2.2.2.2 1 40320] else none
    | none => none
  | .inl (kk, o) :: .inr (.inr (.inr (.inl 2))) :: st => match iv_rng A.2.2.2.1 kk o with
    | some (l, u) => bif decide (0 ≤ l) && decide (u < 55) then some [a_pi n A.2.1 st A.2.2.2.1 A.2.2.2.2 0 270] else none
    | none => none
  | _ => none
theorem a_tald_ok (n : Nat) : ai_ok w (s_tald n) (a_tald n) := by
  rintro E ⟨pc, lv, st, iv, ex⟩ ⟨pc', cl, cs, W⟩ As ⟨ρ, g1, g2, g3, g4, g5⟩ h
  simp only [a_tald] at h
  split at h
  · rename_i kk o st'
    split at h
    · rename_i l u r
      cases hb : (decide (0 ≤ l) && decide (u < 9)) with
      | false => rw [hb] at h; cases h
      | true =>
        rw [hb] at h
        cases h
        simp only [Bool.and_eq_true, decide_eq_true_eq] at hb
        obtain ⟨v, cs, rfl, ha, hr0⟩ := f2_cons g4
        obtain ⟨v2, cs, rfl, hc, hr⟩ := f2_cons hr0
        obtain ⟨i, rfl, ha⟩ := av_int ha
        obtain rfl := av_out hc
        have b1 := iv_rng_ok g1 ha r
        have hi := ai_ix (i := i) (len := 9) (by omega) (by omega)
        have hv := fac_rg ⟨i.toNatClampNeg, by show i.toInt.toNat < 9; omega⟩
        exact ⟨(n, cl, .int (pm_fac i.toNatClampNeg) :: cs, W), by simp only [s_tald, hi, cond_true], _, List.mem_singleton_self _, a_pi_ok (st := st') (pc := pc) (pc' := pc') ⟨g1, g2, g3, hr, g5⟩ hv.1 hv.2⟩
    · cases h
  · rename_i kk o st'
    split at h
    · rename_i l u r
      cases hb : (decide (0 ≤ l) && decide (u < 55)) with
      | false => rw [hb] at h; cases h
      | true =>
        rw [hb] at h
        cases h
        simp only [Bool.and_eq_true, decide_eq_true_eq] at hb
        obtain ⟨v, cs, rfl, ha, hr0⟩ := f2_cons g4
        obtain ⟨v2, cs, rfl, hc, hr⟩ := f2_cons hr0
        obtain ⟨i, rfl, ha⟩ := av_int ha
        obtain rfl := av_out hc
        have b1 := iv_rng_ok g1 ha r
        have hi := ai_ix (i := i) (len := 55) (by omega) (by omega)
        have hv := rbs_rg ⟨i.toNatClampNeg, by show i.toInt.toNat < 55; omega⟩
        exact ⟨(n, cl, .int (pm_rbs i.toNatClampNeg) :: cs, W), by simp only [s_tald, hi, cond_true], _, List.mem_singleton_self _, a_pi_ok (st := st') (pc := pc) (pc' := pc') ⟨g1, g2, g3, hr, g5⟩ hv.1 hv.2⟩
    · cases h
  · cases h
/-- one state for each value of the int on the stack -/
noncomputable def as_split (A : AS) : Option (List AS) := match A.2.2.1 with
  | .inl (k, o) :: _ => match iv_rng A.2.2.2.1 k o with
    | some (l, u) => bif decide (0 ≤ l) then some (a_each k o A.2.2.2.1 (fun _ iv' => some (A.1, A.2.1, A.2.2.1, iv', A.2.2.2.2)) l.toNat (u - l + 1).toNat) else none
    | none => none
  | _ => none
theorem as_split_ok {E : AEnv} {A : AS} {σ : pm_S} {As : List AS} (g : as_g w E A σ) (h : as_split A = some As) : ∃ B ∈ As, as_g w E B σ := by
  obtain ⟨ρ, g⟩ := g
  obtain ⟨pc, lv, st, iv, ex⟩ := A
  obtain ⟨pc', cl, cs, W⟩ := σ
  obtain ⟨g1, g2, g3, g4, g5⟩ := id g
  simp only [as_split] at h
  split at h
  · rename_i k o st' e0
    split at h
    · rename_i l u r
      cases hb : decide (0 ≤ l) with
      | false => rw [hb] at h; cases h
      | true =>
        rw [hb] at h
        cases h
        have hb := of_decide_eq_true hb
        have g4 := g4
        dsimp only at g4
        obtain ⟨v, cs', e1, ha, hr⟩ := f2_cons g4
        obtain ⟨x, rfl, ha⟩ := av_int ha
        have b1 := iv_rng_ok g1 ha r
        obtain ⟨iv', e1, e2, e3⟩ := iv_nar_ok (lo := (x.toInt.toNat : Int)) (hi := (x.toInt.toNat : Int)) g1 ha (by omega) (by omega)
        exact ⟨_, a_each_in e1 rfl _ _ (by omega) (by omega), ρ, as_iv g e2 e3⟩
    · cases h
  · cases h
end AIU
end
