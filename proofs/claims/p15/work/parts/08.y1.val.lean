/-! THE EXECUTOR (second writing), part 1: abstract values, heaps, states -/
/-- an int or a long is a symbol (or none) and an offset; references by their numbers -/
noncomputable abbrev AV : Type := (Option Nat × Int) ⊕ ((Option Nat × Int) ⊕ (Nat ⊕ (Nat ⊕ Unit)))
/-- the kinds that stand in certificates -/
noncomputable abbrev CV : Type := (Int × Int) ⊕ ((Int × Int) ⊕ (Nat ⊕ (Nat ⊕ Unit)))
noncomputable def av_ev (n : Nat) (ρ : Nat → Int) (k : Option Nat) (o : Int) (v : Int) : Prop := match k with
  | none => v = o
  | some k => k < n ∧ v = ρ k + o
noncomputable def av_g (n : Nat) (ρ : Nat → Int) (a : AV) (v : Value) : Prop := match a, v with
  | .inl (k, o), .int x => av_ev n ρ k o x.toInt
  | .inr (.inl (k, o)), .long x => av_ev n ρ k o x.toInt
  | .inr (.inr (.inl a)), .ref a' => a' = a
  | .inr (.inr (.inr (.inl k))), .retAddr k' => k' = k
  | .inr (.inr (.inr (.inr ()))), .null => True
  | _, _ => False
noncomputable def cv_g (c : CV) (v : Value) : Prop := match c, v with
  | .inl (lo, hi), .int x => lo ≤ x.toInt ∧ x.toInt ≤ hi
  | .inr (.inl (lo, hi)), .long x => lo ≤ x.toInt ∧ x.toInt ≤ hi
  | .inr (.inr (.inl a)), .ref a' => a' = a
  | .inr (.inr (.inr (.inl k))), .retAddr k' => k' = k
  | .inr (.inr (.inr (.inr ()))), .null => True
  | _, _ => False
noncomputable def av_cat (a : AV) : Nat := match a with
  | .inr (.inl (_, _)) => 2
  | _ => 1
theorem av_cat_eq {n : Nat} {ρ : Nat → Int} {a : AV} {v : Value} (h : av_g n ρ a v) : v.category = av_cat a := by
  rcases a with ⟨k, o⟩ | ⟨k, o⟩ | a | k | ⟨⟩ <;> cases v <;> first | rfl | exact h.elim
theorem av_ev_mono {n n' : Nat} {ρ ρ' : Nat → Int} {k : Option Nat} {o v : Int} (hn : n ≤ n') (hρ : ∀ q, q < n → ρ' q = ρ q) (h : av_ev n ρ k o v) : av_ev n' ρ' k o v := by
  cases k with
  | none => exact h
  | some k => exact ⟨Nat.lt_of_lt_of_le h.1 hn, by rw [hρ k h.1]; exact h.2⟩
theorem av_g_mono {n n' : Nat} {ρ ρ' : Nat → Int} {a : AV} {v : Value} (hn : n ≤ n') (hρ : ∀ q, q < n → ρ' q = ρ q) (h : av_g n ρ a v) : av_g n' ρ' a v := by
  rcases a with ⟨k, o⟩ | ⟨k, o⟩ | a | k | ⟨⟩ <;> cases v <;> first | exact av_ev_mono hn hρ h | exact h
theorem av_int {n : Nat} {ρ : Nat → Int} {k : Option Nat} {o : Int} {v : Value} (h : av_g n ρ (.inl (k, o)) v) : ∃ x : Int32, v = .int x ∧ av_ev n ρ k o x.toInt := by
  cases v with
  | int x => exact ⟨x, rfl, h⟩
  | _ => exact h.elim
theorem av_long {n : Nat} {ρ : Nat → Int} {k : Option Nat} {o : Int} {v : Value} (h : av_g n ρ (.inr (.inl (k, o))) v) : ∃ x : Int64, v = .long x ∧ av_ev n ρ k o x.toInt := by
  cases v with
  | long x => exact ⟨x, rfl, h⟩
  | _ => exact h.elim
theorem av_ref {n : Nat} {ρ : Nat → Int} {a : Nat} {v : Value} (h : av_g n ρ (.inr (.inr (.inl a))) v) : v = .ref a := by
  cases v with
  | ref x => exact congrArg Value.ref h
  | _ => exact h.elim
theorem av_out {n : Nat} {ρ : Nat → Int} {a : Nat} {v : Value} (h : av_g n ρ (.inr (.inr (.inr (.inl a)))) v) : v = .retAddr a := by
  cases v with
  | retAddr x => exact congrArg Value.retAddr h
  | _ => exact h.elim
noncomputable abbrev IV : Type := List (Int × Int)
noncomputable def iv_g (ρ : Nat → Int) (iv : IV) : Prop := ∀ k lo hi, iv[k]? = some (lo, hi) → lo ≤ ρ k ∧ ρ k ≤ hi
/-- a fresh symbol -/
noncomputable def iv_ext (ρ : Nat → Int) (n : Nat) (v : Int) : Nat → Int := fun q => bif Nat.beq q n then v else ρ q
theorem iv_ext_old {ρ : Nat → Int} {n : Nat} {v : Int} (q : Nat) (h : q < n) : iv_ext ρ n v q = ρ q := by
  unfold iv_ext
  cases hb : Nat.beq q n with
  | false => rfl
  | true => have := Nat.eq_of_beq_eq_true hb; omega
theorem iv_ext_new {ρ : Nat → Int} {n : Nat} {v : Int} : iv_ext ρ n v n = v := by
  unfold iv_ext; rw [Nat.beq_refl]; rfl
theorem iv_push {ρ : Nat → Int} {iv : IV} {v lo hi : Int} (h : iv_g ρ iv) (h1 : lo ≤ v) (h2 : v ≤ hi) : iv_g (iv_ext ρ iv.length v) (iv ++ [(lo, hi)]) := by
  intro k l u hk
  by_cases hlt : k < iv.length
  · rw [List.getElem?_append_left hlt] at hk
    rw [iv_ext_old k hlt]
    exact h k l u hk
  · have hk' := hk
    rw [List.getElem?_append_right (by omega)] at hk'
    have h0 : k - iv.length = 0 := by
      cases hd : k - iv.length with
      | zero => rfl
      | succ d => rw [hd] at hk'; cases hk'
    have he : k = iv.length := by omega
    subst he
    rw [h0] at hk'
    cases hk'
    rw [iv_ext_new]
    exact ⟨h1, h2⟩
/-- symbols that a segment began with (they keep what they stood for), the heap and the locals at the method's entry -/
noncomputable abbrev AEnv : Type := Nat × (Nat → Int) × pm_H × List (Nat × Value)
noncomputable def ia_g (E : AEnv) (ρ : Nat → Int) (iv : IV) : Prop := iv_g ρ iv ∧ E.1 ≤ iv.length ∧ ∀ k, k < E.1 → ρ k = E.2.1 k
theorem ia_push {E : AEnv} {ρ : Nat → Int} {iv : IV} {v lo hi : Int} (h : ia_g E ρ iv) (h1 : lo ≤ v) (h2 : v ≤ hi) : ia_g E (iv_ext ρ iv.length v) (iv ++ [(lo, hi)]) :=
  ⟨iv_push h.1 h1 h2, by rw [List.length_append]; exact Nat.le_trans h.2.1 (Nat.le_add_right _ _), fun k hk => (iv_ext_old k (Nat.lt_of_lt_of_le hk h.2.1)).trans (h.2.2 k hk)⟩
/-- the interval of a term -/
noncomputable def iv_rng (iv : IV) (k : Option Nat) (o : Int) : Option (Int × Int) := match k with
  | none => some (o, o)
  | some k => match iv[k]? with
    | some (lo, hi) => some (lo + o, hi + o)
    | none => none
theorem iv_rng_ok {E : AEnv} {n : Nat} {ρ : Nat → Int} {iv : IV} {k : Option Nat} {o v lo hi : Int} (h : ia_g E ρ iv) (hv : av_ev n ρ k o v) (hr : iv_rng iv k o = some (lo, hi)) : lo ≤ v ∧ v ≤ hi := by
  cases k with
  | none =>
    cases hr
    obtain rfl : v = o := hv
    omega
  | some k =>
    unfold iv_rng at hr
    simp only at hr
    split at hr
    · rename_i a b e
      cases hr
      have h1 := h.1 k a b e
      have h2 := hv.2
      omega
    · cases hr
noncomputable abbrev AF : Type := (Int × Int) ⊕ (Unit ⊕ (Nat ⊕ Unit))
noncomputable def af_g (c : AF) (v : Value) : Prop := match c, v with
  | .inl (lo, hi), .int x => lo ≤ x.toInt ∧ x.toInt ≤ hi
  | .inr (.inl ()), .long _ => True
  | .inr (.inr (.inl a)), .ref a' => a' = a
  | .inr (.inr (.inr ())), .null => True
  | _, _ => False
/-- cells: arrays of ints (class, length, bounds of the elements, again and again), of longs, of references; objects -/
noncomputable abbrev AE : Type := (Nat × Nat × List (Int × Int)) ⊕ (Nat ⊕ ((Nat × List (Option Nat)) ⊕ (Nat × List AF)))
noncomputable def pat_at (p : List (Int × Int)) (j : Nat) : Option (Int × Int) := p[j % p.length]?
noncomputable def ae_g (c : AE) (x : pm_E) : Prop := match c, x with
  | .inl (t, len, p), .inl (t', len', .inl f) => t' = t ∧ len' = len ∧ ∀ j lo hi, pat_at p j = some (lo, hi) → lo ≤ (f j).toInt ∧ (f j).toInt ≤ hi
  | .inr (.inl len), .inl (t', len', .inr (.inl _)) => t' = 3 ∧ len' = len
  | .inr (.inr (.inl (t, fs))), .inl (t', len', .inr (.inr (.inr (.inr f)))) => t' = t ∧ len' = fs.length ∧ ∀ (j : Nat) (y : Option Nat), fs[j]? = some y → f j = y
  | .inr (.inr (.inr (ci, fs))), .inr (cj, vs) => cj = ci ∧ vs.length = fs.length ∧ ∀ (k : Nat) (c : AF) (v : Value), fs[k]? = some c → vs[k]? = some v → af_g c v
  | _, _ => False
noncomputable def hs_g (hs : List AE) (h : pm_H) : Prop := h.length = hs.length ∧ ∀ (a : Nat) c x, hs[a]? = some c → h[a]? = some x → ae_g c x
theorem hs_at {hs : List AE} {h : pm_H} {a : Nat} {c : AE} (H : hs_g hs h) (hc : hs[a]? = some c) : ∃ x, h[a]? = some x ∧ ae_g c x := by
  have hl : a < hs.length := (List.getElem?_eq_some_iff.mp hc).1
  have hl' : a < h.length := by rw [H.1]; exact hl
  exact ⟨h[a], List.getElem?_eq_getElem hl', H.2 a c _ hc (List.getElem?_eq_getElem hl')⟩
theorem hs_set {hs : List AE} {h : pm_H} {a : Nat} {c : AE} {x : pm_E} (H : hs_g hs h) (hc : hs[a]? = some c) (hx : ae_g c x) : hs_g hs (h.set a x) := by
  refine ⟨by rw [List.length_set]; exact H.1, fun b c' x' h1 h2 => ?_⟩
  by_cases hab : a = b
  · subst hab
    have hl : a < h.length := by rw [H.1]; exact (List.getElem?_eq_some_iff.mp hc).1
    rw [List.getElem?_set_self hl] at h2
    cases h2
    rw [hc] at h1
    cases h1
    exact hx
  · rw [List.getElem?_set_ne hab] at h2
    exact H.2 b c' x' h1 h2
/-- what lies in a cell at a number: a field, an int, a long -/
noncomputable def ld (h : pm_H) (a k : Nat) : Option Value := match h[a]? with
  | some (.inl (_, _, .inl f)) => some (.int (f k))
  | some (.inl (_, _, .inr (.inl f))) => some (.long (f k))
  | some (.inr (_, vs)) => vs[k]?
  | _ => none
/-- ranges of numbers in cells -/
noncomputable abbrev Rng : Type := Nat × Nat × Nat
noncomputable def rg_in (M : List Rng) (a k : Nat) : Bool := M.any (fun r => Nat.beq r.1 a && (Nat.ble r.2.1 k && Nat.ble k r.2.2))
noncomputable def rg_sub (M : List Rng) (a l u : Nat) : Bool := M.any (fun r => Nat.beq r.1 a && (Nat.ble r.2.1 l && Nat.ble u r.2.2))
theorem rg_sub_in {M : List Rng} {a l u k : Nat} (h : rg_sub M a l u = true) (h1 : l ≤ k) (h2 : k ≤ u) : rg_in M a k = true := by
  obtain ⟨r, hr, hb⟩ := List.any_eq_true.mp h
  simp only [Bool.and_eq_true] at hb
  refine List.any_eq_true.mpr ⟨r, hr, ?_⟩
  simp only [Bool.and_eq_true]
  exact ⟨hb.1, Nat.ble_eq_true_of_le (Nat.le_trans (Nat.le_of_ble_eq_true hb.2.1) h1), Nat.ble_eq_true_of_le (Nat.le_trans h2 (Nat.le_of_ble_eq_true hb.2.2))⟩
/-- the ranges meet nowhere -/
noncomputable def rg_dis (S : List Rng) (a l u : Nat) : Bool := S.all (fun r => !(Nat.beq r.1 a) || (Nat.blt r.2.2 l || Nat.blt u r.2.1))
theorem rg_dis_in {S : List Rng} {a l u k : Nat} (h : rg_dis S a l u = true) (h1 : l ≤ k) (h2 : k ≤ u) : rg_in S a k = false := by
  cases hb : rg_in S a k with
  | false => rfl
  | true =>
    obtain ⟨r, hr, hc⟩ := List.any_eq_true.mp hb
    have hd := List.all_eq_true.mp h r hr
    simp only [Bool.and_eq_true] at hc
    simp only [Bool.or_eq_true, Bool.not_eq_true'] at hd
    have c1 := Nat.le_of_ble_eq_true hc.2.1
    have c2 := Nat.le_of_ble_eq_true hc.2.2
    rcases hd with hd | hd | hd
    · rw [hc.1] at hd; cases hd
    · have := Nat.le_of_ble_eq_true hd; omega
    · have := Nat.le_of_ble_eq_true hd; omega
/-- the world: shape of the heap, facts by number, what each fact reads -/
noncomputable abbrev AW : Type := { w : List AE × (Nat → pm_H → Prop) × (Nat → List Rng) // ∀ (i : Nat) (h h' : pm_H), hs_g w.1 h → hs_g w.1 h' → (∀ a k, rg_in (w.2.2 i) a k = true → ld h' a k = ld h a k) → w.2.1 i h → w.2.1 i h' }
/-- two lists, element by element -/
noncomputable def f2 {α β : Type} (R : α → β → Prop) : List α → List β → Prop
  | [], [] => True
  | a :: l, b :: m => R a b ∧ f2 R l m
  | _, _ => False
theorem f2_cons {α β : Type} {R : α → β → Prop} {a : α} {l : List α} {m : List β} (h : f2 R (a :: l) m) : ∃ b m', m = b :: m' ∧ R a b ∧ f2 R l m' := by
  cases m with
  | nil => exact h.elim
  | cons b m' => exact ⟨b, m', rfl, h.1, h.2⟩
theorem f2_mono {α β : Type} {R S : α → β → Prop} (hRS : ∀ a b, R a b → S a b) : ∀ {l : List α} {m : List β}, f2 R l m → f2 S l m
  | [], [], _ => trivial
  | [], _ :: _, h => h.elim
  | _ :: _, [], h => h.elim
  | _ :: _, _ :: _, h => ⟨hRS _ _ h.1, f2_mono hRS h.2⟩
/-- what is known of numbers in cells -/
noncomputable abbrev Mem : Type := List ((Nat × Nat) × AV)
/-- a sum of two symbols is a third; a symbol is at most another and a number -/
noncomputable abbrev Con : Type := (Nat × Nat × Nat) ⊕ (Nat × Nat × Int)
noncomputable def con_g (n : Nat) (ρ : Nat → Int) (c : Con) : Prop := match c with
  | .inl (s, a, b) => s < n ∧ a < n ∧ b < n ∧ ρ s = ρ a + ρ b
  | .inr (a, b, c) => a < n ∧ b < n ∧ ρ a ≤ ρ b + c
theorem con_g_mono {n n' : Nat} {ρ ρ' : Nat → Int} {c : Con} (hn : n ≤ n') (hρ : ∀ q, q < n → ρ' q = ρ q) (h : con_g n ρ c) : con_g n' ρ' c := by
  rcases c with ⟨s, a, b⟩ | ⟨a, b, c⟩
  · obtain ⟨h1, h2, h3, h4⟩ := h
    exact ⟨Nat.lt_of_lt_of_le h1 hn, Nat.lt_of_lt_of_le h2 hn, Nat.lt_of_lt_of_le h3 hn, by rw [hρ s h1, hρ a h2, hρ b h3]; exact h4⟩
  · obtain ⟨h1, h2, h4⟩ := h
    exact ⟨Nat.lt_of_lt_of_le h1 hn, Nat.lt_of_lt_of_le h2 hn, by rw [hρ a h1, hρ b h2]; exact h4⟩
/-- memory, relations, facts that hold, what may be stored to, locals that stay -/
noncomputable abbrev AX : Type := Mem × List Con × List Nat × List Rng × List Nat
/-- states: place in the code, locals, stack, intervals, and the rest -/
noncomputable abbrev AS : Type := Nat × List (Nat × AV) × List AV × IV × AX
noncomputable def ex_g (w : AW) (E : AEnv) (n : Nat) (ρ : Nat → Int) (x : AX) (cl : List (Nat × Value)) (h : pm_H) : Prop :=
  hs_g w.1.1 h ∧ (∀ q a, (q, a) ∈ x.1 → ∃ v, ld h q.1 q.2 = some v ∧ av_g n ρ a v) ∧ (∀ c ∈ x.2.1, con_g n ρ c) ∧ (∀ i ∈ x.2.2.1, w.1.2.1 i h) ∧ (∀ a k, rg_in x.2.2.2.1 a k = false → ld h a k = ld E.2.2.1 a k) ∧ ∀ i ∈ x.2.2.2.2, pm_get cl i = pm_get E.2.2.2 i
theorem ex_g_mono {w : AW} {E : AEnv} {n n' : Nat} {ρ ρ' : Nat → Int} {x : AX} {cl : List (Nat × Value)} {h : pm_H} (hn : n ≤ n') (hρ : ∀ q, q < n → ρ' q = ρ q) (g : ex_g w E n ρ x cl h) : ex_g w E n' ρ' x cl h := by
  obtain ⟨g1, g2, g3, g4, g5, g6⟩ := g
  refine ⟨g1, fun q a hm => ?_, fun c hc => con_g_mono hn hρ (g3 c hc), g4, g5, g6⟩
  obtain ⟨v, e1, e2⟩ := g2 q a hm
  exact ⟨v, e1, av_g_mono hn hρ e2⟩
/-- what a state says, its symbols standing for given numbers -/
noncomputable def as_r (w : AW) (E : AEnv) (ρ : Nat → Int) (A : AS) (σ : pm_S) : Prop := ia_g E ρ A.2.2.2.1 ∧ σ.1 = A.1 ∧ (∀ i a, (i, a) ∈ A.2.1 → ∃ v, pm_get σ.2.1 i = some v ∧ av_g A.2.2.2.1.length ρ a v) ∧ f2 (fun a v => av_g A.2.2.2.1.length ρ a v) A.2.2.1 σ.2.2.1 ∧ ex_g w E A.2.2.2.1.length ρ A.2.2.2.2 σ.2.1 σ.2.2.2.1
noncomputable def as_g (w : AW) (E : AEnv) (A : AS) (σ : pm_S) : Prop := ∃ ρ : Nat → Int, as_r w E ρ A σ
noncomputable def as_get : List (Nat × AV) → Nat → Option AV
  | [], _ => none
  | q :: l, i => bif Nat.beq q.1 i then some q.2 else as_get l i
theorem as_get_in {i : Nat} {a : AV} : ∀ {lv : List (Nat × AV)}, as_get lv i = some a → (i, a) ∈ lv
  | [], h => by cases h
  | q :: l, h => by
    unfold as_get at h
    cases hb : Nat.beq q.1 i with
    | true =>
      rw [hb] at h
      have h1 : q.1 = i := Nat.eq_of_beq_eq_true hb
      have h2 : q.2 = a := Option.some.inj h
      subst h1; subst h2
      exact List.mem_cons_self
    | false =>
      rw [hb] at h
      exact List.mem_cons_of_mem _ (as_get_in h)
/-- locals that a store leaves -/
theorem pm_get_filter {p : Nat × Value → Bool} {i : Nat} {v : Value} : ∀ {lv : List (Nat × Value)}, pm_get lv i = some v → p (i, v) = true → pm_get (lv.filter p) i = some v
  | [], h, _ => by cases h
  | q :: l, h, hp => by
    unfold pm_get at h
    cases hb : Nat.beq q.1 i with
    | true =>
      rw [hb] at h
      have h1 : q.1 = i := Nat.eq_of_beq_eq_true hb
      have h2 : q.2 = v := Option.some.inj h
      subst h1; subst h2
      rw [List.filter_cons_of_pos hp]
      unfold pm_get
      rw [hb]; rfl
    | false =>
      rw [hb] at h
      have ih := pm_get_filter (p := p) (i := i) (v := v) (lv := l) h hp
      cases hq : p q with
      | true =>
        rw [List.filter_cons_of_pos hq]
        unfold pm_get
        rw [hb]; exact ih
      | false =>
        rw [List.filter_cons_of_neg (by rw [hq]; exact Bool.false_ne_true)]
        exact ih
theorem pm_get_self {i : Nat} {v : Value} {l : List (Nat × Value)} : pm_get ((i, v) :: l) i = some v := by
  unfold pm_get; rw [Nat.beq_refl]; rfl
theorem pm_get_ne {i j : Nat} {v w : Value} {l : List (Nat × Value)} (h : j ≠ i) (hl : pm_get l j = some w) : pm_get ((i, v) :: l) j = some w := by
  unfold pm_get
  cases hb : Nat.beq i j with
  | true => exact absurd (Nat.eq_of_beq_eq_true hb).symm h
  | false => exact hl
noncomputable def as_put1 (i : Nat) (a : AV) (lv : List (Nat × AV)) : List (Nat × AV) := (i, a) :: lv.filter (fun q => !(Nat.beq q.1 i) && !(Nat.beq (q.1 + 1) i && Nat.beq (av_cat q.2) 2))
noncomputable def as_put2 (i : Nat) (a : AV) (lv : List (Nat × AV)) : List (Nat × AV) := (i, a) :: lv.filter (fun q => !(Nat.beq q.1 i) && (!(Nat.beq q.1 (i + 1)) && !(Nat.beq (q.1 + 1) i && Nat.beq (av_cat q.2) 2)))
theorem as_beq {a b : Nat} : (a == b) = Nat.beq a b := by
  cases h : Nat.beq a b with
  | true => rw [Nat.eq_of_beq_eq_true h]; exact beq_self_eq_true _
  | false => exact beq_eq_false_iff_ne.mpr (Nat.ne_of_beq_eq_false h)
theorem as_put1_ok {n : Nat} {ρ : Nat → Int} {i : Nat} {a : AV} {v : Value} {la : List (Nat × AV)} {lv : List (Nat × Value)} (h : ∀ j c, (j, c) ∈ la → ∃ w, pm_get lv j = some w ∧ av_g n ρ c w) (hv : av_g n ρ a v) :
    ∀ j c, (j, c) ∈ as_put1 i a la → ∃ w, pm_get (pm_put1 i v lv) j = some w ∧ av_g n ρ c w := by
  intro j c hm
  unfold as_put1 at hm
  cases List.mem_cons.mp hm with
  | inl e => cases e; exact ⟨v, pm_get_self, hv⟩
  | inr hm =>
    obtain ⟨hm1, hm2⟩ := List.mem_filter.mp hm
    obtain ⟨w, e1, e2⟩ := h j c hm1
    have hcat := av_cat_eq e2
    refine ⟨w, ?_, e2⟩
    simp only [← as_beq, Bool.and_eq_true, Bool.not_eq_true', Bool.and_eq_false_iff, beq_eq_false_iff_ne] at hm2
    refine pm_get_ne hm2.1 (pm_get_filter e1 ?_)
    simp only [Bool.and_eq_true, Bool.not_eq_true', Bool.and_eq_false_iff, beq_eq_false_iff_ne, hcat]
    exact hm2
theorem as_put2_ok {n : Nat} {ρ : Nat → Int} {i : Nat} {a : AV} {v : Value} {la : List (Nat × AV)} {lv : List (Nat × Value)} (h : ∀ j c, (j, c) ∈ la → ∃ w, pm_get lv j = some w ∧ av_g n ρ c w) (hv : av_g n ρ a v) :
    ∀ j c, (j, c) ∈ as_put2 i a la → ∃ w, pm_get (pm_put2 i v lv) j = some w ∧ av_g n ρ c w := by
  intro j c hm
  unfold as_put2 at hm
  cases List.mem_cons.mp hm with
  | inl e => cases e; exact ⟨v, pm_get_self, hv⟩
  | inr hm =>
    obtain ⟨hm1, hm2⟩ := List.mem_filter.mp hm
    obtain ⟨w, e1, e2⟩ := h j c hm1
    have hcat := av_cat_eq e2
    refine ⟨w, ?_, e2⟩
    simp only [← as_beq, Bool.and_eq_true, Bool.not_eq_true', Bool.and_eq_false_iff, beq_eq_false_iff_ne] at hm2
    refine pm_get_ne hm2.1 (pm_get_filter e1 ?_)
    simp only [Bool.and_eq_true, Bool.not_eq_true', Bool.and_eq_false_iff, beq_eq_false_iff_ne, hcat]
    exact hm2
