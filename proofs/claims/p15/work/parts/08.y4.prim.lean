/-! THE EXECUTOR (second writing), part 4: fresh symbols, narrower intervals, relations -/
section AIP
variable {w : AW} {E : AEnv} {ρ : Nat → Int}
theorem as_grow {pc : Nat} {lv : List (Nat × AV)} {st : List AV} {iv : IV} {ex : AX} {σ : pm_S} {v lo hi : Int} (g : as_r w E ρ (pc, lv, st, iv, ex) σ) (h1 : lo ≤ v) (h2 : v ≤ hi) :
    as_r w E (iv_ext ρ iv.length v) (pc, lv, st, iv ++ [(lo, hi)], ex) σ ∧ av_ev (iv ++ [(lo, hi)]).length (iv_ext ρ iv.length v) (some iv.length) 0 v := by
  obtain ⟨g1, g2, g3, g4, g5⟩ := g
  dsimp only at g1 g2 g3 g4 g5
  have hle : iv.length ≤ (iv ++ [(lo, hi)]).length := by rw [List.length_append]; exact Nat.le_add_right _ _
  refine ⟨⟨ia_push g1 h1 h2, g2, fun i a hm => ?_, f2_mono (fun a b hab => av_g_mono hle iv_ext_old hab) g4, ex_g_mono hle iv_ext_old g5⟩, ?_, ?_⟩
  · obtain ⟨x, e1, e2⟩ := g3 i a hm
    exact ⟨x, e1, av_g_mono hle iv_ext_old e2⟩
  · rw [List.length_append]; exact Nat.lt_succ_self _
  · rw [iv_ext_new, Int.add_zero]
/-- an int, a long within bounds is pushed -/
noncomputable def a_pi (n : Nat) (lv : List (Nat × AV)) (st : List AV) (iv : IV) (ex : AX) (lo hi : Int) : AS := bif decide (lo = hi) then (n, lv, .inl (none, lo) :: st, iv, ex) else (n, lv, .inl (some iv.length, 0) :: st, iv ++ [(lo, hi)], ex)
noncomputable def a_pl (n : Nat) (lv : List (Nat × AV)) (st : List AV) (iv : IV) (ex : AX) (lo hi : Int) : AS := bif decide (lo = hi) then (n, lv, .inr (.inl (none, lo)) :: st, iv, ex) else (n, lv, .inr (.inl (some iv.length, 0)) :: st, iv ++ [(lo, hi)], ex)
theorem a_pi_ok {pc n : Nat} {lv : List (Nat × AV)} {st : List AV} {iv : IV} {ex : AX} {pc' : Nat} {cl : List (Nat × Value)} {cs : List Value} {W : pm_H × Nat × Nat} {v : Int32} {lo hi : Int} (g : as_r w E ρ (pc, lv, st, iv, ex) (pc', cl, cs, W)) (h1 : lo ≤ v.toInt) (h2 : v.toInt ≤ hi) : as_g w E (a_pi n lv st iv ex lo hi) (n, cl, .int v :: cs, W) := by
  unfold a_pi
  cases hb : decide (lo = hi) with
  | true =>
    have hb := of_decide_eq_true hb
    obtain ⟨g1, g2, g3, g4, g5⟩ := g
    exact ⟨ρ, g1, rfl, g3, ⟨(by show v.toInt = lo; omega), g4⟩, g5⟩
  | false =>
    obtain ⟨⟨g1, g2, g3, g4, g5⟩, e⟩ := as_grow g h1 h2
    exact ⟨_, g1, rfl, g3, ⟨e, g4⟩, g5⟩
theorem a_pl_ok {pc n : Nat} {lv : List (Nat × AV)} {st : List AV} {iv : IV} {ex : AX} {pc' : Nat} {cl : List (Nat × Value)} {cs : List Value} {W : pm_H × Nat × Nat} {v : Int64} {lo hi : Int} (g : as_r w E ρ (pc, lv, st, iv, ex) (pc', cl, cs, W)) (h1 : lo ≤ v.toInt) (h2 : v.toInt ≤ hi) : as_g w E (a_pl n lv st iv ex lo hi) (n, cl, .long v :: cs, W) := by
  unfold a_pl
  cases hb : decide (lo = hi) with
  | true =>
    have hb := of_decide_eq_true hb
    obtain ⟨g1, g2, g3, g4, g5⟩ := g
    exact ⟨ρ, g1, rfl, g3, ⟨(by show v.toInt = lo; omega), g4⟩, g5⟩
  | false =>
    obtain ⟨⟨g1, g2, g3, g4, g5⟩, e⟩ := as_grow g h1 h2
    exact ⟨_, g1, rfl, g3, ⟨e, g4⟩, g5⟩
theorem iv_at {iv : IV} {k : Nat} (h : k < iv.length) : ∃ l u, iv[k]? = some (l, u) := ⟨iv[k].1, iv[k].2, List.getElem?_eq_getElem h⟩
/-- a narrower interval -/
noncomputable def iv_nar (iv : IV) (k : Option Nat) (o lo hi : Int) : Option IV := match k with
  | none => bif decide (lo ≤ o) && decide (o ≤ hi) then some iv else none
  | some k => match iv[k]? with
    | some (l, u) => bif decide (max l (lo - o) ≤ min u (hi - o)) then some (iv.set k (max l (lo - o), min u (hi - o))) else none
    | none => none
theorem iv_nar_ok {iv : IV} {k : Option Nat} {o lo hi v : Int} (g : ia_g E ρ iv) (hv : av_ev iv.length ρ k o v) (h1 : lo ≤ v) (h2 : v ≤ hi) : ∃ iv', iv_nar iv k o lo hi = some iv' ∧ iv'.length = iv.length ∧ ia_g E ρ iv' := by
  cases k with
  | none =>
    have hv : v = o := hv
    subst hv
    refine ⟨iv, ?_, rfl, g⟩
    unfold iv_nar
    simp only [h1, h2, decide_true, Bool.and_self, cond_true]
  | some k =>
    obtain ⟨hk, hv⟩ := hv
    obtain ⟨l, u, hg⟩ := iv_at hk
    have hb := g.1 k l u hg
    have hle : max l (lo - o) ≤ min u (hi - o) := by omega
    refine ⟨iv.set k (max l (lo - o), min u (hi - o)), ?_, List.length_set, ⟨fun q a b hqq => ?_, by rw [List.length_set]; exact g.2.1, g.2.2⟩⟩
    · unfold iv_nar
      simp only [hg, hle, decide_true, cond_true]
    · by_cases hqk : k = q
      · subst hqk
        rw [List.getElem?_set_self hk] at hqq
        cases hqq
        omega
      · rw [List.getElem?_set_ne hqk] at hqq
        exact g.1 q a b hqq
theorem as_iv {pc : Nat} {lv : List (Nat × AV)} {st : List AV} {iv iv' : IV} {ex : AX} {σ : pm_S} (g : as_r w E ρ (pc, lv, st, iv, ex) σ) (hl : iv'.length = iv.length) (g1 : ia_g E ρ iv') : as_r w E ρ (pc, lv, st, iv', ex) σ := by
  obtain ⟨_, g2, g3, g4, g5⟩ := g
  dsimp only at g2 g3 g4 g5
  rw [← hl] at g3 g4 g5
  exact ⟨g1, g2, g3, g4, g5⟩
/-- one relation narrows its symbols -/
noncomputable def tg1 (c : Con) (iv : IV) : Option IV := match c with
  | .inl (s, a, b) => match iv[s]?, iv[a]?, iv[b]? with
    | some (sl, su), some (al, au), some (bl, bu) => match iv_nar iv (some s) 0 (al + bl) (au + bu) with
      | some iv => match iv_nar iv (some a) 0 (sl - bu) (su - bl) with
        | some iv => iv_nar iv (some b) 0 (sl - au) (su - al)
        | none => none
      | none => none
    | _, _, _ => some iv
  | .inr (a, b, c) => match iv[a]?, iv[b]? with
    | some (al, au), some (bl, bu) => match iv_nar iv (some a) 0 al (bu + c) with
      | some iv => iv_nar iv (some b) 0 (al - c) bu
      | none => none
    | _, _ => some iv
theorem tg1_ok {iv : IV} {c : Con} (g : ia_g E ρ iv) (hc : con_g iv.length ρ c) : ∃ iv', tg1 c iv = some iv' ∧ iv'.length = iv.length ∧ ia_g E ρ iv' := by
  rcases c with ⟨s, a, b⟩ | ⟨a, b, c⟩
  · obtain ⟨hs, ha, hb, he⟩ := hc
    obtain ⟨sl, su, es⟩ := iv_at hs
    obtain ⟨al, au, ea⟩ := iv_at ha
    obtain ⟨bl, bu, eb⟩ := iv_at hb
    have bs := g.1 s _ _ es
    have ba := g.1 a _ _ ea
    have bb := g.1 b _ _ eb
    unfold tg1
    simp only [es, ea, eb]
    obtain ⟨i1, e1, l1, g1⟩ := iv_nar_ok (k := some s) (o := 0) (v := ρ s) (lo := al + bl) (hi := au + bu) g ⟨hs, by omega⟩ (by omega) (by omega)
    obtain ⟨i2, e2, l2, g2⟩ := iv_nar_ok (k := some a) (o := 0) (v := ρ a) (lo := sl - bu) (hi := su - bl) g1 ⟨by omega, by omega⟩ (by omega) (by omega)
    obtain ⟨i3, e3, l3, g3⟩ := iv_nar_ok (k := some b) (o := 0) (v := ρ b) (lo := sl - au) (hi := su - al) g2 ⟨by omega, by omega⟩ (by omega) (by omega)
    rw [e1]
    simp only [e2]
    exact ⟨i3, e3, by omega, g3⟩
  · obtain ⟨ha, hb, he⟩ := hc
    obtain ⟨al, au, ea⟩ := iv_at ha
    obtain ⟨bl, bu, eb⟩ := iv_at hb
    have ba := g.1 a _ _ ea
    have bb := g.1 b _ _ eb
    unfold tg1
    simp only [ea, eb]
    obtain ⟨i1, e1, l1, g1⟩ := iv_nar_ok (k := some a) (o := 0) (v := ρ a) (lo := al) (hi := bu + c) g ⟨ha, by omega⟩ (by omega) (by omega)
    obtain ⟨i2, e2, l2, g2⟩ := iv_nar_ok (k := some b) (o := 0) (v := ρ b) (lo := al - c) (hi := bu) g1 ⟨by omega, by omega⟩ (by omega) (by omega)
    rw [e1]
    exact ⟨i2, e2, by omega, g2⟩
/-- all relations, once -/
noncomputable def tga : List Con → IV → Option IV
  | [], iv => some iv
  | c :: l, iv => match tg1 c iv with
    | some iv => tga l iv
    | none => none
theorem tga_ok : ∀ (l : List Con) (iv : IV), ia_g E ρ iv → (∀ c ∈ l, con_g iv.length ρ c) → ∃ iv', tga l iv = some iv' ∧ iv'.length = iv.length ∧ ia_g E ρ iv'
  | [], iv, g, _ => ⟨iv, rfl, rfl, g⟩
  | c :: l, iv, g, h => by
    obtain ⟨i1, e1, l1, g1⟩ := tg1_ok g (h c List.mem_cons_self)
    obtain ⟨i2, e2, l2, g2⟩ := tga_ok l i1 g1 (fun c hc => by rw [l1]; exact h c (List.mem_cons_of_mem _ hc))
    exact ⟨i2, by unfold tga; rw [e1]; exact e2, by omega, g2⟩
/-- a relation is added, if it does not speak against one that is there -/
noncomputable def con_bad (l : List Con) (a b : Nat) (c : Int) : Bool := l.any (fun q => match q with | .inr (a', b', c') => Nat.beq a a' && (Nat.beq b b' && false) || (Nat.beq a b' && (Nat.beq b a' && decide (c + c' < 0))) | _ => false)
theorem con_bad_ok {n : Nat} {l : List Con} {a b : Nat} {c : Int} (h : ∀ q ∈ l, con_g n ρ q) (hc : ρ a ≤ ρ b + c) : con_bad l a b c = false := by
  cases hb : con_bad l a b c with
  | false => rfl
  | true =>
    obtain ⟨q, hq, hp⟩ := List.any_eq_true.mp hb
    split at hp
    · rename_i a' b' c'
      simp only [Bool.and_false, Bool.false_or, Bool.and_eq_true, decide_eq_true_eq] at hp
      obtain ⟨h1, h2, h3⟩ := hp
      have h1 := Nat.eq_of_beq_eq_true h1
      have h2 := Nat.eq_of_beq_eq_true h2
      subst h1; subst h2
      have := (h _ hq).2.2
      omega
    · cases hp
/-- x + o ≤ y + p is taken in -/
noncomputable def br_le (iv : IV) (cs : List Con) (k1 : Option Nat) (o1 : Int) (k2 : Option Nat) (o2 : Int) : Option (IV × List Con) := match k1, k2 with
  | some a, some b => bif Nat.beq a b then (bif decide (o1 ≤ o2) then some (iv, cs) else none) else match iv_rng iv k1 o1, iv_rng iv k2 o2 with
    | some (l1, _), some (_, u2) => match iv_nar iv k1 o1 l1 u2 with
      | some iv => match iv_nar iv k2 o2 l1 u2 with
        | some iv => bif con_bad cs a b (o2 - o1) then none else match tga (.inr (a, b, o2 - o1) :: cs) iv with
          | some iv => some (iv, .inr (a, b, o2 - o1) :: cs)
          | none => none
        | none => none
      | none => none
    | _, _ => some (iv, cs)
  | _, _ => match iv_rng iv k1 o1, iv_rng iv k2 o2 with
    | some (l1, _), some (_, u2) => match iv_nar iv k1 o1 l1 u2 with
      | some iv => match iv_nar iv k2 o2 l1 u2 with
        | some iv => match tga cs iv with
          | some iv => some (iv, cs)
          | none => none
        | none => none
      | none => none
    | _, _ => some (iv, cs)
theorem br_le_ok {iv : IV} {cs : List Con} {k1 k2 : Option Nat} {o1 o2 x y : Int} (g : ia_g E ρ iv) (hc : ∀ c ∈ cs, con_g iv.length ρ c) (hx : av_ev iv.length ρ k1 o1 x) (hy : av_ev iv.length ρ k2 o2 y) (h : x ≤ y) :
    ∃ q : IV × List Con, br_le iv cs k1 o1 k2 o2 = some q ∧ q.1.length = iv.length ∧ ia_g E ρ q.1 ∧ ∀ c ∈ q.2, con_g iv.length ρ c := by
  have key : ∀ l1 u1 l2 u2, iv_rng iv k1 o1 = some (l1, u1) → iv_rng iv k2 o2 = some (l2, u2) → ∀ cs' : List Con, (∀ c ∈ cs', con_g iv.length ρ c) → ∃ i1, iv_nar iv k1 o1 l1 u2 = some i1 ∧ ∃ i2, iv_nar i1 k2 o2 l1 u2 = some i2 ∧ ∃ i3, tga cs' i2 = some i3 ∧ i3.length = iv.length ∧ ia_g E ρ i3 := by
    intro l1 u1 l2 u2 r1 r2 cs' hcs
    have b1 := iv_rng_ok g hx r1
    have b2 := iv_rng_ok g hy r2
    obtain ⟨i1, e1, n1, g1⟩ := iv_nar_ok g hx (lo := l1) (hi := u2) (by omega) (by omega)
    obtain ⟨i2, e2, n2, g2⟩ := iv_nar_ok (k := k2) (o := o2) (v := y) (lo := l1) (hi := u2) g1 (by rw [n1]; exact hy) (by omega) (by omega)
    obtain ⟨i3, e3, n3, g3⟩ := tga_ok cs' i2 g2 (fun c hc => by rw [n2, n1]; exact hcs c hc)
    exact ⟨i1, e1, i2, e2, i3, e3, by omega, g3⟩
  have rest : ∃ q : IV × List Con, (match iv_rng iv k1 o1, iv_rng iv k2 o2 with
    | some (l1, _), some (_, u2) => match iv_nar iv k1 o1 l1 u2 with
      | some iv => match iv_nar iv k2 o2 l1 u2 with
        | some iv => match tga cs iv with
          | some iv => some (iv, cs)
          | none => none
        | none => none
      | none => none
    | _, _ => some (iv, cs)) = some q ∧ q.1.length = iv.length ∧ ia_g E ρ q.1 ∧ ∀ c ∈ q.2, con_g iv.length ρ c := by
    split
    · rename_i l1 u1 l2 u2 r1 r2
      obtain ⟨i1, e1, i2, e2, i3, e3, n3, g3⟩ := key l1 u1 l2 u2 r1 r2 cs hc
      rw [e1]
      simp only [e2, e3]
      exact ⟨_, rfl, n3, g3, hc⟩
    · exact ⟨_, rfl, rfl, g, hc⟩
  unfold br_le
  cases k1 with
  | none => exact rest
  | some a =>
    cases k2 with
    | none => exact rest
    | some b =>
      dsimp only
      cases hab : Nat.beq a b with
      | true =>
        have hab := Nat.eq_of_beq_eq_true hab
        subst hab
        have h1 := hx.2
        have h2 := hy.2
        have ho : o1 ≤ o2 := by omega
        simp only [ho, decide_true, cond_true]
        exact ⟨_, rfl, rfl, g, hc⟩
      | false =>
        simp only [cond_false]
        split
        · rename_i l1 u1 l2 u2 r1 r2
          have h1 := hx.2
          have h2 := hy.2
          have hle : ρ a ≤ ρ b + (o2 - o1) := by omega
          have hcs : ∀ c ∈ ((.inr (a, b, o2 - o1) : Con) :: cs), con_g iv.length ρ c := by
            intro c hm
            cases List.mem_cons.mp hm with
            | inl e => subst e; exact ⟨hx.1, hy.1, hle⟩
            | inr hm => exact hc c hm
          obtain ⟨i1, e1, i2, e2, i3, e3, n3, g3⟩ := key l1 u1 l2 u2 r1 r2 _ hcs
          rw [e1]
          simp only [e2, e3, con_bad_ok hc hle, cond_false]
          exact ⟨_, rfl, n3, g3, hcs⟩
        · exact ⟨_, rfl, rfl, g, hc⟩
/-- x + o ≠ y + p is taken in: the ends are trimmed -/
noncomputable def br_ne (iv : IV) (k1 : Option Nat) (o1 : Int) (k2 : Option Nat) (o2 : Int) : Option IV := match iv_rng iv k1 o1, iv_rng iv k2 o2 with
  | some (l1, u1), some (l2, u2) =>
    bif decide (l2 = u2) then iv_nar iv k1 o1 (bif decide (l1 = l2) then l1 + 1 else l1) (bif decide (u1 = l2) then u1 - 1 else u1)
    else (bif decide (l1 = u1) then iv_nar iv k2 o2 (bif decide (l2 = l1) then l2 + 1 else l2) (bif decide (u2 = l1) then u2 - 1 else u2) else some iv)
  | _, _ => some iv
theorem br_ne_ok {iv : IV} {k1 k2 : Option Nat} {o1 o2 x y : Int} (g : ia_g E ρ iv) (hx : av_ev iv.length ρ k1 o1 x) (hy : av_ev iv.length ρ k2 o2 y) (h : ¬ x = y) : ∃ iv', br_ne iv k1 o1 k2 o2 = some iv' ∧ iv'.length = iv.length ∧ ia_g E ρ iv' := by
  unfold br_ne
  split
  · rename_i l1 u1 l2 u2 r1 r2
    have b1 := iv_rng_ok g hx r1
    have b2 := iv_rng_ok g hy r2
    cases h1 : decide (l2 = u2) with
    | true =>
      have h1 := of_decide_eq_true h1
      refine iv_nar_ok g hx ?_ ?_
      · cases h2 : decide (l1 = l2) with
        | true => have h2 := of_decide_eq_true h2; show l1 + 1 ≤ x; omega
        | false => exact b1.1
      · cases h2 : decide (u1 = l2) with
        | true => have h2 := of_decide_eq_true h2; show x ≤ u1 - 1; omega
        | false => exact b1.2
    | false =>
      cases h3 : decide (l1 = u1) with
      | true =>
        have h3 := of_decide_eq_true h3
        refine iv_nar_ok g hy ?_ ?_
        · cases h2 : decide (l2 = l1) with
          | true => have h2 := of_decide_eq_true h2; show l2 + 1 ≤ y; omega
          | false => exact b2.1
        · cases h2 : decide (u2 = l1) with
          | true => have h2 := of_decide_eq_true h2; show y ≤ u2 - 1; omega
          | false => exact b2.2
      | false => exact ⟨iv, rfl, rfl, g⟩
  · exact ⟨iv, rfl, rfl, g⟩
end AIP
