section
section AIP
variable {w : AW} {E : AEnv} {ρ : Nat → Int}
theorem a_pi_ok {pc n : Nat} {lv : List (Nat × AV)} {st : List AV} {iv : IV} {ex : AX} {pc' : Nat} {cl : List (Nat × Value)} {cs : List Value} {W : pm_H × Nat × Nat} {v : Int32} {lo hi : Int} (g : as_r w E ρ (pc, lv, st, iv, ex) (pc', cl, cs, W)) (h1 : lo ≤ v.toInt) (h2 : v.toInt ≤ hi) : as_g w E (a_pi n lv st iv ex lo hi) (n, cl, .int v :: cs, W) := by
  unfold a_pi
  cases hb : decide (lo = hi) with
  | true =>
    have hb := of_decide_eq_true hb
    obtain ⟨g1, g2, g3, g4, g5⟩ := g
    exact ⟨ρ, g1, rfl, g3, ⟨(by show v.toInt = lo; omega), g4⟩, g5⟩
  | false =>
    obtain ⟨⟨g1, g2, g3, g4, g5⟩, e⟩ := as_grow g h1 h2
    exact ⟨_, g1, rfl, g3, ⟨e, g4⟩, g5⟩
theorem a_pl_ok {pc n : Nat} {lv : List (Nat × AV)} {st : List AV} {iv : IV} {ex : AX} {pc' : Nat} {cl : List (Nat × Value)} {cs : List Value} {W : pm_H × Nat × Nat} {v : Int64} {lo hi : Int} (g : as_r w E ρ (pc, lv, st, iv, ex) (pc', cl, cs, W)) (h1 : lo ≤ v.toInt) (h2 : v.toInt ≤ hi) : as_g w E (a_pl n lv st iv ex lo hi) (n, cl, .long v :: cs, W) := by
  unfold a_pl
  cases hb : decide (lo = hi) with
  | true =>
    have hb := of_decide_eq_true hb
    obtain ⟨g1, g2, g3, g4, g5⟩ := g
    exact ⟨ρ, g1, rfl, g3, ⟨(by show v.toInt = lo; omega), g4⟩, g5⟩
  | false =>
    obtain ⟨⟨g1, g2, g3, g4, g5⟩, e⟩ := as_grow g h1 h2
    exact ⟨_, g1, rfl, g3, ⟨e, g4⟩, g5⟩
theorem iv_at {iv : IV} {k : Nat} (h : k < iv.length) : ∃ l u, iv[k]? = some (l, u) := ⟨iv[k].1, iv[k].2, List.getElem?_eq_getElem h⟩
/-- a narrower interval -/
noncomputable def iv_nar (iv : IV) (k : Option Nat) (o lo hi : Int) : Option IV := match k with
  | none => bif decide (lo ≤ o) && decide (o ≤ hi) then some iv else none
  | some k => match iv[k]? with
    | some (l, u) => bif decide (max l (lo - o) ≤ min u (hi - o)) then some (iv.set k (max l (lo - o), min u (hi - o))) else none
    | none => none
theorem iv_nar_ok {iv : IV} {k : Option Nat} {o lo hi v : Int} (g : ia_g E ρ iv) (hv : av_ev iv.length ρ k o v) (h1 : lo ≤ v) (h2 : v ≤ hi) : ∃ iv', iv_nar iv k o lo hi = some iv' ∧ iv'.length = iv.length ∧ ia_g E ρ iv' := by
  cases k with
  | none =>
    have hv : v = o := hv
    subst hv
    refine ⟨iv, ?_, rfl, g⟩
    unfold iv_nar
    simp only [h1, h2, decide_true, Bool.and_self, cond_true]
  | some k =>
    obtain ⟨hk, hv⟩ := hv
    obtain ⟨l, u, hg⟩ := iv_at hk
    have hb := g.1 k l u hg
    have hle : max l (lo - o) ≤ min u (hi - o) := by omega
    refine ⟨iv.set k (max l (lo - o), min u (hi - o)), ?_, List.length_set, ⟨fun q a b hqq => ?_, by rw [List.length_set]; exact g.2.1, g.2.2⟩⟩
    · unfold iv_nar
      simp only [hg, hle, decide_true, cond_true]
    · by_cases hqk : k = q
      · subst hqk
        rw [List.getElem?_set_self hk] at hqq
        cases hqq
        omega
      · rw [List.getElem?_set_ne hqk] at hqq
        exact g.1 q a b hqq
theorem as_iv {pc : Nat} {lv : List (Nat × AV)} {st : List AV} {iv iv' : IV} {ex : AX} {σ : pm_S} (g : as_r w E ρ (pc, lv, st, iv, ex) σ) (hl : iv'.length = iv.length) (g1 : ia_g E ρ iv') : as_r w E ρ (pc, lv, st, iv', ex) σ := by
  obtain ⟨_, g2, g3, g4, g5⟩ := g
  dsimp only at g2 g3 g4 g5
  rw [← hl] at g3 g4 g5
  exact ⟨g1, g2, g3, g4, g5⟩
/-- one relation narrows its symbols -/
noncomputable def tg1 (c : Con) (iv : IV) : Option IV := match c with
  | .inl (s, a, b) => match iv[s]?, iv[a]?, iv[b]? with
    | some (sl, su), some (al, au), some (bl, bu) => match iv_nar iv (some s) 0 (al + bl) (au + bu) with
      | some iv => match iv_nar iv (some a) 0 (sl - bu) (su - bl) with
        | some iv => iv_nar iv (some b) 0 (sl - au) (su - al)
        | none => none
      | none => none
    | _, _, _ => some iv
  | .inr (a, b, c) => match iv[a]?, iv[b]? with
    | some (al, au), some (bl, bu) => match iv_nar iv (some a) 0 al (bu + c) with
      | some iv => iv_nar iv (some b) 0 (al - c) bu
      | none => none
    | _, _ => some iv
theorem tg1_ok {iv : IV} {c : Con} (g : ia_g E ρ iv) (hc : con_g iv.length ρ c) : ∃ iv', tg1 c iv = some iv' ∧ iv'.length = iv.length ∧ ia_g E ρ iv' := by
  rcases c with ⟨s, a, b⟩ | ⟨a, b, c⟩
  · obtain ⟨hs, ha, hb, he⟩ := hc
    obtain ⟨sl, su, es⟩ := iv_at hs
    obtain ⟨al, au, ea⟩ := iv_at ha
    obtain ⟨bl, bu, eb⟩ := iv_at hb
    have bs := g.1 s _ _ es
    have ba := g.1 a _ _ ea
    have bb := g.1 b _ _ eb
    unfold tg1
    simp only [es, ea, eb]
    obtain ⟨i1, e1, l1, g1⟩ := iv_nar_ok (k := some s) (o := 0) (v := ρ s) (lo := al + bl) (hi := au + bu) g ⟨hs, by omega⟩ (by omega) (by omega)
    obtain ⟨i2, e2, l2, g2⟩ := iv_nar_ok (k := some a) (o := 0) (v := ρ a) (lo := sl - bu) (hi := su - bl) g1 ⟨by omega, by omega⟩ (by omega) (by omega)
    obtain ⟨i3, e3, l3, g3⟩ := iv_nar_ok (k := some b) (o := 0) (v := ρ b) (lo := sl - au) (hi := su - al) g2 ⟨by omega, by omega⟩ (by omega) (by omega)
    rw [e1]
    simp only [e2]
    exact ⟨i3, e3, by omega, g3⟩
  · obtain ⟨ha, hb, he⟩ := hc
    obtain ⟨al, au, ea⟩ := iv_at ha
    obtain ⟨bl, bu, eb⟩ := iv_at hb
    have ba := g.1 a _ _ ea
    have bb := g.1 b _ _ eb
    unfold tg1
    simp only [ea, eb]
    obtain ⟨i1, e1, l1, g1⟩ := iv_nar_ok (k := some a) (o := 0) (v := ρ a) (lo := al) (hi := bu + c) g ⟨ha, by omega⟩ (by omega) (by omega)
    obtain ⟨i2, e2, l2, g2⟩ := iv_nar_ok (k := some b) (o := 0) (v := ρ b) (lo := al - c) (hi := bu) g1 ⟨by omega, by omega⟩ (by omega) (by omega)
    rw [e1]
    exact ⟨i2, e2, by omega, g2⟩
/-- all relations, once -/
noncomputable def tga : List Con → IV → Option IV
  | [], iv => some iv
  | c :: l, iv => match tg1 c iv with
    | some iv => tga l iv
    | none => none
theorem tga_ok : ∀ (l : List Con) (iv : IV), ia_g E ρ iv → (∀ c ∈ l, con_g iv.length ρ c) → ∃ iv', tga l iv = some iv' ∧ iv'.length = iv.length ∧ ia_g E ρ iv'
  | [], iv, g, _ => ⟨iv, rfl, rfl, g⟩
  | c :: l, iv, g, h => by
    obtain ⟨i1, e1, l1, g1⟩ := tg1_ok g (h c List.mem_cons_self)
    obtain ⟨i2, e2, l2, g2⟩ := tga_ok l i1 g1 (fun c hc => by rw [l1]; exact h c (List.mem_cons_of_mem _ hc))
    exact ⟨i2, by unfold tga; rw [e1]; exact e2, by omega, g2⟩
/-- a relation is added, if it does not speak against one that is there -/
noncomputable def con_bad (l : List Con) (a b : Nat) (c : Int) : Bool := l.any (fun q => match q with | .inr (a', b', c') => Nat.beq a a' && (Nat.beq b b' && false) || (Nat.beq a b' && (Nat.beq b a' && decide (c + c' < 0))) | _ => false)
end AIP
end
