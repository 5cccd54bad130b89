section
/-- numbers of a row within bounds: the first so many; all that count -/
noncomputable def LPf (c o st B p : Nat) (h : pm_H) : Prop := ∀ m, st * m < p → ∃ x : Int64, ld h c (o + st * m) = some (.long x) ∧ 0 ≤ x.toInt ∧ x.toInt ≤ (B : Int)
noncomputable def LDf (c o st e B lc lk : Nat) (h : pm_H) : Prop := ∀ (n : Int32) (m : Nat), ld h lc lk = some (.int n) → ((st * m + e : Nat) : Int) < n.toInt → ∃ x : Int64, ld h c (o + st * m) = some (.long x) ∧ 0 ≤ x.toInt ∧ x.toInt ≤ (B : Int)
noncomputable def fl2 (i : Nat) (h : pm_H) : Prop := match lfam[i / 62]? with
  | some (c, o, st, e, B, lc, lk) => (bif Nat.beq (i % 62) 61 then LDf c o st e B lc lk h else LPf c o st B (i % 62) h)
  | none => True
noncomputable def sp2 (i : Nat) : List Rng := match lfam[i / 62]? with
  | some (c, o, _, _, _, lc, lk) => bif Nat.beq (i % 62) 61 then [(c, 0, 4294967295), (lc, lk, lk)] else (bif Nat.beq (i % 62) 0 then [] else [(c, o, o + (i % 62) - 1)])
  | none => []
theorem lfam_o : ∀ f ∈ lfam, f.2.1 ≤ 240 := by decide +kernel
theorem fl2_fr (i : Nat) (h h' : pm_H) (hf : ∀ a k, rg_in (sp2 i) a k = true → ld h' a k = ld h a k) (hi : fl2 i h) : fl2 i h' := by
  unfold fl2 sp2 at *
  split
  · rename_i c o st e B lc lk eq
    have ho := lfam_o _ (List.mem_of_getElem? eq)
    dsimp only at ho
    rw [eq] at hf hi
    dsimp only at hf hi
    cases hb : Nat.beq (i % 62) 61 with
    | true =>
      rw [hb] at hf hi
      dsimp only [cond_true] at hf hi ⊢
      intro n m h1 h2
      rw [hf lc lk (rg_in_one (Nat.le_refl _) (Nat.le_refl _) (List.mem_cons_of_mem _ (List.mem_singleton_self _)))] at h1
      obtain ⟨x, e1, e2⟩ := hi n m h1 h2
      have hn := ai_hi n
      exact ⟨x, by rw [hf c _ (rg_in_one (Nat.zero_le _) (by omega) List.mem_cons_self)]; exact e1, e2⟩
    | false =>
      rw [hb] at hf hi
      dsimp only [cond_false] at hf hi ⊢
      intro m hm
      obtain ⟨x, e1, e2⟩ := hi m hm
      have h0 : Nat.beq (i % 62) 0 = false := by
        cases h0 : Nat.beq (i % 62) 0 with
        | false => rfl
        | true => have := Nat.eq_of_beq_eq_true h0; omega
      rw [h0] at hf
      dsimp only [cond_false] at hf
      exact ⟨x, by rw [hf c _ (rg_in_one (by omega) (by omega) (List.mem_singleton_self _))]; exact e1, e2⟩
  · trivial
noncomputable def fl0 (i : Nat) (h : pm_H) : Prop := bif Nat.blt i 210 then fl1 i h else fl2 (i - 210) h
noncomputable def sp0 (i : Nat) : List Rng := bif Nat.blt i 210 then sp1 i else sp2 (i - 210)
theorem fl0_fr (i : Nat) (h h' : pm_H) (a1 : hs_g hs0 h) (a2 : hs_g hs0 h') (hf : ∀ a k, rg_in (sp0 i) a k = true → ld h' a k = ld h a k) (hi : fl0 i h) : fl0 i h' := by
  unfold fl0 sp0 at *
  cases hb : Nat.blt i 210 with
  | true => rw [hb] at hf hi; exact fl1_fr i h h' a1 a2 hf hi
  | false => rw [hb] at hf hi; exact fl2_fr (i - 210) h h' hf hi
noncomputable def w0 : AW := ⟨(hs0, fl0, sp0), fl0_fr⟩
theorem fl0_lo {i : Nat} (h : i < 210) : w0.1.2.1 i = fl1 i := by
  funext q
  show (bif Nat.blt i 210 then fl1 i q else fl2 (i - 210) q) = fl1 i q
  rw [show Nat.blt i 210 = true from Nat.ble_eq_true_of_le h]; rfl
theorem fl0_at {f p c o st e B lc lk : Nat} (hp : p < 62) (eq : lfam[f]? = some (c, o, st, e, B, lc, lk)) (h : pm_H) : w0.1.2.1 (210 + (62 * f + p)) h = (bif Nat.beq p 61 then LDf c o st e B lc lk h else LPf c o st B p h) := by
  show (bif Nat.blt (210 + (62 * f + p)) 210 then fl1 (210 + (62 * f + p)) h else fl2 (210 + (62 * f + p) - 210) h) = _
  have hb : Nat.blt (210 + (62 * f + p)) 210 = false := by
    cases hb : Nat.blt (210 + (62 * f + p)) 210 with
    | false => rfl
    | true => have := Nat.le_of_ble_eq_true hb; omega
  rw [hb, cond_false, show 210 + (62 * f + p) - 210 = 62 * f + p by omega]
  unfold fl2
  rw [show (62 * f + p) / 62 = f by omega, show (62 * f + p) % 62 = p by omega, eq]
theorem fl1_at {f j T a G b st : Nat} {h : pm_H} (hj : j < 21) (e : fam[f]? = some (T, a, G, b, st)) : fl1 (21 * f + j) h = FA T a G b st j h := by
  unfold fl1
  rw [show (21 * f + j) / 21 = f by omega, show (21 * f + j) % 21 = j by omega, e]
theorem fam_lt {f : Nat} {q : Nat × Nat × Nat × Nat × Nat} (e : fam[f]? = some q) : f < 10 := (List.getElem?_eq_some_iff.mp e).1
theorem fl0_f {f j T a G b st : Nat} {h : pm_H} (hj : j < 21) (e : fam[f]? = some (T, a, G, b, st)) : w0.1.2.1 (21 * f + j) h = FA T a G b st j h := by
  have hf := fam_lt e
  rw [fl0_lo (by omega)]
  exact fl1_at hj e
noncomputable def h_weak (f : Nat) (A : AS) : List AS := [bif (fam[f]?).isSome && A.2.2.2.2.2.2.1.contains (21 * f + 20) then set_fl A ((List.range 20).map (fun j => 21 * f + j) ++ A.2.2.2.2.2.2.1) else A]
theorem h_weak_ok (f : Nat) (E : AEnv) (A : AS) (σ : pm_S) (g : as_g w0 E A σ) : ∃ B ∈ h_weak f A, as_g w0 E B σ := by
  refine ⟨_, List.mem_singleton_self _, ?_⟩
  cases hc : ((fam[f]?).isSome && A.2.2.2.2.2.2.1.contains (21 * f + 20)) with
  | false => exact g
  | true =>
    rw [Bool.and_eq_true] at hc
    obtain ⟨⟨T, a, G, b, st⟩, e⟩ := Option.isSome_iff_exists.mp hc.1
    obtain ⟨ρ, g⟩ := g
    have hm : 21 * f + 20 ∈ A.2.2.2.2.2.2.1 := by have := hc.2; simpa using this
    have h20 := g.2.2.2.2.2.2.2.1 _ hm
    rw [fl0_f (by omega) e] at h20
    refine ⟨ρ, set_fl_ok g (fun i hi => ?_)⟩
    cases List.mem_append.mp hi with
    | inr hi => exact g.2.2.2.2.2.2.2.1 i hi
    | inl hi =>
      obtain ⟨j, hj, rfl⟩ := List.mem_map.mp hi
      have hj : j < 20 := List.mem_range.mp hj
      rw [fl0_f (by omega) e]
      exact fun i h1 _ => h20 i h1 (by omega)
noncomputable def use1 (T a G b st i : Nat) (A : AS) : Option AS := match mem_get A.2.2.2.2.1 T (a + st * i), mem_get A.2.2.2.2.1 G (b + st * i) with
  | some (.inl (k, o)), some (.inl (k', o')) => match iv_rng A.2.2.2.1 k o with
    | some (l, u) => bif decide (0 < l) || decide (u < 0) then (match iv_nar A.2.2.2.1 k' o' (-2147483648) 7 with
      | some iv' => some (set_iv A iv')
      | none => none) else some A
    | none => some A
  | _, _ => some A
theorem use1_ok {T a G b st i : Nat} {E : AEnv} {ρ : Nat → Int} {A : AS} {σ : pm_S} (hi : i < 20) (hF : FA T a G b st 20 σ.2.2.2.1) (g : as_r w0 E ρ A σ) : ∃ B, use1 T a G b st i A = some B ∧ as_r w0 E ρ B σ := by
  unfold use1
  split
  · rename_i k o k' o' e1 e2
    split
    · rename_i l u r
      cases hb : (decide (0 < l) || decide (u < 0)) with
      | false => exact ⟨A, rfl, g⟩
      | true =>
        simp only [Bool.or_eq_true, decide_eq_true_eq] at hb
        obtain ⟨v1, p1, q1⟩ := g.2.2.2.2.2.1 _ _ (mem_get_in e1)
        obtain ⟨v2, p2, q2⟩ := g.2.2.2.2.2.1 _ _ (mem_get_in e2)
        obtain ⟨t, rfl, q1⟩ := av_int q1
        obtain ⟨y, rfl, q2⟩ := av_int q2
        have b1 := iv_rng_ok g.1 q1 r
        have h7 := hF i hi (by omega) t y p1 p2 (by omega)
        obtain ⟨iv', e3, e4, e5⟩ := iv_nar_ok (lo := -2147483648) (hi := 7) g.1 q2 (ai_lo y) h7
        rw [cond_true, e3]
        exact ⟨_, rfl, as_iv g e4 e5⟩
    · exact ⟨A, rfl, g⟩
  · exact ⟨A, rfl, g⟩
noncomputable def useall (T a G b st : Nat) : Nat → AS → Option AS
  | 0, A => some A
  | i + 1, A => match use1 T a G b st i A with
    | some B => useall T a G b st i B
    | none => none
theorem useall_ok {T a G b st : Nat} {E : AEnv} {ρ : Nat → Int} {σ : pm_S} (hF : FA T a G b st 20 σ.2.2.2.1) : ∀ (i : Nat) (A : AS), i ≤ 20 → as_r w0 E ρ A σ → ∃ B, useall T a G b st i A = some B ∧ as_r w0 E ρ B σ
  | 0, A, _, g => ⟨A, rfl, g⟩
  | i + 1, A, hi, g => by
    obtain ⟨B, e, gB⟩ := use1_ok (i := i) (by omega) hF g
    obtain ⟨C, e2, gC⟩ := useall_ok hF i B (by omega) gB
    exact ⟨C, by unfold useall; rw [e]; exact e2, gC⟩
noncomputable def h_use (f : Nat) (A : AS) : List AS := bif A.2.2.2.2.2.2.1.contains (21 * f + 20) then (match fam[f]? with
  | some (T, a, G, b, st) => (useall T a G b st 20 A).toList
  | none => [A]) else [A]
theorem h_use_ok (f : Nat) (E : AEnv) (A : AS) (σ : pm_S) (g : as_g w0 E A σ) : ∃ B ∈ h_use f A, as_g w0 E B σ := by
  unfold h_use
  cases hc : A.2.2.2.2.2.2.1.contains (21 * f + 20) with
  | false => exact ⟨A, List.mem_singleton_self _, g⟩
  | true =>
    rw [cond_true]
    split
    · rename_i T a G b st e
      obtain ⟨ρ, g⟩ := g
      have hm : 21 * f + 20 ∈ A.2.2.2.2.2.2.1 := by simpa using hc
      have h20 := g.2.2.2.2.2.2.2.1 _ hm
      rw [fl0_f (by omega) e] at h20
      obtain ⟨B, e1, gB⟩ := useall_ok h20 20 A (Nat.le_refl _) g
      rw [e1]
      exact ⟨B, List.mem_singleton_self _, ρ, gB⟩
    · exact ⟨A, List.mem_singleton_self _, g⟩
noncomputable def int_c (T a G b st j : Nat) (A : AS) : Bool := (match mem_get A.2.2.2.2.1 T (a + st * j) with
  | some (.inl (k, o)) => (match iv_rng A.2.2.2.1 k o with | some (l, u) => decide (l = 0) && decide (u = 0) | none => false)
  | _ => false) || (match mem_get A.2.2.2.2.1 G (b + st * j) with
  | some (.inl (k, o)) => (match iv_rng A.2.2.2.1 k o with | some (_, u) => decide (u ≤ 7) | none => false)
  | _ => false)
theorem int_c_ok {T a G b st j : Nat} {E : AEnv} {ρ : Nat → Int} {A : AS} {σ : pm_S} (g : as_r w0 E ρ A σ) (hF : FA T a G b st j σ.2.2.2.1) (h : int_c T a G b st j A = true) : FA T a G b st 20 σ.2.2.2.1 := by
  intro i hi _ t y h1 h2 h3
  by_cases hj : i = j
  · subst hj
    unfold int_c at h
    rw [Bool.or_eq_true] at h
    cases h with
    | inl h =>
      split at h
      · rename_i k o e
        split at h
        · rename_i l u r
          simp only [Bool.and_eq_true, decide_eq_true_eq] at h
          obtain ⟨v, p, q⟩ := g.2.2.2.2.2.1 _ _ (mem_get_in e)
          dsimp only at p
          rw [h1] at p
          cases p
          have := iv_rng_ok g.1 q r
          omega
        · cases h
      · cases h
    | inr h =>
      split at h
      · rename_i k o e
        split at h
        · rename_i l u r
          have h := of_decide_eq_true h
          obtain ⟨v, p, q⟩ := g.2.2.2.2.2.1 _ _ (mem_get_in e)
          dsimp only at p
          rw [h2] at p
          cases p
          have := iv_rng_ok g.1 q r
          omega
        · cases h
      · cases h
  · exact hF i hi hj t y h1 h2 h3
noncomputable def h_intro (f : Nat) (A : AS) : List AS := bif A.2.2.2.2.2.2.1.contains (21 * f + 20) then [A] else (match fam[f]? with
  | some (T, a, G, b, st) => [bif (List.range 20).any (fun j => A.2.2.2.2.2.2.1.contains (21 * f + j) && int_c T a G b st j A) then set_fl A ((21 * f + 20) :: A.2.2.2.2.2.2.1) else A]
  | none => [A])
end
