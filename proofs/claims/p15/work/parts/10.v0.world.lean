/-! the world: the heap's shape behind the constructors (written by emit.py) -/
noncomputable def cI (a b : Int) : CV := .inl (a, b)
noncomputable def cL (a b : Int) : CV := .inr (.inl (a, b))
noncomputable def cR (a : Nat) : CV := .inr (.inr (.inl a))
noncomputable def cO (k : Nat) : CV := .inr (.inr (.inr (.inl k)))
noncomputable def cN : CV := .inr (.inr (.inr (.inr ())))
noncomputable def hs0 : List AE := [.inr (.inr (.inr (8, [.inr (.inr (.inl 1)), .inr (.inr (.inl 3)), .inr (.inr (.inl 15)), .inr (.inr (.inl 24)), .inr (.inr (.inl 52)), .inr (.inr (.inl 53)), .inr (.inr (.inl 62)), .inr (.inr (.inl 64)), .inr (.inr (.inl 70)), .inr (.inr (.inl 72)), .inr (.inr (.inl 75)), .inr (.inr (.inl 76))]))), .inr (.inr (.inr (6, [.inr (.inr (.inl 2)), .inl (0, 500)]))), .inl (1, 500, [((-128), 127)]), .inr (.inr (.inr (2, [.inr (.inr (.inl 4)), .inl (0, 3), .inl ((-1), 500), .inr (.inr (.inl 1)), .inr (.inr (.inl 13)), .inl (0, 4), .inl (0, 500), .inl (0, 500), .inl ((-2147483648), 2147483647), .inl (0, 99)]))), .inr (.inr (.inr (5, [.inl (0, 8), .inl (0, 3), .inl (0, 10), .inl ((-2147483648), 2147483647), .inl (0, 8), .inl (0, 8), .inl (0, 20), .inr (.inr (.inl 5)), .inr (.inr (.inl 6)), .inr (.inr (.inl 7)), .inr (.inr (.inl 8)), .inr (.inr (.inl 9)), .inr (.inr (.inl 10)), .inr (.inr (.inl 11)), .inr (.inr (.inl 12))]))), .inl (0, 8, [(0, 8)]), .inl (0, 8, [(0, 8)]), .inl (0, 8, [(0, 99)]), .inl (0, 8, [(0, 9)]), .inl (0, 8, [(0, 9)]), .inl (0, 20, [(0, 7)]), .inl (0, 20, [(0, 8)]), .inl (2, 20, [(0, 1)]), .inr (.inr (.inr (0, [.inr (.inr (.inl 14)), .inl (0, 9)]))), .inl (0, 10, [(0, 511)]), .inr (.inr (.inr (5, [.inl (0, 8), .inl (0, 3), .inl (0, 10), .inl ((-2147483648), 2147483647), .inl (0, 8), .inl (0, 8), .inl (0, 20), .inr (.inr (.inl 16)), .inr (.inr (.inl 17)), .inr (.inr (.inl 18)), .inr (.inr (.inl 19)), .inr (.inr (.inl 20)), .inr (.inr (.inl 21)), .inr (.inr (.inl 22)), .inr (.inr (.inl 23))]))), .inl (0, 8, [(0, 8)]), .inl (0, 8, [(0, 8)]), .inl (0, 8, [(0, 99)]), .inl (0, 8, [(0, 9)]), .inl (0, 8, [(0, 9)]), .inl (0, 20, [(0, 7)]), .inl (0, 20, [(0, 8)]), .inl (2, 20, [(0, 1)]), .inr (.inr (.inl (4, [some 25, some 34, some 43]))), .inr (.inr (.inr (5, [.inl (0, 8), .inl (0, 3), .inl (0, 10), .inl ((-2147483648), 2147483647), .inl (0, 8), .inl (0, 8), .inl (0, 20), .inr (.inr (.inl 26)), .inr (.inr (.inl 27)), .inr (.inr (.inl 28)), .inr (.inr (.inl 29)), .inr (.inr (.inl 30)), .inr (.inr (.inl 31)), .inr (.inr (.inl 32)), .inr (.inr (.inl 33))]))), .inl (0, 8, [(0, 8)]), .inl (0, 8, [(0, 8)]), .inl (0, 8, [(0, 99)]), .inl (0, 8, [(0, 9)]), .inl (0, 8, [(0, 9)]), .inl (0, 20, [(0, 7)]), .inl (0, 20, [(0, 8)]), .inl (2, 20, [(0, 1)]), .inr (.inr (.inr (5, [.inl (0, 8), .inl (0, 3), .inl (0, 10), .inl ((-2147483648), 2147483647), .inl (0, 8), .inl (0, 8), .inl (0, 20), .inr (.inr (.inl 35)), .inr (.inr (.inl 36)), .inr (.inr (.inl 37)), .inr (.inr (.inl 38)), .inr (.inr (.inl 39)), .inr (.inr (.inl 40)), .inr (.inr (.inl 41)), .inr (.inr (.inl 42))]))), .inl (0, 8, [(0, 8)]), .inl (0, 8, [(0, 8)]), .inl (0, 8, [(0, 99)]), .inl (0, 8, [(0, 9)]), .inl (0, 8, [(0, 9)]), .inl (0, 20, [(0, 7)]), .inl (0, 20, [(0, 8)]), .inl (2, 20, [(0, 1)]), .inr (.inr (.inr (5, [.inl (0, 8), .inl (0, 3), .inl (0, 10), .inl ((-2147483648), 2147483647), .inl (0, 8), .inl (0, 8), .inl (0, 20), .inr (.inr (.inl 44)), .inr (.inr (.inl 45)), .inr (.inr (.inl 46)), .inr (.inr (.inl 47)), .inr (.inr (.inl 48)), .inr (.inr (.inl 49)), .inr (.inr (.inl 50)), .inr (.inr (.inl 51))]))), .inl (0, 8, [(0, 8)]), .inl (0, 8, [(0, 8)]), .inl (0, 8, [(0, 99)]), .inl (0, 8, [(0, 9)]), .inl (0, 8, [(0, 9)]), .inl (0, 20, [(0, 7)]), .inl (0, 20, [(0, 8)]), .inl (2, 20, [(0, 1)]), .inl (2, 3, [(0, 1)]), .inr (.inr (.inl (5, [some 54, some 56, some 58, some 60]))), .inr (.inr (.inr (4, [.inr (.inr (.inl 55)), .inl (0, 1), .inl (0, 3), .inl (0, 60)]))), .inr (.inl 60), .inr (.inr (.inr (4, [.inr (.inr (.inl 57)), .inl (0, 1), .inl (0, 3), .inl (0, 60)]))), .inr (.inl 60), .inr (.inr (.inr (4, [.inr (.inr (.inl 59)), .inl (0, 1), .inl (0, 3), .inl (0, 60)]))), .inr (.inl 60), .inr (.inr (.inr (4, [.inr (.inr (.inl 61)), .inl (0, 1), .inl (0, 3), .inl (0, 60)]))), .inr (.inl 60), .inr (.inr (.inr (1, [.inr (.inr (.inl 63)), .inl (0, 511), .inl (0, 255), .inl ((-2147483648), 2147483647)]))), .inl (0, 8, [(0, 9)]), .inr (.inr (.inr (7, [.inr (.inr (.inl 65)), .inr (.inr (.inl 66)), .inr (.inr (.inl 67)), .inr (.inr (.inl 68)), .inr (.inr (.inl 69)), .inl (0, 9), .inl (0, 9)]))), .inl (0, 9, [(0, 8)]), .inl (0, 9, [(0, 8)]), .inl (0, 9, [((-2147483648), 2147483647)]), .inl (0, 9, [(0, 511)]), .inl (0, 9, [(0, 8)]), .inr (.inr (.inr (0, [.inr (.inr (.inl 71)), .inl (0, 9)]))), .inl (0, 10, [(0, 511)]), .inr (.inr (.inr (3, [.inr (.inr (.inl 73)), .inr (.inr (.inl 74))]))), .inl (0, 256, [(0, 511)]), .inl (0, 256, [((-2147483648), 2147483647)]), .inl (0, 8, [(0, 9)]), .inl (0, 64, [(0, 9)]), .inr (.inr (.inr (9, [.inl (0, 0), .inr (.inr (.inl 78)), .inr (.inr (.inl 79)), .inr (.inr (.inl 80)), .inr (.inr (.inl 81)), .inr (.inr (.inl 82)), .inl (0, 500), .inl (0, 500), .inl (0, 4), .inl (0, 500), .inl ((-2147483648), 2147483647), .inr (.inl ()), .inl (0, 3), .inl ((-1), 500), .inl (0, 3), .inl ((-1), 500), .inr (.inr (.inl 83)), .inr (.inr (.inl 84)), .inr (.inr (.inl 85)), .inr (.inr (.inl 86)), .inr (.inr (.inl 87)), .inr (.inr (.inl 88)), .inl (0, 3), .inl ((-2147483648), 2147483647), .inr (.inr (.inl 89)), .inr (.inr (.inl 90)), .inr (.inr (.inl 91)), .inl (0, 255), .inr (.inr (.inl 92)), .inr (.inr (.inl 93)), .inr (.inr (.inl 94)), .inr (.inr (.inl 95)), .inr (.inr (.inl 96)), .inr (.inr (.inl 97)), .inr (.inr (.inl 98)), .inl ((-2147483648), 2147483647), .inl (0, 9), .inr (.inr (.inl 99)), .inr (.inr (.inl 100)), .inl (0, 6), .inr (.inr (.inl 101)), .inl (0, 255), .inl ((-1), 7), .inl ((-2147483648), 2147483647), .inr (.inr (.inl 102))]))), .inl (0, 4, [((-1), 3)]), .inl (0, 4, [(0, 60)]), .inr (.inl 240), .inr (.inl 60), .inl (1, 500, [((-128), 127)]), .inl (0, 5, [((-2147483648), 2147483647)]), .inl (0, 30, [(0, 8), (0, 3), (0, 10), (0, 8), (0, 8), (0, 20)]), .inl (0, 80, [(0, 8), (0, 99)]), .inl (0, 80, [(0, 9)]), .inl (0, 300, [(0, 1), (0, 7), (0, 8)]), .inl (2, 3, [(0, 1)]), .inl (0, 8, [(0, 8)]), .inl (0, 10, [((-1), 7)]), .inl (0, 8, [((-1), 9)]), .inl (0, 9, [(0, 8)]), .inl (0, 9, [(0, 8)]), .inl (0, 9, [((-2147483648), 2147483647)]), .inl (0, 8, [(0, 8)]), .inl (0, 18, [(0, 8)]), .inl (0, 8, [((-2147483648), 2147483647)]), .inl (0, 9, [(0, 8)]), .inl (0, 5, [(0, 4)]), .inl (0, 6, [(0, 1)]), .inl (0, 10, [(0, 9)]), .inl (0, 72, [((-1), 9)])]
noncomputable def fam : List (Nat × Nat × Nat × Nat × Nat) := [(12, 0, 11, 0, 1), (23, 0, 22, 0, 1), (33, 0, 32, 0, 1), (42, 0, 41, 0, 1), (51, 0, 50, 0, 1), (87, 0, 87, 2, 3), (87, 60, 87, 62, 3), (87, 120, 87, 122, 3), (87, 180, 87, 182, 3), (87, 240, 87, 242, 3)]
noncomputable def lfam : List (Nat × Nat × Nat × Nat × Nat × Nat × Nat) := [(55, 0, 2, 1, 7, 54, 3), (57, 0, 2, 1, 7, 56, 3), (59, 0, 2, 1, 7, 58, 3), (61, 0, 2, 1, 7, 60, 3), (55, 0, 1, 0, 8, 54, 3), (57, 0, 1, 0, 8, 56, 3), (59, 0, 1, 0, 8, 58, 3), (61, 0, 1, 0, 8, 60, 3), (80, 0, 2, 0, 7, 79, 0), (80, 60, 2, 0, 7, 79, 1), (80, 120, 2, 0, 7, 79, 2), (80, 180, 2, 0, 7, 79, 3), (80, 0, 1, 0, 8, 79, 0), (80, 60, 1, 0, 8, 79, 1), (80, 120, 1, 0, 8, 79, 2), (80, 180, 1, 0, 8, 79, 3)]
/-- acts: where a car is traded, the other one is a car (but for one act) -/
noncomputable def FA (T a G b st j : Nat) (h : pm_H) : Prop := ∀ i, i < 20 → i ≠ j → ∀ t g : Int32, ld h T (a + st * i) = some (.int t) → ld h G (b + st * i) = some (.int g) → ¬ t.toInt = 0 → g.toInt ≤ 7
noncomputable def fl1 (i : Nat) (h : pm_H) : Prop := match fam[i / 21]? with
  | some (T, a, G, b, st) => FA T a G b st (i % 21) h
  | none => True
noncomputable def sp_of (c o st j : Nat) : List Rng := bif Nat.ble 20 j then [(c, o, o + st * 19)] else (bif Nat.beq j 0 then [] else [(c, o, o + st * (j - 1))]) ++ (bif Nat.blt j 19 then [(c, o + st * (j + 1), o + st * 19)] else [])
noncomputable def sp1 (i : Nat) : List Rng := match fam[i / 21]? with
  | some (T, a, G, b, st) => sp_of T a st (i % 21) ++ sp_of G b st (i % 21)
  | none => []
theorem rg_in_one {c l u k : Nat} (h1 : l ≤ k) (h2 : k ≤ u) {S : List Rng} (hm : (c, l, u) ∈ S) : rg_in S c k = true :=
  List.any_eq_true.mpr ⟨(c, l, u), hm, by rw [Nat.beq_refl, Nat.ble_eq_true_of_le h1, Nat.ble_eq_true_of_le h2]; rfl⟩
theorem sp_of_in {c o st j i : Nat} (hi : i < 20) (hj : i ≠ j) : ∃ l u, (c, l, u) ∈ sp_of c o st j ∧ l ≤ o + st * i ∧ o + st * i ≤ u := by
  have h19 : st * i ≤ st * 19 := Nat.mul_le_mul_left st (by omega)
  unfold sp_of
  cases h20 : Nat.ble 20 j with
  | true => exact ⟨o, o + st * 19, List.mem_singleton_self _, by omega, by omega⟩
  | false =>
    by_cases hlt : i < j
    · have hb : Nat.beq j 0 = false := by
        cases hb : Nat.beq j 0 with
        | false => rfl
        | true => have := Nat.eq_of_beq_eq_true hb; omega
      have hm : st * i ≤ st * (j - 1) := Nat.mul_le_mul_left st (by omega)
      refine ⟨o, o + st * (j - 1), ?_, by omega, by omega⟩
      rw [hb]
      exact List.mem_append_left _ (List.mem_singleton_self _)
    · have hm : st * (j + 1) ≤ st * i := Nat.mul_le_mul_left st (by omega)
      have hb : Nat.blt j 19 = true := Nat.ble_eq_true_of_le (show j + 1 ≤ 19 by omega)
      refine ⟨o + st * (j + 1), o + st * 19, ?_, by omega, by omega⟩
      rw [hb]
      exact List.mem_append_right _ (List.mem_singleton_self _)
theorem fl1_fr (i : Nat) (h h' : pm_H) (_ : hs_g hs0 h) (_ : hs_g hs0 h') (hf : ∀ a k, rg_in (sp1 i) a k = true → ld h' a k = ld h a k) (hi : fl1 i h) : fl1 i h' := by
  unfold fl1 sp1 at *
  split
  · rename_i T a G b st e
    rw [e] at hf hi
    dsimp only at hf hi
    intro q hq hj t g h1 h2 h3
    obtain ⟨l1, u1, m1, x1, y1⟩ := sp_of_in (c := T) (o := a) (st := st) hq hj
    obtain ⟨l2, u2, m2, x2, y2⟩ := sp_of_in (c := G) (o := b) (st := st) hq hj
    rw [hf T _ (rg_in_one x1 y1 (List.mem_append_left _ m1))] at h1
    rw [hf G _ (rg_in_one x2 y2 (List.mem_append_right _ m2))] at h2
    exact hi q hq hj t g h1 h2 h3
  · trivial
/-- numbers of a row within bounds: the first so many; all that count -/
noncomputable def LPf (c o st B p : Nat) (h : pm_H) : Prop := ∀ m, st * m < p → ∃ x : Int64, ld h c (o + st * m) = some (.long x) ∧ 0 ≤ x.toInt ∧ x.toInt ≤ (B : Int)
noncomputable def LDf (c o st e B lc lk : Nat) (h : pm_H) : Prop := ∀ (n : Int32) (m : Nat), ld h lc lk = some (.int n) → ((st * m + e : Nat) : Int) < n.toInt → ∃ x : Int64, ld h c (o + st * m) = some (.long x) ∧ 0 ≤ x.toInt ∧ x.toInt ≤ (B : Int)
noncomputable def fl2 (i : Nat) (h : pm_H) : Prop := match lfam[i / 62]? with
  | some (c, o, st, e, B, lc, lk) => (bif Nat.beq (i % 62) 61 then LDf c o st e B lc lk h else LPf c o st B (i % 62) h)
  | none => True
noncomputable def sp2 (i : Nat) : List Rng := match lfam[i / 62]? with
  | some (c, o, _, _, _, lc, lk) => bif Nat.beq (i % 62) 61 then [(c, 0, 4294967295), (lc, lk, lk)] else (bif Nat.beq (i % 62) 0 then [] else [(c, o, o + (i % 62) - 1)])
  | none => []
theorem lfam_o : ∀ f ∈ lfam, f.2.1 ≤ 240 := by decide +kernel
theorem fl2_fr (i : Nat) (h h' : pm_H) (hf : ∀ a k, rg_in (sp2 i) a k = true → ld h' a k = ld h a k) (hi : fl2 i h) : fl2 i h' := by
  unfold fl2 sp2 at *
  split
  · rename_i c o st e B lc lk eq
    have ho := lfam_o _ (List.mem_of_getElem? eq)
    dsimp only at ho
    rw [eq] at hf hi
    dsimp only at hf hi
    cases hb : Nat.beq (i % 62) 61 with
    | true =>
      rw [hb] at hf hi
      dsimp only [cond_true] at hf hi ⊢
      intro n m h1 h2
      rw [hf lc lk (rg_in_one (Nat.le_refl _) (Nat.le_refl _) (List.mem_cons_of_mem _ (List.mem_singleton_self _)))] at h1
      obtain ⟨x, e1, e2⟩ := hi n m h1 h2
      have hn := ai_hi n
      exact ⟨x, by rw [hf c _ (rg_in_one (Nat.zero_le _) (by omega) List.mem_cons_self)]; exact e1, e2⟩
    | false =>
      rw [hb] at hf hi
      dsimp only [cond_false] at hf hi ⊢
      intro m hm
      obtain ⟨x, e1, e2⟩ := hi m hm
      have h0 : Nat.beq (i % 62) 0 = false := by
        cases h0 : Nat.beq (i % 62) 0 with
        | false => rfl
        | true => have := Nat.eq_of_beq_eq_true h0; omega
      rw [h0] at hf
      dsimp only [cond_false] at hf
      exact ⟨x, by rw [hf c _ (rg_in_one (by omega) (by omega) (List.mem_singleton_self _))]; exact e1, e2⟩
  · trivial
noncomputable def fl0 (i : Nat) (h : pm_H) : Prop := bif Nat.blt i 210 then fl1 i h else fl2 (i - 210) h
noncomputable def sp0 (i : Nat) : List Rng := bif Nat.blt i 210 then sp1 i else sp2 (i - 210)
theorem fl0_fr (i : Nat) (h h' : pm_H) (a1 : hs_g hs0 h) (a2 : hs_g hs0 h') (hf : ∀ a k, rg_in (sp0 i) a k = true → ld h' a k = ld h a k) (hi : fl0 i h) : fl0 i h' := by
  unfold fl0 sp0 at *
  cases hb : Nat.blt i 210 with
  | true => rw [hb] at hf hi; exact fl1_fr i h h' a1 a2 hf hi
  | false => rw [hb] at hf hi; exact fl2_fr (i - 210) h h' hf hi
noncomputable def w0 : AW := ⟨(hs0, fl0, sp0), fl0_fr⟩
theorem fl0_lo {i : Nat} (h : i < 210) : w0.1.2.1 i = fl1 i := by
  funext q
  show (bif Nat.blt i 210 then fl1 i q else fl2 (i - 210) q) = fl1 i q
  rw [show Nat.blt i 210 = true from Nat.ble_eq_true_of_le h]; rfl
theorem fl0_at {f p c o st e B lc lk : Nat} (hp : p < 62) (eq : lfam[f]? = some (c, o, st, e, B, lc, lk)) (h : pm_H) : w0.1.2.1 (210 + (62 * f + p)) h = (bif Nat.beq p 61 then LDf c o st e B lc lk h else LPf c o st B p h) := by
  show (bif Nat.blt (210 + (62 * f + p)) 210 then fl1 (210 + (62 * f + p)) h else fl2 (210 + (62 * f + p) - 210) h) = _
  have hb : Nat.blt (210 + (62 * f + p)) 210 = false := by
    cases hb : Nat.blt (210 + (62 * f + p)) 210 with
    | false => rfl
    | true => have := Nat.le_of_ble_eq_true hb; omega
  rw [hb, cond_false, show 210 + (62 * f + p) - 210 = 62 * f + p by omega]
  unfold fl2
  rw [show (62 * f + p) / 62 = f by omega, show (62 * f + p) % 62 = p by omega, eq]
theorem fl1_at {f j T a G b st : Nat} {h : pm_H} (hj : j < 21) (e : fam[f]? = some (T, a, G, b, st)) : fl1 (21 * f + j) h = FA T a G b st j h := by
  unfold fl1
  rw [show (21 * f + j) / 21 = f by omega, show (21 * f + j) % 21 = j by omega, e]
theorem fam_lt {f : Nat} {q : Nat × Nat × Nat × Nat × Nat} (e : fam[f]? = some q) : f < 10 := (List.getElem?_eq_some_iff.mp e).1
theorem fl0_f {f j T a G b st : Nat} {h : pm_H} (hj : j < 21) (e : fam[f]? = some (T, a, G, b, st)) : w0.1.2.1 (21 * f + j) h = FA T a G b st j h := by
  have hf := fam_lt e
  rw [fl0_lo (by omega)]
  exact fl1_at hj e
noncomputable def h_weak (f : Nat) (A : AS) : List AS := [bif (fam[f]?).isSome && A.2.2.2.2.2.2.1.contains (21 * f + 20) then set_fl A ((List.range 20).map (fun j => 21 * f + j) ++ A.2.2.2.2.2.2.1) else A]
theorem h_weak_ok (f : Nat) (E : AEnv) (A : AS) (σ : pm_S) (g : as_g w0 E A σ) : ∃ B ∈ h_weak f A, as_g w0 E B σ := by
  refine ⟨_, List.mem_singleton_self _, ?_⟩
  cases hc : ((fam[f]?).isSome && A.2.2.2.2.2.2.1.contains (21 * f + 20)) with
  | false => exact g
  | true =>
    rw [Bool.and_eq_true] at hc
    obtain ⟨⟨T, a, G, b, st⟩, e⟩ := Option.isSome_iff_exists.mp hc.1
    obtain ⟨ρ, g⟩ := g
    have hm : 21 * f + 20 ∈ A.2.2.2.2.2.2.1 := by have := hc.2; simpa using this
    have h20 := g.2.2.2.2.2.2.2.1 _ hm
    rw [fl0_f (by omega) e] at h20
    refine ⟨ρ, set_fl_ok g (fun i hi => ?_)⟩
    cases List.mem_append.mp hi with
    | inr hi => exact g.2.2.2.2.2.2.2.1 i hi
    | inl hi =>
      obtain ⟨j, hj, rfl⟩ := List.mem_map.mp hi
      have hj : j < 20 := List.mem_range.mp hj
      rw [fl0_f (by omega) e]
      exact fun i h1 _ => h20 i h1 (by omega)
noncomputable def use1 (T a G b st i : Nat) (A : AS) : Option AS := match mem_get A.2.2.2.2.1 T (a + st * i), mem_get A.2.2.2.2.1 G (b + st * i) with
  | some (.inl (k, o)), some (.inl (k', o')) => match iv_rng A.2.2.2.1 k o with
    | some (l, u) => bif decide (0 < l) || decide (u < 0) then (match iv_nar A.2.2.2.1 k' o' (-2147483648) 7 with
      | some iv' => some (set_iv A iv')
      | none => none) else some A
    | none => some A
  | _, _ => some A
theorem use1_ok {T a G b st i : Nat} {E : AEnv} {ρ : Nat → Int} {A : AS} {σ : pm_S} (hi : i < 20) (hF : FA T a G b st 20 σ.2.2.2.1) (g : as_r w0 E ρ A σ) : ∃ B, use1 T a G b st i A = some B ∧ as_r w0 E ρ B σ := by
  unfold use1
  split
  · rename_i k o k' o' e1 e2
    split
    · rename_i l u r
      cases hb : (decide (0 < l) || decide (u < 0)) with
      | false => exact ⟨A, rfl, g⟩
      | true =>
        simp only [Bool.or_eq_true, decide_eq_true_eq] at hb
        obtain ⟨v1, p1, q1⟩ := g.2.2.2.2.2.1 _ _ (mem_get_in e1)
        obtain ⟨v2, p2, q2⟩ := g.2.2.2.2.2.1 _ _ (mem_get_in e2)
        obtain ⟨t, rfl, q1⟩ := av_int q1
        obtain ⟨y, rfl, q2⟩ := av_int q2
        have b1 := iv_rng_ok g.1 q1 r
        have h7 := hF i hi (by omega) t y p1 p2 (by omega)
        obtain ⟨iv', e3, e4, e5⟩ := iv_nar_ok (lo := -2147483648) (hi := 7) g.1 q2 (ai_lo y) h7
        rw [cond_true, e3]
        exact ⟨_, rfl, as_iv g e4 e5⟩
    · exact ⟨A, rfl, g⟩
  · exact ⟨A, rfl, g⟩
noncomputable def useall (T a G b st : Nat) : Nat → AS → Option AS
  | 0, A => some A
  | i + 1, A => match use1 T a G b st i A with
    | some B => useall T a G b st i B
    | none => none
theorem useall_ok {T a G b st : Nat} {E : AEnv} {ρ : Nat → Int} {σ : pm_S} (hF : FA T a G b st 20 σ.2.2.2.1) : ∀ (i : Nat) (A : AS), i ≤ 20 → as_r w0 E ρ A σ → ∃ B, useall T a G b st i A = some B ∧ as_r w0 E ρ B σ
  | 0, A, _, g => ⟨A, rfl, g⟩
  | i + 1, A, hi, g => by
    obtain ⟨B, e, gB⟩ := use1_ok (i := i) (by omega) hF g
    obtain ⟨C, e2, gC⟩ := useall_ok hF i B (by omega) gB
    exact ⟨C, by unfold useall; rw [e]; exact e2, gC⟩
noncomputable def h_use (f : Nat) (A : AS) : List AS := bif A.2.2.2.2.2.2.1.contains (21 * f + 20) then (match fam[f]? with
  | some (T, a, G, b, st) => (useall T a G b st 20 A).toList
  | none => [A]) else [A]
theorem h_use_ok (f : Nat) (E : AEnv) (A : AS) (σ : pm_S) (g : as_g w0 E A σ) : ∃ B ∈ h_use f A, as_g w0 E B σ := by
  unfold h_use
  cases hc : A.2.2.2.2.2.2.1.contains (21 * f + 20) with
  | false => exact ⟨A, List.mem_singleton_self _, g⟩
  | true =>
    rw [cond_true]
    split
    · rename_i T a G b st e
      obtain ⟨ρ, g⟩ := g
      have hm : 21 * f + 20 ∈ A.2.2.2.2.2.2.1 := by simpa using hc
      have h20 := g.2.2.2.2.2.2.2.1 _ hm
      rw [fl0_f (by omega) e] at h20
      obtain ⟨B, e1, gB⟩ := useall_ok h20 20 A (Nat.le_refl _) g
      rw [e1]
      exact ⟨B, List.mem_singleton_self _, ρ, gB⟩
    · exact ⟨A, List.mem_singleton_self _, g⟩
noncomputable def int_c (T a G b st j : Nat) (A : AS) : Bool := (match mem_get A.2.2.2.2.1 T (a + st * j) with
  | some (.inl (k, o)) => (match iv_rng A.2.2.2.1 k o with | some (l, u) => decide (l = 0) && decide (u = 0) | none => false)
  | _ => false) || (match mem_get A.2.2.2.2.1 G (b + st * j) with
  | some (.inl (k, o)) => (match iv_rng A.2.2.2.1 k o with | some (_, u) => decide (u ≤ 7) | none => false)
  | _ => false)
theorem int_c_ok {T a G b st j : Nat} {E : AEnv} {ρ : Nat → Int} {A : AS} {σ : pm_S} (g : as_r w0 E ρ A σ) (hF : FA T a G b st j σ.2.2.2.1) (h : int_c T a G b st j A = true) : FA T a G b st 20 σ.2.2.2.1 := by
  intro i hi _ t y h1 h2 h3
  by_cases hj : i = j
  · subst hj
    unfold int_c at h
    rw [Bool.or_eq_true] at h
    cases h with
    | inl h =>
      split at h
      · rename_i k o e
        split at h
        · rename_i l u r
          simp only [Bool.and_eq_true, decide_eq_true_eq] at h
          obtain ⟨v, p, q⟩ := g.2.2.2.2.2.1 _ _ (mem_get_in e)
          dsimp only at p
          rw [h1] at p
          cases p
          have := iv_rng_ok g.1 q r
          omega
        · cases h
      · cases h
    | inr h =>
      split at h
      · rename_i k o e
        split at h
        · rename_i l u r
          have h := of_decide_eq_true h
          obtain ⟨v, p, q⟩ := g.2.2.2.2.2.1 _ _ (mem_get_in e)
          dsimp only at p
          rw [h2] at p
          cases p
          have := iv_rng_ok g.1 q r
          omega
        · cases h
      · cases h
  · exact hF i hi hj t y h1 h2 h3
noncomputable def h_intro (f : Nat) (A : AS) : List AS := bif A.2.2.2.2.2.2.1.contains (21 * f + 20) then [A] else (match fam[f]? with
  | some (T, a, G, b, st) => [bif (List.range 20).any (fun j => A.2.2.2.2.2.2.1.contains (21 * f + j) && int_c T a G b st j A) then set_fl A ((21 * f + 20) :: A.2.2.2.2.2.2.1) else A]
  | none => [A])
theorem h_intro_ok (f : Nat) (E : AEnv) (A : AS) (σ : pm_S) (g : as_g w0 E A σ) : ∃ B ∈ h_intro f A, as_g w0 E B σ := by
  unfold h_intro
  cases hc : A.2.2.2.2.2.2.1.contains (21 * f + 20) with
  | true => exact ⟨A, List.mem_singleton_self _, g⟩
  | false =>
    rw [cond_false]
    split
    · rename_i T a G b st e
      refine ⟨_, List.mem_singleton_self _, ?_⟩
      cases hb : (List.range 20).any (fun j => A.2.2.2.2.2.2.1.contains (21 * f + j) && int_c T a G b st j A) with
      | false => exact g
      | true =>
        obtain ⟨ρ, g⟩ := g
        obtain ⟨j, hj, hp⟩ := List.any_eq_true.mp hb
        have hj : j < 20 := List.mem_range.mp hj
        rw [Bool.and_eq_true] at hp
        have hm : 21 * f + j ∈ A.2.2.2.2.2.2.1 := by have := hp.1; simpa using this
        have hF := g.2.2.2.2.2.2.2.1 _ hm
        rw [fl0_f (by omega) e] at hF
        have h20 := int_c_ok g hF hp.2
        refine ⟨ρ, set_fl_ok g (fun i hi => ?_)⟩
        cases List.mem_cons.mp hi with
        | inl e' =>
          subst e'
          rw [fl0_f (by omega) e]
          exact h20
        | inr hi => exact g.2.2.2.2.2.2.2.1 i hi
    · exact ⟨A, List.mem_singleton_self _, g⟩
/-- a truth value is told apart -/
noncomputable def h_spl2 (_ : Nat) (A : AS) : List AS := match A.2.2.1 with
  | .inl (k, o) :: _ => match iv_rng A.2.2.2.1 k o with
    | some (l, u) => bif decide (l = 0) && decide (u = 1) then (match as_split A with | some As => As | none => [A]) else [A]
    | none => [A]
  | _ => [A]
theorem h_spl2_ok (f : Nat) (E : AEnv) (A : AS) (σ : pm_S) (g : as_g w0 E A σ) : ∃ B ∈ h_spl2 f A, as_g w0 E B σ := by
  have self : ∃ B ∈ [A], as_g w0 E B σ := ⟨A, List.mem_singleton_self _, g⟩
  unfold h_spl2
  split
  · split
    · rename_i l u r
      cases hb : (decide (l = 0) && decide (u = 1)) with
      | false => exact self
      | true =>
        rw [cond_true]
        split
        · rename_i As e
          exact as_split_ok g e
        · exact self
    · exact self
  · exact self
/-- a long that is read out of a known place is known from now on -/
noncomputable def a_lalm (w : AW) (n : Nat) : AS → Option (List AS) := fun A => match A.2.2.1 with
  | .inl (k, o) :: .inr (.inr (.inl a)) :: st => match w.1.1[a]?, iv_rng A.2.2.2.1 k o with
    | some (.inr (.inl len)), some (l, u) => bif (decide (0 ≤ l) && decide (u < (len : Int))) && decide (l = u) then (match mem_get A.2.2.2.2.1 a l.toNat with
        | some (.inr (.inl q)) => some [(n, A.2.1, .inr (.inl q) :: st, A.2.2.2)]
        | some _ => none
        | none => some [(n, A.2.1, .inr (.inl (some A.2.2.2.1.length, 0)) :: st, A.2.2.2.1 ++ [(-9223372036854775808, 9223372036854775807)], ex_note A.2.2.2.2 a l.toNat (.inr (.inl (some A.2.2.2.1.length, 0))))]) else none
    | _, _ => none
  | _ => none
theorem a_lalm_ok {w : AW} (n : Nat) : ai_ok w (s_lald n) (a_lalm w n) := by
  rintro E ⟨pc, lv, st, iv, ex⟩ ⟨pc', cl, cs, W⟩ As ⟨ρ, g1, g2, g3, g4, g5⟩ h
  simp only [a_lalm] at h
  split at h
  · rename_i k o a st'
    split at h
    · rename_i len l u hc hr
      cases hb : ((decide (0 ≤ l) && decide (u < (len : Int))) && decide (l = u)) with
      | false => rw [hb] at h; cases h
      | true =>
        rw [hb, cond_true] at h
        simp only [Bool.and_eq_true, decide_eq_true_eq] at hb
        obtain ⟨v, cs, rfl, ha, hr0⟩ := f2_cons g4
        obtain ⟨u', cs, rfl, hc1, hs2⟩ := f2_cons hr0
        obtain ⟨i, rfl, ha⟩ := av_int ha
        obtain rfl := av_ref hc1
        obtain ⟨x, hx, hg⟩ := hs_at g5.1 hc
        dsimp only at hx
        match x, hx, hg with
        | .inl (t2, len2, .inr (.inl g)), hx, hg =>
          obtain ⟨rfl, rfl⟩ := hg
          have b1 := iv_rng_ok g1 ha hr
          have hi := ai_ix (i := i) (len := len2) (by omega) (by omega)
          have hl : i.toNatClampNeg = l.toNat := by show i.toInt.toNat = l.toNat; omega
          have hstep : s_lald n (pc', cl, .int i :: .ref a :: cs, W) = some (n, cl, .long (g i.toNatClampNeg) :: cs, W) := by simp only [s_lald]; rw [hx]; simp only; rw [hi]; rfl
          have hld : ld W.1 a l.toNat = some (.long (g i.toNatClampNeg)) := by unfold ld; rw [hx, hl]
          have gg : as_r w E ρ (pc, lv, st', iv, ex) (pc', cl, cs, W) := ⟨g1, g2, g3, hs2, g5⟩
          split at h
          · rename_i q hm
            cases h
            obtain ⟨v, e1, e2⟩ := g5.2.1 _ _ (mem_get_in hm)
            dsimp only at e1
            rw [hld] at e1
            cases e1
            exact ⟨_, hstep, _, List.mem_singleton_self _, ρ, g1, rfl, g3, ⟨e2, hs2⟩, g5⟩
          · cases h
          · cases h
            obtain ⟨⟨p1, p2, p3, p4, p5⟩, e⟩ := as_grow (v := (g i.toNatClampNeg).toInt) (lo := -9223372036854775808) (hi := 9223372036854775807) gg (al_lo _) (al_hi _)
            exact ⟨_, hstep, _, List.mem_singleton_self _, _, p1, rfl, p3, ⟨e, p4⟩, ex_note_ok p5 hld e⟩
    · cases h
  · cases h
noncomputable def R_lalm {w : AW} (n : Nat) : ARow w := ⟨(s_lald n, a_lalm w n), a_lalm_ok n⟩
noncomputable def add_fl (A : AS) (f : Nat) : AS := set_fl A (f :: A.2.2.2.2.2.2.1)
theorem add_fl_ok {w : AW} {E : AEnv} {ρ : Nat → Int} {A : AS} {σ : pm_S} {f : Nat} (g : as_r w E ρ A σ) (h : w.1.2.1 f σ.2.2.2.1) : as_r w E ρ (add_fl A f) σ :=
  set_fl_ok g (fun i hi => by
    cases List.mem_cons.mp hi with
    | inl e => subst e; exact h
    | inr hi => exact g.2.2.2.2.2.2.2.1 i hi)
theorem fl_of {w : AW} {E : AEnv} {ρ : Nat → Int} {A : AS} {σ : pm_S} {f : Nat} (g : as_r w E ρ A σ) (h : A.2.2.2.2.2.2.1.contains f = true) : w.1.2.1 f σ.2.2.2.1 := g.2.2.2.2.2.2.2.1 f (by simpa using h)
/-- the first none are fine -/
noncomputable def l_nil (f : Nat) (A : AS) : List AS := [bif (lfam[f]?).isSome then add_fl A (210 + (62 * f + 0)) else A]
theorem l_nil_ok (f : Nat) (E : AEnv) (A : AS) (σ : pm_S) (g : as_g w0 E A σ) : ∃ B ∈ l_nil f A, as_g w0 E B σ := by
  refine ⟨_, List.mem_singleton_self _, ?_⟩
  cases hs : (lfam[f]?).isSome with
  | false => exact g
  | true =>
    obtain ⟨ρ, g⟩ := g
    obtain ⟨⟨c, o, st, e, B, lc, lk⟩, eq⟩ := Option.isSome_iff_exists.mp hs
    refine ⟨ρ, add_fl_ok g ?_⟩
    rw [fl0_at (by omega) eq]
    exact fun m hm => absurd hm (Nat.not_lt_zero _)
/-- one more -/
noncomputable def l_c (c o B p : Nat) (A : AS) : Bool := match mem_get A.2.2.2.2.1 c (o + p) with
  | some (.inr (.inl (k, q))) => (match iv_rng A.2.2.2.1 k q with | some (l, u) => decide (0 ≤ l) && decide (u ≤ (B : Int)) | none => false)
  | _ => false
noncomputable def l_try (f : Nat) (A : AS) : Nat → AS
  | 0 => A
  | p + 1 => match lfam[f]? with
    | some (c, o, st, e, B, lc, lk) => bif (A.2.2.2.2.2.2.1.contains (210 + (62 * f + p)) && Nat.ble (p + st) 60) && (Nat.beq (p % st) 0 && (Nat.blt 0 st && l_c c o B p A)) then add_fl A (210 + (62 * f + (p + st))) else l_try f A p
    | none => A
noncomputable def l_step (f : Nat) (A : AS) : List AS := [l_try f A 61]
theorem l_try_ok {f : Nat} {E : AEnv} {ρ : Nat → Int} {A : AS} {σ : pm_S} (g : as_r w0 E ρ A σ) : ∀ p : Nat, p ≤ 61 → as_r w0 E ρ (l_try f A p) σ
  | 0, _ => g
  | p + 1, hp => by
    unfold l_try
    split
    · rename_i c o st e B lc lk eq
      cases hb : ((A.2.2.2.2.2.2.1.contains (210 + (62 * f + p)) && Nat.ble (p + st) 60) && (Nat.beq (p % st) 0 && (Nat.blt 0 st && l_c c o B p A))) with
      | false => exact l_try_ok g p (by omega)
      | true =>
        rw [Bool.and_eq_true, Bool.and_eq_true, Bool.and_eq_true, Bool.and_eq_true] at hb
        obtain ⟨⟨b1, b2⟩, b3, b4, b5⟩ := hb
        have h60 := Nat.le_of_ble_eq_true b2
        have h0 := Nat.eq_of_beq_eq_true b3
        have hst : 0 < st := Nat.le_of_ble_eq_true b4
        have hF := fl_of g b1
        rw [fl0_at (by omega) eq, show Nat.beq p 61 = false from by cases hq : Nat.beq p 61 with | false => rfl | true => have := Nat.eq_of_beq_eq_true hq; omega] at hF
        have hF : LPf c o st B p σ.2.2.2.1 := hF
        refine add_fl_ok g ?_
        rw [fl0_at (by omega) eq, show Nat.beq (p + st) 61 = false from by cases hq : Nat.beq (p + st) 61 with | false => rfl | true => have := Nat.eq_of_beq_eq_true hq; omega]
        show LPf c o st B (p + st) σ.2.2.2.1
        intro m hm
        by_cases hlt : st * m < p
        · exact hF m hlt
        · have hpe : st * m = p := by
            have hd : st ∣ p := Nat.dvd_of_mod_eq_zero h0
            obtain ⟨d, rfl⟩ := hd
            have h1 : st * m < st * (d + 1) := by rw [Nat.mul_add, Nat.mul_one]; exact hm
            have h2 := Nat.lt_of_mul_lt_mul_left h1
            have h3 : ¬ m < d := fun h => hlt ((Nat.mul_lt_mul_left hst).mpr h)
            rw [show m = d by omega]
          rw [hpe]
          unfold l_c at b5
          split at b5
          · rename_i k q hm'
            split at b5
            · rename_i l u r
              simp only [Bool.and_eq_true, decide_eq_true_eq] at b5
              obtain ⟨v, p1, p2⟩ := g.2.2.2.2.2.1 _ _ (mem_get_in hm')
              obtain ⟨x, rfl, p2⟩ := av_long p2
              have := iv_rng_ok g.1 p2 r
              exact ⟨x, p1, by omega, by omega⟩
            · cases b5
          · cases b5
    · exact g
theorem l_step_ok (f : Nat) (E : AEnv) (A : AS) (σ : pm_S) (g : as_g w0 E A σ) : ∃ B ∈ l_step f A, as_g w0 E B σ := by
  obtain ⟨ρ, g⟩ := g
  exact ⟨_, List.mem_singleton_self _, ρ, l_try_ok g 61 (Nat.le_refl _)⟩
/-- all that count -/
noncomputable def l_dt (f : Nat) (A : AS) : Nat → AS
  | 0 => A
  | p + 1 => match lfam[f]? with
    | some (c, o, st, e, B, lc, lk) => bif A.2.2.2.2.2.2.1.contains (210 + (62 * f + p)) && (match mem_get A.2.2.2.2.1 lc lk with
        | some (.inl (k, q)) => (match iv_rng A.2.2.2.1 k q with | some (_, u) => decide (u ≤ ((p + e : Nat) : Int)) | none => false)
        | _ => false) then add_fl A (210 + (62 * f + 61)) else l_dt f A p
    | none => A
noncomputable def l_dint (f : Nat) (A : AS) : List AS := [l_dt f A 61]
theorem l_dt_ok {f : Nat} {E : AEnv} {ρ : Nat → Int} {A : AS} {σ : pm_S} (g : as_r w0 E ρ A σ) : ∀ p : Nat, p ≤ 61 → as_r w0 E ρ (l_dt f A p) σ
  | 0, _ => g
  | p + 1, hp => by
    unfold l_dt
    split
    · rename_i c o st e B lc lk eq
      split
      · rename_i k q hm'
        split
        · rename_i l u r
          cases hb : (A.2.2.2.2.2.2.1.contains (210 + (62 * f + p)) && decide (u ≤ ((p + e : Nat) : Int))) with
          | false => exact l_dt_ok g p (by omega)
          | true =>
            rw [Bool.and_eq_true] at hb
            have hu := of_decide_eq_true hb.2
            have hF := fl_of g hb.1
            rw [fl0_at (by omega) eq, show Nat.beq p 61 = false from by cases hq : Nat.beq p 61 with | false => rfl | true => have := Nat.eq_of_beq_eq_true hq; omega] at hF
            have hF : LPf c o st B p σ.2.2.2.1 := hF
            refine add_fl_ok g ?_
            rw [fl0_at (by omega) eq]
            intro n m h1 h2
            obtain ⟨v, p1, p2⟩ := g.2.2.2.2.2.1 _ _ (mem_get_in hm')
            dsimp only at p1
            rw [h1] at p1
            cases p1
            have := iv_rng_ok g.1 p2 r
            exact hF m (by omega)
        · rw [Bool.and_false, cond_false]
          exact l_dt_ok g p (by omega)
      · rw [Bool.and_false, cond_false]
        exact l_dt_ok g p (by omega)
    · exact g
theorem l_dint_ok (f : Nat) (E : AEnv) (A : AS) (σ : pm_S) (g : as_g w0 E A σ) : ∃ B ∈ l_dint f A, as_g w0 E B σ := by
  obtain ⟨ρ, g⟩ := g
  exact ⟨_, List.mem_singleton_self _, ρ, l_dt_ok g 61 (Nat.le_refl _)⟩
/-- used: what is known at places is narrowed -/
noncomputable def l_u1 (c o st e B lc lk m : Nat) (A : AS) : Option AS := match mem_get A.2.2.2.2.1 c (o + st * m), mem_get A.2.2.2.2.1 lc lk with
  | some (.inr (.inl (k, q))), some (.inl (k', q')) => match iv_rng A.2.2.2.1 k' q' with
    | some (l, _) => bif decide (((st * m + e : Nat) : Int) < l) then (match iv_nar A.2.2.2.1 k q 0 (B : Int) with
      | some iv' => some (set_iv A iv')
      | none => none) else some A
    | none => some A
  | _, _ => some A
theorem l_u1_ok {c o st e B lc lk m : Nat} {E : AEnv} {ρ : Nat → Int} {A : AS} {σ : pm_S} (hF : LDf c o st e B lc lk σ.2.2.2.1) (g : as_r w0 E ρ A σ) : ∃ C, l_u1 c o st e B lc lk m A = some C ∧ as_r w0 E ρ C σ := by
  unfold l_u1
  split
  · rename_i k q k' q' e1 e2
    split
    · rename_i l u r
      cases hb : decide (((st * m + e : Nat) : Int) < l) with
      | false => exact ⟨A, rfl, g⟩
      | true =>
        have hb := of_decide_eq_true hb
        obtain ⟨v1, p1, q1⟩ := g.2.2.2.2.2.1 _ _ (mem_get_in e1)
        obtain ⟨v2, p2, q2⟩ := g.2.2.2.2.2.1 _ _ (mem_get_in e2)
        obtain ⟨t, rfl, q1⟩ := av_long q1
        obtain ⟨y, rfl, q2⟩ := av_int q2
        have b1 := iv_rng_ok g.1 q2 r
        obtain ⟨x, x1, x2, x3⟩ := hF y m p2 (by omega)
        dsimp only at p1
        rw [x1] at p1
        cases p1
        obtain ⟨iv', e3, e4, e5⟩ := iv_nar_ok (lo := 0) (hi := (B : Int)) g.1 q1 x2 x3
        rw [cond_true, e3]
        exact ⟨_, rfl, as_iv g e4 e5⟩
    · exact ⟨A, rfl, g⟩
  · exact ⟨A, rfl, g⟩
noncomputable def l_ua (c o st e B lc lk : Nat) : Nat → AS → Option AS
  | 0, A => some A
  | m + 1, A => match l_u1 c o st e B lc lk m A with
    | some C => l_ua c o st e B lc lk m C
    | none => none
theorem l_ua_ok {c o st e B lc lk : Nat} {E : AEnv} {ρ : Nat → Int} {σ : pm_S} (hF : LDf c o st e B lc lk σ.2.2.2.1) : ∀ (m : Nat) (A : AS), as_r w0 E ρ A σ → ∃ C, l_ua c o st e B lc lk m A = some C ∧ as_r w0 E ρ C σ
  | 0, A, g => ⟨A, rfl, g⟩
  | m + 1, A, g => by
    obtain ⟨C, e1, gC⟩ := l_u1_ok (m := m) hF g
    obtain ⟨D, e2, gD⟩ := l_ua_ok hF m C gC
    exact ⟨D, by unfold l_ua; rw [e1]; exact e2, gD⟩
noncomputable def l_use (f : Nat) (A : AS) : List AS := bif A.2.2.2.2.2.2.1.contains (210 + (62 * f + 61)) then (match lfam[f]? with
  | some (c, o, st, e, B, lc, lk) => (l_ua c o st e B lc lk 60 A).toList
  | none => [A]) else [A]
theorem l_use_ok (f : Nat) (E : AEnv) (A : AS) (σ : pm_S) (g : as_g w0 E A σ) : ∃ B ∈ l_use f A, as_g w0 E B σ := by
  unfold l_use
  cases hc : A.2.2.2.2.2.2.1.contains (210 + (62 * f + 61)) with
  | false => exact ⟨A, List.mem_singleton_self _, g⟩
  | true =>
    rw [cond_true]
    split
    · rename_i c o st e B lc lk eq
      obtain ⟨ρ, g⟩ := g
      have hF := fl_of g hc
      rw [fl0_at (by omega) eq] at hF
      obtain ⟨C, e1, gC⟩ := l_ua_ok hF 60 A g
      rw [e1]
      exact ⟨C, List.mem_singleton_self _, ρ, gC⟩
    · exact ⟨A, List.mem_singleton_self _, g⟩
/-- System.arraycopy of two rows of longs -/
noncomputable def a_copy (w : AW) (n : Nat) : AS → Option (List AS) := fun A => match A.2.2.1 with
  | .inl (km, om) :: .inl (kd, od) :: .inr (.inr (.inl a1)) :: .inl (ks, os) :: .inr (.inr (.inl a0)) :: st => match w.1.1[a0]?, w.1.1[a1]?, iv_rng A.2.2.2.1 km om, iv_rng A.2.2.2.1 kd od, iv_rng A.2.2.2.1 ks os with
    | some (.inr (.inl n0)), some (.inr (.inl n1)), some (ml, mu), some (dl, du), some (sl, su) => bif (decide (0 ≤ ml) && (decide (0 ≤ dl) && decide (0 ≤ sl))) && ((decide (su + mu ≤ (n0 : Int)) && decide (du + mu ≤ (n1 : Int))) && (Nat.ble (av_sz st) 8 && rg_sub A.2.2.2.2.2.2.2.1 a1 0 4294967295)) then some [(n, A.2.1, st, A.2.2.2.1, ex_kill w A.2.2.2.2 a1 0 4294967295)] else none
    | _, _, _, _, _ => none
  | _ => none
theorem ex_storer {w : AW} {E : AEnv} {n : Nat} {ρ : Nat → Int} {ex : AX} {cl : List (Nat × Value)} {h h' : pm_H} {a l u : Nat} (g : ex_g w E n ρ ex cl h) (hs : hs_g w.1.1 h') (hM : rg_sub ex.2.2.2.1 a l u = true) (hld : ∀ b k, (b = a → ¬ (l ≤ k ∧ k ≤ u)) → ld h' b k = ld h b k) : ex_g w E n ρ (ex_kill w ex a l u) cl h' := by
  obtain ⟨g1, g2, g3, g4, g5, g6⟩ := g
  refine ⟨hs, fun q b hm => ?_, g3, fun j hj => ?_, fun b k hk => ?_, g6⟩
  · obtain ⟨hm1, hm2⟩ := List.mem_filter.mp hm
    obtain ⟨v, e1, e2⟩ := g2 q b hm1
    refine ⟨v, ?_, e2⟩
    rw [hld _ _ (fun hq hk => ?_)]
    · exact e1
    · simp only [hq, Nat.beq_refl, Nat.ble_eq_true_of_le hk.1, Nat.ble_eq_true_of_le hk.2, Bool.and_self, Bool.not_true] at hm2
      cases hm2
  · obtain ⟨hm1, hm2⟩ := List.mem_filter.mp hj
    refine w.2 j h h' g1 hs (fun b k hbk => hld b k (fun hq hk => ?_)) (g4 j hm1)
    subst hq
    rw [rg_dis_in hm2 hk.1 hk.2] at hbk
    cases hbk
  · rw [hld b k (fun hq hk' => ?_)]
    · exact g5 b k hk
    · subst hq
      have hk : rg_in ex.2.2.2.1 b k = false := hk
      rw [rg_sub_in hM hk'.1 hk'.2] at hk
      cases hk
theorem a_copy_ok {w : AW} (n : Nat) : ai_ok w (s_copy n) (a_copy w n) := by
  rintro E ⟨pc, lv, st, iv, ex⟩ ⟨pc', cl, cs, W⟩ As ⟨ρ, g1, g2, g3, g4, g5⟩ h
  simp only [a_copy] at h
  split at h
  · rename_i km om kd od a1 ks os a0 st'
    split at h
    · rename_i n0 n1 ml mu dl du sl su h0 h1 rm rd rs
      cases hb : ((decide (0 ≤ ml) && (decide (0 ≤ dl) && decide (0 ≤ sl))) && ((decide (su + mu ≤ (n0 : Int)) && decide (du + mu ≤ (n1 : Int))) && (Nat.ble (av_sz st') 8 && rg_sub ex.2.2.2.1 a1 0 4294967295))) with
      | false => rw [hb] at h; cases h
      | true =>
        rw [hb] at h
        cases h
        rw [Bool.and_eq_true, Bool.and_eq_true, Bool.and_eq_true, Bool.and_eq_true, Bool.and_eq_true, Bool.and_eq_true] at hb
        obtain ⟨⟨c1, c2, c3⟩, ⟨c4, c5⟩, c6, c7⟩ := hb
        have c1 := of_decide_eq_true c1
        have c2 := of_decide_eq_true c2
        have c3 := of_decide_eq_true c3
        have c4 := of_decide_eq_true c4
        have c5 := of_decide_eq_true c5
        obtain ⟨v1, cs, rfl, q1, r1⟩ := f2_cons g4
        obtain ⟨v2, cs, rfl, q2, r2⟩ := f2_cons r1
        obtain ⟨v3, cs, rfl, q3, r3⟩ := f2_cons r2
        obtain ⟨v4, cs, rfl, q4, r4⟩ := f2_cons r3
        obtain ⟨v5, cs, rfl, q5, r5⟩ := f2_cons r4
        obtain ⟨m, rfl, q1⟩ := av_int q1
        obtain ⟨dp, rfl, q2⟩ := av_int q2
        obtain rfl := av_ref q3
        obtain ⟨sp, rfl, q4⟩ := av_int q4
        obtain rfl := av_ref q5
        obtain ⟨x0, hx0, hg0⟩ := hs_at g5.1 h0
        obtain ⟨x1, hx1, hg1⟩ := hs_at g5.1 h1
        dsimp only at hx0 hx1
        have b1 := iv_rng_ok g1 q1 rm
        have b2 := iv_rng_ok g1 q2 rd
        have b3 := iv_rng_ok g1 q4 rs
        match x0, hx0, hg0, x1, hx1, hg1 with
        | .inl (t0, l0, .inr (.inl f)), hx0, hg0, .inl (t1, l1, .inr (.inl g)), hx1, hg1 =>
          obtain ⟨rfl, rfl⟩ := hg0
          obtain ⟨rfl, rfl⟩ := hg1
          have n1' : ¬ sp < 0 := by rw [Int32.lt_iff_toInt_lt]; show ¬ sp.toInt < 0; omega
          have n2' : ¬ dp < 0 := by rw [Int32.lt_iff_toInt_lt]; show ¬ dp.toInt < 0; omega
          have n3' : ¬ m < 0 := by rw [Int32.lt_iff_toInt_lt]; show ¬ m.toInt < 0; omega
          have e1 : Nat.ble (sp.toNatClampNeg + m.toNatClampNeg) l0 = true := Nat.ble_eq_true_of_le (by show sp.toInt.toNat + m.toInt.toNat ≤ l0; omega)
          have e2 : Nat.ble (dp.toNatClampNeg + m.toNatClampNeg) l1 = true := Nat.ble_eq_true_of_le (by show dp.toInt.toNat + m.toInt.toNat ≤ l1; omega)
          have e3 : Nat.ble (pm_sz cs) 8 = true := by rw [av_sz_eq r5]; exact c6
          have hh : hs_g w.1.1 (W.1.set a1 (.inl (3, l1, .inr (.inl (va_cpy f g sp.toNatClampNeg dp.toNatClampNeg m.toNatClampNeg))))) := hs_set g5.1 h1 ⟨rfl, rfl⟩
          refine ⟨(n, cl, cs, W.1.set a1 (.inl (3, l1, .inr (.inl (va_cpy f g sp.toNatClampNeg dp.toNatClampNeg m.toNatClampNeg)))), W.2), ?_, _, List.mem_singleton_self _, ρ, g1, rfl, g3, r5, ex_storer g5 hh c7 (fun b k hbk => ?_)⟩
          · simp only [s_copy]
            rw [hx0]
            simp only
            rw [hx1]
            simp only [n1', n2', n3', decide_false, Bool.not_false, Bool.and_self, e1, e2, e3, cond_true]
          · by_cases hba : b = a1
            · subst hba
              have hk : 4294967295 < k := by have := hbk rfl; omega
              have hl : b < W.1.length := (List.getElem?_eq_some_iff.mp hx1).1
              have hi1 := ai_hi dp
              have hi2 := ai_hi m
              have hz : va_cpy f g sp.toNatClampNeg dp.toNatClampNeg m.toNatClampNeg k = g k := by
                unfold va_cpy
                rw [if_neg]
                rintro ⟨z1, z2⟩
                have z2 : k < dp.toInt.toNat + m.toInt.toNat := z2
                omega
              unfold ld
              rw [List.getElem?_set_self hl, hx1]
              simp only [hz]
            · exact ld_set_ne hba
    · cases h
  · cases h
noncomputable def R_copy {w : AW} (n : Nat) : ARow w := ⟨(s_copy n, a_copy w n), a_copy_ok n⟩
/-- two longs added: the sum is known as one -/
noncomputable def a_laddc (n : Nat) : AS → Option (List AS) := fun A => match A.2.2.1 with
  | .inr (.inl (some b, o2)) :: .inr (.inl (some a, o1)) :: st => match iv_rng A.2.2.2.1 (some a) o1, iv_rng A.2.2.2.1 (some b) o2 with
    | some (l1, u1), some (l2, u2) => bif al_in (l1 + l2) (u1 + u2) then some [(n, A.2.1, .inr (.inl (some A.2.2.2.1.length, o1 + o2)) :: st, A.2.2.2.1 ++ [(l1 + l2 - o1 - o2, u1 + u2 - o1 - o2)], A.2.2.2.2.1, .inl (A.2.2.2.1.length, a, b) :: A.2.2.2.2.2.1, A.2.2.2.2.2.2)] else none
    | _, _ => none
  | _ => none
theorem a_laddc_ok {w : AW} (n : Nat) : ai_ok w (s_lbin (fun x y => x + y) n) (a_laddc n) := by
  rintro E ⟨pc, lv, st, iv, ex⟩ ⟨pc', cl, cs, W⟩ As ⟨ρ, g1, g2, g3, g4, g5⟩ h
  simp only [a_laddc] at h
  split at h
  · rename_i b o2 a o1 st'
    split at h
    · rename_i l1 u1 l2 u2 r1 r2
      cases hb : al_in (l1 + l2) (u1 + u2) with
      | false => rw [hb] at h; cases h
      | true =>
        rw [hb] at h
        cases h
        have hi := al_in_ok hb
        obtain ⟨v, cs, rfl, ha, hr0⟩ := f2_cons g4
        obtain ⟨u, cs, rfl, hc, hr⟩ := f2_cons hr0
        obtain ⟨y, rfl, ha'⟩ := av_long (k := some b) (o := o2) ha
        obtain ⟨x, rfl, hc'⟩ := av_long (k := some a) (o := o1) hc
        have b1 := iv_rng_ok g1 hc' r1
        have b2 := iv_rng_ok g1 ha' r2
        have hs : (x + y).toInt = x.toInt + y.toInt := al_add (by omega) (by omega)
        have hx2 := hc'.2
        have hy2 := ha'.2
        have gg : as_r w E ρ (pc, lv, st', iv, ex) (pc', cl, cs, W) := ⟨g1, g2, g3, hr, g5⟩
        obtain ⟨⟨p1, p2, p3, p4, p5⟩, e⟩ := as_grow (v := (x + y).toInt - (o1 + o2)) (lo := l1 + l2 - o1 - o2) (hi := u1 + u2 - o1 - o2) gg (by omega) (by omega)
        have e2 := e.2
        have hn : (iv ++ [(l1 + l2 - o1 - o2, u1 + u2 - o1 - o2)]).length = iv.length + 1 := by rw [List.length_append]; rfl
        refine ⟨(n, cl, .long (x + y) :: cs, W), rfl, _, List.mem_singleton_self _, _, p1, rfl, p3, ⟨⟨e.1, by omega⟩, p4⟩, p5.1, p5.2.1, ?_, p5.2.2.2⟩
        intro q hq
        cases List.mem_cons.mp hq with
        | inl e' =>
          subst e'
          show con_g (iv ++ [(l1 + l2 - o1 - o2, u1 + u2 - o1 - o2)]).length _ _
          rw [hn]
          have za : a < iv.length := hc'.1
          have zb : b < iv.length := ha'.1
          refine ⟨Nat.lt_succ_self _, Nat.lt_succ_of_lt za, Nat.lt_succ_of_lt zb, ?_⟩
          rw [iv_ext_old a za, iv_ext_old b zb]
          omega
        | inr hq => exact p5.2.2.1 q hq
    · cases h
  · cases h
noncomputable def R_laddc {w : AW} (n : Nat) : ARow w := ⟨(s_lbin (fun x y => x + y) n, a_laddc n), a_laddc_ok n⟩
/-- a local is told apart, and the relations are used -/
noncomputable def h_loc (i : Nat) (A : AS) : List AS := match as_get A.2.1 i with
  | some (.inl (k, o)) => match iv_rng A.2.2.2.1 k o with
    | some (l, u) => bif decide (0 ≤ l) && decide (u ≤ 300) then a_each k o A.2.2.2.1 (fun _ iv' => match tga A.2.2.2.2.2.1 iv' with | some iv'' => some (set_iv A iv'') | none => none) l.toNat (u - l + 1).toNat else [A]
    | none => [A]
  | _ => [A]
theorem h_loc_ok (i : Nat) (E : AEnv) (A : AS) (σ : pm_S) (g : as_g w0 E A σ) : ∃ B ∈ h_loc i A, as_g w0 E B σ := by
  have self : ∃ B ∈ [A], as_g w0 E B σ := ⟨A, List.mem_singleton_self _, g⟩
  unfold h_loc
  split
  · rename_i k o e
    split
    · rename_i l u r
      cases hb : (decide (0 ≤ l) && decide (u ≤ 300)) with
      | false => exact self
      | true =>
        rw [cond_true]
        simp only [Bool.and_eq_true, decide_eq_true_eq] at hb
        obtain ⟨ρ, g⟩ := g
        obtain ⟨v, e1, e2⟩ := g.2.2.1 i _ (as_get_in e)
        obtain ⟨x, rfl, e2⟩ := av_int e2
        have b1 := iv_rng_ok g.1 e2 r
        obtain ⟨iv', f1, f2', f3⟩ := iv_nar_ok (lo := (x.toInt.toNat : Int)) (hi := (x.toInt.toNat : Int)) g.1 e2 (by omega) (by omega)
        obtain ⟨iv'', t1, t2, t3⟩ := tga_ok A.2.2.2.2.2.1 iv' f3 (fun c hc => by rw [f2']; exact g.2.2.2.2.2.2.1 c hc)
        exact ⟨set_iv A iv'', a_each_in f1 (by simp only [t1]) _ _ (by omega) (by omega), ρ, as_iv g (t2.trans f2') t3⟩
    · exact self
  · exact self
/-- the greatest value is told apart -/
noncomputable def h_top (_ : Nat) (A : AS) : List AS := match A.2.2.1 with
  | .inl (k, o) :: _ => match iv_rng A.2.2.2.1 k o with
    | some (l, u) => (match iv_nar A.2.2.2.1 k o l (u - 1) with | some iv' => [set_iv A iv'] | none => []) ++ (match iv_nar A.2.2.2.1 k o u u with | some iv' => [set_iv A iv'] | none => [])
    | none => [A]
  | _ => [A]
theorem h_top_ok (f : Nat) (E : AEnv) (A : AS) (σ : pm_S) (g : as_g w0 E A σ) : ∃ B ∈ h_top f A, as_g w0 E B σ := by
  have self : ∃ B ∈ [A], as_g w0 E B σ := ⟨A, List.mem_singleton_self _, g⟩
  obtain ⟨pc, lv, st, iv, ex⟩ := A
  obtain ⟨pc', cl, cs, W⟩ := σ
  unfold h_top
  dsimp only
  split
  · rename_i k o st'
    split
    · rename_i l u r
      obtain ⟨ρ, g⟩ := g
      obtain ⟨g1, g2, g3, g4, g5⟩ := id g
      dsimp only at g1 g4
      obtain ⟨v, cs, rfl, ha, hr⟩ := f2_cons g4
      obtain ⟨x, rfl, ha⟩ := av_int ha
      have b1 := iv_rng_ok g1 ha r
      by_cases hu : x.toInt = u
      · obtain ⟨iv', e1, e2, e3⟩ := iv_nar_ok (lo := u) (hi := u) g1 ha (by omega) (by omega)
        refine ⟨_, List.mem_append_right _ (by rw [e1]; exact List.mem_singleton_self _), ρ, as_iv g e2 e3⟩
      · obtain ⟨iv', e1, e2, e3⟩ := iv_nar_ok (lo := l) (hi := u - 1) g1 ha (by omega) (by omega)
        refine ⟨_, List.mem_append_left _ (by rw [e1]; exact List.mem_singleton_self _), ρ, as_iv g e2 e3⟩
    · exact self
  · exact self
/-- places whose ints are told apart -/
noncomputable def ldp : List (Nat × Nat) := [(15, 4), (84, 3), (84, 0)]
noncomputable def ld_b (a k : Nat) : Option (Int × Int) := match w0.1.1[a]? with
  | some (.inr (.inr (.inr (_, fs)))) => (match fs[k]? with | some (.inl q) => some q | _ => none)
  | some (.inl (_, _, p)) => pat_at p k
  | _ => none
theorem ld_b_ok {h : pm_H} {a k : Nat} {lo hi : Int} (H : hs_g w0.1.1 h) (e : ld_b a k = some (lo, hi)) : ∃ x : Int32, ld h a k = some (.int x) ∧ lo ≤ x.toInt ∧ x.toInt ≤ hi := by
  unfold ld_b at e
  split at e
  · rename_i ci fs hc
    split at e
    · rename_i q hf
      cases e
      obtain ⟨x, hx, hg⟩ := hs_at H hc
      match x, hx, hg with
      | .inr (cq, vs), hx, hg =>
        obtain ⟨rfl, hlen, hall⟩ := hg
        have hl : k < fs.length := (List.getElem?_eq_some_iff.mp hf).1
        have hl' : k < vs.length := by omega
        have hv := hall k _ _ hf (List.getElem?_eq_getElem hl')
        have hld : ld h a k = some vs[k] := by unfold ld; rw [hx]; exact List.getElem?_eq_getElem hl'
        cases hq : vs[k] with
        | int y => rw [hq] at hv hld; exact ⟨y, hld, hv⟩
        | _ => rw [hq] at hv; exact hv.elim
    · cases e
  · rename_i t len p hc
    obtain ⟨x, hx, hg⟩ := hs_at H hc
    match x, hx, hg with
    | .inl (t2, len2, .inl g), hx, hg =>
      obtain ⟨rfl, rfl, hall⟩ := hg
      exact ⟨g k, by unfold ld; rw [hx], hall k lo hi e⟩
  · cases e
noncomputable def ld_each (A : AS) (a k : Nat) : Nat → Nat → List AS
  | _, 0 => []
  | l, m + 1 => (A.1, A.2.1, A.2.2.1, A.2.2.2.1, ex_note A.2.2.2.2 a k (.inl (none, (l : Int)))) :: ld_each A a k (l + 1) m
theorem ld_each_in {A : AS} {a k j : Nat} : ∀ (m l : Nat), l ≤ j → j < l + m → (A.1, A.2.1, A.2.2.1, A.2.2.2.1, ex_note A.2.2.2.2 a k (.inl (none, (j : Int)))) ∈ ld_each A a k l m
  | 0, l, h1, h2 => absurd h2 (by omega)
  | m + 1, l, h1, h2 => by
    unfold ld_each
    by_cases hj : l = j
    · subst hj; exact List.mem_cons_self
    · exact List.mem_cons_of_mem _ (ld_each_in m (l + 1) (by omega) (by omega))
noncomputable def h_ld (f : Nat) (A : AS) : List AS := match ldp[f]? with
  | some (a, k) => match mem_get A.2.2.2.2.1 a k, ld_b a k with
    | none, some (lo, hi) => bif decide (0 ≤ lo) then ld_each A a k lo.toNat (hi - lo + 1).toNat else [A]
    | _, _ => [A]
  | none => [A]
theorem h_ld_ok (f : Nat) (E : AEnv) (A : AS) (σ : pm_S) (g : as_g w0 E A σ) : ∃ B ∈ h_ld f A, as_g w0 E B σ := by
  have self : ∃ B ∈ [A], as_g w0 E B σ := ⟨A, List.mem_singleton_self _, g⟩
  unfold h_ld
  split
  · rename_i a k _
    split
    · rename_i lo hi _ eb
      cases hb : decide (0 ≤ lo) with
      | false => exact self
      | true =>
        have hb := of_decide_eq_true hb
        obtain ⟨ρ, g1, g2, g3, g4, g5⟩ := g
        obtain ⟨x, e1, e2, e3⟩ := ld_b_ok g5.1 eb
        refine ⟨_, ld_each_in (j := x.toInt.toNat) _ _ (by omega) (by omega), ρ, g1, g2, g3, g4, ex_note_ok g5 e1 ?_⟩
        show x.toInt = ((x.toInt.toNat : Nat) : Int)
        omega
    · exact self
  · exact self
/-- one cut is checked -/
noncomputable def cut1 {w : AW} (J : Job w) (N pc : Nat) (c : Cut) : Bool := rk_small c.2.2.2.2 && (match cut_as pc J.2.2.2.2.2.2.1 J.2.2.2.2.2.2.2 c with
  | some A => ar_run J (some (A.2.1, A.2.2.2.2.1, c.2.2.2.2)) N A
  | none => false)
theorem cuts_of {w : AW} {J : Job w} {N : Nat} (h : ∀ q ∈ J.2.2.1, ∀ c ∈ q.2, cut1 J N q.1 c = true) : cuts_chk J N = true :=
  List.all_eq_true.mpr (fun q hq => List.all_eq_true.mpr (fun c hc => h q hq c hc))
/-- the entry is checked -/
noncomputable def ent1 {w : AW} (J : Job w) (N : Nat) (S : Sum1) : Bool := match cut_as 0 S.2.2.2.2.1 J.2.2.2.2.2.2.2 (arg_lv 0 S.2.1, [], S.2.2.1, S.2.2.2.1, []) with
  | some A => ar_run J none N A
  | none => false
theorem meth_ok2 {w : AW} {P : List (Nat × pm_M)} {I : pm_M} {tab : List (Nat × AR w)} {sums : List Sum1} {cuts : List (Nat × List Cut)} {spl K : List Nat} {N d : Nat} {S : Sum1} (hI : pm_at P S.1 = some I) (ht : I.2.2.2.2.2.2.2 = ar_tab tab) (hz : Nat.ble (S.2.1.map cv_cat).sum I.2.2.1 = true) (hS : ∀ T ∈ sums, sum_g w (pm_Rt P d) T)
    (h1 : ∀ q ∈ cuts, ∀ c ∈ q.2, cut1 (tab, sums, cuts, spl, arg_lv 0 S.2.1, S.2.2.2.2.2, S.2.2.2.2.1, K) N q.1 c = true) (h2 : ent1 (tab, sums, cuts, spl, arg_lv 0 S.2.1, S.2.2.2.2.2, S.2.2.2.2.1, K) N S = true) : sum_g w (pm_Rt P (d + 1)) S :=
  meth_ok hI ht hz hS (by unfold sum_chk; rw [Bool.and_eq_true]; exact ⟨cuts_of h1, h2⟩)
