section
set_option maxRecDepth 20000 in
theorem abX9_write (w : AW) : iX9_write.2.2.2.2.2.2.2 = ar_tab (aX9_write w) := rfl
end
section
/-! the world: the heap's shape behind the constructors (written by emit.py) -/
noncomputable def cI (a b : Int) : CV := .inl (a, b)
noncomputable def cL (a b : Int) : CV := .inr (.inl (a, b))
noncomputable def cR (a : Nat) : CV := .inr (.inr (.inl a))
noncomputable def cO (k : Nat) : CV := .inr (.inr (.inr (.inl k)))
noncomputable def hs0 : List AE := [.inr (.inr (.inr (8, [.inr (.inr (.inl 1)), .inr (.inr (.inl 3)), .inr (.inr (.inl 15)), .inr (.inr (.inl 24)), .inr (.inr (.inl 52)), .inr (.inr (.inl 53)), .inr (.inr (.inl 62)), .inr (.inr (.inl 64)), .inr (.inr (.inl 70)), .inr (.inr (.inl 72)), .inr (.inr (.inl 75)), .inr (.inr (.inl 76))]))), .inr (.inr (.inr (6, [.inr (.inr (.inl 2)), .inl (0, 500)]))), .inl (1, 500, [((-128), 127)]), .inr (.inr (.inr (2, [.inr (.inr (.inl 4)), .inl (0, 3), .inl ((-1), 500), .inr (.inr (.inl 1)), .inr (.inr (.inl 13)), .inl (0, 4), .inl (0, 500), .inl (0, 500), .inl ((-2147483648), 2147483647), .inl (0, 99)]))), .inr (.inr (.inr (5, [.inl (0, 8), .inl (0, 3), .inl (0, 10), .inl ((-2147483648), 2147483647), .inl (0, 8), .inl (0, 8), .inl (0, 20), .inr (.inr (.inl 5)), .inr (.inr (.inl 6)), .inr (.inr (.inl 7)), .inr (.inr (.inl 8)), .inr (.inr (.inl 9)), .inr (.inr (.inl 10)), .inr (.inr (.inl 11)), .inr (.inr (.inl 12))]))), .inl (0, 8, [(0, 8)]), .inl (0, 8, [(0, 8)]), .inl (0, 8, [(0, 99)]), .inl (0, 8, [(0, 9)]), .inl (0, 8, [(0, 9)]), .inl (0, 20, [(0, 7)]), .inl (0, 20, [(0, 8)]), .inl (2, 20, [(0, 1)]), .inr (.inr (.inr (0, [.inr (.inr (.inl 14)), .inl (0, 9)]))), .inl (0, 10, [(0, 511)]), .inr (.inr (.inr (5, [.inl (0, 8), .inl (0, 3), .inl (0, 10), .inl ((-2147483648), 2147483647), .inl (0, 8), .inl (0, 8), .inl (0, 20), .inr (.inr (.inl 16)), .inr (.inr (.inl 17)), .inr (.inr (.inl 18)), .inr (.inr (.inl 19)), .inr (.inr (.inl 20)), .inr (.inr (.inl 21)), .inr (.inr (.inl 22)), .inr (.inr (.inl 23))]))), .inl (0, 8, [(0, 8)]), .inl (0, 8, [(0, 8)]), .inl (0, 8, [(0, 99)]), .inl (0, 8, [(0, 9)]), .inl (0, 8, [(0, 9)]), .inl (0, 20, [(0, 7)]), .inl (0, 20, [(0, 8)]), .inl (2, 20, [(0, 1)]), .inr (.inr (.inl (4, [some 25, some 34, some 43]))), .inr (.inr (.inr (5, [.inl (0, 8), .inl (0, 3), .inl (0, 10), .inl ((-2147483648), 2147483647), .inl (0, 8), .inl (0, 8), .inl (0, 20), .inr (.inr (.inl 26)), .inr (.inr (.inl 27)), .inr (.inr (.inl 28)), .inr (.inr (.inl 29)), .inr (.inr (.inl 30)), .inr (.inr (.inl 31)), .inr (.inr (.inl 32)), .inr (.inr (.inl 33))]))), .inl (0, 8, [(0, 8)]), .inl (0, 8, [(0, 8)]), .inl (0, 8, [(0, 99)]), .inl (0, 8, [(0, 9)]), .inl (0, 8, [(0, 9)]), .inl (0, 20, [(0, 7)]), .inl (0, 20, [(0, 8)]), .inl (2, 20, [(0, 1)]), .inr (.inr (.inr (5, [.inl (0, 8), .inl (0, 3), .inl (0, 10), .inl ((-2147483648), 2147483647), .inl (0, 8), .inl (0, 8), .inl (0, 20), .inr (.inr (.inl 35)), .inr (.inr (.inl 36)), .inr (.inr (.inl 37)), .inr (.inr (.inl 38)), .inr (.inr (.inl 39)), .inr (.inr (.inl 40)), .inr (.inr (.inl 41)), .inr (.inr (.inl 42))]))), .inl (0, 8, [(0, 8)]), .inl (0, 8, [(0, 8)]), .inl (0, 8, [(0, 99)]), .inl (0, 8, [(0, 9)]), .inl (0, 8, [(0, 9)]), .inl (0, 20, [(0, 7)]), .inl (0, 20, [(0, 8)]), .inl (2, 20, [(0, 1)]), .inr (.inr (.inr (5, [.inl (0, 8), .inl (0, 3), .inl (0, 10), .inl ((-2147483648), 2147483647), .inl (0, 8), .inl (0, 8), .inl (0, 20), .inr (.inr (.inl 44)), .inr (.inr (.inl 45)), .inr (.inr (.inl 46)), .inr (.inr (.inl 47)), .inr (.inr (.inl 48)), .inr (.inr (.inl 49)), .inr (.inr (.inl 50)), .inr (.inr (.inl 51))]))), .inl (0, 8, [(0, 8)]), .inl (0, 8, [(0, 8)]), .inl (0, 8, [(0, 99)]), .inl (0, 8, [(0, 9)]), .inl (0, 8, [(0, 9)]), .inl (0, 20, [(0, 7)]), .inl (0, 20, [(0, 8)]), .inl (2, 20, [(0, 1)]), .inl (2, 3, [(0, 1)]), .inr (.inr (.inl (5, [some 54, some 56, some 58, some 60]))), .inr (.inr (.inr (4, [.inr (.inr (.inl 55)), .inl (0, 1), .inl (0, 3), .inl (0, 60)]))), .inr (.inl 60), .inr (.inr (.inr (4, [.inr (.inr (.inl 57)), .inl (0, 1), .inl (0, 3), .inl (0, 60)]))), .inr (.inl 60), .inr (.inr (.inr (4, [.inr (.inr (.inl 59)), .inl (0, 1), .inl (0, 3), .inl (0, 60)]))), .inr (.inl 60), .inr (.inr (.inr (4, [.inr (.inr (.inl 61)), .inl (0, 1), .inl (0, 3), .inl (0, 60)]))), .inr (.inl 60), .inr (.inr (.inr (1, [.inr (.inr (.inl 63)), .inl (0, 511), .inl (0, 255), .inl ((-2147483648), 2147483647)]))), .inl (0, 8, [(0, 9)]), .inr (.inr (.inr (7, [.inr (.inr (.inl 65)), .inr (.inr (.inl 66)), .inr (.inr (.inl 67)), .inr (.inr (.inl 68)), .inr (.inr (.inl 69)), .inl (0, 9), .inl (0, 9)]))), .inl (0, 9, [(0, 8)]), .inl (0, 9, [(0, 8)]), .inl (0, 9, [((-2147483648), 2147483647)]), .inl (0, 9, [(0, 511)]), .inl (0, 9, [(0, 8)]), .inr (.inr (.inr (0, [.inr (.inr (.inl 71)), .inl (0, 9)]))), .inl (0, 10, [(0, 511)]), .inr (.inr (.inr (3, [.inr (.inr (.inl 73)), .inr (.inr (.inl 74))]))), .inl (0, 256, [(0, 511)]), .inl (0, 256, [((-2147483648), 2147483647)]), .inl (0, 8, [(0, 9)]), .inl (0, 64, [(0, 9)]), .inr (.inr (.inr (9, [.inl (0, 0), .inr (.inr (.inl 78)), .inr (.inr (.inl 79)), .inr (.inr (.inl 80)), .inr (.inr (.inl 81)), .inr (.inr (.inl 82)), .inl (0, 500), .inl (0, 500), .inl (0, 4), .inl (0, 500), .inl ((-2147483648), 2147483647), .inr (.inl ()), .inl (0, 3), .inl ((-1), 500), .inl (0, 3), .inl ((-1), 500), .inr (.inr (.inl 83)), .inr (.inr (.inl 84)), .inr (.inr (.inl 85)), .inr (.inr (.inl 86)), .inr (.inr (.inl 87)), .inr (.inr (.inl 88)), .inl (0, 3), .inl ((-2147483648), 2147483647), .inr (.inr (.inl 89)), .inr (.inr (.inl 90)), .inr (.inr (.inl 91)), .inl (0, 255), .inr (.inr (.inl 92)), .inr (.inr (.inl 93)), .inr (.inr (.inl 94)), .inr (.inr (.inl 95)), .inr (.inr (.inl 96)), .inr (.inr (.inl 97)), .inr (.inr (.inl 98)), .inl ((-2147483648), 2147483647), .inl (0, 9), .inr (.inr (.inl 99)), .inr (.inr (.inl 100)), .inl (0, 6), .inr (.inr (.inl 101)), .inl (0, 255), .inl ((-1), 7), .inl ((-2147483648), 2147483647), .inr (.inr (.inl 102))]))), .inl (0, 4, [((-1), 3)]), .inl (0, 4, [(0, 60)]), .inr (.inl 240), .inr (.inl 60), .inl (1, 500, [((-128), 127)]), .inl (0, 5, [((-2147483648), 2147483647)]), .inl (0, 30, [(0, 8), (0, 3), (0, 10), (0, 8), (0, 8), (0, 20)]), .inl (0, 80, [(0, 8), (0, 99)]), .inl (0, 80, [(0, 9)]), .inl (0, 300, [(0, 1), (0, 7), (0, 8)]), .inl (2, 3, [(0, 1)]), .inl (0, 8, [(0, 8)]), .inl (0, 10, [((-1), 7)]), .inl (0, 8, [((-1), 9)]), .inl (0, 9, [(0, 8)]), .inl (0, 9, [(0, 8)]), .inl (0, 9, [((-2147483648), 2147483647)]), .inl (0, 8, [(0, 8)]), .inl (0, 18, [(0, 8)]), .inl (0, 8, [((-2147483648), 2147483647)]), .inl (0, 9, [(0, 8)]), .inl (0, 5, [(0, 4)]), .inl (0, 6, [(0, 1)]), .inl (0, 10, [(0, 9)]), .inl (0, 72, [((-1), 9)])]
noncomputable def fam : List (Nat × Nat × Nat × Nat × Nat) := [(12, 0, 11, 0, 1), (23, 0, 22, 0, 1), (33, 0, 32, 0, 1), (42, 0, 41, 0, 1), (51, 0, 50, 0, 1), (87, 0, 87, 2, 3), (87, 60, 87, 62, 3), (87, 120, 87, 122, 3), (87, 180, 87, 182, 3), (87, 240, 87, 242, 3)]
noncomputable def lfam : List (Nat × Nat × Nat × Nat × Nat × Nat × Nat) := [(55, 0, 2, 1, 7, 54, 3), (57, 0, 2, 1, 7, 56, 3), (59, 0, 2, 1, 7, 58, 3), (61, 0, 2, 1, 7, 60, 3), (55, 0, 1, 0, 8, 54, 3), (57, 0, 1, 0, 8, 56, 3), (59, 0, 1, 0, 8, 58, 3), (61, 0, 1, 0, 8, 60, 3), (80, 0, 2, 0, 7, 79, 0), (80, 60, 2, 0, 7, 79, 1), (80, 120, 2, 0, 7, 79, 2), (80, 180, 2, 0, 7, 79, 3), (80, 0, 1, 0, 8, 79, 0), (80, 60, 1, 0, 8, 79, 1), (80, 120, 1, 0, 8, 79, 2), (80, 180, 1, 0, 8, 79, 3)]
/-- acts: where a car is traded, the other one is a car (but for one act) -/
noncomputable def FA (T a G b st j : Nat) (h : pm_H) : Prop := ∀ i, i < 20 → i ≠ j → ∀ t g : Int32, ld h T (a + st * i) = some (.int t) → ld h G (b + st * i) = some (.int g) → ¬ t.toInt = 0 → g.toInt ≤ 7
noncomputable def fl1 (i : Nat) (h : pm_H) : Prop := match fam[i / 21]? with
  | some (T, a, G, b, st) => FA T a G b st (i % 21) h
  | none => True
noncomputable def sp_of (c o st j : Nat) : List Rng := bif Nat.ble 20 j then [(c, o, o + st * 19)] else (bif Nat.beq j 0 then [] else [(c, o, o + st * (j - 1))]) ++ (bif Nat.blt j 19 then [(c, o + st * (j + 1), o + st * 19)] else [])
noncomputable def sp1 (i : Nat) : List Rng := match fam[i / 21]? with
  | some (T, a, G, b, st) => sp_of T a st (i % 21) ++ sp_of G b st (i % 21)
  | none => []
theorem rg_in_one {c l u k : Nat} (h1 : l ≤ k) (h2 : k ≤ u) {S : List Rng} (hm : (c, l, u) ∈ S) : rg_in S c k = true :=
  List.any_eq_true.mpr ⟨(c, l, u), hm, by rw [Nat.beq_refl, Nat.ble_eq_true_of_le h1, Nat.ble_eq_true_of_le h2]; rfl⟩
theorem sp_of_in {c o st j i : Nat} (hi : i < 20) (hj : i ≠ j) : ∃ l u, (c, l, u) ∈ sp_of c o st j ∧ l ≤ o + st * i ∧ o + st * i ≤ u := by
  have h19 : st * i ≤ st * 19 := Nat.mul_le_mul_left st (by omega)
  unfold sp_of
  cases h20 : Nat.ble 20 j with
  | true => exact ⟨o, o + st * 19, List.mem_singleton_self _, by omega, by omega⟩
  | false =>
    by_cases hlt : i < j
    · have hb : Nat.beq j 0 = false := by
        cases hb : Nat.beq j 0 with
        | false => rfl
        | true => have := Nat.eq_of_beq_eq_true hb; omega
      have hm : st * i ≤ st * (j - 1) := Nat.mul_le_mul_left st (by omega)
      refine ⟨o, o + st * (j - 1), ?_, by omega, by omega⟩
      rw [hb]
      exact List.mem_append_left _ (List.mem_singleton_self _)
    · have hm : st * (j + 1) ≤ st * i := Nat.mul_le_mul_left st (by omega)
      have hb : Nat.blt j 19 = true := Nat.ble_eq_true_of_le (show j + 1 ≤ 19 by omega)
      refine ⟨o + st * (j + 1), o + st * 19, ?_, by omega, by omega⟩
      rw [hb]
      exact List.mem_append_right _ (List.mem_singleton_self _)
theorem fl1_fr (i : Nat) (h h' : pm_H) (_ : hs_g hs0 h) (_ : hs_g hs0 h') (hf : ∀ a k, rg_in (sp1 i) a k = true → ld h' a k = ld h a k) (hi : fl1 i h) : fl1 i h' := by
  unfold fl1 sp1 at *
  split
  · rename_i T a G b st e
    rw [e] at hf hi
    dsimp only at hf hi
    intro q hq hj t g h1 h2 h3
    obtain ⟨l1, u1, m1, x1, y1⟩ := sp_of_in (c := T) (o := a) (st := st) hq hj
    obtain ⟨l2, u2, m2, x2, y2⟩ := sp_of_in (c := G) (o := b) (st := st) hq hj
    rw [hf T _ (rg_in_one x1 y1 (List.mem_append_left _ m1))] at h1
    rw [hf G _ (rg_in_one x2 y2 (List.mem_append_right _ m2))] at h2
    exact hi q hq hj t g h1 h2 h3
  · trivial
end
