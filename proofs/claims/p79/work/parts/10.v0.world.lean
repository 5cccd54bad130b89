/-! the world: the heap's shape behind the constructors (written by emit.py) -/
def cI (a b : Int) : CV := .inl (a, b)
def cL (a b : Int) : CV := .inr (.inl (a, b))
def cR (a : Nat) : CV := .inr (.inr (.inl a))
def cO (k : Nat) : CV := .inr (.inr (.inr (.inl k)))
def cN : CV := .inr (.inr (.inr (.inr ())))
def hs0 : List AE := [.inr (.inr (.inr (8, [.inr (.inr (.inl 1)), .inr (.inr (.inl 3)), .inr (.inr (.inl 15)), .inr (.inr (.inl 24)), .inr (.inr (.inl 52)), .inr (.inr (.inl 53)), .inr (.inr (.inl 62)), .inr (.inr (.inl 64)), .inr (.inr (.inl 70)), .inr (.inr (.inl 72)), .inr (.inr (.inl 75)), .inr (.inr (.inl 76))]))), .inr (.inr (.inr (6, [.inr (.inr (.inl 2)), .inl (0, 500)]))), .inl (1, 500, [((-128), 127)]), .inr (.inr (.inr (2, [.inr (.inr (.inl 4)), .inl (0, 3), .inl ((-1), 500), .inr (.inr (.inl 1)), .inr (.inr (.inl 13)), .inl (0, 4), .inl (0, 500), .inl (0, 500), .inl ((-2147483648), 2147483647), .inl (0, 99)]))), .inr (.inr (.inr (5, [.inl (0, 8), .inl (0, 3), .inl (0, 10), .inl ((-2147483648), 2147483647), .inl (0, 8), .inl (0, 8), .inl (0, 20), .inr (.inr (.inl 5)), .inr (.inr (.inl 6)), .inr (.inr (.inl 7)), .inr (.inr (.inl 8)), .inr (.inr (.inl 9)), .inr (.inr (.inl 10)), .inr (.inr (.inl 11)), .inr (.inr (.inl 12))]))), .inl (0, 8, [(0, 8)]), .inl (0, 8, [(0, 8)]), .inl (0, 8, [(0, 99)]), .inl (0, 8, [(0, 9)]), .inl (0, 8, [(0, 9)]), .inl (0, 20, [(0, 7)]), .inl (0, 20, [(0, 8)]), .inl (2, 20, [(0, 1)]), .inr (.inr (.inr (0, [.inr (.inr (.inl 14)), .inl (0, 9)]))), .inl (0, 10, [(0, 511)]), .inr (.inr (.inr (5, [.inl (0, 8), .inl (0, 3), .inl (0, 10), .inl ((-2147483648), 2147483647), .inl (0, 8), .inl (0, 8), .inl (0, 20), .inr (.inr (.inl 16)), .inr (.inr (.inl 17)), .inr (.inr (.inl 18)), .inr (.inr (.inl 19)), .inr (.inr (.inl 20)), .inr (.inr (.inl 21)), .inr (.inr (.inl 22)), .inr (.inr (.inl 23))]))), .inl (0, 8, [(0, 8)]), .inl (0, 8, [(0, 8)]), .inl (0, 8, [(0, 99)]), .inl (0, 8, [(0, 9)]), .inl (0, 8, [(0, 9)]), .inl (0, 20, [(0, 7)]), .inl (0, 20, [(0, 8)]), .inl (2, 20, [(0, 1)]), .inr (.inr (.inl (4, [some 25, some 34, some 43]))), .inr (.inr (.inr (5, [.inl (0, 8), .inl (0, 3), .inl (0, 10), .inl ((-2147483648), 2147483647), .inl (0, 8), .inl (0, 8), .inl (0, 20), .inr (.inr (.inl 26)), .inr (.inr (.inl 27)), .inr (.inr (.inl 28)), .inr (.inr (.inl 29)), .inr (.inr (.inl 30)), .inr (.inr (.inl 31)), .inr (.inr (.inl 32)), .inr (.inr (.inl 33))]))), .inl (0, 8, [(0, 8)]), .inl (0, 8, [(0, 8)]), .inl (0, 8, [(0, 99)]), .inl (0, 8, [(0, 9)]), .inl (0, 8, [(0, 9)]), .inl (0, 20, [(0, 7)]), .inl (0, 20, [(0, 8)]), .inl (2, 20, [(0, 1)]), .inr (.inr (.inr (5, [.inl (0, 8), .inl (0, 3), .inl (0, 10), .inl ((-2147483648), 2147483647), .inl (0, 8), .inl (0, 8), .inl (0, 20), .inr (.inr (.inl 35)), .inr (.inr (.inl 36)), .inr (.inr (.inl 37)), .inr (.inr (.inl 38)), .inr (.inr (.inl 39)), .inr (.inr (.inl 40)), .inr (.inr (.inl 41)), .inr (.inr (.inl 42))]))), .inl (0, 8, [(0, 8)]), .inl (0, 8, [(0, 8)]), .inl (0, 8, [(0, 99)]), .inl (0, 8, [(0, 9)]), .inl (0, 8, [(0, 9)]), .inl (0, 20, [(0, 7)]), .inl (0, 20, [(0, 8)]), .inl (2, 20, [(0, 1)]), .inr (.inr (.inr (5, [.inl (0, 8), .inl (0, 3), .inl (0, 10), .inl ((-2147483648), 2147483647), .inl (0, 8), .inl (0, 8), .inl (0, 20), .inr (.inr (.inl 44)), .inr (.inr (.inl 45)), .inr (.inr (.inl 46)), .inr (.inr (.inl 47)), .inr (.inr (.inl 48)), .inr (.inr (.inl 49)), .inr (.inr (.inl 50)), .inr (.inr (.inl 51))]))), .inl (0, 8, [(0, 8)]), .inl (0, 8, [(0, 8)]), .inl (0, 8, [(0, 99)]), .inl (0, 8, [(0, 9)]), .inl (0, 8, [(0, 9)]), .inl (0, 20, [(0, 7)]), .inl (0, 20, [(0, 8)]), .inl (2, 20, [(0, 1)]), .inl (2, 3, [(0, 1)]), .inr (.inr (.inl (5, [some 54, some 56, some 58, some 60]))), .inr (.inr (.inr (4, [.inr (.inr (.inl 55)), .inl (0, 1), .inl (0, 3), .inl (0, 60)]))), .inr (.inl 60), .inr (.inr (.inr (4, [.inr (.inr (.inl 57)), .inl (0, 1), .inl (0, 3), .inl (0, 60)]))), .inr (.inl 60), .inr (.inr (.inr (4, [.inr (.inr (.inl 59)), .inl (0, 1), .inl (0, 3), .inl (0, 60)]))), .inr (.inl 60), .inr (.inr (.inr (4, [.inr (.inr (.inl 61)), .inl (0, 1), .inl (0, 3), .inl (0, 60)]))), .inr (.inl 60), .inr (.inr (.inr (1, [.inr (.inr (.inl 63)), .inl (0, 511), .inl (0, 255), .inl ((-2147483648), 2147483647)]))), .inl (0, 8, [(0, 9)]), .inr (.inr (.inr (7, [.inr (.inr (.inl 65)), .inr (.inr (.inl 66)), .inr (.inr (.inl 67)), .inr (.inr (.inl 68)), .inr (.inr (.inl 69)), .inl (0, 9), .inl (0, 9)]))), .inl (0, 9, [(0, 8)]), .inl (0, 9, [(0, 8)]), .inl (0, 9, [((-2147483648), 2147483647)]), .inl (0, 9, [(0, 511)]), .inl (0, 9, [(0, 8)]), .inr (.inr (.inr (0, [.inr (.inr (.inl 71)), .inl (0, 9)]))), .inl (0, 10, [(0, 511)]), .inr (.inr (.inr (3, [.inr (.inr (.inl 73)), .inr (.inr (.inl 74))]))), .inl (0, 256, [(0, 511)]), .inl (0, 256, [((-2147483648), 2147483647)]), .inl (0, 8, [(0, 9)]), .inl (0, 64, [(0, 9)]), .inr (.inr (.inr (9, [.inl (0, 0), .inr (.inr (.inl 78)), .inr (.inr (.inl 79)), .inr (.inr (.inl 80)), .inr (.inr (.inl 81)), .inr (.inr (.inl 82)), .inl (0, 500), .inl (0, 500), .inl (0, 4), .inl (0, 500), .inl ((-2147483648), 2147483647), .inr (.inl ()), .inl (0, 3), .inl ((-1), 500), .inl (0, 3), .inl ((-1), 500), .inr (.inr (.inl 83)), .inr (.inr (.inl 84)), .inr (.inr (.inl 85)), .inr (.inr (.inl 86)), .inr (.inr (.inl 87)), .inr (.inr (.inl 88)), .inl (0, 3), .inl ((-2147483648), 2147483647), .inr (.inr (.inl 89)), .inr (.inr (.inl 90)), .inr (.inr (.inl 91)), .inl (0, 255), .inr (.inr (.inl 92)), .inr (.inr (.inl 93)), .inr (.inr (.inl 94)), .inr (.inr (.inl 95)), .inr (.inr (.inl 96)), .inr (.inr (.inl 97)), .inr (.inr (.inl 98)), .inl ((-2147483648), 2147483647), .inl (0, 9), .inr (.inr (.inl 99)), .inr (.inr (.inl 100)), .inl (0, 6), .inr (.inr (.inl 101)), .inl (0, 255), .inl ((-1), 7), .inl ((-2147483648), 2147483647), .inr (.inr (.inl 102))]))), .inl (0, 4, [((-1), 3)]), .inl (0, 4, [(0, 60)]), .inr (.inl 240), .inr (.inl 60), .inl (1, 500, [((-128), 127)]), .inl (0, 5, [((-2147483648), 2147483647)]), .inl (0, 30, [(0, 8), (0, 3), (0, 10), (0, 8), (0, 8), (0, 20)]), .inl (0, 80, [(0, 8), (0, 99)]), .inl (0, 80, [(0, 9)]), .inl (0, 300, [(0, 1), (0, 7), (0, 8)]), .inl (2, 3, [(0, 1)]), .inl (0, 8, [(0, 8)]), .inl (0, 10, [((-1), 7)]), .inl (0, 8, [((-1), 9)]), .inl (0, 9, [(0, 8)]), .inl (0, 9, [(0, 8)]), .inl (0, 9, [((-2147483648), 2147483647)]), .inl (0, 8, [(0, 8)]), .inl (0, 18, [(0, 8)]), .inl (0, 8, [((-2147483648), 2147483647)]), .inl (0, 9, [(0, 8)]), .inl (0, 5, [(0, 4)]), .inl (0, 6, [(0, 1)]), .inl (0, 10, [(0, 9)]), .inl (0, 72, [((-1), 9)])]
def fam : List (Nat × Nat × Nat × Nat × Nat) := [(12, 0, 11, 0, 1), (23, 0, 22, 0, 1), (33, 0, 32, 0, 1), (42, 0, 41, 0, 1), (51, 0, 50, 0, 1), (87, 0, 87, 2, 3), (87, 60, 87, 62, 3), (87, 120, 87, 122, 3), (87, 180, 87, 182, 3), (87, 240, 87, 242, 3)]
def lfam : List (Nat × Nat × Nat × Nat × Nat × Nat × Nat) := [(55, 0, 2, 1, 7, 54, 3), (57, 0, 2, 1, 7, 56, 3), (59, 0, 2, 1, 7, 58, 3), (61, 0, 2, 1, 7, 60, 3), (55, 0, 1, 0, 8, 54, 3), (57, 0, 1, 0, 8, 56, 3), (59, 0, 1, 0, 8, 58, 3), (61, 0, 1, 0, 8, 60, 3), (80, 0, 2, 0, 7, 79, 0), (80, 60, 2, 0, 7, 79, 1), (80, 120, 2, 0, 7, 79, 2), (80, 180, 2, 0, 7, 79, 3), (80, 0, 1, 0, 8, 79, 0), (80, 60, 1, 0, 8, 79, 1), (80, 120, 1, 0, 8, 79, 2), (80, 180, 1, 0, 8, 79, 3)]
/-- acts: where a car is traded, the other one is a car (but for one act) -/
def FA (T a G b st j : Nat) (h : pm_H) : Prop := ∀ i, i < 20 → i ≠ j → ∀ t g : Int32, ld h T (a + st * i) = some (.int t) → ld h G (b + st * i) = some (.int g) → ¬ t.toInt = 0 → g.toInt ≤ 7
def fl1 (i : Nat) (h : pm_H) : Prop := match fam[i / 21]? with
  | some (T, a, G, b, st) => FA T a G b st (i % 21) h
  | none => True
def sp_of (c o st j : Nat) : List Rng := bif Nat.ble 20 j then [(c, o, o + st * 19)] else (bif Nat.beq j 0 then [] else [(c, o, o + st * (j - 1))]) ++ (bif Nat.blt j 19 then [(c, o + st * (j + 1), o + st * 19)] else [])
def sp1 (i : Nat) : List Rng := match fam[i / 21]? with
  | some (T, a, G, b, st) => sp_of T a st (i % 21) ++ sp_of G b st (i % 21)
  | none => []
theorem rg_in_one {c l u k : Nat} (h1 : l ≤ k) (h2 : k ≤ u) {S : List Rng} (hm : (c, l, u) ∈ S) : rg_in S c k = true :=
  List.any_eq_true.mpr ⟨(c, l, u), hm, by rw [Nat.beq_refl, Nat.ble_eq_true_of_le h1, Nat.ble_eq_true_of_le h2]; rfl⟩
theorem sp_of_in {c o st j i : Nat} (hi : i < 20) (hj : i ≠ j) : ∃ l u, (c, l, u) ∈ sp_of c o st j ∧ l ≤ o + st * i ∧ o + st * i ≤ u := by
  have h19 : st * i ≤ st * 19 := Nat.mul_le_mul_left st (by omega)
  unfold sp_of
  cases h20 : Nat.ble 20 j with
  | true => exact ⟨o, o + st * 19, List.mem_singleton_self _, by omega, by omega⟩
  | false =>
    by_cases hlt : i < j
    · have hb : Nat.beq j 0 = false := by
        cases hb : Nat.beq j 0 with
        | false => rfl
        | true => have := Nat.eq_of_beq_eq_true hb; omega
      have hm : st * i ≤ st * (j - 1) := Nat.mul_le_mul_left st (by omega)
      refine ⟨o, o + st * (j - 1), ?_, by omega, by omega⟩
      rw [hb]
      exact List.mem_append_left _ (List.mem_singleton_self _)
    · have hm : st * (j + 1) ≤ st * i := Nat.mul_le_mul_left st (by omega)
      have hb : Nat.blt j 19 = true := Nat.ble_eq_true_of_le (show j + 1 ≤ 19 by omega)
      refine ⟨o + st * (j + 1), o + st * 19, ?_, by omega, by omega⟩
      rw [hb]
      exact List.mem_append_right _ (List.mem_singleton_self _)
theorem fl1_fr (i : Nat) (h h' : pm_H) (_ : hs_g hs0 h) (_ : hs_g hs0 h') (hf : ∀ a k, rg_in (sp1 i) a k = true → ld h' a k = ld h a k) (hi : fl1 i h) : fl1 i h' := by
  unfold fl1 sp1 at *
  split
  · rename_i T a G b st e
    rw [e] at hf hi
    dsimp only at hf hi
    intro q hq hj t g h1 h2 h3
    obtain ⟨l1, u1, m1, x1, y1⟩ := sp_of_in (c := T) (o := a) (st := st) hq hj
    obtain ⟨l2, u2, m2, x2, y2⟩ := sp_of_in (c := G) (o := b) (st := st) hq hj
    rw [hf T _ (rg_in_one x1 y1 (List.mem_append_left _ m1))] at h1
    rw [hf G _ (rg_in_one x2 y2 (List.mem_append_right _ m2))] at h2
    exact hi q hq hj t g h1 h2 h3
  · trivial
/-- numbers of a row within bounds: the first so many; all that count -/
def LP (c o st B p : Nat) (h : pm_H) : Prop := ∀ m, st * m < p → ∃ x : Int64, ld h c (o + st * m) = some (.long x) ∧ 0 ≤ x.toInt ∧ x.toInt ≤ (B : Int)
def LD (c o st e B lc lk : Nat) (h : pm_H) : Prop := ∀ (n : Int32) (m : Nat), ld h lc lk = some (.int n) → ((st * m + e : Nat) : Int) < n.toInt → ∃ x : Int64, ld h c (o + st * m) = some (.long x) ∧ 0 ≤ x.toInt ∧ x.toInt ≤ (B : Int)
def fl2 (i : Nat) (h : pm_H) : Prop := match lfam[i / 62]? with
  | some (c, o, st, e, B, lc, lk) => (bif Nat.beq (i % 62) 61 then LD c o st e B lc lk h else LP c o st B (i % 62) h)
  | none => True
def sp2 (i : Nat) : List Rng := match lfam[i / 62]? with
  | some (c, o, _, _, _, lc, lk) => bif Nat.beq (i % 62) 61 then [(c, 0, 4294967295), (lc, lk, lk)] else (bif Nat.beq (i % 62) 0 then [] else [(c, o, o + (i % 62) - 1)])
  | none => []
theorem lfam_o : ∀ f ∈ lfam, f.2.1 ≤ 240 := by decide +kernel
theorem fl2_fr (i : Nat) (h h' : pm_H) (hf : ∀ a k, rg_in (sp2 i) a k = true → ld h' a k = ld h a k) (hi : fl2 i h) : fl2 i h' := by
  unfold fl2 sp2 at *
  split
  · rename_i c o st e B lc lk eq
    have ho := lfam_o _ (List.mem_of_getElem? eq)
    dsimp only at ho
    rw [eq] at hf hi
    dsimp only at hf hi
    cases hb : Nat.beq (i % 62) 61 with
    | true =>
      rw [hb] at hf hi
      dsimp only [cond_true] at hf hi ⊢
      intro n m h1 h2
      rw [hf lc lk (rg_in_one (Nat.le_refl _) (Nat.le_refl _) (List.mem_cons_of_mem _ (List.mem_singleton_self _)))] at h1
      obtain ⟨x, e1, e2⟩ := hi n m h1 h2
      have hn := ai_hi n
      exact ⟨x, by rw [hf c _ (rg_in_one (Nat.zero_le _) (by omega) List.mem_cons_self)]; exact e1, e2⟩
    | false =>
      rw [hb] at hf hi
      dsimp only [cond_false] at hf hi ⊢
      intro m hm
      obtain ⟨x, e1, e2⟩ := hi m hm
      have h0 : Nat.beq (i % 62) 0 = false := by
        cases h0 : Nat.beq (i % 62) 0 with
        | false => rfl
        | true => have := Nat.eq_of_beq_eq_true h0; omega
      rw [h0] at hf
      dsimp only [cond_false] at hf
      exact ⟨x, by rw [hf c _ (rg_in_one (by omega) (by omega) (List.mem_singleton_self _))]; exact e1, e2⟩
  · trivial
def fl0 (i : Nat) (h : pm_H) : Prop := bif Nat.blt i 210 then fl1 i h else fl2 (i - 210) h
def sp0 (i : Nat) : List Rng := bif Nat.blt i 210 then sp1 i else sp2 (i - 210)
theorem fl0_fr (i : Nat) (h h' : pm_H) (a1 : hs_g hs0 h) (a2 : hs_g hs0 h') (hf : ∀ a k, rg_in (sp0 i) a k = true → ld h' a k = ld h a k) (hi : fl0 i h) : fl0 i h' := by
  unfold fl0 sp0 at *
  cases hb : Nat.blt i 210 with
  | true => rw [hb] at hf hi; exact fl1_fr i h h' a1 a2 hf hi
  | false => rw [hb] at hf hi; exact fl2_fr (i - 210) h h' hf hi
def w0 : AW := ⟨(hs0, fl0, sp0), fl0_fr⟩
theorem fl0_lo {i : Nat} (h : i < 210) : w0.1.2.1 i = fl1 i := by
  funext q
  show (bif Nat.blt i 210 then fl1 i q else fl2 (i - 210) q) = fl1 i q
  rw [show Nat.blt i 210 = true from Nat.ble_eq_true_of_le h]; rfl
theorem fl0_at {f p c o st e B lc lk : Nat} (hp : p < 62) (eq : lfam[f]? = some (c, o, st, e, B, lc, lk)) (h : pm_H) : w0.1.2.1 (210 + (62 * f + p)) h = (bif Nat.beq p 61 then LD c o st e B lc lk h else LP c o st B p h) := by
  show (bif Nat.blt (210 + (62 * f + p)) 210 then fl1 (210 + (62 * f + p)) h else fl2 (210 + (62 * f + p) - 210) h) = _
  have hb : Nat.blt (210 + (62 * f + p)) 210 = false := by
    cases hb : Nat.blt (210 + (62 * f + p)) 210 with
    | false => rfl
    | true => have := Nat.le_of_ble_eq_true hb; omega
  rw [hb, cond_false, show 210 + (62 * f + p) - 210 = 62 * f + p by omega]
  unfold fl2
  rw [show (62 * f + p) / 62 = f by omega, show (62 * f + p) % 62 = p by omega, eq]
theorem fl1_at {f j T a G b st : Nat} {h : pm_H} (hj : j < 21) (e : fam[f]? = some (T, a, G, b, st)) : fl1 (21 * f + j) h = FA T a G b st j h := by
  unfold fl1
  rw [show (21 * f + j) / 21 = f by omega, show (21 * f + j) % 21 = j by omega, e]
theorem fam_lt {f : Nat} {q : Nat × Nat × Nat × Nat × Nat} (e : fam[f]? = some q) : f < 10 := (List.getElem?_eq_some_iff.mp e).1
theorem fl0_f {f j T a G b st : Nat} {h : pm_H} (hj : j < 21) (e : fam[f]? = some (T, a, G, b, st)) : w0.1.2.1 (21 * f + j) h = FA T a G b st j h := by
  have hf := fam_lt e
  rw [fl0_lo (by omega)]
  exact fl1_at hj e
def h_weak (f : Nat) (A : AS) : List AS := [bif (fam[f]?).isSome && A.2.2.2.2.2.2.1.contains (21 * f + 20) then set_fl A ((List.range 20).map (fun j => 21 * f + j) ++ A.2.2.2.2.2.2.1) else A]
theorem h_weak_ok (f : Nat) (E : AEnv) (A : AS) (σ : pm_S) (g : as_g w0 E A σ) : ∃ B ∈ h_weak f A, as_g w0 E B σ := by
  refine ⟨_, List.mem_singleton_self _, ?_⟩
  cases hc : ((fam[f]?).isSome && A.2.2.2.2.2.2.1.contains (21 * f + 20)) with
  | false => exact g
  | true =>
    rw [Bool.and_eq_true] at hc
    obtain ⟨⟨T, a, G, b, st⟩, e⟩ := Option.isSome_iff_exists.mp hc.1
    obtain ⟨ρ, g⟩ := g
    have hm : 21 * f + 20 ∈ A.2.2.2.2.2.2.1 := by have := hc.2; simpa using this
    have h20 := g.2.2.2.2.2.2.2.1 _ hm
    rw [fl0_f (by omega) e] at h20
    refine ⟨ρ, set_fl_ok g (fun i hi => ?_)⟩
    cases List.mem_append.mp hi with
    | inr hi => exact g.2.2.2.2.2.2.2.1 i hi
    | inl hi =>
      obtain ⟨j, hj, rfl⟩ := List.mem_map.mp hi
      have hj : j < 20 := List.mem_range.mp hj
      rw [fl0_f (by omega) e]
      exact fun i h1 _ => h20 i h1 (by omega)
def use1 (T a G b st i : Nat) (A : AS) : Option AS := match mem_get A.2.2.2.2.1 T (a + st * i), mem_get A.2.2.2.2.1 G (b + st * i) with
  | some (.inl (k, o)), some (.inl (k', o')) => match iv_rng A.2.2.2.1 k o with
    | some (l, u) => bif decide (0 < l) || decide (u < 0) then (match iv_nar A.2.2.2.1 k' o' (-2147483648) 7 with
      | some iv' => some (set_iv A iv')
      | none => none) else some A
    | none => some A
  | _, _ => some A
theorem use1_ok {T a G b st i : Nat} {E : AEnv} {ρ : Nat → Int} {A : AS} {σ : pm_S} (hi : i < 20) (hF : FA T a G b st 20 σ.2.2.2.1) (g : as_r w0 E ρ A σ) : ∃ B, use1 T a G b st i A = some B ∧ as_r w0 E ρ B σ := by
  unfold use1
  split
  · rename_i k o k' o' e1 e2
    split
    · rename_i l u r
      cases hb : (decide (0 < l) || decide (u < 0)) with
      | false => exact ⟨A, rfl, g⟩
      | true =>
        simp only [Bool.or_eq_true, decide_eq_true_eq] at hb
        obtain ⟨v1, p1, q1⟩ := g.2.2.2.2.2.1 _ _ (mem_get_in e1)
        obtain ⟨v2, p2, q2⟩ := g.2.2.2.2.2.1 _ _ (mem_get_in e2)
        obtain ⟨t, rfl, q1⟩ := av_int q1
        obtain ⟨y, rfl, q2⟩ := av_int q2
        have b1 := iv_rng_ok g.1 q1 r
        have h7 := hF i hi (by omega) t y p1 p2 (by omega)
        obtain ⟨iv', e3, e4, e5⟩ := iv_nar_ok (lo := -2147483648) (hi := 7) g.1 q2 (ai_lo y) h7
        rw [cond_true, e3]
        exact ⟨_, rfl, as_iv g e4 e5⟩
    · exact ⟨A, rfl, g⟩
  · exact ⟨A, rfl, g⟩
def useall (T a G b st : Nat) : Nat → AS → Option AS
  | 0, A => some A
  | i + 1, A => match use1 T a G b st i A with
    | some B => useall T a G b st i B
    | none => none
theorem useall_ok {T a G b st : Nat} {E : AEnv} {ρ : Nat → Int} {σ : pm_S} (hF : FA T a G b st 20 σ.2.2.2.1) : ∀ (i : Nat) (A : AS), i ≤ 20 → as_r w0 E ρ A σ → ∃ B, useall T a G b st i A = some B ∧ as_r w0 E ρ B σ
  | 0, A, _, g => ⟨A, rfl, g⟩
  | i + 1, A, hi, g => by
    obtain ⟨B, e, gB⟩ := use1_ok (i := i) (by omega) hF g
    obtain ⟨C, e2, gC⟩ := useall_ok hF i B (by omega) gB
    exact ⟨C, by unfold useall; rw [e]; exact e2, gC⟩
def h_use (f : Nat) (A : AS) : List AS := bif A.2.2.2.2.2.2.1.contains (21 * f + 20) then (match fam[f]? with
  | some (T, a, G, b, st) => (useall T a G b st 20 A).toList
  | none => [A]) else [A]
theorem h_use_ok (f : Nat) (E : AEnv) (A : AS) (σ : pm_S) (g : as_g w0 E A σ) : ∃ B ∈ h_use f A, as_g w0 E B σ := by
  unfold h_use
  cases hc : A.2.2.2.2.2.2.1.contains (21 * f + 20) with
  | false => exact ⟨A, List.mem_singleton_self _, g⟩
  | true =>
    rw [cond_true]
    split
    · rename_i T a G b st e
      obtain ⟨ρ, g⟩ := g
      have hm : 21 * f + 20 ∈ A.2.2.2.2.2.2.1 := by simpa using hc
      have h20 := g.2.2.2.2.2.2.2.1 _ hm
      rw [fl0_f (by omega) e] at h20
      obtain ⟨B, e1, gB⟩ := useall_ok h20 20 A (Nat.le_refl _) g
      rw [e1]
      exact ⟨B, List.mem_singleton_self _, ρ, gB⟩
    · exact ⟨A, List.mem_singleton_self _, g⟩
def int_c (T a G b st j : Nat) (A : AS) : Bool := (match mem_get A.2.2.2.2.1 T (a + st * j) with
  | some (.inl (k, o)) => (match iv_rng A.2.2.2.1 k o with | some (l, u) => decide (l = 0) && decide (u = 0) | none => false)
  | _ => false) || (match mem_get A.2.2.2.2.1 G (b + st * j) with
  | some (.inl (k, o)) => (match iv_rng A.2.2.2.1 k o with | some (_, u) => decide (u ≤ 7) | none => false)
  | _ => false)
theorem int_c_ok {T a G b st j : Nat} {E : AEnv} {ρ : Nat → Int} {A : AS} {σ : pm_S} (g : as_r w0 E ρ A σ) (hF : FA T a G b st j σ.2.2.2.1) (h : int_c T a G b st j A = true) : FA T a G b st 20 σ.2.2.2.1 := by
  intro i hi _ t y h1 h2 h3
  by_cases hj : i = j
  · subst hj
    unfold int_c at h
    rw [Bool.or_eq_true] at h
    cases h with
    | inl h =>
      split at h
      · rename_i k o e
        split at h
        · rename_i l u r
          simp only [Bool.and_eq_true, decide_eq_true_eq] at h
          obtain ⟨v, p, q⟩ := g.2.2.2.2.2.1 _ _ (mem_get_in e)
          dsimp only at p
          rw [h1] at p
          cases p
          have := iv_rng_ok g.1 q r
          omega
        · cases h
      · cases h
    | inr h =>
      split at h
      · rename_i k o e
        split at h
        · rename_i l u r
          have h := of_decide_eq_true h
          obtain ⟨v, p, q⟩ := g.2.2.2.2.2.1 _ _ (mem_get_in e)
          dsimp only at p
          rw [h2] at p
          cases p
          have := iv_rng_ok g.1 q r
          omega
        · cases h
      · cases h
  · exact hF i hi hj t y h1 h2 h3
def h_intro (f : Nat) (A : AS) : List AS := bif A.2.2.2.2.2.2.1.contains (21 * f + 20) then [A] else (match fam[f]? with
  | some (T, a, G, b, st) => [bif (List.range 20).any (fun j => A.2.2.2.2.2.2.1.contains (21 * f + j) && int_c T a G b st j A) then set_fl A ((21 * f + 20) :: A.2.2.2.2.2.2.1) else A]
  | none => [A])
theorem h_intro_ok (f : Nat) (E : AEnv) (A : AS) (σ : pm_S) (g : as_g w0 E A σ) : ∃ B ∈ h_intro f A, as_g w0 E B σ := by
  unfold h_intro
  cases hc : A.2.2.2.2.2.2.1.contains (21 * f + 20) with
  | true => exact ⟨A, List.mem_singleton_self _, g⟩
  | false =>
    rw [cond_false]
    split
    · rename_i T a G b st e
      refine ⟨_, List.mem_singleton_self _, ?_⟩
      cases hb : (List.range 20).any (fun j => A.2.2.2.2.2.2.1.contains (21 * f + j) && int_c T a G b st j A) with
      | false => exact g
      | true =>
        obtain ⟨ρ, g⟩ := g
        obtain ⟨j, hj, hp⟩ := List.any_eq_true.mp hb
        have hj : j < 20 := List.mem_range.mp hj
        rw [Bool.and_eq_true] at hp
        have hm : 21 * f + j ∈ A.2.2.2.2.2.2.1 := by have := hp.1; simpa using this
        have hF := g.2.2.2.2.2.2.2.1 _ hm
        rw [fl0_f (by omega) e] at hF
        have h20 := int_c_ok g hF hp.2
        refine ⟨ρ, set_fl_ok g (fun i hi => ?_)⟩
        cases List.mem_cons.mp hi with
        | inl e' =>
          subst e'
          rw [fl0_f (by omega) e]
          exact h20
        | inr hi => exact g.2.2.2.2.2.2.2.1 i hi
    · exact ⟨A, List.mem_singleton_self _, g⟩
/-- a truth value is told apart -/
def h_spl2 (_ : Nat) (A : AS) : List AS := match A.2.2.1 with
  | .inl (k, o) :: _ => match iv_rng A.2.2.2.1 k o with
    | some (l, u) => bif decide (l = 0) && decide (u = 1) then (match as_split A with | some As => As | none => [A]) else [A]
    | none => [A]
  | _ => [A]
theorem h_spl2_ok (f : Nat) (E : AEnv) (A : AS) (σ : pm_S) (g : as_g w0 E A σ) : ∃ B ∈ h_spl2 f A, as_g w0 E B σ := by
  have self : ∃ B ∈ [A], as_g w0 E B σ := ⟨A, List.mem_singleton_self _, g⟩
  unfold h_spl2
  split
  · split
    · rename_i l u r
      cases hb : (decide (l = 0) && decide (u = 1)) with
      | false => exact self
      | true =>
        rw [cond_true]
        split
        · rename_i As e
          exact as_split_ok g e
        · exact self
    · exact self
  · exact self
/-- a long that is read out of a known place is known from now on -/
def a_lalm (w : AW) (n : Nat) : AS → Option (List AS) := fun A => match A.2.2.1 with
  | .inl (k, o) :: .inr (.inr (.inl a)) :: st => match w.1.1[a]?, iv_rng A.2.2.2.1 k o with
    | some (.inr (.inl len)), some (l, u) => bif (decide (0 ≤ l) && decide (u < (len : Int))) && decide (l = u) then (match mem_get A.2.2.2.2.1 a l.toNat with
        | some (.inr (.inl q)) => some [(n, A.2.1, .inr (.inl q) :: st, A.2.2.2)]
        | some _ => none
        | none => some [(n, A.2.1, .inr (.inl (some A.2.2.2.1.length, 0)) :: st, A.2.2.2.1 ++ [(-9223372036854775808, 9223372036854775807)], ex_note A.2.2.2.2 a l.toNat (.inr (.inl (some A.2.2.2.1.length, 0))))]) else none
    | _, _ => none
  | _ => none
theorem a_lalm_ok {w : AW} (n : Nat) : ai_ok w (s_lald n) (a_lalm w n) := by
  rintro E ⟨pc, lv, st, iv, ex⟩ ⟨pc', cl, cs, W⟩ As ⟨ρ, g1, g2, g3, g4, g5⟩ h
  simp only [a_lalm] at h
  split at h
  · rename_i k o a st'
    split at h
    · rename_i len l u hc hr
      cases hb : ((decide (0 ≤ l) && decide (u < (len : Int))) && decide (l = u)) with
      | false => rw [hb] at h; cases h
      | true =>
        rw [hb, cond_true] at h
        simp only [Bool.and_eq_true, decide_eq_true_eq] at hb
        obtain ⟨v, cs, rfl, ha, hr0⟩ := f2_cons g4
        obtain ⟨u', cs, rfl, hc1, hs2⟩ := f2_cons hr0
        obtain ⟨i, rfl, ha⟩ := av_int ha
        obtain rfl := av_ref hc1
        obtain ⟨x, hx, hg⟩ := hs_at g5.1 hc
        dsimp only at hx
        match x, hx, hg with
        | .inl (t2, len2, .inr (.inl g)), hx, hg =>
          obtain ⟨rfl, rfl⟩ := hg
          have b1 := iv_rng_ok g1 ha hr
          have hi := ai_ix (i := i) (len := len2) (by omega) (by omega)
          have hl : i.toNatClampNeg = l.toNat := by show i.toInt.toNat = l.toNat; omega
          have hstep : s_lald n (pc', cl, .int i :: .ref a :: cs, W) = some (n, cl, .long (g i.toNatClampNeg) :: cs, W) := by simp only [s_lald]; rw [hx]; simp only; rw [hi]; rfl
          have hld : ld W.1 a l.toNat = some (.long (g i.toNatClampNeg)) := by unfold ld; rw [hx, hl]
          have gg : as_r w E ρ (pc, lv, st', iv, ex) (pc', cl, cs, W) := ⟨g1, g2, g3, hs2, g5⟩
          split at h
          · rename_i q hm
            cases h
            obtain ⟨v, e1, e2⟩ := g5.2.1 _ _ (mem_get_in hm)
            dsimp only at e1
            rw [hld] at e1
            cases e1
            exact ⟨_, hstep, _, List.mem_singleton_self _, ρ, g1, rfl, g3, ⟨e2, hs2⟩, g5⟩
          · cases h
          · cases h
            obtain ⟨⟨p1, p2, p3, p4, p5⟩, e⟩ := as_grow (v := (g i.toNatClampNeg).toInt) (lo := -9223372036854775808) (hi := 9223372036854775807) gg (al_lo _) (al_hi _)
            exact ⟨_, hstep, _, List.mem_singleton_self _, _, p1, rfl, p3, ⟨e, p4⟩, ex_note_ok p5 hld e⟩
    · cases h
  · cases h
def R_lalm {w : AW} (n : Nat) : ARow w := ⟨(s_lald n, a_lalm w n), a_lalm_ok n⟩
def add_fl (A : AS) (f : Nat) : AS := set_fl A (f :: A.2.2.2.2.2.2.1)
theorem add_fl_ok {w : AW} {E : AEnv} {ρ : Nat → Int} {A : AS} {σ : pm_S} {f : Nat} (g : as_r w E ρ A σ) (h : w.1.2.1 f σ.2.2.2.1) : as_r w E ρ (add_fl A f) σ :=
  set_fl_ok g (fun i hi => by
    cases List.mem_cons.mp hi with
    | inl e => subst e; exact h
    | inr hi => exact g.2.2.2.2.2.2.2.1 i hi)
theorem fl_of {w : AW} {E : AEnv} {ρ : Nat → Int} {A : AS} {σ : pm_S} {f : Nat} (g : as_r w E ρ A σ) (h : A.2.2.2.2.2.2.1.contains f = true) : w.1.2.1 f σ.2.2.2.1 := g.2.2.2.2.2.2.2.1 f (by simpa using h)
/-- the first none are fine -/
def l_nil (f : Nat) (A : AS) : List AS := [bif (lfam[f]?).isSome then add_fl A (210 + (62 * f + 0)) else A]
theorem l_nil_ok (f : Nat) (E : AEnv) (A : AS) (σ : pm_S) (g : as_g w0 E A σ) : ∃ B ∈ l_nil f A, as_g w0 E B σ := by
  refine ⟨_, List.mem_singleton_self _, ?_⟩
  cases hs : (lfam[f]?).isSome with
  | false => exact g
  | true =>
    obtain ⟨ρ, g⟩ := g
    obtain ⟨⟨c, o, st, e, B, lc, lk⟩, eq⟩ := Option.isSome_iff_exists.mp hs
    refine ⟨ρ, add_fl_ok g ?_⟩
    rw [fl0_at (by omega) eq]
    exact fun m hm => absurd hm (Nat.not_lt_zero _)
/-- one more -/
def l_c (c o B p : Nat) (A : AS) : Bool := match mem_get A.2.2.2.2.1 c (o + p) with
  | some (.inr (.inl (k, q))) => (match iv_rng A.2.2.2.1 k q with | some (l, u) => decide (0 ≤ l) && decide (u ≤ (B : Int)) | none => false)
  | _ => false
def l_try (f : Nat) (A : AS) : Nat → AS
  | 0 => A
  | p + 1 => match lfam[f]? with
    | some (c, o, st, e, B, lc, lk) => bif (A.2.2.2.2.2.2.1.contains (210 + (62 * f + p)) && Nat.ble (p + st) 60) && (Nat.beq (p % st) 0 && (Nat.blt 0 st && l_c c o B p A)) then add_fl A (210 + (62 * f + (p + st))) else l_try f A p
    | none => A
def l_step (f : Nat) (A : AS) : List AS := [l_try f A 61]
theorem l_try_ok {f : Nat} {E : AEnv} {ρ : Nat → Int} {A : AS} {σ : pm_S} (g : as_r w0 E ρ A σ) : ∀ p : Nat, p ≤ 61 → as_r w0 E ρ (l_try f A p) σ
  | 0, _ => g
  | p + 1, hp => by
    unfold l_try
    split
    · rename_i c o st e B lc lk eq
      cases hb : ((A.2.2.2.2.2.2.1.contains (210 + (62 * f + p)) && Nat.ble (p + st) 60) && (Nat.beq (p % st) 0 && (Nat.blt 0 st && l_c c o B p A))) with
      | false => exact l_try_ok g p (by omega)
      | true =>
        rw [Bool.and_eq_true, Bool.and_eq_true, Bool.and_eq_true, Bool.and_eq_true] at hb
        obtain ⟨⟨b1, b2⟩, b3, b4, b5⟩ := hb
        have h60 := Nat.le_of_ble_eq_true b2
        have h0 := Nat.eq_of_beq_eq_true b3
        have hst : 0 < st := Nat.le_of_ble_eq_true b4
        have hF := fl_of g b1
        rw [fl0_at (by omega) eq, show Nat.beq p 61 = false from by cases hq : Nat.beq p 61 with | false => rfl | true => have := Nat.eq_of_beq_eq_true hq; omega] at hF
        have hF : LP c o st B p σ.2.2.2.1 := hF
        refine add_fl_ok g ?_
        rw [fl0_at (by omega) eq, show Nat.beq (p + st) 61 = false from by cases hq : Nat.beq (p + st) 61 with | false => rfl | true => have := Nat.eq_of_beq_eq_true hq; omega]
        show LP c o st B (p + st) σ.2.2.2.1
        intro m hm
        by_cases hlt : st * m < p
        · exact hF m hlt
        · have hpe : st * m = p := by
            have hd : st ∣ p := Nat.dvd_of_mod_eq_zero h0
            obtain ⟨d, rfl⟩ := hd
            have h1 : st * m < st * (d + 1) := by rw [Nat.mul_add, Nat.mul_one]; exact hm
            have h2 := Nat.lt_of_mul_lt_mul_left h1
            have h3 : ¬ m < d := fun h => hlt ((Nat.mul_lt_mul_left hst).mpr h)
            rw [show m = d by omega]
          rw [hpe]
          unfold l_c at b5
          split at b5
          · rename_i k q hm'
            split at b5
            · rename_i l u r
              simp only [Bool.and_eq_true, decide_eq_true_eq] at b5
              obtain ⟨v, p1, p2⟩ := g.2.2.2.2.2.1 _ _ (mem_get_in hm')
              obtain ⟨x, rfl, p2⟩ := av_long p2
              have := iv_rng_ok g.1 p2 r
              exact ⟨x, p1, by omega, by omega⟩
            · cases b5
          · cases b5
    · exact g
theorem l_step_ok (f : Nat) (E : AEnv) (A : AS) (σ : pm_S) (g : as_g w0 E A σ) : ∃ B ∈ l_step f A, as_g w0 E B σ := by
  obtain ⟨ρ, g⟩ := g
  exact ⟨_, List.mem_singleton_self _, ρ, l_try_ok g 61 (Nat.le_refl _)⟩
/-- all that count -/
def l_dt (f : Nat) (A : AS) : Nat → AS
  | 0 => A
  | p + 1 => match lfam[f]? with
    | some (c, o, st, e, B, lc, lk) => bif A.2.2.2.2.2.2.1.contains (210 + (62 * f + p)) && (match mem_get A.2.2.2.2.1 lc lk with
        | some (.inl (k, q)) => (match iv_rng A.2.2.2.1 k q with | some (_, u) => decide (u ≤ ((p + e : Nat) : Int)) | none => false)
        | _ => false) then add_fl A (210 + (62 * f + 61)) else l_dt f A p
    | none => A
def l_dint (f : Nat) (A : AS) : List AS := [l_dt f A 61]
theorem l_dt_ok {f : Nat} {E : AEnv} {ρ : Nat → Int} {A : AS} {σ : pm_S} (g : as_r w0 E ρ A σ) : ∀ p : Nat, p ≤ 61 → as_r w0 E ρ (l_dt f A p) σ
  | 0, _ => g
  | p + 1, hp => by
    unfold l_dt
    split
    · rename_i c o st e B lc lk eq
      split
      · rename_i k q hm'
        split
        · rename_i l u r
          cases hb : (A.2.2.2.2.2.2.1.contains (210 + (62 * f + p)) && decide (u ≤ ((p + e : Nat) : Int))) with
          | false => exact l_dt_ok g p (by omega)
          | true =>
            rw [Bool.and_eq_true] at hb
            have hu := of_decide_eq_true hb.2
            have hF := fl_of g hb.1
            rw [fl0_at (by omega) eq, show Nat.beq p 61 = false from by cases hq : Nat.beq p 61 with | false => rfl | true => have := Nat.eq_of_beq_eq_true hq; omega] at hF
            have hF : LP c o st B p σ.2.2.2.1 := hF
            refine add_fl_ok g ?_
            rw [fl0_at (by omega) eq]
            intro n m h1 h2
            obtain ⟨v, p1, p2⟩ := g.2.2.2.2.2.1 _ _ (mem_get_in hm')
            dsimp only at p1
            rw [h1] at p1
            cases p1
            have := iv_rng_ok g.1 p2 r
            exact hF m (by omega)
        · rw [Bool.and_false, cond_false]
          exact l_dt_ok g p (by omega)
      · rw [Bool.and_false, cond_false]
        exact l_dt_ok g p (by omega)
    · exact g
theorem l_dint_ok (f : Nat) (E : AEnv) (A : AS) (σ : pm_S) (g : as_g w0 E A σ) : ∃ B ∈ l_dint f A, as_g w0 E B σ := by
  obtain ⟨ρ, g⟩ := g
  exact ⟨_, List.mem_singleton_self _, ρ, l_dt_ok g 61 (Nat.le_refl _)⟩
/-- used: what is known at places is narrowed -/
def l_u1 (c o st e B lc lk m : Nat) (A : AS) : Option AS := match mem_get A.2.2.2.2.1 c (o + st * m), mem_get A.2.2.2.2.1 lc lk with
  | some (.inr (.inl (k, q))), some (.inl (k', q')) => match iv_rng A.2.2.2.1 k' q' with
    | some (l, _) => bif decide (((st * m + e : Nat) : Int) < l) then (match iv_nar A.2.2.2.1 k q 0 (B : Int) with
      | some iv' => some (set_iv A iv')
      | none => none) else some A
    | none => some A
  | _, _ => some A
theorem l_u1_ok {c o st e B lc lk m : Nat} {E : AEnv} {ρ : Nat → Int} {A : AS} {σ : pm_S} (hF : LD c o st e B lc lk σ.2.2.2.1) (g : as_r w0 E ρ A σ) : ∃ C, l_u1 c o st e B lc lk m A = some C ∧ as_r w0 E ρ C σ := by
  unfold l_u1
  split
  · rename_i k q k' q' e1 e2
    split
    · rename_i l u r
      cases hb : decide (((st * m + e : Nat) : Int) < l) with
      | false => exact ⟨A, rfl, g⟩
      | true =>
        have hb := of_decide_eq_true hb
        obtain ⟨v1, p1, q1⟩ := g.2.2.2.2.2.1 _ _ (mem_get_in e1)
        obtain ⟨v2, p2, q2⟩ := g.2.2.2.2.2.1 _ _ (mem_get_in e2)
        obtain ⟨t, rfl, q1⟩ := av_long q1
        obtain ⟨y, rfl, q2⟩ := av_int q2
        have b1 := iv_rng_ok g.1 q2 r
        obtain ⟨x, x1, x2, x3⟩ := hF y m p2 (by omega)
        dsimp only at p1
        rw [x1] at p1
        cases p1
        obtain ⟨iv', e3, e4, e5⟩ := iv_nar_ok (lo := 0) (hi := (B : Int)) g.1 q1 x2 x3
        rw [cond_true, e3]
        exact ⟨_, rfl, as_iv g e4 e5⟩
    · exact ⟨A, rfl, g⟩
  · exact ⟨A, rfl, g⟩
def l_ua (c o st e B lc lk : Nat) : Nat → AS → Option AS
  | 0, A => some A
  | m + 1, A => match l_u1 c o st e B lc lk m A with
    | some C => l_ua c o st e B lc lk m C
    | none => none
theorem l_ua_ok {c o st e B lc lk : Nat} {E : AEnv} {ρ : Nat → Int} {σ : pm_S} (hF : LD c o st e B lc lk σ.2.2.2.1) : ∀ (m : Nat) (A : AS), as_r w0 E ρ A σ → ∃ C, l_ua c o st e B lc lk m A = some C ∧ as_r w0 E ρ C σ
  | 0, A, g => ⟨A, rfl, g⟩
  | m + 1, A, g => by
    obtain ⟨C, e1, gC⟩ := l_u1_ok (m := m) hF g
    obtain ⟨D, e2, gD⟩ := l_ua_ok hF m C gC
    exact ⟨D, by unfold l_ua; rw [e1]; exact e2, gD⟩
def l_use (f : Nat) (A : AS) : List AS := bif A.2.2.2.2.2.2.1.contains (210 + (62 * f + 61)) then (match lfam[f]? with
  | some (c, o, st, e, B, lc, lk) => (l_ua c o st e B lc lk 60 A).toList
  | none => [A]) else [A]
theorem l_use_ok (f : Nat) (E : AEnv) (A : AS) (σ : pm_S) (g : as_g w0 E A σ) : ∃ B ∈ l_use f A, as_g w0 E B σ := by
  unfold l_use
  cases hc : A.2.2.2.2.2.2.1.contains (210 + (62 * f + 61)) with
  | false => exact ⟨A, List.mem_singleton_self _, g⟩
  | true =>
    rw [cond_true]
    split
    · rename_i c o st e B lc lk eq
      obtain ⟨ρ, g⟩ := g
      have hF := fl_of g hc
      rw [fl0_at (by omega) eq] at hF
      obtain ⟨C, e1, gC⟩ := l_ua_ok hF 60 A g
      rw [e1]
      exact ⟨C, List.mem_singleton_self _, ρ, gC⟩
    · exact ⟨A, List.mem_singleton_self _, g⟩
