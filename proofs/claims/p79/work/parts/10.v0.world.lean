/-! the world: the heap's shape behind the constructors (written by emit.py) -/
def cI (a b : Int) : CV := .inl (a, b)
def cL (a b : Int) : CV := .inr (.inl (a, b))
def cR (a : Nat) : CV := .inr (.inr (.inl a))
def cO (k : Nat) : CV := .inr (.inr (.inr (.inl k)))
def cN : CV := .inr (.inr (.inr (.inr ())))
def hs0 : List AE := [.inr (.inr (.inr (8, [.inr (.inr (.inl 1)), .inr (.inr (.inl 3)), .inr (.inr (.inl 15)), .inr (.inr (.inl 24)), .inr (.inr (.inl 52)), .inr (.inr (.inl 53)), .inr (.inr (.inl 62)), .inr (.inr (.inl 64)), .inr (.inr (.inl 70)), .inr (.inr (.inl 72)), .inr (.inr (.inl 75)), .inr (.inr (.inl 76))]))), .inr (.inr (.inr (6, [.inr (.inr (.inl 2)), .inl (0, 500)]))), .inl (1, 500, [((-128), 127)]), .inr (.inr (.inr (2, [.inr (.inr (.inl 4)), .inl (0, 3), .inl ((-1), 500), .inr (.inr (.inl 1)), .inr (.inr (.inl 13)), .inl (0, 4), .inl (0, 500), .inl (0, 500), .inl ((-2147483648), 2147483647), .inl (0, 99)]))), .inr (.inr (.inr (5, [.inl (0, 8), .inl (0, 3), .inl (0, 10), .inl ((-2147483648), 2147483647), .inl (0, 8), .inl (0, 8), .inl (0, 20), .inr (.inr (.inl 5)), .inr (.inr (.inl 6)), .inr (.inr (.inl 7)), .inr (.inr (.inl 8)), .inr (.inr (.inl 9)), .inr (.inr (.inl 10)), .inr (.inr (.inl 11)), .inr (.inr (.inl 12))]))), .inl (0, 8, [(0, 8)]), .inl (0, 8, [(0, 8)]), .inl (0, 8, [(0, 99)]), .inl (0, 8, [(0, 9)]), .inl (0, 8, [(0, 9)]), .inl (0, 20, [(0, 7)]), .inl (0, 20, [(0, 8)]), .inl (2, 20, [(0, 1)]), .inr (.inr (.inr (0, [.inr (.inr (.inl 14)), .inl (0, 9)]))), .inl (0, 10, [(0, 511)]), .inr (.inr (.inr (5, [.inl (0, 8), .inl (0, 3), .inl (0, 10), .inl ((-2147483648), 2147483647), .inl (0, 8), .inl (0, 8), .inl (0, 20), .inr (.inr (.inl 16)), .inr (.inr (.inl 17)), .inr (.inr (.inl 18)), .inr (.inr (.inl 19)), .inr (.inr (.inl 20)), .inr (.inr (.inl 21)), .inr (.inr (.inl 22)), .inr (.inr (.inl 23))]))), .inl (0, 8, [(0, 8)]), .inl (0, 8, [(0, 8)]), .inl (0, 8, [(0, 99)]), .inl (0, 8, [(0, 9)]), .inl (0, 8, [(0, 9)]), .inl (0, 20, [(0, 7)]), .inl (0, 20, [(0, 8)]), .inl (2, 20, [(0, 1)]), .inr (.inr (.inl (4, [some 25, some 34, some 43]))), .inr (.inr (.inr (5, [.inl (0, 8), .inl (0, 3), .inl (0, 10), .inl ((-2147483648), 2147483647), .inl (0, 8), .inl (0, 8), .inl (0, 20), .inr (.inr (.inl 26)), .inr (.inr (.inl 27)), .inr (.inr (.inl 28)), .inr (.inr (.inl 29)), .inr (.inr (.inl 30)), .inr (.inr (.inl 31)), .inr (.inr (.inl 32)), .inr (.inr (.inl 33))]))), .inl (0, 8, [(0, 8)]), .inl (0, 8, [(0, 8)]), .inl (0, 8, [(0, 99)]), .inl (0, 8, [(0, 9)]), .inl (0, 8, [(0, 9)]), .inl (0, 20, [(0, 7)]), .inl (0, 20, [(0, 8)]), .inl (2, 20, [(0, 1)]), .inr (.inr (.inr (5, [.inl (0, 8), .inl (0, 3), .inl (0, 10), .inl ((-2147483648), 2147483647), .inl (0, 8), .inl (0, 8), .inl (0, 20), .inr (.inr (.inl 35)), .inr (.inr (.inl 36)), .inr (.inr (.inl 37)), .inr (.inr (.inl 38)), .inr (.inr (.inl 39)), .inr (.inr (.inl 40)), .inr (.inr (.inl 41)), .inr (.inr (.inl 42))]))), .inl (0, 8, [(0, 8)]), .inl (0, 8, [(0, 8)]), .inl (0, 8, [(0, 99)]), .inl (0, 8, [(0, 9)]), .inl (0, 8, [(0, 9)]), .inl (0, 20, [(0, 7)]), .inl (0, 20, [(0, 8)]), .inl (2, 20, [(0, 1)]), .inr (.inr (.inr (5, [.inl (0, 8), .inl (0, 3), .inl (0, 10), .inl ((-2147483648), 2147483647), .inl (0, 8), .inl (0, 8), .inl (0, 20), .inr (.inr (.inl 44)), .inr (.inr (.inl 45)), .inr (.inr (.inl 46)), .inr (.inr (.inl 47)), .inr (.inr (.inl 48)), .inr (.inr (.inl 49)), .inr (.inr (.inl 50)), .inr (.inr (.inl 51))]))), .inl (0, 8, [(0, 8)]), .inl (0, 8, [(0, 8)]), .inl (0, 8, [(0, 99)]), .inl (0, 8, [(0, 9)]), .inl (0, 8, [(0, 9)]), .inl (0, 20, [(0, 7)]), .inl (0, 20, [(0, 8)]), .inl (2, 20, [(0, 1)]), .inl (2, 3, [(0, 1)]), .inr (.inr (.inl (5, [some 54, some 56, some 58, some 60]))), .inr (.inr (.inr (4, [.inr (.inr (.inl 55)), .inl (0, 1), .inl (0, 3), .inl (0, 60)]))), .inr (.inl 60), .inr (.inr (.inr (4, [.inr (.inr (.inl 57)), .inl (0, 1), .inl (0, 3), .inl (0, 60)]))), .inr (.inl 60), .inr (.inr (.inr (4, [.inr (.inr (.inl 59)), .inl (0, 1), .inl (0, 3), .inl (0, 60)]))), .inr (.inl 60), .inr (.inr (.inr (4, [.inr (.inr (.inl 61)), .inl (0, 1), .inl (0, 3), .inl (0, 60)]))), .inr (.inl 60), .inr (.inr (.inr (1, [.inr (.inr (.inl 63)), .inl (0, 511), .inl (0, 255), .inl ((-2147483648), 2147483647)]))), .inl (0, 8, [(0, 9)]), .inr (.inr (.inr (7, [.inr (.inr (.inl 65)), .inr (.inr (.inl 66)), .inr (.inr (.inl 67)), .inr (.inr (.inl 68)), .inr (.inr (.inl 69)), .inl (0, 9), .inl (0, 9)]))), .inl (0, 9, [(0, 8)]), .inl (0, 9, [(0, 8)]), .inl (0, 9, [((-2147483648), 2147483647)]), .inl (0, 9, [(0, 511)]), .inl (0, 9, [(0, 8)]), .inr (.inr (.inr (0, [.inr (.inr (.inl 71)), .inl (0, 9)]))), .inl (0, 10, [(0, 511)]), .inr (.inr (.inr (3, [.inr (.inr (.inl 73)), .inr (.inr (.inl 74))]))), .inl (0, 256, [(0, 511)]), .inl (0, 256, [((-2147483648), 2147483647)]), .inl (0, 8, [(0, 9)]), .inl (0, 64, [(0, 9)]), .inr (.inr (.inr (9, [.inl (0, 0), .inr (.inr (.inl 78)), .inr (.inr (.inl 79)), .inr (.inr (.inl 80)), .inr (.inr (.inl 81)), .inr (.inr (.inl 82)), .inl (0, 500), .inl (0, 500), .inl (0, 4), .inl (0, 500), .inl ((-2147483648), 2147483647), .inr (.inl ()), .inl (0, 3), .inl ((-1), 500), .inl (0, 3), .inl ((-1), 500), .inr (.inr (.inl 83)), .inr (.inr (.inl 84)), .inr (.inr (.inl 85)), .inr (.inr (.inl 86)), .inr (.inr (.inl 87)), .inr (.inr (.inl 88)), .inl (0, 3), .inl ((-2147483648), 2147483647), .inr (.inr (.inl 89)), .inr (.inr (.inl 90)), .inr (.inr (.inl 91)), .inl (0, 255), .inr (.inr (.inl 92)), .inr (.inr (.inl 93)), .inr (.inr (.inl 94)), .inr (.inr (.inl 95)), .inr (.inr (.inl 96)), .inr (.inr (.inl 97)), .inr (.inr (.inl 98)), .inl ((-2147483648), 2147483647), .inl (0, 9), .inr (.inr (.inl 99)), .inr (.inr (.inl 100)), .inl (0, 6), .inr (.inr (.inl 101)), .inl (0, 255), .inl ((-1), 7), .inl ((-2147483648), 2147483647), .inr (.inr (.inl 102))]))), .inl (0, 4, [((-1), 3)]), .inl (0, 4, [(0, 60)]), .inr (.inl 240), .inr (.inl 60), .inl (1, 500, [((-128), 127)]), .inl (0, 5, [((-2147483648), 2147483647)]), .inl (0, 30, [(0, 8), (0, 3), (0, 10), (0, 8), (0, 8), (0, 20)]), .inl (0, 80, [(0, 8), (0, 99)]), .inl (0, 80, [(0, 9)]), .inl (0, 300, [(0, 1), (0, 7), (0, 8)]), .inl (2, 3, [(0, 1)]), .inl (0, 8, [(0, 8)]), .inl (0, 10, [((-1), 7)]), .inl (0, 8, [((-1), 9)]), .inl (0, 9, [(0, 8)]), .inl (0, 9, [(0, 8)]), .inl (0, 9, [((-2147483648), 2147483647)]), .inl (0, 8, [(0, 8)]), .inl (0, 18, [(0, 8)]), .inl (0, 8, [((-2147483648), 2147483647)]), .inl (0, 9, [(0, 8)]), .inl (0, 5, [(0, 4)]), .inl (0, 6, [(0, 1)]), .inl (0, 10, [(0, 9)]), .inl (0, 72, [((-1), 9)])]
def fam : List (Nat × Nat × Nat × Nat × Nat) := [(12, 0, 11, 0, 1), (23, 0, 22, 0, 1), (33, 0, 32, 0, 1), (42, 0, 41, 0, 1), (51, 0, 50, 0, 1), (87, 0, 87, 2, 3), (87, 60, 87, 62, 3), (87, 120, 87, 122, 3), (87, 180, 87, 182, 3), (87, 240, 87, 242, 3)]
/-- acts: where a car is traded, the other one is a car (but for one act) -/
def FA (T a G b st j : Nat) (h : pm_H) : Prop := ∀ i, i < 20 → i ≠ j → ∀ t g : Int32, ld h T (a + st * i) = some (.int t) → ld h G (b + st * i) = some (.int g) → ¬ t.toInt = 0 → g.toInt ≤ 7
def fl1 (i : Nat) (h : pm_H) : Prop := match fam[i / 21]? with
  | some (T, a, G, b, st) => FA T a G b st (i % 21) h
  | none => True
def sp_of (c o st j : Nat) : List Rng := bif Nat.ble 20 j then [(c, o, o + st * 19)] else (bif Nat.beq j 0 then [] else [(c, o, o + st * (j - 1))]) ++ (bif Nat.blt j 19 then [(c, o + st * (j + 1), o + st * 19)] else [])
def sp1 (i : Nat) : List Rng := match fam[i / 21]? with
  | some (T, a, G, b, st) => sp_of T a st (i % 21) ++ sp_of G b st (i % 21)
  | none => []
theorem rg_in_one {c l u k : Nat} (h1 : l ≤ k) (h2 : k ≤ u) {S : List Rng} (hm : (c, l, u) ∈ S) : rg_in S c k = true :=
  List.any_eq_true.mpr ⟨(c, l, u), hm, by rw [Nat.beq_refl, Nat.ble_eq_true_of_le h1, Nat.ble_eq_true_of_le h2]; rfl⟩
theorem sp_of_in {c o st j i : Nat} (hi : i < 20) (hj : i ≠ j) : ∃ l u, (c, l, u) ∈ sp_of c o st j ∧ l ≤ o + st * i ∧ o + st * i ≤ u := by
  have h19 : st * i ≤ st * 19 := Nat.mul_le_mul_left st (by omega)
  unfold sp_of
  cases h20 : Nat.ble 20 j with
  | true => exact ⟨o, o + st * 19, List.mem_singleton_self _, by omega, by omega⟩
  | false =>
    by_cases hlt : i < j
    · have hb : Nat.beq j 0 = false := by
        cases hb : Nat.beq j 0 with
        | false => rfl
        | true => have := Nat.eq_of_beq_eq_true hb; omega
      have hm : st * i ≤ st * (j - 1) := Nat.mul_le_mul_left st (by omega)
      refine ⟨o, o + st * (j - 1), ?_, by omega, by omega⟩
      rw [hb]
      exact List.mem_append_left _ (List.mem_singleton_self _)
    · have hm : st * (j + 1) ≤ st * i := Nat.mul_le_mul_left st (by omega)
      have hb : Nat.blt j 19 = true := Nat.ble_eq_true_of_le (show j + 1 ≤ 19 by omega)
      refine ⟨o + st * (j + 1), o + st * 19, ?_, by omega, by omega⟩
      rw [hb]
      exact List.mem_append_right _ (List.mem_singleton_self _)
theorem fl1_fr (i : Nat) (h h' : pm_H) (_ : hs_g hs0 h) (_ : hs_g hs0 h') (hf : ∀ a k, rg_in (sp1 i) a k = true → ld h' a k = ld h a k) (hi : fl1 i h) : fl1 i h' := by
  unfold fl1 sp1 at *
  split
  · rename_i T a G b st e
    rw [e] at hf hi
    dsimp only at hf hi
    intro q hq hj t g h1 h2 h3
    obtain ⟨l1, u1, m1, x1, y1⟩ := sp_of_in (c := T) (o := a) (st := st) hq hj
    obtain ⟨l2, u2, m2, x2, y2⟩ := sp_of_in (c := G) (o := b) (st := st) hq hj
    rw [hf T _ (rg_in_one x1 y1 (List.mem_append_left _ m1))] at h1
    rw [hf G _ (rg_in_one x2 y2 (List.mem_append_right _ m2))] at h2
    exact hi q hq hj t g h1 h2 h3
  · trivial
def w0 : AW := ⟨(hs0, fl1, sp1), fl1_fr⟩
theorem fl1_at {f j T a G b st : Nat} {h : pm_H} (hj : j < 21) (e : fam[f]? = some (T, a, G, b, st)) : fl1 (21 * f + j) h = FA T a G b st j h := by
  unfold fl1
  rw [show (21 * f + j) / 21 = f by omega, show (21 * f + j) % 21 = j by omega, e]
def h_weak (f : Nat) (A : AS) : List AS := [bif A.2.2.2.2.2.2.1.contains (21 * f + 20) then set_fl A ((List.range 20).map (fun j => 21 * f + j) ++ A.2.2.2.2.2.2.1) else A]
theorem h_weak_ok (f : Nat) (E : AEnv) (A : AS) (σ : pm_S) (g : as_g w0 E A σ) : ∃ B ∈ h_weak f A, as_g w0 E B σ := by
  refine ⟨_, List.mem_singleton_self _, ?_⟩
  cases hc : A.2.2.2.2.2.2.1.contains (21 * f + 20) with
  | false => exact g
  | true =>
    obtain ⟨ρ, g⟩ := g
    have hm : 21 * f + 20 ∈ A.2.2.2.2.2.2.1 := by simpa using hc
    have h20 : fl1 (21 * f + 20) σ.2.2.2.1 := g.2.2.2.2.2.2.2.1 _ hm
    refine ⟨ρ, set_fl_ok g (fun i hi => ?_)⟩
    cases List.mem_append.mp hi with
    | inr hi => exact g.2.2.2.2.2.2.2.1 i hi
    | inl hi =>
      obtain ⟨j, hj, rfl⟩ := List.mem_map.mp hi
      have hj : j < 20 := List.mem_range.mp hj
      show fl1 (21 * f + j) σ.2.2.2.1
      cases e : fam[f]? with
      | none => unfold fl1; rw [show (21 * f + j) / 21 = f by omega, e]; trivial
      | some q =>
        obtain ⟨T, a, G, b, st⟩ := q
        rw [fl1_at (by omega) e]
        rw [fl1_at (by omega) e] at h20
        exact fun i h1 _ => h20 i h1 (by omega)
def use1 (T a G b st i : Nat) (A : AS) : Option AS := match mem_get A.2.2.2.2.1 T (a + st * i), mem_get A.2.2.2.2.1 G (b + st * i) with
  | some (.inl (k, o)), some (.inl (k', o')) => match iv_rng A.2.2.2.1 k o with
    | some (l, u) => bif decide (0 < l) || decide (u < 0) then (match iv_nar A.2.2.2.1 k' o' (-2147483648) 7 with
      | some iv' => some (set_iv A iv')
      | none => none) else some A
    | none => some A
  | _, _ => some A
theorem use1_ok {T a G b st i : Nat} {E : AEnv} {ρ : Nat → Int} {A : AS} {σ : pm_S} (hi : i < 20) (hF : FA T a G b st 20 σ.2.2.2.1) (g : as_r w0 E ρ A σ) : ∃ B, use1 T a G b st i A = some B ∧ as_r w0 E ρ B σ := by
  unfold use1
  split
  · rename_i k o k' o' e1 e2
    split
    · rename_i l u r
      cases hb : (decide (0 < l) || decide (u < 0)) with
      | false => exact ⟨A, rfl, g⟩
      | true =>
        simp only [Bool.or_eq_true, decide_eq_true_eq] at hb
        obtain ⟨v1, p1, q1⟩ := g.2.2.2.2.2.1 _ _ (mem_get_in e1)
        obtain ⟨v2, p2, q2⟩ := g.2.2.2.2.2.1 _ _ (mem_get_in e2)
        obtain ⟨t, rfl, q1⟩ := av_int q1
        obtain ⟨y, rfl, q2⟩ := av_int q2
        have b1 := iv_rng_ok g.1 q1 r
        have h7 := hF i hi (by omega) t y p1 p2 (by omega)
        obtain ⟨iv', e3, e4, e5⟩ := iv_nar_ok (lo := -2147483648) (hi := 7) g.1 q2 (ai_lo y) h7
        rw [cond_true, e3]
        exact ⟨_, rfl, as_iv g e4 e5⟩
    · exact ⟨A, rfl, g⟩
  · exact ⟨A, rfl, g⟩
def useall (T a G b st : Nat) : Nat → AS → Option AS
  | 0, A => some A
  | i + 1, A => match use1 T a G b st i A with
    | some B => useall T a G b st i B
    | none => none
theorem useall_ok {T a G b st : Nat} {E : AEnv} {ρ : Nat → Int} {σ : pm_S} (hF : FA T a G b st 20 σ.2.2.2.1) : ∀ (i : Nat) (A : AS), i ≤ 20 → as_r w0 E ρ A σ → ∃ B, useall T a G b st i A = some B ∧ as_r w0 E ρ B σ
  | 0, A, _, g => ⟨A, rfl, g⟩
  | i + 1, A, hi, g => by
    obtain ⟨B, e, gB⟩ := use1_ok (i := i) (by omega) hF g
    obtain ⟨C, e2, gC⟩ := useall_ok hF i B (by omega) gB
    exact ⟨C, by unfold useall; rw [e]; exact e2, gC⟩
def h_use (f : Nat) (A : AS) : List AS := bif A.2.2.2.2.2.2.1.contains (21 * f + 20) then (match fam[f]? with
  | some (T, a, G, b, st) => (useall T a G b st 20 A).toList
  | none => [A]) else [A]
theorem h_use_ok (f : Nat) (E : AEnv) (A : AS) (σ : pm_S) (g : as_g w0 E A σ) : ∃ B ∈ h_use f A, as_g w0 E B σ := by
  unfold h_use
  cases hc : A.2.2.2.2.2.2.1.contains (21 * f + 20) with
  | false => exact ⟨A, List.mem_singleton_self _, g⟩
  | true =>
    rw [cond_true]
    split
    · rename_i T a G b st e
      obtain ⟨ρ, g⟩ := g
      have hm : 21 * f + 20 ∈ A.2.2.2.2.2.2.1 := by simpa using hc
      have h20 : fl1 (21 * f + 20) σ.2.2.2.1 := g.2.2.2.2.2.2.2.1 _ hm
      rw [fl1_at (by omega) e] at h20
      obtain ⟨B, e1, gB⟩ := useall_ok h20 20 A (Nat.le_refl _) g
      rw [e1]
      exact ⟨B, List.mem_singleton_self _, ρ, gB⟩
    · exact ⟨A, List.mem_singleton_self _, g⟩
def int_c (T a G b st j : Nat) (A : AS) : Bool := (match mem_get A.2.2.2.2.1 T (a + st * j) with
  | some (.inl (k, o)) => (match iv_rng A.2.2.2.1 k o with | some (l, u) => decide (l = 0) && decide (u = 0) | none => false)
  | _ => false) || (match mem_get A.2.2.2.2.1 G (b + st * j) with
  | some (.inl (k, o)) => (match iv_rng A.2.2.2.1 k o with | some (_, u) => decide (u ≤ 7) | none => false)
  | _ => false)
theorem int_c_ok {T a G b st j : Nat} {E : AEnv} {ρ : Nat → Int} {A : AS} {σ : pm_S} (g : as_r w0 E ρ A σ) (hF : FA T a G b st j σ.2.2.2.1) (h : int_c T a G b st j A = true) : FA T a G b st 20 σ.2.2.2.1 := by
  intro i hi _ t y h1 h2 h3
  by_cases hj : i = j
  · subst hj
    unfold int_c at h
    rw [Bool.or_eq_true] at h
    cases h with
    | inl h =>
      split at h
      · rename_i k o e
        split at h
        · rename_i l u r
          simp only [Bool.and_eq_true, decide_eq_true_eq] at h
          obtain ⟨v, p, q⟩ := g.2.2.2.2.2.1 _ _ (mem_get_in e)
          dsimp only at p
          rw [h1] at p
          cases p
          have := iv_rng_ok g.1 q r
          omega
        · cases h
      · cases h
    | inr h =>
      split at h
      · rename_i k o e
        split at h
        · rename_i l u r
          have h := of_decide_eq_true h
          obtain ⟨v, p, q⟩ := g.2.2.2.2.2.1 _ _ (mem_get_in e)
          dsimp only at p
          rw [h2] at p
          cases p
          have := iv_rng_ok g.1 q r
          omega
        · cases h
      · cases h
  · exact hF i hi hj t y h1 h2 h3
def h_intro (f : Nat) (A : AS) : List AS := bif A.2.2.2.2.2.2.1.contains (21 * f + 20) then [A] else (match fam[f]? with
  | some (T, a, G, b, st) => [bif (List.range 20).any (fun j => A.2.2.2.2.2.2.1.contains (21 * f + j) && int_c T a G b st j A) then set_fl A ((21 * f + 20) :: A.2.2.2.2.2.2.1) else A]
  | none => [A])
theorem h_intro_ok (f : Nat) (E : AEnv) (A : AS) (σ : pm_S) (g : as_g w0 E A σ) : ∃ B ∈ h_intro f A, as_g w0 E B σ := by
  unfold h_intro
  cases hc : A.2.2.2.2.2.2.1.contains (21 * f + 20) with
  | true => exact ⟨A, List.mem_singleton_self _, g⟩
  | false =>
    rw [cond_false]
    split
    · rename_i T a G b st e
      refine ⟨_, List.mem_singleton_self _, ?_⟩
      cases hb : (List.range 20).any (fun j => A.2.2.2.2.2.2.1.contains (21 * f + j) && int_c T a G b st j A) with
      | false => exact g
      | true =>
        obtain ⟨ρ, g⟩ := g
        obtain ⟨j, hj, hp⟩ := List.any_eq_true.mp hb
        have hj : j < 20 := List.mem_range.mp hj
        rw [Bool.and_eq_true] at hp
        have hm : 21 * f + j ∈ A.2.2.2.2.2.2.1 := by have := hp.1; simpa using this
        have hF : fl1 (21 * f + j) σ.2.2.2.1 := g.2.2.2.2.2.2.2.1 _ hm
        rw [fl1_at (by omega) e] at hF
        have h20 := int_c_ok g hF hp.2
        refine ⟨ρ, set_fl_ok g (fun i hi => ?_)⟩
        cases List.mem_cons.mp hi with
        | inl e' =>
          subst e'
          show fl1 (21 * f + 20) σ.2.2.2.1
          rw [fl1_at (by omega) e]
          exact h20
        | inr hi => exact g.2.2.2.2.2.2.2.1 i hi
    · exact ⟨A, List.mem_singleton_self _, g⟩
/-- a truth value is told apart -/
def h_spl2 (_ : Nat) (A : AS) : List AS := match A.2.2.1 with
  | .inl (k, o) :: _ => match iv_rng A.2.2.2.1 k o with
    | some (l, u) => bif decide (l = 0) && decide (u = 1) then (match as_split A with | some As => As | none => [A]) else [A]
    | none => [A]
  | _ => [A]
theorem h_spl2_ok (f : Nat) (E : AEnv) (A : AS) (σ : pm_S) (g : as_g w0 E A σ) : ∃ B ∈ h_spl2 f A, as_g w0 E B σ := by
  have self : ∃ B ∈ [A], as_g w0 E B σ := ⟨A, List.mem_singleton_self _, g⟩
  unfold h_spl2
  split
  · split
    · rename_i l u r
      cases hb : (decide (l = 0) && decide (u = 1)) with
      | false => exact self
      | true =>
        rw [cond_true]
        split
        · rename_i As e
          exact as_split_ok g e
        · exact self
    · exact self
  · exact self
