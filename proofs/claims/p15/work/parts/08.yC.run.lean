/-! THE EXECUTOR (second writing), part 12: rows with their cover, ranks, cuts -/
/-- a row: the step and what covers it -/
noncomputable abbrev ARow (w : AW) : Type := { q : (pm_S → Option pm_S) × (AS → Option (List AS)) // ai_ok w q.1 q.2 }
noncomputable abbrev AR (w : AW) : Type := ARow w ⊕ ((Nat × Nat × Option Nat × Nat × Nat) ⊕ Nat)
noncomputable def ar_cv {w : AW} (a : AR w) : pm_I := match a with
  | .inl r => .inl r.1.1
  | .inr (.inl c) => .inr (.inl c)
  | .inr (.inr k) => .inr (.inr k)
noncomputable def ar_tab {w : AW} (t : List (Nat × AR w)) : List (Nat × pm_I) := t.map (fun q => (q.1, ar_cv q.2))
theorem ar_at {w : AW} {pc : Nat} {a : AR w} : ∀ {t : List (Nat × AR w)}, pm_at t pc = some a → pm_at (ar_tab t) pc = some (ar_cv a)
  | [], h => by cases h
  | q :: t, h => by
    unfold ar_tab
    simp only [List.map_cons]
    unfold pm_at at h ⊢
    cases hk : Nat.beq q.1 pc with
    | true =>
      rw [hk] at h
      simp only [hk, cond_true] at h ⊢
      exact congrArg some (congrArg ar_cv (Option.some.inj h))
    | false =>
      rw [hk] at h
      simp only [hk, cond_false] at h ⊢
      exact ar_at (t := t) h
noncomputable def rk_e (K : Nat) : Nat → List Nat → Nat
  | 0, _ => 0
  | _ + 1, [] => 0
  | d + 1, a :: l => a * K ^ d + rk_e K d l
theorem rk_e_lt {K : Nat} (hK : 0 < K) : ∀ (d : Nat) (l : List Nat), (∀ a ∈ l, a < K) → rk_e K d l < K ^ d
  | 0, _, _ => Nat.one_pos
  | d + 1, [], _ => Nat.pow_pos hK
  | d + 1, a :: l, h => by
    have h1 := rk_e_lt hK d l (fun b hb => h b (List.mem_cons_of_mem _ hb))
    have h2 : a + 1 ≤ K := h a List.mem_cons_self
    have h3 : (a + 1) * K ^ d ≤ K * K ^ d := Nat.mul_le_mul_right _ h2
    have h4 : (a + 1) * K ^ d = a * K ^ d + K ^ d := Nat.succ_mul a (K ^ d)
    have h5 : K ^ (d + 1) = K * K ^ d := by rw [Nat.pow_succ, Nat.mul_comm]
    show a * K ^ d + rk_e K d l < K ^ (d + 1)
    omega
noncomputable def rk_lt : Nat → List Nat → List Nat → Prop
  | d + 1, a :: l, b :: m => a < b ∨ (a = b ∧ rk_lt d l m)
  | _, _, _ => False
theorem rk_e_mono {K : Nat} (hK : 0 < K) : ∀ (d : Nat) (l m : List Nat), (∀ a ∈ l, a < K) → rk_lt d l m → rk_e K d l < rk_e K d m
  | 0, _, _, _, h => h.elim
  | _ + 1, [], _, _, h => h.elim
  | _ + 1, _ :: _, [], _, h => h.elim
  | d + 1, a :: l, b :: m, hl, h => by
    have hl' : ∀ c ∈ l, c < K := fun c hc => hl c (List.mem_cons_of_mem _ hc)
    show a * K ^ d + rk_e K d l < b * K ^ d + rk_e K d m
    cases h with
    | inl h =>
      have h1 := rk_e_lt hK d l hl'
      have h3 : (a + 1) * K ^ d ≤ b * K ^ d := Nat.mul_le_mul_right _ h
      have h4 : (a + 1) * K ^ d = a * K ^ d + K ^ d := Nat.succ_mul a (K ^ d)
      omega
    | inr h =>
      obtain ⟨rfl, h⟩ := h
      have := rk_e_mono hK d l m hl' h
      omega
/-- a rank: fixed numbers, and numbers that count up (true) or down: locals, or what lies at a place -/
noncomputable abbrev RK : Type := List (Nat ⊕ ((Nat ⊕ (Nat × Nat)) × Bool))
noncomputable def rk_val (cl : List (Nat × Value)) (h : pm_H) (q : Nat ⊕ (Nat × Nat)) : Option Value := match q with
  | .inl i => pm_get cl i
  | .inr (a, k) => ld h a k
noncomputable def rk_num (v : Option Value) (up : Bool) : Nat := match v with
  | some (.int x) => bif up then (2147483648 - x.toInt).toNat else (x.toInt + 2147483648).toNat
  | _ => 0
noncomputable def rk_one (cl : List (Nat × Value)) (h : pm_H) (q : Nat ⊕ ((Nat ⊕ (Nat × Nat)) × Bool)) : Nat := match q with
  | .inl n => n
  | .inr (v, up) => rk_num (rk_val cl h v) up
noncomputable def rk_v (cl : List (Nat × Value)) (h : pm_H) (r : RK) : List Nat := r.map (rk_one cl h)
noncomputable def rk_small (r : RK) : Bool := r.all (fun q => match q with | .inl n => Nat.blt n 8589934592 | .inr _ => true)
theorem rk_v_lt {cl : List (Nat × Value)} {h : pm_H} {r : RK} (hr : rk_small r = true) : ∀ a ∈ rk_v cl h r, a < 8589934592 := by
  intro a ha
  obtain ⟨q, hq, rfl⟩ := List.mem_map.mp ha
  have h1 := List.all_eq_true.mp hr q hq
  cases q with
  | inl n => exact Nat.le_of_ble_eq_true h1
  | inr p =>
    obtain ⟨v, up⟩ := p
    show rk_num (rk_val cl h v) up < _
    unfold rk_num
    split
    · rename_i x e
      have h2 := ai_lo x
      have h3 := ai_hi x
      cases up with
      | true => show (2147483648 - x.toInt).toNat < _; omega
      | false => show (x.toInt + 2147483648).toNat < _; omega
    · omega
noncomputable def rk_av (lv : List (Nat × AV)) (m : Mem) (q : Nat ⊕ (Nat × Nat)) : Option AV := match q with
  | .inl i => as_get lv i
  | .inr (a, k) => mem_get m a k
/-- how much more the second is -/
noncomputable def rk_dif (a b : Option AV) : Option Int := match a, b with
  | some (.inl (none, o)), some (.inl (none, p)) => some (p - o)
  | some (.inl (some k, o)), some (.inl (some j, p)) => bif Nat.beq k j then some (p - o) else none
  | _, _ => none
/-- the rank of the target is smaller -/
noncomputable def rk_chk (l0 : List (Nat × AV)) (m0 : Mem) (l1 : List (Nat × AV)) (m1 : Mem) : Nat → RK → RK → Bool
  | d + 1, .inl a :: r, .inl b :: q => Nat.blt a b || (Nat.beq a b && rk_chk l0 m0 l1 m1 d r q)
  | d + 1, .inr (v, u) :: r, .inr (v', u') :: q => decide (v = v') && ((u == u') && (match rk_dif (rk_av l0 m0 v) (rk_av l1 m1 v) with
      | some o => (bif u then decide (0 < o) else decide (o < 0)) || (decide (o = 0) && rk_chk l0 m0 l1 m1 d r q)
      | none => false))
  | _, _, _ => false
theorem rk_av_ok {n : Nat} {ρ : Nat → Int} {lv : List (Nat × AV)} {m : Mem} {cl : List (Nat × Value)} {h : pm_H} (h1 : ∀ i a, (i, a) ∈ lv → ∃ v, pm_get cl i = some v ∧ av_g n ρ a v) (h2 : ∀ q a, (q, a) ∈ m → ∃ v, ld h q.1 q.2 = some v ∧ av_g n ρ a v) {q : Nat ⊕ (Nat × Nat)} {a : AV} (e : rk_av lv m q = some a) : ∃ v, rk_val cl h q = some v ∧ av_g n ρ a v := by
  cases q with
  | inl i => exact h1 i a (as_get_in e)
  | inr p => exact h2 (p.1, p.2) a (mem_get_in e)
theorem rk_chk_ok {n0 n : Nat} {ρ0 ρ : Nat → Int} {l0 l1 : List (Nat × AV)} {m0 m1 : Mem} {c0 c1 : List (Nat × Value)} {h0 h1 : pm_H} (hρ : ∀ k, k < n0 → ρ k = ρ0 k)
    (a0 : ∀ i a, (i, a) ∈ l0 → ∃ v, pm_get c0 i = some v ∧ av_g n0 ρ0 a v) (b0 : ∀ q a, (q, a) ∈ m0 → ∃ v, ld h0 q.1 q.2 = some v ∧ av_g n0 ρ0 a v)
    (a1 : ∀ i a, (i, a) ∈ l1 → ∃ v, pm_get c1 i = some v ∧ av_g n ρ a v) (b1 : ∀ q a, (q, a) ∈ m1 → ∃ v, ld h1 q.1 q.2 = some v ∧ av_g n ρ a v) :
    ∀ (d : Nat) (r q : RK), rk_chk l0 m0 l1 m1 d r q = true → rk_lt d (rk_v c1 h1 r) (rk_v c0 h0 q)
  | 0, _, _, h => by unfold rk_chk at h; cases h
  | d + 1, [], _, h => by unfold rk_chk at h; cases h
  | d + 1, _ :: _, [], h => by unfold rk_chk at h; split at h <;> first | cases h | contradiction
  | d + 1, .inl a :: r, .inl b :: q, h => by
    unfold rk_chk at h
    rw [Bool.or_eq_true] at h
    cases h with
    | inl h => exact .inl (Nat.le_of_ble_eq_true h)
    | inr h =>
      rw [Bool.and_eq_true] at h
      exact .inr ⟨Nat.eq_of_beq_eq_true h.1, rk_chk_ok hρ a0 b0 a1 b1 d r q h.2⟩
  | d + 1, .inl _ :: _, .inr _ :: _, h => by unfold rk_chk at h; cases h
  | d + 1, .inr _ :: _, .inl _ :: _, h => by unfold rk_chk at h; cases h
  | d + 1, .inr (v, u) :: r, .inr (v', u') :: q, h => by
    unfold rk_chk at h
    rw [Bool.and_eq_true, Bool.and_eq_true] at h
    obtain ⟨hv, hu, h⟩ := h
    have hv := of_decide_eq_true hv
    have hu : u = u' := by simpa using hu
    subst hv; subst hu
    split at h
    · rename_i o hd
      have hxy : ∃ x y : Int32, rk_val c0 h0 v = some (.int x) ∧ rk_val c1 h1 v = some (.int y) ∧ y.toInt = x.toInt + o := by
        unfold rk_dif at hd
        split at hd
        · rename_i o1 o2 e0 e1
          cases hd
          obtain ⟨v0, p0, q0⟩ := rk_av_ok a0 b0 e0
          obtain ⟨v1, p1, q1⟩ := rk_av_ok a1 b1 e1
          obtain ⟨x, rfl, q0⟩ := av_int q0
          obtain ⟨y, rfl, q1⟩ := av_int q1
          have q0 : x.toInt = o1 := q0
          have q1 : y.toInt = o2 := q1
          exact ⟨x, y, p0, p1, by omega⟩
        · rename_i k o1 j o2 e0 e1
          cases hb : Nat.beq k j with
          | false => rw [hb] at hd; cases hd
          | true =>
            rw [hb] at hd
            cases hd
            have hb := Nat.eq_of_beq_eq_true hb
            subst hb
            obtain ⟨v0, p0, q0⟩ := rk_av_ok a0 b0 e0
            obtain ⟨v1, p1, q1⟩ := rk_av_ok a1 b1 e1
            obtain ⟨x, rfl, q0⟩ := av_int q0
            obtain ⟨y, rfl, q1⟩ := av_int q1
            have z0 := q0.2
            have z1 := q1.2
            rw [hρ k q0.1] at z1
            exact ⟨x, y, p0, p1, by omega⟩
        · cases hd
      obtain ⟨x, y, e0, e1, e2⟩ := hxy
      have x1 := ai_lo x
      have x2 := ai_hi x
      have y1 := ai_lo y
      have y2 := ai_hi y
      show rk_lt (d + 1) (rk_num (rk_val c1 h1 v) u :: rk_v c1 h1 r) (rk_num (rk_val c0 h0 v) u :: rk_v c0 h0 q)
      rw [e0, e1]
      rw [Bool.or_eq_true] at h
      cases h with
      | inl h =>
        left
        cases u with
        | true =>
          have h : 0 < o := of_decide_eq_true h
          show (2147483648 - y.toInt).toNat < (2147483648 - x.toInt).toNat
          omega
        | false =>
          have h : o < 0 := of_decide_eq_true h
          show (y.toInt + 2147483648).toNat < (x.toInt + 2147483648).toNat
          omega
      | inr h =>
        rw [Bool.and_eq_true] at h
        right
        have ho : o = 0 := of_decide_eq_true h.1
        have hx : y = x := Int32.toInt_inj.mp (by omega)
        rw [hx]
        exact ⟨rfl, rk_chk_ok hρ a0 b0 a1 b1 d r q h.2⟩
    · cases h
/-- a cut: locals, stack, memory, facts, rank -/
noncomputable abbrev Cut : Type := List (Nat × CV) × List CV × MB × List Nat × RK
noncomputable def cut_g (w : AW) (M : List Rng) (K : List Nat) (h0 : pm_H) (c0 : List (Nat × Value)) (c : Cut) (σ : pm_S) : Prop := (∀ i k, (i, k) ∈ c.1 → ∃ v, pm_get σ.2.1 i = some v ∧ cv_g k v) ∧ f2 cv_g c.2.1 σ.2.2.1 ∧ hs_g w.1.1 σ.2.2.2.1 ∧ mm_g σ.2.2.2.1 c.2.2.1 ∧ (∀ i ∈ c.2.2.2.1, w.1.2.1 i σ.2.2.2.1) ∧ fr_g M h0 σ.2.2.2.1 ∧ ∀ i ∈ K, pm_get σ.2.1 i = pm_get c0 i
/-- a state lies in a cut -/
noncomputable def cut_le (A : AS) (c : Cut) : Bool := c.1.all (fun q => match as_get A.2.1 q.1 with | some a => cv_le A.2.2.2.1 a q.2 | none => false) && (cvs_le A.2.2.2.1 A.2.2.1 c.2.1 && (mm_le A.2.2.2.1 A.2.2.2.2.1 c.2.2.1 && c.2.2.2.1.all (fun i => A.2.2.2.2.2.2.1.contains i)))
theorem cut_le_ok {w : AW} {E : AEnv} {A : AS} {c : Cut} {σ : pm_S} (g : as_g w E A σ) (h : cut_le A c = true) : cut_g w A.2.2.2.2.2.2.2.1 A.2.2.2.2.2.2.2.2 E.2.2.1 E.2.2.2 c σ := by
  obtain ⟨ρ, g1, g2, g3, g4, g5⟩ := g
  unfold cut_le at h
  rw [Bool.and_eq_true, Bool.and_eq_true, Bool.and_eq_true] at h
  obtain ⟨h1, h2, h3, h4⟩ := h
  refine ⟨fun i k hm => ?_, cvs_le_ok g1 g4 h2, g5.1, mm_le_ok g1 g5 h3, fun i hi => g5.2.2.2.1 i (by have := List.all_eq_true.mp h4 i hi; simpa using this), g5.2.2.2.2.1, g5.2.2.2.2.2⟩
  have h1 := List.all_eq_true.mp h1 (i, k) hm
  dsimp only at h1
  split at h1
  · rename_i a e
    obtain ⟨v, e1, e2⟩ := g3 i a (as_get_in e)
    exact ⟨v, e1, cv_le_ok g1 e2 h1⟩
  · cases h1
/-- arguments that a case narrows lie in locals that stay -/
noncomputable def ag_chk (A : AS) : List (Nat × CV) → List CV → Bool
  | [], [] => true
  | (i, c) :: l, d :: m => (decide (c = d) || (A.2.2.2.2.2.2.2.2.contains i && (match as_get A.2.1 i with | some a => cv_le A.2.2.2.1 a d | none => false))) && ag_chk A l m
  | _, _ => false
theorem ag_chk_ok {w : AW} {E : AEnv} {A : AS} {σ : pm_S} (g : as_g w E A σ) : ∀ {l : List (Nat × CV)} {m : List CV} {vs : List Value}, f2 (fun (q : Nat × CV) v => cv_g q.2 v ∧ pm_get E.2.2.2 q.1 = some v) l vs → ag_chk A l m = true → f2 cv_g m vs
  | [], [], [], _, _ => trivial
  | [], [], _ :: _, h, _ => h.elim
  | [], _ :: _, _, _, h => by unfold ag_chk at h; cases h
  | _ :: _, [], _, _, h => by unfold ag_chk at h; cases h
  | _ :: _, _ :: _, [], h, _ => h.elim
  | (i, c) :: l, d :: m, v :: vs, hl, h => by
    unfold ag_chk at h
    rw [Bool.and_eq_true, Bool.or_eq_true] at h
    refine ⟨?_, ag_chk_ok g hl.2 h.2⟩
    cases h.1 with
    | inl h => rw [← of_decide_eq_true h]; exact hl.1.1
    | inr h =>
      rw [Bool.and_eq_true] at h
      obtain ⟨ρ, g1, g2, g3, g4, g5⟩ := g
      have hk := g5.2.2.2.2.2 i (by have := h.1; simpa using this)
      have h2 := h.2
      split at h2
      · rename_i a e
        obtain ⟨u, e1, e2⟩ := g3 i a (as_get_in e)
        have e3 : pm_get E.2.2.2 i = some v := hl.1.2
        rw [e1, e3] at hk
        cases hk
        exact cv_le_ok g1 e2 h2
      · cases h2
/-- the answer -/
noncomputable def rt_one (kd : Nat) (A : AS) (c : Option (CV ⊕ (Nat × Nat))) : Bool := match kd, A.2.2.1, c with
  | 0, [], none => true
  | 1, [.inl q], some (.inl c) => cv_le A.2.2.2.1 (.inl q) c
  | 2, [.inl q], some (.inl c) => cv_le A.2.2.2.1 (.inl q) c && cv_le A.2.2.2.1 (.inl q) (.inl (0, 1))
  | 3, [.inr (.inl q)], some (.inl c) => cv_le A.2.2.2.1 (.inr (.inl q)) c
  | 4, [.inl q], some (.inl c) => cv_le A.2.2.2.1 (.inl q) c && cv_le A.2.2.2.1 (.inl q) (.inl (-128, 127))
  | 5, [.inl q], some (.inl c) => cv_le A.2.2.2.1 (.inl q) c && cv_le A.2.2.2.1 (.inl q) (.inl (0, 65535))
  | 1, [.inl q], some (.inr p) => decide (mem_get A.2.2.2.2.1 p.1 p.2 = some (.inl q))
  | _, _, _ => false
noncomputable def rt_chk (kd : Nat) (A : AS) (al : List (Nat × CV)) (cases : List Cs) : Bool := cases.any (fun C => ag_chk A al C.1 && (mm_le A.2.2.2.1 A.2.2.2.2.1 C.2.1 && (C.2.2.1.all (fun i => A.2.2.2.2.2.2.1.contains i) && rt_one kd A C.2.2.2)))
theorem rt_one_ok {w : AW} {E : AEnv} {A : AS} {kd : Nat} {c : Option (CV ⊕ (Nat × Nat))} {σ : pm_S} (g : as_g w E A σ) (h : rt_one kd A c = true) : ∃ o, pm_ret kd σ.2.2.1 σ.2.2.2.1 o ∧ o.1 = σ.2.2.2.1 ∧ rv_g o.1 c o.2 := by
  obtain ⟨ρ, g1, g2, g3, g4, g5⟩ := g
  obtain ⟨pc, lv, st, iv, ex⟩ := A
  obtain ⟨pc', cl, cs, W⟩ := σ
  dsimp only at g1 g2 g3 g4 g5 h ⊢
  have one : ∀ {q : Option Nat × Int}, f2 (fun a v => av_g iv.length ρ a v) [.inl q] cs → ∃ x : Int32, cs = [.int x] ∧ av_g iv.length ρ (.inl q) (.int x) := by
    intro q hq
    obtain ⟨v, cs', rfl, ha, hr⟩ := f2_cons hq
    cases cs' with
    | cons _ _ => exact hr.elim
    | nil =>
      obtain ⟨x, rfl, ha'⟩ := av_int (k := q.1) (o := q.2) ha
      exact ⟨x, rfl, ha⟩
  unfold rt_one at h
  dsimp only at h
  split at h
  · cases cs with
    | nil => exact ⟨(W.1, none), ⟨rfl, rfl⟩, rfl, trivial⟩
    | cons v cs => exact g4.elim
  · obtain ⟨x, rfl, ha⟩ := one g4
    exact ⟨(W.1, some (.int x)), ⟨x, rfl, rfl⟩, rfl, cv_le_ok g1 ha h⟩
  · rw [Bool.and_eq_true] at h
    obtain ⟨x, rfl, ha⟩ := one g4
    have hz : 0 ≤ x.toInt ∧ x.toInt ≤ 1 := cv_le_ok g1 ha h.2
    refine ⟨(W.1, some (.int x)), ⟨x, rfl, ?_, rfl⟩, rfl, cv_le_ok g1 ha h.1⟩
    by_cases h0 : x.toInt = 0
    · exact .inl (Int32.toInt_inj.mp h0)
    · exact .inr (Int32.toInt_inj.mp (by show x.toInt = 1; omega))
  · obtain ⟨v, cs', rfl, ha, hr⟩ := f2_cons g4
    cases cs' with
    | cons _ _ => exact hr.elim
    | nil =>
      rename_i q c
      obtain ⟨x, rfl, ha'⟩ := av_long (k := q.1) (o := q.2) ha
      exact ⟨(W.1, some (.long x)), ⟨x, rfl, rfl⟩, rfl, cv_le_ok g1 ha h⟩
  · rw [Bool.and_eq_true] at h
    obtain ⟨x, rfl, ha⟩ := one g4
    have hz : -128 ≤ x.toInt ∧ x.toInt ≤ 127 := cv_le_ok g1 ha h.2
    refine ⟨(W.1, some (.int x)), ⟨x, rfl, ?_, rfl⟩, rfl, cv_le_ok g1 ha h.1⟩
    show Value.int x.toInt8.toInt32 = .int x
    rw [Int32.toInt_inj.mp (i2b_id hz.1 hz.2)]
  · rw [Bool.and_eq_true] at h
    obtain ⟨x, rfl, ha⟩ := one g4
    have hz : 0 ≤ x.toInt ∧ x.toInt ≤ 65535 := cv_le_ok g1 ha h.2
    refine ⟨(W.1, some (.int x)), ⟨x, rfl, ?_, rfl⟩, rfl, cv_le_ok g1 ha h.1⟩
    show Value.int x.toUInt32.toUInt16.toUInt32.toInt32 = .int x
    have hn : (x.toUInt32.toUInt16.toUInt32.toInt32).toBitVec.toNat = x.toBitVec.toNat % 65536 := by
      show ((x.toBitVec.setWidth 16).setWidth 32).toNat = _
      rw [BitVec.toNat_setWidth, BitVec.toNat_setWidth]
      omega
    obtain ⟨e, l⟩ := ai_nn hz.1
    congr 1
    apply Int32.toInt_inj.mp
    rw [ai_of (by omega), hn, e]
    omega
  · rename_i q p
    have h := of_decide_eq_true h
    obtain ⟨x, rfl, ha⟩ := one g4
    obtain ⟨v, e1, e2⟩ := g5.2.1 _ _ (mem_get_in h)
    obtain ⟨y, rfl, e3⟩ := av_int (k := q.1) (o := q.2) e2
    have ha' : av_ev iv.length ρ q.1 q.2 x.toInt := ha
    have hxy : y = x := by
      apply Int32.toInt_inj.mp
      obtain ⟨qk, qo⟩ := q
      cases qk with
      | none =>
        have z1 : y.toInt = qo := e3
        have z2 : x.toInt = qo := ha'
        omega
      | some k => have z1 := e3.2; have z2 := ha'.2; dsimp only at z1 z2; omega
    subst hxy
    exact ⟨(W.1, some (.int y)), ⟨y, rfl, rfl⟩, rfl, e1⟩
  · cases h
