section
noncomputable def rk_av (lv : List (Nat × AV)) (m : Mem) (q : Nat ⊕ (Nat × Nat)) : Option AV := match q with
  | .inl i => as_get lv i
  | .inr (a, k) => mem_get m a k
/-- how much more the second is -/
noncomputable def rk_dif (a b : Option AV) : Option Int := match a, b with
  | some (.inl (none, o)), some (.inl (none, p)) => some (p - o)
  | some (.inl (some k, o)), some (.inl (some j, p)) => bif Nat.beq k j then some (p - o) else none
  | _, _ => none
/-- the rank of the target is smaller -/
noncomputable def rk_chk (l0 : List (Nat × AV)) (m0 : Mem) (l1 : List (Nat × AV)) (m1 : Mem) : Nat → RK → RK → Bool
  | d + 1, .inl a :: r, .inl b :: q => Nat.blt a b || (Nat.beq a b && rk_chk l0 m0 l1 m1 d r q)
  | d + 1, .inr (v, u) :: r, .inr (v', u') :: q => decide (v = v') && ((u == u') && (match rk_dif (rk_av l0 m0 v) (rk_av l1 m1 v) with
      | some o => (bif u then decide (0 < o) else decide (o < 0)) || (decide (o = 0) && rk_chk l0 m0 l1 m1 d r q)
      | none => false))
  | _, _, _ => false
theorem rk_av_ok {n : Nat} {ρ : Nat → Int} {lv : List (Nat × AV)} {m : Mem} {cl : List (Nat × Value)} {h : pm_H} (h1 : ∀ i a, (i, a) ∈ lv → ∃ v, pm_get cl i = some v ∧ av_g n ρ a v) (h2 : ∀ q a, (q, a) ∈ m → ∃ v, ld h q.1 q.2 = some v ∧ av_g n ρ a v) {q : Nat ⊕ (Nat × Nat)} {a : AV} (e : rk_av lv m q = some a) : ∃ v, rk_val cl h q = some v ∧ av_g n ρ a v := by
  cases q with
  | inl i => exact h1 i a (as_get_in e)
  | inr p => exact h2 (p.1, p.2) a (mem_get_in e)
theorem rk_chk_ok {n0 n : Nat} {ρ0 ρ : Nat → Int} {l0 l1 : List (Nat × AV)} {m0 m1 : Mem} {c0 c1 : List (Nat × Value)} {h0 h1 : pm_H} (hρ : ∀ k, k < n0 → ρ k = ρ0 k)
    (a0 : ∀ i a, (i, a) ∈ l0 → ∃ v, pm_get c0 i = some v ∧ av_g n0 ρ0 a v) (b0 : ∀ q a, (q, a) ∈ m0 → ∃ v, ld h0 q.1 q.2 = some v ∧ av_g n0 ρ0 a v)
    (a1 : ∀ i a, (i, a) ∈ l1 → ∃ v, pm_get c1 i = some v ∧ av_g n ρ a v) (b1 : ∀ q a, (q, a) ∈ m1 → ∃ v, ld h1 q.1 q.2 = some v ∧ av_g n ρ a v) :
    ∀ (d : Nat) (r q : RK), rk_chk l0 m0 l1 m1 d r q = true → rk_lt d (rk_v c1 h1 r) (rk_v c0 h0 q)
  | 0, _, _, h => by unfold rk_chk at h; cases h
  | d + 1, [], _, h => by unfold rk_chk at h; cases h
  | d + 1, _ :: _, [], h => by unfold rk_chk at h; split at h <;> first | cases h | contradiction
  | d + 1, .inl a :: r, .inl b :: q, h => by
    unfold rk_chk at h
    rw [Bool.or_eq_true] at h
    cases h with
    | inl h => exact .inl (Nat.le_of_ble_eq_true h)
    | inr h =>
      rw [Bool.and_eq_true] at h
      exact .inr ⟨Nat.eq_of_beq_eq_true h.1, rk_chk_ok hρ a0 b0 a1 b1 d r q h.2⟩
  | d + 1, .inl _ :: _, .inr _ :: _, h => by unfold rk_chk at h; cases h
  | d + 1, .inr _ :: _, .inl _ :: _, h => by unfold rk_chk at h; cases h
  | d + 1, .inr (v, u) :: r, .inr (v', u') :: q, h => by
    unfold rk_chk at h
    rw [Bool.and_eq_true, Bool.and_eq_true] at h
    obtain ⟨hv, hu, h⟩ := h
    have hv := of_decide_eq_true hv
    have hu : u = u' := by simpa using hu
    subst hv; subst hu
    split at h
    · rename_i o hd
      have hxy : ∃ x y : Int32, rk_val c0 h0 v = some (.int x) ∧ rk_val c1 h1 v = some (.int y) ∧ y.toInt = x.toInt + o := by
        unfold rk_dif at hd
        split at hd
        · rename_i o1 o2 e0 e1
          cases hd
          obtain ⟨v0, p0, q0⟩ := rk_av_ok a0 b0 e0
          obtain ⟨v1, p1, q1⟩ := rk_av_ok a1 b1 e1
          obtain ⟨x, rfl, q0⟩ := av_int q0
          obtain ⟨y, rfl, q1⟩ := av_int q1
          have q0 : x.toInt = o1 := q0
          have q1 : y.toInt = o2 := q1
          exact ⟨x, y, p0, p1, by omega⟩
        · rename_i k o1 j o2 e0 e1
          cases hb : Nat.beq k j with
          | false => rw [hb] at hd; cases hd
          | true =>
            rw [hb] at hd
            cases hd
            have hb := Nat.eq_of_beq_eq_true hb
            subst hb
            obtain ⟨v0, p0, q0⟩ := rk_av_ok a0 b0 e0
            obtain ⟨v1, p1, q1⟩ := rk_av_ok a1 b1 e1
            obtain ⟨x, rfl, q0⟩ := av_int q0
            obtain ⟨y, rfl, q1⟩ := av_int q1
            have z0 := q0.2
            have z1 := q1.2
            rw [hρ k q0.1] at z1
            exact ⟨x, y, p0, p1, by omega⟩
        · cases hd
      obtain ⟨x, y, e0, e1, e2⟩ := hxy
      have x1 := ai_lo x
      have x2 := ai_hi x
      have y1 := ai_lo y
      have y2 := ai_hi y
      show rk_lt (d + 1) (rk_num (rk_val c1 h1 v) u :: rk_v c1 h1 r) (rk_num (rk_val c0 h0 v) u :: rk_v c0 h0 q)
      rw [e0, e1]
      rw [Bool.or_eq_true] at h
      cases h with
      | inl h =>
        left
        cases u with
        | true =>
          have h : 0 < o := of_decide_eq_true h
          show (2147483648 - y.toInt).toNat < (2147483648 - x.toInt).toNat
          omega
        | false =>
          have h : o < 0 := of_decide_eq_true h
          show (y.toInt + 2147483648).toNat < (x.toInt + 2147483648).toNat
          omega
      | inr h =>
        rw [Bool.and_eq_true] at h
        right
        have ho : o = 0 := of_decide_eq_true h.1
        have hx : y = x := Int32.toInt_inj.mp (by omega)
        rw [hx]
        exact ⟨rfl, rk_chk_ok hρ a0 b0 a1 b1 d r q h.2⟩
    · cases h
/-- a cut: locals, stack, memory, facts, rank -/
noncomputable abbrev Cut : Type := List (Nat × CV) × List CV × MB × List Nat × RK
noncomputable def cut_g (w : AW) (M : List Rng) (K : List Nat) (h0 : pm_H) (c0 : List (Nat × Value)) (c : Cut) (σ : pm_S) : Prop := (∀ i k, (i, k) ∈ c.1 → ∃ v, pm_get σ.2.1 i = some v ∧ cv_g k v) ∧ f2 cv_g c.2.1 σ.2.2.1 ∧ hs_g w.1.1 σ.2.2.2.1 ∧ mm_g σ.2.2.2.1 c.2.2.1 ∧ (∀ i ∈ c.2.2.2.1, w.1.2.1 i σ.2.2.2.1) ∧ fr_g M h0 σ.2.2.2.1 ∧ ∀ i ∈ K, pm_get σ.2.1 i = pm_get c0 i
/-- a state lies in a cut -/
noncomputable def cut_le (A : AS) (c : Cut) : Bool := c.1.all (fun q => match as_get A.2.1 q.1 with | some a => cv_le A.2.2.2.1 a q.2 | none => false) && (cvs_le A.2.2.2.1 A.2.2.1 c.2.1 && (mm_le A.2.2.2.1 A.2.2.2.2.1 c.2.2.1 && c.2.2.2.1.all (fun i => A.2.2.2.2.2.2.1.contains i)))
theorem cut_le_ok {w : AW} {E : AEnv} {A : AS} {c : Cut} {σ : pm_S} (g : as_g w E A σ) (h : cut_le A c = true) : cut_g w A.2.2.2.2.2.2.2.1 A.2.2.2.2.2.2.2.2 E.2.2.1 E.2.2.2 c σ := by
  obtain ⟨ρ, g1, g2, g3, g4, g5⟩ := g
  unfold cut_le at h
  rw [Bool.and_eq_true, Bool.and_eq_true, Bool.and_eq_true] at h
  obtain ⟨h1, h2, h3, h4⟩ := h
  refine ⟨fun i k hm => ?_, cvs_le_ok g1 g4 h2, g5.1, mm_le_ok g1 g5 h3, fun i hi => g5.2.2.2.1 i (by have := List.all_eq_true.mp h4 i hi; simpa using this), g5.2.2.2.2.1, g5.2.2.2.2.2⟩
  have h1 := List.all_eq_true.mp h1 (i, k) hm
  dsimp only at h1
  split at h1
  · rename_i a e
    obtain ⟨v, e1, e2⟩ := g3 i a (as_get_in e)
    exact ⟨v, e1, cv_le_ok g1 e2 h1⟩
  · cases h1
end
