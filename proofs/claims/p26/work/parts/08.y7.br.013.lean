section
theorem call_do_ok {w : AW} {sums : List Sum1} {call : pm_Call} {E : AEnv} {A : AS} {As : List AS} {σ : pm_S} {y k : Nat} {ci : Option Nat} {mc ms : Nat} (hS : ∀ S ∈ sums, sum_g w call S) (g : as_g w E A σ) (h : call_do w sums A y k ci mc ms = some As) :
    ∃ h' r, call y σ.2.2.2.1 (σ.2.2.1.take k).reverse h' r ∧ pm_chk k ci mc ms σ.2.2.1 σ.2.2.2 ∧ ∃ B ∈ As, as_g w E B (σ.1 + 3, σ.2.1, r.toList ++ σ.2.2.1.drop k, h', σ.2.2.2.2.1 - mc, σ.2.2.2.2.2 - ms) := by
  obtain ⟨ρ, g⟩ := g
  obtain ⟨g1, g2, g3, g4, g5⟩ := id g
  unfold call_do at h
  cases hb : (Nat.ble k A.2.2.1.length && (Nat.beq mc 0 && (Nat.beq ms 0 && (Nat.ble (av_sz (A.2.2.1.drop k)) 8 && rc_chk w.1.1 ci (A.2.2.1.take k).reverse)))) with
  | false => rw [hb] at h; cases h
  | true =>
    rw [hb, cond_true] at h
    simp only [Bool.and_eq_true] at hb
    obtain ⟨b1, b2, b3, b4, b5⟩ := hb
    have hmc : mc = 0 := Nat.eq_of_beq_eq_true b2
    have hms : ms = 0 := Nat.eq_of_beq_eq_true b3
    subst hmc; subst hms
    have hk := Nat.le_of_ble_eq_true b1
    have h8 := Nat.le_of_ble_eq_true b4
    have gT := f2_rev (f2_take k g4)
    have gD := f2_drop k g4
    have hchk : pm_chk k ci 0 0 σ.2.2.1 σ.2.2.2 := ⟨by rw [f2_len g4]; exact hk, rc_chk_ok g5.1 gT b5, by rw [av_sz_eq gD]; exact h8, Nat.zero_le _, Nat.zero_le _⟩
    split at h
    · rename_i S hf
      cases h
      have hmem := List.mem_of_find?_eq_some hf
      have hp := List.find?_some hf
      simp only [Bool.and_eq_true] at hp
      obtain ⟨p1, p2, p3, p4, p5⟩ := hp
      have hy := Nat.eq_of_beq_eq_true p1
      subst hy
      obtain ⟨h', r, e1, e2, e3, C, hC, e4⟩ := hS S hmem σ.2.2.2.1 (σ.2.2.1.take k).reverse g5.1 (cvs_le_ok g1 gT p2) (mm_le_ok g1 g5 p3) (fun i hi => g5.2.2.2.1 i (by have := List.all_eq_true.mp p4 i hi; simpa using this))
      obtain ⟨B, f1, f2'⟩ := case_do_ok (z := (σ.2.2.2.2.1 - 0, σ.2.2.2.2.2 - 0)) g e2 e3 p5 e4
      refine ⟨h', r, e1, hchk, B, List.mem_flatMap.mpr ⟨C, hC, ?_⟩, f2'⟩
      rw [f1]
      exact List.mem_singleton_self _
    · cases h
end
section
/-! THE EXECUTOR (second writing), part 12: rows with their cover, ranks, cuts -/
/-- a row: the step and what covers it -/
noncomputable abbrev ARow (w : AW) : Type := { q : (pm_S → Option pm_S) × (AS → Option (List AS)) × (PX → Nat → Bool) // ai_ok w q.1 q.2.1 ∧ rw_g q.1 q.2.2 }
noncomputable abbrev AR (w : AW) : Type := ARow w ⊕ ((Nat × Nat × Option Nat × Nat × Nat) ⊕ Nat)
noncomputable def ar_cv {w : AW} (a : AR w) : pm_I := match a with
  | .inl r => .inl r.1.1
  | .inr (.inl c) => .inr (.inl c)
  | .inr (.inr k) => .inr (.inr k)
noncomputable def ar_tab {w : AW} (t : List (Nat × AR w)) : List (Nat × pm_I) := t.map (fun q => (q.1, ar_cv q.2))
theorem ar_at {w : AW} {pc : Nat} {a : AR w} : ∀ {t : List (Nat × AR w)}, pm_at t pc = some a → pm_at (ar_tab t) pc = some (ar_cv a)
  | [], h => by cases h
  | q :: t, h => by
    unfold ar_tab
    simp only [List.map_cons]
    unfold pm_at at h ⊢
    cases hk : Nat.beq q.1 pc with
    | true =>
      rw [hk] at h
      simp only [hk, cond_true] at h ⊢
      exact congrArg some (congrArg ar_cv (Option.some.inj h))
    | false =>
      rw [hk] at h
      simp only [hk, cond_false] at h ⊢
      exact ar_at (t := t) h
noncomputable def rk_e (K : Nat) : Nat → List Nat → Nat
  | 0, _ => 0
  | _ + 1, [] => 0
  | d + 1, a :: l => a * K ^ d + rk_e K d l
theorem rk_e_lt {K : Nat} (hK : 0 < K) : ∀ (d : Nat) (l : List Nat), (∀ a ∈ l, a < K) → rk_e K d l < K ^ d
  | 0, _, _ => Nat.one_pos
  | d + 1, [], _ => Nat.pow_pos hK
  | d + 1, a :: l, h => by
    have h1 := rk_e_lt hK d l (fun b hb => h b (List.mem_cons_of_mem _ hb))
    have h2 : a + 1 ≤ K := h a List.mem_cons_self
    have h3 : (a + 1) * K ^ d ≤ K * K ^ d := Nat.mul_le_mul_right _ h2
    have h4 : (a + 1) * K ^ d = a * K ^ d + K ^ d := Nat.succ_mul a (K ^ d)
    have h5 : K ^ (d + 1) = K * K ^ d := by rw [Nat.pow_succ, Nat.mul_comm]
    show a * K ^ d + rk_e K d l < K ^ (d + 1)
    omega
noncomputable def rk_lt : Nat → List Nat → List Nat → Prop
  | d + 1, a :: l, b :: m => a < b ∨ (a = b ∧ rk_lt d l m)
  | _, _, _ => False
theorem rk_e_mono {K : Nat} (hK : 0 < K) : ∀ (d : Nat) (l m : List Nat), (∀ a ∈ l, a < K) → rk_lt d l m → rk_e K d l < rk_e K d m
  | 0, _, _, _, h => h.elim
  | _ + 1, [], _, _, h => h.elim
  | _ + 1, _ :: _, [], _, h => h.elim
  | d + 1, a :: l, b :: m, hl, h => by
    have hl' : ∀ c ∈ l, c < K := fun c hc => hl c (List.mem_cons_of_mem _ hc)
    show a * K ^ d + rk_e K d l < b * K ^ d + rk_e K d m
    cases h with
    | inl h =>
      have h1 := rk_e_lt hK d l hl'
      have h3 : (a + 1) * K ^ d ≤ b * K ^ d := Nat.mul_le_mul_right _ h
      have h4 : (a + 1) * K ^ d = a * K ^ d + K ^ d := Nat.succ_mul a (K ^ d)
      omega
    | inr h =>
      obtain ⟨rfl, h⟩ := h
      have := rk_e_mono hK d l m hl' h
      omega
/-- a rank: fixed numbers, and numbers that count up (true) or down: locals, or what lies at a place -/
noncomputable abbrev RK : Type := List (Nat ⊕ ((Nat ⊕ (Nat × Nat)) × Bool))
noncomputable def rk_val (cl : List (Nat × Value)) (h : pm_H) (q : Nat ⊕ (Nat × Nat)) : Option Value := match q with
  | .inl i => pm_get cl i
  | .inr (a, k) => ld h a k
noncomputable def rk_num (v : Option Value) (up : Bool) : Nat := match v with
  | some (.int x) => bif up then (2147483648 - x.toInt).toNat else (x.toInt + 2147483648).toNat
  | _ => 0
noncomputable def rk_one (cl : List (Nat × Value)) (h : pm_H) (q : Nat ⊕ ((Nat ⊕ (Nat × Nat)) × Bool)) : Nat := match q with
  | .inl n => n
  | .inr (v, up) => rk_num (rk_val cl h v) up
noncomputable def rk_v (cl : List (Nat × Value)) (h : pm_H) (r : RK) : List Nat := r.map (rk_one cl h)
noncomputable def rk_small (r : RK) : Bool := r.all (fun q => match q with | .inl n => Nat.blt n 8589934592 | .inr _ => true)
theorem rk_v_lt {cl : List (Nat × Value)} {h : pm_H} {r : RK} (hr : rk_small r = true) : ∀ a ∈ rk_v cl h r, a < 8589934592 := by
  intro a ha
  obtain ⟨q, hq, rfl⟩ := List.mem_map.mp ha
  have h1 := List.all_eq_true.mp hr q hq
  cases q with
  | inl n => exact Nat.le_of_ble_eq_true h1
  | inr p =>
    obtain ⟨v, up⟩ := p
    show rk_num (rk_val cl h v) up < _
    unfold rk_num
    split
    · rename_i x e
      have h2 := ai_lo x
      have h3 := ai_hi x
      cases up with
      | true => show (2147483648 - x.toInt).toNat < _; omega
      | false => show (x.toInt + 2147483648).toNat < _; omega
    · omega
end
