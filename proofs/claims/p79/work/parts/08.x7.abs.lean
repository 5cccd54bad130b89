/-! THE EXECUTOR, part 7: rows with their cover, segments between cuts -/
/-- a row: the step and what covers it -/
abbrev ARow (hs : List AE) : Type := { q : (pm_S → Option pm_S) × (AS → Option (List AS)) // ai_ok hs q.1 q.2 }
abbrev AR (hs : List AE) : Type := ARow hs ⊕ ((Nat × Nat × Option Nat × Nat × Nat) ⊕ Nat)
def ar_cv {hs : List AE} (a : AR hs) : pm_I := match a with
  | .inl r => .inl r.1.1
  | .inr (.inl c) => .inr (.inl c)
  | .inr (.inr k) => .inr (.inr k)
def ar_tab {hs : List AE} (t : List (Nat × AR hs)) : List (Nat × pm_I) := t.map (fun q => (q.1, ar_cv q.2))
theorem ar_at {hs : List AE} {pc : Nat} {a : AR hs} : ∀ {t : List (Nat × AR hs)}, pm_at t pc = some a → pm_at (ar_tab t) pc = some (ar_cv a)
  | [], h => by cases h
  | q :: t, h => by
    unfold ar_tab
    simp only [List.map_cons]
    unfold pm_at at h ⊢
    cases hk : Nat.beq q.1 pc with
    | true =>
      rw [hk] at h
      simp only [hk, cond_true] at h ⊢
      exact congrArg some (congrArg ar_cv (Option.some.inj h))
    | false =>
      rw [hk] at h
      simp only [hk, cond_false] at h ⊢
      exact ar_at (t := t) h
/-- a cut: locals, stack, rank -/
abbrev Cut : Type := List (Nat × CV) × List CV × RK
def cut_g (hs : List AE) (c : Cut) (σ : pm_S) : Prop := (∀ i k, (i, k) ∈ c.1 → ∃ v, pm_get σ.2.1 i = some v ∧ cv_g k v) ∧ f2 cv_g c.2.1 σ.2.2.1 ∧ hs_g hs σ.2.2.2.1
/-- a state lies in a cut -/
def cut_le (A : AS) (c : Cut) : Bool := c.1.all (fun q => match as_get A.2.1 q.1 with | some a => cv_le A.2.2.2 a q.2 | none => false) && cvs_le A.2.2.2 A.2.2.1 c.2.1
theorem cut_le_ok {hs : List AE} {E : AEnv} {A : AS} {c : Cut} {σ : pm_S} (g : as_g hs E A σ) (h : cut_le A c = true) : cut_g hs c σ := by
  obtain ⟨ρ, g1, g2, g3, g4, g5⟩ := g
  unfold cut_le at h
  rw [Bool.and_eq_true] at h
  refine ⟨fun i k hm => ?_, cvs_le_ok g1 g4 h.2, g5⟩
  have h1 := List.all_eq_true.mp h.1 (i, k) hm
  dsimp only at h1
  split at h1
  · rename_i a e
    obtain ⟨v, e1, e2⟩ := g3 i a (as_get_in e)
    exact ⟨v, e1, cv_le_ok g1 e2 h1⟩
  · cases h1
/-- the answer: kind of return, and its interval -/
def rt_chk (kd : Nat) (A : AS) (rt : Option CV) : Bool := match kd, A.2.2.1, rt with
  | 0, [], none => true
  | 1, [.inl (k, o)], some c => cv_le A.2.2.2 (.inl (k, o)) c
  | 2, [.inl (k, o)], some c => cv_le A.2.2.2 (.inl (k, o)) c && cv_le A.2.2.2 (.inl (k, o)) (.inl (0, 1))
  | 3, [.inr (.inl (k, o))], some c => cv_le A.2.2.2 (.inr (.inl (k, o))) c
  | _, _, _ => false
theorem ai_zero {v : Int32} (h : v.toInt = 0) : v = 0 := Int32.toInt_inj.mp h
theorem ai_one {v : Int32} (h : v.toInt = 1) : v = 1 := Int32.toInt_inj.mp h
theorem rt_chk_ok {hs : List AE} {E : AEnv} {A : AS} {kd : Nat} {rt : Option CV} {σ : pm_S} (g : as_g hs E A σ) (h : rt_chk kd A rt = true) : ∃ o, pm_ret kd σ.2.2.1 σ.2.2.2.1 o ∧ hs_g hs o.1 ∧ rt_g rt o.2 := by
  obtain ⟨ρ, g1, g2, g3, g4, g5⟩ := g
  obtain ⟨pc, lv, st, iv⟩ := A
  obtain ⟨pc', cl, cs, w⟩ := σ
  dsimp only at g1 g2 g3 g4 g5 h ⊢
  unfold rt_chk at h
  dsimp only at h
  split at h
  · cases cs with
    | nil => exact ⟨(w.1, none), ⟨rfl, rfl⟩, g5, trivial⟩
    | cons v cs => exact g4.elim
  · rename_i k o c
    obtain ⟨v, cs, rfl, ha, hr⟩ := f2_cons g4
    cases cs with
    | cons _ _ => exact hr.elim
    | nil =>
      have hc := cv_le_ok g1 ha h
      cases v with
      | int x => exact ⟨(w.1, some (.int x)), ⟨x, rfl, rfl⟩, g5, hc⟩
      | _ => exact ha.elim
  · rename_i k o c
    rw [Bool.and_eq_true] at h
    obtain ⟨v, cs, rfl, ha, hr⟩ := f2_cons g4
    cases cs with
    | cons _ _ => exact hr.elim
    | nil =>
      have hc := cv_le_ok g1 ha h.1
      have hz := cv_le_ok g1 ha h.2
      cases v with
      | int x =>
        have hz : 0 ≤ x.toInt ∧ x.toInt ≤ 1 := hz
        refine ⟨(w.1, some (.int x)), ⟨x, rfl, ?_, rfl⟩, g5, hc⟩
        by_cases h0 : x.toInt = 0
        · exact .inl (ai_zero h0)
        · exact .inr (ai_one (by omega))
      | _ => exact ha.elim
  · rename_i k o c
    obtain ⟨v, cs, rfl, ha, hr⟩ := f2_cons g4
    cases cs with
    | cons _ _ => exact hr.elim
    | nil =>
      have hc := cv_le_ok g1 ha h
      cases v with
      | long x => exact ⟨(w.1, some (.long x)), ⟨x, rfl, rfl⟩, g5, hc⟩
      | _ => exact ha.elim
  · cases h
