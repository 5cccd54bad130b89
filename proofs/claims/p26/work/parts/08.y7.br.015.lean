section
/-- arguments that a case narrows lie in locals that stay -/
noncomputable def ag_chk (A : AS) : List (Nat × CV) → List CV → Bool
  | [], [] => true
  | (i, c) :: l, d :: m => (decide (c = d) || (A.2.2.2.2.2.2.2.2.contains i && (match as_get A.2.1 i with | some a => cv_le A.2.2.2.1 a d | none => false))) && ag_chk A l m
  | _, _ => false
theorem ag_chk_ok {w : AW} {E : AEnv} {A : AS} {σ : pm_S} (g : as_g w E A σ) : ∀ {l : List (Nat × CV)} {m : List CV} {vs : List Value}, f2 (fun (q : Nat × CV) v => cv_g q.2 v ∧ pm_get E.2.2.2 q.1 = some v) l vs → ag_chk A l m = true → f2 cv_g m vs
  | [], [], [], _, _ => trivial
  | [], [], _ :: _, h, _ => h.elim
  | [], _ :: _, _, _, h => by unfold ag_chk at h; cases h
  | _ :: _, [], _, _, h => by unfold ag_chk at h; cases h
  | _ :: _, _ :: _, [], h, _ => h.elim
  | (i, c) :: l, d :: m, v :: vs, hl, h => by
    unfold ag_chk at h
    rw [Bool.and_eq_true, Bool.or_eq_true] at h
    refine ⟨?_, ag_chk_ok g hl.2 h.2⟩
    cases h.1 with
    | inl h => rw [← of_decide_eq_true h]; exact hl.1.1
    | inr h =>
      rw [Bool.and_eq_true] at h
      obtain ⟨ρ, g1, g2, g3, g4, g5⟩ := g
      have hk := g5.2.2.2.2.2 i (by have := h.1; simpa using this)
      have h2 := h.2
      split at h2
      · rename_i a e
        obtain ⟨u, e1, e2⟩ := g3 i a (as_get_in e)
        have e3 : pm_get E.2.2.2 i = some v := hl.1.2
        rw [e1, e3] at hk
        cases hk
        exact cv_le_ok g1 e2 h2
      · cases h2
/-- the answer -/
noncomputable def rt_one (kd : Nat) (A : AS) (c : Option (CV ⊕ (Nat × Nat))) : Bool := match kd, A.2.2.1, c with
  | 0, [], none => true
  | 1, [.inl q], some (.inl c) => cv_le A.2.2.2.1 (.inl q) c
  | 2, [.inl q], some (.inl c) => cv_le A.2.2.2.1 (.inl q) c && cv_le A.2.2.2.1 (.inl q) (.inl (0, 1))
  | 3, [.inr (.inl q)], some (.inl c) => cv_le A.2.2.2.1 (.inr (.inl q)) c
  | 4, [.inl q], some (.inl c) => cv_le A.2.2.2.1 (.inl q) c && cv_le A.2.2.2.1 (.inl q) (.inl (-128, 127))
  | 5, [.inl q], some (.inl c) => cv_le A.2.2.2.1 (.inl q) c && cv_le A.2.2.2.1 (.inl q) (.inl (0, 65535))
  | 1, [.inl q], some (.inr p) => decide (mem_get A.2.2.2.2.1 p.1 p.2 = some (.inl q))
  | _, _, _ => false
noncomputable def rt_chk (kd : Nat) (A : AS) (al : List (Nat × CV)) (cases : List Cs) : Bool := cases.any (fun C => ag_chk A al C.1 && (mm_le A.2.2.2.1 A.2.2.2.2.1 C.2.1 && (C.2.2.1.all (fun i => A.2.2.2.2.2.2.1.contains i) && rt_one kd A C.2.2.2)))
theorem rt_one_ok {w : AW} {E : AEnv} {A : AS} {kd : Nat} {c : Option (CV ⊕ (Nat × Nat))} {σ : pm_S} (g : as_g w E A σ) (h : rt_one kd A c = true) : ∃ o, pm_ret kd σ.2.2.1 σ.2.2.2.1 o ∧ o.1 = σ.2.2.2.1 ∧ rv_g o.1 c o.2 := by
  obtain ⟨ρ, g1, g2, g3, g4, g5⟩ := g
  obtain ⟨pc, lv, st, iv, ex⟩ := A
  obtain ⟨pc', cl, cs, W⟩ := σ
  dsimp only at g1 g2 g3 g4 g5 h ⊢
  have one : ∀ {q : Option Nat × Int}, f2 (fun a v => av_g iv.length ρ a v) [.inl q] cs → ∃ x : Int32, cs = [.int x] ∧ av_g iv.length ρ (.inl q) (.int x) := by
    intro q hq
    obtain ⟨v, cs', rfl, ha, hr⟩ := f2_cons hq
    cases cs' with
    | cons _ _ => exact hr.elim
    | nil =>
      obtain ⟨x, rfl, ha'⟩ := av_int (k := q.1) (o := q.2) ha
      exact ⟨x, rfl, ha⟩
  unfold rt_one at h
  dsimp only at h
  split at h
  · cases cs with
    | nil => exact ⟨(W.1, none), ⟨rfl, rfl⟩, rfl, trivial⟩
    | cons v cs => exact g4.elim
  · obtain ⟨x, rfl, ha⟩ := one g4
    exact ⟨(W.1, some (.int x)), ⟨x, rfl, rfl⟩, rfl, cv_le_ok g1 ha h⟩
  · rw [Bool.and_eq_true] at h
    obtain ⟨x, rfl, ha⟩ := one g4
    have hz : 0 ≤ x.toInt ∧ x.toInt ≤ 1 := cv_le_ok g1 ha h.2
    refine ⟨(W.1, some (.int x)), ⟨x, rfl, ?_, rfl⟩, rfl, cv_le_ok g1 ha h.1⟩
    by_cases h0 : x.toInt = 0
    · exact .inl (Int32.toInt_inj.mp h0)
    · exact .inr (Int32.toInt_inj.mp (by show x.toInt = 1; omega))
  · obtain ⟨v, cs', rfl, ha, hr⟩ := f2_cons g4
    cases cs' with
    | cons _ _ => exact hr.elim
    | nil =>
      rename_i q c
      obtain ⟨x, rfl, ha'⟩ := av_long (k := q.1) (o := q.2) ha
      exact ⟨(W.1, some (.long x)), ⟨x, rfl, rfl⟩, rfl, cv_le_ok g1 ha h⟩
  · rw [Bool.and_eq_true] at h
    obtain ⟨x, rfl, ha⟩ := one g4
    have hz : -128 ≤ x.toInt ∧ x.toInt ≤ 127 := cv_le_ok g1 ha h.2
    refine ⟨(W.1, some (.int x)), ⟨x, rfl, ?_, rfl⟩, rfl, cv_le_ok g1 ha h.1⟩
    show Value.int x.toInt8.toInt32 = .int x
    rw [Int32.toInt_inj.mp (i2b_id hz.1 hz.2)]
  · rw [Bool.and_eq_true] at h
    obtain ⟨x, rfl, ha⟩ := one g4
    have hz : 0 ≤ x.toInt ∧ x.toInt ≤ 65535 := cv_le_ok g1 ha h.2
    refine ⟨(W.1, some (.int x)), ⟨x, rfl, ?_, rfl⟩, rfl, cv_le_ok g1 ha h.1⟩
    show Value.int x.toUInt32.toUInt16.toUInt32.toInt32 = .int x
    have hn : (x.toUInt32.toUInt16.toUInt32.toInt32).toBitVec.toNat = x.toBitVec.toNat % 65536 := by
      show ((x.toBitVec.setWidth 16).setWidth 32).toNat = _
      rw [BitVec.toNat_setWidth, BitVec.toNat_setWidth]
      omega
    obtain ⟨e, l⟩ := ai_nn hz.1
    congr 1
    apply Int32.toInt_inj.mp
    rw [ai_of (by omega), hn, e]
    omega
  · rename_i q p
    have h := of_decide_eq_true h
    obtain ⟨x, rfl, ha⟩ := one g4
    obtain ⟨v, e1, e2⟩ := g5.2.1 _ _ (mem_get_in h)
    obtain ⟨y, rfl, e3⟩ := av_int (k := q.1) (o := q.2) e2
    have ha' : av_ev iv.length ρ q.1 q.2 x.toInt := ha
    have hxy : y = x := by
      apply Int32.toInt_inj.mp
      obtain ⟨qk, qo⟩ := q
      cases qk with
      | none =>
        have z1 : y.toInt = qo := e3
        have z2 : x.toInt = qo := ha'
        omega
      | some k => have z1 := e3.2; have z2 := ha'.2; dsimp only at z1 z2; omega
    subst hxy
    exact ⟨(W.1, some (.int y)), ⟨y, rfl, rfl⟩, rfl, e1⟩
  · cases h
end
section
/-! THE EXECUTOR (second writing), part 13: segments, methods -/
/-- states behind a row whose answer is told apart -/
noncomputable def sp_do (spl : List Nat) (pc : Nat) (As : List AS) : Option (List AS) := bif spl.contains pc then (match As with
  | [] => some []
  | B :: l => match as_split B with
    | none => none
    | some Bs => match sp_do spl pc l with
      | none => none
      | some r => some (Bs ++ r)) else some As
theorem sp_do_ok {w : AW} {E : AEnv} {spl : List Nat} {pc : Nat} {σ : pm_S} {B : AS} (g : as_g w E B σ) : ∀ {As Rs : List AS}, sp_do spl pc As = some Rs → B ∈ As → ∃ C ∈ Rs, as_g w E C σ := by
  intro As
  induction As with
  | nil => intro Rs _ hm; exact absurd hm List.not_mem_nil
  | cons A l ih =>
    intro Rs h hm
    unfold sp_do at h
    cases hc : spl.contains pc with
    | false =>
      rw [hc] at h
      cases h
      exact ⟨B, hm, g⟩
    | true =>
      rw [hc, cond_true] at h
      dsimp only at h
      cases h1 : as_split A with
      | none => rw [h1] at h; cases h
      | some Bs =>
        rw [h1] at h
        dsimp only at h
        cases h2 : sp_do spl pc l with
        | none => rw [h2] at h; cases h
        | some r =>
          rw [h2] at h
          cases h
          cases List.mem_cons.mp hm with
          | inl e =>
            subst e
            obtain ⟨C, hC, gC⟩ := as_split_ok g h1
            exact ⟨C, List.mem_append_left _ hC, gC⟩
          | inr hm =>
            obtain ⟨C, hC, gC⟩ := ih h2 hm
            exact ⟨C, List.mem_append_right _ hC, gC⟩
end
