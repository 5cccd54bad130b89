section
noncomputable def cvs_le (iv : IV) : List AV → List CV → Bool
  | [], [] => true
  | a :: l, c :: m => cv_le iv a c && cvs_le iv l m
  | _, _ => false
theorem cvs_le_ok {E : AEnv} {n : Nat} {ρ : Nat → Int} {iv : IV} (g : ia_g E ρ iv) : ∀ {l : List AV} {m : List CV} {vs : List Value}, f2 (fun a v => av_g n ρ a v) l vs → cvs_le iv l m = true → f2 cv_g m vs
  | [], [], [], _, _ => trivial
  | [], [], _ :: _, h, _ => h.elim
  | [], _ :: _, _, _, h => by cases h
  | _ :: _, [], _, _, h => by cases h
  | _ :: _, _ :: _, [], h, _ => h.elim
  | a :: l, c :: m, v :: vs, hl, h => by
    unfold cvs_le at h
    rw [Bool.and_eq_true] at h
    exact ⟨cv_le_ok g hl.1 h.1, cvs_le_ok g hl.2 h.2⟩
/-- memory by bounds -/
noncomputable abbrev MB : Type := List ((Nat × Nat) × Int × Int)
noncomputable def mm_g (h : pm_H) (m : MB) : Prop := ∀ q ∈ m, ∃ x : Int32, ld h q.1.1 q.1.2 = some (.int x) ∧ q.2.1 ≤ x.toInt ∧ x.toInt ≤ q.2.2
noncomputable def mm_le (iv : IV) (mem : Mem) (m : MB) : Bool := m.all (fun q => match mem_get mem q.1.1 q.1.2 with | some a => cv_le iv a (.inl q.2) | none => false)
theorem mm_le_ok {w : AW} {E : AEnv} {n : Nat} {ρ : Nat → Int} {iv : IV} {ex : AX} {cl : List (Nat × Value)} {h : pm_H} {m : MB} (g : ia_g E ρ iv) (g5 : ex_g w E n ρ ex cl h) (hm : mm_le iv ex.1 m = true) : mm_g h m := by
  intro q hq
  have h1 := List.all_eq_true.mp hm q hq
  split at h1
  · rename_i a e
    obtain ⟨v, e1, e2⟩ := g5.2.1 _ _ (mem_get_in e)
    have h2 := cv_le_ok g e2 h1
    cases v with
    | int x => exact ⟨x, e1, h2⟩
    | _ => exact h2.elim
  · cases h1
/-- a case of what a method does: its arguments, memory and facts behind it, the answer (a kind, or what lies at a place) -/
noncomputable abbrev Cs : Type := List CV × MB × List Nat × Option (CV ⊕ (Nat × Nat))
/-- what is known of a method: number, arguments, memory, facts; what it stores to; cases -/
noncomputable abbrev Sum1 : Type := Nat × List CV × MB × List Nat × List Rng × List Cs
noncomputable def rv_g (h : pm_H) (c : Option (CV ⊕ (Nat × Nat))) (r : Option Value) : Prop := match c, r with
  | none, none => True
  | some (.inl c), some v => cv_g c v
  | some (.inr q), some (.int x) => ld h q.1 q.2 = some (.int x)
  | _, _ => False
noncomputable def cs_g (w : AW) (as : List Value) (h' : pm_H) (r : Option Value) (C : Cs) : Prop := f2 cv_g C.1 as ∧ mm_g h' C.2.1 ∧ (∀ i ∈ C.2.2.1, w.1.2.1 i h') ∧ rv_g h' C.2.2.2 r
noncomputable def fr_g (M : List Rng) (h h' : pm_H) : Prop := ∀ a k, rg_in M a k = false → ld h' a k = ld h a k
noncomputable def sum_g (w : AW) (call : pm_Call) (S : Sum1) : Prop := ∀ (h : pm_H) (as : List Value), hs_g w.1.1 h → f2 cv_g S.2.1 as → mm_g h S.2.2.1 → (∀ i ∈ S.2.2.2.1, w.1.2.1 i h) → ∃ h' r, call S.1 h as h' r ∧ hs_g w.1.1 h' ∧ fr_g S.2.2.2.2.1 h h' ∧ ∃ C ∈ S.2.2.2.2.2, cs_g w as h' r C
/-- arguments narrowed by a case -/
noncomputable def nar_as (iv : IV) : List AV → List CV → Option IV
  | .inl (k, o) :: l, .inl (lo, hi) :: m => match iv_nar iv k o lo hi with | some iv => nar_as iv l m | none => none
  | .inr (.inl (k, o)) :: l, .inr (.inl (lo, hi)) :: m => match iv_nar iv k o lo hi with | some iv => nar_as iv l m | none => none
  | _ :: l, _ :: m => nar_as iv l m
  | _, _ => some iv
theorem nar_as_ok {E : AEnv} {ρ : Nat → Int} : ∀ {l : List AV} {m : List CV} {vs : List Value} {iv : IV}, ia_g E ρ iv → f2 (fun a v => av_g iv.length ρ a v) l vs → f2 cv_g m vs → ∃ iv', nar_as iv l m = some iv' ∧ iv'.length = iv.length ∧ ia_g E ρ iv' := by
  intro l
  induction l with
  | nil => intro m vs iv g _ _; exact ⟨iv, by cases m <;> rfl, rfl, g⟩
  | cons a l ih =>
    intro m vs iv g h1 h2
    cases m with
    | nil => exact ⟨iv, by unfold nar_as; split <;> first | contradiction | rfl, rfl, g⟩
    | cons c m =>
      obtain ⟨v, vs, rfl, ha, hl⟩ := f2_cons h1
      have skip : ∃ iv', nar_as iv l m = some iv' ∧ iv'.length = iv.length ∧ ia_g E ρ iv' := ih g hl h2.2
      rcases a with ⟨k, o⟩ | ⟨k, o⟩ | a | a | ⟨⟩
      · obtain ⟨x, rfl, ha⟩ := av_int ha
        rcases c with ⟨lo, hi⟩ | ⟨lo, hi⟩ | c | c | ⟨⟩
        · obtain ⟨i1, e1, n1, g1⟩ := iv_nar_ok g ha h2.1.1 h2.1.2
          obtain ⟨i2, e2, n2, g2⟩ := ih (m := m) (vs := vs) g1 (by rw [n1]; exact hl) h2.2
          exact ⟨i2, by unfold nar_as; rw [e1]; exact e2, by omega, g2⟩
        · exact h2.1.elim
        · exact h2.1.elim
        · exact h2.1.elim
        · exact h2.1.elim
      · obtain ⟨x, rfl, ha⟩ := av_long ha
        rcases c with ⟨lo, hi⟩ | ⟨lo, hi⟩ | c | c | ⟨⟩
        · exact h2.1.elim
        · obtain ⟨i1, e1, n1, g1⟩ := iv_nar_ok g ha h2.1.1 h2.1.2
          obtain ⟨i2, e2, n2, g2⟩ := ih (m := m) (vs := vs) g1 (by rw [n1]; exact hl) h2.2
          exact ⟨i2, by unfold nar_as; rw [e1]; exact e2, by omega, g2⟩
        · exact h2.1.elim
        · exact h2.1.elim
        · exact h2.1.elim
      · exact skip
      · exact skip
      · exact skip
/-- what a call leaves known -/
noncomputable def ex_call (w : AW) (ex : AX) (M : List Rng) (F : List Nat) : AX := (ex.1.filter (fun q => !(rg_in M q.1.1 q.1.2)), ex.2.1, F ++ ex.2.2.1.filter (fun i => M.all (fun r => rg_dis (w.1.2.2 i) r.1 r.2.1 r.2.2)), ex.2.2.2)
theorem ex_call_ok {w : AW} {E : AEnv} {n : Nat} {ρ : Nat → Int} {ex : AX} {cl : List (Nat × Value)} {h h' : pm_H} {M : List Rng} {F : List Nat} (g : ex_g w E n ρ ex cl h) (hs : hs_g w.1.1 h') (hf : fr_g M h h') (hM : M.all (fun r => rg_sub ex.2.2.2.1 r.1 r.2.1 r.2.2) = true) (hF : ∀ i ∈ F, w.1.2.1 i h') : ex_g w E n ρ (ex_call w ex M F) cl h' := by
  obtain ⟨g1, g2, g3, g4, g5, g6⟩ := g
  have hin : ∀ a k, rg_in M a k = true → rg_in ex.2.2.2.1 a k = true := by
    intro a k hak
    obtain ⟨r, hr, hb⟩ := List.any_eq_true.mp hak
    simp only [Bool.and_eq_true] at hb
    have h1 := List.all_eq_true.mp hM r hr
    have he := Nat.eq_of_beq_eq_true hb.1
    subst he
    exact rg_sub_in h1 (Nat.le_of_ble_eq_true hb.2.1) (Nat.le_of_ble_eq_true hb.2.2)
  refine ⟨hs, fun q b hm => ?_, g3, fun j hj => ?_, fun b k hk => ?_, g6⟩
  · obtain ⟨hm1, hm2⟩ := List.mem_filter.mp hm
    obtain ⟨v, e1, e2⟩ := g2 q b hm1
    refine ⟨v, ?_, e2⟩
    rw [hf _ _ (by simpa using hm2)]
    exact e1
  · cases List.mem_append.mp hj with
    | inl hj => exact hF j hj
    | inr hj =>
      obtain ⟨hm1, hm2⟩ := List.mem_filter.mp hj
      refine w.2 j h h' g1 hs (fun b k hbk => hf b k ?_) (g4 j hm1)
      cases hM2 : rg_in M b k with
      | false => rfl
      | true =>
        obtain ⟨r, hr, hb⟩ := List.any_eq_true.mp hM2
        simp only [Bool.and_eq_true] at hb
        have h1 := List.all_eq_true.mp hm2 r hr
        have he := Nat.eq_of_beq_eq_true hb.1
        subst he
        rw [rg_dis_in h1 (Nat.le_of_ble_eq_true hb.2.1) (Nat.le_of_ble_eq_true hb.2.2)] at hbk
        cases hbk
  · have hk : rg_in ex.2.2.2.1 b k = false := hk
    rw [hf b k (by cases hM2 : rg_in M b k with | false => rfl | true => rw [hin b k hM2] at hk; cases hk)]
    exact g5 b k hk
end
