/-! THE EXECUTOR (second writing), part 11: calls by what is known of them -/
theorem f2_len {α β : Type} {R : α → β → Prop} : ∀ {l : List α} {m : List β}, f2 R l m → m.length = l.length
  | [], [], _ => rfl
  | [], _ :: _, h => h.elim
  | _ :: _, [], h => h.elim
  | _ :: _, _ :: _, h => congrArg (· + 1) (f2_len h.2)
theorem f2_app {α β : Type} {R : α → β → Prop} {l' : List α} {m' : List β} (h' : f2 R l' m') : ∀ {l : List α} {m : List β}, f2 R l m → f2 R (l ++ l') (m ++ m')
  | [], [], _ => h'
  | [], _ :: _, h => h.elim
  | _ :: _, [], h => h.elim
  | _ :: _, _ :: _, h => ⟨h.1, f2_app h' h.2⟩
theorem f2_rev {α β : Type} {R : α → β → Prop} : ∀ {l : List α} {m : List β}, f2 R l m → f2 R l.reverse m.reverse
  | [], [], _ => trivial
  | [], _ :: _, h => h.elim
  | _ :: _, [], h => h.elim
  | a :: l, b :: m, h => by
    rw [List.reverse_cons, List.reverse_cons]
    exact f2_app (l' := [a]) (m' := [b]) ⟨h.1, trivial⟩ (f2_rev h.2)
theorem f2_take {α β : Type} {R : α → β → Prop} : ∀ (k : Nat) {l : List α} {m : List β}, f2 R l m → f2 R (l.take k) (m.take k)
  | 0, _, _, _ => by simp only [List.take_zero]; trivial
  | k + 1, [], [], _ => trivial
  | k + 1, [], _ :: _, h => h.elim
  | k + 1, _ :: _, [], h => h.elim
  | k + 1, _ :: _, _ :: _, h => ⟨h.1, f2_take k h.2⟩
theorem f2_drop {α β : Type} {R : α → β → Prop} : ∀ (k : Nat) {l : List α} {m : List β}, f2 R l m → f2 R (l.drop k) (m.drop k)
  | 0, _, _, h => h
  | k + 1, [], [], _ => trivial
  | k + 1, [], _ :: _, h => h.elim
  | k + 1, _ :: _, [], h => h.elim
  | k + 1, _ :: _, _ :: _, h => f2_drop k h.2
noncomputable def av_sz (st : List AV) : Nat := (st.map av_cat).sum
theorem av_sz_eq {n : Nat} {ρ : Nat → Int} : ∀ {l : List AV} {m : List Value}, f2 (fun a v => av_g n ρ a v) l m → pm_sz m = av_sz l
  | [], [], _ => rfl
  | [], _ :: _, h => h.elim
  | _ :: _, [], h => h.elim
  | a :: l, v :: m, h => by
    have ih := av_sz_eq h.2
    have hc := av_cat_eq h.1
    unfold pm_sz av_sz at ih ⊢
    rw [List.map_cons, List.map_cons, List.sum_cons, List.sum_cons, ih, hc]
noncomputable def rc_chk (hs : List AE) (ci : Option Nat) (args : List AV) : Bool := match ci, args with
  | none, _ => true
  | some q, .inr (.inr (.inl a)) :: _ => Nat.blt q 100 && (match hs[a]? with | some (.inr (.inr (.inr (cj, _)))) => Nat.beq cj q | _ => false)
  | some q, .inr (.inr (.inr (.inl k))) :: _ => Nat.ble 100 q && (Nat.ble 4 k && Nat.blt k 12)
  | _, _ => false
theorem rc_chk_ok {hs : List AE} {n : Nat} {ρ : Nat → Int} {h : pm_H} {ci : Option Nat} {args : List AV} {vs : List Value} (H : hs_g hs h) (hv : f2 (fun a v => av_g n ρ a v) args vs) (hc : rc_chk hs ci args = true) :
    ∀ q : Nat, ci = some q → (q < 100 → ∃ (a : Nat) (fs : List Value) (as : List Value), vs = .ref a :: as ∧ h[a]? = some (.inr (q, fs))) ∧ (100 ≤ q → ∃ (i : Nat) (as : List Value), i < 8 ∧ vs = .retAddr (4 + i) :: as) := by
  intro q hq
  subst hq
  unfold rc_chk at hc
  split at hc
  · rename_i e; cases e
  · rename_i q' a rest e
    cases e
    rw [Bool.and_eq_true] at hc
    have hlt : q < 100 := Nat.le_of_ble_eq_true hc.1
    refine ⟨fun _ => ?_, fun hge => absurd hlt (Nat.not_lt.mpr hge)⟩
    obtain ⟨v, cs, rfl, ha, hr⟩ := f2_cons hv
    have h2 := hc.2
    split at h2
    · rename_i cj fs0 e2
      have hj : cj = q := Nat.eq_of_beq_eq_true h2
      subst hj
      obtain ⟨x, hx, hg⟩ := hs_at H e2
      obtain rfl := av_ref ha
      match x, hx, hg with
      | .inr (cq, vs'), hx, hg =>
        obtain ⟨rfl, -, -⟩ := hg
        exact ⟨a, vs', cs, rfl, hx⟩
    · cases h2
  · rename_i q' k rest e
    cases e
    rw [Bool.and_eq_true, Bool.and_eq_true] at hc
    have hge : 100 ≤ q := Nat.le_of_ble_eq_true hc.1
    have h4 : 4 ≤ k := Nat.le_of_ble_eq_true hc.2.1
    have h12 : k < 12 := Nat.le_of_ble_eq_true hc.2.2
    refine ⟨fun hlt => absurd hlt (Nat.not_lt.mpr hge), fun _ => ?_⟩
    obtain ⟨v, cs, rfl, ha, hr⟩ := f2_cons hv
    obtain rfl := av_out ha
    refine ⟨k - 4, cs, by omega, ?_⟩
    rw [show 4 + (k - 4) = k by omega]
  · cases hc
/-- an abstract value lies in a kind -/
noncomputable def cv_le (iv : IV) (a : AV) (c : CV) : Bool := match a, c with
  | .inl (k, o), .inl (lo, hi) => match iv_rng iv k o with | some (l, u) => decide (lo ≤ l) && decide (u ≤ hi) | none => false
  | .inr (.inl (k, o)), .inr (.inl (lo, hi)) => match iv_rng iv k o with | some (l, u) => decide (lo ≤ l) && decide (u ≤ hi) | none => false
  | .inr (.inr (.inl a)), .inr (.inr (.inl a')) => Nat.beq a a'
  | .inr (.inr (.inr (.inl a))), .inr (.inr (.inr (.inl a'))) => Nat.beq a a'
  | .inr (.inr (.inr (.inr ()))), .inr (.inr (.inr (.inr ()))) => true
  | _, _ => false
theorem cv_le_ok {E : AEnv} {n : Nat} {ρ : Nat → Int} {iv : IV} {a : AV} {c : CV} {v : Value} (g : ia_g E ρ iv) (hv : av_g n ρ a v) (h : cv_le iv a c = true) : cv_g c v := by
  unfold cv_le at h
  split at h
  · split at h
    · rename_i l u hr
      simp only [Bool.and_eq_true, decide_eq_true_eq] at h
      obtain ⟨x, rfl, hv⟩ := av_int hv
      have := iv_rng_ok g hv hr
      exact ⟨by omega, by omega⟩
    · cases h
  · split at h
    · rename_i l u hr
      simp only [Bool.and_eq_true, decide_eq_true_eq] at h
      obtain ⟨x, rfl, hv⟩ := av_long hv
      have := iv_rng_ok g hv hr
      exact ⟨by omega, by omega⟩
    · cases h
  · have h := Nat.eq_of_beq_eq_true h
    subst h
    cases v <;> first | exact hv | exact hv.elim
  · have h := Nat.eq_of_beq_eq_true h
    subst h
    cases v <;> first | exact hv | exact hv.elim
  · cases v <;> first | exact hv | exact hv.elim
  · cases h
noncomputable def cvs_le (iv : IV) : List AV → List CV → Bool
  | [], [] => true
  | a :: l, c :: m => cv_le iv a c && cvs_le iv l m
  | _, _ => false
theorem cvs_le_ok {E : AEnv} {n : Nat} {ρ : Nat → Int} {iv : IV} (g : ia_g E ρ iv) : ∀ {l : List AV} {m : List CV} {vs : List Value}, f2 (fun a v => av_g n ρ a v) l vs → cvs_le iv l m = true → f2 cv_g m vs
  | [], [], [], _, _ => trivial
  | [], [], _ :: _, h, _ => h.elim
  | [], _ :: _, _, _, h => by cases h
  | _ :: _, [], _, _, h => by cases h
  | _ :: _, _ :: _, [], h, _ => h.elim
  | a :: l, c :: m, v :: vs, hl, h => by
    unfold cvs_le at h
    rw [Bool.and_eq_true] at h
    exact ⟨cv_le_ok g hl.1 h.1, cvs_le_ok g hl.2 h.2⟩
/-- memory by bounds -/
noncomputable abbrev MB : Type := List ((Nat × Nat) × Int × Int)
noncomputable def mm_g (h : pm_H) (m : MB) : Prop := ∀ q ∈ m, ∃ x : Int32, ld h q.1.1 q.1.2 = some (.int x) ∧ q.2.1 ≤ x.toInt ∧ x.toInt ≤ q.2.2
noncomputable def mm_le (iv : IV) (mem : Mem) (m : MB) : Bool := m.all (fun q => match mem_get mem q.1.1 q.1.2 with | some a => cv_le iv a (.inl q.2) | none => false)
theorem mm_le_ok {w : AW} {E : AEnv} {n : Nat} {ρ : Nat → Int} {iv : IV} {ex : AX} {cl : List (Nat × Value)} {h : pm_H} {m : MB} (g : ia_g E ρ iv) (g5 : ex_g w E n ρ ex cl h) (hm : mm_le iv ex.1 m = true) : mm_g h m := by
  intro q hq
  have h1 := List.all_eq_true.mp hm q hq
  split at h1
  · rename_i a e
    obtain ⟨v, e1, e2⟩ := g5.2.1 _ _ (mem_get_in e)
    have h2 := cv_le_ok g e2 h1
    cases v with
    | int x => exact ⟨x, e1, h2⟩
    | _ => exact h2.elim
  · cases h1
/-- a case of what a method does: its arguments, memory and facts behind it, the answer (a kind, or what lies at a place) -/
noncomputable abbrev Cs : Type := List CV × MB × List Nat × Option (CV ⊕ (Nat × Nat))
/-- what is known of a method: number, arguments, memory, facts; what it stores to; cases -/
noncomputable abbrev Sum1 : Type := Nat × List CV × MB × List Nat × List Rng × List Cs
noncomputable def rv_g (h : pm_H) (c : Option (CV ⊕ (Nat × Nat))) (r : Option Value) : Prop := match c, r with
  | none, none => True
  | some (.inl c), some v => cv_g c v
  | some (.inr q), some (.int x) => ld h q.1 q.2 = some (.int x)
  | _, _ => False
noncomputable def cs_g (w : AW) (as : List Value) (h' : pm_H) (r : Option Value) (C : Cs) : Prop := f2 cv_g C.1 as ∧ mm_g h' C.2.1 ∧ (∀ i ∈ C.2.2.1, w.1.2.1 i h') ∧ rv_g h' C.2.2.2 r
noncomputable def fr_g (M : List Rng) (h h' : pm_H) : Prop := ∀ a k, rg_in M a k = false → ld h' a k = ld h a k
noncomputable def sum_g (w : AW) (call : pm_Call) (S : Sum1) : Prop := ∀ (h : pm_H) (as : List Value), hs_g w.1.1 h → f2 cv_g S.2.1 as → mm_g h S.2.2.1 → (∀ i ∈ S.2.2.2.1, w.1.2.1 i h) → ∃ h' r, call S.1 h as h' r ∧ hs_g w.1.1 h' ∧ fr_g S.2.2.2.2.1 h h' ∧ ∃ C ∈ S.2.2.2.2.2, cs_g w as h' r C
/-- arguments narrowed by a case -/
noncomputable def nar_as (iv : IV) : List AV → List CV → Option IV
  | .inl (k, o) :: l, .inl (lo, hi) :: m => match iv_nar iv k o lo hi with | some iv => nar_as iv l m | none => none
  | .inr (.inl (k, o)) :: l, .inr (.inl (lo, hi)) :: m => match iv_nar iv k o lo hi with | some iv => nar_as iv l m | none => none
  | _ :: l, _ :: m => nar_as iv l m
  | _, _ => some iv
theorem nar_as_ok {E : AEnv} {ρ : Nat → Int} : ∀ {l : List AV} {m : List CV} {vs : List Value} {iv : IV}, ia_g E ρ iv → f2 (fun a v => av_g iv.length ρ a v) l vs → f2 cv_g m vs → ∃ iv', nar_as iv l m = some iv' ∧ iv'.length = iv.length ∧ ia_g E ρ iv' := by
  intro l
  induction l with
  | nil => intro m vs iv g _ _; exact ⟨iv, by cases m <;> rfl, rfl, g⟩
  | cons a l ih =>
    intro m vs iv g h1 h2
    cases m with
    | nil => exact ⟨iv, by unfold nar_as; split <;> first | contradiction | rfl, rfl, g⟩
    | cons c m =>
      obtain ⟨v, vs, rfl, ha, hl⟩ := f2_cons h1
      have skip : ∃ iv', nar_as iv l m = some iv' ∧ iv'.length = iv.length ∧ ia_g E ρ iv' := ih g hl h2.2
      rcases a with ⟨k, o⟩ | ⟨k, o⟩ | a | a | ⟨⟩
      · obtain ⟨x, rfl, ha⟩ := av_int ha
        rcases c with ⟨lo, hi⟩ | ⟨lo, hi⟩ | c | c | ⟨⟩
        · obtain ⟨i1, e1, n1, g1⟩ := iv_nar_ok g ha h2.1.1 h2.1.2
          obtain ⟨i2, e2, n2, g2⟩ := ih (m := m) (vs := vs) g1 (by rw [n1]; exact hl) h2.2
          exact ⟨i2, by unfold nar_as; rw [e1]; exact e2, by omega, g2⟩
        · exact h2.1.elim
        · exact h2.1.elim
        · exact h2.1.elim
        · exact h2.1.elim
      · obtain ⟨x, rfl, ha⟩ := av_long ha
        rcases c with ⟨lo, hi⟩ | ⟨lo, hi⟩ | c | c | ⟨⟩
        · exact h2.1.elim
        · obtain ⟨i1, e1, n1, g1⟩ := iv_nar_ok g ha h2.1.1 h2.1.2
          obtain ⟨i2, e2, n2, g2⟩ := ih (m := m) (vs := vs) g1 (by rw [n1]; exact hl) h2.2
          exact ⟨i2, by unfold nar_as; rw [e1]; exact e2, by omega, g2⟩
        · exact h2.1.elim
        · exact h2.1.elim
        · exact h2.1.elim
      · exact skip
      · exact skip
      · exact skip
/-- what a call leaves known -/
noncomputable def ex_call (w : AW) (ex : AX) (M : List Rng) (F : List Nat) : AX := (ex.1.filter (fun q => !(rg_in M q.1.1 q.1.2)), ex.2.1, F ++ ex.2.2.1.filter (fun i => M.all (fun r => rg_dis (w.1.2.2 i) r.1 r.2.1 r.2.2)), ex.2.2.2)
theorem ex_call_ok {w : AW} {E : AEnv} {n : Nat} {ρ : Nat → Int} {ex : AX} {cl : List (Nat × Value)} {h h' : pm_H} {M : List Rng} {F : List Nat} (g : ex_g w E n ρ ex cl h) (hs : hs_g w.1.1 h') (hf : fr_g M h h') (hM : M.all (fun r => rg_sub ex.2.2.2.1 r.1 r.2.1 r.2.2) = true) (hF : ∀ i ∈ F, w.1.2.1 i h') : ex_g w E n ρ (ex_call w ex M F) cl h' := by
  obtain ⟨g1, g2, g3, g4, g5, g6⟩ := g
  have hin : ∀ a k, rg_in M a k = true → rg_in ex.2.2.2.1 a k = true := by
    intro a k hak
    obtain ⟨r, hr, hb⟩ := List.any_eq_true.mp hak
    simp only [Bool.and_eq_true] at hb
    have h1 := List.all_eq_true.mp hM r hr
    have he := Nat.eq_of_beq_eq_true hb.1
    subst he
    exact rg_sub_in h1 (Nat.le_of_ble_eq_true hb.2.1) (Nat.le_of_ble_eq_true hb.2.2)
  refine ⟨hs, fun q b hm => ?_, g3, fun j hj => ?_, fun b k hk => ?_, g6⟩
  · obtain ⟨hm1, hm2⟩ := List.mem_filter.mp hm
    obtain ⟨v, e1, e2⟩ := g2 q b hm1
    refine ⟨v, ?_, e2⟩
    rw [hf _ _ (by simpa using hm2)]
    exact e1
  · cases List.mem_append.mp hj with
    | inl hj => exact hF j hj
    | inr hj =>
      obtain ⟨hm1, hm2⟩ := List.mem_filter.mp hj
      refine w.2 j h h' g1 hs (fun b k hbk => hf b k ?_) (g4 j hm1)
      cases hM2 : rg_in M b k with
      | false => rfl
      | true =>
        obtain ⟨r, hr, hb⟩ := List.any_eq_true.mp hM2
        simp only [Bool.and_eq_true] at hb
        have h1 := List.all_eq_true.mp hm2 r hr
        have he := Nat.eq_of_beq_eq_true hb.1
        subst he
        rw [rg_dis_in h1 (Nat.le_of_ble_eq_true hb.2.1) (Nat.le_of_ble_eq_true hb.2.2)] at hbk
        cases hbk
  · have hk : rg_in ex.2.2.2.1 b k = false := hk
    rw [hf b k (by cases hM2 : rg_in M b k with | false => rfl | true => rw [hin b k hM2] at hk; cases hk)]
    exact g5 b k hk
/-- memory of a case is taken in -/
noncomputable def mem_take (iv : IV) (ex : AX) : MB → Option (IV × AX)
  | [] => some (iv, ex)
  | (q, lo, hi) :: m => match mem_get ex.1 q.1 q.2 with
    | some (.inl (k, o)) => match iv_nar iv k o lo hi with | some iv => mem_take iv ex m | none => none
    | some _ => mem_take iv ex m
    | none => bif decide (lo = hi) then mem_take iv (ex_note ex q.1 q.2 (.inl (none, lo))) m else mem_take (iv ++ [(lo, hi)]) (ex_note ex q.1 q.2 (.inl (some iv.length, 0))) m
theorem mem_take_ok {w : AW} {E : AEnv} {pc : Nat} {lv : List (Nat × AV)} {st : List AV} {σ : pm_S} : ∀ (m : MB) (iv : IV) (ex : AX) (ρ : Nat → Int), as_r w E ρ (pc, lv, st, iv, ex) σ → mm_g σ.2.2.2.1 m → ∃ q : IV × AX, mem_take iv ex m = some q ∧ as_g w E (pc, lv, st, q.1, q.2) σ
  | [], iv, ex, ρ, g, _ => ⟨(iv, ex), rfl, ρ, g⟩
  | ((a, k), lo, hi) :: m, iv, ex, ρ, g, hm => by
    obtain ⟨x, e1, e2, e3⟩ := hm _ List.mem_cons_self
    have hm' : mm_g σ.2.2.2.1 m := fun q hq => hm q (List.mem_cons_of_mem _ hq)
    dsimp only at e1 e2 e3
    unfold mem_take
    dsimp only
    split
    · rename_i kk o hg
      obtain ⟨v, f1, f2'⟩ := g.2.2.2.2.2.1 _ _ (mem_get_in hg)
      dsimp only at f1
      rw [e1] at f1
      cases f1
      obtain ⟨i1, q1, q2, q3⟩ := iv_nar_ok g.1 f2' e2 e3
      dsimp only at q1
      rw [q1]
      exact mem_take_ok m i1 ex ρ (as_iv g q2 q3) hm'
    · exact mem_take_ok m iv ex ρ g hm'
    · cases hb : decide (lo = hi) with
      | true =>
        have hb := of_decide_eq_true hb
        have hv : x.toInt = lo := by omega
        refine mem_take_ok m iv _ ρ ?_ hm'
        obtain ⟨g1, g2, g3, g4, g5⟩ := g
        exact ⟨g1, g2, g3, g4, ex_note_ok g5 e1 hv⟩
      | false =>
        obtain ⟨⟨g1, g2, g3, g4, g5⟩, e⟩ := as_grow g e2 e3
        exact mem_take_ok m _ _ _ ⟨g1, g2, g3, g4, ex_note_ok g5 e1 e⟩ hm'
/-- a value of a kind, as an abstract one -/
noncomputable def ci_av (c : CV) (iv : IV) : AV × IV := match c with
  | .inl (lo, hi) => bif decide (lo = hi) then (.inl (none, lo), iv) else (.inl ((some iv.length), 0), iv ++ [(lo, hi)])
  | .inr (.inl (lo, hi)) => bif decide (lo = hi) then (.inr (.inl (none, lo)), iv) else (.inr (.inl ((some iv.length), 0)), iv ++ [(lo, hi)])
  | .inr (.inr (.inl a)) => (.inr (.inr (.inl a)), iv)
  | .inr (.inr (.inr (.inl k))) => (.inr (.inr (.inr (.inl k))), iv)
  | .inr (.inr (.inr (.inr ()))) => (.inr (.inr (.inr (.inr ()))), iv)
theorem ci_av_ok {w : AW} {E : AEnv} {ρ : Nat → Int} {c : CV} {pc : Nat} {lv : List (Nat × AV)} {st : List AV} {iv : IV} {ex : AX} {σ : pm_S} {v : Value} (g : as_r w E ρ (pc, lv, st, iv, ex) σ) (hv : cv_g c v) :
    ∃ ρ', as_r w E ρ' (pc, lv, st, (ci_av c iv).2, ex) σ ∧ av_g (ci_av c iv).2.length ρ' (ci_av c iv).1 v ∧ iv.length ≤ (ci_av c iv).2.length ∧ ∀ k, k < iv.length → ρ' k = ρ k := by
  rcases c with ⟨lo, hi⟩ | ⟨lo, hi⟩ | a | a | ⟨⟩
  · cases v with
    | int x =>
      unfold ci_av
      dsimp only
      cases hb : decide (lo = hi) with
      | true =>
        have hb := of_decide_eq_true hb
        exact ⟨ρ, g, (by have := hv.1; have := hv.2; show x.toInt = lo; omega), Nat.le_refl _, fun _ _ => rfl⟩
      | false =>
        obtain ⟨g', e⟩ := as_grow g hv.1 hv.2
        exact ⟨_, g', e, by show iv.length ≤ (iv ++ [(lo, hi)]).length; rw [List.length_append]; exact Nat.le_add_right _ _, iv_ext_old⟩
    | _ => exact hv.elim
  · cases v with
    | long x =>
      unfold ci_av
      dsimp only
      cases hb : decide (lo = hi) with
      | true =>
        have hb := of_decide_eq_true hb
        exact ⟨ρ, g, (by have := hv.1; have := hv.2; show x.toInt = lo; omega), Nat.le_refl _, fun _ _ => rfl⟩
      | false =>
        obtain ⟨g', e⟩ := as_grow g hv.1 hv.2
        exact ⟨_, g', e, by show iv.length ≤ (iv ++ [(lo, hi)]).length; rw [List.length_append]; exact Nat.le_add_right _ _, iv_ext_old⟩
    | _ => exact hv.elim
  · exact ⟨ρ, g, by cases v <;> first | exact hv | exact hv.elim, Nat.le_refl _, fun _ _ => rfl⟩
  · exact ⟨ρ, g, by cases v <;> first | exact hv | exact hv.elim, Nat.le_refl _, fun _ _ => rfl⟩
  · exact ⟨ρ, g, by cases v <;> first | exact hv | exact hv.elim, Nat.le_refl _, fun _ _ => rfl⟩
/-- the state behind a call, in one case -/
noncomputable def case_do (w : AW) (A : AS) (k : Nat) (M : List Rng) (C : Cs) : Option AS := match nar_as A.2.2.2.1 (A.2.2.1.take k).reverse C.1 with
  | none => none
  | some iv => match mem_take iv (ex_call w A.2.2.2.2 M C.2.2.1) C.2.1 with
    | none => none
    | some (iv, ex) => match C.2.2.2 with
      | none => some (A.1 + 3, A.2.1, A.2.2.1.drop k, iv, ex)
      | some (.inl c) => some (A.1 + 3, A.2.1, (ci_av c iv).1 :: A.2.2.1.drop k, (ci_av c iv).2, ex)
      | some (.inr q) => match mem_get ex.1 q.1 q.2 with
        | some a => some (A.1 + 3, A.2.1, a :: A.2.2.1.drop k, iv, ex)
        | none => some (a_pi (A.1 + 3) A.2.1 (A.2.2.1.drop k) iv ex (-2147483648) 2147483647)
noncomputable def call_do (w : AW) (sums : List Sum1) (A : AS) (y k : Nat) (ci : Option Nat) (mc ms : Nat) : Option (List AS) :=
  bif Nat.ble k A.2.2.1.length && (Nat.beq mc 0 && (Nat.beq ms 0 && (Nat.ble (av_sz (A.2.2.1.drop k)) 8 && rc_chk w.1.1 ci (A.2.2.1.take k).reverse))) then
    match sums.find? (fun S => Nat.beq S.1 y && (cvs_le A.2.2.2.1 (A.2.2.1.take k).reverse S.2.1 && (mm_le A.2.2.2.1 A.2.2.2.2.1 S.2.2.1 && (S.2.2.2.1.all (fun i => A.2.2.2.2.2.2.1.contains i) && S.2.2.2.2.1.all (fun r => rg_sub A.2.2.2.2.2.2.2.1 r.1 r.2.1 r.2.2))))) with
    | some S => some (S.2.2.2.2.2.flatMap (fun C => (case_do w A k S.2.2.2.2.1 C).toList))
    | none => none
  else none
theorem case_do_ok {w : AW} {E : AEnv} {ρ : Nat → Int} {A : AS} {pc' : Nat} {cl : List (Nat × Value)} {cs : List Value} {W : pm_H × Nat × Nat} {k : Nat} {M : List Rng} {C : Cs} {h' : pm_H} {r : Option Value} {z : Nat × Nat} (g : as_r w E ρ A (pc', cl, cs, W)) (hs : hs_g w.1.1 h') (hf : fr_g M W.1 h') (hM : M.all (fun r => rg_sub A.2.2.2.2.2.2.2.1 r.1 r.2.1 r.2.2) = true) (hC : cs_g w (cs.take k).reverse h' r C) :
    ∃ B, case_do w A k M C = some B ∧ as_g w E B (pc' + 3, cl, r.toList ++ cs.drop k, h', z) := by
  obtain ⟨pc, lv, st, iv, ex⟩ := A
  obtain ⟨g1, g2, g3, g4, g5⟩ := g
  obtain ⟨c1, c2, c3, c4⟩ := hC
  dsimp only at g1 g2 g3 g4 g5 hM
  subst g2
  obtain ⟨i1, e1, n1, p1⟩ := nar_as_ok g1 (f2_rev (f2_take k g4)) c1
  have hex := ex_call_ok g5 hs hf hM c3
  have q0 : as_r w E ρ (pc' + 3, lv, st.drop k, i1, ex_call w ex M C.2.2.1) (pc' + 3, cl, cs.drop k, h', z) := as_iv (iv := iv) ⟨g1, rfl, g3, f2_drop k g4, hex⟩ n1 p1
  obtain ⟨⟨i2, x2⟩, e2, ρ2, q2⟩ := mem_take_ok C.2.1 i1 _ ρ q0 c2
  dsimp only at q2
  unfold case_do
  dsimp only
  rw [e1]
  simp only [e2]
  split
  · rename_i hc
    rw [hc] at c4
    cases r with
    | none => exact ⟨_, rfl, ρ2, q2⟩
    | some v => exact c4.elim
  · rename_i c hc
    rw [hc] at c4
    cases r with
    | none => exact c4.elim
    | some v =>
      obtain ⟨ρ3, r1, r2, r3, r4⟩ := ci_av_ok q2 c4
      obtain ⟨s1, s2, s3, s4, s5⟩ := r1
      exact ⟨_, rfl, ρ3, s1, rfl, s3, ⟨r2, s4⟩, s5⟩
  · rename_i q hc
    rw [hc] at c4
    cases r with
    | none => exact c4.elim
    | some v =>
      cases v with
      | int x =>
        split
        · rename_i a hm
          obtain ⟨s1, s2, s3, s4, s5⟩ := q2
          obtain ⟨v, f1, f2'⟩ := s5.2.1 _ _ (mem_get_in hm)
          have c4 : ld h' q.1 q.2 = some (.int x) := c4
          dsimp only at f1
          rw [c4] at f1
          cases f1
          exact ⟨_, rfl, ρ2, s1, rfl, s3, ⟨f2', s4⟩, s5⟩
        · exact ⟨_, rfl, a_pi_ok q2 (ai_lo _) (ai_hi _)⟩
      | _ => exact c4.elim
theorem call_do_ok {w : AW} {sums : List Sum1} {call : pm_Call} {E : AEnv} {A : AS} {As : List AS} {σ : pm_S} {y k : Nat} {ci : Option Nat} {mc ms : Nat} (hS : ∀ S ∈ sums, sum_g w call S) (g : as_g w E A σ) (h : call_do w sums A y k ci mc ms = some As) :
    ∃ h' r, call y σ.2.2.2.1 (σ.2.2.1.take k).reverse h' r ∧ pm_chk k ci mc ms σ.2.2.1 σ.2.2.2 ∧ ∃ B ∈ As, as_g w E B (σ.1 + 3, σ.2.1, r.toList ++ σ.2.2.1.drop k, h', σ.2.2.2.2.1 - mc, σ.2.2.2.2.2 - ms) := by
  obtain ⟨ρ, g⟩ := g
  obtain ⟨g1, g2, g3, g4, g5⟩ := id g
  unfold call_do at h
  cases hb : (Nat.ble k A.2.2.1.length && (Nat.beq mc 0 && (Nat.beq ms 0 && (Nat.ble (av_sz (A.2.2.1.drop k)) 8 && rc_chk w.1.1 ci (A.2.2.1.take k).reverse)))) with
  | false => rw [hb] at h; cases h
  | true =>
    rw [hb, cond_true] at h
    simp only [Bool.and_eq_true] at hb
    obtain ⟨b1, b2, b3, b4, b5⟩ := hb
    have hmc : mc = 0 := Nat.eq_of_beq_eq_true b2
    have hms : ms = 0 := Nat.eq_of_beq_eq_true b3
    subst hmc; subst hms
    have hk := Nat.le_of_ble_eq_true b1
    have h8 := Nat.le_of_ble_eq_true b4
    have gT := f2_rev (f2_take k g4)
    have gD := f2_drop k g4
    have hchk : pm_chk k ci 0 0 σ.2.2.1 σ.2.2.2 := ⟨by rw [f2_len g4]; exact hk, rc_chk_ok g5.1 gT b5, by rw [av_sz_eq gD]; exact h8, Nat.zero_le _, Nat.zero_le _⟩
    split at h
    · rename_i S hf
      cases h
      have hmem := List.mem_of_find?_eq_some hf
      have hp := List.find?_some hf
      simp only [Bool.and_eq_true] at hp
      obtain ⟨p1, p2, p3, p4, p5⟩ := hp
      have hy := Nat.eq_of_beq_eq_true p1
      subst hy
      obtain ⟨h', r, e1, e2, e3, C, hC, e4⟩ := hS S hmem σ.2.2.2.1 (σ.2.2.1.take k).reverse g5.1 (cvs_le_ok g1 gT p2) (mm_le_ok g1 g5 p3) (fun i hi => g5.2.2.2.1 i (by have := List.all_eq_true.mp p4 i hi; simpa using this))
      obtain ⟨B, f1, f2'⟩ := case_do_ok (z := (σ.2.2.2.2.1 - 0, σ.2.2.2.2.2 - 0)) g e2 e3 p5 e4
      refine ⟨h', r, e1, hchk, B, List.mem_flatMap.mpr ⟨C, hC, ?_⟩, f2'⟩
      rw [f1]
      exact List.mem_singleton_self _
    · cases h
