/-! THE EXECUTOR, part 8: calls by what is known of them -/
theorem f2_len {α β : Type} {R : α → β → Prop} : ∀ {l : List α} {m : List β}, f2 R l m → m.length = l.length
  | [], [], _ => rfl
  | [], _ :: _, h => h.elim
  | _ :: _, [], h => h.elim
  | _ :: _, _ :: _, h => congrArg (· + 1) (f2_len h.2)
theorem f2_app {α β : Type} {R : α → β → Prop} {l' : List α} {m' : List β} (h' : f2 R l' m') : ∀ {l : List α} {m : List β}, f2 R l m → f2 R (l ++ l') (m ++ m')
  | [], [], _ => h'
  | [], _ :: _, h => h.elim
  | _ :: _, [], h => h.elim
  | _ :: _, _ :: _, h => ⟨h.1, f2_app h' h.2⟩
theorem f2_rev {α β : Type} {R : α → β → Prop} : ∀ {l : List α} {m : List β}, f2 R l m → f2 R l.reverse m.reverse
  | [], [], _ => trivial
  | [], _ :: _, h => h.elim
  | _ :: _, [], h => h.elim
  | a :: l, b :: m, h => by
    rw [List.reverse_cons, List.reverse_cons]
    exact f2_app (l' := [a]) (m' := [b]) ⟨h.1, trivial⟩ (f2_rev h.2)
theorem f2_take {α β : Type} {R : α → β → Prop} : ∀ (k : Nat) {l : List α} {m : List β}, f2 R l m → f2 R (l.take k) (m.take k)
  | 0, _, _, _ => by simp only [List.take_zero]; trivial
  | k + 1, [], [], _ => trivial
  | k + 1, [], _ :: _, h => h.elim
  | k + 1, _ :: _, [], h => h.elim
  | k + 1, _ :: _, _ :: _, h => ⟨h.1, f2_take k h.2⟩
theorem f2_drop {α β : Type} {R : α → β → Prop} : ∀ (k : Nat) {l : List α} {m : List β}, f2 R l m → f2 R (l.drop k) (m.drop k)
  | 0, _, _, h => h
  | k + 1, [], [], _ => trivial
  | k + 1, [], _ :: _, h => h.elim
  | k + 1, _ :: _, [], h => h.elim
  | k + 1, _ :: _, _ :: _, h => f2_drop k h.2
def av_sz (st : List AV) : Nat := (st.map av_cat).sum
theorem av_sz_eq {n : Nat} {ρ : Nat → Int} : ∀ {l : List AV} {m : List Value}, f2 (fun a v => av_g n ρ a v) l m → pm_sz m = av_sz l
  | [], [], _ => rfl
  | [], _ :: _, h => h.elim
  | _ :: _, [], h => h.elim
  | a :: l, v :: m, h => by
    have ih := av_sz_eq h.2
    have hc := av_cat_eq h.1
    unfold pm_sz av_sz at ih ⊢
    rw [List.map_cons, List.map_cons, List.sum_cons, List.sum_cons, ih, hc]
def rc_chk (hs : List AE) (ci : Option Nat) (args : List AV) : Bool := match ci, args with
  | none, _ => true
  | some q, .inr (.inr (.inl a)) :: _ => Nat.blt q 100 && (match hs[a]? with | some (.inr (.inr (.inr (cj, _)))) => Nat.beq cj q | _ => false)
  | some q, .inr (.inr (.inr (.inl k))) :: _ => Nat.ble 100 q && (Nat.ble 4 k && Nat.blt k 12)
  | _, _ => false
theorem rc_chk_ok {hs : List AE} {n : Nat} {ρ : Nat → Int} {h : pm_H} {ci : Option Nat} {args : List AV} {vs : List Value} (H : hs_g hs h) (hv : f2 (fun a v => av_g n ρ a v) args vs) (hc : rc_chk hs ci args = true) :
    ∀ q : Nat, ci = some q → (q < 100 → ∃ (a : Nat) (fs : List Value) (as : List Value), vs = .ref a :: as ∧ h[a]? = some (.inr (q, fs))) ∧ (100 ≤ q → ∃ (i : Nat) (as : List Value), i < 8 ∧ vs = .retAddr (4 + i) :: as) := by
  intro q hq
  subst hq
  unfold rc_chk at hc
  split at hc
  · rename_i e; cases e
  · rename_i q' a rest e
    cases e
    rw [Bool.and_eq_true] at hc
    have hlt : q < 100 := Nat.le_of_ble_eq_true hc.1
    refine ⟨fun _ => ?_, fun hge => absurd hlt (Nat.not_lt.mpr hge)⟩
    obtain ⟨v, cs, rfl, ha, hr⟩ := f2_cons hv
    have h2 := hc.2
    split at h2
    · rename_i cj fs0 e2
      have hj : cj = q := Nat.eq_of_beq_eq_true h2
      subst hj
      obtain ⟨x, hx, hg⟩ := hs_at H e2
      cases v with
      | ref a' =>
        obtain rfl : a' = a := ha
        match x, hx, hg with
        | .inr (cq, vs'), hx, hg =>
          obtain ⟨rfl, -, -⟩ := hg
          exact ⟨a', vs', cs, rfl, hx⟩
      | _ => exact ha.elim
    · cases h2
  · rename_i q' k rest e
    cases e
    rw [Bool.and_eq_true, Bool.and_eq_true] at hc
    have hge : 100 ≤ q := Nat.le_of_ble_eq_true hc.1
    have h4 : 4 ≤ k := Nat.le_of_ble_eq_true hc.2.1
    have h12 : k < 12 := Nat.le_of_ble_eq_true hc.2.2
    refine ⟨fun hlt => absurd hlt (Nat.not_lt.mpr hge), fun _ => ?_⟩
    obtain ⟨v, cs, rfl, ha, hr⟩ := f2_cons hv
    cases v with
    | retAddr k' =>
      obtain rfl : k' = k := ha
      refine ⟨k' - 4, cs, by omega, ?_⟩
      rw [show 4 + (k' - 4) = k' by omega]
    | _ => exact ha.elim
  · cases hc
/-- the state behind a call -/
def call_do (hs : List AE) (sums : List Sum1) (A : AS) (y k : Nat) (ci : Option Nat) (mc ms : Nat) : Option AS :=
  bif Nat.ble k A.2.2.1.length && (Nat.beq mc 0 && (Nat.beq ms 0 && (Nat.ble (av_sz (A.2.2.1.drop k)) 8 && rc_chk hs ci (A.2.2.1.take k).reverse))) then
    match sums.find? (fun S => Nat.beq S.1 y && cvs_le A.2.2.2 (A.2.2.1.take k).reverse S.2.1) with
    | some S => match S.2.2 with
      | none => some (A.1 + 3, A.2.1, A.2.2.1.drop k, A.2.2.2)
      | some c => some (A.1 + 3, A.2.1, (ci_av c A.2.2.2).1 :: A.2.2.1.drop k, (ci_av c A.2.2.2).2)
    | none => none
  else none
theorem call_do_ok {hs : List AE} {sums : List Sum1} {call : pm_Call} {E : AEnv} {A A' : AS} {σ : pm_S} {y k : Nat} {ci : Option Nat} {mc ms : Nat} (hS : ∀ S ∈ sums, sum_g hs call S) (g : as_g hs E A σ) (h : call_do hs sums A y k ci mc ms = some A') :
    ∃ h' r, call y σ.2.2.2.1 (σ.2.2.1.take k).reverse h' r ∧ pm_chk k ci mc ms σ.2.2.1 σ.2.2.2 ∧ as_g hs E A' (σ.1 + 3, σ.2.1, r.toList ++ σ.2.2.1.drop k, h', σ.2.2.2.2.1 - mc, σ.2.2.2.2.2 - ms) := by
  obtain ⟨ρ, g1, g2, g3, g4, g5⟩ := g
  unfold call_do at h
  cases hb : (Nat.ble k A.2.2.1.length && (Nat.beq mc 0 && (Nat.beq ms 0 && (Nat.ble (av_sz (A.2.2.1.drop k)) 8 && rc_chk hs ci (A.2.2.1.take k).reverse)))) with
  | false => rw [hb] at h; cases h
  | true =>
    rw [hb, cond_true] at h
    simp only [Bool.and_eq_true] at hb
    obtain ⟨b1, b2, b3, b4, b5⟩ := hb
    have hmc : mc = 0 := Nat.eq_of_beq_eq_true b2
    have hms : ms = 0 := Nat.eq_of_beq_eq_true b3
    subst hmc; subst hms
    have hk := Nat.le_of_ble_eq_true b1
    have h8 := Nat.le_of_ble_eq_true b4
    have gT := f2_rev (f2_take k g4)
    have gD := f2_drop k g4
    have hchk : pm_chk k ci 0 0 σ.2.2.1 σ.2.2.2 := ⟨by rw [f2_len g4]; exact hk, rc_chk_ok g5 gT b5, by rw [av_sz_eq gD]; exact h8, Nat.zero_le _, Nat.zero_le _⟩
    split at h
    · rename_i S hf
      have hmem := List.mem_of_find?_eq_some hf
      have hp := List.find?_some hf
      rw [Bool.and_eq_true] at hp
      obtain ⟨sy, sa, sr⟩ := S
      have hy : sy = y := Nat.eq_of_beq_eq_true hp.1
      subst hy
      obtain ⟨h', r, e1, e2, e3⟩ := hS _ hmem σ.2.2.2.1 (σ.2.2.1.take k).reverse g5 (cvs_le_ok g1 gT hp.2)
      refine ⟨h', r, e1, hchk, ?_⟩
      dsimp only at e3 h
      cases sr with
      | none =>
        cases h
        cases r with
        | none => exact ⟨ρ, g1, by rw [g2], g3, gD, e2⟩
        | some v => exact e3.elim
      | some c =>
        cases h
        cases r with
        | none => exact e3.elim
        | some v =>
          obtain ⟨ρ', p1, p2, p3, p4⟩ := ci_av_ok g1 e3
          refine ⟨ρ', p1, by rw [g2], fun i a hm => ?_, ⟨p4, f2_mono (fun a b hab => av_g_mono p2 p3 hab) gD⟩, e2⟩
          obtain ⟨v', q1, q2⟩ := g3 i a hm
          exact ⟨v', q1, av_g_mono p2 p3 q2⟩
    · cases h
