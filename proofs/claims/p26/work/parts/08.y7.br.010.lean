section
section AIU
variable {w : AW}
/-- one state for each value of the int on the stack -/
noncomputable def as_split (A : AS) : Option (List AS) := match A.2.2.1 with
  | .inl (k, o) :: _ => match iv_rng A.2.2.2.1 k o with
    | some (l, u) => bif decide (0 ≤ l) then some (a_each k o A.2.2.2.1 (fun _ iv' => some (A.1, A.2.1, A.2.2.1, iv', A.2.2.2.2)) l.toNat (u - l + 1).toNat) else none
    | none => none
  | _ => none
theorem as_split_ok {E : AEnv} {A : AS} {σ : pm_S} {As : List AS} (g : as_g w E A σ) (h : as_split A = some As) : ∃ B ∈ As, as_g w E B σ := by
  obtain ⟨ρ, g⟩ := g
  obtain ⟨pc, lv, st, iv, ex⟩ := A
  obtain ⟨pc', cl, cs, W⟩ := σ
  obtain ⟨g1, g2, g3, g4, g5⟩ := id g
  simp only [as_split] at h
  split at h
  · rename_i k o st' e0
    split at h
    · rename_i l u r
      cases hb : decide (0 ≤ l) with
      | false => rw [hb] at h; cases h
      | true =>
        rw [hb] at h
        cases h
        have hb := of_decide_eq_true hb
        have g4 := g4
        dsimp only at g4
        obtain ⟨v, cs', e1, ha, hr⟩ := f2_cons g4
        obtain ⟨x, rfl, ha⟩ := av_int ha
        have b1 := iv_rng_ok g1 ha r
        obtain ⟨iv', e1, e2, e3⟩ := iv_nar_ok (lo := (x.toInt.toNat : Int)) (hi := (x.toInt.toNat : Int)) g1 ha (by omega) (by omega)
        exact ⟨_, a_each_in e1 rfl _ _ (by omega) (by omega), ρ, as_iv g e2 e3⟩
    · cases h
  · cases h
end AIU
end
section
/-! THE EXECUTOR (second writing), part 11: calls by what is known of them -/
theorem f2_len {α β : Type} {R : α → β → Prop} : ∀ {l : List α} {m : List β}, f2 R l m → m.length = l.length
  | [], [], _ => rfl
  | [], _ :: _, h => h.elim
  | _ :: _, [], h => h.elim
  | _ :: _, _ :: _, h => congrArg (· + 1) (f2_len h.2)
theorem f2_app {α β : Type} {R : α → β → Prop} {l' : List α} {m' : List β} (h' : f2 R l' m') : ∀ {l : List α} {m : List β}, f2 R l m → f2 R (l ++ l') (m ++ m')
  | [], [], _ => h'
  | [], _ :: _, h => h.elim
  | _ :: _, [], h => h.elim
  | _ :: _, _ :: _, h => ⟨h.1, f2_app h' h.2⟩
theorem f2_rev {α β : Type} {R : α → β → Prop} : ∀ {l : List α} {m : List β}, f2 R l m → f2 R l.reverse m.reverse
  | [], [], _ => trivial
  | [], _ :: _, h => h.elim
  | _ :: _, [], h => h.elim
  | a :: l, b :: m, h => by
    rw [List.reverse_cons, List.reverse_cons]
    exact f2_app (l' := [a]) (m' := [b]) ⟨h.1, trivial⟩ (f2_rev h.2)
theorem f2_take {α β : Type} {R : α → β → Prop} : ∀ (k : Nat) {l : List α} {m : List β}, f2 R l m → f2 R (l.take k) (m.take k)
  | 0, _, _, _ => by simp only [List.take_zero]; trivial
  | k + 1, [], [], _ => trivial
  | k + 1, [], _ :: _, h => h.elim
  | k + 1, _ :: _, [], h => h.elim
  | k + 1, _ :: _, _ :: _, h => ⟨h.1, f2_take k h.2⟩
theorem f2_drop {α β : Type} {R : α → β → Prop} : ∀ (k : Nat) {l : List α} {m : List β}, f2 R l m → f2 R (l.drop k) (m.drop k)
  | 0, _, _, h => h
  | k + 1, [], [], _ => trivial
  | k + 1, [], _ :: _, h => h.elim
  | k + 1, _ :: _, [], h => h.elim
  | k + 1, _ :: _, _ :: _, h => f2_drop k h.2
noncomputable def av_sz (st : List AV) : Nat := (st.map av_cat).sum
theorem av_sz_eq {n : Nat} {ρ : Nat → Int} : ∀ {l : List AV} {m : List Value}, f2 (fun a v => av_g n ρ a v) l m → pm_sz m = av_sz l
  | [], [], _ => rfl
  | [], _ :: _, h => h.elim
  | _ :: _, [], h => h.elim
  | a :: l, v :: m, h => by
    have ih := av_sz_eq h.2
    have hc := av_cat_eq h.1
    unfold pm_sz av_sz at ih ⊢
    rw [List.map_cons, List.map_cons, List.sum_cons, List.sum_cons, ih, hc]
noncomputable def rc_chk (hs : List AE) (ci : Option Nat) (args : List AV) : Bool := match ci, args with
  | none, _ => true
  | some q, .inr (.inr (.inl a)) :: _ => Nat.blt q 100 && (match hs[a]? with | some (.inr (.inr (.inr (cj, _)))) => Nat.beq cj q | _ => false)
  | some q, .inr (.inr (.inr (.inl k))) :: _ => Nat.ble 100 q && (Nat.ble 4 k && Nat.blt k 12)
  | _, _ => false
theorem rc_chk_ok {hs : List AE} {n : Nat} {ρ : Nat → Int} {h : pm_H} {ci : Option Nat} {args : List AV} {vs : List Value} (H : hs_g hs h) (hv : f2 (fun a v => av_g n ρ a v) args vs) (hc : rc_chk hs ci args = true) :
    ∀ q : Nat, ci = some q → (q < 100 → ∃ (a : Nat) (fs : List Value) (as : List Value), vs = .ref a :: as ∧ h[a]? = some (.inr (q, fs))) ∧ (100 ≤ q → ∃ (i : Nat) (as : List Value), i < 8 ∧ vs = .retAddr (4 + i) :: as) := by
  intro q hq
  subst hq
  unfold rc_chk at hc
  split at hc
  · rename_i e; cases e
  · rename_i q' a rest e
    cases e
    rw [Bool.and_eq_true] at hc
    have hlt : q < 100 := Nat.le_of_ble_eq_true hc.1
    refine ⟨fun _ => ?_, fun hge => absurd hlt (Nat.not_lt.mpr hge)⟩
    obtain ⟨v, cs, rfl, ha, hr⟩ := f2_cons hv
    have h2 := hc.2
    split at h2
    · rename_i cj fs0 e2
      have hj : cj = q := Nat.eq_of_beq_eq_true h2
      subst hj
      obtain ⟨x, hx, hg⟩ := hs_at H e2
      obtain rfl := av_ref ha
      match x, hx, hg with
      | .inr (cq, vs'), hx, hg =>
        obtain ⟨rfl, -, -⟩ := hg
        exact ⟨a, vs', cs, rfl, hx⟩
    · cases h2
  · rename_i q' k rest e
    cases e
    rw [Bool.and_eq_true, Bool.and_eq_true] at hc
    have hge : 100 ≤ q := Nat.le_of_ble_eq_true hc.1
    have h4 : 4 ≤ k := Nat.le_of_ble_eq_true hc.2.1
    have h12 : k < 12 := Nat.le_of_ble_eq_true hc.2.2
    refine ⟨fun hlt => absurd hlt (Nat.not_lt.mpr hge), fun _ => ?_⟩
    obtain ⟨v, cs, rfl, ha, hr⟩ := f2_cons hv
    obtain rfl := av_out ha
    refine ⟨k - 4, cs, by omega, ?_⟩
    rw [show 4 + (k - 4) = k by omega]
  · cases hc
/-- an abstract value lies in a kind -/
noncomputable def cv_le (iv : IV) (a : AV) (c : CV) : Bool := match a, c with
  | .inl (k, o), .inl (lo, hi) => match iv_rng iv k o with | some (l, u) => decide (lo ≤ l) && decide (u ≤ hi) | none => false
  | .inr (.inl (k, o)), .inr (.inl (lo, hi)) => match iv_rng iv k o with | some (l, u) => decide (lo ≤ l) && decide (u ≤ hi) | none => false
  | .inr (.inr (.inl a)), .inr (.inr (.inl a')) => Nat.beq a a'
  | .inr (.inr (.inr (.inl a))), .inr (.inr (.inr (.inl a'))) => Nat.beq a a'
  | .inr (.inr (.inr (.inr ()))), .inr (.inr (.inr (.inr ()))) => true
  | _, _ => false
theorem cv_le_ok {E : AEnv} {n : Nat} {ρ : Nat → Int} {iv : IV} {a : AV} {c : CV} {v : Value} (g : ia_g E ρ iv) (hv : av_g n ρ a v) (h : cv_le iv a c = true) : cv_g c v := by
  unfold cv_le at h
  split at h
  · split at h
    · rename_i l u hr
      simp only [Bool.and_eq_true, decide_eq_true_eq] at h
      obtain ⟨x, rfl, hv⟩ := av_int hv
      have := iv_rng_ok g hv hr
      exact ⟨by omega, by omega⟩
    · cases h
  · split at h
    · rename_i l u hr
      simp only [Bool.and_eq_true, decide_eq_true_eq] at h
      obtain ⟨x, rfl, hv⟩ := av_long hv
      have := iv_rng_ok g hv hr
      exact ⟨by omega, by omega⟩
    · cases h
  · have h := Nat.eq_of_beq_eq_true h
    subst h
    cases v <;> first | exact hv | exact hv.elim
  · have h := Nat.eq_of_beq_eq_true h
    subst h
    cases v <;> first | exact hv | exact hv.elim
  · cases v <;> first | exact hv | exact hv.elim
  · cases h
end
