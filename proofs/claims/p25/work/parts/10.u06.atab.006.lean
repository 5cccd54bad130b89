section
theorem h_intro_ok (f : Nat) (E : AEnv) (A : AS) (σ : pm_S) (g : as_g w0 E A σ) : ∃ B ∈ h_intro f A, as_g w0 E B σ := by
  unfold h_intro
  cases hc : A.2.2.2.2.2.2.1.contains (21 * f + 20) with
  | true => exact ⟨A, List.mem_singleton_self _, g⟩
  | false =>
    rw [cond_false]
    split
    · rename_i T a G b st e
      refine ⟨_, List.mem_singleton_self _, ?_⟩
      cases hb : (List.range 20).any (fun j => A.2.2.2.2.2.2.1.contains (21 * f + j) && int_c T a G b st j A) with
      | false => exact g
      | true =>
        obtain ⟨ρ, g⟩ := g
        obtain ⟨j, hj, hp⟩ := List.any_eq_true.mp hb
        have hj : j < 20 := List.mem_range.mp hj
        rw [Bool.and_eq_true] at hp
        have hm : 21 * f + j ∈ A.2.2.2.2.2.2.1 := by have := hp.1; simpa using this
        have hF := g.2.2.2.2.2.2.2.1 _ hm
        rw [fl0_f (by omega) e] at hF
        have h20 := int_c_ok g hF hp.2
        refine ⟨ρ, set_fl_ok g (fun i hi => ?_)⟩
        cases List.mem_cons.mp hi with
        | inl e' =>
          subst e'
          rw [fl0_f (by omega) e]
          exact h20
        | inr hi => exact g.2.2.2.2.2.2.2.1 i hi
    · exact ⟨A, List.mem_singleton_self _, g⟩
/-- a long that is read out of a known place is known from now on -/
noncomputable def a_lalm (w : AW) (n : Nat) : AS → Option (List AS) := fun A => match A.2.2.1 with
  | .inl (k, o) :: .inr (.inr (.inl a)) :: st => match w.1.1[a]?, iv_rng A.2.2.2.1 k o with
    | some (.inr (.inl len)), some (l, u) => bif (decide (0 ≤ l) && decide (u < (len : Int))) && decide (l = u) then (match mem_get A.2.2.2.2.1 a l.toNat with
        | some (.inr (.inl q)) => some [(n, A.2.1, .inr (.inl q) :: st, A.2.2.2)]
        | some _ => none
        | none => some [(n, A.2.1, .inr (.inl (some A.2.2.2.1.length, 0)) :: st, A.2.2.2.1 ++ [(-9223372036854775808, 9223372036854775807)], ex_note A.2.2.2.2 a l.toNat (.inr (.inl (some A.2.2.2.1.length, 0))))]) else none
    | _, _ => none
  | _ => none
theorem a_lalm_ok {w : AW} (n : Nat) : ai_ok w (s_lald n) (a_lalm w n) := by
  rintro E ⟨pc, lv, st, iv, ex⟩ ⟨pc', cl, cs, W⟩ As ⟨ρ, g1, g2, g3, g4, g5⟩ h
  simp only [a_lalm] at h
  split at h
  · rename_i k o a st'
    split at h
    · rename_i len l u hc hr
      cases hb : ((decide (0 ≤ l) && decide (u < (len : Int))) && decide (l = u)) with
      | false => rw [hb] at h; cases h
      | true =>
        rw [hb, cond_true] at h
        simp only [Bool.and_eq_true, decide_eq_true_eq] at hb
        obtain ⟨v, cs, rfl, ha, hr0⟩ := f2_cons g4
        obtain ⟨u', cs, rfl, hc1, hs2⟩ := f2_cons hr0
        obtain ⟨i, rfl, ha⟩ := av_int ha
        obtain rfl := av_ref hc1
        obtain ⟨x, hx, hg⟩ := hs_at g5.1 hc
        dsimp only at hx
        match x, hx, hg with
        | .inl (t2, len2, .inr (.inl g)), hx, hg =>
          obtain ⟨rfl, rfl⟩ := hg
          have b1 := iv_rng_ok g1 ha hr
          have hi := ai_ix (i := i) (len := len2) (by omega) (by omega)
          have hl : i.toNatClampNeg = l.toNat := by show i.toInt.toNat = l.toNat; omega
          have hstep : s_lald n (pc', cl, .int i :: .ref a :: cs, W) = some (n, cl, .long (g i.toNatClampNeg) :: cs, W) := by simp only [s_lald]; rw [hx]; simp only; rw [hi]; rfl
          have hld : ld W.1 a l.toNat = some (.long (g i.toNatClampNeg)) := by unfold ld; rw [hx, hl]
          have gg : as_r w E ρ (pc, lv, st', iv, ex) (pc', cl, cs, W) := ⟨g1, g2, g3, hs2, g5⟩
          split at h
          · rename_i q hm
            cases h
            obtain ⟨v, e1, e2⟩ := g5.2.1 _ _ (mem_get_in hm)
            dsimp only at e1
            rw [hld] at e1
            cases e1
            exact ⟨_, hstep, _, List.mem_singleton_self _, ρ, g1, rfl, g3, ⟨e2, hs2⟩, g5⟩
          · cases h
          · cases h
            obtain ⟨⟨p1, p2, p3, p4, p5⟩, e⟩ := as_grow (v := (g i.toNatClampNeg).toInt) (lo := -9223372036854775808) (hi := 9223372036854775807) gg (al_lo _) (al_hi _)
            exact ⟨_, hstep, _, List.mem_singleton_self _, _, p1, rfl, p3, ⟨e, p4⟩, ex_note_ok p5 hld e⟩
    · cases h
  · cases h
noncomputable def R_lalm {w : AW} (n : Nat) : ARow w := ⟨(s_lald n, a_lalm w n, ck_1 47 n), (a_lalm_ok n), ck_1_ok (g := s_lald) (fun _ _ _ _ _ h => k_lald (dk_laload h)) n⟩
noncomputable def add_fl (A : AS) (f : Nat) : AS := set_fl A (f :: A.2.2.2.2.2.2.1)
theorem add_fl_ok {w : AW} {E : AEnv} {ρ : Nat → Int} {A : AS} {σ : pm_S} {f : Nat} (g : as_r w E ρ A σ) (h : w.1.2.1 f σ.2.2.2.1) : as_r w E ρ (add_fl A f) σ :=
  set_fl_ok g (fun i hi => by
    cases List.mem_cons.mp hi with
    | inl e => subst e; exact h
    | inr hi => exact g.2.2.2.2.2.2.2.1 i hi)
theorem fl_of {w : AW} {E : AEnv} {ρ : Nat → Int} {A : AS} {σ : pm_S} {f : Nat} (g : as_r w E ρ A σ) (h : A.2.2.2.2.2.2.1.contains f = true) : w.1.2.1 f σ.2.2.2.1 := g.2.2.2.2.2.2.2.1 f (by simpa using h)
/-- the first none are fine -/
noncomputable def l_nil (f : Nat) (A : AS) : List AS := [bif (lfam[f]?).isSome then add_fl A (210 + (62 * f + 0)) else A]
theorem l_nil_ok (f : Nat) (E : AEnv) (A : AS) (σ : pm_S) (g : as_g w0 E A σ) : ∃ B ∈ l_nil f A, as_g w0 E B σ := by
  refine ⟨_, List.mem_singleton_self _, ?_⟩
  cases hs : (lfam[f]?).isSome with
  | false => exact g
  | true =>
    obtain ⟨ρ, g⟩ := g
    obtain ⟨⟨c, o, st, e, B, lc, lk⟩, eq⟩ := Option.isSome_iff_exists.mp hs
    refine ⟨ρ, add_fl_ok g ?_⟩
    rw [fl0_at (by omega) eq]
    exact fun m hm => absurd hm (Nat.not_lt_zero _)
/-- one more -/
noncomputable def l_c (c o B p : Nat) (A : AS) : Bool := match mem_get A.2.2.2.2.1 c (o + p) with
  | some (.inr (.inl (k, q))) => (match iv_rng A.2.2.2.1 k q with | some (l, u) => decide (0 ≤ l) && decide (u ≤ (B : Int)) | none => false)
  | _ => false
noncomputable def l_try (f : Nat) (A : AS) : Nat → AS
  | 0 => A
  | p + 1 => match lfam[f]? with
    | some (c, o, st, e, B, lc, lk) => bif (A.2.2.2.2.2.2.1.contains (210 + (62 * f + p)) && Nat.ble (p + st) 60) && (Nat.beq (p % st) 0 && (Nat.blt 0 st && l_c c o B p A)) then add_fl A (210 + (62 * f + (p + st))) else l_try f A p
    | none => A
noncomputable def l_step (f : Nat) (A : AS) : List AS := [l_try f A 61]
theorem l_try_ok {f : Nat} {E : AEnv} {ρ : Nat → Int} {A : AS} {σ : pm_S} (g : as_r w0 E ρ A σ) : ∀ p : Nat, p ≤ 61 → as_r w0 E ρ (l_try f A p) σ
  | 0, _ => g
  | p + 1, hp => by
    unfold l_try
    split
    · rename_i c o st e B lc lk eq
      cases hb : ((A.2.2.2.2.2.2.1.contains (210 + (62 * f + p)) && Nat.ble (p + st) 60) && (Nat.beq (p % st) 0 && (Nat.blt 0 st && l_c c o B p A))) with
      | false => exact l_try_ok g p (by omega)
      | true =>
        rw [Bool.and_eq_true, Bool.and_eq_true, Bool.and_eq_true, Bool.and_eq_true] at hb
        obtain ⟨⟨b1, b2⟩, b3, b4, b5⟩ := hb
        have h60 := Nat.le_of_ble_eq_true b2
        have h0 := Nat.eq_of_beq_eq_true b3
        have hst : 0 < st := Nat.le_of_ble_eq_true b4
        have hF := fl_of g b1
        rw [fl0_at (by omega) eq, show Nat.beq p 61 = false from by cases hq : Nat.beq p 61 with | false => rfl | true => have := Nat.eq_of_beq_eq_true hq; omega] at hF
        have hF : LPf c o st B p σ.2.2.2.1 := hF
        refine add_fl_ok g ?_
        rw [fl0_at (by omega) eq, show Nat.beq (p + st) 61 = false from by cases hq : Nat.beq (p + st) 61 with | false => rfl | true => have := Nat.eq_of_beq_eq_true hq; omega]
        show LPf c o st B (p + st) σ.2.2.2.1
        intro m hm
        by_cases hlt : st * m < p
        · exact hF m hlt
        · have hpe : st * m = p := by
            have hd : st ∣ p := Nat.dvd_of_mod_eq_zero h0
            obtain ⟨d, rfl⟩ := hd
            have h1 : st * m < st * (d + 1) := by rw [Nat.mul_add, Nat.mul_one]; exact hm
            have h2 := Nat.lt_of_mul_lt_mul_left h1
            have h3 : ¬ m < d := fun h => hlt ((Nat.mul_lt_mul_left hst).mpr h)
            rw [show m = d by omega]
          rw [hpe]
          unfold l_c at b5
          split at b5
          · rename_i k q hm'
            split at b5
            · rename_i l u r
              simp only [Bool.and_eq_true, decide_eq_true_eq] at b5
              obtain ⟨v, p1, p2⟩ := g.2.2.2.2.2.1 _ _ (mem_get_in hm')
              obtain ⟨x, rfl, p2⟩ := av_long p2
              have := iv_rng_ok g.1 p2 r
              exact ⟨x, p1, by omega, by omega⟩
            · cases b5
          · cases b5
    · exact g
theorem l_step_ok (f : Nat) (E : AEnv) (A : AS) (σ : pm_S) (g : as_g w0 E A σ) : ∃ B ∈ l_step f A, as_g w0 E B σ := by
  obtain ⟨ρ, g⟩ := g
  exact ⟨_, List.mem_singleton_self _, ρ, l_try_ok g 61 (Nat.le_refl _)⟩
/-- all that count -/
noncomputable def l_dt (f : Nat) (A : AS) : Nat → AS
  | 0 => A
  | p + 1 => match lfam[f]? with
    | some (c, o, st, e, B, lc, lk) => bif A.2.2.2.2.2.2.1.contains (210 + (62 * f + p)) && (match mem_get A.2.2.2.2.1 lc lk with
        | some (.inl (k, q)) => (match iv_rng A.2.2.2.1 k q with | some (_, u) => decide (u ≤ ((p + e : Nat) : Int)) | none => false)
        | _ => false) then add_fl A (210 + (62 * f + 61)) else l_dt f A p
    | none => A
noncomputable def l_dint (f : Nat) (A : AS) : List AS := [l_dt f A 61]
theorem l_dt_ok {f : Nat} {E : AEnv} {ρ : Nat → Int} {A : AS} {σ : pm_S} (g : as_r w0 E ρ A σ) : ∀ p : Nat, p ≤ 61 → as_r w0 E ρ (l_dt f A p) σ
  | 0, _ => g
  | p + 1, hp => by
    unfold l_dt
    split
    · rename_i c o st e B lc lk eq
      split
      · rename_i k q hm'
        split
        · rename_i l u r
          cases hb : (A.2.2.2.2.2.2.1.contains (210 + (62 * f + p)) && decide (u ≤ ((p + e : Nat) : Int))) with
          | false => exact l_dt_ok g p (by omega)
          | true =>
            rw [Bool.and_eq_true] at hb
            have hu := of_decide_eq_true hb.2
            have hF := fl_of g hb.1
            rw [fl0_at (by omega) eq, show Nat.beq p 61 = false from by cases hq : Nat.beq p 61 with | false => rfl | true => have := Nat.eq_of_beq_eq_true hq; omega] at hF
            have hF : LPf c o st B p σ.2.2.2.1 := hF
            refine add_fl_ok g ?_
            rw [fl0_at (by omega) eq]
            intro n m h1 h2
            obtain ⟨v, p1, p2⟩ := g.2.2.2.2.2.1 _ _ (mem_get_in hm')
            dsimp only at p1
            rw [h1] at p1
            cases p1
            have := iv_rng_ok g.1 p2 r
            exact hF m (by omega)
        · rw [Bool.and_false, cond_false]
          exact l_dt_ok g p (by omega)
      · rw [Bool.and_false, cond_false]
        exact l_dt_ok g p (by omega)
    · exact g
end
