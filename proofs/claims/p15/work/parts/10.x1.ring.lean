/-! facts of the ring: how many places are held, how far the next free one is; cars and places of a row -/
/-- a world that says more, of the same heap -/
noncomputable def ext_w (w w' : AW) (n : Nat) : Prop := w'.1.1 = w.1.1 ∧ ∀ i, i < n → w'.1.2.1 i = w.1.2.1 i
noncomputable def sum_lt (n : Nat) (S : Sum1) : Bool := S.2.2.2.1.all (fun i => Nat.blt i n) && S.2.2.2.2.2.all (fun C => C.2.2.1.all (fun i => Nat.blt i n))
theorem sum_tr {w w' : AW} {n : Nat} {call : pm_Call} {S : Sum1} (he : ext_w w w' n) (hS : sum_lt n S = true) (h : sum_g w call S) : sum_g w' call S := by
  obtain ⟨e1, e2⟩ := he
  unfold sum_lt at hS
  rw [Bool.and_eq_true] at hS
  intro h0 as a1 a2 a3 a4
  rw [e1] at a1
  obtain ⟨h', r, b1, b2, b3, C, hC, b4, b5, b6, b7⟩ := h h0 as a1 a2 a3 (fun i hi => by
    have := Nat.le_of_ble_eq_true (List.all_eq_true.mp hS.1 i hi)
    rw [← e2 i this]
    exact a4 i hi)
  refine ⟨h', r, b1, by rw [e1]; exact b2, b3, C, hC, b4, b5, fun i hi => ?_, b7⟩
  have := Nat.le_of_ble_eq_true (List.all_eq_true.mp (List.all_eq_true.mp hS.2 C hC) i hi)
  rw [e2 i this]
  exact b6 i hi
/-- what holds a place -/
noncomputable def hv (h : pm_H) (q : Nat) : Int := match ld h 90 q with
  | some (.int x) => x.toInt
  | _ => 0
noncomputable def cntf (f : Nat → Int) (v : Nat) : Nat → Nat
  | 0 => 0
  | R + 1 => cntf f v R + (if R + 1 = v ∨ f (R + 1) = -1 then 0 else 1)
noncomputable def hfd (f : Nat → Int) (R : Nat) : Nat → Nat → Prop
  | 0, v => f v = -1
  | d + 1, v => f v = -1 ∨ hfd f R d (v % R + 1)
theorem cntf_eq {f g : Nat → Int} {v : Nat} : ∀ {R : Nat}, (∀ q, q ≤ R → q ≠ v → f q = g q) → cntf f v R = cntf g v R
  | 0, _ => rfl
  | R + 1, h => by
    unfold cntf
    rw [cntf_eq (R := R) (fun q hq hv => h q (by omega) hv)]
    by_cases hR : R + 1 = v
    · simp only [hR, true_or]
    · rw [h (R + 1) (Nat.le_refl _) hR]
theorem cntf_weak {f : Nat → Int} {v : Nat} : ∀ (R : Nat), cntf f v R ≤ cntf f 10 R ∨ 9 < R
  | 0 => .inl (Nat.le_refl _)
  | R + 1 => by
    by_cases h9 : 9 < R + 1
    · exact .inr h9
    · cases cntf_weak (f := f) (v := v) R with
      | inr h => omega
      | inl h =>
        left
        unfold cntf
        by_cases h1 : f (R + 1) = -1
        · simp only [h1, or_true, if_true]; exact h
        · have h10 : ¬ R + 1 = 10 := by omega
          simp only [h1, or_false, h10, if_false]
          split <;> omega
/-- one place more may be held -/
theorem cntf_inc {f g : Nat → Int} {v : Nat} : ∀ {R : Nat}, (∀ q, q ≤ R → q ≠ v → g q = f q) → R ≤ 9 → cntf g 10 R ≤ cntf f v R + (if v ≤ R then 1 else 0)
  | 0, _, _ => by unfold cntf; omega
  | R + 1, h, h9 => by
    have ih := cntf_inc (R := R) (fun q hq hv => h q (by omega) hv) (by omega)
    unfold cntf
    have h10 : ¬ R + 1 = 10 := by omega
    by_cases hR : R + 1 = v
    · rw [if_neg (show ¬ v ≤ R by omega)] at ih
      rw [if_pos (show R + 1 = v ∨ f (R + 1) = -1 from .inl hR), if_pos (show v ≤ R + 1 by omega)]
      split <;> omega
    · rw [h (R + 1) (Nat.le_refl _) hR]
      simp only [h10, false_or, hR]
      by_cases hv : v ≤ R
      · simp only [hv, if_true] at ih
        have : v ≤ R + 1 := by omega
        simp only [this, if_true]
        split <;> omega
      · simp only [hv, if_false] at ih
        have : ¬ v ≤ R + 1 := by omega
        simp only [this, if_false]
        split <;> omega
theorem cntf_zero {f : Nat → Int} {v : Nat} : ∀ {R : Nat}, (∀ q, 1 ≤ q → q ≤ R → f q = -1) → cntf f v R = 0
  | 0, _ => rfl
  | R + 1, h => by
    unfold cntf
    rw [cntf_zero (R := R) (fun q h1 h2 => h q h1 (by omega)), h (R + 1) (by omega) (Nat.le_refl _)]
    simp only [or_true, if_true]
theorem cntf_free {f : Nat → Int} : ∀ {R : Nat}, R ≤ 9 → cntf f 10 R < R → ∃ q, 1 ≤ q ∧ q ≤ R ∧ f q = -1
  | 0, _, h => absurd h (Nat.not_lt_zero _)
  | R + 1, h9, h => by
    by_cases h1 : f (R + 1) = -1
    · exact ⟨R + 1, by omega, Nat.le_refl _, h1⟩
    · have h10 : ¬ R + 1 = 10 := by omega
      unfold cntf at h
      simp only [h1, or_false, h10, if_false] at h
      obtain ⟨q, a, b, c⟩ := cntf_free (f := f) (R := R) (by omega) (by omega)
      exact ⟨q, a, by omega, c⟩
theorem hfd_up {f : Nat → Int} {R : Nat} : ∀ {d v : Nat}, hfd f R d v → hfd f R (d + 1) v
  | 0, _, h => .inl h
  | _ + 1, _, .inl h => .inl h
  | _ + 1, _, .inr h => .inr (hfd_up h)
theorem hfd_ups {f : Nat → Int} {R d v : Nat} (h : hfd f R d v) : ∀ {e : Nat}, d ≤ e → hfd f R e v
  | 0, he => by
    have : d = 0 := by omega
    subst this
    exact h
  | e + 1, he => by
    by_cases hd : d = e + 1
    · subst hd; exact h
    · exact hfd_up (hfd_ups h (e := e) (by omega))
theorem hfd_walk {f : Nat → Int} {R q : Nat} (hR : 0 < R) (hq : f q = -1) : ∀ (i v : Nat), 1 ≤ v → v ≤ R → (v - 1 + i) % R + 1 = q → hfd f R i v
  | 0, v, h1, h2, h3 => by
    have : v = q := by rw [← h3, Nat.add_zero, Nat.mod_eq_of_lt (by omega)]; omega
    subst this
    exact hq
  | i + 1, v, h1, h2, h3 => by
    right
    refine hfd_walk hR hq i (v % R + 1) (by omega) (by have := Nat.mod_lt v hR; omega) ?_
    rw [← h3, show v % R + 1 - 1 + i = v % R + i by omega, Nat.mod_add_mod, show v - 1 + (i + 1) = v + i by omega]
theorem hfd_free {f : Nat → Int} {R v : Nat} (h9 : R ≤ 9) (h : cntf f 10 R < R) (h1 : 1 ≤ v) (h2 : v ≤ R) : hfd f R (R - 1) v := by
  obtain ⟨q, a, b, c⟩ := cntf_free h9 h
  have hR : 0 < R := by omega
  refine hfd_ups (hfd_walk hR c ((q + R - v) % R) v h1 h2 ?_) (by have := Nat.mod_lt (q + R - v) hR; omega)
  rw [Nat.add_mod_mod, show v - 1 + (q + R - v) = (q - 1) + R by omega, Nat.add_mod_right, Nat.mod_eq_of_lt (by omega)]
  omega
theorem hfd_eq {f g : Nat → Int} {R : Nat} (hR : R ≤ 9) (hfg : ∀ q, q ≤ 100 → f q = g q) : ∀ (d v : Nat), v + d ≤ 50 → d ≤ 20 → hfd f R d v → hfd g R d v
  | 0, v, hv, _, h => by
    have h : f v = -1 := h
    show g v = -1
    rw [← hfg v (by omega)]; exact h
  | d + 1, v, hv, hd, h => by
    cases h with
    | inl h => left; rw [← hfg v (by omega)]; exact h
    | inr h =>
      right
      refine hfd_eq hR hfg d (v % R + 1) ?_ (by omega) h
      by_cases h0 : R = 0
      · subst h0; rw [Nat.mod_zero]; omega
      · have := Nat.mod_lt v (Nat.pos_of_ne_zero h0); omega
/-- what a node hangs from; how far it is to node 0 -/
noncomputable def hg (h : pm_H) (q : Nat) : Nat := match ld h 92 q with
  | some (.int x) => x.toInt.toNat
  | _ => 0
noncomputable def dep (f : Nat → Nat) : Nat → Nat → Prop
  | 0, v => v = 0
  | d + 1, v => v = 0 ∨ dep f d (f v)
theorem hg_le (h : pm_H) (q : Nat) : hg h q ≤ 2147483647 := by
  unfold hg
  split
  · rename_i x _
    have := ai_hi x
    omega
  · omega
theorem dep_eq {f g : Nat → Nat} (hf : ∀ q, f q ≤ 2147483647) (hfg : ∀ q, q ≤ 4294967295 → f q = g q) : ∀ (d v : Nat), v ≤ 2147483647 → dep f d v → dep g d v
  | 0, _, _, h => h
  | _ + 1, _, _, .inl h => .inl h
  | d + 1, v, hv', .inr h => by
    right
    rw [← hfg v (by omega)]
    exact dep_eq hf hfg d (f v) (hf v) h
/-- cars are at most places -/
noncomputable def CPf (r : Nat) (h : pm_H) : Prop := ∀ c p : Int32, ld h 84 (6 * r + 3) = some (.int c) → ld h 84 (6 * r) = some (.int p) → c.toInt ≤ p.toInt
/-- 0 .. 4: cars and places; from 8: held places; from 1200: the next free one; from 2200: what hangs from what -/
noncomputable def fl3 (i : Nat) (h : pm_H) : Prop := bif Nat.blt i 8 then CPf i h else (bif Nat.blt i 1200 then cntf (hv h) ((i - 8) % 11) ((i - 8) / 110) ≤ (i - 8) / 11 % 10 ∨ 9 < (i - 8) / 110 else (bif Nat.blt i 2200 then hfd (hv h) ((i - 1200) / 100 % 10) ((i - 1200) % 10) ((i - 1200) / 10 % 10) else dep (hg h) ((i - 2200) % 10) ((i - 2200) / 10 % 10)))
noncomputable def sp3 (i : Nat) : List Rng := bif Nat.blt i 8 then [(84, 6 * i + 3, 6 * i + 3), (84, 6 * i, 6 * i)] else (bif Nat.blt i 1200 then (bif Nat.beq ((i - 8) % 11) 0 then [(90, 1, 20)] else [(90, 0, (i - 8) % 11 - 1), (90, (i - 8) % 11 + 1, 20)]) else (bif Nat.blt i 2200 then [(90, 0, 100)] else [(92, 0, 4294967295)]))
theorem hv_eq {h h' : pm_H} {q : Nat} (e : ld h' 90 q = ld h 90 q) : hv h' q = hv h q := by unfold hv; rw [e]
set_option maxRecDepth 20000 in
theorem fl3_fr (i : Nat) (h h' : pm_H) (hf : ∀ a k, rg_in (sp3 i) a k = true → ld h' a k = ld h a k) (hi : fl3 i h) : fl3 i h' := by
  unfold fl3 sp3 at *
  cases h8 : Nat.blt i 8 with
  | true =>
    rw [h8] at hf hi
    dsimp only [cond_true] at hf hi ⊢
    intro c p h1 h2
    rw [hf 84 _ (rg_in_one (Nat.le_refl _) (Nat.le_refl _) List.mem_cons_self)] at h1
    rw [hf 84 _ (rg_in_one (Nat.le_refl _) (Nat.le_refl _) (List.mem_cons_of_mem _ (List.mem_singleton_self _)))] at h2
    exact hi c p h1 h2
  | false =>
    rw [h8] at hf hi
    dsimp only [cond_false] at hf hi ⊢
    cases h12 : Nat.blt i 1200 with
    | true =>
      rw [h12] at hf hi
      dsimp only [cond_true] at hf hi ⊢
      cases hi with
      | inr h9 => exact .inr h9
      | inl hi =>
        by_cases h9 : 9 < (i - 8) / 110
        · exact .inr h9
        · left
          rw [cntf_eq (g := hv h)]
          · exact hi
          · intro q hq hv'
            refine hv_eq (hf 90 q ?_)
            cases hb : Nat.beq ((i - 8) % 11) 0 with
            | true =>
              have h0 := Nat.eq_of_beq_eq_true hb
              exact rg_in_one (by omega) (by omega) (List.mem_singleton_self _)
            | false =>
              by_cases hlt : q < (i - 8) % 11
              · exact rg_in_one (Nat.zero_le _) (by omega) List.mem_cons_self
              · exact rg_in_one (by omega) (by omega) (List.mem_cons_of_mem _ (List.mem_singleton_self _))
    | false =>
      rw [h12] at hf hi
      dsimp only [cond_false] at hf hi ⊢
      cases h22 : Nat.blt i 2200 with
      | false =>
        rw [h22] at hf hi
        dsimp only [cond_false] at hf hi ⊢
        refine dep_eq (hg_le h) (fun q hq => ?_) _ _ (by omega) hi
        unfold hg
        rw [hf 92 q (rg_in_one (Nat.zero_le _) hq (List.mem_singleton_self _))]
      | true =>
      rw [h22] at hf hi
      dsimp only [cond_true] at hf hi ⊢
      exact hfd_eq (by omega) (fun q hq => (hv_eq (hf 90 q (rg_in_one (Nat.zero_le _) hq (List.mem_singleton_self _)))).symm) _ _ (by omega) (by omega) hi
noncomputable def fl0' (i : Nat) (h : pm_H) : Prop := bif Nat.blt i 1202 then fl0 i h else fl3 (i - 1202) h
noncomputable def sp0' (i : Nat) : List Rng := bif Nat.blt i 1202 then sp0 i else sp3 (i - 1202)
set_option maxRecDepth 20000 in
theorem fl0'_fr (i : Nat) (h h' : pm_H) (a1 : hs_g hs0 h) (a2 : hs_g hs0 h') (hf : ∀ a k, rg_in (sp0' i) a k = true → ld h' a k = ld h a k) (hi : fl0' i h) : fl0' i h' := by
  unfold fl0' sp0' at *
  cases hb : Nat.blt i 1202 with
  | true => rw [hb] at hf hi; exact fl0_fr i h h' a1 a2 hf hi
  | false => rw [hb] at hf hi; exact fl3_fr (i - 1202) h h' hf hi
noncomputable def w1 : AW := ⟨(hs0, fl0', sp0'), fl0'_fr⟩
theorem w1_ext : ext_w w0 w1 1202 := by
  refine ⟨rfl, fun i hi => ?_⟩
  funext h
  show (bif Nat.blt i 1202 then fl0 i h else fl3 (i - 1202) h) = fl0 i h
  rw [show Nat.blt i 1202 = true from Nat.ble_eq_true_of_le hi]; rfl
theorem w1_new (i : Nat) (h : pm_H) : w1.1.2.1 (1202 + i) h = fl3 i h := by
  show (bif Nat.blt (1202 + i) 1202 then fl0 (1202 + i) h else fl3 (1202 + i - 1202) h) = fl3 i h
  have hb : Nat.blt (1202 + i) 1202 = false := by
    cases hb : Nat.blt (1202 + i) 1202 with
    | false => rfl
    | true => have := Nat.le_of_ble_eq_true hb; omega
  rw [hb, cond_false, show 1202 + i - 1202 = i by omega]
theorem w1_cnt {R k v : Nat} {h : pm_H} (hR : R ≤ 9) (hk : k < 10) (hv' : v < 11) : w1.1.2.1 (1202 + (8 + ((R * 10 + k) * 11 + v))) h = (cntf (hv h) v R ≤ k ∨ 9 < R) := by
  rw [w1_new]
  unfold fl3
  have h1 : Nat.blt (8 + ((R * 10 + k) * 11 + v)) 8 = false := by
    cases hb : Nat.blt (8 + ((R * 10 + k) * 11 + v)) 8 with
    | false => rfl
    | true => have := Nat.le_of_ble_eq_true hb; omega
  have h2 : Nat.blt (8 + ((R * 10 + k) * 11 + v)) 1200 = true := Nat.ble_eq_true_of_le (by omega)
  rw [h1, h2, cond_false, cond_true, show 8 + ((R * 10 + k) * 11 + v) - 8 = (R * 10 + k) * 11 + v by omega, show ((R * 10 + k) * 11 + v) % 11 = v by omega, show ((R * 10 + k) * 11 + v) / 110 = R by omega, show ((R * 10 + k) * 11 + v) / 11 % 10 = k by omega]
theorem w1_hfd {R v d : Nat} {h : pm_H} (hR : R ≤ 9) (hv' : v < 10) (hd : d < 10) : w1.1.2.1 (1202 + (1200 + ((R * 10 + v) * 10 + d))) h = hfd (hv h) R d v := by
  rw [w1_new]
  unfold fl3
  have h1 : Nat.blt (1200 + ((R * 10 + v) * 10 + d)) 8 = false := by
    cases hb : Nat.blt (1200 + ((R * 10 + v) * 10 + d)) 8 with
    | false => rfl
    | true => have := Nat.le_of_ble_eq_true hb; omega
  have h2 : Nat.blt (1200 + ((R * 10 + v) * 10 + d)) 1200 = false := by
    cases hb : Nat.blt (1200 + ((R * 10 + v) * 10 + d)) 1200 with
    | false => rfl
    | true => have := Nat.le_of_ble_eq_true hb; omega
  have h3 : Nat.blt (1200 + ((R * 10 + v) * 10 + d)) 2200 = true := Nat.ble_eq_true_of_le (by omega)
  rw [h1, h2, h3, cond_false, cond_false, cond_true, show 1200 + ((R * 10 + v) * 10 + d) - 1200 = (R * 10 + v) * 10 + d by omega, show ((R * 10 + v) * 10 + d) / 100 % 10 = R by omega, show ((R * 10 + v) * 10 + d) % 10 = d by omega, show ((R * 10 + v) * 10 + d) / 10 % 10 = v by omega]
theorem w1_dep {v d : Nat} {h : pm_H} (hv' : v < 10) (hd : d < 10) : w1.1.2.1 (1202 + (2200 + (v * 10 + d))) h = dep (hg h) d v := by
  rw [w1_new]
  unfold fl3
  have h1 : Nat.blt (2200 + (v * 10 + d)) 8 = false := by
    cases hb : Nat.blt (2200 + (v * 10 + d)) 8 with
    | false => rfl
    | true => have := Nat.le_of_ble_eq_true hb; omega
  have h2 : Nat.blt (2200 + (v * 10 + d)) 1200 = false := by
    cases hb : Nat.blt (2200 + (v * 10 + d)) 1200 with
    | false => rfl
    | true => have := Nat.le_of_ble_eq_true hb; omega
  have h3 : Nat.blt (2200 + (v * 10 + d)) 2200 = false := by
    cases hb : Nat.blt (2200 + (v * 10 + d)) 2200 with
    | false => rfl
    | true => have := Nat.le_of_ble_eq_true hb; omega
  rw [h1, h2, h3, cond_false, cond_false, cond_false, show 2200 + (v * 10 + d) - 2200 = v * 10 + d by omega, show (v * 10 + d) % 10 = d by omega, show (v * 10 + d) / 10 % 10 = v by omega]
/-- facts out of facts -/
noncomputable def der (g : AS → Nat → List Nat) (A : AS) : AS := set_fl A (A.2.2.2.2.2.2.1.flatMap (g A) ++ A.2.2.2.2.2.2.1)
theorem der_ok {w : AW} {E : AEnv} {ρ : Nat → Int} {A : AS} {σ : pm_S} {g : AS → Nat → List Nat} (gA : as_r w E ρ A σ) (hg : ∀ i j, w.1.2.1 i σ.2.2.2.1 → j ∈ g A i → w.1.2.1 j σ.2.2.2.1) : as_r w E ρ (der g A) σ := by
  refine set_fl_ok gA (fun j hj => ?_)
  cases List.mem_append.mp hj with
  | inr hj => exact gA.2.2.2.2.2.2.2.1 j hj
  | inl hj =>
    obtain ⟨i, hi, hij⟩ := List.mem_flatMap.mp hj
    exact hg i j (gA.2.2.2.2.2.2.2.1 i hi) hij
noncomputable def hint1 (g : AS → Nat → List Nat) (b : AS → Nat → Bool) (A : AS) : List AS := bif A.2.2.2.2.2.2.1.any (b A) then [] else [der g A]
theorem hint1_ok {w : AW} {g : AS → Nat → List Nat} {b : AS → Nat → Bool} (hg : ∀ (E : AEnv) (ρ : Nat → Int) (A : AS) (σ : pm_S) (i j : Nat), as_r w E ρ A σ → w.1.2.1 i σ.2.2.2.1 → j ∈ g A i → w.1.2.1 j σ.2.2.2.1) (hb : ∀ (E : AEnv) (ρ : Nat → Int) (A : AS) (σ : pm_S) (i : Nat), as_r w E ρ A σ → w.1.2.1 i σ.2.2.2.1 → b A i = true → False) (E : AEnv) (A : AS) (σ : pm_S) (gA : as_g w E A σ) : ∃ B ∈ hint1 g b A, as_g w E B σ := by
  obtain ⟨ρ, gA⟩ := gA
  unfold hint1
  cases hc : A.2.2.2.2.2.2.1.any (b A) with
  | true =>
    obtain ⟨i, hi, hbi⟩ := List.any_eq_true.mp hc
    exact (hb E ρ A σ i gA (gA.2.2.2.2.2.2.2.1 i hi) hbi).elim
  | false => exact ⟨der g A, List.mem_singleton_self _, ρ, der_ok gA (fun i j h1 h2 => hg E ρ A σ i j gA h1 h2)⟩
/-- is a place known to be held -/
noncomputable def hd_ne (A : AS) (v : Nat) : Bool := match mem_get A.2.2.2.2.1 90 v with
  | some (.inl (k, o)) => (match iv_rng A.2.2.2.1 k o with | some (l, u) => decide (-1 < l) || decide (u < -1) | none => false)
  | _ => false
theorem hd_ne_ok {w : AW} {E : AEnv} {ρ : Nat → Int} {A : AS} {σ : pm_S} {v : Nat} (g : as_r w E ρ A σ) (h : hd_ne A v = true) : ¬ hv σ.2.2.2.1 v = -1 := by
  unfold hd_ne at h
  split at h
  · rename_i k o e
    split at h
    · rename_i l u r
      simp only [Bool.or_eq_true, decide_eq_true_eq] at h
      obtain ⟨x, p, q⟩ := g.2.2.2.2.2.1 _ _ (mem_get_in e)
      obtain ⟨y, rfl, q⟩ := av_int q
      have := iv_rng_ok g.1 q r
      unfold hv
      dsimp only at p
      rw [p]
      dsimp only
      omega
    · cases h
  · cases h
theorem cnt_dec {i : Nat} (h1 : Nat.ble 1210 i = true) (h2 : Nat.blt i 2310 = true) : ∃ R k v, R ≤ 9 ∧ k < 10 ∧ v < 11 ∧ i = 1202 + (8 + ((R * 10 + k) * 11 + v)) ∧ v = (i - 1210) % 11 ∧ k = (i - 1210) / 11 % 10 ∧ R = (i - 1210) / 110 := by
  have a := Nat.le_of_ble_eq_true h1
  have b : i < 2310 := Nat.le_of_ble_eq_true h2
  exact ⟨(i - 1210) / 110, (i - 1210) / 11 % 10, (i - 1210) % 11, by omega, by omega, by omega, by omega, rfl, rfl, rfl⟩
theorem hfd_dec {i : Nat} (h1 : Nat.ble 2402 i = true) (h2 : Nat.blt i 3402 = true) : ∃ R v d, R ≤ 9 ∧ v < 10 ∧ d < 10 ∧ i = 1202 + (1200 + ((R * 10 + v) * 10 + d)) ∧ d = (i - 2402) % 10 ∧ v = (i - 2402) / 10 % 10 ∧ R = (i - 2402) / 100 := by
  have a := Nat.le_of_ble_eq_true h1
  have b : i < 3402 := Nat.le_of_ble_eq_true h2
  exact ⟨(i - 2402) / 100, (i - 2402) / 10 % 10, (i - 2402) % 10, by omega, by omega, by omega, by omega, rfl, rfl, rfl⟩
/-- but for one place -/
noncomputable def g_cw (_ : AS) (i : Nat) : List Nat := bif (Nat.ble 1210 i && Nat.blt i 2310) && Nat.beq ((i - 1210) % 11) 10 then (List.range 10).map (fun v => i - 10 + v) else []
set_option maxRecDepth 20000 in
theorem g_cw_ok (i j : Nat) (A : AS) (h : pm_H) (hi : w1.1.2.1 i h) (hj : j ∈ g_cw A i) : w1.1.2.1 j h := by
  unfold g_cw at hj
  cases hb : ((Nat.ble 1210 i && Nat.blt i 2310) && Nat.beq ((i - 1210) % 11) 10) with
  | false => rw [hb] at hj; exact absurd hj List.not_mem_nil
  | true =>
    rw [hb] at hj
    rw [Bool.and_eq_true, Bool.and_eq_true] at hb
    obtain ⟨R, k, v, hR, hk, hv', e, ev, ek, eR⟩ := cnt_dec hb.1.1 hb.1.2
    have hv10 : v = 10 := by rw [ev]; exact Nat.eq_of_beq_eq_true hb.2
    subst hv10
    obtain ⟨u, hu, rfl⟩ := List.mem_map.mp hj
    have hu : u < 10 := List.mem_range.mp hu
    rw [e] at hi ⊢
    rw [w1_cnt hR hk (by omega)] at hi
    rw [show 1202 + (8 + ((R * 10 + k) * 11 + 10)) - 10 + u = 1202 + (8 + ((R * 10 + k) * 11 + u)) by omega, w1_cnt hR hk (by omega)]
    cases hi with
    | inr h' => exact .inr h'
    | inl h' =>
      cases cntf_weak (f := hv h) (v := u) R with
      | inr h9 => exact .inr h9
      | inl hw => exact .inl (Nat.le_trans hw h')
/-- one more -/
noncomputable def g_ci (_ : AS) (i : Nat) : List Nat := bif (Nat.ble 1210 i && Nat.blt i 2310) && (Nat.blt ((i - 1210) % 11) 10 && Nat.blt ((i - 1210) / 11 % 10) 9) then [i - (i - 1210) % 11 + 21] else []
set_option maxRecDepth 20000 in
theorem g_ci_ok (i j : Nat) (A : AS) (h : pm_H) (hi : w1.1.2.1 i h) (hj : j ∈ g_ci A i) : w1.1.2.1 j h := by
  unfold g_ci at hj
  cases hb : ((Nat.ble 1210 i && Nat.blt i 2310) && (Nat.blt ((i - 1210) % 11) 10 && Nat.blt ((i - 1210) / 11 % 10) 9)) with
  | false => rw [hb] at hj; exact absurd hj List.not_mem_nil
  | true =>
    rw [hb] at hj
    rw [Bool.and_eq_true, Bool.and_eq_true, Bool.and_eq_true] at hb
    obtain ⟨R, k, v, hR, hk, hv', e, ev, ek, eR⟩ := cnt_dec hb.1.1 hb.1.2
    have hk9 : k < 9 := by rw [ek]; exact Nat.le_of_ble_eq_true hb.2.2
    have hj := List.mem_singleton.mp hj
    subst hj
    rw [← ev, e]
    rw [e, w1_cnt hR hk hv'] at hi
    rw [show 1202 + (8 + ((R * 10 + k) * 11 + v)) - v + 21 = 1202 + (8 + ((R * 10 + (k + 1)) * 11 + 10)) by omega, w1_cnt hR (by omega) (by omega)]
    cases hi with
    | inr h => exact .inr h
    | inl h' =>
      left
      have := cntf_inc (f := hv h) (g := hv h) (v := v) (R := R) (fun _ _ _ => rfl) hR
      split at this <;> omega
/-- a step on -/
noncomputable def g_wk (A : AS) (i : Nat) : List Nat := bif (Nat.ble 2402 i && Nat.blt i 3402) && ((Nat.blt 0 ((i - 2402) / 100) && Nat.blt 0 ((i - 2402) % 10)) && hd_ne A ((i - 2402) / 10 % 10)) then [2402 + (((i - 2402) / 100 * 10 + ((i - 2402) / 10 % 10 % ((i - 2402) / 100) + 1)) * 10 + ((i - 2402) % 10 - 1))] else []
set_option maxRecDepth 20000 in
theorem g_wk_ok (E : AEnv) (ρ : Nat → Int) (A : AS) (σ : pm_S) (i j : Nat) (g : as_r w1 E ρ A σ) (hi : w1.1.2.1 i σ.2.2.2.1) (hj : j ∈ g_wk A i) : w1.1.2.1 j σ.2.2.2.1 := by
  unfold g_wk at hj
  cases hb : ((Nat.ble 2402 i && Nat.blt i 3402) && ((Nat.blt 0 ((i - 2402) / 100) && Nat.blt 0 ((i - 2402) % 10)) && hd_ne A ((i - 2402) / 10 % 10))) with
  | false => rw [hb] at hj; exact absurd hj List.not_mem_nil
  | true =>
    rw [hb] at hj
    rw [Bool.and_eq_true, Bool.and_eq_true, Bool.and_eq_true, Bool.and_eq_true] at hb
    obtain ⟨R, v, d, hR, hv', hd, e, ed, ev, eR⟩ := hfd_dec hb.1.1 hb.1.2
    have hR0 : 0 < R := by rw [eR]; exact Nat.le_of_ble_eq_true hb.2.1.1
    have hd0 : 0 < d := by rw [ed]; exact Nat.le_of_ble_eq_true hb.2.1.2
    have hne : ¬ hv σ.2.2.2.1 v = -1 := by rw [ev]; exact hd_ne_ok g hb.2.2
    have hj := List.mem_singleton.mp hj
    subst hj
    rw [← eR, ← ev, ← ed]
    have hm := Nat.mod_lt v hR0
    rw [show 2402 + ((R * 10 + (v % R + 1)) * 10 + (d - 1)) = 1202 + (1200 + ((R * 10 + (v % R + 1)) * 10 + (d - 1))) by omega, w1_hfd hR (by omega) (by omega)]
    rw [e, w1_hfd hR hv' hd, show d = (d - 1) + 1 by omega] at hi
    cases hi with
    | inl h => exact absurd h hne
    | inr h => exact h
noncomputable def b_wk (A : AS) (i : Nat) : Bool := (Nat.ble 2402 i && Nat.blt i 3402) && (Nat.beq ((i - 2402) % 10) 0 && hd_ne A ((i - 2402) / 10 % 10))
set_option maxRecDepth 20000 in
theorem b_wk_ok (E : AEnv) (ρ : Nat → Int) (A : AS) (σ : pm_S) (i : Nat) (g : as_r w1 E ρ A σ) (hi : w1.1.2.1 i σ.2.2.2.1) (hb : b_wk A i = true) : False := by
  unfold b_wk at hb
  rw [Bool.and_eq_true, Bool.and_eq_true, Bool.and_eq_true] at hb
  obtain ⟨R, v, d, hR, hv', hd, e, ed, ev, eR⟩ := hfd_dec hb.1.1 hb.1.2
  have hd0 : d = 0 := by rw [ed]; exact Nat.eq_of_beq_eq_true hb.2.1
  have hne : ¬ hv σ.2.2.2.1 v = -1 := by rw [ev]; exact hd_ne_ok g hb.2.2
  subst hd0
  rw [e, w1_hfd hR hv' (by omega)] at hi
  exact hne hi
/-- a free one is near -/
noncomputable def g_hf (p : Nat) (A : AS) (i : Nat) : List Nat := bif ((Nat.ble 1210 i && Nat.blt i 2310) && Nat.beq ((i - 1210) % 11) 10) && Nat.blt ((i - 1210) / 11 % 10) ((i - 1210) / 110) then (match as_get A.2.1 p with
  | some (.inl (k, o)) => (match iv_rng A.2.2.2.1 k o with
    | some (l, u) => bif (decide (l = u) && decide (1 ≤ l)) && decide (l ≤ (((i - 1210) / 110 : Nat) : Int)) then [2402 + (((i - 1210) / 110 * 10 + l.toNat) * 10 + ((i - 1210) / 110 - 1))] else (bif decide (l = 0) && decide (u = 0) then [2402 + (((i - 1210) / 110 * 10 + 0) * 10 + (i - 1210) / 110)] else [])
    | none => [])
  | _ => []) else []
set_option maxRecDepth 20000 in
theorem g_hf_ok (p i j : Nat) (A : AS) (h : pm_H) (hi : w1.1.2.1 i h) (hj : j ∈ g_hf p A i) : w1.1.2.1 j h := by
  unfold g_hf at hj
  cases hb : (((Nat.ble 1210 i && Nat.blt i 2310) && Nat.beq ((i - 1210) % 11) 10) && Nat.blt ((i - 1210) / 11 % 10) ((i - 1210) / 110)) with
  | false => rw [hb] at hj; exact absurd hj List.not_mem_nil
  | true =>
    rw [hb, cond_true] at hj
    rw [Bool.and_eq_true, Bool.and_eq_true, Bool.and_eq_true] at hb
    obtain ⟨R, k, v, hR, hk, hv', e, ev, ek, eR⟩ := cnt_dec hb.1.1.1 hb.1.1.2
    have hv10 : v = 10 := by rw [ev]; exact Nat.eq_of_beq_eq_true hb.1.2
    have hkR : k < R := by rw [ek, eR]; exact Nat.le_of_ble_eq_true hb.2
    subst hv10
    rw [← eR] at hj
    split at hj
    · rename_i kk o _
      split at hj
      · rename_i l u _
        cases hc : ((decide (l = u) && decide (1 ≤ l)) && decide (l ≤ (R : Int))) with
        | false =>
          rw [hc, cond_false] at hj
          cases hz : (decide (l = 0) && decide (u = 0)) with
          | false => rw [hz] at hj; exact absurd hj List.not_mem_nil
          | true =>
            rw [hz] at hj
            have hj := List.mem_singleton.mp hj
            subst hj
            rw [show 2402 + ((R * 10 + 0) * 10 + R) = 1202 + (1200 + ((R * 10 + 0) * 10 + R)) by omega, w1_hfd hR (by omega) (by omega)]
            rw [e, w1_cnt hR hk (by omega)] at hi
            cases hi with
            | inr h9 => omega
            | inl h' =>
              rw [show R = (R - 1) + 1 by omega]
              right
              rw [show R - 1 + 1 = R by omega, Nat.zero_mod]
              exact hfd_free hR (by omega) (by omega) (by omega)
        | true =>
          rw [hc] at hj
          simp only [Bool.and_eq_true, decide_eq_true_eq] at hc
          have hj := List.mem_singleton.mp hj
          subst hj
          rw [show 2402 + ((R * 10 + l.toNat) * 10 + (R - 1)) = 1202 + (1200 + ((R * 10 + l.toNat) * 10 + (R - 1))) by omega, w1_hfd hR (by omega) (by omega)]
          rw [e, w1_cnt hR hk (by omega)] at hi
          cases hi with
          | inr h9 => omega
          | inl h' => exact hfd_free hR (by omega) (by omega) (by omega)
      · exact absurd hj List.not_mem_nil
    · exact absurd hj List.not_mem_nil
noncomputable def b_no (_ : AS) (_ : Nat) : Bool := false
noncomputable def g_no (_ : AS) (_ : Nat) : List Nat := []
noncomputable def k_cw (_ : Nat) (A : AS) : List AS := hint1 g_cw b_no A
theorem k_cw_ok (f : Nat) (E : AEnv) (A : AS) (σ : pm_S) (g : as_g w1 E A σ) : ∃ B ∈ k_cw f A, as_g w1 E B σ := hint1_ok (fun _ _ A σ i j _ h1 h2 => g_cw_ok i j A _ h1 h2) (fun _ _ _ _ _ _ _ h => by cases h) E A σ g
noncomputable def k_ci (_ : Nat) (A : AS) : List AS := hint1 g_ci b_no A
theorem k_ci_ok (f : Nat) (E : AEnv) (A : AS) (σ : pm_S) (g : as_g w1 E A σ) : ∃ B ∈ k_ci f A, as_g w1 E B σ := hint1_ok (fun _ _ A σ i j _ h1 h2 => g_ci_ok i j A _ h1 h2) (fun _ _ _ _ _ _ _ h => by cases h) E A σ g
noncomputable def k_wk (_ : Nat) (A : AS) : List AS := hint1 g_wk b_wk A
theorem k_wk_ok (f : Nat) (E : AEnv) (A : AS) (σ : pm_S) (g : as_g w1 E A σ) : ∃ B ∈ k_wk f A, as_g w1 E B σ := hint1_ok g_wk_ok b_wk_ok E A σ g
noncomputable def k_hf (p : Nat) (A : AS) : List AS := hint1 (g_hf p) b_no A
theorem k_hf_ok (p : Nat) (E : AEnv) (A : AS) (σ : pm_S) (g : as_g w1 E A σ) : ∃ B ∈ k_hf p A, as_g w1 E B σ := hint1_ok (fun _ _ A σ i j _ h1 h2 => g_hf_ok p i j A _ h1 h2) (fun _ _ _ _ _ _ _ h => by cases h) E A σ g
/-- none is held -/
noncomputable def k_c0 (R : Nat) (A : AS) : List AS := [bif Nat.ble R 9 && (List.range R).all (fun q => match mem_get A.2.2.2.2.1 90 (q + 1) with
  | some (.inl (k, o)) => (match iv_rng A.2.2.2.1 k o with | some (l, u) => decide (l = -1) && decide (u = -1) | none => false)
  | _ => false) then add_fl A (1202 + (8 + ((R * 10 + 0) * 11 + 10))) else A]
theorem k_c0_ok (R : Nat) (E : AEnv) (A : AS) (σ : pm_S) (g : as_g w1 E A σ) : ∃ B ∈ k_c0 R A, as_g w1 E B σ := by
  refine ⟨_, List.mem_singleton_self _, ?_⟩
  cases hb : (Nat.ble R 9 && (List.range R).all (fun q => match mem_get A.2.2.2.2.1 90 (q + 1) with
    | some (.inl (k, o)) => (match iv_rng A.2.2.2.1 k o with | some (l, u) => decide (l = -1) && decide (u = -1) | none => false)
    | _ => false)) with
  | false => exact g
  | true =>
    obtain ⟨ρ, g⟩ := g
    rw [Bool.and_eq_true] at hb
    have hR := Nat.le_of_ble_eq_true hb.1
    refine ⟨ρ, add_fl_ok g ?_⟩
    rw [w1_cnt hR (by omega) (by omega)]
    left
    rw [cntf_zero]
    · omega
    · intro q h1 h2
      have h3 := List.all_eq_true.mp hb.2 (q - 1) (List.mem_range.mpr (by omega))
      rw [show q - 1 + 1 = q by omega] at h3
      split at h3
      · rename_i k o e
        split at h3
        · rename_i l u r
          simp only [Bool.and_eq_true, decide_eq_true_eq] at h3
          obtain ⟨x, p1, p2⟩ := g.2.2.2.2.2.1 _ _ (mem_get_in e)
          obtain ⟨y, rfl, p2⟩ := av_int p2
          have := iv_rng_ok g.1 p2 r
          unfold hv
          dsimp only at p1
          rw [p1]
          dsimp only
          omega
        · cases h3
      · cases h3
/-- cars are at most places -/
noncomputable def k_cp (r : Nat) (A : AS) : List AS := bif A.2.2.2.2.2.2.1.contains (1202 + r) && Nat.blt r 8 then (match mem_get A.2.2.2.2.1 84 (6 * r), mem_get A.2.2.2.2.1 84 (6 * r + 3) with
  | some (.inl (k, o)), some (.inl (k', o')) => (match iv_rng A.2.2.2.1 k o with
    | some (_, u) => (match iv_nar A.2.2.2.1 k' o' (-2147483648) u with | some iv' => [set_iv A iv'] | none => [])
    | none => [A])
  | _, _ => [A]) else [A]
theorem k_cp_ok (r : Nat) (E : AEnv) (A : AS) (σ : pm_S) (g : as_g w1 E A σ) : ∃ B ∈ k_cp r A, as_g w1 E B σ := by
  have self : ∃ B ∈ [A], as_g w1 E B σ := ⟨A, List.mem_singleton_self _, g⟩
  unfold k_cp
  cases hc : (A.2.2.2.2.2.2.1.contains (1202 + r) && Nat.blt r 8) with
  | false => exact self
  | true =>
    rw [cond_true]
    rw [Bool.and_eq_true] at hc
    split
    · rename_i k o k' o' e1 e2
      split
      · rename_i l u rr
        obtain ⟨ρ, g⟩ := g
        have hF := fl_of g hc.1
        rw [w1_new] at hF
        unfold fl3 at hF
        rw [hc.2] at hF
        have hF : CPf r σ.2.2.2.1 := hF
        obtain ⟨v1, p1, q1⟩ := g.2.2.2.2.2.1 _ _ (mem_get_in e1)
        obtain ⟨v2, p2, q2⟩ := g.2.2.2.2.2.1 _ _ (mem_get_in e2)
        obtain ⟨x, rfl, q1⟩ := av_int q1
        obtain ⟨y, rfl, q2⟩ := av_int q2
        have b1 := iv_rng_ok g.1 q1 rr
        have h7 := hF y x p2 p1
        obtain ⟨iv', e3, e4, e5⟩ := iv_nar_ok (lo := -2147483648) (hi := u) g.1 q2 (ai_lo y) (by omega)
        rw [e3]
        exact ⟨_, List.mem_singleton_self _, ρ, as_iv g e4 e5⟩
      · exact self
    · exact self
/-- what lies at a place is told apart -/
noncomputable def k_ld (f : Nat) (A : AS) : List AS := h_ld f A
theorem k_ld_ok (f : Nat) (E : AEnv) (A : AS) (σ : pm_S) (g : as_g w1 E A σ) : ∃ B ∈ k_ld f A, as_g w1 E B σ := by
  have self : ∃ B ∈ [A], as_g w1 E B σ := ⟨A, List.mem_singleton_self _, g⟩
  unfold k_ld h_ld
  split
  · rename_i a k _
    split
    · rename_i lo hi _ eb
      cases hb : decide (0 ≤ lo) with
      | false => exact self
      | true =>
        have hb := of_decide_eq_true hb
        obtain ⟨ρ, g1, g2, g3, g4, g5⟩ := g
        obtain ⟨x, e1, e2, e3⟩ := ld_b_ok (h := σ.2.2.2.1) g5.1 eb
        refine ⟨_, ld_each_in (j := x.toInt.toNat) _ _ (by omega) (by omega), ρ, g1, g2, g3, g4, ex_note_ok g5 e1 ?_⟩
        show x.toInt = ((x.toInt.toNat : Nat) : Int)
        omega
    · exact self
  · exact self
/-- one limb up -/
noncomputable def hg_ex (A : AS) (v : Nat) : Option Nat := match mem_get A.2.2.2.2.1 92 v with
  | some (.inl (k, o)) => (match iv_rng A.2.2.2.1 k o with | some (l, u) => bif (decide (l = u) && decide (0 ≤ l)) && decide (l < 10) then some l.toNat else none | none => none)
  | _ => none
theorem hg_ex_ok {w : AW} {E : AEnv} {ρ : Nat → Int} {A : AS} {σ : pm_S} {v u : Nat} (g : as_r w E ρ A σ) (h : hg_ex A v = some u) : hg σ.2.2.2.1 v = u ∧ u < 10 := by
  unfold hg_ex at h
  split at h
  · rename_i k o e
    split at h
    · rename_i l uu r
      cases hb : ((decide (l = uu) && decide (0 ≤ l)) && decide (l < 10)) with
      | false => rw [hb] at h; cases h
      | true =>
        rw [hb] at h
        cases h
        simp only [Bool.and_eq_true, decide_eq_true_eq] at hb
        obtain ⟨x, p, q⟩ := g.2.2.2.2.2.1 _ _ (mem_get_in e)
        obtain ⟨y, rfl, q⟩ := av_int q
        have := iv_rng_ok g.1 q r
        refine ⟨?_, by omega⟩
        unfold hg
        dsimp only at p
        rw [p]
        dsimp only
        omega
    · cases h
  · cases h
theorem dep_dec {i : Nat} (h1 : Nat.ble 3402 i = true) (h2 : Nat.blt i 3502 = true) : ∃ v d, v < 10 ∧ d < 10 ∧ i = 1202 + (2200 + (v * 10 + d)) ∧ d = (i - 3402) % 10 ∧ v = (i - 3402) / 10 := by
  have a := Nat.le_of_ble_eq_true h1
  have b : i < 3502 := Nat.le_of_ble_eq_true h2
  exact ⟨(i - 3402) / 10, (i - 3402) % 10, by omega, by omega, by omega, rfl, rfl⟩
noncomputable def g_dp (A : AS) (i : Nat) : List Nat := bif (Nat.ble 3402 i && Nat.blt i 3502) && (Nat.blt 0 ((i - 3402) % 10) && Nat.blt 0 ((i - 3402) / 10)) then (match hg_ex A ((i - 3402) / 10) with
  | some u => [3402 + (u * 10 + ((i - 3402) % 10 - 1))]
  | none => []) else []
set_option maxRecDepth 20000 in
theorem g_dp_ok (E : AEnv) (ρ : Nat → Int) (A : AS) (σ : pm_S) (i j : Nat) (g : as_r w1 E ρ A σ) (hi : w1.1.2.1 i σ.2.2.2.1) (hj : j ∈ g_dp A i) : w1.1.2.1 j σ.2.2.2.1 := by
  unfold g_dp at hj
  cases hb : ((Nat.ble 3402 i && Nat.blt i 3502) && (Nat.blt 0 ((i - 3402) % 10) && Nat.blt 0 ((i - 3402) / 10))) with
  | false => rw [hb] at hj; exact absurd hj List.not_mem_nil
  | true =>
    rw [hb, cond_true] at hj
    rw [Bool.and_eq_true, Bool.and_eq_true, Bool.and_eq_true] at hb
    obtain ⟨v, d, hv', hd, e, ed, ev⟩ := dep_dec hb.1.1 hb.1.2
    have hd0 : 0 < d := by rw [ed]; exact Nat.le_of_ble_eq_true hb.2.1
    have hv0 : 0 < v := by rw [ev]; exact Nat.le_of_ble_eq_true hb.2.2
    rw [← ev, ← ed] at hj
    split at hj
    · rename_i u hu
      obtain ⟨q1, q2⟩ := hg_ex_ok g hu
      have hj := List.mem_singleton.mp hj
      subst hj
      rw [show 3402 + (u * 10 + (d - 1)) = 1202 + (2200 + (u * 10 + (d - 1))) by omega, w1_dep q2 (by omega)]
      rw [e, w1_dep hv' hd, show d = (d - 1) + 1 by omega] at hi
      cases hi with
      | inl h => omega
      | inr h => rw [q1] at h; exact h
    · exact absurd hj List.not_mem_nil
noncomputable def b_dp (_ : AS) (i : Nat) : Bool := (Nat.ble 3402 i && Nat.blt i 3502) && (Nat.beq ((i - 3402) % 10) 0 && Nat.blt 0 ((i - 3402) / 10))
set_option maxRecDepth 20000 in
theorem b_dp_ok (E : AEnv) (ρ : Nat → Int) (A : AS) (σ : pm_S) (i : Nat) (_ : as_r w1 E ρ A σ) (hi : w1.1.2.1 i σ.2.2.2.1) (hb : b_dp A i = true) : False := by
  unfold b_dp at hb
  rw [Bool.and_eq_true, Bool.and_eq_true, Bool.and_eq_true] at hb
  obtain ⟨v, d, hv', hd, e, ed, ev⟩ := dep_dec hb.1.1 hb.1.2
  have hd0 : d = 0 := by rw [ed]; exact Nat.eq_of_beq_eq_true hb.2.1
  have hv0 : 0 < v := by rw [ev]; exact Nat.le_of_ble_eq_true hb.2.2
  subst hd0
  rw [e, w1_dep hv' (by omega)] at hi
  have hi : v = 0 := hi
  omega
noncomputable def k_dp (_ : Nat) (A : AS) : List AS := hint1 g_dp b_dp A
theorem k_dp_ok (f : Nat) (E : AEnv) (A : AS) (σ : pm_S) (g : as_g w1 E A σ) : ∃ B ∈ k_dp f A, as_g w1 E B σ := hint1_ok g_dp_ok b_dp_ok E A σ g
