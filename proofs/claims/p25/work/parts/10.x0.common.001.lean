section
/-- what holds a place -/
noncomputable def hv (h : pm_H) (q : Nat) : Int := match ld h 90 q with
  | some (.int x) => x.toInt
  | _ => 0
noncomputable def cntf (f : Nat → Int) (v : Nat) : Nat → Nat
  | 0 => 0
  | R + 1 => cntf f v R + (if R + 1 = v ∨ f (R + 1) = -1 then 0 else 1)
noncomputable def hfd (f : Nat → Int) (R : Nat) : Nat → Nat → Prop
  | 0, v => f v = -1
  | d + 1, v => f v = -1 ∨ hfd f R d (v % R + 1)
theorem cntf_eq {f g : Nat → Int} {v : Nat} : ∀ {R : Nat}, (∀ q, q ≤ R → q ≠ v → f q = g q) → cntf f v R = cntf g v R
  | 0, _ => rfl
  | R + 1, h => by
    unfold cntf
    rw [cntf_eq (R := R) (fun q hq hv => h q (by omega) hv)]
    by_cases hR : R + 1 = v
    · simp only [hR, true_or]
    · rw [h (R + 1) (Nat.le_refl _) hR]
theorem cntf_weak {f : Nat → Int} {v : Nat} : ∀ (R : Nat), cntf f v R ≤ cntf f 10 R ∨ 9 < R
  | 0 => .inl (Nat.le_refl _)
  | R + 1 => by
    by_cases h9 : 9 < R + 1
    · exact .inr h9
    · cases cntf_weak (f := f) (v := v) R with
      | inr h => omega
      | inl h =>
        left
        unfold cntf
        by_cases h1 : f (R + 1) = -1
        · simp only [h1, or_true, if_true]; exact h
        · have h10 : ¬ R + 1 = 10 := by omega
          simp only [h1, or_false, h10, if_false]
          split <;> omega
/-- one place more may be held -/
theorem cntf_inc {f g : Nat → Int} {v : Nat} : ∀ {R : Nat}, (∀ q, q ≤ R → q ≠ v → g q = f q) → R ≤ 9 → cntf g 10 R ≤ cntf f v R + (if v ≤ R then 1 else 0)
  | 0, _, _ => by unfold cntf; omega
  | R + 1, h, h9 => by
    have ih := cntf_inc (R := R) (fun q hq hv => h q (by omega) hv) (by omega)
    unfold cntf
    have h10 : ¬ R + 1 = 10 := by omega
    by_cases hR : R + 1 = v
    · rw [if_neg (show ¬ v ≤ R by omega)] at ih
      rw [if_pos (show R + 1 = v ∨ f (R + 1) = -1 from .inl hR), if_pos (show v ≤ R + 1 by omega)]
      split <;> omega
    · rw [h (R + 1) (Nat.le_refl _) hR]
      simp only [h10, false_or, hR]
      by_cases hv : v ≤ R
      · simp only [hv, if_true] at ih
        have : v ≤ R + 1 := by omega
        simp only [this, if_true]
        split <;> omega
      · simp only [hv, if_false] at ih
        have : ¬ v ≤ R + 1 := by omega
        simp only [this, if_false]
        split <;> omega
theorem cntf_zero {f : Nat → Int} {v : Nat} : ∀ {R : Nat}, (∀ q, 1 ≤ q → q ≤ R → f q = -1) → cntf f v R = 0
  | 0, _ => rfl
  | R + 1, h => by
    unfold cntf
    rw [cntf_zero (R := R) (fun q h1 h2 => h q h1 (by omega)), h (R + 1) (by omega) (Nat.le_refl _)]
    simp only [or_true, if_true]
theorem cntf_free {f : Nat → Int} : ∀ {R : Nat}, R ≤ 9 → cntf f 10 R < R → ∃ q, 1 ≤ q ∧ q ≤ R ∧ f q = -1
  | 0, _, h => absurd h (Nat.not_lt_zero _)
  | R + 1, h9, h => by
    by_cases h1 : f (R + 1) = -1
    · exact ⟨R + 1, by omega, Nat.le_refl _, h1⟩
    · have h10 : ¬ R + 1 = 10 := by omega
      unfold cntf at h
      simp only [h1, or_false, h10, if_false] at h
      obtain ⟨q, a, b, c⟩ := cntf_free (f := f) (R := R) (by omega) (by omega)
      exact ⟨q, a, by omega, c⟩
theorem hfd_up {f : Nat → Int} {R : Nat} : ∀ {d v : Nat}, hfd f R d v → hfd f R (d + 1) v
  | 0, _, h => .inl h
  | _ + 1, _, .inl h => .inl h
  | _ + 1, _, .inr h => .inr (hfd_up h)
theorem hfd_ups {f : Nat → Int} {R d v : Nat} (h : hfd f R d v) : ∀ {e : Nat}, d ≤ e → hfd f R e v
  | 0, he => by
    have : d = 0 := by omega
    subst this
    exact h
  | e + 1, he => by
    by_cases hd : d = e + 1
    · subst hd; exact h
    · exact hfd_up (hfd_ups h (e := e) (by omega))
theorem hfd_walk {f : Nat → Int} {R q : Nat} (hR : 0 < R) (hq : f q = -1) : ∀ (i v : Nat), 1 ≤ v → v ≤ R → (v - 1 + i) % R + 1 = q → hfd f R i v
  | 0, v, h1, h2, h3 => by
    have : v = q := by rw [← h3, Nat.add_zero, Nat.mod_eq_of_lt (by omega)]; omega
    subst this
    exact hq
  | i + 1, v, h1, h2, h3 => by
    right
    refine hfd_walk hR hq i (v % R + 1) (by omega) (by have := Nat.mod_lt v hR; omega) ?_
    rw [← h3, show v % R + 1 - 1 + i = v % R + i by omega, Nat.mod_add_mod, show v - 1 + (i + 1) = v + i by omega]
theorem hfd_free {f : Nat → Int} {R v : Nat} (h9 : R ≤ 9) (h : cntf f 10 R < R) (h1 : 1 ≤ v) (h2 : v ≤ R) : hfd f R (R - 1) v := by
  obtain ⟨q, a, b, c⟩ := cntf_free h9 h
  have hR : 0 < R := by omega
  refine hfd_ups (hfd_walk hR c ((q + R - v) % R) v h1 h2 ?_) (by have := Nat.mod_lt (q + R - v) hR; omega)
  rw [Nat.add_mod_mod, show v - 1 + (q + R - v) = (q - 1) + R by omega, Nat.add_mod_right, Nat.mod_eq_of_lt (by omega)]
  omega
theorem hfd_eq {f g : Nat → Int} {R : Nat} (hR : R ≤ 9) (hfg : ∀ q, q ≤ 100 → f q = g q) : ∀ (d v : Nat), v + d ≤ 50 → d ≤ 20 → hfd f R d v → hfd g R d v
  | 0, v, hv, _, h => by
    have h : f v = -1 := h
    show g v = -1
    rw [← hfg v (by omega)]; exact h
  | d + 1, v, hv, hd, h => by
    cases h with
    | inl h => left; rw [← hfg v (by omega)]; exact h
    | inr h =>
      right
      refine hfd_eq hR hfg d (v % R + 1) ?_ (by omega) h
      by_cases h0 : R = 0
      · subst h0; rw [Nat.mod_zero]; omega
      · have := Nat.mod_lt v (Nat.pos_of_ne_zero h0); omega
/-- what a node hangs from; how far it is to node 0 -/
noncomputable def hg (h : pm_H) (q : Nat) : Nat := match ld h 92 q with
  | some (.int x) => x.toInt.toNat
  | _ => 0
noncomputable def dep (f : Nat → Nat) : Nat → Nat → Prop
  | 0, v => v = 0
  | d + 1, v => v = 0 ∨ dep f d (f v)
theorem hg_le (h : pm_H) (q : Nat) : hg h q ≤ 2147483647 := by
  unfold hg
  split
  · rename_i x _
    have := ai_hi x
    omega
  · omega
theorem dep_eq {f g : Nat → Nat} (hf : ∀ q, f q ≤ 2147483647) (hfg : ∀ q, q ≤ 4294967295 → f q = g q) : ∀ (d v : Nat), v ≤ 2147483647 → dep f d v → dep g d v
  | 0, _, _, h => h
  | _ + 1, _, _, .inl h => .inl h
  | d + 1, v, hv', .inr h => by
    right
    rw [← hfg v (by omega)]
    exact dep_eq hf hfg d (f v) (hf v) h
/-- cars are at most places -/
noncomputable def CPf (r : Nat) (h : pm_H) : Prop := ∀ c p : Int32, ld h 84 (6 * r + 3) = some (.int c) → ld h 84 (6 * r) = some (.int p) → c.toInt ≤ p.toInt
/-- 0 .. 4: cars and places; from 8: held places; from 1200: the next free one; from 2200: what hangs from what -/
noncomputable def fl3 (i : Nat) (h : pm_H) : Prop := bif Nat.blt i 8 then CPf i h else (bif Nat.blt i 1200 then cntf (hv h) ((i - 8) % 11) ((i - 8) / 110) ≤ (i - 8) / 11 % 10 ∨ 9 < (i - 8) / 110 else (bif Nat.blt i 2200 then hfd (hv h) ((i - 1200) / 100 % 10) ((i - 1200) % 10) ((i - 1200) / 10 % 10) else dep (hg h) ((i - 2200) % 10) ((i - 2200) / 10 % 10)))
noncomputable def sp3 (i : Nat) : List Rng := bif Nat.blt i 8 then [(84, 6 * i + 3, 6 * i + 3), (84, 6 * i, 6 * i)] else (bif Nat.blt i 1200 then (bif Nat.beq ((i - 8) % 11) 0 then [(90, 1, 20)] else [(90, 0, (i - 8) % 11 - 1), (90, (i - 8) % 11 + 1, 20)]) else (bif Nat.blt i 2200 then [(90, 0, 100)] else [(92, 0, 4294967295)]))
theorem hv_eq {h h' : pm_H} {q : Nat} (e : ld h' 90 q = ld h 90 q) : hv h' q = hv h q := by unfold hv; rw [e]
set_option maxRecDepth 20000 in
theorem fl3_fr (i : Nat) (h h' : pm_H) (hf : ∀ a k, rg_in (sp3 i) a k = true → ld h' a k = ld h a k) (hi : fl3 i h) : fl3 i h' := by
  unfold fl3 sp3 at *
  cases h8 : Nat.blt i 8 with
  | true =>
    rw [h8] at hf hi
    dsimp only [cond_true] at hf hi ⊢
    intro c p h1 h2
    rw [hf 84 _ (rg_in_one (Nat.le_refl _) (Nat.le_refl _) List.mem_cons_self)] at h1
    rw [hf 84 _ (rg_in_one (Nat.le_refl _) (Nat.le_refl _) (List.mem_cons_of_mem _ (List.mem_singleton_self _)))] at h2
    exact hi c p h1 h2
  | false =>
    rw [h8] at hf hi
    dsimp only [cond_false] at hf hi ⊢
    cases h12 : Nat.blt i 1200 with
    | true =>
      rw [h12] at hf hi
      dsimp only [cond_true] at hf hi ⊢
      cases hi with
      | inr h9 => exact .inr h9
      | inl hi =>
        by_cases h9 : 9 < (i - 8) / 110
        · exact .inr h9
        · left
          rw [cntf_eq (g := hv h)]
          · exact hi
          · intro q hq hv'
            refine hv_eq (hf 90 q ?_)
            cases hb : Nat.beq ((i - 8) % 11) 0 with
            | true =>
              have h0 := Nat.eq_of_beq_eq_true hb
              exact rg_in_one (by omega) (by omega) (List.mem_singleton_self _)
            | false =>
              by_cases hlt : q < (i - 8) % 11
              · exact rg_in_one (Nat.zero_le _) (by omega) List.mem_cons_self
              · exact rg_in_one (by omega) (by omega) (List.mem_cons_of_mem _ (List.mem_singleton_self _))
    | false =>
      rw [h12] at hf hi
      dsimp only [cond_false] at hf hi ⊢
      cases h22 : Nat.blt i 2200 with
      | false =>
        rw [h22] at hf hi
        dsimp only [cond_false] at hf hi ⊢
        refine dep_eq (hg_le h) (fun q hq => ?_) _ _ (by omega) hi
        unfold hg
        rw [hf 92 q (rg_in_one (Nat.zero_le _) hq (List.mem_singleton_self _))]
      | true =>
      rw [h22] at hf hi
      dsimp only [cond_true] at hf hi ⊢
      exact hfd_eq (by omega) (fun q hq => (hv_eq (hf 90 q (rg_in_one (Nat.zero_le _) hq (List.mem_singleton_self _)))).symm) _ _ (by omega) (by omega) hi
noncomputable def fl0' (i : Nat) (h : pm_H) : Prop := bif Nat.blt i 1202 then fl0 i h else fl3 (i - 1202) h
noncomputable def sp0' (i : Nat) : List Rng := bif Nat.blt i 1202 then sp0 i else sp3 (i - 1202)
set_option maxRecDepth 20000 in
theorem fl0'_fr (i : Nat) (h h' : pm_H) (a1 : hs_g hs0 h) (a2 : hs_g hs0 h') (hf : ∀ a k, rg_in (sp0' i) a k = true → ld h' a k = ld h a k) (hi : fl0' i h) : fl0' i h' := by
  unfold fl0' sp0' at *
  cases hb : Nat.blt i 1202 with
  | true => rw [hb] at hf hi; exact fl0_fr i h h' a1 a2 hf hi
  | false => rw [hb] at hf hi; exact fl3_fr (i - 1202) h h' hf hi
noncomputable def w1 : AW := ⟨(hs0, fl0', sp0'), fl0'_fr⟩
end
section
/-! what is proved by hand, as the checks use it (written by emit.py) -/
noncomputable def So0 : Sum1 := (230, [cL (-9223372036854775808) 9223372036854775807, cL 1 1], [], [], [], [([cL (-9223372036854775808) 9223372036854775807, cL 1 1], [], [], some (.inl (cL 1 9223372036854775807)))])
theorem qo0 : sum_g w0 (pm_Rt pm_P 56) So0 := common_sum (-9223372036854775808) 9223372036854775807 1 1 (by decide) (by decide)
noncomputable def So1 : Sum1 := (230, [cL (-9223372036854775808) 9223372036854775807, cL 1 100000000], [], [], [], [([cL (-9223372036854775808) 9223372036854775807, cL 1 100000000], [], [], some (.inl (cL 1 9223372036854775807)))])
theorem qo1 : sum_g w0 (pm_Rt pm_P 56) So1 := common_sum (-9223372036854775808) 9223372036854775807 1 100000000 (by decide) (by decide)
end
