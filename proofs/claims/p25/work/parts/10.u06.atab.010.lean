section
theorem pcn_full {m : Nat} : ∀ {n : Nat}, n ≤ pcn m n → ∀ k, k < n → isB m k = true := by
  intro n h k hk
  cases hz : isB m k with
  | true => rfl
  | false => have := pcn_lt hz hk; omega
theorem pcn_mono {m m' : Nat} : ∀ {n : Nat}, (∀ k, k < n → isB m k = true → isB m' k = true) → pcn m n ≤ pcn m' n
  | 0, _ => Nat.le_refl _
  | n + 1, h => by
    have ih := pcn_mono (n := n) (fun k hk => h k (by omega))
    unfold pcn
    by_cases h1 : isB m n = true
    · rw [if_pos h1, if_pos (h n (by omega) h1)]; omega
    · rw [if_neg h1]; split <;> omega
theorem cw_pcn {f : Nat → Nat} {p m : Nat} : ∀ {n : Nat}, (∀ c, c < n → f c ≤ p → isB m c = true) → cw f p n ≤ pcn m n
  | 0, _ => Nat.le_refl _
  | n + 1, h => by
    have ih := cw_pcn (n := n) (fun k hk => h k (by omega))
    unfold pcn cw
    by_cases h1 : f n ≤ p
    · rw [if_pos h1, if_pos (h n (by omega) h1)]; omega
    · rw [if_neg h1]; split <;> omega
theorem isB_add_tab : ∀ m : Fin 512, ∀ c : Fin 9, isB m.val c.val = false → m.val + 2 ^ c.val < 512 ∧ ∀ j : Fin 9, isB (m.val + 2 ^ c.val) j.val = (j.val == c.val || isB m.val j.val) := by decide +kernel
theorem isB_add {m c j : Nat} (hm : m < 512) (hc : c < 9) (hj : j < 9) (hz : isB m c = false) : isB (m + 2 ^ c) j = (j == c || isB m j) := (isB_add_tab ⟨m, hm⟩ ⟨c, hc⟩ hz).2 ⟨j, hj⟩
theorem isB_add_lt {m c : Nat} (hm : m < 512) (hc : c < 9) (hz : isB m c = false) : m + 2 ^ c < 512 := (isB_add_tab ⟨m, hm⟩ ⟨c, hc⟩ hz).1
theorem pcn_add {m c : Nat} (hm : m < 512) (hc : c < 9) (hz : isB m c = false) : ∀ {n : Nat}, n ≤ 9 → pcn (m + 2 ^ c) n = pcn m n + (if c < n then 1 else 0)
  | 0, _ => rfl
  | n + 1, hn => by
    have ih := pcn_add hm hc hz (n := n) (by omega)
    have hb := isB_add hm hc (j := n) (by omega) hz
    unfold pcn
    rw [ih, hb]
    by_cases h1 : n = c
    · subst h1
      rw [hz, if_neg (show ¬ n < n by omega), if_pos (show n < n + 1 by omega), beq_self_eq_true]
      rfl
    · rw [show (n == c) = false from beq_eq_false_iff_ne.mpr h1, Bool.false_or]
      by_cases h2 : c < n
      · rw [if_pos h2, if_pos (show c < n + 1 by omega)]; omega
      · rw [if_neg h2, if_neg (show ¬ c < n + 1 by omega), Nat.add_zero, Nat.add_zero]
theorem or_new {m k : Nat} (hm : m < 512) (hk : k < 9) (hz : isB m k = false) : nJ m ||| nJ 1 <<< (nJ k &&& 31) = nJ (m + 2 ^ k) := by
  have := or_tab ⟨m, hm⟩ ⟨k, hk⟩
  dsimp only at this
  rw [hz] at this
  exact this
theorem isB_zero (k : Nat) : isB 0 k = false := by
  unfold isB
  rw [Nat.zero_div]
  rfl
theorem pcn_zero : ∀ n, pcn 0 n = 0
  | 0 => rfl
  | n + 1 => by
    unfold pcn
    rw [pcn_zero n, isB_zero, if_neg (by decide)]
/-- frames -/
theorem fr_rf (M : List Rng) (h : pm_H) : fr_g M h h := fun _ _ _ => rfl
theorem fr_ptr {M : List Rng} {h0 h : pm_H} {a k l u : Nat} {v : Int32} (hs : rg_sub M a l u = true) (h1 : l ≤ k) (h2 : k ≤ u) (hf : fr_g M h0 h) : fr_g M h0 (pt h a k v) := by
  intro b j hbj
  rw [ld_pt]
  · exact hf b j hbj
  · intro hb hj
    subst hb; subst hj
    rw [rg_sub_in hs h1 h2] at hbj
    cases hbj
theorem fr_trans {M : List Rng} {h0 h1 h2 : pm_H} (a : fr_g M h0 h1) (b : fr_g M h1 h2) : fr_g M h0 h2 := fun x y hxy => (b x y hxy).trans (a x y hxy)
theorem fr_gi {M : List Rng} {h h' : pm_H} {a k : Nat} (hf : fr_g M h h') (hM : rg_in M a k = false) : gi h' a k = gi h a k := by
  unfold gi
  rw [hf a k hM]
theorem fr_gn {M : List Rng} {h h' : pm_H} {a k : Nat} (hf : fr_g M h h') (hM : rg_in M a k = false) : gn h' a k = gn h a k := by
  unfold gn
  rw [fr_gi hf hM]
theorem rg_no {M : List Rng} {a : Nat} (hM : M.all (fun r => !(Nat.beq r.1 a)) = true) (k : Nat) : rg_in M a k = false := by
  cases hb : rg_in M a k with
  | false => rfl
  | true =>
    obtain ⟨r, hr, hc⟩ := List.any_eq_true.mp hb
    have hd := List.all_eq_true.mp hM r hr
    rw [Bool.and_eq_true] at hc
    rw [hc.1] at hd
    cases hd
theorem cw_T {f : Nat → Nat} {p c : Nat} (h : f c ≤ p) : cw f p (c + 1) = cw f p c + 1 := by
  show cw f p c + (if f c ≤ p then 1 else 0) = _
  rw [if_pos h]
theorem cw_F {f : Nat → Nat} {p c : Nat} (h : ¬ f c ≤ p) : cw f p (c + 1) = cw f p c + 0 := by
  show cw f p c + (if f c ≤ p then 1 else 0) = _
  rw [if_neg h]
theorem ce_T {f : Nat → Nat} {p c : Nat} (h : f c = p) : ce f p (c + 1) = ce f p c + 1 := by
  show ce f p c + (if f c = p then 1 else 0) = _
  rw [if_pos h]
theorem ce_F {f : Nat → Nat} {p c : Nat} (h : ¬ f c = p) : ce f p (c + 1) = ce f p c := by
  show ce f p c + (if f c = p then 1 else 0) = _
  rw [if_neg h, Nat.add_zero]
theorem cw_none {f : Nat → Nat} {p : Nat} : ∀ {n : Nat}, (∀ c, c < n → ¬ f c ≤ p) → cw f p n = 0
  | 0, _ => rfl
  | n + 1, h => by
    unfold cw
    rw [cw_none (n := n) (fun c hc => h c (by omega)), if_neg (h n (by omega))]
/-- runs are determined -/
theorem pm_go_det {look : Nat → Option pm_I} {call : pm_Call} (hc : ∀ y h as h1 r1 h2 r2, call y h as h1 r1 → call y h as h2 r2 → h1 = h2 ∧ r1 = r2) : ∀ (n m : Nat) (σ : pm_S) (o1 o2 : pm_H × Option Value), pm_go look call n σ o1 → pm_go look call m σ o2 → o1 = o2
  | 0, _, _, _, _, h, _ => h.elim
  | _ + 1, 0, _, _, _, _, h => h.elim
  | n + 1, m + 1, σ, o1, o2, h1, h2 => by
    unfold pm_go at h1 h2
    cases hl : look σ.1 with
    | none => rw [hl] at h1; exact h1.elim
    | some x =>
      rw [hl] at h1 h2
      match x, hl, h1, h2 with
      | .inl f, hl, h1, h2 =>
        dsimp only at h1 h2
        cases hf : f σ with
        | none => rw [hf] at h1; exact h1.elim
        | some σ' =>
          rw [hf] at h1 h2
          exact pm_go_det hc n m σ' o1 o2 h1 h2
      | .inr (.inl (y, k, ci, mc, ms)), hl, h1, h2 =>
        dsimp only at h1 h2
        obtain ⟨ha, ra, a1, a2, a3⟩ := h1
        obtain ⟨hb, rb, b1, b2, b3⟩ := h2
        obtain ⟨rfl, rfl⟩ := hc _ _ _ _ _ _ _ a1 b1
        exact pm_go_det hc n m _ o1 o2 a3 b3
      | .inr (.inr kd), hl, h1, h2 =>
        dsimp only at h1 h2
        match kd, h1, h2 with
        | 0, h1, h2 => rw [h1.2, h2.2]
        | 1, h1, h2 =>
          obtain ⟨v, e1, e2⟩ := h1; obtain ⟨w, f1, f2⟩ := h2
          rw [e1] at f1; cases f1; rw [e2, f2]
        | 2, h1, h2 =>
          obtain ⟨v, e1, _, e2⟩ := h1; obtain ⟨w, f1, _, f2⟩ := h2
          rw [e1] at f1; cases f1; rw [e2, f2]
        | 3, h1, h2 =>
          obtain ⟨v, e1, e2⟩ := h1; obtain ⟨w, f1, f2⟩ := h2
          rw [e1] at f1; cases f1; rw [e2, f2]
        | 4, h1, h2 =>
          obtain ⟨v, e1, _, e2⟩ := h1; obtain ⟨w, f1, _, f2⟩ := h2
          rw [e1] at f1; cases f1; rw [e2, f2]
        | k + 5, h1, h2 =>
          obtain ⟨v, e1, _, e2⟩ := h1; obtain ⟨w, f1, _, f2⟩ := h2
          rw [e1] at f1; cases f1; rw [e2, f2]
theorem pm_Rt_det {P : List (Nat × pm_M)} : ∀ (d y : Nat) (h : pm_H) (as : List Value) (h1 : pm_H) (r1 : Option Value) (h2 : pm_H) (r2 : Option Value), pm_Rt P d y h as h1 r1 → pm_Rt P d y h as h2 r2 → h1 = h2 ∧ r1 = r2
  | 0, _, _, _, _, _, _, _, h, _ => h.elim
  | d + 1, y, h, as, h1, r1, h2, r2, ⟨I, e1, _, n, e3⟩, ⟨J, f1, _, m, f3⟩ => by
    rw [e1] at f1
    cases f1
    have := pm_go_det (pm_Rt_det d) n m _ _ _ e3 f3
    exact ⟨congrArg Prod.fst this, congrArg Prod.snd this⟩
/-- two things that a run ends with -/
theorem Sp_and {d e y : Nat} {h : pm_H} {as : List Value} {Q Q' : pm_H → Option Value → Prop} (a : Sp d y h as Q) (b : Sp e y h as Q') : Sp (d + e) y h as (fun h' r => Q h' r ∧ Q' h' r) := by
  obtain ⟨h1, r1, a1, a2⟩ := Sp_up a e
  obtain ⟨h2, r2, b1, b2⟩ := Sp_le (Nat.le_add_left e d) b
  obtain ⟨rfl, rfl⟩ := pm_Rt_det _ _ _ _ _ _ _ _ a1 b1
  exact ⟨h1, r1, a1, a2, b2⟩
/-- what a summary says of a run -/
theorem Sp_sum {w : AW} {d : Nat} {S : Sum1} {h : pm_H} {as : List Value} (q : sum_g w (pm_Rt pm_P d) S) (hh : hs_g w.1.1 h) (ha : f2 cv_g S.2.1 as) (hm : mm_g h S.2.2.1) (hf : ∀ i ∈ S.2.2.2.1, w.1.2.1 i h) : Sp d S.1 h as (fun h' r => hs_g w.1.1 h' ∧ fr_g S.2.2.2.2.1 h h' ∧ ∃ C ∈ S.2.2.2.2.2, cs_g w as h' r C) := by
  obtain ⟨h', r, a, b⟩ := q h as hh ha hm hf
  exact ⟨h', r, a, b⟩
theorem fr_wk {M M' : List Rng} {h h' : pm_H} (hs : M.all (fun r => rg_sub M' r.1 r.2.1 r.2.2) = true) (hf : fr_g M h h') : fr_g M' h h' := by
  intro a k hak
  refine hf a k ?_
  cases hb : rg_in M a k with
  | false => rfl
  | true =>
    obtain ⟨r, hr, hc⟩ := List.any_eq_true.mp hb
    have h1 := List.all_eq_true.mp hs r hr
    simp only [Bool.and_eq_true] at hc
    have he := Nat.eq_of_beq_eq_true hc.1
    subst he
    rw [rg_sub_in h1 (Nat.le_of_ble_eq_true hc.2.1) (Nat.le_of_ble_eq_true hc.2.2)] at hak
    cases hak
theorem nar_z {v : Int32} (h0 : 0 ≤ v.toInt) (h1 : v.toInt ≤ 1) : vp_nar .boolean v = v := by
  have : v = 0 ∨ v = 1 := by
    by_cases e : v.toInt = 0
    · exact .inl (Int32.toInt_inj.mp e)
    · exact .inr (Int32.toInt_inj.mp (show v.toInt = (1 : Int32).toInt by show v.toInt = 1; omega))
  rcases this with rfl | rfl <;> decide
section ZB
variable {look : Nat → Option pm_I} {call : pm_Call} {Q : pm_H → Option Value → Prop} {pc n : Nat} {lv : List (Nat × Value)} {st : List Value} {h : pm_H} {z : Nat × Nat}
theorem E_zalB {a len j : Nat} {p : List (Int × Int)} {v : Int32} (h1 : look pc = some (.inl (s_zald n))) (hh : HH h) (hc : hs0[a]? = some (.inl (2, len, p))) (hj : j < len) (hj2 : len < 2147483648) (e : gi h a j = v) (kk : Ends look call (n, lv, .int v :: st, h, z) Q) : Ends look call (pc, lv, .int (nJ j) :: .ref a :: st, h, z) Q := by
  subst e
  obtain ⟨f, hx, hf⟩ := ar_of hh hc
  have h2 := nJ_toInt (n := j) (by omega)
  have h3 : pm_ix (nJ j) len = true := ai_ix (by omega) (by omega)
  have h4 : (nJ j).toNatClampNeg = j := by show (nJ j).toInt.toNat = j; omega
  refine E_st h1 ?_ kk
  simp only [s_zald, hx, h3, h4, cond_true, ← hf]
theorem E_zasB {a len j : Nat} {p : List (Int × Int)} {v : Int32} (h1 : look pc = some (.inl (s_zast n))) (hh : HH h) (hc : hs0[a]? = some (.inl (2, len, p))) (hj : j < len) (hj2 : len < 2147483648) (hv : vp_nar .boolean v = v) (kk : Ends look call (n, lv, st, pt h a j v, z) Q) : Ends look call (pc, lv, .int v :: .int (nJ j) :: .ref a :: st, h, z) Q := by
  obtain ⟨f, hx, hf⟩ := ar_of hh hc
  have h2 := nJ_toInt (n := j) (by omega)
  have h3 : pm_ix (nJ j) len = true := ai_ix (by omega) (by omega)
  have h4 : (nJ j).toNatClampNeg = j := by show (nJ j).toInt.toNat = j; omega
  have h5 : pt h a j v = h.set a (.inl (2, len, .inl (upd f j v))) := by unfold pt; rw [hx]
  refine E_st h1 ?_ kk
  simp only [s_zast, hx, h3, h4, cond_true, h5, hv]
end ZB
end
section
/-! by hand: longs, small tests -/
noncomputable def zb (p : Prop) [Decidable p] : Int32 := nJ (bif decide p then 1 else 0)
end
