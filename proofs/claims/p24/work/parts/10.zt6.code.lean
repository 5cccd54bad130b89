section
/-! by hand: a tree out of a code (written by gen_t6.py) -/
theorem nJ_inc2 (a : Nat) : nJ (2 * a) + 2 = nJ (2 * (a + 1)) := nJ_add (2 * a) 2
noncomputable def fu (l : Nat → Nat) (v x : Nat) : Nat → Nat := fun u => if u = v then x else l u
theorem fu_same (l : Nat → Nat) (v x : Nat) : fu l v x v = x := if_pos rfl
theorem fu_ne {l : Nat → Nat} {v x u : Nat} (h : u ≠ v) : fu l v x u = l u := if_neg h
noncomputable def sm (l : Nat → Nat) : Nat → Nat
  | 0 => 0
  | n + 1 => sm l n + l n
noncomputable def lc (l : Nat → Nat) : Nat → Nat
  | 0 => 0
  | n + 1 => lc l n + (if l n = 0 then 0 else 1)
theorem sm_eq {l l' : Nat → Nat} : ∀ {n : Nat}, (∀ v, v < n → l' v = l v) → sm l' n = sm l n
  | 0, _ => rfl
  | n + 1, h => by
    unfold sm
    rw [sm_eq (n := n) (fun v hv => h v (by omega)), h n (by omega)]
theorem sm_fu {l : Nat → Nat} {v x : Nat} : ∀ {n : Nat}, v < n → sm (fu l v x) n + l v = sm l n + x
  | 0, h => absurd h (Nat.not_lt_zero _)
  | n + 1, h => by
    unfold sm
    by_cases e : v = n
    · subst e
      rw [fu_same, sm_eq (l := l) (fun u hu => fu_ne (by omega))]
      omega
    · have := sm_fu (l := l) (v := v) (x := x) (n := n) (by omega)
      rw [fu_ne (show n ≠ v by omega)]
      omega
theorem lc_eq {l l' : Nat → Nat} : ∀ {n : Nat}, (∀ v, v < n → (l' v = 0 ↔ l v = 0)) → lc l' n = lc l n
  | 0, _ => rfl
  | n + 1, h => by
    unfold lc
    rw [lc_eq (n := n) (fun v hv => h v (by omega))]
    by_cases e : l n = 0
    · rw [if_pos e, if_pos ((h n (by omega)).mpr e)]
    · rw [if_neg e, if_neg (fun q => e ((h n (by omega)).mp q))]
theorem lc_fu0 {l : Nat → Nat} {v : Nat} (hv : l v ≠ 0) : ∀ {n : Nat}, v < n → lc (fu l v 0) n + 1 = lc l n
  | 0, h => absurd h (Nat.not_lt_zero _)
  | n + 1, h => by
    unfold lc
    by_cases e : v = n
    · subst e
      rw [fu_same, if_pos rfl, if_neg hv, lc_eq (l := l) (fun u hu => by rw [fu_ne (by omega)])]
    · have := lc_fu0 hv (n := n) (by omega)
      rw [fu_ne (show n ≠ v by omega)]
      omega
theorem lc_fu1 {l : Nat → Nat} {v x n : Nat} (hv : l v ≠ 0) (hx : x ≠ 0) : lc (fu l v x) n = lc l n := lc_eq (fun u _ => by
  by_cases e : u = v
  · subst e; rw [fu_same]; exact ⟨fun q => absurd q hx, fun q => absurd q hv⟩
  · rw [fu_ne e])
theorem lc_zero {l : Nat → Nat} : ∀ {n : Nat}, lc l n = 0 → ∀ v, v < n → l v = 0
  | 0, _, v, hv => absurd hv (Nat.not_lt_zero _)
  | n + 1, h, v, hv => by
    unfold lc at h
    by_cases e : l n = 0
    · rw [if_pos e] at h
      by_cases hn : v = n
      · subst hn; exact e
      · exact lc_zero (n := n) (by omega) v (by omega)
    · rw [if_neg e] at h; omega
theorem lc_pos {l : Nat → Nat} {n : Nat} (h : lc l n ≠ 0) : ∃ v, v < n ∧ l v ≠ 0 := by
  by_cases hx : ∃ v, v < n ∧ l v ≠ 0
  · exact hx
  · exfalso
    apply h
    have : lc l n = lc (fun _ => 0) n := lc_eq (fun v hv => ⟨fun _ => rfl, fun _ => Classical.byContradiction fun q => hx ⟨v, hv, q⟩⟩)
    rw [this]
    clear this hx h
    induction n with
    | zero => rfl
    | succ n ih => unfold lc; rw [ih, if_pos rfl]
theorem lc_all {l : Nat → Nat} : ∀ {n : Nat}, (∀ v, v < n → l v ≠ 0) → lc l n = n
  | 0, _ => rfl
  | n + 1, h => by
    unfold lc
    rw [lc_all (n := n) (fun v hv => h v (by omega)), if_neg (h n (by omega))]
theorem sm_one {l : Nat → Nat} : ∀ {n : Nat}, (∀ v, v < n → l v = 1) → sm l n = n
  | 0, _ => rfl
  | n + 1, h => by
    unfold sm
    rw [sm_one (n := n) (fun v hv => h v (by omega)), h n (by omega)]
theorem sm_lc {l : Nat → Nat} : ∀ {n : Nat}, (∀ v, v < n → l v ≠ 1) → 2 * lc l n ≤ sm l n
  | 0, _ => Nat.le_refl _
  | n + 1, h => by
    have ih := sm_lc (n := n) (fun v hv => h v (by omega))
    have h1 := h n (by omega)
    unfold sm lc
    by_cases e : l n = 0
    · rw [if_pos e]; omega
    · rw [if_neg e]; omega
theorem leaf_ex {l : Nat → Nat} {n k : Nat} (h1 : sm l n = 2 * k + 2) (h2 : lc l n = k + 2) : ∃ v, v < n ∧ l v = 1 := by
  by_cases hx : ∃ v, v < n ∧ l v = 1
  · exact hx
  · have := sm_lc (l := l) (n := n) (fun v hv q => hx ⟨v, hv, q⟩)
    omega
/-- how often a number stands in a piece of a row -/
noncomputable def ocr (c : Nat → Nat) (v : Nat) : Nat → Nat → Nat
  | 0, _ => 0
  | k + 1, i => (if c i = v then 1 else 0) + ocr c v k (i + 1)
theorem ocr_le (c : Nat → Nat) (v : Nat) : ∀ k i, ocr c v k i ≤ k
  | 0, _ => Nat.le_refl _
  | k + 1, i => by
    have := ocr_le c v k (i + 1)
    unfold ocr
    split <;> omega
theorem ocr_no {c : Nat → Nat} {v : Nat} : ∀ {k i : Nat}, ocr c v k i = 0 → ∀ j, i ≤ j → j < i + k → c j ≠ v
  | 0, i, _, j, h1, h2 => by omega
  | k + 1, i, h, j, h1, h2 => by
    unfold ocr at h
    by_cases e : c i = v
    · rw [if_pos e] at h; omega
    · rw [if_neg e] at h
      by_cases hj : j = i
      · subst hj; exact e
      · exact ocr_no (k := k) (i := i + 1) (by omega) j (by omega) (by omega)
noncomputable def DM : List Rng := [(92, 0, 8), (94, 0, 8), (96, 0, 17)]
noncomputable def DQ (h0 : pm_H) (N : Nat) (h' : pm_H) (r : Option Value) : Prop := r = none ∧ HH h' ∧ fr_g DM h0 h' ∧ ∀ v, 1 ≤ v → v < N → dep (hg h') 8 v ∧ gn h' 92 v < N
/-- the code is read from its i-th number on, k are left -/
noncomputable def RD (h0 h : pm_H) (N i k : Nat) (l : Nat → Nat) : Prop := HH h ∧ fr_g DM h0 h ∧ (∀ v, v < N → gi h 94 v = nJ (l v)) ∧ (∀ v, v < N → l v = 0 ∨ l v = 1 + ocr (gn h0 95) v k i) ∧ (∀ j, i ≤ j → j < i + k → l (gn h0 95 j) ≠ 0) ∧ sm l N = 2 * k + 2 ∧ lc l N = k + 2 ∧ (∀ q, q < 2 * i → gn h 96 q < N) ∧ ∀ m, m < 512 → (∃ u v, u < N ∧ v < N ∧ isB m u = true ∧ isB m v = false) → (∃ q, q < 2 * i ∧ isB m (gn h 96 q) ≠ isB m (gn h 96 (xr q))) ∨ ∃ u v, u < N ∧ v < N ∧ l u ≠ 0 ∧ l v ≠ 0 ∧ isB m u = true ∧ isB m v = false
theorem xr_even (i : Nat) : xr (2 * i) = 2 * i + 1 := if_pos (by omega)
theorem ne_bool {a b : Bool} (h : a ≠ b) : (a = true ∧ b = false) ∨ (a = false ∧ b = true) := by
  cases a <;> cases b <;> simp_all
theorem RD_step {h0 h : pm_H} {N i k x : Nat} {l : Nat → Nat} (hN9 : N ≤ 9) (hik : i + (k + 1) = N - 2) (hc : gn h0 95 i < N) (R : RD h0 h N i (k + 1) l) (hx : x < N) (hl : l x = 1) :
    RD h0 (pt (pt (pt (pt h 96 (2 * i) (nJ x)) 96 (2 * i + 1) (nJ (gn h0 95 i))) 94 x (nJ 0)) 94 (gn h0 95 i) (nJ (l (gn h0 95 i) - 1))) N (i + 1) k (fu (fu l x 0) (gn h0 95 i) (l (gn h0 95 i) - 1)) := by
  obtain ⟨r1, r2, r3, r4, r5, r6, r7, r8, r9⟩ := R
  generalize hcc : gn h0 95 i = c at hc ⊢
  have hlc : l c = 1 + ocr (gn h0 95) c (k + 1) i := by
    have := r5 i (Nat.le_refl _) (by omega)
    rw [hcc] at this
    cases r4 c hc with
    | inl e => exact absurd e this
    | inr e => exact e
  have hoc : ocr (gn h0 95) c (k + 1) i = 1 + ocr (gn h0 95) c k (i + 1) := by
    show (if gn h0 95 i = c then 1 else 0) + _ = _
    rw [if_pos hcc]
  have hxc : x ≠ c := fun e => by rw [e] at hl; omega
  have hb8 := ocr_le (gn h0 95) c k (i + 1)
  have hox : ocr (gn h0 95) x (k + 1) i = 0 := by
    cases r4 x hx with
    | inl e => omega
    | inr e => omega
  have hh1 : HH (pt h 96 (2 * i) (nJ x)) := HH_ptn r1 (bd_u rfl (by omega)) (by omega) (by omega) (by omega)
  have hh2 : HH (pt (pt h 96 (2 * i) (nJ x)) 96 (2 * i + 1) (nJ c)) := HH_ptn hh1 (bd_u rfl (by omega)) (by omega) (by omega) (by omega)
  have hh3 : HH (pt (pt (pt h 96 (2 * i) (nJ x)) 96 (2 * i + 1) (nJ c)) 94 x (nJ 0)) := HH_ptn hh2 (bd_u rfl (by omega)) (by omega) (by omega) (by omega)
  have hh4 : HH (pt (pt (pt (pt h 96 (2 * i) (nJ x)) 96 (2 * i + 1) (nJ c)) 94 x (nJ 0)) 94 c (nJ (l c - 1))) := HH_ptn hh3 (bd_u rfl (by omega)) (by omega) (by omega) (by omega)
  have e96 : ∀ q, gn (pt (pt (pt (pt h 96 (2 * i) (nJ x)) 96 (2 * i + 1) (nJ c)) 94 x (nJ 0)) 94 c (nJ (l c - 1))) 96 q = gn (pt (pt h 96 (2 * i) (nJ x)) 96 (2 * i + 1) (nJ c)) 96 q := fun q => by rw [gn_ne (by omega), gn_ne (by omega)]
  have eA : gn (pt (pt h 96 (2 * i) (nJ x)) 96 (2 * i + 1) (nJ c)) 96 (2 * i) = x := by rw [gn_ne (by omega), gn_ptn r1 (bd_u rfl (by omega)) (by omega) (by omega) (by omega)]
  have eB : gn (pt (pt h 96 (2 * i) (nJ x)) 96 (2 * i + 1) (nJ c)) 96 (2 * i + 1) = c := gn_ptn hh1 (bd_u rfl (by omega)) (by omega) (by omega) (by omega)
  have eC : ∀ q, q < 2 * i → gn (pt (pt h 96 (2 * i) (nJ x)) 96 (2 * i + 1) (nJ c)) 96 q = gn h 96 q := fun q hq => by rw [gn_ne (by omega), gn_ne (by omega)]
  refine ⟨hh4, fr_ptr (l := 0) (u := 8) rfl (by omega) (by omega) (fr_ptr (l := 0) (u := 8) rfl (by omega) (by omega) (fr_ptr (l := 0) (u := 17) rfl (by omega) (by omega) (fr_ptr (l := 0) (u := 17) rfl (by omega) (by omega) r2))), fun v hv => ?_, fun v hv => ?_, fun j h1 h2 => ?_, ?_, ?_, fun q hq => ?_, fun m hm hs => ?_⟩
  · by_cases e : v = c
    · rw [e, fu_same, gi_pt hh3 (bd_u rfl (by omega)) (ai_lo _) (ai_hi _)]
    · rw [fu_ne e, gi_ne (fun _ => e)]
      by_cases e2 : v = x
      · rw [e2, fu_same, gi_pt hh2 (bd_u rfl (by omega)) (ai_lo _) (ai_hi _)]
      · rw [fu_ne e2, gi_ne (fun _ => e2), gi_ne (by omega), gi_ne (by omega)]
        exact r3 v hv
  · by_cases e : v = c
    · rw [e, fu_same]; right; omega
    · rw [fu_ne e]
      by_cases e2 : v = x
      · rw [e2, fu_same]; exact .inl rfl
      · rw [fu_ne e2]
        have hov : ocr (gn h0 95) v (k + 1) i = ocr (gn h0 95) v k (i + 1) := by
          show (if gn h0 95 i = v then 1 else 0) + _ = _
          rw [if_neg (fun q => e (by rw [← q, hcc])), Nat.zero_add]
        rw [← hov]
        exact r4 v hv
  · have h3 := r5 j (by omega) (by omega)
    have h4 := ocr_no hox j (by omega) (by omega)
    by_cases e : gn h0 95 j = c
    · rw [e, fu_same]; omega
    · rw [fu_ne e, fu_ne h4]; exact h3
  · have s1 := sm_fu (l := fu l x 0) (v := c) (x := l c - 1) (n := N) hc
    have s2 := sm_fu (l := l) (v := x) (x := 0) (n := N) hx
    rw [fu_ne (Ne.symm hxc)] at s1
    omega
  · have s2 := lc_fu0 (l := l) (v := x) (by omega) (n := N) hx
    rw [lc_fu1 (by rw [fu_ne (Ne.symm hxc)]; omega) (by omega)]
    omega
  · rw [e96]
    by_cases h1 : q = 2 * i
    · rw [h1, eA]; exact hx
    · by_cases h2 : q = 2 * i + 1
      · rw [h2, eB]; exact hc
      · rw [eC q (by omega)]; exact r8 q (by omega)
  · cases r9 m hm hs with
    | inl e =>
      obtain ⟨q, q1, q2⟩ := e
      have q3 := xr_lt q1
      exact .inl ⟨q, by omega, by rw [e96, e96, eC q q1, eC _ q3]; exact q2⟩
    | inr e =>
      obtain ⟨u, v, u1, v1, u2, v2, u3, v3⟩ := e
      by_cases hxb : isB m x = isB m c
      · right
        have key : ∀ u, u < N → l u ≠ 0 → ∃ u', u' < N ∧ fu (fu l x 0) c (l c - 1) u' ≠ 0 ∧ isB m u' = isB m u := by
          intro u u1 u2
          by_cases hu : u = x
          · exact ⟨c, hc, by rw [fu_same]; omega, by rw [hu]; exact hxb.symm⟩
          · by_cases huc : u = c
            · exact ⟨c, hc, by rw [fu_same]; omega, by rw [huc]⟩
            · exact ⟨u, u1, by rw [fu_ne huc, fu_ne hu]; exact u2, rfl⟩
        obtain ⟨u', a1, a2, a3⟩ := key u u1 u2
        obtain ⟨v', b1, b2, b3⟩ := key v v1 v2
        exact ⟨u', v', a1, b1, a2, b2, by rw [a3]; exact u3, by rw [b3]; exact v3⟩
      · exact .inl ⟨2 * i, by omega, by rw [e96, e96, xr_even, eA, eB]; exact hxb⟩
theorem RD_end {h0 h : pm_H} {N a b : Nat} {l : Nat → Nat} (hN2 : 2 ≤ N) (hN9 : N ≤ 9) (R : RD h0 h N (N - 2) 0 l) (ha : a < N) (hb : b < N) (hab : a ≠ b) (hla : l a = 1) (hlb : l b = 1) : HH (pt (pt h 96 (2 * (N - 2)) (nJ a)) 96 (2 * (N - 2) + 1) (nJ b)) ∧ fr_g DM h0 (pt (pt h 96 (2 * (N - 2)) (nJ a)) 96 (2 * (N - 2) + 1) (nJ b)) ∧ (∀ k, k < 2 * (N - 1) → gn (pt (pt h 96 (2 * (N - 2)) (nJ a)) 96 (2 * (N - 2) + 1) (nJ b)) 96 k < N) ∧ CNx (pt (pt h 96 (2 * (N - 2)) (nJ a)) 96 (2 * (N - 2) + 1) (nJ b)) N := by
  obtain ⟨r1, r2, r3, r4, r5, r6, r7, r8, r9⟩ := R
  have hh1 : HH (pt h 96 (2 * (N - 2)) (nJ a)) := HH_ptn r1 (bd_u rfl (by omega)) (by omega) (by omega) (by omega)
  have hh2 : HH (pt (pt h 96 (2 * (N - 2)) (nJ a)) 96 (2 * (N - 2) + 1) (nJ b)) := HH_ptn hh1 (bd_u rfl (by omega)) (by omega) (by omega) (by omega)
  have eA : gn (pt (pt h 96 (2 * (N - 2)) (nJ a)) 96 (2 * (N - 2) + 1) (nJ b)) 96 (2 * (N - 2)) = a := by rw [gn_ne (by omega), gn_ptn r1 (bd_u rfl (by omega)) (by omega) (by omega) (by omega)]
  have eB : gn (pt (pt h 96 (2 * (N - 2)) (nJ a)) 96 (2 * (N - 2) + 1) (nJ b)) 96 (2 * (N - 2) + 1) = b := gn_ptn hh1 (bd_u rfl (by omega)) (by omega) (by omega) (by omega)
  have eC : ∀ q, q < 2 * (N - 2) → gn (pt (pt h 96 (2 * (N - 2)) (nJ a)) 96 (2 * (N - 2) + 1) (nJ b)) 96 q = gn h 96 q := fun q hq => by rw [gn_ne (by omega), gn_ne (by omega)]
  refine ⟨hh2, fr_ptr (l := 0) (u := 17) rfl (by omega) (by omega) (fr_ptr (l := 0) (u := 17) rfl (by omega) (by omega) r2), fun q hq => ?_, fun m hm h0 hv => ?_⟩
  · by_cases h1 : q = 2 * (N - 2)
    · rw [h1, eA]; exact ha
    · by_cases h2 : q = 2 * (N - 2) + 1
      · rw [h2, eB]; exact hb
      · rw [eC q (by omega)]; exact r8 q (by omega)
  · obtain ⟨v, v1, v2⟩ := hv
    have key : ∃ q, q < 2 * (N - 1) ∧ isB m (gn (pt (pt h 96 (2 * (N - 2)) (nJ a)) 96 (2 * (N - 2) + 1) (nJ b)) 96 q) ≠ isB m (gn (pt (pt h 96 (2 * (N - 2)) (nJ a)) 96 (2 * (N - 2) + 1) (nJ b)) 96 (xr q)) := by
      cases r9 m hm ⟨0, v, by omega, v1, h0, v2⟩ with
      | inl e =>
        obtain ⟨q, q1, q2⟩ := e
        have q3 := xr_lt q1
        exact ⟨q, by omega, by rw [eC q q1, eC _ q3]; exact q2⟩
      | inr e =>
        obtain ⟨u, w, u1, w1, u2, w2, u3, w3⟩ := e
        have only : ∀ u, u < N → l u ≠ 0 → u = a ∨ u = b := by
          intro u u1 u2
          by_cases h1 : u = a
          · exact .inl h1
          · by_cases h2 : u = b
            · exact .inr h2
            · exfalso
              have s1 := lc_fu0 (l := l) (v := a) (by omega) (n := N) ha
              have s2 := lc_fu0 (l := fu l a 0) (v := b) (by rw [fu_ne (Ne.symm hab)]; omega) (n := N) hb
              have s3 := lc_zero (l := fu (fu l a 0) b 0) (n := N) (by omega) u u1
              rw [fu_ne h2, fu_ne h1] at s3
              exact u2 s3
        refine ⟨2 * (N - 2), by omega, ?_⟩
        rw [xr_even, eA, eB]
        cases only u u1 u2 with
        | inl e1 => cases only w w1 w2 with
          | inl e2 => rw [e1] at u3; rw [e2, u3] at w3; cases w3
          | inr e2 => rw [← e1, ← e2, u3, w3]; decide
        | inr e1 => cases only w w1 w2 with
          | inl e2 => rw [← e1, ← e2, u3, w3]; decide
          | inr e2 => rw [e1] at u3; rw [e2, u3] at w3; cases w3
    obtain ⟨q, q1, q2⟩ := key
    cases ne_bool q2 with
    | inl e => exact ⟨q, q1, e.1, e.2⟩
    | inr e => exact ⟨xr q, xr_lt q1, e.2, by rw [xr_xr]; exact e.1⟩
theorem rd_s1 {d N : Nat} {h : pm_H} {l : Nat → Nat} {Q : pm_H → Option Value → Prop} {e i s y : Nat} (hh : HH h) (hN9 : N ≤ 9) (hl : ∀ v, v < N → gi h 94 v = nJ (l v)) (hl8 : ∀ v, v < N → l v < 100) (hy : y < N) (hly : l y = 1) (K : ∀ {x : Nat} (lv : List (Nat × Value)), x < N → s ≤ x → l x = 1 → (∀ v, s ≤ v → v < x → ¬ l v = 1) → pm_get lv 0 = some (.ref 77) → pm_get lv 1 = some (.int (nJ N)) → pm_get lv 2 = some (.int (nJ e)) → pm_get lv 3 = some (.int (nJ i)) → pm_get lv 4 = some (.int (nJ x)) → Ends (pm_at tX9_reads0) (pm_Rt pm_P (d + 2)) (81, lv, [], h, 0, 0) Q) (j : Nat) : ∀ {x : Nat} (lv : List (Nat × Value)), x + j = y → s ≤ x → (∀ v, s ≤ v → v < x → ¬ l v = 1) → pm_get lv 0 = some (.ref 77) → pm_get lv 1 = some (.int (nJ N)) → pm_get lv 2 = some (.int (nJ e)) → pm_get lv 3 = some (.int (nJ i)) → pm_get lv 4 = some (.int (nJ x)) → Ends (pm_at tX9_reads0) (pm_Rt pm_P (d + 2)) (64, lv, [], h, 0, 0) Q := by
  induction j with
  | zero =>
    intro x lv hj hbs hbe L0 L1 L2 L3 L4
    have hxy : x = y := by omega
    subst hxy
    have hlx := hl8 x (by omega)
    refine E_al rfl L0 ?_
    refine E_gr rfl hh (q := 94) rfl ?_
    refine E_il rfl L4 ?_
    refine E_ial rfl hh rfl (by omega) (by decide) (show gi h 94 x = nJ ((l x)) from hl x (by omega)) ?_
    refine E_ci 1 rfl (by decide) ?_
    refine E_icT rfl (decide_eq_true ((nJ_eq (by omega) (by omega)).mpr hly)) ?_
    exact K lv (by omega) hbs hly hbe L0 L1 L2 L3 L4
  | succ j ih =>
    intro x lv hj hbs hbe L0 L1 L2 L3 L4
    have hlx := hl8 x (by omega)
    refine E_al rfl L0 ?_
    refine E_gr rfl hh (q := 94) rfl ?_
    refine E_il rfl L4 ?_
    refine E_ial rfl hh rfl (by omega) (by decide) (show gi h 94 x = nJ ((l x)) from hl x (by omega)) ?_
    refine E_ci 1 rfl (by decide) ?_
    by_cases hb1 : l x = 1
    · refine E_icT rfl (decide_eq_true ((nJ_eq (by omega) (by omega)).mpr hb1)) ?_
      exact K lv (by omega) hbs hb1 hbe L0 L1 L2 L3 L4
    · refine E_icF rfl (decide_eq_false (fun q => hb1 ((nJ_eq (by omega) (by omega)).mp q))) ?_
      refine E_inc rfl L4 (nJ_inc _) (fun lv2 L2_4 kp2 => ?_)
      have L2_0 := kp2 0 _ (by decide) rfl L0
      have L2_1 := kp2 1 _ (by decide) rfl L1
      have L2_2 := kp2 2 _ (by decide) rfl L2
      have L2_3 := kp2 3 _ (by decide) rfl L3
      refine E_goto rfl ?_
      exact ih lv2 (by omega) (by omega) (fun v h1 h2 => by by_cases e : v = x; (· subst e; exact hb1); (· exact hbe v h1 (by omega))) L2_0 L2_1 L2_2 L2_3 L2_4
theorem rd_s2 {d N : Nat} {h : pm_H} {l : Nat → Nat} {Q : pm_H → Option Value → Prop} {e s y : Nat} (hh : HH h) (hN9 : N ≤ 9) (hl : ∀ v, v < N → gi h 94 v = nJ (l v)) (hl8 : ∀ v, v < N → l v < 100) (hy : y < N) (hly : l y = 1) (K : ∀ {x : Nat} (lv : List (Nat × Value)), x < N → s ≤ x → l x = 1 → (∀ v, s ≤ v → v < x → ¬ l v = 1) → pm_get lv 0 = some (.ref 77) → pm_get lv 1 = some (.int (nJ N)) → pm_get lv 2 = some (.int (nJ e)) → pm_get lv 3 = some (.int (nJ x)) → Ends (pm_at tX9_reads0) (pm_Rt pm_P (d + 2)) (153, lv, [], h, 0, 0) Q) (j : Nat) : ∀ {x : Nat} (lv : List (Nat × Value)), x + j = y → s ≤ x → (∀ v, s ≤ v → v < x → ¬ l v = 1) → pm_get lv 0 = some (.ref 77) → pm_get lv 1 = some (.int (nJ N)) → pm_get lv 2 = some (.int (nJ e)) → pm_get lv 3 = some (.int (nJ x)) → Ends (pm_at tX9_reads0) (pm_Rt pm_P (d + 2)) (137, lv, [], h, 0, 0) Q := by
  induction j with
  | zero =>
    intro x lv hj hbs hbe L0 L1 L2 L3
    have hxy : x = y := by omega
    subst hxy
    have hlx := hl8 x (by omega)
    refine E_al rfl L0 ?_
    refine E_gr rfl hh (q := 94) rfl ?_
    refine E_il rfl L3 ?_
    refine E_ial rfl hh rfl (by omega) (by decide) (show gi h 94 x = nJ ((l x)) from hl x (by omega)) ?_
    refine E_ci 1 rfl (by decide) ?_
    refine E_icT rfl (decide_eq_true ((nJ_eq (by omega) (by omega)).mpr hly)) ?_
    exact K lv (by omega) hbs hly hbe L0 L1 L2 L3
  | succ j ih =>
    intro x lv hj hbs hbe L0 L1 L2 L3
    have hlx := hl8 x (by omega)
    refine E_al rfl L0 ?_
    refine E_gr rfl hh (q := 94) rfl ?_
    refine E_il rfl L3 ?_
    refine E_ial rfl hh rfl (by omega) (by decide) (show gi h 94 x = nJ ((l x)) from hl x (by omega)) ?_
    refine E_ci 1 rfl (by decide) ?_
    by_cases hb1 : l x = 1
    · refine E_icT rfl (decide_eq_true ((nJ_eq (by omega) (by omega)).mpr hb1)) ?_
      exact K lv (by omega) hbs hb1 hbe L0 L1 L2 L3
    · refine E_icF rfl (decide_eq_false (fun q => hb1 ((nJ_eq (by omega) (by omega)).mp q))) ?_
      refine E_inc rfl L3 (nJ_inc _) (fun lv2 L2_3 kp2 => ?_)
      have L2_0 := kp2 0 _ (by decide) rfl L0
      have L2_1 := kp2 1 _ (by decide) rfl L1
      have L2_2 := kp2 2 _ (by decide) rfl L2
      refine E_goto rfl ?_
      exact ih lv2 (by omega) (by omega) (fun v h1 h2 => by by_cases e : v = x; (· subst e; exact hb1); (· exact hbe v h1 (by omega))) L2_0 L2_1 L2_2 L2_3
theorem rd_s3 {d N : Nat} {h : pm_H} {l : Nat → Nat} {Q : pm_H → Option Value → Prop} {e a s y : Nat} (hh : HH h) (hN9 : N ≤ 9) (hl : ∀ v, v < N → gi h 94 v = nJ (l v)) (hl8 : ∀ v, v < N → l v < 100) (hy : y < N) (hly : l y = 1) (K : ∀ {x : Nat} (lv : List (Nat × Value)), x < N → s ≤ x → l x = 1 → (∀ v, s ≤ v → v < x → ¬ l v = 1) → pm_get lv 0 = some (.ref 77) → pm_get lv 1 = some (.int (nJ N)) → pm_get lv 2 = some (.int (nJ e)) → pm_get lv 3 = some (.int (nJ a)) → pm_get lv 4 = some (.int (nJ x)) → Ends (pm_at tX9_reads0) (pm_Rt pm_P (d + 2)) (175, lv, [], h, 0, 0) Q) (j : Nat) : ∀ {x : Nat} (lv : List (Nat × Value)), x + j = y → s ≤ x → (∀ v, s ≤ v → v < x → ¬ l v = 1) → pm_get lv 0 = some (.ref 77) → pm_get lv 1 = some (.int (nJ N)) → pm_get lv 2 = some (.int (nJ e)) → pm_get lv 3 = some (.int (nJ a)) → pm_get lv 4 = some (.int (nJ x)) → Ends (pm_at tX9_reads0) (pm_Rt pm_P (d + 2)) (158, lv, [], h, 0, 0) Q := by
  induction j with
  | zero =>
    intro x lv hj hbs hbe L0 L1 L2 L3 L4
    have hxy : x = y := by omega
    subst hxy
    have hlx := hl8 x (by omega)
    refine E_al rfl L0 ?_
    refine E_gr rfl hh (q := 94) rfl ?_
    refine E_il rfl L4 ?_
    refine E_ial rfl hh rfl (by omega) (by decide) (show gi h 94 x = nJ ((l x)) from hl x (by omega)) ?_
    refine E_ci 1 rfl (by decide) ?_
    refine E_icT rfl (decide_eq_true ((nJ_eq (by omega) (by omega)).mpr hly)) ?_
    exact K lv (by omega) hbs hly hbe L0 L1 L2 L3 L4
  | succ j ih =>
    intro x lv hj hbs hbe L0 L1 L2 L3 L4
    have hlx := hl8 x (by omega)
    refine E_al rfl L0 ?_
    refine E_gr rfl hh (q := 94) rfl ?_
    refine E_il rfl L4 ?_
    refine E_ial rfl hh rfl (by omega) (by decide) (show gi h 94 x = nJ ((l x)) from hl x (by omega)) ?_
    refine E_ci 1 rfl (by decide) ?_
    by_cases hb1 : l x = 1
    · refine E_icT rfl (decide_eq_true ((nJ_eq (by omega) (by omega)).mpr hb1)) ?_
      exact K lv (by omega) hbs hb1 hbe L0 L1 L2 L3 L4
    · refine E_icF rfl (decide_eq_false (fun q => hb1 ((nJ_eq (by omega) (by omega)).mp q))) ?_
      refine E_inc rfl L4 (nJ_inc _) (fun lv2 L2_4 kp2 => ?_)
      have L2_0 := kp2 0 _ (by decide) rfl L0
      have L2_1 := kp2 1 _ (by decide) rfl L1
      have L2_2 := kp2 2 _ (by decide) rfl L2
      have L2_3 := kp2 3 _ (by decide) rfl L3
      refine E_goto rfl ?_
      exact ih lv2 (by omega) (by omega) (fun v h1 h2 => by by_cases e : v = x; (· subst e; exact hb1); (· exact hbe v h1 (by omega))) L2_0 L2_1 L2_2 L2_3 L2_4
theorem rd_last {h0 : pm_H} {d N : Nat} (hh0 : HH h0) (hN2 : 2 ≤ N) (hN9 : N ≤ 9) (hc : ∀ j, j < N - 2 → gn h0 95 j < N) {h : pm_H} {a b : Nat} {l : Nat → Nat} (R : RD h0 h N (N - 2) 0 l) (ha : a < N) (hb : b < N) (hab : a ≠ b) (hla : l a = 1) (hlb : l b = 1) (lv : List (Nat × Value)) (L0 : pm_get lv 0 = some (.ref 77)) (L1 : pm_get lv 1 = some (.int (nJ N))) (L2 : pm_get lv 2 = some (.int (nJ (2 * (N - 2))))) (L3 : pm_get lv 3 = some (.int (nJ a))) (L4 : pm_get lv 4 = some (.int (nJ b))) : Ends (pm_at tX9_reads0) (pm_Rt pm_P (d + 2)) (175, lv, [], h, 0, 0) (DQ h0 N) := by
  refine E_al rfl L0 ?_
  refine E_gr rfl R.1 (q := 96) rfl ?_
  refine E_il rfl L2 ?_
  refine E_il rfl L3 ?_
  refine E_ias rfl R.1 rfl (by omega) (by decide) ?_
  have hh1 : HH (pt h 96 ((2 * (N - 2))) (nJ a)) := HH_ptn R.1 (bd_u rfl (by omega)) (by omega) (by omega) (by omega)
  refine E_al rfl L0 ?_
  refine E_gr rfl hh1 (q := 96) rfl ?_
  refine E_il rfl L2 ?_
  refine E_ci 1 rfl (by decide) ?_
  refine E_bin rfl (nJ_add _ _) ?_
  refine E_il rfl L4 ?_
  refine E_ias rfl hh1 rfl (by omega) (by decide) ?_
  have hh2 : HH (pt (pt h 96 ((2 * (N - 2))) (nJ a)) 96 (((2 * (N - 2)) + 1)) (nJ b)) := HH_ptn hh1 (bd_u rfl (by omega)) (by omega) (by omega) (by omega)
  refine E_al rfl L0 ?_
  refine E_il rfl L1 ?_
  obtain ⟨k1, k2, k3, k4⟩ := RD_end hN2 hN9 R ha hb hab hla hlb
  refine E_call rfl (sp_roots k1 hN2 hN9 k3 k4) (chk77 hh2 rfl rfl (by show 0 ≤ 8; decide)) (fun h9 r9 => ?_)
  rintro ⟨e9, hh9, fr9, q9⟩
  rw [e9]
  show Ends _ _ (197, lv, [], h9, 0, 0) _
  exact E_ret rfl ⟨rfl, hh9, fr_trans k2 (fr_wk rfl fr9), q9⟩
theorem rd_two {h0 : pm_H} {d N : Nat} (hh0 : HH h0) (hN2 : 2 ≤ N) (hN9 : N ≤ 9) (hc : ∀ j, j < N - 2 → gn h0 95 j < N) {h : pm_H} {l : Nat → Nat} (R : RD h0 h N (N - 2) 0 l) (lv : List (Nat × Value)) (L0 : pm_get lv 0 = some (.ref 77)) (L1 : pm_get lv 1 = some (.int (nJ N))) (L2 : pm_get lv 2 = some (.int (nJ (2 * (N - 2))))) : Ends (pm_at tX9_reads0) (pm_Rt pm_P (d + 2)) (135, lv, [], h, 0, 0) (DQ h0 N) := by
  have hone : ∀ v, v < N → l v ≠ 0 → l v = 1 := fun v hv h1 => by
    cases R.2.2.2.1 v hv with
    | inl e => exact absurd e h1
    | inr e => exact e
  have hl8 : ∀ v, v < N → l v < 100 := fun v hv => by
    by_cases e : l v = 0
    · omega
    · rw [hone v hv e]; omega
  refine E_ci 0 rfl (by decide) ?_
  refine E_is rfl (fun lv1 L1_3 kp1 => ?_)
  have L1_0 := kp1 0 _ (by decide) rfl L0
  have L1_1 := kp1 1 _ (by decide) rfl L1
  have L1_2 := kp1 2 _ (by decide) rfl L2
  obtain ⟨y, hy, hly⟩ := leaf_ex (k := 0) R.2.2.2.2.2.1 R.2.2.2.2.2.2.1
  refine rd_s2 (s := 0) (y := y) R.1 hN9 R.2.2.1 hl8 hy hly (fun {x} lv1 hx _ hlx hbe K0 K1 K2 K3 => ?_) y lv1 (by omega) (Nat.zero_le _) (fun v h1 h2 => by omega) L1_0 L1_1 L1_2 L1_3
  refine E_il rfl K3 ?_
  refine E_ci 1 rfl (by decide) ?_
  refine E_bin rfl (nJ_add _ _) ?_
  refine E_is rfl (fun lv1 L1_4 kp1 => ?_)
  have L1_0 := kp1 0 _ (by decide) rfl K0
  have L1_1 := kp1 1 _ (by decide) rfl K1
  have L1_2 := kp1 2 _ (by decide) rfl K2
  have L1_3 := kp1 3 _ (by decide) rfl K3
  have s1 := lc_fu0 (l := l) (v := x) (by omega) (n := N) hx
  obtain ⟨y2, y3, y4⟩ := lc_pos (l := fu l x 0) (n := N) (by have := R.2.2.2.2.2.2.1; omega)
  have hyx : y2 ≠ x := fun e => y4 (by rw [e, fu_same])
  rw [fu_ne hyx] at y4
  have hy1 : l y2 = 1 := hone y2 y3 y4
  have hgt : x < y2 := by
    by_cases q : y2 < x
    · exact absurd hy1 (hbe y2 (Nat.zero_le _) q)
    · omega
  exact rd_s3 (s := x + 1) (y := y2) R.1 hN9 R.2.2.1 hl8 y3 hy1 (fun {x2} lv2 a1 a2 a3 a4 b0 b1 b2 b3 b4 => rd_last hh0 hN2 hN9 hc R hx a1 (by omega) hlx a3 lv2 b0 b1 b2 b3 b4) (y2 - (x + 1)) lv1 (by omega) (Nat.le_refl _) (fun v h1 h2 => by omega) L1_0 L1_1 L1_2 L1_3 L1_4
theorem rd_loop {h0 : pm_H} {d N : Nat} (hh0 : HH h0) (hN2 : 2 ≤ N) (hN9 : N ≤ 9) (hc : ∀ j, j < N - 2 → gn h0 95 j < N) (k : Nat) : ∀ {h : pm_H} {i : Nat} {l : Nat → Nat} (lv : List (Nat × Value)), i + k = N - 2 → RD h0 h N i k l → pm_get lv 0 = some (.ref 77) → pm_get lv 1 = some (.int (nJ N)) → pm_get lv 2 = some (.int (nJ (2 * i))) → pm_get lv 3 = some (.int (nJ i)) → Ends (pm_at tX9_reads0) (pm_Rt pm_P (d + 2)) (54, lv, [], h, 0, 0) (DQ h0 N) := by
  induction k with
  | zero =>
    intro h i l lv hj R L0 L1 L2 L3
    have hiN : i = N - 2 := by omega
    refine E_il rfl L3 ?_
    refine E_il rfl L1 ?_
    refine E_ci 2 rfl (by decide) ?_
    refine E_bin rfl (nJ_sub (by omega)) ?_
    refine E_icT rfl (decide_eq_true ((nJ_le (by omega) (by omega)).mpr (by omega))) ?_
    exact rd_two hh0 hN2 hN9 hc (hiN ▸ R) lv L0 L1 (hiN ▸ L2)
  | succ k ih =>
    intro h i l lv hj R L0 L1 L2 L3
    have hl8 : ∀ v, v < N → l v < 100 := fun v hv => by
      have := ocr_le (gn h0 95) v (k + 1) i
      cases R.2.2.2.1 v hv with
      | inl e => omega
      | inr e => omega
    refine E_il rfl L3 ?_
    refine E_il rfl L1 ?_
    refine E_ci 2 rfl (by decide) ?_
    refine E_bin rfl (nJ_sub (by omega)) ?_
    refine E_icF rfl (decide_eq_false (fun q => absurd ((nJ_le (by omega) (by omega)).mp q) (by omega))) ?_
    refine E_ci 0 rfl (by decide) ?_
    refine E_is rfl (fun lv1 L1_4 kp1 => ?_)
    have L1_0 := kp1 0 _ (by decide) rfl L0
    have L1_1 := kp1 1 _ (by decide) rfl L1
    have L1_2 := kp1 2 _ (by decide) rfl L2
    have L1_3 := kp1 3 _ (by decide) rfl L3
    obtain ⟨y, hy, hly⟩ := leaf_ex R.2.2.2.2.2.1 R.2.2.2.2.2.2.1
    refine rd_s1 (s := 0) (y := y) R.1 hN9 R.2.2.1 hl8 hy hly (fun {x} lv1 hx _ hlx _ K0 K1 K2 K3 K4 => ?_) y lv1 (by omega) (Nat.zero_le _) (fun v h1 h2 => by omega) L1_0 L1_1 L1_2 L1_3 L1_4
    have hci := hc i (by omega)
    have hcn : l (gn h0 95 i) ≠ 0 := R.2.2.2.2.1 i (Nat.le_refl _) (by omega)
    have hc8 := hl8 _ hci
    have hxc : gn h0 95 i ≠ x := fun e => by
      have hoc : ocr (gn h0 95) (gn h0 95 i) (k + 1) i = 1 + ocr (gn h0 95) (gn h0 95 i) k (i + 1) := by
        show (if gn h0 95 i = gn h0 95 i then 1 else 0) + _ = _
        rw [if_pos rfl]
      cases R.2.2.2.1 _ hci with
      | inl q => exact hcn q
      | inr q => rw [e] at q hoc; omega
    refine E_al rfl K0 ?_
    refine E_gr rfl R.1 (q := 96) rfl ?_
    refine E_il rfl K2 ?_
    refine E_il rfl K4 ?_
    refine E_ias rfl R.1 rfl (by omega) (by decide) ?_
    have hh1 : HH (pt h 96 ((2 * i)) (nJ x)) := HH_ptn R.1 (bd_u rfl (by omega)) (by omega) (by omega) (by omega)
    refine E_al rfl K0 ?_
    refine E_gr rfl hh1 (q := 96) rfl ?_
    refine E_il rfl K2 ?_
    refine E_ci 1 rfl (by decide) ?_
    refine E_bin rfl (nJ_add _ _) ?_
    refine E_al rfl K0 ?_
    refine E_gr rfl hh1 (q := 95) rfl ?_
    refine E_il rfl K3 ?_
    refine E_ial rfl hh1 rfl (by omega) (by decide) (show gi (pt h 96 ((2 * i)) (nJ x)) 95 i = nJ ((gn h0 95 i)) from by rw [gi_ne (by omega), fr_gi R.2.1 (rg_no rfl _)]; exact gi_gn hh0 (bd_u rfl (by omega)) (by decide)) ?_
    refine E_ias rfl hh1 rfl (by omega) (by decide) ?_
    have hh2 : HH (pt (pt h 96 ((2 * i)) (nJ x)) 96 (((2 * i) + 1)) (nJ ((gn h0 95 i)))) := HH_ptn hh1 (bd_u rfl (by omega)) (by omega) (by omega) (by omega)
    refine E_inc rfl K2 (nJ_inc2 _) (fun lv3 L3_2 kp3 => ?_)
    have L3_0 := kp3 0 _ (by decide) rfl K0
    have L3_1 := kp3 1 _ (by decide) rfl K1
    have L3_3 := kp3 3 _ (by decide) rfl K3
    have L3_4 := kp3 4 _ (by decide) rfl K4
    refine E_al rfl L3_0 ?_
    refine E_gr rfl hh2 (q := 94) rfl ?_
    refine E_il rfl L3_4 ?_
    refine E_ci 0 rfl (by decide) ?_
    refine E_ias rfl hh2 rfl (by omega) (by decide) ?_
    have hh4 : HH (pt (pt (pt h 96 ((2 * i)) (nJ x)) 96 (((2 * i) + 1)) (nJ ((gn h0 95 i)))) 94 x (nJ 0)) := HH_ptn hh2 (bd_u rfl (by omega)) (by omega) (by omega) (by omega)
    refine E_al rfl L3_0 ?_
    refine E_gr rfl hh4 (q := 94) rfl ?_
    refine E_al rfl L3_0 ?_
    refine E_gr rfl hh4 (q := 95) rfl ?_
    refine E_il rfl L3_3 ?_
    refine E_ial rfl hh4 rfl (by omega) (by decide) (show gi (pt (pt (pt h 96 ((2 * i)) (nJ x)) 96 (((2 * i) + 1)) (nJ ((gn h0 95 i)))) 94 x (nJ 0)) 95 i = nJ ((gn h0 95 i)) from by rw [gi_ne (by omega), gi_ne (by omega), gi_ne (by omega), fr_gi R.2.1 (rg_no rfl _)]; exact gi_gn hh0 (bd_u rfl (by omega)) (by decide)) ?_
    refine E_dup2 rfl rfl rfl ?_
    refine E_ial rfl hh4 rfl (by omega) (by decide) (show gi (pt (pt (pt h 96 ((2 * i)) (nJ x)) 96 (((2 * i) + 1)) (nJ ((gn h0 95 i)))) 94 x (nJ 0)) 94 ((gn h0 95 i)) = nJ ((l (gn h0 95 i))) from by rw [gi_ne (fun _ => hxc), gi_ne (by omega), gi_ne (by omega)]; exact R.2.2.1 _ hci) ?_
    refine E_ci 1 rfl (by decide) ?_
    refine E_bin rfl (nJ_sub (by omega)) ?_
    refine E_ias rfl hh4 rfl (by omega) (by decide) ?_
    have hh5 : HH (pt (pt (pt (pt h 96 ((2 * i)) (nJ x)) 96 (((2 * i) + 1)) (nJ ((gn h0 95 i)))) 94 x (nJ 0)) 94 ((gn h0 95 i)) (nJ (((l (gn h0 95 i)) - 1)))) := HH_ptn hh4 (bd_u rfl (by omega)) (by omega) (by omega) (by omega)
    refine E_inc rfl L3_3 (nJ_inc _) (fun lv6 L6_3 kp6 => ?_)
    have L6_0 := kp6 0 _ (by decide) rfl L3_0
    have L6_1 := kp6 1 _ (by decide) rfl L3_1
    have L6_2 := kp6 2 _ (by decide) rfl L3_2
    have L6_4 := kp6 4 _ (by decide) rfl L3_4
    refine E_goto rfl ?_
    exact ih lv6 (by omega) (RD_step hN9 (by omega) hci R hx hlx) L6_0 L6_1 L6_2 L6_3
theorem rd_cnt {h0 : pm_H} {d N : Nat} (hh0 : HH h0) (hN2 : 2 ≤ N) (hN9 : N ≤ 9) (hc : ∀ j, j < N - 2 → gn h0 95 j < N) (k : Nat) : ∀ {h : pm_H} {i : Nat} {l : Nat → Nat} (lv : List (Nat × Value)), i + k = N - 2 → HH h → fr_g DM h0 h → (∀ v, v < N → gi h 94 v = nJ (l v)) → (∀ v, v < N → l v + ocr (gn h0 95) v k i = 1 + ocr (gn h0 95) v (N - 2) 0) → sm l N + k = N + (N - 2) → pm_get lv 0 = some (.ref 77) → pm_get lv 1 = some (.int (nJ N)) → pm_get lv 2 = some (.int (nJ i)) → Ends (pm_at tX9_reads0) (pm_Rt pm_P (d + 2)) (22, lv, [], h, 0, 0) (DQ h0 N) := by
  induction k with
  | zero =>
    intro h i l lv hj hh hfr hl ho hs L0 L1 L2
    have hone : ∀ v, v < N → l v ≠ 0 := fun v hv => by have := ho v hv; have h3 : ocr (gn h0 95) v 0 i = 0 := rfl; omega
    refine E_il rfl L2 ?_
    refine E_il rfl L1 ?_
    refine E_ci 2 rfl (by decide) ?_
    refine E_bin rfl (nJ_sub (by omega)) ?_
    refine E_icT rfl (decide_eq_true ((nJ_le (by omega) (by omega)).mpr (by omega))) ?_
    refine E_ci 0 rfl (by decide) ?_
    refine E_is rfl (fun lv1 L1_2 kp1 => ?_)
    have L1_0 := kp1 0 _ (by decide) rfl L0
    have L1_1 := kp1 1 _ (by decide) rfl L1
    refine E_ci 0 rfl (by decide) ?_
    refine E_is rfl (fun lv2 L2_3 kp2 => ?_)
    have L2_0 := kp2 0 _ (by decide) rfl L1_0
    have L2_1 := kp2 1 _ (by decide) rfl L1_1
    have L2_2 := kp2 2 _ (by decide) rfl L1_2
    refine rd_loop hh0 hN2 hN9 hc (N - 2) (i := 0) (l := l) lv2 (by omega) ⟨hh, hfr, hl, fun v hv => ?_, fun j h1 h2 => ?_, ?_, ?_, fun q hq => by omega, fun m hm hs => .inr ?_⟩ L2_0 L2_1 L2_2 L2_3
    · right; have := ho v hv; have h3 : ocr (gn h0 95) v 0 i = 0 := rfl; omega
    · have := hone _ (hc j (by omega)); omega
    · omega
    · rw [lc_all (fun v hv => hone v hv)]; omega
    · obtain ⟨u, v, u1, v1, u2, v2⟩ := hs; exact ⟨u, v, u1, v1, hone u u1, hone v v1, u2, v2⟩
  | succ k ih =>
    intro h i l lv hj hh hfr hl ho hs L0 L1 L2
    have hl8 : ∀ v, v < N → l v < 100 := fun v hv => by have := ho v hv; have := ocr_le (gn h0 95) v (N - 2) 0; omega
    refine E_il rfl L2 ?_
    refine E_il rfl L1 ?_
    refine E_ci 2 rfl (by decide) ?_
    refine E_bin rfl (nJ_sub (by omega)) ?_
    refine E_icF rfl (decide_eq_false (fun q => absurd ((nJ_le (by omega) (by omega)).mp q) (by omega))) ?_
    have hci := hc i (by omega)
    have hlc := hl8 _ hci
    refine E_al rfl L0 ?_
    refine E_gr rfl hh (q := 94) rfl ?_
    refine E_al rfl L0 ?_
    refine E_gr rfl hh (q := 95) rfl ?_
    refine E_il rfl L2 ?_
    refine E_ial rfl hh rfl (by omega) (by decide) (show gi h 95 i = nJ ((gn h0 95 i)) from by rw [fr_gi hfr (rg_no rfl _)]; exact gi_gn hh0 (bd_u rfl (by omega)) (by decide)) ?_
    refine E_dup2 rfl rfl rfl ?_
    refine E_ial rfl hh rfl (by omega) (by decide) (show gi h 94 ((gn h0 95 i)) = nJ ((l (gn h0 95 i))) from hl _ hci) ?_
    refine E_ci 1 rfl (by decide) ?_
    refine E_bin rfl (nJ_add _ _) ?_
    refine E_ias rfl hh rfl (by omega) (by decide) ?_
    have hh1 : HH (pt h 94 ((gn h0 95 i)) (nJ (((l (gn h0 95 i)) + 1)))) := HH_ptn hh (bd_u rfl (by omega)) (by omega) (by omega) (by omega)
    refine E_inc rfl L2 (nJ_inc _) (fun lv2 L2_2 kp2 => ?_)
    have L2_0 := kp2 0 _ (by decide) rfl L0
    have L2_1 := kp2 1 _ (by decide) rfl L1
    refine E_goto rfl ?_
    refine ih (l := fu l (gn h0 95 i) (l (gn h0 95 i) + 1)) lv2 (by omega) hh1 (fr_ptr (l := 0) (u := 8) rfl (by omega) (by omega) hfr) (fun v hv => ?_) (fun v hv => ?_) ?_ L2_0 L2_1 L2_2
    · by_cases e : v = gn h0 95 i
      · rw [e, fu_same, gi_pt hh (bd_u rfl (by omega)) (ai_lo _) (ai_hi _)]
      · rw [fu_ne e, gi_ne (fun _ => e)]; exact hl v hv
    · have h1 := ho v hv
      have h2 : ocr (gn h0 95) v (k + 1) i = (if gn h0 95 i = v then 1 else 0) + ocr (gn h0 95) v k (i + 1) := rfl
      by_cases e : v = gn h0 95 i
      · rw [if_pos e.symm] at h2; rw [e, fu_same]; rw [e] at h1 h2; omega
      · rw [if_neg (fun q => e q.symm)] at h2; rw [fu_ne e]; omega
    · have := sm_fu (l := l) (v := gn h0 95 i) (x := l (gn h0 95 i) + 1) (n := N) hci
      omega
theorem rd_one {h0 : pm_H} {d N : Nat} (hh0 : HH h0) (hN2 : 2 ≤ N) (hN9 : N ≤ 9) (hc : ∀ j, j < N - 2 → gn h0 95 j < N) (k : Nat) : ∀ {h : pm_H} {i : Nat} (lv : List (Nat × Value)), i + k = N → HH h → fr_g DM h0 h → (∀ v, v < i → gi h 94 v = nJ 1) → pm_get lv 0 = some (.ref 77) → pm_get lv 1 = some (.int (nJ N)) → pm_get lv 2 = some (.int (nJ i)) → Ends (pm_at tX9_reads0) (pm_Rt pm_P (d + 2)) (2, lv, [], h, 0, 0) (DQ h0 N) := by
  induction k with
  | zero =>
    intro h i lv hj hh hfr hl L0 L1 L2
    refine E_il rfl L2 ?_
    refine E_il rfl L1 ?_
    refine E_icT rfl (decide_eq_true ((nJ_le (by omega) (by omega)).mpr (by omega))) ?_
    refine E_ci 0 rfl (by decide) ?_
    refine E_is rfl (fun lv1 L1_2 kp1 => ?_)
    have L1_0 := kp1 0 _ (by decide) rfl L0
    have L1_1 := kp1 1 _ (by decide) rfl L1
    exact rd_cnt hh0 hN2 hN9 hc (N - 2) (i := 0) (l := fun _ => 1) lv1 (by omega) hh hfr (fun v hv => hl v (by omega)) (fun v hv => rfl) (by rw [sm_one (fun v hv => rfl)]) L1_0 L1_1 L1_2
  | succ k ih =>
    intro h i lv hj hh hfr hl L0 L1 L2
    refine E_il rfl L2 ?_
    refine E_il rfl L1 ?_
    refine E_icF rfl (decide_eq_false (fun q => absurd ((nJ_le (by omega) (by omega)).mp q) (by omega))) ?_
    refine E_al rfl L0 ?_
    refine E_gr rfl hh (q := 94) rfl ?_
    refine E_il rfl L2 ?_
    refine E_ci 1 rfl (by decide) ?_
    refine E_ias rfl hh rfl (by omega) (by decide) ?_
    have hh1 : HH (pt h 94 i (nJ 1)) := HH_ptn hh (bd_u rfl (by omega)) (by omega) (by omega) (by omega)
    refine E_inc rfl L2 (nJ_inc _) (fun lv2 L2_2 kp2 => ?_)
    have L2_0 := kp2 0 _ (by decide) rfl L0
    have L2_1 := kp2 1 _ (by decide) rfl L1
    refine E_goto rfl ?_
    refine ih lv2 (by omega) hh1 (fr_ptr (l := 0) (u := 8) rfl (by omega) (by omega) hfr) (fun v hv => ?_) L2_0 L2_1 L2_2
    by_cases e : v = i
    · rw [e, gi_pt hh (bd_u rfl (by omega)) (ai_lo _) (ai_hi _)]
    · rw [gi_ne (fun _ => e)]; exact hl v (by omega)
theorem sp_reads0 {h0 : pm_H} {d N : Nat} (hh : HH h0) (hN2 : 2 ≤ N) (hN9 : N ≤ 9) (hc : ∀ j, j < N - 2 → gn h0 95 j < N) : Sp (d + 3) 330 h0 [.ref 77, .int (nJ N)] (DQ h0 N) := by
  refine Sp_of aiX9_reads0 rfl rfl rfl ?_
  refine E_ci 0 rfl (by decide) ?_
  refine E_is rfl (fun lv1 L1_2 kp1 => ?_)
  have L1_0 := kp1 0 _ (by decide) rfl (show pm_get (lv_args 0 [.ref 77, .int (nJ N)]) 0 = _ from rfl)
  have L1_1 := kp1 1 _ (by decide) rfl (show pm_get (lv_args 0 [.ref 77, .int (nJ N)]) 1 = _ from rfl)
  exact rd_one hh hN2 hN9 hc N (i := 0) lv1 (by omega) hh (fr_rf _ _) (fun v hv => absurd hv (Nat.not_lt_zero _)) L1_0 L1_1 L1_2
end
section
/-! by hand: pairs turned, wishes laid (written by gen_t8.py) -/
noncomputable def TM : List Rng := [(77, 0, 0), (77, 22, 23), (77, 27, 27), (77, 35, 36), (77, 39, 39), (77, 41, 43), (89, 0, 7), (90, 0, 9), (91, 0, 7), (92, 0, 8), (93, 0, 8), (94, 0, 8), (95, 0, 7), (96, 0, 17), (97, 0, 7), (98, 0, 8), (99, 0, 4), (100, 0, 5), (101, 0, 9), (102, 0, 71)]
noncomputable def TQ (h0 h' : pm_H) (r : Option Value) : Prop := HH h' ∧ fr_g TM h0 h' ∧ ∃ x : Int32, r = some (.int x)
/-- of a row: no more cars than places, every car wants a place, acts speak of places and of cars -/
noncomputable def RI (r : Nat) (h : pm_H) : Prop := gn h 84 (6 * r + 3) ≤ gn h 84 (6 * r) ∧ (∀ c, c < gn h 84 (6 * r + 3) → 1 ≤ gn h 85 (16 * r + 2 * c)) ∧ ∀ k, k < gn h 84 (6 * r + 5) → (gn h 87 (60 * r + 3 * k) = 0 → 1 ≤ gn h 87 (60 * r + 3 * k + 2)) ∧ (¬ gn h 87 (60 * r + 3 * k) = 0 → gn h 87 (60 * r + 3 * k + 1) < gn h 84 (6 * r + 3) ∧ gn h 87 (60 * r + 3 * k + 2) < gn h 84 (6 * r + 3))
theorem RI_eq {r : Nat} {h h' : pm_H} (hR : RI r h) (h1 : ∀ k, gn h' 84 k = gn h 84 k) (h2 : ∀ c, gn h' 85 (16 * r + 2 * c) = gn h 85 (16 * r + 2 * c)) (h3 : ∀ k, gn h' 87 k = gn h 87 k) : RI r h' := by
  unfold RI at hR ⊢
  simp only [h1, h2, h3]
  exact hR
theorem RI_fr {r : Nat} {M : List Rng} {h h' : pm_H} (hR : RI r h) (hM : M.all (fun r => !(Nat.beq r.1 84) && (!(Nat.beq r.1 85) && !(Nat.beq r.1 87))) = true) (hf : fr_g M h h') : RI r h' := by
  have hm : ∀ a, (a = 84 ∨ a = 85 ∨ a = 87) → ∀ k, gn h' a k = gn h a k := fun a ha k => fr_gn hf (rg_no (List.all_eq_true.mpr fun q hq => by
    have := List.all_eq_true.mp hM q hq
    simp only [Bool.and_eq_true] at this
    rcases ha with rfl | rfl | rfl
    · exact this.1
    · exact this.2.1
    · exact this.2.2) k)
  exact RI_eq hR (hm 84 (.inl rfl)) (fun c => hm 85 (.inr (.inl rfl)) _) (hm 87 (.inr (.inr rfl)))
theorem nJ_in {a : Nat} {lo hi : Int} (h1 : lo ≤ (a : Int)) (h2 : (a : Int) ≤ hi ∧ a < 2147483648) : cv_g (cI lo hi) (.int (nJ a)) := by
  show lo ≤ (nJ a).toInt ∧ (nJ a).toInt ≤ hi
  rw [nJ_toInt h2.2]
  exact ⟨h1, h2.1⟩
theorem rv_int295 {C : Cs} {h : pm_H} {r : Option Value} (hC : C ∈ S295.2.2.2.2.2) (hv : rv_g h C.2.2.2 r) : ∃ x : Int32, r = some (.int x) := by
  have e := List.mem_singleton.mp hC
  subst e
  cases r with
  | none => exact hv.elim
  | some v => cases v with
    | int x => exact ⟨x, rfl⟩
    | _ => exact hv.elim
theorem bd_pat {a k len t : Nat} {p : List (Int × Int)} {q : Int × Int} (hc : hs0[a]? = some (.inl (t, len, p))) (hk : k < len) (hp : p[k % p.length]? = some q) : bd a k = some q := by
  unfold bd
  rw [hc]
  dsimp only
  rw [show Nat.blt k len = true from Nat.ble_eq_true_of_le hk, cond_true]
  exact hp
theorem bd_85 {k : Nat} (hk : k < 80) (e : k % 2 = 0) : bd 85 k = some (0, 8) := bd_pat (p := [(0, 8), (0, 99)]) rfl hk (by show [(0, 8), (0, 99)][k % 2]? = _; rw [e]; rfl)
theorem bd_87a {k : Nat} (hk : k < 300) (e : k % 3 = 0) : bd 87 k = some (0, 1) := bd_pat (p := [(0, 1), (0, 7), (0, 8)]) rfl hk (by show [(0, 1), (0, 7), (0, 8)][k % 3]? = _; rw [e]; rfl)
theorem bd_87b {k : Nat} (hk : k < 300) (e : k % 3 = 1) : bd 87 k = some (0, 7) := bd_pat (p := [(0, 1), (0, 7), (0, 8)]) rfl hk (by show [(0, 1), (0, 7), (0, 8)][k % 3]? = _; rw [e]; rfl)
theorem bd_87c {k : Nat} (hk : k < 300) (e : k % 3 = 2) : bd 87 k = some (0, 8) := bd_pat (p := [(0, 1), (0, 7), (0, 8)]) rfl hk (by show [(0, 1), (0, 7), (0, 8)][k % 3]? = _; rw [e]; rfl)
theorem ti_in {h : pm_H} {d m k : Nat} (hh : HH h) (hm : m ≤ 8) (hk : k ≤ m) (K : ∀ {n : Int32} (lv : List (Nat × Value)), pm_get lv 0 = some (.ref 77) → pm_get lv 1 = some (.int (nJ m)) → pm_get lv 2 = some (.int n) → pm_get lv 3 = some (.int (nJ (k + 1))) → Ends (pm_at tX9_turnedIn) (pm_Rt pm_P d) (4, lv, [], h, 0, 0) (fun h' r => h' = h ∧ ∃ x : Int32, r = some (.int x))) (e : Nat) : ∀ {n : Int32} {u : Nat} (lv : List (Nat × Value)), u ≤ 8 → dep (gn h 92) e u → pm_get lv 0 = some (.ref 77) → pm_get lv 1 = some (.int (nJ m)) → pm_get lv 2 = some (.int n) → pm_get lv 3 = some (.int (nJ k)) → pm_get lv 4 = some (.int (nJ u)) → Ends (pm_at tX9_turnedIn) (pm_Rt pm_P d) (17, lv, [], h, 0, 0) (fun h' r => h' = h ∧ ∃ x : Int32, r = some (.int x)) := by
  induction e with
  | zero =>
    intro n u lv hu hd L0 L1 L2 L3 L4
    have hd : u = 0 := hd
    refine E_il rfl L4 ?_
    refine E_ifT rfl (decide_eq_true ((nJ_eq0 (by omega)).mpr hd)) ?_
    refine E_inc rfl L3 (nJ_inc _) (fun lv1 L1_3 kp1 => ?_)
    have L1_0 := kp1 0 _ (by decide) rfl L0
    have L1_1 := kp1 1 _ (by decide) rfl L1
    have L1_2 := kp1 2 _ (by decide) rfl L2
    have L1_4 := kp1 4 _ (by decide) rfl L4
    refine E_goto rfl ?_
    exact K lv1 L1_0 L1_1 L1_2 L1_3
  | succ e ih =>
    intro n u lv hu hd L0 L1 L2 L3 L4
    refine E_il rfl L4 ?_
    by_cases hb1 : u = 0
    · refine E_ifT rfl (decide_eq_true ((nJ_eq0 (by omega)).mpr hb1)) ?_
      refine E_inc rfl L3 (nJ_inc _) (fun lv2 L2_3 kp2 => ?_)
      have L2_0 := kp2 0 _ (by decide) rfl L0
      have L2_1 := kp2 1 _ (by decide) rfl L1
      have L2_2 := kp2 2 _ (by decide) rfl L2
      have L2_4 := kp2 4 _ (by decide) rfl L4
      refine E_goto rfl ?_
      exact K lv2 L2_0 L2_1 L2_2 L2_3
    · refine E_ifF rfl (decide_eq_false (fun q => hb1 ((nJ_eq0 (by omega)).mp q))) ?_
      refine E_il rfl L2 ?_
      refine E_il rfl L3 ?_
      refine E_il rfl L4 ?_
      by_cases hb3 : u ≤ k
      · refine E_icT rfl (decide_eq_true ((nJ_le (by omega) (by omega)).mpr hb3)) ?_
        refine E_ci 0 rfl (by decide) ?_
        refine E_bin rfl rfl ?_
        refine E_is rfl (fun lv4 L4_2 kp4 => ?_)
        have L4_0 := kp4 0 _ (by decide) rfl L0
        have L4_1 := kp4 1 _ (by decide) rfl L1
        have L4_3 := kp4 3 _ (by decide) rfl L3
        have L4_4 := kp4 4 _ (by decide) rfl L4
        refine E_al rfl L4_0 ?_
        refine E_gr rfl hh (q := 92) rfl ?_
        refine E_il rfl L4_4 ?_
        have b5 : gn h 92 u ≤ 8 := gn_hi hh (bd_u rfl (by omega)) (by decide)
        refine E_ial rfl hh rfl (by omega) (by decide) (gi_gn hh (bd_u rfl (by omega)) (by decide)) ?_
        refine E_is rfl (fun lv6 L6_4 kp6 => ?_)
        have L6_0 := kp6 0 _ (by decide) rfl L4_0
        have L6_1 := kp6 1 _ (by decide) rfl L4_1
        have L6_2 := kp6 2 _ (by decide) rfl L4_2
        have L6_3 := kp6 3 _ (by decide) rfl L4_3
        refine E_goto rfl ?_
        refine ih lv6 (by omega) ?_ L6_0 L6_1 L6_2 L6_3 L6_4
        cases hd with
        | inl q => exact absurd q hb1
        | inr q => exact q
      · refine E_icF rfl (decide_eq_false (fun q => hb3 ((nJ_le (by omega) (by omega)).mp q))) ?_
        refine E_ci 1 rfl (by decide) ?_
        refine E_goto rfl ?_
        refine E_bin rfl rfl ?_
        refine E_is rfl (fun lv7 L7_2 kp7 => ?_)
        have L7_0 := kp7 0 _ (by decide) rfl L0
        have L7_1 := kp7 1 _ (by decide) rfl L1
        have L7_3 := kp7 3 _ (by decide) rfl L3
        have L7_4 := kp7 4 _ (by decide) rfl L4
        refine E_al rfl L7_0 ?_
        refine E_gr rfl hh (q := 92) rfl ?_
        refine E_il rfl L7_4 ?_
        have b8 : gn h 92 u ≤ 8 := gn_hi hh (bd_u rfl (by omega)) (by decide)
        refine E_ial rfl hh rfl (by omega) (by decide) (gi_gn hh (bd_u rfl (by omega)) (by decide)) ?_
        refine E_is rfl (fun lv9 L9_4 kp9 => ?_)
        have L9_0 := kp9 0 _ (by decide) rfl L7_0
        have L9_1 := kp9 1 _ (by decide) rfl L7_1
        have L9_2 := kp9 2 _ (by decide) rfl L7_2
        have L9_3 := kp9 3 _ (by decide) rfl L7_3
        refine E_goto rfl ?_
        refine ih lv9 (by omega) ?_ L9_0 L9_1 L9_2 L9_3 L9_4
        cases hd with
        | inl q => exact absurd q hb1
        | inr q => exact q
theorem ti_out {h : pm_H} {d m : Nat} (hh : HH h) (hm : m ≤ 8) (hD : ∀ v, 1 ≤ v → v ≤ m → dep (hg h) 8 v) (j : Nat) : ∀ {n : Int32} {k : Nat} (lv : List (Nat × Value)), k + j = m + 1 → 1 ≤ k → pm_get lv 0 = some (.ref 77) → pm_get lv 1 = some (.int (nJ m)) → pm_get lv 2 = some (.int n) → pm_get lv 3 = some (.int (nJ k)) → Ends (pm_at tX9_turnedIn) (pm_Rt pm_P d) (4, lv, [], h, 0, 0) (fun h' r => h' = h ∧ ∃ x : Int32, r = some (.int x)) := by
  induction j with
  | zero =>
    intro n k lv hj hk L0 L1 L2 L3
    refine E_il rfl L3 ?_
    refine E_il rfl L1 ?_
    refine E_icT rfl (decide_eq_true ((nJ_lt (by omega) (by omega)).mpr (by omega))) ?_
    refine E_il rfl L2 ?_
    exact E_rti rfl ⟨rfl, _, rfl⟩
  | succ j ih =>
    intro n k lv hj hk L0 L1 L2 L3
    refine E_il rfl L3 ?_
    refine E_il rfl L1 ?_
    refine E_icF rfl (decide_eq_false (fun q => absurd ((nJ_lt (by omega) (by omega)).mp q) (by omega))) ?_
    refine E_al rfl L0 ?_
    refine E_gr rfl hh (q := 92) rfl ?_
    refine E_il rfl L3 ?_
    have b1 : gn h 92 k ≤ 8 := gn_hi hh (bd_u rfl (by omega)) (by decide)
    refine E_ial rfl hh rfl (by omega) (by decide) (gi_gn hh (bd_u rfl (by omega)) (by decide)) ?_
    refine E_is rfl (fun lv2 L2_4 kp2 => ?_)
    have L2_0 := kp2 0 _ (by decide) rfl L0
    have L2_1 := kp2 1 _ (by decide) rfl L1
    have L2_2 := kp2 2 _ (by decide) rfl L2
    have L2_3 := kp2 3 _ (by decide) rfl L3
    have hdk := hD k (by omega) (by omega)
    rw [hg_gn] at hdk
    refine ti_in hh hm (by omega) (fun lv' a b c e => ih lv' (by omega) (by omega) a b c e) 8 lv2 (by omega) ?_ L2_0 L2_1 L2_2 L2_3 L2_4
    cases hdk with
    | inl q => omega
    | inr q => exact dep_up1 q
theorem sp_turnedIn {h : pm_H} {d m : Nat} (hh : HH h) (hm : m ≤ 8) (hD : ∀ v, 1 ≤ v → v ≤ m → dep (hg h) 8 v) : Sp (d + 1) 365 h [.ref 77, .int (nJ m)] (fun h' r => h' = h ∧ ∃ x : Int32, r = some (.int x)) := by
  refine Sp_of aiX9_turnedIn rfl rfl rfl ?_
  refine E_ci 0 rfl (by decide) ?_
  refine E_is rfl (fun lv1 L1_2 kp1 => ?_)
  have L1_0 := kp1 0 _ (by decide) rfl (show pm_get (lv_args 0 [.ref 77, .int (nJ m)]) 0 = _ from rfl)
  have L1_1 := kp1 1 _ (by decide) rfl (show pm_get (lv_args 0 [.ref 77, .int (nJ m)]) 1 = _ from rfl)
  refine E_ci 1 rfl (by decide) ?_
  refine E_is rfl (fun lv2 L2_3 kp2 => ?_)
  have L2_0 := kp2 0 _ (by decide) rfl L1_0
  have L2_1 := kp2 1 _ (by decide) rfl L1_1
  have L2_2 := kp2 2 _ (by decide) rfl L1_2
  exact ti_out hh hm hD m (k := 1) lv2 (by omega) (by omega) L2_0 L2_1 L2_2 L2_3
theorem sp_trade {h : pm_H} {d a b : Nat} (hh : HH h) (ha : a < 8) (hb : b < 8) : Sp (d + 1) 361 h [.ref 77, .int (nJ a), .int (nJ b)] (fun h' r => r = none ∧ HH h' ∧ h' = pt (pt h 89 a (nJ (gn h 89 b))) 89 b (nJ (gn h 89 a))) := by
  have hb8 : gn h 89 b ≤ 8 := gn_hi hh (bd_u rfl (by omega)) (by decide)
  refine Sp_of aiX9_trade rfl rfl rfl ?_
  refine E_al rfl (show pm_get (lv_args 0 [.ref 77, .int (nJ a), .int (nJ b)]) 0 = _ from rfl) ?_
  refine E_gr rfl hh (q := 89) rfl ?_
  refine E_il rfl (show pm_get (lv_args 0 [.ref 77, .int (nJ a), .int (nJ b)]) 1 = _ from rfl) ?_
  have b1 : gn h 89 a ≤ 8 := gn_hi hh (bd_u rfl (by omega)) (by decide)
  refine E_ial rfl hh rfl (by omega) (by decide) (gi_gn hh (bd_u rfl (by omega)) (by decide)) ?_
  refine E_is rfl (fun lv2 L2_3 kp2 => ?_)
  have L2_0 := kp2 0 _ (by decide) rfl (show pm_get (lv_args 0 [.ref 77, .int (nJ a), .int (nJ b)]) 0 = _ from rfl)
  have L2_1 := kp2 1 _ (by decide) rfl (show pm_get (lv_args 0 [.ref 77, .int (nJ a), .int (nJ b)]) 1 = _ from rfl)
  have L2_2 := kp2 2 _ (by decide) rfl (show pm_get (lv_args 0 [.ref 77, .int (nJ a), .int (nJ b)]) 2 = _ from rfl)
  refine E_al rfl L2_0 ?_
  refine E_gr rfl hh (q := 89) rfl ?_
  refine E_il rfl L2_1 ?_
  refine E_al rfl L2_0 ?_
  refine E_gr rfl hh (q := 89) rfl ?_
  refine E_il rfl L2_2 ?_
  refine E_ial rfl hh rfl (by omega) (by decide) (show gi h 89 b = nJ ((gn h 89 b)) from gi_gn hh (bd_u rfl (by omega)) (by decide)) ?_
  refine E_ias rfl hh rfl (by omega) (by decide) ?_
  have hh3 : HH (pt h 89 a (nJ ((gn h 89 b)))) := HH_ptn hh (bd_u rfl (by omega)) (by omega) (by omega) (by omega)
  refine E_al rfl L2_0 ?_
  refine E_gr rfl hh3 (q := 89) rfl ?_
  refine E_il rfl L2_2 ?_
  refine E_il rfl L2_3 ?_
  refine E_ias rfl hh3 rfl (by omega) (by decide) ?_
  have hh4 : HH (pt (pt h 89 a (nJ ((gn h 89 b)))) 89 b (nJ ((gn h 89 a)))) := HH_ptn hh3 (bd_u rfl (by omega)) (by omega) (by omega) (by omega)
  exact E_ret rfl ⟨rfl, hh4, rfl⟩
noncomputable def YM : List Rng := [(77, 22, 23), (89, 0, 7)]
theorem ly_two {h0 : pm_H} {d : Nat} (hh0 : HH h0) (hR : RI 0 h0) (j : Nat) : ∀ {h : pm_H} {k : Nat} (lv : List (Nat × Value)), k + j = gn h0 84 5 → HH h → fr_g YM h0 h → (∀ c, c < gn h0 84 3 → 1 ≤ gn h 89 c) → pm_get lv 0 = some (.ref 77) → pm_get lv 1 = some (.int (nJ k)) → Ends (pm_at tX9_lays) (pm_Rt pm_P (d + 1)) (54, lv, [], h, 0, 0) (fun h' r => r = none ∧ HH h' ∧ fr_g YM h0 h' ∧ ∀ c, c < gn h' 84 3 → 1 ≤ gn h' 89 c) := by
  have hK : gn h0 84 5 ≤ 20 := gn_hi hh0 rfl (by decide)
  have hC : gn h0 84 3 ≤ 8 := gn_hi hh0 rfl (by decide)
  induction j with
  | zero =>
    intro h k lv hj hh hfr hw L0 L1
    have hce : gn h 84 3 = gn h0 84 3 := fr_gn hfr (rg_no rfl _)
    refine E_il rfl L1 ?_
    refine E_al rfl L0 ?_
    refine E_gr rfl hh (q := 84) rfl ?_
    refine E_ci 5 rfl (by decide) ?_
    refine E_ial rfl hh rfl (by omega) (by decide) (show gi h 84 5 = nJ ((gn h0 84 5)) from by rw [fr_gi hfr (rg_no rfl _)]; exact gi_gn hh0 rfl (by decide)) ?_
    refine E_icT rfl (decide_eq_true ((nJ_le (by omega) (by omega)).mpr (by omega))) ?_
    exact E_ret rfl ⟨rfl, hh, hfr, fun c hc => hw c (by rw [← hce]; exact hc)⟩
  | succ j ih =>
    intro h k lv hj hh hfr hw L0 L1
    have hce : gn h 84 3 = gn h0 84 3 := fr_gn hfr (rg_no rfl _)
    refine E_il rfl L1 ?_
    refine E_al rfl L0 ?_
    refine E_gr rfl hh (q := 84) rfl ?_
    refine E_ci 5 rfl (by decide) ?_
    refine E_ial rfl hh rfl (by omega) (by decide) (show gi h 84 5 = nJ ((gn h0 84 5)) from by rw [fr_gi hfr (rg_no rfl _)]; exact gi_gn hh0 rfl (by decide)) ?_
    refine E_icF rfl (decide_eq_false (fun q => absurd ((nJ_le (by omega) (by omega)).mp q) (by omega))) ?_
    have hact : (gn h0 87 (3 * k) = 0 → 1 ≤ gn h0 87 (3 * k + 2)) ∧ (¬ gn h0 87 (3 * k) = 0 → gn h0 87 (3 * k + 1) < gn h0 84 3 ∧ gn h0 87 (3 * k + 2) < gn h0 84 3) := by have := hR.2.2 k (show k < gn h0 84 5 by omega); simp only [Nat.mul_zero, Nat.zero_add] at this; exact this
    have ha1 : gn h0 87 (3 * k + 1) ≤ 7 := gn_hi hh0 (bd_87b (by omega) (by omega)) (by decide)
    have ha2 : gn h0 87 (3 * k + 2) ≤ 8 := gn_hi hh0 (bd_87c (by omega) (by omega)) (by decide)
    have ha0 : gn h0 87 (3 * k) ≤ 1 := gn_hi hh0 (bd_87a (by omega) (by omega)) (by decide)
    refine E_al rfl L0 ?_
    refine E_gr rfl hh (q := 87) rfl ?_
    refine E_ci 3 rfl (by decide) ?_
    refine E_il rfl L1 ?_
    refine E_bin rfl (nJ_mul _ _) ?_
    refine E_ci 1 rfl (by decide) ?_
    refine E_bin rfl (nJ_add _ _) ?_
    refine E_ial rfl hh rfl (by omega) (by decide) (show gi h 87 (((3 * k) + 1)) = nJ ((gn h0 87 (3 * k + 1))) from by rw [fr_gi hfr (rg_no rfl _)]; exact gi_gn hh0 (bd_87b (by omega) (by omega)) (by decide)) ?_
    refine E_is rfl (fun lv1 L1_2 kp1 => ?_)
    have L1_0 := kp1 0 _ (by decide) rfl L0
    have L1_1 := kp1 1 _ (by decide) rfl L1
    refine E_al rfl L1_0 ?_
    refine E_gr rfl hh (q := 87) rfl ?_
    refine E_ci 3 rfl (by decide) ?_
    refine E_il rfl L1_1 ?_
    refine E_bin rfl (nJ_mul _ _) ?_
    refine E_ci 2 rfl (by decide) ?_
    refine E_bin rfl (nJ_add _ _) ?_
    refine E_ial rfl hh rfl (by omega) (by decide) (show gi h 87 (((3 * k) + 2)) = nJ ((gn h0 87 (3 * k + 2))) from by rw [fr_gi hfr (rg_no rfl _)]; exact gi_gn hh0 (bd_87c (by omega) (by omega)) (by decide)) ?_
    refine E_is rfl (fun lv2 L2_3 kp2 => ?_)
    have L2_0 := kp2 0 _ (by decide) rfl L1_0
    have L2_1 := kp2 1 _ (by decide) rfl L1_1
    have L2_2 := kp2 2 _ (by decide) rfl L1_2
    refine E_al rfl L2_0 ?_
    refine E_gr rfl hh (q := 87) rfl ?_
    refine E_ci 3 rfl (by decide) ?_
    refine E_il rfl L2_1 ?_
    refine E_bin rfl (nJ_mul _ _) ?_
    refine E_ial rfl hh rfl (by omega) (by decide) (show gi h 87 ((3 * k)) = nJ ((gn h0 87 (3 * k))) from by rw [fr_gi hfr (rg_no rfl _)]; exact gi_gn hh0 (bd_87a (by omega) (by omega)) (by decide)) ?_
    by_cases hb3 : ¬ (gn h0 87 (3 * k)) = 0
    · refine E_ifT rfl (decide_eq_true (fun q => hb3 ((nJ_eq0 (by omega)).mp q))) ?_
      refine E_al rfl L2_0 ?_
      refine E_il rfl L2_2 ?_
      refine E_il rfl L2_3 ?_
      have hA := hact.2 (by omega)
      refine E_call rfl (sp_trade hh (by omega) (by omega)) (chk77 hh rfl rfl (by show 0 ≤ 8; decide)) (fun hq rq => ?_)
      rintro ⟨e9, hhq, he9⟩
      rw [e9]
      show Ends _ _ (113, lv2, [], hq, 0, 0) _
      refine E_inc rfl L2_1 (nJ_inc _) (fun lv4 L4_1 kp4 => ?_)
      have L4_0 := kp4 0 _ (by decide) rfl L2_0
      have L4_2 := kp4 2 _ (by decide) rfl L2_2
      have L4_3 := kp4 3 _ (by decide) rfl L2_3
      refine E_goto rfl ?_
      refine ih lv4 (by omega) hhq (he9 ▸ fr_ptr (l := 0) (u := 7) rfl (by omega) (by omega) (fr_ptr (l := 0) (u := 7) rfl (by omega) (by omega) hfr)) (fun c hc => ?_) L4_0 L4_1
      have hx8 : gn h 89 (gn h0 87 (3 * k + 2)) ≤ 8 := gn_hi hh (bd_u rfl (by omega)) (by decide)
      have hy8 : gn h 89 (gn h0 87 (3 * k + 1)) ≤ 8 := gn_hi hh (bd_u rfl (by omega)) (by decide)
      have hh5 : HH (pt h 89 (gn h0 87 (3 * k + 1)) (nJ (gn h 89 (gn h0 87 (3 * k + 2))))) := HH_ptn hh (bd_u rfl (by omega)) (by omega) (by omega) (by omega)
      rw [he9]
      by_cases e : c = gn h0 87 (3 * k + 2)
      · rw [e, gn_ptn hh5 (bd_u rfl (by omega)) (by omega) (by omega) (by omega)]; exact hw _ (by omega)
      · rw [gn_ne (fun _ => e)]
        by_cases e2 : c = gn h0 87 (3 * k + 1)
        · rw [e2, gn_ptn hh (bd_u rfl (by omega)) (by omega) (by omega) (by omega)]; exact hw _ (by omega)
        · rw [gn_ne (fun _ => e2)]; exact hw c hc
    · refine E_ifF rfl (decide_eq_false (fun q => hb3 (fun z => q ((nJ_eq0 (by omega)).mpr z)))) ?_
      refine E_al rfl L2_0 ?_
      refine E_gr rfl hh (q := 89) rfl ?_
      refine E_il rfl L2_2 ?_
      refine E_il rfl L2_3 ?_
      refine E_ias rfl hh rfl (by omega) (by decide) ?_
      have hh5 : HH (pt h 89 ((gn h0 87 (3 * k + 1))) (nJ ((gn h0 87 (3 * k + 2))))) := HH_ptn hh (bd_u rfl (by omega)) (by omega) (by omega) (by omega)
      refine E_goto rfl ?_
      refine E_inc rfl L2_1 (nJ_inc _) (fun lv6 L6_1 kp6 => ?_)
      have L6_0 := kp6 0 _ (by decide) rfl L2_0
      have L6_2 := kp6 2 _ (by decide) rfl L2_2
      have L6_3 := kp6 3 _ (by decide) rfl L2_3
      refine E_goto rfl ?_
      refine ih lv6 (by omega) hh5 (fr_ptr (l := 0) (u := 7) rfl (by omega) (by omega) hfr) (fun c hc => ?_) L6_0 L6_1
      by_cases e : c = gn h0 87 (3 * k + 1)
      · rw [e, gn_ptn hh (bd_u rfl (by omega)) (by omega) (by omega) (by omega)]; exact hact.1 (by omega)
      · rw [gn_ne (fun _ => e)]; exact hw c hc
theorem ly_one {h0 : pm_H} {d : Nat} (hh0 : HH h0) (hR : RI 0 h0) (j : Nat) : ∀ {h : pm_H} {c : Nat} (lv : List (Nat × Value)), c + j = gn h0 84 3 → HH h → fr_g YM h0 h → (∀ c1, c1 < c → 1 ≤ gn h 89 c1) → pm_get lv 0 = some (.ref 77) → pm_get lv 1 = some (.int (nJ c)) → Ends (pm_at tX9_lays) (pm_Rt pm_P (d + 1)) (24, lv, [], h, 0, 0) (fun h' r => r = none ∧ HH h' ∧ fr_g YM h0 h' ∧ ∀ c, c < gn h' 84 3 → 1 ≤ gn h' 89 c) := by
  have hC : gn h0 84 3 ≤ 8 := gn_hi hh0 rfl (by decide)
  induction j with
  | zero =>
    intro h c lv hj hh hfr hw L0 L1
    have hce : gn h 84 3 = gn h0 84 3 := fr_gn hfr (rg_no rfl _)
    refine E_il rfl L1 ?_
    refine E_al rfl L0 ?_
    refine E_call rfl (sp_cars hh) (chk77 hh rfl rfl (by show 1 ≤ 8; decide)) (fun h1 r1 => ?_)
    rintro ⟨e1, f1, c1⟩
    rw [e1, f1]
    show Ends _ _ (29, lv, [.int (nJ (gn h 84 3)), .int (nJ c)], h, 0, 0) _
    refine E_icT rfl (decide_eq_true ((nJ_le (by omega) (by omega)).mpr (by omega))) ?_
    refine E_ci 0 rfl (by decide) ?_
    refine E_is rfl (fun lv2 L2_1 kp2 => ?_)
    have L2_0 := kp2 0 _ (by decide) rfl L0
    exact ly_two hh0 hR (gn h0 84 5) (k := 0) lv2 (by omega) hh hfr (fun c1 hc1 => hw c1 (by omega)) L2_0 L2_1
  | succ j ih =>
    intro h c lv hj hh hfr hw L0 L1
    have hce : gn h 84 3 = gn h0 84 3 := fr_gn hfr (rg_no rfl _)
    refine E_il rfl L1 ?_
    refine E_al rfl L0 ?_
    refine E_call rfl (sp_cars hh) (chk77 hh rfl rfl (by show 1 ≤ 8; decide)) (fun h1 r1 => ?_)
    rintro ⟨e1, f1, c1⟩
    rw [e1, f1]
    show Ends _ _ (29, lv, [.int (nJ (gn h 84 3)), .int (nJ c)], h, 0, 0) _
    refine E_icF rfl (decide_eq_false (fun q => absurd ((nJ_le (by omega) (by omega)).mp q) (by omega))) ?_
    have ht8 : gn h0 85 (2 * c) ≤ 8 := gn_hi hh0 (bd_85 (by omega) (by omega)) (by decide)
    refine E_al rfl L0 ?_
    refine E_gr rfl hh (q := 89) rfl ?_
    refine E_il rfl L1 ?_
    refine E_al rfl L0 ?_
    refine E_gr rfl hh (q := 85) rfl ?_
    refine E_ci 2 rfl (by decide) ?_
    refine E_il rfl L1 ?_
    refine E_bin rfl (nJ_mul _ _) ?_
    refine E_ial rfl hh rfl (by omega) (by decide) (show gi h 85 ((2 * c)) = nJ ((gn h0 85 (2 * c))) from by rw [fr_gi hfr (rg_no rfl _)]; exact gi_gn hh0 (bd_85 (by omega) (by omega)) (by decide)) ?_
    refine E_ias rfl hh rfl (by omega) (by decide) ?_
    have hh2 : HH (pt h 89 c (nJ ((gn h0 85 (2 * c))))) := HH_ptn hh (bd_u rfl (by omega)) (by omega) (by omega) (by omega)
    refine E_inc rfl L1 (nJ_inc _) (fun lv3 L3_1 kp3 => ?_)
    have L3_0 := kp3 0 _ (by decide) rfl L0
    refine E_goto rfl ?_
    refine ih lv3 (by omega) hh2 (fr_ptr (l := 0) (u := 7) rfl (by omega) (by omega) hfr) (fun c1 hc1 => ?_) L3_0 L3_1
    by_cases e : c1 = c
    · rw [e, gn_ptn hh (bd_u rfl (by omega)) (by omega) (by omega) (by omega)]; have := hR.2.1 c (show c < gn h0 84 3 by omega); simp only [Nat.mul_zero, Nat.zero_add] at this; exact this
    · rw [gn_ne (fun _ => e)]; exact hw c1 (by omega)
theorem sp_lays {h0 : pm_H} {d : Nat} (hh0 : HH h0) (hR : RI 0 h0) : Sp (d + 2) 293 h0 [.ref 77] (fun h' r => r = none ∧ HH h' ∧ fr_g YM h0 h' ∧ ∀ c, c < gn h' 84 3 → 1 ≤ gn h' 89 c) := by
  refine Sp_of aiX9_lays rfl rfl rfl ?_
  refine E_al rfl (show pm_get (lv_args 0 [.ref 77]) 0 = _ from rfl) ?_
  refine E_al rfl (show pm_get (lv_args 0 [.ref 77]) 0 = _ from rfl) ?_
  refine E_gr rfl hh0 (q := 84) rfl ?_
  refine E_ci 1 rfl (by decide) ?_
  have b1 : gn h0 84 1 ≤ 3 := gn_hi hh0 rfl (by decide)
  refine E_ial rfl hh0 rfl (by omega) (by decide) (gi_gn hh0 rfl (by decide)) ?_
  refine E_pf rfl hh0 rfl ?_
  have hh2 : HH (pt h0 77 22 (nJ ((gn h0 84 1)))) := HH_ptn hh0 rfl (by omega) (by omega) (by omega)
  have fr2 : fr_g YM h0 (pt h0 77 22 (nJ ((gn h0 84 1)))) := fr_ptr (l := 22) (u := 22) rfl (by omega) (by omega) (fr_rf YM h0)
  refine E_al rfl (show pm_get (lv_args 0 [.ref 77]) 0 = _ from rfl) ?_
  refine E_ci 1 rfl (by decide) ?_
  refine E_al rfl (show pm_get (lv_args 0 [.ref 77]) 0 = _ from rfl) ?_
  refine E_call rfl (sp_cars hh2) (chk77 hh2 rfl rfl (by show 2 ≤ 8; decide)) (fun h3 r3 => ?_)
  rintro ⟨e3, f3, c3⟩
  rw [e3, f3]
  show Ends _ _ (16, (lv_args 0 [.ref 77]), [.int (nJ (gn (pt h0 77 22 (nJ ((gn h0 84 1)))) 84 3)), .int (nJ 1), .ref 77], (pt h0 77 22 (nJ ((gn h0 84 1)))), 0, 0) _
  refine E_bin rfl rfl ?_
  refine E_ci 1 rfl (by decide) ?_
  refine E_bin rfl rfl ?_
  refine E_pf rfl hh2 rfl ?_
  have hh4 : HH (pt (pt h0 77 22 (nJ ((gn h0 84 1)))) 77 23 ((nJ 1 <<< (nJ ((gn (pt h0 77 22 (nJ ((gn h0 84 1)))) 84 3)) &&& 31)) - nJ 1)) := HH_pt hh2 rfl (ai_lo _) (ai_hi _)
  have fr4 : fr_g YM h0 (pt (pt h0 77 22 (nJ ((gn h0 84 1)))) 77 23 ((nJ 1 <<< (nJ ((gn (pt h0 77 22 (nJ ((gn h0 84 1)))) 84 3)) &&& 31)) - nJ 1)) := fr_ptr (l := 23) (u := 23) rfl (by omega) (by omega) fr2
  refine E_ci 0 rfl (by decide) ?_
  refine E_is rfl (fun lv5 L5_1 kp5 => ?_)
  have L5_0 := kp5 0 _ (by decide) rfl (show pm_get (lv_args 0 [.ref 77]) 0 = _ from rfl)
  exact ly_one hh0 hR (gn h0 84 3) (c := 0) lv5 (by omega) hh4 fr4 (fun c1 hc1 => absurd hc1 (Nat.not_lt_zero _)) L5_0 L5_1
theorem sp_isNode {h : pm_H} {d : Nat} {x : Int32} (hh : HH h) : Sp (d + 2) 273 h [.ref 77, .int x] (fun h' r => h' = h ∧ r = some (.int (zb (0 < (gi h 83 0).toInt ∧ 0 ≤ x.toInt ∧ x.toInt ≤ (gn h 84 0 : Int))))) := by
  refine Sp_of aiX9_isNode rfl rfl rfl ?_
  refine E_al rfl (show pm_get (lv_args 0 [.ref 77, .int x]) 0 = _ from rfl) ?_
  refine E_call rfl (sp_isStreet hh) (chk77 hh rfl rfl (by show 0 ≤ 8; decide)) (fun h1 r1 => ?_)
  rintro ⟨e1, f1⟩
  rw [e1, f1]
  show Ends _ _ (4, (lv_args 0 [.ref 77, .int x]), [.int (zb (0 < (gi h 83 0).toInt))], h, 0, 0) _
  by_cases hb2 : ¬ (0 < (gi h 83 0).toInt)
  · refine E_ifT rfl (by rw [zb_F hb2]; rfl) ?_
    refine E_ci 0 rfl (by decide) ?_
    exact E_rtz rfl (.inl rfl) ⟨rfl, by rw [zb_F (by omega)]⟩
  · refine E_ifF rfl (by rw [zb_T (Classical.not_not.mp hb2)]; rfl) ?_
    refine E_il rfl (show pm_get (lv_args 0 [.ref 77, .int x]) 1 = _ from rfl) ?_
    refine E_i2l rfl ?_
    refine E_c rfl ?_
    refine E_al rfl (show pm_get (lv_args 0 [.ref 77, .int x]) 0 = _ from rfl) ?_
    refine E_call rfl (sp_places hh) (chk77 hh rfl rfl (by show 4 ≤ 8; decide)) (fun h3 r3 => ?_)
    rintro ⟨e3, f3, c3⟩
    rw [e3, f3]
    show Ends _ _ (14, (lv_args 0 [.ref 77, .int x]), [.int (nJ (gn h 84 0)), .long (0), .long (x).toInt64], h, 0, 0) _
    refine E_i2l rfl ?_
    refine E_call rfl (sp_in (a := x.toInt) (b := 0) (c := ((((gn h 84 0)) : Nat) : Int)) (i2l_toInt _) rfl (i2l_nJ (by omega))) (chkS rfl (by show 0 ≤ 8; decide)) (fun h4 r4 => ?_)
    rintro ⟨e4, f4⟩
    rw [e4, f4]
    show Ends _ _ (18, (lv_args 0 [.ref 77, .int x]), [.int (zb (0 ≤ x.toInt ∧ x.toInt ≤ ((((gn h 84 0)) : Nat) : Int)))], h, 0, 0) _
    by_cases hb5 : ¬ (0 ≤ x.toInt ∧ x.toInt ≤ ((((gn h 84 0)) : Nat) : Int))
    · refine E_ifT rfl (by rw [zb_F hb5]; rfl) ?_
      refine E_ci 0 rfl (by decide) ?_
      exact E_rtz rfl (.inl rfl) ⟨rfl, by rw [zb_F (by omega)]⟩
    · refine E_ifF rfl (by rw [zb_T (Classical.not_not.mp hb5)]; rfl) ?_
      refine E_ci 1 rfl (by decide) ?_
      refine E_goto rfl ?_
      exact E_rtz rfl (.inr rfl) ⟨rfl, by rw [zb_T (by omega)]⟩
end
section
/-! by hand: calls that ask the tree (written by gen_t9.py) -/
theorem tp_parent {h0 : pm_H} {d : Nat} {x : Int32} (hh0 : HH h0) (hR : RI 0 h0) : Sp (d + 30) 319 h0 [.ref 77, .int x] (TQ h0) := by
  refine Sp_of aiX9_parent rfl rfl rfl ?_
  have L0 : pm_get (lv_args 0 [.ref 77, .int x]) 0 = some (.ref 77) := rfl
  have L1 : pm_get (lv_args 0 [.ref 77, .int x]) 1 = some (.int x) := rfl
  generalize lv_args 0 [.ref 77, .int x] = lv at L0 L1 ⊢
  refine E_al rfl L0 ?_
  refine E_ci 0 rfl (by decide) ?_
  refine E_pf rfl hh0 rfl ?_
  have hh1 : HH (pt h0 77 0 (nJ 0)) := HH_ptn hh0 rfl (by omega) (by omega) (by omega)
  have fr1 : fr_g TM h0 (pt h0 77 0 (nJ 0)) := fr_ptr (l := 0) (u := 0) rfl (by omega) (by omega) (fr_rf TM h0)
  refine E_al rfl L0 ?_
  refine E_il rfl L1 ?_
  refine E_i2l rfl ?_
  refine E_call rfl (sp_isCar hh1) (chk77 hh1 rfl rfl (by show 0 ≤ 8; decide)) (fun h2 r2 => ?_)
  rintro ⟨e2, f2⟩
  rw [e2, f2]
  show Ends _ _ (11, lv, [.int (zb (0 ≤ x.toInt ∧ x.toInt ≤ (gn (pt h0 77 0 (nJ 0)) 84 3 : Int) - 1))], (pt h0 77 0 (nJ 0)), 0, 0) _
  by_cases hb3 : 0 ≤ x.toInt ∧ x.toInt ≤ (gn (pt h0 77 0 (nJ 0)) 84 3 : Int) - 1
  · refine E_ifT rfl (by rw [zb_T hb3]; rfl) ?_
    have hC8 : gn (pt h0 77 0 (nJ 0)) 84 3 ≤ 8 := gn_hi hh1 rfl (by decide)
    obtain ⟨k, hk, rfl⟩ := nJ_of2 (n := gn (pt h0 77 0 (nJ 0)) 84 3 - 1) hb3.1 (by have := hb3.2; have := hb3.1; omega)
    have hk2 : k < gn (pt h0 77 0 (nJ 0)) 84 3 := by have h9 := hb3.2; have h8 := hb3.1; rw [nJ_toInt (by omega)] at h9; omega
    refine E_al rfl L0 ?_
    refine E_call rfl (Sp_le (by omega) (sp_lays (d := 0) hh1 (RI_fr hR rfl fr1))) (chk77 hh1 rfl rfl (by show 0 ≤ 8; decide)) (fun h4 r4 => ?_)
    rintro ⟨e4, hh4, fq4, wq4⟩
    rw [e4]
    have fr4 : fr_g TM h0 h4 := fr_trans fr1 (fr_wk rfl fq4)
    show Ends _ _ (21, lv, [], h4, 0, 0) _
    refine E_al rfl L0 ?_
    refine E_call rfl (Sp_le (by omega) (sp_isLawful (d := 0) hh4)) (chk77 hh4 rfl rfl (by show 0 ≤ 8; decide)) (fun h5 r5 => ?_)
    rintro ⟨e5, f5⟩
    rw [e5]
    rcases f5 with f5 | ⟨f5, lw5⟩
    · rw [f5]
      show Ends _ _ (25, lv, [.int (nJ 0)], h4, 0, 0) _
      refine E_ifF rfl (by decide) ?_
      refine E_c rfl ?_
      exact E_rti rfl ⟨hh4, fr4, _, rfl⟩
    · rw [f5]
      show Ends _ _ (25, lv, [.int (nJ 1)], h4, 0, 0) _
      refine E_ifT rfl (by decide) ?_
      refine E_al rfl L0 ?_
      refine E_call rfl (Sp_le (by omega) (sp_laysTree (d := 0) hh4 lw5 wq4)) (chk77 hh4 rfl rfl (by show 0 ≤ 8; decide)) (fun h6 r6 => ?_)
      rintro ⟨e6, hh6, fq6, dq6⟩
      rw [e6]
      have fr6 : fr_g TM h0 h6 := fr_trans fr4 (fr_wk rfl fq6)
      have pe6 : gn h6 84 0 = gn h4 84 3 := by rw [fr_gn fq6 (rg_no rfl _)]; exact lw5.1.symm
      show Ends _ _ (34, lv, [], h6, 0, 0) _
      refine E_al rfl L0 ?_
      refine E_gr rfl hh6 (q := 92) rfl ?_
      refine E_il rfl L1 ?_
      refine E_ci 1 rfl (by decide) ?_
      refine E_bin rfl (nJ_add _ _) ?_
      have b7 : gn h6 92 ((k + 1)) ≤ 8 := gn_hi hh6 (bd_u rfl (by omega)) (by decide)
      refine E_ial rfl hh6 rfl (by omega) (by decide) (gi_gn hh6 (bd_u rfl (by omega)) (by decide)) ?_
      exact E_rti rfl ⟨hh6, fr6, _, rfl⟩
  · refine E_ifF rfl (by rw [zb_F hb3]; rfl) ?_
    refine E_c rfl ?_
    exact E_rti rfl ⟨hh1, fr1, _, rfl⟩
theorem tp_burnt {h0 : pm_H} {d : Nat} {x : Int32} (hh0 : HH h0) (hR : RI 0 h0) : Sp (d + 30) 220 h0 [.ref 77, .int x] (TQ h0) := by
  refine Sp_of aiX9_burnt rfl rfl rfl ?_
  have L0 : pm_get (lv_args 0 [.ref 77, .int x]) 0 = some (.ref 77) := rfl
  have L1 : pm_get (lv_args 0 [.ref 77, .int x]) 1 = some (.int x) := rfl
  generalize lv_args 0 [.ref 77, .int x] = lv at L0 L1 ⊢
  refine E_al rfl L0 ?_
  refine E_ci 0 rfl (by decide) ?_
  refine E_pf rfl hh0 rfl ?_
  have hh1 : HH (pt h0 77 0 (nJ 0)) := HH_ptn hh0 rfl (by omega) (by omega) (by omega)
  have fr1 : fr_g TM h0 (pt h0 77 0 (nJ 0)) := fr_ptr (l := 0) (u := 0) rfl (by omega) (by omega) (fr_rf TM h0)
  refine E_al rfl L0 ?_
  refine E_il rfl L1 ?_
  refine E_i2l rfl ?_
  refine E_call rfl (sp_isCar hh1) (chk77 hh1 rfl rfl (by show 0 ≤ 8; decide)) (fun h2 r2 => ?_)
  rintro ⟨e2, f2⟩
  rw [e2, f2]
  show Ends _ _ (11, lv, [.int (zb (0 ≤ x.toInt ∧ x.toInt ≤ (gn (pt h0 77 0 (nJ 0)) 84 3 : Int) - 1))], (pt h0 77 0 (nJ 0)), 0, 0) _
  by_cases hb3 : 0 ≤ x.toInt ∧ x.toInt ≤ (gn (pt h0 77 0 (nJ 0)) 84 3 : Int) - 1
  · refine E_ifT rfl (by rw [zb_T hb3]; rfl) ?_
    have hC8 : gn (pt h0 77 0 (nJ 0)) 84 3 ≤ 8 := gn_hi hh1 rfl (by decide)
    obtain ⟨k, hk, rfl⟩ := nJ_of2 (n := gn (pt h0 77 0 (nJ 0)) 84 3 - 1) hb3.1 (by have := hb3.2; have := hb3.1; omega)
    have hk2 : k < gn (pt h0 77 0 (nJ 0)) 84 3 := by have h9 := hb3.2; have h8 := hb3.1; rw [nJ_toInt (by omega)] at h9; omega
    refine E_al rfl L0 ?_
    refine E_call rfl (Sp_le (by omega) (sp_lays (d := 0) hh1 (RI_fr hR rfl fr1))) (chk77 hh1 rfl rfl (by show 0 ≤ 8; decide)) (fun h4 r4 => ?_)
    rintro ⟨e4, hh4, fq4, wq4⟩
    rw [e4]
    have fr4 : fr_g TM h0 h4 := fr_trans fr1 (fr_wk rfl fq4)
    show Ends _ _ (21, lv, [], h4, 0, 0) _
    refine E_al rfl L0 ?_
    refine E_call rfl (Sp_le (by omega) (sp_isLawful (d := 0) hh4)) (chk77 hh4 rfl rfl (by show 0 ≤ 8; decide)) (fun h5 r5 => ?_)
    rintro ⟨e5, f5⟩
    rw [e5]
    rcases f5 with f5 | ⟨f5, lw5⟩
    · rw [f5]
      show Ends _ _ (25, lv, [.int (nJ 0)], h4, 0, 0) _
      refine E_ifF rfl (by decide) ?_
      refine E_c rfl ?_
      exact E_rti rfl ⟨hh4, fr4, _, rfl⟩
    · rw [f5]
      show Ends _ _ (25, lv, [.int (nJ 1)], h4, 0, 0) _
      refine E_ifT rfl (by decide) ?_
      refine E_al rfl L0 ?_
      refine E_call rfl (Sp_le (by omega) (sp_searches (d := 0) hh4 lw5)) (chk77 hh4 rfl rfl (by show 0 ≤ 8; decide)) (fun h6 r6 => ?_)
      rintro ⟨e6, hh6, fq6, dq6⟩
      rw [e6]
      have fr6 : fr_g TM h0 h6 := fr_trans fr4 (fr_wk rfl fq6)
      have pe6 : gn h6 84 0 = gn h4 84 3 := by rw [fr_gn fq6 (rg_no rfl _)]; exact lw5.1.symm
      show Ends _ _ (34, lv, [], h6, 0, 0) _
      refine E_al rfl L0 ?_
      refine E_gr rfl hh6 (q := 92) rfl ?_
      refine E_il rfl L1 ?_
      refine E_ci 1 rfl (by decide) ?_
      refine E_bin rfl (nJ_add _ _) ?_
      have b7 : gn h6 92 ((k + 1)) ≤ 8 := gn_hi hh6 (bd_u rfl (by omega)) (by decide)
      refine E_ial rfl hh6 rfl (by omega) (by decide) (gi_gn hh6 (bd_u rfl (by omega)) (by decide)) ?_
      exact E_rti rfl ⟨hh6, fr6, _, rfl⟩
  · refine E_ifF rfl (by rw [zb_F hb3]; rfl) ?_
    refine E_c rfl ?_
    exact E_rti rfl ⟨hh1, fr1, _, rfl⟩
theorem tp_queue {h0 : pm_H} {d : Nat} {x : Int32} (hh0 : HH h0) (hR : RI 0 h0) : Sp (d + 30) 328 h0 [.ref 77, .int x] (TQ h0) := by
  refine Sp_of aiX9_queue rfl rfl rfl ?_
  have L0 : pm_get (lv_args 0 [.ref 77, .int x]) 0 = some (.ref 77) := rfl
  have L1 : pm_get (lv_args 0 [.ref 77, .int x]) 1 = some (.int x) := rfl
  generalize lv_args 0 [.ref 77, .int x] = lv at L0 L1 ⊢
  refine E_al rfl L0 ?_
  refine E_ci 0 rfl (by decide) ?_
  refine E_pf rfl hh0 rfl ?_
  have hh1 : HH (pt h0 77 0 (nJ 0)) := HH_ptn hh0 rfl (by omega) (by omega) (by omega)
  have fr1 : fr_g TM h0 (pt h0 77 0 (nJ 0)) := fr_ptr (l := 0) (u := 0) rfl (by omega) (by omega) (fr_rf TM h0)
  refine E_al rfl L0 ?_
  refine E_il rfl L1 ?_
  refine E_call rfl (Sp_le (by omega) (sp_isNode (d := 0) hh1)) (chk77 hh1 rfl rfl (by show 0 ≤ 8; decide)) (fun h2 r2 => ?_)
  rintro ⟨e2, f2⟩
  rw [e2, f2]
  show Ends _ _ (10, lv, [.int (zb (0 < (gi (pt h0 77 0 (nJ 0)) 83 0).toInt ∧ 0 ≤ x.toInt ∧ x.toInt ≤ (gn (pt h0 77 0 (nJ 0)) 84 0 : Int)))], (pt h0 77 0 (nJ 0)), 0, 0) _
  by_cases hb3 : 0 < (gi (pt h0 77 0 (nJ 0)) 83 0).toInt ∧ 0 ≤ x.toInt ∧ x.toInt ≤ (gn (pt h0 77 0 (nJ 0)) 84 0 : Int)
  · refine E_ifT rfl (by rw [zb_T hb3]; rfl) ?_
    have hP8 : gn (pt h0 77 0 (nJ 0)) 84 0 ≤ 8 := gn_hi hh1 rfl (by decide)
    obtain ⟨k, hk, rfl⟩ := nJ_of2 (n := gn (pt h0 77 0 (nJ 0)) 84 0) hb3.2.1 hb3.2.2
    refine E_al rfl L0 ?_
    refine E_call rfl (Sp_le (by omega) (sp_lays (d := 0) hh1 (RI_fr hR rfl fr1))) (chk77 hh1 rfl rfl (by show 0 ≤ 8; decide)) (fun h4 r4 => ?_)
    rintro ⟨e4, hh4, fq4, wq4⟩
    rw [e4]
    have fr4 : fr_g TM h0 h4 := fr_trans fr1 (fr_wk rfl fq4)
    show Ends _ _ (20, lv, [], h4, 0, 0) _
    refine E_al rfl L0 ?_
    refine E_call rfl (Sp_le (by omega) (sp_isLawful (d := 0) hh4)) (chk77 hh4 rfl rfl (by show 0 ≤ 8; decide)) (fun h5 r5 => ?_)
    rintro ⟨e5, f5⟩
    rw [e5]
    rcases f5 with f5 | ⟨f5, lw5⟩
    · rw [f5]
      show Ends _ _ (24, lv, [.int (nJ 0)], h4, 0, 0) _
      refine E_ifF rfl (by decide) ?_
      refine E_c rfl ?_
      exact E_rti rfl ⟨hh4, fr4, _, rfl⟩
    · rw [f5]
      show Ends _ _ (24, lv, [.int (nJ 1)], h4, 0, 0) _
      refine E_ifT rfl (by decide) ?_
      refine E_al rfl L0 ?_
      refine E_call rfl (Sp_le (by omega) (sp_laysTree (d := 0) hh4 lw5 wq4)) (chk77 hh4 rfl rfl (by show 0 ≤ 8; decide)) (fun h6 r6 => ?_)
      rintro ⟨e6, hh6, fq6, dq6⟩
      rw [e6]
      have fr6 : fr_g TM h0 h6 := fr_trans fr4 (fr_wk rfl fq6)
      have pe6 : gn h6 84 0 = gn h4 84 3 := by rw [fr_gn fq6 (rg_no rfl _)]; exact lw5.1.symm
      show Ends _ _ (33, lv, [], h6, 0, 0) _
      refine E_al rfl L0 ?_
      refine E_gr rfl hh6 (q := 93) rfl ?_
      refine E_il rfl L1 ?_
      have b7 : gn h6 93 k ≤ 8 := gn_hi hh6 (bd_u rfl (by omega)) (by decide)
      refine E_ial rfl hh6 rfl (by omega) (by decide) (gi_gn hh6 (bd_u rfl (by omega)) (by decide)) ?_
      exact E_rti rfl ⟨hh6, fr6, _, rfl⟩
  · refine E_ifF rfl (by rw [zb_F hb3]; rfl) ?_
    refine E_c rfl ?_
    exact E_rti rfl ⟨hh1, fr1, _, rfl⟩
theorem tp_visit {h0 : pm_H} {d : Nat} {x : Int32} (hh0 : HH h0) (hR : RI 0 h0) : Sp (d + 30) 368 h0 [.ref 77, .int x] (TQ h0) := by
  refine Sp_of aiX9_visit rfl rfl rfl ?_
  have L0 : pm_get (lv_args 0 [.ref 77, .int x]) 0 = some (.ref 77) := rfl
  have L1 : pm_get (lv_args 0 [.ref 77, .int x]) 1 = some (.int x) := rfl
  generalize lv_args 0 [.ref 77, .int x] = lv at L0 L1 ⊢
  refine E_al rfl L0 ?_
  refine E_ci 0 rfl (by decide) ?_
  refine E_pf rfl hh0 rfl ?_
  have hh1 : HH (pt h0 77 0 (nJ 0)) := HH_ptn hh0 rfl (by omega) (by omega) (by omega)
  have fr1 : fr_g TM h0 (pt h0 77 0 (nJ 0)) := fr_ptr (l := 0) (u := 0) rfl (by omega) (by omega) (fr_rf TM h0)
  refine E_al rfl L0 ?_
  refine E_il rfl L1 ?_
  refine E_call rfl (Sp_le (by omega) (sp_isNode (d := 0) hh1)) (chk77 hh1 rfl rfl (by show 0 ≤ 8; decide)) (fun h2 r2 => ?_)
  rintro ⟨e2, f2⟩
  rw [e2, f2]
  show Ends _ _ (10, lv, [.int (zb (0 < (gi (pt h0 77 0 (nJ 0)) 83 0).toInt ∧ 0 ≤ x.toInt ∧ x.toInt ≤ (gn (pt h0 77 0 (nJ 0)) 84 0 : Int)))], (pt h0 77 0 (nJ 0)), 0, 0) _
  by_cases hb3 : 0 < (gi (pt h0 77 0 (nJ 0)) 83 0).toInt ∧ 0 ≤ x.toInt ∧ x.toInt ≤ (gn (pt h0 77 0 (nJ 0)) 84 0 : Int)
  · refine E_ifT rfl (by rw [zb_T hb3]; rfl) ?_
    have hP8 : gn (pt h0 77 0 (nJ 0)) 84 0 ≤ 8 := gn_hi hh1 rfl (by decide)
    obtain ⟨k, hk, rfl⟩ := nJ_of2 (n := gn (pt h0 77 0 (nJ 0)) 84 0) hb3.2.1 hb3.2.2
    refine E_al rfl L0 ?_
    refine E_call rfl (Sp_le (by omega) (sp_lays (d := 0) hh1 (RI_fr hR rfl fr1))) (chk77 hh1 rfl rfl (by show 0 ≤ 8; decide)) (fun h4 r4 => ?_)
    rintro ⟨e4, hh4, fq4, wq4⟩
    rw [e4]
    have fr4 : fr_g TM h0 h4 := fr_trans fr1 (fr_wk rfl fq4)
    show Ends _ _ (20, lv, [], h4, 0, 0) _
    refine E_al rfl L0 ?_
    refine E_call rfl (Sp_le (by omega) (sp_isLawful (d := 0) hh4)) (chk77 hh4 rfl rfl (by show 0 ≤ 8; decide)) (fun h5 r5 => ?_)
    rintro ⟨e5, f5⟩
    rw [e5]
    rcases f5 with f5 | ⟨f5, lw5⟩
    · rw [f5]
      show Ends _ _ (24, lv, [.int (nJ 0)], h4, 0, 0) _
      refine E_ifF rfl (by decide) ?_
      refine E_c rfl ?_
      exact E_rti rfl ⟨hh4, fr4, _, rfl⟩
    · rw [f5]
      show Ends _ _ (24, lv, [.int (nJ 1)], h4, 0, 0) _
      refine E_ifT rfl (by decide) ?_
      refine E_al rfl L0 ?_
      refine E_call rfl (Sp_le (by omega) (sp_searches (d := 0) hh4 lw5)) (chk77 hh4 rfl rfl (by show 0 ≤ 8; decide)) (fun h6 r6 => ?_)
      rintro ⟨e6, hh6, fq6, dq6⟩
      rw [e6]
      have fr6 : fr_g TM h0 h6 := fr_trans fr4 (fr_wk rfl fq6)
      have pe6 : gn h6 84 0 = gn h4 84 3 := by rw [fr_gn fq6 (rg_no rfl _)]; exact lw5.1.symm
      show Ends _ _ (33, lv, [], h6, 0, 0) _
      refine E_al rfl L0 ?_
      refine E_gr rfl hh6 (q := 98) rfl ?_
      refine E_il rfl L1 ?_
      have b7 : gn h6 98 k ≤ 8 := gn_hi hh6 (bd_u rfl (by omega)) (by decide)
      refine E_ial rfl hh6 rfl (by omega) (by decide) (gi_gn hh6 (bd_u rfl (by omega)) (by decide)) ?_
      exact E_rti rfl ⟨hh6, fr6, _, rfl⟩
  · refine E_ifF rfl (by rw [zb_F hb3]; rfl) ?_
    refine E_c rfl ?_
    exact E_rti rfl ⟨hh1, fr1, _, rfl⟩
theorem tp_inversions {h0 : pm_H} {d : Nat} (hh0 : HH h0) (hR : RI 0 h0) : Sp (d + 30) 263 h0 [.ref 77] (TQ h0) := by
  refine Sp_of aiX9_inversions rfl rfl rfl ?_
  have L0 : pm_get (lv_args 0 [.ref 77]) 0 = some (.ref 77) := rfl
  generalize lv_args 0 [.ref 77] = lv at L0 ⊢
  refine E_al rfl L0 ?_
  refine E_ci 0 rfl (by decide) ?_
  refine E_pf rfl hh0 rfl ?_
  have hh1 : HH (pt h0 77 0 (nJ 0)) := HH_ptn hh0 rfl (by omega) (by omega) (by omega)
  have fr1 : fr_g TM h0 (pt h0 77 0 (nJ 0)) := fr_ptr (l := 0) (u := 0) rfl (by omega) (by omega) (fr_rf TM h0)
  refine E_al rfl L0 ?_
  refine E_call rfl (sp_isStreet hh1) (chk77 hh1 rfl rfl (by show 0 ≤ 8; decide)) (fun h2 r2 => ?_)
  rintro ⟨e2, f2⟩
  rw [e2, f2]
  show Ends _ _ (9, lv, [.int (zb (0 < (gi (pt h0 77 0 (nJ 0)) 83 0).toInt))], (pt h0 77 0 (nJ 0)), 0, 0) _
  by_cases hb3 : 0 < (gi (pt h0 77 0 (nJ 0)) 83 0).toInt
  · refine E_ifT rfl (by rw [zb_T hb3]; rfl) ?_
    refine E_al rfl L0 ?_
    refine E_call rfl (Sp_le (by omega) (sp_lays (d := 0) hh1 (RI_fr hR rfl fr1))) (chk77 hh1 rfl rfl (by show 0 ≤ 8; decide)) (fun h4 r4 => ?_)
    rintro ⟨e4, hh4, fq4, wq4⟩
    rw [e4]
    have fr4 : fr_g TM h0 h4 := fr_trans fr1 (fr_wk rfl fq4)
    show Ends _ _ (19, lv, [], h4, 0, 0) _
    refine E_al rfl L0 ?_
    refine E_call rfl (Sp_le (by omega) (sp_isLawful (d := 0) hh4)) (chk77 hh4 rfl rfl (by show 0 ≤ 8; decide)) (fun h5 r5 => ?_)
    rintro ⟨e5, f5⟩
    rw [e5]
    rcases f5 with f5 | ⟨f5, lw5⟩
    · rw [f5]
      show Ends _ _ (23, lv, [.int (nJ 0)], h4, 0, 0) _
      refine E_ifF rfl (by decide) ?_
      refine E_c rfl ?_
      exact E_rti rfl ⟨hh4, fr4, _, rfl⟩
    · rw [f5]
      show Ends _ _ (23, lv, [.int (nJ 1)], h4, 0, 0) _
      refine E_ifT rfl (by decide) ?_
      refine E_al rfl L0 ?_
      refine E_call rfl (Sp_le (by omega) (sp_laysTree (d := 0) hh4 lw5 wq4)) (chk77 hh4 rfl rfl (by show 0 ≤ 8; decide)) (fun h6 r6 => ?_)
      rintro ⟨e6, hh6, fq6, dq6⟩
      rw [e6]
      have fr6 : fr_g TM h0 h6 := fr_trans fr4 (fr_wk rfl fq6)
      have pe6 : gn h6 84 0 = gn h4 84 3 := by rw [fr_gn fq6 (rg_no rfl _)]; exact lw5.1.symm
      show Ends _ _ (32, lv, [], h6, 0, 0) _
      refine E_al rfl L0 ?_
      refine E_al rfl L0 ?_
      refine E_call rfl (sp_places hh6) (chk77 hh6 rfl rfl (by show 1 ≤ 8; decide)) (fun h7 r7 => ?_)
      rintro ⟨e7, f7, c7⟩
      rw [e7, f7]
      show Ends _ _ (37, lv, [.int (nJ (gn h6 84 0)), .ref 77], h6, 0, 0) _
      refine E_call rfl (Sp_le (by omega) (sp_turnedIn (d := 0) hh6 (by omega) (fun v h1 h2 => (fun v h1 h2 => (dq6 v h1 h2).1) v h1 (by omega)))) (chk77 hh6 rfl rfl (by show 0 ≤ 8; decide)) (fun h8 r8 => ?_)
      rintro ⟨e8, x8, f8⟩
      rw [e8, f8]
      show Ends _ _ (40, lv, [.int x8], h6, 0, 0) _
      exact E_rti rfl ⟨hh6, fr6, _, rfl⟩
  · refine E_ifF rfl (by rw [zb_F hb3]; rfl) ?_
    refine E_c rfl ?_
    exact E_rti rfl ⟨hh1, fr1, _, rfl⟩
theorem tp_turned {h0 : pm_H} {d : Nat} (hh0 : HH h0) (hR : RI 0 h0) : Sp (d + 30) 364 h0 [.ref 77] (TQ h0) := by
  refine Sp_of aiX9_turned rfl rfl rfl ?_
  have L0 : pm_get (lv_args 0 [.ref 77]) 0 = some (.ref 77) := rfl
  generalize lv_args 0 [.ref 77] = lv at L0 ⊢
  refine E_al rfl L0 ?_
  refine E_ci 0 rfl (by decide) ?_
  refine E_pf rfl hh0 rfl ?_
  have hh1 : HH (pt h0 77 0 (nJ 0)) := HH_ptn hh0 rfl (by omega) (by omega) (by omega)
  have fr1 : fr_g TM h0 (pt h0 77 0 (nJ 0)) := fr_ptr (l := 0) (u := 0) rfl (by omega) (by omega) (fr_rf TM h0)
  refine E_al rfl L0 ?_
  refine E_call rfl (sp_isStreet hh1) (chk77 hh1 rfl rfl (by show 0 ≤ 8; decide)) (fun h2 r2 => ?_)
  rintro ⟨e2, f2⟩
  rw [e2, f2]
  show Ends _ _ (9, lv, [.int (zb (0 < (gi (pt h0 77 0 (nJ 0)) 83 0).toInt))], (pt h0 77 0 (nJ 0)), 0, 0) _
  by_cases hb3 : 0 < (gi (pt h0 77 0 (nJ 0)) 83 0).toInt
  · refine E_ifT rfl (by rw [zb_T hb3]; rfl) ?_
    refine E_al rfl L0 ?_
    refine E_call rfl (Sp_le (by omega) (sp_lays (d := 0) hh1 (RI_fr hR rfl fr1))) (chk77 hh1 rfl rfl (by show 0 ≤ 8; decide)) (fun h4 r4 => ?_)
    rintro ⟨e4, hh4, fq4, wq4⟩
    rw [e4]
    have fr4 : fr_g TM h0 h4 := fr_trans fr1 (fr_wk rfl fq4)
    show Ends _ _ (19, lv, [], h4, 0, 0) _
    refine E_al rfl L0 ?_
    refine E_call rfl (Sp_le (by omega) (sp_isLawful (d := 0) hh4)) (chk77 hh4 rfl rfl (by show 0 ≤ 8; decide)) (fun h5 r5 => ?_)
    rintro ⟨e5, f5⟩
    rw [e5]
    rcases f5 with f5 | ⟨f5, lw5⟩
    · rw [f5]
      show Ends _ _ (23, lv, [.int (nJ 0)], h4, 0, 0) _
      refine E_ifF rfl (by decide) ?_
      refine E_c rfl ?_
      exact E_rti rfl ⟨hh4, fr4, _, rfl⟩
    · rw [f5]
      show Ends _ _ (23, lv, [.int (nJ 1)], h4, 0, 0) _
      refine E_ifT rfl (by decide) ?_
      refine E_al rfl L0 ?_
      refine E_call rfl (Sp_le (by omega) (sp_searches (d := 0) hh4 lw5)) (chk77 hh4 rfl rfl (by show 0 ≤ 8; decide)) (fun h6 r6 => ?_)
      rintro ⟨e6, hh6, fq6, dq6⟩
      rw [e6]
      have fr6 : fr_g TM h0 h6 := fr_trans fr4 (fr_wk rfl fq6)
      have pe6 : gn h6 84 0 = gn h4 84 3 := by rw [fr_gn fq6 (rg_no rfl _)]; exact lw5.1.symm
      show Ends _ _ (32, lv, [], h6, 0, 0) _
      refine E_al rfl L0 ?_
      refine E_al rfl L0 ?_
      refine E_call rfl (sp_places hh6) (chk77 hh6 rfl rfl (by show 1 ≤ 8; decide)) (fun h7 r7 => ?_)
      rintro ⟨e7, f7, c7⟩
      rw [e7, f7]
      show Ends _ _ (37, lv, [.int (nJ (gn h6 84 0)), .ref 77], h6, 0, 0) _
      refine E_call rfl (Sp_le (by omega) (sp_turnedIn (d := 0) hh6 (by omega) (fun v h1 h2 => dq6 v h1 (by omega)))) (chk77 hh6 rfl rfl (by show 0 ≤ 8; decide)) (fun h8 r8 => ?_)
      rintro ⟨e8, x8, f8⟩
      rw [e8, f8]
      show Ends _ _ (40, lv, [.int x8], h6, 0, 0) _
      exact E_rti rfl ⟨hh6, fr6, _, rfl⟩
  · refine E_ifF rfl (by rw [zb_F hb3]; rfl) ?_
    refine E_c rfl ?_
    exact E_rti rfl ⟨hh1, fr1, _, rfl⟩
theorem tp_kids {h0 : pm_H} {d : Nat} {x : Int32} (hh0 : HH h0) (hR : RI 0 h0) : Sp (d + 30) 284 h0 [.ref 77, .int x] (TQ h0) := by
  refine Sp_of aiX9_kids rfl rfl rfl ?_
  have L0 : pm_get (lv_args 0 [.ref 77, .int x]) 0 = some (.ref 77) := rfl
  have L1 : pm_get (lv_args 0 [.ref 77, .int x]) 1 = some (.int x) := rfl
  generalize lv_args 0 [.ref 77, .int x] = lv at L0 L1 ⊢
  refine E_al rfl L0 ?_
  refine E_ci 0 rfl (by decide) ?_
  refine E_pf rfl hh0 rfl ?_
  have hh1 : HH (pt h0 77 0 (nJ 0)) := HH_ptn hh0 rfl (by omega) (by omega) (by omega)
  have fr1 : fr_g TM h0 (pt h0 77 0 (nJ 0)) := fr_ptr (l := 0) (u := 0) rfl (by omega) (by omega) (fr_rf TM h0)
  refine E_al rfl L0 ?_
  refine E_il rfl L1 ?_
  refine E_call rfl (Sp_le (by omega) (sp_isNode (d := 0) hh1)) (chk77 hh1 rfl rfl (by show 0 ≤ 8; decide)) (fun h2 r2 => ?_)
  rintro ⟨e2, f2⟩
  rw [e2, f2]
  show Ends _ _ (10, lv, [.int (zb (0 < (gi (pt h0 77 0 (nJ 0)) 83 0).toInt ∧ 0 ≤ x.toInt ∧ x.toInt ≤ (gn (pt h0 77 0 (nJ 0)) 84 0 : Int)))], (pt h0 77 0 (nJ 0)), 0, 0) _
  by_cases hb3 : 0 < (gi (pt h0 77 0 (nJ 0)) 83 0).toInt ∧ 0 ≤ x.toInt ∧ x.toInt ≤ (gn (pt h0 77 0 (nJ 0)) 84 0 : Int)
  · refine E_ifT rfl (by rw [zb_T hb3]; rfl) ?_
    have hP8 : gn (pt h0 77 0 (nJ 0)) 84 0 ≤ 8 := gn_hi hh1 rfl (by decide)
    obtain ⟨k, hk, rfl⟩ := nJ_of2 (n := gn (pt h0 77 0 (nJ 0)) 84 0) hb3.2.1 hb3.2.2
    refine E_al rfl L0 ?_
    refine E_call rfl (Sp_le (by omega) (sp_lays (d := 0) hh1 (RI_fr hR rfl fr1))) (chk77 hh1 rfl rfl (by show 0 ≤ 8; decide)) (fun h4 r4 => ?_)
    rintro ⟨e4, hh4, fq4, wq4⟩
    rw [e4]
    have fr4 : fr_g TM h0 h4 := fr_trans fr1 (fr_wk rfl fq4)
    show Ends _ _ (20, lv, [], h4, 0, 0) _
    refine E_al rfl L0 ?_
    refine E_call rfl (Sp_le (by omega) (sp_isLawful (d := 0) hh4)) (chk77 hh4 rfl rfl (by show 0 ≤ 8; decide)) (fun h5 r5 => ?_)
    rintro ⟨e5, f5⟩
    rw [e5]
    rcases f5 with f5 | ⟨f5, lw5⟩
    · rw [f5]
      show Ends _ _ (24, lv, [.int (nJ 0)], h4, 0, 0) _
      refine E_ifF rfl (by decide) ?_
      refine E_c rfl ?_
      exact E_rti rfl ⟨hh4, fr4, _, rfl⟩
    · rw [f5]
      show Ends _ _ (24, lv, [.int (nJ 1)], h4, 0, 0) _
      refine E_ifT rfl (by decide) ?_
      refine E_al rfl L0 ?_
      refine E_call rfl (Sp_le (by omega) (sp_laysTree (d := 0) hh4 lw5 wq4)) (chk77 hh4 rfl rfl (by show 0 ≤ 8; decide)) (fun h6 r6 => ?_)
      rintro ⟨e6, hh6, fq6, dq6⟩
      rw [e6]
      have fr6 : fr_g TM h0 h6 := fr_trans fr4 (fr_wk rfl fq6)
      have pe6 : gn h6 84 0 = gn h4 84 3 := by rw [fr_gn fq6 (rg_no rfl _)]; exact lw5.1.symm
      show Ends _ _ (33, lv, [], h6, 0, 0) _
      refine E_al rfl L0 ?_
      refine E_il rfl L1 ?_
      refine E_al rfl L0 ?_
      refine E_call rfl (sp_places hh6) (chk77 hh6 rfl rfl (by show 2 ≤ 8; decide)) (fun h7 r7 => ?_)
      rintro ⟨e7, f7, c7⟩
      rw [e7, f7]
      show Ends _ _ (39, lv, [.int (nJ (gn h6 84 0)), .int (nJ k), .ref 77], h6, 0, 0) _
      refine E_call rfl (Sp_le (by omega) (Sp_sum (as := [.ref 77, .int (nJ k), .int (nJ ((gn h6 84 0)))]) q295 hh6 ⟨rfl, nJ_in (by omega) (by omega), nJ_in (by omega) (by omega), trivial⟩ (fun _ hq => absurd hq List.not_mem_nil) (fun _ hq => absurd hq List.not_mem_nil))) (chk77 hh6 rfl rfl (by show 0 ≤ 8; decide)) (fun h8 r8 => ?_)
      rintro ⟨hh8, fq8, C8, hC8, -, -, -, rv8⟩
      obtain ⟨x8, f8⟩ := rv_int295 hC8 rv8
      rw [f8]
      have fr8 : fr_g TM h0 h8 := fr_trans fr6 (fr_wk rfl fq8)
      have pe8 : gn h8 84 0 = gn h6 84 0 := fr_gn fq8 rfl
      show Ends _ _ (42, lv, [.int x8], h8, 0, 0) _
      exact E_rti rfl ⟨hh8, fr8, _, rfl⟩
  · refine E_ifF rfl (by rw [zb_F hb3]; rfl) ?_
    refine E_c rfl ?_
    exact E_rti rfl ⟨hh1, fr1, _, rfl⟩
theorem dp_loop {h0 h : pm_H} {d : Nat} (hh : HH h) (hfr : fr_g TM h0 h) (e : Nat) : ∀ {n : Int32} {u : Nat} (lv : List (Nat × Value)), u ≤ 8 → dep (gn h 92) e u → pm_get lv 0 = some (.ref 77) → pm_get lv 2 = some (.int n) → pm_get lv 3 = some (.int (nJ u)) → Ends (pm_at tX9_depth) (pm_Rt pm_P d) (40, lv, [], h, 0, 0) (TQ h0) := by
  induction e with
  | zero =>
    intro n u lv hu hd L0 L2 L3
    have hd : u = 0 := hd
    refine E_il rfl L3 ?_
    refine E_ifT rfl (decide_eq_true ((nJ_eq0 (by omega)).mpr hd)) ?_
    refine E_il rfl L2 ?_
    exact E_rti rfl ⟨hh, hfr, _, rfl⟩
  | succ e ih =>
    intro n u lv hu hd L0 L2 L3
    refine E_il rfl L3 ?_
    by_cases hb1 : u = 0
    · refine E_ifT rfl (decide_eq_true ((nJ_eq0 (by omega)).mpr hb1)) ?_
      refine E_il rfl L2 ?_
      exact E_rti rfl ⟨hh, hfr, _, rfl⟩
    · refine E_ifF rfl (decide_eq_false (fun q => hb1 ((nJ_eq0 (by omega)).mp q))) ?_
      refine E_inc rfl L2 rfl (fun lv2 L2_2 kp2 => ?_)
      have L2_0 := kp2 0 _ (by decide) rfl L0
      have L2_3 := kp2 3 _ (by decide) rfl L3
      refine E_al rfl L2_0 ?_
      refine E_gr rfl hh (q := 92) rfl ?_
      refine E_il rfl L2_3 ?_
      have b3 : gn h 92 u ≤ 8 := gn_hi hh (bd_u rfl (by omega)) (by decide)
      refine E_ial rfl hh rfl (by omega) (by decide) (gi_gn hh (bd_u rfl (by omega)) (by decide)) ?_
      refine E_is rfl (fun lv4 L4_3 kp4 => ?_)
      have L4_0 := kp4 0 _ (by decide) rfl L2_0
      have L4_2 := kp4 2 _ (by decide) rfl L2_2
      refine E_goto rfl ?_
      refine ih lv4 (by omega) ?_ L4_0 L4_2 L4_3
      cases hd with
      | inl q => exact absurd q hb1
      | inr q => exact q
theorem tp_depth {h0 : pm_H} {d : Nat} {x : Int32} (hh0 : HH h0) (hR : RI 0 h0) : Sp (d + 30) 237 h0 [.ref 77, .int x] (TQ h0) := by
  refine Sp_of aiX9_depth rfl rfl rfl ?_
  have L0 : pm_get (lv_args 0 [.ref 77, .int x]) 0 = some (.ref 77) := rfl
  have L1 : pm_get (lv_args 0 [.ref 77, .int x]) 1 = some (.int x) := rfl
  generalize lv_args 0 [.ref 77, .int x] = lv at L0 L1 ⊢
  refine E_al rfl L0 ?_
  refine E_ci 0 rfl (by decide) ?_
  refine E_pf rfl hh0 rfl ?_
  have hh1 : HH (pt h0 77 0 (nJ 0)) := HH_ptn hh0 rfl (by omega) (by omega) (by omega)
  have fr1 : fr_g TM h0 (pt h0 77 0 (nJ 0)) := fr_ptr (l := 0) (u := 0) rfl (by omega) (by omega) (fr_rf TM h0)
  refine E_al rfl L0 ?_
  refine E_il rfl L1 ?_
  refine E_i2l rfl ?_
  refine E_call rfl (sp_isCar hh1) (chk77 hh1 rfl rfl (by show 0 ≤ 8; decide)) (fun h2 r2 => ?_)
  rintro ⟨e2, f2⟩
  rw [e2, f2]
  show Ends _ _ (11, lv, [.int (zb (0 ≤ x.toInt ∧ x.toInt ≤ (gn (pt h0 77 0 (nJ 0)) 84 3 : Int) - 1))], (pt h0 77 0 (nJ 0)), 0, 0) _
  by_cases hb3 : 0 ≤ x.toInt ∧ x.toInt ≤ (gn (pt h0 77 0 (nJ 0)) 84 3 : Int) - 1
  · refine E_ifT rfl (by rw [zb_T hb3]; rfl) ?_
    have hC8 : gn (pt h0 77 0 (nJ 0)) 84 3 ≤ 8 := gn_hi hh1 rfl (by decide)
    obtain ⟨k, hk, rfl⟩ := nJ_of2 (n := gn (pt h0 77 0 (nJ 0)) 84 3 - 1) hb3.1 (by have := hb3.2; have := hb3.1; omega)
    have hk2 : k < gn (pt h0 77 0 (nJ 0)) 84 3 := by have h9 := hb3.2; have h8 := hb3.1; rw [nJ_toInt (by omega)] at h9; omega
    refine E_al rfl L0 ?_
    refine E_call rfl (Sp_le (by omega) (sp_lays (d := 0) hh1 (RI_fr hR rfl fr1))) (chk77 hh1 rfl rfl (by show 0 ≤ 8; decide)) (fun h4 r4 => ?_)
    rintro ⟨e4, hh4, fq4, wq4⟩
    rw [e4]
    have fr4 : fr_g TM h0 h4 := fr_trans fr1 (fr_wk rfl fq4)
    show Ends _ _ (21, lv, [], h4, 0, 0) _
    refine E_al rfl L0 ?_
    refine E_call rfl (Sp_le (by omega) (sp_isLawful (d := 0) hh4)) (chk77 hh4 rfl rfl (by show 0 ≤ 8; decide)) (fun h5 r5 => ?_)
    rintro ⟨e5, f5⟩
    rw [e5]
    rcases f5 with f5 | ⟨f5, lw5⟩
    · rw [f5]
      show Ends _ _ (25, lv, [.int (nJ 0)], h4, 0, 0) _
      refine E_ifF rfl (by decide) ?_
      refine E_c rfl ?_
      exact E_rti rfl ⟨hh4, fr4, _, rfl⟩
    · rw [f5]
      show Ends _ _ (25, lv, [.int (nJ 1)], h4, 0, 0) _
      refine E_ifT rfl (by decide) ?_
      refine E_al rfl L0 ?_
      refine E_call rfl (Sp_le (by omega) (sp_laysTree (d := 0) hh4 lw5 wq4)) (chk77 hh4 rfl rfl (by show 0 ≤ 8; decide)) (fun h6 r6 => ?_)
      rintro ⟨e6, hh6, fq6, dq6⟩
      rw [e6]
      have fr6 : fr_g TM h0 h6 := fr_trans fr4 (fr_wk rfl fq6)
      have pe6 : gn h6 84 0 = gn h4 84 3 := by rw [fr_gn fq6 (rg_no rfl _)]; exact lw5.1.symm
      show Ends _ _ (34, lv, [], h6, 0, 0) _
      refine E_ci 0 rfl (by decide) ?_
      refine E_is rfl (fun lv7 L7_2 kp7 => ?_)
      have L7_0 := kp7 0 _ (by decide) rfl L0
      have L7_1 := kp7 1 _ (by decide) rfl L1
      refine E_il rfl L7_1 ?_
      refine E_ci 1 rfl (by decide) ?_
      refine E_bin rfl (nJ_add _ _) ?_
      refine E_is rfl (fun lv8 L8_3 kp8 => ?_)
      have L8_0 := kp8 0 _ (by decide) rfl L7_0
      have L8_1 := kp8 1 _ (by decide) rfl L7_1
      have L8_2 := kp8 2 _ (by decide) rfl L7_2
      have hdk := (fun v h1 h2 => (dq6 v h1 h2).1) (k + 1) (by omega) (by rw [fr_gn fq4 (rg_no rfl _)]; omega)
      rw [hg_gn] at hdk
      exact dp_loop hh6 fr6 8 lv8 (by omega) hdk L8_0 L8_2 L8_3
  · refine E_ifF rfl (by rw [zb_F hb3]; rfl) ?_
    refine E_c rfl ?_
    exact E_rti rfl ⟨hh1, fr1, _, rfl⟩
theorem lv_loop {h0 : pm_H} {d P : Nat} (hP8 : P ≤ 8) (j : Nat) : ∀ {h : pm_H} {b : Int32} {k : Nat} (lv : List (Nat × Value)), k + j = P + 1 → 1 ≤ k → HH h → fr_g TM h0 h → gn h 84 0 = P → pm_get lv 0 = some (.ref 77) → pm_get lv 1 = some (.int b) → pm_get lv 2 = some (.int (nJ k)) → Ends (pm_at tX9_leaves) (pm_Rt pm_P (d + 29)) (36, lv, [], h, 0, 0) (TQ h0) := by
  induction j with
  | zero =>
    intro h b k lv hj hk hh hfr hP L0 L1 L2
    refine E_il rfl L2 ?_
    refine E_al rfl L0 ?_
    refine E_call rfl (sp_places hh) (chk77 hh rfl rfl (by show 1 ≤ 8; decide)) (fun h1 r1 => ?_)
    rintro ⟨e1, f1, c1⟩
    rw [e1, f1]
    show Ends _ _ (41, lv, [.int (nJ (gn h 84 0)), .int (nJ k)], h, 0, 0) _
    refine E_icT rfl (decide_eq_true ((nJ_lt (by omega) (by omega)).mpr (by omega))) ?_
    refine E_il rfl L1 ?_
    exact E_rti rfl ⟨hh, hfr, _, rfl⟩
  | succ j ih =>
    intro h b k lv hj hk hh hfr hP L0 L1 L2
    refine E_il rfl L2 ?_
    refine E_al rfl L0 ?_
    refine E_call rfl (sp_places hh) (chk77 hh rfl rfl (by show 1 ≤ 8; decide)) (fun h1 r1 => ?_)
    rintro ⟨e1, f1, c1⟩
    rw [e1, f1]
    show Ends _ _ (41, lv, [.int (nJ (gn h 84 0)), .int (nJ k)], h, 0, 0) _
    refine E_icF rfl (decide_eq_false (fun q => absurd ((nJ_lt (by omega) (by omega)).mp q) (by omega))) ?_
    refine E_il rfl L1 ?_
    refine E_al rfl L0 ?_
    refine E_il rfl L2 ?_
    refine E_al rfl L0 ?_
    refine E_call rfl (sp_places hh) (chk77 hh rfl rfl (by show 3 ≤ 8; decide)) (fun h2 r2 => ?_)
    rintro ⟨e2, f2, c2⟩
    rw [e2, f2]
    show Ends _ _ (51, lv, [.int (nJ (gn h 84 0)), .int (nJ k), .ref 77, .int b], h, 0, 0) _
    refine E_call rfl (Sp_le (by omega) (Sp_sum (as := [.ref 77, .int (nJ k), .int (nJ ((gn h 84 0)))]) q295 hh ⟨rfl, nJ_in (by omega) (by omega), nJ_in (by omega) (by omega), trivial⟩ (fun _ hq => absurd hq List.not_mem_nil) (fun _ hq => absurd hq List.not_mem_nil))) (chk77 hh rfl rfl (by show 1 ≤ 8; decide)) (fun h3 r3 => ?_)
    rintro ⟨hh3, fq3, C3, hC3, -, -, -, rv3⟩
    obtain ⟨x3, f3⟩ := rv_int295 hC3 rv3
    rw [f3]
    have fr3 : fr_g TM h0 h3 := fr_trans hfr (fr_wk rfl fq3)
    have pe3 : gn h3 84 0 = gn h 84 0 := fr_gn fq3 rfl
    show Ends _ _ (54, lv, [.int x3, .int b], h3, 0, 0) _
    by_cases hb4 : ¬ x3 = 0
    · refine E_ifT rfl (decide_eq_true hb4) ?_
      refine E_ci 0 rfl (by decide) ?_
      refine E_bin rfl rfl ?_
      refine E_is rfl (fun lv5 L5_1 kp5 => ?_)
      have L5_0 := kp5 0 _ (by decide) rfl L0
      have L5_2 := kp5 2 _ (by decide) rfl L2
      refine E_inc rfl L5_2 (nJ_inc _) (fun lv6 L6_2 kp6 => ?_)
      have L6_0 := kp6 0 _ (by decide) rfl L5_0
      have L6_1 := kp6 1 _ (by decide) rfl L5_1
      refine E_goto rfl ?_
      exact ih lv6 (by omega) (by omega) hh3 fr3 (by rw [pe3]; exact hP) L6_0 L6_1 L6_2
    · refine E_ifF rfl (decide_eq_false hb4) ?_
      refine E_ci 1 rfl (by decide) ?_
      refine E_il rfl L2 ?_
      refine E_ci 1 rfl (by decide) ?_
      refine E_bin rfl (nJ_sub (by omega)) ?_
      refine E_bin rfl rfl ?_
      refine E_goto rfl ?_
      refine E_bin rfl rfl ?_
      refine E_is rfl (fun lv7 L7_1 kp7 => ?_)
      have L7_0 := kp7 0 _ (by decide) rfl L0
      have L7_2 := kp7 2 _ (by decide) rfl L2
      refine E_inc rfl L7_2 (nJ_inc _) (fun lv8 L8_2 kp8 => ?_)
      have L8_0 := kp8 0 _ (by decide) rfl L7_0
      have L8_1 := kp8 1 _ (by decide) rfl L7_1
      refine E_goto rfl ?_
      exact ih lv8 (by omega) (by omega) hh3 fr3 (by rw [pe3]; exact hP) L8_0 L8_1 L8_2
theorem tp_leaves {h0 : pm_H} {d : Nat} (hh0 : HH h0) (hR : RI 0 h0) : Sp (d + 30) 300 h0 [.ref 77] (TQ h0) := by
  refine Sp_of aiX9_leaves rfl rfl rfl ?_
  have L0 : pm_get (lv_args 0 [.ref 77]) 0 = some (.ref 77) := rfl
  generalize lv_args 0 [.ref 77] = lv at L0 ⊢
  refine E_al rfl L0 ?_
  refine E_ci 0 rfl (by decide) ?_
  refine E_pf rfl hh0 rfl ?_
  have hh1 : HH (pt h0 77 0 (nJ 0)) := HH_ptn hh0 rfl (by omega) (by omega) (by omega)
  have fr1 : fr_g TM h0 (pt h0 77 0 (nJ 0)) := fr_ptr (l := 0) (u := 0) rfl (by omega) (by omega) (fr_rf TM h0)
  refine E_al rfl L0 ?_
  refine E_call rfl (sp_isStreet hh1) (chk77 hh1 rfl rfl (by show 0 ≤ 8; decide)) (fun h2 r2 => ?_)
  rintro ⟨e2, f2⟩
  rw [e2, f2]
  show Ends _ _ (9, lv, [.int (zb (0 < (gi (pt h0 77 0 (nJ 0)) 83 0).toInt))], (pt h0 77 0 (nJ 0)), 0, 0) _
  by_cases hb3 : 0 < (gi (pt h0 77 0 (nJ 0)) 83 0).toInt
  · refine E_ifT rfl (by rw [zb_T hb3]; rfl) ?_
    refine E_al rfl L0 ?_
    refine E_call rfl (Sp_le (by omega) (sp_lays (d := 0) hh1 (RI_fr hR rfl fr1))) (chk77 hh1 rfl rfl (by show 0 ≤ 8; decide)) (fun h4 r4 => ?_)
    rintro ⟨e4, hh4, fq4, wq4⟩
    rw [e4]
    have fr4 : fr_g TM h0 h4 := fr_trans fr1 (fr_wk rfl fq4)
    show Ends _ _ (19, lv, [], h4, 0, 0) _
    refine E_al rfl L0 ?_
    refine E_call rfl (Sp_le (by omega) (sp_isLawful (d := 0) hh4)) (chk77 hh4 rfl rfl (by show 0 ≤ 8; decide)) (fun h5 r5 => ?_)
    rintro ⟨e5, f5⟩
    rw [e5]
    rcases f5 with f5 | ⟨f5, lw5⟩
    · rw [f5]
      show Ends _ _ (23, lv, [.int (nJ 0)], h4, 0, 0) _
      refine E_ifF rfl (by decide) ?_
      refine E_c rfl ?_
      exact E_rti rfl ⟨hh4, fr4, _, rfl⟩
    · rw [f5]
      show Ends _ _ (23, lv, [.int (nJ 1)], h4, 0, 0) _
      refine E_ifT rfl (by decide) ?_
      refine E_al rfl L0 ?_
      refine E_call rfl (Sp_le (by omega) (sp_laysTree (d := 0) hh4 lw5 wq4)) (chk77 hh4 rfl rfl (by show 0 ≤ 8; decide)) (fun h6 r6 => ?_)
      rintro ⟨e6, hh6, fq6, dq6⟩
      rw [e6]
      have fr6 : fr_g TM h0 h6 := fr_trans fr4 (fr_wk rfl fq6)
      have pe6 : gn h6 84 0 = gn h4 84 3 := by rw [fr_gn fq6 (rg_no rfl _)]; exact lw5.1.symm
      show Ends _ _ (32, lv, [], h6, 0, 0) _
      refine E_ci 0 rfl (by decide) ?_
      refine E_is rfl (fun lv7 L7_1 kp7 => ?_)
      have L7_0 := kp7 0 _ (by decide) rfl L0
      refine E_ci 1 rfl (by decide) ?_
      refine E_is rfl (fun lv8 L8_2 kp8 => ?_)
      have L8_0 := kp8 0 _ (by decide) rfl L7_0
      have L8_1 := kp8 1 _ (by decide) rfl L7_1
      have hP8 : gn h6 84 0 ≤ 8 := gn_hi hh6 rfl (by decide)
      exact lv_loop hP8 (gn h6 84 0) (k := 1) lv8 (by omega) (by omega) hh6 fr6 rfl L8_0 L8_1 L8_2
  · refine E_ifF rfl (by rw [zb_F hb3]; rfl) ?_
    refine E_c rfl ?_
    exact E_rti rfl ⟨hh1, fr1, _, rfl⟩
end
section
/-! by hand: codes in slots (written by gen_t10.py) -/
theorem pI_eq {a P : Nat} (ha : a < 2147483648) (hP : P < 2147483648) : nJ a = pI P ↔ a + 1 = P := by
  cases P with
  | zero =>
    refine ⟨fun q => ?_, fun q => by omega⟩
    have h1 := congrArg Int32.toInt q
    rw [nJ_toInt ha] at h1
    have h2 : (pI 0).toInt = -1 := rfl
    omega
  | succ k =>
    show nJ a = nJ k ↔ _
    rw [nJ_eq ha (by omega)]
    omega
theorem l2i_nJ {x : Int64} (h0 : 0 ≤ x.toInt) (h1 : x.toInt ≤ 8) : x.toInt32 = nJ x.toInt.toNat := by
  apply Int32.toInt_inj.mp
  rw [nJ_toInt (by omega), Int64.toInt_toInt32]
  rw [Int.bmod_eq_of_le (by omega) (by omega)]
  omega
/-- a slot that holds a code -/
noncomputable def CD (h : pm_H) (sl : Nat) : Prop := sl ≤ 3 ∧ gn h 79 sl + 1 = gn h 84 0 ∧ ∀ i, i < gn h 79 sl → 0 ≤ (gl h 80 (60 * sl + i)).toInt ∧ (gl h 80 (60 * sl + i)).toInt ≤ (gn h 84 0 : Int)
theorem fr_gl {M : List Rng} {h h' : pm_H} {a k : Nat} (hf : fr_g M h h') (hM : rg_in M a k = false) : gl h' a k = gl h a k := by
  unfold gl
  rw [hf a k hM]
theorem CD_fr {M : List Rng} {h h' : pm_H} {sl : Nat} (hf : fr_g M h h') (hM : M.all (fun r => !(Nat.beq r.1 79) && (!(Nat.beq r.1 80) && !(Nat.beq r.1 84))) = true) (c : CD h sl) : CD h' sl := by
  have hm : ∀ a, (a = 79 ∨ a = 80 ∨ a = 84) → ∀ k, rg_in M a k = false := fun a ha k => rg_no (List.all_eq_true.mpr fun q hq => by
    have := List.all_eq_true.mp hM q hq
    simp only [Bool.and_eq_true] at this
    rcases ha with rfl | rfl | rfl
    · exact this.1
    · exact this.2.1
    · exact this.2.2) k
  unfold CD at c ⊢
  rw [fr_gn hf (hm 79 (.inl rfl) sl), fr_gn hf (hm 84 (.inr (.inr rfl)) 0)]
  refine ⟨c.1, c.2.1, fun i hi => ?_⟩
  rw [fr_gl hf (hm 80 (.inr (.inl rfl)) _)]
  exact c.2.2 i hi
theorem wc_loop {h : pm_H} {d sl : Nat} {p : Prop} (hh : HH h) (hs : sl ≤ 3) (hm : gn h 79 sl + 1 = gn h 84 0) (hp : p) (j : Nat) : ∀ {i : Nat} (lv : List (Nat × Value)), i + j = gn h 79 sl → (∀ i1, i1 < i → 0 ≤ (gl h 80 (60 * sl + i1)).toInt ∧ (gl h 80 (60 * sl + i1)).toInt ≤ (gn h 84 0 : Int)) → pm_get lv 0 = some (.ref 77) → pm_get lv 1 = some (.int (nJ sl)) → pm_get lv 3 = some (.int (nJ i)) → Ends (pm_at tX9_whyNotCode) (pm_Rt pm_P (d + 3)) (54, lv, [], h, 0, 0) (fun h' r => h' = h ∧ ∃ y : Int32, r = some (.int y) ∧ (y = 0 → ∃ s2, nJ sl = nJ s2 ∧ CD h s2 ∧ p)) := by
  have hP8 : gn h 84 0 ≤ 8 := gn_hi hh rfl (by decide)
  induction j with
  | zero =>
    intro i lv hj hc L0 L1 L3
    refine E_il rfl L3 ?_
    refine E_al rfl L0 ?_
    refine E_gr rfl hh (q := 79) rfl ?_
    refine E_il rfl L1 ?_
    have b1 : gn h 79 sl ≤ 60 := gn_hi hh (bd_u rfl (by omega)) (by decide)
    refine E_ial rfl hh rfl (by omega) (by decide) (gi_gn hh (bd_u rfl (by omega)) (by decide)) ?_
    refine E_icT rfl (decide_eq_true ((nJ_le (by omega) (by omega)).mpr (by omega))) ?_
    refine E_ci 0 rfl (by decide) ?_
    exact E_rti rfl ⟨rfl, _, rfl, fun _ => ⟨sl, rfl, ⟨hs, hm, fun i1 h1 => hc i1 (by omega)⟩, hp⟩⟩
  | succ j ih =>
    intro i lv hj hc L0 L1 L3
    refine E_il rfl L3 ?_
    refine E_al rfl L0 ?_
    refine E_gr rfl hh (q := 79) rfl ?_
    refine E_il rfl L1 ?_
    have b1 : gn h 79 sl ≤ 60 := gn_hi hh (bd_u rfl (by omega)) (by decide)
    refine E_ial rfl hh rfl (by omega) (by decide) (gi_gn hh (bd_u rfl (by omega)) (by decide)) ?_
    refine E_icF rfl (decide_eq_false (fun q => absurd ((nJ_le (by omega) (by omega)).mp q) (by omega))) ?_
    refine E_al rfl L0 ?_
    refine E_gr rfl hh (q := 80) rfl ?_
    refine E_ci 60 rfl (by decide) ?_
    refine E_il rfl L1 ?_
    refine E_bin rfl (nJ_mul _ _) ?_
    refine E_il rfl L3 ?_
    refine E_bin rfl (nJ_add _ _) ?_
    refine E_lal rfl hh rfl (by omega) (by decide) ?_
    refine E_c rfl ?_
    refine E_al rfl L0 ?_
    refine E_call rfl (sp_places hh) (chk77 hh rfl rfl (by show 4 ≤ 8; decide)) (fun h2 r2 => ?_)
    rintro ⟨e2, f2, c2⟩
    rw [e2, f2]
    show Ends _ _ (80, lv, [.int (nJ (gn h 84 0)), .long (0), .long (gl h 80 (((60 * sl) + i)))], h, 0, 0) _
    refine E_i2l rfl ?_
    refine E_call rfl (sp_in (a := (gl h 80 (((60 * sl) + i))).toInt) (b := 0) (c := ((((gn h 84 0)) : Nat) : Int)) rfl rfl (i2l_nJ (by omega))) (chkS rfl (by show 0 ≤ 8; decide)) (fun h3 r3 => ?_)
    rintro ⟨e3, f3⟩
    rw [e3, f3]
    show Ends _ _ (84, lv, [.int (zb (0 ≤ (gl h 80 (((60 * sl) + i))).toInt ∧ (gl h 80 (((60 * sl) + i))).toInt ≤ ((((gn h 84 0)) : Nat) : Int)))], h, 0, 0) _
    by_cases hb4 : 0 ≤ (gl h 80 (((60 * sl) + i))).toInt ∧ (gl h 80 (((60 * sl) + i))).toInt ≤ ((((gn h 84 0)) : Nat) : Int)
    · refine E_ifT rfl (by rw [zb_T hb4]; rfl) ?_
      refine E_inc rfl L3 (nJ_inc _) (fun lv5 L5_3 kp5 => ?_)
      have L5_0 := kp5 0 _ (by decide) rfl L0
      have L5_1 := kp5 1 _ (by decide) rfl L1
      refine E_goto rfl ?_
      refine ih lv5 (by omega) (fun i1 h1 => ?_) L5_0 L5_1 L5_3
      by_cases e : i1 = i
      · subst e; exact hb4
      · exact hc i1 (by omega)
    · refine E_ifF rfl (by rw [zb_F hb4]; rfl) ?_
      refine E_c rfl ?_
      exact E_rti rfl ⟨rfl, _, rfl, fun q => absurd q (by decide)⟩
theorem sp_whyNotCode {h : pm_H} {d : Nat} {x : Int32} {p : Prop} [Decidable p] (hh : HH h) : Sp (d + 4) 373 h [.ref 77, .int x, .int (zb p)] (fun h' r => h' = h ∧ ∃ y : Int32, r = some (.int y) ∧ (y = 0 → ∃ sl, x = nJ sl ∧ CD h sl ∧ p)) := by
  refine Sp_of aiX9_whyNotCode rfl rfl rfl ?_
  have L0 : pm_get (lv_args 0 [.ref 77, .int x, .int (zb p)]) 0 = some (.ref 77) := rfl
  have L1 : pm_get (lv_args 0 [.ref 77, .int x, .int (zb p)]) 1 = some (.int x) := rfl
  have L2 : pm_get (lv_args 0 [.ref 77, .int x, .int (zb p)]) 2 = some (.int (zb p)) := rfl
  generalize lv_args 0 [.ref 77, .int x, .int (zb p)] = lv at L0 L1 L2 ⊢
  refine E_il rfl L1 ?_
  refine E_call rfl sp_isSlot (chkS rfl (by show 0 ≤ 8; decide)) (fun h1 r1 => ?_)
  rintro ⟨e1, f1⟩
  rw [e1, f1]
  show Ends _ _ (4, lv, [.int (zb (0 ≤ x.toInt ∧ x.toInt ≤ 3))], h, 0, 0) _
  by_cases hb2 : ¬ (0 ≤ x.toInt ∧ x.toInt ≤ 3)
  · refine E_ifT rfl (by rw [zb_F hb2]; rfl) ?_
    refine E_c rfl ?_
    exact E_rti rfl ⟨rfl, _, rfl, fun q => absurd q (by decide)⟩
  · refine E_ifF rfl (by rw [zb_T (Classical.not_not.mp hb2)]; rfl) ?_
    have hsl := Classical.not_not.mp hb2
    refine E_al rfl L0 ?_
    refine E_call rfl (sp_isStreet hh) (chk77 hh rfl rfl (by show 0 ≤ 8; decide)) (fun h3 r3 => ?_)
    rintro ⟨e3, f3⟩
    rw [e3, f3]
    show Ends _ _ (11, lv, [.int (zb (0 < (gi h 83 0).toInt))], h, 0, 0) _
    by_cases hb4 : ¬ (0 < (gi h 83 0).toInt)
    · refine E_ifT rfl (by rw [zb_F hb4]; rfl) ?_
      refine E_c rfl ?_
      exact E_rti rfl ⟨rfl, _, rfl, fun q => absurd q (by decide)⟩
    · refine E_ifF rfl (by rw [zb_T (Classical.not_not.mp hb4)]; rfl) ?_
      refine E_il rfl L2 ?_
      by_cases hb5 : p
      · refine E_ifT rfl (by rw [zb_T hb5]; rfl) ?_
        have hp := hb5
        obtain ⟨sl, hs, rfl⟩ := nJ_of2 (n := 3) hsl.1 hsl.2
        refine E_al rfl L0 ?_
        refine E_gr rfl hh (q := 78) rfl ?_
        refine E_il rfl L1 ?_
        refine E_ial rfl hh rfl (by omega) (by decide) (show gi h 78 sl = (gi h 78 sl) from rfl) ?_
        refine E_c rfl ?_
        by_cases hb6 : ¬ gi h 78 sl = -1
        · refine E_icT rfl (decide_eq_true hb6) ?_
          refine E_al rfl L0 ?_
          refine E_gr rfl hh (q := 79) rfl ?_
          refine E_il rfl L1 ?_
          have b7 : gn h 79 sl ≤ 60 := gn_hi hh (bd_u rfl (by omega)) (by decide)
          refine E_ial rfl hh rfl (by omega) (by decide) (gi_gn hh (bd_u rfl (by omega)) (by decide)) ?_
          refine E_al rfl L0 ?_
          refine E_call rfl (sp_places hh) (chk77 hh rfl rfl (by show 1 ≤ 8; decide)) (fun h8 r8 => ?_)
          rintro ⟨e8, f8, c8⟩
          rw [e8, f8]
          show Ends _ _ (44, lv, [.int (nJ (gn h 84 0)), .int (nJ (gn h 79 sl))], h, 0, 0) _
          refine E_ci 1 rfl (by decide) ?_
          refine E_bin rfl (pI_of _) ?_
          by_cases hb9 : gn h 79 sl + 1 = gn h 84 0
          · refine E_icT rfl (decide_eq_true ((pI_eq (by omega) (by omega)).mpr hb9)) ?_
            refine E_ci 0 rfl (by decide) ?_
            refine E_is rfl (fun lv10 L10_3 kp10 => ?_)
            have L10_0 := kp10 0 _ (by decide) rfl L0
            have L10_1 := kp10 1 _ (by decide) rfl L1
            have L10_2 := kp10 2 _ (by decide) rfl L2
            exact wc_loop hh hs hb9 hp (gn h 79 sl) (i := 0) lv10 (by omega) (fun i1 h1 => absurd h1 (Nat.not_lt_zero _)) L10_0 L10_1 L10_3
          · refine E_icF rfl (decide_eq_false (fun q => hb9 ((pI_eq (by omega) (by omega)).mp q))) ?_
            refine E_c rfl ?_
            exact E_rti rfl ⟨rfl, _, rfl, fun q => absurd q (by decide)⟩
        · refine E_icF rfl (decide_eq_false hb6) ?_
          refine E_c rfl ?_
          exact E_rti rfl ⟨rfl, _, rfl, fun q => absurd q (by decide)⟩
      · refine E_ifF rfl (by rw [zb_F hb5]; rfl) ?_
        refine E_c rfl ?_
        exact E_rti rfl ⟨rfl, _, rfl, fun q => absurd q (by decide)⟩
noncomputable def SM : List Rng := [(92, 0, 8), (94, 0, 8), (95, 0, 7), (96, 0, 17)]
noncomputable def SQ (h0 h' : pm_H) (r : Option Value) : Prop := r = none ∧ HH h' ∧ fr_g SM h0 h' ∧ ∀ v, 1 ≤ v → v ≤ gn h0 84 0 → dep (hg h') 8 v ∧ gn h' 92 v ≤ gn h0 84 0
theorem ls_loop {h0 : pm_H} {d sl : Nat} (hh0 : HH h0) (hCD : CD h0 sl) (j : Nat) : ∀ {h : pm_H} {i : Nat} (lv : List (Nat × Value)), i + j = gn h0 79 sl → HH h → fr_g SM h0 h → (∀ i1, i1 < i → gn h 95 i1 ≤ gn h0 84 0) → pm_get lv 0 = some (.ref 77) → pm_get lv 1 = some (.int (nJ sl)) → pm_get lv 2 = some (.int (nJ i)) → Ends (pm_at tX9_laysSlot) (pm_Rt pm_P (d + 3)) (2, lv, [], h, 0, 0) (SQ h0) := by
  have hP8 : gn h0 84 0 ≤ 8 := gn_hi hh0 rfl (by decide)
  have hs := hCD.1
  have hmP := hCD.2.1
  induction j with
  | zero =>
    intro h i lv hj hh hfr hc L0 L1 L2
    have hpe : gn h 84 0 = gn h0 84 0 := fr_gn hfr (rg_no rfl _)
    refine E_il rfl L2 ?_
    refine E_al rfl L0 ?_
    refine E_gr rfl hh (q := 79) rfl ?_
    refine E_il rfl L1 ?_
    refine E_ial rfl hh rfl (by omega) (by decide) (show gi h 79 sl = nJ ((gn h0 79 sl)) from by rw [fr_gi hfr (rg_no rfl _)]; exact gi_gn hh0 (bd_u rfl (by omega)) (by decide)) ?_
    refine E_icT rfl (decide_eq_true ((nJ_le (by omega) (by omega)).mpr (by omega))) ?_
    refine E_al rfl L0 ?_
    refine E_al rfl L0 ?_
    refine E_call rfl (sp_places hh) (chk77 hh rfl rfl (by show 1 ≤ 8; decide)) (fun h1 r1 => ?_)
    rintro ⟨e1, f1, c1⟩
    rw [e1, f1]
    show Ends _ _ (41, lv, [.int (nJ (gn h 84 0)), .ref 77], h, 0, 0) _
    refine E_ci 1 rfl (by decide) ?_
    refine E_bin rfl (nJ_add _ _) ?_
    refine E_call rfl (sp_reads0 (N := gn h 84 0 + 1) hh (by omega) (by omega) (fun j hj => by have := hc j (by omega); omega)) (chk77 hh rfl rfl (by show 0 ≤ 8; decide)) (fun h9 r9 => ?_)
    rintro ⟨e9, hh9, fr9, q9⟩
    rw [e9]
    show Ends _ _ (46, lv, [], h9, 0, 0) _
    exact E_ret rfl ⟨rfl, hh9, fr_trans hfr (fr_wk rfl fr9), fun v h1 h2 => by have := q9 v h1 (by omega); exact ⟨this.1, by omega⟩⟩
  | succ j ih =>
    intro h i lv hj hh hfr hc L0 L1 L2
    have hpe : gn h 84 0 = gn h0 84 0 := fr_gn hfr (rg_no rfl _)
    refine E_il rfl L2 ?_
    refine E_al rfl L0 ?_
    refine E_gr rfl hh (q := 79) rfl ?_
    refine E_il rfl L1 ?_
    refine E_ial rfl hh rfl (by omega) (by decide) (show gi h 79 sl = nJ ((gn h0 79 sl)) from by rw [fr_gi hfr (rg_no rfl _)]; exact gi_gn hh0 (bd_u rfl (by omega)) (by decide)) ?_
    refine E_icF rfl (decide_eq_false (fun q => absurd ((nJ_le (by omega) (by omega)).mp q) (by omega))) ?_
    have hci := hCD.2.2 i (by omega)
    have hgl : gl h 80 (60 * sl + i) = gl h0 80 (60 * sl + i) := fr_gl hfr (rg_no rfl _)
    refine E_al rfl L0 ?_
    refine E_gr rfl hh (q := 95) rfl ?_
    refine E_il rfl L2 ?_
    refine E_al rfl L0 ?_
    refine E_gr rfl hh (q := 80) rfl ?_
    refine E_ci 60 rfl (by decide) ?_
    refine E_il rfl L1 ?_
    refine E_bin rfl (nJ_mul _ _) ?_
    refine E_il rfl L2 ?_
    refine E_bin rfl (nJ_add _ _) ?_
    refine E_lal rfl hh rfl (by omega) (by decide) ?_
    refine E_l2i rfl (show (gl h 80 (((60 * sl) + i))).toInt32 = nJ (gl h0 80 (60 * sl + i)).toInt.toNat from (by rw [hgl]; exact l2i_nJ hci.1 (by omega))) ?_
    refine E_ias rfl hh rfl (by omega) (by decide) ?_
    have hh1 : HH (pt h 95 i (nJ ((gl h0 80 (60 * sl + i)).toInt.toNat))) := HH_ptn hh (bd_u rfl (by omega)) (by omega) (by omega) (by omega)
    refine E_inc rfl L2 (nJ_inc _) (fun lv2 L2_2 kp2 => ?_)
    have L2_0 := kp2 0 _ (by decide) rfl L0
    have L2_1 := kp2 1 _ (by decide) rfl L1
    refine E_goto rfl ?_
    refine ih lv2 (by omega) hh1 (fr_ptr (l := 0) (u := 7) rfl (by omega) (by omega) hfr) (fun i1 h1 => ?_) L2_0 L2_1 L2_2
    by_cases e : i1 = i
    · rw [e, gn_ptn hh (bd_u rfl (by omega)) (by omega) (by omega) (by omega)]; omega
    · rw [gn_ne (fun _ => e)]; exact hc i1 (by omega)
theorem sp_laysSlot {h0 : pm_H} {d sl : Nat} (hh : HH h0) (hCD : CD h0 sl) : Sp (d + 4) 298 h0 [.ref 77, .int (nJ sl)] (SQ h0) := by
  refine Sp_of aiX9_laysSlot rfl rfl rfl ?_
  refine E_ci 0 rfl (by decide) ?_
  refine E_is rfl (fun lv1 L1_2 kp1 => ?_)
  have L1_0 := kp1 0 _ (by decide) rfl (show pm_get (lv_args 0 [.ref 77, .int (nJ sl)]) 0 = _ from rfl)
  have L1_1 := kp1 1 _ (by decide) rfl (show pm_get (lv_args 0 [.ref 77, .int (nJ sl)]) 1 = _ from rfl)
  exact ls_loop hh hCD (gn h0 79 sl) (i := 0) lv1 (by omega) hh (fr_rf _ _) (fun i1 h1 => absurd h1 (Nat.not_lt_zero _)) L1_0 L1_1 L1_2
theorem tp_above {h0 : pm_H} {d : Nat} {x y : Int32} (hh0 : HH h0) (hR : RI 0 h0) : Sp (d + 30) 204 h0 [.ref 77, .int x, .int y] (TQ h0) := by
  refine Sp_of aiX9_above rfl rfl rfl ?_
  have L0 : pm_get (lv_args 0 [.ref 77, .int x, .int y]) 0 = some (.ref 77) := rfl
  have L1 : pm_get (lv_args 0 [.ref 77, .int x, .int y]) 1 = some (.int x) := rfl
  have L2 : pm_get (lv_args 0 [.ref 77, .int x, .int y]) 2 = some (.int y) := rfl
  generalize lv_args 0 [.ref 77, .int x, .int y] = lv at L0 L1 L2 ⊢
  refine E_al rfl L0 ?_
  refine E_ci 0 rfl (by decide) ?_
  refine E_pf rfl hh0 rfl ?_
  have hh1 : HH (pt h0 77 0 (nJ 0)) := HH_ptn hh0 rfl (by omega) (by omega) (by omega)
  have fr1 : fr_g TM h0 (pt h0 77 0 (nJ 0)) := fr_ptr (l := 0) (u := 0) rfl (by omega) (by omega) (fr_rf TM h0)
  refine E_al rfl L0 ?_
  refine E_il rfl L1 ?_
  refine E_il rfl L2 ?_
  refine E_i2l rfl ?_
  refine E_c rfl ?_
  refine E_al rfl L0 ?_
  refine E_call rfl (sp_places hh1) (chk77 hh1 rfl rfl (by show 6 ≤ 8; decide)) (fun h2 r2 => ?_)
  rintro ⟨e2, f2, c2⟩
  rw [e2, f2]
  show Ends _ _ (14, lv, [.int (nJ (gn (pt h0 77 0 (nJ 0)) 84 0)), .long (0), .long (y).toInt64, .int x, .ref 77], (pt h0 77 0 (nJ 0)), 0, 0) _
  refine E_i2l rfl ?_
  refine E_c rfl ?_
  refine E_lbin rfl ?_
  refine E_call rfl (sp_in (a := y.toInt) (b := 0) (c := (((((gn (pt h0 77 0 (nJ 0)) 84 0)) : Nat) : Int) - 1)) (i2l_toInt _) rfl (i2l_sub1 (by omega))) (chkS rfl (by show 2 ≤ 8; decide)) (fun h3 r3 => ?_)
  rintro ⟨e3, f3⟩
  rw [e3, f3]
  show Ends _ _ (20, lv, [.int (zb (0 ≤ y.toInt ∧ y.toInt ≤ (((((gn (pt h0 77 0 (nJ 0)) 84 0)) : Nat) : Int) - 1))), .int x, .ref 77], (pt h0 77 0 (nJ 0)), 0, 0) _
  refine E_call rfl (Sp_le (by omega) (sp_whyNotCode (d := 0) (p := 0 ≤ y.toInt ∧ y.toInt ≤ (((((gn (pt h0 77 0 (nJ 0)) 84 0)) : Nat) : Int) - 1)) hh1)) (chk77 hh1 rfl rfl (by show 0 ≤ 8; decide)) (fun h4 r4 => ?_)
  rintro ⟨e4, y4, f4, g4⟩
  rw [e4, f4]
  show Ends _ _ (23, lv, [.int y4], (pt h0 77 0 (nJ 0)), 0, 0) _
  refine E_is rfl (fun lv5 L5_3 kp5 => ?_)
  have L5_0 := kp5 0 _ (by decide) rfl L0
  have L5_1 := kp5 1 _ (by decide) rfl L1
  have L5_2 := kp5 2 _ (by decide) rfl L2
  refine E_il rfl L5_3 ?_
  by_cases hb6 : y4 = 0
  · refine E_ifT rfl (decide_eq_true hb6) ?_
    obtain ⟨sl, rfl, hCD, hpp⟩ := g4 hb6
    have hP8 : gn (pt h0 77 0 (nJ 0)) 84 0 ≤ 8 := gn_hi hh1 rfl (by decide)
    obtain ⟨k, hk, rfl⟩ := nJ_of2 (n := gn (pt h0 77 0 (nJ 0)) 84 0 - 1) hpp.1 (by have h9 := hpp.2; have h8 := hpp.1; have h7 := hCD.2.1; omega)
    have hk2 : k < gn (pt h0 77 0 (nJ 0)) 84 0 := by have h7 := hCD.2.1; omega
    refine E_al rfl L5_0 ?_
    refine E_il rfl L5_1 ?_
    refine E_call rfl (Sp_le (by omega) (sp_laysSlot (d := 0) hh1 hCD)) (chk77 hh1 rfl rfl (by show 0 ≤ 8; decide)) (fun h7 r7 => ?_)
    rintro ⟨e7, hh7, fq7, dq7⟩
    rw [e7]
    have fr7 : fr_g TM h0 h7 := fr_trans fr1 (fr_wk rfl fq7)
    have pe7 : gn h7 84 0 = gn (pt h0 77 0 (nJ 0)) 84 0 := fr_gn fq7 (rg_no rfl _)
    show Ends _ _ (35, lv5, [], h7, 0, 0) _
    refine E_al rfl L5_0 ?_
    refine E_gr rfl hh7 (q := 92) rfl ?_
    refine E_il rfl L5_2 ?_
    refine E_ci 1 rfl (by decide) ?_
    refine E_bin rfl (nJ_add _ _) ?_
    have b8 : gn h7 92 ((k + 1)) ≤ 8 := gn_hi hh7 (bd_u rfl (by omega)) (by decide)
    refine E_ial rfl hh7 rfl (by omega) (by decide) (gi_gn hh7 (bd_u rfl (by omega)) (by decide)) ?_
    exact E_rti rfl ⟨hh7, fr7, _, rfl⟩
  · refine E_ifF rfl (decide_eq_false hb6) ?_
    refine E_il rfl L5_3 ?_
    exact E_rti rfl ⟨hh1, fr1, _, rfl⟩
theorem tp_upset {h0 : pm_H} {d : Nat} {x : Int32} (hh0 : HH h0) (hR : RI 0 h0) : Sp (d + 30) 367 h0 [.ref 77, .int x] (TQ h0) := by
  refine Sp_of aiX9_upset rfl rfl rfl ?_
  have L0 : pm_get (lv_args 0 [.ref 77, .int x]) 0 = some (.ref 77) := rfl
  have L1 : pm_get (lv_args 0 [.ref 77, .int x]) 1 = some (.int x) := rfl
  generalize lv_args 0 [.ref 77, .int x] = lv at L0 L1 ⊢
  refine E_al rfl L0 ?_
  refine E_ci 0 rfl (by decide) ?_
  refine E_pf rfl hh0 rfl ?_
  have hh1 : HH (pt h0 77 0 (nJ 0)) := HH_ptn hh0 rfl (by omega) (by omega) (by omega)
  have fr1 : fr_g TM h0 (pt h0 77 0 (nJ 0)) := fr_ptr (l := 0) (u := 0) rfl (by omega) (by omega) (fr_rf TM h0)
  refine E_al rfl L0 ?_
  refine E_il rfl L1 ?_
  refine E_ci 1 rfl (by decide) ?_
  refine E_call rfl (Sp_le (by omega) (sp_whyNotCode (d := 0) (p := True) hh1)) (chk77 hh1 rfl rfl (by show 0 ≤ 8; decide)) (fun h2 r2 => ?_)
  rintro ⟨e2, y2, f2, g2⟩
  rw [e2, f2]
  show Ends _ _ (11, lv, [.int y2], (pt h0 77 0 (nJ 0)), 0, 0) _
  refine E_is rfl (fun lv3 L3_2 kp3 => ?_)
  have L3_0 := kp3 0 _ (by decide) rfl L0
  have L3_1 := kp3 1 _ (by decide) rfl L1
  refine E_il rfl L3_2 ?_
  by_cases hb4 : y2 = 0
  · refine E_ifT rfl (decide_eq_true hb4) ?_
    obtain ⟨sl, rfl, hCD, hpp⟩ := g2 hb4
    have hP8 : gn (pt h0 77 0 (nJ 0)) 84 0 ≤ 8 := gn_hi hh1 rfl (by decide)
    refine E_al rfl L3_0 ?_
    refine E_il rfl L3_1 ?_
    refine E_call rfl (Sp_le (by omega) (sp_laysSlot (d := 0) hh1 hCD)) (chk77 hh1 rfl rfl (by show 0 ≤ 8; decide)) (fun h5 r5 => ?_)
    rintro ⟨e5, hh5, fq5, dq5⟩
    rw [e5]
    have fr5 : fr_g TM h0 h5 := fr_trans fr1 (fr_wk rfl fq5)
    have pe5 : gn h5 84 0 = gn (pt h0 77 0 (nJ 0)) 84 0 := fr_gn fq5 (rg_no rfl _)
    show Ends _ _ (23, lv3, [], h5, 0, 0) _
    refine E_al rfl L3_0 ?_
    refine E_al rfl L3_0 ?_
    refine E_call rfl (sp_places hh5) (chk77 hh5 rfl rfl (by show 1 ≤ 8; decide)) (fun h6 r6 => ?_)
    rintro ⟨e6, f6, c6⟩
    rw [e6, f6]
    show Ends _ _ (28, lv3, [.int (nJ (gn h5 84 0)), .ref 77], h5, 0, 0) _
    refine E_call rfl (Sp_le (by omega) (sp_turnedIn (d := 0) hh5 (by omega) (fun v h1 h2 => (fun v h1 h2 => (dq5 v h1 h2).1) v h1 (by omega)))) (chk77 hh5 rfl rfl (by show 0 ≤ 8; decide)) (fun h7 r7 => ?_)
    rintro ⟨e7, x7, f7⟩
    rw [e7, f7]
    show Ends _ _ (31, lv3, [.int x7], h5, 0, 0) _
    exact E_rti rfl ⟨hh5, fr5, _, rfl⟩
  · refine E_ifF rfl (decide_eq_false hb4) ?_
    refine E_il rfl L3_2 ?_
    exact E_rti rfl ⟨hh1, fr1, _, rfl⟩
theorem rg_loop {h0 : pm_H} {d P k : Nat} (hP8 : P ≤ 8) (hk : k < P) (j : Nat) : ∀ {h : pm_H} {i : Nat} (lv : List (Nat × Value)), i + j = P → HH h → fr_g TM h0 h → gn h 84 0 = P → pm_get lv 0 = some (.ref 77) → pm_get lv 2 = some (.int (nJ k)) → pm_get lv 4 = some (.int (nJ i)) → Ends (pm_at tX9_regain) (pm_Rt pm_P (d + 29)) (38, lv, [], h, 0, 0) (TQ h0) := by
  induction j with
  | zero =>
    intro h i lv hj hh hfr hP L0 L2 L4
    refine E_il rfl L4 ?_
    refine E_al rfl L0 ?_
    refine E_call rfl (sp_places hh) (chk77 hh rfl rfl (by show 1 ≤ 8; decide)) (fun h1 r1 => ?_)
    rintro ⟨e1, f1, c1⟩
    rw [e1, f1]
    show Ends _ _ (44, lv, [.int (nJ (gn h 84 0)), .int (nJ i)], h, 0, 0) _
    refine E_icT rfl (decide_eq_true ((nJ_le (by omega) (by omega)).mpr (by omega))) ?_
    refine E_al rfl L0 ?_
    refine E_ci 0 rfl (by decide) ?_
    refine E_pf rfl hh rfl ?_
    have hh2 : HH (pt h 77 35 (nJ 0)) := HH_ptn hh rfl (by omega) (by omega) (by omega)
    have fr2 : fr_g TM h0 (pt h 77 35 (nJ 0)) := fr_ptr (l := 35) (u := 35) rfl (by omega) (by omega) hfr
    refine E_al rfl L0 ?_
    refine E_ci 0 rfl (by decide) ?_
    refine E_call rfl (Sp_le (by omega) (sp_counts0 (P := gn (pt h 77 35 (nJ 0)) 84 0) (by rw [gn_ne (by omega)]; omega) 8 _ 0 0 hh2 rfl (gi_pt hh rfl (ai_lo _) (ai_hi _)) (by omega) (by rw [gn_ne (by omega)]; omega) (by omega))) (chk77 hh2 rfl rfl (by show 0 ≤ 8; decide)) (fun h3 r3 => ?_)
    rintro ⟨e3, hh3, fq3, -⟩
    rw [e3]
    have fr3 : fr_g TM h0 h3 := fr_trans fr2 (fr_wk rfl fq3)
    show Ends _ _ (71, lv, [], h3, 0, 0) _
    refine E_al rfl L0 ?_
    refine E_gr rfl hh3 (q := 97) rfl ?_
    refine E_il rfl L2 ?_
    refine E_ial rfl hh3 rfl (by omega) (by decide) (show gi h3 97 k = (gi h3 97 k) from rfl) ?_
    refine E_ci 1 rfl (by decide) ?_
    refine E_bin rfl rfl ?_
    exact E_rti rfl ⟨hh3, fr3, _, rfl⟩
  | succ j ih =>
    intro h i lv hj hh hfr hP L0 L2 L4
    refine E_il rfl L4 ?_
    refine E_al rfl L0 ?_
    refine E_call rfl (sp_places hh) (chk77 hh rfl rfl (by show 1 ≤ 8; decide)) (fun h1 r1 => ?_)
    rintro ⟨e1, f1, c1⟩
    rw [e1, f1]
    show Ends _ _ (44, lv, [.int (nJ (gn h 84 0)), .int (nJ i)], h, 0, 0) _
    refine E_icF rfl (decide_eq_false (fun q => absurd ((nJ_le (by omega) (by omega)).mp q) (by omega))) ?_
    refine E_al rfl L0 ?_
    refine E_gr rfl hh (q := 97) rfl ?_
    refine E_il rfl L4 ?_
    refine E_ci 0 rfl (by decide) ?_
    refine E_ias rfl hh rfl (by omega) (by decide) ?_
    have hh2 : HH (pt h 97 i (nJ 0)) := HH_ptn hh (bd_u rfl (by omega)) (by omega) (by omega) (by omega)
    have fr2 : fr_g TM h0 (pt h 97 i (nJ 0)) := fr_ptr (l := 0) (u := 7) rfl (by omega) (by omega) hfr
    refine E_inc rfl L4 (nJ_inc _) (fun lv3 L3_4 kp3 => ?_)
    have L3_0 := kp3 0 _ (by decide) rfl L0
    have L3_2 := kp3 2 _ (by decide) rfl L2
    refine E_goto rfl ?_
    exact ih lv3 (by omega) hh2 fr2 (by rw [gn_ne (by omega)]; exact hP) L3_0 L3_2 L3_4
theorem tp_regain {h0 : pm_H} {d : Nat} {x y : Int32} (hh0 : HH h0) (hR : RI 0 h0) : Sp (d + 30) 331 h0 [.ref 77, .int x, .int y] (TQ h0) := by
  refine Sp_of aiX9_regain rfl rfl rfl ?_
  have L0 : pm_get (lv_args 0 [.ref 77, .int x, .int y]) 0 = some (.ref 77) := rfl
  have L1 : pm_get (lv_args 0 [.ref 77, .int x, .int y]) 1 = some (.int x) := rfl
  have L2 : pm_get (lv_args 0 [.ref 77, .int x, .int y]) 2 = some (.int y) := rfl
  generalize lv_args 0 [.ref 77, .int x, .int y] = lv at L0 L1 L2 ⊢
  refine E_al rfl L0 ?_
  refine E_ci 0 rfl (by decide) ?_
  refine E_pf rfl hh0 rfl ?_
  have hh1 : HH (pt h0 77 0 (nJ 0)) := HH_ptn hh0 rfl (by omega) (by omega) (by omega)
  have fr1 : fr_g TM h0 (pt h0 77 0 (nJ 0)) := fr_ptr (l := 0) (u := 0) rfl (by omega) (by omega) (fr_rf TM h0)
  refine E_al rfl L0 ?_
  refine E_il rfl L1 ?_
  refine E_il rfl L2 ?_
  refine E_i2l rfl ?_
  refine E_c rfl ?_
  refine E_al rfl L0 ?_
  refine E_call rfl (sp_places hh1) (chk77 hh1 rfl rfl (by show 6 ≤ 8; decide)) (fun h2 r2 => ?_)
  rintro ⟨e2, f2, c2⟩
  rw [e2, f2]
  show Ends _ _ (14, lv, [.int (nJ (gn (pt h0 77 0 (nJ 0)) 84 0)), .long (0), .long (y).toInt64, .int x, .ref 77], (pt h0 77 0 (nJ 0)), 0, 0) _
  refine E_i2l rfl ?_
  refine E_c rfl ?_
  refine E_lbin rfl ?_
  refine E_call rfl (sp_in (a := y.toInt) (b := 0) (c := (((((gn (pt h0 77 0 (nJ 0)) 84 0)) : Nat) : Int) - 1)) (i2l_toInt _) rfl (i2l_sub1 (by omega))) (chkS rfl (by show 2 ≤ 8; decide)) (fun h3 r3 => ?_)
  rintro ⟨e3, f3⟩
  rw [e3, f3]
  show Ends _ _ (20, lv, [.int (zb (0 ≤ y.toInt ∧ y.toInt ≤ (((((gn (pt h0 77 0 (nJ 0)) 84 0)) : Nat) : Int) - 1))), .int x, .ref 77], (pt h0 77 0 (nJ 0)), 0, 0) _
  refine E_call rfl (Sp_le (by omega) (sp_whyNotCode (d := 0) (p := 0 ≤ y.toInt ∧ y.toInt ≤ (((((gn (pt h0 77 0 (nJ 0)) 84 0)) : Nat) : Int) - 1)) hh1)) (chk77 hh1 rfl rfl (by show 0 ≤ 8; decide)) (fun h4 r4 => ?_)
  rintro ⟨e4, y4, f4, g4⟩
  rw [e4, f4]
  show Ends _ _ (23, lv, [.int y4], (pt h0 77 0 (nJ 0)), 0, 0) _
  refine E_is rfl (fun lv5 L5_3 kp5 => ?_)
  have L5_0 := kp5 0 _ (by decide) rfl L0
  have L5_1 := kp5 1 _ (by decide) rfl L1
  have L5_2 := kp5 2 _ (by decide) rfl L2
  refine E_il rfl L5_3 ?_
  by_cases hb6 : y4 = 0
  · refine E_ifT rfl (decide_eq_true hb6) ?_
    obtain ⟨sl, rfl, hCD, hpp⟩ := g4 hb6
    have hP8 : gn (pt h0 77 0 (nJ 0)) 84 0 ≤ 8 := gn_hi hh1 rfl (by decide)
    obtain ⟨k, hk, rfl⟩ := nJ_of2 (n := gn (pt h0 77 0 (nJ 0)) 84 0 - 1) hpp.1 (by have h9 := hpp.2; have h8 := hpp.1; have h7 := hCD.2.1; omega)
    have hk2 : k < gn (pt h0 77 0 (nJ 0)) 84 0 := by have h7 := hCD.2.1; omega
    refine E_al rfl L5_0 ?_
    refine E_il rfl L5_1 ?_
    refine E_call rfl (Sp_le (by omega) (sp_laysSlot (d := 0) hh1 hCD)) (chk77 hh1 rfl rfl (by show 0 ≤ 8; decide)) (fun h7 r7 => ?_)
    rintro ⟨e7, hh7, fq7, dq7⟩
    rw [e7]
    have fr7 : fr_g TM h0 h7 := fr_trans fr1 (fr_wk rfl fq7)
    have pe7 : gn h7 84 0 = gn (pt h0 77 0 (nJ 0)) 84 0 := fr_gn fq7 (rg_no rfl _)
    show Ends _ _ (35, lv5, [], h7, 0, 0) _
    refine E_ci 0 rfl (by decide) ?_
    refine E_is rfl (fun lv8 L8_4 kp8 => ?_)
    have L8_0 := kp8 0 _ (by decide) rfl L5_0
    have L8_1 := kp8 1 _ (by decide) rfl L5_1
    have L8_2 := kp8 2 _ (by decide) rfl L5_2
    have L8_3 := kp8 3 _ (by decide) rfl L5_3
    exact rg_loop (P := gn h7 84 0) (by omega) (by omega) (gn h7 84 0) (i := 0) lv8 (by omega) hh7 fr7 rfl L8_0 L8_2 L8_4
  · refine E_ifF rfl (decide_eq_false hb6) ?_
    refine E_il rfl L5_3 ?_
    exact E_rti rfl ⟨hh1, fr1, _, rfl⟩
end
