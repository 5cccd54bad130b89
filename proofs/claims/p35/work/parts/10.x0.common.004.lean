section
theorem ro_one {h0 : pm_H} {d N u : Nat} (hh0 : HH h0) (hN2 : 2 ≤ N) (hN9 : N ≤ 9) (hE : ∀ k, k < 2 * (N - 1) → gn h0 96 k < N) (hC : CNx h0 N) (ih : ∀ u', u = u' + 1 → ∀ {h : pm_H} {m : Nat} {L : List Nat} (lv : List (Nat × Value)), RS h0 h N m L → N ≤ u' + pcn m N → pm_get lv 0 = some (.ref 77) → pm_get lv 1 = some (.int (nJ N)) → pm_get lv 2 = some (.int (nJ m)) → Ends (pm_at tX9_roots) (pm_Rt pm_P (d + 1)) (2, lv, [], h, 0, 0) (RQ h0 N)) {h : pm_H} {m : Nat} {L : List Nat} (lv : List (Nat × Value)) (R : RS h0 h N m L) (hu : N ≤ u + pcn m N) (L0 : pm_get lv 0 = some (.ref 77)) (L1 : pm_get lv 1 = some (.int (nJ N))) (L2 : pm_get lv 2 = some (.int (nJ m))) : Ends (pm_at tX9_roots) (pm_Rt pm_P (d + 1)) (2, lv, [], h, 0, 0) (RQ h0 N) := by
  have hm5 : m < 512 := Nat.lt_of_lt_of_le R.2.2.1 (pow_tab ⟨N, by omega⟩).2
  obtain ⟨T, hT⟩ : ∃ T, T = 2 ^ N := ⟨_, rfl⟩
  have hT1 : 1 ≤ T ∧ T ≤ 512 := by rw [hT]; exact pow_tab ⟨N, by omega⟩
  refine E_il rfl L2 ?_
  refine E_ci 1 rfl ci1 ?_
  refine E_il rfl L1 ?_
  refine E_bin rfl (show nJ 1 <<< (nJ N &&& 31) = nJ T from (by rw [hT]; exact sh_tab ⟨N, by omega⟩)) ?_
  refine E_ci 1 rfl ci1 ?_
  refine E_bin rfl (nJ_sub (by omega)) ?_
  by_cases hb1 : m = (T - 1)
  · refine E_icT rfl (decide_eq_true ((nJ_eq (by omega) (by omega)).mpr hb1)) ?_
    exact E_ret rfl (RS_end R hN9 (by rw [hT] at hb1; exact hb1))
  · refine E_icF rfl (decide_eq_false (fun q => hb1 ((nJ_eq (by omega) (by omega)).mp q))) ?_
    refine E_ci 0 rfl ci0 ?_
    refine E_is rfl (fun lv2 L2_3 kp2 => ?_)
    have L2_0 := kp2 0 _ (nbz rfl) rfl L0
    have L2_1 := kp2 1 _ (nbz rfl) rfl L1
    have L2_2 := kp2 2 _ (nbz rfl) rfl L2
    obtain ⟨v0, hv1, hv2⟩ := full_tab ⟨N, by omega⟩ ⟨m, hm5⟩ R.2.2.1 (by rw [hT] at hb1; exact hb1)
    have hpl : pcn m N < N := pcn_lt hv2 hv1
    obtain ⟨k0, hk0, hk1, hk2⟩ := hC m hm5 R.2.2.2.1 ⟨v0, hv1, hv2⟩
    refine ro_in hh0 hN2 hN9 hE (fun {h'} {m'} {L'} lv' R' sub' pr' a b c => ?_) (2 * (N - 1)) (k := 0) lv2 (by omega) R (fun _ _ a => a) (fun k1 hk1 _ => absurd hk1 (Nat.not_lt_zero _)) L2_0 L2_1 L2_2 L2_3
    have := pcn_slt (n := N) sub' (hE _ (xr_lt hk0)) hk2 (pr' k0 hk0 hk1)
    cases u with
    | zero => exfalso; omega
    | succ u => exact ih u rfl lv' R' (by omega) a b c
theorem ro_out {h0 : pm_H} {d N : Nat} (hh0 : HH h0) (hN2 : 2 ≤ N) (hN9 : N ≤ 9) (hE : ∀ k, k < 2 * (N - 1) → gn h0 96 k < N) (hC : CNx h0 N) : ∀ (u : Nat) {h : pm_H} {m : Nat} {L : List Nat} (lv : List (Nat × Value)), RS h0 h N m L → N ≤ u + pcn m N → pm_get lv 0 = some (.ref 77) → pm_get lv 1 = some (.int (nJ N)) → pm_get lv 2 = some (.int (nJ m)) → Ends (pm_at tX9_roots) (pm_Rt pm_P (d + 1)) (2, lv, [], h, 0, 0) (RQ h0 N)
  | 0 => ro_one hh0 hN2 hN9 hE hC (fun u' hu' => by omega)
  | u + 1 => ro_one hh0 hN2 hN9 hE hC (fun u' hu' => by
      have : u' = u := by omega
      subst this
      exact @ro_out h0 d N hh0 hN2 hN9 hE hC u')
theorem one_tab : ∀ n : Fin 10, 2 ≤ n.val → 1 < 2 ^ n.val := by decide +kernel
theorem pc1_tab : ∀ n : Fin 10, 2 ≤ n.val → ([] : List Nat).length + 1 = pcn 1 n.val := by decide +kernel
theorem one_bit : ∀ v : Fin 9, v.val ≠ 0 → isB 1 v.val = false := by decide +kernel
theorem sp_roots {h0 : pm_H} {d N : Nat} (hh : HH h0) (hN2 : 2 ≤ N) (hN9 : N ≤ 9) (hE : ∀ k, k < 2 * (N - 1) → gn h0 96 k < N) (hC : CNx h0 N) : Sp (d + 2) 337 h0 [.ref 77, .int (nJ N)] (RQ h0 N) := by
  refine Sp_of aiX9_roots rfl rfl rfl ?_
  refine E_ci 1 rfl ci1 ?_
  refine E_is rfl (fun lv1 L1_2 kp1 => ?_)
  have L1_0 := kp1 0 _ (nbz rfl) rfl (show pm_get (lv_args 0 [.ref 77, .int (nJ N)]) 0 = _ from rfl)
  have L1_1 := kp1 1 _ (nbz rfl) rfl (show pm_get (lv_args 0 [.ref 77, .int (nJ N)]) 1 = _ from rfl)
  refine ro_out hh hN2 hN9 hE hC N (m := 1) (L := []) lv1 ⟨hh, fr_rf _ _, one_tab ⟨N, by omega⟩ hN2, rfl, trivial, fun v => ⟨fun hv => absurd hv List.not_mem_nil, fun ⟨q1, q2, q3⟩ => absurd q3 (by rw [one_bit ⟨v, by omega⟩ q1]; decide)⟩, pc1_tab ⟨N, by omega⟩ hN2, fun v hv => absurd hv List.not_mem_nil⟩ (by omega) L1_0 L1_1 L1_2
end
section
/-! by hand: a tree out of a code (written by gen_t6.py) -/
theorem nJ_inc2 (a : Nat) : nJ (2 * a) + 2 = nJ (2 * (a + 1)) := nJ_add (2 * a) 2
noncomputable def fu (l : Nat → Nat) (v x : Nat) : Nat → Nat := fun u => if u = v then x else l u
theorem fu_same (l : Nat → Nat) (v x : Nat) : fu l v x v = x := if_pos rfl
theorem fu_ne {l : Nat → Nat} {v x u : Nat} (h : u ≠ v) : fu l v x u = l u := if_neg h
noncomputable def sm (l : Nat → Nat) : Nat → Nat
  | 0 => 0
  | n + 1 => sm l n + l n
noncomputable def lc (l : Nat → Nat) : Nat → Nat
  | 0 => 0
  | n + 1 => lc l n + (if l n = 0 then 0 else 1)
theorem sm_eq {l l' : Nat → Nat} : ∀ {n : Nat}, (∀ v, v < n → l' v = l v) → sm l' n = sm l n
  | 0, _ => rfl
  | n + 1, h => by
    unfold sm
    rw [sm_eq (n := n) (fun v hv => h v (by omega)), h n (by omega)]
theorem sm_fu {l : Nat → Nat} {v x : Nat} : ∀ {n : Nat}, v < n → sm (fu l v x) n + l v = sm l n + x
  | 0, h => absurd h (Nat.not_lt_zero _)
  | n + 1, h => by
    unfold sm
    by_cases e : v = n
    · subst e
      rw [fu_same, sm_eq (l := l) (fun u hu => fu_ne (by omega))]
      omega
    · have := sm_fu (l := l) (v := v) (x := x) (n := n) (by omega)
      rw [fu_ne (show n ≠ v by omega)]
      omega
theorem lc_eq {l l' : Nat → Nat} : ∀ {n : Nat}, (∀ v, v < n → (l' v = 0 ↔ l v = 0)) → lc l' n = lc l n
  | 0, _ => rfl
  | n + 1, h => by
    unfold lc
    rw [lc_eq (n := n) (fun v hv => h v (by omega))]
    by_cases e : l n = 0
    · rw [if_pos e, if_pos ((h n (by omega)).mpr e)]
    · rw [if_neg e, if_neg (fun q => e ((h n (by omega)).mp q))]
theorem lc_fu0 {l : Nat → Nat} {v : Nat} (hv : l v ≠ 0) : ∀ {n : Nat}, v < n → lc (fu l v 0) n + 1 = lc l n
  | 0, h => absurd h (Nat.not_lt_zero _)
  | n + 1, h => by
    unfold lc
    by_cases e : v = n
    · subst e
      rw [fu_same, if_pos rfl, if_neg hv, lc_eq (l := l) (fun u hu => by rw [fu_ne (by omega)])]
    · have := lc_fu0 hv (n := n) (by omega)
      rw [fu_ne (show n ≠ v by omega)]
      omega
theorem lc_fu1 {l : Nat → Nat} {v x n : Nat} (hv : l v ≠ 0) (hx : x ≠ 0) : lc (fu l v x) n = lc l n := lc_eq (fun u _ => by
  by_cases e : u = v
  · subst e; rw [fu_same]; exact ⟨fun q => absurd q hx, fun q => absurd q hv⟩
  · rw [fu_ne e])
theorem lc_zero {l : Nat → Nat} : ∀ {n : Nat}, lc l n = 0 → ∀ v, v < n → l v = 0
  | 0, _, v, hv => absurd hv (Nat.not_lt_zero _)
  | n + 1, h, v, hv => by
    unfold lc at h
    by_cases e : l n = 0
    · rw [if_pos e] at h
      by_cases hn : v = n
      · subst hn; exact e
      · exact lc_zero (n := n) (by omega) v (by omega)
    · rw [if_neg e] at h; omega
theorem lc_pos {l : Nat → Nat} {n : Nat} (h : lc l n ≠ 0) : ∃ v, v < n ∧ l v ≠ 0 := by
  by_cases hx : ∃ v, v < n ∧ l v ≠ 0
  · exact hx
  · exfalso
    apply h
    have : lc l n = lc (fun _ => 0) n := lc_eq (fun v hv => ⟨fun _ => rfl, fun _ => Classical.byContradiction fun q => hx ⟨v, hv, q⟩⟩)
    rw [this]
    clear this hx h
    induction n with
    | zero => rfl
    | succ n ih => unfold lc; rw [ih, if_pos rfl]
theorem lc_all {l : Nat → Nat} : ∀ {n : Nat}, (∀ v, v < n → l v ≠ 0) → lc l n = n
  | 0, _ => rfl
  | n + 1, h => by
    unfold lc
    rw [lc_all (n := n) (fun v hv => h v (by omega)), if_neg (h n (by omega))]
theorem sm_one {l : Nat → Nat} : ∀ {n : Nat}, (∀ v, v < n → l v = 1) → sm l n = n
  | 0, _ => rfl
  | n + 1, h => by
    unfold sm
    rw [sm_one (n := n) (fun v hv => h v (by omega)), h n (by omega)]
theorem sm_lc {l : Nat → Nat} : ∀ {n : Nat}, (∀ v, v < n → l v ≠ 1) → 2 * lc l n ≤ sm l n
  | 0, _ => Nat.le_refl _
  | n + 1, h => by
    have ih := sm_lc (n := n) (fun v hv => h v (by omega))
    have h1 := h n (by omega)
    unfold sm lc
    by_cases e : l n = 0
    · rw [if_pos e]; omega
    · rw [if_neg e]; omega
theorem leaf_ex {l : Nat → Nat} {n k : Nat} (h1 : sm l n = 2 * k + 2) (h2 : lc l n = k + 2) : ∃ v, v < n ∧ l v = 1 := by
  by_cases hx : ∃ v, v < n ∧ l v = 1
  · exact hx
  · have := sm_lc (l := l) (n := n) (fun v hv q => hx ⟨v, hv, q⟩)
    omega
/-- how often a number stands in a piece of a row -/
noncomputable def ocr (c : Nat → Nat) (v : Nat) : Nat → Nat → Nat
  | 0, _ => 0
  | k + 1, i => (if c i = v then 1 else 0) + ocr c v k (i + 1)
theorem ocr_le (c : Nat → Nat) (v : Nat) : ∀ k i, ocr c v k i ≤ k
  | 0, _ => Nat.le_refl _
  | k + 1, i => by
    have := ocr_le c v k (i + 1)
    unfold ocr
    split <;> omega
theorem ocr_no {c : Nat → Nat} {v : Nat} : ∀ {k i : Nat}, ocr c v k i = 0 → ∀ j, i ≤ j → j < i + k → c j ≠ v
  | 0, i, _, j, h1, h2 => by omega
  | k + 1, i, h, j, h1, h2 => by
    unfold ocr at h
    by_cases e : c i = v
    · rw [if_pos e] at h; omega
    · rw [if_neg e] at h
      by_cases hj : j = i
      · subst hj; exact e
      · exact ocr_no (k := k) (i := i + 1) (by omega) j (by omega) (by omega)
noncomputable def DM : List Rng := [(92, 0, 8), (94, 0, 8), (96, 0, 17)]
noncomputable def DQ (h0 : pm_H) (N : Nat) (h' : pm_H) (r : Option Value) : Prop := r = none ∧ HH h' ∧ fr_g DM h0 h' ∧ ∀ v, 1 ≤ v → v < N → dep (hg h') 8 v ∧ gn h' 92 v < N
/-- the code is read from its i-th number on, k are left -/
noncomputable def RD (h0 h : pm_H) (N i k : Nat) (l : Nat → Nat) : Prop := HH h ∧ fr_g DM h0 h ∧ (∀ v, v < N → gi h 94 v = nJ (l v)) ∧ (∀ v, v < N → l v = 0 ∨ l v = 1 + ocr (gn h0 95) v k i) ∧ (∀ j, i ≤ j → j < i + k → l (gn h0 95 j) ≠ 0) ∧ sm l N = 2 * k + 2 ∧ lc l N = k + 2 ∧ (∀ q, q < 2 * i → gn h 96 q < N) ∧ ∀ m, m < 512 → (∃ u v, u < N ∧ v < N ∧ isB m u = true ∧ isB m v = false) → (∃ q, q < 2 * i ∧ isB m (gn h 96 q) ≠ isB m (gn h 96 (xr q))) ∨ ∃ u v, u < N ∧ v < N ∧ l u ≠ 0 ∧ l v ≠ 0 ∧ isB m u = true ∧ isB m v = false
theorem xr_even (i : Nat) : xr (2 * i) = 2 * i + 1 := if_pos (by omega)
theorem ne_bool {a b : Bool} (h : a ≠ b) : (a = true ∧ b = false) ∨ (a = false ∧ b = true) := by
  cases a <;> cases b <;> simp_all
theorem RD_step {h0 h : pm_H} {N i k x : Nat} {l : Nat → Nat} (hN9 : N ≤ 9) (hik : i + (k + 1) = N - 2) (hc : gn h0 95 i < N) (R : RD h0 h N i (k + 1) l) (hx : x < N) (hl : l x = 1) :
    RD h0 (pt (pt (pt (pt h 96 (2 * i) (nJ x)) 96 (2 * i + 1) (nJ (gn h0 95 i))) 94 x (nJ 0)) 94 (gn h0 95 i) (nJ (l (gn h0 95 i) - 1))) N (i + 1) k (fu (fu l x 0) (gn h0 95 i) (l (gn h0 95 i) - 1)) := by
  obtain ⟨r1, r2, r3, r4, r5, r6, r7, r8, r9⟩ := R
  generalize hcc : gn h0 95 i = c at hc ⊢
  have hlc : l c = 1 + ocr (gn h0 95) c (k + 1) i := by
    have := r5 i (Nat.le_refl _) (by omega)
    rw [hcc] at this
    cases r4 c hc with
    | inl e => exact absurd e this
    | inr e => exact e
  have hoc : ocr (gn h0 95) c (k + 1) i = 1 + ocr (gn h0 95) c k (i + 1) := by
    show (if gn h0 95 i = c then 1 else 0) + _ = _
    rw [if_pos hcc]
  have hxc : x ≠ c := fun e => by rw [e] at hl; omega
  have hb8 := ocr_le (gn h0 95) c k (i + 1)
  have hox : ocr (gn h0 95) x (k + 1) i = 0 := by
    cases r4 x hx with
    | inl e => omega
    | inr e => omega
  have hh1 : HH (pt h 96 (2 * i) (nJ x)) := HH_ptn r1 (bd_u rfl (by omega)) (by omega) (by omega) (by omega)
  have hh2 : HH (pt (pt h 96 (2 * i) (nJ x)) 96 (2 * i + 1) (nJ c)) := HH_ptn hh1 (bd_u rfl (by omega)) (by omega) (by omega) (by omega)
  have hh3 : HH (pt (pt (pt h 96 (2 * i) (nJ x)) 96 (2 * i + 1) (nJ c)) 94 x (nJ 0)) := HH_ptn hh2 (bd_u rfl (by omega)) (by omega) (by omega) (by omega)
  have hh4 : HH (pt (pt (pt (pt h 96 (2 * i) (nJ x)) 96 (2 * i + 1) (nJ c)) 94 x (nJ 0)) 94 c (nJ (l c - 1))) := HH_ptn hh3 (bd_u rfl (by omega)) (by omega) (by omega) (by omega)
  have e96 : ∀ q, gn (pt (pt (pt (pt h 96 (2 * i) (nJ x)) 96 (2 * i + 1) (nJ c)) 94 x (nJ 0)) 94 c (nJ (l c - 1))) 96 q = gn (pt (pt h 96 (2 * i) (nJ x)) 96 (2 * i + 1) (nJ c)) 96 q := fun q => by rw [gn_ne (by first | exact gxx rfl | omega), gn_ne (by first | exact gxx rfl | omega)]
  have eA : gn (pt (pt h 96 (2 * i) (nJ x)) 96 (2 * i + 1) (nJ c)) 96 (2 * i) = x := by rw [gn_ne (by first | exact gxx rfl | omega), gn_ptn r1 (bd_u rfl (by omega)) (by omega) (by omega) (by omega)]
  have eB : gn (pt (pt h 96 (2 * i) (nJ x)) 96 (2 * i + 1) (nJ c)) 96 (2 * i + 1) = c := gn_ptn hh1 (bd_u rfl (by omega)) (by omega) (by omega) (by omega)
  have eC : ∀ q, q < 2 * i → gn (pt (pt h 96 (2 * i) (nJ x)) 96 (2 * i + 1) (nJ c)) 96 q = gn h 96 q := fun q hq => by rw [gn_ne (by first | exact gxx rfl | omega), gn_ne (by first | exact gxx rfl | omega)]
  refine ⟨hh4, fr_ptr (l := 0) (u := 8) rfl (by omega) (by omega) (fr_ptr (l := 0) (u := 8) rfl (by omega) (by omega) (fr_ptr (l := 0) (u := 17) rfl (by omega) (by omega) (fr_ptr (l := 0) (u := 17) rfl (by omega) (by omega) r2))), fun v hv => ?_, fun v hv => ?_, fun j h1 h2 => ?_, ?_, ?_, fun q hq => ?_, fun m hm hs => ?_⟩
  · by_cases e : v = c
    · rw [e, fu_same, gi_pt hh3 (bd_u rfl (by omega)) (ai_lo _) (ai_hi _)]
    · rw [fu_ne e, gi_ne (fun _ => e)]
      by_cases e2 : v = x
      · rw [e2, fu_same, gi_pt hh2 (bd_u rfl (by omega)) (ai_lo _) (ai_hi _)]
      · rw [fu_ne e2, gi_ne (fun _ => e2), gi_ne (by first | exact gxx rfl | omega), gi_ne (by first | exact gxx rfl | omega)]
        exact r3 v hv
  · by_cases e : v = c
    · rw [e, fu_same]; right; omega
    · rw [fu_ne e]
      by_cases e2 : v = x
      · rw [e2, fu_same]; exact .inl rfl
      · rw [fu_ne e2]
        have hov : ocr (gn h0 95) v (k + 1) i = ocr (gn h0 95) v k (i + 1) := by
          show (if gn h0 95 i = v then 1 else 0) + _ = _
          rw [if_neg (fun q => e (by rw [← q, hcc])), Nat.zero_add]
        rw [← hov]
        exact r4 v hv
  · have h3 := r5 j (by omega) (by omega)
    have h4 := ocr_no hox j (by omega) (by omega)
    by_cases e : gn h0 95 j = c
    · rw [e, fu_same]; omega
    · rw [fu_ne e, fu_ne h4]; exact h3
  · have s1 := sm_fu (l := fu l x 0) (v := c) (x := l c - 1) (n := N) hc
    have s2 := sm_fu (l := l) (v := x) (x := 0) (n := N) hx
    rw [fu_ne (Ne.symm hxc)] at s1
    omega
  · have s2 := lc_fu0 (l := l) (v := x) (by omega) (n := N) hx
    rw [lc_fu1 (by rw [fu_ne (Ne.symm hxc)]; omega) (by omega)]
    omega
  · rw [e96]
    by_cases h1 : q = 2 * i
    · rw [h1, eA]; exact hx
    · by_cases h2 : q = 2 * i + 1
      · rw [h2, eB]; exact hc
      · rw [eC q (by omega)]; exact r8 q (by omega)
  · cases r9 m hm hs with
    | inl e =>
      obtain ⟨q, q1, q2⟩ := e
      have q3 := xr_lt q1
      exact .inl ⟨q, by omega, by rw [e96, e96, eC q q1, eC _ q3]; exact q2⟩
    | inr e =>
      obtain ⟨u, v, u1, v1, u2, v2, u3, v3⟩ := e
      by_cases hxb : isB m x = isB m c
      · right
        have key : ∀ u, u < N → l u ≠ 0 → ∃ u', u' < N ∧ fu (fu l x 0) c (l c - 1) u' ≠ 0 ∧ isB m u' = isB m u := by
          intro u u1 u2
          by_cases hu : u = x
          · exact ⟨c, hc, by rw [fu_same]; omega, by rw [hu]; exact hxb.symm⟩
          · by_cases huc : u = c
            · exact ⟨c, hc, by rw [fu_same]; omega, by rw [huc]⟩
            · exact ⟨u, u1, by rw [fu_ne huc, fu_ne hu]; exact u2, rfl⟩
        obtain ⟨u', a1, a2, a3⟩ := key u u1 u2
        obtain ⟨v', b1, b2, b3⟩ := key v v1 v2
        exact ⟨u', v', a1, b1, a2, b2, by rw [a3]; exact u3, by rw [b3]; exact v3⟩
      · exact .inl ⟨2 * i, by omega, by rw [e96, e96, xr_even, eA, eB]; exact hxb⟩
theorem RD_end {h0 h : pm_H} {N a b : Nat} {l : Nat → Nat} (hN2 : 2 ≤ N) (hN9 : N ≤ 9) (R : RD h0 h N (N - 2) 0 l) (ha : a < N) (hb : b < N) (hab : a ≠ b) (hla : l a = 1) (hlb : l b = 1) : HH (pt (pt h 96 (2 * (N - 2)) (nJ a)) 96 (2 * (N - 2) + 1) (nJ b)) ∧ fr_g DM h0 (pt (pt h 96 (2 * (N - 2)) (nJ a)) 96 (2 * (N - 2) + 1) (nJ b)) ∧ (∀ k, k < 2 * (N - 1) → gn (pt (pt h 96 (2 * (N - 2)) (nJ a)) 96 (2 * (N - 2) + 1) (nJ b)) 96 k < N) ∧ CNx (pt (pt h 96 (2 * (N - 2)) (nJ a)) 96 (2 * (N - 2) + 1) (nJ b)) N := by
  obtain ⟨r1, r2, r3, r4, r5, r6, r7, r8, r9⟩ := R
  have hh1 : HH (pt h 96 (2 * (N - 2)) (nJ a)) := HH_ptn r1 (bd_u rfl (by omega)) (by omega) (by omega) (by omega)
  have hh2 : HH (pt (pt h 96 (2 * (N - 2)) (nJ a)) 96 (2 * (N - 2) + 1) (nJ b)) := HH_ptn hh1 (bd_u rfl (by omega)) (by omega) (by omega) (by omega)
  have eA : gn (pt (pt h 96 (2 * (N - 2)) (nJ a)) 96 (2 * (N - 2) + 1) (nJ b)) 96 (2 * (N - 2)) = a := by rw [gn_ne (by first | exact gxx rfl | omega), gn_ptn r1 (bd_u rfl (by omega)) (by omega) (by omega) (by omega)]
  have eB : gn (pt (pt h 96 (2 * (N - 2)) (nJ a)) 96 (2 * (N - 2) + 1) (nJ b)) 96 (2 * (N - 2) + 1) = b := gn_ptn hh1 (bd_u rfl (by omega)) (by omega) (by omega) (by omega)
  have eC : ∀ q, q < 2 * (N - 2) → gn (pt (pt h 96 (2 * (N - 2)) (nJ a)) 96 (2 * (N - 2) + 1) (nJ b)) 96 q = gn h 96 q := fun q hq => by rw [gn_ne (by first | exact gxx rfl | omega), gn_ne (by first | exact gxx rfl | omega)]
  refine ⟨hh2, fr_ptr (l := 0) (u := 17) rfl (by omega) (by omega) (fr_ptr (l := 0) (u := 17) rfl (by omega) (by omega) r2), fun q hq => ?_, fun m hm h0 hv => ?_⟩
  · by_cases h1 : q = 2 * (N - 2)
    · rw [h1, eA]; exact ha
    · by_cases h2 : q = 2 * (N - 2) + 1
      · rw [h2, eB]; exact hb
      · rw [eC q (by omega)]; exact r8 q (by omega)
  · obtain ⟨v, v1, v2⟩ := hv
    have key : ∃ q, q < 2 * (N - 1) ∧ isB m (gn (pt (pt h 96 (2 * (N - 2)) (nJ a)) 96 (2 * (N - 2) + 1) (nJ b)) 96 q) ≠ isB m (gn (pt (pt h 96 (2 * (N - 2)) (nJ a)) 96 (2 * (N - 2) + 1) (nJ b)) 96 (xr q)) := by
      cases r9 m hm ⟨0, v, by omega, v1, h0, v2⟩ with
      | inl e =>
        obtain ⟨q, q1, q2⟩ := e
        have q3 := xr_lt q1
        exact ⟨q, by omega, by rw [eC q q1, eC _ q3]; exact q2⟩
      | inr e =>
        obtain ⟨u, w, u1, w1, u2, w2, u3, w3⟩ := e
        have only : ∀ u, u < N → l u ≠ 0 → u = a ∨ u = b := by
          intro u u1 u2
          by_cases h1 : u = a
          · exact .inl h1
          · by_cases h2 : u = b
            · exact .inr h2
            · exfalso
              have s1 := lc_fu0 (l := l) (v := a) (by omega) (n := N) ha
              have s2 := lc_fu0 (l := fu l a 0) (v := b) (by rw [fu_ne (Ne.symm hab)]; omega) (n := N) hb
              have s3 := lc_zero (l := fu (fu l a 0) b 0) (n := N) (by omega) u u1
              rw [fu_ne h2, fu_ne h1] at s3
              exact u2 s3
        refine ⟨2 * (N - 2), by omega, ?_⟩
        rw [xr_even, eA, eB]
        cases only u u1 u2 with
        | inl e1 => cases only w w1 w2 with
          | inl e2 => rw [e1] at u3; rw [e2, u3] at w3; cases w3
          | inr e2 => rw [← e1, ← e2, u3, w3]; decide
        | inr e1 => cases only w w1 w2 with
          | inl e2 => rw [← e1, ← e2, u3, w3]; decide
          | inr e2 => rw [e1] at u3; rw [e2, u3] at w3; cases w3
    obtain ⟨q, q1, q2⟩ := key
    cases ne_bool q2 with
    | inl e => exact ⟨q, q1, e.1, e.2⟩
    | inr e => exact ⟨xr q, xr_lt q1, e.2, by rw [xr_xr]; exact e.1⟩
theorem rd_s1 {d N : Nat} {h : pm_H} {l : Nat → Nat} {Q : pm_H → Option Value → Prop} {e i s y : Nat} (hh : HH h) (hN9 : N ≤ 9) (hl : ∀ v, v < N → gi h 94 v = nJ (l v)) (hl8 : ∀ v, v < N → l v < 100) (hy : y < N) (hly : l y = 1) (K : ∀ {x : Nat} (lv : List (Nat × Value)), x < N → s ≤ x → l x = 1 → (∀ v, s ≤ v → v < x → ¬ l v = 1) → pm_get lv 0 = some (.ref 77) → pm_get lv 1 = some (.int (nJ N)) → pm_get lv 2 = some (.int (nJ e)) → pm_get lv 3 = some (.int (nJ i)) → pm_get lv 4 = some (.int (nJ x)) → Ends (pm_at tX9_reads0) (pm_Rt pm_P (d + 2)) (81, lv, [], h, 0, 0) Q) (j : Nat) : ∀ {x : Nat} (lv : List (Nat × Value)), x + j = y → s ≤ x → (∀ v, s ≤ v → v < x → ¬ l v = 1) → pm_get lv 0 = some (.ref 77) → pm_get lv 1 = some (.int (nJ N)) → pm_get lv 2 = some (.int (nJ e)) → pm_get lv 3 = some (.int (nJ i)) → pm_get lv 4 = some (.int (nJ x)) → Ends (pm_at tX9_reads0) (pm_Rt pm_P (d + 2)) (64, lv, [], h, 0, 0) Q := by
  induction j with
  | zero =>
    intro x lv hj hbs hbe L0 L1 L2 L3 L4
    have hxy : x = y := by omega
    subst hxy
    have hlx := hl8 x (by omega)
    refine E_al rfl L0 ?_
    refine E_gr rfl hh (q := 94) rfl ?_
    refine E_il rfl L4 ?_
    refine E_ial rfl hh rfl (by omega) (by decide) (show gi h 94 x = nJ ((l x)) from hl x (by omega)) ?_
    refine E_ci 1 rfl ci1 ?_
    refine E_icT rfl (decide_eq_true ((nJ_eq (by omega) (by omega)).mpr hly)) ?_
    exact K lv (by omega) hbs hly hbe L0 L1 L2 L3 L4
  | succ j ih =>
    intro x lv hj hbs hbe L0 L1 L2 L3 L4
    have hlx := hl8 x (by omega)
    refine E_al rfl L0 ?_
    refine E_gr rfl hh (q := 94) rfl ?_
    refine E_il rfl L4 ?_
    refine E_ial rfl hh rfl (by omega) (by decide) (show gi h 94 x = nJ ((l x)) from hl x (by omega)) ?_
    refine E_ci 1 rfl ci1 ?_
    by_cases hb1 : l x = 1
    · refine E_icT rfl (decide_eq_true ((nJ_eq (by omega) (by omega)).mpr hb1)) ?_
      exact K lv (by omega) hbs hb1 hbe L0 L1 L2 L3 L4
    · refine E_icF rfl (decide_eq_false (fun q => hb1 ((nJ_eq (by omega) (by omega)).mp q))) ?_
      refine E_inc rfl L4 (nJ_inc _) (fun lv2 L2_4 kp2 => ?_)
      have L2_0 := kp2 0 _ (nbz rfl) rfl L0
      have L2_1 := kp2 1 _ (nbz rfl) rfl L1
      have L2_2 := kp2 2 _ (nbz rfl) rfl L2
      have L2_3 := kp2 3 _ (nbz rfl) rfl L3
      refine E_goto rfl ?_
      exact ih lv2 (by omega) (by omega) (fun v h1 h2 => by by_cases e : v = x; (· subst e; exact hb1); (· exact hbe v h1 (by omega))) L2_0 L2_1 L2_2 L2_3 L2_4
end
