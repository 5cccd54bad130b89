section
/-! the ring, exactly (wants u67b, u69) -/
/-- what is wanted on the ring, shifted -/
noncomputable def WSh (h : pm_H) (s c : Nat) : Nat := (W9 h c - 1 + s) % (P9 h + 1) + 1
noncomputable def RSp (h : pm_H) (s i : Nat) : Nat := spt 3 (P9 h + 1) (2 ^ N9 h - 1) (WSh h s) i
noncomputable def RTk (h : pm_H) (s n : Nat) : Nat := tk 3 (P9 h + 1) (2 ^ N9 h - 1) (WSh h s) n
noncomputable def RHd (h : pm_H) (s n q : Nat) : Nat := hd 3 (P9 h + 1) (2 ^ N9 h - 1) (WSh h s) n q
theorem WSh_b {h : pm_H} {s c : Nat} : 1 ≤ WSh h s c ∧ WSh h s c ≤ P9 h + 1 := by
  have := Nat.mod_lt (W9 h c - 1 + s) (show P9 h + 1 > 0 by omega)
  unfold WSh
  omega
theorem WSh0 {h : pm_H} (B : B9 h) {c : Nat} (hc : c < N9 h) : WSh h 0 c = W9 h c := by
  have := B c hc
  unfold WSh
  rw [Nat.mod_eq_of_lt (by omega)]
  omega
theorem ff_fu {m p : Nat} : ∀ {j q : Nat}, p < q + j → ff m p (j + 1) q = ff m p j q
  | 0, q, hq => by
    show (if q ≤ p then _ else 0) = 0
    rw [if_neg (by omega)]
  | j + 1, q, hq => by
    show (if q ≤ p then (if isB m (q - 1) = false then q else ff m p (j + 1) (q + 1)) else 0) = (if q ≤ p then (if isB m (q - 1) = false then q else ff m p j (q + 1)) else 0)
    rw [ff_fu (j := j) (q := q + 1) (by omega)]
theorem all_bit : ∀ N : Fin 9, ∀ n : Fin 9, n.val < N.val → isB (2 ^ N.val - 1) n.val = true := by decide +kernel
theorem pcn_ad {p m q : Nat} (hp : p ≤ 9) (hm : m < 512) (ok : okS p m q) : pcn (ad m q) p ≤ pcn m p + 1 := by
  unfold ad
  rcases ok with e | ⟨e1, e2, e3⟩
  · rw [if_pos e]; omega
  · rw [if_neg (by omega), pcn_add hm (by omega) e3 hp]
    split <;> omega
theorem pcn_tk {l p s : Nat} {W : Nat → Nat} (hp : p ≤ 9) : ∀ {n : Nat}, (∀ c, c < n → 1 ≤ W c ∧ W c ≤ p) → pcn (tk l p s W n) p ≤ n
  | 0, _ => by rw [show tk l p s W 0 = 0 from rfl, pcn_zero]; omega
  | n + 1, V => by
    have ih := pcn_tk (l := l) (s := s) hp (n := n) (W := W) (fun c hc => V c (by omega))
    have tl : tk l p s W n < 512 := Nat.lt_of_lt_of_le (tk_lt hp (fun i hi => V i (by omega))) (Nat.le_trans (Nat.pow_le_pow_right (n := 2) (by omega) hp) (by decide))
    have := pcn_ad hp tl (spt_ok (l := l) (s := s) (W := W) (V n (by omega)).1 (V n (by omega)).2)
    rw [tk_s]
    omega
theorem ff_none {m p : Nat} : ∀ {j q : Nat}, 1 ≤ q → p < q + j → ff m p j q = 0 → ∀ k, q ≤ k → k ≤ p → isB m (k - 1) = true
  | 0, q, _, hq, _, k, h1, h2 => by omega
  | j + 1, q, q1, hq, e, k, h1, h2 => by
    have es : ff m p (j + 1) q = if q ≤ p then (if isB m (q - 1) = false then q else ff m p j (q + 1)) else 0 := rfl
    rw [if_pos (show q ≤ p by omega)] at es
    by_cases b : isB m (q - 1) = false
    · rw [if_pos b] at es
      omega
    · rw [if_neg b] at es
      by_cases z : k = q
      · rw [z]
        cases b' : isB m (q - 1)
        · exact absurd b' b
        · rfl
      · exact ff_none (j := j) (q := q + 1) (by omega) (by omega) (by rw [← es]; exact e) k (by omega) h2
/-- someone finds a place on a ring with one place more than cars -/
theorem ff_some {m p : Nat} (hp : p ≤ 9) (h : pcn m p < p) : ¬ ff m p 10 1 = 0 := by
  intro e
  have a := ff_none (m := m) (p := p) (j := 10) (q := 1) (by omega) (by omega) e
  have : ∀ n, n ≤ p → pcn m n = n := by
    intro n
    induction n with
    | zero => intro _; rfl
    | succ n ih =>
      intro hn
      have b := a (n + 1) (by omega) hn
      rw [show n + 1 - 1 = n by omega] at b
      show pcn m n + (if isB m n = true then 1 else 0) = n + 1
      rw [if_pos b, ih (by omega)]
  have := this p (Nat.le_refl p)
  omega
theorem sf3 {m p w : Nat} (hp : p ≤ 9) (w1 : 1 ≤ w) (wp : w ≤ p) : sf 3 p m w = if ff m p 10 w = 0 then ff m p 10 1 else ff m p 10 w := by
  have es : ff m p 10 w = if w ≤ p then (if isB m (w - 1) = false then w else ff m p 9 (w + 1)) else 0 := rfl
  rw [if_pos wp] at es
  have fu : ff m p 10 (w + 1) = ff m p 9 (w + 1) := ff_fu (by omega)
  unfold sf
  by_cases a : isB m (w - 1) = false
  · rw [if_pos a] at es
    rw [if_pos a, es, if_neg (by omega)]
  · rw [if_neg a] at es
    rw [if_neg a, if_neg (fun q => absurd q.1 (by omega)), if_neg (by omega), fu, ← es]
    by_cases z : ff m p 10 w = 0
    · rw [if_pos ⟨z, rfl⟩, if_pos z]
    · rw [if_neg (fun q => z q.1), if_neg z]
section RNG
variable {h h2 : pm_H} {d : Nat}
noncomputable def QRF : List Rng := [(90, 0, 9), (91, 0, 7)]
/-- the reference looks round the ring -/
theorem rn_walk {g : pm_H} {m r : Nat} {Q : pm_H → Option Value → Prop} (hg : HH g) (r9 : r ≤ 9) (H : HLm r m g) (lv0 : List (Nat × Value)) (K1 : ∀ (f : Nat) (lv' : List (Nat × Value)), 1 ≤ f → f ≤ r → isB m (f - 1) = false → (∀ i v, i ≠ 4 → v.category = 1 → pm_get lv0 i = some v → pm_get lv' i = some v) → pm_get lv' 4 = some (.int (nJ f)) → True) (j : Nat) : ∀ {q : Nat} (lv : List (Nat × Value)), 1 ≤ q → q ≤ r → r < q + j → (∀ i v, i ≠ 4 → v.category = 1 → pm_get lv0 i = some v → pm_get lv i = some v) → pm_get lv0 0 = some (.ref 77) → pm_get lv0 2 = some (.int (nJ r)) → pm_get lv 4 = some (.int (nJ q)) → (∀ (lv' : List (Nat × Value)), ¬ ff m r j q = 0 → (∀ i v, i ≠ 4 → v.category = 1 → pm_get lv0 i = some v → pm_get lv' i = some v) → pm_get lv' 4 = some (.int (nJ (ff m r j q))) → Ends (pm_at tX9_ringFree) (pm_Rt pm_P d) (68, lv', [], g, 0, 0) Q) → (∀ (lv' : List (Nat × Value)), ff m r j q = 0 → (∀ i v, i ≠ 4 → v.category = 1 → pm_get lv0 i = some v → pm_get lv' i = some v) → pm_get lv' 4 = some (.int (nJ 1)) → Ends (pm_at tX9_ringFree) (pm_Rt pm_P d) (46, lv', [], g, 0, 0) Q) → Ends (pm_at tX9_ringFree) (pm_Rt pm_P d) (46, lv, [], g, 0, 0) Q := by
  induction j with
  | zero => intro q lv q1 qr hj; omega
  | succ j ih =>
    intro q lv q1 qr hj kp L0 L2 L4 A C
    have es : ff m r (j + 1) q = if q ≤ r then (if isB m (q - 1) = false then q else ff m r j (q + 1)) else 0 := rfl
    rw [if_pos qr] at es
    have hq := H q q1 qr
    have M0 := kp 0 _ (by decide) rfl L0
    have M2 := kp 2 _ (by decide) rfl L2
    refine E_al rfl M0 ?_
    refine E_gr rfl hg (q := 90) rfl ?_
    refine E_il rfl L4 ?_
    refine E_ial rfl hg rfl (by omega) (by decide) rfl ?_
    refine E_c rfl ?_
    by_cases b : isB m (q - 1) = false
    · refine E_icT rfl (decide_eq_true (hq.mpr b)) ?_
      rw [if_pos b] at es
      exact A lv (by omega) kp (by rw [es]; exact L4)
    · refine E_icF rfl (decide_eq_false (fun z => b (hq.mp z))) ?_
      rw [if_neg b] at es
      refine E_il rfl L4 ?_
      refine E_il rfl M2 ?_
      refine E_div rfl (fun z => absurd ((nJ_eq0 (by omega)).mp z) (by omega)) (nJ_mod (by omega) (by omega) (by omega)) ?_
      refine E_ci 1 rfl (by decide) ?_
      refine E_bin rfl (nJ_add _ _) ?_
      refine E_is rfl (fun lv1 K4 kp1 => ?_)
      refine E_goto rfl ?_
      have kk : ∀ i v, i ≠ 4 → v.category = 1 → pm_get lv0 i = some v → pm_get lv1 i = some v := fun i v a c e => kp1 i v a c (kp i v a c e)
      by_cases y : q = r
      · rw [y, Nat.mod_self, Nat.zero_add] at K4
        have z0 : ff m r j (r + 1) = 0 := by
          cases j with
          | zero => rfl
          | succ j =>
            show (if r + 1 ≤ r then _ else 0) = 0
            rw [if_neg (by omega)]
        rw [y, z0] at es
        exact C lv1 (by rw [y]; exact es) kk K4
      · rw [Nat.mod_eq_of_lt (by omega)] at K4
        refine ih lv1 (by omega) (by omega) (by omega) kk L0 L2 K4 (fun lv' a b c => ?_) (fun lv' a b c => ?_)
        · exact A lv' (by rw [es]; exact a) b (by rw [es]; exact c)
        · exact C lv' (by rw [es]; exact a) b c
theorem rcX_loop {Q : pm_H → Option Value → Prop} (hh2 : HH h2) (j : Nat) : ∀ {g : pm_H} {k : Nat} (lv : List (Nat × Value)), k + j = 10 → HH g → fr_g QRF h2 g → (∀ q, q < k → gi g 90 q = -1) → pm_get lv 0 = some (.ref 77) → pm_get lv 3 = some (.int (nJ k)) → (∀ (g' : pm_H) (lv' : List (Nat × Value)), HH g' → fr_g QRF h2 g' → (∀ q, q ≤ 9 → gi g' 90 q = -1) → (∀ i v, i ≠ 3 → v.category = 1 → pm_get lv i = some v → pm_get lv' i = some v) → pm_get lv' 3 = some (.int (nJ 0)) → Ends (pm_at tX9_ringFree) (pm_Rt pm_P d) (30, lv', [], g', 0, 0) Q) → Ends (pm_at tX9_ringFree) (pm_Rt pm_P d) (9, lv, [], g, 0, 0) Q := by
  induction j with
  | zero =>
    intro g k lv hj hg hf g2 L0 L3 kk
    refine E_il rfl L3 ?_
    refine E_ci 10 rfl (by decide) ?_
    refine E_icT rfl (decide_eq_true ((nJ_le (by omega) (by omega)).mpr (by omega))) ?_
    refine E_ci 0 rfl (by decide) ?_
    refine E_is rfl (fun lv1 K3 kp => ?_)
    exact kk g lv1 hg hf (fun q hq => g2 q (by omega)) (fun i v a c e => kp i v a c e) K3
  | succ j ih =>
    intro g k lv hj hg hf g2 L0 L3 kk
    refine E_il rfl L3 ?_
    refine E_ci 10 rfl (by decide) ?_
    refine E_icF rfl (decide_eq_false (fun z => absurd ((nJ_le (by omega) (by omega)).mp z) (by omega))) ?_
    refine E_al rfl L0 ?_
    refine E_gr rfl hg (q := 90) rfl ?_
    refine E_il rfl L3 ?_
    refine E_c rfl ?_
    refine E_ias rfl hg rfl (by omega) (by decide) ?_
    have b : bd 90 k = some (-1, 7) := bd_u rfl (by omega)
    refine E_inc rfl L3 (nJ_inc _) (fun lv1 K3 kp => ?_)
    refine E_goto rfl ?_
    refine ih lv1 (by omega) (HH_pt hg b (by decide) (by decide)) (fr_ptr (l := 0) (u := 9) rfl (by omega) (by omega) hf) (fun q hq => ?_) (kp 0 _ (by decide) rfl L0) K3 (fun g' lv' a1 a2 a3 a4 a5 => kk g' lv' a1 a2 a3 (fun i v x c e => a4 i v x c (kp i v x c e)) a5)
    by_cases e : q = k
    · rw [e]; exact gi_pt hg b (by decide) (by decide)
    · rw [gi_ne (fun _ => e)]; exact g2 q (by omega)
theorem rl_find {g : pm_H} {m r : Nat} (hg : HH g) (r9 : r ≤ 9) (H : HLm r m g) (j : Nat) : ∀ {q : Nat} (lv : List (Nat × Value)), 1 ≤ q → q ≤ r + 1 → r < q + j → pm_get lv 0 = some (.ref 77) → pm_get lv 2 = some (.int (nJ r)) → pm_get lv 3 = some (.int (nJ q)) → Ends (pm_at tX9_ringFree) (pm_Rt pm_P d) (92, lv, [], g, 0, 0) (fun h' v => h' = g ∧ v = some (.int (pO (ff m r j q)))) := by
  have no : ∀ {q j : Nat} (lv : List (Nat × Value)), r < q → Ends (pm_at tX9_ringFree) (pm_Rt pm_P d) (115, lv, [], g, 0, 0) (fun h' v => h' = g ∧ v = some (.int (pO (ff m r j q)))) := by
    intro q j lv hq
    have z0 : ff m r j q = 0 := by
      cases j with
      | zero => rfl
      | succ j =>
        show (if q ≤ r then _ else 0) = 0
        rw [if_neg (by omega)]
    rw [z0]
    refine E_c rfl ?_
    exact E_rti rfl ⟨rfl, rfl⟩
  induction j with
  | zero =>
    intro q lv q1 qr hj L0 L2 L3
    refine E_il rfl L3 ?_
    refine E_il rfl L2 ?_
    refine E_icT rfl (decide_eq_true ((nJ_lt (by omega) (by omega)).mpr (by omega))) ?_
    exact no lv (by omega)
  | succ j ih =>
    intro q lv q1 qr hj L0 L2 L3
    refine E_il rfl L3 ?_
    refine E_il rfl L2 ?_
    by_cases y : r < q
    · refine E_icT rfl (decide_eq_true ((nJ_lt (by omega) (by omega)).mpr y)) ?_
      exact no lv y
    refine E_icF rfl (decide_eq_false (fun z => y ((nJ_lt (by omega) (by omega)).mp z))) ?_
    have es : ff m r (j + 1) q = if q ≤ r then (if isB m (q - 1) = false then q else ff m r j (q + 1)) else 0 := rfl
    rw [if_pos (show q ≤ r by omega)] at es
    have hq := H q q1 (by omega)
    refine E_al rfl L0 ?_
    refine E_gr rfl hg (q := 90) rfl ?_
    refine E_il rfl L3 ?_
    refine E_ial rfl hg rfl (by omega) (by decide) rfl ?_
    refine E_c rfl ?_
    by_cases b : isB m (q - 1) = false
    · refine E_icF rfl (decide_eq_false (fun z => z (hq.mpr b))) ?_
      rw [if_pos b] at es
      refine E_il rfl L3 ?_
      exact E_rti rfl ⟨rfl, by rw [es]; unfold pO; rw [if_neg (by omega)]⟩
    · refine E_icT rfl (decide_eq_true (fun z => b (hq.mp z))) ?_
      rw [if_neg b] at es
      rw [es]
      refine E_inc rfl L3 (nJ_inc _) (fun lv1 K3 kp => ?_)
      refine E_goto rfl ?_
      exact ih lv1 (by omega) (by omega) (by omega) (kp 0 _ (by decide) rfl L0) (kp 2 _ (by decide) rfl L2) K3
theorem rgX_loop {s : Nat} (hh : HH h) (cp : N9 h ≤ P9 h) (hs : s ≤ P9 h) (T : LY9 h h2) (B : B9 h) (j : Nat) : ∀ {g : pm_H} {c : Nat} (lv : List (Nat × Value)), c + j = N9 h → HH g → fr_g QRF h2 g → (∀ q, q ≤ 9 → gi g 90 q = pI (RHd h s c q)) → (∀ i, i < c → gi g 91 i = nJ (RSp h s i)) → pm_get lv 0 = some (.ref 77) → pm_get lv 1 = some (.int (nJ s)) → pm_get lv 2 = some (.int (nJ (P9 h + 1))) → pm_get lv 3 = some (.int (nJ c)) → Ends (pm_at tX9_ringFree) (pm_Rt pm_P (d + 2)) (30, lv, [], g, 0, 0) (fun h' v => HH h' ∧ fr_g QRF h2 h' ∧ (∀ i, i < N9 h → gi h' 91 i = nJ (RSp h s i)) ∧ v = some (.int (pO (ff (RTk h s (N9 h)) (P9 h + 1) 10 1)))) := by
  obtain ⟨l3, p8, n8⟩ := g9s hh
  obtain ⟨hh2, u0, u3, u9⟩ := T
  have Vb : ∀ n, ∀ c, c < n → 1 ≤ WSh h s c ∧ WSh h s c ≤ P9 h + 1 := fun n c _ => WSh_b
  have HL : ∀ {g : pm_H} {c : Nat}, c ≤ N9 h → (∀ q, q ≤ 9 → gi g 90 q = pI (RHd h s c q)) → HLm (P9 h + 1) (RTk h s c) g := by
    intro g c hc gq q q1 qr
    have h9 := hd_le (l := 3) (p := P9 h + 1) (s := 2 ^ N9 h - 1) (W := WSh h s) (q := q) c
    have h9' : RHd h s c q ≤ c := h9
    rw [gq q (by omega), pI_n1 (by omega)]
    exact hd_free (by omega) (Vb c) q q1 (by omega)
  induction j with
  | zero =>
    intro g c lv hj hg hf gq gs L0 L1 L2 L3
    refine E_il rfl L3 ?_
    refine E_al rfl L0 ?_
    refine E_call rfl (Sp_le (by omega) (sp_cars (d := d) hg)) (chk77 hg rfl rfl (by show 1 ≤ 8; decide)) (fun h1 r1 => ?_)
    rintro ⟨e1, f1, -⟩
    rw [e1, f1, show gn g 84 3 = N9 h from (fr_gn hf (rg_no rfl _)).trans u3]
    refine E_icT rfl (decide_eq_true ((nJ_le (by omega) (by omega)).mpr (by omega))) ?_
    refine E_ci 1 rfl (by decide) ?_
    refine E_is rfl (fun lv1 K3 kp => ?_)
    have e : c = N9 h := by omega
    rw [e] at gq gs
    refine Ends_mono ?_ (rl_find hg (show P9 h + 1 ≤ 9 by omega) (HL (Nat.le_refl _) gq) 10 (q := 1) lv1 (by omega) (by omega) (by omega) (kp 0 _ (by decide) rfl L0) (kp 2 _ (by decide) rfl L2) K3)
    rintro h' v ⟨rfl, ev⟩
    exact ⟨hg, hf, gs, ev⟩
  | succ j ih =>
    intro g c lv hj hg hf gq gs L0 L1 L2 L3
    have hc : c < N9 h := by omega
    have b89 : 1 ≤ gn g 89 c := by rw [fr_gn hf (rg_no rfl _), u9 c hc]; exact (B c hc).1
    have w89 : gn g 89 c = W9 h c := by rw [fr_gn hf (rg_no rfl _), u9 c hc]
    have p84 : gn g 84 0 = P9 h := (fr_gn hf (rg_no rfl _)).trans u0
    refine E_il rfl L3 ?_
    refine E_al rfl L0 ?_
    refine E_call rfl (Sp_le (by omega) (sp_cars (d := d) hg)) (chk77 hg rfl rfl (by show 1 ≤ 8; decide)) (fun h1 r1 => ?_)
    rintro ⟨e1, f1, -⟩
    rw [e1, f1, show gn g 84 3 = N9 h from (fr_gn hf (rg_no rfl _)).trans u3]
    refine E_icF rfl (decide_eq_false (fun z => absurd ((nJ_le (by omega) (by omega)).mp z) (by omega))) ?_
    refine E_al rfl L0 ?_
    refine E_il rfl L3 ?_
    refine E_il rfl L1 ?_
    refine E_call rfl (sp_shiftedOf (d := d) hg (by omega) (by omega) b89) (chk77 hg rfl rfl (by show 0 ≤ 8; decide)) (fun h3 r3 => ?_)
    rintro ⟨e3, f3⟩
    rw [e3, f3, w89, p84, show (W9 h c - 1 + s) % (P9 h + 1) + 1 = WSh h s c from rfl]
    refine E_is rfl (fun lv1 K4 kp => ?_)
    have wb := WSh_b (h := h) (s := s) (c := c)
    have tl : RTk h s c < 512 := Nat.lt_of_lt_of_le (tk_lt (by omega) (Vb c)) (Nat.le_trans (Nat.pow_le_pow_right (n := 2) (by omega) (show P9 h + 1 ≤ 9 by omega)) (by decide))
    have bt := all_bit ⟨N9 h, by omega⟩ ⟨c, by omega⟩ hc
    have es : RSp h s c = if ff (RTk h s c) (P9 h + 1) 10 (WSh h s c) = 0 then ff (RTk h s c) (P9 h + 1) 10 1 else ff (RTk h s c) (P9 h + 1) 10 (WSh h s c) := by
      rw [← sf3 (by omega) wb.1 wb.2]
      show (if isB (2 ^ N9 h - 1) c = true then _ else 0) = _
      rw [if_pos bt]
      rfl
    have ok : okS (P9 h + 1) (RTk h s c) (RSp h s c) := spt_ok wb.1 wb.2
    have nz : ¬ ff (RTk h s c) (P9 h + 1) 10 1 = 0 := ff_some (by omega) (by have := pcn_tk (l := 3) (s := 2 ^ N9 h - 1) (p := P9 h + 1) (W := WSh h s) (n := c) (by omega) (Vb c); show pcn (tk _ _ _ _ _) _ < _; omega)
    have kp1 : ∀ i v, i ≠ 4 → v.category = 1 → pm_get lv1 i = some v → pm_get lv1 i = some v := fun _ _ _ _ e => e
    have set : ∀ (lv' : List (Nat × Value)), (∀ i v, i ≠ 4 → v.category = 1 → pm_get lv1 i = some v → pm_get lv' i = some v) → ¬ RSp h s c = 0 → pm_get lv' 4 = some (.int (nJ (RSp h s c))) → Ends (pm_at tX9_ringFree) (pm_Rt pm_P (d + 2)) (68, lv', [], g, 0, 0) (fun h' v => HH h' ∧ fr_g QRF h2 h' ∧ (∀ i, i < N9 h → gi h' 91 i = nJ (RSp h s i)) ∧ v = some (.int (pO (ff (RTk h s (N9 h)) (P9 h + 1) 10 1)))) := by
      intro lv' kk z M4
      have M0 := kk 0 _ (by decide) rfl (kp 0 _ (by decide) rfl L0)
      have M1 := kk 1 _ (by decide) rfl (kp 1 _ (by decide) rfl L1)
      have M2 := kk 2 _ (by decide) rfl (kp 2 _ (by decide) rfl L2)
      have M3 := kk 3 _ (by decide) rfl (kp 3 _ (by decide) rfl L3)
      obtain ⟨q1, qp, -⟩ : 1 ≤ RSp h s c ∧ RSp h s c ≤ P9 h + 1 ∧ _ := by rcases ok with e | e; exact absurd e z; exact e
      refine E_al rfl M0 ?_
      refine E_gr rfl hg (q := 90) rfl ?_
      refine E_il rfl M4 ?_
      refine E_il rfl M3 ?_
      refine E_ias rfl hg rfl (by omega) (by decide) ?_
      have b90 : bd 90 (RSp h s c) = some (-1, 7) := bd_u rfl (by omega)
      have hk : HH (pt g 90 (RSp h s c) (nJ c)) := HH_ptn hg b90 (by omega) (by omega) (by omega)
      have fk : fr_g QRF h2 (pt g 90 (RSp h s c) (nJ c)) := fr_ptr (l := 0) (u := 9) rfl (by omega) (by omega) hf
      have m2 : ∀ q, q ≤ 9 → gi (pt g 90 (RSp h s c) (nJ c)) 90 q = pI (RHd h s (c + 1) q) := fun q hq => by
        show _ = pI (if RSp h s c = q ∧ q ≠ 0 then c + 1 else RHd h s c q)
        by_cases e : RSp h s c = q
        · rw [if_pos ⟨e, by omega⟩, ← e]
          exact gi_ptn hg b90 (by omega) (by omega) (by omega)
        · rw [if_neg (fun w => e w.1), gi_ne (fun _ w => e w.symm)]; exact gq q hq
      have m3 : ∀ i, i < c → gi (pt g 90 (RSp h s c) (nJ c)) 91 i = nJ (RSp h s i) := fun i hi => by rw [gi_ne (by omega)]; exact gs i hi
      generalize pt g 90 (RSp h s c) (nJ c) = k at hk fk m2 m3 ⊢
      refine E_al rfl M0 ?_
      refine E_gr rfl hk (q := 91) rfl ?_
      refine E_il rfl M3 ?_
      refine E_il rfl M4 ?_
      refine E_ias rfl hk rfl (by omega) (by decide) ?_
      have b91 : bd 91 c = some (-1, 9) := bd_u rfl (by omega)
      refine E_inc rfl M3 (nJ_inc _) (fun lv2 K3 kp2 => ?_)
      refine E_goto rfl ?_
      refine ih lv2 (by omega) (HH_ptn hk b91 (by omega) (by omega) (by omega)) (fr_ptr (l := 0) (u := 7) rfl (by omega) (by omega) fk) (fun q hq => by rw [gi_ne (by omega)]; exact m2 q hq) (fun i hi => ?_) (kp2 0 _ (by decide) rfl M0) (kp2 1 _ (by decide) rfl M1) (kp2 2 _ (by decide) rfl M2) K3
      by_cases e : i = c
      · rw [e]; exact gi_ptn hk b91 (by omega) (by omega) (by omega)
      · rw [gi_ne (fun _ => e)]; exact m3 i (by omega)
    have H := HL (show c ≤ N9 h by omega) gq
    refine rn_walk hg (show P9 h + 1 ≤ 9 by omega) H lv1 (fun _ _ _ _ _ _ _ => trivial) 10 lv1 wb.1 wb.2 (by omega) kp1 (kp 0 _ (by decide) rfl L0) (kp 2 _ (by decide) rfl L2) K4 (fun lv' a b c4 => ?_) (fun lv' a b c4 => ?_)
    · rw [if_neg a] at es
      exact set lv' b (by rw [es]; exact a) (by rw [es]; exact c4)
    · rw [if_pos a] at es
      refine rn_walk hg (show P9 h + 1 ≤ 9 by omega) H lv1 (fun _ _ _ _ _ _ _ => trivial) 10 (q := 1) lv' (by omega) (by omega) (by omega) b (kp 0 _ (by decide) rfl L0) (kp 2 _ (by decide) rfl L2) c4 (fun lv'' a' b' c' => ?_) (fun lv'' a' b' c' => absurd a' nz)
      exact set lv'' b' (by rw [es]; exact nz) (by rw [es]; exact c')
theorem sp_ringX {s : Nat} (hh : HH h) (cp : N9 h ≤ P9 h) (hs : s ≤ P9 h) (T : LY9 h h2) (B : B9 h) : Sp (d + 3) 336 h2 [.ref 77, .int (nJ s)] (fun h' v => HH h' ∧ fr_g QRF h2 h' ∧ (∀ i, i < N9 h → gi h' 91 i = nJ (RSp h s i)) ∧ v = some (.int (pO (ff (RTk h s (N9 h)) (P9 h + 1) 10 1)))) := by
  have T0 := T
  obtain ⟨hh2, u0, u3, u9⟩ := T
  refine Sp_of aiX9_ringFree rfl rfl rfl ?_
  have L0 : pm_get (lv_args 0 [.ref 77, .int (nJ s)]) 0 = some (.ref 77) := rfl
  have L1 : pm_get (lv_args 0 [.ref 77, .int (nJ s)]) 1 = some (.int (nJ s)) := rfl
  generalize lv_args 0 [.ref 77, .int (nJ s)] = lv at L0 L1 ⊢
  refine E_al rfl L0 ?_
  refine E_call rfl (Sp_le (by omega) (sp_places (d := d) hh2)) (chk77 hh2 rfl rfl (by show 0 ≤ 8; decide)) (fun h1 r1 => ?_)
  rintro ⟨e1, f1, -⟩
  rw [e1, f1, u0]
  refine E_ci 1 rfl (by decide) ?_
  refine E_bin rfl (nJ_add _ _) ?_
  refine E_is rfl (fun lv1 K2 kp => ?_)
  refine E_ci 0 rfl (by decide) ?_
  refine E_is rfl (fun lv2 K3 kp2 => ?_)
  refine rcX_loop hh2 10 lv2 (by omega) hh2 (fr_rf _ _) (fun q hq => absurd hq (Nat.not_lt_zero q)) (kp2 0 _ (by decide) rfl (kp 0 _ (by decide) rfl L0)) K3 (fun g' lv' a1 a2 a3 a4 a5 => ?_)
  exact rgX_loop hh cp hs T0 B (N9 h) (c := 0) lv' (by omega) a1 a2 (fun q hq => a3 q hq) (fun i hi => absurd hi (Nat.not_lt_zero i)) (a4 0 _ (by decide) rfl (kp2 0 _ (by decide) rfl (kp 0 _ (by decide) rfl L0))) (a4 1 _ (by decide) rfl (kp2 1 _ (by decide) rfl (kp 1 _ (by decide) rfl L1))) (a4 2 _ (by decide) rfl (kp2 2 _ (by decide) rfl K2)) a5
end RNG
end
section
/-! the ring turned by one (wants u73) -/
noncomputable def rtm (p T : Nat) : Nat := (2 * T) % 2 ^ p + T / 2 ^ (p - 1)
noncomputable def rt1 (p w : Nat) : Nat := if w = p then 1 else w + 1
theorem rt_tab : ∀ p : Fin 10, ∀ T : Fin (2 ^ p.val), ∀ w : Fin p.val, rtm p.val (ad T.val (sf 3 p.val T.val (w.val + 1))) = ad (rtm p.val T.val) (sf 3 p.val (rtm p.val T.val) (rt1 p.val (w.val + 1))) := by decide +kernel
theorem rb_tab : ∀ p : Fin 10, ∀ T : Fin (2 ^ p.val), ∀ k : Fin (p.val - 1), isB (rtm p.val T.val) (k.val + 1) = isB T.val k.val := by decide +kernel
theorem tk_rt {p s : Nat} {W W' : Nat → Nat} (p1 : 1 ≤ p) (p9 : p ≤ 9) : ∀ {n : Nat}, (∀ c, c < n → 1 ≤ W c ∧ W c ≤ p ∧ W' c = rt1 p (W c)) → tk 3 p s W' n = rtm p (tk 3 p s W n)
  | 0, _ => by
    show 0 = (2 * 0) % 2 ^ p + 0 / 2 ^ (p - 1)
    rw [Nat.mul_zero, Nat.zero_mod, Nat.zero_div]
  | n + 1, V => by
    have ih := tk_rt (p := p) (s := s) (W := W) (W' := W') p1 p9 (n := n) (fun c hc => V c (by omega))
    have tl : tk 3 p s W n < 2 ^ p := tk_lt p9 (fun i hi => ⟨(V i (by omega)).1, (V i (by omega)).2.1⟩)
    obtain ⟨v1, v2, v3⟩ := V n (by omega)
    show ad (tk 3 p s W' n) (if isB s n = true then sf 3 p (tk 3 p s W' n) (W' n) else 0) = rtm p (ad (tk 3 p s W n) (if isB s n = true then sf 3 p (tk 3 p s W n) (W n) else 0))
    rw [ih, v3]
    by_cases b : isB s n = true
    · rw [if_pos b, if_pos b]
      have q := rt_tab ⟨p, by omega⟩ ⟨_, tl⟩ ⟨W n - 1, show W n - 1 < p by omega⟩
      dsimp only at q
      rw [show W n - 1 + 1 = W n by omega] at q
      exact q.symm
    · rw [if_neg b, if_neg b]
      show ad _ 0 = rtm p (ad _ 0)
      unfold ad
      rw [if_pos rfl, if_pos rfl]
section TUR
variable {h : pm_H}
theorem WSh_s {s c : Nat} : WSh h (s + 1) c = rt1 (P9 h + 1) (WSh h s c) := by
  have m := Nat.mod_lt (W9 h c - 1 + s) (show P9 h + 1 > 0 by omega)
  have e : (W9 h c - 1 + (s + 1)) % (P9 h + 1) = ((W9 h c - 1 + s) % (P9 h + 1) + 1) % (P9 h + 1) := by
    rw [Nat.mod_add_mod]
    rfl
  unfold WSh rt1
  rw [e]
  by_cases b : (W9 h c - 1 + s) % (P9 h + 1) + 1 = P9 h + 1
  · rw [if_pos b, b, Nat.mod_self]
  · rw [if_neg b, Nat.mod_eq_of_lt (by omega)]
theorem RTk_lt (hh : HH h) {s n : Nat} : RTk h s n < 2 ^ (P9 h + 1) := tk_lt (by have := (g9s hh).2.1; omega) (fun _ _ => WSh_b)
theorem RTk_s (hh : HH h) {s n : Nat} : RTk h (s + 1) n = rtm (P9 h + 1) (RTk h s n) := tk_rt (by omega) (by have := (g9s hh).2.1; omega) (fun _ _ => ⟨WSh_b.1, WSh_b.2, WSh_s⟩)
/-- who shifts by s finds place k taken where place k - s was -/
theorem RTk_bit (hh : HH h) {n : Nat} : ∀ {s k : Nat}, s ≤ k → k ≤ P9 h → isB (RTk h s n) k = isB (RTk h 0 n) (k - s)
  | 0, _, _, _ => rfl
  | s + 1, k, h1, h2 => by
    have p8 := (g9s hh).2.1
    have tl := RTk_lt hh (s := s) (n := n)
    have q := rb_tab ⟨P9 h + 1, by omega⟩ ⟨_, tl⟩ ⟨k - 1, show k - 1 < P9 h + 1 - 1 by omega⟩
    dsimp only at q
    rw [show k - 1 + 1 = k by omega] at q
    rw [RTk_s hh, q]
    rw [RTk_bit hh (s := s) (k := k - 1) (by omega) (by omega), show k - 1 - s = k - (s + 1) by omega]
end TUR
end
section
/-! shifts of both (written by gen_u85.py; wants u73, u84) -/
section RNY
variable {h h2 : pm_H} {d : Nat}
theorem rgY_loop {s : Nat} (hh : HH h) (cp : N9 h ≤ P9 h) (hs : s ≤ P9 h) (T : LY9 h h2) (B : B9 h) (j : Nat) : ∀ {g : pm_H} {c : Nat} (lv : List (Nat × Value)), c + j = N9 h → HH g → fr_g QRF h2 g → (∀ q, q ≤ 9 → gi g 90 q = pI (RHd h s c q)) → (∀ i, i < c → gi g 91 i = nJ (RSp h s i)) → pm_get lv 0 = some (.ref 77) → pm_get lv 1 = some (.int (nJ s)) → pm_get lv 2 = some (.int (nJ (P9 h + 1))) → pm_get lv 3 = some (.int (nJ c)) → Ends (pm_at tX9_ringFree) (pm_Rt pm_P (d + 2)) (30, lv, [], g, 0, 0) (fun h' v => HH h' ∧ fr_g QRF h2 h' ∧ (∀ i, i < N9 h → gi h' 91 i = nJ (RSp h s i)) ∧ HLm (P9 h + 1) (RTk h s (N9 h)) h' ∧ v = some (.int (pO (ff (RTk h s (N9 h)) (P9 h + 1) 10 1)))) := by
  obtain ⟨l3, p8, n8⟩ := g9s hh
  obtain ⟨hh2, u0, u3, u9⟩ := T
  have Vb : ∀ n, ∀ c, c < n → 1 ≤ WSh h s c ∧ WSh h s c ≤ P9 h + 1 := fun n c _ => WSh_b
  have HL : ∀ {g : pm_H} {c : Nat}, c ≤ N9 h → (∀ q, q ≤ 9 → gi g 90 q = pI (RHd h s c q)) → HLm (P9 h + 1) (RTk h s c) g := by
    intro g c hc gq q q1 qr
    have h9 := hd_le (l := 3) (p := P9 h + 1) (s := 2 ^ N9 h - 1) (W := WSh h s) (q := q) c
    have h9' : RHd h s c q ≤ c := h9
    rw [gq q (by omega), pI_n1 (by omega)]
    exact hd_free (by omega) (Vb c) q q1 (by omega)
  induction j with
  | zero =>
    intro g c lv hj hg hf gq gs L0 L1 L2 L3
    refine E_il rfl L3 ?_
    refine E_al rfl L0 ?_
    refine E_call rfl (Sp_le (by omega) (sp_cars (d := d) hg)) (chk77 hg rfl rfl (by show 1 ≤ 8; decide)) (fun h1 r1 => ?_)
    rintro ⟨e1, f1, -⟩
    rw [e1, f1, show gn g 84 3 = N9 h from (fr_gn hf (rg_no rfl _)).trans u3]
    refine E_icT rfl (decide_eq_true ((nJ_le (by omega) (by omega)).mpr (by omega))) ?_
    refine E_ci 1 rfl (by decide) ?_
    refine E_is rfl (fun lv1 K3 kp => ?_)
    have e : c = N9 h := by omega
    rw [e] at gq gs
    refine Ends_mono ?_ (rl_find hg (show P9 h + 1 ≤ 9 by omega) (HL (Nat.le_refl _) gq) 10 (q := 1) lv1 (by omega) (by omega) (by omega) (kp 0 _ (by decide) rfl L0) (kp 2 _ (by decide) rfl L2) K3)
    rintro h' v ⟨rfl, ev⟩
    exact ⟨hg, hf, gs, HL (Nat.le_refl _) gq, ev⟩
  | succ j ih =>
    intro g c lv hj hg hf gq gs L0 L1 L2 L3
    have hc : c < N9 h := by omega
    have b89 : 1 ≤ gn g 89 c := by rw [fr_gn hf (rg_no rfl _), u9 c hc]; exact (B c hc).1
    have w89 : gn g 89 c = W9 h c := by rw [fr_gn hf (rg_no rfl _), u9 c hc]
    have p84 : gn g 84 0 = P9 h := (fr_gn hf (rg_no rfl _)).trans u0
    refine E_il rfl L3 ?_
    refine E_al rfl L0 ?_
    refine E_call rfl (Sp_le (by omega) (sp_cars (d := d) hg)) (chk77 hg rfl rfl (by show 1 ≤ 8; decide)) (fun h1 r1 => ?_)
    rintro ⟨e1, f1, -⟩
    rw [e1, f1, show gn g 84 3 = N9 h from (fr_gn hf (rg_no rfl _)).trans u3]
    refine E_icF rfl (decide_eq_false (fun z => absurd ((nJ_le (by omega) (by omega)).mp z) (by omega))) ?_
    refine E_al rfl L0 ?_
    refine E_il rfl L3 ?_
    refine E_il rfl L1 ?_
    refine E_call rfl (sp_shiftedOf (d := d) hg (by omega) (by omega) b89) (chk77 hg rfl rfl (by show 0 ≤ 8; decide)) (fun h3 r3 => ?_)
    rintro ⟨e3, f3⟩
    rw [e3, f3, w89, p84, show (W9 h c - 1 + s) % (P9 h + 1) + 1 = WSh h s c from rfl]
    refine E_is rfl (fun lv1 K4 kp => ?_)
    have wb := WSh_b (h := h) (s := s) (c := c)
    have tl : RTk h s c < 512 := Nat.lt_of_lt_of_le (tk_lt (by omega) (Vb c)) (Nat.le_trans (Nat.pow_le_pow_right (n := 2) (by omega) (show P9 h + 1 ≤ 9 by omega)) (by decide))
    have bt := all_bit ⟨N9 h, by omega⟩ ⟨c, by omega⟩ hc
    have es : RSp h s c = if ff (RTk h s c) (P9 h + 1) 10 (WSh h s c) = 0 then ff (RTk h s c) (P9 h + 1) 10 1 else ff (RTk h s c) (P9 h + 1) 10 (WSh h s c) := by
      rw [← sf3 (by omega) wb.1 wb.2]
      show (if isB (2 ^ N9 h - 1) c = true then _ else 0) = _
      rw [if_pos bt]
      rfl
    have ok : okS (P9 h + 1) (RTk h s c) (RSp h s c) := spt_ok wb.1 wb.2
    have nz : ¬ ff (RTk h s c) (P9 h + 1) 10 1 = 0 := ff_some (by omega) (by have := pcn_tk (l := 3) (s := 2 ^ N9 h - 1) (p := P9 h + 1) (W := WSh h s) (n := c) (by omega) (Vb c); show pcn (tk _ _ _ _ _) _ < _; omega)
    have kp1 : ∀ i v, i ≠ 4 → v.category = 1 → pm_get lv1 i = some v → pm_get lv1 i = some v := fun _ _ _ _ e => e
    have set : ∀ (lv' : List (Nat × Value)), (∀ i v, i ≠ 4 → v.category = 1 → pm_get lv1 i = some v → pm_get lv' i = some v) → ¬ RSp h s c = 0 → pm_get lv' 4 = some (.int (nJ (RSp h s c))) → Ends (pm_at tX9_ringFree) (pm_Rt pm_P (d + 2)) (68, lv', [], g, 0, 0) (fun h' v => HH h' ∧ fr_g QRF h2 h' ∧ (∀ i, i < N9 h → gi h' 91 i = nJ (RSp h s i)) ∧ HLm (P9 h + 1) (RTk h s (N9 h)) h' ∧ v = some (.int (pO (ff (RTk h s (N9 h)) (P9 h + 1) 10 1)))) := by
      intro lv' kk z M4
      have M0 := kk 0 _ (by decide) rfl (kp 0 _ (by decide) rfl L0)
      have M1 := kk 1 _ (by decide) rfl (kp 1 _ (by decide) rfl L1)
      have M2 := kk 2 _ (by decide) rfl (kp 2 _ (by decide) rfl L2)
      have M3 := kk 3 _ (by decide) rfl (kp 3 _ (by decide) rfl L3)
      obtain ⟨q1, qp, -⟩ : 1 ≤ RSp h s c ∧ RSp h s c ≤ P9 h + 1 ∧ _ := by rcases ok with e | e; exact absurd e z; exact e
      refine E_al rfl M0 ?_
      refine E_gr rfl hg (q := 90) rfl ?_
      refine E_il rfl M4 ?_
      refine E_il rfl M3 ?_
      refine E_ias rfl hg rfl (by omega) (by decide) ?_
      have b90 : bd 90 (RSp h s c) = some (-1, 7) := bd_u rfl (by omega)
      have hk : HH (pt g 90 (RSp h s c) (nJ c)) := HH_ptn hg b90 (by omega) (by omega) (by omega)
      have fk : fr_g QRF h2 (pt g 90 (RSp h s c) (nJ c)) := fr_ptr (l := 0) (u := 9) rfl (by omega) (by omega) hf
      have m2 : ∀ q, q ≤ 9 → gi (pt g 90 (RSp h s c) (nJ c)) 90 q = pI (RHd h s (c + 1) q) := fun q hq => by
        show _ = pI (if RSp h s c = q ∧ q ≠ 0 then c + 1 else RHd h s c q)
        by_cases e : RSp h s c = q
        · rw [if_pos ⟨e, by omega⟩, ← e]
          exact gi_ptn hg b90 (by omega) (by omega) (by omega)
        · rw [if_neg (fun w => e w.1), gi_ne (fun _ w => e w.symm)]; exact gq q hq
      have m3 : ∀ i, i < c → gi (pt g 90 (RSp h s c) (nJ c)) 91 i = nJ (RSp h s i) := fun i hi => by rw [gi_ne (by omega)]; exact gs i hi
      generalize pt g 90 (RSp h s c) (nJ c) = k at hk fk m2 m3 ⊢
      refine E_al rfl M0 ?_
      refine E_gr rfl hk (q := 91) rfl ?_
      refine E_il rfl M3 ?_
      refine E_il rfl M4 ?_
      refine E_ias rfl hk rfl (by omega) (by decide) ?_
      have b91 : bd 91 c = some (-1, 9) := bd_u rfl (by omega)
      refine E_inc rfl M3 (nJ_inc _) (fun lv2 K3 kp2 => ?_)
      refine E_goto rfl ?_
      refine ih lv2 (by omega) (HH_ptn hk b91 (by omega) (by omega) (by omega)) (fr_ptr (l := 0) (u := 7) rfl (by omega) (by omega) fk) (fun q hq => by rw [gi_ne (by omega)]; exact m2 q hq) (fun i hi => ?_) (kp2 0 _ (by decide) rfl M0) (kp2 1 _ (by decide) rfl M1) (kp2 2 _ (by decide) rfl M2) K3
      by_cases e : i = c
      · rw [e]; exact gi_ptn hk b91 (by omega) (by omega) (by omega)
      · rw [gi_ne (fun _ => e)]; exact m3 i (by omega)
    have H := HL (show c ≤ N9 h by omega) gq
    refine rn_walk hg (show P9 h + 1 ≤ 9 by omega) H lv1 (fun _ _ _ _ _ _ _ => trivial) 10 lv1 wb.1 wb.2 (by omega) kp1 (kp 0 _ (by decide) rfl L0) (kp 2 _ (by decide) rfl L2) K4 (fun lv' a b c4 => ?_) (fun lv' a b c4 => ?_)
    · rw [if_neg a] at es
      exact set lv' b (by rw [es]; exact a) (by rw [es]; exact c4)
    · rw [if_pos a] at es
      refine rn_walk hg (show P9 h + 1 ≤ 9 by omega) H lv1 (fun _ _ _ _ _ _ _ => trivial) 10 (q := 1) lv' (by omega) (by omega) (by omega) b (kp 0 _ (by decide) rfl L0) (kp 2 _ (by decide) rfl L2) c4 (fun lv'' a' b' c' => ?_) (fun lv'' a' b' c' => absurd a' nz)
      exact set lv'' b' (by rw [es]; exact nz) (by rw [es]; exact c')
theorem sp_ringY {s : Nat} (hh : HH h) (cp : N9 h ≤ P9 h) (hs : s ≤ P9 h) (T : LY9 h h2) (B : B9 h) : Sp (d + 3) 336 h2 [.ref 77, .int (nJ s)] (fun h' v => HH h' ∧ fr_g QRF h2 h' ∧ (∀ i, i < N9 h → gi h' 91 i = nJ (RSp h s i)) ∧ HLm (P9 h + 1) (RTk h s (N9 h)) h' ∧ v = some (.int (pO (ff (RTk h s (N9 h)) (P9 h + 1) 10 1)))) := by
  have T0 := T
  obtain ⟨hh2, u0, u3, u9⟩ := T
  refine Sp_of aiX9_ringFree rfl rfl rfl ?_
  have L0 : pm_get (lv_args 0 [.ref 77, .int (nJ s)]) 0 = some (.ref 77) := rfl
  have L1 : pm_get (lv_args 0 [.ref 77, .int (nJ s)]) 1 = some (.int (nJ s)) := rfl
  generalize lv_args 0 [.ref 77, .int (nJ s)] = lv at L0 L1 ⊢
  refine E_al rfl L0 ?_
  refine E_call rfl (Sp_le (by omega) (sp_places (d := d) hh2)) (chk77 hh2 rfl rfl (by show 0 ≤ 8; decide)) (fun h1 r1 => ?_)
  rintro ⟨e1, f1, -⟩
  rw [e1, f1, u0]
  refine E_ci 1 rfl (by decide) ?_
  refine E_bin rfl (nJ_add _ _) ?_
  refine E_is rfl (fun lv1 K2 kp => ?_)
  refine E_ci 0 rfl (by decide) ?_
  refine E_is rfl (fun lv2 K3 kp2 => ?_)
  refine rcX_loop hh2 10 lv2 (by omega) hh2 (fr_rf _ _) (fun q hq => absurd hq (Nat.not_lt_zero q)) (kp2 0 _ (by decide) rfl (kp 0 _ (by decide) rfl L0)) K3 (fun g' lv' a1 a2 a3 a4 a5 => ?_)
  exact rgY_loop hh cp hs T0 B (N9 h) (c := 0) lv' (by omega) a1 a2 (fun q hq => a3 q hq) (fun i hi => absurd hi (Nat.not_lt_zero i)) (a4 0 _ (by decide) rfl (kp2 0 _ (by decide) rfl (kp 0 _ (by decide) rfl L0))) (a4 1 _ (by decide) rfl (kp2 1 _ (by decide) rfl (kp 1 _ (by decide) rfl L1))) (a4 2 _ (by decide) rfl (kp2 2 _ (by decide) rfl K2)) a5
end RNY
theorem sp_parkOnRing8 {h : pm_H} {d : Nat} (hh : HH h) (R : QRE h) : Sp (d + 5) 155 h [.ref 0] (fun h' r => r = none ∧ HH h' ∧ fr_g FL h h' ∧ gi h' 62 1 = nJ (RTk h 0 (N9 h)) ∧ ∀ i, i < N9 h → gi h' 63 i = nJ (RSp h 0 i)) := by
  obtain ⟨a1, a2, a3, a4, -⟩ := g15 hh
  have B := B9_of R
  have s := R.2.1.1
  have e4 : gn h 15 4 = N9 h := gn_eq s.2.2.1
  have e0 : gn h 15 0 = P9 h := gn_eq (s.2.1 0 (by omega))
  have ne : ∀ c, c < N9 h → gn h 17 c = WSh h 0 c := fun c hc => by rw [WSh0 B hc]; exact (now_eq R c hc).1
  refine Sp_of aiX8_parkOnRing rfl rfl rfl ?_
  have L0 : pm_get (lv_args 0 [.ref 0]) 0 = some (.ref 0) := rfl
  generalize lv_args 0 [.ref 0] = lv at L0 ⊢
  refine E_al rfl L0 ?_
  refine E_ogr (q := 62) rfl hh rfl rfl ?_
  refine E_al rfl L0 ?_
  refine E_ogr (q := 15) rfl hh rfl rfl ?_
  refine E_ogr (q := 17) rfl hh rfl rfl ?_
  refine E_al rfl L0 ?_
  refine E_ogr (q := 15) rfl hh rfl rfl ?_
  refine E_ogf (q := (0, 8)) rfl hh rfl rfl a3 ?_
  refine E_al rfl L0 ?_
  refine E_call rfl (Sp_le (by omega) (sp_everyCar (d := d) hh)) (chkO (a := 0) hh rfl rfl rfl rfl (by show 3 ≤ 8; decide)) (fun h1 r1 => ?_)
  rintro ⟨e1, f1⟩
  rw [e1, f1]
  refine E_al rfl L0 ?_
  refine E_ogr (q := 15) rfl hh rfl rfl ?_
  refine E_ogf (q := (0, 8)) rfl hh rfl rfl a1 ?_
  refine E_ci 1 rfl (by decide) ?_
  refine E_bin rfl (nJ_add _ _) ?_
  refine E_ci 3 rfl (by decide) ?_
  refine E_call rfl (sp_fill (d := d) (A := 17) (hi := 8) (l := 3) (p := gn h 15 0 + 1) rfl (by decide) hh (by omega) (by omega) (all_lt a4) a4 (fun c hc => by rw [e4] at hc; rw [ne c hc, e0]; exact WSh_b)) (chkO (a := 62) hh rfl rfl rfl rfl (by show 0 ≤ 8; decide)) (fun h2 r2 => ?_)
  rintro ⟨e2, hh2, f2, t2⟩
  rw [e2]
  rw [e4, e0] at t2
  obtain ⟨t1, -, -, t4⟩ := t2
  refine E_ret rfl ⟨rfl, hh2, f2, ?_, fun i hi => ?_⟩
  · rw [t1, sf_W (W' := WSh h 0) ne]; rfl
  · rw [t4 i hi, spt_W (W' := WSh h 0) (fun c hc => ne c (by omega))]; rfl
theorem WSh_K {h h' : pm_H} (k : K9 h h') : WSh h' = WSh h := by funext s c; unfold WSh; rw [W9_K k, P9_K k]
theorem RSp_K {h h' : pm_H} (k : K9 h h') : RSp h' = RSp h := by funext s c; unfold RSp; rw [P9_K k, N9_K k, WSh_K k]
theorem RTk_K {h h' : pm_H} (k : K9 h h') : RTk h' = RTk h := by funext s c; unfold RTk; rw [P9_K k, N9_K k, WSh_K k]
/-- the shifts at which the last place stays free -/
noncomputable def sfB (h : pm_H) : Nat → Int32
  | 0 => 0
  | s + 1 => if isB (RTk h 0 (N9 h)) (P9 h - s) = false then sfB h s ||| (nJ 1 <<< (nJ s &&& 31)) else sfB h s
section SHF
variable {h : pm_H} {d : Nat}
theorem sh8_loop {g : pm_H} (hh : HH h) (R : QRE h) (hg : HH g) (f : fr_g FL h g) (t : gi g 62 1 = nJ (RTk h 0 (N9 h))) (j : Nat) : ∀ {s : Nat} (lv : List (Nat × Value)), s + j = P9 h + 1 → pm_get lv 0 = some (.ref 0) → pm_get lv 1 = some (.int (sfB h s)) → pm_get lv 2 = some (.int (nJ s)) → Ends (pm_at tX8_shifts) (pm_Rt pm_P (d + 5)) (18, lv, [], g, 0, 0) (fun h' r => fr_g FL h h' ∧ r = some (.int (sfB h (P9 h + 1)))) := by
  obtain ⟨l3, p8, n8⟩ := g9s hh
  have f0 : gi g 15 0 = nJ (P9 h) := (fr_gi f (rg_no rfl _)).trans (CW8_of hh R).2.1
  have tl := RTk_lt hh (s := 0) (n := N9 h)
  have t5 : RTk h 0 (N9 h) < 512 := Nat.lt_of_lt_of_le tl (Nat.le_trans (Nat.pow_le_pow_right (n := 2) (by omega) (show P9 h + 1 ≤ 9 by omega)) (by decide))
  induction j with
  | zero =>
    intro s lv hj L0 L1 L2
    refine E_il rfl L2 ?_
    refine E_al rfl L0 ?_
    refine E_ogr (q := 15) rfl hg rfl rfl ?_
    refine E_ogf (q := (0, 8)) rfl hg rfl rfl f0 ?_
    refine E_icT rfl (decide_eq_true ((nJ_lt (by omega) (by omega)).mpr (by omega))) ?_
    refine E_il rfl L1 ?_
    have e : s = P9 h + 1 := by omega
    exact E_rti rfl ⟨f, by rw [e]⟩
  | succ j ih =>
    intro s lv hj L0 L1 L2
    have es : sfB h (s + 1) = if isB (RTk h 0 (N9 h)) (P9 h - s) = false then sfB h s ||| (nJ 1 <<< (nJ s &&& 31)) else sfB h s := rfl
    refine E_il rfl L2 ?_
    refine E_al rfl L0 ?_
    refine E_ogr (q := 15) rfl hg rfl rfl ?_
    refine E_ogf (q := (0, 8)) rfl hg rfl rfl f0 ?_
    refine E_icF rfl (decide_eq_false (fun z => absurd ((nJ_lt (by omega) (by omega)).mp z) (by omega))) ?_
    refine E_al rfl L0 ?_
    refine E_ogr (q := 62) rfl hg rfl rfl ?_
    refine E_ogf (q := (0, 511)) rfl hg rfl rfl t ?_
    refine E_al rfl L0 ?_
    refine E_ogr (q := 15) rfl hg rfl rfl ?_
    refine E_ogf (q := (0, 8)) rfl hg rfl rfl f0 ?_
    refine E_ci 1 rfl (by decide) ?_
    refine E_bin rfl (nJ_add _ _) ?_
    refine E_il rfl L2 ?_
    refine E_bin rfl (nJ_sub (by omega)) ?_
    refine E_call rfl (Sp_le (by omega) (sp_isFree8 (d := d) t5 (show 1 ≤ P9 h + 1 - s by omega) (by omega))) (chkS rfl (by show 0 ≤ 8; decide)) (fun h1 r1 => ?_)
    rintro ⟨e1, f1⟩
    rw [e1, f1, show P9 h + 1 - s - 1 = P9 h - s by omega]
    have nx : ∀ (lv : List (Nat × Value)), pm_get lv 0 = some (.ref 0) → pm_get lv 1 = some (.int (sfB h (s + 1))) → pm_get lv 2 = some (.int (nJ s)) → Ends (pm_at tX8_shifts) (pm_Rt pm_P (d + 5)) (59, lv, [], g, 0, 0) (fun h' r => fr_g FL h h' ∧ r = some (.int (sfB h (P9 h + 1)))) := by
      intro lv M0 M1 M2
      refine E_inc rfl M2 (nJ_inc _) (fun lv1 K2 kp => ?_)
      refine E_goto rfl ?_
      exact ih lv1 (by omega) (kp 0 _ (by decide) rfl M0) (kp 1 _ (by decide) rfl M1) K2
    by_cases b : isB (RTk h 0 (N9 h)) (P9 h - s) = false
    · refine E_ifF rfl (by rw [zb_T b]; rfl) ?_
      rw [if_pos b] at es
      refine E_il rfl L1 ?_
      refine E_ci 1 rfl (by decide) ?_
      refine E_il rfl L2 ?_
      refine E_bin rfl rfl ?_
      refine E_bin rfl rfl ?_
      refine E_is rfl (fun lv1 K1 kp => ?_)
      exact nx lv1 (kp 0 _ (by decide) rfl L0) (by rw [es]; exact K1) (kp 2 _ (by decide) rfl L2)
    · refine E_ifT rfl (by rw [zb_F b]; rfl) ?_
      rw [if_neg b] at es
      exact nx lv L0 (by rw [es]; exact L1) L2
theorem sp_shifts8 (hh : HH h) (R : QRE h) : Sp (d + 6) 179 h [.ref 0] (fun h' r => K9 h h' ∧ r = some (.int (qv h (sfB h (P9 h + 1))))) := by
  refine Sp_of aiX8_shifts rfl rfl rfl ?_
  have L0 : pm_get (lv_args 0 [.ref 0]) 0 = some (.ref 0) := rfl
  generalize lv_args 0 [.ref 0] = lv at L0 ⊢
  have k0 : K9 h h := ⟨fun _ => rfl, fun _ => rfl, fun _ => rfl, fun _ => rfl⟩
  refine E_al rfl L0 ?_
  refine E_call rfl (Sp_le (by omega) (sp_hasStreet8 (d := d) hh)) (chkO (a := 0) hh rfl rfl rfl rfl (by show 0 ≤ 8; decide)) (fun h1 r1 => ?_)
  rintro ⟨e1, f1⟩
  rw [e1, f1]
  by_cases b : 0 < gn h 15 0
  · refine E_ifT rfl (by rw [zb_T b]; rfl) ?_
    rw [show ∀ v, qv h v = v from fun v => if_pos ((st_eq R).mp b)]
    refine E_al rfl L0 ?_
    refine E_call rfl (sp_parkOnRing8 (d := d) hh R) (chkO (a := 0) hh rfl rfl rfl rfl (by show 0 ≤ 8; decide)) (fun h2 r2 => ?_)
    rintro ⟨e2, hh2, f2, t1, -⟩
    rw [e2]
    refine E_c rfl ?_
    refine E_is rfl (fun lv1 K1 kp => ?_)
    refine E_ci 0 rfl (by decide) ?_
    refine E_is rfl (fun lv2 K2 kp2 => ?_)
    refine Ends_mono ?_ (sh8_loop hh R hh2 f2 t1 (P9 h + 1) (s := 0) lv2 (by omega) (kp2 0 _ (by decide) rfl (kp 0 _ (by decide) rfl L0)) (kp2 1 _ (by decide) rfl K1) K2)
    rintro h' r ⟨f', e⟩
    exact ⟨K9_fr f' rfl rfl rfl rfl, e⟩
  · refine E_ifF rfl (by rw [zb_F b]; rfl) ?_
    rw [show ∀ v, qv h v = -2 from fun v => if_neg (fun q => b ((st_eq R).mpr q))]
    refine E_c rfl ?_
    exact E_rti rfl ⟨k0, rfl⟩
theorem LY9_fr {h g g' : pm_H} (T : LY9 h g) (hg' : HH g') (f : fr_g QRF g g') : LY9 h g' := by
  obtain ⟨-, u0, u3, u9⟩ := T
  exact ⟨hg', (fr_gn f (rg_no rfl _)).trans u0, (fr_gn f (rg_no rfl _)).trans u3, fun c hc => (fr_gn f (rg_no rfl _)).trans (u9 c hc)⟩
theorem sh9_loop (hh : HH h) (B : B9 h) (cp : N9 h ≤ P9 h) (j : Nat) : ∀ {g : pm_H} {s : Nat} (lv : List (Nat × Value)), s + j = P9 h + 1 → LY9 h g → pm_get lv 0 = some (.ref 77) → pm_get lv 1 = some (.int (sfB h s)) → pm_get lv 2 = some (.int (nJ s)) → Ends (pm_at tX9_shifts) (pm_Rt pm_P (d + 6)) (23, lv, [], g, 0, 0) (fun h' r => r = some (.int (sfB h (P9 h + 1)))) := by
  obtain ⟨l3, p8, n8⟩ := g9s hh
  induction j with
  | zero =>
    intro g s lv hj T L0 L1 L2
    have hg := T.1
    refine E_il rfl L2 ?_
    refine E_al rfl L0 ?_
    refine E_call rfl (Sp_le (by omega) (sp_places (d := d) hg)) (chk77 hg rfl rfl (by show 1 ≤ 8; decide)) (fun h1 r1 => ?_)
    rintro ⟨e1, f1, -⟩
    rw [e1, f1, T.2.1]
    refine E_icT rfl (decide_eq_true ((nJ_lt (by omega) (by omega)).mpr (by omega))) ?_
    refine E_il rfl L1 ?_
    have e : s = P9 h + 1 := by omega
    exact E_rti rfl (by rw [e])
  | succ j ih =>
    intro g s lv hj T L0 L1 L2
    have hg := T.1
    have es : sfB h (s + 1) = if isB (RTk h 0 (N9 h)) (P9 h - s) = false then sfB h s ||| (nJ 1 <<< (nJ s &&& 31)) else sfB h s := rfl
    refine E_il rfl L2 ?_
    refine E_al rfl L0 ?_
    refine E_call rfl (Sp_le (by omega) (sp_places (d := d) hg)) (chk77 hg rfl rfl (by show 1 ≤ 8; decide)) (fun h1 r1 => ?_)
    rintro ⟨e1, f1, -⟩
    rw [e1, f1, T.2.1]
    refine E_icF rfl (decide_eq_false (fun z => absurd ((nJ_lt (by omega) (by omega)).mp z) (by omega))) ?_
    refine E_al rfl L0 ?_
    refine E_il rfl L2 ?_
    refine E_call rfl (Sp_le (by omega) (sp_ringY (d := d) (s := s) hh cp (by omega) T B)) (chk77 hg rfl rfl (by show 0 ≤ 8; decide)) (fun h2 r2 => ?_)
    rintro ⟨hh2, f2, -, H2, e2⟩
    rw [e2]
    have T2 := LY9_fr T hh2 f2
    have hb : gi h2 90 (P9 h + 1) = -1 ↔ isB (RTk h 0 (N9 h)) (P9 h - s) = false := by
      rw [H2 (P9 h + 1) (by omega) (Nat.le_refl _), show P9 h + 1 - 1 = P9 h by omega, RTk_bit hh (s := s) (k := P9 h) (by omega) (Nat.le_refl _)]
    refine E_pop rfl rfl ?_
    refine E_il rfl L1 ?_
    refine E_al rfl L0 ?_
    refine E_gr rfl hh2 (q := 90) rfl ?_
    refine E_al rfl L0 ?_
    refine E_call rfl (Sp_le (by omega) (sp_places (d := d) hh2)) (chk77 hh2 rfl rfl (by show 2 ≤ 8; decide)) (fun h3 r3 => ?_)
    rintro ⟨e3, f3, -⟩
    rw [e3, f3, T2.2.1]
    refine E_ci 1 rfl (by decide) ?_
    refine E_bin rfl (nJ_add _ _) ?_
    refine E_ial rfl hh2 rfl (by omega) (by decide) rfl ?_
    refine E_c rfl ?_
    have nx : ∀ y : Int32, sfB h s ||| y = sfB h (s + 1) → Ends (pm_at tX9_shifts) (pm_Rt pm_P (d + 6)) (60, lv, [.int y, .int (sfB h s)], h2, 0, 0) (fun h' r => r = some (.int (sfB h (P9 h + 1)))) := by
      intro y ey
      refine E_bin rfl ey ?_
      refine E_is rfl (fun lv1 K1 kp => ?_)
      refine E_inc rfl (kp 2 _ (by decide) rfl L2) (nJ_inc _) (fun lv2 K2 kp2 => ?_)
      refine E_goto rfl ?_
      exact ih lv2 (by omega) T2 (kp2 0 _ (by decide) rfl (kp 0 _ (by decide) rfl L0)) (kp2 1 _ (by decide) rfl K1) K2
    by_cases b : isB (RTk h 0 (N9 h)) (P9 h - s) = false
    · refine E_icF rfl (decide_eq_false (fun q => q (hb.mpr b))) ?_
      rw [if_pos b] at es
      refine E_ci 1 rfl (by decide) ?_
      refine E_il rfl L2 ?_
      refine E_bin rfl rfl ?_
      refine E_goto rfl ?_
      exact nx _ es.symm
    · refine E_icT rfl (decide_eq_true (fun q => b (hb.mp q))) ?_
      rw [if_neg b] at es
      refine E_c rfl ?_
      exact nx 0 (by rw [es]; exact Int32.or_zero)
theorem sp_shifts9 (hh : HH h) (V : V9 h) (B : B9 h) (cp : N9 h ≤ P9 h) : Sp (d + 7) 347 h [.ref 77] (fun h' r => r = some (.int (qv h (sfB h (P9 h + 1))))) := by
  refine Sp_of aiX9_shifts rfl rfl rfl ?_
  have L0 : pm_get (lv_args 0 [.ref 77]) 0 = some (.ref 77) := rfl
  generalize lv_args 0 [.ref 77] = lv at L0 ⊢
  refine E_al rfl L0 ?_
  refine E_ci 0 rfl (by decide) ?_
  refine E_pf rfl hh rfl ?_
  have hg : HH (pt h 77 0 (nJ 0)) := HH_ptn hh rfl (by omega) (by omega) (by omega)
  have k : K9 h (pt h 77 0 (nJ 0)) := K9_77
  generalize pt h 77 0 (nJ 0) = g at hg k ⊢
  refine E_al rfl L0 ?_
  refine E_call rfl (Sp_le (by omega) (sp_isStreet (d := d) hg)) (chk77 hg rfl rfl (by show 0 ≤ 8; decide)) (fun h1 r1 => ?_)
  rintro ⟨e1, f1⟩
  rw [e1, f1, k.2.2.2]
  by_cases b : 0 < (gi h 83 0).toInt
  · refine E_ifT rfl (by rw [zb_T b]; rfl) ?_
    rw [show ∀ v, qv h v = v from fun v => if_pos b]
    refine E_al rfl L0 ?_
    refine E_call rfl (Sp_le (by omega) (sp_laysX (d := d) hg (V9_K k V))) (chk77 hg rfl rfl (by show 0 ≤ 8; decide)) (fun h2 r2 => ?_)
    rintro ⟨e2, hh2, f2, -, -, w2⟩
    rw [e2]
    have T := LY9_of k hh2 f2 w2
    refine E_c rfl ?_
    refine E_is rfl (fun lv1 K1 kp => ?_)
    refine E_ci 0 rfl (by decide) ?_
    refine E_is rfl (fun lv2 K2 kp2 => ?_)
    exact sh9_loop hh B cp (P9 h + 1) (s := 0) lv2 (by omega) T (kp2 0 _ (by decide) rfl (kp 0 _ (by decide) rfl L0)) (kp2 1 _ (by decide) rfl K1) K2
  · refine E_ifF rfl (by rw [zb_F b]; rfl) ?_
    rw [show ∀ v, qv h v = -2 from fun v => if_neg b]
    refine E_c rfl ?_
    exact E_rti rfl rfl
end SHF
theorem sfB_K {h h' : pm_H} (k : K9 h h') : sfB h' = sfB h := by
  funext s
  induction s with
  | zero => rfl
  | succ s ih =>
    show (if isB (RTk h' 0 (N9 h')) (P9 h' - s) = false then sfB h' s ||| (nJ 1 <<< (nJ s &&& 31)) else sfB h' s) = (if isB (RTk h 0 (N9 h)) (P9 h - s) = false then sfB h s ||| (nJ 1 <<< (nJ s &&& 31)) else sfB h s)
    rw [ih, RTk_K k, N9_K k, P9_K k]
noncomputable def half_shifts (h : pm_H) (r : Int32) : Prop := QRE h ∧ r = qv h (sfB h (P9 h + 1))
theorem g8_shifts {h : pm_H} (I : IVQ h) : Sp 100 179 h [.ref 0] (fun h' v => IVh h' ∧ ∃ r : Int32, v = some (.int r) ∧ half_shifts h' r) := by
  refine Sp_le (by omega) (Sp_mono ?_ (Sp_and (top_all (as := [.ref 0]) q279 (by decide +kernel) I.1 ⟨rfl, trivial⟩) (sp_shifts8 (d := 0) I.1.1 I.2)))
  rintro h' v ⟨⟨s1, s2, -⟩, k, rfl⟩
  exact ⟨s1, _, rfl, QRE_fr s2 rfl I.2, by rw [qv_K k, sfB_K k, P9_K k]⟩
theorem g9_shifts {h : pm_H} {r : Int32} (I : IVh h) (J : half_shifts h r) : Sp 100 347 h [.ref 77] (fun h' v => IVQ h' ∧ v = some (.int r)) := by
  obtain ⟨J1, rfl⟩ := J
  refine Sp_mono ?_ (Sp_and1 (top_TQ (d := 30) rfl I (tp_shifts (d := 0) I.1 (I.2.2.1 0 (by omega)))) (sp_shifts9 (d := 0) I.1 (V9_of J1) (B9_of J1) (I.2.2.1 0 (by omega)).1))
  rintro h' v ⟨⟨s1, s2, -⟩, rfl⟩
  exact ⟨⟨s1, QRE_fr s2 rfl J1⟩, rfl⟩
end
