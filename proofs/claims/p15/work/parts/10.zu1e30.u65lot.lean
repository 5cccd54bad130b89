/-! who parks where: one pure law, and the class's Lot (wants t47, t56, u55) -/
noncomputable def ff (m p : Nat) : Nat → Nat → Nat
  | 0, _ => 0
  | j + 1, q => if q ≤ p then (if isB m (q - 1) = false then q else ff m p j (q + 1)) else 0
noncomputable def nf (m p w : Nat) : Nat → Nat → Nat
  | 0, _ => 0
  | j + 1, k => if k < p then (if w + k ≤ p ∧ isB m (w + k - 1) = false then w + k else if 1 + k ≤ w ∧ isB m (w - k - 1) = false then w - k else nf m p w j (k + 1)) else 0
/-- the place that one finds who wants w, by law l, of p places with those of m taken; 0: none -/
noncomputable def sf (l p m w : Nat) : Nat := if isB m (w - 1) = false then w else if l = 1 ∧ 2 ≤ w ∧ isB m (w - 2) = false then w - 1 else if l = 2 then nf m p w 10 1 else if ff m p 10 (w + 1) = 0 ∧ l = 3 then ff m p 10 1 else ff m p 10 (w + 1)
noncomputable def okS (p m q : Nat) : Prop := q = 0 ∨ (1 ≤ q ∧ q ≤ p ∧ isB m (q - 1) = false)
theorem ff_ok {m p : Nat} : ∀ {j q : Nat}, 1 ≤ q → okS p m (ff m p j q)
  | 0, _, _ => .inl rfl
  | j + 1, q, h => by
    unfold ff
    by_cases b : q ≤ p
    · rw [if_pos b]
      by_cases c : isB m (q - 1) = false
      · rw [if_pos c]; exact .inr ⟨h, b, c⟩
      · rw [if_neg c]; exact ff_ok (by omega)
    · rw [if_neg b]; exact .inl rfl
theorem nf_ok {m p w : Nat} (hw : w ≤ p) : ∀ {j k : Nat}, 1 ≤ k → okS p m (nf m p w j k)
  | 0, _, _ => .inl rfl
  | j + 1, k, h => by
    unfold nf
    by_cases b : k < p
    · rw [if_pos b]
      by_cases c : w + k ≤ p ∧ isB m (w + k - 1) = false
      · rw [if_pos c]; exact .inr ⟨by omega, c.1, c.2⟩
      · rw [if_neg c]
        by_cases e : 1 + k ≤ w ∧ isB m (w - k - 1) = false
        · rw [if_pos e]; exact .inr ⟨by omega, by omega, e.2⟩
        · rw [if_neg e]; exact nf_ok hw (by omega)
    · rw [if_neg b]; exact .inl rfl
theorem sf_ok {l p m w : Nat} (h1 : 1 ≤ w) (h2 : w ≤ p) : okS p m (sf l p m w) := by
  unfold sf
  by_cases a : isB m (w - 1) = false
  · rw [if_pos a]; exact .inr ⟨h1, h2, a⟩
  rw [if_neg a]
  by_cases b : l = 1 ∧ 2 ≤ w ∧ isB m (w - 2) = false
  · rw [if_pos b]; exact .inr ⟨by omega, by omega, b.2.2⟩
  rw [if_neg b]
  by_cases c : l = 2
  · rw [if_pos c]; exact nf_ok h2 (by omega)
  rw [if_neg c]
  by_cases e : ff m p 10 (w + 1) = 0 ∧ l = 3
  · rw [if_pos e]; exact ff_ok (by omega)
  · rw [if_neg e]; exact ff_ok (by omega)
noncomputable def ad (m q : Nat) : Nat := if q = 0 then m else m + 2 ^ (q - 1)
/-- places taken by the first n of the set s -/
noncomputable def tk (l p s : Nat) (W : Nat → Nat) : Nat → Nat
  | 0 => 0
  | n + 1 => ad (tk l p s W n) (if isB s n = true then sf l p (tk l p s W n) (W n) else 0)
noncomputable def spt (l p s : Nat) (W : Nat → Nat) (n : Nat) : Nat := if isB s n = true then sf l p (tk l p s W n) (W n) else 0
noncomputable def mss (l p s : Nat) (W : Nat → Nat) : Nat → Nat
  | 0 => 0
  | n + 1 => if isB s n = true ∧ spt l p s W n = 0 then mss l p s W n + 2 ^ n else mss l p s W n
noncomputable def dst (a b : Nat) : Nat := (a - b) + (b - a)
noncomputable def wlk (l p s : Nat) (W : Nat → Nat) : Nat → Nat
  | 0 => 0
  | n + 1 => wlk l p s W n + (if spt l p s W n = 0 then 0 else dst (spt l p s W n) (W n))
theorem tk_s {l p s n : Nat} {W : Nat → Nat} : tk l p s W (n + 1) = ad (tk l p s W n) (spt l p s W n) := rfl
theorem ad_lt {p m q : Nat} (hp : p ≤ 9) (hm : m < 2 ^ p) (h : okS p m q) : ad m q < 2 ^ p := by
  unfold ad
  rcases h with h | ⟨h1, h2, h3⟩
  · rw [if_pos h]; exact hm
  · rw [if_neg (by omega)]
    have m5 : m < 512 := Nat.lt_of_lt_of_le hm (Nat.pow_le_pow_right (n := 2) (by omega) hp)
    exact add_tab ⟨p, by omega⟩ ⟨m, m5⟩ hm ⟨q - 1, by omega⟩ (by show q - 1 < p; omega) h3
theorem spt_ok {l p s n : Nat} {W : Nat → Nat} (h1 : 1 ≤ W n) (h2 : W n ≤ p) : okS p (tk l p s W n) (spt l p s W n) := by
  unfold spt
  split
  · exact sf_ok h1 h2
  · exact .inl rfl
theorem tk_lt {l p s : Nat} {W : Nat → Nat} (hp : p ≤ 9) : ∀ {n : Nat}, (∀ c, c < n → 1 ≤ W c ∧ W c ≤ p) → tk l p s W n < 2 ^ p
  | 0, _ => Nat.pow_pos (by omega)
  | n + 1, h => by
    rw [tk_s]
    exact ad_lt hp (tk_lt hp (fun c hc => h c (by omega))) (spt_ok (h n (by omega)).1 (h n (by omega)).2)
theorem isB_hi {m k : Nat} (h : m < 2 ^ k) : isB m k = false := by
  unfold isB
  rw [Nat.div_eq_of_lt h]
  rfl
theorem mss_lt {l p s : Nat} {W : Nat → Nat} : ∀ (n : Nat), mss l p s W n < 2 ^ n
  | 0 => by show 0 < 1; omega
  | n + 1 => by
    have := mss_lt (l := l) (p := p) (s := s) (W := W) n
    have e : 2 ^ (n + 1) = 2 ^ n + 2 ^ n := by rw [Nat.pow_succ]; omega
    show (if isB s n = true ∧ spt l p s W n = 0 then mss l p s W n + 2 ^ n else mss l p s W n) < _
    split <;> omega
theorem dst_le {a b p : Nat} (h1 : 1 ≤ a) (h2 : a ≤ p) (h3 : 1 ≤ b) (h4 : b ≤ p) : dst a b < p := by unfold dst; omega
theorem wlk_le {l p s : Nat} {W : Nat → Nat} : ∀ {n : Nat}, (∀ c, c < n → 1 ≤ W c ∧ W c ≤ p) → wlk l p s W n ≤ n * p
  | 0, _ => by show 0 ≤ 0 * p; omega
  | n + 1, h => by
    have q := wlk_le (l := l) (s := s) (p := p) (fun c hc => h c (Nat.lt_succ_of_lt hc))
    have o := spt_ok (l := l) (s := s) (h n (by omega)).1 (h n (by omega)).2
    have w := h n (by omega)
    have e : (n + 1) * p = n * p + p := Nat.succ_mul n p
    show wlk l p s W n + (if spt l p s W n = 0 then 0 else dst (spt l p s W n) (W n)) ≤ (n + 1) * p
    by_cases z : spt l p s W n = 0
    · rw [if_pos z]; omega
    · rw [if_neg z]
      rcases o with o | ⟨o1, o2, -⟩
      · exact absurd o z
      · have := dst_le o1 o2 w.1 w.2
        omega
/-! the law depends on what it reads alone -/
theorem sf_W {l p s n : Nat} {W W' : Nat → Nat} (e : ∀ c, c < n → W c = W' c) : tk l p s W n = tk l p s W' n := by
  induction n with
  | zero => rfl
  | succ n ih =>
    have i := ih (fun c hc => e c (by omega))
    rw [tk_s, tk_s]
    unfold spt
    rw [i, e n (by omega)]
theorem spt_W {l p s n : Nat} {W W' : Nat → Nat} (e : ∀ c, c ≤ n → W c = W' c) : spt l p s W n = spt l p s W' n := by
  unfold spt
  rw [sf_W (fun c hc => e c (by omega)), e n (Nat.le_refl n)]
theorem mss_W {l p s n : Nat} {W W' : Nat → Nat} (e : ∀ c, c < n → W c = W' c) : mss l p s W n = mss l p s W' n := by
  induction n with
  | zero => rfl
  | succ n ih =>
    have i := ih (fun c hc => e c (by omega))
    show (if _ ∧ spt l p s W n = 0 then mss l p s W n + 2 ^ n else mss l p s W n) = (if _ ∧ spt l p s W' n = 0 then mss l p s W' n + 2 ^ n else mss l p s W' n)
    rw [i, spt_W (fun c hc => e c (by omega))]
theorem wlk_W {l p s n : Nat} {W W' : Nat → Nat} (e : ∀ c, c < n → W c = W' c) : wlk l p s W n = wlk l p s W' n := by
  induction n with
  | zero => rfl
  | succ n ih =>
    have i := ih (fun c hc => e c (by omega))
    show wlk l p s W n + (if spt l p s W n = 0 then 0 else dst (spt l p s W n) (W n)) = wlk l p s W' n + (if spt l p s W' n = 0 then 0 else dst (spt l p s W' n) (W' n))
    rw [i, spt_W (fun c hc => e c (by omega)), e n (by omega)]
/-! the class -/
theorem fr0_tab : ∀ m : Fin 512, ∀ k : Fin 9, (nJ m.val >>> (nJ k.val &&& 31) &&& nJ 1 = 0) ↔ isB m.val k.val = false := by decide +kernel
theorem or2_tab : ∀ m : Fin 512, ∀ k : Fin 9, isB m.val k.val = false → nJ m.val ||| nJ (2 ^ k.val) = nJ (m.val + 2 ^ k.val) := by decide +kernel
section LOT
variable {h : pm_H} {d : Nat}
theorem sp_isFree8 {m q : Nat} (hm : m < 512) (q1 : 1 ≤ q) (q9 : q ≤ 9) : Sp (d + 1) 23 h [.int (nJ m), .int (nJ q)] (fun h' r => h' = h ∧ r = some (.int (zb (isB m (q - 1) = false)))) := by
  refine Sp_of aiX1_isFree rfl rfl rfl ?_
  have L0 : pm_get (lv_args 0 [.int (nJ m), .int (nJ q)]) 0 = some (.int (nJ m)) := rfl
  have L1 : pm_get (lv_args 0 [.int (nJ m), .int (nJ q)]) 1 = some (.int (nJ q)) := rfl
  generalize lv_args 0 [.int (nJ m), .int (nJ q)] = lv at L0 L1 ⊢
  have tb := fr0_tab ⟨m, hm⟩ ⟨q - 1, by omega⟩
  refine E_il rfl L0 ?_
  refine E_il rfl L1 ?_
  refine E_ci 1 rfl (by decide) ?_
  refine E_bin rfl (nJ_sub q1) ?_
  refine E_bin rfl rfl ?_
  refine E_ci 1 rfl (by decide) ?_
  refine E_bin rfl rfl ?_
  by_cases b : isB m (q - 1) = false
  · refine E_ifF rfl (decide_eq_false (fun z => z (tb.mpr b))) ?_
    refine E_ci 1 rfl (by decide) ?_
    refine E_goto rfl ?_
    exact E_rtz rfl (.inr rfl) ⟨rfl, by rw [zb_T b]⟩
  · refine E_ifT rfl (decide_eq_true (fun z => b (tb.mp z))) ?_
    refine E_ci 0 rfl (by decide) ?_
    exact E_rtz rfl (.inl rfl) ⟨rfl, by rw [zb_F b]⟩
theorem ff_loop {m p : Nat} (hm : m < 512) (p9 : p ≤ 9) (j : Nat) : ∀ {q : Nat} (lv : List (Nat × Value)), 1 ≤ q → q ≤ 10 → p < q + j → pm_get lv 0 = some (.int (nJ p)) → pm_get lv 1 = some (.int (nJ m)) → pm_get lv 3 = some (.int (nJ q)) → Ends (pm_at tX1_firstFree) (pm_Rt pm_P (d + 1)) (2, lv, [], h, 0, 0) (fun h' r => h' = h ∧ r = some (.int (nJ (ff m p j q)))) := by
  induction j with
  | zero =>
    intro q lv q1 q10 hj L0 L1 L3
    refine E_il rfl L3 ?_
    refine E_il rfl L0 ?_
    refine E_icT rfl (decide_eq_true ((nJ_lt (by omega) (by omega)).mpr (by omega))) ?_
    refine E_ci 0 rfl (by decide) ?_
    exact E_rti rfl ⟨rfl, rfl⟩
  | succ j ih =>
    intro q lv q1 q10 hj L0 L1 L3
    unfold ff
    refine E_il rfl L3 ?_
    refine E_il rfl L0 ?_
    by_cases b : q ≤ p
    · refine E_icF rfl (decide_eq_false (fun z => absurd ((nJ_lt (by omega) (by omega)).mp z) (by omega))) ?_
      rw [if_pos b]
      refine E_il rfl L1 ?_
      refine E_il rfl L3 ?_
      refine E_call rfl (sp_isFree8 (d := d) hm q1 (by omega)) (chkS rfl (by show 0 ≤ 8; decide)) (fun h1 r1 => ?_)
      rintro ⟨e1, f1⟩
      rw [e1, f1]
      by_cases c : isB m (q - 1) = false
      · refine E_ifF rfl (by rw [zb_T c]; rfl) ?_
        rw [if_pos c]
        refine E_il rfl L3 ?_
        exact E_rti rfl ⟨rfl, rfl⟩
      · refine E_ifT rfl (by rw [zb_F c]; rfl) ?_
        rw [if_neg c]
        refine E_inc rfl L3 (nJ_inc _) (fun lv1 K3 kp => ?_)
        refine E_goto rfl ?_
        exact ih lv1 (by omega) (by omega) (by omega) (kp 0 _ (by decide) rfl L0) (kp 1 _ (by decide) rfl L1) K3
    · refine E_icT rfl (decide_eq_true ((nJ_lt (by omega) (by omega)).mpr (by omega))) ?_
      rw [if_neg b]
      refine E_ci 0 rfl (by decide) ?_
      exact E_rti rfl ⟨rfl, rfl⟩
theorem sp_firstFree {m p q : Nat} (hm : m < 512) (p9 : p ≤ 9) (q1 : 1 ≤ q) (q10 : q ≤ 10) : Sp (d + 2) 21 h [.int (nJ p), .int (nJ m), .int (nJ q)] (fun h' r => h' = h ∧ r = some (.int (nJ (ff m p 10 q)))) := by
  refine Sp_of aiX1_firstFree rfl rfl rfl ?_
  have L0 : pm_get (lv_args 0 [.int (nJ p), .int (nJ m), .int (nJ q)]) 0 = some (.int (nJ p)) := rfl
  have L1 : pm_get (lv_args 0 [.int (nJ p), .int (nJ m), .int (nJ q)]) 1 = some (.int (nJ m)) := rfl
  have L2 : pm_get (lv_args 0 [.int (nJ p), .int (nJ m), .int (nJ q)]) 2 = some (.int (nJ q)) := rfl
  generalize lv_args 0 [.int (nJ p), .int (nJ m), .int (nJ q)] = lv at L0 L1 L2 ⊢
  refine E_il rfl L2 ?_
  refine E_is rfl (fun lv1 K3 kp => ?_)
  exact ff_loop hm p9 10 lv1 q1 q10 (by omega) (kp 0 _ (by decide) rfl L0) (kp 1 _ (by decide) rfl L1) K3
theorem nf_loop {m p w : Nat} (hm : m < 512) (p9 : p ≤ 9) (w1 : 1 ≤ w) (wp : w ≤ p) (j : Nat) : ∀ {k : Nat} (lv : List (Nat × Value)), 1 ≤ k → k ≤ 10 → p ≤ k + j → pm_get lv 0 = some (.int (nJ p)) → pm_get lv 1 = some (.int (nJ m)) → pm_get lv 2 = some (.int (nJ w)) → pm_get lv 3 = some (.int (nJ k)) → Ends (pm_at tX1_nearestFree) (pm_Rt pm_P (d + 1)) (2, lv, [], h, 0, 0) (fun h' r => h' = h ∧ r = some (.int (nJ (nf m p w j k)))) := by
  induction j with
  | zero =>
    intro k lv k1 k10 hj L0 L1 L2 L3
    refine E_il rfl L3 ?_
    refine E_il rfl L0 ?_
    refine E_icT rfl (decide_eq_true ((nJ_le (by omega) (by omega)).mpr (by omega))) ?_
    refine E_ci 0 rfl (by decide) ?_
    exact E_rti rfl ⟨rfl, rfl⟩
  | succ j ih =>
    intro k lv k1 k10 hj L0 L1 L2 L3
    unfold nf
    refine E_il rfl L3 ?_
    refine E_il rfl L0 ?_
    by_cases b : k < p
    · refine E_icF rfl (decide_eq_false (fun z => absurd ((nJ_le (by omega) (by omega)).mp z) (by omega))) ?_
      rw [if_pos b]
      have low : ¬ (w + k ≤ p ∧ isB m (w + k - 1) = false) → Ends (pm_at tX1_nearestFree) (pm_Rt pm_P (d + 1)) (28, lv, [], h, 0, 0) (fun h' r => h' = h ∧ r = some (.int (nJ (if w + k ≤ p ∧ isB m (w + k - 1) = false then w + k else if 1 + k ≤ w ∧ isB m (w - k - 1) = false then w - k else nf m p w j (k + 1))))) := by
        intro c
        rw [if_neg c]
        have nx : ¬ (1 + k ≤ w ∧ isB m (w - k - 1) = false) → Ends (pm_at tX1_nearestFree) (pm_Rt pm_P (d + 1)) (49, lv, [], h, 0, 0) (fun h' r => h' = h ∧ r = some (.int (nJ (if 1 + k ≤ w ∧ isB m (w - k - 1) = false then w - k else nf m p w j (k + 1))))) := by
          intro e
          rw [if_neg e]
          refine E_inc rfl L3 (nJ_inc _) (fun lv1 K3 kp => ?_)
          refine E_goto rfl ?_
          exact ih lv1 (by omega) (by omega) (by omega) (kp 0 _ (by decide) rfl L0) (kp 1 _ (by decide) rfl L1) (kp 2 _ (by decide) rfl L2) K3
        refine E_il rfl L2 ?_
        refine E_il rfl L3 ?_
        refine E_bin rfl rfl ?_
        refine E_c rfl ?_
        have ti : (nJ w - nJ k).toInt = (w : Int) - (k : Int) := by
          rw [Int32.toInt_sub, nJ_toInt (by omega), nJ_toInt (by omega)]
          exact Int.bmod_eq_of_le (by omega) (by omega)
        have z1 : (1 : Int32).toInt = 1 := rfl
        by_cases e1 : 1 + k ≤ w
        · refine E_icF rfl (decide_eq_false (fun z => by have := Int32.lt_iff_toInt_lt.mp z; omega)) ?_
          refine E_il rfl L1 ?_
          refine E_il rfl L2 ?_
          refine E_il rfl L3 ?_
          refine E_bin rfl (nJ_sub (by omega)) ?_
          refine E_call rfl (sp_isFree8 (d := d) hm (by omega) (by omega)) (chkS rfl (by show 0 ≤ 8; decide)) (fun h1 r1 => ?_)
          rintro ⟨e2, f2⟩
          rw [e2, f2]
          by_cases e3 : isB m (w - k - 1) = false
          · refine E_ifF rfl (by rw [zb_T e3]; rfl) ?_
            rw [if_pos ⟨e1, e3⟩]
            refine E_il rfl L2 ?_
            refine E_il rfl L3 ?_
            refine E_bin rfl (nJ_sub (by omega)) ?_
            exact E_rti rfl ⟨rfl, rfl⟩
          · refine E_ifT rfl (by rw [zb_F e3]; rfl) ?_
            exact nx (fun q => e3 q.2)
        · refine E_icT rfl (decide_eq_true (Int32.lt_iff_toInt_lt.mpr (by omega))) ?_
          exact nx (fun q => e1 q.1)
      refine E_il rfl L2 ?_
      refine E_il rfl L3 ?_
      refine E_bin rfl (nJ_add _ _) ?_
      refine E_il rfl L0 ?_
      by_cases c1 : w + k ≤ p
      · refine E_icF rfl (decide_eq_false (fun z => absurd ((nJ_lt (by omega) (by omega)).mp z) (by omega))) ?_
        refine E_il rfl L1 ?_
        refine E_il rfl L2 ?_
        refine E_il rfl L3 ?_
        refine E_bin rfl (nJ_add _ _) ?_
        refine E_call rfl (sp_isFree8 (d := d) hm (by omega) (by omega)) (chkS rfl (by show 0 ≤ 8; decide)) (fun h1 r1 => ?_)
        rintro ⟨e2, f2⟩
        rw [e2, f2]
        by_cases c2 : isB m (w + k - 1) = false
        · refine E_ifF rfl (by rw [zb_T c2]; rfl) ?_
          rw [if_pos ⟨c1, c2⟩]
          refine E_il rfl L2 ?_
          refine E_il rfl L3 ?_
          refine E_bin rfl (nJ_add _ _) ?_
          exact E_rti rfl ⟨rfl, rfl⟩
        · refine E_ifT rfl (by rw [zb_F c2]; rfl) ?_
          exact low (fun q => c2 q.2)
      · refine E_icT rfl (decide_eq_true ((nJ_lt (by omega) (by omega)).mpr (by omega))) ?_
        exact low (fun q => c1 q.1)
    · refine E_icT rfl (decide_eq_true ((nJ_le (by omega) (by omega)).mpr (by omega))) ?_
      rw [if_neg b]
      refine E_ci 0 rfl (by decide) ?_
      exact E_rti rfl ⟨rfl, rfl⟩
theorem sp_nearestFree {m p w : Nat} (hm : m < 512) (p9 : p ≤ 9) (w1 : 1 ≤ w) (wp : w ≤ p) : Sp (d + 2) 24 h [.int (nJ p), .int (nJ m), .int (nJ w)] (fun h' r => h' = h ∧ r = some (.int (nJ (nf m p w 10 1)))) := by
  refine Sp_of aiX1_nearestFree rfl rfl rfl ?_
  have L0 : pm_get (lv_args 0 [.int (nJ p), .int (nJ m), .int (nJ w)]) 0 = some (.int (nJ p)) := rfl
  have L1 : pm_get (lv_args 0 [.int (nJ p), .int (nJ m), .int (nJ w)]) 1 = some (.int (nJ m)) := rfl
  have L2 : pm_get (lv_args 0 [.int (nJ p), .int (nJ m), .int (nJ w)]) 2 = some (.int (nJ w)) := rfl
  generalize lv_args 0 [.int (nJ p), .int (nJ m), .int (nJ w)] = lv at L0 L1 L2 ⊢
  refine E_ci 1 rfl (by decide) ?_
  refine E_is rfl (fun lv1 K3 kp => ?_)
  exact nf_loop hm p9 w1 wp 10 lv1 (by omega) (by omega) (by omega) (kp 0 _ (by decide) rfl L0) (kp 1 _ (by decide) rfl L1) (kp 2 _ (by decide) rfl L2) K3
theorem sp_spotFor {l p m w : Nat} (hl : l ≤ 3) (hm : m < 512) (p9 : p ≤ 9) (w1 : 1 ≤ w) (wp : w ≤ p) : Sp (d + 3) 25 h [.int (nJ l), .int (nJ p), .int (nJ m), .int (nJ w)] (fun h' r => h' = h ∧ r = some (.int (nJ (sf l p m w)))) := by
  refine Sp_of aiX1_spotFor rfl rfl rfl ?_
  have L0 : pm_get (lv_args 0 [.int (nJ l), .int (nJ p), .int (nJ m), .int (nJ w)]) 0 = some (.int (nJ l)) := rfl
  have L1 : pm_get (lv_args 0 [.int (nJ l), .int (nJ p), .int (nJ m), .int (nJ w)]) 1 = some (.int (nJ p)) := rfl
  have L2 : pm_get (lv_args 0 [.int (nJ l), .int (nJ p), .int (nJ m), .int (nJ w)]) 2 = some (.int (nJ m)) := rfl
  have L3 : pm_get (lv_args 0 [.int (nJ l), .int (nJ p), .int (nJ m), .int (nJ w)]) 3 = some (.int (nJ w)) := rfl
  generalize lv_args 0 [.int (nJ l), .int (nJ p), .int (nJ m), .int (nJ w)] = lv at L0 L1 L2 L3 ⊢
  unfold sf
  refine E_il rfl L2 ?_
  refine E_il rfl L3 ?_
  refine E_call rfl (Sp_le (by omega) (sp_isFree8 (d := d) hm w1 (by omega))) (chkS rfl (by show 0 ≤ 8; decide)) (fun h1 r1 => ?_)
  rintro ⟨e1, f1⟩
  rw [e1, f1]
  by_cases a : isB m (w - 1) = false
  · refine E_ifF rfl (by rw [zb_T a]; rfl) ?_
    rw [if_pos a]
    refine E_il rfl L3 ?_
    exact E_rti rfl ⟨rfl, rfl⟩
  refine E_ifT rfl (by rw [zb_F a]; rfl) ?_
  rw [if_neg a]
  have at34 : ¬ (l = 1 ∧ 2 ≤ w ∧ isB m (w - 2) = false) → Ends (pm_at tX1_spotFor) (pm_Rt pm_P (d + 2)) (34, lv, [], h, 0, 0) (fun h' r => h' = h ∧ r = some (.int (nJ (if l = 1 ∧ 2 ≤ w ∧ isB m (w - 2) = false then w - 1 else if l = 2 then nf m p w 10 1 else if ff m p 10 (w + 1) = 0 ∧ l = 3 then ff m p 10 1 else ff m p 10 (w + 1))))) := by
    intro b
    rw [if_neg b]
    refine E_il rfl L0 ?_
    refine E_ci 2 rfl (by decide) ?_
    by_cases c : l = 2
    · refine E_icF rfl (decide_eq_false (fun z => z ((nJ_eq (by omega) (by omega)).mpr c))) ?_
      rw [if_pos c]
      refine E_il rfl L1 ?_
      refine E_il rfl L2 ?_
      refine E_il rfl L3 ?_
      refine E_call rfl (sp_nearestFree (d := d) hm p9 w1 wp) (chkS rfl (by show 0 ≤ 8; decide)) (fun h2 r2 => ?_)
      rintro ⟨e2, f2⟩
      rw [e2, f2]
      exact E_rti rfl ⟨rfl, rfl⟩
    · refine E_icT rfl (decide_eq_true (fun z => c ((nJ_eq (by omega) (by omega)).mp z))) ?_
      rw [if_neg c]
      refine E_il rfl L1 ?_
      refine E_il rfl L2 ?_
      refine E_il rfl L3 ?_
      refine E_ci 1 rfl (by decide) ?_
      refine E_bin rfl (nJ_add _ _) ?_
      refine E_call rfl (sp_firstFree (d := d) hm p9 (by omega) (by omega)) (chkS rfl (by show 0 ≤ 8; decide)) (fun h2 r2 => ?_)
      rintro ⟨e2, f2⟩
      rw [e2, f2]
      have fo := ff_ok (m := m) (p := p) (j := 10) (q := w + 1) (by omega)
      have f9 : ff m p 10 (w + 1) ≤ 9 := by rcases fo with q | ⟨_, q, _⟩ <;> omega
      refine E_is rfl (fun lv1 K4 kp => ?_)
      refine E_il rfl K4 ?_
      by_cases z : ff m p 10 (w + 1) = 0
      · refine E_ifF rfl (decide_eq_false (fun q => q ((nJ_eq0 (by omega)).mpr z))) ?_
        refine E_il rfl (kp 0 _ (by decide) rfl L0) ?_
        refine E_ci 3 rfl (by decide) ?_
        by_cases l3 : l = 3
        · refine E_icF rfl (decide_eq_false (fun q => q ((nJ_eq (by omega) (by omega)).mpr l3))) ?_
          rw [if_pos ⟨z, l3⟩]
          refine E_il rfl (kp 1 _ (by decide) rfl L1) ?_
          refine E_il rfl (kp 2 _ (by decide) rfl L2) ?_
          refine E_ci 1 rfl (by decide) ?_
          refine E_call rfl (sp_firstFree (d := d) hm p9 (by omega) (by omega)) (chkS rfl (by show 0 ≤ 8; decide)) (fun h3 r3 => ?_)
          rintro ⟨e3, f3⟩
          rw [e3, f3]
          refine E_goto rfl ?_
          exact E_rti rfl ⟨rfl, rfl⟩
        · refine E_icT rfl (decide_eq_true (fun q => l3 ((nJ_eq (by omega) (by omega)).mp q))) ?_
          rw [if_neg (fun q => l3 q.2)]
          refine E_il rfl K4 ?_
          exact E_rti rfl ⟨rfl, rfl⟩
      · refine E_ifT rfl (decide_eq_true (fun q => z ((nJ_eq0 (by omega)).mp q))) ?_
        rw [if_neg (fun q => z q.1)]
        refine E_il rfl K4 ?_
        exact E_rti rfl ⟨rfl, rfl⟩
  refine E_il rfl L0 ?_
  refine E_ci 1 rfl (by decide) ?_
  by_cases b1 : l = 1
  · refine E_icF rfl (decide_eq_false (fun z => z ((nJ_eq (by omega) (by omega)).mpr b1))) ?_
    refine E_il rfl L3 ?_
    refine E_ci 1 rfl (by decide) ?_
    by_cases b2 : 2 ≤ w
    · refine E_icF rfl (decide_eq_false (fun z => absurd ((nJ_le (by omega) (by omega)).mp z) (by omega))) ?_
      refine E_il rfl L2 ?_
      refine E_il rfl L3 ?_
      refine E_ci 1 rfl (by decide) ?_
      refine E_bin rfl (nJ_sub (by omega)) ?_
      refine E_call rfl (Sp_le (by omega) (sp_isFree8 (d := d) hm (show 1 ≤ w - 1 by omega) (by omega))) (chkS rfl (by show 0 ≤ 8; decide)) (fun h2 r2 => ?_)
      rintro ⟨e2, f2⟩
      rw [e2, f2, show w - 1 - 1 = w - 2 by omega]
      by_cases b3 : isB m (w - 2) = false
      · refine E_ifF rfl (by rw [zb_T b3]; rfl) ?_
        rw [if_pos ⟨b1, b2, b3⟩]
        refine E_il rfl L3 ?_
        refine E_ci 1 rfl (by decide) ?_
        refine E_bin rfl (nJ_sub (by omega)) ?_
        exact E_rti rfl ⟨rfl, rfl⟩
      · refine E_ifT rfl (by rw [zb_F b3]; rfl) ?_
        exact at34 (fun q => b3 q.2.2)
    · refine E_icT rfl (decide_eq_true ((nJ_le (by omega) (by omega)).mpr (by omega))) ?_
      exact at34 (fun q => b2 q.2.1)
  · refine E_icT rfl (decide_eq_true (fun z => b1 ((nJ_eq (by omega) (by omega)).mp z))) ?_
    exact at34 (fun q => b1 q.1)
end LOT
