/-! likes of both (wants u67b, u69) -/
noncomputable def tup (m : Nat) : Nat → Nat
  | 0 => 0
  | q + 1 => if isB m q = false then 0 else tup m q + 1
theorem tup_le (m : Nat) : ∀ q, tup m q ≤ q
  | 0 => Nat.le_refl 0
  | q + 1 => by
    have := tup_le m q
    show (if isB m q = false then 0 else tup m q + 1) ≤ q + 1
    split <;> omega
noncomputable def lks (l p s : Nat) (W : Nat → Nat) : Nat → Nat
  | 0 => 1
  | n + 1 => lks l p s W n * (if spt l p s W n = 0 then tup (tk l p s W n) p else 1 + tup (tk l p s W n) (spt l p s W n - 1))
theorem lks_W {l p s n : Nat} {W W' : Nat → Nat} (e : ∀ c, c < n → W c = W' c) : lks l p s W n = lks l p s W' n := by
  induction n with
  | zero => rfl
  | succ n ih =>
    have i := ih (fun c hc => e c (by omega))
    show lks l p s W n * (if spt l p s W n = 0 then tup (tk l p s W n) p else 1 + tup (tk l p s W n) (spt l p s W n - 1)) = lks l p s W' n * (if spt l p s W' n = 0 then tup (tk l p s W' n) p else 1 + tup (tk l p s W' n) (spt l p s W' n - 1))
    rw [i, spt_W (fun c hc => e c (by omega)), sf_W (fun c hc => e c (by omega))]
theorem hd_stayL {l p s n q : Nat} {W : Nat → Nat} (p9 : p ≤ 9) (V : ∀ c, c < n + 1 → 1 ≤ W c ∧ W c ≤ p) (q1 : 1 ≤ q) (q9 : q ≤ 9) (z : ¬ hd l p s W n q = 0) : hd l p s W (n + 1) q = hd l p s W n q := by
  have ok := spt_ok (l := l) (s := s) (W := W) (V n (by omega)).1 (V n (by omega)).2
  have hf := hd_free (l := l) (s := s) p9 (n := n) (W := W) (fun c hc => V c (by omega)) q q1 q9
  show (if spt l p s W n = q ∧ q ≠ 0 then n + 1 else hd l p s W n q) = _
  refine if_neg ?_
  rintro ⟨e, -⟩
  rcases ok with o | ⟨-, -, o⟩
  · omega
  · rw [e] at o; exact z (hf.mpr o)
theorem hd_farL {l p s n q : Nat} {W : Nat → Nat} (p9 : p ≤ 9) (q1 : 1 ≤ q) (q9 : q ≤ 9) (z : ¬ hd l p s W n q = 0) : ∀ j, (∀ c, c < n + j → 1 ≤ W c ∧ W c ≤ p) → hd l p s W (n + j) q = hd l p s W n q
  | 0, _ => rfl
  | j + 1, V => by
    have ih := hd_farL (l := l) (s := s) p9 q1 q9 z j (fun c hc => V c (by omega))
    have V' : ∀ c, c < (n + j) + 1 → 1 ≤ W c ∧ W c ≤ p := fun c hc => V c (by omega)
    exact (hd_stayL (n := n + j) p9 V' q1 q9 (by rw [ih]; exact z)).trans ih
theorem hd_gtL {l p s n q : Nat} {W : Nat → Nat} (z : hd l p s W n q = 0) : ∀ j, hd l p s W (n + j) q = 0 ∨ n < hd l p s W (n + j) q
  | 0 => .inl z
  | j + 1 => by
    have ih := hd_gtL (l := l) (p := p) (s := s) (W := W) z j
    show (if spt l p s W (n + j) = q ∧ q ≠ 0 then n + j + 1 else hd l p s W (n + j) q) = 0 ∨ n < (if spt l p s W (n + j) = q ∧ q ≠ 0 then n + j + 1 else hd l p s W (n + j) q)
    by_cases c : spt l p s W (n + j) = q ∧ q ≠ 0
    · rw [if_pos c]; exact .inr (by omega)
    · rw [if_neg c]; exact ih
/-- who holds a place came before the n-th: then it was taken before the n-th came -/
theorem hd_bef {l p s n N q : Nat} {W : Nat → Nat} (p9 : p ≤ 9) (hn : n ≤ N) (V : ∀ c, c < N → 1 ≤ W c ∧ W c ≤ p) (q1 : 1 ≤ q) (q9 : q ≤ 9) : (¬ hd l p s W N q = 0 ∧ hd l p s W N q ≤ n) ↔ isB (tk l p s W n) (q - 1) = true := by
  have hf := hd_free (l := l) (s := s) p9 (n := n) (W := W) (fun c hc => V c (by omega)) q q1 q9
  have hle := hd_le (l := l) (p := p) (s := s) (W := W) (q := q) n
  by_cases z : hd l p s W n q = 0
  · have := hd_gtL z (N - n)
    rw [show n + (N - n) = N by omega] at this
    constructor
    · rintro ⟨a, b⟩; omega
    · intro a; rw [hf.mp z] at a; cases a
  · have := hd_farL (l := l) (s := s) p9 q1 q9 z (N - n) (fun c hc => V c (by omega))
    rw [show n + (N - n) = N by omega] at this
    constructor
    · intro _
      cases k : isB (tk l p s W n) (q - 1)
      · exact absurd (hf.mpr k) z
      · rfl
    · intro _; rw [this]; exact ⟨z, hle⟩
section LKS
variable {h h2 : pm_H} {d : Nat}
theorem tu_loop {m : Nat} (hm : m < 512) (k : Nat) : ∀ {a : Nat} (lv : List (Nat × Value)), k ≤ 9 → pm_get lv 0 = some (.int (nJ m)) → pm_get lv 2 = some (.int (nJ a)) → pm_get lv 3 = some (.int (nJ k)) → Ends (pm_at tX8_takenUpTo) (pm_Rt pm_P (d + 1)) (4, lv, [], h, 0, 0) (fun h' r => h' = h ∧ r = some (.int (nJ (a + tup m k)))) := by
  induction k with
  | zero =>
    intro a lv k9 L0 L2 L3
    refine E_il rfl L3 ?_
    refine E_ci 1 rfl (by decide) ?_
    refine E_icT rfl (decide_eq_true ((nJ_lt (by omega) (by omega)).mpr (by omega))) ?_
    refine E_il rfl L2 ?_
    exact E_rti rfl ⟨rfl, rfl⟩
  | succ k ih =>
    intro a lv k9 L0 L2 L3
    refine E_il rfl L3 ?_
    refine E_ci 1 rfl (by decide) ?_
    refine E_icF rfl (decide_eq_false (fun z => absurd ((nJ_lt (by omega) (by omega)).mp z) (by omega))) ?_
    refine E_il rfl L0 ?_
    refine E_il rfl L3 ?_
    refine E_call rfl (sp_isFree8 (d := d) hm (show 1 ≤ k + 1 by omega) k9) (chkS rfl (by show 0 ≤ 8; decide)) (fun h1 r1 => ?_)
    rintro ⟨e1, f1⟩
    rw [e1, f1, show k + 1 - 1 = k by omega]
    have es : tup m (k + 1) = if isB m k = false then 0 else tup m k + 1 := rfl
    by_cases b : isB m k = false
    · refine E_ifT rfl (by rw [zb_T b]; rfl) ?_
      rw [if_pos b] at es
      rw [es]
      refine E_il rfl L2 ?_
      exact E_rti rfl ⟨rfl, rfl⟩
    · refine E_ifF rfl (by rw [zb_F b]; rfl) ?_
      rw [if_neg b] at es
      rw [es, show a + (tup m k + 1) = a + 1 + tup m k by omega]
      refine E_inc rfl L2 (nJ_inc _) (fun lv1 K2 kp => ?_)
      refine E_inc rfl (kp 3 _ (by decide) rfl L3) (show nJ (k + 1) + (-1) = nJ k from pI_dec (k + 1)) (fun lv2 K3 kp2 => ?_)
      refine E_goto rfl ?_
      exact ih lv2 (by omega) (kp2 0 _ (by decide) rfl (kp 0 _ (by decide) rfl L0)) (kp2 2 _ (by decide) rfl K2) K3
theorem sp_takenUpTo8 {m q : Nat} (hm : m < 512) (q9 : q ≤ 9) : Sp (d + 2) 188 h [.int (nJ m), .int (nJ q)] (fun h' r => h' = h ∧ r = some (.int (nJ (tup m q)))) := by
  refine Sp_of aiX8_takenUpTo rfl rfl rfl ?_
  have L0 : pm_get (lv_args 0 [.int (nJ m), .int (nJ q)]) 0 = some (.int (nJ m)) := rfl
  have L1 : pm_get (lv_args 0 [.int (nJ m), .int (nJ q)]) 1 = some (.int (nJ q)) := rfl
  generalize lv_args 0 [.int (nJ m), .int (nJ q)] = lv at L0 L1 ⊢
  refine E_ci 0 rfl (by decide) ?_
  refine E_is rfl (fun lv1 K2 kp => ?_)
  refine E_il rfl (kp 1 _ (by decide) rfl L1) ?_
  refine E_is rfl (fun lv2 K3 kp2 => ?_)
  refine Ends_mono ?_ (tu_loop hm q (a := 0) lv2 q9 (kp2 0 _ (by decide) rfl (kp 0 _ (by decide) rfl L0)) (kp2 2 _ (by decide) rfl K2) K3)
  rintro h' r ⟨e, f⟩
  exact ⟨e, by rw [f, Nat.zero_add]⟩
/-- the class parks by a law, the wishes of a row -/
theorem sp_park8 {A l : Nat} {hi : Int} (hA : hs0[A]? = some (.inl (0, 8, [(0, hi)]))) (A2 : A ≠ 62 ∧ A ≠ 63) (hh : HH h) (l3 : l ≤ 3) (V : ∀ c, c < gn h 15 4 → 1 ≤ gn h A c ∧ gn h A c ≤ gn h 15 0) : Sp (d + 5) 153 h [.ref 0, .ref A, .int (nJ l)] (fun h' r => r = none ∧ HH h' ∧ fr_g FL h h' ∧ LTP l (gn h 15 0) (2 ^ gn h 15 4 - 1) (gn h A) (gn h 15 4) h') := by
  obtain ⟨a1, a2, a3, a4, -⟩ := g15 hh
  refine Sp_of aiX8_park rfl rfl rfl ?_
  have L0 : pm_get (lv_args 0 [.ref 0, .ref A, .int (nJ l)]) 0 = some (.ref 0) := rfl
  have L1 : pm_get (lv_args 0 [.ref 0, .ref A, .int (nJ l)]) 1 = some (.ref A) := rfl
  have L2 : pm_get (lv_args 0 [.ref 0, .ref A, .int (nJ l)]) 2 = some (.int (nJ l)) := rfl
  generalize lv_args 0 [.ref 0, .ref A, .int (nJ l)] = lv at L0 L1 L2 ⊢
  refine E_al rfl L0 ?_
  refine E_ogr (q := 62) rfl hh rfl rfl ?_
  refine E_al rfl L1 ?_
  refine E_al rfl L0 ?_
  refine E_ogr (q := 15) rfl hh rfl rfl ?_
  refine E_ogf (q := (0, 8)) rfl hh rfl rfl a3 ?_
  refine E_al rfl L0 ?_
  refine E_call rfl (Sp_le (by omega) (sp_everyCar (d := d) hh)) (chkO (a := 0) hh rfl rfl rfl rfl (by show 3 ≤ 8; decide)) (fun h1 r1 => ?_)
  rintro ⟨e1, f1⟩
  rw [e1, f1]
  refine E_al rfl L0 ?_
  refine E_ogr (q := 15) rfl hh rfl rfl ?_
  refine E_ogf (q := (0, 8)) rfl hh rfl rfl a1 ?_
  refine E_il rfl L2 ?_
  refine E_call rfl (sp_fill (d := d) hA A2 hh l3 (by omega) (all_lt a4) a4 V) (chkO (a := 62) hh rfl rfl rfl rfl (by show 0 ≤ 8; decide)) (fun h2 r2 => ?_)
  rintro ⟨e2, hh2, f2, t2⟩
  rw [e2]
  exact E_ret rfl ⟨rfl, hh2, f2, t2⟩
/-- the places by law 0 -/
noncomputable def SP0 (h : pm_H) (i : Nat) : Nat := spt 0 (P9 h) (2 ^ N9 h - 1) (W9 h) i
noncomputable def TK0 (h : pm_H) (n : Nat) : Nat := tk 0 (P9 h) (2 ^ N9 h - 1) (W9 h) n
noncomputable def LK0 (h : pm_H) (n : Nat) : Nat := lks 0 (P9 h) (2 ^ N9 h - 1) (W9 h) n
theorem LK0_s (n : Nat) : LK0 h (n + 1) = LK0 h n * (if SP0 h n = 0 then tup (TK0 h n) (P9 h) else 1 + tup (TK0 h n) (SP0 h n - 1)) := rfl
theorem TK0_s (n : Nat) : TK0 h (n + 1) = ad (TK0 h n) (SP0 h n) := rfl
theorem SP0_ok (B : B9 h) {i : Nat} (hi : i < N9 h) : okS (P9 h) (TK0 h i) (SP0 h i) := spt_ok (B i hi).1 (B i hi).2
theorem TK0_lt (hh : HH h) (B : B9 h) {n : Nat} (hn : n ≤ N9 h) : TK0 h n < 512 := Nat.lt_of_lt_of_le (tk_lt (Nat.le_trans (g9s hh).2.1 (by decide)) (fun c hc => B c (by omega))) (Nat.le_trans (Nat.pow_le_pow_right (n := 2) (by omega) (g9s hh).2.1) (by decide))
theorem ll8_loop (hh : HH h) (B : B9 h) (hh2 : HH h2) (g4 : gi h2 15 4 = nJ (N9 h)) (g0 : gi h2 15 0 = nJ (P9 h)) (gs : ∀ i, i < N9 h → gi h2 63 i = nJ (SP0 h i)) (j : Nat) : ∀ {c : Nat} (lv : List (Nat × Value)), c + j = N9 h → pm_get lv 0 = some (.ref 0) → pm_get lv 1 = some (.int (nJ (LK0 h c))) → pm_get lv 2 = some (.int (nJ (TK0 h c))) → pm_get lv 3 = some (.int (nJ c)) → Ends (pm_at tX8_likes) (pm_Rt pm_P (d + 5)) (28, lv, [], h2, 0, 0) (fun h' r => h' = h2 ∧ r = some (.int (nJ (LK0 h (N9 h))))) := by
  obtain ⟨l3, p8, n8⟩ := g9s hh
  induction j with
  | zero =>
    intro c lv hj L0 L1 L2 L3
    refine E_il rfl L3 ?_
    refine E_al rfl L0 ?_
    refine E_ogr (q := 15) rfl hh2 rfl rfl ?_
    refine E_ogf (q := (0, 8)) rfl hh2 rfl rfl g4 ?_
    refine E_icT rfl (decide_eq_true ((nJ_le (by omega) (by omega)).mpr (by omega))) ?_
    refine E_il rfl L1 ?_
    have e : c = N9 h := by omega
    exact E_rti rfl ⟨rfl, by rw [e]⟩
  | succ j ih =>
    intro c lv hj L0 L1 L2 L3
    have hc : c < N9 h := by omega
    have ok := SP0_ok B hc
    have tl := TK0_lt hh B (show c ≤ N9 h by omega)
    have s8 : SP0 h c ≤ 8 := by rcases ok with e | ⟨_, e, _⟩ <;> omega
    refine E_il rfl L3 ?_
    refine E_al rfl L0 ?_
    refine E_ogr (q := 15) rfl hh2 rfl rfl ?_
    refine E_ogf (q := (0, 8)) rfl hh2 rfl rfl g4 ?_
    refine E_icF rfl (decide_eq_false (fun z => absurd ((nJ_le (by omega) (by omega)).mp z) (by omega))) ?_
    refine E_al rfl L0 ?_
    refine E_ogr (q := 62) rfl hh2 rfl rfl ?_
    refine E_ogr (q := 63) rfl hh2 rfl rfl ?_
    refine E_il rfl L3 ?_
    refine E_ial rfl hh2 rfl (by omega) (by decide) (gs c hc) ?_
    refine E_is rfl (fun lv1 M4 kp => ?_)
    have M0 := kp 0 _ (by decide) rfl L0
    have M1 := kp 1 _ (by decide) rfl L1
    have M2 := kp 2 _ (by decide) rfl L2
    have M3 := kp 3 _ (by decide) rfl L3
    have nx : ∀ (lv : List (Nat × Value)), pm_get lv 0 = some (.ref 0) → pm_get lv 1 = some (.int (nJ (LK0 h (c + 1)))) → pm_get lv 2 = some (.int (nJ (TK0 h (c + 1)))) → pm_get lv 3 = some (.int (nJ c)) → Ends (pm_at tX8_likes) (pm_Rt pm_P (d + 5)) (93, lv, [], h2, 0, 0) (fun h' r => h' = h2 ∧ r = some (.int (nJ (LK0 h (N9 h))))) := by
      intro lv N0 N1 N2 N3
      refine E_inc rfl N3 (nJ_inc _) (fun lv2 K3 kp2 => ?_)
      refine E_goto rfl ?_
      exact ih lv2 (by omega) (kp2 0 _ (by decide) rfl N0) (kp2 1 _ (by decide) rfl N1) (kp2 2 _ (by decide) rfl N2) K3
    refine E_il rfl M4 ?_
    by_cases z : SP0 h c = 0
    · refine E_ifF rfl (decide_eq_false (fun q => q ((nJ_eq0 (by omega)).mpr z))) ?_
      refine E_il rfl M1 ?_
      refine E_il rfl M2 ?_
      refine E_al rfl M0 ?_
      refine E_ogr (q := 15) rfl hh2 rfl rfl ?_
      refine E_ogf (q := (0, 8)) rfl hh2 rfl rfl g0 ?_
      refine E_call rfl (Sp_le (by omega) (sp_takenUpTo8 (d := d) tl (show P9 h ≤ 9 by omega))) (chkS rfl (by show 1 ≤ 8; decide)) (fun h3 r3 => ?_)
      rintro ⟨e3, f3⟩
      rw [e3, f3]
      refine E_bin rfl (nJ_mul _ _) ?_
      refine E_is rfl (fun lv2 K1 kp2 => ?_)
      refine E_goto rfl ?_
      refine nx lv2 (kp2 0 _ (by decide) rfl M0) ?_ ?_ (kp2 3 _ (by decide) rfl M3)
      · rw [LK0_s, if_pos z]; exact K1
      · rw [TK0_s, z]; exact kp2 2 _ (by decide) rfl M2
    · obtain ⟨q1, qp, qf⟩ : 1 ≤ SP0 h c ∧ SP0 h c ≤ P9 h ∧ isB (TK0 h c) (SP0 h c - 1) = false := by rcases ok with e | e; exact absurd e z; exact e
      refine E_ifT rfl (decide_eq_true (fun q => z ((nJ_eq0 (by omega)).mp q))) ?_
      refine E_il rfl M1 ?_
      refine E_ci 1 rfl (by decide) ?_
      refine E_il rfl M2 ?_
      refine E_il rfl M4 ?_
      refine E_ci 1 rfl (by decide) ?_
      refine E_bin rfl (nJ_sub q1) ?_
      refine E_call rfl (Sp_le (by omega) (sp_takenUpTo8 (d := d) tl (show SP0 h c - 1 ≤ 9 by omega))) (chkS rfl (by show 2 ≤ 8; decide)) (fun h3 r3 => ?_)
      rintro ⟨e3, f3⟩
      rw [e3, f3]
      refine E_bin rfl (nJ_add _ _) ?_
      refine E_bin rfl (nJ_mul _ _) ?_
      refine E_is rfl (fun lv2 K1 kp2 => ?_)
      refine E_il rfl (kp2 2 _ (by decide) rfl M2) ?_
      refine E_il rfl (kp2 4 _ (by decide) rfl M4) ?_
      refine E_call rfl (Sp_le (by omega) (sp_placeBit (d := d) q1 (by omega))) (chkS rfl (by show 1 ≤ 8; decide)) (fun h4 r4 => ?_)
      rintro ⟨e4, f4⟩
      rw [e4, f4]
      refine E_bin rfl (show nJ (TK0 h c) ||| nJ (2 ^ (SP0 h c - 1)) = nJ (TK0 h c + 2 ^ (SP0 h c - 1)) from or2_tab ⟨TK0 h c, tl⟩ ⟨SP0 h c - 1, by omega⟩ qf) ?_
      refine E_is rfl (fun lv3 K2 kp3 => ?_)
      refine nx lv3 (kp3 0 _ (by decide) rfl (kp2 0 _ (by decide) rfl M0)) ?_ ?_ (kp3 3 _ (by decide) rfl (kp2 3 _ (by decide) rfl M3))
      · rw [LK0_s, if_neg z]; exact kp3 1 _ (by decide) rfl K1
      · rw [TK0_s]
        unfold ad
        rw [if_neg z]
        exact K2
theorem sp_likes8 (hh : HH h) (R : QRE h) : Sp (d + 6) 142 h [.ref 0] (fun h' r => K9 h h' ∧ r = some (.int (qv h (nJ (LK0 h (N9 h)))))) := by
  have F := CW8_of hh R
  have B := B9_of R
  have s := R.2.1.1
  have e4 : gn h 15 4 = N9 h := gn_eq s.2.2.1
  have e0 : gn h 15 0 = P9 h := gn_eq (s.2.1 0 (by omega))
  have ne : ∀ c, c < N9 h → gn h 17 c = W9 h c := fun c hc => (now_eq R c hc).1
  obtain ⟨l3, p8, n8⟩ := g9s hh
  refine Sp_of aiX8_likes rfl rfl rfl ?_
  have L0 : pm_get (lv_args 0 [.ref 0]) 0 = some (.ref 0) := rfl
  generalize lv_args 0 [.ref 0] = lv at L0 ⊢
  have k0 : K9 h h := ⟨fun _ => rfl, fun _ => rfl, fun _ => rfl, fun _ => rfl⟩
  refine E_al rfl L0 ?_
  refine E_call rfl (Sp_le (by omega) (sp_hasStreet8 (d := d) hh)) (chkO (a := 0) hh rfl rfl rfl rfl (by show 0 ≤ 8; decide)) (fun h1 r1 => ?_)
  rintro ⟨e1, f1⟩
  rw [e1, f1]
  by_cases b : 0 < gn h 15 0
  · refine E_ifT rfl (by rw [zb_T b]; rfl) ?_
    rw [show qv h (nJ (LK0 h (N9 h))) = nJ (LK0 h (N9 h)) from if_pos ((st_eq R).mp b)]
    refine E_al rfl L0 ?_
    refine E_al rfl L0 ?_
    refine E_ogr (q := 15) rfl hh rfl rfl ?_
    refine E_ogr (q := 17) rfl hh rfl rfl ?_
    refine E_ci 0 rfl (by decide) ?_
    refine E_call rfl (sp_park8 (d := d) (A := 17) (l := 0) (hi := 8) rfl (by decide) hh (by omega) (fun c hc => by rw [e4] at hc; rw [ne c hc, e0]; exact B c hc)) (chkO (a := 0) hh rfl rfl rfl rfl (by show 0 ≤ 8; decide)) (fun h2 r2 => ?_)
    rintro ⟨e2, hh2, f2, t2⟩
    rw [e2]
    rw [e4, e0] at t2
    obtain ⟨-, -, -, t4⟩ := t2
    refine E_ci 1 rfl (by decide) ?_
    refine E_is rfl (fun lv1 K1 kp => ?_)
    refine E_ci 0 rfl (by decide) ?_
    refine E_is rfl (fun lv2 K2 kp2 => ?_)
    refine E_ci 0 rfl (by decide) ?_
    refine E_is rfl (fun lv3 K3 kp3 => ?_)
    refine Ends_mono ?_ (ll8_loop hh B hh2 (by rw [fr_gi f2 (rg_no rfl _)]; exact F.1) (by rw [fr_gi f2 (rg_no rfl _)]; exact F.2.1) (fun i hi => by rw [t4 i hi, spt_W (W' := W9 h) (fun c hc => ne c (by omega))]; rfl) (N9 h) (c := 0) lv3 (by omega) (kp3 0 _ (by decide) rfl (kp2 0 _ (by decide) rfl (kp 0 _ (by decide) rfl L0))) (kp3 1 _ (by decide) rfl (kp2 1 _ (by decide) rfl K1)) (kp3 2 _ (by decide) rfl K2) K3)
    rintro h' r ⟨rfl, e⟩
    exact ⟨K9_fr f2 rfl rfl rfl rfl, e⟩
  · refine E_ifF rfl (by rw [zb_F b]; rfl) ?_
    rw [show qv h (nJ (LK0 h (N9 h))) = -2 from if_neg (fun q => b ((st_eq R).mpr q))]
    refine E_c rfl ?_
    exact E_rti rfl ⟨k0, rfl⟩
/-! the reference -/
theorem li_loop {c : Nat} (hh : HH h) (B : B9 h) (hc : c ≤ N9 h) (hh2 : HH h2) (gh : ∀ q, q ≤ 9 → gi h2 90 q = pI (hd 0 (P9 h) (2 ^ N9 h - 1) (W9 h) (N9 h) q)) {Q : pm_H → Option Value → Prop} (k : Nat) : ∀ {a : Nat} (lv : List (Nat × Value)), k ≤ 9 → (∀ (lv' : List (Nat × Value)), (∀ i v, i ≠ 4 → i ≠ 5 → v.category = 1 → pm_get lv i = some v → pm_get lv' i = some v) → pm_get lv' 4 = some (.int (nJ (a + tup (TK0 h c) k))) → Ends (pm_at tX9_likes) (pm_Rt pm_P d) (121, lv', [], h2, 0, 0) Q) → pm_get lv 0 = some (.ref 77) → pm_get lv 2 = some (.int (nJ c)) → pm_get lv 4 = some (.int (nJ a)) → pm_get lv 5 = some (.int (nJ k)) → Ends (pm_at tX9_likes) (pm_Rt pm_P d) (84, lv, [], h2, 0, 0) Q := by
  obtain ⟨l3, p8, n8⟩ := g9s hh
  induction k with
  | zero =>
    intro a lv k9 KK L0 L2 L4 L5
    refine E_il rfl L5 ?_
    refine E_ci 1 rfl (by decide) ?_
    refine E_icT rfl (decide_eq_true ((nJ_lt (by omega) (by omega)).mpr (by omega))) ?_
    exact KK lv (fun i v _ _ _ q => q) L4
  | succ k ih =>
    intro a lv k9 KK L0 L2 L4 L5
    have hb := hd_bef (l := 0) (p := P9 h) (s := 2 ^ N9 h - 1) (W := W9 h) (n := c) (N := N9 h) (q := k + 1) (by omega) hc B (by omega) k9
    rw [show k + 1 - 1 = k by omega] at hb
    have hl := hd_le (l := 0) (p := P9 h) (s := 2 ^ N9 h - 1) (W := W9 h) (q := k + 1) (N9 h)
    have es : tup (TK0 h c) (k + 1) = if isB (TK0 h c) k = false then 0 else tup (TK0 h c) k + 1 := rfl
    have stop : ¬ (¬ hd 0 (P9 h) (2 ^ N9 h - 1) (W9 h) (N9 h) (k + 1) = 0 ∧ hd 0 (P9 h) (2 ^ N9 h - 1) (W9 h) (N9 h) (k + 1) ≤ c) → Ends (pm_at tX9_likes) (pm_Rt pm_P d) (121, lv, [], h2, 0, 0) Q := by
      intro q
      have bf : isB (TK0 h c) k = false := by
        cases b : isB (TK0 h c) k
        · rfl
        · exact absurd (hb.mpr b) q
      rw [if_pos bf] at es
      exact KK lv (fun i v _ _ _ q => q) (by rw [es]; exact L4)
    refine E_il rfl L5 ?_
    refine E_ci 1 rfl (by decide) ?_
    refine E_icF rfl (decide_eq_false (fun z => absurd ((nJ_lt (by omega) (by omega)).mp z) (by omega))) ?_
    refine E_al rfl L0 ?_
    refine E_gr rfl hh2 (q := 90) rfl ?_
    refine E_il rfl L5 ?_
    refine E_ial rfl hh2 rfl (by omega) (by decide) (gh (k + 1) k9) ?_
    refine E_c rfl ?_
    by_cases z : hd 0 (P9 h) (2 ^ N9 h - 1) (W9 h) (N9 h) (k + 1) = 0
    · refine E_icT rfl (decide_eq_true ((pI_n1 (by omega)).mpr z)) ?_
      exact stop (fun q => q.1 z)
    refine E_icF rfl (decide_eq_false (fun q => z ((pI_n1 (by omega)).mp q))) ?_
    refine E_al rfl L0 ?_
    refine E_gr rfl hh2 (q := 90) rfl ?_
    refine E_il rfl L5 ?_
    have ep : pI (hd 0 (P9 h) (2 ^ N9 h - 1) (W9 h) (N9 h) (k + 1)) = nJ (hd 0 (P9 h) (2 ^ N9 h - 1) (W9 h) (N9 h) (k + 1) - 1) := by rw [← pI_of]; exact nJ_sub (by omega)
    refine E_ial rfl hh2 rfl (by omega) (by decide) ((gh (k + 1) k9).trans ep) ?_
    refine E_il rfl L2 ?_
    by_cases y : hd 0 (P9 h) (2 ^ N9 h - 1) (W9 h) (N9 h) (k + 1) ≤ c
    · refine E_icF rfl (decide_eq_false (fun q => absurd ((nJ_le (by omega) (by omega)).mp q) (by omega))) ?_
      have bt : isB (TK0 h c) k = true := hb.mp ⟨z, y⟩
      rw [if_neg (by rw [bt]; decide)] at es
      refine E_inc rfl L4 (nJ_inc _) (fun lv1 K4 kp => ?_)
      refine E_inc rfl (kp 5 _ (by decide) rfl L5) (show nJ (k + 1) + (-1) = nJ k from pI_dec (k + 1)) (fun lv2 K5 kp2 => ?_)
      refine E_goto rfl ?_
      refine ih (a := a + 1) lv2 (by omega) (fun lv' keep R4 => ?_) (kp2 0 _ (by decide) rfl (kp 0 _ (by decide) rfl L0)) (kp2 2 _ (by decide) rfl (kp 2 _ (by decide) rfl L2)) (kp2 4 _ (by decide) rfl K4) K5
      refine KK lv' (fun i v i4 i5 ct q => keep i v i4 i5 ct (kp2 i v i5 ct (kp i v i4 ct q))) ?_
      rw [es, show a + (tup (TK0 h c) k + 1) = a + 1 + tup (TK0 h c) k by omega]
      exact R4
    · refine E_icT rfl (decide_eq_true ((nJ_le (by omega) (by omega)).mpr (by omega))) ?_
      exact stop (fun q => y q.2)
theorem ll9_loop (hh : HH h) (B : B9 h) (hh2 : HH h2) (g3 : gn h2 84 3 = N9 h) (g0 : gn h2 84 0 = P9 h) (gh : ∀ q, q ≤ 9 → gi h2 90 q = pI (hd 0 (P9 h) (2 ^ N9 h - 1) (W9 h) (N9 h) q)) (gs : ∀ i, i < N9 h → gi h2 91 i = pO (SP0 h i)) (j : Nat) : ∀ {c : Nat} (lv : List (Nat × Value)), c + j = N9 h → pm_get lv 0 = some (.ref 77) → pm_get lv 1 = some (.int (nJ (LK0 h c))) → pm_get lv 2 = some (.int (nJ c)) → Ends (pm_at tX9_likes) (pm_Rt pm_P (d + 6)) (28, lv, [], h2, 0, 0) (fun h' r => r = some (.int (nJ (LK0 h (N9 h))))) := by
  obtain ⟨l3, p8, n8⟩ := g9s hh
  induction j with
  | zero =>
    intro c lv hj L0 L1 L2
    refine E_il rfl L2 ?_
    refine E_al rfl L0 ?_
    refine E_call rfl (Sp_le (by omega) (sp_cars (d := d) hh2)) (chk77 hh2 rfl rfl (by show 1 ≤ 8; decide)) (fun h1 r1 => ?_)
    rintro ⟨e1, f1, -⟩
    rw [e1, f1, g3]
    refine E_icT rfl (decide_eq_true ((nJ_le (by omega) (by omega)).mpr (by omega))) ?_
    refine E_il rfl L1 ?_
    have e : c = N9 h := by omega
    exact E_rti rfl (by rw [e])
  | succ j ih =>
    intro c lv hj L0 L1 L2
    have hc : c < N9 h := by omega
    have ok := SP0_ok B hc
    have s8 : SP0 h c ≤ 8 := by rcases ok with e | ⟨_, e, _⟩ <;> omega
    refine E_il rfl L2 ?_
    refine E_al rfl L0 ?_
    refine E_call rfl (Sp_le (by omega) (sp_cars (d := d) hh2)) (chk77 hh2 rfl rfl (by show 1 ≤ 8; decide)) (fun h1 r1 => ?_)
    rintro ⟨e1, f1, -⟩
    rw [e1, f1, g3]
    refine E_icF rfl (decide_eq_false (fun z => absurd ((nJ_le (by omega) (by omega)).mp z) (by omega))) ?_
    refine E_al rfl L0 ?_
    refine E_gr rfl hh2 (q := 91) rfl ?_
    refine E_il rfl L2 ?_
    refine E_ial rfl hh2 rfl (by omega) (by decide) (gs c hc) ?_
    refine E_c rfl ?_
    have fin : ∀ (b k : Nat) (lv : List (Nat × Value)), k ≤ 9 → LK0 h (c + 1) = LK0 h c * (b + tup (TK0 h c) k) → pm_get lv 0 = some (.ref 77) → pm_get lv 1 = some (.int (nJ (LK0 h c))) → pm_get lv 2 = some (.int (nJ c)) → pm_get lv 4 = some (.int (nJ b)) → pm_get lv 5 = some (.int (nJ k)) → Ends (pm_at tX9_likes) (pm_Rt pm_P (d + 6)) (84, lv, [], h2, 0, 0) (fun h' r => r = some (.int (nJ (LK0 h (N9 h))))) := by
      intro b k lv k9 ek N0 N1 N2 N4 N5
      refine li_loop hh B (show c ≤ N9 h by omega) hh2 gh k lv k9 (fun lv' keep R4 => ?_) N0 N2 N4 N5
      refine E_il rfl (keep 1 _ (by decide) (by decide) rfl N1) ?_
      refine E_il rfl R4 ?_
      refine E_bin rfl (nJ_mul _ _) ?_
      refine E_is rfl (fun lv1 K1 kp => ?_)
      refine E_inc rfl (kp 2 _ (by decide) rfl (keep 2 _ (by decide) (by decide) rfl N2)) (nJ_inc _) (fun lv2 K2 kp2 => ?_)
      refine E_goto rfl ?_
      exact ih (c := c + 1) lv2 (by omega) (kp2 0 _ (by decide) rfl (kp 0 _ (by decide) rfl (keep 0 _ (by decide) (by decide) rfl N0))) (by rw [ek]; exact kp2 1 _ (by decide) rfl K1) K2
    by_cases z : SP0 h c = 0
    · refine E_icF rfl (decide_eq_false (fun q => q ((pO_n1 (by omega)).mpr z))) ?_
      refine E_al rfl L0 ?_
      refine E_call rfl (Sp_le (by omega) (sp_places (d := d) hh2)) (chk77 hh2 rfl rfl (by show 0 ≤ 8; decide)) (fun h3 r3 => ?_)
      rintro ⟨e3, f3, -⟩
      rw [e3, f3, g0]
      refine E_ci 1 rfl (by decide) ?_
      refine E_bin rfl (nJ_add _ _) ?_
      refine E_goto rfl ?_
      refine E_is rfl (fun lv1 K3 kp => ?_)
      refine E_al rfl (kp 0 _ (by decide) rfl L0) ?_
      refine E_gr rfl hh2 (q := 91) rfl ?_
      refine E_il rfl (kp 2 _ (by decide) rfl L2) ?_
      refine E_ial rfl hh2 rfl (by omega) (by decide) (gs c hc) ?_
      refine E_c rfl ?_
      refine E_icF rfl (decide_eq_false (fun q => q ((pO_n1 (by omega)).mpr z))) ?_
      refine E_ci 0 rfl (by decide) ?_
      refine E_goto rfl ?_
      refine E_is rfl (fun lv2 K4 kp2 => ?_)
      refine E_il rfl (kp2 3 _ (by decide) rfl K3) ?_
      refine E_ci 1 rfl (by decide) ?_
      refine E_bin rfl (nJ_sub (by omega)) ?_
      refine E_is rfl (fun lv3 K5 kp3 => ?_)
      rw [show P9 h + 1 - 1 = P9 h by omega] at K5
      exact fin 0 (P9 h) lv3 (by omega) (by rw [LK0_s, if_pos z, Nat.zero_add]) (kp3 0 _ (by decide) rfl (kp2 0 _ (by decide) rfl (kp 0 _ (by decide) rfl L0))) (kp3 1 _ (by decide) rfl (kp2 1 _ (by decide) rfl (kp 1 _ (by decide) rfl L1))) (kp3 2 _ (by decide) rfl (kp2 2 _ (by decide) rfl (kp 2 _ (by decide) rfl L2))) (kp3 4 _ (by decide) rfl K4) K5
    · have ez : pO (SP0 h c) = nJ (SP0 h c) := by unfold pO; rw [if_neg z]
      refine E_icT rfl (decide_eq_true (fun q => z ((pO_n1 (by omega)).mp q))) ?_
      refine E_al rfl L0 ?_
      refine E_gr rfl hh2 (q := 91) rfl ?_
      refine E_il rfl L2 ?_
      refine E_ial rfl hh2 rfl (by omega) (by decide) ((gs c hc).trans ez) ?_
      refine E_is rfl (fun lv1 K3 kp => ?_)
      refine E_al rfl (kp 0 _ (by decide) rfl L0) ?_
      refine E_gr rfl hh2 (q := 91) rfl ?_
      refine E_il rfl (kp 2 _ (by decide) rfl L2) ?_
      refine E_ial rfl hh2 rfl (by omega) (by decide) (gs c hc) ?_
      refine E_c rfl ?_
      refine E_icT rfl (decide_eq_true (fun q => z ((pO_n1 (by omega)).mp q))) ?_
      refine E_ci 1 rfl (by decide) ?_
      refine E_is rfl (fun lv2 K4 kp2 => ?_)
      refine E_il rfl (kp2 3 _ (by decide) rfl K3) ?_
      refine E_ci 1 rfl (by decide) ?_
      refine E_bin rfl (nJ_sub (by omega)) ?_
      refine E_is rfl (fun lv3 K5 kp3 => ?_)
      exact fin 1 (SP0 h c - 1) lv3 (by omega) (by rw [LK0_s, if_neg z]) (kp3 0 _ (by decide) rfl (kp2 0 _ (by decide) rfl (kp 0 _ (by decide) rfl L0))) (kp3 1 _ (by decide) rfl (kp2 1 _ (by decide) rfl (kp 1 _ (by decide) rfl L1))) (kp3 2 _ (by decide) rfl (kp2 2 _ (by decide) rfl (kp 2 _ (by decide) rfl L2))) (kp3 4 _ (by decide) rfl K4) K5
theorem sp_likes9 (hh : HH h) (V : V9 h) (B : B9 h) : Sp (d + 7) 302 h [.ref 77] (fun h' r => r = some (.int (qv h (nJ (LK0 h (N9 h)))))) := by
  obtain ⟨l3, p8, n8⟩ := g9s hh
  refine Sp_of aiX9_likes rfl rfl rfl ?_
  have L0 : pm_get (lv_args 0 [.ref 77]) 0 = some (.ref 77) := rfl
  generalize lv_args 0 [.ref 77] = lv at L0 ⊢
  refine E_al rfl L0 ?_
  refine E_ci 0 rfl (by decide) ?_
  refine E_pf rfl hh rfl ?_
  have hg : HH (pt h 77 0 (nJ 0)) := HH_ptn hh rfl (by omega) (by omega) (by omega)
  have k : K9 h (pt h 77 0 (nJ 0)) := K9_77
  generalize pt h 77 0 (nJ 0) = g at hg k ⊢
  refine E_al rfl L0 ?_
  refine E_call rfl (Sp_le (by omega) (sp_isStreet (d := d) hg)) (chk77 hg rfl rfl (by show 0 ≤ 8; decide)) (fun h1 r1 => ?_)
  rintro ⟨e1, f1⟩
  rw [e1, f1, k.2.2.2]
  by_cases b : 0 < (gi h 83 0).toInt
  · refine E_ifT rfl (by rw [zb_T b]; rfl) ?_
    rw [show qv h (nJ (LK0 h (N9 h))) = nJ (LK0 h (N9 h)) from if_pos b]
    refine E_al rfl L0 ?_
    refine E_call rfl (Sp_le (by omega) (sp_laysX (d := d) hg (V9_K k V))) (chk77 hg rfl rfl (by show 0 ≤ 8; decide)) (fun h2 r2 => ?_)
    rintro ⟨e2, hh2, f2, -, q23, w2⟩
    rw [e2]
    have T := LY9_of k hh2 f2 w2
    obtain ⟨-, u0, u3, u9⟩ := T
    have wb : ∀ c, c < gn h2 84 3 → 1 ≤ gn h2 89 c ∧ gn h2 89 c ≤ gn h2 84 0 := fun c hc => by
      rw [u3] at hc
      rw [u9 c hc, u0]
      exact B c hc
    refine E_al rfl L0 ?_
    refine E_ci 0 rfl (by decide) ?_
    refine E_call rfl (Sp_le (by omega) (sp_parksX (d := d) (l := 0) (s := 2 ^ gn g 84 3 - 1) hh2 (by omega) (all_lt (by rw [show gn g 84 3 = N9 h from N9_K k]; exact n8)) q23 wb)) (chk77 hh2 rfl rfl (by show 0 ≤ 8; decide)) (fun h3 r3 => ?_)
    rintro ⟨e3, hh3, f3, t3⟩
    rw [e3]
    rw [u0, u3, show gn g 84 3 = N9 h from N9_K k] at t3
    obtain ⟨-, t4, t5⟩ := PKD_W (W' := W9 h) u9 t3
    refine E_ci 1 rfl (by decide) ?_
    refine E_is rfl (fun lv1 K1 kp => ?_)
    refine E_ci 0 rfl (by decide) ?_
    refine E_is rfl (fun lv2 K2 kp2 => ?_)
    exact ll9_loop hh B hh3 ((fr_gn f3 (rg_no rfl _)).trans u3) ((fr_gn f3 (rg_no rfl _)).trans u0) t4 t5 (N9 h) (c := 0) lv2 (by omega) (kp2 0 _ (by decide) rfl (kp 0 _ (by decide) rfl L0)) (kp2 1 _ (by decide) rfl K1) K2
  · refine E_ifF rfl (by rw [zb_F b]; rfl) ?_
    rw [show qv h (nJ (LK0 h (N9 h))) = -2 from if_neg b]
    refine E_c rfl ?_
    exact E_rti rfl rfl
end LKS
theorem LK0_K {h h' : pm_H} (k : K9 h h') : LK0 h' = LK0 h := by funext i; unfold LK0; rw [P9_K k, N9_K k, W9_K k]
noncomputable def half_likes (h : pm_H) (r : Int32) : Prop := QRE h ∧ r = qv h (nJ (LK0 h (N9 h)))
theorem g8_likes {h : pm_H} (I : IVQ h) : Sp 100 142 h [.ref 0] (fun h' v => IVh h' ∧ ∃ r : Int32, v = some (.int r) ∧ half_likes h' r) := by
  refine Sp_le (by omega) (Sp_mono ?_ (Sp_and (top_all (as := [.ref 0]) q264 (by decide +kernel) I.1 ⟨rfl, trivial⟩) (sp_likes8 (d := 0) I.1.1 I.2)))
  rintro h' v ⟨⟨s1, s2, -⟩, k, rfl⟩
  exact ⟨s1, _, rfl, QRE_fr s2 rfl I.2, by rw [qv_K k, LK0_K k, N9_K k]⟩
theorem g9_likes {h : pm_H} {r : Int32} (I : IVh h) (J : half_likes h r) : Sp 100 302 h [.ref 77] (fun h' v => IVQ h' ∧ v = some (.int r)) := by
  obtain ⟨J1, rfl⟩ := J
  refine Sp_le (by omega) (Sp_mono ?_ (Sp_and (top_all (as := [.ref 77]) q267 (by decide +kernel) I ⟨rfl, trivial⟩) (sp_likes9 (d := 0) I.1 (V9_of J1) (B9_of J1))))
  rintro h' v ⟨⟨s1, s2, -⟩, rfl⟩
  exact ⟨⟨s1, QRE_fr s2 rfl J1⟩, rfl⟩
