/-! the class's Lot, filled (wants u65) -/
noncomputable def LTP (l p s : Nat) (W : Nat → Nat) (n : Nat) (h : pm_H) : Prop := gi h 62 1 = nJ (tk l p s W n) ∧ gi h 62 2 = nJ (mss l p s W n) ∧ gi h 62 3 = nJ (wlk l p s W n) ∧ ∀ i, i < n → gi h 63 i = nJ (spt l p s W i)
noncomputable def FL : List Rng := [(62, 1, 3), (63, 0, 7)]
section FILL
variable {h : pm_H} {d : Nat}
theorem sp_absD {a b : Nat} (ha : a < 1000) (hb : b < 1000) : Sp (d + 1) 9 h [.int (nJ a - nJ b)] (fun h' r => h' = h ∧ r = some (.int (nJ (dst a b)))) := by
  refine Sp_of aiJ9_abs_0f7a4 rfl rfl rfl ?_
  have L0 : pm_get (lv_args 0 [.int (nJ a - nJ b)]) 0 = some (.int (nJ a - nJ b)) := rfl
  generalize lv_args 0 [.int (nJ a - nJ b)] = lv at L0 ⊢
  have ti : (nJ a - nJ b).toInt = (a : Int) - (b : Int) := by
    rw [Int32.toInt_sub, nJ_toInt (by omega), nJ_toInt (by omega)]
    exact Int.bmod_eq_of_le (by omega) (by omega)
  have z0 : (0 : Int32).toInt = 0 := rfl
  refine E_il rfl L0 ?_
  by_cases b1 : b ≤ a
  · refine E_ifT rfl (decide_eq_true (Int32.le_iff_toInt_le.mpr (by omega))) ?_
    refine E_il rfl L0 ?_
    exact E_rti rfl ⟨rfl, by rw [nJ_sub b1]; unfold dst; rw [show a - b + (b - a) = a - b by omega]⟩
  · refine E_ifF rfl (decide_eq_false (fun q => by have := Int32.le_iff_toInt_le.mp q; omega)) ?_
    refine E_il rfl L0 ?_
    refine E_un rfl ?_
    refine E_goto rfl ?_
    exact E_rti rfl ⟨rfl, by rw [Int32.neg_sub, nJ_sub (by omega)]; unfold dst; rw [show a - b + (b - a) = b - a by omega]⟩
theorem sp_come {c w q m ms wk p : Nat} (hh : HH h) (c7 : c ≤ 7) (w9 : w ≤ 9) (p9 : p ≤ 9) (hm : m < 512) (g1 : gi h 62 1 = nJ m) (ok : okS p m q) (hs : ms < 2 ^ c) (g2 : gi h 62 2 = nJ ms) (hw : wk < 1000) (g3 : gi h 62 3 = nJ wk) : Sp (d + 2) 19 h [.ref 62, .int (nJ c), .int (nJ w), .int (nJ q)] (fun h' r => r = none ∧ HH h' ∧ fr_g FL h h' ∧ gi h' 62 1 = nJ (ad m q) ∧ gi h' 62 2 = nJ (if q = 0 then ms + 2 ^ c else ms) ∧ gi h' 62 3 = nJ (wk + (if q = 0 then 0 else dst q w)) ∧ gn h' 63 = fup (gn h 63) c q) := by
  have q9 : q ≤ 9 := by rcases ok with e | ⟨_, e, _⟩ <;> omega
  have b63 : bd 63 c = some (0, 9) := bd_u rfl (by omega)
  have m5 : ms < 256 := Nat.lt_of_lt_of_le hs (Nat.le_trans (Nat.pow_le_pow_right (n := 2) (by omega) c7) (by decide))
  refine Sp_of aiX1_come rfl rfl rfl ?_
  have L0 : pm_get (lv_args 0 [.ref 62, .int (nJ c), .int (nJ w), .int (nJ q)]) 0 = some (.ref 62) := rfl
  have L1 : pm_get (lv_args 0 [.ref 62, .int (nJ c), .int (nJ w), .int (nJ q)]) 1 = some (.int (nJ c)) := rfl
  have L2 : pm_get (lv_args 0 [.ref 62, .int (nJ c), .int (nJ w), .int (nJ q)]) 2 = some (.int (nJ w)) := rfl
  have L3 : pm_get (lv_args 0 [.ref 62, .int (nJ c), .int (nJ w), .int (nJ q)]) 3 = some (.int (nJ q)) := rfl
  generalize lv_args 0 [.ref 62, .int (nJ c), .int (nJ w), .int (nJ q)] = lv at L0 L1 L2 L3 ⊢
  refine E_al rfl L0 ?_
  refine E_ogr (q := 63) rfl hh rfl rfl ?_
  refine E_il rfl L1 ?_
  refine E_il rfl L3 ?_
  refine E_ias rfl hh rfl (by omega) (by decide) ?_
  have h1 : HH (pt h 63 c (nJ q)) := HH_ptn hh b63 (by omega) (by omega) (by omega)
  have F1 : fr_g FL h (pt h 63 c (nJ q)) := fr_ptr (l := 0) (u := 7) rfl (by omega) (by omega) (fr_rf _ _)
  have n1 : gn (pt h 63 c (nJ q)) 63 = fup (gn h 63) c q := gn_fup hh b63 (by omega) (by omega) (by omega)
  have k1 : gi (pt h 63 c (nJ q)) 62 1 = nJ m := by rw [gi_ne (by omega)]; exact g1
  have k2 : gi (pt h 63 c (nJ q)) 62 2 = nJ ms := by rw [gi_ne (by omega)]; exact g2
  have k3 : gi (pt h 63 c (nJ q)) 62 3 = nJ wk := by rw [gi_ne (by omega)]; exact g3
  generalize pt h 63 c (nJ q) = g at h1 F1 n1 k1 k2 k3 ⊢
  refine E_il rfl L3 ?_
  by_cases z : q = 0
  · refine E_ifF rfl (decide_eq_false (fun e => e ((nJ_eq0 (by omega)).mpr z))) ?_
    refine E_al rfl L0 ?_
    refine E_dup rfl rfl ?_
    refine E_ogf (q := (0, 255)) rfl h1 rfl rfl k2 ?_
    refine E_ci 1 rfl (by decide) ?_
    refine E_il rfl L1 ?_
    refine E_bin rfl rfl ?_
    refine E_bin rfl (or_new (by omega) (by omega) (isB_hi hs)) ?_
    refine E_opf (q := (0, 255)) rfl h1 rfl rfl ?_
    refine E_goto rfl ?_
    have e2 : ms + 2 ^ c ≤ 255 := by
      have : 2 ^ (c + 1) = 2 ^ c + 2 ^ c := by rw [Nat.pow_succ]; omega
      have : 2 ^ (c + 1) ≤ 2 ^ 8 := Nat.pow_le_pow_right (by omega) (by omega)
      omega
    have h2 : HH (pt g 62 2 (nJ (ms + 2 ^ c))) := HH_ptn h1 rfl (by omega) (by omega) (by omega)
    refine E_ret rfl ⟨rfl, h2, fr_ptr (l := 1) (u := 3) rfl (by omega) (by omega) F1, ?_, ?_, ?_, ?_⟩
    · unfold ad
      rw [if_pos z, gi_ne (by omega)]; exact k1
    · rw [if_pos z]; exact gi_ptn h1 rfl (by omega) (by omega) (by omega)
    · rw [if_pos z, gi_ne (by omega)]; exact k3
    · rw [← n1]; funext k; exact gn_ne (by omega)
  · obtain ⟨q1, qp, qf⟩ : 1 ≤ q ∧ q ≤ p ∧ isB m (q - 1) = false := by rcases ok with e | e; exact absurd e z; exact e
    refine E_ifT rfl (decide_eq_true (fun e => z ((nJ_eq0 (by omega)).mp e))) ?_
    refine E_al rfl L0 ?_
    refine E_dup rfl rfl ?_
    refine E_ogf (q := (0, 511)) rfl h1 rfl rfl k1 ?_
    refine E_il rfl L3 ?_
    refine E_call rfl (Sp_le (by omega) (sp_placeBit (d := d) q1 q9)) (chkS rfl (by show 2 ≤ 8; decide)) (fun h2 r2 => ?_)
    rintro ⟨e2, f2⟩
    rw [e2, f2]
    refine E_bin rfl (show nJ m ||| nJ (2 ^ (q - 1)) = nJ (m + 2 ^ (q - 1)) from or2_tab ⟨m, hm⟩ ⟨q - 1, by omega⟩ qf) ?_
    have a5 : m + 2 ^ (q - 1) < 512 := isB_add_lt hm (by omega) qf
    have a6 : ((m + 2 ^ (q - 1) : Nat) : Int) ≤ 511 := Int.ofNat_le.mpr (Nat.le_of_lt_succ a5)
    have a7 : (0 : Int) ≤ ((m + 2 ^ (q - 1) : Nat) : Int) := Int.natCast_nonneg _
    refine E_opf (q := (0, 511)) rfl h1 rfl rfl ?_
    have h3 : HH (pt g 62 1 (nJ (m + 2 ^ (q - 1)))) := HH_ptn h1 rfl (by omega) a7 a6
    refine E_al rfl L0 ?_
    refine E_dup rfl rfl ?_
    refine E_ogf (q := (-2147483648, 2147483647)) (v := nJ wk) rfl h3 rfl rfl (by rw [gi_ne (by omega)]; exact k3) ?_
    refine E_il rfl L3 ?_
    refine E_il rfl L2 ?_
    refine E_bin rfl rfl ?_
    refine E_call rfl (Sp_le (by omega) (sp_absD (d := d) (a := q) (b := w) (by omega) (by omega))) (chkS rfl (by show 2 ≤ 8; decide)) (fun h4 r4 => ?_)
    rintro ⟨e4, f4⟩
    rw [e4, f4]
    refine E_bin rfl (nJ_add _ _) ?_
    refine E_opf (q := (-2147483648, 2147483647)) rfl h3 rfl rfl ?_
    have d9 : dst q w ≤ 9 := by unfold dst; omega
    have h5 : HH (pt (pt g 62 1 (nJ (m + 2 ^ (q - 1)))) 62 3 (nJ (wk + dst q w))) := HH_ptn h3 rfl (by omega) (by omega) (by omega)
    refine E_ret rfl ⟨rfl, h5, fr_ptr (l := 1) (u := 3) rfl (by omega) (by omega) (fr_ptr (l := 1) (u := 3) rfl (by omega) (by omega) F1), ?_, ?_, ?_, ?_⟩
    · unfold ad
      rw [if_neg z, gi_ne (by omega)]; exact gi_ptn h1 rfl (by omega) a7 a6
    · rw [if_neg z, gi_ne (by omega), gi_ne (by omega)]; exact k2
    · rw [if_neg z]; exact gi_ptn h3 rfl (by omega) (by omega) (by omega)
    · rw [← n1]; funext k; rw [gn_ne (by omega), gn_ne (by omega)]
noncomputable def FI (l p s : Nat) (W : Nat → Nat) (h0 : pm_H) (c : Nat) (h : pm_H) : Prop := HH h ∧ fr_g FL h0 h ∧ gi h 62 1 = nJ (tk l p s W c) ∧ gi h 62 2 = nJ (mss l p s W c) ∧ gi h 62 3 = nJ (wlk l p s W c) ∧ ∀ i, i < c → gn h 63 i = spt l p s W i
theorem fi_loop {h0 : pm_H} {A l p s n : Nat} {hi : Int} (hA : hs0[A]? = some (.inl (0, 8, [(0, hi)]))) (A2 : A ≠ 62 ∧ A ≠ 63) (hh0 : HH h0) (l3 : l ≤ 3) (p9 : p ≤ 9) (s5 : s < 512) (n8 : n ≤ 8) (V : ∀ c, c < n → 1 ≤ gn h0 A c ∧ gn h0 A c ≤ p) (j : Nat) : ∀ {h : pm_H} {c : Nat} (lv : List (Nat × Value)), c + j = n → FI l p s (gn h0 A) h0 c h → pm_get lv 0 = some (.ref 62) → pm_get lv 1 = some (.ref A) → pm_get lv 2 = some (.int (nJ n)) → pm_get lv 3 = some (.int (nJ s)) → pm_get lv 4 = some (.int (nJ p)) → pm_get lv 5 = some (.int (nJ l)) → pm_get lv 6 = some (.int (nJ c)) → Ends (pm_at tX1_fill) (pm_Rt pm_P (d + 3)) (18, lv, [], h, 0, 0) (fun h' r => r = none ∧ FI l p s (gn h0 A) h0 n h') := by
  induction j with
  | zero =>
    intro h c lv hj I L0 L1 L2 L3 L4 L5 L6
    refine E_il rfl L6 ?_
    refine E_il rfl L2 ?_
    refine E_icT rfl (decide_eq_true ((nJ_le (by omega) (by omega)).mpr (by omega))) ?_
    have e : c = n := by omega
    exact E_ret rfl ⟨rfl, e ▸ I⟩
  | succ j ih =>
    intro h c lv hj I L0 L1 L2 L3 L4 L5 L6
    obtain ⟨hh, F, g1, g2, g3, g4⟩ := I
    refine E_il rfl L6 ?_
    refine E_il rfl L2 ?_
    refine E_icF rfl (decide_eq_false (fun q => absurd ((nJ_le (by omega) (by omega)).mp q) (by omega))) ?_
    refine E_al rfl L0 ?_
    refine E_ogr (q := 63) rfl hh rfl rfl ?_
    refine E_il rfl L6 ?_
    refine E_ci 0 rfl (by decide) ?_
    refine E_ias rfl hh rfl (by omega) (by decide) ?_
    have b63 : bd 63 c = some (0, 9) := bd_u rfl (by omega)
    have h1 : HH (pt h 63 c (nJ 0)) := HH_ptn hh b63 (by omega) (by omega) (by omega)
    have F1 : fr_g FL h0 (pt h 63 c (nJ 0)) := fr_ptr (l := 0) (u := 7) rfl (by omega) (by omega) F
    have n1 : gn (pt h 63 c (nJ 0)) 63 = fup (gn h 63) c 0 := gn_fup hh b63 (by omega) (by omega) (by omega)
    have k1 : gi (pt h 63 c (nJ 0)) 62 1 = nJ (tk l p s (gn h0 A) c) := by rw [gi_ne (by omega)]; exact g1
    have k2 : gi (pt h 63 c (nJ 0)) 62 2 = nJ (mss l p s (gn h0 A) c) := by rw [gi_ne (by omega)]; exact g2
    have k3 : gi (pt h 63 c (nJ 0)) 62 3 = nJ (wlk l p s (gn h0 A) c) := by rw [gi_ne (by omega)]; exact g3
    generalize pt h 63 c (nJ 0) = g at h1 F1 n1 k1 k2 k3 ⊢
    have kA : gi g A c = nJ (gn h0 A c) := by
      rw [fr_gi F1 (rg_no (by show (!(Nat.beq 62 A) && (!(Nat.beq 63 A) && true)) = true; rw [nbeqF (fun q => A2.1 q.symm), nbeqF (fun q => A2.2 q.symm)]; rfl) _)]
      exact gi_gn hh0 (q := (0, hi)) (bd_u hA (by omega)) (Int.le_refl 0)
    have tb := fr0_tab ⟨s, s5⟩ ⟨c, by omega⟩
    have tl : tk l p s (gn h0 A) c < 512 := Nat.lt_of_lt_of_le (tk_lt p9 (fun i hi => V i (by omega))) (Nat.le_trans (Nat.pow_le_pow_right (n := 2) (by omega) p9) (by decide))
    refine E_il rfl L3 ?_
    refine E_il rfl L6 ?_
    refine E_bin rfl rfl ?_
    refine E_ci 1 rfl (by decide) ?_
    refine E_bin rfl rfl ?_
    by_cases b : isB s c = false
    · refine E_ifT rfl (decide_eq_true (tb.mpr b)) ?_
      have b' : ¬ isB s c = true := by rw [b]; decide
      have es : spt l p s (gn h0 A) c = 0 := by unfold spt; rw [if_neg b']
      refine E_inc rfl L6 (nJ_inc _) (fun lv1 K6 kp => ?_)
      refine E_goto rfl ?_
      refine ih lv1 (by omega) ⟨h1, F1, ?_, ?_, ?_, fun i hi => ?_⟩ (kp 0 _ (by decide) rfl L0) (kp 1 _ (by decide) rfl L1) (kp 2 _ (by decide) rfl L2) (kp 3 _ (by decide) rfl L3) (kp 4 _ (by decide) rfl L4) (kp 5 _ (by decide) rfl L5) K6
      · rw [tk_s, es]; exact k1
      · show _ = nJ (if isB s c = true ∧ spt l p s (gn h0 A) c = 0 then _ else _)
        rw [if_neg (fun q => b' q.1)]; exact k2
      · show _ = nJ (_ + (if spt l p s (gn h0 A) c = 0 then 0 else _))
        rw [if_pos es]; exact k3
      · rw [n1]
        by_cases e : i = c
        · rw [e, fup_s, es]
        · rw [fup_n e]; exact g4 i (by omega)
    · have b' : isB s c = true := by cases q : isB s c; exact absurd q b; rfl
      refine E_ifF rfl (decide_eq_false (fun q => b (tb.mp q))) ?_
      have v := V c (by omega)
      have es : spt l p s (gn h0 A) c = sf l p (tk l p s (gn h0 A) c) (gn h0 A c) := by unfold spt; rw [if_pos b']
      refine E_al rfl L0 ?_
      refine E_il rfl L6 ?_
      refine E_al rfl L1 ?_
      refine E_il rfl L6 ?_
      refine E_ial rfl h1 hA (by omega) (by decide) kA ?_
      refine E_il rfl L5 ?_
      refine E_il rfl L4 ?_
      refine E_al rfl L0 ?_
      refine E_ogf (q := (0, 511)) rfl h1 rfl rfl k1 ?_
      refine E_al rfl L1 ?_
      refine E_il rfl L6 ?_
      refine E_ial rfl h1 hA (by omega) (by decide) kA ?_
      refine E_call rfl (sp_spotFor (d := d) l3 tl p9 v.1 v.2) (chkS rfl (by show 3 ≤ 8; decide)) (fun h2 r2 => ?_)
      rintro ⟨e2, f2⟩
      rw [e2, f2, ← es]
      have ok := spt_ok (l := l) (s := s) (W := gn h0 A) v.1 v.2
      have wl := wlk_le (l := l) (s := s) (W := gn h0 A) (p := p) (n := c) (fun i hi => V i (by omega))
      have wl2 : c * p ≤ 8 * 9 := Nat.mul_le_mul (by omega) p9
      refine E_call rfl (Sp_le (by omega) (sp_come (d := d) h1 (by omega) (by omega) p9 tl k1 ok (mss_lt c) k2 (by omega) k3)) (chkO (a := 62) h1 rfl rfl rfl rfl (by show 0 ≤ 8; decide)) (fun h3 r3 => ?_)
      rintro ⟨e3, hh3, f3, m1, m2, m3, m4⟩
      rw [e3]
      refine E_inc rfl L6 (nJ_inc _) (fun lv1 K6 kp => ?_)
      refine E_goto rfl ?_
      refine ih lv1 (by omega) ⟨hh3, fr_trans F1 f3, ?_, ?_, ?_, fun i hi => ?_⟩ (kp 0 _ (by decide) rfl L0) (kp 1 _ (by decide) rfl L1) (kp 2 _ (by decide) rfl L2) (kp 3 _ (by decide) rfl L3) (kp 4 _ (by decide) rfl L4) (kp 5 _ (by decide) rfl L5) K6
      · rw [tk_s]; exact m1
      · rw [m2]
        show _ = nJ (if isB s c = true ∧ spt l p s (gn h0 A) c = 0 then _ else _)
        by_cases z : spt l p s (gn h0 A) c = 0
        · rw [if_pos z, if_pos ⟨b', z⟩]
        · rw [if_neg z, if_neg (fun q => z q.2)]
      · exact m3
      · rw [m4, n1]
        by_cases e : i = c
        · rw [e, fup_s]
        · rw [fup_n e, fup_n e]; exact g4 i (by omega)
theorem sp_fill {A l p s n : Nat} {hi : Int} (hA : hs0[A]? = some (.inl (0, 8, [(0, hi)]))) (A2 : A ≠ 62 ∧ A ≠ 63) (hh : HH h) (l3 : l ≤ 3) (p9 : p ≤ 9) (s5 : s < 512) (n8 : n ≤ 8) (V : ∀ c, c < n → 1 ≤ gn h A c ∧ gn h A c ≤ p) : Sp (d + 4) 20 h [.ref 62, .ref A, .int (nJ n), .int (nJ s), .int (nJ p), .int (nJ l)] (fun h' r => r = none ∧ HH h' ∧ fr_g FL h h' ∧ LTP l p s (gn h A) n h') := by
  refine Sp_mono (Q := fun h' r => r = none ∧ FI l p s (gn h A) h n h') ?_ ?_
  · rintro h' r ⟨rfl, hh', F, g1, g2, g3, g4⟩
    exact ⟨rfl, hh', F, g1, g2, g3, fun i hi => by rw [gi_gn hh' (q := (0, 9)) (bd_u rfl (by omega)) (by decide), g4 i hi]⟩
  refine Sp_of aiX1_fill rfl rfl rfl ?_
  have L0 : pm_get (lv_args 0 [.ref 62, .ref A, .int (nJ n), .int (nJ s), .int (nJ p), .int (nJ l)]) 0 = some (.ref 62) := rfl
  have L1 : pm_get (lv_args 0 [.ref 62, .ref A, .int (nJ n), .int (nJ s), .int (nJ p), .int (nJ l)]) 1 = some (.ref A) := rfl
  have L2 : pm_get (lv_args 0 [.ref 62, .ref A, .int (nJ n), .int (nJ s), .int (nJ p), .int (nJ l)]) 2 = some (.int (nJ n)) := rfl
  have L3 : pm_get (lv_args 0 [.ref 62, .ref A, .int (nJ n), .int (nJ s), .int (nJ p), .int (nJ l)]) 3 = some (.int (nJ s)) := rfl
  have L4 : pm_get (lv_args 0 [.ref 62, .ref A, .int (nJ n), .int (nJ s), .int (nJ p), .int (nJ l)]) 4 = some (.int (nJ p)) := rfl
  have L5 : pm_get (lv_args 0 [.ref 62, .ref A, .int (nJ n), .int (nJ s), .int (nJ p), .int (nJ l)]) 5 = some (.int (nJ l)) := rfl
  generalize lv_args 0 [.ref 62, .ref A, .int (nJ n), .int (nJ s), .int (nJ p), .int (nJ l)] = lv at L0 L1 L2 L3 L4 L5 ⊢
  refine E_al rfl L0 ?_
  refine E_ci 0 rfl (by decide) ?_
  refine E_opf (q := (0, 511)) rfl hh rfl rfl ?_
  have h1 : HH (pt h 62 1 (nJ 0)) := HH_ptn hh rfl (by omega) (by omega) (by omega)
  refine E_al rfl L0 ?_
  refine E_ci 0 rfl (by decide) ?_
  refine E_opf (q := (0, 255)) rfl h1 rfl rfl ?_
  have h2 : HH (pt (pt h 62 1 (nJ 0)) 62 2 (nJ 0)) := HH_ptn h1 rfl (by omega) (by omega) (by omega)
  refine E_al rfl L0 ?_
  refine E_ci 0 rfl (by decide) ?_
  refine E_opf (q := (-2147483648, 2147483647)) rfl h2 rfl rfl ?_
  have h3 : HH (pt (pt (pt h 62 1 (nJ 0)) 62 2 (nJ 0)) 62 3 (nJ 0)) := HH_ptn h2 rfl (by omega) (by omega) (by omega)
  refine E_ci 0 rfl (by decide) ?_
  refine E_is rfl (fun lv1 K6 kp => ?_)
  refine fi_loop hA A2 hh l3 p9 s5 n8 V n (c := 0) lv1 (by omega) ⟨h3, fr_ptr (l := 1) (u := 3) rfl (by omega) (by omega) (fr_ptr (l := 1) (u := 3) rfl (by omega) (by omega) (fr_ptr (l := 1) (u := 3) rfl (by omega) (by omega) (fr_rf _ _))), ?_, ?_, ?_, fun i hi => absurd hi (Nat.not_lt_zero i)⟩ (kp 0 _ (by decide) rfl L0) (kp 1 _ (by decide) rfl L1) (kp 2 _ (by decide) rfl L2) (kp 3 _ (by decide) rfl L3) (kp 4 _ (by decide) rfl L4) (kp 5 _ (by decide) rfl L5) K6
  · rw [gi_ne (by omega), gi_ne (by omega)]; exact gi_ptn hh rfl (by omega) (by omega) (by omega)
  · rw [gi_ne (by omega)]; exact gi_ptn h1 rfl (by omega) (by omega) (by omega)
  · exact gi_ptn h2 rfl (by omega) (by omega) (by omega)
theorem sp_everyCar (hh : HH h) : Sp (d + 1) 103 h [.ref 0] (fun h' r => h' = h ∧ r = some (.int (nJ (2 ^ gn h 15 4 - 1)))) := by
  obtain ⟨-, -, a3, a4, -⟩ := g15 hh
  refine Sp_of aiX8_everyCar rfl rfl rfl ?_
  have L0 : pm_get (lv_args 0 [.ref 0]) 0 = some (.ref 0) := rfl
  generalize lv_args 0 [.ref 0] = lv at L0 ⊢
  refine E_ci 1 rfl (by decide) ?_
  refine E_al rfl L0 ?_
  refine E_ogr (q := 15) rfl hh rfl rfl ?_
  refine E_ogf (q := (0, 8)) rfl hh rfl rfl a3 ?_
  refine E_bin rfl rfl ?_
  refine E_ci 1 rfl (by decide) ?_
  refine E_bin rfl (cm_bits a4) ?_
  exact E_rti rfl ⟨rfl, rfl⟩
theorem all_lt {c : Nat} (h : c ≤ 8) : 2 ^ c - 1 < 512 := by
  have : 2 ^ c ≤ 2 ^ 8 := Nat.pow_le_pow_right (by omega) h
  omega
theorem sp_parkAll (hh : HH h) (V : ∀ c, c < gn h 15 4 → 1 ≤ gn h 17 c ∧ gn h 17 c ≤ gn h 15 0) : Sp (d + 5) 154 h [.ref 0] (fun h' r => r = none ∧ HH h' ∧ fr_g FL h h' ∧ LTP (gn h 15 1) (gn h 15 0) (2 ^ gn h 15 4 - 1) (gn h 17) (gn h 15 4) h') := by
  obtain ⟨a1, a2, a3, a4, -⟩ := g15 hh
  have l1 : gi h 15 1 = nJ (gn h 15 1) := gi_gn hh rfl (by decide)
  have l3 : gn h 15 1 ≤ 3 := gn_hi hh rfl (by decide)
  refine Sp_of aiX8_parkAll rfl rfl rfl ?_
  have L0 : pm_get (lv_args 0 [.ref 0]) 0 = some (.ref 0) := rfl
  generalize lv_args 0 [.ref 0] = lv at L0 ⊢
  refine E_al rfl L0 ?_
  refine E_ogr (q := 62) rfl hh rfl rfl ?_
  refine E_al rfl L0 ?_
  refine E_ogr (q := 15) rfl hh rfl rfl ?_
  refine E_ogr (q := 17) rfl hh rfl rfl ?_
  refine E_al rfl L0 ?_
  refine E_ogr (q := 15) rfl hh rfl rfl ?_
  refine E_ogf (q := (0, 8)) rfl hh rfl rfl a3 ?_
  refine E_al rfl L0 ?_
  refine E_call rfl (Sp_le (by omega) (sp_everyCar (d := d) hh)) (chkO (a := 0) hh rfl rfl rfl rfl (by show 3 ≤ 8; decide)) (fun h1 r1 => ?_)
  rintro ⟨e1, f1⟩
  rw [e1, f1]
  refine E_al rfl L0 ?_
  refine E_ogr (q := 15) rfl hh rfl rfl ?_
  refine E_ogf (q := (0, 8)) rfl hh rfl rfl a1 ?_
  refine E_al rfl L0 ?_
  refine E_ogr (q := 15) rfl hh rfl rfl ?_
  refine E_ogf (q := (0, 3)) rfl hh rfl rfl l1 ?_
  refine E_call rfl (sp_fill (d := d) (A := 17) (hi := 8) rfl (by decide) hh l3 (by omega) (all_lt a4) a4 V) (chkO (a := 62) hh rfl rfl rfl rfl (by show 0 ≤ 8; decide)) (fun h2 r2 => ?_)
  rintro ⟨e2, hh2, f2, t2⟩
  rw [e2]
  exact E_ret rfl ⟨rfl, hh2, f2, t2⟩
end FILL
