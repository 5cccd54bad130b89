section
/-! the class's Lot, filled (wants u65) -/
noncomputable def LTP (l p s : Nat) (W : Nat → Nat) (n : Nat) (h : pm_H) : Prop := gi h 62 1 = nJ (tk l p s W n) ∧ gi h 62 2 = nJ (mss l p s W n) ∧ gi h 62 3 = nJ (wlk l p s W n) ∧ ∀ i, i < n → gi h 63 i = nJ (spt l p s W i)
noncomputable def FL : List Rng := [(62, 1, 3), (63, 0, 7)]
section FILL
variable {h : pm_H} {d : Nat}
theorem sp_absD {a b : Nat} (ha : a < 1000) (hb : b < 1000) : Sp (d + 1) 9 h [.int (nJ a - nJ b)] (fun h' r => h' = h ∧ r = some (.int (nJ (dst a b)))) := by
  refine Sp_of aiJ9_abs_0f7a4 rfl rfl rfl ?_
  have L0 : pm_get (lv_args 0 [.int (nJ a - nJ b)]) 0 = some (.int (nJ a - nJ b)) := rfl
  generalize lv_args 0 [.int (nJ a - nJ b)] = lv at L0 ⊢
  have ti : (nJ a - nJ b).toInt = (a : Int) - (b : Int) := by
    rw [Int32.toInt_sub, nJ_toInt (by first | decide | with_reducible assumption | omega), nJ_toInt (by first | decide | with_reducible assumption | omega)]
    exact Int.bmod_eq_of_le (by first | decide | with_reducible assumption | omega) (by first | decide | with_reducible assumption | omega)
  have z0 : (0 : Int32).toInt = 0 := rfl
  refine E_il rfl L0 ?_
  by_cases b1 : b ≤ a
  · refine E_ifT rfl (decide_eq_true (Int32.le_iff_toInt_le.mpr (by first | decide | with_reducible assumption | omega))) ?_
    refine E_il rfl L0 ?_
    exact E_rti rfl ⟨rfl, by rw [nJ_sub b1]; unfold dst; rw [show a - b + (b - a) = a - b by omega]⟩
  · refine E_ifF rfl (decide_eq_false (fun q => by have := Int32.le_iff_toInt_le.mp q; omega)) ?_
    refine E_il rfl L0 ?_
    refine E_un rfl ?_
    refine E_goto rfl ?_
    exact E_rti rfl ⟨rfl, by rw [Int32.neg_sub, nJ_sub (by first | decide | with_reducible assumption | omega)]; unfold dst; rw [show a - b + (b - a) = b - a by omega]⟩
theorem sp_come {c w q m ms wk p : Nat} (hh : HH h) (c7 : c ≤ 7) (w9 : w ≤ 9) (p9 : p ≤ 9) (hm : m < 512) (g1 : gi h 62 1 = nJ m) (ok : okS p m q) (hs : ms < 2 ^ c) (g2 : gi h 62 2 = nJ ms) (hw : wk < 1000) (g3 : gi h 62 3 = nJ wk) : Sp (d + 2) 19 h [.ref 62, .int (nJ c), .int (nJ w), .int (nJ q)] (fun h' r => r = none ∧ HH h' ∧ fr_g FL h h' ∧ gi h' 62 1 = nJ (ad m q) ∧ gi h' 62 2 = nJ (if q = 0 then ms + 2 ^ c else ms) ∧ gi h' 62 3 = nJ (wk + (if q = 0 then 0 else dst q w)) ∧ gn h' 63 = fup (gn h 63) c q) := by
  have q9 : q ≤ 9 := by rcases ok with e | ⟨_, e, _⟩ <;> omega
  have b63 : bd 63 c = some (0, 9) := bd_u rfl (by first | decide | with_reducible assumption | omega)
  have m5 : ms < 256 := Nat.lt_of_lt_of_le hs (Nat.le_trans (Nat.pow_le_pow_right (n := 2) (by first | decide | with_reducible assumption | omega) c7) (by decide))
  refine Sp_of aiX1_come rfl rfl rfl ?_
  have L0 : pm_get (lv_args 0 [.ref 62, .int (nJ c), .int (nJ w), .int (nJ q)]) 0 = some (.ref 62) := rfl
  have L1 : pm_get (lv_args 0 [.ref 62, .int (nJ c), .int (nJ w), .int (nJ q)]) 1 = some (.int (nJ c)) := rfl
  have L2 : pm_get (lv_args 0 [.ref 62, .int (nJ c), .int (nJ w), .int (nJ q)]) 2 = some (.int (nJ w)) := rfl
  have L3 : pm_get (lv_args 0 [.ref 62, .int (nJ c), .int (nJ w), .int (nJ q)]) 3 = some (.int (nJ q)) := rfl
  generalize lv_args 0 [.ref 62, .int (nJ c), .int (nJ w), .int (nJ q)] = lv at L0 L1 L2 L3 ⊢
  refine E_al rfl L0 ?_
  refine E_ogr (q := 63) rfl hh rfl rfl ?_
  refine E_il rfl L1 ?_
  refine E_il rfl L3 ?_
  refine E_ias rfl hh rfl (by first | decide | with_reducible assumption | omega) (by decide) ?_
  have h1 : HH (pt h 63 c (nJ q)) := HH_ptn hh b63 (by first | decide | with_reducible assumption | omega) (by first | decide | with_reducible assumption | omega) (by first | decide | with_reducible assumption | omega)
  have F1 : fr_g FL h (pt h 63 c (nJ q)) := fr_ptr (l := 0) (u := 7) rfl (by first | decide | with_reducible assumption | omega) (by first | decide | with_reducible assumption | omega) (fr_rf _ _)
  have n1 : gn (pt h 63 c (nJ q)) 63 = fup (gn h 63) c q := gn_fup hh b63 (by first | decide | with_reducible assumption | omega) (by first | decide | with_reducible assumption | omega) (by first | decide | with_reducible assumption | omega)
  have k1 : gi (pt h 63 c (nJ q)) 62 1 = nJ m := by rw [gi_ne (by first | exact gxx rfl | omega)]; exact g1
  have k2 : gi (pt h 63 c (nJ q)) 62 2 = nJ ms := by rw [gi_ne (by first | exact gxx rfl | omega)]; exact g2
  have k3 : gi (pt h 63 c (nJ q)) 62 3 = nJ wk := by rw [gi_ne (by first | exact gxx rfl | omega)]; exact g3
  generalize pt h 63 c (nJ q) = g at h1 F1 n1 k1 k2 k3 ⊢
  refine E_il rfl L3 ?_
  by_cases z : q = 0
  · refine E_ifF rfl (decide_eq_false (fun e => e ((nJ_eq0 (by first | decide | with_reducible assumption | omega)).mpr z))) ?_
    refine E_al rfl L0 ?_
    refine E_dup rfl rfl ?_
    refine E_ogf (q := (0, 255)) rfl h1 rfl rfl k2 ?_
    refine E_ci 1 rfl ci1 ?_
    refine E_il rfl L1 ?_
    refine E_bin rfl rfl ?_
    refine E_bin rfl (or_new (by first | decide | with_reducible assumption | omega) (by first | decide | with_reducible assumption | omega) (isB_hi hs)) ?_
    refine E_opf (q := (0, 255)) rfl h1 rfl rfl ?_
    refine E_goto rfl ?_
    have e2 : ms + 2 ^ c ≤ 255 := by
      have : 2 ^ (c + 1) = 2 ^ c + 2 ^ c := by rw [Nat.pow_succ]; omega
      have : 2 ^ (c + 1) ≤ 2 ^ 8 := Nat.pow_le_pow_right (by first | decide | with_reducible assumption | omega) (by first | decide | with_reducible assumption | omega)
      omega
    have h2 : HH (pt g 62 2 (nJ (ms + 2 ^ c))) := HH_ptn h1 rfl (by first | decide | with_reducible assumption | omega) (by first | decide | with_reducible assumption | omega) (by first | decide | with_reducible assumption | omega)
    refine E_ret rfl ⟨rfl, h2, fr_ptr (l := 1) (u := 3) rfl (by first | decide | with_reducible assumption | omega) (by first | decide | with_reducible assumption | omega) F1, ?_, ?_, ?_, ?_⟩
    · unfold ad
      rw [if_pos z, gi_ne (by first | exact gxx rfl | omega)]; exact k1
    · rw [if_pos z]; exact gi_ptn h1 rfl (by first | decide | with_reducible assumption | omega) (by first | decide | with_reducible assumption | omega) (by first | decide | with_reducible assumption | omega)
    · rw [if_pos z, gi_ne (by first | exact gxx rfl | omega)]; exact k3
    · rw [← n1]; funext k; exact gn_ne (by first | exact gxx rfl | omega)
  · obtain ⟨q1, qp, qf⟩ : 1 ≤ q ∧ q ≤ p ∧ isB m (q - 1) = false := by rcases ok with e | e; exact absurd e z; exact e
    refine E_ifT rfl (decide_eq_true (fun e => z ((nJ_eq0 (by first | decide | with_reducible assumption | omega)).mp e))) ?_
    refine E_al rfl L0 ?_
    refine E_dup rfl rfl ?_
    refine E_ogf (q := (0, 511)) rfl h1 rfl rfl k1 ?_
    refine E_il rfl L3 ?_
    refine E_call rfl (Sp_le (by first | exact Nat.add_le_add_left (Nat.le_of_ble_eq_true rfl) _ | exact Nat.le_of_ble_eq_true rfl | omega) (sp_placeBit (d := d) q1 q9)) (chkS rfl (by show 2 ≤ 8; decide)) (fun h2 r2 => ?_)
    rintro ⟨e2, f2⟩
    rw [e2, f2]
    refine E_bin rfl (show nJ m ||| nJ (2 ^ (q - 1)) = nJ (m + 2 ^ (q - 1)) from or2_tab ⟨m, hm⟩ ⟨q - 1, by omega⟩ qf) ?_
    have a5 : m + 2 ^ (q - 1) < 512 := isB_add_lt hm (by first | decide | with_reducible assumption | omega) qf
    have a6 : ((m + 2 ^ (q - 1) : Nat) : Int) ≤ 511 := Int.ofNat_le.mpr (Nat.le_of_lt_succ a5)
    have a7 : (0 : Int) ≤ ((m + 2 ^ (q - 1) : Nat) : Int) := Int.natCast_nonneg _
    refine E_opf (q := (0, 511)) rfl h1 rfl rfl ?_
    have h3 : HH (pt g 62 1 (nJ (m + 2 ^ (q - 1)))) := HH_ptn h1 rfl (by first | decide | with_reducible assumption | omega) a7 a6
    refine E_al rfl L0 ?_
    refine E_dup rfl rfl ?_
    refine E_ogf (q := (-2147483648, 2147483647)) (v := nJ wk) rfl h3 rfl rfl (by rw [gi_ne (by first | exact gxx rfl | omega)]; exact k3) ?_
    refine E_il rfl L3 ?_
    refine E_il rfl L2 ?_
    refine E_bin rfl rfl ?_
    refine E_call rfl (Sp_le (by first | exact Nat.add_le_add_left (Nat.le_of_ble_eq_true rfl) _ | exact Nat.le_of_ble_eq_true rfl | omega) (sp_absD (d := d) (a := q) (b := w) (by first | decide | with_reducible assumption | omega) (by first | decide | with_reducible assumption | omega))) (chkS rfl (by show 2 ≤ 8; decide)) (fun h4 r4 => ?_)
    rintro ⟨e4, f4⟩
    rw [e4, f4]
    refine E_bin rfl (nJ_add _ _) ?_
    refine E_opf (q := (-2147483648, 2147483647)) rfl h3 rfl rfl ?_
    have d9 : dst q w ≤ 9 := by unfold dst; omega
    have h5 : HH (pt (pt g 62 1 (nJ (m + 2 ^ (q - 1)))) 62 3 (nJ (wk + dst q w))) := HH_ptn h3 rfl (by first | decide | with_reducible assumption | omega) (by first | decide | with_reducible assumption | omega) (by first | decide | with_reducible assumption | omega)
    refine E_ret rfl ⟨rfl, h5, fr_ptr (l := 1) (u := 3) rfl (by first | decide | with_reducible assumption | omega) (by first | decide | with_reducible assumption | omega) (fr_ptr (l := 1) (u := 3) rfl (by first | decide | with_reducible assumption | omega) (by first | decide | with_reducible assumption | omega) F1), ?_, ?_, ?_, ?_⟩
    · unfold ad
      rw [if_neg z, gi_ne (by first | exact gxx rfl | omega)]; exact gi_ptn h1 rfl (by first | decide | with_reducible assumption | omega) a7 a6
    · rw [if_neg z, gi_ne (by first | exact gxx rfl | omega), gi_ne (by first | exact gxx rfl | omega)]; exact k2
    · rw [if_neg z]; exact gi_ptn h3 rfl (by first | decide | with_reducible assumption | omega) (by first | decide | with_reducible assumption | omega) (by first | decide | with_reducible assumption | omega)
    · rw [← n1]; funext k; rw [gn_ne (by first | exact gxx rfl | omega), gn_ne (by first | exact gxx rfl | omega)]
noncomputable def FI (l p s : Nat) (W : Nat → Nat) (h0 : pm_H) (c : Nat) (h : pm_H) : Prop := HH h ∧ fr_g FL h0 h ∧ gi h 62 1 = nJ (tk l p s W c) ∧ gi h 62 2 = nJ (mss l p s W c) ∧ gi h 62 3 = nJ (wlk l p s W c) ∧ ∀ i, i < c → gn h 63 i = spt l p s W i
theorem fi_loop {h0 : pm_H} {A l p s n : Nat} {hi : Int} (hA : hsF A = some (.inl (0, 8, [(0, hi)]))) (A2 : A ≠ 62 ∧ A ≠ 63) (hh0 : HH h0) (l3 : l ≤ 3) (p9 : p ≤ 9) (s5 : s < 512) (n8 : n ≤ 8) (V : ∀ c, c < n → 1 ≤ gn h0 A c ∧ gn h0 A c ≤ p) (j : Nat) : ∀ {h : pm_H} {c : Nat} (lv : List (Nat × Value)), c + j = n → FI l p s (gn h0 A) h0 c h → pm_get lv 0 = some (.ref 62) → pm_get lv 1 = some (.ref A) → pm_get lv 2 = some (.int (nJ n)) → pm_get lv 3 = some (.int (nJ s)) → pm_get lv 4 = some (.int (nJ p)) → pm_get lv 5 = some (.int (nJ l)) → pm_get lv 6 = some (.int (nJ c)) → Ends (pm_at tX1_fill) (pm_Rt pm_P (d + 3)) (18, lv, [], h, 0, 0) (fun h' r => r = none ∧ FI l p s (gn h0 A) h0 n h') := by
  induction j with
  | zero =>
    intro h c lv hj I L0 L1 L2 L3 L4 L5 L6
    refine E_il rfl L6 ?_
    refine E_il rfl L2 ?_
    refine E_icT rfl (decide_eq_true ((nJ_le (by first | decide | with_reducible assumption | omega) (by first | decide | with_reducible assumption | omega)).mpr (by first | decide | with_reducible assumption | omega))) ?_
    have e : c = n := by omega
    exact E_ret rfl ⟨rfl, e ▸ I⟩
  | succ j ih =>
    intro h c lv hj I L0 L1 L2 L3 L4 L5 L6
    obtain ⟨hh, F, g1, g2, g3, g4⟩ := I
    refine E_il rfl L6 ?_
    refine E_il rfl L2 ?_
    refine E_icF rfl (decide_eq_false (fun q => absurd ((nJ_le (by first | decide | with_reducible assumption | omega) (by first | decide | with_reducible assumption | omega)).mp q) (by first | decide | with_reducible assumption | omega))) ?_
    refine E_al rfl L0 ?_
    refine E_ogr (q := 63) rfl hh rfl rfl ?_
    refine E_il rfl L6 ?_
    refine E_ci 0 rfl ci0 ?_
    refine E_ias rfl hh rfl (by first | decide | with_reducible assumption | omega) (by decide) ?_
    have b63 : bd 63 c = some (0, 9) := bd_u rfl (by first | decide | with_reducible assumption | omega)
    have h1 : HH (pt h 63 c (nJ 0)) := HH_ptn hh b63 (by first | decide | with_reducible assumption | omega) (by first | decide | with_reducible assumption | omega) (by first | decide | with_reducible assumption | omega)
    have F1 : fr_g FL h0 (pt h 63 c (nJ 0)) := fr_ptr (l := 0) (u := 7) rfl (by first | decide | with_reducible assumption | omega) (by first | decide | with_reducible assumption | omega) F
    have n1 : gn (pt h 63 c (nJ 0)) 63 = fup (gn h 63) c 0 := gn_fup hh b63 (by first | decide | with_reducible assumption | omega) (by first | decide | with_reducible assumption | omega) (by first | decide | with_reducible assumption | omega)
    have k1 : gi (pt h 63 c (nJ 0)) 62 1 = nJ (tk l p s (gn h0 A) c) := by rw [gi_ne (by first | exact gxx rfl | omega)]; exact g1
    have k2 : gi (pt h 63 c (nJ 0)) 62 2 = nJ (mss l p s (gn h0 A) c) := by rw [gi_ne (by first | exact gxx rfl | omega)]; exact g2
    have k3 : gi (pt h 63 c (nJ 0)) 62 3 = nJ (wlk l p s (gn h0 A) c) := by rw [gi_ne (by first | exact gxx rfl | omega)]; exact g3
    generalize pt h 63 c (nJ 0) = g at h1 F1 n1 k1 k2 k3 ⊢
    have kA : gi g A c = nJ (gn h0 A c) := by
      rw [fr_gi F1 (rg_no (by show (!(Nat.beq 62 A) && (!(Nat.beq 63 A) && true)) = true; rw [nbeqF (fun q => A2.1 q.symm), nbeqF (fun q => A2.2 q.symm)]; rfl) _)]
      exact gi_gn hh0 (q := (0, hi)) (bd_u hA (by first | decide | with_reducible assumption | omega)) (Int.le_refl 0)
    have tb := fr0_tab ⟨s, s5⟩ ⟨c, by omega⟩
    have tl : tk l p s (gn h0 A) c < 512 := Nat.lt_of_lt_of_le (tk_lt p9 (fun i hi => V i (by first | decide | with_reducible assumption | omega))) (Nat.le_trans (Nat.pow_le_pow_right (n := 2) (by first | decide | with_reducible assumption | omega) p9) (by decide))
    refine E_il rfl L3 ?_
    refine E_il rfl L6 ?_
    refine E_bin rfl rfl ?_
    refine E_ci 1 rfl ci1 ?_
    refine E_bin rfl rfl ?_
    by_cases b : isB s c = false
    · refine E_ifT rfl (decide_eq_true (tb.mpr b)) ?_
      have b' : ¬ isB s c = true := by rw [b]; decide
      have es : spt l p s (gn h0 A) c = 0 := by unfold spt; rw [if_neg b']
      refine E_inc rfl L6 (nJ_inc _) (fun lv1 K6 kp => ?_)
      refine E_goto rfl ?_
      refine ih lv1 (by first | decide | with_reducible assumption | omega) ⟨h1, F1, ?_, ?_, ?_, fun i hi => ?_⟩ (kp 0 _ (nbz rfl) rfl L0) (kp 1 _ (nbz rfl) rfl L1) (kp 2 _ (nbz rfl) rfl L2) (kp 3 _ (nbz rfl) rfl L3) (kp 4 _ (nbz rfl) rfl L4) (kp 5 _ (nbz rfl) rfl L5) K6
      · rw [tk_s, es]; exact k1
      · show _ = nJ (if isB s c = true ∧ spt l p s (gn h0 A) c = 0 then _ else _)
        rw [if_neg (fun q => b' q.1)]; exact k2
      · show _ = nJ (_ + (if spt l p s (gn h0 A) c = 0 then 0 else _))
        rw [if_pos es]; exact k3
      · rw [n1]
        by_cases e : i = c
        · rw [e, fup_s, es]
        · rw [fup_n e]; exact g4 i (by first | decide | with_reducible assumption | omega)
    · have b' : isB s c = true := by cases q : isB s c; exact absurd q b; rfl
      refine E_ifF rfl (decide_eq_false (fun q => b (tb.mp q))) ?_
      have v := V c (by first | decide | with_reducible assumption | omega)
      have es : spt l p s (gn h0 A) c = sf l p (tk l p s (gn h0 A) c) (gn h0 A c) := by unfold spt; rw [if_pos b']
      refine E_al rfl L0 ?_
      refine E_il rfl L6 ?_
      refine E_al rfl L1 ?_
      refine E_il rfl L6 ?_
      refine E_ial rfl h1 hA (by first | decide | with_reducible assumption | omega) (by decide) kA ?_
      refine E_il rfl L5 ?_
      refine E_il rfl L4 ?_
      refine E_al rfl L0 ?_
      refine E_ogf (q := (0, 511)) rfl h1 rfl rfl k1 ?_
      refine E_al rfl L1 ?_
      refine E_il rfl L6 ?_
      refine E_ial rfl h1 hA (by first | decide | with_reducible assumption | omega) (by decide) kA ?_
      refine E_call rfl (sp_spotFor (d := d) l3 tl p9 v.1 v.2) (chkS rfl (by show 3 ≤ 8; decide)) (fun h2 r2 => ?_)
      rintro ⟨e2, f2⟩
      rw [e2, f2, ← es]
      have ok := spt_ok (l := l) (s := s) (W := gn h0 A) v.1 v.2
      have wl := wlk_le (l := l) (s := s) (W := gn h0 A) (p := p) (n := c) (fun i hi => V i (by first | decide | with_reducible assumption | omega))
      have wl2 : c * p ≤ 8 * 9 := Nat.mul_le_mul (by first | decide | with_reducible assumption | omega) p9
      refine E_call rfl (Sp_le (by first | exact Nat.add_le_add_left (Nat.le_of_ble_eq_true rfl) _ | exact Nat.le_of_ble_eq_true rfl | omega) (sp_come (d := d) h1 (by first | decide | with_reducible assumption | omega) (by first | decide | with_reducible assumption | omega) p9 tl k1 ok (mss_lt c) k2 (by first | decide | with_reducible assumption | omega) k3)) (chkO (a := 62) h1 rfl rfl rfl rfl (by show 0 ≤ 8; decide)) (fun h3 r3 => ?_)
      rintro ⟨e3, hh3, f3, m1, m2, m3, m4⟩
      rw [e3]
      refine E_inc rfl L6 (nJ_inc _) (fun lv1 K6 kp => ?_)
      refine E_goto rfl ?_
      refine ih lv1 (by first | decide | with_reducible assumption | omega) ⟨hh3, fr_trans F1 f3, ?_, ?_, ?_, fun i hi => ?_⟩ (kp 0 _ (nbz rfl) rfl L0) (kp 1 _ (nbz rfl) rfl L1) (kp 2 _ (nbz rfl) rfl L2) (kp 3 _ (nbz rfl) rfl L3) (kp 4 _ (nbz rfl) rfl L4) (kp 5 _ (nbz rfl) rfl L5) K6
      · rw [tk_s]; exact m1
      · rw [m2]
        show _ = nJ (if isB s c = true ∧ spt l p s (gn h0 A) c = 0 then _ else _)
        by_cases z : spt l p s (gn h0 A) c = 0
        · rw [if_pos z, if_pos ⟨b', z⟩]
        · rw [if_neg z, if_neg (fun q => z q.2)]
      · exact m3
      · rw [m4, n1]
        by_cases e : i = c
        · rw [e, fup_s]
        · rw [fup_n e, fup_n e]; exact g4 i (by first | decide | with_reducible assumption | omega)
theorem sp_fill {A l p s n : Nat} {hi : Int} (hA : hsF A = some (.inl (0, 8, [(0, hi)]))) (A2 : A ≠ 62 ∧ A ≠ 63) (hh : HH h) (l3 : l ≤ 3) (p9 : p ≤ 9) (s5 : s < 512) (n8 : n ≤ 8) (V : ∀ c, c < n → 1 ≤ gn h A c ∧ gn h A c ≤ p) : Sp (d + 4) 20 h [.ref 62, .ref A, .int (nJ n), .int (nJ s), .int (nJ p), .int (nJ l)] (fun h' r => r = none ∧ HH h' ∧ fr_g FL h h' ∧ LTP l p s (gn h A) n h') := by
  refine Sp_mono (Q := fun h' r => r = none ∧ FI l p s (gn h A) h n h') ?_ ?_
  · rintro h' r ⟨rfl, hh', F, g1, g2, g3, g4⟩
    exact ⟨rfl, hh', F, g1, g2, g3, fun i hi => by rw [gi_gn hh' (q := (0, 9)) (bd_u rfl (by first | decide | with_reducible assumption | omega)) (by decide), g4 i hi]⟩
  refine Sp_of aiX1_fill rfl rfl rfl ?_
  have L0 : pm_get (lv_args 0 [.ref 62, .ref A, .int (nJ n), .int (nJ s), .int (nJ p), .int (nJ l)]) 0 = some (.ref 62) := rfl
  have L1 : pm_get (lv_args 0 [.ref 62, .ref A, .int (nJ n), .int (nJ s), .int (nJ p), .int (nJ l)]) 1 = some (.ref A) := rfl
  have L2 : pm_get (lv_args 0 [.ref 62, .ref A, .int (nJ n), .int (nJ s), .int (nJ p), .int (nJ l)]) 2 = some (.int (nJ n)) := rfl
  have L3 : pm_get (lv_args 0 [.ref 62, .ref A, .int (nJ n), .int (nJ s), .int (nJ p), .int (nJ l)]) 3 = some (.int (nJ s)) := rfl
  have L4 : pm_get (lv_args 0 [.ref 62, .ref A, .int (nJ n), .int (nJ s), .int (nJ p), .int (nJ l)]) 4 = some (.int (nJ p)) := rfl
  have L5 : pm_get (lv_args 0 [.ref 62, .ref A, .int (nJ n), .int (nJ s), .int (nJ p), .int (nJ l)]) 5 = some (.int (nJ l)) := rfl
  generalize lv_args 0 [.ref 62, .ref A, .int (nJ n), .int (nJ s), .int (nJ p), .int (nJ l)] = lv at L0 L1 L2 L3 L4 L5 ⊢
  refine E_al rfl L0 ?_
  refine E_ci 0 rfl ci0 ?_
  refine E_opf (q := (0, 511)) rfl hh rfl rfl ?_
  have h1 : HH (pt h 62 1 (nJ 0)) := HH_ptn hh rfl (by first | decide | with_reducible assumption | omega) (by first | decide | with_reducible assumption | omega) (by first | decide | with_reducible assumption | omega)
  refine E_al rfl L0 ?_
  refine E_ci 0 rfl ci0 ?_
  refine E_opf (q := (0, 255)) rfl h1 rfl rfl ?_
  have h2 : HH (pt (pt h 62 1 (nJ 0)) 62 2 (nJ 0)) := HH_ptn h1 rfl (by first | decide | with_reducible assumption | omega) (by first | decide | with_reducible assumption | omega) (by first | decide | with_reducible assumption | omega)
  refine E_al rfl L0 ?_
  refine E_ci 0 rfl ci0 ?_
  refine E_opf (q := (-2147483648, 2147483647)) rfl h2 rfl rfl ?_
  have h3 : HH (pt (pt (pt h 62 1 (nJ 0)) 62 2 (nJ 0)) 62 3 (nJ 0)) := HH_ptn h2 rfl (by first | decide | with_reducible assumption | omega) (by first | decide | with_reducible assumption | omega) (by first | decide | with_reducible assumption | omega)
  refine E_ci 0 rfl ci0 ?_
  refine E_is rfl (fun lv1 K6 kp => ?_)
  refine fi_loop hA A2 hh l3 p9 s5 n8 V n (c := 0) lv1 (by first | decide | with_reducible assumption | omega) ⟨h3, fr_ptr (l := 1) (u := 3) rfl (by first | decide | with_reducible assumption | omega) (by first | decide | with_reducible assumption | omega) (fr_ptr (l := 1) (u := 3) rfl (by first | decide | with_reducible assumption | omega) (by first | decide | with_reducible assumption | omega) (fr_ptr (l := 1) (u := 3) rfl (by first | decide | with_reducible assumption | omega) (by first | decide | with_reducible assumption | omega) (fr_rf _ _))), ?_, ?_, ?_, fun i hi => absurd hi (Nat.not_lt_zero i)⟩ (kp 0 _ (nbz rfl) rfl L0) (kp 1 _ (nbz rfl) rfl L1) (kp 2 _ (nbz rfl) rfl L2) (kp 3 _ (nbz rfl) rfl L3) (kp 4 _ (nbz rfl) rfl L4) (kp 5 _ (nbz rfl) rfl L5) K6
  · rw [gi_ne (by first | exact gxx rfl | omega), gi_ne (by first | exact gxx rfl | omega)]; exact gi_ptn hh rfl (by first | decide | with_reducible assumption | omega) (by first | decide | with_reducible assumption | omega) (by first | decide | with_reducible assumption | omega)
  · rw [gi_ne (by first | exact gxx rfl | omega)]; exact gi_ptn h1 rfl (by first | decide | with_reducible assumption | omega) (by first | decide | with_reducible assumption | omega) (by first | decide | with_reducible assumption | omega)
  · exact gi_ptn h2 rfl (by first | decide | with_reducible assumption | omega) (by first | decide | with_reducible assumption | omega) (by first | decide | with_reducible assumption | omega)
theorem sp_everyCar (hh : HH h) : Sp (d + 1) 103 h [.ref 0] (fun h' r => h' = h ∧ r = some (.int (nJ (2 ^ gn h 15 4 - 1)))) := by
  obtain ⟨-, -, a3, a4, -⟩ := g15 hh
  refine Sp_of aiX8_everyCar rfl rfl rfl ?_
  have L0 : pm_get (lv_args 0 [.ref 0]) 0 = some (.ref 0) := rfl
  generalize lv_args 0 [.ref 0] = lv at L0 ⊢
  refine E_ci 1 rfl ci1 ?_
  refine E_al rfl L0 ?_
  refine E_ogr (q := 15) rfl hh rfl rfl ?_
  refine E_ogf (q := (0, 8)) rfl hh rfl rfl a3 ?_
  refine E_bin rfl rfl ?_
  refine E_ci 1 rfl ci1 ?_
  refine E_bin rfl (cm_bits a4) ?_
  exact E_rti rfl ⟨rfl, rfl⟩
theorem all_lt {c : Nat} (h : c ≤ 8) : 2 ^ c - 1 < 512 := by
  have : 2 ^ c ≤ 2 ^ 8 := Nat.pow_le_pow_right (by first | decide | with_reducible assumption | omega) h
  omega
theorem sp_parkAll (hh : HH h) (V : ∀ c, c < gn h 15 4 → 1 ≤ gn h 17 c ∧ gn h 17 c ≤ gn h 15 0) : Sp (d + 5) 154 h [.ref 0] (fun h' r => r = none ∧ HH h' ∧ fr_g FL h h' ∧ LTP (gn h 15 1) (gn h 15 0) (2 ^ gn h 15 4 - 1) (gn h 17) (gn h 15 4) h') := by
  obtain ⟨a1, a2, a3, a4, -⟩ := g15 hh
  have l1 : gi h 15 1 = nJ (gn h 15 1) := gi_gn hh rfl (by decide)
  have l3 : gn h 15 1 ≤ 3 := gn_hi hh rfl (by decide)
  refine Sp_of aiX8_parkAll rfl rfl rfl ?_
  have L0 : pm_get (lv_args 0 [.ref 0]) 0 = some (.ref 0) := rfl
  generalize lv_args 0 [.ref 0] = lv at L0 ⊢
  refine E_al rfl L0 ?_
  refine E_ogr (q := 62) rfl hh rfl rfl ?_
  refine E_al rfl L0 ?_
  refine E_ogr (q := 15) rfl hh rfl rfl ?_
  refine E_ogr (q := 17) rfl hh rfl rfl ?_
  refine E_al rfl L0 ?_
  refine E_ogr (q := 15) rfl hh rfl rfl ?_
  refine E_ogf (q := (0, 8)) rfl hh rfl rfl a3 ?_
  refine E_al rfl L0 ?_
  refine E_call rfl (Sp_le (by first | exact Nat.add_le_add_left (Nat.le_of_ble_eq_true rfl) _ | exact Nat.le_of_ble_eq_true rfl | omega) (sp_everyCar (d := d) hh)) (chkO (a := 0) hh rfl rfl rfl rfl (by show 3 ≤ 8; decide)) (fun h1 r1 => ?_)
  rintro ⟨e1, f1⟩
  rw [e1, f1]
  refine E_al rfl L0 ?_
  refine E_ogr (q := 15) rfl hh rfl rfl ?_
  refine E_ogf (q := (0, 8)) rfl hh rfl rfl a1 ?_
  refine E_al rfl L0 ?_
  refine E_ogr (q := 15) rfl hh rfl rfl ?_
  refine E_ogf (q := (0, 3)) rfl hh rfl rfl l1 ?_
  refine E_call rfl (sp_fill (d := d) (A := 17) (hi := 8) rfl (by decide) hh l3 (by first | decide | with_reducible assumption | omega) (all_lt a4) a4 V) (chkO (a := 62) hh rfl rfl rfl rfl (by show 0 ≤ 8; decide)) (fun h2 r2 => ?_)
  rintro ⟨e2, hh2, f2, t2⟩
  rw [e2]
  exact E_ret rfl ⟨rfl, hh2, f2, t2⟩
end FILL
end
section
/-! the reference parks (wants u65, u63) -/
noncomputable def pO (q : Nat) : Int32 := if q = 0 then -1 else nJ q
/-- who holds a place, counted from 1; 0: none -/
noncomputable def hd (l p s : Nat) (W : Nat → Nat) : Nat → Nat → Nat
  | 0, _ => 0
  | n + 1, q => if spt l p s W n = q ∧ q ≠ 0 then n + 1 else hd l p s W n q
theorem hd_le {l p s : Nat} {W : Nat → Nat} {q : Nat} : ∀ (n : Nat), hd l p s W n q ≤ n
  | 0 => Nat.le_refl 0
  | n + 1 => by
    have := hd_le (l := l) (p := p) (s := s) (W := W) (q := q) n
    show (if spt l p s W n = q ∧ q ≠ 0 then n + 1 else hd l p s W n q) ≤ n + 1
    split <;> omega
theorem hd_free {l p s : Nat} {W : Nat → Nat} (p9 : p ≤ 9) : ∀ {n : Nat}, (∀ c, c < n → 1 ≤ W c ∧ W c ≤ p) → ∀ q, 1 ≤ q → q ≤ 9 → (hd l p s W n q = 0 ↔ isB (tk l p s W n) (q - 1) = false)
  | 0, _, q, _, _ => ⟨fun _ => isB_zero _, fun _ => rfl⟩
  | n + 1, V, q, q1, q9 => by
    have ih := hd_free (l := l) (s := s) p9 (n := n) (fun c hc => V c (by first | decide | with_reducible assumption | omega)) q q1 q9
    have tl : tk l p s W n < 512 := Nat.lt_of_lt_of_le (tk_lt p9 (fun i hi => V i (by first | decide | with_reducible assumption | omega))) (Nat.le_trans (Nat.pow_le_pow_right (n := 2) (by first | decide | with_reducible assumption | omega) p9) (by decide))
    have ok := spt_ok (l := l) (s := s) (W := W) (V n (by first | decide | with_reducible assumption | omega)).1 (V n (by first | decide | with_reducible assumption | omega)).2
    show (if spt l p s W n = q ∧ q ≠ 0 then n + 1 else hd l p s W n q) = 0 ↔ isB (tk l p s W (n + 1)) (q - 1) = false
    rw [tk_s]
    unfold ad
    rcases ok with z | ⟨a1, a2, a3⟩
    · rw [if_neg (by first | decide | with_reducible assumption | omega), if_pos z]; exact ih
    · rw [if_neg (show ¬ spt l p s W n = 0 by omega), isB_add tl (by first | decide | with_reducible assumption | omega) (by first | decide | with_reducible assumption | omega) a3]
      by_cases e : spt l p s W n = q
      · rw [if_pos ⟨e, by omega⟩, e, show (q - 1 == q - 1) = true from beq_self_eq_true _]
        constructor
        · intro k; omega
        · intro k; cases k
      · rw [if_neg (fun k => e k.1), show (q - 1 == spt l p s W n - 1) = false from beq_eq_false_iff_ne.mpr (by first | decide | with_reducible assumption | omega), Bool.false_or]
        exact ih
noncomputable def HLm (p m : Nat) (h : pm_H) : Prop := ∀ q, 1 ≤ q → q ≤ p → (gi h 90 q = -1 ↔ isB m (q - 1) = false)
section PK9
variable {h : pm_H} {d : Nat}
theorem sp_isFree9 {p m : Nat} {x : Int32} (hh : HH h) (p9 : p ≤ 9) (H : HLm p m h) : Sp (d + 1) 268 h [.ref 77, .int x, .int (nJ p)] (fun h' r => h' = h ∧ r = some (.int (zb (1 ≤ x.toInt ∧ x.toInt ≤ (p : Int) ∧ isB m (x.toInt.toNat - 1) = false)))) := by
  refine Sp_of aiX9_isFree rfl rfl rfl ?_
  have L0 : pm_get (lv_args 0 [.ref 77, .int x, .int (nJ p)]) 0 = some (.ref 77) := rfl
  have L1 : pm_get (lv_args 0 [.ref 77, .int x, .int (nJ p)]) 1 = some (.int x) := rfl
  have L2 : pm_get (lv_args 0 [.ref 77, .int x, .int (nJ p)]) 2 = some (.int (nJ p)) := rfl
  generalize lv_args 0 [.ref 77, .int x, .int (nJ p)] = lv at L0 L1 L2 ⊢
  have no : ¬ (1 ≤ x.toInt ∧ x.toInt ≤ (p : Int) ∧ isB m (x.toInt.toNat - 1) = false) → Ends (pm_at tX9_isFree) (pm_Rt pm_P d) (24, lv, [], h, 0, 0) (fun h' r => h' = h ∧ r = some (.int (zb (1 ≤ x.toInt ∧ x.toInt ≤ (p : Int) ∧ isB m (x.toInt.toNat - 1) = false)))) := by
    intro q
    refine E_ci 0 rfl ci0 ?_
    exact E_rtz rfl (.inl rfl) ⟨rfl, by rw [zb_F q]⟩
  have z1 : (1 : Int32).toInt = 1 := rfl
  have zp := nJ_toInt (n := p) (by first | decide | with_reducible assumption | omega)
  refine E_il rfl L1 ?_
  refine E_c rfl ?_
  by_cases b1 : 1 ≤ x.toInt
  · refine E_icF rfl (decide_eq_false (fun q => by have := Int32.lt_iff_toInt_lt.mp q; omega)) ?_
    refine E_il rfl L1 ?_
    refine E_il rfl L2 ?_
    by_cases b2 : x.toInt ≤ (p : Int)
    · refine E_icF rfl (decide_eq_false (fun q => by have := Int32.lt_iff_toInt_lt.mp q; omega)) ?_
      obtain ⟨c, hc, rfl⟩ : ∃ c, c ≤ 9 ∧ x = nJ c := ⟨x.toInt.toNat, by omega, nJ_of (by first | decide | with_reducible assumption | omega)⟩
      have xc := nJ_toInt (n := c) (by first | decide | with_reducible assumption | omega)
      have hq := H c (by first | decide | with_reducible assumption | omega) (by first | decide | with_reducible assumption | omega)
      refine E_al rfl L0 ?_
      refine E_gr rfl hh (q := 90) rfl ?_
      refine E_il rfl L1 ?_
      refine E_ial rfl hh rfl (by first | decide | with_reducible assumption | omega) (by decide) rfl ?_
      refine E_c rfl ?_
      have ec : (nJ c).toInt.toNat = c := by omega
      by_cases b3 : isB m (c - 1) = false
      · refine E_icF rfl (decide_eq_false (fun q => q (hq.mpr b3))) ?_
        refine E_ci 1 rfl ci1 ?_
        refine E_goto rfl ?_
        exact E_rtz rfl (.inr rfl) ⟨rfl, by rw [zb_T ⟨b1, b2, by rw [ec]; exact b3⟩]⟩
      · refine E_icT rfl (decide_eq_true (fun q => b3 (hq.mp q))) ?_
        exact no (fun q => b3 (by have := q.2.2; rw [ec] at this; exact this))
    · refine E_icT rfl (decide_eq_true (Int32.lt_iff_toInt_lt.mpr (by first | decide | with_reducible assumption | omega))) ?_
      exact no (fun q => b2 q.2.1)
  · refine E_icT rfl (decide_eq_true (Int32.lt_iff_toInt_lt.mpr (by first | decide | with_reducible assumption | omega))) ?_
    exact no (fun q => b1 q.1)
/-- the same of a number -/
theorem sp_isFree9n {p m q : Nat} (hh : HH h) (p9 : p ≤ 9) (q10 : q ≤ 100) (H : HLm p m h) : Sp (d + 1) 268 h [.ref 77, .int (nJ q), .int (nJ p)] (fun h' r => h' = h ∧ r = some (.int (zb (1 ≤ q ∧ q ≤ p ∧ isB m (q - 1) = false)))) := by
  refine Sp_mono ?_ (sp_isFree9 (x := nJ q) hh p9 H)
  rintro h' r ⟨rfl, rfl⟩
  have e := nJ_toInt (n := q) (by first | decide | with_reducible assumption | omega)
  refine ⟨rfl, ?_⟩
  by_cases b : 1 ≤ q ∧ q ≤ p ∧ isB m (q - 1) = false
  · rw [zb_T b, zb_T]
    rw [e]
    exact ⟨by omega, by omega, by rw [show ((q : Int).toNat) = q by omega]; exact b.2.2⟩
  · rw [zb_F b, zb_F]
    rw [e]
    rintro ⟨x1, x2, x3⟩
    rw [show ((q : Int).toNat) = q by omega] at x3
    exact b ⟨by omega, by omega, x3⟩
theorem ab_loop {p m : Nat} (hh : HH h) (p9 : p ≤ 9) (H : HLm p m h) (j : Nat) : ∀ {q : Nat} (lv : List (Nat × Value)), 1 ≤ q → q ≤ 10 → p < q + j → pm_get lv 0 = some (.ref 77) → pm_get lv 2 = some (.int (nJ p)) → pm_get lv 3 = some (.int (nJ q)) → Ends (pm_at tX9_above0) (pm_Rt pm_P (d + 1)) (4, lv, [], h, 0, 0) (fun h' r => h' = h ∧ r = some (.int (pO (ff m p j q)))) := by
  induction j with
  | zero =>
    intro q lv q1 q10 hj L0 L2 L3
    refine E_il rfl L3 ?_
    refine E_il rfl L2 ?_
    refine E_icT rfl (decide_eq_true ((nJ_lt (by first | decide | with_reducible assumption | omega) (by first | decide | with_reducible assumption | omega)).mpr (by first | decide | with_reducible assumption | omega))) ?_
    refine E_c rfl ?_
    exact E_rti rfl ⟨rfl, rfl⟩
  | succ j ih =>
    intro q lv q1 q10 hj L0 L2 L3
    unfold ff
    refine E_il rfl L3 ?_
    refine E_il rfl L2 ?_
    by_cases b : q ≤ p
    · refine E_icF rfl (decide_eq_false (fun z => absurd ((nJ_lt (by first | decide | with_reducible assumption | omega) (by first | decide | with_reducible assumption | omega)).mp z) (by first | decide | with_reducible assumption | omega))) ?_
      rw [if_pos b]
      refine E_al rfl L0 ?_
      refine E_il rfl L3 ?_
      refine E_il rfl L2 ?_
      refine E_call rfl (sp_isFree9n (d := d) hh p9 (by first | decide | with_reducible assumption | omega) H) (chk77 hh rfl rfl (by show 0 ≤ 8; decide)) (fun h1 r1 => ?_)
      rintro ⟨e1, f1⟩
      rw [e1, f1]
      by_cases c : isB m (q - 1) = false
      · refine E_ifF rfl (by rw [zb_T ⟨q1, b, c⟩]; rfl) ?_
        rw [if_pos c]
        refine E_il rfl L3 ?_
        exact E_rti rfl ⟨rfl, by unfold pO; rw [if_neg (by first | decide | with_reducible assumption | omega)]⟩
      · refine E_ifT rfl (by rw [zb_F (fun z => c z.2.2)]; rfl) ?_
        rw [if_neg c]
        refine E_inc rfl L3 (nJ_inc _) (fun lv1 K3 kp => ?_)
        refine E_goto rfl ?_
        exact ih lv1 (by first | decide | with_reducible assumption | omega) (by first | decide | with_reducible assumption | omega) (by first | decide | with_reducible assumption | omega) (kp 0 _ (nbz rfl) rfl L0) (kp 2 _ (nbz rfl) rfl L2) K3
    · refine E_icT rfl (decide_eq_true ((nJ_lt (by first | decide | with_reducible assumption | omega) (by first | decide | with_reducible assumption | omega)).mpr (by first | decide | with_reducible assumption | omega))) ?_
      rw [if_neg b]
      refine E_c rfl ?_
      exact E_rti rfl ⟨rfl, rfl⟩
theorem sp_above0 {p m a : Nat} (hh : HH h) (p9 : p ≤ 9) (a9 : a ≤ 9) (H : HLm p m h) : Sp (d + 2) 205 h [.ref 77, .int (nJ a), .int (nJ p)] (fun h' r => h' = h ∧ r = some (.int (pO (ff m p 10 (a + 1))))) := by
  refine Sp_of aiX9_above0 rfl rfl rfl ?_
  have L0 : pm_get (lv_args 0 [.ref 77, .int (nJ a), .int (nJ p)]) 0 = some (.ref 77) := rfl
  have L1 : pm_get (lv_args 0 [.ref 77, .int (nJ a), .int (nJ p)]) 1 = some (.int (nJ a)) := rfl
  have L2 : pm_get (lv_args 0 [.ref 77, .int (nJ a), .int (nJ p)]) 2 = some (.int (nJ p)) := rfl
  generalize lv_args 0 [.ref 77, .int (nJ a), .int (nJ p)] = lv at L0 L1 L2 ⊢
  refine E_il rfl L1 ?_
  refine E_ci 1 rfl ci1 ?_
  refine E_bin rfl (nJ_add _ _) ?_
  refine E_is rfl (fun lv1 K3 kp => ?_)
  exact ab_loop hh p9 H 10 lv1 (by first | decide | with_reducible assumption | omega) (by first | decide | with_reducible assumption | omega) (by first | decide | with_reducible assumption | omega) (kp 0 _ (nbz rfl) rfl L0) (kp 2 _ (nbz rfl) rfl L2) K3
theorem pO_n1 {q : Nat} (h : q < 1000) : pO q = -1 ↔ q = 0 := by
  unfold pO
  by_cases z : q = 0
  · rw [if_pos z]; exact ⟨fun _ => z, fun _ => rfl⟩
  · rw [if_neg z]
    constructor
    · intro e
      have := congrArg Int32.toInt e
      rw [nJ_toInt (by first | decide | with_reducible assumption | omega)] at this
      have z1 : (-1 : Int32).toInt = -1 := rfl
      omega
    · intro e; exact absurd e z
theorem nf9_loop {p m w : Nat} (hh : HH h) (p9 : p ≤ 9) (w1 : 1 ≤ w) (wp : w ≤ p) (H : HLm p m h) (j : Nat) : ∀ {k : Nat} (lv : List (Nat × Value)), 1 ≤ k → k ≤ 10 → p ≤ k + j → pm_get lv 0 = some (.ref 77) → pm_get lv 1 = some (.int (nJ w)) → pm_get lv 3 = some (.int (nJ p)) → pm_get lv 4 = some (.int (nJ k)) → Ends (pm_at tX9_findsBy) (pm_Rt pm_P (d + 2)) (44, lv, [], h, 0, 0) (fun h' r => h' = h ∧ r = some (.int (pO (nf m p w j k)))) := by
  induction j with
  | zero =>
    intro k lv k1 k10 hj L0 L1 L3 L4
    refine E_il rfl L4 ?_
    refine E_il rfl L3 ?_
    refine E_icT rfl (decide_eq_true ((nJ_le (by first | decide | with_reducible assumption | omega) (by first | decide | with_reducible assumption | omega)).mpr (by first | decide | with_reducible assumption | omega))) ?_
    refine E_c rfl ?_
    exact E_rti rfl ⟨rfl, rfl⟩
  | succ j ih =>
    intro k lv k1 k10 hj L0 L1 L3 L4
    unfold nf
    refine E_il rfl L4 ?_
    refine E_il rfl L3 ?_
    by_cases b : k < p
    · refine E_icF rfl (decide_eq_false (fun z => absurd ((nJ_le (by first | decide | with_reducible assumption | omega) (by first | decide | with_reducible assumption | omega)).mp z) (by first | decide | with_reducible assumption | omega))) ?_
      rw [if_pos b]
      refine E_al rfl L0 ?_
      refine E_il rfl L1 ?_
      refine E_il rfl L4 ?_
      refine E_bin rfl (nJ_add _ _) ?_
      refine E_il rfl L3 ?_
      refine E_call rfl (Sp_le (by first | exact Nat.add_le_add_left (Nat.le_of_ble_eq_true rfl) _ | exact Nat.le_of_ble_eq_true rfl | omega) (sp_isFree9n (d := d) (q := w + k) hh p9 (by first | decide | with_reducible assumption | omega) H)) (chk77 hh rfl rfl (by show 0 ≤ 8; decide)) (fun h1 r1 => ?_)
      rintro ⟨e1, f1⟩
      rw [e1, f1]
      by_cases c : w + k ≤ p ∧ isB m (w + k - 1) = false
      · refine E_ifF rfl (by rw [zb_T ⟨by omega, c.1, c.2⟩]; rfl) ?_
        rw [if_pos c]
        refine E_il rfl L1 ?_
        refine E_il rfl L4 ?_
        refine E_bin rfl (nJ_add _ _) ?_
        exact E_rti rfl ⟨rfl, by unfold pO; rw [if_neg (by first | decide | with_reducible assumption | omega)]⟩
      · refine E_ifT rfl (by rw [zb_F (fun z => c z.2)]; rfl) ?_
        rw [if_neg c]
        have ti : (nJ w - nJ k).toInt = (w : Int) - (k : Int) := by
          rw [Int32.toInt_sub, nJ_toInt (by first | decide | with_reducible assumption | omega), nJ_toInt (by first | decide | with_reducible assumption | omega)]
          exact Int.bmod_eq_of_le (by first | decide | with_reducible assumption | omega) (by first | decide | with_reducible assumption | omega)
        refine E_al rfl L0 ?_
        refine E_il rfl L1 ?_
        refine E_il rfl L4 ?_
        refine E_bin rfl rfl ?_
        refine E_il rfl L3 ?_
        refine E_call rfl (Sp_le (by first | exact Nat.add_le_add_left (Nat.le_of_ble_eq_true rfl) _ | exact Nat.le_of_ble_eq_true rfl | omega) (sp_isFree9 (d := d) (x := nJ w - nJ k) hh p9 H)) (chk77 hh rfl rfl (by show 0 ≤ 8; decide)) (fun h2 r2 => ?_)
        rintro ⟨e2, f2⟩
        rw [e2, f2]
        have cn : (1 ≤ (nJ w - nJ k).toInt ∧ (nJ w - nJ k).toInt ≤ (p : Int) ∧ isB m ((nJ w - nJ k).toInt.toNat - 1) = false) ↔ (1 + k ≤ w ∧ isB m (w - k - 1) = false) := by
          rw [ti, show ((w : Int) - (k : Int)).toNat = w - k by omega]
          constructor
          · rintro ⟨x1, x2, x3⟩; exact ⟨by omega, x3⟩
          · rintro ⟨x1, x3⟩; exact ⟨by omega, by omega, x3⟩
        by_cases e : 1 + k ≤ w ∧ isB m (w - k - 1) = false
        · refine E_ifF rfl (by rw [zb_T (cn.mpr e)]; rfl) ?_
          rw [if_pos e]
          refine E_il rfl L1 ?_
          refine E_il rfl L4 ?_
          refine E_bin rfl (nJ_sub (by first | decide | with_reducible assumption | omega)) ?_
          exact E_rti rfl ⟨rfl, by unfold pO; rw [if_neg (by first | decide | with_reducible assumption | omega)]⟩
        · refine E_ifT rfl (by rw [zb_F (fun z => e (cn.mp z))]; rfl) ?_
          rw [if_neg e]
          refine E_inc rfl L4 (nJ_inc _) (fun lv1 K4 kp => ?_)
          refine E_goto rfl ?_
          exact ih lv1 (by first | decide | with_reducible assumption | omega) (by first | decide | with_reducible assumption | omega) (by first | decide | with_reducible assumption | omega) (kp 0 _ (nbz rfl) rfl L0) (kp 1 _ (nbz rfl) rfl L1) (kp 3 _ (nbz rfl) rfl L3) K4
    · refine E_icT rfl (decide_eq_true ((nJ_le (by first | decide | with_reducible assumption | omega) (by first | decide | with_reducible assumption | omega)).mpr (by first | decide | with_reducible assumption | omega))) ?_
      rw [if_neg b]
      refine E_c rfl ?_
      exact E_rti rfl ⟨rfl, rfl⟩
theorem sp_findsBy {l m w : Nat} (hh : HH h) (hl : l ≤ 3) (w1 : 1 ≤ w) (wp : w ≤ gn h 84 0) (H : HLm (gn h 84 0) m h) : Sp (d + 3) 249 h [.ref 77, .int (nJ w), .int (nJ l)] (fun h' r => h' = h ∧ r = some (.int (pO (sf l (gn h 84 0) m w)))) := by
  have p8 : gn h 84 0 ≤ 8 := gn_hi hh rfl (by decide)
  refine Sp_of aiX9_findsBy rfl rfl rfl ?_
  have L0 : pm_get (lv_args 0 [.ref 77, .int (nJ w), .int (nJ l)]) 0 = some (.ref 77) := rfl
  have L1 : pm_get (lv_args 0 [.ref 77, .int (nJ w), .int (nJ l)]) 1 = some (.int (nJ w)) := rfl
  have L2 : pm_get (lv_args 0 [.ref 77, .int (nJ w), .int (nJ l)]) 2 = some (.int (nJ l)) := rfl
  generalize lv_args 0 [.ref 77, .int (nJ w), .int (nJ l)] = lv0 at L0 L1 L2 ⊢
  refine E_al rfl L0 ?_
  refine E_call rfl (Sp_le (by first | exact Nat.add_le_add_left (Nat.le_of_ble_eq_true rfl) _ | exact Nat.le_of_ble_eq_true rfl | omega) (sp_places (d := d) hh)) (chk77 hh rfl rfl (by show 0 ≤ 8; decide)) (fun h1 r1 => ?_)
  rintro ⟨e1, f1, -⟩
  rw [e1, f1]
  generalize gn h 84 0 = p at wp H p8 ⊢
  refine E_is rfl (fun lv L3 kp => ?_)
  replace L0 := kp 0 _ (nbz rfl) rfl L0
  replace L1 := kp 1 _ (nbz rfl) rfl L1
  replace L2 := kp 2 _ (nbz rfl) rfl L2
  unfold sf
  refine E_al rfl L0 ?_
  refine E_il rfl L1 ?_
  refine E_il rfl L3 ?_
  refine E_call rfl (Sp_le (by first | exact Nat.add_le_add_left (Nat.le_of_ble_eq_true rfl) _ | exact Nat.le_of_ble_eq_true rfl | omega) (sp_isFree9n (d := d) (q := w) hh (by first | decide | with_reducible assumption | omega) (by first | decide | with_reducible assumption | omega) H)) (chk77 hh rfl rfl (by show 0 ≤ 8; decide)) (fun h2 r2 => ?_)
  rintro ⟨e2, f2⟩
  rw [e2, f2]
  by_cases a : isB m (w - 1) = false
  · refine E_ifF rfl (by rw [zb_T ⟨w1, wp, a⟩]; rfl) ?_
    rw [if_pos a]
    refine E_il rfl L1 ?_
    exact E_rti rfl ⟨rfl, by unfold pO; rw [if_neg (by first | decide | with_reducible assumption | omega)]⟩
  refine E_ifT rfl (by rw [zb_F (fun z => a z.2.2)]; rfl) ?_
  rw [if_neg a]
  have at36 : ¬ (l = 1 ∧ 2 ≤ w ∧ isB m (w - 2) = false) → Ends (pm_at tX9_findsBy) (pm_Rt pm_P (d + 2)) (36, lv, [], h, 0, 0) (fun h' r => h' = h ∧ r = some (.int (pO (if l = 1 ∧ 2 ≤ w ∧ isB m (w - 2) = false then w - 1 else if l = 2 then nf m p w 10 1 else if ff m p 10 (w + 1) = 0 ∧ l = 3 then ff m p 10 1 else ff m p 10 (w + 1))))) := by
    intro b
    rw [if_neg b]
    refine E_il rfl L2 ?_
    refine E_ci 2 rfl ci2 ?_
    by_cases c : l = 2
    · refine E_icF rfl (decide_eq_false (fun z => z ((nJ_eq (by first | decide | with_reducible assumption | omega) (by first | decide | with_reducible assumption | omega)).mpr c))) ?_
      rw [if_pos c]
      refine E_ci 1 rfl ci1 ?_
      refine E_is rfl (fun lv1 K4 kp => ?_)
      exact nf9_loop hh (by first | decide | with_reducible assumption | omega) w1 wp H 10 lv1 (by first | decide | with_reducible assumption | omega) (by first | decide | with_reducible assumption | omega) (by first | decide | with_reducible assumption | omega) (kp 0 _ (nbz rfl) rfl L0) (kp 1 _ (nbz rfl) rfl L1) (kp 3 _ (nbz rfl) rfl L3) K4
    · refine E_icT rfl (decide_eq_true (fun z => c ((nJ_eq (by first | decide | with_reducible assumption | omega) (by first | decide | with_reducible assumption | omega)).mp z))) ?_
      rw [if_neg c]
      refine E_al rfl L0 ?_
      refine E_il rfl L1 ?_
      refine E_il rfl L3 ?_
      refine E_call rfl (sp_above0 (d := d) hh (by first | decide | with_reducible assumption | omega) (by first | decide | with_reducible assumption | omega) H) (chk77 hh rfl rfl (by show 0 ≤ 8; decide)) (fun h3 r3 => ?_)
      rintro ⟨e3, f3⟩
      rw [e3, f3]
      have fo := ff_ok (m := m) (p := p) (j := 10) (q := w + 1) (by first | decide | with_reducible assumption | omega)
      have f9 : ff m p 10 (w + 1) < 1000 := by rcases fo with q | ⟨_, q, _⟩ <;> omega
      refine E_is rfl (fun lv1 K4 kp => ?_)
      refine E_il rfl K4 ?_
      refine E_c rfl ?_
      by_cases z : ff m p 10 (w + 1) = 0
      · refine E_icF rfl (decide_eq_false (fun q => q ((pO_n1 f9).mpr z))) ?_
        refine E_il rfl (kp 2 _ (nbz rfl) rfl L2) ?_
        refine E_ci 3 rfl ci3 ?_
        by_cases l3 : l = 3
        · refine E_icF rfl (decide_eq_false (fun q => q ((nJ_eq (by first | decide | with_reducible assumption | omega) (by first | decide | with_reducible assumption | omega)).mpr l3))) ?_
          rw [if_pos ⟨z, l3⟩]
          refine E_al rfl (kp 0 _ (nbz rfl) rfl L0) ?_
          refine E_ci 0 rfl ci0 ?_
          refine E_il rfl (kp 3 _ (nbz rfl) rfl L3) ?_
          refine E_call rfl (sp_above0 (d := d) (a := 0) hh (by first | decide | with_reducible assumption | omega) (by first | decide | with_reducible assumption | omega) H) (chk77 hh rfl rfl (by show 0 ≤ 8; decide)) (fun h4 r4 => ?_)
          rintro ⟨e4, f4⟩
          rw [e4, f4]
          refine E_goto rfl ?_
          exact E_rti rfl ⟨rfl, rfl⟩
        · refine E_icT rfl (decide_eq_true (fun q => l3 ((nJ_eq (by first | decide | with_reducible assumption | omega) (by first | decide | with_reducible assumption | omega)).mp q))) ?_
          rw [if_neg (fun q => l3 q.2)]
          refine E_il rfl K4 ?_
          exact E_rti rfl ⟨rfl, rfl⟩
      · refine E_icT rfl (decide_eq_true (fun q => z ((pO_n1 f9).mp q))) ?_
        rw [if_neg (fun q => z q.1)]
        refine E_il rfl K4 ?_
        exact E_rti rfl ⟨rfl, rfl⟩
  refine E_il rfl L2 ?_
  refine E_ci 1 rfl ci1 ?_
  by_cases b1 : l = 1
  · refine E_icF rfl (decide_eq_false (fun z => z ((nJ_eq (by first | decide | with_reducible assumption | omega) (by first | decide | with_reducible assumption | omega)).mpr b1))) ?_
    refine E_al rfl L0 ?_
    refine E_il rfl L1 ?_
    refine E_ci 1 rfl ci1 ?_
    refine E_bin rfl (nJ_sub (by first | decide | with_reducible assumption | omega)) ?_
    refine E_il rfl L3 ?_
    refine E_call rfl (Sp_le (by first | exact Nat.add_le_add_left (Nat.le_of_ble_eq_true rfl) _ | exact Nat.le_of_ble_eq_true rfl | omega) (sp_isFree9n (d := d) (q := w - 1) hh (by first | decide | with_reducible assumption | omega) (by first | decide | with_reducible assumption | omega) H)) (chk77 hh rfl rfl (by show 0 ≤ 8; decide)) (fun h3 r3 => ?_)
    rintro ⟨e3, f3⟩
    rw [e3, f3, show w - 1 - 1 = w - 2 by omega]
    by_cases b3 : 2 ≤ w ∧ isB m (w - 2) = false
    · refine E_ifF rfl (by rw [zb_T ⟨by omega, by omega, b3.2⟩]; rfl) ?_
      rw [if_pos ⟨b1, b3⟩]
      refine E_il rfl L1 ?_
      refine E_ci 1 rfl ci1 ?_
      refine E_bin rfl (nJ_sub (by first | decide | with_reducible assumption | omega)) ?_
      exact E_rti rfl ⟨rfl, by unfold pO; rw [if_neg (by first | decide | with_reducible assumption | omega)]⟩
    · refine E_ifT rfl (by rw [zb_F (fun z => b3 ⟨by omega, z.2.2⟩)]; rfl) ?_
      exact at36 (fun q => b3 q.2)
  · refine E_icT rfl (decide_eq_true (fun z => b1 ((nJ_eq (by first | decide | with_reducible assumption | omega) (by first | decide | with_reducible assumption | omega)).mp z))) ?_
    exact at36 (fun q => b1 q.1)
end PK9
end
section
/-! the reference parks and lays, exactly; the street's numbers as both see them (wants u66, u67) -/
noncomputable def PKF : List Rng := [(77, 27, 27), (90, 0, 9), (91, 0, 7)]
noncomputable def LNF : List Rng := [(77, 22, 23), (77, 27, 27), (89, 0, 7), (90, 0, 9), (91, 0, 7)]
noncomputable def PKD (l p s : Nat) (W : Nat → Nat) (n : Nat) (h : pm_H) : Prop := gi h 77 27 = nJ (mss l p s W n) ∧ (∀ q, q ≤ 9 → gi h 90 q = pI (hd l p s W n q)) ∧ ∀ i, i < n → gi h 91 i = pO (spt l p s W i)
theorem hd_W {l p s n : Nat} {W W' : Nat → Nat} (e : ∀ c, c < n → W c = W' c) (q : Nat) : hd l p s W n q = hd l p s W' n q := by
  induction n with
  | zero => rfl
  | succ n ih =>
    have i := ih (fun c hc => e c (by first | decide | with_reducible assumption | omega))
    show (if spt l p s W n = q ∧ q ≠ 0 then n + 1 else hd l p s W n q) = (if spt l p s W' n = q ∧ q ≠ 0 then n + 1 else hd l p s W' n q)
    rw [i, spt_W (fun c hc => e c (by first | decide | with_reducible assumption | omega))]
theorem PKD_W {l p s n : Nat} {W W' : Nat → Nat} {h : pm_H} (e : ∀ c, c < n → W c = W' c) (k : PKD l p s W n h) : PKD l p s W' n h := by
  obtain ⟨k1, k2, k3⟩ := k
  refine ⟨by rw [k1, mss_W e], fun q hq => by rw [k2 q hq, hd_W e], fun i hi => ?_⟩
  rw [k3 i hi, spt_W (fun c hc => e c (by first | decide | with_reducible assumption | omega))]
theorem pI_n1 {n : Nat} (hn : n < 2147483648) : pI n = -1 ↔ n = 0 := by
  cases n with
  | zero => exact ⟨fun _ => rfl, fun _ => rfl⟩
  | succ k =>
    constructor
    · intro e
      have := congrArg Int32.toInt e
      rw [show pI (k + 1) = nJ k from rfl, nJ_toInt (by first | decide | with_reducible assumption | omega)] at this
      have z1 : (-1 : Int32).toInt = -1 := rfl
      omega
    · intro e; cases e
theorem pO_lo {q : Nat} (h : q ≤ 9) : (-1 : Int) ≤ (pO q).toInt ∧ (pO q).toInt ≤ 9 := by
  unfold pO
  by_cases z : q = 0
  · rw [if_pos z]; exact ⟨by decide, by decide⟩
  · rw [if_neg z, nJ_toInt (by first | decide | with_reducible assumption | omega)]; omega
section PARKS
variable {h0 : pm_H} {d : Nat}
theorem pkX_clr {Q : pm_H → Option Value → Prop} {x : Int32} (hh0 : HH h0) (j : Nat) : ∀ {h : pm_H} {k : Nat} (lv : List (Nat × Value)), k + j = 10 → HH h → fr_g PKF h0 h → gi h 77 27 = nJ 0 → (∀ q, q < k → gi h 90 q = -1) → pm_get lv 0 = some (.ref 77) → pm_get lv 1 = some (.int x) → pm_get lv 2 = some (.int (nJ k)) → (∀ (h' : pm_H) (lv' : List (Nat × Value)), HH h' → fr_g PKF h0 h' → gi h' 77 27 = nJ 0 → (∀ q, q ≤ 9 → gi h' 90 q = -1) → pm_get lv' 0 = some (.ref 77) → pm_get lv' 1 = some (.int x) → pm_get lv' 2 = some (.int (nJ 0)) → Ends (pm_at tX9_parks) (pm_Rt pm_P d) (28, lv', [], h', 0, 0) Q) → Ends (pm_at tX9_parks) (pm_Rt pm_P d) (7, lv, [], h, 0, 0) Q := by
  induction j with
  | zero =>
    intro h k lv hj hh hf g1 g2 L0 L1 L2 kk
    refine E_il rfl L2 ?_
    refine E_ci 10 rfl ci10 ?_
    refine E_icT rfl (decide_eq_true ((nJ_le (by first | decide | with_reducible assumption | omega) (by first | decide | with_reducible assumption | omega)).mpr (by first | decide | with_reducible assumption | omega))) ?_
    refine E_ci 0 rfl ci0 ?_
    refine E_is rfl (fun lv1 K2 kp => ?_)
    exact kk h lv1 hh hf g1 (fun q hq => g2 q (by first | decide | with_reducible assumption | omega)) (kp 0 _ (nbz rfl) rfl L0) (kp 1 _ (nbz rfl) rfl L1) K2
  | succ j ih =>
    intro h k lv hj hh hf g1 g2 L0 L1 L2 kk
    refine E_il rfl L2 ?_
    refine E_ci 10 rfl ci10 ?_
    refine E_icF rfl (decide_eq_false (fun z => absurd ((nJ_le (by first | decide | with_reducible assumption | omega) (by first | decide | with_reducible assumption | omega)).mp z) (by first | decide | with_reducible assumption | omega))) ?_
    refine E_al rfl L0 ?_
    refine E_gr rfl hh (q := 90) rfl ?_
    refine E_il rfl L2 ?_
    refine E_c rfl ?_
    refine E_ias rfl hh rfl (by first | decide | with_reducible assumption | omega) (by decide) ?_
    have b : bd 90 k = some (-1, 7) := bd_u rfl (by first | decide | with_reducible assumption | omega)
    have hh1 : HH (pt h 90 k (-1)) := HH_pt hh b (by decide) (by decide)
    refine E_inc rfl L2 (nJ_inc _) (fun lv1 K2 kp => ?_)
    refine E_goto rfl ?_
    refine ih lv1 (by first | decide | with_reducible assumption | omega) hh1 (fr_ptr (l := 0) (u := 9) rfl (by first | decide | with_reducible assumption | omega) (by first | decide | with_reducible assumption | omega) hf) (by rw [gi_ne (by first | exact gxx rfl | omega)]; exact g1) (fun q hq => ?_) (kp 0 _ (nbz rfl) rfl L0) (kp 1 _ (nbz rfl) rfl L1) K2 kk
    by_cases e : q = k
    · rw [e]; exact gi_pt hh b (by decide) (by decide)
    · rw [gi_ne (fun _ => e)]; exact g2 q (by first | decide | with_reducible assumption | omega)
theorem pkX_loop {l s : Nat} (hh0 : HH h0) (l3 : l ≤ 3) (s5 : s < 512) (gs : gi h0 77 23 = nJ s) (V : ∀ c, c < gn h0 84 3 → 1 ≤ gn h0 89 c ∧ gn h0 89 c ≤ gn h0 84 0) (j : Nat) : ∀ {h : pm_H} {c : Nat} (lv : List (Nat × Value)), c + j = gn h0 84 3 → HH h → fr_g PKF h0 h → PKD l (gn h0 84 0) s (gn h0 89) c h → pm_get lv 0 = some (.ref 77) → pm_get lv 1 = some (.int (nJ l)) → pm_get lv 2 = some (.int (nJ c)) → Ends (pm_at tX9_parks) (pm_Rt pm_P (d + 3)) (28, lv, [], h, 0, 0) (fun h' r => r = none ∧ HH h' ∧ fr_g PKF h0 h' ∧ PKD l (gn h0 84 0) s (gn h0 89) (gn h0 84 3) h') := by
  have n8 : gn h0 84 3 ≤ 8 := gn_hi hh0 rfl (by decide)
  have p8 : gn h0 84 0 ≤ 8 := gn_hi hh0 rfl (by decide)
  induction j with
  | zero =>
    intro h c lv hj hh hf K L0 L1 L2
    have ec : gn h 84 3 = gn h0 84 3 := fr_gn hf (rg_no rfl _)
    refine E_il rfl L2 ?_
    refine E_al rfl L0 ?_
    refine E_call rfl (Sp_le (by first | exact Nat.add_le_add_left (Nat.le_of_ble_eq_true rfl) _ | exact Nat.le_of_ble_eq_true rfl | omega) (sp_cars (d := d) hh)) (chk77 hh rfl rfl (by show 1 ≤ 8; decide)) (fun h1 r1 => ?_)
    rintro ⟨e1, f1, -⟩
    rw [e1, f1, ec]
    refine E_icT rfl (decide_eq_true ((nJ_le (by first | decide | with_reducible assumption | omega) (by first | decide | with_reducible assumption | omega)).mpr (by first | decide | with_reducible assumption | omega))) ?_
    have e : c = gn h0 84 3 := by omega
    exact E_ret rfl ⟨rfl, hh, hf, e ▸ K⟩
  | succ j ih =>
    intro h c lv hj hh hf K L0 L1 L2
    obtain ⟨k1, k2, k3⟩ := K
    have ec : gn h 84 3 = gn h0 84 3 := fr_gn hf (rg_no rfl _)
    refine E_il rfl L2 ?_
    refine E_al rfl L0 ?_
    refine E_call rfl (Sp_le (by first | exact Nat.add_le_add_left (Nat.le_of_ble_eq_true rfl) _ | exact Nat.le_of_ble_eq_true rfl | omega) (sp_cars (d := d) hh)) (chk77 hh rfl rfl (by show 1 ≤ 8; decide)) (fun h1 r1 => ?_)
    rintro ⟨e1, f1, -⟩
    rw [e1, f1, ec]
    refine E_icF rfl (decide_eq_false (fun z => absurd ((nJ_le (by first | decide | with_reducible assumption | omega) (by first | decide | with_reducible assumption | omega)).mp z) (by first | decide | with_reducible assumption | omega))) ?_
    refine E_al rfl L0 ?_
    refine E_gr rfl hh (q := 91) rfl ?_
    refine E_il rfl L2 ?_
    refine E_c rfl ?_
    refine E_ias rfl hh rfl (by first | decide | with_reducible assumption | omega) (by decide) ?_
    have b91 : bd 91 c = some (-1, 9) := bd_u rfl (by first | decide | with_reducible assumption | omega)
    have hg : HH (pt h 91 c (-1)) := HH_pt hh b91 (by decide) (by decide)
    have fg : fr_g PKF h0 (pt h 91 c (-1)) := fr_ptr (l := 0) (u := 7) rfl (by first | decide | with_reducible assumption | omega) (by first | decide | with_reducible assumption | omega) hf
    have g1 : gi (pt h 91 c (-1)) 77 27 = nJ (mss l (gn h0 84 0) s (gn h0 89) c) := by rw [gi_ne (by first | exact gxx rfl | omega)]; exact k1
    have g2 : ∀ q, q ≤ 9 → gi (pt h 91 c (-1)) 90 q = pI (hd l (gn h0 84 0) s (gn h0 89) c q) := fun q hq => by rw [gi_ne (by first | exact gxx rfl | omega)]; exact k2 q hq
    have g3 : ∀ i, i < c → gi (pt h 91 c (-1)) 91 i = pO (spt l (gn h0 84 0) s (gn h0 89) i) := fun i hi => by rw [gi_ne (by first | exact gxx rfl | omega)]; exact k3 i hi
    have g4 : gi (pt h 91 c (-1)) 91 c = -1 := gi_pt hh b91 (by decide) (by decide)
    generalize pt h 91 c (-1) = g at hg fg g1 g2 g3 g4 ⊢
    have nx : ∀ {g' : pm_H} {lv' : List (Nat × Value)}, HH g' → fr_g PKF h0 g' → PKD l (gn h0 84 0) s (gn h0 89) (c + 1) g' → pm_get lv' 0 = some (.ref 77) → pm_get lv' 1 = some (.int (nJ l)) → pm_get lv' 2 = some (.int (nJ c)) → Ends (pm_at tX9_parks) (pm_Rt pm_P (d + 3)) (103, lv', [], g', 0, 0) (fun h' r => r = none ∧ HH h' ∧ fr_g PKF h0 h' ∧ PKD l (gn h0 84 0) s (gn h0 89) (gn h0 84 3) h') := by
      intro g' lv' a1 a2 a3 M0 M1 M2
      refine E_inc rfl M2 (nJ_inc _) (fun lv1 K2 kp => ?_)
      refine E_goto rfl ?_
      exact ih lv1 (by first | decide | with_reducible assumption | omega) a1 a2 a3 (kp 0 _ (nbz rfl) rfl M0) (kp 1 _ (nbz rfl) rfl M1) K2
    refine E_al rfl L0 ?_
    refine E_gf rfl hg rfl (show gi g 77 23 = nJ s from by rw [fr_gi fg rfl]; exact gs) ?_
    refine E_il rfl L2 ?_
    refine E_call rfl (Sp_le (by first | exact Nat.add_le_add_left (Nat.le_of_ble_eq_true rfl) _ | exact Nat.le_of_ble_eq_true rfl | omega) (sp_isBit (d := d) s5 (show c < 9 by omega))) (chkS rfl (by show 0 ≤ 8; decide)) (fun h2 r2 => ?_)
    rintro ⟨e2, f2⟩
    rw [e2, f2]
    have ms := mss_lt (l := l) (p := gn h0 84 0) (s := s) (W := gn h0 89) c
    cases b : isB s c with
    | false =>
      have b' : ¬ isB s c = true := by rw [b]; decide
      have es : spt l (gn h0 84 0) s (gn h0 89) c = 0 := by unfold spt; rw [if_neg b']
      refine E_ifF rfl rfl ?_
      refine E_goto rfl ?_
      refine nx hg fg ⟨?_, fun q hq => ?_, fun i hi => ?_⟩ L0 L1 L2
      · show _ = nJ (if isB s c = true ∧ spt l (gn h0 84 0) s (gn h0 89) c = 0 then _ else _)
        rw [if_neg (fun q => b' q.1)]; exact g1
      · show _ = pI (if spt l (gn h0 84 0) s (gn h0 89) c = q ∧ q ≠ 0 then c + 1 else _)
        rw [if_neg (by rw [es]; rintro ⟨a, a'⟩; exact a' a.symm)]; exact g2 q hq
      · by_cases e : i = c
        · rw [e, g4, es]; rfl
        · exact g3 i (by first | decide | with_reducible assumption | omega)
    | true =>
      have v := V c (by first | decide | with_reducible assumption | omega)
      have es : spt l (gn h0 84 0) s (gn h0 89) c = sf l (gn h0 84 0) (tk l (gn h0 84 0) s (gn h0 89) c) (gn h0 89 c) := by unfold spt; rw [if_pos b]
      have ok := spt_ok (l := l) (s := s) (W := gn h0 89) v.1 v.2
      have q9 : spt l (gn h0 84 0) s (gn h0 89) c ≤ 9 := by rcases ok with e | ⟨_, e, _⟩ <;> omega
      have ep : gn g 84 0 = gn h0 84 0 := fr_gn fg (rg_no rfl _)
      refine E_ifT rfl rfl ?_
      refine E_al rfl L0 ?_
      refine E_al rfl L0 ?_
      refine E_gr rfl hg (q := 89) rfl ?_
      refine E_il rfl L2 ?_
      refine E_ial rfl hg rfl (by first | decide | with_reducible assumption | omega) (by decide) (show gi g 89 c = nJ (gn h0 89 c) from by rw [fr_gi fg (rg_no rfl _)]; exact gi_gn hh0 (q := (0, 8)) (bd_u rfl (by first | decide | with_reducible assumption | omega)) (by decide)) ?_
      refine E_il rfl L1 ?_
      refine E_call rfl (sp_findsBy (d := d) (m := tk l (gn h0 84 0) s (gn h0 89) c) hg l3 v.1 (by rw [ep]; exact v.2) (by
        rw [ep]
        intro q q1 qp
        have h9 := hd_le (l := l) (p := gn h0 84 0) (s := s) (W := gn h0 89) (q := q) c
        rw [g2 q (by first | decide | with_reducible assumption | omega), pI_n1 (by first | decide | with_reducible assumption | omega)]
        exact hd_free (by first | decide | with_reducible assumption | omega) (fun i hi => V i (by first | decide | with_reducible assumption | omega)) q q1 (by first | decide | with_reducible assumption | omega))) (chk77 hg rfl rfl (by show 0 ≤ 8; decide)) (fun h3 r3 => ?_)
      rintro ⟨e3, f3⟩
      rw [e3, f3, ep, ← es]
      generalize eq : spt l (gn h0 84 0) s (gn h0 89) c = q0 at ok q9 ⊢
      refine E_is rfl (fun lv1 K3 kp => ?_)
      have M0 := kp 0 _ (nbz rfl) rfl L0
      have M1 := kp 1 _ (nbz rfl) rfl L1
      have M2 := kp 2 _ (nbz rfl) rfl L2
      refine E_al rfl M0 ?_
      refine E_gr rfl hg (q := 91) rfl ?_
      refine E_il rfl M2 ?_
      refine E_il rfl K3 ?_
      refine E_ias rfl hg rfl (by first | decide | with_reducible assumption | omega) (by decide) ?_
      have pl := pO_lo q9
      have hk : HH (pt g 91 c (pO q0)) := HH_pt hg b91 pl.1 pl.2
      have fk : fr_g PKF h0 (pt g 91 c (pO q0)) := fr_ptr (l := 0) (u := 7) rfl (by first | decide | with_reducible assumption | omega) (by first | decide | with_reducible assumption | omega) fg
      have m1 : gi (pt g 91 c (pO q0)) 77 27 = nJ (mss l (gn h0 84 0) s (gn h0 89) c) := by rw [gi_ne (by first | exact gxx rfl | omega)]; exact g1
      have m2 : ∀ q, q ≤ 9 → gi (pt g 91 c (pO q0)) 90 q = pI (hd l (gn h0 84 0) s (gn h0 89) c q) := fun q hq => by rw [gi_ne (by first | exact gxx rfl | omega)]; exact g2 q hq
      have m3 : ∀ i, i < c + 1 → gi (pt g 91 c (pO q0)) 91 i = pO (spt l (gn h0 84 0) s (gn h0 89) i) := fun i hi => by
        by_cases e : i = c
        · rw [e, eq]; exact gi_pt hg b91 pl.1 pl.2
        · rw [gi_ne (fun _ => e)]; exact g3 i (by first | decide | with_reducible assumption | omega)
      generalize pt g 91 c (pO q0) = k at hk fk m1 m2 m3 ⊢
      refine E_il rfl K3 ?_
      refine E_c rfl ?_
      by_cases z : q0 = 0
      · refine E_icF rfl (decide_eq_false (fun w => w ((pO_n1 (by first | decide | with_reducible assumption | omega)).mpr z))) ?_
        refine E_al rfl M0 ?_
        refine E_dup rfl rfl ?_
        refine E_gf rfl hk rfl m1 ?_
        refine E_ci 1 rfl ci1 ?_
        refine E_il rfl M2 ?_
        refine E_bin rfl rfl ?_
        have m5 : mss l (gn h0 84 0) s (gn h0 89) c < 256 := Nat.lt_of_lt_of_le ms (Nat.le_trans (Nat.pow_le_pow_right (n := 2) (by first | decide | with_reducible assumption | omega) (show c ≤ 8 by omega)) (by decide))
        refine E_bin rfl (or_new (by first | decide | with_reducible assumption | omega) (by first | decide | with_reducible assumption | omega) (isB_hi ms)) ?_
        have e2 : mss l (gn h0 84 0) s (gn h0 89) c + 2 ^ c ≤ 255 := by
          have : 2 ^ (c + 1) = 2 ^ c + 2 ^ c := by rw [Nat.pow_succ]; omega
          have : 2 ^ (c + 1) ≤ 2 ^ 8 := Nat.pow_le_pow_right (by first | decide | with_reducible assumption | omega) (by first | decide | with_reducible assumption | omega)
          omega
        refine E_pf rfl hk rfl ?_
        refine E_goto rfl ?_
        refine nx (HH_ptn hk rfl (by first | decide | with_reducible assumption | omega) (by first | decide | with_reducible assumption | omega) (by first | decide | with_reducible assumption | omega)) (fr_ptr (l := 27) (u := 27) rfl (by first | decide | with_reducible assumption | omega) (by first | decide | with_reducible assumption | omega) fk) ⟨?_, fun q hq => ?_, fun i hi => ?_⟩ M0 M1 M2
        · show _ = nJ (if isB s c = true ∧ spt l (gn h0 84 0) s (gn h0 89) c = 0 then _ else _)
          rw [if_pos ⟨b, by rw [eq]; exact z⟩]
          exact gi_ptn hk rfl (by first | decide | with_reducible assumption | omega) (by first | decide | with_reducible assumption | omega) (by first | decide | with_reducible assumption | omega)
        · show _ = pI (if spt l (gn h0 84 0) s (gn h0 89) c = q ∧ q ≠ 0 then c + 1 else _)
          rw [eq, if_neg (by rw [z]; rintro ⟨a, a'⟩; exact a' a.symm), gi_ne (by first | exact gxx rfl | omega)]; exact m2 q hq
        · rw [gi_ne (by first | exact gxx rfl | omega)]; exact m3 i hi
      · obtain ⟨q1, qp, qf⟩ : 1 ≤ q0 ∧ q0 ≤ gn h0 84 0 ∧ isB (tk l (gn h0 84 0) s (gn h0 89) c) (q0 - 1) = false := by rcases ok with e | e; exact absurd e z; exact e
        refine E_icT rfl (decide_eq_true (fun w => z ((pO_n1 (by first | decide | with_reducible assumption | omega)).mp w))) ?_
        have ez : pO q0 = nJ q0 := by unfold pO; rw [if_neg z]
        rw [ez] at K3
        refine E_al rfl M0 ?_
        refine E_gr rfl hk (q := 90) rfl ?_
        refine E_il rfl K3 ?_
        refine E_il rfl M2 ?_
        refine E_ias rfl hk rfl (by first | decide | with_reducible assumption | omega) (by decide) ?_
        have b90 : bd 90 q0 = some (-1, 7) := bd_u rfl (by first | decide | with_reducible assumption | omega)
        refine nx (HH_ptn hk b90 (by first | decide | with_reducible assumption | omega) (by first | decide | with_reducible assumption | omega) (by first | decide | with_reducible assumption | omega)) (fr_ptr (l := 0) (u := 9) rfl (by first | decide | with_reducible assumption | omega) (by first | decide | with_reducible assumption | omega) fk) ⟨?_, fun q hq => ?_, fun i hi => ?_⟩ M0 M1 M2
        · show _ = nJ (if isB s c = true ∧ spt l (gn h0 84 0) s (gn h0 89) c = 0 then _ else _)
          rw [if_neg (by rw [eq]; exact fun w => z w.2), gi_ne (by first | exact gxx rfl | omega)]; exact m1
        · show _ = pI (if spt l (gn h0 84 0) s (gn h0 89) c = q ∧ q ≠ 0 then c + 1 else _)
          rw [eq]
          by_cases e : q0 = q
          · rw [if_pos ⟨e, by omega⟩, ← e]
            exact gi_ptn hk b90 (by first | decide | with_reducible assumption | omega) (by first | decide | with_reducible assumption | omega) (by first | decide | with_reducible assumption | omega)
          · rw [if_neg (fun w => e w.1), gi_ne (fun _ w => e w.symm)]; exact m2 q hq
        · rw [gi_ne (by first | exact gxx rfl | omega)]; exact m3 i hi
theorem sp_parksX {l s : Nat} (hh0 : HH h0) (l3 : l ≤ 3) (s5 : s < 512) (gs : gi h0 77 23 = nJ s) (V : ∀ c, c < gn h0 84 3 → 1 ≤ gn h0 89 c ∧ gn h0 89 c ≤ gn h0 84 0) : Sp (d + 4) 320 h0 [.ref 77, .int (nJ l)] (fun h' r => r = none ∧ HH h' ∧ fr_g PKF h0 h' ∧ PKD l (gn h0 84 0) s (gn h0 89) (gn h0 84 3) h') := by
  refine Sp_of aiX9_parks rfl rfl rfl ?_
  have L0 : pm_get (lv_args 0 [.ref 77, .int (nJ l)]) 0 = some (.ref 77) := rfl
  have L1 : pm_get (lv_args 0 [.ref 77, .int (nJ l)]) 1 = some (.int (nJ l)) := rfl
  generalize lv_args 0 [.ref 77, .int (nJ l)] = lv at L0 L1 ⊢
  refine E_al rfl L0 ?_
  refine E_ci 0 rfl ci0 ?_
  refine E_pf rfl hh0 rfl ?_
  have hg : HH (pt h0 77 27 (nJ 0)) := HH_ptn hh0 rfl (by first | decide | with_reducible assumption | omega) (by first | decide | with_reducible assumption | omega) (by first | decide | with_reducible assumption | omega)
  refine E_ci 0 rfl ci0 ?_
  refine E_is rfl (fun lv1 K2 kp => ?_)
  refine pkX_clr hh0 10 lv1 (by first | decide | with_reducible assumption | omega) hg (fr_ptr (l := 27) (u := 27) rfl (by first | decide | with_reducible assumption | omega) (by first | decide | with_reducible assumption | omega) (fr_rf _ _)) (gi_ptn hh0 rfl (by first | decide | with_reducible assumption | omega) (by first | decide | with_reducible assumption | omega) (by first | decide | with_reducible assumption | omega)) (fun q hq => absurd hq (Nat.not_lt_zero q)) (kp 0 _ (nbz rfl) rfl L0) (kp 1 _ (nbz rfl) rfl L1) K2 (fun h' lv' a1 a2 a3 a4 M0 M1 M2 => ?_)
  exact pkX_loop hh0 l3 s5 gs V (gn h0 84 3) (c := 0) lv' (by first | decide | with_reducible assumption | omega) a1 a2 ⟨a3, fun q hq => a4 q hq, fun i hi => absurd hi (Nat.not_lt_zero i)⟩ M0 M1 M2
/-! the street's numbers, by the reference's cells -/
noncomputable def L9 (h : pm_H) : Nat := gn h 84 1
noncomputable def P9 (h : pm_H) : Nat := gn h 84 0
noncomputable def N9 (h : pm_H) : Nat := gn h 84 3
noncomputable def SP9 (h : pm_H) (i : Nat) : Nat := spt (L9 h) (P9 h) (2 ^ N9 h - 1) (W9 h) i
noncomputable def MS9 (h : pm_H) : Nat := mss (L9 h) (P9 h) (2 ^ N9 h - 1) (W9 h) (N9 h)
noncomputable def TK9 (h : pm_H) : Nat := tk (L9 h) (P9 h) (2 ^ N9 h - 1) (W9 h) (N9 h)
noncomputable def WL9 (h : pm_H) : Nat := wlk (L9 h) (P9 h) (2 ^ N9 h - 1) (W9 h) (N9 h)
noncomputable def HD9 (h : pm_H) (q : Nat) : Nat := hd (L9 h) (P9 h) (2 ^ N9 h - 1) (W9 h) (N9 h) q
/-- what a heap must keep of another for these numbers -/
noncomputable def K9 (h h' : pm_H) : Prop := (∀ k, gn h' 84 k = gn h 84 k) ∧ (∀ k, gn h' 85 k = gn h 85 k) ∧ (∀ k, gn h' 87 k = gn h 87 k) ∧ ∀ k, gi h' 83 k = gi h 83 k
theorem W9_K {h h' : pm_H} (k : K9 h h') : W9 h' = W9 h := by
  obtain ⟨e4, e5, e7, -⟩ := k
  have a : C9 h' = C9 h := funext (fun i => e7 _)
  have b : G9 h' = G9 h := funext (fun i => e7 _)
  have c : Z9 h' = Z9 h := funext (fun i => e7 _)
  have d : t9 h' = t9 h := funext (fun i => e5 _)
  unfold W9
  rw [a, b, c, d, e4]
theorem V9_K {h h' : pm_H} (k : K9 h h') (V : V9 h) : V9 h' := by
  obtain ⟨e4, e5, e7, -⟩ := k
  intro i hi
  rw [e4] at hi
  have q := V i hi
  unfold vAct C9 G9 Z9 at q ⊢
  rw [e4, e4, e7, e7, e7]
  exact q
theorem L9_K {h h' : pm_H} (k : K9 h h') : L9 h' = L9 h := k.1 _
theorem P9_K {h h' : pm_H} (k : K9 h h') : P9 h' = P9 h := k.1 _
theorem N9_K {h h' : pm_H} (k : K9 h h') : N9 h' = N9 h := k.1 _
theorem SP9_K {h h' : pm_H} (k : K9 h h') : SP9 h' = SP9 h := by funext i; unfold SP9; rw [L9_K k, P9_K k, N9_K k, W9_K k]
theorem MS9_K {h h' : pm_H} (k : K9 h h') : MS9 h' = MS9 h := by unfold MS9; rw [L9_K k, P9_K k, N9_K k, W9_K k]
theorem WL9_K {h h' : pm_H} (k : K9 h h') : WL9 h' = WL9 h := by unfold WL9; rw [L9_K k, P9_K k, N9_K k, W9_K k]
theorem HD9_K {h h' : pm_H} (k : K9 h h') : HD9 h' = HD9 h := by funext i; unfold HD9; rw [L9_K k, P9_K k, N9_K k, W9_K k]
theorem K9_fr {M : List Rng} {h h' : pm_H} (hf : fr_g M h h') (h4 : M.all (fun r => !(Nat.beq r.1 84)) = true) (h5 : M.all (fun r => !(Nat.beq r.1 85)) = true) (h7 : M.all (fun r => !(Nat.beq r.1 87)) = true) (h3 : M.all (fun r => !(Nat.beq r.1 83)) = true) : K9 h h' := ⟨fun k => fr_gn hf (rg_no h4 k), fun k => fr_gn hf (rg_no h5 k), fun k => fr_gn hf (rg_no h7 k), fun k => fr_gi hf (rg_no h3 k)⟩
theorem K9_77 {h : pm_H} {v : Int32} : K9 h (pt h 77 0 v) := ⟨fun k => gn_ne (by first | exact gxx rfl | omega), fun k => gn_ne (by first | exact gxx rfl | omega), fun k => gn_ne (by first | exact gxx rfl | omega), fun k => gi_ne (by first | exact gxx rfl | omega)⟩
/-- wishes lie within the places -/
noncomputable def B9 (h : pm_H) : Prop := ∀ c, c < N9 h → 1 ≤ W9 h c ∧ W9 h c ≤ P9 h
theorem B9_K {h h' : pm_H} (k : K9 h h') (B : B9 h) : B9 h' := by
  intro c hc
  rw [N9_K k] at hc
  rw [W9_K k, P9_K k]
  exact B c hc
theorem B9_of {h : pm_H} (R : QRE h) : B9 h := fun c hc => (now_eq R c hc).2
theorem g9s {h : pm_H} (hh : HH h) : L9 h ≤ 3 ∧ P9 h ≤ 8 ∧ N9 h ≤ 8 := ⟨gn_hi hh rfl (by decide), gn_hi hh rfl (by decide), gn_hi hh rfl (by decide)⟩
/-- what laysNow leaves -/
noncomputable def LN9 (h h' : pm_H) : Prop := HH h' ∧ fr_g LNF h h' ∧ gi h' 77 27 = nJ (MS9 h) ∧ (∀ q, q ≤ 9 → gi h' 90 q = pI (HD9 h q)) ∧ (∀ i, i < N9 h → gi h' 91 i = pO (SP9 h i)) ∧ ∀ i, i < N9 h → gi h' 89 i = nJ (W9 h i)
/-- what laysNow leaves, by the numbers of a heap that knows the same street -/
noncomputable def LV9 (h h' : pm_H) : Prop := HH h' ∧ gn h' 84 0 = P9 h ∧ gn h' 84 3 = N9 h ∧ gi h' 77 27 = nJ (MS9 h) ∧ (∀ q, q ≤ 9 → gi h' 90 q = pI (HD9 h q)) ∧ (∀ i, i < N9 h → gi h' 91 i = pO (SP9 h i)) ∧ ∀ i, i < N9 h → gi h' 89 i = nJ (W9 h i)
theorem LV9_of {h g h' : pm_H} (k : K9 h g) (T : LN9 g h') : LV9 h h' := by
  obtain ⟨a1, a2, a3, a4, a5, a6⟩ := T
  rw [MS9_K k] at a3
  rw [HD9_K k] at a4
  rw [SP9_K k, N9_K k] at a5
  rw [W9_K k, N9_K k] at a6
  exact ⟨a1, (fr_gn a2 (rg_no rfl _)).trans (P9_K k), (fr_gn a2 (rg_no rfl _)).trans (N9_K k), a3, a4, a5, a6⟩
/-- the class's Lot in the same numbers -/
noncomputable def LT9 (h h' : pm_H) : Prop := HH h' ∧ fr_g FL h h' ∧ gi h' 62 1 = nJ (TK9 h) ∧ gi h' 62 2 = nJ (MS9 h) ∧ gi h' 62 3 = nJ (WL9 h) ∧ (∀ i, i < N9 h → gi h' 63 i = nJ (SP9 h i)) ∧ gi h' 15 4 = nJ (N9 h) ∧ gi h' 15 0 = nJ (P9 h) ∧ ∀ i, i < N9 h → gi h' 17 i = nJ (W9 h i)
theorem sp_parkAllX (hh : HH h0) (R : QRE h0) : Sp (d + 5) 154 h0 [.ref 0] (fun h' r => r = none ∧ LT9 h0 h') := by
  have s := R.2.1.1
  have e4 : gn h0 15 4 = N9 h0 := gn_eq s.2.2.1
  have e0 : gn h0 15 0 = P9 h0 := gn_eq (s.2.1 0 (by first | decide | with_reducible assumption | omega))
  have e1 : gn h0 15 1 = L9 h0 := gn_eq (s.2.1 1 (by first | decide | with_reducible assumption | omega))
  obtain ⟨-, -, n8⟩ := g9s hh
  have ne : ∀ c, c < N9 h0 → gn h0 17 c = W9 h0 c := fun c hc => (now_eq R c hc).1
  refine Sp_mono ?_ (sp_parkAll (d := d) hh (fun c hc => by rw [e4] at hc; rw [ne c hc, e0]; exact B9_of R c hc))
  rintro h' r ⟨rfl, a1, a2, a3⟩
  rw [e4, e0, e1] at a3
  obtain ⟨t1, t2, t3, t4⟩ := a3
  refine ⟨rfl, a1, a2, ?_, ?_, ?_, fun i hi => ?_, ?_, ?_, fun i hi => ?_⟩
  · rw [t1, sf_W (W' := W9 h0) ne]; rfl
  · rw [t2, mss_W (W' := W9 h0) ne]; rfl
  · rw [t3, wlk_W (W' := W9 h0) ne]; rfl
  · rw [t4 i hi, spt_W (W' := W9 h0) (fun c hc => ne c (by first | decide | with_reducible assumption | omega))]; rfl
  · rw [fr_gi a2 (rg_no rfl _), ← e4]; exact gi_gn hh rfl (by decide)
  · rw [fr_gi a2 (rg_no rfl _), ← e0]; exact gi_gn hh rfl (by decide)
  · rw [fr_gi a2 (rg_no rfl _), ← ne i hi]; exact gi_gn hh (q := (0, 8)) (bd_u rfl (by first | decide | with_reducible assumption | omega)) (by decide)
/-! answers -/
noncomputable def qv (h : pm_H) (v : Int32) : Int32 := if 0 < (gi h 83 0).toInt then v else -2
noncomputable def cq (h : pm_H) (f : Nat → Int32) (x : Int32) : Int32 := if 0 ≤ x.toInt ∧ x.toInt < (N9 h : Int) then f x.toInt.toNat else -2
noncomputable def pq (h : pm_H) (f : Nat → Int32) (x : Int32) : Int32 := if 0 < (gi h 83 0).toInt ∧ 1 ≤ x.toInt ∧ x.toInt ≤ (P9 h : Int) then f x.toInt.toNat else -2
theorem qv_K {h h' : pm_H} {v : Int32} (k : K9 h h') : qv h' v = qv h v := by unfold qv; rw [k.2.2.2]
theorem st_eq {h : pm_H} (R : QRE h) : 0 < gn h 15 0 ↔ 0 < (gi h 83 0).toInt := by
  obtain ⟨s1, -, -, -, s5⟩ := R.2.1.1
  rw [s1] at s5
  constructor
  · intro a
    exact Decidable.byContradiction (fun q => by have := s5.mpr q; omega)
  · intro a
    rcases Nat.eq_zero_or_pos (gn h 15 0) with z | z
    · exact absurd a (s5.mp z)
    · exact z
theorem SP9_ok {h : pm_H} (B : B9 h) {i : Nat} (hi : i < N9 h) : okS (P9 h) (tk (L9 h) (P9 h) (2 ^ N9 h - 1) (W9 h) i) (SP9 h i) := spt_ok (B i hi).1 (B i hi).2
theorem SP9_le {h : pm_H} (B : B9 h) {i : Nat} (hi : i < N9 h) : SP9 h i ≤ P9 h := by rcases SP9_ok B hi with e | ⟨_, e, _⟩ <;> omega
noncomputable def ds9 (h : pm_H) (i : Nat) : Nat := dst (SP9 h i) (W9 h i)
theorem ds9_K {h h' : pm_H} (k : K9 h h') : ds9 h' = ds9 h := by funext i; unfold ds9; rw [SP9_K k, W9_K k]
theorem sp_stepsInLot {h h2 : pm_H} (hh : HH h) (B : B9 h) (T : LT9 h h2) {i : Nat} (hi : i < N9 h) : Sp (d + 2) 184 h2 [.ref 0, .int (nJ i)] (fun h' r => h' = h2 ∧ r = some (.int (nJ (ds9 h i)))) := by
  obtain ⟨hh2, f, t1, t2, t3, t4, t5, t6, t7⟩ := T
  obtain ⟨-, p8, n8⟩ := g9s hh
  have s8 := SP9_le B hi
  have w8 := (B i hi).2
  refine Sp_of aiX8_stepsInLot rfl rfl rfl ?_
  have L0 : pm_get (lv_args 0 [.ref 0, .int (nJ i)]) 0 = some (.ref 0) := rfl
  have L1 : pm_get (lv_args 0 [.ref 0, .int (nJ i)]) 1 = some (.int (nJ i)) := rfl
  generalize lv_args 0 [.ref 0, .int (nJ i)] = lv at L0 L1 ⊢
  refine E_al rfl L0 ?_
  refine E_ogr (q := 62) rfl hh2 rfl rfl ?_
  refine E_ogr (q := 63) rfl hh2 rfl rfl ?_
  refine E_il rfl L1 ?_
  refine E_ial rfl hh2 rfl (by first | decide | with_reducible assumption | omega) (by decide) (t4 i hi) ?_
  refine E_al rfl L0 ?_
  refine E_ogr (q := 15) rfl hh2 rfl rfl ?_
  refine E_ogr (q := 17) rfl hh2 rfl rfl ?_
  refine E_il rfl L1 ?_
  refine E_ial rfl hh2 rfl (by first | decide | with_reducible assumption | omega) (by decide) (t7 i hi) ?_
  refine E_bin rfl rfl ?_
  refine E_call rfl (sp_absD (d := d) (by first | decide | with_reducible assumption | omega) (by first | decide | with_reducible assumption | omega)) (chkS rfl (by show 0 ≤ 8; decide)) (fun h3 r3 => ?_)
  rintro ⟨e3, f3⟩
  rw [e3, f3]
  exact E_rti rfl ⟨rfl, rfl⟩
theorem sp_far0 {h : pm_H} {a b : Nat} (ha : a < 1000) (hb : b < 1000) : Sp (d + 1) 245 h [.int (nJ a), .int (nJ b)] (fun h' r => h' = h ∧ r = some (.int (nJ (dst a b)))) := by
  refine Sp_of aiX9_far0 rfl rfl rfl ?_
  have L0 : pm_get (lv_args 0 [.int (nJ a), .int (nJ b)]) 0 = some (.int (nJ a)) := rfl
  have L1 : pm_get (lv_args 0 [.int (nJ a), .int (nJ b)]) 1 = some (.int (nJ b)) := rfl
  generalize lv_args 0 [.int (nJ a), .int (nJ b)] = lv at L0 L1 ⊢
  refine E_il rfl L0 ?_
  refine E_il rfl L1 ?_
  by_cases c : b ≤ a
  · refine E_icT rfl (decide_eq_true ((nJ_le (by first | decide | with_reducible assumption | omega) (by first | decide | with_reducible assumption | omega)).mpr c)) ?_
    refine E_il rfl L0 ?_
    refine E_il rfl L1 ?_
    refine E_bin rfl (nJ_sub c) ?_
    exact E_rti rfl ⟨rfl, by unfold dst; rw [show a - b + (b - a) = a - b by omega]⟩
  · refine E_icF rfl (decide_eq_false (fun z => c ((nJ_le (by first | decide | with_reducible assumption | omega) (by first | decide | with_reducible assumption | omega)).mp z))) ?_
    refine E_il rfl L1 ?_
    refine E_il rfl L0 ?_
    refine E_bin rfl (nJ_sub (by first | decide | with_reducible assumption | omega)) ?_
    refine E_goto rfl ?_
    exact E_rti rfl ⟨rfl, by unfold dst; rw [show a - b + (b - a) = b - a by omega]⟩
end PARKS
end
section
/-! what is wanted, counted by both (wants u67b; cw of t1) -/
/-- the class's street in the reference's numbers -/
noncomputable def CW8 (h : pm_H) : Prop := gi h 15 4 = nJ (N9 h) ∧ gi h 15 0 = nJ (P9 h) ∧ ∀ i, i < N9 h → gi h 17 i = nJ (W9 h i)
noncomputable def LY9 (h h' : pm_H) : Prop := HH h' ∧ gn h' 84 0 = P9 h ∧ gn h' 84 3 = N9 h ∧ ∀ c, c < N9 h → gn h' 89 c = W9 h c
section WSH
variable {h h2 : pm_H} {d : Nat}
theorem CW8_of (hh : HH h) (R : QRE h) : CW8 h := by
  have s := R.2.1.1
  have e4 : gn h 15 4 = N9 h := gn_eq s.2.2.1
  have e0 : gn h 15 0 = P9 h := gn_eq (s.2.1 0 (by first | decide | with_reducible assumption | omega))
  obtain ⟨-, -, n8⟩ := g9s hh
  refine ⟨?_, ?_, fun i hi => ?_⟩
  · rw [← e4]; exact gi_gn hh rfl (by decide)
  · rw [← e0]; exact gi_gn hh rfl (by decide)
  · rw [← (now_eq R i hi).1]; exact gi_gn hh (q := (0, 8)) (bd_u rfl (by first | decide | with_reducible assumption | omega)) (by decide)
/-! the reference -/
end WSH
end
section
/-! parked by any law, any set (wants u67b, u69, t34, u72's park) -/
noncomputable def WL (h : pm_H) (l s : Nat) : Nat := wlk l (P9 h) s (W9 h) (N9 h)
noncomputable def ML (h : pm_H) (l s : Nat) : Nat := mss l (P9 h) s (W9 h) (N9 h)
noncomputable def PK9 (h : pm_H) (l s : Nat) (h2 : pm_H) : Prop := HH h2 ∧ gn h2 84 0 = P9 h ∧ gn h2 84 3 = N9 h ∧ gi h2 77 27 = nJ (ML h l s) ∧ (∀ q, q ≤ 9 → gi h2 90 q = pI (hd l (P9 h) s (W9 h) (N9 h) q)) ∧ (∀ i, i < N9 h → gi h2 91 i = pO (spt l (P9 h) s (W9 h) i)) ∧ ∀ i, i < N9 h → gi h2 89 i = nJ (W9 h i)
theorem WL_K {h h' : pm_H} (k : K9 h h') : WL h' = WL h := by funext l s; unfold WL; rw [P9_K k, N9_K k, W9_K k]
theorem K9_tr {a b c : pm_H} (x : K9 a b) (y : K9 b c) : K9 a c := ⟨fun k => (y.1 k).trans (x.1 k), fun k => (y.2.1 k).trans (x.2.1 k), fun k => (y.2.2.1 k).trans (x.2.2.1 k), fun k => (y.2.2.2 k).trans (x.2.2.2 k)⟩
section BYS
variable {h h2 g : pm_H} {d : Nat}
theorem WL_le (hh : HH h) (B : B9 h) (l s : Nat) : WL h l s ≤ 64 := by
  have := wlk_le (l := l) (s := s) (W := W9 h) (p := P9 h) (n := N9 h) B
  have : N9 h * P9 h ≤ 8 * 8 := Nat.mul_le_mul (g9s hh).2.2 (g9s hh).2.1
  show wlk _ _ _ _ _ ≤ 64
  omega
theorem PK9_of {l s : Nat} (hh2 : HH h2) (T : LY9 h g) {h3 : pm_H} (hh3 : HH h3) (f : fr_g PKF h2 h3) (e : ∀ a k, a = 84 ∨ a = 89 → gi h2 a k = gi g a k) (t : PKD l (P9 h) s (W9 h) (N9 h) h3) : PK9 h l s h3 := by
  obtain ⟨hg, u0, u3, u9⟩ := T
  have n8 : ∀ i, i < N9 h → i < 8 := fun i hi => by have : gn g 84 3 ≤ 8 := gn_hi hg rfl (by decide); omega
  refine ⟨hh3, ?_, ?_, t.1, t.2.1, t.2.2, fun i hi => ?_⟩
  · rw [fr_gn f (rg_no rfl _), ← u0]; unfold gn; rw [e _ _ (.inl rfl)]
  · rw [fr_gn f (rg_no rfl _), ← u3]; unfold gn; rw [e _ _ (.inl rfl)]
  · rw [fr_gi f (rg_no rfl _), e _ _ (.inr rfl), ← u9 i hi]; exact gi_gn hg (q := (0, 8)) (bd_u rfl (n8 i hi)) (by decide)
theorem sp_stepsOfP {l s i : Nat} (hh : HH h) (B : B9 h) (T : PK9 h l s h2) (hi : i < N9 h) (z : ¬ spt l (P9 h) s (W9 h) i = 0) : Sp (d + 2) 353 h2 [.ref 77, .int (nJ i)] (fun h' r => h' = h2 ∧ r = some (.int (nJ (dst (spt l (P9 h) s (W9 h) i) (W9 h i))))) := by
  obtain ⟨hh2, u0, u3, t1, t2, t3, t4⟩ := T
  obtain ⟨-, p8, n8⟩ := g9s hh
  have s8 : spt l (P9 h) s (W9 h) i ≤ P9 h := by rcases spt_ok (l := l) (s := s) (W := W9 h) (B i hi).1 (B i hi).2 with e | ⟨_, e, _⟩ <;> omega
  have w8 := (B i hi).2
  refine Sp_of aiX9_stepsOf rfl rfl rfl ?_
  have L0 : pm_get (lv_args 0 [.ref 77, .int (nJ i)]) 0 = some (.ref 77) := rfl
  have L1 : pm_get (lv_args 0 [.ref 77, .int (nJ i)]) 1 = some (.int (nJ i)) := rfl
  generalize lv_args 0 [.ref 77, .int (nJ i)] = lv at L0 L1 ⊢
  refine E_al rfl L0 ?_
  refine E_gr rfl hh2 (q := 91) rfl ?_
  refine E_il rfl L1 ?_
  refine E_ial rfl hh2 rfl (by first | decide | with_reducible assumption | omega) (by decide) (show gi h2 91 i = nJ (spt l (P9 h) s (W9 h) i) from by rw [t3 i hi]; unfold pO; rw [if_neg z]) ?_
  refine E_al rfl L0 ?_
  refine E_gr rfl hh2 (q := 89) rfl ?_
  refine E_il rfl L1 ?_
  refine E_ial rfl hh2 rfl (by first | decide | with_reducible assumption | omega) (by decide) (t4 i hi) ?_
  refine E_call rfl (sp_far0 (d := d) (by first | decide | with_reducible assumption | omega) (by first | decide | with_reducible assumption | omega)) (chkS rfl (by show 0 ≤ 8; decide)) (fun h3 r3 => ?_)
  rintro ⟨e3, f3⟩
  rw [e3, f3]
  exact E_rti rfl ⟨rfl, rfl⟩
theorem snP_loop {l s : Nat} (hh : HH h) (B : B9 h) (T : PK9 h l s h2) (j : Nat) : ∀ {c : Nat} (lv : List (Nat × Value)), c + j = N9 h → pm_get lv 0 = some (.ref 77) → pm_get lv 1 = some (.int (nJ (wlk l (P9 h) s (W9 h) c))) → pm_get lv 2 = some (.int (nJ c)) → Ends (pm_at tX9_sumNow) (pm_Rt pm_P (d + 2)) (4, lv, [], h2, 0, 0) (fun h' r => h' = h2 ∧ r = some (.int (nJ (WL h l s)))) := by
  have T0 := T
  obtain ⟨hh2, u0, u3, t1, t2, t3, t4⟩ := T
  obtain ⟨l3, p8, n8⟩ := g9s hh
  induction j with
  | zero =>
    intro c lv hj L0 L1 L2
    refine E_il rfl L2 ?_
    refine E_al rfl L0 ?_
    refine E_call rfl (Sp_le (by first | exact Nat.add_le_add_left (Nat.le_of_ble_eq_true rfl) _ | exact Nat.le_of_ble_eq_true rfl | omega) (sp_cars (d := d) hh2)) (chk77 hh2 rfl rfl (by show 1 ≤ 8; decide)) (fun h1 r1 => ?_)
    rintro ⟨e1, f1, -⟩
    rw [e1, f1, u3]
    refine E_icT rfl (decide_eq_true ((nJ_le (by first | decide | with_reducible assumption | omega) (by first | decide | with_reducible assumption | omega)).mpr (by first | decide | with_reducible assumption | omega))) ?_
    refine E_il rfl L1 ?_
    have e : c = N9 h := by omega
    exact E_rti rfl ⟨rfl, by rw [e]; rfl⟩
  | succ j ih =>
    intro c lv hj L0 L1 L2
    refine E_il rfl L2 ?_
    refine E_al rfl L0 ?_
    refine E_call rfl (Sp_le (by first | exact Nat.add_le_add_left (Nat.le_of_ble_eq_true rfl) _ | exact Nat.le_of_ble_eq_true rfl | omega) (sp_cars (d := d) hh2)) (chk77 hh2 rfl rfl (by show 1 ≤ 8; decide)) (fun h1 r1 => ?_)
    rintro ⟨e1, f1, -⟩
    rw [e1, f1, u3]
    refine E_icF rfl (decide_eq_false (fun z => absurd ((nJ_le (by first | decide | with_reducible assumption | omega) (by first | decide | with_reducible assumption | omega)).mp z) (by first | decide | with_reducible assumption | omega))) ?_
    have hc : c < N9 h := by omega
    have s8 : spt l (P9 h) s (W9 h) c ≤ P9 h := by rcases spt_ok (l := l) (s := s) (W := W9 h) (B c hc).1 (B c hc).2 with e | ⟨_, e, _⟩ <;> omega
    refine E_il rfl L1 ?_
    refine E_al rfl L0 ?_
    refine E_gr rfl hh2 (q := 91) rfl ?_
    refine E_il rfl L2 ?_
    refine E_ial rfl hh2 rfl (by first | decide | with_reducible assumption | omega) (by decide) (t3 c hc) ?_
    refine E_c rfl ?_
    have es : wlk l (P9 h) s (W9 h) (c + 1) = wlk l (P9 h) s (W9 h) c + (if spt l (P9 h) s (W9 h) c = 0 then 0 else dst (spt l (P9 h) s (W9 h) c) (W9 h c)) := rfl
    have nx : Ends (pm_at tX9_sumNow) (pm_Rt pm_P (d + 2)) (32, lv, [.int (nJ (if spt l (P9 h) s (W9 h) c = 0 then 0 else dst (spt l (P9 h) s (W9 h) c) (W9 h c))), .int (nJ (wlk l (P9 h) s (W9 h) c))], h2, 0, 0) (fun h' r => h' = h2 ∧ r = some (.int (nJ (WL h l s)))) := by
      refine E_bin rfl (nJ_add _ _) ?_
      refine E_is rfl (fun lv1 K1 kp => ?_)
      refine E_inc rfl (kp 2 _ (nbz rfl) rfl L2) (nJ_inc _) (fun lv2 K2 kp2 => ?_)
      refine E_goto rfl ?_
      exact ih (c := c + 1) lv2 (by first | decide | with_reducible assumption | omega) (kp2 0 _ (nbz rfl) rfl (kp 0 _ (nbz rfl) rfl L0)) (by rw [es]; exact kp2 1 _ (nbz rfl) rfl K1) K2
    by_cases z : spt l (P9 h) s (W9 h) c = 0
    · refine E_icF rfl (decide_eq_false (fun q => q ((pO_n1 (by first | decide | with_reducible assumption | omega)).mpr z))) ?_
      refine E_ci 0 rfl ci0 ?_
      refine E_goto rfl ?_
      rw [if_pos z] at nx
      exact nx
    · refine E_icT rfl (decide_eq_true (fun q => z ((pO_n1 (by first | decide | with_reducible assumption | omega)).mp q))) ?_
      refine E_al rfl L0 ?_
      refine E_il rfl L2 ?_
      refine E_call rfl (sp_stepsOfP (d := d) hh B T0 hc z) (chk77 hh2 rfl rfl (by show 1 ≤ 8; decide)) (fun h3 r3 => ?_)
      rintro ⟨e3, f3⟩
      rw [e3, f3]
      rw [if_neg z] at nx
      exact nx
theorem sp_sumNowP {l s : Nat} (hh : HH h) (B : B9 h) (T : PK9 h l s h2) : Sp (d + 3) 356 h2 [.ref 77] (fun h' r => h' = h2 ∧ r = some (.int (nJ (WL h l s)))) := by
  refine Sp_of aiX9_sumNow rfl rfl rfl ?_
  have L0 : pm_get (lv_args 0 [.ref 77]) 0 = some (.ref 77) := rfl
  generalize lv_args 0 [.ref 77] = lv at L0 ⊢
  refine E_ci 0 rfl ci0 ?_
  refine E_is rfl (fun lv1 K1 kp => ?_)
  refine E_ci 0 rfl ci0 ?_
  refine E_is rfl (fun lv2 K2 kp2 => ?_)
  exact snP_loop hh B T (N9 h) (c := 0) lv2 (by first | decide | with_reducible assumption | omega) (kp2 0 _ (nbz rfl) rfl (kp 0 _ (nbz rfl) rfl L0)) (kp2 1 _ (nbz rfl) rfl K1) K2
theorem wbX (T : LY9 h g) (B : B9 h) : ∀ c, c < gn g 84 3 → 1 ≤ gn g 89 c ∧ gn g 89 c ≤ gn g 84 0 := fun c hc => by
  obtain ⟨-, u0, u3, u9⟩ := T
  rw [u3] at hc
  rw [u9 c hc, u0]
  exact B c hc
end BYS
end
section
/-! wishes tried, parked anew: both (wants u67b, u69, u75) -/
section TRY
variable {h g : pm_H} {d : Nat}
end TRY
end
section
/-! blame of both (wants u75; written by gen_u79.py) -/
noncomputable def mkB (n c : Nat) : Nat := (2 ^ n - 1) &&& (511 ^^^ 2 ^ c)
theorem mkB_tab : ∀ n : Fin 9, ∀ c : Fin 8, nJ (2 ^ n.val - 1) &&& ((nJ 1 <<< (nJ c.val &&& 31)) ^^^ (-1)) = nJ (mkB n.val c.val) ∧ mkB n.val c.val < 512 := by decide +kernel
noncomputable def bWS (h : pm_H) (c : Nat) : Nat := WL h (L9 h) (mkB (N9 h) c)
noncomputable def bOT (h : pm_H) (c : Nat) : Int32 := nJ (WL9 h) - nJ (if SP9 h c = 0 then 0 else ds9 h c)
noncomputable def bSt (h : pm_H) (c : Nat) (st : Nat × Nat) : Nat × Nat := if nJ (bWS h c) < bOT h c ∧ bWS h c < st.1 then (bWS h c, c + 1) else st
noncomputable def bOut (h : pm_H) : Nat → Nat → Nat × Nat → Nat × Nat
  | 0, _, st => st
  | j + 1, c, st => bOut h j (c + 1) (bSt h c st)
noncomputable def bIn (st : Nat × Nat) : Prop := (st.1 ≤ 64 ∧ 1 ≤ st.2 ∧ st.2 ≤ 100) ∨ (st.1 = 1000000 ∧ st.2 = 0)
section BLM
variable {h h2 : pm_H} {d : Nat}
theorem sp_parkSet8 {s : Nat} (hh : HH h) (R : QRE h) (s5 : s < 512) : Sp (d + 5) 156 h [.ref 0, .int (nJ s)] (fun h' r => r = none ∧ HH h' ∧ fr_g FL h h' ∧ gi h' 62 3 = nJ (WL h (L9 h) s)) := by
  obtain ⟨a1, a2, a3, a4, -⟩ := g15 hh
  have B := B9_of R
  have q := R.2.1.1
  have e4 : gn h 15 4 = N9 h := gn_eq q.2.2.1
  have e0 : gn h 15 0 = P9 h := gn_eq (q.2.1 0 (by first | decide | with_reducible assumption | omega))
  have e1 : gn h 15 1 = L9 h := gn_eq (q.2.1 1 (by first | decide | with_reducible assumption | omega))
  have ne : ∀ c, c < N9 h → gn h 17 c = W9 h c := fun c hc => (now_eq R c hc).1
  have l1 : gi h 15 1 = nJ (gn h 15 1) := gi_gn hh rfl (by decide)
  have l3 : gn h 15 1 ≤ 3 := gn_hi hh rfl (by decide)
  refine Sp_of aiX8_parkSet rfl rfl rfl ?_
  have L0 : pm_get (lv_args 0 [.ref 0, .int (nJ s)]) 0 = some (.ref 0) := rfl
  have L1 : pm_get (lv_args 0 [.ref 0, .int (nJ s)]) 1 = some (.int (nJ s)) := rfl
  generalize lv_args 0 [.ref 0, .int (nJ s)] = lv at L0 L1 ⊢
  refine E_al rfl L0 ?_
  refine E_ogr (q := 62) rfl hh rfl rfl ?_
  refine E_al rfl L0 ?_
  refine E_ogr (q := 15) rfl hh rfl rfl ?_
  refine E_ogr (q := 17) rfl hh rfl rfl ?_
  refine E_al rfl L0 ?_
  refine E_ogr (q := 15) rfl hh rfl rfl ?_
  refine E_ogf (q := (0, 8)) rfl hh rfl rfl a3 ?_
  refine E_il rfl L1 ?_
  refine E_al rfl L0 ?_
  refine E_ogr (q := 15) rfl hh rfl rfl ?_
  refine E_ogf (q := (0, 8)) rfl hh rfl rfl a1 ?_
  refine E_al rfl L0 ?_
  refine E_ogr (q := 15) rfl hh rfl rfl ?_
  refine E_ogf (q := (0, 3)) rfl hh rfl rfl l1 ?_
  refine E_call rfl (sp_fill (d := d) (A := 17) (hi := 8) rfl (by decide) hh l3 (by first | decide | with_reducible assumption | omega) s5 a4 (fun c hc => by rw [e4] at hc; rw [ne c hc, e0]; exact B c hc)) (chkO (a := 62) hh rfl rfl rfl rfl (by show 0 ≤ 8; decide)) (fun h2 r2 => ?_)
  rintro ⟨e2, hh2, f2, t2⟩
  rw [e2]
  rw [e4, e0, e1] at t2
  obtain ⟨-, -, t3, -⟩ := t2
  exact E_ret rfl ⟨rfl, hh2, f2, by rw [t3, wlk_W (W' := W9 h) ne]; rfl⟩
theorem bWS_le (hh : HH h) (B : B9 h) (c : Nat) : bWS h c ≤ 64 := WL_le hh B _ _
theorem bSt_in (hh : HH h) (B : B9 h) {c : Nat} (hc : c < N9 h) {st : Nat × Nat} (x : bIn st) : bIn (bSt h c st) := by
  have := bWS_le hh B c
  have := (g9s hh).2.2
  unfold bSt
  split
  · exact .inl ⟨by assumption, by show 1 ≤ c + 1; omega, by show c + 1 ≤ 100; omega⟩
  · exact x
theorem bl8_loop (hh : HH h) (R : QRE h) (j : Nat) : ∀ {g : pm_H} {c : Nat} {st : Nat × Nat} {x : Int32} (lv : List (Nat × Value)), c + j = N9 h → HH g → fr_g FL h g → bIn st → (1 ≤ st.2 → x = nJ st.1) → pm_get lv 0 = some (.ref 0) → pm_get lv 1 = some (.int x) → pm_get lv 2 = some (.int (pI st.2)) → pm_get lv 3 = some (.int (nJ c)) → Ends (pm_at tX8_blame) (pm_Rt pm_P (d + 5)) (16, lv, [], g, 0, 0) (fun h' r => fr_g FL h h' ∧ r = some (.int (pI (bOut h j c st).2))) := by
  obtain ⟨l3, p8, n8⟩ := g9s hh
  have f4 := (CW8_of hh R).1
  induction j with
  | zero =>
    intro g c st x lv hj hg f sb sx L0 L1 L2 L3
    refine E_il rfl L3 ?_
    refine E_al rfl L0 ?_
    refine E_ogr (q := 15) rfl hg rfl rfl ?_
    refine E_ogf (q := (0, 8)) rfl hg rfl rfl ((fr_gi f (rg_no rfl _)).trans f4) ?_
    refine E_icT rfl (decide_eq_true ((nJ_le (by first | decide | with_reducible assumption | omega) (by first | decide | with_reducible assumption | omega)).mpr (by first | decide | with_reducible assumption | omega))) ?_
    refine E_il rfl L2 ?_
    exact E_rti rfl ⟨f, rfl⟩
  | succ j ih =>
    intro g c st x lv hj hg f sb sx L0 L1 L2 L3
    have hc : c < N9 h := by omega
    have k : K9 h g := K9_fr f rfl rfl rfl rfl
    have Rg : QRE g := QRE_fr f rfl R
    have hcg : c < N9 g := by rw [N9_K k]; exact hc
    refine E_il rfl L3 ?_
    refine E_al rfl L0 ?_
    refine E_ogr (q := 15) rfl hg rfl rfl ?_
    refine E_ogf (q := (0, 8)) rfl hg rfl rfl ((fr_gi f (rg_no rfl _)).trans f4) ?_
    refine E_icF rfl (decide_eq_false (fun z => absurd ((nJ_le (by first | decide | with_reducible assumption | omega) (by first | decide | with_reducible assumption | omega)).mp z) (by first | decide | with_reducible assumption | omega))) ?_
    refine E_al rfl L0 ?_
    refine E_call rfl (sp_parkAllX (d := d) hg Rg) (chkO (a := 0) hg rfl rfl rfl rfl (by show 0 ≤ 8; decide)) (fun h1 r1 => ?_)
    rintro ⟨e1, T⟩
    rw [e1]
    have T0 := T
    obtain ⟨hh1, f1, -, -, t3, t4, t5, -, -⟩ := T
    have fa : fr_g FL h h1 := fr_trans f f1
    have k1 : K9 h h1 := K9_fr fa rfl rfl rfl rfl
    have R1 : QRE h1 := QRE_fr fa rfl R
    refine E_al rfl L0 ?_
    refine E_ogr (q := 62) rfl hh1 rfl rfl ?_
    refine E_ogf (q := (-2147483648, 2147483647)) rfl hh1 rfl rfl t3 ?_
    refine E_al rfl L0 ?_
    refine E_ogr (q := 62) rfl hh1 rfl rfl ?_
    refine E_ogr (q := 63) rfl hh1 rfl rfl ?_
    refine E_il rfl L3 ?_
    refine E_ial rfl hh1 rfl (by first | decide | with_reducible assumption | omega) (by decide) (t4 c hcg) ?_
    have ws := bWS_le hh (B9_of R) c
    have sb' := bSt_in hh (B9_of R) hc sb
    have es : bSt h c st = if nJ (bWS h c) < bOT h c ∧ bWS h c < st.1 then (bWS h c, c + 1) else st := rfl
    have mk := mkB_tab ⟨N9 h, by omega⟩ ⟨c, by omega⟩
    have go : Ends (pm_at tX8_blame) (pm_Rt pm_P (d + 5)) (59, lv, [.int (nJ (if SP9 h c = 0 then 0 else ds9 h c)), .int (nJ (WL9 h))], h1, 0, 0) (fun h' r => fr_g FL h h' ∧ r = some (.int (pI (bOut h (j + 1) c st).2))) := by
      refine E_bin rfl rfl ?_
      refine E_is rfl (fun lv1 K4 kp => ?_)
      have M0 := kp 0 _ (nbz rfl) rfl L0
      have M1 := kp 1 _ (nbz rfl) rfl L1
      have M2 := kp 2 _ (nbz rfl) rfl L2
      have M3 := kp 3 _ (nbz rfl) rfl L3
      change pm_get lv1 4 = some (.int (bOT h c)) at K4
      clear kp
      refine E_al rfl M0 ?_
      refine E_al rfl M0 ?_
      refine E_call rfl (Sp_le (by first | exact Nat.add_le_add_left (Nat.le_of_ble_eq_true rfl) _ | exact Nat.le_of_ble_eq_true rfl | omega) (sp_everyCar (d := d) hh1)) (chkO (a := 0) hh1 rfl rfl rfl rfl (by show 1 ≤ 8; decide)) (fun h5 r5 => ?_)
      rintro ⟨e5, f5⟩
      rw [e5, f5, show gn h1 15 4 = N9 h from (gn_of t5 (by rw [N9_K k]; omega)).trans (N9_K k)]
      refine E_ci 1 rfl ci1 ?_
      refine E_il rfl M3 ?_
      refine E_bin rfl rfl ?_
      refine E_c rfl ?_
      refine E_bin rfl rfl ?_
      refine E_bin rfl mk.1 ?_
      refine E_call rfl (sp_parkSet8 (d := d) (h := h1) hh1 R1 mk.2) (chkO (a := 0) hh1 rfl rfl rfl rfl (by show 0 ≤ 8; decide)) (fun h2 r2 => ?_)
      rintro ⟨e2, hh2, f2, t2⟩
      rw [e2]
      have fb : fr_g FL h h2 := fr_trans fa f2
      rw [WL_K k1, L9_K k1] at t2
      change gi h2 62 3 = nJ (bWS h c) at t2
      refine E_al rfl M0 ?_
      refine E_ogr (q := 62) rfl hh2 rfl rfl ?_
      refine E_ogf (q := (-2147483648, 2147483647)) rfl hh2 rfl rfl t2 ?_
      refine E_il rfl K4 ?_
      have nx : ∀ (lv : List (Nat × Value)) (x : Int32), (1 ≤ (bSt h c st).2 → x = nJ (bSt h c st).1) → pm_get lv 0 = some (.ref 0) → pm_get lv 1 = some (.int x) → pm_get lv 2 = some (.int (pI (bSt h c st).2)) → pm_get lv 3 = some (.int (nJ c)) → Ends (pm_at tX8_blame) (pm_Rt pm_P (d + 5)) (114, lv, [], h2, 0, 0) (fun h' r => fr_g FL h h' ∧ r = some (.int (pI (bOut h (j + 1) c st).2))) := by
        intro lv x sx' N0 N1 N2 N3
        refine E_inc rfl N3 (nJ_inc _) (fun lv1 K3 kp => ?_)
        refine E_goto rfl ?_
        exact ih lv1 (by first | decide | with_reducible assumption | omega) hh2 fb sb' sx' (kp 0 _ (nbz rfl) rfl N0) (kp 1 _ (nbz rfl) rfl N1) (kp 2 _ (nbz rfl) rfl N2) K3
      have tk : bSt h c st = (bWS h c, c + 1) → Ends (pm_at tX8_blame) (pm_Rt pm_P (d + 5)) (104, lv1, [], h2, 0, 0) (fun h' r => fr_g FL h h' ∧ r = some (.int (pI (bOut h (j + 1) c st).2))) := by
        intro e
        refine E_al rfl M0 ?_
        refine E_ogr (q := 62) rfl hh2 rfl rfl ?_
        refine E_ogf (q := (-2147483648, 2147483647)) rfl hh2 rfl rfl t2 ?_
        refine E_is rfl (fun lv2 K1 kp => ?_)
        refine E_il rfl (kp 3 _ (nbz rfl) rfl M3) ?_
        refine E_is rfl (fun lv3 K2 kp2 => ?_)
        exact nx lv3 (nJ (bWS h c)) (fun _ => by rw [e]) (kp2 0 _ (nbz rfl) rfl (kp 0 _ (nbz rfl) rfl M0)) (kp2 1 _ (nbz rfl) rfl K1) (by rw [e]; exact K2) (kp2 3 _ (nbz rfl) rfl (kp 3 _ (nbz rfl) rfl M3))
      by_cases c1 : nJ (bWS h c) < bOT h c
      · refine E_icF rfl (decide_eq_false (fun q => by have q1 := Int32.le_iff_toInt_le.mp q; have q2 := Int32.lt_iff_toInt_lt.mp c1; omega)) ?_
        refine E_il rfl M2 ?_
        refine E_c rfl ?_
        rcases sb with ⟨s1, s2, s3⟩ | ⟨s1, s2⟩
        · refine E_icF rfl (decide_eq_false (fun q => by have := (pI_n1 (by first | decide | with_reducible assumption | omega)).mp q; omega)) ?_
          refine E_al rfl M0 ?_
          refine E_ogr (q := 62) rfl hh2 rfl rfl ?_
          refine E_ogf (q := (-2147483648, 2147483647)) rfl hh2 rfl rfl t2 ?_
          refine E_il rfl M1 ?_
          rw [sx s2]
          by_cases c2 : bWS h c < st.1
          · refine E_icF rfl (decide_eq_false (fun q => absurd ((nJ_le (by first | decide | with_reducible assumption | omega) (by first | decide | with_reducible assumption | omega)).mp q) (by first | decide | with_reducible assumption | omega))) ?_
            exact tk (es.trans (if_pos ⟨c1, c2⟩))
          · refine E_icT rfl (decide_eq_true ((nJ_le (by first | decide | with_reducible assumption | omega) (by first | decide | with_reducible assumption | omega)).mpr (by first | decide | with_reducible assumption | omega))) ?_
            rw [if_neg (fun q => c2 q.2)] at es
            exact nx lv1 x (by rw [es]; exact sx) M0 M1 (by rw [es]; exact M2) M3
        · refine E_icT rfl (decide_eq_true (by rw [s2]; rfl)) ?_
          exact tk (es.trans (if_pos ⟨c1, by omega⟩))
      · refine E_icT rfl (decide_eq_true (Int32.le_iff_toInt_le.mpr (by
          have q2 : ¬ (nJ (bWS h c)).toInt < (bOT h c).toInt := fun q => c1 (Int32.lt_iff_toInt_lt.mpr q)
          omega))) ?_
        rw [if_neg (fun q => c1 q.1)] at es
        exact nx lv1 x (by rw [es]; exact sx) M0 M1 (by rw [es]; exact M2) M3
    rw [SP9_K k, WL9_K k]
    have s8 : SP9 h c ≤ P9 h := SP9_le (B9_of R) hc
    by_cases z : SP9 h c = 0
    · refine E_ifF rfl (decide_eq_false (fun q => q (by rw [z]; rfl))) ?_
      refine E_ci 0 rfl ci0 ?_
      refine E_goto rfl ?_
      rw [if_pos z] at go
      exact go
    · refine E_ifT rfl (decide_eq_true (fun q => z ((nJ_eq0 (by first | decide | with_reducible assumption | omega)).mp q))) ?_
      refine E_al rfl L0 ?_
      refine E_il rfl L3 ?_
      refine E_call rfl (Sp_le (by first | exact Nat.add_le_add_left (Nat.le_of_ble_eq_true rfl) _ | exact Nat.le_of_ble_eq_true rfl | omega) (sp_stepsInLot (d := d) hg (B9_K k (B9_of R)) T0 hcg)) (chkO (a := 0) hh1 rfl rfl rfl rfl (by show 1 ≤ 8; decide)) (fun h3 r3 => ?_)
      rintro ⟨e3, f3⟩
      rw [e3, f3, ds9_K k]
      rw [if_neg z] at go
      exact go
noncomputable def BL9 (h : pm_H) : Nat := (bOut h (N9 h) 0 (1000000, 0)).2
theorem sp_blame8 (hh : HH h) (R : QRE h) : Sp (d + 6) 83 h [.ref 0] (fun h' r => K9 h h' ∧ r = some (.int (qv h (pI (BL9 h))))) := by
  refine Sp_of aiX8_blame rfl rfl rfl ?_
  have L0 : pm_get (lv_args 0 [.ref 0]) 0 = some (.ref 0) := rfl
  generalize lv_args 0 [.ref 0] = lv at L0 ⊢
  have k0 : K9 h h := ⟨fun _ => rfl, fun _ => rfl, fun _ => rfl, fun _ => rfl⟩
  refine E_al rfl L0 ?_
  refine E_call rfl (Sp_le (by first | exact Nat.add_le_add_left (Nat.le_of_ble_eq_true rfl) _ | exact Nat.le_of_ble_eq_true rfl | omega) (sp_hasStreet8 (d := d) hh)) (chkO (a := 0) hh rfl rfl rfl rfl (by show 0 ≤ 8; decide)) (fun h1 r1 => ?_)
  rintro ⟨e1, f1⟩
  rw [e1, f1]
  by_cases b : 0 < gn h 15 0
  · refine E_ifT rfl (by rw [zb_T b]; rfl) ?_
    rw [show qv h (pI (BL9 h)) = pI (BL9 h) from if_pos ((st_eq R).mp b)]
    refine E_ci 0 rfl ci0 ?_
    refine E_is rfl (fun lv1 K1 kp => ?_)
    refine E_c rfl ?_
    refine E_is rfl (fun lv2 K2 kp2 => ?_)
    refine E_ci 0 rfl ci0 ?_
    refine E_is rfl (fun lv3 K3 kp3 => ?_)
    refine Ends_mono ?_ (bl8_loop hh R (N9 h) (c := 0) (st := (1000000, 0)) lv3 (by first | decide | with_reducible assumption | omega) hh (fun _ _ _ => rfl) (.inr ⟨rfl, rfl⟩) (fun q => absurd q (by show ¬ 1 ≤ 0; omega)) (kp3 0 _ (nbz rfl) rfl (kp2 0 _ (nbz rfl) rfl (kp 0 _ (nbz rfl) rfl L0))) (kp3 1 _ (nbz rfl) rfl (kp2 1 _ (nbz rfl) rfl K1)) (kp3 2 _ (nbz rfl) rfl K2) K3)
    rintro h' r ⟨f', e⟩
    exact ⟨K9_fr f' rfl rfl rfl rfl, e⟩
  · refine E_ifF rfl (by rw [zb_F b]; rfl) ?_
    rw [show qv h (pI (BL9 h)) = -2 from if_neg (fun q => b ((st_eq R).mpr q))]
    refine E_c rfl ?_
    exact E_rti rfl ⟨k0, rfl⟩
/-! the reference -/
theorem sp_laysNowY {h0 : pm_H} (hh0 : HH h0) (hV : V9 h0) (hB : B9 h0) : Sp (d + 5) 296 h0 [.ref 77] (fun h' r => r = none ∧ LN9 h0 h' ∧ gi h' 77 22 = nJ (L9 h0) ∧ gi h' 77 23 = nJ (2 ^ N9 h0 - 1)) := by
  obtain ⟨l3, p8, n8⟩ := g9s hh0
  refine Sp_of aiX9_laysNow rfl rfl rfl ?_
  have L0 : pm_get (lv_args 0 [.ref 77]) 0 = some (.ref 77) := rfl
  generalize lv_args 0 [.ref 77] = lv at L0 ⊢
  refine E_al rfl L0 ?_
  refine E_call rfl (Sp_le (by first | exact Nat.add_le_add_left (Nat.le_of_ble_eq_true rfl) _ | exact Nat.le_of_ble_eq_true rfl | omega) (sp_laysX (d := d) hh0 hV)) (chk77 hh0 rfl rfl (by show 0 ≤ 8; decide)) (fun h1 r1 => ?_)
  rintro ⟨e1, hh1, f1, a1, a2, a3⟩
  rw [e1]
  have e0 : gn h1 84 0 = P9 h0 := fr_gn f1 (rg_no rfl _)
  have e3 : gn h1 84 3 = N9 h0 := fr_gn f1 (rg_no rfl _)
  have wb : ∀ c, c < gn h1 84 3 → 1 ≤ gn h1 89 c ∧ gn h1 89 c ≤ gn h1 84 0 := fun c hc => by
    rw [e3] at hc
    rw [a3 c hc, e0]
    exact hB c hc
  refine E_al rfl L0 ?_
  refine E_al rfl L0 ?_
  refine E_gf rfl hh1 rfl a1 ?_
  refine E_call rfl (sp_parksX (d := d) (l := gn h0 84 1) hh1 l3 (all_lt n8) a2 wb) (chk77 hh1 rfl rfl (by show 0 ≤ 8; decide)) (fun h2 r2 => ?_)
  rintro ⟨e2, hh2, f2, t2⟩
  rw [e2]
  rw [e0, e3] at t2
  obtain ⟨t1, t3, t4⟩ := PKD_W (W' := W9 h0) (fun c hc => a3 c hc) t2
  refine E_ret rfl ⟨rfl, ⟨hh2, fr_trans (fr_wk rfl f1) (fr_wk rfl f2), t1, t3, t4, fun i hi => ?_⟩, (fr_gi f2 rfl).trans a1, (fr_gi f2 rfl).trans a2⟩
  rw [fr_gi f2 (rg_no rfl _), gi_gn hh1 (q := (0, 8)) (bd_u rfl (by first | decide | with_reducible assumption | omega)) (by decide), a3 i hi]
theorem bl9_loop (hh : HH h) (V : V9 h) (B : B9 h) (j : Nat) : ∀ {g : pm_H} {c : Nat} {st : Nat × Nat} (lv : List (Nat × Value)), c + j = N9 h → HH g → K9 h g → bIn st → pm_get lv 0 = some (.ref 77) → pm_get lv 1 = some (.int (pI st.2)) → pm_get lv 2 = some (.int (nJ st.1)) → pm_get lv 3 = some (.int (nJ c)) → Ends (pm_at tX9_blame) (pm_Rt pm_P (d + 6)) (22, lv, [], g, 0, 0) (fun h' r => r = some (.int (pI (bOut h j c st).2))) := by
  obtain ⟨l3, p8, n8⟩ := g9s hh
  induction j with
  | zero =>
    intro g c st lv hj hg k sb L0 L1 L2 L3
    refine E_il rfl L3 ?_
    refine E_al rfl L0 ?_
    refine E_call rfl (Sp_le (by first | exact Nat.add_le_add_left (Nat.le_of_ble_eq_true rfl) _ | exact Nat.le_of_ble_eq_true rfl | omega) (sp_cars (d := d) hg)) (chk77 hg rfl rfl (by show 1 ≤ 8; decide)) (fun h1 r1 => ?_)
    rintro ⟨e1, f1, -⟩
    rw [e1, f1, show gn g 84 3 = N9 h from N9_K k]
    refine E_icT rfl (decide_eq_true ((nJ_le (by first | decide | with_reducible assumption | omega) (by first | decide | with_reducible assumption | omega)).mpr (by first | decide | with_reducible assumption | omega))) ?_
    refine E_il rfl L1 ?_
    exact E_rti rfl rfl
  | succ j ih =>
    intro g c st lv hj hg k sb L0 L1 L2 L3
    have hc : c < N9 h := by omega
    refine E_il rfl L3 ?_
    refine E_al rfl L0 ?_
    refine E_call rfl (Sp_le (by first | exact Nat.add_le_add_left (Nat.le_of_ble_eq_true rfl) _ | exact Nat.le_of_ble_eq_true rfl | omega) (sp_cars (d := d) hg)) (chk77 hg rfl rfl (by show 1 ≤ 8; decide)) (fun h1 r1 => ?_)
    rintro ⟨e1, f1, -⟩
    rw [e1, f1, show gn g 84 3 = N9 h from N9_K k]
    refine E_icF rfl (decide_eq_false (fun z => absurd ((nJ_le (by first | decide | with_reducible assumption | omega) (by first | decide | with_reducible assumption | omega)).mp z) (by first | decide | with_reducible assumption | omega))) ?_
    refine E_al rfl L0 ?_
    refine E_call rfl (Sp_le (by first | exact Nat.add_le_add_left (Nat.le_of_ble_eq_true rfl) _ | exact Nat.le_of_ble_eq_true rfl | omega) (sp_laysNowY (d := d) hg (V9_K k V) (B9_K k B))) (chk77 hg rfl rfl (by show 0 ≤ 8; decide)) (fun h2 r2 => ?_)
    rintro ⟨e2, T0, q22, q23⟩
    rw [e2]
    have f2 := T0.2.1
    have T2 : PK9 h (L9 h) (2 ^ N9 h - 1) h2 := LV9_of k T0
    have T2' := T2
    obtain ⟨hh2, u0, u3, t1, t2, t3, t4⟩ := T2'
    have k2 : K9 h h2 := K9_tr k (K9_fr f2 rfl rfl rfl rfl)
    rw [L9_K k] at q22
    rw [N9_K k] at q23
    refine E_al rfl L0 ?_
    refine E_call rfl (Sp_le (by first | exact Nat.add_le_add_left (Nat.le_of_ble_eq_true rfl) _ | exact Nat.le_of_ble_eq_true rfl | omega) (sp_sumNowP (d := d) hh B T2)) (chk77 hh2 rfl rfl (by show 0 ≤ 8; decide)) (fun h6 r6 => ?_)
    rintro ⟨e6, f6⟩
    rw [e6, f6]
    refine E_al rfl L0 ?_
    refine E_gr rfl hh2 (q := 91) rfl ?_
    refine E_il rfl L3 ?_
    refine E_ial rfl hh2 rfl (by first | decide | with_reducible assumption | omega) (by decide) (t3 c hc) ?_
    refine E_c rfl ?_
    have ws := bWS_le hh B c
    have sb' := bSt_in hh B hc sb
    have es : bSt h c st = if nJ (bWS h c) < bOT h c ∧ bWS h c < st.1 then (bWS h c, c + 1) else st := rfl
    have mk := mkB_tab ⟨N9 h, by omega⟩ ⟨c, by omega⟩
    have go : Ends (pm_at tX9_blame) (pm_Rt pm_P (d + 6)) (57, lv, [.int (nJ (if SP9 h c = 0 then 0 else ds9 h c)), .int (nJ (WL9 h))], h2, 0, 0) (fun h' r => r = some (.int (pI (bOut h (j + 1) c st).2))) := by
      refine E_bin rfl rfl ?_
      refine E_is rfl (fun lv1 K4 kp => ?_)
      have M0 := kp 0 _ (nbz rfl) rfl L0
      have M1 := kp 1 _ (nbz rfl) rfl L1
      have M2 := kp 2 _ (nbz rfl) rfl L2
      have M3 := kp 3 _ (nbz rfl) rfl L3
      change pm_get lv1 4 = some (.int (bOT h c)) at K4
      clear kp
      refine E_al rfl M0 ?_
      refine E_dup rfl rfl ?_
      refine E_gf rfl hh2 rfl q23 ?_
      refine E_ci 1 rfl ci1 ?_
      refine E_il rfl M3 ?_
      refine E_bin rfl rfl ?_
      refine E_c rfl ?_
      refine E_bin rfl rfl ?_
      refine E_bin rfl mk.1 ?_
      refine E_pf rfl hh2 rfl ?_
      have h3 : HH (pt h2 77 23 (nJ (mkB (N9 h) c))) := HH_pt hh2 rfl (ai_lo _) (ai_hi _)
      have q3 : gi (pt h2 77 23 (nJ (mkB (N9 h) c))) 77 23 = nJ (mkB (N9 h) c) := gi_pt hh2 rfl (ai_lo _) (ai_hi _)
      have q4 : gi (pt h2 77 23 (nJ (mkB (N9 h) c))) 77 22 = nJ (L9 h) := by rw [gi_ne (by first | exact gxx rfl | omega), q22]
      have k3 : K9 h (pt h2 77 23 (nJ (mkB (N9 h) c))) := K9_tr k2 ⟨fun _ => gn_ne (by first | exact gxx rfl | omega), fun _ => gn_ne (by first | exact gxx rfl | omega), fun _ => gn_ne (by first | exact gxx rfl | omega), fun _ => gi_ne (by first | exact gxx rfl | omega)⟩
      have T3 : LY9 h (pt h2 77 23 (nJ (mkB (N9 h) c))) := ⟨h3, by rw [gn_ne (by first | exact gxx rfl | omega)]; exact u0, by rw [gn_ne (by first | exact gxx rfl | omega)]; exact u3, fun i hi => by rw [gn_ne (by first | exact gxx rfl | omega)]; exact gn_of (t4 i hi) (by have := (B i hi).2; omega)⟩
      generalize pt h2 77 23 (nJ (mkB (N9 h) c)) = g3 at h3 q3 q4 k3 T3 ⊢
      refine E_al rfl M0 ?_
      refine E_al rfl M0 ?_
      refine E_gf rfl h3 rfl q4 ?_
      refine E_call rfl (Sp_le (by first | exact Nat.add_le_add_left (Nat.le_of_ble_eq_true rfl) _ | exact Nat.le_of_ble_eq_true rfl | omega) (sp_parksX (d := d) (l := L9 h) (s := mkB (N9 h) c) h3 l3 mk.2 q3 (wbX T3 B))) (chk77 h3 rfl rfl (by show 0 ≤ 8; decide)) (fun h4 r4 => ?_)
      rintro ⟨e4, hh4, f4, t4⟩
      rw [e4]
      rw [T3.2.1, T3.2.2.1] at t4
      have P := PK9_of (g := g3) (h2 := g3) h3 T3 hh4 f4 (fun _ _ _ => rfl) (PKD_W T3.2.2.2 t4)
      have k4 : K9 h h4 := K9_tr k3 (K9_fr f4 rfl rfl rfl rfl)
      refine E_al rfl M0 ?_
      refine E_call rfl (Sp_le (by first | exact Nat.add_le_add_left (Nat.le_of_ble_eq_true rfl) _ | exact Nat.le_of_ble_eq_true rfl | omega) (sp_sumNowP (d := d) hh B P)) (chk77 hh4 rfl rfl (by show 0 ≤ 8; decide)) (fun h5 r5 => ?_)
      rintro ⟨e5, f5⟩
      rw [e5, f5]
      refine E_is rfl (fun lv2 K5 kp => ?_)
      change pm_get lv2 5 = some (.int (nJ (bWS h c))) at K5
      have O0 := kp 0 _ (nbz rfl) rfl M0
      have O1 := kp 1 _ (nbz rfl) rfl M1
      have O2 := kp 2 _ (nbz rfl) rfl M2
      have O3 := kp 3 _ (nbz rfl) rfl M3
      have O4 := kp 4 _ (nbz rfl) rfl K4
      have nx : ∀ (lv : List (Nat × Value)), pm_get lv 0 = some (.ref 77) → pm_get lv 1 = some (.int (pI (bSt h c st).2)) → pm_get lv 2 = some (.int (nJ (bSt h c st).1)) → pm_get lv 3 = some (.int (nJ c)) → Ends (pm_at tX9_blame) (pm_Rt pm_P (d + 6)) (109, lv, [], h4, 0, 0) (fun h' r => r = some (.int (pI (bOut h (j + 1) c st).2))) := by
        intro lv N0 N1 N2 N3
        refine E_inc rfl N3 (nJ_inc _) (fun lv1 K3 kp => ?_)
        refine E_goto rfl ?_
        exact ih lv1 (by first | decide | with_reducible assumption | omega) hh4 k4 sb' (kp 0 _ (nbz rfl) rfl N0) (kp 1 _ (nbz rfl) rfl N1) (kp 2 _ (nbz rfl) rfl N2) K3
      refine E_il rfl K5 ?_
      refine E_il rfl O4 ?_
      by_cases c1 : nJ (bWS h c) < bOT h c
      · refine E_icF rfl (decide_eq_false (fun q => by have q1 := Int32.le_iff_toInt_le.mp q; have q2 := Int32.lt_iff_toInt_lt.mp c1; omega)) ?_
        refine E_il rfl K5 ?_
        refine E_il rfl O2 ?_
        have s1 : st.1 ≤ 1000000 := by rcases sb with ⟨a, -⟩ | ⟨a, -⟩ <;> omega
        by_cases c2 : bWS h c < st.1
        · refine E_icT rfl (decide_eq_true ((nJ_lt (by first | decide | with_reducible assumption | omega) (by first | decide | with_reducible assumption | omega)).mpr c2)) ?_
          rw [if_pos ⟨c1, c2⟩] at es
          refine E_il rfl O3 ?_
          refine E_is rfl (fun lv3 J1 kp2 => ?_)
          refine E_il rfl (kp2 5 _ (nbz rfl) rfl K5) ?_
          refine E_is rfl (fun lv4 J2 kp3 => ?_)
          exact nx lv4 (kp3 0 _ (nbz rfl) rfl (kp2 0 _ (nbz rfl) rfl O0)) (by rw [es]; exact kp3 1 _ (nbz rfl) rfl J1) (by rw [es]; exact J2) (kp3 3 _ (nbz rfl) rfl (kp2 3 _ (nbz rfl) rfl O3))
        · refine E_icF rfl (decide_eq_false (fun q => c2 ((nJ_lt (by first | decide | with_reducible assumption | omega) (by first | decide | with_reducible assumption | omega)).mp q))) ?_
          rw [if_neg (fun q => c2 q.2)] at es
          refine E_goto rfl ?_
          exact nx lv2 O0 (by rw [es]; exact O1) (by rw [es]; exact O2) O3
      · refine E_icT rfl (decide_eq_true (Int32.le_iff_toInt_le.mpr (by
          have q2 : ¬ (nJ (bWS h c)).toInt < (bOT h c).toInt := fun q => c1 (Int32.lt_iff_toInt_lt.mpr q)
          omega))) ?_
        rw [if_neg (fun q => c1 q.1)] at es
        exact nx lv2 O0 (by rw [es]; exact O1) (by rw [es]; exact O2) O3
    have s8 : SP9 h c ≤ P9 h := SP9_le B hc
    by_cases z : SP9 h c = 0
    · refine E_icF rfl (decide_eq_false (fun q => q ((pO_n1 (by show SP9 h c < _; omega)).mpr z))) ?_
      refine E_ci 0 rfl ci0 ?_
      refine E_goto rfl ?_
      rw [if_pos z] at go
      exact go
    · refine E_icT rfl (decide_eq_true (fun q => z ((pO_n1 (by show SP9 h c < _; omega)).mp q))) ?_
      refine E_al rfl L0 ?_
      refine E_il rfl L3 ?_
      refine E_call rfl (Sp_le (by first | exact Nat.add_le_add_left (Nat.le_of_ble_eq_true rfl) _ | exact Nat.le_of_ble_eq_true rfl | omega) (sp_stepsOfP (d := d) hh B T2 hc z)) (chk77 hh2 rfl rfl (by show 1 ≤ 8; decide)) (fun h3 r3 => ?_)
      rintro ⟨e3, f3⟩
      rw [e3, f3]
      rw [if_neg z] at go
      exact go
theorem sp_blame9 (hh : HH h) (V : V9 h) (B : B9 h) : Sp (d + 7) 214 h [.ref 77] (fun h' r => r = some (.int (qv h (pI (BL9 h))))) := by
  obtain ⟨l3, p8, n8⟩ := g9s hh
  refine Sp_of aiX9_blame rfl rfl rfl ?_
  have L0 : pm_get (lv_args 0 [.ref 77]) 0 = some (.ref 77) := rfl
  generalize lv_args 0 [.ref 77] = lv at L0 ⊢
  refine E_al rfl L0 ?_
  refine E_ci 0 rfl ci0 ?_
  refine E_pf rfl hh rfl ?_
  have hg : HH (pt h 77 0 (nJ 0)) := HH_ptn hh rfl (by first | decide | with_reducible assumption | omega) (by first | decide | with_reducible assumption | omega) (by first | decide | with_reducible assumption | omega)
  have k : K9 h (pt h 77 0 (nJ 0)) := K9_77
  generalize pt h 77 0 (nJ 0) = g at hg k ⊢
  refine E_al rfl L0 ?_
  refine E_call rfl (Sp_le (by first | exact Nat.add_le_add_left (Nat.le_of_ble_eq_true rfl) _ | exact Nat.le_of_ble_eq_true rfl | omega) (sp_isStreet (d := d) hg)) (chk77 hg rfl rfl (by show 0 ≤ 8; decide)) (fun h1 r1 => ?_)
  rintro ⟨e1, f1⟩
  rw [e1, f1, k.2.2.2]
  by_cases b : 0 < (gi h 83 0).toInt
  · refine E_ifT rfl (by rw [zb_T b]; rfl) ?_
    rw [show qv h (pI (BL9 h)) = pI (BL9 h) from if_pos b]
    refine E_c rfl ?_
    refine E_is rfl (fun lv1 K1 kp => ?_)
    refine E_ci 1000000 rfl ci1000000 ?_
    refine E_is rfl (fun lv2 K2 kp2 => ?_)
    refine E_ci 0 rfl ci0 ?_
    refine E_is rfl (fun lv3 K3 kp3 => ?_)
    exact bl9_loop hh V B (N9 h) (c := 0) (st := (1000000, 0)) lv3 (by first | decide | with_reducible assumption | omega) hg k (.inr ⟨rfl, rfl⟩) (kp3 0 _ (nbz rfl) rfl (kp2 0 _ (nbz rfl) rfl (kp 0 _ (nbz rfl) rfl L0))) (kp3 1 _ (nbz rfl) rfl (kp2 1 _ (nbz rfl) rfl K1)) (kp3 2 _ (nbz rfl) rfl K2) K3
  · refine E_ifF rfl (by rw [zb_F b]; rfl) ?_
    rw [show qv h (pI (BL9 h)) = -2 from if_neg b]
    refine E_c rfl ?_
    exact E_rti rfl rfl
end BLM
theorem bSt_K {h h' : pm_H} (k : K9 h h') : bSt h' = bSt h := by funext c st; unfold bSt bWS bOT; rw [WL_K k, L9_K k, N9_K k, WL9_K k, SP9_K k, ds9_K k]
theorem bOut_K {h h' : pm_H} (k : K9 h h') : ∀ j c st, bOut h' j c st = bOut h j c st
  | 0, _, _ => rfl
  | j + 1, c, st => by
    show bOut h' j (c + 1) (bSt h' c st) = bOut h j (c + 1) (bSt h c st)
    rw [bSt_K k, bOut_K k j]
theorem BL9_K {h h' : pm_H} (k : K9 h h') : BL9 h' = BL9 h := by unfold BL9; rw [bOut_K k, N9_K k]
noncomputable def half_blame (h : pm_H) (r : Int32) : Prop := QRE h ∧ r = qv h (pI (BL9 h))
theorem g8_blame {h : pm_H} (I : IVQ h) : Sp 100 83 h [.ref 0] (fun h' v => IVh h' ∧ ∃ r : Int32, v = some (.int r) ∧ half_blame h' r) := by
  refine Sp_le (by first | exact Nat.add_le_add_left (Nat.le_of_ble_eq_true rfl) _ | exact Nat.le_of_ble_eq_true rfl | omega) (Sp_mono ?_ (Sp_and (top_all (as := [.ref 0]) q626 (by decide +kernel) I.1 ⟨rfl, trivial⟩) (sp_blame8 (d := 0) I.1.1 I.2)))
  rintro h' v ⟨⟨s1, s2, -⟩, k, rfl⟩
  exact ⟨s1, _, rfl, QRE_fr s2 rfl I.2, by rw [qv_K k, BL9_K k]⟩
theorem g9_blame {h : pm_H} {r : Int32} (I : IVh h) (J : half_blame h r) : Sp 100 214 h [.ref 77] (fun h' v => IVQ h' ∧ v = some (.int r)) := by
  obtain ⟨J1, rfl⟩ := J
  refine Sp_le (by first | exact Nat.add_le_add_left (Nat.le_of_ble_eq_true rfl) _ | exact Nat.le_of_ble_eq_true rfl | omega) (Sp_mono ?_ (Sp_and (top_all (as := [.ref 77]) q627 (by decide +kernel) I ⟨rfl, trivial⟩) (sp_blame9 (d := 0) I.1 (V9_of J1) (B9_of J1))))
  rintro h' v ⟨⟨s1, s2, -⟩, rfl⟩
  exact ⟨⟨s1, QRE_fr s2 rfl J1⟩, rfl⟩
end
section
/-! the law's own run (written by gen_t21.py) -/
noncomputable def RQ1 (_ : pm_H) (r : Option Value) : Prop := r = some (.int 1)
section ENDW
variable {look : Nat → Option pm_I} {call : pm_Call} {Q : pm_H → Option Value → Prop} {pc n i t : Nat} {lv : List (Nat × Value)} {st : List Value} {w : pm_H × Nat × Nat} {h : pm_H} {z : Nat × Nat}
theorem E_alr {x : Nat} (h1 : look pc = some (.inl (s_al i n))) (e : pm_get lv i = some (.retAddr x)) (k : Ends look call (n, lv, .retAddr x :: st, w) Q) : Ends look call (pc, lv, st, w) Q := E_st h1 (by simp only [s_al, e]) k
theorem E_sld {L j : Nat} {xs : Nat → Int32} (h1 : look pc = some (.inl (s_sld L xs n))) (hj : j < L) (hL : L ≤ 3072) (k : Ends look call (n, lv, .int (xs j) :: st, w) Q) : Ends look call (pc, lv, .int (nJ j) :: .retAddr 0 :: st, w) Q := by
  have h2 := nJ_toInt (n := j) (by first | decide | with_reducible assumption | omega)
  have h3 : pm_ix (nJ j) L = true := ai_ix (by first | decide | with_reducible assumption | omega) (by first | decide | with_reducible assumption | omega)
  have h4 : (nJ j).toNatClampNeg = j := by show (nJ j).toInt.toNat = j; omega
  refine E_st h1 ?_ k
  simp only [s_sld, h3, h4, cond_true]
theorem E_slen {L : Nat} (h1 : look pc = some (.inl (s_slen L n))) (hL : L ≤ 3072) (k : Ends look call (n, lv, .int (nJ L) :: st, w) Q) : Ends look call (pc, lv, .retAddr 0 :: st, w) Q := by
  have e : Int32.ofNat L = nJ L := by
    apply Int32.toInt_inj.mp
    rw [nJ_toInt (by first | decide | with_reducible assumption | omega), Int32.toInt_ofNat_of_lt (by first | decide | with_reducible assumption | omega)]
  refine E_st h1 ?_ k
  simp only [s_slen, e]
theorem E_lsh {op : Int64 → Int32 → Int64} {x : Int64} {y : Int32} (h1 : look pc = some (.inl (s_lsh op n))) (k : Ends look call (n, lv, .long (op x y) :: st, w) Q) : Ends look call (pc, lv, .int y :: .long x :: st, w) Q := E_st h1 rfl k
theorem E_pop2 {x : Value} (h1 : look pc = some (.inl (s_pop2 n))) (e : x.category = 2) (k : Ends look call (n, lv, st, w) Q) : Ends look call (pc, lv, x :: st, w) Q := E_st h1 (by simp only [s_pop2, e]; rfl) k
theorem E_tsw {lo hi : Int} {ts : List Nat} {dd : Nat} {x : Int32} (h1 : look pc = some (.inl (s_tsw lo hi ts dd))) (hz : (decide (x.toInt < lo) || decide (hi < x.toInt)) = false) (ht : ts[(x.toInt - lo).toNat]? = some t) (k : Ends look call (t, lv, st, w) Q) : Ends look call (pc, lv, .int x :: st, w) Q := E_st h1 (by simp only [s_tsw, hz, cond_false, ht]) k
theorem E_tswD {lo hi : Int} {ts : List Nat} {dd : Nat} {x : Int32} (h1 : look pc = some (.inl (s_tsw lo hi ts dd))) (hz : (decide (x.toInt < lo) || decide (hi < x.toInt)) = true) (k : Ends look call (dd, lv, st, w) Q) : Ends look call (pc, lv, .int x :: st, w) Q := E_st h1 (by simp only [s_tsw, hz, cond_true]) k
theorem chkR {a ci k : Nat} {fs : List AF} {as : List Value} (hh : HH h) (hc : hsF a = some (.inr (.inr (.inr (ci, fs))))) (h9 : Nat.blt ci 100 = true) (hl : Nat.ble k st.length = true) (e : (st.take k).reverse = .ref a :: as) (hs : pm_sz (st.drop k) ≤ 8) : pm_chk k (some ci) 0 0 st (h, z) := by
  obtain ⟨x, hx, hg⟩ := hf_at hh hc
  match x, hx, hg with
  | .inr (cq, vs), hx, hg =>
    obtain ⟨rfl, -, -⟩ := hg
    refine ⟨Nat.le_of_ble_eq_true hl, fun q hq => ?_, hs, Nat.zero_le _, Nat.zero_le _⟩
    cases hq
    exact ⟨fun _ => ⟨a, vs, as, e, hx⟩, fun h7 => absurd (Nat.le_of_ble_eq_true h9) (Nat.not_lt.mpr h7)⟩
end ENDW
theorem nJ_inc6 (a : Nat) : nJ a + 6 = nJ (a + 6) := nJ_add a 6
set_option maxRecDepth 20000 in
theorem bl_0 {L : Nat} {xs : Nat → Int32} (hL : L ≤ 3072) {h : pm_H} {i : Nat} (hi : i + 6 ≤ L) (lv : List (Nat × Value)) (I : IVQ h) (L0 : pm_get lv 0 = some (.retAddr 0)) (L1 : pm_get lv 1 = some (.ref 0)) (L2 : pm_get lv 2 = some (.ref 77)) (L3 : pm_get lv 3 = some (.int (nJ i))) (K : ∀ h', IVQ h' → Ends (pm_tr (lb_all L xs)) (pm_Rt pm_P 100) (2392, lv, [], h', 599897, 7298671) RQ1) : Ends (pm_tr (lb_all L xs)) (pm_Rt pm_P 100) (376, lv, [], h, 599897, 7298671) RQ1 := by
  refine E_al rfl L1 ?_
  refine E_alr rfl L0 ?_
  refine E_il rfl L3 ?_
  refine E_ci 1 rfl ci1 ?_
  refine E_bin rfl (nJ_add _ _) ?_
  refine E_sld rfl (by first | decide | with_reducible assumption | omega) hL ?_
  refine E_alr rfl L0 ?_
  refine E_il rfl L3 ?_
  refine E_ci 2 rfl ci2 ?_
  refine E_bin rfl (nJ_add _ _) ?_
  refine E_sld rfl (by first | decide | with_reducible assumption | omega) hL ?_
  refine E_alr rfl L0 ?_
  refine E_il rfl L3 ?_
  refine E_ci 3 rfl ci3 ?_
  refine E_bin rfl (nJ_add _ _) ?_
  refine E_sld rfl (by first | decide | with_reducible assumption | omega) hL ?_
  refine E_alr rfl L0 ?_
  refine E_il rfl L3 ?_
  refine E_ci 4 rfl ci4 ?_
  refine E_bin rfl (nJ_add _ _) ?_
  refine E_sld rfl (by first | decide | with_reducible assumption | omega) hL ?_
  refine E_alr rfl L0 ?_
  refine E_il rfl L3 ?_
  refine E_ci 5 rfl ci5 ?_
  refine E_bin rfl (nJ_add _ _) ?_
  refine E_sld rfl (by first | decide | with_reducible assumption | omega) hL ?_
  refine E_call rfl (g8_feed I) (chkR (a := 0) I.1.1 rfl rfl rfl rfl (by show 0 ≤ 8; decide)) (fun h1 r1 => ?_)
  rintro ⟨I1, x1, f1, J1⟩
  rw [f1]
  show Ends _ _ (405, lv, [.int x1], h1, 599897, 7298671) _
  refine E_pop rfl rfl ?_
  refine E_al rfl L2 ?_
  refine E_alr rfl L0 ?_
  refine E_il rfl L3 ?_
  refine E_ci 1 rfl ci1 ?_
  refine E_bin rfl (nJ_add _ _) ?_
  refine E_sld rfl (by first | decide | with_reducible assumption | omega) hL ?_
  refine E_alr rfl L0 ?_
  refine E_il rfl L3 ?_
  refine E_ci 2 rfl ci2 ?_
  refine E_bin rfl (nJ_add _ _) ?_
  refine E_sld rfl (by first | decide | with_reducible assumption | omega) hL ?_
  refine E_alr rfl L0 ?_
  refine E_il rfl L3 ?_
  refine E_ci 3 rfl ci3 ?_
  refine E_bin rfl (nJ_add _ _) ?_
  refine E_sld rfl (by first | decide | with_reducible assumption | omega) hL ?_
  refine E_alr rfl L0 ?_
  refine E_il rfl L3 ?_
  refine E_ci 4 rfl ci4 ?_
  refine E_bin rfl (nJ_add _ _) ?_
  refine E_sld rfl (by first | decide | with_reducible assumption | omega) hL ?_
  refine E_alr rfl L0 ?_
  refine E_il rfl L3 ?_
  refine E_ci 5 rfl ci5 ?_
  refine E_bin rfl (nJ_add _ _) ?_
  refine E_sld rfl (by first | decide | with_reducible assumption | omega) hL ?_
  refine E_call rfl (g9_feed I1 J1) (chkR (a := 77) I1.1 rfl rfl rfl rfl (by show 0 ≤ 8; decide)) (fun h2 r2 => ?_)
  rintro ⟨I2, f2⟩
  rw [f2]
  show Ends _ _ (435, lv, [.int x1], h2, 599897, 7298671) _
  refine E_pop rfl rfl ?_
  refine E_goto rfl ?_
  exact K _ I2
set_option maxRecDepth 20000 in
theorem bl_1 {L : Nat} {xs : Nat → Int32} (hL : L ≤ 3072) {h : pm_H} {i : Nat} (hi : i + 6 ≤ L) (lv : List (Nat × Value)) (I : IVQ h) (L0 : pm_get lv 0 = some (.retAddr 0)) (L1 : pm_get lv 1 = some (.ref 0)) (L2 : pm_get lv 2 = some (.ref 77)) (L3 : pm_get lv 3 = some (.int (nJ i))) (K : ∀ h', IVQ h' → Ends (pm_tr (lb_all L xs)) (pm_Rt pm_P 100) (2392, lv, [], h', 599897, 7298671) RQ1) : Ends (pm_tr (lb_all L xs)) (pm_Rt pm_P 100) (439, lv, [], h, 599897, 7298671) RQ1 := by
  refine E_al rfl L1 ?_
  refine E_alr rfl L0 ?_
  refine E_il rfl L3 ?_
  refine E_ci 1 rfl ci1 ?_
  refine E_bin rfl (nJ_add _ _) ?_
  refine E_sld rfl (by first | decide | with_reducible assumption | omega) hL ?_
  refine E_call rfl (g8_end I) (chkR (a := 0) I.1.1 rfl rfl rfl rfl (by show 0 ≤ 8; decide)) (fun h1 r1 => ?_)
  rintro ⟨I1, x1, f1, J1⟩
  rw [f1]
  show Ends _ _ (448, lv, [.int x1], h1, 599897, 7298671) _
  refine E_pop rfl rfl ?_
  refine E_al rfl L2 ?_
  refine E_alr rfl L0 ?_
  refine E_il rfl L3 ?_
  refine E_ci 1 rfl ci1 ?_
  refine E_bin rfl (nJ_add _ _) ?_
  refine E_sld rfl (by first | decide | with_reducible assumption | omega) hL ?_
  refine E_call rfl (g9_end I1 J1) (chkR (a := 77) I1.1 rfl rfl rfl rfl (by show 0 ≤ 8; decide)) (fun h2 r2 => ?_)
  rintro ⟨I2, f2⟩
  rw [f2]
  show Ends _ _ (458, lv, [.int x1], h2, 599897, 7298671) _
  refine E_pop rfl rfl ?_
  refine E_goto rfl ?_
  exact K _ I2
set_option maxRecDepth 20000 in
theorem bl_2 {L : Nat} {xs : Nat → Int32} (hL : L ≤ 3072) {h : pm_H} {i : Nat} (hi : i + 6 ≤ L) (lv : List (Nat × Value)) (I : IVQ h) (L0 : pm_get lv 0 = some (.retAddr 0)) (L1 : pm_get lv 1 = some (.ref 0)) (L2 : pm_get lv 2 = some (.ref 77)) (L3 : pm_get lv 3 = some (.int (nJ i))) (K : ∀ h', IVQ h' → Ends (pm_tr (lb_all L xs)) (pm_Rt pm_P 100) (2392, lv, [], h', 599897, 7298671) RQ1) : Ends (pm_tr (lb_all L xs)) (pm_Rt pm_P 100) (462, lv, [], h, 599897, 7298671) RQ1 := by
  refine E_al rfl L1 ?_
  refine E_call rfl (g8_street I) (chkR (a := 0) I.1.1 rfl rfl rfl rfl (by show 0 ≤ 8; decide)) (fun h1 r1 => ?_)
  rintro ⟨I1, x1, f1, J1⟩
  rw [f1]
  show Ends _ _ (466, lv, [.int x1], h1, 599897, 7298671) _
  refine E_pop rfl rfl ?_
  refine E_al rfl L2 ?_
  refine E_call rfl (g9_street I1 J1) (chkR (a := 77) I1.1 rfl rfl rfl rfl (by show 0 ≤ 8; decide)) (fun h2 r2 => ?_)
  rintro ⟨I2, f2⟩
  rw [f2]
  show Ends _ _ (471, lv, [.int x1], h2, 599897, 7298671) _
  refine E_pop rfl rfl ?_
  refine E_goto rfl ?_
  exact K _ I2
set_option maxRecDepth 20000 in
theorem bl_3 {L : Nat} {xs : Nat → Int32} (hL : L ≤ 3072) {h : pm_H} {i : Nat} (hi : i + 6 ≤ L) (lv : List (Nat × Value)) (I : IVQ h) (L0 : pm_get lv 0 = some (.retAddr 0)) (L1 : pm_get lv 1 = some (.ref 0)) (L2 : pm_get lv 2 = some (.ref 77)) (L3 : pm_get lv 3 = some (.int (nJ i))) (K : ∀ h', IVQ h' → Ends (pm_tr (lb_all L xs)) (pm_Rt pm_P 100) (2392, lv, [], h', 599897, 7298671) RQ1) : Ends (pm_tr (lb_all L xs)) (pm_Rt pm_P 100) (475, lv, [], h, 599897, 7298671) RQ1 := by
  refine E_al rfl L1 ?_
  refine E_alr rfl L0 ?_
  refine E_il rfl L3 ?_
  refine E_ci 1 rfl ci1 ?_
  refine E_bin rfl (nJ_add _ _) ?_
  refine E_sld rfl (by first | decide | with_reducible assumption | omega) hL ?_
  refine E_call rfl (tQ_int (by decide +kernel) (by decide +kernel) I.2 (top_int (as := [.ref 0, .int (xs ((i + 1)))]) q107 (by decide +kernel) (by decide +kernel) I.1 ⟨rfl, aI _, trivial⟩)) (chkR (a := 0) I.1.1 rfl rfl rfl rfl (by show 0 ≤ 8; decide)) (fun h1 r1 => ?_)
  rintro ⟨I1, x1, f1⟩
  rw [f1]
  show Ends _ _ (484, lv, [.int x1], h1, 599897, 7298671) _
  refine E_pop rfl rfl ?_
  refine E_al rfl L2 ?_
  refine E_alr rfl L0 ?_
  refine E_il rfl L3 ?_
  refine E_ci 1 rfl ci1 ?_
  refine E_bin rfl (nJ_add _ _) ?_
  refine E_sld rfl (by first | decide | with_reducible assumption | omega) hL ?_
  refine E_call rfl (tQ_int (by decide +kernel) (by decide +kernel) I1.2 (top_int (as := [.ref 77, .int (xs ((i + 1)))]) q108 (by decide +kernel) (by decide +kernel) I1.1 ⟨rfl, aI _, trivial⟩)) (chkR (a := 77) I1.1.1 rfl rfl rfl rfl (by show 0 ≤ 8; decide)) (fun h2 r2 => ?_)
  rintro ⟨I2, x2, f2⟩
  rw [f2]
  show Ends _ _ (494, lv, [.int x2], h2, 599897, 7298671) _
  refine E_pop rfl rfl ?_
  refine E_goto rfl ?_
  exact K _ I2
set_option maxRecDepth 20000 in
theorem bl_4 {L : Nat} {xs : Nat → Int32} (hL : L ≤ 3072) {h : pm_H} {i : Nat} (hi : i + 6 ≤ L) (lv : List (Nat × Value)) (I : IVQ h) (L0 : pm_get lv 0 = some (.retAddr 0)) (L1 : pm_get lv 1 = some (.ref 0)) (L2 : pm_get lv 2 = some (.ref 77)) (L3 : pm_get lv 3 = some (.int (nJ i))) (K : ∀ h', IVQ h' → Ends (pm_tr (lb_all L xs)) (pm_Rt pm_P 100) (2392, lv, [], h', 599897, 7298671) RQ1) : Ends (pm_tr (lb_all L xs)) (pm_Rt pm_P 100) (498, lv, [], h, 599897, 7298671) RQ1 := by
  refine E_al rfl L1 ?_
  refine E_alr rfl L0 ?_
  refine E_il rfl L3 ?_
  refine E_ci 1 rfl ci1 ?_
  refine E_bin rfl (nJ_add _ _) ?_
  refine E_sld rfl (by first | decide | with_reducible assumption | omega) hL ?_
  refine E_alr rfl L0 ?_
  refine E_il rfl L3 ?_
  refine E_ci 2 rfl ci2 ?_
  refine E_bin rfl (nJ_add _ _) ?_
  refine E_sld rfl (by first | decide | with_reducible assumption | omega) hL ?_
  refine E_call rfl (tQ_int (by decide +kernel) (by decide +kernel) I.2 (top_int (as := [.ref 0, .int (xs ((i + 1))), .int (xs ((i + 2)))]) q111 (by decide +kernel) (by decide +kernel) I.1 ⟨rfl, aI _, aI _, trivial⟩)) (chkR (a := 0) I.1.1 rfl rfl rfl rfl (by show 0 ≤ 8; decide)) (fun h1 r1 => ?_)
  rintro ⟨I1, x1, f1⟩
  rw [f1]
  show Ends _ _ (512, lv, [.int x1], h1, 599897, 7298671) _
  refine E_pop rfl rfl ?_
  refine E_al rfl L2 ?_
  refine E_alr rfl L0 ?_
  refine E_il rfl L3 ?_
  refine E_ci 1 rfl ci1 ?_
  refine E_bin rfl (nJ_add _ _) ?_
  refine E_sld rfl (by first | decide | with_reducible assumption | omega) hL ?_
  refine E_alr rfl L0 ?_
  refine E_il rfl L3 ?_
  refine E_ci 2 rfl ci2 ?_
  refine E_bin rfl (nJ_add _ _) ?_
  refine E_sld rfl (by first | decide | with_reducible assumption | omega) hL ?_
  refine E_call rfl (tQ_int (by decide +kernel) (by decide +kernel) I1.2 (top_int (as := [.ref 77, .int (xs ((i + 1))), .int (xs ((i + 2)))]) q119 (by decide +kernel) (by decide +kernel) I1.1 ⟨rfl, aI _, aI _, trivial⟩)) (chkR (a := 77) I1.1.1 rfl rfl rfl rfl (by show 0 ≤ 8; decide)) (fun h2 r2 => ?_)
  rintro ⟨I2, x2, f2⟩
  rw [f2]
  show Ends _ _ (527, lv, [.int x2], h2, 599897, 7298671) _
  refine E_pop rfl rfl ?_
  refine E_goto rfl ?_
  exact K _ I2
set_option maxRecDepth 20000 in
theorem bl_5 {L : Nat} {xs : Nat → Int32} (hL : L ≤ 3072) {h : pm_H} {i : Nat} (hi : i + 6 ≤ L) (lv : List (Nat × Value)) (I : IVQ h) (L0 : pm_get lv 0 = some (.retAddr 0)) (L1 : pm_get lv 1 = some (.ref 0)) (L2 : pm_get lv 2 = some (.ref 77)) (L3 : pm_get lv 3 = some (.int (nJ i))) (K : ∀ h', IVQ h' → Ends (pm_tr (lb_all L xs)) (pm_Rt pm_P 100) (2392, lv, [], h', 599897, 7298671) RQ1) : Ends (pm_tr (lb_all L xs)) (pm_Rt pm_P 100) (531, lv, [], h, 599897, 7298671) RQ1 := by
  refine E_al rfl L1 ?_
  refine E_alr rfl L0 ?_
  refine E_il rfl L3 ?_
  refine E_ci 1 rfl ci1 ?_
  refine E_bin rfl (nJ_add _ _) ?_
  refine E_sld rfl (by first | decide | with_reducible assumption | omega) hL ?_
  refine E_call rfl (tQ_int (by decide +kernel) (by decide +kernel) I.2 (top_int (as := [.ref 0, .int (xs ((i + 1)))]) q138 (by decide +kernel) (by decide +kernel) I.1 ⟨rfl, aI _, trivial⟩)) (chkR (a := 0) I.1.1 rfl rfl rfl rfl (by show 0 ≤ 8; decide)) (fun h1 r1 => ?_)
  rintro ⟨I1, x1, f1⟩
  rw [f1]
  show Ends _ _ (540, lv, [.int x1], h1, 599897, 7298671) _
  refine E_pop rfl rfl ?_
  refine E_al rfl L2 ?_
  refine E_alr rfl L0 ?_
  refine E_il rfl L3 ?_
  refine E_ci 1 rfl ci1 ?_
  refine E_bin rfl (nJ_add _ _) ?_
  refine E_sld rfl (by first | decide | with_reducible assumption | omega) hL ?_
  refine E_call rfl (tQ_int (by decide +kernel) (by decide +kernel) I1.2 (top_int (as := [.ref 77, .int (xs ((i + 1)))]) q151 (by decide +kernel) (by decide +kernel) I1.1 ⟨rfl, aI _, trivial⟩)) (chkR (a := 77) I1.1.1 rfl rfl rfl rfl (by show 0 ≤ 8; decide)) (fun h2 r2 => ?_)
  rintro ⟨I2, x2, f2⟩
  rw [f2]
  show Ends _ _ (550, lv, [.int x2], h2, 599897, 7298671) _
  refine E_pop rfl rfl ?_
  refine E_goto rfl ?_
  exact K _ I2
set_option maxRecDepth 20000 in
theorem bl_6 {L : Nat} {xs : Nat → Int32} (hL : L ≤ 3072) {h : pm_H} {i : Nat} (hi : i + 6 ≤ L) (lv : List (Nat × Value)) (I : IVQ h) (L0 : pm_get lv 0 = some (.retAddr 0)) (L1 : pm_get lv 1 = some (.ref 0)) (L2 : pm_get lv 2 = some (.ref 77)) (L3 : pm_get lv 3 = some (.int (nJ i))) (K : ∀ h', IVQ h' → Ends (pm_tr (lb_all L xs)) (pm_Rt pm_P 100) (2392, lv, [], h', 599897, 7298671) RQ1) : Ends (pm_tr (lb_all L xs)) (pm_Rt pm_P 100) (554, lv, [], h, 599897, 7298671) RQ1 := by
  refine E_al rfl L1 ?_
  refine E_alr rfl L0 ?_
  refine E_il rfl L3 ?_
  refine E_ci 1 rfl ci1 ?_
  refine E_bin rfl (nJ_add _ _) ?_
  refine E_sld rfl (by first | decide | with_reducible assumption | omega) hL ?_
  refine E_call rfl (tQ_int (by decide +kernel) (by decide +kernel) I.2 (top_int (as := [.ref 0, .int (xs ((i + 1)))]) q154 (by decide +kernel) (by decide +kernel) I.1 ⟨rfl, aI _, trivial⟩)) (chkR (a := 0) I.1.1 rfl rfl rfl rfl (by show 0 ≤ 8; decide)) (fun h1 r1 => ?_)
  rintro ⟨I1, x1, f1⟩
  rw [f1]
  show Ends _ _ (563, lv, [.int x1], h1, 599897, 7298671) _
  refine E_pop rfl rfl ?_
  refine E_al rfl L2 ?_
  refine E_alr rfl L0 ?_
  refine E_il rfl L3 ?_
  refine E_ci 1 rfl ci1 ?_
  refine E_bin rfl (nJ_add _ _) ?_
  refine E_sld rfl (by first | decide | with_reducible assumption | omega) hL ?_
  refine E_call rfl (tQ_int (by decide +kernel) (by decide +kernel) I1.2 (top_int (as := [.ref 77, .int (xs ((i + 1)))]) q157 (by decide +kernel) (by decide +kernel) I1.1 ⟨rfl, aI _, trivial⟩)) (chkR (a := 77) I1.1.1 rfl rfl rfl rfl (by show 0 ≤ 8; decide)) (fun h2 r2 => ?_)
  rintro ⟨I2, x2, f2⟩
  rw [f2]
  show Ends _ _ (573, lv, [.int x2], h2, 599897, 7298671) _
  refine E_pop rfl rfl ?_
  refine E_goto rfl ?_
  exact K _ I2
set_option maxRecDepth 20000 in
theorem bl_7 {L : Nat} {xs : Nat → Int32} (hL : L ≤ 3072) {h : pm_H} {i : Nat} (hi : i + 6 ≤ L) (lv : List (Nat × Value)) (I : IVQ h) (L0 : pm_get lv 0 = some (.retAddr 0)) (L1 : pm_get lv 1 = some (.ref 0)) (L2 : pm_get lv 2 = some (.ref 77)) (L3 : pm_get lv 3 = some (.int (nJ i))) (K : ∀ h', IVQ h' → Ends (pm_tr (lb_all L xs)) (pm_Rt pm_P 100) (2392, lv, [], h', 599897, 7298671) RQ1) : Ends (pm_tr (lb_all L xs)) (pm_Rt pm_P 100) (577, lv, [], h, 599897, 7298671) RQ1 := by
  refine E_al rfl L1 ?_
  refine E_call rfl (tQ_int (by decide +kernel) (by decide +kernel) I.2 (top_int (as := [.ref 0]) q159 (by decide +kernel) (by decide +kernel) I.1 ⟨rfl, trivial⟩)) (chkR (a := 0) I.1.1 rfl rfl rfl rfl (by show 0 ≤ 8; decide)) (fun h1 r1 => ?_)
  rintro ⟨I1, x1, f1⟩
  rw [f1]
  show Ends _ _ (581, lv, [.int x1], h1, 599897, 7298671) _
  refine E_pop rfl rfl ?_
  refine E_al rfl L2 ?_
  refine E_call rfl (tQ_int (by decide +kernel) (by decide +kernel) I1.2 (top_int (as := [.ref 77]) q161 (by decide +kernel) (by decide +kernel) I1.1 ⟨rfl, trivial⟩)) (chkR (a := 77) I1.1.1 rfl rfl rfl rfl (by show 0 ≤ 8; decide)) (fun h2 r2 => ?_)
  rintro ⟨I2, x2, f2⟩
  rw [f2]
  show Ends _ _ (586, lv, [.int x2], h2, 599897, 7298671) _
  refine E_pop rfl rfl ?_
  refine E_goto rfl ?_
  exact K _ I2
set_option maxRecDepth 20000 in
theorem bl_8 {L : Nat} {xs : Nat → Int32} (hL : L ≤ 3072) {h : pm_H} {i : Nat} (hi : i + 6 ≤ L) (lv : List (Nat × Value)) (I : IVQ h) (L0 : pm_get lv 0 = some (.retAddr 0)) (L1 : pm_get lv 1 = some (.ref 0)) (L2 : pm_get lv 2 = some (.ref 77)) (L3 : pm_get lv 3 = some (.int (nJ i))) (K : ∀ h', IVQ h' → Ends (pm_tr (lb_all L xs)) (pm_Rt pm_P 100) (2392, lv, [], h', 599897, 7298671) RQ1) : Ends (pm_tr (lb_all L xs)) (pm_Rt pm_P 100) (590, lv, [], h, 599897, 7298671) RQ1 := by
  refine E_al rfl L1 ?_
  refine E_call rfl (tQ_int (by decide +kernel) (by decide +kernel) I.2 (top_int (as := [.ref 0]) q162 (by decide +kernel) (by decide +kernel) I.1 ⟨rfl, trivial⟩)) (chkR (a := 0) I.1.1 rfl rfl rfl rfl (by show 0 ≤ 8; decide)) (fun h1 r1 => ?_)
  rintro ⟨I1, x1, f1⟩
  rw [f1]
  show Ends _ _ (594, lv, [.int x1], h1, 599897, 7298671) _
  refine E_pop rfl rfl ?_
  refine E_al rfl L2 ?_
  refine E_call rfl (tQ_int (by decide +kernel) (by decide +kernel) I1.2 (top_int (as := [.ref 77]) q163 (by decide +kernel) (by decide +kernel) I1.1 ⟨rfl, trivial⟩)) (chkR (a := 77) I1.1.1 rfl rfl rfl rfl (by show 0 ≤ 8; decide)) (fun h2 r2 => ?_)
  rintro ⟨I2, x2, f2⟩
  rw [f2]
  show Ends _ _ (599, lv, [.int x2], h2, 599897, 7298671) _
  refine E_pop rfl rfl ?_
  refine E_goto rfl ?_
  exact K _ I2
set_option maxRecDepth 20000 in
theorem bl_9 {L : Nat} {xs : Nat → Int32} (hL : L ≤ 3072) {h : pm_H} {i : Nat} (hi : i + 6 ≤ L) (lv : List (Nat × Value)) (I : IVQ h) (L0 : pm_get lv 0 = some (.retAddr 0)) (L1 : pm_get lv 1 = some (.ref 0)) (L2 : pm_get lv 2 = some (.ref 77)) (L3 : pm_get lv 3 = some (.int (nJ i))) (K : ∀ h', IVQ h' → Ends (pm_tr (lb_all L xs)) (pm_Rt pm_P 100) (2392, lv, [], h', 599897, 7298671) RQ1) : Ends (pm_tr (lb_all L xs)) (pm_Rt pm_P 100) (603, lv, [], h, 599897, 7298671) RQ1 := by
  refine E_al rfl L1 ?_
  refine E_alr rfl L0 ?_
  refine E_il rfl L3 ?_
  refine E_ci 1 rfl ci1 ?_
  refine E_bin rfl (nJ_add _ _) ?_
  refine E_sld rfl (by first | decide | with_reducible assumption | omega) hL ?_
  refine E_call rfl (tQ_int (by decide +kernel) (by decide +kernel) I.2 (top_int (as := [.ref 0, .int (xs ((i + 1)))]) q165 (by decide +kernel) (by decide +kernel) I.1 ⟨rfl, aI _, trivial⟩)) (chkR (a := 0) I.1.1 rfl rfl rfl rfl (by show 0 ≤ 8; decide)) (fun h1 r1 => ?_)
  rintro ⟨I1, x1, f1⟩
  rw [f1]
  show Ends _ _ (612, lv, [.int x1], h1, 599897, 7298671) _
  refine E_pop rfl rfl ?_
  refine E_al rfl L2 ?_
  refine E_alr rfl L0 ?_
  refine E_il rfl L3 ?_
  refine E_ci 1 rfl ci1 ?_
  refine E_bin rfl (nJ_add _ _) ?_
  refine E_sld rfl (by first | decide | with_reducible assumption | omega) hL ?_
  refine E_call rfl (tQ_int (by decide +kernel) (by decide +kernel) I1.2 (top_int (as := [.ref 77, .int (xs ((i + 1)))]) q168 (by decide +kernel) (by decide +kernel) I1.1 ⟨rfl, aI _, trivial⟩)) (chkR (a := 77) I1.1.1 rfl rfl rfl rfl (by show 0 ≤ 8; decide)) (fun h2 r2 => ?_)
  rintro ⟨I2, x2, f2⟩
  rw [f2]
  show Ends _ _ (622, lv, [.int x2], h2, 599897, 7298671) _
  refine E_pop rfl rfl ?_
  refine E_goto rfl ?_
  exact K _ I2
set_option maxRecDepth 20000 in
theorem bl_10 {L : Nat} {xs : Nat → Int32} (hL : L ≤ 3072) {h : pm_H} {i : Nat} (hi : i + 6 ≤ L) (lv : List (Nat × Value)) (I : IVQ h) (L0 : pm_get lv 0 = some (.retAddr 0)) (L1 : pm_get lv 1 = some (.ref 0)) (L2 : pm_get lv 2 = some (.ref 77)) (L3 : pm_get lv 3 = some (.int (nJ i))) (K : ∀ h', IVQ h' → Ends (pm_tr (lb_all L xs)) (pm_Rt pm_P 100) (2392, lv, [], h', 599897, 7298671) RQ1) : Ends (pm_tr (lb_all L xs)) (pm_Rt pm_P 100) (626, lv, [], h, 599897, 7298671) RQ1 := by
  refine E_al rfl L1 ?_
  refine E_call rfl (tQ_int (by decide +kernel) (by decide +kernel) I.2 (top_int (as := [.ref 0]) q169 (by decide +kernel) (by decide +kernel) I.1 ⟨rfl, trivial⟩)) (chkR (a := 0) I.1.1 rfl rfl rfl rfl (by show 0 ≤ 8; decide)) (fun h1 r1 => ?_)
  rintro ⟨I1, x1, f1⟩
  rw [f1]
  show Ends _ _ (630, lv, [.int x1], h1, 599897, 7298671) _
  refine E_pop rfl rfl ?_
  refine E_al rfl L2 ?_
  refine E_call rfl (tQ_int (by decide +kernel) (by decide +kernel) I1.2 (top_int (as := [.ref 77]) q170 (by decide +kernel) (by decide +kernel) I1.1 ⟨rfl, trivial⟩)) (chkR (a := 77) I1.1.1 rfl rfl rfl rfl (by show 0 ≤ 8; decide)) (fun h2 r2 => ?_)
  rintro ⟨I2, x2, f2⟩
  rw [f2]
  show Ends _ _ (635, lv, [.int x2], h2, 599897, 7298671) _
  refine E_pop rfl rfl ?_
  refine E_goto rfl ?_
  exact K _ I2
set_option maxRecDepth 20000 in
theorem bl_11 {L : Nat} {xs : Nat → Int32} (hL : L ≤ 3072) {h : pm_H} {i : Nat} (hi : i + 6 ≤ L) (lv : List (Nat × Value)) (I : IVQ h) (L0 : pm_get lv 0 = some (.retAddr 0)) (L1 : pm_get lv 1 = some (.ref 0)) (L2 : pm_get lv 2 = some (.ref 77)) (L3 : pm_get lv 3 = some (.int (nJ i))) (K : ∀ h', IVQ h' → Ends (pm_tr (lb_all L xs)) (pm_Rt pm_P 100) (2392, lv, [], h', 599897, 7298671) RQ1) : Ends (pm_tr (lb_all L xs)) (pm_Rt pm_P 100) (639, lv, [], h, 599897, 7298671) RQ1 := by
  refine E_al rfl L1 ?_
  refine E_call rfl (tQ_int (by decide +kernel) (by decide +kernel) I.2 (top_int (as := [.ref 0]) q171 (by decide +kernel) (by decide +kernel) I.1 ⟨rfl, trivial⟩)) (chkR (a := 0) I.1.1 rfl rfl rfl rfl (by show 0 ≤ 8; decide)) (fun h1 r1 => ?_)
  rintro ⟨I1, x1, f1⟩
  rw [f1]
  show Ends _ _ (643, lv, [.int x1], h1, 599897, 7298671) _
  refine E_pop rfl rfl ?_
  refine E_al rfl L2 ?_
  refine E_call rfl (tQ_int (by decide +kernel) (by decide +kernel) I1.2 (top_int (as := [.ref 77]) q173 (by decide +kernel) (by decide +kernel) I1.1 ⟨rfl, trivial⟩)) (chkR (a := 77) I1.1.1 rfl rfl rfl rfl (by show 0 ≤ 8; decide)) (fun h2 r2 => ?_)
  rintro ⟨I2, x2, f2⟩
  rw [f2]
  show Ends _ _ (648, lv, [.int x2], h2, 599897, 7298671) _
  refine E_pop rfl rfl ?_
  refine E_goto rfl ?_
  exact K _ I2
set_option maxRecDepth 20000 in
theorem bl_12 {L : Nat} {xs : Nat → Int32} (hL : L ≤ 3072) {h : pm_H} {i : Nat} (hi : i + 6 ≤ L) (lv : List (Nat × Value)) (I : IVQ h) (L0 : pm_get lv 0 = some (.retAddr 0)) (L1 : pm_get lv 1 = some (.ref 0)) (L2 : pm_get lv 2 = some (.ref 77)) (L3 : pm_get lv 3 = some (.int (nJ i))) (K : ∀ h', IVQ h' → Ends (pm_tr (lb_all L xs)) (pm_Rt pm_P 100) (2392, lv, [], h', 599897, 7298671) RQ1) : Ends (pm_tr (lb_all L xs)) (pm_Rt pm_P 100) (652, lv, [], h, 599897, 7298671) RQ1 := by
  refine E_al rfl L1 ?_
  refine E_call rfl (tQ_int (by decide +kernel) (by decide +kernel) I.2 (top_int (as := [.ref 0]) q174 (by decide +kernel) (by decide +kernel) I.1 ⟨rfl, trivial⟩)) (chkR (a := 0) I.1.1 rfl rfl rfl rfl (by show 0 ≤ 8; decide)) (fun h1 r1 => ?_)
  rintro ⟨I1, x1, f1⟩
  rw [f1]
  show Ends _ _ (656, lv, [.int x1], h1, 599897, 7298671) _
  refine E_pop rfl rfl ?_
  refine E_al rfl L2 ?_
  refine E_call rfl (tQ_int (by decide +kernel) (by decide +kernel) I1.2 (top_int (as := [.ref 77]) q175 (by decide +kernel) (by decide +kernel) I1.1 ⟨rfl, trivial⟩)) (chkR (a := 77) I1.1.1 rfl rfl rfl rfl (by show 0 ≤ 8; decide)) (fun h2 r2 => ?_)
  rintro ⟨I2, x2, f2⟩
  rw [f2]
  show Ends _ _ (661, lv, [.int x2], h2, 599897, 7298671) _
  refine E_pop rfl rfl ?_
  refine E_goto rfl ?_
  exact K _ I2
set_option maxRecDepth 20000 in
theorem bl_13 {L : Nat} {xs : Nat → Int32} (hL : L ≤ 3072) {h : pm_H} {i : Nat} (hi : i + 6 ≤ L) (lv : List (Nat × Value)) (I : IVQ h) (L0 : pm_get lv 0 = some (.retAddr 0)) (L1 : pm_get lv 1 = some (.ref 0)) (L2 : pm_get lv 2 = some (.ref 77)) (L3 : pm_get lv 3 = some (.int (nJ i))) (K : ∀ h', IVQ h' → Ends (pm_tr (lb_all L xs)) (pm_Rt pm_P 100) (2392, lv, [], h', 599897, 7298671) RQ1) : Ends (pm_tr (lb_all L xs)) (pm_Rt pm_P 100) (665, lv, [], h, 599897, 7298671) RQ1 := by
  refine E_al rfl L1 ?_
  refine E_call rfl (tQ_int (by decide +kernel) (by decide +kernel) I.2 (top_int (as := [.ref 0]) q177 (by decide +kernel) (by decide +kernel) I.1 ⟨rfl, trivial⟩)) (chkR (a := 0) I.1.1 rfl rfl rfl rfl (by show 0 ≤ 8; decide)) (fun h1 r1 => ?_)
  rintro ⟨I1, x1, f1⟩
  rw [f1]
  show Ends _ _ (669, lv, [.int x1], h1, 599897, 7298671) _
  refine E_pop rfl rfl ?_
  refine E_al rfl L2 ?_
  refine E_call rfl (tQ_int (by decide +kernel) (by decide +kernel) I1.2 (top_int (as := [.ref 77]) q178 (by decide +kernel) (by decide +kernel) I1.1 ⟨rfl, trivial⟩)) (chkR (a := 77) I1.1.1 rfl rfl rfl rfl (by show 0 ≤ 8; decide)) (fun h2 r2 => ?_)
  rintro ⟨I2, x2, f2⟩
  rw [f2]
  show Ends _ _ (674, lv, [.int x2], h2, 599897, 7298671) _
  refine E_pop rfl rfl ?_
  refine E_goto rfl ?_
  exact K _ I2
set_option maxRecDepth 20000 in
theorem bl_14 {L : Nat} {xs : Nat → Int32} (hL : L ≤ 3072) {h : pm_H} {i : Nat} (hi : i + 6 ≤ L) (lv : List (Nat × Value)) (I : IVQ h) (L0 : pm_get lv 0 = some (.retAddr 0)) (L1 : pm_get lv 1 = some (.ref 0)) (L2 : pm_get lv 2 = some (.ref 77)) (L3 : pm_get lv 3 = some (.int (nJ i))) (K : ∀ h', IVQ h' → Ends (pm_tr (lb_all L xs)) (pm_Rt pm_P 100) (2392, lv, [], h', 599897, 7298671) RQ1) : Ends (pm_tr (lb_all L xs)) (pm_Rt pm_P 100) (678, lv, [], h, 599897, 7298671) RQ1 := by
  refine E_al rfl L1 ?_
  refine E_alr rfl L0 ?_
  refine E_il rfl L3 ?_
  refine E_ci 1 rfl ci1 ?_
  refine E_bin rfl (nJ_add _ _) ?_
  refine E_sld rfl (by first | decide | with_reducible assumption | omega) hL ?_
  refine E_call rfl (tQ_int (by decide +kernel) (by decide +kernel) I.2 (top_int (as := [.ref 0, .int (xs ((i + 1)))]) q180 (by decide +kernel) (by decide +kernel) I.1 ⟨rfl, aI _, trivial⟩)) (chkR (a := 0) I.1.1 rfl rfl rfl rfl (by show 0 ≤ 8; decide)) (fun h1 r1 => ?_)
  rintro ⟨I1, x1, f1⟩
  rw [f1]
  show Ends _ _ (687, lv, [.int x1], h1, 599897, 7298671) _
  refine E_pop rfl rfl ?_
  refine E_al rfl L2 ?_
  refine E_alr rfl L0 ?_
  refine E_il rfl L3 ?_
  refine E_ci 1 rfl ci1 ?_
  refine E_bin rfl (nJ_add _ _) ?_
  refine E_sld rfl (by first | decide | with_reducible assumption | omega) hL ?_
  refine E_call rfl (tQ_int (by decide +kernel) (by decide +kernel) I1.2 (top_int (as := [.ref 77, .int (xs ((i + 1)))]) q245 (by decide +kernel) (by decide +kernel) I1.1 ⟨rfl, aI _, trivial⟩)) (chkR (a := 77) I1.1.1 rfl rfl rfl rfl (by show 0 ≤ 8; decide)) (fun h2 r2 => ?_)
  rintro ⟨I2, x2, f2⟩
  rw [f2]
  show Ends _ _ (697, lv, [.int x2], h2, 599897, 7298671) _
  refine E_pop rfl rfl ?_
  refine E_goto rfl ?_
  exact K _ I2
set_option maxRecDepth 20000 in
theorem bl_15 {L : Nat} {xs : Nat → Int32} (hL : L ≤ 3072) {h : pm_H} {i : Nat} (hi : i + 6 ≤ L) (lv : List (Nat × Value)) (I : IVQ h) (L0 : pm_get lv 0 = some (.retAddr 0)) (L1 : pm_get lv 1 = some (.ref 0)) (L2 : pm_get lv 2 = some (.ref 77)) (L3 : pm_get lv 3 = some (.int (nJ i))) (K : ∀ h', IVQ h' → Ends (pm_tr (lb_all L xs)) (pm_Rt pm_P 100) (2392, lv, [], h', 599897, 7298671) RQ1) : Ends (pm_tr (lb_all L xs)) (pm_Rt pm_P 100) (701, lv, [], h, 599897, 7298671) RQ1 := by
  refine E_al rfl L1 ?_
  refine E_call rfl (tQ_int (by decide +kernel) (by decide +kernel) I.2 (top_int (as := [.ref 0]) q247 (by decide +kernel) (by decide +kernel) I.1 ⟨rfl, trivial⟩)) (chkR (a := 0) I.1.1 rfl rfl rfl rfl (by show 0 ≤ 8; decide)) (fun h1 r1 => ?_)
  rintro ⟨I1, x1, f1⟩
  rw [f1]
  show Ends _ _ (705, lv, [.int x1], h1, 599897, 7298671) _
  refine E_pop rfl rfl ?_
  refine E_al rfl L2 ?_
  refine E_call rfl (tQ_int (by decide +kernel) (by decide +kernel) I1.2 (top_int (as := [.ref 77]) q250 (by decide +kernel) (by decide +kernel) I1.1 ⟨rfl, trivial⟩)) (chkR (a := 77) I1.1.1 rfl rfl rfl rfl (by show 0 ≤ 8; decide)) (fun h2 r2 => ?_)
  rintro ⟨I2, x2, f2⟩
  rw [f2]
  show Ends _ _ (710, lv, [.int x2], h2, 599897, 7298671) _
  refine E_pop rfl rfl ?_
  refine E_goto rfl ?_
  exact K _ I2
set_option maxRecDepth 20000 in
theorem bl_16 {L : Nat} {xs : Nat → Int32} (hL : L ≤ 3072) {h : pm_H} {i : Nat} (hi : i + 6 ≤ L) (lv : List (Nat × Value)) (I : IVQ h) (L0 : pm_get lv 0 = some (.retAddr 0)) (L1 : pm_get lv 1 = some (.ref 0)) (L2 : pm_get lv 2 = some (.ref 77)) (L3 : pm_get lv 3 = some (.int (nJ i))) (K : ∀ h', IVQ h' → Ends (pm_tr (lb_all L xs)) (pm_Rt pm_P 100) (2392, lv, [], h', 599897, 7298671) RQ1) : Ends (pm_tr (lb_all L xs)) (pm_Rt pm_P 100) (714, lv, [], h, 599897, 7298671) RQ1 := by
  refine E_al rfl L1 ?_
  refine E_call rfl (tQ_int (by decide +kernel) (by decide +kernel) I.2 (top_int (as := [.ref 0]) q252 (by decide +kernel) (by decide +kernel) I.1 ⟨rfl, trivial⟩)) (chkR (a := 0) I.1.1 rfl rfl rfl rfl (by show 0 ≤ 8; decide)) (fun h1 r1 => ?_)
  rintro ⟨I1, x1, f1⟩
  rw [f1]
  show Ends _ _ (718, lv, [.int x1], h1, 599897, 7298671) _
  refine E_pop rfl rfl ?_
  refine E_al rfl L2 ?_
  refine E_call rfl (tQ_int (by decide +kernel) (by decide +kernel) I1.2 (top_int (as := [.ref 77]) q254 (by decide +kernel) (by decide +kernel) I1.1 ⟨rfl, trivial⟩)) (chkR (a := 77) I1.1.1 rfl rfl rfl rfl (by show 0 ≤ 8; decide)) (fun h2 r2 => ?_)
  rintro ⟨I2, x2, f2⟩
  rw [f2]
  show Ends _ _ (723, lv, [.int x2], h2, 599897, 7298671) _
  refine E_pop rfl rfl ?_
  refine E_goto rfl ?_
  exact K _ I2
set_option maxRecDepth 20000 in
theorem bl_17 {L : Nat} {xs : Nat → Int32} (hL : L ≤ 3072) {h : pm_H} {i : Nat} (hi : i + 6 ≤ L) (lv : List (Nat × Value)) (I : IVQ h) (L0 : pm_get lv 0 = some (.retAddr 0)) (L1 : pm_get lv 1 = some (.ref 0)) (L2 : pm_get lv 2 = some (.ref 77)) (L3 : pm_get lv 3 = some (.int (nJ i))) (K : ∀ h', IVQ h' → Ends (pm_tr (lb_all L xs)) (pm_Rt pm_P 100) (2392, lv, [], h', 599897, 7298671) RQ1) : Ends (pm_tr (lb_all L xs)) (pm_Rt pm_P 100) (727, lv, [], h, 599897, 7298671) RQ1 := by
  refine E_al rfl L1 ?_
  refine E_call rfl (tQ_int (by decide +kernel) (by decide +kernel) I.2 (top_int (as := [.ref 0]) q257 (by decide +kernel) (by decide +kernel) I.1 ⟨rfl, trivial⟩)) (chkR (a := 0) I.1.1 rfl rfl rfl rfl (by show 0 ≤ 8; decide)) (fun h1 r1 => ?_)
  rintro ⟨I1, x1, f1⟩
  rw [f1]
  show Ends _ _ (731, lv, [.int x1], h1, 599897, 7298671) _
  refine E_pop rfl rfl ?_
  refine E_al rfl L2 ?_
  refine E_call rfl (tQ_int (by decide +kernel) (by decide +kernel) I1.2 (top_int (as := [.ref 77]) q258 (by decide +kernel) (by decide +kernel) I1.1 ⟨rfl, trivial⟩)) (chkR (a := 77) I1.1.1 rfl rfl rfl rfl (by show 0 ≤ 8; decide)) (fun h2 r2 => ?_)
  rintro ⟨I2, x2, f2⟩
  rw [f2]
  show Ends _ _ (736, lv, [.int x2], h2, 599897, 7298671) _
  refine E_pop rfl rfl ?_
  refine E_goto rfl ?_
  exact K _ I2
set_option maxRecDepth 20000 in
theorem bl_18 {L : Nat} {xs : Nat → Int32} (hL : L ≤ 3072) {h : pm_H} {i : Nat} (hi : i + 6 ≤ L) (lv : List (Nat × Value)) (I : IVQ h) (L0 : pm_get lv 0 = some (.retAddr 0)) (L1 : pm_get lv 1 = some (.ref 0)) (L2 : pm_get lv 2 = some (.ref 77)) (L3 : pm_get lv 3 = some (.int (nJ i))) (K : ∀ h', IVQ h' → Ends (pm_tr (lb_all L xs)) (pm_Rt pm_P 100) (2392, lv, [], h', 599897, 7298671) RQ1) : Ends (pm_tr (lb_all L xs)) (pm_Rt pm_P 100) (740, lv, [], h, 599897, 7298671) RQ1 := by
  refine E_al rfl L1 ?_
  refine E_call rfl (tQ_int (by decide +kernel) (by decide +kernel) I.2 (top_int (as := [.ref 0]) q264 (by decide +kernel) (by decide +kernel) I.1 ⟨rfl, trivial⟩)) (chkR (a := 0) I.1.1 rfl rfl rfl rfl (by show 0 ≤ 8; decide)) (fun h1 r1 => ?_)
  rintro ⟨I1, x1, f1⟩
  rw [f1]
  show Ends _ _ (744, lv, [.int x1], h1, 599897, 7298671) _
  refine E_pop rfl rfl ?_
  refine E_al rfl L2 ?_
  refine E_call rfl (tQ_int (by decide +kernel) (by decide +kernel) I1.2 (top_int (as := [.ref 77]) q267 (by decide +kernel) (by decide +kernel) I1.1 ⟨rfl, trivial⟩)) (chkR (a := 77) I1.1.1 rfl rfl rfl rfl (by show 0 ≤ 8; decide)) (fun h2 r2 => ?_)
  rintro ⟨I2, x2, f2⟩
  rw [f2]
  show Ends _ _ (749, lv, [.int x2], h2, 599897, 7298671) _
  refine E_pop rfl rfl ?_
  refine E_goto rfl ?_
  exact K _ I2
set_option maxRecDepth 20000 in
theorem bl_19 {L : Nat} {xs : Nat → Int32} (hL : L ≤ 3072) {h : pm_H} {i : Nat} (hi : i + 6 ≤ L) (lv : List (Nat × Value)) (I : IVQ h) (L0 : pm_get lv 0 = some (.retAddr 0)) (L1 : pm_get lv 1 = some (.ref 0)) (L2 : pm_get lv 2 = some (.ref 77)) (L3 : pm_get lv 3 = some (.int (nJ i))) (K : ∀ h', IVQ h' → Ends (pm_tr (lb_all L xs)) (pm_Rt pm_P 100) (2392, lv, [], h', 599897, 7298671) RQ1) : Ends (pm_tr (lb_all L xs)) (pm_Rt pm_P 100) (753, lv, [], h, 599897, 7298671) RQ1 := by
  refine E_al rfl L1 ?_
  refine E_alr rfl L0 ?_
  refine E_il rfl L3 ?_
  refine E_ci 1 rfl ci1 ?_
  refine E_bin rfl (nJ_add _ _) ?_
  refine E_sld rfl (by first | decide | with_reducible assumption | omega) hL ?_
  refine E_call rfl (tQ_int (by decide +kernel) (by decide +kernel) I.2 (top_int (as := [.ref 0, .int (xs ((i + 1)))]) q276 (by decide +kernel) (by decide +kernel) I.1 ⟨rfl, aI _, trivial⟩)) (chkR (a := 0) I.1.1 rfl rfl rfl rfl (by show 0 ≤ 8; decide)) (fun h1 r1 => ?_)
  rintro ⟨I1, x1, f1⟩
  rw [f1]
  show Ends _ _ (762, lv, [.int x1], h1, 599897, 7298671) _
  refine E_pop rfl rfl ?_
  refine E_al rfl L2 ?_
  refine E_alr rfl L0 ?_
  refine E_il rfl L3 ?_
  refine E_ci 1 rfl ci1 ?_
  refine E_bin rfl (nJ_add _ _) ?_
  refine E_sld rfl (by first | decide | with_reducible assumption | omega) hL ?_
  refine E_call rfl (tQ_int (by decide +kernel) (by decide +kernel) I1.2 (top_TQ (d := 30) rfl I1.1 (tp_ring (d := 0) I1.1.1 (I1.1.2.2.1 0 (by first | decide | with_reducible assumption | omega))))) (chkR (a := 77) I1.1.1 rfl rfl rfl rfl (by show 0 ≤ 8; decide)) (fun h2 r2 => ?_)
  rintro ⟨I2, x2, f2⟩
  rw [f2]
  show Ends _ _ (772, lv, [.int x2], h2, 599897, 7298671) _
  refine E_pop rfl rfl ?_
  refine E_goto rfl ?_
  exact K _ I2
set_option maxRecDepth 20000 in
theorem bl_20 {L : Nat} {xs : Nat → Int32} (hL : L ≤ 3072) {h : pm_H} {i : Nat} (hi : i + 6 ≤ L) (lv : List (Nat × Value)) (I : IVQ h) (L0 : pm_get lv 0 = some (.retAddr 0)) (L1 : pm_get lv 1 = some (.ref 0)) (L2 : pm_get lv 2 = some (.ref 77)) (L3 : pm_get lv 3 = some (.int (nJ i))) (K : ∀ h', IVQ h' → Ends (pm_tr (lb_all L xs)) (pm_Rt pm_P 100) (2392, lv, [], h', 599897, 7298671) RQ1) : Ends (pm_tr (lb_all L xs)) (pm_Rt pm_P 100) (776, lv, [], h, 599897, 7298671) RQ1 := by
  refine E_al rfl L1 ?_
  refine E_call rfl (tQ_int (by decide +kernel) (by decide +kernel) I.2 (top_int (as := [.ref 0]) q278 (by decide +kernel) (by decide +kernel) I.1 ⟨rfl, trivial⟩)) (chkR (a := 0) I.1.1 rfl rfl rfl rfl (by show 0 ≤ 8; decide)) (fun h1 r1 => ?_)
  rintro ⟨I1, x1, f1⟩
  rw [f1]
  show Ends _ _ (780, lv, [.int x1], h1, 599897, 7298671) _
  refine E_pop rfl rfl ?_
  refine E_al rfl L2 ?_
  refine E_call rfl (tQ_int (by decide +kernel) (by decide +kernel) I1.2 (top_TQ (d := 30) rfl I1.1 (tp_hole (d := 0) I1.1.1 (I1.1.2.2.1 0 (by first | decide | with_reducible assumption | omega))))) (chkR (a := 77) I1.1.1 rfl rfl rfl rfl (by show 0 ≤ 8; decide)) (fun h2 r2 => ?_)
  rintro ⟨I2, x2, f2⟩
  rw [f2]
  show Ends _ _ (785, lv, [.int x2], h2, 599897, 7298671) _
  refine E_pop rfl rfl ?_
  refine E_goto rfl ?_
  exact K _ I2
set_option maxRecDepth 20000 in
theorem bl_21 {L : Nat} {xs : Nat → Int32} (hL : L ≤ 3072) {h : pm_H} {i : Nat} (hi : i + 6 ≤ L) (lv : List (Nat × Value)) (I : IVQ h) (L0 : pm_get lv 0 = some (.retAddr 0)) (L1 : pm_get lv 1 = some (.ref 0)) (L2 : pm_get lv 2 = some (.ref 77)) (L3 : pm_get lv 3 = some (.int (nJ i))) (K : ∀ h', IVQ h' → Ends (pm_tr (lb_all L xs)) (pm_Rt pm_P 100) (2392, lv, [], h', 599897, 7298671) RQ1) : Ends (pm_tr (lb_all L xs)) (pm_Rt pm_P 100) (789, lv, [], h, 599897, 7298671) RQ1 := by
  refine E_al rfl L1 ?_
  refine E_call rfl (tQ_int (by decide +kernel) (by decide +kernel) I.2 (top_int (as := [.ref 0]) q279 (by decide +kernel) (by decide +kernel) I.1 ⟨rfl, trivial⟩)) (chkR (a := 0) I.1.1 rfl rfl rfl rfl (by show 0 ≤ 8; decide)) (fun h1 r1 => ?_)
  rintro ⟨I1, x1, f1⟩
  rw [f1]
  show Ends _ _ (793, lv, [.int x1], h1, 599897, 7298671) _
  refine E_pop rfl rfl ?_
  refine E_al rfl L2 ?_
  refine E_call rfl (tQ_int (by decide +kernel) (by decide +kernel) I1.2 (top_TQ (d := 30) rfl I1.1 (tp_shifts (d := 0) I1.1.1 (I1.1.2.2.1 0 (by first | decide | with_reducible assumption | omega))))) (chkR (a := 77) I1.1.1 rfl rfl rfl rfl (by show 0 ≤ 8; decide)) (fun h2 r2 => ?_)
  rintro ⟨I2, x2, f2⟩
  rw [f2]
  show Ends _ _ (798, lv, [.int x2], h2, 599897, 7298671) _
  refine E_pop rfl rfl ?_
  refine E_goto rfl ?_
  exact K _ I2
set_option maxRecDepth 20000 in
theorem bl_22 {L : Nat} {xs : Nat → Int32} (hL : L ≤ 3072) {h : pm_H} {i : Nat} (hi : i + 6 ≤ L) (lv : List (Nat × Value)) (I : IVQ h) (L0 : pm_get lv 0 = some (.retAddr 0)) (L1 : pm_get lv 1 = some (.ref 0)) (L2 : pm_get lv 2 = some (.ref 77)) (L3 : pm_get lv 3 = some (.int (nJ i))) (K : ∀ h', IVQ h' → Ends (pm_tr (lb_all L xs)) (pm_Rt pm_P 100) (2392, lv, [], h', 599897, 7298671) RQ1) : Ends (pm_tr (lb_all L xs)) (pm_Rt pm_P 100) (802, lv, [], h, 599897, 7298671) RQ1 := by
  refine E_al rfl L1 ?_
  refine E_alr rfl L0 ?_
  refine E_il rfl L3 ?_
  refine E_ci 1 rfl ci1 ?_
  refine E_bin rfl (nJ_add _ _) ?_
  refine E_sld rfl (by first | decide | with_reducible assumption | omega) hL ?_
  refine E_alr rfl L0 ?_
  refine E_il rfl L3 ?_
  refine E_ci 2 rfl ci2 ?_
  refine E_bin rfl (nJ_add _ _) ?_
  refine E_sld rfl (by first | decide | with_reducible assumption | omega) hL ?_
  refine E_call rfl (tQ_int (by decide +kernel) (by decide +kernel) I.2 (top_int (as := [.ref 0, .int (xs ((i + 1))), .int (xs ((i + 2)))]) q280 (by decide +kernel) (by decide +kernel) I.1 ⟨rfl, aI _, aI _, trivial⟩)) (chkR (a := 0) I.1.1 rfl rfl rfl rfl (by show 0 ≤ 8; decide)) (fun h1 r1 => ?_)
  rintro ⟨I1, x1, f1⟩
  rw [f1]
  show Ends _ _ (816, lv, [.int x1], h1, 599897, 7298671) _
  refine E_pop rfl rfl ?_
  refine E_al rfl L2 ?_
  refine E_alr rfl L0 ?_
  refine E_il rfl L3 ?_
  refine E_ci 1 rfl ci1 ?_
  refine E_bin rfl (nJ_add _ _) ?_
  refine E_sld rfl (by first | decide | with_reducible assumption | omega) hL ?_
  refine E_alr rfl L0 ?_
  refine E_il rfl L3 ?_
  refine E_ci 2 rfl ci2 ?_
  refine E_bin rfl (nJ_add _ _) ?_
  refine E_sld rfl (by first | decide | with_reducible assumption | omega) hL ?_
  refine E_call rfl (tQ_int (by decide +kernel) (by decide +kernel) I1.2 (top_int (as := [.ref 77, .int (xs ((i + 1))), .int (xs ((i + 2)))]) q283 (by decide +kernel) (by decide +kernel) I1.1 ⟨rfl, aI _, aI _, trivial⟩)) (chkR (a := 77) I1.1.1 rfl rfl rfl rfl (by show 0 ≤ 8; decide)) (fun h2 r2 => ?_)
  rintro ⟨I2, x2, f2⟩
  rw [f2]
  show Ends _ _ (831, lv, [.int x2], h2, 599897, 7298671) _
  refine E_pop rfl rfl ?_
  refine E_goto rfl ?_
  exact K _ I2
set_option maxRecDepth 20000 in
theorem bl_23 {L : Nat} {xs : Nat → Int32} (hL : L ≤ 3072) {h : pm_H} {i : Nat} (hi : i + 6 ≤ L) (lv : List (Nat × Value)) (I : IVQ h) (L0 : pm_get lv 0 = some (.retAddr 0)) (L1 : pm_get lv 1 = some (.ref 0)) (L2 : pm_get lv 2 = some (.ref 77)) (L3 : pm_get lv 3 = some (.int (nJ i))) (K : ∀ h', IVQ h' → Ends (pm_tr (lb_all L xs)) (pm_Rt pm_P 100) (2392, lv, [], h', 599897, 7298671) RQ1) : Ends (pm_tr (lb_all L xs)) (pm_Rt pm_P 100) (835, lv, [], h, 599897, 7298671) RQ1 := by
  refine E_al rfl L1 ?_
  refine E_alr rfl L0 ?_
  refine E_il rfl L3 ?_
  refine E_ci 1 rfl ci1 ?_
  refine E_bin rfl (nJ_add _ _) ?_
  refine E_sld rfl (by first | decide | with_reducible assumption | omega) hL ?_
  refine E_call rfl (tQ_int (by decide +kernel) (by decide +kernel) I.2 (top_int (as := [.ref 0, .int (xs ((i + 1)))]) q289 (by decide +kernel) (by decide +kernel) I.1 ⟨rfl, aI _, trivial⟩)) (chkR (a := 0) I.1.1 rfl rfl rfl rfl (by show 0 ≤ 8; decide)) (fun h1 r1 => ?_)
  rintro ⟨I1, x1, f1⟩
  rw [f1]
  show Ends _ _ (844, lv, [.int x1], h1, 599897, 7298671) _
  refine E_pop rfl rfl ?_
  refine E_al rfl L2 ?_
  refine E_alr rfl L0 ?_
  refine E_il rfl L3 ?_
  refine E_ci 1 rfl ci1 ?_
  refine E_bin rfl (nJ_add _ _) ?_
  refine E_sld rfl (by first | decide | with_reducible assumption | omega) hL ?_
  refine E_call rfl (tQ_int (by decide +kernel) (by decide +kernel) I1.2 (top_TQ (d := 30) rfl I1.1 (tp_parent (d := 0) I1.1.1 (I1.1.2.2.1 0 (by first | decide | with_reducible assumption | omega))))) (chkR (a := 77) I1.1.1 rfl rfl rfl rfl (by show 0 ≤ 8; decide)) (fun h2 r2 => ?_)
  rintro ⟨I2, x2, f2⟩
  rw [f2]
  show Ends _ _ (854, lv, [.int x2], h2, 599897, 7298671) _
  refine E_pop rfl rfl ?_
  refine E_goto rfl ?_
  exact K _ I2
set_option maxRecDepth 20000 in
theorem bl_24 {L : Nat} {xs : Nat → Int32} (hL : L ≤ 3072) {h : pm_H} {i : Nat} (hi : i + 6 ≤ L) (lv : List (Nat × Value)) (I : IVQ h) (L0 : pm_get lv 0 = some (.retAddr 0)) (L1 : pm_get lv 1 = some (.ref 0)) (L2 : pm_get lv 2 = some (.ref 77)) (L3 : pm_get lv 3 = some (.int (nJ i))) (K : ∀ h', IVQ h' → Ends (pm_tr (lb_all L xs)) (pm_Rt pm_P 100) (2392, lv, [], h', 599897, 7298671) RQ1) : Ends (pm_tr (lb_all L xs)) (pm_Rt pm_P 100) (858, lv, [], h, 599897, 7298671) RQ1 := by
  refine E_al rfl L1 ?_
  refine E_alr rfl L0 ?_
  refine E_il rfl L3 ?_
  refine E_ci 1 rfl ci1 ?_
  refine E_bin rfl (nJ_add _ _) ?_
  refine E_sld rfl (by first | decide | with_reducible assumption | omega) hL ?_
  refine E_call rfl (tQ_int (by decide +kernel) (by decide +kernel) I.2 (top_int (as := [.ref 0, .int (xs ((i + 1)))]) q291 (by decide +kernel) (by decide +kernel) I.1 ⟨rfl, aI _, trivial⟩)) (chkR (a := 0) I.1.1 rfl rfl rfl rfl (by show 0 ≤ 8; decide)) (fun h1 r1 => ?_)
  rintro ⟨I1, x1, f1⟩
  rw [f1]
  show Ends _ _ (867, lv, [.int x1], h1, 599897, 7298671) _
  refine E_pop rfl rfl ?_
  refine E_al rfl L2 ?_
  refine E_alr rfl L0 ?_
  refine E_il rfl L3 ?_
  refine E_ci 1 rfl ci1 ?_
  refine E_bin rfl (nJ_add _ _) ?_
  refine E_sld rfl (by first | decide | with_reducible assumption | omega) hL ?_
  refine E_call rfl (tQ_int (by decide +kernel) (by decide +kernel) I1.2 (top_TQ (d := 30) rfl I1.1 (tp_depth (d := 0) I1.1.1 (I1.1.2.2.1 0 (by first | decide | with_reducible assumption | omega))))) (chkR (a := 77) I1.1.1 rfl rfl rfl rfl (by show 0 ≤ 8; decide)) (fun h2 r2 => ?_)
  rintro ⟨I2, x2, f2⟩
  rw [f2]
  show Ends _ _ (877, lv, [.int x2], h2, 599897, 7298671) _
  refine E_pop rfl rfl ?_
  refine E_goto rfl ?_
  exact K _ I2
set_option maxRecDepth 20000 in
theorem bl_25 {L : Nat} {xs : Nat → Int32} (hL : L ≤ 3072) {h : pm_H} {i : Nat} (hi : i + 6 ≤ L) (lv : List (Nat × Value)) (I : IVQ h) (L0 : pm_get lv 0 = some (.retAddr 0)) (L1 : pm_get lv 1 = some (.ref 0)) (L2 : pm_get lv 2 = some (.ref 77)) (L3 : pm_get lv 3 = some (.int (nJ i))) (K : ∀ h', IVQ h' → Ends (pm_tr (lb_all L xs)) (pm_Rt pm_P 100) (2392, lv, [], h', 599897, 7298671) RQ1) : Ends (pm_tr (lb_all L xs)) (pm_Rt pm_P 100) (881, lv, [], h, 599897, 7298671) RQ1 := by
  refine E_al rfl L1 ?_
  refine E_alr rfl L0 ?_
  refine E_il rfl L3 ?_
  refine E_ci 1 rfl ci1 ?_
  refine E_bin rfl (nJ_add _ _) ?_
  refine E_sld rfl (by first | decide | with_reducible assumption | omega) hL ?_
  refine E_call rfl (tQ_int (by decide +kernel) (by decide +kernel) I.2 (top_int (as := [.ref 0, .int (xs ((i + 1)))]) q293 (by decide +kernel) (by decide +kernel) I.1 ⟨rfl, aI _, trivial⟩)) (chkR (a := 0) I.1.1 rfl rfl rfl rfl (by show 0 ≤ 8; decide)) (fun h1 r1 => ?_)
  rintro ⟨I1, x1, f1⟩
  rw [f1]
  show Ends _ _ (890, lv, [.int x1], h1, 599897, 7298671) _
  refine E_pop rfl rfl ?_
  refine E_al rfl L2 ?_
  refine E_alr rfl L0 ?_
  refine E_il rfl L3 ?_
  refine E_ci 1 rfl ci1 ?_
  refine E_bin rfl (nJ_add _ _) ?_
  refine E_sld rfl (by first | decide | with_reducible assumption | omega) hL ?_
  refine E_call rfl (tQ_int (by decide +kernel) (by decide +kernel) I1.2 (top_TQ (d := 30) rfl I1.1 (tp_kids (d := 0) I1.1.1 (I1.1.2.2.1 0 (by first | decide | with_reducible assumption | omega))))) (chkR (a := 77) I1.1.1 rfl rfl rfl rfl (by show 0 ≤ 8; decide)) (fun h2 r2 => ?_)
  rintro ⟨I2, x2, f2⟩
  rw [f2]
  show Ends _ _ (900, lv, [.int x2], h2, 599897, 7298671) _
  refine E_pop rfl rfl ?_
  refine E_goto rfl ?_
  exact K _ I2
set_option maxRecDepth 20000 in
theorem bl_26 {L : Nat} {xs : Nat → Int32} (hL : L ≤ 3072) {h : pm_H} {i : Nat} (hi : i + 6 ≤ L) (lv : List (Nat × Value)) (I : IVQ h) (L0 : pm_get lv 0 = some (.retAddr 0)) (L1 : pm_get lv 1 = some (.ref 0)) (L2 : pm_get lv 2 = some (.ref 77)) (L3 : pm_get lv 3 = some (.int (nJ i))) (K : ∀ h', IVQ h' → Ends (pm_tr (lb_all L xs)) (pm_Rt pm_P 100) (2392, lv, [], h', 599897, 7298671) RQ1) : Ends (pm_tr (lb_all L xs)) (pm_Rt pm_P 100) (904, lv, [], h, 599897, 7298671) RQ1 := by
  refine E_al rfl L1 ?_
  refine E_alr rfl L0 ?_
  refine E_il rfl L3 ?_
  refine E_ci 1 rfl ci1 ?_
  refine E_bin rfl (nJ_add _ _) ?_
  refine E_sld rfl (by first | decide | with_reducible assumption | omega) hL ?_
  refine E_call rfl (tQ_int (by decide +kernel) (by decide +kernel) I.2 (top_int (as := [.ref 0, .int (xs ((i + 1)))]) q296 (by decide +kernel) (by decide +kernel) I.1 ⟨rfl, aI _, trivial⟩)) (chkR (a := 0) I.1.1 rfl rfl rfl rfl (by show 0 ≤ 8; decide)) (fun h1 r1 => ?_)
  rintro ⟨I1, x1, f1⟩
  rw [f1]
  show Ends _ _ (913, lv, [.int x1], h1, 599897, 7298671) _
  refine E_pop rfl rfl ?_
  refine E_al rfl L2 ?_
  refine E_alr rfl L0 ?_
  refine E_il rfl L3 ?_
  refine E_ci 1 rfl ci1 ?_
  refine E_bin rfl (nJ_add _ _) ?_
  refine E_sld rfl (by first | decide | with_reducible assumption | omega) hL ?_
  refine E_call rfl (tQ_int (by decide +kernel) (by decide +kernel) I1.2 (top_TQ (d := 30) rfl I1.1 (tp_queue (d := 0) I1.1.1 (I1.1.2.2.1 0 (by first | decide | with_reducible assumption | omega))))) (chkR (a := 77) I1.1.1 rfl rfl rfl rfl (by show 0 ≤ 8; decide)) (fun h2 r2 => ?_)
  rintro ⟨I2, x2, f2⟩
  rw [f2]
  show Ends _ _ (923, lv, [.int x2], h2, 599897, 7298671) _
  refine E_pop rfl rfl ?_
  refine E_goto rfl ?_
  exact K _ I2
set_option maxRecDepth 20000 in
theorem bl_27 {L : Nat} {xs : Nat → Int32} (hL : L ≤ 3072) {h : pm_H} {i : Nat} (hi : i + 6 ≤ L) (lv : List (Nat × Value)) (I : IVQ h) (L0 : pm_get lv 0 = some (.retAddr 0)) (L1 : pm_get lv 1 = some (.ref 0)) (L2 : pm_get lv 2 = some (.ref 77)) (L3 : pm_get lv 3 = some (.int (nJ i))) (K : ∀ h', IVQ h' → Ends (pm_tr (lb_all L xs)) (pm_Rt pm_P 100) (2392, lv, [], h', 599897, 7298671) RQ1) : Ends (pm_tr (lb_all L xs)) (pm_Rt pm_P 100) (927, lv, [], h, 599897, 7298671) RQ1 := by
  refine E_al rfl L1 ?_
  refine E_call rfl (tQ_int (by decide +kernel) (by decide +kernel) I.2 (top_int (as := [.ref 0]) q298 (by decide +kernel) (by decide +kernel) I.1 ⟨rfl, trivial⟩)) (chkR (a := 0) I.1.1 rfl rfl rfl rfl (by show 0 ≤ 8; decide)) (fun h1 r1 => ?_)
  rintro ⟨I1, x1, f1⟩
  rw [f1]
  show Ends _ _ (931, lv, [.int x1], h1, 599897, 7298671) _
  refine E_pop rfl rfl ?_
  refine E_al rfl L2 ?_
  refine E_call rfl (tQ_int (by decide +kernel) (by decide +kernel) I1.2 (top_TQ (d := 30) rfl I1.1 (tp_leaves (d := 0) I1.1.1 (I1.1.2.2.1 0 (by first | decide | with_reducible assumption | omega))))) (chkR (a := 77) I1.1.1 rfl rfl rfl rfl (by show 0 ≤ 8; decide)) (fun h2 r2 => ?_)
  rintro ⟨I2, x2, f2⟩
  rw [f2]
  show Ends _ _ (936, lv, [.int x2], h2, 599897, 7298671) _
  refine E_pop rfl rfl ?_
  refine E_goto rfl ?_
  exact K _ I2
set_option maxRecDepth 20000 in
theorem bl_28 {L : Nat} {xs : Nat → Int32} (hL : L ≤ 3072) {h : pm_H} {i : Nat} (hi : i + 6 ≤ L) (lv : List (Nat × Value)) (I : IVQ h) (L0 : pm_get lv 0 = some (.retAddr 0)) (L1 : pm_get lv 1 = some (.ref 0)) (L2 : pm_get lv 2 = some (.ref 77)) (L3 : pm_get lv 3 = some (.int (nJ i))) (K : ∀ h', IVQ h' → Ends (pm_tr (lb_all L xs)) (pm_Rt pm_P 100) (2392, lv, [], h', 599897, 7298671) RQ1) : Ends (pm_tr (lb_all L xs)) (pm_Rt pm_P 100) (940, lv, [], h, 599897, 7298671) RQ1 := by
  refine E_al rfl L1 ?_
  refine E_call rfl (tQ_int (by decide +kernel) (by decide +kernel) I.2 (top_int (as := [.ref 0]) q301 (by decide +kernel) (by decide +kernel) I.1 ⟨rfl, trivial⟩)) (chkR (a := 0) I.1.1 rfl rfl rfl rfl (by show 0 ≤ 8; decide)) (fun h1 r1 => ?_)
  rintro ⟨I1, x1, f1⟩
  rw [f1]
  show Ends _ _ (944, lv, [.int x1], h1, 599897, 7298671) _
  refine E_pop rfl rfl ?_
  refine E_al rfl L2 ?_
  refine E_call rfl (tQ_int (by decide +kernel) (by decide +kernel) I1.2 (top_TQ (d := 30) rfl I1.1 (tp_inversions (d := 0) I1.1.1 (I1.1.2.2.1 0 (by first | decide | with_reducible assumption | omega))))) (chkR (a := 77) I1.1.1 rfl rfl rfl rfl (by show 0 ≤ 8; decide)) (fun h2 r2 => ?_)
  rintro ⟨I2, x2, f2⟩
  rw [f2]
  show Ends _ _ (949, lv, [.int x2], h2, 599897, 7298671) _
  refine E_pop rfl rfl ?_
  refine E_goto rfl ?_
  exact K _ I2
set_option maxRecDepth 20000 in
theorem bl_29 {L : Nat} {xs : Nat → Int32} (hL : L ≤ 3072) {h : pm_H} {i : Nat} (hi : i + 6 ≤ L) (lv : List (Nat × Value)) (I : IVQ h) (L0 : pm_get lv 0 = some (.retAddr 0)) (L1 : pm_get lv 1 = some (.ref 0)) (L2 : pm_get lv 2 = some (.ref 77)) (L3 : pm_get lv 3 = some (.int (nJ i))) (K : ∀ h', IVQ h' → Ends (pm_tr (lb_all L xs)) (pm_Rt pm_P 100) (2392, lv, [], h', 599897, 7298671) RQ1) : Ends (pm_tr (lb_all L xs)) (pm_Rt pm_P 100) (953, lv, [], h, 599897, 7298671) RQ1 := by
  refine E_al rfl L1 ?_
  refine E_alr rfl L0 ?_
  refine E_il rfl L3 ?_
  refine E_ci 1 rfl ci1 ?_
  refine E_bin rfl (nJ_add _ _) ?_
  refine E_sld rfl (by first | decide | with_reducible assumption | omega) hL ?_
  refine E_call rfl (tQ_int (by decide +kernel) (by decide +kernel) I.2 (top_int (as := [.ref 0, .int (xs ((i + 1)))]) q307 (by decide +kernel) (by decide +kernel) I.1 ⟨rfl, aI _, trivial⟩)) (chkR (a := 0) I.1.1 rfl rfl rfl rfl (by show 0 ≤ 8; decide)) (fun h1 r1 => ?_)
  rintro ⟨I1, x1, f1⟩
  rw [f1]
  show Ends _ _ (962, lv, [.int x1], h1, 599897, 7298671) _
  refine E_pop rfl rfl ?_
  refine E_al rfl L2 ?_
  refine E_alr rfl L0 ?_
  refine E_il rfl L3 ?_
  refine E_ci 1 rfl ci1 ?_
  refine E_bin rfl (nJ_add _ _) ?_
  refine E_sld rfl (by first | decide | with_reducible assumption | omega) hL ?_
  refine E_call rfl (tQ_int (by decide +kernel) (by decide +kernel) I1.2 (top_TQ (d := 30) rfl I1.1 (tp_code (d := 0) I1.1.1 (I1.1.2.2.1 0 (by first | decide | with_reducible assumption | omega))))) (chkR (a := 77) I1.1.1 rfl rfl rfl rfl (by show 0 ≤ 8; decide)) (fun h2 r2 => ?_)
  rintro ⟨I2, x2, f2⟩
  rw [f2]
  show Ends _ _ (972, lv, [.int x2], h2, 599897, 7298671) _
  refine E_pop rfl rfl ?_
  refine E_goto rfl ?_
  exact K _ I2
set_option maxRecDepth 20000 in
theorem bl_30 {L : Nat} {xs : Nat → Int32} (hL : L ≤ 3072) {h : pm_H} {i : Nat} (hi : i + 6 ≤ L) (lv : List (Nat × Value)) (I : IVQ h) (L0 : pm_get lv 0 = some (.retAddr 0)) (L1 : pm_get lv 1 = some (.ref 0)) (L2 : pm_get lv 2 = some (.ref 77)) (L3 : pm_get lv 3 = some (.int (nJ i))) (K : ∀ h', IVQ h' → Ends (pm_tr (lb_all L xs)) (pm_Rt pm_P 100) (2392, lv, [], h', 599897, 7298671) RQ1) : Ends (pm_tr (lb_all L xs)) (pm_Rt pm_P 100) (976, lv, [], h, 599897, 7298671) RQ1 := by
  refine E_al rfl L1 ?_
  refine E_alr rfl L0 ?_
  refine E_il rfl L3 ?_
  refine E_ci 1 rfl ci1 ?_
  refine E_bin rfl (nJ_add _ _) ?_
  refine E_sld rfl (by first | decide | with_reducible assumption | omega) hL ?_
  refine E_call rfl (tQ_int (by decide +kernel) (by decide +kernel) I.2 (top_int (as := [.ref 0, .int (xs ((i + 1)))]) q312 (by decide +kernel) (by decide +kernel) I.1 ⟨rfl, aI _, trivial⟩)) (chkR (a := 0) I.1.1 rfl rfl rfl rfl (by show 0 ≤ 8; decide)) (fun h1 r1 => ?_)
  rintro ⟨I1, x1, f1⟩
  rw [f1]
  show Ends _ _ (985, lv, [.int x1], h1, 599897, 7298671) _
  refine E_pop rfl rfl ?_
  refine E_al rfl L2 ?_
  refine E_alr rfl L0 ?_
  refine E_il rfl L3 ?_
  refine E_ci 1 rfl ci1 ?_
  refine E_bin rfl (nJ_add _ _) ?_
  refine E_sld rfl (by first | decide | with_reducible assumption | omega) hL ?_
  refine E_call rfl (tQ_int (by decide +kernel) (by decide +kernel) I1.2 (top_TQ (d := 30) rfl I1.1 (tp_burnt (d := 0) I1.1.1 (I1.1.2.2.1 0 (by first | decide | with_reducible assumption | omega))))) (chkR (a := 77) I1.1.1 rfl rfl rfl rfl (by show 0 ≤ 8; decide)) (fun h2 r2 => ?_)
  rintro ⟨I2, x2, f2⟩
  rw [f2]
  show Ends _ _ (995, lv, [.int x2], h2, 599897, 7298671) _
  refine E_pop rfl rfl ?_
  refine E_goto rfl ?_
  exact K _ I2
set_option maxRecDepth 20000 in
theorem bl_31 {L : Nat} {xs : Nat → Int32} (hL : L ≤ 3072) {h : pm_H} {i : Nat} (hi : i + 6 ≤ L) (lv : List (Nat × Value)) (I : IVQ h) (L0 : pm_get lv 0 = some (.retAddr 0)) (L1 : pm_get lv 1 = some (.ref 0)) (L2 : pm_get lv 2 = some (.ref 77)) (L3 : pm_get lv 3 = some (.int (nJ i))) (K : ∀ h', IVQ h' → Ends (pm_tr (lb_all L xs)) (pm_Rt pm_P 100) (2392, lv, [], h', 599897, 7298671) RQ1) : Ends (pm_tr (lb_all L xs)) (pm_Rt pm_P 100) (999, lv, [], h, 599897, 7298671) RQ1 := by
  refine E_al rfl L1 ?_
  refine E_call rfl (tQ_int (by decide +kernel) (by decide +kernel) I.2 (top_int (as := [.ref 0]) q313 (by decide +kernel) (by decide +kernel) I.1 ⟨rfl, trivial⟩)) (chkR (a := 0) I.1.1 rfl rfl rfl rfl (by show 0 ≤ 8; decide)) (fun h1 r1 => ?_)
  rintro ⟨I1, x1, f1⟩
  rw [f1]
  show Ends _ _ (1003, lv, [.int x1], h1, 599897, 7298671) _
  refine E_pop rfl rfl ?_
  refine E_al rfl L2 ?_
  refine E_call rfl (tQ_int (by decide +kernel) (by decide +kernel) I1.2 (top_TQ (d := 30) rfl I1.1 (tp_turned (d := 0) I1.1.1 (I1.1.2.2.1 0 (by first | decide | with_reducible assumption | omega))))) (chkR (a := 77) I1.1.1 rfl rfl rfl rfl (by show 0 ≤ 8; decide)) (fun h2 r2 => ?_)
  rintro ⟨I2, x2, f2⟩
  rw [f2]
  show Ends _ _ (1008, lv, [.int x2], h2, 599897, 7298671) _
  refine E_pop rfl rfl ?_
  refine E_goto rfl ?_
  exact K _ I2
set_option maxRecDepth 20000 in
theorem bl_32 {L : Nat} {xs : Nat → Int32} (hL : L ≤ 3072) {h : pm_H} {i : Nat} (hi : i + 6 ≤ L) (lv : List (Nat × Value)) (I : IVQ h) (L0 : pm_get lv 0 = some (.retAddr 0)) (L1 : pm_get lv 1 = some (.ref 0)) (L2 : pm_get lv 2 = some (.ref 77)) (L3 : pm_get lv 3 = some (.int (nJ i))) (K : ∀ h', IVQ h' → Ends (pm_tr (lb_all L xs)) (pm_Rt pm_P 100) (2392, lv, [], h', 599897, 7298671) RQ1) : Ends (pm_tr (lb_all L xs)) (pm_Rt pm_P 100) (1012, lv, [], h, 599897, 7298671) RQ1 := by
  refine E_al rfl L1 ?_
  refine E_alr rfl L0 ?_
  refine E_il rfl L3 ?_
  refine E_ci 1 rfl ci1 ?_
  refine E_bin rfl (nJ_add _ _) ?_
  refine E_sld rfl (by first | decide | with_reducible assumption | omega) hL ?_
  refine E_call rfl (tQ_int (by decide +kernel) (by decide +kernel) I.2 (top_int (as := [.ref 0, .int (xs ((i + 1)))]) q314 (by decide +kernel) (by decide +kernel) I.1 ⟨rfl, aI _, trivial⟩)) (chkR (a := 0) I.1.1 rfl rfl rfl rfl (by show 0 ≤ 8; decide)) (fun h1 r1 => ?_)
  rintro ⟨I1, x1, f1⟩
  rw [f1]
  show Ends _ _ (1021, lv, [.int x1], h1, 599897, 7298671) _
  refine E_pop rfl rfl ?_
  refine E_al rfl L2 ?_
  refine E_alr rfl L0 ?_
  refine E_il rfl L3 ?_
  refine E_ci 1 rfl ci1 ?_
  refine E_bin rfl (nJ_add _ _) ?_
  refine E_sld rfl (by first | decide | with_reducible assumption | omega) hL ?_
  refine E_call rfl (tQ_int (by decide +kernel) (by decide +kernel) I1.2 (top_TQ (d := 30) rfl I1.1 (tp_visit (d := 0) I1.1.1 (I1.1.2.2.1 0 (by first | decide | with_reducible assumption | omega))))) (chkR (a := 77) I1.1.1 rfl rfl rfl rfl (by show 0 ≤ 8; decide)) (fun h2 r2 => ?_)
  rintro ⟨I2, x2, f2⟩
  rw [f2]
  show Ends _ _ (1031, lv, [.int x2], h2, 599897, 7298671) _
  refine E_pop rfl rfl ?_
  refine E_goto rfl ?_
  exact K _ I2
set_option maxRecDepth 20000 in
theorem bl_33 {L : Nat} {xs : Nat → Int32} (hL : L ≤ 3072) {h : pm_H} {i : Nat} (hi : i + 6 ≤ L) (lv : List (Nat × Value)) (I : IVQ h) (L0 : pm_get lv 0 = some (.retAddr 0)) (L1 : pm_get lv 1 = some (.ref 0)) (L2 : pm_get lv 2 = some (.ref 77)) (L3 : pm_get lv 3 = some (.int (nJ i))) (K : ∀ h', IVQ h' → Ends (pm_tr (lb_all L xs)) (pm_Rt pm_P 100) (2392, lv, [], h', 599897, 7298671) RQ1) : Ends (pm_tr (lb_all L xs)) (pm_Rt pm_P 100) (1035, lv, [], h, 599897, 7298671) RQ1 := by
  refine E_al rfl L1 ?_
  refine E_alr rfl L0 ?_
  refine E_il rfl L3 ?_
  refine E_ci 1 rfl ci1 ?_
  refine E_bin rfl (nJ_add _ _) ?_
  refine E_sld rfl (by first | decide | with_reducible assumption | omega) hL ?_
  refine E_alr rfl L0 ?_
  refine E_il rfl L3 ?_
  refine E_ci 2 rfl ci2 ?_
  refine E_bin rfl (nJ_add _ _) ?_
  refine E_sld rfl (by first | decide | with_reducible assumption | omega) hL ?_
  refine E_call rfl (tQ_int (by decide +kernel) (by decide +kernel) I.2 (top_int (as := [.ref 0, .int (xs ((i + 1))), .int (xs ((i + 2)))]) q484 (by decide +kernel) (by decide +kernel) I.1 ⟨rfl, aI _, aI _, trivial⟩)) (chkR (a := 0) I.1.1 rfl rfl rfl rfl (by show 0 ≤ 8; decide)) (fun h1 r1 => ?_)
  rintro ⟨I1, x1, f1⟩
  rw [f1]
  show Ends _ _ (1049, lv, [.int x1], h1, 599897, 7298671) _
  refine E_pop rfl rfl ?_
  refine E_al rfl L2 ?_
  refine E_alr rfl L0 ?_
  refine E_il rfl L3 ?_
  refine E_ci 1 rfl ci1 ?_
  refine E_bin rfl (nJ_add _ _) ?_
  refine E_sld rfl (by first | decide | with_reducible assumption | omega) hL ?_
  refine E_alr rfl L0 ?_
  refine E_il rfl L3 ?_
  refine E_ci 2 rfl ci2 ?_
  refine E_bin rfl (nJ_add _ _) ?_
  refine E_sld rfl (by first | decide | with_reducible assumption | omega) hL ?_
  refine E_call rfl (tQ_int (by decide +kernel) (by decide +kernel) I1.2 (top_TQ (d := 30) rfl I1.1 (tp_above (d := 0) I1.1.1 (I1.1.2.2.1 0 (by first | decide | with_reducible assumption | omega))))) (chkR (a := 77) I1.1.1 rfl rfl rfl rfl (by show 0 ≤ 8; decide)) (fun h2 r2 => ?_)
  rintro ⟨I2, x2, f2⟩
  rw [f2]
  show Ends _ _ (1064, lv, [.int x2], h2, 599897, 7298671) _
  refine E_pop rfl rfl ?_
  refine E_goto rfl ?_
  exact K _ I2
set_option maxRecDepth 20000 in
theorem bl_34 {L : Nat} {xs : Nat → Int32} (hL : L ≤ 3072) {h : pm_H} {i : Nat} (hi : i + 6 ≤ L) (lv : List (Nat × Value)) (I : IVQ h) (L0 : pm_get lv 0 = some (.retAddr 0)) (L1 : pm_get lv 1 = some (.ref 0)) (L2 : pm_get lv 2 = some (.ref 77)) (L3 : pm_get lv 3 = some (.int (nJ i))) (K : ∀ h', IVQ h' → Ends (pm_tr (lb_all L xs)) (pm_Rt pm_P 100) (2392, lv, [], h', 599897, 7298671) RQ1) : Ends (pm_tr (lb_all L xs)) (pm_Rt pm_P 100) (1068, lv, [], h, 599897, 7298671) RQ1 := by
  refine E_al rfl L1 ?_
  refine E_alr rfl L0 ?_
  refine E_il rfl L3 ?_
  refine E_ci 1 rfl ci1 ?_
  refine E_bin rfl (nJ_add _ _) ?_
  refine E_sld rfl (by first | decide | with_reducible assumption | omega) hL ?_
  refine E_alr rfl L0 ?_
  refine E_il rfl L3 ?_
  refine E_ci 2 rfl ci2 ?_
  refine E_bin rfl (nJ_add _ _) ?_
  refine E_sld rfl (by first | decide | with_reducible assumption | omega) hL ?_
  refine E_call rfl (tQ_int (by decide +kernel) (by decide +kernel) I.2 (top_int (as := [.ref 0, .int (xs ((i + 1))), .int (xs ((i + 2)))]) q491 (by decide +kernel) (by decide +kernel) I.1 ⟨rfl, aI _, aI _, trivial⟩)) (chkR (a := 0) I.1.1 rfl rfl rfl rfl (by show 0 ≤ 8; decide)) (fun h1 r1 => ?_)
  rintro ⟨I1, x1, f1⟩
  rw [f1]
  show Ends _ _ (1082, lv, [.int x1], h1, 599897, 7298671) _
  refine E_pop rfl rfl ?_
  refine E_al rfl L2 ?_
  refine E_alr rfl L0 ?_
  refine E_il rfl L3 ?_
  refine E_ci 1 rfl ci1 ?_
  refine E_bin rfl (nJ_add _ _) ?_
  refine E_sld rfl (by first | decide | with_reducible assumption | omega) hL ?_
  refine E_alr rfl L0 ?_
  refine E_il rfl L3 ?_
  refine E_ci 2 rfl ci2 ?_
  refine E_bin rfl (nJ_add _ _) ?_
  refine E_sld rfl (by first | decide | with_reducible assumption | omega) hL ?_
  refine E_call rfl (tQ_int (by decide +kernel) (by decide +kernel) I1.2 (top_TQ (d := 30) rfl I1.1 (tp_wish (d := 0) I1.1.1 (I1.1.2.2.1 0 (by first | decide | with_reducible assumption | omega))))) (chkR (a := 77) I1.1.1 rfl rfl rfl rfl (by show 0 ≤ 8; decide)) (fun h2 r2 => ?_)
  rintro ⟨I2, x2, f2⟩
  rw [f2]
  show Ends _ _ (1097, lv, [.int x2], h2, 599897, 7298671) _
  refine E_pop rfl rfl ?_
  refine E_goto rfl ?_
  exact K _ I2
set_option maxRecDepth 20000 in
theorem bl_35 {L : Nat} {xs : Nat → Int32} (hL : L ≤ 3072) {h : pm_H} {i : Nat} (hi : i + 6 ≤ L) (lv : List (Nat × Value)) (I : IVQ h) (L0 : pm_get lv 0 = some (.retAddr 0)) (L1 : pm_get lv 1 = some (.ref 0)) (L2 : pm_get lv 2 = some (.ref 77)) (L3 : pm_get lv 3 = some (.int (nJ i))) (K : ∀ h', IVQ h' → Ends (pm_tr (lb_all L xs)) (pm_Rt pm_P 100) (2392, lv, [], h', 599897, 7298671) RQ1) : Ends (pm_tr (lb_all L xs)) (pm_Rt pm_P 100) (1101, lv, [], h, 599897, 7298671) RQ1 := by
  refine E_al rfl L1 ?_
  refine E_alr rfl L0 ?_
  refine E_il rfl L3 ?_
  refine E_ci 1 rfl ci1 ?_
  refine E_bin rfl (nJ_add _ _) ?_
  refine E_sld rfl (by first | decide | with_reducible assumption | omega) hL ?_
  refine E_alr rfl L0 ?_
  refine E_il rfl L3 ?_
  refine E_ci 2 rfl ci2 ?_
  refine E_bin rfl (nJ_add _ _) ?_
  refine E_sld rfl (by first | decide | with_reducible assumption | omega) hL ?_
  refine E_call rfl (tQ_int (by decide +kernel) (by decide +kernel) I.2 (top_int (as := [.ref 0, .int (xs ((i + 1))), .int (xs ((i + 2)))]) q495 (by decide +kernel) (by decide +kernel) I.1 ⟨rfl, aI _, aI _, trivial⟩)) (chkR (a := 0) I.1.1 rfl rfl rfl rfl (by show 0 ≤ 8; decide)) (fun h1 r1 => ?_)
  rintro ⟨I1, x1, f1⟩
  rw [f1]
  show Ends _ _ (1115, lv, [.int x1], h1, 599897, 7298671) _
  refine E_pop rfl rfl ?_
  refine E_al rfl L2 ?_
  refine E_alr rfl L0 ?_
  refine E_il rfl L3 ?_
  refine E_ci 1 rfl ci1 ?_
  refine E_bin rfl (nJ_add _ _) ?_
  refine E_sld rfl (by first | decide | with_reducible assumption | omega) hL ?_
  refine E_alr rfl L0 ?_
  refine E_il rfl L3 ?_
  refine E_ci 2 rfl ci2 ?_
  refine E_bin rfl (nJ_add _ _) ?_
  refine E_sld rfl (by first | decide | with_reducible assumption | omega) hL ?_
  refine E_call rfl (tQ_int (by decide +kernel) (by decide +kernel) I1.2 (top_TQ (d := 30) rfl I1.1 (tp_regain (d := 0) I1.1.1 (I1.1.2.2.1 0 (by first | decide | with_reducible assumption | omega))))) (chkR (a := 77) I1.1.1 rfl rfl rfl rfl (by show 0 ≤ 8; decide)) (fun h2 r2 => ?_)
  rintro ⟨I2, x2, f2⟩
  rw [f2]
  show Ends _ _ (1130, lv, [.int x2], h2, 599897, 7298671) _
  refine E_pop rfl rfl ?_
  refine E_goto rfl ?_
  exact K _ I2
set_option maxRecDepth 20000 in
theorem bl_36 {L : Nat} {xs : Nat → Int32} (hL : L ≤ 3072) {h : pm_H} {i : Nat} (hi : i + 6 ≤ L) (lv : List (Nat × Value)) (I : IVQ h) (L0 : pm_get lv 0 = some (.retAddr 0)) (L1 : pm_get lv 1 = some (.ref 0)) (L2 : pm_get lv 2 = some (.ref 77)) (L3 : pm_get lv 3 = some (.int (nJ i))) (K : ∀ h', IVQ h' → Ends (pm_tr (lb_all L xs)) (pm_Rt pm_P 100) (2392, lv, [], h', 599897, 7298671) RQ1) : Ends (pm_tr (lb_all L xs)) (pm_Rt pm_P 100) (1134, lv, [], h, 599897, 7298671) RQ1 := by
  refine E_al rfl L1 ?_
  refine E_alr rfl L0 ?_
  refine E_il rfl L3 ?_
  refine E_ci 1 rfl ci1 ?_
  refine E_bin rfl (nJ_add _ _) ?_
  refine E_sld rfl (by first | decide | with_reducible assumption | omega) hL ?_
  refine E_call rfl (tQ_int (by decide +kernel) (by decide +kernel) I.2 (top_int (as := [.ref 0, .int (xs ((i + 1)))]) q496 (by decide +kernel) (by decide +kernel) I.1 ⟨rfl, aI _, trivial⟩)) (chkR (a := 0) I.1.1 rfl rfl rfl rfl (by show 0 ≤ 8; decide)) (fun h1 r1 => ?_)
  rintro ⟨I1, x1, f1⟩
  rw [f1]
  show Ends _ _ (1143, lv, [.int x1], h1, 599897, 7298671) _
  refine E_pop rfl rfl ?_
  refine E_al rfl L2 ?_
  refine E_alr rfl L0 ?_
  refine E_il rfl L3 ?_
  refine E_ci 1 rfl ci1 ?_
  refine E_bin rfl (nJ_add _ _) ?_
  refine E_sld rfl (by first | decide | with_reducible assumption | omega) hL ?_
  refine E_call rfl (tQ_int (by decide +kernel) (by decide +kernel) I1.2 (top_TQ (d := 30) rfl I1.1 (tp_upset (d := 0) I1.1.1 (I1.1.2.2.1 0 (by first | decide | with_reducible assumption | omega))))) (chkR (a := 77) I1.1.1 rfl rfl rfl rfl (by show 0 ≤ 8; decide)) (fun h2 r2 => ?_)
  rintro ⟨I2, x2, f2⟩
  rw [f2]
  show Ends _ _ (1153, lv, [.int x2], h2, 599897, 7298671) _
  refine E_pop rfl rfl ?_
  refine E_goto rfl ?_
  exact K _ I2
set_option maxRecDepth 20000 in
theorem bl_37 {L : Nat} {xs : Nat → Int32} (hL : L ≤ 3072) {h : pm_H} {i : Nat} (hi : i + 6 ≤ L) (lv : List (Nat × Value)) (I : IVQ h) (L0 : pm_get lv 0 = some (.retAddr 0)) (L1 : pm_get lv 1 = some (.ref 0)) (L2 : pm_get lv 2 = some (.ref 77)) (L3 : pm_get lv 3 = some (.int (nJ i))) (K : ∀ h', IVQ h' → Ends (pm_tr (lb_all L xs)) (pm_Rt pm_P 100) (2392, lv, [], h', 599897, 7298671) RQ1) : Ends (pm_tr (lb_all L xs)) (pm_Rt pm_P 100) (1157, lv, [], h, 599897, 7298671) RQ1 := by
  refine E_al rfl L1 ?_
  refine E_alr rfl L0 ?_
  refine E_il rfl L3 ?_
  refine E_ci 1 rfl ci1 ?_
  refine E_bin rfl (nJ_add _ _) ?_
  refine E_sld rfl (by first | decide | with_reducible assumption | omega) hL ?_
  refine E_call rfl (tQ_int (by decide +kernel) (by decide +kernel) I.2 (top_int (as := [.ref 0, .int (xs ((i + 1)))]) q499 (by decide +kernel) (by decide +kernel) I.1 ⟨rfl, aI _, trivial⟩)) (chkR (a := 0) I.1.1 rfl rfl rfl rfl (by show 0 ≤ 8; decide)) (fun h1 r1 => ?_)
  rintro ⟨I1, x1, f1⟩
  rw [f1]
  show Ends _ _ (1166, lv, [.int x1], h1, 599897, 7298671) _
  refine E_pop rfl rfl ?_
  refine E_al rfl L2 ?_
  refine E_alr rfl L0 ?_
  refine E_il rfl L3 ?_
  refine E_ci 1 rfl ci1 ?_
  refine E_bin rfl (nJ_add _ _) ?_
  refine E_sld rfl (by first | decide | with_reducible assumption | omega) hL ?_
  refine E_call rfl (tQ_int (by decide +kernel) (by decide +kernel) I1.2 (top_int (as := [.ref 77, .int (xs ((i + 1)))]) q504 (by decide +kernel) (by decide +kernel) I1.1 ⟨rfl, aI _, trivial⟩)) (chkR (a := 77) I1.1.1 rfl rfl rfl rfl (by show 0 ≤ 8; decide)) (fun h2 r2 => ?_)
  rintro ⟨I2, x2, f2⟩
  rw [f2]
  show Ends _ _ (1176, lv, [.int x2], h2, 599897, 7298671) _
  refine E_pop rfl rfl ?_
  refine E_goto rfl ?_
  exact K _ I2
set_option maxRecDepth 20000 in
theorem bl_38 {L : Nat} {xs : Nat → Int32} (hL : L ≤ 3072) {h : pm_H} {i : Nat} (hi : i + 6 ≤ L) (lv : List (Nat × Value)) (I : IVQ h) (L0 : pm_get lv 0 = some (.retAddr 0)) (L1 : pm_get lv 1 = some (.ref 0)) (L2 : pm_get lv 2 = some (.ref 77)) (L3 : pm_get lv 3 = some (.int (nJ i))) (K : ∀ h', IVQ h' → Ends (pm_tr (lb_all L xs)) (pm_Rt pm_P 100) (2392, lv, [], h', 599897, 7298671) RQ1) : Ends (pm_tr (lb_all L xs)) (pm_Rt pm_P 100) (1180, lv, [], h, 599897, 7298671) RQ1 := by
  refine E_al rfl L1 ?_
  refine E_alr rfl L0 ?_
  refine E_il rfl L3 ?_
  refine E_ci 1 rfl ci1 ?_
  refine E_bin rfl (nJ_add _ _) ?_
  refine E_sld rfl (by first | decide | with_reducible assumption | omega) hL ?_
  refine E_alr rfl L0 ?_
  refine E_il rfl L3 ?_
  refine E_ci 2 rfl ci2 ?_
  refine E_bin rfl (nJ_add _ _) ?_
  refine E_sld rfl (by first | decide | with_reducible assumption | omega) hL ?_
  refine E_call rfl (tQ_int (by decide +kernel) (by decide +kernel) I.2 (top_int (as := [.ref 0, .int (xs ((i + 1))), .int (xs ((i + 2)))]) q506 (by decide +kernel) (by decide +kernel) I.1 ⟨rfl, aI _, aI _, trivial⟩)) (chkR (a := 0) I.1.1 rfl rfl rfl rfl (by show 0 ≤ 8; decide)) (fun h1 r1 => ?_)
  rintro ⟨I1, x1, f1⟩
  rw [f1]
  show Ends _ _ (1194, lv, [.int x1], h1, 599897, 7298671) _
  refine E_pop rfl rfl ?_
  refine E_al rfl L2 ?_
  refine E_alr rfl L0 ?_
  refine E_il rfl L3 ?_
  refine E_ci 1 rfl ci1 ?_
  refine E_bin rfl (nJ_add _ _) ?_
  refine E_sld rfl (by first | decide | with_reducible assumption | omega) hL ?_
  refine E_alr rfl L0 ?_
  refine E_il rfl L3 ?_
  refine E_ci 2 rfl ci2 ?_
  refine E_bin rfl (nJ_add _ _) ?_
  refine E_sld rfl (by first | decide | with_reducible assumption | omega) hL ?_
  refine E_call rfl (tQ_int (by decide +kernel) (by decide +kernel) I1.2 (top_int (as := [.ref 77, .int (xs ((i + 1))), .int (xs ((i + 2)))]) q509 (by decide +kernel) (by decide +kernel) I1.1 ⟨rfl, aI _, aI _, trivial⟩)) (chkR (a := 77) I1.1.1 rfl rfl rfl rfl (by show 0 ≤ 8; decide)) (fun h2 r2 => ?_)
  rintro ⟨I2, x2, f2⟩
  rw [f2]
  show Ends _ _ (1209, lv, [.int x2], h2, 599897, 7298671) _
  refine E_pop rfl rfl ?_
  refine E_goto rfl ?_
  exact K _ I2
set_option maxRecDepth 20000 in
theorem bl_39 {L : Nat} {xs : Nat → Int32} (hL : L ≤ 3072) {h : pm_H} {i : Nat} (hi : i + 6 ≤ L) (lv : List (Nat × Value)) (I : IVQ h) (L0 : pm_get lv 0 = some (.retAddr 0)) (L1 : pm_get lv 1 = some (.ref 0)) (L2 : pm_get lv 2 = some (.ref 77)) (L3 : pm_get lv 3 = some (.int (nJ i))) (K : ∀ h', IVQ h' → Ends (pm_tr (lb_all L xs)) (pm_Rt pm_P 100) (2392, lv, [], h', 599897, 7298671) RQ1) : Ends (pm_tr (lb_all L xs)) (pm_Rt pm_P 100) (1213, lv, [], h, 599897, 7298671) RQ1 := by
  refine E_al rfl L1 ?_
  refine E_alr rfl L0 ?_
  refine E_il rfl L3 ?_
  refine E_ci 1 rfl ci1 ?_
  refine E_bin rfl (nJ_add _ _) ?_
  refine E_sld rfl (by first | decide | with_reducible assumption | omega) hL ?_
  refine E_alr rfl L0 ?_
  refine E_il rfl L3 ?_
  refine E_ci 2 rfl ci2 ?_
  refine E_bin rfl (nJ_add _ _) ?_
  refine E_sld rfl (by first | decide | with_reducible assumption | omega) hL ?_
  refine E_call rfl (tQ_int (by decide +kernel) (by decide +kernel) I.2 (top_int (as := [.ref 0, .int (xs ((i + 1))), .int (xs ((i + 2)))]) q510 (by decide +kernel) (by decide +kernel) I.1 ⟨rfl, aI _, aI _, trivial⟩)) (chkR (a := 0) I.1.1 rfl rfl rfl rfl (by show 0 ≤ 8; decide)) (fun h1 r1 => ?_)
  rintro ⟨I1, x1, f1⟩
  rw [f1]
  show Ends _ _ (1227, lv, [.int x1], h1, 599897, 7298671) _
  refine E_pop rfl rfl ?_
  refine E_al rfl L2 ?_
  refine E_alr rfl L0 ?_
  refine E_il rfl L3 ?_
  refine E_ci 1 rfl ci1 ?_
  refine E_bin rfl (nJ_add _ _) ?_
  refine E_sld rfl (by first | decide | with_reducible assumption | omega) hL ?_
  refine E_alr rfl L0 ?_
  refine E_il rfl L3 ?_
  refine E_ci 2 rfl ci2 ?_
  refine E_bin rfl (nJ_add _ _) ?_
  refine E_sld rfl (by first | decide | with_reducible assumption | omega) hL ?_
  refine E_call rfl (tQ_int (by decide +kernel) (by decide +kernel) I1.2 (top_TQ (d := 30) rfl I1.1 (tp_trees (d := 0) I1.1.1 (I1.1.2.2.1 0 (by first | decide | with_reducible assumption | omega))))) (chkR (a := 77) I1.1.1 rfl rfl rfl rfl (by show 0 ≤ 8; decide)) (fun h2 r2 => ?_)
  rintro ⟨I2, x2, f2⟩
  rw [f2]
  show Ends _ _ (1242, lv, [.int x2], h2, 599897, 7298671) _
  refine E_pop rfl rfl ?_
  refine E_goto rfl ?_
  exact K _ I2
set_option maxRecDepth 20000 in
theorem bl_40 {L : Nat} {xs : Nat → Int32} (hL : L ≤ 3072) {h : pm_H} {i : Nat} (hi : i + 6 ≤ L) (lv : List (Nat × Value)) (I : IVQ h) (L0 : pm_get lv 0 = some (.retAddr 0)) (L1 : pm_get lv 1 = some (.ref 0)) (L2 : pm_get lv 2 = some (.ref 77)) (L3 : pm_get lv 3 = some (.int (nJ i))) (K : ∀ h', IVQ h' → Ends (pm_tr (lb_all L xs)) (pm_Rt pm_P 100) (2392, lv, [], h', 599897, 7298671) RQ1) : Ends (pm_tr (lb_all L xs)) (pm_Rt pm_P 100) (1246, lv, [], h, 599897, 7298671) RQ1 := by
  refine E_al rfl L1 ?_
  refine E_alr rfl L0 ?_
  refine E_il rfl L3 ?_
  refine E_ci 1 rfl ci1 ?_
  refine E_bin rfl (nJ_add _ _) ?_
  refine E_sld rfl (by first | decide | with_reducible assumption | omega) hL ?_
  refine E_alr rfl L0 ?_
  refine E_il rfl L3 ?_
  refine E_ci 2 rfl ci2 ?_
  refine E_bin rfl (nJ_add _ _) ?_
  refine E_sld rfl (by first | decide | with_reducible assumption | omega) hL ?_
  refine E_call rfl (tQ_int (by decide +kernel) (by decide +kernel) I.2 (top_int (as := [.ref 0, .int (xs ((i + 1))), .int (xs ((i + 2)))]) q512 (by decide +kernel) (by decide +kernel) I.1 ⟨rfl, aI _, aI _, trivial⟩)) (chkR (a := 0) I.1.1 rfl rfl rfl rfl (by show 0 ≤ 8; decide)) (fun h1 r1 => ?_)
  rintro ⟨I1, x1, f1⟩
  rw [f1]
  show Ends _ _ (1260, lv, [.int x1], h1, 599897, 7298671) _
  refine E_pop rfl rfl ?_
  refine E_al rfl L2 ?_
  refine E_alr rfl L0 ?_
  refine E_il rfl L3 ?_
  refine E_ci 1 rfl ci1 ?_
  refine E_bin rfl (nJ_add _ _) ?_
  refine E_sld rfl (by first | decide | with_reducible assumption | omega) hL ?_
  refine E_alr rfl L0 ?_
  refine E_il rfl L3 ?_
  refine E_ci 2 rfl ci2 ?_
  refine E_bin rfl (nJ_add _ _) ?_
  refine E_sld rfl (by first | decide | with_reducible assumption | omega) hL ?_
  refine E_call rfl (tQ_int (by decide +kernel) (by decide +kernel) I1.2 (top_int (as := [.ref 77, .int (xs ((i + 1))), .int (xs ((i + 2)))]) q515 (by decide +kernel) (by decide +kernel) I1.1 ⟨rfl, aI _, aI _, trivial⟩)) (chkR (a := 77) I1.1.1 rfl rfl rfl rfl (by show 0 ≤ 8; decide)) (fun h2 r2 => ?_)
  rintro ⟨I2, x2, f2⟩
  rw [f2]
  show Ends _ _ (1275, lv, [.int x2], h2, 599897, 7298671) _
  refine E_pop rfl rfl ?_
  refine E_goto rfl ?_
  exact K _ I2
set_option maxRecDepth 20000 in
theorem bl_41 {L : Nat} {xs : Nat → Int32} (hL : L ≤ 3072) {h : pm_H} {i : Nat} (hi : i + 6 ≤ L) (lv : List (Nat × Value)) (I : IVQ h) (L0 : pm_get lv 0 = some (.retAddr 0)) (L1 : pm_get lv 1 = some (.ref 0)) (L2 : pm_get lv 2 = some (.ref 77)) (L3 : pm_get lv 3 = some (.int (nJ i))) (K : ∀ h', IVQ h' → Ends (pm_tr (lb_all L xs)) (pm_Rt pm_P 100) (2392, lv, [], h', 599897, 7298671) RQ1) : Ends (pm_tr (lb_all L xs)) (pm_Rt pm_P 100) (1279, lv, [], h, 599897, 7298671) RQ1 := by
  refine E_al rfl L1 ?_
  refine E_alr rfl L0 ?_
  refine E_il rfl L3 ?_
  refine E_ci 1 rfl ci1 ?_
  refine E_bin rfl (nJ_add _ _) ?_
  refine E_sld rfl (by first | decide | with_reducible assumption | omega) hL ?_
  refine E_call rfl (tQ_int (by decide +kernel) (by decide +kernel) I.2 (top_int (as := [.ref 0, .int (xs ((i + 1)))]) q520 (by decide +kernel) (by decide +kernel) I.1 ⟨rfl, aI _, trivial⟩)) (chkR (a := 0) I.1.1 rfl rfl rfl rfl (by show 0 ≤ 8; decide)) (fun h1 r1 => ?_)
  rintro ⟨I1, x1, f1⟩
  rw [f1]
  show Ends _ _ (1288, lv, [.int x1], h1, 599897, 7298671) _
  refine E_pop rfl rfl ?_
  refine E_al rfl L2 ?_
  refine E_alr rfl L0 ?_
  refine E_il rfl L3 ?_
  refine E_ci 1 rfl ci1 ?_
  refine E_bin rfl (nJ_add _ _) ?_
  refine E_sld rfl (by first | decide | with_reducible assumption | omega) hL ?_
  refine E_call rfl (tQ_int (by decide +kernel) (by decide +kernel) I1.2 (top_int (as := [.ref 77, .int (xs ((i + 1)))]) q528 (by decide +kernel) (by decide +kernel) I1.1 ⟨rfl, aI _, trivial⟩)) (chkR (a := 77) I1.1.1 rfl rfl rfl rfl (by show 0 ≤ 8; decide)) (fun h2 r2 => ?_)
  rintro ⟨I2, x2, f2⟩
  rw [f2]
  show Ends _ _ (1298, lv, [.int x2], h2, 599897, 7298671) _
  refine E_pop rfl rfl ?_
  refine E_goto rfl ?_
  exact K _ I2
set_option maxRecDepth 20000 in
theorem bl_42 {L : Nat} {xs : Nat → Int32} (hL : L ≤ 3072) {h : pm_H} {i : Nat} (hi : i + 6 ≤ L) (lv : List (Nat × Value)) (I : IVQ h) (L0 : pm_get lv 0 = some (.retAddr 0)) (L1 : pm_get lv 1 = some (.ref 0)) (L2 : pm_get lv 2 = some (.ref 77)) (L3 : pm_get lv 3 = some (.int (nJ i))) (K : ∀ h', IVQ h' → Ends (pm_tr (lb_all L xs)) (pm_Rt pm_P 100) (2392, lv, [], h', 599897, 7298671) RQ1) : Ends (pm_tr (lb_all L xs)) (pm_Rt pm_P 100) (1302, lv, [], h, 599897, 7298671) RQ1 := by
  refine E_al rfl L1 ?_
  refine E_alr rfl L0 ?_
  refine E_il rfl L3 ?_
  refine E_ci 1 rfl ci1 ?_
  refine E_bin rfl (nJ_add _ _) ?_
  refine E_sld rfl (by first | decide | with_reducible assumption | omega) hL ?_
  refine E_call rfl (tQ_int (by decide +kernel) (by decide +kernel) I.2 (top_int (as := [.ref 0, .int (xs ((i + 1)))]) q530 (by decide +kernel) (by decide +kernel) I.1 ⟨rfl, aI _, trivial⟩)) (chkR (a := 0) I.1.1 rfl rfl rfl rfl (by show 0 ≤ 8; decide)) (fun h1 r1 => ?_)
  rintro ⟨I1, x1, f1⟩
  rw [f1]
  show Ends _ _ (1311, lv, [.int x1], h1, 599897, 7298671) _
  refine E_pop rfl rfl ?_
  refine E_al rfl L2 ?_
  refine E_alr rfl L0 ?_
  refine E_il rfl L3 ?_
  refine E_ci 1 rfl ci1 ?_
  refine E_bin rfl (nJ_add _ _) ?_
  refine E_sld rfl (by first | decide | with_reducible assumption | omega) hL ?_
  refine E_call rfl (tQ_int (by decide +kernel) (by decide +kernel) I1.2 (top_int (as := [.ref 77, .int (xs ((i + 1)))]) q533 (by decide +kernel) (by decide +kernel) I1.1 ⟨rfl, aI _, trivial⟩)) (chkR (a := 77) I1.1.1 rfl rfl rfl rfl (by show 0 ≤ 8; decide)) (fun h2 r2 => ?_)
  rintro ⟨I2, x2, f2⟩
  rw [f2]
  show Ends _ _ (1321, lv, [.int x2], h2, 599897, 7298671) _
  refine E_pop rfl rfl ?_
  refine E_goto rfl ?_
  exact K _ I2
set_option maxRecDepth 20000 in
theorem bl_43 {L : Nat} {xs : Nat → Int32} (hL : L ≤ 3072) {h : pm_H} {i : Nat} (hi : i + 6 ≤ L) (lv : List (Nat × Value)) (I : IVQ h) (L0 : pm_get lv 0 = some (.retAddr 0)) (L1 : pm_get lv 1 = some (.ref 0)) (L2 : pm_get lv 2 = some (.ref 77)) (L3 : pm_get lv 3 = some (.int (nJ i))) (K : ∀ h', IVQ h' → Ends (pm_tr (lb_all L xs)) (pm_Rt pm_P 100) (2392, lv, [], h', 599897, 7298671) RQ1) : Ends (pm_tr (lb_all L xs)) (pm_Rt pm_P 100) (1325, lv, [], h, 599897, 7298671) RQ1 := by
  refine E_al rfl L1 ?_
  refine E_call rfl (tQ_int (by decide +kernel) (by decide +kernel) I.2 (top_int (as := [.ref 0]) q534 (by decide +kernel) (by decide +kernel) I.1 ⟨rfl, trivial⟩)) (chkR (a := 0) I.1.1 rfl rfl rfl rfl (by show 0 ≤ 8; decide)) (fun h1 r1 => ?_)
  rintro ⟨I1, x1, f1⟩
  rw [f1]
  show Ends _ _ (1329, lv, [.int x1], h1, 599897, 7298671) _
  refine E_pop rfl rfl ?_
  refine E_al rfl L2 ?_
  refine E_call rfl (tQ_int (by decide +kernel) (by decide +kernel) I1.2 (top_int (as := [.ref 77]) q537 (by decide +kernel) (by decide +kernel) I1.1 ⟨rfl, trivial⟩)) (chkR (a := 77) I1.1.1 rfl rfl rfl rfl (by show 0 ≤ 8; decide)) (fun h2 r2 => ?_)
  rintro ⟨I2, x2, f2⟩
  rw [f2]
  show Ends _ _ (1334, lv, [.int x2], h2, 599897, 7298671) _
  refine E_pop rfl rfl ?_
  refine E_goto rfl ?_
  exact K _ I2
set_option maxRecDepth 20000 in
theorem bl_44 {L : Nat} {xs : Nat → Int32} (hL : L ≤ 3072) {h : pm_H} {i : Nat} (hi : i + 6 ≤ L) (lv : List (Nat × Value)) (I : IVQ h) (L0 : pm_get lv 0 = some (.retAddr 0)) (L1 : pm_get lv 1 = some (.ref 0)) (L2 : pm_get lv 2 = some (.ref 77)) (L3 : pm_get lv 3 = some (.int (nJ i))) (K : ∀ h', IVQ h' → Ends (pm_tr (lb_all L xs)) (pm_Rt pm_P 100) (2392, lv, [], h', 599897, 7298671) RQ1) : Ends (pm_tr (lb_all L xs)) (pm_Rt pm_P 100) (1338, lv, [], h, 599897, 7298671) RQ1 := by
  refine E_al rfl L1 ?_
  refine E_alr rfl L0 ?_
  refine E_il rfl L3 ?_
  refine E_ci 1 rfl ci1 ?_
  refine E_bin rfl (nJ_add _ _) ?_
  refine E_sld rfl (by first | decide | with_reducible assumption | omega) hL ?_
  refine E_call rfl (tQ_int (by decide +kernel) (by decide +kernel) I.2 (top_int (as := [.ref 0, .int (xs ((i + 1)))]) q540 (by decide +kernel) (by decide +kernel) I.1 ⟨rfl, aI _, trivial⟩)) (chkR (a := 0) I.1.1 rfl rfl rfl rfl (by show 0 ≤ 8; decide)) (fun h1 r1 => ?_)
  rintro ⟨I1, x1, f1⟩
  rw [f1]
  show Ends _ _ (1347, lv, [.int x1], h1, 599897, 7298671) _
  refine E_pop rfl rfl ?_
  refine E_al rfl L2 ?_
  refine E_alr rfl L0 ?_
  refine E_il rfl L3 ?_
  refine E_ci 1 rfl ci1 ?_
  refine E_bin rfl (nJ_add _ _) ?_
  refine E_sld rfl (by first | decide | with_reducible assumption | omega) hL ?_
  refine E_call rfl (tQ_int (by decide +kernel) (by decide +kernel) I1.2 (top_int (as := [.ref 77, .int (xs ((i + 1)))]) q544 (by decide +kernel) (by decide +kernel) I1.1 ⟨rfl, aI _, trivial⟩)) (chkR (a := 77) I1.1.1 rfl rfl rfl rfl (by show 0 ≤ 8; decide)) (fun h2 r2 => ?_)
  rintro ⟨I2, x2, f2⟩
  rw [f2]
  show Ends _ _ (1357, lv, [.int x2], h2, 599897, 7298671) _
  refine E_pop rfl rfl ?_
  refine E_goto rfl ?_
  exact K _ I2
set_option maxRecDepth 20000 in
theorem bl_45 {L : Nat} {xs : Nat → Int32} (hL : L ≤ 3072) {h : pm_H} {i : Nat} (hi : i + 6 ≤ L) (lv : List (Nat × Value)) (I : IVQ h) (L0 : pm_get lv 0 = some (.retAddr 0)) (L1 : pm_get lv 1 = some (.ref 0)) (L2 : pm_get lv 2 = some (.ref 77)) (L3 : pm_get lv 3 = some (.int (nJ i))) (K : ∀ h', IVQ h' → Ends (pm_tr (lb_all L xs)) (pm_Rt pm_P 100) (2392, lv, [], h', 599897, 7298671) RQ1) : Ends (pm_tr (lb_all L xs)) (pm_Rt pm_P 100) (1361, lv, [], h, 599897, 7298671) RQ1 := by
  refine E_al rfl L1 ?_
  refine E_call rfl (tQ_int (by decide +kernel) (by decide +kernel) I.2 (top_int (as := [.ref 0]) q550 (by decide +kernel) (by decide +kernel) I.1 ⟨rfl, trivial⟩)) (chkR (a := 0) I.1.1 rfl rfl rfl rfl (by show 0 ≤ 8; decide)) (fun h1 r1 => ?_)
  rintro ⟨I1, x1, f1⟩
  rw [f1]
  show Ends _ _ (1365, lv, [.int x1], h1, 599897, 7298671) _
  refine E_pop rfl rfl ?_
  refine E_al rfl L2 ?_
  refine E_call rfl (tQ_int (by decide +kernel) (by decide +kernel) I1.2 (top_int (as := [.ref 77]) q556 (by decide +kernel) (by decide +kernel) I1.1 ⟨rfl, trivial⟩)) (chkR (a := 77) I1.1.1 rfl rfl rfl rfl (by show 0 ≤ 8; decide)) (fun h2 r2 => ?_)
  rintro ⟨I2, x2, f2⟩
  rw [f2]
  show Ends _ _ (1370, lv, [.int x2], h2, 599897, 7298671) _
  refine E_pop rfl rfl ?_
  refine E_goto rfl ?_
  exact K _ I2
set_option maxRecDepth 20000 in
theorem bl_46 {L : Nat} {xs : Nat → Int32} (hL : L ≤ 3072) {h : pm_H} {i : Nat} (hi : i + 6 ≤ L) (lv : List (Nat × Value)) (I : IVQ h) (L0 : pm_get lv 0 = some (.retAddr 0)) (L1 : pm_get lv 1 = some (.ref 0)) (L2 : pm_get lv 2 = some (.ref 77)) (L3 : pm_get lv 3 = some (.int (nJ i))) (K : ∀ h', IVQ h' → Ends (pm_tr (lb_all L xs)) (pm_Rt pm_P 100) (2392, lv, [], h', 599897, 7298671) RQ1) : Ends (pm_tr (lb_all L xs)) (pm_Rt pm_P 100) (1374, lv, [], h, 599897, 7298671) RQ1 := by
  refine E_al rfl L1 ?_
  refine E_alr rfl L0 ?_
  refine E_il rfl L3 ?_
  refine E_ci 1 rfl ci1 ?_
  refine E_bin rfl (nJ_add _ _) ?_
  refine E_sld rfl (by first | decide | with_reducible assumption | omega) hL ?_
  refine E_alr rfl L0 ?_
  refine E_il rfl L3 ?_
  refine E_ci 2 rfl ci2 ?_
  refine E_bin rfl (nJ_add _ _) ?_
  refine E_sld rfl (by first | decide | with_reducible assumption | omega) hL ?_
  refine E_call rfl (tQ_int (by decide +kernel) (by decide +kernel) I.2 (top_int (as := [.ref 0, .int (xs ((i + 1))), .int (xs ((i + 2)))]) q558 (by decide +kernel) (by decide +kernel) I.1 ⟨rfl, aI _, aI _, trivial⟩)) (chkR (a := 0) I.1.1 rfl rfl rfl rfl (by show 0 ≤ 8; decide)) (fun h1 r1 => ?_)
  rintro ⟨I1, x1, f1⟩
  rw [f1]
  show Ends _ _ (1388, lv, [.int x1], h1, 599897, 7298671) _
  refine E_pop rfl rfl ?_
  refine E_al rfl L2 ?_
  refine E_alr rfl L0 ?_
  refine E_il rfl L3 ?_
  refine E_ci 1 rfl ci1 ?_
  refine E_bin rfl (nJ_add _ _) ?_
  refine E_sld rfl (by first | decide | with_reducible assumption | omega) hL ?_
  refine E_alr rfl L0 ?_
  refine E_il rfl L3 ?_
  refine E_ci 2 rfl ci2 ?_
  refine E_bin rfl (nJ_add _ _) ?_
  refine E_sld rfl (by first | decide | with_reducible assumption | omega) hL ?_
  refine E_call rfl (tQ_int (by decide +kernel) (by decide +kernel) I1.2 (top_int (as := [.ref 77, .int (xs ((i + 1))), .int (xs ((i + 2)))]) q564 (by decide +kernel) (by decide +kernel) I1.1 ⟨rfl, aI _, aI _, trivial⟩)) (chkR (a := 77) I1.1.1 rfl rfl rfl rfl (by show 0 ≤ 8; decide)) (fun h2 r2 => ?_)
  rintro ⟨I2, x2, f2⟩
  rw [f2]
  show Ends _ _ (1403, lv, [.int x2], h2, 599897, 7298671) _
  refine E_pop rfl rfl ?_
  refine E_goto rfl ?_
  exact K _ I2
set_option maxRecDepth 20000 in
theorem bl_47 {L : Nat} {xs : Nat → Int32} (hL : L ≤ 3072) {h : pm_H} {i : Nat} (hi : i + 6 ≤ L) (lv : List (Nat × Value)) (I : IVQ h) (L0 : pm_get lv 0 = some (.retAddr 0)) (L1 : pm_get lv 1 = some (.ref 0)) (L2 : pm_get lv 2 = some (.ref 77)) (L3 : pm_get lv 3 = some (.int (nJ i))) (K : ∀ h', IVQ h' → Ends (pm_tr (lb_all L xs)) (pm_Rt pm_P 100) (2392, lv, [], h', 599897, 7298671) RQ1) : Ends (pm_tr (lb_all L xs)) (pm_Rt pm_P 100) (1407, lv, [], h, 599897, 7298671) RQ1 := by
  refine E_al rfl L1 ?_
  refine E_alr rfl L0 ?_
  refine E_il rfl L3 ?_
  refine E_ci 1 rfl ci1 ?_
  refine E_bin rfl (nJ_add _ _) ?_
  refine E_sld rfl (by first | decide | with_reducible assumption | omega) hL ?_
  refine E_alr rfl L0 ?_
  refine E_il rfl L3 ?_
  refine E_ci 2 rfl ci2 ?_
  refine E_bin rfl (nJ_add _ _) ?_
  refine E_sld rfl (by first | decide | with_reducible assumption | omega) hL ?_
  refine E_call rfl (tQ_int (by decide +kernel) (by decide +kernel) I.2 (top_int (as := [.ref 0, .int (xs ((i + 1))), .int (xs ((i + 2)))]) q566 (by decide +kernel) (by decide +kernel) I.1 ⟨rfl, aI _, aI _, trivial⟩)) (chkR (a := 0) I.1.1 rfl rfl rfl rfl (by show 0 ≤ 8; decide)) (fun h1 r1 => ?_)
  rintro ⟨I1, x1, f1⟩
  rw [f1]
  show Ends _ _ (1421, lv, [.int x1], h1, 599897, 7298671) _
  refine E_pop rfl rfl ?_
  refine E_al rfl L2 ?_
  refine E_alr rfl L0 ?_
  refine E_il rfl L3 ?_
  refine E_ci 1 rfl ci1 ?_
  refine E_bin rfl (nJ_add _ _) ?_
  refine E_sld rfl (by first | decide | with_reducible assumption | omega) hL ?_
  refine E_alr rfl L0 ?_
  refine E_il rfl L3 ?_
  refine E_ci 2 rfl ci2 ?_
  refine E_bin rfl (nJ_add _ _) ?_
  refine E_sld rfl (by first | decide | with_reducible assumption | omega) hL ?_
  refine E_call rfl (tQ_int (by decide +kernel) (by decide +kernel) I1.2 (top_int (as := [.ref 77, .int (xs ((i + 1))), .int (xs ((i + 2)))]) q568 (by decide +kernel) (by decide +kernel) I1.1 ⟨rfl, aI _, aI _, trivial⟩)) (chkR (a := 77) I1.1.1 rfl rfl rfl rfl (by show 0 ≤ 8; decide)) (fun h2 r2 => ?_)
  rintro ⟨I2, x2, f2⟩
  rw [f2]
  show Ends _ _ (1436, lv, [.int x2], h2, 599897, 7298671) _
  refine E_pop rfl rfl ?_
  refine E_goto rfl ?_
  exact K _ I2
set_option maxRecDepth 20000 in
theorem bl_48 {L : Nat} {xs : Nat → Int32} (hL : L ≤ 3072) {h : pm_H} {i : Nat} (hi : i + 6 ≤ L) (lv : List (Nat × Value)) (I : IVQ h) (L0 : pm_get lv 0 = some (.retAddr 0)) (L1 : pm_get lv 1 = some (.ref 0)) (L2 : pm_get lv 2 = some (.ref 77)) (L3 : pm_get lv 3 = some (.int (nJ i))) (K : ∀ h', IVQ h' → Ends (pm_tr (lb_all L xs)) (pm_Rt pm_P 100) (2392, lv, [], h', 599897, 7298671) RQ1) : Ends (pm_tr (lb_all L xs)) (pm_Rt pm_P 100) (1440, lv, [], h, 599897, 7298671) RQ1 := by
  refine E_al rfl L1 ?_
  refine E_call rfl (tQ_int (by decide +kernel) (by decide +kernel) I.2 (top_int (as := [.ref 0]) q576 (by decide +kernel) (by decide +kernel) I.1 ⟨rfl, trivial⟩)) (chkR (a := 0) I.1.1 rfl rfl rfl rfl (by show 0 ≤ 8; decide)) (fun h1 r1 => ?_)
  rintro ⟨I1, x1, f1⟩
  rw [f1]
  show Ends _ _ (1444, lv, [.int x1], h1, 599897, 7298671) _
  refine E_pop rfl rfl ?_
  refine E_al rfl L2 ?_
  refine E_call rfl (tQ_int (by decide +kernel) (by decide +kernel) I1.2 (top_int (as := [.ref 77]) q577 (by decide +kernel) (by decide +kernel) I1.1 ⟨rfl, trivial⟩)) (chkR (a := 77) I1.1.1 rfl rfl rfl rfl (by show 0 ≤ 8; decide)) (fun h2 r2 => ?_)
  rintro ⟨I2, x2, f2⟩
  rw [f2]
  show Ends _ _ (1449, lv, [.int x2], h2, 599897, 7298671) _
  refine E_pop rfl rfl ?_
  refine E_goto rfl ?_
  exact K _ I2
set_option maxRecDepth 20000 in
theorem bl_49 {L : Nat} {xs : Nat → Int32} (hL : L ≤ 3072) {h : pm_H} {i : Nat} (hi : i + 6 ≤ L) (lv : List (Nat × Value)) (I : IVQ h) (L0 : pm_get lv 0 = some (.retAddr 0)) (L1 : pm_get lv 1 = some (.ref 0)) (L2 : pm_get lv 2 = some (.ref 77)) (L3 : pm_get lv 3 = some (.int (nJ i))) (K : ∀ h', IVQ h' → Ends (pm_tr (lb_all L xs)) (pm_Rt pm_P 100) (2392, lv, [], h', 599897, 7298671) RQ1) : Ends (pm_tr (lb_all L xs)) (pm_Rt pm_P 100) (1453, lv, [], h, 599897, 7298671) RQ1 := by
  refine E_al rfl L1 ?_
  refine E_alr rfl L0 ?_
  refine E_il rfl L3 ?_
  refine E_ci 1 rfl ci1 ?_
  refine E_bin rfl (nJ_add _ _) ?_
  refine E_sld rfl (by first | decide | with_reducible assumption | omega) hL ?_
  refine E_call rfl (tQ_int (by decide +kernel) (by decide +kernel) I.2 (top_int (as := [.ref 0, .int (xs ((i + 1)))]) q580 (by decide +kernel) (by decide +kernel) I.1 ⟨rfl, aI _, trivial⟩)) (chkR (a := 0) I.1.1 rfl rfl rfl rfl (by show 0 ≤ 8; decide)) (fun h1 r1 => ?_)
  rintro ⟨I1, x1, f1⟩
  rw [f1]
  show Ends _ _ (1462, lv, [.int x1], h1, 599897, 7298671) _
  refine E_pop rfl rfl ?_
  refine E_al rfl L2 ?_
  refine E_alr rfl L0 ?_
  refine E_il rfl L3 ?_
  refine E_ci 1 rfl ci1 ?_
  refine E_bin rfl (nJ_add _ _) ?_
  refine E_sld rfl (by first | decide | with_reducible assumption | omega) hL ?_
  refine E_call rfl (tQ_int (by decide +kernel) (by decide +kernel) I1.2 (top_int (as := [.ref 77, .int (xs ((i + 1)))]) q585 (by decide +kernel) (by decide +kernel) I1.1 ⟨rfl, aI _, trivial⟩)) (chkR (a := 77) I1.1.1 rfl rfl rfl rfl (by show 0 ≤ 8; decide)) (fun h2 r2 => ?_)
  rintro ⟨I2, x2, f2⟩
  rw [f2]
  show Ends _ _ (1472, lv, [.int x2], h2, 599897, 7298671) _
  refine E_pop rfl rfl ?_
  refine E_goto rfl ?_
  exact K _ I2
set_option maxRecDepth 20000 in
theorem bl_50 {L : Nat} {xs : Nat → Int32} (hL : L ≤ 3072) {h : pm_H} {i : Nat} (hi : i + 6 ≤ L) (lv : List (Nat × Value)) (I : IVQ h) (L0 : pm_get lv 0 = some (.retAddr 0)) (L1 : pm_get lv 1 = some (.ref 0)) (L2 : pm_get lv 2 = some (.ref 77)) (L3 : pm_get lv 3 = some (.int (nJ i))) (K : ∀ h', IVQ h' → Ends (pm_tr (lb_all L xs)) (pm_Rt pm_P 100) (2392, lv, [], h', 599897, 7298671) RQ1) : Ends (pm_tr (lb_all L xs)) (pm_Rt pm_P 100) (1476, lv, [], h, 599897, 7298671) RQ1 := by
  refine E_al rfl L1 ?_
  refine E_alr rfl L0 ?_
  refine E_il rfl L3 ?_
  refine E_ci 1 rfl ci1 ?_
  refine E_bin rfl (nJ_add _ _) ?_
  refine E_sld rfl (by first | decide | with_reducible assumption | omega) hL ?_
  refine E_alr rfl L0 ?_
  refine E_il rfl L3 ?_
  refine E_ci 2 rfl ci2 ?_
  refine E_bin rfl (nJ_add _ _) ?_
  refine E_sld rfl (by first | decide | with_reducible assumption | omega) hL ?_
  refine E_call rfl (tQ_int (by decide +kernel) (by decide +kernel) I.2 (top_int (as := [.ref 0, .int (xs ((i + 1))), .int (xs ((i + 2)))]) q593 (by decide +kernel) (by decide +kernel) I.1 ⟨rfl, aI _, aI _, trivial⟩)) (chkR (a := 0) I.1.1 rfl rfl rfl rfl (by show 0 ≤ 8; decide)) (fun h1 r1 => ?_)
  rintro ⟨I1, x1, f1⟩
  rw [f1]
  show Ends _ _ (1490, lv, [.int x1], h1, 599897, 7298671) _
  refine E_pop rfl rfl ?_
  refine E_al rfl L2 ?_
  refine E_alr rfl L0 ?_
  refine E_il rfl L3 ?_
  refine E_ci 1 rfl ci1 ?_
  refine E_bin rfl (nJ_add _ _) ?_
  refine E_sld rfl (by first | decide | with_reducible assumption | omega) hL ?_
  refine E_alr rfl L0 ?_
  refine E_il rfl L3 ?_
  refine E_ci 2 rfl ci2 ?_
  refine E_bin rfl (nJ_add _ _) ?_
  refine E_sld rfl (by first | decide | with_reducible assumption | omega) hL ?_
  refine E_call rfl (tQ_int (by decide +kernel) (by decide +kernel) I1.2 (top_int (as := [.ref 77, .int (xs ((i + 1))), .int (xs ((i + 2)))]) q595 (by decide +kernel) (by decide +kernel) I1.1 ⟨rfl, aI _, aI _, trivial⟩)) (chkR (a := 77) I1.1.1 rfl rfl rfl rfl (by show 0 ≤ 8; decide)) (fun h2 r2 => ?_)
  rintro ⟨I2, x2, f2⟩
  rw [f2]
  show Ends _ _ (1505, lv, [.int x2], h2, 599897, 7298671) _
  refine E_pop rfl rfl ?_
  refine E_goto rfl ?_
  exact K _ I2
set_option maxRecDepth 20000 in
theorem bl_51 {L : Nat} {xs : Nat → Int32} (hL : L ≤ 3072) {h : pm_H} {i : Nat} (hi : i + 6 ≤ L) (lv : List (Nat × Value)) (I : IVQ h) (L0 : pm_get lv 0 = some (.retAddr 0)) (L1 : pm_get lv 1 = some (.ref 0)) (L2 : pm_get lv 2 = some (.ref 77)) (L3 : pm_get lv 3 = some (.int (nJ i))) (K : ∀ h', IVQ h' → Ends (pm_tr (lb_all L xs)) (pm_Rt pm_P 100) (2392, lv, [], h', 599897, 7298671) RQ1) : Ends (pm_tr (lb_all L xs)) (pm_Rt pm_P 100) (1509, lv, [], h, 599897, 7298671) RQ1 := by
  refine E_al rfl L1 ?_
  refine E_call rfl (tQ_int (by decide +kernel) (by decide +kernel) I.2 (top_int (as := [.ref 0]) q599 (by decide +kernel) (by decide +kernel) I.1 ⟨rfl, trivial⟩)) (chkR (a := 0) I.1.1 rfl rfl rfl rfl (by show 0 ≤ 8; decide)) (fun h1 r1 => ?_)
  rintro ⟨I1, x1, f1⟩
  rw [f1]
  show Ends _ _ (1513, lv, [.int x1], h1, 599897, 7298671) _
  refine E_pop rfl rfl ?_
  refine E_al rfl L2 ?_
  refine E_call rfl (tQ_int (by decide +kernel) (by decide +kernel) I1.2 (top_int (as := [.ref 77]) q602 (by decide +kernel) (by decide +kernel) I1.1 ⟨rfl, trivial⟩)) (chkR (a := 77) I1.1.1 rfl rfl rfl rfl (by show 0 ≤ 8; decide)) (fun h2 r2 => ?_)
  rintro ⟨I2, x2, f2⟩
  rw [f2]
  show Ends _ _ (1518, lv, [.int x2], h2, 599897, 7298671) _
  refine E_pop rfl rfl ?_
  refine E_goto rfl ?_
  exact K _ I2
set_option maxRecDepth 20000 in
theorem bl_52 {L : Nat} {xs : Nat → Int32} (hL : L ≤ 3072) {h : pm_H} {i : Nat} (hi : i + 6 ≤ L) (lv : List (Nat × Value)) (I : IVQ h) (L0 : pm_get lv 0 = some (.retAddr 0)) (L1 : pm_get lv 1 = some (.ref 0)) (L2 : pm_get lv 2 = some (.ref 77)) (L3 : pm_get lv 3 = some (.int (nJ i))) (K : ∀ h', IVQ h' → Ends (pm_tr (lb_all L xs)) (pm_Rt pm_P 100) (2392, lv, [], h', 599897, 7298671) RQ1) : Ends (pm_tr (lb_all L xs)) (pm_Rt pm_P 100) (1522, lv, [], h, 599897, 7298671) RQ1 := by
  refine E_al rfl L1 ?_
  refine E_call rfl (tQ_int (by decide +kernel) (by decide +kernel) I.2 (top_int (as := [.ref 0]) q603 (by decide +kernel) (by decide +kernel) I.1 ⟨rfl, trivial⟩)) (chkR (a := 0) I.1.1 rfl rfl rfl rfl (by show 0 ≤ 8; decide)) (fun h1 r1 => ?_)
  rintro ⟨I1, x1, f1⟩
  rw [f1]
  show Ends _ _ (1526, lv, [.int x1], h1, 599897, 7298671) _
  refine E_pop rfl rfl ?_
  refine E_al rfl L2 ?_
  refine E_call rfl (tQ_int (by decide +kernel) (by decide +kernel) I1.2 (top_int (as := [.ref 77]) q604 (by decide +kernel) (by decide +kernel) I1.1 ⟨rfl, trivial⟩)) (chkR (a := 77) I1.1.1 rfl rfl rfl rfl (by show 0 ≤ 8; decide)) (fun h2 r2 => ?_)
  rintro ⟨I2, x2, f2⟩
  rw [f2]
  show Ends _ _ (1531, lv, [.int x2], h2, 599897, 7298671) _
  refine E_pop rfl rfl ?_
  refine E_goto rfl ?_
  exact K _ I2
set_option maxRecDepth 20000 in
theorem bl_53 {L : Nat} {xs : Nat → Int32} (hL : L ≤ 3072) {h : pm_H} {i : Nat} (hi : i + 6 ≤ L) (lv : List (Nat × Value)) (I : IVQ h) (L0 : pm_get lv 0 = some (.retAddr 0)) (L1 : pm_get lv 1 = some (.ref 0)) (L2 : pm_get lv 2 = some (.ref 77)) (L3 : pm_get lv 3 = some (.int (nJ i))) (K : ∀ h', IVQ h' → Ends (pm_tr (lb_all L xs)) (pm_Rt pm_P 100) (2392, lv, [], h', 599897, 7298671) RQ1) : Ends (pm_tr (lb_all L xs)) (pm_Rt pm_P 100) (1535, lv, [], h, 599897, 7298671) RQ1 := by
  refine E_al rfl L1 ?_
  refine E_call rfl (tQ_int (by decide +kernel) (by decide +kernel) I.2 (top_int (as := [.ref 0]) q605 (by decide +kernel) (by decide +kernel) I.1 ⟨rfl, trivial⟩)) (chkR (a := 0) I.1.1 rfl rfl rfl rfl (by show 0 ≤ 8; decide)) (fun h1 r1 => ?_)
  rintro ⟨I1, x1, f1⟩
  rw [f1]
  show Ends _ _ (1539, lv, [.int x1], h1, 599897, 7298671) _
  refine E_pop rfl rfl ?_
  refine E_al rfl L2 ?_
  refine E_call rfl (tQ_int (by decide +kernel) (by decide +kernel) I1.2 (top_int (as := [.ref 77]) q606 (by decide +kernel) (by decide +kernel) I1.1 ⟨rfl, trivial⟩)) (chkR (a := 77) I1.1.1 rfl rfl rfl rfl (by show 0 ≤ 8; decide)) (fun h2 r2 => ?_)
  rintro ⟨I2, x2, f2⟩
  rw [f2]
  show Ends _ _ (1544, lv, [.int x2], h2, 599897, 7298671) _
  refine E_pop rfl rfl ?_
  refine E_goto rfl ?_
  exact K _ I2
set_option maxRecDepth 20000 in
theorem bl_54 {L : Nat} {xs : Nat → Int32} (hL : L ≤ 3072) {h : pm_H} {i : Nat} (hi : i + 6 ≤ L) (lv : List (Nat × Value)) (I : IVQ h) (L0 : pm_get lv 0 = some (.retAddr 0)) (L1 : pm_get lv 1 = some (.ref 0)) (L2 : pm_get lv 2 = some (.ref 77)) (L3 : pm_get lv 3 = some (.int (nJ i))) (K : ∀ h', IVQ h' → Ends (pm_tr (lb_all L xs)) (pm_Rt pm_P 100) (2392, lv, [], h', 599897, 7298671) RQ1) : Ends (pm_tr (lb_all L xs)) (pm_Rt pm_P 100) (1548, lv, [], h, 599897, 7298671) RQ1 := by
  refine E_al rfl L1 ?_
  refine E_call rfl (tQ_int (by decide +kernel) (by decide +kernel) I.2 (top_int (as := [.ref 0]) q615 (by decide +kernel) (by decide +kernel) I.1 ⟨rfl, trivial⟩)) (chkR (a := 0) I.1.1 rfl rfl rfl rfl (by show 0 ≤ 8; decide)) (fun h1 r1 => ?_)
  rintro ⟨I1, x1, f1⟩
  rw [f1]
  show Ends _ _ (1552, lv, [.int x1], h1, 599897, 7298671) _
  refine E_pop rfl rfl ?_
  refine E_al rfl L2 ?_
  refine E_call rfl (tQ_int (by decide +kernel) (by decide +kernel) I1.2 (top_int (as := [.ref 77]) q619 (by decide +kernel) (by decide +kernel) I1.1 ⟨rfl, trivial⟩)) (chkR (a := 77) I1.1.1 rfl rfl rfl rfl (by show 0 ≤ 8; decide)) (fun h2 r2 => ?_)
  rintro ⟨I2, x2, f2⟩
  rw [f2]
  show Ends _ _ (1557, lv, [.int x2], h2, 599897, 7298671) _
  refine E_pop rfl rfl ?_
  refine E_goto rfl ?_
  exact K _ I2
set_option maxRecDepth 20000 in
theorem bl_55 {L : Nat} {xs : Nat → Int32} (hL : L ≤ 3072) {h : pm_H} {i : Nat} (hi : i + 6 ≤ L) (lv : List (Nat × Value)) (I : IVQ h) (L0 : pm_get lv 0 = some (.retAddr 0)) (L1 : pm_get lv 1 = some (.ref 0)) (L2 : pm_get lv 2 = some (.ref 77)) (L3 : pm_get lv 3 = some (.int (nJ i))) (K : ∀ h', IVQ h' → Ends (pm_tr (lb_all L xs)) (pm_Rt pm_P 100) (2392, lv, [], h', 599897, 7298671) RQ1) : Ends (pm_tr (lb_all L xs)) (pm_Rt pm_P 100) (1561, lv, [], h, 599897, 7298671) RQ1 := by
  refine E_al rfl L1 ?_
  refine E_call rfl (tQ_int (by decide +kernel) (by decide +kernel) I.2 (top_int (as := [.ref 0]) q621 (by decide +kernel) (by decide +kernel) I.1 ⟨rfl, trivial⟩)) (chkR (a := 0) I.1.1 rfl rfl rfl rfl (by show 0 ≤ 8; decide)) (fun h1 r1 => ?_)
  rintro ⟨I1, x1, f1⟩
  rw [f1]
  show Ends _ _ (1565, lv, [.int x1], h1, 599897, 7298671) _
  refine E_pop rfl rfl ?_
  refine E_al rfl L2 ?_
  refine E_call rfl (tQ_int (by decide +kernel) (by decide +kernel) I1.2 (top_int (as := [.ref 77]) q623 (by decide +kernel) (by decide +kernel) I1.1 ⟨rfl, trivial⟩)) (chkR (a := 77) I1.1.1 rfl rfl rfl rfl (by show 0 ≤ 8; decide)) (fun h2 r2 => ?_)
  rintro ⟨I2, x2, f2⟩
  rw [f2]
  show Ends _ _ (1570, lv, [.int x2], h2, 599897, 7298671) _
  refine E_pop rfl rfl ?_
  refine E_goto rfl ?_
  exact K _ I2
set_option maxRecDepth 20000 in
theorem bl_56 {L : Nat} {xs : Nat → Int32} (hL : L ≤ 3072) {h : pm_H} {i : Nat} (hi : i + 6 ≤ L) (lv : List (Nat × Value)) (I : IVQ h) (L0 : pm_get lv 0 = some (.retAddr 0)) (L1 : pm_get lv 1 = some (.ref 0)) (L2 : pm_get lv 2 = some (.ref 77)) (L3 : pm_get lv 3 = some (.int (nJ i))) (K : ∀ h', IVQ h' → Ends (pm_tr (lb_all L xs)) (pm_Rt pm_P 100) (2392, lv, [], h', 599897, 7298671) RQ1) : Ends (pm_tr (lb_all L xs)) (pm_Rt pm_P 100) (1574, lv, [], h, 599897, 7298671) RQ1 := by
  refine E_al rfl L1 ?_
  refine E_call rfl (g8_blame I) (chkR (a := 0) I.1.1 rfl rfl rfl rfl (by show 0 ≤ 8; decide)) (fun h1 r1 => ?_)
  rintro ⟨I1, x1, f1, J1⟩
  rw [f1]
  show Ends _ _ (1578, lv, [.int x1], h1, 599897, 7298671) _
  refine E_al rfl L2 ?_
  refine E_call rfl (g9_blame I1 J1) (chkR (a := 77) I1.1 rfl rfl rfl rfl (by show 1 ≤ 8; decide)) (fun h2 r2 => ?_)
  rintro ⟨I2, f2⟩
  rw [f2]
  show Ends _ _ (1582, lv, [.int x1, .int x1], h2, 599897, 7298671) _
  refine E_icT rfl (decide_eq_true rfl) ?_
  exact K _ I2
set_option maxRecDepth 20000 in
theorem bl_57 {L : Nat} {xs : Nat → Int32} (hL : L ≤ 3072) {h : pm_H} {i : Nat} (hi : i + 6 ≤ L) (lv : List (Nat × Value)) (I : IVQ h) (L0 : pm_get lv 0 = some (.retAddr 0)) (L1 : pm_get lv 1 = some (.ref 0)) (L2 : pm_get lv 2 = some (.ref 77)) (L3 : pm_get lv 3 = some (.int (nJ i))) (K : ∀ h', IVQ h' → Ends (pm_tr (lb_all L xs)) (pm_Rt pm_P 100) (2392, lv, [], h', 599897, 7298671) RQ1) : Ends (pm_tr (lb_all L xs)) (pm_Rt pm_P 100) (1587, lv, [], h, 599897, 7298671) RQ1 := by
  refine E_al rfl L1 ?_
  refine E_alr rfl L0 ?_
  refine E_il rfl L3 ?_
  refine E_ci 1 rfl ci1 ?_
  refine E_bin rfl (nJ_add _ _) ?_
  refine E_sld rfl (by first | decide | with_reducible assumption | omega) hL ?_
  refine E_alr rfl L0 ?_
  refine E_il rfl L3 ?_
  refine E_ci 2 rfl ci2 ?_
  refine E_bin rfl (nJ_add _ _) ?_
  refine E_sld rfl (by first | decide | with_reducible assumption | omega) hL ?_
  refine E_call rfl (tQ_int (by decide +kernel) (by decide +kernel) I.2 (top_int (as := [.ref 0, .int (xs ((i + 1))), .int (xs ((i + 2)))]) q638 (by decide +kernel) (by decide +kernel) I.1 ⟨rfl, aI _, aI _, trivial⟩)) (chkR (a := 0) I.1.1 rfl rfl rfl rfl (by show 0 ≤ 8; decide)) (fun h1 r1 => ?_)
  rintro ⟨I1, x1, f1⟩
  rw [f1]
  show Ends _ _ (1601, lv, [.int x1], h1, 599897, 7298671) _
  refine E_pop rfl rfl ?_
  refine E_al rfl L2 ?_
  refine E_alr rfl L0 ?_
  refine E_il rfl L3 ?_
  refine E_ci 1 rfl ci1 ?_
  refine E_bin rfl (nJ_add _ _) ?_
  refine E_sld rfl (by first | decide | with_reducible assumption | omega) hL ?_
  refine E_alr rfl L0 ?_
  refine E_il rfl L3 ?_
  refine E_ci 2 rfl ci2 ?_
  refine E_bin rfl (nJ_add _ _) ?_
  refine E_sld rfl (by first | decide | with_reducible assumption | omega) hL ?_
  refine E_call rfl (tQ_int (by decide +kernel) (by decide +kernel) I1.2 (top_int (as := [.ref 77, .int (xs ((i + 1))), .int (xs ((i + 2)))]) q656 (by decide +kernel) (by decide +kernel) I1.1 ⟨rfl, aI _, aI _, trivial⟩)) (chkR (a := 77) I1.1.1 rfl rfl rfl rfl (by show 0 ≤ 8; decide)) (fun h2 r2 => ?_)
  rintro ⟨I2, x2, f2⟩
  rw [f2]
  show Ends _ _ (1616, lv, [.int x2], h2, 599897, 7298671) _
  refine E_pop rfl rfl ?_
  refine E_goto rfl ?_
  exact K _ I2
set_option maxRecDepth 20000 in
theorem bl_58 {L : Nat} {xs : Nat → Int32} (hL : L ≤ 3072) {h : pm_H} {i : Nat} (hi : i + 6 ≤ L) (lv : List (Nat × Value)) (I : IVQ h) (L0 : pm_get lv 0 = some (.retAddr 0)) (L1 : pm_get lv 1 = some (.ref 0)) (L2 : pm_get lv 2 = some (.ref 77)) (L3 : pm_get lv 3 = some (.int (nJ i))) (K : ∀ h', IVQ h' → Ends (pm_tr (lb_all L xs)) (pm_Rt pm_P 100) (2392, lv, [], h', 599897, 7298671) RQ1) : Ends (pm_tr (lb_all L xs)) (pm_Rt pm_P 100) (1620, lv, [], h, 599897, 7298671) RQ1 := by
  refine E_al rfl L1 ?_
  refine E_alr rfl L0 ?_
  refine E_il rfl L3 ?_
  refine E_ci 1 rfl ci1 ?_
  refine E_bin rfl (nJ_add _ _) ?_
  refine E_sld rfl (by first | decide | with_reducible assumption | omega) hL ?_
  refine E_alr rfl L0 ?_
  refine E_il rfl L3 ?_
  refine E_ci 2 rfl ci2 ?_
  refine E_bin rfl (nJ_add _ _) ?_
  refine E_sld rfl (by first | decide | with_reducible assumption | omega) hL ?_
  refine E_call rfl (tQ_int (by decide +kernel) (by decide +kernel) I.2 (top_int (as := [.ref 0, .int (xs ((i + 1))), .int (xs ((i + 2)))]) q661 (by decide +kernel) (by decide +kernel) I.1 ⟨rfl, aI _, aI _, trivial⟩)) (chkR (a := 0) I.1.1 rfl rfl rfl rfl (by show 0 ≤ 8; decide)) (fun h1 r1 => ?_)
  rintro ⟨I1, x1, f1⟩
  rw [f1]
  show Ends _ _ (1634, lv, [.int x1], h1, 599897, 7298671) _
  refine E_pop rfl rfl ?_
  refine E_al rfl L2 ?_
  refine E_alr rfl L0 ?_
  refine E_il rfl L3 ?_
  refine E_ci 1 rfl ci1 ?_
  refine E_bin rfl (nJ_add _ _) ?_
  refine E_sld rfl (by first | decide | with_reducible assumption | omega) hL ?_
  refine E_alr rfl L0 ?_
  refine E_il rfl L3 ?_
  refine E_ci 2 rfl ci2 ?_
  refine E_bin rfl (nJ_add _ _) ?_
  refine E_sld rfl (by first | decide | with_reducible assumption | omega) hL ?_
  refine E_call rfl (tQ_int (by decide +kernel) (by decide +kernel) I1.2 (top_int (as := [.ref 77, .int (xs ((i + 1))), .int (xs ((i + 2)))]) q662 (by decide +kernel) (by decide +kernel) I1.1 ⟨rfl, aI _, aI _, trivial⟩)) (chkR (a := 77) I1.1.1 rfl rfl rfl rfl (by show 0 ≤ 8; decide)) (fun h2 r2 => ?_)
  rintro ⟨I2, x2, f2⟩
  rw [f2]
  show Ends _ _ (1649, lv, [.int x2], h2, 599897, 7298671) _
  refine E_pop rfl rfl ?_
  refine E_goto rfl ?_
  exact K _ I2
set_option maxRecDepth 20000 in
theorem bl_59 {L : Nat} {xs : Nat → Int32} (hL : L ≤ 3072) {h : pm_H} {i : Nat} (hi : i + 6 ≤ L) (lv : List (Nat × Value)) (I : IVQ h) (L0 : pm_get lv 0 = some (.retAddr 0)) (L1 : pm_get lv 1 = some (.ref 0)) (L2 : pm_get lv 2 = some (.ref 77)) (L3 : pm_get lv 3 = some (.int (nJ i))) (K : ∀ h', IVQ h' → Ends (pm_tr (lb_all L xs)) (pm_Rt pm_P 100) (2392, lv, [], h', 599897, 7298671) RQ1) : Ends (pm_tr (lb_all L xs)) (pm_Rt pm_P 100) (1653, lv, [], h, 599897, 7298671) RQ1 := by
  refine E_al rfl L1 ?_
  refine E_alr rfl L0 ?_
  refine E_il rfl L3 ?_
  refine E_ci 1 rfl ci1 ?_
  refine E_bin rfl (nJ_add _ _) ?_
  refine E_sld rfl (by first | decide | with_reducible assumption | omega) hL ?_
  refine E_alr rfl L0 ?_
  refine E_il rfl L3 ?_
  refine E_ci 2 rfl ci2 ?_
  refine E_bin rfl (nJ_add _ _) ?_
  refine E_sld rfl (by first | decide | with_reducible assumption | omega) hL ?_
  refine E_call rfl (tQ_int (by decide +kernel) (by decide +kernel) I.2 (top_int (as := [.ref 0, .int (xs ((i + 1))), .int (xs ((i + 2)))]) q664 (by decide +kernel) (by decide +kernel) I.1 ⟨rfl, aI _, aI _, trivial⟩)) (chkR (a := 0) I.1.1 rfl rfl rfl rfl (by show 0 ≤ 8; decide)) (fun h1 r1 => ?_)
  rintro ⟨I1, x1, f1⟩
  rw [f1]
  show Ends _ _ (1667, lv, [.int x1], h1, 599897, 7298671) _
  refine E_pop rfl rfl ?_
  refine E_al rfl L2 ?_
  refine E_alr rfl L0 ?_
  refine E_il rfl L3 ?_
  refine E_ci 1 rfl ci1 ?_
  refine E_bin rfl (nJ_add _ _) ?_
  refine E_sld rfl (by first | decide | with_reducible assumption | omega) hL ?_
  refine E_alr rfl L0 ?_
  refine E_il rfl L3 ?_
  refine E_ci 2 rfl ci2 ?_
  refine E_bin rfl (nJ_add _ _) ?_
  refine E_sld rfl (by first | decide | with_reducible assumption | omega) hL ?_
  refine E_call rfl (tQ_int (by decide +kernel) (by decide +kernel) I1.2 (top_int (as := [.ref 77, .int (xs ((i + 1))), .int (xs ((i + 2)))]) q665 (by decide +kernel) (by decide +kernel) I1.1 ⟨rfl, aI _, aI _, trivial⟩)) (chkR (a := 77) I1.1.1 rfl rfl rfl rfl (by show 0 ≤ 8; decide)) (fun h2 r2 => ?_)
  rintro ⟨I2, x2, f2⟩
  rw [f2]
  show Ends _ _ (1682, lv, [.int x2], h2, 599897, 7298671) _
  refine E_pop rfl rfl ?_
  refine E_goto rfl ?_
  exact K _ I2
set_option maxRecDepth 20000 in
theorem bl_60 {L : Nat} {xs : Nat → Int32} (hL : L ≤ 3072) {h : pm_H} {i : Nat} (hi : i + 6 ≤ L) (lv : List (Nat × Value)) (I : IVQ h) (L0 : pm_get lv 0 = some (.retAddr 0)) (L1 : pm_get lv 1 = some (.ref 0)) (L2 : pm_get lv 2 = some (.ref 77)) (L3 : pm_get lv 3 = some (.int (nJ i))) (K : ∀ h', IVQ h' → Ends (pm_tr (lb_all L xs)) (pm_Rt pm_P 100) (2392, lv, [], h', 599897, 7298671) RQ1) : Ends (pm_tr (lb_all L xs)) (pm_Rt pm_P 100) (1686, lv, [], h, 599897, 7298671) RQ1 := by
  refine E_al rfl L1 ?_
  refine E_alr rfl L0 ?_
  refine E_il rfl L3 ?_
  refine E_ci 1 rfl ci1 ?_
  refine E_bin rfl (nJ_add _ _) ?_
  refine E_sld rfl (by first | decide | with_reducible assumption | omega) hL ?_
  refine E_call rfl (tQ_int (by decide +kernel) (by decide +kernel) I.2 (top_int (as := [.ref 0, .int (xs ((i + 1)))]) q667 (by decide +kernel) (by decide +kernel) I.1 ⟨rfl, aI _, trivial⟩)) (chkR (a := 0) I.1.1 rfl rfl rfl rfl (by show 0 ≤ 8; decide)) (fun h1 r1 => ?_)
  rintro ⟨I1, x1, f1⟩
  rw [f1]
  show Ends _ _ (1695, lv, [.int x1], h1, 599897, 7298671) _
  refine E_pop rfl rfl ?_
  refine E_al rfl L2 ?_
  refine E_alr rfl L0 ?_
  refine E_il rfl L3 ?_
  refine E_ci 1 rfl ci1 ?_
  refine E_bin rfl (nJ_add _ _) ?_
  refine E_sld rfl (by first | decide | with_reducible assumption | omega) hL ?_
  refine E_call rfl (tQ_int (by decide +kernel) (by decide +kernel) I1.2 (top_int (as := [.ref 77, .int (xs ((i + 1)))]) q669 (by decide +kernel) (by decide +kernel) I1.1 ⟨rfl, aI _, trivial⟩)) (chkR (a := 77) I1.1.1 rfl rfl rfl rfl (by show 0 ≤ 8; decide)) (fun h2 r2 => ?_)
  rintro ⟨I2, x2, f2⟩
  rw [f2]
  show Ends _ _ (1705, lv, [.int x2], h2, 599897, 7298671) _
  refine E_pop rfl rfl ?_
  refine E_goto rfl ?_
  exact K _ I2
set_option maxRecDepth 20000 in
theorem bl_61 {L : Nat} {xs : Nat → Int32} (hL : L ≤ 3072) {h : pm_H} {i : Nat} (hi : i + 6 ≤ L) (lv : List (Nat × Value)) (I : IVQ h) (L0 : pm_get lv 0 = some (.retAddr 0)) (L1 : pm_get lv 1 = some (.ref 0)) (L2 : pm_get lv 2 = some (.ref 77)) (L3 : pm_get lv 3 = some (.int (nJ i))) (K : ∀ h', IVQ h' → Ends (pm_tr (lb_all L xs)) (pm_Rt pm_P 100) (2392, lv, [], h', 599897, 7298671) RQ1) : Ends (pm_tr (lb_all L xs)) (pm_Rt pm_P 100) (1709, lv, [], h, 599897, 7298671) RQ1 := by
  refine E_al rfl L1 ?_
  refine E_alr rfl L0 ?_
  refine E_il rfl L3 ?_
  refine E_ci 1 rfl ci1 ?_
  refine E_bin rfl (nJ_add _ _) ?_
  refine E_sld rfl (by first | decide | with_reducible assumption | omega) hL ?_
  refine E_call rfl (tQ_int (by decide +kernel) (by decide +kernel) I.2 (top_int (as := [.ref 0, .int (xs ((i + 1)))]) q670 (by decide +kernel) (by decide +kernel) I.1 ⟨rfl, aI _, trivial⟩)) (chkR (a := 0) I.1.1 rfl rfl rfl rfl (by show 0 ≤ 8; decide)) (fun h1 r1 => ?_)
  rintro ⟨I1, x1, f1⟩
  rw [f1]
  show Ends _ _ (1718, lv, [.int x1], h1, 599897, 7298671) _
  refine E_pop rfl rfl ?_
  refine E_al rfl L2 ?_
  refine E_alr rfl L0 ?_
  refine E_il rfl L3 ?_
  refine E_ci 1 rfl ci1 ?_
  refine E_bin rfl (nJ_add _ _) ?_
  refine E_sld rfl (by first | decide | with_reducible assumption | omega) hL ?_
  refine E_call rfl (tQ_int (by decide +kernel) (by decide +kernel) I1.2 (top_int (as := [.ref 77, .int (xs ((i + 1)))]) q671 (by decide +kernel) (by decide +kernel) I1.1 ⟨rfl, aI _, trivial⟩)) (chkR (a := 77) I1.1.1 rfl rfl rfl rfl (by show 0 ≤ 8; decide)) (fun h2 r2 => ?_)
  rintro ⟨I2, x2, f2⟩
  rw [f2]
  show Ends _ _ (1728, lv, [.int x2], h2, 599897, 7298671) _
  refine E_pop rfl rfl ?_
  refine E_goto rfl ?_
  exact K _ I2
set_option maxRecDepth 20000 in
theorem bl_62 {L : Nat} {xs : Nat → Int32} (hL : L ≤ 3072) {h : pm_H} {i : Nat} (hi : i + 6 ≤ L) (lv : List (Nat × Value)) (I : IVQ h) (L0 : pm_get lv 0 = some (.retAddr 0)) (L1 : pm_get lv 1 = some (.ref 0)) (L2 : pm_get lv 2 = some (.ref 77)) (L3 : pm_get lv 3 = some (.int (nJ i))) (K : ∀ h', IVQ h' → Ends (pm_tr (lb_all L xs)) (pm_Rt pm_P 100) (2392, lv, [], h', 599897, 7298671) RQ1) : Ends (pm_tr (lb_all L xs)) (pm_Rt pm_P 100) (1732, lv, [], h, 599897, 7298671) RQ1 := by
  refine E_al rfl L1 ?_
  refine E_call rfl (tQ_int (by decide +kernel) (by decide +kernel) I.2 (top_int (as := [.ref 0]) q675 (by decide +kernel) (by decide +kernel) I.1 ⟨rfl, trivial⟩)) (chkR (a := 0) I.1.1 rfl rfl rfl rfl (by show 0 ≤ 8; decide)) (fun h1 r1 => ?_)
  rintro ⟨I1, x1, f1⟩
  rw [f1]
  show Ends _ _ (1736, lv, [.int x1], h1, 599897, 7298671) _
  refine E_pop rfl rfl ?_
  refine E_al rfl L2 ?_
  refine E_call rfl (tQ_int (by decide +kernel) (by decide +kernel) I1.2 (top_int (as := [.ref 77]) q676 (by decide +kernel) (by decide +kernel) I1.1 ⟨rfl, trivial⟩)) (chkR (a := 77) I1.1.1 rfl rfl rfl rfl (by show 0 ≤ 8; decide)) (fun h2 r2 => ?_)
  rintro ⟨I2, x2, f2⟩
  rw [f2]
  show Ends _ _ (1741, lv, [.int x2], h2, 599897, 7298671) _
  refine E_pop rfl rfl ?_
  refine E_goto rfl ?_
  exact K _ I2
set_option maxRecDepth 20000 in
theorem bl_63 {L : Nat} {xs : Nat → Int32} (hL : L ≤ 3072) {h : pm_H} {i : Nat} (hi : i + 6 ≤ L) (lv : List (Nat × Value)) (I : IVQ h) (L0 : pm_get lv 0 = some (.retAddr 0)) (L1 : pm_get lv 1 = some (.ref 0)) (L2 : pm_get lv 2 = some (.ref 77)) (L3 : pm_get lv 3 = some (.int (nJ i))) (K : ∀ h', IVQ h' → Ends (pm_tr (lb_all L xs)) (pm_Rt pm_P 100) (2392, lv, [], h', 599897, 7298671) RQ1) : Ends (pm_tr (lb_all L xs)) (pm_Rt pm_P 100) (1745, lv, [], h, 599897, 7298671) RQ1 := by
  refine E_al rfl L1 ?_
  refine E_alr rfl L0 ?_
  refine E_il rfl L3 ?_
  refine E_ci 1 rfl ci1 ?_
  refine E_bin rfl (nJ_add _ _) ?_
  refine E_sld rfl (by first | decide | with_reducible assumption | omega) hL ?_
  refine E_call rfl (tQ_int (by decide +kernel) (by decide +kernel) I.2 (top_int (as := [.ref 0, .int (xs ((i + 1)))]) q677 (by decide +kernel) (by decide +kernel) I.1 ⟨rfl, aI _, trivial⟩)) (chkR (a := 0) I.1.1 rfl rfl rfl rfl (by show 0 ≤ 8; decide)) (fun h1 r1 => ?_)
  rintro ⟨I1, x1, f1⟩
  rw [f1]
  show Ends _ _ (1754, lv, [.int x1], h1, 599897, 7298671) _
  refine E_pop rfl rfl ?_
  refine E_al rfl L2 ?_
  refine E_alr rfl L0 ?_
  refine E_il rfl L3 ?_
  refine E_ci 1 rfl ci1 ?_
  refine E_bin rfl (nJ_add _ _) ?_
  refine E_sld rfl (by first | decide | with_reducible assumption | omega) hL ?_
  refine E_call rfl (tQ_int (by decide +kernel) (by decide +kernel) I1.2 (top_int (as := [.ref 77, .int (xs ((i + 1)))]) q680 (by decide +kernel) (by decide +kernel) I1.1 ⟨rfl, aI _, trivial⟩)) (chkR (a := 77) I1.1.1 rfl rfl rfl rfl (by show 0 ≤ 8; decide)) (fun h2 r2 => ?_)
  rintro ⟨I2, x2, f2⟩
  rw [f2]
  show Ends _ _ (1764, lv, [.int x2], h2, 599897, 7298671) _
  refine E_pop rfl rfl ?_
  refine E_goto rfl ?_
  exact K _ I2
set_option maxRecDepth 20000 in
theorem bl_64 {L : Nat} {xs : Nat → Int32} (hL : L ≤ 3072) {h : pm_H} {i : Nat} (hi : i + 6 ≤ L) (lv : List (Nat × Value)) (I : IVQ h) (L0 : pm_get lv 0 = some (.retAddr 0)) (L1 : pm_get lv 1 = some (.ref 0)) (L2 : pm_get lv 2 = some (.ref 77)) (L3 : pm_get lv 3 = some (.int (nJ i))) (K : ∀ h', IVQ h' → Ends (pm_tr (lb_all L xs)) (pm_Rt pm_P 100) (2392, lv, [], h', 599897, 7298671) RQ1) : Ends (pm_tr (lb_all L xs)) (pm_Rt pm_P 100) (1768, lv, [], h, 599897, 7298671) RQ1 := by
  refine E_al rfl L1 ?_
  refine E_alr rfl L0 ?_
  refine E_il rfl L3 ?_
  refine E_ci 1 rfl ci1 ?_
  refine E_bin rfl (nJ_add _ _) ?_
  refine E_sld rfl (by first | decide | with_reducible assumption | omega) hL ?_
  refine E_alr rfl L0 ?_
  refine E_il rfl L3 ?_
  refine E_ci 2 rfl ci2 ?_
  refine E_bin rfl (nJ_add _ _) ?_
  refine E_sld rfl (by first | decide | with_reducible assumption | omega) hL ?_
  refine E_call rfl (tQ_int (by decide +kernel) (by decide +kernel) I.2 (top_int (as := [.ref 0, .int (xs ((i + 1))), .int (xs ((i + 2)))]) q730 (by decide +kernel) (by decide +kernel) I.1 ⟨rfl, aI _, aI _, trivial⟩)) (chkR (a := 0) I.1.1 rfl rfl rfl rfl (by show 0 ≤ 8; decide)) (fun h1 r1 => ?_)
  rintro ⟨I1, x1, f1⟩
  rw [f1]
  show Ends _ _ (1782, lv, [.int x1], h1, 599897, 7298671) _
  refine E_pop rfl rfl ?_
  refine E_al rfl L2 ?_
  refine E_alr rfl L0 ?_
  refine E_il rfl L3 ?_
  refine E_ci 1 rfl ci1 ?_
  refine E_bin rfl (nJ_add _ _) ?_
  refine E_sld rfl (by first | decide | with_reducible assumption | omega) hL ?_
  refine E_alr rfl L0 ?_
  refine E_il rfl L3 ?_
  refine E_ci 2 rfl ci2 ?_
  refine E_bin rfl (nJ_add _ _) ?_
  refine E_sld rfl (by first | decide | with_reducible assumption | omega) hL ?_
  refine E_call rfl (tQ_int (by decide +kernel) (by decide +kernel) I1.2 (top_int (as := [.ref 77, .int (xs ((i + 1))), .int (xs ((i + 2)))]) q964 (by decide +kernel) (by decide +kernel) I1.1 ⟨rfl, aI _, aI _, trivial⟩)) (chkR (a := 77) I1.1.1 rfl rfl rfl rfl (by show 0 ≤ 8; decide)) (fun h2 r2 => ?_)
  rintro ⟨I2, x2, f2⟩
  rw [f2]
  show Ends _ _ (1797, lv, [.int x2], h2, 599897, 7298671) _
  refine E_pop rfl rfl ?_
  refine E_goto rfl ?_
  exact K _ I2
set_option maxRecDepth 20000 in
theorem bl_65 {L : Nat} {xs : Nat → Int32} (hL : L ≤ 3072) {h : pm_H} {i : Nat} (hi : i + 6 ≤ L) (lv : List (Nat × Value)) (I : IVQ h) (L0 : pm_get lv 0 = some (.retAddr 0)) (L1 : pm_get lv 1 = some (.ref 0)) (L2 : pm_get lv 2 = some (.ref 77)) (L3 : pm_get lv 3 = some (.int (nJ i))) (K : ∀ h', IVQ h' → Ends (pm_tr (lb_all L xs)) (pm_Rt pm_P 100) (2392, lv, [], h', 599897, 7298671) RQ1) : Ends (pm_tr (lb_all L xs)) (pm_Rt pm_P 100) (1801, lv, [], h, 599897, 7298671) RQ1 := by
  refine E_al rfl L1 ?_
  refine E_alr rfl L0 ?_
  refine E_il rfl L3 ?_
  refine E_ci 1 rfl ci1 ?_
  refine E_bin rfl (nJ_add _ _) ?_
  refine E_sld rfl (by first | decide | with_reducible assumption | omega) hL ?_
  refine E_alr rfl L0 ?_
  refine E_il rfl L3 ?_
  refine E_ci 2 rfl ci2 ?_
  refine E_bin rfl (nJ_add _ _) ?_
  refine E_sld rfl (by first | decide | with_reducible assumption | omega) hL ?_
  refine E_call rfl (tQ_int (by decide +kernel) (by decide +kernel) I.2 (top_int (as := [.ref 0, .int (xs ((i + 1))), .int (xs ((i + 2)))]) q754 (by decide +kernel) (by decide +kernel) I.1 ⟨rfl, aI _, aI _, trivial⟩)) (chkR (a := 0) I.1.1 rfl rfl rfl rfl (by show 0 ≤ 8; decide)) (fun h1 r1 => ?_)
  rintro ⟨I1, x1, f1⟩
  rw [f1]
  show Ends _ _ (1815, lv, [.int x1], h1, 599897, 7298671) _
  refine E_pop rfl rfl ?_
  refine E_al rfl L2 ?_
  refine E_alr rfl L0 ?_
  refine E_il rfl L3 ?_
  refine E_ci 1 rfl ci1 ?_
  refine E_bin rfl (nJ_add _ _) ?_
  refine E_sld rfl (by first | decide | with_reducible assumption | omega) hL ?_
  refine E_alr rfl L0 ?_
  refine E_il rfl L3 ?_
  refine E_ci 2 rfl ci2 ?_
  refine E_bin rfl (nJ_add _ _) ?_
  refine E_sld rfl (by first | decide | with_reducible assumption | omega) hL ?_
  refine E_call rfl (tQ_int (by decide +kernel) (by decide +kernel) I1.2 (top_int (as := [.ref 77, .int (xs ((i + 1))), .int (xs ((i + 2)))]) q761 (by decide +kernel) (by decide +kernel) I1.1 ⟨rfl, aI _, aI _, trivial⟩)) (chkR (a := 77) I1.1.1 rfl rfl rfl rfl (by show 0 ≤ 8; decide)) (fun h2 r2 => ?_)
  rintro ⟨I2, x2, f2⟩
  rw [f2]
  show Ends _ _ (1830, lv, [.int x2], h2, 599897, 7298671) _
  refine E_pop rfl rfl ?_
  refine E_goto rfl ?_
  exact K _ I2
set_option maxRecDepth 20000 in
theorem bl_66 {L : Nat} {xs : Nat → Int32} (hL : L ≤ 3072) {h : pm_H} {i : Nat} (hi : i + 6 ≤ L) (lv : List (Nat × Value)) (I : IVQ h) (L0 : pm_get lv 0 = some (.retAddr 0)) (L1 : pm_get lv 1 = some (.ref 0)) (L2 : pm_get lv 2 = some (.ref 77)) (L3 : pm_get lv 3 = some (.int (nJ i))) (K : ∀ h', IVQ h' → Ends (pm_tr (lb_all L xs)) (pm_Rt pm_P 100) (2392, lv, [], h', 599897, 7298671) RQ1) : Ends (pm_tr (lb_all L xs)) (pm_Rt pm_P 100) (1834, lv, [], h, 599897, 7298671) RQ1 := by
  refine E_al rfl L1 ?_
  refine E_alr rfl L0 ?_
  refine E_il rfl L3 ?_
  refine E_ci 1 rfl ci1 ?_
  refine E_bin rfl (nJ_add _ _) ?_
  refine E_sld rfl (by first | decide | with_reducible assumption | omega) hL ?_
  refine E_alr rfl L0 ?_
  refine E_il rfl L3 ?_
  refine E_ci 2 rfl ci2 ?_
  refine E_bin rfl (nJ_add _ _) ?_
  refine E_sld rfl (by first | decide | with_reducible assumption | omega) hL ?_
  refine E_alr rfl L0 ?_
  refine E_il rfl L3 ?_
  refine E_ci 3 rfl ci3 ?_
  refine E_bin rfl (nJ_add _ _) ?_
  refine E_sld rfl (by first | decide | with_reducible assumption | omega) hL ?_
  refine E_alr rfl L0 ?_
  refine E_il rfl L3 ?_
  refine E_ci 4 rfl ci4 ?_
  refine E_bin rfl (nJ_add _ _) ?_
  refine E_sld rfl (by first | decide | with_reducible assumption | omega) hL ?_
  refine E_call rfl (tQ_int (by decide +kernel) (by decide +kernel) I.2 (top_int (as := [.ref 0, .int (xs ((i + 1))), .int (xs ((i + 2))), .int (xs ((i + 3))), .int (xs ((i + 4)))]) q764 (by decide +kernel) (by decide +kernel) I.1 ⟨rfl, aI _, aI _, aI _, aI _, trivial⟩)) (chkR (a := 0) I.1.1 rfl rfl rfl rfl (by show 0 ≤ 8; decide)) (fun h1 r1 => ?_)
  rintro ⟨I1, x1, f1⟩
  rw [f1]
  show Ends _ _ (1858, lv, [.int x1], h1, 599897, 7298671) _
  refine E_pop rfl rfl ?_
  refine E_al rfl L2 ?_
  refine E_alr rfl L0 ?_
  refine E_il rfl L3 ?_
  refine E_ci 1 rfl ci1 ?_
  refine E_bin rfl (nJ_add _ _) ?_
  refine E_sld rfl (by first | decide | with_reducible assumption | omega) hL ?_
  refine E_alr rfl L0 ?_
  refine E_il rfl L3 ?_
  refine E_ci 2 rfl ci2 ?_
  refine E_bin rfl (nJ_add _ _) ?_
  refine E_sld rfl (by first | decide | with_reducible assumption | omega) hL ?_
  refine E_alr rfl L0 ?_
  refine E_il rfl L3 ?_
  refine E_ci 3 rfl ci3 ?_
  refine E_bin rfl (nJ_add _ _) ?_
  refine E_sld rfl (by first | decide | with_reducible assumption | omega) hL ?_
  refine E_alr rfl L0 ?_
  refine E_il rfl L3 ?_
  refine E_ci 4 rfl ci4 ?_
  refine E_bin rfl (nJ_add _ _) ?_
  refine E_sld rfl (by first | decide | with_reducible assumption | omega) hL ?_
  refine E_call rfl (tQ_int (by decide +kernel) (by decide +kernel) I1.2 (top_int (as := [.ref 77, .int (xs ((i + 1))), .int (xs ((i + 2))), .int (xs ((i + 3))), .int (xs ((i + 4)))]) q767 (by decide +kernel) (by decide +kernel) I1.1 ⟨rfl, aI _, aI _, aI _, aI _, trivial⟩)) (chkR (a := 77) I1.1.1 rfl rfl rfl rfl (by show 0 ≤ 8; decide)) (fun h2 r2 => ?_)
  rintro ⟨I2, x2, f2⟩
  rw [f2]
  show Ends _ _ (1883, lv, [.int x2], h2, 599897, 7298671) _
  refine E_pop rfl rfl ?_
  refine E_goto rfl ?_
  exact K _ I2
set_option maxRecDepth 20000 in
theorem bl_67 {L : Nat} {xs : Nat → Int32} (hL : L ≤ 3072) {h : pm_H} {i : Nat} (hi : i + 6 ≤ L) (lv : List (Nat × Value)) (I : IVQ h) (L0 : pm_get lv 0 = some (.retAddr 0)) (L1 : pm_get lv 1 = some (.ref 0)) (L2 : pm_get lv 2 = some (.ref 77)) (L3 : pm_get lv 3 = some (.int (nJ i))) (K : ∀ h', IVQ h' → Ends (pm_tr (lb_all L xs)) (pm_Rt pm_P 100) (2392, lv, [], h', 599897, 7298671) RQ1) : Ends (pm_tr (lb_all L xs)) (pm_Rt pm_P 100) (1887, lv, [], h, 599897, 7298671) RQ1 := by
  refine E_al rfl L1 ?_
  refine E_alr rfl L0 ?_
  refine E_il rfl L3 ?_
  refine E_ci 1 rfl ci1 ?_
  refine E_bin rfl (nJ_add _ _) ?_
  refine E_sld rfl (by first | decide | with_reducible assumption | omega) hL ?_
  refine E_alr rfl L0 ?_
  refine E_il rfl L3 ?_
  refine E_ci 2 rfl ci2 ?_
  refine E_bin rfl (nJ_add _ _) ?_
  refine E_sld rfl (by first | decide | with_reducible assumption | omega) hL ?_
  refine E_call rfl (tQ_int (by decide +kernel) (by decide +kernel) I.2 (top_int (as := [.ref 0, .int (xs ((i + 1))), .int (xs ((i + 2)))]) q779 (by decide +kernel) (by decide +kernel) I.1 ⟨rfl, aI _, aI _, trivial⟩)) (chkR (a := 0) I.1.1 rfl rfl rfl rfl (by show 0 ≤ 8; decide)) (fun h1 r1 => ?_)
  rintro ⟨I1, x1, f1⟩
  rw [f1]
  show Ends _ _ (1901, lv, [.int x1], h1, 599897, 7298671) _
  refine E_pop rfl rfl ?_
  refine E_al rfl L2 ?_
  refine E_alr rfl L0 ?_
  refine E_il rfl L3 ?_
  refine E_ci 1 rfl ci1 ?_
  refine E_bin rfl (nJ_add _ _) ?_
  refine E_sld rfl (by first | decide | with_reducible assumption | omega) hL ?_
  refine E_alr rfl L0 ?_
  refine E_il rfl L3 ?_
  refine E_ci 2 rfl ci2 ?_
  refine E_bin rfl (nJ_add _ _) ?_
  refine E_sld rfl (by first | decide | with_reducible assumption | omega) hL ?_
  refine E_call rfl (tQ_int (by decide +kernel) (by decide +kernel) I1.2 (top_int (as := [.ref 77, .int (xs ((i + 1))), .int (xs ((i + 2)))]) q966 (by decide +kernel) (by decide +kernel) I1.1 ⟨rfl, aI _, aI _, trivial⟩)) (chkR (a := 77) I1.1.1 rfl rfl rfl rfl (by show 0 ≤ 8; decide)) (fun h2 r2 => ?_)
  rintro ⟨I2, x2, f2⟩
  rw [f2]
  show Ends _ _ (1916, lv, [.int x2], h2, 599897, 7298671) _
  refine E_pop rfl rfl ?_
  refine E_goto rfl ?_
  exact K _ I2
set_option maxRecDepth 20000 in
theorem bl_68 {L : Nat} {xs : Nat → Int32} (hL : L ≤ 3072) {h : pm_H} {i : Nat} (hi : i + 6 ≤ L) (lv : List (Nat × Value)) (I : IVQ h) (L0 : pm_get lv 0 = some (.retAddr 0)) (L1 : pm_get lv 1 = some (.ref 0)) (L2 : pm_get lv 2 = some (.ref 77)) (L3 : pm_get lv 3 = some (.int (nJ i))) (K : ∀ h', IVQ h' → Ends (pm_tr (lb_all L xs)) (pm_Rt pm_P 100) (2392, lv, [], h', 599897, 7298671) RQ1) : Ends (pm_tr (lb_all L xs)) (pm_Rt pm_P 100) (1920, lv, [], h, 599897, 7298671) RQ1 := by
  refine E_al rfl L1 ?_
  refine E_alr rfl L0 ?_
  refine E_il rfl L3 ?_
  refine E_ci 1 rfl ci1 ?_
  refine E_bin rfl (nJ_add _ _) ?_
  refine E_sld rfl (by first | decide | with_reducible assumption | omega) hL ?_
  refine E_call rfl (tQ_lng (by decide +kernel) (by decide +kernel) I.2 (top_lng (as := [.ref 0, .int (xs ((i + 1)))]) q844 (by decide +kernel) (by decide +kernel) I.1 ⟨rfl, aI _, trivial⟩)) (chkR (a := 0) I.1.1 rfl rfl rfl rfl (by show 0 ≤ 8; decide)) (fun h1 r1 => ?_)
  rintro ⟨I1, x1, f1⟩
  rw [f1]
  show Ends _ _ (1929, lv, [.long x1], h1, 599897, 7298671) _
  refine E_pop2 rfl rfl ?_
  refine E_al rfl L2 ?_
  refine E_alr rfl L0 ?_
  refine E_il rfl L3 ?_
  refine E_ci 1 rfl ci1 ?_
  refine E_bin rfl (nJ_add _ _) ?_
  refine E_sld rfl (by first | decide | with_reducible assumption | omega) hL ?_
  refine E_call rfl (tQ_lng (by decide +kernel) (by decide +kernel) I1.2 (top_lng (as := [.ref 77, .int (xs ((i + 1)))]) q967 (by decide +kernel) (by decide +kernel) I1.1 ⟨rfl, aI _, trivial⟩)) (chkR (a := 77) I1.1.1 rfl rfl rfl rfl (by show 0 ≤ 8; decide)) (fun h2 r2 => ?_)
  rintro ⟨I2, x2, f2⟩
  rw [f2]
  show Ends _ _ (1939, lv, [.long x2], h2, 599897, 7298671) _
  refine E_pop2 rfl rfl ?_
  refine E_goto rfl ?_
  exact K _ I2
set_option maxRecDepth 20000 in
theorem bl_69 {L : Nat} {xs : Nat → Int32} (hL : L ≤ 3072) {h : pm_H} {i : Nat} (hi : i + 6 ≤ L) (lv : List (Nat × Value)) (I : IVQ h) (L0 : pm_get lv 0 = some (.retAddr 0)) (L1 : pm_get lv 1 = some (.ref 0)) (L2 : pm_get lv 2 = some (.ref 77)) (L3 : pm_get lv 3 = some (.int (nJ i))) (K : ∀ h', IVQ h' → Ends (pm_tr (lb_all L xs)) (pm_Rt pm_P 100) (2392, lv, [], h', 599897, 7298671) RQ1) : Ends (pm_tr (lb_all L xs)) (pm_Rt pm_P 100) (1943, lv, [], h, 599897, 7298671) RQ1 := by
  refine E_al rfl L1 ?_
  refine E_alr rfl L0 ?_
  refine E_il rfl L3 ?_
  refine E_ci 1 rfl ci1 ?_
  refine E_bin rfl (nJ_add _ _) ?_
  refine E_sld rfl (by first | decide | with_reducible assumption | omega) hL ?_
  refine E_alr rfl L0 ?_
  refine E_il rfl L3 ?_
  refine E_ci 2 rfl ci2 ?_
  refine E_bin rfl (nJ_add _ _) ?_
  refine E_sld rfl (by first | decide | with_reducible assumption | omega) hL ?_
  refine E_call rfl (g8_wants I) (chkR (a := 0) I.1.1 rfl rfl rfl rfl (by show 0 ≤ 8; decide)) (fun h1 r1 => ?_)
  rintro ⟨I1, x1, f1, J1⟩
  rw [f1]
  show Ends _ _ (1957, lv, [.int x1], h1, 599897, 7298671) _
  refine E_pop rfl rfl ?_
  refine E_al rfl L2 ?_
  refine E_alr rfl L0 ?_
  refine E_il rfl L3 ?_
  refine E_ci 1 rfl ci1 ?_
  refine E_bin rfl (nJ_add _ _) ?_
  refine E_sld rfl (by first | decide | with_reducible assumption | omega) hL ?_
  refine E_alr rfl L0 ?_
  refine E_il rfl L3 ?_
  refine E_ci 2 rfl ci2 ?_
  refine E_bin rfl (nJ_add _ _) ?_
  refine E_sld rfl (by first | decide | with_reducible assumption | omega) hL ?_
  refine E_call rfl (g9_wants I1 J1) (chkR (a := 77) I1.1 rfl rfl rfl rfl (by show 0 ≤ 8; decide)) (fun h2 r2 => ?_)
  rintro ⟨I2, x2, f2⟩
  rw [f2]
  show Ends _ _ (1972, lv, [.int x2], h2, 599897, 7298671) _
  refine E_pop rfl rfl ?_
  refine E_goto rfl ?_
  exact K _ I2
set_option maxRecDepth 20000 in
theorem bl_70 {L : Nat} {xs : Nat → Int32} (hL : L ≤ 3072) {h : pm_H} {i : Nat} (hi : i + 6 ≤ L) (lv : List (Nat × Value)) (I : IVQ h) (L0 : pm_get lv 0 = some (.retAddr 0)) (L1 : pm_get lv 1 = some (.ref 0)) (L2 : pm_get lv 2 = some (.ref 77)) (L3 : pm_get lv 3 = some (.int (nJ i))) (K : ∀ h', IVQ h' → Ends (pm_tr (lb_all L xs)) (pm_Rt pm_P 100) (2392, lv, [], h', 599897, 7298671) RQ1) : Ends (pm_tr (lb_all L xs)) (pm_Rt pm_P 100) (1976, lv, [], h, 599897, 7298671) RQ1 := by
  refine E_al rfl L1 ?_
  refine E_alr rfl L0 ?_
  refine E_il rfl L3 ?_
  refine E_ci 1 rfl ci1 ?_
  refine E_bin rfl (nJ_add _ _) ?_
  refine E_sld rfl (by first | decide | with_reducible assumption | omega) hL ?_
  refine E_alr rfl L0 ?_
  refine E_il rfl L3 ?_
  refine E_ci 2 rfl ci2 ?_
  refine E_bin rfl (nJ_add _ _) ?_
  refine E_sld rfl (by first | decide | with_reducible assumption | omega) hL ?_
  refine E_call rfl (g8_trades I) (chkR (a := 0) I.1.1 rfl rfl rfl rfl (by show 0 ≤ 8; decide)) (fun h1 r1 => ?_)
  rintro ⟨I1, x1, f1, J1⟩
  rw [f1]
  show Ends _ _ (1990, lv, [.int x1], h1, 599897, 7298671) _
  refine E_pop rfl rfl ?_
  refine E_al rfl L2 ?_
  refine E_alr rfl L0 ?_
  refine E_il rfl L3 ?_
  refine E_ci 1 rfl ci1 ?_
  refine E_bin rfl (nJ_add _ _) ?_
  refine E_sld rfl (by first | decide | with_reducible assumption | omega) hL ?_
  refine E_alr rfl L0 ?_
  refine E_il rfl L3 ?_
  refine E_ci 2 rfl ci2 ?_
  refine E_bin rfl (nJ_add _ _) ?_
  refine E_sld rfl (by first | decide | with_reducible assumption | omega) hL ?_
  refine E_call rfl (g9_trades I1 J1) (chkR (a := 77) I1.1 rfl rfl rfl rfl (by show 0 ≤ 8; decide)) (fun h2 r2 => ?_)
  rintro ⟨I2, x2, f2⟩
  rw [f2]
  show Ends _ _ (2005, lv, [.int x2], h2, 599897, 7298671) _
  refine E_pop rfl rfl ?_
  refine E_goto rfl ?_
  exact K _ I2
set_option maxRecDepth 20000 in
theorem bl_71 {L : Nat} {xs : Nat → Int32} (hL : L ≤ 3072) {h : pm_H} {i : Nat} (hi : i + 6 ≤ L) (lv : List (Nat × Value)) (I : IVQ h) (L0 : pm_get lv 0 = some (.retAddr 0)) (L1 : pm_get lv 1 = some (.ref 0)) (L2 : pm_get lv 2 = some (.ref 77)) (L3 : pm_get lv 3 = some (.int (nJ i))) (K : ∀ h', IVQ h' → Ends (pm_tr (lb_all L xs)) (pm_Rt pm_P 100) (2392, lv, [], h', 599897, 7298671) RQ1) : Ends (pm_tr (lb_all L xs)) (pm_Rt pm_P 100) (2009, lv, [], h, 599897, 7298671) RQ1 := by
  refine E_al rfl L1 ?_
  refine E_call rfl (g8_undo I) (chkR (a := 0) I.1.1 rfl rfl rfl rfl (by show 0 ≤ 8; decide)) (fun h1 r1 => ?_)
  rintro ⟨I1, x1, f1, J1⟩
  rw [f1]
  show Ends _ _ (2013, lv, [.int x1], h1, 599897, 7298671) _
  refine E_pop rfl rfl ?_
  refine E_al rfl L2 ?_
  refine E_call rfl (g9_undo I1 J1) (chkR (a := 77) I1.1 rfl rfl rfl rfl (by show 0 ≤ 8; decide)) (fun h2 r2 => ?_)
  rintro ⟨I2, f2⟩
  rw [f2]
  show Ends _ _ (2018, lv, [.int x1], h2, 599897, 7298671) _
  refine E_pop rfl rfl ?_
  refine E_goto rfl ?_
  exact K _ I2
set_option maxRecDepth 20000 in
theorem bl_72 {L : Nat} {xs : Nat → Int32} (hL : L ≤ 3072) {h : pm_H} {i : Nat} (hi : i + 6 ≤ L) (lv : List (Nat × Value)) (I : IVQ h) (L0 : pm_get lv 0 = some (.retAddr 0)) (L1 : pm_get lv 1 = some (.ref 0)) (L2 : pm_get lv 2 = some (.ref 77)) (L3 : pm_get lv 3 = some (.int (nJ i))) (K : ∀ h', IVQ h' → Ends (pm_tr (lb_all L xs)) (pm_Rt pm_P 100) (2392, lv, [], h', 599897, 7298671) RQ1) : Ends (pm_tr (lb_all L xs)) (pm_Rt pm_P 100) (2022, lv, [], h, 599897, 7298671) RQ1 := by
  refine E_al rfl L1 ?_
  refine E_call rfl (g8_anew I) (chkR (a := 0) I.1.1 rfl rfl rfl rfl (by show 0 ≤ 8; decide)) (fun h1 r1 => ?_)
  rintro ⟨I1, x1, f1, J1⟩
  rw [f1]
  show Ends _ _ (2026, lv, [.int x1], h1, 599897, 7298671) _
  refine E_pop rfl rfl ?_
  refine E_al rfl L2 ?_
  refine E_call rfl (g9_anew I1 J1) (chkR (a := 77) I1.1 rfl rfl rfl rfl (by show 0 ≤ 8; decide)) (fun h2 r2 => ?_)
  rintro ⟨I2, f2⟩
  rw [f2]
  show Ends _ _ (2031, lv, [.int x1], h2, 599897, 7298671) _
  refine E_pop rfl rfl ?_
  refine E_goto rfl ?_
  exact K _ I2
set_option maxRecDepth 20000 in
theorem bl_73 {L : Nat} {xs : Nat → Int32} (hL : L ≤ 3072) {h : pm_H} {i : Nat} (hi : i + 6 ≤ L) (lv : List (Nat × Value)) (I : IVQ h) (L0 : pm_get lv 0 = some (.retAddr 0)) (L1 : pm_get lv 1 = some (.ref 0)) (L2 : pm_get lv 2 = some (.ref 77)) (L3 : pm_get lv 3 = some (.int (nJ i))) (K : ∀ h', IVQ h' → Ends (pm_tr (lb_all L xs)) (pm_Rt pm_P 100) (2392, lv, [], h', 599897, 7298671) RQ1) : Ends (pm_tr (lb_all L xs)) (pm_Rt pm_P 100) (2035, lv, [], h, 599897, 7298671) RQ1 := by
  refine E_al rfl L1 ?_
  refine E_alr rfl L0 ?_
  refine E_il rfl L3 ?_
  refine E_ci 1 rfl ci1 ?_
  refine E_bin rfl (nJ_add _ _) ?_
  refine E_sld rfl (by first | decide | with_reducible assumption | omega) hL ?_
  refine E_alr rfl L0 ?_
  refine E_il rfl L3 ?_
  refine E_ci 2 rfl ci2 ?_
  refine E_bin rfl (nJ_add _ _) ?_
  refine E_sld rfl (by first | decide | with_reducible assumption | omega) hL ?_
  refine E_call rfl (tQ_int (by decide +kernel) (by decide +kernel) I.2 (top_int (as := [.ref 0, .int (xs ((i + 1))), .int (xs ((i + 2)))]) q885 (by decide +kernel) (by decide +kernel) I.1 ⟨rfl, aI _, aI _, trivial⟩)) (chkR (a := 0) I.1.1 rfl rfl rfl rfl (by show 0 ≤ 8; decide)) (fun h1 r1 => ?_)
  rintro ⟨I1, x1, f1⟩
  rw [f1]
  show Ends _ _ (2049, lv, [.int x1], h1, 599897, 7298671) _
  refine E_pop rfl rfl ?_
  refine E_al rfl L2 ?_
  refine E_alr rfl L0 ?_
  refine E_il rfl L3 ?_
  refine E_ci 1 rfl ci1 ?_
  refine E_bin rfl (nJ_add _ _) ?_
  refine E_sld rfl (by first | decide | with_reducible assumption | omega) hL ?_
  refine E_alr rfl L0 ?_
  refine E_il rfl L3 ?_
  refine E_ci 2 rfl ci2 ?_
  refine E_bin rfl (nJ_add _ _) ?_
  refine E_sld rfl (by first | decide | with_reducible assumption | omega) hL ?_
  refine E_call rfl (tQ_int (by decide +kernel) (by decide +kernel) I1.2 (top_int (as := [.ref 77, .int (xs ((i + 1))), .int (xs ((i + 2)))]) q889 (by decide +kernel) (by decide +kernel) I1.1 ⟨rfl, aI _, aI _, trivial⟩)) (chkR (a := 77) I1.1.1 rfl rfl rfl rfl (by show 0 ≤ 8; decide)) (fun h2 r2 => ?_)
  rintro ⟨I2, x2, f2⟩
  rw [f2]
  show Ends _ _ (2064, lv, [.int x2], h2, 599897, 7298671) _
  refine E_pop rfl rfl ?_
  refine E_goto rfl ?_
  exact K _ I2
set_option maxRecDepth 20000 in
theorem bl_74 {L : Nat} {xs : Nat → Int32} (hL : L ≤ 3072) {h : pm_H} {i : Nat} (hi : i + 6 ≤ L) (lv : List (Nat × Value)) (I : IVQ h) (L0 : pm_get lv 0 = some (.retAddr 0)) (L1 : pm_get lv 1 = some (.ref 0)) (L2 : pm_get lv 2 = some (.ref 77)) (L3 : pm_get lv 3 = some (.int (nJ i))) (K : ∀ h', IVQ h' → Ends (pm_tr (lb_all L xs)) (pm_Rt pm_P 100) (2392, lv, [], h', 599897, 7298671) RQ1) : Ends (pm_tr (lb_all L xs)) (pm_Rt pm_P 100) (2068, lv, [], h, 599897, 7298671) RQ1 := by
  refine E_al rfl L1 ?_
  refine E_alr rfl L0 ?_
  refine E_il rfl L3 ?_
  refine E_ci 1 rfl ci1 ?_
  refine E_bin rfl (nJ_add _ _) ?_
  refine E_sld rfl (by first | decide | with_reducible assumption | omega) hL ?_
  refine E_alr rfl L0 ?_
  refine E_il rfl L3 ?_
  refine E_ci 2 rfl ci2 ?_
  refine E_bin rfl (nJ_add _ _) ?_
  refine E_sld rfl (by first | decide | with_reducible assumption | omega) hL ?_
  refine E_alr rfl L0 ?_
  refine E_il rfl L3 ?_
  refine E_ci 3 rfl ci3 ?_
  refine E_bin rfl (nJ_add _ _) ?_
  refine E_sld rfl (by first | decide | with_reducible assumption | omega) hL ?_
  refine E_call rfl (tQ_int (by decide +kernel) (by decide +kernel) I.2 (top_int (as := [.ref 0, .int (xs ((i + 1))), .int (xs ((i + 2))), .int (xs ((i + 3)))]) q891 (by decide +kernel) (by decide +kernel) I.1 ⟨rfl, aI _, aI _, aI _, trivial⟩)) (chkR (a := 0) I.1.1 rfl rfl rfl rfl (by show 0 ≤ 8; decide)) (fun h1 r1 => ?_)
  rintro ⟨I1, x1, f1⟩
  rw [f1]
  show Ends _ _ (2087, lv, [.int x1], h1, 599897, 7298671) _
  refine E_pop rfl rfl ?_
  refine E_al rfl L2 ?_
  refine E_alr rfl L0 ?_
  refine E_il rfl L3 ?_
  refine E_ci 1 rfl ci1 ?_
  refine E_bin rfl (nJ_add _ _) ?_
  refine E_sld rfl (by first | decide | with_reducible assumption | omega) hL ?_
  refine E_alr rfl L0 ?_
  refine E_il rfl L3 ?_
  refine E_ci 2 rfl ci2 ?_
  refine E_bin rfl (nJ_add _ _) ?_
  refine E_sld rfl (by first | decide | with_reducible assumption | omega) hL ?_
  refine E_alr rfl L0 ?_
  refine E_il rfl L3 ?_
  refine E_ci 3 rfl ci3 ?_
  refine E_bin rfl (nJ_add _ _) ?_
  refine E_sld rfl (by first | decide | with_reducible assumption | omega) hL ?_
  refine E_call rfl (tQ_int (by decide +kernel) (by decide +kernel) I1.2 (top_int (as := [.ref 77, .int (xs ((i + 1))), .int (xs ((i + 2))), .int (xs ((i + 3)))]) q894 (by decide +kernel) (by decide +kernel) I1.1 ⟨rfl, aI _, aI _, aI _, trivial⟩)) (chkR (a := 77) I1.1.1 rfl rfl rfl rfl (by show 0 ≤ 8; decide)) (fun h2 r2 => ?_)
  rintro ⟨I2, x2, f2⟩
  rw [f2]
  show Ends _ _ (2107, lv, [.int x2], h2, 599897, 7298671) _
  refine E_pop rfl rfl ?_
  refine E_goto rfl ?_
  exact K _ I2
set_option maxRecDepth 20000 in
theorem bl_75 {L : Nat} {xs : Nat → Int32} (hL : L ≤ 3072) {h : pm_H} {i : Nat} (hi : i + 6 ≤ L) (lv : List (Nat × Value)) (I : IVQ h) (L0 : pm_get lv 0 = some (.retAddr 0)) (L1 : pm_get lv 1 = some (.ref 0)) (L2 : pm_get lv 2 = some (.ref 77)) (L3 : pm_get lv 3 = some (.int (nJ i))) (K : ∀ h', IVQ h' → Ends (pm_tr (lb_all L xs)) (pm_Rt pm_P 100) (2392, lv, [], h', 599897, 7298671) RQ1) : Ends (pm_tr (lb_all L xs)) (pm_Rt pm_P 100) (2111, lv, [], h, 599897, 7298671) RQ1 := by
  refine E_al rfl L1 ?_
  refine E_alr rfl L0 ?_
  refine E_il rfl L3 ?_
  refine E_ci 1 rfl ci1 ?_
  refine E_bin rfl (nJ_add _ _) ?_
  refine E_sld rfl (by first | decide | with_reducible assumption | omega) hL ?_
  refine E_alr rfl L0 ?_
  refine E_il rfl L3 ?_
  refine E_ci 2 rfl ci2 ?_
  refine E_bin rfl (nJ_add _ _) ?_
  refine E_sld rfl (by first | decide | with_reducible assumption | omega) hL ?_
  refine E_call rfl (g8_rate I) (chkR (a := 0) I.1.1 rfl rfl rfl rfl (by show 0 ≤ 8; decide)) (fun h1 r1 => ?_)
  rintro ⟨I1, x1, f1, J1⟩
  rw [f1]
  show Ends _ _ (2125, lv, [.int x1], h1, 599897, 7298671) _
  refine E_pop rfl rfl ?_
  refine E_al rfl L2 ?_
  refine E_alr rfl L0 ?_
  refine E_il rfl L3 ?_
  refine E_ci 1 rfl ci1 ?_
  refine E_bin rfl (nJ_add _ _) ?_
  refine E_sld rfl (by first | decide | with_reducible assumption | omega) hL ?_
  refine E_alr rfl L0 ?_
  refine E_il rfl L3 ?_
  refine E_ci 2 rfl ci2 ?_
  refine E_bin rfl (nJ_add _ _) ?_
  refine E_sld rfl (by first | decide | with_reducible assumption | omega) hL ?_
  refine E_call rfl (g9_rate I1 J1) (chkR (a := 77) I1.1 rfl rfl rfl rfl (by show 0 ≤ 8; decide)) (fun h2 r2 => ?_)
  rintro ⟨I2, f2⟩
  rw [f2]
  show Ends _ _ (2140, lv, [.int x1], h2, 599897, 7298671) _
  refine E_pop rfl rfl ?_
  refine E_goto rfl ?_
  exact K _ I2
set_option maxRecDepth 20000 in
theorem bl_76 {L : Nat} {xs : Nat → Int32} (hL : L ≤ 3072) {h : pm_H} {i : Nat} (hi : i + 6 ≤ L) (lv : List (Nat × Value)) (I : IVQ h) (L0 : pm_get lv 0 = some (.retAddr 0)) (L1 : pm_get lv 1 = some (.ref 0)) (L2 : pm_get lv 2 = some (.ref 77)) (L3 : pm_get lv 3 = some (.int (nJ i))) (K : ∀ h', IVQ h' → Ends (pm_tr (lb_all L xs)) (pm_Rt pm_P 100) (2392, lv, [], h', 599897, 7298671) RQ1) : Ends (pm_tr (lb_all L xs)) (pm_Rt pm_P 100) (2144, lv, [], h, 599897, 7298671) RQ1 := by
  refine E_al rfl L1 ?_
  refine E_alr rfl L0 ?_
  refine E_il rfl L3 ?_
  refine E_ci 1 rfl ci1 ?_
  refine E_bin rfl (nJ_add _ _) ?_
  refine E_sld rfl (by first | decide | with_reducible assumption | omega) hL ?_
  refine E_call rfl (g8_count I) (chkR (a := 0) I.1.1 rfl rfl rfl rfl (by show 0 ≤ 8; decide)) (fun h1 r1 => ?_)
  rintro ⟨I1, x1, f1, J1⟩
  rw [f1]
  show Ends _ _ (2153, lv, [.int x1], h1, 599897, 7298671) _
  refine E_pop rfl rfl ?_
  refine E_al rfl L2 ?_
  refine E_alr rfl L0 ?_
  refine E_il rfl L3 ?_
  refine E_ci 1 rfl ci1 ?_
  refine E_bin rfl (nJ_add _ _) ?_
  refine E_sld rfl (by first | decide | with_reducible assumption | omega) hL ?_
  refine E_call rfl (g9_count I1 J1) (chkR (a := 77) I1.1 rfl rfl rfl rfl (by show 0 ≤ 8; decide)) (fun h2 r2 => ?_)
  rintro ⟨I2, f2⟩
  rw [f2]
  show Ends _ _ (2163, lv, [.int x1], h2, 599897, 7298671) _
  refine E_pop rfl rfl ?_
  refine E_goto rfl ?_
  exact K _ I2
set_option maxRecDepth 20000 in
theorem bl_77 {L : Nat} {xs : Nat → Int32} (hL : L ≤ 3072) {h : pm_H} {i : Nat} (hi : i + 6 ≤ L) (lv : List (Nat × Value)) (I : IVQ h) (L0 : pm_get lv 0 = some (.retAddr 0)) (L1 : pm_get lv 1 = some (.ref 0)) (L2 : pm_get lv 2 = some (.ref 77)) (L3 : pm_get lv 3 = some (.int (nJ i))) (K : ∀ h', IVQ h' → Ends (pm_tr (lb_all L xs)) (pm_Rt pm_P 100) (2392, lv, [], h', 599897, 7298671) RQ1) : Ends (pm_tr (lb_all L xs)) (pm_Rt pm_P 100) (2167, lv, [], h, 599897, 7298671) RQ1 := by
  refine E_al rfl L1 ?_
  refine E_alr rfl L0 ?_
  refine E_il rfl L3 ?_
  refine E_ci 1 rfl ci1 ?_
  refine E_bin rfl (nJ_add _ _) ?_
  refine E_sld rfl (by first | decide | with_reducible assumption | omega) hL ?_
  refine E_call rfl (g8_image I) (chkR (a := 0) I.1.1 rfl rfl rfl rfl (by show 0 ≤ 8; decide)) (fun h1 r1 => ?_)
  rintro ⟨I1, x1, f1, J1⟩
  rw [f1]
  show Ends _ _ (2176, lv, [.int x1], h1, 599897, 7298671) _
  refine E_pop rfl rfl ?_
  refine E_al rfl L2 ?_
  refine E_alr rfl L0 ?_
  refine E_il rfl L3 ?_
  refine E_ci 1 rfl ci1 ?_
  refine E_bin rfl (nJ_add _ _) ?_
  refine E_sld rfl (by first | decide | with_reducible assumption | omega) hL ?_
  refine E_call rfl (g9_image I1 J1) (chkR (a := 77) I1.1 rfl rfl rfl rfl (by show 0 ≤ 8; decide)) (fun h2 r2 => ?_)
  rintro ⟨I2, f2⟩
  rw [f2]
  show Ends _ _ (2186, lv, [.int x1], h2, 599897, 7298671) _
  refine E_pop rfl rfl ?_
  refine E_goto rfl ?_
  exact K _ I2
set_option maxRecDepth 20000 in
theorem bl_78 {L : Nat} {xs : Nat → Int32} (hL : L ≤ 3072) {h : pm_H} {i : Nat} (hi : i + 6 ≤ L) (lv : List (Nat × Value)) (I : IVQ h) (L0 : pm_get lv 0 = some (.retAddr 0)) (L1 : pm_get lv 1 = some (.ref 0)) (L2 : pm_get lv 2 = some (.ref 77)) (L3 : pm_get lv 3 = some (.int (nJ i))) (K : ∀ h', IVQ h' → Ends (pm_tr (lb_all L xs)) (pm_Rt pm_P 100) (2392, lv, [], h', 599897, 7298671) RQ1) : Ends (pm_tr (lb_all L xs)) (pm_Rt pm_P 100) (2190, lv, [], h, 599897, 7298671) RQ1 := by
  refine E_al rfl L1 ?_
  refine E_alr rfl L0 ?_
  refine E_il rfl L3 ?_
  refine E_ci 1 rfl ci1 ?_
  refine E_bin rfl (nJ_add _ _) ?_
  refine E_sld rfl (by first | decide | with_reducible assumption | omega) hL ?_
  refine E_call rfl (g8_back I) (chkR (a := 0) I.1.1 rfl rfl rfl rfl (by show 0 ≤ 8; decide)) (fun h1 r1 => ?_)
  rintro ⟨I1, x1, f1, J1⟩
  rw [f1]
  show Ends _ _ (2199, lv, [.int x1], h1, 599897, 7298671) _
  refine E_pop rfl rfl ?_
  refine E_al rfl L2 ?_
  refine E_alr rfl L0 ?_
  refine E_il rfl L3 ?_
  refine E_ci 1 rfl ci1 ?_
  refine E_bin rfl (nJ_add _ _) ?_
  refine E_sld rfl (by first | decide | with_reducible assumption | omega) hL ?_
  refine E_call rfl (g9_back I1 J1) (chkR (a := 77) I1.1 rfl rfl rfl rfl (by show 0 ≤ 8; decide)) (fun h2 r2 => ?_)
  rintro ⟨I2, f2⟩
  rw [f2]
  show Ends _ _ (2209, lv, [.int x1], h2, 599897, 7298671) _
  refine E_pop rfl rfl ?_
  refine E_goto rfl ?_
  exact K _ I2
set_option maxRecDepth 20000 in
theorem bl_79 {L : Nat} {xs : Nat → Int32} (hL : L ≤ 3072) {h : pm_H} {i : Nat} (hi : i + 6 ≤ L) (lv : List (Nat × Value)) (I : IVQ h) (L0 : pm_get lv 0 = some (.retAddr 0)) (L1 : pm_get lv 1 = some (.ref 0)) (L2 : pm_get lv 2 = some (.ref 77)) (L3 : pm_get lv 3 = some (.int (nJ i))) (K : ∀ h', IVQ h' → Ends (pm_tr (lb_all L xs)) (pm_Rt pm_P 100) (2392, lv, [], h', 599897, 7298671) RQ1) : Ends (pm_tr (lb_all L xs)) (pm_Rt pm_P 100) (2213, lv, [], h, 599897, 7298671) RQ1 := by
  refine E_al rfl L1 ?_
  refine E_alr rfl L0 ?_
  refine E_il rfl L3 ?_
  refine E_ci 1 rfl ci1 ?_
  refine E_bin rfl (nJ_add _ _) ?_
  refine E_sld rfl (by first | decide | with_reducible assumption | omega) hL ?_
  refine E_alr rfl L0 ?_
  refine E_il rfl L3 ?_
  refine E_ci 2 rfl ci2 ?_
  refine E_bin rfl (nJ_add _ _) ?_
  refine E_sld rfl (by first | decide | with_reducible assumption | omega) hL ?_
  refine E_alr rfl L0 ?_
  refine E_il rfl L3 ?_
  refine E_ci 3 rfl ci3 ?_
  refine E_bin rfl (nJ_add _ _) ?_
  refine E_sld rfl (by first | decide | with_reducible assumption | omega) hL ?_
  refine E_call rfl (g8_row I) (chkR (a := 0) I.1.1 rfl rfl rfl rfl (by show 0 ≤ 8; decide)) (fun h1 r1 => ?_)
  rintro ⟨I1, x1, f1, J1⟩
  rw [f1]
  show Ends _ _ (2232, lv, [.int x1], h1, 599897, 7298671) _
  refine E_pop rfl rfl ?_
  refine E_al rfl L2 ?_
  refine E_alr rfl L0 ?_
  refine E_il rfl L3 ?_
  refine E_ci 1 rfl ci1 ?_
  refine E_bin rfl (nJ_add _ _) ?_
  refine E_sld rfl (by first | decide | with_reducible assumption | omega) hL ?_
  refine E_alr rfl L0 ?_
  refine E_il rfl L3 ?_
  refine E_ci 2 rfl ci2 ?_
  refine E_bin rfl (nJ_add _ _) ?_
  refine E_sld rfl (by first | decide | with_reducible assumption | omega) hL ?_
  refine E_alr rfl L0 ?_
  refine E_il rfl L3 ?_
  refine E_ci 3 rfl ci3 ?_
  refine E_bin rfl (nJ_add _ _) ?_
  refine E_sld rfl (by first | decide | with_reducible assumption | omega) hL ?_
  refine E_call rfl (g9_row I1 J1) (chkR (a := 77) I1.1 rfl rfl rfl rfl (by show 0 ≤ 8; decide)) (fun h2 r2 => ?_)
  rintro ⟨I2, f2⟩
  rw [f2]
  show Ends _ _ (2252, lv, [.int x1], h2, 599897, 7298671) _
  refine E_pop rfl rfl ?_
  refine E_goto rfl ?_
  exact K _ I2
set_option maxRecDepth 20000 in
theorem bl_80 {L : Nat} {xs : Nat → Int32} (hL : L ≤ 3072) {h : pm_H} {i : Nat} (hi : i + 6 ≤ L) (lv : List (Nat × Value)) (I : IVQ h) (L0 : pm_get lv 0 = some (.retAddr 0)) (L1 : pm_get lv 1 = some (.ref 0)) (L2 : pm_get lv 2 = some (.ref 77)) (L3 : pm_get lv 3 = some (.int (nJ i))) (K : ∀ h', IVQ h' → Ends (pm_tr (lb_all L xs)) (pm_Rt pm_P 100) (2392, lv, [], h', 599897, 7298671) RQ1) : Ends (pm_tr (lb_all L xs)) (pm_Rt pm_P 100) (2256, lv, [], h, 599897, 7298671) RQ1 := by
  refine E_al rfl L1 ?_
  refine E_alr rfl L0 ?_
  refine E_il rfl L3 ?_
  refine E_ci 1 rfl ci1 ?_
  refine E_bin rfl (nJ_add _ _) ?_
  refine E_sld rfl (by first | decide | with_reducible assumption | omega) hL ?_
  refine E_alr rfl L0 ?_
  refine E_il rfl L3 ?_
  refine E_ci 2 rfl ci2 ?_
  refine E_bin rfl (nJ_add _ _) ?_
  refine E_sld rfl (by first | decide | with_reducible assumption | omega) hL ?_
  refine E_alr rfl L0 ?_
  refine E_il rfl L3 ?_
  refine E_ci 3 rfl ci3 ?_
  refine E_bin rfl (nJ_add _ _) ?_
  refine E_sld rfl (by first | decide | with_reducible assumption | omega) hL ?_
  refine E_i2l rfl ?_
  refine E_ci 32 rfl ci32 ?_
  refine E_lsh rfl ?_
  refine E_alr rfl L0 ?_
  refine E_il rfl L3 ?_
  refine E_ci 4 rfl ci4 ?_
  refine E_bin rfl (nJ_add _ _) ?_
  refine E_sld rfl (by first | decide | with_reducible assumption | omega) hL ?_
  refine E_i2l rfl ?_
  refine E_c rfl ?_
  refine E_lbin rfl ?_
  refine E_lbin rfl ?_
  refine E_call rfl (g8_write I) (chkR (a := 0) I.1.1 rfl rfl rfl rfl (by show 0 ≤ 8; decide)) (fun h1 r1 => ?_)
  rintro ⟨I1, x1, f1, J1⟩
  rw [f1]
  show Ends _ _ (2290, lv, [.int x1], h1, 599897, 7298671) _
  refine E_pop rfl rfl ?_
  refine E_al rfl L2 ?_
  refine E_alr rfl L0 ?_
  refine E_il rfl L3 ?_
  refine E_ci 1 rfl ci1 ?_
  refine E_bin rfl (nJ_add _ _) ?_
  refine E_sld rfl (by first | decide | with_reducible assumption | omega) hL ?_
  refine E_alr rfl L0 ?_
  refine E_il rfl L3 ?_
  refine E_ci 2 rfl ci2 ?_
  refine E_bin rfl (nJ_add _ _) ?_
  refine E_sld rfl (by first | decide | with_reducible assumption | omega) hL ?_
  refine E_alr rfl L0 ?_
  refine E_il rfl L3 ?_
  refine E_ci 3 rfl ci3 ?_
  refine E_bin rfl (nJ_add _ _) ?_
  refine E_sld rfl (by first | decide | with_reducible assumption | omega) hL ?_
  refine E_i2l rfl ?_
  refine E_ci 32 rfl ci32 ?_
  refine E_lsh rfl ?_
  refine E_alr rfl L0 ?_
  refine E_il rfl L3 ?_
  refine E_ci 4 rfl ci4 ?_
  refine E_bin rfl (nJ_add _ _) ?_
  refine E_sld rfl (by first | decide | with_reducible assumption | omega) hL ?_
  refine E_i2l rfl ?_
  refine E_c rfl ?_
  refine E_lbin rfl ?_
  refine E_lbin rfl ?_
  refine E_call rfl (g9_write I1 J1) (chkR (a := 77) I1.1 rfl rfl rfl rfl (by show 0 ≤ 8; decide)) (fun h2 r2 => ?_)
  rintro ⟨I2, f2⟩
  rw [f2]
  show Ends _ _ (2325, lv, [.int x1], h2, 599897, 7298671) _
  refine E_pop rfl rfl ?_
  refine E_goto rfl ?_
  exact K _ I2
set_option maxRecDepth 20000 in
theorem bl_81 {L : Nat} {xs : Nat → Int32} (hL : L ≤ 3072) {h : pm_H} {i : Nat} (hi : i + 6 ≤ L) (lv : List (Nat × Value)) (I : IVQ h) (L0 : pm_get lv 0 = some (.retAddr 0)) (L1 : pm_get lv 1 = some (.ref 0)) (L2 : pm_get lv 2 = some (.ref 77)) (L3 : pm_get lv 3 = some (.int (nJ i))) (K : ∀ h', IVQ h' → Ends (pm_tr (lb_all L xs)) (pm_Rt pm_P 100) (2392, lv, [], h', 599897, 7298671) RQ1) : Ends (pm_tr (lb_all L xs)) (pm_Rt pm_P 100) (2329, lv, [], h, 599897, 7298671) RQ1 := by
  refine E_al rfl L1 ?_
  refine E_alr rfl L0 ?_
  refine E_il rfl L3 ?_
  refine E_ci 1 rfl ci1 ?_
  refine E_bin rfl (nJ_add _ _) ?_
  refine E_sld rfl (by first | decide | with_reducible assumption | omega) hL ?_
  refine E_alr rfl L0 ?_
  refine E_il rfl L3 ?_
  refine E_ci 2 rfl ci2 ?_
  refine E_bin rfl (nJ_add _ _) ?_
  refine E_sld rfl (by first | decide | with_reducible assumption | omega) hL ?_
  refine E_alr rfl L0 ?_
  refine E_il rfl L3 ?_
  refine E_ci 3 rfl ci3 ?_
  refine E_bin rfl (nJ_add _ _) ?_
  refine E_sld rfl (by first | decide | with_reducible assumption | omega) hL ?_
  refine E_alr rfl L0 ?_
  refine E_il rfl L3 ?_
  refine E_ci 4 rfl ci4 ?_
  refine E_bin rfl (nJ_add _ _) ?_
  refine E_sld rfl (by first | decide | with_reducible assumption | omega) hL ?_
  refine E_alr rfl L0 ?_
  refine E_il rfl L3 ?_
  refine E_ci 5 rfl ci5 ?_
  refine E_bin rfl (nJ_add _ _) ?_
  refine E_sld rfl (by first | decide | with_reducible assumption | omega) hL ?_
  refine E_call rfl (g8_paste I) (chkR (a := 0) I.1.1 rfl rfl rfl rfl (by show 0 ≤ 8; decide)) (fun h1 r1 => ?_)
  rintro ⟨I1, x1, f1, J1⟩
  rw [f1]
  show Ends _ _ (2358, lv, [.int x1], h1, 599897, 7298671) _
  refine E_pop rfl rfl ?_
  refine E_al rfl L2 ?_
  refine E_alr rfl L0 ?_
  refine E_il rfl L3 ?_
  refine E_ci 1 rfl ci1 ?_
  refine E_bin rfl (nJ_add _ _) ?_
  refine E_sld rfl (by first | decide | with_reducible assumption | omega) hL ?_
  refine E_alr rfl L0 ?_
  refine E_il rfl L3 ?_
  refine E_ci 2 rfl ci2 ?_
  refine E_bin rfl (nJ_add _ _) ?_
  refine E_sld rfl (by first | decide | with_reducible assumption | omega) hL ?_
  refine E_alr rfl L0 ?_
  refine E_il rfl L3 ?_
  refine E_ci 3 rfl ci3 ?_
  refine E_bin rfl (nJ_add _ _) ?_
  refine E_sld rfl (by first | decide | with_reducible assumption | omega) hL ?_
  refine E_alr rfl L0 ?_
  refine E_il rfl L3 ?_
  refine E_ci 4 rfl ci4 ?_
  refine E_bin rfl (nJ_add _ _) ?_
  refine E_sld rfl (by first | decide | with_reducible assumption | omega) hL ?_
  refine E_alr rfl L0 ?_
  refine E_il rfl L3 ?_
  refine E_ci 5 rfl ci5 ?_
  refine E_bin rfl (nJ_add _ _) ?_
  refine E_sld rfl (by first | decide | with_reducible assumption | omega) hL ?_
  refine E_call rfl (g9_paste I1 J1) (chkR (a := 77) I1.1 rfl rfl rfl rfl (by show 0 ≤ 8; decide)) (fun h2 r2 => ?_)
  rintro ⟨I2, f2⟩
  rw [f2]
  show Ends _ _ (2388, lv, [.int x1], h2, 599897, 7298671) _
  refine E_pop rfl rfl ?_
  refine E_goto rfl ?_
  exact K _ I2
end
