section
/-! the class's Lot, filled (wants u65) -/
noncomputable def LTP (l p s : Nat) (W : Nat → Nat) (n : Nat) (h : pm_H) : Prop := gi h 62 1 = nJ (tk l p s W n) ∧ gi h 62 2 = nJ (mss l p s W n) ∧ gi h 62 3 = nJ (wlk l p s W n) ∧ ∀ i, i < n → gi h 63 i = nJ (spt l p s W i)
noncomputable def FL : List Rng := [(62, 1, 3), (63, 0, 7)]
section FILL
variable {h : pm_H} {d : Nat}
theorem sp_absD {a b : Nat} (ha : a < 1000) (hb : b < 1000) : Sp (d + 1) 9 h [.int (nJ a - nJ b)] (fun h' r => h' = h ∧ r = some (.int (nJ (dst a b)))) := by
  refine Sp_of aiJ9_abs_0f7a4 rfl rfl rfl ?_
  have L0 : pm_get (lv_args 0 [.int (nJ a - nJ b)]) 0 = some (.int (nJ a - nJ b)) := rfl
  generalize lv_args 0 [.int (nJ a - nJ b)] = lv at L0 ⊢
  have ti : (nJ a - nJ b).toInt = (a : Int) - (b : Int) := by
    rw [Int32.toInt_sub, nJ_toInt (by first | decide | with_reducible assumption | omega), nJ_toInt (by first | decide | with_reducible assumption | omega)]
    exact Int.bmod_eq_of_le (by first | decide | with_reducible assumption | omega) (by first | decide | with_reducible assumption | omega)
  have z0 : (0 : Int32).toInt = 0 := rfl
  refine E_il rfl L0 ?_
  by_cases b1 : b ≤ a
  · refine E_ifT rfl (decide_eq_true (Int32.le_iff_toInt_le.mpr (by first | decide | with_reducible assumption | omega))) ?_
    refine E_il rfl L0 ?_
    exact E_rti rfl ⟨rfl, by rw [nJ_sub b1]; unfold dst; rw [show a - b + (b - a) = a - b by omega]⟩
  · refine E_ifF rfl (decide_eq_false (fun q => by have := Int32.le_iff_toInt_le.mp q; omega)) ?_
    refine E_il rfl L0 ?_
    refine E_un rfl ?_
    refine E_goto rfl ?_
    exact E_rti rfl ⟨rfl, by rw [Int32.neg_sub, nJ_sub (by first | decide | with_reducible assumption | omega)]; unfold dst; rw [show a - b + (b - a) = b - a by omega]⟩
theorem sp_come {c w q m ms wk p : Nat} (hh : HH h) (c7 : c ≤ 7) (w9 : w ≤ 9) (p9 : p ≤ 9) (hm : m < 512) (g1 : gi h 62 1 = nJ m) (ok : okS p m q) (hs : ms < 2 ^ c) (g2 : gi h 62 2 = nJ ms) (hw : wk < 1000) (g3 : gi h 62 3 = nJ wk) : Sp (d + 2) 19 h [.ref 62, .int (nJ c), .int (nJ w), .int (nJ q)] (fun h' r => r = none ∧ HH h' ∧ fr_g FL h h' ∧ gi h' 62 1 = nJ (ad m q) ∧ gi h' 62 2 = nJ (if q = 0 then ms + 2 ^ c else ms) ∧ gi h' 62 3 = nJ (wk + (if q = 0 then 0 else dst q w)) ∧ gn h' 63 = fup (gn h 63) c q) := by
  have q9 : q ≤ 9 := by rcases ok with e | ⟨_, e, _⟩ <;> omega
  have b63 : bd 63 c = some (0, 9) := bd_u rfl (by first | decide | with_reducible assumption | omega)
  have m5 : ms < 256 := Nat.lt_of_lt_of_le hs (Nat.le_trans (Nat.pow_le_pow_right (n := 2) (by first | decide | with_reducible assumption | omega) c7) (by decide))
  refine Sp_of aiX1_come rfl rfl rfl ?_
  have L0 : pm_get (lv_args 0 [.ref 62, .int (nJ c), .int (nJ w), .int (nJ q)]) 0 = some (.ref 62) := rfl
  have L1 : pm_get (lv_args 0 [.ref 62, .int (nJ c), .int (nJ w), .int (nJ q)]) 1 = some (.int (nJ c)) := rfl
  have L2 : pm_get (lv_args 0 [.ref 62, .int (nJ c), .int (nJ w), .int (nJ q)]) 2 = some (.int (nJ w)) := rfl
  have L3 : pm_get (lv_args 0 [.ref 62, .int (nJ c), .int (nJ w), .int (nJ q)]) 3 = some (.int (nJ q)) := rfl
  generalize lv_args 0 [.ref 62, .int (nJ c), .int (nJ w), .int (nJ q)] = lv at L0 L1 L2 L3 ⊢
  refine E_al rfl L0 ?_
  refine E_ogr (q := 63) rfl hh rfl rfl ?_
  refine E_il rfl L1 ?_
  refine E_il rfl L3 ?_
  refine E_ias rfl hh rfl (by first | decide | with_reducible assumption | omega) (by decide) ?_
  have h1 : HH (pt h 63 c (nJ q)) := HH_ptn hh b63 (by first | decide | with_reducible assumption | omega) (by first | decide | with_reducible assumption | omega) (by first | decide | with_reducible assumption | omega)
  have F1 : fr_g FL h (pt h 63 c (nJ q)) := fr_ptr (l := 0) (u := 7) rfl (by first | decide | with_reducible assumption | omega) (by first | decide | with_reducible assumption | omega) (fr_rf _ _)
  have n1 : gn (pt h 63 c (nJ q)) 63 = fup (gn h 63) c q := gn_fup hh b63 (by first | decide | with_reducible assumption | omega) (by first | decide | with_reducible assumption | omega) (by first | decide | with_reducible assumption | omega)
  have k1 : gi (pt h 63 c (nJ q)) 62 1 = nJ m := by rw [gi_ne (by first | exact gxx rfl | omega)]; exact g1
  have k2 : gi (pt h 63 c (nJ q)) 62 2 = nJ ms := by rw [gi_ne (by first | exact gxx rfl | omega)]; exact g2
  have k3 : gi (pt h 63 c (nJ q)) 62 3 = nJ wk := by rw [gi_ne (by first | exact gxx rfl | omega)]; exact g3
  generalize pt h 63 c (nJ q) = g at h1 F1 n1 k1 k2 k3 ⊢
  refine E_il rfl L3 ?_
  by_cases z : q = 0
  · refine E_ifF rfl (decide_eq_false (fun e => e ((nJ_eq0 (by first | decide | with_reducible assumption | omega)).mpr z))) ?_
    refine E_al rfl L0 ?_
    refine E_dup rfl rfl ?_
    refine E_ogf (q := (0, 255)) rfl h1 rfl rfl k2 ?_
    refine E_ci 1 rfl ci1 ?_
    refine E_il rfl L1 ?_
    refine E_bin rfl rfl ?_
    refine E_bin rfl (or_new (by first | decide | with_reducible assumption | omega) (by first | decide | with_reducible assumption | omega) (isB_hi hs)) ?_
    refine E_opf (q := (0, 255)) rfl h1 rfl rfl ?_
    refine E_goto rfl ?_
    have e2 : ms + 2 ^ c ≤ 255 := by
      have : 2 ^ (c + 1) = 2 ^ c + 2 ^ c := by rw [Nat.pow_succ]; omega
      have : 2 ^ (c + 1) ≤ 2 ^ 8 := Nat.pow_le_pow_right (by first | decide | with_reducible assumption | omega) (by first | decide | with_reducible assumption | omega)
      omega
    have h2 : HH (pt g 62 2 (nJ (ms + 2 ^ c))) := HH_ptn h1 rfl (by first | decide | with_reducible assumption | omega) (by first | decide | with_reducible assumption | omega) (by first | decide | with_reducible assumption | omega)
    refine E_ret rfl ⟨rfl, h2, fr_ptr (l := 1) (u := 3) rfl (by first | decide | with_reducible assumption | omega) (by first | decide | with_reducible assumption | omega) F1, ?_, ?_, ?_, ?_⟩
    · unfold ad
      rw [if_pos z, gi_ne (by first | exact gxx rfl | omega)]; exact k1
    · rw [if_pos z]; exact gi_ptn h1 rfl (by first | decide | with_reducible assumption | omega) (by first | decide | with_reducible assumption | omega) (by first | decide | with_reducible assumption | omega)
    · rw [if_pos z, gi_ne (by first | exact gxx rfl | omega)]; exact k3
    · rw [← n1]; funext k; exact gn_ne (by first | exact gxx rfl | omega)
  · obtain ⟨q1, qp, qf⟩ : 1 ≤ q ∧ q ≤ p ∧ isB m (q - 1) = false := by rcases ok with e | e; exact absurd e z; exact e
    refine E_ifT rfl (decide_eq_true (fun e => z ((nJ_eq0 (by first | decide | with_reducible assumption | omega)).mp e))) ?_
    refine E_al rfl L0 ?_
    refine E_dup rfl rfl ?_
    refine E_ogf (q := (0, 511)) rfl h1 rfl rfl k1 ?_
    refine E_il rfl L3 ?_
    refine E_call rfl (Sp_le (by first | exact Nat.add_le_add_left (Nat.le_of_ble_eq_true rfl) _ | exact Nat.le_of_ble_eq_true rfl | omega) (sp_placeBit (d := d) q1 q9)) (chkS rfl (by show 2 ≤ 8; decide)) (fun h2 r2 => ?_)
    rintro ⟨e2, f2⟩
    rw [e2, f2]
    refine E_bin rfl (show nJ m ||| nJ (2 ^ (q - 1)) = nJ (m + 2 ^ (q - 1)) from or2_tab ⟨m, hm⟩ ⟨q - 1, by omega⟩ qf) ?_
    have a5 : m + 2 ^ (q - 1) < 512 := isB_add_lt hm (by first | decide | with_reducible assumption | omega) qf
    have a6 : ((m + 2 ^ (q - 1) : Nat) : Int) ≤ 511 := Int.ofNat_le.mpr (Nat.le_of_lt_succ a5)
    have a7 : (0 : Int) ≤ ((m + 2 ^ (q - 1) : Nat) : Int) := Int.natCast_nonneg _
    refine E_opf (q := (0, 511)) rfl h1 rfl rfl ?_
    have h3 : HH (pt g 62 1 (nJ (m + 2 ^ (q - 1)))) := HH_ptn h1 rfl (by first | decide | with_reducible assumption | omega) a7 a6
    refine E_al rfl L0 ?_
    refine E_dup rfl rfl ?_
    refine E_ogf (q := (-2147483648, 2147483647)) (v := nJ wk) rfl h3 rfl rfl (by rw [gi_ne (by first | exact gxx rfl | omega)]; exact k3) ?_
    refine E_il rfl L3 ?_
    refine E_il rfl L2 ?_
    refine E_bin rfl rfl ?_
    refine E_call rfl (Sp_le (by first | exact Nat.add_le_add_left (Nat.le_of_ble_eq_true rfl) _ | exact Nat.le_of_ble_eq_true rfl | omega) (sp_absD (d := d) (a := q) (b := w) (by first | decide | with_reducible assumption | omega) (by first | decide | with_reducible assumption | omega))) (chkS rfl (by show 2 ≤ 8; decide)) (fun h4 r4 => ?_)
    rintro ⟨e4, f4⟩
    rw [e4, f4]
    refine E_bin rfl (nJ_add _ _) ?_
    refine E_opf (q := (-2147483648, 2147483647)) rfl h3 rfl rfl ?_
    have d9 : dst q w ≤ 9 := by unfold dst; omega
    have h5 : HH (pt (pt g 62 1 (nJ (m + 2 ^ (q - 1)))) 62 3 (nJ (wk + dst q w))) := HH_ptn h3 rfl (by first | decide | with_reducible assumption | omega) (by first | decide | with_reducible assumption | omega) (by first | decide | with_reducible assumption | omega)
    refine E_ret rfl ⟨rfl, h5, fr_ptr (l := 1) (u := 3) rfl (by first | decide | with_reducible assumption | omega) (by first | decide | with_reducible assumption | omega) (fr_ptr (l := 1) (u := 3) rfl (by first | decide | with_reducible assumption | omega) (by first | decide | with_reducible assumption | omega) F1), ?_, ?_, ?_, ?_⟩
    · unfold ad
      rw [if_neg z, gi_ne (by first | exact gxx rfl | omega)]; exact gi_ptn h1 rfl (by first | decide | with_reducible assumption | omega) a7 a6
    · rw [if_neg z, gi_ne (by first | exact gxx rfl | omega), gi_ne (by first | exact gxx rfl | omega)]; exact k2
    · rw [if_neg z]; exact gi_ptn h3 rfl (by first | decide | with_reducible assumption | omega) (by first | decide | with_reducible assumption | omega) (by first | decide | with_reducible assumption | omega)
    · rw [← n1]; funext k; rw [gn_ne (by first | exact gxx rfl | omega), gn_ne (by first | exact gxx rfl | omega)]
noncomputable def FI (l p s : Nat) (W : Nat → Nat) (h0 : pm_H) (c : Nat) (h : pm_H) : Prop := HH h ∧ fr_g FL h0 h ∧ gi h 62 1 = nJ (tk l p s W c) ∧ gi h 62 2 = nJ (mss l p s W c) ∧ gi h 62 3 = nJ (wlk l p s W c) ∧ ∀ i, i < c → gn h 63 i = spt l p s W i
theorem fi_loop {h0 : pm_H} {A l p s n : Nat} {hi : Int} (hA : hsF A = some (.inl (0, 8, [(0, hi)]))) (A2 : A ≠ 62 ∧ A ≠ 63) (hh0 : HH h0) (l3 : l ≤ 3) (p9 : p ≤ 9) (s5 : s < 512) (n8 : n ≤ 8) (V : ∀ c, c < n → 1 ≤ gn h0 A c ∧ gn h0 A c ≤ p) (j : Nat) : ∀ {h : pm_H} {c : Nat} (lv : List (Nat × Value)), c + j = n → FI l p s (gn h0 A) h0 c h → pm_get lv 0 = some (.ref 62) → pm_get lv 1 = some (.ref A) → pm_get lv 2 = some (.int (nJ n)) → pm_get lv 3 = some (.int (nJ s)) → pm_get lv 4 = some (.int (nJ p)) → pm_get lv 5 = some (.int (nJ l)) → pm_get lv 6 = some (.int (nJ c)) → Ends (pm_at tX1_fill) (pm_Rt pm_P (d + 3)) (18, lv, [], h, 0, 0) (fun h' r => r = none ∧ FI l p s (gn h0 A) h0 n h') := by
  induction j with
  | zero =>
    intro h c lv hj I L0 L1 L2 L3 L4 L5 L6
    refine E_il rfl L6 ?_
    refine E_il rfl L2 ?_
    refine E_icT rfl (decide_eq_true ((nJ_le (by first | decide | with_reducible assumption | omega) (by first | decide | with_reducible assumption | omega)).mpr (by first | decide | with_reducible assumption | omega))) ?_
    have e : c = n := by omega
    exact E_ret rfl ⟨rfl, e ▸ I⟩
  | succ j ih =>
    intro h c lv hj I L0 L1 L2 L3 L4 L5 L6
    obtain ⟨hh, F, g1, g2, g3, g4⟩ := I
    refine E_il rfl L6 ?_
    refine E_il rfl L2 ?_
    refine E_icF rfl (decide_eq_false (fun q => absurd ((nJ_le (by first | decide | with_reducible assumption | omega) (by first | decide | with_reducible assumption | omega)).mp q) (by first | decide | with_reducible assumption | omega))) ?_
    refine E_al rfl L0 ?_
    refine E_ogr (q := 63) rfl hh rfl rfl ?_
    refine E_il rfl L6 ?_
    refine E_ci 0 rfl ci0 ?_
    refine E_ias rfl hh rfl (by first | decide | with_reducible assumption | omega) (by decide) ?_
    have b63 : bd 63 c = some (0, 9) := bd_u rfl (by first | decide | with_reducible assumption | omega)
    have h1 : HH (pt h 63 c (nJ 0)) := HH_ptn hh b63 (by first | decide | with_reducible assumption | omega) (by first | decide | with_reducible assumption | omega) (by first | decide | with_reducible assumption | omega)
    have F1 : fr_g FL h0 (pt h 63 c (nJ 0)) := fr_ptr (l := 0) (u := 7) rfl (by first | decide | with_reducible assumption | omega) (by first | decide | with_reducible assumption | omega) F
    have n1 : gn (pt h 63 c (nJ 0)) 63 = fup (gn h 63) c 0 := gn_fup hh b63 (by first | decide | with_reducible assumption | omega) (by first | decide | with_reducible assumption | omega) (by first | decide | with_reducible assumption | omega)
    have k1 : gi (pt h 63 c (nJ 0)) 62 1 = nJ (tk l p s (gn h0 A) c) := by rw [gi_ne (by first | exact gxx rfl | omega)]; exact g1
    have k2 : gi (pt h 63 c (nJ 0)) 62 2 = nJ (mss l p s (gn h0 A) c) := by rw [gi_ne (by first | exact gxx rfl | omega)]; exact g2
    have k3 : gi (pt h 63 c (nJ 0)) 62 3 = nJ (wlk l p s (gn h0 A) c) := by rw [gi_ne (by first | exact gxx rfl | omega)]; exact g3
    generalize pt h 63 c (nJ 0) = g at h1 F1 n1 k1 k2 k3 ⊢
    have kA : gi g A c = nJ (gn h0 A c) := by
      rw [fr_gi F1 (rg_no (by show (!(Nat.beq 62 A) && (!(Nat.beq 63 A) && true)) = true; rw [nbeqF (fun q => A2.1 q.symm), nbeqF (fun q => A2.2 q.symm)]; rfl) _)]
      exact gi_gn hh0 (q := (0, hi)) (bd_u hA (by first | decide | with_reducible assumption | omega)) (Int.le_refl 0)
    have tb := fr0_tab ⟨s, s5⟩ ⟨c, by omega⟩
    have tl : tk l p s (gn h0 A) c < 512 := Nat.lt_of_lt_of_le (tk_lt p9 (fun i hi => V i (by first | decide | with_reducible assumption | omega))) (Nat.le_trans (Nat.pow_le_pow_right (n := 2) (by first | decide | with_reducible assumption | omega) p9) (by decide))
    refine E_il rfl L3 ?_
    refine E_il rfl L6 ?_
    refine E_bin rfl rfl ?_
    refine E_ci 1 rfl ci1 ?_
    refine E_bin rfl rfl ?_
    by_cases b : isB s c = false
    · refine E_ifT rfl (decide_eq_true (tb.mpr b)) ?_
      have b' : ¬ isB s c = true := by rw [b]; decide
      have es : spt l p s (gn h0 A) c = 0 := by unfold spt; rw [if_neg b']
      refine E_inc rfl L6 (nJ_inc _) (fun lv1 K6 kp => ?_)
      refine E_goto rfl ?_
      refine ih lv1 (by first | decide | with_reducible assumption | omega) ⟨h1, F1, ?_, ?_, ?_, fun i hi => ?_⟩ (kp 0 _ (nbz rfl) rfl L0) (kp 1 _ (nbz rfl) rfl L1) (kp 2 _ (nbz rfl) rfl L2) (kp 3 _ (nbz rfl) rfl L3) (kp 4 _ (nbz rfl) rfl L4) (kp 5 _ (nbz rfl) rfl L5) K6
      · rw [tk_s, es]; exact k1
      · show _ = nJ (if isB s c = true ∧ spt l p s (gn h0 A) c = 0 then _ else _)
        rw [if_neg (fun q => b' q.1)]; exact k2
      · show _ = nJ (_ + (if spt l p s (gn h0 A) c = 0 then 0 else _))
        rw [if_pos es]; exact k3
      · rw [n1]
        by_cases e : i = c
        · rw [e, fup_s, es]
        · rw [fup_n e]; exact g4 i (by first | decide | with_reducible assumption | omega)
    · have b' : isB s c = true := by cases q : isB s c; exact absurd q b; rfl
      refine E_ifF rfl (decide_eq_false (fun q => b (tb.mp q))) ?_
      have v := V c (by first | decide | with_reducible assumption | omega)
      have es : spt l p s (gn h0 A) c = sf l p (tk l p s (gn h0 A) c) (gn h0 A c) := by unfold spt; rw [if_pos b']
      refine E_al rfl L0 ?_
      refine E_il rfl L6 ?_
      refine E_al rfl L1 ?_
      refine E_il rfl L6 ?_
      refine E_ial rfl h1 hA (by first | decide | with_reducible assumption | omega) (by decide) kA ?_
      refine E_il rfl L5 ?_
      refine E_il rfl L4 ?_
      refine E_al rfl L0 ?_
      refine E_ogf (q := (0, 511)) rfl h1 rfl rfl k1 ?_
      refine E_al rfl L1 ?_
      refine E_il rfl L6 ?_
      refine E_ial rfl h1 hA (by first | decide | with_reducible assumption | omega) (by decide) kA ?_
      refine E_call rfl (sp_spotFor (d := d) l3 tl p9 v.1 v.2) (chkS rfl (by show 3 ≤ 8; decide)) (fun h2 r2 => ?_)
      rintro ⟨e2, f2⟩
      rw [e2, f2, ← es]
      have ok := spt_ok (l := l) (s := s) (W := gn h0 A) v.1 v.2
      have wl := wlk_le (l := l) (s := s) (W := gn h0 A) (p := p) (n := c) (fun i hi => V i (by first | decide | with_reducible assumption | omega))
      have wl2 : c * p ≤ 8 * 9 := Nat.mul_le_mul (by first | decide | with_reducible assumption | omega) p9
      refine E_call rfl (Sp_le (by first | exact Nat.add_le_add_left (Nat.le_of_ble_eq_true rfl) _ | exact Nat.le_of_ble_eq_true rfl | omega) (sp_come (d := d) h1 (by first | decide | with_reducible assumption | omega) (by first | decide | with_reducible assumption | omega) p9 tl k1 ok (mss_lt c) k2 (by first | decide | with_reducible assumption | omega) k3)) (chkO (a := 62) h1 rfl rfl rfl rfl (by show 0 ≤ 8; decide)) (fun h3 r3 => ?_)
      rintro ⟨e3, hh3, f3, m1, m2, m3, m4⟩
      rw [e3]
      refine E_inc rfl L6 (nJ_inc _) (fun lv1 K6 kp => ?_)
      refine E_goto rfl ?_
      refine ih lv1 (by first | decide | with_reducible assumption | omega) ⟨hh3, fr_trans F1 f3, ?_, ?_, ?_, fun i hi => ?_⟩ (kp 0 _ (nbz rfl) rfl L0) (kp 1 _ (nbz rfl) rfl L1) (kp 2 _ (nbz rfl) rfl L2) (kp 3 _ (nbz rfl) rfl L3) (kp 4 _ (nbz rfl) rfl L4) (kp 5 _ (nbz rfl) rfl L5) K6
      · rw [tk_s]; exact m1
      · rw [m2]
        show _ = nJ (if isB s c = true ∧ spt l p s (gn h0 A) c = 0 then _ else _)
        by_cases z : spt l p s (gn h0 A) c = 0
        · rw [if_pos z, if_pos ⟨b', z⟩]
        · rw [if_neg z, if_neg (fun q => z q.2)]
      · exact m3
      · rw [m4, n1]
        by_cases e : i = c
        · rw [e, fup_s]
        · rw [fup_n e, fup_n e]; exact g4 i (by first | decide | with_reducible assumption | omega)
theorem sp_fill {A l p s n : Nat} {hi : Int} (hA : hsF A = some (.inl (0, 8, [(0, hi)]))) (A2 : A ≠ 62 ∧ A ≠ 63) (hh : HH h) (l3 : l ≤ 3) (p9 : p ≤ 9) (s5 : s < 512) (n8 : n ≤ 8) (V : ∀ c, c < n → 1 ≤ gn h A c ∧ gn h A c ≤ p) : Sp (d + 4) 20 h [.ref 62, .ref A, .int (nJ n), .int (nJ s), .int (nJ p), .int (nJ l)] (fun h' r => r = none ∧ HH h' ∧ fr_g FL h h' ∧ LTP l p s (gn h A) n h') := by
  refine Sp_mono (Q := fun h' r => r = none ∧ FI l p s (gn h A) h n h') ?_ ?_
  · rintro h' r ⟨rfl, hh', F, g1, g2, g3, g4⟩
    exact ⟨rfl, hh', F, g1, g2, g3, fun i hi => by rw [gi_gn hh' (q := (0, 9)) (bd_u rfl (by first | decide | with_reducible assumption | omega)) (by decide), g4 i hi]⟩
  refine Sp_of aiX1_fill rfl rfl rfl ?_
  have L0 : pm_get (lv_args 0 [.ref 62, .ref A, .int (nJ n), .int (nJ s), .int (nJ p), .int (nJ l)]) 0 = some (.ref 62) := rfl
  have L1 : pm_get (lv_args 0 [.ref 62, .ref A, .int (nJ n), .int (nJ s), .int (nJ p), .int (nJ l)]) 1 = some (.ref A) := rfl
  have L2 : pm_get (lv_args 0 [.ref 62, .ref A, .int (nJ n), .int (nJ s), .int (nJ p), .int (nJ l)]) 2 = some (.int (nJ n)) := rfl
  have L3 : pm_get (lv_args 0 [.ref 62, .ref A, .int (nJ n), .int (nJ s), .int (nJ p), .int (nJ l)]) 3 = some (.int (nJ s)) := rfl
  have L4 : pm_get (lv_args 0 [.ref 62, .ref A, .int (nJ n), .int (nJ s), .int (nJ p), .int (nJ l)]) 4 = some (.int (nJ p)) := rfl
  have L5 : pm_get (lv_args 0 [.ref 62, .ref A, .int (nJ n), .int (nJ s), .int (nJ p), .int (nJ l)]) 5 = some (.int (nJ l)) := rfl
  generalize lv_args 0 [.ref 62, .ref A, .int (nJ n), .int (nJ s), .int (nJ p), .int (nJ l)] = lv at L0 L1 L2 L3 L4 L5 ⊢
  refine E_al rfl L0 ?_
  refine E_ci 0 rfl ci0 ?_
  refine E_opf (q := (0, 511)) rfl hh rfl rfl ?_
  have h1 : HH (pt h 62 1 (nJ 0)) := HH_ptn hh rfl (by first | decide | with_reducible assumption | omega) (by first | decide | with_reducible assumption | omega) (by first | decide | with_reducible assumption | omega)
  refine E_al rfl L0 ?_
  refine E_ci 0 rfl ci0 ?_
  refine E_opf (q := (0, 255)) rfl h1 rfl rfl ?_
  have h2 : HH (pt (pt h 62 1 (nJ 0)) 62 2 (nJ 0)) := HH_ptn h1 rfl (by first | decide | with_reducible assumption | omega) (by first | decide | with_reducible assumption | omega) (by first | decide | with_reducible assumption | omega)
  refine E_al rfl L0 ?_
  refine E_ci 0 rfl ci0 ?_
  refine E_opf (q := (-2147483648, 2147483647)) rfl h2 rfl rfl ?_
  have h3 : HH (pt (pt (pt h 62 1 (nJ 0)) 62 2 (nJ 0)) 62 3 (nJ 0)) := HH_ptn h2 rfl (by first | decide | with_reducible assumption | omega) (by first | decide | with_reducible assumption | omega) (by first | decide | with_reducible assumption | omega)
  refine E_ci 0 rfl ci0 ?_
  refine E_is rfl (fun lv1 K6 kp => ?_)
  refine fi_loop hA A2 hh l3 p9 s5 n8 V n (c := 0) lv1 (by first | decide | with_reducible assumption | omega) ⟨h3, fr_ptr (l := 1) (u := 3) rfl (by first | decide | with_reducible assumption | omega) (by first | decide | with_reducible assumption | omega) (fr_ptr (l := 1) (u := 3) rfl (by first | decide | with_reducible assumption | omega) (by first | decide | with_reducible assumption | omega) (fr_ptr (l := 1) (u := 3) rfl (by first | decide | with_reducible assumption | omega) (by first | decide | with_reducible assumption | omega) (fr_rf _ _))), ?_, ?_, ?_, fun i hi => absurd hi (Nat.not_lt_zero i)⟩ (kp 0 _ (nbz rfl) rfl L0) (kp 1 _ (nbz rfl) rfl L1) (kp 2 _ (nbz rfl) rfl L2) (kp 3 _ (nbz rfl) rfl L3) (kp 4 _ (nbz rfl) rfl L4) (kp 5 _ (nbz rfl) rfl L5) K6
  · rw [gi_ne (by first | exact gxx rfl | omega), gi_ne (by first | exact gxx rfl | omega)]; exact gi_ptn hh rfl (by first | decide | with_reducible assumption | omega) (by first | decide | with_reducible assumption | omega) (by first | decide | with_reducible assumption | omega)
  · rw [gi_ne (by first | exact gxx rfl | omega)]; exact gi_ptn h1 rfl (by first | decide | with_reducible assumption | omega) (by first | decide | with_reducible assumption | omega) (by first | decide | with_reducible assumption | omega)
  · exact gi_ptn h2 rfl (by first | decide | with_reducible assumption | omega) (by first | decide | with_reducible assumption | omega) (by first | decide | with_reducible assumption | omega)
theorem sp_everyCar (hh : HH h) : Sp (d + 1) 103 h [.ref 0] (fun h' r => h' = h ∧ r = some (.int (nJ (2 ^ gn h 15 4 - 1)))) := by
  obtain ⟨-, -, a3, a4, -⟩ := g15 hh
  refine Sp_of aiX8_everyCar rfl rfl rfl ?_
  have L0 : pm_get (lv_args 0 [.ref 0]) 0 = some (.ref 0) := rfl
  generalize lv_args 0 [.ref 0] = lv at L0 ⊢
  refine E_ci 1 rfl ci1 ?_
  refine E_al rfl L0 ?_
  refine E_ogr (q := 15) rfl hh rfl rfl ?_
  refine E_ogf (q := (0, 8)) rfl hh rfl rfl a3 ?_
  refine E_bin rfl rfl ?_
  refine E_ci 1 rfl ci1 ?_
  refine E_bin rfl (cm_bits a4) ?_
  exact E_rti rfl ⟨rfl, rfl⟩
theorem all_lt {c : Nat} (h : c ≤ 8) : 2 ^ c - 1 < 512 := by
  have : 2 ^ c ≤ 2 ^ 8 := Nat.pow_le_pow_right (by first | decide | with_reducible assumption | omega) h
  omega
end FILL
end
section
/-! the reference parks (wants u65, u63) -/
noncomputable def pO (q : Nat) : Int32 := if q = 0 then -1 else nJ q
/-- who holds a place, counted from 1; 0: none -/
noncomputable def hd (l p s : Nat) (W : Nat → Nat) : Nat → Nat → Nat
  | 0, _ => 0
  | n + 1, q => if spt l p s W n = q ∧ q ≠ 0 then n + 1 else hd l p s W n q
theorem hd_le {l p s : Nat} {W : Nat → Nat} {q : Nat} : ∀ (n : Nat), hd l p s W n q ≤ n
  | 0 => Nat.le_refl 0
  | n + 1 => by
    have := hd_le (l := l) (p := p) (s := s) (W := W) (q := q) n
    show (if spt l p s W n = q ∧ q ≠ 0 then n + 1 else hd l p s W n q) ≤ n + 1
    split <;> omega
theorem hd_free {l p s : Nat} {W : Nat → Nat} (p9 : p ≤ 9) : ∀ {n : Nat}, (∀ c, c < n → 1 ≤ W c ∧ W c ≤ p) → ∀ q, 1 ≤ q → q ≤ 9 → (hd l p s W n q = 0 ↔ isB (tk l p s W n) (q - 1) = false)
  | 0, _, q, _, _ => ⟨fun _ => isB_zero _, fun _ => rfl⟩
  | n + 1, V, q, q1, q9 => by
    have ih := hd_free (l := l) (s := s) p9 (n := n) (fun c hc => V c (by first | decide | with_reducible assumption | omega)) q q1 q9
    have tl : tk l p s W n < 512 := Nat.lt_of_lt_of_le (tk_lt p9 (fun i hi => V i (by first | decide | with_reducible assumption | omega))) (Nat.le_trans (Nat.pow_le_pow_right (n := 2) (by first | decide | with_reducible assumption | omega) p9) (by decide))
    have ok := spt_ok (l := l) (s := s) (W := W) (V n (by first | decide | with_reducible assumption | omega)).1 (V n (by first | decide | with_reducible assumption | omega)).2
    show (if spt l p s W n = q ∧ q ≠ 0 then n + 1 else hd l p s W n q) = 0 ↔ isB (tk l p s W (n + 1)) (q - 1) = false
    rw [tk_s]
    unfold ad
    rcases ok with z | ⟨a1, a2, a3⟩
    · rw [if_neg (by first | decide | with_reducible assumption | omega), if_pos z]; exact ih
    · rw [if_neg (show ¬ spt l p s W n = 0 by omega), isB_add tl (by first | decide | with_reducible assumption | omega) (by first | decide | with_reducible assumption | omega) a3]
      by_cases e : spt l p s W n = q
      · rw [if_pos ⟨e, by omega⟩, e, show (q - 1 == q - 1) = true from beq_self_eq_true _]
        constructor
        · intro k; omega
        · intro k; cases k
      · rw [if_neg (fun k => e k.1), show (q - 1 == spt l p s W n - 1) = false from beq_eq_false_iff_ne.mpr (by first | decide | with_reducible assumption | omega), Bool.false_or]
        exact ih
noncomputable def HLm (p m : Nat) (h : pm_H) : Prop := ∀ q, 1 ≤ q → q ≤ p → (gi h 90 q = -1 ↔ isB m (q - 1) = false)
section PK9
variable {h : pm_H} {d : Nat}
theorem sp_isFree9 {p m : Nat} {x : Int32} (hh : HH h) (p9 : p ≤ 9) (H : HLm p m h) : Sp (d + 1) 268 h [.ref 77, .int x, .int (nJ p)] (fun h' r => h' = h ∧ r = some (.int (zb (1 ≤ x.toInt ∧ x.toInt ≤ (p : Int) ∧ isB m (x.toInt.toNat - 1) = false)))) := by
  refine Sp_of aiX9_isFree rfl rfl rfl ?_
  have L0 : pm_get (lv_args 0 [.ref 77, .int x, .int (nJ p)]) 0 = some (.ref 77) := rfl
  have L1 : pm_get (lv_args 0 [.ref 77, .int x, .int (nJ p)]) 1 = some (.int x) := rfl
  have L2 : pm_get (lv_args 0 [.ref 77, .int x, .int (nJ p)]) 2 = some (.int (nJ p)) := rfl
  generalize lv_args 0 [.ref 77, .int x, .int (nJ p)] = lv at L0 L1 L2 ⊢
  have no : ¬ (1 ≤ x.toInt ∧ x.toInt ≤ (p : Int) ∧ isB m (x.toInt.toNat - 1) = false) → Ends (pm_at tX9_isFree) (pm_Rt pm_P d) (24, lv, [], h, 0, 0) (fun h' r => h' = h ∧ r = some (.int (zb (1 ≤ x.toInt ∧ x.toInt ≤ (p : Int) ∧ isB m (x.toInt.toNat - 1) = false)))) := by
    intro q
    refine E_ci 0 rfl ci0 ?_
    exact E_rtz rfl (.inl rfl) ⟨rfl, by rw [zb_F q]⟩
  have z1 : (1 : Int32).toInt = 1 := rfl
  have zp := nJ_toInt (n := p) (by first | decide | with_reducible assumption | omega)
  refine E_il rfl L1 ?_
  refine E_c rfl ?_
  by_cases b1 : 1 ≤ x.toInt
  · refine E_icF rfl (decide_eq_false (fun q => by have := Int32.lt_iff_toInt_lt.mp q; omega)) ?_
    refine E_il rfl L1 ?_
    refine E_il rfl L2 ?_
    by_cases b2 : x.toInt ≤ (p : Int)
    · refine E_icF rfl (decide_eq_false (fun q => by have := Int32.lt_iff_toInt_lt.mp q; omega)) ?_
      obtain ⟨c, hc, rfl⟩ : ∃ c, c ≤ 9 ∧ x = nJ c := ⟨x.toInt.toNat, by omega, nJ_of (by first | decide | with_reducible assumption | omega)⟩
      have xc := nJ_toInt (n := c) (by first | decide | with_reducible assumption | omega)
      have hq := H c (by first | decide | with_reducible assumption | omega) (by first | decide | with_reducible assumption | omega)
      refine E_al rfl L0 ?_
      refine E_gr rfl hh (q := 90) rfl ?_
      refine E_il rfl L1 ?_
      refine E_ial rfl hh rfl (by first | decide | with_reducible assumption | omega) (by decide) rfl ?_
      refine E_c rfl ?_
      have ec : (nJ c).toInt.toNat = c := by omega
      by_cases b3 : isB m (c - 1) = false
      · refine E_icF rfl (decide_eq_false (fun q => q (hq.mpr b3))) ?_
        refine E_ci 1 rfl ci1 ?_
        refine E_goto rfl ?_
        exact E_rtz rfl (.inr rfl) ⟨rfl, by rw [zb_T ⟨b1, b2, by rw [ec]; exact b3⟩]⟩
      · refine E_icT rfl (decide_eq_true (fun q => b3 (hq.mp q))) ?_
        exact no (fun q => b3 (by have := q.2.2; rw [ec] at this; exact this))
    · refine E_icT rfl (decide_eq_true (Int32.lt_iff_toInt_lt.mpr (by first | decide | with_reducible assumption | omega))) ?_
      exact no (fun q => b2 q.2.1)
  · refine E_icT rfl (decide_eq_true (Int32.lt_iff_toInt_lt.mpr (by first | decide | with_reducible assumption | omega))) ?_
    exact no (fun q => b1 q.1)
/-- the same of a number -/
theorem sp_isFree9n {p m q : Nat} (hh : HH h) (p9 : p ≤ 9) (q10 : q ≤ 100) (H : HLm p m h) : Sp (d + 1) 268 h [.ref 77, .int (nJ q), .int (nJ p)] (fun h' r => h' = h ∧ r = some (.int (zb (1 ≤ q ∧ q ≤ p ∧ isB m (q - 1) = false)))) := by
  refine Sp_mono ?_ (sp_isFree9 (x := nJ q) hh p9 H)
  rintro h' r ⟨rfl, rfl⟩
  have e := nJ_toInt (n := q) (by first | decide | with_reducible assumption | omega)
  refine ⟨rfl, ?_⟩
  by_cases b : 1 ≤ q ∧ q ≤ p ∧ isB m (q - 1) = false
  · rw [zb_T b, zb_T]
    rw [e]
    exact ⟨by omega, by omega, by rw [show ((q : Int).toNat) = q by omega]; exact b.2.2⟩
  · rw [zb_F b, zb_F]
    rw [e]
    rintro ⟨x1, x2, x3⟩
    rw [show ((q : Int).toNat) = q by omega] at x3
    exact b ⟨by omega, by omega, x3⟩
theorem ab_loop {p m : Nat} (hh : HH h) (p9 : p ≤ 9) (H : HLm p m h) (j : Nat) : ∀ {q : Nat} (lv : List (Nat × Value)), 1 ≤ q → q ≤ 10 → p < q + j → pm_get lv 0 = some (.ref 77) → pm_get lv 2 = some (.int (nJ p)) → pm_get lv 3 = some (.int (nJ q)) → Ends (pm_at tX9_above0) (pm_Rt pm_P (d + 1)) (4, lv, [], h, 0, 0) (fun h' r => h' = h ∧ r = some (.int (pO (ff m p j q)))) := by
  induction j with
  | zero =>
    intro q lv q1 q10 hj L0 L2 L3
    refine E_il rfl L3 ?_
    refine E_il rfl L2 ?_
    refine E_icT rfl (decide_eq_true ((nJ_lt (by first | decide | with_reducible assumption | omega) (by first | decide | with_reducible assumption | omega)).mpr (by first | decide | with_reducible assumption | omega))) ?_
    refine E_c rfl ?_
    exact E_rti rfl ⟨rfl, rfl⟩
  | succ j ih =>
    intro q lv q1 q10 hj L0 L2 L3
    unfold ff
    refine E_il rfl L3 ?_
    refine E_il rfl L2 ?_
    by_cases b : q ≤ p
    · refine E_icF rfl (decide_eq_false (fun z => absurd ((nJ_lt (by first | decide | with_reducible assumption | omega) (by first | decide | with_reducible assumption | omega)).mp z) (by first | decide | with_reducible assumption | omega))) ?_
      rw [if_pos b]
      refine E_al rfl L0 ?_
      refine E_il rfl L3 ?_
      refine E_il rfl L2 ?_
      refine E_call rfl (sp_isFree9n (d := d) hh p9 (by first | decide | with_reducible assumption | omega) H) (chk77 hh rfl rfl (by show 0 ≤ 8; decide)) (fun h1 r1 => ?_)
      rintro ⟨e1, f1⟩
      rw [e1, f1]
      by_cases c : isB m (q - 1) = false
      · refine E_ifF rfl (by rw [zb_T ⟨q1, b, c⟩]; rfl) ?_
        rw [if_pos c]
        refine E_il rfl L3 ?_
        exact E_rti rfl ⟨rfl, by unfold pO; rw [if_neg (by first | decide | with_reducible assumption | omega)]⟩
      · refine E_ifT rfl (by rw [zb_F (fun z => c z.2.2)]; rfl) ?_
        rw [if_neg c]
        refine E_inc rfl L3 (nJ_inc _) (fun lv1 K3 kp => ?_)
        refine E_goto rfl ?_
        exact ih lv1 (by first | decide | with_reducible assumption | omega) (by first | decide | with_reducible assumption | omega) (by first | decide | with_reducible assumption | omega) (kp 0 _ (nbz rfl) rfl L0) (kp 2 _ (nbz rfl) rfl L2) K3
    · refine E_icT rfl (decide_eq_true ((nJ_lt (by first | decide | with_reducible assumption | omega) (by first | decide | with_reducible assumption | omega)).mpr (by first | decide | with_reducible assumption | omega))) ?_
      rw [if_neg b]
      refine E_c rfl ?_
      exact E_rti rfl ⟨rfl, rfl⟩
theorem sp_above0 {p m a : Nat} (hh : HH h) (p9 : p ≤ 9) (a9 : a ≤ 9) (H : HLm p m h) : Sp (d + 2) 205 h [.ref 77, .int (nJ a), .int (nJ p)] (fun h' r => h' = h ∧ r = some (.int (pO (ff m p 10 (a + 1))))) := by
  refine Sp_of aiX9_above0 rfl rfl rfl ?_
  have L0 : pm_get (lv_args 0 [.ref 77, .int (nJ a), .int (nJ p)]) 0 = some (.ref 77) := rfl
  have L1 : pm_get (lv_args 0 [.ref 77, .int (nJ a), .int (nJ p)]) 1 = some (.int (nJ a)) := rfl
  have L2 : pm_get (lv_args 0 [.ref 77, .int (nJ a), .int (nJ p)]) 2 = some (.int (nJ p)) := rfl
  generalize lv_args 0 [.ref 77, .int (nJ a), .int (nJ p)] = lv at L0 L1 L2 ⊢
  refine E_il rfl L1 ?_
  refine E_ci 1 rfl ci1 ?_
  refine E_bin rfl (nJ_add _ _) ?_
  refine E_is rfl (fun lv1 K3 kp => ?_)
  exact ab_loop hh p9 H 10 lv1 (by first | decide | with_reducible assumption | omega) (by first | decide | with_reducible assumption | omega) (by first | decide | with_reducible assumption | omega) (kp 0 _ (nbz rfl) rfl L0) (kp 2 _ (nbz rfl) rfl L2) K3
theorem pO_n1 {q : Nat} (h : q < 1000) : pO q = -1 ↔ q = 0 := by
  unfold pO
  by_cases z : q = 0
  · rw [if_pos z]; exact ⟨fun _ => z, fun _ => rfl⟩
  · rw [if_neg z]
    constructor
    · intro e
      have := congrArg Int32.toInt e
      rw [nJ_toInt (by first | decide | with_reducible assumption | omega)] at this
      have z1 : (-1 : Int32).toInt = -1 := rfl
      omega
    · intro e; exact absurd e z
theorem nf9_loop {p m w : Nat} (hh : HH h) (p9 : p ≤ 9) (w1 : 1 ≤ w) (wp : w ≤ p) (H : HLm p m h) (j : Nat) : ∀ {k : Nat} (lv : List (Nat × Value)), 1 ≤ k → k ≤ 10 → p ≤ k + j → pm_get lv 0 = some (.ref 77) → pm_get lv 1 = some (.int (nJ w)) → pm_get lv 3 = some (.int (nJ p)) → pm_get lv 4 = some (.int (nJ k)) → Ends (pm_at tX9_findsBy) (pm_Rt pm_P (d + 2)) (44, lv, [], h, 0, 0) (fun h' r => h' = h ∧ r = some (.int (pO (nf m p w j k)))) := by
  induction j with
  | zero =>
    intro k lv k1 k10 hj L0 L1 L3 L4
    refine E_il rfl L4 ?_
    refine E_il rfl L3 ?_
    refine E_icT rfl (decide_eq_true ((nJ_le (by first | decide | with_reducible assumption | omega) (by first | decide | with_reducible assumption | omega)).mpr (by first | decide | with_reducible assumption | omega))) ?_
    refine E_c rfl ?_
    exact E_rti rfl ⟨rfl, rfl⟩
  | succ j ih =>
    intro k lv k1 k10 hj L0 L1 L3 L4
    unfold nf
    refine E_il rfl L4 ?_
    refine E_il rfl L3 ?_
    by_cases b : k < p
    · refine E_icF rfl (decide_eq_false (fun z => absurd ((nJ_le (by first | decide | with_reducible assumption | omega) (by first | decide | with_reducible assumption | omega)).mp z) (by first | decide | with_reducible assumption | omega))) ?_
      rw [if_pos b]
      refine E_al rfl L0 ?_
      refine E_il rfl L1 ?_
      refine E_il rfl L4 ?_
      refine E_bin rfl (nJ_add _ _) ?_
      refine E_il rfl L3 ?_
      refine E_call rfl (Sp_le (by first | exact Nat.add_le_add_left (Nat.le_of_ble_eq_true rfl) _ | exact Nat.le_of_ble_eq_true rfl | omega) (sp_isFree9n (d := d) (q := w + k) hh p9 (by first | decide | with_reducible assumption | omega) H)) (chk77 hh rfl rfl (by show 0 ≤ 8; decide)) (fun h1 r1 => ?_)
      rintro ⟨e1, f1⟩
      rw [e1, f1]
      by_cases c : w + k ≤ p ∧ isB m (w + k - 1) = false
      · refine E_ifF rfl (by rw [zb_T ⟨by omega, c.1, c.2⟩]; rfl) ?_
        rw [if_pos c]
        refine E_il rfl L1 ?_
        refine E_il rfl L4 ?_
        refine E_bin rfl (nJ_add _ _) ?_
        exact E_rti rfl ⟨rfl, by unfold pO; rw [if_neg (by first | decide | with_reducible assumption | omega)]⟩
      · refine E_ifT rfl (by rw [zb_F (fun z => c z.2)]; rfl) ?_
        rw [if_neg c]
        have ti : (nJ w - nJ k).toInt = (w : Int) - (k : Int) := by
          rw [Int32.toInt_sub, nJ_toInt (by first | decide | with_reducible assumption | omega), nJ_toInt (by first | decide | with_reducible assumption | omega)]
          exact Int.bmod_eq_of_le (by first | decide | with_reducible assumption | omega) (by first | decide | with_reducible assumption | omega)
        refine E_al rfl L0 ?_
        refine E_il rfl L1 ?_
        refine E_il rfl L4 ?_
        refine E_bin rfl rfl ?_
        refine E_il rfl L3 ?_
        refine E_call rfl (Sp_le (by first | exact Nat.add_le_add_left (Nat.le_of_ble_eq_true rfl) _ | exact Nat.le_of_ble_eq_true rfl | omega) (sp_isFree9 (d := d) (x := nJ w - nJ k) hh p9 H)) (chk77 hh rfl rfl (by show 0 ≤ 8; decide)) (fun h2 r2 => ?_)
        rintro ⟨e2, f2⟩
        rw [e2, f2]
        have cn : (1 ≤ (nJ w - nJ k).toInt ∧ (nJ w - nJ k).toInt ≤ (p : Int) ∧ isB m ((nJ w - nJ k).toInt.toNat - 1) = false) ↔ (1 + k ≤ w ∧ isB m (w - k - 1) = false) := by
          rw [ti, show ((w : Int) - (k : Int)).toNat = w - k by omega]
          constructor
          · rintro ⟨x1, x2, x3⟩; exact ⟨by omega, x3⟩
          · rintro ⟨x1, x3⟩; exact ⟨by omega, by omega, x3⟩
        by_cases e : 1 + k ≤ w ∧ isB m (w - k - 1) = false
        · refine E_ifF rfl (by rw [zb_T (cn.mpr e)]; rfl) ?_
          rw [if_pos e]
          refine E_il rfl L1 ?_
          refine E_il rfl L4 ?_
          refine E_bin rfl (nJ_sub (by first | decide | with_reducible assumption | omega)) ?_
          exact E_rti rfl ⟨rfl, by unfold pO; rw [if_neg (by first | decide | with_reducible assumption | omega)]⟩
        · refine E_ifT rfl (by rw [zb_F (fun z => e (cn.mp z))]; rfl) ?_
          rw [if_neg e]
          refine E_inc rfl L4 (nJ_inc _) (fun lv1 K4 kp => ?_)
          refine E_goto rfl ?_
          exact ih lv1 (by first | decide | with_reducible assumption | omega) (by first | decide | with_reducible assumption | omega) (by first | decide | with_reducible assumption | omega) (kp 0 _ (nbz rfl) rfl L0) (kp 1 _ (nbz rfl) rfl L1) (kp 3 _ (nbz rfl) rfl L3) K4
    · refine E_icT rfl (decide_eq_true ((nJ_le (by first | decide | with_reducible assumption | omega) (by first | decide | with_reducible assumption | omega)).mpr (by first | decide | with_reducible assumption | omega))) ?_
      rw [if_neg b]
      refine E_c rfl ?_
      exact E_rti rfl ⟨rfl, rfl⟩
theorem sp_findsBy {l m w : Nat} (hh : HH h) (hl : l ≤ 3) (w1 : 1 ≤ w) (wp : w ≤ gn h 84 0) (H : HLm (gn h 84 0) m h) : Sp (d + 3) 249 h [.ref 77, .int (nJ w), .int (nJ l)] (fun h' r => h' = h ∧ r = some (.int (pO (sf l (gn h 84 0) m w)))) := by
  have p8 : gn h 84 0 ≤ 8 := gn_hi hh rfl (by decide)
  refine Sp_of aiX9_findsBy rfl rfl rfl ?_
  have L0 : pm_get (lv_args 0 [.ref 77, .int (nJ w), .int (nJ l)]) 0 = some (.ref 77) := rfl
  have L1 : pm_get (lv_args 0 [.ref 77, .int (nJ w), .int (nJ l)]) 1 = some (.int (nJ w)) := rfl
  have L2 : pm_get (lv_args 0 [.ref 77, .int (nJ w), .int (nJ l)]) 2 = some (.int (nJ l)) := rfl
  generalize lv_args 0 [.ref 77, .int (nJ w), .int (nJ l)] = lv0 at L0 L1 L2 ⊢
  refine E_al rfl L0 ?_
  refine E_call rfl (Sp_le (by first | exact Nat.add_le_add_left (Nat.le_of_ble_eq_true rfl) _ | exact Nat.le_of_ble_eq_true rfl | omega) (sp_places (d := d) hh)) (chk77 hh rfl rfl (by show 0 ≤ 8; decide)) (fun h1 r1 => ?_)
  rintro ⟨e1, f1, -⟩
  rw [e1, f1]
  generalize gn h 84 0 = p at wp H p8 ⊢
  refine E_is rfl (fun lv L3 kp => ?_)
  replace L0 := kp 0 _ (nbz rfl) rfl L0
  replace L1 := kp 1 _ (nbz rfl) rfl L1
  replace L2 := kp 2 _ (nbz rfl) rfl L2
  unfold sf
  refine E_al rfl L0 ?_
  refine E_il rfl L1 ?_
  refine E_il rfl L3 ?_
  refine E_call rfl (Sp_le (by first | exact Nat.add_le_add_left (Nat.le_of_ble_eq_true rfl) _ | exact Nat.le_of_ble_eq_true rfl | omega) (sp_isFree9n (d := d) (q := w) hh (by first | decide | with_reducible assumption | omega) (by first | decide | with_reducible assumption | omega) H)) (chk77 hh rfl rfl (by show 0 ≤ 8; decide)) (fun h2 r2 => ?_)
  rintro ⟨e2, f2⟩
  rw [e2, f2]
  by_cases a : isB m (w - 1) = false
  · refine E_ifF rfl (by rw [zb_T ⟨w1, wp, a⟩]; rfl) ?_
    rw [if_pos a]
    refine E_il rfl L1 ?_
    exact E_rti rfl ⟨rfl, by unfold pO; rw [if_neg (by first | decide | with_reducible assumption | omega)]⟩
  refine E_ifT rfl (by rw [zb_F (fun z => a z.2.2)]; rfl) ?_
  rw [if_neg a]
  have at36 : ¬ (l = 1 ∧ 2 ≤ w ∧ isB m (w - 2) = false) → Ends (pm_at tX9_findsBy) (pm_Rt pm_P (d + 2)) (36, lv, [], h, 0, 0) (fun h' r => h' = h ∧ r = some (.int (pO (if l = 1 ∧ 2 ≤ w ∧ isB m (w - 2) = false then w - 1 else if l = 2 then nf m p w 10 1 else if ff m p 10 (w + 1) = 0 ∧ l = 3 then ff m p 10 1 else ff m p 10 (w + 1))))) := by
    intro b
    rw [if_neg b]
    refine E_il rfl L2 ?_
    refine E_ci 2 rfl ci2 ?_
    by_cases c : l = 2
    · refine E_icF rfl (decide_eq_false (fun z => z ((nJ_eq (by first | decide | with_reducible assumption | omega) (by first | decide | with_reducible assumption | omega)).mpr c))) ?_
      rw [if_pos c]
      refine E_ci 1 rfl ci1 ?_
      refine E_is rfl (fun lv1 K4 kp => ?_)
      exact nf9_loop hh (by first | decide | with_reducible assumption | omega) w1 wp H 10 lv1 (by first | decide | with_reducible assumption | omega) (by first | decide | with_reducible assumption | omega) (by first | decide | with_reducible assumption | omega) (kp 0 _ (nbz rfl) rfl L0) (kp 1 _ (nbz rfl) rfl L1) (kp 3 _ (nbz rfl) rfl L3) K4
    · refine E_icT rfl (decide_eq_true (fun z => c ((nJ_eq (by first | decide | with_reducible assumption | omega) (by first | decide | with_reducible assumption | omega)).mp z))) ?_
      rw [if_neg c]
      refine E_al rfl L0 ?_
      refine E_il rfl L1 ?_
      refine E_il rfl L3 ?_
      refine E_call rfl (sp_above0 (d := d) hh (by first | decide | with_reducible assumption | omega) (by first | decide | with_reducible assumption | omega) H) (chk77 hh rfl rfl (by show 0 ≤ 8; decide)) (fun h3 r3 => ?_)
      rintro ⟨e3, f3⟩
      rw [e3, f3]
      have fo := ff_ok (m := m) (p := p) (j := 10) (q := w + 1) (by first | decide | with_reducible assumption | omega)
      have f9 : ff m p 10 (w + 1) < 1000 := by rcases fo with q | ⟨_, q, _⟩ <;> omega
      refine E_is rfl (fun lv1 K4 kp => ?_)
      refine E_il rfl K4 ?_
      refine E_c rfl ?_
      by_cases z : ff m p 10 (w + 1) = 0
      · refine E_icF rfl (decide_eq_false (fun q => q ((pO_n1 f9).mpr z))) ?_
        refine E_il rfl (kp 2 _ (nbz rfl) rfl L2) ?_
        refine E_ci 3 rfl ci3 ?_
        by_cases l3 : l = 3
        · refine E_icF rfl (decide_eq_false (fun q => q ((nJ_eq (by first | decide | with_reducible assumption | omega) (by first | decide | with_reducible assumption | omega)).mpr l3))) ?_
          rw [if_pos ⟨z, l3⟩]
          refine E_al rfl (kp 0 _ (nbz rfl) rfl L0) ?_
          refine E_ci 0 rfl ci0 ?_
          refine E_il rfl (kp 3 _ (nbz rfl) rfl L3) ?_
          refine E_call rfl (sp_above0 (d := d) (a := 0) hh (by first | decide | with_reducible assumption | omega) (by first | decide | with_reducible assumption | omega) H) (chk77 hh rfl rfl (by show 0 ≤ 8; decide)) (fun h4 r4 => ?_)
          rintro ⟨e4, f4⟩
          rw [e4, f4]
          refine E_goto rfl ?_
          exact E_rti rfl ⟨rfl, rfl⟩
        · refine E_icT rfl (decide_eq_true (fun q => l3 ((nJ_eq (by first | decide | with_reducible assumption | omega) (by first | decide | with_reducible assumption | omega)).mp q))) ?_
          rw [if_neg (fun q => l3 q.2)]
          refine E_il rfl K4 ?_
          exact E_rti rfl ⟨rfl, rfl⟩
      · refine E_icT rfl (decide_eq_true (fun q => z ((pO_n1 f9).mp q))) ?_
        rw [if_neg (fun q => z q.1)]
        refine E_il rfl K4 ?_
        exact E_rti rfl ⟨rfl, rfl⟩
  refine E_il rfl L2 ?_
  refine E_ci 1 rfl ci1 ?_
  by_cases b1 : l = 1
  · refine E_icF rfl (decide_eq_false (fun z => z ((nJ_eq (by first | decide | with_reducible assumption | omega) (by first | decide | with_reducible assumption | omega)).mpr b1))) ?_
    refine E_al rfl L0 ?_
    refine E_il rfl L1 ?_
    refine E_ci 1 rfl ci1 ?_
    refine E_bin rfl (nJ_sub (by first | decide | with_reducible assumption | omega)) ?_
    refine E_il rfl L3 ?_
    refine E_call rfl (Sp_le (by first | exact Nat.add_le_add_left (Nat.le_of_ble_eq_true rfl) _ | exact Nat.le_of_ble_eq_true rfl | omega) (sp_isFree9n (d := d) (q := w - 1) hh (by first | decide | with_reducible assumption | omega) (by first | decide | with_reducible assumption | omega) H)) (chk77 hh rfl rfl (by show 0 ≤ 8; decide)) (fun h3 r3 => ?_)
    rintro ⟨e3, f3⟩
    rw [e3, f3, show w - 1 - 1 = w - 2 by omega]
    by_cases b3 : 2 ≤ w ∧ isB m (w - 2) = false
    · refine E_ifF rfl (by rw [zb_T ⟨by omega, by omega, b3.2⟩]; rfl) ?_
      rw [if_pos ⟨b1, b3⟩]
      refine E_il rfl L1 ?_
      refine E_ci 1 rfl ci1 ?_
      refine E_bin rfl (nJ_sub (by first | decide | with_reducible assumption | omega)) ?_
      exact E_rti rfl ⟨rfl, by unfold pO; rw [if_neg (by first | decide | with_reducible assumption | omega)]⟩
    · refine E_ifT rfl (by rw [zb_F (fun z => b3 ⟨by omega, z.2.2⟩)]; rfl) ?_
      exact at36 (fun q => b3 q.2)
  · refine E_icT rfl (decide_eq_true (fun z => b1 ((nJ_eq (by first | decide | with_reducible assumption | omega) (by first | decide | with_reducible assumption | omega)).mp z))) ?_
    exact at36 (fun q => b1 q.1)
end PK9
end
section
/-! the reference parks and lays, exactly; the street's numbers as both see them (wants u66, u67) -/
noncomputable def PKF : List Rng := [(77, 27, 27), (90, 0, 9), (91, 0, 7)]
noncomputable def PKD (l p s : Nat) (W : Nat → Nat) (n : Nat) (h : pm_H) : Prop := gi h 77 27 = nJ (mss l p s W n) ∧ (∀ q, q ≤ 9 → gi h 90 q = pI (hd l p s W n q)) ∧ ∀ i, i < n → gi h 91 i = pO (spt l p s W i)
theorem hd_W {l p s n : Nat} {W W' : Nat → Nat} (e : ∀ c, c < n → W c = W' c) (q : Nat) : hd l p s W n q = hd l p s W' n q := by
  induction n with
  | zero => rfl
  | succ n ih =>
    have i := ih (fun c hc => e c (by first | decide | with_reducible assumption | omega))
    show (if spt l p s W n = q ∧ q ≠ 0 then n + 1 else hd l p s W n q) = (if spt l p s W' n = q ∧ q ≠ 0 then n + 1 else hd l p s W' n q)
    rw [i, spt_W (fun c hc => e c (by first | decide | with_reducible assumption | omega))]
theorem PKD_W {l p s n : Nat} {W W' : Nat → Nat} {h : pm_H} (e : ∀ c, c < n → W c = W' c) (k : PKD l p s W n h) : PKD l p s W' n h := by
  obtain ⟨k1, k2, k3⟩ := k
  refine ⟨by rw [k1, mss_W e], fun q hq => by rw [k2 q hq, hd_W e], fun i hi => ?_⟩
  rw [k3 i hi, spt_W (fun c hc => e c (by first | decide | with_reducible assumption | omega))]
theorem pI_n1 {n : Nat} (hn : n < 2147483648) : pI n = -1 ↔ n = 0 := by
  cases n with
  | zero => exact ⟨fun _ => rfl, fun _ => rfl⟩
  | succ k =>
    constructor
    · intro e
      have := congrArg Int32.toInt e
      rw [show pI (k + 1) = nJ k from rfl, nJ_toInt (by first | decide | with_reducible assumption | omega)] at this
      have z1 : (-1 : Int32).toInt = -1 := rfl
      omega
    · intro e; cases e
theorem pO_lo {q : Nat} (h : q ≤ 9) : (-1 : Int) ≤ (pO q).toInt ∧ (pO q).toInt ≤ 9 := by
  unfold pO
  by_cases z : q = 0
  · rw [if_pos z]; exact ⟨by decide, by decide⟩
  · rw [if_neg z, nJ_toInt (by first | decide | with_reducible assumption | omega)]; omega
section PARKS
variable {h0 : pm_H} {d : Nat}
theorem pkX_clr {Q : pm_H → Option Value → Prop} {x : Int32} (hh0 : HH h0) (j : Nat) : ∀ {h : pm_H} {k : Nat} (lv : List (Nat × Value)), k + j = 10 → HH h → fr_g PKF h0 h → gi h 77 27 = nJ 0 → (∀ q, q < k → gi h 90 q = -1) → pm_get lv 0 = some (.ref 77) → pm_get lv 1 = some (.int x) → pm_get lv 2 = some (.int (nJ k)) → (∀ (h' : pm_H) (lv' : List (Nat × Value)), HH h' → fr_g PKF h0 h' → gi h' 77 27 = nJ 0 → (∀ q, q ≤ 9 → gi h' 90 q = -1) → pm_get lv' 0 = some (.ref 77) → pm_get lv' 1 = some (.int x) → pm_get lv' 2 = some (.int (nJ 0)) → Ends (pm_at tX9_parks) (pm_Rt pm_P d) (28, lv', [], h', 0, 0) Q) → Ends (pm_at tX9_parks) (pm_Rt pm_P d) (7, lv, [], h, 0, 0) Q := by
  induction j with
  | zero =>
    intro h k lv hj hh hf g1 g2 L0 L1 L2 kk
    refine E_il rfl L2 ?_
    refine E_ci 10 rfl ci10 ?_
    refine E_icT rfl (decide_eq_true ((nJ_le (by first | decide | with_reducible assumption | omega) (by first | decide | with_reducible assumption | omega)).mpr (by first | decide | with_reducible assumption | omega))) ?_
    refine E_ci 0 rfl ci0 ?_
    refine E_is rfl (fun lv1 K2 kp => ?_)
    exact kk h lv1 hh hf g1 (fun q hq => g2 q (by first | decide | with_reducible assumption | omega)) (kp 0 _ (nbz rfl) rfl L0) (kp 1 _ (nbz rfl) rfl L1) K2
  | succ j ih =>
    intro h k lv hj hh hf g1 g2 L0 L1 L2 kk
    refine E_il rfl L2 ?_
    refine E_ci 10 rfl ci10 ?_
    refine E_icF rfl (decide_eq_false (fun z => absurd ((nJ_le (by first | decide | with_reducible assumption | omega) (by first | decide | with_reducible assumption | omega)).mp z) (by first | decide | with_reducible assumption | omega))) ?_
    refine E_al rfl L0 ?_
    refine E_gr rfl hh (q := 90) rfl ?_
    refine E_il rfl L2 ?_
    refine E_c rfl ?_
    refine E_ias rfl hh rfl (by first | decide | with_reducible assumption | omega) (by decide) ?_
    have b : bd 90 k = some (-1, 7) := bd_u rfl (by first | decide | with_reducible assumption | omega)
    have hh1 : HH (pt h 90 k (-1)) := HH_pt hh b (by decide) (by decide)
    refine E_inc rfl L2 (nJ_inc _) (fun lv1 K2 kp => ?_)
    refine E_goto rfl ?_
    refine ih lv1 (by first | decide | with_reducible assumption | omega) hh1 (fr_ptr (l := 0) (u := 9) rfl (by first | decide | with_reducible assumption | omega) (by first | decide | with_reducible assumption | omega) hf) (by rw [gi_ne (by first | exact gxx rfl | omega)]; exact g1) (fun q hq => ?_) (kp 0 _ (nbz rfl) rfl L0) (kp 1 _ (nbz rfl) rfl L1) K2 kk
    by_cases e : q = k
    · rw [e]; exact gi_pt hh b (by decide) (by decide)
    · rw [gi_ne (fun _ => e)]; exact g2 q (by first | decide | with_reducible assumption | omega)
theorem pkX_loop {l s : Nat} (hh0 : HH h0) (l3 : l ≤ 3) (s5 : s < 512) (gs : gi h0 77 23 = nJ s) (V : ∀ c, c < gn h0 84 3 → 1 ≤ gn h0 89 c ∧ gn h0 89 c ≤ gn h0 84 0) (j : Nat) : ∀ {h : pm_H} {c : Nat} (lv : List (Nat × Value)), c + j = gn h0 84 3 → HH h → fr_g PKF h0 h → PKD l (gn h0 84 0) s (gn h0 89) c h → pm_get lv 0 = some (.ref 77) → pm_get lv 1 = some (.int (nJ l)) → pm_get lv 2 = some (.int (nJ c)) → Ends (pm_at tX9_parks) (pm_Rt pm_P (d + 3)) (28, lv, [], h, 0, 0) (fun h' r => r = none ∧ HH h' ∧ fr_g PKF h0 h' ∧ PKD l (gn h0 84 0) s (gn h0 89) (gn h0 84 3) h') := by
  have n8 : gn h0 84 3 ≤ 8 := gn_hi hh0 rfl (by decide)
  have p8 : gn h0 84 0 ≤ 8 := gn_hi hh0 rfl (by decide)
  induction j with
  | zero =>
    intro h c lv hj hh hf K L0 L1 L2
    have ec : gn h 84 3 = gn h0 84 3 := fr_gn hf (rg_no rfl _)
    refine E_il rfl L2 ?_
    refine E_al rfl L0 ?_
    refine E_call rfl (Sp_le (by first | exact Nat.add_le_add_left (Nat.le_of_ble_eq_true rfl) _ | exact Nat.le_of_ble_eq_true rfl | omega) (sp_cars (d := d) hh)) (chk77 hh rfl rfl (by show 1 ≤ 8; decide)) (fun h1 r1 => ?_)
    rintro ⟨e1, f1, -⟩
    rw [e1, f1, ec]
    refine E_icT rfl (decide_eq_true ((nJ_le (by first | decide | with_reducible assumption | omega) (by first | decide | with_reducible assumption | omega)).mpr (by first | decide | with_reducible assumption | omega))) ?_
    have e : c = gn h0 84 3 := by omega
    exact E_ret rfl ⟨rfl, hh, hf, e ▸ K⟩
  | succ j ih =>
    intro h c lv hj hh hf K L0 L1 L2
    obtain ⟨k1, k2, k3⟩ := K
    have ec : gn h 84 3 = gn h0 84 3 := fr_gn hf (rg_no rfl _)
    refine E_il rfl L2 ?_
    refine E_al rfl L0 ?_
    refine E_call rfl (Sp_le (by first | exact Nat.add_le_add_left (Nat.le_of_ble_eq_true rfl) _ | exact Nat.le_of_ble_eq_true rfl | omega) (sp_cars (d := d) hh)) (chk77 hh rfl rfl (by show 1 ≤ 8; decide)) (fun h1 r1 => ?_)
    rintro ⟨e1, f1, -⟩
    rw [e1, f1, ec]
    refine E_icF rfl (decide_eq_false (fun z => absurd ((nJ_le (by first | decide | with_reducible assumption | omega) (by first | decide | with_reducible assumption | omega)).mp z) (by first | decide | with_reducible assumption | omega))) ?_
    refine E_al rfl L0 ?_
    refine E_gr rfl hh (q := 91) rfl ?_
    refine E_il rfl L2 ?_
    refine E_c rfl ?_
    refine E_ias rfl hh rfl (by first | decide | with_reducible assumption | omega) (by decide) ?_
    have b91 : bd 91 c = some (-1, 9) := bd_u rfl (by first | decide | with_reducible assumption | omega)
    have hg : HH (pt h 91 c (-1)) := HH_pt hh b91 (by decide) (by decide)
    have fg : fr_g PKF h0 (pt h 91 c (-1)) := fr_ptr (l := 0) (u := 7) rfl (by first | decide | with_reducible assumption | omega) (by first | decide | with_reducible assumption | omega) hf
    have g1 : gi (pt h 91 c (-1)) 77 27 = nJ (mss l (gn h0 84 0) s (gn h0 89) c) := by rw [gi_ne (by first | exact gxx rfl | omega)]; exact k1
    have g2 : ∀ q, q ≤ 9 → gi (pt h 91 c (-1)) 90 q = pI (hd l (gn h0 84 0) s (gn h0 89) c q) := fun q hq => by rw [gi_ne (by first | exact gxx rfl | omega)]; exact k2 q hq
    have g3 : ∀ i, i < c → gi (pt h 91 c (-1)) 91 i = pO (spt l (gn h0 84 0) s (gn h0 89) i) := fun i hi => by rw [gi_ne (by first | exact gxx rfl | omega)]; exact k3 i hi
    have g4 : gi (pt h 91 c (-1)) 91 c = -1 := gi_pt hh b91 (by decide) (by decide)
    generalize pt h 91 c (-1) = g at hg fg g1 g2 g3 g4 ⊢
    have nx : ∀ {g' : pm_H} {lv' : List (Nat × Value)}, HH g' → fr_g PKF h0 g' → PKD l (gn h0 84 0) s (gn h0 89) (c + 1) g' → pm_get lv' 0 = some (.ref 77) → pm_get lv' 1 = some (.int (nJ l)) → pm_get lv' 2 = some (.int (nJ c)) → Ends (pm_at tX9_parks) (pm_Rt pm_P (d + 3)) (103, lv', [], g', 0, 0) (fun h' r => r = none ∧ HH h' ∧ fr_g PKF h0 h' ∧ PKD l (gn h0 84 0) s (gn h0 89) (gn h0 84 3) h') := by
      intro g' lv' a1 a2 a3 M0 M1 M2
      refine E_inc rfl M2 (nJ_inc _) (fun lv1 K2 kp => ?_)
      refine E_goto rfl ?_
      exact ih lv1 (by first | decide | with_reducible assumption | omega) a1 a2 a3 (kp 0 _ (nbz rfl) rfl M0) (kp 1 _ (nbz rfl) rfl M1) K2
    refine E_al rfl L0 ?_
    refine E_gf rfl hg rfl (show gi g 77 23 = nJ s from by rw [fr_gi fg rfl]; exact gs) ?_
    refine E_il rfl L2 ?_
    refine E_call rfl (Sp_le (by first | exact Nat.add_le_add_left (Nat.le_of_ble_eq_true rfl) _ | exact Nat.le_of_ble_eq_true rfl | omega) (sp_isBit (d := d) s5 (show c < 9 by omega))) (chkS rfl (by show 0 ≤ 8; decide)) (fun h2 r2 => ?_)
    rintro ⟨e2, f2⟩
    rw [e2, f2]
    have ms := mss_lt (l := l) (p := gn h0 84 0) (s := s) (W := gn h0 89) c
    cases b : isB s c with
    | false =>
      have b' : ¬ isB s c = true := by rw [b]; decide
      have es : spt l (gn h0 84 0) s (gn h0 89) c = 0 := by unfold spt; rw [if_neg b']
      refine E_ifF rfl rfl ?_
      refine E_goto rfl ?_
      refine nx hg fg ⟨?_, fun q hq => ?_, fun i hi => ?_⟩ L0 L1 L2
      · show _ = nJ (if isB s c = true ∧ spt l (gn h0 84 0) s (gn h0 89) c = 0 then _ else _)
        rw [if_neg (fun q => b' q.1)]; exact g1
      · show _ = pI (if spt l (gn h0 84 0) s (gn h0 89) c = q ∧ q ≠ 0 then c + 1 else _)
        rw [if_neg (by rw [es]; rintro ⟨a, a'⟩; exact a' a.symm)]; exact g2 q hq
      · by_cases e : i = c
        · rw [e, g4, es]; rfl
        · exact g3 i (by first | decide | with_reducible assumption | omega)
    | true =>
      have v := V c (by first | decide | with_reducible assumption | omega)
      have es : spt l (gn h0 84 0) s (gn h0 89) c = sf l (gn h0 84 0) (tk l (gn h0 84 0) s (gn h0 89) c) (gn h0 89 c) := by unfold spt; rw [if_pos b]
      have ok := spt_ok (l := l) (s := s) (W := gn h0 89) v.1 v.2
      have q9 : spt l (gn h0 84 0) s (gn h0 89) c ≤ 9 := by rcases ok with e | ⟨_, e, _⟩ <;> omega
      have ep : gn g 84 0 = gn h0 84 0 := fr_gn fg (rg_no rfl _)
      refine E_ifT rfl rfl ?_
      refine E_al rfl L0 ?_
      refine E_al rfl L0 ?_
      refine E_gr rfl hg (q := 89) rfl ?_
      refine E_il rfl L2 ?_
      refine E_ial rfl hg rfl (by first | decide | with_reducible assumption | omega) (by decide) (show gi g 89 c = nJ (gn h0 89 c) from by rw [fr_gi fg (rg_no rfl _)]; exact gi_gn hh0 (q := (0, 8)) (bd_u rfl (by first | decide | with_reducible assumption | omega)) (by decide)) ?_
      refine E_il rfl L1 ?_
      refine E_call rfl (sp_findsBy (d := d) (m := tk l (gn h0 84 0) s (gn h0 89) c) hg l3 v.1 (by rw [ep]; exact v.2) (by
        rw [ep]
        intro q q1 qp
        have h9 := hd_le (l := l) (p := gn h0 84 0) (s := s) (W := gn h0 89) (q := q) c
        rw [g2 q (by first | decide | with_reducible assumption | omega), pI_n1 (by first | decide | with_reducible assumption | omega)]
        exact hd_free (by first | decide | with_reducible assumption | omega) (fun i hi => V i (by first | decide | with_reducible assumption | omega)) q q1 (by first | decide | with_reducible assumption | omega))) (chk77 hg rfl rfl (by show 0 ≤ 8; decide)) (fun h3 r3 => ?_)
      rintro ⟨e3, f3⟩
      rw [e3, f3, ep, ← es]
      generalize eq : spt l (gn h0 84 0) s (gn h0 89) c = q0 at ok q9 ⊢
      refine E_is rfl (fun lv1 K3 kp => ?_)
      have M0 := kp 0 _ (nbz rfl) rfl L0
      have M1 := kp 1 _ (nbz rfl) rfl L1
      have M2 := kp 2 _ (nbz rfl) rfl L2
      refine E_al rfl M0 ?_
      refine E_gr rfl hg (q := 91) rfl ?_
      refine E_il rfl M2 ?_
      refine E_il rfl K3 ?_
      refine E_ias rfl hg rfl (by first | decide | with_reducible assumption | omega) (by decide) ?_
      have pl := pO_lo q9
      have hk : HH (pt g 91 c (pO q0)) := HH_pt hg b91 pl.1 pl.2
      have fk : fr_g PKF h0 (pt g 91 c (pO q0)) := fr_ptr (l := 0) (u := 7) rfl (by first | decide | with_reducible assumption | omega) (by first | decide | with_reducible assumption | omega) fg
      have m1 : gi (pt g 91 c (pO q0)) 77 27 = nJ (mss l (gn h0 84 0) s (gn h0 89) c) := by rw [gi_ne (by first | exact gxx rfl | omega)]; exact g1
      have m2 : ∀ q, q ≤ 9 → gi (pt g 91 c (pO q0)) 90 q = pI (hd l (gn h0 84 0) s (gn h0 89) c q) := fun q hq => by rw [gi_ne (by first | exact gxx rfl | omega)]; exact g2 q hq
      have m3 : ∀ i, i < c + 1 → gi (pt g 91 c (pO q0)) 91 i = pO (spt l (gn h0 84 0) s (gn h0 89) i) := fun i hi => by
        by_cases e : i = c
        · rw [e, eq]; exact gi_pt hg b91 pl.1 pl.2
        · rw [gi_ne (fun _ => e)]; exact g3 i (by first | decide | with_reducible assumption | omega)
      generalize pt g 91 c (pO q0) = k at hk fk m1 m2 m3 ⊢
      refine E_il rfl K3 ?_
      refine E_c rfl ?_
      by_cases z : q0 = 0
      · refine E_icF rfl (decide_eq_false (fun w => w ((pO_n1 (by first | decide | with_reducible assumption | omega)).mpr z))) ?_
        refine E_al rfl M0 ?_
        refine E_dup rfl rfl ?_
        refine E_gf rfl hk rfl m1 ?_
        refine E_ci 1 rfl ci1 ?_
        refine E_il rfl M2 ?_
        refine E_bin rfl rfl ?_
        have m5 : mss l (gn h0 84 0) s (gn h0 89) c < 256 := Nat.lt_of_lt_of_le ms (Nat.le_trans (Nat.pow_le_pow_right (n := 2) (by first | decide | with_reducible assumption | omega) (show c ≤ 8 by omega)) (by decide))
        refine E_bin rfl (or_new (by first | decide | with_reducible assumption | omega) (by first | decide | with_reducible assumption | omega) (isB_hi ms)) ?_
        have e2 : mss l (gn h0 84 0) s (gn h0 89) c + 2 ^ c ≤ 255 := by
          have : 2 ^ (c + 1) = 2 ^ c + 2 ^ c := by rw [Nat.pow_succ]; omega
          have : 2 ^ (c + 1) ≤ 2 ^ 8 := Nat.pow_le_pow_right (by first | decide | with_reducible assumption | omega) (by first | decide | with_reducible assumption | omega)
          omega
        refine E_pf rfl hk rfl ?_
        refine E_goto rfl ?_
        refine nx (HH_ptn hk rfl (by first | decide | with_reducible assumption | omega) (by first | decide | with_reducible assumption | omega) (by first | decide | with_reducible assumption | omega)) (fr_ptr (l := 27) (u := 27) rfl (by first | decide | with_reducible assumption | omega) (by first | decide | with_reducible assumption | omega) fk) ⟨?_, fun q hq => ?_, fun i hi => ?_⟩ M0 M1 M2
        · show _ = nJ (if isB s c = true ∧ spt l (gn h0 84 0) s (gn h0 89) c = 0 then _ else _)
          rw [if_pos ⟨b, by rw [eq]; exact z⟩]
          exact gi_ptn hk rfl (by first | decide | with_reducible assumption | omega) (by first | decide | with_reducible assumption | omega) (by first | decide | with_reducible assumption | omega)
        · show _ = pI (if spt l (gn h0 84 0) s (gn h0 89) c = q ∧ q ≠ 0 then c + 1 else _)
          rw [eq, if_neg (by rw [z]; rintro ⟨a, a'⟩; exact a' a.symm), gi_ne (by first | exact gxx rfl | omega)]; exact m2 q hq
        · rw [gi_ne (by first | exact gxx rfl | omega)]; exact m3 i hi
      · obtain ⟨q1, qp, qf⟩ : 1 ≤ q0 ∧ q0 ≤ gn h0 84 0 ∧ isB (tk l (gn h0 84 0) s (gn h0 89) c) (q0 - 1) = false := by rcases ok with e | e; exact absurd e z; exact e
        refine E_icT rfl (decide_eq_true (fun w => z ((pO_n1 (by first | decide | with_reducible assumption | omega)).mp w))) ?_
        have ez : pO q0 = nJ q0 := by unfold pO; rw [if_neg z]
        rw [ez] at K3
        refine E_al rfl M0 ?_
        refine E_gr rfl hk (q := 90) rfl ?_
        refine E_il rfl K3 ?_
        refine E_il rfl M2 ?_
        refine E_ias rfl hk rfl (by first | decide | with_reducible assumption | omega) (by decide) ?_
        have b90 : bd 90 q0 = some (-1, 7) := bd_u rfl (by first | decide | with_reducible assumption | omega)
        refine nx (HH_ptn hk b90 (by first | decide | with_reducible assumption | omega) (by first | decide | with_reducible assumption | omega) (by first | decide | with_reducible assumption | omega)) (fr_ptr (l := 0) (u := 9) rfl (by first | decide | with_reducible assumption | omega) (by first | decide | with_reducible assumption | omega) fk) ⟨?_, fun q hq => ?_, fun i hi => ?_⟩ M0 M1 M2
        · show _ = nJ (if isB s c = true ∧ spt l (gn h0 84 0) s (gn h0 89) c = 0 then _ else _)
          rw [if_neg (by rw [eq]; exact fun w => z w.2), gi_ne (by first | exact gxx rfl | omega)]; exact m1
        · show _ = pI (if spt l (gn h0 84 0) s (gn h0 89) c = q ∧ q ≠ 0 then c + 1 else _)
          rw [eq]
          by_cases e : q0 = q
          · rw [if_pos ⟨e, by omega⟩, ← e]
            exact gi_ptn hk b90 (by first | decide | with_reducible assumption | omega) (by first | decide | with_reducible assumption | omega) (by first | decide | with_reducible assumption | omega)
          · rw [if_neg (fun w => e w.1), gi_ne (fun _ w => e w.symm)]; exact m2 q hq
        · rw [gi_ne (by first | exact gxx rfl | omega)]; exact m3 i hi
theorem sp_parksX {l s : Nat} (hh0 : HH h0) (l3 : l ≤ 3) (s5 : s < 512) (gs : gi h0 77 23 = nJ s) (V : ∀ c, c < gn h0 84 3 → 1 ≤ gn h0 89 c ∧ gn h0 89 c ≤ gn h0 84 0) : Sp (d + 4) 320 h0 [.ref 77, .int (nJ l)] (fun h' r => r = none ∧ HH h' ∧ fr_g PKF h0 h' ∧ PKD l (gn h0 84 0) s (gn h0 89) (gn h0 84 3) h') := by
  refine Sp_of aiX9_parks rfl rfl rfl ?_
  have L0 : pm_get (lv_args 0 [.ref 77, .int (nJ l)]) 0 = some (.ref 77) := rfl
  have L1 : pm_get (lv_args 0 [.ref 77, .int (nJ l)]) 1 = some (.int (nJ l)) := rfl
  generalize lv_args 0 [.ref 77, .int (nJ l)] = lv at L0 L1 ⊢
  refine E_al rfl L0 ?_
  refine E_ci 0 rfl ci0 ?_
  refine E_pf rfl hh0 rfl ?_
  have hg : HH (pt h0 77 27 (nJ 0)) := HH_ptn hh0 rfl (by first | decide | with_reducible assumption | omega) (by first | decide | with_reducible assumption | omega) (by first | decide | with_reducible assumption | omega)
  refine E_ci 0 rfl ci0 ?_
  refine E_is rfl (fun lv1 K2 kp => ?_)
  refine pkX_clr hh0 10 lv1 (by first | decide | with_reducible assumption | omega) hg (fr_ptr (l := 27) (u := 27) rfl (by first | decide | with_reducible assumption | omega) (by first | decide | with_reducible assumption | omega) (fr_rf _ _)) (gi_ptn hh0 rfl (by first | decide | with_reducible assumption | omega) (by first | decide | with_reducible assumption | omega) (by first | decide | with_reducible assumption | omega)) (fun q hq => absurd hq (Nat.not_lt_zero q)) (kp 0 _ (nbz rfl) rfl L0) (kp 1 _ (nbz rfl) rfl L1) K2 (fun h' lv' a1 a2 a3 a4 M0 M1 M2 => ?_)
  exact pkX_loop hh0 l3 s5 gs V (gn h0 84 3) (c := 0) lv' (by first | decide | with_reducible assumption | omega) a1 a2 ⟨a3, fun q hq => a4 q hq, fun i hi => absurd hi (Nat.not_lt_zero i)⟩ M0 M1 M2
/-! the street's numbers, by the reference's cells -/
noncomputable def L9 (h : pm_H) : Nat := gn h 84 1
noncomputable def P9 (h : pm_H) : Nat := gn h 84 0
noncomputable def N9 (h : pm_H) : Nat := gn h 84 3
/-- what a heap must keep of another for these numbers -/
noncomputable def K9 (h h' : pm_H) : Prop := (∀ k, gn h' 84 k = gn h 84 k) ∧ (∀ k, gn h' 85 k = gn h 85 k) ∧ (∀ k, gn h' 87 k = gn h 87 k) ∧ ∀ k, gi h' 83 k = gi h 83 k
theorem W9_K {h h' : pm_H} (k : K9 h h') : W9 h' = W9 h := by
  obtain ⟨e4, e5, e7, -⟩ := k
  have a : C9 h' = C9 h := funext (fun i => e7 _)
  have b : G9 h' = G9 h := funext (fun i => e7 _)
  have c : Z9 h' = Z9 h := funext (fun i => e7 _)
  have d : t9 h' = t9 h := funext (fun i => e5 _)
  unfold W9
  rw [a, b, c, d, e4]
theorem V9_K {h h' : pm_H} (k : K9 h h') (V : V9 h) : V9 h' := by
  obtain ⟨e4, e5, e7, -⟩ := k
  intro i hi
  rw [e4] at hi
  have q := V i hi
  unfold vAct C9 G9 Z9 at q ⊢
  rw [e4, e4, e7, e7, e7]
  exact q
theorem L9_K {h h' : pm_H} (k : K9 h h') : L9 h' = L9 h := k.1 _
theorem P9_K {h h' : pm_H} (k : K9 h h') : P9 h' = P9 h := k.1 _
theorem N9_K {h h' : pm_H} (k : K9 h h') : N9 h' = N9 h := k.1 _
theorem K9_fr {M : List Rng} {h h' : pm_H} (hf : fr_g M h h') (h4 : M.all (fun r => !(Nat.beq r.1 84)) = true) (h5 : M.all (fun r => !(Nat.beq r.1 85)) = true) (h7 : M.all (fun r => !(Nat.beq r.1 87)) = true) (h3 : M.all (fun r => !(Nat.beq r.1 83)) = true) : K9 h h' := ⟨fun k => fr_gn hf (rg_no h4 k), fun k => fr_gn hf (rg_no h5 k), fun k => fr_gn hf (rg_no h7 k), fun k => fr_gi hf (rg_no h3 k)⟩
/-- wishes lie within the places -/
noncomputable def B9 (h : pm_H) : Prop := ∀ c, c < N9 h → 1 ≤ W9 h c ∧ W9 h c ≤ P9 h
theorem B9_of {h : pm_H} (R : QRE h) : B9 h := fun c hc => (now_eq R c hc).2
theorem g9s {h : pm_H} (hh : HH h) : L9 h ≤ 3 ∧ P9 h ≤ 8 ∧ N9 h ≤ 8 := ⟨gn_hi hh rfl (by decide), gn_hi hh rfl (by decide), gn_hi hh rfl (by decide)⟩
/-! answers -/
noncomputable def cq (h : pm_H) (f : Nat → Int32) (x : Int32) : Int32 := if 0 ≤ x.toInt ∧ x.toInt < (N9 h : Int) then f x.toInt.toNat else -2
noncomputable def pq (h : pm_H) (f : Nat → Int32) (x : Int32) : Int32 := if 0 < (gi h 83 0).toInt ∧ 1 ≤ x.toInt ∧ x.toInt ≤ (P9 h : Int) then f x.toInt.toNat else -2
theorem st_eq {h : pm_H} (R : QRE h) : 0 < gn h 15 0 ↔ 0 < (gi h 83 0).toInt := by
  obtain ⟨s1, -, -, -, s5⟩ := R.2.1.1
  rw [s1] at s5
  constructor
  · intro a
    exact Decidable.byContradiction (fun q => by have := s5.mpr q; omega)
  · intro a
    rcases Nat.eq_zero_or_pos (gn h 15 0) with z | z
    · exact absurd a (s5.mp z)
    · exact z
end PARKS
end
section
/-! what is wanted, counted by both (wants u67b; cw of t1) -/
/-- the class's street in the reference's numbers -/
noncomputable def CW8 (h : pm_H) : Prop := gi h 15 4 = nJ (N9 h) ∧ gi h 15 0 = nJ (P9 h) ∧ ∀ i, i < N9 h → gi h 17 i = nJ (W9 h i)
noncomputable def LY9 (h h' : pm_H) : Prop := HH h' ∧ gn h' 84 0 = P9 h ∧ gn h' 84 3 = N9 h ∧ ∀ c, c < N9 h → gn h' 89 c = W9 h c
section WSH
variable {h h2 : pm_H} {d : Nat}
theorem CW8_of (hh : HH h) (R : QRE h) : CW8 h := by
  have s := R.2.1.1
  have e4 : gn h 15 4 = N9 h := gn_eq s.2.2.1
  have e0 : gn h 15 0 = P9 h := gn_eq (s.2.1 0 (by first | decide | with_reducible assumption | omega))
  obtain ⟨-, -, n8⟩ := g9s hh
  refine ⟨?_, ?_, fun i hi => ?_⟩
  · rw [← e4]; exact gi_gn hh rfl (by decide)
  · rw [← e0]; exact gi_gn hh rfl (by decide)
  · rw [← (now_eq R i hi).1]; exact gi_gn hh (q := (0, 8)) (bd_u rfl (by first | decide | with_reducible assumption | omega)) (by decide)
/-! the reference -/
theorem LY9_of {g : pm_H} (k : K9 h g) (hh2 : HH h2) (f : fr_g YM g h2) (w : ∀ c, c < gn g 84 3 → gn h2 89 c = W9 g c) : LY9 h h2 := by
  refine ⟨hh2, (fr_gn f (rg_no rfl _)).trans (P9_K k), (fr_gn f (rg_no rfl _)).trans (N9_K k), fun c hc => ?_⟩
  rw [w c (by rw [show gn g 84 3 = N9 h from N9_K k]; exact hc), W9_K k]
end WSH
end
section
/-! the slots' numbers in the relation (written by gen_u113.py; wants t33, u62) -/
theorem gl_ne {h : pm_H} {a k : Nat} {v : Int32} {b j : Nat} (hbj : b = a → j ≠ k) : gl (pt h a k v) b j = gl h b j := by
  unfold gl
  rw [ld_pt hbj]
noncomputable def clN (h : pm_H) (s k : Nat) : Int64 := gl h (55 + 2 * s) k
noncomputable def rlN (h : pm_H) (s k : Nat) : Int64 := gl h 80 (60 * s + k)
noncomputable def NU (h : pm_H) : Prop := ∀ s, s < 4 → ∀ k, k < 60 → clN h s k = rlN h s k
noncomputable def rowE (r a c : Int32) (f : Nat → Nat → Int64) (s k : Nat) : Int64 := if r = 0 ∧ a = nJ s ∧ (k : Int) < c.toInt then 0 else f s k
noncomputable def wrE (r a b : Int32) (v : Int64) (w : Nat → Int32) (f : Nat → Nat → Int64) (s k : Nat) : Int64 := if r = 0 ∧ a = nJ s ∧ b = nJ k then cutv v (w s) else f s k
noncomputable def paE (r a i b j n : Int32) (f : Nat → Nat → Int64) (s k : Nat) : Int64 := if r = 0 ∧ b = nJ s ∧ j.toInt ≤ (k : Int) ∧ (k : Int) < j.toInt + n.toInt then f a.toInt.toNat ((k : Int) - j.toInt + i.toInt).toNat else f s k
noncomputable def EF (g : pm_H → Nat → Nat → Int64) (E : Int32 → Nat → Nat → Int64) (h' : pm_H) (r : Option Value) : Prop := ∃ x : Int32, r = some (.int x) ∧ ∀ s, s < 4 → ∀ k, k < 60 → g h' s k = E x s k
theorem no_cell {c j b k : Nat} (h : c ≠ b) {u : Nat} : rg_in [(c, j, u)] b k = false := rg_no (by simp [beq_no h]) k
theorem no_one {c j k : Nat} (h : k ≠ j) : rg_in [(c, j, j)] c k = false := by
  cases hq : rg_in [(c, j, j)] c k with
  | false => rfl
  | true =>
    obtain ⟨r, hr, hc⟩ := List.any_eq_true.mp hq
    have er := List.mem_singleton.mp hr
    subst er
    simp only [Bool.and_eq_true] at hc
    exact absurd (Nat.le_antisymm (Nat.le_of_ble_eq_true hc.2.2) (Nat.le_of_ble_eq_true hc.2.1)) h
theorem no_long {M : List Rng} (hb : [55, 57, 59, 61].all (nocell M) = true) {s k : Nat} (hs : s < 4) : rg_in M (55 + 2 * s) k = false := by
  refine rg_no ?_ k
  match s, hs with
  | 0, _ => exact nc_at hb (by decide)
  | 1, _ => exact nc_at hb (by decide)
  | 2, _ => exact nc_at hb (by decide)
  | 3, _ => exact nc_at hb (by decide)
section EFF
variable {r a b c i j n : Int32} {v : Int64} {w : Nat → Int32} {f g : Nat → Nat → Int64} {s t k : Nat}
theorem rowE_n (q : r ≠ 0) : rowE r a c f s k = f s k := if_neg (fun z => q z.1)
theorem wrE_n (q : r ≠ 0) : wrE r a b v w f s k = f s k := if_neg (fun z => q z.1)
theorem paE_n (q : r ≠ 0) : paE r a i b j n f s k = f s k := if_neg (fun z => q z.1)
theorem rowE_at {m : Nat} (hs : s < 4) (hm : m ≤ 60) (e : ∀ k, k < 60 → g s k = if k < m then 0 else f s k) (o : ∀ s', s' < 4 → s' ≠ s → ∀ k, k < 60 → g s' k = f s' k) : ∀ s', s' < 4 → ∀ k, k < 60 → g s' k = rowE (nJ 0) (nJ s) (nJ m) f s' k := by
  intro s' hs' k hk
  have tm := nJ_toInt (n := m) (by first | decide | with_reducible assumption | omega)
  unfold rowE
  by_cases q : s' = s
  · subst q
    rw [e k hk]
    by_cases z : k < m
    · rw [if_pos z, if_pos ⟨rfl, rfl, by omega⟩]
    · rw [if_neg z, if_neg (fun y => z (by have := y.2.2; omega))]
  · rw [o s' hs' q k hk, if_neg (fun y => q ((nJ_eq (by first | decide | with_reducible assumption | omega) (by first | decide | with_reducible assumption | omega)).mp y.2.1).symm)]
theorem wrE_at {k0 : Nat} (r0 : r = 0) (hs : s < 4) (hk0 : k0 < 60) (e : g s k0 = cutv v (w s)) (o : ∀ s' k, s' < 4 → k < 60 → ¬ (s' = s ∧ k = k0) → g s' k = f s' k) : ∀ s', s' < 4 → ∀ k, k < 60 → g s' k = wrE r (nJ s) (nJ k0) v w f s' k := by
  intro s' hs' k hk
  unfold wrE
  by_cases q : s' = s ∧ k = k0
  · rw [q.1, q.2, e, if_pos ⟨r0, rfl, rfl⟩]
  · rw [o s' k hs' hk q, if_neg (fun y => q ⟨((nJ_eq (by first | decide | with_reducible assumption | omega) (by first | decide | with_reducible assumption | omega)).mp y.2.1).symm, ((nJ_eq (by first | decide | with_reducible assumption | omega) (by first | decide | with_reducible assumption | omega)).mp y.2.2).symm⟩)]
theorem paE_at (r0 : r = 0) (hs : s < 4) (ht : t < 4) (e : ∀ k, k < 60 → g t k = if j.toInt ≤ (k : Int) ∧ (k : Int) < j.toInt + n.toInt then f s ((k : Int) - j.toInt + i.toInt).toNat else f t k) (o : ∀ s', s' < 4 → s' ≠ t → ∀ k, k < 60 → g s' k = f s' k) : ∀ s', s' < 4 → ∀ k, k < 60 → g s' k = paE r (nJ s) i (nJ t) j n f s' k := by
  intro s' hs' k hk
  unfold paE
  by_cases q : s' = t
  · subst q
    rw [e k hk, nJ_nat hs]
    by_cases z : j.toInt ≤ (k : Int) ∧ (k : Int) < j.toInt + n.toInt
    · rw [if_pos z, if_pos ⟨r0, rfl, z⟩]
    · rw [if_neg z, if_neg (fun y => z y.2.2)]
  · rw [o s' hs' q k hk, if_neg (fun y => q ((nJ_eq (by first | decide | with_reducible assumption | omega) (by first | decide | with_reducible assumption | omega)).mp y.2.1).symm)]
theorem rowE_cg (e : ∀ s, s < 4 → ∀ k, k < 60 → f s k = g s k) (hs : s < 4) (hk : k < 60) : rowE r a c f s k = rowE r a c g s k := by unfold rowE; rw [e s hs k hk]
end EFF
/-! row -/
section RWN
theorem bgN_loop {a c w n d : Nat} {h0 : pm_H} (hac : a ≠ c) (S : isS a c) (hn : n ≤ 60) (j : Nat) : ∀ {h : pm_H} {i : Nat} (lv : List (Nat × Value)), i + j = n → HH h → fr_g [(a, 1, 3), (c, 0, 59)] h0 h → (∀ k, k < 60 → gl h c k = if k < i then 0 else gl h0 c k) → pm_get lv 0 = some (.ref a) → pm_get lv 2 = some (.int (nJ n)) → pm_get lv 3 = some (.int (nJ i)) → Ends (pm_at tX4_begin) (pm_Rt pm_P d) (17, lv, [], h, 0, 0) (fun h' r => r = none ∧ HH h' ∧ fr_g [(a, 1, 3), (c, 0, 59)] h0 h' ∧ ∀ k, k < 60 → gl h' c k = if k < n then 0 else gl h0 c k) := by
  obtain ⟨S1, S2, S3, S4, S5, S6⟩ := S
  induction j with
  | zero =>
    intro h i lv hj hh hf g L0 L2 L3
    refine E_il rfl L3 ?_
    refine E_il rfl L2 ?_
    refine E_icT rfl (decide_eq_true ((nJ_le (by first | decide | with_reducible assumption | omega) (by first | decide | with_reducible assumption | omega)).mpr (by first | decide | with_reducible assumption | omega))) ?_
    have e : i = n := by omega
    exact E_ret rfl ⟨rfl, hh, hf, by rw [← e]; exact g⟩
  | succ j ih =>
    intro h i lv hj hh hf g L0 L2 L3
    refine E_il rfl L3 ?_
    refine E_il rfl L2 ?_
    refine E_icF rfl (decide_eq_false (fun q => absurd ((nJ_le (by first | decide | with_reducible assumption | omega) (by first | decide | with_reducible assumption | omega)).mp q) (by first | decide | with_reducible assumption | omega))) ?_
    refine E_al rfl L0 ?_
    refine E_ogr rfl hh S1 S2 ?_
    refine E_il rfl L3 ?_
    refine E_c rfl ?_
    refine E_las rfl hh S3 (by first | decide | with_reducible assumption | omega) (by decide) (fun h1 hh1 f1 g1 => ?_)
    refine E_inc rfl L3 (nJ_inc _) (fun lv1 K3 kp => ?_)
    refine E_goto rfl ?_
    refine ih lv1 (by first | decide | with_reducible assumption | omega) hh1 (fr_trans hf (fr_one (l := 0) (u := 59) (by unfold rg_sub; simp) (Nat.zero_le _) (by first | decide | with_reducible assumption | omega) f1)) (fun k hk => ?_) (kp 0 _ (nbz rfl) rfl L0) (kp 2 _ (nbz rfl) rfl L2) K3
    by_cases e : k = i
    · rw [e, g1, if_pos (by first | decide | with_reducible assumption | omega)]
    · rw [fr_gl f1 (no_one e), g k hk]
      by_cases z : k < i
      · rw [if_pos z, if_pos (by first | decide | with_reducible assumption | omega)]
      · rw [if_neg z, if_neg (by first | decide | with_reducible assumption | omega)]
theorem sp_beginN {h : pm_H} {a c w n d : Nat} (hac : a ≠ c) (S : isS a c) (hh : HH h) (hw : w ≤ 3) (hn : n ≤ 60) : Sp (d + 1) 44 h [.ref a, .int (nJ w), .int (nJ n)] (fun h' r => r = none ∧ HH h' ∧ fr_g [(a, 1, 3), (c, 0, 59)] h h' ∧ ∀ k, k < 60 → gl h' c k = if k < n then 0 else gl h c k) := by
  have S0 := S
  obtain ⟨S1, S2, S3, S4, S5, S6⟩ := S
  refine Sp_of aiX4_begin rfl rfl rfl ?_
  have L0 : pm_get (lv_args 0 [.ref a, .int (nJ w), .int (nJ n)]) 0 = some (.ref a) := rfl
  have L1 : pm_get (lv_args 0 [.ref a, .int (nJ w), .int (nJ n)]) 1 = some (.int (nJ w)) := rfl
  have L2 : pm_get (lv_args 0 [.ref a, .int (nJ w), .int (nJ n)]) 2 = some (.int (nJ n)) := rfl
  generalize lv_args 0 [.ref a, .int (nJ w), .int (nJ n)] = lv at L0 L1 L2 ⊢
  refine E_al rfl L0 ?_
  refine E_c rfl ?_
  refine E_opT rfl rfl hh S1 S4 ?_
  have h1 : HH (pt h a 1 1) := HH_pt hh S4 (by decide) (by decide)
  refine E_al rfl L0 ?_
  refine E_il rfl L1 ?_
  refine E_opf rfl h1 S1 S5 ?_
  have h2 : HH (pt (pt h a 1 1) a 2 (nJ w)) := HH_ptn h1 S5 (by first | decide | with_reducible assumption | omega) (by first | decide | with_reducible assumption | omega) (by first | decide | with_reducible assumption | omega)
  refine E_al rfl L0 ?_
  refine E_il rfl L2 ?_
  refine E_opf rfl h2 S1 S6 ?_
  have h3 : HH (pt (pt (pt h a 1 1) a 2 (nJ w)) a 3 (nJ n)) := HH_ptn h2 S6 (by first | decide | with_reducible assumption | omega) (by first | decide | with_reducible assumption | omega) (by first | decide | with_reducible assumption | omega)
  refine E_ci 0 rfl ci0 ?_
  refine E_is rfl (fun lv1 K3 kp => ?_)
  refine bgN_loop (w := w) hac S0 hn n (i := 0) lv1 (by first | decide | with_reducible assumption | omega) h3 ?_ (fun k hk => ?_) (kp 0 _ (nbz rfl) rfl L0) (kp 2 _ (nbz rfl) rfl L2) K3
  · refine fr_ptr (l := 1) (u := 3) (by unfold rg_sub; simp) (by first | decide | with_reducible assumption | omega) (by first | decide | with_reducible assumption | omega) (fr_ptr (l := 1) (u := 3) (by unfold rg_sub; simp) (by first | decide | with_reducible assumption | omega) (by first | decide | with_reducible assumption | omega) (fr_ptr (l := 1) (u := 3) (by unfold rg_sub; simp) (by first | decide | with_reducible assumption | omega) (by first | decide | with_reducible assumption | omega) (fr_rf _ _)))
  · rw [if_neg (Nat.not_lt_zero k), gl_ne (fun q => absurd q.symm hac), gl_ne (fun q => absurd q.symm hac), gl_ne (fun q => absurd q.symm hac)]
theorem sp_row8N {h : pm_H} {d : Nat} {x y v : Int32} (hh : HH h) : Sp (d + 2) 171 h [.ref 0, .int x, .int y, .int v] (EF clN (fun r => rowE r x v (clN h))) := by
  refine Sp_of aiX8_row rfl rfl rfl ?_
  have L0 : pm_get (lv_args 0 [.ref 0, .int x, .int y, .int v]) 0 = some (.ref 0) := rfl
  have L1 : pm_get (lv_args 0 [.ref 0, .int x, .int y, .int v]) 1 = some (.int x) := rfl
  have L2 : pm_get (lv_args 0 [.ref 0, .int x, .int y, .int v]) 2 = some (.int y) := rfl
  have L3 : pm_get (lv_args 0 [.ref 0, .int x, .int y, .int v]) 3 = some (.int v) := rfl
  generalize lv_args 0 [.ref 0, .int x, .int y, .int v] = lv at L0 L1 L2 L3 ⊢
  have z0 : (0 : Int32).toInt = 0 := rfl
  have no : (x.toInt < 0 ∨ 3 < x.toInt ∨ y.toInt < 0 ∨ 3 < y.toInt ∨ 60 < v.toInt) → Ends (pm_at tX8_row) (pm_Rt pm_P (d + 1)) (22, lv, [], h, 0, 0) (EF clN (fun r => rowE r x v (clN h))) := by
    intro q
    refine E_c rfl ?_
    exact E_rti rfl ⟨_, rfl, fun s _ k _ => (rowE_n (by decide)).symm⟩
  refine E_il rfl L1 ?_
  refine E_call rfl (sp_isSlot8 (d := d)) (chkS rfl (by show 0 ≤ 8; decide)) (fun h1 r1 => ?_)
  rintro ⟨e1, rv⟩
  rw [e1]
  rcases rv with ⟨a0, a3, hr⟩ | ⟨an, hr⟩
  · rw [hr]
    refine E_ifF rfl (by decide) ?_
    refine E_il rfl L2 ?_
    by_cases b1 : y < 0
    · have q := Int32.lt_iff_toInt_lt.mp b1
      refine E_ifT rfl (decide_eq_true b1) ?_
      exact no (by first | decide | with_reducible assumption | omega)
    have q1 : ¬ y.toInt < (0 : Int32).toInt := fun w => b1 (Int32.lt_iff_toInt_lt.mpr w)
    refine E_ifF rfl (decide_eq_false b1) ?_
    refine E_il rfl L2 ?_
    refine E_ci 4 rfl ci4 ?_
    by_cases b2 : nJ 4 ≤ y
    · have q := Int32.le_iff_toInt_le.mp b2
      rw [nJ_toInt (by first | decide | with_reducible assumption | omega)] at q
      refine E_icT rfl (decide_eq_true b2) ?_
      exact no (by first | decide | with_reducible assumption | omega)
    have q2 : ¬ (nJ 4).toInt ≤ y.toInt := fun w => b2 (Int32.le_iff_toInt_le.mpr w)
    rw [nJ_toInt (by first | decide | with_reducible assumption | omega)] at q2
    refine E_icF rfl (decide_eq_false b2) ?_
    refine E_il rfl L3 ?_
    refine E_ci 60 rfl ci60 ?_
    by_cases b3 : v ≤ nJ 60
    · have q3 := Int32.le_iff_toInt_le.mp b3
      rw [nJ_toInt (by first | decide | with_reducible assumption | omega)] at q3
      refine E_icT rfl (decide_eq_true b3) ?_
      refine E_il rfl L3 ?_
      by_cases b4 : 0 ≤ v
      · have q4 := Int32.le_iff_toInt_le.mp b4
        refine E_ifT rfl (decide_eq_true b4) ?_
        have hr : rin x y v := ⟨⟨a0, a3⟩, ⟨by omega, by omega⟩, by omega, by omega⟩
        obtain ⟨s, hs, rfl⟩ : ∃ s, s < 4 ∧ x = nJ s := ⟨x.toInt.toNat, by omega, nJ_of a0⟩
        obtain ⟨w, hw, rfl⟩ : ∃ s, s ≤ 3 ∧ y = nJ s := ⟨y.toInt.toNat, by omega, nJ_of (by first | decide | with_reducible assumption | omega)⟩
        obtain ⟨n, hn, rfl⟩ : ∃ s, s ≤ 60 ∧ v = nJ s := ⟨v.toInt.toNat, by omega, nJ_of (by first | decide | with_reducible assumption | omega)⟩
        have S := isS_at s hs
        refine E_al rfl L0 ?_
        refine E_ogr rfl hh rfl (q := 53) rfl ?_
        refine E_il rfl L1 ?_
        refine E_aal rfl hh rfl (slot_at s hs) (by decide) ?_
        refine E_il rfl L2 ?_
        refine E_il rfl L3 ?_
        refine E_call rfl (sp_beginN (d := d) (by first | decide | with_reducible assumption | omega) S hh hw hn) (chkO (a := 54 + 2 * s) hh S.1 rfl rfl rfl (by show 0 ≤ 8; decide)) (fun h2 r2 => ?_)
        rintro ⟨e2, hh2, f2, gN⟩
        rw [e2]
        refine E_ci 0 rfl ci0 ?_
        exact E_rti rfl ⟨_, rfl, rowE_at hs hn (fun k hk => gN k hk) (fun s' hs' ne k hk => fr_gl f2 (no2 (by first | decide | with_reducible assumption | omega) (by first | decide | with_reducible assumption | omega) k))⟩
      · have q4 : ¬ (0 : Int32).toInt ≤ v.toInt := fun w => b4 (Int32.le_iff_toInt_le.mpr w)
        refine E_ifF rfl (decide_eq_false b4) ?_
        refine E_c rfl ?_
        exact E_rti rfl ⟨_, rfl, fun s _ k _ => (rowE_n (by decide)).symm⟩
    · have q3 : ¬ v.toInt ≤ (nJ 60).toInt := fun w => b3 (Int32.le_iff_toInt_le.mpr w)
      rw [nJ_toInt (by first | decide | with_reducible assumption | omega)] at q3
      refine E_icF rfl (decide_eq_false b3) ?_
      exact no (by first | decide | with_reducible assumption | omega)
  · rw [hr]
    refine E_ifT rfl (by decide) ?_
    exact no (by first | decide | with_reducible assumption | omega)
/-! the reference's row -/
theorem rlN_77 {h : pm_H} {v : Int32} {s k : Nat} : rlN (pt h 77 0 v) s k = rlN h s k := gl_ne (by first | decide | with_reducible assumption | omega)
theorem rwN_loop {h0 : pm_H} {d s n : Nat} (hs : s < 4) (hn : n ≤ 60) (j : Nat) : ∀ {h : pm_H} {i : Nat} (lv : List (Nat × Value)), i + j = n → HH h → (∀ q, q < 240 → gl h 80 q = if 60 * s ≤ q ∧ q < 60 * s + i then 0 else gl h0 80 q) → pm_get lv 0 = some (.ref 77) → pm_get lv 1 = some (.int (nJ s)) → pm_get lv 3 = some (.int (nJ n)) → pm_get lv 4 = some (.int (nJ i)) → Ends (pm_at tX9_row) (pm_Rt pm_P d) (57, lv, [], h, 0, 0) (EF rlN (fun r => rowE r (nJ s) (nJ n) (rlN h0))) := by
  induction j with
  | zero =>
    intro h i lv hj hh g L0 L1 L3 L4
    refine E_il rfl L4 ?_
    refine E_il rfl L3 ?_
    refine E_icT rfl (decide_eq_true ((nJ_le (by first | decide | with_reducible assumption | omega) (by first | decide | with_reducible assumption | omega)).mpr (by first | decide | with_reducible assumption | omega))) ?_
    refine E_ci 0 rfl ci0 ?_
    refine E_rti rfl ⟨_, rfl, rowE_at hs hn (fun k hk => ?_) (fun s' hs' ne k hk => ?_)⟩
    · show gl h 80 (60 * s + k) = if k < n then 0 else gl h0 80 (60 * s + k)
      rw [g _ (by first | decide | with_reducible assumption | omega)]
      by_cases z : k < n
      · rw [if_pos z, if_pos (by first | decide | with_reducible assumption | omega)]
      · rw [if_neg z, if_neg (by first | decide | with_reducible assumption | omega)]
    · show gl h 80 (60 * s' + k) = gl h0 80 (60 * s' + k)
      rw [g _ (by first | decide | with_reducible assumption | omega), if_neg (by first | decide | with_reducible assumption | omega)]
  | succ j ih =>
    intro h i lv hj hh g L0 L1 L3 L4
    refine E_il rfl L4 ?_
    refine E_il rfl L3 ?_
    refine E_icF rfl (decide_eq_false (fun q => absurd ((nJ_le (by first | decide | with_reducible assumption | omega) (by first | decide | with_reducible assumption | omega)).mp q) (by first | decide | with_reducible assumption | omega))) ?_
    refine E_al rfl L0 ?_
    refine E_gr rfl hh (q := 80) rfl ?_
    refine E_ci 60 rfl ci60 ?_
    refine E_il rfl L1 ?_
    refine E_bin rfl (nJ_mul _ _) ?_
    refine E_il rfl L4 ?_
    refine E_bin rfl (nJ_add _ _) ?_
    refine E_c rfl ?_
    refine E_las rfl hh rfl (by first | decide | with_reducible assumption | omega) (by decide) (fun h1 hh1 f1 g1 => ?_)
    refine E_inc rfl L4 (nJ_inc _) (fun lv1 K4 kp => ?_)
    refine E_goto rfl ?_
    refine ih lv1 (by first | decide | with_reducible assumption | omega) hh1 (fun q hq => ?_) (kp 0 _ (nbz rfl) rfl L0) (kp 1 _ (nbz rfl) rfl L1) (kp 3 _ (nbz rfl) rfl L3) K4
    by_cases e : q = 60 * s + i
    · rw [e, g1, if_pos (by first | decide | with_reducible assumption | omega)]
    · rw [fr_gl f1 (no_one e), g q hq]
      by_cases z : 60 * s ≤ q ∧ q < 60 * s + i
      · rw [if_pos z, if_pos (by first | decide | with_reducible assumption | omega)]
      · rw [if_neg z, if_neg (by first | decide | with_reducible assumption | omega)]
theorem sp_row9N {h : pm_H} {d : Nat} {x y v : Int32} (hh : HH h) : Sp (d + 3) 338 h [.ref 77, .int x, .int y, .int v] (EF rlN (fun r => rowE r x v (rlN h))) := by
  refine Sp_of aiX9_row rfl rfl rfl ?_
  have L0 : pm_get (lv_args 0 [.ref 77, .int x, .int y, .int v]) 0 = some (.ref 77) := rfl
  have L1 : pm_get (lv_args 0 [.ref 77, .int x, .int y, .int v]) 1 = some (.int x) := rfl
  have L2 : pm_get (lv_args 0 [.ref 77, .int x, .int y, .int v]) 2 = some (.int y) := rfl
  have L3 : pm_get (lv_args 0 [.ref 77, .int x, .int y, .int v]) 3 = some (.int v) := rfl
  generalize lv_args 0 [.ref 77, .int x, .int y, .int v] = lv at L0 L1 L2 L3 ⊢
  have z0 : (0 : Int32).toInt = 0 := rfl
  refine E_al rfl L0 ?_
  refine E_ci 0 rfl ci0 ?_
  refine E_pf rfl hh rfl ?_
  have hg : HH (pt h 77 0 (nJ 0)) := HH_ptn hh rfl (by first | decide | with_reducible assumption | omega) (by first | decide | with_reducible assumption | omega) (by first | decide | with_reducible assumption | omega)
  have no : (x.toInt < 0 ∨ 3 < x.toInt ∨ y.toInt < 0 ∨ 3 < y.toInt ∨ 60 < v.toInt) → Ends (pm_at tX9_row) (pm_Rt pm_P (d + 2)) (30, lv, [], pt h 77 0 (nJ 0), 0, 0) (EF rlN (fun r => rowE r x v (rlN h))) := by
    intro q
    refine E_c rfl ?_
    exact E_rti rfl ⟨_, rfl, fun s _ k _ => rlN_77.trans (rowE_n (by decide)).symm⟩
  refine E_il rfl L1 ?_
  refine E_call rfl sp_isSlot (chkS rfl (by show 0 ≤ 8; decide)) (fun h1 r1 => ?_)
  rintro ⟨e1, f1⟩
  rw [e1, f1]
  by_cases b0 : 0 ≤ x.toInt ∧ x.toInt ≤ 3
  · refine E_ifF rfl (by rw [zb_T b0]; rfl) ?_
    refine E_il rfl L2 ?_
    refine E_i2l rfl ?_
    refine E_c rfl ?_
    refine E_c rfl ?_
    refine E_call rfl (sp_in (a := y.toInt) (b := 0) (c := 3) (i2l_toInt _) rfl rfl) (chkS rfl (by show 0 ≤ 8; decide)) (fun h2 r2 => ?_)
    rintro ⟨e2, f2⟩
    rw [e2, f2]
    by_cases b1 : 0 ≤ y.toInt ∧ y.toInt ≤ 3
    · refine E_ifF rfl (by rw [zb_T b1]; rfl) ?_
      refine E_il rfl L3 ?_
      refine E_ci 60 rfl ci60 ?_
      by_cases b3 : v ≤ nJ 60
      · have q3 := Int32.le_iff_toInt_le.mp b3
        rw [nJ_toInt (by first | decide | with_reducible assumption | omega)] at q3
        refine E_icT rfl (decide_eq_true b3) ?_
        refine E_il rfl L3 ?_
        by_cases b4 : 0 ≤ v
        · have q4 := Int32.le_iff_toInt_le.mp b4
          refine E_ifT rfl (decide_eq_true b4) ?_
          have hr : rin x y v := ⟨b0, b1, by omega, by omega⟩
          obtain ⟨s, hs, rfl⟩ : ∃ s, s < 4 ∧ x = nJ s := ⟨x.toInt.toNat, by omega, nJ_of b0.1⟩
          obtain ⟨w, hw, rfl⟩ : ∃ s, s ≤ 3 ∧ y = nJ s := ⟨y.toInt.toNat, by omega, nJ_of b1.1⟩
          obtain ⟨n, hn, rfl⟩ : ∃ s, s ≤ 60 ∧ v = nJ s := ⟨v.toInt.toNat, by omega, nJ_of (by first | decide | with_reducible assumption | omega)⟩
          refine E_al rfl L0 ?_
          refine E_gr rfl hg (q := 78) rfl ?_
          refine E_il rfl L1 ?_
          refine E_il rfl L2 ?_
          refine E_ias rfl hg rfl (by first | decide | with_reducible assumption | omega) (by decide) ?_
          have h1 : HH (pt (pt h 77 0 (nJ 0)) 78 s (nJ w)) := HH_ptn hg (bd_u rfl (by first | decide | with_reducible assumption | omega)) (by first | decide | with_reducible assumption | omega) (by first | decide | with_reducible assumption | omega) (by first | decide | with_reducible assumption | omega)
          refine E_al rfl L0 ?_
          refine E_gr rfl h1 (q := 79) rfl ?_
          refine E_il rfl L1 ?_
          refine E_il rfl L3 ?_
          refine E_ias rfl h1 rfl (by first | decide | with_reducible assumption | omega) (by decide) ?_
          have h2 : HH (pt (pt (pt h 77 0 (nJ 0)) 78 s (nJ w)) 79 s (nJ n)) := HH_ptn h1 (bd_u rfl (by first | decide | with_reducible assumption | omega)) (by first | decide | with_reducible assumption | omega) (by first | decide | with_reducible assumption | omega) (by first | decide | with_reducible assumption | omega)
          refine E_ci 0 rfl ci0 ?_
          refine E_is rfl (fun lv1 K4 kp => ?_)
          refine rwN_loop hs hn n (i := 0) lv1 (by first | decide | with_reducible assumption | omega) h2 (fun q hq => ?_) (kp 0 _ (nbz rfl) rfl L0) (kp 1 _ (nbz rfl) rfl L1) (kp 3 _ (nbz rfl) rfl L3) K4
          rw [if_neg (by first | decide | with_reducible assumption | omega), gl_ne (by first | decide | with_reducible assumption | omega), gl_ne (by first | decide | with_reducible assumption | omega), gl_ne (by first | decide | with_reducible assumption | omega)]
        · have q4 : ¬ (0 : Int32).toInt ≤ v.toInt := fun w => b4 (Int32.le_iff_toInt_le.mpr w)
          refine E_ifF rfl (decide_eq_false b4) ?_
          refine E_c rfl ?_
          exact E_rti rfl ⟨_, rfl, fun s _ k _ => rlN_77.trans (rowE_n (by decide)).symm⟩
      · have q3 : ¬ v.toInt ≤ (nJ 60).toInt := fun w => b3 (Int32.le_iff_toInt_le.mpr w)
        rw [nJ_toInt (by first | decide | with_reducible assumption | omega)] at q3
        refine E_icF rfl (decide_eq_false b3) ?_
        exact no (by first | decide | with_reducible assumption | omega)
    · refine E_ifT rfl (by rw [zb_F b1]; rfl) ?_
      exact no (by first | decide | with_reducible assumption | omega)
  · refine E_ifT rfl (by rw [zb_F b0]; rfl) ?_
    exact no (by first | decide | with_reducible assumption | omega)
/-! the relation of the slots -/
end RWN
/-! write -/
section WRN
variable {h : pm_H} {d : Nat} {x i : Int32} {v : Int64}
theorem sp_write8N (hh : HH h) : Sp (d + 2) 203 h [.ref 0, .int x, .int i, .long v] (EF clN (fun r => wrE r x i v (cwd h) (clN h))) := by
  refine Sp_of aiX8_write rfl rfl rfl ?_
  have L0 : pm_get (lv_args 0 [.ref 0, .int x, .int i, .long v]) 0 = some (.ref 0) := rfl
  have L1 : pm_get (lv_args 0 [.ref 0, .int x, .int i, .long v]) 1 = some (.int x) := rfl
  have L2 : pm_get (lv_args 0 [.ref 0, .int x, .int i, .long v]) 2 = some (.int i) := rfl
  have L3 : pm_get (lv_args 0 [.ref 0, .int x, .int i, .long v]) 3 = some (.long v) := rfl
  generalize lv_args 0 [.ref 0, .int x, .int i, .long v] = lv at L0 L1 L2 L3 ⊢
  have z0 : (0 : Int32).toInt = 0 := rfl
  refine E_il rfl L1 ?_
  refine E_call rfl (sp_isSlot8 (d := d)) (chkS rfl (by show 0 ≤ 8; decide)) (fun h1 r1 => ?_)
  rintro ⟨e1, rv⟩
  rw [e1]
  rcases rv with ⟨a0, a3, hr⟩ | ⟨an, hr⟩
  · rw [hr]
    refine E_ifT rfl (by decide) ?_
    obtain ⟨s, hs, rfl⟩ : ∃ s, s < 4 ∧ x = nJ s := ⟨x.toInt.toNat, by omega, nJ_of a0⟩
    obtain ⟨S1, S2, S3, S4, S5, S6⟩ := isS_at s hs
    refine E_al rfl L0 ?_
    refine E_ogr rfl hh rfl (q := 53) rfl ?_
    refine E_il rfl L1 ?_
    refine E_aal rfl hh rfl (slot_at s hs) (by decide) ?_
    refine E_asw rfl (fun lv1 M5 kp => ?_)
    have M2 := kp 2 _ (nbz rfl) (nbz rfl) L2
    have M3 := kp 3 _ (nbz rfl) (nbz rfl) L3
    refine E_al rfl M5 ?_
    refine E_ogf rfl hh S1 S4 rfl ?_
    by_cases b1 : gi h (54 + 2 * s) 1 = 0
    · refine E_ifF rfl (decide_eq_false (fun q => q b1)) ?_
      refine E_c rfl ?_
      exact E_rti rfl ⟨_, rfl, fun s _ k _ => (wrE_n (by decide)).symm⟩
    refine E_ifT rfl (decide_eq_true b1) ?_
    have g := (ld_gi hh S6).2
    dsimp only at g
    have no : ∀ {lv : List (Nat × Value)}, ¬ (0 ≤ i.toInt ∧ i.toInt < (gi h (54 + 2 * s) 3).toInt) → Ends (pm_at tX8_write) (pm_Rt pm_P (d + 1)) (42, lv, [], h, 0, 0) (EF clN (fun r => wrE r (nJ s) i v (cwd h) (clN h))) := by
      intro lv hn
      refine E_c rfl ?_
      exact E_rti rfl ⟨_, rfl, fun s _ k _ => (wrE_n (by decide)).symm⟩
    refine E_il rfl M2 ?_
    by_cases b2 : i < 0
    · have q := Int32.lt_iff_toInt_lt.mp b2
      refine E_ifT rfl (decide_eq_true b2) ?_
      exact no (by first | decide | with_reducible assumption | omega)
    have q2 : ¬ i.toInt < (0 : Int32).toInt := fun z => b2 (Int32.lt_iff_toInt_lt.mpr z)
    refine E_ifF rfl (decide_eq_false b2) ?_
    refine E_il rfl M2 ?_
    refine E_al rfl M5 ?_
    refine E_ogf rfl hh S1 S6 rfl ?_
    by_cases b3 : i < gi h (54 + 2 * s) 3
    · have q3 := Int32.lt_iff_toInt_lt.mp b3
      refine E_icT rfl (decide_eq_true b3) ?_
      obtain ⟨k, hk, rfl⟩ : ∃ k, k < 60 ∧ i = nJ k := ⟨i.toInt.toNat, by omega, nJ_of (by first | decide | with_reducible assumption | omega)⟩
      refine E_al rfl M5 ?_
      refine E_ogr rfl hh S1 S2 ?_
      refine E_il rfl M2 ?_
      refine E_ll rfl M3 ?_
      refine E_al rfl M5 ?_
      refine E_ogf rfl hh S1 S5 rfl ?_
      refine E_call rfl (sp_cut8 (d := d)) (chkS rfl (by show 2 ≤ 8; decide)) (fun h3 r3 => ?_)
      rintro ⟨e3, f3⟩
      rw [e3, f3]
      refine E_las rfl hh S3 hk (by decide) (fun h4 _ f4 g4 => ?_)
      refine E_c rfl ?_
      refine E_rti rfl ⟨_, rfl, wrE_at rfl hs hk g4 (fun s' k' hs' hk' ne => ?_)⟩
      by_cases e : s' = s
      · rw [e]; exact fr_gl f4 (no_one (fun q => ne ⟨e, q⟩))
      · exact fr_gl f4 (no_cell (by first | decide | with_reducible assumption | omega))
    · have q3 : ¬ i.toInt < (gi h (54 + 2 * s) 3).toInt := fun z => b3 (Int32.lt_iff_toInt_lt.mpr z)
      refine E_icF rfl (decide_eq_false b3) ?_
      exact no (fun z => q3 z.2)
  · rw [hr]
    refine E_ifF rfl (by decide) ?_
    refine E_c rfl ?_
    exact E_rti rfl ⟨_, rfl, fun s _ k _ => (wrE_n (by decide)).symm⟩
theorem sp_write9N (hh : HH h) : Sp (d + 3) 380 h [.ref 77, .int x, .int i, .long v] (EF rlN (fun r => wrE r x i v (rfw h) (rlN h))) := by
  refine Sp_of aiX9_write rfl rfl rfl ?_
  have L0 : pm_get (lv_args 0 [.ref 77, .int x, .int i, .long v]) 0 = some (.ref 77) := rfl
  have L1 : pm_get (lv_args 0 [.ref 77, .int x, .int i, .long v]) 1 = some (.int x) := rfl
  have L2 : pm_get (lv_args 0 [.ref 77, .int x, .int i, .long v]) 2 = some (.int i) := rfl
  have L3 : pm_get (lv_args 0 [.ref 77, .int x, .int i, .long v]) 3 = some (.long v) := rfl
  generalize lv_args 0 [.ref 77, .int x, .int i, .long v] = lv at L0 L1 L2 L3 ⊢
  have o1 : (1 : Int32).toInt = 1 := rfl
  refine E_al rfl L0 ?_
  refine E_ci 0 rfl ci0 ?_
  refine E_pf rfl hh rfl ?_
  have hg : HH (pt h 77 0 (nJ 0)) := HH_ptn hh rfl (by first | decide | with_reducible assumption | omega) (by first | decide | with_reducible assumption | omega) (by first | decide | with_reducible assumption | omega)
  refine E_il rfl L1 ?_
  refine E_call rfl sp_isSlot (chkS rfl (by show 0 ≤ 8; decide)) (fun h1 r1 => ?_)
  rintro ⟨e1, f1⟩
  rw [e1, f1]
  by_cases b0 : 0 ≤ x.toInt ∧ x.toInt ≤ 3
  · refine E_ifT rfl (by rw [zb_T b0]; rfl) ?_
    obtain ⟨s, hs, rfl⟩ : ∃ s, s < 4 ∧ x = nJ s := ⟨x.toInt.toNat, by omega, nJ_of b0.1⟩
    refine E_al rfl L0 ?_
    refine E_gr rfl hg (q := 78) rfl ?_
    refine E_il rfl L1 ?_
    refine E_ial (v := gi h 78 s) rfl hg rfl (by first | decide | with_reducible assumption | omega) (by decide) (gi_ne (by first | exact gxx rfl | omega)) ?_
    refine E_c rfl ?_
    by_cases b1 : gi h 78 s = -1
    · refine E_icF rfl (decide_eq_false (fun q => q b1)) ?_
      refine E_c rfl ?_
      exact E_rti rfl ⟨_, rfl, fun s _ k _ => rlN_77.trans (wrE_n (by decide)).symm⟩
    refine E_icT rfl (decide_eq_true b1) ?_
    refine E_il rfl L2 ?_
    refine E_i2l rfl ?_
    refine E_c rfl ?_
    refine E_al rfl L0 ?_
    refine E_gr rfl hg (q := 79) rfl ?_
    refine E_il rfl L1 ?_
    refine E_ial (v := gi h 79 s) rfl hg rfl (by first | decide | with_reducible assumption | omega) (by decide) (gi_ne (by first | exact gxx rfl | omega)) ?_
    refine E_c rfl ?_
    refine E_bin rfl rfl ?_
    refine E_i2l rfl ?_
    have g := (ld_gi hh (a := 79) (k := s) (bd_u rfl (by first | decide | with_reducible assumption | omega))).2
    dsimp only at g
    have es : (gi h 79 s - 1).toInt = (gi h 79 s).toInt - 1 := by
      rw [Int32.toInt_sub, o1]
      exact Int.bmod_eq_of_le (by first | decide | with_reducible assumption | omega) (by first | decide | with_reducible assumption | omega)
    refine E_call rfl (sp_in (a := i.toInt) (b := 0) (c := (gi h 79 s).toInt - 1) (i2l_toInt _) rfl (by rw [i2l_toInt]; exact es)) (chkS rfl (by show 0 ≤ 8; decide)) (fun h2 r2 => ?_)
    rintro ⟨e2, f2⟩
    rw [e2, f2]
    by_cases b2 : 0 ≤ i.toInt ∧ i.toInt ≤ (gi h 79 s).toInt - 1
    · refine E_ifT rfl (by rw [zb_T b2]; rfl) ?_
      obtain ⟨k, hk, rfl⟩ : ∃ k, k < 60 ∧ i = nJ k := ⟨i.toInt.toNat, by omega, nJ_of b2.1⟩
      refine E_al rfl L0 ?_
      refine E_gr rfl hg (q := 80) rfl ?_
      refine E_ci 60 rfl ci60 ?_
      refine E_il rfl L1 ?_
      refine E_bin rfl (nJ_mul _ _) ?_
      refine E_il rfl L2 ?_
      refine E_bin rfl (nJ_add _ _) ?_
      refine E_ll rfl L3 ?_
      refine E_al rfl L0 ?_
      refine E_gr rfl hg (q := 78) rfl ?_
      refine E_il rfl L1 ?_
      refine E_ial (v := gi h 78 s) rfl hg rfl (by first | decide | with_reducible assumption | omega) (by decide) (gi_ne (by first | exact gxx rfl | omega)) ?_
      refine E_call rfl (sp_cut9 (d := d + 1)) (chkS rfl (by show 2 ≤ 8; decide)) (fun h3 r3 => ?_)
      rintro ⟨e3, f3⟩
      rw [e3, f3]
      refine E_las rfl hg rfl (by first | decide | with_reducible assumption | omega) (by decide) (fun h4 _ f4 g4 => ?_)
      refine E_c rfl ?_
      refine E_rti rfl ⟨_, rfl, wrE_at rfl hs hk g4 (fun s' k' hs' hk' ne => ?_)⟩
      show gl h4 80 (60 * s' + k') = gl h 80 (60 * s' + k')
      rw [fr_gl f4 (no_one (by first | decide | with_reducible assumption | omega))]
      exact gl_ne (by first | decide | with_reducible assumption | omega)
    · refine E_ifF rfl (by rw [zb_F b2]; rfl) ?_
      refine E_c rfl ?_
      exact E_rti rfl ⟨_, rfl, fun s _ k _ => rlN_77.trans (wrE_n (by decide)).symm⟩
  · refine E_ifF rfl (by rw [zb_F b0]; rfl) ?_
    refine E_c rfl ?_
    exact E_rti rfl ⟨_, rfl, fun s _ k _ => rlN_77.trans (wrE_n (by decide)).symm⟩
end WRN
/-! paste -/
theorem E_cpyN {look : Nat → Option pm_I} {call : pm_Call} {Q : pm_H → Option Value → Prop} {pc n : Nat} {lv : List (Nat × Value)} {st : List Value} {h : pm_H} {z : Nat × Nat} {a0 a1 : Nat} {sp dp m : Int32} (h1 : look pc = some (.inl (s_copy n))) (hh : HH h) (c0 : hsF a0 = some (.inr (.inl 60))) (c1 : hsF a1 = some (.inr (.inl 60))) (k1 : 0 ≤ sp.toInt) (k2 : 0 ≤ dp.toInt) (k3 : 0 ≤ m.toInt) (k4 : sp.toInt + m.toInt ≤ 60) (k5 : dp.toInt + m.toInt ≤ 60) (hs : Nat.ble (pm_sz st) 8 = true) (kk : ∀ h', fr_g [(a1, 0, 59)] h h' → (∀ k, k < 60 → gl h' a1 k = if dp.toInt ≤ (k : Int) ∧ (k : Int) < dp.toInt + m.toInt then gl h a0 ((k : Int) - dp.toInt + sp.toInt).toNat else gl h a1 k) → Ends look call (n, lv, st, h', z) Q) : Ends look call (pc, lv, .int m :: .int dp :: .ref a1 :: .int sp :: .ref a0 :: st, h, z) Q := by
  obtain ⟨x, hx, hg⟩ := hf_at hh c0
  obtain ⟨y, hy, hk⟩ := hf_at hh c1
  match x, hx, hg, y, hy, hk with
  | .inl (t2, len2, .inr (.inl f)), hx, hg, .inl (t3, len3, .inr (.inl g)), hy, hk =>
    obtain ⟨rfl, rfl⟩ := hg
    obtain ⟨rfl, rfl⟩ := hk
    have z0 : (0 : Int32).toInt = 0 := rfl
    have n1 : ∀ w : Int32, 0 ≤ w.toInt → (!(decide (w < 0))) = true := fun w hw => by
      rw [decide_eq_false (fun q => by have := Int32.lt_iff_toInt_lt.mp q; omega)]; rfl
    have e1 : sp.toNatClampNeg = sp.toInt.toNat := rfl
    have e2 : dp.toNatClampNeg = dp.toInt.toNat := rfl
    have e3 : m.toNatClampNeg = m.toInt.toNat := rfl
    have b1 : Nat.ble (sp.toNatClampNeg + m.toNatClampNeg) 60 = true := Nat.ble_eq_true_of_le (by rw [e1, e3]; omega)
    have b2 : Nat.ble (dp.toNatClampNeg + m.toNatClampNeg) 60 = true := Nat.ble_eq_true_of_le (by rw [e2, e3]; omega)
    have hl := (List.getElem?_eq_some_iff.mp hy).1
    refine E_st h1 (σ' := (n, lv, st, h.set a1 (.inl (3, 60, .inr (.inl (va_cpy f g sp.toNatClampNeg dp.toNatClampNeg m.toNatClampNeg)))), z)) ?_ (kk _ ?_ (fun k hk => ?_))
    · simp only [s_copy, hx, hy, n1 sp k1, n1 dp k2, n1 m k3, b1, b2, hs, Bool.and_self, cond_true]
    · intro b j hbj
      by_cases e : b = a1
      · subst e
        have hj : ¬ j ≤ 59 := fun hj => by
          rw [rg_in_one (Nat.zero_le _) hj (List.mem_singleton_self _)] at hbj
          cases hbj
        have e9 : va_cpy f g sp.toNatClampNeg dp.toNatClampNeg m.toNatClampNeg j = g j := by
          unfold va_cpy
          rw [if_neg (by rw [e2, e3]; omega)]
        unfold ld
        rw [List.getElem?_set_self hl, hy]
        dsimp only
        rw [e9]
      · unfold ld
        rw [List.getElem?_set_ne (Ne.symm e)]
    · have ga : ∀ q, gl h a0 q = f q := fun q => by unfold gl ld; rw [hx]
      have gb : ∀ q, gl h a1 q = g q := fun q => by unfold gl ld; rw [hy]
      have gc : gl (h.set a1 (.inl (3, 60, .inr (.inl (va_cpy f g sp.toNatClampNeg dp.toNatClampNeg m.toNatClampNeg))))) a1 k = va_cpy f g sp.toNatClampNeg dp.toNatClampNeg m.toNatClampNeg k := by
        unfold gl ld
        rw [List.getElem?_set_self hl]
      rw [gc, ga, gb]
      unfold va_cpy
      by_cases q : dp.toInt ≤ (k : Int) ∧ (k : Int) < dp.toInt + m.toInt
      · rw [if_pos q, if_pos (by rw [e2, e3]; omega)]
        congr 1
        rw [e1, e2]
        omega
      · rw [if_neg q, if_neg (by rw [e2, e3]; omega)]
section PAN
variable {d s t a b n : Nat}
theorem sp_paste8N {h : pm_H} {x i y j n : Int32} (hh : HH h) : Sp (d + 2) 158 h [.ref 0, .int x, .int i, .int y, .int j, .int n] (EF clN (fun r => paE r x i y j n (clN h))) := by
  refine Sp_of aiX8_paste rfl rfl rfl ?_
  have L0 : pm_get (lv_args 0 [.ref 0, .int x, .int i, .int y, .int j, .int n]) 0 = some (.ref 0) := rfl
  have L1 : pm_get (lv_args 0 [.ref 0, .int x, .int i, .int y, .int j, .int n]) 1 = some (.int x) := rfl
  have L2 : pm_get (lv_args 0 [.ref 0, .int x, .int i, .int y, .int j, .int n]) 2 = some (.int i) := rfl
  have L3 : pm_get (lv_args 0 [.ref 0, .int x, .int i, .int y, .int j, .int n]) 3 = some (.int y) := rfl
  have L4 : pm_get (lv_args 0 [.ref 0, .int x, .int i, .int y, .int j, .int n]) 4 = some (.int j) := rfl
  have L5 : pm_get (lv_args 0 [.ref 0, .int x, .int i, .int y, .int j, .int n]) 5 = some (.int n) := rfl
  generalize lv_args 0 [.ref 0, .int x, .int i, .int y, .int j, .int n] = lv at L0 L1 L2 L3 L4 L5 ⊢
  have no : ∀ {lv : List (Nat × Value)}, ¬ ((0 ≤ x.toInt ∧ x.toInt ≤ 3) ∧ 0 ≤ y.toInt ∧ y.toInt ≤ 3) → Ends (pm_at tX8_paste) (pm_Rt pm_P (d + 1)) (14, lv, [], h, 0, 0) (EF clN (fun r => paE r x i y j n (clN h))) := by
    intro lv hn
    refine E_c rfl ?_
    exact E_rti rfl ⟨_, rfl, fun s _ k _ => (paE_n (by decide)).symm⟩
  refine E_il rfl L1 ?_
  refine E_call rfl (sp_isSlot8 (d := d)) (chkS rfl (by show 0 ≤ 8; decide)) (fun h1 r1 => ?_)
  rintro ⟨e1, rv⟩
  rw [e1]
  rcases rv with ⟨a0, a3, hr⟩ | ⟨an, hr⟩
  · rw [hr]
    refine E_ifF rfl (by decide) ?_
    refine E_il rfl L3 ?_
    refine E_call rfl (sp_isSlot8 (d := d)) (chkS rfl (by show 0 ≤ 8; decide)) (fun h2 r2 => ?_)
    rintro ⟨e2, rw2⟩
    rw [e2]
    rcases rw2 with ⟨c0, c3, hr2⟩ | ⟨cn, hr2⟩
    · rw [hr2]
      refine E_ifT rfl (by decide) ?_
      obtain ⟨s, hs, rfl⟩ : ∃ s, s < 4 ∧ x = nJ s := ⟨x.toInt.toNat, by omega, nJ_of a0⟩
      obtain ⟨t, ht, rfl⟩ : ∃ s, s < 4 ∧ y = nJ s := ⟨y.toInt.toNat, by omega, nJ_of c0⟩
      obtain ⟨S1, S2, S3, S4, S5, S6⟩ := isS_at s hs
      obtain ⟨T1, T2, T3, T4, T5, T6⟩ := isS_at t ht
      refine E_al rfl L0 ?_
      refine E_ogr rfl hh rfl (q := 53) rfl ?_
      refine E_il rfl L1 ?_
      refine E_aal rfl hh rfl (slot_at s hs) (by decide) ?_
      refine E_asr rfl (fun lv1 M6 kp => ?_)
      have M0 := kp 0 _ (nbz rfl) rfl L0
      have M2 := kp 2 _ (nbz rfl) rfl L2
      have M3 := kp 3 _ (nbz rfl) rfl L3
      have M4 := kp 4 _ (nbz rfl) rfl L4
      have M5 := kp 5 _ (nbz rfl) rfl L5
      refine E_al rfl M0 ?_
      refine E_ogr rfl hh rfl (q := 53) rfl ?_
      refine E_il rfl M3 ?_
      refine E_aal rfl hh rfl (slot_at t ht) (by decide) ?_
      refine E_asr rfl (fun lv2 N7 kp2 => ?_)
      have N2 := kp2 2 _ (nbz rfl) rfl M2
      have N4 := kp2 4 _ (nbz rfl) rfl M4
      have N5 := kp2 5 _ (nbz rfl) rfl M5
      have N6 := kp2 6 _ (nbz rfl) rfl M6
      refine E_al rfl N6 ?_
      refine E_ogf rfl hh S1 S4 rfl ?_
      by_cases b1 : gi h (54 + 2 * s) 1 = 0
      · refine E_ifT rfl (decide_eq_true b1) ?_
        refine E_c rfl ?_
        exact E_rti rfl ⟨_, rfl, fun s _ k _ => (paE_n (by decide)).symm⟩
      refine E_ifF rfl (decide_eq_false b1) ?_
      refine E_al rfl N7 ?_
      refine E_ogf rfl hh T1 T4 rfl ?_
      by_cases b2 : gi h (54 + 2 * t) 1 = 0
      · refine E_ifF rfl (decide_eq_false (fun q => q b2)) ?_
        refine E_c rfl ?_
        exact E_rti rfl ⟨_, rfl, fun s _ k _ => (paE_n (by decide)).symm⟩
      refine E_ifT rfl (decide_eq_true b2) ?_
      refine E_al rfl N6 ?_
      refine E_ogf rfl hh S1 S5 rfl ?_
      refine E_al rfl N7 ?_
      refine E_ogf rfl hh T1 T5 rfl ?_
      by_cases b3 : gi h (54 + 2 * s) 2 = gi h (54 + 2 * t) 2
      · refine E_icT rfl (decide_eq_true b3) ?_
        have fin7 : ∀ {lv : List (Nat × Value)}, ¬ (hol h (54 + 2 * s) i n ∧ hol h (54 + 2 * t) j n) → Ends (pm_at tX8_paste) (pm_Rt pm_P (d + 1)) (91, lv, [], h, 0, 0) (EF clN (fun r => paE r (nJ s) i (nJ t) j n (clN h))) := by
          intro lv hn
          refine E_c rfl ?_
          exact E_rti rfl ⟨_, rfl, fun s _ k _ => (paE_n (by decide)).symm⟩
        refine E_al rfl N6 ?_
        refine E_il rfl N2 ?_
        refine E_il rfl N5 ?_
        refine E_call rfl (sp_holds (d := d) hh (isS_at s hs)) (chkO (a := 54 + 2 * s) hh S1 rfl rfl rfl (by show 0 ≤ 8; decide)) (fun h3 r3 => ?_)
        rintro ⟨e3, rw3⟩
        rw [e3]
        rcases rw3 with ⟨o3, hr3⟩ | ⟨o3, hr3⟩
        · rw [hr3]
          refine E_ifF rfl (by decide) ?_
          refine E_al rfl N7 ?_
          refine E_il rfl N4 ?_
          refine E_il rfl N5 ?_
          refine E_call rfl (sp_holds (d := d) hh (isS_at t ht)) (chkO (a := 54 + 2 * t) hh T1 rfl rfl rfl (by show 0 ≤ 8; decide)) (fun h4 r4 => ?_)
          rintro ⟨e4, rw4⟩
          rw [e4]
          rcases rw4 with ⟨o4, hr4⟩ | ⟨o4, hr4⟩
          · rw [hr4]
            refine E_ifT rfl (by decide) ?_
            have g6 := (ld_gi hh S6).2
            have t6 := (ld_gi hh T6).2
            dsimp only at g6 t6
            have u1 := o3.2.2
            have u2 := o4.2.2
            refine E_al rfl N6 ?_
            refine E_ogr rfl hh S1 S2 ?_
            refine E_il rfl N2 ?_
            refine E_al rfl N7 ?_
            refine E_ogr rfl hh T1 T2 ?_
            refine E_il rfl N4 ?_
            refine E_il rfl N5 ?_
            refine E_cpyN rfl hh S3 T3 o3.1 o4.1 o3.2.1 (by first | decide | with_reducible assumption | omega) (by first | decide | with_reducible assumption | omega) rfl (fun h5 fr5 g5 => ?_)
            refine E_ci 0 rfl ci0 ?_
            exact E_rti rfl ⟨_, rfl, paE_at rfl hs ht (fun k hk => g5 k hk) (fun s' hs' ne k hk => fr_gl fr5 (no_cell (by first | decide | with_reducible assumption | omega)))⟩
          · rw [hr4]
            refine E_ifF rfl (by decide) ?_
            exact fin7 (fun q => o4 q.2)
        · rw [hr3]
          refine E_ifT rfl (by decide) ?_
          exact fin7 (fun q => o3 q.1)
      · refine E_icF rfl (decide_eq_false b3) ?_
        refine E_c rfl ?_
        exact E_rti rfl ⟨_, rfl, fun s _ k _ => (paE_n (by decide)).symm⟩
    · rw [hr2]
      refine E_ifF rfl (by decide) ?_
      exact no (fun q => cn q.2)
  · rw [hr]
    refine E_ifT rfl (by decide) ?_
    exact no (fun q => an q.1)
theorem pN_b {h0 : pm_H} (ht : t < 4) (hs : s < 4) (ha : a + n ≤ 60) (hb : b + n ≤ 60) (j : Nat) : ∀ {h : pm_H} {c : Nat} (lv : List (Nat × Value)), c + j = n → HH h → (∀ q, q < n → gl h 81 q = gl h0 80 (60 * s + a + q)) → (∀ q, q < 240 → gl h 80 q = if 60 * t + b ≤ q ∧ q < 60 * t + b + c then gl h0 80 (60 * s + a + (q - (60 * t + b))) else gl h0 80 q) → pm_get lv 0 = some (.ref 77) → pm_get lv 3 = some (.int (nJ t)) → pm_get lv 4 = some (.int (nJ b)) → pm_get lv 5 = some (.int (nJ n)) → pm_get lv 6 = some (.int (nJ c)) → Ends (pm_at tX9_paste) (pm_Rt pm_P d) (155, lv, [], h, 0, 0) (EF rlN (fun r => paE r (nJ s) (nJ a) (nJ t) (nJ b) (nJ n) (rlN h0))) := by
  induction j with
  | zero =>
    intro h c lv hj hh g1 g2 L0 L3 L4 L5 L6
    have ea := nJ_toInt (n := a) (by first | decide | with_reducible assumption | omega)
    have eb := nJ_toInt (n := b) (by first | decide | with_reducible assumption | omega)
    have en := nJ_toInt (n := n) (by first | decide | with_reducible assumption | omega)
    refine E_il rfl L6 ?_
    refine E_il rfl L5 ?_
    refine E_icT rfl (decide_eq_true ((nJ_le (by first | decide | with_reducible assumption | omega) (by first | decide | with_reducible assumption | omega)).mpr (by first | decide | with_reducible assumption | omega))) ?_
    refine E_c rfl ?_
    refine E_rti rfl ⟨_, rfl, paE_at rfl hs ht (fun k hk => ?_) (fun s' hs' ne k hk => ?_)⟩
    · show gl h 80 (60 * t + k) = if _ then gl h0 80 (60 * s + _) else gl h0 80 (60 * t + k)
      rw [g2 _ (by first | decide | with_reducible assumption | omega), ea, eb, en]
      by_cases z : b ≤ k ∧ k < b + n
      · rw [if_pos (by first | decide | with_reducible assumption | omega), if_pos (by first | decide | with_reducible assumption | omega)]
        congr 1
        omega
      · rw [if_neg (by first | decide | with_reducible assumption | omega), if_neg (by first | decide | with_reducible assumption | omega)]
    · show gl h 80 (60 * s' + k) = gl h0 80 (60 * s' + k)
      rw [g2 _ (by first | decide | with_reducible assumption | omega), if_neg (by first | decide | with_reducible assumption | omega)]
  | succ j ih =>
    intro h c lv hj hh g1 g2 L0 L3 L4 L5 L6
    refine E_il rfl L6 ?_
    refine E_il rfl L5 ?_
    refine E_icF rfl (decide_eq_false (fun q => absurd ((nJ_le (by first | decide | with_reducible assumption | omega) (by first | decide | with_reducible assumption | omega)).mp q) (by first | decide | with_reducible assumption | omega))) ?_
    refine E_al rfl L0 ?_
    refine E_gr rfl hh (q := 80) rfl ?_
    refine E_ci 60 rfl ci60 ?_
    refine E_il rfl L3 ?_
    refine E_bin rfl (nJ_mul _ _) ?_
    refine E_il rfl L4 ?_
    refine E_bin rfl (nJ_add _ _) ?_
    refine E_il rfl L6 ?_
    refine E_bin rfl (nJ_add _ _) ?_
    refine E_al rfl L0 ?_
    refine E_gr rfl hh (q := 81) rfl ?_
    refine E_il rfl L6 ?_
    refine E_lal rfl hh rfl (by first | decide | with_reducible assumption | omega) (by decide) ?_
    refine E_las rfl hh rfl (by first | decide | with_reducible assumption | omega) (by decide) (fun h1 hh1 f1 v1 => ?_)
    refine E_inc rfl L6 (nJ_inc _) (fun lv1 K6 kp => ?_)
    refine E_goto rfl ?_
    refine ih lv1 (by first | decide | with_reducible assumption | omega) hh1 (fun q hq => ?_) (fun q hq => ?_) (kp 0 _ (nbz rfl) rfl L0) (kp 3 _ (nbz rfl) rfl L3) (kp 4 _ (nbz rfl) rfl L4) (kp 5 _ (nbz rfl) rfl L5) K6
    · rw [fr_gl f1 (no_cell (by first | decide | with_reducible assumption | omega))]; exact g1 q hq
    · by_cases e : q = 60 * t + b + c
      · rw [e, v1, g1 c (by first | decide | with_reducible assumption | omega), if_pos (by first | decide | with_reducible assumption | omega)]
        congr 1
        omega
      · rw [fr_gl f1 (no_one e), g2 q hq]
        by_cases z : 60 * t + b ≤ q ∧ q < 60 * t + b + c
        · rw [if_pos z, if_pos (by first | decide | with_reducible assumption | omega)]
        · rw [if_neg z, if_neg (by first | decide | with_reducible assumption | omega)]
theorem pN_a {h0 : pm_H} (hs : s < 4) (ht : t < 4) (ha : a + n ≤ 60) (hb : b + n ≤ 60) (j : Nat) : ∀ {h : pm_H} {c : Nat} (lv : List (Nat × Value)), c + j = n → HH h → (∀ q, q < c → gl h 81 q = gl h0 80 (60 * s + a + q)) → (∀ q, gl h 80 q = gl h0 80 q) → pm_get lv 0 = some (.ref 77) → pm_get lv 1 = some (.int (nJ s)) → pm_get lv 2 = some (.int (nJ a)) → pm_get lv 3 = some (.int (nJ t)) → pm_get lv 4 = some (.int (nJ b)) → pm_get lv 5 = some (.int (nJ n)) → pm_get lv 6 = some (.int (nJ c)) → Ends (pm_at tX9_paste) (pm_Rt pm_P d) (118, lv, [], h, 0, 0) (EF rlN (fun r => paE r (nJ s) (nJ a) (nJ t) (nJ b) (nJ n) (rlN h0))) := by
  induction j with
  | zero =>
    intro h c lv hj hh g1 g2 L0 L1 L2 L3 L4 L5 L6
    refine E_il rfl L6 ?_
    refine E_il rfl L5 ?_
    refine E_icT rfl (decide_eq_true ((nJ_le (by first | decide | with_reducible assumption | omega) (by first | decide | with_reducible assumption | omega)).mpr (by first | decide | with_reducible assumption | omega))) ?_
    refine E_ci 0 rfl ci0 ?_
    refine E_is rfl (fun lv1 K6 kp => ?_)
    have e : c = n := by omega
    exact pN_b ht hs ha hb n (c := 0) lv1 (by first | decide | with_reducible assumption | omega) hh (by rw [← e]; exact g1) (fun q hq => by rw [if_neg (by first | decide | with_reducible assumption | omega)]; exact g2 q) (kp 0 _ (nbz rfl) rfl L0) (kp 3 _ (nbz rfl) rfl L3) (kp 4 _ (nbz rfl) rfl L4) (kp 5 _ (nbz rfl) rfl L5) K6
  | succ j ih =>
    intro h c lv hj hh g1 g2 L0 L1 L2 L3 L4 L5 L6
    refine E_il rfl L6 ?_
    refine E_il rfl L5 ?_
    refine E_icF rfl (decide_eq_false (fun q => absurd ((nJ_le (by first | decide | with_reducible assumption | omega) (by first | decide | with_reducible assumption | omega)).mp q) (by first | decide | with_reducible assumption | omega))) ?_
    refine E_al rfl L0 ?_
    refine E_gr rfl hh (q := 81) rfl ?_
    refine E_il rfl L6 ?_
    refine E_al rfl L0 ?_
    refine E_gr rfl hh (q := 80) rfl ?_
    refine E_ci 60 rfl ci60 ?_
    refine E_il rfl L1 ?_
    refine E_bin rfl (nJ_mul _ _) ?_
    refine E_il rfl L2 ?_
    refine E_bin rfl (nJ_add _ _) ?_
    refine E_il rfl L6 ?_
    refine E_bin rfl (nJ_add _ _) ?_
    refine E_lal rfl hh rfl (by first | decide | with_reducible assumption | omega) (by decide) ?_
    refine E_las rfl hh rfl (by first | decide | with_reducible assumption | omega) (by decide) (fun h1 hh1 f1 v1 => ?_)
    refine E_inc rfl L6 (nJ_inc _) (fun lv1 K6 kp => ?_)
    refine E_goto rfl ?_
    refine ih lv1 (by first | decide | with_reducible assumption | omega) hh1 (fun q hq => ?_) (fun q => by rw [fr_gl f1 (no_cell (by first | decide | with_reducible assumption | omega))]; exact g2 q) (kp 0 _ (nbz rfl) rfl L0) (kp 1 _ (nbz rfl) rfl L1) (kp 2 _ (nbz rfl) rfl L2) (kp 3 _ (nbz rfl) rfl L3) (kp 4 _ (nbz rfl) rfl L4) (kp 5 _ (nbz rfl) rfl L5) K6
    by_cases e : q = c
    · rw [e, v1, g2]
    · rw [fr_gl f1 (no_one e)]; exact g1 q (by first | decide | with_reducible assumption | omega)
theorem sp_paste9N {h : pm_H} {x i y j n : Int32} (hh : HH h) : Sp (d + 3) 323 h [.ref 77, .int x, .int i, .int y, .int j, .int n] (EF rlN (fun r => paE r x i y j n (rlN h))) := by
  refine Sp_of aiX9_paste rfl rfl rfl ?_
  have L0 : pm_get (lv_args 0 [.ref 77, .int x, .int i, .int y, .int j, .int n]) 0 = some (.ref 77) := rfl
  have L1 : pm_get (lv_args 0 [.ref 77, .int x, .int i, .int y, .int j, .int n]) 1 = some (.int x) := rfl
  have L2 : pm_get (lv_args 0 [.ref 77, .int x, .int i, .int y, .int j, .int n]) 2 = some (.int i) := rfl
  have L3 : pm_get (lv_args 0 [.ref 77, .int x, .int i, .int y, .int j, .int n]) 3 = some (.int y) := rfl
  have L4 : pm_get (lv_args 0 [.ref 77, .int x, .int i, .int y, .int j, .int n]) 4 = some (.int j) := rfl
  have L5 : pm_get (lv_args 0 [.ref 77, .int x, .int i, .int y, .int j, .int n]) 5 = some (.int n) := rfl
  generalize lv_args 0 [.ref 77, .int x, .int i, .int y, .int j, .int n] = lv at L0 L1 L2 L3 L4 L5 ⊢
  have z0 : (0 : Int32).toInt = 0 := rfl
  refine E_al rfl L0 ?_
  refine E_ci 0 rfl ci0 ?_
  refine E_pf rfl hh rfl ?_
  have hg : HH (pt h 77 0 (nJ 0)) := HH_ptn hh rfl (by first | decide | with_reducible assumption | omega) (by first | decide | with_reducible assumption | omega) (by first | decide | with_reducible assumption | omega)
  have no : ¬ ((0 ≤ x.toInt ∧ x.toInt ≤ 3) ∧ 0 ≤ y.toInt ∧ y.toInt ≤ 3) → Ends (pm_at tX9_paste) (pm_Rt pm_P (d + 2)) (19, lv, [], pt h 77 0 (nJ 0), 0, 0) (EF rlN (fun r => paE r x i y j n (rlN h))) := by
    intro hn
    refine E_c rfl ?_
    exact E_rti rfl ⟨_, rfl, fun s _ k _ => rlN_77.trans (paE_n (by decide)).symm⟩
  refine E_il rfl L1 ?_
  refine E_call rfl sp_isSlot (chkS rfl (by show 0 ≤ 8; decide)) (fun h1 r1 => ?_)
  rintro ⟨e1, f1⟩
  rw [e1, f1]
  by_cases b0 : 0 ≤ x.toInt ∧ x.toInt ≤ 3
  · refine E_ifF rfl (by rw [zb_T b0]; rfl) ?_
    refine E_il rfl L3 ?_
    refine E_call rfl sp_isSlot (chkS rfl (by show 0 ≤ 8; decide)) (fun h2 r2 => ?_)
    rintro ⟨e2, f2⟩
    rw [e2, f2]
    by_cases c0 : 0 ≤ y.toInt ∧ y.toInt ≤ 3
    · refine E_ifT rfl (by rw [zb_T c0]; rfl) ?_
      obtain ⟨s, hs, rfl⟩ : ∃ s, s < 4 ∧ x = nJ s := ⟨x.toInt.toNat, by omega, nJ_of b0.1⟩
      obtain ⟨t, ht, rfl⟩ : ∃ s, s < 4 ∧ y = nJ s := ⟨y.toInt.toNat, by omega, nJ_of c0.1⟩
      refine E_al rfl L0 ?_
      refine E_gr rfl hg (q := 78) rfl ?_
      refine E_il rfl L1 ?_
      refine E_ial (v := gi h 78 s) rfl hg rfl (by first | decide | with_reducible assumption | omega) (by decide) (gi_ne (by first | exact gxx rfl | omega)) ?_
      refine E_c rfl ?_
      by_cases b1 : gi h 78 s = -1
      · refine E_icT rfl (decide_eq_true b1) ?_
        refine E_c rfl ?_
        exact E_rti rfl ⟨_, rfl, fun s _ k _ => rlN_77.trans (paE_n (by decide)).symm⟩
      refine E_icF rfl (decide_eq_false b1) ?_
      refine E_al rfl L0 ?_
      refine E_gr rfl hg (q := 78) rfl ?_
      refine E_il rfl L3 ?_
      refine E_ial (v := gi h 78 t) rfl hg rfl (by first | decide | with_reducible assumption | omega) (by decide) (gi_ne (by first | exact gxx rfl | omega)) ?_
      refine E_c rfl ?_
      by_cases b2 : gi h 78 t = -1
      · refine E_icF rfl (decide_eq_false (fun q => q b2)) ?_
        refine E_c rfl ?_
        exact E_rti rfl ⟨_, rfl, fun s _ k _ => rlN_77.trans (paE_n (by decide)).symm⟩
      refine E_icT rfl (decide_eq_true b2) ?_
      refine E_al rfl L0 ?_
      refine E_gr rfl hg (q := 78) rfl ?_
      refine E_il rfl L1 ?_
      refine E_ial (v := gi h 78 s) rfl hg rfl (by first | decide | with_reducible assumption | omega) (by decide) (gi_ne (by first | exact gxx rfl | omega)) ?_
      refine E_al rfl L0 ?_
      refine E_gr rfl hg (q := 78) rfl ?_
      refine E_il rfl L3 ?_
      refine E_ial (v := gi h 78 t) rfl hg rfl (by first | decide | with_reducible assumption | omega) (by decide) (gi_ne (by first | exact gxx rfl | omega)) ?_
      by_cases b3 : gi h 78 s = gi h 78 t
      · refine E_icT rfl (decide_eq_true b3) ?_
        have g1 := (ld_gi hh (a := 79) (k := s) (bd_u rfl (by first | decide | with_reducible assumption | omega))).2
        have g2 := (ld_gi hh (a := 79) (k := t) (bd_u rfl (by first | decide | with_reducible assumption | omega))).2
        dsimp only at g1 g2
        have no7 : Ends (pm_at tX9_paste) (pm_Rt pm_P (d + 2)) (112, lv, [], pt h 77 0 (nJ 0), 0, 0) (EF rlN (fun r => paE r (nJ s) i (nJ t) j n (rlN h))) := by
          refine E_c rfl ?_
          exact E_rti rfl ⟨_, rfl, fun s _ k _ => rlN_77.trans (paE_n (by decide)).symm⟩
        refine E_il rfl L2 ?_
        by_cases k1 : i < 0
        · have q := Int32.lt_iff_toInt_lt.mp k1
          refine E_ifT rfl (decide_eq_true k1) ?_
          exact no7
        have q1 : ¬ i.toInt < (0 : Int32).toInt := fun z => k1 (Int32.lt_iff_toInt_lt.mpr z)
        refine E_ifF rfl (decide_eq_false k1) ?_
        refine E_il rfl L4 ?_
        by_cases k2 : j < 0
        · have q := Int32.lt_iff_toInt_lt.mp k2
          refine E_ifT rfl (decide_eq_true k2) ?_
          exact no7
        have q2 : ¬ j.toInt < (0 : Int32).toInt := fun z => k2 (Int32.lt_iff_toInt_lt.mpr z)
        refine E_ifF rfl (decide_eq_false k2) ?_
        refine E_il rfl L5 ?_
        by_cases k3 : n < 0
        · have q := Int32.lt_iff_toInt_lt.mp k3
          refine E_ifT rfl (decide_eq_true k3) ?_
          exact no7
        have q3 : ¬ n.toInt < (0 : Int32).toInt := fun z => k3 (Int32.lt_iff_toInt_lt.mpr z)
        refine E_ifF rfl (decide_eq_false k3) ?_
        refine E_il rfl L2 ?_
        refine E_i2l rfl ?_
        refine E_il rfl L5 ?_
        refine E_i2l rfl ?_
        refine E_lbin rfl ?_
        refine E_al rfl L0 ?_
        refine E_gr rfl hg (q := 79) rfl ?_
        refine E_il rfl L1 ?_
        refine E_ial (v := gi h 79 s) rfl hg rfl (by first | decide | with_reducible assumption | omega) (by decide) (gi_ne (by first | exact gxx rfl | omega)) ?_
        refine E_i2l rfl ?_
        refine E_lcmp rfl ?_
        by_cases k4 : (gi h 79 s).toInt < i.toInt + n.toInt
        · refine E_ifT rfl (decide_eq_true ((lg_cmp_gt _ _).mpr (by rw [Int64.lt_iff_toInt_lt, i2l_add, i2l_toInt]; omega))) ?_
          exact no7
        refine E_ifF rfl (decide_eq_false (fun q => absurd ((lg_cmp_gt _ _).mp q) (by rw [Int64.lt_iff_toInt_lt, i2l_add, i2l_toInt]; omega))) ?_
        refine E_il rfl L4 ?_
        refine E_i2l rfl ?_
        refine E_il rfl L5 ?_
        refine E_i2l rfl ?_
        refine E_lbin rfl ?_
        refine E_al rfl L0 ?_
        refine E_gr rfl hg (q := 79) rfl ?_
        refine E_il rfl L3 ?_
        refine E_ial (v := gi h 79 t) rfl hg rfl (by first | decide | with_reducible assumption | omega) (by decide) (gi_ne (by first | exact gxx rfl | omega)) ?_
        refine E_i2l rfl ?_
        refine E_lcmp rfl ?_
        by_cases k5 : j.toInt + n.toInt ≤ (gi h 79 t).toInt
        · refine E_ifT rfl (decide_eq_true ((lg_cmp_le _ _).mpr (by rw [Int64.le_iff_toInt_le, i2l_add, i2l_toInt]; omega))) ?_
          obtain ⟨a, ha, rfl⟩ : ∃ k, k ≤ 60 ∧ i = nJ k := ⟨i.toInt.toNat, by omega, nJ_of (by first | decide | with_reducible assumption | omega)⟩
          obtain ⟨b, hb, rfl⟩ : ∃ k, k ≤ 60 ∧ j = nJ k := ⟨j.toInt.toNat, by omega, nJ_of (by first | decide | with_reducible assumption | omega)⟩
          obtain ⟨m, hm, rfl⟩ : ∃ k, k ≤ 60 ∧ n = nJ k := ⟨n.toInt.toNat, by omega, nJ_of (by first | decide | with_reducible assumption | omega)⟩
          have ea := nJ_toInt (n := a) (by first | decide | with_reducible assumption | omega)
          have eb := nJ_toInt (n := b) (by first | decide | with_reducible assumption | omega)
          have em := nJ_toInt (n := m) (by first | decide | with_reducible assumption | omega)
          refine E_ci 0 rfl ci0 ?_
          refine E_is rfl (fun lv1 K6 kp => ?_)
          exact pN_a hs ht (by first | decide | with_reducible assumption | omega) (by first | decide | with_reducible assumption | omega) m (c := 0) lv1 (by first | decide | with_reducible assumption | omega) hg (fun q hq => absurd hq (Nat.not_lt_zero q)) (fun q => gl_ne (by first | decide | with_reducible assumption | omega)) (kp 0 _ (nbz rfl) rfl L0) (kp 1 _ (nbz rfl) rfl L1) (kp 2 _ (nbz rfl) rfl L2) (kp 3 _ (nbz rfl) rfl L3) (kp 4 _ (nbz rfl) rfl L4) (kp 5 _ (nbz rfl) rfl L5) K6
        · refine E_ifF rfl (decide_eq_false (fun q => absurd ((lg_cmp_le _ _).mp q) (by rw [Int64.le_iff_toInt_le, i2l_add, i2l_toInt]; omega))) ?_
          exact no7
      · refine E_icF rfl (decide_eq_false b3) ?_
        refine E_c rfl ?_
        exact E_rti rfl ⟨_, rfl, fun s _ k _ => rlN_77.trans (paE_n (by decide)).symm⟩
    · refine E_ifF rfl (by rw [zb_F c0]; rfl) ?_
      exact no (fun q => c0 q.2)
  · refine E_ifT rfl (by rw [zb_F b0]; rfl) ?_
    exact no (fun q => b0 q.1)
end PAN
/-! the relation with numbers -/
noncomputable def nuB (M : List Rng) : Bool := [55, 57, 59, 61, 80].all (nocell M)
theorem nu_fr {M : List Rng} {h h' : pm_H} (hf : fr_g M h h') (hb : nuB M = true) : ∀ s, s < 4 → ∀ k, clN h' s k = clN h s k ∧ rlN h' s k = rlN h s k := by
  intro s hs k
  refine ⟨fr_gl hf (rg_no ?_ _), fr_gl hf (rg_no (nc_at hb (by decide)) _)⟩
  match s, hs with
  | 0, _ => exact nc_at hb (by decide)
  | 1, _ => exact nc_at hb (by decide)
  | 2, _ => exact nc_at hb (by decide)
  | 3, _ => exact nc_at hb (by decide)
theorem NU_fr {M : List Rng} {h h' : pm_H} (hf : fr_g M h h') (hb : nuB M = true) (N : NU h) : NU h' := fun s hs k hk => by
  rw [(nu_fr hf hb s hs k).1, (nu_fr hf hb s hs k).2]
  exact N s hs k hk
noncomputable def IVN (h : pm_H) : Prop := IVh h ∧ QRE h ∧ NU h
theorem IVN_q {h : pm_H} (I : IVN h) : IVQ h := ⟨I.1, I.2.1⟩
noncomputable def qnB (M : List Rng) : Bool := qrB M && nuB M
theorem tN_int {d y : Nat} {h : pm_H} {as : List Value} {M : List Rng} (hd : Nat.ble d 100 = true) (hM : qnB M = true) (R : QRE h ∧ NU h) (k : Sp d y h as (fun h' r => IVh h' ∧ fr_g M h h' ∧ ∃ x : Int32, r = some (.int x))) : Sp 100 y h as (fun h' r => IVN h' ∧ ∃ x : Int32, r = some (.int x)) := by
  unfold qnB at hM
  rw [Bool.and_eq_true] at hM
  exact Sp_le (Nat.le_of_ble_eq_true hd) (Sp_mono (fun _ _ q => ⟨⟨q.1, QRE_fr q.2.1 hM.1 R.1, NU_fr q.2.1 hM.2 R.2⟩, q.2.2⟩) k)
theorem tN_lng {d y : Nat} {h : pm_H} {as : List Value} {M : List Rng} (hd : Nat.ble d 100 = true) (hM : qnB M = true) (R : QRE h ∧ NU h) (k : Sp d y h as (fun h' r => IVh h' ∧ fr_g M h h' ∧ ∃ x : Int64, r = some (.long x))) : Sp 100 y h as (fun h' r => IVN h' ∧ ∃ x : Int64, r = some (.long x)) := by
  unfold qnB at hM
  rw [Bool.and_eq_true] at hM
  exact Sp_le (Nat.le_of_ble_eq_true hd) (Sp_mono (fun _ _ q => ⟨⟨q.1, QRE_fr q.2.1 hM.1 R.1, NU_fr q.2.1 hM.2 R.2⟩, q.2.2⟩) k)
theorem hf_N {d y : Nat} {h : pm_H} {as : List Value} {M : List Rng} {P : pm_H → Int32 → Prop} {U : pm_H → Option Value → Prop} (hd : d ≤ 100) (hM : nuB M = true) (N : NU h) (a : Sp 100 y h as (fun h' r => IVh h' ∧ ∃ x : Int32, r = some (.int x) ∧ P h' x)) (b : Sp d y h as (fun h' r => U h' r ∧ fr_g M h h')) : Sp 100 y h as (fun h' r => IVh h' ∧ ∃ x : Int32, r = some (.int x) ∧ (P h' x ∧ NU h')) :=
  Sp_mono (fun _ _ q => by
    obtain ⟨⟨q1, x, q2, q3⟩, -, q4⟩ := q
    exact ⟨q1, x, q2, q3, NU_fr q4 hM N⟩) (Sp_an a (Sp_le hd b))
theorem hs_N {d y : Nat} {h : pm_H} {as : List Value} {M : List Rng} {P : Option Value → Prop} {U : pm_H → Option Value → Prop} (hd : d ≤ 100) (hM : nuB M = true) (N : NU h) (a : Sp 100 y h as (fun h' r => IVQ h' ∧ P r)) (b : Sp d y h as (fun h' r => U h' r ∧ fr_g M h h')) : Sp 100 y h as (fun h' r => IVN h' ∧ P r) :=
  Sp_mono (fun _ _ q => by
    obtain ⟨⟨q1, q2⟩, -, q4⟩ := q
    exact ⟨⟨q1.1, q1.2, NU_fr q4 hM N⟩, q2⟩) (Sp_an a (Sp_le hd b))
section PRN
variable {h : pm_H} {x v w a b c d e : Int32} {z : Int64}
theorem n8_feed (I : IVN h) : Sp 100 106 h [.ref 0, .int a, .int b, .int c, .int d, .int e] (fun h' r => IVh h' ∧ ∃ x : Int32, r = some (.int x) ∧ (((half_feed h' x a b c d e ∧ SL h') ∧ RST h') ∧ NU h')) :=
  hf_N (P := fun h' x => ((half_feed h' x a b c d e ∧ SL h') ∧ RST h')) (by first | decide | with_reducible assumption | omega) rfl I.2.2 (g8_feed (IVN_q I)) (tf_all (as := [.ref 0, .int a, .int b, .int c, .int d, .int e]) q1 (by decide +kernel) I.1 ⟨rfl, aI _, aI _, aI _, aI _, aI _, trivial⟩)
theorem n9_feed (I : IVh h) (J : ((half_feed h x a b c d e ∧ SL h) ∧ RST h) ∧ NU h) : Sp 100 247 h [.ref 77, .int a, .int b, .int c, .int d, .int e] (fun h' r => IVN h' ∧ r = some (.int x)) :=
  hs_N (P := fun r => r = some (.int x)) (by first | decide | with_reducible assumption | omega) rfl J.2 (g9_feed I J.1) (tf_all (as := [.ref 77, .int a, .int b, .int c, .int d, .int e]) q7 (by decide +kernel) I ⟨rfl, aI _, aI _, aI _, aI _, aI _, trivial⟩)
theorem n8_end (I : IVN h) : Sp 100 101 h [.ref 0, .int v] (fun h' r => IVh h' ∧ ∃ x : Int32, r = some (.int x) ∧ (((half_end h' x v ∧ SL h') ∧ RST h') ∧ NU h')) :=
  hf_N (P := fun h' x => ((half_end h' x v ∧ SL h') ∧ RST h')) (by first | decide | with_reducible assumption | omega) rfl I.2.2 (g8_end (IVN_q I)) (tf_all (as := [.ref 0, .int v]) q8 (by decide +kernel) I.1 ⟨rfl, aI _, trivial⟩)
theorem n9_end (I : IVh h) (J : ((half_end h x v ∧ SL h) ∧ RST h) ∧ NU h) : Sp 100 241 h [.ref 77, .int v] (fun h' r => IVN h' ∧ r = some (.int x)) :=
  hs_N (P := fun r => r = some (.int x)) (by first | decide | with_reducible assumption | omega) rfl J.2 (g9_end I J.1) (tf_all (as := [.ref 77, .int v]) q10 (by decide +kernel) I ⟨rfl, aI _, trivial⟩)
theorem n8_street (I : IVN h) : Sp 100 185 h [.ref 0] (fun h' r => IVh h' ∧ ∃ x : Int32, r = some (.int x) ∧ (half_stQ h' x ∧ NU h')) :=
  hf_N (P := fun h' x => half_stQ h' x) (by first | decide | with_reducible assumption | omega) rfl I.2.2 (g8_street (IVN_q I)) (tf_all (as := [.ref 0]) q106 (by decide +kernel) I.1 ⟨rfl, trivial⟩)
theorem n9_street (I : IVh h) (J : (half_stQ h x) ∧ NU h) : Sp 100 354 h [.ref 77] (fun h' r => IVN h' ∧ r = some (.int x)) :=
  hs_N (P := fun r => r = some (.int x)) (M := VMS) (U := fun h' _ => HH h') (d := 40) (by first | decide | with_reducible assumption | omega) rfl J.2 (g9_street I J.1) (Sp_mono (fun _ _ q => ⟨q.1, q.2.1⟩) (tv_street (d := 0) I.1 I.2.2))
theorem n8_undo (I : IVN h) : Sp 100 195 h [.ref 0] (fun h' r => IVh h' ∧ ∃ x : Int32, r = some (.int x) ∧ (half_unQ h' x ∧ NU h')) :=
  hf_N (P := fun h' x => half_unQ h' x) (by first | decide | with_reducible assumption | omega) rfl I.2.2 (g8_undo (IVN_q I)) (tf_all (as := [.ref 0]) q878 (by decide +kernel) I.1 ⟨rfl, trivial⟩)
theorem n9_undo (I : IVh h) (J : (half_unQ h x) ∧ NU h) : Sp 100 366 h [.ref 77] (fun h' r => IVN h' ∧ r = some (.int x)) :=
  hs_N (P := fun r => r = some (.int x)) (M := VM) (U := fun h' _ => HH h') (d := 40) (by first | decide | with_reducible assumption | omega) rfl J.2 (g9_undo I J.1) (Sp_mono (fun _ _ q => ⟨q.1, q.2.1⟩) (tv_undo (d := 0) I.1 I.2.2))
theorem n8_anew (I : IVN h) : Sp 100 79 h [.ref 0] (fun h' r => IVh h' ∧ ∃ x : Int32, r = some (.int x) ∧ (half_anQ h' x ∧ NU h')) :=
  hf_N (P := fun h' x => half_anQ h' x) (by first | decide | with_reducible assumption | omega) rfl I.2.2 (g8_anew (IVN_q I)) (tf_all (as := [.ref 0]) q881 (by decide +kernel) I.1 ⟨rfl, trivial⟩)
theorem n9_anew (I : IVh h) (J : (half_anQ h x) ∧ NU h) : Sp 100 207 h [.ref 77] (fun h' r => IVN h' ∧ r = some (.int x)) :=
  hs_N (P := fun r => r = some (.int x)) (M := VM) (U := fun h' _ => HH h') (d := 40) (by first | decide | with_reducible assumption | omega) rfl J.2 (g9_anew I J.1) (Sp_mono (fun _ _ q => ⟨q.1, q.2.1⟩) (tv_anew (d := 0) I.1 I.2.2))
theorem n8_rate (I : IVN h) : Sp 100 164 h [.ref 0, .int v, .int w] (fun h' r => IVh h' ∧ ∃ x : Int32, r = some (.int x) ∧ (half_rtQ h' x v w ∧ NU h')) :=
  hf_N (P := fun h' x => half_rtQ h' x v w) (by first | decide | with_reducible assumption | omega) rfl I.2.2 (g8_rate (IVN_q I)) (tf_all (as := [.ref 0, .int v, .int w]) q895 (by decide +kernel) I.1 ⟨rfl, aI _, aI _, trivial⟩)
theorem n9_rate (I : IVh h) (J : (half_rtQ h x v w) ∧ NU h) : Sp 100 329 h [.ref 77, .int v, .int w] (fun h' r => IVN h' ∧ r = some (.int x)) :=
  hs_N (P := fun r => r = some (.int x)) (M := VM) (U := fun h' _ => HH h') (d := 40) (by first | decide | with_reducible assumption | omega) rfl J.2 (g9_rate I J.1) (Sp_mono (fun _ _ q => ⟨q.1, q.2.1⟩) (tv_rate (d := 0) I.1 I.2.2))
theorem n8_wants (I : IVN h) : Sp 100 198 h [.ref 0, .int v, .int w] (fun h' r => IVh h' ∧ ∃ x : Int32, r = some (.int x) ∧ (half_w h' (wq h' v w) v w 0 ∧ NU h')) :=
  hf_N (P := fun h' x => half_w h' (wq h' v w) v w 0) (by first | decide | with_reducible assumption | omega) rfl I.2.2 (g8_wants (IVN_q I)) (tf_all (as := [.ref 0, .int v, .int w]) q868 (by decide +kernel) I.1 ⟨rfl, aI _, aI _, trivial⟩)
theorem n9_wants (I : IVh h) (J : (half_w h (wq h v w) v w 0) ∧ NU h) : Sp 100 370 h [.ref 77, .int v, .int w] (fun h' r => IVN h' ∧ ∃ x : Int32, r = some (.int x)) :=
  hs_N (P := fun r => ∃ x : Int32, r = some (.int x)) (M := VM) (U := fun h' _ => HH h') (d := 40) (by first | decide | with_reducible assumption | omega) rfl J.2 (g9_wants I J.1) (Sp_mono (fun _ _ q => ⟨q.1, q.2.1⟩) (tv_wants (d := 0) I.1 I.2.2))
theorem n8_trades (I : IVN h) : Sp 100 191 h [.ref 0, .int v, .int w] (fun h' r => IVh h' ∧ ∃ x : Int32, r = some (.int x) ∧ (half_w h' (tq h' v w) v w 1 ∧ NU h')) :=
  hf_N (P := fun h' x => half_w h' (tq h' v w) v w 1) (by first | decide | with_reducible assumption | omega) rfl I.2.2 (g8_trades (IVN_q I)) (tf_all (as := [.ref 0, .int v, .int w]) q873 (by decide +kernel) I.1 ⟨rfl, aI _, aI _, trivial⟩)
theorem n9_trades (I : IVh h) (J : (half_w h (tq h v w) v w 1) ∧ NU h) : Sp 100 362 h [.ref 77, .int v, .int w] (fun h' r => IVN h' ∧ ∃ x : Int32, r = some (.int x)) :=
  hs_N (P := fun r => ∃ x : Int32, r = some (.int x)) (M := VM) (U := fun h' _ => HH h') (d := 40) (by first | decide | with_reducible assumption | omega) rfl J.2 (g9_trades I J.1) (Sp_mono (fun _ _ q => ⟨q.1, q.2.1⟩) (tv_trades (d := 0) I.1 I.2.2))
theorem n8_count (I : IVN h) : Sp 100 93 h [.ref 0, .int v] (fun h' r => IVh h' ∧ ∃ x : Int32, r = some (.int x) ∧ (half_cnQ h' x v ∧ NU h')) :=
  hf_N (P := fun h' x => half_cnQ h' x v) (by first | decide | with_reducible assumption | omega) rfl I.2.2 (g8_count (IVN_q I)) (tf_all (as := [.ref 0, .int v]) q899 (by decide +kernel) I.1 ⟨rfl, aI _, trivial⟩)
theorem n9_count (I : IVh h) (J : (half_cnQ h x v) ∧ NU h) : Sp 100 233 h [.ref 77, .int v] (fun h' r => IVN h' ∧ r = some (.int x)) :=
  hs_N (P := fun r => r = some (.int x)) (by first | decide | with_reducible assumption | omega) rfl J.2 (g9_count I J.1) (tf_all (as := [.ref 77, .int v]) q901 (by decide +kernel) I ⟨rfl, aI _, trivial⟩)
theorem n8_image (I : IVN h) : Sp 100 121 h [.ref 0, .int v] (fun h' r => IVh h' ∧ ∃ x : Int32, r = some (.int x) ∧ (half_imQ h' x v ∧ NU h')) :=
  hf_N (P := fun h' x => half_imQ h' x v) (by first | decide | with_reducible assumption | omega) rfl I.2.2 (g8_image (IVN_q I)) (tf_all (as := [.ref 0, .int v]) q905 (by decide +kernel) I.1 ⟨rfl, aI _, trivial⟩)
theorem n9_image (I : IVh h) (J : (half_imQ h x v) ∧ NU h) : Sp 100 260 h [.ref 77, .int v] (fun h' r => IVN h' ∧ r = some (.int x)) :=
  hs_N (P := fun r => r = some (.int x)) (M := VMI) (U := fun h' _ => HH h') (d := 40) (by first | decide | with_reducible assumption | omega) rfl J.2 (g9_image I J.1) (Sp_mono (fun _ _ q => ⟨q.1, q.2.1⟩) (tv_image (d := 0) I.1 I.2.2))
theorem n8_back (I : IVN h) : Sp 100 82 h [.ref 0, .int v] (fun h' r => IVh h' ∧ ∃ x : Int32, r = some (.int x) ∧ (half_bkQ h' x v ∧ NU h')) :=
  hf_N (P := fun h' x => half_bkQ h' x v) (by first | decide | with_reducible assumption | omega) rfl I.2.2 (g8_back (IVN_q I)) (tf_all (as := [.ref 0, .int v]) q927 (by decide +kernel) I.1 ⟨rfl, aI _, trivial⟩)
theorem n9_back (I : IVh h) (J : (half_bkQ h x v) ∧ NU h) : Sp 100 212 h [.ref 77, .int v] (fun h' r => IVN h' ∧ r = some (.int x)) :=
  hs_N (P := fun r => r = some (.int x)) (M := VM) (U := fun h' _ => HH h') (d := 40) (by first | decide | with_reducible assumption | omega) rfl J.2 (g9_back I J.1) (Sp_mono (fun _ _ q => ⟨q.1, q.2.1⟩) (tv_back (d := 0) I.1 I.2.2))
/-! row, write, paste: with their numbers -/
theorem n8_row (I : IVN h) : Sp 100 171 h [.ref 0, .int a, .int b, .int c] (fun h' r => IVh h' ∧ ∃ x : Int32, r = some (.int x) ∧ ((half_row h' x a b c ∧ RST h') ∧ ∀ s, s < 4 → ∀ k, k < 60 → clN h' s k = rowE x a c (rlN h') s k)) := by
  refine Sp_mono ?_ (Sp_an (Sp_an (g8_row (a := a) (b := b) (c := c) (IVN_q I)) (Sp_le (by first | exact Nat.add_le_add_left (Nat.le_of_ble_eq_true rfl) _ | exact Nat.le_of_ble_eq_true rfl | omega) (tf_all (as := [.ref 0, .int a, .int b, .int c]) q949 (by decide +kernel) I.1 ⟨rfl, aI _, aI _, aI _, trivial⟩))) (Sp_le (by first | exact Nat.add_le_add_left (Nat.le_of_ble_eq_true rfl) _ | exact Nat.le_of_ble_eq_true rfl | omega) (sp_row8N (d := 0) I.1.1)))
  rintro h' r ⟨⟨⟨q1, x, q2, q3⟩, -, q4⟩, y, q5, q6⟩
  rw [q2] at q5
  cases q5
  refine ⟨q1, x, q2, q3, fun s hs k hk => ?_⟩
  rw [q6 s hs k hk]
  exact rowE_cg (fun s hs k hk => by rw [I.2.2 s hs k hk]; exact (fr_gl q4 (rg_no rfl _)).symm) hs hk
theorem n9_row (I : IVh h) (J : (half_row h x a b c ∧ RST h) ∧ ∀ s, s < 4 → ∀ k, k < 60 → clN h s k = rowE x a c (rlN h) s k) : Sp 100 338 h [.ref 77, .int a, .int b, .int c] (fun h' r => IVN h' ∧ r = some (.int x)) := by
  refine Sp_mono ?_ (Sp_an (Sp_an (g9_row I J.1) (Sp_le (by first | exact Nat.add_le_add_left (Nat.le_of_ble_eq_true rfl) _ | exact Nat.le_of_ble_eq_true rfl | omega) (tf_all (as := [.ref 77, .int a, .int b, .int c]) q950 (by decide +kernel) I ⟨rfl, aI _, aI _, aI _, trivial⟩))) (Sp_le (by first | exact Nat.add_le_add_left (Nat.le_of_ble_eq_true rfl) _ | exact Nat.le_of_ble_eq_true rfl | omega) (sp_row9N (d := 0) I.1)))
  rintro h' r ⟨⟨⟨q1, q2⟩, -, q4⟩, y, q5, q6⟩
  rw [q2] at q5
  cases q5
  refine ⟨⟨q1.1, q1.2, fun s hs k hk => ?_⟩, q2⟩
  rw [q6 s hs k hk]
  show clN h' s k = rowE x a c (rlN h) s k
  rw [← J.2 s hs k hk]
  exact fr_gl q4 (no_long rfl hs)
theorem wrE_cg {r : Int32} {w w' : Nat → Int32} {f g : Nat → Nat → Int64} {s k : Nat} (e : ∀ s, s < 4 → ∀ k, k < 60 → f s k = g s k) (ew : r = 0 → a = nJ s → w s = w' s) (hs : s < 4) (hk : k < 60) : wrE r a b z w f s k = wrE r a b z w' g s k := by
  unfold wrE
  by_cases q : r = 0 ∧ a = nJ s ∧ b = nJ k
  · rw [if_pos q, if_pos q, ew q.1 q.2.1]
  · rw [if_neg q, if_neg q, e s hs k hk]
theorem wrv_f {f m : Nat → Int32} {s : Nat} (hs : s < 4) (e : wrv f m (nJ s) b = 0) : ¬ f s = 0 := fun q => by
  rw [wrv_6 hs q] at e
  exact absurd e (by decide)
theorem n8_write (I : IVN h) : Sp 100 203 h [.ref 0, .int a, .int b, .long z] (fun h' r => IVh h' ∧ ∃ x : Int32, r = some (.int x) ∧ ((half_write h' x a b ∧ RST h') ∧ ∀ s, s < 4 → ∀ k, k < 60 → clN h' s k = wrE x a b z (rfw h') (rlN h') s k)) := by
  refine Sp_mono ?_ (Sp_an (Sp_an (g8_write (a := a) (b := b) (w := z) (IVN_q I)) (Sp_le (by first | exact Nat.add_le_add_left (Nat.le_of_ble_eq_true rfl) _ | exact Nat.le_of_ble_eq_true rfl | omega) (tf_all (as := [.ref 0, .int a, .int b, .long z]) q952 (by decide +kernel) I.1 ⟨rfl, aI _, aI _, aL _, trivial⟩))) (Sp_le (by first | exact Nat.add_le_add_left (Nat.le_of_ble_eq_true rfl) _ | exact Nat.le_of_ble_eq_true rfl | omega) (sp_write8N (d := 0) I.1.1)))
  rintro h' r ⟨⟨⟨q1, x, q2, q3⟩, -, q4⟩, y, q5, q6⟩
  rw [q2] at q5
  cases q5
  refine ⟨q1, x, q2, q3, fun s hs k hk => ?_⟩
  rw [q6 s hs k hk]
  refine wrE_cg (fun s hs k hk => by rw [I.2.2 s hs k hk]; exact (fr_gl q4 (rg_no rfl _)).symm) (fun e0 ea => ?_) hs hk
  have ex := q3.1.2
  rw [e0, ea] at ex
  have nf := wrv_f hs ex.symm
  obtain ⟨r1, r2, -⟩ := rf_fr q4 rfl s
  rw [r1] at nf
  rw [r2]
  exact (SL_cf I.2.1.1.2 s hs).2.1 nf
theorem n9_write (I : IVh h) (J : (half_write h x a b ∧ RST h) ∧ ∀ s, s < 4 → ∀ k, k < 60 → clN h s k = wrE x a b z (rfw h) (rlN h) s k) : Sp 100 380 h [.ref 77, .int a, .int b, .long z] (fun h' r => IVN h' ∧ r = some (.int x)) := by
  refine Sp_mono ?_ (Sp_an (Sp_an (g9_write (w := z) I J.1) (Sp_le (by first | exact Nat.add_le_add_left (Nat.le_of_ble_eq_true rfl) _ | exact Nat.le_of_ble_eq_true rfl | omega) (tf_all (as := [.ref 77, .int a, .int b, .long z]) q955 (by decide +kernel) I ⟨rfl, aI _, aI _, aL _, trivial⟩))) (Sp_le (by first | exact Nat.add_le_add_left (Nat.le_of_ble_eq_true rfl) _ | exact Nat.le_of_ble_eq_true rfl | omega) (sp_write9N (d := 0) I.1)))
  rintro h' r ⟨⟨⟨q1, q2⟩, -, q4⟩, y, q5, q6⟩
  rw [q2] at q5
  cases q5
  refine ⟨⟨q1.1, q1.2, fun s hs k hk => ?_⟩, q2⟩
  rw [q6 s hs k hk]
  show clN h' s k = wrE x a b z (rfw h) (rlN h) s k
  rw [← J.2 s hs k hk]
  exact fr_gl q4 (no_long rfl hs)
theorem paE_cg {r i j n : Int32} {f g : Nat → Nat → Int64} {s k : Nat} (e : ∀ s, s < 4 → ∀ k, k < 60 → f s k = g s k) (ok : r = 0 → (0 ≤ a.toInt ∧ a.toInt ≤ 3) ∧ 0 ≤ i.toInt ∧ 0 ≤ n.toInt ∧ i.toInt + n.toInt ≤ 60) (hs : s < 4) (hk : k < 60) : paE r a i b j n f s k = paE r a i b j n g s k := by
  unfold paE
  by_cases q : r = 0 ∧ b = nJ s ∧ j.toInt ≤ (k : Int) ∧ (k : Int) < j.toInt + n.toInt
  · obtain ⟨o1, o2, o3, o4⟩ := ok q.1
    rw [if_pos q, if_pos q, e _ (by first | decide | with_reducible assumption | omega) _ (by first | decide | with_reducible assumption | omega)]
  · rw [if_neg q, if_neg q, e s hs k hk]
theorem pav_ok {f w m : Nat → Int32} {i j n : Int32} (hm : ∀ s, s < 4 → (m s).toInt ≤ 60) (q : pav f w m a i b j n = 0) : (0 ≤ a.toInt ∧ a.toInt ≤ 3) ∧ 0 ≤ i.toInt ∧ 0 ≤ n.toInt ∧ i.toInt + n.toInt ≤ 60 := by
  unfold pav at q
  by_cases c1 : (0 ≤ a.toInt ∧ a.toInt ≤ 3) ∧ 0 ≤ b.toInt ∧ b.toInt ≤ 3
  · rw [if_pos c1] at q
    by_cases c2 : f a.toInt.toNat = 0 ∨ f b.toInt.toNat = 0
    · rw [if_pos c2] at q; exact absurd q (by decide)
    · rw [if_neg c2] at q
      by_cases c3 : w a.toInt.toNat = w b.toInt.toNat
      · rw [if_pos c3] at q
        by_cases c4 : (0 ≤ i.toInt ∧ 0 ≤ n.toInt ∧ i.toInt + n.toInt ≤ (m a.toInt.toNat).toInt) ∧ 0 ≤ j.toInt ∧ 0 ≤ n.toInt ∧ j.toInt + n.toInt ≤ (m b.toInt.toNat).toInt
        · have := hm a.toInt.toNat (by first | decide | with_reducible assumption | omega)
          exact ⟨c1.1, c4.1.1, c4.1.2.1, by have := c4.1.2.2; omega⟩
        · rw [if_neg c4] at q; exact absurd q (by decide)
      · rw [if_neg c3] at q; exact absurd q (by decide)
  · rw [if_neg c1] at q; exact absurd q (by decide)
theorem n8_paste (I : IVN h) : Sp 100 158 h [.ref 0, .int a, .int b, .int c, .int d, .int e] (fun h' r => IVh h' ∧ ∃ x : Int32, r = some (.int x) ∧ ((half_paste h' x a b c d e ∧ RST h') ∧ ∀ s, s < 4 → ∀ k, k < 60 → clN h' s k = paE x a b c d e (rlN h') s k)) := by
  refine Sp_mono ?_ (Sp_an (Sp_an (g8_paste (a := a) (b := b) (c := c) (d := d) (e := e) (IVN_q I)) (Sp_le (by first | exact Nat.add_le_add_left (Nat.le_of_ble_eq_true rfl) _ | exact Nat.le_of_ble_eq_true rfl | omega) (sp_paste8 (d := 0) (x := a) (i := b) (y := c) (j := d) (n := e) I.1.1))) (Sp_le (by first | exact Nat.add_le_add_left (Nat.le_of_ble_eq_true rfl) _ | exact Nat.le_of_ble_eq_true rfl | omega) (sp_paste8N (d := 0) I.1.1)))
  rintro h' r ⟨⟨⟨q1, x, q2, q3⟩, -, q4, -⟩, y, q5, q6⟩
  rw [q2] at q5
  cases q5
  refine ⟨q1, x, q2, q3, fun s hs k hk => ?_⟩
  rw [q6 s hs k hk]
  refine paE_cg (fun s hs k hk => by rw [I.2.2 s hs k hk]; exact (fr_gl q4 (rg_no rfl _)).symm) (fun e0 => ?_) hs hk
  have ex := q3.1.2
  rw [e0] at ex
  exact pav_ok (fun s hs => (ld_gi q1.1 (a := 79) (k := s) (bd_u rfl (by first | decide | with_reducible assumption | omega))).2.2) ex.symm
theorem n9_paste (I : IVh h) (J : (half_paste h x a b c d e ∧ RST h) ∧ ∀ s, s < 4 → ∀ k, k < 60 → clN h s k = paE x a b c d e (rlN h) s k) : Sp 100 323 h [.ref 77, .int a, .int b, .int c, .int d, .int e] (fun h' r => IVN h' ∧ r = some (.int x)) := by
  refine Sp_mono ?_ (Sp_an (Sp_an (g9_paste I J.1) (Sp_le (by first | exact Nat.add_le_add_left (Nat.le_of_ble_eq_true rfl) _ | exact Nat.le_of_ble_eq_true rfl | omega) (tf_all (as := [.ref 77, .int a, .int b, .int c, .int d, .int e]) q961 (by decide +kernel) I ⟨rfl, aI _, aI _, aI _, aI _, aI _, trivial⟩))) (Sp_le (by first | exact Nat.add_le_add_left (Nat.le_of_ble_eq_true rfl) _ | exact Nat.le_of_ble_eq_true rfl | omega) (sp_paste9N (d := 0) I.1)))
  rintro h' r ⟨⟨⟨q1, q2⟩, -, q4⟩, y, q5, q6⟩
  rw [q2] at q5
  cases q5
  refine ⟨⟨q1.1, q1.2, fun s hs k hk => ?_⟩, q2⟩
  rw [q6 s hs k hk]
  show clN h' s k = paE x a b c d e (rlN h) s k
  rw [← J.2 s hs k hk]
  exact fr_gl q4 (no_long rfl hs)
end PRN
theorem NU_hp0 : NU hp0 := by
  have t : ∀ s : Fin 4, ∀ k : Fin 60, clN hp0 s.val k.val = rlN hp0 s.val k.val := by decide +kernel
  exact fun s hs k hk => t ⟨s, hs⟩ ⟨k, hk⟩
theorem IVN_hp0 : IVN hp0 := ⟨IVQ_hp0.1, IVQ_hp0.2, NU_hp0⟩
end
section
/-! parked by any law, any set (wants u67b, u69, t34, u72's park) -/
noncomputable def ML (h : pm_H) (l s : Nat) : Nat := mss l (P9 h) s (W9 h) (N9 h)
noncomputable def PK9 (h : pm_H) (l s : Nat) (h2 : pm_H) : Prop := HH h2 ∧ gn h2 84 0 = P9 h ∧ gn h2 84 3 = N9 h ∧ gi h2 77 27 = nJ (ML h l s) ∧ (∀ q, q ≤ 9 → gi h2 90 q = pI (hd l (P9 h) s (W9 h) (N9 h) q)) ∧ (∀ i, i < N9 h → gi h2 91 i = pO (spt l (P9 h) s (W9 h) i)) ∧ ∀ i, i < N9 h → gi h2 89 i = nJ (W9 h i)
theorem K9_tr {a b c : pm_H} (x : K9 a b) (y : K9 b c) : K9 a c := ⟨fun k => (y.1 k).trans (x.1 k), fun k => (y.2.1 k).trans (x.2.1 k), fun k => (y.2.2.1 k).trans (x.2.2.1 k), fun k => (y.2.2.2 k).trans (x.2.2.2 k)⟩
section BYS
variable {h h2 g : pm_H} {d : Nat}
end BYS
end
section
/-! by of both (written by gen_u76.py; wants u75) -/
section PKB
variable {h h2 : pm_H} {d : Nat}
/-- the class parks by a law, the wishes of a row -/
theorem sp_park8B {A l : Nat} {hi : Int} (hA : hsF A = some (.inl (0, 8, [(0, hi)]))) (A2 : A ≠ 62 ∧ A ≠ 63) (hh : HH h) (l3 : l ≤ 3) (V : ∀ c, c < gn h 15 4 → 1 ≤ gn h A c ∧ gn h A c ≤ gn h 15 0) : Sp (d + 5) 153 h [.ref 0, .ref A, .int (nJ l)] (fun h' r => r = none ∧ HH h' ∧ fr_g FL h h' ∧ LTP l (gn h 15 0) (2 ^ gn h 15 4 - 1) (gn h A) (gn h 15 4) h') := by
  obtain ⟨a1, a2, a3, a4, -⟩ := g15 hh
  refine Sp_of aiX8_park rfl rfl rfl ?_
  have L0 : pm_get (lv_args 0 [.ref 0, .ref A, .int (nJ l)]) 0 = some (.ref 0) := rfl
  have L1 : pm_get (lv_args 0 [.ref 0, .ref A, .int (nJ l)]) 1 = some (.ref A) := rfl
  have L2 : pm_get (lv_args 0 [.ref 0, .ref A, .int (nJ l)]) 2 = some (.int (nJ l)) := rfl
  generalize lv_args 0 [.ref 0, .ref A, .int (nJ l)] = lv at L0 L1 L2 ⊢
  refine E_al rfl L0 ?_
  refine E_ogr (q := 62) rfl hh rfl rfl ?_
  refine E_al rfl L1 ?_
  refine E_al rfl L0 ?_
  refine E_ogr (q := 15) rfl hh rfl rfl ?_
  refine E_ogf (q := (0, 8)) rfl hh rfl rfl a3 ?_
  refine E_al rfl L0 ?_
  refine E_call rfl (Sp_le (by first | exact Nat.add_le_add_left (Nat.le_of_ble_eq_true rfl) _ | exact Nat.le_of_ble_eq_true rfl | omega) (sp_everyCar (d := d) hh)) (chkO (a := 0) hh rfl rfl rfl rfl (by show 3 ≤ 8; decide)) (fun h1 r1 => ?_)
  rintro ⟨e1, f1⟩
  rw [e1, f1]
  refine E_al rfl L0 ?_
  refine E_ogr (q := 15) rfl hh rfl rfl ?_
  refine E_ogf (q := (0, 8)) rfl hh rfl rfl a1 ?_
  refine E_il rfl L2 ?_
  refine E_call rfl (sp_fill (d := d) hA A2 hh l3 (by first | decide | with_reducible assumption | omega) (all_lt a4) a4 V) (chkO (a := 62) hh rfl rfl rfl rfl (by show 0 ≤ 8; decide)) (fun h2 r2 => ?_)
  rintro ⟨e2, hh2, f2, t2⟩
  rw [e2]
  exact E_ret rfl ⟨rfl, hh2, f2, t2⟩
end PKB
section BYQ
variable {h : pm_H} {d : Nat} {x : Int32}
end BYQ
end
section
/-! SEEN: why a slot's row is none, whether it is as it tells: both, as they answer (wants u113, t29, t33c, t37) -/
noncomputable def okB (C P : Nat) (N : Nat → Int64) (k : Nat) : Bool := decide ((0 ≤ (N (2 * k)).toInt ∧ (N (2 * k)).toInt < (C : Int)) ∧ 0 ≤ (N (2 * k + 1)).toInt ∧ (N (2 * k + 1)).toInt ≤ (P : Int))
noncomputable def allB (p : Nat → Bool) : Nat → Bool
  | 0 => true
  | k + 1 => allB p k && p k
theorem allB_at {p : Nat → Bool} : ∀ {n : Nat}, allB p n = true → ∀ k, k < n → p k = true
  | 0, _, k, h => absurd h (Nat.not_lt_zero k)
  | n + 1, q, k, h => by
    have q : (allB p n && p n) = true := q
    rw [Bool.and_eq_true] at q
    by_cases e : k = n
    · rw [e]; exact q.2
    · exact allB_at q.1 k (by first | decide | with_reducible assumption | omega)
theorem allB_of {p : Nat → Bool} : ∀ {n : Nat}, (∀ k, k < n → p k = true) → allB p n = true
  | 0, _ => rfl
  | n + 1, q => by
    show (allB p n && p n) = true
    rw [allB_of (fun k hk => q k (by first | decide | with_reducible assumption | omega)), q n (by first | decide | with_reducible assumption | omega)]; rfl
theorem allB_cg {p q : Nat → Bool} : ∀ {n : Nat}, (∀ k, k < n → p k = q k) → allB p n = allB q n
  | 0, _ => rfl
  | n + 1, e => by
    show (allB p n && p n) = (allB q n && q n)
    rw [allB_cg (fun k hk => e k (by first | decide | with_reducible assumption | omega)), e n (by first | decide | with_reducible assumption | omega)]
theorem allB_no {p : Nat → Bool} {n k : Nat} (h : k < n) (q : p k = false) : ¬ allB p n = true := fun a => by
  rw [allB_at a k h] at q; cases q
noncomputable def sgv (f : Nat → Int32) (m : Nat → Nat) (N : Nat → Nat → Int64) (C P : Nat) (is : Bool) (x : Int32) : Int32 := if 0 ≤ x.toInt ∧ x.toInt ≤ 3 then (if is = true then (if f x.toInt.toNat = 0 then -6 else if m x.toInt.toNat % 2 = 0 then (if allB (okB C P (N x.toInt.toNat)) (m x.toInt.toNat / 2) = true then 0 else -2) else -2) else -2) else -2
theorem sgv_in {f : Nat → Int32} {m : Nat → Nat} {N : Nat → Nat → Int64} {C P s : Nat} {is : Bool} (hs : s < 4) : sgv f m N C P is (nJ s) = if is = true then (if f s = 0 then -6 else if m s % 2 = 0 then (if allB (okB C P (N s)) (m s / 2) = true then 0 else -2) else -2) else -2 := by
  unfold sgv
  rw [if_pos (nJ_sl hs), nJ_nat hs]
theorem sgv_no {f : Nat → Int32} {m : Nat → Nat} {N : Nat → Nat → Int64} {C P : Nat} {is : Bool} {x : Int32} (q : ¬ (0 ≤ x.toInt ∧ x.toInt ≤ 3)) : sgv f m N C P is x = -2 := if_neg q
/-- a slot's row as it may be read -/
noncomputable def GOOD (f : Nat → Int32) (m : Nat → Nat) (N : Nat → Nat → Int64) (C P s : Nat) : Prop := ¬ f s = 0 ∧ m s % 2 = 0 ∧ allB (okB C P (N s)) (m s / 2) = true
theorem sgv_0 {f : Nat → Int32} {m : Nat → Nat} {N : Nat → Nat → Int64} {C P : Nat} {is : Bool} {x : Int32} (e : sgv f m N C P is x = 0) : is = true ∧ ∃ s, s < 4 ∧ x = nJ s ∧ GOOD f m N C P s := by
  by_cases q : 0 ≤ x.toInt ∧ x.toInt ≤ 3
  · obtain ⟨s, hs, rfl⟩ : ∃ s, s < 4 ∧ x = nJ s := ⟨x.toInt.toNat, by omega, nJ_of q.1⟩
    rw [sgv_in hs] at e
    by_cases q1 : is = true
    · rw [if_pos q1] at e
      by_cases q2 : f s = 0
      · rw [if_pos q2] at e; exact absurd e (by decide)
      · rw [if_neg q2] at e
        by_cases q3 : m s % 2 = 0
        · rw [if_pos q3] at e
          by_cases q4 : allB (okB C P (N s)) (m s / 2) = true
          · exact ⟨q1, s, hs, rfl, q2, q3, q4⟩
          · rw [if_neg q4] at e; exact absurd e (by decide)
        · rw [if_neg q3] at e; exact absurd e (by decide)
    · rw [if_neg q1] at e; exact absurd e (by decide)
  · rw [sgv_no q] at e; exact absurd e (by decide)
theorem sgv_cg {f f' : Nat → Int32} {m m' : Nat → Nat} {N N' : Nat → Nat → Int64} {C P : Nat} {is : Bool} {x : Int32} (e1 : ∀ s, s < 4 → f s = f' s) (e2 : ∀ s, s < 4 → m s = m' s) (b : ∀ s, s < 4 → m' s ≤ 60) (e3 : ∀ s, s < 4 → ∀ k, k < 60 → N s k = N' s k) : sgv f m N C P is x = sgv f' m' N' C P is x := by
  by_cases q : 0 ≤ x.toInt ∧ x.toInt ≤ 3
  · obtain ⟨s, hs, rfl⟩ : ∃ s, s < 4 ∧ x = nJ s := ⟨x.toInt.toNat, by omega, nJ_of q.1⟩
    have := b s hs
    rw [sgv_in hs, sgv_in hs, e1 s hs, e2 s hs, allB_cg (p := okB C P (N s)) (q := okB C P (N' s)) (fun k hk => by unfold okB; rw [e3 s hs _ (by first | decide | with_reducible assumption | omega), e3 s hs _ (by first | decide | with_reducible assumption | omega)])]
  · rw [sgv_no q, sgv_no q]
noncomputable def mC (h : pm_H) (s : Nat) : Nat := gn h (54 + 2 * s) 3
noncomputable def mR (h : pm_H) (s : Nat) : Nat := gn h 79 s
section SGH
variable {h : pm_H} {d : Nat} {x : Int32}
theorem mC_b (hh : HH h) {s : Nat} (hs : s < 4) : mC h s ≤ 60 := gn_hi hh (isS_at s hs).2.2.2.2.2 (by decide)
theorem mR_b (hh : HH h) {s : Nat} (hs : s < 4) : mR h s ≤ 60 := gn_hi hh (bd_u rfl (by first | decide | with_reducible assumption | omega)) (by decide)
theorem lt_zero (y : Int64) : lg_cmp y 0 < 0 ↔ y.toInt < 0 := by
  rw [lg_cmp_lt, Int64.lt_iff_toInt_lt]
  have z0 : (0 : Int64).toInt = 0 := rfl
  rw [z0]
theorem ge_nJ {c : Nat} (y : Int64) (hc : c < 1000) : 0 ≤ lg_cmp y (nJ c).toInt64 ↔ (c : Int) ≤ y.toInt := by
  rw [lg_cmp_ge, Int64.le_iff_toInt_le, i2l_nJ (by first | decide | with_reducible assumption | omega)]
theorem gt_nJ {c : Nat} (y : Int64) (hc : c < 1000) : 0 < lg_cmp y (nJ c).toInt64 ↔ (c : Int) < y.toInt := by
  rw [lg_cmp_gt, Int64.lt_iff_toInt_lt, i2l_nJ (by first | decide | with_reducible assumption | omega)]
theorem eq_nJ {c : Nat} (y : Int64) (hc : c < 1000) : lg_cmp (nJ c).toInt64 y = 0 ↔ (c : Int) = y.toInt := by
  rw [lg_cmp_eq, ← Int64.toInt_inj, i2l_nJ (by first | decide | with_reducible assumption | omega)]
noncomputable def b1N (b : Bool) : Nat := bif b then 1 else 0
theorem sgX_loop {s : Nat} (hh : HH h) (hs : s < 4) (ev : mC h s % 2 = 0) (j : Nat) : ∀ {k : Nat} (lv : List (Nat × Value)), mC h s ≤ 2 * k + j → k ≤ mC h s / 2 → (∀ q, q < k → okB (gn h 15 4) (gn h 15 0) (clN h s) q = true) → pm_get lv 0 = some (.ref 0) → pm_get lv 3 = some (.ref (54 + 2 * s)) → pm_get lv 4 = some (.int (nJ (2 * k))) → Ends (pm_at tX8_sightRefusal) (pm_Rt pm_P d) (46, lv, [], h, 0, 0) (fun h' r => h' = h ∧ r = some (.int (if allB (okB (gn h 15 4) (gn h 15 0) (clN h s)) (mC h s / 2) = true then 0 else -2))) := by
  obtain ⟨S1, S2, S3, S4, S5, S6⟩ := isS_at s hs
  have hn := mC_b hh hs
  obtain ⟨a1, a2, a3, a4, -⟩ := g15 hh
  have g3 : gi h (54 + 2 * s) 3 = nJ (mC h s) := gi_gn hh S6 (by decide)
  have yes : ∀ {k : Nat} (lv : List (Nat × Value)), k = mC h s / 2 → (∀ q, q < k → okB (gn h 15 4) (gn h 15 0) (clN h s) q = true) → Ends (pm_at tX8_sightRefusal) (pm_Rt pm_P d) (156, lv, [], h, 0, 0) (fun h' r => h' = h ∧ r = some (.int (if allB (okB (gn h 15 4) (gn h 15 0) (clN h s)) (mC h s / 2) = true then 0 else -2))) := by
    intro k lv hk hi
    refine E_ci 0 rfl ci0 ?_
    exact E_rti rfl ⟨rfl, by rw [if_pos (by rw [← hk]; exact allB_of hi)]; rfl⟩
  induction j with
  | zero =>
    intro k lv hj hk hi L0 L3 L4
    refine E_il rfl L4 ?_
    refine E_ci 1 rfl ci1 ?_
    refine E_bin rfl (nJ_add _ _) ?_
    refine E_al rfl L3 ?_
    refine E_ogf rfl hh S1 S6 g3 ?_
    refine E_icT rfl (decide_eq_true ((nJ_le (by first | decide | with_reducible assumption | omega) (by first | decide | with_reducible assumption | omega)).mpr (by first | decide | with_reducible assumption | omega))) ?_
    exact yes lv (by first | decide | with_reducible assumption | omega) hi
  | succ j ih =>
    intro k lv hj hk hi L0 L3 L4
    refine E_il rfl L4 ?_
    refine E_ci 1 rfl ci1 ?_
    refine E_bin rfl (nJ_add _ _) ?_
    refine E_al rfl L3 ?_
    refine E_ogf rfl hh S1 S6 g3 ?_
    by_cases b0 : mC h s ≤ 2 * k + 1
    · refine E_icT rfl (decide_eq_true ((nJ_le (by first | decide | with_reducible assumption | omega) (by first | decide | with_reducible assumption | omega)).mpr b0)) ?_
      exact yes lv (by first | decide | with_reducible assumption | omega) hi
    refine E_icF rfl (decide_eq_false (fun q => b0 ((nJ_le (by first | decide | with_reducible assumption | omega) (by first | decide | with_reducible assumption | omega)).mp q))) ?_
    have k60 : 2 * k + 1 < 60 := by omega
    -- both told, k's pair is good or not
    have c135 : ∀ (lv : List (Nat × Value)) (b1 b2 : Bool), okB (gn h 15 4) (gn h 15 0) (clN h s) k = (b1 && b2) → pm_get lv 0 = some (.ref 0) → pm_get lv 3 = some (.ref (54 + 2 * s)) → pm_get lv 4 = some (.int (nJ (2 * k))) → pm_get lv 5 = some (.int (nJ (b1N b1))) → Ends (pm_at tX8_sightRefusal) (pm_Rt pm_P d) (135, lv, [.int (nJ (b1N b2))], h, 0, 0) (fun h' r => h' = h ∧ r = some (.int (if allB (okB (gn h 15 4) (gn h 15 0) (clN h s)) (mC h s / 2) = true then 0 else -2))) := by
      intro lv b1 b2 e M0 M3 M4 M5
      have no : ∀ lv : List (Nat × Value), (b1 && b2) = false → Ends (pm_at tX8_sightRefusal) (pm_Rt pm_P d) (147, lv, [], h, 0, 0) (fun h' r => h' = h ∧ r = some (.int (if allB (okB (gn h 15 4) (gn h 15 0) (clN h s)) (mC h s / 2) = true then 0 else -2))) := by
        intro lv q
        refine E_c rfl ?_
        exact E_rti rfl ⟨rfl, by rw [if_neg (allB_no (k := k) (by first | decide | with_reducible assumption | omega) (e.trans q))]⟩
      refine E_is rfl (fun lv1 M6 kp => ?_)
      refine E_il rfl (kp 5 _ (nbz rfl) rfl M5) ?_
      cases b1 with
      | false =>
        refine E_ifT rfl (by decide) ?_
        exact no _ rfl
      | true =>
        refine E_ifF rfl (by decide) ?_
        refine E_il rfl M6 ?_
        cases b2 with
        | false =>
          refine E_ifF rfl (by decide) ?_
          exact no _ rfl
        | true =>
          refine E_ifT rfl (by decide) ?_
          refine E_inc rfl (kp 4 _ (nbz rfl) rfl M4) (show nJ (2 * k) + 2 = nJ (2 * (k + 1)) from nJ_add (2 * k) 2) (fun lv2 N4 kp2 => ?_)
          refine E_goto rfl ?_
          refine ih lv2 (by first | decide | with_reducible assumption | omega) (by first | decide | with_reducible assumption | omega) (fun q hq => ?_) (kp2 0 _ (nbz rfl) rfl (kp 0 _ (nbz rfl) rfl M0)) (kp2 3 _ (nbz rfl) rfl (kp 3 _ (nbz rfl) rfl M3)) N4
          by_cases e2 : q = k
          · rw [e2]; exact e
          · exact hi q (by first | decide | with_reducible assumption | omega)
    have c93 : ∀ (lv : List (Nat × Value)) (b1 : Bool), b1 = decide (0 ≤ (clN h s (2 * k)).toInt ∧ (clN h s (2 * k)).toInt < (gn h 15 4 : Int)) → pm_get lv 0 = some (.ref 0) → pm_get lv 3 = some (.ref (54 + 2 * s)) → pm_get lv 4 = some (.int (nJ (2 * k))) → Ends (pm_at tX8_sightRefusal) (pm_Rt pm_P d) (93, lv, [.int (nJ (b1N b1))], h, 0, 0) (fun h' r => h' = h ∧ r = some (.int (if allB (okB (gn h 15 4) (gn h 15 0) (clN h s)) (mC h s / 2) = true then 0 else -2))) := by
      intro lv b1 e L0 L3 L4
      have fin : ∀ b2 : Bool, b2 = decide (0 ≤ (clN h s (2 * k + 1)).toInt ∧ (clN h s (2 * k + 1)).toInt ≤ (gn h 15 0 : Int)) → okB (gn h 15 4) (gn h 15 0) (clN h s) k = (b1 && b2) := fun b2 e2 => by
        rw [e, e2]
        unfold okB
        rw [Bool.decide_and]
      refine E_is rfl (fun lv1 M5 kp => ?_)
      have M0 := kp 0 _ (nbz rfl) rfl L0
      have M3 := kp 3 _ (nbz rfl) rfl L3
      have M4 := kp 4 _ (nbz rfl) rfl L4
      refine E_al rfl M3 ?_
      refine E_ogr rfl hh S1 S2 ?_
      refine E_il rfl M4 ?_
      refine E_ci 1 rfl ci1 ?_
      refine E_bin rfl (nJ_add _ _) ?_
      refine E_lal rfl hh S3 (by first | decide | with_reducible assumption | omega) (by decide) ?_
      refine E_c rfl ?_
      refine E_lcmp rfl ?_
      by_cases q1 : (clN h s (2 * k + 1)).toInt < 0
      · refine E_ifT rfl (decide_eq_true ((lt_zero _).mpr q1)) ?_
        refine E_ci 0 rfl ci0 ?_
        exact c135 lv1 b1 false (fin false (decide_eq_false (fun z => by omega)).symm) M0 M3 M4 M5
      · refine E_ifF rfl (decide_eq_false (fun z => q1 ((lt_zero _).mp z))) ?_
        refine E_al rfl M3 ?_
        refine E_ogr rfl hh S1 S2 ?_
        refine E_il rfl M4 ?_
        refine E_ci 1 rfl ci1 ?_
        refine E_bin rfl (nJ_add _ _) ?_
        refine E_lal rfl hh S3 (by first | decide | with_reducible assumption | omega) (by decide) ?_
        refine E_al rfl M0 ?_
        refine E_ogr rfl hh rfl (q := 15) rfl ?_
        refine E_ogf rfl hh rfl (q := (0, 8)) rfl a1 ?_
        refine E_i2l rfl ?_
        refine E_lcmp rfl ?_
        by_cases q2 : (gn h 15 0 : Int) < (clN h s (2 * k + 1)).toInt
        · refine E_ifT rfl (decide_eq_true ((gt_nJ _ (by first | decide | with_reducible assumption | omega)).mpr q2)) ?_
          refine E_ci 0 rfl ci0 ?_
          exact c135 lv1 b1 false (fin false (decide_eq_false (fun z => by omega)).symm) M0 M3 M4 M5
        · refine E_ifF rfl (decide_eq_false (fun z => q2 ((gt_nJ _ (by first | decide | with_reducible assumption | omega)).mp z))) ?_
          refine E_ci 1 rfl ci1 ?_
          refine E_goto rfl ?_
          exact c135 lv1 b1 true (fin true (decide_eq_true (by first | decide | with_reducible assumption | omega)).symm) M0 M3 M4 M5
    refine E_al rfl L3 ?_
    refine E_ogr rfl hh S1 S2 ?_
    refine E_il rfl L4 ?_
    refine E_lal rfl hh S3 (by first | decide | with_reducible assumption | omega) (by decide) ?_
    refine E_c rfl ?_
    refine E_lcmp rfl ?_
    by_cases q1 : (clN h s (2 * k)).toInt < 0
    · refine E_ifT rfl (decide_eq_true ((lt_zero _).mpr q1)) ?_
      refine E_ci 0 rfl ci0 ?_
      exact c93 lv false (decide_eq_false (fun z => by omega)).symm L0 L3 L4
    · refine E_ifF rfl (decide_eq_false (fun z => q1 ((lt_zero _).mp z))) ?_
      refine E_al rfl L3 ?_
      refine E_ogr rfl hh S1 S2 ?_
      refine E_il rfl L4 ?_
      refine E_lal rfl hh S3 (by first | decide | with_reducible assumption | omega) (by decide) ?_
      refine E_al rfl L0 ?_
      refine E_ogr rfl hh rfl (q := 15) rfl ?_
      refine E_ogf rfl hh rfl (q := (0, 8)) rfl a3 ?_
      refine E_i2l rfl ?_
      refine E_lcmp rfl ?_
      by_cases q2 : (gn h 15 4 : Int) ≤ (clN h s (2 * k)).toInt
      · refine E_ifT rfl (decide_eq_true ((ge_nJ _ (by first | decide | with_reducible assumption | omega)).mpr q2)) ?_
        refine E_ci 0 rfl ci0 ?_
        exact c93 lv false (decide_eq_false (fun z => by omega)).symm L0 L3 L4
      · refine E_ifF rfl (decide_eq_false (fun z => q2 ((ge_nJ _ (by first | decide | with_reducible assumption | omega)).mp z))) ?_
        refine E_ci 1 rfl ci1 ?_
        refine E_goto rfl ?_
        exact c93 lv true (decide_eq_true (by first | decide | with_reducible assumption | omega)).symm L0 L3 L4
theorem sp_sightX8 {is : Bool} (hh : HH h) : Sp (d + 2) 180 h [.ref 0, .int x, .int (zb (is = true))] (fun h' r => h' = h ∧ r = some (.int (sgv (cf h) (mC h) (clN h) (gn h 15 4) (gn h 15 0) is x))) := by
  refine Sp_of aiX8_sightRefusal rfl rfl rfl ?_
  have L0 : pm_get (lv_args 0 [.ref 0, .int x, .int (zb (is = true))]) 0 = some (.ref 0) := rfl
  have L1 : pm_get (lv_args 0 [.ref 0, .int x, .int (zb (is = true))]) 1 = some (.int x) := rfl
  have L2 : pm_get (lv_args 0 [.ref 0, .int x, .int (zb (is = true))]) 2 = some (.int (zb (is = true))) := rfl
  generalize lv_args 0 [.ref 0, .int x, .int (zb (is = true))] = lv at L0 L1 L2 ⊢
  refine E_il rfl L1 ?_
  refine E_call rfl (sp_isSlot8 (d := d)) (chkS rfl (by show 0 ≤ 8; decide)) (fun h1 r1 => ?_)
  rintro ⟨e1, rv⟩
  rw [e1]
  rcases rv with ⟨hx0, hx3, hr⟩ | ⟨nx, hr⟩
  · rw [hr]
    refine E_ifF rfl (by decide) ?_
    obtain ⟨s, hs, rfl⟩ : ∃ s, s < 4 ∧ x = nJ s := ⟨x.toInt.toNat, by omega, nJ_of hx0⟩
    rw [sgv_in hs]
    refine E_il rfl L2 ?_
    by_cases q0 : is = true
    · refine E_ifT rfl (by rw [zb_T q0]; rfl) ?_
      rw [if_pos q0]
      obtain ⟨S1, S2, S3, S4, S5, S6⟩ := isS_at s hs
      have hn := mC_b hh hs
      refine E_al rfl L0 ?_
      refine E_ogr rfl hh rfl (q := 53) rfl ?_
      refine E_il rfl L1 ?_
      refine E_aal rfl hh rfl (slot_at s hs) (by decide) ?_
      refine E_asr rfl (fun lv1 M3 kp => ?_)
      have M0 := kp 0 _ (nbz rfl) rfl L0
      refine E_al rfl M3 ?_
      refine E_ogf rfl hh S1 S4 rfl ?_
      by_cases b1 : gi h (54 + 2 * s) 1 = 0
      · refine E_ifF rfl (decide_eq_false (fun q => q b1)) ?_
        rw [if_pos (show cf h s = 0 from b1)]
        refine E_c rfl ?_
        exact E_rti rfl ⟨rfl, rfl⟩
      · refine E_ifT rfl (decide_eq_true b1) ?_
        rw [if_neg (show ¬ cf h s = 0 from b1)]
        refine E_al rfl M3 ?_
        refine E_ogf rfl hh S1 S6 (gi_gn hh S6 (by decide)) ?_
        refine E_c rfl ?_
        refine E_dv rfl (by decide) ?_
        have pt := par_tab ⟨mC h s, by omega⟩
        dsimp only at pt
        by_cases b2 : mC h s % 2 = 0
        · refine E_ifT rfl (decide_eq_true (pt.mpr b2)) ?_
          rw [if_pos b2]
          refine E_ci 0 rfl ci0 ?_
          refine E_is rfl (fun lv2 N4 kp2 => ?_)
          exact sgX_loop hh hs b2 60 (k := 0) lv2 (by first | decide | with_reducible assumption | omega) (Nat.zero_le _) (fun m hm => absurd hm (Nat.not_lt_zero m)) (kp2 0 _ (nbz rfl) rfl M0) (kp2 3 _ (nbz rfl) rfl M3) N4
        · refine E_ifF rfl (decide_eq_false (fun q => b2 (pt.mp q))) ?_
          rw [if_neg b2]
          refine E_c rfl ?_
          exact E_rti rfl ⟨rfl, rfl⟩
    · refine E_ifF rfl (by rw [zb_F q0]; rfl) ?_
      rw [if_neg q0]
      refine E_c rfl ?_
      exact E_rti rfl ⟨rfl, rfl⟩
  · rw [hr, sgv_no nx]
    refine E_ifT rfl (by decide) ?_
    refine E_c rfl ?_
    exact E_rti rfl ⟨rfl, rfl⟩
/-! the reference -/
theorem wnX_loop {s : Nat} (hh : HH h) (hs : s < 4) (ev : mR h s % 2 = 0) (j : Nat) : ∀ {k : Nat} (lv : List (Nat × Value)), mR h s ≤ 2 * k + j → k ≤ mR h s / 2 → (∀ q, q < k → okB (gn h 84 3) (gn h 84 0) (rlN h s) q = true) → pm_get lv 0 = some (.ref 77) → pm_get lv 1 = some (.int (nJ s)) → pm_get lv 3 = some (.int (nJ (2 * k))) → Ends (pm_at tX9_whyNot) (pm_Rt pm_P (d + 2)) (50, lv, [], h, 0, 0) (fun h' r => h' = h ∧ r = some (.int (if allB (okB (gn h 84 3) (gn h 84 0) (rlN h s)) (mR h s / 2) = true then 0 else -2))) := by
  have b79 : bd 79 s = some (0, 60) := bd_u rfl (by first | decide | with_reducible assumption | omega)
  have hn := mR_b hh hs
  have g79 : gi h 79 s = nJ (mR h s) := gi_gn hh b79 (by decide)
  have n8 : gn h 84 3 ≤ 8 := gn_hi hh rfl (by decide)
  have yes : ∀ {k : Nat} (lv : List (Nat × Value)), k = mR h s / 2 → (∀ q, q < k → okB (gn h 84 3) (gn h 84 0) (rlN h s) q = true) → Ends (pm_at tX9_whyNot) (pm_Rt pm_P (d + 2)) (112, lv, [], h, 0, 0) (fun h' r => h' = h ∧ r = some (.int (if allB (okB (gn h 84 3) (gn h 84 0) (rlN h s)) (mR h s / 2) = true then 0 else -2))) := by
    intro k lv hk hi
    refine E_ci 0 rfl ci0 ?_
    exact E_rti rfl ⟨rfl, by rw [if_pos (by rw [← hk]; exact allB_of hi)]; rfl⟩
  induction j with
  | zero =>
    intro k lv hj hk hi L0 L1 L3
    refine E_il rfl L3 ?_
    refine E_al rfl L0 ?_
    refine E_gr rfl hh (q := 79) rfl ?_
    refine E_il rfl L1 ?_
    refine E_ial rfl hh rfl (by first | decide | with_reducible assumption | omega) (by decide) g79 ?_
    refine E_icT rfl (decide_eq_true ((nJ_le (by first | decide | with_reducible assumption | omega) (by first | decide | with_reducible assumption | omega)).mpr (by first | decide | with_reducible assumption | omega))) ?_
    exact yes lv (by first | decide | with_reducible assumption | omega) hi
  | succ j ih =>
    intro k lv hj hk hi L0 L1 L3
    refine E_il rfl L3 ?_
    refine E_al rfl L0 ?_
    refine E_gr rfl hh (q := 79) rfl ?_
    refine E_il rfl L1 ?_
    refine E_ial rfl hh rfl (by first | decide | with_reducible assumption | omega) (by decide) g79 ?_
    by_cases b0 : mR h s ≤ 2 * k
    · refine E_icT rfl (decide_eq_true ((nJ_le (by first | decide | with_reducible assumption | omega) (by first | decide | with_reducible assumption | omega)).mpr b0)) ?_
      exact yes lv (by first | decide | with_reducible assumption | omega) hi
    refine E_icF rfl (decide_eq_false (fun q => b0 ((nJ_le (by first | decide | with_reducible assumption | omega) (by first | decide | with_reducible assumption | omega)).mp q))) ?_
    have no : ∀ (lv : List (Nat × Value)), okB (gn h 84 3) (gn h 84 0) (rlN h s) k = false → Ends (pm_at tX9_whyNot) (pm_Rt pm_P (d + 2)) (103, lv, [], h, 0, 0) (fun h' r => h' = h ∧ r = some (.int (if allB (okB (gn h 84 3) (gn h 84 0) (rlN h s)) (mR h s / 2) = true then 0 else -2))) := by
      intro lv q
      refine E_c rfl ?_
      exact E_rti rfl ⟨rfl, by rw [if_neg (allB_no (k := k) (by first | decide | with_reducible assumption | omega) q)]⟩
    refine E_ci 60 rfl ci60 ?_
    refine E_il rfl L1 ?_
    refine E_bin rfl (nJ_mulE _ _) ?_
    refine E_il rfl L3 ?_
    refine E_bin rfl (nJ_add _ _) ?_
    refine E_is rfl (fun lv1 M4 kp => ?_)
    have M0 := kp 0 _ (nbz rfl) rfl L0
    have M1 := kp 1 _ (nbz rfl) rfl L1
    have M3 := kp 3 _ (nbz rfl) rfl L3
    refine E_al rfl M0 ?_
    refine E_al rfl M0 ?_
    refine E_gr rfl hh (q := 80) rfl ?_
    refine E_il rfl M4 ?_
    refine E_lal (len := 240) rfl hh rfl (by first | decide | with_reducible assumption | omega) (by decide) ?_
    refine E_call rfl (sp_isCarL (d := d) hh) (chk77 hh rfl rfl (by show 0 ≤ 8; decide)) (fun h1 r1 => ?_)
    rintro ⟨e1, f1⟩
    rw [e1, f1]
    by_cases b1 : 0 ≤ (gl h 80 (60 * s + 2 * k)).toInt ∧ (gl h 80 (60 * s + 2 * k)).toInt ≤ (gn h 84 3 : Int) - 1
    · refine E_ifF rfl (by rw [zb_T b1]; rfl) ?_
      refine E_al rfl M0 ?_
      refine E_gr rfl hh (q := 80) rfl ?_
      refine E_il rfl M4 ?_
      refine E_ci 1 rfl ci1 ?_
      refine E_bin rfl (nJ_add _ _) ?_
      refine E_lal (len := 240) rfl hh rfl (by first | decide | with_reducible assumption | omega) (by decide) ?_
      refine E_c rfl ?_
      refine E_al rfl M0 ?_
      refine E_call rfl (Sp_le (by first | exact Nat.add_le_add_left (Nat.le_of_ble_eq_true rfl) _ | exact Nat.le_of_ble_eq_true rfl | omega) (sp_places (d := d) hh)) (chk77 hh rfl rfl (by show 4 ≤ 8; decide)) (fun h2 r2 => ?_)
      rintro ⟨e2, f2, c2⟩
      rw [e2, f2]
      refine E_i2l rfl ?_
      refine E_call rfl (Sp_le (by first | exact Nat.add_le_add_left (Nat.le_of_ble_eq_true rfl) _ | exact Nat.le_of_ble_eq_true rfl | omega) (sp_in (d := d) rfl (b := 0) rfl (c := (gn h 84 0 : Int)) (i2l_nJ (by first | decide | with_reducible assumption | omega)))) (chkS rfl (by show 0 ≤ 8; decide)) (fun h3 r3 => ?_)
      rintro ⟨e3, f3⟩
      rw [e3, f3]
      by_cases b2 : 0 ≤ (gl h 80 (60 * s + 2 * k + 1)).toInt ∧ (gl h 80 (60 * s + 2 * k + 1)).toInt ≤ (gn h 84 0 : Int)
      · refine E_ifT rfl (by rw [zb_T b2]; rfl) ?_
        refine E_inc rfl M3 (show nJ (2 * k) + 2 = nJ (2 * (k + 1)) from nJ_add (2 * k) 2) (fun lv2 N3 kp2 => ?_)
        refine E_goto rfl ?_
        refine ih lv2 (by first | decide | with_reducible assumption | omega) (by first | decide | with_reducible assumption | omega) (fun m hm => ?_) (kp2 0 _ (nbz rfl) rfl M0) (kp2 1 _ (nbz rfl) rfl M1) N3
        by_cases e : m = k
        · rw [e]; exact decide_eq_true ⟨⟨b1.1, by have := b1.2; show (gl h 80 (60 * s + 2 * k)).toInt < _; omega⟩, b2⟩
        · exact hi m (by first | decide | with_reducible assumption | omega)
      · refine E_ifF rfl (by rw [zb_F b2]; rfl) ?_
        exact no lv1 (decide_eq_false (fun q => b2 q.2))
    · refine E_ifT rfl (by rw [zb_F b1]; rfl) ?_
      exact no lv1 (decide_eq_false (fun q => b1 ⟨q.1.1, by have : (gl h 80 (60 * s + 2 * k)).toInt < _ := q.1.2; omega⟩))
theorem sp_whyNotN {is : Bool} (hh : HH h) : Sp (d + 3) 372 h [.ref 77, .int x, .int (zb (is = true))] (fun h' r => h' = h ∧ r = some (.int (sgv (rf h) (mR h) (rlN h) (gn h 84 3) (gn h 84 0) (decide (0 < (gi h 83 0).toInt) && is) x))) := by
  refine Sp_of aiX9_whyNot rfl rfl rfl ?_
  have L0 : pm_get (lv_args 0 [.ref 77, .int x, .int (zb (is = true))]) 0 = some (.ref 77) := rfl
  have L1 : pm_get (lv_args 0 [.ref 77, .int x, .int (zb (is = true))]) 1 = some (.int x) := rfl
  have L2 : pm_get (lv_args 0 [.ref 77, .int x, .int (zb (is = true))]) 2 = some (.int (zb (is = true))) := rfl
  generalize lv_args 0 [.ref 77, .int x, .int (zb (is = true))] = lv at L0 L1 L2 ⊢
  refine E_il rfl L1 ?_
  refine E_call rfl (sp_isSlot (d := d)) (chkS rfl (by show 0 ≤ 8; decide)) (fun h1 r1 => ?_)
  rintro ⟨e1, f1⟩
  rw [e1, f1]
  by_cases b1 : 0 ≤ x.toInt ∧ x.toInt ≤ 3
  · refine E_ifF rfl (by rw [zb_T b1]; rfl) ?_
    obtain ⟨s, hs, rfl⟩ : ∃ s, s < 4 ∧ x = nJ s := ⟨x.toInt.toNat, by omega, nJ_of b1.1⟩
    rw [sgv_in hs]
    refine E_al rfl L0 ?_
    refine E_call rfl (Sp_le (by first | exact Nat.add_le_add_left (Nat.le_of_ble_eq_true rfl) _ | exact Nat.le_of_ble_eq_true rfl | omega) (sp_isStreet (d := d) hh)) (chk77 hh rfl rfl (by show 0 ≤ 8; decide)) (fun h2 r2 => ?_)
    rintro ⟨e2, f2⟩
    rw [e2, f2]
    by_cases b2 : 0 < (gi h 83 0).toInt
    · refine E_ifF rfl (by rw [zb_T b2]; rfl) ?_
      rw [decide_eq_true b2, Bool.true_and]
      refine E_il rfl L2 ?_
      by_cases q0 : is = true
      · refine E_ifT rfl (by rw [zb_T q0]; rfl) ?_
        rw [if_pos q0]
        refine E_al rfl L0 ?_
        refine E_gr rfl hh (q := 78) rfl ?_
        refine E_il rfl L1 ?_
        refine E_ial rfl hh rfl (by first | decide | with_reducible assumption | omega) (by decide) rfl ?_
        refine E_c rfl ?_
        by_cases b3 : gi h 78 s = -1
        · refine E_icF rfl (decide_eq_false (fun q => q b3)) ?_
          rw [if_pos (rf_0 b3)]
          refine E_c rfl ?_
          exact E_rti rfl ⟨rfl, rfl⟩
        · refine E_icT rfl (decide_eq_true b3) ?_
          rw [if_neg (rf_1 b3)]
          have b79 : bd 79 s = some (0, 60) := bd_u rfl (by first | decide | with_reducible assumption | omega)
          have hn := mR_b hh hs
          refine E_al rfl L0 ?_
          refine E_gr rfl hh (q := 79) rfl ?_
          refine E_il rfl L1 ?_
          refine E_ial rfl hh rfl (by first | decide | with_reducible assumption | omega) (by decide) (show gi h 79 s = nJ (mR h s) from gi_gn hh b79 (by decide)) ?_
          refine E_c rfl ?_
          refine E_dv rfl (by decide) ?_
          have pt := par_tab ⟨mR h s, by omega⟩
          dsimp only at pt
          by_cases b4 : mR h s % 2 = 0
          · refine E_ifT rfl (decide_eq_true (pt.mpr b4)) ?_
            rw [if_pos b4]
            refine E_ci 0 rfl ci0 ?_
            refine E_is rfl (fun lv2 N3 kp2 => ?_)
            exact wnX_loop hh hs b4 60 (k := 0) lv2 (by first | decide | with_reducible assumption | omega) (Nat.zero_le _) (fun m hm => absurd hm (Nat.not_lt_zero m)) (kp2 0 _ (nbz rfl) rfl L0) (kp2 1 _ (nbz rfl) rfl L1) N3
          · refine E_ifF rfl (decide_eq_false (fun q => b4 (pt.mp q))) ?_
            rw [if_neg b4]
            refine E_c rfl ?_
            exact E_rti rfl ⟨rfl, rfl⟩
      · refine E_ifF rfl (by rw [zb_F q0]; rfl) ?_
        rw [if_neg q0]
        refine E_c rfl ?_
        exact E_rti rfl ⟨rfl, rfl⟩
    · refine E_ifT rfl (by rw [zb_F b2]; rfl) ?_
      rw [decide_eq_false b2, Bool.false_and, if_neg (by decide)]
      refine E_c rfl ?_
      exact E_rti rfl ⟨rfl, rfl⟩
  · rw [sgv_no b1]
    refine E_ifT rfl (by rw [zb_F b1]; rfl) ?_
    refine E_c rfl ?_
    exact E_rti rfl ⟨rfl, rfl⟩
/-! as it tells -/
noncomputable def asB (sp : Nat → Nat) (N : Nat → Int64) (k : Nat) : Bool := decide ((sp (N (2 * k)).toInt.toNat : Int) = (N (2 * k + 1)).toInt)
theorem okB_1 {C P : Nat} {N : Nat → Int64} {k : Nat} (q : okB C P N k = true) : 0 ≤ (N (2 * k)).toInt ∧ (N (2 * k)).toInt < (C : Int) ∧ 0 ≤ (N (2 * k + 1)).toInt ∧ (N (2 * k + 1)).toInt ≤ (P : Int) := by
  have := of_decide_eq_true q
  exact ⟨this.1.1, this.1.2, this.2⟩
theorem l2i_X {y : Int64} (h1 : 0 ≤ y.toInt) (h2 : y.toInt < 1000) : y.toInt32 = nJ y.toInt.toNat := by
  apply Int32.toInt_inj.mp
  rw [Int64.toInt_toInt32, nJ_toInt (by first | decide | with_reducible assumption | omega), Int.bmod_eq_of_le (by first | decide | with_reducible assumption | omega) (by first | decide | with_reducible assumption | omega)]
  omega
theorem asX_loop {s C P : Nat} {sp : Nat → Nat} (hh : HH h) (hs : s < 4) (C8 : C ≤ 8) (ev : mC h s % 2 = 0) (ok : allB (okB C P (clN h s)) (mC h s / 2) = true) (S : ∀ c, c < C → gi h 63 c = nJ (sp c) ∧ sp c < 1000) (j : Nat) : ∀ {k : Nat} (lv : List (Nat × Value)), mC h s ≤ 2 * k + j → k ≤ mC h s / 2 → (∀ q, q < k → asB sp (clN h s) q = true) → pm_get lv 0 = some (.ref 0) → pm_get lv 1 = some (.ref (54 + 2 * s)) → pm_get lv 2 = some (.int (nJ (2 * k))) → Ends (pm_at tX8_isAsSeen) (pm_Rt pm_P d) (2, lv, [], h, 0, 0) (fun h' r => h' = h ∧ r = some (.int (nJ (b1N (allB (asB sp (clN h s)) (mC h s / 2)))))) := by
  obtain ⟨S1, S2, S3, S4, S5, S6⟩ := isS_at s hs
  have hn := mC_b hh hs
  have g3 : gi h (54 + 2 * s) 3 = nJ (mC h s) := gi_gn hh S6 (by decide)
  have yes : ∀ {k : Nat} (lv : List (Nat × Value)), k = mC h s / 2 → (∀ q, q < k → asB sp (clN h s) q = true) → Ends (pm_at tX8_isAsSeen) (pm_Rt pm_P d) (48, lv, [], h, 0, 0) (fun h' r => h' = h ∧ r = some (.int (nJ (b1N (allB (asB sp (clN h s)) (mC h s / 2)))))) := by
    intro k lv hk hi
    refine E_ci 1 rfl ci1 ?_
    exact E_rtz rfl (.inr rfl) ⟨rfl, by rw [← hk, allB_of hi]; rfl⟩
  induction j with
  | zero =>
    intro k lv hj hk hi L0 L1 L2
    refine E_il rfl L2 ?_
    refine E_ci 1 rfl ci1 ?_
    refine E_bin rfl (nJ_add _ _) ?_
    refine E_al rfl L1 ?_
    refine E_ogf rfl hh S1 S6 g3 ?_
    refine E_icT rfl (decide_eq_true ((nJ_le (by first | decide | with_reducible assumption | omega) (by first | decide | with_reducible assumption | omega)).mpr (by first | decide | with_reducible assumption | omega))) ?_
    exact yes lv (by first | decide | with_reducible assumption | omega) hi
  | succ j ih =>
    intro k lv hj hk hi L0 L1 L2
    refine E_il rfl L2 ?_
    refine E_ci 1 rfl ci1 ?_
    refine E_bin rfl (nJ_add _ _) ?_
    refine E_al rfl L1 ?_
    refine E_ogf rfl hh S1 S6 g3 ?_
    by_cases b0 : mC h s ≤ 2 * k + 1
    · refine E_icT rfl (decide_eq_true ((nJ_le (by first | decide | with_reducible assumption | omega) (by first | decide | with_reducible assumption | omega)).mpr b0)) ?_
      exact yes lv (by first | decide | with_reducible assumption | omega) hi
    refine E_icF rfl (decide_eq_false (fun q => b0 ((nJ_le (by first | decide | with_reducible assumption | omega) (by first | decide | with_reducible assumption | omega)).mp q))) ?_
    obtain ⟨o1, o2, o3, o4⟩ := okB_1 (allB_at ok k (by first | decide | with_reducible assumption | omega))
    obtain ⟨sp1, sp2⟩ := S (clN h s (2 * k)).toInt.toNat (by first | decide | with_reducible assumption | omega)
    refine E_al rfl L0 ?_
    refine E_ogr (q := 62) rfl hh rfl rfl ?_
    refine E_ogr (q := 63) rfl hh rfl rfl ?_
    refine E_al rfl L1 ?_
    refine E_ogr rfl hh S1 S2 ?_
    refine E_il rfl L2 ?_
    refine E_lal rfl hh S3 (by first | decide | with_reducible assumption | omega) (by decide) ?_
    refine E_l2i rfl (l2i_X (y := clN h s (2 * k)) o1 (by first | decide | with_reducible assumption | omega)) ?_
    refine E_ial rfl hh rfl (by show (clN h s (2 * k)).toInt.toNat < 8; omega) (by decide) sp1 ?_
    refine E_i2l rfl ?_
    refine E_al rfl L1 ?_
    refine E_ogr rfl hh S1 S2 ?_
    refine E_il rfl L2 ?_
    refine E_ci 1 rfl ci1 ?_
    refine E_bin rfl (nJ_add _ _) ?_
    refine E_lal rfl hh S3 (by first | decide | with_reducible assumption | omega) (by decide) ?_
    refine E_lcmp rfl ?_
    by_cases b1 : (sp (clN h s (2 * k)).toInt.toNat : Int) = (clN h s (2 * k + 1)).toInt
    · refine E_ifT rfl (decide_eq_true ((eq_nJ _ sp2).mpr b1)) ?_
      refine E_inc rfl L2 (show nJ (2 * k) + 2 = nJ (2 * (k + 1)) from nJ_add (2 * k) 2) (fun lv2 N2 kp2 => ?_)
      refine E_goto rfl ?_
      refine ih lv2 (by first | decide | with_reducible assumption | omega) (by first | decide | with_reducible assumption | omega) (fun q hq => ?_) (kp2 0 _ (nbz rfl) rfl L0) (kp2 1 _ (nbz rfl) rfl L1) N2
      by_cases e : q = k
      · rw [e]; exact decide_eq_true b1
      · exact hi q (by first | decide | with_reducible assumption | omega)
    · refine E_ifF rfl (decide_eq_false (fun z => b1 ((eq_nJ _ sp2).mp z))) ?_
      refine E_ci 0 rfl ci0 ?_
      refine E_rtz rfl (.inl rfl) ⟨rfl, ?_⟩
      have : allB (asB sp (clN h s)) (mC h s / 2) = false := by
        cases q : allB (asB sp (clN h s)) (mC h s / 2)
        · rfl
        · exact absurd q (allB_no (k := k) (by first | decide | with_reducible assumption | omega) (decide_eq_false b1))
      rw [this]; rfl
theorem sp_isAsSeenX {s C P : Nat} {sp : Nat → Nat} (hh : HH h) (hs : s < 4) (C8 : C ≤ 8) (G : GOOD (cf h) (mC h) (clN h) C P s) (S : ∀ c, c < C → gi h 63 c = nJ (sp c) ∧ sp c < 1000) : Sp (d + 1) 124 h [.ref 0, .ref (54 + 2 * s)] (fun h' r => h' = h ∧ r = some (.int (nJ (b1N (allB (asB sp (clN h s)) (mC h s / 2)))))) := by
  refine Sp_of aiX8_isAsSeen rfl rfl rfl ?_
  have L0 : pm_get (lv_args 0 [.ref 0, .ref (54 + 2 * s)]) 0 = some (.ref 0) := rfl
  have L1 : pm_get (lv_args 0 [.ref 0, .ref (54 + 2 * s)]) 1 = some (.ref (54 + 2 * s)) := rfl
  generalize lv_args 0 [.ref 0, .ref (54 + 2 * s)] = lv at L0 L1 ⊢
  have hn := mC_b hh hs
  refine E_ci 0 rfl ci0 ?_
  refine E_is rfl (fun lv1 K2 kp => ?_)
  exact asX_loop hh hs C8 G.2.1 G.2.2 S 60 (k := 0) lv1 (by first | decide | with_reducible assumption | omega) (Nat.zero_le _) (fun q hq => absurd hq (Nat.not_lt_zero q)) (kp 0 _ (nbz rfl) rfl L0) (kp 1 _ (nbz rfl) rfl L1) K2
theorem sp_seenX {v w : Nat} (hh : HH h) (v7 : v < 8) (g : gi h 91 v = pO w) (w8 : w < 1000) : Sp (d + 1) 343 h [.ref 77, .int (nJ v)] (fun h' r => h' = h ∧ r = some (.int (nJ w))) := by
  refine Sp_of aiX9_seenPlace rfl rfl rfl ?_
  have L0 : pm_get (lv_args 0 [.ref 77, .int (nJ v)]) 0 = some (.ref 77) := rfl
  have L1 : pm_get (lv_args 0 [.ref 77, .int (nJ v)]) 1 = some (.int (nJ v)) := rfl
  generalize lv_args 0 [.ref 77, .int (nJ v)] = lv at L0 L1 ⊢
  refine E_al rfl L0 ?_
  refine E_gr rfl hh (q := 91) rfl ?_
  refine E_il rfl L1 ?_
  refine E_ial rfl hh rfl (by first | decide | with_reducible assumption | omega) (by decide) g ?_
  refine E_c rfl ?_
  by_cases b : w = 0
  · refine E_icF rfl (decide_eq_false (fun q => q ((pO_n1 w8).mpr b))) ?_
    refine E_ci 0 rfl ci0 ?_
    refine E_goto rfl ?_
    exact E_rti rfl ⟨rfl, by rw [b]⟩
  · refine E_icT rfl (decide_eq_true (fun q => b ((pO_n1 w8).mp q))) ?_
    refine E_al rfl L0 ?_
    refine E_gr rfl hh (q := 91) rfl ?_
    refine E_il rfl L1 ?_
    refine E_ial rfl hh rfl (by first | decide | with_reducible assumption | omega) (by decide) g ?_
    exact E_rti rfl ⟨rfl, by unfold pO; rw [if_neg b]⟩
theorem soX_loop {s C P : Nat} {sp : Nat → Nat} (hh : HH h) (hs : s < 4) (C8 : C ≤ 8) (ev : mR h s % 2 = 0) (ok : allB (okB C P (rlN h s)) (mR h s / 2) = true) (S : ∀ c, c < C → gi h 91 c = pO (sp c) ∧ sp c < 1000) (j : Nat) : ∀ {k : Nat} (lv : List (Nat × Value)), mR h s ≤ 2 * k + j → k ≤ mR h s / 2 → (∀ q, q < k → asB sp (rlN h s) q = true) → pm_get lv 0 = some (.ref 77) → pm_get lv 1 = some (.int (nJ s)) → pm_get lv 2 = some (.int (nJ (2 * k))) → Ends (pm_at tX9_isSo) (pm_Rt pm_P (d + 1)) (2, lv, [], h, 0, 0) (fun h' r => h' = h ∧ r = some (.int (nJ (b1N (allB (asB sp (rlN h s)) (mR h s / 2)))))) := by
  have b79 : bd 79 s = some (0, 60) := bd_u rfl (by first | decide | with_reducible assumption | omega)
  have hn := mR_b hh hs
  have g79 : gi h 79 s = nJ (mR h s) := gi_gn hh b79 (by decide)
  have yes : ∀ {k : Nat} (lv : List (Nat × Value)), k = mR h s / 2 → (∀ q, q < k → asB sp (rlN h s) q = true) → Ends (pm_at tX9_isSo) (pm_Rt pm_P (d + 1)) (54, lv, [], h, 0, 0) (fun h' r => h' = h ∧ r = some (.int (nJ (b1N (allB (asB sp (rlN h s)) (mR h s / 2)))))) := by
    intro k lv hk hi
    refine E_ci 1 rfl ci1 ?_
    exact E_rtz rfl (.inr rfl) ⟨rfl, by rw [← hk, allB_of hi]; rfl⟩
  induction j with
  | zero =>
    intro k lv hj hk hi L0 L1 L2
    refine E_il rfl L2 ?_
    refine E_al rfl L0 ?_
    refine E_gr rfl hh (q := 79) rfl ?_
    refine E_il rfl L1 ?_
    refine E_ial rfl hh rfl (by first | decide | with_reducible assumption | omega) (by decide) g79 ?_
    refine E_icT rfl (decide_eq_true ((nJ_le (by first | decide | with_reducible assumption | omega) (by first | decide | with_reducible assumption | omega)).mpr (by first | decide | with_reducible assumption | omega))) ?_
    exact yes lv (by first | decide | with_reducible assumption | omega) hi
  | succ j ih =>
    intro k lv hj hk hi L0 L1 L2
    refine E_il rfl L2 ?_
    refine E_al rfl L0 ?_
    refine E_gr rfl hh (q := 79) rfl ?_
    refine E_il rfl L1 ?_
    refine E_ial rfl hh rfl (by first | decide | with_reducible assumption | omega) (by decide) g79 ?_
    by_cases b0 : mR h s ≤ 2 * k
    · refine E_icT rfl (decide_eq_true ((nJ_le (by first | decide | with_reducible assumption | omega) (by first | decide | with_reducible assumption | omega)).mpr b0)) ?_
      exact yes lv (by first | decide | with_reducible assumption | omega) hi
    refine E_icF rfl (decide_eq_false (fun q => b0 ((nJ_le (by first | decide | with_reducible assumption | omega) (by first | decide | with_reducible assumption | omega)).mp q))) ?_
    obtain ⟨o1, o2, o3, o4⟩ := okB_1 (allB_at ok k (by first | decide | with_reducible assumption | omega))
    obtain ⟨sp1, sp2⟩ := S (rlN h s (2 * k)).toInt.toNat (by first | decide | with_reducible assumption | omega)
    refine E_al rfl L0 ?_
    refine E_al rfl L0 ?_
    refine E_gr rfl hh (q := 80) rfl ?_
    refine E_ci 60 rfl ci60 ?_
    refine E_il rfl L1 ?_
    refine E_bin rfl (nJ_mulE _ _) ?_
    refine E_il rfl L2 ?_
    refine E_bin rfl (nJ_add _ _) ?_
    refine E_lal (len := 240) rfl hh rfl (by first | decide | with_reducible assumption | omega) (by decide) ?_
    refine E_l2i rfl (l2i_X (y := rlN h s (2 * k)) o1 (by first | decide | with_reducible assumption | omega)) ?_
    refine E_call rfl (sp_seenX (d := d) hh (by show (rlN h s (2 * k)).toInt.toNat < 8; omega) sp1 sp2) (chk77 hh rfl rfl (by show 0 ≤ 8; decide)) (fun h1 r1 => ?_)
    rintro ⟨f1, f2⟩
    rw [f1, f2]
    refine E_i2l rfl ?_
    refine E_al rfl L0 ?_
    refine E_gr rfl hh (q := 80) rfl ?_
    refine E_ci 60 rfl ci60 ?_
    refine E_il rfl L1 ?_
    refine E_bin rfl (nJ_mulE _ _) ?_
    refine E_il rfl L2 ?_
    refine E_bin rfl (nJ_add _ _) ?_
    refine E_ci 1 rfl ci1 ?_
    refine E_bin rfl (nJ_add _ _) ?_
    refine E_lal (len := 240) rfl hh rfl (by first | decide | with_reducible assumption | omega) (by decide) ?_
    refine E_lcmp rfl ?_
    by_cases b1 : (sp (rlN h s (2 * k)).toInt.toNat : Int) = (rlN h s (2 * k + 1)).toInt
    · refine E_ifT rfl (decide_eq_true ((eq_nJ _ sp2).mpr b1)) ?_
      refine E_inc rfl L2 (show nJ (2 * k) + 2 = nJ (2 * (k + 1)) from nJ_add (2 * k) 2) (fun lv2 N2 kp2 => ?_)
      refine E_goto rfl ?_
      refine ih lv2 (by first | decide | with_reducible assumption | omega) (by first | decide | with_reducible assumption | omega) (fun q hq => ?_) (kp2 0 _ (nbz rfl) rfl L0) (kp2 1 _ (nbz rfl) rfl L1) N2
      by_cases e : q = k
      · rw [e]; exact decide_eq_true b1
      · exact hi q (by first | decide | with_reducible assumption | omega)
    · refine E_ifF rfl (decide_eq_false (fun z => b1 ((eq_nJ _ sp2).mp z))) ?_
      refine E_ci 0 rfl ci0 ?_
      refine E_rtz rfl (.inl rfl) ⟨rfl, ?_⟩
      have : allB (asB sp (rlN h s)) (mR h s / 2) = false := by
        cases q : allB (asB sp (rlN h s)) (mR h s / 2)
        · rfl
        · exact absurd q (allB_no (k := k) (by first | decide | with_reducible assumption | omega) (decide_eq_false b1))
      rw [this]; rfl
theorem sp_isSoX {s C P : Nat} {sp : Nat → Nat} (hh : HH h) (hs : s < 4) (C8 : C ≤ 8) (G : GOOD (rf h) (mR h) (rlN h) C P s) (S : ∀ c, c < C → gi h 91 c = pO (sp c) ∧ sp c < 1000) : Sp (d + 2) 280 h [.ref 77, .int (nJ s)] (fun h' r => h' = h ∧ r = some (.int (nJ (b1N (allB (asB sp (rlN h s)) (mR h s / 2)))))) := by
  refine Sp_of aiX9_isSo rfl rfl rfl ?_
  have L0 : pm_get (lv_args 0 [.ref 77, .int (nJ s)]) 0 = some (.ref 77) := rfl
  have L1 : pm_get (lv_args 0 [.ref 77, .int (nJ s)]) 1 = some (.int (nJ s)) := rfl
  generalize lv_args 0 [.ref 77, .int (nJ s)] = lv at L0 L1 ⊢
  have hn := mR_b hh hs
  refine E_ci 0 rfl ci0 ?_
  refine E_is rfl (fun lv1 K2 kp => ?_)
  exact soX_loop hh hs C8 G.2.1 G.2.2 S 60 (k := 0) lv1 (by first | decide | with_reducible assumption | omega) (Nat.zero_le _) (fun q hq => absurd hq (Nat.not_lt_zero q)) (kp 0 _ (nbz rfl) rfl L0) (kp 1 _ (nbz rfl) rfl L1) K2
end SGH
end
section
/-! the slots' rows of both, one row (wants u114, u76.by's sp_park8B, u75) -/
theorem zb_dcX {p : Prop} [Decidable p] : zb p = zb (decide p = true) := by
  by_cases b : p
  · rw [zb_T b, zb_T (decide_eq_true b)]
  · rw [zb_F b, zb_F (by rw [decide_eq_false b]; decide)]
noncomputable def CEQ (h g : pm_H) : Prop := ∀ s, s < 4 → cf g s = rf h s ∧ mC g s = mR h s ∧ ∀ k, k < 60 → clN g s k = rlN h s k
noncomputable def REQ (h g : pm_H) : Prop := ∀ s, s < 4 → rf g s = rf h s ∧ mR g s = mR h s ∧ ∀ k, k < 60 → rlN g s k = rlN h s k
noncomputable def slcB (M : List Rng) : Bool := [54, 55, 56, 57, 58, 59, 60, 61].all (nocell M)
noncomputable def slrB (M : List Rng) : Bool := [78, 79, 80].all (nocell M)
theorem slc_at {M : List Rng} (hb : slcB M = true) : ∀ s, s < 4 → M.all (fun r => !(Nat.beq r.1 (54 + 2 * s))) = true ∧ M.all (fun r => !(Nat.beq r.1 (55 + 2 * s))) = true
  | 0, _ => ⟨nc_at hb (by decide), nc_at hb (by decide)⟩
  | 1, _ => ⟨nc_at hb (by decide), nc_at hb (by decide)⟩
  | 2, _ => ⟨nc_at hb (by decide), nc_at hb (by decide)⟩
  | 3, _ => ⟨nc_at hb (by decide), nc_at hb (by decide)⟩
  | s + 4, hs => absurd hs (by first | decide | with_reducible assumption | omega)
theorem CEQ_of {M : List Rng} {h g : pm_H} (R : QRE h) (N : NU h) (f : fr_g M h g) (hb : slcB M = true) : CEQ h g := by
  intro s hs
  obtain ⟨c1, c2⟩ := slc_at hb s hs
  obtain ⟨s1, -, s3⟩ := SL_cf R.1.2 s hs
  refine ⟨?_, ?_, fun k hk => ?_⟩
  · rw [← s1]; exact fr_gi f (rg_no c1 _)
  · exact (fr_gn f (rg_no c1 _)).trans (gn_eq s3)
  · rw [← N s hs k hk]; exact fr_gl f (rg_no c2 _)
theorem REQ_of {M : List Rng} {h g : pm_H} (f : fr_g M h g) (hb : slrB M = true) : REQ h g := by
  intro s hs
  refine ⟨?_, fr_gn f (rg_no (nc_at hb (by decide)) _), fun k hk => fr_gl f (rg_no (nc_at hb (by decide)) _)⟩
  unfold rf
  rw [fr_gi f (rg_no (nc_at hb (by decide)) _)]
theorem okB_cg {C P : Nat} {N N' : Nat → Int64} {k : Nat} (hk : k < 30) (e : ∀ k, k < 60 → N k = N' k) : okB C P N k = okB C P N' k := by unfold okB; rw [e _ (by first | decide | with_reducible assumption | omega), e _ (by first | decide | with_reducible assumption | omega)]
theorem asB_cg {sp : Nat → Nat} {N N' : Nat → Int64} {k : Nat} (hk : k < 30) (e : ∀ k, k < 60 → N k = N' k) : asB sp N k = asB sp N' k := by unfold asB; rw [e _ (by first | decide | with_reducible assumption | omega), e _ (by first | decide | with_reducible assumption | omega)]
section BRG
variable {h g : pm_H} {d : Nat} {x : Int32}
theorem GOOD_c {C P s : Nat} (hh : HH h) (E : CEQ h g) (hs : s < 4) (G : GOOD (rf h) (mR h) (rlN h) C P s) : GOOD (cf g) (mC g) (clN g) C P s := by
  obtain ⟨e1, e2, e3⟩ := E s hs
  have := mR_b hh hs
  obtain ⟨g1, g2, g3⟩ := G
  refine ⟨by rw [e1]; exact g1, by rw [e2]; exact g2, ?_⟩
  rw [e2, allB_cg (fun k hk => okB_cg (by first | decide | with_reducible assumption | omega) e3)]
  exact g3
theorem GOOD_r {C P s : Nat} (hh : HH h) (E : REQ h g) (hs : s < 4) (G : GOOD (rf h) (mR h) (rlN h) C P s) : GOOD (rf g) (mR g) (rlN g) C P s := by
  obtain ⟨e1, e2, e3⟩ := E s hs
  have := mR_b hh hs
  obtain ⟨g1, g2, g3⟩ := G
  refine ⟨by rw [e1]; exact g1, by rw [e2]; exact g2, ?_⟩
  rw [e2, allB_cg (fun k hk => okB_cg (by first | decide | with_reducible assumption | omega) e3)]
  exact g3
/-- as the row of slot s tells, with these spots -/
noncomputable def seen (h : pm_H) (s : Nat) (sp : Nat → Nat) : Bool := allB (asB sp (rlN h s)) (mR h s / 2)
theorem sp_isAsSeenH {s C P : Nat} {sp : Nat → Nat} (hh : HH h) (hg : HH g) (E : CEQ h g) (hs : s < 4) (C8 : C ≤ 8) (G : GOOD (rf h) (mR h) (rlN h) C P s) (S : ∀ c, c < C → gi g 63 c = nJ (sp c) ∧ sp c < 1000) : Sp (d + 1) 124 g [.ref 0, .ref (54 + 2 * s)] (fun h' r => h' = g ∧ r = some (.int (nJ (b1N (seen h s sp))))) := by
  have := mR_b hh hs
  refine Sp_mono ?_ (sp_isAsSeenX (d := d) hg hs C8 (GOOD_c hh E hs G) S)
  rintro h' r ⟨e, q⟩
  refine ⟨e, ?_⟩
  rw [q, (E s hs).2.1, allB_cg (fun k hk => asB_cg (by first | decide | with_reducible assumption | omega) (E s hs).2.2)]
  rfl
theorem sp_isSoH {s C P : Nat} {sp : Nat → Nat} (hh : HH h) (hg : HH g) (E : REQ h g) (hs : s < 4) (C8 : C ≤ 8) (G : GOOD (rf h) (mR h) (rlN h) C P s) (S : ∀ c, c < C → gi g 91 c = pO (sp c) ∧ sp c < 1000) : Sp (d + 2) 280 g [.ref 77, .int (nJ s)] (fun h' r => h' = g ∧ r = some (.int (nJ (b1N (seen h s sp))))) := by
  have := mR_b hh hs
  refine Sp_mono ?_ (sp_isSoX (d := d) hg hs C8 (GOOD_r hh E hs G) S)
  rintro h' r ⟨e, q⟩
  refine ⟨e, ?_⟩
  rw [q, (E s hs).2.1, allB_cg (fun k hk => asB_cg (by first | decide | with_reducible assumption | omega) (E s hs).2.2)]
  rfl
/-- why a slot's row is none, of a street as the reference has it -/
noncomputable def why (h : pm_H) (is : Bool) (x : Int32) : Int32 := sgv (rf h) (mR h) (rlN h) (N9 h) (P9 h) is x
theorem sp_sightH {is : Bool} (hh : HH h) (R : QRE h) (N : NU h) : Sp (d + 2) 180 h [.ref 0, .int x, .int (zb (is = true))] (fun h' r => h' = h ∧ r = some (.int (why h is x))) := by
  refine Sp_mono ?_ (sp_sightX8 (d := d) (is := is) (x := x) hh)
  rintro h' r ⟨e, q⟩
  refine ⟨e, ?_⟩
  have E := CEQ_of (M := []) R N (fr_rf _ _) rfl
  have k4 : gn h 15 4 = N9 h := gn_eq R.2.1.1.2.2.1
  have k0 : gn h 15 0 = P9 h := gn_eq (R.2.1.1.2.1 0 (by first | decide | with_reducible assumption | omega))
  rw [q, k4, k0, sgv_cg (fun s hs => (E s hs).1) (fun s hs => (E s hs).2.1) (fun s hs => mR_b hh hs) (fun s hs k hk => (E s hs).2.2 k hk)]
  rfl
theorem sp_whyNotH {is : Bool} (hh : HH h) (hg : HH g) (k : K9 h g) (E : REQ h g) : Sp (d + 3) 372 g [.ref 77, .int x, .int (zb (is = true))] (fun h' r => h' = g ∧ r = some (.int (why h (decide (0 < (gi h 83 0).toInt) && is) x))) := by
  refine Sp_mono ?_ (sp_whyNotN (d := d) (is := is) (x := x) hg)
  rintro h' r ⟨e, q⟩
  refine ⟨e, ?_⟩
  rw [q, show gn g 84 3 = N9 h from N9_K k, show gn g 84 0 = P9 h from P9_K k, k.2.2.2, sgv_cg (fun s hs => (E s hs).1) (fun s hs => (E s hs).2.1) (fun s hs => mR_b hh hs) (fun s hs k hk => (E s hs).2.2 k hk)]
  rfl
/-- a heap that tells the same of slots and street -/
noncomputable def SK (h h' : pm_H) : Prop := K9 h h' ∧ REQ h h'
theorem why_K {is : Bool} (hh : HH h) (k : SK h g) : why g is x = why h is x := by
  unfold why
  rw [N9_K k.1, P9_K k.1]
  exact sgv_cg (fun s hs => (k.2 s hs).1) (fun s hs => (k.2 s hs).2.1) (fun s hs => mR_b hh hs) (fun s hs q hk => (k.2 s hs).2.2 q hk)
theorem seen_K {s : Nat} {sp : Nat → Nat} (hh : HH h) (hs : s < 4) (k : SK h g) : seen g s sp = seen h s sp := by
  have := mR_b hh hs
  unfold seen
  rw [(k.2 s hs).2.1, allB_cg (fun q hq => asB_cg (by first | decide | with_reducible assumption | omega) (k.2 s hs).2.2)]
theorem SK_fr {M : List Rng} (f : fr_g M h g) (h4 : M.all (fun r => !(Nat.beq r.1 84)) = true) (h5 : M.all (fun r => !(Nat.beq r.1 85)) = true) (h7 : M.all (fun r => !(Nat.beq r.1 87)) = true) (h3 : M.all (fun r => !(Nat.beq r.1 83)) = true) (hr : slrB M = true) : SK h g := ⟨K9_fr f h4 h5 h7 h3, REQ_of f hr⟩
end BRG
end
section
/-! laws of both (wants u115) -/
noncomputable def lawB (p : Nat → Bool) : Nat → Nat
  | 0 => 0
  | l + 1 => bif p l then lawB p l + 2 ^ l else lawB p l
theorem lawB_lt {p : Nat → Bool} : ∀ l, lawB p l < 2 ^ l
  | 0 => by show 0 < 1; omega
  | l + 1 => by
    have := lawB_lt (p := p) l
    have e : 2 ^ (l + 1) = 2 ^ l + 2 ^ l := by rw [Nat.pow_succ]; omega
    show (bif p l then lawB p l + 2 ^ l else lawB p l) < _
    cases p l
    · show lawB p l < _; omega
    · show lawB p l + 2 ^ l < _; omega
theorem isB_hiX : ∀ m : Fin 256, ∀ k : Fin 9, m.val < 2 ^ k.val → isB m.val k.val = false := by decide +kernel
noncomputable def lwS (h : pm_H) (s l : Nat) : Bool := seen h s (fun c => spt l (P9 h) (2 ^ N9 h - 1) (W9 h) c)
section LAW
variable {h : pm_H} {d : Nat} {x : Int32}
end LAW
end
section
/-! wishes tried, parked anew: both (wants u67b, u69, u75) -/
noncomputable def PWF : List Rng := [(62, 1, 3), (63, 0, 7), (75, 0, 7)]
/-- lost and walked with the wishes W -/
noncomputable def MW (h : pm_H) (W : Nat → Nat) : Nat := mss (L9 h) (P9 h) (2 ^ N9 h - 1) W (N9 h)
section TRY
variable {h g : pm_H} {d : Nat}
/-- the class's street where only its Lot and its trial row have changed -/
theorem c8_of (hh : HH h) (R : QRE h) (f : fr_g PWF h g) : gi g 15 4 = nJ (N9 h) ∧ gi g 15 0 = nJ (P9 h) ∧ gi g 15 1 = nJ (L9 h) ∧ ∀ i, i < N9 h → gi g 17 i = nJ (W9 h i) := by
  obtain ⟨f4, f0, f17⟩ := CW8_of hh R
  have e1 : gn h 15 1 = L9 h := gn_eq (R.2.1.1.2.1 1 (by first | decide | with_reducible assumption | omega))
  refine ⟨?_, ?_, ?_, fun i hi => ?_⟩
  · rw [fr_gi f (rg_no rfl _)]; exact f4
  · rw [fr_gi f (rg_no rfl _)]; exact f0
  · rw [fr_gi f (rg_no rfl _), ← e1]; exact gi_gn hh rfl (by decide)
  · rw [fr_gi f (rg_no rfl _)]; exact f17 i hi
theorem tw_loop (hh : HH h) (R : QRE h) (j : Nat) : ∀ {g : pm_H} {c : Nat} (lv : List (Nat × Value)), c + j = N9 h → HH g → fr_g PWF h g → (∀ i, i < c → gn g 75 i = W9 h i) → pm_get lv 0 = some (.ref 0) → pm_get lv 1 = some (.int (nJ c)) → Ends (pm_at tX8_tryWishes) (pm_Rt pm_P d) (2, lv, [], g, 0, 0) (fun h' r => r = none ∧ HH h' ∧ fr_g PWF h h' ∧ ∀ i, i < N9 h → gn h' 75 i = W9 h i) := by
  obtain ⟨l3, p8, n8⟩ := g9s hh
  induction j with
  | zero =>
    intro g c lv hj hg f t L0 L1
    obtain ⟨f4, f0, f1, f17⟩ := c8_of hh R f
    refine E_il rfl L1 ?_
    refine E_al rfl L0 ?_
    refine E_ogr (q := 15) rfl hg rfl rfl ?_
    refine E_ogf (q := (0, 8)) rfl hg rfl rfl f4 ?_
    refine E_icT rfl (decide_eq_true ((nJ_le (by first | decide | with_reducible assumption | omega) (by first | decide | with_reducible assumption | omega)).mpr (by first | decide | with_reducible assumption | omega))) ?_
    have e : c = N9 h := by omega
    exact E_ret rfl ⟨rfl, hg, f, e ▸ t⟩
  | succ j ih =>
    intro g c lv hj hg f t L0 L1
    obtain ⟨f4, f0, f1, f17⟩ := c8_of hh R f
    have hc : c < N9 h := by omega
    have wb := B9_of R c hc
    refine E_il rfl L1 ?_
    refine E_al rfl L0 ?_
    refine E_ogr (q := 15) rfl hg rfl rfl ?_
    refine E_ogf (q := (0, 8)) rfl hg rfl rfl f4 ?_
    refine E_icF rfl (decide_eq_false (fun z => absurd ((nJ_le (by first | decide | with_reducible assumption | omega) (by first | decide | with_reducible assumption | omega)).mp z) (by first | decide | with_reducible assumption | omega))) ?_
    refine E_al rfl L0 ?_
    refine E_ogr (q := 75) rfl hg rfl rfl ?_
    refine E_il rfl L1 ?_
    refine E_al rfl L0 ?_
    refine E_ogr (q := 15) rfl hg rfl rfl ?_
    refine E_ogr (q := 17) rfl hg rfl rfl ?_
    refine E_il rfl L1 ?_
    refine E_ial rfl hg rfl (by first | decide | with_reducible assumption | omega) (by decide) (f17 c hc) ?_
    refine E_ias rfl hg rfl (by first | decide | with_reducible assumption | omega) (by decide) ?_
    have b75 : bd 75 c = some (0, 9) := bd_u rfl (by first | decide | with_reducible assumption | omega)
    refine E_inc rfl L1 (nJ_inc _) (fun lv1 K1 kp => ?_)
    refine E_goto rfl ?_
    refine ih lv1 (by first | decide | with_reducible assumption | omega) (HH_ptn hg b75 (by first | decide | with_reducible assumption | omega) (by first | decide | with_reducible assumption | omega) (by first | decide | with_reducible assumption | omega)) (fr_ptr (l := 0) (u := 7) rfl (by first | decide | with_reducible assumption | omega) (by first | decide | with_reducible assumption | omega) f) (fun i hi => ?_) (kp 0 _ (nbz rfl) rfl L0) K1
    by_cases e : i = c
    · rw [e]; exact gn_ptn hg b75 (by first | decide | with_reducible assumption | omega) (by first | decide | with_reducible assumption | omega) (by first | decide | with_reducible assumption | omega)
    · rw [gn_ne (fun _ => e)]; exact t i (by first | decide | with_reducible assumption | omega)
theorem sp_tryWishes8 (hh : HH h) (R : QRE h) (hg : HH g) (f : fr_g PWF h g) : Sp (d + 1) 193 g [.ref 0] (fun h' r => r = none ∧ HH h' ∧ fr_g PWF h h' ∧ ∀ i, i < N9 h → gn h' 75 i = W9 h i) := by
  refine Sp_of aiX8_tryWishes rfl rfl rfl ?_
  have L0 : pm_get (lv_args 0 [.ref 0]) 0 = some (.ref 0) := rfl
  generalize lv_args 0 [.ref 0] = lv at L0 ⊢
  refine E_ci 0 rfl ci0 ?_
  refine E_is rfl (fun lv1 K1 kp => ?_)
  exact tw_loop hh R (N9 h) (c := 0) lv1 (by first | decide | with_reducible assumption | omega) hg f (fun i hi => absurd hi (Nat.not_lt_zero i)) (kp 0 _ (nbz rfl) rfl L0) K1
/-- the class fills its Lot by the trial row -/
theorem sp_fillT {W : Nat → Nat} {l : Nat} (hh : HH h) (R : QRE h) (hg : HH g) (f : fr_g PWF h g) (t : ∀ i, i < N9 h → gn g 75 i = W i) (V : ∀ i, i < N9 h → 1 ≤ W i ∧ W i ≤ P9 h) (l3 : l ≤ 3) : Sp (d + 4) 20 g [.ref 62, .ref 75, .int (nJ (N9 h)), .int (nJ (2 ^ N9 h - 1)), .int (nJ (P9 h)), .int (nJ l)] (fun h' r => r = none ∧ HH h' ∧ fr_g PWF h h' ∧ gi h' 62 2 = nJ (mss l (P9 h) (2 ^ N9 h - 1) W (N9 h)) ∧ gi h' 62 3 = nJ (wlk l (P9 h) (2 ^ N9 h - 1) W (N9 h)) ∧ ∀ i, i < N9 h → gi h' 63 i = nJ (spt l (P9 h) (2 ^ N9 h - 1) W i)) := by
  obtain ⟨-, p8, n8⟩ := g9s hh
  refine Sp_mono ?_ (sp_fill (d := d) (A := 75) (hi := 9) rfl (by decide) hg l3 (show P9 h ≤ 9 by omega) (all_lt n8) n8 (fun c hc => by rw [t c hc]; exact V c hc))
  rintro h' r ⟨e, a1, a2, t1, t2, t3, t4⟩
  refine ⟨e, a1, fr_trans f (fr_wk rfl a2), ?_, ?_, fun i hi => ?_⟩
  · rw [t2, mss_W t]
  · rw [t3, wlk_W t]
  · rw [t4 i hi, spt_W (fun c hc => t c (by first | decide | with_reducible assumption | omega))]
/-- the reference parks what it wants now -/
theorem sp_parksW {W : Nat → Nat} (hh : HH h) (hg : HH g) (g0 : gn g 84 0 = P9 h) (g3 : gn g 84 3 = N9 h) (g22 : gi g 77 22 = nJ (L9 h)) (g23 : gi g 77 23 = nJ (2 ^ N9 h - 1)) (t : ∀ i, i < N9 h → gn g 89 i = W i) (V : ∀ i, i < N9 h → 1 ≤ W i ∧ W i ≤ P9 h) : Sp (d + 4) 320 g [.ref 77, .int (nJ (L9 h))] (fun h' r => r = none ∧ HH h' ∧ fr_g PKF g h' ∧ gi h' 77 27 = nJ (MW h W) ∧ (∀ i, i < N9 h → gi h' 91 i = pO (spt (L9 h) (P9 h) (2 ^ N9 h - 1) W i)) ∧ ∀ i, i < N9 h → gi h' 89 i = nJ (W i)) := by
  obtain ⟨l3, p8, n8⟩ := g9s hh
  refine Sp_mono ?_ (sp_parksX (d := d) (l := L9 h) (s := 2 ^ N9 h - 1) hg l3 (all_lt n8) g23 (fun c hc => by rw [g3] at hc; rw [t c hc, g0]; exact V c hc))
  rintro h' r ⟨e, a1, a2, a3⟩
  rw [g0, g3] at a3
  obtain ⟨k1, k2, k3⟩ := PKD_W (W' := W) t a3
  refine ⟨e, a1, a2, k1, k3, fun i hi => ?_⟩
  rw [fr_gi a2 (rg_no rfl _), ← t i hi]
  exact gi_gn hg (q := (0, 8)) (bd_u rfl (by first | decide | with_reducible assumption | omega)) (by decide)
end TRY
end
section
/-! any wishes tried: walked, parked (wants u77) -/
section TRW
variable {h h2 : pm_H} {d : Nat} {W : Nat → Nat}
end TRW
end
section
/-! mend of both (wants u77) -/
section MND
variable {h : pm_H} {d : Nat}
theorem fW_b (B : B9 h) {c p : Nat} (p1 : 1 ≤ p) (pp : p ≤ P9 h) : ∀ i, i < N9 h → 1 ≤ fup (W9 h) c p i ∧ fup (W9 h) c p i ≤ P9 h := fun i hi => by
  by_cases e : i = c
  · rw [e, fup_s]; exact ⟨p1, pp⟩
  · rw [fup_n e]; exact B i hi
/-! the reference -/
end MND
end
section
/-! the less and the more of two: both -/
section MMX
variable {h : pm_H} {d : Nat} {a b : Nat}
theorem sp_moreF (ha : a < 1000) (hb : b < 1000) : Sp (d + 1) 313 h [.int (nJ a), .int (nJ b)] (fun h' r => h' = h ∧ r = some (.int (nJ (max a b)))) := by
  refine Sp_of aiX9_moreOf rfl rfl rfl ?_
  have L0 : pm_get (lv_args 0 [.int (nJ a), .int (nJ b)]) 0 = some (.int (nJ a)) := rfl
  have L1 : pm_get (lv_args 0 [.int (nJ a), .int (nJ b)]) 1 = some (.int (nJ b)) := rfl
  generalize lv_args 0 [.int (nJ a), .int (nJ b)] = lv at L0 L1 ⊢
  refine E_il rfl L0 ?_
  refine E_il rfl L1 ?_
  by_cases c : a ≤ b
  · refine E_icT rfl (decide_eq_true ((nJ_le (by first | decide | with_reducible assumption | omega) (by first | decide | with_reducible assumption | omega)).mpr c)) ?_
    refine E_il rfl L1 ?_
    exact E_rti rfl ⟨rfl, by rw [show max a b = b by omega]⟩
  · refine E_icF rfl (decide_eq_false (fun q => c ((nJ_le (by first | decide | with_reducible assumption | omega) (by first | decide | with_reducible assumption | omega)).mp q))) ?_
    refine E_il rfl L0 ?_
    refine E_goto rfl ?_
    exact E_rti rfl ⟨rfl, by rw [show max a b = a by omega]⟩
end MMX
end
section
/-! what a CAR can have wanted: the class (wants u116's bits, u77, u78, u82b) -/
noncomputable def spF (h : pm_H) (c p i : Nat) : Nat := spt (L9 h) (P9 h) (2 ^ N9 h - 1) (fup (W9 h) c p) i
noncomputable def fitP (h : pm_H) (s c q : Nat) : Bool := seen h s (spF h c (q + 1))
noncomputable def ftB (h : pm_H) (s c : Nat) : Nat := lawB (fitP h s c) (P9 h)
theorem lawB_bit {p : Nat → Bool} {q : Nat} (q9 : q < 9) : ∀ {n : Nat}, n ≤ 8 → isB (lawB p n) q = (decide (q < n) && p q)
  | 0, _ => by
    show isB 0 q = _
    rw [isB_zero, decide_eq_false (Nat.not_lt_zero q)]; rfl
  | n + 1, hn => by
    have ih := lawB_bit (p := p) q9 (n := n) (by first | decide | with_reducible assumption | omega)
    have bl := lawB_lt (p := p) n
    have p8 : 2 ^ n ≤ 2 ^ 8 := Nat.pow_le_pow_right (by first | decide | with_reducible assumption | omega) (by first | decide | with_reducible assumption | omega)
    have hi := isB_hiX ⟨lawB p n, by omega⟩ ⟨n, by omega⟩ bl
    show isB (bif p n then lawB p n + 2 ^ n else lawB p n) q = _
    by_cases e : q = n
    · cases b : p n
      · show isB (lawB p n) q = _
        rw [ih, decide_eq_false (by first | decide | with_reducible assumption | omega), e, b]; simp
      · show isB (lawB p n + 2 ^ n) q = _
        rw [isB_add (by first | decide | with_reducible assumption | omega) (by first | decide | with_reducible assumption | omega) q9 hi, e, show (n == n) = true from beq_self_eq_true _, b, decide_eq_true (by first | decide | with_reducible assumption | omega)]; rfl
    · have e2 : decide (q < n + 1) = decide (q < n) := by
        by_cases l : q < n
        · rw [decide_eq_true l, decide_eq_true (by first | decide | with_reducible assumption | omega)]
        · rw [decide_eq_false l, decide_eq_false (by first | decide | with_reducible assumption | omega)]
      rw [e2]
      cases b : p n
      · exact ih
      · show isB (lawB p n + 2 ^ n) q = _
        rw [isB_add (by first | decide | with_reducible assumption | omega) (by first | decide | with_reducible assumption | omega) q9 hi, show (q == n) = false from beq_eq_false_iff_ne.mpr e, Bool.false_or]
        exact ih
theorem lawB_in {p : Nat → Bool} {q n : Nat} (hq : q < n) (n8 : n ≤ 8) : isB (lawB p n) q = p q := by
  rw [lawB_bit (by first | decide | with_reducible assumption | omega) n8, decide_eq_true hq, Bool.true_and]
noncomputable def lkN (f : Nat → Bool) (o : Nat → Nat) (p : Nat) : Nat → Nat
  | 0 => 0
  | q + 1 => lkN f o p q + b1N (f p && (f q && Nat.beq (o p) (o q)))
noncomputable def wsN (f : Nat → Bool) (o : Nat → Nat) (n : Nat) : Nat → Nat
  | 0 => 0
  | p + 1 => max (wsN f o n p) (lkN f o p n)
noncomputable def akN (f : Nat → Bool) (o : Nat → Nat → Nat) (n b0 : Nat) : Nat → Nat × Nat
  | 0 => (0, b0)
  | k + 1 => if wsN f (o k) n n < (akN f o n b0 k).2 then (k + 1, wsN f (o k) n n) else akN f o n b0 k
theorem b1N_le (b : Bool) : b1N b ≤ 1 := by cases b <;> decide
theorem lkN_le {f : Nat → Bool} {o : Nat → Nat} {p : Nat} : ∀ q, lkN f o p q ≤ q
  | 0 => Nat.le_refl 0
  | q + 1 => by
    have := lkN_le (f := f) (o := o) (p := p) q
    have := b1N_le (f p && (f q && Nat.beq (o p) (o q)))
    show lkN f o p q + _ ≤ q + 1
    omega
theorem wsN_le {f : Nat → Bool} {o : Nat → Nat} {n : Nat} : ∀ p, wsN f o n p ≤ n
  | 0 => Nat.zero_le n
  | p + 1 => by
    have := wsN_le (f := f) (o := o) (n := n) p
    have := lkN_le (f := f) (o := o) (p := p) n
    show max _ _ ≤ n
    omega
theorem akN_le {f : Nat → Bool} {o : Nat → Nat → Nat} {n b0 : Nat} : ∀ k, (akN f o n b0 k).1 ≤ k ∧ (akN f o n b0 k).2 ≤ b0
  | 0 => ⟨Nat.le_refl 0, Nat.le_refl b0⟩
  | k + 1 => by
    obtain ⟨a, b⟩ := akN_le (f := f) (o := o) (n := n) (b0 := b0) k
    show (if _ then _ else _ : Nat × Nat).1 ≤ _ ∧ (if _ then _ else _ : Nat × Nat).2 ≤ _
    split
    · rename_i q
      exact ⟨Nat.le_refl _, by show wsN f (o k) n n ≤ b0; omega⟩
    · exact ⟨by omega, b⟩
noncomputable def crB (h : pm_H) (y : Int32) : Bool := decide (0 ≤ y.toInt ∧ y.toInt < (N9 h : Int))
noncomputable def sqv (h : pm_H) (x y : Int32) (v : Nat → Nat → Int32) : Int32 := if why h (crB h y) x = 0 then v x.toInt.toNat y.toInt.toNat else why h (crB h y) x
theorem spF_K {h g : pm_H} (k : K9 h g) : spF g = spF h := by funext c p i; unfold spF; rw [L9_K k, P9_K k, N9_K k, W9_K k]
noncomputable def FTF : List Rng := [(62, 1, 3), (63, 0, 7), (75, 0, 7), (76, 0, 63)]
section FIT
variable {h g : pm_H} {d : Nat} {x y : Int32}
theorem spF_b (hh : HH h) (B : B9 h) {c p i : Nat} (p1 : 1 ≤ p) (pp : p ≤ P9 h) (hi : i < N9 h) : spF h c p i ≤ 8 := by
  obtain ⟨-, p8, -⟩ := g9s hh
  have V := fW_b (c := c) B p1 pp i hi
  have := spt_ok (l := L9 h) (s := 2 ^ N9 h - 1) (W := fup (W9 h) c p) V.1 V.2
  show spt _ _ _ _ _ ≤ 8
  rcases this with e | ⟨_, e, _⟩ <;> omega
theorem ftB_lt (hh : HH h) {s c : Nat} : ftB h s c < 256 := by
  have a := lawB_lt (p := fitP h s c) (P9 h)
  have b : 2 ^ P9 h ≤ 2 ^ 8 := Nat.pow_le_pow_right (by first | decide | with_reducible assumption | omega) (g9s hh).2.1
  show lawB _ _ < 256
  omega
theorem c8F (hh : HH h) (R : QRE h) (f : fr_g FTF h g) : gi g 15 4 = nJ (N9 h) ∧ gi g 15 0 = nJ (P9 h) := by
  obtain ⟨f4, f0, -⟩ := CW8_of hh R
  exact ⟨by rw [fr_gi f (rg_no rfl _)]; exact f4, by rw [fr_gi f (rg_no rfl _)]; exact f0⟩
theorem sp_parkWithS {c p : Nat} (hh : HH h) (R : QRE h) (hc : c < N9 h) (p1 : 1 ≤ p) (pp : p ≤ P9 h) : Sp (d + 5) 157 h [.ref 0, .int (nJ c), .int (nJ p)] (fun h' r => r = none ∧ HH h' ∧ fr_g PWF h h' ∧ ∀ i, i < N9 h → gi h' 63 i = nJ (spF h c p i)) := by
  obtain ⟨l3, p8, n8⟩ := g9s hh
  refine Sp_of aiX8_parkWith rfl rfl rfl ?_
  have L0 : pm_get (lv_args 0 [.ref 0, .int (nJ c), .int (nJ p)]) 0 = some (.ref 0) := rfl
  have L1 : pm_get (lv_args 0 [.ref 0, .int (nJ c), .int (nJ p)]) 1 = some (.int (nJ c)) := rfl
  have L2 : pm_get (lv_args 0 [.ref 0, .int (nJ c), .int (nJ p)]) 2 = some (.int (nJ p)) := rfl
  generalize lv_args 0 [.ref 0, .int (nJ c), .int (nJ p)] = lv at L0 L1 L2 ⊢
  refine E_al rfl L0 ?_
  refine E_call rfl (Sp_le (by first | exact Nat.add_le_add_left (Nat.le_of_ble_eq_true rfl) _ | exact Nat.le_of_ble_eq_true rfl | omega) (sp_tryWishes8 (d := d) hh R hh (fr_rf _ _))) (chkO (a := 0) hh rfl rfl rfl rfl (by show 0 ≤ 8; decide)) (fun h1 r1 => ?_)
  rintro ⟨e1, hh1, f1, t1⟩
  rw [e1]
  refine E_al rfl L0 ?_
  refine E_ogr (q := 75) rfl hh1 rfl rfl ?_
  refine E_il rfl L1 ?_
  refine E_il rfl L2 ?_
  refine E_ias rfl hh1 rfl (by first | decide | with_reducible assumption | omega) (by decide) ?_
  have b75 : bd 75 c = some (0, 9) := bd_u rfl (by first | decide | with_reducible assumption | omega)
  have h2 : HH (pt h1 75 c (nJ p)) := HH_ptn hh1 b75 (by first | decide | with_reducible assumption | omega) (by first | decide | with_reducible assumption | omega) (by first | decide | with_reducible assumption | omega)
  have f2 : fr_g PWF h (pt h1 75 c (nJ p)) := fr_ptr (l := 0) (u := 7) rfl (by first | decide | with_reducible assumption | omega) (by first | decide | with_reducible assumption | omega) f1
  have t2 : ∀ i, i < N9 h → gn (pt h1 75 c (nJ p)) 75 i = fup (W9 h) c p i := fun i hi => by
    by_cases e : i = c
    · rw [e, fup_s]; exact gn_ptn hh1 b75 (by first | decide | with_reducible assumption | omega) (by first | decide | with_reducible assumption | omega) (by first | decide | with_reducible assumption | omega)
    · rw [gn_ne (fun _ => e), fup_n e]; exact t1 i hi
  generalize pt h1 75 c (nJ p) = k at h2 f2 t2 ⊢
  obtain ⟨f4, f0, q1, f17⟩ := c8_of hh R f2
  have e4 : gn k 15 4 = N9 h := gn_of f4 (by first | decide | with_reducible assumption | omega)
  refine E_al rfl L0 ?_
  refine E_ogr (q := 62) rfl h2 rfl rfl ?_
  refine E_al rfl L0 ?_
  refine E_ogr (q := 75) rfl h2 rfl rfl ?_
  refine E_al rfl L0 ?_
  refine E_ogr (q := 15) rfl h2 rfl rfl ?_
  refine E_ogf (q := (0, 8)) rfl h2 rfl rfl f4 ?_
  refine E_al rfl L0 ?_
  refine E_call rfl (Sp_le (by first | exact Nat.add_le_add_left (Nat.le_of_ble_eq_true rfl) _ | exact Nat.le_of_ble_eq_true rfl | omega) (sp_everyCar (d := d) h2)) (chkO (a := 0) h2 rfl rfl rfl rfl (by show 3 ≤ 8; decide)) (fun h3 r3 => ?_)
  rintro ⟨e3, f3⟩
  rw [e3, f3, e4]
  refine E_al rfl L0 ?_
  refine E_ogr (q := 15) rfl h2 rfl rfl ?_
  refine E_ogf (q := (0, 8)) rfl h2 rfl rfl f0 ?_
  refine E_al rfl L0 ?_
  refine E_ogr (q := 15) rfl h2 rfl rfl ?_
  refine E_ogf (q := (0, 3)) rfl h2 rfl rfl q1 ?_
  refine E_call rfl (sp_fillT (d := d) (W := fup (W9 h) c p) hh R h2 f2 t2 (fW_b (B9_of R) p1 pp) l3) (chkO (a := 62) h2 rfl rfl rfl rfl (by show 0 ≤ 8; decide)) (fun h5 r5 => ?_)
  rintro ⟨e5, hh5, f5, -, -, s5⟩
  rw [e5]
  exact E_ret rfl ⟨rfl, hh5, f5, s5⟩
/-- where each stood, by the place that the CAR wants -/
noncomputable def OUT (h : pm_H) (c : Nat) (ok : Nat → Nat → Prop) (g : pm_H) : Prop := ∀ p, p < P9 h → ∀ o, o < N9 h → ok p o → gi g 76 (p * 8 + o) = nJ (spF h c (p + 1) o)
theorem fi8_in {s c p b : Nat} {Q : pm_H → Option Value → Prop} (hh : HH h) (R : QRE h) (hc : c < N9 h) (p1 : 1 ≤ p) (pp : p ≤ P9 h) (j : Nat) : ∀ {g : pm_H} {o : Nat} (lv : List (Nat × Value)), o + j = N9 h → HH g → fr_g FTF h g → (∀ i, i < N9 h → gi g 63 i = nJ (spF h c p i)) → OUT h c (fun p' o' => p' < p - 1 ∨ (p' = p - 1 ∧ o' < o)) g → pm_get lv 0 = some (.ref 0) → pm_get lv 1 = some (.ref (54 + 2 * s)) → pm_get lv 2 = some (.int (nJ c)) → pm_get lv 3 = some (.int (nJ b)) → pm_get lv 4 = some (.int (nJ p)) → pm_get lv 5 = some (.int (nJ o)) → (∀ (g' : pm_H) (lv' : List (Nat × Value)), HH g' → fr_g FTF h g' → OUT h c (fun p' _ => p' < p) g' → pm_get lv' 0 = some (.ref 0) → pm_get lv' 1 = some (.ref (54 + 2 * s)) → pm_get lv' 2 = some (.int (nJ c)) → pm_get lv' 3 = some (.int (nJ b)) → pm_get lv' 4 = some (.int (nJ p)) → Ends (pm_at tX8_fitting) (pm_Rt pm_P (d + 6)) (86, lv', [], g', 0, 0) Q) → Ends (pm_at tX8_fitting) (pm_Rt pm_P (d + 6)) (43, lv, [], g, 0, 0) Q := by
  obtain ⟨l3, p8, n8⟩ := g9s hh
  have B := B9_of R
  induction j with
  | zero =>
    intro g o lv hj hg f t O L0 L1 L2 L3 L4 L5 K
    obtain ⟨f4, f0⟩ := c8F hh R f
    refine E_il rfl L5 ?_
    refine E_al rfl L0 ?_
    refine E_ogr (q := 15) rfl hg rfl rfl ?_
    refine E_ogf (q := (0, 8)) rfl hg rfl rfl f4 ?_
    refine E_icT rfl (decide_eq_true ((nJ_le (by first | decide | with_reducible assumption | omega) (by first | decide | with_reducible assumption | omega)).mpr (by first | decide | with_reducible assumption | omega))) ?_
    exact K g lv hg f (fun p' hp' o' ho' q => O p' hp' o' ho' (by first | decide | with_reducible assumption | omega)) L0 L1 L2 L3 L4
  | succ j ih =>
    intro g o lv hj hg f t O L0 L1 L2 L3 L4 L5 K
    obtain ⟨f4, f0⟩ := c8F hh R f
    have ho : o < N9 h := by omega
    have sb := spF_b hh B (c := c) p1 pp ho
    refine E_il rfl L5 ?_
    refine E_al rfl L0 ?_
    refine E_ogr (q := 15) rfl hg rfl rfl ?_
    refine E_ogf (q := (0, 8)) rfl hg rfl rfl f4 ?_
    refine E_icF rfl (decide_eq_false (fun z => absurd ((nJ_le (by first | decide | with_reducible assumption | omega) (by first | decide | with_reducible assumption | omega)).mp z) (by first | decide | with_reducible assumption | omega))) ?_
    refine E_al rfl L0 ?_
    refine E_ogr (q := 76) rfl hg rfl rfl ?_
    refine E_il rfl L4 ?_
    refine E_ci 1 rfl ci1 ?_
    refine E_bin rfl (nJ_sub (by first | decide | with_reducible assumption | omega)) ?_
    refine E_ci 8 rfl ci8 ?_
    refine E_bin rfl (nJ_mul _ _) ?_
    refine E_il rfl L5 ?_
    refine E_bin rfl (nJ_add _ _) ?_
    refine E_al rfl L0 ?_
    refine E_ogr (q := 62) rfl hg rfl rfl ?_
    refine E_ogr (q := 63) rfl hg rfl rfl ?_
    refine E_il rfl L5 ?_
    refine E_ial rfl hg rfl (by first | decide | with_reducible assumption | omega) (by decide) (t o ho) ?_
    refine E_ias rfl hg rfl (by first | decide | with_reducible assumption | omega) (by decide) ?_
    have b76 : bd 76 ((p - 1) * 8 + o) = some (0, 9) := bd_u rfl (by first | decide | with_reducible assumption | omega)
    refine E_inc rfl L5 (nJ_inc _) (fun lv1 K5 kp => ?_)
    refine E_goto rfl ?_
    refine ih lv1 (by first | decide | with_reducible assumption | omega) (HH_ptn hg b76 (by first | decide | with_reducible assumption | omega) (by first | decide | with_reducible assumption | omega) (by first | decide | with_reducible assumption | omega)) (fr_ptr (l := 0) (u := 63) rfl (by first | decide | with_reducible assumption | omega) (by first | decide | with_reducible assumption | omega) f) (fun i hi => by rw [gi_ne (by first | exact gxx rfl | omega)]; exact t i hi) (fun p' hp' o' ho' q => ?_) (kp 0 _ (nbz rfl) rfl L0) (kp 1 _ (nbz rfl) rfl L1) (kp 2 _ (nbz rfl) rfl L2) (kp 3 _ (nbz rfl) rfl L3) (kp 4 _ (nbz rfl) rfl L4) K5 K
    by_cases e : p' = p - 1 ∧ o' = o
    · rw [e.1, e.2, gi_ptn hg b76 (by first | decide | with_reducible assumption | omega) (by first | decide | with_reducible assumption | omega) (by first | decide | with_reducible assumption | omega), show p - 1 + 1 = p by omega]
    · rw [gi_ne (fun _ => by omega)]
      exact O p' hp' o' ho' (by first | decide | with_reducible assumption | omega)
theorem fi8_out {s c : Nat} (hh : HH h) (R : QRE h) (N : NU h) (hs : s < 4) (G : GOOD (rf h) (mR h) (rlN h) (N9 h) (P9 h) s) (hc : c < N9 h) (j : Nat) : ∀ {g : pm_H} {p : Nat} (lv : List (Nat × Value)), p + j = P9 h + 1 → 1 ≤ p → HH g → fr_g FTF h g → OUT h c (fun p' _ => p' < p - 1) g → pm_get lv 0 = some (.ref 0) → pm_get lv 1 = some (.ref (54 + 2 * s)) → pm_get lv 2 = some (.int (nJ c)) → pm_get lv 3 = some (.int (nJ (lawB (fitP h s c) (p - 1)))) → pm_get lv 4 = some (.int (nJ p)) → Ends (pm_at tX8_fitting) (pm_Rt pm_P (d + 6)) (5, lv, [], g, 0, 0) (fun h' r => HH h' ∧ fr_g FTF h h' ∧ OUT h c (fun _ _ => True) h' ∧ r = some (.int (nJ (ftB h s c)))) := by
  obtain ⟨l3, p8, n8⟩ := g9s hh
  have B := B9_of R
  induction j with
  | zero =>
    intro g p lv hj p1 hg f O L0 L1 L2 L3 L4
    obtain ⟨f4, f0⟩ := c8F hh R f
    refine E_il rfl L4 ?_
    refine E_al rfl L0 ?_
    refine E_ogr (q := 15) rfl hg rfl rfl ?_
    refine E_ogf (q := (0, 8)) rfl hg rfl rfl f0 ?_
    refine E_icT rfl (decide_eq_true ((nJ_lt (by first | decide | with_reducible assumption | omega) (by first | decide | with_reducible assumption | omega)).mpr (by first | decide | with_reducible assumption | omega))) ?_
    refine E_il rfl L3 ?_
    have e : p - 1 = P9 h := by omega
    exact E_rti rfl ⟨hg, f, fun p' hp' o' ho' _ => O p' hp' o' ho' (by first | decide | with_reducible assumption | omega), by rw [e]; rfl⟩
  | succ j ih =>
    intro g p lv hj p1 hg f O L0 L1 L2 L3 L4
    obtain ⟨f4, f0⟩ := c8F hh R f
    have kg : K9 h g := K9_fr f rfl rfl rfl rfl
    have Rg := QRE_fr f rfl R
    have bl := lawB_lt (p := fitP h s c) (p - 1)
    have b8 : 2 ^ (p - 1) ≤ 2 ^ 7 := Nat.pow_le_pow_right (by first | decide | with_reducible assumption | omega) (by first | decide | with_reducible assumption | omega)
    refine E_il rfl L4 ?_
    refine E_al rfl L0 ?_
    refine E_ogr (q := 15) rfl hg rfl rfl ?_
    refine E_ogf (q := (0, 8)) rfl hg rfl rfl f0 ?_
    refine E_icF rfl (decide_eq_false (fun z => absurd ((nJ_lt (by first | decide | with_reducible assumption | omega) (by first | decide | with_reducible assumption | omega)).mp z) (by first | decide | with_reducible assumption | omega))) ?_
    refine E_al rfl L0 ?_
    refine E_il rfl L2 ?_
    refine E_il rfl L4 ?_
    refine E_call rfl (Sp_le (by first | exact Nat.add_le_add_left (Nat.le_of_ble_eq_true rfl) _ | exact Nat.le_of_ble_eq_true rfl | omega) (sp_parkWithS (d := d) (h := g) (c := c) (p := p) hg Rg (by rw [N9_K kg]; exact hc) p1 (by rw [P9_K kg]; omega))) (chkO (a := 0) hg rfl rfl rfl rfl (by show 0 ≤ 8; decide)) (fun h1 r1 => ?_)
    rintro ⟨e1, hh1, f1, t1⟩
    rw [e1]
    rw [N9_K kg, spF_K kg] at t1
    have F1 : fr_g FTF h h1 := fr_trans f (fr_wk rfl f1)
    have O1 : OUT h c (fun p' _ => p' < p - 1) h1 := fun p' hp' o' ho' q => by
      rw [fr_gi f1 (rg_no rfl _)]; exact O p' hp' o' ho' q
    refine E_al rfl L0 ?_
    refine E_al rfl L1 ?_
    refine E_call rfl (Sp_le (by first | exact Nat.add_le_add_left (Nat.le_of_ble_eq_true rfl) _ | exact Nat.le_of_ble_eq_true rfl | omega) (sp_isAsSeenH (d := d) (sp := spF h c p) hh hh1 (CEQ_of R N F1 rfl) hs n8 G (fun i hi => ⟨t1 i hi, by have := spF_b hh B (c := c) p1 (show p ≤ P9 h by omega) hi; omega⟩))) (chkO (a := 0) hh1 rfl rfl rfl rfl (by show 0 ≤ 8; decide)) (fun h3 r3 => ?_)
    rintro ⟨e3, f3⟩
    rw [e3, f3]
    have eq : seen h s (spF h c p) = fitP h s c (p - 1) := by unfold fitP; rw [show p - 1 + 1 = p by omega]
    rw [eq]
    show Ends _ _ (29, lv, [.int (nJ (b1N (fitP h s c (p - 1))))], h1, 0, 0) _
    have ep : lawB (fitP h s c) p = bif fitP h s c (p - 1) then lawB (fitP h s c) (p - 1) + 2 ^ (p - 1) else lawB (fitP h s c) (p - 1) := by
      conv => lhs; rw [show p = p - 1 + 1 by omega]
      rfl
    have nx : ∀ lv : List (Nat × Value), pm_get lv 0 = some (.ref 0) → pm_get lv 1 = some (.ref (54 + 2 * s)) → pm_get lv 2 = some (.int (nJ c)) → pm_get lv 3 = some (.int (nJ (lawB (fitP h s c) p))) → pm_get lv 4 = some (.int (nJ p)) → Ends (pm_at tX8_fitting) (pm_Rt pm_P (d + 6)) (40, lv, [], h1, 0, 0) (fun h' r => HH h' ∧ fr_g FTF h h' ∧ OUT h c (fun _ _ => True) h' ∧ r = some (.int (nJ (ftB h s c)))) := by
      intro lv M0 M1 M2 M3 M4
      refine E_ci 0 rfl ci0 ?_
      refine E_is rfl (fun lv1 K5 kp => ?_)
      refine fi8_in (s := s) hh R hc p1 (show p ≤ P9 h by omega) (N9 h) (o := 0) lv1 (by first | decide | with_reducible assumption | omega) hh1 F1 t1 (fun p' hp' o' ho' q => O1 p' hp' o' ho' (by first | decide | with_reducible assumption | omega)) (kp 0 _ (nbz rfl) rfl M0) (kp 1 _ (nbz rfl) rfl M1) (kp 2 _ (nbz rfl) rfl M2) (kp 3 _ (nbz rfl) rfl M3) (kp 4 _ (nbz rfl) rfl M4) K5 (fun g' lv' hg' f' O' A0 A1 A2 A3 A4 => ?_)
      refine E_inc rfl A4 (nJ_inc _) (fun lv2 K4 kp2 => ?_)
      refine E_goto rfl ?_
      exact ih lv2 (by first | decide | with_reducible assumption | omega) (by first | decide | with_reducible assumption | omega) hg' f' (fun p' hp' o' ho' q => O' p' hp' o' ho' (by first | decide | with_reducible assumption | omega)) (kp2 0 _ (nbz rfl) rfl A0) (kp2 1 _ (nbz rfl) rfl A1) (kp2 2 _ (nbz rfl) rfl A2) (by rw [show p + 1 - 1 = p by omega]; exact kp2 3 _ (nbz rfl) rfl A3) K4
    cases b : fitP h s c (p - 1) with
    | false =>
      rw [b] at ep
      refine E_ifT rfl (by decide) ?_
      exact nx lv L0 L1 L2 (by rw [ep]; exact L3) L4
    | true =>
      rw [b] at ep
      refine E_ifF rfl (by decide) ?_
      refine E_il rfl L3 ?_
      refine E_il rfl L4 ?_
      refine E_call rfl (Sp_le (by first | exact Nat.add_le_add_left (Nat.le_of_ble_eq_true rfl) _ | exact Nat.le_of_ble_eq_true rfl | omega) (sp_placeBit (d := d) (k := p) p1 (by first | decide | with_reducible assumption | omega))) (chkS rfl (by show 1 ≤ 8; decide)) (fun h4 r4 => ?_)
      rintro ⟨e4, f4'⟩
      rw [e4, f4']
      refine E_bin rfl (show nJ (lawB (fitP h s c) (p - 1)) ||| nJ (2 ^ (p - 1)) = nJ (lawB (fitP h s c) (p - 1) + 2 ^ (p - 1)) from or2_tab ⟨lawB (fitP h s c) (p - 1), by omega⟩ ⟨p - 1, by omega⟩ (isB_hiX ⟨lawB (fitP h s c) (p - 1), by omega⟩ ⟨p - 1, by omega⟩ bl)) ?_
      refine E_is rfl (fun lv1 K3 kp => ?_)
      exact nx lv1 (kp 0 _ (nbz rfl) rfl L0) (kp 1 _ (nbz rfl) rfl L1) (kp 2 _ (nbz rfl) rfl L2) (by rw [ep]; exact K3) (kp 4 _ (nbz rfl) rfl L4)
theorem sp_fitting8 {s c : Nat} (hh : HH h) (R : QRE h) (N : NU h) (hs : s < 4) (G : GOOD (rf h) (mR h) (rlN h) (N9 h) (P9 h) s) (hc : c < N9 h) : Sp (d + 7) 109 h [.ref 0, .ref (54 + 2 * s), .int (nJ c)] (fun h' r => HH h' ∧ fr_g FTF h h' ∧ OUT h c (fun _ _ => True) h' ∧ r = some (.int (nJ (ftB h s c)))) := by
  refine Sp_of aiX8_fitting rfl rfl rfl ?_
  have L0 : pm_get (lv_args 0 [.ref 0, .ref (54 + 2 * s), .int (nJ c)]) 0 = some (.ref 0) := rfl
  have L1 : pm_get (lv_args 0 [.ref 0, .ref (54 + 2 * s), .int (nJ c)]) 1 = some (.ref (54 + 2 * s)) := rfl
  have L2 : pm_get (lv_args 0 [.ref 0, .ref (54 + 2 * s), .int (nJ c)]) 2 = some (.int (nJ c)) := rfl
  generalize lv_args 0 [.ref 0, .ref (54 + 2 * s), .int (nJ c)] = lv at L0 L1 L2 ⊢
  refine E_ci 0 rfl ci0 ?_
  refine E_is rfl (fun lv1 K3 kp => ?_)
  refine E_ci 1 rfl ci1 ?_
  refine E_is rfl (fun lv2 K4 kp2 => ?_)
  exact fi8_out hh R N hs G hc (P9 h) (p := 1) lv2 (by first | decide | with_reducible assumption | omega) (by first | decide | with_reducible assumption | omega) hh (fr_rf _ _) (fun p' hp' o' ho' q => absurd q (by first | decide | with_reducible assumption | omega)) (kp2 0 _ (nbz rfl) rfl (kp 0 _ (nbz rfl) rfl L0)) (kp2 1 _ (nbz rfl) rfl (kp 1 _ (nbz rfl) rfl L1)) (kp2 2 _ (nbz rfl) rfl (kp 2 _ (nbz rfl) rfl L2)) (kp2 3 _ (nbz rfl) rfl K3) K4
end FIT
end
section
/-! whom to ask: the class (wants u117) -/
section WST
variable {h g : pm_H} {d : Nat} {x y : Int32}
noncomputable def BW (h : pm_H) (s c w : Nat) : Prop := w < 512 ∧ ∀ q, q < P9 h → isB w q = fitP h s c q
theorem BW_ft (hh : HH h) {s c : Nat} : BW h s c (ftB h s c) := ⟨by have := ftB_lt hh (s := s) (c := c); omega, fun q hq => lawB_in hq (g9s hh).2.1⟩
noncomputable def ouF (h : pm_H) (c a : Nat) : Nat → Nat := fun q => spF h c (q + 1) a
/-- hasCar as the reference has it -/
theorem sp_hasCarH (hh : HH h) (R : QRE h) : Sp (d + 1) 114 h [.ref 0, .int y] (fun h' r => h' = h ∧ r = some (.int (zb (crB h y = true)))) := by
  refine Sp_mono ?_ (sp_hasCar8 (d := d) (x := y) hh)
  rintro h' r ⟨e, q⟩
  have k4 : gn h 15 4 = N9 h := gn_eq R.2.1.1.2.2.1
  refine ⟨e, ?_⟩
  rw [q, k4, zb_dcX]
  rfl
theorem crB_c (q : crB h y = true) (n8 : N9 h ≤ 8) : ∃ c, c < N9 h ∧ y = nJ c ∧ y.toInt.toNat = c := by
  have := of_decide_eq_true q
  exact ⟨y.toInt.toNat, by omega, nJ_of this.1, rfl⟩
theorem sp_fits8 (hh : HH h) (R : QRE h) (N : NU h) : Sp (d + 8) 108 h [.ref 0, .int x, .int y] (fun h' r => fr_g FTF h h' ∧ r = some (.int (sqv h x y (fun s c => nJ (ftB h s c))))) := by
  obtain ⟨l3, p8, n8⟩ := g9s hh
  refine Sp_of aiX8_fits rfl rfl rfl ?_
  have L0 : pm_get (lv_args 0 [.ref 0, .int x, .int y]) 0 = some (.ref 0) := rfl
  have L1 : pm_get (lv_args 0 [.ref 0, .int x, .int y]) 1 = some (.int x) := rfl
  have L2 : pm_get (lv_args 0 [.ref 0, .int x, .int y]) 2 = some (.int y) := rfl
  generalize lv_args 0 [.ref 0, .int x, .int y] = lv at L0 L1 L2 ⊢
  refine E_al rfl L0 ?_
  refine E_il rfl L1 ?_
  refine E_al rfl L0 ?_
  refine E_il rfl L2 ?_
  refine E_call rfl (Sp_le (by first | exact Nat.add_le_add_left (Nat.le_of_ble_eq_true rfl) _ | exact Nat.le_of_ble_eq_true rfl | omega) (sp_hasCarH (d := d) (y := y) hh R)) (chkO (a := 0) hh rfl rfl rfl rfl (by show 2 ≤ 8; decide)) (fun h1 r1 => ?_)
  rintro ⟨e1, f1⟩
  rw [e1, f1]
  refine E_call rfl (Sp_le (by first | exact Nat.add_le_add_left (Nat.le_of_ble_eq_true rfl) _ | exact Nat.le_of_ble_eq_true rfl | omega) (sp_sightH (d := d) (x := x) (is := crB h y) hh R N)) (chkO (a := 0) hh rfl rfl rfl rfl (by show 0 ≤ 8; decide)) (fun h2 r2 => ?_)
  rintro ⟨e2, f2⟩
  rw [e2, f2]
  refine E_is rfl (fun lv1 K3 kp => ?_)
  have A0 := kp 0 _ (nbz rfl) rfl L0
  have A1 := kp 1 _ (nbz rfl) rfl L1
  have A2 := kp 2 _ (nbz rfl) rfl L2
  refine E_il rfl K3 ?_
  by_cases z : why h (crB h y) x = 0
  · rw [show sqv h x y (fun s c => nJ (ftB h s c)) = nJ (ftB h x.toInt.toNat y.toInt.toNat) from if_pos z]
    refine E_ifT rfl (decide_eq_true z) ?_
    obtain ⟨q, s, hs, rfl, G⟩ := sgv_0 z
    obtain ⟨c, hc, rfl, ec⟩ := crB_c q n8
    rw [nJ_nat hs, ec]
    refine E_al rfl A0 ?_
    refine E_al rfl A0 ?_
    refine E_ogr (q := 53) rfl hh rfl rfl ?_
    refine E_il rfl A1 ?_
    refine E_aal rfl hh rfl (slot_at s hs) (by decide) ?_
    refine E_il rfl A2 ?_
    refine E_call rfl (sp_fitting8 (d := d) hh R N hs G hc) (chkO (a := 0) hh rfl rfl rfl rfl (by show 0 ≤ 8; decide)) (fun h3 r3 => ?_)
    rintro ⟨-, f3, -, e3⟩
    rw [e3]
    exact E_rti rfl ⟨f3, rfl⟩
  · rw [show sqv h x y (fun s c => nJ (ftB h s c)) = why h (crB h y) x from if_neg z]
    refine E_ifF rfl (decide_eq_false z) ?_
    refine E_il rfl K3 ?_
    refine E_goto rfl ?_
    exact E_rti rfl ⟨fr_rf _ _, rfl⟩
noncomputable def akS (h : pm_H) (s c k : Nat) : Nat × Nat := akN (fitP h s c) (fun k => ouF h c k) (P9 h) (pcT (ftB h s c)) k
theorem akS_b (hh : HH h) {s c : Nat} (k : Nat) : (akS h s c k).1 ≤ k ∧ (akS h s c k).2 ≤ 9 := by
  obtain ⟨a, b⟩ := akN_le (f := fitP h s c) (o := fun k => ouF h c k) (n := P9 h) (b0 := pcT (ftB h s c)) k
  have := pcT_le ⟨ftB h s c, by have := ftB_lt hh (s := s) (c := c); omega⟩
  exact ⟨a, Nat.le_trans b this⟩
theorem akS_s {s c k : Nat} : akS h s c (k + 1) = if wsN (fitP h s c) (ouF h c k) (P9 h) (P9 h) < (akS h s c k).2 then (k + 1, wsN (fitP h s c) (ouF h c k) (P9 h) (P9 h)) else akS h s c k := rfl
end WST
end
section
/-! what a CAR can have wanted, whom to ask: the reference (wants u118) -/
noncomputable def BYW (h : pm_H) (c : Nat) (ok : Nat → Nat → Prop) (g : pm_H) : Prop := ∀ p, p < P9 h → ∀ o, o < N9 h → ok p o → gi g 102 (8 * (p + 1) + o) = pO (spF h c (p + 1) o)
theorem pO_inj {a b : Nat} (ha : a < 1000) (hb : b < 1000) : pO a = pO b ↔ a = b := by
  refine ⟨fun q => ?_, fun q => by rw [q]⟩
  unfold pO at q
  have z : ∀ n : Nat, n < 1000 → ¬ n = 0 → nJ n ≠ -1 := fun n hn h0 e => h0 ((pO_n1 hn).mp (by unfold pO; rw [if_neg h0]; exact e))
  by_cases c : a = 0
  · by_cases e : b = 0
    · omega
    · rw [if_pos c, if_neg e] at q; exact absurd q.symm (z b hb e)
  · by_cases e : b = 0
    · rw [if_neg c, if_pos e] at q; exact absurd q (z a ha c)
    · rw [if_neg c, if_neg e] at q; exact (nJ_eq (by first | decide | with_reducible assumption | omega) (by first | decide | with_reducible assumption | omega)).mp q
section SN9
variable {h g : pm_H} {d : Nat} {x y : Int32}
theorem sk9_tr {a b c : pm_H} (k : SK a b) (k2 : SK b c) : SK a c := ⟨K9_tr k.1 k2.1, fun q hq => by
  obtain ⟨a1, a2, a3⟩ := k2.2 q hq
  obtain ⟨b1, b2, b3⟩ := k.2 q hq
  exact ⟨a1.trans b1, a2.trans b2, fun i hi => (a3 i hi).trans (b3 i hi)⟩⟩
theorem sk9_fr {M : List Rng} {a b : pm_H} (f : fr_g M a b) (hb : (M.all (fun r => !(Nat.beq r.1 84)) && (M.all (fun r => !(Nat.beq r.1 85)) && (M.all (fun r => !(Nat.beq r.1 87)) && (M.all (fun r => !(Nat.beq r.1 83)) && slrB M)))) = true) : SK a b := by
  simp only [Bool.and_eq_true] at hb
  exact SK_fr f hb.1 hb.2.1 hb.2.2.1 hb.2.2.2.1 hb.2.2.2.2
/-- by whom: rows of places by the place that the CAR wants -/
theorem bw9_in {c p : Nat} {sl : Int32} {Q : pm_H → Option Value → Prop} (hh : HH h) (B : B9 h) (hc : c < N9 h) (p1 : 1 ≤ p) (pp : p ≤ P9 h) (j : Nat) : ∀ {g : pm_H} {o w : Nat} (lv : List (Nat × Value)), o + j = N9 h → HH g → SK h g → gi g 77 41 = nJ w → (∀ i, i < N9 h → gi g 91 i = pO (spF h c p i)) → BYW h c (fun p' o' => p' < p - 1 ∨ (p' = p - 1 ∧ o' < o)) g → pm_get lv 0 = some (.ref 77) → pm_get lv 1 = some (.int sl) → pm_get lv 2 = some (.int (nJ c)) → pm_get lv 3 = some (.int (nJ p)) → pm_get lv 4 = some (.int (nJ o)) → (∀ (g' : pm_H) (lv' : List (Nat × Value)), HH g' → SK h g' → gi g' 77 41 = nJ w → BYW h c (fun p' _ => p' < p) g' → pm_get lv' 0 = some (.ref 77) → pm_get lv' 1 = some (.int sl) → pm_get lv' 2 = some (.int (nJ c)) → pm_get lv' 3 = some (.int (nJ p)) → Ends (pm_at tX9_laysSeen) (pm_Rt pm_P (d + 5)) (97, lv', [], g', 0, 0) Q) → Ends (pm_at tX9_laysSeen) (pm_Rt pm_P (d + 5)) (63, lv, [], g, 0, 0) Q := by
  obtain ⟨l3, p8, n8⟩ := g9s hh
  induction j with
  | zero =>
    intro g o w lv hj hg k g41 t O L0 L1 L2 L3 L4 K
    refine E_il rfl L4 ?_
    refine E_al rfl L0 ?_
    refine E_call rfl (Sp_le (by first | exact Nat.add_le_add_left (Nat.le_of_ble_eq_true rfl) _ | exact Nat.le_of_ble_eq_true rfl | omega) (sp_cars (d := d) hg)) (chk77 hg rfl rfl (by show 1 ≤ 8; decide)) (fun h1 r1 => ?_)
    rintro ⟨e1, f1, -⟩
    rw [e1, f1, show gn g 84 3 = N9 h from N9_K k.1]
    refine E_icT rfl (decide_eq_true ((nJ_le (by first | decide | with_reducible assumption | omega) (by first | decide | with_reducible assumption | omega)).mpr (by first | decide | with_reducible assumption | omega))) ?_
    exact K g lv hg k g41 (fun p' hp' o' ho' q => O p' hp' o' ho' (by first | decide | with_reducible assumption | omega)) L0 L1 L2 L3
  | succ j ih =>
    intro g o w lv hj hg k g41 t O L0 L1 L2 L3 L4 K
    have ho : o < N9 h := by omega
    have sb := spF_b hh B (c := c) p1 pp ho
    refine E_il rfl L4 ?_
    refine E_al rfl L0 ?_
    refine E_call rfl (Sp_le (by first | exact Nat.add_le_add_left (Nat.le_of_ble_eq_true rfl) _ | exact Nat.le_of_ble_eq_true rfl | omega) (sp_cars (d := d) hg)) (chk77 hg rfl rfl (by show 1 ≤ 8; decide)) (fun h1 r1 => ?_)
    rintro ⟨e1, f1, -⟩
    rw [e1, f1, show gn g 84 3 = N9 h from N9_K k.1]
    refine E_icF rfl (decide_eq_false (fun z => absurd ((nJ_le (by first | decide | with_reducible assumption | omega) (by first | decide | with_reducible assumption | omega)).mp z) (by first | decide | with_reducible assumption | omega))) ?_
    refine E_al rfl L0 ?_
    refine E_gr rfl hg (q := 102) rfl ?_
    refine E_ci 8 rfl ci8 ?_
    refine E_il rfl L3 ?_
    refine E_bin rfl (nJ_mul _ _) ?_
    refine E_il rfl L4 ?_
    refine E_bin rfl (nJ_add _ _) ?_
    refine E_al rfl L0 ?_
    refine E_gr rfl hg (q := 91) rfl ?_
    refine E_il rfl L4 ?_
    refine E_ial rfl hg rfl (by first | decide | with_reducible assumption | omega) (by decide) (t o ho) ?_
    refine E_ias rfl hg rfl (by first | decide | with_reducible assumption | omega) (by decide) ?_
    have b102 : bd 102 (8 * p + o) = some (-1, 9) := bd_u rfl (by first | decide | with_reducible assumption | omega)
    have z1 : (-1 : Int32).toInt = -1 := rfl
    have vb : -1 ≤ (pO (spF h c p o)).toInt ∧ (pO (spF h c p o)).toInt ≤ 9 := by
      unfold pO
      split
      · rw [z1]; omega
      · rw [nJ_toInt (by first | decide | with_reducible assumption | omega)]; omega
    have hg2 : HH (pt g 102 (8 * p + o) (pO (spF h c p o))) := HH_pt hg b102 vb.1 vb.2
    have e102 : gi (pt g 102 (8 * p + o) (pO (spF h c p o))) 102 (8 * p + o) = pO (spF h c p o) := gi_pt hg b102 vb.1 vb.2
    have k2 : SK h (pt g 102 (8 * p + o) (pO (spF h c p o))) := sk9_tr k (sk9_fr (M := [(102, 0, 71)]) (fr_ptr (l := 0) (u := 71) rfl (by first | decide | with_reducible assumption | omega) (by first | decide | with_reducible assumption | omega) (fr_rf _ _)) rfl)
    refine E_inc rfl L4 (nJ_inc _) (fun lv1 K4 kp => ?_)
    refine E_goto rfl ?_
    refine ih lv1 (by first | decide | with_reducible assumption | omega) hg2 k2 (by rw [gi_ne (by first | exact gxx rfl | omega)]; exact g41) (fun i hi => by rw [gi_ne (by first | exact gxx rfl | omega)]; exact t i hi) (fun p' hp' o' ho' q => ?_) (kp 0 _ (nbz rfl) rfl L0) (kp 1 _ (nbz rfl) rfl L1) (kp 2 _ (nbz rfl) rfl L2) (kp 3 _ (nbz rfl) rfl L3) K4 K
    by_cases e : p' = p - 1 ∧ o' = o
    · rw [e.1, e.2, show p - 1 + 1 = p by omega]
      exact e102
    · rw [gi_ne (fun _ => by omega)]
      exact O p' hp' o' ho' (by first | decide | with_reducible assumption | omega)
theorem bw9_out {s c : Nat} {Q : pm_H → Option Value → Prop} (hh : HH h) (V : V9 h) (B : B9 h) (hs : s < 4) (G : GOOD (rf h) (mR h) (rlN h) (N9 h) (P9 h) s) (hc : c < N9 h) (K : ∀ (g' : pm_H) (lv' : List (Nat × Value)), HH g' → SK h g' → gi g' 77 41 = nJ (ftB h s c) → BYW h c (fun _ _ => True) g' → pm_get lv' 0 = some (.ref 77) → Ends (pm_at tX9_laysSeen) (pm_Rt pm_P (d + 5)) (103, lv', [], g', 0, 0) Q) (j : Nat) : ∀ {g : pm_H} {p : Nat} (lv : List (Nat × Value)), p + j = P9 h + 1 → 1 ≤ p → HH g → SK h g → gi g 77 41 = nJ (lawB (fitP h s c) (p - 1)) → BYW h c (fun p' _ => p' < p - 1) g → pm_get lv 0 = some (.ref 77) → pm_get lv 1 = some (.int (nJ s)) → pm_get lv 2 = some (.int (nJ c)) → pm_get lv 3 = some (.int (nJ p)) → Ends (pm_at tX9_laysSeen) (pm_Rt pm_P (d + 5)) (7, lv, [], g, 0, 0) Q := by
  obtain ⟨l3, p8, n8⟩ := g9s hh
  induction j with
  | zero =>
    intro g p lv hj p1 hg k g41 O L0 L1 L2 L3
    refine E_il rfl L3 ?_
    refine E_al rfl L0 ?_
    refine E_call rfl (Sp_le (by first | exact Nat.add_le_add_left (Nat.le_of_ble_eq_true rfl) _ | exact Nat.le_of_ble_eq_true rfl | omega) (sp_places (d := d) hg)) (chk77 hg rfl rfl (by show 1 ≤ 8; decide)) (fun h1 r1 => ?_)
    rintro ⟨e1, f1, -⟩
    rw [e1, f1, show gn g 84 0 = P9 h from P9_K k.1]
    refine E_icT rfl (decide_eq_true ((nJ_lt (by first | decide | with_reducible assumption | omega) (by first | decide | with_reducible assumption | omega)).mpr (by first | decide | with_reducible assumption | omega))) ?_
    have e : p - 1 = P9 h := by omega
    rw [e] at g41
    exact K g lv hg k g41 (fun p' hp' o' ho' _ => O p' hp' o' ho' (by first | decide | with_reducible assumption | omega)) L0
  | succ j ih =>
    intro g p lv hj p1 hg k g41 O L0 L1 L2 L3
    have bl := lawB_lt (p := fitP h s c) (p - 1)
    have b8 : 2 ^ (p - 1) ≤ 2 ^ 7 := Nat.pow_le_pow_right (by first | decide | with_reducible assumption | omega) (by first | decide | with_reducible assumption | omega)
    refine E_il rfl L3 ?_
    refine E_al rfl L0 ?_
    refine E_call rfl (Sp_le (by first | exact Nat.add_le_add_left (Nat.le_of_ble_eq_true rfl) _ | exact Nat.le_of_ble_eq_true rfl | omega) (sp_places (d := d) hg)) (chk77 hg rfl rfl (by show 1 ≤ 8; decide)) (fun h1 r1 => ?_)
    rintro ⟨e1, f1, -⟩
    rw [e1, f1, show gn g 84 0 = P9 h from P9_K k.1]
    refine E_icF rfl (decide_eq_false (fun z => absurd ((nJ_lt (by first | decide | with_reducible assumption | omega) (by first | decide | with_reducible assumption | omega)).mp z) (by first | decide | with_reducible assumption | omega))) ?_
    refine E_al rfl L0 ?_
    refine E_call rfl (Sp_le (by first | exact Nat.add_le_add_left (Nat.le_of_ble_eq_true rfl) _ | exact Nat.le_of_ble_eq_true rfl | omega) (sp_laysX (d := d) hg (V9_K k.1 V))) (chk77 hg rfl rfl (by show 0 ≤ 8; decide)) (fun h2 r2 => ?_)
    rintro ⟨e2, hh2, f2, q22, q23, w2⟩
    rw [e2]
    have k2 : SK h h2 := sk9_tr k (sk9_fr f2 rfl)
    obtain ⟨-, u0, u3, u9⟩ := LY9_of k.1 hh2 f2 w2
    rw [show gn g 84 1 = L9 h from L9_K k.1] at q22
    rw [show gn g 84 3 = N9 h from N9_K k.1] at q23
    have g41' : gi h2 77 41 = nJ (lawB (fitP h s c) (p - 1)) := by rw [fr_gi f2 rfl]; exact g41
    have O2 : BYW h c (fun p' _ => p' < p - 1) h2 := fun p' hp' o' ho' q => by rw [fr_gi f2 (rg_no rfl _)]; exact O p' hp' o' ho' q
    refine E_al rfl L0 ?_
    refine E_gr rfl hh2 (q := 89) rfl ?_
    refine E_il rfl L2 ?_
    refine E_il rfl L3 ?_
    refine E_ias rfl hh2 rfl (by first | decide | with_reducible assumption | omega) (by decide) ?_
    have b89 : bd 89 c = some (0, 8) := bd_u rfl (by first | decide | with_reducible assumption | omega)
    have h3 : HH (pt h2 89 c (nJ p)) := HH_ptn hh2 b89 (by first | decide | with_reducible assumption | omega) (by first | decide | with_reducible assumption | omega) (by first | decide | with_reducible assumption | omega)
    have k3 : SK h (pt h2 89 c (nJ p)) := sk9_tr k2 (sk9_fr (M := [(89, 0, 7)]) (fr_ptr (l := 0) (u := 7) rfl (by first | decide | with_reducible assumption | omega) (by first | decide | with_reducible assumption | omega) (fr_rf _ _)) rfl)
    have t3 : ∀ i, i < N9 h → gn (pt h2 89 c (nJ p)) 89 i = fup (W9 h) c p i := fun i hi => by
      by_cases e : i = c
      · rw [e, fup_s]; exact gn_ptn hh2 b89 (by first | decide | with_reducible assumption | omega) (by first | decide | with_reducible assumption | omega) (by first | decide | with_reducible assumption | omega)
      · rw [gn_ne (fun _ => e), fup_n e]; exact u9 i hi
    have v0 : gn (pt h2 89 c (nJ p)) 84 0 = P9 h := by rw [gn_ne (by first | exact gxx rfl | omega)]; exact u0
    have v3 : gn (pt h2 89 c (nJ p)) 84 3 = N9 h := by rw [gn_ne (by first | exact gxx rfl | omega)]; exact u3
    have x22 : gi (pt h2 89 c (nJ p)) 77 22 = nJ (L9 h) := by rw [gi_ne (by first | exact gxx rfl | omega)]; exact q22
    have x23 : gi (pt h2 89 c (nJ p)) 77 23 = nJ (2 ^ N9 h - 1) := by rw [gi_ne (by first | exact gxx rfl | omega)]; exact q23
    have g41'' : gi (pt h2 89 c (nJ p)) 77 41 = nJ (lawB (fitP h s c) (p - 1)) := by rw [gi_ne (by first | exact gxx rfl | omega)]; exact g41'
    have O3 : BYW h c (fun p' _ => p' < p - 1) (pt h2 89 c (nJ p)) := fun p' hp' o' ho' q => by rw [gi_ne (by first | exact gxx rfl | omega)]; exact O2 p' hp' o' ho' q
    generalize pt h2 89 c (nJ p) = g3 at h3 k3 t3 v0 v3 x22 x23 g41'' O3 ⊢
    refine E_al rfl L0 ?_
    refine E_al rfl L0 ?_
    refine E_gf rfl h3 rfl x22 ?_
    refine E_call rfl (Sp_le (by first | exact Nat.add_le_add_left (Nat.le_of_ble_eq_true rfl) _ | exact Nat.le_of_ble_eq_true rfl | omega) (sp_parksW (d := d) (W := fup (W9 h) c p) hh h3 v0 v3 x22 x23 t3 (fW_b B p1 (by first | decide | with_reducible assumption | omega)))) (chk77 h3 rfl rfl (by show 0 ≤ 8; decide)) (fun h4 r4 => ?_)
    rintro ⟨e4, hh4, f4, -, t4, -⟩
    rw [e4]
    have k4 : SK h h4 := sk9_tr k3 (sk9_fr f4 rfl)
    have y41 : gi h4 77 41 = nJ (lawB (fitP h s c) (p - 1)) := by rw [fr_gi f4 rfl]; exact g41''
    have O4 : BYW h c (fun p' _ => p' < p - 1) h4 := fun p' hp' o' ho' q => by rw [fr_gi f4 (rg_no rfl _)]; exact O3 p' hp' o' ho' q
    refine E_al rfl L0 ?_
    refine E_dup rfl rfl ?_
    refine E_gf rfl hh4 rfl y41 ?_
    refine E_al rfl L0 ?_
    refine E_il rfl L1 ?_
    refine E_call rfl (Sp_le (by first | exact Nat.add_le_add_left (Nat.le_of_ble_eq_true rfl) _ | exact Nat.le_of_ble_eq_true rfl | omega) (sp_isSoH (d := d) (sp := spF h c p) hh hh4 k4.2 hs n8 G (fun i hi => ⟨t4 i hi, by have := spF_b hh B (c := c) p1 (show p ≤ P9 h by omega) hi; omega⟩))) (chk77 hh4 rfl rfl (by show 2 ≤ 8; decide)) (fun h5 r5 => ?_)
    rintro ⟨e5, f5⟩
    rw [e5, f5]
    have eq : seen h s (spF h c p) = fitP h s c (p - 1) := by unfold fitP; rw [show p - 1 + 1 = p by omega]
    rw [eq]
    show Ends _ _ (44, lv, [.int (nJ (b1N (fitP h s c (p - 1)))), .int (nJ (lawB (fitP h s c) (p - 1))), .ref 77], h4, 0, 0) _
    have ep : lawB (fitP h s c) p = bif fitP h s c (p - 1) then lawB (fitP h s c) (p - 1) + 2 ^ (p - 1) else lawB (fitP h s c) (p - 1) := by
      conv => lhs; rw [show p = p - 1 + 1 by omega]
      rfl
    have bl2 := lawB_lt (p := fitP h s c) p
    have b82 : 2 ^ p ≤ 2 ^ 8 := Nat.pow_le_pow_right (by first | decide | with_reducible assumption | omega) (by first | decide | with_reducible assumption | omega)
    have nx : ∀ v : Int32, nJ (lawB (fitP h s c) (p - 1)) ||| v = nJ (lawB (fitP h s c) p) → Ends (pm_at tX9_laysSeen) (pm_Rt pm_P (d + 5)) (56, lv, [.int v, .int (nJ (lawB (fitP h s c) (p - 1))), .ref 77], h4, 0, 0) Q := by
      intro v ev
      refine E_bin rfl ev ?_
      refine E_pf rfl hh4 rfl ?_
      have b41 : bd 77 41 = some (0, 255) := rfl
      have h6 : HH (pt h4 77 41 (nJ (lawB (fitP h s c) p))) := HH_ptn hh4 b41 (by first | decide | with_reducible assumption | omega) (by first | decide | with_reducible assumption | omega) (by first | decide | with_reducible assumption | omega)
      have k6 : SK h (pt h4 77 41 (nJ (lawB (fitP h s c) p))) := sk9_tr k4 (sk9_fr (M := [(77, 41, 43)]) (fr_ptr (l := 41) (u := 43) rfl (by first | decide | with_reducible assumption | omega) (by first | decide | with_reducible assumption | omega) (fr_rf _ _)) rfl)
      have z41 : gi (pt h4 77 41 (nJ (lawB (fitP h s c) p))) 77 41 = nJ (lawB (fitP h s c) p) := gi_ptn hh4 b41 (by first | decide | with_reducible assumption | omega) (by first | decide | with_reducible assumption | omega) (by first | decide | with_reducible assumption | omega)
      have t6 : ∀ i, i < N9 h → gi (pt h4 77 41 (nJ (lawB (fitP h s c) p))) 91 i = pO (spF h c p i) := fun i hi => by rw [gi_ne (by first | exact gxx rfl | omega)]; exact t4 i hi
      have O6 : BYW h c (fun p' _ => p' < p - 1) (pt h4 77 41 (nJ (lawB (fitP h s c) p))) := fun p' hp' o' ho' q => by rw [gi_ne (by first | exact gxx rfl | omega)]; exact O4 p' hp' o' ho' q
      generalize pt h4 77 41 (nJ (lawB (fitP h s c) p)) = g6 at h6 k6 z41 t6 O6 ⊢
      refine E_ci 0 rfl ci0 ?_
      refine E_is rfl (fun lv1 K4 kp => ?_)
      refine bw9_in (sl := nJ s) hh B hc p1 (show p ≤ P9 h by omega) (N9 h) (o := 0) lv1 (by first | decide | with_reducible assumption | omega) h6 k6 z41 t6 (fun p' hp' o' ho' q => O6 p' hp' o' ho' (by first | decide | with_reducible assumption | omega)) (kp 0 _ (nbz rfl) rfl L0) (kp 1 _ (nbz rfl) rfl L1) (kp 2 _ (nbz rfl) rfl L2) (kp 3 _ (nbz rfl) rfl L3) K4 (fun g' lv' hg' k' g41' O' M0 M1 M2 M3 => ?_)
      refine E_inc rfl M3 (nJ_inc _) (fun lv2 K3 kp2 => ?_)
      refine E_goto rfl ?_
      exact ih lv2 (by first | decide | with_reducible assumption | omega) (by first | decide | with_reducible assumption | omega) hg' k' (by rw [show p + 1 - 1 = p by omega]; exact g41') (fun p' hp' o' ho' q => O' p' hp' o' ho' (by first | decide | with_reducible assumption | omega)) (kp2 0 _ (nbz rfl) rfl M0) (kp2 1 _ (nbz rfl) rfl M1) (kp2 2 _ (nbz rfl) rfl M2) K3
    cases b : fitP h s c (p - 1) with
    | false =>
      rw [b] at ep
      refine E_ifT rfl (by decide) ?_
      refine E_ci 0 rfl ci0 ?_
      exact nx _ (by rw [ep]; exact Int32.or_zero)
    | true =>
      rw [b] at ep
      refine E_ifF rfl (by decide) ?_
      refine E_ci 1 rfl ci1 ?_
      refine E_il rfl L3 ?_
      refine E_ci 1 rfl ci1 ?_
      refine E_bin rfl (nJ_sub (by first | decide | with_reducible assumption | omega)) ?_
      refine E_bin rfl (show nJ 1 <<< (nJ (p - 1) &&& 31) = nJ (2 ^ (p - 1)) from shl_tab ⟨p - 1, by omega⟩) ?_
      refine E_goto rfl ?_
      exact nx _ (by rw [ep]; exact or2_tab ⟨lawB (fitP h s c) (p - 1), by omega⟩ ⟨p - 1, by omega⟩ (isB_hiX ⟨lawB (fitP h s c) (p - 1), by omega⟩ ⟨p - 1, by omega⟩ bl))
/-! at worst -/
theorem wo9_in {s c a q : Nat} {Q : pm_H → Option Value → Prop} (hh : HH h) (B : B9 h) (hg : HH g) (k : SK h g) (g41 : gi g 77 41 = nJ (ftB h s c)) (O : BYW h c (fun _ _ => True) g) (ha : a < N9 h) (hq : q < P9 h) (j : Nat) : ∀ {i w : Nat} (lv : List (Nat × Value)), i + j = P9 h → pm_get lv 0 = some (.ref 77) → pm_get lv 1 = some (.int (nJ a)) → pm_get lv 2 = some (.int (nJ w)) → pm_get lv 3 = some (.int (nJ (q + 1))) → pm_get lv 4 = some (.int (nJ (lkN (fitP h s c) (ouF h c a) q i))) → pm_get lv 5 = some (.int (nJ (i + 1))) → (∀ lv' : List (Nat × Value), pm_get lv' 0 = some (.ref 77) → pm_get lv' 1 = some (.int (nJ a)) → pm_get lv' 2 = some (.int (nJ w)) → pm_get lv' 3 = some (.int (nJ (q + 1))) → pm_get lv' 4 = some (.int (nJ (lkN (fitP h s c) (ouF h c a) q (P9 h)))) → Ends (pm_at tX9_worstBy) (pm_Rt pm_P (d + 1)) (96, lv', [], g, 0, 0) Q) → Ends (pm_at tX9_worstBy) (pm_Rt pm_P (d + 1)) (18, lv, [], g, 0, 0) Q := by
  obtain ⟨l3, p8, n8⟩ := g9s hh
  have bl := ftB_lt hh (s := s) (c := c)
  have W := (BW_ft hh (s := s) (c := c)).2
  induction j with
  | zero =>
    intro i w lv hj L0 L1 L2 L3 L4 L5 K
    refine E_il rfl L5 ?_
    refine E_al rfl L0 ?_
    refine E_call rfl (Sp_le (by first | exact Nat.add_le_add_left (Nat.le_of_ble_eq_true rfl) _ | exact Nat.le_of_ble_eq_true rfl | omega) (sp_places (d := d) hg)) (chk77 hg rfl rfl (by show 1 ≤ 8; decide)) (fun h1 r1 => ?_)
    rintro ⟨e1, f1, -⟩
    rw [e1, f1, show gn g 84 0 = P9 h from P9_K k.1]
    refine E_icT rfl (decide_eq_true ((nJ_lt (by first | decide | with_reducible assumption | omega) (by first | decide | with_reducible assumption | omega)).mpr (by first | decide | with_reducible assumption | omega))) ?_
    have e : i = P9 h := by omega
    rw [e] at L4
    exact K lv L0 L1 L2 L3 L4
  | succ j ih =>
    intro i w lv hj L0 L1 L2 L3 L4 L5 K
    have hi : i < P9 h := by omega
    have sq : ouF h c a q ≤ 8 := spF_b hh B (by first | decide | with_reducible assumption | omega) (by first | decide | with_reducible assumption | omega) ha
    have si : ouF h c a i ≤ 8 := spF_b hh B (by first | decide | with_reducible assumption | omega) (by first | decide | with_reducible assumption | omega) ha
    have es : lkN (fitP h s c) (ouF h c a) q (i + 1) = lkN (fitP h s c) (ouF h c a) q i + b1N (fitP h s c q && (fitP h s c i && Nat.beq (ouF h c a q) (ouF h c a i))) := rfl
    refine E_il rfl L5 ?_
    refine E_al rfl L0 ?_
    refine E_call rfl (Sp_le (by first | exact Nat.add_le_add_left (Nat.le_of_ble_eq_true rfl) _ | exact Nat.le_of_ble_eq_true rfl | omega) (sp_places (d := d) hg)) (chk77 hg rfl rfl (by show 1 ≤ 8; decide)) (fun h1 r1 => ?_)
    rintro ⟨e1, f1, -⟩
    rw [e1, f1, show gn g 84 0 = P9 h from P9_K k.1]
    refine E_icF rfl (decide_eq_false (fun z => absurd ((nJ_lt (by first | decide | with_reducible assumption | omega) (by first | decide | with_reducible assumption | omega)).mp z) (by first | decide | with_reducible assumption | omega))) ?_
    refine E_il rfl L4 ?_
    have nx : ∀ b : Bool, (fitP h s c q && (fitP h s c i && Nat.beq (ouF h c a q) (ouF h c a i))) = b → Ends (pm_at tX9_worstBy) (pm_Rt pm_P (d + 1)) (87, lv, [.int (nJ (b1N b)), .int (nJ (lkN (fitP h s c) (ouF h c a) q i))], g, 0, 0) Q := by
      intro b eb
      rw [eb] at es
      refine E_bin rfl (nJ_add _ _) ?_
      refine E_is rfl (fun lv1 K4 kp => ?_)
      refine E_inc rfl (kp 5 _ (nbz rfl) rfl L5) (nJ_inc _) (fun lv2 K5 kp2 => ?_)
      refine E_goto rfl ?_
      exact ih lv2 (by first | decide | with_reducible assumption | omega) (kp2 0 _ (nbz rfl) rfl (kp 0 _ (nbz rfl) rfl L0)) (kp2 1 _ (nbz rfl) rfl (kp 1 _ (nbz rfl) rfl L1)) (kp2 2 _ (nbz rfl) rfl (kp 2 _ (nbz rfl) rfl L2)) (kp2 3 _ (nbz rfl) rfl (kp 3 _ (nbz rfl) rfl L3)) (by rw [es]; exact kp2 4 _ (nbz rfl) rfl K4) K5 K
    have no : (fitP h s c q && (fitP h s c i && Nat.beq (ouF h c a q) (ouF h c a i))) = false → Ends (pm_at tX9_worstBy) (pm_Rt pm_P (d + 1)) (86, lv, [.int (nJ (lkN (fitP h s c) (ouF h c a) q i))], g, 0, 0) Q := by
      intro z
      refine E_ci 0 rfl ci0 ?_
      exact nx false z
    refine E_al rfl L0 ?_
    refine E_gf rfl hg rfl g41 ?_
    refine E_il rfl L3 ?_
    refine E_ci 1 rfl ci1 ?_
    refine E_bin rfl (show nJ (q + 1) - nJ 1 = nJ q from nJ_sub (by first | decide | with_reducible assumption | omega)) ?_
    refine E_call rfl (Sp_le (by first | exact Nat.add_le_add_left (Nat.le_of_ble_eq_true rfl) _ | exact Nat.le_of_ble_eq_true rfl | omega) (sp_isBit (d := d) (m := ftB h s c) (k := q) (by first | decide | with_reducible assumption | omega) (by first | decide | with_reducible assumption | omega))) (chkS rfl (by show 1 ≤ 8; decide)) (fun h2 r2 => ?_)
    rintro ⟨e2, f2⟩
    rw [e2, f2, W q hq]
    cases b1 : fitP h s c q with
    | false =>
      refine E_ifT rfl (by decide) ?_
      exact no (by rw [b1]; rfl)
    | true =>
      refine E_ifF rfl (by decide) ?_
      refine E_al rfl L0 ?_
      refine E_gf rfl hg rfl g41 ?_
      refine E_il rfl L5 ?_
      refine E_ci 1 rfl ci1 ?_
      refine E_bin rfl (show nJ (i + 1) - nJ 1 = nJ i from nJ_sub (by first | decide | with_reducible assumption | omega)) ?_
      refine E_call rfl (Sp_le (by first | exact Nat.add_le_add_left (Nat.le_of_ble_eq_true rfl) _ | exact Nat.le_of_ble_eq_true rfl | omega) (sp_isBit (d := d) (m := ftB h s c) (k := i) (by first | decide | with_reducible assumption | omega) (by first | decide | with_reducible assumption | omega))) (chkS rfl (by show 1 ≤ 8; decide)) (fun h3 r3 => ?_)
      rintro ⟨e3, f3⟩
      rw [e3, f3, W i hi]
      cases b2 : fitP h s c i with
      | false =>
        refine E_ifT rfl (by decide) ?_
        exact no (by rw [b1, b2]; rfl)
      | true =>
        refine E_ifF rfl (by decide) ?_
        refine E_al rfl L0 ?_
        refine E_gr rfl hg (q := 102) rfl ?_
        refine E_ci 8 rfl ci8 ?_
        refine E_il rfl L3 ?_
        refine E_bin rfl (nJ_mul _ _) ?_
        refine E_il rfl L1 ?_
        refine E_bin rfl (nJ_add _ _) ?_
        refine E_ial rfl hg rfl (by first | decide | with_reducible assumption | omega) (by decide) (show gi g 102 (8 * (q + 1) + a) = pO (ouF h c a q) from O q hq a ha trivial) ?_
        refine E_al rfl L0 ?_
        refine E_gr rfl hg (q := 102) rfl ?_
        refine E_ci 8 rfl ci8 ?_
        refine E_il rfl L5 ?_
        refine E_bin rfl (nJ_mul _ _) ?_
        refine E_il rfl L1 ?_
        refine E_bin rfl (nJ_add _ _) ?_
        refine E_ial rfl hg rfl (by first | decide | with_reducible assumption | omega) (by decide) (show gi g 102 (8 * (i + 1) + a) = pO (ouF h c a i) from O i hi a ha trivial) ?_
        by_cases e : ouF h c a q = ouF h c a i
        · refine E_icF rfl (decide_eq_false (fun z => z (by rw [e]))) ?_
          refine E_ci 1 rfl ci1 ?_
          refine E_goto rfl ?_
          exact nx true (by rw [b1, b2, e, Nat.beq_refl]; rfl)
        · have e2' : Nat.beq (ouF h c a q) (ouF h c a i) = false := by
            cases z : Nat.beq (ouF h c a q) (ouF h c a i)
            · rfl
            · exact absurd (Nat.eq_of_beq_eq_true z) e
          refine E_icT rfl (decide_eq_true (fun z => e ((pO_inj (by first | decide | with_reducible assumption | omega) (by first | decide | with_reducible assumption | omega)).mp z))) ?_
          exact no (by rw [b1, b2, e2']; rfl)
theorem wo9_out {s c a : Nat} (hh : HH h) (B : B9 h) (hg : HH g) (k : SK h g) (g41 : gi g 77 41 = nJ (ftB h s c)) (O : BYW h c (fun _ _ => True) g) (ha : a < N9 h) (j : Nat) : ∀ {q : Nat} (lv : List (Nat × Value)), q + j = P9 h → pm_get lv 0 = some (.ref 77) → pm_get lv 1 = some (.int (nJ a)) → pm_get lv 2 = some (.int (nJ (wsN (fitP h s c) (ouF h c a) (P9 h) q))) → pm_get lv 3 = some (.int (nJ (q + 1))) → Ends (pm_at tX9_worstBy) (pm_Rt pm_P (d + 1)) (4, lv, [], g, 0, 0) (fun h' r => h' = g ∧ r = some (.int (nJ (wsN (fitP h s c) (ouF h c a) (P9 h) (P9 h))))) := by
  obtain ⟨l3, p8, n8⟩ := g9s hh
  induction j with
  | zero =>
    intro q lv hj L0 L1 L2 L3
    refine E_il rfl L3 ?_
    refine E_al rfl L0 ?_
    refine E_call rfl (Sp_le (by first | exact Nat.add_le_add_left (Nat.le_of_ble_eq_true rfl) _ | exact Nat.le_of_ble_eq_true rfl | omega) (sp_places (d := d) hg)) (chk77 hg rfl rfl (by show 1 ≤ 8; decide)) (fun h1 r1 => ?_)
    rintro ⟨e1, f1, -⟩
    rw [e1, f1, show gn g 84 0 = P9 h from P9_K k.1]
    refine E_icT rfl (decide_eq_true ((nJ_lt (by first | decide | with_reducible assumption | omega) (by first | decide | with_reducible assumption | omega)).mpr (by first | decide | with_reducible assumption | omega))) ?_
    refine E_il rfl L2 ?_
    have e : q = P9 h := by omega
    exact E_rti rfl ⟨rfl, by rw [e]⟩
  | succ j ih =>
    intro q lv hj L0 L1 L2 L3
    have wl := wsN_le (f := fitP h s c) (o := ouF h c a) (n := P9 h) q
    have ll := lkN_le (f := fitP h s c) (o := ouF h c a) (p := q) (P9 h)
    refine E_il rfl L3 ?_
    refine E_al rfl L0 ?_
    refine E_call rfl (Sp_le (by first | exact Nat.add_le_add_left (Nat.le_of_ble_eq_true rfl) _ | exact Nat.le_of_ble_eq_true rfl | omega) (sp_places (d := d) hg)) (chk77 hg rfl rfl (by show 1 ≤ 8; decide)) (fun h1 r1 => ?_)
    rintro ⟨e1, f1, -⟩
    rw [e1, f1, show gn g 84 0 = P9 h from P9_K k.1]
    refine E_icF rfl (decide_eq_false (fun z => absurd ((nJ_lt (by first | decide | with_reducible assumption | omega) (by first | decide | with_reducible assumption | omega)).mp z) (by first | decide | with_reducible assumption | omega))) ?_
    refine E_ci 0 rfl ci0 ?_
    refine E_is rfl (fun lv1 K4 kp => ?_)
    refine E_ci 1 rfl ci1 ?_
    refine E_is rfl (fun lv2 K5 kp2 => ?_)
    refine wo9_in hh B hg k g41 O ha (show q < P9 h by omega) (P9 h) (i := 0) lv2 (by first | decide | with_reducible assumption | omega) (kp2 0 _ (nbz rfl) rfl (kp 0 _ (nbz rfl) rfl L0)) (kp2 1 _ (nbz rfl) rfl (kp 1 _ (nbz rfl) rfl L1)) (kp2 2 _ (nbz rfl) rfl (kp 2 _ (nbz rfl) rfl L2)) (kp2 3 _ (nbz rfl) rfl (kp 3 _ (nbz rfl) rfl L3)) (kp2 4 _ (nbz rfl) rfl K4) K5 (fun lv' M0 M1 M2 M3 M4 => ?_)
    refine E_il rfl M2 ?_
    refine E_il rfl M4 ?_
    refine E_call rfl (Sp_le (by first | exact Nat.add_le_add_left (Nat.le_of_ble_eq_true rfl) _ | exact Nat.le_of_ble_eq_true rfl | omega) (sp_moreF (d := d) (by first | decide | with_reducible assumption | omega) (by first | decide | with_reducible assumption | omega))) (chkS rfl (by show 0 ≤ 8; decide)) (fun h3 r3 => ?_)
    rintro ⟨e3, f3⟩
    rw [e3, f3]
    refine E_is rfl (fun lv3 K2 kp3 => ?_)
    refine E_inc rfl (kp3 3 _ (nbz rfl) rfl M3) (nJ_inc _) (fun lv4 K3 kp4 => ?_)
    refine E_goto rfl ?_
    exact ih (q := q + 1) lv4 (by first | decide | with_reducible assumption | omega) (kp4 0 _ (nbz rfl) rfl (kp3 0 _ (nbz rfl) rfl M0)) (kp4 1 _ (nbz rfl) rfl (kp3 1 _ (nbz rfl) rfl M1)) (kp4 2 _ (nbz rfl) rfl K2) K3
theorem sp_worstBy9 {s c a : Nat} (hh : HH h) (B : B9 h) (hg : HH g) (k : SK h g) (g41 : gi g 77 41 = nJ (ftB h s c)) (O : BYW h c (fun _ _ => True) g) (ha : a < N9 h) : Sp (d + 2) 377 g [.ref 77, .int (nJ a)] (fun h' r => h' = g ∧ r = some (.int (nJ (wsN (fitP h s c) (ouF h c a) (P9 h) (P9 h))))) := by
  refine Sp_of aiX9_worstBy rfl rfl rfl ?_
  have L0 : pm_get (lv_args 0 [.ref 77, .int (nJ a)]) 0 = some (.ref 77) := rfl
  have L1 : pm_get (lv_args 0 [.ref 77, .int (nJ a)]) 1 = some (.int (nJ a)) := rfl
  generalize lv_args 0 [.ref 77, .int (nJ a)] = lv at L0 L1 ⊢
  refine E_ci 0 rfl ci0 ?_
  refine E_is rfl (fun lv1 K2 kp => ?_)
  refine E_ci 1 rfl ci1 ?_
  refine E_is rfl (fun lv2 K3 kp2 => ?_)
  exact wo9_out hh B hg k g41 O ha (P9 h) (q := 0) lv2 (by first | decide | with_reducible assumption | omega) (kp2 0 _ (nbz rfl) rfl (kp 0 _ (nbz rfl) rfl L0)) (kp2 1 _ (nbz rfl) rfl (kp 1 _ (nbz rfl) rfl L1)) (kp2 2 _ (nbz rfl) rfl K2) K3
/-- what laysSeen leaves -/
noncomputable def LSQ (h : pm_H) (s c : Nat) (h' : pm_H) (r : Option Value) : Prop := r = none ∧ HH h' ∧ gi h' 77 41 = nJ (ftB h s c) ∧ gi h' 77 42 = pI (akS h s c (N9 h)).1 ∧ gi h' 77 43 = nJ (akS h s c (N9 h)).2
theorem ls9_loop {s c : Nat} (hh : HH h) (B : B9 h) (j : Nat) : ∀ {g : pm_H} {a : Nat} (lv : List (Nat × Value)), a + j = N9 h → HH g → SK h g → gi g 77 41 = nJ (ftB h s c) → gi g 77 42 = pI (akS h s c a).1 → gi g 77 43 = nJ (akS h s c a).2 → BYW h c (fun _ _ => True) g → pm_get lv 0 = some (.ref 77) → pm_get lv 3 = some (.int (nJ a)) → Ends (pm_at tX9_laysSeen) (pm_Rt pm_P (d + 5)) (121, lv, [], g, 0, 0) (LSQ h s c) := by
  obtain ⟨l3, p8, n8⟩ := g9s hh
  induction j with
  | zero =>
    intro g a lv hj hg k g41 g42 g43 O L0 L3
    refine E_il rfl L3 ?_
    refine E_al rfl L0 ?_
    refine E_call rfl (Sp_le (by first | exact Nat.add_le_add_left (Nat.le_of_ble_eq_true rfl) _ | exact Nat.le_of_ble_eq_true rfl | omega) (sp_cars (d := d) hg)) (chk77 hg rfl rfl (by show 1 ≤ 8; decide)) (fun h1 r1 => ?_)
    rintro ⟨e1, f1, -⟩
    rw [e1, f1, show gn g 84 3 = N9 h from N9_K k.1]
    refine E_icT rfl (decide_eq_true ((nJ_le (by first | decide | with_reducible assumption | omega) (by first | decide | with_reducible assumption | omega)).mpr (by first | decide | with_reducible assumption | omega))) ?_
    have e : a = N9 h := by omega
    rw [e] at g42 g43
    exact E_ret rfl ⟨rfl, hg, g41, g42, g43⟩
  | succ j ih =>
    intro g a lv hj hg k g41 g42 g43 O L0 L3
    have ab := akS_b hh (s := s) (c := c) a
    have wl := wsN_le (f := fitP h s c) (o := ouF h c a) (n := P9 h) (P9 h)
    have es := akS_s (h := h) (s := s) (c := c) (k := a)
    refine E_il rfl L3 ?_
    refine E_al rfl L0 ?_
    refine E_call rfl (Sp_le (by first | exact Nat.add_le_add_left (Nat.le_of_ble_eq_true rfl) _ | exact Nat.le_of_ble_eq_true rfl | omega) (sp_cars (d := d) hg)) (chk77 hg rfl rfl (by show 1 ≤ 8; decide)) (fun h1 r1 => ?_)
    rintro ⟨e1, f1, -⟩
    rw [e1, f1, show gn g 84 3 = N9 h from N9_K k.1]
    refine E_icF rfl (decide_eq_false (fun z => absurd ((nJ_le (by first | decide | with_reducible assumption | omega) (by first | decide | with_reducible assumption | omega)).mp z) (by first | decide | with_reducible assumption | omega))) ?_
    refine E_al rfl L0 ?_
    refine E_il rfl L3 ?_
    refine E_call rfl (Sp_le (by first | exact Nat.add_le_add_left (Nat.le_of_ble_eq_true rfl) _ | exact Nat.le_of_ble_eq_true rfl | omega) (sp_worstBy9 (d := d) hh B hg k g41 O (show a < N9 h by omega))) (chk77 hg rfl rfl (by show 0 ≤ 8; decide)) (fun h2 r2 => ?_)
    rintro ⟨e2, f2⟩
    rw [e2, f2]
    refine E_is rfl (fun lv1 K4 kp => ?_)
    have A0 := kp 0 _ (nbz rfl) rfl L0
    have A3 := kp 3 _ (nbz rfl) rfl L3
    refine E_il rfl K4 ?_
    refine E_al rfl A0 ?_
    refine E_gf rfl hg rfl g43 ?_
    by_cases b : wsN (fitP h s c) (ouF h c a) (P9 h) (P9 h) < (akS h s c a).2
    · rw [if_pos b] at es
      refine E_icT rfl (decide_eq_true ((nJ_lt (by first | decide | with_reducible assumption | omega) (by first | decide | with_reducible assumption | omega)).mpr b)) ?_
      refine E_al rfl A0 ?_
      refine E_il rfl A3 ?_
      refine E_pf rfl hg rfl ?_
      have b42 : bd 77 42 = some (-1, 7) := rfl
      have h3 : HH (pt g 77 42 (nJ a)) := HH_ptn hg b42 (by first | decide | with_reducible assumption | omega) (by first | decide | with_reducible assumption | omega) (by first | decide | with_reducible assumption | omega)
      have k3 : SK h (pt g 77 42 (nJ a)) := sk9_tr k (sk9_fr (M := [(77, 41, 43)]) (fr_ptr (l := 41) (u := 43) rfl (by first | decide | with_reducible assumption | omega) (by first | decide | with_reducible assumption | omega) (fr_rf _ _)) rfl)
      have m41 : gi (pt g 77 42 (nJ a)) 77 41 = nJ (ftB h s c) := by rw [gi_ne (by first | exact gxx rfl | omega)]; exact g41
      have m42 : gi (pt g 77 42 (nJ a)) 77 42 = nJ a := gi_ptn hg b42 (by first | decide | with_reducible assumption | omega) (by first | decide | with_reducible assumption | omega) (by first | decide | with_reducible assumption | omega)
      have O3 : BYW h c (fun _ _ => True) (pt g 77 42 (nJ a)) := fun p' hp' o' ho' q => by rw [gi_ne (by first | exact gxx rfl | omega)]; exact O p' hp' o' ho' q
      generalize pt g 77 42 (nJ a) = g3 at h3 k3 m41 m42 O3 ⊢
      refine E_al rfl A0 ?_
      refine E_il rfl K4 ?_
      refine E_pf rfl h3 rfl ?_
      have b43 : bd 77 43 = some (-2147483648, 2147483647) := rfl
      have h4 : HH (pt g3 77 43 (nJ (wsN (fitP h s c) (ouF h c a) (P9 h) (P9 h)))) := HH_ptn h3 b43 (by first | decide | with_reducible assumption | omega) (by first | decide | with_reducible assumption | omega) (by first | decide | with_reducible assumption | omega)
      have k4 : SK h (pt g3 77 43 (nJ (wsN (fitP h s c) (ouF h c a) (P9 h) (P9 h)))) := sk9_tr k3 (sk9_fr (M := [(77, 41, 43)]) (fr_ptr (l := 41) (u := 43) rfl (by first | decide | with_reducible assumption | omega) (by first | decide | with_reducible assumption | omega) (fr_rf _ _)) rfl)
      have n41 : gi (pt g3 77 43 (nJ (wsN (fitP h s c) (ouF h c a) (P9 h) (P9 h)))) 77 41 = nJ (ftB h s c) := by rw [gi_ne (by first | exact gxx rfl | omega)]; exact m41
      have n42 : gi (pt g3 77 43 (nJ (wsN (fitP h s c) (ouF h c a) (P9 h) (P9 h)))) 77 42 = pI (akS h s c (a + 1)).1 := by rw [gi_ne (by first | exact gxx rfl | omega), m42, es]; rfl
      have n43 : gi (pt g3 77 43 (nJ (wsN (fitP h s c) (ouF h c a) (P9 h) (P9 h)))) 77 43 = nJ (akS h s c (a + 1)).2 := by rw [es]; exact gi_ptn h3 b43 (by first | decide | with_reducible assumption | omega) (by first | decide | with_reducible assumption | omega) (by first | decide | with_reducible assumption | omega)
      have O4 : BYW h c (fun _ _ => True) (pt g3 77 43 (nJ (wsN (fitP h s c) (ouF h c a) (P9 h) (P9 h)))) := fun p' hp' o' ho' q => by rw [gi_ne (by first | exact gxx rfl | omega)]; exact O3 p' hp' o' ho' q
      refine E_inc rfl A3 (nJ_inc _) (fun lv2 K3 kp2 => ?_)
      refine E_goto rfl ?_
      exact ih lv2 (by first | decide | with_reducible assumption | omega) h4 k4 n41 n42 n43 O4 (kp2 0 _ (nbz rfl) rfl A0) K3
    · rw [if_neg b] at es
      refine E_icF rfl (decide_eq_false (fun z => b ((nJ_lt (by first | decide | with_reducible assumption | omega) (by first | decide | with_reducible assumption | omega)).mp z))) ?_
      refine E_goto rfl ?_
      refine E_inc rfl A3 (nJ_inc _) (fun lv2 K3 kp2 => ?_)
      refine E_goto rfl ?_
      exact ih lv2 (by first | decide | with_reducible assumption | omega) hg k g41 (by rw [es]; exact g42) (by rw [es]; exact g43) O (kp2 0 _ (nbz rfl) rfl A0) K3
theorem sp_laysSeen9 {s c : Nat} (hh : HH h) (V : V9 h) (B : B9 h) (hg : HH g) (k : SK h g) (hs : s < 4) (G : GOOD (rf h) (mR h) (rlN h) (N9 h) (P9 h) s) (hc : c < N9 h) : Sp (d + 6) 297 g [.ref 77, .int (nJ s), .int (nJ c)] (LSQ h s c) := by
  obtain ⟨l3, p8, n8⟩ := g9s hh
  refine Sp_of aiX9_laysSeen rfl rfl rfl ?_
  have L0 : pm_get (lv_args 0 [.ref 77, .int (nJ s), .int (nJ c)]) 0 = some (.ref 77) := rfl
  have L1 : pm_get (lv_args 0 [.ref 77, .int (nJ s), .int (nJ c)]) 1 = some (.int (nJ s)) := rfl
  have L2 : pm_get (lv_args 0 [.ref 77, .int (nJ s), .int (nJ c)]) 2 = some (.int (nJ c)) := rfl
  generalize lv_args 0 [.ref 77, .int (nJ s), .int (nJ c)] = lv at L0 L1 L2 ⊢
  refine E_al rfl L0 ?_
  refine E_ci 0 rfl ci0 ?_
  refine E_pf rfl hg rfl ?_
  have b41 : bd 77 41 = some (0, 255) := rfl
  have h1 : HH (pt g 77 41 (nJ 0)) := HH_ptn hg b41 (by first | decide | with_reducible assumption | omega) (by first | decide | with_reducible assumption | omega) (by first | decide | with_reducible assumption | omega)
  have k1 : SK h (pt g 77 41 (nJ 0)) := sk9_tr k (sk9_fr (M := [(77, 41, 43)]) (fr_ptr (l := 41) (u := 43) rfl (by first | decide | with_reducible assumption | omega) (by first | decide | with_reducible assumption | omega) (fr_rf _ _)) rfl)
  have m41 : gi (pt g 77 41 (nJ 0)) 77 41 = nJ 0 := gi_ptn hg b41 (by first | decide | with_reducible assumption | omega) (by first | decide | with_reducible assumption | omega) (by first | decide | with_reducible assumption | omega)
  generalize pt g 77 41 (nJ 0) = g1 at h1 k1 m41 ⊢
  refine E_ci 1 rfl ci1 ?_
  refine E_is rfl (fun lv1 K3 kp => ?_)
  refine bw9_out hh V B hs G hc (fun g' lv' hg' k' g41' O' M0 => ?_) (P9 h) (p := 1) lv1 (by first | decide | with_reducible assumption | omega) (by first | decide | with_reducible assumption | omega) h1 k1 m41 (fun p' hp' o' ho' q => absurd q (by first | decide | with_reducible assumption | omega)) (kp 0 _ (nbz rfl) rfl L0) (kp 1 _ (nbz rfl) rfl L1) (kp 2 _ (nbz rfl) rfl L2) K3
  have bl := ftB_lt hh (s := s) (c := c)
  have z1 : (-1 : Int32).toInt = -1 := rfl
  refine E_al rfl M0 ?_
  refine E_c rfl ?_
  refine E_pf rfl hg' rfl ?_
  have b42 : bd 77 42 = some (-1, 7) := rfl
  have h3 : HH (pt g' 77 42 (-1)) := HH_pt hg' b42 (by rw [z1]; show (-1 : Int) ≤ -1; omega) (by rw [z1]; show (-1 : Int) ≤ 7; omega)
  have k3 : SK h (pt g' 77 42 (-1)) := sk9_tr k' (sk9_fr (M := [(77, 41, 43)]) (fr_ptr (l := 41) (u := 43) rfl (by first | decide | with_reducible assumption | omega) (by first | decide | with_reducible assumption | omega) (fr_rf _ _)) rfl)
  have n41 : gi (pt g' 77 42 (-1)) 77 41 = nJ (ftB h s c) := by rw [gi_ne (by first | exact gxx rfl | omega)]; exact g41'
  have n42 : gi (pt g' 77 42 (-1)) 77 42 = pI (akS h s c 0).1 := gi_pt hg' b42 (by rw [z1]; show (-1 : Int) ≤ -1; omega) (by rw [z1]; show (-1 : Int) ≤ 7; omega)
  have O3 : BYW h c (fun _ _ => True) (pt g' 77 42 (-1)) := fun p' hp' o' ho' q => by rw [gi_ne (by first | exact gxx rfl | omega)]; exact O' p' hp' o' ho' q
  generalize pt g' 77 42 (-1) = g3 at h3 k3 n41 n42 O3 ⊢
  refine E_al rfl M0 ?_
  refine E_al rfl M0 ?_
  refine E_gf rfl h3 rfl n41 ?_
  refine E_call rfl (Sp_le (by first | exact Nat.add_le_add_left (Nat.le_of_ble_eq_true rfl) _ | exact Nat.le_of_ble_eq_true rfl | omega) (sp_sizeOf (d := d) (m := ftB h s c) (by first | decide | with_reducible assumption | omega))) (chkS rfl (by show 1 ≤ 8; decide)) (fun h5 r5 => ?_)
  rintro ⟨e5, f5⟩
  rw [e5, f5]
  have p9 := pcT_le ⟨ftB h s c, by omega⟩
  dsimp only at p9
  refine E_pf rfl h3 rfl ?_
  have b43 : bd 77 43 = some (-2147483648, 2147483647) := rfl
  have h6 : HH (pt g3 77 43 (nJ (pcT (ftB h s c)))) := HH_ptn h3 b43 (by first | decide | with_reducible assumption | omega) (by first | decide | with_reducible assumption | omega) (by first | decide | with_reducible assumption | omega)
  have k6 : SK h (pt g3 77 43 (nJ (pcT (ftB h s c)))) := sk9_tr k3 (sk9_fr (M := [(77, 41, 43)]) (fr_ptr (l := 41) (u := 43) rfl (by first | decide | with_reducible assumption | omega) (by first | decide | with_reducible assumption | omega) (fr_rf _ _)) rfl)
  refine E_ci 0 rfl ci0 ?_
  refine E_is rfl (fun lv2 K3' kp2 => ?_)
  exact ls9_loop hh B (N9 h) (a := 0) lv2 (by first | decide | with_reducible assumption | omega) h6 k6 (by rw [gi_ne (by first | exact gxx rfl | omega)]; exact n41) (by rw [gi_ne (by first | exact gxx rfl | omega)]; exact n42) (gi_ptn h3 b43 (by first | decide | with_reducible assumption | omega) (by first | decide | with_reducible assumption | omega) (by first | decide | with_reducible assumption | omega)) (fun p' hp' o' ho' q => by rw [gi_ne (by first | exact gxx rfl | omega)]; exact O3 p' hp' o' ho' q) (kp2 0 _ (nbz rfl) rfl M0) K3'
/-- isCar as the class asks -/
theorem crX9 (n8 : N9 h ≤ 8) (B : B9 h) (R : QRE h) : (decide (0 < (gi h 83 0).toInt) && decide (0 ≤ y.toInt ∧ y.toInt ≤ (N9 h : Int) - 1)) = crB h y := by
  unfold crB
  by_cases b : 0 ≤ y.toInt ∧ y.toInt < (N9 h : Int)
  · have st : 0 < (gi h 83 0).toInt := (st_eq R).mp (by
      have w := B 0 (by first | decide | with_reducible assumption | omega)
      have k0 : gn h 15 0 = P9 h := gn_eq (R.2.1.1.2.1 0 (by first | decide | with_reducible assumption | omega))
      omega)
    rw [decide_eq_true st, decide_eq_true (show 0 ≤ y.toInt ∧ y.toInt ≤ (N9 h : Int) - 1 by omega), decide_eq_true b]; rfl
  · rw [decide_eq_false b, decide_eq_false (show ¬ (0 ≤ y.toInt ∧ y.toInt ≤ (N9 h : Int) - 1) by omega), Bool.and_false]
end SN9
end
section
/-! fits of both (written by gen_u120.py; wants u119) -/
section FTX
variable {h g : pm_H} {d : Nat} {x y : Int32}
theorem seenE_K {s : Nat} (hh : HH h) (hs : s < 4) (k : SK h g) : fitP g s = fitP h s := by
  funext c q
  unfold fitP
  rw [spF_K k.1]
  exact seen_K hh hs k
theorem ftB_K {s c : Nat} (hh : HH h) (hs : s < 4) (k : SK h g) : ftB g s c = ftB h s c := by
  unfold ftB
  rw [seenE_K hh hs k, P9_K k.1]
noncomputable def fitsv (h : pm_H) (x y : Int32) : Int32 := sqv h x y (fun s c => nJ (ftB h s c))
theorem fitsv_K (hh : HH h) (k : SK h g) : fitsv g x y = fitsv h x y := by
  have ec : crB g y = crB h y := by unfold crB; rw [N9_K k.1]
  unfold fitsv sqv
  rw [ec, why_K hh k]
  by_cases z : why h (crB h y) x = 0
  · rw [if_pos z, if_pos z]
    obtain ⟨-, s, hs, rfl, -⟩ := sgv_0 z
    rw [nJ_nat hs]
    show nJ (ftB g s y.toInt.toNat) = nJ (ftB h s y.toInt.toNat)
    rw [ftB_K hh hs k]
  · rw [if_neg z, if_neg z]
theorem sp_fits9 (hh : HH h) (V : V9 h) (B : B9 h) (R : QRE h) : Sp (d + 8) 250 h [.ref 77, .int x, .int y] (fun h' r => r = some (.int (fitsv h x y))) := by
  obtain ⟨l3, p8, n8⟩ := g9s hh
  refine Sp_of aiX9_fits rfl rfl rfl ?_
  have L0 : pm_get (lv_args 0 [.ref 77, .int x, .int y]) 0 = some (.ref 77) := rfl
  have L1 : pm_get (lv_args 0 [.ref 77, .int x, .int y]) 1 = some (.int x) := rfl
  have L2 : pm_get (lv_args 0 [.ref 77, .int x, .int y]) 2 = some (.int y) := rfl
  generalize lv_args 0 [.ref 77, .int x, .int y] = lv at L0 L1 L2 ⊢
  refine E_al rfl L0 ?_
  refine E_ci 0 rfl ci0 ?_
  refine E_pf rfl hh rfl ?_
  have hg : HH (pt h 77 0 (nJ 0)) := HH_ptn hh rfl (by first | decide | with_reducible assumption | omega) (by first | decide | with_reducible assumption | omega) (by first | decide | with_reducible assumption | omega)
  have k : SK h (pt h 77 0 (nJ 0)) := sk9_fr (M := [(77, 0, 0)]) (fr_ptr (l := 0) (u := 0) rfl (by first | decide | with_reducible assumption | omega) (by first | decide | with_reducible assumption | omega) (fr_rf _ _)) rfl
  generalize pt h 77 0 (nJ 0) = g at hg k ⊢
  refine E_al rfl L0 ?_
  refine E_il rfl L1 ?_
  refine E_al rfl L0 ?_
  refine E_il rfl L2 ?_
  refine E_i2l rfl ?_
  refine E_call rfl (Sp_le (by first | exact Nat.add_le_add_left (Nat.le_of_ble_eq_true rfl) _ | exact Nat.le_of_ble_eq_true rfl | omega) (sp_isCar (d := d) (x := y) hg)) (chk77 hg rfl rfl (by show 2 ≤ 8; decide)) (fun h1 r1 => ?_)
  rintro ⟨e1, f1⟩
  rw [e1, f1, show gn g 84 3 = N9 h from N9_K k.1, zb_dcX]
  refine E_call rfl (Sp_le (by first | exact Nat.add_le_add_left (Nat.le_of_ble_eq_true rfl) _ | exact Nat.le_of_ble_eq_true rfl | omega) (sp_whyNotH (d := d) (x := x) (is := decide (0 ≤ y.toInt ∧ y.toInt ≤ (N9 h : Int) - 1)) hh hg k.1 k.2)) (chk77 hg rfl rfl (by show 0 ≤ 8; decide)) (fun h2 r2 => ?_)
  rintro ⟨e2, f2⟩
  rw [e2, f2, crX9 n8 B R]
  refine E_is rfl (fun lv1 K3 kp => ?_)
  have A0 := kp 0 _ (nbz rfl) rfl L0
  have A1 := kp 1 _ (nbz rfl) rfl L1
  have A2 := kp 2 _ (nbz rfl) rfl L2
  refine E_il rfl K3 ?_
  by_cases z : why h (crB h y) x = 0
  · rw [show fitsv h x y = nJ (ftB h x.toInt.toNat y.toInt.toNat) from if_pos z]
    refine E_ifT rfl (decide_eq_true z) ?_
    obtain ⟨q, s, hs, rfl, G⟩ := sgv_0 z
    obtain ⟨c, hc, rfl, ec⟩ := crB_c q n8
    rw [nJ_nat hs, ec]
    refine E_al rfl A0 ?_
    refine E_il rfl A1 ?_
    refine E_il rfl A2 ?_
    refine E_call rfl (Sp_le (by first | exact Nat.add_le_add_left (Nat.le_of_ble_eq_true rfl) _ | exact Nat.le_of_ble_eq_true rfl | omega) (sp_laysSeen9 (d := d) hh V B hg k hs G hc)) (chk77 hg rfl rfl (by show 0 ≤ 8; decide)) (fun h3 r3 => ?_)
    rintro ⟨e3, hh3, q41, q42, q43⟩
    rw [e3]
    refine E_al rfl A0 ?_
    refine E_gf (q := (0, 255)) rfl hh3 rfl q41 ?_
    exact E_rti rfl rfl
  · rw [show fitsv h x y = why h (crB h y) x from if_neg z]
    refine E_ifF rfl (decide_eq_false z) ?_
    refine E_il rfl K3 ?_
    exact E_rti rfl rfl
end FTX
noncomputable def half_fits (h : pm_H) (r x y : Int32) : Prop := (QRE h ∧ NU h) ∧ r = fitsv h x y
theorem n8_fits {h : pm_H} {x y : Int32} (I : IVN h) : Sp 100 108 h [.ref 0, .int x, .int y] (fun h' v => IVh h' ∧ ∃ r : Int32, v = some (.int r) ∧ half_fits h' r x y) := by
  refine Sp_le (by first | exact Nat.add_le_add_left (Nat.le_of_ble_eq_true rfl) _ | exact Nat.le_of_ble_eq_true rfl | omega) (Sp_mono ?_ (Sp_and (top_all (as := [.ref 0, .int x, .int y]) q638 (by decide +kernel) I.1 ⟨rfl, aI _, aI _, trivial⟩) (sp_fits8 (d := 0) I.1.1 I.2.1 I.2.2)))
  rintro h' v ⟨⟨s1, s2, -⟩, k, rfl⟩
  exact ⟨s1, _, rfl, ⟨QRE_fr s2 rfl I.2.1, NU_fr s2 rfl I.2.2⟩, (fitsv_K I.1.1 (sk9_fr k rfl)).symm⟩
theorem n9_fits {h : pm_H} {r x y : Int32} (I : IVh h) (J : half_fits h r x y) : Sp 100 250 h [.ref 77, .int x, .int y] (fun h' v => IVN h' ∧ v = some (.int r)) := by
  obtain ⟨J1, rfl⟩ := J
  refine Sp_le (by first | exact Nat.add_le_add_left (Nat.le_of_ble_eq_true rfl) _ | exact Nat.le_of_ble_eq_true rfl | omega) (Sp_mono ?_ (Sp_and (top_all (as := [.ref 77, .int x, .int y]) q656 (by decide +kernel) I ⟨rfl, aI _, aI _, trivial⟩) (sp_fits9 (d := 0) I.1 (V9_of J1.1) (B9_of J1.1) J1.1)))
  rintro h' v ⟨⟨s1, s2, -⟩, rfl⟩
  exact ⟨⟨s1, QRE_fr s2 rfl J1.1, NU_fr s2 rfl J1.2⟩, rfl⟩
end
