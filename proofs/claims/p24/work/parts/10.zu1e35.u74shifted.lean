section
/-! shifted of both (written by gen_u74.py; wants u69) -/
noncomputable def WSf (h : pm_H) (s c : Nat) : Nat := (W9 h c - 1 + s) % (P9 h + 1) + 1
noncomputable def shq (h : pm_H) (x y : Int32) : Int32 := if (0 ≤ x.toInt ∧ x.toInt < (N9 h : Int)) ∧ 0 ≤ y.toInt ∧ y.toInt ≤ (P9 h : Int) then nJ (WSf h y.toInt.toNat x.toInt.toNat) else -2
section SHQ
variable {h : pm_H} {d : Nat} {x y : Int32}
theorem sp_shifted8 (hh : HH h) (R : QRE h) : Sp (d + 6) 178 h [.ref 0, .int x, .int y] (fun h' r => h' = h ∧ r = some (.int (shq h x y))) := by
  refine Sp_of aiX8_shifted rfl rfl rfl ?_
  have L0 : pm_get (lv_args 0 [.ref 0, .int x, .int y]) 0 = some (.ref 0) := rfl
  have L1 : pm_get (lv_args 0 [.ref 0, .int x, .int y]) 1 = some (.int x) := rfl
  have L2 : pm_get (lv_args 0 [.ref 0, .int x, .int y]) 2 = some (.int y) := rfl
  generalize lv_args 0 [.ref 0, .int x, .int y] = lv at L0 L1 L2 ⊢
  obtain ⟨l3, p8, n8⟩ := g9s hh
  obtain ⟨f4, f0, f17⟩ := CW8_of hh R
  have B := B9_of R
  have z0 : (0 : Int32).toInt = 0 := rfl
  have zp := nJ_toInt (n := P9 h) (by omega)
  have no : ¬ ((0 ≤ x.toInt ∧ x.toInt < (N9 h : Int)) ∧ 0 ≤ y.toInt ∧ y.toInt ≤ (P9 h : Int)) → Ends (pm_at tX8_shifted) (pm_Rt pm_P (d + 5)) (23, lv, [], h, 0, 0) (fun h' r => h' = h ∧ r = some (.int (shq h x y))) := by
    intro q
    refine E_c rfl ?_
    exact E_rti rfl ⟨rfl, by unfold shq; rw [if_neg q]⟩
  refine E_al rfl L0 ?_
  refine E_il rfl L1 ?_
  refine E_call rfl (Sp_le (by omega) (sp_hasCar8 (d := d) hh)) (chkO (a := 0) hh rfl rfl rfl rfl (by show 0 ≤ 8; decide)) (fun h1 r1 => ?_)
  rintro ⟨e1, f1⟩
  rw [e1, f1, show gn h 15 4 = N9 h from gn_eq R.2.1.1.2.2.1]
  by_cases b : 0 ≤ x.toInt ∧ x.toInt < (N9 h : Int)
  · refine E_ifF rfl (by rw [zb_T b]; rfl) ?_
    refine E_il rfl L2 ?_
    by_cases c1 : 0 ≤ y.toInt
    · refine E_ifF rfl (decide_eq_false (fun q => by have := Int32.lt_iff_toInt_lt.mp q; omega)) ?_
      refine E_il rfl L2 ?_
      refine E_al rfl L0 ?_
      refine E_ogr (q := 15) rfl hh rfl rfl ?_
      refine E_ogf (q := (0, 8)) rfl hh rfl rfl f0 ?_
      by_cases c2 : y.toInt ≤ (P9 h : Int)
      · refine E_icT rfl (decide_eq_true (Int32.le_iff_toInt_le.mpr (by omega))) ?_
        rw [show shq h x y = nJ (WSf h y.toInt.toNat x.toInt.toNat) from if_pos ⟨b, c1, c2⟩]
        obtain ⟨c, hc, rfl⟩ : ∃ c, c < N9 h ∧ x = nJ c := ⟨x.toInt.toNat, by omega, nJ_of b.1⟩
        obtain ⟨s, hs, rfl⟩ : ∃ c, c ≤ P9 h ∧ y = nJ c := ⟨y.toInt.toNat, by omega, nJ_of c1⟩
        rw [show (nJ c).toInt.toNat = c by have := nJ_toInt (n := c) (by omega); omega, show (nJ s).toInt.toNat = s by have := nJ_toInt (n := s) (by omega); omega]
        have wb := B c hc
        refine E_al rfl L0 ?_
        refine E_ogr (q := 15) rfl hh rfl rfl ?_
        refine E_ogf (q := (0, 8)) rfl hh rfl rfl f0 ?_
        refine E_ci 1 rfl (by decide) ?_
        refine E_bin rfl (nJ_add _ _) ?_
        refine E_is rfl (fun lv1 K3 kp => ?_)
        refine E_al rfl (kp 0 _ (by decide) rfl L0) ?_
        refine E_ogr (q := 15) rfl hh rfl rfl ?_
        refine E_ogr (q := 17) rfl hh rfl rfl ?_
        refine E_il rfl (kp 1 _ (by decide) rfl L1) ?_
        refine E_ial rfl hh rfl (by omega) (by decide) (f17 c hc) ?_
        refine E_il rfl (kp 2 _ (by decide) rfl L2) ?_
        refine E_bin rfl (nJ_add _ _) ?_
        refine E_is rfl (fun lv2 K4 kp2 => ?_)
        have M3 := kp2 3 _ (by decide) rfl K3
        refine E_il rfl K4 ?_
        refine E_il rfl M3 ?_
        by_cases y1 : W9 h c + s ≤ P9 h + 1
        · refine E_icT rfl (decide_eq_true ((nJ_le (by omega) (by omega)).mpr y1)) ?_
          refine E_il rfl K4 ?_
          refine E_rti rfl ⟨rfl, ?_⟩
          unfold WSf
          rw [Nat.mod_eq_of_lt (by omega), show W9 h c - 1 + s + 1 = W9 h c + s by omega]
        · refine E_icF rfl (decide_eq_false (fun q => y1 ((nJ_le (by omega) (by omega)).mp q))) ?_
          refine E_il rfl K4 ?_
          refine E_il rfl M3 ?_
          refine E_bin rfl (nJ_sub (by omega)) ?_
          refine E_goto rfl ?_
          refine E_rti rfl ⟨rfl, ?_⟩
          unfold WSf
          rw [Nat.mod_eq_sub_mod (by omega), Nat.mod_eq_of_lt (by omega), show W9 h c - 1 + s - (P9 h + 1) + 1 = W9 h c + s - (P9 h + 1) by omega]
      · refine E_icF rfl (decide_eq_false (fun q => c2 (by have := Int32.le_iff_toInt_le.mp q; omega))) ?_
        exact no (fun q => c2 q.2.2)
    · refine E_ifT rfl (decide_eq_true (Int32.lt_iff_toInt_lt.mpr (by omega))) ?_
      exact no (fun q => c1 q.2.1)
  · refine E_ifT rfl (by rw [zb_F b]; rfl) ?_
    exact no (fun q => b q.1)
theorem sp_shifted9 (hh : HH h) (V : V9 h) (B : B9 h) : Sp (d + 7) 345 h [.ref 77, .int x, .int y] (fun h' r => r = some (.int (shq h x y))) := by
  obtain ⟨l3, p8, n8⟩ := g9s hh
  refine Sp_of aiX9_shifted rfl rfl rfl ?_
  have L0 : pm_get (lv_args 0 [.ref 77, .int x, .int y]) 0 = some (.ref 77) := rfl
  have L1 : pm_get (lv_args 0 [.ref 77, .int x, .int y]) 1 = some (.int x) := rfl
  have L2 : pm_get (lv_args 0 [.ref 77, .int x, .int y]) 2 = some (.int y) := rfl
  generalize lv_args 0 [.ref 77, .int x, .int y] = lv at L0 L1 L2 ⊢
  refine E_al rfl L0 ?_
  refine E_ci 0 rfl (by decide) ?_
  refine E_pf rfl hh rfl ?_
  have hg : HH (pt h 77 0 (nJ 0)) := HH_ptn hh rfl (by omega) (by omega) (by omega)
  have k : K9 h (pt h 77 0 (nJ 0)) := K9_77
  generalize pt h 77 0 (nJ 0) = g at hg k ⊢
  have no : ¬ ((0 ≤ x.toInt ∧ x.toInt < (N9 h : Int)) ∧ 0 ≤ y.toInt ∧ y.toInt ≤ (P9 h : Int)) → Ends (pm_at tX9_shifted) (pm_Rt pm_P (d + 6)) (28, lv, [], g, 0, 0) (fun h' r => r = some (.int (shq h x y))) := by
    intro q
    refine E_c rfl ?_
    exact E_rti rfl (by unfold shq; rw [if_neg q])
  refine E_al rfl L0 ?_
  refine E_il rfl L1 ?_
  refine E_i2l rfl ?_
  refine E_call rfl (Sp_le (by omega) (sp_isCar (d := d) hg)) (chk77 hg rfl rfl (by show 0 ≤ 8; decide)) (fun h1 r1 => ?_)
  rintro ⟨e1, f1⟩
  rw [e1, f1, show gn g 84 3 = N9 h from N9_K k]
  by_cases b : 0 ≤ x.toInt ∧ x.toInt ≤ (N9 h : Int) - 1
  · refine E_ifF rfl (by rw [zb_T b]; rfl) ?_
    refine E_il rfl L2 ?_
    refine E_i2l rfl ?_
    refine E_c rfl ?_
    refine E_al rfl L0 ?_
    refine E_call rfl (Sp_le (by omega) (sp_places (d := d) hg)) (chk77 hg rfl rfl (by show 4 ≤ 8; decide)) (fun h2 r2 => ?_)
    rintro ⟨e2, f2, -⟩
    rw [e2, f2, show gn g 84 0 = P9 h from P9_K k]
    refine E_i2l rfl ?_
    refine E_call rfl (Sp_le (by omega) (sp_in (d := d) (i2l_toInt y) (b := 0) rfl (c := (P9 h : Int)) (i2l_nJ (by omega)))) (chkS rfl (by show 0 ≤ 8; decide)) (fun h3 r3 => ?_)
    rintro ⟨e3, f3⟩
    rw [e3, f3]
    show Ends _ _ (25, lv, [.int (zb (0 ≤ y.toInt ∧ y.toInt ≤ (P9 h : Int)))], g, 0, 0) _
    by_cases c1 : 0 ≤ y.toInt ∧ y.toInt ≤ (P9 h : Int)
    · refine E_ifT rfl (by rw [zb_T c1]; rfl) ?_
      rw [show shq h x y = nJ (WSf h y.toInt.toNat x.toInt.toNat) from if_pos ⟨⟨b.1, by omega⟩, c1⟩]
      obtain ⟨c, hc, rfl⟩ : ∃ c, c < N9 h ∧ x = nJ c := ⟨x.toInt.toNat, by omega, nJ_of b.1⟩
      obtain ⟨s, hs, rfl⟩ : ∃ c, c ≤ P9 h ∧ y = nJ c := ⟨y.toInt.toNat, by omega, nJ_of c1.1⟩
      rw [show (nJ c).toInt.toNat = c by have := nJ_toInt (n := c) (by omega); omega, show (nJ s).toInt.toNat = s by have := nJ_toInt (n := s) (by omega); omega]
      refine E_al rfl L0 ?_
      refine E_call rfl (Sp_le (by omega) (sp_laysX (d := d) hg (V9_K k V))) (chk77 hg rfl rfl (by show 0 ≤ 8; decide)) (fun h4 r4 => ?_)
      rintro ⟨e4, hh4, f4, -, -, w4⟩
      rw [e4]
      obtain ⟨-, u0, u3, u9⟩ := LY9_of k hh4 f4 w4
      refine E_al rfl L0 ?_
      refine E_il rfl L1 ?_
      refine E_il rfl L2 ?_
      refine E_call rfl (Sp_le (by omega) (sp_shiftedOf (d := d) (c := c) (s := s) hh4 (by omega) (by omega) (by rw [u9 c hc]; exact (B c hc).1))) (chk77 hh4 rfl rfl (by show 0 ≤ 8; decide)) (fun h5 r5 => ?_)
      rintro ⟨e5, f5⟩
      rw [e5, f5, u9 c hc, u0]
      exact E_rti rfl rfl
    · refine E_ifF rfl (by rw [zb_F c1]; rfl) ?_
      exact no (fun q => c1 q.2)
  · refine E_ifT rfl (by rw [zb_F b]; rfl) ?_
    exact no (fun q => b ⟨q.1.1, by omega⟩)
end SHQ
noncomputable def half_shifted (h : pm_H) (r x y : Int32) : Prop := QRE h ∧ r = shq h x y
theorem g8_shifted {h : pm_H} {x y : Int32} (I : IVQ h) : Sp 100 178 h [.ref 0, .int x, .int y] (fun h' v => IVh h' ∧ ∃ r : Int32, v = some (.int r) ∧ half_shifted h' r x y) := by
  refine Sp_le (by omega) (Sp_mono ?_ (Sp_and (top_all (as := [.ref 0, .int x, .int y]) q280 (by decide +kernel) I.1 ⟨rfl, aI _, aI _, trivial⟩) (sp_shifted8 (d := 0) I.1.1 I.2)))
  rintro h' v ⟨⟨s1, s2, -⟩, rfl, rfl⟩
  exact ⟨s1, _, rfl, I.2, rfl⟩
theorem g9_shifted {h : pm_H} {r x y : Int32} (I : IVh h) (J : half_shifted h r x y) : Sp 100 345 h [.ref 77, .int x, .int y] (fun h' v => IVQ h' ∧ v = some (.int r)) := by
  obtain ⟨J1, rfl⟩ := J
  refine Sp_le (by omega) (Sp_mono ?_ (Sp_and (top_all (as := [.ref 77, .int x, .int y]) q283 (by decide +kernel) I ⟨rfl, aI _, aI _, trivial⟩) (sp_shifted9 (d := 0) I.1 (V9_of J1) (B9_of J1))))
  rintro h' v ⟨⟨s1, s2, -⟩, rfl⟩
  exact ⟨⟨s1, QRE_fr s2 rfl J1⟩, rfl⟩
end
section
/-! the law's own run (written by gen_t21.py) -/
noncomputable def RQ1 (_ : pm_H) (r : Option Value) : Prop := r = some (.int 1)
section ENDW
variable {look : Nat → Option pm_I} {call : pm_Call} {Q : pm_H → Option Value → Prop} {pc n i t : Nat} {lv : List (Nat × Value)} {st : List Value} {w : pm_H × Nat × Nat} {h : pm_H} {z : Nat × Nat}
theorem E_alr {x : Nat} (h1 : look pc = some (.inl (s_al i n))) (e : pm_get lv i = some (.retAddr x)) (k : Ends look call (n, lv, .retAddr x :: st, w) Q) : Ends look call (pc, lv, st, w) Q := E_st h1 (by simp only [s_al, e]) k
theorem E_sld {L j : Nat} {xs : Nat → Int32} (h1 : look pc = some (.inl (s_sld L xs n))) (hj : j < L) (hL : L ≤ 3072) (k : Ends look call (n, lv, .int (xs j) :: st, w) Q) : Ends look call (pc, lv, .int (nJ j) :: .retAddr 0 :: st, w) Q := by
  have h2 := nJ_toInt (n := j) (by omega)
  have h3 : pm_ix (nJ j) L = true := ai_ix (by omega) (by omega)
  have h4 : (nJ j).toNatClampNeg = j := by show (nJ j).toInt.toNat = j; omega
  refine E_st h1 ?_ k
  simp only [s_sld, h3, h4, cond_true]
theorem E_slen {L : Nat} (h1 : look pc = some (.inl (s_slen L n))) (hL : L ≤ 3072) (k : Ends look call (n, lv, .int (nJ L) :: st, w) Q) : Ends look call (pc, lv, .retAddr 0 :: st, w) Q := by
  have e : Int32.ofNat L = nJ L := by
    apply Int32.toInt_inj.mp
    rw [nJ_toInt (by omega), Int32.toInt_ofNat_of_lt (by omega)]
  refine E_st h1 ?_ k
  simp only [s_slen, e]
theorem E_lsh {op : Int64 → Int32 → Int64} {x : Int64} {y : Int32} (h1 : look pc = some (.inl (s_lsh op n))) (k : Ends look call (n, lv, .long (op x y) :: st, w) Q) : Ends look call (pc, lv, .int y :: .long x :: st, w) Q := E_st h1 rfl k
theorem E_pop2 {x : Value} (h1 : look pc = some (.inl (s_pop2 n))) (e : x.category = 2) (k : Ends look call (n, lv, st, w) Q) : Ends look call (pc, lv, x :: st, w) Q := E_st h1 (by simp only [s_pop2, e]; rfl) k
theorem E_tsw {lo hi : Int} {ts : List Nat} {dd : Nat} {x : Int32} (h1 : look pc = some (.inl (s_tsw lo hi ts dd))) (hz : (decide (x.toInt < lo) || decide (hi < x.toInt)) = false) (ht : ts[(x.toInt - lo).toNat]? = some t) (k : Ends look call (t, lv, st, w) Q) : Ends look call (pc, lv, .int x :: st, w) Q := E_st h1 (by simp only [s_tsw, hz, cond_false, ht]) k
theorem E_tswD {lo hi : Int} {ts : List Nat} {dd : Nat} {x : Int32} (h1 : look pc = some (.inl (s_tsw lo hi ts dd))) (hz : (decide (x.toInt < lo) || decide (hi < x.toInt)) = true) (k : Ends look call (dd, lv, st, w) Q) : Ends look call (pc, lv, .int x :: st, w) Q := E_st h1 (by simp only [s_tsw, hz, cond_true]) k
theorem chkR {a ci k : Nat} {fs : List AF} {as : List Value} (hh : HH h) (hc : hs0[a]? = some (.inr (.inr (.inr (ci, fs))))) (h9 : Nat.blt ci 100 = true) (hl : Nat.ble k st.length = true) (e : (st.take k).reverse = .ref a :: as) (hs : pm_sz (st.drop k) ≤ 8) : pm_chk k (some ci) 0 0 st (h, z) := by
  obtain ⟨x, hx, hg⟩ := hs_at hh hc
  match x, hx, hg with
  | .inr (cq, vs), hx, hg =>
    obtain ⟨rfl, -, -⟩ := hg
    refine ⟨Nat.le_of_ble_eq_true hl, fun q hq => ?_, hs, Nat.zero_le _, Nat.zero_le _⟩
    cases hq
    exact ⟨fun _ => ⟨a, vs, as, e, hx⟩, fun h7 => absurd (Nat.le_of_ble_eq_true h9) (Nat.not_lt.mpr h7)⟩
end ENDW
theorem nJ_inc6 (a : Nat) : nJ a + 6 = nJ (a + 6) := nJ_add a 6
theorem one_rv {a : Int} {v : Int32} {h : pm_H} {r : Option Value} (hv : rv_g h (some (.inl (cI a a))) r) (e : v.toInt = a) : r = some (.int v) := by
  cases r with
  | none => exact hv.elim
  | some u => cases u with
    | int x =>
      have h1 : a ≤ x.toInt ∧ x.toInt ≤ a := hv
      exact congrArg some (congrArg Value.int (Int32.toInt_inj.mp (by omega)))
    | _ => exact hv.elim

set_option maxRecDepth 20000 in
theorem bl_0 {L : Nat} {xs : Nat → Int32} (hL : L ≤ 3072) {h : pm_H} {i : Nat} (hi : i + 6 ≤ L) (lv : List (Nat × Value)) (I : IVQ h) (L0 : pm_get lv 0 = some (.retAddr 0)) (L1 : pm_get lv 1 = some (.ref 0)) (L2 : pm_get lv 2 = some (.ref 77)) (L3 : pm_get lv 3 = some (.int (nJ i))) (K : ∀ h', IVQ h' → Ends (pm_tr (lb_all L xs)) (pm_Rt pm_P 100) (2392, lv, [], h', 599897, 7298671) RQ1) : Ends (pm_tr (lb_all L xs)) (pm_Rt pm_P 100) (376, lv, [], h, 599897, 7298671) RQ1 := by
  refine E_al rfl L1 ?_
  refine E_alr rfl L0 ?_
  refine E_il rfl L3 ?_
  refine E_ci 1 rfl (by decide) ?_
  refine E_bin rfl (nJ_add _ _) ?_
  refine E_sld rfl (by omega) hL ?_
  refine E_alr rfl L0 ?_
  refine E_il rfl L3 ?_
  refine E_ci 2 rfl (by decide) ?_
  refine E_bin rfl (nJ_add _ _) ?_
  refine E_sld rfl (by omega) hL ?_
  refine E_alr rfl L0 ?_
  refine E_il rfl L3 ?_
  refine E_ci 3 rfl (by decide) ?_
  refine E_bin rfl (nJ_add _ _) ?_
  refine E_sld rfl (by omega) hL ?_
  refine E_alr rfl L0 ?_
  refine E_il rfl L3 ?_
  refine E_ci 4 rfl (by decide) ?_
  refine E_bin rfl (nJ_add _ _) ?_
  refine E_sld rfl (by omega) hL ?_
  refine E_alr rfl L0 ?_
  refine E_il rfl L3 ?_
  refine E_ci 5 rfl (by decide) ?_
  refine E_bin rfl (nJ_add _ _) ?_
  refine E_sld rfl (by omega) hL ?_
  refine E_call rfl (g8_feed I) (chkR (a := 0) I.1.1 rfl rfl rfl rfl (by show 0 ≤ 8; decide)) (fun h1 r1 => ?_)
  rintro ⟨I1, x1, f1, J1⟩
  rw [f1]
  show Ends _ _ (405, lv, [.int x1], h1, 599897, 7298671) _
  refine E_pop rfl rfl ?_
  refine E_al rfl L2 ?_
  refine E_alr rfl L0 ?_
  refine E_il rfl L3 ?_
  refine E_ci 1 rfl (by decide) ?_
  refine E_bin rfl (nJ_add _ _) ?_
  refine E_sld rfl (by omega) hL ?_
  refine E_alr rfl L0 ?_
  refine E_il rfl L3 ?_
  refine E_ci 2 rfl (by decide) ?_
  refine E_bin rfl (nJ_add _ _) ?_
  refine E_sld rfl (by omega) hL ?_
  refine E_alr rfl L0 ?_
  refine E_il rfl L3 ?_
  refine E_ci 3 rfl (by decide) ?_
  refine E_bin rfl (nJ_add _ _) ?_
  refine E_sld rfl (by omega) hL ?_
  refine E_alr rfl L0 ?_
  refine E_il rfl L3 ?_
  refine E_ci 4 rfl (by decide) ?_
  refine E_bin rfl (nJ_add _ _) ?_
  refine E_sld rfl (by omega) hL ?_
  refine E_alr rfl L0 ?_
  refine E_il rfl L3 ?_
  refine E_ci 5 rfl (by decide) ?_
  refine E_bin rfl (nJ_add _ _) ?_
  refine E_sld rfl (by omega) hL ?_
  refine E_call rfl (g9_feed I1 J1) (chkR (a := 77) I1.1 rfl rfl rfl rfl (by show 0 ≤ 8; decide)) (fun h2 r2 => ?_)
  rintro ⟨I2, f2⟩
  rw [f2]
  show Ends _ _ (435, lv, [.int x1], h2, 599897, 7298671) _
  refine E_pop rfl rfl ?_
  refine E_goto rfl ?_
  exact K _ I2
set_option maxRecDepth 20000 in
theorem bl_1 {L : Nat} {xs : Nat → Int32} (hL : L ≤ 3072) {h : pm_H} {i : Nat} (hi : i + 6 ≤ L) (lv : List (Nat × Value)) (I : IVQ h) (L0 : pm_get lv 0 = some (.retAddr 0)) (L1 : pm_get lv 1 = some (.ref 0)) (L2 : pm_get lv 2 = some (.ref 77)) (L3 : pm_get lv 3 = some (.int (nJ i))) (K : ∀ h', IVQ h' → Ends (pm_tr (lb_all L xs)) (pm_Rt pm_P 100) (2392, lv, [], h', 599897, 7298671) RQ1) : Ends (pm_tr (lb_all L xs)) (pm_Rt pm_P 100) (439, lv, [], h, 599897, 7298671) RQ1 := by
  refine E_al rfl L1 ?_
  refine E_alr rfl L0 ?_
  refine E_il rfl L3 ?_
  refine E_ci 1 rfl (by decide) ?_
  refine E_bin rfl (nJ_add _ _) ?_
  refine E_sld rfl (by omega) hL ?_
  refine E_call rfl (g8_end I) (chkR (a := 0) I.1.1 rfl rfl rfl rfl (by show 0 ≤ 8; decide)) (fun h1 r1 => ?_)
  rintro ⟨I1, x1, f1, J1⟩
  rw [f1]
  show Ends _ _ (448, lv, [.int x1], h1, 599897, 7298671) _
  refine E_pop rfl rfl ?_
  refine E_al rfl L2 ?_
  refine E_alr rfl L0 ?_
  refine E_il rfl L3 ?_
  refine E_ci 1 rfl (by decide) ?_
  refine E_bin rfl (nJ_add _ _) ?_
  refine E_sld rfl (by omega) hL ?_
  refine E_call rfl (g9_end I1 J1) (chkR (a := 77) I1.1 rfl rfl rfl rfl (by show 0 ≤ 8; decide)) (fun h2 r2 => ?_)
  rintro ⟨I2, f2⟩
  rw [f2]
  show Ends _ _ (458, lv, [.int x1], h2, 599897, 7298671) _
  refine E_pop rfl rfl ?_
  refine E_goto rfl ?_
  exact K _ I2
set_option maxRecDepth 20000 in
theorem bl_2 {L : Nat} {xs : Nat → Int32} (hL : L ≤ 3072) {h : pm_H} {i : Nat} (hi : i + 6 ≤ L) (lv : List (Nat × Value)) (I : IVQ h) (L0 : pm_get lv 0 = some (.retAddr 0)) (L1 : pm_get lv 1 = some (.ref 0)) (L2 : pm_get lv 2 = some (.ref 77)) (L3 : pm_get lv 3 = some (.int (nJ i))) (K : ∀ h', IVQ h' → Ends (pm_tr (lb_all L xs)) (pm_Rt pm_P 100) (2392, lv, [], h', 599897, 7298671) RQ1) : Ends (pm_tr (lb_all L xs)) (pm_Rt pm_P 100) (462, lv, [], h, 599897, 7298671) RQ1 := by
  refine E_al rfl L1 ?_
  refine E_call rfl (g8_street I) (chkR (a := 0) I.1.1 rfl rfl rfl rfl (by show 0 ≤ 8; decide)) (fun h1 r1 => ?_)
  rintro ⟨I1, x1, f1, J1⟩
  rw [f1]
  show Ends _ _ (466, lv, [.int x1], h1, 599897, 7298671) _
  refine E_pop rfl rfl ?_
  refine E_al rfl L2 ?_
  refine E_call rfl (g9_street I1 J1) (chkR (a := 77) I1.1 rfl rfl rfl rfl (by show 0 ≤ 8; decide)) (fun h2 r2 => ?_)
  rintro ⟨I2, f2⟩
  rw [f2]
  show Ends _ _ (471, lv, [.int x1], h2, 599897, 7298671) _
  refine E_pop rfl rfl ?_
  refine E_goto rfl ?_
  exact K _ I2
set_option maxRecDepth 20000 in
theorem bl_3 {L : Nat} {xs : Nat → Int32} (hL : L ≤ 3072) {h : pm_H} {i : Nat} (hi : i + 6 ≤ L) (lv : List (Nat × Value)) (I : IVQ h) (L0 : pm_get lv 0 = some (.retAddr 0)) (L1 : pm_get lv 1 = some (.ref 0)) (L2 : pm_get lv 2 = some (.ref 77)) (L3 : pm_get lv 3 = some (.int (nJ i))) (K : ∀ h', IVQ h' → Ends (pm_tr (lb_all L xs)) (pm_Rt pm_P 100) (2392, lv, [], h', 599897, 7298671) RQ1) : Ends (pm_tr (lb_all L xs)) (pm_Rt pm_P 100) (475, lv, [], h, 599897, 7298671) RQ1 := by
  refine E_al rfl L1 ?_
  refine E_alr rfl L0 ?_
  refine E_il rfl L3 ?_
  refine E_ci 1 rfl (by decide) ?_
  refine E_bin rfl (nJ_add _ _) ?_
  refine E_sld rfl (by omega) hL ?_
  refine E_call rfl (tQ_int (by decide +kernel) (by decide +kernel) I.2 (top_int (as := [.ref 0, .int (xs ((i + 1)))]) q107 (by decide +kernel) (by decide +kernel) I.1 ⟨rfl, aI _, trivial⟩)) (chkR (a := 0) I.1.1 rfl rfl rfl rfl (by show 0 ≤ 8; decide)) (fun h1 r1 => ?_)
  rintro ⟨I1, x1, f1⟩
  rw [f1]
  show Ends _ _ (484, lv, [.int x1], h1, 599897, 7298671) _
  refine E_pop rfl rfl ?_
  refine E_al rfl L2 ?_
  refine E_alr rfl L0 ?_
  refine E_il rfl L3 ?_
  refine E_ci 1 rfl (by decide) ?_
  refine E_bin rfl (nJ_add _ _) ?_
  refine E_sld rfl (by omega) hL ?_
  refine E_call rfl (tQ_int (by decide +kernel) (by decide +kernel) I1.2 (top_int (as := [.ref 77, .int (xs ((i + 1)))]) q108 (by decide +kernel) (by decide +kernel) I1.1 ⟨rfl, aI _, trivial⟩)) (chkR (a := 77) I1.1.1 rfl rfl rfl rfl (by show 0 ≤ 8; decide)) (fun h2 r2 => ?_)
  rintro ⟨I2, x2, f2⟩
  rw [f2]
  show Ends _ _ (494, lv, [.int x2], h2, 599897, 7298671) _
  refine E_pop rfl rfl ?_
  refine E_goto rfl ?_
  exact K _ I2
set_option maxRecDepth 20000 in
theorem bl_4 {L : Nat} {xs : Nat → Int32} (hL : L ≤ 3072) {h : pm_H} {i : Nat} (hi : i + 6 ≤ L) (lv : List (Nat × Value)) (I : IVQ h) (L0 : pm_get lv 0 = some (.retAddr 0)) (L1 : pm_get lv 1 = some (.ref 0)) (L2 : pm_get lv 2 = some (.ref 77)) (L3 : pm_get lv 3 = some (.int (nJ i))) (K : ∀ h', IVQ h' → Ends (pm_tr (lb_all L xs)) (pm_Rt pm_P 100) (2392, lv, [], h', 599897, 7298671) RQ1) : Ends (pm_tr (lb_all L xs)) (pm_Rt pm_P 100) (498, lv, [], h, 599897, 7298671) RQ1 := by
  refine E_al rfl L1 ?_
  refine E_alr rfl L0 ?_
  refine E_il rfl L3 ?_
  refine E_ci 1 rfl (by decide) ?_
  refine E_bin rfl (nJ_add _ _) ?_
  refine E_sld rfl (by omega) hL ?_
  refine E_alr rfl L0 ?_
  refine E_il rfl L3 ?_
  refine E_ci 2 rfl (by decide) ?_
  refine E_bin rfl (nJ_add _ _) ?_
  refine E_sld rfl (by omega) hL ?_
  refine E_call rfl (tQ_int (by decide +kernel) (by decide +kernel) I.2 (top_int (as := [.ref 0, .int (xs ((i + 1))), .int (xs ((i + 2)))]) q111 (by decide +kernel) (by decide +kernel) I.1 ⟨rfl, aI _, aI _, trivial⟩)) (chkR (a := 0) I.1.1 rfl rfl rfl rfl (by show 0 ≤ 8; decide)) (fun h1 r1 => ?_)
  rintro ⟨I1, x1, f1⟩
  rw [f1]
  show Ends _ _ (512, lv, [.int x1], h1, 599897, 7298671) _
  refine E_pop rfl rfl ?_
  refine E_al rfl L2 ?_
  refine E_alr rfl L0 ?_
  refine E_il rfl L3 ?_
  refine E_ci 1 rfl (by decide) ?_
  refine E_bin rfl (nJ_add _ _) ?_
  refine E_sld rfl (by omega) hL ?_
  refine E_alr rfl L0 ?_
  refine E_il rfl L3 ?_
  refine E_ci 2 rfl (by decide) ?_
  refine E_bin rfl (nJ_add _ _) ?_
  refine E_sld rfl (by omega) hL ?_
  refine E_call rfl (tQ_int (by decide +kernel) (by decide +kernel) I1.2 (top_int (as := [.ref 77, .int (xs ((i + 1))), .int (xs ((i + 2)))]) q119 (by decide +kernel) (by decide +kernel) I1.1 ⟨rfl, aI _, aI _, trivial⟩)) (chkR (a := 77) I1.1.1 rfl rfl rfl rfl (by show 0 ≤ 8; decide)) (fun h2 r2 => ?_)
  rintro ⟨I2, x2, f2⟩
  rw [f2]
  show Ends _ _ (527, lv, [.int x2], h2, 599897, 7298671) _
  refine E_pop rfl rfl ?_
  refine E_goto rfl ?_
  exact K _ I2
set_option maxRecDepth 20000 in
theorem bl_5 {L : Nat} {xs : Nat → Int32} (hL : L ≤ 3072) {h : pm_H} {i : Nat} (hi : i + 6 ≤ L) (lv : List (Nat × Value)) (I : IVQ h) (L0 : pm_get lv 0 = some (.retAddr 0)) (L1 : pm_get lv 1 = some (.ref 0)) (L2 : pm_get lv 2 = some (.ref 77)) (L3 : pm_get lv 3 = some (.int (nJ i))) (K : ∀ h', IVQ h' → Ends (pm_tr (lb_all L xs)) (pm_Rt pm_P 100) (2392, lv, [], h', 599897, 7298671) RQ1) : Ends (pm_tr (lb_all L xs)) (pm_Rt pm_P 100) (531, lv, [], h, 599897, 7298671) RQ1 := by
  refine E_al rfl L1 ?_
  refine E_alr rfl L0 ?_
  refine E_il rfl L3 ?_
  refine E_ci 1 rfl (by decide) ?_
  refine E_bin rfl (nJ_add _ _) ?_
  refine E_sld rfl (by omega) hL ?_
  refine E_call rfl (tQ_int (by decide +kernel) (by decide +kernel) I.2 (top_int (as := [.ref 0, .int (xs ((i + 1)))]) q138 (by decide +kernel) (by decide +kernel) I.1 ⟨rfl, aI _, trivial⟩)) (chkR (a := 0) I.1.1 rfl rfl rfl rfl (by show 0 ≤ 8; decide)) (fun h1 r1 => ?_)
  rintro ⟨I1, x1, f1⟩
  rw [f1]
  show Ends _ _ (540, lv, [.int x1], h1, 599897, 7298671) _
  refine E_pop rfl rfl ?_
  refine E_al rfl L2 ?_
  refine E_alr rfl L0 ?_
  refine E_il rfl L3 ?_
  refine E_ci 1 rfl (by decide) ?_
  refine E_bin rfl (nJ_add _ _) ?_
  refine E_sld rfl (by omega) hL ?_
  refine E_call rfl (tQ_int (by decide +kernel) (by decide +kernel) I1.2 (top_int (as := [.ref 77, .int (xs ((i + 1)))]) q151 (by decide +kernel) (by decide +kernel) I1.1 ⟨rfl, aI _, trivial⟩)) (chkR (a := 77) I1.1.1 rfl rfl rfl rfl (by show 0 ≤ 8; decide)) (fun h2 r2 => ?_)
  rintro ⟨I2, x2, f2⟩
  rw [f2]
  show Ends _ _ (550, lv, [.int x2], h2, 599897, 7298671) _
  refine E_pop rfl rfl ?_
  refine E_goto rfl ?_
  exact K _ I2
set_option maxRecDepth 20000 in
theorem bl_6 {L : Nat} {xs : Nat → Int32} (hL : L ≤ 3072) {h : pm_H} {i : Nat} (hi : i + 6 ≤ L) (lv : List (Nat × Value)) (I : IVQ h) (L0 : pm_get lv 0 = some (.retAddr 0)) (L1 : pm_get lv 1 = some (.ref 0)) (L2 : pm_get lv 2 = some (.ref 77)) (L3 : pm_get lv 3 = some (.int (nJ i))) (K : ∀ h', IVQ h' → Ends (pm_tr (lb_all L xs)) (pm_Rt pm_P 100) (2392, lv, [], h', 599897, 7298671) RQ1) : Ends (pm_tr (lb_all L xs)) (pm_Rt pm_P 100) (554, lv, [], h, 599897, 7298671) RQ1 := by
  refine E_al rfl L1 ?_
  refine E_alr rfl L0 ?_
  refine E_il rfl L3 ?_
  refine E_ci 1 rfl (by decide) ?_
  refine E_bin rfl (nJ_add _ _) ?_
  refine E_sld rfl (by omega) hL ?_
  refine E_call rfl (tQ_int (by decide +kernel) (by decide +kernel) I.2 (top_int (as := [.ref 0, .int (xs ((i + 1)))]) q154 (by decide +kernel) (by decide +kernel) I.1 ⟨rfl, aI _, trivial⟩)) (chkR (a := 0) I.1.1 rfl rfl rfl rfl (by show 0 ≤ 8; decide)) (fun h1 r1 => ?_)
  rintro ⟨I1, x1, f1⟩
  rw [f1]
  show Ends _ _ (563, lv, [.int x1], h1, 599897, 7298671) _
  refine E_pop rfl rfl ?_
  refine E_al rfl L2 ?_
  refine E_alr rfl L0 ?_
  refine E_il rfl L3 ?_
  refine E_ci 1 rfl (by decide) ?_
  refine E_bin rfl (nJ_add _ _) ?_
  refine E_sld rfl (by omega) hL ?_
  refine E_call rfl (tQ_int (by decide +kernel) (by decide +kernel) I1.2 (top_int (as := [.ref 77, .int (xs ((i + 1)))]) q157 (by decide +kernel) (by decide +kernel) I1.1 ⟨rfl, aI _, trivial⟩)) (chkR (a := 77) I1.1.1 rfl rfl rfl rfl (by show 0 ≤ 8; decide)) (fun h2 r2 => ?_)
  rintro ⟨I2, x2, f2⟩
  rw [f2]
  show Ends _ _ (573, lv, [.int x2], h2, 599897, 7298671) _
  refine E_pop rfl rfl ?_
  refine E_goto rfl ?_
  exact K _ I2
set_option maxRecDepth 20000 in
theorem bl_7 {L : Nat} {xs : Nat → Int32} (hL : L ≤ 3072) {h : pm_H} {i : Nat} (hi : i + 6 ≤ L) (lv : List (Nat × Value)) (I : IVQ h) (L0 : pm_get lv 0 = some (.retAddr 0)) (L1 : pm_get lv 1 = some (.ref 0)) (L2 : pm_get lv 2 = some (.ref 77)) (L3 : pm_get lv 3 = some (.int (nJ i))) (K : ∀ h', IVQ h' → Ends (pm_tr (lb_all L xs)) (pm_Rt pm_P 100) (2392, lv, [], h', 599897, 7298671) RQ1) : Ends (pm_tr (lb_all L xs)) (pm_Rt pm_P 100) (577, lv, [], h, 599897, 7298671) RQ1 := by
  refine E_al rfl L1 ?_
  refine E_call rfl (tQ_int (by decide +kernel) (by decide +kernel) I.2 (top_int (as := [.ref 0]) q159 (by decide +kernel) (by decide +kernel) I.1 ⟨rfl, trivial⟩)) (chkR (a := 0) I.1.1 rfl rfl rfl rfl (by show 0 ≤ 8; decide)) (fun h1 r1 => ?_)
  rintro ⟨I1, x1, f1⟩
  rw [f1]
  show Ends _ _ (581, lv, [.int x1], h1, 599897, 7298671) _
  refine E_pop rfl rfl ?_
  refine E_al rfl L2 ?_
  refine E_call rfl (tQ_int (by decide +kernel) (by decide +kernel) I1.2 (top_int (as := [.ref 77]) q161 (by decide +kernel) (by decide +kernel) I1.1 ⟨rfl, trivial⟩)) (chkR (a := 77) I1.1.1 rfl rfl rfl rfl (by show 0 ≤ 8; decide)) (fun h2 r2 => ?_)
  rintro ⟨I2, x2, f2⟩
  rw [f2]
  show Ends _ _ (586, lv, [.int x2], h2, 599897, 7298671) _
  refine E_pop rfl rfl ?_
  refine E_goto rfl ?_
  exact K _ I2
set_option maxRecDepth 20000 in
theorem bl_8 {L : Nat} {xs : Nat → Int32} (hL : L ≤ 3072) {h : pm_H} {i : Nat} (hi : i + 6 ≤ L) (lv : List (Nat × Value)) (I : IVQ h) (L0 : pm_get lv 0 = some (.retAddr 0)) (L1 : pm_get lv 1 = some (.ref 0)) (L2 : pm_get lv 2 = some (.ref 77)) (L3 : pm_get lv 3 = some (.int (nJ i))) (K : ∀ h', IVQ h' → Ends (pm_tr (lb_all L xs)) (pm_Rt pm_P 100) (2392, lv, [], h', 599897, 7298671) RQ1) : Ends (pm_tr (lb_all L xs)) (pm_Rt pm_P 100) (590, lv, [], h, 599897, 7298671) RQ1 := by
  refine E_al rfl L1 ?_
  refine E_call rfl (tQ_int (by decide +kernel) (by decide +kernel) I.2 (top_int (as := [.ref 0]) q162 (by decide +kernel) (by decide +kernel) I.1 ⟨rfl, trivial⟩)) (chkR (a := 0) I.1.1 rfl rfl rfl rfl (by show 0 ≤ 8; decide)) (fun h1 r1 => ?_)
  rintro ⟨I1, x1, f1⟩
  rw [f1]
  show Ends _ _ (594, lv, [.int x1], h1, 599897, 7298671) _
  refine E_pop rfl rfl ?_
  refine E_al rfl L2 ?_
  refine E_call rfl (tQ_int (by decide +kernel) (by decide +kernel) I1.2 (top_int (as := [.ref 77]) q163 (by decide +kernel) (by decide +kernel) I1.1 ⟨rfl, trivial⟩)) (chkR (a := 77) I1.1.1 rfl rfl rfl rfl (by show 0 ≤ 8; decide)) (fun h2 r2 => ?_)
  rintro ⟨I2, x2, f2⟩
  rw [f2]
  show Ends _ _ (599, lv, [.int x2], h2, 599897, 7298671) _
  refine E_pop rfl rfl ?_
  refine E_goto rfl ?_
  exact K _ I2
set_option maxRecDepth 20000 in
theorem bl_9 {L : Nat} {xs : Nat → Int32} (hL : L ≤ 3072) {h : pm_H} {i : Nat} (hi : i + 6 ≤ L) (lv : List (Nat × Value)) (I : IVQ h) (L0 : pm_get lv 0 = some (.retAddr 0)) (L1 : pm_get lv 1 = some (.ref 0)) (L2 : pm_get lv 2 = some (.ref 77)) (L3 : pm_get lv 3 = some (.int (nJ i))) (K : ∀ h', IVQ h' → Ends (pm_tr (lb_all L xs)) (pm_Rt pm_P 100) (2392, lv, [], h', 599897, 7298671) RQ1) : Ends (pm_tr (lb_all L xs)) (pm_Rt pm_P 100) (603, lv, [], h, 599897, 7298671) RQ1 := by
  refine E_al rfl L1 ?_
  refine E_alr rfl L0 ?_
  refine E_il rfl L3 ?_
  refine E_ci 1 rfl (by decide) ?_
  refine E_bin rfl (nJ_add _ _) ?_
  refine E_sld rfl (by omega) hL ?_
  refine E_call rfl (tQ_int (by decide +kernel) (by decide +kernel) I.2 (top_int (as := [.ref 0, .int (xs ((i + 1)))]) q165 (by decide +kernel) (by decide +kernel) I.1 ⟨rfl, aI _, trivial⟩)) (chkR (a := 0) I.1.1 rfl rfl rfl rfl (by show 0 ≤ 8; decide)) (fun h1 r1 => ?_)
  rintro ⟨I1, x1, f1⟩
  rw [f1]
  show Ends _ _ (612, lv, [.int x1], h1, 599897, 7298671) _
  refine E_pop rfl rfl ?_
  refine E_al rfl L2 ?_
  refine E_alr rfl L0 ?_
  refine E_il rfl L3 ?_
  refine E_ci 1 rfl (by decide) ?_
  refine E_bin rfl (nJ_add _ _) ?_
  refine E_sld rfl (by omega) hL ?_
  refine E_call rfl (tQ_int (by decide +kernel) (by decide +kernel) I1.2 (top_int (as := [.ref 77, .int (xs ((i + 1)))]) q168 (by decide +kernel) (by decide +kernel) I1.1 ⟨rfl, aI _, trivial⟩)) (chkR (a := 77) I1.1.1 rfl rfl rfl rfl (by show 0 ≤ 8; decide)) (fun h2 r2 => ?_)
  rintro ⟨I2, x2, f2⟩
  rw [f2]
  show Ends _ _ (622, lv, [.int x2], h2, 599897, 7298671) _
  refine E_pop rfl rfl ?_
  refine E_goto rfl ?_
  exact K _ I2
set_option maxRecDepth 20000 in
theorem bl_10 {L : Nat} {xs : Nat → Int32} (hL : L ≤ 3072) {h : pm_H} {i : Nat} (hi : i + 6 ≤ L) (lv : List (Nat × Value)) (I : IVQ h) (L0 : pm_get lv 0 = some (.retAddr 0)) (L1 : pm_get lv 1 = some (.ref 0)) (L2 : pm_get lv 2 = some (.ref 77)) (L3 : pm_get lv 3 = some (.int (nJ i))) (K : ∀ h', IVQ h' → Ends (pm_tr (lb_all L xs)) (pm_Rt pm_P 100) (2392, lv, [], h', 599897, 7298671) RQ1) : Ends (pm_tr (lb_all L xs)) (pm_Rt pm_P 100) (626, lv, [], h, 599897, 7298671) RQ1 := by
  refine E_al rfl L1 ?_
  refine E_call rfl (tQ_int (by decide +kernel) (by decide +kernel) I.2 (top_int (as := [.ref 0]) q169 (by decide +kernel) (by decide +kernel) I.1 ⟨rfl, trivial⟩)) (chkR (a := 0) I.1.1 rfl rfl rfl rfl (by show 0 ≤ 8; decide)) (fun h1 r1 => ?_)
  rintro ⟨I1, x1, f1⟩
  rw [f1]
  show Ends _ _ (630, lv, [.int x1], h1, 599897, 7298671) _
  refine E_pop rfl rfl ?_
  refine E_al rfl L2 ?_
  refine E_call rfl (tQ_int (by decide +kernel) (by decide +kernel) I1.2 (top_int (as := [.ref 77]) q170 (by decide +kernel) (by decide +kernel) I1.1 ⟨rfl, trivial⟩)) (chkR (a := 77) I1.1.1 rfl rfl rfl rfl (by show 0 ≤ 8; decide)) (fun h2 r2 => ?_)
  rintro ⟨I2, x2, f2⟩
  rw [f2]
  show Ends _ _ (635, lv, [.int x2], h2, 599897, 7298671) _
  refine E_pop rfl rfl ?_
  refine E_goto rfl ?_
  exact K _ I2
set_option maxRecDepth 20000 in
theorem bl_11 {L : Nat} {xs : Nat → Int32} (hL : L ≤ 3072) {h : pm_H} {i : Nat} (hi : i + 6 ≤ L) (lv : List (Nat × Value)) (I : IVQ h) (L0 : pm_get lv 0 = some (.retAddr 0)) (L1 : pm_get lv 1 = some (.ref 0)) (L2 : pm_get lv 2 = some (.ref 77)) (L3 : pm_get lv 3 = some (.int (nJ i))) (K : ∀ h', IVQ h' → Ends (pm_tr (lb_all L xs)) (pm_Rt pm_P 100) (2392, lv, [], h', 599897, 7298671) RQ1) : Ends (pm_tr (lb_all L xs)) (pm_Rt pm_P 100) (639, lv, [], h, 599897, 7298671) RQ1 := by
  refine E_al rfl L1 ?_
  refine E_call rfl (tQ_int (by decide +kernel) (by decide +kernel) I.2 (top_int (as := [.ref 0]) q171 (by decide +kernel) (by decide +kernel) I.1 ⟨rfl, trivial⟩)) (chkR (a := 0) I.1.1 rfl rfl rfl rfl (by show 0 ≤ 8; decide)) (fun h1 r1 => ?_)
  rintro ⟨I1, x1, f1⟩
  rw [f1]
  show Ends _ _ (643, lv, [.int x1], h1, 599897, 7298671) _
  refine E_pop rfl rfl ?_
  refine E_al rfl L2 ?_
  refine E_call rfl (tQ_int (by decide +kernel) (by decide +kernel) I1.2 (top_int (as := [.ref 77]) q173 (by decide +kernel) (by decide +kernel) I1.1 ⟨rfl, trivial⟩)) (chkR (a := 77) I1.1.1 rfl rfl rfl rfl (by show 0 ≤ 8; decide)) (fun h2 r2 => ?_)
  rintro ⟨I2, x2, f2⟩
  rw [f2]
  show Ends _ _ (648, lv, [.int x2], h2, 599897, 7298671) _
  refine E_pop rfl rfl ?_
  refine E_goto rfl ?_
  exact K _ I2
set_option maxRecDepth 20000 in
theorem bl_12 {L : Nat} {xs : Nat → Int32} (hL : L ≤ 3072) {h : pm_H} {i : Nat} (hi : i + 6 ≤ L) (lv : List (Nat × Value)) (I : IVQ h) (L0 : pm_get lv 0 = some (.retAddr 0)) (L1 : pm_get lv 1 = some (.ref 0)) (L2 : pm_get lv 2 = some (.ref 77)) (L3 : pm_get lv 3 = some (.int (nJ i))) (K : ∀ h', IVQ h' → Ends (pm_tr (lb_all L xs)) (pm_Rt pm_P 100) (2392, lv, [], h', 599897, 7298671) RQ1) : Ends (pm_tr (lb_all L xs)) (pm_Rt pm_P 100) (652, lv, [], h, 599897, 7298671) RQ1 := by
  refine E_al rfl L1 ?_
  refine E_call rfl (tQ_int (by decide +kernel) (by decide +kernel) I.2 (top_int (as := [.ref 0]) q174 (by decide +kernel) (by decide +kernel) I.1 ⟨rfl, trivial⟩)) (chkR (a := 0) I.1.1 rfl rfl rfl rfl (by show 0 ≤ 8; decide)) (fun h1 r1 => ?_)
  rintro ⟨I1, x1, f1⟩
  rw [f1]
  show Ends _ _ (656, lv, [.int x1], h1, 599897, 7298671) _
  refine E_pop rfl rfl ?_
  refine E_al rfl L2 ?_
  refine E_call rfl (tQ_int (by decide +kernel) (by decide +kernel) I1.2 (top_int (as := [.ref 77]) q175 (by decide +kernel) (by decide +kernel) I1.1 ⟨rfl, trivial⟩)) (chkR (a := 77) I1.1.1 rfl rfl rfl rfl (by show 0 ≤ 8; decide)) (fun h2 r2 => ?_)
  rintro ⟨I2, x2, f2⟩
  rw [f2]
  show Ends _ _ (661, lv, [.int x2], h2, 599897, 7298671) _
  refine E_pop rfl rfl ?_
  refine E_goto rfl ?_
  exact K _ I2
set_option maxRecDepth 20000 in
theorem bl_13 {L : Nat} {xs : Nat → Int32} (hL : L ≤ 3072) {h : pm_H} {i : Nat} (hi : i + 6 ≤ L) (lv : List (Nat × Value)) (I : IVQ h) (L0 : pm_get lv 0 = some (.retAddr 0)) (L1 : pm_get lv 1 = some (.ref 0)) (L2 : pm_get lv 2 = some (.ref 77)) (L3 : pm_get lv 3 = some (.int (nJ i))) (K : ∀ h', IVQ h' → Ends (pm_tr (lb_all L xs)) (pm_Rt pm_P 100) (2392, lv, [], h', 599897, 7298671) RQ1) : Ends (pm_tr (lb_all L xs)) (pm_Rt pm_P 100) (665, lv, [], h, 599897, 7298671) RQ1 := by
  refine E_al rfl L1 ?_
  refine E_call rfl (tQ_int (by decide +kernel) (by decide +kernel) I.2 (top_int (as := [.ref 0]) q177 (by decide +kernel) (by decide +kernel) I.1 ⟨rfl, trivial⟩)) (chkR (a := 0) I.1.1 rfl rfl rfl rfl (by show 0 ≤ 8; decide)) (fun h1 r1 => ?_)
  rintro ⟨I1, x1, f1⟩
  rw [f1]
  show Ends _ _ (669, lv, [.int x1], h1, 599897, 7298671) _
  refine E_pop rfl rfl ?_
  refine E_al rfl L2 ?_
  refine E_call rfl (tQ_int (by decide +kernel) (by decide +kernel) I1.2 (top_int (as := [.ref 77]) q178 (by decide +kernel) (by decide +kernel) I1.1 ⟨rfl, trivial⟩)) (chkR (a := 77) I1.1.1 rfl rfl rfl rfl (by show 0 ≤ 8; decide)) (fun h2 r2 => ?_)
  rintro ⟨I2, x2, f2⟩
  rw [f2]
  show Ends _ _ (674, lv, [.int x2], h2, 599897, 7298671) _
  refine E_pop rfl rfl ?_
  refine E_goto rfl ?_
  exact K _ I2
set_option maxRecDepth 20000 in
theorem bl_14 {L : Nat} {xs : Nat → Int32} (hL : L ≤ 3072) {h : pm_H} {i : Nat} (hi : i + 6 ≤ L) (lv : List (Nat × Value)) (I : IVQ h) (L0 : pm_get lv 0 = some (.retAddr 0)) (L1 : pm_get lv 1 = some (.ref 0)) (L2 : pm_get lv 2 = some (.ref 77)) (L3 : pm_get lv 3 = some (.int (nJ i))) (K : ∀ h', IVQ h' → Ends (pm_tr (lb_all L xs)) (pm_Rt pm_P 100) (2392, lv, [], h', 599897, 7298671) RQ1) : Ends (pm_tr (lb_all L xs)) (pm_Rt pm_P 100) (678, lv, [], h, 599897, 7298671) RQ1 := by
  refine E_al rfl L1 ?_
  refine E_alr rfl L0 ?_
  refine E_il rfl L3 ?_
  refine E_ci 1 rfl (by decide) ?_
  refine E_bin rfl (nJ_add _ _) ?_
  refine E_sld rfl (by omega) hL ?_
  refine E_call rfl (tQ_int (by decide +kernel) (by decide +kernel) I.2 (top_int (as := [.ref 0, .int (xs ((i + 1)))]) q180 (by decide +kernel) (by decide +kernel) I.1 ⟨rfl, aI _, trivial⟩)) (chkR (a := 0) I.1.1 rfl rfl rfl rfl (by show 0 ≤ 8; decide)) (fun h1 r1 => ?_)
  rintro ⟨I1, x1, f1⟩
  rw [f1]
  show Ends _ _ (687, lv, [.int x1], h1, 599897, 7298671) _
  refine E_pop rfl rfl ?_
  refine E_al rfl L2 ?_
  refine E_alr rfl L0 ?_
  refine E_il rfl L3 ?_
  refine E_ci 1 rfl (by decide) ?_
  refine E_bin rfl (nJ_add _ _) ?_
  refine E_sld rfl (by omega) hL ?_
  refine E_call rfl (tQ_int (by decide +kernel) (by decide +kernel) I1.2 (top_int (as := [.ref 77, .int (xs ((i + 1)))]) q245 (by decide +kernel) (by decide +kernel) I1.1 ⟨rfl, aI _, trivial⟩)) (chkR (a := 77) I1.1.1 rfl rfl rfl rfl (by show 0 ≤ 8; decide)) (fun h2 r2 => ?_)
  rintro ⟨I2, x2, f2⟩
  rw [f2]
  show Ends _ _ (697, lv, [.int x2], h2, 599897, 7298671) _
  refine E_pop rfl rfl ?_
  refine E_goto rfl ?_
  exact K _ I2
set_option maxRecDepth 20000 in
theorem bl_15 {L : Nat} {xs : Nat → Int32} (hL : L ≤ 3072) {h : pm_H} {i : Nat} (hi : i + 6 ≤ L) (lv : List (Nat × Value)) (I : IVQ h) (L0 : pm_get lv 0 = some (.retAddr 0)) (L1 : pm_get lv 1 = some (.ref 0)) (L2 : pm_get lv 2 = some (.ref 77)) (L3 : pm_get lv 3 = some (.int (nJ i))) (K : ∀ h', IVQ h' → Ends (pm_tr (lb_all L xs)) (pm_Rt pm_P 100) (2392, lv, [], h', 599897, 7298671) RQ1) : Ends (pm_tr (lb_all L xs)) (pm_Rt pm_P 100) (701, lv, [], h, 599897, 7298671) RQ1 := by
  refine E_al rfl L1 ?_
  refine E_call rfl (tQ_int (by decide +kernel) (by decide +kernel) I.2 (top_int (as := [.ref 0]) q247 (by decide +kernel) (by decide +kernel) I.1 ⟨rfl, trivial⟩)) (chkR (a := 0) I.1.1 rfl rfl rfl rfl (by show 0 ≤ 8; decide)) (fun h1 r1 => ?_)
  rintro ⟨I1, x1, f1⟩
  rw [f1]
  show Ends _ _ (705, lv, [.int x1], h1, 599897, 7298671) _
  refine E_pop rfl rfl ?_
  refine E_al rfl L2 ?_
  refine E_call rfl (tQ_int (by decide +kernel) (by decide +kernel) I1.2 (top_int (as := [.ref 77]) q250 (by decide +kernel) (by decide +kernel) I1.1 ⟨rfl, trivial⟩)) (chkR (a := 77) I1.1.1 rfl rfl rfl rfl (by show 0 ≤ 8; decide)) (fun h2 r2 => ?_)
  rintro ⟨I2, x2, f2⟩
  rw [f2]
  show Ends _ _ (710, lv, [.int x2], h2, 599897, 7298671) _
  refine E_pop rfl rfl ?_
  refine E_goto rfl ?_
  exact K _ I2
set_option maxRecDepth 20000 in
theorem bl_16 {L : Nat} {xs : Nat → Int32} (hL : L ≤ 3072) {h : pm_H} {i : Nat} (hi : i + 6 ≤ L) (lv : List (Nat × Value)) (I : IVQ h) (L0 : pm_get lv 0 = some (.retAddr 0)) (L1 : pm_get lv 1 = some (.ref 0)) (L2 : pm_get lv 2 = some (.ref 77)) (L3 : pm_get lv 3 = some (.int (nJ i))) (K : ∀ h', IVQ h' → Ends (pm_tr (lb_all L xs)) (pm_Rt pm_P 100) (2392, lv, [], h', 599897, 7298671) RQ1) : Ends (pm_tr (lb_all L xs)) (pm_Rt pm_P 100) (714, lv, [], h, 599897, 7298671) RQ1 := by
  refine E_al rfl L1 ?_
  refine E_call rfl (tQ_int (by decide +kernel) (by decide +kernel) I.2 (top_int (as := [.ref 0]) q252 (by decide +kernel) (by decide +kernel) I.1 ⟨rfl, trivial⟩)) (chkR (a := 0) I.1.1 rfl rfl rfl rfl (by show 0 ≤ 8; decide)) (fun h1 r1 => ?_)
  rintro ⟨I1, x1, f1⟩
  rw [f1]
  show Ends _ _ (718, lv, [.int x1], h1, 599897, 7298671) _
  refine E_pop rfl rfl ?_
  refine E_al rfl L2 ?_
  refine E_call rfl (tQ_int (by decide +kernel) (by decide +kernel) I1.2 (top_int (as := [.ref 77]) q254 (by decide +kernel) (by decide +kernel) I1.1 ⟨rfl, trivial⟩)) (chkR (a := 77) I1.1.1 rfl rfl rfl rfl (by show 0 ≤ 8; decide)) (fun h2 r2 => ?_)
  rintro ⟨I2, x2, f2⟩
  rw [f2]
  show Ends _ _ (723, lv, [.int x2], h2, 599897, 7298671) _
  refine E_pop rfl rfl ?_
  refine E_goto rfl ?_
  exact K _ I2
set_option maxRecDepth 20000 in
theorem bl_17 {L : Nat} {xs : Nat → Int32} (hL : L ≤ 3072) {h : pm_H} {i : Nat} (hi : i + 6 ≤ L) (lv : List (Nat × Value)) (I : IVQ h) (L0 : pm_get lv 0 = some (.retAddr 0)) (L1 : pm_get lv 1 = some (.ref 0)) (L2 : pm_get lv 2 = some (.ref 77)) (L3 : pm_get lv 3 = some (.int (nJ i))) (K : ∀ h', IVQ h' → Ends (pm_tr (lb_all L xs)) (pm_Rt pm_P 100) (2392, lv, [], h', 599897, 7298671) RQ1) : Ends (pm_tr (lb_all L xs)) (pm_Rt pm_P 100) (727, lv, [], h, 599897, 7298671) RQ1 := by
  refine E_al rfl L1 ?_
  refine E_call rfl (tQ_int (by decide +kernel) (by decide +kernel) I.2 (top_int (as := [.ref 0]) q257 (by decide +kernel) (by decide +kernel) I.1 ⟨rfl, trivial⟩)) (chkR (a := 0) I.1.1 rfl rfl rfl rfl (by show 0 ≤ 8; decide)) (fun h1 r1 => ?_)
  rintro ⟨I1, x1, f1⟩
  rw [f1]
  show Ends _ _ (731, lv, [.int x1], h1, 599897, 7298671) _
  refine E_pop rfl rfl ?_
  refine E_al rfl L2 ?_
  refine E_call rfl (tQ_int (by decide +kernel) (by decide +kernel) I1.2 (top_int (as := [.ref 77]) q258 (by decide +kernel) (by decide +kernel) I1.1 ⟨rfl, trivial⟩)) (chkR (a := 77) I1.1.1 rfl rfl rfl rfl (by show 0 ≤ 8; decide)) (fun h2 r2 => ?_)
  rintro ⟨I2, x2, f2⟩
  rw [f2]
  show Ends _ _ (736, lv, [.int x2], h2, 599897, 7298671) _
  refine E_pop rfl rfl ?_
  refine E_goto rfl ?_
  exact K _ I2
set_option maxRecDepth 20000 in
theorem bl_18 {L : Nat} {xs : Nat → Int32} (hL : L ≤ 3072) {h : pm_H} {i : Nat} (hi : i + 6 ≤ L) (lv : List (Nat × Value)) (I : IVQ h) (L0 : pm_get lv 0 = some (.retAddr 0)) (L1 : pm_get lv 1 = some (.ref 0)) (L2 : pm_get lv 2 = some (.ref 77)) (L3 : pm_get lv 3 = some (.int (nJ i))) (K : ∀ h', IVQ h' → Ends (pm_tr (lb_all L xs)) (pm_Rt pm_P 100) (2392, lv, [], h', 599897, 7298671) RQ1) : Ends (pm_tr (lb_all L xs)) (pm_Rt pm_P 100) (740, lv, [], h, 599897, 7298671) RQ1 := by
  refine E_al rfl L1 ?_
  refine E_call rfl (tQ_int (by decide +kernel) (by decide +kernel) I.2 (top_int (as := [.ref 0]) q264 (by decide +kernel) (by decide +kernel) I.1 ⟨rfl, trivial⟩)) (chkR (a := 0) I.1.1 rfl rfl rfl rfl (by show 0 ≤ 8; decide)) (fun h1 r1 => ?_)
  rintro ⟨I1, x1, f1⟩
  rw [f1]
  show Ends _ _ (744, lv, [.int x1], h1, 599897, 7298671) _
  refine E_pop rfl rfl ?_
  refine E_al rfl L2 ?_
  refine E_call rfl (tQ_int (by decide +kernel) (by decide +kernel) I1.2 (top_int (as := [.ref 77]) q267 (by decide +kernel) (by decide +kernel) I1.1 ⟨rfl, trivial⟩)) (chkR (a := 77) I1.1.1 rfl rfl rfl rfl (by show 0 ≤ 8; decide)) (fun h2 r2 => ?_)
  rintro ⟨I2, x2, f2⟩
  rw [f2]
  show Ends _ _ (749, lv, [.int x2], h2, 599897, 7298671) _
  refine E_pop rfl rfl ?_
  refine E_goto rfl ?_
  exact K _ I2
set_option maxRecDepth 20000 in
theorem bl_19 {L : Nat} {xs : Nat → Int32} (hL : L ≤ 3072) {h : pm_H} {i : Nat} (hi : i + 6 ≤ L) (lv : List (Nat × Value)) (I : IVQ h) (L0 : pm_get lv 0 = some (.retAddr 0)) (L1 : pm_get lv 1 = some (.ref 0)) (L2 : pm_get lv 2 = some (.ref 77)) (L3 : pm_get lv 3 = some (.int (nJ i))) (K : ∀ h', IVQ h' → Ends (pm_tr (lb_all L xs)) (pm_Rt pm_P 100) (2392, lv, [], h', 599897, 7298671) RQ1) : Ends (pm_tr (lb_all L xs)) (pm_Rt pm_P 100) (753, lv, [], h, 599897, 7298671) RQ1 := by
  refine E_al rfl L1 ?_
  refine E_alr rfl L0 ?_
  refine E_il rfl L3 ?_
  refine E_ci 1 rfl (by decide) ?_
  refine E_bin rfl (nJ_add _ _) ?_
  refine E_sld rfl (by omega) hL ?_
  refine E_call rfl (tQ_int (by decide +kernel) (by decide +kernel) I.2 (top_int (as := [.ref 0, .int (xs ((i + 1)))]) q276 (by decide +kernel) (by decide +kernel) I.1 ⟨rfl, aI _, trivial⟩)) (chkR (a := 0) I.1.1 rfl rfl rfl rfl (by show 0 ≤ 8; decide)) (fun h1 r1 => ?_)
  rintro ⟨I1, x1, f1⟩
  rw [f1]
  show Ends _ _ (762, lv, [.int x1], h1, 599897, 7298671) _
  refine E_pop rfl rfl ?_
  refine E_al rfl L2 ?_
  refine E_alr rfl L0 ?_
  refine E_il rfl L3 ?_
  refine E_ci 1 rfl (by decide) ?_
  refine E_bin rfl (nJ_add _ _) ?_
  refine E_sld rfl (by omega) hL ?_
  refine E_call rfl (tQ_int (by decide +kernel) (by decide +kernel) I1.2 (top_TQ (d := 30) rfl I1.1 (tp_ring (d := 0) I1.1.1 (I1.1.2.2.1 0 (by omega))))) (chkR (a := 77) I1.1.1 rfl rfl rfl rfl (by show 0 ≤ 8; decide)) (fun h2 r2 => ?_)
  rintro ⟨I2, x2, f2⟩
  rw [f2]
  show Ends _ _ (772, lv, [.int x2], h2, 599897, 7298671) _
  refine E_pop rfl rfl ?_
  refine E_goto rfl ?_
  exact K _ I2
set_option maxRecDepth 20000 in
theorem bl_20 {L : Nat} {xs : Nat → Int32} (hL : L ≤ 3072) {h : pm_H} {i : Nat} (hi : i + 6 ≤ L) (lv : List (Nat × Value)) (I : IVQ h) (L0 : pm_get lv 0 = some (.retAddr 0)) (L1 : pm_get lv 1 = some (.ref 0)) (L2 : pm_get lv 2 = some (.ref 77)) (L3 : pm_get lv 3 = some (.int (nJ i))) (K : ∀ h', IVQ h' → Ends (pm_tr (lb_all L xs)) (pm_Rt pm_P 100) (2392, lv, [], h', 599897, 7298671) RQ1) : Ends (pm_tr (lb_all L xs)) (pm_Rt pm_P 100) (776, lv, [], h, 599897, 7298671) RQ1 := by
  refine E_al rfl L1 ?_
  refine E_call rfl (tQ_int (by decide +kernel) (by decide +kernel) I.2 (top_int (as := [.ref 0]) q278 (by decide +kernel) (by decide +kernel) I.1 ⟨rfl, trivial⟩)) (chkR (a := 0) I.1.1 rfl rfl rfl rfl (by show 0 ≤ 8; decide)) (fun h1 r1 => ?_)
  rintro ⟨I1, x1, f1⟩
  rw [f1]
  show Ends _ _ (780, lv, [.int x1], h1, 599897, 7298671) _
  refine E_pop rfl rfl ?_
  refine E_al rfl L2 ?_
  refine E_call rfl (tQ_int (by decide +kernel) (by decide +kernel) I1.2 (top_TQ (d := 30) rfl I1.1 (tp_hole (d := 0) I1.1.1 (I1.1.2.2.1 0 (by omega))))) (chkR (a := 77) I1.1.1 rfl rfl rfl rfl (by show 0 ≤ 8; decide)) (fun h2 r2 => ?_)
  rintro ⟨I2, x2, f2⟩
  rw [f2]
  show Ends _ _ (785, lv, [.int x2], h2, 599897, 7298671) _
  refine E_pop rfl rfl ?_
  refine E_goto rfl ?_
  exact K _ I2
set_option maxRecDepth 20000 in
theorem bl_21 {L : Nat} {xs : Nat → Int32} (hL : L ≤ 3072) {h : pm_H} {i : Nat} (hi : i + 6 ≤ L) (lv : List (Nat × Value)) (I : IVQ h) (L0 : pm_get lv 0 = some (.retAddr 0)) (L1 : pm_get lv 1 = some (.ref 0)) (L2 : pm_get lv 2 = some (.ref 77)) (L3 : pm_get lv 3 = some (.int (nJ i))) (K : ∀ h', IVQ h' → Ends (pm_tr (lb_all L xs)) (pm_Rt pm_P 100) (2392, lv, [], h', 599897, 7298671) RQ1) : Ends (pm_tr (lb_all L xs)) (pm_Rt pm_P 100) (789, lv, [], h, 599897, 7298671) RQ1 := by
  refine E_al rfl L1 ?_
  refine E_call rfl (tQ_int (by decide +kernel) (by decide +kernel) I.2 (top_int (as := [.ref 0]) q279 (by decide +kernel) (by decide +kernel) I.1 ⟨rfl, trivial⟩)) (chkR (a := 0) I.1.1 rfl rfl rfl rfl (by show 0 ≤ 8; decide)) (fun h1 r1 => ?_)
  rintro ⟨I1, x1, f1⟩
  rw [f1]
  show Ends _ _ (793, lv, [.int x1], h1, 599897, 7298671) _
  refine E_pop rfl rfl ?_
  refine E_al rfl L2 ?_
  refine E_call rfl (tQ_int (by decide +kernel) (by decide +kernel) I1.2 (top_TQ (d := 30) rfl I1.1 (tp_shifts (d := 0) I1.1.1 (I1.1.2.2.1 0 (by omega))))) (chkR (a := 77) I1.1.1 rfl rfl rfl rfl (by show 0 ≤ 8; decide)) (fun h2 r2 => ?_)
  rintro ⟨I2, x2, f2⟩
  rw [f2]
  show Ends _ _ (798, lv, [.int x2], h2, 599897, 7298671) _
  refine E_pop rfl rfl ?_
  refine E_goto rfl ?_
  exact K _ I2
set_option maxRecDepth 20000 in
theorem bl_22 {L : Nat} {xs : Nat → Int32} (hL : L ≤ 3072) {h : pm_H} {i : Nat} (hi : i + 6 ≤ L) (lv : List (Nat × Value)) (I : IVQ h) (L0 : pm_get lv 0 = some (.retAddr 0)) (L1 : pm_get lv 1 = some (.ref 0)) (L2 : pm_get lv 2 = some (.ref 77)) (L3 : pm_get lv 3 = some (.int (nJ i))) (K : ∀ h', IVQ h' → Ends (pm_tr (lb_all L xs)) (pm_Rt pm_P 100) (2392, lv, [], h', 599897, 7298671) RQ1) : Ends (pm_tr (lb_all L xs)) (pm_Rt pm_P 100) (802, lv, [], h, 599897, 7298671) RQ1 := by
  refine E_al rfl L1 ?_
  refine E_alr rfl L0 ?_
  refine E_il rfl L3 ?_
  refine E_ci 1 rfl (by decide) ?_
  refine E_bin rfl (nJ_add _ _) ?_
  refine E_sld rfl (by omega) hL ?_
  refine E_alr rfl L0 ?_
  refine E_il rfl L3 ?_
  refine E_ci 2 rfl (by decide) ?_
  refine E_bin rfl (nJ_add _ _) ?_
  refine E_sld rfl (by omega) hL ?_
  refine E_call rfl (g8_shifted I) (chkR (a := 0) I.1.1 rfl rfl rfl rfl (by show 0 ≤ 8; decide)) (fun h1 r1 => ?_)
  rintro ⟨I1, x1, f1, J1⟩
  rw [f1]
  show Ends _ _ (816, lv, [.int x1], h1, 599897, 7298671) _
  refine E_al rfl L2 ?_
  refine E_alr rfl L0 ?_
  refine E_il rfl L3 ?_
  refine E_ci 1 rfl (by decide) ?_
  refine E_bin rfl (nJ_add _ _) ?_
  refine E_sld rfl (by omega) hL ?_
  refine E_alr rfl L0 ?_
  refine E_il rfl L3 ?_
  refine E_ci 2 rfl (by decide) ?_
  refine E_bin rfl (nJ_add _ _) ?_
  refine E_sld rfl (by omega) hL ?_
  refine E_call rfl (g9_shifted I1 J1) (chkR (a := 77) I1.1 rfl rfl rfl rfl (by show 1 ≤ 8; decide)) (fun h2 r2 => ?_)
  rintro ⟨I2, f2⟩
  rw [f2]
  show Ends _ _ (830, lv, [.int x1, .int x1], h2, 599897, 7298671) _
  refine E_icT rfl (decide_eq_true rfl) ?_
  exact K _ I2
set_option maxRecDepth 20000 in
theorem bl_23 {L : Nat} {xs : Nat → Int32} (hL : L ≤ 3072) {h : pm_H} {i : Nat} (hi : i + 6 ≤ L) (lv : List (Nat × Value)) (I : IVQ h) (L0 : pm_get lv 0 = some (.retAddr 0)) (L1 : pm_get lv 1 = some (.ref 0)) (L2 : pm_get lv 2 = some (.ref 77)) (L3 : pm_get lv 3 = some (.int (nJ i))) (K : ∀ h', IVQ h' → Ends (pm_tr (lb_all L xs)) (pm_Rt pm_P 100) (2392, lv, [], h', 599897, 7298671) RQ1) : Ends (pm_tr (lb_all L xs)) (pm_Rt pm_P 100) (835, lv, [], h, 599897, 7298671) RQ1 := by
  refine E_al rfl L1 ?_
  refine E_alr rfl L0 ?_
  refine E_il rfl L3 ?_
  refine E_ci 1 rfl (by decide) ?_
  refine E_bin rfl (nJ_add _ _) ?_
  refine E_sld rfl (by omega) hL ?_
  refine E_call rfl (tQ_int (by decide +kernel) (by decide +kernel) I.2 (top_int (as := [.ref 0, .int (xs ((i + 1)))]) q289 (by decide +kernel) (by decide +kernel) I.1 ⟨rfl, aI _, trivial⟩)) (chkR (a := 0) I.1.1 rfl rfl rfl rfl (by show 0 ≤ 8; decide)) (fun h1 r1 => ?_)
  rintro ⟨I1, x1, f1⟩
  rw [f1]
  show Ends _ _ (844, lv, [.int x1], h1, 599897, 7298671) _
  refine E_pop rfl rfl ?_
  refine E_al rfl L2 ?_
  refine E_alr rfl L0 ?_
  refine E_il rfl L3 ?_
  refine E_ci 1 rfl (by decide) ?_
  refine E_bin rfl (nJ_add _ _) ?_
  refine E_sld rfl (by omega) hL ?_
  refine E_call rfl (tQ_int (by decide +kernel) (by decide +kernel) I1.2 (top_TQ (d := 30) rfl I1.1 (tp_parent (d := 0) I1.1.1 (I1.1.2.2.1 0 (by omega))))) (chkR (a := 77) I1.1.1 rfl rfl rfl rfl (by show 0 ≤ 8; decide)) (fun h2 r2 => ?_)
  rintro ⟨I2, x2, f2⟩
  rw [f2]
  show Ends _ _ (854, lv, [.int x2], h2, 599897, 7298671) _
  refine E_pop rfl rfl ?_
  refine E_goto rfl ?_
  exact K _ I2
set_option maxRecDepth 20000 in
theorem bl_24 {L : Nat} {xs : Nat → Int32} (hL : L ≤ 3072) {h : pm_H} {i : Nat} (hi : i + 6 ≤ L) (lv : List (Nat × Value)) (I : IVQ h) (L0 : pm_get lv 0 = some (.retAddr 0)) (L1 : pm_get lv 1 = some (.ref 0)) (L2 : pm_get lv 2 = some (.ref 77)) (L3 : pm_get lv 3 = some (.int (nJ i))) (K : ∀ h', IVQ h' → Ends (pm_tr (lb_all L xs)) (pm_Rt pm_P 100) (2392, lv, [], h', 599897, 7298671) RQ1) : Ends (pm_tr (lb_all L xs)) (pm_Rt pm_P 100) (858, lv, [], h, 599897, 7298671) RQ1 := by
  refine E_al rfl L1 ?_
  refine E_alr rfl L0 ?_
  refine E_il rfl L3 ?_
  refine E_ci 1 rfl (by decide) ?_
  refine E_bin rfl (nJ_add _ _) ?_
  refine E_sld rfl (by omega) hL ?_
  refine E_call rfl (tQ_int (by decide +kernel) (by decide +kernel) I.2 (top_int (as := [.ref 0, .int (xs ((i + 1)))]) q291 (by decide +kernel) (by decide +kernel) I.1 ⟨rfl, aI _, trivial⟩)) (chkR (a := 0) I.1.1 rfl rfl rfl rfl (by show 0 ≤ 8; decide)) (fun h1 r1 => ?_)
  rintro ⟨I1, x1, f1⟩
  rw [f1]
  show Ends _ _ (867, lv, [.int x1], h1, 599897, 7298671) _
  refine E_pop rfl rfl ?_
  refine E_al rfl L2 ?_
  refine E_alr rfl L0 ?_
  refine E_il rfl L3 ?_
  refine E_ci 1 rfl (by decide) ?_
  refine E_bin rfl (nJ_add _ _) ?_
  refine E_sld rfl (by omega) hL ?_
  refine E_call rfl (tQ_int (by decide +kernel) (by decide +kernel) I1.2 (top_TQ (d := 30) rfl I1.1 (tp_depth (d := 0) I1.1.1 (I1.1.2.2.1 0 (by omega))))) (chkR (a := 77) I1.1.1 rfl rfl rfl rfl (by show 0 ≤ 8; decide)) (fun h2 r2 => ?_)
  rintro ⟨I2, x2, f2⟩
  rw [f2]
  show Ends _ _ (877, lv, [.int x2], h2, 599897, 7298671) _
  refine E_pop rfl rfl ?_
  refine E_goto rfl ?_
  exact K _ I2
set_option maxRecDepth 20000 in
theorem bl_25 {L : Nat} {xs : Nat → Int32} (hL : L ≤ 3072) {h : pm_H} {i : Nat} (hi : i + 6 ≤ L) (lv : List (Nat × Value)) (I : IVQ h) (L0 : pm_get lv 0 = some (.retAddr 0)) (L1 : pm_get lv 1 = some (.ref 0)) (L2 : pm_get lv 2 = some (.ref 77)) (L3 : pm_get lv 3 = some (.int (nJ i))) (K : ∀ h', IVQ h' → Ends (pm_tr (lb_all L xs)) (pm_Rt pm_P 100) (2392, lv, [], h', 599897, 7298671) RQ1) : Ends (pm_tr (lb_all L xs)) (pm_Rt pm_P 100) (881, lv, [], h, 599897, 7298671) RQ1 := by
  refine E_al rfl L1 ?_
  refine E_alr rfl L0 ?_
  refine E_il rfl L3 ?_
  refine E_ci 1 rfl (by decide) ?_
  refine E_bin rfl (nJ_add _ _) ?_
  refine E_sld rfl (by omega) hL ?_
  refine E_call rfl (tQ_int (by decide +kernel) (by decide +kernel) I.2 (top_int (as := [.ref 0, .int (xs ((i + 1)))]) q293 (by decide +kernel) (by decide +kernel) I.1 ⟨rfl, aI _, trivial⟩)) (chkR (a := 0) I.1.1 rfl rfl rfl rfl (by show 0 ≤ 8; decide)) (fun h1 r1 => ?_)
  rintro ⟨I1, x1, f1⟩
  rw [f1]
  show Ends _ _ (890, lv, [.int x1], h1, 599897, 7298671) _
  refine E_pop rfl rfl ?_
  refine E_al rfl L2 ?_
  refine E_alr rfl L0 ?_
  refine E_il rfl L3 ?_
  refine E_ci 1 rfl (by decide) ?_
  refine E_bin rfl (nJ_add _ _) ?_
  refine E_sld rfl (by omega) hL ?_
  refine E_call rfl (tQ_int (by decide +kernel) (by decide +kernel) I1.2 (top_TQ (d := 30) rfl I1.1 (tp_kids (d := 0) I1.1.1 (I1.1.2.2.1 0 (by omega))))) (chkR (a := 77) I1.1.1 rfl rfl rfl rfl (by show 0 ≤ 8; decide)) (fun h2 r2 => ?_)
  rintro ⟨I2, x2, f2⟩
  rw [f2]
  show Ends _ _ (900, lv, [.int x2], h2, 599897, 7298671) _
  refine E_pop rfl rfl ?_
  refine E_goto rfl ?_
  exact K _ I2
set_option maxRecDepth 20000 in
theorem bl_26 {L : Nat} {xs : Nat → Int32} (hL : L ≤ 3072) {h : pm_H} {i : Nat} (hi : i + 6 ≤ L) (lv : List (Nat × Value)) (I : IVQ h) (L0 : pm_get lv 0 = some (.retAddr 0)) (L1 : pm_get lv 1 = some (.ref 0)) (L2 : pm_get lv 2 = some (.ref 77)) (L3 : pm_get lv 3 = some (.int (nJ i))) (K : ∀ h', IVQ h' → Ends (pm_tr (lb_all L xs)) (pm_Rt pm_P 100) (2392, lv, [], h', 599897, 7298671) RQ1) : Ends (pm_tr (lb_all L xs)) (pm_Rt pm_P 100) (904, lv, [], h, 599897, 7298671) RQ1 := by
  refine E_al rfl L1 ?_
  refine E_alr rfl L0 ?_
  refine E_il rfl L3 ?_
  refine E_ci 1 rfl (by decide) ?_
  refine E_bin rfl (nJ_add _ _) ?_
  refine E_sld rfl (by omega) hL ?_
  refine E_call rfl (tQ_int (by decide +kernel) (by decide +kernel) I.2 (top_int (as := [.ref 0, .int (xs ((i + 1)))]) q296 (by decide +kernel) (by decide +kernel) I.1 ⟨rfl, aI _, trivial⟩)) (chkR (a := 0) I.1.1 rfl rfl rfl rfl (by show 0 ≤ 8; decide)) (fun h1 r1 => ?_)
  rintro ⟨I1, x1, f1⟩
  rw [f1]
  show Ends _ _ (913, lv, [.int x1], h1, 599897, 7298671) _
  refine E_pop rfl rfl ?_
  refine E_al rfl L2 ?_
  refine E_alr rfl L0 ?_
  refine E_il rfl L3 ?_
  refine E_ci 1 rfl (by decide) ?_
  refine E_bin rfl (nJ_add _ _) ?_
  refine E_sld rfl (by omega) hL ?_
  refine E_call rfl (tQ_int (by decide +kernel) (by decide +kernel) I1.2 (top_TQ (d := 30) rfl I1.1 (tp_queue (d := 0) I1.1.1 (I1.1.2.2.1 0 (by omega))))) (chkR (a := 77) I1.1.1 rfl rfl rfl rfl (by show 0 ≤ 8; decide)) (fun h2 r2 => ?_)
  rintro ⟨I2, x2, f2⟩
  rw [f2]
  show Ends _ _ (923, lv, [.int x2], h2, 599897, 7298671) _
  refine E_pop rfl rfl ?_
  refine E_goto rfl ?_
  exact K _ I2
set_option maxRecDepth 20000 in
theorem bl_27 {L : Nat} {xs : Nat → Int32} (hL : L ≤ 3072) {h : pm_H} {i : Nat} (hi : i + 6 ≤ L) (lv : List (Nat × Value)) (I : IVQ h) (L0 : pm_get lv 0 = some (.retAddr 0)) (L1 : pm_get lv 1 = some (.ref 0)) (L2 : pm_get lv 2 = some (.ref 77)) (L3 : pm_get lv 3 = some (.int (nJ i))) (K : ∀ h', IVQ h' → Ends (pm_tr (lb_all L xs)) (pm_Rt pm_P 100) (2392, lv, [], h', 599897, 7298671) RQ1) : Ends (pm_tr (lb_all L xs)) (pm_Rt pm_P 100) (927, lv, [], h, 599897, 7298671) RQ1 := by
  refine E_al rfl L1 ?_
  refine E_call rfl (tQ_int (by decide +kernel) (by decide +kernel) I.2 (top_int (as := [.ref 0]) q298 (by decide +kernel) (by decide +kernel) I.1 ⟨rfl, trivial⟩)) (chkR (a := 0) I.1.1 rfl rfl rfl rfl (by show 0 ≤ 8; decide)) (fun h1 r1 => ?_)
  rintro ⟨I1, x1, f1⟩
  rw [f1]
  show Ends _ _ (931, lv, [.int x1], h1, 599897, 7298671) _
  refine E_pop rfl rfl ?_
  refine E_al rfl L2 ?_
  refine E_call rfl (tQ_int (by decide +kernel) (by decide +kernel) I1.2 (top_TQ (d := 30) rfl I1.1 (tp_leaves (d := 0) I1.1.1 (I1.1.2.2.1 0 (by omega))))) (chkR (a := 77) I1.1.1 rfl rfl rfl rfl (by show 0 ≤ 8; decide)) (fun h2 r2 => ?_)
  rintro ⟨I2, x2, f2⟩
  rw [f2]
  show Ends _ _ (936, lv, [.int x2], h2, 599897, 7298671) _
  refine E_pop rfl rfl ?_
  refine E_goto rfl ?_
  exact K _ I2
set_option maxRecDepth 20000 in
theorem bl_28 {L : Nat} {xs : Nat → Int32} (hL : L ≤ 3072) {h : pm_H} {i : Nat} (hi : i + 6 ≤ L) (lv : List (Nat × Value)) (I : IVQ h) (L0 : pm_get lv 0 = some (.retAddr 0)) (L1 : pm_get lv 1 = some (.ref 0)) (L2 : pm_get lv 2 = some (.ref 77)) (L3 : pm_get lv 3 = some (.int (nJ i))) (K : ∀ h', IVQ h' → Ends (pm_tr (lb_all L xs)) (pm_Rt pm_P 100) (2392, lv, [], h', 599897, 7298671) RQ1) : Ends (pm_tr (lb_all L xs)) (pm_Rt pm_P 100) (940, lv, [], h, 599897, 7298671) RQ1 := by
  refine E_al rfl L1 ?_
  refine E_call rfl (tQ_int (by decide +kernel) (by decide +kernel) I.2 (top_int (as := [.ref 0]) q301 (by decide +kernel) (by decide +kernel) I.1 ⟨rfl, trivial⟩)) (chkR (a := 0) I.1.1 rfl rfl rfl rfl (by show 0 ≤ 8; decide)) (fun h1 r1 => ?_)
  rintro ⟨I1, x1, f1⟩
  rw [f1]
  show Ends _ _ (944, lv, [.int x1], h1, 599897, 7298671) _
  refine E_pop rfl rfl ?_
  refine E_al rfl L2 ?_
  refine E_call rfl (tQ_int (by decide +kernel) (by decide +kernel) I1.2 (top_TQ (d := 30) rfl I1.1 (tp_inversions (d := 0) I1.1.1 (I1.1.2.2.1 0 (by omega))))) (chkR (a := 77) I1.1.1 rfl rfl rfl rfl (by show 0 ≤ 8; decide)) (fun h2 r2 => ?_)
  rintro ⟨I2, x2, f2⟩
  rw [f2]
  show Ends _ _ (949, lv, [.int x2], h2, 599897, 7298671) _
  refine E_pop rfl rfl ?_
  refine E_goto rfl ?_
  exact K _ I2
set_option maxRecDepth 20000 in
theorem bl_29 {L : Nat} {xs : Nat → Int32} (hL : L ≤ 3072) {h : pm_H} {i : Nat} (hi : i + 6 ≤ L) (lv : List (Nat × Value)) (I : IVQ h) (L0 : pm_get lv 0 = some (.retAddr 0)) (L1 : pm_get lv 1 = some (.ref 0)) (L2 : pm_get lv 2 = some (.ref 77)) (L3 : pm_get lv 3 = some (.int (nJ i))) (K : ∀ h', IVQ h' → Ends (pm_tr (lb_all L xs)) (pm_Rt pm_P 100) (2392, lv, [], h', 599897, 7298671) RQ1) : Ends (pm_tr (lb_all L xs)) (pm_Rt pm_P 100) (953, lv, [], h, 599897, 7298671) RQ1 := by
  refine E_al rfl L1 ?_
  refine E_alr rfl L0 ?_
  refine E_il rfl L3 ?_
  refine E_ci 1 rfl (by decide) ?_
  refine E_bin rfl (nJ_add _ _) ?_
  refine E_sld rfl (by omega) hL ?_
  refine E_call rfl (tQ_int (by decide +kernel) (by decide +kernel) I.2 (top_int (as := [.ref 0, .int (xs ((i + 1)))]) q307 (by decide +kernel) (by decide +kernel) I.1 ⟨rfl, aI _, trivial⟩)) (chkR (a := 0) I.1.1 rfl rfl rfl rfl (by show 0 ≤ 8; decide)) (fun h1 r1 => ?_)
  rintro ⟨I1, x1, f1⟩
  rw [f1]
  show Ends _ _ (962, lv, [.int x1], h1, 599897, 7298671) _
  refine E_pop rfl rfl ?_
  refine E_al rfl L2 ?_
  refine E_alr rfl L0 ?_
  refine E_il rfl L3 ?_
  refine E_ci 1 rfl (by decide) ?_
  refine E_bin rfl (nJ_add _ _) ?_
  refine E_sld rfl (by omega) hL ?_
  refine E_call rfl (tQ_int (by decide +kernel) (by decide +kernel) I1.2 (top_TQ (d := 30) rfl I1.1 (tp_code (d := 0) I1.1.1 (I1.1.2.2.1 0 (by omega))))) (chkR (a := 77) I1.1.1 rfl rfl rfl rfl (by show 0 ≤ 8; decide)) (fun h2 r2 => ?_)
  rintro ⟨I2, x2, f2⟩
  rw [f2]
  show Ends _ _ (972, lv, [.int x2], h2, 599897, 7298671) _
  refine E_pop rfl rfl ?_
  refine E_goto rfl ?_
  exact K _ I2
set_option maxRecDepth 20000 in
theorem bl_30 {L : Nat} {xs : Nat → Int32} (hL : L ≤ 3072) {h : pm_H} {i : Nat} (hi : i + 6 ≤ L) (lv : List (Nat × Value)) (I : IVQ h) (L0 : pm_get lv 0 = some (.retAddr 0)) (L1 : pm_get lv 1 = some (.ref 0)) (L2 : pm_get lv 2 = some (.ref 77)) (L3 : pm_get lv 3 = some (.int (nJ i))) (K : ∀ h', IVQ h' → Ends (pm_tr (lb_all L xs)) (pm_Rt pm_P 100) (2392, lv, [], h', 599897, 7298671) RQ1) : Ends (pm_tr (lb_all L xs)) (pm_Rt pm_P 100) (976, lv, [], h, 599897, 7298671) RQ1 := by
  refine E_al rfl L1 ?_
  refine E_alr rfl L0 ?_
  refine E_il rfl L3 ?_
  refine E_ci 1 rfl (by decide) ?_
  refine E_bin rfl (nJ_add _ _) ?_
  refine E_sld rfl (by omega) hL ?_
  refine E_call rfl (tQ_int (by decide +kernel) (by decide +kernel) I.2 (top_int (as := [.ref 0, .int (xs ((i + 1)))]) q312 (by decide +kernel) (by decide +kernel) I.1 ⟨rfl, aI _, trivial⟩)) (chkR (a := 0) I.1.1 rfl rfl rfl rfl (by show 0 ≤ 8; decide)) (fun h1 r1 => ?_)
  rintro ⟨I1, x1, f1⟩
  rw [f1]
  show Ends _ _ (985, lv, [.int x1], h1, 599897, 7298671) _
  refine E_pop rfl rfl ?_
  refine E_al rfl L2 ?_
  refine E_alr rfl L0 ?_
  refine E_il rfl L3 ?_
  refine E_ci 1 rfl (by decide) ?_
  refine E_bin rfl (nJ_add _ _) ?_
  refine E_sld rfl (by omega) hL ?_
  refine E_call rfl (tQ_int (by decide +kernel) (by decide +kernel) I1.2 (top_TQ (d := 30) rfl I1.1 (tp_burnt (d := 0) I1.1.1 (I1.1.2.2.1 0 (by omega))))) (chkR (a := 77) I1.1.1 rfl rfl rfl rfl (by show 0 ≤ 8; decide)) (fun h2 r2 => ?_)
  rintro ⟨I2, x2, f2⟩
  rw [f2]
  show Ends _ _ (995, lv, [.int x2], h2, 599897, 7298671) _
  refine E_pop rfl rfl ?_
  refine E_goto rfl ?_
  exact K _ I2
set_option maxRecDepth 20000 in
theorem bl_31 {L : Nat} {xs : Nat → Int32} (hL : L ≤ 3072) {h : pm_H} {i : Nat} (hi : i + 6 ≤ L) (lv : List (Nat × Value)) (I : IVQ h) (L0 : pm_get lv 0 = some (.retAddr 0)) (L1 : pm_get lv 1 = some (.ref 0)) (L2 : pm_get lv 2 = some (.ref 77)) (L3 : pm_get lv 3 = some (.int (nJ i))) (K : ∀ h', IVQ h' → Ends (pm_tr (lb_all L xs)) (pm_Rt pm_P 100) (2392, lv, [], h', 599897, 7298671) RQ1) : Ends (pm_tr (lb_all L xs)) (pm_Rt pm_P 100) (999, lv, [], h, 599897, 7298671) RQ1 := by
  refine E_al rfl L1 ?_
  refine E_call rfl (tQ_int (by decide +kernel) (by decide +kernel) I.2 (top_int (as := [.ref 0]) q313 (by decide +kernel) (by decide +kernel) I.1 ⟨rfl, trivial⟩)) (chkR (a := 0) I.1.1 rfl rfl rfl rfl (by show 0 ≤ 8; decide)) (fun h1 r1 => ?_)
  rintro ⟨I1, x1, f1⟩
  rw [f1]
  show Ends _ _ (1003, lv, [.int x1], h1, 599897, 7298671) _
  refine E_pop rfl rfl ?_
  refine E_al rfl L2 ?_
  refine E_call rfl (tQ_int (by decide +kernel) (by decide +kernel) I1.2 (top_TQ (d := 30) rfl I1.1 (tp_turned (d := 0) I1.1.1 (I1.1.2.2.1 0 (by omega))))) (chkR (a := 77) I1.1.1 rfl rfl rfl rfl (by show 0 ≤ 8; decide)) (fun h2 r2 => ?_)
  rintro ⟨I2, x2, f2⟩
  rw [f2]
  show Ends _ _ (1008, lv, [.int x2], h2, 599897, 7298671) _
  refine E_pop rfl rfl ?_
  refine E_goto rfl ?_
  exact K _ I2
set_option maxRecDepth 20000 in
theorem bl_32 {L : Nat} {xs : Nat → Int32} (hL : L ≤ 3072) {h : pm_H} {i : Nat} (hi : i + 6 ≤ L) (lv : List (Nat × Value)) (I : IVQ h) (L0 : pm_get lv 0 = some (.retAddr 0)) (L1 : pm_get lv 1 = some (.ref 0)) (L2 : pm_get lv 2 = some (.ref 77)) (L3 : pm_get lv 3 = some (.int (nJ i))) (K : ∀ h', IVQ h' → Ends (pm_tr (lb_all L xs)) (pm_Rt pm_P 100) (2392, lv, [], h', 599897, 7298671) RQ1) : Ends (pm_tr (lb_all L xs)) (pm_Rt pm_P 100) (1012, lv, [], h, 599897, 7298671) RQ1 := by
  refine E_al rfl L1 ?_
  refine E_alr rfl L0 ?_
  refine E_il rfl L3 ?_
  refine E_ci 1 rfl (by decide) ?_
  refine E_bin rfl (nJ_add _ _) ?_
  refine E_sld rfl (by omega) hL ?_
  refine E_call rfl (tQ_int (by decide +kernel) (by decide +kernel) I.2 (top_int (as := [.ref 0, .int (xs ((i + 1)))]) q314 (by decide +kernel) (by decide +kernel) I.1 ⟨rfl, aI _, trivial⟩)) (chkR (a := 0) I.1.1 rfl rfl rfl rfl (by show 0 ≤ 8; decide)) (fun h1 r1 => ?_)
  rintro ⟨I1, x1, f1⟩
  rw [f1]
  show Ends _ _ (1021, lv, [.int x1], h1, 599897, 7298671) _
  refine E_pop rfl rfl ?_
  refine E_al rfl L2 ?_
  refine E_alr rfl L0 ?_
  refine E_il rfl L3 ?_
  refine E_ci 1 rfl (by decide) ?_
  refine E_bin rfl (nJ_add _ _) ?_
  refine E_sld rfl (by omega) hL ?_
  refine E_call rfl (tQ_int (by decide +kernel) (by decide +kernel) I1.2 (top_TQ (d := 30) rfl I1.1 (tp_visit (d := 0) I1.1.1 (I1.1.2.2.1 0 (by omega))))) (chkR (a := 77) I1.1.1 rfl rfl rfl rfl (by show 0 ≤ 8; decide)) (fun h2 r2 => ?_)
  rintro ⟨I2, x2, f2⟩
  rw [f2]
  show Ends _ _ (1031, lv, [.int x2], h2, 599897, 7298671) _
  refine E_pop rfl rfl ?_
  refine E_goto rfl ?_
  exact K _ I2
set_option maxRecDepth 20000 in
theorem bl_33 {L : Nat} {xs : Nat → Int32} (hL : L ≤ 3072) {h : pm_H} {i : Nat} (hi : i + 6 ≤ L) (lv : List (Nat × Value)) (I : IVQ h) (L0 : pm_get lv 0 = some (.retAddr 0)) (L1 : pm_get lv 1 = some (.ref 0)) (L2 : pm_get lv 2 = some (.ref 77)) (L3 : pm_get lv 3 = some (.int (nJ i))) (K : ∀ h', IVQ h' → Ends (pm_tr (lb_all L xs)) (pm_Rt pm_P 100) (2392, lv, [], h', 599897, 7298671) RQ1) : Ends (pm_tr (lb_all L xs)) (pm_Rt pm_P 100) (1035, lv, [], h, 599897, 7298671) RQ1 := by
  refine E_al rfl L1 ?_
  refine E_alr rfl L0 ?_
  refine E_il rfl L3 ?_
  refine E_ci 1 rfl (by decide) ?_
  refine E_bin rfl (nJ_add _ _) ?_
  refine E_sld rfl (by omega) hL ?_
  refine E_alr rfl L0 ?_
  refine E_il rfl L3 ?_
  refine E_ci 2 rfl (by decide) ?_
  refine E_bin rfl (nJ_add _ _) ?_
  refine E_sld rfl (by omega) hL ?_
  refine E_call rfl (tQ_int (by decide +kernel) (by decide +kernel) I.2 (top_int (as := [.ref 0, .int (xs ((i + 1))), .int (xs ((i + 2)))]) q484 (by decide +kernel) (by decide +kernel) I.1 ⟨rfl, aI _, aI _, trivial⟩)) (chkR (a := 0) I.1.1 rfl rfl rfl rfl (by show 0 ≤ 8; decide)) (fun h1 r1 => ?_)
  rintro ⟨I1, x1, f1⟩
  rw [f1]
  show Ends _ _ (1049, lv, [.int x1], h1, 599897, 7298671) _
  refine E_pop rfl rfl ?_
  refine E_al rfl L2 ?_
  refine E_alr rfl L0 ?_
  refine E_il rfl L3 ?_
  refine E_ci 1 rfl (by decide) ?_
  refine E_bin rfl (nJ_add _ _) ?_
  refine E_sld rfl (by omega) hL ?_
  refine E_alr rfl L0 ?_
  refine E_il rfl L3 ?_
  refine E_ci 2 rfl (by decide) ?_
  refine E_bin rfl (nJ_add _ _) ?_
  refine E_sld rfl (by omega) hL ?_
  refine E_call rfl (tQ_int (by decide +kernel) (by decide +kernel) I1.2 (top_TQ (d := 30) rfl I1.1 (tp_above (d := 0) I1.1.1 (I1.1.2.2.1 0 (by omega))))) (chkR (a := 77) I1.1.1 rfl rfl rfl rfl (by show 0 ≤ 8; decide)) (fun h2 r2 => ?_)
  rintro ⟨I2, x2, f2⟩
  rw [f2]
  show Ends _ _ (1064, lv, [.int x2], h2, 599897, 7298671) _
  refine E_pop rfl rfl ?_
  refine E_goto rfl ?_
  exact K _ I2
set_option maxRecDepth 20000 in
theorem bl_34 {L : Nat} {xs : Nat → Int32} (hL : L ≤ 3072) {h : pm_H} {i : Nat} (hi : i + 6 ≤ L) (lv : List (Nat × Value)) (I : IVQ h) (L0 : pm_get lv 0 = some (.retAddr 0)) (L1 : pm_get lv 1 = some (.ref 0)) (L2 : pm_get lv 2 = some (.ref 77)) (L3 : pm_get lv 3 = some (.int (nJ i))) (K : ∀ h', IVQ h' → Ends (pm_tr (lb_all L xs)) (pm_Rt pm_P 100) (2392, lv, [], h', 599897, 7298671) RQ1) : Ends (pm_tr (lb_all L xs)) (pm_Rt pm_P 100) (1068, lv, [], h, 599897, 7298671) RQ1 := by
  refine E_al rfl L1 ?_
  refine E_alr rfl L0 ?_
  refine E_il rfl L3 ?_
  refine E_ci 1 rfl (by decide) ?_
  refine E_bin rfl (nJ_add _ _) ?_
  refine E_sld rfl (by omega) hL ?_
  refine E_alr rfl L0 ?_
  refine E_il rfl L3 ?_
  refine E_ci 2 rfl (by decide) ?_
  refine E_bin rfl (nJ_add _ _) ?_
  refine E_sld rfl (by omega) hL ?_
  refine E_call rfl (tQ_int (by decide +kernel) (by decide +kernel) I.2 (top_int (as := [.ref 0, .int (xs ((i + 1))), .int (xs ((i + 2)))]) q491 (by decide +kernel) (by decide +kernel) I.1 ⟨rfl, aI _, aI _, trivial⟩)) (chkR (a := 0) I.1.1 rfl rfl rfl rfl (by show 0 ≤ 8; decide)) (fun h1 r1 => ?_)
  rintro ⟨I1, x1, f1⟩
  rw [f1]
  show Ends _ _ (1082, lv, [.int x1], h1, 599897, 7298671) _
  refine E_pop rfl rfl ?_
  refine E_al rfl L2 ?_
  refine E_alr rfl L0 ?_
  refine E_il rfl L3 ?_
  refine E_ci 1 rfl (by decide) ?_
  refine E_bin rfl (nJ_add _ _) ?_
  refine E_sld rfl (by omega) hL ?_
  refine E_alr rfl L0 ?_
  refine E_il rfl L3 ?_
  refine E_ci 2 rfl (by decide) ?_
  refine E_bin rfl (nJ_add _ _) ?_
  refine E_sld rfl (by omega) hL ?_
  refine E_call rfl (tQ_int (by decide +kernel) (by decide +kernel) I1.2 (top_TQ (d := 30) rfl I1.1 (tp_wish (d := 0) I1.1.1 (I1.1.2.2.1 0 (by omega))))) (chkR (a := 77) I1.1.1 rfl rfl rfl rfl (by show 0 ≤ 8; decide)) (fun h2 r2 => ?_)
  rintro ⟨I2, x2, f2⟩
  rw [f2]
  show Ends _ _ (1097, lv, [.int x2], h2, 599897, 7298671) _
  refine E_pop rfl rfl ?_
  refine E_goto rfl ?_
  exact K _ I2
set_option maxRecDepth 20000 in
theorem bl_35 {L : Nat} {xs : Nat → Int32} (hL : L ≤ 3072) {h : pm_H} {i : Nat} (hi : i + 6 ≤ L) (lv : List (Nat × Value)) (I : IVQ h) (L0 : pm_get lv 0 = some (.retAddr 0)) (L1 : pm_get lv 1 = some (.ref 0)) (L2 : pm_get lv 2 = some (.ref 77)) (L3 : pm_get lv 3 = some (.int (nJ i))) (K : ∀ h', IVQ h' → Ends (pm_tr (lb_all L xs)) (pm_Rt pm_P 100) (2392, lv, [], h', 599897, 7298671) RQ1) : Ends (pm_tr (lb_all L xs)) (pm_Rt pm_P 100) (1101, lv, [], h, 599897, 7298671) RQ1 := by
  refine E_al rfl L1 ?_
  refine E_alr rfl L0 ?_
  refine E_il rfl L3 ?_
  refine E_ci 1 rfl (by decide) ?_
  refine E_bin rfl (nJ_add _ _) ?_
  refine E_sld rfl (by omega) hL ?_
  refine E_alr rfl L0 ?_
  refine E_il rfl L3 ?_
  refine E_ci 2 rfl (by decide) ?_
  refine E_bin rfl (nJ_add _ _) ?_
  refine E_sld rfl (by omega) hL ?_
  refine E_call rfl (tQ_int (by decide +kernel) (by decide +kernel) I.2 (top_int (as := [.ref 0, .int (xs ((i + 1))), .int (xs ((i + 2)))]) q495 (by decide +kernel) (by decide +kernel) I.1 ⟨rfl, aI _, aI _, trivial⟩)) (chkR (a := 0) I.1.1 rfl rfl rfl rfl (by show 0 ≤ 8; decide)) (fun h1 r1 => ?_)
  rintro ⟨I1, x1, f1⟩
  rw [f1]
  show Ends _ _ (1115, lv, [.int x1], h1, 599897, 7298671) _
  refine E_pop rfl rfl ?_
  refine E_al rfl L2 ?_
  refine E_alr rfl L0 ?_
  refine E_il rfl L3 ?_
  refine E_ci 1 rfl (by decide) ?_
  refine E_bin rfl (nJ_add _ _) ?_
  refine E_sld rfl (by omega) hL ?_
  refine E_alr rfl L0 ?_
  refine E_il rfl L3 ?_
  refine E_ci 2 rfl (by decide) ?_
  refine E_bin rfl (nJ_add _ _) ?_
  refine E_sld rfl (by omega) hL ?_
  refine E_call rfl (tQ_int (by decide +kernel) (by decide +kernel) I1.2 (top_TQ (d := 30) rfl I1.1 (tp_regain (d := 0) I1.1.1 (I1.1.2.2.1 0 (by omega))))) (chkR (a := 77) I1.1.1 rfl rfl rfl rfl (by show 0 ≤ 8; decide)) (fun h2 r2 => ?_)
  rintro ⟨I2, x2, f2⟩
  rw [f2]
  show Ends _ _ (1130, lv, [.int x2], h2, 599897, 7298671) _
  refine E_pop rfl rfl ?_
  refine E_goto rfl ?_
  exact K _ I2
set_option maxRecDepth 20000 in
theorem bl_36 {L : Nat} {xs : Nat → Int32} (hL : L ≤ 3072) {h : pm_H} {i : Nat} (hi : i + 6 ≤ L) (lv : List (Nat × Value)) (I : IVQ h) (L0 : pm_get lv 0 = some (.retAddr 0)) (L1 : pm_get lv 1 = some (.ref 0)) (L2 : pm_get lv 2 = some (.ref 77)) (L3 : pm_get lv 3 = some (.int (nJ i))) (K : ∀ h', IVQ h' → Ends (pm_tr (lb_all L xs)) (pm_Rt pm_P 100) (2392, lv, [], h', 599897, 7298671) RQ1) : Ends (pm_tr (lb_all L xs)) (pm_Rt pm_P 100) (1134, lv, [], h, 599897, 7298671) RQ1 := by
  refine E_al rfl L1 ?_
  refine E_alr rfl L0 ?_
  refine E_il rfl L3 ?_
  refine E_ci 1 rfl (by decide) ?_
  refine E_bin rfl (nJ_add _ _) ?_
  refine E_sld rfl (by omega) hL ?_
  refine E_call rfl (tQ_int (by decide +kernel) (by decide +kernel) I.2 (top_int (as := [.ref 0, .int (xs ((i + 1)))]) q496 (by decide +kernel) (by decide +kernel) I.1 ⟨rfl, aI _, trivial⟩)) (chkR (a := 0) I.1.1 rfl rfl rfl rfl (by show 0 ≤ 8; decide)) (fun h1 r1 => ?_)
  rintro ⟨I1, x1, f1⟩
  rw [f1]
  show Ends _ _ (1143, lv, [.int x1], h1, 599897, 7298671) _
  refine E_pop rfl rfl ?_
  refine E_al rfl L2 ?_
  refine E_alr rfl L0 ?_
  refine E_il rfl L3 ?_
  refine E_ci 1 rfl (by decide) ?_
  refine E_bin rfl (nJ_add _ _) ?_
  refine E_sld rfl (by omega) hL ?_
  refine E_call rfl (tQ_int (by decide +kernel) (by decide +kernel) I1.2 (top_TQ (d := 30) rfl I1.1 (tp_upset (d := 0) I1.1.1 (I1.1.2.2.1 0 (by omega))))) (chkR (a := 77) I1.1.1 rfl rfl rfl rfl (by show 0 ≤ 8; decide)) (fun h2 r2 => ?_)
  rintro ⟨I2, x2, f2⟩
  rw [f2]
  show Ends _ _ (1153, lv, [.int x2], h2, 599897, 7298671) _
  refine E_pop rfl rfl ?_
  refine E_goto rfl ?_
  exact K _ I2
set_option maxRecDepth 20000 in
theorem bl_37 {L : Nat} {xs : Nat → Int32} (hL : L ≤ 3072) {h : pm_H} {i : Nat} (hi : i + 6 ≤ L) (lv : List (Nat × Value)) (I : IVQ h) (L0 : pm_get lv 0 = some (.retAddr 0)) (L1 : pm_get lv 1 = some (.ref 0)) (L2 : pm_get lv 2 = some (.ref 77)) (L3 : pm_get lv 3 = some (.int (nJ i))) (K : ∀ h', IVQ h' → Ends (pm_tr (lb_all L xs)) (pm_Rt pm_P 100) (2392, lv, [], h', 599897, 7298671) RQ1) : Ends (pm_tr (lb_all L xs)) (pm_Rt pm_P 100) (1157, lv, [], h, 599897, 7298671) RQ1 := by
  refine E_al rfl L1 ?_
  refine E_alr rfl L0 ?_
  refine E_il rfl L3 ?_
  refine E_ci 1 rfl (by decide) ?_
  refine E_bin rfl (nJ_add _ _) ?_
  refine E_sld rfl (by omega) hL ?_
  refine E_call rfl (tQ_int (by decide +kernel) (by decide +kernel) I.2 (top_int (as := [.ref 0, .int (xs ((i + 1)))]) q499 (by decide +kernel) (by decide +kernel) I.1 ⟨rfl, aI _, trivial⟩)) (chkR (a := 0) I.1.1 rfl rfl rfl rfl (by show 0 ≤ 8; decide)) (fun h1 r1 => ?_)
  rintro ⟨I1, x1, f1⟩
  rw [f1]
  show Ends _ _ (1166, lv, [.int x1], h1, 599897, 7298671) _
  refine E_pop rfl rfl ?_
  refine E_al rfl L2 ?_
  refine E_alr rfl L0 ?_
  refine E_il rfl L3 ?_
  refine E_ci 1 rfl (by decide) ?_
  refine E_bin rfl (nJ_add _ _) ?_
  refine E_sld rfl (by omega) hL ?_
  refine E_call rfl (tQ_int (by decide +kernel) (by decide +kernel) I1.2 (top_int (as := [.ref 77, .int (xs ((i + 1)))]) q504 (by decide +kernel) (by decide +kernel) I1.1 ⟨rfl, aI _, trivial⟩)) (chkR (a := 77) I1.1.1 rfl rfl rfl rfl (by show 0 ≤ 8; decide)) (fun h2 r2 => ?_)
  rintro ⟨I2, x2, f2⟩
  rw [f2]
  show Ends _ _ (1176, lv, [.int x2], h2, 599897, 7298671) _
  refine E_pop rfl rfl ?_
  refine E_goto rfl ?_
  exact K _ I2
set_option maxRecDepth 20000 in
theorem bl_38 {L : Nat} {xs : Nat → Int32} (hL : L ≤ 3072) {h : pm_H} {i : Nat} (hi : i + 6 ≤ L) (lv : List (Nat × Value)) (I : IVQ h) (L0 : pm_get lv 0 = some (.retAddr 0)) (L1 : pm_get lv 1 = some (.ref 0)) (L2 : pm_get lv 2 = some (.ref 77)) (L3 : pm_get lv 3 = some (.int (nJ i))) (K : ∀ h', IVQ h' → Ends (pm_tr (lb_all L xs)) (pm_Rt pm_P 100) (2392, lv, [], h', 599897, 7298671) RQ1) : Ends (pm_tr (lb_all L xs)) (pm_Rt pm_P 100) (1180, lv, [], h, 599897, 7298671) RQ1 := by
  refine E_al rfl L1 ?_
  refine E_alr rfl L0 ?_
  refine E_il rfl L3 ?_
  refine E_ci 1 rfl (by decide) ?_
  refine E_bin rfl (nJ_add _ _) ?_
  refine E_sld rfl (by omega) hL ?_
  refine E_alr rfl L0 ?_
  refine E_il rfl L3 ?_
  refine E_ci 2 rfl (by decide) ?_
  refine E_bin rfl (nJ_add _ _) ?_
  refine E_sld rfl (by omega) hL ?_
  refine E_call rfl (tQ_int (by decide +kernel) (by decide +kernel) I.2 (top_int (as := [.ref 0, .int (xs ((i + 1))), .int (xs ((i + 2)))]) q506 (by decide +kernel) (by decide +kernel) I.1 ⟨rfl, aI _, aI _, trivial⟩)) (chkR (a := 0) I.1.1 rfl rfl rfl rfl (by show 0 ≤ 8; decide)) (fun h1 r1 => ?_)
  rintro ⟨I1, x1, f1⟩
  rw [f1]
  show Ends _ _ (1194, lv, [.int x1], h1, 599897, 7298671) _
  refine E_pop rfl rfl ?_
  refine E_al rfl L2 ?_
  refine E_alr rfl L0 ?_
  refine E_il rfl L3 ?_
  refine E_ci 1 rfl (by decide) ?_
  refine E_bin rfl (nJ_add _ _) ?_
  refine E_sld rfl (by omega) hL ?_
  refine E_alr rfl L0 ?_
  refine E_il rfl L3 ?_
  refine E_ci 2 rfl (by decide) ?_
  refine E_bin rfl (nJ_add _ _) ?_
  refine E_sld rfl (by omega) hL ?_
  refine E_call rfl (tQ_int (by decide +kernel) (by decide +kernel) I1.2 (top_int (as := [.ref 77, .int (xs ((i + 1))), .int (xs ((i + 2)))]) q509 (by decide +kernel) (by decide +kernel) I1.1 ⟨rfl, aI _, aI _, trivial⟩)) (chkR (a := 77) I1.1.1 rfl rfl rfl rfl (by show 0 ≤ 8; decide)) (fun h2 r2 => ?_)
  rintro ⟨I2, x2, f2⟩
  rw [f2]
  show Ends _ _ (1209, lv, [.int x2], h2, 599897, 7298671) _
  refine E_pop rfl rfl ?_
  refine E_goto rfl ?_
  exact K _ I2
set_option maxRecDepth 20000 in
theorem bl_39 {L : Nat} {xs : Nat → Int32} (hL : L ≤ 3072) {h : pm_H} {i : Nat} (hi : i + 6 ≤ L) (lv : List (Nat × Value)) (I : IVQ h) (L0 : pm_get lv 0 = some (.retAddr 0)) (L1 : pm_get lv 1 = some (.ref 0)) (L2 : pm_get lv 2 = some (.ref 77)) (L3 : pm_get lv 3 = some (.int (nJ i))) (K : ∀ h', IVQ h' → Ends (pm_tr (lb_all L xs)) (pm_Rt pm_P 100) (2392, lv, [], h', 599897, 7298671) RQ1) : Ends (pm_tr (lb_all L xs)) (pm_Rt pm_P 100) (1213, lv, [], h, 599897, 7298671) RQ1 := by
  refine E_al rfl L1 ?_
  refine E_alr rfl L0 ?_
  refine E_il rfl L3 ?_
  refine E_ci 1 rfl (by decide) ?_
  refine E_bin rfl (nJ_add _ _) ?_
  refine E_sld rfl (by omega) hL ?_
  refine E_alr rfl L0 ?_
  refine E_il rfl L3 ?_
  refine E_ci 2 rfl (by decide) ?_
  refine E_bin rfl (nJ_add _ _) ?_
  refine E_sld rfl (by omega) hL ?_
  refine E_call rfl (tQ_int (by decide +kernel) (by decide +kernel) I.2 (top_int (as := [.ref 0, .int (xs ((i + 1))), .int (xs ((i + 2)))]) q510 (by decide +kernel) (by decide +kernel) I.1 ⟨rfl, aI _, aI _, trivial⟩)) (chkR (a := 0) I.1.1 rfl rfl rfl rfl (by show 0 ≤ 8; decide)) (fun h1 r1 => ?_)
  rintro ⟨I1, x1, f1⟩
  rw [f1]
  show Ends _ _ (1227, lv, [.int x1], h1, 599897, 7298671) _
  refine E_pop rfl rfl ?_
  refine E_al rfl L2 ?_
  refine E_alr rfl L0 ?_
  refine E_il rfl L3 ?_
  refine E_ci 1 rfl (by decide) ?_
  refine E_bin rfl (nJ_add _ _) ?_
  refine E_sld rfl (by omega) hL ?_
  refine E_alr rfl L0 ?_
  refine E_il rfl L3 ?_
  refine E_ci 2 rfl (by decide) ?_
  refine E_bin rfl (nJ_add _ _) ?_
  refine E_sld rfl (by omega) hL ?_
  refine E_call rfl (tQ_int (by decide +kernel) (by decide +kernel) I1.2 (top_TQ (d := 30) rfl I1.1 (tp_trees (d := 0) I1.1.1 (I1.1.2.2.1 0 (by omega))))) (chkR (a := 77) I1.1.1 rfl rfl rfl rfl (by show 0 ≤ 8; decide)) (fun h2 r2 => ?_)
  rintro ⟨I2, x2, f2⟩
  rw [f2]
  show Ends _ _ (1242, lv, [.int x2], h2, 599897, 7298671) _
  refine E_pop rfl rfl ?_
  refine E_goto rfl ?_
  exact K _ I2
set_option maxRecDepth 20000 in
theorem bl_40 {L : Nat} {xs : Nat → Int32} (hL : L ≤ 3072) {h : pm_H} {i : Nat} (hi : i + 6 ≤ L) (lv : List (Nat × Value)) (I : IVQ h) (L0 : pm_get lv 0 = some (.retAddr 0)) (L1 : pm_get lv 1 = some (.ref 0)) (L2 : pm_get lv 2 = some (.ref 77)) (L3 : pm_get lv 3 = some (.int (nJ i))) (K : ∀ h', IVQ h' → Ends (pm_tr (lb_all L xs)) (pm_Rt pm_P 100) (2392, lv, [], h', 599897, 7298671) RQ1) : Ends (pm_tr (lb_all L xs)) (pm_Rt pm_P 100) (1246, lv, [], h, 599897, 7298671) RQ1 := by
  refine E_al rfl L1 ?_
  refine E_alr rfl L0 ?_
  refine E_il rfl L3 ?_
  refine E_ci 1 rfl (by decide) ?_
  refine E_bin rfl (nJ_add _ _) ?_
  refine E_sld rfl (by omega) hL ?_
  refine E_alr rfl L0 ?_
  refine E_il rfl L3 ?_
  refine E_ci 2 rfl (by decide) ?_
  refine E_bin rfl (nJ_add _ _) ?_
  refine E_sld rfl (by omega) hL ?_
  refine E_call rfl (tQ_int (by decide +kernel) (by decide +kernel) I.2 (top_int (as := [.ref 0, .int (xs ((i + 1))), .int (xs ((i + 2)))]) q512 (by decide +kernel) (by decide +kernel) I.1 ⟨rfl, aI _, aI _, trivial⟩)) (chkR (a := 0) I.1.1 rfl rfl rfl rfl (by show 0 ≤ 8; decide)) (fun h1 r1 => ?_)
  rintro ⟨I1, x1, f1⟩
  rw [f1]
  show Ends _ _ (1260, lv, [.int x1], h1, 599897, 7298671) _
  refine E_pop rfl rfl ?_
  refine E_al rfl L2 ?_
  refine E_alr rfl L0 ?_
  refine E_il rfl L3 ?_
  refine E_ci 1 rfl (by decide) ?_
  refine E_bin rfl (nJ_add _ _) ?_
  refine E_sld rfl (by omega) hL ?_
  refine E_alr rfl L0 ?_
  refine E_il rfl L3 ?_
  refine E_ci 2 rfl (by decide) ?_
  refine E_bin rfl (nJ_add _ _) ?_
  refine E_sld rfl (by omega) hL ?_
  refine E_call rfl (tQ_int (by decide +kernel) (by decide +kernel) I1.2 (top_int (as := [.ref 77, .int (xs ((i + 1))), .int (xs ((i + 2)))]) q515 (by decide +kernel) (by decide +kernel) I1.1 ⟨rfl, aI _, aI _, trivial⟩)) (chkR (a := 77) I1.1.1 rfl rfl rfl rfl (by show 0 ≤ 8; decide)) (fun h2 r2 => ?_)
  rintro ⟨I2, x2, f2⟩
  rw [f2]
  show Ends _ _ (1275, lv, [.int x2], h2, 599897, 7298671) _
  refine E_pop rfl rfl ?_
  refine E_goto rfl ?_
  exact K _ I2
set_option maxRecDepth 20000 in
theorem bl_41 {L : Nat} {xs : Nat → Int32} (hL : L ≤ 3072) {h : pm_H} {i : Nat} (hi : i + 6 ≤ L) (lv : List (Nat × Value)) (I : IVQ h) (L0 : pm_get lv 0 = some (.retAddr 0)) (L1 : pm_get lv 1 = some (.ref 0)) (L2 : pm_get lv 2 = some (.ref 77)) (L3 : pm_get lv 3 = some (.int (nJ i))) (K : ∀ h', IVQ h' → Ends (pm_tr (lb_all L xs)) (pm_Rt pm_P 100) (2392, lv, [], h', 599897, 7298671) RQ1) : Ends (pm_tr (lb_all L xs)) (pm_Rt pm_P 100) (1279, lv, [], h, 599897, 7298671) RQ1 := by
  refine E_al rfl L1 ?_
  refine E_alr rfl L0 ?_
  refine E_il rfl L3 ?_
  refine E_ci 1 rfl (by decide) ?_
  refine E_bin rfl (nJ_add _ _) ?_
  refine E_sld rfl (by omega) hL ?_
  refine E_call rfl (tQ_int (by decide +kernel) (by decide +kernel) I.2 (top_int (as := [.ref 0, .int (xs ((i + 1)))]) q520 (by decide +kernel) (by decide +kernel) I.1 ⟨rfl, aI _, trivial⟩)) (chkR (a := 0) I.1.1 rfl rfl rfl rfl (by show 0 ≤ 8; decide)) (fun h1 r1 => ?_)
  rintro ⟨I1, x1, f1⟩
  rw [f1]
  show Ends _ _ (1288, lv, [.int x1], h1, 599897, 7298671) _
  refine E_pop rfl rfl ?_
  refine E_al rfl L2 ?_
  refine E_alr rfl L0 ?_
  refine E_il rfl L3 ?_
  refine E_ci 1 rfl (by decide) ?_
  refine E_bin rfl (nJ_add _ _) ?_
  refine E_sld rfl (by omega) hL ?_
  refine E_call rfl (tQ_int (by decide +kernel) (by decide +kernel) I1.2 (top_int (as := [.ref 77, .int (xs ((i + 1)))]) q528 (by decide +kernel) (by decide +kernel) I1.1 ⟨rfl, aI _, trivial⟩)) (chkR (a := 77) I1.1.1 rfl rfl rfl rfl (by show 0 ≤ 8; decide)) (fun h2 r2 => ?_)
  rintro ⟨I2, x2, f2⟩
  rw [f2]
  show Ends _ _ (1298, lv, [.int x2], h2, 599897, 7298671) _
  refine E_pop rfl rfl ?_
  refine E_goto rfl ?_
  exact K _ I2
set_option maxRecDepth 20000 in
theorem bl_42 {L : Nat} {xs : Nat → Int32} (hL : L ≤ 3072) {h : pm_H} {i : Nat} (hi : i + 6 ≤ L) (lv : List (Nat × Value)) (I : IVQ h) (L0 : pm_get lv 0 = some (.retAddr 0)) (L1 : pm_get lv 1 = some (.ref 0)) (L2 : pm_get lv 2 = some (.ref 77)) (L3 : pm_get lv 3 = some (.int (nJ i))) (K : ∀ h', IVQ h' → Ends (pm_tr (lb_all L xs)) (pm_Rt pm_P 100) (2392, lv, [], h', 599897, 7298671) RQ1) : Ends (pm_tr (lb_all L xs)) (pm_Rt pm_P 100) (1302, lv, [], h, 599897, 7298671) RQ1 := by
  refine E_al rfl L1 ?_
  refine E_alr rfl L0 ?_
  refine E_il rfl L3 ?_
  refine E_ci 1 rfl (by decide) ?_
  refine E_bin rfl (nJ_add _ _) ?_
  refine E_sld rfl (by omega) hL ?_
  refine E_call rfl (tQ_int (by decide +kernel) (by decide +kernel) I.2 (top_int (as := [.ref 0, .int (xs ((i + 1)))]) q530 (by decide +kernel) (by decide +kernel) I.1 ⟨rfl, aI _, trivial⟩)) (chkR (a := 0) I.1.1 rfl rfl rfl rfl (by show 0 ≤ 8; decide)) (fun h1 r1 => ?_)
  rintro ⟨I1, x1, f1⟩
  rw [f1]
  show Ends _ _ (1311, lv, [.int x1], h1, 599897, 7298671) _
  refine E_pop rfl rfl ?_
  refine E_al rfl L2 ?_
  refine E_alr rfl L0 ?_
  refine E_il rfl L3 ?_
  refine E_ci 1 rfl (by decide) ?_
  refine E_bin rfl (nJ_add _ _) ?_
  refine E_sld rfl (by omega) hL ?_
  refine E_call rfl (tQ_int (by decide +kernel) (by decide +kernel) I1.2 (top_int (as := [.ref 77, .int (xs ((i + 1)))]) q533 (by decide +kernel) (by decide +kernel) I1.1 ⟨rfl, aI _, trivial⟩)) (chkR (a := 77) I1.1.1 rfl rfl rfl rfl (by show 0 ≤ 8; decide)) (fun h2 r2 => ?_)
  rintro ⟨I2, x2, f2⟩
  rw [f2]
  show Ends _ _ (1321, lv, [.int x2], h2, 599897, 7298671) _
  refine E_pop rfl rfl ?_
  refine E_goto rfl ?_
  exact K _ I2
set_option maxRecDepth 20000 in
theorem bl_43 {L : Nat} {xs : Nat → Int32} (hL : L ≤ 3072) {h : pm_H} {i : Nat} (hi : i + 6 ≤ L) (lv : List (Nat × Value)) (I : IVQ h) (L0 : pm_get lv 0 = some (.retAddr 0)) (L1 : pm_get lv 1 = some (.ref 0)) (L2 : pm_get lv 2 = some (.ref 77)) (L3 : pm_get lv 3 = some (.int (nJ i))) (K : ∀ h', IVQ h' → Ends (pm_tr (lb_all L xs)) (pm_Rt pm_P 100) (2392, lv, [], h', 599897, 7298671) RQ1) : Ends (pm_tr (lb_all L xs)) (pm_Rt pm_P 100) (1325, lv, [], h, 599897, 7298671) RQ1 := by
  refine E_al rfl L1 ?_
  refine E_call rfl (tQ_int (by decide +kernel) (by decide +kernel) I.2 (top_int (as := [.ref 0]) q534 (by decide +kernel) (by decide +kernel) I.1 ⟨rfl, trivial⟩)) (chkR (a := 0) I.1.1 rfl rfl rfl rfl (by show 0 ≤ 8; decide)) (fun h1 r1 => ?_)
  rintro ⟨I1, x1, f1⟩
  rw [f1]
  show Ends _ _ (1329, lv, [.int x1], h1, 599897, 7298671) _
  refine E_pop rfl rfl ?_
  refine E_al rfl L2 ?_
  refine E_call rfl (tQ_int (by decide +kernel) (by decide +kernel) I1.2 (top_int (as := [.ref 77]) q537 (by decide +kernel) (by decide +kernel) I1.1 ⟨rfl, trivial⟩)) (chkR (a := 77) I1.1.1 rfl rfl rfl rfl (by show 0 ≤ 8; decide)) (fun h2 r2 => ?_)
  rintro ⟨I2, x2, f2⟩
  rw [f2]
  show Ends _ _ (1334, lv, [.int x2], h2, 599897, 7298671) _
  refine E_pop rfl rfl ?_
  refine E_goto rfl ?_
  exact K _ I2
set_option maxRecDepth 20000 in
theorem bl_44 {L : Nat} {xs : Nat → Int32} (hL : L ≤ 3072) {h : pm_H} {i : Nat} (hi : i + 6 ≤ L) (lv : List (Nat × Value)) (I : IVQ h) (L0 : pm_get lv 0 = some (.retAddr 0)) (L1 : pm_get lv 1 = some (.ref 0)) (L2 : pm_get lv 2 = some (.ref 77)) (L3 : pm_get lv 3 = some (.int (nJ i))) (K : ∀ h', IVQ h' → Ends (pm_tr (lb_all L xs)) (pm_Rt pm_P 100) (2392, lv, [], h', 599897, 7298671) RQ1) : Ends (pm_tr (lb_all L xs)) (pm_Rt pm_P 100) (1338, lv, [], h, 599897, 7298671) RQ1 := by
  refine E_al rfl L1 ?_
  refine E_alr rfl L0 ?_
  refine E_il rfl L3 ?_
  refine E_ci 1 rfl (by decide) ?_
  refine E_bin rfl (nJ_add _ _) ?_
  refine E_sld rfl (by omega) hL ?_
  refine E_call rfl (tQ_int (by decide +kernel) (by decide +kernel) I.2 (top_int (as := [.ref 0, .int (xs ((i + 1)))]) q540 (by decide +kernel) (by decide +kernel) I.1 ⟨rfl, aI _, trivial⟩)) (chkR (a := 0) I.1.1 rfl rfl rfl rfl (by show 0 ≤ 8; decide)) (fun h1 r1 => ?_)
  rintro ⟨I1, x1, f1⟩
  rw [f1]
  show Ends _ _ (1347, lv, [.int x1], h1, 599897, 7298671) _
  refine E_pop rfl rfl ?_
  refine E_al rfl L2 ?_
  refine E_alr rfl L0 ?_
  refine E_il rfl L3 ?_
  refine E_ci 1 rfl (by decide) ?_
  refine E_bin rfl (nJ_add _ _) ?_
  refine E_sld rfl (by omega) hL ?_
  refine E_call rfl (tQ_int (by decide +kernel) (by decide +kernel) I1.2 (top_int (as := [.ref 77, .int (xs ((i + 1)))]) q544 (by decide +kernel) (by decide +kernel) I1.1 ⟨rfl, aI _, trivial⟩)) (chkR (a := 77) I1.1.1 rfl rfl rfl rfl (by show 0 ≤ 8; decide)) (fun h2 r2 => ?_)
  rintro ⟨I2, x2, f2⟩
  rw [f2]
  show Ends _ _ (1357, lv, [.int x2], h2, 599897, 7298671) _
  refine E_pop rfl rfl ?_
  refine E_goto rfl ?_
  exact K _ I2
set_option maxRecDepth 20000 in
theorem bl_45 {L : Nat} {xs : Nat → Int32} (hL : L ≤ 3072) {h : pm_H} {i : Nat} (hi : i + 6 ≤ L) (lv : List (Nat × Value)) (I : IVQ h) (L0 : pm_get lv 0 = some (.retAddr 0)) (L1 : pm_get lv 1 = some (.ref 0)) (L2 : pm_get lv 2 = some (.ref 77)) (L3 : pm_get lv 3 = some (.int (nJ i))) (K : ∀ h', IVQ h' → Ends (pm_tr (lb_all L xs)) (pm_Rt pm_P 100) (2392, lv, [], h', 599897, 7298671) RQ1) : Ends (pm_tr (lb_all L xs)) (pm_Rt pm_P 100) (1361, lv, [], h, 599897, 7298671) RQ1 := by
  refine E_al rfl L1 ?_
  refine E_call rfl (tQ_int (by decide +kernel) (by decide +kernel) I.2 (top_int (as := [.ref 0]) q550 (by decide +kernel) (by decide +kernel) I.1 ⟨rfl, trivial⟩)) (chkR (a := 0) I.1.1 rfl rfl rfl rfl (by show 0 ≤ 8; decide)) (fun h1 r1 => ?_)
  rintro ⟨I1, x1, f1⟩
  rw [f1]
  show Ends _ _ (1365, lv, [.int x1], h1, 599897, 7298671) _
  refine E_pop rfl rfl ?_
  refine E_al rfl L2 ?_
  refine E_call rfl (tQ_int (by decide +kernel) (by decide +kernel) I1.2 (top_int (as := [.ref 77]) q556 (by decide +kernel) (by decide +kernel) I1.1 ⟨rfl, trivial⟩)) (chkR (a := 77) I1.1.1 rfl rfl rfl rfl (by show 0 ≤ 8; decide)) (fun h2 r2 => ?_)
  rintro ⟨I2, x2, f2⟩
  rw [f2]
  show Ends _ _ (1370, lv, [.int x2], h2, 599897, 7298671) _
  refine E_pop rfl rfl ?_
  refine E_goto rfl ?_
  exact K _ I2
set_option maxRecDepth 20000 in
theorem bl_46 {L : Nat} {xs : Nat → Int32} (hL : L ≤ 3072) {h : pm_H} {i : Nat} (hi : i + 6 ≤ L) (lv : List (Nat × Value)) (I : IVQ h) (L0 : pm_get lv 0 = some (.retAddr 0)) (L1 : pm_get lv 1 = some (.ref 0)) (L2 : pm_get lv 2 = some (.ref 77)) (L3 : pm_get lv 3 = some (.int (nJ i))) (K : ∀ h', IVQ h' → Ends (pm_tr (lb_all L xs)) (pm_Rt pm_P 100) (2392, lv, [], h', 599897, 7298671) RQ1) : Ends (pm_tr (lb_all L xs)) (pm_Rt pm_P 100) (1374, lv, [], h, 599897, 7298671) RQ1 := by
  refine E_al rfl L1 ?_
  refine E_alr rfl L0 ?_
  refine E_il rfl L3 ?_
  refine E_ci 1 rfl (by decide) ?_
  refine E_bin rfl (nJ_add _ _) ?_
  refine E_sld rfl (by omega) hL ?_
  refine E_alr rfl L0 ?_
  refine E_il rfl L3 ?_
  refine E_ci 2 rfl (by decide) ?_
  refine E_bin rfl (nJ_add _ _) ?_
  refine E_sld rfl (by omega) hL ?_
  refine E_call rfl (tQ_int (by decide +kernel) (by decide +kernel) I.2 (top_int (as := [.ref 0, .int (xs ((i + 1))), .int (xs ((i + 2)))]) q558 (by decide +kernel) (by decide +kernel) I.1 ⟨rfl, aI _, aI _, trivial⟩)) (chkR (a := 0) I.1.1 rfl rfl rfl rfl (by show 0 ≤ 8; decide)) (fun h1 r1 => ?_)
  rintro ⟨I1, x1, f1⟩
  rw [f1]
  show Ends _ _ (1388, lv, [.int x1], h1, 599897, 7298671) _
  refine E_pop rfl rfl ?_
  refine E_al rfl L2 ?_
  refine E_alr rfl L0 ?_
  refine E_il rfl L3 ?_
  refine E_ci 1 rfl (by decide) ?_
  refine E_bin rfl (nJ_add _ _) ?_
  refine E_sld rfl (by omega) hL ?_
  refine E_alr rfl L0 ?_
  refine E_il rfl L3 ?_
  refine E_ci 2 rfl (by decide) ?_
  refine E_bin rfl (nJ_add _ _) ?_
  refine E_sld rfl (by omega) hL ?_
  refine E_call rfl (tQ_int (by decide +kernel) (by decide +kernel) I1.2 (top_int (as := [.ref 77, .int (xs ((i + 1))), .int (xs ((i + 2)))]) q564 (by decide +kernel) (by decide +kernel) I1.1 ⟨rfl, aI _, aI _, trivial⟩)) (chkR (a := 77) I1.1.1 rfl rfl rfl rfl (by show 0 ≤ 8; decide)) (fun h2 r2 => ?_)
  rintro ⟨I2, x2, f2⟩
  rw [f2]
  show Ends _ _ (1403, lv, [.int x2], h2, 599897, 7298671) _
  refine E_pop rfl rfl ?_
  refine E_goto rfl ?_
  exact K _ I2
set_option maxRecDepth 20000 in
theorem bl_47 {L : Nat} {xs : Nat → Int32} (hL : L ≤ 3072) {h : pm_H} {i : Nat} (hi : i + 6 ≤ L) (lv : List (Nat × Value)) (I : IVQ h) (L0 : pm_get lv 0 = some (.retAddr 0)) (L1 : pm_get lv 1 = some (.ref 0)) (L2 : pm_get lv 2 = some (.ref 77)) (L3 : pm_get lv 3 = some (.int (nJ i))) (K : ∀ h', IVQ h' → Ends (pm_tr (lb_all L xs)) (pm_Rt pm_P 100) (2392, lv, [], h', 599897, 7298671) RQ1) : Ends (pm_tr (lb_all L xs)) (pm_Rt pm_P 100) (1407, lv, [], h, 599897, 7298671) RQ1 := by
  refine E_al rfl L1 ?_
  refine E_alr rfl L0 ?_
  refine E_il rfl L3 ?_
  refine E_ci 1 rfl (by decide) ?_
  refine E_bin rfl (nJ_add _ _) ?_
  refine E_sld rfl (by omega) hL ?_
  refine E_alr rfl L0 ?_
  refine E_il rfl L3 ?_
  refine E_ci 2 rfl (by decide) ?_
  refine E_bin rfl (nJ_add _ _) ?_
  refine E_sld rfl (by omega) hL ?_
  refine E_call rfl (tQ_int (by decide +kernel) (by decide +kernel) I.2 (top_int (as := [.ref 0, .int (xs ((i + 1))), .int (xs ((i + 2)))]) q566 (by decide +kernel) (by decide +kernel) I.1 ⟨rfl, aI _, aI _, trivial⟩)) (chkR (a := 0) I.1.1 rfl rfl rfl rfl (by show 0 ≤ 8; decide)) (fun h1 r1 => ?_)
  rintro ⟨I1, x1, f1⟩
  rw [f1]
  show Ends _ _ (1421, lv, [.int x1], h1, 599897, 7298671) _
  refine E_pop rfl rfl ?_
  refine E_al rfl L2 ?_
  refine E_alr rfl L0 ?_
  refine E_il rfl L3 ?_
  refine E_ci 1 rfl (by decide) ?_
  refine E_bin rfl (nJ_add _ _) ?_
  refine E_sld rfl (by omega) hL ?_
  refine E_alr rfl L0 ?_
  refine E_il rfl L3 ?_
  refine E_ci 2 rfl (by decide) ?_
  refine E_bin rfl (nJ_add _ _) ?_
  refine E_sld rfl (by omega) hL ?_
  refine E_call rfl (tQ_int (by decide +kernel) (by decide +kernel) I1.2 (top_int (as := [.ref 77, .int (xs ((i + 1))), .int (xs ((i + 2)))]) q568 (by decide +kernel) (by decide +kernel) I1.1 ⟨rfl, aI _, aI _, trivial⟩)) (chkR (a := 77) I1.1.1 rfl rfl rfl rfl (by show 0 ≤ 8; decide)) (fun h2 r2 => ?_)
  rintro ⟨I2, x2, f2⟩
  rw [f2]
  show Ends _ _ (1436, lv, [.int x2], h2, 599897, 7298671) _
  refine E_pop rfl rfl ?_
  refine E_goto rfl ?_
  exact K _ I2
set_option maxRecDepth 20000 in
theorem bl_48 {L : Nat} {xs : Nat → Int32} (hL : L ≤ 3072) {h : pm_H} {i : Nat} (hi : i + 6 ≤ L) (lv : List (Nat × Value)) (I : IVQ h) (L0 : pm_get lv 0 = some (.retAddr 0)) (L1 : pm_get lv 1 = some (.ref 0)) (L2 : pm_get lv 2 = some (.ref 77)) (L3 : pm_get lv 3 = some (.int (nJ i))) (K : ∀ h', IVQ h' → Ends (pm_tr (lb_all L xs)) (pm_Rt pm_P 100) (2392, lv, [], h', 599897, 7298671) RQ1) : Ends (pm_tr (lb_all L xs)) (pm_Rt pm_P 100) (1440, lv, [], h, 599897, 7298671) RQ1 := by
  refine E_al rfl L1 ?_
  refine E_call rfl (tQ_int (by decide +kernel) (by decide +kernel) I.2 (top_int (as := [.ref 0]) q576 (by decide +kernel) (by decide +kernel) I.1 ⟨rfl, trivial⟩)) (chkR (a := 0) I.1.1 rfl rfl rfl rfl (by show 0 ≤ 8; decide)) (fun h1 r1 => ?_)
  rintro ⟨I1, x1, f1⟩
  rw [f1]
  show Ends _ _ (1444, lv, [.int x1], h1, 599897, 7298671) _
  refine E_pop rfl rfl ?_
  refine E_al rfl L2 ?_
  refine E_call rfl (tQ_int (by decide +kernel) (by decide +kernel) I1.2 (top_int (as := [.ref 77]) q577 (by decide +kernel) (by decide +kernel) I1.1 ⟨rfl, trivial⟩)) (chkR (a := 77) I1.1.1 rfl rfl rfl rfl (by show 0 ≤ 8; decide)) (fun h2 r2 => ?_)
  rintro ⟨I2, x2, f2⟩
  rw [f2]
  show Ends _ _ (1449, lv, [.int x2], h2, 599897, 7298671) _
  refine E_pop rfl rfl ?_
  refine E_goto rfl ?_
  exact K _ I2
set_option maxRecDepth 20000 in
theorem bl_49 {L : Nat} {xs : Nat → Int32} (hL : L ≤ 3072) {h : pm_H} {i : Nat} (hi : i + 6 ≤ L) (lv : List (Nat × Value)) (I : IVQ h) (L0 : pm_get lv 0 = some (.retAddr 0)) (L1 : pm_get lv 1 = some (.ref 0)) (L2 : pm_get lv 2 = some (.ref 77)) (L3 : pm_get lv 3 = some (.int (nJ i))) (K : ∀ h', IVQ h' → Ends (pm_tr (lb_all L xs)) (pm_Rt pm_P 100) (2392, lv, [], h', 599897, 7298671) RQ1) : Ends (pm_tr (lb_all L xs)) (pm_Rt pm_P 100) (1453, lv, [], h, 599897, 7298671) RQ1 := by
  refine E_al rfl L1 ?_
  refine E_alr rfl L0 ?_
  refine E_il rfl L3 ?_
  refine E_ci 1 rfl (by decide) ?_
  refine E_bin rfl (nJ_add _ _) ?_
  refine E_sld rfl (by omega) hL ?_
  refine E_call rfl (tQ_int (by decide +kernel) (by decide +kernel) I.2 (top_int (as := [.ref 0, .int (xs ((i + 1)))]) q580 (by decide +kernel) (by decide +kernel) I.1 ⟨rfl, aI _, trivial⟩)) (chkR (a := 0) I.1.1 rfl rfl rfl rfl (by show 0 ≤ 8; decide)) (fun h1 r1 => ?_)
  rintro ⟨I1, x1, f1⟩
  rw [f1]
  show Ends _ _ (1462, lv, [.int x1], h1, 599897, 7298671) _
  refine E_pop rfl rfl ?_
  refine E_al rfl L2 ?_
  refine E_alr rfl L0 ?_
  refine E_il rfl L3 ?_
  refine E_ci 1 rfl (by decide) ?_
  refine E_bin rfl (nJ_add _ _) ?_
  refine E_sld rfl (by omega) hL ?_
  refine E_call rfl (tQ_int (by decide +kernel) (by decide +kernel) I1.2 (top_int (as := [.ref 77, .int (xs ((i + 1)))]) q585 (by decide +kernel) (by decide +kernel) I1.1 ⟨rfl, aI _, trivial⟩)) (chkR (a := 77) I1.1.1 rfl rfl rfl rfl (by show 0 ≤ 8; decide)) (fun h2 r2 => ?_)
  rintro ⟨I2, x2, f2⟩
  rw [f2]
  show Ends _ _ (1472, lv, [.int x2], h2, 599897, 7298671) _
  refine E_pop rfl rfl ?_
  refine E_goto rfl ?_
  exact K _ I2
set_option maxRecDepth 20000 in
theorem bl_50 {L : Nat} {xs : Nat → Int32} (hL : L ≤ 3072) {h : pm_H} {i : Nat} (hi : i + 6 ≤ L) (lv : List (Nat × Value)) (I : IVQ h) (L0 : pm_get lv 0 = some (.retAddr 0)) (L1 : pm_get lv 1 = some (.ref 0)) (L2 : pm_get lv 2 = some (.ref 77)) (L3 : pm_get lv 3 = some (.int (nJ i))) (K : ∀ h', IVQ h' → Ends (pm_tr (lb_all L xs)) (pm_Rt pm_P 100) (2392, lv, [], h', 599897, 7298671) RQ1) : Ends (pm_tr (lb_all L xs)) (pm_Rt pm_P 100) (1476, lv, [], h, 599897, 7298671) RQ1 := by
  refine E_al rfl L1 ?_
  refine E_alr rfl L0 ?_
  refine E_il rfl L3 ?_
  refine E_ci 1 rfl (by decide) ?_
  refine E_bin rfl (nJ_add _ _) ?_
  refine E_sld rfl (by omega) hL ?_
  refine E_alr rfl L0 ?_
  refine E_il rfl L3 ?_
  refine E_ci 2 rfl (by decide) ?_
  refine E_bin rfl (nJ_add _ _) ?_
  refine E_sld rfl (by omega) hL ?_
  refine E_call rfl (tQ_int (by decide +kernel) (by decide +kernel) I.2 (top_int (as := [.ref 0, .int (xs ((i + 1))), .int (xs ((i + 2)))]) q593 (by decide +kernel) (by decide +kernel) I.1 ⟨rfl, aI _, aI _, trivial⟩)) (chkR (a := 0) I.1.1 rfl rfl rfl rfl (by show 0 ≤ 8; decide)) (fun h1 r1 => ?_)
  rintro ⟨I1, x1, f1⟩
  rw [f1]
  show Ends _ _ (1490, lv, [.int x1], h1, 599897, 7298671) _
  refine E_pop rfl rfl ?_
  refine E_al rfl L2 ?_
  refine E_alr rfl L0 ?_
  refine E_il rfl L3 ?_
  refine E_ci 1 rfl (by decide) ?_
  refine E_bin rfl (nJ_add _ _) ?_
  refine E_sld rfl (by omega) hL ?_
  refine E_alr rfl L0 ?_
  refine E_il rfl L3 ?_
  refine E_ci 2 rfl (by decide) ?_
  refine E_bin rfl (nJ_add _ _) ?_
  refine E_sld rfl (by omega) hL ?_
  refine E_call rfl (tQ_int (by decide +kernel) (by decide +kernel) I1.2 (top_int (as := [.ref 77, .int (xs ((i + 1))), .int (xs ((i + 2)))]) q595 (by decide +kernel) (by decide +kernel) I1.1 ⟨rfl, aI _, aI _, trivial⟩)) (chkR (a := 77) I1.1.1 rfl rfl rfl rfl (by show 0 ≤ 8; decide)) (fun h2 r2 => ?_)
  rintro ⟨I2, x2, f2⟩
  rw [f2]
  show Ends _ _ (1505, lv, [.int x2], h2, 599897, 7298671) _
  refine E_pop rfl rfl ?_
  refine E_goto rfl ?_
  exact K _ I2
set_option maxRecDepth 20000 in
theorem bl_51 {L : Nat} {xs : Nat → Int32} (hL : L ≤ 3072) {h : pm_H} {i : Nat} (hi : i + 6 ≤ L) (lv : List (Nat × Value)) (I : IVQ h) (L0 : pm_get lv 0 = some (.retAddr 0)) (L1 : pm_get lv 1 = some (.ref 0)) (L2 : pm_get lv 2 = some (.ref 77)) (L3 : pm_get lv 3 = some (.int (nJ i))) (K : ∀ h', IVQ h' → Ends (pm_tr (lb_all L xs)) (pm_Rt pm_P 100) (2392, lv, [], h', 599897, 7298671) RQ1) : Ends (pm_tr (lb_all L xs)) (pm_Rt pm_P 100) (1509, lv, [], h, 599897, 7298671) RQ1 := by
  refine E_al rfl L1 ?_
  refine E_call rfl (tQ_int (by decide +kernel) (by decide +kernel) I.2 (top_int (as := [.ref 0]) q599 (by decide +kernel) (by decide +kernel) I.1 ⟨rfl, trivial⟩)) (chkR (a := 0) I.1.1 rfl rfl rfl rfl (by show 0 ≤ 8; decide)) (fun h1 r1 => ?_)
  rintro ⟨I1, x1, f1⟩
  rw [f1]
  show Ends _ _ (1513, lv, [.int x1], h1, 599897, 7298671) _
  refine E_pop rfl rfl ?_
  refine E_al rfl L2 ?_
  refine E_call rfl (tQ_int (by decide +kernel) (by decide +kernel) I1.2 (top_int (as := [.ref 77]) q602 (by decide +kernel) (by decide +kernel) I1.1 ⟨rfl, trivial⟩)) (chkR (a := 77) I1.1.1 rfl rfl rfl rfl (by show 0 ≤ 8; decide)) (fun h2 r2 => ?_)
  rintro ⟨I2, x2, f2⟩
  rw [f2]
  show Ends _ _ (1518, lv, [.int x2], h2, 599897, 7298671) _
  refine E_pop rfl rfl ?_
  refine E_goto rfl ?_
  exact K _ I2
set_option maxRecDepth 20000 in
theorem bl_52 {L : Nat} {xs : Nat → Int32} (hL : L ≤ 3072) {h : pm_H} {i : Nat} (hi : i + 6 ≤ L) (lv : List (Nat × Value)) (I : IVQ h) (L0 : pm_get lv 0 = some (.retAddr 0)) (L1 : pm_get lv 1 = some (.ref 0)) (L2 : pm_get lv 2 = some (.ref 77)) (L3 : pm_get lv 3 = some (.int (nJ i))) (K : ∀ h', IVQ h' → Ends (pm_tr (lb_all L xs)) (pm_Rt pm_P 100) (2392, lv, [], h', 599897, 7298671) RQ1) : Ends (pm_tr (lb_all L xs)) (pm_Rt pm_P 100) (1522, lv, [], h, 599897, 7298671) RQ1 := by
  refine E_al rfl L1 ?_
  refine E_call rfl (tQ_int (by decide +kernel) (by decide +kernel) I.2 (top_int (as := [.ref 0]) q603 (by decide +kernel) (by decide +kernel) I.1 ⟨rfl, trivial⟩)) (chkR (a := 0) I.1.1 rfl rfl rfl rfl (by show 0 ≤ 8; decide)) (fun h1 r1 => ?_)
  rintro ⟨I1, x1, f1⟩
  rw [f1]
  show Ends _ _ (1526, lv, [.int x1], h1, 599897, 7298671) _
  refine E_pop rfl rfl ?_
  refine E_al rfl L2 ?_
  refine E_call rfl (tQ_int (by decide +kernel) (by decide +kernel) I1.2 (top_int (as := [.ref 77]) q604 (by decide +kernel) (by decide +kernel) I1.1 ⟨rfl, trivial⟩)) (chkR (a := 77) I1.1.1 rfl rfl rfl rfl (by show 0 ≤ 8; decide)) (fun h2 r2 => ?_)
  rintro ⟨I2, x2, f2⟩
  rw [f2]
  show Ends _ _ (1531, lv, [.int x2], h2, 599897, 7298671) _
  refine E_pop rfl rfl ?_
  refine E_goto rfl ?_
  exact K _ I2
set_option maxRecDepth 20000 in
theorem bl_53 {L : Nat} {xs : Nat → Int32} (hL : L ≤ 3072) {h : pm_H} {i : Nat} (hi : i + 6 ≤ L) (lv : List (Nat × Value)) (I : IVQ h) (L0 : pm_get lv 0 = some (.retAddr 0)) (L1 : pm_get lv 1 = some (.ref 0)) (L2 : pm_get lv 2 = some (.ref 77)) (L3 : pm_get lv 3 = some (.int (nJ i))) (K : ∀ h', IVQ h' → Ends (pm_tr (lb_all L xs)) (pm_Rt pm_P 100) (2392, lv, [], h', 599897, 7298671) RQ1) : Ends (pm_tr (lb_all L xs)) (pm_Rt pm_P 100) (1535, lv, [], h, 599897, 7298671) RQ1 := by
  refine E_al rfl L1 ?_
  refine E_call rfl (tQ_int (by decide +kernel) (by decide +kernel) I.2 (top_int (as := [.ref 0]) q605 (by decide +kernel) (by decide +kernel) I.1 ⟨rfl, trivial⟩)) (chkR (a := 0) I.1.1 rfl rfl rfl rfl (by show 0 ≤ 8; decide)) (fun h1 r1 => ?_)
  rintro ⟨I1, x1, f1⟩
  rw [f1]
  show Ends _ _ (1539, lv, [.int x1], h1, 599897, 7298671) _
  refine E_pop rfl rfl ?_
  refine E_al rfl L2 ?_
  refine E_call rfl (tQ_int (by decide +kernel) (by decide +kernel) I1.2 (top_int (as := [.ref 77]) q606 (by decide +kernel) (by decide +kernel) I1.1 ⟨rfl, trivial⟩)) (chkR (a := 77) I1.1.1 rfl rfl rfl rfl (by show 0 ≤ 8; decide)) (fun h2 r2 => ?_)
  rintro ⟨I2, x2, f2⟩
  rw [f2]
  show Ends _ _ (1544, lv, [.int x2], h2, 599897, 7298671) _
  refine E_pop rfl rfl ?_
  refine E_goto rfl ?_
  exact K _ I2
set_option maxRecDepth 20000 in
theorem bl_54 {L : Nat} {xs : Nat → Int32} (hL : L ≤ 3072) {h : pm_H} {i : Nat} (hi : i + 6 ≤ L) (lv : List (Nat × Value)) (I : IVQ h) (L0 : pm_get lv 0 = some (.retAddr 0)) (L1 : pm_get lv 1 = some (.ref 0)) (L2 : pm_get lv 2 = some (.ref 77)) (L3 : pm_get lv 3 = some (.int (nJ i))) (K : ∀ h', IVQ h' → Ends (pm_tr (lb_all L xs)) (pm_Rt pm_P 100) (2392, lv, [], h', 599897, 7298671) RQ1) : Ends (pm_tr (lb_all L xs)) (pm_Rt pm_P 100) (1548, lv, [], h, 599897, 7298671) RQ1 := by
  refine E_al rfl L1 ?_
  refine E_call rfl (tQ_int (by decide +kernel) (by decide +kernel) I.2 (top_int (as := [.ref 0]) q615 (by decide +kernel) (by decide +kernel) I.1 ⟨rfl, trivial⟩)) (chkR (a := 0) I.1.1 rfl rfl rfl rfl (by show 0 ≤ 8; decide)) (fun h1 r1 => ?_)
  rintro ⟨I1, x1, f1⟩
  rw [f1]
  show Ends _ _ (1552, lv, [.int x1], h1, 599897, 7298671) _
  refine E_pop rfl rfl ?_
  refine E_al rfl L2 ?_
  refine E_call rfl (tQ_int (by decide +kernel) (by decide +kernel) I1.2 (top_int (as := [.ref 77]) q619 (by decide +kernel) (by decide +kernel) I1.1 ⟨rfl, trivial⟩)) (chkR (a := 77) I1.1.1 rfl rfl rfl rfl (by show 0 ≤ 8; decide)) (fun h2 r2 => ?_)
  rintro ⟨I2, x2, f2⟩
  rw [f2]
  show Ends _ _ (1557, lv, [.int x2], h2, 599897, 7298671) _
  refine E_pop rfl rfl ?_
  refine E_goto rfl ?_
  exact K _ I2
set_option maxRecDepth 20000 in
theorem bl_55 {L : Nat} {xs : Nat → Int32} (hL : L ≤ 3072) {h : pm_H} {i : Nat} (hi : i + 6 ≤ L) (lv : List (Nat × Value)) (I : IVQ h) (L0 : pm_get lv 0 = some (.retAddr 0)) (L1 : pm_get lv 1 = some (.ref 0)) (L2 : pm_get lv 2 = some (.ref 77)) (L3 : pm_get lv 3 = some (.int (nJ i))) (K : ∀ h', IVQ h' → Ends (pm_tr (lb_all L xs)) (pm_Rt pm_P 100) (2392, lv, [], h', 599897, 7298671) RQ1) : Ends (pm_tr (lb_all L xs)) (pm_Rt pm_P 100) (1561, lv, [], h, 599897, 7298671) RQ1 := by
  refine E_al rfl L1 ?_
  refine E_call rfl (tQ_int (by decide +kernel) (by decide +kernel) I.2 (top_int (as := [.ref 0]) q621 (by decide +kernel) (by decide +kernel) I.1 ⟨rfl, trivial⟩)) (chkR (a := 0) I.1.1 rfl rfl rfl rfl (by show 0 ≤ 8; decide)) (fun h1 r1 => ?_)
  rintro ⟨I1, x1, f1⟩
  rw [f1]
  show Ends _ _ (1565, lv, [.int x1], h1, 599897, 7298671) _
  refine E_pop rfl rfl ?_
  refine E_al rfl L2 ?_
  refine E_call rfl (tQ_int (by decide +kernel) (by decide +kernel) I1.2 (top_int (as := [.ref 77]) q623 (by decide +kernel) (by decide +kernel) I1.1 ⟨rfl, trivial⟩)) (chkR (a := 77) I1.1.1 rfl rfl rfl rfl (by show 0 ≤ 8; decide)) (fun h2 r2 => ?_)
  rintro ⟨I2, x2, f2⟩
  rw [f2]
  show Ends _ _ (1570, lv, [.int x2], h2, 599897, 7298671) _
  refine E_pop rfl rfl ?_
  refine E_goto rfl ?_
  exact K _ I2
set_option maxRecDepth 20000 in
theorem bl_56 {L : Nat} {xs : Nat → Int32} (hL : L ≤ 3072) {h : pm_H} {i : Nat} (hi : i + 6 ≤ L) (lv : List (Nat × Value)) (I : IVQ h) (L0 : pm_get lv 0 = some (.retAddr 0)) (L1 : pm_get lv 1 = some (.ref 0)) (L2 : pm_get lv 2 = some (.ref 77)) (L3 : pm_get lv 3 = some (.int (nJ i))) (K : ∀ h', IVQ h' → Ends (pm_tr (lb_all L xs)) (pm_Rt pm_P 100) (2392, lv, [], h', 599897, 7298671) RQ1) : Ends (pm_tr (lb_all L xs)) (pm_Rt pm_P 100) (1574, lv, [], h, 599897, 7298671) RQ1 := by
  refine E_al rfl L1 ?_
  refine E_call rfl (tQ_int (by decide +kernel) (by decide +kernel) I.2 (top_int (as := [.ref 0]) q626 (by decide +kernel) (by decide +kernel) I.1 ⟨rfl, trivial⟩)) (chkR (a := 0) I.1.1 rfl rfl rfl rfl (by show 0 ≤ 8; decide)) (fun h1 r1 => ?_)
  rintro ⟨I1, x1, f1⟩
  rw [f1]
  show Ends _ _ (1578, lv, [.int x1], h1, 599897, 7298671) _
  refine E_pop rfl rfl ?_
  refine E_al rfl L2 ?_
  refine E_call rfl (tQ_int (by decide +kernel) (by decide +kernel) I1.2 (top_int (as := [.ref 77]) q627 (by decide +kernel) (by decide +kernel) I1.1 ⟨rfl, trivial⟩)) (chkR (a := 77) I1.1.1 rfl rfl rfl rfl (by show 0 ≤ 8; decide)) (fun h2 r2 => ?_)
  rintro ⟨I2, x2, f2⟩
  rw [f2]
  show Ends _ _ (1583, lv, [.int x2], h2, 599897, 7298671) _
  refine E_pop rfl rfl ?_
  refine E_goto rfl ?_
  exact K _ I2
set_option maxRecDepth 20000 in
theorem bl_57 {L : Nat} {xs : Nat → Int32} (hL : L ≤ 3072) {h : pm_H} {i : Nat} (hi : i + 6 ≤ L) (lv : List (Nat × Value)) (I : IVQ h) (L0 : pm_get lv 0 = some (.retAddr 0)) (L1 : pm_get lv 1 = some (.ref 0)) (L2 : pm_get lv 2 = some (.ref 77)) (L3 : pm_get lv 3 = some (.int (nJ i))) (K : ∀ h', IVQ h' → Ends (pm_tr (lb_all L xs)) (pm_Rt pm_P 100) (2392, lv, [], h', 599897, 7298671) RQ1) : Ends (pm_tr (lb_all L xs)) (pm_Rt pm_P 100) (1587, lv, [], h, 599897, 7298671) RQ1 := by
  refine E_al rfl L1 ?_
  refine E_alr rfl L0 ?_
  refine E_il rfl L3 ?_
  refine E_ci 1 rfl (by decide) ?_
  refine E_bin rfl (nJ_add _ _) ?_
  refine E_sld rfl (by omega) hL ?_
  refine E_alr rfl L0 ?_
  refine E_il rfl L3 ?_
  refine E_ci 2 rfl (by decide) ?_
  refine E_bin rfl (nJ_add _ _) ?_
  refine E_sld rfl (by omega) hL ?_
  refine E_call rfl (tQ_int (by decide +kernel) (by decide +kernel) I.2 (top_int (as := [.ref 0, .int (xs ((i + 1))), .int (xs ((i + 2)))]) q638 (by decide +kernel) (by decide +kernel) I.1 ⟨rfl, aI _, aI _, trivial⟩)) (chkR (a := 0) I.1.1 rfl rfl rfl rfl (by show 0 ≤ 8; decide)) (fun h1 r1 => ?_)
  rintro ⟨I1, x1, f1⟩
  rw [f1]
  show Ends _ _ (1601, lv, [.int x1], h1, 599897, 7298671) _
  refine E_pop rfl rfl ?_
  refine E_al rfl L2 ?_
  refine E_alr rfl L0 ?_
  refine E_il rfl L3 ?_
  refine E_ci 1 rfl (by decide) ?_
  refine E_bin rfl (nJ_add _ _) ?_
  refine E_sld rfl (by omega) hL ?_
  refine E_alr rfl L0 ?_
  refine E_il rfl L3 ?_
  refine E_ci 2 rfl (by decide) ?_
  refine E_bin rfl (nJ_add _ _) ?_
  refine E_sld rfl (by omega) hL ?_
  refine E_call rfl (tQ_int (by decide +kernel) (by decide +kernel) I1.2 (top_int (as := [.ref 77, .int (xs ((i + 1))), .int (xs ((i + 2)))]) q656 (by decide +kernel) (by decide +kernel) I1.1 ⟨rfl, aI _, aI _, trivial⟩)) (chkR (a := 77) I1.1.1 rfl rfl rfl rfl (by show 0 ≤ 8; decide)) (fun h2 r2 => ?_)
  rintro ⟨I2, x2, f2⟩
  rw [f2]
  show Ends _ _ (1616, lv, [.int x2], h2, 599897, 7298671) _
  refine E_pop rfl rfl ?_
  refine E_goto rfl ?_
  exact K _ I2
set_option maxRecDepth 20000 in
theorem bl_58 {L : Nat} {xs : Nat → Int32} (hL : L ≤ 3072) {h : pm_H} {i : Nat} (hi : i + 6 ≤ L) (lv : List (Nat × Value)) (I : IVQ h) (L0 : pm_get lv 0 = some (.retAddr 0)) (L1 : pm_get lv 1 = some (.ref 0)) (L2 : pm_get lv 2 = some (.ref 77)) (L3 : pm_get lv 3 = some (.int (nJ i))) (K : ∀ h', IVQ h' → Ends (pm_tr (lb_all L xs)) (pm_Rt pm_P 100) (2392, lv, [], h', 599897, 7298671) RQ1) : Ends (pm_tr (lb_all L xs)) (pm_Rt pm_P 100) (1620, lv, [], h, 599897, 7298671) RQ1 := by
  refine E_al rfl L1 ?_
  refine E_alr rfl L0 ?_
  refine E_il rfl L3 ?_
  refine E_ci 1 rfl (by decide) ?_
  refine E_bin rfl (nJ_add _ _) ?_
  refine E_sld rfl (by omega) hL ?_
  refine E_alr rfl L0 ?_
  refine E_il rfl L3 ?_
  refine E_ci 2 rfl (by decide) ?_
  refine E_bin rfl (nJ_add _ _) ?_
  refine E_sld rfl (by omega) hL ?_
  refine E_call rfl (tQ_int (by decide +kernel) (by decide +kernel) I.2 (top_int (as := [.ref 0, .int (xs ((i + 1))), .int (xs ((i + 2)))]) q661 (by decide +kernel) (by decide +kernel) I.1 ⟨rfl, aI _, aI _, trivial⟩)) (chkR (a := 0) I.1.1 rfl rfl rfl rfl (by show 0 ≤ 8; decide)) (fun h1 r1 => ?_)
  rintro ⟨I1, x1, f1⟩
  rw [f1]
  show Ends _ _ (1634, lv, [.int x1], h1, 599897, 7298671) _
  refine E_pop rfl rfl ?_
  refine E_al rfl L2 ?_
  refine E_alr rfl L0 ?_
  refine E_il rfl L3 ?_
  refine E_ci 1 rfl (by decide) ?_
  refine E_bin rfl (nJ_add _ _) ?_
  refine E_sld rfl (by omega) hL ?_
  refine E_alr rfl L0 ?_
  refine E_il rfl L3 ?_
  refine E_ci 2 rfl (by decide) ?_
  refine E_bin rfl (nJ_add _ _) ?_
  refine E_sld rfl (by omega) hL ?_
  refine E_call rfl (tQ_int (by decide +kernel) (by decide +kernel) I1.2 (top_int (as := [.ref 77, .int (xs ((i + 1))), .int (xs ((i + 2)))]) q662 (by decide +kernel) (by decide +kernel) I1.1 ⟨rfl, aI _, aI _, trivial⟩)) (chkR (a := 77) I1.1.1 rfl rfl rfl rfl (by show 0 ≤ 8; decide)) (fun h2 r2 => ?_)
  rintro ⟨I2, x2, f2⟩
  rw [f2]
  show Ends _ _ (1649, lv, [.int x2], h2, 599897, 7298671) _
  refine E_pop rfl rfl ?_
  refine E_goto rfl ?_
  exact K _ I2
set_option maxRecDepth 20000 in
theorem bl_59 {L : Nat} {xs : Nat → Int32} (hL : L ≤ 3072) {h : pm_H} {i : Nat} (hi : i + 6 ≤ L) (lv : List (Nat × Value)) (I : IVQ h) (L0 : pm_get lv 0 = some (.retAddr 0)) (L1 : pm_get lv 1 = some (.ref 0)) (L2 : pm_get lv 2 = some (.ref 77)) (L3 : pm_get lv 3 = some (.int (nJ i))) (K : ∀ h', IVQ h' → Ends (pm_tr (lb_all L xs)) (pm_Rt pm_P 100) (2392, lv, [], h', 599897, 7298671) RQ1) : Ends (pm_tr (lb_all L xs)) (pm_Rt pm_P 100) (1653, lv, [], h, 599897, 7298671) RQ1 := by
  refine E_al rfl L1 ?_
  refine E_alr rfl L0 ?_
  refine E_il rfl L3 ?_
  refine E_ci 1 rfl (by decide) ?_
  refine E_bin rfl (nJ_add _ _) ?_
  refine E_sld rfl (by omega) hL ?_
  refine E_alr rfl L0 ?_
  refine E_il rfl L3 ?_
  refine E_ci 2 rfl (by decide) ?_
  refine E_bin rfl (nJ_add _ _) ?_
  refine E_sld rfl (by omega) hL ?_
  refine E_call rfl (tQ_int (by decide +kernel) (by decide +kernel) I.2 (top_int (as := [.ref 0, .int (xs ((i + 1))), .int (xs ((i + 2)))]) q664 (by decide +kernel) (by decide +kernel) I.1 ⟨rfl, aI _, aI _, trivial⟩)) (chkR (a := 0) I.1.1 rfl rfl rfl rfl (by show 0 ≤ 8; decide)) (fun h1 r1 => ?_)
  rintro ⟨I1, x1, f1⟩
  rw [f1]
  show Ends _ _ (1667, lv, [.int x1], h1, 599897, 7298671) _
  refine E_pop rfl rfl ?_
  refine E_al rfl L2 ?_
  refine E_alr rfl L0 ?_
  refine E_il rfl L3 ?_
  refine E_ci 1 rfl (by decide) ?_
  refine E_bin rfl (nJ_add _ _) ?_
  refine E_sld rfl (by omega) hL ?_
  refine E_alr rfl L0 ?_
  refine E_il rfl L3 ?_
  refine E_ci 2 rfl (by decide) ?_
  refine E_bin rfl (nJ_add _ _) ?_
  refine E_sld rfl (by omega) hL ?_
  refine E_call rfl (tQ_int (by decide +kernel) (by decide +kernel) I1.2 (top_int (as := [.ref 77, .int (xs ((i + 1))), .int (xs ((i + 2)))]) q665 (by decide +kernel) (by decide +kernel) I1.1 ⟨rfl, aI _, aI _, trivial⟩)) (chkR (a := 77) I1.1.1 rfl rfl rfl rfl (by show 0 ≤ 8; decide)) (fun h2 r2 => ?_)
  rintro ⟨I2, x2, f2⟩
  rw [f2]
  show Ends _ _ (1682, lv, [.int x2], h2, 599897, 7298671) _
  refine E_pop rfl rfl ?_
  refine E_goto rfl ?_
  exact K _ I2
set_option maxRecDepth 20000 in
theorem bl_60 {L : Nat} {xs : Nat → Int32} (hL : L ≤ 3072) {h : pm_H} {i : Nat} (hi : i + 6 ≤ L) (lv : List (Nat × Value)) (I : IVQ h) (L0 : pm_get lv 0 = some (.retAddr 0)) (L1 : pm_get lv 1 = some (.ref 0)) (L2 : pm_get lv 2 = some (.ref 77)) (L3 : pm_get lv 3 = some (.int (nJ i))) (K : ∀ h', IVQ h' → Ends (pm_tr (lb_all L xs)) (pm_Rt pm_P 100) (2392, lv, [], h', 599897, 7298671) RQ1) : Ends (pm_tr (lb_all L xs)) (pm_Rt pm_P 100) (1686, lv, [], h, 599897, 7298671) RQ1 := by
  refine E_al rfl L1 ?_
  refine E_alr rfl L0 ?_
  refine E_il rfl L3 ?_
  refine E_ci 1 rfl (by decide) ?_
  refine E_bin rfl (nJ_add _ _) ?_
  refine E_sld rfl (by omega) hL ?_
  refine E_call rfl (tQ_int (by decide +kernel) (by decide +kernel) I.2 (top_int (as := [.ref 0, .int (xs ((i + 1)))]) q667 (by decide +kernel) (by decide +kernel) I.1 ⟨rfl, aI _, trivial⟩)) (chkR (a := 0) I.1.1 rfl rfl rfl rfl (by show 0 ≤ 8; decide)) (fun h1 r1 => ?_)
  rintro ⟨I1, x1, f1⟩
  rw [f1]
  show Ends _ _ (1695, lv, [.int x1], h1, 599897, 7298671) _
  refine E_pop rfl rfl ?_
  refine E_al rfl L2 ?_
  refine E_alr rfl L0 ?_
  refine E_il rfl L3 ?_
  refine E_ci 1 rfl (by decide) ?_
  refine E_bin rfl (nJ_add _ _) ?_
  refine E_sld rfl (by omega) hL ?_
  refine E_call rfl (tQ_int (by decide +kernel) (by decide +kernel) I1.2 (top_int (as := [.ref 77, .int (xs ((i + 1)))]) q669 (by decide +kernel) (by decide +kernel) I1.1 ⟨rfl, aI _, trivial⟩)) (chkR (a := 77) I1.1.1 rfl rfl rfl rfl (by show 0 ≤ 8; decide)) (fun h2 r2 => ?_)
  rintro ⟨I2, x2, f2⟩
  rw [f2]
  show Ends _ _ (1705, lv, [.int x2], h2, 599897, 7298671) _
  refine E_pop rfl rfl ?_
  refine E_goto rfl ?_
  exact K _ I2
set_option maxRecDepth 20000 in
theorem bl_61 {L : Nat} {xs : Nat → Int32} (hL : L ≤ 3072) {h : pm_H} {i : Nat} (hi : i + 6 ≤ L) (lv : List (Nat × Value)) (I : IVQ h) (L0 : pm_get lv 0 = some (.retAddr 0)) (L1 : pm_get lv 1 = some (.ref 0)) (L2 : pm_get lv 2 = some (.ref 77)) (L3 : pm_get lv 3 = some (.int (nJ i))) (K : ∀ h', IVQ h' → Ends (pm_tr (lb_all L xs)) (pm_Rt pm_P 100) (2392, lv, [], h', 599897, 7298671) RQ1) : Ends (pm_tr (lb_all L xs)) (pm_Rt pm_P 100) (1709, lv, [], h, 599897, 7298671) RQ1 := by
  refine E_al rfl L1 ?_
  refine E_alr rfl L0 ?_
  refine E_il rfl L3 ?_
  refine E_ci 1 rfl (by decide) ?_
  refine E_bin rfl (nJ_add _ _) ?_
  refine E_sld rfl (by omega) hL ?_
  refine E_call rfl (tQ_int (by decide +kernel) (by decide +kernel) I.2 (top_int (as := [.ref 0, .int (xs ((i + 1)))]) q670 (by decide +kernel) (by decide +kernel) I.1 ⟨rfl, aI _, trivial⟩)) (chkR (a := 0) I.1.1 rfl rfl rfl rfl (by show 0 ≤ 8; decide)) (fun h1 r1 => ?_)
  rintro ⟨I1, x1, f1⟩
  rw [f1]
  show Ends _ _ (1718, lv, [.int x1], h1, 599897, 7298671) _
  refine E_pop rfl rfl ?_
  refine E_al rfl L2 ?_
  refine E_alr rfl L0 ?_
  refine E_il rfl L3 ?_
  refine E_ci 1 rfl (by decide) ?_
  refine E_bin rfl (nJ_add _ _) ?_
  refine E_sld rfl (by omega) hL ?_
  refine E_call rfl (tQ_int (by decide +kernel) (by decide +kernel) I1.2 (top_int (as := [.ref 77, .int (xs ((i + 1)))]) q671 (by decide +kernel) (by decide +kernel) I1.1 ⟨rfl, aI _, trivial⟩)) (chkR (a := 77) I1.1.1 rfl rfl rfl rfl (by show 0 ≤ 8; decide)) (fun h2 r2 => ?_)
  rintro ⟨I2, x2, f2⟩
  rw [f2]
  show Ends _ _ (1728, lv, [.int x2], h2, 599897, 7298671) _
  refine E_pop rfl rfl ?_
  refine E_goto rfl ?_
  exact K _ I2
set_option maxRecDepth 20000 in
theorem bl_62 {L : Nat} {xs : Nat → Int32} (hL : L ≤ 3072) {h : pm_H} {i : Nat} (hi : i + 6 ≤ L) (lv : List (Nat × Value)) (I : IVQ h) (L0 : pm_get lv 0 = some (.retAddr 0)) (L1 : pm_get lv 1 = some (.ref 0)) (L2 : pm_get lv 2 = some (.ref 77)) (L3 : pm_get lv 3 = some (.int (nJ i))) (K : ∀ h', IVQ h' → Ends (pm_tr (lb_all L xs)) (pm_Rt pm_P 100) (2392, lv, [], h', 599897, 7298671) RQ1) : Ends (pm_tr (lb_all L xs)) (pm_Rt pm_P 100) (1732, lv, [], h, 599897, 7298671) RQ1 := by
  refine E_al rfl L1 ?_
  refine E_call rfl (tQ_int (by decide +kernel) (by decide +kernel) I.2 (top_int (as := [.ref 0]) q675 (by decide +kernel) (by decide +kernel) I.1 ⟨rfl, trivial⟩)) (chkR (a := 0) I.1.1 rfl rfl rfl rfl (by show 0 ≤ 8; decide)) (fun h1 r1 => ?_)
  rintro ⟨I1, x1, f1⟩
  rw [f1]
  show Ends _ _ (1736, lv, [.int x1], h1, 599897, 7298671) _
  refine E_pop rfl rfl ?_
  refine E_al rfl L2 ?_
  refine E_call rfl (tQ_int (by decide +kernel) (by decide +kernel) I1.2 (top_int (as := [.ref 77]) q676 (by decide +kernel) (by decide +kernel) I1.1 ⟨rfl, trivial⟩)) (chkR (a := 77) I1.1.1 rfl rfl rfl rfl (by show 0 ≤ 8; decide)) (fun h2 r2 => ?_)
  rintro ⟨I2, x2, f2⟩
  rw [f2]
  show Ends _ _ (1741, lv, [.int x2], h2, 599897, 7298671) _
  refine E_pop rfl rfl ?_
  refine E_goto rfl ?_
  exact K _ I2
set_option maxRecDepth 20000 in
theorem bl_63 {L : Nat} {xs : Nat → Int32} (hL : L ≤ 3072) {h : pm_H} {i : Nat} (hi : i + 6 ≤ L) (lv : List (Nat × Value)) (I : IVQ h) (L0 : pm_get lv 0 = some (.retAddr 0)) (L1 : pm_get lv 1 = some (.ref 0)) (L2 : pm_get lv 2 = some (.ref 77)) (L3 : pm_get lv 3 = some (.int (nJ i))) (K : ∀ h', IVQ h' → Ends (pm_tr (lb_all L xs)) (pm_Rt pm_P 100) (2392, lv, [], h', 599897, 7298671) RQ1) : Ends (pm_tr (lb_all L xs)) (pm_Rt pm_P 100) (1745, lv, [], h, 599897, 7298671) RQ1 := by
  refine E_al rfl L1 ?_
  refine E_alr rfl L0 ?_
  refine E_il rfl L3 ?_
  refine E_ci 1 rfl (by decide) ?_
  refine E_bin rfl (nJ_add _ _) ?_
  refine E_sld rfl (by omega) hL ?_
  refine E_call rfl (tQ_int (by decide +kernel) (by decide +kernel) I.2 (top_int (as := [.ref 0, .int (xs ((i + 1)))]) q677 (by decide +kernel) (by decide +kernel) I.1 ⟨rfl, aI _, trivial⟩)) (chkR (a := 0) I.1.1 rfl rfl rfl rfl (by show 0 ≤ 8; decide)) (fun h1 r1 => ?_)
  rintro ⟨I1, x1, f1⟩
  rw [f1]
  show Ends _ _ (1754, lv, [.int x1], h1, 599897, 7298671) _
  refine E_pop rfl rfl ?_
  refine E_al rfl L2 ?_
  refine E_alr rfl L0 ?_
  refine E_il rfl L3 ?_
  refine E_ci 1 rfl (by decide) ?_
  refine E_bin rfl (nJ_add _ _) ?_
  refine E_sld rfl (by omega) hL ?_
  refine E_call rfl (tQ_int (by decide +kernel) (by decide +kernel) I1.2 (top_int (as := [.ref 77, .int (xs ((i + 1)))]) q680 (by decide +kernel) (by decide +kernel) I1.1 ⟨rfl, aI _, trivial⟩)) (chkR (a := 77) I1.1.1 rfl rfl rfl rfl (by show 0 ≤ 8; decide)) (fun h2 r2 => ?_)
  rintro ⟨I2, x2, f2⟩
  rw [f2]
  show Ends _ _ (1764, lv, [.int x2], h2, 599897, 7298671) _
  refine E_pop rfl rfl ?_
  refine E_goto rfl ?_
  exact K _ I2
set_option maxRecDepth 20000 in
theorem bl_64 {L : Nat} {xs : Nat → Int32} (hL : L ≤ 3072) {h : pm_H} {i : Nat} (hi : i + 6 ≤ L) (lv : List (Nat × Value)) (I : IVQ h) (L0 : pm_get lv 0 = some (.retAddr 0)) (L1 : pm_get lv 1 = some (.ref 0)) (L2 : pm_get lv 2 = some (.ref 77)) (L3 : pm_get lv 3 = some (.int (nJ i))) (K : ∀ h', IVQ h' → Ends (pm_tr (lb_all L xs)) (pm_Rt pm_P 100) (2392, lv, [], h', 599897, 7298671) RQ1) : Ends (pm_tr (lb_all L xs)) (pm_Rt pm_P 100) (1768, lv, [], h, 599897, 7298671) RQ1 := by
  refine E_al rfl L1 ?_
  refine E_alr rfl L0 ?_
  refine E_il rfl L3 ?_
  refine E_ci 1 rfl (by decide) ?_
  refine E_bin rfl (nJ_add _ _) ?_
  refine E_sld rfl (by omega) hL ?_
  refine E_alr rfl L0 ?_
  refine E_il rfl L3 ?_
  refine E_ci 2 rfl (by decide) ?_
  refine E_bin rfl (nJ_add _ _) ?_
  refine E_sld rfl (by omega) hL ?_
  refine E_call rfl (tQ_int (by decide +kernel) (by decide +kernel) I.2 (top_int (as := [.ref 0, .int (xs ((i + 1))), .int (xs ((i + 2)))]) q730 (by decide +kernel) (by decide +kernel) I.1 ⟨rfl, aI _, aI _, trivial⟩)) (chkR (a := 0) I.1.1 rfl rfl rfl rfl (by show 0 ≤ 8; decide)) (fun h1 r1 => ?_)
  rintro ⟨I1, x1, f1⟩
  rw [f1]
  show Ends _ _ (1782, lv, [.int x1], h1, 599897, 7298671) _
  refine E_pop rfl rfl ?_
  refine E_al rfl L2 ?_
  refine E_alr rfl L0 ?_
  refine E_il rfl L3 ?_
  refine E_ci 1 rfl (by decide) ?_
  refine E_bin rfl (nJ_add _ _) ?_
  refine E_sld rfl (by omega) hL ?_
  refine E_alr rfl L0 ?_
  refine E_il rfl L3 ?_
  refine E_ci 2 rfl (by decide) ?_
  refine E_bin rfl (nJ_add _ _) ?_
  refine E_sld rfl (by omega) hL ?_
  refine E_call rfl (tQ_int (by decide +kernel) (by decide +kernel) I1.2 (top_int (as := [.ref 77, .int (xs ((i + 1))), .int (xs ((i + 2)))]) q964 (by decide +kernel) (by decide +kernel) I1.1 ⟨rfl, aI _, aI _, trivial⟩)) (chkR (a := 77) I1.1.1 rfl rfl rfl rfl (by show 0 ≤ 8; decide)) (fun h2 r2 => ?_)
  rintro ⟨I2, x2, f2⟩
  rw [f2]
  show Ends _ _ (1797, lv, [.int x2], h2, 599897, 7298671) _
  refine E_pop rfl rfl ?_
  refine E_goto rfl ?_
  exact K _ I2
set_option maxRecDepth 20000 in
theorem bl_65 {L : Nat} {xs : Nat → Int32} (hL : L ≤ 3072) {h : pm_H} {i : Nat} (hi : i + 6 ≤ L) (lv : List (Nat × Value)) (I : IVQ h) (L0 : pm_get lv 0 = some (.retAddr 0)) (L1 : pm_get lv 1 = some (.ref 0)) (L2 : pm_get lv 2 = some (.ref 77)) (L3 : pm_get lv 3 = some (.int (nJ i))) (K : ∀ h', IVQ h' → Ends (pm_tr (lb_all L xs)) (pm_Rt pm_P 100) (2392, lv, [], h', 599897, 7298671) RQ1) : Ends (pm_tr (lb_all L xs)) (pm_Rt pm_P 100) (1801, lv, [], h, 599897, 7298671) RQ1 := by
  refine E_al rfl L1 ?_
  refine E_alr rfl L0 ?_
  refine E_il rfl L3 ?_
  refine E_ci 1 rfl (by decide) ?_
  refine E_bin rfl (nJ_add _ _) ?_
  refine E_sld rfl (by omega) hL ?_
  refine E_alr rfl L0 ?_
  refine E_il rfl L3 ?_
  refine E_ci 2 rfl (by decide) ?_
  refine E_bin rfl (nJ_add _ _) ?_
  refine E_sld rfl (by omega) hL ?_
  refine E_call rfl (tQ_int (by decide +kernel) (by decide +kernel) I.2 (top_int (as := [.ref 0, .int (xs ((i + 1))), .int (xs ((i + 2)))]) q754 (by decide +kernel) (by decide +kernel) I.1 ⟨rfl, aI _, aI _, trivial⟩)) (chkR (a := 0) I.1.1 rfl rfl rfl rfl (by show 0 ≤ 8; decide)) (fun h1 r1 => ?_)
  rintro ⟨I1, x1, f1⟩
  rw [f1]
  show Ends _ _ (1815, lv, [.int x1], h1, 599897, 7298671) _
  refine E_pop rfl rfl ?_
  refine E_al rfl L2 ?_
  refine E_alr rfl L0 ?_
  refine E_il rfl L3 ?_
  refine E_ci 1 rfl (by decide) ?_
  refine E_bin rfl (nJ_add _ _) ?_
  refine E_sld rfl (by omega) hL ?_
  refine E_alr rfl L0 ?_
  refine E_il rfl L3 ?_
  refine E_ci 2 rfl (by decide) ?_
  refine E_bin rfl (nJ_add _ _) ?_
  refine E_sld rfl (by omega) hL ?_
  refine E_call rfl (tQ_int (by decide +kernel) (by decide +kernel) I1.2 (top_int (as := [.ref 77, .int (xs ((i + 1))), .int (xs ((i + 2)))]) q761 (by decide +kernel) (by decide +kernel) I1.1 ⟨rfl, aI _, aI _, trivial⟩)) (chkR (a := 77) I1.1.1 rfl rfl rfl rfl (by show 0 ≤ 8; decide)) (fun h2 r2 => ?_)
  rintro ⟨I2, x2, f2⟩
  rw [f2]
  show Ends _ _ (1830, lv, [.int x2], h2, 599897, 7298671) _
  refine E_pop rfl rfl ?_
  refine E_goto rfl ?_
  exact K _ I2
set_option maxRecDepth 20000 in
theorem bl_66 {L : Nat} {xs : Nat → Int32} (hL : L ≤ 3072) {h : pm_H} {i : Nat} (hi : i + 6 ≤ L) (lv : List (Nat × Value)) (I : IVQ h) (L0 : pm_get lv 0 = some (.retAddr 0)) (L1 : pm_get lv 1 = some (.ref 0)) (L2 : pm_get lv 2 = some (.ref 77)) (L3 : pm_get lv 3 = some (.int (nJ i))) (K : ∀ h', IVQ h' → Ends (pm_tr (lb_all L xs)) (pm_Rt pm_P 100) (2392, lv, [], h', 599897, 7298671) RQ1) : Ends (pm_tr (lb_all L xs)) (pm_Rt pm_P 100) (1834, lv, [], h, 599897, 7298671) RQ1 := by
  refine E_al rfl L1 ?_
  refine E_alr rfl L0 ?_
  refine E_il rfl L3 ?_
  refine E_ci 1 rfl (by decide) ?_
  refine E_bin rfl (nJ_add _ _) ?_
  refine E_sld rfl (by omega) hL ?_
  refine E_alr rfl L0 ?_
  refine E_il rfl L3 ?_
  refine E_ci 2 rfl (by decide) ?_
  refine E_bin rfl (nJ_add _ _) ?_
  refine E_sld rfl (by omega) hL ?_
  refine E_alr rfl L0 ?_
  refine E_il rfl L3 ?_
  refine E_ci 3 rfl (by decide) ?_
  refine E_bin rfl (nJ_add _ _) ?_
  refine E_sld rfl (by omega) hL ?_
  refine E_alr rfl L0 ?_
  refine E_il rfl L3 ?_
  refine E_ci 4 rfl (by decide) ?_
  refine E_bin rfl (nJ_add _ _) ?_
  refine E_sld rfl (by omega) hL ?_
  refine E_call rfl (tQ_int (by decide +kernel) (by decide +kernel) I.2 (top_int (as := [.ref 0, .int (xs ((i + 1))), .int (xs ((i + 2))), .int (xs ((i + 3))), .int (xs ((i + 4)))]) q764 (by decide +kernel) (by decide +kernel) I.1 ⟨rfl, aI _, aI _, aI _, aI _, trivial⟩)) (chkR (a := 0) I.1.1 rfl rfl rfl rfl (by show 0 ≤ 8; decide)) (fun h1 r1 => ?_)
  rintro ⟨I1, x1, f1⟩
  rw [f1]
  show Ends _ _ (1858, lv, [.int x1], h1, 599897, 7298671) _
  refine E_pop rfl rfl ?_
  refine E_al rfl L2 ?_
  refine E_alr rfl L0 ?_
  refine E_il rfl L3 ?_
  refine E_ci 1 rfl (by decide) ?_
  refine E_bin rfl (nJ_add _ _) ?_
  refine E_sld rfl (by omega) hL ?_
  refine E_alr rfl L0 ?_
  refine E_il rfl L3 ?_
  refine E_ci 2 rfl (by decide) ?_
  refine E_bin rfl (nJ_add _ _) ?_
  refine E_sld rfl (by omega) hL ?_
  refine E_alr rfl L0 ?_
  refine E_il rfl L3 ?_
  refine E_ci 3 rfl (by decide) ?_
  refine E_bin rfl (nJ_add _ _) ?_
  refine E_sld rfl (by omega) hL ?_
  refine E_alr rfl L0 ?_
  refine E_il rfl L3 ?_
  refine E_ci 4 rfl (by decide) ?_
  refine E_bin rfl (nJ_add _ _) ?_
  refine E_sld rfl (by omega) hL ?_
  refine E_call rfl (tQ_int (by decide +kernel) (by decide +kernel) I1.2 (top_int (as := [.ref 77, .int (xs ((i + 1))), .int (xs ((i + 2))), .int (xs ((i + 3))), .int (xs ((i + 4)))]) q767 (by decide +kernel) (by decide +kernel) I1.1 ⟨rfl, aI _, aI _, aI _, aI _, trivial⟩)) (chkR (a := 77) I1.1.1 rfl rfl rfl rfl (by show 0 ≤ 8; decide)) (fun h2 r2 => ?_)
  rintro ⟨I2, x2, f2⟩
  rw [f2]
  show Ends _ _ (1883, lv, [.int x2], h2, 599897, 7298671) _
  refine E_pop rfl rfl ?_
  refine E_goto rfl ?_
  exact K _ I2
set_option maxRecDepth 20000 in
theorem bl_67 {L : Nat} {xs : Nat → Int32} (hL : L ≤ 3072) {h : pm_H} {i : Nat} (hi : i + 6 ≤ L) (lv : List (Nat × Value)) (I : IVQ h) (L0 : pm_get lv 0 = some (.retAddr 0)) (L1 : pm_get lv 1 = some (.ref 0)) (L2 : pm_get lv 2 = some (.ref 77)) (L3 : pm_get lv 3 = some (.int (nJ i))) (K : ∀ h', IVQ h' → Ends (pm_tr (lb_all L xs)) (pm_Rt pm_P 100) (2392, lv, [], h', 599897, 7298671) RQ1) : Ends (pm_tr (lb_all L xs)) (pm_Rt pm_P 100) (1887, lv, [], h, 599897, 7298671) RQ1 := by
  refine E_al rfl L1 ?_
  refine E_alr rfl L0 ?_
  refine E_il rfl L3 ?_
  refine E_ci 1 rfl (by decide) ?_
  refine E_bin rfl (nJ_add _ _) ?_
  refine E_sld rfl (by omega) hL ?_
  refine E_alr rfl L0 ?_
  refine E_il rfl L3 ?_
  refine E_ci 2 rfl (by decide) ?_
  refine E_bin rfl (nJ_add _ _) ?_
  refine E_sld rfl (by omega) hL ?_
  refine E_call rfl (tQ_int (by decide +kernel) (by decide +kernel) I.2 (top_int (as := [.ref 0, .int (xs ((i + 1))), .int (xs ((i + 2)))]) q779 (by decide +kernel) (by decide +kernel) I.1 ⟨rfl, aI _, aI _, trivial⟩)) (chkR (a := 0) I.1.1 rfl rfl rfl rfl (by show 0 ≤ 8; decide)) (fun h1 r1 => ?_)
  rintro ⟨I1, x1, f1⟩
  rw [f1]
  show Ends _ _ (1901, lv, [.int x1], h1, 599897, 7298671) _
  refine E_pop rfl rfl ?_
  refine E_al rfl L2 ?_
  refine E_alr rfl L0 ?_
  refine E_il rfl L3 ?_
  refine E_ci 1 rfl (by decide) ?_
  refine E_bin rfl (nJ_add _ _) ?_
  refine E_sld rfl (by omega) hL ?_
  refine E_alr rfl L0 ?_
  refine E_il rfl L3 ?_
  refine E_ci 2 rfl (by decide) ?_
  refine E_bin rfl (nJ_add _ _) ?_
  refine E_sld rfl (by omega) hL ?_
  refine E_call rfl (tQ_int (by decide +kernel) (by decide +kernel) I1.2 (top_int (as := [.ref 77, .int (xs ((i + 1))), .int (xs ((i + 2)))]) q966 (by decide +kernel) (by decide +kernel) I1.1 ⟨rfl, aI _, aI _, trivial⟩)) (chkR (a := 77) I1.1.1 rfl rfl rfl rfl (by show 0 ≤ 8; decide)) (fun h2 r2 => ?_)
  rintro ⟨I2, x2, f2⟩
  rw [f2]
  show Ends _ _ (1916, lv, [.int x2], h2, 599897, 7298671) _
  refine E_pop rfl rfl ?_
  refine E_goto rfl ?_
  exact K _ I2
set_option maxRecDepth 20000 in
theorem bl_68 {L : Nat} {xs : Nat → Int32} (hL : L ≤ 3072) {h : pm_H} {i : Nat} (hi : i + 6 ≤ L) (lv : List (Nat × Value)) (I : IVQ h) (L0 : pm_get lv 0 = some (.retAddr 0)) (L1 : pm_get lv 1 = some (.ref 0)) (L2 : pm_get lv 2 = some (.ref 77)) (L3 : pm_get lv 3 = some (.int (nJ i))) (K : ∀ h', IVQ h' → Ends (pm_tr (lb_all L xs)) (pm_Rt pm_P 100) (2392, lv, [], h', 599897, 7298671) RQ1) : Ends (pm_tr (lb_all L xs)) (pm_Rt pm_P 100) (1920, lv, [], h, 599897, 7298671) RQ1 := by
  refine E_al rfl L1 ?_
  refine E_alr rfl L0 ?_
  refine E_il rfl L3 ?_
  refine E_ci 1 rfl (by decide) ?_
  refine E_bin rfl (nJ_add _ _) ?_
  refine E_sld rfl (by omega) hL ?_
  refine E_call rfl (tQ_lng (by decide +kernel) (by decide +kernel) I.2 (top_lng (as := [.ref 0, .int (xs ((i + 1)))]) q844 (by decide +kernel) (by decide +kernel) I.1 ⟨rfl, aI _, trivial⟩)) (chkR (a := 0) I.1.1 rfl rfl rfl rfl (by show 0 ≤ 8; decide)) (fun h1 r1 => ?_)
  rintro ⟨I1, x1, f1⟩
  rw [f1]
  show Ends _ _ (1929, lv, [.long x1], h1, 599897, 7298671) _
  refine E_pop2 rfl rfl ?_
  refine E_al rfl L2 ?_
  refine E_alr rfl L0 ?_
  refine E_il rfl L3 ?_
  refine E_ci 1 rfl (by decide) ?_
  refine E_bin rfl (nJ_add _ _) ?_
  refine E_sld rfl (by omega) hL ?_
  refine E_call rfl (tQ_lng (by decide +kernel) (by decide +kernel) I1.2 (top_lng (as := [.ref 77, .int (xs ((i + 1)))]) q967 (by decide +kernel) (by decide +kernel) I1.1 ⟨rfl, aI _, trivial⟩)) (chkR (a := 77) I1.1.1 rfl rfl rfl rfl (by show 0 ≤ 8; decide)) (fun h2 r2 => ?_)
  rintro ⟨I2, x2, f2⟩
  rw [f2]
  show Ends _ _ (1939, lv, [.long x2], h2, 599897, 7298671) _
  refine E_pop2 rfl rfl ?_
  refine E_goto rfl ?_
  exact K _ I2
set_option maxRecDepth 20000 in
theorem bl_69 {L : Nat} {xs : Nat → Int32} (hL : L ≤ 3072) {h : pm_H} {i : Nat} (hi : i + 6 ≤ L) (lv : List (Nat × Value)) (I : IVQ h) (L0 : pm_get lv 0 = some (.retAddr 0)) (L1 : pm_get lv 1 = some (.ref 0)) (L2 : pm_get lv 2 = some (.ref 77)) (L3 : pm_get lv 3 = some (.int (nJ i))) (K : ∀ h', IVQ h' → Ends (pm_tr (lb_all L xs)) (pm_Rt pm_P 100) (2392, lv, [], h', 599897, 7298671) RQ1) : Ends (pm_tr (lb_all L xs)) (pm_Rt pm_P 100) (1943, lv, [], h, 599897, 7298671) RQ1 := by
  refine E_al rfl L1 ?_
  refine E_alr rfl L0 ?_
  refine E_il rfl L3 ?_
  refine E_ci 1 rfl (by decide) ?_
  refine E_bin rfl (nJ_add _ _) ?_
  refine E_sld rfl (by omega) hL ?_
  refine E_alr rfl L0 ?_
  refine E_il rfl L3 ?_
  refine E_ci 2 rfl (by decide) ?_
  refine E_bin rfl (nJ_add _ _) ?_
  refine E_sld rfl (by omega) hL ?_
  refine E_call rfl (g8_wants I) (chkR (a := 0) I.1.1 rfl rfl rfl rfl (by show 0 ≤ 8; decide)) (fun h1 r1 => ?_)
  rintro ⟨I1, x1, f1, J1⟩
  rw [f1]
  show Ends _ _ (1957, lv, [.int x1], h1, 599897, 7298671) _
  refine E_pop rfl rfl ?_
  refine E_al rfl L2 ?_
  refine E_alr rfl L0 ?_
  refine E_il rfl L3 ?_
  refine E_ci 1 rfl (by decide) ?_
  refine E_bin rfl (nJ_add _ _) ?_
  refine E_sld rfl (by omega) hL ?_
  refine E_alr rfl L0 ?_
  refine E_il rfl L3 ?_
  refine E_ci 2 rfl (by decide) ?_
  refine E_bin rfl (nJ_add _ _) ?_
  refine E_sld rfl (by omega) hL ?_
  refine E_call rfl (g9_wants I1 J1) (chkR (a := 77) I1.1 rfl rfl rfl rfl (by show 0 ≤ 8; decide)) (fun h2 r2 => ?_)
  rintro ⟨I2, x2, f2⟩
  rw [f2]
  show Ends _ _ (1972, lv, [.int x2], h2, 599897, 7298671) _
  refine E_pop rfl rfl ?_
  refine E_goto rfl ?_
  exact K _ I2
set_option maxRecDepth 20000 in
theorem bl_70 {L : Nat} {xs : Nat → Int32} (hL : L ≤ 3072) {h : pm_H} {i : Nat} (hi : i + 6 ≤ L) (lv : List (Nat × Value)) (I : IVQ h) (L0 : pm_get lv 0 = some (.retAddr 0)) (L1 : pm_get lv 1 = some (.ref 0)) (L2 : pm_get lv 2 = some (.ref 77)) (L3 : pm_get lv 3 = some (.int (nJ i))) (K : ∀ h', IVQ h' → Ends (pm_tr (lb_all L xs)) (pm_Rt pm_P 100) (2392, lv, [], h', 599897, 7298671) RQ1) : Ends (pm_tr (lb_all L xs)) (pm_Rt pm_P 100) (1976, lv, [], h, 599897, 7298671) RQ1 := by
  refine E_al rfl L1 ?_
  refine E_alr rfl L0 ?_
  refine E_il rfl L3 ?_
  refine E_ci 1 rfl (by decide) ?_
  refine E_bin rfl (nJ_add _ _) ?_
  refine E_sld rfl (by omega) hL ?_
  refine E_alr rfl L0 ?_
  refine E_il rfl L3 ?_
  refine E_ci 2 rfl (by decide) ?_
  refine E_bin rfl (nJ_add _ _) ?_
  refine E_sld rfl (by omega) hL ?_
  refine E_call rfl (g8_trades I) (chkR (a := 0) I.1.1 rfl rfl rfl rfl (by show 0 ≤ 8; decide)) (fun h1 r1 => ?_)
  rintro ⟨I1, x1, f1, J1⟩
  rw [f1]
  show Ends _ _ (1990, lv, [.int x1], h1, 599897, 7298671) _
  refine E_pop rfl rfl ?_
  refine E_al rfl L2 ?_
  refine E_alr rfl L0 ?_
  refine E_il rfl L3 ?_
  refine E_ci 1 rfl (by decide) ?_
  refine E_bin rfl (nJ_add _ _) ?_
  refine E_sld rfl (by omega) hL ?_
  refine E_alr rfl L0 ?_
  refine E_il rfl L3 ?_
  refine E_ci 2 rfl (by decide) ?_
  refine E_bin rfl (nJ_add _ _) ?_
  refine E_sld rfl (by omega) hL ?_
  refine E_call rfl (g9_trades I1 J1) (chkR (a := 77) I1.1 rfl rfl rfl rfl (by show 0 ≤ 8; decide)) (fun h2 r2 => ?_)
  rintro ⟨I2, x2, f2⟩
  rw [f2]
  show Ends _ _ (2005, lv, [.int x2], h2, 599897, 7298671) _
  refine E_pop rfl rfl ?_
  refine E_goto rfl ?_
  exact K _ I2
set_option maxRecDepth 20000 in
theorem bl_71 {L : Nat} {xs : Nat → Int32} (hL : L ≤ 3072) {h : pm_H} {i : Nat} (hi : i + 6 ≤ L) (lv : List (Nat × Value)) (I : IVQ h) (L0 : pm_get lv 0 = some (.retAddr 0)) (L1 : pm_get lv 1 = some (.ref 0)) (L2 : pm_get lv 2 = some (.ref 77)) (L3 : pm_get lv 3 = some (.int (nJ i))) (K : ∀ h', IVQ h' → Ends (pm_tr (lb_all L xs)) (pm_Rt pm_P 100) (2392, lv, [], h', 599897, 7298671) RQ1) : Ends (pm_tr (lb_all L xs)) (pm_Rt pm_P 100) (2009, lv, [], h, 599897, 7298671) RQ1 := by
  refine E_al rfl L1 ?_
  refine E_call rfl (g8_undo I) (chkR (a := 0) I.1.1 rfl rfl rfl rfl (by show 0 ≤ 8; decide)) (fun h1 r1 => ?_)
  rintro ⟨I1, x1, f1, J1⟩
  rw [f1]
  show Ends _ _ (2013, lv, [.int x1], h1, 599897, 7298671) _
  refine E_pop rfl rfl ?_
  refine E_al rfl L2 ?_
  refine E_call rfl (g9_undo I1 J1) (chkR (a := 77) I1.1 rfl rfl rfl rfl (by show 0 ≤ 8; decide)) (fun h2 r2 => ?_)
  rintro ⟨I2, f2⟩
  rw [f2]
  show Ends _ _ (2018, lv, [.int x1], h2, 599897, 7298671) _
  refine E_pop rfl rfl ?_
  refine E_goto rfl ?_
  exact K _ I2
set_option maxRecDepth 20000 in
theorem bl_72 {L : Nat} {xs : Nat → Int32} (hL : L ≤ 3072) {h : pm_H} {i : Nat} (hi : i + 6 ≤ L) (lv : List (Nat × Value)) (I : IVQ h) (L0 : pm_get lv 0 = some (.retAddr 0)) (L1 : pm_get lv 1 = some (.ref 0)) (L2 : pm_get lv 2 = some (.ref 77)) (L3 : pm_get lv 3 = some (.int (nJ i))) (K : ∀ h', IVQ h' → Ends (pm_tr (lb_all L xs)) (pm_Rt pm_P 100) (2392, lv, [], h', 599897, 7298671) RQ1) : Ends (pm_tr (lb_all L xs)) (pm_Rt pm_P 100) (2022, lv, [], h, 599897, 7298671) RQ1 := by
  refine E_al rfl L1 ?_
  refine E_call rfl (g8_anew I) (chkR (a := 0) I.1.1 rfl rfl rfl rfl (by show 0 ≤ 8; decide)) (fun h1 r1 => ?_)
  rintro ⟨I1, x1, f1, J1⟩
  rw [f1]
  show Ends _ _ (2026, lv, [.int x1], h1, 599897, 7298671) _
  refine E_pop rfl rfl ?_
  refine E_al rfl L2 ?_
  refine E_call rfl (g9_anew I1 J1) (chkR (a := 77) I1.1 rfl rfl rfl rfl (by show 0 ≤ 8; decide)) (fun h2 r2 => ?_)
  rintro ⟨I2, f2⟩
  rw [f2]
  show Ends _ _ (2031, lv, [.int x1], h2, 599897, 7298671) _
  refine E_pop rfl rfl ?_
  refine E_goto rfl ?_
  exact K _ I2
set_option maxRecDepth 20000 in
theorem bl_73 {L : Nat} {xs : Nat → Int32} (hL : L ≤ 3072) {h : pm_H} {i : Nat} (hi : i + 6 ≤ L) (lv : List (Nat × Value)) (I : IVQ h) (L0 : pm_get lv 0 = some (.retAddr 0)) (L1 : pm_get lv 1 = some (.ref 0)) (L2 : pm_get lv 2 = some (.ref 77)) (L3 : pm_get lv 3 = some (.int (nJ i))) (K : ∀ h', IVQ h' → Ends (pm_tr (lb_all L xs)) (pm_Rt pm_P 100) (2392, lv, [], h', 599897, 7298671) RQ1) : Ends (pm_tr (lb_all L xs)) (pm_Rt pm_P 100) (2035, lv, [], h, 599897, 7298671) RQ1 := by
  refine E_al rfl L1 ?_
  refine E_alr rfl L0 ?_
  refine E_il rfl L3 ?_
  refine E_ci 1 rfl (by decide) ?_
  refine E_bin rfl (nJ_add _ _) ?_
  refine E_sld rfl (by omega) hL ?_
  refine E_alr rfl L0 ?_
  refine E_il rfl L3 ?_
  refine E_ci 2 rfl (by decide) ?_
  refine E_bin rfl (nJ_add _ _) ?_
  refine E_sld rfl (by omega) hL ?_
  refine E_call rfl (tQ_int (by decide +kernel) (by decide +kernel) I.2 (top_int (as := [.ref 0, .int (xs ((i + 1))), .int (xs ((i + 2)))]) q885 (by decide +kernel) (by decide +kernel) I.1 ⟨rfl, aI _, aI _, trivial⟩)) (chkR (a := 0) I.1.1 rfl rfl rfl rfl (by show 0 ≤ 8; decide)) (fun h1 r1 => ?_)
  rintro ⟨I1, x1, f1⟩
  rw [f1]
  show Ends _ _ (2049, lv, [.int x1], h1, 599897, 7298671) _
  refine E_pop rfl rfl ?_
  refine E_al rfl L2 ?_
  refine E_alr rfl L0 ?_
  refine E_il rfl L3 ?_
  refine E_ci 1 rfl (by decide) ?_
  refine E_bin rfl (nJ_add _ _) ?_
  refine E_sld rfl (by omega) hL ?_
  refine E_alr rfl L0 ?_
  refine E_il rfl L3 ?_
  refine E_ci 2 rfl (by decide) ?_
  refine E_bin rfl (nJ_add _ _) ?_
  refine E_sld rfl (by omega) hL ?_
  refine E_call rfl (tQ_int (by decide +kernel) (by decide +kernel) I1.2 (top_int (as := [.ref 77, .int (xs ((i + 1))), .int (xs ((i + 2)))]) q889 (by decide +kernel) (by decide +kernel) I1.1 ⟨rfl, aI _, aI _, trivial⟩)) (chkR (a := 77) I1.1.1 rfl rfl rfl rfl (by show 0 ≤ 8; decide)) (fun h2 r2 => ?_)
  rintro ⟨I2, x2, f2⟩
  rw [f2]
  show Ends _ _ (2064, lv, [.int x2], h2, 599897, 7298671) _
  refine E_pop rfl rfl ?_
  refine E_goto rfl ?_
  exact K _ I2
set_option maxRecDepth 20000 in
theorem bl_74 {L : Nat} {xs : Nat → Int32} (hL : L ≤ 3072) {h : pm_H} {i : Nat} (hi : i + 6 ≤ L) (lv : List (Nat × Value)) (I : IVQ h) (L0 : pm_get lv 0 = some (.retAddr 0)) (L1 : pm_get lv 1 = some (.ref 0)) (L2 : pm_get lv 2 = some (.ref 77)) (L3 : pm_get lv 3 = some (.int (nJ i))) (K : ∀ h', IVQ h' → Ends (pm_tr (lb_all L xs)) (pm_Rt pm_P 100) (2392, lv, [], h', 599897, 7298671) RQ1) : Ends (pm_tr (lb_all L xs)) (pm_Rt pm_P 100) (2068, lv, [], h, 599897, 7298671) RQ1 := by
  refine E_al rfl L1 ?_
  refine E_alr rfl L0 ?_
  refine E_il rfl L3 ?_
  refine E_ci 1 rfl (by decide) ?_
  refine E_bin rfl (nJ_add _ _) ?_
  refine E_sld rfl (by omega) hL ?_
  refine E_alr rfl L0 ?_
  refine E_il rfl L3 ?_
  refine E_ci 2 rfl (by decide) ?_
  refine E_bin rfl (nJ_add _ _) ?_
  refine E_sld rfl (by omega) hL ?_
  refine E_alr rfl L0 ?_
  refine E_il rfl L3 ?_
  refine E_ci 3 rfl (by decide) ?_
  refine E_bin rfl (nJ_add _ _) ?_
  refine E_sld rfl (by omega) hL ?_
  refine E_call rfl (tQ_int (by decide +kernel) (by decide +kernel) I.2 (top_int (as := [.ref 0, .int (xs ((i + 1))), .int (xs ((i + 2))), .int (xs ((i + 3)))]) q891 (by decide +kernel) (by decide +kernel) I.1 ⟨rfl, aI _, aI _, aI _, trivial⟩)) (chkR (a := 0) I.1.1 rfl rfl rfl rfl (by show 0 ≤ 8; decide)) (fun h1 r1 => ?_)
  rintro ⟨I1, x1, f1⟩
  rw [f1]
  show Ends _ _ (2087, lv, [.int x1], h1, 599897, 7298671) _
  refine E_pop rfl rfl ?_
  refine E_al rfl L2 ?_
  refine E_alr rfl L0 ?_
  refine E_il rfl L3 ?_
  refine E_ci 1 rfl (by decide) ?_
  refine E_bin rfl (nJ_add _ _) ?_
  refine E_sld rfl (by omega) hL ?_
  refine E_alr rfl L0 ?_
  refine E_il rfl L3 ?_
  refine E_ci 2 rfl (by decide) ?_
  refine E_bin rfl (nJ_add _ _) ?_
  refine E_sld rfl (by omega) hL ?_
  refine E_alr rfl L0 ?_
  refine E_il rfl L3 ?_
  refine E_ci 3 rfl (by decide) ?_
  refine E_bin rfl (nJ_add _ _) ?_
  refine E_sld rfl (by omega) hL ?_
  refine E_call rfl (tQ_int (by decide +kernel) (by decide +kernel) I1.2 (top_int (as := [.ref 77, .int (xs ((i + 1))), .int (xs ((i + 2))), .int (xs ((i + 3)))]) q894 (by decide +kernel) (by decide +kernel) I1.1 ⟨rfl, aI _, aI _, aI _, trivial⟩)) (chkR (a := 77) I1.1.1 rfl rfl rfl rfl (by show 0 ≤ 8; decide)) (fun h2 r2 => ?_)
  rintro ⟨I2, x2, f2⟩
  rw [f2]
  show Ends _ _ (2107, lv, [.int x2], h2, 599897, 7298671) _
  refine E_pop rfl rfl ?_
  refine E_goto rfl ?_
  exact K _ I2
set_option maxRecDepth 20000 in
theorem bl_75 {L : Nat} {xs : Nat → Int32} (hL : L ≤ 3072) {h : pm_H} {i : Nat} (hi : i + 6 ≤ L) (lv : List (Nat × Value)) (I : IVQ h) (L0 : pm_get lv 0 = some (.retAddr 0)) (L1 : pm_get lv 1 = some (.ref 0)) (L2 : pm_get lv 2 = some (.ref 77)) (L3 : pm_get lv 3 = some (.int (nJ i))) (K : ∀ h', IVQ h' → Ends (pm_tr (lb_all L xs)) (pm_Rt pm_P 100) (2392, lv, [], h', 599897, 7298671) RQ1) : Ends (pm_tr (lb_all L xs)) (pm_Rt pm_P 100) (2111, lv, [], h, 599897, 7298671) RQ1 := by
  refine E_al rfl L1 ?_
  refine E_alr rfl L0 ?_
  refine E_il rfl L3 ?_
  refine E_ci 1 rfl (by decide) ?_
  refine E_bin rfl (nJ_add _ _) ?_
  refine E_sld rfl (by omega) hL ?_
  refine E_alr rfl L0 ?_
  refine E_il rfl L3 ?_
  refine E_ci 2 rfl (by decide) ?_
  refine E_bin rfl (nJ_add _ _) ?_
  refine E_sld rfl (by omega) hL ?_
  refine E_call rfl (g8_rate I) (chkR (a := 0) I.1.1 rfl rfl rfl rfl (by show 0 ≤ 8; decide)) (fun h1 r1 => ?_)
  rintro ⟨I1, x1, f1, J1⟩
  rw [f1]
  show Ends _ _ (2125, lv, [.int x1], h1, 599897, 7298671) _
  refine E_pop rfl rfl ?_
  refine E_al rfl L2 ?_
  refine E_alr rfl L0 ?_
  refine E_il rfl L3 ?_
  refine E_ci 1 rfl (by decide) ?_
  refine E_bin rfl (nJ_add _ _) ?_
  refine E_sld rfl (by omega) hL ?_
  refine E_alr rfl L0 ?_
  refine E_il rfl L3 ?_
  refine E_ci 2 rfl (by decide) ?_
  refine E_bin rfl (nJ_add _ _) ?_
  refine E_sld rfl (by omega) hL ?_
  refine E_call rfl (g9_rate I1 J1) (chkR (a := 77) I1.1 rfl rfl rfl rfl (by show 0 ≤ 8; decide)) (fun h2 r2 => ?_)
  rintro ⟨I2, f2⟩
  rw [f2]
  show Ends _ _ (2140, lv, [.int x1], h2, 599897, 7298671) _
  refine E_pop rfl rfl ?_
  refine E_goto rfl ?_
  exact K _ I2
set_option maxRecDepth 20000 in
theorem bl_76 {L : Nat} {xs : Nat → Int32} (hL : L ≤ 3072) {h : pm_H} {i : Nat} (hi : i + 6 ≤ L) (lv : List (Nat × Value)) (I : IVQ h) (L0 : pm_get lv 0 = some (.retAddr 0)) (L1 : pm_get lv 1 = some (.ref 0)) (L2 : pm_get lv 2 = some (.ref 77)) (L3 : pm_get lv 3 = some (.int (nJ i))) (K : ∀ h', IVQ h' → Ends (pm_tr (lb_all L xs)) (pm_Rt pm_P 100) (2392, lv, [], h', 599897, 7298671) RQ1) : Ends (pm_tr (lb_all L xs)) (pm_Rt pm_P 100) (2144, lv, [], h, 599897, 7298671) RQ1 := by
  refine E_al rfl L1 ?_
  refine E_alr rfl L0 ?_
  refine E_il rfl L3 ?_
  refine E_ci 1 rfl (by decide) ?_
  refine E_bin rfl (nJ_add _ _) ?_
  refine E_sld rfl (by omega) hL ?_
  refine E_call rfl (g8_count I) (chkR (a := 0) I.1.1 rfl rfl rfl rfl (by show 0 ≤ 8; decide)) (fun h1 r1 => ?_)
  rintro ⟨I1, x1, f1, J1⟩
  rw [f1]
  show Ends _ _ (2153, lv, [.int x1], h1, 599897, 7298671) _
  refine E_pop rfl rfl ?_
  refine E_al rfl L2 ?_
  refine E_alr rfl L0 ?_
  refine E_il rfl L3 ?_
  refine E_ci 1 rfl (by decide) ?_
  refine E_bin rfl (nJ_add _ _) ?_
  refine E_sld rfl (by omega) hL ?_
  refine E_call rfl (g9_count I1 J1) (chkR (a := 77) I1.1 rfl rfl rfl rfl (by show 0 ≤ 8; decide)) (fun h2 r2 => ?_)
  rintro ⟨I2, f2⟩
  rw [f2]
  show Ends _ _ (2163, lv, [.int x1], h2, 599897, 7298671) _
  refine E_pop rfl rfl ?_
  refine E_goto rfl ?_
  exact K _ I2
set_option maxRecDepth 20000 in
theorem bl_77 {L : Nat} {xs : Nat → Int32} (hL : L ≤ 3072) {h : pm_H} {i : Nat} (hi : i + 6 ≤ L) (lv : List (Nat × Value)) (I : IVQ h) (L0 : pm_get lv 0 = some (.retAddr 0)) (L1 : pm_get lv 1 = some (.ref 0)) (L2 : pm_get lv 2 = some (.ref 77)) (L3 : pm_get lv 3 = some (.int (nJ i))) (K : ∀ h', IVQ h' → Ends (pm_tr (lb_all L xs)) (pm_Rt pm_P 100) (2392, lv, [], h', 599897, 7298671) RQ1) : Ends (pm_tr (lb_all L xs)) (pm_Rt pm_P 100) (2167, lv, [], h, 599897, 7298671) RQ1 := by
  refine E_al rfl L1 ?_
  refine E_alr rfl L0 ?_
  refine E_il rfl L3 ?_
  refine E_ci 1 rfl (by decide) ?_
  refine E_bin rfl (nJ_add _ _) ?_
  refine E_sld rfl (by omega) hL ?_
  refine E_call rfl (g8_image I) (chkR (a := 0) I.1.1 rfl rfl rfl rfl (by show 0 ≤ 8; decide)) (fun h1 r1 => ?_)
  rintro ⟨I1, x1, f1, J1⟩
  rw [f1]
  show Ends _ _ (2176, lv, [.int x1], h1, 599897, 7298671) _
  refine E_pop rfl rfl ?_
  refine E_al rfl L2 ?_
  refine E_alr rfl L0 ?_
  refine E_il rfl L3 ?_
  refine E_ci 1 rfl (by decide) ?_
  refine E_bin rfl (nJ_add _ _) ?_
  refine E_sld rfl (by omega) hL ?_
  refine E_call rfl (g9_image I1 J1) (chkR (a := 77) I1.1 rfl rfl rfl rfl (by show 0 ≤ 8; decide)) (fun h2 r2 => ?_)
  rintro ⟨I2, f2⟩
  rw [f2]
  show Ends _ _ (2186, lv, [.int x1], h2, 599897, 7298671) _
  refine E_pop rfl rfl ?_
  refine E_goto rfl ?_
  exact K _ I2
set_option maxRecDepth 20000 in
theorem bl_78 {L : Nat} {xs : Nat → Int32} (hL : L ≤ 3072) {h : pm_H} {i : Nat} (hi : i + 6 ≤ L) (lv : List (Nat × Value)) (I : IVQ h) (L0 : pm_get lv 0 = some (.retAddr 0)) (L1 : pm_get lv 1 = some (.ref 0)) (L2 : pm_get lv 2 = some (.ref 77)) (L3 : pm_get lv 3 = some (.int (nJ i))) (K : ∀ h', IVQ h' → Ends (pm_tr (lb_all L xs)) (pm_Rt pm_P 100) (2392, lv, [], h', 599897, 7298671) RQ1) : Ends (pm_tr (lb_all L xs)) (pm_Rt pm_P 100) (2190, lv, [], h, 599897, 7298671) RQ1 := by
  refine E_al rfl L1 ?_
  refine E_alr rfl L0 ?_
  refine E_il rfl L3 ?_
  refine E_ci 1 rfl (by decide) ?_
  refine E_bin rfl (nJ_add _ _) ?_
  refine E_sld rfl (by omega) hL ?_
  refine E_call rfl (g8_back I) (chkR (a := 0) I.1.1 rfl rfl rfl rfl (by show 0 ≤ 8; decide)) (fun h1 r1 => ?_)
  rintro ⟨I1, x1, f1, J1⟩
  rw [f1]
  show Ends _ _ (2199, lv, [.int x1], h1, 599897, 7298671) _
  refine E_pop rfl rfl ?_
  refine E_al rfl L2 ?_
  refine E_alr rfl L0 ?_
  refine E_il rfl L3 ?_
  refine E_ci 1 rfl (by decide) ?_
  refine E_bin rfl (nJ_add _ _) ?_
  refine E_sld rfl (by omega) hL ?_
  refine E_call rfl (g9_back I1 J1) (chkR (a := 77) I1.1 rfl rfl rfl rfl (by show 0 ≤ 8; decide)) (fun h2 r2 => ?_)
  rintro ⟨I2, f2⟩
  rw [f2]
  show Ends _ _ (2209, lv, [.int x1], h2, 599897, 7298671) _
  refine E_pop rfl rfl ?_
  refine E_goto rfl ?_
  exact K _ I2
set_option maxRecDepth 20000 in
theorem bl_79 {L : Nat} {xs : Nat → Int32} (hL : L ≤ 3072) {h : pm_H} {i : Nat} (hi : i + 6 ≤ L) (lv : List (Nat × Value)) (I : IVQ h) (L0 : pm_get lv 0 = some (.retAddr 0)) (L1 : pm_get lv 1 = some (.ref 0)) (L2 : pm_get lv 2 = some (.ref 77)) (L3 : pm_get lv 3 = some (.int (nJ i))) (K : ∀ h', IVQ h' → Ends (pm_tr (lb_all L xs)) (pm_Rt pm_P 100) (2392, lv, [], h', 599897, 7298671) RQ1) : Ends (pm_tr (lb_all L xs)) (pm_Rt pm_P 100) (2213, lv, [], h, 599897, 7298671) RQ1 := by
  refine E_al rfl L1 ?_
  refine E_alr rfl L0 ?_
  refine E_il rfl L3 ?_
  refine E_ci 1 rfl (by decide) ?_
  refine E_bin rfl (nJ_add _ _) ?_
  refine E_sld rfl (by omega) hL ?_
  refine E_alr rfl L0 ?_
  refine E_il rfl L3 ?_
  refine E_ci 2 rfl (by decide) ?_
  refine E_bin rfl (nJ_add _ _) ?_
  refine E_sld rfl (by omega) hL ?_
  refine E_alr rfl L0 ?_
  refine E_il rfl L3 ?_
  refine E_ci 3 rfl (by decide) ?_
  refine E_bin rfl (nJ_add _ _) ?_
  refine E_sld rfl (by omega) hL ?_
  refine E_call rfl (g8_row I) (chkR (a := 0) I.1.1 rfl rfl rfl rfl (by show 0 ≤ 8; decide)) (fun h1 r1 => ?_)
  rintro ⟨I1, x1, f1, J1⟩
  rw [f1]
  show Ends _ _ (2232, lv, [.int x1], h1, 599897, 7298671) _
  refine E_pop rfl rfl ?_
  refine E_al rfl L2 ?_
  refine E_alr rfl L0 ?_
  refine E_il rfl L3 ?_
  refine E_ci 1 rfl (by decide) ?_
  refine E_bin rfl (nJ_add _ _) ?_
  refine E_sld rfl (by omega) hL ?_
  refine E_alr rfl L0 ?_
  refine E_il rfl L3 ?_
  refine E_ci 2 rfl (by decide) ?_
  refine E_bin rfl (nJ_add _ _) ?_
  refine E_sld rfl (by omega) hL ?_
  refine E_alr rfl L0 ?_
  refine E_il rfl L3 ?_
  refine E_ci 3 rfl (by decide) ?_
  refine E_bin rfl (nJ_add _ _) ?_
  refine E_sld rfl (by omega) hL ?_
  refine E_call rfl (g9_row I1 J1) (chkR (a := 77) I1.1 rfl rfl rfl rfl (by show 0 ≤ 8; decide)) (fun h2 r2 => ?_)
  rintro ⟨I2, f2⟩
  rw [f2]
  show Ends _ _ (2252, lv, [.int x1], h2, 599897, 7298671) _
  refine E_pop rfl rfl ?_
  refine E_goto rfl ?_
  exact K _ I2
set_option maxRecDepth 20000 in
theorem bl_80 {L : Nat} {xs : Nat → Int32} (hL : L ≤ 3072) {h : pm_H} {i : Nat} (hi : i + 6 ≤ L) (lv : List (Nat × Value)) (I : IVQ h) (L0 : pm_get lv 0 = some (.retAddr 0)) (L1 : pm_get lv 1 = some (.ref 0)) (L2 : pm_get lv 2 = some (.ref 77)) (L3 : pm_get lv 3 = some (.int (nJ i))) (K : ∀ h', IVQ h' → Ends (pm_tr (lb_all L xs)) (pm_Rt pm_P 100) (2392, lv, [], h', 599897, 7298671) RQ1) : Ends (pm_tr (lb_all L xs)) (pm_Rt pm_P 100) (2256, lv, [], h, 599897, 7298671) RQ1 := by
  refine E_al rfl L1 ?_
  refine E_alr rfl L0 ?_
  refine E_il rfl L3 ?_
  refine E_ci 1 rfl (by decide) ?_
  refine E_bin rfl (nJ_add _ _) ?_
  refine E_sld rfl (by omega) hL ?_
  refine E_alr rfl L0 ?_
  refine E_il rfl L3 ?_
  refine E_ci 2 rfl (by decide) ?_
  refine E_bin rfl (nJ_add _ _) ?_
  refine E_sld rfl (by omega) hL ?_
  refine E_alr rfl L0 ?_
  refine E_il rfl L3 ?_
  refine E_ci 3 rfl (by decide) ?_
  refine E_bin rfl (nJ_add _ _) ?_
  refine E_sld rfl (by omega) hL ?_
  refine E_i2l rfl ?_
  refine E_ci 32 rfl (by decide) ?_
  refine E_lsh rfl ?_
  refine E_alr rfl L0 ?_
  refine E_il rfl L3 ?_
  refine E_ci 4 rfl (by decide) ?_
  refine E_bin rfl (nJ_add _ _) ?_
  refine E_sld rfl (by omega) hL ?_
  refine E_i2l rfl ?_
  refine E_c rfl ?_
  refine E_lbin rfl ?_
  refine E_lbin rfl ?_
  refine E_call rfl (g8_write I) (chkR (a := 0) I.1.1 rfl rfl rfl rfl (by show 0 ≤ 8; decide)) (fun h1 r1 => ?_)
  rintro ⟨I1, x1, f1, J1⟩
  rw [f1]
  show Ends _ _ (2290, lv, [.int x1], h1, 599897, 7298671) _
  refine E_pop rfl rfl ?_
  refine E_al rfl L2 ?_
  refine E_alr rfl L0 ?_
  refine E_il rfl L3 ?_
  refine E_ci 1 rfl (by decide) ?_
  refine E_bin rfl (nJ_add _ _) ?_
  refine E_sld rfl (by omega) hL ?_
  refine E_alr rfl L0 ?_
  refine E_il rfl L3 ?_
  refine E_ci 2 rfl (by decide) ?_
  refine E_bin rfl (nJ_add _ _) ?_
  refine E_sld rfl (by omega) hL ?_
  refine E_alr rfl L0 ?_
  refine E_il rfl L3 ?_
  refine E_ci 3 rfl (by decide) ?_
  refine E_bin rfl (nJ_add _ _) ?_
  refine E_sld rfl (by omega) hL ?_
  refine E_i2l rfl ?_
  refine E_ci 32 rfl (by decide) ?_
  refine E_lsh rfl ?_
  refine E_alr rfl L0 ?_
  refine E_il rfl L3 ?_
  refine E_ci 4 rfl (by decide) ?_
  refine E_bin rfl (nJ_add _ _) ?_
  refine E_sld rfl (by omega) hL ?_
  refine E_i2l rfl ?_
  refine E_c rfl ?_
  refine E_lbin rfl ?_
  refine E_lbin rfl ?_
  refine E_call rfl (g9_write I1 J1) (chkR (a := 77) I1.1 rfl rfl rfl rfl (by show 0 ≤ 8; decide)) (fun h2 r2 => ?_)
  rintro ⟨I2, f2⟩
  rw [f2]
  show Ends _ _ (2325, lv, [.int x1], h2, 599897, 7298671) _
  refine E_pop rfl rfl ?_
  refine E_goto rfl ?_
  exact K _ I2
set_option maxRecDepth 20000 in
theorem bl_81 {L : Nat} {xs : Nat → Int32} (hL : L ≤ 3072) {h : pm_H} {i : Nat} (hi : i + 6 ≤ L) (lv : List (Nat × Value)) (I : IVQ h) (L0 : pm_get lv 0 = some (.retAddr 0)) (L1 : pm_get lv 1 = some (.ref 0)) (L2 : pm_get lv 2 = some (.ref 77)) (L3 : pm_get lv 3 = some (.int (nJ i))) (K : ∀ h', IVQ h' → Ends (pm_tr (lb_all L xs)) (pm_Rt pm_P 100) (2392, lv, [], h', 599897, 7298671) RQ1) : Ends (pm_tr (lb_all L xs)) (pm_Rt pm_P 100) (2329, lv, [], h, 599897, 7298671) RQ1 := by
  refine E_al rfl L1 ?_
  refine E_alr rfl L0 ?_
  refine E_il rfl L3 ?_
  refine E_ci 1 rfl (by decide) ?_
  refine E_bin rfl (nJ_add _ _) ?_
  refine E_sld rfl (by omega) hL ?_
  refine E_alr rfl L0 ?_
  refine E_il rfl L3 ?_
  refine E_ci 2 rfl (by decide) ?_
  refine E_bin rfl (nJ_add _ _) ?_
  refine E_sld rfl (by omega) hL ?_
  refine E_alr rfl L0 ?_
  refine E_il rfl L3 ?_
  refine E_ci 3 rfl (by decide) ?_
  refine E_bin rfl (nJ_add _ _) ?_
  refine E_sld rfl (by omega) hL ?_
  refine E_alr rfl L0 ?_
  refine E_il rfl L3 ?_
  refine E_ci 4 rfl (by decide) ?_
  refine E_bin rfl (nJ_add _ _) ?_
  refine E_sld rfl (by omega) hL ?_
  refine E_alr rfl L0 ?_
  refine E_il rfl L3 ?_
  refine E_ci 5 rfl (by decide) ?_
  refine E_bin rfl (nJ_add _ _) ?_
  refine E_sld rfl (by omega) hL ?_
  refine E_call rfl (g8_paste I) (chkR (a := 0) I.1.1 rfl rfl rfl rfl (by show 0 ≤ 8; decide)) (fun h1 r1 => ?_)
  rintro ⟨I1, x1, f1, J1⟩
  rw [f1]
  show Ends _ _ (2358, lv, [.int x1], h1, 599897, 7298671) _
  refine E_pop rfl rfl ?_
  refine E_al rfl L2 ?_
  refine E_alr rfl L0 ?_
  refine E_il rfl L3 ?_
  refine E_ci 1 rfl (by decide) ?_
  refine E_bin rfl (nJ_add _ _) ?_
  refine E_sld rfl (by omega) hL ?_
  refine E_alr rfl L0 ?_
  refine E_il rfl L3 ?_
  refine E_ci 2 rfl (by decide) ?_
  refine E_bin rfl (nJ_add _ _) ?_
  refine E_sld rfl (by omega) hL ?_
  refine E_alr rfl L0 ?_
  refine E_il rfl L3 ?_
  refine E_ci 3 rfl (by decide) ?_
  refine E_bin rfl (nJ_add _ _) ?_
  refine E_sld rfl (by omega) hL ?_
  refine E_alr rfl L0 ?_
  refine E_il rfl L3 ?_
  refine E_ci 4 rfl (by decide) ?_
  refine E_bin rfl (nJ_add _ _) ?_
  refine E_sld rfl (by omega) hL ?_
  refine E_alr rfl L0 ?_
  refine E_il rfl L3 ?_
  refine E_ci 5 rfl (by decide) ?_
  refine E_bin rfl (nJ_add _ _) ?_
  refine E_sld rfl (by omega) hL ?_
  refine E_call rfl (g9_paste I1 J1) (chkR (a := 77) I1.1 rfl rfl rfl rfl (by show 0 ≤ 8; decide)) (fun h2 r2 => ?_)
  rintro ⟨I2, f2⟩
  rw [f2]
  show Ends _ _ (2388, lv, [.int x1], h2, 599897, 7298671) _
  refine E_pop rfl rfl ?_
  refine E_goto rfl ?_
  exact K _ I2
end
