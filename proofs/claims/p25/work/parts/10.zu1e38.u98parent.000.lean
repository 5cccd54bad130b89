section
/-! parent of both (written by gen_u98.py; wants u97) -/
section PAR
variable {h : pm_H} {d : Nat} {x : Int32}
theorem tq_no {p : Prop} [Decidable p] {v : Int32} (nb : ¬ (decide p = true ∧ LW9 h = true)) : tqv p h v = if decide p = true then -1 else -2 := by
  unfold tqv
  by_cases c : p
  · rw [if_pos c, if_pos (decide_eq_true c), if_neg (fun q => nb ⟨decide_eq_true c, q⟩)]
  · rw [if_neg c, if_neg (by rw [decide_eq_false c]; decide)]
theorem tq_yes {p : Prop} [Decidable p] {v : Int32} (c : p) (l : LW9 h = true) : tqv p h v = v := by
  unfold tqv
  rw [if_pos c, if_pos l]
theorem tq_nz {s : Bool} : ¬ (if s = true then (-1 : Int32) else -2) = 0 := by split <;> decide
noncomputable def prq (h : pm_H) (x : Int32) : Int32 := tqv (0 ≤ x.toInt ∧ x.toInt < (N9 h : Int)) h (nJ (pT h (x.toInt.toNat + 1)))
theorem prq_K {h h' : pm_H} {x : Int32} (k : K9 h h') : prq h' x = prq h x := by
  unfold prq tqv
  rw [N9_K k, LW9_K k, pT_K k]
theorem sp_parent8 (hh : HH h) (R : QRE h) : Sp (d + 6) 152 h [.ref 0, .int x] (fun h' r => K9 h h' ∧ r = some (.int (prq h x))) := by
  refine Sp_of aiX8_parent rfl rfl rfl ?_
  have L0 : pm_get (lv_args 0 [.ref 0, .int x]) 0 = some (.ref 0) := rfl
  have L1 : pm_get (lv_args 0 [.ref 0, .int x]) 1 = some (.int x) := rfl
  generalize lv_args 0 [.ref 0, .int x] = lv at L0 L1 ⊢
  have k0 : K9 h h := ⟨fun _ => rfl, fun _ => rfl, fun _ => rfl, fun _ => rfl⟩
  obtain ⟨l3, p8, n8⟩ := g9s hh
  have B := B9_of R
  have e4 : gn h 15 4 = N9 h := gn_eq R.2.1.1.2.2.1
  refine E_al rfl L0 ?_
  refine E_al rfl L0 ?_
  refine E_il rfl L1 ?_
  refine E_call rfl (Sp_le (by omega) (sp_hasCar8 (d := d) hh)) (chkO (a := 0) hh rfl rfl rfl rfl (by show 1 ≤ 8; decide)) (fun h1 r1 => ?_)
  rintro ⟨e1, f1⟩
  rw [e1, f1, e4, zb_dec]
  refine E_call rfl (Sp_le (by omega) (sp_hangTree8 (d := d) (s := decide (0 ≤ x.toInt ∧ x.toInt < (N9 h : Int))) hh R)) (chkO (a := 0) hh rfl rfl rfl rfl (by show 0 ≤ 8; decide)) (fun h2 r2 => ?_)
  rintro (⟨nb, e2, f2⟩ | ⟨s1, lw, f2, hh2, F2, T2, k5⟩)
  · rw [e2, f2]
    refine E_is rfl (fun lv1 K2 kp => ?_)
    refine E_il rfl K2 ?_
    refine E_ifF rfl (decide_eq_false tq_nz) ?_
    refine E_il rfl K2 ?_
    refine E_goto rfl ?_
    exact E_rti rfl ⟨k0, by unfold prq; rw [tq_no nb]⟩
  · rw [f2]
    have c := of_decide_eq_true s1
    have k2 : K9 h h2 := K9_fr F2 rfl rfl rfl rfl
    have D := DT_T lw B
    obtain ⟨a, wb, lq⟩ := LW_wb lw B
    refine E_is rfl (fun lv1 K2 kp => ?_)
    refine E_il rfl K2 ?_
    refine E_ifT rfl (by decide) ?_
    have A0 := kp 0 _ (by decide) rfl L0
    rw [show prq h x = nJ (pT h (x.toInt.toNat + 1)) from tq_yes c lw]
    obtain ⟨m, hm, rfl⟩ : ∃ m, m < N9 h ∧ x = nJ m := ⟨x.toInt.toNat, by omega, nJ_of c.1⟩
    rw [show (nJ m).toInt.toNat = m by have := nJ_toInt (n := m) (by omega); omega]
    refine E_al rfl A0 ?_
    refine E_ogr (q := 64) rfl hh2 rfl rfl ?_
    refine E_ogr (q := 65) rfl hh2 rfl rfl ?_
    refine E_il rfl (kp 1 _ (by decide) rfl L1) ?_
    refine E_ci 1 rfl (by decide) ?_
    refine E_bin rfl (nJ_add _ _) ?_
    refine E_ial rfl hh2 rfl (by omega) (by decide) (T2.2 (m + 1) (by omega) (by omega)) ?_
    exact E_rti rfl ⟨k2, rfl⟩
theorem sp_parent9 (hh : HH h) (V : V9 h) (B : B9 h) : Sp (d + 7) 319 h [.ref 77, .int x] (fun h' r => r = some (.int (prq h x))) := by
  obtain ⟨l3, p8, n8⟩ := g9s hh
  refine Sp_of aiX9_parent rfl rfl rfl ?_
  have L0 : pm_get (lv_args 0 [.ref 77, .int x]) 0 = some (.ref 77) := rfl
  have L1 : pm_get (lv_args 0 [.ref 77, .int x]) 1 = some (.int x) := rfl
  generalize lv_args 0 [.ref 77, .int x] = lv at L0 L1 ⊢
  refine E_al rfl L0 ?_
  refine E_ci 0 rfl (by decide) ?_
  refine E_pf rfl hh rfl ?_
  have hg : HH (pt h 77 0 (nJ 0)) := HH_ptn hh rfl (by omega) (by omega) (by omega)
  have k : K9 h (pt h 77 0 (nJ 0)) := K9_77
  generalize pt h 77 0 (nJ 0) = g at hg k ⊢
  refine E_al rfl L0 ?_
  refine E_il rfl L1 ?_
  refine E_i2l rfl ?_
  refine E_call rfl (Sp_le (by omega) (sp_isCar (d := d) hg)) (chk77 hg rfl rfl (by show 0 ≤ 8; decide)) (fun h1 r1 => ?_)
  rintro ⟨e1, f1⟩
  rw [e1, f1, show gn g 84 3 = N9 h from N9_K k]
  by_cases c0 : 0 ≤ x.toInt ∧ x.toInt ≤ (N9 h : Int) - 1
  · refine E_ifT rfl (by rw [zb_T c0]; rfl) ?_
    have c : 0 ≤ x.toInt ∧ x.toInt < (N9 h : Int) := by omega
    refine E_al rfl L0 ?_
    refine E_call rfl (Sp_le (by omega) (sp_laysX (d := d) hg (V9_K k V))) (chk77 hg rfl rfl (by show 0 ≤ 8; decide)) (fun h2 r2 => ?_)
    rintro ⟨e2, hh2, f2, -, -, w2⟩
    rw [e2]
    have T := LY9_of k hh2 f2 w2
    refine E_al rfl L0 ?_
    refine E_call rfl (Sp_le (by omega) (sp_isLawful9 (d := d) hh T)) (chk77 hh2 rfl rfl (by show 0 ≤ 8; decide)) (fun h3 r3 => ?_)
    rintro ⟨e3, f3⟩
    rw [e3, f3]
    by_cases lw : LW9 h = true
    · refine E_ifT rfl (by rw [zb_T lw]; rfl) ?_
      rw [show prq h x = nJ (pT h (x.toInt.toNat + 1)) from tq_yes c lw]
      obtain ⟨a, wb, lq⟩ := LW_wb lw B
      have D := DT_T lw B
      refine E_al rfl L0 ?_
      refine E_call rfl (Sp_le (by omega) (sp_laysTreeX (d := d) hh2 n8 wb lq (by rw [a]; exact T.2.1) T.2.2.1 (fun c hc => by rw [gi_gn hh2 (q := (0, 8)) (bd_u rfl (by omega)) (by decide), T.2.2.2 c hc]))) (chk77 hh2 rfl rfl (by show 0 ≤ 8; decide)) (fun h4 r4 => ?_)
      rintro ⟨e4, hh4, f4, T4⟩
      rw [e4]
      have T4 : TRX 92 93 (N9 h) (oT h) (pT h) h4 := T4
      have u0 : gn h4 84 0 = N9 h := by rw [fr_gn f4 (rg_no rfl _), T.2.1, a]
      obtain ⟨m, hm, rfl⟩ : ∃ m, m < N9 h ∧ x = nJ m := ⟨x.toInt.toNat, by omega, nJ_of c.1⟩
      rw [show (nJ m).toInt.toNat = m by have := nJ_toInt (n := m) (by omega); omega]
      refine E_al rfl L0 ?_
      refine E_gr rfl hh4 (q := 92) rfl ?_
      refine E_il rfl L1 ?_
      refine E_ci 1 rfl (by decide) ?_
      refine E_bin rfl (nJ_add _ _) ?_
      refine E_ial rfl hh4 rfl (by omega) (by decide) (T4.2 (m + 1) (by omega) (by omega)) ?_
      exact E_rti rfl rfl
    · refine E_ifF rfl (by rw [zb_F lw]; rfl) ?_
      refine E_c rfl ?_
      exact E_rti rfl (by unfold prq tqv; rw [if_pos c, if_neg lw])
  · refine E_ifF rfl (by rw [zb_F c0]; rfl) ?_
    refine E_c rfl ?_
    exact E_rti rfl (by unfold prq tqv; rw [if_neg (fun q => c0 (by omega))])
end PAR
noncomputable def half_parent (h : pm_H) (r x : Int32) : Prop := QRE h ∧ r = prq h x
theorem g8_parent {h : pm_H} {x : Int32} (I : IVQ h) : Sp 100 152 h [.ref 0, .int x] (fun h' s => IVh h' ∧ ∃ r : Int32, s = some (.int r) ∧ half_parent h' r x) := by
  refine Sp_le (by omega) (Sp_mono ?_ (Sp_and1 (top_all (as := [.ref 0, .int x]) q289 (by decide +kernel) I.1 ⟨rfl, aI _, trivial⟩) (sp_parent8 (d := 0) I.1.1 I.2)))
  rintro h' s ⟨⟨s1, s2, -⟩, k, rfl⟩
  exact ⟨s1, _, rfl, QRE_fr s2 rfl I.2, by rw [prq_K k]⟩
theorem g9_parent {h : pm_H} {r x : Int32} (I : IVh h) (J : half_parent h r x) : Sp 100 319 h [.ref 77, .int x] (fun h' s => IVQ h' ∧ s = some (.int r)) := by
  obtain ⟨J1, rfl⟩ := J
  have tr := (top_TQ (as := [.ref 77, .int x]) (d := 30) rfl I (tp_parent (d := 0) I.1 (I.2.2.1 0 (by omega))))
  refine Sp_mono ?_ (Sp_an (Sp_le (by omega) tr) (Sp_le (by omega) (sp_parent9 (d := 0) I.1 (V9_of J1) (B9_of J1))))
  rintro h' s ⟨⟨s1, s2, -⟩, rfl⟩
  exact ⟨⟨s1, QRE_fr s2 rfl J1⟩, rfl⟩
end
section
/-! the law's own run (written by gen_t21.py) -/
noncomputable def RQ1 (_ : pm_H) (r : Option Value) : Prop := r = some (.int 1)
section ENDW
variable {look : Nat → Option pm_I} {call : pm_Call} {Q : pm_H → Option Value → Prop} {pc n i t : Nat} {lv : List (Nat × Value)} {st : List Value} {w : pm_H × Nat × Nat} {h : pm_H} {z : Nat × Nat}
theorem E_alr {x : Nat} (h1 : look pc = some (.inl (s_al i n))) (e : pm_get lv i = some (.retAddr x)) (k : Ends look call (n, lv, .retAddr x :: st, w) Q) : Ends look call (pc, lv, st, w) Q := E_st h1 (by simp only [s_al, e]) k
theorem E_sld {L j : Nat} {xs : Nat → Int32} (h1 : look pc = some (.inl (s_sld L xs n))) (hj : j < L) (hL : L ≤ 3072) (k : Ends look call (n, lv, .int (xs j) :: st, w) Q) : Ends look call (pc, lv, .int (nJ j) :: .retAddr 0 :: st, w) Q := by
  have h2 := nJ_toInt (n := j) (by omega)
  have h3 : pm_ix (nJ j) L = true := ai_ix (by omega) (by omega)
  have h4 : (nJ j).toNatClampNeg = j := by show (nJ j).toInt.toNat = j; omega
  refine E_st h1 ?_ k
  simp only [s_sld, h3, h4, cond_true]
theorem E_slen {L : Nat} (h1 : look pc = some (.inl (s_slen L n))) (hL : L ≤ 3072) (k : Ends look call (n, lv, .int (nJ L) :: st, w) Q) : Ends look call (pc, lv, .retAddr 0 :: st, w) Q := by
  have e : Int32.ofNat L = nJ L := by
    apply Int32.toInt_inj.mp
    rw [nJ_toInt (by omega), Int32.toInt_ofNat_of_lt (by omega)]
  refine E_st h1 ?_ k
  simp only [s_slen, e]
theorem E_lsh {op : Int64 → Int32 → Int64} {x : Int64} {y : Int32} (h1 : look pc = some (.inl (s_lsh op n))) (k : Ends look call (n, lv, .long (op x y) :: st, w) Q) : Ends look call (pc, lv, .int y :: .long x :: st, w) Q := E_st h1 rfl k
theorem E_pop2 {x : Value} (h1 : look pc = some (.inl (s_pop2 n))) (e : x.category = 2) (k : Ends look call (n, lv, st, w) Q) : Ends look call (pc, lv, x :: st, w) Q := E_st h1 (by simp only [s_pop2, e]; rfl) k
theorem E_tsw {lo hi : Int} {ts : List Nat} {dd : Nat} {x : Int32} (h1 : look pc = some (.inl (s_tsw lo hi ts dd))) (hz : (decide (x.toInt < lo) || decide (hi < x.toInt)) = false) (ht : ts[(x.toInt - lo).toNat]? = some t) (k : Ends look call (t, lv, st, w) Q) : Ends look call (pc, lv, .int x :: st, w) Q := E_st h1 (by simp only [s_tsw, hz, cond_false, ht]) k
theorem E_tswD {lo hi : Int} {ts : List Nat} {dd : Nat} {x : Int32} (h1 : look pc = some (.inl (s_tsw lo hi ts dd))) (hz : (decide (x.toInt < lo) || decide (hi < x.toInt)) = true) (k : Ends look call (dd, lv, st, w) Q) : Ends look call (pc, lv, .int x :: st, w) Q := E_st h1 (by simp only [s_tsw, hz, cond_true]) k
theorem chkR {a ci k : Nat} {fs : List AF} {as : List Value} (hh : HH h) (hc : hs0[a]? = some (.inr (.inr (.inr (ci, fs))))) (h9 : Nat.blt ci 100 = true) (hl : Nat.ble k st.length = true) (e : (st.take k).reverse = .ref a :: as) (hs : pm_sz (st.drop k) ≤ 8) : pm_chk k (some ci) 0 0 st (h, z) := by
  obtain ⟨x, hx, hg⟩ := hs_at hh hc
  match x, hx, hg with
  | .inr (cq, vs), hx, hg =>
    obtain ⟨rfl, -, -⟩ := hg
    refine ⟨Nat.le_of_ble_eq_true hl, fun q hq => ?_, hs, Nat.zero_le _, Nat.zero_le _⟩
    cases hq
    exact ⟨fun _ => ⟨a, vs, as, e, hx⟩, fun h7 => absurd (Nat.le_of_ble_eq_true h9) (Nat.not_lt.mpr h7)⟩
end ENDW
theorem nJ_inc6 (a : Nat) : nJ a + 6 = nJ (a + 6) := nJ_add a 6
set_option maxRecDepth 20000 in
theorem bl_0 {L : Nat} {xs : Nat → Int32} (hL : L ≤ 3072) {h : pm_H} {i : Nat} (hi : i + 6 ≤ L) (lv : List (Nat × Value)) (I : IVQ h) (L0 : pm_get lv 0 = some (.retAddr 0)) (L1 : pm_get lv 1 = some (.ref 0)) (L2 : pm_get lv 2 = some (.ref 77)) (L3 : pm_get lv 3 = some (.int (nJ i))) (K : ∀ h', IVQ h' → Ends (pm_tr (lb_all L xs)) (pm_Rt pm_P 100) (2392, lv, [], h', 599897, 7298671) RQ1) : Ends (pm_tr (lb_all L xs)) (pm_Rt pm_P 100) (376, lv, [], h, 599897, 7298671) RQ1 := by
  refine E_al rfl L1 ?_
  refine E_alr rfl L0 ?_
  refine E_il rfl L3 ?_
  refine E_ci 1 rfl (by decide) ?_
  refine E_bin rfl (nJ_add _ _) ?_
  refine E_sld rfl (by omega) hL ?_
  refine E_alr rfl L0 ?_
  refine E_il rfl L3 ?_
  refine E_ci 2 rfl (by decide) ?_
  refine E_bin rfl (nJ_add _ _) ?_
  refine E_sld rfl (by omega) hL ?_
  refine E_alr rfl L0 ?_
  refine E_il rfl L3 ?_
  refine E_ci 3 rfl (by decide) ?_
  refine E_bin rfl (nJ_add _ _) ?_
  refine E_sld rfl (by omega) hL ?_
  refine E_alr rfl L0 ?_
  refine E_il rfl L3 ?_
  refine E_ci 4 rfl (by decide) ?_
  refine E_bin rfl (nJ_add _ _) ?_
  refine E_sld rfl (by omega) hL ?_
  refine E_alr rfl L0 ?_
  refine E_il rfl L3 ?_
  refine E_ci 5 rfl (by decide) ?_
  refine E_bin rfl (nJ_add _ _) ?_
  refine E_sld rfl (by omega) hL ?_
  refine E_call rfl (g8_feed I) (chkR (a := 0) I.1.1 rfl rfl rfl rfl (by show 0 ≤ 8; decide)) (fun h1 r1 => ?_)
  rintro ⟨I1, x1, f1, J1⟩
  rw [f1]
  show Ends _ _ (405, lv, [.int x1], h1, 599897, 7298671) _
  refine E_pop rfl rfl ?_
  refine E_al rfl L2 ?_
  refine E_alr rfl L0 ?_
  refine E_il rfl L3 ?_
  refine E_ci 1 rfl (by decide) ?_
  refine E_bin rfl (nJ_add _ _) ?_
  refine E_sld rfl (by omega) hL ?_
  refine E_alr rfl L0 ?_
  refine E_il rfl L3 ?_
  refine E_ci 2 rfl (by decide) ?_
  refine E_bin rfl (nJ_add _ _) ?_
  refine E_sld rfl (by omega) hL ?_
  refine E_alr rfl L0 ?_
  refine E_il rfl L3 ?_
  refine E_ci 3 rfl (by decide) ?_
  refine E_bin rfl (nJ_add _ _) ?_
  refine E_sld rfl (by omega) hL ?_
  refine E_alr rfl L0 ?_
  refine E_il rfl L3 ?_
  refine E_ci 4 rfl (by decide) ?_
  refine E_bin rfl (nJ_add _ _) ?_
  refine E_sld rfl (by omega) hL ?_
  refine E_alr rfl L0 ?_
  refine E_il rfl L3 ?_
  refine E_ci 5 rfl (by decide) ?_
  refine E_bin rfl (nJ_add _ _) ?_
  refine E_sld rfl (by omega) hL ?_
  refine E_call rfl (g9_feed I1 J1) (chkR (a := 77) I1.1 rfl rfl rfl rfl (by show 0 ≤ 8; decide)) (fun h2 r2 => ?_)
  rintro ⟨I2, f2⟩
  rw [f2]
  show Ends _ _ (435, lv, [.int x1], h2, 599897, 7298671) _
  refine E_pop rfl rfl ?_
  refine E_goto rfl ?_
  exact K _ I2
end
