section
theorem tv_tradesX {h0 : pm_H} {d : Nat} {x y : Int32} (hh0 : HH h0) (hV : RV h0) : Sp (d + 40) 362 h0 [.ref 77, .int x, .int y] (fun h' r => VQ h0 h' r ∧ (∀ k, gi h' 86 k = gi h0 86 k) ∧ AD9 h0 h' 1 x.toInt.toNat y.toInt.toNat) := by
  refine Sp_of aiX9_trades rfl rfl rfl ?_
  have L0 : pm_get (lv_args 0 [.ref 77, .int x, .int y]) 0 = some (.ref 77) := rfl
  have L1 : pm_get (lv_args 0 [.ref 77, .int x, .int y]) 1 = some (.int x) := rfl
  have L2 : pm_get (lv_args 0 [.ref 77, .int x, .int y]) 2 = some (.int y) := rfl
  generalize lv_args 0 [.ref 77, .int x, .int y] = lv at L0 L1 L2 ⊢
  refine E_al rfl L0 ?_
  refine E_ci 0 rfl (by decide) ?_
  refine E_pf rfl hh0 rfl ?_
  have hh1 : HH (pt h0 77 0 (nJ 0)) := HH_ptn hh0 rfl (by omega) (by omega) (by omega)
  have fr1 : fr_g VM h0 (pt h0 77 0 (nJ 0)) := fr_ptr (l := 0) (u := 0) rfl (by omega) (by omega) (fr_rf VM h0)
  have V0 : RV (pt h0 77 0 (nJ 0)) := RV_fr hh0 (M := [(77, 0, 0)]) rfl (fr_ptr (l := 0) (u := 0) rfl (by omega) (by omega) (fr_rf _ _)) hV
  refine E_al rfl L0 ?_
  refine E_il rfl L1 ?_
  refine E_il rfl L2 ?_
  refine E_call rfl (Sp_le (by omega) (sp_areTwo (d := 0) hh1)) (chk77 hh1 rfl rfl (by show 0 ≤ 8; decide)) (fun h2 r2 => ?_)
  rintro ⟨e2, f2⟩
  rw [e2, f2]
  show Ends _ _ (11, lv, [.int (zb ((0 ≤ x.toInt ∧ x.toInt ≤ (gn (pt h0 77 0 (nJ 0)) 84 3 : Int) - 1) ∧ (0 ≤ y.toInt ∧ y.toInt ≤ (gn (pt h0 77 0 (nJ 0)) 84 3 : Int) - 1) ∧ ¬ x = y))], (pt h0 77 0 (nJ 0)), 0, 0) _
  by_cases hb3 : (0 ≤ x.toInt ∧ x.toInt ≤ (gn (pt h0 77 0 (nJ 0)) 84 3 : Int) - 1) ∧ (0 ≤ y.toInt ∧ y.toInt ≤ (gn (pt h0 77 0 (nJ 0)) 84 3 : Int) - 1) ∧ ¬ x = y
  · refine E_ifT rfl (by rw [zb_T hb3]; rfl) ?_
    have hC8 : gn (pt h0 77 0 (nJ 0)) 84 3 ≤ 8 := gn_hi hh1 rfl (by decide)
    obtain ⟨qa, qb, qn⟩ := id hb3
    obtain ⟨k, hk, rfl⟩ := nJ_of2 (n := gn (pt h0 77 0 (nJ 0)) 84 3 - 1) qa.1 (by have := qa.2; have := qa.1; omega)
    obtain ⟨p, hp, rfl⟩ := nJ_of2 (n := gn (pt h0 77 0 (nJ 0)) 84 3 - 1) (x := y) qb.1 (by have := qb.2; have := qb.1; omega)
    have hc1 : 1 ≤ gn (pt h0 77 0 (nJ 0)) 84 3 := by have := qa.1; have := qa.2; omega
    refine E_al rfl L0 ?_
    refine E_gr rfl hh1 (q := 84) rfl ?_
    refine E_ci 5 rfl (by decide) ?_
    have b4 : gn (pt h0 77 0 (nJ 0)) 84 5 ≤ 20 := gn_hi hh1 rfl (by decide)
    refine E_ial rfl hh1 rfl (by omega) (by decide) (gi_gn hh1 rfl (by decide)) ?_
    refine E_ci 20 rfl (by decide) ?_
    by_cases hb5 : ¬ (gn (pt h0 77 0 (nJ 0)) 84 5) = 20
    · refine E_icT rfl (decide_eq_true (fun q => hb5 ((nJ_eq (by omega) (by omega)).mp q))) ?_
      refine E_al rfl L0 ?_
      refine E_ci 1 rfl (by decide) ?_
      refine E_il rfl L1 ?_
      refine E_il rfl L2 ?_
      refine E_call rfl (Sp_le (by omega) (sp_doesX (d := 0) hh1 V0 (by omega) (by omega) (by omega) (by omega) (by omega))) (chk77 hh1 rfl rfl (by show 0 ≤ 8; decide)) (fun h6 r6 => ?_)
      rintro ⟨⟨hh6, fq6, V6, x6, f6⟩, m8, n8⟩
      rw [f6]
      have fr6 : fr_g VM h0 h6 := fr_trans fr1 fq6
      show Ends _ _ (40, lv, [.int x6], h6, 0, 0) _
      exact E_rti rfl ⟨⟨hh6, fr6, V6, _, rfl⟩, fun k => by rw [m8 k]; exact gi_ne (by omega), by rw [nJ_toInt (by omega), nJ_toInt (by omega)]; exact AD9_77 n8⟩
    · refine E_icF rfl (decide_eq_false (fun q => hb5 (fun z => q ((nJ_eq (by omega) (by omega)).mpr z)))) ?_
      refine E_c rfl ?_
      refine E_goto rfl ?_
      exact E_rti rfl ⟨⟨hh1, fr1, V0, _, rfl⟩, fun k => gi_ne (by omega), .inl ⟨gi_ne (by omega), fun k => gi_ne (by omega)⟩⟩
  · refine E_ifF rfl (by rw [zb_F hb3]; rfl) ?_
    refine E_c rfl ?_
    exact E_rti rfl ⟨⟨hh1, fr1, V0, _, rfl⟩, fun k => gi_ne (by omega), .inl ⟨gi_ne (by omega), fun k => gi_ne (by omega)⟩⟩
theorem sp_rate9X {h : pm_H} {d : Nat} {x y : Int32} (hh : HH h) : Sp (d + 3) 329 h [.ref 77, .int x, .int y] (fun h' r => r = some (.int (rtv (gn h 84 3) (gn h 84 5) (fun i => gi h 85 (2 * i + 1)) x y)) ∧ ∀ i, gi h' 85 (2 * i) = gi h 85 (2 * i)) := by
  obtain ⟨a5, a6, a3, -⟩ := g84 hh
  refine Sp_of aiX9_rate rfl rfl rfl ?_
  have L0 : pm_get (lv_args 0 [.ref 77, .int x, .int y]) 0 = some (.ref 77) := rfl
  have L1 : pm_get (lv_args 0 [.ref 77, .int x, .int y]) 1 = some (.int x) := rfl
  have L2 : pm_get (lv_args 0 [.ref 77, .int x, .int y]) 2 = some (.int y) := rfl
  generalize lv_args 0 [.ref 77, .int x, .int y] = lv at L0 L1 L2 ⊢
  refine E_al rfl L0 ?_
  refine E_ci 0 rfl (by decide) ?_
  refine E_pf rfl hh rfl ?_
  have hg : HH (pt h 77 0 (nJ 0)) := HH_ptn hh rfl (by omega) (by omega) (by omega)
  have F : fr_g [(77, 0, 0), (85, 1, 15)] h (pt h 77 0 (nJ 0)) := fr_ptr (l := 0) (u := 0) rfl (by omega) (by omega) (fr_rf _ _)
  have g5 : gi (pt h 77 0 (nJ 0)) 84 5 = nJ (gn h 84 5) := by rw [gi_ne (by omega)]; exact a5
  have g3 : gn (pt h 77 0 (nJ 0)) 84 3 = gn h 84 3 := gn_ne (by omega)
  have g85 : ∀ k, gi (pt h 77 0 (nJ 0)) 85 k = gi h 85 k := fun k => gi_ne (by omega)
  generalize pt h 77 0 (nJ 0) = g at hg F g5 g3 g85 ⊢
  have no : ¬ ((0 ≤ x.toInt ∧ x.toInt < (gn h 84 3 : Int)) ∧ 0 ≤ y.toInt ∧ y.toInt ≤ 99) → Ends (pm_at tX9_rate) (pm_Rt pm_P (d + 2)) (26, lv, [], g, 0, 0) (fun h' r => r = some (.int (rtv (gn h 84 3) (gn h 84 5) (fun i => gi h 85 (2 * i + 1)) x y)) ∧ ∀ i, gi h' 85 (2 * i) = gi h 85 (2 * i)) := by
    intro q
    refine E_c rfl ?_
    exact E_rti rfl ⟨by unfold rtv; rw [if_neg q], fun i => g85 _⟩
  refine E_al rfl L0 ?_
  refine E_il rfl L1 ?_
  refine E_i2l rfl ?_
  refine E_call rfl (sp_isCar (d := d) hg) (chk77 hg rfl rfl (by show 0 ≤ 8; decide)) (fun h1 r1 => ?_)
  rintro ⟨e1, f1⟩
  rw [e1, f1, g3]
  by_cases b1 : 0 ≤ x.toInt ∧ x.toInt ≤ (gn h 84 3 : Int) - 1
  · refine E_ifF rfl (by rw [zb_T b1]; rfl) ?_
    refine E_il rfl L2 ?_
    refine E_i2l rfl ?_
    refine E_c rfl ?_
    refine E_c rfl ?_
    refine E_call rfl (sp_in (a := y.toInt) (b := 0) (c := 99) (i2l_toInt _) rfl rfl) (chkS rfl (by show 0 ≤ 8; decide)) (fun h2 r2 => ?_)
    rintro ⟨e2, f2⟩
    rw [e2, f2]
    by_cases b2 : 0 ≤ y.toInt ∧ y.toInt ≤ 99
    · refine E_ifT rfl (by rw [zb_T b2]; rfl) ?_
      obtain ⟨c, hc, rfl⟩ : ∃ c, c < 8 ∧ x = nJ c := ⟨x.toInt.toNat, by omega, nJ_of b1.1⟩
      have xc := nJ_toInt (n := c) (by omega)
      have ec : (nJ c).toInt.toNat = c := by omega
      have ok : (0 ≤ (nJ c).toInt ∧ (nJ c).toInt < (gn h 84 3 : Int)) ∧ 0 ≤ y.toInt ∧ y.toInt ≤ 99 := ⟨by omega, b2⟩
      refine E_al rfl L0 ?_
      refine E_gr rfl hg (q := 84) rfl ?_
      refine E_ci 5 rfl (by decide) ?_
      refine E_ial rfl hg rfl (by omega) (by decide) g5 ?_
      by_cases b4 : gn h 84 5 = 0
      · refine E_ifT rfl (decide_eq_true ((nJ_le0 (by omega)).mpr b4)) ?_
        refine E_al rfl L0 ?_
        refine E_gr rfl hg (q := 85) rfl ?_
        refine E_ci 2 rfl (by decide) ?_
        refine E_il rfl L1 ?_
        refine E_bin rfl (nJ_mul _ _) ?_
        refine E_ci 1 rfl (by decide) ?_
        refine E_bin rfl (nJ_add _ _) ?_
        refine E_ial rfl hg rfl (by omega) (by decide) (g85 (2 * c + 1)) ?_
        refine E_is rfl (fun lv1 K3 kp => ?_)
        refine E_al rfl (kp 0 _ (by decide) rfl L0) ?_
        refine E_gr rfl hg (q := 85) rfl ?_
        refine E_ci 2 rfl (by decide) ?_
        refine E_il rfl (kp 1 _ (by decide) rfl L1) ?_
        refine E_bin rfl (nJ_mul _ _) ?_
        refine E_ci 1 rfl (by decide) ?_
        refine E_bin rfl (nJ_add _ _) ?_
        refine E_il rfl (kp 2 _ (by decide) rfl L2) ?_
        refine E_ias rfl hg rfl (by omega) (by decide) ?_
        refine E_il rfl K3 ?_
        have b85 : bd 85 (2 * c + 1) = some (0, 99) := bd_85o (by omega) (by omega)
        exact E_rti rfl ⟨by unfold rtv; rw [if_pos ok, if_pos b4, ec], fun i => by rw [gi_ne (by omega)]; exact g85 _⟩
      · refine E_ifF rfl (decide_eq_false (fun z => b4 ((nJ_le0 (by omega)).mp z))) ?_
        refine E_c rfl ?_
        exact E_rti rfl ⟨by unfold rtv; rw [if_pos ok, if_neg b4], fun i => g85 _⟩
    · refine E_ifF rfl (by rw [zb_F b2]; rfl) ?_
      exact no (fun q => b2 q.2)
  · refine E_ifT rfl (by rw [zb_F b1]; rfl) ?_
    exact no (fun q => b1 (by omega))
end
section
/-! count of both; image and back of both, exactly (written by gen_t59.py; wants t32, t52 with all pairs, t53) -/
noncomputable def sct (f : Nat → Int32) : Nat → Nat
  | 0 => 0
  | n + 1 => sct f n + (if f n = 0 then 0 else 1)
theorem sct_eq {f g : Nat → Int32} : ∀ {n : Nat}, (∀ i, i < n → f i = g i) → sct f n = sct g n
  | 0, _ => rfl
  | n + 1, e => by
    show sct f n + (if f n = 0 then 0 else 1) = sct g n + (if g n = 0 then 0 else 1)
    rw [sct_eq (fun i hi => e i (Nat.lt_succ_of_lt hi)), e n (Nat.lt_succ_self n)]
noncomputable def cnv (f : Nat → Int32) (v : Int32) : Int32 := if 0 ≤ v.toInt ∧ v.toInt ≤ 8 then f v.toInt.toNat else -1
theorem cnv_in {f : Nat → Int32} {k : Nat} (hk : k ≤ 8) : cnv f (nJ k) = f k := by
  have e := nJ_toInt (n := k) (by omega)
  unfold cnv
  rw [if_pos (by omega), e]
  rfl
theorem cnv_eq {f g : Nat → Int32} {v : Int32} (e : ∀ k, k ≤ 8 → f k = g k) : cnv f v = cnv g v := by
  unfold cnv
  by_cases q : 0 ≤ v.toInt ∧ v.toInt ≤ 8
  · rw [if_pos q, if_pos q, e _ (by omega)]
  · rw [if_neg q, if_neg q]
noncomputable def c8f (h : pm_H) : Nat → Int32
  | 0 => gi h 15 0
  | 1 => gi h 15 1
  | 2 => gi h 15 2
  | 3 => gi h 15 4
  | 4 => gi h 15 5
  | 5 => gi h 15 6
  | 6 => gi h 15 3
  | 7 => gi h 1 1
  | _ => nJ (sct (cf h) 4)
noncomputable def c9f (h : pm_H) : Nat → Int32
  | 0 => gi h 84 0
  | 1 => gi h 84 1
  | 2 => gi h 84 2
  | 3 => gi h 84 3
  | 4 => gi h 84 4
  | 5 => gi h 84 5
  | 6 => gi h 83 0
  | 7 => gi h 77 6
  | _ => nJ (sct (rf h) 4)
section CNT
variable {h : pm_H} {d : Nat} {v : Int32}
theorem sw_loop (hh : HH h) (j : Nat) : ∀ {i : Nat} (lv : List (Nat × Value)), i + j = 4 → pm_get lv 0 = some (.ref 0) → pm_get lv 1 = some (.int (nJ (sct (cf h) i))) → pm_get lv 2 = some (.int (nJ i)) → Ends (pm_at tX8_slotsWithRows) (pm_Rt pm_P d) (4, lv, [], h, 0, 0) (fun h' r => h' = h ∧ r = some (.int (nJ (sct (cf h) 4)))) := by
  induction j with
  | zero =>
    intro i lv hj L0 L1 L2
    have e : i = 4 := by omega
    subst e
    refine E_il rfl L2 ?_
    refine E_ci 4 rfl (by decide) ?_
    refine E_icT rfl (decide_eq_true ((nJ_le (by omega) (by omega)).mpr (by omega))) ?_
    refine E_il rfl L1 ?_
    exact E_rti rfl ⟨rfl, rfl⟩
  | succ j ih =>
    intro i lv hj L0 L1 L2
    obtain ⟨S1, S2, S3, S4, S5, S6⟩ := isS_at i (by omega)
    refine E_il rfl L2 ?_
    refine E_ci 4 rfl (by decide) ?_
    refine E_icF rfl (decide_eq_false (fun q => absurd ((nJ_le (by omega) (by omega)).mp q) (by omega))) ?_
    refine E_al rfl L0 ?_
    refine E_ogr rfl hh rfl (q := 53) rfl ?_
    refine E_il rfl L2 ?_
    refine E_aal rfl hh rfl (slot_at i (by omega)) (by decide) ?_
    refine E_ogf rfl hh S1 S4 rfl ?_
    have es : sct (cf h) (i + 1) = sct (cf h) i + (if gi h (54 + 2 * i) 1 = 0 then 0 else 1) := rfl
    by_cases b : gi h (54 + 2 * i) 1 = 0
    · rw [if_pos b] at es
      refine E_ifT rfl (decide_eq_true b) ?_
      refine E_inc rfl L2 (nJ_inc _) (fun lv1 K2 kp => ?_)
      refine E_goto rfl ?_
      exact ih lv1 (i := i + 1) (by omega) (kp 0 _ (by decide) rfl L0) (by rw [es]; exact kp 1 _ (by decide) rfl L1) K2
    · rw [if_neg b] at es
      refine E_ifF rfl (decide_eq_false b) ?_
      refine E_inc rfl L1 (nJ_inc _) (fun lv1 K1 kp1 => ?_)
      refine E_inc rfl (kp1 2 _ (by decide) rfl L2) (nJ_inc _) (fun lv2 K2 kp => ?_)
      refine E_goto rfl ?_
      exact ih lv2 (i := i + 1) (by omega) (kp 0 _ (by decide) rfl (kp1 0 _ (by decide) rfl L0)) (by rw [es]; exact kp 1 _ (by decide) rfl K1) K2
end CNT
end
