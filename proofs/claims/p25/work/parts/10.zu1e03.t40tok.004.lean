section
section RTL
variable {T : Nat → Int32} {L d : Nat}
theorem fw_num {s : Nat} (j : Nat) : ∀ {h : pm_H} {i n v : Nat} (lv : List (Nat × Value)), i + j = L → s + n = i → TB T L h → gi h 77 7 = nJ i → gi h 77 10 = nJ v → v ≤ 1000009 → Vr v (vfo T s n) → pm_get lv 0 = some (.ref 77) → Ends (pm_at tX9_follows) (pm_Rt pm_P (d + 1)) (208, lv, [], h, 0, 0) (fun h' r => r = none ∧ HH h' ∧ fr_g [(77, 7, 7), (77, 10, 10)] h h' ∧ gi h' 77 7 = nJ (up (fun j => dgb (T j)) L i) ∧ ∃ v, v ≤ 1000009 ∧ gi h' 77 10 = nJ v ∧ Vr v (vfo T s (up (fun j => dgb (T j)) L i - s))) := by
  induction j with
  | zero =>
    intro h i n v lv hj hn B g gv hv hV L0
    have h5 := B.2.2.1
    refine E_isB rfl rfl rfl rfl rfl rfl L0 B (by omega) g ?_
    refine E_ifT rfl (by rw [zb_F (fun q => absurd q.1 (by omega))]; rfl) ?_
    rw [up_no (L := L) (i := i) (fun q => absurd q.1 (by omega)), show i - s = n by omega]
    exact E_ret rfl ⟨rfl, B.1, fr_rf _ _, g, v, hv, gv, hV⟩
  | succ j ih =>
    intro h i n v lv hj hn B g gv hv hV L0
    have h5 := B.2.2.1
    refine E_isB rfl rfl rfl rfl rfl rfl L0 B (by omega) g ?_
    by_cases b : dgb (T i) = true
    · have hd := dgb_iff.mp b
      refine E_ifF rfl (by rw [zb_T ⟨by omega, isb_dg.mpr b⟩]; rfl) ?_
      rw [up_go (p := fun j => dgb (T j)) (by omega) b]
      have vs : vfo T s (n + 1) = min 1000 (10 * vfo T s n + ((T i).toInt.toNat - 48)) := by rw [← hn]; rfl
      have eT : T i = nJ (T i).toInt.toNat := nJ_of (by omega)
      have rest : ∀ {v' : Nat}, v' ≤ 1000009 → Vr v' (vfo T s (n + 1)) → Ends (pm_at tX9_follows) (pm_Rt pm_P (d + 1)) (258, lv, [.int (nJ v'), .ref 77], h, 0, 0) (fun h' r => r = none ∧ HH h' ∧ fr_g [(77, 7, 7), (77, 10, 10)] h h' ∧ gi h' 77 7 = nJ (up (fun j => dgb (T j)) L (i + 1)) ∧ ∃ v, v ≤ 1000009 ∧ gi h' 77 10 = nJ v ∧ Vr v (vfo T s (up (fun j => dgb (T j)) L (i + 1) - s))) := by
        intro v' hv' hV'
        refine E_pf rfl B.1 rfl ?_
        have hh1 : HH (pt h 77 10 (nJ v')) := HH_ptn B.1 rfl (by omega) (by omega) (by omega)
        have B1 := TB_pt B (by omega) hh1
        have g1 : gi (pt h 77 10 (nJ v')) 77 7 = nJ i := by rw [gi_ne (by omega)]; exact g
        refine E_sinc rfl rfl rfl rfl rfl rfl L0 hh1 g1 ?_
        have hh2 : HH (pt (pt h 77 10 (nJ v')) 77 7 (nJ (i + 1))) := HH_ptn hh1 rfl (by omega) (by omega) (by omega)
        refine E_goto rfl ?_
        refine Ends_mono ?_ (ih lv (i := i + 1) (n := n + 1) (v := v') (by omega) (by omega) (TB_pt B1 (by omega) hh2) (gi_ptn hh1 rfl (by omega) (by omega) (by omega)) (by rw [gi_ne (by omega)]; exact gi_ptn B.1 rfl (by omega) (by omega) (by omega)) hv' hV' L0)
        rintro h' r ⟨q1, q2, q3, q4⟩
        exact ⟨q1, q2, fr_trans (fr_ptr (l := 7) (u := 7) rfl (by omega) (by omega) (fr_ptr (l := 10) (u := 10) rfl (by omega) (by omega) (fr_rf _ _))) q3, q4⟩
      refine E_al rfl L0 ?_
      refine E_al rfl L0 ?_
      refine E_gf rfl B.1 rfl gv ?_
      refine E_ci 100000 rfl (by decide) ?_
      by_cases b2 : v ≤ 100000
      · refine E_icT rfl (decide_eq_true ((nJ_le (by omega) (by omega)).mpr b2)) ?_
        refine E_ci 10 rfl (by decide) ?_
        refine E_al rfl L0 ?_
        refine E_gf rfl B.1 rfl gv ?_
        refine E_bin rfl (nJ_mul _ _) ?_
        refine E_sbyt rfl rfl rfl rfl rfl L0 B (by omega) g ?_
        refine E_bin (v := nJ (10 * v + (T i).toInt.toNat)) rfl (by rw [← nJ_add, ← eT]) ?_
        refine E_ci 48 rfl (by decide) ?_
        refine E_bin rfl (nJ_sub (by omega)) ?_
        have ev : 10 * v + (T i).toInt.toNat - 48 = 10 * v + ((T i).toInt.toNat - 48) := by omega
        rw [ev]
        exact rest (by omega) (by rw [vs]; exact Vr_c3 hV)
      · refine E_icF rfl (decide_eq_false (fun q => b2 ((nJ_le (by omega) (by omega)).mp q))) ?_
        refine E_ci 1000000 rfl (by decide) ?_
        refine E_goto rfl ?_
        exact rest (by omega) (by rw [vs]; exact Vr_r1 hV (by omega))
    · refine E_ifT rfl (by rw [zb_F (fun q => b (isb_dg.mp q.2))]; rfl) ?_
      rw [up_no (L := L) (i := i) (fun q => b q.2), show i - s = n by omega]
      exact E_ret rfl ⟨rfl, B.1, fr_rf _ _, g, v, hv, gv, hV⟩
theorem fw_tail {h : pm_H} {i : Nat} (lv : List (Nat × Value)) (B : TB T L h) (hi : i ≤ L) (g : gi h 77 7 = nJ i) (L0 : pm_get lv 0 = some (.ref 77)) : Ends (pm_at tX9_follows) (pm_Rt pm_P (d + 1)) (43, lv, [], h, 0, 0) (fun h' r => r = none ∧ HH h' ∧ fr_g FM h h' ∧ RT T L i h') := by
  have h5 := B.2.2.1
  refine E_al rfl L0 ?_
  refine E_al rfl L0 ?_
  refine E_gf (q := (0, 500)) rfl B.1 rfl g ?_
  refine E_pf (q := (0, 500)) rfl B.1 rfl ?_
  have hha : HH (pt h 77 9 (nJ i)) := HH_ptn B.1 rfl (by omega) (by omega) (by omega)
  have Ba := TB_pt B (by omega) hha
  have g9a : gi (pt h 77 9 (nJ i)) 77 9 = nJ i := gi_ptn B.1 rfl (by omega) (by omega) (by omega)
  have g7a : gi (pt h 77 9 (nJ i)) 77 7 = nJ i := by rw [gi_ne (by omega)]; exact g
  have fa : fr_g FM h (pt h 77 9 (nJ i)) := fr_ptr (l := 7) (u := 11) rfl (by omega) (by omega) (fr_rf _ _)
  generalize pt h 77 9 (nJ i) = ha at hha Ba g9a g7a fa ⊢
  refine E_al rfl L0 ?_
  refine E_ci 0 rfl (by decide) ?_
  refine E_pf rfl hha rfl ?_
  have hhb : HH (pt ha 77 10 (nJ 0)) := HH_ptn hha rfl (by omega) (by omega) (by omega)
  have Bb := TB_pt Ba (by omega) hhb
  have gvb : gi (pt ha 77 10 (nJ 0)) 77 10 = nJ 0 := gi_ptn hha rfl (by omega) (by omega) (by omega)
  have g9b : gi (pt ha 77 10 (nJ 0)) 77 9 = nJ i := by rw [gi_ne (by omega)]; exact g9a
  have g7b : gi (pt ha 77 10 (nJ 0)) 77 7 = nJ i := by rw [gi_ne (by omega)]; exact g7a
  have fb : fr_g FM h (pt ha 77 10 (nJ 0)) := fr_ptr (l := 7) (u := 11) rfl (by omega) (by omega) fa
  generalize pt ha 77 10 (nJ 0) = hb at hhb Bb gvb g9b g7b fb ⊢
  refine E_al rfl L0 ?_
  refine E_c rfl ?_
  refine E_pfw rfl hhb rfl (fun h1 hh1 f1 ew => ?_)
  have B1 := TB_fr f1 rfl rfl hh1 Bb
  have gv : gi h1 77 10 = nJ 0 := by rw [fr_gi f1 rfl]; exact gvb
  have g9 : gi h1 77 9 = nJ i := by rw [fr_gi f1 rfl]; exact g9b
  have g7 : gi h1 77 7 = nJ i := by rw [fr_gi f1 rfl]; exact g7b
  have fh : fr_g FM h h1 := fr_trans fb (fr_wk rfl f1)
  have gw : (gl h1 77 11).toInt = 0 := by rw [ew]; rfl
  refine E_al rfl L0 ?_
  refine E_gf (q := (0, 500)) rfl hh1 rfl g7 ?_
  refine E_al rfl L0 ?_
  refine E_gf (q := (0, 500)) rfl hh1 rfl B1.2.1 ?_
  have setk : ∀ k, k ≤ 4 → HH (pt h1 77 8 (nJ k)) ∧ TB T L (pt h1 77 8 (nJ k)) ∧ gi (pt h1 77 8 (nJ k)) 77 8 = nJ k ∧ gi (pt h1 77 8 (nJ k)) 77 9 = nJ i ∧ gi (pt h1 77 8 (nJ k)) 77 7 = nJ i ∧ fr_g FM h (pt h1 77 8 (nJ k)) := by
    intro k hk
    have a : HH (pt h1 77 8 (nJ k)) := HH_ptn hh1 rfl (by omega) (by omega) (by omega)
    exact ⟨a, TB_pt B1 (by omega) a, gi_ptn hh1 rfl (by omega) (by omega) (by omega), by rw [gi_ne (by omega)]; exact g9, by rw [gi_ne (by omega)]; exact g7, fr_ptr (l := 7) (u := 11) rfl (by omega) (by omega) fh⟩
  by_cases b0 : i < L
  · refine E_icT rfl (decide_eq_true (fun q => absurd ((nJ_eq (by omega) (by omega)).mp q) (by omega))) ?_
    refine E_isB rfl rfl rfl rfl rfl rfl L0 B1 hi g7 ?_
    by_cases b1 : ltb (T i) = true
    · refine E_ifF rfl (by rw [zb_T ⟨b0, isb_lt.mpr b1⟩]; rfl) ?_
      refine E_al rfl L0 ?_
      refine E_ci 1 rfl (by decide) ?_
      refine E_pf (q := (0, 4)) rfl hh1 rfl ?_
      obtain ⟨a1, a2, a3, a4, a5, a6⟩ := setk 1 (by omega)
      have aw : (gl (pt h1 77 8 (nJ 1)) 77 11).toInt = wnm T i 0 := by
        have e : gl (pt h1 77 8 (nJ 1)) 77 11 = gl h1 77 11 := by unfold gl; rw [ld_pt (by omega)]
        rw [e, gw]
        rfl
      generalize pt h1 77 8 (nJ 1) = h2 at a1 a2 a3 a4 a5 a6 aw ⊢
      refine E_ci 0 rfl (by decide) ?_
      refine E_is rfl (fun lv1 K1 kp => ?_)
      refine Ends_mono ?_ (fw_let (d := d) (s := i) (L - i) lv1 (i := i) (n := 0) (by omega) (by omega) a2 a5 aw (fun m hm => absurd hm (Nat.not_lt_zero m)) (kp 0 _ (by decide) rfl L0) K1)
      rintro h' r ⟨q1, q2, q3, q4, q5⟩
      have k := tk_1 (T := T) b0 b1
      refine ⟨q1, q2, fr_trans a6 (fr_wk rfl q3), ?_, ?_, ?_, fun q => absurd q (by rw [k.1]; omega), fun _ => ?_⟩
      · rw [fr_gi q3 rfl]; exact a4
      · rw [q4, k.2]
      · rw [fr_gi q3 rfl, k.1]; exact a3
      · rw [k.2]; exact q5
    · have b1' : ltb (T i) = false := by cases hq : ltb (T i) with | false => rfl | true => exact absurd hq b1
      refine E_ifT rfl (by rw [zb_F (fun q => b1 (isb_lt.mp q.2))]; rfl) ?_
      refine E_isB rfl rfl rfl rfl rfl rfl L0 B1 hi g7 ?_
      by_cases b2 : dgb (T i) = true
      · refine E_ifF rfl (by rw [zb_T ⟨b0, isb_dg.mpr b2⟩]; rfl) ?_
        refine E_al rfl L0 ?_
        refine E_ci 2 rfl (by decide) ?_
        refine E_pf (q := (0, 4)) rfl hh1 rfl ?_
        obtain ⟨a1, a2, a3, a4, a5, a6⟩ := setk 2 (by omega)
        have av : gi (pt h1 77 8 (nJ 2)) 77 10 = nJ 0 := by rw [gi_ne (by omega)]; exact gv
        generalize pt h1 77 8 (nJ 2) = h2 at a1 a2 a3 a4 a5 a6 av ⊢
        refine Ends_mono ?_ (fw_num (d := d) (s := i) (L - i) lv (i := i) (n := 0) (v := 0) (by omega) (by omega) a2 a5 av (by omega) (.inl ⟨rfl, by show (0 : Nat) < 1000; omega⟩) L0)
        rintro h' r ⟨q1, q2, q3, q4, q5⟩
        have k := tk_2 (T := T) b0 b1' b2
        refine ⟨q1, q2, fr_trans a6 (fr_wk rfl q3), ?_, ?_, ?_, fun _ => ?_, fun q => absurd q (by rw [k.1]; omega)⟩
        · rw [fr_gi q3 rfl]; exact a4
        · rw [q4, k.2]
        · rw [fr_gi q3 rfl, k.1]; exact a3
        · unfold tkv
          rw [k.2]
          exact q5
      · have b2' : dgb (T i) = false := by cases hq : dgb (T i) with | false => rfl | true => exact absurd hq b2
        refine E_ifT rfl (by rw [zb_F (fun q => b2 (isb_dg.mp q.2))]; rfl) ?_
        refine E_al rfl L0 ?_
        refine E_sbyt rfl rfl rfl rfl rfl L0 B1 b0 g7 ?_
        refine E_ci 59 rfl (by decide) ?_
        have fin : ∀ k, k ≤ 4 → tkk T L i = k → tke T L i = i + 1 → k ≠ 2 → k ≠ 1 → Ends (pm_at tX9_follows) (pm_Rt pm_P (d + 1)) (294, lv, [.int (nJ k), .ref 77], h1, 0, 0) (fun h' r => r = none ∧ HH h' ∧ fr_g FM h h' ∧ RT T L i h') := by
          intro k hk k1 k2 k3 k4
          refine E_pf (q := (0, 4)) rfl hh1 rfl ?_
          obtain ⟨a1, a2, a3, a4, a5, a6⟩ := setk k hk
          generalize pt h1 77 8 (nJ k) = h2 at a1 a2 a3 a4 a5 a6 ⊢
          refine E_sinc rfl rfl rfl rfl rfl rfl L0 a1 a5 ?_
          have hh3 : HH (pt h2 77 7 (nJ (i + 1))) := HH_ptn a1 rfl (by omega) (by omega) (by omega)
          refine E_ret rfl ⟨rfl, hh3, fr_ptr (l := 7) (u := 11) rfl (by omega) (by omega) a6, ?_, ?_, ?_, fun q => absurd q (by omega), fun q => absurd q (by omega)⟩
          · rw [gi_ne (by omega)]; exact a4
          · rw [k2]; exact gi_ptn a1 rfl (by omega) (by omega) (by omega)
          · rw [k1, gi_ne (by omega)]; exact a3
        have e59 : (59 : Int32) = nJ 59 := by decide
        by_cases b3 : T i = 59
        · refine E_icF rfl (decide_eq_false (fun q => q (b3.trans e59))) ?_
          refine E_ci 3 rfl (by decide) ?_
          refine E_goto rfl ?_
          exact fin 3 (by omega) (tk_3 b0 b1' b2' b3).1 (tk_3 b0 b1' b2' b3).2 (by omega) (by omega)
        · refine E_icT rfl (decide_eq_true (fun q => b3 (q.trans e59.symm))) ?_
          refine E_ci 4 rfl (by decide) ?_
          exact fin 4 (by omega) (tk_4 b0 b1' b2' b3).1 (tk_4 b0 b1' b2' b3).2 (by omega) (by omega)
  · have eL : i = L := by omega
    refine E_icF rfl (decide_eq_false (fun q => q (by rw [eL]))) ?_
    refine E_al rfl L0 ?_
    refine E_ci 0 rfl (by decide) ?_
    refine E_pf (q := (0, 4)) rfl hh1 rfl ?_
    obtain ⟨a1, a2, a3, a4, a5, a6⟩ := setk 0 (by omega)
    generalize pt h1 77 8 (nJ 0) = h2 at a1 a2 a3 a4 a5 a6 ⊢
    refine E_goto rfl ?_
    have k := tk_0 (T := T) b0
    refine E_ret rfl ⟨rfl, a1, a6, a4, ?_, ?_, fun q => absurd q (by rw [k.1]; omega), fun q => absurd q (by rw [k.1]; omega)⟩
    · rw [k.2]; exact a5
    · rw [k.1]; exact a3
end RTL
end
