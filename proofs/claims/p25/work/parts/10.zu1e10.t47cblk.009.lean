section
section RL1
variable {T : Nat → Int32} {L d : Nat} {h : pm_H} {x : Px}
theorem sp_jnL {p j : Nat} {A B : Nat → Nat} (R : RSt T L x h) (gp : gi h 84 24 = nJ p) (gj : gi h 84 28 = nJ j) (p1 : 1 ≤ p) (p8 : p ≤ 8) (j8 : j ≤ 8) (dj : ∀ i, i < j → gi h 86 (64 + 2 * i) = nJ (A i) ∧ gi h 86 (64 + 2 * i + 1) = nJ (B i)) (ab : ∀ i, i < j → A i ≤ 9 ∧ B i ≤ 9) (hj : ∀ x y, 1 ≤ x → x ≤ p + 1 → 1 ≤ y → y ≤ p + 1 → bl A B j x ≠ bl A B j y → j < 8) : Sp (d + 7) 282 h [.ref 77] (fun h' r => r = none ∧ HH h' ∧ fr_g JX h h' ∧ RSt T L (lnJ T L (p + 1) (bl A B j) x).1 h' ∧ (isR (lnJ T L (p + 1) (bl A B j) x).1 = true → j < 8 ∧ gi h' 84 28 = nJ (j + 1) ∧ gi h' 86 (64 + 2 * j) = nJ (lnJ T L (p + 1) (bl A B j) x).2.1 ∧ gi h' 86 (64 + 2 * j + 1) = nJ (lnJ T L (p + 1) (bl A B j) x).2.2 ∧ ∀ i, i ≠ 64 + 2 * j → i ≠ 64 + 2 * j + 1 → gi h' 86 i = gi h 86 i)) := by
  have hh : HH h := (RSt_TB R).1
  refine Sp_of aiX9_joinLine rfl rfl rfl ?_
  have L0 : pm_get (lv_args 0 [.ref 77]) 0 = some (.ref 77) := rfl
  generalize lv_args 0 [.ref 77] = lv at L0 ⊢
  unfold lnJ
  dsimp only
  refine E_ci 2 rfl (by decide) ?_
  refine E_ci 32 rfl (by decide) ?_
  refine E_al rfl L0 ?_
  refine E_ci 4 rfl (by decide) ?_
  refine E_call rfl (Sp_le (by omega) (sp_hR (d := d) (k := 4) (v := j) hh (by decide) gj (by omega))) (chk77 hh rfl rfl (by show 2 ≤ 8; decide)) (fun h1 r1 => ?_)
  rintro ⟨e1, f1⟩
  rw [e1, f1]
  refine E_ci 7 rfl (by decide) ?_
  refine E_call rfl (Sp_le (by omega) (sp_lessOf (d := d) (a := j) (b := 7) (by omega) (by omega))) (chkS rfl (by show 2 ≤ 8; decide)) (fun h2 r2 => ?_)
  rintro ⟨e2, f2⟩
  rw [e2, f2]
  refine E_bin rfl (nJ_add _ _) ?_
  refine E_bin rfl (nJ_mul _ _) ?_
  refine E_is rfl (fun lv1 K1 kp1 => ?_)
  have M0 := kp1 0 _ (by decide) rfl L0
  refine E_al rfl M0 ?_
  refine E_ci 1 rfl (by decide) ?_
  refine E_al rfl M0 ?_
  refine E_ci 0 rfl (by decide) ?_
  refine E_call rfl (Sp_le (by omega) (sp_hR (d := d) (k := 0) (v := p) hh (by decide) gp (by omega))) (chk77 hh rfl rfl (by show 2 ≤ 8; decide)) (fun ha ra => ?_)
  rintro ⟨ea, fa⟩
  rw [ea, fa]
  refine E_ci 1 rfl (by decide) ?_
  refine E_bin rfl (nJ_add _ _) ?_
  refine E_call rfl (Sp_le (by omega) (sp_nm (d := d) (lo := 1) (hi := p + 1) R (by omega) (by omega))) (chk77 hh rfl rfl (by show 0 ≤ 8; decide)) (fun h3 r3 => ?_)
  rintro ⟨e3, f3, R3, u3, w3⟩
  rw [e3]
  generalize bV T L 1 (p + 1) x = V1 at u3 w3 ⊢
  generalize bN T L 1 (p + 1) x = x1 at R3 ⊢
  have hh3 : HH h3 := (RSt_TB R3).1
  have gj3 : gi h3 84 28 = nJ j := by rw [fr_gi f3 (rg_no rfl _)]; exact gj
  refine E_is rfl (fun lv2 K2 kp2 => ?_)
  have N0 := kp2 0 _ (by decide) rfl M0
  have N1 := kp2 1 _ (by decide) rfl K1
  refine E_al rfl N0 ?_
  refine E_ci 4 rfl (by decide) ?_
  refine E_al rfl N0 ?_
  refine E_ci 4 rfl (by decide) ?_
  refine E_call rfl (Sp_le (by omega) (sp_hR (d := d) (k := 4) (v := j) hh3 (by decide) gj3 (by omega))) (chk77 hh3 rfl rfl (by show 2 ≤ 8; decide)) (fun hb rb => ?_)
  rintro ⟨eb, fb⟩
  rw [eb, fb]
  refine E_call rfl (Sp_le (by omega) (sp_laysBlocks4 (d := d) (n := j) hh3 j8)) (chk77 hh3 rfl rfl (by show 0 ≤ 8; decide)) (fun h4 r4 => ?_)
  rintro ⟨e4, hh4, f4, l4⟩
  rw [e4]
  have R4 := RSt_frm f4 rfl rfl hh4 R3
  have b3 : bk (gn h3 86) j = bl A B j := bk_bl (fun i hi => by
    have q := dj i hi
    have q2 := ab i hi
    refine ⟨gn_of ?_ (by omega), gn_of ?_ (by omega)⟩
    · rw [fr_gi f3 (rg_no rfl _)]; exact q.1
    · rw [fr_gi f3 (rg_no rfl _)]; exact q.2)
  have l4 : ∀ k, k < 10 → gn h4 101 k = bl A B j k := fun k hk => by rw [l4 k hk, b3]
  have gp4 : gi h4 84 24 = nJ p := by rw [fr_gi f4 (rg_no rfl _), fr_gi f3 (rg_no rfl _)]; exact gp
  have gj4 : gi h4 84 28 = nJ j := by rw [fr_gi f4 (rg_no rfl _)]; exact gj3
  have o4 : ∀ i, gi h4 86 i = gi h 86 i := fun i => by rw [fr_gi f4 (rg_no rfl _), fr_gi f3 (rg_no rfl _)]
  have F4 : fr_g JX h h4 := fr_trans (fr_wk rfl f3) (fr_wk rfl f4)
  /- the second number, and the end -/
  have rest : ∀ (x2 : Px) (g : pm_H), bJ T L (p + 1) (bl A B j) V1 x1 = x2 → RSt T L x2 g → fr_g JX h g → gi g 84 24 = nJ p → gi g 84 28 = nJ j → (∀ i, gi g 86 i = gi h 86 i) → (∀ t, x2 = .inr t → okN T L 1 (p + 1) t = true → MAY (p + 1) (bl A B j) V1 (tkv T L t)) → Ends (pm_at tX9_joinLine) (pm_Rt pm_P (d + 6)) (98, lv2, [], g, 0, 0) (fun h' r => r = none ∧ HH h' ∧ fr_g JX h h' ∧ RSt T L (bN T L 1 (p + 1) (bJ T L (p + 1) (bl A B j) V1 x1)) h' ∧ (isR (bN T L 1 (p + 1) (bJ T L (p + 1) (bl A B j) V1 x1)) = true → j < 8 ∧ gi h' 84 28 = nJ (j + 1) ∧ gi h' 86 (64 + 2 * j) = nJ V1 ∧ gi h' 86 (64 + 2 * j + 1) = nJ (bV T L 1 (p + 1) (bJ T L (p + 1) (bl A B j) V1 x1)) ∧ ∀ i, i ≠ 64 + 2 * j → i ≠ 64 + 2 * j + 1 → gi h' 86 i = gi h 86 i)) := by
    intro x2 g e2 Rg Fg gpg gjg og may
    rw [e2]
    have hg : HH g := (RSt_TB Rg).1
    refine E_al rfl N0 ?_
    refine E_ci 1 rfl (by decide) ?_
    refine E_al rfl N0 ?_
    refine E_ci 0 rfl (by decide) ?_
    refine E_call rfl (Sp_le (by omega) (sp_hR (d := d) (k := 0) (v := p) hg (by decide) gpg (by omega))) (chk77 hg rfl rfl (by show 2 ≤ 8; decide)) (fun hc rc => ?_)
    rintro ⟨ec, fc⟩
    rw [ec, fc]
    refine E_ci 1 rfl (by decide) ?_
    refine E_bin rfl (nJ_add _ _) ?_
    refine E_call rfl (Sp_le (by omega) (sp_nm (d := d) (lo := 1) (hi := p + 1) Rg (by omega) (by omega))) (chk77 hg rfl rfl (by show 0 ≤ 8; decide)) (fun h5 r5 => ?_)
    rintro ⟨e5, f5, R5, u5, w5⟩
    rw [e5]
    have hh5 : HH h5 := (RSt_TB R5).1
    have F5 : fr_g JX h h5 := fr_trans Fg (fr_wk rfl f5)
    refine E_is rfl (fun lv3 K3 kp3 => ?_)
    have O0 := kp3 0 _ (by decide) rfl N0
    have O1 := kp3 1 _ (by decide) rfl N1
    have O2 := kp3 2 _ (by decide) rfl K2
    refine E_al rfl O0 ?_
    cases x3 : bN T L 1 (p + 1) x2 with
    | inl e =>
      rw [x3] at R5
      refine E_gf (q := (0, 3)) rfl hh5 rfl R5.2.1 ?_
      refine E_ifF rfl (decide_eq_false (fun q => absurd ((nJ_eq0 (by have := R5.2.2.2.2.1; omega)).mp q) (by have := R5.2.2.2.1; omega))) ?_
      exact E_ret rfl ⟨rfl, hh5, F5, R5, fun q => by cases q⟩
    | inr t3 =>
      obtain ⟨t, et, ok, -⟩ := bN_in x3
      have mm := may t et ok
      have v2 := (okN_iff.mp ok).2
      have jj := hj V1 (tkv T L t) u3 w3 v2.1 v2.2 mm.1
      have em : min j 7 = j := by omega
      rw [em, show 2 * (32 + j) = 64 + 2 * j by omega] at O1
      rw [x3] at R5
      generalize bV T L 1 (p + 1) x2 = V2 at u5 w5 K3 ⊢
      refine E_gf (q := (0, 3)) rfl hh5 rfl R5.2.2.1 ?_
      refine E_ifT rfl (by decide) ?_
      refine E_al rfl O0 ?_
      refine E_gr rfl hh5 (q := 86) rfl ?_
      refine E_il rfl O1 ?_
      refine E_il rfl O2 ?_
      refine E_ias rfl hh5 rfl (by omega) (by decide) ?_
      have q1 : bd 86 (64 + 2 * j) = some (0, 9) := bd_u rfl (by omega)
      have q2 : bd 86 (64 + 2 * j + 1) = some (0, 9) := bd_u rfl (by omega)
      have hh6 : HH (pt h5 86 (64 + 2 * j) (nJ V1)) := HH_ptn hh5 q1 (by omega) (by omega) (by omega)
      refine E_al rfl O0 ?_
      refine E_gr rfl hh6 (q := 86) rfl ?_
      refine E_il rfl O1 ?_
      refine E_ci 1 rfl (by decide) ?_
      refine E_bin rfl (nJ_add _ _) ?_
      refine E_il rfl K3 ?_
      refine E_ias rfl hh6 rfl (by omega) (by decide) ?_
      have hh7 : HH (pt (pt h5 86 (64 + 2 * j) (nJ V1)) 86 (64 + 2 * j + 1) (nJ V2)) := HH_ptn hh6 q2 (by omega) (by omega) (by omega)
      have R7 := RSt_pt (by omega) hh7 (RSt_pt (by omega) hh6 R5)
      have ga : gi (pt (pt h5 86 (64 + 2 * j) (nJ V1)) 86 (64 + 2 * j + 1) (nJ V2)) 86 (64 + 2 * j) = nJ V1 := by rw [gi_ne (by omega)]; exact gi_ptn hh5 q1 (by omega) (by omega) (by omega)
      have gb : gi (pt (pt h5 86 (64 + 2 * j) (nJ V1)) 86 (64 + 2 * j + 1) (nJ V2)) 86 (64 + 2 * j + 1) = nJ V2 := gi_ptn hh6 q2 (by omega) (by omega) (by omega)
      have o7 : ∀ i, i ≠ 64 + 2 * j → i ≠ 64 + 2 * j + 1 → gi (pt (pt h5 86 (64 + 2 * j) (nJ V1)) 86 (64 + 2 * j + 1) (nJ V2)) 86 i = gi h 86 i := fun i a b => by rw [gi_ne (fun _ => b), gi_ne (fun _ => a), fr_gi f5 (rg_no rfl _)]; exact og i
      have gj7 : gi (pt (pt h5 86 (64 + 2 * j) (nJ V1)) 86 (64 + 2 * j + 1) (nJ V2)) 84 28 = nJ j := by rw [gi_ne (by omega), gi_ne (by omega), fr_gi f5 (rg_no rfl _)]; exact gjg
      have F7 : fr_g JX h (pt (pt h5 86 (64 + 2 * j) (nJ V1)) 86 (64 + 2 * j + 1) (nJ V2)) := fr_ptr (l := 64) (u := 79) rfl (by omega) (by omega) (fr_ptr (l := 64) (u := 79) rfl (by omega) (by omega) F5)
      generalize pt (pt h5 86 (64 + 2 * j) (nJ V1)) 86 (64 + 2 * j + 1) (nJ V2) = h7 at hh7 R7 ga gb o7 gj7 F7 ⊢
      refine E_al rfl O0 ?_
      refine E_ci 4 rfl (by decide) ?_
      refine E_al rfl O0 ?_
      refine E_ci 4 rfl (by decide) ?_
      refine E_call rfl (Sp_le (by omega) (sp_hR (d := d) (k := 4) (v := j) hh7 (by decide) gj7 (by omega))) (chk77 hh7 rfl rfl (by show 2 ≤ 8; decide)) (fun h8 r8 => ?_)
      rintro ⟨e8, f8⟩
      rw [e8, f8]
      refine E_ci 1 rfl (by decide) ?_
      refine E_bin rfl (nJ_add _ _) ?_
      refine E_call rfl (Sp_le (by omega) (sp_tells (d := d) (k := 4) hh7 (by decide))) (chk77 hh7 rfl rfl (by show 0 ≤ 8; decide)) (fun h9 r9 => ?_)
      rintro ⟨e9, f9⟩
      rw [e9, f9]
      have hh9 : HH (pt h7 84 (24 + 4) (nJ (j + 1))) := HH_ptn hh7 rfl (by omega) (by omega) (by omega)
      refine E_ret rfl ⟨rfl, hh9, fr_ptr (l := 28) (u := 28) rfl (by omega) (by omega) F7, RSt_pt (by omega) hh9 R7, fun _ => ⟨jj, gi_ptn hh7 rfl (by omega) (by omega) (by omega), ?_, ?_, fun i a b => ?_⟩⟩
      · rw [gi_ne (by omega)]; exact ga
      · rw [gi_ne (by omega)]; exact gb
      · rw [gi_ne (by omega)]; exact o7 i a b
  refine E_al rfl N0 ?_
  match x1, R4, rest with
  | .inl (k', p'), R4, rest =>
    refine E_gf (q := (0, 3)) rfl hh4 rfl R4.2.1 ?_
    refine E_ifT rfl (decide_eq_true (fun q => absurd ((nJ_eq0 (by have := R4.2.2.2.2.1; omega)).mp q) (by have := R4.2.2.2.1; omega))) ?_
    exact rest _ _ rfl R4 F4 gp4 gj4 o4 (fun t q => by cases q)
  | .inr t, R4, rest =>
    obtain ⟨B4, ⟨t9, t7, t8, t10, t11⟩, t12, hs4⟩ := id R4
    have hkk := tkk_le (T := T) (L := L) (s := t)
    refine E_gf (q := (0, 3)) rfl hh4 rfl t12 ?_
    refine E_ifF rfl (by decide) ?_
    refine E_al rfl N0 ?_
    refine E_gf (q := (0, 4)) rfl hh4 rfl t8 ?_
    refine E_ci 2 rfl (by decide) ?_
    have noJ : okN T L 1 (p + 1) t = false → Ends (pm_at tX9_joinLine) (pm_Rt pm_P (d + 6)) (98, lv2, [], h4, 0, 0) (fun h' r => r = none ∧ HH h' ∧ fr_g JX h h' ∧ RSt T L (bN T L 1 (p + 1) (bJ T L (p + 1) (bl A B j) V1 (.inr t))) h' ∧ (isR (bN T L 1 (p + 1) (bJ T L (p + 1) (bl A B j) V1 (.inr t))) = true → j < 8 ∧ gi h' 84 28 = nJ (j + 1) ∧ gi h' 86 (64 + 2 * j) = nJ V1 ∧ gi h' 86 (64 + 2 * j + 1) = nJ (bV T L 1 (p + 1) (bJ T L (p + 1) (bl A B j) V1 (.inr t))) ∧ ∀ i, i ≠ 64 + 2 * j → i ≠ 64 + 2 * j + 1 → gi h' 86 i = gi h 86 i)) := by
      intro ok
      have eJ : bJ T L (p + 1) (bl A B j) V1 (.inr t) = .inr t := by
        unfold bJ
        dsimp only
        rw [ok]
        rfl
      refine rest _ _ eJ R4 F4 gp4 gj4 o4 (fun t' q ok' => ?_)
      cases q
      rw [ok] at ok'
      cases ok'
    by_cases k2 : tkk T L t = 2
    · obtain ⟨v, v1, v2, v3⟩ := t10 k2
      have vb := Vr_bd (lo := 1) (hi := p + 1) v3 (by omega)
      refine E_icF rfl (decide_eq_false (fun z => z (by rw [k2]))) ?_
      refine E_al rfl N0 ?_
      refine E_gf rfl hh4 rfl v2 ?_
      refine E_i2l rfl ?_
      refine E_c rfl ?_
      refine E_al rfl N0 ?_
      refine E_ci 0 rfl (by decide) ?_
      refine E_call rfl (Sp_le (by omega) (sp_hR (d := d) (k := 0) (v := p) hh4 (by decide) gp4 (by omega))) (chk77 hh4 rfl rfl (by show 4 ≤ 8; decide)) (fun hc rc => ?_)
      rintro ⟨ec, fc⟩
      rw [ec, fc]
      refine E_i2l rfl ?_
      refine E_c rfl ?_
      refine E_lbin rfl ?_
      refine E_call rfl (Sp_le (by omega) (sp_in (d := d) (a := (v : Int)) (b := 1) (c := (p : Int) + 1) (i2l_nJ (by omega)) rfl (i2l_add1 (by omega)))) (chkS rfl (by show 0 ≤ 8; decide)) (fun hd rd => ?_)
      rintro ⟨ed, fd⟩
      rw [ed, fd]
      by_cases b2 : 1 ≤ v ∧ v ≤ p + 1
      · refine E_ifF rfl (by rw [zb_T (by omega)]; rfl) ?_
        have vq := vb.mp b2
        have ev := Vr_eq v3 (hi := p + 1) (by omega) vq.2
        have ok : okN T L 1 (p + 1) t = true := okN_iff.mpr ⟨k2, vq⟩
        refine E_al rfl N0 ?_
        refine E_il rfl K2 ?_
        refine E_al rfl N0 ?_
        refine E_gf rfl hh4 rfl v2 ?_
        refine E_al rfl N0 ?_
        refine E_ci 0 rfl (by decide) ?_
        refine E_call rfl (Sp_le (by omega) (sp_hR (d := d) (k := 0) (v := p) hh4 (by decide) gp4 (by omega))) (chk77 hh4 rfl rfl (by show 3 ≤ 8; decide)) (fun he re => ?_)
        rintro ⟨ee, fe⟩
        rw [ee, fe]
        refine E_ci 1 rfl (by decide) ?_
        refine E_bin rfl (nJ_add _ _) ?_
        refine E_call rfl (Sp_le (by omega) (sp_mj (d := d) (n := p + 1) (x := V1) (y := v) hh4 (by omega) (by omega) (by omega))) (chk77 hh4 rfl rfl (by show 0 ≤ 8; decide)) (fun hf rf => ?_)
        rintro ⟨ef, qf⟩
        rw [ef]
        have me := MAY_eq (n := p + 1) (x := V1) (y := v) l4 (by omega) (by omega) (by omega)
        rw [ev] at me
        rcases qf with ⟨m, q⟩ | ⟨m, q⟩
        · rw [q]
          rw [ev] at m
          refine E_ifT rfl (by decide) ?_
          have mm := me.mp m
          have eJ : bJ T L (p + 1) (bl A B j) V1 (.inr t) = .inr t := by
            unfold bJ
            dsimp only
            rw [mayb_T mm, Bool.not_true, Bool.and_false]
            rfl
          refine rest _ _ eJ R4 F4 gp4 gj4 o4 (fun t' q' _ => ?_)
          cases q'
          exact mm
        · rw [q]
          rw [ev] at m
          refine E_ifF rfl (by decide) ?_
          have eJ : bJ T L (p + 1) (bl A B j) V1 (.inr t) = .inl (2, t) := by
            unfold bJ
            dsimp only
            rw [ok, mayb_F (fun z => m (me.mpr z))]
            rfl
          refine E_al rfl N0 ?_
          refine E_ci 2 rfl (by decide) ?_
          refine E_call rfl (Sp_le (by omega) (sp_fl (d := d) (k := 2) R4 (by omega) (by omega))) (chk77 hh4 rfl rfl (by show 0 ≤ 8; decide)) (fun hg rg => ?_)
          rintro ⟨eg, fg, Rg⟩
          rw [eg]
          refine rest _ _ eJ Rg (fr_trans F4 (fr_wk rfl fg)) (by rw [fr_gi fg (rg_no rfl _)]; exact gp4) (by rw [fr_gi fg (rg_no rfl _)]; exact gj4) (fun i => by rw [fr_gi fg (rg_no rfl _)]; exact o4 i) (fun t' q' => by cases q')
      · refine E_ifT rfl (by rw [zb_F (by omega)]; rfl) ?_
        exact noJ (okN_F (fun q => b2 (vb.mpr q.2)))
    · refine E_icT rfl (decide_eq_true (fun z => k2 ((nJ_eq (by omega) (by omega)).mp z))) ?_
      exact noJ (okN_F (fun q => k2 q.1))
end RL1
end
