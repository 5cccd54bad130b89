section
section CL1
variable {T : Nat → Int32} {L d s : Nat} {h : pm_H}
noncomputable def lnC' (T : Nat → Int32) (L p c s : Nat) : Px := bif Nat.beq c p then .inl (3, s) else (lnC T L p (.inr (nxt T L s))).1
theorem sp_readCar {c p : Nat} (C : CS T L (.inr s) h) (hw : wIs T L s (wd 4) = true) (gc : gi h 4 4 = nJ c) (gp : gi h 4 0 = nJ p) (cp : c ≤ p) (p8 : p ≤ 8) : Sp (d + 7) 30 h [.ref 3] (fun h' r => r = some (.int (zb (isR (lnC' T L p c s) = true))) ∧ fr_g CrF h h' ∧ CS T L (lnC' T L p c s) h' ∧ (isR (lnC' T L p c s) = true → gi h' 4 4 = nJ (c + 1) ∧ (∀ i, i ≠ c → gi h' 5 i = gi h 5 i ∧ gi h' 6 i = gi h 6 i ∧ gi h' 7 i = gi h 7 i) ∧ gi h' 5 c = nJ (lnC T L p (.inr (nxt T L s))).2.1 ∧ gi h' 6 c = nJ (lnC T L p (.inr (nxt T L s))).2.1 ∧ gi h' 7 c = nJ (lnC T L p (.inr (nxt T L s))).2.2)) := by
  refine Sp_of aiX2_readCar rfl rfl rfl ?_
  have L0 : pm_get (lv_args 0 [.ref 3]) 0 = some (.ref 3) := rfl
  generalize lv_args 0 [.ref 3] = lv at L0 ⊢
  have hh : HH h := C.1.1
  refine E_al rfl L0 ?_
  refine E_ogr (q := 4) rfl hh rfl rfl ?_
  refine E_ogf (q := (0, 8)) rfl hh rfl rfl gc ?_
  refine E_al rfl L0 ?_
  refine E_ogr (q := 4) rfl hh rfl rfl ?_
  refine E_ogf (q := (0, 8)) rfl hh rfl rfl gp ?_
  unfold lnC'
  by_cases ecp : c = p
  · rw [nbeq.mpr ecp]
    refine E_icF rfl (decide_eq_false (fun z => absurd ((nJ_lt (by omega) (by omega)).mp z) (by omega))) ?_
    refine E_al rfl L0 ?_
    refine E_ci 3 rfl (by decide) ?_
    refine E_call rfl (Sp_le (by omega) (sp_refuse (d := d) (k := 3) C (by omega) (by omega))) (chkO (a := 3) hh rfl rfl rfl rfl (by show 0 ≤ 8; decide)) (fun h2 r2 => ?_)
    rintro ⟨e2, f2, C2⟩
    rw [e2]
    exact ret_bad2 (F := CrF) rfl (fr_wk rfl f2) C2
  rw [nbeqF ecp]
  refine E_icT rfl (decide_eq_true ((nJ_lt (by omega) (by omega)).mpr (by omega))) ?_
  refine E_al rfl L0 ?_
  refine E_c rfl ?_
  refine E_call rfl (Sp_le (by omega) (sp_tW (d := d) (k := 4) C (by decide))) (chkO (a := 3) hh rfl rfl rfl rfl (by show 0 ≤ 8; decide)) (fun ha ra => ?_)
  rintro ⟨ea, fa, Ca⟩
  rw [bW_T hw] at ea Ca
  rw [isR_r] at ea
  rw [ea]
  refine E_ifF rfl (by decide) ?_
  have Fa : fr_g CrF h ha := fr_wk rfl fa
  have gpa : gi ha 4 0 = nJ p := by rw [fr_gi fa rfl]; exact gp
  generalize nxt T L s = sa at Ca ⊢
  unfold lnC
  dsimp only [cond_false]
  refine E_al rfl L0 ?_
  refine E_c rfl ?_
  refine E_call rfl (Sp_le (by omega) (sp_tW (d := d) (k := 5) Ca (by decide))) (chkO (a := 3) (CS_TA Ca).1 rfl rfl rfl rfl (by show 0 ≤ 8; decide)) (fun h1 r1 => ?_)
  rintro ⟨e1, f1, C1⟩
  cases x1 : bW T L (wd 5) (.inr sa) with
  | inl e =>
    rw [x1] at C1 e1
    rw [isR_l] at e1
    rw [e1]
    refine E_ifT rfl (by decide) ?_
    exact ret_bad (F := CrF) rfl rfl (fr_trans Fa (fr_wk rfl f1)) C1
  | inr s1 =>
    rw [x1] at C1 e1
    rw [isR_r] at e1
    rw [e1]
    refine E_ifF rfl (by decide) ?_
    have F1 : fr_g CrF h h1 := fr_trans Fa (fr_wk rfl f1)
    refine E_al rfl L0 ?_
    refine E_ci 1 rfl (by decide) ?_
    refine E_al rfl L0 ?_
    refine E_ogr (q := 4) rfl (CS_TA C1).1 rfl rfl ?_
    refine E_ogf (q := (0, 8)) (v := nJ p) rfl (CS_TA C1).1 rfl rfl (by rw [fr_gi f1 rfl]; exact gpa) ?_
    refine E_call rfl (Sp_le (by omega) (sp_takeNumber (d := d) (lo := 1) (hi := p) C1 (by omega) (by omega))) (chkO (a := 3) (CS_TA C1).1 rfl rfl rfl rfl (by show 0 ≤ 8; decide)) (fun h2 r2 => ?_)
    rintro ⟨e2, f2, C2, v2⟩
    cases x2 : bN T L 1 p (.inr s1) with
    | inl e =>
      rw [x2] at C2 e2
      rw [isR_l] at e2
      rw [e2]
      refine E_ifF rfl (by decide) ?_
      exact ret_bad (F := CrF) rfl rfl (fr_trans F1 (fr_wk rfl f2)) C2
    | inr s2 =>
      obtain ⟨g2, u2, w2⟩ := v2 (by rw [x2]; rfl)
      rw [x2] at C2 e2
      rw [isR_r] at e2
      rw [e2]
      refine E_ifT rfl (by decide) ?_
      generalize bV T L 1 p (.inr s1) = V2 at g2 u2 w2 ⊢
      have F2 : fr_g CrF h h2 := fr_trans F1 (fr_wk rfl f2)
      refine E_al rfl L0 ?_
      refine E_ogf (q := (0, 99)) rfl (CS_TA C2).1 rfl rfl g2 ?_
      refine E_is rfl (fun lv1 K1 kp => ?_)
      have M0 := kp 0 _ (by decide) rfl L0
      refine E_al rfl M0 ?_
      refine E_c rfl ?_
      refine E_call rfl (Sp_le (by omega) (sp_tW (d := d) (k := 6) C2 (by decide))) (chkO (a := 3) (CS_TA C2).1 rfl rfl rfl rfl (by show 0 ≤ 8; decide)) (fun h3 r3 => ?_)
      rintro ⟨e3, f3, C3⟩
      cases x3 : bW T L (wd 6) (.inr s2) with
      | inl e =>
        rw [x3] at C3 e3
        rw [isR_l] at e3
        rw [e3]
        refine E_ifT rfl (by decide) ?_
        exact ret_bad (F := CrF) rfl rfl (fr_trans F2 (fr_wk rfl f3)) C3
      | inr s3 =>
        rw [x3] at C3 e3
        rw [isR_r] at e3
        rw [e3]
        refine E_ifF rfl (by decide) ?_
        have F3 : fr_g CrF h h3 := fr_trans F2 (fr_wk rfl f3)
        refine E_al rfl M0 ?_
        refine E_ci 0 rfl (by decide) ?_
        refine E_ci 99 rfl (by decide) ?_
        refine E_call rfl (Sp_le (by omega) (sp_takeNumber (d := d) (lo := 0) (hi := 99) C3 (by omega) (by omega))) (chkO (a := 3) (CS_TA C3).1 rfl rfl rfl rfl (by show 0 ≤ 8; decide)) (fun h4 r4 => ?_)
        rintro ⟨e4, f4, C4, v4⟩
        cases x4 : bN T L 0 99 (.inr s3) with
        | inl e =>
          rw [x4] at C4 e4
          rw [isR_l] at e4
          rw [e4]
          refine E_ifF rfl (by decide) ?_
          exact ret_bad (F := CrF) rfl rfl (fr_trans F3 (fr_wk rfl f4)) C4
        | inr s4 =>
          obtain ⟨g4, u4, w4⟩ := v4 (by rw [x4]; rfl)
          rw [x4] at C4 e4
          rw [isR_r] at e4
          rw [e4]
          refine E_ifT rfl (by decide) ?_
          generalize bV T L 0 99 (.inr s3) = V4 at g4 u4 w4 ⊢
          have F4 : fr_g CrF h h4 := fr_trans F3 (fr_wk rfl f4)
          refine E_al rfl M0 ?_
          refine E_ogr (q := 4) rfl (CS_TA C4).1 rfl rfl ?_
          refine E_il rfl K1 ?_
          refine E_al rfl M0 ?_
          refine E_ogf (q := (0, 99)) rfl (CS_TA C4).1 rfl rfl g4 ?_
          have gc4 : gi h4 4 4 = nJ c := by rw [fr_gi f4 rfl, fr_gi f3 rfl, fr_gi f2 rfl, fr_gi f1 rfl, fr_gi fa rfl]; exact gc
          refine E_call rfl (Sp_le (by omega) (sp_addCar (d := d) (CS_TA C4).1 gc4 (by omega) (by omega) w4)) (chkO (a := 4) (CS_TA C4).1 rfl rfl rfl rfl (by show 0 ≤ 8; decide)) (fun hz rz => ?_)
          rintro ⟨ez, hhz, ez2⟩
          rw [ez]
          refine E_ci 1 rfl (by decide) ?_
          have keep : ∀ a i, a = 5 ∨ a = 6 ∨ a = 7 → gi h4 a i = gi h a i := fun a i ha => by
            rcases ha with rfl | rfl | rfl <;> rw [fr_gi f4 (rg_no rfl _), fr_gi f3 (rg_no rfl _), fr_gi f2 (rg_no rfl _), fr_gi f1 (rg_no rfl _), fr_gi fa (rg_no rfl _)]
          have k1 : HH (pt h4 5 c (nJ V2)) := HH_ptn (CS_TA C4).1 (bd_u rfl (by omega)) (by omega) (by omega) (by omega)
          have k2 : HH (pt (pt h4 5 c (nJ V2)) 6 c (nJ V2)) := HH_ptn k1 (bd_u rfl (by omega)) (by omega) (by omega) (by omega)
          have k3 : HH (pt (pt (pt h4 5 c (nJ V2)) 6 c (nJ V2)) 7 c (nJ V4)) := HH_ptn k2 (bd_u rfl (by omega)) (by omega) (by omega) (by omega)
          have Cz : CS T L (.inr s4) hz := by
            rw [ez2] at hhz ⊢
            exact CS_pt (by omega) hhz (CS_pt (by omega) k3 (CS_pt (by omega) k2 (CS_pt (by omega) k1 C4)))
          refine E_rtz rfl (.inr rfl) ⟨by rw [isR_r], ?_, Cz, fun _ => ?_⟩
          · rw [ez2]
            exact fr_ptr (l := 4) (u := 4) rfl (by omega) (by omega) (fr_ptr (l := 0) (u := 7) rfl (by omega) (by omega) (fr_ptr (l := 0) (u := 7) rfl (by omega) (by omega) (fr_ptr (l := 0) (u := 7) rfl (by omega) (by omega) F4)))
          · rw [ez2]
            refine ⟨gi_ptn k3 rfl (by omega) (by omega) (by omega), fun i hi => ⟨?_, ?_, ?_⟩, ?_, ?_, ?_⟩
            · rw [gi_ne (by omega), gi_ne (by omega), gi_ne (by omega), gi_ne (fun _ => hi)]; exact keep 5 i (.inl rfl)
            · rw [gi_ne (by omega), gi_ne (by omega), gi_ne (fun _ => hi), gi_ne (by omega)]; exact keep 6 i (.inr (.inl rfl))
            · rw [gi_ne (by omega), gi_ne (fun _ => hi), gi_ne (by omega), gi_ne (by omega)]; exact keep 7 i (.inr (.inr rfl))
            · rw [gi_ne (by omega), gi_ne (by omega), gi_ne (by omega)]; exact gi_ptn (CS_TA C4).1 (bd_u rfl (by omega)) (by omega) (by omega) (by omega)
            · rw [gi_ne (by omega), gi_ne (by omega)]; exact gi_ptn k1 (bd_u rfl (by omega)) (by omega) (by omega) (by omega)
            · rw [gi_ne (by omega)]; exact gi_ptn k2 (bd_u rfl (by omega)) (by omega) (by omega) (by omega)
theorem sp_readJoin {p j : Nat} {b : Nat → Nat} (C : CS T L (.inr s) h) (gp : gi h 4 0 = nJ p) (gj : gi h 4 5 = nJ j) (p1 : 1 ≤ p) (p8 : p ≤ 8) (M : MK (p + 1) b h) (hb : ∀ k, 1 ≤ k → k ≤ p + 1 → 1 ≤ b k) (N : NC b (p + 1)) (hj : ∀ x y, 1 ≤ x → x ≤ p + 1 → 1 ≤ y → y ≤ p + 1 → b x ≠ b y → j < 8) : Sp (d + 7) 33 h [.ref 3] (fun h' r => r = some (.int (zb (isR (lnJ T L (p + 1) b (bW T L (wd 7) (.inr s))).1 = true))) ∧ fr_g JnF h h' ∧ CS T L (lnJ T L (p + 1) b (bW T L (wd 7) (.inr s))).1 h' ∧ (isR (lnJ T L (p + 1) b (bW T L (wd 7) (.inr s))).1 = true → j < 8 ∧ gi h' 4 5 = nJ (j + 1) ∧ (∀ i, i ≠ j → gi h' 8 i = gi h 8 i ∧ gi h' 9 i = gi h 9 i) ∧ gi h' 8 j = nJ (lnJ T L (p + 1) b (bW T L (wd 7) (.inr s))).2.1 ∧ gi h' 9 j = nJ (lnJ T L (p + 1) b (bW T L (wd 7) (.inr s))).2.2 ∧ MK (p + 1) (mg b (lnJ T L (p + 1) b (bW T L (wd 7) (.inr s))).2.1 (lnJ T L (p + 1) b (bW T L (wd 7) (.inr s))).2.2) h')) := by
  refine Sp_of aiX2_readJoin rfl rfl rfl ?_
  have L0 : pm_get (lv_args 0 [.ref 3]) 0 = some (.ref 3) := rfl
  generalize lv_args 0 [.ref 3] = lv at L0 ⊢
  unfold lnJ
  dsimp only
  refine E_al rfl L0 ?_
  refine E_c rfl ?_
  refine E_call rfl (Sp_le (by omega) (sp_tW (d := d) (k := 7) C (by decide))) (chkO (a := 3) (CS_TA C).1 rfl rfl rfl rfl (by show 0 ≤ 8; decide)) (fun h1 r1 => ?_)
  rintro ⟨e1, f1, C1⟩
  cases x1 : bW T L (wd 7) (.inr s) with
  | inl e =>
    rw [x1] at C1 e1
    rw [isR_l] at e1
    rw [e1]
    refine E_ifT rfl (by decide) ?_
    exact ret_bad (F := JnF) rfl rfl (fr_trans (fr_rf _ _) (fr_wk rfl f1)) C1
  | inr s1 =>
    rw [x1] at C1 e1
    rw [isR_r] at e1
    rw [e1]
    refine E_ifF rfl (by decide) ?_
    have F1 : fr_g JnF h h1 := fr_trans (fr_rf _ _) (fr_wk rfl f1)
    refine E_al rfl L0 ?_
    refine E_ci 1 rfl (by decide) ?_
    refine E_al rfl L0 ?_
    refine E_ogr (q := 4) rfl (CS_TA C1).1 rfl rfl ?_
    refine E_ogf (q := (0, 8)) (v := nJ p) rfl (CS_TA C1).1 rfl rfl (by rw [fr_gi f1 rfl]; exact gp) ?_
    refine E_ci 1 rfl (by decide) ?_
    refine E_bin rfl (nJ_add _ _) ?_
    refine E_call rfl (Sp_le (by omega) (sp_takeNumber (d := d) (lo := 1) (hi := p + 1) C1 (by omega) (by omega))) (chkO (a := 3) (CS_TA C1).1 rfl rfl rfl rfl (by show 0 ≤ 8; decide)) (fun h2 r2 => ?_)
    rintro ⟨e2, f2, C2, v2⟩
    cases x2 : bN T L 1 (p + 1) (.inr s1) with
    | inl e =>
      rw [x2] at C2 e2
      rw [isR_l] at e2
      rw [e2]
      refine E_ifF rfl (by decide) ?_
      exact ret_bad (F := JnF) rfl rfl (fr_trans F1 (fr_wk rfl f2)) C2
    | inr s2 =>
      obtain ⟨g2, u2, w2⟩ := v2 (by rw [x2]; rfl)
      rw [x2] at C2 e2
      rw [isR_r] at e2
      rw [e2]
      refine E_ifT rfl (by decide) ?_
      generalize bV T L 1 (p + 1) (.inr s1) = V2 at g2 u2 w2 ⊢
      have F2 : fr_g JnF h h2 := fr_trans F1 (fr_wk rfl f2)
      refine E_al rfl L0 ?_
      refine E_ogf (q := (0, 99)) rfl (CS_TA C2).1 rfl rfl g2 ?_
      refine E_is rfl (fun lv1 K1 kp => ?_)
      have M0 := kp 0 _ (by decide) rfl L0
      obtain ⟨A2, ⟨c6, c7, c5, c8⟩, c1, c2, hs2⟩ := id C2
      have hh2 : HH h2 := A2.1
      have hkk := tkk_le (T := T) (L := L) (s := s2)
      have M2 : MK (p + 1) b h2 := ⟨by rw [fr_gi f2 rfl, fr_gi f1 rfl]; exact M.1, M.2.1, M.2.2.1, fun k a c => by rw [fr_gi f2 (rg_no rfl _), fr_gi f1 (rg_no rfl _)]; exact M.2.2.2 k a c⟩
      refine E_al rfl M0 ?_
      refine E_ogf (q := (0, 4)) rfl hh2 rfl rfl c5 ?_
      refine E_ci 2 rfl (by decide) ?_
      /- the second number -/
      have rest : bJ T L (p + 1) b V2 (.inr s2) = .inr s2 → (okN T L 1 (p + 1) s2 = true → MAY (p + 1) b V2 (tkv T L s2)) → Ends (pm_at tX2_readJoin) (pm_Rt pm_P (d + 6)) (62, lv1, [], h2, 0, 0) (fun h' r => r = some (.int (zb (isR (bN T L 1 (p + 1) (.inr s2)) = true))) ∧ fr_g JnF h h' ∧ CS T L (bN T L 1 (p + 1) (.inr s2)) h' ∧ (isR (bN T L 1 (p + 1) (.inr s2)) = true → j < 8 ∧ gi h' 4 5 = nJ (j + 1) ∧ (∀ i, i ≠ j → gi h' 8 i = gi h 8 i ∧ gi h' 9 i = gi h 9 i) ∧ gi h' 8 j = nJ V2 ∧ gi h' 9 j = nJ (bV T L 1 (p + 1) (.inr s2)) ∧ MK (p + 1) (mg b V2 (bV T L 1 (p + 1) (.inr s2))) h')) := by
        intro _ may
        refine E_al rfl M0 ?_
        refine E_ci 1 rfl (by decide) ?_
        refine E_al rfl M0 ?_
        refine E_ogr (q := 4) rfl hh2 rfl rfl ?_
        refine E_ogf (q := (0, 8)) (v := nJ p) rfl hh2 rfl rfl (by rw [fr_gi f2 rfl, fr_gi f1 rfl]; exact gp) ?_
        refine E_ci 1 rfl (by decide) ?_
        refine E_bin rfl (nJ_add _ _) ?_
        refine E_call rfl (Sp_le (by omega) (sp_takeNumber (d := d) (lo := 1) (hi := p + 1) C2 (by omega) (by omega))) (chkO (a := 3) (CS_TA C2).1 rfl rfl rfl rfl (by show 0 ≤ 8; decide)) (fun h3 r3 => ?_)
        rintro ⟨e3, f3, C3, v3⟩
        cases x3 : bN T L 1 (p + 1) (.inr s2) with
        | inl e =>
          rw [x3] at C3 e3
          rw [isR_l] at e3
          rw [e3]
          refine E_ifF rfl (by decide) ?_
          exact ret_bad (F := JnF) rfl rfl (fr_trans F2 (fr_wk rfl f3)) C3
        | inr s3 =>
          obtain ⟨g3, u3, w3⟩ := v3 (by rw [x3]; rfl)
          rw [x3] at C3 e3
          rw [isR_r] at e3
          rw [e3]
          refine E_ifT rfl (by decide) ?_
          obtain ⟨t3, q3, ok3, -⟩ := bN_in x3
          cases q3
          have mm : MAY (p + 1) b V2 (bV T L 1 (p + 1) (.inr s2)) := by rw [(bN_T ok3).2]; exact may ok3
          generalize bV T L 1 (p + 1) (.inr s2) = V3 at g3 u3 w3 mm ⊢
          have F3 : fr_g JnF h h3 := fr_trans F2 (fr_wk rfl f3)
          have j8 := hj V2 V3 u2 w2 u3 w3 mm.1
          have M3 : MK (p + 1) b h3 := ⟨by rw [fr_gi f3 rfl]; exact M2.1, M2.2.1, M2.2.2.1, fun k a c => by rw [fr_gi f3 (rg_no rfl _)]; exact M2.2.2.2 k a c⟩
          refine E_al rfl M0 ?_
          refine E_ogr (q := 13) rfl (CS_TA C3).1 rfl rfl ?_
          refine E_il rfl K1 ?_
          refine E_al rfl M0 ?_
          refine E_ogf (q := (0, 99)) rfl (CS_TA C3).1 rfl rfl g3 ?_
          refine E_call rfl (Sp_le (by omega) (sp_join (d := d) (CS_TA C3).1 M3 u2 w2 u3 w3)) (chkO (a := 13) (CS_TA C3).1 rfl rfl rfl rfl (by show 0 ≤ 8; decide)) (fun h4 r4 => ?_)
          rintro ⟨e4, hh4, f4, M4⟩
          rw [e4]
          have C4 := CS_frm f4 rfl rfl rfl hh4 C3
          refine E_al rfl M0 ?_
          refine E_ogr (q := 4) rfl hh4 rfl rfl ?_
          refine E_il rfl K1 ?_
          refine E_al rfl M0 ?_
          refine E_ogf (q := (0, 99)) (v := nJ V3) rfl hh4 rfl rfl (by rw [fr_gi f4 rfl]; exact g3) ?_
          have gj4 : gi h4 4 5 = nJ j := by rw [fr_gi f4 rfl, fr_gi f3 rfl, fr_gi f2 rfl, fr_gi f1 rfl]; exact gj
          refine E_call rfl (Sp_le (by omega) (sp_addJoin (d := d) hh4 gj4 j8 (by omega) (by omega))) (chkO (a := 4) hh4 rfl rfl rfl rfl (by show 0 ≤ 8; decide)) (fun hz rz => ?_)
          rintro ⟨ez, hhz, ez2⟩
          rw [ez]
          refine E_ci 1 rfl (by decide) ?_
          have keep : ∀ a i, a = 8 ∨ a = 9 → gi h4 a i = gi h a i := fun a i ha => by
            rcases ha with rfl | rfl <;> rw [fr_gi f4 (rg_no rfl _), fr_gi f3 (rg_no rfl _), fr_gi f2 (rg_no rfl _), fr_gi f1 (rg_no rfl _)]
          have k1 : HH (pt h4 8 j (nJ V2)) := HH_ptn hh4 (bd_u rfl (by omega)) (by omega) (by omega) (by omega)
          have k2 : HH (pt (pt h4 8 j (nJ V2)) 9 j (nJ V3)) := HH_ptn k1 (bd_u rfl (by omega)) (by omega) (by omega) (by omega)
          have Cz : CS T L (.inr s3) hz := by
            rw [ez2] at hhz ⊢
            exact CS_pt (by omega) hhz (CS_pt (by omega) k2 (CS_pt (by omega) k1 C4))
          refine E_rtz rfl (.inr rfl) ⟨by rw [isR_r], ?_, Cz, fun _ => ?_⟩
          · rw [ez2]
            exact fr_ptr (l := 5) (u := 5) rfl (by omega) (by omega) (fr_ptr (l := 0) (u := 7) rfl (by omega) (by omega) (fr_ptr (l := 0) (u := 7) rfl (by omega) (by omega) (fr_trans F3 (fr_wk rfl f4))))
          · rw [ez2]
            refine ⟨j8, gi_ptn k2 rfl (by omega) (by omega) (by omega), fun i hi => ⟨?_, ?_⟩, ?_, ?_, ?_, M4.2.1, M4.2.2.1, fun k a c => ?_⟩
            · rw [gi_ne (by omega), gi_ne (by omega), gi_ne (fun _ => hi)]; exact keep 8 i (.inl rfl)
            · rw [gi_ne (by omega), gi_ne (fun _ => hi), gi_ne (by omega)]; exact keep 9 i (.inr rfl)
            · rw [gi_ne (by omega), gi_ne (by omega)]; exact gi_ptn hh4 (bd_u rfl (by omega)) (by omega) (by omega) (by omega)
            · rw [gi_ne (by omega)]; exact gi_ptn k1 (bd_u rfl (by omega)) (by omega) (by omega) (by omega)
            · rw [gi_ne (by omega), gi_ne (by omega), gi_ne (by omega)]; exact M4.1
            · rw [gi_ne (by omega), gi_ne (by omega), gi_ne (by omega)]; exact M4.2.2.2 k a c
      by_cases b1 : tkk T L s2 = 2
      · obtain ⟨v, v1, v2, v3⟩ := c8 b1
        refine E_icF rfl (decide_eq_false (fun z => z (by rw [b1]))) ?_
        refine E_al rfl M0 ?_
        refine E_ogr (q := 13) rfl hh2 rfl rfl ?_
        refine E_il rfl K1 ?_
        refine E_al rfl M0 ?_
        refine E_ogf rfl hh2 rfl rfl v2 ?_
        refine E_call rfl (Sp_le (by omega) (sp_joinable (d := d) hh2 M2 hb N u2 w2 v1)) (chkO (a := 13) hh2 rfl rfl rfl rfl (by show 0 ≤ 8; decide)) (fun h4 r4 => ?_)
        rintro ⟨e4, q4⟩
        rw [e4]
        have vb := Vr_bd (lo := 1) (hi := p + 1) v3 (by omega)
        rcases q4 with ⟨⟨y1, y2, y3⟩, e5⟩ | ⟨y, e5⟩
        · rw [e5]
          refine E_ifT rfl (by decide) ?_
          have vq := vb.mp ⟨y1, y2⟩
          have ev := Vr_eq v3 (hi := p + 1) (by omega) vq.2
          rw [ev] at y3
          have eJ : bJ T L (p + 1) b V2 (.inr s2) = .inr s2 := by
            unfold bJ
            dsimp only
            rw [mayb_T y3, Bool.not_true, Bool.and_false]
            rfl
          rw [eJ]
          exact rest eJ (fun _ => y3)
        · rw [e5]
          refine E_ifF rfl (by decide) ?_
          have eX : bN T L 1 (p + 1) (bJ T L (p + 1) b V2 (.inr s2)) = .inl (2, s2) := by
            cases ok : okN T L 1 (p + 1) s2 with
            | true =>
              have o := okN_iff.mp ok
              have ev := Vr_eq v3 (hi := p + 1) (by omega) o.2.2
              have nm : ¬ MAY (p + 1) b V2 (tkv T L s2) := fun m => y ⟨by omega, by omega, by rw [ev]; exact m⟩
              unfold bJ
              dsimp only
              rw [ok, mayb_F nm]
              rfl
            | false =>
              have nr : ¬ (1 ≤ tkv T L s2 ∧ tkv T L s2 ≤ p + 1) := fun q => by rw [okN_iff.mpr ⟨b1, q⟩] at ok; cases ok
              unfold bJ
              dsimp only
              rw [ok]
              exact (bN_2 b1 nr).1
          rw [eX]
          refine E_al rfl M0 ?_
          refine E_ci 2 rfl (by decide) ?_
          refine E_call rfl (Sp_le (by omega) (sp_refuse (d := d) (k := 2) C2 (by omega) (by omega))) (chkO (a := 3) hh2 rfl rfl rfl rfl (by show 0 ≤ 8; decide)) (fun h5 r5 => ?_)
          rintro ⟨e6, f6, C6⟩
          rw [e6]
          exact ret_bad2 (F := JnF) rfl (fr_trans F2 (fr_wk rfl f6)) C6
      · refine E_icT rfl (decide_eq_true (fun z => b1 ((nJ_eq (by omega) (by omega)).mp z))) ?_
        have okf : okN T L 1 (p + 1) s2 = false := okN_F (fun q => b1 q.1)
        have eJ : bJ T L (p + 1) b V2 (.inr s2) = .inr s2 := by
          unfold bJ
          dsimp only
          rw [okf]
          rfl
        rw [eJ]
        exact rest eJ (fun ok => by rw [okf] at ok; cases ok)
end CL1
end
section
/-! the class's reading of a whole text (wants t49) -/
end
