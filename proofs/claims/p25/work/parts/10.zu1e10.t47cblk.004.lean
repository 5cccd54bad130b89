section
section CL0
variable {T : Nat → Int32} {L d s k : Nat} {h : pm_H} {x : Px}
theorem sp_addCar {c w t : Nat} (hh : HH h) (gc : gi h 4 4 = nJ c) (hc : c < 8) (hw : w ≤ 8) (ht : t ≤ 99) : Sp (d + 1) 48 h [.ref 4, .int (nJ w), .int (nJ t)] (fun h' r => r = none ∧ HH h' ∧ h' = pt (pt (pt (pt h 5 c (nJ w)) 6 c (nJ w)) 7 c (nJ t)) 4 4 (nJ (c + 1))) := by
  refine Sp_of aiX5_addCar rfl rfl rfl ?_
  have L0 : pm_get (lv_args 0 [.ref 4, .int (nJ w), .int (nJ t)]) 0 = some (.ref 4) := rfl
  have L1 : pm_get (lv_args 0 [.ref 4, .int (nJ w), .int (nJ t)]) 1 = some (.int (nJ w)) := rfl
  have L2 : pm_get (lv_args 0 [.ref 4, .int (nJ w), .int (nJ t)]) 2 = some (.int (nJ t)) := rfl
  generalize lv_args 0 [.ref 4, .int (nJ w), .int (nJ t)] = lv at L0 L1 L2 ⊢
  refine E_al rfl L0 ?_
  refine E_ogf (q := (0, 8)) rfl hh rfl rfl gc ?_
  refine E_ci 8 rfl (by decide) ?_
  refine E_icF rfl (decide_eq_false (fun z => absurd ((nJ_le (by omega) (by omega)).mp z) (by omega))) ?_
  have h1 : HH (pt h 5 c (nJ w)) := HH_ptn hh (bd_u rfl (by omega)) (by omega) (by omega) (by omega)
  have h2 : HH (pt (pt h 5 c (nJ w)) 6 c (nJ w)) := HH_ptn h1 (bd_u rfl (by omega)) (by omega) (by omega) (by omega)
  have h3 : HH (pt (pt (pt h 5 c (nJ w)) 6 c (nJ w)) 7 c (nJ t)) := HH_ptn h2 (bd_u rfl (by omega)) (by omega) (by omega) (by omega)
  have h4 : HH (pt (pt (pt (pt h 5 c (nJ w)) 6 c (nJ w)) 7 c (nJ t)) 4 4 (nJ (c + 1))) := HH_ptn h3 rfl (by omega) (by omega) (by omega)
  refine E_al rfl L0 ?_
  refine E_ogr (q := 5) rfl hh rfl rfl ?_
  refine E_al rfl L0 ?_
  refine E_ogf (q := (0, 8)) rfl hh rfl rfl gc ?_
  refine E_il rfl L1 ?_
  refine E_ias rfl hh rfl (by omega) (by decide) ?_
  refine E_al rfl L0 ?_
  refine E_ogr (q := 6) rfl h1 rfl rfl ?_
  refine E_al rfl L0 ?_
  refine E_ogf (q := (0, 8)) (v := nJ c) rfl h1 rfl rfl (by rw [gi_ne (by omega)]; exact gc) ?_
  refine E_il rfl L1 ?_
  refine E_ias rfl h1 rfl (by omega) (by decide) ?_
  refine E_al rfl L0 ?_
  refine E_ogr (q := 7) rfl h2 rfl rfl ?_
  refine E_al rfl L0 ?_
  refine E_ogf (q := (0, 8)) (v := nJ c) rfl h2 rfl rfl (by rw [gi_ne (by omega), gi_ne (by omega)]; exact gc) ?_
  refine E_il rfl L2 ?_
  refine E_ias rfl h2 rfl (by omega) (by decide) ?_
  refine E_al rfl L0 ?_
  refine E_dup rfl rfl ?_
  refine E_ogf (q := (0, 8)) (v := nJ c) rfl h3 rfl rfl (by rw [gi_ne (by omega), gi_ne (by omega), gi_ne (by omega)]; exact gc) ?_
  refine E_ci 1 rfl (by decide) ?_
  refine E_bin rfl (nJ_add _ _) ?_
  refine E_opf (q := (0, 8)) rfl h3 rfl rfl ?_
  exact E_ret rfl ⟨rfl, h4, rfl⟩
theorem sp_addJoin {j a b : Nat} (hh : HH h) (gj : gi h 4 5 = nJ j) (hj : j < 8) (ha : a ≤ 9) (hb : b ≤ 9) : Sp (d + 1) 49 h [.ref 4, .int (nJ a), .int (nJ b)] (fun h' r => r = none ∧ HH h' ∧ h' = pt (pt (pt h 8 j (nJ a)) 9 j (nJ b)) 4 5 (nJ (j + 1))) := by
  refine Sp_of aiX5_addJoin rfl rfl rfl ?_
  have L0 : pm_get (lv_args 0 [.ref 4, .int (nJ a), .int (nJ b)]) 0 = some (.ref 4) := rfl
  have L1 : pm_get (lv_args 0 [.ref 4, .int (nJ a), .int (nJ b)]) 1 = some (.int (nJ a)) := rfl
  have L2 : pm_get (lv_args 0 [.ref 4, .int (nJ a), .int (nJ b)]) 2 = some (.int (nJ b)) := rfl
  generalize lv_args 0 [.ref 4, .int (nJ a), .int (nJ b)] = lv at L0 L1 L2 ⊢
  refine E_al rfl L0 ?_
  refine E_ogf (q := (0, 8)) rfl hh rfl rfl gj ?_
  refine E_ci 8 rfl (by decide) ?_
  refine E_icF rfl (decide_eq_false (fun z => absurd ((nJ_le (by omega) (by omega)).mp z) (by omega))) ?_
  have h1 : HH (pt h 8 j (nJ a)) := HH_ptn hh (bd_u rfl (by omega)) (by omega) (by omega) (by omega)
  have h2 : HH (pt (pt h 8 j (nJ a)) 9 j (nJ b)) := HH_ptn h1 (bd_u rfl (by omega)) (by omega) (by omega) (by omega)
  have h3 : HH (pt (pt (pt h 8 j (nJ a)) 9 j (nJ b)) 4 5 (nJ (j + 1))) := HH_ptn h2 rfl (by omega) (by omega) (by omega)
  refine E_al rfl L0 ?_
  refine E_ogr (q := 8) rfl hh rfl rfl ?_
  refine E_al rfl L0 ?_
  refine E_ogf (q := (0, 8)) rfl hh rfl rfl gj ?_
  refine E_il rfl L1 ?_
  refine E_ias rfl hh rfl (by omega) (by decide) ?_
  refine E_al rfl L0 ?_
  refine E_ogr (q := 9) rfl h1 rfl rfl ?_
  refine E_al rfl L0 ?_
  refine E_ogf (q := (0, 8)) (v := nJ j) rfl h1 rfl rfl (by rw [gi_ne (by omega)]; exact gj) ?_
  refine E_il rfl L2 ?_
  refine E_ias rfl h1 rfl (by omega) (by decide) ?_
  refine E_al rfl L0 ?_
  refine E_dup rfl rfl ?_
  refine E_ogf (q := (0, 8)) (v := nJ j) rfl h2 rfl rfl (by rw [gi_ne (by omega), gi_ne (by omega)]; exact gj) ?_
  refine E_ci 1 rfl (by decide) ?_
  refine E_bin rfl (nJ_add _ _) ?_
  refine E_opf (q := (0, 8)) rfl h2 rfl rfl ?_
  exact E_ret rfl ⟨rfl, h3, rfl⟩
theorem ret_bad {look : Nat → Option pm_I} {call : pm_Call} {pc n : Nat} {lv : List (Nat × Value)} {z : Nat × Nat} {e : Nat × Nat} {F : List Rng} {h0 : pm_H} {P : pm_H → Prop} (h1 : look pc = some (.inl (s_const (.int 0) n))) (h2 : look n = some (.inr (.inr 2))) (f : fr_g F h0 h) (C : CS T L (.inl e) h) : Ends look call (pc, lv, [], h, z) (fun h' r => r = some (.int (zb (isR (.inl e) = true))) ∧ fr_g F h0 h' ∧ CS T L (.inl e) h' ∧ (isR (.inl e) = true → P h')) := by
  refine E_ci 0 h1 (by decide) ?_
  exact E_rtz h2 (.inl rfl) ⟨by rw [isR_l], f, C, fun q => by cases q⟩
theorem ret_bad2 {look : Nat → Option pm_I} {call : pm_Call} {pc : Nat} {lv : List (Nat × Value)} {z : Nat × Nat} {e : Nat × Nat} {F : List Rng} {h0 : pm_H} {P : pm_H → Prop} (h2 : look pc = some (.inr (.inr 2))) (f : fr_g F h0 h) (C : CS T L (.inl e) h) : Ends look call (pc, lv, [.int (nJ 0)], h, z) (fun h' r => r = some (.int (zb (isR (.inl e) = true))) ∧ fr_g F h0 h' ∧ CS T L (.inl e) h' ∧ (isR (.inl e) = true → P h')) :=
  E_rtz h2 (.inl rfl) ⟨by rw [isR_l], f, C, fun q => by cases q⟩
end CL0
noncomputable def HdF : List Rng := [(3, 1, 2), (3, 5, 9), (4, 0, 2), (13, 1, 1), (14, 0, 9)]
noncomputable def CrF : List Rng := [(3, 1, 2), (3, 5, 9), (4, 4, 4), (5, 0, 7), (6, 0, 7), (7, 0, 7)]
noncomputable def JnF : List Rng := [(3, 1, 2), (3, 5, 9), (4, 5, 5), (8, 0, 7), (9, 0, 7), (14, 0, 9)]
section CL1
variable {T : Nat → Int32} {L d s : Nat} {h : pm_H}
theorem sp_readHead (C : CS T L (.inr s) h) : Sp (d + 7) 32 h [.ref 3] (fun h' r => r = some (.int (zb (isR (lnH T L (.inr s)).1 = true))) ∧ fr_g HdF h h' ∧ CS T L (lnH T L (.inr s)).1 h' ∧ (isR (lnH T L (.inr s)).1 = true → gi h' 4 0 = nJ (lnH T L (.inr s)).2.1 ∧ gi h' 4 1 = nJ (lnH T L (.inr s)).2.2.1 ∧ gi h' 4 2 = nJ (lnH T L (.inr s)).2.2.2 ∧ MK ((lnH T L (.inr s)).2.1 + 1) (fun k => k) h')) := by
  refine Sp_of aiX2_readHead rfl rfl rfl ?_
  have L0 : pm_get (lv_args 0 [.ref 3]) 0 = some (.ref 3) := rfl
  generalize lv_args 0 [.ref 3] = lv at L0 ⊢
  unfold lnH
  dsimp only
  refine E_al rfl L0 ?_
  refine E_c rfl ?_
  refine E_call rfl (Sp_le (by omega) (sp_tW (d := d) (k := 0) C (by decide))) (chkO (a := 3) (CS_TA C).1 rfl rfl rfl rfl (by show 0 ≤ 8; decide)) (fun h1 r1 => ?_)
  rintro ⟨e1, f1, C1⟩
  cases x1 : bW T L (wd 0) (.inr s) with
  | inl e =>
    rw [x1] at C1 e1
    rw [isR_l] at e1
    rw [e1]
    refine E_ifT rfl (by decide) ?_
    exact ret_bad (F := HdF) rfl rfl (fr_trans (fr_rf _ _) (fr_wk rfl f1)) C1
  | inr s1 =>
    rw [x1] at C1 e1
    rw [isR_r] at e1
    rw [e1]
    refine E_ifF rfl (by decide) ?_
    have F1 : fr_g HdF h h1 := fr_trans (fr_rf _ _) (fr_wk rfl f1)
    refine E_al rfl L0 ?_
    refine E_c rfl ?_
    refine E_call rfl (Sp_le (by omega) (sp_tW (d := d) (k := 1) C1 (by decide))) (chkO (a := 3) (CS_TA C1).1 rfl rfl rfl rfl (by show 0 ≤ 8; decide)) (fun h2 r2 => ?_)
    rintro ⟨e2, f2, C2⟩
    cases x2 : bW T L (wd 1) (.inr s1) with
    | inl e =>
      rw [x2] at C2 e2
      rw [isR_l] at e2
      rw [e2]
      refine E_ifT rfl (by decide) ?_
      exact ret_bad (F := HdF) rfl rfl (fr_trans F1 (fr_wk rfl f2)) C2
    | inr s2 =>
      rw [x2] at C2 e2
      rw [isR_r] at e2
      rw [e2]
      refine E_ifF rfl (by decide) ?_
      have F2 : fr_g HdF h h2 := fr_trans F1 (fr_wk rfl f2)
      refine E_al rfl L0 ?_
      refine E_ci 1 rfl (by decide) ?_
      refine E_ci 8 rfl (by decide) ?_
      refine E_call rfl (Sp_le (by omega) (sp_takeNumber (d := d) (lo := 1) (hi := 8) C2 (by omega) (by omega))) (chkO (a := 3) (CS_TA C2).1 rfl rfl rfl rfl (by show 0 ≤ 8; decide)) (fun h3 r3 => ?_)
      rintro ⟨e3, f3, C3, v3⟩
      cases x3 : bN T L 1 8 (.inr s2) with
      | inl e =>
        rw [x3] at C3 e3
        rw [isR_l] at e3
        rw [e3]
        refine E_ifF rfl (by decide) ?_
        exact ret_bad (F := HdF) rfl rfl (fr_trans F2 (fr_wk rfl f3)) C3
      | inr s3 =>
        obtain ⟨g3, u3, w3⟩ := v3 (by rw [x3]; rfl)
        rw [x3] at C3 e3
        rw [isR_r] at e3
        rw [e3]
        refine E_ifT rfl (by decide) ?_
        generalize bV T L 1 8 (.inr s2) = V3 at g3 u3 w3 ⊢
        have F3 : fr_g HdF h h3 := fr_trans F2 (fr_wk rfl f3)
        refine E_al rfl L0 ?_
        refine E_ogr (q := 4) rfl (CS_TA C3).1 rfl rfl ?_
        refine E_al rfl L0 ?_
        refine E_ogf (q := (0, 99)) rfl (CS_TA C3).1 rfl rfl g3 ?_
        refine E_opf (q := (0, 8)) rfl (CS_TA C3).1 rfl rfl ?_
        have hp0 : HH (pt h3 4 0 (nJ V3)) := HH_ptn (CS_TA C3).1 rfl (by omega) (by omega) (by omega)
        have D0 := CS_pt (by omega) hp0 C3
        have G0 : gi (pt h3 4 0 (nJ V3)) 4 0 = nJ V3 := gi_ptn (CS_TA C3).1 rfl (by omega) (by omega) (by omega)
        have FF0 : fr_g HdF h (pt h3 4 0 (nJ V3)) := fr_ptr (l := 0) (u := 2) rfl (by omega) (by omega) F3
        generalize pt h3 4 0 (nJ V3) = hq0 at hp0 D0 G0 FF0 ⊢
        refine E_al rfl L0 ?_
        refine E_c rfl ?_
        refine E_call rfl (Sp_le (by omega) (sp_tW (d := d) (k := 2) D0 (by decide))) (chkO (a := 3) (CS_TA D0).1 rfl rfl rfl rfl (by show 0 ≤ 8; decide)) (fun h4 r4 => ?_)
        rintro ⟨e4, f4, C4⟩
        cases x4 : bW T L (wd 2) (.inr s3) with
        | inl e =>
          rw [x4] at C4 e4
          rw [isR_l] at e4
          rw [e4]
          refine E_ifT rfl (by decide) ?_
          exact ret_bad (F := HdF) rfl rfl (fr_trans FF0 (fr_wk rfl f4)) C4
        | inr s4 =>
          rw [x4] at C4 e4
          rw [isR_r] at e4
          rw [e4]
          refine E_ifF rfl (by decide) ?_
          have F4 : fr_g HdF h h4 := fr_trans FF0 (fr_wk rfl f4)
          refine E_al rfl L0 ?_
          refine E_ci 0 rfl (by decide) ?_
          refine E_ci 3 rfl (by decide) ?_
          refine E_call rfl (Sp_le (by omega) (sp_takeNumber (d := d) (lo := 0) (hi := 3) C4 (by omega) (by omega))) (chkO (a := 3) (CS_TA C4).1 rfl rfl rfl rfl (by show 0 ≤ 8; decide)) (fun h5 r5 => ?_)
          rintro ⟨e5, f5, C5, v5⟩
          cases x5 : bN T L 0 3 (.inr s4) with
          | inl e =>
            rw [x5] at C5 e5
            rw [isR_l] at e5
            rw [e5]
            refine E_ifF rfl (by decide) ?_
            exact ret_bad (F := HdF) rfl rfl (fr_trans F4 (fr_wk rfl f5)) C5
          | inr s5 =>
            obtain ⟨g5, u5, w5⟩ := v5 (by rw [x5]; rfl)
            rw [x5] at C5 e5
            rw [isR_r] at e5
            rw [e5]
            refine E_ifT rfl (by decide) ?_
            generalize bV T L 0 3 (.inr s4) = V5 at g5 u5 w5 ⊢
            have F5 : fr_g HdF h h5 := fr_trans F4 (fr_wk rfl f5)
            refine E_al rfl L0 ?_
            refine E_ogr (q := 4) rfl (CS_TA C5).1 rfl rfl ?_
            refine E_al rfl L0 ?_
            refine E_ogf (q := (0, 99)) rfl (CS_TA C5).1 rfl rfl g5 ?_
            refine E_opf (q := (0, 3)) rfl (CS_TA C5).1 rfl rfl ?_
            have hp1 : HH (pt h5 4 1 (nJ V5)) := HH_ptn (CS_TA C5).1 rfl (by omega) (by omega) (by omega)
            have D1 := CS_pt (by omega) hp1 C5
            have G1 : gi (pt h5 4 1 (nJ V5)) 4 1 = nJ V5 := gi_ptn (CS_TA C5).1 rfl (by omega) (by omega) (by omega)
            have FF1 : fr_g HdF h (pt h5 4 1 (nJ V5)) := fr_ptr (l := 0) (u := 2) rfl (by omega) (by omega) F5
            have G01 : gi (pt h5 4 1 (nJ V5)) 4 0 = nJ V3 := by rw [gi_ne (by omega), fr_gi f5 rfl, fr_gi f4 rfl]; exact G0
            generalize pt h5 4 1 (nJ V5) = hq1 at hp1 D1 G1 FF1 G01 ⊢
            refine E_al rfl L0 ?_
            refine E_c rfl ?_
            refine E_call rfl (Sp_le (by omega) (sp_tW (d := d) (k := 3) D1 (by decide))) (chkO (a := 3) (CS_TA D1).1 rfl rfl rfl rfl (by show 0 ≤ 8; decide)) (fun h6 r6 => ?_)
            rintro ⟨e6, f6, C6⟩
            cases x6 : bW T L (wd 3) (.inr s5) with
            | inl e =>
              rw [x6] at C6 e6
              rw [isR_l] at e6
              rw [e6]
              refine E_ifT rfl (by decide) ?_
              exact ret_bad (F := HdF) rfl rfl (fr_trans FF1 (fr_wk rfl f6)) C6
            | inr s6 =>
              rw [x6] at C6 e6
              rw [isR_r] at e6
              rw [e6]
              refine E_ifF rfl (by decide) ?_
              have F6 : fr_g HdF h h6 := fr_trans FF1 (fr_wk rfl f6)
              refine E_al rfl L0 ?_
              refine E_ci 0 rfl (by decide) ?_
              refine E_ci 10 rfl (by decide) ?_
              refine E_call rfl (Sp_le (by omega) (sp_takeNumber (d := d) (lo := 0) (hi := 10) C6 (by omega) (by omega))) (chkO (a := 3) (CS_TA C6).1 rfl rfl rfl rfl (by show 0 ≤ 8; decide)) (fun h7 r7 => ?_)
              rintro ⟨e7, f7, C7, v7⟩
              cases x7 : bN T L 0 10 (.inr s6) with
              | inl e =>
                rw [x7] at C7 e7
                rw [isR_l] at e7
                rw [e7]
                refine E_ifF rfl (by decide) ?_
                exact ret_bad (F := HdF) rfl rfl (fr_trans F6 (fr_wk rfl f7)) C7
              | inr s7 =>
                obtain ⟨g7, u7, w7⟩ := v7 (by rw [x7]; rfl)
                rw [x7] at C7 e7
                rw [isR_r] at e7
                rw [e7]
                refine E_ifT rfl (by decide) ?_
                generalize bV T L 0 10 (.inr s6) = V7 at g7 u7 w7 ⊢
                have F7 : fr_g HdF h h7 := fr_trans F6 (fr_wk rfl f7)
                refine E_al rfl L0 ?_
                refine E_ogr (q := 4) rfl (CS_TA C7).1 rfl rfl ?_
                refine E_al rfl L0 ?_
                refine E_ogf (q := (0, 99)) rfl (CS_TA C7).1 rfl rfl g7 ?_
                refine E_opf (q := (0, 10)) rfl (CS_TA C7).1 rfl rfl ?_
                have hp2 : HH (pt h7 4 2 (nJ V7)) := HH_ptn (CS_TA C7).1 rfl (by omega) (by omega) (by omega)
                have D2 := CS_pt (by omega) hp2 C7
                have G2 : gi (pt h7 4 2 (nJ V7)) 4 2 = nJ V7 := gi_ptn (CS_TA C7).1 rfl (by omega) (by omega) (by omega)
                have FF2 : fr_g HdF h (pt h7 4 2 (nJ V7)) := fr_ptr (l := 0) (u := 2) rfl (by omega) (by omega) F7
                have G02 : gi (pt h7 4 2 (nJ V7)) 4 0 = nJ V3 := by rw [gi_ne (by omega), fr_gi f7 rfl, fr_gi f6 rfl]; exact G01
                have G12 : gi (pt h7 4 2 (nJ V7)) 4 1 = nJ V5 := by rw [gi_ne (by omega), fr_gi f7 rfl, fr_gi f6 rfl]; exact G1
                generalize pt h7 4 2 (nJ V7) = hq2 at hp2 D2 G2 FF2 G02 G12 ⊢
                refine E_al rfl L0 ?_
                refine E_ogr (q := 13) rfl (CS_TA D2).1 rfl rfl ?_
                refine E_al rfl L0 ?_
                refine E_ogr (q := 4) rfl (CS_TA D2).1 rfl rfl ?_
                refine E_ogf (q := (0, 8)) rfl (CS_TA D2).1 rfl rfl G02 ?_
                refine E_ci 1 rfl (by decide) ?_
                refine E_bin rfl (nJ_add _ _) ?_
                refine E_call rfl (Sp_le (by omega) (sp_start (d := d) (n := V3 + 1) (CS_TA D2).1 (by omega) (by omega))) (chkO (a := 13) (CS_TA D2).1 rfl rfl rfl rfl (by show 0 ≤ 8; decide)) (fun hz rz => ?_)
                rintro ⟨ez, hhz, fz, Mz⟩
                rw [ez]
                refine E_ci 1 rfl (by decide) ?_
                refine E_rtz rfl (.inr rfl) ⟨by rw [isR_r], fr_trans FF2 (fr_wk rfl fz), CS_frm fz rfl rfl rfl hhz D2, fun _ => ⟨?_, ?_, ?_, Mz⟩⟩
                · rw [fr_gi fz rfl]; exact G02
                · rw [fr_gi fz rfl]; exact G12
                · rw [fr_gi fz rfl]; exact G2
end CL1
end
