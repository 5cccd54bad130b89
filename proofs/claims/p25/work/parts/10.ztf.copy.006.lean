section
noncomputable def W4 (h : pm_H) : Prop := gn h 84 27 ≤ gn h 84 24 ∧ (∀ c, c < gn h 84 27 → 1 ≤ gn h 85 (64 + 2 * c)) ∧ JN h ∧ gn h 84 29 = 0
theorem JN_eq {h h' : pm_H} (h1 : gn h' 84 28 = gn h 84 28) (h2 : ∀ k, gn h' 86 k = gn h 86 k) (J : JN h) : JN h' := by
  have e : gn h' 86 = gn h 86 := funext h2
  unfold JN at J ⊢
  rw [h1, e]
  exact J
theorem W4_eq {h h' : pm_H} (h1 : ∀ k, gn h' 84 k = gn h 84 k) (h2 : ∀ k, gn h' 85 k = gn h 85 k) (h3 : ∀ k, gn h' 86 k = gn h 86 k) (W : W4 h) : W4 h' := by
  obtain ⟨w1, w2, w3, w4⟩ := W
  refine ⟨by rw [h1, h1]; exact w1, fun c hc => ?_, JN_eq (h1 28) h3 w3, by rw [h1]; exact w4⟩
  rw [h1] at hc
  rw [h2]
  exact w2 c hc
theorem W4_fr {M : List Rng} {h h' : pm_H} (hM : M.all (fun r => !(Nat.beq r.1 84) && (!(Nat.beq r.1 85) && !(Nat.beq r.1 86))) = true) (hf : fr_g M h h') (W : W4 h) : W4 h' := by
  have hm : ∀ a, (a = 84 ∨ a = 85 ∨ a = 86) → ∀ k, gn h' a k = gn h a k := fun a ha k => fr_gn hf (rg_no (List.all_eq_true.mpr fun q hq => by
    have := List.all_eq_true.mp hM q hq
    simp only [Bool.and_eq_true] at this
    rcases ha with rfl | rfl | rfl
    · exact this.1
    · exact this.2.1
    · exact this.2.2) k)
  exact W4_eq (hm 84 (.inl rfl)) (hm 85 (.inr (.inl rfl))) (hm 86 (.inr (.inr rfl))) W
noncomputable def LX : List Rng := [(77, 7, 13), (85, 64, 79), (84, 27, 28), (86, 64, 79), (101, 0, 9)]
theorem sp_lineHere {h0 : pm_H} {d : Nat} (hh0 : HH h0) (hr1 : gn h0 77 9 ≤ gn h0 77 7) (hr2 : gn h0 77 7 ≤ gn h0 77 6) (hr3 : gn h0 77 8 = 0 ∨ gn h0 77 9 < gn h0 77 7) (hW : W4 h0) : Sp (d + 10) 304 h0 [.ref 77] (fun h' r => r = none ∧ RR h' ∧ fr_g LX h0 h' ∧ gn h0 77 9 ≤ gn h' 77 9 ∧ W4 h') := by
  refine Sp_of aiX9_lineHere rfl rfl rfl ?_
  have L0 : pm_get (lv_args 0 [.ref 77]) 0 = some (.ref 77) := rfl
  generalize lv_args 0 [.ref 77] = lv at L0 ⊢
  have h5 := b500 hh0
  refine E_al rfl L0 ?_
  refine E_c rfl ?_
  refine E_call rfl (Sp_le (by omega) (sp_is (d := 0) hh0)) (chk77 hh0 rfl rfl (by show 0 ≤ 8; decide)) (fun h1 r1 => ?_)
  rintro ⟨e1, f1⟩
  rw [e1]
  rcases f1 with f1 | ⟨f1, ib1, it1⟩
  · rw [f1]
    show Ends _ _ (7, lv, [.int (nJ 0)], h0, 0, 0) _
    refine E_ifT rfl (by decide) ?_
    refine E_al rfl L0 ?_
    refine E_c rfl ?_
    refine E_call rfl (Sp_le (by omega) (sp_is (d := 0) hh0)) (chk77 hh0 rfl rfl (by show 0 ≤ 8; decide)) (fun h2 r2 => ?_)
    rintro ⟨e2, f2⟩
    rw [e2]
    rcases f2 with f2 | ⟨f2, ib2, it2⟩
    · rw [f2]
      show Ends _ _ (54, lv, [.int (nJ 0)], h0, 0, 0) _
      refine E_ifT rfl (by decide) ?_
      refine E_al rfl L0 ?_
      refine E_ci 1 rfl (by decide) ?_
      refine E_call rfl (Sp_le (by omega) (sp_fails (d := 0) (k := 1) hh0 (by omega) (by omega))) (chk77 hh0 rfl rfl (by show 0 ≤ 8; decide)) (fun h3 r3 => ?_)
      rintro ⟨e3, hh3, fq3, mo3⟩
      rw [e3]
      have fr3 : fr_g LX h0 h3 := fr_trans (fr_rf LX h0) (fr_wk rfl fq3)
      have t3_0 : gn h3 77 6 = gn h0 77 6 := fr_gn fq3 rfl
      have t3_1 : gn h3 77 7 = gn h0 77 7 := fr_gn fq3 rfl
      have t3_2 : gn h3 77 8 = gn h0 77 8 := fr_gn fq3 rfl
      have t3_3 : gn h3 77 9 = gn h0 77 9 := fr_gn fq3 rfl
      have t3_5 : gn h3 84 24 = gn h0 84 24 := fr_gn fq3 rfl
      have t3_6 : gn h3 84 27 = gn h0 84 27 := fr_gn fq3 rfl
      show Ends _ _ (73, lv, [], h3, 0, 0) _
      have wy3 : W4 h3 := W4_fr rfl fq3 hW
      exact E_ret rfl ⟨rfl, ⟨hh3, by omega, by omega, by omega⟩, fr3, by omega, wy3⟩
    · rw [f2]
      show Ends _ _ (54, lv, [.int (nJ 1)], h0, 0, 0) _
      refine E_ifF rfl (by decide) ?_
      refine E_al rfl L0 ?_
      refine E_call rfl (Sp_le (by omega) (sp_follows (d := 0) hh0 (by omega))) (chk77 hh0 rfl rfl (by show 0 ≤ 8; decide)) (fun h4 r4 => ?_)
      rintro ⟨e4, ⟨hh4, ra4, rb4, rc4⟩, fq4, mo4⟩
      rw [e4]
      have fr4 : fr_g LX h0 h4 := fr_trans (fr_rf LX h0) (fr_wk rfl fq4)
      have t4_0 : gn h4 77 6 = gn h0 77 6 := fr_gn fq4 rfl
      have t4_4 : gn h4 77 12 = gn h0 77 12 := fr_gn fq4 rfl
      have t4_5 : gn h4 84 24 = gn h0 84 24 := fr_gn fq4 rfl
      have t4_6 : gn h4 84 27 = gn h0 84 27 := fr_gn fq4 rfl
      show Ends _ _ (61, lv, [], h4, 0, 0) _
      have wy4 : W4 h4 := W4_fr rfl fq4 hW
      refine E_al rfl L0 ?_
      refine E_call rfl (Sp_le (by omega) (sp_joinLine (d := 0) hh4 (by omega) (by omega) (by omega) wy4.2.2.1)) (chk77 hh4 rfl rfl (by show 0 ≤ 8; decide)) (fun h5 r5 => ?_)
      rintro ⟨e5, ⟨hh5, ra5, rb5, rc5⟩, fq5, mo5, jn5⟩
      rw [e5]
      have fr5 : fr_g LX h0 h5 := fr_trans fr4 (fr_wk rfl fq5)
      have wy5 : W4 h5 := ⟨by rw [show gn h5 84 27 = gn h4 84 27 from fr_gn fq5 rfl, show gn h5 84 24 = gn h4 84 24 from fr_gn fq5 rfl]; exact wy4.1, fun c hc => by rw [show gn h5 84 27 = gn h4 84 27 from fr_gn fq5 rfl] at hc; rw [fr_gn fq5 (rg_no rfl _)]; exact wy4.2.1 c hc, jn5, by rw [show gn h5 84 29 = gn h4 84 29 from fr_gn fq5 rfl]; exact wy4.2.2.2⟩
      show Ends _ _ (65, lv, [], h5, 0, 0) _
      refine E_goto rfl ?_
      exact E_ret rfl ⟨rfl, ⟨hh5, by omega, by omega, by omega⟩, fr5, by omega, wy5⟩
  · rw [f1]
    show Ends _ _ (7, lv, [.int (nJ 1)], h0, 0, 0) _
    refine E_ifF rfl (by decide) ?_
    refine E_al rfl L0 ?_
    refine E_ci 3 rfl (by decide) ?_
    refine E_call rfl (Sp_le (by omega) (sp_hasRead (d := 0) hh0 (by omega) rfl (by decide))) (chk77 hh0 rfl rfl (by show 0 ≤ 8; decide)) (fun h6 r6 => ?_)
    rintro ⟨e6, f6⟩
    rw [e6, f6]
    have b6 : gn h0 84 27 ≤ 8 := gn_hi hh0 rfl (by decide)
    show Ends _ _ (15, lv, [.int (nJ (gn h0 84 27))], h0, 0, 0) _
    refine E_al rfl L0 ?_
    refine E_ci 0 rfl (by decide) ?_
    refine E_call rfl (Sp_le (by omega) (sp_hasRead (d := 0) hh0 (by omega) rfl (by decide))) (chk77 hh0 rfl rfl (by show 1 ≤ 8; decide)) (fun h7 r7 => ?_)
    rintro ⟨e7, f7⟩
    rw [e7, f7]
    have b7 : gn h0 84 24 ≤ 8 := gn_hi hh0 rfl (by decide)
    show Ends _ _ (20, lv, [.int (nJ (gn h0 84 24)), .int (nJ (gn h0 84 27))], h0, 0, 0) _
    by_cases hb8 : ¬ (gn h0 84 27) = (gn h0 84 24)
    · refine E_icT rfl (decide_eq_true (fun q => hb8 ((nJ_eq (by omega) (by omega)).mp q))) ?_
      refine E_al rfl L0 ?_
      have b9 : gn h0 77 12 ≤ 3 := gn_hi hh0 rfl (by decide)
      refine E_gf rfl hh0 rfl (gi_gn hh0 rfl (by decide)) ?_
      by_cases hb10 : (gn h0 77 12) = 0
      · refine E_ifT rfl (decide_eq_true ((nJ_eq0 (by omega)).mpr hb10)) ?_
        refine E_al rfl L0 ?_
        refine E_call rfl (Sp_le (by omega) (sp_follows (d := 0) hh0 (by omega))) (chk77 hh0 rfl rfl (by show 0 ≤ 8; decide)) (fun h11 r11 => ?_)
        rintro ⟨e11, ⟨hh11, ra11, rb11, rc11⟩, fq11, mo11⟩
        rw [e11]
        have fr11 : fr_g LX h0 h11 := fr_trans (fr_rf LX h0) (fr_wk rfl fq11)
        have t11_0 : gn h11 77 6 = gn h0 77 6 := fr_gn fq11 rfl
        have t11_4 : gn h11 77 12 = gn h0 77 12 := fr_gn fq11 rfl
        have t11_5 : gn h11 84 24 = gn h0 84 24 := fr_gn fq11 rfl
        have t11_6 : gn h11 84 27 = gn h0 84 27 := fr_gn fq11 rfl
        show Ends _ _ (40, lv, [], h11, 0, 0) _
        have wy11 : W4 h11 := W4_fr rfl fq11 hW
        refine E_al rfl L0 ?_
        have wA := wy11.1
        refine E_call rfl (Sp_le (by omega) (sp_carLine (d := 0) hh11 (by omega) (by omega) (by omega) (by omega) wy11.2.1)) (chk77 hh11 rfl rfl (by show 0 ≤ 8; decide)) (fun h12 r12 => ?_)
        rintro ⟨e12, ⟨hh12, ra12, rb12, rc12⟩, fq12, mo12, ca12, cb12⟩
        rw [e12]
        have fr12 : fr_g LX h0 h12 := fr_trans fr11 (fr_wk rfl fq12)
        have wy12 : W4 h12 := ⟨by rw [ca12, show gn h12 84 24 = gn h11 84 24 from fr_gn fq12 rfl]; omega, fun c hc => cb12 c (by rw [← ca12]; exact hc), JN_eq (fr_gn fq12 rfl) (fun k => fr_gn fq12 (rg_no rfl _)) wy11.2.2.1, by rw [show gn h12 84 29 = gn h11 84 29 from fr_gn fq12 rfl]; exact wy11.2.2.2⟩
        show Ends _ _ (44, lv, [], h12, 0, 0) _
        refine E_goto rfl ?_
        exact E_ret rfl ⟨rfl, ⟨hh12, by omega, by omega, by omega⟩, fr12, by omega, wy12⟩
      · refine E_ifF rfl (decide_eq_false (fun q => hb10 ((nJ_eq0 (by omega)).mp q))) ?_
        exact E_ret rfl ⟨rfl, ⟨hh0, by omega, by omega, by omega⟩, (fr_rf LX h0), by omega, hW⟩
    · refine E_icF rfl (decide_eq_false (fun q => hb8 (fun z => q ((nJ_eq (by omega) (by omega)).mpr z)))) ?_
      refine E_al rfl L0 ?_
      refine E_ci 3 rfl (by decide) ?_
      refine E_call rfl (Sp_le (by omega) (sp_fails (d := 0) (k := 3) hh0 (by omega) (by omega))) (chk77 hh0 rfl rfl (by show 0 ≤ 8; decide)) (fun h13 r13 => ?_)
      rintro ⟨e13, hh13, fq13, mo13⟩
      rw [e13]
      have fr13 : fr_g LX h0 h13 := fr_trans (fr_rf LX h0) (fr_wk rfl fq13)
      have t13_0 : gn h13 77 6 = gn h0 77 6 := fr_gn fq13 rfl
      have t13_1 : gn h13 77 7 = gn h0 77 7 := fr_gn fq13 rfl
      have t13_2 : gn h13 77 8 = gn h0 77 8 := fr_gn fq13 rfl
      have t13_3 : gn h13 77 9 = gn h0 77 9 := fr_gn fq13 rfl
      have t13_5 : gn h13 84 24 = gn h0 84 24 := fr_gn fq13 rfl
      have t13_6 : gn h13 84 27 = gn h0 84 27 := fr_gn fq13 rfl
      show Ends _ _ (28, lv, [], h13, 0, 0) _
      have wy13 : W4 h13 := W4_fr rfl fq13 hW
      refine E_al rfl L0 ?_
      have b14 : gn h13 77 12 ≤ 3 := gn_hi hh13 rfl (by decide)
      refine E_gf rfl hh13 rfl (gi_gn hh13 rfl (by decide)) ?_
      by_cases hb15 : (gn h13 77 12) = 0
      · refine E_ifT rfl (decide_eq_true ((nJ_eq0 (by omega)).mpr hb15)) ?_
        refine E_al rfl L0 ?_
        refine E_call rfl (Sp_le (by omega) (sp_follows (d := 0) hh13 (by omega))) (chk77 hh13 rfl rfl (by show 0 ≤ 8; decide)) (fun h16 r16 => ?_)
        rintro ⟨e16, ⟨hh16, ra16, rb16, rc16⟩, fq16, mo16⟩
        rw [e16]
        have fr16 : fr_g LX h0 h16 := fr_trans fr13 (fr_wk rfl fq16)
        have t16_0 : gn h16 77 6 = gn h13 77 6 := fr_gn fq16 rfl
        have t16_4 : gn h16 77 12 = gn h13 77 12 := fr_gn fq16 rfl
        have t16_5 : gn h16 84 24 = gn h13 84 24 := fr_gn fq16 rfl
        have t16_6 : gn h16 84 27 = gn h13 84 27 := fr_gn fq16 rfl
        show Ends _ _ (40, lv, [], h16, 0, 0) _
        have wy16 : W4 h16 := W4_fr rfl fq16 wy13
        refine E_al rfl L0 ?_
        have wA := wy16.1
        refine E_call rfl (Sp_le (by omega) (sp_carLine (d := 0) hh16 (by omega) (by omega) (by omega) (by omega) wy16.2.1)) (chk77 hh16 rfl rfl (by show 0 ≤ 8; decide)) (fun h17 r17 => ?_)
        rintro ⟨e17, ⟨hh17, ra17, rb17, rc17⟩, fq17, mo17, ca17, cb17⟩
        rw [e17]
        have fr17 : fr_g LX h0 h17 := fr_trans fr16 (fr_wk rfl fq17)
        have wy17 : W4 h17 := ⟨by rw [ca17, show gn h17 84 24 = gn h16 84 24 from fr_gn fq17 rfl]; omega, fun c hc => cb17 c (by rw [← ca17]; exact hc), JN_eq (fr_gn fq17 rfl) (fun k => fr_gn fq17 (rg_no rfl _)) wy16.2.2.1, by rw [show gn h17 84 29 = gn h16 84 29 from fr_gn fq17 rfl]; exact wy16.2.2.2⟩
        show Ends _ _ (44, lv, [], h17, 0, 0) _
        refine E_goto rfl ?_
        exact E_ret rfl ⟨rfl, ⟨hh17, by omega, by omega, by omega⟩, fr17, by omega, wy17⟩
      · refine E_ifF rfl (decide_eq_false (fun q => hb15 ((nJ_eq0 (by omega)).mp q))) ?_
        exact E_ret rfl ⟨rfl, ⟨hh13, by omega, by omega, by omega⟩, fr13, by omega, wy13⟩
end
section
/-! by hand: calls that change a row (written by gen_t18.py) -/
end
