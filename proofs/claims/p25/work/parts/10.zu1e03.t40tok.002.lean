section
section CTL
variable {T : Nat → Int32} {L d : Nat}
theorem sp_readDigits {h : pm_H} {i : Nat} (A : TA T L h) (hi : i ≤ L) (g : gi h 3 7 = nJ i) : Sp (d + 2) 31 h [.ref 3] (fun h' r => r = none ∧ HH h' ∧ fr_g [(3, 5, 5), (3, 7, 8)] h h' ∧ gi h' 3 5 = nJ 2 ∧ gi h' 3 7 = nJ (up (fun j => dgb (T j)) L i) ∧ ∃ v, v ≤ 9999 ∧ gi h' 3 8 = nJ v ∧ Vr v (vfo T i (up (fun j => dgb (T j)) L i - i))) := by
  refine Sp_of aiX2_readDigits rfl rfl rfl ?_
  have L0 : pm_get (lv_args 0 [.ref 3]) 0 = some (.ref 3) := rfl
  generalize lv_args 0 [.ref 3] = lv at L0 ⊢
  refine E_al rfl L0 ?_
  refine E_ci 2 rfl (by decide) ?_
  refine E_opf (q := (0, 4)) rfl A.1 rfl rfl ?_
  have hh1 : HH (pt h 3 5 (nJ 2)) := HH_ptn A.1 rfl (by omega) (by omega) (by omega)
  have A1 := TA_pt A (by omega) hh1
  refine E_al rfl L0 ?_
  refine E_ci 0 rfl (by decide) ?_
  refine E_opf rfl hh1 rfl rfl ?_
  have hh2 : HH (pt (pt h 3 5 (nJ 2)) 3 8 (nJ 0)) := HH_ptn hh1 rfl (by omega) (by omega) (by omega)
  refine Ends_mono ?_ (rdd_loop (d := d) (s := i) (L - i) lv (i := i) (m := 0) (v := 0) (by omega) (by omega) (TA_pt A1 (by omega) hh2) (by rw [gi_ne (by omega), gi_ne (by omega)]; exact g) (gi_ptn hh1 rfl (by omega) (by omega) (by omega)) (by omega) (.inl ⟨rfl, by show (0 : Nat) < 1000; omega⟩) L0)
  rintro h' r ⟨q1, q2, q3, q4, q5⟩
  refine ⟨q1, q2, fr_trans (fr_ptr (l := 7) (u := 8) rfl (by omega) (by omega) (fr_ptr (l := 5) (u := 5) rfl (by omega) (by omega) (fr_rf _ _))) (fr_wk rfl q3), ?_, q4, q5⟩
  rw [fr_gi q3 rfl, gi_ne (by omega)]
  exact gi_ptn A.1 rfl (by omega) (by omega) (by omega)
theorem rdt_tail {h : pm_H} {i : Nat} (lv : List (Nat × Value)) (A : TA T L h) (hi : i ≤ L) (g : gi h 3 7 = nJ i) (L0 : pm_get lv 0 = some (.ref 3)) : Ends (pm_at tX2_readToken) (pm_Rt pm_P (d + 2)) (61, lv, [], h, 0, 0) (fun h' r => r = none ∧ HH h' ∧ fr_g [(3, 5, 8)] h h' ∧ CT T L i h') := by
  have h5 := A.2.2.1
  refine E_al rfl L0 ?_
  refine E_al rfl L0 ?_
  refine E_ogf (q := (0, 500)) rfl A.1 rfl rfl g ?_
  refine E_opf (q := (0, 500)) rfl A.1 rfl rfl ?_
  have hh1 : HH (pt h 3 6 (nJ i)) := HH_ptn A.1 rfl (by omega) (by omega) (by omega)
  have A1 := TA_pt A (by omega) hh1
  have g6 : gi (pt h 3 6 (nJ i)) 3 6 = nJ i := gi_ptn A.1 rfl (by omega) (by omega) (by omega)
  have g7 : gi (pt h 3 6 (nJ i)) 3 7 = nJ i := by rw [gi_ne (by omega)]; exact g
  have f1 : fr_g [(3, 5, 8)] h (pt h 3 6 (nJ i)) := fr_ptr (l := 5) (u := 8) rfl (by omega) (by omega) (fr_rf _ _)
  generalize pt h 3 6 (nJ i) = h1 at hh1 A1 g6 g7 f1 ⊢
  refine E_al rfl L0 ?_
  refine E_ogf (q := (0, 500)) rfl hh1 rfl rfl g6 ?_
  refine E_rlen rfl rfl rfl L0 A1 ?_
  by_cases b0 : i < L
  · refine E_icT rfl (decide_eq_true ((nJ_lt (by omega) (by omega)).mpr b0)) ?_
    refine E_rbyt rfl rfl rfl rfl rfl rfl L0 A1 rfl g6 b0 ?_
    refine E_call rfl (sp_isLetter (d := d + 1)) (chkS rfl (by show 0 ≤ 8; decide)) (fun h2 r2 => ?_)
    rintro ⟨e2, f2⟩
    rw [e2, f2]
    by_cases b1 : ltb (T i) = true
    · refine E_ifF rfl (by rw [zb_T b1]; rfl) ?_
      refine E_al rfl L0 ?_
      refine E_call rfl (sp_readLetters (d := d) A1 hi g7) (chkO (a := 3) hh1 rfl rfl rfl rfl (by show 0 ≤ 8; decide)) (fun h3 r3 => ?_)
      rintro ⟨e3, q2, q3, q4, q5⟩
      rw [e3]
      refine E_goto rfl ?_
      have k := tk_1 (T := T) b0 b1
      refine E_ret rfl ⟨rfl, q2, fr_trans f1 (fr_wk rfl q3), ?_, ?_, ?_, fun q => absurd q (by rw [k.1]; omega)⟩
      · rw [fr_gi q3 rfl]; exact g6
      · rw [q5, k.2]
      · rw [q4, k.1]
    · have b1' : ltb (T i) = false := by cases hq : ltb (T i) with | false => rfl | true => exact absurd hq b1
      refine E_ifT rfl (by rw [zb_F b1]; rfl) ?_
      refine E_rbyt rfl rfl rfl rfl rfl rfl L0 A1 rfl g6 b0 ?_
      refine E_call rfl (sp_isDigit (d := d + 1)) (chkS rfl (by show 0 ≤ 8; decide)) (fun h3 r3 => ?_)
      rintro ⟨e3, f3⟩
      rw [e3, f3]
      by_cases b2 : dgb (T i) = true
      · refine E_ifF rfl (by rw [zb_T b2]; rfl) ?_
        refine E_al rfl L0 ?_
        refine E_call rfl (sp_readDigits (d := d) A1 hi g7) (chkO (a := 3) hh1 rfl rfl rfl rfl (by show 0 ≤ 8; decide)) (fun h4 r4 => ?_)
        rintro ⟨e4, q2, q3, q4, q5, q6⟩
        rw [e4]
        refine E_goto rfl ?_
        have k := tk_2 (T := T) b0 b1' b2
        refine E_ret rfl ⟨rfl, q2, fr_trans f1 (fr_wk rfl q3), ?_, ?_, ?_, fun _ => ?_⟩
        · rw [fr_gi q3 rfl]; exact g6
        · rw [q5, k.2]
        · rw [q4, k.1]
        · unfold tkv
          rw [k.2]
          exact q6
      · have b2' : dgb (T i) = false := by cases hq : dgb (T i) with | false => rfl | true => exact absurd hq b2
        refine E_ifT rfl (by rw [zb_F b2]; rfl) ?_
        refine E_al rfl L0 ?_
        refine E_rbyt rfl rfl rfl rfl rfl rfl L0 A1 rfl g6 b0 ?_
        refine E_ci 59 rfl (by decide) ?_
        have fin : ∀ k, k ≤ 4 → tkk T L i = k → tke T L i = i + 1 → k ≠ 2 → Ends (pm_at tX2_readToken) (pm_Rt pm_P (d + 2)) (164, lv, [.int (nJ k), .ref 3], h1, 0, 0) (fun h' r => r = none ∧ HH h' ∧ fr_g [(3, 5, 8)] h h' ∧ CT T L i h') := by
          intro k hk k1 k2 k3
          refine E_opf (q := (0, 4)) rfl hh1 rfl rfl ?_
          have hh2 : HH (pt h1 3 5 (nJ k)) := HH_ptn hh1 rfl (by omega) (by omega) (by omega)
          have g72 : gi (pt h1 3 5 (nJ k)) 3 7 = nJ i := by rw [gi_ne (by omega)]; exact g7
          refine E_rinc rfl rfl rfl rfl rfl rfl L0 hh2 g72 ?_
          have hh3 : HH (pt (pt h1 3 5 (nJ k)) 3 7 (nJ (i + 1))) := HH_ptn hh2 rfl (by omega) (by omega) (by omega)
          refine E_ret rfl ⟨rfl, hh3, fr_ptr (l := 5) (u := 8) rfl (by omega) (by omega) (fr_ptr (l := 5) (u := 8) rfl (by omega) (by omega) f1), ?_, ?_, ?_, fun q => absurd q (by omega)⟩
          · rw [gi_ne (by omega), gi_ne (by omega)]; exact g6
          · rw [k2]; exact gi_ptn hh2 rfl (by omega) (by omega) (by omega)
          · rw [k1, gi_ne (by omega)]; exact gi_ptn hh1 rfl (by omega) (by omega) (by omega)
        have e59 : (59 : Int32) = nJ 59 := by decide
        by_cases b3 : T i = 59
        · refine E_icF rfl (decide_eq_false (fun q => q (b3.trans e59))) ?_
          refine E_ci 3 rfl (by decide) ?_
          refine E_goto rfl ?_
          exact fin 3 (by omega) (tk_3 b0 b1' b2' b3).1 (tk_3 b0 b1' b2' b3).2 (by omega)
        · refine E_icT rfl (decide_eq_true (fun q => b3 (q.trans e59.symm))) ?_
          refine E_ci 4 rfl (by decide) ?_
          exact fin 4 (by omega) (tk_4 b0 b1' b2' b3).1 (tk_4 b0 b1' b2' b3).2 (by omega)
  · refine E_icF rfl (decide_eq_false (fun q => b0 ((nJ_lt (by omega) (by omega)).mp q))) ?_
    refine E_al rfl L0 ?_
    refine E_ci 0 rfl (by decide) ?_
    refine E_opf (q := (0, 4)) rfl hh1 rfl rfl ?_
    refine E_goto rfl ?_
    have k := tk_0 (T := T) b0
    have hh2 : HH (pt h1 3 5 (nJ 0)) := HH_ptn hh1 rfl (by omega) (by omega) (by omega)
    refine E_ret rfl ⟨rfl, hh2, fr_ptr (l := 5) (u := 8) rfl (by omega) (by omega) f1, ?_, ?_, ?_, fun q => absurd q (by rw [k.1]; omega)⟩
    · rw [gi_ne (by omega)]; exact g6
    · rw [gi_ne (by omega), k.2]; exact g7
    · rw [k.1]; exact gi_ptn hh1 rfl (by omega) (by omega) (by omega)
theorem rdt_loop (j : Nat) : ∀ {h : pm_H} {i : Nat} (lv : List (Nat × Value)), i + j = L → TA T L h → gi h 3 7 = nJ i → pm_get lv 0 = some (.ref 3) → Ends (pm_at tX2_readToken) (pm_Rt pm_P (d + 2)) (0, lv, [], h, 0, 0) (fun h' r => r = none ∧ HH h' ∧ fr_g [(3, 5, 8)] h h' ∧ CT T L (skp T L i) h') := by
  have e32 : (32 : Int32) = nJ 32 := by decide
  have e10 : (10 : Int32) = nJ 10 := by decide
  induction j with
  | zero =>
    intro h i lv hj A g L0
    have h5 := A.2.2.1
    unfold skp
    rw [up_no (L := L) (i := i) (fun q => absurd q.1 (by omega))]
    refine E_al rfl L0 ?_
    refine E_ogf (q := (0, 500)) rfl A.1 rfl rfl g ?_
    refine E_rlen rfl rfl rfl L0 A ?_
    refine E_icT rfl (decide_eq_true ((nJ_le (by omega) (by omega)).mpr (by omega))) ?_
    exact rdt_tail lv A (by omega) g L0
  | succ j ih =>
    intro h i lv hj A g L0
    have h5 := A.2.2.1
    have go : spb (T i) = true → Ends (pm_at tX2_readToken) (pm_Rt pm_P (d + 2)) (48, lv, [], h, 0, 0) (fun h' r => r = none ∧ HH h' ∧ fr_g [(3, 5, 8)] h h' ∧ CT T L (skp T L i) h') := by
      intro b
      refine E_rinc rfl rfl rfl rfl rfl rfl L0 A.1 g ?_
      refine E_goto rfl ?_
      have hh1 : HH (pt h 3 7 (nJ (i + 1))) := HH_ptn A.1 rfl (by omega) (by omega) (by omega)
      refine Ends_mono ?_ (ih lv (i := i + 1) (by omega) (TA_pt A (by omega) hh1) (gi_ptn A.1 rfl (by omega) (by omega) (by omega)) L0)
      rintro h' r ⟨q1, q2, q3, q4⟩
      refine ⟨q1, q2, fr_trans (fr_ptr (l := 5) (u := 8) rfl (by omega) (by omega) (fr_rf _ _)) q3, ?_⟩
      unfold skp
      rw [up_go (p := fun j => spb (T j)) (by omega) b]
      exact q4
    refine E_al rfl L0 ?_
    refine E_ogf (q := (0, 500)) rfl A.1 rfl rfl g ?_
    refine E_rlen rfl rfl rfl L0 A ?_
    refine E_icF rfl (decide_eq_false (fun q => absurd ((nJ_le (by omega) (by omega)).mp q) (by omega))) ?_
    refine E_rbyt rfl rfl rfl rfl rfl rfl L0 A rfl g (by omega) ?_
    refine E_ci 32 rfl (by decide) ?_
    by_cases b1 : T i = 32
    · refine E_icT rfl (decide_eq_true (b1.trans e32)) ?_
      exact go (by unfold spb; rw [decide_eq_true b1]; rfl)
    refine E_icF rfl (decide_eq_false (fun q => b1 (q.trans e32.symm))) ?_
    refine E_rbyt rfl rfl rfl rfl rfl rfl L0 A rfl g (by omega) ?_
    refine E_ci 10 rfl (by decide) ?_
    by_cases b2 : T i = 10
    · refine E_icF rfl (decide_eq_false (fun q => q (b2.trans e10))) ?_
      exact go (by unfold spb; rw [decide_eq_true b2]; exact Bool.or_true _)
    refine E_icT rfl (decide_eq_true (fun q => b2 (q.trans e10.symm))) ?_
    have e : skp T L i = i := by
      unfold skp
      exact up_no (fun q => by
        have q2 : spb (T i) = true := q.2
        unfold spb at q2
        rw [decide_eq_false b1, decide_eq_false b2] at q2
        cases q2)
    rw [e]
    exact rdt_tail lv A (by omega) g L0
theorem sp_readToken {h : pm_H} {i : Nat} (A : TA T L h) (hi : i ≤ L) (g : gi h 3 7 = nJ i) : Sp (d + 3) 37 h [.ref 3] (fun h' r => r = none ∧ HH h' ∧ fr_g [(3, 5, 8)] h h' ∧ CT T L (skp T L i) h') := by
  refine Sp_of aiX2_readToken rfl rfl rfl ?_
  have L0 : pm_get (lv_args 0 [.ref 3]) 0 = some (.ref 3) := rfl
  generalize lv_args 0 [.ref 3] = lv at L0 ⊢
  exact rdt_loop (d := d) (L - i) lv (i := i) (by omega) A g L0
end CTL
end
section
/-! the reference's tokens (wants t40, t41, 10.zte) -/
end
