section
section CTP
variable {T : Nat → Int32} {L d s : Nat} {h : pm_H}
noncomputable def RtF : List Rng := [(3, 1, 2), (3, 5, 9), (4, 0, 6), (5, 0, 7), (6, 0, 7), (7, 0, 7), (8, 0, 7), (9, 0, 7), (13, 1, 1), (14, 0, 9)]
/-- how the reading of the class ends -/
noncomputable def RtQ (T : Nat → Int32) (L : Nat) (R : Px × Nat × Sg) (h0 h' : pm_H) (r : Option Value) : Prop := r = none ∧ fr_g RtF h0 h' ∧ CS T L R.1 h' ∧ (isR R.1 = true → CDr R.2.1 R.2.2 h')
theorem rtp_bad {h0 : pm_H} {e : Nat × Nat} {R : Px × Nat × Sg} {i : Nat} (lv : List (Nat × Value)) (hR : R.1 = .inl e) (C : CS T L (.inl e) h) (f : fr_g RtF h0 h) (hi : i ≤ 501) (L0 : pm_get lv 0 = some (.ref 3)) (L1 : pm_get lv 1 = some (.int (nJ i))) : Ends (pm_at tX2_readTape) (pm_Rt pm_P (d + 8)) (28, lv, [], h, 0, 0) (RtQ T L R h0) := by
  have hh : HH h := C.1.1
  have fin : Ends (pm_at tX2_readTape) (pm_Rt pm_P (d + 8)) (82, lv, [], h, 0, 0) (RtQ T L R h0) := E_ret rfl ⟨rfl, f, by rw [hR]; exact C, fun q => by rw [hR] at q; cases q⟩
  refine E_il rfl L1 ?_
  refine E_ci 500 rfl (by decide) ?_
  by_cases b1 : 500 ≤ i
  · refine E_icT rfl (decide_eq_true ((nJ_le (by omega) (by omega)).mpr b1)) ?_
    exact fin
  refine E_icF rfl (decide_eq_false (fun z => b1 ((nJ_le (by omega) (by omega)).mp z))) ?_
  refine E_al rfl L0 ?_
  refine E_ogf (q := (0, 4)) rfl hh rfl rfl rfl ?_
  by_cases b2 : gi h 3 5 = 0
  · refine E_ifT rfl (decide_eq_true b2) ?_
    exact fin
  refine E_ifF rfl (decide_eq_false b2) ?_
  refine E_al rfl L0 ?_
  refine E_ogf (q := (0, 3)) rfl hh rfl rfl C.2.1 ?_
  have k1 := C.2.2.2.1
  have k3 := C.2.2.2.2.1
  refine E_ifT rfl (decide_eq_true (fun z => absurd ((nJ_eq0 (by omega)).mp z) (by omega))) ?_
  exact fin
theorem rtp_loop {h0 : pm_H} (f : Nat) : ∀ {h : pm_H} {n s i : Nat} {σ : Sg} (lv : List (Nat × Value)), CS T L (.inr s) h → CDr n σ h → Ws n σ → fr_g RtF h0 h → L < s + f → i ≤ s → n ≤ i → pm_get lv 0 = some (.ref 3) → pm_get lv 1 = some (.int (nJ i)) → Ends (pm_at tX2_readTape) (pm_Rt pm_P (d + 8)) (28, lv, [], h, 0, 0) (RtQ T L (prs T L f n σ s) h0) := by
  induction f with
  | zero =>
    intro h n s i σ lv C
    intro _ _ _ hL
    have := C.2.2.2.2
    omega
  | succ f ih =>
    intro h n s i σ lv C D W F hL his hni L0 L1
    have hh : HH h := C.1.1
    have h5 := C.1.2.2.1
    have hs := C.2.2.2.2
    have c5 := C.2.1.2.2.1
    have hkk := tkk_le (T := T) (L := L) (s := s)
    have fin : tkk T L s = 0 → Ends (pm_at tX2_readTape) (pm_Rt pm_P (d + 8)) (82, lv, [], h, 0, 0) (RtQ T L (prs T L (f + 1) n σ s) h0) := by
      intro k0
      rw [prs_end k0]
      exact E_ret rfl ⟨rfl, F, C, fun _ => D⟩
    refine E_il rfl L1 ?_
    refine E_ci 500 rfl (by decide) ?_
    by_cases b1 : 500 ≤ i
    · refine E_icT rfl (decide_eq_true ((nJ_le (by omega) (by omega)).mpr b1)) ?_
      exact fin (tk_0 (by omega)).1
    refine E_icF rfl (decide_eq_false (fun z => b1 ((nJ_le (by omega) (by omega)).mp z))) ?_
    refine E_al rfl L0 ?_
    refine E_ogf (q := (0, 4)) rfl hh rfl rfl c5 ?_
    by_cases b2 : tkk T L s = 0
    · refine E_ifT rfl (decide_eq_true ((nJ_eq0 (by omega)).mpr b2)) ?_
      exact fin b2
    refine E_ifF rfl (decide_eq_false (fun z => b2 ((nJ_eq0 (by omega)).mp z))) ?_
    refine E_al rfl L0 ?_
    refine E_ogf (q := (0, 3)) rfl hh rfl rfl C.2.2.1 ?_
    refine E_ifF rfl (by decide) ?_
    refine E_al rfl L0 ?_
    refine E_call rfl (sp_readLine (d := d) C D W (by omega)) (chkO (a := 3) hh rfl rfl rfl rfl (by show 0 ≤ 8; decide)) (fun h1 r1 => ?_)
    rintro ⟨e1, f1, C1, D1⟩
    have F1 : fr_g RtF h0 h1 := fr_trans F (fr_wk rfl f1)
    have sl := tkk_lt b2
    have bad : ∀ {e : Nat × Nat} {g : pm_H}, bS T L (ln T L n σ s).1 = .inl e → CS T L (.inl e) g → fr_g RtF h0 g → Ends (pm_at tX2_readTape) (pm_Rt pm_P (d + 8)) (76, lv, [], g, 0, 0) (RtQ T L (prs T L (f + 1) n σ s) h0) := by
      intro e g he Cg Fg
      refine E_inc rfl L1 (nJ_inc _) (fun lv1 K1 kp => ?_)
      refine E_goto rfl ?_
      exact rtp_bad lv1 (by rw [prs_bad b2 he]) Cg Fg (by omega) (kp 0 _ (by decide) rfl L0) K1
    cases x1 : (ln T L n σ s).1 with
    | inl e =>
      rw [x1] at e1 C1
      rw [isR_l] at e1
      rw [e1]
      refine E_ifT rfl (by decide) ?_
      exact bad (by rw [x1]; rfl) C1 F1
    | inr t =>
      have D1 := D1 (by rw [x1]; rfl)
      have W1 := Ws_ln W x1
      have ge := ge_ln (T := T) (n := n) (σ := σ) hs
      rw [x1] at e1 C1 ge
      rw [isR_r] at e1
      rw [e1]
      refine E_ifF rfl (by decide) ?_
      refine E_al rfl L0 ?_
      refine E_call rfl (Sp_le (by omega) (sp_takeSemi (d := d) C1)) (chkO (a := 3) C1.1.1 rfl rfl rfl rfl (by show 0 ≤ 8; decide)) (fun h2 r2 => ?_)
      rintro ⟨e2, f2, C2⟩
      have F2 : fr_g RtF h0 h2 := fr_trans F1 (fr_wk rfl f2)
      cases x2 : bS T L (.inr t) with
      | inl e =>
        rw [x2] at e2 C2
        rw [isR_l] at e2
        rw [e2]
        refine E_ifT rfl (by decide) ?_
        exact bad (by rw [x1]; exact x2) C2 F2
      | inr s' =>
        obtain ⟨t', et, k3, es⟩ := bS_in x2
        cases et
        have tl := tkk_lt (T := T) (L := L) (s := t) (by omega)
        have nx := nxt_le (T := T) (Nat.le_of_lt tl)
        have nx2 := nx.2.2 tl
        have ge1 : s ≤ t := ge.1
        rw [x2] at e2 C2
        rw [isR_r] at e2
        rw [e2]
        refine E_ifF rfl (by decide) ?_
        have hh2 : HH h2 := C2.1.1
        have D2 : CDr n (ln T L n σ s).2 h2 := by
          obtain ⟨q0, q1, q2, q3, q4, q5, q6, qc, qj, qm⟩ := D1
          exact ⟨by rw [fr_gi f2 rfl]; exact q0, by rw [fr_gi f2 rfl]; exact q1, by rw [fr_gi f2 rfl]; exact q2, by rw [fr_gi f2 rfl]; exact q3, by rw [fr_gi f2 rfl]; exact q4, by rw [fr_gi f2 rfl]; exact q5, by rw [fr_gi f2 rfl]; exact q6, fun i hi => by rw [fr_gi f2 (rg_no rfl _), fr_gi f2 (rg_no rfl _), fr_gi f2 (rg_no rfl _)]; exact qc i hi, fun i hi => by rw [fr_gi f2 (rg_no rfl _), fr_gi f2 (rg_no rfl _)]; exact qj i hi, fun z => ⟨by rw [fr_gi f2 rfl]; exact (qm z).1, (qm z).2.1, (qm z).2.2.1, fun k a c => by rw [fr_gi f2 (rg_no rfl _)]; exact (qm z).2.2.2 k a c⟩⟩
        refine E_al rfl L0 ?_
        refine E_ogr (q := 4) rfl hh2 rfl rfl ?_
        refine E_dup rfl rfl ?_
        refine E_ogf rfl hh2 rfl rfl D2.2.2.2.1 ?_
        refine E_ci 1 rfl (by decide) ?_
        refine E_bin rfl (nJ_add _ _) ?_
        refine E_opf rfl hh2 rfl rfl ?_
        have hh3 : HH (pt h2 4 3 (nJ (n + 1))) := HH_ptn hh2 rfl (by omega) (by omega) (by omega)
        refine E_inc rfl L1 (nJ_inc _) (fun lv1 K1 kp => ?_)
        refine E_goto rfl ?_
        rw [prs_go b2 (by rw [x1]; exact x2)]
        refine ih lv1 (CS_pt (by omega) hh3 C2) ?_ W1 (fr_ptr (l := 0) (u := 6) rfl (by omega) (by omega) F2) (by omega) (by omega) (by omega) (kp 0 _ (by decide) rfl L0) K1
        obtain ⟨q0, q1, q2, q3, q4, q5, q6, qc, qj, qm⟩ := D2
        exact ⟨by rw [gi_ne (by omega)]; exact q0, by rw [gi_ne (by omega)]; exact q1, by rw [gi_ne (by omega)]; exact q2, gi_ptn hh2 rfl (by omega) (by omega) (by omega), by rw [gi_ne (by omega)]; exact q4, by rw [gi_ne (by omega)]; exact q5, by rw [gi_ne (by omega)]; exact q6, fun i hi => by rw [gi_ne (by omega), gi_ne (by omega), gi_ne (by omega)]; exact qc i hi, fun i hi => by rw [gi_ne (by omega), gi_ne (by omega)]; exact qj i hi, fun z => ⟨by rw [gi_ne (by omega)]; exact (qm z).1, (qm z).2.1, (qm z).2.2.1, fun k a c => by rw [gi_ne (by omega)]; exact (qm z).2.2.2 k a c⟩⟩
theorem sp_readTape (A : TA T L h) : Sp (d + 9) 36 h [.ref 3] (RtQ T L (PRS T L) h) := by
  have hh : HH h := A.1
  refine Sp_of aiX2_readTape rfl rfl rfl ?_
  have L0 : pm_get (lv_args 0 [.ref 3]) 0 = some (.ref 3) := rfl
  generalize lv_args 0 [.ref 3] = lv at L0 ⊢
  refine E_al rfl L0 ?_
  refine E_ogr (q := 4) rfl hh rfl rfl ?_
  refine E_call rfl (Sp_le (by omega) (sp_clear (d := d) hh)) (chkO (a := 4) hh rfl rfl rfl rfl (by show 0 ≤ 8; decide)) (fun h1 r1 => ?_)
  rintro ⟨e1, hh1, f1, z1⟩
  rw [e1]
  have A1 := TA_fr f1 rfl rfl hh1 A
  refine E_al rfl L0 ?_
  refine E_ci 0 rfl (by decide) ?_
  refine E_opf (q := (0, 3)) rfl hh1 rfl rfl ?_
  have hh2 : HH (pt h1 3 1 (nJ 0)) := HH_ptn hh1 rfl (by omega) (by omega) (by omega)
  refine E_al rfl L0 ?_
  refine E_c rfl ?_
  refine E_opf (q := ((-1), 500)) rfl hh2 rfl rfl ?_
  have hh3 : HH (pt (pt h1 3 1 (nJ 0)) 3 2 (-1)) := HH_pt hh2 rfl (by decide) (by decide)
  refine E_al rfl L0 ?_
  refine E_ci 0 rfl (by decide) ?_
  refine E_opf (q := (0, 500)) rfl hh3 rfl rfl ?_
  have hh4 : HH (pt (pt (pt h1 3 1 (nJ 0)) 3 2 (-1)) 3 7 (nJ 0)) := HH_ptn hh3 rfl (by omega) (by omega) (by omega)
  have A4 := TA_pt (TA_pt (TA_pt A1 (by omega) hh2) (by omega) hh3) (by omega) hh4
  refine E_al rfl L0 ?_
  refine E_call rfl (Sp_le (by omega) (sp_readToken (d := d) (i := 0) A4 (Nat.zero_le _) (gi_ptn hh3 rfl (by omega) (by omega) (by omega)))) (chkO (a := 3) hh4 rfl rfl rfl rfl (by show 0 ≤ 8; decide)) (fun h5 r5 => ?_)
  rintro ⟨e5, hh5, f5, C5⟩
  rw [e5]
  refine E_ci 0 rfl (by decide) ?_
  refine E_is rfl (fun lv1 K1 kp => ?_)
  have e4 : ∀ a k, 4 ≤ a → gi h5 a k = gi h1 a k := fun a k ha => by
    rw [fr_gi f5 (rg_no (by have : Nat.beq 3 a = false := nbeqF (by omega); simp [this]) k), gi_ne (by omega), gi_ne (by omega), gi_ne (by omega)]
  have sk := skp_le (T := T) (L := L) (i := 0) (Nat.zero_le _)
  unfold PRS
  refine rtp_loop (d := d) (L + 1) lv1 (i := 0) ⟨TA_fr f5 rfl rfl hh5 A4, C5, ?_, ?_, sk.2⟩ ?_ (.inl ⟨rfl, rfl, rfl, rfl⟩) (fr_trans (fr_ptr (l := 5) (u := 9) rfl (by omega) (by omega) (fr_ptr (l := 1) (u := 2) rfl (by omega) (by omega) (fr_ptr (l := 1) (u := 2) rfl (by omega) (by omega) (fr_wk rfl f1)))) (fr_wk rfl f5)) (by omega) (Nat.zero_le _) (Nat.le_refl _) (kp 0 _ (by decide) rfl L0) K1
  · rw [fr_gi f5 rfl, gi_ne (by omega), gi_ne (by omega)]
    exact gi_ptn hh1 rfl (by omega) (by omega) (by omega)
  · rw [fr_gi f5 rfl, gi_ne (by omega)]
    exact gi_pt hh2 (q := ((-1), 500)) rfl (by decide) (by decide)
  · refine ⟨?_, ?_, ?_, ?_, ?_, ?_, ?_, fun i hi => absurd hi (Nat.not_lt_zero i), fun i hi => absurd hi (Nat.not_lt_zero i), fun z => absurd rfl z⟩
    · rw [e4 _ _ (by omega)]; exact z1 0 (by omega)
    · rw [e4 _ _ (by omega)]; exact z1 1 (by omega)
    · rw [e4 _ _ (by omega)]; exact z1 2 (by omega)
    · rw [e4 _ _ (by omega)]; exact z1 3 (by omega)
    · rw [e4 _ _ (by omega)]; exact z1 4 (by omega)
    · rw [e4 _ _ (by omega)]; exact z1 5 (by omega)
    · rw [e4 _ _ (by omega)]; exact z1 6 (by omega)
end CTP
end
section
/-! the reference's lines and whole text (wants t44, t45, t48, t50; 10.ztf, 10.ztg, 10.ztj) -/
section RL0
variable {T : Nat → Int32} {L d k : Nat} {h : pm_H} {x : Px}
end RL0
end
