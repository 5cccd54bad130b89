section
section COP
variable {T : Nat → Int32} {L d s k : Nat} {h : pm_H}
theorem sp_nextTok (C : CS T L (.inr s) h) : Sp (d + 3) 37 h [.ref 3] (fun h' r => r = none ∧ fr_g [(3, 5, 8)] h h' ∧ CS T L (.inr (nxt T L s)) h') := by
  obtain ⟨A, ⟨c6, c7, c5, c8⟩, c1, c2, hs⟩ := C
  have he := tke_le (T := T) hs
  refine Sp_mono ?_ (sp_readToken (d := d) A he.2.1 c7)
  rintro h' r ⟨q1, q2, q3, q4⟩
  exact ⟨q1, q3, TA_fr q3 rfl rfl q2 A, q4, by rw [fr_gi q3 rfl]; exact c1, by rw [fr_gi q3 rfl]; exact c2, (nxt_le hs).2.1⟩
theorem sp_takeWord (C : CS T L (.inr s) h) (hk : k < 8) : Sp (d + 6) 41 h [.ref 3, .retAddr (4 + k)] (fun h' r => r = some (.int (zb (isR (bW T L (pm_byt.getD k []) (.inr s)) = true))) ∧ fr_g [(3, 1, 2), (3, 5, 8)] h h' ∧ CS T L (bW T L (pm_byt.getD k []) (.inr s)) h') := by
  have hh : HH h := C.1.1
  refine Sp_of aiX2_takeWord rfl rfl rfl ?_
  have L0 : pm_get (lv_args 0 [.ref 3, .retAddr (4 + k)]) 0 = some (.ref 3) := rfl
  have L1 : pm_get (lv_args 0 [.ref 3, .retAddr (4 + k)]) 1 = some (.retAddr (4 + k)) := rfl
  generalize lv_args 0 [.ref 3, .retAddr (4 + k)] = lv at L0 L1 ⊢
  refine E_al rfl L0 ?_
  refine E_alS rfl L1 ?_
  refine E_call rfl (sp_isWord (d := d) C hk) (chkO (a := 3) hh rfl rfl rfl rfl (by show 0 ≤ 8; decide)) (fun h1 r1 => ?_)
  rintro ⟨e1, f1⟩
  rw [e1, f1]
  cases hw : wIs T L s (pm_byt.getD k []) with
  | true =>
    rw [bW_T hw]
    refine E_ifT rfl (by rw [zb_T rfl]; rfl) ?_
    refine E_al rfl L0 ?_
    refine E_call rfl (Sp_le (by omega) (sp_nextTok (d := d) C)) (chkO (a := 3) hh rfl rfl rfl rfl (by show 0 ≤ 8; decide)) (fun h2 r2 => ?_)
    rintro ⟨e2, f2, C2⟩
    rw [e2]
    refine E_ci 1 rfl (by decide) ?_
    exact E_rtz rfl (.inr rfl) ⟨by rw [isR_r], fr_wk rfl f2, C2⟩
  | false =>
    rw [bW_F hw]
    refine E_ifF rfl (by rw [zb_F (by decide)]; rfl) ?_
    refine E_al rfl L0 ?_
    refine E_ci 1 rfl (by decide) ?_
    refine E_call rfl (Sp_le (by omega) (sp_refuse (d := d) (k := 1) C (by omega) (by omega))) (chkO (a := 3) hh rfl rfl rfl rfl (by show 0 ≤ 8; decide)) (fun h2 r2 => ?_)
    rintro ⟨e2, f2, C2⟩
    rw [e2]
    exact E_rtz rfl (.inl rfl) ⟨by rw [isR_l], fr_wk rfl f2, C2⟩
theorem sp_takeNumber {lo hi : Nat} (C : CS T L (.inr s) h) (h99 : hi ≤ 99) (hlo : lo ≤ hi) : Sp (d + 6) 39 h [.ref 3, .int (nJ lo), .int (nJ hi)] (fun h' r => r = some (.int (zb (isR (bN T L lo hi (.inr s)) = true))) ∧ fr_g [(3, 1, 2), (3, 5, 9)] h h' ∧ CS T L (bN T L lo hi (.inr s)) h' ∧ (isR (bN T L lo hi (.inr s)) = true → gi h' 3 9 = nJ (bV T L lo hi (.inr s)) ∧ lo ≤ bV T L lo hi (.inr s) ∧ bV T L lo hi (.inr s) ≤ hi)) := by
  have C0 := C
  obtain ⟨A, ⟨c6, c7, c5, c8⟩, c1, c2, hs⟩ := C
  have hh : HH h := A.1
  have hkk := tkk_le (T := T) (L := L) (s := s)
  refine Sp_of aiX2_takeNumber rfl rfl rfl ?_
  have L0 : pm_get (lv_args 0 [.ref 3, .int (nJ lo), .int (nJ hi)]) 0 = some (.ref 3) := rfl
  have L1 : pm_get (lv_args 0 [.ref 3, .int (nJ lo), .int (nJ hi)]) 1 = some (.int (nJ lo)) := rfl
  have L2 : pm_get (lv_args 0 [.ref 3, .int (nJ lo), .int (nJ hi)]) 2 = some (.int (nJ hi)) := rfl
  generalize lv_args 0 [.ref 3, .int (nJ lo), .int (nJ hi)] = lv at L0 L1 L2 ⊢
  refine E_al rfl L0 ?_
  refine E_ogf (q := (0, 4)) rfl hh rfl rfl c5 ?_
  refine E_ci 2 rfl (by decide) ?_
  by_cases b1 : tkk T L s = 2
  · obtain ⟨v, v1, v2, v3⟩ := c8 b1
    have vb := Vr_bd (lo := lo) (hi := hi) v3 (by omega)
    refine E_icT rfl (decide_eq_true (by rw [b1])) ?_
    have no2 : ¬ (lo ≤ tkv T L s ∧ tkv T L s ≤ hi) → Ends (pm_at tX2_takeNumber) (pm_Rt pm_P (d + 5)) (30, lv, [], h, 0, 0) (fun h' r => r = some (.int (zb (isR (bN T L lo hi (.inr s)) = true))) ∧ fr_g [(3, 1, 2), (3, 5, 9)] h h' ∧ CS T L (bN T L lo hi (.inr s)) h' ∧ (isR (bN T L lo hi (.inr s)) = true → gi h' 3 9 = nJ (bV T L lo hi (.inr s)) ∧ lo ≤ bV T L lo hi (.inr s) ∧ bV T L lo hi (.inr s) ≤ hi)) := by
      intro q
      rw [(bN_2 b1 q).1]
      refine E_al rfl L0 ?_
      refine E_ci 2 rfl (by decide) ?_
      refine E_call rfl (Sp_le (by omega) (sp_refuse (d := d) (k := 2) C0 (by omega) (by omega))) (chkO (a := 3) hh rfl rfl rfl rfl (by show 0 ≤ 8; decide)) (fun h2 r2 => ?_)
      rintro ⟨e2, f2, C2⟩
      rw [e2]
      exact E_rtz rfl (.inl rfl) ⟨by rw [isR_l], fr_wk rfl f2, C2, fun q => by cases q⟩
    refine E_al rfl L0 ?_
    refine E_ogf rfl hh rfl rfl v2 ?_
    refine E_il rfl L1 ?_
    by_cases b2 : v < lo
    · refine E_icT rfl (decide_eq_true ((nJ_lt (by omega) (by omega)).mpr b2)) ?_
      exact no2 (fun q => absurd (vb.mpr q) (by omega))
    refine E_icF rfl (decide_eq_false (fun q => b2 ((nJ_lt (by omega) (by omega)).mp q))) ?_
    refine E_al rfl L0 ?_
    refine E_ogf rfl hh rfl rfl v2 ?_
    refine E_il rfl L2 ?_
    by_cases b3 : v ≤ hi
    · refine E_icT rfl (decide_eq_true ((nJ_le (by omega) (by omega)).mpr b3)) ?_
      have vq := vb.mp ⟨by omega, b3⟩
      have ev := Vr_eq v3 (hi := hi) (by omega) vq.2
      have ok : okN T L lo hi s = true := okN_iff.mpr ⟨b1, vq⟩
      rw [(bN_T ok).1, (bN_T ok).2]
      refine E_al rfl L0 ?_
      refine E_al rfl L0 ?_
      refine E_ogf rfl hh rfl rfl v2 ?_
      refine E_opf (q := (0, 99)) rfl hh rfl rfl ?_
      have hh1 : HH (pt h 3 9 (nJ v)) := HH_ptn hh rfl (by omega) (by omega) (by omega)
      have C1 : CS T L (.inr s) (pt h 3 9 (nJ v)) := ⟨TA_pt A (by omega) hh1, ⟨by rw [gi_ne (by omega)]; exact c6, by rw [gi_ne (by omega)]; exact c7, by rw [gi_ne (by omega)]; exact c5, fun q => by rw [gi_ne (by omega)]; exact c8 q⟩, by rw [gi_ne (by omega)]; exact c1, by rw [gi_ne (by omega)]; exact c2, hs⟩
      refine E_al rfl L0 ?_
      refine E_call rfl (Sp_le (by omega) (sp_nextTok (d := d) C1)) (chkO (a := 3) hh1 rfl rfl rfl rfl (by show 0 ≤ 8; decide)) (fun h2 r2 => ?_)
      rintro ⟨e2, f2, C2⟩
      rw [e2]
      refine E_ci 1 rfl (by decide) ?_
      refine E_rtz rfl (.inr rfl) ⟨by rw [isR_r], fr_trans (fr_ptr (l := 5) (u := 9) rfl (by omega) (by omega) (fr_rf _ _)) (fr_wk rfl f2), C2, fun _ => ⟨?_, vq⟩⟩
      rw [fr_gi f2 rfl, ← ev]
      exact gi_ptn hh rfl (by omega) (by omega) (by omega)
    · refine E_icF rfl (decide_eq_false (fun q => b3 ((nJ_le (by omega) (by omega)).mp q))) ?_
      exact no2 (fun q => b3 (vb.mpr q).2)
  · refine E_icF rfl (decide_eq_false (fun q => b1 ((nJ_eq (by omega) (by omega)).mp q))) ?_
    rw [(bN_1 b1).1]
    refine E_al rfl L0 ?_
    refine E_ci 1 rfl (by decide) ?_
    refine E_call rfl (Sp_le (by omega) (sp_refuse (d := d) (k := 1) C0 (by omega) (by omega))) (chkO (a := 3) hh rfl rfl rfl rfl (by show 0 ≤ 8; decide)) (fun h2 r2 => ?_)
    rintro ⟨e2, f2, C2⟩
    rw [e2]
    exact E_rtz rfl (.inl rfl) ⟨by rw [isR_l], fr_wk rfl f2, C2, fun q => by cases q⟩
theorem sp_takeSemi (C : CS T L (.inr s) h) : Sp (d + 6) 40 h [.ref 3] (fun h' r => r = some (.int (zb (isR (bS T L (.inr s)) = true))) ∧ fr_g [(3, 1, 2), (3, 5, 8)] h h' ∧ CS T L (bS T L (.inr s)) h') := by
  have hh : HH h := C.1.1
  have c5 := C.2.1.2.2.1
  have hkk := tkk_le (T := T) (L := L) (s := s)
  refine Sp_of aiX2_takeSemicolon rfl rfl rfl ?_
  have L0 : pm_get (lv_args 0 [.ref 3]) 0 = some (.ref 3) := rfl
  generalize lv_args 0 [.ref 3] = lv at L0 ⊢
  refine E_al rfl L0 ?_
  refine E_ogf (q := (0, 4)) rfl hh rfl rfl c5 ?_
  refine E_ci 3 rfl (by decide) ?_
  by_cases b1 : tkk T L s = 3
  · rw [bS_T b1]
    refine E_icT rfl (decide_eq_true (by rw [b1])) ?_
    refine E_al rfl L0 ?_
    refine E_call rfl (Sp_le (by omega) (sp_nextTok (d := d) C)) (chkO (a := 3) hh rfl rfl rfl rfl (by show 0 ≤ 8; decide)) (fun h2 r2 => ?_)
    rintro ⟨e2, f2, C2⟩
    rw [e2]
    refine E_ci 1 rfl (by decide) ?_
    exact E_rtz rfl (.inr rfl) ⟨by rw [isR_r], fr_wk rfl f2, C2⟩
  · rw [bS_F b1]
    refine E_icF rfl (decide_eq_false (fun q => b1 ((nJ_eq (by omega) (by omega)).mp q))) ?_
    refine E_al rfl L0 ?_
    refine E_ci 1 rfl (by decide) ?_
    refine E_call rfl (Sp_le (by omega) (sp_refuse (d := d) (k := 1) C (by omega) (by omega))) (chkO (a := 3) hh rfl rfl rfl rfl (by show 0 ≤ 8; decide)) (fun h2 r2 => ?_)
    rintro ⟨e2, f2, C2⟩
    rw [e2]
    exact E_rtz rfl (.inl rfl) ⟨by rw [isR_l], fr_wk rfl f2, C2⟩
end COP
end
section
/-! the reference's words and numbers (wants t42, t43) -/
noncomputable def wcd : List Int64 := [283616147, 235981828, 8798, 298288, 2232, 12253591, 283288069, 208022]
theorem wc_tab : ∀ k : Fin 8, (wcd.getD k.val 0).toInt = wfo (fun i => (pm_byt.getD k.val []).getD i 0) 0 (pm_byt.getD k.val []).length ∧ (pm_byt.getD k.val []).length ≤ 6 ∧ ∀ i : Fin 6, i.val < (pm_byt.getD k.val []).length → ltb ((pm_byt.getD k.val []).getD i.val 0) = true := by decide +kernel
/-- where the reference's reader is -/
noncomputable def RSt (T : Nat → Int32) (L : Nat) : Px → pm_H → Prop
  | .inl (k, p) => fun h => TB T L h ∧ gi h 77 12 = nJ k ∧ gi h 77 13 = nJ p ∧ 1 ≤ k ∧ k ≤ 3 ∧ p ≤ L
  | .inr s => fun h => TB T L h ∧ RT T L s h ∧ gi h 77 12 = nJ 0 ∧ s ≤ L
noncomputable def isX (T : Nat → Int32) (L : Nat) (W : List Int32) : Px → Bool
  | .inl _ => false
  | .inr s => wIs T L s W
section ROP
variable {T : Nat → Int32} {L d k : Nat} {h : pm_H} {x : Px}
theorem RSt_TB (R : RSt T L x h) : TB T L h := by
  match x, R with
  | .inl (k, p), R => exact R.1
  | .inr s, R => exact R.1
theorem RSt_fr {M : List Rng} {h' : pm_H} (hf : fr_g M h h') (h1 : rg_in M 77 6 = false) (h2 : M.all (fun r => !(Nat.beq r.1 82)) = true) (h4 : ∀ k, 7 ≤ k → k ≤ 13 → rg_in M 77 k = false) (hh : HH h') (R : RSt T L x h) : RSt T L x h' := by
  have e : ∀ k, 7 ≤ k → k ≤ 13 → gi h' 77 k = gi h 77 k := fun k a b => fr_gi hf (h4 k a b)
  have el : gl h' 77 11 = gl h 77 11 := by unfold gl; rw [hf 77 11 (h4 11 (by omega) (by omega))]
  match x, R with
  | .inl (k, p), ⟨a, b, c⟩ => exact ⟨TB_fr hf h1 h2 hh a, by rw [e 12 (by omega) (by omega)]; exact b, by rw [e 13 (by omega) (by omega)]; exact c.1, c.2⟩
  | .inr s, ⟨a, ⟨b1, b2, b3, b4, b5⟩, c, c2⟩ => exact ⟨TB_fr hf h1 h2 hh a, ⟨by rw [e 9 (by omega) (by omega)]; exact b1, by rw [e 7 (by omega) (by omega)]; exact b2, by rw [e 8 (by omega) (by omega)]; exact b3, by rw [e 10 (by omega) (by omega)]; exact b4, by rw [el]; exact b5⟩, by rw [e 12 (by omega) (by omega)]; exact c, c2⟩
theorem sp_fl (R : RSt T L x h) (k1 : 1 ≤ k) (k3 : k ≤ 3) : Sp (d + 1) 243 h [.ref 77, .int (nJ k)] (fun h' r => r = none ∧ fr_g FB h h' ∧ RSt T L (bF k x) h') := by
  have hh : HH h := (RSt_TB R).1
  have h5 := (RSt_TB R).2.2.1
  refine Sp_of aiX9_fails rfl rfl rfl ?_
  have L0 : pm_get (lv_args 0 [.ref 77, .int (nJ k)]) 0 = some (.ref 77) := rfl
  have L1 : pm_get (lv_args 0 [.ref 77, .int (nJ k)]) 1 = some (.int (nJ k)) := rfl
  generalize lv_args 0 [.ref 77, .int (nJ k)] = lv at L0 L1 ⊢
  refine E_al rfl L0 ?_
  match x, R with
  | .inl (k', p), R =>
    refine E_gf (q := (0, 3)) rfl hh rfl R.2.1 ?_
    refine E_ifF rfl (decide_eq_false (fun q => absurd ((nJ_eq0 (by have := R.2.2.2.2.1; omega)).mp q) (by have := R.2.2.2.1; omega))) ?_
    exact E_ret rfl ⟨rfl, fr_rf _ _, R⟩
  | .inr s, ⟨B, ⟨b9, b7, b8, b10, b11⟩, c, hs⟩ =>
    refine E_gf (q := (0, 3)) rfl hh rfl c ?_
    refine E_ifT rfl (by decide) ?_
    refine E_al rfl L0 ?_
    refine E_il rfl L1 ?_
    refine E_pf (q := (0, 3)) rfl hh rfl ?_
    have hh1 : HH (pt h 77 12 (nJ k)) := HH_ptn hh rfl (by omega) (by omega) (by omega)
    refine E_al rfl L0 ?_
    refine E_al rfl L0 ?_
    refine E_gf (q := (0, 500)) (v := nJ s) rfl hh1 rfl (by rw [gi_ne (by omega)]; exact b9) ?_
    refine E_pf (q := ((-1), 500)) rfl hh1 rfl ?_
    have hh2 : HH (pt (pt h 77 12 (nJ k)) 77 13 (nJ s)) := HH_ptn hh1 rfl (by omega) (by omega) (by omega)
    refine E_ret rfl ⟨rfl, fr_ptr (l := 12) (u := 13) rfl (by omega) (by omega) (fr_ptr (l := 12) (u := 13) rfl (by omega) (by omega) (fr_rf _ _)), TB_pt (TB_pt B (by omega) hh1) (by omega) hh2, ?_, ?_, k1, k3, hs⟩
    · rw [gi_ne (by omega)]; exact gi_ptn hh rfl (by omega) (by omega) (by omega)
    · exact gi_ptn hh1 rfl (by omega) (by omega) (by omega)
end ROP
end
