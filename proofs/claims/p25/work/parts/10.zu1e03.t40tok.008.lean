section
section ROP
variable {T : Nat → Int32} {L d k : Nat} {h : pm_H} {x : Px}
theorem sp_isW (R : RSt T L x h) (hk : k < 8) : Sp (d + 1) 264 h [.ref 77, .long (wcd.getD k 0)] (fun h' r => h' = h ∧ r = some (.int (zb (isX T L (pm_byt.getD k []) x = true)))) := by
  have hh : HH h := (RSt_TB R).1
  have h5 := (RSt_TB R).2.2.1
  refine Sp_of aiX9_is rfl rfl rfl ?_
  have L0 : pm_get (lv_args 0 [.ref 77, .long (wcd.getD k 0)]) 0 = some (.ref 77) := rfl
  have L1 : pm_get (lv_args 0 [.ref 77, .long (wcd.getD k 0)]) 1 = some (.long (wcd.getD k 0)) := rfl
  generalize lv_args 0 [.ref 77, .long (wcd.getD k 0)] = lv at L0 L1 ⊢
  refine E_al rfl L0 ?_
  match x, R with
  | .inl (k', p), R =>
    refine E_gf (q := (0, 3)) rfl hh rfl R.2.1 ?_
    refine E_ifT rfl (decide_eq_true (fun q => absurd ((nJ_eq0 (by have := R.2.2.2.2.1; omega)).mp q) (by have := R.2.2.2.1; omega))) ?_
    refine E_ci 0 rfl (by decide) ?_
    exact E_rtz rfl (.inl rfl) ⟨rfl, by rw [zb_no (by rfl)]⟩
  | .inr s, ⟨B, ⟨b9, b7, b8, b10, b11⟩, c, hs⟩ =>
    have hkk := tkk_le (T := T) (L := L) (s := s)
    refine E_gf (q := (0, 3)) rfl hh rfl c ?_
    refine E_ifF rfl (by decide) ?_
    refine E_al rfl L0 ?_
    refine E_gf (q := (0, 4)) rfl hh rfl b8 ?_
    refine E_ci 1 rfl (by decide) ?_
    by_cases e1 : tkk T L s = 1
    · refine E_icF rfl (decide_eq_false (fun q => q (by rw [e1]))) ?_
      refine E_al rfl L0 ?_
      refine E_gfw rfl hh rfl ?_
      refine E_ll rfl L1 ?_
      refine E_lcmp rfl ?_
      obtain ⟨t1, t2, t3⟩ := wc_tab ⟨k, hk⟩
      dsimp only at t1 t2 t3
      have iff := wIs_num (T := T) (L := L) (s := s) (W := pm_byt.getD k []) e1 (fun i hi => t3 ⟨i, by omega⟩ hi) (by omega)
      rw [← b11 e1, ← t1] at iff
      by_cases e2 : gl h 77 11 = wcd.getD k 0
      · refine E_ifF rfl (decide_eq_false (fun q => q ((lg_cmp_eq _ _).mpr e2))) ?_
        refine E_ci 1 rfl (by decide) ?_
        refine E_goto rfl ?_
        exact E_rtz rfl (.inr rfl) ⟨rfl, by rw [zb_T (show isX T L (pm_byt.getD k []) (.inr s) = true from iff.mpr (by rw [e2]))]⟩
      · refine E_ifT rfl (decide_eq_true (fun q => e2 ((lg_cmp_eq _ _).mp q))) ?_
        refine E_ci 0 rfl (by decide) ?_
        exact E_rtz rfl (.inl rfl) ⟨rfl, by rw [zb_F (show ¬ isX T L (pm_byt.getD k []) (.inr s) = true from fun q => e2 (Int64.toInt_inj.mp (iff.mp q)))]⟩
    · refine E_icT rfl (decide_eq_true (fun q => e1 ((nJ_eq (by omega) (by omega)).mp q))) ?_
      refine E_ci 0 rfl (by decide) ?_
      exact E_rtz rfl (.inl rfl) ⟨rfl, by rw [zb_F (show ¬ isX T L (pm_byt.getD k []) (.inr s) = true from fun q => e1 (wIs_iff.mp q).1)]⟩
theorem sp_fwn {s : Nat} (R : RSt T L (.inr s) h) : Sp (d + 2) 251 h [.ref 77] (fun h' r => r = none ∧ fr_g FM h h' ∧ RSt T L (.inr (nxt T L s)) h') := by
  obtain ⟨B, ⟨b9, b7, b8, b10, b11⟩, c, hs⟩ := R
  have he := tke_le (T := T) hs
  refine Sp_mono ?_ (sp_fw (d := d) B he.2.1 b7)
  rintro h' r ⟨q1, q2, q3, q4⟩
  exact ⟨q1, q3, TB_fr q3 rfl rfl q2 B, q4, by rw [fr_gi q3 rfl]; exact c, (nxt_le hs).2.1⟩
theorem sp_tkW (R : RSt T L x h) (hk : k < 8) : Sp (d + 3) 358 h [.ref 77, .long (wcd.getD k 0)] (fun h' r => (isX T L (pm_byt.getD k []) x = true ∧ r = some (.int (nJ 1)) ∧ fr_g FM h h' ∧ RSt T L (bW T L (pm_byt.getD k []) x) h') ∨ (isX T L (pm_byt.getD k []) x = false ∧ r = some (.int (nJ 0)) ∧ h' = h)) := by
  have hh : HH h := (RSt_TB R).1
  refine Sp_of aiX9_takesWord rfl rfl rfl ?_
  have L0 : pm_get (lv_args 0 [.ref 77, .long (wcd.getD k 0)]) 0 = some (.ref 77) := rfl
  have L1 : pm_get (lv_args 0 [.ref 77, .long (wcd.getD k 0)]) 1 = some (.long (wcd.getD k 0)) := rfl
  generalize lv_args 0 [.ref 77, .long (wcd.getD k 0)] = lv at L0 L1 ⊢
  refine E_al rfl L0 ?_
  refine E_ll rfl L1 ?_
  refine E_call rfl (sp_isW (d := d + 1) R hk) (chk77 hh rfl rfl (by show 0 ≤ 8; decide)) (fun h1 r1 => ?_)
  rintro ⟨e1, f1⟩
  rw [e1, f1]
  cases hx : isX T L (pm_byt.getD k []) x with
  | true =>
    refine E_ifT rfl (by rw [zb_T rfl]; rfl) ?_
    match x, R, hx with
    | .inr s, R, hx =>
      have hx : wIs T L s (pm_byt.getD k []) = true := hx
      refine E_al rfl L0 ?_
      refine E_call rfl (sp_fwn (d := d) R) (chk77 hh rfl rfl (by show 0 ≤ 8; decide)) (fun h2 r2 => ?_)
      rintro ⟨e2, f2, R2⟩
      rw [e2]
      refine E_ci 1 rfl (by decide) ?_
      exact E_rtz rfl (.inr rfl) (.inl ⟨rfl, rfl, f2, by rw [bW_T hx]; exact R2⟩)
  | false =>
    refine E_ifF rfl (by rw [zb_F (by decide)]; rfl) ?_
    refine E_ci 0 rfl (by decide) ?_
    exact E_rtz rfl (.inl rfl) (.inr ⟨rfl, rfl, rfl⟩)
theorem bW_no {W : List Int32} (hx : isX T L W x = false) : bW T L W x = bF 1 x := by
  match x, hx with
  | .inl f, _ => rfl
  | .inr s, hx => exact bW_F hx
theorem sp_ak (R : RSt T L x h) (hk : k < 8) : Sp (d + 4) 210 h [.ref 77, .long (wcd.getD k 0)] (fun h' r => r = none ∧ fr_g BB h h' ∧ RSt T L (bW T L (pm_byt.getD k []) x) h') := by
  have hh : HH h := (RSt_TB R).1
  refine Sp_of aiX9_asks rfl rfl rfl ?_
  have L0 : pm_get (lv_args 0 [.ref 77, .long (wcd.getD k 0)]) 0 = some (.ref 77) := rfl
  have L1 : pm_get (lv_args 0 [.ref 77, .long (wcd.getD k 0)]) 1 = some (.long (wcd.getD k 0)) := rfl
  generalize lv_args 0 [.ref 77, .long (wcd.getD k 0)] = lv at L0 L1 ⊢
  refine E_al rfl L0 ?_
  refine E_ll rfl L1 ?_
  refine E_call rfl (sp_tkW (d := d) R hk) (chk77 hh rfl rfl (by show 0 ≤ 8; decide)) (fun h1 r1 => ?_)
  rintro (⟨hx, e1, f1, R1⟩ | ⟨hx, e1, f1⟩)
  · rw [e1]
    refine E_ifT rfl (by decide) ?_
    exact E_ret rfl ⟨rfl, fr_wk rfl f1, R1⟩
  · rw [e1, f1]
    refine E_ifF rfl (by decide) ?_
    refine E_al rfl L0 ?_
    refine E_ci 1 rfl (by decide) ?_
    refine E_call rfl (Sp_le (by omega) (sp_fl (d := d) (k := 1) R (by omega) (by omega))) (chk77 hh rfl rfl (by show 0 ≤ 8; decide)) (fun h2 r2 => ?_)
    rintro ⟨e2, f2, R2⟩
    rw [e2]
    exact E_ret rfl ⟨rfl, fr_wk rfl f2, by rw [bW_no hx]; exact R2⟩
theorem sp_nm {lo hi : Nat} (R : RSt T L x h) (hlo : lo ≤ hi) (h99 : hi ≤ 99) : Sp (d + 3) 316 h [.ref 77, .int (nJ lo), .int (nJ hi)] (fun h' r => r = some (.int (nJ (bV T L lo hi x))) ∧ fr_g BB h h' ∧ RSt T L (bN T L lo hi x) h' ∧ lo ≤ bV T L lo hi x ∧ bV T L lo hi x ≤ hi) := by
  have hh : HH h := (RSt_TB R).1
  refine Sp_of aiX9_number rfl rfl rfl ?_
  have L0 : pm_get (lv_args 0 [.ref 77, .int (nJ lo), .int (nJ hi)]) 0 = some (.ref 77) := rfl
  have L1 : pm_get (lv_args 0 [.ref 77, .int (nJ lo), .int (nJ hi)]) 1 = some (.int (nJ lo)) := rfl
  have L2 : pm_get (lv_args 0 [.ref 77, .int (nJ lo), .int (nJ hi)]) 2 = some (.int (nJ hi)) := rfl
  generalize lv_args 0 [.ref 77, .int (nJ lo), .int (nJ hi)] = lv at L0 L1 L2 ⊢
  refine E_al rfl L0 ?_
  match x, R with
  | .inl (k', p), R =>
    refine E_gf (q := (0, 3)) rfl hh rfl R.2.1 ?_
    refine E_ifF rfl (decide_eq_false (fun q => absurd ((nJ_eq0 (by have := R.2.2.2.2.1; omega)).mp q) (by have := R.2.2.2.1; omega))) ?_
    refine E_il rfl L1 ?_
    exact E_rti rfl ⟨rfl, fr_rf _ _, R, Nat.le_refl _, hlo⟩
  | .inr s, R0 =>
    obtain ⟨B, ⟨b9, b7, b8, b10, b11⟩, c, hs⟩ := id R0
    have hkk := tkk_le (T := T) (L := L) (s := s)
    refine E_gf (q := (0, 3)) rfl hh rfl c ?_
    refine E_ifT rfl (by decide) ?_
    refine E_al rfl L0 ?_
    refine E_gf (q := (0, 4)) rfl hh rfl b8 ?_
    refine E_ci 2 rfl (by decide) ?_
    by_cases e1 : tkk T L s = 2
    · obtain ⟨v, v1, v2, v3⟩ := b10 e1
      have vb := Vr_bd (lo := lo) (hi := hi) v3 (by omega)
      refine E_icT rfl (decide_eq_true (by rw [e1])) ?_
      refine E_al rfl L0 ?_
      refine E_gf rfl hh rfl v2 ?_
      refine E_i2l rfl ?_
      refine E_il rfl L1 ?_
      refine E_i2l rfl ?_
      refine E_il rfl L2 ?_
      refine E_i2l rfl ?_
      refine E_call rfl (sp_in (a := (v : Int)) (b := (lo : Int)) (c := (hi : Int)) (i2l_nJ (by omega)) (i2l_nJ (by omega)) (i2l_nJ (by omega))) (chkS rfl (by show 0 ≤ 8; decide)) (fun h2 r2 => ?_)
      rintro ⟨e2, f2⟩
      rw [e2, f2]
      by_cases b2 : lo ≤ v ∧ v ≤ hi
      · refine E_ifT rfl (by rw [zb_T (by omega)]; rfl) ?_
        have vq := vb.mp b2
        have ev := Vr_eq v3 (hi := hi) (by omega) vq.2
        have ok : okN T L lo hi s = true := okN_iff.mpr ⟨e1, vq⟩
        rw [(bN_T ok).1, (bN_T ok).2]
        refine E_al rfl L0 ?_
        refine E_gf rfl hh rfl v2 ?_
        refine E_is rfl (fun lv1 K3 kp => ?_)
        refine E_al rfl (kp 0 _ (by decide) rfl L0) ?_
        refine E_call rfl (sp_fwn (d := d) R0) (chk77 hh rfl rfl (by show 0 ≤ 8; decide)) (fun h3 r3 => ?_)
        rintro ⟨e3, f3, R3⟩
        rw [e3]
        refine E_il rfl K3 ?_
        exact E_rti rfl ⟨by rw [ev], fr_wk rfl f3, R3, vq⟩
      · refine E_ifF rfl (by rw [zb_F (by omega)]; rfl) ?_
        have bn := bN_2 (T := T) (L := L) (s := s) (lo := lo) (hi := hi) e1 (fun q => b2 (vb.mpr q))
        rw [bn.1, bn.2]
        refine E_al rfl L0 ?_
        refine E_ci 2 rfl (by decide) ?_
        refine E_call rfl (Sp_le (by omega) (sp_fl (d := d) (k := 2) R0 (by omega) (by omega))) (chk77 hh rfl rfl (by show 0 ≤ 8; decide)) (fun h3 r3 => ?_)
        rintro ⟨e3, f3, R3⟩
        rw [e3]
        refine E_il rfl L1 ?_
        exact E_rti rfl ⟨rfl, fr_wk rfl f3, R3, Nat.le_refl _, hlo⟩
    · refine E_icF rfl (decide_eq_false (fun q => e1 ((nJ_eq (by omega) (by omega)).mp q))) ?_
      have bn := bN_1 (T := T) (L := L) (s := s) (lo := lo) (hi := hi) e1
      rw [bn.1, bn.2]
      refine E_al rfl L0 ?_
      refine E_ci 1 rfl (by decide) ?_
      refine E_call rfl (Sp_le (by omega) (sp_fl (d := d) (k := 1) R0 (by omega) (by omega))) (chk77 hh rfl rfl (by show 0 ≤ 8; decide)) (fun h3 r3 => ?_)
      rintro ⟨e3, f3, R3⟩
      rw [e3]
      refine E_il rfl L1 ?_
      exact E_rti rfl ⟨rfl, fr_wk rfl f3, R3, Nat.le_refl _, hlo⟩
theorem sp_nmw {lo hi : Nat} (R : RSt T L x h) (hk : k < 8) (hlo : lo ≤ hi) (h99 : hi ≤ 99) : Sp (d + 5) 317 h [.ref 77, .long (wcd.getD k 0), .int (nJ lo), .int (nJ hi)] (fun h' r => r = some (.int (nJ (bV T L lo hi (bW T L (pm_byt.getD k []) x)))) ∧ fr_g BB h h' ∧ RSt T L (bN T L lo hi (bW T L (pm_byt.getD k []) x)) h' ∧ lo ≤ bV T L lo hi (bW T L (pm_byt.getD k []) x) ∧ bV T L lo hi (bW T L (pm_byt.getD k []) x) ≤ hi) := by
  have hh : HH h := (RSt_TB R).1
  refine Sp_of aiX9_number_ rfl rfl rfl ?_
  have L0 : pm_get (lv_args 0 [.ref 77, .long (wcd.getD k 0), .int (nJ lo), .int (nJ hi)]) 0 = some (.ref 77) := rfl
  have L1 : pm_get (lv_args 0 [.ref 77, .long (wcd.getD k 0), .int (nJ lo), .int (nJ hi)]) 1 = some (.long (wcd.getD k 0)) := rfl
  have L3 : pm_get (lv_args 0 [.ref 77, .long (wcd.getD k 0), .int (nJ lo), .int (nJ hi)]) 3 = some (.int (nJ lo)) := rfl
  have L4 : pm_get (lv_args 0 [.ref 77, .long (wcd.getD k 0), .int (nJ lo), .int (nJ hi)]) 4 = some (.int (nJ hi)) := rfl
  generalize lv_args 0 [.ref 77, .long (wcd.getD k 0), .int (nJ lo), .int (nJ hi)] = lv at L0 L1 L3 L4 ⊢
  refine E_al rfl L0 ?_
  refine E_ll rfl L1 ?_
  refine E_call rfl (sp_ak (d := d) R hk) (chk77 hh rfl rfl (by show 0 ≤ 8; decide)) (fun h1 r1 => ?_)
  rintro ⟨e1, f1, R1⟩
  rw [e1]
  refine E_al rfl L0 ?_
  refine E_il rfl L3 ?_
  refine E_il rfl L4 ?_
  refine E_call rfl (Sp_le (by omega) (sp_nm (d := d) R1 hlo h99)) (chk77 (RSt_TB R1).1 rfl rfl (by show 0 ≤ 8; decide)) (fun h2 r2 => ?_)
  rintro ⟨e2, f2, R2, v1, v2⟩
  rw [e2]
  exact E_rti rfl ⟨rfl, fr_trans f1 f2, R2, v1, v2⟩
end ROP
end
