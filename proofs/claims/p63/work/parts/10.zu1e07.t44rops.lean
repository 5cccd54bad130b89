section
/-! the reference's words and numbers (wants t42, t43) -/
noncomputable def wcd : List Int64 := [283616147, 235981828, 8798, 298288, 2232, 12253591, 283288069, 208022]
theorem wc_tab : ∀ k : Fin 8, (wcd.getD k.val 0).toInt = wfo (fun i => (pm_byt.getD k.val []).getD i 0) 0 (pm_byt.getD k.val []).length ∧ (pm_byt.getD k.val []).length ≤ 6 ∧ ∀ i : Fin 6, i.val < (pm_byt.getD k.val []).length → ltb ((pm_byt.getD k.val []).getD i.val 0) = true := by decide +kernel
/-- where the reference's reader is -/
noncomputable def RSt (T : Nat → Int32) (L : Nat) : Px → pm_H → Prop
  | .inl (k, p) => fun h => TB T L h ∧ gi h 77 12 = nJ k ∧ gi h 77 13 = nJ p ∧ 1 ≤ k ∧ k ≤ 3 ∧ p ≤ L
  | .inr s => fun h => TB T L h ∧ RT T L s h ∧ gi h 77 12 = nJ 0 ∧ s ≤ L
noncomputable def isX (T : Nat → Int32) (L : Nat) (W : List Int32) : Px → Bool
  | .inl _ => false
  | .inr s => wIs T L s W
section ROP
variable {T : Nat → Int32} {L d k : Nat} {h : pm_H} {x : Px}
theorem RSt_TB (R : RSt T L x h) : TB T L h := by
  match x, R with
  | .inl (k, p), R => exact R.1
  | .inr s, R => exact R.1
theorem RSt_fr {M : List Rng} {h' : pm_H} (hf : fr_g M h h') (h1 : rg_in M 77 6 = false) (h2 : M.all (fun r => !(Nat.beq r.1 82)) = true) (h4 : ∀ k, 7 ≤ k → k ≤ 13 → rg_in M 77 k = false) (hh : HH h') (R : RSt T L x h) : RSt T L x h' := by
  have e : ∀ k, 7 ≤ k → k ≤ 13 → gi h' 77 k = gi h 77 k := fun k a b => fr_gi hf (h4 k a b)
  have el : gl h' 77 11 = gl h 77 11 := by unfold gl; rw [hf 77 11 (h4 11 (by first | decide | with_reducible assumption | omega) (by first | decide | with_reducible assumption | omega))]
  match x, R with
  | .inl (k, p), ⟨a, b, c⟩ => exact ⟨TB_fr hf h1 h2 hh a, by rw [e 12 (by first | decide | with_reducible assumption | omega) (by first | decide | with_reducible assumption | omega)]; exact b, by rw [e 13 (by first | decide | with_reducible assumption | omega) (by first | decide | with_reducible assumption | omega)]; exact c.1, c.2⟩
  | .inr s, ⟨a, ⟨b1, b2, b3, b4, b5⟩, c, c2⟩ => exact ⟨TB_fr hf h1 h2 hh a, ⟨by rw [e 9 (by first | decide | with_reducible assumption | omega) (by first | decide | with_reducible assumption | omega)]; exact b1, by rw [e 7 (by first | decide | with_reducible assumption | omega) (by first | decide | with_reducible assumption | omega)]; exact b2, by rw [e 8 (by first | decide | with_reducible assumption | omega) (by first | decide | with_reducible assumption | omega)]; exact b3, by rw [e 10 (by first | decide | with_reducible assumption | omega) (by first | decide | with_reducible assumption | omega)]; exact b4, by rw [el]; exact b5⟩, by rw [e 12 (by first | decide | with_reducible assumption | omega) (by first | decide | with_reducible assumption | omega)]; exact c, c2⟩
theorem sp_fl (R : RSt T L x h) (k1 : 1 ≤ k) (k3 : k ≤ 3) : Sp (d + 1) 243 h [.ref 77, .int (nJ k)] (fun h' r => r = none ∧ fr_g FB h h' ∧ RSt T L (bF k x) h') := by
  have hh : HH h := (RSt_TB R).1
  have h5 := (RSt_TB R).2.2.1
  refine Sp_of aiX9_fails rfl rfl rfl ?_
  have L0 : pm_get (lv_args 0 [.ref 77, .int (nJ k)]) 0 = some (.ref 77) := rfl
  have L1 : pm_get (lv_args 0 [.ref 77, .int (nJ k)]) 1 = some (.int (nJ k)) := rfl
  generalize lv_args 0 [.ref 77, .int (nJ k)] = lv at L0 L1 ⊢
  refine E_al rfl L0 ?_
  match x, R with
  | .inl (k', p), R =>
    refine E_gf (q := (0, 3)) rfl hh rfl R.2.1 ?_
    refine E_ifF rfl (decide_eq_false (fun q => absurd ((nJ_eq0 (by have := R.2.2.2.2.1; omega)).mp q) (by have := R.2.2.2.1; omega))) ?_
    exact E_ret rfl ⟨rfl, fr_rf _ _, R⟩
  | .inr s, ⟨B, ⟨b9, b7, b8, b10, b11⟩, c, hs⟩ =>
    refine E_gf (q := (0, 3)) rfl hh rfl c ?_
    refine E_ifT rfl (by decide) ?_
    refine E_al rfl L0 ?_
    refine E_il rfl L1 ?_
    refine E_pf (q := (0, 3)) rfl hh rfl ?_
    have hh1 : HH (pt h 77 12 (nJ k)) := HH_ptn hh rfl (by first | decide | with_reducible assumption | omega) (by first | decide | with_reducible assumption | omega) (by first | decide | with_reducible assumption | omega)
    refine E_al rfl L0 ?_
    refine E_al rfl L0 ?_
    refine E_gf (q := (0, 500)) (v := nJ s) rfl hh1 rfl (by rw [gi_ne (by first | exact gxx rfl | omega)]; exact b9) ?_
    refine E_pf (q := ((-1), 500)) rfl hh1 rfl ?_
    have hh2 : HH (pt (pt h 77 12 (nJ k)) 77 13 (nJ s)) := HH_ptn hh1 rfl (by first | decide | with_reducible assumption | omega) (by first | decide | with_reducible assumption | omega) (by first | decide | with_reducible assumption | omega)
    refine E_ret rfl ⟨rfl, fr_ptr (l := 12) (u := 13) rfl (by first | decide | with_reducible assumption | omega) (by first | decide | with_reducible assumption | omega) (fr_ptr (l := 12) (u := 13) rfl (by first | decide | with_reducible assumption | omega) (by first | decide | with_reducible assumption | omega) (fr_rf _ _)), TB_pt (TB_pt B (by first | decide | with_reducible assumption | omega) hh1) (by first | decide | with_reducible assumption | omega) hh2, ?_, ?_, k1, k3, hs⟩
    · rw [gi_ne (by first | exact gxx rfl | omega)]; exact gi_ptn hh rfl (by first | decide | with_reducible assumption | omega) (by first | decide | with_reducible assumption | omega) (by first | decide | with_reducible assumption | omega)
    · exact gi_ptn hh1 rfl (by first | decide | with_reducible assumption | omega) (by first | decide | with_reducible assumption | omega) (by first | decide | with_reducible assumption | omega)
theorem sp_isW (R : RSt T L x h) (hk : k < 8) : Sp (d + 1) 264 h [.ref 77, .long (wcd.getD k 0)] (fun h' r => h' = h ∧ r = some (.int (zb (isX T L (pm_byt.getD k []) x = true)))) := by
  have hh : HH h := (RSt_TB R).1
  have h5 := (RSt_TB R).2.2.1
  refine Sp_of aiX9_is rfl rfl rfl ?_
  have L0 : pm_get (lv_args 0 [.ref 77, .long (wcd.getD k 0)]) 0 = some (.ref 77) := rfl
  have L1 : pm_get (lv_args 0 [.ref 77, .long (wcd.getD k 0)]) 1 = some (.long (wcd.getD k 0)) := rfl
  generalize lv_args 0 [.ref 77, .long (wcd.getD k 0)] = lv at L0 L1 ⊢
  refine E_al rfl L0 ?_
  match x, R with
  | .inl (k', p), R =>
    refine E_gf (q := (0, 3)) rfl hh rfl R.2.1 ?_
    refine E_ifT rfl (decide_eq_true (fun q => absurd ((nJ_eq0 (by have := R.2.2.2.2.1; omega)).mp q) (by have := R.2.2.2.1; omega))) ?_
    refine E_ci 0 rfl ci0 ?_
    exact E_rtz rfl (.inl rfl) ⟨rfl, by rw [zb_no (by rfl)]⟩
  | .inr s, ⟨B, ⟨b9, b7, b8, b10, b11⟩, c, hs⟩ =>
    have hkk := tkk_le (T := T) (L := L) (s := s)
    refine E_gf (q := (0, 3)) rfl hh rfl c ?_
    refine E_ifF rfl (by decide) ?_
    refine E_al rfl L0 ?_
    refine E_gf (q := (0, 4)) rfl hh rfl b8 ?_
    refine E_ci 1 rfl ci1 ?_
    by_cases e1 : tkk T L s = 1
    · refine E_icF rfl (decide_eq_false (fun q => q (by rw [e1]))) ?_
      refine E_al rfl L0 ?_
      refine E_gfw rfl hh rfl ?_
      refine E_ll rfl L1 ?_
      refine E_lcmp rfl ?_
      obtain ⟨t1, t2, t3⟩ := wc_tab ⟨k, hk⟩
      dsimp only at t1 t2 t3
      have iff := wIs_num (T := T) (L := L) (s := s) (W := pm_byt.getD k []) e1 (fun i hi => t3 ⟨i, by omega⟩ hi) (by first | decide | with_reducible assumption | omega)
      rw [← b11 e1, ← t1] at iff
      by_cases e2 : gl h 77 11 = wcd.getD k 0
      · refine E_ifF rfl (decide_eq_false (fun q => q ((lg_cmp_eq _ _).mpr e2))) ?_
        refine E_ci 1 rfl ci1 ?_
        refine E_goto rfl ?_
        exact E_rtz rfl (.inr rfl) ⟨rfl, by rw [zb_T (show isX T L (pm_byt.getD k []) (.inr s) = true from iff.mpr (by rw [e2]))]⟩
      · refine E_ifT rfl (decide_eq_true (fun q => e2 ((lg_cmp_eq _ _).mp q))) ?_
        refine E_ci 0 rfl ci0 ?_
        exact E_rtz rfl (.inl rfl) ⟨rfl, by rw [zb_F (show ¬ isX T L (pm_byt.getD k []) (.inr s) = true from fun q => e2 (Int64.toInt_inj.mp (iff.mp q)))]⟩
    · refine E_icT rfl (decide_eq_true (fun q => e1 ((nJ_eq (by first | decide | with_reducible assumption | omega) (by first | decide | with_reducible assumption | omega)).mp q))) ?_
      refine E_ci 0 rfl ci0 ?_
      exact E_rtz rfl (.inl rfl) ⟨rfl, by rw [zb_F (show ¬ isX T L (pm_byt.getD k []) (.inr s) = true from fun q => e1 (wIs_iff.mp q).1)]⟩
theorem sp_fwn {s : Nat} (R : RSt T L (.inr s) h) : Sp (d + 2) 251 h [.ref 77] (fun h' r => r = none ∧ fr_g FM h h' ∧ RSt T L (.inr (nxt T L s)) h') := by
  obtain ⟨B, ⟨b9, b7, b8, b10, b11⟩, c, hs⟩ := R
  have he := tke_le (T := T) hs
  refine Sp_mono ?_ (sp_fw (d := d) B he.2.1 b7)
  rintro h' r ⟨q1, q2, q3, q4⟩
  exact ⟨q1, q3, TB_fr q3 rfl rfl q2 B, q4, by rw [fr_gi q3 rfl]; exact c, (nxt_le hs).2.1⟩
theorem sp_tkW (R : RSt T L x h) (hk : k < 8) : Sp (d + 3) 358 h [.ref 77, .long (wcd.getD k 0)] (fun h' r => (isX T L (pm_byt.getD k []) x = true ∧ r = some (.int (nJ 1)) ∧ fr_g FM h h' ∧ RSt T L (bW T L (pm_byt.getD k []) x) h') ∨ (isX T L (pm_byt.getD k []) x = false ∧ r = some (.int (nJ 0)) ∧ h' = h)) := by
  have hh : HH h := (RSt_TB R).1
  refine Sp_of aiX9_takesWord rfl rfl rfl ?_
  have L0 : pm_get (lv_args 0 [.ref 77, .long (wcd.getD k 0)]) 0 = some (.ref 77) := rfl
  have L1 : pm_get (lv_args 0 [.ref 77, .long (wcd.getD k 0)]) 1 = some (.long (wcd.getD k 0)) := rfl
  generalize lv_args 0 [.ref 77, .long (wcd.getD k 0)] = lv at L0 L1 ⊢
  refine E_al rfl L0 ?_
  refine E_ll rfl L1 ?_
  refine E_call rfl (sp_isW (d := d + 1) R hk) (chk77 hh rfl rfl (by show 0 ≤ 8; decide)) (fun h1 r1 => ?_)
  rintro ⟨e1, f1⟩
  rw [e1, f1]
  cases hx : isX T L (pm_byt.getD k []) x with
  | true =>
    refine E_ifT rfl (by rw [zb_T rfl]; rfl) ?_
    match x, R, hx with
    | .inr s, R, hx =>
      have hx : wIs T L s (pm_byt.getD k []) = true := hx
      refine E_al rfl L0 ?_
      refine E_call rfl (sp_fwn (d := d) R) (chk77 hh rfl rfl (by show 0 ≤ 8; decide)) (fun h2 r2 => ?_)
      rintro ⟨e2, f2, R2⟩
      rw [e2]
      refine E_ci 1 rfl ci1 ?_
      exact E_rtz rfl (.inr rfl) (.inl ⟨rfl, rfl, f2, by rw [bW_T hx]; exact R2⟩)
  | false =>
    refine E_ifF rfl (by rw [zb_F (by decide)]; rfl) ?_
    refine E_ci 0 rfl ci0 ?_
    exact E_rtz rfl (.inl rfl) (.inr ⟨rfl, rfl, rfl⟩)
theorem bW_no {W : List Int32} (hx : isX T L W x = false) : bW T L W x = bF 1 x := by
  match x, hx with
  | .inl f, _ => rfl
  | .inr s, hx => exact bW_F hx
theorem sp_ak (R : RSt T L x h) (hk : k < 8) : Sp (d + 4) 210 h [.ref 77, .long (wcd.getD k 0)] (fun h' r => r = none ∧ fr_g BB h h' ∧ RSt T L (bW T L (pm_byt.getD k []) x) h') := by
  have hh : HH h := (RSt_TB R).1
  refine Sp_of aiX9_asks rfl rfl rfl ?_
  have L0 : pm_get (lv_args 0 [.ref 77, .long (wcd.getD k 0)]) 0 = some (.ref 77) := rfl
  have L1 : pm_get (lv_args 0 [.ref 77, .long (wcd.getD k 0)]) 1 = some (.long (wcd.getD k 0)) := rfl
  generalize lv_args 0 [.ref 77, .long (wcd.getD k 0)] = lv at L0 L1 ⊢
  refine E_al rfl L0 ?_
  refine E_ll rfl L1 ?_
  refine E_call rfl (sp_tkW (d := d) R hk) (chk77 hh rfl rfl (by show 0 ≤ 8; decide)) (fun h1 r1 => ?_)
  rintro (⟨hx, e1, f1, R1⟩ | ⟨hx, e1, f1⟩)
  · rw [e1]
    refine E_ifT rfl (by decide) ?_
    exact E_ret rfl ⟨rfl, fr_wk rfl f1, R1⟩
  · rw [e1, f1]
    refine E_ifF rfl (by decide) ?_
    refine E_al rfl L0 ?_
    refine E_ci 1 rfl ci1 ?_
    refine E_call rfl (Sp_le (by first | exact Nat.add_le_add_left (Nat.le_of_ble_eq_true rfl) _ | exact Nat.le_of_ble_eq_true rfl | omega) (sp_fl (d := d) (k := 1) R (by first | decide | with_reducible assumption | omega) (by first | decide | with_reducible assumption | omega))) (chk77 hh rfl rfl (by show 0 ≤ 8; decide)) (fun h2 r2 => ?_)
    rintro ⟨e2, f2, R2⟩
    rw [e2]
    exact E_ret rfl ⟨rfl, fr_wk rfl f2, by rw [bW_no hx]; exact R2⟩
theorem sp_nm {lo hi : Nat} (R : RSt T L x h) (hlo : lo ≤ hi) (h99 : hi ≤ 99) : Sp (d + 3) 316 h [.ref 77, .int (nJ lo), .int (nJ hi)] (fun h' r => r = some (.int (nJ (bV T L lo hi x))) ∧ fr_g BB h h' ∧ RSt T L (bN T L lo hi x) h' ∧ lo ≤ bV T L lo hi x ∧ bV T L lo hi x ≤ hi) := by
  have hh : HH h := (RSt_TB R).1
  refine Sp_of aiX9_number rfl rfl rfl ?_
  have L0 : pm_get (lv_args 0 [.ref 77, .int (nJ lo), .int (nJ hi)]) 0 = some (.ref 77) := rfl
  have L1 : pm_get (lv_args 0 [.ref 77, .int (nJ lo), .int (nJ hi)]) 1 = some (.int (nJ lo)) := rfl
  have L2 : pm_get (lv_args 0 [.ref 77, .int (nJ lo), .int (nJ hi)]) 2 = some (.int (nJ hi)) := rfl
  generalize lv_args 0 [.ref 77, .int (nJ lo), .int (nJ hi)] = lv at L0 L1 L2 ⊢
  refine E_al rfl L0 ?_
  match x, R with
  | .inl (k', p), R =>
    refine E_gf (q := (0, 3)) rfl hh rfl R.2.1 ?_
    refine E_ifF rfl (decide_eq_false (fun q => absurd ((nJ_eq0 (by have := R.2.2.2.2.1; omega)).mp q) (by have := R.2.2.2.1; omega))) ?_
    refine E_il rfl L1 ?_
    exact E_rti rfl ⟨rfl, fr_rf _ _, R, Nat.le_refl _, hlo⟩
  | .inr s, R0 =>
    obtain ⟨B, ⟨b9, b7, b8, b10, b11⟩, c, hs⟩ := id R0
    have hkk := tkk_le (T := T) (L := L) (s := s)
    refine E_gf (q := (0, 3)) rfl hh rfl c ?_
    refine E_ifT rfl (by decide) ?_
    refine E_al rfl L0 ?_
    refine E_gf (q := (0, 4)) rfl hh rfl b8 ?_
    refine E_ci 2 rfl ci2 ?_
    by_cases e1 : tkk T L s = 2
    · obtain ⟨v, v1, v2, v3⟩ := b10 e1
      have vb := Vr_bd (lo := lo) (hi := hi) v3 (by first | decide | with_reducible assumption | omega)
      refine E_icT rfl (decide_eq_true (by rw [e1])) ?_
      refine E_al rfl L0 ?_
      refine E_gf rfl hh rfl v2 ?_
      refine E_i2l rfl ?_
      refine E_il rfl L1 ?_
      refine E_i2l rfl ?_
      refine E_il rfl L2 ?_
      refine E_i2l rfl ?_
      refine E_call rfl (sp_in (a := (v : Int)) (b := (lo : Int)) (c := (hi : Int)) (i2l_nJ (by first | decide | with_reducible assumption | omega)) (i2l_nJ (by first | decide | with_reducible assumption | omega)) (i2l_nJ (by first | decide | with_reducible assumption | omega))) (chkS rfl (by show 0 ≤ 8; decide)) (fun h2 r2 => ?_)
      rintro ⟨e2, f2⟩
      rw [e2, f2]
      by_cases b2 : lo ≤ v ∧ v ≤ hi
      · refine E_ifT rfl (by rw [zb_T (by first | decide | with_reducible assumption | omega)]; rfl) ?_
        have vq := vb.mp b2
        have ev := Vr_eq v3 (hi := hi) (by first | decide | with_reducible assumption | omega) vq.2
        have ok : okN T L lo hi s = true := okN_iff.mpr ⟨e1, vq⟩
        rw [(bN_T ok).1, (bN_T ok).2]
        refine E_al rfl L0 ?_
        refine E_gf rfl hh rfl v2 ?_
        refine E_is rfl (fun lv1 K3 kp => ?_)
        refine E_al rfl (kp 0 _ (nbz rfl) rfl L0) ?_
        refine E_call rfl (sp_fwn (d := d) R0) (chk77 hh rfl rfl (by show 0 ≤ 8; decide)) (fun h3 r3 => ?_)
        rintro ⟨e3, f3, R3⟩
        rw [e3]
        refine E_il rfl K3 ?_
        exact E_rti rfl ⟨by rw [ev], fr_wk rfl f3, R3, vq⟩
      · refine E_ifF rfl (by rw [zb_F (by first | decide | with_reducible assumption | omega)]; rfl) ?_
        have bn := bN_2 (T := T) (L := L) (s := s) (lo := lo) (hi := hi) e1 (fun q => b2 (vb.mpr q))
        rw [bn.1, bn.2]
        refine E_al rfl L0 ?_
        refine E_ci 2 rfl ci2 ?_
        refine E_call rfl (Sp_le (by first | exact Nat.add_le_add_left (Nat.le_of_ble_eq_true rfl) _ | exact Nat.le_of_ble_eq_true rfl | omega) (sp_fl (d := d) (k := 2) R0 (by first | decide | with_reducible assumption | omega) (by first | decide | with_reducible assumption | omega))) (chk77 hh rfl rfl (by show 0 ≤ 8; decide)) (fun h3 r3 => ?_)
        rintro ⟨e3, f3, R3⟩
        rw [e3]
        refine E_il rfl L1 ?_
        exact E_rti rfl ⟨rfl, fr_wk rfl f3, R3, Nat.le_refl _, hlo⟩
    · refine E_icF rfl (decide_eq_false (fun q => e1 ((nJ_eq (by first | decide | with_reducible assumption | omega) (by first | decide | with_reducible assumption | omega)).mp q))) ?_
      have bn := bN_1 (T := T) (L := L) (s := s) (lo := lo) (hi := hi) e1
      rw [bn.1, bn.2]
      refine E_al rfl L0 ?_
      refine E_ci 1 rfl ci1 ?_
      refine E_call rfl (Sp_le (by first | exact Nat.add_le_add_left (Nat.le_of_ble_eq_true rfl) _ | exact Nat.le_of_ble_eq_true rfl | omega) (sp_fl (d := d) (k := 1) R0 (by first | decide | with_reducible assumption | omega) (by first | decide | with_reducible assumption | omega))) (chk77 hh rfl rfl (by show 0 ≤ 8; decide)) (fun h3 r3 => ?_)
      rintro ⟨e3, f3, R3⟩
      rw [e3]
      refine E_il rfl L1 ?_
      exact E_rti rfl ⟨rfl, fr_wk rfl f3, R3, Nat.le_refl _, hlo⟩
theorem sp_nmw {lo hi : Nat} (R : RSt T L x h) (hk : k < 8) (hlo : lo ≤ hi) (h99 : hi ≤ 99) : Sp (d + 5) 317 h [.ref 77, .long (wcd.getD k 0), .int (nJ lo), .int (nJ hi)] (fun h' r => r = some (.int (nJ (bV T L lo hi (bW T L (pm_byt.getD k []) x)))) ∧ fr_g BB h h' ∧ RSt T L (bN T L lo hi (bW T L (pm_byt.getD k []) x)) h' ∧ lo ≤ bV T L lo hi (bW T L (pm_byt.getD k []) x) ∧ bV T L lo hi (bW T L (pm_byt.getD k []) x) ≤ hi) := by
  have hh : HH h := (RSt_TB R).1
  refine Sp_of aiX9_number_ rfl rfl rfl ?_
  have L0 : pm_get (lv_args 0 [.ref 77, .long (wcd.getD k 0), .int (nJ lo), .int (nJ hi)]) 0 = some (.ref 77) := rfl
  have L1 : pm_get (lv_args 0 [.ref 77, .long (wcd.getD k 0), .int (nJ lo), .int (nJ hi)]) 1 = some (.long (wcd.getD k 0)) := rfl
  have L3 : pm_get (lv_args 0 [.ref 77, .long (wcd.getD k 0), .int (nJ lo), .int (nJ hi)]) 3 = some (.int (nJ lo)) := rfl
  have L4 : pm_get (lv_args 0 [.ref 77, .long (wcd.getD k 0), .int (nJ lo), .int (nJ hi)]) 4 = some (.int (nJ hi)) := rfl
  generalize lv_args 0 [.ref 77, .long (wcd.getD k 0), .int (nJ lo), .int (nJ hi)] = lv at L0 L1 L3 L4 ⊢
  refine E_al rfl L0 ?_
  refine E_ll rfl L1 ?_
  refine E_call rfl (sp_ak (d := d) R hk) (chk77 hh rfl rfl (by show 0 ≤ 8; decide)) (fun h1 r1 => ?_)
  rintro ⟨e1, f1, R1⟩
  rw [e1]
  refine E_al rfl L0 ?_
  refine E_il rfl L3 ?_
  refine E_il rfl L4 ?_
  refine E_call rfl (Sp_le (by first | exact Nat.add_le_add_left (Nat.le_of_ble_eq_true rfl) _ | exact Nat.le_of_ble_eq_true rfl | omega) (sp_nm (d := d) R1 hlo h99)) (chk77 (RSt_TB R1).1 rfl rfl (by show 0 ≤ 8; decide)) (fun h2 r2 => ?_)
  rintro ⟨e2, f2, R2, v1, v2⟩
  rw [e2]
  exact E_rti rfl ⟨rfl, fr_trans f1 f2, R2, v1, v2⟩
theorem sp_cl {s : Nat} (R : RSt T L (.inr s) h) : Sp (d + 3) 228 h [.ref 77] (fun h' r => r = none ∧ fr_g BB h h' ∧ RSt T L (bS T L (.inr s)) h') := by
  obtain ⟨B, ⟨b9, b7, b8, b10, b11⟩, c, hs⟩ := id R
  have hh : HH h := B.1
  have hkk := tkk_le (T := T) (L := L) (s := s)
  refine Sp_of aiX9_closes rfl rfl rfl ?_
  have L0 : pm_get (lv_args 0 [.ref 77]) 0 = some (.ref 77) := rfl
  generalize lv_args 0 [.ref 77] = lv at L0 ⊢
  refine E_al rfl L0 ?_
  refine E_gf (q := (0, 4)) rfl hh rfl b8 ?_
  refine E_ci 3 rfl ci3 ?_
  by_cases e1 : tkk T L s = 3
  · rw [bS_T e1]
    refine E_icT rfl (decide_eq_true (by rw [e1])) ?_
    refine E_al rfl L0 ?_
    refine E_gf (q := (0, 3)) rfl hh rfl c ?_
    refine E_ifF rfl (by decide) ?_
    refine E_al rfl L0 ?_
    refine E_call rfl (sp_fwn (d := d) R) (chk77 hh rfl rfl (by show 0 ≤ 8; decide)) (fun h2 r2 => ?_)
    rintro ⟨e2, f2, R2⟩
    rw [e2]
    exact E_ret rfl ⟨rfl, fr_wk rfl f2, R2⟩
  · rw [bS_F e1]
    refine E_icF rfl (decide_eq_false (fun q => e1 ((nJ_eq (by first | decide | with_reducible assumption | omega) (by first | decide | with_reducible assumption | omega)).mp q))) ?_
    refine E_al rfl L0 ?_
    refine E_ci 1 rfl ci1 ?_
    refine E_call rfl (Sp_le (by first | exact Nat.add_le_add_left (Nat.le_of_ble_eq_true rfl) _ | exact Nat.le_of_ble_eq_true rfl | omega) (sp_fl (d := d) (k := 1) R (by first | decide | with_reducible assumption | omega) (by first | decide | with_reducible assumption | omega))) (chk77 hh rfl rfl (by show 0 ≤ 8; decide)) (fun h2 r2 => ?_)
    rintro ⟨e2, f2, R2⟩
    rw [e2]
    have R2 : RSt T L (.inl (1, s)) h2 := R2
    refine E_al rfl L0 ?_
    refine E_gf (q := (0, 3)) rfl R2.1.1 rfl R2.2.1 ?_
    refine E_ifT rfl (by decide) ?_
    exact E_ret rfl ⟨rfl, fr_wk rfl f2, R2⟩
theorem sp_bg (B : TB T L h) : Sp (d + 3) 213 h [.ref 77] (fun h' r => r = none ∧ fr_g BB h h' ∧ RSt T L (.inr (skp T L 0)) h') := by
  have hh : HH h := B.1
  refine Sp_of aiX9_begins rfl rfl rfl ?_
  have L0 : pm_get (lv_args 0 [.ref 77]) 0 = some (.ref 77) := rfl
  generalize lv_args 0 [.ref 77] = lv at L0 ⊢
  refine E_al rfl L0 ?_
  refine E_ci 0 rfl ci0 ?_
  refine E_pf (q := (0, 3)) rfl hh rfl ?_
  have hh1 : HH (pt h 77 12 (nJ 0)) := HH_ptn hh rfl (by first | decide | with_reducible assumption | omega) (by first | decide | with_reducible assumption | omega) (by first | decide | with_reducible assumption | omega)
  refine E_al rfl L0 ?_
  refine E_c rfl ?_
  refine E_pf (q := ((-1), 500)) rfl hh1 rfl ?_
  have hh2 : HH (pt (pt h 77 12 (nJ 0)) 77 13 (-1)) := HH_pt hh1 rfl (by decide) (by decide)
  refine E_al rfl L0 ?_
  refine E_ci 0 rfl ci0 ?_
  refine E_pf (q := (0, 500)) rfl hh2 rfl ?_
  have hh3 : HH (pt (pt (pt h 77 12 (nJ 0)) 77 13 (-1)) 77 7 (nJ 0)) := HH_ptn hh2 rfl (by first | decide | with_reducible assumption | omega) (by first | decide | with_reducible assumption | omega) (by first | decide | with_reducible assumption | omega)
  have B3 := TB_pt (TB_pt (TB_pt B (by first | decide | with_reducible assumption | omega) hh1) (by first | decide | with_reducible assumption | omega) hh2) (by first | decide | with_reducible assumption | omega) hh3
  refine E_al rfl L0 ?_
  refine E_call rfl (sp_fw (d := d) (i := 0) B3 (Nat.zero_le _) (gi_ptn hh2 rfl (by first | decide | with_reducible assumption | omega) (by first | decide | with_reducible assumption | omega) (by first | decide | with_reducible assumption | omega))) (chk77 hh3 rfl rfl (by show 0 ≤ 8; decide)) (fun h2 r2 => ?_)
  rintro ⟨e2, q2, f2, R2⟩
  rw [e2]
  refine E_ret rfl ⟨rfl, fr_trans (fr_ptr (l := 7) (u := 13) rfl (by first | decide | with_reducible assumption | omega) (by first | decide | with_reducible assumption | omega) (fr_ptr (l := 7) (u := 13) rfl (by first | decide | with_reducible assumption | omega) (by first | decide | with_reducible assumption | omega) (fr_ptr (l := 7) (u := 13) rfl (by first | decide | with_reducible assumption | omega) (by first | decide | with_reducible assumption | omega) (fr_rf _ _)))) (fr_wk rfl f2), TB_fr f2 rfl rfl q2 B3, R2, ?_, (skp_le (Nat.zero_le _)).2⟩
  rw [fr_gi f2 rfl, gi_ne (by first | exact gxx rfl | omega), gi_ne (by first | exact gxx rfl | omega)]
  exact gi_ptn hh rfl (by first | decide | with_reducible assumption | omega) (by first | decide | with_reducible assumption | omega) (by first | decide | with_reducible assumption | omega)
/-- fault and its place, of how a reading ended -/
noncomputable def pxk : Px → Nat
  | .inl f => f.1
  | .inr _ => 0
noncomputable def pxp : Px → Int32
  | .inl f => nJ f.2
  | .inr _ => -1
theorem sp_ov (R : RSt T L x h) : Sp (d + 1) 275 h [.ref 77] (fun h' r => r = none ∧ HH h' ∧ fr_g OVM h h' ∧ gi h' 77 6 = nJ 0 ∧ gi h' 77 14 = nJ (pxk x) ∧ gi h' 77 15 = pxp x) := by
  have B := RSt_TB R
  have h5 := B.2.2.1
  have hh : HH h := B.1
  refine Sp_of aiX9_isOver rfl rfl rfl ?_
  have L0 : pm_get (lv_args 0 [.ref 77]) 0 = some (.ref 77) := rfl
  generalize lv_args 0 [.ref 77] = lv at L0 ⊢
  have g12 : gi h 77 12 = nJ (pxk x) := by
    match x, R with
    | .inl (k, p), R => exact R.2.1
    | .inr s, R => exact R.2.2.1
  have k3 : pxk x ≤ 3 := by
    match x, R with
    | .inl (k, p), R => exact R.2.2.2.2.1
    | .inr s, R => exact Nat.zero_le _
  refine E_al rfl L0 ?_
  refine E_ci 0 rfl ci0 ?_
  refine E_pf (q := (0, 500)) rfl hh rfl ?_
  have hh1 : HH (pt h 77 6 (nJ 0)) := HH_ptn hh rfl (by first | decide | with_reducible assumption | omega) (by first | decide | with_reducible assumption | omega) (by first | decide | with_reducible assumption | omega)
  refine E_al rfl L0 ?_
  refine E_al rfl L0 ?_
  refine E_gf (q := (0, 3)) (v := nJ (pxk x)) rfl hh1 rfl (by rw [gi_ne (by first | exact gxx rfl | omega)]; exact g12) ?_
  refine E_pf (q := (0, 3)) rfl hh1 rfl ?_
  have hh2 : HH (pt (pt h 77 6 (nJ 0)) 77 14 (nJ (pxk x))) := HH_ptn hh1 rfl (by first | decide | with_reducible assumption | omega) (by first | decide | with_reducible assumption | omega) (by first | decide | with_reducible assumption | omega)
  refine E_al rfl L0 ?_
  refine E_al rfl L0 ?_
  refine E_gf (q := (0, 3)) (v := nJ (pxk x)) rfl hh2 rfl (by rw [gi_ne (by first | exact gxx rfl | omega), gi_ne (by first | exact gxx rfl | omega)]; exact g12) ?_
  have fin : HH (pt (pt (pt h 77 6 (nJ 0)) 77 14 (nJ (pxk x))) 77 15 (pxp x)) → Ends (pm_at tX9_isOver) (pm_Rt pm_P d) (29, lv, [.int (pxp x), .ref 77], pt (pt h 77 6 (nJ 0)) 77 14 (nJ (pxk x)), 0, 0) (fun h' r => r = none ∧ HH h' ∧ fr_g OVM h h' ∧ gi h' 77 6 = nJ 0 ∧ gi h' 77 14 = nJ (pxk x) ∧ gi h' 77 15 = pxp x) := by
    intro hh3
    refine E_pf (q := ((-1), 500)) rfl hh2 rfl ?_
    have b15 : (-1 : Int) ≤ (pxp x).toInt ∧ (pxp x).toInt ≤ 500 := by
      match x, R with
      | .inl (k, p), R =>
        have := R.2.2.2.2.2
        show (-1 : Int) ≤ (nJ p).toInt ∧ (nJ p).toInt ≤ 500
        rw [nJ_toInt (by first | decide | with_reducible assumption | omega)]
        omega
      | .inr s, R =>
        show (-1 : Int) ≤ (-1 : Int32).toInt ∧ (-1 : Int32).toInt ≤ 500
        decide
    refine E_ret rfl ⟨rfl, hh3, fr_ptr (l := 14) (u := 15) rfl (by first | decide | with_reducible assumption | omega) (by first | decide | with_reducible assumption | omega) (fr_ptr (l := 14) (u := 15) rfl (by first | decide | with_reducible assumption | omega) (by first | decide | with_reducible assumption | omega) (fr_ptr (l := 6) (u := 6) rfl (by first | decide | with_reducible assumption | omega) (by first | decide | with_reducible assumption | omega) (fr_rf _ _))), ?_, ?_, ?_⟩
    · rw [gi_ne (by first | exact gxx rfl | omega), gi_ne (by first | exact gxx rfl | omega)]; exact gi_ptn hh rfl (by first | decide | with_reducible assumption | omega) (by first | decide | with_reducible assumption | omega) (by first | decide | with_reducible assumption | omega)
    · rw [gi_ne (by first | exact gxx rfl | omega)]; exact gi_ptn hh1 rfl (by first | decide | with_reducible assumption | omega) (by first | decide | with_reducible assumption | omega) (by first | decide | with_reducible assumption | omega)
    · exact gi_pt hh2 (q := ((-1), 500)) rfl b15.1 b15.2
  match x, R with
  | .inl (k, p), R =>
    refine E_ifT rfl (decide_eq_true (fun q => absurd ((nJ_eq0 (by have := R.2.2.2.2.1; show k < _; omega)).mp q) (by have := R.2.2.2.1; show ¬ k = 0; omega))) ?_
    refine E_al rfl L0 ?_
    refine E_gf (q := ((-1), 500)) (v := nJ p) rfl hh2 rfl (by rw [gi_ne (by first | exact gxx rfl | omega), gi_ne (by first | exact gxx rfl | omega)]; exact R.2.2.1) ?_
    exact fin (HH_ptn hh2 rfl (by have := R.2.2.2.2.2; omega) (by first | decide | with_reducible assumption | omega) (by have := R.2.2.2.2.2; omega))
  | .inr s, R =>
    refine E_ifF rfl (show (decide (¬ nJ 0 = 0)) = false by decide) ?_
    refine E_c rfl ?_
    refine E_goto rfl ?_
    exact fin (HH_pt (q := ((-1), 500)) hh2 rfl (show (-1 : Int) ≤ (-1 : Int32).toInt by decide) (show (-1 : Int32).toInt ≤ 500 by decide))
end ROP
end
section
/-! a street's text, purely (wants t43, mg of 10.ztg) -/
/-- blocks of numbers, by joins -/
noncomputable def bl (A B : Nat → Nat) : Nat → Nat → Nat
  | 0 => fun k => k
  | j + 1 => mg (bl A B j) (A j) (B j)
/-- a number's block, were two blocks joined -/
noncomputable def wj (b : Nat → Nat) (x y k : Nat) : Nat := if b k = b x ∨ b k = b y then 0 else b k
noncomputable def XC (w : Nat → Nat) (n : Nat) : Prop := ∃ p q r s, 1 ≤ p ∧ p < q ∧ q < r ∧ r < s ∧ s ≤ n ∧ w p ≠ w q ∧ w p = w r ∧ w q = w s
noncomputable def MAY (n : Nat) (b : Nat → Nat) (x y : Nat) : Prop := b x ≠ b y ∧ ¬ XC (wj b x y) n
noncomputable def mayb (n : Nat) (b : Nat → Nat) (x y : Nat) : Bool := @decide (MAY n b x y) (Classical.propDecidable _)
theorem mayb_T {n x y : Nat} {b : Nat → Nat} (h : MAY n b x y) : mayb n b x y = true := @decide_eq_true _ (Classical.propDecidable _) h
theorem mayb_F {n x y : Nat} {b : Nat → Nat} (h : ¬ MAY n b x y) : mayb n b x y = false := @decide_eq_false _ (Classical.propDecidable _) h
/-- places, law, odds; cars, wishes, stands; joins -/
noncomputable abbrev Sg : Type := (Nat × Nat × Nat) × (Nat × (Nat → Nat) × (Nat → Nat)) × (Nat × (Nat → Nat) × (Nat → Nat))
noncomputable def fup (f : Nat → Nat) (i v : Nat) : Nat → Nat := fun k => if k = i then v else f k
section PRS
variable (T : Nat → Int32) (L : Nat)
noncomputable def bJ (n : Nat) (b : Nat → Nat) (a : Nat) : Px → Px
  | .inl f => .inl f
  | .inr s => bif okN T L 1 n s && !(mayb n b a (tkv T L s)) then .inl (2, s) else .inr s
noncomputable def wd (k : Nat) : List Int32 := pm_byt.getD k []
noncomputable def lnH (x : Px) : Px × (Nat × Nat × Nat) :=
  (bN T L 0 10 (bW T L (wd 3) (bN T L 0 3 (bW T L (wd 2) (bN T L 1 8 (bW T L (wd 1) (bW T L (wd 0) x)))))),
   bV T L 1 8 (bW T L (wd 1) (bW T L (wd 0) x)),
   bV T L 0 3 (bW T L (wd 2) (bN T L 1 8 (bW T L (wd 1) (bW T L (wd 0) x)))),
   bV T L 0 10 (bW T L (wd 3) (bN T L 0 3 (bW T L (wd 2) (bN T L 1 8 (bW T L (wd 1) (bW T L (wd 0) x)))))))
noncomputable def lnC (p : Nat) (x : Px) : Px × Nat × Nat :=
  (bN T L 0 99 (bW T L (wd 6) (bN T L 1 p (bW T L (wd 5) x))), bV T L 1 p (bW T L (wd 5) x), bV T L 0 99 (bW T L (wd 6) (bN T L 1 p (bW T L (wd 5) x))))
noncomputable def lnJ (n : Nat) (b : Nat → Nat) (x : Px) : Px × Nat × Nat :=
  (bN T L 1 n (bJ T L n b (bV T L 1 n x) (bN T L 1 n x)), bV T L 1 n x, bV T L 1 n (bJ T L n b (bV T L 1 n x) (bN T L 1 n x)))
/-- a line: how it ends, and what is told then -/
noncomputable def ln (n : Nat) (σ : Sg) (s : Nat) : Px × Sg :=
  bif Nat.beq n 0 then ((lnH T L (.inr s)).1, (lnH T L (.inr s)).2, σ.2.1, σ.2.2)
  else bif wIs T L s (wd 4) then
    (bif Nat.beq σ.2.1.1 σ.1.1 then (.inl (3, s), σ) else ((lnC T L σ.1.1 (.inr (nxt T L s))).1, σ.1, (σ.2.1.1 + 1, fup σ.2.1.2.1 σ.2.1.1 (lnC T L σ.1.1 (.inr (nxt T L s))).2.1, fup σ.2.1.2.2 σ.2.1.1 (lnC T L σ.1.1 (.inr (nxt T L s))).2.2), σ.2.2))
  else bif wIs T L s (wd 7) then
    ((lnJ T L (σ.1.1 + 1) (bl σ.2.2.2.1 σ.2.2.2.2 σ.2.2.1) (.inr (nxt T L s))).1, σ.1, σ.2.1, (σ.2.2.1 + 1, fup σ.2.2.2.1 σ.2.2.1 (lnJ T L (σ.1.1 + 1) (bl σ.2.2.2.1 σ.2.2.2.2 σ.2.2.1) (.inr (nxt T L s))).2.1, fup σ.2.2.2.2 σ.2.2.1 (lnJ T L (σ.1.1 + 1) (bl σ.2.2.2.1 σ.2.2.2.2 σ.2.2.1) (.inr (nxt T L s))).2.2))
  else (.inl (1, s), σ)
noncomputable def σ0 : Sg := ((0, 0, 0), (0, fun _ => 0, fun _ => 0), (0, fun _ => 0, fun _ => 0))
noncomputable def prs : Nat → Nat → Sg → Nat → Px × Nat × Sg
  | 0, n, σ, s => (.inr s, n, σ)
  | f + 1, n, σ, s => bif Nat.beq (tkk T L s) 0 then (.inr s, n, σ) else (match bS T L (ln T L n σ s).1 with
    | .inl e => (.inl e, n, σ)
    | .inr s' => prs f (n + 1) (ln T L n σ s).2 s')
/-- the whole text -/
noncomputable def PRS : Px × Nat × Sg := prs T L (L + 1) 0 σ0 (skp T L 0)
end PRS
section PRL
variable {T : Nat → Int32} {L : Nat}
theorem prs_end {f n s : Nat} {σ : Sg} (h : tkk T L s = 0) : prs T L (f + 1) n σ s = (.inr s, n, σ) := by
  show (bif Nat.beq (tkk T L s) 0 then _ else _) = _
  rw [nbeq.mpr h]
  rfl
theorem prs_bad {f n s : Nat} {σ : Sg} {e : Nat × Nat} (h : ¬ tkk T L s = 0) (hb : bS T L (ln T L n σ s).1 = .inl e) : prs T L (f + 1) n σ s = (.inl e, n, σ) := by
  show (bif Nat.beq (tkk T L s) 0 then _ else (match bS T L (ln T L n σ s).1 with | .inl e => _ | .inr s' => _)) = _
  rw [nbeqF h, hb]
  rfl
theorem prs_go {f n s s' : Nat} {σ : Sg} (h : ¬ tkk T L s = 0) (hb : bS T L (ln T L n σ s).1 = .inr s') : prs T L (f + 1) n σ s = prs T L f (n + 1) (ln T L n σ s).2 s' := by
  show (bif Nat.beq (tkk T L s) 0 then _ else (match bS T L (ln T L n σ s).1 with | .inl e => _ | .inr s' => _)) = _
  rw [nbeqF h, hb]
  rfl
theorem bW_in {W : List Int32} {x : Px} {s : Nat} (h : bW T L W x = .inr s) : ∃ t, x = .inr t ∧ wIs T L t W = true ∧ s = nxt T L t := by
  match x, h with
  | .inl e, h => cases h
  | .inr t, h =>
    cases hw : wIs T L t W with
    | true => rw [bW_T hw] at h; cases h; exact ⟨t, rfl, hw, rfl⟩
    | false => rw [bW_F hw] at h; cases h
theorem bN_in {lo hi : Nat} {x : Px} {s : Nat} (h : bN T L lo hi x = .inr s) : ∃ t, x = .inr t ∧ okN T L lo hi t = true ∧ s = nxt T L t := by
  match x, h with
  | .inl e, h => cases h
  | .inr t, h =>
    cases hw : okN T L lo hi t with
    | true => rw [(bN_T hw).1] at h; cases h; exact ⟨t, rfl, hw, rfl⟩
    | false => unfold bN at h; dsimp only at h; rw [hw] at h; cases h
theorem bS_in {x : Px} {s : Nat} (h : bS T L x = .inr s) : ∃ t, x = .inr t ∧ tkk T L t = 3 ∧ s = nxt T L t := by
  match x, h with
  | .inl e, h => cases h
  | .inr t, h =>
    by_cases hw : tkk T L t = 3
    · rw [bS_T hw] at h; cases h; exact ⟨t, rfl, hw, rfl⟩
    · rw [bS_F hw] at h; cases h
theorem bJ_in {n a : Nat} {b : Nat → Nat} {x : Px} {s : Nat} (h : bJ T L n b a x = .inr s) : x = .inr s := by
  match x, h with
  | .inl e, h => cases h
  | .inr t, h =>
    unfold bJ at h
    dsimp only at h
    cases hq : (okN T L 1 n t && !(mayb n b a (tkv T L t))) with
    | true => rw [hq] at h; cases h
    | false => rw [hq] at h; cases h; rfl
end PRL
end
section
/-! masks of numbers, chains of two sides, blocks that cross: mathematics (wants t45) -/
noncomputable def ms (p : Nat → Bool) : Nat → Nat
  | 0 => 0
  | n + 1 => ms p n + (bif p (n + 1) then 2 ^ n else 0)
theorem ms_lt (p : Nat → Bool) : ∀ n, ms p n < 2 ^ n
  | 0 => by show 0 < 1; omega
  | n + 1 => by
    have a := ms_lt p n
    have e : 2 ^ (n + 1) = 2 ^ n * 2 := Nat.pow_succ 2 n
    show ms p n + (bif p (n + 1) then 2 ^ n else 0) < _
    cases p (n + 1) with
    | true => show ms p n + 2 ^ n < _; omega
    | false => show ms p n + 0 < _; omega
theorem ms_bit (p : Nat → Bool) : ∀ n i, Nat.testBit (ms p n) i = (decide (i < n) && p (i + 1))
  | 0, i => by
    show Nat.testBit 0 i = _
    rw [Nat.zero_testBit, decide_eq_false (Nat.not_lt_zero i)]
    rfl
  | n + 1, i => by
    have a := ms_lt p n
    have ih := ms_bit p n
    show Nat.testBit (ms p n + (bif p (n + 1) then 2 ^ n else 0)) i = _
    by_cases h1 : i < n
    · rw [decide_eq_true (show i < n + 1 by omega)]
      have e := ih i
      rw [decide_eq_true h1] at e
      cases p (n + 1) with
      | true =>
        show Nat.testBit (ms p n + 2 ^ n) i = _
        rw [Nat.add_comm, Nat.testBit_two_pow_add_gt h1]
        exact e
      | false => exact e
    · by_cases h2 : i = n
      · subst h2
        rw [decide_eq_true (show i < i + 1 by omega)]
        cases hp : p (i + 1) with
        | true =>
          show Nat.testBit (ms p i + 2 ^ i) i = _
          rw [Nat.add_comm, Nat.testBit_two_pow_add_eq, Nat.testBit_lt_two_pow a]
          rfl
        | false =>
          show Nat.testBit (ms p i + 0) i = _
          rw [Nat.add_zero, Nat.testBit_lt_two_pow a]
          rfl
      · rw [decide_eq_false (show ¬ i < n + 1 by omega)]
        have b := ms_lt p (n + 1)
        have c : 2 ^ (n + 1) ≤ 2 ^ i := Nat.pow_le_pow_right (by first | decide | with_reducible assumption | omega) (by first | decide | with_reducible assumption | omega)
        exact Nat.testBit_lt_two_pow (Nat.lt_of_lt_of_le b c)
theorem ms_eq {p q : Nat → Bool} {n : Nat} (h : ∀ k, 1 ≤ k → k ≤ n → p k = q k) : ms p n = ms q n := by
  induction n with
  | zero => rfl
  | succ n ih =>
    show ms p n + (bif p (n + 1) then 2 ^ n else 0) = ms q n + (bif q (n + 1) then 2 ^ n else 0)
    rw [ih (fun k a b => h k a (by first | decide | with_reducible assumption | omega)), h (n + 1) (by first | decide | with_reducible assumption | omega) (by first | decide | with_reducible assumption | omega)]
theorem ms_or (p q : Nat → Bool) (n : Nat) : ms p n ||| ms q n = ms (fun k => p k || q k) n := Nat.eq_of_testBit_eq (fun i => by
  rw [Nat.testBit_or, ms_bit, ms_bit, ms_bit]
  cases decide (i < n) <;> rfl)
theorem ms_inj {p q : Nat → Bool} {n k : Nat} (h : ms p n = ms q n) (h1 : 1 ≤ k) (h2 : k ≤ n) : p k = q k := by
  have a := ms_bit p n (k - 1)
  have b := ms_bit q n (k - 1)
  rw [h, b, decide_eq_true (show k - 1 < n by omega), show k - 1 + 1 = k by omega] at a
  exact a.symm
/-! two sides of numbers -/
noncomputable def sd (p q : Nat → Bool) (k : Nat) : Nat := bif p k then 1 else bif q k then 2 else 0
noncomputable def cxs (p q : Nat → Bool) : Nat → Nat × Nat
  | 0 => (0, 0)
  | n + 1 => (bif Nat.beq (sd p q (n + 1)) 0 then (cxs p q n).1 else sd p q (n + 1), bif Nat.beq (cxs p q n).1 0 || (Nat.beq (sd p q (n + 1)) 0 || Nat.beq (sd p q (n + 1)) (cxs p q n).1) then (cxs p q n).2 else (cxs p q n).2 + 1)
noncomputable def Ch (f : Nat → Nat) : Nat → Nat → Nat → Prop
  | 0, _, _ => True
  | m + 1, x, n => ∃ k, 1 ≤ k ∧ k ≤ n ∧ f k = x ∧ Ch f m (3 - x) (k - 1)
theorem Ch_up {f : Nat → Nat} {m x n n' : Nat} (h : n ≤ n') (c : Ch f m x n) : Ch f m x n' := by
  cases m with
  | zero => trivial
  | succ m =>
    obtain ⟨k, h1, h2, h3⟩ := c
    exact ⟨k, h1, by omega, h3⟩
theorem Ch_dn {f : Nat → Nat} : ∀ {m x n : Nat}, Ch f (m + 1) x n → Ch f m x n
  | 0, _, _, _ => trivial
  | m + 1, _, _, ⟨k, h1, h2, h3, h4⟩ => ⟨k, h1, h2, h3, Ch_dn h4⟩
theorem Ch_le {f : Nat → Nat} {m x n : Nat} (j : Nat) (c : Ch f (m + j) x n) : Ch f m x n := by
  induction j with
  | zero => exact c
  | succ j ih => exact ih (Ch_dn c)
theorem Ch_no {f : Nat → Nat} {m x n : Nat} (hx : f (n + 1) ≠ x) (c : Ch f (m + 1) x (n + 1)) : Ch f (m + 1) x n := by
  obtain ⟨k, h1, h2, h3, h4⟩ := c
  by_cases e : k = n + 1
  · rw [e] at h3; exact absurd h3 hx
  · exact ⟨k, h1, by omega, h3, h4⟩
theorem sd_le (p q : Nat → Bool) (k : Nat) : sd p q k ≤ 2 := by
  unfold sd
  cases p k with
  | true => show 1 ≤ 2; omega
  | false => cases q k with
    | true => show 2 ≤ 2; omega
    | false => show 0 ≤ 2; omega
theorem cxs_ok (p q : Nat → Bool) : ∀ n, ((cxs p q n).1 = 0 ∧ (cxs p q n).2 = 0 ∧ ∀ k, 1 ≤ k → k ≤ n → sd p q k = 0) ∨ (((cxs p q n).1 = 1 ∨ (cxs p q n).1 = 2) ∧ Ch (sd p q) ((cxs p q n).2 + 1) (cxs p q n).1 n ∧ ¬ Ch (sd p q) ((cxs p q n).2 + 2) (cxs p q n).1 n ∧ ¬ Ch (sd p q) ((cxs p q n).2 + 1) (3 - (cxs p q n).1) n)
  | 0 => .inl ⟨rfl, rfl, fun k h1 h2 => by omega⟩
  | n + 1 => by
    have ih := cxs_ok p q n
    have ht := sd_le p q (n + 1)
    have e1 : (cxs p q (n + 1)).1 = (bif Nat.beq (sd p q (n + 1)) 0 then (cxs p q n).1 else sd p q (n + 1)) := rfl
    have e2 : (cxs p q (n + 1)).2 = (bif Nat.beq (cxs p q n).1 0 || (Nat.beq (sd p q (n + 1)) 0 || Nat.beq (sd p q (n + 1)) (cxs p q n).1) then (cxs p q n).2 else (cxs p q n).2 + 1) := rfl
    generalize (cxs p q (n + 1)).1 = S' at e1 ⊢
    generalize (cxs p q (n + 1)).2 = C' at e2 ⊢
    generalize (cxs p q n).1 = S at ih e1 e2
    generalize (cxs p q n).2 = C at ih e2
    by_cases t0 : sd p q (n + 1) = 0
    · rw [nbeq.mpr t0] at e1 e2
      have e1 : S' = S := e1
      have e2 : C' = C := by
        rw [e2]
        cases Nat.beq S 0 <;> rfl
      rw [e1, e2]
      rcases ih with ⟨a, b, c⟩ | ⟨a, b, c, d⟩
      · refine .inl ⟨a, b, fun k h1 h2 => ?_⟩
        by_cases e : k = n + 1
        · rw [e]; exact t0
        · exact c k h1 (by first | decide | with_reducible assumption | omega)
      · exact .inr ⟨a, Ch_up (by first | decide | with_reducible assumption | omega) b, fun z => c (Ch_no (by first | decide | with_reducible assumption | omega) z), fun z => d (Ch_no (by first | decide | with_reducible assumption | omega) z)⟩
    · rw [nbeqF t0] at e1 e2
      have e1 : S' = sd p q (n + 1) := e1
      rcases ih with ⟨a, b, c⟩ | ⟨a, b, c, d⟩
      · rw [nbeq.mpr a] at e2
        have e2 : C' = C := e2
        rw [e1, e2, b]
        have no : ∀ m x, x ≠ 0 → ¬ Ch (sd p q) (m + 1) x n := fun m x hx z => by
          obtain ⟨k, h1, h2, h3, -⟩ := z
          rw [c k h1 h2] at h3
          exact hx h3.symm
        refine .inr ⟨by omega, ⟨n + 1, by omega, Nat.le_refl _, rfl, trivial⟩, fun z => ?_, fun z => no 0 _ (by first | decide | with_reducible assumption | omega) (Ch_no (by first | decide | with_reducible assumption | omega) z)⟩
        obtain ⟨k, h1, h2, h3, h4⟩ := z
        exact no 0 (3 - sd p q (n + 1)) (by first | decide | with_reducible assumption | omega) (Ch_up (by first | decide | with_reducible assumption | omega) h4)
      · rw [nbeqF (show S ≠ 0 by omega)] at e2
        by_cases ts : sd p q (n + 1) = S
        · rw [nbeq.mpr ts] at e2
          have e2 : C' = C := e2
          rw [e1, e2, ts]
          refine .inr ⟨a, Ch_up (by first | decide | with_reducible assumption | omega) b, fun z => ?_, fun z => d (Ch_no (by first | decide | with_reducible assumption | omega) z)⟩
          obtain ⟨k, h1, h2, h3, h4⟩ := z
          by_cases e : k = n + 1
          · subst e
            exact d h4
          · exact c ⟨k, h1, by omega, h3, h4⟩
        · rw [nbeqF ts] at e2
          have e2 : C' = C + 1 := e2
          have e3 : 3 - sd p q (n + 1) = S := by omega
          rw [e1, e2, e3]
          refine .inr ⟨by omega, ⟨n + 1, by omega, Nat.le_refl _, rfl, by rw [e3]; exact b⟩, fun z => ?_, fun z => c (Ch_no (by first | decide | with_reducible assumption | omega) z)⟩
          obtain ⟨k, h1, h2, h3, h4⟩ := z
          rw [e3] at h4
          exact c (Ch_up (by first | decide | with_reducible assumption | omega) h4)
theorem cxs_3 (p q : Nat → Bool) (n : Nat) : 3 ≤ (cxs p q n).2 ↔ ∃ x, (x = 1 ∨ x = 2) ∧ Ch (sd p q) 4 x n := by
  have h := cxs_ok p q n
  generalize (cxs p q n).1 = S at h
  generalize (cxs p q n).2 = C at h ⊢
  constructor
  · intro c3
    rcases h with ⟨a, b, c⟩ | ⟨a, b, c, d⟩
    · omega
    · refine ⟨S, a, Ch_le (C - 3) ?_⟩
      rw [show 4 + (C - 3) = C + 1 by omega]
      exact b
  · rintro ⟨x, hx, c4⟩
    refine Classical.byContradiction (fun q3 => ?_)
    rcases h with ⟨a, b, c⟩ | ⟨a, b, c, d⟩
    · obtain ⟨k, h1, h2, h3, -⟩ := c4
      rw [c k h1 h2] at h3
      omega
    · by_cases e : x = S
      · subst e
        refine c (Ch_le (2 - C) ?_)
        rw [show C + 2 + (2 - C) = 4 by omega]
        exact c4
      · refine d (Ch_le (3 - C) ?_)
        rw [show C + 1 + (3 - C) = 4 by omega, show 3 - S = x by omega]
        exact c4
theorem Ch4 {f : Nat → Nat} {x n : Nat} (hx : x = 1 ∨ x = 2) : Ch f 4 x n ↔ ∃ a b c d, 1 ≤ a ∧ a < b ∧ b < c ∧ c < d ∧ d ≤ n ∧ f a = 3 - x ∧ f b = x ∧ f c = 3 - x ∧ f d = x := by
  have e : 3 - (3 - x) = x := by omega
  constructor
  · rintro ⟨d, d1, d2, d3, c, c1, c2, c3, b, b1, b2, b3, a, a1, a2, a3, -⟩
    rw [e] at b3 a3
    exact ⟨a, b, c, d, a1, by omega, by omega, by omega, d2, a3, b3, c3, d3⟩
  · rintro ⟨a, b, c, d, h1, h2, h3, h4, h5, ea, eb, ec, ed⟩
    refine ⟨d, by omega, h5, ed, c, by omega, by omega, ec, b, by omega, by omega, by rw [e]; exact eb, a, h1, by omega, by rw [e]; exact ea, trivial⟩
/-! blocks -/
noncomputable def inW (b : Nat → Nat) (x y : Nat) (k : Nat) : Bool := Nat.beq (b k) (b x) || Nat.beq (b k) (b y)
theorem inW_iff {b : Nat → Nat} {x y k : Nat} : inW b x y k = true ↔ (b k = b x ∨ b k = b y) := by
  unfold inW
  rw [Bool.or_eq_true, nbeq, nbeq]
theorem inW_F {b : Nat → Nat} {x y k : Nat} : inW b x y k = false ↔ ¬ (b k = b x ∨ b k = b y) := by
  rw [← inW_iff]
  cases inW b x y k <;> simp
theorem wj_T {b : Nat → Nat} {x y k : Nat} (h : inW b x y k = true) : wj b x y k = 0 := if_pos (inW_iff.mp h)
theorem wj_F {b : Nat → Nat} {x y k : Nat} (h : inW b x y k = false) : wj b x y k = b k := if_neg (inW_F.mp h)
/-- no two blocks cross -/
noncomputable def NC (b : Nat → Nat) (n : Nat) : Prop := ¬ XC b n
theorem XC_iff {b : Nat → Nat} {x y n : Nat} (hb : ∀ k, 1 ≤ k → k ≤ n → 1 ≤ b k) (N : NC b n) : XC (wj b x y) n ↔ ∃ k, 1 ≤ k ∧ k ≤ n ∧ inW b x y k = false ∧ 3 ≤ (cxs (inW b x y) (fun i => Nat.beq (b i) (b k)) n).2 := by
  constructor
  · rintro ⟨p, q, r, s, h1, h2, h3, h4, h5, e1, e2, e3⟩
    have mk : ∀ k, 1 ≤ k → k ≤ n → inW b x y k = false → ∀ {i : Nat}, inW b x y i = true → sd (inW b x y) (fun i => Nat.beq (b i) (b k)) i = 1 := fun k _ _ _ i hi => by unfold sd; rw [hi]; rfl
    have mk2 : ∀ k, ∀ {i : Nat}, inW b x y i = false → b i = b k → sd (inW b x y) (fun i => Nat.beq (b i) (b k)) i = 2 := fun k i hi e => by
      unfold sd
      rw [hi]
      show (bif Nat.beq (b i) (b k) then 2 else 0) = 2
      rw [nbeq.mpr e]
      rfl
    cases hp : inW b x y p with
    | true =>
      rw [wj_T hp] at e1 e2
      have hr : inW b x y r = true := by
        cases hr : inW b x y r with
        | true => rfl
        | false => rw [wj_F hr] at e2; have := hb r (by first | decide | with_reducible assumption | omega) (by first | decide | with_reducible assumption | omega); omega
      have hq : inW b x y q = false := by
        cases hq : inW b x y q with
        | false => rfl
        | true => rw [wj_T hq] at e1; exact absurd rfl e1
      have hs : inW b x y s = false := by
        cases hs : inW b x y s with
        | false => rfl
        | true => rw [wj_T hs, wj_F hq] at e3; have := hb q (by first | decide | with_reducible assumption | omega) (by first | decide | with_reducible assumption | omega); omega
      rw [wj_F hq, wj_F hs] at e3
      refine ⟨q, by omega, by omega, hq, (cxs_3 _ _ _).mpr ⟨2, .inr rfl, (Ch4 (.inr rfl)).mpr ⟨p, q, r, s, h1, h2, h3, h4, h5, ?_, ?_, ?_, ?_⟩⟩⟩
      · exact mk q (by first | decide | with_reducible assumption | omega) (by first | decide | with_reducible assumption | omega) hq hp
      · exact mk2 q hq rfl
      · exact mk q (by first | decide | with_reducible assumption | omega) (by first | decide | with_reducible assumption | omega) hq hr
      · exact mk2 q hs e3.symm
    | false =>
      rw [wj_F hp] at e1 e2
      have hr : inW b x y r = false := by
        cases hr : inW b x y r with
        | false => rfl
        | true => rw [wj_T hr] at e2; have := hb p (by first | decide | with_reducible assumption | omega) (by first | decide | with_reducible assumption | omega); omega
      rw [wj_F hr] at e2
      cases hq : inW b x y q with
      | true =>
        have hs : inW b x y s = true := by
          cases hs : inW b x y s with
          | true => rfl
          | false => rw [wj_F hs, wj_T hq] at e3; have := hb s (by first | decide | with_reducible assumption | omega) (by first | decide | with_reducible assumption | omega); omega
        refine ⟨p, by omega, by omega, hp, (cxs_3 _ _ _).mpr ⟨1, .inl rfl, (Ch4 (.inl rfl)).mpr ⟨p, q, r, s, h1, h2, h3, h4, h5, ?_, ?_, ?_, ?_⟩⟩⟩
        · exact mk2 p hp rfl
        · exact mk p (by first | decide | with_reducible assumption | omega) (by first | decide | with_reducible assumption | omega) hp hq
        · exact mk2 p hr e2.symm
        · exact mk p (by first | decide | with_reducible assumption | omega) (by first | decide | with_reducible assumption | omega) hp hs
      | false =>
        have hs : inW b x y s = false := by
          cases hs : inW b x y s with
          | false => rfl
          | true => rw [wj_T hs, wj_F hq] at e3; have := hb q (by first | decide | with_reducible assumption | omega) (by first | decide | with_reducible assumption | omega); omega
        rw [wj_F hq] at e1 e3
        rw [wj_F hs] at e3
        exact absurd ⟨p, q, r, s, h1, h2, h3, h4, h5, e1, e2, e3⟩ N
  · rintro ⟨k, k1, k2, k3, k4⟩
    obtain ⟨z, hz, c⟩ := (cxs_3 _ _ _).mp k4
    obtain ⟨p, q, r, s, h1, h2, h3, h4, h5, ea, eb, ec, ed⟩ := (Ch4 hz).mp c
    have s1 : ∀ {i : Nat}, sd (inW b x y) (fun i => Nat.beq (b i) (b k)) i = 1 → wj b x y i = 0 := fun {i} h => by
      cases hi : inW b x y i with
      | true => exact wj_T hi
      | false =>
        unfold sd at h
        rw [hi] at h
        have h : (bif Nat.beq (b i) (b k) then 2 else 0) = 1 := h
        cases hq : Nat.beq (b i) (b k) with
        | true => rw [hq] at h; cases h
        | false => rw [hq] at h; cases h
    have s2 : ∀ {i : Nat}, sd (inW b x y) (fun i => Nat.beq (b i) (b k)) i = 2 → wj b x y i = b k := fun {i} h => by
      cases hi : inW b x y i with
      | true => unfold sd at h; rw [hi] at h; cases h
      | false =>
        unfold sd at h
        rw [hi] at h
        have h : (bif Nat.beq (b i) (b k) then 2 else 0) = 2 := h
        cases hq : Nat.beq (b i) (b k) with
        | true => rw [wj_F hi]; exact nbeq.mp hq
        | false => rw [hq] at h; cases h
    have bk := hb k k1 k2
    rcases hz with rfl | rfl
    · exact ⟨p, q, r, s, h1, h2, h3, h4, h5, by rw [s2 ea, s1 eb]; omega, by rw [s2 ea, s2 ec], by rw [s1 eb, s1 ed]⟩
    · exact ⟨p, q, r, s, h1, h2, h3, h4, h5, by rw [s1 ea, s2 eb]; omega, by rw [s1 ea, s1 ec], by rw [s2 eb, s2 ed]⟩
theorem mg_T {b : Nat → Nat} {x y k : Nat} (hk : 1 ≤ k) (h : inW b x y k = true) : mg b x y k = min (b x) (b y) := by
  have := inW_iff.mp h
  unfold mg
  by_cases q : 1 ≤ k ∧ b k = max (b x) (b y)
  · rw [if_pos q]
  · rw [if_neg q]; omega
theorem mg_F {b : Nat → Nat} {x y k : Nat} (h : inW b x y k = false) : mg b x y k = b k := by
  have := inW_F.mp h
  unfold mg
  rw [if_neg (by first | decide | with_reducible assumption | omega)]
theorem mg_eq {b : Nat → Nat} {x y i k : Nat} (hi : 1 ≤ i) (hk : 1 ≤ k) : mg b x y i = mg b x y k ↔ ((inW b x y i = true ∧ inW b x y k = true) ∨ (inW b x y i = false ∧ inW b x y k = false ∧ b i = b k)) := by
  cases h1 : inW b x y i with
  | true =>
    rw [mg_T hi h1]
    cases h2 : inW b x y k with
    | true => rw [mg_T hk h2]; simp
    | false =>
      rw [mg_F h2]
      have := inW_F.mp h2
      constructor
      · intro q; omega
      · rintro (⟨_, q⟩ | ⟨q, _⟩) <;> cases q
  | false =>
    rw [mg_F h1]
    have a1 := inW_F.mp h1
    cases h2 : inW b x y k with
    | true =>
      rw [mg_T hk h2]
      constructor
      · intro q; omega
      · rintro (⟨q, _⟩ | ⟨_, q, _⟩) <;> cases q
    | false => rw [mg_F h2]; simp
theorem wj_mg {b : Nat → Nat} {x y n : Nat} (hb : ∀ k, 1 ≤ k → k ≤ n → 1 ≤ b k) {i k : Nat} (hi : 1 ≤ i) (hi2 : i ≤ n) (hk : 1 ≤ k) (hk2 : k ≤ n) : wj b x y i = wj b x y k ↔ mg b x y i = mg b x y k := by
  rw [mg_eq hi hk]
  have b1 := hb i hi hi2
  have b2 := hb k hk hk2
  cases h1 : inW b x y i with
  | true =>
    rw [wj_T h1]
    cases h2 : inW b x y k with
    | true => rw [wj_T h2]; simp
    | false =>
      rw [wj_F h2]
      constructor
      · intro q; omega
      · rintro (⟨_, q⟩ | ⟨q, _⟩) <;> cases q
  | false =>
    rw [wj_F h1]
    cases h2 : inW b x y k with
    | true =>
      rw [wj_T h2]
      constructor
      · intro q; omega
      · rintro (⟨q, _⟩ | ⟨_, q, _⟩) <;> cases q
    | false => rw [wj_F h2]; simp
theorem NC_mg {b : Nat → Nat} {x y n : Nat} (hb : ∀ k, 1 ≤ k → k ≤ n → 1 ≤ b k) (h : ¬ XC (wj b x y) n) : NC (mg b x y) n := by
  rintro ⟨p, q, r, s, h1, h2, h3, h4, h5, e1, e2, e3⟩
  exact h ⟨p, q, r, s, h1, h2, h3, h4, h5, fun z => e1 ((wj_mg hb (by first | decide | with_reducible assumption | omega) (by first | decide | with_reducible assumption | omega) (by first | decide | with_reducible assumption | omega) (by first | decide | with_reducible assumption | omega)).mp z), (wj_mg hb (by first | decide | with_reducible assumption | omega) (by first | decide | with_reducible assumption | omega) (by first | decide | with_reducible assumption | omega) (by first | decide | with_reducible assumption | omega)).mpr e2, (wj_mg hb (by first | decide | with_reducible assumption | omega) (by first | decide | with_reducible assumption | omega) (by first | decide | with_reducible assumption | omega) (by first | decide | with_reducible assumption | omega)).mpr e3⟩
theorem NC_id (n : Nat) : NC (fun k => k) n := by
  rintro ⟨p, q, r, s, h1, h2, h3, h4, h5, e1, e2, e3⟩
  have e2 : p = r := e2
  omega
end
section
/-! the class's blocks (wants t46, t41) -/
theorem nJ_bv (a : Nat) : (nJ a).toBitVec = BitVec.ofNat 32 a := BitVec.ofInt_natCast 32 a
theorem nJ_or {a b : Nat} (ha : a < 512) (hb : b < 512) : nJ a ||| nJ b = nJ (a ||| b) := by
  have hc : a ||| b < 2 ^ 9 := Nat.or_lt_two_pow ha hb
  apply Int32.toBitVec_inj.mp
  rw [Int32.toBitVec_or, nJ_bv, nJ_bv, nJ_bv]
  apply BitVec.eq_of_toNat_eq
  rw [BitVec.toNat_or, BitVec.toNat_ofNat, BitVec.toNat_ofNat, BitVec.toNat_ofNat, Nat.mod_eq_of_lt (by first | decide | with_reducible assumption | omega), Nat.mod_eq_of_lt (by first | decide | with_reducible assumption | omega), Nat.mod_eq_of_lt (by first | decide | with_reducible assumption | omega)]
theorem bl_land : ∀ m : Fin 512, ∀ k : Fin 9, Nat.beq (m.val &&& 2 ^ k.val) 0 = !(Nat.testBit m.val k.val) := by decide +kernel
theorem and_tab : ∀ m : Fin 512, ∀ k : Fin 9, (nJ m.val &&& nJ (2 ^ k.val) = 0) ↔ Nat.testBit m.val k.val = false := by
  intro m k
  have t := bl_land m k
  have l : m.val &&& 2 ^ k.val ≤ m.val := Nat.and_le_left
  have h5 := m.isLt
  rw [bl_and]
  show (nJ (m.val &&& 2 ^ k.val) = nJ 0) ↔ _
  rw [nJ_eq (by first | decide | with_reducible assumption | omega) (by first | decide | with_reducible assumption | omega)]
  cases b : Nat.testBit m.val k.val with
  | true => rw [b] at t; exact ⟨fun e => absurd t (by rw [e]; decide), fun e => by cases e⟩
  | false => rw [b] at t; exact ⟨fun _ => rfl, fun _ => Nat.eq_of_beq_eq_true t⟩
theorem shl_tab : ∀ k : Fin 9, nJ 1 <<< (nJ k.val &&& 31) = nJ (2 ^ k.val) := by decide +kernel
theorem p512 {n : Nat} (h : n ≤ 9) (p : Nat → Bool) : ms p n < 512 := Nat.lt_of_lt_of_le (ms_lt p n) (Nat.pow_le_pow_right (by first | decide | with_reducible assumption | omega) h)
theorem and_ms {p : Nat → Bool} {n i : Nat} (hn : n ≤ 9) (hi : i < n) : (nJ (ms p n) &&& nJ (2 ^ i) = 0) ↔ p (i + 1) = false := by
  have h := and_tab ⟨ms p n, p512 hn p⟩ ⟨i, by omega⟩
  dsimp only at h
  rw [h, ms_bit, decide_eq_true hi, Bool.true_and]
theorem cxs_le (p q : Nat → Bool) : ∀ n, (cxs p q n).2 ≤ n ∧ (cxs p q n).1 ≤ 2
  | 0 => ⟨Nat.le_refl _, Nat.zero_le _⟩
  | n + 1 => by
    have ih := cxs_le p q n
    have ht := sd_le p q (n + 1)
    constructor
    · show (bif Nat.beq (cxs p q n).1 0 || (Nat.beq (sd p q (n + 1)) 0 || Nat.beq (sd p q (n + 1)) (cxs p q n).1) then (cxs p q n).2 else (cxs p q n).2 + 1) ≤ n + 1
      cases (Nat.beq (cxs p q n).1 0 || (Nat.beq (sd p q (n + 1)) 0 || Nat.beq (sd p q (n + 1)) (cxs p q n).1)) with
      | true => show (cxs p q n).2 ≤ n + 1; omega
      | false => show (cxs p q n).2 + 1 ≤ n + 1; omega
    · show (bif Nat.beq (sd p q (n + 1)) 0 then (cxs p q n).1 else sd p q (n + 1)) ≤ 2
      cases Nat.beq (sd p q (n + 1)) 0 with
      | true => exact ih.2
      | false => exact ht
noncomputable def mkb (n : Nat) (b : Nat → Nat) (k : Nat) : Nat := ms (fun i => Nat.beq (b i) (b k)) n
/-- the masks of blocks -/
noncomputable def MK (n : Nat) (b : Nat → Nat) (h : pm_H) : Prop := gi h 13 1 = nJ n ∧ 1 ≤ n ∧ n ≤ 9 ∧ ∀ k, 1 ≤ k → k ≤ n → gi h 14 k = nJ (mkb n b k)
section CBK
variable {h : pm_H} {d : Nat}
theorem sp_placeBit {k : Nat} (k1 : 1 ≤ k) (k9 : k ≤ 9) : Sp (d + 1) 160 h [.int (nJ k)] (fun h' r => h' = h ∧ r = some (.int (nJ (2 ^ (k - 1))))) := by
  refine Sp_of aiX8_placeBit rfl rfl rfl ?_
  have L0 : pm_get (lv_args 0 [.int (nJ k)]) 0 = some (.int (nJ k)) := rfl
  generalize lv_args 0 [.int (nJ k)] = lv at L0 ⊢
  refine E_ci 1 rfl ci1 ?_
  refine E_il rfl L0 ?_
  refine E_ci 1 rfl ci1 ?_
  refine E_bin rfl (nJ_sub k1) ?_
  refine E_bin rfl (shl_tab ⟨k - 1, by omega⟩) ?_
  exact E_rti rfl ⟨rfl, rfl⟩
theorem cr_loop {p q : Nat → Bool} {n : Nat} (hh : HH h) (g1 : gi h 13 1 = nJ n) (hn : n ≤ 9) (j : Nat) : ∀ {i : Nat} (lv : List (Nat × Value)), i + j = n → pm_get lv 0 = some (.ref 13) → pm_get lv 1 = some (.int (nJ (ms p n))) → pm_get lv 2 = some (.int (nJ (ms q n))) → pm_get lv 3 = some (.int (nJ (cxs p q i).2)) → pm_get lv 4 = some (.int (nJ (cxs p q i).1)) → pm_get lv 5 = some (.int (nJ (i + 1))) → Ends (pm_at tX0_crosses) (pm_Rt pm_P (d + 1)) (8, lv, [], h, 0, 0) (fun h' r => h' = h ∧ r = some (.int (zb (3 ≤ (cxs p q n).2)))) := by
  induction j with
  | zero =>
    intro i lv hj L0 L1 L2 L3 L4 L5
    have e : i = n := by omega
    subst e
    have c := cxs_le p q i
    refine E_il rfl L5 ?_
    refine E_al rfl L0 ?_
    refine E_ogf (q := (0, 9)) rfl hh rfl rfl g1 ?_
    refine E_icT rfl (decide_eq_true ((nJ_lt (by first | decide | with_reducible assumption | omega) (by first | decide | with_reducible assumption | omega)).mpr (by first | decide | with_reducible assumption | omega))) ?_
    refine E_il rfl L3 ?_
    refine E_ci 3 rfl ci3 ?_
    by_cases b : 3 ≤ (cxs p q i).2
    · refine E_icF rfl (decide_eq_false (fun z => absurd ((nJ_lt (by first | decide | with_reducible assumption | omega) (by first | decide | with_reducible assumption | omega)).mp z) (by first | decide | with_reducible assumption | omega))) ?_
      refine E_ci 1 rfl ci1 ?_
      refine E_goto rfl ?_
      exact E_rtz rfl (.inr rfl) ⟨rfl, by rw [zb_T b]⟩
    · refine E_icT rfl (decide_eq_true ((nJ_lt (by first | decide | with_reducible assumption | omega) (by first | decide | with_reducible assumption | omega)).mpr (by first | decide | with_reducible assumption | omega))) ?_
      refine E_ci 0 rfl ci0 ?_
      exact E_rtz rfl (.inl rfl) ⟨rfl, by rw [zb_F b]⟩
  | succ j ih =>
    intro i lv hj L0 L1 L2 L3 L4 L5
    have c := cxs_le p q i
    refine E_il rfl L5 ?_
    refine E_al rfl L0 ?_
    refine E_ogf (q := (0, 9)) rfl hh rfl rfl g1 ?_
    refine E_icF rfl (decide_eq_false (fun z => absurd ((nJ_lt (by first | decide | with_reducible assumption | omega) (by first | decide | with_reducible assumption | omega)).mp z) (by first | decide | with_reducible assumption | omega))) ?_
    refine E_il rfl L5 ?_
    refine E_call rfl (sp_placeBit (d := d) (by first | decide | with_reducible assumption | omega) (by first | decide | with_reducible assumption | omega)) (chkS rfl (by show 0 ≤ 8; decide)) (fun h1 r1 => ?_)
    rintro ⟨e1, f1⟩
    rw [e1, f1, show i + 1 - 1 = i by omega]
    refine E_is rfl (fun lv1 K6 kp => ?_)
    have M0 := kp 0 _ (nbz rfl) rfl L0
    have M1 := kp 1 _ (nbz rfl) rfl L1
    have M2 := kp 2 _ (nbz rfl) rfl L2
    have M3 := kp 3 _ (nbz rfl) rfl L3
    have M4 := kp 4 _ (nbz rfl) rfl L4
    have M5 := kp 5 _ (nbz rfl) rfl L5
    have ht := sd_le p q (i + 1)
    have fin : ∀ {w : Nat}, w = (bif Nat.beq (sd p q (i + 1)) 0 then (cxs p q i).1 else sd p q (i + 1)) → Ends (pm_at tX0_crosses) (pm_Rt pm_P (d + 1)) (48, lv1, [.int (nJ w)], h, 0, 0) (fun h' r => h' = h ∧ r = some (.int (zb (3 ≤ (cxs p q n).2)))) := by
      intro w hw
      have w2 : w ≤ 2 := by rw [hw]; cases Nat.beq (sd p q (i + 1)) 0 with | true => exact c.2 | false => exact ht
      have ws : (cxs p q (i + 1)).1 = w := hw.symm
      refine E_is rfl (fun lv2 K7 kp2 => ?_)
      have N0 := kp2 0 _ (nbz rfl) rfl M0
      have N1 := kp2 1 _ (nbz rfl) rfl M1
      have N2 := kp2 2 _ (nbz rfl) rfl M2
      have N3 := kp2 3 _ (nbz rfl) rfl M3
      have N4 := kp2 4 _ (nbz rfl) rfl M4
      have N5 := kp2 5 _ (nbz rfl) rfl M5
      have go : ∀ {C : Nat} (lv3 : List (Nat × Value)), (cxs p q (i + 1)).2 = C → pm_get lv3 0 = some (.ref 13) → pm_get lv3 1 = some (.int (nJ (ms p n))) → pm_get lv3 2 = some (.int (nJ (ms q n))) → pm_get lv3 3 = some (.int (nJ C)) → pm_get lv3 5 = some (.int (nJ (i + 1))) → pm_get lv3 7 = some (.int (nJ w)) → Ends (pm_at tX0_crosses) (pm_Rt pm_P (d + 1)) (65, lv3, [], h, 0, 0) (fun h' r => h' = h ∧ r = some (.int (zb (3 ≤ (cxs p q n).2)))) := by
        intro C lv3 hC O0 O1 O2 O3 O5 O7
        refine E_il rfl O7 ?_
        refine E_is rfl (fun lv4 K4 kp4 => ?_)
        refine E_inc rfl (kp4 5 _ (nbz rfl) rfl O5) (nJ_inc _) (fun lv5 K5 kp5 => ?_)
        refine E_goto rfl ?_
        exact ih lv5 (i := i + 1) (by first | decide | with_reducible assumption | omega) (kp5 0 _ (nbz rfl) rfl (kp4 0 _ (nbz rfl) rfl O0)) (kp5 1 _ (nbz rfl) rfl (kp4 1 _ (nbz rfl) rfl O1)) (kp5 2 _ (nbz rfl) rfl (kp4 2 _ (nbz rfl) rfl O2)) (by rw [hC]; exact kp5 3 _ (nbz rfl) rfl (kp4 3 _ (nbz rfl) rfl O3)) (by rw [ws]; exact kp5 4 _ (nbz rfl) rfl K4) K5
      have ec : (cxs p q (i + 1)).2 = (bif Nat.beq (cxs p q i).1 0 || (Nat.beq (sd p q (i + 1)) 0 || Nat.beq (sd p q (i + 1)) (cxs p q i).1) then (cxs p q i).2 else (cxs p q i).2 + 1) := rfl
      refine E_il rfl N4 ?_
      by_cases b0 : (cxs p q i).1 = 0
      · refine E_ifT rfl (decide_eq_true ((nJ_eq0 (by first | decide | with_reducible assumption | omega)).mpr b0)) ?_
        rw [nbeq.mpr b0] at ec
        exact go lv2 ec N0 N1 N2 N3 N5 K7
      refine E_ifF rfl (decide_eq_false (fun z => b0 ((nJ_eq0 (by first | decide | with_reducible assumption | omega)).mp z))) ?_
      rw [nbeqF b0] at ec
      refine E_il rfl K7 ?_
      refine E_il rfl N4 ?_
      by_cases b1 : w = (cxs p q i).1
      · refine E_icT rfl (decide_eq_true (by rw [b1])) ?_
        refine go lv2 ?_ N0 N1 N2 N3 N5 K7
        rw [ec]
        by_cases t0 : sd p q (i + 1) = 0
        · rw [nbeq.mpr t0]; rfl
        · rw [nbeqF t0] at hw
          have hw : w = sd p q (i + 1) := hw
          rw [nbeqF t0, ← hw, nbeq.mpr b1]; rfl
      · refine E_icF rfl (decide_eq_false (fun z => b1 ((nJ_eq (by first | decide | with_reducible assumption | omega) (by first | decide | with_reducible assumption | omega)).mp z))) ?_
        refine E_inc rfl N3 (nJ_inc _) (fun lv3 K3 kp3 => ?_)
        refine go lv3 ?_ (kp3 0 _ (nbz rfl) rfl N0) (kp3 1 _ (nbz rfl) rfl N1) (kp3 2 _ (nbz rfl) rfl N2) K3 (kp3 5 _ (nbz rfl) rfl N5) (kp3 7 _ (nbz rfl) rfl K7)
        rw [ec]
        by_cases t0 : sd p q (i + 1) = 0
        · rw [nbeq.mpr t0] at hw
          exact absurd hw b1
        · rw [nbeqF t0] at hw
          have hw : w = sd p q (i + 1) := hw
          rw [nbeqF t0, ← hw, nbeqF b1]; rfl
    refine E_il rfl M1 ?_
    refine E_il rfl K6 ?_
    refine E_bin rfl rfl ?_
    cases hp : p (i + 1) with
    | true =>
      refine E_ifF rfl (decide_eq_false (fun z => absurd ((and_ms hn (by first | decide | with_reducible assumption | omega)).mp z) (by rw [hp]; decide))) ?_
      refine E_ci 1 rfl ci1 ?_
      refine E_goto rfl ?_
      exact fin (by unfold sd; rw [hp]; rfl)
    | false =>
      refine E_ifT rfl (decide_eq_true ((and_ms hn (by first | decide | with_reducible assumption | omega)).mpr hp)) ?_
      refine E_il rfl M2 ?_
      refine E_il rfl K6 ?_
      refine E_bin rfl rfl ?_
      cases hq : q (i + 1) with
      | true =>
        refine E_ifF rfl (decide_eq_false (fun z => absurd ((and_ms hn (by first | decide | with_reducible assumption | omega)).mp z) (by rw [hq]; decide))) ?_
        refine E_ci 2 rfl ci2 ?_
        refine E_goto rfl ?_
        exact fin (by unfold sd; rw [hp, hq]; rfl)
      | false =>
        refine E_ifT rfl (decide_eq_true ((and_ms hn (by first | decide | with_reducible assumption | omega)).mpr hq)) ?_
        refine E_il rfl M4 ?_
        exact fin (by unfold sd; rw [hp, hq]; rfl)
theorem sp_crosses {p q : Nat → Bool} {n : Nat} (hh : HH h) (g1 : gi h 13 1 = nJ n) (hn : n ≤ 9) : Sp (d + 2) 12 h [.ref 13, .int (nJ (ms p n)), .int (nJ (ms q n))] (fun h' r => h' = h ∧ r = some (.int (zb (3 ≤ (cxs p q n).2)))) := by
  refine Sp_of aiX0_crosses rfl rfl rfl ?_
  have L0 : pm_get (lv_args 0 [.ref 13, .int (nJ (ms p n)), .int (nJ (ms q n))]) 0 = some (.ref 13) := rfl
  have L1 : pm_get (lv_args 0 [.ref 13, .int (nJ (ms p n)), .int (nJ (ms q n))]) 1 = some (.int (nJ (ms p n))) := rfl
  have L2 : pm_get (lv_args 0 [.ref 13, .int (nJ (ms p n)), .int (nJ (ms q n))]) 2 = some (.int (nJ (ms q n))) := rfl
  generalize lv_args 0 [.ref 13, .int (nJ (ms p n)), .int (nJ (ms q n))] = lv at L0 L1 L2 ⊢
  refine E_ci 0 rfl ci0 ?_
  refine E_is rfl (fun lv1 K3 kp1 => ?_)
  refine E_ci 0 rfl ci0 ?_
  refine E_is rfl (fun lv2 K4 kp2 => ?_)
  refine E_ci 1 rfl ci1 ?_
  refine E_is rfl (fun lv3 K5 kp3 => ?_)
  exact cr_loop hh g1 hn n (i := 0) lv3 (by first | decide | with_reducible assumption | omega) (kp3 0 _ (nbz rfl) rfl (kp2 0 _ (nbz rfl) rfl (kp1 0 _ (nbz rfl) rfl L0))) (kp3 1 _ (nbz rfl) rfl (kp2 1 _ (nbz rfl) rfl (kp1 1 _ (nbz rfl) rfl L1))) (kp3 2 _ (nbz rfl) rfl (kp2 2 _ (nbz rfl) rfl (kp1 2 _ (nbz rfl) rfl L2))) (kp3 3 _ (nbz rfl) rfl (kp2 3 _ (nbz rfl) rfl K3)) (kp3 4 _ (nbz rfl) rfl K4) K5
theorem mkb_eq {n x y : Nat} {b : Nat → Nat} (x1 : 1 ≤ x) (xn : x ≤ n) : mkb n b x = mkb n b y ↔ b x = b y := by
  constructor
  · intro e
    have := ms_inj e x1 xn
    rw [Nat.beq_refl] at this
    exact nbeq.mp this.symm
  · intro e
    unfold mkb
    rw [e]
theorem mkb_or {n x y : Nat} {b : Nat → Nat} (hn : n ≤ 9) : nJ (mkb n b x) ||| nJ (mkb n b y) = nJ (ms (inW b x y) n) := by
  unfold mkb
  rw [nJ_or (p512 hn _) (p512 hn _), ms_or]
  rfl
theorem jb_loop {n x y : Nat} {b : Nat → Nat} (hh : HH h) (M : MK n b h) (hb : ∀ k, 1 ≤ k → k ≤ n → 1 ≤ b k) (N : NC b n) (hne : b x ≠ b y) (y1 : 1 ≤ y) (yn : y ≤ n) (j : Nat) : ∀ {i : Nat} (lv : List (Nat × Value)), i + j = n → (∀ k, 1 ≤ k → k ≤ i → ¬ (inW b x y k = false ∧ 3 ≤ (cxs (inW b x y) (fun i => Nat.beq (b i) (b k)) n).2)) → pm_get lv 0 = some (.ref 13) → pm_get lv 3 = some (.int (nJ (ms (inW b x y) n))) → pm_get lv 4 = some (.int (nJ (i + 1))) → Ends (pm_at tX0_joinable) (pm_Rt pm_P (d + 2)) (60, lv, [], h, 0, 0) (fun h' r => h' = h ∧ ((MAY n b x y ∧ r = some (.int (nJ 1))) ∨ (¬ MAY n b x y ∧ r = some (.int (nJ 0))))) := by
  obtain ⟨m1, n1, n9, m2⟩ := M
  induction j with
  | zero =>
    intro i lv hj hA L0 L3 L4
    refine E_il rfl L4 ?_
    refine E_al rfl L0 ?_
    refine E_ogf (q := (0, 9)) rfl hh rfl rfl m1 ?_
    refine E_icT rfl (decide_eq_true ((nJ_lt (by first | decide | with_reducible assumption | omega) (by first | decide | with_reducible assumption | omega)).mpr (by first | decide | with_reducible assumption | omega))) ?_
    refine E_ci 1 rfl ci1 ?_
    refine E_rtz rfl (.inr rfl) ⟨rfl, .inl ⟨⟨hne, fun X => ?_⟩, rfl⟩⟩
    obtain ⟨k, k1, k2, k3⟩ := (XC_iff hb N).mp X
    exact hA k k1 (by first | decide | with_reducible assumption | omega) k3
  | succ j ih =>
    intro i lv hj hA L0 L3 L4
    refine E_il rfl L4 ?_
    refine E_al rfl L0 ?_
    refine E_ogf (q := (0, 9)) rfl hh rfl rfl m1 ?_
    refine E_icF rfl (decide_eq_false (fun z => absurd ((nJ_lt (by first | decide | with_reducible assumption | omega) (by first | decide | with_reducible assumption | omega)).mp z) (by first | decide | with_reducible assumption | omega))) ?_
    refine E_il rfl L3 ?_
    refine E_il rfl L4 ?_
    refine E_call rfl (Sp_le (by first | exact Nat.add_le_add_left (Nat.le_of_ble_eq_true rfl) _ | exact Nat.le_of_ble_eq_true rfl | omega) (sp_placeBit (d := d) (k := i + 1) (by first | decide | with_reducible assumption | omega) (by first | decide | with_reducible assumption | omega))) (chkS rfl (by show 1 ≤ 8; decide)) (fun h1 r1 => ?_)
    rintro ⟨e1, f1⟩
    rw [e1, f1, show i + 1 - 1 = i by omega]
    refine E_bin rfl rfl ?_
    have next : ¬ (inW b x y (i + 1) = false ∧ 3 ≤ (cxs (inW b x y) (fun i_1 => Nat.beq (b i_1) (b (i + 1))) n).2) → Ends (pm_at tX0_joinable) (pm_Rt pm_P (d + 2)) (96, lv, [], h, 0, 0) (fun h' r => h' = h ∧ ((MAY n b x y ∧ r = some (.int (nJ 1))) ∨ (¬ MAY n b x y ∧ r = some (.int (nJ 0))))) := by
      intro q
      refine E_inc rfl L4 (nJ_inc _) (fun lv1 K4 kp => ?_)
      refine E_goto rfl ?_
      refine ih lv1 (i := i + 1) (by first | decide | with_reducible assumption | omega) (fun k k1 k2 => ?_) (kp 0 _ (nbz rfl) rfl L0) (kp 3 _ (nbz rfl) rfl L3) K4
      by_cases e : k = i + 1
      · rw [e]; exact q
      · exact hA k k1 (by first | decide | with_reducible assumption | omega)
    cases hw : inW b x y (i + 1) with
    | true =>
      refine E_ifT rfl (decide_eq_true (fun z => absurd ((and_ms n9 (by first | decide | with_reducible assumption | omega)).mp z) (by rw [hw]; decide))) ?_
      exact next (fun q => by rw [hw] at q; cases q.1)
    | false =>
      refine E_ifF rfl (decide_eq_false (fun z => z ((and_ms n9 (by first | decide | with_reducible assumption | omega)).mpr hw))) ?_
      refine E_al rfl L0 ?_
      refine E_il rfl L3 ?_
      refine E_al rfl L0 ?_
      refine E_ogr (q := 14) rfl hh rfl rfl ?_
      refine E_il rfl L4 ?_
      refine E_ial rfl hh rfl (by first | decide | with_reducible assumption | omega) (by decide) (m2 (i + 1) (by first | decide | with_reducible assumption | omega) (by first | decide | with_reducible assumption | omega)) ?_
      refine E_call rfl (sp_crosses (d := d) (p := inW b x y) (q := fun i_1 => Nat.beq (b i_1) (b (i + 1))) hh m1 n9) (chkO (a := 13) hh rfl rfl rfl rfl (by show 0 ≤ 8; decide)) (fun h2 r2 => ?_)
      rintro ⟨e2, f2⟩
      rw [e2, f2]
      by_cases b3 : 3 ≤ (cxs (inW b x y) (fun i_1 => Nat.beq (b i_1) (b (i + 1))) n).2
      · refine E_ifF rfl (by rw [zb_T b3]; rfl) ?_
        refine E_ci 0 rfl ci0 ?_
        exact E_rtz rfl (.inl rfl) ⟨rfl, .inr ⟨fun m => m.2 ((XC_iff hb N).mpr ⟨i + 1, by omega, by omega, hw, b3⟩), rfl⟩⟩
      · refine E_ifT rfl (by rw [zb_F b3]; rfl) ?_
        exact next (fun q => b3 q.2)
theorem sp_joinable {n x y : Nat} {b : Nat → Nat} (hh : HH h) (M : MK n b h) (hb : ∀ k, 1 ≤ k → k ≤ n → 1 ≤ b k) (N : NC b n) (x1 : 1 ≤ x) (xn : x ≤ n) (hy : y ≤ 9999) : Sp (d + 3) 16 h [.ref 13, .int (nJ x), .int (nJ y)] (fun h' r => h' = h ∧ (((1 ≤ y ∧ y ≤ n ∧ MAY n b x y) ∧ r = some (.int (nJ 1))) ∨ (¬ (1 ≤ y ∧ y ≤ n ∧ MAY n b x y) ∧ r = some (.int (nJ 0))))) := by
  obtain ⟨m1, n1, n9, m2⟩ := id M
  refine Sp_of aiX0_joinable rfl rfl rfl ?_
  have L0 : pm_get (lv_args 0 [.ref 13, .int (nJ x), .int (nJ y)]) 0 = some (.ref 13) := rfl
  have L1 : pm_get (lv_args 0 [.ref 13, .int (nJ x), .int (nJ y)]) 1 = some (.int (nJ x)) := rfl
  have L2 : pm_get (lv_args 0 [.ref 13, .int (nJ x), .int (nJ y)]) 2 = some (.int (nJ y)) := rfl
  generalize lv_args 0 [.ref 13, .int (nJ x), .int (nJ y)] = lv at L0 L1 L2 ⊢
  have no : ∀ {lv : List (Nat × Value)}, ¬ (1 ≤ y ∧ y ≤ n ∧ MAY n b x y) → Ends (pm_at tX0_joinable) (pm_Rt pm_P (d + 2)) (41, lv, [], h, 0, 0) (fun h' r => h' = h ∧ (((1 ≤ y ∧ y ≤ n ∧ MAY n b x y) ∧ r = some (.int (nJ 1))) ∨ (¬ (1 ≤ y ∧ y ≤ n ∧ MAY n b x y) ∧ r = some (.int (nJ 0))))) := by
    intro lv q
    refine E_ci 0 rfl ci0 ?_
    exact E_rtz rfl (.inl rfl) ⟨rfl, .inr ⟨q, rfl⟩⟩
  refine E_il rfl L1 ?_
  refine E_ci 1 rfl ci1 ?_
  refine E_icF rfl (decide_eq_false (fun z => absurd ((nJ_lt (by first | decide | with_reducible assumption | omega) (by first | decide | with_reducible assumption | omega)).mp z) (by first | decide | with_reducible assumption | omega))) ?_
  refine E_il rfl L1 ?_
  refine E_al rfl L0 ?_
  refine E_ogf (q := (0, 9)) rfl hh rfl rfl m1 ?_
  refine E_icF rfl (decide_eq_false (fun z => absurd ((nJ_lt (by first | decide | with_reducible assumption | omega) (by first | decide | with_reducible assumption | omega)).mp z) (by first | decide | with_reducible assumption | omega))) ?_
  refine E_il rfl L2 ?_
  refine E_ci 1 rfl ci1 ?_
  by_cases y1 : y < 1
  · refine E_icT rfl (decide_eq_true ((nJ_lt (by first | decide | with_reducible assumption | omega) (by first | decide | with_reducible assumption | omega)).mpr y1)) ?_
    exact no (fun q => by have := q.1; omega)
  refine E_icF rfl (decide_eq_false (fun z => y1 ((nJ_lt (by first | decide | with_reducible assumption | omega) (by first | decide | with_reducible assumption | omega)).mp z))) ?_
  refine E_il rfl L2 ?_
  refine E_al rfl L0 ?_
  refine E_ogf (q := (0, 9)) rfl hh rfl rfl m1 ?_
  by_cases yn : n < y
  · refine E_icT rfl (decide_eq_true ((nJ_lt (by first | decide | with_reducible assumption | omega) (by first | decide | with_reducible assumption | omega)).mpr yn)) ?_
    exact no (fun q => by have := q.2.1; omega)
  refine E_icF rfl (decide_eq_false (fun z => yn ((nJ_lt (by first | decide | with_reducible assumption | omega) (by first | decide | with_reducible assumption | omega)).mp z))) ?_
  refine E_al rfl L0 ?_
  refine E_ogr (q := 14) rfl hh rfl rfl ?_
  refine E_il rfl L1 ?_
  refine E_ial rfl hh rfl (by first | decide | with_reducible assumption | omega) (by decide) (m2 x x1 xn) ?_
  refine E_al rfl L0 ?_
  refine E_ogr (q := 14) rfl hh rfl rfl ?_
  refine E_il rfl L2 ?_
  refine E_ial rfl hh rfl (by first | decide | with_reducible assumption | omega) (by decide) (m2 y (by first | decide | with_reducible assumption | omega) (by first | decide | with_reducible assumption | omega)) ?_
  have p1 := p512 (n := n) n9 (fun i => Nat.beq (b i) (b x))
  have p2 := p512 (n := n) n9 (fun i => Nat.beq (b i) (b y))
  by_cases e : b x = b y
  · refine E_icF rfl (decide_eq_false (fun z => z (by rw [(mkb_eq x1 xn).mpr e]))) ?_
    exact no (fun q => q.2.2.1 e)
  refine E_icT rfl (decide_eq_true (fun z => e ((mkb_eq x1 xn).mp ((nJ_eq (by show mkb n b x < _; unfold mkb; omega) (by show mkb n b y < _; unfold mkb; omega)).mp z)))) ?_
  refine E_al rfl L0 ?_
  refine E_ogr (q := 14) rfl hh rfl rfl ?_
  refine E_il rfl L1 ?_
  refine E_ial rfl hh rfl (by first | decide | with_reducible assumption | omega) (by decide) (m2 x x1 xn) ?_
  refine E_al rfl L0 ?_
  refine E_ogr (q := 14) rfl hh rfl rfl ?_
  refine E_il rfl L2 ?_
  refine E_ial rfl hh rfl (by first | decide | with_reducible assumption | omega) (by decide) (m2 y (by first | decide | with_reducible assumption | omega) (by first | decide | with_reducible assumption | omega)) ?_
  refine E_bin rfl (mkb_or n9) ?_
  refine E_is rfl (fun lv1 K3 kp1 => ?_)
  refine E_ci 1 rfl ci1 ?_
  refine E_is rfl (fun lv2 K4 kp2 => ?_)
  refine Ends_mono ?_ (jb_loop (d := d) hh M hb N e (by first | decide | with_reducible assumption | omega) (by first | decide | with_reducible assumption | omega) n (i := 0) lv2 (by first | decide | with_reducible assumption | omega) (fun k k1 k2 => by omega) (kp2 0 _ (nbz rfl) rfl (kp1 0 _ (nbz rfl) rfl L0)) (kp2 3 _ (nbz rfl) rfl K3) K4)
  rintro h' r ⟨q1, q2⟩
  refine ⟨q1, ?_⟩
  rcases q2 with ⟨q2, q3⟩ | ⟨q2, q3⟩
  · exact .inl ⟨⟨by omega, by omega, q2⟩, q3⟩
  · exact .inr ⟨fun z => q2 z.2.2, q3⟩
theorem mkb_mg {n x y k : Nat} {b : Nat → Nat} (k1 : 1 ≤ k) : mkb n (mg b x y) k = if inW b x y k = true then ms (inW b x y) n else mkb n b k := by
  unfold mkb
  by_cases hk : inW b x y k = true
  · rw [if_pos hk]
    refine ms_eq (fun i i1 _ => ?_)
    have e := mg_eq (b := b) (x := x) (y := y) i1 k1
    cases hi : inW b x y i with
    | true => exact nbeq.mpr (e.mpr (.inl ⟨hi, hk⟩))
    | false => exact nbeqF (fun z => (e.mp z).elim (fun q => by rw [hi] at q; cases q.1) (fun q => by rw [hk] at q; cases q.2.1))
  · rw [if_neg hk]
    have hk2 : inW b x y k = false := by cases hq : inW b x y k with | false => rfl | true => exact absurd hq hk
    refine ms_eq (fun i i1 _ => ?_)
    have e := mg_eq (b := b) (x := x) (y := y) i1 k1
    by_cases hi : b i = b k
    · have hi2 : inW b x y i = false := by rw [inW_F, hi]; exact inW_F.mp hk2
      rw [nbeq.mpr hi]
      exact nbeq.mpr (e.mpr (.inr ⟨hi2, hk2, hi⟩))
    · rw [nbeqF hi]
      exact nbeqF (fun z => (e.mp z).elim (fun q => hk q.2) (fun q => hi q.2.2))
theorem jn_loop {n x y : Nat} {b : Nat → Nat} {h0 : pm_H} (n9 : n ≤ 9) (M0 : ∀ k, 1 ≤ k → k ≤ n → gi h0 14 k = nJ (mkb n b k)) (j : Nat) : ∀ {h : pm_H} {i : Nat} (lv : List (Nat × Value)), i + j = n → HH h → fr_g [(14, 0, 9)] h0 h → gi h 13 1 = nJ n → (∀ k, 1 ≤ k → k ≤ i → gi h 14 k = nJ (mkb n (mg b x y) k)) → (∀ k, i < k → gi h 14 k = gi h0 14 k) → pm_get lv 0 = some (.ref 13) → pm_get lv 3 = some (.int (nJ (ms (inW b x y) n))) → pm_get lv 4 = some (.int (nJ (i + 1))) → Ends (pm_at tX0_join) (pm_Rt pm_P (d + 1)) (17, lv, [], h, 0, 0) (fun h' r => r = none ∧ HH h' ∧ fr_g [(14, 0, 9)] h0 h' ∧ ∀ k, 1 ≤ k → k ≤ n → gi h' 14 k = nJ (mkb n (mg b x y) k)) := by
  induction j with
  | zero =>
    intro h i lv hj hh hf m1 hA hB L0 L3 L4
    refine E_il rfl L4 ?_
    refine E_al rfl L0 ?_
    refine E_ogf (q := (0, 9)) rfl hh rfl rfl m1 ?_
    refine E_icT rfl (decide_eq_true ((nJ_lt (by first | decide | with_reducible assumption | omega) (by first | decide | with_reducible assumption | omega)).mpr (by first | decide | with_reducible assumption | omega))) ?_
    exact E_ret rfl ⟨rfl, hh, hf, fun k k1 k2 => hA k k1 (by first | decide | with_reducible assumption | omega)⟩
  | succ j ih =>
    intro h i lv hj hh hf m1 hA hB L0 L3 L4
    refine E_il rfl L4 ?_
    refine E_al rfl L0 ?_
    refine E_ogf (q := (0, 9)) rfl hh rfl rfl m1 ?_
    refine E_icF rfl (decide_eq_false (fun z => absurd ((nJ_lt (by first | decide | with_reducible assumption | omega) (by first | decide | with_reducible assumption | omega)).mp z) (by first | decide | with_reducible assumption | omega))) ?_
    refine E_il rfl L3 ?_
    refine E_il rfl L4 ?_
    refine E_call rfl (sp_placeBit (d := d) (k := i + 1) (by first | decide | with_reducible assumption | omega) (by first | decide | with_reducible assumption | omega)) (chkS rfl (by show 1 ≤ 8; decide)) (fun h1 r1 => ?_)
    rintro ⟨e1, f1⟩
    rw [e1, f1, show i + 1 - 1 = i by omega]
    refine E_bin rfl rfl ?_
    have next : ∀ {h2 : pm_H}, HH h2 → fr_g [(14, 0, 9)] h0 h2 → gi h2 13 1 = nJ n → (∀ k, k ≠ i + 1 → gi h2 14 k = gi h 14 k) → gi h2 14 (i + 1) = nJ (mkb n (mg b x y) (i + 1)) → Ends (pm_at tX0_join) (pm_Rt pm_P (d + 1)) (44, lv, [], h2, 0, 0) (fun h' r => r = none ∧ HH h' ∧ fr_g [(14, 0, 9)] h0 h' ∧ ∀ k, 1 ≤ k → k ≤ n → gi h' 14 k = nJ (mkb n (mg b x y) k)) := by
      intro h2 hh2 hf2 m12 q1 q2
      refine E_inc rfl L4 (nJ_inc _) (fun lv1 K4 kp => ?_)
      refine E_goto rfl ?_
      refine ih lv1 (i := i + 1) (by first | decide | with_reducible assumption | omega) hh2 hf2 m12 (fun k k1 k2 => ?_) (fun k hk => ?_) (kp 0 _ (nbz rfl) rfl L0) (kp 3 _ (nbz rfl) rfl L3) K4
      · by_cases e : k = i + 1
        · rw [e]; exact q2
        · rw [q1 k e]; exact hA k k1 (by first | decide | with_reducible assumption | omega)
      · rw [q1 k (by first | decide | with_reducible assumption | omega)]; exact hB k (by first | decide | with_reducible assumption | omega)
    cases hw : inW b x y (i + 1) with
    | true =>
      refine E_ifF rfl (decide_eq_false (fun z => absurd ((and_ms n9 (by first | decide | with_reducible assumption | omega)).mp z) (by rw [hw]; decide))) ?_
      refine E_al rfl L0 ?_
      refine E_ogr (q := 14) rfl hh rfl rfl ?_
      refine E_il rfl L4 ?_
      refine E_il rfl L3 ?_
      refine E_ias rfl hh rfl (by first | decide | with_reducible assumption | omega) (by decide) ?_
      have pb := p512 n9 (inW b x y)
      have b14 : bd 14 (i + 1) = some (0, 511) := bd_u rfl (by first | decide | with_reducible assumption | omega)
      refine next (HH_ptn hh b14 (by first | decide | with_reducible assumption | omega) (by first | decide | with_reducible assumption | omega) (by first | decide | with_reducible assumption | omega)) (fr_ptr (l := 0) (u := 9) rfl (by first | decide | with_reducible assumption | omega) (by first | decide | with_reducible assumption | omega) hf) (by rw [gi_ne (by first | exact gxx rfl | omega)]; exact m1) (fun k hk => gi_ne (fun _ => hk)) ?_
      rw [gi_ptn hh b14 (by first | decide | with_reducible assumption | omega) (by first | decide | with_reducible assumption | omega) (by first | decide | with_reducible assumption | omega), mkb_mg (by first | decide | with_reducible assumption | omega), if_pos hw]
    | false =>
      refine E_ifT rfl (decide_eq_true ((and_ms n9 (by first | decide | with_reducible assumption | omega)).mpr hw)) ?_
      refine next hh hf m1 (fun _ _ => rfl) ?_
      rw [hB (i + 1) (by first | decide | with_reducible assumption | omega), M0 (i + 1) (by first | decide | with_reducible assumption | omega) (by first | decide | with_reducible assumption | omega), mkb_mg (by first | decide | with_reducible assumption | omega), if_neg (by rw [hw]; decide)]
theorem sp_join {n x y : Nat} {b : Nat → Nat} (hh : HH h) (M : MK n b h) (x1 : 1 ≤ x) (xn : x ≤ n) (y1 : 1 ≤ y) (yn : y ≤ n) : Sp (d + 2) 15 h [.ref 13, .int (nJ x), .int (nJ y)] (fun h' r => r = none ∧ HH h' ∧ fr_g [(14, 0, 9)] h h' ∧ MK n (mg b x y) h') := by
  obtain ⟨m1, n1, n9, m2⟩ := id M
  refine Sp_of aiX0_join rfl rfl rfl ?_
  have L0 : pm_get (lv_args 0 [.ref 13, .int (nJ x), .int (nJ y)]) 0 = some (.ref 13) := rfl
  have L1 : pm_get (lv_args 0 [.ref 13, .int (nJ x), .int (nJ y)]) 1 = some (.int (nJ x)) := rfl
  have L2 : pm_get (lv_args 0 [.ref 13, .int (nJ x), .int (nJ y)]) 2 = some (.int (nJ y)) := rfl
  generalize lv_args 0 [.ref 13, .int (nJ x), .int (nJ y)] = lv at L0 L1 L2 ⊢
  refine E_al rfl L0 ?_
  refine E_ogr (q := 14) rfl hh rfl rfl ?_
  refine E_il rfl L1 ?_
  refine E_ial rfl hh rfl (by first | decide | with_reducible assumption | omega) (by decide) (m2 x x1 xn) ?_
  refine E_al rfl L0 ?_
  refine E_ogr (q := 14) rfl hh rfl rfl ?_
  refine E_il rfl L2 ?_
  refine E_ial rfl hh rfl (by first | decide | with_reducible assumption | omega) (by decide) (m2 y y1 yn) ?_
  refine E_bin rfl (mkb_or n9) ?_
  refine E_is rfl (fun lv1 K3 kp1 => ?_)
  refine E_ci 1 rfl ci1 ?_
  refine E_is rfl (fun lv2 K4 kp2 => ?_)
  refine Ends_mono ?_ (jn_loop (d := d) n9 m2 n (i := 0) lv2 (by first | decide | with_reducible assumption | omega) hh (fr_rf _ _) m1 (fun k k1 k2 => by omega) (fun k _ => rfl) (kp2 0 _ (nbz rfl) rfl (kp1 0 _ (nbz rfl) rfl L0)) (kp2 3 _ (nbz rfl) rfl K3) K4)
  rintro h' r ⟨q1, q2, q3, q4⟩
  exact ⟨q1, q2, q3, by rw [fr_gi q3 rfl]; exact m1, n1, n9, q4⟩
theorem ms_one {k : Nat} (k1 : 1 ≤ k) : ∀ n, ms (fun i => Nat.beq i k) n = if k ≤ n then 2 ^ (k - 1) else 0
  | 0 => by rw [if_neg (by first | decide | with_reducible assumption | omega)]; rfl
  | n + 1 => by
    show ms (fun i => Nat.beq i k) n + (bif Nat.beq (n + 1) k then 2 ^ n else 0) = _
    rw [ms_one k1 n]
    by_cases e : n + 1 = k
    · rw [nbeq.mpr e, if_neg (by first | decide | with_reducible assumption | omega), if_pos (by first | decide | with_reducible assumption | omega), ← e]
      show 0 + 2 ^ n = 2 ^ (n + 1 - 1)
      rw [Nat.zero_add]
      rfl
    · rw [nbeqF e]
      by_cases q : k ≤ n
      · rw [if_pos q, if_pos (by first | decide | with_reducible assumption | omega)]; rfl
      · rw [if_neg q, if_neg (by first | decide | with_reducible assumption | omega)]; rfl
theorem mkb_id {n k : Nat} (k1 : 1 ≤ k) (kn : k ≤ n) : mkb n (fun k => k) k = 2 ^ (k - 1) := by
  unfold mkb
  show ms (fun i => Nat.beq i k) n = _
  rw [ms_one k1 n, if_pos kn]
theorem st_lp {n : Nat} {h0 : pm_H} (n9 : n ≤ 9) (j : Nat) : ∀ {h : pm_H} {i : Nat} (lv : List (Nat × Value)), i + j = n → HH h → fr_g [(13, 1, 1), (14, 0, 9)] h0 h → gi h 13 1 = nJ n → (∀ k, 1 ≤ k → k ≤ i → gi h 14 k = nJ (2 ^ (k - 1))) → pm_get lv 0 = some (.ref 13) → pm_get lv 2 = some (.int (nJ (i + 1))) → Ends (pm_at tX0_start) (pm_Rt pm_P (d + 1)) (7, lv, [], h, 0, 0) (fun h' r => r = none ∧ HH h' ∧ fr_g [(13, 1, 1), (14, 0, 9)] h0 h' ∧ gi h' 13 1 = nJ n ∧ ∀ k, 1 ≤ k → k ≤ n → gi h' 14 k = nJ (2 ^ (k - 1))) := by
  induction j with
  | zero =>
    intro h i lv hj hh hf m1 hA L0 L2
    refine E_il rfl L2 ?_
    refine E_al rfl L0 ?_
    refine E_ogf (q := (0, 9)) rfl hh rfl rfl m1 ?_
    refine E_icT rfl (decide_eq_true ((nJ_lt (by first | decide | with_reducible assumption | omega) (by first | decide | with_reducible assumption | omega)).mpr (by first | decide | with_reducible assumption | omega))) ?_
    exact E_ret rfl ⟨rfl, hh, hf, m1, fun k k1 k2 => hA k k1 (by first | decide | with_reducible assumption | omega)⟩
  | succ j ih =>
    intro h i lv hj hh hf m1 hA L0 L2
    refine E_il rfl L2 ?_
    refine E_al rfl L0 ?_
    refine E_ogf (q := (0, 9)) rfl hh rfl rfl m1 ?_
    refine E_icF rfl (decide_eq_false (fun z => absurd ((nJ_lt (by first | decide | with_reducible assumption | omega) (by first | decide | with_reducible assumption | omega)).mp z) (by first | decide | with_reducible assumption | omega))) ?_
    refine E_al rfl L0 ?_
    refine E_ogr (q := 14) rfl hh rfl rfl ?_
    refine E_il rfl L2 ?_
    refine E_il rfl L2 ?_
    refine E_call rfl (sp_placeBit (d := d) (k := i + 1) (by first | decide | with_reducible assumption | omega) (by first | decide | with_reducible assumption | omega)) (chkS rfl (by show 2 ≤ 8; decide)) (fun h1 r1 => ?_)
    rintro ⟨e1, f1⟩
    rw [e1, f1]
    have b14 : bd 14 (i + 1) = some (0, 511) := bd_u rfl (by first | decide | with_reducible assumption | omega)
    have pw : 2 ^ (i + 1 - 1) ≤ 2 ^ 8 := Nat.pow_le_pow_right (by first | decide | with_reducible assumption | omega) (by first | decide | with_reducible assumption | omega)
    have pw2 : (2 : Nat) ^ 8 = 256 := rfl
    obtain ⟨P, hP⟩ : ∃ P, P = 2 ^ (i + 1 - 1) := ⟨_, rfl⟩
    rw [← hP] at pw ⊢
    refine E_ias rfl hh rfl (by first | decide | with_reducible assumption | omega) (by decide) ?_
    refine E_inc rfl L2 (nJ_inc _) (fun lv1 K2 kp => ?_)
    refine E_goto rfl ?_
    refine ih lv1 (i := i + 1) (by first | decide | with_reducible assumption | omega) (HH_ptn hh b14 (by first | decide | with_reducible assumption | omega) (by first | decide | with_reducible assumption | omega) (by first | decide | with_reducible assumption | omega)) (fr_ptr (l := 0) (u := 9) rfl (by first | decide | with_reducible assumption | omega) (by first | decide | with_reducible assumption | omega) hf) (by rw [gi_ne (by first | exact gxx rfl | omega)]; exact m1) (fun k k1 k2 => ?_) (kp 0 _ (nbz rfl) rfl L0) K2
    by_cases e : k = i + 1
    · rw [e, ← hP]; exact gi_ptn hh b14 (by first | decide | with_reducible assumption | omega) (by first | decide | with_reducible assumption | omega) (by first | decide | with_reducible assumption | omega)
    · rw [gi_ne (fun _ => e)]; exact hA k k1 (by first | decide | with_reducible assumption | omega)
theorem sp_start {n : Nat} (hh : HH h) (n1 : 1 ≤ n) (n9 : n ≤ 9) : Sp (d + 2) 18 h [.ref 13, .int (nJ n)] (fun h' r => r = none ∧ HH h' ∧ fr_g [(13, 1, 1), (14, 0, 9)] h h' ∧ MK n (fun k => k) h') := by
  refine Sp_of aiX0_start rfl rfl rfl ?_
  have L0 : pm_get (lv_args 0 [.ref 13, .int (nJ n)]) 0 = some (.ref 13) := rfl
  have L1 : pm_get (lv_args 0 [.ref 13, .int (nJ n)]) 1 = some (.int (nJ n)) := rfl
  generalize lv_args 0 [.ref 13, .int (nJ n)] = lv at L0 L1 ⊢
  refine E_al rfl L0 ?_
  refine E_il rfl L1 ?_
  refine E_opf (q := (0, 9)) rfl hh rfl rfl ?_
  have hh1 : HH (pt h 13 1 (nJ n)) := HH_ptn hh rfl (by first | decide | with_reducible assumption | omega) (by first | decide | with_reducible assumption | omega) (by first | decide | with_reducible assumption | omega)
  refine E_ci 1 rfl ci1 ?_
  refine E_is rfl (fun lv1 K2 kp => ?_)
  refine Ends_mono ?_ (st_lp (d := d) (h0 := h) n9 n (i := 0) lv1 (by first | decide | with_reducible assumption | omega) hh1 (fr_ptr (l := 1) (u := 1) rfl (by first | decide | with_reducible assumption | omega) (by first | decide | with_reducible assumption | omega) (fr_rf _ _)) (gi_ptn hh rfl (by first | decide | with_reducible assumption | omega) (by first | decide | with_reducible assumption | omega) (by first | decide | with_reducible assumption | omega)) (fun k k1 k2 => by omega) (kp 0 _ (nbz rfl) rfl L0) K2)
  rintro h' r ⟨q1, q2, q3, q4, q5⟩
  exact ⟨q1, q2, q3, q4, n1, n9, fun k k1 k2 => by rw [mkb_id k1 k2]; exact q5 k k1 k2⟩
end CBK
end
section
/-! the reference's blocks: whether two may be joined (wants t45, 10.ztg) -/
section RBK
variable {h : pm_H} {d : Nat}
theorem g101 (hh : HH h) {k : Nat} (hk : k < 10) : gi h 101 k = nJ (gn h 101 k) ∧ gn h 101 k ≤ 9 := ⟨gi_gn hh (bd_u rfl hk) (by decide), gn_hi hh (bd_u rfl hk) (by decide)⟩
theorem wj_le {b : Nat → Nat} {x y k : Nat} (h : b k ≤ 9) : wj b x y k ≤ 9 := by
  unfold wj
  split <;> omega
theorem sp_withJoin {k x y : Nat} (hh : HH h) (hk : k < 10) (hx : x < 10) (hy : y < 10) : Sp (d + 1) 375 h [.ref 77, .int (nJ k), .int (nJ x), .int (nJ y)] (fun h' r => h' = h ∧ r = some (.int (nJ (wj (gn h 101) x y k)))) := by
  obtain ⟨k1, k2⟩ := g101 hh hk
  obtain ⟨x1, x2⟩ := g101 hh hx
  obtain ⟨y1, y2⟩ := g101 hh hy
  refine Sp_of aiX9_withJoin rfl rfl rfl ?_
  have L0 : pm_get (lv_args 0 [.ref 77, .int (nJ k), .int (nJ x), .int (nJ y)]) 0 = some (.ref 77) := rfl
  have L1 : pm_get (lv_args 0 [.ref 77, .int (nJ k), .int (nJ x), .int (nJ y)]) 1 = some (.int (nJ k)) := rfl
  have L2 : pm_get (lv_args 0 [.ref 77, .int (nJ k), .int (nJ x), .int (nJ y)]) 2 = some (.int (nJ x)) := rfl
  have L3 : pm_get (lv_args 0 [.ref 77, .int (nJ k), .int (nJ x), .int (nJ y)]) 3 = some (.int (nJ y)) := rfl
  generalize lv_args 0 [.ref 77, .int (nJ k), .int (nJ x), .int (nJ y)] = lv at L0 L1 L2 L3 ⊢
  refine E_al rfl L0 ?_
  refine E_gr rfl hh (q := 101) rfl ?_
  refine E_il rfl L1 ?_
  refine E_ial rfl hh rfl hk (by decide) k1 ?_
  refine E_al rfl L0 ?_
  refine E_gr rfl hh (q := 101) rfl ?_
  refine E_il rfl L2 ?_
  refine E_ial rfl hh rfl hx (by decide) x1 ?_
  have yes : (gn h 101 k = gn h 101 x ∨ gn h 101 k = gn h 101 y) → Ends (pm_at tX9_withJoin) (pm_Rt pm_P d) (30, lv, [], h, 0, 0) (fun h' r => h' = h ∧ r = some (.int (nJ (wj (gn h 101) x y k)))) := by
    intro q
    refine E_ci 0 rfl ci0 ?_
    refine E_goto rfl ?_
    exact E_rti rfl ⟨rfl, by rw [show wj (gn h 101) x y k = 0 from if_pos q]⟩
  by_cases e1 : gn h 101 k = gn h 101 x
  · refine E_icT rfl (decide_eq_true (by rw [e1])) ?_
    exact yes (.inl e1)
  refine E_icF rfl (decide_eq_false (fun z => e1 ((nJ_eq (by first | decide | with_reducible assumption | omega) (by first | decide | with_reducible assumption | omega)).mp z))) ?_
  refine E_al rfl L0 ?_
  refine E_gr rfl hh (q := 101) rfl ?_
  refine E_il rfl L1 ?_
  refine E_ial rfl hh rfl hk (by decide) k1 ?_
  refine E_al rfl L0 ?_
  refine E_gr rfl hh (q := 101) rfl ?_
  refine E_il rfl L3 ?_
  refine E_ial rfl hh rfl hy (by decide) y1 ?_
  by_cases e2 : gn h 101 k = gn h 101 y
  · refine E_icF rfl (decide_eq_false (fun z => z (by rw [e2]))) ?_
    exact yes (.inr e2)
  refine E_icT rfl (decide_eq_true (fun z => e2 ((nJ_eq (by first | decide | with_reducible assumption | omega) (by first | decide | with_reducible assumption | omega)).mp z))) ?_
  refine E_al rfl L0 ?_
  refine E_gr rfl hh (q := 101) rfl ?_
  refine E_il rfl L1 ?_
  refine E_ial rfl hh rfl hk (by decide) k1 ?_
  exact E_rti rfl ⟨rfl, by rw [show wj (gn h 101) x y k = gn h 101 k from if_neg (fun q => q.elim e1 e2)]⟩
noncomputable def MJQ (n x y : Nat) (h h' : pm_H) (r : Option Value) : Prop := h' = h ∧ ((MAY n (gn h 101) x y ∧ r = some (.int (nJ 1))) ∨ (¬ MAY n (gn h 101) x y ∧ r = some (.int (nJ 0))))
noncomputable def VV (w : Nat → Nat) (p q r s : Nat) : Prop := w p ≠ w q ∧ w p = w r ∧ w q = w s
theorem mj_s {n x y p q r : Nat} (hh : HH h) (hx : x < 10) (hy : y < 10) (n9 : n ≤ 9) (p1 : 1 ≤ p) (pq : p < q) (qr : q < r) (rn : r ≤ n) (K : ∀ lv : List (Nat × Value), pm_get lv 0 = some (.ref 77) → pm_get lv 1 = some (.int (nJ x)) → pm_get lv 2 = some (.int (nJ y)) → pm_get lv 3 = some (.int (nJ n)) → pm_get lv 4 = some (.int (nJ p)) → pm_get lv 5 = some (.int (nJ q)) → pm_get lv 6 = some (.int (nJ r)) → (∀ s, r < s → s ≤ n → ¬ VV (wj (gn h 101) x y) p q r s) → Ends (pm_at tX9_mayJoin) (pm_Rt pm_P (d + 1)) (123, lv, [], h, 0, 0) (MJQ n x y h)) (j : Nat) : ∀ {s : Nat} (lv : List (Nat × Value)), s + j = n + 1 → r < s → (∀ s', r < s' → s' < s → ¬ VV (wj (gn h 101) x y) p q r s') → pm_get lv 0 = some (.ref 77) → pm_get lv 1 = some (.int (nJ x)) → pm_get lv 2 = some (.int (nJ y)) → pm_get lv 3 = some (.int (nJ n)) → pm_get lv 4 = some (.int (nJ p)) → pm_get lv 5 = some (.int (nJ q)) → pm_get lv 6 = some (.int (nJ r)) → pm_get lv 7 = some (.int (nJ s)) → Ends (pm_at tX9_mayJoin) (pm_Rt pm_P (d + 1)) (56, lv, [], h, 0, 0) (MJQ n x y h) := by
  have wp := wj_le (x := x) (y := y) (g101 hh (k := p) (by first | decide | with_reducible assumption | omega)).2
  have wq := wj_le (x := x) (y := y) (g101 hh (k := q) (by first | decide | with_reducible assumption | omega)).2
  have wr := wj_le (x := x) (y := y) (g101 hh (k := r) (by first | decide | with_reducible assumption | omega)).2
  induction j with
  | zero =>
    intro s lv hj rs hA L0 L1 L2 L3 L4 L5 L6 L7
    refine E_il rfl L7 ?_
    refine E_il rfl L3 ?_
    refine E_icT rfl (decide_eq_true ((nJ_lt (by first | decide | with_reducible assumption | omega) (by first | decide | with_reducible assumption | omega)).mpr (by first | decide | with_reducible assumption | omega))) ?_
    exact K lv L0 L1 L2 L3 L4 L5 L6 (fun s' a b => hA s' a (by first | decide | with_reducible assumption | omega))
  | succ j ih =>
    intro s lv hj rs hA L0 L1 L2 L3 L4 L5 L6 L7
    have ws := wj_le (x := x) (y := y) (g101 hh (k := s) (by first | decide | with_reducible assumption | omega)).2
    refine E_il rfl L7 ?_
    refine E_il rfl L3 ?_
    refine E_icF rfl (decide_eq_false (fun z => absurd ((nJ_lt (by first | decide | with_reducible assumption | omega) (by first | decide | with_reducible assumption | omega)).mp z) (by first | decide | with_reducible assumption | omega))) ?_
    refine E_al rfl L0 ?_
    refine E_il rfl L4 ?_
    refine E_il rfl L1 ?_
    refine E_il rfl L2 ?_
    refine E_call rfl (sp_withJoin (d := d) hh (by first | decide | with_reducible assumption | omega) hx hy) (chk77 hh rfl rfl (by show 0 ≤ 8; decide)) (fun h1 r1 => ?_)
    rintro ⟨e1, f1⟩
    rw [e1, f1]
    refine E_is rfl (fun lv1 K8 kp1 => ?_)
    refine E_al rfl (kp1 0 _ (nbz rfl) rfl L0) ?_
    refine E_il rfl (kp1 5 _ (nbz rfl) rfl L5) ?_
    refine E_il rfl (kp1 1 _ (nbz rfl) rfl L1) ?_
    refine E_il rfl (kp1 2 _ (nbz rfl) rfl L2) ?_
    refine E_call rfl (sp_withJoin (d := d) hh (by first | decide | with_reducible assumption | omega) hx hy) (chk77 hh rfl rfl (by show 0 ≤ 8; decide)) (fun h2 r2 => ?_)
    rintro ⟨e2, f2⟩
    rw [e2, f2]
    refine E_is rfl (fun lv2 K9 kp2 => ?_)
    have M0 := kp2 0 _ (nbz rfl) rfl (kp1 0 _ (nbz rfl) rfl L0)
    have M1 := kp2 1 _ (nbz rfl) rfl (kp1 1 _ (nbz rfl) rfl L1)
    have M2 := kp2 2 _ (nbz rfl) rfl (kp1 2 _ (nbz rfl) rfl L2)
    have M3 := kp2 3 _ (nbz rfl) rfl (kp1 3 _ (nbz rfl) rfl L3)
    have M4 := kp2 4 _ (nbz rfl) rfl (kp1 4 _ (nbz rfl) rfl L4)
    have M5 := kp2 5 _ (nbz rfl) rfl (kp1 5 _ (nbz rfl) rfl L5)
    have M6 := kp2 6 _ (nbz rfl) rfl (kp1 6 _ (nbz rfl) rfl L6)
    have M7 := kp2 7 _ (nbz rfl) rfl (kp1 7 _ (nbz rfl) rfl L7)
    have M8 := kp2 8 _ (nbz rfl) rfl K8
    have next : ¬ VV (wj (gn h 101) x y) p q r s → Ends (pm_at tX9_mayJoin) (pm_Rt pm_P (d + 1)) (117, lv2, [], h, 0, 0) (MJQ n x y h) := by
      intro nv
      refine E_inc rfl M7 (nJ_inc _) (fun lv3 K7 kp3 => ?_)
      refine E_goto rfl ?_
      refine ih lv3 (s := s + 1) (by first | decide | with_reducible assumption | omega) (by first | decide | with_reducible assumption | omega) (fun s' a b => ?_) (kp3 0 _ (nbz rfl) rfl M0) (kp3 1 _ (nbz rfl) rfl M1) (kp3 2 _ (nbz rfl) rfl M2) (kp3 3 _ (nbz rfl) rfl M3) (kp3 4 _ (nbz rfl) rfl M4) (kp3 5 _ (nbz rfl) rfl M5) (kp3 6 _ (nbz rfl) rfl M6) K7
      by_cases e : s' = s
      · rw [e]; exact nv
      · exact hA s' a (by first | decide | with_reducible assumption | omega)
    refine E_il rfl M8 ?_
    refine E_il rfl K9 ?_
    by_cases c1 : wj (gn h 101) x y p = wj (gn h 101) x y q
    · refine E_icT rfl (decide_eq_true (by rw [c1])) ?_
      exact next (fun z => z.1 c1)
    refine E_icF rfl (decide_eq_false (fun z => c1 ((nJ_eq (by first | decide | with_reducible assumption | omega) (by first | decide | with_reducible assumption | omega)).mp z))) ?_
    refine E_il rfl M8 ?_
    refine E_al rfl M0 ?_
    refine E_il rfl M6 ?_
    refine E_il rfl M1 ?_
    refine E_il rfl M2 ?_
    refine E_call rfl (sp_withJoin (d := d) hh (by first | decide | with_reducible assumption | omega) hx hy) (chk77 hh rfl rfl (by show 1 ≤ 8; decide)) (fun h3 r3 => ?_)
    rintro ⟨e3, f3⟩
    rw [e3, f3]
    by_cases c2 : wj (gn h 101) x y p = wj (gn h 101) x y r
    · refine E_icF rfl (decide_eq_false (fun z => z (by rw [c2]))) ?_
      refine E_il rfl K9 ?_
      refine E_al rfl M0 ?_
      refine E_il rfl M7 ?_
      refine E_il rfl M1 ?_
      refine E_il rfl M2 ?_
      refine E_call rfl (sp_withJoin (d := d) hh (by first | decide | with_reducible assumption | omega) hx hy) (chk77 hh rfl rfl (by show 1 ≤ 8; decide)) (fun h4 r4 => ?_)
      rintro ⟨e4, f4⟩
      rw [e4, f4]
      by_cases c3 : wj (gn h 101) x y q = wj (gn h 101) x y s
      · refine E_icF rfl (decide_eq_false (fun z => z (by rw [c3]))) ?_
        refine E_ci 0 rfl ci0 ?_
        exact E_rtz rfl (.inl rfl) ⟨rfl, .inr ⟨fun m => m.2 ⟨p, q, r, s, p1, pq, qr, rs, by omega, c1, c2, c3⟩, rfl⟩⟩
      · refine E_icT rfl (decide_eq_true (fun z => c3 ((nJ_eq (by first | decide | with_reducible assumption | omega) (by first | decide | with_reducible assumption | omega)).mp z))) ?_
        exact next (fun z => c3 z.2.2)
    · refine E_icT rfl (decide_eq_true (fun z => c2 ((nJ_eq (by first | decide | with_reducible assumption | omega) (by first | decide | with_reducible assumption | omega)).mp z))) ?_
      exact next (fun z => c2 z.2.1)
theorem mj_r {n x y p q : Nat} (hh : HH h) (hx : x < 10) (hy : y < 10) (n9 : n ≤ 9) (p1 : 1 ≤ p) (pq : p < q) (qn : q ≤ n) (K : ∀ lv : List (Nat × Value), pm_get lv 0 = some (.ref 77) → pm_get lv 1 = some (.int (nJ x)) → pm_get lv 2 = some (.int (nJ y)) → pm_get lv 3 = some (.int (nJ n)) → pm_get lv 4 = some (.int (nJ p)) → pm_get lv 5 = some (.int (nJ q)) → (∀ r s, q < r → r < s → s ≤ n → ¬ VV (wj (gn h 101) x y) p q r s) → Ends (pm_at tX9_mayJoin) (pm_Rt pm_P (d + 1)) (129, lv, [], h, 0, 0) (MJQ n x y h)) (j : Nat) : ∀ {r : Nat} (lv : List (Nat × Value)), r + j = n + 1 → q < r → (∀ r' s, q < r' → r' < r → r' < s → s ≤ n → ¬ VV (wj (gn h 101) x y) p q r' s) → pm_get lv 0 = some (.ref 77) → pm_get lv 1 = some (.int (nJ x)) → pm_get lv 2 = some (.int (nJ y)) → pm_get lv 3 = some (.int (nJ n)) → pm_get lv 4 = some (.int (nJ p)) → pm_get lv 5 = some (.int (nJ q)) → pm_get lv 6 = some (.int (nJ r)) → Ends (pm_at tX9_mayJoin) (pm_Rt pm_P (d + 1)) (44, lv, [], h, 0, 0) (MJQ n x y h) := by
  induction j with
  | zero =>
    intro r lv hj qr hA L0 L1 L2 L3 L4 L5 L6
    refine E_il rfl L6 ?_
    refine E_il rfl L3 ?_
    refine E_icT rfl (decide_eq_true ((nJ_lt (by first | decide | with_reducible assumption | omega) (by first | decide | with_reducible assumption | omega)).mpr (by first | decide | with_reducible assumption | omega))) ?_
    exact K lv L0 L1 L2 L3 L4 L5 (fun r' s a b c => hA r' s a (by first | decide | with_reducible assumption | omega) b c)
  | succ j ih =>
    intro r lv hj qr hA L0 L1 L2 L3 L4 L5 L6
    refine E_il rfl L6 ?_
    refine E_il rfl L3 ?_
    refine E_icF rfl (decide_eq_false (fun z => absurd ((nJ_lt (by first | decide | with_reducible assumption | omega) (by first | decide | with_reducible assumption | omega)).mp z) (by first | decide | with_reducible assumption | omega))) ?_
    refine E_il rfl L6 ?_
    refine E_ci 1 rfl ci1 ?_
    refine E_bin rfl (nJ_add _ _) ?_
    refine E_is rfl (fun lv1 K7 kp => ?_)
    refine mj_s hh hx hy n9 p1 pq qr (by first | decide | with_reducible assumption | omega) (fun lv2 M0 M1 M2 M3 M4 M5 M6 hB => ?_) (n + 1 - (r + 1)) (s := r + 1) lv1 (by first | decide | with_reducible assumption | omega) (by first | decide | with_reducible assumption | omega) (fun s' a b => by omega) (kp 0 _ (nbz rfl) rfl L0) (kp 1 _ (nbz rfl) rfl L1) (kp 2 _ (nbz rfl) rfl L2) (kp 3 _ (nbz rfl) rfl L3) (kp 4 _ (nbz rfl) rfl L4) (kp 5 _ (nbz rfl) rfl L5) (kp 6 _ (nbz rfl) rfl L6) K7
    refine E_inc rfl M6 (nJ_inc _) (fun lv3 K6 kp3 => ?_)
    refine E_goto rfl ?_
    refine ih lv3 (r := r + 1) (by first | decide | with_reducible assumption | omega) (by first | decide | with_reducible assumption | omega) (fun r' s a b c e => ?_) (kp3 0 _ (nbz rfl) rfl M0) (kp3 1 _ (nbz rfl) rfl M1) (kp3 2 _ (nbz rfl) rfl M2) (kp3 3 _ (nbz rfl) rfl M3) (kp3 4 _ (nbz rfl) rfl M4) (kp3 5 _ (nbz rfl) rfl M5) K6
    by_cases z : r' = r
    · subst z; exact hB s c e
    · exact hA r' s a (by first | decide | with_reducible assumption | omega) c e
theorem mj_q {n x y p : Nat} (hh : HH h) (hx : x < 10) (hy : y < 10) (n9 : n ≤ 9) (p1 : 1 ≤ p) (pn : p ≤ n) (K : ∀ lv : List (Nat × Value), pm_get lv 0 = some (.ref 77) → pm_get lv 1 = some (.int (nJ x)) → pm_get lv 2 = some (.int (nJ y)) → pm_get lv 3 = some (.int (nJ n)) → pm_get lv 4 = some (.int (nJ p)) → (∀ q r s, p < q → q < r → r < s → s ≤ n → ¬ VV (wj (gn h 101) x y) p q r s) → Ends (pm_at tX9_mayJoin) (pm_Rt pm_P (d + 1)) (135, lv, [], h, 0, 0) (MJQ n x y h)) (j : Nat) : ∀ {q : Nat} (lv : List (Nat × Value)), q + j = n + 1 → p < q → (∀ q' r s, p < q' → q' < q → q' < r → r < s → s ≤ n → ¬ VV (wj (gn h 101) x y) p q' r s) → pm_get lv 0 = some (.ref 77) → pm_get lv 1 = some (.int (nJ x)) → pm_get lv 2 = some (.int (nJ y)) → pm_get lv 3 = some (.int (nJ n)) → pm_get lv 4 = some (.int (nJ p)) → pm_get lv 5 = some (.int (nJ q)) → Ends (pm_at tX9_mayJoin) (pm_Rt pm_P (d + 1)) (32, lv, [], h, 0, 0) (MJQ n x y h) := by
  induction j with
  | zero =>
    intro q lv hj pq hA L0 L1 L2 L3 L4 L5
    refine E_il rfl L5 ?_
    refine E_il rfl L3 ?_
    refine E_icT rfl (decide_eq_true ((nJ_lt (by first | decide | with_reducible assumption | omega) (by first | decide | with_reducible assumption | omega)).mpr (by first | decide | with_reducible assumption | omega))) ?_
    exact K lv L0 L1 L2 L3 L4 (fun q' r s a b c e => hA q' r s a (by first | decide | with_reducible assumption | omega) b c e)
  | succ j ih =>
    intro q lv hj pq hA L0 L1 L2 L3 L4 L5
    refine E_il rfl L5 ?_
    refine E_il rfl L3 ?_
    refine E_icF rfl (decide_eq_false (fun z => absurd ((nJ_lt (by first | decide | with_reducible assumption | omega) (by first | decide | with_reducible assumption | omega)).mp z) (by first | decide | with_reducible assumption | omega))) ?_
    refine E_il rfl L5 ?_
    refine E_ci 1 rfl ci1 ?_
    refine E_bin rfl (nJ_add _ _) ?_
    refine E_is rfl (fun lv1 K6 kp => ?_)
    refine mj_r hh hx hy n9 p1 pq (by first | decide | with_reducible assumption | omega) (fun lv2 M0 M1 M2 M3 M4 M5 hB => ?_) (n + 1 - (q + 1)) (r := q + 1) lv1 (by first | decide | with_reducible assumption | omega) (by first | decide | with_reducible assumption | omega) (fun r' s a b c e => by omega) (kp 0 _ (nbz rfl) rfl L0) (kp 1 _ (nbz rfl) rfl L1) (kp 2 _ (nbz rfl) rfl L2) (kp 3 _ (nbz rfl) rfl L3) (kp 4 _ (nbz rfl) rfl L4) (kp 5 _ (nbz rfl) rfl L5) K6
    refine E_inc rfl M5 (nJ_inc _) (fun lv3 K5 kp3 => ?_)
    refine E_goto rfl ?_
    refine ih lv3 (q := q + 1) (by first | decide | with_reducible assumption | omega) (by first | decide | with_reducible assumption | omega) (fun q' r s a b c e f => ?_) (kp3 0 _ (nbz rfl) rfl M0) (kp3 1 _ (nbz rfl) rfl M1) (kp3 2 _ (nbz rfl) rfl M2) (kp3 3 _ (nbz rfl) rfl M3) (kp3 4 _ (nbz rfl) rfl M4) K5
    by_cases z : q' = q
    · subst z; exact hB r s c e f
    · exact hA q' r s a (by first | decide | with_reducible assumption | omega) c e f
theorem mj_p {n x y : Nat} (hh : HH h) (hx : x < 10) (hy : y < 10) (n9 : n ≤ 9) (hne : gn h 101 x ≠ gn h 101 y) (j : Nat) : ∀ {p : Nat} (lv : List (Nat × Value)), p + j = n + 1 → 1 ≤ p → (∀ p' q r s, 1 ≤ p' → p' < p → p' < q → q < r → r < s → s ≤ n → ¬ VV (wj (gn h 101) x y) p' q r s) → pm_get lv 0 = some (.ref 77) → pm_get lv 1 = some (.int (nJ x)) → pm_get lv 2 = some (.int (nJ y)) → pm_get lv 3 = some (.int (nJ n)) → pm_get lv 4 = some (.int (nJ p)) → Ends (pm_at tX9_mayJoin) (pm_Rt pm_P (d + 1)) (20, lv, [], h, 0, 0) (MJQ n x y h) := by
  induction j with
  | zero =>
    intro p lv hj p1 hA L0 L1 L2 L3 L4
    refine E_il rfl L4 ?_
    refine E_il rfl L3 ?_
    refine E_icT rfl (decide_eq_true ((nJ_lt (by first | decide | with_reducible assumption | omega) (by first | decide | with_reducible assumption | omega)).mpr (by first | decide | with_reducible assumption | omega))) ?_
    refine E_ci 1 rfl ci1 ?_
    refine E_rtz rfl (.inr rfl) ⟨rfl, .inl ⟨⟨hne, ?_⟩, rfl⟩⟩
    rintro ⟨p', q, r, s, a1, a2, a3, a4, a5, e1, e2, e3⟩
    exact hA p' q r s a1 (by first | decide | with_reducible assumption | omega) a2 a3 a4 a5 ⟨e1, e2, e3⟩
  | succ j ih =>
    intro p lv hj p1 hA L0 L1 L2 L3 L4
    refine E_il rfl L4 ?_
    refine E_il rfl L3 ?_
    refine E_icF rfl (decide_eq_false (fun z => absurd ((nJ_lt (by first | decide | with_reducible assumption | omega) (by first | decide | with_reducible assumption | omega)).mp z) (by first | decide | with_reducible assumption | omega))) ?_
    refine E_il rfl L4 ?_
    refine E_ci 1 rfl ci1 ?_
    refine E_bin rfl (nJ_add _ _) ?_
    refine E_is rfl (fun lv1 K5 kp => ?_)
    refine mj_q hh hx hy n9 p1 (by first | decide | with_reducible assumption | omega) (fun lv2 M0 M1 M2 M3 M4 hB => ?_) (n + 1 - (p + 1)) (q := p + 1) lv1 (by first | decide | with_reducible assumption | omega) (by first | decide | with_reducible assumption | omega) (fun q' r s a b c e f => by omega) (kp 0 _ (nbz rfl) rfl L0) (kp 1 _ (nbz rfl) rfl L1) (kp 2 _ (nbz rfl) rfl L2) (kp 3 _ (nbz rfl) rfl L3) (kp 4 _ (nbz rfl) rfl L4) K5
    refine E_inc rfl M4 (nJ_inc _) (fun lv3 K4 kp3 => ?_)
    refine E_goto rfl ?_
    refine ih lv3 (p := p + 1) (by first | decide | with_reducible assumption | omega) (by first | decide | with_reducible assumption | omega) (fun p' q r s a b c e f g => ?_) (kp3 0 _ (nbz rfl) rfl M0) (kp3 1 _ (nbz rfl) rfl M1) (kp3 2 _ (nbz rfl) rfl M2) (kp3 3 _ (nbz rfl) rfl M3) K4
    by_cases z : p' = p
    · subst z; exact hB q r s c e f g
    · exact hA p' q r s a (by first | decide | with_reducible assumption | omega) c e f g
theorem sp_mj {n x y : Nat} (hh : HH h) (hx : x < 10) (hy : y < 10) (n9 : n ≤ 9) : Sp (d + 2) 309 h [.ref 77, .int (nJ x), .int (nJ y), .int (nJ n)] (MJQ n x y h) := by
  obtain ⟨x1, x2⟩ := g101 hh hx
  obtain ⟨y1, y2⟩ := g101 hh hy
  refine Sp_of aiX9_mayJoin rfl rfl rfl ?_
  have L0 : pm_get (lv_args 0 [.ref 77, .int (nJ x), .int (nJ y), .int (nJ n)]) 0 = some (.ref 77) := rfl
  have L1 : pm_get (lv_args 0 [.ref 77, .int (nJ x), .int (nJ y), .int (nJ n)]) 1 = some (.int (nJ x)) := rfl
  have L2 : pm_get (lv_args 0 [.ref 77, .int (nJ x), .int (nJ y), .int (nJ n)]) 2 = some (.int (nJ y)) := rfl
  have L3 : pm_get (lv_args 0 [.ref 77, .int (nJ x), .int (nJ y), .int (nJ n)]) 3 = some (.int (nJ n)) := rfl
  generalize lv_args 0 [.ref 77, .int (nJ x), .int (nJ y), .int (nJ n)] = lv at L0 L1 L2 L3 ⊢
  refine E_al rfl L0 ?_
  refine E_gr rfl hh (q := 101) rfl ?_
  refine E_il rfl L1 ?_
  refine E_ial rfl hh rfl hx (by decide) x1 ?_
  refine E_al rfl L0 ?_
  refine E_gr rfl hh (q := 101) rfl ?_
  refine E_il rfl L2 ?_
  refine E_ial rfl hh rfl hy (by decide) y1 ?_
  by_cases e : gn h 101 x = gn h 101 y
  · refine E_icF rfl (decide_eq_false (fun z => z (by rw [e]))) ?_
    refine E_ci 0 rfl ci0 ?_
    exact E_rtz rfl (.inl rfl) ⟨rfl, .inr ⟨fun m => m.1 e, rfl⟩⟩
  refine E_icT rfl (decide_eq_true (fun z => e ((nJ_eq (by first | decide | with_reducible assumption | omega) (by first | decide | with_reducible assumption | omega)).mp z))) ?_
  refine E_ci 1 rfl ci1 ?_
  refine E_is rfl (fun lv1 K4 kp => ?_)
  exact mj_p (d := d) hh hx hy n9 e n (p := 1) lv1 (by first | decide | with_reducible assumption | omega) (by first | decide | with_reducible assumption | omega) (fun p' q r s a b c => by omega) (kp 0 _ (nbz rfl) rfl L0) (kp 1 _ (nbz rfl) rfl L1) (kp 2 _ (nbz rfl) rfl L2) (kp 3 _ (nbz rfl) rfl L3) K4
end RBK
end
section
/-! the class's lines of a street (written by gen_t49.py; wants t43, t45, t47) -/
section CL0
variable {T : Nat → Int32} {L d s k : Nat} {h : pm_H} {x : Px}
theorem sp_tW (C : CS T L (.inr s) h) (hk : k < 8) : Sp (d + 6) 41 h [.ref 3, .retAddr (4 + k)] (fun h' r => r = some (.int (zb (isR (bW T L (wd k) (.inr s)) = true))) ∧ fr_g [(3, 1, 2), (3, 5, 8)] h h' ∧ CS T L (bW T L (wd k) (.inr s)) h') := sp_takeWord C hk
theorem sp_iW (C : CS T L (.inr s) h) (hk : k < 8) : Sp (d + 5) 29 h [.ref 3, .retAddr (4 + k)] (fun h' r => h' = h ∧ r = some (.int (zb (wIs T L s (wd k) = true)))) := sp_isWord C hk
theorem CS_TA (C : CS T L x h) : TA T L h := by
  match x, C with
  | .inl (k, p), C => exact C.1
  | .inr s, C => exact C.1
theorem CS_eq {h' : pm_H} (e : ∀ k, gi h' 3 k = gi h 3 k) (A : TA T L h') (C : CS T L x h) : CS T L x h' := by
  match x, C with
  | .inl (k, p), C => exact ⟨A, by rw [e]; exact C.2.1, by rw [e]; exact C.2.2.1, C.2.2.2⟩
  | .inr s, ⟨_, ⟨c6, c7, c5, c8⟩, c1, c2, hs⟩ => exact ⟨A, ⟨by rw [e]; exact c6, by rw [e]; exact c7, by rw [e]; exact c5, fun q => by rw [e]; exact c8 q⟩, by rw [e]; exact c1, by rw [e]; exact c2, hs⟩
theorem CS_pt {a k : Nat} {v : Int32} (ha : 4 ≤ a) (hh : HH (pt h a k v)) (C : CS T L x h) : CS T L x (pt h a k v) := CS_eq (fun k => gi_ne (by first | exact gxx rfl | omega)) (TA_pt (CS_TA C) (by first | decide | with_reducible assumption | omega) hh) C
theorem CS_frm {M : List Rng} {h' : pm_H} (hf : fr_g M h h') (h1 : M.all (fun r => !(Nat.beq r.1 1)) = true) (h2 : M.all (fun r => !(Nat.beq r.1 2)) = true) (h3 : M.all (fun r => !(Nat.beq r.1 3)) = true) (hh : HH h') (C : CS T L x h) : CS T L x h' := CS_eq (fun k => fr_gi hf (rg_no h3 _)) (TA_fr hf h1 h2 hh (CS_TA C)) C
theorem sp_clear (hh : HH h) : Sp (d + 1) 50 h [.ref 4] (fun h' r => r = none ∧ HH h' ∧ fr_g [(4, 0, 6)] h h' ∧ ∀ k, k < 7 → gi h' 4 k = nJ 0) := by
  refine Sp_of aiX5_clear rfl rfl rfl ?_
  have L0 : pm_get (lv_args 0 [.ref 4]) 0 = some (.ref 4) := rfl
  generalize lv_args 0 [.ref 4] = lv at L0 ⊢
  have st : ∀ {k : Nat} {q : Int × Int} {g : pm_H}, k < 7 → bd 4 k = some q → q.1 ≤ 0 → 0 ≤ q.2 → HH g → fr_g [(4, 0, 6)] h g → (∀ i, i < k → gi g 4 i = nJ 0) → HH (pt g 4 k (nJ 0)) ∧ fr_g [(4, 0, 6)] h (pt g 4 k (nJ 0)) ∧ ∀ i, i < k + 1 → gi (pt g 4 k (nJ 0)) 4 i = nJ 0 := by
    intro k q g hk hb q1 q2 hg hf ha
    refine ⟨HH_pt hg hb q1 q2, fr_ptr (l := 0) (u := 6) rfl (by first | decide | with_reducible assumption | omega) (by first | decide | with_reducible assumption | omega) hf, fun i hi => ?_⟩
    by_cases e : i = k
    · rw [e]; exact gi_pt hg hb q1 q2
    · rw [gi_ne (fun _ => e)]; exact ha i (by first | decide | with_reducible assumption | omega)
  refine E_al rfl L0 ?_
  refine E_ci 0 rfl ci0 ?_
  refine E_opf (q := (0, 8)) rfl hh rfl rfl ?_
  obtain ⟨a0, b0, c0⟩ := st (k := 0) (q := (0, 8)) (by decide) rfl (by decide) (by decide) hh (fr_rf _ _) (fun i hi => absurd hi (Nat.not_lt_zero i))
  refine E_al rfl L0 ?_
  refine E_ci 0 rfl ci0 ?_
  refine E_opf (q := (0, 3)) rfl a0 rfl rfl ?_
  obtain ⟨a1, b1, c1⟩ := st (k := 1) (q := (0, 3)) (by decide) rfl (by decide) (by decide) a0 b0 c0
  refine E_al rfl L0 ?_
  refine E_ci 0 rfl ci0 ?_
  refine E_opf (q := (0, 10)) rfl a1 rfl rfl ?_
  obtain ⟨a2, b2, c2⟩ := st (k := 2) (q := (0, 10)) (by decide) rfl (by decide) (by decide) a1 b1 c1
  refine E_al rfl L0 ?_
  refine E_ci 0 rfl ci0 ?_
  refine E_opf (q := ((-2147483648), 2147483647)) rfl a2 rfl rfl ?_
  obtain ⟨a3, b3, c3⟩ := st (k := 3) (q := ((-2147483648), 2147483647)) (by decide) rfl (by decide) (by decide) a2 b2 c2
  refine E_al rfl L0 ?_
  refine E_ci 0 rfl ci0 ?_
  refine E_opf (q := (0, 8)) rfl a3 rfl rfl ?_
  obtain ⟨a4, b4, c4⟩ := st (k := 4) (q := (0, 8)) (by decide) rfl (by decide) (by decide) a3 b3 c3
  refine E_al rfl L0 ?_
  refine E_ci 0 rfl ci0 ?_
  refine E_opf (q := (0, 8)) rfl a4 rfl rfl ?_
  obtain ⟨a5, b5, c5⟩ := st (k := 5) (q := (0, 8)) (by decide) rfl (by decide) (by decide) a4 b4 c4
  refine E_al rfl L0 ?_
  refine E_ci 0 rfl ci0 ?_
  refine E_opf (q := (0, 20)) rfl a5 rfl rfl ?_
  obtain ⟨a6, b6, c6⟩ := st (k := 6) (q := (0, 20)) (by decide) rfl (by decide) (by decide) a5 b5 c5
  exact E_ret rfl ⟨rfl, a6, b6, c6⟩
theorem sp_addCar {c w t : Nat} (hh : HH h) (gc : gi h 4 4 = nJ c) (hc : c < 8) (hw : w ≤ 8) (ht : t ≤ 99) : Sp (d + 1) 48 h [.ref 4, .int (nJ w), .int (nJ t)] (fun h' r => r = none ∧ HH h' ∧ h' = pt (pt (pt (pt h 5 c (nJ w)) 6 c (nJ w)) 7 c (nJ t)) 4 4 (nJ (c + 1))) := by
  refine Sp_of aiX5_addCar rfl rfl rfl ?_
  have L0 : pm_get (lv_args 0 [.ref 4, .int (nJ w), .int (nJ t)]) 0 = some (.ref 4) := rfl
  have L1 : pm_get (lv_args 0 [.ref 4, .int (nJ w), .int (nJ t)]) 1 = some (.int (nJ w)) := rfl
  have L2 : pm_get (lv_args 0 [.ref 4, .int (nJ w), .int (nJ t)]) 2 = some (.int (nJ t)) := rfl
  generalize lv_args 0 [.ref 4, .int (nJ w), .int (nJ t)] = lv at L0 L1 L2 ⊢
  refine E_al rfl L0 ?_
  refine E_ogf (q := (0, 8)) rfl hh rfl rfl gc ?_
  refine E_ci 8 rfl ci8 ?_
  refine E_icF rfl (decide_eq_false (fun z => absurd ((nJ_le (by first | decide | with_reducible assumption | omega) (by first | decide | with_reducible assumption | omega)).mp z) (by first | decide | with_reducible assumption | omega))) ?_
  have h1 : HH (pt h 5 c (nJ w)) := HH_ptn hh (bd_u rfl (by first | decide | with_reducible assumption | omega)) (by first | decide | with_reducible assumption | omega) (by first | decide | with_reducible assumption | omega) (by first | decide | with_reducible assumption | omega)
  have h2 : HH (pt (pt h 5 c (nJ w)) 6 c (nJ w)) := HH_ptn h1 (bd_u rfl (by first | decide | with_reducible assumption | omega)) (by first | decide | with_reducible assumption | omega) (by first | decide | with_reducible assumption | omega) (by first | decide | with_reducible assumption | omega)
  have h3 : HH (pt (pt (pt h 5 c (nJ w)) 6 c (nJ w)) 7 c (nJ t)) := HH_ptn h2 (bd_u rfl (by first | decide | with_reducible assumption | omega)) (by first | decide | with_reducible assumption | omega) (by first | decide | with_reducible assumption | omega) (by first | decide | with_reducible assumption | omega)
  have h4 : HH (pt (pt (pt (pt h 5 c (nJ w)) 6 c (nJ w)) 7 c (nJ t)) 4 4 (nJ (c + 1))) := HH_ptn h3 rfl (by first | decide | with_reducible assumption | omega) (by first | decide | with_reducible assumption | omega) (by first | decide | with_reducible assumption | omega)
  refine E_al rfl L0 ?_
  refine E_ogr (q := 5) rfl hh rfl rfl ?_
  refine E_al rfl L0 ?_
  refine E_ogf (q := (0, 8)) rfl hh rfl rfl gc ?_
  refine E_il rfl L1 ?_
  refine E_ias rfl hh rfl (by first | decide | with_reducible assumption | omega) (by decide) ?_
  refine E_al rfl L0 ?_
  refine E_ogr (q := 6) rfl h1 rfl rfl ?_
  refine E_al rfl L0 ?_
  refine E_ogf (q := (0, 8)) (v := nJ c) rfl h1 rfl rfl (by rw [gi_ne (by first | exact gxx rfl | omega)]; exact gc) ?_
  refine E_il rfl L1 ?_
  refine E_ias rfl h1 rfl (by first | decide | with_reducible assumption | omega) (by decide) ?_
  refine E_al rfl L0 ?_
  refine E_ogr (q := 7) rfl h2 rfl rfl ?_
  refine E_al rfl L0 ?_
  refine E_ogf (q := (0, 8)) (v := nJ c) rfl h2 rfl rfl (by rw [gi_ne (by first | exact gxx rfl | omega), gi_ne (by first | exact gxx rfl | omega)]; exact gc) ?_
  refine E_il rfl L2 ?_
  refine E_ias rfl h2 rfl (by first | decide | with_reducible assumption | omega) (by decide) ?_
  refine E_al rfl L0 ?_
  refine E_dup rfl rfl ?_
  refine E_ogf (q := (0, 8)) (v := nJ c) rfl h3 rfl rfl (by rw [gi_ne (by first | exact gxx rfl | omega), gi_ne (by first | exact gxx rfl | omega), gi_ne (by first | exact gxx rfl | omega)]; exact gc) ?_
  refine E_ci 1 rfl ci1 ?_
  refine E_bin rfl (nJ_add _ _) ?_
  refine E_opf (q := (0, 8)) rfl h3 rfl rfl ?_
  exact E_ret rfl ⟨rfl, h4, rfl⟩
theorem sp_addJoin {j a b : Nat} (hh : HH h) (gj : gi h 4 5 = nJ j) (hj : j < 8) (ha : a ≤ 9) (hb : b ≤ 9) : Sp (d + 1) 49 h [.ref 4, .int (nJ a), .int (nJ b)] (fun h' r => r = none ∧ HH h' ∧ h' = pt (pt (pt h 8 j (nJ a)) 9 j (nJ b)) 4 5 (nJ (j + 1))) := by
  refine Sp_of aiX5_addJoin rfl rfl rfl ?_
  have L0 : pm_get (lv_args 0 [.ref 4, .int (nJ a), .int (nJ b)]) 0 = some (.ref 4) := rfl
  have L1 : pm_get (lv_args 0 [.ref 4, .int (nJ a), .int (nJ b)]) 1 = some (.int (nJ a)) := rfl
  have L2 : pm_get (lv_args 0 [.ref 4, .int (nJ a), .int (nJ b)]) 2 = some (.int (nJ b)) := rfl
  generalize lv_args 0 [.ref 4, .int (nJ a), .int (nJ b)] = lv at L0 L1 L2 ⊢
  refine E_al rfl L0 ?_
  refine E_ogf (q := (0, 8)) rfl hh rfl rfl gj ?_
  refine E_ci 8 rfl ci8 ?_
  refine E_icF rfl (decide_eq_false (fun z => absurd ((nJ_le (by first | decide | with_reducible assumption | omega) (by first | decide | with_reducible assumption | omega)).mp z) (by first | decide | with_reducible assumption | omega))) ?_
  have h1 : HH (pt h 8 j (nJ a)) := HH_ptn hh (bd_u rfl (by first | decide | with_reducible assumption | omega)) (by first | decide | with_reducible assumption | omega) (by first | decide | with_reducible assumption | omega) (by first | decide | with_reducible assumption | omega)
  have h2 : HH (pt (pt h 8 j (nJ a)) 9 j (nJ b)) := HH_ptn h1 (bd_u rfl (by first | decide | with_reducible assumption | omega)) (by first | decide | with_reducible assumption | omega) (by first | decide | with_reducible assumption | omega) (by first | decide | with_reducible assumption | omega)
  have h3 : HH (pt (pt (pt h 8 j (nJ a)) 9 j (nJ b)) 4 5 (nJ (j + 1))) := HH_ptn h2 rfl (by first | decide | with_reducible assumption | omega) (by first | decide | with_reducible assumption | omega) (by first | decide | with_reducible assumption | omega)
  refine E_al rfl L0 ?_
  refine E_ogr (q := 8) rfl hh rfl rfl ?_
  refine E_al rfl L0 ?_
  refine E_ogf (q := (0, 8)) rfl hh rfl rfl gj ?_
  refine E_il rfl L1 ?_
  refine E_ias rfl hh rfl (by first | decide | with_reducible assumption | omega) (by decide) ?_
  refine E_al rfl L0 ?_
  refine E_ogr (q := 9) rfl h1 rfl rfl ?_
  refine E_al rfl L0 ?_
  refine E_ogf (q := (0, 8)) (v := nJ j) rfl h1 rfl rfl (by rw [gi_ne (by first | exact gxx rfl | omega)]; exact gj) ?_
  refine E_il rfl L2 ?_
  refine E_ias rfl h1 rfl (by first | decide | with_reducible assumption | omega) (by decide) ?_
  refine E_al rfl L0 ?_
  refine E_dup rfl rfl ?_
  refine E_ogf (q := (0, 8)) (v := nJ j) rfl h2 rfl rfl (by rw [gi_ne (by first | exact gxx rfl | omega), gi_ne (by first | exact gxx rfl | omega)]; exact gj) ?_
  refine E_ci 1 rfl ci1 ?_
  refine E_bin rfl (nJ_add _ _) ?_
  refine E_opf (q := (0, 8)) rfl h2 rfl rfl ?_
  exact E_ret rfl ⟨rfl, h3, rfl⟩
theorem ret_bad {look : Nat → Option pm_I} {call : pm_Call} {pc n : Nat} {lv : List (Nat × Value)} {z : Nat × Nat} {e : Nat × Nat} {F : List Rng} {h0 : pm_H} {P : pm_H → Prop} (h1 : look pc = some (.inl (s_const (.int 0) n))) (h2 : look n = some (.inr (.inr 2))) (f : fr_g F h0 h) (C : CS T L (.inl e) h) : Ends look call (pc, lv, [], h, z) (fun h' r => r = some (.int (zb (isR (.inl e) = true))) ∧ fr_g F h0 h' ∧ CS T L (.inl e) h' ∧ (isR (.inl e) = true → P h')) := by
  refine E_ci 0 h1 (by decide) ?_
  exact E_rtz h2 (.inl rfl) ⟨by rw [isR_l], f, C, fun q => by cases q⟩
theorem ret_bad2 {look : Nat → Option pm_I} {call : pm_Call} {pc : Nat} {lv : List (Nat × Value)} {z : Nat × Nat} {e : Nat × Nat} {F : List Rng} {h0 : pm_H} {P : pm_H → Prop} (h2 : look pc = some (.inr (.inr 2))) (f : fr_g F h0 h) (C : CS T L (.inl e) h) : Ends look call (pc, lv, [.int (nJ 0)], h, z) (fun h' r => r = some (.int (zb (isR (.inl e) = true))) ∧ fr_g F h0 h' ∧ CS T L (.inl e) h' ∧ (isR (.inl e) = true → P h')) :=
  E_rtz h2 (.inl rfl) ⟨by rw [isR_l], f, C, fun q => by cases q⟩
end CL0
noncomputable def HdF : List Rng := [(3, 1, 2), (3, 5, 9), (4, 0, 2), (13, 1, 1), (14, 0, 9)]
noncomputable def CrF : List Rng := [(3, 1, 2), (3, 5, 9), (4, 4, 4), (5, 0, 7), (6, 0, 7), (7, 0, 7)]
noncomputable def JnF : List Rng := [(3, 1, 2), (3, 5, 9), (4, 5, 5), (8, 0, 7), (9, 0, 7), (14, 0, 9)]
section CL1
variable {T : Nat → Int32} {L d s : Nat} {h : pm_H}
theorem sp_readHead (C : CS T L (.inr s) h) : Sp (d + 7) 32 h [.ref 3] (fun h' r => r = some (.int (zb (isR (lnH T L (.inr s)).1 = true))) ∧ fr_g HdF h h' ∧ CS T L (lnH T L (.inr s)).1 h' ∧ (isR (lnH T L (.inr s)).1 = true → gi h' 4 0 = nJ (lnH T L (.inr s)).2.1 ∧ gi h' 4 1 = nJ (lnH T L (.inr s)).2.2.1 ∧ gi h' 4 2 = nJ (lnH T L (.inr s)).2.2.2 ∧ MK ((lnH T L (.inr s)).2.1 + 1) (fun k => k) h')) := by
  refine Sp_of aiX2_readHead rfl rfl rfl ?_
  have L0 : pm_get (lv_args 0 [.ref 3]) 0 = some (.ref 3) := rfl
  generalize lv_args 0 [.ref 3] = lv at L0 ⊢
  unfold lnH
  dsimp only
  refine E_al rfl L0 ?_
  refine E_c rfl ?_
  refine E_call rfl (Sp_le (by first | exact Nat.add_le_add_left (Nat.le_of_ble_eq_true rfl) _ | exact Nat.le_of_ble_eq_true rfl | omega) (sp_tW (d := d) (k := 0) C (by decide))) (chkO (a := 3) (CS_TA C).1 rfl rfl rfl rfl (by show 0 ≤ 8; decide)) (fun h1 r1 => ?_)
  rintro ⟨e1, f1, C1⟩
  cases x1 : bW T L (wd 0) (.inr s) with
  | inl e =>
    rw [x1] at C1 e1
    rw [isR_l] at e1
    rw [e1]
    refine E_ifT rfl (by decide) ?_
    exact ret_bad (F := HdF) rfl rfl (fr_trans (fr_rf _ _) (fr_wk rfl f1)) C1
  | inr s1 =>
    rw [x1] at C1 e1
    rw [isR_r] at e1
    rw [e1]
    refine E_ifF rfl (by decide) ?_
    have F1 : fr_g HdF h h1 := fr_trans (fr_rf _ _) (fr_wk rfl f1)
    refine E_al rfl L0 ?_
    refine E_c rfl ?_
    refine E_call rfl (Sp_le (by first | exact Nat.add_le_add_left (Nat.le_of_ble_eq_true rfl) _ | exact Nat.le_of_ble_eq_true rfl | omega) (sp_tW (d := d) (k := 1) C1 (by decide))) (chkO (a := 3) (CS_TA C1).1 rfl rfl rfl rfl (by show 0 ≤ 8; decide)) (fun h2 r2 => ?_)
    rintro ⟨e2, f2, C2⟩
    cases x2 : bW T L (wd 1) (.inr s1) with
    | inl e =>
      rw [x2] at C2 e2
      rw [isR_l] at e2
      rw [e2]
      refine E_ifT rfl (by decide) ?_
      exact ret_bad (F := HdF) rfl rfl (fr_trans F1 (fr_wk rfl f2)) C2
    | inr s2 =>
      rw [x2] at C2 e2
      rw [isR_r] at e2
      rw [e2]
      refine E_ifF rfl (by decide) ?_
      have F2 : fr_g HdF h h2 := fr_trans F1 (fr_wk rfl f2)
      refine E_al rfl L0 ?_
      refine E_ci 1 rfl ci1 ?_
      refine E_ci 8 rfl ci8 ?_
      refine E_call rfl (Sp_le (by first | exact Nat.add_le_add_left (Nat.le_of_ble_eq_true rfl) _ | exact Nat.le_of_ble_eq_true rfl | omega) (sp_takeNumber (d := d) (lo := 1) (hi := 8) C2 (by first | decide | with_reducible assumption | omega) (by first | decide | with_reducible assumption | omega))) (chkO (a := 3) (CS_TA C2).1 rfl rfl rfl rfl (by show 0 ≤ 8; decide)) (fun h3 r3 => ?_)
      rintro ⟨e3, f3, C3, v3⟩
      cases x3 : bN T L 1 8 (.inr s2) with
      | inl e =>
        rw [x3] at C3 e3
        rw [isR_l] at e3
        rw [e3]
        refine E_ifF rfl (by decide) ?_
        exact ret_bad (F := HdF) rfl rfl (fr_trans F2 (fr_wk rfl f3)) C3
      | inr s3 =>
        obtain ⟨g3, u3, w3⟩ := v3 (by rw [x3]; rfl)
        rw [x3] at C3 e3
        rw [isR_r] at e3
        rw [e3]
        refine E_ifT rfl (by decide) ?_
        generalize bV T L 1 8 (.inr s2) = V3 at g3 u3 w3 ⊢
        have F3 : fr_g HdF h h3 := fr_trans F2 (fr_wk rfl f3)
        refine E_al rfl L0 ?_
        refine E_ogr (q := 4) rfl (CS_TA C3).1 rfl rfl ?_
        refine E_al rfl L0 ?_
        refine E_ogf (q := (0, 99)) rfl (CS_TA C3).1 rfl rfl g3 ?_
        refine E_opf (q := (0, 8)) rfl (CS_TA C3).1 rfl rfl ?_
        have hp0 : HH (pt h3 4 0 (nJ V3)) := HH_ptn (CS_TA C3).1 rfl (by first | decide | with_reducible assumption | omega) (by first | decide | with_reducible assumption | omega) (by first | decide | with_reducible assumption | omega)
        have D0 := CS_pt (by first | decide | with_reducible assumption | omega) hp0 C3
        have G0 : gi (pt h3 4 0 (nJ V3)) 4 0 = nJ V3 := gi_ptn (CS_TA C3).1 rfl (by first | decide | with_reducible assumption | omega) (by first | decide | with_reducible assumption | omega) (by first | decide | with_reducible assumption | omega)
        have FF0 : fr_g HdF h (pt h3 4 0 (nJ V3)) := fr_ptr (l := 0) (u := 2) rfl (by first | decide | with_reducible assumption | omega) (by first | decide | with_reducible assumption | omega) F3
        generalize pt h3 4 0 (nJ V3) = hq0 at hp0 D0 G0 FF0 ⊢
        refine E_al rfl L0 ?_
        refine E_c rfl ?_
        refine E_call rfl (Sp_le (by first | exact Nat.add_le_add_left (Nat.le_of_ble_eq_true rfl) _ | exact Nat.le_of_ble_eq_true rfl | omega) (sp_tW (d := d) (k := 2) D0 (by decide))) (chkO (a := 3) (CS_TA D0).1 rfl rfl rfl rfl (by show 0 ≤ 8; decide)) (fun h4 r4 => ?_)
        rintro ⟨e4, f4, C4⟩
        cases x4 : bW T L (wd 2) (.inr s3) with
        | inl e =>
          rw [x4] at C4 e4
          rw [isR_l] at e4
          rw [e4]
          refine E_ifT rfl (by decide) ?_
          exact ret_bad (F := HdF) rfl rfl (fr_trans FF0 (fr_wk rfl f4)) C4
        | inr s4 =>
          rw [x4] at C4 e4
          rw [isR_r] at e4
          rw [e4]
          refine E_ifF rfl (by decide) ?_
          have F4 : fr_g HdF h h4 := fr_trans FF0 (fr_wk rfl f4)
          refine E_al rfl L0 ?_
          refine E_ci 0 rfl ci0 ?_
          refine E_ci 3 rfl ci3 ?_
          refine E_call rfl (Sp_le (by first | exact Nat.add_le_add_left (Nat.le_of_ble_eq_true rfl) _ | exact Nat.le_of_ble_eq_true rfl | omega) (sp_takeNumber (d := d) (lo := 0) (hi := 3) C4 (by first | decide | with_reducible assumption | omega) (by first | decide | with_reducible assumption | omega))) (chkO (a := 3) (CS_TA C4).1 rfl rfl rfl rfl (by show 0 ≤ 8; decide)) (fun h5 r5 => ?_)
          rintro ⟨e5, f5, C5, v5⟩
          cases x5 : bN T L 0 3 (.inr s4) with
          | inl e =>
            rw [x5] at C5 e5
            rw [isR_l] at e5
            rw [e5]
            refine E_ifF rfl (by decide) ?_
            exact ret_bad (F := HdF) rfl rfl (fr_trans F4 (fr_wk rfl f5)) C5
          | inr s5 =>
            obtain ⟨g5, u5, w5⟩ := v5 (by rw [x5]; rfl)
            rw [x5] at C5 e5
            rw [isR_r] at e5
            rw [e5]
            refine E_ifT rfl (by decide) ?_
            generalize bV T L 0 3 (.inr s4) = V5 at g5 u5 w5 ⊢
            have F5 : fr_g HdF h h5 := fr_trans F4 (fr_wk rfl f5)
            refine E_al rfl L0 ?_
            refine E_ogr (q := 4) rfl (CS_TA C5).1 rfl rfl ?_
            refine E_al rfl L0 ?_
            refine E_ogf (q := (0, 99)) rfl (CS_TA C5).1 rfl rfl g5 ?_
            refine E_opf (q := (0, 3)) rfl (CS_TA C5).1 rfl rfl ?_
            have hp1 : HH (pt h5 4 1 (nJ V5)) := HH_ptn (CS_TA C5).1 rfl (by first | decide | with_reducible assumption | omega) (by first | decide | with_reducible assumption | omega) (by first | decide | with_reducible assumption | omega)
            have D1 := CS_pt (by first | decide | with_reducible assumption | omega) hp1 C5
            have G1 : gi (pt h5 4 1 (nJ V5)) 4 1 = nJ V5 := gi_ptn (CS_TA C5).1 rfl (by first | decide | with_reducible assumption | omega) (by first | decide | with_reducible assumption | omega) (by first | decide | with_reducible assumption | omega)
            have FF1 : fr_g HdF h (pt h5 4 1 (nJ V5)) := fr_ptr (l := 0) (u := 2) rfl (by first | decide | with_reducible assumption | omega) (by first | decide | with_reducible assumption | omega) F5
            have G01 : gi (pt h5 4 1 (nJ V5)) 4 0 = nJ V3 := by rw [gi_ne (by first | exact gxx rfl | omega), fr_gi f5 rfl, fr_gi f4 rfl]; exact G0
            generalize pt h5 4 1 (nJ V5) = hq1 at hp1 D1 G1 FF1 G01 ⊢
            refine E_al rfl L0 ?_
            refine E_c rfl ?_
            refine E_call rfl (Sp_le (by first | exact Nat.add_le_add_left (Nat.le_of_ble_eq_true rfl) _ | exact Nat.le_of_ble_eq_true rfl | omega) (sp_tW (d := d) (k := 3) D1 (by decide))) (chkO (a := 3) (CS_TA D1).1 rfl rfl rfl rfl (by show 0 ≤ 8; decide)) (fun h6 r6 => ?_)
            rintro ⟨e6, f6, C6⟩
            cases x6 : bW T L (wd 3) (.inr s5) with
            | inl e =>
              rw [x6] at C6 e6
              rw [isR_l] at e6
              rw [e6]
              refine E_ifT rfl (by decide) ?_
              exact ret_bad (F := HdF) rfl rfl (fr_trans FF1 (fr_wk rfl f6)) C6
            | inr s6 =>
              rw [x6] at C6 e6
              rw [isR_r] at e6
              rw [e6]
              refine E_ifF rfl (by decide) ?_
              have F6 : fr_g HdF h h6 := fr_trans FF1 (fr_wk rfl f6)
              refine E_al rfl L0 ?_
              refine E_ci 0 rfl ci0 ?_
              refine E_ci 10 rfl ci10 ?_
              refine E_call rfl (Sp_le (by first | exact Nat.add_le_add_left (Nat.le_of_ble_eq_true rfl) _ | exact Nat.le_of_ble_eq_true rfl | omega) (sp_takeNumber (d := d) (lo := 0) (hi := 10) C6 (by first | decide | with_reducible assumption | omega) (by first | decide | with_reducible assumption | omega))) (chkO (a := 3) (CS_TA C6).1 rfl rfl rfl rfl (by show 0 ≤ 8; decide)) (fun h7 r7 => ?_)
              rintro ⟨e7, f7, C7, v7⟩
              cases x7 : bN T L 0 10 (.inr s6) with
              | inl e =>
                rw [x7] at C7 e7
                rw [isR_l] at e7
                rw [e7]
                refine E_ifF rfl (by decide) ?_
                exact ret_bad (F := HdF) rfl rfl (fr_trans F6 (fr_wk rfl f7)) C7
              | inr s7 =>
                obtain ⟨g7, u7, w7⟩ := v7 (by rw [x7]; rfl)
                rw [x7] at C7 e7
                rw [isR_r] at e7
                rw [e7]
                refine E_ifT rfl (by decide) ?_
                generalize bV T L 0 10 (.inr s6) = V7 at g7 u7 w7 ⊢
                have F7 : fr_g HdF h h7 := fr_trans F6 (fr_wk rfl f7)
                refine E_al rfl L0 ?_
                refine E_ogr (q := 4) rfl (CS_TA C7).1 rfl rfl ?_
                refine E_al rfl L0 ?_
                refine E_ogf (q := (0, 99)) rfl (CS_TA C7).1 rfl rfl g7 ?_
                refine E_opf (q := (0, 10)) rfl (CS_TA C7).1 rfl rfl ?_
                have hp2 : HH (pt h7 4 2 (nJ V7)) := HH_ptn (CS_TA C7).1 rfl (by first | decide | with_reducible assumption | omega) (by first | decide | with_reducible assumption | omega) (by first | decide | with_reducible assumption | omega)
                have D2 := CS_pt (by first | decide | with_reducible assumption | omega) hp2 C7
                have G2 : gi (pt h7 4 2 (nJ V7)) 4 2 = nJ V7 := gi_ptn (CS_TA C7).1 rfl (by first | decide | with_reducible assumption | omega) (by first | decide | with_reducible assumption | omega) (by first | decide | with_reducible assumption | omega)
                have FF2 : fr_g HdF h (pt h7 4 2 (nJ V7)) := fr_ptr (l := 0) (u := 2) rfl (by first | decide | with_reducible assumption | omega) (by first | decide | with_reducible assumption | omega) F7
                have G02 : gi (pt h7 4 2 (nJ V7)) 4 0 = nJ V3 := by rw [gi_ne (by first | exact gxx rfl | omega), fr_gi f7 rfl, fr_gi f6 rfl]; exact G01
                have G12 : gi (pt h7 4 2 (nJ V7)) 4 1 = nJ V5 := by rw [gi_ne (by first | exact gxx rfl | omega), fr_gi f7 rfl, fr_gi f6 rfl]; exact G1
                generalize pt h7 4 2 (nJ V7) = hq2 at hp2 D2 G2 FF2 G02 G12 ⊢
                refine E_al rfl L0 ?_
                refine E_ogr (q := 13) rfl (CS_TA D2).1 rfl rfl ?_
                refine E_al rfl L0 ?_
                refine E_ogr (q := 4) rfl (CS_TA D2).1 rfl rfl ?_
                refine E_ogf (q := (0, 8)) rfl (CS_TA D2).1 rfl rfl G02 ?_
                refine E_ci 1 rfl ci1 ?_
                refine E_bin rfl (nJ_add _ _) ?_
                refine E_call rfl (Sp_le (by first | exact Nat.add_le_add_left (Nat.le_of_ble_eq_true rfl) _ | exact Nat.le_of_ble_eq_true rfl | omega) (sp_start (d := d) (n := V3 + 1) (CS_TA D2).1 (by first | decide | with_reducible assumption | omega) (by first | decide | with_reducible assumption | omega))) (chkO (a := 13) (CS_TA D2).1 rfl rfl rfl rfl (by show 0 ≤ 8; decide)) (fun hz rz => ?_)
                rintro ⟨ez, hhz, fz, Mz⟩
                rw [ez]
                refine E_ci 1 rfl ci1 ?_
                refine E_rtz rfl (.inr rfl) ⟨by rw [isR_r], fr_trans FF2 (fr_wk rfl fz), CS_frm fz rfl rfl rfl hhz D2, fun _ => ⟨?_, ?_, ?_, Mz⟩⟩
                · rw [fr_gi fz rfl]; exact G02
                · rw [fr_gi fz rfl]; exact G12
                · rw [fr_gi fz rfl]; exact G2
noncomputable def lnC' (T : Nat → Int32) (L p c s : Nat) : Px := bif Nat.beq c p then .inl (3, s) else (lnC T L p (.inr (nxt T L s))).1
theorem sp_readCar {c p : Nat} (C : CS T L (.inr s) h) (hw : wIs T L s (wd 4) = true) (gc : gi h 4 4 = nJ c) (gp : gi h 4 0 = nJ p) (cp : c ≤ p) (p8 : p ≤ 8) : Sp (d + 7) 30 h [.ref 3] (fun h' r => r = some (.int (zb (isR (lnC' T L p c s) = true))) ∧ fr_g CrF h h' ∧ CS T L (lnC' T L p c s) h' ∧ (isR (lnC' T L p c s) = true → gi h' 4 4 = nJ (c + 1) ∧ (∀ i, i ≠ c → gi h' 5 i = gi h 5 i ∧ gi h' 6 i = gi h 6 i ∧ gi h' 7 i = gi h 7 i) ∧ gi h' 5 c = nJ (lnC T L p (.inr (nxt T L s))).2.1 ∧ gi h' 6 c = nJ (lnC T L p (.inr (nxt T L s))).2.1 ∧ gi h' 7 c = nJ (lnC T L p (.inr (nxt T L s))).2.2)) := by
  refine Sp_of aiX2_readCar rfl rfl rfl ?_
  have L0 : pm_get (lv_args 0 [.ref 3]) 0 = some (.ref 3) := rfl
  generalize lv_args 0 [.ref 3] = lv at L0 ⊢
  have hh : HH h := C.1.1
  refine E_al rfl L0 ?_
  refine E_ogr (q := 4) rfl hh rfl rfl ?_
  refine E_ogf (q := (0, 8)) rfl hh rfl rfl gc ?_
  refine E_al rfl L0 ?_
  refine E_ogr (q := 4) rfl hh rfl rfl ?_
  refine E_ogf (q := (0, 8)) rfl hh rfl rfl gp ?_
  unfold lnC'
  by_cases ecp : c = p
  · rw [nbeq.mpr ecp]
    refine E_icF rfl (decide_eq_false (fun z => absurd ((nJ_lt (by first | decide | with_reducible assumption | omega) (by first | decide | with_reducible assumption | omega)).mp z) (by first | decide | with_reducible assumption | omega))) ?_
    refine E_al rfl L0 ?_
    refine E_ci 3 rfl ci3 ?_
    refine E_call rfl (Sp_le (by first | exact Nat.add_le_add_left (Nat.le_of_ble_eq_true rfl) _ | exact Nat.le_of_ble_eq_true rfl | omega) (sp_refuse (d := d) (k := 3) C (by first | decide | with_reducible assumption | omega) (by first | decide | with_reducible assumption | omega))) (chkO (a := 3) hh rfl rfl rfl rfl (by show 0 ≤ 8; decide)) (fun h2 r2 => ?_)
    rintro ⟨e2, f2, C2⟩
    rw [e2]
    exact ret_bad2 (F := CrF) rfl (fr_wk rfl f2) C2
  rw [nbeqF ecp]
  refine E_icT rfl (decide_eq_true ((nJ_lt (by first | decide | with_reducible assumption | omega) (by first | decide | with_reducible assumption | omega)).mpr (by first | decide | with_reducible assumption | omega))) ?_
  refine E_al rfl L0 ?_
  refine E_c rfl ?_
  refine E_call rfl (Sp_le (by first | exact Nat.add_le_add_left (Nat.le_of_ble_eq_true rfl) _ | exact Nat.le_of_ble_eq_true rfl | omega) (sp_tW (d := d) (k := 4) C (by decide))) (chkO (a := 3) hh rfl rfl rfl rfl (by show 0 ≤ 8; decide)) (fun ha ra => ?_)
  rintro ⟨ea, fa, Ca⟩
  rw [bW_T hw] at ea Ca
  rw [isR_r] at ea
  rw [ea]
  refine E_ifF rfl (by decide) ?_
  have Fa : fr_g CrF h ha := fr_wk rfl fa
  have gpa : gi ha 4 0 = nJ p := by rw [fr_gi fa rfl]; exact gp
  generalize nxt T L s = sa at Ca ⊢
  unfold lnC
  dsimp only [cond_false]
  refine E_al rfl L0 ?_
  refine E_c rfl ?_
  refine E_call rfl (Sp_le (by first | exact Nat.add_le_add_left (Nat.le_of_ble_eq_true rfl) _ | exact Nat.le_of_ble_eq_true rfl | omega) (sp_tW (d := d) (k := 5) Ca (by decide))) (chkO (a := 3) (CS_TA Ca).1 rfl rfl rfl rfl (by show 0 ≤ 8; decide)) (fun h1 r1 => ?_)
  rintro ⟨e1, f1, C1⟩
  cases x1 : bW T L (wd 5) (.inr sa) with
  | inl e =>
    rw [x1] at C1 e1
    rw [isR_l] at e1
    rw [e1]
    refine E_ifT rfl (by decide) ?_
    exact ret_bad (F := CrF) rfl rfl (fr_trans Fa (fr_wk rfl f1)) C1
  | inr s1 =>
    rw [x1] at C1 e1
    rw [isR_r] at e1
    rw [e1]
    refine E_ifF rfl (by decide) ?_
    have F1 : fr_g CrF h h1 := fr_trans Fa (fr_wk rfl f1)
    refine E_al rfl L0 ?_
    refine E_ci 1 rfl ci1 ?_
    refine E_al rfl L0 ?_
    refine E_ogr (q := 4) rfl (CS_TA C1).1 rfl rfl ?_
    refine E_ogf (q := (0, 8)) (v := nJ p) rfl (CS_TA C1).1 rfl rfl (by rw [fr_gi f1 rfl]; exact gpa) ?_
    refine E_call rfl (Sp_le (by first | exact Nat.add_le_add_left (Nat.le_of_ble_eq_true rfl) _ | exact Nat.le_of_ble_eq_true rfl | omega) (sp_takeNumber (d := d) (lo := 1) (hi := p) C1 (by first | decide | with_reducible assumption | omega) (by first | decide | with_reducible assumption | omega))) (chkO (a := 3) (CS_TA C1).1 rfl rfl rfl rfl (by show 0 ≤ 8; decide)) (fun h2 r2 => ?_)
    rintro ⟨e2, f2, C2, v2⟩
    cases x2 : bN T L 1 p (.inr s1) with
    | inl e =>
      rw [x2] at C2 e2
      rw [isR_l] at e2
      rw [e2]
      refine E_ifF rfl (by decide) ?_
      exact ret_bad (F := CrF) rfl rfl (fr_trans F1 (fr_wk rfl f2)) C2
    | inr s2 =>
      obtain ⟨g2, u2, w2⟩ := v2 (by rw [x2]; rfl)
      rw [x2] at C2 e2
      rw [isR_r] at e2
      rw [e2]
      refine E_ifT rfl (by decide) ?_
      generalize bV T L 1 p (.inr s1) = V2 at g2 u2 w2 ⊢
      have F2 : fr_g CrF h h2 := fr_trans F1 (fr_wk rfl f2)
      refine E_al rfl L0 ?_
      refine E_ogf (q := (0, 99)) rfl (CS_TA C2).1 rfl rfl g2 ?_
      refine E_is rfl (fun lv1 K1 kp => ?_)
      have M0 := kp 0 _ (nbz rfl) rfl L0
      refine E_al rfl M0 ?_
      refine E_c rfl ?_
      refine E_call rfl (Sp_le (by first | exact Nat.add_le_add_left (Nat.le_of_ble_eq_true rfl) _ | exact Nat.le_of_ble_eq_true rfl | omega) (sp_tW (d := d) (k := 6) C2 (by decide))) (chkO (a := 3) (CS_TA C2).1 rfl rfl rfl rfl (by show 0 ≤ 8; decide)) (fun h3 r3 => ?_)
      rintro ⟨e3, f3, C3⟩
      cases x3 : bW T L (wd 6) (.inr s2) with
      | inl e =>
        rw [x3] at C3 e3
        rw [isR_l] at e3
        rw [e3]
        refine E_ifT rfl (by decide) ?_
        exact ret_bad (F := CrF) rfl rfl (fr_trans F2 (fr_wk rfl f3)) C3
      | inr s3 =>
        rw [x3] at C3 e3
        rw [isR_r] at e3
        rw [e3]
        refine E_ifF rfl (by decide) ?_
        have F3 : fr_g CrF h h3 := fr_trans F2 (fr_wk rfl f3)
        refine E_al rfl M0 ?_
        refine E_ci 0 rfl ci0 ?_
        refine E_ci 99 rfl ci99 ?_
        refine E_call rfl (Sp_le (by first | exact Nat.add_le_add_left (Nat.le_of_ble_eq_true rfl) _ | exact Nat.le_of_ble_eq_true rfl | omega) (sp_takeNumber (d := d) (lo := 0) (hi := 99) C3 (by first | decide | with_reducible assumption | omega) (by first | decide | with_reducible assumption | omega))) (chkO (a := 3) (CS_TA C3).1 rfl rfl rfl rfl (by show 0 ≤ 8; decide)) (fun h4 r4 => ?_)
        rintro ⟨e4, f4, C4, v4⟩
        cases x4 : bN T L 0 99 (.inr s3) with
        | inl e =>
          rw [x4] at C4 e4
          rw [isR_l] at e4
          rw [e4]
          refine E_ifF rfl (by decide) ?_
          exact ret_bad (F := CrF) rfl rfl (fr_trans F3 (fr_wk rfl f4)) C4
        | inr s4 =>
          obtain ⟨g4, u4, w4⟩ := v4 (by rw [x4]; rfl)
          rw [x4] at C4 e4
          rw [isR_r] at e4
          rw [e4]
          refine E_ifT rfl (by decide) ?_
          generalize bV T L 0 99 (.inr s3) = V4 at g4 u4 w4 ⊢
          have F4 : fr_g CrF h h4 := fr_trans F3 (fr_wk rfl f4)
          refine E_al rfl M0 ?_
          refine E_ogr (q := 4) rfl (CS_TA C4).1 rfl rfl ?_
          refine E_il rfl K1 ?_
          refine E_al rfl M0 ?_
          refine E_ogf (q := (0, 99)) rfl (CS_TA C4).1 rfl rfl g4 ?_
          have gc4 : gi h4 4 4 = nJ c := by rw [fr_gi f4 rfl, fr_gi f3 rfl, fr_gi f2 rfl, fr_gi f1 rfl, fr_gi fa rfl]; exact gc
          refine E_call rfl (Sp_le (by first | exact Nat.add_le_add_left (Nat.le_of_ble_eq_true rfl) _ | exact Nat.le_of_ble_eq_true rfl | omega) (sp_addCar (d := d) (CS_TA C4).1 gc4 (by first | decide | with_reducible assumption | omega) (by first | decide | with_reducible assumption | omega) w4)) (chkO (a := 4) (CS_TA C4).1 rfl rfl rfl rfl (by show 0 ≤ 8; decide)) (fun hz rz => ?_)
          rintro ⟨ez, hhz, ez2⟩
          rw [ez]
          refine E_ci 1 rfl ci1 ?_
          have keep : ∀ a i, a = 5 ∨ a = 6 ∨ a = 7 → gi h4 a i = gi h a i := fun a i ha => by
            rcases ha with rfl | rfl | rfl <;> rw [fr_gi f4 (rg_no rfl _), fr_gi f3 (rg_no rfl _), fr_gi f2 (rg_no rfl _), fr_gi f1 (rg_no rfl _), fr_gi fa (rg_no rfl _)]
          have k1 : HH (pt h4 5 c (nJ V2)) := HH_ptn (CS_TA C4).1 (bd_u rfl (by first | decide | with_reducible assumption | omega)) (by first | decide | with_reducible assumption | omega) (by first | decide | with_reducible assumption | omega) (by first | decide | with_reducible assumption | omega)
          have k2 : HH (pt (pt h4 5 c (nJ V2)) 6 c (nJ V2)) := HH_ptn k1 (bd_u rfl (by first | decide | with_reducible assumption | omega)) (by first | decide | with_reducible assumption | omega) (by first | decide | with_reducible assumption | omega) (by first | decide | with_reducible assumption | omega)
          have k3 : HH (pt (pt (pt h4 5 c (nJ V2)) 6 c (nJ V2)) 7 c (nJ V4)) := HH_ptn k2 (bd_u rfl (by first | decide | with_reducible assumption | omega)) (by first | decide | with_reducible assumption | omega) (by first | decide | with_reducible assumption | omega) (by first | decide | with_reducible assumption | omega)
          have Cz : CS T L (.inr s4) hz := by
            rw [ez2] at hhz ⊢
            exact CS_pt (by first | decide | with_reducible assumption | omega) hhz (CS_pt (by first | decide | with_reducible assumption | omega) k3 (CS_pt (by first | decide | with_reducible assumption | omega) k2 (CS_pt (by first | decide | with_reducible assumption | omega) k1 C4)))
          refine E_rtz rfl (.inr rfl) ⟨by rw [isR_r], ?_, Cz, fun _ => ?_⟩
          · rw [ez2]
            exact fr_ptr (l := 4) (u := 4) rfl (by first | decide | with_reducible assumption | omega) (by first | decide | with_reducible assumption | omega) (fr_ptr (l := 0) (u := 7) rfl (by first | decide | with_reducible assumption | omega) (by first | decide | with_reducible assumption | omega) (fr_ptr (l := 0) (u := 7) rfl (by first | decide | with_reducible assumption | omega) (by first | decide | with_reducible assumption | omega) (fr_ptr (l := 0) (u := 7) rfl (by first | decide | with_reducible assumption | omega) (by first | decide | with_reducible assumption | omega) F4)))
          · rw [ez2]
            refine ⟨gi_ptn k3 rfl (by first | decide | with_reducible assumption | omega) (by first | decide | with_reducible assumption | omega) (by first | decide | with_reducible assumption | omega), fun i hi => ⟨?_, ?_, ?_⟩, ?_, ?_, ?_⟩
            · rw [gi_ne (by first | exact gxx rfl | omega), gi_ne (by first | exact gxx rfl | omega), gi_ne (by first | exact gxx rfl | omega), gi_ne (fun _ => hi)]; exact keep 5 i (.inl rfl)
            · rw [gi_ne (by first | exact gxx rfl | omega), gi_ne (by first | exact gxx rfl | omega), gi_ne (fun _ => hi), gi_ne (by first | exact gxx rfl | omega)]; exact keep 6 i (.inr (.inl rfl))
            · rw [gi_ne (by first | exact gxx rfl | omega), gi_ne (fun _ => hi), gi_ne (by first | exact gxx rfl | omega), gi_ne (by first | exact gxx rfl | omega)]; exact keep 7 i (.inr (.inr rfl))
            · rw [gi_ne (by first | exact gxx rfl | omega), gi_ne (by first | exact gxx rfl | omega), gi_ne (by first | exact gxx rfl | omega)]; exact gi_ptn (CS_TA C4).1 (bd_u rfl (by first | decide | with_reducible assumption | omega)) (by first | decide | with_reducible assumption | omega) (by first | decide | with_reducible assumption | omega) (by first | decide | with_reducible assumption | omega)
            · rw [gi_ne (by first | exact gxx rfl | omega), gi_ne (by first | exact gxx rfl | omega)]; exact gi_ptn k1 (bd_u rfl (by first | decide | with_reducible assumption | omega)) (by first | decide | with_reducible assumption | omega) (by first | decide | with_reducible assumption | omega) (by first | decide | with_reducible assumption | omega)
            · rw [gi_ne (by first | exact gxx rfl | omega)]; exact gi_ptn k2 (bd_u rfl (by first | decide | with_reducible assumption | omega)) (by first | decide | with_reducible assumption | omega) (by first | decide | with_reducible assumption | omega) (by first | decide | with_reducible assumption | omega)
theorem sp_readJoin {p j : Nat} {b : Nat → Nat} (C : CS T L (.inr s) h) (gp : gi h 4 0 = nJ p) (gj : gi h 4 5 = nJ j) (p1 : 1 ≤ p) (p8 : p ≤ 8) (M : MK (p + 1) b h) (hb : ∀ k, 1 ≤ k → k ≤ p + 1 → 1 ≤ b k) (N : NC b (p + 1)) (hj : ∀ x y, 1 ≤ x → x ≤ p + 1 → 1 ≤ y → y ≤ p + 1 → b x ≠ b y → j < 8) : Sp (d + 7) 33 h [.ref 3] (fun h' r => r = some (.int (zb (isR (lnJ T L (p + 1) b (bW T L (wd 7) (.inr s))).1 = true))) ∧ fr_g JnF h h' ∧ CS T L (lnJ T L (p + 1) b (bW T L (wd 7) (.inr s))).1 h' ∧ (isR (lnJ T L (p + 1) b (bW T L (wd 7) (.inr s))).1 = true → j < 8 ∧ gi h' 4 5 = nJ (j + 1) ∧ (∀ i, i ≠ j → gi h' 8 i = gi h 8 i ∧ gi h' 9 i = gi h 9 i) ∧ gi h' 8 j = nJ (lnJ T L (p + 1) b (bW T L (wd 7) (.inr s))).2.1 ∧ gi h' 9 j = nJ (lnJ T L (p + 1) b (bW T L (wd 7) (.inr s))).2.2 ∧ MK (p + 1) (mg b (lnJ T L (p + 1) b (bW T L (wd 7) (.inr s))).2.1 (lnJ T L (p + 1) b (bW T L (wd 7) (.inr s))).2.2) h')) := by
  refine Sp_of aiX2_readJoin rfl rfl rfl ?_
  have L0 : pm_get (lv_args 0 [.ref 3]) 0 = some (.ref 3) := rfl
  generalize lv_args 0 [.ref 3] = lv at L0 ⊢
  unfold lnJ
  dsimp only
  refine E_al rfl L0 ?_
  refine E_c rfl ?_
  refine E_call rfl (Sp_le (by first | exact Nat.add_le_add_left (Nat.le_of_ble_eq_true rfl) _ | exact Nat.le_of_ble_eq_true rfl | omega) (sp_tW (d := d) (k := 7) C (by decide))) (chkO (a := 3) (CS_TA C).1 rfl rfl rfl rfl (by show 0 ≤ 8; decide)) (fun h1 r1 => ?_)
  rintro ⟨e1, f1, C1⟩
  cases x1 : bW T L (wd 7) (.inr s) with
  | inl e =>
    rw [x1] at C1 e1
    rw [isR_l] at e1
    rw [e1]
    refine E_ifT rfl (by decide) ?_
    exact ret_bad (F := JnF) rfl rfl (fr_trans (fr_rf _ _) (fr_wk rfl f1)) C1
  | inr s1 =>
    rw [x1] at C1 e1
    rw [isR_r] at e1
    rw [e1]
    refine E_ifF rfl (by decide) ?_
    have F1 : fr_g JnF h h1 := fr_trans (fr_rf _ _) (fr_wk rfl f1)
    refine E_al rfl L0 ?_
    refine E_ci 1 rfl ci1 ?_
    refine E_al rfl L0 ?_
    refine E_ogr (q := 4) rfl (CS_TA C1).1 rfl rfl ?_
    refine E_ogf (q := (0, 8)) (v := nJ p) rfl (CS_TA C1).1 rfl rfl (by rw [fr_gi f1 rfl]; exact gp) ?_
    refine E_ci 1 rfl ci1 ?_
    refine E_bin rfl (nJ_add _ _) ?_
    refine E_call rfl (Sp_le (by first | exact Nat.add_le_add_left (Nat.le_of_ble_eq_true rfl) _ | exact Nat.le_of_ble_eq_true rfl | omega) (sp_takeNumber (d := d) (lo := 1) (hi := p + 1) C1 (by first | decide | with_reducible assumption | omega) (by first | decide | with_reducible assumption | omega))) (chkO (a := 3) (CS_TA C1).1 rfl rfl rfl rfl (by show 0 ≤ 8; decide)) (fun h2 r2 => ?_)
    rintro ⟨e2, f2, C2, v2⟩
    cases x2 : bN T L 1 (p + 1) (.inr s1) with
    | inl e =>
      rw [x2] at C2 e2
      rw [isR_l] at e2
      rw [e2]
      refine E_ifF rfl (by decide) ?_
      exact ret_bad (F := JnF) rfl rfl (fr_trans F1 (fr_wk rfl f2)) C2
    | inr s2 =>
      obtain ⟨g2, u2, w2⟩ := v2 (by rw [x2]; rfl)
      rw [x2] at C2 e2
      rw [isR_r] at e2
      rw [e2]
      refine E_ifT rfl (by decide) ?_
      generalize bV T L 1 (p + 1) (.inr s1) = V2 at g2 u2 w2 ⊢
      have F2 : fr_g JnF h h2 := fr_trans F1 (fr_wk rfl f2)
      refine E_al rfl L0 ?_
      refine E_ogf (q := (0, 99)) rfl (CS_TA C2).1 rfl rfl g2 ?_
      refine E_is rfl (fun lv1 K1 kp => ?_)
      have M0 := kp 0 _ (nbz rfl) rfl L0
      obtain ⟨A2, ⟨c6, c7, c5, c8⟩, c1, c2, hs2⟩ := id C2
      have hh2 : HH h2 := A2.1
      have hkk := tkk_le (T := T) (L := L) (s := s2)
      have M2 : MK (p + 1) b h2 := ⟨by rw [fr_gi f2 rfl, fr_gi f1 rfl]; exact M.1, M.2.1, M.2.2.1, fun k a c => by rw [fr_gi f2 (rg_no rfl _), fr_gi f1 (rg_no rfl _)]; exact M.2.2.2 k a c⟩
      refine E_al rfl M0 ?_
      refine E_ogf (q := (0, 4)) rfl hh2 rfl rfl c5 ?_
      refine E_ci 2 rfl ci2 ?_
      /- the second number -/
      have rest : bJ T L (p + 1) b V2 (.inr s2) = .inr s2 → (okN T L 1 (p + 1) s2 = true → MAY (p + 1) b V2 (tkv T L s2)) → Ends (pm_at tX2_readJoin) (pm_Rt pm_P (d + 6)) (62, lv1, [], h2, 0, 0) (fun h' r => r = some (.int (zb (isR (bN T L 1 (p + 1) (.inr s2)) = true))) ∧ fr_g JnF h h' ∧ CS T L (bN T L 1 (p + 1) (.inr s2)) h' ∧ (isR (bN T L 1 (p + 1) (.inr s2)) = true → j < 8 ∧ gi h' 4 5 = nJ (j + 1) ∧ (∀ i, i ≠ j → gi h' 8 i = gi h 8 i ∧ gi h' 9 i = gi h 9 i) ∧ gi h' 8 j = nJ V2 ∧ gi h' 9 j = nJ (bV T L 1 (p + 1) (.inr s2)) ∧ MK (p + 1) (mg b V2 (bV T L 1 (p + 1) (.inr s2))) h')) := by
        intro _ may
        refine E_al rfl M0 ?_
        refine E_ci 1 rfl ci1 ?_
        refine E_al rfl M0 ?_
        refine E_ogr (q := 4) rfl hh2 rfl rfl ?_
        refine E_ogf (q := (0, 8)) (v := nJ p) rfl hh2 rfl rfl (by rw [fr_gi f2 rfl, fr_gi f1 rfl]; exact gp) ?_
        refine E_ci 1 rfl ci1 ?_
        refine E_bin rfl (nJ_add _ _) ?_
        refine E_call rfl (Sp_le (by first | exact Nat.add_le_add_left (Nat.le_of_ble_eq_true rfl) _ | exact Nat.le_of_ble_eq_true rfl | omega) (sp_takeNumber (d := d) (lo := 1) (hi := p + 1) C2 (by first | decide | with_reducible assumption | omega) (by first | decide | with_reducible assumption | omega))) (chkO (a := 3) (CS_TA C2).1 rfl rfl rfl rfl (by show 0 ≤ 8; decide)) (fun h3 r3 => ?_)
        rintro ⟨e3, f3, C3, v3⟩
        cases x3 : bN T L 1 (p + 1) (.inr s2) with
        | inl e =>
          rw [x3] at C3 e3
          rw [isR_l] at e3
          rw [e3]
          refine E_ifF rfl (by decide) ?_
          exact ret_bad (F := JnF) rfl rfl (fr_trans F2 (fr_wk rfl f3)) C3
        | inr s3 =>
          obtain ⟨g3, u3, w3⟩ := v3 (by rw [x3]; rfl)
          rw [x3] at C3 e3
          rw [isR_r] at e3
          rw [e3]
          refine E_ifT rfl (by decide) ?_
          obtain ⟨t3, q3, ok3, -⟩ := bN_in x3
          cases q3
          have mm : MAY (p + 1) b V2 (bV T L 1 (p + 1) (.inr s2)) := by rw [(bN_T ok3).2]; exact may ok3
          generalize bV T L 1 (p + 1) (.inr s2) = V3 at g3 u3 w3 mm ⊢
          have F3 : fr_g JnF h h3 := fr_trans F2 (fr_wk rfl f3)
          have j8 := hj V2 V3 u2 w2 u3 w3 mm.1
          have M3 : MK (p + 1) b h3 := ⟨by rw [fr_gi f3 rfl]; exact M2.1, M2.2.1, M2.2.2.1, fun k a c => by rw [fr_gi f3 (rg_no rfl _)]; exact M2.2.2.2 k a c⟩
          refine E_al rfl M0 ?_
          refine E_ogr (q := 13) rfl (CS_TA C3).1 rfl rfl ?_
          refine E_il rfl K1 ?_
          refine E_al rfl M0 ?_
          refine E_ogf (q := (0, 99)) rfl (CS_TA C3).1 rfl rfl g3 ?_
          refine E_call rfl (Sp_le (by first | exact Nat.add_le_add_left (Nat.le_of_ble_eq_true rfl) _ | exact Nat.le_of_ble_eq_true rfl | omega) (sp_join (d := d) (CS_TA C3).1 M3 u2 w2 u3 w3)) (chkO (a := 13) (CS_TA C3).1 rfl rfl rfl rfl (by show 0 ≤ 8; decide)) (fun h4 r4 => ?_)
          rintro ⟨e4, hh4, f4, M4⟩
          rw [e4]
          have C4 := CS_frm f4 rfl rfl rfl hh4 C3
          refine E_al rfl M0 ?_
          refine E_ogr (q := 4) rfl hh4 rfl rfl ?_
          refine E_il rfl K1 ?_
          refine E_al rfl M0 ?_
          refine E_ogf (q := (0, 99)) (v := nJ V3) rfl hh4 rfl rfl (by rw [fr_gi f4 rfl]; exact g3) ?_
          have gj4 : gi h4 4 5 = nJ j := by rw [fr_gi f4 rfl, fr_gi f3 rfl, fr_gi f2 rfl, fr_gi f1 rfl]; exact gj
          refine E_call rfl (Sp_le (by first | exact Nat.add_le_add_left (Nat.le_of_ble_eq_true rfl) _ | exact Nat.le_of_ble_eq_true rfl | omega) (sp_addJoin (d := d) hh4 gj4 j8 (by first | decide | with_reducible assumption | omega) (by first | decide | with_reducible assumption | omega))) (chkO (a := 4) hh4 rfl rfl rfl rfl (by show 0 ≤ 8; decide)) (fun hz rz => ?_)
          rintro ⟨ez, hhz, ez2⟩
          rw [ez]
          refine E_ci 1 rfl ci1 ?_
          have keep : ∀ a i, a = 8 ∨ a = 9 → gi h4 a i = gi h a i := fun a i ha => by
            rcases ha with rfl | rfl <;> rw [fr_gi f4 (rg_no rfl _), fr_gi f3 (rg_no rfl _), fr_gi f2 (rg_no rfl _), fr_gi f1 (rg_no rfl _)]
          have k1 : HH (pt h4 8 j (nJ V2)) := HH_ptn hh4 (bd_u rfl (by first | decide | with_reducible assumption | omega)) (by first | decide | with_reducible assumption | omega) (by first | decide | with_reducible assumption | omega) (by first | decide | with_reducible assumption | omega)
          have k2 : HH (pt (pt h4 8 j (nJ V2)) 9 j (nJ V3)) := HH_ptn k1 (bd_u rfl (by first | decide | with_reducible assumption | omega)) (by first | decide | with_reducible assumption | omega) (by first | decide | with_reducible assumption | omega) (by first | decide | with_reducible assumption | omega)
          have Cz : CS T L (.inr s3) hz := by
            rw [ez2] at hhz ⊢
            exact CS_pt (by first | decide | with_reducible assumption | omega) hhz (CS_pt (by first | decide | with_reducible assumption | omega) k2 (CS_pt (by first | decide | with_reducible assumption | omega) k1 C4))
          refine E_rtz rfl (.inr rfl) ⟨by rw [isR_r], ?_, Cz, fun _ => ?_⟩
          · rw [ez2]
            exact fr_ptr (l := 5) (u := 5) rfl (by first | decide | with_reducible assumption | omega) (by first | decide | with_reducible assumption | omega) (fr_ptr (l := 0) (u := 7) rfl (by first | decide | with_reducible assumption | omega) (by first | decide | with_reducible assumption | omega) (fr_ptr (l := 0) (u := 7) rfl (by first | decide | with_reducible assumption | omega) (by first | decide | with_reducible assumption | omega) (fr_trans F3 (fr_wk rfl f4))))
          · rw [ez2]
            refine ⟨j8, gi_ptn k2 rfl (by first | decide | with_reducible assumption | omega) (by first | decide | with_reducible assumption | omega) (by first | decide | with_reducible assumption | omega), fun i hi => ⟨?_, ?_⟩, ?_, ?_, ?_, M4.2.1, M4.2.2.1, fun k a c => ?_⟩
            · rw [gi_ne (by first | exact gxx rfl | omega), gi_ne (by first | exact gxx rfl | omega), gi_ne (fun _ => hi)]; exact keep 8 i (.inl rfl)
            · rw [gi_ne (by first | exact gxx rfl | omega), gi_ne (fun _ => hi), gi_ne (by first | exact gxx rfl | omega)]; exact keep 9 i (.inr rfl)
            · rw [gi_ne (by first | exact gxx rfl | omega), gi_ne (by first | exact gxx rfl | omega)]; exact gi_ptn hh4 (bd_u rfl (by first | decide | with_reducible assumption | omega)) (by first | decide | with_reducible assumption | omega) (by first | decide | with_reducible assumption | omega) (by first | decide | with_reducible assumption | omega)
            · rw [gi_ne (by first | exact gxx rfl | omega)]; exact gi_ptn k1 (bd_u rfl (by first | decide | with_reducible assumption | omega)) (by first | decide | with_reducible assumption | omega) (by first | decide | with_reducible assumption | omega) (by first | decide | with_reducible assumption | omega)
            · rw [gi_ne (by first | exact gxx rfl | omega), gi_ne (by first | exact gxx rfl | omega), gi_ne (by first | exact gxx rfl | omega)]; exact M4.1
            · rw [gi_ne (by first | exact gxx rfl | omega), gi_ne (by first | exact gxx rfl | omega), gi_ne (by first | exact gxx rfl | omega)]; exact M4.2.2.2 k a c
      by_cases b1 : tkk T L s2 = 2
      · obtain ⟨v, v1, v2, v3⟩ := c8 b1
        refine E_icF rfl (decide_eq_false (fun z => z (by rw [b1]))) ?_
        refine E_al rfl M0 ?_
        refine E_ogr (q := 13) rfl hh2 rfl rfl ?_
        refine E_il rfl K1 ?_
        refine E_al rfl M0 ?_
        refine E_ogf rfl hh2 rfl rfl v2 ?_
        refine E_call rfl (Sp_le (by first | exact Nat.add_le_add_left (Nat.le_of_ble_eq_true rfl) _ | exact Nat.le_of_ble_eq_true rfl | omega) (sp_joinable (d := d) hh2 M2 hb N u2 w2 v1)) (chkO (a := 13) hh2 rfl rfl rfl rfl (by show 0 ≤ 8; decide)) (fun h4 r4 => ?_)
        rintro ⟨e4, q4⟩
        rw [e4]
        have vb := Vr_bd (lo := 1) (hi := p + 1) v3 (by first | decide | with_reducible assumption | omega)
        rcases q4 with ⟨⟨y1, y2, y3⟩, e5⟩ | ⟨y, e5⟩
        · rw [e5]
          refine E_ifT rfl (by decide) ?_
          have vq := vb.mp ⟨y1, y2⟩
          have ev := Vr_eq v3 (hi := p + 1) (by first | decide | with_reducible assumption | omega) vq.2
          rw [ev] at y3
          have eJ : bJ T L (p + 1) b V2 (.inr s2) = .inr s2 := by
            unfold bJ
            dsimp only
            rw [mayb_T y3, Bool.not_true, Bool.and_false]
            rfl
          rw [eJ]
          exact rest eJ (fun _ => y3)
        · rw [e5]
          refine E_ifF rfl (by decide) ?_
          have eX : bN T L 1 (p + 1) (bJ T L (p + 1) b V2 (.inr s2)) = .inl (2, s2) := by
            cases ok : okN T L 1 (p + 1) s2 with
            | true =>
              have o := okN_iff.mp ok
              have ev := Vr_eq v3 (hi := p + 1) (by first | decide | with_reducible assumption | omega) o.2.2
              have nm : ¬ MAY (p + 1) b V2 (tkv T L s2) := fun m => y ⟨by omega, by omega, by rw [ev]; exact m⟩
              unfold bJ
              dsimp only
              rw [ok, mayb_F nm]
              rfl
            | false =>
              have nr : ¬ (1 ≤ tkv T L s2 ∧ tkv T L s2 ≤ p + 1) := fun q => by rw [okN_iff.mpr ⟨b1, q⟩] at ok; cases ok
              unfold bJ
              dsimp only
              rw [ok]
              exact (bN_2 b1 nr).1
          rw [eX]
          refine E_al rfl M0 ?_
          refine E_ci 2 rfl ci2 ?_
          refine E_call rfl (Sp_le (by first | exact Nat.add_le_add_left (Nat.le_of_ble_eq_true rfl) _ | exact Nat.le_of_ble_eq_true rfl | omega) (sp_refuse (d := d) (k := 2) C2 (by first | decide | with_reducible assumption | omega) (by first | decide | with_reducible assumption | omega))) (chkO (a := 3) hh2 rfl rfl rfl rfl (by show 0 ≤ 8; decide)) (fun h5 r5 => ?_)
          rintro ⟨e6, f6, C6⟩
          rw [e6]
          exact ret_bad2 (F := JnF) rfl (fr_trans F2 (fr_wk rfl f6)) C6
      · refine E_icT rfl (decide_eq_true (fun z => b1 ((nJ_eq (by first | decide | with_reducible assumption | omega) (by first | decide | with_reducible assumption | omega)).mp z))) ?_
        have okf : okN T L 1 (p + 1) s2 = false := okN_F (fun q => b1 q.1)
        have eJ : bJ T L (p + 1) b V2 (.inr s2) = .inr s2 := by
          unfold bJ
          dsimp only
          rw [okf]
          rfl
        rw [eJ]
        exact rest eJ (fun ok => by rw [okf] at ok; cases ok)
end CL1
end
section
/-! the class's reading of a whole text (wants t49) -/
noncomputable def geX (L s : Nat) : Px → Prop
  | .inl _ => True
  | .inr t => s ≤ t ∧ t ≤ L
section GEX
variable {T : Nat → Int32} {L s : Nat} {x : Px}
theorem geW {W : List Int32} (g : geX L s x) : geX L s (bW T L W x) := by
  match x, g with
  | .inl _, _ => trivial
  | .inr t, g =>
    cases hw : wIs T L t W with
    | true =>
      rw [bW_T hw]
      have := nxt_le (T := T) g.2
      exact ⟨by have := g.1; omega, this.2.1⟩
    | false => rw [bW_F hw]; trivial
theorem geN {lo hi : Nat} (g : geX L s x) : geX L s (bN T L lo hi x) := by
  match x, g with
  | .inl _, _ => trivial
  | .inr t, g =>
    cases hw : okN T L lo hi t with
    | true =>
      rw [(bN_T hw).1]
      have := nxt_le (T := T) g.2
      exact ⟨by have := g.1; omega, this.2.1⟩
    | false =>
      unfold bN
      dsimp only
      rw [hw]
      trivial
theorem geJ {n a : Nat} {b : Nat → Nat} (g : geX L s x) : geX L s (bJ T L n b a x) := by
  match x, g with
  | .inl _, _ => trivial
  | .inr t, g =>
    unfold bJ
    dsimp only
    cases (okN T L 1 n t && !(mayb n b a (tkv T L t))) with
    | true => trivial
    | false => exact g
theorem ge_ln {n : Nat} {σ : Sg} (hs : s ≤ L) : geX L s (ln T L n σ s).1 := by
  have g0 : geX L s (.inr s) := ⟨Nat.le_refl _, hs⟩
  have g1 : geX L s (.inr (nxt T L s)) := ⟨(nxt_le hs).1, (nxt_le hs).2.1⟩
  unfold ln
  cases Nat.beq n 0 with
  | true => exact geN (geW (geN (geW (geN (geW (geW g0))))))
  | false =>
    dsimp only [cond_false]
    cases wIs T L s (wd 4) with
    | true =>
      dsimp only [cond_true]
      cases Nat.beq σ.2.1.1 σ.1.1 with
      | true => trivial
      | false => exact geN (geW (geN (geW g1)))
    | false =>
      dsimp only [cond_false]
      cases wIs T L s (wd 7) with
      | true => exact geN (geJ (geN g1))
      | false => trivial
end GEX
theorem bl_eq {A A' B B' : Nat → Nat} : ∀ {j : Nat}, (∀ i, i < j → A i = A' i ∧ B i = B' i) → bl A B j = bl A' B' j
  | 0, _ => rfl
  | j + 1, e => by
    show mg (bl A B j) (A j) (B j) = mg (bl A' B' j) (A' j) (B' j)
    rw [bl_eq (fun i hi => e i (Nat.lt_succ_of_lt hi)), (e j (Nat.lt_succ_self j)).1, (e j (Nat.lt_succ_self j)).2]
theorem fup_s (f : Nat → Nat) (i v : Nat) : fup f i v i = v := if_pos rfl
theorem fup_n {f : Nat → Nat} {i v k : Nat} (h : k ≠ i) : fup f i v k = f k := if_neg h
theorem bl_up {A B : Nat → Nat} {j a b : Nat} : bl (fup A j a) (fup B j b) (j + 1) = mg (bl A B j) a b := by
  show mg (bl (fup A j a) (fup B j b) j) (fup A j a j) (fup B j b j) = _
  rw [fup_s, fup_s, bl_eq (fun i hi => ⟨fup_n (by first | decide | with_reducible assumption | omega), fup_n (by first | decide | with_reducible assumption | omega)⟩)]
/-- what is told is in order -/
noncomputable def Ws (n : Nat) (σ : Sg) : Prop := (n = 0 ∧ σ.1.1 = 0 ∧ σ.2.1.1 = 0 ∧ σ.2.2.1 = 0) ∨ (n ≠ 0 ∧ 1 ≤ σ.1.1 ∧ σ.1.1 ≤ 8 ∧ σ.2.1.1 ≤ σ.1.1 ∧ WFb (bl σ.2.2.2.1 σ.2.2.2.2 σ.2.2.1) ∧ rc (bl σ.2.2.2.1 σ.2.2.2.2 σ.2.2.1) + σ.2.2.1 = 9 ∧ NC (bl σ.2.2.2.1 σ.2.2.2.2 σ.2.2.1) (σ.1.1 + 1) ∧ ∀ i, i < σ.2.2.1 → σ.2.2.2.1 i ≤ 9 ∧ σ.2.2.2.2 i ≤ 9)
theorem Ws_lb {p : Nat} {b : Nat → Nat} (W : WFb b) (p8 : p ≤ 8) : ∀ k, 1 ≤ k → k ≤ p + 1 → 1 ≤ b k := fun k a c => (W k a (by first | decide | with_reducible assumption | omega)).1
theorem Ws_j8 {p j : Nat} {b : Nat → Nat} (W : WFb b) (R : rc b + j = 9) (p8 : p ≤ 8) : ∀ x y, 1 ≤ x → x ≤ p + 1 → 1 ≤ y → y ≤ p + 1 → b x ≠ b y → j < 8 := fun x y x1 x9 y1 y9 ne => by
  have e := rc_mg W x1 (by first | decide | with_reducible assumption | omega) y1 (by first | decide | with_reducible assumption | omega) ne
  have q := rc_pos (WFb_mg W x1 (by first | decide | with_reducible assumption | omega) y1 (by first | decide | with_reducible assumption | omega))
  omega
theorem bl_zero (A B : Nat → Nat) : bl A B 0 = fun k => k := rfl
theorem WFb_id : WFb (fun k => k) := fun k a b => ⟨a, Nat.le_refl _, rfl⟩
theorem rc_id : rc (fun k => k) = 9 := by decide
theorem okN_v {T : Nat → Int32} {L lo hi t : Nat} (ok : okN T L lo hi t = true) : lo ≤ bV T L lo hi (.inr t) ∧ bV T L lo hi (.inr t) ≤ hi := by
  rw [(bN_T ok).2]
  exact (okN_iff.mp ok).2
theorem bJ_may {T : Nat → Int32} {L n a t t' : Nat} {b : Nat → Nat} (e : bJ T L n b a (.inr t) = .inr t') (ok : okN T L 1 n t = true) : MAY n b a (tkv T L t) := by
  unfold bJ at e
  dsimp only at e
  rw [ok] at e
  refine Classical.byContradiction (fun q => ?_)
  rw [mayb_F q] at e
  cases e
theorem Ws_ln {T : Nat → Int32} {L n s t : Nat} {σ : Sg} (W : Ws n σ) (e : (ln T L n σ s).1 = .inr t) : Ws (n + 1) (ln T L n σ s).2 := by
  rcases W with ⟨n0, p0, c0, j0⟩ | ⟨n0, p1, p8, cp, wf, rr, nc, ab⟩
  · subst n0
    have e : bN T L 0 10 (bW T L (wd 3) (bN T L 0 3 (bW T L (wd 2) (bN T L 1 8 (bW T L (wd 1) (bW T L (wd 0) (.inr s))))))) = .inr t := e
    obtain ⟨t1, e1, -, -⟩ := bN_in e
    obtain ⟨t2, e2, -, -⟩ := bW_in e1
    obtain ⟨t3, e3, -, -⟩ := bN_in e2
    obtain ⟨t4, e4, -, -⟩ := bW_in e3
    obtain ⟨t5, e5, ok, -⟩ := bN_in e4
    have v := okN_v ok
    rw [← e5] at v
    have ep : (ln T L 0 σ s).2.1.1 = bV T L 1 8 (bW T L (wd 1) (bW T L (wd 0) (.inr s))) := rfl
    have ec : (ln T L 0 σ s).2.2.1 = σ.2.1 := rfl
    have ej : (ln T L 0 σ s).2.2.2 = σ.2.2 := rfl
    refine .inr ⟨by omega, ?_⟩
    rw [ep, ec, ej, c0, j0, bl_zero]
    exact ⟨v.1, v.2, Nat.zero_le _, WFb_id, by rw [rc_id], NC_id _, fun i hi => absurd hi (Nat.not_lt_zero i)⟩
  · have nb : Nat.beq n 0 = false := nbeqF n0
    unfold ln at e ⊢
    rw [nb] at e ⊢
    dsimp only [cond_false] at e ⊢
    cases hc : wIs T L s (wd 4) with
    | true =>
      rw [hc] at e
      dsimp only [cond_true] at e ⊢
      by_cases ecp : σ.2.1.1 = σ.1.1
      · rw [nbeq.mpr ecp] at e
        cases e
      · rw [nbeqF ecp]
        exact .inr ⟨by omega, p1, p8, by show σ.2.1.1 + 1 ≤ σ.1.1; omega, wf, rr, nc, ab⟩
    | false =>
      rw [hc] at e
      dsimp only [cond_false] at e ⊢
      cases hj : wIs T L s (wd 7) with
      | false =>
        rw [hj] at e
        cases e
      | true =>
        rw [hj] at e
        dsimp only [cond_true] at e ⊢
        have e : bN T L 1 (σ.1.1 + 1) (bJ T L (σ.1.1 + 1) (bl σ.2.2.2.1 σ.2.2.2.2 σ.2.2.1) (bV T L 1 (σ.1.1 + 1) (.inr (nxt T L s))) (bN T L 1 (σ.1.1 + 1) (.inr (nxt T L s)))) = .inr t := e
        obtain ⟨t1, e1, ok2, -⟩ := bN_in e
        have e2 := bJ_in e1
        obtain ⟨t2, e3, ok1, -⟩ := bN_in e2
        cases e3
        rw [e2] at e1
        have mm := bJ_may e1 ok2
        have v1 := okN_v ok1
        have v2 := (okN_iff.mp ok2).2
        refine .inr ⟨by omega, p1, p8, cp, ?_⟩
        unfold lnJ
        dsimp only
        rw [bl_up, e2, e1, (bN_T ok2).2]
        exact ⟨WFb_mg wf v1.1 (by first | decide | with_reducible assumption | omega) v2.1 (by first | decide | with_reducible assumption | omega), by have := rc_mg wf v1.1 (by first | decide | with_reducible assumption | omega) v2.1 (by first | decide | with_reducible assumption | omega) mm.1; omega, NC_mg (Ws_lb wf p8) mm.2, fun i hi => by
          by_cases q : i = σ.2.2.1
          · rw [q, fup_s, fup_s]; exact ⟨by omega, by omega⟩
          · rw [fup_n q, fup_n q]; exact ab i (by first | decide | with_reducible assumption | omega)⟩
/-- the class's draft -/
noncomputable def CDr (n : Nat) (σ : Sg) (h : pm_H) : Prop := gi h 4 0 = nJ σ.1.1 ∧ gi h 4 1 = nJ σ.1.2.1 ∧ gi h 4 2 = nJ σ.1.2.2 ∧ gi h 4 3 = nJ n ∧ gi h 4 4 = nJ σ.2.1.1 ∧ gi h 4 5 = nJ σ.2.2.1 ∧ gi h 4 6 = nJ 0 ∧ (∀ i, i < σ.2.1.1 → gi h 5 i = nJ (σ.2.1.2.1 i) ∧ gi h 6 i = nJ (σ.2.1.2.1 i) ∧ gi h 7 i = nJ (σ.2.1.2.2 i)) ∧ (∀ i, i < σ.2.2.1 → gi h 8 i = nJ (σ.2.2.2.1 i) ∧ gi h 9 i = nJ (σ.2.2.2.2 i)) ∧ (σ.1.1 ≠ 0 → MK (σ.1.1 + 1) (bl σ.2.2.2.1 σ.2.2.2.2 σ.2.2.1) h)
noncomputable def LnF : List Rng := [(3, 1, 2), (3, 5, 9), (4, 0, 2), (4, 4, 5), (5, 0, 7), (6, 0, 7), (7, 0, 7), (8, 0, 7), (9, 0, 7), (13, 1, 1), (14, 0, 9)]
section CTP
variable {T : Nat → Int32} {L d s : Nat} {h : pm_H}
theorem sp_readLine {n : Nat} {σ : Sg} (C : CS T L (.inr s) h) (D : CDr n σ h) (W : Ws n σ) (n5 : n ≤ 501) : Sp (d + 8) 35 h [.ref 3] (fun h' r => r = some (.int (zb (isR (ln T L n σ s).1 = true))) ∧ fr_g LnF h h' ∧ CS T L (ln T L n σ s).1 h' ∧ (isR (ln T L n σ s).1 = true → CDr n (ln T L n σ s).2 h')) := by
  have hh : HH h := C.1.1
  obtain ⟨d0, d1, d2, d3, d4, d5, d6, dc, dj, dm⟩ := id D
  refine Sp_of aiX2_readLine rfl rfl rfl ?_
  have L0 : pm_get (lv_args 0 [.ref 3]) 0 = some (.ref 3) := rfl
  generalize lv_args 0 [.ref 3] = lv at L0 ⊢
  refine E_al rfl L0 ?_
  refine E_ogr (q := 4) rfl hh rfl rfl ?_
  refine E_ogf rfl hh rfl rfl d3 ?_
  rcases W with ⟨n0, p0, c0, j0⟩ | ⟨n0, p1, p8, cp, wf, rr, nc, ab⟩
  · subst n0
    refine E_ifF rfl (by decide) ?_
    refine E_al rfl L0 ?_
    refine E_call rfl (sp_readHead (d := d) C) (chkO (a := 3) hh rfl rfl rfl rfl (by show 0 ≤ 8; decide)) (fun h1 r1 => ?_)
    rintro ⟨e1, f1, C1, v1⟩
    rw [e1]
    refine E_rtz rfl (zb_01 _) ⟨rfl, fr_wk rfl f1, C1, fun q => ?_⟩
    obtain ⟨g0, g1, g2, M⟩ := v1 q
    refine ⟨g0, g1, g2, by rw [fr_gi f1 rfl]; exact d3, by rw [fr_gi f1 rfl]; exact d4, by rw [fr_gi f1 rfl]; exact d5, by rw [fr_gi f1 rfl]; exact d6, fun i hi => ?_, fun i hi => ?_, fun _ => ?_⟩
    · have hi : i < σ.2.1.1 := hi
      omega
    · have hi : i < σ.2.2.1 := hi
      omega
    · show MK ((lnH T L (.inr s)).2.1 + 1) (bl σ.2.2.2.1 σ.2.2.2.2 σ.2.2.1) h1
      rw [j0]
      exact M
  · have nb : Nat.beq n 0 = false := nbeqF n0
    refine E_ifT rfl (decide_eq_true (fun z => n0 ((nJ_eq0 (by first | decide | with_reducible assumption | omega)).mp z))) ?_
    refine E_al rfl L0 ?_
    refine E_c rfl ?_
    refine E_call rfl (Sp_le (by first | exact Nat.add_le_add_left (Nat.le_of_ble_eq_true rfl) _ | exact Nat.le_of_ble_eq_true rfl | omega) (sp_iW (d := d) (k := 4) C (by decide))) (chkO (a := 3) hh rfl rfl rfl rfl (by show 0 ≤ 8; decide)) (fun h1 r1 => ?_)
    rintro ⟨e1, f1⟩
    rw [e1, f1]
    have M := dm (by first | decide | with_reducible assumption | omega)
    unfold ln
    rw [nb]
    dsimp only [cond_false]
    cases hc : wIs T L s (wd 4) with
    | true =>
      refine E_ifF rfl (by rw [zb_T rfl]; rfl) ?_
      dsimp only [cond_true]
      refine E_al rfl L0 ?_
      refine E_call rfl (sp_readCar (d := d) C hc d4 d0 cp p8) (chkO (a := 3) hh rfl rfl rfl rfl (by show 0 ≤ 8; decide)) (fun h2 r2 => ?_)
      rintro ⟨e2, f2, C2, v2⟩
      rw [e2]
      unfold lnC' at C2 v2 ⊢
      by_cases ecp : σ.2.1.1 = σ.1.1
      · rw [nbeq.mpr ecp] at C2 ⊢
        exact E_rtz rfl (zb_01 _) ⟨rfl, fr_wk rfl f2, C2, fun q => by cases q⟩
      · rw [nbeqF ecp] at C2 v2 ⊢
        refine E_rtz rfl (zb_01 _) ⟨rfl, fr_wk rfl f2, C2, fun q => ?_⟩
        obtain ⟨g4, gk, ga, gb, gc⟩ := v2 q
        refine ⟨by rw [fr_gi f2 rfl]; exact d0, by rw [fr_gi f2 rfl]; exact d1, by rw [fr_gi f2 rfl]; exact d2, by rw [fr_gi f2 rfl]; exact d3, g4, by rw [fr_gi f2 rfl]; exact d5, by rw [fr_gi f2 rfl]; exact d6, fun i hi => ?_, fun i hi => ?_, fun _ => ?_⟩
        · have hi : i < σ.2.1.1 + 1 := hi
          dsimp only [cond_false]
          by_cases e : i = σ.2.1.1
          · rw [e, fup_s, fup_s]
            exact ⟨ga, gb, gc⟩
          · rw [fup_n e, fup_n e, (gk i e).1, (gk i e).2.1, (gk i e).2.2]
            exact dc i (by first | decide | with_reducible assumption | omega)
        · rw [fr_gi f2 (rg_no rfl _), fr_gi f2 (rg_no rfl _)]
          exact dj i hi
        · exact ⟨by rw [fr_gi f2 rfl]; exact M.1, M.2.1, M.2.2.1, fun k a c => by rw [fr_gi f2 (rg_no rfl _)]; exact M.2.2.2 k a c⟩
    | false =>
      refine E_ifT rfl (by rw [zb_F (by decide)]; rfl) ?_
      dsimp only [cond_false]
      refine E_al rfl L0 ?_
      refine E_call rfl (sp_readJoin (d := d) C d0 d5 p1 p8 M (Ws_lb wf p8) nc (Ws_j8 wf rr p8)) (chkO (a := 3) hh rfl rfl rfl rfl (by show 0 ≤ 8; decide)) (fun h2 r2 => ?_)
      rintro ⟨e2, f2, C2, v2⟩
      rw [e2]
      cases hj : wIs T L s (wd 7) with
      | false =>
        rw [bW_F hj] at C2 ⊢
        exact E_rtz rfl (zb_01 _) ⟨rfl, fr_wk rfl f2, C2, fun q => by cases q⟩
      | true =>
        rw [bW_T hj] at C2 v2 ⊢
        dsimp only [cond_true]
        refine E_rtz rfl (zb_01 _) ⟨rfl, fr_wk rfl f2, C2, fun q => ?_⟩
        obtain ⟨j8, g5, gk, ga, gb, gm⟩ := v2 q
        refine ⟨by rw [fr_gi f2 rfl]; exact d0, by rw [fr_gi f2 rfl]; exact d1, by rw [fr_gi f2 rfl]; exact d2, by rw [fr_gi f2 rfl]; exact d3, by rw [fr_gi f2 rfl]; exact d4, g5, by rw [fr_gi f2 rfl]; exact d6, fun i hi => ?_, fun i hi => ?_, fun _ => ?_⟩
        · rw [fr_gi f2 (rg_no rfl _), fr_gi f2 (rg_no rfl _), fr_gi f2 (rg_no rfl _)]
          exact dc i hi
        · have hi : i < σ.2.2.1 + 1 := hi
          dsimp only
          by_cases e : i = σ.2.2.1
          · rw [e, fup_s, fup_s]
            exact ⟨ga, gb⟩
          · rw [fup_n e, fup_n e, (gk i e).1, (gk i e).2]
            exact dj i (by first | decide | with_reducible assumption | omega)
        · dsimp only
          rw [bl_up]
          exact gm
noncomputable def RtF : List Rng := [(3, 1, 2), (3, 5, 9), (4, 0, 6), (5, 0, 7), (6, 0, 7), (7, 0, 7), (8, 0, 7), (9, 0, 7), (13, 1, 1), (14, 0, 9)]
/-- how the reading of the class ends -/
noncomputable def RtQ (T : Nat → Int32) (L : Nat) (R : Px × Nat × Sg) (h0 h' : pm_H) (r : Option Value) : Prop := r = none ∧ fr_g RtF h0 h' ∧ CS T L R.1 h' ∧ (isR R.1 = true → CDr R.2.1 R.2.2 h')
theorem rtp_bad {h0 : pm_H} {e : Nat × Nat} {R : Px × Nat × Sg} {i : Nat} (lv : List (Nat × Value)) (hR : R.1 = .inl e) (C : CS T L (.inl e) h) (f : fr_g RtF h0 h) (hi : i ≤ 501) (L0 : pm_get lv 0 = some (.ref 3)) (L1 : pm_get lv 1 = some (.int (nJ i))) : Ends (pm_at tX2_readTape) (pm_Rt pm_P (d + 8)) (28, lv, [], h, 0, 0) (RtQ T L R h0) := by
  have hh : HH h := C.1.1
  have fin : Ends (pm_at tX2_readTape) (pm_Rt pm_P (d + 8)) (82, lv, [], h, 0, 0) (RtQ T L R h0) := E_ret rfl ⟨rfl, f, by rw [hR]; exact C, fun q => by rw [hR] at q; cases q⟩
  refine E_il rfl L1 ?_
  refine E_ci 500 rfl ci500 ?_
  by_cases b1 : 500 ≤ i
  · refine E_icT rfl (decide_eq_true ((nJ_le (by first | decide | with_reducible assumption | omega) (by first | decide | with_reducible assumption | omega)).mpr b1)) ?_
    exact fin
  refine E_icF rfl (decide_eq_false (fun z => b1 ((nJ_le (by first | decide | with_reducible assumption | omega) (by first | decide | with_reducible assumption | omega)).mp z))) ?_
  refine E_al rfl L0 ?_
  refine E_ogf (q := (0, 4)) rfl hh rfl rfl rfl ?_
  by_cases b2 : gi h 3 5 = 0
  · refine E_ifT rfl (decide_eq_true b2) ?_
    exact fin
  refine E_ifF rfl (decide_eq_false b2) ?_
  refine E_al rfl L0 ?_
  refine E_ogf (q := (0, 3)) rfl hh rfl rfl C.2.1 ?_
  have k1 := C.2.2.2.1
  have k3 := C.2.2.2.2.1
  refine E_ifT rfl (decide_eq_true (fun z => absurd ((nJ_eq0 (by first | decide | with_reducible assumption | omega)).mp z) (by first | decide | with_reducible assumption | omega))) ?_
  exact fin
theorem rtp_loop {h0 : pm_H} (f : Nat) : ∀ {h : pm_H} {n s i : Nat} {σ : Sg} (lv : List (Nat × Value)), CS T L (.inr s) h → CDr n σ h → Ws n σ → fr_g RtF h0 h → L < s + f → i ≤ s → n ≤ i → pm_get lv 0 = some (.ref 3) → pm_get lv 1 = some (.int (nJ i)) → Ends (pm_at tX2_readTape) (pm_Rt pm_P (d + 8)) (28, lv, [], h, 0, 0) (RtQ T L (prs T L f n σ s) h0) := by
  induction f with
  | zero =>
    intro h n s i σ lv C
    intro _ _ _ hL
    have := C.2.2.2.2
    omega
  | succ f ih =>
    intro h n s i σ lv C D W F hL his hni L0 L1
    have hh : HH h := C.1.1
    have h5 := C.1.2.2.1
    have hs := C.2.2.2.2
    have c5 := C.2.1.2.2.1
    have hkk := tkk_le (T := T) (L := L) (s := s)
    have fin : tkk T L s = 0 → Ends (pm_at tX2_readTape) (pm_Rt pm_P (d + 8)) (82, lv, [], h, 0, 0) (RtQ T L (prs T L (f + 1) n σ s) h0) := by
      intro k0
      rw [prs_end k0]
      exact E_ret rfl ⟨rfl, F, C, fun _ => D⟩
    refine E_il rfl L1 ?_
    refine E_ci 500 rfl ci500 ?_
    by_cases b1 : 500 ≤ i
    · refine E_icT rfl (decide_eq_true ((nJ_le (by first | decide | with_reducible assumption | omega) (by first | decide | with_reducible assumption | omega)).mpr b1)) ?_
      exact fin (tk_0 (by first | decide | with_reducible assumption | omega)).1
    refine E_icF rfl (decide_eq_false (fun z => b1 ((nJ_le (by first | decide | with_reducible assumption | omega) (by first | decide | with_reducible assumption | omega)).mp z))) ?_
    refine E_al rfl L0 ?_
    refine E_ogf (q := (0, 4)) rfl hh rfl rfl c5 ?_
    by_cases b2 : tkk T L s = 0
    · refine E_ifT rfl (decide_eq_true ((nJ_eq0 (by first | decide | with_reducible assumption | omega)).mpr b2)) ?_
      exact fin b2
    refine E_ifF rfl (decide_eq_false (fun z => b2 ((nJ_eq0 (by first | decide | with_reducible assumption | omega)).mp z))) ?_
    refine E_al rfl L0 ?_
    refine E_ogf (q := (0, 3)) rfl hh rfl rfl C.2.2.1 ?_
    refine E_ifF rfl (by decide) ?_
    refine E_al rfl L0 ?_
    refine E_call rfl (sp_readLine (d := d) C D W (by first | decide | with_reducible assumption | omega)) (chkO (a := 3) hh rfl rfl rfl rfl (by show 0 ≤ 8; decide)) (fun h1 r1 => ?_)
    rintro ⟨e1, f1, C1, D1⟩
    have F1 : fr_g RtF h0 h1 := fr_trans F (fr_wk rfl f1)
    have sl := tkk_lt b2
    have bad : ∀ {e : Nat × Nat} {g : pm_H}, bS T L (ln T L n σ s).1 = .inl e → CS T L (.inl e) g → fr_g RtF h0 g → Ends (pm_at tX2_readTape) (pm_Rt pm_P (d + 8)) (76, lv, [], g, 0, 0) (RtQ T L (prs T L (f + 1) n σ s) h0) := by
      intro e g he Cg Fg
      refine E_inc rfl L1 (nJ_inc _) (fun lv1 K1 kp => ?_)
      refine E_goto rfl ?_
      exact rtp_bad lv1 (by rw [prs_bad b2 he]) Cg Fg (by first | decide | with_reducible assumption | omega) (kp 0 _ (nbz rfl) rfl L0) K1
    cases x1 : (ln T L n σ s).1 with
    | inl e =>
      rw [x1] at e1 C1
      rw [isR_l] at e1
      rw [e1]
      refine E_ifT rfl (by decide) ?_
      exact bad (by rw [x1]; rfl) C1 F1
    | inr t =>
      have D1 := D1 (by rw [x1]; rfl)
      have W1 := Ws_ln W x1
      have ge := ge_ln (T := T) (n := n) (σ := σ) hs
      rw [x1] at e1 C1 ge
      rw [isR_r] at e1
      rw [e1]
      refine E_ifF rfl (by decide) ?_
      refine E_al rfl L0 ?_
      refine E_call rfl (Sp_le (by first | exact Nat.add_le_add_left (Nat.le_of_ble_eq_true rfl) _ | exact Nat.le_of_ble_eq_true rfl | omega) (sp_takeSemi (d := d) C1)) (chkO (a := 3) C1.1.1 rfl rfl rfl rfl (by show 0 ≤ 8; decide)) (fun h2 r2 => ?_)
      rintro ⟨e2, f2, C2⟩
      have F2 : fr_g RtF h0 h2 := fr_trans F1 (fr_wk rfl f2)
      cases x2 : bS T L (.inr t) with
      | inl e =>
        rw [x2] at e2 C2
        rw [isR_l] at e2
        rw [e2]
        refine E_ifT rfl (by decide) ?_
        exact bad (by rw [x1]; exact x2) C2 F2
      | inr s' =>
        obtain ⟨t', et, k3, es⟩ := bS_in x2
        cases et
        have tl := tkk_lt (T := T) (L := L) (s := t) (by first | decide | with_reducible assumption | omega)
        have nx := nxt_le (T := T) (Nat.le_of_lt tl)
        have nx2 := nx.2.2 tl
        have ge1 : s ≤ t := ge.1
        rw [x2] at e2 C2
        rw [isR_r] at e2
        rw [e2]
        refine E_ifF rfl (by decide) ?_
        have hh2 : HH h2 := C2.1.1
        have D2 : CDr n (ln T L n σ s).2 h2 := by
          obtain ⟨q0, q1, q2, q3, q4, q5, q6, qc, qj, qm⟩ := D1
          exact ⟨by rw [fr_gi f2 rfl]; exact q0, by rw [fr_gi f2 rfl]; exact q1, by rw [fr_gi f2 rfl]; exact q2, by rw [fr_gi f2 rfl]; exact q3, by rw [fr_gi f2 rfl]; exact q4, by rw [fr_gi f2 rfl]; exact q5, by rw [fr_gi f2 rfl]; exact q6, fun i hi => by rw [fr_gi f2 (rg_no rfl _), fr_gi f2 (rg_no rfl _), fr_gi f2 (rg_no rfl _)]; exact qc i hi, fun i hi => by rw [fr_gi f2 (rg_no rfl _), fr_gi f2 (rg_no rfl _)]; exact qj i hi, fun z => ⟨by rw [fr_gi f2 rfl]; exact (qm z).1, (qm z).2.1, (qm z).2.2.1, fun k a c => by rw [fr_gi f2 (rg_no rfl _)]; exact (qm z).2.2.2 k a c⟩⟩
        refine E_al rfl L0 ?_
        refine E_ogr (q := 4) rfl hh2 rfl rfl ?_
        refine E_dup rfl rfl ?_
        refine E_ogf rfl hh2 rfl rfl D2.2.2.2.1 ?_
        refine E_ci 1 rfl ci1 ?_
        refine E_bin rfl (nJ_add _ _) ?_
        refine E_opf rfl hh2 rfl rfl ?_
        have hh3 : HH (pt h2 4 3 (nJ (n + 1))) := HH_ptn hh2 rfl (by first | decide | with_reducible assumption | omega) (by first | decide | with_reducible assumption | omega) (by first | decide | with_reducible assumption | omega)
        refine E_inc rfl L1 (nJ_inc _) (fun lv1 K1 kp => ?_)
        refine E_goto rfl ?_
        rw [prs_go b2 (by rw [x1]; exact x2)]
        refine ih lv1 (CS_pt (by first | decide | with_reducible assumption | omega) hh3 C2) ?_ W1 (fr_ptr (l := 0) (u := 6) rfl (by first | decide | with_reducible assumption | omega) (by first | decide | with_reducible assumption | omega) F2) (by first | decide | with_reducible assumption | omega) (by first | decide | with_reducible assumption | omega) (by first | decide | with_reducible assumption | omega) (kp 0 _ (nbz rfl) rfl L0) K1
        obtain ⟨q0, q1, q2, q3, q4, q5, q6, qc, qj, qm⟩ := D2
        exact ⟨by rw [gi_ne (by first | exact gxx rfl | omega)]; exact q0, by rw [gi_ne (by first | exact gxx rfl | omega)]; exact q1, by rw [gi_ne (by first | exact gxx rfl | omega)]; exact q2, gi_ptn hh2 rfl (by first | decide | with_reducible assumption | omega) (by first | decide | with_reducible assumption | omega) (by first | decide | with_reducible assumption | omega), by rw [gi_ne (by first | exact gxx rfl | omega)]; exact q4, by rw [gi_ne (by first | exact gxx rfl | omega)]; exact q5, by rw [gi_ne (by first | exact gxx rfl | omega)]; exact q6, fun i hi => by rw [gi_ne (by first | exact gxx rfl | omega), gi_ne (by first | exact gxx rfl | omega), gi_ne (by first | exact gxx rfl | omega)]; exact qc i hi, fun i hi => by rw [gi_ne (by first | exact gxx rfl | omega), gi_ne (by first | exact gxx rfl | omega)]; exact qj i hi, fun z => ⟨by rw [gi_ne (by first | exact gxx rfl | omega)]; exact (qm z).1, (qm z).2.1, (qm z).2.2.1, fun k a c => by rw [gi_ne (by first | exact gxx rfl | omega)]; exact (qm z).2.2.2 k a c⟩⟩
theorem sp_readTape (A : TA T L h) : Sp (d + 9) 36 h [.ref 3] (RtQ T L (PRS T L) h) := by
  have hh : HH h := A.1
  refine Sp_of aiX2_readTape rfl rfl rfl ?_
  have L0 : pm_get (lv_args 0 [.ref 3]) 0 = some (.ref 3) := rfl
  generalize lv_args 0 [.ref 3] = lv at L0 ⊢
  refine E_al rfl L0 ?_
  refine E_ogr (q := 4) rfl hh rfl rfl ?_
  refine E_call rfl (Sp_le (by first | exact Nat.add_le_add_left (Nat.le_of_ble_eq_true rfl) _ | exact Nat.le_of_ble_eq_true rfl | omega) (sp_clear (d := d) hh)) (chkO (a := 4) hh rfl rfl rfl rfl (by show 0 ≤ 8; decide)) (fun h1 r1 => ?_)
  rintro ⟨e1, hh1, f1, z1⟩
  rw [e1]
  have A1 := TA_fr f1 rfl rfl hh1 A
  refine E_al rfl L0 ?_
  refine E_ci 0 rfl ci0 ?_
  refine E_opf (q := (0, 3)) rfl hh1 rfl rfl ?_
  have hh2 : HH (pt h1 3 1 (nJ 0)) := HH_ptn hh1 rfl (by first | decide | with_reducible assumption | omega) (by first | decide | with_reducible assumption | omega) (by first | decide | with_reducible assumption | omega)
  refine E_al rfl L0 ?_
  refine E_c rfl ?_
  refine E_opf (q := ((-1), 500)) rfl hh2 rfl rfl ?_
  have hh3 : HH (pt (pt h1 3 1 (nJ 0)) 3 2 (-1)) := HH_pt hh2 rfl (by decide) (by decide)
  refine E_al rfl L0 ?_
  refine E_ci 0 rfl ci0 ?_
  refine E_opf (q := (0, 500)) rfl hh3 rfl rfl ?_
  have hh4 : HH (pt (pt (pt h1 3 1 (nJ 0)) 3 2 (-1)) 3 7 (nJ 0)) := HH_ptn hh3 rfl (by first | decide | with_reducible assumption | omega) (by first | decide | with_reducible assumption | omega) (by first | decide | with_reducible assumption | omega)
  have A4 := TA_pt (TA_pt (TA_pt A1 (by first | decide | with_reducible assumption | omega) hh2) (by first | decide | with_reducible assumption | omega) hh3) (by first | decide | with_reducible assumption | omega) hh4
  refine E_al rfl L0 ?_
  refine E_call rfl (Sp_le (by first | exact Nat.add_le_add_left (Nat.le_of_ble_eq_true rfl) _ | exact Nat.le_of_ble_eq_true rfl | omega) (sp_readToken (d := d) (i := 0) A4 (Nat.zero_le _) (gi_ptn hh3 rfl (by first | decide | with_reducible assumption | omega) (by first | decide | with_reducible assumption | omega) (by first | decide | with_reducible assumption | omega)))) (chkO (a := 3) hh4 rfl rfl rfl rfl (by show 0 ≤ 8; decide)) (fun h5 r5 => ?_)
  rintro ⟨e5, hh5, f5, C5⟩
  rw [e5]
  refine E_ci 0 rfl ci0 ?_
  refine E_is rfl (fun lv1 K1 kp => ?_)
  have e4 : ∀ a k, 4 ≤ a → gi h5 a k = gi h1 a k := fun a k ha => by
    rw [fr_gi f5 (rg_no (by have : Nat.beq 3 a = false := nbeqF (by first | decide | with_reducible assumption | omega); simp [this]) k), gi_ne (by first | exact gxx rfl | omega), gi_ne (by first | exact gxx rfl | omega), gi_ne (by first | exact gxx rfl | omega)]
  have sk := skp_le (T := T) (L := L) (i := 0) (Nat.zero_le _)
  unfold PRS
  refine rtp_loop (d := d) (L + 1) lv1 (i := 0) ⟨TA_fr f5 rfl rfl hh5 A4, C5, ?_, ?_, sk.2⟩ ?_ (.inl ⟨rfl, rfl, rfl, rfl⟩) (fr_trans (fr_ptr (l := 5) (u := 9) rfl (by first | decide | with_reducible assumption | omega) (by first | decide | with_reducible assumption | omega) (fr_ptr (l := 1) (u := 2) rfl (by first | decide | with_reducible assumption | omega) (by first | decide | with_reducible assumption | omega) (fr_ptr (l := 1) (u := 2) rfl (by first | decide | with_reducible assumption | omega) (by first | decide | with_reducible assumption | omega) (fr_wk rfl f1)))) (fr_wk rfl f5)) (by first | decide | with_reducible assumption | omega) (Nat.zero_le _) (Nat.le_refl _) (kp 0 _ (nbz rfl) rfl L0) K1
  · rw [fr_gi f5 rfl, gi_ne (by first | exact gxx rfl | omega), gi_ne (by first | exact gxx rfl | omega)]
    exact gi_ptn hh1 rfl (by first | decide | with_reducible assumption | omega) (by first | decide | with_reducible assumption | omega) (by first | decide | with_reducible assumption | omega)
  · rw [fr_gi f5 rfl, gi_ne (by first | exact gxx rfl | omega)]
    exact gi_pt hh2 (q := ((-1), 500)) rfl (by decide) (by decide)
  · refine ⟨?_, ?_, ?_, ?_, ?_, ?_, ?_, fun i hi => absurd hi (Nat.not_lt_zero i), fun i hi => absurd hi (Nat.not_lt_zero i), fun z => absurd rfl z⟩
    · rw [e4 _ _ (by first | decide | with_reducible assumption | omega)]; exact z1 0 (by first | decide | with_reducible assumption | omega)
    · rw [e4 _ _ (by first | decide | with_reducible assumption | omega)]; exact z1 1 (by first | decide | with_reducible assumption | omega)
    · rw [e4 _ _ (by first | decide | with_reducible assumption | omega)]; exact z1 2 (by first | decide | with_reducible assumption | omega)
    · rw [e4 _ _ (by first | decide | with_reducible assumption | omega)]; exact z1 3 (by first | decide | with_reducible assumption | omega)
    · rw [e4 _ _ (by first | decide | with_reducible assumption | omega)]; exact z1 4 (by first | decide | with_reducible assumption | omega)
    · rw [e4 _ _ (by first | decide | with_reducible assumption | omega)]; exact z1 5 (by first | decide | with_reducible assumption | omega)
    · rw [e4 _ _ (by first | decide | with_reducible assumption | omega)]; exact z1 6 (by first | decide | with_reducible assumption | omega)
end CTP
end
section
/-! the reference's lines and whole text (wants t44, t45, t48, t50; 10.ztf, 10.ztg, 10.ztj) -/
section RL0
variable {T : Nat → Int32} {L d k : Nat} {h : pm_H} {x : Px}
theorem RSt_pt {a : Nat} {v : Int32} (ha : 83 ≤ a) (hh : HH (pt h a k v)) (R : RSt T L x h) : RSt T L x (pt h a k v) := by
  have e : ∀ b j, b ≤ 82 → gi (pt h a k v) b j = gi h b j := fun b j hb => gi_ne (by first | exact gxx rfl | omega)
  have el : gl (pt h a k v) 77 11 = gl h 77 11 := by unfold gl; rw [ld_pt (by first | decide | with_reducible assumption | omega)]
  have tb : TB T L h → TB T L (pt h a k v) := fun B => ⟨hh, by rw [e _ _ (by first | decide | with_reducible assumption | omega)]; exact B.2.1, B.2.2.1, fun j hj => by rw [e _ _ (by first | decide | with_reducible assumption | omega)]; exact B.2.2.2 j hj⟩
  match x, R with
  | .inl (k, p), ⟨a, b, c⟩ => exact ⟨tb a, by rw [e _ _ (by first | decide | with_reducible assumption | omega)]; exact b, by rw [e _ _ (by first | decide | with_reducible assumption | omega)]; exact c.1, c.2⟩
  | .inr s, ⟨a, ⟨b1, b2, b3, b4, b5⟩, c, c2⟩ => exact ⟨tb a, ⟨by rw [e _ _ (by first | decide | with_reducible assumption | omega)]; exact b1, by rw [e _ _ (by first | decide | with_reducible assumption | omega)]; exact b2, by rw [e _ _ (by first | decide | with_reducible assumption | omega)]; exact b3, by rw [e _ _ (by first | decide | with_reducible assumption | omega)]; exact b4, by rw [el]; exact b5⟩, by rw [e _ _ (by first | decide | with_reducible assumption | omega)]; exact c, c2⟩
theorem RSt_frm {M : List Rng} {h' : pm_H} (hf : fr_g M h h') (h1 : M.all (fun r => !(Nat.beq r.1 77)) = true) (h2 : M.all (fun r => !(Nat.beq r.1 82)) = true) (hh : HH h') (R : RSt T L x h) : RSt T L x h' := RSt_fr hf (rg_no h1 _) h2 (fun k _ _ => rg_no h1 _) hh R
theorem sp_iW9 (R : RSt T L x h) (hk : k < 8) : Sp (d + 1) 264 h [.ref 77, .long (wcd.getD k 0)] (fun h' r => h' = h ∧ r = some (.int (zb (isX T L (wd k) x = true)))) := sp_isW R hk
theorem sp_aW9 (R : RSt T L x h) (hk : k < 8) : Sp (d + 4) 210 h [.ref 77, .long (wcd.getD k 0)] (fun h' r => r = none ∧ fr_g BB h h' ∧ RSt T L (bW T L (wd k) x) h') := sp_ak R hk
theorem sp_nW9 {lo hi : Nat} (R : RSt T L x h) (hk : k < 8) (hlo : lo ≤ hi) (h99 : hi ≤ 99) : Sp (d + 5) 317 h [.ref 77, .long (wcd.getD k 0), .int (nJ lo), .int (nJ hi)] (fun h' r => r = some (.int (nJ (bV T L lo hi (bW T L (wd k) x)))) ∧ fr_g BB h h' ∧ RSt T L (bN T L lo hi (bW T L (wd k) x)) h' ∧ lo ≤ bV T L lo hi (bW T L (wd k) x) ∧ bV T L lo hi (bW T L (wd k) x) ≤ hi) := sp_nmw R hk hlo h99
theorem sp_hR {v : Nat} (hh : HH h) (hk : k < 6) (e : gi h 84 (24 + k) = nJ v) (hv : v < 1000) : Sp (d + 1) 257 h [.ref 77, .int (nJ k)] (fun h' r => h' = h ∧ r = some (.int (nJ v))) := by
  obtain ⟨q, hb, q1, q2⟩ := bd_84e hk
  refine Sp_of aiX9_hasRead rfl rfl rfl ?_
  refine E_al rfl (show pm_get (lv_args 0 [.ref 77, .int (nJ k)]) 0 = _ from rfl) ?_
  refine E_gr rfl hh (q := 84) rfl ?_
  refine E_ci 24 rfl ci24 ?_
  refine E_il rfl (show pm_get (lv_args 0 [.ref 77, .int (nJ k)]) 1 = _ from rfl) ?_
  refine E_bin rfl (nJ_add _ _) ?_
  refine E_ial rfl hh rfl (by first | decide | with_reducible assumption | omega) (by decide) e ?_
  exact E_rti rfl ⟨rfl, rfl⟩
theorem sp_gd (R : RSt T L x h) : Sp (d + 1) 269 h [.ref 77] (fun h' r => h' = h ∧ r = some (.int (zb (isR x = true)))) := by
  have hh : HH h := (RSt_TB R).1
  refine Sp_mono ?_ (sp_isGood (d := d) hh)
  rintro h' r ⟨e, q⟩
  refine ⟨e, ?_⟩
  match x, R with
  | .inl (k, p), R =>
    have g := gn_of R.2.1 (by have := R.2.2.2.2.1; omega)
    rcases q with ⟨-, rfl⟩ | ⟨q, -⟩
    · rw [isR_l]
    · have := R.2.2.2.1
      omega
  | .inr s, R =>
    have g := gn_of R.2.2.1 (by first | decide | with_reducible assumption | omega)
    rcases q with ⟨q, -⟩ | ⟨-, rfl⟩
    · exact absurd g q
    · rw [isR_r]
end RL0
/-- the reference's draft -/
noncomputable def RDr (σ : Sg) (h : pm_H) : Prop := gi h 84 24 = nJ σ.1.1 ∧ gi h 84 25 = nJ σ.1.2.1 ∧ gi h 84 26 = nJ σ.1.2.2 ∧ gi h 84 27 = nJ σ.2.1.1 ∧ gi h 84 28 = nJ σ.2.2.1 ∧ gi h 84 29 = nJ 0 ∧ (∀ i, i < σ.2.1.1 → gi h 85 (64 + 2 * i) = nJ (σ.2.1.2.1 i) ∧ gi h 85 (64 + 2 * i + 1) = nJ (σ.2.1.2.2 i)) ∧ (∀ i, i < σ.2.2.1 → gi h 86 (64 + 2 * i) = nJ (σ.2.2.2.1 i) ∧ gi h 86 (64 + 2 * i + 1) = nJ (σ.2.2.2.2 i))
theorem RDr_fr {M : List Rng} {σ : Sg} {h h' : pm_H} (hf : fr_g M h h') (h1 : M.all (fun r => !(Nat.beq r.1 84)) = true) (h2 : M.all (fun r => !(Nat.beq r.1 85)) = true) (h3 : M.all (fun r => !(Nat.beq r.1 86)) = true) (D : RDr σ h) : RDr σ h' := by
  obtain ⟨q0, q1, q2, q3, q4, q5, qc, qj⟩ := D
  have e1 : ∀ k, gi h' 84 k = gi h 84 k := fun k => fr_gi hf (rg_no h1 _)
  have e2 : ∀ k, gi h' 85 k = gi h 85 k := fun k => fr_gi hf (rg_no h2 _)
  have e3 : ∀ k, gi h' 86 k = gi h 86 k := fun k => fr_gi hf (rg_no h3 _)
  exact ⟨by rw [e1]; exact q0, by rw [e1]; exact q1, by rw [e1]; exact q2, by rw [e1]; exact q3, by rw [e1]; exact q4, by rw [e1]; exact q5, fun i hi => by rw [e2, e2]; exact qc i hi, fun i hi => by rw [e3, e3]; exact qj i hi⟩
theorem MAY_eq {n x y : Nat} {b b' : Nat → Nat} (e : ∀ k, k < 10 → b k = b' k) (hx : x < 10) (hy : y < 10) (n9 : n ≤ 9) : MAY n b x y ↔ MAY n b' x y := by
  have w : ∀ k, k < 10 → wj b x y k = wj b' x y k := fun k hk => by unfold wj; rw [e k hk, e x hx, e y hy]
  have X : XC (wj b x y) n ↔ XC (wj b' x y) n := by
    constructor
    · rintro ⟨p, q, r, s, h1, h2, h3, h4, h5, e1, e2, e3⟩
      rw [w p (by first | decide | with_reducible assumption | omega), w q (by first | decide | with_reducible assumption | omega)] at e1
      rw [w p (by first | decide | with_reducible assumption | omega), w r (by first | decide | with_reducible assumption | omega)] at e2
      rw [w q (by first | decide | with_reducible assumption | omega), w s (by first | decide | with_reducible assumption | omega)] at e3
      exact ⟨p, q, r, s, h1, h2, h3, h4, h5, e1, e2, e3⟩
    · rintro ⟨p, q, r, s, h1, h2, h3, h4, h5, e1, e2, e3⟩
      rw [← w p (by first | decide | with_reducible assumption | omega), ← w q (by first | decide | with_reducible assumption | omega)] at e1
      rw [← w p (by first | decide | with_reducible assumption | omega), ← w r (by first | decide | with_reducible assumption | omega)] at e2
      rw [← w q (by first | decide | with_reducible assumption | omega), ← w s (by first | decide | with_reducible assumption | omega)] at e3
      exact ⟨p, q, r, s, h1, h2, h3, h4, h5, e1, e2, e3⟩
  unfold MAY
  rw [X, e x hx, e y hy]
theorem bk_bl {A B : Nat → Nat} {h : pm_H} : ∀ {j : Nat}, (∀ i, i < j → gn h 86 (64 + 2 * i) = A i ∧ gn h 86 (64 + 2 * i + 1) = B i) → bk (gn h 86) j = bl A B j
  | 0, _ => rfl
  | j + 1, e => by
    show mg (bk (gn h 86) j) (gn h 86 (64 + 2 * j)) (gn h 86 (64 + 2 * j + 1)) = mg (bl A B j) (A j) (B j)
    rw [bk_bl (fun i hi => e i (Nat.lt_succ_of_lt hi)), (e j (Nat.lt_succ_self j)).1, (e j (Nat.lt_succ_self j)).2]
section RL1
variable {T : Nat → Int32} {L d : Nat} {h : pm_H} {x : Px}
theorem sp_crL {c p : Nat} (R : RSt T L x h) (gc : gi h 84 27 = nJ c) (gp : gi h 84 24 = nJ p) (cp : c < p) (p8 : p ≤ 8) : Sp (d + 7) 223 h [.ref 77] (fun h' r => r = none ∧ HH h' ∧ fr_g CX h h' ∧ RSt T L (lnC T L p x).1 h' ∧ gi h' 84 27 = nJ (c + 1) ∧ gi h' 85 (64 + 2 * c) = nJ (lnC T L p x).2.1 ∧ gi h' 85 (64 + 2 * c + 1) = nJ (lnC T L p x).2.2 ∧ ∀ i, i ≠ 64 + 2 * c → i ≠ 64 + 2 * c + 1 → gi h' 85 i = gi h 85 i) := by
  have hh : HH h := (RSt_TB R).1
  refine Sp_of aiX9_carLine rfl rfl rfl ?_
  have L0 : pm_get (lv_args 0 [.ref 77]) 0 = some (.ref 77) := rfl
  generalize lv_args 0 [.ref 77] = lv at L0 ⊢
  unfold lnC
  dsimp only
  refine E_ci 2 rfl ci2 ?_
  refine E_ci 32 rfl ci32 ?_
  refine E_al rfl L0 ?_
  refine E_ci 3 rfl ci3 ?_
  refine E_call rfl (Sp_le (by first | exact Nat.add_le_add_left (Nat.le_of_ble_eq_true rfl) _ | exact Nat.le_of_ble_eq_true rfl | omega) (sp_hR (d := d) (k := 3) (v := c) hh (by decide) gc (by first | decide | with_reducible assumption | omega))) (chk77 hh rfl rfl (by show 2 ≤ 8; decide)) (fun h1 r1 => ?_)
  rintro ⟨e1, f1⟩
  rw [e1, f1]
  refine E_bin rfl (nJ_add _ _) ?_
  refine E_bin rfl (nJ_mul _ _) ?_
  rw [show 2 * (32 + c) = 64 + 2 * c by omega]
  refine E_is rfl (fun lv1 K1 kp => ?_)
  have M0 := kp 0 _ (nbz rfl) rfl L0
  refine E_al rfl M0 ?_
  refine E_gr rfl hh (q := 85) rfl ?_
  refine E_il rfl K1 ?_
  refine E_al rfl M0 ?_
  refine E_c rfl ?_
  refine E_ci 1 rfl ci1 ?_
  refine E_al rfl M0 ?_
  refine E_ci 0 rfl ci0 ?_
  refine E_call rfl (Sp_le (by first | exact Nat.add_le_add_left (Nat.le_of_ble_eq_true rfl) _ | exact Nat.le_of_ble_eq_true rfl | omega) (sp_hR (d := d) (k := 0) (v := p) hh (by decide) gp (by first | decide | with_reducible assumption | omega))) (chk77 hh rfl rfl (by show 6 ≤ 8; decide)) (fun h2 r2 => ?_)
  rintro ⟨e2, f2⟩
  rw [e2, f2]
  refine E_call rfl (Sp_le (by first | exact Nat.add_le_add_left (Nat.le_of_ble_eq_true rfl) _ | exact Nat.le_of_ble_eq_true rfl | omega) (sp_nW9 (d := d) (k := 5) (lo := 1) (hi := p) R (by decide) (by first | decide | with_reducible assumption | omega) (by first | decide | with_reducible assumption | omega))) (chk77 hh rfl rfl (by show 2 ≤ 8; decide)) (fun h3 r3 => ?_)
  rintro ⟨e3, f3, R3, u3, w3⟩
  rw [e3]
  generalize bV T L 1 p (bW T L (wd 5) x) = V1 at u3 w3 ⊢
  have hh3 : HH h3 := (RSt_TB R3).1
  refine E_ias rfl hh3 rfl (by first | decide | with_reducible assumption | omega) (by decide) ?_
  have b85 : bd 85 (64 + 2 * c) = some (0, 8) := bd_85 (by first | decide | with_reducible assumption | omega) (by first | decide | with_reducible assumption | omega)
  have hh4 : HH (pt h3 85 (64 + 2 * c) (nJ V1)) := HH_ptn hh3 b85 (by first | decide | with_reducible assumption | omega) (by first | decide | with_reducible assumption | omega) (by first | decide | with_reducible assumption | omega)
  have R4 := RSt_pt (by first | decide | with_reducible assumption | omega) hh4 R3
  have g4 : gi (pt h3 85 (64 + 2 * c) (nJ V1)) 85 (64 + 2 * c) = nJ V1 := gi_ptn hh3 b85 (by first | decide | with_reducible assumption | omega) (by first | decide | with_reducible assumption | omega) (by first | decide | with_reducible assumption | omega)
  have o4 : ∀ i, i ≠ 64 + 2 * c → gi (pt h3 85 (64 + 2 * c) (nJ V1)) 85 i = gi h 85 i := fun i hi => by rw [gi_ne (fun _ => hi), fr_gi f3 (rg_no rfl _)]
  have c4 : gi (pt h3 85 (64 + 2 * c) (nJ V1)) 84 27 = nJ c := by rw [gi_ne (by first | exact gxx rfl | omega), fr_gi f3 (rg_no rfl _)]; exact gc
  have F4 : fr_g CX h (pt h3 85 (64 + 2 * c) (nJ V1)) := fr_ptr (l := 64) (u := 79) rfl (by first | decide | with_reducible assumption | omega) (by first | decide | with_reducible assumption | omega) (fr_wk rfl f3)
  generalize pt h3 85 (64 + 2 * c) (nJ V1) = h4 at hh4 R4 g4 o4 c4 F4 ⊢
  refine E_al rfl M0 ?_
  refine E_gr rfl hh4 (q := 85) rfl ?_
  refine E_il rfl K1 ?_
  refine E_ci 1 rfl ci1 ?_
  refine E_bin rfl (nJ_add _ _) ?_
  refine E_al rfl M0 ?_
  refine E_c rfl ?_
  refine E_ci 0 rfl ci0 ?_
  refine E_ci 99 rfl ci99 ?_
  refine E_call rfl (Sp_le (by first | exact Nat.add_le_add_left (Nat.le_of_ble_eq_true rfl) _ | exact Nat.le_of_ble_eq_true rfl | omega) (sp_nW9 (d := d) (k := 6) (lo := 0) (hi := 99) R4 (by decide) (by first | decide | with_reducible assumption | omega) (by first | decide | with_reducible assumption | omega))) (chk77 hh4 rfl rfl (by show 2 ≤ 8; decide)) (fun h5 r5 => ?_)
  rintro ⟨e5, f5, R5, u5, w5⟩
  rw [e5]
  generalize bV T L 0 99 (bW T L (wd 6) (bN T L 1 p (bW T L (wd 5) x))) = V2 at u5 w5 ⊢
  have hh5 : HH h5 := (RSt_TB R5).1
  refine E_ias rfl hh5 rfl (by first | decide | with_reducible assumption | omega) (by decide) ?_
  have b85o : bd 85 (64 + 2 * c + 1) = some (0, 99) := bd_85o (by first | decide | with_reducible assumption | omega) (by first | decide | with_reducible assumption | omega)
  have hh6 : HH (pt h5 85 (64 + 2 * c + 1) (nJ V2)) := HH_ptn hh5 b85o (by first | decide | with_reducible assumption | omega) (by first | decide | with_reducible assumption | omega) (by first | decide | with_reducible assumption | omega)
  have R6 := RSt_pt (by first | decide | with_reducible assumption | omega) hh6 R5
  have g6 : gi (pt h5 85 (64 + 2 * c + 1) (nJ V2)) 85 (64 + 2 * c + 1) = nJ V2 := gi_ptn hh5 b85o (by first | decide | with_reducible assumption | omega) (by first | decide | with_reducible assumption | omega) (by first | decide | with_reducible assumption | omega)
  have g6b : gi (pt h5 85 (64 + 2 * c + 1) (nJ V2)) 85 (64 + 2 * c) = nJ V1 := by rw [gi_ne (by first | exact gxx rfl | omega), fr_gi f5 (rg_no rfl _)]; exact g4
  have o6 : ∀ i, i ≠ 64 + 2 * c → i ≠ 64 + 2 * c + 1 → gi (pt h5 85 (64 + 2 * c + 1) (nJ V2)) 85 i = gi h 85 i := fun i a b => by rw [gi_ne (fun _ => b), fr_gi f5 (rg_no rfl _)]; exact o4 i a
  have c6 : gi (pt h5 85 (64 + 2 * c + 1) (nJ V2)) 84 27 = nJ c := by rw [gi_ne (by first | exact gxx rfl | omega), fr_gi f5 (rg_no rfl _)]; exact c4
  have F6 : fr_g CX h (pt h5 85 (64 + 2 * c + 1) (nJ V2)) := fr_ptr (l := 64) (u := 79) rfl (by first | decide | with_reducible assumption | omega) (by first | decide | with_reducible assumption | omega) (fr_trans F4 (fr_wk rfl f5))
  generalize pt h5 85 (64 + 2 * c + 1) (nJ V2) = h6 at hh6 R6 g6 g6b o6 c6 F6 ⊢
  refine E_al rfl M0 ?_
  refine E_ci 3 rfl ci3 ?_
  refine E_al rfl M0 ?_
  refine E_ci 3 rfl ci3 ?_
  refine E_call rfl (Sp_le (by first | exact Nat.add_le_add_left (Nat.le_of_ble_eq_true rfl) _ | exact Nat.le_of_ble_eq_true rfl | omega) (sp_hR (d := d) (k := 3) (v := c) hh6 (by decide) c6 (by first | decide | with_reducible assumption | omega))) (chk77 hh6 rfl rfl (by show 2 ≤ 8; decide)) (fun h7 r7 => ?_)
  rintro ⟨e7, f7⟩
  rw [e7, f7]
  refine E_ci 1 rfl ci1 ?_
  refine E_bin rfl (nJ_add _ _) ?_
  refine E_call rfl (Sp_le (by first | exact Nat.add_le_add_left (Nat.le_of_ble_eq_true rfl) _ | exact Nat.le_of_ble_eq_true rfl | omega) (sp_tells (d := d) (k := 3) hh6 (by decide))) (chk77 hh6 rfl rfl (by show 0 ≤ 8; decide)) (fun h8 r8 => ?_)
  rintro ⟨e8, f8⟩
  rw [e8, f8]
  have hh8 : HH (pt h6 84 (24 + 3) (nJ (c + 1))) := HH_ptn hh6 rfl (by first | decide | with_reducible assumption | omega) (by first | decide | with_reducible assumption | omega) (by first | decide | with_reducible assumption | omega)
  refine E_ret rfl ⟨rfl, hh8, fr_ptr (l := 27) (u := 27) rfl (by first | decide | with_reducible assumption | omega) (by first | decide | with_reducible assumption | omega) F6, RSt_pt (by first | decide | with_reducible assumption | omega) hh8 R6, gi_ptn hh6 rfl (by first | decide | with_reducible assumption | omega) (by first | decide | with_reducible assumption | omega) (by first | decide | with_reducible assumption | omega), ?_, ?_, fun i a b => ?_⟩
  · rw [gi_ne (by first | exact gxx rfl | omega)]; exact g6b
  · rw [gi_ne (by first | exact gxx rfl | omega)]; exact g6
  · rw [gi_ne (by first | exact gxx rfl | omega)]; exact o6 i a b
theorem sp_jnL {p j : Nat} {A B : Nat → Nat} (R : RSt T L x h) (gp : gi h 84 24 = nJ p) (gj : gi h 84 28 = nJ j) (p1 : 1 ≤ p) (p8 : p ≤ 8) (j8 : j ≤ 8) (dj : ∀ i, i < j → gi h 86 (64 + 2 * i) = nJ (A i) ∧ gi h 86 (64 + 2 * i + 1) = nJ (B i)) (ab : ∀ i, i < j → A i ≤ 9 ∧ B i ≤ 9) (hj : ∀ x y, 1 ≤ x → x ≤ p + 1 → 1 ≤ y → y ≤ p + 1 → bl A B j x ≠ bl A B j y → j < 8) : Sp (d + 7) 282 h [.ref 77] (fun h' r => r = none ∧ HH h' ∧ fr_g JX h h' ∧ RSt T L (lnJ T L (p + 1) (bl A B j) x).1 h' ∧ (isR (lnJ T L (p + 1) (bl A B j) x).1 = true → j < 8 ∧ gi h' 84 28 = nJ (j + 1) ∧ gi h' 86 (64 + 2 * j) = nJ (lnJ T L (p + 1) (bl A B j) x).2.1 ∧ gi h' 86 (64 + 2 * j + 1) = nJ (lnJ T L (p + 1) (bl A B j) x).2.2 ∧ ∀ i, i ≠ 64 + 2 * j → i ≠ 64 + 2 * j + 1 → gi h' 86 i = gi h 86 i)) := by
  have hh : HH h := (RSt_TB R).1
  refine Sp_of aiX9_joinLine rfl rfl rfl ?_
  have L0 : pm_get (lv_args 0 [.ref 77]) 0 = some (.ref 77) := rfl
  generalize lv_args 0 [.ref 77] = lv at L0 ⊢
  unfold lnJ
  dsimp only
  refine E_ci 2 rfl ci2 ?_
  refine E_ci 32 rfl ci32 ?_
  refine E_al rfl L0 ?_
  refine E_ci 4 rfl ci4 ?_
  refine E_call rfl (Sp_le (by first | exact Nat.add_le_add_left (Nat.le_of_ble_eq_true rfl) _ | exact Nat.le_of_ble_eq_true rfl | omega) (sp_hR (d := d) (k := 4) (v := j) hh (by decide) gj (by first | decide | with_reducible assumption | omega))) (chk77 hh rfl rfl (by show 2 ≤ 8; decide)) (fun h1 r1 => ?_)
  rintro ⟨e1, f1⟩
  rw [e1, f1]
  refine E_ci 7 rfl ci7 ?_
  refine E_call rfl (Sp_le (by first | exact Nat.add_le_add_left (Nat.le_of_ble_eq_true rfl) _ | exact Nat.le_of_ble_eq_true rfl | omega) (sp_lessOf (d := d) (a := j) (b := 7) (by first | decide | with_reducible assumption | omega) (by first | decide | with_reducible assumption | omega))) (chkS rfl (by show 2 ≤ 8; decide)) (fun h2 r2 => ?_)
  rintro ⟨e2, f2⟩
  rw [e2, f2]
  refine E_bin rfl (nJ_add _ _) ?_
  refine E_bin rfl (nJ_mul _ _) ?_
  refine E_is rfl (fun lv1 K1 kp1 => ?_)
  have M0 := kp1 0 _ (nbz rfl) rfl L0
  refine E_al rfl M0 ?_
  refine E_ci 1 rfl ci1 ?_
  refine E_al rfl M0 ?_
  refine E_ci 0 rfl ci0 ?_
  refine E_call rfl (Sp_le (by first | exact Nat.add_le_add_left (Nat.le_of_ble_eq_true rfl) _ | exact Nat.le_of_ble_eq_true rfl | omega) (sp_hR (d := d) (k := 0) (v := p) hh (by decide) gp (by first | decide | with_reducible assumption | omega))) (chk77 hh rfl rfl (by show 2 ≤ 8; decide)) (fun ha ra => ?_)
  rintro ⟨ea, fa⟩
  rw [ea, fa]
  refine E_ci 1 rfl ci1 ?_
  refine E_bin rfl (nJ_add _ _) ?_
  refine E_call rfl (Sp_le (by first | exact Nat.add_le_add_left (Nat.le_of_ble_eq_true rfl) _ | exact Nat.le_of_ble_eq_true rfl | omega) (sp_nm (d := d) (lo := 1) (hi := p + 1) R (by first | decide | with_reducible assumption | omega) (by first | decide | with_reducible assumption | omega))) (chk77 hh rfl rfl (by show 0 ≤ 8; decide)) (fun h3 r3 => ?_)
  rintro ⟨e3, f3, R3, u3, w3⟩
  rw [e3]
  generalize bV T L 1 (p + 1) x = V1 at u3 w3 ⊢
  generalize bN T L 1 (p + 1) x = x1 at R3 ⊢
  have hh3 : HH h3 := (RSt_TB R3).1
  have gj3 : gi h3 84 28 = nJ j := by rw [fr_gi f3 (rg_no rfl _)]; exact gj
  refine E_is rfl (fun lv2 K2 kp2 => ?_)
  have N0 := kp2 0 _ (nbz rfl) rfl M0
  have N1 := kp2 1 _ (nbz rfl) rfl K1
  refine E_al rfl N0 ?_
  refine E_ci 4 rfl ci4 ?_
  refine E_al rfl N0 ?_
  refine E_ci 4 rfl ci4 ?_
  refine E_call rfl (Sp_le (by first | exact Nat.add_le_add_left (Nat.le_of_ble_eq_true rfl) _ | exact Nat.le_of_ble_eq_true rfl | omega) (sp_hR (d := d) (k := 4) (v := j) hh3 (by decide) gj3 (by first | decide | with_reducible assumption | omega))) (chk77 hh3 rfl rfl (by show 2 ≤ 8; decide)) (fun hb rb => ?_)
  rintro ⟨eb, fb⟩
  rw [eb, fb]
  refine E_call rfl (Sp_le (by first | exact Nat.add_le_add_left (Nat.le_of_ble_eq_true rfl) _ | exact Nat.le_of_ble_eq_true rfl | omega) (sp_laysBlocks4 (d := d) (n := j) hh3 j8)) (chk77 hh3 rfl rfl (by show 0 ≤ 8; decide)) (fun h4 r4 => ?_)
  rintro ⟨e4, hh4, f4, l4⟩
  rw [e4]
  have R4 := RSt_frm f4 rfl rfl hh4 R3
  have b3 : bk (gn h3 86) j = bl A B j := bk_bl (fun i hi => by
    have q := dj i hi
    have q2 := ab i hi
    refine ⟨gn_of ?_ (by first | decide | with_reducible assumption | omega), gn_of ?_ (by first | decide | with_reducible assumption | omega)⟩
    · rw [fr_gi f3 (rg_no rfl _)]; exact q.1
    · rw [fr_gi f3 (rg_no rfl _)]; exact q.2)
  have l4 : ∀ k, k < 10 → gn h4 101 k = bl A B j k := fun k hk => by rw [l4 k hk, b3]
  have gp4 : gi h4 84 24 = nJ p := by rw [fr_gi f4 (rg_no rfl _), fr_gi f3 (rg_no rfl _)]; exact gp
  have gj4 : gi h4 84 28 = nJ j := by rw [fr_gi f4 (rg_no rfl _)]; exact gj3
  have o4 : ∀ i, gi h4 86 i = gi h 86 i := fun i => by rw [fr_gi f4 (rg_no rfl _), fr_gi f3 (rg_no rfl _)]
  have F4 : fr_g JX h h4 := fr_trans (fr_wk rfl f3) (fr_wk rfl f4)
  /- the second number, and the end -/
  have rest : ∀ (x2 : Px) (g : pm_H), bJ T L (p + 1) (bl A B j) V1 x1 = x2 → RSt T L x2 g → fr_g JX h g → gi g 84 24 = nJ p → gi g 84 28 = nJ j → (∀ i, gi g 86 i = gi h 86 i) → (∀ t, x2 = .inr t → okN T L 1 (p + 1) t = true → MAY (p + 1) (bl A B j) V1 (tkv T L t)) → Ends (pm_at tX9_joinLine) (pm_Rt pm_P (d + 6)) (98, lv2, [], g, 0, 0) (fun h' r => r = none ∧ HH h' ∧ fr_g JX h h' ∧ RSt T L (bN T L 1 (p + 1) (bJ T L (p + 1) (bl A B j) V1 x1)) h' ∧ (isR (bN T L 1 (p + 1) (bJ T L (p + 1) (bl A B j) V1 x1)) = true → j < 8 ∧ gi h' 84 28 = nJ (j + 1) ∧ gi h' 86 (64 + 2 * j) = nJ V1 ∧ gi h' 86 (64 + 2 * j + 1) = nJ (bV T L 1 (p + 1) (bJ T L (p + 1) (bl A B j) V1 x1)) ∧ ∀ i, i ≠ 64 + 2 * j → i ≠ 64 + 2 * j + 1 → gi h' 86 i = gi h 86 i)) := by
    intro x2 g e2 Rg Fg gpg gjg og may
    rw [e2]
    have hg : HH g := (RSt_TB Rg).1
    refine E_al rfl N0 ?_
    refine E_ci 1 rfl ci1 ?_
    refine E_al rfl N0 ?_
    refine E_ci 0 rfl ci0 ?_
    refine E_call rfl (Sp_le (by first | exact Nat.add_le_add_left (Nat.le_of_ble_eq_true rfl) _ | exact Nat.le_of_ble_eq_true rfl | omega) (sp_hR (d := d) (k := 0) (v := p) hg (by decide) gpg (by first | decide | with_reducible assumption | omega))) (chk77 hg rfl rfl (by show 2 ≤ 8; decide)) (fun hc rc => ?_)
    rintro ⟨ec, fc⟩
    rw [ec, fc]
    refine E_ci 1 rfl ci1 ?_
    refine E_bin rfl (nJ_add _ _) ?_
    refine E_call rfl (Sp_le (by first | exact Nat.add_le_add_left (Nat.le_of_ble_eq_true rfl) _ | exact Nat.le_of_ble_eq_true rfl | omega) (sp_nm (d := d) (lo := 1) (hi := p + 1) Rg (by first | decide | with_reducible assumption | omega) (by first | decide | with_reducible assumption | omega))) (chk77 hg rfl rfl (by show 0 ≤ 8; decide)) (fun h5 r5 => ?_)
    rintro ⟨e5, f5, R5, u5, w5⟩
    rw [e5]
    have hh5 : HH h5 := (RSt_TB R5).1
    have F5 : fr_g JX h h5 := fr_trans Fg (fr_wk rfl f5)
    refine E_is rfl (fun lv3 K3 kp3 => ?_)
    have O0 := kp3 0 _ (nbz rfl) rfl N0
    have O1 := kp3 1 _ (nbz rfl) rfl N1
    have O2 := kp3 2 _ (nbz rfl) rfl K2
    refine E_al rfl O0 ?_
    cases x3 : bN T L 1 (p + 1) x2 with
    | inl e =>
      rw [x3] at R5
      refine E_gf (q := (0, 3)) rfl hh5 rfl R5.2.1 ?_
      refine E_ifF rfl (decide_eq_false (fun q => absurd ((nJ_eq0 (by have := R5.2.2.2.2.1; omega)).mp q) (by have := R5.2.2.2.1; omega))) ?_
      exact E_ret rfl ⟨rfl, hh5, F5, R5, fun q => by cases q⟩
    | inr t3 =>
      obtain ⟨t, et, ok, -⟩ := bN_in x3
      have mm := may t et ok
      have v2 := (okN_iff.mp ok).2
      have jj := hj V1 (tkv T L t) u3 w3 v2.1 v2.2 mm.1
      have em : min j 7 = j := by omega
      rw [em, show 2 * (32 + j) = 64 + 2 * j by omega] at O1
      rw [x3] at R5
      generalize bV T L 1 (p + 1) x2 = V2 at u5 w5 K3 ⊢
      refine E_gf (q := (0, 3)) rfl hh5 rfl R5.2.2.1 ?_
      refine E_ifT rfl (by decide) ?_
      refine E_al rfl O0 ?_
      refine E_gr rfl hh5 (q := 86) rfl ?_
      refine E_il rfl O1 ?_
      refine E_il rfl O2 ?_
      refine E_ias rfl hh5 rfl (by first | decide | with_reducible assumption | omega) (by decide) ?_
      have q1 : bd 86 (64 + 2 * j) = some (0, 9) := bd_u rfl (by first | decide | with_reducible assumption | omega)
      have q2 : bd 86 (64 + 2 * j + 1) = some (0, 9) := bd_u rfl (by first | decide | with_reducible assumption | omega)
      have hh6 : HH (pt h5 86 (64 + 2 * j) (nJ V1)) := HH_ptn hh5 q1 (by first | decide | with_reducible assumption | omega) (by first | decide | with_reducible assumption | omega) (by first | decide | with_reducible assumption | omega)
      refine E_al rfl O0 ?_
      refine E_gr rfl hh6 (q := 86) rfl ?_
      refine E_il rfl O1 ?_
      refine E_ci 1 rfl ci1 ?_
      refine E_bin rfl (nJ_add _ _) ?_
      refine E_il rfl K3 ?_
      refine E_ias rfl hh6 rfl (by first | decide | with_reducible assumption | omega) (by decide) ?_
      have hh7 : HH (pt (pt h5 86 (64 + 2 * j) (nJ V1)) 86 (64 + 2 * j + 1) (nJ V2)) := HH_ptn hh6 q2 (by first | decide | with_reducible assumption | omega) (by first | decide | with_reducible assumption | omega) (by first | decide | with_reducible assumption | omega)
      have R7 := RSt_pt (by first | decide | with_reducible assumption | omega) hh7 (RSt_pt (by first | decide | with_reducible assumption | omega) hh6 R5)
      have ga : gi (pt (pt h5 86 (64 + 2 * j) (nJ V1)) 86 (64 + 2 * j + 1) (nJ V2)) 86 (64 + 2 * j) = nJ V1 := by rw [gi_ne (by first | exact gxx rfl | omega)]; exact gi_ptn hh5 q1 (by first | decide | with_reducible assumption | omega) (by first | decide | with_reducible assumption | omega) (by first | decide | with_reducible assumption | omega)
      have gb : gi (pt (pt h5 86 (64 + 2 * j) (nJ V1)) 86 (64 + 2 * j + 1) (nJ V2)) 86 (64 + 2 * j + 1) = nJ V2 := gi_ptn hh6 q2 (by first | decide | with_reducible assumption | omega) (by first | decide | with_reducible assumption | omega) (by first | decide | with_reducible assumption | omega)
      have o7 : ∀ i, i ≠ 64 + 2 * j → i ≠ 64 + 2 * j + 1 → gi (pt (pt h5 86 (64 + 2 * j) (nJ V1)) 86 (64 + 2 * j + 1) (nJ V2)) 86 i = gi h 86 i := fun i a b => by rw [gi_ne (fun _ => b), gi_ne (fun _ => a), fr_gi f5 (rg_no rfl _)]; exact og i
      have gj7 : gi (pt (pt h5 86 (64 + 2 * j) (nJ V1)) 86 (64 + 2 * j + 1) (nJ V2)) 84 28 = nJ j := by rw [gi_ne (by first | exact gxx rfl | omega), gi_ne (by first | exact gxx rfl | omega), fr_gi f5 (rg_no rfl _)]; exact gjg
      have F7 : fr_g JX h (pt (pt h5 86 (64 + 2 * j) (nJ V1)) 86 (64 + 2 * j + 1) (nJ V2)) := fr_ptr (l := 64) (u := 79) rfl (by first | decide | with_reducible assumption | omega) (by first | decide | with_reducible assumption | omega) (fr_ptr (l := 64) (u := 79) rfl (by first | decide | with_reducible assumption | omega) (by first | decide | with_reducible assumption | omega) F5)
      generalize pt (pt h5 86 (64 + 2 * j) (nJ V1)) 86 (64 + 2 * j + 1) (nJ V2) = h7 at hh7 R7 ga gb o7 gj7 F7 ⊢
      refine E_al rfl O0 ?_
      refine E_ci 4 rfl ci4 ?_
      refine E_al rfl O0 ?_
      refine E_ci 4 rfl ci4 ?_
      refine E_call rfl (Sp_le (by first | exact Nat.add_le_add_left (Nat.le_of_ble_eq_true rfl) _ | exact Nat.le_of_ble_eq_true rfl | omega) (sp_hR (d := d) (k := 4) (v := j) hh7 (by decide) gj7 (by first | decide | with_reducible assumption | omega))) (chk77 hh7 rfl rfl (by show 2 ≤ 8; decide)) (fun h8 r8 => ?_)
      rintro ⟨e8, f8⟩
      rw [e8, f8]
      refine E_ci 1 rfl ci1 ?_
      refine E_bin rfl (nJ_add _ _) ?_
      refine E_call rfl (Sp_le (by first | exact Nat.add_le_add_left (Nat.le_of_ble_eq_true rfl) _ | exact Nat.le_of_ble_eq_true rfl | omega) (sp_tells (d := d) (k := 4) hh7 (by decide))) (chk77 hh7 rfl rfl (by show 0 ≤ 8; decide)) (fun h9 r9 => ?_)
      rintro ⟨e9, f9⟩
      rw [e9, f9]
      have hh9 : HH (pt h7 84 (24 + 4) (nJ (j + 1))) := HH_ptn hh7 rfl (by first | decide | with_reducible assumption | omega) (by first | decide | with_reducible assumption | omega) (by first | decide | with_reducible assumption | omega)
      refine E_ret rfl ⟨rfl, hh9, fr_ptr (l := 28) (u := 28) rfl (by first | decide | with_reducible assumption | omega) (by first | decide | with_reducible assumption | omega) F7, RSt_pt (by first | decide | with_reducible assumption | omega) hh9 R7, fun _ => ⟨jj, gi_ptn hh7 rfl (by first | decide | with_reducible assumption | omega) (by first | decide | with_reducible assumption | omega) (by first | decide | with_reducible assumption | omega), ?_, ?_, fun i a b => ?_⟩⟩
      · rw [gi_ne (by first | exact gxx rfl | omega)]; exact ga
      · rw [gi_ne (by first | exact gxx rfl | omega)]; exact gb
      · rw [gi_ne (by first | exact gxx rfl | omega)]; exact o7 i a b
  refine E_al rfl N0 ?_
  match x1, R4, rest with
  | .inl (k', p'), R4, rest =>
    refine E_gf (q := (0, 3)) rfl hh4 rfl R4.2.1 ?_
    refine E_ifT rfl (decide_eq_true (fun q => absurd ((nJ_eq0 (by have := R4.2.2.2.2.1; omega)).mp q) (by have := R4.2.2.2.1; omega))) ?_
    exact rest _ _ rfl R4 F4 gp4 gj4 o4 (fun t q => by cases q)
  | .inr t, R4, rest =>
    obtain ⟨B4, ⟨t9, t7, t8, t10, t11⟩, t12, hs4⟩ := id R4
    have hkk := tkk_le (T := T) (L := L) (s := t)
    refine E_gf (q := (0, 3)) rfl hh4 rfl t12 ?_
    refine E_ifF rfl (by decide) ?_
    refine E_al rfl N0 ?_
    refine E_gf (q := (0, 4)) rfl hh4 rfl t8 ?_
    refine E_ci 2 rfl ci2 ?_
    have noJ : okN T L 1 (p + 1) t = false → Ends (pm_at tX9_joinLine) (pm_Rt pm_P (d + 6)) (98, lv2, [], h4, 0, 0) (fun h' r => r = none ∧ HH h' ∧ fr_g JX h h' ∧ RSt T L (bN T L 1 (p + 1) (bJ T L (p + 1) (bl A B j) V1 (.inr t))) h' ∧ (isR (bN T L 1 (p + 1) (bJ T L (p + 1) (bl A B j) V1 (.inr t))) = true → j < 8 ∧ gi h' 84 28 = nJ (j + 1) ∧ gi h' 86 (64 + 2 * j) = nJ V1 ∧ gi h' 86 (64 + 2 * j + 1) = nJ (bV T L 1 (p + 1) (bJ T L (p + 1) (bl A B j) V1 (.inr t))) ∧ ∀ i, i ≠ 64 + 2 * j → i ≠ 64 + 2 * j + 1 → gi h' 86 i = gi h 86 i)) := by
      intro ok
      have eJ : bJ T L (p + 1) (bl A B j) V1 (.inr t) = .inr t := by
        unfold bJ
        dsimp only
        rw [ok]
        rfl
      refine rest _ _ eJ R4 F4 gp4 gj4 o4 (fun t' q ok' => ?_)
      cases q
      rw [ok] at ok'
      cases ok'
    by_cases k2 : tkk T L t = 2
    · obtain ⟨v, v1, v2, v3⟩ := t10 k2
      have vb := Vr_bd (lo := 1) (hi := p + 1) v3 (by first | decide | with_reducible assumption | omega)
      refine E_icF rfl (decide_eq_false (fun z => z (by rw [k2]))) ?_
      refine E_al rfl N0 ?_
      refine E_gf rfl hh4 rfl v2 ?_
      refine E_i2l rfl ?_
      refine E_c rfl ?_
      refine E_al rfl N0 ?_
      refine E_ci 0 rfl ci0 ?_
      refine E_call rfl (Sp_le (by first | exact Nat.add_le_add_left (Nat.le_of_ble_eq_true rfl) _ | exact Nat.le_of_ble_eq_true rfl | omega) (sp_hR (d := d) (k := 0) (v := p) hh4 (by decide) gp4 (by first | decide | with_reducible assumption | omega))) (chk77 hh4 rfl rfl (by show 4 ≤ 8; decide)) (fun hc rc => ?_)
      rintro ⟨ec, fc⟩
      rw [ec, fc]
      refine E_i2l rfl ?_
      refine E_c rfl ?_
      refine E_lbin rfl ?_
      refine E_call rfl (Sp_le (by first | exact Nat.add_le_add_left (Nat.le_of_ble_eq_true rfl) _ | exact Nat.le_of_ble_eq_true rfl | omega) (sp_in (d := d) (a := (v : Int)) (b := 1) (c := (p : Int) + 1) (i2l_nJ (by first | decide | with_reducible assumption | omega)) rfl (i2l_add1 (by first | decide | with_reducible assumption | omega)))) (chkS rfl (by show 0 ≤ 8; decide)) (fun hd rd => ?_)
      rintro ⟨ed, fd⟩
      rw [ed, fd]
      by_cases b2 : 1 ≤ v ∧ v ≤ p + 1
      · refine E_ifF rfl (by rw [zb_T (by first | decide | with_reducible assumption | omega)]; rfl) ?_
        have vq := vb.mp b2
        have ev := Vr_eq v3 (hi := p + 1) (by first | decide | with_reducible assumption | omega) vq.2
        have ok : okN T L 1 (p + 1) t = true := okN_iff.mpr ⟨k2, vq⟩
        refine E_al rfl N0 ?_
        refine E_il rfl K2 ?_
        refine E_al rfl N0 ?_
        refine E_gf rfl hh4 rfl v2 ?_
        refine E_al rfl N0 ?_
        refine E_ci 0 rfl ci0 ?_
        refine E_call rfl (Sp_le (by first | exact Nat.add_le_add_left (Nat.le_of_ble_eq_true rfl) _ | exact Nat.le_of_ble_eq_true rfl | omega) (sp_hR (d := d) (k := 0) (v := p) hh4 (by decide) gp4 (by first | decide | with_reducible assumption | omega))) (chk77 hh4 rfl rfl (by show 3 ≤ 8; decide)) (fun he re => ?_)
        rintro ⟨ee, fe⟩
        rw [ee, fe]
        refine E_ci 1 rfl ci1 ?_
        refine E_bin rfl (nJ_add _ _) ?_
        refine E_call rfl (Sp_le (by first | exact Nat.add_le_add_left (Nat.le_of_ble_eq_true rfl) _ | exact Nat.le_of_ble_eq_true rfl | omega) (sp_mj (d := d) (n := p + 1) (x := V1) (y := v) hh4 (by first | decide | with_reducible assumption | omega) (by first | decide | with_reducible assumption | omega) (by first | decide | with_reducible assumption | omega))) (chk77 hh4 rfl rfl (by show 0 ≤ 8; decide)) (fun hf rf => ?_)
        rintro ⟨ef, qf⟩
        rw [ef]
        have me := MAY_eq (n := p + 1) (x := V1) (y := v) l4 (by first | decide | with_reducible assumption | omega) (by first | decide | with_reducible assumption | omega) (by first | decide | with_reducible assumption | omega)
        rw [ev] at me
        rcases qf with ⟨m, q⟩ | ⟨m, q⟩
        · rw [q]
          rw [ev] at m
          refine E_ifT rfl (by decide) ?_
          have mm := me.mp m
          have eJ : bJ T L (p + 1) (bl A B j) V1 (.inr t) = .inr t := by
            unfold bJ
            dsimp only
            rw [mayb_T mm, Bool.not_true, Bool.and_false]
            rfl
          refine rest _ _ eJ R4 F4 gp4 gj4 o4 (fun t' q' _ => ?_)
          cases q'
          exact mm
        · rw [q]
          rw [ev] at m
          refine E_ifF rfl (by decide) ?_
          have eJ : bJ T L (p + 1) (bl A B j) V1 (.inr t) = .inl (2, t) := by
            unfold bJ
            dsimp only
            rw [ok, mayb_F (fun z => m (me.mpr z))]
            rfl
          refine E_al rfl N0 ?_
          refine E_ci 2 rfl ci2 ?_
          refine E_call rfl (Sp_le (by first | exact Nat.add_le_add_left (Nat.le_of_ble_eq_true rfl) _ | exact Nat.le_of_ble_eq_true rfl | omega) (sp_fl (d := d) (k := 2) R4 (by first | decide | with_reducible assumption | omega) (by first | decide | with_reducible assumption | omega))) (chk77 hh4 rfl rfl (by show 0 ≤ 8; decide)) (fun hg rg => ?_)
          rintro ⟨eg, fg, Rg⟩
          rw [eg]
          refine rest _ _ eJ Rg (fr_trans F4 (fr_wk rfl fg)) (by rw [fr_gi fg (rg_no rfl _)]; exact gp4) (by rw [fr_gi fg (rg_no rfl _)]; exact gj4) (fun i => by rw [fr_gi fg (rg_no rfl _)]; exact o4 i) (fun t' q' => by cases q')
      · refine E_ifT rfl (by rw [zb_F (by first | decide | with_reducible assumption | omega)]; rfl) ?_
        exact noJ (okN_F (fun q => b2 (vb.mpr q.2)))
    · refine E_icT rfl (decide_eq_true (fun z => k2 ((nJ_eq (by first | decide | with_reducible assumption | omega) (by first | decide | with_reducible assumption | omega)).mp z))) ?_
      exact noJ (okN_F (fun q => k2 q.1))
theorem sp_lnH9 {n s : Nat} {σ : Sg} (R : RSt T L (.inr s) h) (D : RDr σ h) (W : Ws n σ) (n0 : n ≠ 0) : Sp (d + 9) 304 h [.ref 77] (fun h' r => r = none ∧ HH h' ∧ fr_g LX h h' ∧ RSt T L (ln T L n σ s).1 h' ∧ (isR (ln T L n σ s).1 = true → RDr (ln T L n σ s).2 h')) := by
  have hh : HH h := R.1.1
  obtain ⟨d0, d1, d2, d3, d4, d5, dc, dj⟩ := id D
  rcases W with ⟨q, -⟩ | ⟨-, p1, p8, cp, wf, rr, nc, ab⟩
  · exact absurd q n0
  have j8 : σ.2.2.1 ≤ 8 := by have := rc_pos wf; omega
  refine Sp_of aiX9_lineHere rfl rfl rfl ?_
  have L0 : pm_get (lv_args 0 [.ref 77]) 0 = some (.ref 77) := rfl
  generalize lv_args 0 [.ref 77] = lv at L0 ⊢
  unfold ln
  rw [nbeqF n0]
  dsimp only [cond_false]
  refine E_al rfl L0 ?_
  refine E_c rfl ?_
  refine E_call rfl (Sp_le (by first | exact Nat.add_le_add_left (Nat.le_of_ble_eq_true rfl) _ | exact Nat.le_of_ble_eq_true rfl | omega) (sp_iW9 (d := d) (k := 4) R (by decide))) (chk77 hh rfl rfl (by show 0 ≤ 8; decide)) (fun h1 r1 => ?_)
  rintro ⟨e1, f1⟩
  rw [e1, f1]
  cases hc : wIs T L s (wd 4) with
  | true =>
    refine E_ifF rfl (by rw [zb_T (show isX T L (wd 4) (.inr s) = true from hc)]; rfl) ?_
    dsimp only [cond_true]
    refine E_al rfl L0 ?_
    refine E_ci 3 rfl ci3 ?_
    refine E_call rfl (Sp_le (by first | exact Nat.add_le_add_left (Nat.le_of_ble_eq_true rfl) _ | exact Nat.le_of_ble_eq_true rfl | omega) (sp_hR (d := d) (k := 3) (v := σ.2.1.1) hh (by decide) d3 (by first | decide | with_reducible assumption | omega))) (chk77 hh rfl rfl (by show 0 ≤ 8; decide)) (fun h2 r2 => ?_)
    rintro ⟨e2, f2⟩
    rw [e2, f2]
    refine E_al rfl L0 ?_
    refine E_ci 0 rfl ci0 ?_
    refine E_call rfl (Sp_le (by first | exact Nat.add_le_add_left (Nat.le_of_ble_eq_true rfl) _ | exact Nat.le_of_ble_eq_true rfl | omega) (sp_hR (d := d) (k := 0) (v := σ.1.1) hh (by decide) d0 (by first | decide | with_reducible assumption | omega))) (chk77 hh rfl rfl (by show 1 ≤ 8; decide)) (fun h3 r3 => ?_)
    rintro ⟨e3, f3⟩
    rw [e3, f3]
    by_cases ecp : σ.2.1.1 = σ.1.1
    · rw [nbeq.mpr ecp]
      dsimp only [cond_true]
      refine E_icF rfl (decide_eq_false (fun z => z (by rw [ecp]))) ?_
      refine E_al rfl L0 ?_
      refine E_ci 3 rfl ci3 ?_
      refine E_call rfl (Sp_le (by first | exact Nat.add_le_add_left (Nat.le_of_ble_eq_true rfl) _ | exact Nat.le_of_ble_eq_true rfl | omega) (sp_fl (d := d) (k := 3) R (by first | decide | with_reducible assumption | omega) (by first | decide | with_reducible assumption | omega))) (chk77 hh rfl rfl (by show 0 ≤ 8; decide)) (fun h4 r4 => ?_)
      rintro ⟨e4, f4, R4⟩
      rw [e4]
      have R4 : RSt T L (.inl (3, s)) h4 := R4
      refine E_al rfl L0 ?_
      refine E_gf (q := (0, 3)) rfl R4.1.1 rfl R4.2.1 ?_
      refine E_ifF rfl (by decide) ?_
      exact E_ret rfl ⟨rfl, R4.1.1, fr_wk rfl f4, R4, fun q => by cases q⟩
    · rw [nbeqF ecp]
      dsimp only [cond_false]
      refine E_icT rfl (decide_eq_true (fun z => ecp ((nJ_eq (by first | decide | with_reducible assumption | omega) (by first | decide | with_reducible assumption | omega)).mp z))) ?_
      refine E_al rfl L0 ?_
      refine E_gf (q := (0, 3)) rfl hh rfl R.2.2.1 ?_
      refine E_ifT rfl (by decide) ?_
      refine E_al rfl L0 ?_
      refine E_call rfl (Sp_le (by first | exact Nat.add_le_add_left (Nat.le_of_ble_eq_true rfl) _ | exact Nat.le_of_ble_eq_true rfl | omega) (sp_fwn (d := d) R)) (chk77 hh rfl rfl (by show 0 ≤ 8; decide)) (fun h4 r4 => ?_)
      rintro ⟨e4, f4, R4⟩
      rw [e4]
      have hh4 : HH h4 := R4.1.1
      have D4 := RDr_fr f4 rfl rfl rfl D
      refine E_al rfl L0 ?_
      refine E_call rfl (Sp_le (by first | exact Nat.add_le_add_left (Nat.le_of_ble_eq_true rfl) _ | exact Nat.le_of_ble_eq_true rfl | omega) (sp_crL (d := d) R4 D4.2.2.2.1 D4.1 (by first | decide | with_reducible assumption | omega) p8)) (chk77 hh4 rfl rfl (by show 0 ≤ 8; decide)) (fun h5 r5 => ?_)
      rintro ⟨e5, hh5, f5, R5, g5, ga, gb, go⟩
      rw [e5]
      refine E_goto rfl ?_
      refine E_ret rfl ⟨rfl, hh5, fr_trans (fr_wk rfl f4) (fr_wk rfl f5), R5, fun _ => ?_⟩
      obtain ⟨q0, q1, q2, q3, q4, q5, qc, qj⟩ := D4
      refine ⟨by rw [fr_gi f5 rfl]; exact q0, by rw [fr_gi f5 rfl]; exact q1, by rw [fr_gi f5 rfl]; exact q2, g5, by rw [fr_gi f5 rfl]; exact q4, by rw [fr_gi f5 rfl]; exact q5, fun i hi => ?_, fun i hi => ?_⟩
      · have hi : i < σ.2.1.1 + 1 := hi
        dsimp only
        by_cases e : i = σ.2.1.1
        · rw [e, fup_s, fup_s]
          exact ⟨ga, gb⟩
        · rw [fup_n e, fup_n e, go _ (by first | decide | with_reducible assumption | omega) (by first | decide | with_reducible assumption | omega), go _ (by first | decide | with_reducible assumption | omega) (by first | decide | with_reducible assumption | omega)]
          exact qc i (by first | decide | with_reducible assumption | omega)
      · rw [fr_gi f5 (rg_no rfl _), fr_gi f5 (rg_no rfl _)]
        exact qj i hi
  | false =>
    refine E_ifT rfl (by rw [zb_F (show ¬ isX T L (wd 4) (.inr s) = true from fun q => by rw [show isX T L (wd 4) (.inr s) = wIs T L s (wd 4) from rfl, hc] at q; cases q)]; rfl) ?_
    dsimp only [cond_false]
    refine E_al rfl L0 ?_
    refine E_c rfl ?_
    refine E_call rfl (Sp_le (by first | exact Nat.add_le_add_left (Nat.le_of_ble_eq_true rfl) _ | exact Nat.le_of_ble_eq_true rfl | omega) (sp_iW9 (d := d) (k := 7) R (by decide))) (chk77 hh rfl rfl (by show 0 ≤ 8; decide)) (fun h2 r2 => ?_)
    rintro ⟨e2, f2⟩
    rw [e2, f2]
    cases hj : wIs T L s (wd 7) with
    | true =>
      refine E_ifF rfl (by rw [zb_T (show isX T L (wd 7) (.inr s) = true from hj)]; rfl) ?_
      dsimp only [cond_true]
      refine E_al rfl L0 ?_
      refine E_call rfl (Sp_le (by first | exact Nat.add_le_add_left (Nat.le_of_ble_eq_true rfl) _ | exact Nat.le_of_ble_eq_true rfl | omega) (sp_fwn (d := d) R)) (chk77 hh rfl rfl (by show 0 ≤ 8; decide)) (fun h4 r4 => ?_)
      rintro ⟨e4, f4, R4⟩
      rw [e4]
      have hh4 : HH h4 := R4.1.1
      have D4 := RDr_fr f4 rfl rfl rfl D
      refine E_al rfl L0 ?_
      refine E_call rfl (Sp_le (by first | exact Nat.add_le_add_left (Nat.le_of_ble_eq_true rfl) _ | exact Nat.le_of_ble_eq_true rfl | omega) (sp_jnL (d := d) R4 D4.1 D4.2.2.2.2.1 p1 p8 j8 D4.2.2.2.2.2.2.2 ab (Ws_j8 wf rr p8))) (chk77 hh4 rfl rfl (by show 0 ≤ 8; decide)) (fun h5 r5 => ?_)
      rintro ⟨e5, hh5, f5, R5, v5⟩
      rw [e5]
      refine E_goto rfl ?_
      refine E_ret rfl ⟨rfl, hh5, fr_trans (fr_wk rfl f4) (fr_wk rfl f5), R5, fun q => ?_⟩
      obtain ⟨jj, g5, ga, gb, go⟩ := v5 q
      obtain ⟨q0, q1, q2, q3, q4, q5, qc, qj⟩ := D4
      refine ⟨by rw [fr_gi f5 rfl]; exact q0, by rw [fr_gi f5 rfl]; exact q1, by rw [fr_gi f5 rfl]; exact q2, by rw [fr_gi f5 rfl]; exact q3, g5, by rw [fr_gi f5 rfl]; exact q5, fun i hi => ?_, fun i hi => ?_⟩
      · rw [fr_gi f5 (rg_no rfl _), fr_gi f5 (rg_no rfl _)]
        exact qc i hi
      · have hi : i < σ.2.2.1 + 1 := hi
        dsimp only
        by_cases e : i = σ.2.2.1
        · rw [e, fup_s, fup_s]
          exact ⟨ga, gb⟩
        · rw [fup_n e, fup_n e, go _ (by first | decide | with_reducible assumption | omega) (by first | decide | with_reducible assumption | omega), go _ (by first | decide | with_reducible assumption | omega) (by first | decide | with_reducible assumption | omega)]
          exact qj i (by first | decide | with_reducible assumption | omega)
    | false =>
      refine E_ifT rfl (by rw [zb_F (show ¬ isX T L (wd 7) (.inr s) = true from fun q => by rw [show isX T L (wd 7) (.inr s) = wIs T L s (wd 7) from rfl, hj] at q; cases q)]; rfl) ?_
      dsimp only [cond_false]
      refine E_al rfl L0 ?_
      refine E_ci 1 rfl ci1 ?_
      refine E_call rfl (Sp_le (by first | exact Nat.add_le_add_left (Nat.le_of_ble_eq_true rfl) _ | exact Nat.le_of_ble_eq_true rfl | omega) (sp_fl (d := d) (k := 1) R (by first | decide | with_reducible assumption | omega) (by first | decide | with_reducible assumption | omega))) (chk77 hh rfl rfl (by show 0 ≤ 8; decide)) (fun h4 r4 => ?_)
      rintro ⟨e4, f4, R4⟩
      rw [e4]
      have R4 : RSt T L (.inl (1, s)) h4 := R4
      exact E_ret rfl ⟨rfl, R4.1.1, fr_wk rfl f4, R4, fun q => by cases q⟩
end RL1
end
section
/-! street of class and reference: what they answer and leave (wants t50, t51, t52) -/
noncomputable def stv (R : Px × Nat × Sg) : Int32 := match R.1 with
  | .inl _ => -4
  | .inr _ => nJ R.2.1
/-- the class's street -/
noncomputable def C0 (n : Nat) (σ : Sg) (h : pm_H) : Prop := gi h 15 0 = nJ σ.1.1 ∧ gi h 15 1 = nJ σ.1.2.1 ∧ gi h 15 2 = nJ σ.1.2.2 ∧ gi h 15 3 = nJ n ∧ gi h 15 4 = nJ σ.2.1.1 ∧ gi h 15 5 = nJ σ.2.2.1 ∧ gi h 15 6 = nJ 0 ∧ (∀ i, i < 8 → i < σ.2.1.1 → gi h 16 i = nJ (σ.2.1.2.1 i) ∧ gi h 17 i = nJ (σ.2.1.2.1 i) ∧ gi h 18 i = nJ (σ.2.1.2.2 i)) ∧ (∀ i, i < 8 → i < σ.2.2.1 → gi h 19 i = nJ (σ.2.2.2.1 i) ∧ gi h 20 i = nJ (σ.2.2.2.2 i))
/-- the reference's street -/
noncomputable def R0 (n : Nat) (σ : Sg) (h : pm_H) : Prop := gi h 83 0 = nJ n ∧ gi h 84 0 = nJ σ.1.1 ∧ gi h 84 1 = nJ σ.1.2.1 ∧ gi h 84 2 = nJ σ.1.2.2 ∧ gi h 84 3 = nJ σ.2.1.1 ∧ gi h 84 4 = nJ σ.2.2.1 ∧ gi h 84 5 = nJ 0 ∧ (∀ i, i < 8 → i < σ.2.1.1 → gi h 85 (2 * i) = nJ (σ.2.1.2.1 i) ∧ gi h 85 (2 * i + 1) = nJ (σ.2.1.2.2 i)) ∧ (∀ i, i < 8 → i < σ.2.2.1 → gi h 86 (2 * i) = nJ (σ.2.2.2.1 i) ∧ gi h 86 (2 * i + 1) = nJ (σ.2.2.2.2 i))
noncomputable def CP9 (b a : Nat) (h h' : pm_H) : Prop := gi h' 83 b = gi h 83 a ∧ (∀ k, k < 6 → gi h' 84 (6 * b + k) = gi h 84 (6 * a + k)) ∧ (∀ i, i < 16 → gi h' 85 (16 * b + i) = gi h 85 (16 * a + i)) ∧ (∀ i, i < 16 → gi h' 86 (16 * b + i) = gi h 86 (16 * a + i)) ∧ ∀ i, i < 60 → gi h' 87 (60 * b + i) = gi h 87 (60 * a + i)
noncomputable def KE9 (r : Nat) (h h' : pm_H) : Prop := gi h' 83 r = gi h 83 r ∧ (∀ k, k < 6 → gi h' 84 (6 * r + k) = gi h 84 (6 * r + k)) ∧ (∀ i, i < 16 → gi h' 85 (16 * r + i) = gi h 85 (16 * r + i)) ∧ (∀ i, i < 16 → gi h' 86 (16 * r + i) = gi h 86 (16 * r + i)) ∧ ∀ i, i < 60 → gi h' 87 (60 * r + i) = gi h 87 (60 * r + i)
noncomputable def S8F : List Rng := (1, 1, 1) :: RtF
noncomputable def S8Q (R : Px × Nat × Sg) (h0 h' : pm_H) (r : Option Value) : Prop := r = some (.int (stv R)) ∧ HH h' ∧ gi h' 1 1 = nJ 0 ∧ gi h' 3 1 = nJ (pxk R.1) ∧ gi h' 3 2 = pxp R.1 ∧ (isR R.1 = true → C0 R.2.1 R.2.2 h') ∧ (isR R.1 = false → fr_g S8F h0 h')
noncomputable def S9Q (R : Px × Nat × Sg) (h0 h' : pm_H) (r : Option Value) : Prop := r = some (.int (stv R)) ∧ HH h' ∧ gi h' 77 6 = nJ 0 ∧ gi h' 77 14 = nJ (pxk R.1) ∧ gi h' 77 15 = pxp R.1 ∧ (isR R.1 = true → R0 R.2.1 R.2.2 h') ∧ (isR R.1 = false → fr_g STM h0 h') ∧ ∀ r, r ≤ 3 → 1 ≤ r → KE9 r h0 h'
theorem KE9_st {h0 h : pm_H} (F : fr_g STM h0 h) : ∀ r, r ≤ 3 → KE9 r h0 h := fun r hr => ⟨fr_gi F (rg_dis_in (l := 0) (u := 3) rfl (Nat.zero_le _) hr), fun k hk => fr_gi F (rg_dis_in (l := 0) (u := 23) rfl (Nat.zero_le _) (by first | decide | with_reducible assumption | omega)), fun k hk => fr_gi F (rg_dis_in (l := 0) (u := 63) rfl (Nat.zero_le _) (by first | decide | with_reducible assumption | omega)), fun k hk => fr_gi F (rg_dis_in (l := 0) (u := 63) rfl (Nat.zero_le _) (by first | decide | with_reducible assumption | omega)), fun k hk => fr_gi F (rg_no rfl _)⟩
section STS
variable {T : Nat → Int32} {L d : Nat} {h : pm_H}
theorem sp_street8 (A : TA T L h) : Sp (d + 10) 185 h [.ref 0] (S8Q (PRS T L) h) := by
  have hh : HH h := A.1
  refine Sp_of aiX8_street rfl rfl rfl ?_
  have L0 : pm_get (lv_args 0 [.ref 0]) 0 = some (.ref 0) := rfl
  generalize lv_args 0 [.ref 0] = lv at L0 ⊢
  refine E_al rfl L0 ?_
  refine E_ogr (q := 3) rfl hh rfl rfl ?_
  refine E_call rfl (sp_readTape (d := d) A) (chkO (a := 3) hh rfl rfl rfl rfl (by show 0 ≤ 8; decide)) (fun h1 r1 => ?_)
  rintro ⟨e1, f1, C1, D1⟩
  rw [e1]
  generalize PRS T L = R at C1 D1 ⊢
  have hh1 : HH h1 := (CS_TA C1).1
  refine E_al rfl L0 ?_
  refine E_ogr (q := 1) rfl hh1 rfl rfl ?_
  refine E_ci 0 rfl ci0 ?_
  refine E_opf (q := (0, 500)) rfl hh1 rfl rfl ?_
  have hh2 : HH (pt h1 1 1 (nJ 0)) := HH_ptn hh1 rfl (by first | decide | with_reducible assumption | omega) (by first | decide | with_reducible assumption | omega) (by first | decide | with_reducible assumption | omega)
  have g2 : gi (pt h1 1 1 (nJ 0)) 1 1 = nJ 0 := gi_ptn hh1 rfl (by first | decide | with_reducible assumption | omega) (by first | decide | with_reducible assumption | omega) (by first | decide | with_reducible assumption | omega)
  have o2 : ∀ a k, 3 ≤ a → gi (pt h1 1 1 (nJ 0)) a k = gi h1 a k := fun a k ha => gi_ne (by first | exact gxx rfl | omega)
  have F2 : fr_g S8F h (pt h1 1 1 (nJ 0)) := fr_ptr (l := 1) (u := 1) rfl (by first | decide | with_reducible assumption | omega) (by first | decide | with_reducible assumption | omega) (fr_wk rfl f1)
  generalize pt h1 1 1 (nJ 0) = h2 at hh2 g2 o2 F2 ⊢
  refine E_al rfl L0 ?_
  refine E_ogr (q := 3) rfl hh2 rfl rfl ?_
  obtain ⟨x, n, σ⟩ := R
  match x, C1, D1 with
  | .inl (k, p), C1, D1 =>
    refine E_ogf (q := (0, 3)) (v := nJ k) rfl hh2 rfl rfl (by rw [o2 _ _ (by first | decide | with_reducible assumption | omega)]; exact C1.2.1) ?_
    have k1 := C1.2.2.2.1
    have k3 := C1.2.2.2.2.1
    refine E_ifF rfl (decide_eq_false (fun z => absurd ((nJ_eq0 (by first | decide | with_reducible assumption | omega)).mp z) (by first | decide | with_reducible assumption | omega))) ?_
    refine E_c rfl ?_
    exact E_rti rfl ⟨rfl, hh2, g2, by rw [o2 _ _ (by first | decide | with_reducible assumption | omega)]; exact C1.2.1, by rw [o2 _ _ (by first | decide | with_reducible assumption | omega)]; exact C1.2.2.1, (fun q => by cases q), fun _ => F2⟩
  | .inr s, C1, D1 =>
    obtain ⟨q0, q1, q2, q3, q4, q5, q6, qc, qj, -⟩ := D1 rfl
    refine E_ogf (q := (0, 3)) (v := nJ 0) rfl hh2 rfl rfl (by rw [o2 _ _ (by first | decide | with_reducible assumption | omega)]; exact C1.2.2.1) ?_
    refine E_ifT rfl (by decide) ?_
    refine E_al rfl L0 ?_
    refine E_ogr (q := 15) rfl hh2 rfl rfl ?_
    refine E_al rfl L0 ?_
    refine E_ogr (q := 3) rfl hh2 rfl rfl ?_
    refine E_ogr (q := 4) rfl hh2 rfl rfl ?_
    refine E_call rfl (Sp_le (by first | exact Nat.add_le_add_left (Nat.le_of_ble_eq_true rfl) _ | exact Nat.le_of_ble_eq_true rfl | omega) (sp_take_15_4 (d := d) hh2)) (chkO (a := 15) hh2 rfl rfl rfl rfl (by show 0 ≤ 8; decide)) (fun h3 r3 => ?_)
    rintro ⟨e3, hh3, f3, t0, t1, t2⟩
    rw [e3]
    have z : ∀ k, k < 7 → gi h3 15 k = gi h1 4 k := fun k hk => by rw [t0 k hk, o2 _ _ (by first | decide | with_reducible assumption | omega)]
    refine E_al rfl L0 ?_
    refine E_ogr (q := 15) rfl hh3 rfl rfl ?_
    refine E_ogf (v := nJ n) rfl hh3 rfl rfl (by rw [z 3 (by first | decide | with_reducible assumption | omega)]; exact q3) ?_
    refine E_rti rfl ⟨rfl, hh3, by rw [fr_gi f3 rfl]; exact g2, by rw [fr_gi f3 rfl, o2 _ _ (by first | decide | with_reducible assumption | omega)]; exact C1.2.2.1, by rw [fr_gi f3 rfl, o2 _ _ (by first | decide | with_reducible assumption | omega)]; exact C1.2.2.2.1, fun _ => ?_, fun q => by cases q⟩
    refine ⟨by rw [z 0 (by first | decide | with_reducible assumption | omega)]; exact q0, by rw [z 1 (by first | decide | with_reducible assumption | omega)]; exact q1, by rw [z 2 (by first | decide | with_reducible assumption | omega)]; exact q2, by rw [z 3 (by first | decide | with_reducible assumption | omega)]; exact q3, by rw [z 4 (by first | decide | with_reducible assumption | omega)]; exact q4, by rw [z 5 (by first | decide | with_reducible assumption | omega)]; exact q5, by rw [z 6 (by first | decide | with_reducible assumption | omega)]; exact q6, fun i i8 hi => ?_, fun i i8 hi => ?_⟩
    · obtain ⟨a1, a2, a3, a4, a5⟩ := t1 i i8
      have q := qc i hi
      rw [a1, a2, a3, o2 _ _ (by first | decide | with_reducible assumption | omega), o2 _ _ (by first | decide | with_reducible assumption | omega), o2 _ _ (by first | decide | with_reducible assumption | omega)]
      exact q
    · obtain ⟨a1, a2, a3, a4, a5⟩ := t1 i i8
      have q := qj i hi
      rw [a4, a5, o2 _ _ (by first | decide | with_reducible assumption | omega), o2 _ _ (by first | decide | with_reducible assumption | omega)]
      exact q
theorem sp_cpY {a b : Nat} (hh0 : HH h) (ha : a ≤ 4) (hb : b ≤ 4) (hab : a ≠ b) : Sp (d + 2) 232 h [.ref 77, .int (nJ a), .int (nJ b)] (fun h' r => r = none ∧ HH h' ∧ fr_g VC h h' ∧ CP9 b a h h' ∧ ∀ r, r ≤ 4 → r ≠ b → KE9 r h h') := by
  refine Sp_of aiX9_copyStreet rfl rfl rfl ?_
  have L0 : pm_get (lv_args 0 [.ref 77, .int (nJ a), .int (nJ b)]) 0 = some (.ref 77) := rfl
  have L1 : pm_get (lv_args 0 [.ref 77, .int (nJ a), .int (nJ b)]) 1 = some (.int (nJ a)) := rfl
  have L2 : pm_get (lv_args 0 [.ref 77, .int (nJ a), .int (nJ b)]) 2 = some (.int (nJ b)) := rfl
  generalize lv_args 0 [.ref 77, .int (nJ a), .int (nJ b)] = lv at L0 L1 L2 ⊢
  refine E_al rfl L0 ?_
  refine E_gr rfl hh0 (q := 83) rfl ?_
  refine E_ci 1 rfl ci1 ?_
  refine E_il rfl L1 ?_
  refine E_il rfl L2 ?_
  refine E_call rfl (Sp_le (by first | exact Nat.add_le_add_left (Nat.le_of_ble_eq_true rfl) _ | exact Nat.le_of_ble_eq_true rfl | omega) (sp_copyRow83 (d := d) hh0 ha hb hab)) (chkS rfl (by show 0 ≤ 8; decide)) (fun h1 r1 => ?_)
  rintro ⟨e1, hh1, f1, c1, o1⟩
  rw [e1]
  refine E_al rfl L0 ?_
  refine E_gr rfl hh1 (q := 84) rfl ?_
  refine E_ci 6 rfl ci6 ?_
  refine E_il rfl L1 ?_
  refine E_il rfl L2 ?_
  refine E_call rfl (Sp_le (by first | exact Nat.add_le_add_left (Nat.le_of_ble_eq_true rfl) _ | exact Nat.le_of_ble_eq_true rfl | omega) (sp_copyRow84 (d := d) hh1 ha hb hab)) (chkS rfl (by show 0 ≤ 8; decide)) (fun h2 r2 => ?_)
  rintro ⟨e2, hh2, f2, c2, o2⟩
  rw [e2]
  refine E_al rfl L0 ?_
  refine E_gr rfl hh2 (q := 85) rfl ?_
  refine E_ci 16 rfl ci16 ?_
  refine E_il rfl L1 ?_
  refine E_il rfl L2 ?_
  refine E_call rfl (Sp_le (by first | exact Nat.add_le_add_left (Nat.le_of_ble_eq_true rfl) _ | exact Nat.le_of_ble_eq_true rfl | omega) (sp_copyRow85 (d := d) hh2 ha hb hab)) (chkS rfl (by show 0 ≤ 8; decide)) (fun h3 r3 => ?_)
  rintro ⟨e3, hh3, f3, c3, o3⟩
  rw [e3]
  refine E_al rfl L0 ?_
  refine E_gr rfl hh3 (q := 86) rfl ?_
  refine E_ci 16 rfl ci16 ?_
  refine E_il rfl L1 ?_
  refine E_il rfl L2 ?_
  refine E_call rfl (Sp_le (by first | exact Nat.add_le_add_left (Nat.le_of_ble_eq_true rfl) _ | exact Nat.le_of_ble_eq_true rfl | omega) (sp_copyRow86 (d := d) hh3 ha hb hab)) (chkS rfl (by show 0 ≤ 8; decide)) (fun h4 r4 => ?_)
  rintro ⟨e4, hh4, f4, c4, o4⟩
  rw [e4]
  refine E_al rfl L0 ?_
  refine E_gr rfl hh4 (q := 87) rfl ?_
  refine E_ci 60 rfl ci60 ?_
  refine E_il rfl L1 ?_
  refine E_il rfl L2 ?_
  refine E_call rfl (Sp_le (by first | exact Nat.add_le_add_left (Nat.le_of_ble_eq_true rfl) _ | exact Nat.le_of_ble_eq_true rfl | omega) (sp_copyRow87 (d := d) hh4 ha hb hab)) (chkS rfl (by show 0 ≤ 8; decide)) (fun h5 r5 => ?_)
  rintro ⟨e5, hh5, f5, c5, o5⟩
  rw [e5]
  have g3 : ∀ k, gi h5 83 k = gi h1 83 k := fun k => by rw [fr_gi f5 (rg_no rfl _), fr_gi f4 (rg_no rfl _), fr_gi f3 (rg_no rfl _), fr_gi f2 (rg_no rfl _)]
  have g4 : ∀ k, gi h5 84 k = gi h2 84 k := fun k => by rw [fr_gi f5 (rg_no rfl _), fr_gi f4 (rg_no rfl _), fr_gi f3 (rg_no rfl _)]
  have g4b : ∀ k, gi h1 84 k = gi h 84 k := fun k => fr_gi f1 (rg_no rfl _)
  have g5 : ∀ k, gi h5 85 k = gi h3 85 k := fun k => by rw [fr_gi f5 (rg_no rfl _), fr_gi f4 (rg_no rfl _)]
  have g5b : ∀ k, gi h2 85 k = gi h 85 k := fun k => by rw [fr_gi f2 (rg_no rfl _), fr_gi f1 (rg_no rfl _)]
  refine E_ret rfl ⟨rfl, hh5, fr_trans (fr_wk rfl f1) (fr_trans (fr_wk rfl f2) (fr_trans (fr_wk rfl f3) (fr_trans (fr_wk rfl f4) (fr_wk rfl f5)))), ⟨?_, fun k hk => ?_, fun k hk => ?_, fun k hk => ?_, fun k hk => ?_⟩, fun r hr hne => ⟨?_, fun k hk => ?_, fun k hk => ?_, fun k hk => ?_, fun k hk => ?_⟩⟩
  · have := c1 0 (by first | decide | with_reducible assumption | omega)
    rw [show 1 * b + 0 = b by omega, show 1 * a + 0 = a by omega] at this
    rw [g3]; exact this
  · rw [g4, c2 k hk, g4b]
  · rw [g5, c3 k hk, g5b]
  · rw [fr_gi f5 (rg_no rfl _), c4 k hk, fr_gi f3 (rg_no rfl _), fr_gi f2 (rg_no rfl _), fr_gi f1 (rg_no rfl _)]
  · rw [c5 k hk, fr_gi f4 (rg_no rfl _), fr_gi f3 (rg_no rfl _), fr_gi f2 (rg_no rfl _), fr_gi f1 (rg_no rfl _)]
  · rw [g3]; exact o1 r (by first | decide | with_reducible assumption | omega)
  · rw [g4, o2 _ (by first | decide | with_reducible assumption | omega), g4b]
  · rw [g5, o3 _ (by first | decide | with_reducible assumption | omega), g5b]
  · rw [fr_gi f5 (rg_no rfl _), o4 _ (by first | decide | with_reducible assumption | omega), fr_gi f3 (rg_no rfl _), fr_gi f2 (rg_no rfl _), fr_gi f1 (rg_no rfl _)]
  · rw [o5 _ (by first | decide | with_reducible assumption | omega), fr_gi f4 (rg_no rfl _), fr_gi f3 (rg_no rfl _), fr_gi f2 (rg_no rfl _), fr_gi f1 (rg_no rfl _)]
theorem s9_end {h0 : pm_H} {x : Px} {n : Nat} {σ : Sg} (lv : List (Nat × Value)) (R : RSt T L x h) (D : isR x = true → RDr σ h ∧ gi h 83 4 = nJ n) (F : fr_g STM h0 h) (L0 : pm_get lv 0 = some (.ref 77)) : Ends (pm_at tX9_street) (pm_Rt pm_P (d + 10)) (118, lv, [], h, 0, 0) (S9Q (x, n, σ) h0) := by
  have hh : HH h := (RSt_TB R).1
  refine E_al rfl L0 ?_
  refine E_call rfl (Sp_le (by first | exact Nat.add_le_add_left (Nat.le_of_ble_eq_true rfl) _ | exact Nat.le_of_ble_eq_true rfl | omega) (sp_ov (d := d) R)) (chk77 hh rfl rfl (by show 0 ≤ 8; decide)) (fun h1 r1 => ?_)
  rintro ⟨e1, hh1, f1, g6, g14, g15⟩
  rw [e1]
  have F1 : fr_g STM h0 h1 := fr_trans F (fr_wk rfl f1)
  refine E_al rfl L0 ?_
  match x, R, D, g14, g15 with
  | .inl (k, p), R, D, g14, g15 =>
    refine E_gf (q := (0, 3)) (v := nJ k) rfl hh1 rfl (by rw [fr_gi f1 rfl]; exact R.2.1) ?_
    have k1 := R.2.2.2.1
    have k3 := R.2.2.2.2.1
    refine E_ifF rfl (decide_eq_false (fun z => absurd ((nJ_eq0 (by first | decide | with_reducible assumption | omega)).mp z) (by first | decide | with_reducible assumption | omega))) ?_
    refine E_c rfl ?_
    exact E_rti rfl ⟨rfl, hh1, g6, g14, g15, (fun q => by cases q), fun _ => F1, fun r hr _ => KE9_st F1 r hr⟩
  | .inr s, R, D, g14, g15 =>
    obtain ⟨D, gn4⟩ := D rfl
    refine E_gf (q := (0, 3)) (v := nJ 0) rfl hh1 rfl (by rw [fr_gi f1 rfl]; exact R.2.2.1) ?_
    refine E_ifT rfl (by decide) ?_
    refine E_al rfl L0 ?_
    refine E_ci 4 rfl ci4 ?_
    refine E_ci 0 rfl ci0 ?_
    refine E_call rfl (Sp_le (by first | exact Nat.add_le_add_left (Nat.le_of_ble_eq_true rfl) _ | exact Nat.le_of_ble_eq_true rfl | omega) (sp_cpY (d := d) (a := 4) (b := 0) hh1 (by first | decide | with_reducible assumption | omega) (by first | decide | with_reducible assumption | omega) (by first | decide | with_reducible assumption | omega))) (chk77 hh1 rfl rfl (by show 0 ≤ 8; decide)) (fun h2 r2 => ?_)
    rintro ⟨e2, hh2, f2, ⟨c3, c4, c5, c6, c7⟩, ke⟩
    rw [e2]
    have gl0 : gi h2 83 0 = nJ n := by rw [c3, fr_gi f1 (rg_no rfl _)]; exact gn4
    refine E_al rfl L0 ?_
    refine E_gr rfl hh2 (q := 83) rfl ?_
    refine E_ci 0 rfl ci0 ?_
    refine E_ial rfl hh2 rfl (by first | decide | with_reducible assumption | omega) (by decide) gl0 ?_
    obtain ⟨q0, q1, q2, q3, q4, q5, qc, qj⟩ := D
    have z4 : ∀ k, k < 6 → gi h2 84 k = gi h 84 (24 + k) := fun k hk => by
      have := c4 k hk
      rw [show 6 * 0 + k = k by omega, show 6 * 4 + k = 24 + k by omega, fr_gi f1 (rg_no rfl _)] at this
      exact this
    have z5 : ∀ k, k < 16 → gi h2 85 k = gi h 85 (64 + k) := fun k hk => by
      have := c5 k hk
      rw [show 16 * 0 + k = k by omega, show 16 * 4 + k = 64 + k by omega, fr_gi f1 (rg_no rfl _)] at this
      exact this
    have z6 : ∀ k, k < 16 → gi h2 86 k = gi h 86 (64 + k) := fun k hk => by
      have := c6 k hk
      rw [show 16 * 0 + k = k by omega, show 16 * 4 + k = 64 + k by omega, fr_gi f1 (rg_no rfl _)] at this
      exact this
    refine E_rti rfl ⟨rfl, hh2, by rw [fr_gi f2 (rg_no rfl _)]; exact g6, by rw [fr_gi f2 (rg_no rfl _)]; exact g14, by rw [fr_gi f2 (rg_no rfl _)]; exact g15, fun _ => ?_, (fun q => by cases q), fun r hr h1r => ?_⟩
    rotate_left
    · have k1 := KE9_st F1 r hr
      have k2 := ke r (by first | decide | with_reducible assumption | omega) (by first | decide | with_reducible assumption | omega)
      exact ⟨by rw [k2.1, k1.1], fun k hk => by rw [k2.2.1 k hk, k1.2.1 k hk], fun k hk => by rw [k2.2.2.1 k hk, k1.2.2.1 k hk], fun k hk => by rw [k2.2.2.2.1 k hk, k1.2.2.2.1 k hk], fun k hk => by rw [k2.2.2.2.2 k hk, k1.2.2.2.2 k hk]⟩
    refine ⟨gl0, by rw [z4 0 (by first | decide | with_reducible assumption | omega)]; exact q0, by rw [z4 1 (by first | decide | with_reducible assumption | omega)]; exact q1, by rw [z4 2 (by first | decide | with_reducible assumption | omega)]; exact q2, by rw [z4 3 (by first | decide | with_reducible assumption | omega)]; exact q3, by rw [z4 4 (by first | decide | with_reducible assumption | omega)]; exact q4, by rw [z4 5 (by first | decide | with_reducible assumption | omega)]; exact q5, fun i i8 hi => ?_, fun i i8 hi => ?_⟩
    · have q := qc i hi
      rw [z5 _ (by first | decide | with_reducible assumption | omega), z5 _ (by first | decide | with_reducible assumption | omega), show 64 + (2 * i + 1) = 64 + 2 * i + 1 by omega]
      exact q
    · have q := qj i hi
      rw [z6 _ (by first | decide | with_reducible assumption | omega), z6 _ (by first | decide | with_reducible assumption | omega), show 64 + (2 * i + 1) = 64 + 2 * i + 1 by omega]
      exact q
theorem s9_bad {h0 : pm_H} {e : Nat × Nat} {n : Nat} {σ : Sg} (lv : List (Nat × Value)) (R : RSt T L (.inl e) h) (F : fr_g STM h0 h) (L0 : pm_get lv 0 = some (.ref 77)) : Ends (pm_at tX9_street) (pm_Rt pm_P (d + 10)) (13, lv, [], h, 0, 0) (S9Q (.inl e, n, σ) h0) := by
  have hh : HH h := (RSt_TB R).1
  refine E_al rfl L0 ?_
  refine E_call rfl (Sp_le (by first | exact Nat.add_le_add_left (Nat.le_of_ble_eq_true rfl) _ | exact Nat.le_of_ble_eq_true rfl | omega) (sp_gd (d := d) R)) (chk77 hh rfl rfl (by show 0 ≤ 8; decide)) (fun h1 r1 => ?_)
  rintro ⟨e1, f1⟩
  rw [e1, f1, isR_l]
  refine E_ifT rfl (by decide) ?_
  exact s9_end lv R (fun q => by cases q) F L0
/-- the head line -/
theorem s9_head {h0 : pm_H} {s : Nat} {σ : Sg} {Q : pm_H → Option Value → Prop} (lv : List (Nat × Value)) (R : RSt T L (.inr s) h) (D : RDr σ h) (c0 : σ.2.1.1 = 0) (j0 : σ.2.2.1 = 0) (g4 : gi h 83 4 = nJ 0) (F : fr_g STM h0 h) (L0 : pm_get lv 0 = some (.ref 77)) (K : ∀ g, HH g → RSt T L (lnH T L (.inr s)).1 g → RDr ((lnH T L (.inr s)).2, σ.2.1, σ.2.2) g → gi g 83 4 = nJ 0 → fr_g STM h0 g → Ends (pm_at tX9_street) (pm_Rt pm_P (d + 10)) (94, lv, [], g, 0, 0) Q) : Ends (pm_at tX9_street) (pm_Rt pm_P (d + 10)) (36, lv, [], h, 0, 0) Q := by
  have hh : HH h := R.1.1
  obtain ⟨q0, q1, q2, q3, q4, q5, qc, qj⟩ := D
  unfold lnH at K
  dsimp only at K
  refine E_al rfl L0 ?_
  refine E_c rfl ?_
  refine E_call rfl (Sp_le (by first | exact Nat.add_le_add_left (Nat.le_of_ble_eq_true rfl) _ | exact Nat.le_of_ble_eq_true rfl | omega) (sp_aW9 (d := d) (k := 0) R (by decide))) (chk77 hh rfl rfl (by show 0 ≤ 8; decide)) (fun h1 r1 => ?_)
  rintro ⟨e1, f1, R1⟩
  rw [e1]
  have hh1 : HH h1 := (RSt_TB R1).1
  refine E_al rfl L0 ?_
  refine E_ci 0 rfl ci0 ?_
  refine E_al rfl L0 ?_
  refine E_c rfl ?_
  refine E_ci 1 rfl ci1 ?_
  refine E_ci 8 rfl ci8 ?_
  refine E_call rfl (Sp_le (by first | exact Nat.add_le_add_left (Nat.le_of_ble_eq_true rfl) _ | exact Nat.le_of_ble_eq_true rfl | omega) (sp_nW9 (d := d) (k := 1) (lo := 1) (hi := 8) R1 (by decide) (by first | decide | with_reducible assumption | omega) (by first | decide | with_reducible assumption | omega))) (chk77 hh1 rfl rfl (by show 2 ≤ 8; decide)) (fun h2 r2 => ?_)
  rintro ⟨e2, f2, R2, u2, w2⟩
  rw [e2]
  have hh2 : HH h2 := (RSt_TB R2).1
  generalize bV T L 1 8 (bW T L (wd 1) (bW T L (wd 0) (.inr s))) = V1 at u2 w2 K ⊢
  generalize bN T L 1 8 (bW T L (wd 1) (bW T L (wd 0) (.inr s))) = x3 at R2 K
  refine E_call rfl (Sp_le (by first | exact Nat.add_le_add_left (Nat.le_of_ble_eq_true rfl) _ | exact Nat.le_of_ble_eq_true rfl | omega) (sp_tells (d := d) (k := 0) hh2 (by decide))) (chk77 hh2 rfl rfl (by show 0 ≤ 8; decide)) (fun h3 r3 => ?_)
  rintro ⟨e3, f3⟩
  rw [e3, f3]
  have hh3 : HH (pt h2 84 (24 + 0) (nJ V1)) := HH_ptn hh2 rfl (by first | decide | with_reducible assumption | omega) (by first | decide | with_reducible assumption | omega) (by first | decide | with_reducible assumption | omega)
  have R3 := RSt_pt (by first | decide | with_reducible assumption | omega) hh3 R2
  have a3 : gi (pt h2 84 (24 + 0) (nJ V1)) 84 24 = nJ V1 := gi_ptn hh2 rfl (by first | decide | with_reducible assumption | omega) (by first | decide | with_reducible assumption | omega) (by first | decide | with_reducible assumption | omega)
  have o3 : ∀ a k, 83 ≤ a → (a = 84 → k ≠ 24) → gi (pt h2 84 (24 + 0) (nJ V1)) a k = gi h a k := fun a k ha hk => by
    rw [gi_ne (fun z => by have := hk z; omega), fr_gi f2 (rg_no (by have : Nat.beq 77 a = false := nbeqF (by first | decide | with_reducible assumption | omega); simp [BB, this]) _), fr_gi f1 (rg_no (by have : Nat.beq 77 a = false := nbeqF (by first | decide | with_reducible assumption | omega); simp [BB, this]) _)]
  have F3 : fr_g STM h0 (pt h2 84 (24 + 0) (nJ V1)) := fr_ptr (l := 24) (u := 29) rfl (by first | decide | with_reducible assumption | omega) (by first | decide | with_reducible assumption | omega) (fr_trans F (fr_trans (fr_wk rfl f1) (fr_wk rfl f2)))
  generalize pt h2 84 (24 + 0) (nJ V1) = g3 at hh3 R3 a3 o3 F3 ⊢
  refine E_al rfl L0 ?_
  refine E_ci 1 rfl ci1 ?_
  refine E_al rfl L0 ?_
  refine E_c rfl ?_
  refine E_ci 0 rfl ci0 ?_
  refine E_ci 3 rfl ci3 ?_
  refine E_call rfl (Sp_le (by first | exact Nat.add_le_add_left (Nat.le_of_ble_eq_true rfl) _ | exact Nat.le_of_ble_eq_true rfl | omega) (sp_nW9 (d := d) (k := 2) (lo := 0) (hi := 3) R3 (by decide) (by first | decide | with_reducible assumption | omega) (by first | decide | with_reducible assumption | omega))) (chk77 hh3 rfl rfl (by show 2 ≤ 8; decide)) (fun h4 r4 => ?_)
  rintro ⟨e4, f4, R4, u4, w4⟩
  rw [e4]
  have hh4 : HH h4 := (RSt_TB R4).1
  generalize bV T L 0 3 (bW T L (wd 2) x3) = V2 at u4 w4 K ⊢
  generalize bN T L 0 3 (bW T L (wd 2) x3) = x5 at R4 K
  refine E_call rfl (Sp_le (by first | exact Nat.add_le_add_left (Nat.le_of_ble_eq_true rfl) _ | exact Nat.le_of_ble_eq_true rfl | omega) (sp_tells (d := d) (k := 1) hh4 (by decide))) (chk77 hh4 rfl rfl (by show 0 ≤ 8; decide)) (fun h5 r5 => ?_)
  rintro ⟨e5, f5⟩
  rw [e5, f5]
  have hh5 : HH (pt h4 84 (24 + 1) (nJ V2)) := HH_ptn hh4 rfl (by first | decide | with_reducible assumption | omega) (by first | decide | with_reducible assumption | omega) (by first | decide | with_reducible assumption | omega)
  have R5 := RSt_pt (by first | decide | with_reducible assumption | omega) hh5 R4
  have a5 : gi (pt h4 84 (24 + 1) (nJ V2)) 84 24 = nJ V1 := by rw [gi_ne (by first | exact gxx rfl | omega), fr_gi f4 (rg_no rfl _)]; exact a3
  have b5 : gi (pt h4 84 (24 + 1) (nJ V2)) 84 25 = nJ V2 := gi_ptn hh4 rfl (by first | decide | with_reducible assumption | omega) (by first | decide | with_reducible assumption | omega) (by first | decide | with_reducible assumption | omega)
  have o5 : ∀ a k, 83 ≤ a → (a = 84 → 26 ≤ k) → gi (pt h4 84 (24 + 1) (nJ V2)) a k = gi h a k := fun a k ha hk => by
    rw [gi_ne (fun z => by have := hk z; omega), fr_gi f4 (rg_no (by have : Nat.beq 77 a = false := nbeqF (by first | decide | with_reducible assumption | omega); simp [BB, this]) _)]
    exact o3 a k ha (fun z => by have := hk z; omega)
  have F5 : fr_g STM h0 (pt h4 84 (24 + 1) (nJ V2)) := fr_ptr (l := 24) (u := 29) rfl (by first | decide | with_reducible assumption | omega) (by first | decide | with_reducible assumption | omega) (fr_trans F3 (fr_wk rfl f4))
  generalize pt h4 84 (24 + 1) (nJ V2) = g5 at hh5 R5 a5 b5 o5 F5 ⊢
  refine E_al rfl L0 ?_
  refine E_ci 2 rfl ci2 ?_
  refine E_al rfl L0 ?_
  refine E_c rfl ?_
  refine E_ci 0 rfl ci0 ?_
  refine E_ci 10 rfl ci10 ?_
  refine E_call rfl (Sp_le (by first | exact Nat.add_le_add_left (Nat.le_of_ble_eq_true rfl) _ | exact Nat.le_of_ble_eq_true rfl | omega) (sp_nW9 (d := d) (k := 3) (lo := 0) (hi := 10) R5 (by decide) (by first | decide | with_reducible assumption | omega) (by first | decide | with_reducible assumption | omega))) (chk77 hh5 rfl rfl (by show 2 ≤ 8; decide)) (fun h6 r6 => ?_)
  rintro ⟨e6, f6, R6, u6, w6⟩
  rw [e6]
  have hh6 : HH h6 := (RSt_TB R6).1
  generalize bV T L 0 10 (bW T L (wd 3) x5) = V3 at u6 w6 K ⊢
  generalize bN T L 0 10 (bW T L (wd 3) x5) = x7 at R6 K
  refine E_call rfl (Sp_le (by first | exact Nat.add_le_add_left (Nat.le_of_ble_eq_true rfl) _ | exact Nat.le_of_ble_eq_true rfl | omega) (sp_tells (d := d) (k := 2) hh6 (by decide))) (chk77 hh6 rfl rfl (by show 0 ≤ 8; decide)) (fun h7 r7 => ?_)
  rintro ⟨e7, f7⟩
  rw [e7, f7]
  have hh7 : HH (pt h6 84 (24 + 2) (nJ V3)) := HH_ptn hh6 rfl (by first | decide | with_reducible assumption | omega) (by first | decide | with_reducible assumption | omega) (by first | decide | with_reducible assumption | omega)
  have R7 := RSt_pt (by first | decide | with_reducible assumption | omega) hh7 R6
  have o7 : ∀ a k, 83 ≤ a → (a = 84 → 27 ≤ k) → gi (pt h6 84 (24 + 2) (nJ V3)) a k = gi h a k := fun a k ha hk => by
    rw [gi_ne (fun z => by have := hk z; omega), fr_gi f6 (rg_no (by have : Nat.beq 77 a = false := nbeqF (by first | decide | with_reducible assumption | omega); simp [BB, this]) _)]
    exact o5 a k ha (fun z => by have := hk z; omega)
  refine E_goto rfl ?_
  refine K _ hh7 R7 ⟨?_, ?_, ?_, ?_, ?_, ?_, fun i hi => ?_, fun i hi => ?_⟩ ?_ (fr_ptr (l := 24) (u := 29) rfl (by first | decide | with_reducible assumption | omega) (by first | decide | with_reducible assumption | omega) (fr_trans F5 (fr_wk rfl f6)))
  · rw [gi_ne (by first | exact gxx rfl | omega), fr_gi f6 (rg_no rfl _)]; exact a5
  · rw [gi_ne (by first | exact gxx rfl | omega), fr_gi f6 (rg_no rfl _)]; exact b5
  · exact gi_ptn hh6 rfl (by first | decide | with_reducible assumption | omega) (by first | decide | with_reducible assumption | omega) (by first | decide | with_reducible assumption | omega)
  · rw [o7 _ _ (by first | decide | with_reducible assumption | omega) (by first | decide | with_reducible assumption | omega)]; exact q3
  · rw [o7 _ _ (by first | decide | with_reducible assumption | omega) (by first | decide | with_reducible assumption | omega)]; exact q4
  · rw [o7 _ _ (by first | decide | with_reducible assumption | omega) (by first | decide | with_reducible assumption | omega)]; exact q5
  · have hi : i < σ.2.1.1 := hi
    omega
  · have hi : i < σ.2.2.1 := hi
    omega
  · rw [o7 _ _ (by first | decide | with_reducible assumption | omega) (by first | decide | with_reducible assumption | omega)]; exact g4
theorem s9_loop {h0 : pm_H} (f : Nat) : ∀ {h : pm_H} {n s : Nat} {σ : Sg} (lv : List (Nat × Value)), RSt T L (.inr s) h → RDr σ h → Ws n σ → gi h 83 4 = nJ n → n ≤ s → fr_g STM h0 h → L < s + f → pm_get lv 0 = some (.ref 77) → Ends (pm_at tX9_street) (pm_Rt pm_P (d + 10)) (13, lv, [], h, 0, 0) (S9Q (prs T L f n σ s) h0) := by
  induction f with
  | zero =>
    intro h n s σ lv R _ _ _ _ _ hL
    have := R.2.2.2
    omega
  | succ f ih =>
    intro h n s σ lv R D W g4 ns F hL L0
    have hh : HH h := R.1.1
    have h5 := R.1.2.2.1
    have hs := R.2.2.2
    have t8 := R.2.1.2.2.1
    have hkk := tkk_le (T := T) (L := L) (s := s)
    refine E_al rfl L0 ?_
    refine E_call rfl (Sp_le (by first | exact Nat.add_le_add_left (Nat.le_of_ble_eq_true rfl) _ | exact Nat.le_of_ble_eq_true rfl | omega) (sp_gd (d := d) R)) (chk77 hh rfl rfl (by show 0 ≤ 8; decide)) (fun h1 r1 => ?_)
    rintro ⟨e1, f1⟩
    rw [e1, f1, isR_r]
    refine E_ifF rfl (by decide) ?_
    refine E_al rfl L0 ?_
    refine E_gf (q := (0, 4)) rfl hh rfl t8 ?_
    by_cases b2 : tkk T L s = 0
    · refine E_ifT rfl (decide_eq_true ((nJ_eq0 (by first | decide | with_reducible assumption | omega)).mpr b2)) ?_
      rw [prs_end b2]
      exact s9_end lv R (fun _ => ⟨D, g4⟩) F L0
    refine E_ifF rfl (decide_eq_false (fun z => b2 ((nJ_eq0 (by first | decide | with_reducible assumption | omega)).mp z))) ?_
    have sl := tkk_lt b2
    /- the count of lines, and the next round -/
    have more : ∀ {x : Px} {g : pm_H}, bS T L (ln T L n σ s).1 = x → RSt T L x g → gi g 83 4 = nJ n → fr_g STM h0 g → (isR x = true → RDr (ln T L n σ s).2 g) → Ends (pm_at tX9_street) (pm_Rt pm_P (d + 10)) (105, lv, [], g, 0, 0) (S9Q (prs T L (f + 1) n σ s) h0) := by
      intro x g ex Rg gg Fg Dg
      have hg : HH g := (RSt_TB Rg).1
      refine E_al rfl L0 ?_
      refine E_gr rfl hg (q := 83) rfl ?_
      refine E_ci 4 rfl ci4 ?_
      refine E_dup2 rfl rfl rfl ?_
      refine E_ial rfl hg rfl (by first | decide | with_reducible assumption | omega) (by decide) gg ?_
      refine E_ci 1 rfl ci1 ?_
      refine E_bin rfl (nJ_add _ _) ?_
      refine E_ias rfl hg rfl (by first | decide | with_reducible assumption | omega) (by decide) ?_
      have b83 : bd 83 4 = some ((-2147483648), 2147483647) := rfl
      have hh2 : HH (pt g 83 4 (nJ (n + 1))) := HH_ptn hg b83 (by first | decide | with_reducible assumption | omega) (by first | decide | with_reducible assumption | omega) (by first | decide | with_reducible assumption | omega)
      refine E_goto rfl ?_
      have R2 := RSt_pt (by first | decide | with_reducible assumption | omega) hh2 Rg
      have F2 : fr_g STM h0 (pt g 83 4 (nJ (n + 1))) := fr_ptr (l := 4) (u := 4) rfl (by first | decide | with_reducible assumption | omega) (by first | decide | with_reducible assumption | omega) Fg
      match x, ex, R2, Dg with
      | .inl e, ex, R2, _ =>
        rw [prs_bad b2 ex]
        exact s9_bad lv R2 F2 L0
      | .inr s', ex, R2, Dg =>
        obtain ⟨t, et, k3, es⟩ := bS_in ex
        have tl := tkk_lt (T := T) (L := L) (s := t) (by first | decide | with_reducible assumption | omega)
        have nx := nxt_le (T := T) (Nat.le_of_lt tl)
        have nx2 := nx.2.2 tl
        have ge := ge_ln (T := T) (n := n) (σ := σ) hs
        rw [et] at ge
        have ge1 : s ≤ t := ge.1
        rw [prs_go b2 ex]
        refine ih lv R2 ?_ (Ws_ln W et) (gi_ptn hg b83 (by first | decide | with_reducible assumption | omega) (by first | decide | with_reducible assumption | omega) (by first | decide | with_reducible assumption | omega)) (by first | decide | with_reducible assumption | omega) F2 (by first | decide | with_reducible assumption | omega) L0
        obtain ⟨q0, q1, q2, q3, q4, q5, qc, qj⟩ := Dg rfl
        exact ⟨by rw [gi_ne (by first | exact gxx rfl | omega)]; exact q0, by rw [gi_ne (by first | exact gxx rfl | omega)]; exact q1, by rw [gi_ne (by first | exact gxx rfl | omega)]; exact q2, by rw [gi_ne (by first | exact gxx rfl | omega)]; exact q3, by rw [gi_ne (by first | exact gxx rfl | omega)]; exact q4, by rw [gi_ne (by first | exact gxx rfl | omega)]; exact q5, fun i hi => by rw [gi_ne (by first | exact gxx rfl | omega), gi_ne (by first | exact gxx rfl | omega)]; exact qc i hi, fun i hi => by rw [gi_ne (by first | exact gxx rfl | omega), gi_ne (by first | exact gxx rfl | omega)]; exact qj i hi⟩
    /- behind the line -/
    have behind : ∀ {g : pm_H}, RSt T L (ln T L n σ s).1 g → gi g 83 4 = nJ n → fr_g STM h0 g → (isR (ln T L n σ s).1 = true → RDr (ln T L n σ s).2 g) → Ends (pm_at tX9_street) (pm_Rt pm_P (d + 10)) (94, lv, [], g, 0, 0) (S9Q (prs T L (f + 1) n σ s) h0) := by
      intro g Rg gg Fg Dg
      have hg : HH g := (RSt_TB Rg).1
      refine E_al rfl L0 ?_
      refine E_call rfl (Sp_le (by first | exact Nat.add_le_add_left (Nat.le_of_ble_eq_true rfl) _ | exact Nat.le_of_ble_eq_true rfl | omega) (sp_gd (d := d) Rg)) (chk77 hg rfl rfl (by show 0 ≤ 8; decide)) (fun h2 r2 => ?_)
      rintro ⟨e2, f2⟩
      rw [e2, f2]
      cases x1 : (ln T L n σ s).1 with
      | inl e =>
        rw [x1] at Rg
        rw [isR_l]
        refine E_ifT rfl (by decide) ?_
        exact more (x := .inl e) (by rw [x1]; rfl) Rg gg Fg (fun q => by cases q)
      | inr t =>
        have Dg := Dg (by rw [x1]; rfl)
        rw [x1] at Rg
        rw [isR_r]
        refine E_ifF rfl (by decide) ?_
        refine E_al rfl L0 ?_
        refine E_call rfl (Sp_le (by first | exact Nat.add_le_add_left (Nat.le_of_ble_eq_true rfl) _ | exact Nat.le_of_ble_eq_true rfl | omega) (sp_cl (d := d) Rg)) (chk77 hg rfl rfl (by show 0 ≤ 8; decide)) (fun h3 r3 => ?_)
        rintro ⟨e3, f3, R3⟩
        rw [e3]
        exact more (x := bS T L (.inr t)) (by rw [x1]) R3 (by rw [fr_gi f3 (rg_no rfl _)]; exact gg) (fr_trans Fg (fr_wk rfl f3)) (fun _ => RDr_fr f3 rfl rfl rfl Dg)
    refine E_al rfl L0 ?_
    refine E_gr rfl hh (q := 83) rfl ?_
    refine E_ci 4 rfl ci4 ?_
    refine E_ial rfl hh rfl (by first | decide | with_reducible assumption | omega) (by decide) g4 ?_
    by_cases n0 : n = 0
    · subst n0
      refine E_ifF rfl (by decide) ?_
      rcases W with ⟨-, p0, c0, j0⟩ | ⟨q, -⟩
      · exact s9_head lv R D c0 j0 g4 F L0 (fun g _ Rg Dg gg Fg => behind Rg gg Fg (fun _ => Dg))
      · exact absurd rfl q
    · refine E_ifT rfl (decide_eq_true (fun z => n0 ((nJ_eq0 (by first | decide | with_reducible assumption | omega)).mp z))) ?_
      refine E_al rfl L0 ?_
      refine E_call rfl (Sp_le (by first | exact Nat.add_le_add_left (Nat.le_of_ble_eq_true rfl) _ | exact Nat.le_of_ble_eq_true rfl | omega) (sp_lnH9 (d := d) R D W n0)) (chk77 hh rfl rfl (by show 0 ≤ 8; decide)) (fun h2 r2 => ?_)
      rintro ⟨e2, hh2, f2, R2, D2⟩
      rw [e2]
      exact behind R2 (by rw [fr_gi f2 (rg_no rfl _)]; exact g4) (fr_trans F (fr_wk rfl f2)) D2
theorem sp_street9 (B : TB T L h) : Sp (d + 11) 354 h [.ref 77] (S9Q (PRS T L) h) := by
  have hh : HH h := B.1
  refine Sp_of aiX9_street rfl rfl rfl ?_
  have L0 : pm_get (lv_args 0 [.ref 77]) 0 = some (.ref 77) := rfl
  generalize lv_args 0 [.ref 77] = lv at L0 ⊢
  refine E_al rfl L0 ?_
  refine E_ci 0 rfl ci0 ?_
  refine E_pf rfl hh rfl ?_
  have hh1 : HH (pt h 77 0 (nJ 0)) := HH_ptn hh rfl (by first | decide | with_reducible assumption | omega) (by first | decide | with_reducible assumption | omega) (by first | decide | with_reducible assumption | omega)
  have B1 := TB_pt B (by first | decide | with_reducible assumption | omega) hh1
  have F1 : fr_g STM h (pt h 77 0 (nJ 0)) := fr_ptr (l := 0) (u := 0) rfl (by first | decide | with_reducible assumption | omega) (by first | decide | with_reducible assumption | omega) (fr_rf _ _)
  generalize pt h 77 0 (nJ 0) = h1 at hh1 B1 F1 ⊢
  refine E_al rfl L0 ?_
  refine E_call rfl (Sp_le (by first | exact Nat.add_le_add_left (Nat.le_of_ble_eq_true rfl) _ | exact Nat.le_of_ble_eq_true rfl | omega) (sp_clears (d := d) hh1)) (chk77 hh1 rfl rfl (by show 0 ≤ 8; decide)) (fun h2 r2 => ?_)
  rintro ⟨e2, hh2, f2, z2, c2⟩
  rw [e2]
  have B2 := TB_fr f2 rfl rfl hh2 B1
  refine E_al rfl L0 ?_
  refine E_call rfl (Sp_le (by first | exact Nat.add_le_add_left (Nat.le_of_ble_eq_true rfl) _ | exact Nat.le_of_ble_eq_true rfl | omega) (sp_bg (d := d) B2)) (chk77 hh2 rfl rfl (by show 0 ≤ 8; decide)) (fun h3 r3 => ?_)
  rintro ⟨e3, f3, R3⟩
  rw [e3]
  have e84 : ∀ k, gi h3 84 k = gi h2 84 k := fun k => fr_gi f3 (rg_no rfl _)
  have sk := skp_le (T := T) (L := L) (i := 0) (Nat.zero_le _)
  unfold PRS
  refine s9_loop (d := d) (L + 1) lv R3 ⟨?_, ?_, ?_, ?_, ?_, ?_, fun i hi => absurd hi (Nat.not_lt_zero i), fun i hi => absurd hi (Nat.not_lt_zero i)⟩ (.inl ⟨rfl, rfl, rfl, rfl⟩) (by rw [fr_gi f3 (rg_no rfl _)]; exact z2) (Nat.zero_le _) (fr_trans F1 (fr_trans (fr_wk rfl f2) (fr_wk rfl f3))) (by first | decide | with_reducible assumption | omega) L0
  · rw [e84, gi_gn hh2 rfl (by decide)]; exact congrArg nJ (c2 0 (by first | decide | with_reducible assumption | omega))
  · rw [e84, gi_gn hh2 rfl (by decide)]; exact congrArg nJ (c2 1 (by first | decide | with_reducible assumption | omega))
  · rw [e84, gi_gn hh2 rfl (by decide)]; exact congrArg nJ (c2 2 (by first | decide | with_reducible assumption | omega))
  · rw [e84, gi_gn hh2 rfl (by decide)]; exact congrArg nJ (c2 3 (by first | decide | with_reducible assumption | omega))
  · rw [e84, gi_gn hh2 rfl (by decide)]; exact congrArg nJ (c2 4 (by first | decide | with_reducible assumption | omega))
  · rw [e84, gi_gn hh2 rfl (by decide)]; exact congrArg nJ (c2 5 (by first | decide | with_reducible assumption | omega))
end STS
end
section
/-! what a street tells is within its bounds (wants t50, t53) -/
noncomputable def Wt (σ : Sg) : Prop := ∀ i, i < σ.2.1.1 → 1 ≤ σ.2.1.2.1 i ∧ σ.2.1.2.1 i ≤ σ.1.1
theorem Wt_ln {T : Nat → Int32} {L n s t : Nat} {σ : Sg} (W : Ws n σ) (V : Wt σ) (e : (ln T L n σ s).1 = .inr t) : Wt (ln T L n σ s).2 := by
  rcases W with ⟨n0, p0, c0, j0⟩ | ⟨n0, p1, p8, cp, wf, rr, nc, ab⟩
  · subst n0
    have ec : (ln T L 0 σ s).2.2.1 = σ.2.1 := rfl
    intro i hi
    rw [ec, c0] at hi
    exact absurd hi (Nat.not_lt_zero i)
  · have nb : Nat.beq n 0 = false := nbeqF n0
    unfold ln at e ⊢
    rw [nb] at e ⊢
    dsimp only [cond_false] at e ⊢
    cases hc : wIs T L s (wd 4) with
    | true =>
      rw [hc] at e
      dsimp only [cond_true] at e ⊢
      by_cases ecp : σ.2.1.1 = σ.1.1
      · rw [nbeq.mpr ecp] at e
        cases e
      · rw [nbeqF ecp] at e ⊢
        dsimp only [cond_false] at e ⊢
        have e : bN T L 0 99 (bW T L (wd 6) (bN T L 1 σ.1.1 (bW T L (wd 5) (.inr (nxt T L s))))) = .inr t := e
        obtain ⟨t1, e1, -, -⟩ := bN_in e
        obtain ⟨t2, e2, -, -⟩ := bW_in e1
        obtain ⟨t3, e3, ok, -⟩ := bN_in e2
        have v := okN_v ok
        rw [← e3] at v
        intro i hi
        show 1 ≤ fup σ.2.1.2.1 σ.2.1.1 (bV T L 1 σ.1.1 (bW T L (wd 5) (.inr (nxt T L s)))) i ∧ fup σ.2.1.2.1 σ.2.1.1 (bV T L 1 σ.1.1 (bW T L (wd 5) (.inr (nxt T L s)))) i ≤ σ.1.1
        by_cases q : i = σ.2.1.1
        · rw [q, fup_s]; exact v
        · have hi : i < σ.2.1.1 + 1 := hi
          rw [fup_n q]; exact V i (by first | decide | with_reducible assumption | omega)
    | false =>
      rw [hc] at e
      dsimp only [cond_false] at e ⊢
      cases hj : wIs T L s (wd 7) with
      | false =>
        rw [hj] at e
        cases e
      | true =>
        dsimp only [cond_true]
        exact V
theorem prs_wt {T : Nat → Int32} {L : Nat} (f : Nat) : ∀ {n s : Nat} {σ : Sg}, Ws n σ → Wt σ → isR (prs T L f n σ s).1 = true → Wt (prs T L f n σ s).2.2 := by
  induction f with
  | zero => intro n s σ _ V _; exact V
  | succ f ih =>
    intro n s σ W V hr
    by_cases b2 : tkk T L s = 0
    · rw [prs_end b2]
      exact V
    · cases x1 : bS T L (ln T L n σ s).1 with
      | inl e =>
        rw [prs_bad b2 x1] at hr
        cases hr
      | inr s' =>
        obtain ⟨t, et, k3, es⟩ := bS_in x1
        rw [prs_go b2 x1] at hr ⊢
        exact ih (Ws_ln W et) (Wt_ln W V et) hr
theorem PRS_wt {T : Nat → Int32} {L : Nat} (hr : isR (PRS T L).1 = true) : Wt (PRS T L).2.2 :=
  prs_wt (L + 1) (.inl ⟨rfl, rfl, rfl, rfl⟩) (fun i hi => absurd hi (Nat.not_lt_zero i)) hr
end
section
/-! wishes as they are now: those told, and the acts done upon them -/
noncomputable def dAct (C G Z : Nat → Nat) (i : Nat) (f : Nat → Nat) : Nat → Nat := if Z i = 0 then fup f (C i) (G i) else fup (fup f (C i) (f (G i))) (G i) (f (C i))
noncomputable def nwF (C G Z t : Nat → Nat) : Nat → Nat → Nat
  | 0 => t
  | n + 1 => dAct C G Z n (nwF C G Z t n)
noncomputable def vAct (m P : Nat) (C G Z : Nat → Nat) (i : Nat) : Prop := C i < m ∧ ((Z i = 0 ∧ 1 ≤ G i ∧ G i ≤ P) ∨ (Z i = 1 ∧ G i < m))
theorem dAct_cg {C G Z C' G' Z' f f' : Nat → Nat} {i m P : Nat} (c : C' i = C i) (g : G' i = G i) (z : Z' i = Z i) (v : vAct m P C G Z i) (e : ∀ j, j < m → f' j = f j) : ∀ j, j < m → dAct C' G' Z' i f' j = dAct C G Z i f j := by
  intro j hj
  unfold dAct fup
  rw [c, g, z]
  obtain ⟨v1, v2⟩ := v
  rcases v2 with ⟨z0, -, -⟩ | ⟨z1, v3⟩
  · rw [if_pos z0, if_pos z0]
    rw [e j hj]
  · have z2 : ¬ Z i = 0 := by omega
    rw [if_neg z2, if_neg z2]
    rw [e j hj, e _ v1, e _ v3]
theorem nwF_cg {C G Z t C' G' Z' t' : Nat → Nat} {m P : Nat} (n : Nat) (e : ∀ i, i < n → C' i = C i ∧ G' i = G i ∧ Z' i = Z i) (v : ∀ i, i < n → vAct m P C G Z i) (q : ∀ j, j < m → t' j = t j) : ∀ j, j < m → nwF C' G' Z' t' n j = nwF C G Z t n j := by
  induction n with
  | zero => exact q
  | succ n ih =>
    obtain ⟨e1, e2, e3⟩ := e n (by first | decide | with_reducible assumption | omega)
    exact dAct_cg e1 e2 e3 (v n (by first | decide | with_reducible assumption | omega)) (ih (fun i hi => e i (by first | decide | with_reducible assumption | omega)) (fun i hi => v i (by first | decide | with_reducible assumption | omega)))
theorem dAct_in {C G Z f : Nat → Nat} {i m P : Nat} (v : vAct m P C G Z i) (e : ∀ j, j < m → 1 ≤ f j ∧ f j ≤ P) : ∀ j, j < m → 1 ≤ dAct C G Z i f j ∧ dAct C G Z i f j ≤ P := by
  intro j hj
  unfold dAct fup
  obtain ⟨v1, v2⟩ := v
  rcases v2 with ⟨z0, g1, g2⟩ | ⟨z1, v3⟩
  · rw [if_pos z0]
    split
    · exact ⟨g1, g2⟩
    · exact e j hj
  · have z2 : ¬ Z i = 0 := by omega
    rw [if_neg z2]
    split
    · exact e _ v1
    · split
      · exact e _ v3
      · exact e j hj
theorem nwF_in {C G Z t : Nat → Nat} {m P : Nat} (n : Nat) (v : ∀ i, i < n → vAct m P C G Z i) (q : ∀ j, j < m → 1 ≤ t j ∧ t j ≤ P) : ∀ j, j < m → 1 ≤ nwF C G Z t n j ∧ nwF C G Z t n j ≤ P := by
  induction n with
  | zero => exact q
  | succ n ih => exact dAct_in (v n (by first | decide | with_reducible assumption | omega)) (ih (fun i hi => v i (by first | decide | with_reducible assumption | omega)))
/-- a store to an array of numbers, as a whole -/
theorem gn_fup {h : pm_H} {a k v : Nat} {lo hi : Int} (hh : HH h) (hb : bd a k = some (lo, hi)) (hv : v < 2147483648) (h1 : lo ≤ (v : Int)) (h2 : (v : Int) ≤ hi) : gn (pt h a k (nJ v)) a = fup (gn h a) k v := by
  funext j
  by_cases e : j = k
  · rw [e, fup_s, gn_ptn hh hb hv h1 h2]
  · rw [fup_n e, gn_ne (fun _ => e)]
theorem gn_eq0 {h : pm_H} {a k : Nat} {q : Int × Int} (hh : HH h) (hb : bd a k = some q) (h0 : 0 ≤ q.1) : gi h a k = 0 ↔ gn h a k = 0 := by
  have e := gi_gn hh hb h0
  constructor
  · intro z
    unfold gn
    rw [z]
    rfl
  · intro z
    rw [e, z]
    rfl
end
section
/-! undo, anew, rate, wants, trades: what they do to the numbers that are counted (wants t52 for E_zasB) -/
section AC8
variable {h : pm_H} {d : Nat} {x y : Int32}
theorem sp_hasStreet8 (hh : HH h) : Sp (d + 1) 118 h [.ref 0] (fun h' r => h' = h ∧ r = some (.int (zb (0 < gn h 15 0)))) := by
  obtain ⟨a1, a2, -⟩ := g15 hh
  refine Sp_of aiX8_hasStreet rfl rfl rfl ?_
  have L0 : pm_get (lv_args 0 [.ref 0]) 0 = some (.ref 0) := rfl
  generalize lv_args 0 [.ref 0] = lv at L0 ⊢
  refine E_al rfl L0 ?_
  refine E_ogr (q := 15) rfl hh rfl rfl ?_
  refine E_ogf (q := (0, 8)) rfl hh rfl rfl a1 ?_
  by_cases b : gn h 15 0 = 0
  · refine E_ifT rfl (decide_eq_true ((nJ_le0 (by first | decide | with_reducible assumption | omega)).mpr b)) ?_
    refine E_ci 0 rfl ci0 ?_
    exact E_rtz rfl (.inl rfl) ⟨rfl, by rw [zb_F (by first | decide | with_reducible assumption | omega)]⟩
  · refine E_ifF rfl (decide_eq_false (fun z => b ((nJ_le0 (by first | decide | with_reducible assumption | omega)).mp z))) ?_
    refine E_ci 1 rfl ci1 ?_
    refine E_goto rfl ?_
    exact E_rtz rfl (.inr rfl) ⟨rfl, by rw [zb_T (by first | decide | with_reducible assumption | omega)]⟩
theorem sp_hasPlace8 (hh : HH h) : Sp (d + 1) 117 h [.ref 0, .int x] (fun h' r => h' = h ∧ r = some (.int (zb (1 ≤ x.toInt ∧ x.toInt ≤ (gn h 15 0 : Int))))) := by
  obtain ⟨a3, a4, -⟩ := g15 hh
  have z0 : (1 : Int32).toInt = 1 := rfl
  refine Sp_of aiX8_hasPlace rfl rfl rfl ?_
  have L0 : pm_get (lv_args 0 [.ref 0, .int x]) 0 = some (.ref 0) := rfl
  have L1 : pm_get (lv_args 0 [.ref 0, .int x]) 1 = some (.int x) := rfl
  generalize lv_args 0 [.ref 0, .int x] = lv at L0 L1 ⊢
  refine E_il rfl L1 ?_
  refine E_c rfl ?_
  by_cases b1 : x < 1
  · have q := Int32.lt_iff_toInt_lt.mp b1
    refine E_icT rfl (decide_eq_true b1) ?_
    refine E_ci 0 rfl ci0 ?_
    exact E_rtz rfl (.inl rfl) ⟨rfl, by rw [zb_F (by first | decide | with_reducible assumption | omega)]⟩
  have q1 : ¬ x.toInt < (1 : Int32).toInt := fun z => b1 (Int32.lt_iff_toInt_lt.mpr z)
  refine E_icF rfl (decide_eq_false b1) ?_
  refine E_il rfl L1 ?_
  refine E_al rfl L0 ?_
  refine E_ogr (q := 15) rfl hh rfl rfl ?_
  refine E_ogf (q := (0, 8)) rfl hh rfl rfl a3 ?_
  by_cases b2 : nJ (gn h 15 0) < x
  · have q := Int32.lt_iff_toInt_lt.mp b2
    rw [nJ_toInt (by first | decide | with_reducible assumption | omega)] at q
    refine E_icT rfl (decide_eq_true b2) ?_
    refine E_ci 0 rfl ci0 ?_
    exact E_rtz rfl (.inl rfl) ⟨rfl, by rw [zb_F (by first | decide | with_reducible assumption | omega)]⟩
  · have q : ¬ (nJ (gn h 15 0)).toInt < x.toInt := fun z => b2 (Int32.lt_iff_toInt_lt.mpr z)
    rw [nJ_toInt (by first | decide | with_reducible assumption | omega)] at q
    refine E_icF rfl (decide_eq_false b2) ?_
    refine E_ci 1 rfl ci1 ?_
    refine E_goto rfl ?_
    exact E_rtz rfl (.inr rfl) ⟨rfl, by rw [zb_T (by first | decide | with_reducible assumption | omega)]⟩
theorem sp_hasPair8 (hh : HH h) : Sp (d + 2) 116 h [.ref 0, .int x, .int y] (fun h' r => h' = h ∧ r = some (.int (zb ((0 ≤ x.toInt ∧ x.toInt < (gn h 15 4 : Int)) ∧ (0 ≤ y.toInt ∧ y.toInt < (gn h 15 4 : Int)) ∧ ¬ x = y)))) := by
  refine Sp_of aiX8_hasPair rfl rfl rfl ?_
  have L0 : pm_get (lv_args 0 [.ref 0, .int x, .int y]) 0 = some (.ref 0) := rfl
  have L1 : pm_get (lv_args 0 [.ref 0, .int x, .int y]) 1 = some (.int x) := rfl
  have L2 : pm_get (lv_args 0 [.ref 0, .int x, .int y]) 2 = some (.int y) := rfl
  generalize lv_args 0 [.ref 0, .int x, .int y] = lv at L0 L1 L2 ⊢
  have no : ¬ ((0 ≤ x.toInt ∧ x.toInt < (gn h 15 4 : Int)) ∧ (0 ≤ y.toInt ∧ y.toInt < (gn h 15 4 : Int)) ∧ ¬ x = y) → Ends (pm_at tX8_hasPair) (pm_Rt pm_P (d + 1)) (25, lv, [], h, 0, 0) (fun h' r => h' = h ∧ r = some (.int (zb ((0 ≤ x.toInt ∧ x.toInt < (gn h 15 4 : Int)) ∧ (0 ≤ y.toInt ∧ y.toInt < (gn h 15 4 : Int)) ∧ ¬ x = y)))) := by
    intro q
    refine E_ci 0 rfl ci0 ?_
    exact E_rtz rfl (.inl rfl) ⟨rfl, by rw [zb_F q]⟩
  refine E_al rfl L0 ?_
  refine E_il rfl L1 ?_
  refine E_call rfl (sp_hasCar8 (d := d) hh) (chkO (a := 0) hh rfl rfl rfl rfl (by show 0 ≤ 8; decide)) (fun h1 r1 => ?_)
  rintro ⟨e1, f1⟩
  rw [e1, f1]
  by_cases b1 : 0 ≤ x.toInt ∧ x.toInt < (gn h 15 4 : Int)
  · refine E_ifF rfl (by rw [zb_T b1]; rfl) ?_
    refine E_al rfl L0 ?_
    refine E_il rfl L2 ?_
    refine E_call rfl (sp_hasCar8 (d := d) hh) (chkO (a := 0) hh rfl rfl rfl rfl (by show 0 ≤ 8; decide)) (fun h2 r2 => ?_)
    rintro ⟨e2, f2⟩
    rw [e2, f2]
    by_cases b2 : 0 ≤ y.toInt ∧ y.toInt < (gn h 15 4 : Int)
    · refine E_ifF rfl (by rw [zb_T b2]; rfl) ?_
      refine E_il rfl L1 ?_
      refine E_il rfl L2 ?_
      by_cases b3 : x = y
      · refine E_icT rfl (decide_eq_true b3) ?_
        exact no (fun q => q.2.2 b3)
      · refine E_icF rfl (decide_eq_false b3) ?_
        refine E_ci 1 rfl ci1 ?_
        refine E_goto rfl ?_
        exact E_rtz rfl (.inr rfl) ⟨rfl, by rw [zb_T ⟨b1, b2, b3⟩]⟩
    · refine E_ifT rfl (by rw [zb_F b2]; rfl) ?_
      exact no (fun q => b2 q.2.1)
  · refine E_ifT rfl (by rw [zb_F b1]; rfl) ?_
    exact no (fun q => b1 q.1)
noncomputable def udv (p a : Nat) : Int32 := if p = 0 then -2 else if a = 0 then -5 else nJ (a - 1)
noncomputable def uda (p a : Nat) : Nat := if p = 0 then a else a - 1
noncomputable def anv (p a : Nat) : Int32 := if p = 0 then -2 else nJ a
noncomputable def ana (p a : Nat) : Nat := if p = 0 then a else 0
/-- what rate answers: c cars, a acts, s where cars stand -/
noncomputable def rtv (c a : Nat) (s : Nat → Int32) (x y : Int32) : Int32 := if (0 ≤ x.toInt ∧ x.toInt < (c : Int)) ∧ 0 ≤ y.toInt ∧ y.toInt ≤ 99 then (if a = 0 then s x.toInt.toNat else -5) else -2
noncomputable def rts (c a : Nat) (s : Nat → Int32) (x y : Int32) (i : Nat) : Int32 := if ((0 ≤ x.toInt ∧ x.toInt < (c : Int)) ∧ 0 ≤ y.toInt ∧ y.toInt ≤ 99) ∧ a = 0 ∧ i = x.toInt.toNat then y else s i
theorem sp_rate8 (hh : HH h) : Sp (d + 2) 164 h [.ref 0, .int x, .int y] (fun h' r => r = some (.int (rtv (gn h 15 4) (gn h 15 6) (gi h 18) x y)) ∧ ∀ i, gi h' 18 i = rts (gn h 15 4) (gn h 15 6) (gi h 18) x y i) := by
  obtain ⟨a1, a2, a3, a4, a5, a6⟩ := g15 hh
  have z0 : (0 : Int32).toInt = 0 := rfl
  refine Sp_of aiX8_rate rfl rfl rfl ?_
  have L0 : pm_get (lv_args 0 [.ref 0, .int x, .int y]) 0 = some (.ref 0) := rfl
  have L1 : pm_get (lv_args 0 [.ref 0, .int x, .int y]) 1 = some (.int x) := rfl
  have L2 : pm_get (lv_args 0 [.ref 0, .int x, .int y]) 2 = some (.int y) := rfl
  generalize lv_args 0 [.ref 0, .int x, .int y] = lv at L0 L1 L2 ⊢
  have no : ¬ ((0 ≤ x.toInt ∧ x.toInt < (gn h 15 4 : Int)) ∧ 0 ≤ y.toInt ∧ y.toInt ≤ 99) → Ends (pm_at tX8_rate) (pm_Rt pm_P (d + 1)) (18, lv, [], h, 0, 0) (fun h' r => r = some (.int (rtv (gn h 15 4) (gn h 15 6) (gi h 18) x y)) ∧ ∀ i, gi h' 18 i = rts (gn h 15 4) (gn h 15 6) (gi h 18) x y i) := by
    intro q
    refine E_c rfl ?_
    exact E_rti rfl ⟨by unfold rtv; rw [if_neg q], fun i => by unfold rts; rw [if_neg (fun z => q z.1)]⟩
  refine E_al rfl L0 ?_
  refine E_il rfl L1 ?_
  refine E_call rfl (sp_hasCar8 (d := d) hh) (chkO (a := 0) hh rfl rfl rfl rfl (by show 0 ≤ 8; decide)) (fun h1 r1 => ?_)
  rintro ⟨e1, f1⟩
  rw [e1, f1]
  by_cases b1 : 0 ≤ x.toInt ∧ x.toInt < (gn h 15 4 : Int)
  · refine E_ifF rfl (by rw [zb_T b1]; rfl) ?_
    obtain ⟨c, hc, rfl⟩ : ∃ c, c < 8 ∧ x = nJ c := ⟨x.toInt.toNat, by omega, nJ_of b1.1⟩
    have xc := nJ_toInt (n := c) (by first | decide | with_reducible assumption | omega)
    refine E_il rfl L2 ?_
    by_cases b2 : y < 0
    · have q := Int32.lt_iff_toInt_lt.mp b2
      refine E_ifT rfl (decide_eq_true b2) ?_
      exact no (by first | decide | with_reducible assumption | omega)
    have q2 : ¬ y.toInt < (0 : Int32).toInt := fun z => b2 (Int32.lt_iff_toInt_lt.mpr z)
    refine E_ifF rfl (decide_eq_false b2) ?_
    refine E_il rfl L2 ?_
    refine E_ci 99 rfl ci99 ?_
    by_cases b3 : y ≤ nJ 99
    · have q3 := Int32.le_iff_toInt_le.mp b3
      rw [nJ_toInt (by first | decide | with_reducible assumption | omega)] at q3
      refine E_icT rfl (decide_eq_true b3) ?_
      have ok : (0 ≤ (nJ c).toInt ∧ (nJ c).toInt < (gn h 15 4 : Int)) ∧ 0 ≤ y.toInt ∧ y.toInt ≤ 99 := ⟨b1, by omega, by omega⟩
      refine E_al rfl L0 ?_
      refine E_ogr (q := 15) rfl hh rfl rfl ?_
      refine E_ogf (q := (0, 20)) rfl hh rfl rfl a5 ?_
      by_cases b4 : gn h 15 6 = 0
      · refine E_ifT rfl (decide_eq_true ((nJ_eq0 (by first | decide | with_reducible assumption | omega)).mpr b4)) ?_
        refine E_al rfl L0 ?_
        refine E_ogr (q := 15) rfl hh rfl rfl ?_
        refine E_ogr (q := 18) rfl hh rfl rfl ?_
        refine E_il rfl L1 ?_
        refine E_ial rfl hh rfl hc (by decide) rfl ?_
        refine E_is rfl (fun lv1 K3 kp => ?_)
        refine E_al rfl (kp 0 _ (nbz rfl) rfl L0) ?_
        refine E_ogr (q := 15) rfl hh rfl rfl ?_
        refine E_ogr (q := 18) rfl hh rfl rfl ?_
        refine E_il rfl (kp 1 _ (nbz rfl) rfl L1) ?_
        refine E_il rfl (kp 2 _ (nbz rfl) rfl L2) ?_
        refine E_ias rfl hh rfl hc (by decide) ?_
        refine E_il rfl K3 ?_
        have ec : (nJ c).toInt.toNat = c := by omega
        have b18 : bd 18 c = some (0, 99) := bd_u rfl hc
        refine E_rti rfl ⟨by unfold rtv; rw [if_pos ok, if_pos b4, ec], fun i => ?_⟩
        unfold rts
        rw [ec]
        by_cases e : i = c
        · rw [if_pos ⟨ok, b4, e⟩, e]
          exact gi_pt hh b18 (by show (0 : Int) ≤ _; omega) (by show _ ≤ (99 : Int); omega)
        · rw [if_neg (fun z => e z.2.2)]
          exact gi_ne (fun _ => e)
      · refine E_ifF rfl (decide_eq_false (fun z => b4 ((nJ_eq0 (by first | decide | with_reducible assumption | omega)).mp z))) ?_
        refine E_c rfl ?_
        exact E_rti rfl ⟨by unfold rtv; rw [if_pos ok, if_neg b4], fun i => by unfold rts; rw [if_neg (fun z => b4 z.2.1)]⟩
    · have q3 : ¬ y.toInt ≤ (nJ 99).toInt := fun z => b3 (Int32.le_iff_toInt_le.mpr z)
      rw [nJ_toInt (by first | decide | with_reducible assumption | omega)] at q3
      refine E_icF rfl (decide_eq_false b3) ?_
      exact no (by first | decide | with_reducible assumption | omega)
  · refine E_ifT rfl (by rw [zb_F b1]; rfl) ?_
    exact no (fun q => b1 q.1)
end AC8
end
