section
section ROP
variable {T : Nat → Int32} {L d k : Nat} {h : pm_H} {x : Px}
theorem sp_cl {s : Nat} (R : RSt T L (.inr s) h) : Sp (d + 3) 228 h [.ref 77] (fun h' r => r = none ∧ fr_g BB h h' ∧ RSt T L (bS T L (.inr s)) h') := by
  obtain ⟨B, ⟨b9, b7, b8, b10, b11⟩, c, hs⟩ := id R
  have hh : HH h := B.1
  have hkk := tkk_le (T := T) (L := L) (s := s)
  refine Sp_of aiX9_closes rfl rfl rfl ?_
  have L0 : pm_get (lv_args 0 [.ref 77]) 0 = some (.ref 77) := rfl
  generalize lv_args 0 [.ref 77] = lv at L0 ⊢
  refine E_al rfl L0 ?_
  refine E_gf (q := (0, 4)) rfl hh rfl b8 ?_
  refine E_ci 3 rfl (by decide) ?_
  by_cases e1 : tkk T L s = 3
  · rw [bS_T e1]
    refine E_icT rfl (decide_eq_true (by rw [e1])) ?_
    refine E_al rfl L0 ?_
    refine E_gf (q := (0, 3)) rfl hh rfl c ?_
    refine E_ifF rfl (by decide) ?_
    refine E_al rfl L0 ?_
    refine E_call rfl (sp_fwn (d := d) R) (chk77 hh rfl rfl (by show 0 ≤ 8; decide)) (fun h2 r2 => ?_)
    rintro ⟨e2, f2, R2⟩
    rw [e2]
    exact E_ret rfl ⟨rfl, fr_wk rfl f2, R2⟩
  · rw [bS_F e1]
    refine E_icF rfl (decide_eq_false (fun q => e1 ((nJ_eq (by omega) (by omega)).mp q))) ?_
    refine E_al rfl L0 ?_
    refine E_ci 1 rfl (by decide) ?_
    refine E_call rfl (Sp_le (by omega) (sp_fl (d := d) (k := 1) R (by omega) (by omega))) (chk77 hh rfl rfl (by show 0 ≤ 8; decide)) (fun h2 r2 => ?_)
    rintro ⟨e2, f2, R2⟩
    rw [e2]
    have R2 : RSt T L (.inl (1, s)) h2 := R2
    refine E_al rfl L0 ?_
    refine E_gf (q := (0, 3)) rfl R2.1.1 rfl R2.2.1 ?_
    refine E_ifT rfl (by decide) ?_
    exact E_ret rfl ⟨rfl, fr_wk rfl f2, R2⟩
theorem sp_bg (B : TB T L h) : Sp (d + 3) 213 h [.ref 77] (fun h' r => r = none ∧ fr_g BB h h' ∧ RSt T L (.inr (skp T L 0)) h') := by
  have hh : HH h := B.1
  refine Sp_of aiX9_begins rfl rfl rfl ?_
  have L0 : pm_get (lv_args 0 [.ref 77]) 0 = some (.ref 77) := rfl
  generalize lv_args 0 [.ref 77] = lv at L0 ⊢
  refine E_al rfl L0 ?_
  refine E_ci 0 rfl (by decide) ?_
  refine E_pf (q := (0, 3)) rfl hh rfl ?_
  have hh1 : HH (pt h 77 12 (nJ 0)) := HH_ptn hh rfl (by omega) (by omega) (by omega)
  refine E_al rfl L0 ?_
  refine E_c rfl ?_
  refine E_pf (q := ((-1), 500)) rfl hh1 rfl ?_
  have hh2 : HH (pt (pt h 77 12 (nJ 0)) 77 13 (-1)) := HH_pt hh1 rfl (by decide) (by decide)
  refine E_al rfl L0 ?_
  refine E_ci 0 rfl (by decide) ?_
  refine E_pf (q := (0, 500)) rfl hh2 rfl ?_
  have hh3 : HH (pt (pt (pt h 77 12 (nJ 0)) 77 13 (-1)) 77 7 (nJ 0)) := HH_ptn hh2 rfl (by omega) (by omega) (by omega)
  have B3 := TB_pt (TB_pt (TB_pt B (by omega) hh1) (by omega) hh2) (by omega) hh3
  refine E_al rfl L0 ?_
  refine E_call rfl (sp_fw (d := d) (i := 0) B3 (Nat.zero_le _) (gi_ptn hh2 rfl (by omega) (by omega) (by omega))) (chk77 hh3 rfl rfl (by show 0 ≤ 8; decide)) (fun h2 r2 => ?_)
  rintro ⟨e2, q2, f2, R2⟩
  rw [e2]
  refine E_ret rfl ⟨rfl, fr_trans (fr_ptr (l := 7) (u := 13) rfl (by omega) (by omega) (fr_ptr (l := 7) (u := 13) rfl (by omega) (by omega) (fr_ptr (l := 7) (u := 13) rfl (by omega) (by omega) (fr_rf _ _)))) (fr_wk rfl f2), TB_fr f2 rfl rfl q2 B3, R2, ?_, (skp_le (Nat.zero_le _)).2⟩
  rw [fr_gi f2 rfl, gi_ne (by omega), gi_ne (by omega)]
  exact gi_ptn hh rfl (by omega) (by omega) (by omega)
/-- fault and its place, of how a reading ended -/
noncomputable def pxk : Px → Nat
  | .inl f => f.1
  | .inr _ => 0
noncomputable def pxp : Px → Int32
  | .inl f => nJ f.2
  | .inr _ => -1
theorem sp_ov (R : RSt T L x h) : Sp (d + 1) 275 h [.ref 77] (fun h' r => r = none ∧ HH h' ∧ fr_g OVM h h' ∧ gi h' 77 6 = nJ 0 ∧ gi h' 77 14 = nJ (pxk x) ∧ gi h' 77 15 = pxp x) := by
  have B := RSt_TB R
  have h5 := B.2.2.1
  have hh : HH h := B.1
  refine Sp_of aiX9_isOver rfl rfl rfl ?_
  have L0 : pm_get (lv_args 0 [.ref 77]) 0 = some (.ref 77) := rfl
  generalize lv_args 0 [.ref 77] = lv at L0 ⊢
  have g12 : gi h 77 12 = nJ (pxk x) := by
    match x, R with
    | .inl (k, p), R => exact R.2.1
    | .inr s, R => exact R.2.2.1
  have k3 : pxk x ≤ 3 := by
    match x, R with
    | .inl (k, p), R => exact R.2.2.2.2.1
    | .inr s, R => exact Nat.zero_le _
  refine E_al rfl L0 ?_
  refine E_ci 0 rfl (by decide) ?_
  refine E_pf (q := (0, 500)) rfl hh rfl ?_
  have hh1 : HH (pt h 77 6 (nJ 0)) := HH_ptn hh rfl (by omega) (by omega) (by omega)
  refine E_al rfl L0 ?_
  refine E_al rfl L0 ?_
  refine E_gf (q := (0, 3)) (v := nJ (pxk x)) rfl hh1 rfl (by rw [gi_ne (by omega)]; exact g12) ?_
  refine E_pf (q := (0, 3)) rfl hh1 rfl ?_
  have hh2 : HH (pt (pt h 77 6 (nJ 0)) 77 14 (nJ (pxk x))) := HH_ptn hh1 rfl (by omega) (by omega) (by omega)
  refine E_al rfl L0 ?_
  refine E_al rfl L0 ?_
  refine E_gf (q := (0, 3)) (v := nJ (pxk x)) rfl hh2 rfl (by rw [gi_ne (by omega), gi_ne (by omega)]; exact g12) ?_
  have fin : HH (pt (pt (pt h 77 6 (nJ 0)) 77 14 (nJ (pxk x))) 77 15 (pxp x)) → Ends (pm_at tX9_isOver) (pm_Rt pm_P d) (29, lv, [.int (pxp x), .ref 77], pt (pt h 77 6 (nJ 0)) 77 14 (nJ (pxk x)), 0, 0) (fun h' r => r = none ∧ HH h' ∧ fr_g OVM h h' ∧ gi h' 77 6 = nJ 0 ∧ gi h' 77 14 = nJ (pxk x) ∧ gi h' 77 15 = pxp x) := by
    intro hh3
    refine E_pf (q := ((-1), 500)) rfl hh2 rfl ?_
    have b15 : (-1 : Int) ≤ (pxp x).toInt ∧ (pxp x).toInt ≤ 500 := by
      match x, R with
      | .inl (k, p), R =>
        have := R.2.2.2.2.2
        show (-1 : Int) ≤ (nJ p).toInt ∧ (nJ p).toInt ≤ 500
        rw [nJ_toInt (by omega)]
        omega
      | .inr s, R =>
        show (-1 : Int) ≤ (-1 : Int32).toInt ∧ (-1 : Int32).toInt ≤ 500
        decide
    refine E_ret rfl ⟨rfl, hh3, fr_ptr (l := 14) (u := 15) rfl (by omega) (by omega) (fr_ptr (l := 14) (u := 15) rfl (by omega) (by omega) (fr_ptr (l := 6) (u := 6) rfl (by omega) (by omega) (fr_rf _ _))), ?_, ?_, ?_⟩
    · rw [gi_ne (by omega), gi_ne (by omega)]; exact gi_ptn hh rfl (by omega) (by omega) (by omega)
    · rw [gi_ne (by omega)]; exact gi_ptn hh1 rfl (by omega) (by omega) (by omega)
    · exact gi_pt hh2 (q := ((-1), 500)) rfl b15.1 b15.2
  match x, R with
  | .inl (k, p), R =>
    refine E_ifT rfl (decide_eq_true (fun q => absurd ((nJ_eq0 (by have := R.2.2.2.2.1; show k < _; omega)).mp q) (by have := R.2.2.2.1; show ¬ k = 0; omega))) ?_
    refine E_al rfl L0 ?_
    refine E_gf (q := ((-1), 500)) (v := nJ p) rfl hh2 rfl (by rw [gi_ne (by omega), gi_ne (by omega)]; exact R.2.2.1) ?_
    exact fin (HH_ptn hh2 rfl (by have := R.2.2.2.2.2; omega) (by omega) (by have := R.2.2.2.2.2; omega))
  | .inr s, R =>
    refine E_ifF rfl (show (decide (¬ nJ 0 = 0)) = false by decide) ?_
    refine E_c rfl ?_
    refine E_goto rfl ?_
    exact fin (HH_pt (q := ((-1), 500)) hh2 rfl (show (-1 : Int) ≤ (-1 : Int32).toInt by decide) (show (-1 : Int32).toInt ≤ 500 by decide))
end ROP
end
section
/-! a street's text, purely (wants t43, mg of 10.ztg) -/
/-- blocks of numbers, by joins -/
noncomputable def bl (A B : Nat → Nat) : Nat → Nat → Nat
  | 0 => fun k => k
  | j + 1 => mg (bl A B j) (A j) (B j)
/-- a number's block, were two blocks joined -/
noncomputable def wj (b : Nat → Nat) (x y k : Nat) : Nat := if b k = b x ∨ b k = b y then 0 else b k
noncomputable def XC (w : Nat → Nat) (n : Nat) : Prop := ∃ p q r s, 1 ≤ p ∧ p < q ∧ q < r ∧ r < s ∧ s ≤ n ∧ w p ≠ w q ∧ w p = w r ∧ w q = w s
noncomputable def MAY (n : Nat) (b : Nat → Nat) (x y : Nat) : Prop := b x ≠ b y ∧ ¬ XC (wj b x y) n
noncomputable def mayb (n : Nat) (b : Nat → Nat) (x y : Nat) : Bool := @decide (MAY n b x y) (Classical.propDecidable _)
theorem mayb_T {n x y : Nat} {b : Nat → Nat} (h : MAY n b x y) : mayb n b x y = true := @decide_eq_true _ (Classical.propDecidable _) h
theorem mayb_F {n x y : Nat} {b : Nat → Nat} (h : ¬ MAY n b x y) : mayb n b x y = false := @decide_eq_false _ (Classical.propDecidable _) h
/-- places, law, odds; cars, wishes, stands; joins -/
noncomputable abbrev Sg : Type := (Nat × Nat × Nat) × (Nat × (Nat → Nat) × (Nat → Nat)) × (Nat × (Nat → Nat) × (Nat → Nat))
noncomputable def fup (f : Nat → Nat) (i v : Nat) : Nat → Nat := fun k => if k = i then v else f k
section PRS
variable (T : Nat → Int32) (L : Nat)
noncomputable def bJ (n : Nat) (b : Nat → Nat) (a : Nat) : Px → Px
  | .inl f => .inl f
  | .inr s => bif okN T L 1 n s && !(mayb n b a (tkv T L s)) then .inl (2, s) else .inr s
noncomputable def wd (k : Nat) : List Int32 := pm_byt.getD k []
noncomputable def lnH (x : Px) : Px × (Nat × Nat × Nat) :=
  (bN T L 0 10 (bW T L (wd 3) (bN T L 0 3 (bW T L (wd 2) (bN T L 1 8 (bW T L (wd 1) (bW T L (wd 0) x)))))),
   bV T L 1 8 (bW T L (wd 1) (bW T L (wd 0) x)),
   bV T L 0 3 (bW T L (wd 2) (bN T L 1 8 (bW T L (wd 1) (bW T L (wd 0) x)))),
   bV T L 0 10 (bW T L (wd 3) (bN T L 0 3 (bW T L (wd 2) (bN T L 1 8 (bW T L (wd 1) (bW T L (wd 0) x)))))))
noncomputable def lnC (p : Nat) (x : Px) : Px × Nat × Nat :=
  (bN T L 0 99 (bW T L (wd 6) (bN T L 1 p (bW T L (wd 5) x))), bV T L 1 p (bW T L (wd 5) x), bV T L 0 99 (bW T L (wd 6) (bN T L 1 p (bW T L (wd 5) x))))
noncomputable def lnJ (n : Nat) (b : Nat → Nat) (x : Px) : Px × Nat × Nat :=
  (bN T L 1 n (bJ T L n b (bV T L 1 n x) (bN T L 1 n x)), bV T L 1 n x, bV T L 1 n (bJ T L n b (bV T L 1 n x) (bN T L 1 n x)))
/-- a line: how it ends, and what is told then -/
noncomputable def ln (n : Nat) (σ : Sg) (s : Nat) : Px × Sg :=
  bif Nat.beq n 0 then ((lnH T L (.inr s)).1, (lnH T L (.inr s)).2, σ.2.1, σ.2.2)
  else bif wIs T L s (wd 4) then
    (bif Nat.beq σ.2.1.1 σ.1.1 then (.inl (3, s), σ) else ((lnC T L σ.1.1 (.inr (nxt T L s))).1, σ.1, (σ.2.1.1 + 1, fup σ.2.1.2.1 σ.2.1.1 (lnC T L σ.1.1 (.inr (nxt T L s))).2.1, fup σ.2.1.2.2 σ.2.1.1 (lnC T L σ.1.1 (.inr (nxt T L s))).2.2), σ.2.2))
  else bif wIs T L s (wd 7) then
    ((lnJ T L (σ.1.1 + 1) (bl σ.2.2.2.1 σ.2.2.2.2 σ.2.2.1) (.inr (nxt T L s))).1, σ.1, σ.2.1, (σ.2.2.1 + 1, fup σ.2.2.2.1 σ.2.2.1 (lnJ T L (σ.1.1 + 1) (bl σ.2.2.2.1 σ.2.2.2.2 σ.2.2.1) (.inr (nxt T L s))).2.1, fup σ.2.2.2.2 σ.2.2.1 (lnJ T L (σ.1.1 + 1) (bl σ.2.2.2.1 σ.2.2.2.2 σ.2.2.1) (.inr (nxt T L s))).2.2))
  else (.inl (1, s), σ)
noncomputable def σ0 : Sg := ((0, 0, 0), (0, fun _ => 0, fun _ => 0), (0, fun _ => 0, fun _ => 0))
noncomputable def prs : Nat → Nat → Sg → Nat → Px × Nat × Sg
  | 0, n, σ, s => (.inr s, n, σ)
  | f + 1, n, σ, s => bif Nat.beq (tkk T L s) 0 then (.inr s, n, σ) else (match bS T L (ln T L n σ s).1 with
    | .inl e => (.inl e, n, σ)
    | .inr s' => prs f (n + 1) (ln T L n σ s).2 s')
/-- the whole text -/
noncomputable def PRS : Px × Nat × Sg := prs T L (L + 1) 0 σ0 (skp T L 0)
end PRS
section PRL
variable {T : Nat → Int32} {L : Nat}
end PRL
end
