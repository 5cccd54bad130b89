section
noncomputable def geX (L s : Nat) : Px → Prop
  | .inl _ => True
  | .inr t => s ≤ t ∧ t ≤ L
section GEX
variable {T : Nat → Int32} {L s : Nat} {x : Px}
theorem geW {W : List Int32} (g : geX L s x) : geX L s (bW T L W x) := by
  match x, g with
  | .inl _, _ => trivial
  | .inr t, g =>
    cases hw : wIs T L t W with
    | true =>
      rw [bW_T hw]
      have := nxt_le (T := T) g.2
      exact ⟨by have := g.1; omega, this.2.1⟩
    | false => rw [bW_F hw]; trivial
theorem geN {lo hi : Nat} (g : geX L s x) : geX L s (bN T L lo hi x) := by
  match x, g with
  | .inl _, _ => trivial
  | .inr t, g =>
    cases hw : okN T L lo hi t with
    | true =>
      rw [(bN_T hw).1]
      have := nxt_le (T := T) g.2
      exact ⟨by have := g.1; omega, this.2.1⟩
    | false =>
      unfold bN
      dsimp only
      rw [hw]
      trivial
theorem geJ {n a : Nat} {b : Nat → Nat} (g : geX L s x) : geX L s (bJ T L n b a x) := by
  match x, g with
  | .inl _, _ => trivial
  | .inr t, g =>
    unfold bJ
    dsimp only
    cases (okN T L 1 n t && !(mayb n b a (tkv T L t))) with
    | true => trivial
    | false => exact g
theorem ge_ln {n : Nat} {σ : Sg} (hs : s ≤ L) : geX L s (ln T L n σ s).1 := by
  have g0 : geX L s (.inr s) := ⟨Nat.le_refl _, hs⟩
  have g1 : geX L s (.inr (nxt T L s)) := ⟨(nxt_le hs).1, (nxt_le hs).2.1⟩
  unfold ln
  cases Nat.beq n 0 with
  | true => exact geN (geW (geN (geW (geN (geW (geW g0))))))
  | false =>
    dsimp only [cond_false]
    cases wIs T L s (wd 4) with
    | true =>
      dsimp only [cond_true]
      cases Nat.beq σ.2.1.1 σ.1.1 with
      | true => trivial
      | false => exact geN (geW (geN (geW g1)))
    | false =>
      dsimp only [cond_false]
      cases wIs T L s (wd 7) with
      | true => exact geN (geJ (geN g1))
      | false => trivial
end GEX
theorem bl_eq {A A' B B' : Nat → Nat} : ∀ {j : Nat}, (∀ i, i < j → A i = A' i ∧ B i = B' i) → bl A B j = bl A' B' j
  | 0, _ => rfl
  | j + 1, e => by
    show mg (bl A B j) (A j) (B j) = mg (bl A' B' j) (A' j) (B' j)
    rw [bl_eq (fun i hi => e i (Nat.lt_succ_of_lt hi)), (e j (Nat.lt_succ_self j)).1, (e j (Nat.lt_succ_self j)).2]
theorem fup_s (f : Nat → Nat) (i v : Nat) : fup f i v i = v := if_pos rfl
theorem fup_n {f : Nat → Nat} {i v k : Nat} (h : k ≠ i) : fup f i v k = f k := if_neg h
theorem bl_up {A B : Nat → Nat} {j a b : Nat} : bl (fup A j a) (fup B j b) (j + 1) = mg (bl A B j) a b := by
  show mg (bl (fup A j a) (fup B j b) j) (fup A j a j) (fup B j b j) = _
  rw [fup_s, fup_s, bl_eq (fun i hi => ⟨fup_n (by omega), fup_n (by omega)⟩)]
/-- what is told is in order -/
noncomputable def Ws (n : Nat) (σ : Sg) : Prop := (n = 0 ∧ σ.1.1 = 0 ∧ σ.2.1.1 = 0 ∧ σ.2.2.1 = 0) ∨ (n ≠ 0 ∧ 1 ≤ σ.1.1 ∧ σ.1.1 ≤ 8 ∧ σ.2.1.1 ≤ σ.1.1 ∧ WFb (bl σ.2.2.2.1 σ.2.2.2.2 σ.2.2.1) ∧ rc (bl σ.2.2.2.1 σ.2.2.2.2 σ.2.2.1) + σ.2.2.1 = 9 ∧ NC (bl σ.2.2.2.1 σ.2.2.2.2 σ.2.2.1) (σ.1.1 + 1) ∧ ∀ i, i < σ.2.2.1 → σ.2.2.2.1 i ≤ 9 ∧ σ.2.2.2.2 i ≤ 9)
theorem Ws_lb {p : Nat} {b : Nat → Nat} (W : WFb b) (p8 : p ≤ 8) : ∀ k, 1 ≤ k → k ≤ p + 1 → 1 ≤ b k := fun k a c => (W k a (by omega)).1
theorem Ws_j8 {p j : Nat} {b : Nat → Nat} (W : WFb b) (R : rc b + j = 9) (p8 : p ≤ 8) : ∀ x y, 1 ≤ x → x ≤ p + 1 → 1 ≤ y → y ≤ p + 1 → b x ≠ b y → j < 8 := fun x y x1 x9 y1 y9 ne => by
  have e := rc_mg W x1 (by omega) y1 (by omega) ne
  have q := rc_pos (WFb_mg W x1 (by omega) y1 (by omega))
  omega
theorem bl_zero (A B : Nat → Nat) : bl A B 0 = fun k => k := rfl
theorem WFb_id : WFb (fun k => k) := fun k a b => ⟨a, Nat.le_refl _, rfl⟩
theorem rc_id : rc (fun k => k) = 9 := by decide
theorem okN_v {T : Nat → Int32} {L lo hi t : Nat} (ok : okN T L lo hi t = true) : lo ≤ bV T L lo hi (.inr t) ∧ bV T L lo hi (.inr t) ≤ hi := by
  rw [(bN_T ok).2]
  exact (okN_iff.mp ok).2
theorem bJ_may {T : Nat → Int32} {L n a t t' : Nat} {b : Nat → Nat} (e : bJ T L n b a (.inr t) = .inr t') (ok : okN T L 1 n t = true) : MAY n b a (tkv T L t) := by
  unfold bJ at e
  dsimp only at e
  rw [ok] at e
  refine Classical.byContradiction (fun q => ?_)
  rw [mayb_F q] at e
  cases e
theorem Ws_ln {T : Nat → Int32} {L n s t : Nat} {σ : Sg} (W : Ws n σ) (e : (ln T L n σ s).1 = .inr t) : Ws (n + 1) (ln T L n σ s).2 := by
  rcases W with ⟨n0, p0, c0, j0⟩ | ⟨n0, p1, p8, cp, wf, rr, nc, ab⟩
  · subst n0
    have e : bN T L 0 10 (bW T L (wd 3) (bN T L 0 3 (bW T L (wd 2) (bN T L 1 8 (bW T L (wd 1) (bW T L (wd 0) (.inr s))))))) = .inr t := e
    obtain ⟨t1, e1, -, -⟩ := bN_in e
    obtain ⟨t2, e2, -, -⟩ := bW_in e1
    obtain ⟨t3, e3, -, -⟩ := bN_in e2
    obtain ⟨t4, e4, -, -⟩ := bW_in e3
    obtain ⟨t5, e5, ok, -⟩ := bN_in e4
    have v := okN_v ok
    rw [← e5] at v
    have ep : (ln T L 0 σ s).2.1.1 = bV T L 1 8 (bW T L (wd 1) (bW T L (wd 0) (.inr s))) := rfl
    have ec : (ln T L 0 σ s).2.2.1 = σ.2.1 := rfl
    have ej : (ln T L 0 σ s).2.2.2 = σ.2.2 := rfl
    refine .inr ⟨by omega, ?_⟩
    rw [ep, ec, ej, c0, j0, bl_zero]
    exact ⟨v.1, v.2, Nat.zero_le _, WFb_id, by rw [rc_id], NC_id _, fun i hi => absurd hi (Nat.not_lt_zero i)⟩
  · have nb : Nat.beq n 0 = false := nbeqF n0
    unfold ln at e ⊢
    rw [nb] at e ⊢
    dsimp only [cond_false] at e ⊢
    cases hc : wIs T L s (wd 4) with
    | true =>
      rw [hc] at e
      dsimp only [cond_true] at e ⊢
      by_cases ecp : σ.2.1.1 = σ.1.1
      · rw [nbeq.mpr ecp] at e
        cases e
      · rw [nbeqF ecp]
        exact .inr ⟨by omega, p1, p8, by show σ.2.1.1 + 1 ≤ σ.1.1; omega, wf, rr, nc, ab⟩
    | false =>
      rw [hc] at e
      dsimp only [cond_false] at e ⊢
      cases hj : wIs T L s (wd 7) with
      | false =>
        rw [hj] at e
        cases e
      | true =>
        rw [hj] at e
        dsimp only [cond_true] at e ⊢
        have e : bN T L 1 (σ.1.1 + 1) (bJ T L (σ.1.1 + 1) (bl σ.2.2.2.1 σ.2.2.2.2 σ.2.2.1) (bV T L 1 (σ.1.1 + 1) (.inr (nxt T L s))) (bN T L 1 (σ.1.1 + 1) (.inr (nxt T L s)))) = .inr t := e
        obtain ⟨t1, e1, ok2, -⟩ := bN_in e
        have e2 := bJ_in e1
        obtain ⟨t2, e3, ok1, -⟩ := bN_in e2
        cases e3
        rw [e2] at e1
        have mm := bJ_may e1 ok2
        have v1 := okN_v ok1
        have v2 := (okN_iff.mp ok2).2
        refine .inr ⟨by omega, p1, p8, cp, ?_⟩
        unfold lnJ
        dsimp only
        rw [bl_up, e2, e1, (bN_T ok2).2]
        exact ⟨WFb_mg wf v1.1 (by omega) v2.1 (by omega), by have := rc_mg wf v1.1 (by omega) v2.1 (by omega) mm.1; omega, NC_mg (Ws_lb wf p8) mm.2, fun i hi => by
          by_cases q : i = σ.2.2.1
          · rw [q, fup_s, fup_s]; exact ⟨by omega, by omega⟩
          · rw [fup_n q, fup_n q]; exact ab i (by omega)⟩
/-- the class's draft -/
noncomputable def CDr (n : Nat) (σ : Sg) (h : pm_H) : Prop := gi h 4 0 = nJ σ.1.1 ∧ gi h 4 1 = nJ σ.1.2.1 ∧ gi h 4 2 = nJ σ.1.2.2 ∧ gi h 4 3 = nJ n ∧ gi h 4 4 = nJ σ.2.1.1 ∧ gi h 4 5 = nJ σ.2.2.1 ∧ gi h 4 6 = nJ 0 ∧ (∀ i, i < σ.2.1.1 → gi h 5 i = nJ (σ.2.1.2.1 i) ∧ gi h 6 i = nJ (σ.2.1.2.1 i) ∧ gi h 7 i = nJ (σ.2.1.2.2 i)) ∧ (∀ i, i < σ.2.2.1 → gi h 8 i = nJ (σ.2.2.2.1 i) ∧ gi h 9 i = nJ (σ.2.2.2.2 i)) ∧ (σ.1.1 ≠ 0 → MK (σ.1.1 + 1) (bl σ.2.2.2.1 σ.2.2.2.2 σ.2.2.1) h)
noncomputable def LnF : List Rng := [(3, 1, 2), (3, 5, 9), (4, 0, 2), (4, 4, 5), (5, 0, 7), (6, 0, 7), (7, 0, 7), (8, 0, 7), (9, 0, 7), (13, 1, 1), (14, 0, 9)]
section CTP
variable {T : Nat → Int32} {L d s : Nat} {h : pm_H}
theorem sp_readLine {n : Nat} {σ : Sg} (C : CS T L (.inr s) h) (D : CDr n σ h) (W : Ws n σ) (n5 : n ≤ 501) : Sp (d + 8) 35 h [.ref 3] (fun h' r => r = some (.int (zb (isR (ln T L n σ s).1 = true))) ∧ fr_g LnF h h' ∧ CS T L (ln T L n σ s).1 h' ∧ (isR (ln T L n σ s).1 = true → CDr n (ln T L n σ s).2 h')) := by
  have hh : HH h := C.1.1
  obtain ⟨d0, d1, d2, d3, d4, d5, d6, dc, dj, dm⟩ := id D
  refine Sp_of aiX2_readLine rfl rfl rfl ?_
  have L0 : pm_get (lv_args 0 [.ref 3]) 0 = some (.ref 3) := rfl
  generalize lv_args 0 [.ref 3] = lv at L0 ⊢
  refine E_al rfl L0 ?_
  refine E_ogr (q := 4) rfl hh rfl rfl ?_
  refine E_ogf rfl hh rfl rfl d3 ?_
  rcases W with ⟨n0, p0, c0, j0⟩ | ⟨n0, p1, p8, cp, wf, rr, nc, ab⟩
  · subst n0
    refine E_ifF rfl (by decide) ?_
    refine E_al rfl L0 ?_
    refine E_call rfl (sp_readHead (d := d) C) (chkO (a := 3) hh rfl rfl rfl rfl (by show 0 ≤ 8; decide)) (fun h1 r1 => ?_)
    rintro ⟨e1, f1, C1, v1⟩
    rw [e1]
    refine E_rtz rfl (zb_01 _) ⟨rfl, fr_wk rfl f1, C1, fun q => ?_⟩
    obtain ⟨g0, g1, g2, M⟩ := v1 q
    refine ⟨g0, g1, g2, by rw [fr_gi f1 rfl]; exact d3, by rw [fr_gi f1 rfl]; exact d4, by rw [fr_gi f1 rfl]; exact d5, by rw [fr_gi f1 rfl]; exact d6, fun i hi => ?_, fun i hi => ?_, fun _ => ?_⟩
    · have hi : i < σ.2.1.1 := hi
      omega
    · have hi : i < σ.2.2.1 := hi
      omega
    · show MK ((lnH T L (.inr s)).2.1 + 1) (bl σ.2.2.2.1 σ.2.2.2.2 σ.2.2.1) h1
      rw [j0]
      exact M
  · have nb : Nat.beq n 0 = false := nbeqF n0
    refine E_ifT rfl (decide_eq_true (fun z => n0 ((nJ_eq0 (by omega)).mp z))) ?_
    refine E_al rfl L0 ?_
    refine E_c rfl ?_
    refine E_call rfl (Sp_le (by omega) (sp_iW (d := d) (k := 4) C (by decide))) (chkO (a := 3) hh rfl rfl rfl rfl (by show 0 ≤ 8; decide)) (fun h1 r1 => ?_)
    rintro ⟨e1, f1⟩
    rw [e1, f1]
    have M := dm (by omega)
    unfold ln
    rw [nb]
    dsimp only [cond_false]
    cases hc : wIs T L s (wd 4) with
    | true =>
      refine E_ifF rfl (by rw [zb_T rfl]; rfl) ?_
      dsimp only [cond_true]
      refine E_al rfl L0 ?_
      refine E_call rfl (sp_readCar (d := d) C hc d4 d0 cp p8) (chkO (a := 3) hh rfl rfl rfl rfl (by show 0 ≤ 8; decide)) (fun h2 r2 => ?_)
      rintro ⟨e2, f2, C2, v2⟩
      rw [e2]
      unfold lnC' at C2 v2 ⊢
      by_cases ecp : σ.2.1.1 = σ.1.1
      · rw [nbeq.mpr ecp] at C2 ⊢
        exact E_rtz rfl (zb_01 _) ⟨rfl, fr_wk rfl f2, C2, fun q => by cases q⟩
      · rw [nbeqF ecp] at C2 v2 ⊢
        refine E_rtz rfl (zb_01 _) ⟨rfl, fr_wk rfl f2, C2, fun q => ?_⟩
        obtain ⟨g4, gk, ga, gb, gc⟩ := v2 q
        refine ⟨by rw [fr_gi f2 rfl]; exact d0, by rw [fr_gi f2 rfl]; exact d1, by rw [fr_gi f2 rfl]; exact d2, by rw [fr_gi f2 rfl]; exact d3, g4, by rw [fr_gi f2 rfl]; exact d5, by rw [fr_gi f2 rfl]; exact d6, fun i hi => ?_, fun i hi => ?_, fun _ => ?_⟩
        · have hi : i < σ.2.1.1 + 1 := hi
          dsimp only [cond_false]
          by_cases e : i = σ.2.1.1
          · rw [e, fup_s, fup_s]
            exact ⟨ga, gb, gc⟩
          · rw [fup_n e, fup_n e, (gk i e).1, (gk i e).2.1, (gk i e).2.2]
            exact dc i (by omega)
        · rw [fr_gi f2 (rg_no rfl _), fr_gi f2 (rg_no rfl _)]
          exact dj i hi
        · exact ⟨by rw [fr_gi f2 rfl]; exact M.1, M.2.1, M.2.2.1, fun k a c => by rw [fr_gi f2 (rg_no rfl _)]; exact M.2.2.2 k a c⟩
    | false =>
      refine E_ifT rfl (by rw [zb_F (by decide)]; rfl) ?_
      dsimp only [cond_false]
      refine E_al rfl L0 ?_
      refine E_call rfl (sp_readJoin (d := d) C d0 d5 p1 p8 M (Ws_lb wf p8) nc (Ws_j8 wf rr p8)) (chkO (a := 3) hh rfl rfl rfl rfl (by show 0 ≤ 8; decide)) (fun h2 r2 => ?_)
      rintro ⟨e2, f2, C2, v2⟩
      rw [e2]
      cases hj : wIs T L s (wd 7) with
      | false =>
        rw [bW_F hj] at C2 ⊢
        exact E_rtz rfl (zb_01 _) ⟨rfl, fr_wk rfl f2, C2, fun q => by cases q⟩
      | true =>
        rw [bW_T hj] at C2 v2 ⊢
        dsimp only [cond_true]
        refine E_rtz rfl (zb_01 _) ⟨rfl, fr_wk rfl f2, C2, fun q => ?_⟩
        obtain ⟨j8, g5, gk, ga, gb, gm⟩ := v2 q
        refine ⟨by rw [fr_gi f2 rfl]; exact d0, by rw [fr_gi f2 rfl]; exact d1, by rw [fr_gi f2 rfl]; exact d2, by rw [fr_gi f2 rfl]; exact d3, by rw [fr_gi f2 rfl]; exact d4, g5, by rw [fr_gi f2 rfl]; exact d6, fun i hi => ?_, fun i hi => ?_, fun _ => ?_⟩
        · rw [fr_gi f2 (rg_no rfl _), fr_gi f2 (rg_no rfl _), fr_gi f2 (rg_no rfl _)]
          exact dc i hi
        · have hi : i < σ.2.2.1 + 1 := hi
          dsimp only
          by_cases e : i = σ.2.2.1
          · rw [e, fup_s, fup_s]
            exact ⟨ga, gb⟩
          · rw [fup_n e, fup_n e, (gk i e).1, (gk i e).2]
            exact dj i (by omega)
        · dsimp only
          rw [bl_up]
          exact gm
end CTP
end
