/-! the class's reading of a whole text (wants t49) -/
noncomputable def geX (L s : Nat) : Px → Prop
  | .inl _ => True
  | .inr t => s ≤ t ∧ t ≤ L
section GEX
variable {T : Nat → Int32} {L s : Nat} {x : Px}
theorem geW {W : List Int32} (g : geX L s x) : geX L s (bW T L W x) := by
  match x, g with
  | .inl _, _ => trivial
  | .inr t, g =>
    cases hw : wIs T L t W with
    | true =>
      rw [bW_T hw]
      have := nxt_le (T := T) g.2
      exact ⟨by have := g.1; omega, this.2.1⟩
    | false => rw [bW_F hw]; trivial
theorem geN {lo hi : Nat} (g : geX L s x) : geX L s (bN T L lo hi x) := by
  match x, g with
  | .inl _, _ => trivial
  | .inr t, g =>
    cases hw : okN T L lo hi t with
    | true =>
      rw [(bN_T hw).1]
      have := nxt_le (T := T) g.2
      exact ⟨by have := g.1; omega, this.2.1⟩
    | false =>
      unfold bN
      dsimp only
      rw [hw]
      trivial
theorem geJ {n a : Nat} {b : Nat → Nat} (g : geX L s x) : geX L s (bJ T L n b a x) := by
  match x, g with
  | .inl _, _ => trivial
  | .inr t, g =>
    unfold bJ
    dsimp only
    cases (okN T L 1 n t && !(mayb n b a (tkv T L t))) with
    | true => trivial
    | false => exact g
theorem ge_ln {n : Nat} {σ : Sg} (hs : s ≤ L) : geX L s (ln T L n σ s).1 := by
  have g0 : geX L s (.inr s) := ⟨Nat.le_refl _, hs⟩
  have g1 : geX L s (.inr (nxt T L s)) := ⟨(nxt_le hs).1, (nxt_le hs).2.1⟩
  unfold ln
  cases Nat.beq n 0 with
  | true => exact geN (geW (geN (geW (geN (geW (geW g0))))))
  | false =>
    dsimp only [cond_false]
    cases wIs T L s (wd 4) with
    | true =>
      dsimp only [cond_true]
      cases Nat.beq σ.2.1.1 σ.1.1 with
      | true => trivial
      | false => exact geN (geW (geN (geW g1)))
    | false =>
      dsimp only [cond_false]
      cases wIs T L s (wd 7) with
      | true => exact geN (geJ (geN g1))
      | false => trivial
end GEX
theorem bl_eq {A A' B B' : Nat → Nat} : ∀ {j : Nat}, (∀ i, i < j → A i = A' i ∧ B i = B' i) → bl A B j = bl A' B' j
  | 0, _ => rfl
  | j + 1, e => by
    show mg (bl A B j) (A j) (B j) = mg (bl A' B' j) (A' j) (B' j)
    rw [bl_eq (fun i hi => e i (Nat.lt_succ_of_lt hi)), (e j (Nat.lt_succ_self j)).1, (e j (Nat.lt_succ_self j)).2]
theorem fup_s (f : Nat → Nat) (i v : Nat) : fup f i v i = v := if_pos rfl
theorem fup_n {f : Nat → Nat} {i v k : Nat} (h : k ≠ i) : fup f i v k = f k := if_neg h
theorem bl_up {A B : Nat → Nat} {j a b : Nat} : bl (fup A j a) (fup B j b) (j + 1) = mg (bl A B j) a b := by
  show mg (bl (fup A j a) (fup B j b) j) (fup A j a j) (fup B j b j) = _
  rw [fup_s, fup_s, bl_eq (fun i hi => ⟨fup_n (by omega), fup_n (by omega)⟩)]
/-- what is told is in order -/
noncomputable def Ws (n : Nat) (σ : Sg) : Prop := (n = 0 ∧ σ.1.1 = 0 ∧ σ.2.1.1 = 0 ∧ σ.2.2.1 = 0) ∨ (n ≠ 0 ∧ 1 ≤ σ.1.1 ∧ σ.1.1 ≤ 8 ∧ σ.2.1.1 ≤ σ.1.1 ∧ WFb (bl σ.2.2.2.1 σ.2.2.2.2 σ.2.2.1) ∧ rc (bl σ.2.2.2.1 σ.2.2.2.2 σ.2.2.1) + σ.2.2.1 = 9 ∧ NC (bl σ.2.2.2.1 σ.2.2.2.2 σ.2.2.1) (σ.1.1 + 1) ∧ ∀ i, i < σ.2.2.1 → σ.2.2.2.1 i ≤ 9 ∧ σ.2.2.2.2 i ≤ 9)
theorem Ws_lb {p : Nat} {b : Nat → Nat} (W : WFb b) (p8 : p ≤ 8) : ∀ k, 1 ≤ k → k ≤ p + 1 → 1 ≤ b k := fun k a c => (W k a (by omega)).1
theorem Ws_j8 {p j : Nat} {b : Nat → Nat} (W : WFb b) (R : rc b + j = 9) (p8 : p ≤ 8) : ∀ x y, 1 ≤ x → x ≤ p + 1 → 1 ≤ y → y ≤ p + 1 → b x ≠ b y → j < 8 := fun x y x1 x9 y1 y9 ne => by
  have e := rc_mg W x1 (by omega) y1 (by omega) ne
  have q := rc_pos (WFb_mg W x1 (by omega) y1 (by omega))
  omega
theorem bl_zero (A B : Nat → Nat) : bl A B 0 = fun k => k := rfl
theorem WFb_id : WFb (fun k => k) := fun k a b => ⟨a, Nat.le_refl _, rfl⟩
theorem rc_id : rc (fun k => k) = 9 := by decide
theorem okN_v {T : Nat → Int32} {L lo hi t : Nat} (ok : okN T L lo hi t = true) : lo ≤ bV T L lo hi (.inr t) ∧ bV T L lo hi (.inr t) ≤ hi := by
  rw [(bN_T ok).2]
  exact (okN_iff.mp ok).2
theorem bJ_may {T : Nat → Int32} {L n a t t' : Nat} {b : Nat → Nat} (e : bJ T L n b a (.inr t) = .inr t') (ok : okN T L 1 n t = true) : MAY n b a (tkv T L t) := by
  unfold bJ at e
  dsimp only at e
  rw [ok] at e
  refine Classical.byContradiction (fun q => ?_)
  rw [mayb_F q] at e
  cases e
theorem Ws_ln {T : Nat → Int32} {L n s t : Nat} {σ : Sg} (W : Ws n σ) (e : (ln T L n σ s).1 = .inr t) : Ws (n + 1) (ln T L n σ s).2 := by
  rcases W with ⟨n0, p0, c0, j0⟩ | ⟨n0, p1, p8, cp, wf, rr, nc, ab⟩
  · subst n0
    have e : bN T L 0 10 (bW T L (wd 3) (bN T L 0 3 (bW T L (wd 2) (bN T L 1 8 (bW T L (wd 1) (bW T L (wd 0) (.inr s))))))) = .inr t := e
    obtain ⟨t1, e1, -, -⟩ := bN_in e
    obtain ⟨t2, e2, -, -⟩ := bW_in e1
    obtain ⟨t3, e3, -, -⟩ := bN_in e2
    obtain ⟨t4, e4, -, -⟩ := bW_in e3
    obtain ⟨t5, e5, ok, -⟩ := bN_in e4
    have v := okN_v ok
    rw [← e5] at v
    have ep : (ln T L 0 σ s).2.1.1 = bV T L 1 8 (bW T L (wd 1) (bW T L (wd 0) (.inr s))) := rfl
    have ec : (ln T L 0 σ s).2.2.1 = σ.2.1 := rfl
    have ej : (ln T L 0 σ s).2.2.2 = σ.2.2 := rfl
    refine .inr ⟨by omega, ?_⟩
    rw [ep, ec, ej, c0, j0, bl_zero]
    exact ⟨v.1, v.2, Nat.zero_le _, WFb_id, by rw [rc_id], NC_id _, fun i hi => absurd hi (Nat.not_lt_zero i)⟩
  · have nb : Nat.beq n 0 = false := nbeqF n0
    unfold ln at e ⊢
    rw [nb] at e ⊢
    dsimp only [cond_false] at e ⊢
    cases hc : wIs T L s (wd 4) with
    | true =>
      rw [hc] at e
      dsimp only [cond_true] at e ⊢
      by_cases ecp : σ.2.1.1 = σ.1.1
      · rw [nbeq.mpr ecp] at e
        cases e
      · rw [nbeqF ecp]
        exact .inr ⟨by omega, p1, p8, by show σ.2.1.1 + 1 ≤ σ.1.1; omega, wf, rr, nc, ab⟩
    | false =>
      rw [hc] at e
      dsimp only [cond_false] at e ⊢
      cases hj : wIs T L s (wd 7) with
      | false =>
        rw [hj] at e
        cases e
      | true =>
        rw [hj] at e
        dsimp only [cond_true] at e ⊢
        have e : bN T L 1 (σ.1.1 + 1) (bJ T L (σ.1.1 + 1) (bl σ.2.2.2.1 σ.2.2.2.2 σ.2.2.1) (bV T L 1 (σ.1.1 + 1) (.inr (nxt T L s))) (bN T L 1 (σ.1.1 + 1) (.inr (nxt T L s)))) = .inr t := e
        obtain ⟨t1, e1, ok2, -⟩ := bN_in e
        have e2 := bJ_in e1
        obtain ⟨t2, e3, ok1, -⟩ := bN_in e2
        cases e3
        rw [e2] at e1
        have mm := bJ_may e1 ok2
        have v1 := okN_v ok1
        have v2 := (okN_iff.mp ok2).2
        refine .inr ⟨by omega, p1, p8, cp, ?_⟩
        unfold lnJ
        dsimp only
        rw [bl_up, e2, e1, (bN_T ok2).2]
        exact ⟨WFb_mg wf v1.1 (by omega) v2.1 (by omega), by have := rc_mg wf v1.1 (by omega) v2.1 (by omega) mm.1; omega, NC_mg (Ws_lb wf p8) mm.2, fun i hi => by
          by_cases q : i = σ.2.2.1
          · rw [q, fup_s, fup_s]; exact ⟨by omega, by omega⟩
          · rw [fup_n q, fup_n q]; exact ab i (by omega)⟩
/-- the class's draft -/
noncomputable def CDr (n : Nat) (σ : Sg) (h : pm_H) : Prop := gi h 4 0 = nJ σ.1.1 ∧ gi h 4 1 = nJ σ.1.2.1 ∧ gi h 4 2 = nJ σ.1.2.2 ∧ gi h 4 3 = nJ n ∧ gi h 4 4 = nJ σ.2.1.1 ∧ gi h 4 5 = nJ σ.2.2.1 ∧ gi h 4 6 = nJ 0 ∧ (∀ i, i < σ.2.1.1 → gi h 5 i = nJ (σ.2.1.2.1 i) ∧ gi h 6 i = nJ (σ.2.1.2.1 i) ∧ gi h 7 i = nJ (σ.2.1.2.2 i)) ∧ (∀ i, i < σ.2.2.1 → gi h 8 i = nJ (σ.2.2.2.1 i) ∧ gi h 9 i = nJ (σ.2.2.2.2 i)) ∧ (σ.1.1 ≠ 0 → MK (σ.1.1 + 1) (bl σ.2.2.2.1 σ.2.2.2.2 σ.2.2.1) h)
noncomputable def LnF : List Rng := [(3, 1, 2), (3, 5, 9), (4, 0, 2), (4, 4, 5), (5, 0, 7), (6, 0, 7), (7, 0, 7), (8, 0, 7), (9, 0, 7), (13, 1, 1), (14, 0, 9)]
section CTP
variable {T : Nat → Int32} {L d s : Nat} {h : pm_H}
theorem sp_readLine {n : Nat} {σ : Sg} (C : CS T L (.inr s) h) (D : CDr n σ h) (W : Ws n σ) (n5 : n ≤ 501) : Sp (d + 8) 35 h [.ref 3] (fun h' r => r = some (.int (zb (isR (ln T L n σ s).1 = true))) ∧ fr_g LnF h h' ∧ CS T L (ln T L n σ s).1 h' ∧ (isR (ln T L n σ s).1 = true → CDr n (ln T L n σ s).2 h')) := by
  have hh : HH h := C.1.1
  obtain ⟨d0, d1, d2, d3, d4, d5, d6, dc, dj, dm⟩ := id D
  refine Sp_of aiX2_readLine rfl rfl rfl ?_
  have L0 : pm_get (lv_args 0 [.ref 3]) 0 = some (.ref 3) := rfl
  generalize lv_args 0 [.ref 3] = lv at L0 ⊢
  refine E_al rfl L0 ?_
  refine E_ogr (q := 4) rfl hh rfl rfl ?_
  refine E_ogf rfl hh rfl rfl d3 ?_
  rcases W with ⟨n0, p0, c0, j0⟩ | ⟨n0, p1, p8, cp, wf, rr, nc, ab⟩
  · subst n0
    refine E_ifF rfl (by decide) ?_
    refine E_al rfl L0 ?_
    refine E_call rfl (sp_readHead (d := d) C) (chkO (a := 3) hh rfl rfl rfl rfl (by show 0 ≤ 8; decide)) (fun h1 r1 => ?_)
    rintro ⟨e1, f1, C1, v1⟩
    rw [e1]
    refine E_rtz rfl (zb_01 _) ⟨rfl, fr_wk rfl f1, C1, fun q => ?_⟩
    obtain ⟨g0, g1, g2, M⟩ := v1 q
    refine ⟨g0, g1, g2, by rw [fr_gi f1 rfl]; exact d3, by rw [fr_gi f1 rfl]; exact d4, by rw [fr_gi f1 rfl]; exact d5, by rw [fr_gi f1 rfl]; exact d6, fun i hi => ?_, fun i hi => ?_, fun _ => ?_⟩
    · have hi : i < σ.2.1.1 := hi
      omega
    · have hi : i < σ.2.2.1 := hi
      omega
    · show MK ((lnH T L (.inr s)).2.1 + 1) (bl σ.2.2.2.1 σ.2.2.2.2 σ.2.2.1) h1
      rw [j0]
      exact M
  · have nb : Nat.beq n 0 = false := nbeqF n0
    refine E_ifT rfl (decide_eq_true (fun z => n0 ((nJ_eq0 (by omega)).mp z))) ?_
    refine E_al rfl L0 ?_
    refine E_c rfl ?_
    refine E_call rfl (Sp_le (by omega) (sp_iW (d := d) (k := 4) C (by decide))) (chkO (a := 3) hh rfl rfl rfl rfl (by show 0 ≤ 8; decide)) (fun h1 r1 => ?_)
    rintro ⟨e1, f1⟩
    rw [e1, f1]
    have M := dm (by omega)
    unfold ln
    rw [nb]
    dsimp only [cond_false]
    cases hc : wIs T L s (wd 4) with
    | true =>
      refine E_ifF rfl (by rw [zb_T rfl]; rfl) ?_
      dsimp only [cond_true]
      refine E_al rfl L0 ?_
      refine E_call rfl (sp_readCar (d := d) C hc d4 d0 cp p8) (chkO (a := 3) hh rfl rfl rfl rfl (by show 0 ≤ 8; decide)) (fun h2 r2 => ?_)
      rintro ⟨e2, f2, C2, v2⟩
      rw [e2]
      unfold lnC' at C2 v2 ⊢
      by_cases ecp : σ.2.1.1 = σ.1.1
      · rw [nbeq.mpr ecp] at C2 ⊢
        exact E_rtz rfl (zb_01 _) ⟨rfl, fr_wk rfl f2, C2, fun q => by cases q⟩
      · rw [nbeqF ecp] at C2 v2 ⊢
        refine E_rtz rfl (zb_01 _) ⟨rfl, fr_wk rfl f2, C2, fun q => ?_⟩
        obtain ⟨g4, gk, ga, gb, gc⟩ := v2 q
        refine ⟨by rw [fr_gi f2 rfl]; exact d0, by rw [fr_gi f2 rfl]; exact d1, by rw [fr_gi f2 rfl]; exact d2, by rw [fr_gi f2 rfl]; exact d3, g4, by rw [fr_gi f2 rfl]; exact d5, by rw [fr_gi f2 rfl]; exact d6, fun i hi => ?_, fun i hi => ?_, fun _ => ?_⟩
        · have hi : i < σ.2.1.1 + 1 := hi
          dsimp only [cond_false]
          by_cases e : i = σ.2.1.1
          · rw [e, fup_s, fup_s]
            exact ⟨ga, gb, gc⟩
          · rw [fup_n e, fup_n e, (gk i e).1, (gk i e).2.1, (gk i e).2.2]
            exact dc i (by omega)
        · rw [fr_gi f2 (rg_no rfl _), fr_gi f2 (rg_no rfl _)]
          exact dj i hi
        · exact ⟨by rw [fr_gi f2 rfl]; exact M.1, M.2.1, M.2.2.1, fun k a c => by rw [fr_gi f2 (rg_no rfl _)]; exact M.2.2.2 k a c⟩
    | false =>
      refine E_ifT rfl (by rw [zb_F (by decide)]; rfl) ?_
      dsimp only [cond_false]
      refine E_al rfl L0 ?_
      refine E_call rfl (sp_readJoin (d := d) C d0 d5 p1 p8 M (Ws_lb wf p8) nc (Ws_j8 wf rr p8)) (chkO (a := 3) hh rfl rfl rfl rfl (by show 0 ≤ 8; decide)) (fun h2 r2 => ?_)
      rintro ⟨e2, f2, C2, v2⟩
      rw [e2]
      cases hj : wIs T L s (wd 7) with
      | false =>
        rw [bW_F hj] at C2 ⊢
        exact E_rtz rfl (zb_01 _) ⟨rfl, fr_wk rfl f2, C2, fun q => by cases q⟩
      | true =>
        rw [bW_T hj] at C2 v2 ⊢
        dsimp only [cond_true]
        refine E_rtz rfl (zb_01 _) ⟨rfl, fr_wk rfl f2, C2, fun q => ?_⟩
        obtain ⟨j8, g5, gk, ga, gb, gm⟩ := v2 q
        refine ⟨by rw [fr_gi f2 rfl]; exact d0, by rw [fr_gi f2 rfl]; exact d1, by rw [fr_gi f2 rfl]; exact d2, by rw [fr_gi f2 rfl]; exact d3, by rw [fr_gi f2 rfl]; exact d4, g5, by rw [fr_gi f2 rfl]; exact d6, fun i hi => ?_, fun i hi => ?_, fun _ => ?_⟩
        · rw [fr_gi f2 (rg_no rfl _), fr_gi f2 (rg_no rfl _), fr_gi f2 (rg_no rfl _)]
          exact dc i hi
        · have hi : i < σ.2.2.1 + 1 := hi
          dsimp only
          by_cases e : i = σ.2.2.1
          · rw [e, fup_s, fup_s]
            exact ⟨ga, gb⟩
          · rw [fup_n e, fup_n e, (gk i e).1, (gk i e).2]
            exact dj i (by omega)
        · dsimp only
          rw [bl_up]
          exact gm
noncomputable def RtF : List Rng := [(3, 1, 2), (3, 5, 9), (4, 0, 6), (5, 0, 7), (6, 0, 7), (7, 0, 7), (8, 0, 7), (9, 0, 7), (13, 1, 1), (14, 0, 9)]
/-- how the reading of the class ends -/
noncomputable def RtQ (T : Nat → Int32) (L : Nat) (R : Px × Nat × Sg) (h0 h' : pm_H) (r : Option Value) : Prop := r = none ∧ fr_g RtF h0 h' ∧ CS T L R.1 h' ∧ (isR R.1 = true → CDr R.2.1 R.2.2 h')
theorem rtp_bad {h0 : pm_H} {e : Nat × Nat} {R : Px × Nat × Sg} {i : Nat} (lv : List (Nat × Value)) (hR : R.1 = .inl e) (C : CS T L (.inl e) h) (f : fr_g RtF h0 h) (hi : i ≤ 501) (L0 : pm_get lv 0 = some (.ref 3)) (L1 : pm_get lv 1 = some (.int (nJ i))) : Ends (pm_at tX2_readTape) (pm_Rt pm_P (d + 8)) (28, lv, [], h, 0, 0) (RtQ T L R h0) := by
  have hh : HH h := C.1.1
  have fin : Ends (pm_at tX2_readTape) (pm_Rt pm_P (d + 8)) (82, lv, [], h, 0, 0) (RtQ T L R h0) := E_ret rfl ⟨rfl, f, by rw [hR]; exact C, fun q => by rw [hR] at q; cases q⟩
  refine E_il rfl L1 ?_
  refine E_ci 500 rfl (by decide) ?_
  by_cases b1 : 500 ≤ i
  · refine E_icT rfl (decide_eq_true ((nJ_le (by omega) (by omega)).mpr b1)) ?_
    exact fin
  refine E_icF rfl (decide_eq_false (fun z => b1 ((nJ_le (by omega) (by omega)).mp z))) ?_
  refine E_al rfl L0 ?_
  refine E_ogf (q := (0, 4)) rfl hh rfl rfl rfl ?_
  by_cases b2 : gi h 3 5 = 0
  · refine E_ifT rfl (decide_eq_true b2) ?_
    exact fin
  refine E_ifF rfl (decide_eq_false b2) ?_
  refine E_al rfl L0 ?_
  refine E_ogf (q := (0, 3)) rfl hh rfl rfl C.2.1 ?_
  have k1 := C.2.2.2.1
  have k3 := C.2.2.2.2.1
  refine E_ifT rfl (decide_eq_true (fun z => absurd ((nJ_eq0 (by omega)).mp z) (by omega))) ?_
  exact fin
theorem rtp_loop {h0 : pm_H} (f : Nat) : ∀ {h : pm_H} {n s i : Nat} {σ : Sg} (lv : List (Nat × Value)), CS T L (.inr s) h → CDr n σ h → Ws n σ → fr_g RtF h0 h → L < s + f → i ≤ s → n ≤ i → pm_get lv 0 = some (.ref 3) → pm_get lv 1 = some (.int (nJ i)) → Ends (pm_at tX2_readTape) (pm_Rt pm_P (d + 8)) (28, lv, [], h, 0, 0) (RtQ T L (prs T L f n σ s) h0) := by
  induction f with
  | zero =>
    intro h n s i σ lv C
    intro _ _ _ hL
    have := C.2.2.2.2
    omega
  | succ f ih =>
    intro h n s i σ lv C D W F hL his hni L0 L1
    have hh : HH h := C.1.1
    have h5 := C.1.2.2.1
    have hs := C.2.2.2.2
    have c5 := C.2.1.2.2.1
    have hkk := tkk_le (T := T) (L := L) (s := s)
    have fin : tkk T L s = 0 → Ends (pm_at tX2_readTape) (pm_Rt pm_P (d + 8)) (82, lv, [], h, 0, 0) (RtQ T L (prs T L (f + 1) n σ s) h0) := by
      intro k0
      rw [prs_end k0]
      exact E_ret rfl ⟨rfl, F, C, fun _ => D⟩
    refine E_il rfl L1 ?_
    refine E_ci 500 rfl (by decide) ?_
    by_cases b1 : 500 ≤ i
    · refine E_icT rfl (decide_eq_true ((nJ_le (by omega) (by omega)).mpr b1)) ?_
      exact fin (tk_0 (by omega)).1
    refine E_icF rfl (decide_eq_false (fun z => b1 ((nJ_le (by omega) (by omega)).mp z))) ?_
    refine E_al rfl L0 ?_
    refine E_ogf (q := (0, 4)) rfl hh rfl rfl c5 ?_
    by_cases b2 : tkk T L s = 0
    · refine E_ifT rfl (decide_eq_true ((nJ_eq0 (by omega)).mpr b2)) ?_
      exact fin b2
    refine E_ifF rfl (decide_eq_false (fun z => b2 ((nJ_eq0 (by omega)).mp z))) ?_
    refine E_al rfl L0 ?_
    refine E_ogf (q := (0, 3)) rfl hh rfl rfl C.2.2.1 ?_
    refine E_ifF rfl (by decide) ?_
    refine E_al rfl L0 ?_
    refine E_call rfl (sp_readLine (d := d) C D W (by omega)) (chkO (a := 3) hh rfl rfl rfl rfl (by show 0 ≤ 8; decide)) (fun h1 r1 => ?_)
    rintro ⟨e1, f1, C1, D1⟩
    have F1 : fr_g RtF h0 h1 := fr_trans F (fr_wk rfl f1)
    have sl := tkk_lt b2
    have bad : ∀ {e : Nat × Nat} {g : pm_H}, bS T L (ln T L n σ s).1 = .inl e → CS T L (.inl e) g → fr_g RtF h0 g → Ends (pm_at tX2_readTape) (pm_Rt pm_P (d + 8)) (76, lv, [], g, 0, 0) (RtQ T L (prs T L (f + 1) n σ s) h0) := by
      intro e g he Cg Fg
      refine E_inc rfl L1 (nJ_inc _) (fun lv1 K1 kp => ?_)
      refine E_goto rfl ?_
      exact rtp_bad lv1 (by rw [prs_bad b2 he]) Cg Fg (by omega) (kp 0 _ (by decide) rfl L0) K1
    cases x1 : (ln T L n σ s).1 with
    | inl e =>
      rw [x1] at e1 C1
      rw [isR_l] at e1
      rw [e1]
      refine E_ifT rfl (by decide) ?_
      exact bad (by rw [x1]; rfl) C1 F1
    | inr t =>
      have D1 := D1 (by rw [x1]; rfl)
      have W1 := Ws_ln W x1
      have ge := ge_ln (T := T) (n := n) (σ := σ) hs
      rw [x1] at e1 C1 ge
      rw [isR_r] at e1
      rw [e1]
      refine E_ifF rfl (by decide) ?_
      refine E_al rfl L0 ?_
      refine E_call rfl (Sp_le (by omega) (sp_takeSemi (d := d) C1)) (chkO (a := 3) C1.1.1 rfl rfl rfl rfl (by show 0 ≤ 8; decide)) (fun h2 r2 => ?_)
      rintro ⟨e2, f2, C2⟩
      have F2 : fr_g RtF h0 h2 := fr_trans F1 (fr_wk rfl f2)
      cases x2 : bS T L (.inr t) with
      | inl e =>
        rw [x2] at e2 C2
        rw [isR_l] at e2
        rw [e2]
        refine E_ifT rfl (by decide) ?_
        exact bad (by rw [x1]; exact x2) C2 F2
      | inr s' =>
        obtain ⟨t', et, k3, es⟩ := bS_in x2
        cases et
        have tl := tkk_lt (T := T) (L := L) (s := t) (by omega)
        have nx := nxt_le (T := T) (Nat.le_of_lt tl)
        have nx2 := nx.2.2 tl
        have ge1 : s ≤ t := ge.1
        rw [x2] at e2 C2
        rw [isR_r] at e2
        rw [e2]
        refine E_ifF rfl (by decide) ?_
        have hh2 : HH h2 := C2.1.1
        have D2 : CDr n (ln T L n σ s).2 h2 := by
          obtain ⟨q0, q1, q2, q3, q4, q5, q6, qc, qj, qm⟩ := D1
          exact ⟨by rw [fr_gi f2 rfl]; exact q0, by rw [fr_gi f2 rfl]; exact q1, by rw [fr_gi f2 rfl]; exact q2, by rw [fr_gi f2 rfl]; exact q3, by rw [fr_gi f2 rfl]; exact q4, by rw [fr_gi f2 rfl]; exact q5, by rw [fr_gi f2 rfl]; exact q6, fun i hi => by rw [fr_gi f2 (rg_no rfl _), fr_gi f2 (rg_no rfl _), fr_gi f2 (rg_no rfl _)]; exact qc i hi, fun i hi => by rw [fr_gi f2 (rg_no rfl _), fr_gi f2 (rg_no rfl _)]; exact qj i hi, fun z => ⟨by rw [fr_gi f2 rfl]; exact (qm z).1, (qm z).2.1, (qm z).2.2.1, fun k a c => by rw [fr_gi f2 (rg_no rfl _)]; exact (qm z).2.2.2 k a c⟩⟩
        refine E_al rfl L0 ?_
        refine E_ogr (q := 4) rfl hh2 rfl rfl ?_
        refine E_dup rfl rfl ?_
        refine E_ogf rfl hh2 rfl rfl D2.2.2.2.1 ?_
        refine E_ci 1 rfl (by decide) ?_
        refine E_bin rfl (nJ_add _ _) ?_
        refine E_opf rfl hh2 rfl rfl ?_
        have hh3 : HH (pt h2 4 3 (nJ (n + 1))) := HH_ptn hh2 rfl (by omega) (by omega) (by omega)
        refine E_inc rfl L1 (nJ_inc _) (fun lv1 K1 kp => ?_)
        refine E_goto rfl ?_
        rw [prs_go b2 (by rw [x1]; exact x2)]
        refine ih lv1 (CS_pt (by omega) hh3 C2) ?_ W1 (fr_ptr (l := 0) (u := 6) rfl (by omega) (by omega) F2) (by omega) (by omega) (by omega) (kp 0 _ (by decide) rfl L0) K1
        obtain ⟨q0, q1, q2, q3, q4, q5, q6, qc, qj, qm⟩ := D2
        exact ⟨by rw [gi_ne (by omega)]; exact q0, by rw [gi_ne (by omega)]; exact q1, by rw [gi_ne (by omega)]; exact q2, gi_ptn hh2 rfl (by omega) (by omega) (by omega), by rw [gi_ne (by omega)]; exact q4, by rw [gi_ne (by omega)]; exact q5, by rw [gi_ne (by omega)]; exact q6, fun i hi => by rw [gi_ne (by omega), gi_ne (by omega), gi_ne (by omega)]; exact qc i hi, fun i hi => by rw [gi_ne (by omega), gi_ne (by omega)]; exact qj i hi, fun z => ⟨by rw [gi_ne (by omega)]; exact (qm z).1, (qm z).2.1, (qm z).2.2.1, fun k a c => by rw [gi_ne (by omega)]; exact (qm z).2.2.2 k a c⟩⟩
theorem sp_readTape (A : TA T L h) : Sp (d + 9) 36 h [.ref 3] (RtQ T L (PRS T L) h) := by
  have hh : HH h := A.1
  refine Sp_of aiX2_readTape rfl rfl rfl ?_
  have L0 : pm_get (lv_args 0 [.ref 3]) 0 = some (.ref 3) := rfl
  generalize lv_args 0 [.ref 3] = lv at L0 ⊢
  refine E_al rfl L0 ?_
  refine E_ogr (q := 4) rfl hh rfl rfl ?_
  refine E_call rfl (Sp_le (by omega) (sp_clear (d := d) hh)) (chkO (a := 4) hh rfl rfl rfl rfl (by show 0 ≤ 8; decide)) (fun h1 r1 => ?_)
  rintro ⟨e1, hh1, f1, z1⟩
  rw [e1]
  have A1 := TA_fr f1 rfl rfl hh1 A
  refine E_al rfl L0 ?_
  refine E_ci 0 rfl (by decide) ?_
  refine E_opf (q := (0, 3)) rfl hh1 rfl rfl ?_
  have hh2 : HH (pt h1 3 1 (nJ 0)) := HH_ptn hh1 rfl (by omega) (by omega) (by omega)
  refine E_al rfl L0 ?_
  refine E_c rfl ?_
  refine E_opf (q := ((-1), 500)) rfl hh2 rfl rfl ?_
  have hh3 : HH (pt (pt h1 3 1 (nJ 0)) 3 2 (-1)) := HH_pt hh2 rfl (by decide) (by decide)
  refine E_al rfl L0 ?_
  refine E_ci 0 rfl (by decide) ?_
  refine E_opf (q := (0, 500)) rfl hh3 rfl rfl ?_
  have hh4 : HH (pt (pt (pt h1 3 1 (nJ 0)) 3 2 (-1)) 3 7 (nJ 0)) := HH_ptn hh3 rfl (by omega) (by omega) (by omega)
  have A4 := TA_pt (TA_pt (TA_pt A1 (by omega) hh2) (by omega) hh3) (by omega) hh4
  refine E_al rfl L0 ?_
  refine E_call rfl (Sp_le (by omega) (sp_readToken (d := d) (i := 0) A4 (Nat.zero_le _) (gi_ptn hh3 rfl (by omega) (by omega) (by omega)))) (chkO (a := 3) hh4 rfl rfl rfl rfl (by show 0 ≤ 8; decide)) (fun h5 r5 => ?_)
  rintro ⟨e5, hh5, f5, C5⟩
  rw [e5]
  refine E_ci 0 rfl (by decide) ?_
  refine E_is rfl (fun lv1 K1 kp => ?_)
  have e4 : ∀ a k, 4 ≤ a → gi h5 a k = gi h1 a k := fun a k ha => by
    rw [fr_gi f5 (rg_no (by have : Nat.beq 3 a = false := nbeqF (by omega); simp [this]) k), gi_ne (by omega), gi_ne (by omega), gi_ne (by omega)]
  have sk := skp_le (T := T) (L := L) (i := 0) (Nat.zero_le _)
  unfold PRS
  refine rtp_loop (d := d) (L + 1) lv1 (i := 0) ⟨TA_fr f5 rfl rfl hh5 A4, C5, ?_, ?_, sk.2⟩ ?_ (.inl ⟨rfl, rfl, rfl, rfl⟩) (fr_trans (fr_ptr (l := 5) (u := 9) rfl (by omega) (by omega) (fr_ptr (l := 1) (u := 2) rfl (by omega) (by omega) (fr_ptr (l := 1) (u := 2) rfl (by omega) (by omega) (fr_wk rfl f1)))) (fr_wk rfl f5)) (by omega) (Nat.zero_le _) (Nat.le_refl _) (kp 0 _ (by decide) rfl L0) K1
  · rw [fr_gi f5 rfl, gi_ne (by omega), gi_ne (by omega)]
    exact gi_ptn hh1 rfl (by omega) (by omega) (by omega)
  · rw [fr_gi f5 rfl, gi_ne (by omega)]
    exact gi_pt hh2 (q := ((-1), 500)) rfl (by decide) (by decide)
  · refine ⟨?_, ?_, ?_, ?_, ?_, ?_, ?_, fun i hi => absurd hi (Nat.not_lt_zero i), fun i hi => absurd hi (Nat.not_lt_zero i), fun z => absurd rfl z⟩
    · rw [e4 _ _ (by omega)]; exact z1 0 (by omega)
    · rw [e4 _ _ (by omega)]; exact z1 1 (by omega)
    · rw [e4 _ _ (by omega)]; exact z1 2 (by omega)
    · rw [e4 _ _ (by omega)]; exact z1 3 (by omega)
    · rw [e4 _ _ (by omega)]; exact z1 4 (by omega)
    · rw [e4 _ _ (by omega)]; exact z1 5 (by omega)
    · rw [e4 _ _ (by omega)]; exact z1 6 (by omega)
end CTP
