/-! a street's text, purely (wants t43, mg of 10.ztg) -/
/-- blocks of numbers, by joins -/
noncomputable def bl (A B : Nat → Nat) : Nat → Nat → Nat
  | 0 => fun k => k
  | j + 1 => mg (bl A B j) (A j) (B j)
/-- a number's block, were two blocks joined -/
noncomputable def wj (b : Nat → Nat) (x y k : Nat) : Nat := if b k = b x ∨ b k = b y then 0 else b k
noncomputable def XC (w : Nat → Nat) (n : Nat) : Prop := ∃ p q r s, 1 ≤ p ∧ p < q ∧ q < r ∧ r < s ∧ s ≤ n ∧ w p ≠ w q ∧ w p = w r ∧ w q = w s
noncomputable def MAY (n : Nat) (b : Nat → Nat) (x y : Nat) : Prop := b x ≠ b y ∧ ¬ XC (wj b x y) n
noncomputable def mayb (n : Nat) (b : Nat → Nat) (x y : Nat) : Bool := @decide (MAY n b x y) (Classical.propDecidable _)
theorem mayb_T {n x y : Nat} {b : Nat → Nat} (h : MAY n b x y) : mayb n b x y = true := @decide_eq_true _ (Classical.propDecidable _) h
theorem mayb_F {n x y : Nat} {b : Nat → Nat} (h : ¬ MAY n b x y) : mayb n b x y = false := @decide_eq_false _ (Classical.propDecidable _) h
/-- places, law, odds; cars, wishes, stands; joins -/
noncomputable abbrev Sg : Type := (Nat × Nat × Nat) × (Nat × (Nat → Nat) × (Nat → Nat)) × (Nat × (Nat → Nat) × (Nat → Nat))
noncomputable def fup (f : Nat → Nat) (i v : Nat) : Nat → Nat := fun k => if k = i then v else f k
section PRS
variable (T : Nat → Int32) (L : Nat)
noncomputable def bJ (n : Nat) (b : Nat → Nat) (a : Nat) : Px → Px
  | .inl f => .inl f
  | .inr s => bif okN T L 1 n s && !(mayb n b a (tkv T L s)) then .inl (2, s) else .inr s
noncomputable def wd (k : Nat) : List Int32 := pm_byt.getD k []
noncomputable def lnH (x : Px) : Px × (Nat × Nat × Nat) :=
  (bN T L 0 10 (bW T L (wd 3) (bN T L 0 3 (bW T L (wd 2) (bN T L 1 8 (bW T L (wd 1) (bW T L (wd 0) x)))))),
   bV T L 1 8 (bW T L (wd 1) (bW T L (wd 0) x)),
   bV T L 0 3 (bW T L (wd 2) (bN T L 1 8 (bW T L (wd 1) (bW T L (wd 0) x)))),
   bV T L 0 10 (bW T L (wd 3) (bN T L 0 3 (bW T L (wd 2) (bN T L 1 8 (bW T L (wd 1) (bW T L (wd 0) x)))))))
noncomputable def lnC (p : Nat) (x : Px) : Px × Nat × Nat :=
  (bN T L 0 99 (bW T L (wd 6) (bN T L 1 p (bW T L (wd 5) x))), bV T L 1 p (bW T L (wd 5) x), bV T L 0 99 (bW T L (wd 6) (bN T L 1 p (bW T L (wd 5) x))))
noncomputable def lnJ (n : Nat) (b : Nat → Nat) (x : Px) : Px × Nat × Nat :=
  (bN T L 1 n (bJ T L n b (bV T L 1 n x) (bN T L 1 n x)), bV T L 1 n x, bV T L 1 n (bJ T L n b (bV T L 1 n x) (bN T L 1 n x)))
/-- a line: how it ends, and what is told then -/
noncomputable def ln (n : Nat) (σ : Sg) (s : Nat) : Px × Sg :=
  bif Nat.beq n 0 then ((lnH T L (.inr s)).1, (lnH T L (.inr s)).2, σ.2.1, σ.2.2)
  else bif wIs T L s (wd 4) then
    (bif Nat.beq σ.2.1.1 σ.1.1 then (.inl (3, s), σ) else ((lnC T L σ.1.1 (.inr (nxt T L s))).1, σ.1, (σ.2.1.1 + 1, fup σ.2.1.2.1 σ.2.1.1 (lnC T L σ.1.1 (.inr (nxt T L s))).2.1, fup σ.2.1.2.2 σ.2.1.1 (lnC T L σ.1.1 (.inr (nxt T L s))).2.2), σ.2.2))
  else bif wIs T L s (wd 7) then
    ((lnJ T L (σ.1.1 + 1) (bl σ.2.2.2.1 σ.2.2.2.2 σ.2.2.1) (.inr (nxt T L s))).1, σ.1, σ.2.1, (σ.2.2.1 + 1, fup σ.2.2.2.1 σ.2.2.1 (lnJ T L (σ.1.1 + 1) (bl σ.2.2.2.1 σ.2.2.2.2 σ.2.2.1) (.inr (nxt T L s))).2.1, fup σ.2.2.2.2 σ.2.2.1 (lnJ T L (σ.1.1 + 1) (bl σ.2.2.2.1 σ.2.2.2.2 σ.2.2.1) (.inr (nxt T L s))).2.2))
  else (.inl (1, s), σ)
noncomputable def σ0 : Sg := ((0, 0, 0), (0, fun _ => 0, fun _ => 0), (0, fun _ => 0, fun _ => 0))
noncomputable def prs : Nat → Nat → Sg → Nat → Px × Nat × Sg
  | 0, n, σ, s => (.inr s, n, σ)
  | f + 1, n, σ, s => bif Nat.beq (tkk T L s) 0 then (.inr s, n, σ) else (match bS T L (ln T L n σ s).1 with
    | .inl e => (.inl e, n, σ)
    | .inr s' => prs f (n + 1) (ln T L n σ s).2 s')
/-- the whole text -/
noncomputable def PRS : Px × Nat × Sg := prs T L (L + 1) 0 σ0 (skp T L 0)
end PRS
section PRL
variable {T : Nat → Int32} {L : Nat}
theorem prs_end {f n s : Nat} {σ : Sg} (h : tkk T L s = 0) : prs T L (f + 1) n σ s = (.inr s, n, σ) := by
  show (bif Nat.beq (tkk T L s) 0 then _ else _) = _
  rw [nbeq.mpr h]
  rfl
theorem prs_bad {f n s : Nat} {σ : Sg} {e : Nat × Nat} (h : ¬ tkk T L s = 0) (hb : bS T L (ln T L n σ s).1 = .inl e) : prs T L (f + 1) n σ s = (.inl e, n, σ) := by
  show (bif Nat.beq (tkk T L s) 0 then _ else (match bS T L (ln T L n σ s).1 with | .inl e => _ | .inr s' => _)) = _
  rw [nbeqF h, hb]
  rfl
theorem prs_go {f n s s' : Nat} {σ : Sg} (h : ¬ tkk T L s = 0) (hb : bS T L (ln T L n σ s).1 = .inr s') : prs T L (f + 1) n σ s = prs T L f (n + 1) (ln T L n σ s).2 s' := by
  show (bif Nat.beq (tkk T L s) 0 then _ else (match bS T L (ln T L n σ s).1 with | .inl e => _ | .inr s' => _)) = _
  rw [nbeqF h, hb]
  rfl
theorem bW_in {W : List Int32} {x : Px} {s : Nat} (h : bW T L W x = .inr s) : ∃ t, x = .inr t ∧ wIs T L t W = true ∧ s = nxt T L t := by
  match x, h with
  | .inl e, h => cases h
  | .inr t, h =>
    cases hw : wIs T L t W with
    | true => rw [bW_T hw] at h; cases h; exact ⟨t, rfl, hw, rfl⟩
    | false => rw [bW_F hw] at h; cases h
theorem bN_in {lo hi : Nat} {x : Px} {s : Nat} (h : bN T L lo hi x = .inr s) : ∃ t, x = .inr t ∧ okN T L lo hi t = true ∧ s = nxt T L t := by
  match x, h with
  | .inl e, h => cases h
  | .inr t, h =>
    cases hw : okN T L lo hi t with
    | true => rw [(bN_T hw).1] at h; cases h; exact ⟨t, rfl, hw, rfl⟩
    | false => unfold bN at h; dsimp only at h; rw [hw] at h; cases h
theorem bS_in {x : Px} {s : Nat} (h : bS T L x = .inr s) : ∃ t, x = .inr t ∧ tkk T L t = 3 ∧ s = nxt T L t := by
  match x, h with
  | .inl e, h => cases h
  | .inr t, h =>
    by_cases hw : tkk T L t = 3
    · rw [bS_T hw] at h; cases h; exact ⟨t, rfl, hw, rfl⟩
    · rw [bS_F hw] at h; cases h
theorem bJ_in {n a : Nat} {b : Nat → Nat} {x : Px} {s : Nat} (h : bJ T L n b a x = .inr s) : x = .inr s := by
  match x, h with
  | .inl e, h => cases h
  | .inr t, h =>
    unfold bJ at h
    dsimp only at h
    cases hq : (okN T L 1 n t && !(mayb n b a (tkv T L t))) with
    | true => rw [hq] at h; cases h
    | false => rw [hq] at h; cases h; rfl
end PRL
