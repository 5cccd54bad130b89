section
theorem ck_st_ok {b o e : Nat} {g : Nat → Nat → pm_S → Option pm_S} (k0 : ∀ (cc : ByteArray) (own : String) (nL : Nat) (ini : Bool) (pc i : Nat), i + e < nL → i < 4 → bk1 cc pc (b + i) = true → pm_okF cc own nL ini pc (g i (pc + 1))) (k : ∀ (cc : ByteArray) (own : String) (nL : Nat) (ini : Bool) (pc i : Nat), i + e < nL → bk2 cc pc o i = true → pm_okF cc own nL ini pc (g i (pc + 2))) (i n : Nat) : rw_g (g i n) (ck_st b o e i n) := by
  intro X pc _ h
  obtain ⟨h0, h⟩ := ck_and h
  have h0 := Nat.le_of_ble_eq_true h0
  rcases ck_or h with h | h
  · obtain ⟨h1, h2⟩ := ck_and h
    obtain ⟨h2, h3⟩ := ck_and h2
    rw [Nat.eq_of_beq_eq_true h1]
    exact k0 _ _ _ _ _ _ h0 (Nat.le_of_ble_eq_true h2) h3
  · obtain ⟨h1, h2⟩ := ck_and h
    rw [Nat.eq_of_beq_eq_true h1]
    exact k _ _ _ _ _ _ h0 h2
theorem ck_4 {P : Nat → Prop} (h0 : P 0) (h1 : P 1) (h2 : P 2) (h3 : P 3) : ∀ i, i < 4 → P i
  | 0, _ => h0
  | 1, _ => h1
  | 2, _ => h2
  | 3, _ => h3
  | i + 4, h => absurd h (by omega)
noncomputable def ck_if (o t n : Nat) (X : PX) (pc : Nat) : Bool := Nat.beq n (pc + 3) && bkS X.1.1 pc o ((t : Int) - (pc : Int))
theorem ck_if_ok {o : Nat} {g : Nat → Nat → pm_S → Option pm_S} (k : ∀ (cc : ByteArray) (own : String) (nL : Nat) (ini : Bool) (pc : Nat) (off : Int) (t : Nat), bkS cc pc o off = true → (pc : Int) + off = (t : Int) → pm_okF cc own nL ini pc (g t (pc + 3))) (t n : Nat) : rw_g (g t n) (ck_if o t n) := by
  intro X pc _ h
  obtain ⟨h1, h2⟩ := ck_and h
  rw [Nat.eq_of_beq_eq_true h1]
  exact k _ _ _ _ _ _ _ h2 (by omega)
noncomputable def ck_goto (t : Nat) (X : PX) (pc : Nat) : Bool := bkS X.1.1 pc 167 ((t : Int) - (pc : Int))
theorem ck_goto_ok (t : Nat) : rw_g (s_goto t) (ck_goto t) := fun _ _ _ h => k_goto (dk_goto h) (by omega)
noncomputable def ck_inc (i : Nat) (d : Int32) (n : Nat) (X : PX) (pc : Nat) : Bool := Nat.beq n (pc + 3) && (Nat.blt i X.1.2.2.1 && (bkI X.1.1 pc 132 i d.toInt && decide (Int32.ofInt d.toInt = d)))
theorem ck_inc_ok (i : Nat) (d : Int32) (n : Nat) : rw_g (s_inc i d n) (ck_inc i d n) := by
  intro X pc _ h
  obtain ⟨h1, h⟩ := ck_and h
  obtain ⟨h2, h⟩ := ck_and h
  obtain ⟨h3, h4⟩ := ck_and h
  rw [Nat.eq_of_beq_eq_true h1]
  exact k_iinc (dk_iinc h3) (of_decide_eq_true h4) (Nat.le_of_ble_eq_true h2)
noncomputable def ck_gf (ci k n : Nat) (X : PX) (pc : Nat) : Bool := Nat.beq n (pc + 3) && X.2.1.any (fun e => Nat.beq e.2.1 ci && (Nat.beq e.2.2 k && bk3 X.1.1 pc 180 e.1))
theorem ck_gf_ok (ci k n : Nat) : rw_g (s_getf ci k n) (ck_gf ci k n) := by
  intro X pc g h
  obtain ⟨h1, h⟩ := ck_and h
  obtain ⟨e, he, h⟩ := List.any_eq_true.mp h
  obtain ⟨h2, h⟩ := ck_and h
  obtain ⟨h3, h4⟩ := ck_and h
  rw [Nat.eq_of_beq_eq_true h1, ← Nat.eq_of_beq_eq_true h2, ← Nat.eq_of_beq_eq_true h3]
  exact g.1 e he _ _ _ _ h4
noncomputable def ck_pf (ci k : Nat) (ty : FieldType) (n : Nat) (X : PX) (pc : Nat) : Bool := Nat.beq n (pc + 3) && X.2.2.1.any (fun e => Nat.beq e.2.1 ci && (Nat.beq e.2.2.1 k && (decide (e.2.2.2 = ty) && bk3 X.1.1 pc 181 e.1)))
theorem ck_pf_ok (ci k : Nat) (ty : FieldType) (n : Nat) : rw_g (s_putf ci k ty n) (ck_pf ci k ty n) := by
  intro X pc g h
  obtain ⟨h1, h⟩ := ck_and h
  obtain ⟨e, he, h⟩ := List.any_eq_true.mp h
  obtain ⟨h2, h⟩ := ck_and h
  obtain ⟨h3, h⟩ := ck_and h
  obtain ⟨h4, h5⟩ := ck_and h
  rw [Nat.eq_of_beq_eq_true h1, ← Nat.eq_of_beq_eq_true h2, ← Nat.eq_of_beq_eq_true h3, ← of_decide_eq_true h4]
  exact g.2.1 e he _ _ _ _ h5
noncomputable def ck_ic (v : Int32) (c : ByteArray) (pc : Nat) : Bool := (bk1 c pc 2 && decide (Int32.ofInt (-1) = v)) || ((bk1 c pc 3 && decide (Int32.ofInt 0 = v)) || ((bk1 c pc 4 && decide (Int32.ofInt 1 = v)) || ((bk1 c pc 5 && decide (Int32.ofInt 2 = v)) || ((bk1 c pc 6 && decide (Int32.ofInt 3 = v)) || ((bk1 c pc 7 && decide (Int32.ofInt 4 = v)) || (bk1 c pc 8 && decide (Int32.ofInt 5 = v)))))))
theorem ck_ic_ok {v : Int32} {cc : ByteArray} {own : String} {nL pc : Nat} {ini : Bool} (h : ck_ic v cc pc = true) : pm_okF cc own nL ini pc (s_const (.int v) (pc + 1)) := by
  rcases ck_or h with h | h
  · obtain ⟨h1, h2⟩ := ck_and h; exact k_iconst (dk_iconst_m h1) (of_decide_eq_true h2)
  rcases ck_or h with h | h
  · obtain ⟨h1, h2⟩ := ck_and h; exact k_iconst (dk_iconst_0 h1) (of_decide_eq_true h2)
  rcases ck_or h with h | h
  · obtain ⟨h1, h2⟩ := ck_and h; exact k_iconst (dk_iconst_1 h1) (of_decide_eq_true h2)
  rcases ck_or h with h | h
  · obtain ⟨h1, h2⟩ := ck_and h; exact k_iconst (dk_iconst_2 h1) (of_decide_eq_true h2)
  rcases ck_or h with h | h
  · obtain ⟨h1, h2⟩ := ck_and h; exact k_iconst (dk_iconst_3 h1) (of_decide_eq_true h2)
  rcases ck_or h with h | h
  · obtain ⟨h1, h2⟩ := ck_and h; exact k_iconst (dk_iconst_4 h1) (of_decide_eq_true h2)
  obtain ⟨h1, h2⟩ := ck_and h; exact k_iconst (dk_iconst_5 h1) (of_decide_eq_true h2)
noncomputable def ck_ci (v : Int32) (n : Nat) (X : PX) (pc : Nat) : Bool := (Nat.beq n (pc + 1) && ck_ic v X.1.1 pc) || ((Nat.beq n (pc + 2) && ((bkB X.1.1 pc 16 v.toInt && decide ((Int8.ofInt v.toInt).toInt32 = v)) || X.2.2.2.1.any (fun e => bk2 X.1.1 pc 18 e.1 && decide (e.2 = v)))) || (Nat.beq n (pc + 3) && ((bkS X.1.1 pc 17 v.toInt && decide ((Int16.ofInt v.toInt).toInt32 = v)) || X.2.2.2.1.any (fun e => bk3 X.1.1 pc 19 e.1 && decide (e.2 = v)))))
theorem ck_ci_ok (v : Int32) (n : Nat) : rw_g (s_const (.int v) n) (ck_ci v n) := by
  intro X pc g h
  rcases ck_or h with h | h
  · obtain ⟨h1, h⟩ := ck_and h
    rw [Nat.eq_of_beq_eq_true h1]
    exact ck_ic_ok h
  rcases ck_or h with h | h
  · obtain ⟨h1, h⟩ := ck_and h
    rw [Nat.eq_of_beq_eq_true h1]
    rcases ck_or h with h | h
    · obtain ⟨h2, h3⟩ := ck_and h; exact k_bipush (dk_bipush h2) (of_decide_eq_true h3)
    · obtain ⟨e, he, h⟩ := List.any_eq_true.mp h
      obtain ⟨h2, h3⟩ := ck_and h
      rw [← of_decide_eq_true h3]
      exact k_ldc (dk_ldc h2) (g.2.2.1 e he)
  · obtain ⟨h1, h⟩ := ck_and h
    rw [Nat.eq_of_beq_eq_true h1]
    rcases ck_or h with h | h
    · obtain ⟨h2, h3⟩ := ck_and h; exact k_sipush (dk_sipush h2) (of_decide_eq_true h3)
    · obtain ⟨e, he, h⟩ := List.any_eq_true.mp h
      obtain ⟨h2, h3⟩ := ck_and h
      rw [← of_decide_eq_true h3]
      exact k_ldcw (dk_ldc_w h2) (g.2.2.1 e he)
end
