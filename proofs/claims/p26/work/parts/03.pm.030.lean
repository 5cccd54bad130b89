section
noncomputable def ck_cl (v : Int64) (n : Nat) (X : PX) (pc : Nat) : Bool := (Nat.beq n (pc + 1) && ((bk1 X.1.1 pc 9 && decide (Int64.ofNat 0 = v)) || (bk1 X.1.1 pc 10 && decide (Int64.ofNat 1 = v)))) || (Nat.beq n (pc + 3) && X.2.2.2.2.any (fun e => bk3 X.1.1 pc 20 e.1 && decide (e.2 = v)))
theorem ck_cl_ok (v : Int64) (n : Nat) : rw_g (s_const (.long v) n) (ck_cl v n) := by
  intro X pc g h
  rcases ck_or h with h | h
  · obtain ⟨h1, h⟩ := ck_and h
    rw [Nat.eq_of_beq_eq_true h1]
    rcases ck_or h with h | h
    · obtain ⟨h2, h3⟩ := ck_and h; exact k_lconst (dk_lconst_0 h2) (of_decide_eq_true h3)
    · obtain ⟨h2, h3⟩ := ck_and h; exact k_lconst (dk_lconst_1 h2) (of_decide_eq_true h3)
  · obtain ⟨h1, h⟩ := ck_and h
    rw [Nat.eq_of_beq_eq_true h1]
    obtain ⟨e, he, h⟩ := List.any_eq_true.mp h
    obtain ⟨h2, h3⟩ := ck_and h
    rw [← of_decide_eq_true h3]
    exact k_ldc2 (dk_ldc2_w h2) (g.2.2.2 e he)
noncomputable def ck_const (v : Value) (n : Nat) : PX → Nat → Bool := match v with
  | .int x => ck_ci x n
  | .long x => ck_cl x n
  | _ => ck_no
theorem ck_const_ok (v : Value) (n : Nat) : rw_g (s_const v n) (ck_const v n) := by
  unfold ck_const
  split
  · exact ck_ci_ok _ n
  · exact ck_cl_ok _ n
  · exact ck_no_ok
noncomputable def ck_aa (t n : Nat) (X : PX) (pc : Nat) : Bool := Nat.beq n (pc + 1) && (bk1 X.1.1 pc 50 && (Nat.beq t 4 || Nat.beq t 5))
theorem ck_aa_ok (t n : Nat) : rw_g (s_aald t n) (ck_aa t n) := by
  intro X pc _ h
  obtain ⟨h1, h⟩ := ck_and h
  obtain ⟨h2, h⟩ := ck_and h
  rw [Nat.eq_of_beq_eq_true h1]
  rcases ck_or h with h | h
  · rw [Nat.eq_of_beq_eq_true h]; exact k_aald (C := RX5) (fun _ => rfl) (dk_aaload h2)
  · rw [Nat.eq_of_beq_eq_true h]; exact k_aald (C := RX4) (fun _ => rfl) (dk_aaload h2)
theorem ck_il_ok : ∀ (i n : Nat), rw_g (s_il i n) (ck_ld 26 21 i n) := ck_ld_ok (fun cc own nL ini pc i h4 h => ck_4 (P := fun i => bk1 cc pc (26 + i) = true → pm_okF cc own nL ini pc (s_il i (pc + 1))) (fun h => k_iload_n (dk_iload_n_0 h) rfl) (fun h => k_iload_n (dk_iload_n_1 h) rfl) (fun h => k_iload_n (dk_iload_n_2 h) rfl) (fun h => k_iload_n (dk_iload_n_3 h) rfl) i h4 h) (fun _ _ _ _ _ _ h => k_iload (dk_iload h))
theorem ck_ll_ok : ∀ (i n : Nat), rw_g (s_ll i n) (ck_ld 30 22 i n) := ck_ld_ok (fun cc own nL ini pc i h4 h => ck_4 (P := fun i => bk1 cc pc (30 + i) = true → pm_okF cc own nL ini pc (s_ll i (pc + 1))) (fun h => k_lload_n (dk_lload_n_0 h) rfl) (fun h => k_lload_n (dk_lload_n_1 h) rfl) (fun h => k_lload_n (dk_lload_n_2 h) rfl) (fun h => k_lload_n (dk_lload_n_3 h) rfl) i h4 h) (fun _ _ _ _ _ _ h => k_lload (dk_lload h))
theorem ck_al_ok : ∀ (i n : Nat), rw_g (s_al i n) (ck_ld 42 25 i n) := ck_ld_ok (fun cc own nL ini pc i h4 h => ck_4 (P := fun i => bk1 cc pc (42 + i) = true → pm_okF cc own nL ini pc (s_al i (pc + 1))) (fun h => k_aload_n (dk_aload_n_0 h) rfl) (fun h => k_aload_n (dk_aload_n_1 h) rfl) (fun h => k_aload_n (dk_aload_n_2 h) rfl) (fun h => k_aload_n (dk_aload_n_3 h) rfl) i h4 h) (fun _ _ _ _ _ _ h => k_aload (dk_aload h))
theorem ck_is_ok : ∀ (i n : Nat), rw_g (s_is i n) (ck_st 59 54 0 i n) := ck_st_ok (fun cc own nL ini pc i hn h4 h => ck_4 (P := fun i => i + 0 < nL → bk1 cc pc (59 + i) = true → pm_okF cc own nL ini pc (s_is i (pc + 1))) (fun hn h => k_istore_n (dk_istore_n_0 h) rfl hn) (fun hn h => k_istore_n (dk_istore_n_1 h) rfl hn) (fun hn h => k_istore_n (dk_istore_n_2 h) rfl hn) (fun hn h => k_istore_n (dk_istore_n_3 h) rfl hn) i h4 hn h) (fun _ _ _ _ _ _ hn h => k_istore (dk_istore h) hn)
noncomputable def ck_ls (i n : Nat) (X : PX) (pc : Nat) : Bool := Nat.blt (i + 1) X.1.2.2.1 && ((Nat.beq n (pc + 1) && (Nat.beq i 2 && bk1 X.1.1 pc 65)) || ((Nat.beq n (pc + 1) && (Nat.beq i 3 && bk1 X.1.1 pc 66)) || ((Nat.beq n (pc + 2) && bk2 X.1.1 pc 55 i))))
theorem ck_ls_ok (i n : Nat) : rw_g (s_ls i n) (ck_ls i n) := by
  intro X pc _ h
  obtain ⟨h0, h⟩ := ck_and h
  have h0 : i + 1 < X.1.2.2.1 := Nat.le_of_ble_eq_true h0
  rcases ck_or h with h | h
  · obtain ⟨h1, h⟩ := ck_and h; obtain ⟨h2, h3⟩ := ck_and h; rw [Nat.eq_of_beq_eq_true h1]; have e := Nat.eq_of_beq_eq_true h2; subst e; exact k_lstore_n (dk_lstore_n_2 h3) rfl h0
  rcases ck_or h with h | h
  · obtain ⟨h1, h⟩ := ck_and h; obtain ⟨h2, h3⟩ := ck_and h; rw [Nat.eq_of_beq_eq_true h1]; have e := Nat.eq_of_beq_eq_true h2; subst e; exact k_lstore_n (dk_lstore_n_3 h3) rfl h0
  obtain ⟨h1, h⟩ := ck_and h; rw [Nat.eq_of_beq_eq_true h1]; exact k_lstore (dk_lstore h) h0
noncomputable def ck_as (i n : Nat) (X : PX) (pc : Nat) : Bool := Nat.blt (i + 0) X.1.2.2.1 && ((Nat.beq n (pc + 1) && (Nat.beq i 1 && bk1 X.1.1 pc 76)) || ((Nat.beq n (pc + 1) && (Nat.beq i 2 && bk1 X.1.1 pc 77)) || ((Nat.beq n (pc + 1) && (Nat.beq i 3 && bk1 X.1.1 pc 78)) || ((Nat.beq n (pc + 2) && bk2 X.1.1 pc 58 i)))))
theorem ck_as_ok (i n : Nat) : rw_g (s_as i n) (ck_as i n) := by
  intro X pc _ h
  obtain ⟨h0, h⟩ := ck_and h
  have h0 : i + 0 < X.1.2.2.1 := Nat.le_of_ble_eq_true h0
  rcases ck_or h with h | h
  · obtain ⟨h1, h⟩ := ck_and h; obtain ⟨h2, h3⟩ := ck_and h; rw [Nat.eq_of_beq_eq_true h1]; have e := Nat.eq_of_beq_eq_true h2; subst e; exact k_astore_n (dk_astore_n_1 h3) rfl h0
  rcases ck_or h with h | h
  · obtain ⟨h1, h⟩ := ck_and h; obtain ⟨h2, h3⟩ := ck_and h; rw [Nat.eq_of_beq_eq_true h1]; have e := Nat.eq_of_beq_eq_true h2; subst e; exact k_astore_n (dk_astore_n_2 h3) rfl h0
  rcases ck_or h with h | h
  · obtain ⟨h1, h⟩ := ck_and h; obtain ⟨h2, h3⟩ := ck_and h; rw [Nat.eq_of_beq_eq_true h1]; have e := Nat.eq_of_beq_eq_true h2; subst e; exact k_astore_n (dk_astore_n_3 h3) rfl h0
  obtain ⟨h1, h⟩ := ck_and h; rw [Nat.eq_of_beq_eq_true h1]; exact k_astore (dk_astore h) h0
end
section
/-! THE EXECUTOR (second writing), part 1: abstract values, heaps, states -/
/-- an int or a long is a symbol (or none) and an offset; references by their numbers -/
noncomputable abbrev AV : Type := (Option Nat × Int) ⊕ ((Option Nat × Int) ⊕ (Nat ⊕ (Nat ⊕ Unit)))
/-- the kinds that stand in certificates -/
noncomputable abbrev CV : Type := (Int × Int) ⊕ ((Int × Int) ⊕ (Nat ⊕ (Nat ⊕ Unit)))
noncomputable def av_ev (n : Nat) (ρ : Nat → Int) (k : Option Nat) (o : Int) (v : Int) : Prop := match k with
  | none => v = o
  | some k => k < n ∧ v = ρ k + o
end
