section
set_option maxRecDepth 100000 in
theorem dk_ifCond_ne {c : ByteArray} {p : Nat} {n : Int} (h : bkS c p 154 n = true) : decode c p = .ok (.ifCond .ne n, 3) := by
  obtain ⟨a, b⟩ := dk_S h
  show Except.bind (Except.bind ((Reader.u1 : Decoder Nat) c p) _) _ = _
  rw [a]
  show Except.bind (Except.bind ((Reader.s2 : Decoder Int) c (p + 1)) _) _ = _
  rw [b]
  show Except.ok (_, p + 1 + 1 + 1 - p) = _
  rw [show p + 1 + 1 + 1 - p = 3 by omega]
set_option maxRecDepth 100000 in
theorem dk_if_icmp_eq {c : ByteArray} {p : Nat} {n : Int} (h : bkS c p 159 n = true) : decode c p = .ok (.if_icmp .eq n, 3) := by
  obtain ⟨a, b⟩ := dk_S h
  show Except.bind (Except.bind ((Reader.u1 : Decoder Nat) c p) _) _ = _
  rw [a]
  show Except.bind (Except.bind ((Reader.s2 : Decoder Int) c (p + 1)) _) _ = _
  rw [b]
  show Except.ok (_, p + 1 + 1 + 1 - p) = _
  rw [show p + 1 + 1 + 1 - p = 3 by omega]
set_option maxRecDepth 100000 in
theorem dk_if_icmp_ge {c : ByteArray} {p : Nat} {n : Int} (h : bkS c p 162 n = true) : decode c p = .ok (.if_icmp .ge n, 3) := by
  obtain ⟨a, b⟩ := dk_S h
  show Except.bind (Except.bind ((Reader.u1 : Decoder Nat) c p) _) _ = _
  rw [a]
  show Except.bind (Except.bind ((Reader.s2 : Decoder Int) c (p + 1)) _) _ = _
  rw [b]
  show Except.ok (_, p + 1 + 1 + 1 - p) = _
  rw [show p + 1 + 1 + 1 - p = 3 by omega]
set_option maxRecDepth 100000 in
theorem dk_if_icmp_gt {c : ByteArray} {p : Nat} {n : Int} (h : bkS c p 163 n = true) : decode c p = .ok (.if_icmp .gt n, 3) := by
  obtain ⟨a, b⟩ := dk_S h
  show Except.bind (Except.bind ((Reader.u1 : Decoder Nat) c p) _) _ = _
  rw [a]
  show Except.bind (Except.bind ((Reader.s2 : Decoder Int) c (p + 1)) _) _ = _
  rw [b]
  show Except.ok (_, p + 1 + 1 + 1 - p) = _
  rw [show p + 1 + 1 + 1 - p = 3 by omega]
set_option maxRecDepth 100000 in
theorem dk_if_icmp_le {c : ByteArray} {p : Nat} {n : Int} (h : bkS c p 164 n = true) : decode c p = .ok (.if_icmp .le n, 3) := by
  obtain ⟨a, b⟩ := dk_S h
  show Except.bind (Except.bind ((Reader.u1 : Decoder Nat) c p) _) _ = _
  rw [a]
  show Except.bind (Except.bind ((Reader.s2 : Decoder Int) c (p + 1)) _) _ = _
  rw [b]
  show Except.ok (_, p + 1 + 1 + 1 - p) = _
  rw [show p + 1 + 1 + 1 - p = 3 by omega]
set_option maxRecDepth 100000 in
theorem dk_if_icmp_lt {c : ByteArray} {p : Nat} {n : Int} (h : bkS c p 161 n = true) : decode c p = .ok (.if_icmp .lt n, 3) := by
  obtain ⟨a, b⟩ := dk_S h
  show Except.bind (Except.bind ((Reader.u1 : Decoder Nat) c p) _) _ = _
  rw [a]
  show Except.bind (Except.bind ((Reader.s2 : Decoder Int) c (p + 1)) _) _ = _
  rw [b]
  show Except.ok (_, p + 1 + 1 + 1 - p) = _
  rw [show p + 1 + 1 + 1 - p = 3 by omega]
set_option maxRecDepth 100000 in
theorem dk_if_icmp_ne {c : ByteArray} {p : Nat} {n : Int} (h : bkS c p 160 n = true) : decode c p = .ok (.if_icmp .ne n, 3) := by
  obtain ⟨a, b⟩ := dk_S h
  show Except.bind (Except.bind ((Reader.u1 : Decoder Nat) c p) _) _ = _
  rw [a]
  show Except.bind (Except.bind ((Reader.s2 : Decoder Int) c (p + 1)) _) _ = _
  rw [b]
  show Except.ok (_, p + 1 + 1 + 1 - p) = _
  rw [show p + 1 + 1 + 1 - p = 3 by omega]
set_option maxRecDepth 100000 in
theorem dk_sipush {c : ByteArray} {p : Nat} {n : Int} (h : bkS c p 17 n = true) : decode c p = .ok (.sipush n, 3) := by
  obtain ⟨a, b⟩ := dk_S h
  show Except.bind (Except.bind ((Reader.u1 : Decoder Nat) c p) _) _ = _
  rw [a]
  show Except.bind (Except.bind ((Reader.s2 : Decoder Int) c (p + 1)) _) _ = _
  rw [b]
  show Except.ok (_, p + 1 + 1 + 1 - p) = _
  rw [show p + 1 + 1 + 1 - p = 3 by omega]
end
section
/-! rows that check themselves: what a row may lean on is a method's bytes, class, locals, and what its pool says (written by arw.py) -/
noncomputable abbrev PL : Type := List (Nat × Nat × Nat) × List (Nat × Nat × Nat × FieldType) × List (Nat × Int32) × List (Nat × Int64)
noncomputable abbrev PX : Type := (ByteArray × String × Nat × Bool) × PL
noncomputable def px_g (own : String) (L : PL) : Prop := (∀ e ∈ L.1, ∀ (cc : ByteArray) (nL : Nat) (ini : Bool) (pc : Nat), bk3 cc pc 180 e.1 = true → pm_okF cc own nL ini pc (s_getf e.2.1 e.2.2 (pc + 3))) ∧ (∀ e ∈ L.2.1, ∀ (cc : ByteArray) (nL : Nat) (ini : Bool) (pc : Nat), bk3 cc pc 181 e.1 = true → pm_okF cc own nL ini pc (s_putf e.2.1 e.2.2.1 e.2.2.2 (pc + 3))) ∧ (∀ e ∈ L.2.2.1, Cond.constant own e.1 e.2 ∈ pm_T) ∧ ∀ e ∈ L.2.2.2, Cond.constantLong own e.1 e.2 ∈ pm_T
noncomputable def rw_g (f : pm_S → Option pm_S) (c : PX → Nat → Bool) : Prop := ∀ (X : PX) (pc : Nat), px_g X.1.2.1 X.2 → c X pc = true → pm_okF X.1.1 X.1.2.1 X.1.2.2.1 X.1.2.2.2 pc f
theorem ck_and {a b : Bool} (h : (a && b) = true) : a = true ∧ b = true := by rwa [Bool.and_eq_true] at h
theorem ck_or {a b : Bool} (h : (a || b) = true) : a = true ∨ b = true := by rwa [Bool.or_eq_true] at h
noncomputable def ck_no (_ : PX) (_ : Nat) : Bool := false
theorem ck_no_ok {f : pm_S → Option pm_S} : rw_g f ck_no := fun _ _ _ h => by cases h
noncomputable def ck_1 (o n : Nat) (X : PX) (pc : Nat) : Bool := Nat.beq n (pc + 1) && bk1 X.1.1 pc o
theorem ck_1_ok {o : Nat} {g : Nat → pm_S → Option pm_S} (k : ∀ (cc : ByteArray) (own : String) (nL : Nat) (ini : Bool) (pc : Nat), bk1 cc pc o = true → pm_okF cc own nL ini pc (g (pc + 1))) (n : Nat) : rw_g (g n) (ck_1 o n) := by
  intro X pc _ h
  obtain ⟨h1, h2⟩ := ck_and h
  rw [Nat.eq_of_beq_eq_true h1]
  exact k _ _ _ _ _ h2
noncomputable def ck_ld (b o i n : Nat) (X : PX) (pc : Nat) : Bool := (Nat.beq n (pc + 1) && (Nat.blt i 4 && bk1 X.1.1 pc (b + i))) || (Nat.beq n (pc + 2) && bk2 X.1.1 pc o i)
theorem ck_ld_ok {b o : Nat} {g : Nat → Nat → pm_S → Option pm_S} (k0 : ∀ (cc : ByteArray) (own : String) (nL : Nat) (ini : Bool) (pc i : Nat), i < 4 → bk1 cc pc (b + i) = true → pm_okF cc own nL ini pc (g i (pc + 1))) (k : ∀ (cc : ByteArray) (own : String) (nL : Nat) (ini : Bool) (pc i : Nat), bk2 cc pc o i = true → pm_okF cc own nL ini pc (g i (pc + 2))) (i n : Nat) : rw_g (g i n) (ck_ld b o i n) := by
  intro X pc _ h
  rcases ck_or h with h | h
  · obtain ⟨h1, h2⟩ := ck_and h
    obtain ⟨h2, h3⟩ := ck_and h2
    rw [Nat.eq_of_beq_eq_true h1]
    exact k0 _ _ _ _ _ _ (Nat.le_of_ble_eq_true h2) h3
  · obtain ⟨h1, h2⟩ := ck_and h
    rw [Nat.eq_of_beq_eq_true h1]
    exact k _ _ _ _ _ _ h2
noncomputable def ck_st (b o e i n : Nat) (X : PX) (pc : Nat) : Bool := Nat.blt (i + e) X.1.2.2.1 && ((Nat.beq n (pc + 1) && (Nat.blt i 4 && bk1 X.1.1 pc (b + i))) || (Nat.beq n (pc + 2) && bk2 X.1.1 pc o i))
end
