section
set_option maxRecDepth 100000 in
theorem dk_invokestatic {c : ByteArray} {p n : Nat} (h : bk3 c p 184 n = true) : decode c p = .ok (.invokestatic n, 3) := by
  obtain ⟨a, b⟩ := dk_3 h
  show Except.bind (Except.bind ((Reader.u1 : Decoder Nat) c p) _) _ = _
  rw [a]
  show Except.bind (Except.bind ((Reader.u2 : Decoder Nat) c (p + 1)) _) _ = _
  rw [b]
  show Except.ok (_, p + 1 + 1 + 1 - p) = _
  rw [show p + 1 + 1 + 1 - p = 3 by omega]
set_option maxRecDepth 100000 in
theorem dk_invokevirtual {c : ByteArray} {p n : Nat} (h : bk3 c p 182 n = true) : decode c p = .ok (.invokevirtual n, 3) := by
  obtain ⟨a, b⟩ := dk_3 h
  show Except.bind (Except.bind ((Reader.u1 : Decoder Nat) c p) _) _ = _
  rw [a]
  show Except.bind (Except.bind ((Reader.u2 : Decoder Nat) c (p + 1)) _) _ = _
  rw [b]
  show Except.ok (_, p + 1 + 1 + 1 - p) = _
  rw [show p + 1 + 1 + 1 - p = 3 by omega]
set_option maxRecDepth 100000 in
theorem dk_ldc2_w {c : ByteArray} {p n : Nat} (h : bk3 c p 20 n = true) : decode c p = .ok (.ldc2_w n, 3) := by
  obtain ⟨a, b⟩ := dk_3 h
  show Except.bind (Except.bind ((Reader.u1 : Decoder Nat) c p) _) _ = _
  rw [a]
  show Except.bind (Except.bind ((Reader.u2 : Decoder Nat) c (p + 1)) _) _ = _
  rw [b]
  show Except.ok (_, p + 1 + 1 + 1 - p) = _
  rw [show p + 1 + 1 + 1 - p = 3 by omega]
set_option maxRecDepth 100000 in
theorem dk_ldc_w {c : ByteArray} {p n : Nat} (h : bk3 c p 19 n = true) : decode c p = .ok (.ldc_w n, 3) := by
  obtain ⟨a, b⟩ := dk_3 h
  show Except.bind (Except.bind ((Reader.u1 : Decoder Nat) c p) _) _ = _
  rw [a]
  show Except.bind (Except.bind ((Reader.u2 : Decoder Nat) c (p + 1)) _) _ = _
  rw [b]
  show Except.ok (_, p + 1 + 1 + 1 - p) = _
  rw [show p + 1 + 1 + 1 - p = 3 by omega]
set_option maxRecDepth 100000 in
theorem dk_new {c : ByteArray} {p n : Nat} (h : bk3 c p 187 n = true) : decode c p = .ok (.new n, 3) := by
  obtain ⟨a, b⟩ := dk_3 h
  show Except.bind (Except.bind ((Reader.u1 : Decoder Nat) c p) _) _ = _
  rw [a]
  show Except.bind (Except.bind ((Reader.u2 : Decoder Nat) c (p + 1)) _) _ = _
  rw [b]
  show Except.ok (_, p + 1 + 1 + 1 - p) = _
  rw [show p + 1 + 1 + 1 - p = 3 by omega]
set_option maxRecDepth 100000 in
theorem dk_putfield {c : ByteArray} {p n : Nat} (h : bk3 c p 181 n = true) : decode c p = .ok (.putfield n, 3) := by
  obtain ⟨a, b⟩ := dk_3 h
  show Except.bind (Except.bind ((Reader.u1 : Decoder Nat) c p) _) _ = _
  rw [a]
  show Except.bind (Except.bind ((Reader.u2 : Decoder Nat) c (p + 1)) _) _ = _
  rw [b]
  show Except.ok (_, p + 1 + 1 + 1 - p) = _
  rw [show p + 1 + 1 + 1 - p = 3 by omega]
set_option maxRecDepth 100000 in
theorem dk_bipush {c : ByteArray} {p : Nat} {n : Int} (h : bkB c p 16 n = true) : decode c p = .ok (.bipush n, 2) := by
  obtain ⟨a, b⟩ := dk_B h
  show Except.bind (Except.bind ((Reader.u1 : Decoder Nat) c p) _) _ = _
  rw [a]
  show Except.bind (Except.bind ((Reader.s1 : Decoder Int) c (p + 1)) _) _ = _
  rw [b]
  show Except.ok (_, p + 1 + 1 - p) = _
  rw [show p + 1 + 1 - p = 2 by omega]
set_option maxRecDepth 100000 in
theorem dk_iinc {c : ByteArray} {p m : Nat} {n : Int} (h : bkI c p 132 m n = true) : decode c p = .ok (.iinc m n, 3) := by
  obtain ⟨a, b, d⟩ := dk_I h
  show Except.bind (Except.bind ((Reader.u1 : Decoder Nat) c p) _) _ = _
  rw [a]
  show Except.bind (Except.bind ((Reader.u1 : Decoder Nat) c (p + 1)) _) _ = _
  rw [b]
  show Except.bind (Except.bind ((Reader.s1 : Decoder Int) c (p + 1 + 1)) _) _ = _
  rw [d]
  show Except.ok (_, p + 1 + 1 + 1 - p) = _
  rw [show p + 1 + 1 + 1 - p = 3 by omega]
set_option maxRecDepth 100000 in
theorem dk_goto {c : ByteArray} {p : Nat} {n : Int} (h : bkS c p 167 n = true) : decode c p = .ok (.goto n, 3) := by
  obtain ⟨a, b⟩ := dk_S h
  show Except.bind (Except.bind ((Reader.u1 : Decoder Nat) c p) _) _ = _
  rw [a]
  show Except.bind (Except.bind ((Reader.s2 : Decoder Int) c (p + 1)) _) _ = _
  rw [b]
  show Except.ok (_, p + 1 + 1 + 1 - p) = _
  rw [show p + 1 + 1 + 1 - p = 3 by omega]
set_option maxRecDepth 100000 in
theorem dk_ifCond_eq {c : ByteArray} {p : Nat} {n : Int} (h : bkS c p 153 n = true) : decode c p = .ok (.ifCond .eq n, 3) := by
  obtain ⟨a, b⟩ := dk_S h
  show Except.bind (Except.bind ((Reader.u1 : Decoder Nat) c p) _) _ = _
  rw [a]
  show Except.bind (Except.bind ((Reader.s2 : Decoder Int) c (p + 1)) _) _ = _
  rw [b]
  show Except.ok (_, p + 1 + 1 + 1 - p) = _
  rw [show p + 1 + 1 + 1 - p = 3 by omega]
set_option maxRecDepth 100000 in
theorem dk_ifCond_ge {c : ByteArray} {p : Nat} {n : Int} (h : bkS c p 156 n = true) : decode c p = .ok (.ifCond .ge n, 3) := by
  obtain ⟨a, b⟩ := dk_S h
  show Except.bind (Except.bind ((Reader.u1 : Decoder Nat) c p) _) _ = _
  rw [a]
  show Except.bind (Except.bind ((Reader.s2 : Decoder Int) c (p + 1)) _) _ = _
  rw [b]
  show Except.ok (_, p + 1 + 1 + 1 - p) = _
  rw [show p + 1 + 1 + 1 - p = 3 by omega]
set_option maxRecDepth 100000 in
theorem dk_ifCond_gt {c : ByteArray} {p : Nat} {n : Int} (h : bkS c p 157 n = true) : decode c p = .ok (.ifCond .gt n, 3) := by
  obtain ⟨a, b⟩ := dk_S h
  show Except.bind (Except.bind ((Reader.u1 : Decoder Nat) c p) _) _ = _
  rw [a]
  show Except.bind (Except.bind ((Reader.s2 : Decoder Int) c (p + 1)) _) _ = _
  rw [b]
  show Except.ok (_, p + 1 + 1 + 1 - p) = _
  rw [show p + 1 + 1 + 1 - p = 3 by omega]
set_option maxRecDepth 100000 in
theorem dk_ifCond_le {c : ByteArray} {p : Nat} {n : Int} (h : bkS c p 158 n = true) : decode c p = .ok (.ifCond .le n, 3) := by
  obtain ⟨a, b⟩ := dk_S h
  show Except.bind (Except.bind ((Reader.u1 : Decoder Nat) c p) _) _ = _
  rw [a]
  show Except.bind (Except.bind ((Reader.s2 : Decoder Int) c (p + 1)) _) _ = _
  rw [b]
  show Except.ok (_, p + 1 + 1 + 1 - p) = _
  rw [show p + 1 + 1 + 1 - p = 3 by omega]
set_option maxRecDepth 100000 in
theorem dk_ifCond_lt {c : ByteArray} {p : Nat} {n : Int} (h : bkS c p 155 n = true) : decode c p = .ok (.ifCond .lt n, 3) := by
  obtain ⟨a, b⟩ := dk_S h
  show Except.bind (Except.bind ((Reader.u1 : Decoder Nat) c p) _) _ = _
  rw [a]
  show Except.bind (Except.bind ((Reader.s2 : Decoder Int) c (p + 1)) _) _ = _
  rw [b]
  show Except.ok (_, p + 1 + 1 + 1 - p) = _
  rw [show p + 1 + 1 + 1 - p = 3 by omega]
end
