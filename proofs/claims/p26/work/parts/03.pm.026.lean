section
set_option maxRecDepth 100000 in
theorem dk_lstore_n_2 {c : ByteArray} {p : Nat} (h : bk1 c p 65 = true) : decode c p = .ok (.lstore_n 2, 1) := by
  show Except.bind (Except.bind ((Reader.u1 : Decoder Nat) c p) _) _ = _
  rw [dk_1 h]
  show Except.ok (_, p + 1 - p) = _
  rw [Nat.add_sub_cancel_left]
set_option maxRecDepth 100000 in
theorem dk_lstore_n_3 {c : ByteArray} {p : Nat} (h : bk1 c p 66 = true) : decode c p = .ok (.lstore_n 3, 1) := by
  show Except.bind (Except.bind ((Reader.u1 : Decoder Nat) c p) _) _ = _
  rw [dk_1 h]
  show Except.ok (_, p + 1 - p) = _
  rw [Nat.add_sub_cancel_left]
set_option maxRecDepth 100000 in
theorem dk_lsub {c : ByteArray} {p : Nat} (h : bk1 c p 101 = true) : decode c p = .ok (.lsub, 1) := by
  show Except.bind (Except.bind ((Reader.u1 : Decoder Nat) c p) _) _ = _
  rw [dk_1 h]
  show Except.ok (_, p + 1 - p) = _
  rw [Nat.add_sub_cancel_left]
set_option maxRecDepth 100000 in
theorem dk_pop {c : ByteArray} {p : Nat} (h : bk1 c p 87 = true) : decode c p = .ok (.pop, 1) := by
  show Except.bind (Except.bind ((Reader.u1 : Decoder Nat) c p) _) _ = _
  rw [dk_1 h]
  show Except.ok (_, p + 1 - p) = _
  rw [Nat.add_sub_cancel_left]
set_option maxRecDepth 100000 in
theorem dk_pop2 {c : ByteArray} {p : Nat} (h : bk1 c p 88 = true) : decode c p = .ok (.pop2, 1) := by
  show Except.bind (Except.bind ((Reader.u1 : Decoder Nat) c p) _) _ = _
  rw [dk_1 h]
  show Except.ok (_, p + 1 - p) = _
  rw [Nat.add_sub_cancel_left]
set_option maxRecDepth 100000 in
theorem dk_return {c : ByteArray} {p : Nat} (h : bk1 c p 177 = true) : decode c p = .ok (.return_, 1) := by
  show Except.bind (Except.bind ((Reader.u1 : Decoder Nat) c p) _) _ = _
  rw [dk_1 h]
  show Except.ok (_, p + 1 - p) = _
  rw [Nat.add_sub_cancel_left]
set_option maxRecDepth 100000 in
theorem dk_aload {c : ByteArray} {p n : Nat} (h : bk2 c p 25 n = true) : decode c p = .ok (.aload n, 2) := by
  obtain ⟨a, b⟩ := dk_2 h
  show Except.bind (Except.bind ((Reader.u1 : Decoder Nat) c p) _) _ = _
  rw [a]
  show Except.bind (Except.bind ((Reader.u1 : Decoder Nat) c (p + 1)) _) _ = _
  rw [b]
  show Except.ok (_, p + 1 + 1 - p) = _
  rw [show p + 1 + 1 - p = 2 by omega]
set_option maxRecDepth 100000 in
theorem dk_astore {c : ByteArray} {p n : Nat} (h : bk2 c p 58 n = true) : decode c p = .ok (.astore n, 2) := by
  obtain ⟨a, b⟩ := dk_2 h
  show Except.bind (Except.bind ((Reader.u1 : Decoder Nat) c p) _) _ = _
  rw [a]
  show Except.bind (Except.bind ((Reader.u1 : Decoder Nat) c (p + 1)) _) _ = _
  rw [b]
  show Except.ok (_, p + 1 + 1 - p) = _
  rw [show p + 1 + 1 - p = 2 by omega]
set_option maxRecDepth 100000 in
theorem dk_iload {c : ByteArray} {p n : Nat} (h : bk2 c p 21 n = true) : decode c p = .ok (.iload n, 2) := by
  obtain ⟨a, b⟩ := dk_2 h
  show Except.bind (Except.bind ((Reader.u1 : Decoder Nat) c p) _) _ = _
  rw [a]
  show Except.bind (Except.bind ((Reader.u1 : Decoder Nat) c (p + 1)) _) _ = _
  rw [b]
  show Except.ok (_, p + 1 + 1 - p) = _
  rw [show p + 1 + 1 - p = 2 by omega]
set_option maxRecDepth 100000 in
theorem dk_istore {c : ByteArray} {p n : Nat} (h : bk2 c p 54 n = true) : decode c p = .ok (.istore n, 2) := by
  obtain ⟨a, b⟩ := dk_2 h
  show Except.bind (Except.bind ((Reader.u1 : Decoder Nat) c p) _) _ = _
  rw [a]
  show Except.bind (Except.bind ((Reader.u1 : Decoder Nat) c (p + 1)) _) _ = _
  rw [b]
  show Except.ok (_, p + 1 + 1 - p) = _
  rw [show p + 1 + 1 - p = 2 by omega]
set_option maxRecDepth 100000 in
theorem dk_ldc {c : ByteArray} {p n : Nat} (h : bk2 c p 18 n = true) : decode c p = .ok (.ldc n, 2) := by
  obtain ⟨a, b⟩ := dk_2 h
  show Except.bind (Except.bind ((Reader.u1 : Decoder Nat) c p) _) _ = _
  rw [a]
  show Except.bind (Except.bind ((Reader.u1 : Decoder Nat) c (p + 1)) _) _ = _
  rw [b]
  show Except.ok (_, p + 1 + 1 - p) = _
  rw [show p + 1 + 1 - p = 2 by omega]
set_option maxRecDepth 100000 in
theorem dk_lload {c : ByteArray} {p n : Nat} (h : bk2 c p 22 n = true) : decode c p = .ok (.lload n, 2) := by
  obtain ⟨a, b⟩ := dk_2 h
  show Except.bind (Except.bind ((Reader.u1 : Decoder Nat) c p) _) _ = _
  rw [a]
  show Except.bind (Except.bind ((Reader.u1 : Decoder Nat) c (p + 1)) _) _ = _
  rw [b]
  show Except.ok (_, p + 1 + 1 - p) = _
  rw [show p + 1 + 1 - p = 2 by omega]
set_option maxRecDepth 100000 in
theorem dk_lstore {c : ByteArray} {p n : Nat} (h : bk2 c p 55 n = true) : decode c p = .ok (.lstore n, 2) := by
  obtain ⟨a, b⟩ := dk_2 h
  show Except.bind (Except.bind ((Reader.u1 : Decoder Nat) c p) _) _ = _
  rw [a]
  show Except.bind (Except.bind ((Reader.u1 : Decoder Nat) c (p + 1)) _) _ = _
  rw [b]
  show Except.ok (_, p + 1 + 1 - p) = _
  rw [show p + 1 + 1 - p = 2 by omega]
set_option maxRecDepth 100000 in
theorem dk_anewarray {c : ByteArray} {p n : Nat} (h : bk3 c p 189 n = true) : decode c p = .ok (.anewarray n, 3) := by
  obtain ⟨a, b⟩ := dk_3 h
  show Except.bind (Except.bind ((Reader.u1 : Decoder Nat) c p) _) _ = _
  rw [a]
  show Except.bind (Except.bind ((Reader.u2 : Decoder Nat) c (p + 1)) _) _ = _
  rw [b]
  show Except.ok (_, p + 1 + 1 + 1 - p) = _
  rw [show p + 1 + 1 + 1 - p = 3 by omega]
set_option maxRecDepth 100000 in
theorem dk_getfield {c : ByteArray} {p n : Nat} (h : bk3 c p 180 n = true) : decode c p = .ok (.getfield n, 3) := by
  obtain ⟨a, b⟩ := dk_3 h
  show Except.bind (Except.bind ((Reader.u1 : Decoder Nat) c p) _) _ = _
  rw [a]
  show Except.bind (Except.bind ((Reader.u2 : Decoder Nat) c (p + 1)) _) _ = _
  rw [b]
  show Except.ok (_, p + 1 + 1 + 1 - p) = _
  rw [show p + 1 + 1 + 1 - p = 3 by omega]
set_option maxRecDepth 100000 in
theorem dk_getstatic {c : ByteArray} {p n : Nat} (h : bk3 c p 178 n = true) : decode c p = .ok (.getstatic n, 3) := by
  obtain ⟨a, b⟩ := dk_3 h
  show Except.bind (Except.bind ((Reader.u1 : Decoder Nat) c p) _) _ = _
  rw [a]
  show Except.bind (Except.bind ((Reader.u2 : Decoder Nat) c (p + 1)) _) _ = _
  rw [b]
  show Except.ok (_, p + 1 + 1 + 1 - p) = _
  rw [show p + 1 + 1 + 1 - p = 3 by omega]
set_option maxRecDepth 100000 in
theorem dk_invokespecial {c : ByteArray} {p n : Nat} (h : bk3 c p 183 n = true) : decode c p = .ok (.invokespecial n, 3) := by
  obtain ⟨a, b⟩ := dk_3 h
  show Except.bind (Except.bind ((Reader.u1 : Decoder Nat) c p) _) _ = _
  rw [a]
  show Except.bind (Except.bind ((Reader.u2 : Decoder Nat) c (p + 1)) _) _ = _
  rw [b]
  show Except.ok (_, p + 1 + 1 + 1 - p) = _
  rw [show p + 1 + 1 + 1 - p = 3 by omega]
end
