section
set_option maxRecDepth 100000 in
theorem dk_iushr {c : ByteArray} {p : Nat} (h : bk1 c p 124 = true) : decode c p = .ok (.iushr, 1) := by
  show Except.bind (Except.bind ((Reader.u1 : Decoder Nat) c p) _) _ = _
  rw [dk_1 h]
  show Except.ok (_, p + 1 - p) = _
  rw [Nat.add_sub_cancel_left]
set_option maxRecDepth 100000 in
theorem dk_ixor {c : ByteArray} {p : Nat} (h : bk1 c p 130 = true) : decode c p = .ok (.ixor, 1) := by
  show Except.bind (Except.bind ((Reader.u1 : Decoder Nat) c p) _) _ = _
  rw [dk_1 h]
  show Except.ok (_, p + 1 - p) = _
  rw [Nat.add_sub_cancel_left]
set_option maxRecDepth 100000 in
theorem dk_l2i {c : ByteArray} {p : Nat} (h : bk1 c p 136 = true) : decode c p = .ok (.l2i, 1) := by
  show Except.bind (Except.bind ((Reader.u1 : Decoder Nat) c p) _) _ = _
  rw [dk_1 h]
  show Except.ok (_, p + 1 - p) = _
  rw [Nat.add_sub_cancel_left]
set_option maxRecDepth 100000 in
theorem dk_ladd {c : ByteArray} {p : Nat} (h : bk1 c p 97 = true) : decode c p = .ok (.ladd, 1) := by
  show Except.bind (Except.bind ((Reader.u1 : Decoder Nat) c p) _) _ = _
  rw [dk_1 h]
  show Except.ok (_, p + 1 - p) = _
  rw [Nat.add_sub_cancel_left]
set_option maxRecDepth 100000 in
theorem dk_laload {c : ByteArray} {p : Nat} (h : bk1 c p 47 = true) : decode c p = .ok (.laload, 1) := by
  show Except.bind (Except.bind ((Reader.u1 : Decoder Nat) c p) _) _ = _
  rw [dk_1 h]
  show Except.ok (_, p + 1 - p) = _
  rw [Nat.add_sub_cancel_left]
set_option maxRecDepth 100000 in
theorem dk_land {c : ByteArray} {p : Nat} (h : bk1 c p 127 = true) : decode c p = .ok (.land, 1) := by
  show Except.bind (Except.bind ((Reader.u1 : Decoder Nat) c p) _) _ = _
  rw [dk_1 h]
  show Except.ok (_, p + 1 - p) = _
  rw [Nat.add_sub_cancel_left]
set_option maxRecDepth 100000 in
theorem dk_lastore {c : ByteArray} {p : Nat} (h : bk1 c p 80 = true) : decode c p = .ok (.lastore, 1) := by
  show Except.bind (Except.bind ((Reader.u1 : Decoder Nat) c p) _) _ = _
  rw [dk_1 h]
  show Except.ok (_, p + 1 - p) = _
  rw [Nat.add_sub_cancel_left]
set_option maxRecDepth 100000 in
theorem dk_lcmp {c : ByteArray} {p : Nat} (h : bk1 c p 148 = true) : decode c p = .ok (.lcmp, 1) := by
  show Except.bind (Except.bind ((Reader.u1 : Decoder Nat) c p) _) _ = _
  rw [dk_1 h]
  show Except.ok (_, p + 1 - p) = _
  rw [Nat.add_sub_cancel_left]
set_option maxRecDepth 100000 in
theorem dk_lconst_0 {c : ByteArray} {p : Nat} (h : bk1 c p 9 = true) : decode c p = .ok (.lconst 0, 1) := by
  show Except.bind (Except.bind ((Reader.u1 : Decoder Nat) c p) _) _ = _
  rw [dk_1 h]
  show Except.ok (_, p + 1 - p) = _
  rw [Nat.add_sub_cancel_left]
set_option maxRecDepth 100000 in
theorem dk_lconst_1 {c : ByteArray} {p : Nat} (h : bk1 c p 10 = true) : decode c p = .ok (.lconst 1, 1) := by
  show Except.bind (Except.bind ((Reader.u1 : Decoder Nat) c p) _) _ = _
  rw [dk_1 h]
  show Except.ok (_, p + 1 - p) = _
  rw [Nat.add_sub_cancel_left]
set_option maxRecDepth 100000 in
theorem dk_ldiv {c : ByteArray} {p : Nat} (h : bk1 c p 109 = true) : decode c p = .ok (.ldiv, 1) := by
  show Except.bind (Except.bind ((Reader.u1 : Decoder Nat) c p) _) _ = _
  rw [dk_1 h]
  show Except.ok (_, p + 1 - p) = _
  rw [Nat.add_sub_cancel_left]
set_option maxRecDepth 100000 in
theorem dk_lload_n_0 {c : ByteArray} {p : Nat} (h : bk1 c p 30 = true) : decode c p = .ok (.lload_n 0, 1) := by
  show Except.bind (Except.bind ((Reader.u1 : Decoder Nat) c p) _) _ = _
  rw [dk_1 h]
  show Except.ok (_, p + 1 - p) = _
  rw [Nat.add_sub_cancel_left]
set_option maxRecDepth 100000 in
theorem dk_lload_n_1 {c : ByteArray} {p : Nat} (h : bk1 c p 31 = true) : decode c p = .ok (.lload_n 1, 1) := by
  show Except.bind (Except.bind ((Reader.u1 : Decoder Nat) c p) _) _ = _
  rw [dk_1 h]
  show Except.ok (_, p + 1 - p) = _
  rw [Nat.add_sub_cancel_left]
set_option maxRecDepth 100000 in
theorem dk_lload_n_2 {c : ByteArray} {p : Nat} (h : bk1 c p 32 = true) : decode c p = .ok (.lload_n 2, 1) := by
  show Except.bind (Except.bind ((Reader.u1 : Decoder Nat) c p) _) _ = _
  rw [dk_1 h]
  show Except.ok (_, p + 1 - p) = _
  rw [Nat.add_sub_cancel_left]
set_option maxRecDepth 100000 in
theorem dk_lload_n_3 {c : ByteArray} {p : Nat} (h : bk1 c p 33 = true) : decode c p = .ok (.lload_n 3, 1) := by
  show Except.bind (Except.bind ((Reader.u1 : Decoder Nat) c p) _) _ = _
  rw [dk_1 h]
  show Except.ok (_, p + 1 - p) = _
  rw [Nat.add_sub_cancel_left]
set_option maxRecDepth 100000 in
theorem dk_lmul {c : ByteArray} {p : Nat} (h : bk1 c p 105 = true) : decode c p = .ok (.lmul, 1) := by
  show Except.bind (Except.bind ((Reader.u1 : Decoder Nat) c p) _) _ = _
  rw [dk_1 h]
  show Except.ok (_, p + 1 - p) = _
  rw [Nat.add_sub_cancel_left]
set_option maxRecDepth 100000 in
theorem dk_lneg {c : ByteArray} {p : Nat} (h : bk1 c p 117 = true) : decode c p = .ok (.lneg, 1) := by
  show Except.bind (Except.bind ((Reader.u1 : Decoder Nat) c p) _) _ = _
  rw [dk_1 h]
  show Except.ok (_, p + 1 - p) = _
  rw [Nat.add_sub_cancel_left]
set_option maxRecDepth 100000 in
theorem dk_lor {c : ByteArray} {p : Nat} (h : bk1 c p 129 = true) : decode c p = .ok (.lor, 1) := by
  show Except.bind (Except.bind ((Reader.u1 : Decoder Nat) c p) _) _ = _
  rw [dk_1 h]
  show Except.ok (_, p + 1 - p) = _
  rw [Nat.add_sub_cancel_left]
set_option maxRecDepth 100000 in
theorem dk_lrem {c : ByteArray} {p : Nat} (h : bk1 c p 113 = true) : decode c p = .ok (.lrem, 1) := by
  show Except.bind (Except.bind ((Reader.u1 : Decoder Nat) c p) _) _ = _
  rw [dk_1 h]
  show Except.ok (_, p + 1 - p) = _
  rw [Nat.add_sub_cancel_left]
set_option maxRecDepth 100000 in
theorem dk_lreturn {c : ByteArray} {p : Nat} (h : bk1 c p 173 = true) : decode c p = .ok (.lreturn, 1) := by
  show Except.bind (Except.bind ((Reader.u1 : Decoder Nat) c p) _) _ = _
  rw [dk_1 h]
  show Except.ok (_, p + 1 - p) = _
  rw [Nat.add_sub_cancel_left]
set_option maxRecDepth 100000 in
theorem dk_lshl {c : ByteArray} {p : Nat} (h : bk1 c p 121 = true) : decode c p = .ok (.lshl, 1) := by
  show Except.bind (Except.bind ((Reader.u1 : Decoder Nat) c p) _) _ = _
  rw [dk_1 h]
  show Except.ok (_, p + 1 - p) = _
  rw [Nat.add_sub_cancel_left]
end
