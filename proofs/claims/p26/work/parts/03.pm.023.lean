section
set_option maxRecDepth 100000 in
theorem dk_aload_n_2 {c : ByteArray} {p : Nat} (h : bk1 c p 44 = true) : decode c p = .ok (.aload_n 2, 1) := by
  show Except.bind (Except.bind ((Reader.u1 : Decoder Nat) c p) _) _ = _
  rw [dk_1 h]
  show Except.ok (_, p + 1 - p) = _
  rw [Nat.add_sub_cancel_left]
set_option maxRecDepth 100000 in
theorem dk_aload_n_3 {c : ByteArray} {p : Nat} (h : bk1 c p 45 = true) : decode c p = .ok (.aload_n 3, 1) := by
  show Except.bind (Except.bind ((Reader.u1 : Decoder Nat) c p) _) _ = _
  rw [dk_1 h]
  show Except.ok (_, p + 1 - p) = _
  rw [Nat.add_sub_cancel_left]
set_option maxRecDepth 100000 in
theorem dk_arraylength {c : ByteArray} {p : Nat} (h : bk1 c p 190 = true) : decode c p = .ok (.arraylength, 1) := by
  show Except.bind (Except.bind ((Reader.u1 : Decoder Nat) c p) _) _ = _
  rw [dk_1 h]
  show Except.ok (_, p + 1 - p) = _
  rw [Nat.add_sub_cancel_left]
set_option maxRecDepth 100000 in
theorem dk_astore_n_1 {c : ByteArray} {p : Nat} (h : bk1 c p 76 = true) : decode c p = .ok (.astore_n 1, 1) := by
  show Except.bind (Except.bind ((Reader.u1 : Decoder Nat) c p) _) _ = _
  rw [dk_1 h]
  show Except.ok (_, p + 1 - p) = _
  rw [Nat.add_sub_cancel_left]
set_option maxRecDepth 100000 in
theorem dk_astore_n_2 {c : ByteArray} {p : Nat} (h : bk1 c p 77 = true) : decode c p = .ok (.astore_n 2, 1) := by
  show Except.bind (Except.bind ((Reader.u1 : Decoder Nat) c p) _) _ = _
  rw [dk_1 h]
  show Except.ok (_, p + 1 - p) = _
  rw [Nat.add_sub_cancel_left]
set_option maxRecDepth 100000 in
theorem dk_astore_n_3 {c : ByteArray} {p : Nat} (h : bk1 c p 78 = true) : decode c p = .ok (.astore_n 3, 1) := by
  show Except.bind (Except.bind ((Reader.u1 : Decoder Nat) c p) _) _ = _
  rw [dk_1 h]
  show Except.ok (_, p + 1 - p) = _
  rw [Nat.add_sub_cancel_left]
set_option maxRecDepth 100000 in
theorem dk_baload {c : ByteArray} {p : Nat} (h : bk1 c p 51 = true) : decode c p = .ok (.baload, 1) := by
  show Except.bind (Except.bind ((Reader.u1 : Decoder Nat) c p) _) _ = _
  rw [dk_1 h]
  show Except.ok (_, p + 1 - p) = _
  rw [Nat.add_sub_cancel_left]
set_option maxRecDepth 100000 in
theorem dk_bastore {c : ByteArray} {p : Nat} (h : bk1 c p 84 = true) : decode c p = .ok (.bastore, 1) := by
  show Except.bind (Except.bind ((Reader.u1 : Decoder Nat) c p) _) _ = _
  rw [dk_1 h]
  show Except.ok (_, p + 1 - p) = _
  rw [Nat.add_sub_cancel_left]
set_option maxRecDepth 100000 in
theorem dk_dup {c : ByteArray} {p : Nat} (h : bk1 c p 89 = true) : decode c p = .ok (.dup, 1) := by
  show Except.bind (Except.bind ((Reader.u1 : Decoder Nat) c p) _) _ = _
  rw [dk_1 h]
  show Except.ok (_, p + 1 - p) = _
  rw [Nat.add_sub_cancel_left]
set_option maxRecDepth 100000 in
theorem dk_dup2 {c : ByteArray} {p : Nat} (h : bk1 c p 92 = true) : decode c p = .ok (.dup2, 1) := by
  show Except.bind (Except.bind ((Reader.u1 : Decoder Nat) c p) _) _ = _
  rw [dk_1 h]
  show Except.ok (_, p + 1 - p) = _
  rw [Nat.add_sub_cancel_left]
set_option maxRecDepth 100000 in
theorem dk_i2b {c : ByteArray} {p : Nat} (h : bk1 c p 145 = true) : decode c p = .ok (.i2b, 1) := by
  show Except.bind (Except.bind ((Reader.u1 : Decoder Nat) c p) _) _ = _
  rw [dk_1 h]
  show Except.ok (_, p + 1 - p) = _
  rw [Nat.add_sub_cancel_left]
set_option maxRecDepth 100000 in
theorem dk_i2c {c : ByteArray} {p : Nat} (h : bk1 c p 146 = true) : decode c p = .ok (.i2c, 1) := by
  show Except.bind (Except.bind ((Reader.u1 : Decoder Nat) c p) _) _ = _
  rw [dk_1 h]
  show Except.ok (_, p + 1 - p) = _
  rw [Nat.add_sub_cancel_left]
set_option maxRecDepth 100000 in
theorem dk_i2l {c : ByteArray} {p : Nat} (h : bk1 c p 133 = true) : decode c p = .ok (.i2l, 1) := by
  show Except.bind (Except.bind ((Reader.u1 : Decoder Nat) c p) _) _ = _
  rw [dk_1 h]
  show Except.ok (_, p + 1 - p) = _
  rw [Nat.add_sub_cancel_left]
set_option maxRecDepth 100000 in
theorem dk_i2s {c : ByteArray} {p : Nat} (h : bk1 c p 147 = true) : decode c p = .ok (.i2s, 1) := by
  show Except.bind (Except.bind ((Reader.u1 : Decoder Nat) c p) _) _ = _
  rw [dk_1 h]
  show Except.ok (_, p + 1 - p) = _
  rw [Nat.add_sub_cancel_left]
set_option maxRecDepth 100000 in
theorem dk_iadd {c : ByteArray} {p : Nat} (h : bk1 c p 96 = true) : decode c p = .ok (.iadd, 1) := by
  show Except.bind (Except.bind ((Reader.u1 : Decoder Nat) c p) _) _ = _
  rw [dk_1 h]
  show Except.ok (_, p + 1 - p) = _
  rw [Nat.add_sub_cancel_left]
set_option maxRecDepth 100000 in
theorem dk_iaload {c : ByteArray} {p : Nat} (h : bk1 c p 46 = true) : decode c p = .ok (.iaload, 1) := by
  show Except.bind (Except.bind ((Reader.u1 : Decoder Nat) c p) _) _ = _
  rw [dk_1 h]
  show Except.ok (_, p + 1 - p) = _
  rw [Nat.add_sub_cancel_left]
set_option maxRecDepth 100000 in
theorem dk_iand {c : ByteArray} {p : Nat} (h : bk1 c p 126 = true) : decode c p = .ok (.iand, 1) := by
  show Except.bind (Except.bind ((Reader.u1 : Decoder Nat) c p) _) _ = _
  rw [dk_1 h]
  show Except.ok (_, p + 1 - p) = _
  rw [Nat.add_sub_cancel_left]
set_option maxRecDepth 100000 in
theorem dk_iastore {c : ByteArray} {p : Nat} (h : bk1 c p 79 = true) : decode c p = .ok (.iastore, 1) := by
  show Except.bind (Except.bind ((Reader.u1 : Decoder Nat) c p) _) _ = _
  rw [dk_1 h]
  show Except.ok (_, p + 1 - p) = _
  rw [Nat.add_sub_cancel_left]
set_option maxRecDepth 100000 in
theorem dk_iconst_m {c : ByteArray} {p : Nat} (h : bk1 c p 2 = true) : decode c p = .ok (.iconst (-1), 1) := by
  show Except.bind (Except.bind ((Reader.u1 : Decoder Nat) c p) _) _ = _
  rw [dk_1 h]
  show Except.ok (_, p + 1 - p) = _
  rw [Nat.add_sub_cancel_left]
set_option maxRecDepth 100000 in
theorem dk_iconst_0 {c : ByteArray} {p : Nat} (h : bk1 c p 3 = true) : decode c p = .ok (.iconst 0, 1) := by
  show Except.bind (Except.bind ((Reader.u1 : Decoder Nat) c p) _) _ = _
  rw [dk_1 h]
  show Except.ok (_, p + 1 - p) = _
  rw [Nat.add_sub_cancel_left]
set_option maxRecDepth 100000 in
theorem dk_iconst_1 {c : ByteArray} {p : Nat} (h : bk1 c p 4 = true) : decode c p = .ok (.iconst 1, 1) := by
  show Except.bind (Except.bind ((Reader.u1 : Decoder Nat) c p) _) _ = _
  rw [dk_1 h]
  show Except.ok (_, p + 1 - p) = _
  rw [Nat.add_sub_cancel_left]
end
