section
/-! an instruction by its bytes (written by rowdec.py) -/
noncomputable def bk1 (c : ByteArray) (p o : Nat) : Bool := match c.data.toList.drop p with
  | [] => false
  | x :: _ => Nat.beq x.toNat o
noncomputable def bk2 (c : ByteArray) (p o n : Nat) : Bool := match c.data.toList.drop p with
  | x :: y :: _ => Nat.beq x.toNat o && Nat.beq y.toNat n
  | _ => false
noncomputable def bk3 (c : ByteArray) (p o n : Nat) : Bool := match c.data.toList.drop p with
  | x :: y :: z :: _ => Nat.beq x.toNat o && Nat.beq (y.toNat * 256 + z.toNat) n
  | _ => false
noncomputable def bkS (c : ByteArray) (p o : Nat) (n : Int) : Bool := match c.data.toList.drop p with
  | x :: y :: z :: _ => Nat.beq x.toNat o && decide (Reader.signed 16 (y.toNat * 256 + z.toNat) = n)
  | _ => false
noncomputable def bkB (c : ByteArray) (p o : Nat) (n : Int) : Bool := match c.data.toList.drop p with
  | x :: y :: _ => Nat.beq x.toNat o && decide (Reader.signed 8 y.toNat = n)
  | _ => false
noncomputable def bkI (c : ByteArray) (p o m : Nat) (n : Int) : Bool := match c.data.toList.drop p with
  | x :: y :: z :: _ => Nat.beq x.toNat o && (Nat.beq y.toNat m && decide (Reader.signed 8 z.toNat = n))
  | _ => false
theorem dk_u1 {c : ByteArray} {p : Nat} (h : p < c.size) : (Reader.u1 : Decoder Nat) c p = .ok (c[p].toNat, p + 1) := by
  show (dite (p < c.size) (fun h => (_ : Decoder Nat)) (fun _ => _)) c p = _
  rw [dif_pos h]
  rfl
theorem dk_at {c : ByteArray} {p : Nat} {x : UInt8} {l : List UInt8} (e : c.data.toList.drop p = x :: l) : (Reader.u1 : Decoder Nat) c p = .ok (x.toNat, p + 1) ∧ c.data.toList.drop (p + 1) = l := by
  have hp : p < c.data.toList.length := by
    have := congrArg List.length e
    rw [List.length_drop, List.length_cons] at this
    omega
  have hs : p < c.size := hp
  have e2 : c[p] = c.data.toList[p] := rfl
  have e4 := List.drop_eq_getElem_cons hp
  rw [e] at e4
  injection e4 with a b
  exact ⟨by rw [dk_u1 hs, e2, ← a], b.symm⟩
theorem dk_1 {c : ByteArray} {p o : Nat} (h : bk1 c p o = true) : (Reader.u1 : Decoder Nat) c p = .ok (o, p + 1) := by
  unfold bk1 at h
  split at h
  · cases h
  · rename_i x l e
    rw [(dk_at e).1, Nat.eq_of_beq_eq_true h]
theorem dk_2 {c : ByteArray} {p o n : Nat} (h : bk2 c p o n = true) : (Reader.u1 : Decoder Nat) c p = .ok (o, p + 1) ∧ (Reader.u1 : Decoder Nat) c (p + 1) = .ok (n, p + 1 + 1) := by
  unfold bk2 at h
  split at h
  · rename_i x y l e
    rw [Bool.and_eq_true] at h
    obtain ⟨a, b⟩ := dk_at e
    exact ⟨by rw [a, Nat.eq_of_beq_eq_true h.1], by rw [(dk_at b).1, Nat.eq_of_beq_eq_true h.2]⟩
  · cases h
theorem dk_u2 {c : ByteArray} {p a b : Nat} (h1 : (Reader.u1 : Decoder Nat) c p = .ok (a, p + 1)) (h2 : (Reader.u1 : Decoder Nat) c (p + 1) = .ok (b, p + 1 + 1)) : (Reader.u2 : Decoder Nat) c p = .ok (a * 256 + b, p + 1 + 1) := by
  show Except.bind ((Reader.u1 : Decoder Nat) c p) _ = _
  rw [h1]
  show Except.bind ((Reader.u1 : Decoder Nat) c (p + 1)) _ = _
  rw [h2]
  rfl
theorem dk_3 {c : ByteArray} {p o n : Nat} (h : bk3 c p o n = true) : (Reader.u1 : Decoder Nat) c p = .ok (o, p + 1) ∧ (Reader.u2 : Decoder Nat) c (p + 1) = .ok (n, p + 1 + 1 + 1) := by
  unfold bk3 at h
  split at h
  · rename_i x y z l e
    rw [Bool.and_eq_true] at h
    obtain ⟨a, b⟩ := dk_at e
    obtain ⟨a2, b2⟩ := dk_at b
    exact ⟨by rw [a, Nat.eq_of_beq_eq_true h.1], by rw [dk_u2 a2 (dk_at b2).1, Nat.eq_of_beq_eq_true h.2]⟩
  · cases h
theorem dk_S {c : ByteArray} {p o : Nat} {n : Int} (h : bkS c p o n = true) : (Reader.u1 : Decoder Nat) c p = .ok (o, p + 1) ∧ (Reader.s2 : Decoder Int) c (p + 1) = .ok (n, p + 1 + 1 + 1) := by
  unfold bkS at h
  split at h
  · rename_i x y z l e
    rw [Bool.and_eq_true] at h
    obtain ⟨a, b⟩ := dk_at e
    obtain ⟨a2, b2⟩ := dk_at b
    refine ⟨by rw [a, Nat.eq_of_beq_eq_true h.1], ?_⟩
    show Except.bind ((Reader.u2 : Decoder Nat) c (p + 1)) _ = _
    rw [dk_u2 a2 (dk_at b2).1, ← of_decide_eq_true h.2]
    rfl
  · cases h
theorem dk_B {c : ByteArray} {p o : Nat} {n : Int} (h : bkB c p o n = true) : (Reader.u1 : Decoder Nat) c p = .ok (o, p + 1) ∧ (Reader.s1 : Decoder Int) c (p + 1) = .ok (n, p + 1 + 1) := by
  unfold bkB at h
  split at h
  · rename_i x y l e
    rw [Bool.and_eq_true] at h
    obtain ⟨a, b⟩ := dk_at e
    refine ⟨by rw [a, Nat.eq_of_beq_eq_true h.1], ?_⟩
    show Except.bind ((Reader.u1 : Decoder Nat) c (p + 1)) _ = _
    rw [(dk_at b).1, ← of_decide_eq_true h.2]
    rfl
  · cases h
theorem dk_I {c : ByteArray} {p o m : Nat} {n : Int} (h : bkI c p o m n = true) : (Reader.u1 : Decoder Nat) c p = .ok (o, p + 1) ∧ (Reader.u1 : Decoder Nat) c (p + 1) = .ok (m, p + 1 + 1) ∧ (Reader.s1 : Decoder Int) c (p + 1 + 1) = .ok (n, p + 1 + 1 + 1) := by
  unfold bkI at h
  split at h
  · rename_i x y z l e
    rw [Bool.and_eq_true, Bool.and_eq_true] at h
    obtain ⟨a, b⟩ := dk_at e
    obtain ⟨a2, b2⟩ := dk_at b
    refine ⟨by rw [a, Nat.eq_of_beq_eq_true h.1], by rw [a2, Nat.eq_of_beq_eq_true h.2.1], ?_⟩
    show Except.bind ((Reader.u1 : Decoder Nat) c (p + 1 + 1)) _ = _
    rw [(dk_at b2).1, ← of_decide_eq_true h.2.2]
    rfl
  · cases h
/-! Math: no rows of natives (read by rowdec.py) -/
noncomputable def natB (n d : String) : Bool := (n == "abs" && (d == "(I)I" || d == "(J)J")) || ((n == "max" || n == "min") && d == "(II)I")
theorem nat_all : Jvm.natives.all (fun r => !(r.cls == "java/lang/Math") || !(natB r.name r.desc)) = true := by decide +kernel
theorem nat_pf {y : MethodName} (hc : y.cls = "java/lang/Math") (hn : natB y.name y.desc = true) : plainFor y = true := by
  have e : NativeRow.find? Jvm.natives y.cls y.name y.desc = none := List.find?_eq_none.mpr (fun r hr => by
    have a := List.all_eq_true.mp nat_all r hr
    intro b
    rw [Bool.and_eq_true, Bool.and_eq_true] at b
    have b1 := eq_of_beq b.1.1
    have b2 := eq_of_beq b.1.2
    have b3 := eq_of_beq b.2
    rw [b1, b2, b3, hc, hn] at a
    exact absurd a (by decide))
  unfold plainFor
  rw [e]
  exact Bool.or_true _
set_option maxRecDepth 100000 in
theorem dk_aaload {c : ByteArray} {p : Nat} (h : bk1 c p 50 = true) : decode c p = .ok (.aaload, 1) := by
  show Except.bind (Except.bind ((Reader.u1 : Decoder Nat) c p) _) _ = _
  rw [dk_1 h]
  show Except.ok (_, p + 1 - p) = _
  rw [Nat.add_sub_cancel_left]
set_option maxRecDepth 100000 in
theorem dk_aastore {c : ByteArray} {p : Nat} (h : bk1 c p 83 = true) : decode c p = .ok (.aastore, 1) := by
  show Except.bind (Except.bind ((Reader.u1 : Decoder Nat) c p) _) _ = _
  rw [dk_1 h]
  show Except.ok (_, p + 1 - p) = _
  rw [Nat.add_sub_cancel_left]
set_option maxRecDepth 100000 in
theorem dk_aload_n_0 {c : ByteArray} {p : Nat} (h : bk1 c p 42 = true) : decode c p = .ok (.aload_n 0, 1) := by
  show Except.bind (Except.bind ((Reader.u1 : Decoder Nat) c p) _) _ = _
  rw [dk_1 h]
  show Except.ok (_, p + 1 - p) = _
  rw [Nat.add_sub_cancel_left]
set_option maxRecDepth 100000 in
theorem dk_aload_n_1 {c : ByteArray} {p : Nat} (h : bk1 c p 43 = true) : decode c p = .ok (.aload_n 1, 1) := by
  show Except.bind (Except.bind ((Reader.u1 : Decoder Nat) c p) _) _ = _
  rw [dk_1 h]
  show Except.ok (_, p + 1 - p) = _
  rw [Nat.add_sub_cancel_left]
set_option maxRecDepth 100000 in
theorem dk_aload_n_2 {c : ByteArray} {p : Nat} (h : bk1 c p 44 = true) : decode c p = .ok (.aload_n 2, 1) := by
  show Except.bind (Except.bind ((Reader.u1 : Decoder Nat) c p) _) _ = _
  rw [dk_1 h]
  show Except.ok (_, p + 1 - p) = _
  rw [Nat.add_sub_cancel_left]
set_option maxRecDepth 100000 in
theorem dk_aload_n_3 {c : ByteArray} {p : Nat} (h : bk1 c p 45 = true) : decode c p = .ok (.aload_n 3, 1) := by
  show Except.bind (Except.bind ((Reader.u1 : Decoder Nat) c p) _) _ = _
  rw [dk_1 h]
  show Except.ok (_, p + 1 - p) = _
  rw [Nat.add_sub_cancel_left]
set_option maxRecDepth 100000 in
theorem dk_arraylength {c : ByteArray} {p : Nat} (h : bk1 c p 190 = true) : decode c p = .ok (.arraylength, 1) := by
  show Except.bind (Except.bind ((Reader.u1 : Decoder Nat) c p) _) _ = _
  rw [dk_1 h]
  show Except.ok (_, p + 1 - p) = _
  rw [Nat.add_sub_cancel_left]
set_option maxRecDepth 100000 in
theorem dk_astore_n_1 {c : ByteArray} {p : Nat} (h : bk1 c p 76 = true) : decode c p = .ok (.astore_n 1, 1) := by
  show Except.bind (Except.bind ((Reader.u1 : Decoder Nat) c p) _) _ = _
  rw [dk_1 h]
  show Except.ok (_, p + 1 - p) = _
  rw [Nat.add_sub_cancel_left]
set_option maxRecDepth 100000 in
theorem dk_astore_n_2 {c : ByteArray} {p : Nat} (h : bk1 c p 77 = true) : decode c p = .ok (.astore_n 2, 1) := by
  show Except.bind (Except.bind ((Reader.u1 : Decoder Nat) c p) _) _ = _
  rw [dk_1 h]
  show Except.ok (_, p + 1 - p) = _
  rw [Nat.add_sub_cancel_left]
set_option maxRecDepth 100000 in
theorem dk_astore_n_3 {c : ByteArray} {p : Nat} (h : bk1 c p 78 = true) : decode c p = .ok (.astore_n 3, 1) := by
  show Except.bind (Except.bind ((Reader.u1 : Decoder Nat) c p) _) _ = _
  rw [dk_1 h]
  show Except.ok (_, p + 1 - p) = _
  rw [Nat.add_sub_cancel_left]
set_option maxRecDepth 100000 in
theorem dk_baload {c : ByteArray} {p : Nat} (h : bk1 c p 51 = true) : decode c p = .ok (.baload, 1) := by
  show Except.bind (Except.bind ((Reader.u1 : Decoder Nat) c p) _) _ = _
  rw [dk_1 h]
  show Except.ok (_, p + 1 - p) = _
  rw [Nat.add_sub_cancel_left]
set_option maxRecDepth 100000 in
theorem dk_bastore {c : ByteArray} {p : Nat} (h : bk1 c p 84 = true) : decode c p = .ok (.bastore, 1) := by
  show Except.bind (Except.bind ((Reader.u1 : Decoder Nat) c p) _) _ = _
  rw [dk_1 h]
  show Except.ok (_, p + 1 - p) = _
  rw [Nat.add_sub_cancel_left]
set_option maxRecDepth 100000 in
theorem dk_dup {c : ByteArray} {p : Nat} (h : bk1 c p 89 = true) : decode c p = .ok (.dup, 1) := by
  show Except.bind (Except.bind ((Reader.u1 : Decoder Nat) c p) _) _ = _
  rw [dk_1 h]
  show Except.ok (_, p + 1 - p) = _
  rw [Nat.add_sub_cancel_left]
set_option maxRecDepth 100000 in
theorem dk_dup2 {c : ByteArray} {p : Nat} (h : bk1 c p 92 = true) : decode c p = .ok (.dup2, 1) := by
  show Except.bind (Except.bind ((Reader.u1 : Decoder Nat) c p) _) _ = _
  rw [dk_1 h]
  show Except.ok (_, p + 1 - p) = _
  rw [Nat.add_sub_cancel_left]
set_option maxRecDepth 100000 in
theorem dk_i2b {c : ByteArray} {p : Nat} (h : bk1 c p 145 = true) : decode c p = .ok (.i2b, 1) := by
  show Except.bind (Except.bind ((Reader.u1 : Decoder Nat) c p) _) _ = _
  rw [dk_1 h]
  show Except.ok (_, p + 1 - p) = _
  rw [Nat.add_sub_cancel_left]
set_option maxRecDepth 100000 in
theorem dk_i2c {c : ByteArray} {p : Nat} (h : bk1 c p 146 = true) : decode c p = .ok (.i2c, 1) := by
  show Except.bind (Except.bind ((Reader.u1 : Decoder Nat) c p) _) _ = _
  rw [dk_1 h]
  show Except.ok (_, p + 1 - p) = _
  rw [Nat.add_sub_cancel_left]
set_option maxRecDepth 100000 in
theorem dk_i2l {c : ByteArray} {p : Nat} (h : bk1 c p 133 = true) : decode c p = .ok (.i2l, 1) := by
  show Except.bind (Except.bind ((Reader.u1 : Decoder Nat) c p) _) _ = _
  rw [dk_1 h]
  show Except.ok (_, p + 1 - p) = _
  rw [Nat.add_sub_cancel_left]
set_option maxRecDepth 100000 in
theorem dk_i2s {c : ByteArray} {p : Nat} (h : bk1 c p 147 = true) : decode c p = .ok (.i2s, 1) := by
  show Except.bind (Except.bind ((Reader.u1 : Decoder Nat) c p) _) _ = _
  rw [dk_1 h]
  show Except.ok (_, p + 1 - p) = _
  rw [Nat.add_sub_cancel_left]
set_option maxRecDepth 100000 in
theorem dk_iadd {c : ByteArray} {p : Nat} (h : bk1 c p 96 = true) : decode c p = .ok (.iadd, 1) := by
  show Except.bind (Except.bind ((Reader.u1 : Decoder Nat) c p) _) _ = _
  rw [dk_1 h]
  show Except.ok (_, p + 1 - p) = _
  rw [Nat.add_sub_cancel_left]
set_option maxRecDepth 100000 in
theorem dk_iaload {c : ByteArray} {p : Nat} (h : bk1 c p 46 = true) : decode c p = .ok (.iaload, 1) := by
  show Except.bind (Except.bind ((Reader.u1 : Decoder Nat) c p) _) _ = _
  rw [dk_1 h]
  show Except.ok (_, p + 1 - p) = _
  rw [Nat.add_sub_cancel_left]
set_option maxRecDepth 100000 in
theorem dk_iand {c : ByteArray} {p : Nat} (h : bk1 c p 126 = true) : decode c p = .ok (.iand, 1) := by
  show Except.bind (Except.bind ((Reader.u1 : Decoder Nat) c p) _) _ = _
  rw [dk_1 h]
  show Except.ok (_, p + 1 - p) = _
  rw [Nat.add_sub_cancel_left]
set_option maxRecDepth 100000 in
theorem dk_iastore {c : ByteArray} {p : Nat} (h : bk1 c p 79 = true) : decode c p = .ok (.iastore, 1) := by
  show Except.bind (Except.bind ((Reader.u1 : Decoder Nat) c p) _) _ = _
  rw [dk_1 h]
  show Except.ok (_, p + 1 - p) = _
  rw [Nat.add_sub_cancel_left]
set_option maxRecDepth 100000 in
theorem dk_iconst_m {c : ByteArray} {p : Nat} (h : bk1 c p 2 = true) : decode c p = .ok (.iconst (-1), 1) := by
  show Except.bind (Except.bind ((Reader.u1 : Decoder Nat) c p) _) _ = _
  rw [dk_1 h]
  show Except.ok (_, p + 1 - p) = _
  rw [Nat.add_sub_cancel_left]
set_option maxRecDepth 100000 in
theorem dk_iconst_0 {c : ByteArray} {p : Nat} (h : bk1 c p 3 = true) : decode c p = .ok (.iconst 0, 1) := by
  show Except.bind (Except.bind ((Reader.u1 : Decoder Nat) c p) _) _ = _
  rw [dk_1 h]
  show Except.ok (_, p + 1 - p) = _
  rw [Nat.add_sub_cancel_left]
set_option maxRecDepth 100000 in
theorem dk_iconst_1 {c : ByteArray} {p : Nat} (h : bk1 c p 4 = true) : decode c p = .ok (.iconst 1, 1) := by
  show Except.bind (Except.bind ((Reader.u1 : Decoder Nat) c p) _) _ = _
  rw [dk_1 h]
  show Except.ok (_, p + 1 - p) = _
  rw [Nat.add_sub_cancel_left]
set_option maxRecDepth 100000 in
theorem dk_iconst_2 {c : ByteArray} {p : Nat} (h : bk1 c p 5 = true) : decode c p = .ok (.iconst 2, 1) := by
  show Except.bind (Except.bind ((Reader.u1 : Decoder Nat) c p) _) _ = _
  rw [dk_1 h]
  show Except.ok (_, p + 1 - p) = _
  rw [Nat.add_sub_cancel_left]
set_option maxRecDepth 100000 in
theorem dk_iconst_3 {c : ByteArray} {p : Nat} (h : bk1 c p 6 = true) : decode c p = .ok (.iconst 3, 1) := by
  show Except.bind (Except.bind ((Reader.u1 : Decoder Nat) c p) _) _ = _
  rw [dk_1 h]
  show Except.ok (_, p + 1 - p) = _
  rw [Nat.add_sub_cancel_left]
set_option maxRecDepth 100000 in
theorem dk_iconst_4 {c : ByteArray} {p : Nat} (h : bk1 c p 7 = true) : decode c p = .ok (.iconst 4, 1) := by
  show Except.bind (Except.bind ((Reader.u1 : Decoder Nat) c p) _) _ = _
  rw [dk_1 h]
  show Except.ok (_, p + 1 - p) = _
  rw [Nat.add_sub_cancel_left]
set_option maxRecDepth 100000 in
theorem dk_iconst_5 {c : ByteArray} {p : Nat} (h : bk1 c p 8 = true) : decode c p = .ok (.iconst 5, 1) := by
  show Except.bind (Except.bind ((Reader.u1 : Decoder Nat) c p) _) _ = _
  rw [dk_1 h]
  show Except.ok (_, p + 1 - p) = _
  rw [Nat.add_sub_cancel_left]
set_option maxRecDepth 100000 in
theorem dk_idiv {c : ByteArray} {p : Nat} (h : bk1 c p 108 = true) : decode c p = .ok (.idiv, 1) := by
  show Except.bind (Except.bind ((Reader.u1 : Decoder Nat) c p) _) _ = _
  rw [dk_1 h]
  show Except.ok (_, p + 1 - p) = _
  rw [Nat.add_sub_cancel_left]
set_option maxRecDepth 100000 in
theorem dk_iload_n_0 {c : ByteArray} {p : Nat} (h : bk1 c p 26 = true) : decode c p = .ok (.iload_n 0, 1) := by
  show Except.bind (Except.bind ((Reader.u1 : Decoder Nat) c p) _) _ = _
  rw [dk_1 h]
  show Except.ok (_, p + 1 - p) = _
  rw [Nat.add_sub_cancel_left]
set_option maxRecDepth 100000 in
theorem dk_iload_n_1 {c : ByteArray} {p : Nat} (h : bk1 c p 27 = true) : decode c p = .ok (.iload_n 1, 1) := by
  show Except.bind (Except.bind ((Reader.u1 : Decoder Nat) c p) _) _ = _
  rw [dk_1 h]
  show Except.ok (_, p + 1 - p) = _
  rw [Nat.add_sub_cancel_left]
set_option maxRecDepth 100000 in
theorem dk_iload_n_2 {c : ByteArray} {p : Nat} (h : bk1 c p 28 = true) : decode c p = .ok (.iload_n 2, 1) := by
  show Except.bind (Except.bind ((Reader.u1 : Decoder Nat) c p) _) _ = _
  rw [dk_1 h]
  show Except.ok (_, p + 1 - p) = _
  rw [Nat.add_sub_cancel_left]
set_option maxRecDepth 100000 in
theorem dk_iload_n_3 {c : ByteArray} {p : Nat} (h : bk1 c p 29 = true) : decode c p = .ok (.iload_n 3, 1) := by
  show Except.bind (Except.bind ((Reader.u1 : Decoder Nat) c p) _) _ = _
  rw [dk_1 h]
  show Except.ok (_, p + 1 - p) = _
  rw [Nat.add_sub_cancel_left]
set_option maxRecDepth 100000 in
theorem dk_imul {c : ByteArray} {p : Nat} (h : bk1 c p 104 = true) : decode c p = .ok (.imul, 1) := by
  show Except.bind (Except.bind ((Reader.u1 : Decoder Nat) c p) _) _ = _
  rw [dk_1 h]
  show Except.ok (_, p + 1 - p) = _
  rw [Nat.add_sub_cancel_left]
set_option maxRecDepth 100000 in
theorem dk_ineg {c : ByteArray} {p : Nat} (h : bk1 c p 116 = true) : decode c p = .ok (.ineg, 1) := by
  show Except.bind (Except.bind ((Reader.u1 : Decoder Nat) c p) _) _ = _
  rw [dk_1 h]
  show Except.ok (_, p + 1 - p) = _
  rw [Nat.add_sub_cancel_left]
set_option maxRecDepth 100000 in
theorem dk_ior {c : ByteArray} {p : Nat} (h : bk1 c p 128 = true) : decode c p = .ok (.ior, 1) := by
  show Except.bind (Except.bind ((Reader.u1 : Decoder Nat) c p) _) _ = _
  rw [dk_1 h]
  show Except.ok (_, p + 1 - p) = _
  rw [Nat.add_sub_cancel_left]
set_option maxRecDepth 100000 in
theorem dk_irem {c : ByteArray} {p : Nat} (h : bk1 c p 112 = true) : decode c p = .ok (.irem, 1) := by
  show Except.bind (Except.bind ((Reader.u1 : Decoder Nat) c p) _) _ = _
  rw [dk_1 h]
  show Except.ok (_, p + 1 - p) = _
  rw [Nat.add_sub_cancel_left]
set_option maxRecDepth 100000 in
theorem dk_ireturn {c : ByteArray} {p : Nat} (h : bk1 c p 172 = true) : decode c p = .ok (.ireturn, 1) := by
  show Except.bind (Except.bind ((Reader.u1 : Decoder Nat) c p) _) _ = _
  rw [dk_1 h]
  show Except.ok (_, p + 1 - p) = _
  rw [Nat.add_sub_cancel_left]
set_option maxRecDepth 100000 in
theorem dk_ishl {c : ByteArray} {p : Nat} (h : bk1 c p 120 = true) : decode c p = .ok (.ishl, 1) := by
  show Except.bind (Except.bind ((Reader.u1 : Decoder Nat) c p) _) _ = _
  rw [dk_1 h]
  show Except.ok (_, p + 1 - p) = _
  rw [Nat.add_sub_cancel_left]
set_option maxRecDepth 100000 in
theorem dk_ishr {c : ByteArray} {p : Nat} (h : bk1 c p 122 = true) : decode c p = .ok (.ishr, 1) := by
  show Except.bind (Except.bind ((Reader.u1 : Decoder Nat) c p) _) _ = _
  rw [dk_1 h]
  show Except.ok (_, p + 1 - p) = _
  rw [Nat.add_sub_cancel_left]
set_option maxRecDepth 100000 in
theorem dk_istore_n_0 {c : ByteArray} {p : Nat} (h : bk1 c p 59 = true) : decode c p = .ok (.istore_n 0, 1) := by
  show Except.bind (Except.bind ((Reader.u1 : Decoder Nat) c p) _) _ = _
  rw [dk_1 h]
  show Except.ok (_, p + 1 - p) = _
  rw [Nat.add_sub_cancel_left]
set_option maxRecDepth 100000 in
theorem dk_istore_n_1 {c : ByteArray} {p : Nat} (h : bk1 c p 60 = true) : decode c p = .ok (.istore_n 1, 1) := by
  show Except.bind (Except.bind ((Reader.u1 : Decoder Nat) c p) _) _ = _
  rw [dk_1 h]
  show Except.ok (_, p + 1 - p) = _
  rw [Nat.add_sub_cancel_left]
set_option maxRecDepth 100000 in
theorem dk_istore_n_2 {c : ByteArray} {p : Nat} (h : bk1 c p 61 = true) : decode c p = .ok (.istore_n 2, 1) := by
  show Except.bind (Except.bind ((Reader.u1 : Decoder Nat) c p) _) _ = _
  rw [dk_1 h]
  show Except.ok (_, p + 1 - p) = _
  rw [Nat.add_sub_cancel_left]
set_option maxRecDepth 100000 in
theorem dk_istore_n_3 {c : ByteArray} {p : Nat} (h : bk1 c p 62 = true) : decode c p = .ok (.istore_n 3, 1) := by
  show Except.bind (Except.bind ((Reader.u1 : Decoder Nat) c p) _) _ = _
  rw [dk_1 h]
  show Except.ok (_, p + 1 - p) = _
  rw [Nat.add_sub_cancel_left]
set_option maxRecDepth 100000 in
theorem dk_isub {c : ByteArray} {p : Nat} (h : bk1 c p 100 = true) : decode c p = .ok (.isub, 1) := by
  show Except.bind (Except.bind ((Reader.u1 : Decoder Nat) c p) _) _ = _
  rw [dk_1 h]
  show Except.ok (_, p + 1 - p) = _
  rw [Nat.add_sub_cancel_left]
set_option maxRecDepth 100000 in
theorem dk_iushr {c : ByteArray} {p : Nat} (h : bk1 c p 124 = true) : decode c p = .ok (.iushr, 1) := by
  show Except.bind (Except.bind ((Reader.u1 : Decoder Nat) c p) _) _ = _
  rw [dk_1 h]
  show Except.ok (_, p + 1 - p) = _
  rw [Nat.add_sub_cancel_left]
set_option maxRecDepth 100000 in
theorem dk_ixor {c : ByteArray} {p : Nat} (h : bk1 c p 130 = true) : decode c p = .ok (.ixor, 1) := by
  show Except.bind (Except.bind ((Reader.u1 : Decoder Nat) c p) _) _ = _
  rw [dk_1 h]
  show Except.ok (_, p + 1 - p) = _
  rw [Nat.add_sub_cancel_left]
set_option maxRecDepth 100000 in
theorem dk_l2i {c : ByteArray} {p : Nat} (h : bk1 c p 136 = true) : decode c p = .ok (.l2i, 1) := by
  show Except.bind (Except.bind ((Reader.u1 : Decoder Nat) c p) _) _ = _
  rw [dk_1 h]
  show Except.ok (_, p + 1 - p) = _
  rw [Nat.add_sub_cancel_left]
set_option maxRecDepth 100000 in
theorem dk_ladd {c : ByteArray} {p : Nat} (h : bk1 c p 97 = true) : decode c p = .ok (.ladd, 1) := by
  show Except.bind (Except.bind ((Reader.u1 : Decoder Nat) c p) _) _ = _
  rw [dk_1 h]
  show Except.ok (_, p + 1 - p) = _
  rw [Nat.add_sub_cancel_left]
set_option maxRecDepth 100000 in
theorem dk_laload {c : ByteArray} {p : Nat} (h : bk1 c p 47 = true) : decode c p = .ok (.laload, 1) := by
  show Except.bind (Except.bind ((Reader.u1 : Decoder Nat) c p) _) _ = _
  rw [dk_1 h]
  show Except.ok (_, p + 1 - p) = _
  rw [Nat.add_sub_cancel_left]
set_option maxRecDepth 100000 in
theorem dk_land {c : ByteArray} {p : Nat} (h : bk1 c p 127 = true) : decode c p = .ok (.land, 1) := by
  show Except.bind (Except.bind ((Reader.u1 : Decoder Nat) c p) _) _ = _
  rw [dk_1 h]
  show Except.ok (_, p + 1 - p) = _
  rw [Nat.add_sub_cancel_left]
set_option maxRecDepth 100000 in
theorem dk_lastore {c : ByteArray} {p : Nat} (h : bk1 c p 80 = true) : decode c p = .ok (.lastore, 1) := by
  show Except.bind (Except.bind ((Reader.u1 : Decoder Nat) c p) _) _ = _
  rw [dk_1 h]
  show Except.ok (_, p + 1 - p) = _
  rw [Nat.add_sub_cancel_left]
set_option maxRecDepth 100000 in
theorem dk_lcmp {c : ByteArray} {p : Nat} (h : bk1 c p 148 = true) : decode c p = .ok (.lcmp, 1) := by
  show Except.bind (Except.bind ((Reader.u1 : Decoder Nat) c p) _) _ = _
  rw [dk_1 h]
  show Except.ok (_, p + 1 - p) = _
  rw [Nat.add_sub_cancel_left]
set_option maxRecDepth 100000 in
theorem dk_lconst_0 {c : ByteArray} {p : Nat} (h : bk1 c p 9 = true) : decode c p = .ok (.lconst 0, 1) := by
  show Except.bind (Except.bind ((Reader.u1 : Decoder Nat) c p) _) _ = _
  rw [dk_1 h]
  show Except.ok (_, p + 1 - p) = _
  rw [Nat.add_sub_cancel_left]
set_option maxRecDepth 100000 in
theorem dk_lconst_1 {c : ByteArray} {p : Nat} (h : bk1 c p 10 = true) : decode c p = .ok (.lconst 1, 1) := by
  show Except.bind (Except.bind ((Reader.u1 : Decoder Nat) c p) _) _ = _
  rw [dk_1 h]
  show Except.ok (_, p + 1 - p) = _
  rw [Nat.add_sub_cancel_left]
set_option maxRecDepth 100000 in
theorem dk_ldiv {c : ByteArray} {p : Nat} (h : bk1 c p 109 = true) : decode c p = .ok (.ldiv, 1) := by
  show Except.bind (Except.bind ((Reader.u1 : Decoder Nat) c p) _) _ = _
  rw [dk_1 h]
  show Except.ok (_, p + 1 - p) = _
  rw [Nat.add_sub_cancel_left]
set_option maxRecDepth 100000 in
theorem dk_lload_n_0 {c : ByteArray} {p : Nat} (h : bk1 c p 30 = true) : decode c p = .ok (.lload_n 0, 1) := by
  show Except.bind (Except.bind ((Reader.u1 : Decoder Nat) c p) _) _ = _
  rw [dk_1 h]
  show Except.ok (_, p + 1 - p) = _
  rw [Nat.add_sub_cancel_left]
set_option maxRecDepth 100000 in
theorem dk_lload_n_1 {c : ByteArray} {p : Nat} (h : bk1 c p 31 = true) : decode c p = .ok (.lload_n 1, 1) := by
  show Except.bind (Except.bind ((Reader.u1 : Decoder Nat) c p) _) _ = _
  rw [dk_1 h]
  show Except.ok (_, p + 1 - p) = _
  rw [Nat.add_sub_cancel_left]
set_option maxRecDepth 100000 in
theorem dk_lload_n_2 {c : ByteArray} {p : Nat} (h : bk1 c p 32 = true) : decode c p = .ok (.lload_n 2, 1) := by
  show Except.bind (Except.bind ((Reader.u1 : Decoder Nat) c p) _) _ = _
  rw [dk_1 h]
  show Except.ok (_, p + 1 - p) = _
  rw [Nat.add_sub_cancel_left]
set_option maxRecDepth 100000 in
theorem dk_lload_n_3 {c : ByteArray} {p : Nat} (h : bk1 c p 33 = true) : decode c p = .ok (.lload_n 3, 1) := by
  show Except.bind (Except.bind ((Reader.u1 : Decoder Nat) c p) _) _ = _
  rw [dk_1 h]
  show Except.ok (_, p + 1 - p) = _
  rw [Nat.add_sub_cancel_left]
set_option maxRecDepth 100000 in
theorem dk_lmul {c : ByteArray} {p : Nat} (h : bk1 c p 105 = true) : decode c p = .ok (.lmul, 1) := by
  show Except.bind (Except.bind ((Reader.u1 : Decoder Nat) c p) _) _ = _
  rw [dk_1 h]
  show Except.ok (_, p + 1 - p) = _
  rw [Nat.add_sub_cancel_left]
set_option maxRecDepth 100000 in
theorem dk_lneg {c : ByteArray} {p : Nat} (h : bk1 c p 117 = true) : decode c p = .ok (.lneg, 1) := by
  show Except.bind (Except.bind ((Reader.u1 : Decoder Nat) c p) _) _ = _
  rw [dk_1 h]
  show Except.ok (_, p + 1 - p) = _
  rw [Nat.add_sub_cancel_left]
set_option maxRecDepth 100000 in
theorem dk_lor {c : ByteArray} {p : Nat} (h : bk1 c p 129 = true) : decode c p = .ok (.lor, 1) := by
  show Except.bind (Except.bind ((Reader.u1 : Decoder Nat) c p) _) _ = _
  rw [dk_1 h]
  show Except.ok (_, p + 1 - p) = _
  rw [Nat.add_sub_cancel_left]
set_option maxRecDepth 100000 in
theorem dk_lrem {c : ByteArray} {p : Nat} (h : bk1 c p 113 = true) : decode c p = .ok (.lrem, 1) := by
  show Except.bind (Except.bind ((Reader.u1 : Decoder Nat) c p) _) _ = _
  rw [dk_1 h]
  show Except.ok (_, p + 1 - p) = _
  rw [Nat.add_sub_cancel_left]
set_option maxRecDepth 100000 in
theorem dk_lreturn {c : ByteArray} {p : Nat} (h : bk1 c p 173 = true) : decode c p = .ok (.lreturn, 1) := by
  show Except.bind (Except.bind ((Reader.u1 : Decoder Nat) c p) _) _ = _
  rw [dk_1 h]
  show Except.ok (_, p + 1 - p) = _
  rw [Nat.add_sub_cancel_left]
set_option maxRecDepth 100000 in
theorem dk_lshl {c : ByteArray} {p : Nat} (h : bk1 c p 121 = true) : decode c p = .ok (.lshl, 1) := by
  show Except.bind (Except.bind ((Reader.u1 : Decoder Nat) c p) _) _ = _
  rw [dk_1 h]
  show Except.ok (_, p + 1 - p) = _
  rw [Nat.add_sub_cancel_left]
set_option maxRecDepth 100000 in
theorem dk_lstore_n_2 {c : ByteArray} {p : Nat} (h : bk1 c p 65 = true) : decode c p = .ok (.lstore_n 2, 1) := by
  show Except.bind (Except.bind ((Reader.u1 : Decoder Nat) c p) _) _ = _
  rw [dk_1 h]
  show Except.ok (_, p + 1 - p) = _
  rw [Nat.add_sub_cancel_left]
set_option maxRecDepth 100000 in
theorem dk_lstore_n_3 {c : ByteArray} {p : Nat} (h : bk1 c p 66 = true) : decode c p = .ok (.lstore_n 3, 1) := by
  show Except.bind (Except.bind ((Reader.u1 : Decoder Nat) c p) _) _ = _
  rw [dk_1 h]
  show Except.ok (_, p + 1 - p) = _
  rw [Nat.add_sub_cancel_left]
set_option maxRecDepth 100000 in
theorem dk_lsub {c : ByteArray} {p : Nat} (h : bk1 c p 101 = true) : decode c p = .ok (.lsub, 1) := by
  show Except.bind (Except.bind ((Reader.u1 : Decoder Nat) c p) _) _ = _
  rw [dk_1 h]
  show Except.ok (_, p + 1 - p) = _
  rw [Nat.add_sub_cancel_left]
set_option maxRecDepth 100000 in
theorem dk_pop {c : ByteArray} {p : Nat} (h : bk1 c p 87 = true) : decode c p = .ok (.pop, 1) := by
  show Except.bind (Except.bind ((Reader.u1 : Decoder Nat) c p) _) _ = _
  rw [dk_1 h]
  show Except.ok (_, p + 1 - p) = _
  rw [Nat.add_sub_cancel_left]
set_option maxRecDepth 100000 in
theorem dk_pop2 {c : ByteArray} {p : Nat} (h : bk1 c p 88 = true) : decode c p = .ok (.pop2, 1) := by
  show Except.bind (Except.bind ((Reader.u1 : Decoder Nat) c p) _) _ = _
  rw [dk_1 h]
  show Except.ok (_, p + 1 - p) = _
  rw [Nat.add_sub_cancel_left]
set_option maxRecDepth 100000 in
theorem dk_return {c : ByteArray} {p : Nat} (h : bk1 c p 177 = true) : decode c p = .ok (.return_, 1) := by
  show Except.bind (Except.bind ((Reader.u1 : Decoder Nat) c p) _) _ = _
  rw [dk_1 h]
  show Except.ok (_, p + 1 - p) = _
  rw [Nat.add_sub_cancel_left]
set_option maxRecDepth 100000 in
theorem dk_aload {c : ByteArray} {p n : Nat} (h : bk2 c p 25 n = true) : decode c p = .ok (.aload n, 2) := by
  obtain ⟨a, b⟩ := dk_2 h
  show Except.bind (Except.bind ((Reader.u1 : Decoder Nat) c p) _) _ = _
  rw [a]
  show Except.bind (Except.bind ((Reader.u1 : Decoder Nat) c (p + 1)) _) _ = _
  rw [b]
  show Except.ok (_, p + 1 + 1 - p) = _
  rw [show p + 1 + 1 - p = 2 by omega]
set_option maxRecDepth 100000 in
theorem dk_astore {c : ByteArray} {p n : Nat} (h : bk2 c p 58 n = true) : decode c p = .ok (.astore n, 2) := by
  obtain ⟨a, b⟩ := dk_2 h
  show Except.bind (Except.bind ((Reader.u1 : Decoder Nat) c p) _) _ = _
  rw [a]
  show Except.bind (Except.bind ((Reader.u1 : Decoder Nat) c (p + 1)) _) _ = _
  rw [b]
  show Except.ok (_, p + 1 + 1 - p) = _
  rw [show p + 1 + 1 - p = 2 by omega]
set_option maxRecDepth 100000 in
theorem dk_iload {c : ByteArray} {p n : Nat} (h : bk2 c p 21 n = true) : decode c p = .ok (.iload n, 2) := by
  obtain ⟨a, b⟩ := dk_2 h
  show Except.bind (Except.bind ((Reader.u1 : Decoder Nat) c p) _) _ = _
  rw [a]
  show Except.bind (Except.bind ((Reader.u1 : Decoder Nat) c (p + 1)) _) _ = _
  rw [b]
  show Except.ok (_, p + 1 + 1 - p) = _
  rw [show p + 1 + 1 - p = 2 by omega]
set_option maxRecDepth 100000 in
theorem dk_istore {c : ByteArray} {p n : Nat} (h : bk2 c p 54 n = true) : decode c p = .ok (.istore n, 2) := by
  obtain ⟨a, b⟩ := dk_2 h
  show Except.bind (Except.bind ((Reader.u1 : Decoder Nat) c p) _) _ = _
  rw [a]
  show Except.bind (Except.bind ((Reader.u1 : Decoder Nat) c (p + 1)) _) _ = _
  rw [b]
  show Except.ok (_, p + 1 + 1 - p) = _
  rw [show p + 1 + 1 - p = 2 by omega]
set_option maxRecDepth 100000 in
theorem dk_ldc {c : ByteArray} {p n : Nat} (h : bk2 c p 18 n = true) : decode c p = .ok (.ldc n, 2) := by
  obtain ⟨a, b⟩ := dk_2 h
  show Except.bind (Except.bind ((Reader.u1 : Decoder Nat) c p) _) _ = _
  rw [a]
  show Except.bind (Except.bind ((Reader.u1 : Decoder Nat) c (p + 1)) _) _ = _
  rw [b]
  show Except.ok (_, p + 1 + 1 - p) = _
  rw [show p + 1 + 1 - p = 2 by omega]
set_option maxRecDepth 100000 in
theorem dk_lload {c : ByteArray} {p n : Nat} (h : bk2 c p 22 n = true) : decode c p = .ok (.lload n, 2) := by
  obtain ⟨a, b⟩ := dk_2 h
  show Except.bind (Except.bind ((Reader.u1 : Decoder Nat) c p) _) _ = _
  rw [a]
  show Except.bind (Except.bind ((Reader.u1 : Decoder Nat) c (p + 1)) _) _ = _
  rw [b]
  show Except.ok (_, p + 1 + 1 - p) = _
  rw [show p + 1 + 1 - p = 2 by omega]
set_option maxRecDepth 100000 in
theorem dk_lstore {c : ByteArray} {p n : Nat} (h : bk2 c p 55 n = true) : decode c p = .ok (.lstore n, 2) := by
  obtain ⟨a, b⟩ := dk_2 h
  show Except.bind (Except.bind ((Reader.u1 : Decoder Nat) c p) _) _ = _
  rw [a]
  show Except.bind (Except.bind ((Reader.u1 : Decoder Nat) c (p + 1)) _) _ = _
  rw [b]
  show Except.ok (_, p + 1 + 1 - p) = _
  rw [show p + 1 + 1 - p = 2 by omega]
set_option maxRecDepth 100000 in
theorem dk_anewarray {c : ByteArray} {p n : Nat} (h : bk3 c p 189 n = true) : decode c p = .ok (.anewarray n, 3) := by
  obtain ⟨a, b⟩ := dk_3 h
  show Except.bind (Except.bind ((Reader.u1 : Decoder Nat) c p) _) _ = _
  rw [a]
  show Except.bind (Except.bind ((Reader.u2 : Decoder Nat) c (p + 1)) _) _ = _
  rw [b]
  show Except.ok (_, p + 1 + 1 + 1 - p) = _
  rw [show p + 1 + 1 + 1 - p = 3 by omega]
set_option maxRecDepth 100000 in
theorem dk_getfield {c : ByteArray} {p n : Nat} (h : bk3 c p 180 n = true) : decode c p = .ok (.getfield n, 3) := by
  obtain ⟨a, b⟩ := dk_3 h
  show Except.bind (Except.bind ((Reader.u1 : Decoder Nat) c p) _) _ = _
  rw [a]
  show Except.bind (Except.bind ((Reader.u2 : Decoder Nat) c (p + 1)) _) _ = _
  rw [b]
  show Except.ok (_, p + 1 + 1 + 1 - p) = _
  rw [show p + 1 + 1 + 1 - p = 3 by omega]
set_option maxRecDepth 100000 in
theorem dk_getstatic {c : ByteArray} {p n : Nat} (h : bk3 c p 178 n = true) : decode c p = .ok (.getstatic n, 3) := by
  obtain ⟨a, b⟩ := dk_3 h
  show Except.bind (Except.bind ((Reader.u1 : Decoder Nat) c p) _) _ = _
  rw [a]
  show Except.bind (Except.bind ((Reader.u2 : Decoder Nat) c (p + 1)) _) _ = _
  rw [b]
  show Except.ok (_, p + 1 + 1 + 1 - p) = _
  rw [show p + 1 + 1 + 1 - p = 3 by omega]
set_option maxRecDepth 100000 in
theorem dk_invokespecial {c : ByteArray} {p n : Nat} (h : bk3 c p 183 n = true) : decode c p = .ok (.invokespecial n, 3) := by
  obtain ⟨a, b⟩ := dk_3 h
  show Except.bind (Except.bind ((Reader.u1 : Decoder Nat) c p) _) _ = _
  rw [a]
  show Except.bind (Except.bind ((Reader.u2 : Decoder Nat) c (p + 1)) _) _ = _
  rw [b]
  show Except.ok (_, p + 1 + 1 + 1 - p) = _
  rw [show p + 1 + 1 + 1 - p = 3 by omega]
set_option maxRecDepth 100000 in
theorem dk_invokestatic {c : ByteArray} {p n : Nat} (h : bk3 c p 184 n = true) : decode c p = .ok (.invokestatic n, 3) := by
  obtain ⟨a, b⟩ := dk_3 h
  show Except.bind (Except.bind ((Reader.u1 : Decoder Nat) c p) _) _ = _
  rw [a]
  show Except.bind (Except.bind ((Reader.u2 : Decoder Nat) c (p + 1)) _) _ = _
  rw [b]
  show Except.ok (_, p + 1 + 1 + 1 - p) = _
  rw [show p + 1 + 1 + 1 - p = 3 by omega]
set_option maxRecDepth 100000 in
theorem dk_invokevirtual {c : ByteArray} {p n : Nat} (h : bk3 c p 182 n = true) : decode c p = .ok (.invokevirtual n, 3) := by
  obtain ⟨a, b⟩ := dk_3 h
  show Except.bind (Except.bind ((Reader.u1 : Decoder Nat) c p) _) _ = _
  rw [a]
  show Except.bind (Except.bind ((Reader.u2 : Decoder Nat) c (p + 1)) _) _ = _
  rw [b]
  show Except.ok (_, p + 1 + 1 + 1 - p) = _
  rw [show p + 1 + 1 + 1 - p = 3 by omega]
set_option maxRecDepth 100000 in
theorem dk_ldc2_w {c : ByteArray} {p n : Nat} (h : bk3 c p 20 n = true) : decode c p = .ok (.ldc2_w n, 3) := by
  obtain ⟨a, b⟩ := dk_3 h
  show Except.bind (Except.bind ((Reader.u1 : Decoder Nat) c p) _) _ = _
  rw [a]
  show Except.bind (Except.bind ((Reader.u2 : Decoder Nat) c (p + 1)) _) _ = _
  rw [b]
  show Except.ok (_, p + 1 + 1 + 1 - p) = _
  rw [show p + 1 + 1 + 1 - p = 3 by omega]
set_option maxRecDepth 100000 in
theorem dk_ldc_w {c : ByteArray} {p n : Nat} (h : bk3 c p 19 n = true) : decode c p = .ok (.ldc_w n, 3) := by
  obtain ⟨a, b⟩ := dk_3 h
  show Except.bind (Except.bind ((Reader.u1 : Decoder Nat) c p) _) _ = _
  rw [a]
  show Except.bind (Except.bind ((Reader.u2 : Decoder Nat) c (p + 1)) _) _ = _
  rw [b]
  show Except.ok (_, p + 1 + 1 + 1 - p) = _
  rw [show p + 1 + 1 + 1 - p = 3 by omega]
set_option maxRecDepth 100000 in
theorem dk_new {c : ByteArray} {p n : Nat} (h : bk3 c p 187 n = true) : decode c p = .ok (.new n, 3) := by
  obtain ⟨a, b⟩ := dk_3 h
  show Except.bind (Except.bind ((Reader.u1 : Decoder Nat) c p) _) _ = _
  rw [a]
  show Except.bind (Except.bind ((Reader.u2 : Decoder Nat) c (p + 1)) _) _ = _
  rw [b]
  show Except.ok (_, p + 1 + 1 + 1 - p) = _
  rw [show p + 1 + 1 + 1 - p = 3 by omega]
set_option maxRecDepth 100000 in
theorem dk_putfield {c : ByteArray} {p n : Nat} (h : bk3 c p 181 n = true) : decode c p = .ok (.putfield n, 3) := by
  obtain ⟨a, b⟩ := dk_3 h
  show Except.bind (Except.bind ((Reader.u1 : Decoder Nat) c p) _) _ = _
  rw [a]
  show Except.bind (Except.bind ((Reader.u2 : Decoder Nat) c (p + 1)) _) _ = _
  rw [b]
  show Except.ok (_, p + 1 + 1 + 1 - p) = _
  rw [show p + 1 + 1 + 1 - p = 3 by omega]
set_option maxRecDepth 100000 in
theorem dk_bipush {c : ByteArray} {p : Nat} {n : Int} (h : bkB c p 16 n = true) : decode c p = .ok (.bipush n, 2) := by
  obtain ⟨a, b⟩ := dk_B h
  show Except.bind (Except.bind ((Reader.u1 : Decoder Nat) c p) _) _ = _
  rw [a]
  show Except.bind (Except.bind ((Reader.s1 : Decoder Int) c (p + 1)) _) _ = _
  rw [b]
  show Except.ok (_, p + 1 + 1 - p) = _
  rw [show p + 1 + 1 - p = 2 by omega]
set_option maxRecDepth 100000 in
theorem dk_iinc {c : ByteArray} {p m : Nat} {n : Int} (h : bkI c p 132 m n = true) : decode c p = .ok (.iinc m n, 3) := by
  obtain ⟨a, b, d⟩ := dk_I h
  show Except.bind (Except.bind ((Reader.u1 : Decoder Nat) c p) _) _ = _
  rw [a]
  show Except.bind (Except.bind ((Reader.u1 : Decoder Nat) c (p + 1)) _) _ = _
  rw [b]
  show Except.bind (Except.bind ((Reader.s1 : Decoder Int) c (p + 1 + 1)) _) _ = _
  rw [d]
  show Except.ok (_, p + 1 + 1 + 1 - p) = _
  rw [show p + 1 + 1 + 1 - p = 3 by omega]
set_option maxRecDepth 100000 in
theorem dk_goto {c : ByteArray} {p : Nat} {n : Int} (h : bkS c p 167 n = true) : decode c p = .ok (.goto n, 3) := by
  obtain ⟨a, b⟩ := dk_S h
  show Except.bind (Except.bind ((Reader.u1 : Decoder Nat) c p) _) _ = _
  rw [a]
  show Except.bind (Except.bind ((Reader.s2 : Decoder Int) c (p + 1)) _) _ = _
  rw [b]
  show Except.ok (_, p + 1 + 1 + 1 - p) = _
  rw [show p + 1 + 1 + 1 - p = 3 by omega]
set_option maxRecDepth 100000 in
theorem dk_ifCond_eq {c : ByteArray} {p : Nat} {n : Int} (h : bkS c p 153 n = true) : decode c p = .ok (.ifCond .eq n, 3) := by
  obtain ⟨a, b⟩ := dk_S h
  show Except.bind (Except.bind ((Reader.u1 : Decoder Nat) c p) _) _ = _
  rw [a]
  show Except.bind (Except.bind ((Reader.s2 : Decoder Int) c (p + 1)) _) _ = _
  rw [b]
  show Except.ok (_, p + 1 + 1 + 1 - p) = _
  rw [show p + 1 + 1 + 1 - p = 3 by omega]
set_option maxRecDepth 100000 in
theorem dk_ifCond_ge {c : ByteArray} {p : Nat} {n : Int} (h : bkS c p 156 n = true) : decode c p = .ok (.ifCond .ge n, 3) := by
  obtain ⟨a, b⟩ := dk_S h
  show Except.bind (Except.bind ((Reader.u1 : Decoder Nat) c p) _) _ = _
  rw [a]
  show Except.bind (Except.bind ((Reader.s2 : Decoder Int) c (p + 1)) _) _ = _
  rw [b]
  show Except.ok (_, p + 1 + 1 + 1 - p) = _
  rw [show p + 1 + 1 + 1 - p = 3 by omega]
set_option maxRecDepth 100000 in
theorem dk_ifCond_gt {c : ByteArray} {p : Nat} {n : Int} (h : bkS c p 157 n = true) : decode c p = .ok (.ifCond .gt n, 3) := by
  obtain ⟨a, b⟩ := dk_S h
  show Except.bind (Except.bind ((Reader.u1 : Decoder Nat) c p) _) _ = _
  rw [a]
  show Except.bind (Except.bind ((Reader.s2 : Decoder Int) c (p + 1)) _) _ = _
  rw [b]
  show Except.ok (_, p + 1 + 1 + 1 - p) = _
  rw [show p + 1 + 1 + 1 - p = 3 by omega]
set_option maxRecDepth 100000 in
theorem dk_ifCond_le {c : ByteArray} {p : Nat} {n : Int} (h : bkS c p 158 n = true) : decode c p = .ok (.ifCond .le n, 3) := by
  obtain ⟨a, b⟩ := dk_S h
  show Except.bind (Except.bind ((Reader.u1 : Decoder Nat) c p) _) _ = _
  rw [a]
  show Except.bind (Except.bind ((Reader.s2 : Decoder Int) c (p + 1)) _) _ = _
  rw [b]
  show Except.ok (_, p + 1 + 1 + 1 - p) = _
  rw [show p + 1 + 1 + 1 - p = 3 by omega]
set_option maxRecDepth 100000 in
theorem dk_ifCond_lt {c : ByteArray} {p : Nat} {n : Int} (h : bkS c p 155 n = true) : decode c p = .ok (.ifCond .lt n, 3) := by
  obtain ⟨a, b⟩ := dk_S h
  show Except.bind (Except.bind ((Reader.u1 : Decoder Nat) c p) _) _ = _
  rw [a]
  show Except.bind (Except.bind ((Reader.s2 : Decoder Int) c (p + 1)) _) _ = _
  rw [b]
  show Except.ok (_, p + 1 + 1 + 1 - p) = _
  rw [show p + 1 + 1 + 1 - p = 3 by omega]
set_option maxRecDepth 100000 in
theorem dk_ifCond_ne {c : ByteArray} {p : Nat} {n : Int} (h : bkS c p 154 n = true) : decode c p = .ok (.ifCond .ne n, 3) := by
  obtain ⟨a, b⟩ := dk_S h
  show Except.bind (Except.bind ((Reader.u1 : Decoder Nat) c p) _) _ = _
  rw [a]
  show Except.bind (Except.bind ((Reader.s2 : Decoder Int) c (p + 1)) _) _ = _
  rw [b]
  show Except.ok (_, p + 1 + 1 + 1 - p) = _
  rw [show p + 1 + 1 + 1 - p = 3 by omega]
set_option maxRecDepth 100000 in
theorem dk_if_icmp_eq {c : ByteArray} {p : Nat} {n : Int} (h : bkS c p 159 n = true) : decode c p = .ok (.if_icmp .eq n, 3) := by
  obtain ⟨a, b⟩ := dk_S h
  show Except.bind (Except.bind ((Reader.u1 : Decoder Nat) c p) _) _ = _
  rw [a]
  show Except.bind (Except.bind ((Reader.s2 : Decoder Int) c (p + 1)) _) _ = _
  rw [b]
  show Except.ok (_, p + 1 + 1 + 1 - p) = _
  rw [show p + 1 + 1 + 1 - p = 3 by omega]
set_option maxRecDepth 100000 in
theorem dk_if_icmp_ge {c : ByteArray} {p : Nat} {n : Int} (h : bkS c p 162 n = true) : decode c p = .ok (.if_icmp .ge n, 3) := by
  obtain ⟨a, b⟩ := dk_S h
  show Except.bind (Except.bind ((Reader.u1 : Decoder Nat) c p) _) _ = _
  rw [a]
  show Except.bind (Except.bind ((Reader.s2 : Decoder Int) c (p + 1)) _) _ = _
  rw [b]
  show Except.ok (_, p + 1 + 1 + 1 - p) = _
  rw [show p + 1 + 1 + 1 - p = 3 by omega]
set_option maxRecDepth 100000 in
theorem dk_if_icmp_gt {c : ByteArray} {p : Nat} {n : Int} (h : bkS c p 163 n = true) : decode c p = .ok (.if_icmp .gt n, 3) := by
  obtain ⟨a, b⟩ := dk_S h
  show Except.bind (Except.bind ((Reader.u1 : Decoder Nat) c p) _) _ = _
  rw [a]
  show Except.bind (Except.bind ((Reader.s2 : Decoder Int) c (p + 1)) _) _ = _
  rw [b]
  show Except.ok (_, p + 1 + 1 + 1 - p) = _
  rw [show p + 1 + 1 + 1 - p = 3 by omega]
set_option maxRecDepth 100000 in
theorem dk_if_icmp_le {c : ByteArray} {p : Nat} {n : Int} (h : bkS c p 164 n = true) : decode c p = .ok (.if_icmp .le n, 3) := by
  obtain ⟨a, b⟩ := dk_S h
  show Except.bind (Except.bind ((Reader.u1 : Decoder Nat) c p) _) _ = _
  rw [a]
  show Except.bind (Except.bind ((Reader.s2 : Decoder Int) c (p + 1)) _) _ = _
  rw [b]
  show Except.ok (_, p + 1 + 1 + 1 - p) = _
  rw [show p + 1 + 1 + 1 - p = 3 by omega]
set_option maxRecDepth 100000 in
theorem dk_if_icmp_lt {c : ByteArray} {p : Nat} {n : Int} (h : bkS c p 161 n = true) : decode c p = .ok (.if_icmp .lt n, 3) := by
  obtain ⟨a, b⟩ := dk_S h
  show Except.bind (Except.bind ((Reader.u1 : Decoder Nat) c p) _) _ = _
  rw [a]
  show Except.bind (Except.bind ((Reader.s2 : Decoder Int) c (p + 1)) _) _ = _
  rw [b]
  show Except.ok (_, p + 1 + 1 + 1 - p) = _
  rw [show p + 1 + 1 + 1 - p = 3 by omega]
set_option maxRecDepth 100000 in
theorem dk_if_icmp_ne {c : ByteArray} {p : Nat} {n : Int} (h : bkS c p 160 n = true) : decode c p = .ok (.if_icmp .ne n, 3) := by
  obtain ⟨a, b⟩ := dk_S h
  show Except.bind (Except.bind ((Reader.u1 : Decoder Nat) c p) _) _ = _
  rw [a]
  show Except.bind (Except.bind ((Reader.s2 : Decoder Int) c (p + 1)) _) _ = _
  rw [b]
  show Except.ok (_, p + 1 + 1 + 1 - p) = _
  rw [show p + 1 + 1 + 1 - p = 3 by omega]
set_option maxRecDepth 100000 in
theorem dk_sipush {c : ByteArray} {p : Nat} {n : Int} (h : bkS c p 17 n = true) : decode c p = .ok (.sipush n, 3) := by
  obtain ⟨a, b⟩ := dk_S h
  show Except.bind (Except.bind ((Reader.u1 : Decoder Nat) c p) _) _ = _
  rw [a]
  show Except.bind (Except.bind ((Reader.s2 : Decoder Int) c (p + 1)) _) _ = _
  rw [b]
  show Except.ok (_, p + 1 + 1 + 1 - p) = _
  rw [show p + 1 + 1 + 1 - p = 3 by omega]
end
section
/-! rows that check themselves: what a row may lean on is a method's bytes, class, locals, and what its pool says (written by arw.py) -/
noncomputable abbrev PL : Type := List (Nat × Nat × Nat) × List (Nat × Nat × Nat × FieldType) × List (Nat × Int32) × List (Nat × Int64)
noncomputable abbrev PX : Type := (ByteArray × String × Nat × Bool) × PL
noncomputable def px_g (own : String) (L : PL) : Prop := (∀ e ∈ L.1, ∀ (cc : ByteArray) (nL : Nat) (ini : Bool) (pc : Nat), bk3 cc pc 180 e.1 = true → pm_okF cc own nL ini pc (s_getf e.2.1 e.2.2 (pc + 3))) ∧ (∀ e ∈ L.2.1, ∀ (cc : ByteArray) (nL : Nat) (ini : Bool) (pc : Nat), bk3 cc pc 181 e.1 = true → pm_okF cc own nL ini pc (s_putf e.2.1 e.2.2.1 e.2.2.2 (pc + 3))) ∧ (∀ e ∈ L.2.2.1, Cond.constant own e.1 e.2 ∈ pm_T) ∧ ∀ e ∈ L.2.2.2, Cond.constantLong own e.1 e.2 ∈ pm_T
noncomputable def rw_g (f : pm_S → Option pm_S) (c : PX → Nat → Bool) : Prop := ∀ (X : PX) (pc : Nat), px_g X.1.2.1 X.2 → c X pc = true → pm_okF X.1.1 X.1.2.1 X.1.2.2.1 X.1.2.2.2 pc f
theorem ck_and {a b : Bool} (h : (a && b) = true) : a = true ∧ b = true := by rwa [Bool.and_eq_true] at h
theorem ck_or {a b : Bool} (h : (a || b) = true) : a = true ∨ b = true := by rwa [Bool.or_eq_true] at h
noncomputable def ck_no (_ : PX) (_ : Nat) : Bool := false
theorem ck_no_ok {f : pm_S → Option pm_S} : rw_g f ck_no := fun _ _ _ h => by cases h
noncomputable def ck_1 (o n : Nat) (X : PX) (pc : Nat) : Bool := Nat.beq n (pc + 1) && bk1 X.1.1 pc o
theorem ck_1_ok {o : Nat} {g : Nat → pm_S → Option pm_S} (k : ∀ (cc : ByteArray) (own : String) (nL : Nat) (ini : Bool) (pc : Nat), bk1 cc pc o = true → pm_okF cc own nL ini pc (g (pc + 1))) (n : Nat) : rw_g (g n) (ck_1 o n) := by
  intro X pc _ h
  obtain ⟨h1, h2⟩ := ck_and h
  rw [Nat.eq_of_beq_eq_true h1]
  exact k _ _ _ _ _ h2
noncomputable def ck_ld (b o i n : Nat) (X : PX) (pc : Nat) : Bool := (Nat.beq n (pc + 1) && (Nat.blt i 4 && bk1 X.1.1 pc (b + i))) || (Nat.beq n (pc + 2) && bk2 X.1.1 pc o i)
theorem ck_ld_ok {b o : Nat} {g : Nat → Nat → pm_S → Option pm_S} (k0 : ∀ (cc : ByteArray) (own : String) (nL : Nat) (ini : Bool) (pc i : Nat), i < 4 → bk1 cc pc (b + i) = true → pm_okF cc own nL ini pc (g i (pc + 1))) (k : ∀ (cc : ByteArray) (own : String) (nL : Nat) (ini : Bool) (pc i : Nat), bk2 cc pc o i = true → pm_okF cc own nL ini pc (g i (pc + 2))) (i n : Nat) : rw_g (g i n) (ck_ld b o i n) := by
  intro X pc _ h
  rcases ck_or h with h | h
  · obtain ⟨h1, h2⟩ := ck_and h
    obtain ⟨h2, h3⟩ := ck_and h2
    rw [Nat.eq_of_beq_eq_true h1]
    exact k0 _ _ _ _ _ _ (Nat.le_of_ble_eq_true h2) h3
  · obtain ⟨h1, h2⟩ := ck_and h
    rw [Nat.eq_of_beq_eq_true h1]
    exact k _ _ _ _ _ _ h2
noncomputable def ck_st (b o e i n : Nat) (X : PX) (pc : Nat) : Bool := Nat.blt (i + e) X.1.2.2.1 && ((Nat.beq n (pc + 1) && (Nat.blt i 4 && bk1 X.1.1 pc (b + i))) || (Nat.beq n (pc + 2) && bk2 X.1.1 pc o i))
theorem ck_st_ok {b o e : Nat} {g : Nat → Nat → pm_S → Option pm_S} (k0 : ∀ (cc : ByteArray) (own : String) (nL : Nat) (ini : Bool) (pc i : Nat), i + e < nL → i < 4 → bk1 cc pc (b + i) = true → pm_okF cc own nL ini pc (g i (pc + 1))) (k : ∀ (cc : ByteArray) (own : String) (nL : Nat) (ini : Bool) (pc i : Nat), i + e < nL → bk2 cc pc o i = true → pm_okF cc own nL ini pc (g i (pc + 2))) (i n : Nat) : rw_g (g i n) (ck_st b o e i n) := by
  intro X pc _ h
  obtain ⟨h0, h⟩ := ck_and h
  have h0 := Nat.le_of_ble_eq_true h0
  rcases ck_or h with h | h
  · obtain ⟨h1, h2⟩ := ck_and h
    obtain ⟨h2, h3⟩ := ck_and h2
    rw [Nat.eq_of_beq_eq_true h1]
    exact k0 _ _ _ _ _ _ h0 (Nat.le_of_ble_eq_true h2) h3
  · obtain ⟨h1, h2⟩ := ck_and h
    rw [Nat.eq_of_beq_eq_true h1]
    exact k _ _ _ _ _ _ h0 h2
theorem ck_4 {P : Nat → Prop} (h0 : P 0) (h1 : P 1) (h2 : P 2) (h3 : P 3) : ∀ i, i < 4 → P i
  | 0, _ => h0
  | 1, _ => h1
  | 2, _ => h2
  | 3, _ => h3
  | i + 4, h => absurd h (by omega)
noncomputable def ck_if (o t n : Nat) (X : PX) (pc : Nat) : Bool := Nat.beq n (pc + 3) && bkS X.1.1 pc o ((t : Int) - (pc : Int))
theorem ck_if_ok {o : Nat} {g : Nat → Nat → pm_S → Option pm_S} (k : ∀ (cc : ByteArray) (own : String) (nL : Nat) (ini : Bool) (pc : Nat) (off : Int) (t : Nat), bkS cc pc o off = true → (pc : Int) + off = (t : Int) → pm_okF cc own nL ini pc (g t (pc + 3))) (t n : Nat) : rw_g (g t n) (ck_if o t n) := by
  intro X pc _ h
  obtain ⟨h1, h2⟩ := ck_and h
  rw [Nat.eq_of_beq_eq_true h1]
  exact k _ _ _ _ _ _ _ h2 (by omega)
noncomputable def ck_goto (t : Nat) (X : PX) (pc : Nat) : Bool := bkS X.1.1 pc 167 ((t : Int) - (pc : Int))
theorem ck_goto_ok (t : Nat) : rw_g (s_goto t) (ck_goto t) := fun _ _ _ h => k_goto (dk_goto h) (by omega)
noncomputable def ck_inc (i : Nat) (d : Int32) (n : Nat) (X : PX) (pc : Nat) : Bool := Nat.beq n (pc + 3) && (Nat.blt i X.1.2.2.1 && (bkI X.1.1 pc 132 i d.toInt && decide (Int32.ofInt d.toInt = d)))
theorem ck_inc_ok (i : Nat) (d : Int32) (n : Nat) : rw_g (s_inc i d n) (ck_inc i d n) := by
  intro X pc _ h
  obtain ⟨h1, h⟩ := ck_and h
  obtain ⟨h2, h⟩ := ck_and h
  obtain ⟨h3, h4⟩ := ck_and h
  rw [Nat.eq_of_beq_eq_true h1]
  exact k_iinc (dk_iinc h3) (of_decide_eq_true h4) (Nat.le_of_ble_eq_true h2)
noncomputable def ck_gf (ci k n : Nat) (X : PX) (pc : Nat) : Bool := Nat.beq n (pc + 3) && X.2.1.any (fun e => Nat.beq e.2.1 ci && (Nat.beq e.2.2 k && bk3 X.1.1 pc 180 e.1))
theorem ck_gf_ok (ci k n : Nat) : rw_g (s_getf ci k n) (ck_gf ci k n) := by
  intro X pc g h
  obtain ⟨h1, h⟩ := ck_and h
  obtain ⟨e, he, h⟩ := List.any_eq_true.mp h
  obtain ⟨h2, h⟩ := ck_and h
  obtain ⟨h3, h4⟩ := ck_and h
  rw [Nat.eq_of_beq_eq_true h1, ← Nat.eq_of_beq_eq_true h2, ← Nat.eq_of_beq_eq_true h3]
  exact g.1 e he _ _ _ _ h4
noncomputable def ck_pf (ci k : Nat) (ty : FieldType) (n : Nat) (X : PX) (pc : Nat) : Bool := Nat.beq n (pc + 3) && X.2.2.1.any (fun e => Nat.beq e.2.1 ci && (Nat.beq e.2.2.1 k && (decide (e.2.2.2 = ty) && bk3 X.1.1 pc 181 e.1)))
theorem ck_pf_ok (ci k : Nat) (ty : FieldType) (n : Nat) : rw_g (s_putf ci k ty n) (ck_pf ci k ty n) := by
  intro X pc g h
  obtain ⟨h1, h⟩ := ck_and h
  obtain ⟨e, he, h⟩ := List.any_eq_true.mp h
  obtain ⟨h2, h⟩ := ck_and h
  obtain ⟨h3, h⟩ := ck_and h
  obtain ⟨h4, h5⟩ := ck_and h
  rw [Nat.eq_of_beq_eq_true h1, ← Nat.eq_of_beq_eq_true h2, ← Nat.eq_of_beq_eq_true h3, ← of_decide_eq_true h4]
  exact g.2.1 e he _ _ _ _ h5
noncomputable def ck_ic (v : Int32) (c : ByteArray) (pc : Nat) : Bool := (bk1 c pc 2 && decide (Int32.ofInt (-1) = v)) || ((bk1 c pc 3 && decide (Int32.ofInt 0 = v)) || ((bk1 c pc 4 && decide (Int32.ofInt 1 = v)) || ((bk1 c pc 5 && decide (Int32.ofInt 2 = v)) || ((bk1 c pc 6 && decide (Int32.ofInt 3 = v)) || ((bk1 c pc 7 && decide (Int32.ofInt 4 = v)) || (bk1 c pc 8 && decide (Int32.ofInt 5 = v)))))))
theorem ck_ic_ok {v : Int32} {cc : ByteArray} {own : String} {nL pc : Nat} {ini : Bool} (h : ck_ic v cc pc = true) : pm_okF cc own nL ini pc (s_const (.int v) (pc + 1)) := by
  rcases ck_or h with h | h
  · obtain ⟨h1, h2⟩ := ck_and h; exact k_iconst (dk_iconst_m h1) (of_decide_eq_true h2)
  rcases ck_or h with h | h
  · obtain ⟨h1, h2⟩ := ck_and h; exact k_iconst (dk_iconst_0 h1) (of_decide_eq_true h2)
  rcases ck_or h with h | h
  · obtain ⟨h1, h2⟩ := ck_and h; exact k_iconst (dk_iconst_1 h1) (of_decide_eq_true h2)
  rcases ck_or h with h | h
  · obtain ⟨h1, h2⟩ := ck_and h; exact k_iconst (dk_iconst_2 h1) (of_decide_eq_true h2)
  rcases ck_or h with h | h
  · obtain ⟨h1, h2⟩ := ck_and h; exact k_iconst (dk_iconst_3 h1) (of_decide_eq_true h2)
  rcases ck_or h with h | h
  · obtain ⟨h1, h2⟩ := ck_and h; exact k_iconst (dk_iconst_4 h1) (of_decide_eq_true h2)
  obtain ⟨h1, h2⟩ := ck_and h; exact k_iconst (dk_iconst_5 h1) (of_decide_eq_true h2)
noncomputable def ck_ci (v : Int32) (n : Nat) (X : PX) (pc : Nat) : Bool := (Nat.beq n (pc + 1) && ck_ic v X.1.1 pc) || ((Nat.beq n (pc + 2) && ((bkB X.1.1 pc 16 v.toInt && decide ((Int8.ofInt v.toInt).toInt32 = v)) || X.2.2.2.1.any (fun e => bk2 X.1.1 pc 18 e.1 && decide (e.2 = v)))) || (Nat.beq n (pc + 3) && ((bkS X.1.1 pc 17 v.toInt && decide ((Int16.ofInt v.toInt).toInt32 = v)) || X.2.2.2.1.any (fun e => bk3 X.1.1 pc 19 e.1 && decide (e.2 = v)))))
theorem ck_ci_ok (v : Int32) (n : Nat) : rw_g (s_const (.int v) n) (ck_ci v n) := by
  intro X pc g h
  rcases ck_or h with h | h
  · obtain ⟨h1, h⟩ := ck_and h
    rw [Nat.eq_of_beq_eq_true h1]
    exact ck_ic_ok h
  rcases ck_or h with h | h
  · obtain ⟨h1, h⟩ := ck_and h
    rw [Nat.eq_of_beq_eq_true h1]
    rcases ck_or h with h | h
    · obtain ⟨h2, h3⟩ := ck_and h; exact k_bipush (dk_bipush h2) (of_decide_eq_true h3)
    · obtain ⟨e, he, h⟩ := List.any_eq_true.mp h
      obtain ⟨h2, h3⟩ := ck_and h
      rw [← of_decide_eq_true h3]
      exact k_ldc (dk_ldc h2) (g.2.2.1 e he)
  · obtain ⟨h1, h⟩ := ck_and h
    rw [Nat.eq_of_beq_eq_true h1]
    rcases ck_or h with h | h
    · obtain ⟨h2, h3⟩ := ck_and h; exact k_sipush (dk_sipush h2) (of_decide_eq_true h3)
    · obtain ⟨e, he, h⟩ := List.any_eq_true.mp h
      obtain ⟨h2, h3⟩ := ck_and h
      rw [← of_decide_eq_true h3]
      exact k_ldcw (dk_ldc_w h2) (g.2.2.1 e he)
noncomputable def ck_cl (v : Int64) (n : Nat) (X : PX) (pc : Nat) : Bool := (Nat.beq n (pc + 1) && ((bk1 X.1.1 pc 9 && decide (Int64.ofNat 0 = v)) || (bk1 X.1.1 pc 10 && decide (Int64.ofNat 1 = v)))) || (Nat.beq n (pc + 3) && X.2.2.2.2.any (fun e => bk3 X.1.1 pc 20 e.1 && decide (e.2 = v)))
theorem ck_cl_ok (v : Int64) (n : Nat) : rw_g (s_const (.long v) n) (ck_cl v n) := by
  intro X pc g h
  rcases ck_or h with h | h
  · obtain ⟨h1, h⟩ := ck_and h
    rw [Nat.eq_of_beq_eq_true h1]
    rcases ck_or h with h | h
    · obtain ⟨h2, h3⟩ := ck_and h; exact k_lconst (dk_lconst_0 h2) (of_decide_eq_true h3)
    · obtain ⟨h2, h3⟩ := ck_and h; exact k_lconst (dk_lconst_1 h2) (of_decide_eq_true h3)
  · obtain ⟨h1, h⟩ := ck_and h
    rw [Nat.eq_of_beq_eq_true h1]
    obtain ⟨e, he, h⟩ := List.any_eq_true.mp h
    obtain ⟨h2, h3⟩ := ck_and h
    rw [← of_decide_eq_true h3]
    exact k_ldc2 (dk_ldc2_w h2) (g.2.2.2 e he)
noncomputable def ck_const (v : Value) (n : Nat) : PX → Nat → Bool := match v with
  | .int x => ck_ci x n
  | .long x => ck_cl x n
  | _ => ck_no
theorem ck_const_ok (v : Value) (n : Nat) : rw_g (s_const v n) (ck_const v n) := by
  unfold ck_const
  split
  · exact ck_ci_ok _ n
  · exact ck_cl_ok _ n
  · exact ck_no_ok
noncomputable def ck_aa (t n : Nat) (X : PX) (pc : Nat) : Bool := Nat.beq n (pc + 1) && (bk1 X.1.1 pc 50 && (Nat.beq t 4 || Nat.beq t 5))
theorem ck_aa_ok (t n : Nat) : rw_g (s_aald t n) (ck_aa t n) := by
  intro X pc _ h
  obtain ⟨h1, h⟩ := ck_and h
  obtain ⟨h2, h⟩ := ck_and h
  rw [Nat.eq_of_beq_eq_true h1]
  rcases ck_or h with h | h
  · rw [Nat.eq_of_beq_eq_true h]; exact k_aald (C := RX5) (fun _ => rfl) (dk_aaload h2)
  · rw [Nat.eq_of_beq_eq_true h]; exact k_aald (C := RX4) (fun _ => rfl) (dk_aaload h2)
theorem ck_il_ok : ∀ (i n : Nat), rw_g (s_il i n) (ck_ld 26 21 i n) := ck_ld_ok (fun cc own nL ini pc i h4 h => ck_4 (P := fun i => bk1 cc pc (26 + i) = true → pm_okF cc own nL ini pc (s_il i (pc + 1))) (fun h => k_iload_n (dk_iload_n_0 h) rfl) (fun h => k_iload_n (dk_iload_n_1 h) rfl) (fun h => k_iload_n (dk_iload_n_2 h) rfl) (fun h => k_iload_n (dk_iload_n_3 h) rfl) i h4 h) (fun _ _ _ _ _ _ h => k_iload (dk_iload h))
theorem ck_ll_ok : ∀ (i n : Nat), rw_g (s_ll i n) (ck_ld 30 22 i n) := ck_ld_ok (fun cc own nL ini pc i h4 h => ck_4 (P := fun i => bk1 cc pc (30 + i) = true → pm_okF cc own nL ini pc (s_ll i (pc + 1))) (fun h => k_lload_n (dk_lload_n_0 h) rfl) (fun h => k_lload_n (dk_lload_n_1 h) rfl) (fun h => k_lload_n (dk_lload_n_2 h) rfl) (fun h => k_lload_n (dk_lload_n_3 h) rfl) i h4 h) (fun _ _ _ _ _ _ h => k_lload (dk_lload h))
theorem ck_al_ok : ∀ (i n : Nat), rw_g (s_al i n) (ck_ld 42 25 i n) := ck_ld_ok (fun cc own nL ini pc i h4 h => ck_4 (P := fun i => bk1 cc pc (42 + i) = true → pm_okF cc own nL ini pc (s_al i (pc + 1))) (fun h => k_aload_n (dk_aload_n_0 h) rfl) (fun h => k_aload_n (dk_aload_n_1 h) rfl) (fun h => k_aload_n (dk_aload_n_2 h) rfl) (fun h => k_aload_n (dk_aload_n_3 h) rfl) i h4 h) (fun _ _ _ _ _ _ h => k_aload (dk_aload h))
theorem ck_is_ok : ∀ (i n : Nat), rw_g (s_is i n) (ck_st 59 54 0 i n) := ck_st_ok (fun cc own nL ini pc i hn h4 h => ck_4 (P := fun i => i + 0 < nL → bk1 cc pc (59 + i) = true → pm_okF cc own nL ini pc (s_is i (pc + 1))) (fun hn h => k_istore_n (dk_istore_n_0 h) rfl hn) (fun hn h => k_istore_n (dk_istore_n_1 h) rfl hn) (fun hn h => k_istore_n (dk_istore_n_2 h) rfl hn) (fun hn h => k_istore_n (dk_istore_n_3 h) rfl hn) i h4 hn h) (fun _ _ _ _ _ _ hn h => k_istore (dk_istore h) hn)
noncomputable def ck_ls (i n : Nat) (X : PX) (pc : Nat) : Bool := Nat.blt (i + 1) X.1.2.2.1 && ((Nat.beq n (pc + 1) && (Nat.beq i 2 && bk1 X.1.1 pc 65)) || ((Nat.beq n (pc + 1) && (Nat.beq i 3 && bk1 X.1.1 pc 66)) || ((Nat.beq n (pc + 2) && bk2 X.1.1 pc 55 i))))
theorem ck_ls_ok (i n : Nat) : rw_g (s_ls i n) (ck_ls i n) := by
  intro X pc _ h
  obtain ⟨h0, h⟩ := ck_and h
  have h0 : i + 1 < X.1.2.2.1 := Nat.le_of_ble_eq_true h0
  rcases ck_or h with h | h
  · obtain ⟨h1, h⟩ := ck_and h; obtain ⟨h2, h3⟩ := ck_and h; rw [Nat.eq_of_beq_eq_true h1]; have e := Nat.eq_of_beq_eq_true h2; subst e; exact k_lstore_n (dk_lstore_n_2 h3) rfl h0
  rcases ck_or h with h | h
  · obtain ⟨h1, h⟩ := ck_and h; obtain ⟨h2, h3⟩ := ck_and h; rw [Nat.eq_of_beq_eq_true h1]; have e := Nat.eq_of_beq_eq_true h2; subst e; exact k_lstore_n (dk_lstore_n_3 h3) rfl h0
  obtain ⟨h1, h⟩ := ck_and h; rw [Nat.eq_of_beq_eq_true h1]; exact k_lstore (dk_lstore h) h0
noncomputable def ck_as (i n : Nat) (X : PX) (pc : Nat) : Bool := Nat.blt (i + 0) X.1.2.2.1 && ((Nat.beq n (pc + 1) && (Nat.beq i 1 && bk1 X.1.1 pc 76)) || ((Nat.beq n (pc + 1) && (Nat.beq i 2 && bk1 X.1.1 pc 77)) || ((Nat.beq n (pc + 1) && (Nat.beq i 3 && bk1 X.1.1 pc 78)) || ((Nat.beq n (pc + 2) && bk2 X.1.1 pc 58 i)))))
theorem ck_as_ok (i n : Nat) : rw_g (s_as i n) (ck_as i n) := by
  intro X pc _ h
  obtain ⟨h0, h⟩ := ck_and h
  have h0 : i + 0 < X.1.2.2.1 := Nat.le_of_ble_eq_true h0
  rcases ck_or h with h | h
  · obtain ⟨h1, h⟩ := ck_and h; obtain ⟨h2, h3⟩ := ck_and h; rw [Nat.eq_of_beq_eq_true h1]; have e := Nat.eq_of_beq_eq_true h2; subst e; exact k_astore_n (dk_astore_n_1 h3) rfl h0
  rcases ck_or h with h | h
  · obtain ⟨h1, h⟩ := ck_and h; obtain ⟨h2, h3⟩ := ck_and h; rw [Nat.eq_of_beq_eq_true h1]; have e := Nat.eq_of_beq_eq_true h2; subst e; exact k_astore_n (dk_astore_n_2 h3) rfl h0
  rcases ck_or h with h | h
  · obtain ⟨h1, h⟩ := ck_and h; obtain ⟨h2, h3⟩ := ck_and h; rw [Nat.eq_of_beq_eq_true h1]; have e := Nat.eq_of_beq_eq_true h2; subst e; exact k_astore_n (dk_astore_n_3 h3) rfl h0
  obtain ⟨h1, h⟩ := ck_and h; rw [Nat.eq_of_beq_eq_true h1]; exact k_astore (dk_astore h) h0
end
section
/-! THE EXECUTOR (second writing), part 1: abstract values, heaps, states -/
/-- an int or a long is a symbol (or none) and an offset; references by their numbers -/
noncomputable abbrev AV : Type := (Option Nat × Int) ⊕ ((Option Nat × Int) ⊕ (Nat ⊕ (Nat ⊕ Unit)))
/-- the kinds that stand in certificates -/
noncomputable abbrev CV : Type := (Int × Int) ⊕ ((Int × Int) ⊕ (Nat ⊕ (Nat ⊕ Unit)))
noncomputable def av_ev (n : Nat) (ρ : Nat → Int) (k : Option Nat) (o : Int) (v : Int) : Prop := match k with
  | none => v = o
  | some k => k < n ∧ v = ρ k + o
noncomputable def av_g (n : Nat) (ρ : Nat → Int) (a : AV) (v : Value) : Prop := match a, v with
  | .inl (k, o), .int x => av_ev n ρ k o x.toInt
  | .inr (.inl (k, o)), .long x => av_ev n ρ k o x.toInt
  | .inr (.inr (.inl a)), .ref a' => a' = a
  | .inr (.inr (.inr (.inl k))), .retAddr k' => k' = k
  | .inr (.inr (.inr (.inr ()))), .null => True
  | _, _ => False
noncomputable def cv_g (c : CV) (v : Value) : Prop := match c, v with
  | .inl (lo, hi), .int x => lo ≤ x.toInt ∧ x.toInt ≤ hi
  | .inr (.inl (lo, hi)), .long x => lo ≤ x.toInt ∧ x.toInt ≤ hi
  | .inr (.inr (.inl a)), .ref a' => a' = a
  | .inr (.inr (.inr (.inl k))), .retAddr k' => k' = k
  | .inr (.inr (.inr (.inr ()))), .null => True
  | _, _ => False
noncomputable def av_cat (a : AV) : Nat := match a with
  | .inr (.inl (_, _)) => 2
  | _ => 1
theorem av_cat_eq {n : Nat} {ρ : Nat → Int} {a : AV} {v : Value} (h : av_g n ρ a v) : v.category = av_cat a := by
  rcases a with ⟨k, o⟩ | ⟨k, o⟩ | a | k | ⟨⟩ <;> cases v <;> first | rfl | exact h.elim
theorem av_ev_mono {n n' : Nat} {ρ ρ' : Nat → Int} {k : Option Nat} {o v : Int} (hn : n ≤ n') (hρ : ∀ q, q < n → ρ' q = ρ q) (h : av_ev n ρ k o v) : av_ev n' ρ' k o v := by
  cases k with
  | none => exact h
  | some k => exact ⟨Nat.lt_of_lt_of_le h.1 hn, by rw [hρ k h.1]; exact h.2⟩
theorem av_g_mono {n n' : Nat} {ρ ρ' : Nat → Int} {a : AV} {v : Value} (hn : n ≤ n') (hρ : ∀ q, q < n → ρ' q = ρ q) (h : av_g n ρ a v) : av_g n' ρ' a v := by
  rcases a with ⟨k, o⟩ | ⟨k, o⟩ | a | k | ⟨⟩ <;> cases v <;> first | exact av_ev_mono hn hρ h | exact h
theorem av_int {n : Nat} {ρ : Nat → Int} {k : Option Nat} {o : Int} {v : Value} (h : av_g n ρ (.inl (k, o)) v) : ∃ x : Int32, v = .int x ∧ av_ev n ρ k o x.toInt := by
  cases v with
  | int x => exact ⟨x, rfl, h⟩
  | _ => exact h.elim
theorem av_long {n : Nat} {ρ : Nat → Int} {k : Option Nat} {o : Int} {v : Value} (h : av_g n ρ (.inr (.inl (k, o))) v) : ∃ x : Int64, v = .long x ∧ av_ev n ρ k o x.toInt := by
  cases v with
  | long x => exact ⟨x, rfl, h⟩
  | _ => exact h.elim
theorem av_ref {n : Nat} {ρ : Nat → Int} {a : Nat} {v : Value} (h : av_g n ρ (.inr (.inr (.inl a))) v) : v = .ref a := by
  cases v with
  | ref x => exact congrArg Value.ref h
  | _ => exact h.elim
theorem av_out {n : Nat} {ρ : Nat → Int} {a : Nat} {v : Value} (h : av_g n ρ (.inr (.inr (.inr (.inl a)))) v) : v = .retAddr a := by
  cases v with
  | retAddr x => exact congrArg Value.retAddr h
  | _ => exact h.elim
noncomputable abbrev IV : Type := List (Int × Int)
noncomputable def iv_g (ρ : Nat → Int) (iv : IV) : Prop := ∀ k lo hi, iv[k]? = some (lo, hi) → lo ≤ ρ k ∧ ρ k ≤ hi
/-- a fresh symbol -/
noncomputable def iv_ext (ρ : Nat → Int) (n : Nat) (v : Int) : Nat → Int := fun q => bif Nat.beq q n then v else ρ q
theorem iv_ext_old {ρ : Nat → Int} {n : Nat} {v : Int} (q : Nat) (h : q < n) : iv_ext ρ n v q = ρ q := by
  unfold iv_ext
  cases hb : Nat.beq q n with
  | false => rfl
  | true => have := Nat.eq_of_beq_eq_true hb; omega
theorem iv_ext_new {ρ : Nat → Int} {n : Nat} {v : Int} : iv_ext ρ n v n = v := by
  unfold iv_ext; rw [Nat.beq_refl]; rfl
theorem iv_push {ρ : Nat → Int} {iv : IV} {v lo hi : Int} (h : iv_g ρ iv) (h1 : lo ≤ v) (h2 : v ≤ hi) : iv_g (iv_ext ρ iv.length v) (iv ++ [(lo, hi)]) := by
  intro k l u hk
  by_cases hlt : k < iv.length
  · rw [List.getElem?_append_left hlt] at hk
    rw [iv_ext_old k hlt]
    exact h k l u hk
  · have hk' := hk
    rw [List.getElem?_append_right (by omega)] at hk'
    have h0 : k - iv.length = 0 := by
      cases hd : k - iv.length with
      | zero => rfl
      | succ d => rw [hd] at hk'; cases hk'
    have he : k = iv.length := by omega
    subst he
    rw [h0] at hk'
    cases hk'
    rw [iv_ext_new]
    exact ⟨h1, h2⟩
/-- symbols that a segment began with (they keep what they stood for), the heap and the locals at the method's entry -/
noncomputable abbrev AEnv : Type := Nat × (Nat → Int) × pm_H × List (Nat × Value)
noncomputable def ia_g (E : AEnv) (ρ : Nat → Int) (iv : IV) : Prop := iv_g ρ iv ∧ E.1 ≤ iv.length ∧ ∀ k, k < E.1 → ρ k = E.2.1 k
theorem ia_push {E : AEnv} {ρ : Nat → Int} {iv : IV} {v lo hi : Int} (h : ia_g E ρ iv) (h1 : lo ≤ v) (h2 : v ≤ hi) : ia_g E (iv_ext ρ iv.length v) (iv ++ [(lo, hi)]) :=
  ⟨iv_push h.1 h1 h2, by rw [List.length_append]; exact Nat.le_trans h.2.1 (Nat.le_add_right _ _), fun k hk => (iv_ext_old k (Nat.lt_of_lt_of_le hk h.2.1)).trans (h.2.2 k hk)⟩
/-- the interval of a term -/
noncomputable def iv_rng (iv : IV) (k : Option Nat) (o : Int) : Option (Int × Int) := match k with
  | none => some (o, o)
  | some k => match iv[k]? with
    | some (lo, hi) => some (lo + o, hi + o)
    | none => none
theorem iv_rng_ok {E : AEnv} {n : Nat} {ρ : Nat → Int} {iv : IV} {k : Option Nat} {o v lo hi : Int} (h : ia_g E ρ iv) (hv : av_ev n ρ k o v) (hr : iv_rng iv k o = some (lo, hi)) : lo ≤ v ∧ v ≤ hi := by
  cases k with
  | none =>
    cases hr
    obtain rfl : v = o := hv
    omega
  | some k =>
    unfold iv_rng at hr
    simp only at hr
    split at hr
    · rename_i a b e
      cases hr
      have h1 := h.1 k a b e
      have h2 := hv.2
      omega
    · cases hr
noncomputable abbrev AF : Type := (Int × Int) ⊕ (Unit ⊕ (Nat ⊕ Unit))
noncomputable def af_g (c : AF) (v : Value) : Prop := match c, v with
  | .inl (lo, hi), .int x => lo ≤ x.toInt ∧ x.toInt ≤ hi
  | .inr (.inl ()), .long _ => True
  | .inr (.inr (.inl a)), .ref a' => a' = a
  | .inr (.inr (.inr ())), .null => True
  | _, _ => False
/-- cells: arrays of ints (class, length, bounds of the elements, again and again), of longs, of references; objects -/
noncomputable abbrev AE : Type := (Nat × Nat × List (Int × Int)) ⊕ (Nat ⊕ ((Nat × List (Option Nat)) ⊕ (Nat × List AF)))
noncomputable def pat_at (p : List (Int × Int)) (j : Nat) : Option (Int × Int) := p[j % p.length]?
noncomputable def ae_g (c : AE) (x : pm_E) : Prop := match c, x with
  | .inl (t, len, p), .inl (t', len', .inl f) => t' = t ∧ len' = len ∧ ∀ j lo hi, pat_at p j = some (lo, hi) → lo ≤ (f j).toInt ∧ (f j).toInt ≤ hi
  | .inr (.inl len), .inl (t', len', .inr (.inl _)) => t' = 3 ∧ len' = len
  | .inr (.inr (.inl (t, fs))), .inl (t', len', .inr (.inr (.inr (.inr f)))) => t' = t ∧ len' = fs.length ∧ ∀ (j : Nat) (y : Option Nat), fs[j]? = some y → f j = y
  | .inr (.inr (.inr (ci, fs))), .inr (cj, vs) => cj = ci ∧ vs.length = fs.length ∧ ∀ (k : Nat) (c : AF) (v : Value), fs[k]? = some c → vs[k]? = some v → af_g c v
  | _, _ => False
noncomputable def hs_g (hs : List AE) (h : pm_H) : Prop := h.length = hs.length ∧ ∀ (a : Nat) c x, hs[a]? = some c → h[a]? = some x → ae_g c x
theorem hs_at {hs : List AE} {h : pm_H} {a : Nat} {c : AE} (H : hs_g hs h) (hc : hs[a]? = some c) : ∃ x, h[a]? = some x ∧ ae_g c x := by
  have hl : a < hs.length := (List.getElem?_eq_some_iff.mp hc).1
  have hl' : a < h.length := by rw [H.1]; exact hl
  exact ⟨h[a], List.getElem?_eq_getElem hl', H.2 a c _ hc (List.getElem?_eq_getElem hl')⟩
theorem hs_set {hs : List AE} {h : pm_H} {a : Nat} {c : AE} {x : pm_E} (H : hs_g hs h) (hc : hs[a]? = some c) (hx : ae_g c x) : hs_g hs (h.set a x) := by
  refine ⟨by rw [List.length_set]; exact H.1, fun b c' x' h1 h2 => ?_⟩
  by_cases hab : a = b
  · subst hab
    have hl : a < h.length := by rw [H.1]; exact (List.getElem?_eq_some_iff.mp hc).1
    rw [List.getElem?_set_self hl] at h2
    cases h2
    rw [hc] at h1
    cases h1
    exact hx
  · rw [List.getElem?_set_ne hab] at h2
    exact H.2 b c' x' h1 h2
/-- what lies in a cell at a number: a field, an int, a long -/
noncomputable def ld (h : pm_H) (a k : Nat) : Option Value := match h[a]? with
  | some (.inl (_, _, .inl f)) => some (.int (f k))
  | some (.inl (_, _, .inr (.inl f))) => some (.long (f k))
  | some (.inr (_, vs)) => vs[k]?
  | _ => none
/-- ranges of numbers in cells -/
noncomputable abbrev Rng : Type := Nat × Nat × Nat
noncomputable def rg_in (M : List Rng) (a k : Nat) : Bool := M.any (fun r => Nat.beq r.1 a && (Nat.ble r.2.1 k && Nat.ble k r.2.2))
noncomputable def rg_sub (M : List Rng) (a l u : Nat) : Bool := M.any (fun r => Nat.beq r.1 a && (Nat.ble r.2.1 l && Nat.ble u r.2.2))
theorem rg_sub_in {M : List Rng} {a l u k : Nat} (h : rg_sub M a l u = true) (h1 : l ≤ k) (h2 : k ≤ u) : rg_in M a k = true := by
  obtain ⟨r, hr, hb⟩ := List.any_eq_true.mp h
  simp only [Bool.and_eq_true] at hb
  refine List.any_eq_true.mpr ⟨r, hr, ?_⟩
  simp only [Bool.and_eq_true]
  exact ⟨hb.1, Nat.ble_eq_true_of_le (Nat.le_trans (Nat.le_of_ble_eq_true hb.2.1) h1), Nat.ble_eq_true_of_le (Nat.le_trans h2 (Nat.le_of_ble_eq_true hb.2.2))⟩
/-- the ranges meet nowhere -/
noncomputable def rg_dis (S : List Rng) (a l u : Nat) : Bool := S.all (fun r => !(Nat.beq r.1 a) || (Nat.blt r.2.2 l || Nat.blt u r.2.1))
theorem rg_dis_in {S : List Rng} {a l u k : Nat} (h : rg_dis S a l u = true) (h1 : l ≤ k) (h2 : k ≤ u) : rg_in S a k = false := by
  cases hb : rg_in S a k with
  | false => rfl
  | true =>
    obtain ⟨r, hr, hc⟩ := List.any_eq_true.mp hb
    have hd := List.all_eq_true.mp h r hr
    simp only [Bool.and_eq_true] at hc
    simp only [Bool.or_eq_true, Bool.not_eq_true'] at hd
    have c1 := Nat.le_of_ble_eq_true hc.2.1
    have c2 := Nat.le_of_ble_eq_true hc.2.2
    rcases hd with hd | hd | hd
    · rw [hc.1] at hd; cases hd
    · have := Nat.le_of_ble_eq_true hd; omega
    · have := Nat.le_of_ble_eq_true hd; omega
/-- the world: shape of the heap, facts by number, what each fact reads -/
noncomputable abbrev AW : Type := { w : List AE × (Nat → pm_H → Prop) × (Nat → List Rng) // ∀ (i : Nat) (h h' : pm_H), hs_g w.1 h → hs_g w.1 h' → (∀ a k, rg_in (w.2.2 i) a k = true → ld h' a k = ld h a k) → w.2.1 i h → w.2.1 i h' }
/-- two lists, element by element -/
noncomputable def f2 {α β : Type} (R : α → β → Prop) : List α → List β → Prop
  | [], [] => True
  | a :: l, b :: m => R a b ∧ f2 R l m
  | _, _ => False
theorem f2_cons {α β : Type} {R : α → β → Prop} {a : α} {l : List α} {m : List β} (h : f2 R (a :: l) m) : ∃ b m', m = b :: m' ∧ R a b ∧ f2 R l m' := by
  cases m with
  | nil => exact h.elim
  | cons b m' => exact ⟨b, m', rfl, h.1, h.2⟩
theorem f2_mono {α β : Type} {R S : α → β → Prop} (hRS : ∀ a b, R a b → S a b) : ∀ {l : List α} {m : List β}, f2 R l m → f2 S l m
  | [], [], _ => trivial
  | [], _ :: _, h => h.elim
  | _ :: _, [], h => h.elim
  | _ :: _, _ :: _, h => ⟨hRS _ _ h.1, f2_mono hRS h.2⟩
/-- what is known of numbers in cells -/
noncomputable abbrev Mem : Type := List ((Nat × Nat) × AV)
/-- a sum of two symbols is a third; a symbol is at most another and a number -/
noncomputable abbrev Con : Type := (Nat × Nat × Nat) ⊕ (Nat × Nat × Int)
noncomputable def con_g (n : Nat) (ρ : Nat → Int) (c : Con) : Prop := match c with
  | .inl (s, a, b) => s < n ∧ a < n ∧ b < n ∧ ρ s = ρ a + ρ b
  | .inr (a, b, c) => a < n ∧ b < n ∧ ρ a ≤ ρ b + c
theorem con_g_mono {n n' : Nat} {ρ ρ' : Nat → Int} {c : Con} (hn : n ≤ n') (hρ : ∀ q, q < n → ρ' q = ρ q) (h : con_g n ρ c) : con_g n' ρ' c := by
  rcases c with ⟨s, a, b⟩ | ⟨a, b, c⟩
  · obtain ⟨h1, h2, h3, h4⟩ := h
    exact ⟨Nat.lt_of_lt_of_le h1 hn, Nat.lt_of_lt_of_le h2 hn, Nat.lt_of_lt_of_le h3 hn, by rw [hρ s h1, hρ a h2, hρ b h3]; exact h4⟩
  · obtain ⟨h1, h2, h4⟩ := h
    exact ⟨Nat.lt_of_lt_of_le h1 hn, Nat.lt_of_lt_of_le h2 hn, by rw [hρ a h1, hρ b h2]; exact h4⟩
/-- memory, relations, facts that hold, what may be stored to, locals that stay -/
noncomputable abbrev AX : Type := Mem × List Con × List Nat × List Rng × List Nat
/-- states: place in the code, locals, stack, intervals, and the rest -/
noncomputable abbrev AS : Type := Nat × List (Nat × AV) × List AV × IV × AX
noncomputable def ex_g (w : AW) (E : AEnv) (n : Nat) (ρ : Nat → Int) (x : AX) (cl : List (Nat × Value)) (h : pm_H) : Prop :=
  hs_g w.1.1 h ∧ (∀ q a, (q, a) ∈ x.1 → ∃ v, ld h q.1 q.2 = some v ∧ av_g n ρ a v) ∧ (∀ c ∈ x.2.1, con_g n ρ c) ∧ (∀ i ∈ x.2.2.1, w.1.2.1 i h) ∧ (∀ a k, rg_in x.2.2.2.1 a k = false → ld h a k = ld E.2.2.1 a k) ∧ ∀ i ∈ x.2.2.2.2, pm_get cl i = pm_get E.2.2.2 i
theorem ex_g_mono {w : AW} {E : AEnv} {n n' : Nat} {ρ ρ' : Nat → Int} {x : AX} {cl : List (Nat × Value)} {h : pm_H} (hn : n ≤ n') (hρ : ∀ q, q < n → ρ' q = ρ q) (g : ex_g w E n ρ x cl h) : ex_g w E n' ρ' x cl h := by
  obtain ⟨g1, g2, g3, g4, g5, g6⟩ := g
  refine ⟨g1, fun q a hm => ?_, fun c hc => con_g_mono hn hρ (g3 c hc), g4, g5, g6⟩
  obtain ⟨v, e1, e2⟩ := g2 q a hm
  exact ⟨v, e1, av_g_mono hn hρ e2⟩
/-- what a state says, its symbols standing for given numbers -/
noncomputable def as_r (w : AW) (E : AEnv) (ρ : Nat → Int) (A : AS) (σ : pm_S) : Prop := ia_g E ρ A.2.2.2.1 ∧ σ.1 = A.1 ∧ (∀ i a, (i, a) ∈ A.2.1 → ∃ v, pm_get σ.2.1 i = some v ∧ av_g A.2.2.2.1.length ρ a v) ∧ f2 (fun a v => av_g A.2.2.2.1.length ρ a v) A.2.2.1 σ.2.2.1 ∧ ex_g w E A.2.2.2.1.length ρ A.2.2.2.2 σ.2.1 σ.2.2.2.1
noncomputable def as_g (w : AW) (E : AEnv) (A : AS) (σ : pm_S) : Prop := ∃ ρ : Nat → Int, as_r w E ρ A σ
noncomputable def as_get : List (Nat × AV) → Nat → Option AV
  | [], _ => none
  | q :: l, i => bif Nat.beq q.1 i then some q.2 else as_get l i
theorem as_get_in {i : Nat} {a : AV} : ∀ {lv : List (Nat × AV)}, as_get lv i = some a → (i, a) ∈ lv
  | [], h => by cases h
  | q :: l, h => by
    unfold as_get at h
    cases hb : Nat.beq q.1 i with
    | true =>
      rw [hb] at h
      have h1 : q.1 = i := Nat.eq_of_beq_eq_true hb
      have h2 : q.2 = a := Option.some.inj h
      subst h1; subst h2
      exact List.mem_cons_self
    | false =>
      rw [hb] at h
      exact List.mem_cons_of_mem _ (as_get_in h)
/-- locals that a store leaves -/
theorem pm_get_filter {p : Nat × Value → Bool} {i : Nat} {v : Value} : ∀ {lv : List (Nat × Value)}, pm_get lv i = some v → p (i, v) = true → pm_get (lv.filter p) i = some v
  | [], h, _ => by cases h
  | q :: l, h, hp => by
    unfold pm_get at h
    cases hb : Nat.beq q.1 i with
    | true =>
      rw [hb] at h
      have h1 : q.1 = i := Nat.eq_of_beq_eq_true hb
      have h2 : q.2 = v := Option.some.inj h
      subst h1; subst h2
      rw [List.filter_cons_of_pos hp]
      unfold pm_get
      rw [hb]; rfl
    | false =>
      rw [hb] at h
      have ih := pm_get_filter (p := p) (i := i) (v := v) (lv := l) h hp
      cases hq : p q with
      | true =>
        rw [List.filter_cons_of_pos hq]
        unfold pm_get
        rw [hb]; exact ih
      | false =>
        rw [List.filter_cons_of_neg (by rw [hq]; exact Bool.false_ne_true)]
        exact ih
theorem pm_get_self {i : Nat} {v : Value} {l : List (Nat × Value)} : pm_get ((i, v) :: l) i = some v := by
  unfold pm_get; rw [Nat.beq_refl]; rfl
theorem pm_get_ne {i j : Nat} {v w : Value} {l : List (Nat × Value)} (h : j ≠ i) (hl : pm_get l j = some w) : pm_get ((i, v) :: l) j = some w := by
  unfold pm_get
  cases hb : Nat.beq i j with
  | true => exact absurd (Nat.eq_of_beq_eq_true hb).symm h
  | false => exact hl
noncomputable def as_put1 (i : Nat) (a : AV) (lv : List (Nat × AV)) : List (Nat × AV) := (i, a) :: lv.filter (fun q => !(Nat.beq q.1 i) && !(Nat.beq (q.1 + 1) i && Nat.beq (av_cat q.2) 2))
noncomputable def as_put2 (i : Nat) (a : AV) (lv : List (Nat × AV)) : List (Nat × AV) := (i, a) :: lv.filter (fun q => !(Nat.beq q.1 i) && (!(Nat.beq q.1 (i + 1)) && !(Nat.beq (q.1 + 1) i && Nat.beq (av_cat q.2) 2)))
theorem as_beq {a b : Nat} : (a == b) = Nat.beq a b := by
  cases h : Nat.beq a b with
  | true => rw [Nat.eq_of_beq_eq_true h]; exact beq_self_eq_true _
  | false => exact beq_eq_false_iff_ne.mpr (Nat.ne_of_beq_eq_false h)
theorem as_put1_ok {n : Nat} {ρ : Nat → Int} {i : Nat} {a : AV} {v : Value} {la : List (Nat × AV)} {lv : List (Nat × Value)} (h : ∀ j c, (j, c) ∈ la → ∃ w, pm_get lv j = some w ∧ av_g n ρ c w) (hv : av_g n ρ a v) :
    ∀ j c, (j, c) ∈ as_put1 i a la → ∃ w, pm_get (pm_put1 i v lv) j = some w ∧ av_g n ρ c w := by
  intro j c hm
  unfold as_put1 at hm
  cases List.mem_cons.mp hm with
  | inl e => cases e; exact ⟨v, pm_get_self, hv⟩
  | inr hm =>
    obtain ⟨hm1, hm2⟩ := List.mem_filter.mp hm
    obtain ⟨w, e1, e2⟩ := h j c hm1
    have hcat := av_cat_eq e2
    refine ⟨w, ?_, e2⟩
    simp only [← as_beq, Bool.and_eq_true, Bool.not_eq_true', Bool.and_eq_false_iff, beq_eq_false_iff_ne] at hm2
    refine pm_get_ne hm2.1 (pm_get_filter e1 ?_)
    simp only [Bool.and_eq_true, Bool.not_eq_true', Bool.and_eq_false_iff, beq_eq_false_iff_ne, hcat]
    exact hm2
theorem as_put2_ok {n : Nat} {ρ : Nat → Int} {i : Nat} {a : AV} {v : Value} {la : List (Nat × AV)} {lv : List (Nat × Value)} (h : ∀ j c, (j, c) ∈ la → ∃ w, pm_get lv j = some w ∧ av_g n ρ c w) (hv : av_g n ρ a v) :
    ∀ j c, (j, c) ∈ as_put2 i a la → ∃ w, pm_get (pm_put2 i v lv) j = some w ∧ av_g n ρ c w := by
  intro j c hm
  unfold as_put2 at hm
  cases List.mem_cons.mp hm with
  | inl e => cases e; exact ⟨v, pm_get_self, hv⟩
  | inr hm =>
    obtain ⟨hm1, hm2⟩ := List.mem_filter.mp hm
    obtain ⟨w, e1, e2⟩ := h j c hm1
    have hcat := av_cat_eq e2
    refine ⟨w, ?_, e2⟩
    simp only [← as_beq, Bool.and_eq_true, Bool.not_eq_true', Bool.and_eq_false_iff, beq_eq_false_iff_ne] at hm2
    refine pm_get_ne hm2.1 (pm_get_filter e1 ?_)
    simp only [Bool.and_eq_true, Bool.not_eq_true', Bool.and_eq_false_iff, beq_eq_false_iff_ne, hcat]
    exact hm2
end
section
/-! THE EXECUTOR (second writing), part 2: steps over abstract states; each covers the step of the pure machine -/
noncomputable def ai_ok (w : AW) (f : pm_S → Option pm_S) (g : AS → Option (List AS)) : Prop := ∀ (E : AEnv) (A : AS) (σ : pm_S) (As : List AS), as_g w E A σ → g A = some As → ∃ σ', f σ = some σ' ∧ ∃ A' ∈ As, as_g w E A' σ'
section AIS
variable {w : AW}
noncomputable def a_const (v : Value) (n : Nat) : AS → Option (List AS) := fun A => match v with
  | .int c => some [(n, A.2.1, .inl (none, c.toInt) :: A.2.2.1, A.2.2.2)]
  | .long c => some [(n, A.2.1, .inr (.inl (none, c.toInt)) :: A.2.2.1, A.2.2.2)]
  | .retAddr k => some [(n, A.2.1, .inr (.inr (.inr (.inl k))) :: A.2.2.1, A.2.2.2)]
  | _ => none
theorem a_const_ok (v : Value) (n : Nat) : ai_ok w (s_const v n) (a_const v n) := by
  rintro E ⟨pc, lv, st, iv, ex⟩ ⟨pc', cl, cs, W⟩ As ⟨ρ, g1, g2, g3, g4, g5⟩ h
  refine ⟨(n, cl, v :: cs, W), rfl, ?_⟩
  cases v with
  | int c => cases h; exact ⟨_, List.mem_singleton_self _, ρ, g1, rfl, g3, ⟨rfl, g4⟩, g5⟩
  | long c => cases h; exact ⟨_, List.mem_singleton_self _, ρ, g1, rfl, g3, ⟨rfl, g4⟩, g5⟩
  | retAddr c => cases h; exact ⟨_, List.mem_singleton_self _, ρ, g1, rfl, g3, ⟨rfl, g4⟩, g5⟩
  | _ => cases h
noncomputable def a_il (i n : Nat) : AS → Option (List AS) := fun A => match as_get A.2.1 i with
  | some (.inl (k, o)) => some [(n, A.2.1, .inl (k, o) :: A.2.2.1, A.2.2.2)]
  | _ => none
theorem a_il_ok (i n : Nat) : ai_ok w (s_il i n) (a_il i n) := by
  rintro E ⟨pc, lv, st, iv, ex⟩ ⟨pc', cl, cs, W⟩ As ⟨ρ, g1, g2, g3, g4, g5⟩ h
  simp only [a_il] at h
  split at h
  · rename_i k o e
    cases h
    obtain ⟨v, e1, e2⟩ := g3 i _ (as_get_in e)
    cases v with
    | int x => exact ⟨(n, cl, .int x :: cs, W), by simp only [s_il]; simp only at e1; rw [e1], _, List.mem_singleton_self _, ρ, g1, rfl, g3, ⟨e2, g4⟩, g5⟩
    | _ => exact e2.elim
  · cases h
noncomputable def a_ll (i n : Nat) : AS → Option (List AS) := fun A => match as_get A.2.1 i with
  | some (.inr (.inl (k, o))) => some [(n, A.2.1, .inr (.inl (k, o)) :: A.2.2.1, A.2.2.2)]
  | _ => none
theorem a_ll_ok (i n : Nat) : ai_ok w (s_ll i n) (a_ll i n) := by
  rintro E ⟨pc, lv, st, iv, ex⟩ ⟨pc', cl, cs, W⟩ As ⟨ρ, g1, g2, g3, g4, g5⟩ h
  simp only [a_ll] at h
  split at h
  · rename_i k o e
    cases h
    obtain ⟨v, e1, e2⟩ := g3 i _ (as_get_in e)
    cases v with
    | long x => exact ⟨(n, cl, .long x :: cs, W), by simp only [s_ll]; simp only at e1; rw [e1], _, List.mem_singleton_self _, ρ, g1, rfl, g3, ⟨e2, g4⟩, g5⟩
    | _ => exact e2.elim
  · cases h
noncomputable def a_al (i n : Nat) : AS → Option (List AS) := fun A => match as_get A.2.1 i with
  | some (.inr (.inr (.inl a))) => some [(n, A.2.1, .inr (.inr (.inl a)) :: A.2.2.1, A.2.2.2)]
  | some (.inr (.inr (.inr (.inl a)))) => some [(n, A.2.1, .inr (.inr (.inr (.inl a))) :: A.2.2.1, A.2.2.2)]
  | _ => none
theorem a_al_ok (i n : Nat) : ai_ok w (s_al i n) (a_al i n) := by
  rintro E ⟨pc, lv, st, iv, ex⟩ ⟨pc', cl, cs, W⟩ As ⟨ρ, g1, g2, g3, g4, g5⟩ h
  simp only [a_al] at h
  split at h
  · rename_i a e
    cases h
    obtain ⟨v, e1, e2⟩ := g3 i _ (as_get_in e)
    cases v with
    | ref x => exact ⟨(n, cl, .ref x :: cs, W), by simp only [s_al]; simp only at e1; rw [e1], _, List.mem_singleton_self _, ρ, g1, rfl, g3, ⟨e2, g4⟩, g5⟩
    | _ => exact e2.elim
  · rename_i a e
    cases h
    obtain ⟨v, e1, e2⟩ := g3 i _ (as_get_in e)
    cases v with
    | retAddr x => exact ⟨(n, cl, .retAddr x :: cs, W), by simp only [s_al]; simp only at e1; rw [e1], _, List.mem_singleton_self _, ρ, g1, rfl, g3, ⟨e2, g4⟩, g5⟩
    | _ => exact e2.elim
  · cases h
/-- a store to a local leaves those that stay -/
noncomputable def kp1 (K : List Nat) (lv : List (Nat × AV)) (i : Nat) : Bool := K.all (fun j => !(Nat.beq j i) && (match as_get lv j with | some a => !(Nat.beq (j + 1) i) || Nat.beq (av_cat a) 1 | none => false))
noncomputable def kp2 (K : List Nat) (lv : List (Nat × AV)) (i : Nat) : Bool := K.all (fun j => !(Nat.beq j i) && (!(Nat.beq j (i + 1)) && (match as_get lv j with | some a => !(Nat.beq (j + 1) i) || Nat.beq (av_cat a) 1 | none => false)))
theorem ex_put1 {E : AEnv} {n : Nat} {ρ : Nat → Int} {ex : AX} {cl : List (Nat × Value)} {h : pm_H} {lv : List (Nat × AV)} {i : Nat} {v : Value} (g3 : ∀ i a, (i, a) ∈ lv → ∃ v, pm_get cl i = some v ∧ av_g n ρ a v) (hk : kp1 ex.2.2.2.2 lv i = true) (g : ex_g w E n ρ ex cl h) : ex_g w E n ρ ex (pm_put1 i v cl) h := by
  obtain ⟨g1, g2, g4, g5, g6, g7⟩ := g
  refine ⟨g1, g2, g4, g5, g6, fun j hj => ?_⟩
  have h1 := List.all_eq_true.mp hk j hj
  rw [Bool.and_eq_true] at h1
  split at h1
  · rename_i a e
    obtain ⟨u, e1, e2⟩ := g3 j a (as_get_in e)
    have hcat := av_cat_eq e2
    rw [← g7 j hj, e1]
    simp only [← as_beq, Bool.not_eq_true', Bool.or_eq_true, beq_eq_false_iff_ne, beq_iff_eq] at h1
    refine pm_get_ne h1.1 (pm_get_filter e1 ?_)
    simp only [Bool.and_eq_true, Bool.not_eq_true', Bool.and_eq_false_iff, beq_eq_false_iff_ne, hcat]
    refine ⟨h1.1, ?_⟩
    cases h1.2 with
    | inl q => exact .inl q
    | inr q => right; rw [q]; decide
  · cases h1.2
theorem ex_put2 {E : AEnv} {n : Nat} {ρ : Nat → Int} {ex : AX} {cl : List (Nat × Value)} {h : pm_H} {lv : List (Nat × AV)} {i : Nat} {v : Value} (g3 : ∀ i a, (i, a) ∈ lv → ∃ v, pm_get cl i = some v ∧ av_g n ρ a v) (hk : kp2 ex.2.2.2.2 lv i = true) (g : ex_g w E n ρ ex cl h) : ex_g w E n ρ ex (pm_put2 i v cl) h := by
  obtain ⟨g1, g2, g4, g5, g6, g7⟩ := g
  refine ⟨g1, g2, g4, g5, g6, fun j hj => ?_⟩
  have h1 := List.all_eq_true.mp hk j hj
  rw [Bool.and_eq_true, Bool.and_eq_true] at h1
  split at h1
  · rename_i a e
    obtain ⟨u, e1, e2⟩ := g3 j a (as_get_in e)
    have hcat := av_cat_eq e2
    rw [← g7 j hj, e1]
    simp only [← as_beq, Bool.not_eq_true', Bool.or_eq_true, beq_eq_false_iff_ne, beq_iff_eq] at h1
    refine pm_get_ne h1.1 (pm_get_filter e1 ?_)
    simp only [Bool.and_eq_true, Bool.not_eq_true', Bool.and_eq_false_iff, beq_eq_false_iff_ne, hcat]
    refine ⟨h1.1, h1.2.1, ?_⟩
    cases h1.2.2 with
    | inl q => exact .inl q
    | inr q => right; rw [q]; decide
  · cases h1.2.2
noncomputable def a_is (i n : Nat) : AS → Option (List AS) := fun A => match A.2.2.1 with
  | .inl (k, o) :: st => bif kp1 A.2.2.2.2.2.2.2.2 A.2.1 i then some [(n, as_put1 i (.inl (k, o)) A.2.1, st, A.2.2.2)] else none
  | _ => none
theorem a_is_ok (i n : Nat) : ai_ok w (s_is i n) (a_is i n) := by
  rintro E ⟨pc, lv, st, iv, ex⟩ ⟨pc', cl, cs, W⟩ As ⟨ρ, g1, g2, g3, g4, g5⟩ h
  simp only [a_is] at h
  split at h
  · rename_i st'
    cases hb : kp1 ex.2.2.2.2 lv i with
    | false => rw [hb] at h; cases h
    | true =>
      rw [hb] at h
      cases h
      obtain ⟨v, cs, rfl, ha, hr⟩ := f2_cons g4
      cases v with
      | int x => exact ⟨(n, pm_put1 i (.int x) cl, cs, W), rfl, _, List.mem_singleton_self _, ρ, g1, rfl, as_put1_ok g3 ha, hr, ex_put1 g3 hb g5⟩
      | _ => exact ha.elim
  · cases h
noncomputable def a_ls (i n : Nat) : AS → Option (List AS) := fun A => match A.2.2.1 with
  | .inr (.inl (k, o)) :: st => bif kp2 A.2.2.2.2.2.2.2.2 A.2.1 i then some [(n, as_put2 i (.inr (.inl (k, o))) A.2.1, st, A.2.2.2)] else none
  | _ => none
theorem a_ls_ok (i n : Nat) : ai_ok w (s_ls i n) (a_ls i n) := by
  rintro E ⟨pc, lv, st, iv, ex⟩ ⟨pc', cl, cs, W⟩ As ⟨ρ, g1, g2, g3, g4, g5⟩ h
  simp only [a_ls] at h
  split at h
  · rename_i st'
    cases hb : kp2 ex.2.2.2.2 lv i with
    | false => rw [hb] at h; cases h
    | true =>
      rw [hb] at h
      cases h
      obtain ⟨v, cs, rfl, ha, hr⟩ := f2_cons g4
      cases v with
      | long x => exact ⟨(n, pm_put2 i (.long x) cl, cs, W), rfl, _, List.mem_singleton_self _, ρ, g1, rfl, as_put2_ok g3 ha, hr, ex_put2 g3 hb g5⟩
      | _ => exact ha.elim
  · cases h
noncomputable def a_as (i n : Nat) : AS → Option (List AS) := fun A => match A.2.2.1 with
  | .inr (.inr (.inl a)) :: st => bif kp1 A.2.2.2.2.2.2.2.2 A.2.1 i then some [(n, as_put1 i (.inr (.inr (.inl a))) A.2.1, st, A.2.2.2)] else none
  | _ => none
theorem a_as_ok (i n : Nat) : ai_ok w (s_as i n) (a_as i n) := by
  rintro E ⟨pc, lv, st, iv, ex⟩ ⟨pc', cl, cs, W⟩ As ⟨ρ, g1, g2, g3, g4, g5⟩ h
  simp only [a_as] at h
  split at h
  · rename_i st'
    cases hb : kp1 ex.2.2.2.2 lv i with
    | false => rw [hb] at h; cases h
    | true =>
      rw [hb] at h
      cases h
      obtain ⟨v, cs, rfl, ha, hr⟩ := f2_cons g4
      cases v with
      | ref x => exact ⟨(n, pm_put1 i (.ref x) cl, cs, W), rfl, _, List.mem_singleton_self _, ρ, g1, rfl, as_put1_ok g3 ha, hr, ex_put1 g3 hb g5⟩
      | _ => exact ha.elim
  · cases h
noncomputable def a_goto (t : Nat) : AS → Option (List AS) := fun A => some [(t, A.2.1, A.2.2.1, A.2.2.2)]
theorem a_goto_ok (t : Nat) : ai_ok w (s_goto t) (a_goto t) := by
  rintro E ⟨pc, lv, st, iv, ex⟩ ⟨pc', cl, cs, W⟩ As ⟨ρ, g1, g2, g3, g4, g5⟩ h
  cases h
  exact ⟨(t, cl, cs, W), rfl, _, List.mem_singleton_self _, ρ, g1, rfl, g3, g4, g5⟩
noncomputable def a_dup (n : Nat) : AS → Option (List AS) := fun A => match A.2.2.1 with
  | a :: st => bif Nat.beq (av_cat a) 1 then some [(n, A.2.1, a :: a :: st, A.2.2.2)] else none
  | _ => none
theorem a_dup_ok (n : Nat) : ai_ok w (s_dup n) (a_dup n) := by
  rintro E ⟨pc, lv, st, iv, ex⟩ ⟨pc', cl, cs, W⟩ As ⟨ρ, g1, g2, g3, g4, g5⟩ h
  simp only [a_dup] at h
  split at h
  · rename_i a st'
    cases hb : Nat.beq (av_cat a) 1 with
    | false => rw [hb] at h; cases h
    | true =>
      rw [hb] at h
      cases h
      obtain ⟨v, cs, rfl, ha, hr⟩ := f2_cons g4
      ·
        exact ⟨(n, cl, v :: v :: cs, W), by simp only [s_dup]; rw [av_cat_eq ha, hb]; rfl, _, List.mem_singleton_self _, ρ, g1, rfl, g3, ⟨ha, ha, hr⟩, g5⟩
  · cases h
noncomputable def a_pop (n : Nat) : AS → Option (List AS) := fun A => match A.2.2.1 with
  | a :: st => bif Nat.beq (av_cat a) 1 then some [(n, A.2.1, st, A.2.2.2)] else none
  | _ => none
theorem a_pop_ok (n : Nat) : ai_ok w (s_pop n) (a_pop n) := by
  rintro E ⟨pc, lv, st, iv, ex⟩ ⟨pc', cl, cs, W⟩ As ⟨ρ, g1, g2, g3, g4, g5⟩ h
  simp only [a_pop] at h
  split at h
  · rename_i a st'
    cases hb : Nat.beq (av_cat a) 1 with
    | false => rw [hb] at h; cases h
    | true =>
      rw [hb] at h
      cases h
      obtain ⟨v, cs, rfl, ha, hr⟩ := f2_cons g4
      ·
        exact ⟨(n, cl, cs, W), by simp only [s_pop]; rw [av_cat_eq ha, hb]; rfl, _, List.mem_singleton_self _, ρ, g1, rfl, g3, hr, g5⟩
  · cases h
noncomputable def a_dup2 (n : Nat) : AS → Option (List AS) := fun A => match A.2.2.1 with
  | a :: c :: st => bif Nat.beq (av_cat a) 1 && Nat.beq (av_cat c) 1 then some [(n, A.2.1, a :: c :: a :: c :: st, A.2.2.2)] else none
  | _ => none
theorem a_dup2_ok (n : Nat) : ai_ok w (s_dup2 n) (a_dup2 n) := by
  rintro E ⟨pc, lv, st, iv, ex⟩ ⟨pc', cl, cs, W⟩ As ⟨ρ, g1, g2, g3, g4, g5⟩ h
  simp only [a_dup2] at h
  split at h
  · rename_i a c st'
    cases hb : (Nat.beq (av_cat a) 1 && Nat.beq (av_cat c) 1) with
    | false => rw [hb] at h; cases h
    | true =>
      rw [hb] at h
      cases h
      obtain ⟨v, cs, rfl, ha, hr0⟩ := f2_cons g4
      ·
        obtain ⟨u, cs, rfl, hc, hr⟩ := f2_cons hr0
        ·
          exact ⟨(n, cl, v :: u :: v :: u :: cs, W), by simp only [s_dup2]; rw [av_cat_eq ha, av_cat_eq hc, hb]; rfl, _, List.mem_singleton_self _, ρ, g1, rfl, g3, ⟨ha, hc, ha, hc, hr⟩, g5⟩
  · cases h
end AIS
end
section
/-! THE EXECUTOR (second writing), part 3: numbers within bounds -/
theorem ai_bmod {v : Int} (h1 : -2147483648 ≤ v) (h2 : v ≤ 2147483647) : v.bmod (2 ^ 32) = v := by
  unfold Int.bmod
  have e : ((2 ^ 32 : Nat) : Int) = 4294967296 := rfl
  simp only [e]
  split <;> omega
theorem ai_lo (x : Int32) : -2147483648 ≤ x.toInt := by have := Int32.le_toInt x; omega
theorem ai_hi (x : Int32) : x.toInt ≤ 2147483647 := by have := Int32.toInt_lt x; omega
theorem ai_add {x y : Int32} (h1 : -2147483648 ≤ x.toInt + y.toInt) (h2 : x.toInt + y.toInt ≤ 2147483647) : (x + y).toInt = x.toInt + y.toInt := by
  rw [Int32.toInt_add]; exact ai_bmod h1 h2
theorem ai_sub {x y : Int32} (h1 : -2147483648 ≤ x.toInt - y.toInt) (h2 : x.toInt - y.toInt ≤ 2147483647) : (x - y).toInt = x.toInt - y.toInt := by
  rw [Int32.toInt_sub]; exact ai_bmod h1 h2
theorem ai_mul {x y : Int32} (h1 : -2147483648 ≤ x.toInt * y.toInt) (h2 : x.toInt * y.toInt ≤ 2147483647) : (x * y).toInt = x.toInt * y.toInt := by
  rw [Int32.toInt_mul]; exact ai_bmod h1 h2
/-- within the ints -/
noncomputable def ai_in (lo hi : Int) : Bool := decide (-2147483648 ≤ lo) && decide (hi ≤ 2147483647)
theorem ai_in_ok {lo hi : Int} (h : ai_in lo hi = true) : -2147483648 ≤ lo ∧ hi ≤ 2147483647 := by
  simpa [ai_in, Bool.and_eq_true, decide_eq_true_eq] using h
noncomputable def ai_bnd (lo hi : Int) : Int × Int := bif ai_in lo hi then (lo, hi) else (-2147483648, 2147483647)
theorem ai_bnd_ok {z : Int32} {lo hi : Int} (h : ai_in lo hi = true → lo ≤ z.toInt ∧ z.toInt ≤ hi) : (ai_bnd lo hi).1 ≤ z.toInt ∧ z.toInt ≤ (ai_bnd lo hi).2 := by
  unfold ai_bnd
  cases hb : ai_in lo hi with
  | false => exact ⟨ai_lo _, ai_hi _⟩
  | true => exact h hb
/-- the same for longs -/
theorem al_bmod {v : Int} (h1 : -9223372036854775808 ≤ v) (h2 : v ≤ 9223372036854775807) : v.bmod (2 ^ 64) = v := by
  unfold Int.bmod
  have e : ((2 ^ 64 : Nat) : Int) = 18446744073709551616 := rfl
  simp only [e]
  split <;> omega
theorem al_lo (x : Int64) : -9223372036854775808 ≤ x.toInt := by have := Int64.le_toInt x; omega
theorem al_hi (x : Int64) : x.toInt ≤ 9223372036854775807 := by have := Int64.toInt_lt x; omega
theorem al_add {x y : Int64} (h1 : -9223372036854775808 ≤ x.toInt + y.toInt) (h2 : x.toInt + y.toInt ≤ 9223372036854775807) : (x + y).toInt = x.toInt + y.toInt := by
  rw [Int64.toInt_add]; exact al_bmod h1 h2
theorem al_sub {x y : Int64} (h1 : -9223372036854775808 ≤ x.toInt - y.toInt) (h2 : x.toInt - y.toInt ≤ 9223372036854775807) : (x - y).toInt = x.toInt - y.toInt := by
  rw [Int64.toInt_sub]; exact al_bmod h1 h2
theorem al_mul {x y : Int64} (h1 : -9223372036854775808 ≤ x.toInt * y.toInt) (h2 : x.toInt * y.toInt ≤ 9223372036854775807) : (x * y).toInt = x.toInt * y.toInt := by
  rw [Int64.toInt_mul]; exact al_bmod h1 h2
noncomputable def al_in (lo hi : Int) : Bool := decide (-9223372036854775808 ≤ lo) && decide (hi ≤ 9223372036854775807)
theorem al_in_ok {lo hi : Int} (h : al_in lo hi = true) : -9223372036854775808 ≤ lo ∧ hi ≤ 9223372036854775807 := by
  simpa [al_in, Bool.and_eq_true, decide_eq_true_eq] using h
noncomputable def al_bnd (lo hi : Int) : Int × Int := bif al_in lo hi then (lo, hi) else (-9223372036854775808, 9223372036854775807)
theorem al_bnd_ok {z : Int64} {lo hi : Int} (h : al_in lo hi = true → lo ≤ z.toInt ∧ z.toInt ≤ hi) : (al_bnd lo hi).1 ≤ z.toInt ∧ z.toInt ≤ (al_bnd lo hi).2 := by
  unfold al_bnd
  cases hb : al_in lo hi with
  | false => exact ⟨al_lo _, al_hi _⟩
  | true => exact h hb
/-- products -/
noncomputable def mn4 (a b c d : Int) : Int := min (min a b) (min c d)
noncomputable def mx4 (a b c d : Int) : Int := max (max a b) (max c d)
theorem mul_btw {l u x y : Int} (h1 : l ≤ x) (h2 : x ≤ u) : min (l * y) (u * y) ≤ x * y ∧ x * y ≤ max (l * y) (u * y) := by
  by_cases hy : 0 ≤ y
  · have a := Int.mul_le_mul_of_nonneg_right h1 hy
    have b := Int.mul_le_mul_of_nonneg_right h2 hy
    omega
  · have hy : y ≤ 0 := by omega
    have a := Int.mul_le_mul_of_nonpos_right h1 hy
    have b := Int.mul_le_mul_of_nonpos_right h2 hy
    omega
theorem mul_rg {l1 u1 l2 u2 x y : Int} (h1 : l1 ≤ x) (h2 : x ≤ u1) (h3 : l2 ≤ y) (h4 : y ≤ u2) : mn4 (l1 * l2) (l1 * u2) (u1 * l2) (u1 * u2) ≤ x * y ∧ x * y ≤ mx4 (l1 * l2) (l1 * u2) (u1 * l2) (u1 * u2) := by
  have a := mul_btw (y := y) h1 h2
  have b := mul_btw (y := l1) h3 h4
  have c := mul_btw (y := u1) h3 h4
  rw [Int.mul_comm l2, Int.mul_comm u2, Int.mul_comm y] at b
  rw [Int.mul_comm l2, Int.mul_comm u2, Int.mul_comm y] at c
  unfold mn4 mx4
  omega
/-- bits -/
theorem ai_nn {x : Int32} (h : 0 ≤ x.toInt) : x.toInt = (x.toBitVec.toNat : Int) ∧ x.toBitVec.toNat < 2147483648 := by
  have h1 : x.toInt = x.toBitVec.toInt := rfl
  rw [h1, BitVec.toInt_eq_toNat_cond] at h ⊢
  have := x.toBitVec.isLt
  split at h <;> split <;> omega
theorem ai_of {x : Int32} (h : x.toBitVec.toNat < 2147483648) : x.toInt = (x.toBitVec.toNat : Int) := by
  have h1 : x.toInt = x.toBitVec.toInt := rfl
  rw [h1, BitVec.toInt_eq_toNat_cond]
  split <;> omega
theorem ai_and1 {x y : Int32} (h : 0 ≤ x.toInt) : 0 ≤ (x &&& y).toInt ∧ (x &&& y).toInt ≤ x.toInt := by
  obtain ⟨e, hl⟩ := ai_nn h
  have hb : (x &&& y).toBitVec.toNat = x.toBitVec.toNat &&& y.toBitVec.toNat := by rw [Int32.toBitVec_and, BitVec.toNat_and]
  have hle : x.toBitVec.toNat &&& y.toBitVec.toNat ≤ x.toBitVec.toNat := Nat.and_le_left
  rw [ai_of (x := x &&& y) (by omega), hb, e]
  omega
theorem ai_and2 {x y : Int32} (h : 0 ≤ y.toInt) : 0 ≤ (x &&& y).toInt ∧ (x &&& y).toInt ≤ y.toInt := by
  rw [Int32.and_comm]; exact ai_and1 h
theorem ai_or {x y : Int32} {k : Nat} (hx : 0 ≤ x.toInt) (hy : 0 ≤ y.toInt) (hk : k < 32) (h1 : x.toInt < 2 ^ k) (h2 : y.toInt < 2 ^ k) : x.toInt ≤ (x ||| y).toInt ∧ y.toInt ≤ (x ||| y).toInt ∧ (x ||| y).toInt < 2 ^ k := by
  obtain ⟨ex, lx⟩ := ai_nn hx
  obtain ⟨ey, ly⟩ := ai_nn hy
  have hp : (2 : Int) ^ k = ((2 ^ k : Nat) : Int) := by norm_cast
  rw [ex, hp] at h1
  rw [ey, hp] at h2
  have hb : (x ||| y).toBitVec.toNat = x.toBitVec.toNat ||| y.toBitVec.toNat := by rw [Int32.toBitVec_or, BitVec.toNat_or]
  have h3 : x.toBitVec.toNat ||| y.toBitVec.toNat < 2 ^ k := Nat.or_lt_two_pow (by omega) (by omega)
  have h4 : x.toBitVec.toNat ||| y.toBitVec.toNat < 2 ^ 31 := Nat.or_lt_two_pow (by omega) (by omega)
  have h5 : x.toBitVec.toNat ≤ x.toBitVec.toNat ||| y.toBitVec.toNat := Nat.left_le_or
  have h6 : y.toBitVec.toNat ≤ x.toBitVec.toNat ||| y.toBitVec.toNat := Nat.right_le_or
  rw [ai_of (x := x ||| y) (by omega), hb, ex, ey, hp]
  omega
theorem ai_xor {x y : Int32} {k : Nat} (hx : 0 ≤ x.toInt) (hy : 0 ≤ y.toInt) (h1 : x.toInt < 2 ^ k) (h2 : y.toInt < 2 ^ k) : 0 ≤ (x ^^^ y).toInt ∧ (x ^^^ y).toInt < 2 ^ k := by
  obtain ⟨ex, lx⟩ := ai_nn hx
  obtain ⟨ey, ly⟩ := ai_nn hy
  have hp : (2 : Int) ^ k = ((2 ^ k : Nat) : Int) := by norm_cast
  rw [ex, hp] at h1
  rw [ey, hp] at h2
  have hb : (x ^^^ y).toBitVec.toNat = x.toBitVec.toNat ^^^ y.toBitVec.toNat := by rw [Int32.toBitVec_xor, BitVec.toNat_xor]
  have h3 : x.toBitVec.toNat ^^^ y.toBitVec.toNat < 2 ^ k := Nat.xor_lt_two_pow (by omega) (by omega)
  have h4 : x.toBitVec.toNat ^^^ y.toBitVec.toNat < 2 ^ 31 := Nat.xor_lt_two_pow (by omega) (by omega)
  rw [ai_of (x := x ^^^ y) (by omega), hb, hp]
  omega
theorem ai_shn : ∀ n : Fin 32, ((Int32.ofNat n.1 &&& 31).toBitVec.smod 32).toNat = n.1 := by decide +kernel
theorem ai_ofn {y : Int32} (h1 : 0 ≤ y.toInt) : y = Int32.ofNat y.toInt.toNat := by
  apply Int32.toInt_inj.mp
  have := ai_hi y
  rw [Int32.toInt_ofNat_of_lt (by omega)]
  omega
theorem ai_shl {x y : Int32} (hx : 0 ≤ x.toInt) (hy : 0 ≤ y.toInt) (hy2 : y.toInt ≤ 31) (hm : x.toInt * 2 ^ y.toInt.toNat ≤ 2147483647) : (x <<< (y &&& 31)).toInt = x.toInt * 2 ^ y.toInt.toNat := by
  have hs := ai_shn ⟨y.toInt.toNat, by omega⟩
  simp only at hs
  rw [← ai_ofn hy] at hs
  obtain ⟨ex, lx⟩ := ai_nn hx
  have hp : (2 : Int) ^ y.toInt.toNat = ((2 ^ y.toInt.toNat : Nat) : Int) := by norm_cast
  have hb : (x <<< (y &&& 31)).toBitVec.toNat = x.toBitVec.toNat * 2 ^ y.toInt.toNat % 2 ^ 32 := by
    rw [Int32.toBitVec_shiftLeft, BitVec.shiftLeft_eq', BitVec.toNat_shiftLeft, hs, Nat.shiftLeft_eq]
  rw [ex, hp] at hm
  have hm' : x.toBitVec.toNat * 2 ^ y.toInt.toNat ≤ 2147483647 := Int.ofNat_le.mp (by rw [Int.natCast_mul]; exact hm)
  rw [Nat.mod_eq_of_lt (by omega)] at hb
  rw [ai_of (by omega), hb, ex, hp]
  exact Int.natCast_mul _ _
end
section
/-! THE EXECUTOR (second writing), part 4: fresh symbols, narrower intervals, relations -/
section AIP
variable {w : AW} {E : AEnv} {ρ : Nat → Int}
theorem as_grow {pc : Nat} {lv : List (Nat × AV)} {st : List AV} {iv : IV} {ex : AX} {σ : pm_S} {v lo hi : Int} (g : as_r w E ρ (pc, lv, st, iv, ex) σ) (h1 : lo ≤ v) (h2 : v ≤ hi) :
    as_r w E (iv_ext ρ iv.length v) (pc, lv, st, iv ++ [(lo, hi)], ex) σ ∧ av_ev (iv ++ [(lo, hi)]).length (iv_ext ρ iv.length v) (some iv.length) 0 v := by
  obtain ⟨g1, g2, g3, g4, g5⟩ := g
  dsimp only at g1 g2 g3 g4 g5
  have hle : iv.length ≤ (iv ++ [(lo, hi)]).length := by rw [List.length_append]; exact Nat.le_add_right _ _
  refine ⟨⟨ia_push g1 h1 h2, g2, fun i a hm => ?_, f2_mono (fun a b hab => av_g_mono hle iv_ext_old hab) g4, ex_g_mono hle iv_ext_old g5⟩, ?_, ?_⟩
  · obtain ⟨x, e1, e2⟩ := g3 i a hm
    exact ⟨x, e1, av_g_mono hle iv_ext_old e2⟩
  · rw [List.length_append]; exact Nat.lt_succ_self _
  · rw [iv_ext_new, Int.add_zero]
/-- an int, a long within bounds is pushed -/
noncomputable def a_pi (n : Nat) (lv : List (Nat × AV)) (st : List AV) (iv : IV) (ex : AX) (lo hi : Int) : AS := bif decide (lo = hi) then (n, lv, .inl (none, lo) :: st, iv, ex) else (n, lv, .inl (some iv.length, 0) :: st, iv ++ [(lo, hi)], ex)
noncomputable def a_pl (n : Nat) (lv : List (Nat × AV)) (st : List AV) (iv : IV) (ex : AX) (lo hi : Int) : AS := bif decide (lo = hi) then (n, lv, .inr (.inl (none, lo)) :: st, iv, ex) else (n, lv, .inr (.inl (some iv.length, 0)) :: st, iv ++ [(lo, hi)], ex)
theorem a_pi_ok {pc n : Nat} {lv : List (Nat × AV)} {st : List AV} {iv : IV} {ex : AX} {pc' : Nat} {cl : List (Nat × Value)} {cs : List Value} {W : pm_H × Nat × Nat} {v : Int32} {lo hi : Int} (g : as_r w E ρ (pc, lv, st, iv, ex) (pc', cl, cs, W)) (h1 : lo ≤ v.toInt) (h2 : v.toInt ≤ hi) : as_g w E (a_pi n lv st iv ex lo hi) (n, cl, .int v :: cs, W) := by
  unfold a_pi
  cases hb : decide (lo = hi) with
  | true =>
    have hb := of_decide_eq_true hb
    obtain ⟨g1, g2, g3, g4, g5⟩ := g
    exact ⟨ρ, g1, rfl, g3, ⟨(by show v.toInt = lo; omega), g4⟩, g5⟩
  | false =>
    obtain ⟨⟨g1, g2, g3, g4, g5⟩, e⟩ := as_grow g h1 h2
    exact ⟨_, g1, rfl, g3, ⟨e, g4⟩, g5⟩
theorem a_pl_ok {pc n : Nat} {lv : List (Nat × AV)} {st : List AV} {iv : IV} {ex : AX} {pc' : Nat} {cl : List (Nat × Value)} {cs : List Value} {W : pm_H × Nat × Nat} {v : Int64} {lo hi : Int} (g : as_r w E ρ (pc, lv, st, iv, ex) (pc', cl, cs, W)) (h1 : lo ≤ v.toInt) (h2 : v.toInt ≤ hi) : as_g w E (a_pl n lv st iv ex lo hi) (n, cl, .long v :: cs, W) := by
  unfold a_pl
  cases hb : decide (lo = hi) with
  | true =>
    have hb := of_decide_eq_true hb
    obtain ⟨g1, g2, g3, g4, g5⟩ := g
    exact ⟨ρ, g1, rfl, g3, ⟨(by show v.toInt = lo; omega), g4⟩, g5⟩
  | false =>
    obtain ⟨⟨g1, g2, g3, g4, g5⟩, e⟩ := as_grow g h1 h2
    exact ⟨_, g1, rfl, g3, ⟨e, g4⟩, g5⟩
theorem iv_at {iv : IV} {k : Nat} (h : k < iv.length) : ∃ l u, iv[k]? = some (l, u) := ⟨iv[k].1, iv[k].2, List.getElem?_eq_getElem h⟩
/-- a narrower interval -/
noncomputable def iv_nar (iv : IV) (k : Option Nat) (o lo hi : Int) : Option IV := match k with
  | none => bif decide (lo ≤ o) && decide (o ≤ hi) then some iv else none
  | some k => match iv[k]? with
    | some (l, u) => bif decide (max l (lo - o) ≤ min u (hi - o)) then some (iv.set k (max l (lo - o), min u (hi - o))) else none
    | none => none
theorem iv_nar_ok {iv : IV} {k : Option Nat} {o lo hi v : Int} (g : ia_g E ρ iv) (hv : av_ev iv.length ρ k o v) (h1 : lo ≤ v) (h2 : v ≤ hi) : ∃ iv', iv_nar iv k o lo hi = some iv' ∧ iv'.length = iv.length ∧ ia_g E ρ iv' := by
  cases k with
  | none =>
    have hv : v = o := hv
    subst hv
    refine ⟨iv, ?_, rfl, g⟩
    unfold iv_nar
    simp only [h1, h2, decide_true, Bool.and_self, cond_true]
  | some k =>
    obtain ⟨hk, hv⟩ := hv
    obtain ⟨l, u, hg⟩ := iv_at hk
    have hb := g.1 k l u hg
    have hle : max l (lo - o) ≤ min u (hi - o) := by omega
    refine ⟨iv.set k (max l (lo - o), min u (hi - o)), ?_, List.length_set, ⟨fun q a b hqq => ?_, by rw [List.length_set]; exact g.2.1, g.2.2⟩⟩
    · unfold iv_nar
      simp only [hg, hle, decide_true, cond_true]
    · by_cases hqk : k = q
      · subst hqk
        rw [List.getElem?_set_self hk] at hqq
        cases hqq
        omega
      · rw [List.getElem?_set_ne hqk] at hqq
        exact g.1 q a b hqq
theorem as_iv {pc : Nat} {lv : List (Nat × AV)} {st : List AV} {iv iv' : IV} {ex : AX} {σ : pm_S} (g : as_r w E ρ (pc, lv, st, iv, ex) σ) (hl : iv'.length = iv.length) (g1 : ia_g E ρ iv') : as_r w E ρ (pc, lv, st, iv', ex) σ := by
  obtain ⟨_, g2, g3, g4, g5⟩ := g
  dsimp only at g2 g3 g4 g5
  rw [← hl] at g3 g4 g5
  exact ⟨g1, g2, g3, g4, g5⟩
/-- one relation narrows its symbols -/
noncomputable def tg1 (c : Con) (iv : IV) : Option IV := match c with
  | .inl (s, a, b) => match iv[s]?, iv[a]?, iv[b]? with
    | some (sl, su), some (al, au), some (bl, bu) => match iv_nar iv (some s) 0 (al + bl) (au + bu) with
      | some iv => match iv_nar iv (some a) 0 (sl - bu) (su - bl) with
        | some iv => iv_nar iv (some b) 0 (sl - au) (su - al)
        | none => none
      | none => none
    | _, _, _ => some iv
  | .inr (a, b, c) => match iv[a]?, iv[b]? with
    | some (al, au), some (bl, bu) => match iv_nar iv (some a) 0 al (bu + c) with
      | some iv => iv_nar iv (some b) 0 (al - c) bu
      | none => none
    | _, _ => some iv
theorem tg1_ok {iv : IV} {c : Con} (g : ia_g E ρ iv) (hc : con_g iv.length ρ c) : ∃ iv', tg1 c iv = some iv' ∧ iv'.length = iv.length ∧ ia_g E ρ iv' := by
  rcases c with ⟨s, a, b⟩ | ⟨a, b, c⟩
  · obtain ⟨hs, ha, hb, he⟩ := hc
    obtain ⟨sl, su, es⟩ := iv_at hs
    obtain ⟨al, au, ea⟩ := iv_at ha
    obtain ⟨bl, bu, eb⟩ := iv_at hb
    have bs := g.1 s _ _ es
    have ba := g.1 a _ _ ea
    have bb := g.1 b _ _ eb
    unfold tg1
    simp only [es, ea, eb]
    obtain ⟨i1, e1, l1, g1⟩ := iv_nar_ok (k := some s) (o := 0) (v := ρ s) (lo := al + bl) (hi := au + bu) g ⟨hs, by omega⟩ (by omega) (by omega)
    obtain ⟨i2, e2, l2, g2⟩ := iv_nar_ok (k := some a) (o := 0) (v := ρ a) (lo := sl - bu) (hi := su - bl) g1 ⟨by omega, by omega⟩ (by omega) (by omega)
    obtain ⟨i3, e3, l3, g3⟩ := iv_nar_ok (k := some b) (o := 0) (v := ρ b) (lo := sl - au) (hi := su - al) g2 ⟨by omega, by omega⟩ (by omega) (by omega)
    rw [e1]
    simp only [e2]
    exact ⟨i3, e3, by omega, g3⟩
  · obtain ⟨ha, hb, he⟩ := hc
    obtain ⟨al, au, ea⟩ := iv_at ha
    obtain ⟨bl, bu, eb⟩ := iv_at hb
    have ba := g.1 a _ _ ea
    have bb := g.1 b _ _ eb
    unfold tg1
    simp only [ea, eb]
    obtain ⟨i1, e1, l1, g1⟩ := iv_nar_ok (k := some a) (o := 0) (v := ρ a) (lo := al) (hi := bu + c) g ⟨ha, by omega⟩ (by omega) (by omega)
    obtain ⟨i2, e2, l2, g2⟩ := iv_nar_ok (k := some b) (o := 0) (v := ρ b) (lo := al - c) (hi := bu) g1 ⟨by omega, by omega⟩ (by omega) (by omega)
    rw [e1]
    exact ⟨i2, e2, by omega, g2⟩
/-- all relations, once -/
noncomputable def tga : List Con → IV → Option IV
  | [], iv => some iv
  | c :: l, iv => match tg1 c iv with
    | some iv => tga l iv
    | none => none
theorem tga_ok : ∀ (l : List Con) (iv : IV), ia_g E ρ iv → (∀ c ∈ l, con_g iv.length ρ c) → ∃ iv', tga l iv = some iv' ∧ iv'.length = iv.length ∧ ia_g E ρ iv'
  | [], iv, g, _ => ⟨iv, rfl, rfl, g⟩
  | c :: l, iv, g, h => by
    obtain ⟨i1, e1, l1, g1⟩ := tg1_ok g (h c List.mem_cons_self)
    obtain ⟨i2, e2, l2, g2⟩ := tga_ok l i1 g1 (fun c hc => by rw [l1]; exact h c (List.mem_cons_of_mem _ hc))
    exact ⟨i2, by unfold tga; rw [e1]; exact e2, by omega, g2⟩
/-- a relation is added, if it does not speak against one that is there -/
noncomputable def con_bad (l : List Con) (a b : Nat) (c : Int) : Bool := l.any (fun q => match q with | .inr (a', b', c') => Nat.beq a a' && (Nat.beq b b' && false) || (Nat.beq a b' && (Nat.beq b a' && decide (c + c' < 0))) | _ => false)
theorem con_bad_ok {n : Nat} {l : List Con} {a b : Nat} {c : Int} (h : ∀ q ∈ l, con_g n ρ q) (hc : ρ a ≤ ρ b + c) : con_bad l a b c = false := by
  cases hb : con_bad l a b c with
  | false => rfl
  | true =>
    obtain ⟨q, hq, hp⟩ := List.any_eq_true.mp hb
    split at hp
    · rename_i a' b' c'
      simp only [Bool.and_false, Bool.false_or, Bool.and_eq_true, decide_eq_true_eq] at hp
      obtain ⟨h1, h2, h3⟩ := hp
      have h1 := Nat.eq_of_beq_eq_true h1
      have h2 := Nat.eq_of_beq_eq_true h2
      subst h1; subst h2
      have := (h _ hq).2.2
      omega
    · cases hp
/-- x + o ≤ y + p is taken in -/
noncomputable def br_le (iv : IV) (cs : List Con) (k1 : Option Nat) (o1 : Int) (k2 : Option Nat) (o2 : Int) : Option (IV × List Con) := match k1, k2 with
  | some a, some b => bif Nat.beq a b then (bif decide (o1 ≤ o2) then some (iv, cs) else none) else match iv_rng iv k1 o1, iv_rng iv k2 o2 with
    | some (l1, _), some (_, u2) => match iv_nar iv k1 o1 l1 u2 with
      | some iv => match iv_nar iv k2 o2 l1 u2 with
        | some iv => bif con_bad cs a b (o2 - o1) then none else match tga (.inr (a, b, o2 - o1) :: cs) iv with
          | some iv => some (iv, .inr (a, b, o2 - o1) :: cs)
          | none => none
        | none => none
      | none => none
    | _, _ => some (iv, cs)
  | _, _ => match iv_rng iv k1 o1, iv_rng iv k2 o2 with
    | some (l1, _), some (_, u2) => match iv_nar iv k1 o1 l1 u2 with
      | some iv => match iv_nar iv k2 o2 l1 u2 with
        | some iv => match tga cs iv with
          | some iv => some (iv, cs)
          | none => none
        | none => none
      | none => none
    | _, _ => some (iv, cs)
theorem br_le_ok {iv : IV} {cs : List Con} {k1 k2 : Option Nat} {o1 o2 x y : Int} (g : ia_g E ρ iv) (hc : ∀ c ∈ cs, con_g iv.length ρ c) (hx : av_ev iv.length ρ k1 o1 x) (hy : av_ev iv.length ρ k2 o2 y) (h : x ≤ y) :
    ∃ q : IV × List Con, br_le iv cs k1 o1 k2 o2 = some q ∧ q.1.length = iv.length ∧ ia_g E ρ q.1 ∧ ∀ c ∈ q.2, con_g iv.length ρ c := by
  have key : ∀ l1 u1 l2 u2, iv_rng iv k1 o1 = some (l1, u1) → iv_rng iv k2 o2 = some (l2, u2) → ∀ cs' : List Con, (∀ c ∈ cs', con_g iv.length ρ c) → ∃ i1, iv_nar iv k1 o1 l1 u2 = some i1 ∧ ∃ i2, iv_nar i1 k2 o2 l1 u2 = some i2 ∧ ∃ i3, tga cs' i2 = some i3 ∧ i3.length = iv.length ∧ ia_g E ρ i3 := by
    intro l1 u1 l2 u2 r1 r2 cs' hcs
    have b1 := iv_rng_ok g hx r1
    have b2 := iv_rng_ok g hy r2
    obtain ⟨i1, e1, n1, g1⟩ := iv_nar_ok g hx (lo := l1) (hi := u2) (by omega) (by omega)
    obtain ⟨i2, e2, n2, g2⟩ := iv_nar_ok (k := k2) (o := o2) (v := y) (lo := l1) (hi := u2) g1 (by rw [n1]; exact hy) (by omega) (by omega)
    obtain ⟨i3, e3, n3, g3⟩ := tga_ok cs' i2 g2 (fun c hc => by rw [n2, n1]; exact hcs c hc)
    exact ⟨i1, e1, i2, e2, i3, e3, by omega, g3⟩
  have rest : ∃ q : IV × List Con, (match iv_rng iv k1 o1, iv_rng iv k2 o2 with
    | some (l1, _), some (_, u2) => match iv_nar iv k1 o1 l1 u2 with
      | some iv => match iv_nar iv k2 o2 l1 u2 with
        | some iv => match tga cs iv with
          | some iv => some (iv, cs)
          | none => none
        | none => none
      | none => none
    | _, _ => some (iv, cs)) = some q ∧ q.1.length = iv.length ∧ ia_g E ρ q.1 ∧ ∀ c ∈ q.2, con_g iv.length ρ c := by
    split
    · rename_i l1 u1 l2 u2 r1 r2
      obtain ⟨i1, e1, i2, e2, i3, e3, n3, g3⟩ := key l1 u1 l2 u2 r1 r2 cs hc
      rw [e1]
      simp only [e2, e3]
      exact ⟨_, rfl, n3, g3, hc⟩
    · exact ⟨_, rfl, rfl, g, hc⟩
  unfold br_le
  cases k1 with
  | none => exact rest
  | some a =>
    cases k2 with
    | none => exact rest
    | some b =>
      dsimp only
      cases hab : Nat.beq a b with
      | true =>
        have hab := Nat.eq_of_beq_eq_true hab
        subst hab
        have h1 := hx.2
        have h2 := hy.2
        have ho : o1 ≤ o2 := by omega
        simp only [ho, decide_true, cond_true]
        exact ⟨_, rfl, rfl, g, hc⟩
      | false =>
        simp only [cond_false]
        split
        · rename_i l1 u1 l2 u2 r1 r2
          have h1 := hx.2
          have h2 := hy.2
          have hle : ρ a ≤ ρ b + (o2 - o1) := by omega
          have hcs : ∀ c ∈ ((.inr (a, b, o2 - o1) : Con) :: cs), con_g iv.length ρ c := by
            intro c hm
            cases List.mem_cons.mp hm with
            | inl e => subst e; exact ⟨hx.1, hy.1, hle⟩
            | inr hm => exact hc c hm
          obtain ⟨i1, e1, i2, e2, i3, e3, n3, g3⟩ := key l1 u1 l2 u2 r1 r2 _ hcs
          rw [e1]
          simp only [e2, e3, con_bad_ok hc hle, cond_false]
          exact ⟨_, rfl, n3, g3, hcs⟩
        · exact ⟨_, rfl, rfl, g, hc⟩
/-- x + o ≠ y + p is taken in: the ends are trimmed -/
noncomputable def br_ne (iv : IV) (k1 : Option Nat) (o1 : Int) (k2 : Option Nat) (o2 : Int) : Option IV := match iv_rng iv k1 o1, iv_rng iv k2 o2 with
  | some (l1, u1), some (l2, u2) =>
    bif decide (l2 = u2) then iv_nar iv k1 o1 (bif decide (l1 = l2) then l1 + 1 else l1) (bif decide (u1 = l2) then u1 - 1 else u1)
    else (bif decide (l1 = u1) then iv_nar iv k2 o2 (bif decide (l2 = l1) then l2 + 1 else l2) (bif decide (u2 = l1) then u2 - 1 else u2) else some iv)
  | _, _ => some iv
theorem br_ne_ok {iv : IV} {k1 k2 : Option Nat} {o1 o2 x y : Int} (g : ia_g E ρ iv) (hx : av_ev iv.length ρ k1 o1 x) (hy : av_ev iv.length ρ k2 o2 y) (h : ¬ x = y) : ∃ iv', br_ne iv k1 o1 k2 o2 = some iv' ∧ iv'.length = iv.length ∧ ia_g E ρ iv' := by
  unfold br_ne
  split
  · rename_i l1 u1 l2 u2 r1 r2
    have b1 := iv_rng_ok g hx r1
    have b2 := iv_rng_ok g hy r2
    cases h1 : decide (l2 = u2) with
    | true =>
      have h1 := of_decide_eq_true h1
      refine iv_nar_ok g hx ?_ ?_
      · cases h2 : decide (l1 = l2) with
        | true => have h2 := of_decide_eq_true h2; show l1 + 1 ≤ x; omega
        | false => exact b1.1
      · cases h2 : decide (u1 = l2) with
        | true => have h2 := of_decide_eq_true h2; show x ≤ u1 - 1; omega
        | false => exact b1.2
    | false =>
      cases h3 : decide (l1 = u1) with
      | true =>
        have h3 := of_decide_eq_true h3
        refine iv_nar_ok g hy ?_ ?_
        · cases h2 : decide (l2 = l1) with
          | true => have h2 := of_decide_eq_true h2; show l2 + 1 ≤ y; omega
          | false => exact b2.1
        · cases h2 : decide (u2 = l1) with
          | true => have h2 := of_decide_eq_true h2; show y ≤ u2 - 1; omega
          | false => exact b2.2
      | false => exact ⟨iv, rfl, rfl, g⟩
  · exact ⟨iv, rfl, rfl, g⟩
end AIP
end
section
/-! THE EXECUTOR (second writing), part 5: operations on numbers -/
section AIO
variable {w : AW}
theorem ai_ofi {x : Int32} {l : Int} (h : x.toInt = l) : x = Int32.ofInt l := by rw [← h, Int32.ofInt_toInt]
/-- two ints: exact, or by bounds -/
noncomputable def bo (op : Int32 → Int32 → Int32) (f : Int → Int → Int → Int → Int × Int) (l1 u1 l2 u2 : Int) : Int × Int := bif decide (l1 = u1) && decide (l2 = u2) then ((op (Int32.ofInt l1) (Int32.ofInt l2)).toInt, (op (Int32.ofInt l1) (Int32.ofInt l2)).toInt) else f l1 u1 l2 u2
noncomputable def bo_ok (op : Int32 → Int32 → Int32) (f : Int → Int → Int → Int → Int × Int) : Prop := ∀ (x y : Int32) (l1 u1 l2 u2 : Int), l1 ≤ x.toInt → x.toInt ≤ u1 → l2 ≤ y.toInt → y.toInt ≤ u2 → (f l1 u1 l2 u2).1 ≤ (op x y).toInt ∧ (op x y).toInt ≤ (f l1 u1 l2 u2).2
theorem bo_okx {op : Int32 → Int32 → Int32} {f : Int → Int → Int → Int → Int × Int} (h : bo_ok op f) : bo_ok op (bo op f) := by
  intro x y l1 u1 l2 u2 h1 h2 h3 h4
  unfold bo
  cases hb : (decide (l1 = u1) && decide (l2 = u2)) with
  | false => exact h x y l1 u1 l2 u2 h1 h2 h3 h4
  | true =>
    simp only [Bool.and_eq_true, decide_eq_true_eq] at hb
    rw [← ai_ofi (x := x) (l := l1) (by omega), ← ai_ofi (x := y) (l := l2) (by omega)]
    exact ⟨Int.le_refl _, Int.le_refl _⟩
noncomputable def a_bin (f : Int → Int → Int → Int → Int × Int) (n : Nat) : AS → Option (List AS) := fun A => match A.2.2.1 with
  | .inl (k2, o2) :: .inl (k1, o1) :: st => match iv_rng A.2.2.2.1 k1 o1, iv_rng A.2.2.2.1 k2 o2 with
    | some (l1, u1), some (l2, u2) => some [a_pi n A.2.1 st A.2.2.2.1 A.2.2.2.2 (f l1 u1 l2 u2).1 (f l1 u1 l2 u2).2]
    | _, _ => none
  | _ => none
theorem a_bin_ok {op : Int32 → Int32 → Int32} {f : Int → Int → Int → Int → Int × Int} (n : Nat) (hf : bo_ok op f) : ai_ok w (s_bin op n) (a_bin f n) := by
  rintro E ⟨pc, lv, st, iv, ex⟩ ⟨pc', cl, cs, W⟩ As ⟨ρ, g1, g2, g3, g4, g5⟩ h
  simp only [a_bin] at h
  split at h
  · rename_i k2 o2 k1 o1 st'
    split at h
    · rename_i l1 u1 l2 u2 r1 r2
      cases h
      obtain ⟨v, cs, rfl, ha, hr0⟩ := f2_cons g4
      obtain ⟨u, cs, rfl, hc, hr⟩ := f2_cons hr0
      obtain ⟨y, rfl, ha⟩ := av_int ha
      obtain ⟨x, rfl, hc⟩ := av_int hc
      have b1 := iv_rng_ok g1 hc r1
      have b2 := iv_rng_ok g1 ha r2
      have hq := hf x y l1 u1 l2 u2 b1.1 b1.2 b2.1 b2.2
      exact ⟨_, rfl, _, List.mem_singleton_self _, a_pi_ok (pc := pc) (pc' := pc') ⟨g1, g2, g3, hr, g5⟩ hq.1 hq.2⟩
    · cases h
  · cases h
noncomputable def a_div (f : Int → Int → Int → Int → Int × Int) (n : Nat) : AS → Option (List AS) := fun A => match A.2.2.1 with
  | .inl (k2, o2) :: .inl (k1, o1) :: st => match iv_rng A.2.2.2.1 k1 o1, iv_rng A.2.2.2.1 k2 o2 with
    | some (l1, u1), some (l2, u2) => bif decide (0 < l2) then some [a_pi n A.2.1 st A.2.2.2.1 A.2.2.2.2 (f l1 u1 l2 u2).1 (f l1 u1 l2 u2).2] else none
    | _, _ => none
  | _ => none
noncomputable def bd_ok (op : Int32 → Int32 → Int32) (f : Int → Int → Int → Int → Int × Int) : Prop := ∀ (x y : Int32) (l1 u1 l2 u2 : Int), 0 < l2 → l1 ≤ x.toInt → x.toInt ≤ u1 → l2 ≤ y.toInt → y.toInt ≤ u2 → (f l1 u1 l2 u2).1 ≤ (op x y).toInt ∧ (op x y).toInt ≤ (f l1 u1 l2 u2).2
theorem bd_okx {op : Int32 → Int32 → Int32} {f : Int → Int → Int → Int → Int × Int} (h : bd_ok op f) : bd_ok op (bo op f) := by
  intro x y l1 u1 l2 u2 h0 h1 h2 h3 h4
  unfold bo
  cases hb : (decide (l1 = u1) && decide (l2 = u2)) with
  | false => exact h x y l1 u1 l2 u2 h0 h1 h2 h3 h4
  | true =>
    simp only [Bool.and_eq_true, decide_eq_true_eq] at hb
    rw [← ai_ofi (x := x) (l := l1) (by omega), ← ai_ofi (x := y) (l := l2) (by omega)]
    exact ⟨Int.le_refl _, Int.le_refl _⟩
theorem a_div_ok {op : Int32 → Int32 → Int32} {f : Int → Int → Int → Int → Int × Int} (n : Nat) (hf : bd_ok op f) : ai_ok w (s_div op n) (a_div f n) := by
  rintro E ⟨pc, lv, st, iv, ex⟩ ⟨pc', cl, cs, W⟩ As ⟨ρ, g1, g2, g3, g4, g5⟩ h
  simp only [a_div] at h
  split at h
  · rename_i k2 o2 k1 o1 st'
    split at h
    · rename_i l1 u1 l2 u2 r1 r2
      cases hb : decide (0 < l2) with
      | false => rw [hb] at h; cases h
      | true =>
        rw [hb] at h
        have hb := of_decide_eq_true hb
        cases h
        obtain ⟨v, cs, rfl, ha, hr0⟩ := f2_cons g4
        obtain ⟨u, cs, rfl, hc, hr⟩ := f2_cons hr0
        obtain ⟨y, rfl, ha⟩ := av_int ha
        obtain ⟨x, rfl, hc⟩ := av_int hc
        have b1 := iv_rng_ok g1 hc r1
        have b2 := iv_rng_ok g1 ha r2
        have hq := hf x y l1 u1 l2 u2 hb b1.1 b1.2 b2.1 b2.2
        have hy : ¬ y = 0 := by
          intro e
          subst e
          have : (0 : Int32).toInt = 0 := rfl
          omega
        exact ⟨(n, cl, .int (op x y) :: cs, W), by simp only [s_div, if_neg hy], _, List.mem_singleton_self _, a_pi_ok (pc := pc) (pc' := pc') ⟨g1, g2, g3, hr, g5⟩ hq.1 hq.2⟩
    · cases h
  · cases h
/-- bounds of each operation -/
noncomputable def fb_top (_ _ _ _ : Int) : Int × Int := (-2147483648, 2147483647)
theorem fb_top_ok (op : Int32 → Int32 → Int32) : bo_ok op fb_top := fun _ _ _ _ _ _ _ _ _ _ => ⟨ai_lo _, ai_hi _⟩
noncomputable def fb_mul (l1 u1 l2 u2 : Int) : Int × Int := ai_bnd (mn4 (l1 * l2) (l1 * u2) (u1 * l2) (u1 * u2)) (mx4 (l1 * l2) (l1 * u2) (u1 * l2) (u1 * u2))
theorem fb_mul_ok : bo_ok (fun x y => x * y) fb_mul := by
  intro x y l1 u1 l2 u2 h1 h2 h3 h4
  have hm := mul_rg h1 h2 h3 h4
  refine ai_bnd_ok (fun hb => ?_)
  have hi := ai_in_ok hb
  show _ ≤ (x * y).toInt ∧ (x * y).toInt ≤ _
  rw [ai_mul (by omega) (by omega)]
  exact hm
noncomputable def fb_and (l1 u1 l2 u2 : Int) : Int × Int := bif decide (0 ≤ l1) then (0, bif decide (0 ≤ l2) then min u1 u2 else u1) else (bif decide (0 ≤ l2) then (0, u2) else (-2147483648, 2147483647))
theorem fb_and_ok : bo_ok (fun x y => x &&& y) fb_and := by
  intro x y l1 u1 l2 u2 h1 h2 h3 h4
  unfold fb_and
  cases ha : decide (0 ≤ l1) with
  | true =>
    have ha := of_decide_eq_true ha
    have q1 := ai_and1 (x := x) (y := y) (by omega)
    cases hb : decide (0 ≤ l2) with
    | true =>
      have hb := of_decide_eq_true hb
      have q2 := ai_and2 (x := x) (y := y) (by omega)
      show 0 ≤ (x &&& y).toInt ∧ (x &&& y).toInt ≤ min u1 u2
      omega
    | false => show 0 ≤ (x &&& y).toInt ∧ (x &&& y).toInt ≤ u1; omega
  | false =>
    cases hb : decide (0 ≤ l2) with
    | true =>
      have hb := of_decide_eq_true hb
      have q2 := ai_and2 (x := x) (y := y) (by omega)
      show 0 ≤ (x &&& y).toInt ∧ (x &&& y).toInt ≤ u2
      omega
    | false => exact ⟨ai_lo _, ai_hi _⟩
/-- how many bits -/
noncomputable def fb_k (u1 u2 : Int) : Nat := Nat.log2 (max u1 u2).toNat + 1
theorem fb_k_lt {u1 u2 : Int} : u1 < 2 ^ fb_k u1 u2 ∧ u2 < 2 ^ fb_k u1 u2 := by
  have h : (max u1 u2).toNat < 2 ^ fb_k u1 u2 := Nat.lt_log2_self
  have hp : (2 : Int) ^ fb_k u1 u2 = ((2 ^ fb_k u1 u2 : Nat) : Int) := by norm_cast
  rw [hp]
  omega
noncomputable def fb_or (l1 u1 l2 u2 : Int) : Int × Int := bif (decide (0 ≤ l1) && decide (0 ≤ l2)) && Nat.blt (fb_k u1 u2) 32 then (max l1 l2, 2 ^ fb_k u1 u2 - 1) else (-2147483648, 2147483647)
theorem fb_or_ok : bo_ok (fun x y => x ||| y) fb_or := by
  intro x y l1 u1 l2 u2 h1 h2 h3 h4
  unfold fb_or
  cases hb : ((decide (0 ≤ l1) && decide (0 ≤ l2)) && Nat.blt (fb_k u1 u2) 32) with
  | false => exact ⟨ai_lo _, ai_hi _⟩
  | true =>
    simp only [Bool.and_eq_true, decide_eq_true_eq] at hb
    have hk : fb_k u1 u2 < 32 := Nat.le_of_ble_eq_true hb.2
    have hl := fb_k_lt (u1 := u1) (u2 := u2)
    have q := ai_or (x := x) (y := y) (by omega) (by omega) hk (by omega) (by omega)
    show max l1 l2 ≤ (x ||| y).toInt ∧ (x ||| y).toInt ≤ 2 ^ fb_k u1 u2 - 1
    omega
noncomputable def fb_xor (l1 u1 l2 u2 : Int) : Int × Int := bif (decide (0 ≤ l1) && decide (0 ≤ l2)) && Nat.blt (fb_k u1 u2) 32 then (0, 2 ^ fb_k u1 u2 - 1) else (-2147483648, 2147483647)
theorem fb_xor_ok : bo_ok (fun x y => x ^^^ y) fb_xor := by
  intro x y l1 u1 l2 u2 h1 h2 h3 h4
  unfold fb_xor
  cases hb : ((decide (0 ≤ l1) && decide (0 ≤ l2)) && Nat.blt (fb_k u1 u2) 32) with
  | false => exact ⟨ai_lo _, ai_hi _⟩
  | true =>
    simp only [Bool.and_eq_true, decide_eq_true_eq] at hb
    have hl := fb_k_lt (u1 := u1) (u2 := u2)
    have q := ai_xor (x := x) (y := y) (k := fb_k u1 u2) (by omega) (by omega) (by omega) (by omega)
    show 0 ≤ (x ^^^ y).toInt ∧ (x ^^^ y).toInt ≤ 2 ^ fb_k u1 u2 - 1
    omega
noncomputable def fb_shl (l1 u1 l2 u2 : Int) : Int × Int := bif ((decide (0 ≤ l1) && decide (0 ≤ l2)) && decide (u2 ≤ 31)) && decide (u1 * 2 ^ u2.toNat ≤ 2147483647) then (l1 * 2 ^ l2.toNat, u1 * 2 ^ u2.toNat) else (-2147483648, 2147483647)
theorem pw_mono {a b : Nat} (h : a ≤ b) : (2 : Int) ^ a ≤ 2 ^ b := by
  have h1 : (2 : Nat) ^ a ≤ 2 ^ b := Nat.pow_le_pow_right (by decide) h
  have ha : (2 : Int) ^ a = ((2 ^ a : Nat) : Int) := by norm_cast
  have hb : (2 : Int) ^ b = ((2 ^ b : Nat) : Int) := by norm_cast
  omega
theorem pw_pos (a : Nat) : (0 : Int) < 2 ^ a := by
  have h1 : 0 < (2 : Nat) ^ a := Nat.pow_pos (by decide)
  have ha : (2 : Int) ^ a = ((2 ^ a : Nat) : Int) := by norm_cast
  omega
theorem fb_shl_ok : bo_ok (fun x y => x <<< (y &&& 31)) fb_shl := by
  intro x y l1 u1 l2 u2 h1 h2 h3 h4
  unfold fb_shl
  cases hb : (((decide (0 ≤ l1) && decide (0 ≤ l2)) && decide (u2 ≤ 31)) && decide (u1 * 2 ^ u2.toNat ≤ 2147483647)) with
  | false => exact ⟨ai_lo _, ai_hi _⟩
  | true =>
    simp only [Bool.and_eq_true, decide_eq_true_eq] at hb
    obtain ⟨⟨⟨b1, b2⟩, b3⟩, b4⟩ := hb
    have p1 := pw_mono (a := l2.toNat) (b := y.toInt.toNat) (by omega)
    have p2 := pw_mono (a := y.toInt.toNat) (b := u2.toNat) (by omega)
    have z1 := pw_pos l2.toNat
    have z2 := pw_pos y.toInt.toNat
    have z3 := pw_pos u2.toNat
    have m1 : l1 * 2 ^ l2.toNat ≤ x.toInt * 2 ^ y.toInt.toNat := Int.mul_le_mul h1 p1 (by omega) (by omega)
    have m2 : x.toInt * 2 ^ y.toInt.toNat ≤ u1 * 2 ^ u2.toNat := Int.mul_le_mul h2 p2 (by omega) (by omega)
    have e := ai_shl (x := x) (y := y) (by omega) (by omega) (by omega) (by omega)
    show l1 * 2 ^ l2.toNat ≤ (x <<< (y &&& 31)).toInt ∧ (x <<< (y &&& 31)).toInt ≤ u1 * 2 ^ u2.toNat
    rw [e]
    exact ⟨m1, m2⟩
/-- quotient and rest, the divisor positive -/
theorem ai_div {x y : Int32} (hy : 0 < y.toInt) : (x / y).toInt = x.toInt.tdiv y.toInt ∧ -2147483648 ≤ x.toInt.tdiv y.toInt ∧ x.toInt.tdiv y.toInt ≤ 2147483647 := by
  have l := ai_lo x
  have u := ai_hi x
  have hb : -2147483648 ≤ x.toInt.tdiv y.toInt ∧ x.toInt.tdiv y.toInt ≤ 2147483647 := by
    by_cases hx : 0 ≤ x.toInt
    · have a := Int.tdiv_nonneg hx (Int.le_of_lt hy)
      have b := Int.tdiv_le_self y.toInt hx
      omega
    · have a := Int.tdiv_nonneg (a := -x.toInt) (b := y.toInt) (by omega) (Int.le_of_lt hy)
      have b := Int.tdiv_le_self (a := -x.toInt) y.toInt (by omega)
      rw [Int.neg_tdiv] at a b
      omega
  rw [Int32.toInt_div]
  exact ⟨ai_bmod hb.1 hb.2, hb.1, hb.2⟩
theorem ai_rem {x y : Int32} (hy : 0 < y.toInt) : (x - x / y * y).toInt = x.toInt.tmod y.toInt := by
  obtain ⟨e, -, -⟩ := ai_div (x := x) hy
  have l := ai_lo x
  have u := ai_hi x
  have d := Int.tmod_def x.toInt y.toInt
  have t1 := Int.tmod_lt_of_pos x.toInt hy
  have t2 := Int.lt_tmod_of_pos x.toInt hy
  have hm : x.toInt.tdiv y.toInt * y.toInt = x.toInt - x.toInt.tmod y.toInt := by rw [Int.mul_comm]; omega
  have hs : (0 ≤ x.toInt → 0 ≤ x.toInt.tmod y.toInt ∧ x.toInt.tmod y.toInt ≤ x.toInt) ∧ (x.toInt ≤ 0 → x.toInt.tmod y.toInt ≤ 0 ∧ x.toInt ≤ x.toInt.tmod y.toInt) := by
    constructor
    · intro hx
      refine ⟨Int.tmod_nonneg _ hx, ?_⟩
      have := Int.tdiv_nonneg hx (Int.le_of_lt hy)
      have := Int.mul_nonneg this (Int.le_of_lt hy)
      omega
    · intro hx
      have a := Int.tmod_nonneg (a := -x.toInt) y.toInt (by omega)
      rw [Int.neg_tmod] at a
      have b := Int.tdiv_nonneg (a := -x.toInt) (b := y.toInt) (by omega) (Int.le_of_lt hy)
      have c := Int.mul_nonneg b (Int.le_of_lt hy)
      rw [Int.neg_tdiv, Int.neg_mul] at c
      omega
  have h1 : (x / y * y).toInt = x.toInt.tdiv y.toInt * y.toInt := by
    rw [ai_mul (x := x / y) (y := y)] <;> rw [e]
    · by_cases hx : 0 ≤ x.toInt
      · have := hs.1 hx; omega
      · have := hs.2 (by omega); omega
    · by_cases hx : 0 ≤ x.toInt
      · have := hs.1 hx; omega
      · have := hs.2 (by omega); omega
  rw [ai_sub (x := x) (y := x / y * y)] <;> rw [h1]
  · omega
  · have := ai_lo y; have := ai_hi y; omega
  · have := ai_lo y; have := ai_hi y; omega
noncomputable def fb_div (l1 u1 _ _ : Int) : Int × Int := bif decide (0 ≤ l1) then (0, u1) else (-2147483648, 2147483647)
theorem fb_div_ok : bd_ok (fun x y => x / y) fb_div := by
  intro x y l1 u1 l2 u2 h0 h1 h2 h3 h4
  unfold fb_div
  cases hb : decide (0 ≤ l1) with
  | false => exact ⟨ai_lo _, ai_hi _⟩
  | true =>
    have hb := of_decide_eq_true hb
    have e := (ai_div (x := x) (y := y) (by omega)).1
    have a := Int.tdiv_nonneg (a := x.toInt) (b := y.toInt) (by omega) (by omega)
    have b := Int.tdiv_le_self (a := x.toInt) y.toInt (by omega)
    show 0 ≤ (x / y).toInt ∧ (x / y).toInt ≤ u1
    rw [e]
    omega
noncomputable def fb_rem (l1 u1 _ u2 : Int) : Int × Int := bif decide (0 ≤ l1) then (0, min u1 (u2 - 1)) else (-(u2 - 1), u2 - 1)
theorem fb_rem_ok : bd_ok (fun x y => x - x / y * y) fb_rem := by
  intro x y l1 u1 l2 u2 h0 h1 h2 h3 h4
  unfold fb_rem
  have hy : 0 < y.toInt := by omega
  have t1 := Int.tmod_lt_of_pos x.toInt hy
  have t2 := Int.lt_tmod_of_pos x.toInt hy
  cases hb : decide (0 ≤ l1) with
  | false =>
    show -(u2 - 1) ≤ (x - x / y * y).toInt ∧ (x - x / y * y).toInt ≤ u2 - 1
    rw [ai_rem hy]
    omega
  | true =>
    have hb := of_decide_eq_true hb
    have a := Int.tmod_nonneg (a := x.toInt) y.toInt (by omega)
    have d := Int.tmod_def x.toInt y.toInt
    have c := Int.mul_nonneg (Int.le_of_lt hy) (Int.tdiv_nonneg (a := x.toInt) (b := y.toInt) (by omega) (by omega))
    show 0 ≤ (x - x / y * y).toInt ∧ (x - x / y * y).toInt ≤ min u1 (u2 - 1)
    rw [ai_rem hy]
    omega
end AIO
end
section
/-! THE EXECUTOR (second writing), part 6: sums, longs, branches -/
section AIQ
variable {w : AW}
theorem av_ev_add {n : Nat} {ρ : Nat → Int} {k : Option Nat} {o v d : Int} (h : av_ev n ρ k o v) : av_ev n ρ k (o + d) (v + d) := by
  cases k with
  | none => exact congrArg (· + d) h
  | some k => exact ⟨h.1, by have := h.2; show v + d = ρ k + (o + d); omega⟩
theorem av_ev_sub {n : Nat} {ρ : Nat → Int} {k : Option Nat} {o v d : Int} (h : av_ev n ρ k o v) : av_ev n ρ k (o - d) (v - d) := by
  rw [show o - d = o + -d by omega, show v - d = v + -d by omega]
  exact av_ev_add h
/-- the symbol of a sum that is known -/
noncomputable def con_sum (cs : List Con) (a b : Nat) : Option Nat := match cs with
  | [] => none
  | .inl (s, p, q) :: l => bif (Nat.beq p a && Nat.beq q b) || (Nat.beq p b && Nat.beq q a) then some s else con_sum l a b
  | _ :: l => con_sum l a b
theorem con_sum_ok {n : Nat} {ρ : Nat → Int} {a b s : Nat} : ∀ {cs : List Con}, (∀ c ∈ cs, con_g n ρ c) → con_sum cs a b = some s → s < n ∧ ρ s = ρ a + ρ b
  | [], _, h => by cases h
  | .inr _ :: l, hc, h => con_sum_ok (cs := l) (fun c hm => hc c (List.mem_cons_of_mem _ hm)) h
  | .inl (s', p, q) :: l, hc, h => by
    unfold con_sum at h
    cases hb : ((Nat.beq p a && Nat.beq q b) || (Nat.beq p b && Nat.beq q a)) with
    | false =>
      rw [hb] at h
      exact con_sum_ok (cs := l) (fun c hm => hc c (List.mem_cons_of_mem _ hm)) h
    | true =>
      rw [hb] at h
      cases h
      obtain ⟨h1, h2, h3, h4⟩ := hc _ List.mem_cons_self
      simp only [Bool.or_eq_true, Bool.and_eq_true] at hb
      rcases hb with ⟨e1, e2⟩ | ⟨e1, e2⟩
      · have e1 := Nat.eq_of_beq_eq_true e1
        have e2 := Nat.eq_of_beq_eq_true e2
        subst e1; subst e2
        exact ⟨h1, h4⟩
      · have e1 := Nat.eq_of_beq_eq_true e1
        have e2 := Nat.eq_of_beq_eq_true e2
        subst e1; subst e2
        exact ⟨h1, by omega⟩
/-- the symbol of a difference that is known -/
noncomputable def con_dif (cs : List Con) (a b : Nat) : Option Nat := match cs with
  | [] => none
  | .inl (s, p, q) :: l => bif Nat.beq s a && Nat.beq q b then some p else (bif Nat.beq s a && Nat.beq p b then some q else con_dif l a b)
  | _ :: l => con_dif l a b
theorem con_dif_ok {n : Nat} {ρ : Nat → Int} {a b s : Nat} : ∀ {cs : List Con}, (∀ c ∈ cs, con_g n ρ c) → con_dif cs a b = some s → s < n ∧ ρ s = ρ a - ρ b
  | [], _, h => by cases h
  | .inr _ :: l, hc, h => con_dif_ok (cs := l) (fun c hm => hc c (List.mem_cons_of_mem _ hm)) h
  | .inl (s', p, q) :: l, hc, h => by
    unfold con_dif at h
    obtain ⟨h1, h2, h3, h4⟩ := hc _ List.mem_cons_self
    cases hb : (Nat.beq s' a && Nat.beq q b) with
    | true =>
      rw [hb] at h
      cases h
      rw [Bool.and_eq_true] at hb
      have e1 := Nat.eq_of_beq_eq_true hb.1
      have e2 := Nat.eq_of_beq_eq_true hb.2
      subst e1; subst e2
      exact ⟨h2, by omega⟩
    | false =>
      rw [hb, cond_false] at h
      cases hd : (Nat.beq s' a && Nat.beq p b) with
      | true =>
        rw [hd] at h
        cases h
        rw [Bool.and_eq_true] at hd
        have e1 := Nat.eq_of_beq_eq_true hd.1
        have e2 := Nat.eq_of_beq_eq_true hd.2
        subst e1; subst e2
        exact ⟨h3, by omega⟩
      | false =>
        rw [hd] at h
        exact con_dif_ok (cs := l) (fun c hm => hc c (List.mem_cons_of_mem _ hm)) h
/-- bounds of a difference by relations -/
noncomputable def con_lo (cs : List Con) (a b : Nat) (lo : Int) : Int := match cs with
  | [] => lo
  | .inr (p, q, c) :: l => con_lo l a b (bif Nat.beq p b && Nat.beq q a then max lo (-c) else lo)
  | _ :: l => con_lo l a b lo
noncomputable def con_hi (cs : List Con) (a b : Nat) (hi : Int) : Int := match cs with
  | [] => hi
  | .inr (p, q, c) :: l => con_hi l a b (bif Nat.beq p a && Nat.beq q b then min hi c else hi)
  | _ :: l => con_hi l a b hi
theorem con_lo_ok {n : Nat} {ρ : Nat → Int} {a b : Nat} : ∀ {cs : List Con} {lo : Int}, (∀ c ∈ cs, con_g n ρ c) → lo ≤ ρ a - ρ b → con_lo cs a b lo ≤ ρ a - ρ b
  | [], _, _, h => h
  | .inl _ :: l, _, hc, h => con_lo_ok (cs := l) (fun c hm => hc c (List.mem_cons_of_mem _ hm)) h
  | .inr (p, q, c) :: l, lo, hc, h => by
    refine con_lo_ok (cs := l) (fun c hm => hc c (List.mem_cons_of_mem _ hm)) ?_
    cases hb : (Nat.beq p b && Nat.beq q a) with
    | false => exact h
    | true =>
      rw [Bool.and_eq_true] at hb
      have e1 := Nat.eq_of_beq_eq_true hb.1
      have e2 := Nat.eq_of_beq_eq_true hb.2
      subst e1; subst e2
      have := (hc _ List.mem_cons_self).2.2
      show max lo (-c) ≤ _
      omega
theorem con_hi_ok {n : Nat} {ρ : Nat → Int} {a b : Nat} : ∀ {cs : List Con} {hi : Int}, (∀ c ∈ cs, con_g n ρ c) → ρ a - ρ b ≤ hi → ρ a - ρ b ≤ con_hi cs a b hi
  | [], _, _, h => h
  | .inl _ :: l, _, hc, h => con_hi_ok (cs := l) (fun c hm => hc c (List.mem_cons_of_mem _ hm)) h
  | .inr (p, q, c) :: l, hi, hc, h => by
    refine con_hi_ok (cs := l) (fun c hm => hc c (List.mem_cons_of_mem _ hm)) ?_
    cases hb : (Nat.beq p a && Nat.beq q b) with
    | false => exact h
    | true =>
      rw [Bool.and_eq_true] at hb
      have e1 := Nat.eq_of_beq_eq_true hb.1
      have e2 := Nat.eq_of_beq_eq_true hb.2
      subst e1; subst e2
      have := (hc _ List.mem_cons_self).2.2
      show _ ≤ min hi c
      omega
/-- a fresh symbol that stands in a sum -/
noncomputable def a_pc (n : Nat) (lv : List (Nat × AV)) (st : List AV) (iv : IV) (ex : AX) (lo hi o : Int) (c : Nat → Con) : AS := bif decide (lo = hi) then (n, lv, .inl (none, lo + o) :: st, iv, ex) else (n, lv, .inl (some iv.length, o) :: st, iv ++ [(lo, hi)], ex.1, c iv.length :: ex.2.1, ex.2.2)
theorem a_pc_ok {E : AEnv} {ρ : Nat → Int} {pc n : Nat} {lv : List (Nat × AV)} {st : List AV} {iv : IV} {ex : AX} {pc' : Nat} {cl : List (Nat × Value)} {cs : List Value} {W : pm_H × Nat × Nat} {v : Int32} {lo hi o : Int} {c : Nat → Con} (g : as_r w E ρ (pc, lv, st, iv, ex) (pc', cl, cs, W)) (h1 : lo + o ≤ v.toInt) (h2 : v.toInt ≤ hi + o)
    (hc : ∀ ρ' : Nat → Int, (∀ q, q < iv.length → ρ' q = ρ q) → ρ' iv.length + o = v.toInt → con_g (iv.length + 1) ρ' (c iv.length)) : as_g w E (a_pc n lv st iv ex lo hi o c) (n, cl, .int v :: cs, W) := by
  unfold a_pc
  cases hb : decide (lo = hi) with
  | true =>
    have hb := of_decide_eq_true hb
    obtain ⟨g1, g2, g3, g4, g5⟩ := g
    exact ⟨ρ, g1, rfl, g3, ⟨(by show v.toInt = lo + o; omega), g4⟩, g5⟩
  | false =>
    obtain ⟨⟨g1, g2, g3, g4, g5⟩, e⟩ := as_grow (v := v.toInt - o) (lo := lo) (hi := hi) g (by omega) (by omega)
    have hn : (iv ++ [(lo, hi)]).length = iv.length + 1 := by rw [List.length_append]; rfl
    have e2 := e.2
    refine ⟨_, g1, rfl, g3, ⟨⟨e.1, by omega⟩, g4⟩, g5.1, g5.2.1, ?_, g5.2.2.2⟩
    intro q hq
    cases List.mem_cons.mp hq with
    | inl e' =>
      subst e'
      show con_g (iv ++ [(lo, hi)]).length _ _
      rw [hn]
      exact hc _ iv_ext_old (by omega)
    | inr hq => exact g5.2.2.1 q hq
noncomputable def a_addc (n : Nat) (lv : List (Nat × AV)) (st : List AV) (iv : IV) (ex : AX) (k1 : Option Nat) (o1 : Int) (k2 : Option Nat) (o2 : Int) : Option AS := match iv_rng iv k1 o1, iv_rng iv k2 o2 with
  | some (l1, u1), some (l2, u2) => bif ai_in (l1 + l2) (u1 + u2) then (match k2 with
      | none => some (n, lv, .inl (k1, o1 + o2) :: st, iv, ex)
      | some b => match k1 with
      | none => some (n, lv, .inl (some b, o1 + o2) :: st, iv, ex)
      | some a => match con_sum ex.2.1 a b with
        | some s => some (n, lv, .inl (some s, o1 + o2) :: st, iv, ex)
        | none => some (a_pc n lv st iv ex (l1 + l2 - o1 - o2) (u1 + u2 - o1 - o2) (o1 + o2) (fun s => .inl (s, a, b)))) else some (a_pi n lv st iv ex (-2147483648) 2147483647)
  | _, _ => none
theorem a_addc_ok {E : AEnv} {ρ : Nat → Int} {pc n : Nat} {lv : List (Nat × AV)} {st : List AV} {iv : IV} {ex : AX} {pc' : Nat} {cl : List (Nat × Value)} {cs : List Value} {W : pm_H × Nat × Nat} {x y : Int32} {k1 k2 : Option Nat} {o1 o2 : Int} {A : AS} (g : as_r w E ρ (pc, lv, st, iv, ex) (pc', cl, cs, W)) (hx : av_ev iv.length ρ k1 o1 x.toInt) (hy : av_ev iv.length ρ k2 o2 y.toInt)
    (h : a_addc n lv st iv ex k1 o1 k2 o2 = some A) : as_g w E A (n, cl, .int (x + y) :: cs, W) := by
  obtain ⟨g1, g2, g3, g4, g5⟩ := id g
  dsimp only at g1 g3 g4 g5
  unfold a_addc at h
  split at h
  · rename_i l1 u1 l2 u2 r1 r2
    have b1 := iv_rng_ok g1 hx r1
    have b2 := iv_rng_ok g1 hy r2
    cases hb : ai_in (l1 + l2) (u1 + u2) with
    | false =>
      rw [hb] at h
      cases h
      exact a_pi_ok g (ai_lo _) (ai_hi _)
    | true =>
      rw [hb, cond_true] at h
      have hi := ai_in_ok hb
      have hs : (x + y).toInt = x.toInt + y.toInt := ai_add (by omega) (by omega)
      split at h
      · cases h
        have hy : y.toInt = o2 := hy
        refine ⟨ρ, g1, rfl, g3, ⟨?_, g4⟩, g5⟩
        show av_ev iv.length ρ k1 (o1 + o2) (x + y).toInt
        rw [hs, hy]
        exact av_ev_add hx
      rename_i b
      split at h
      · cases h
        have hx : x.toInt = o1 := hx
        refine ⟨ρ, g1, rfl, g3, ⟨?_, g4⟩, g5⟩
        show av_ev iv.length ρ (some b) (o1 + o2) (x + y).toInt
        rw [hs, hx, Int.add_comm o1, Int.add_comm o1]
        exact av_ev_add hy
      · rename_i a
        split at h
        · rename_i s hss
          cases h
          obtain ⟨q1, q2⟩ := con_sum_ok g5.2.2.1 hss
          refine ⟨ρ, g1, rfl, g3, ⟨⟨q1, ?_⟩, g4⟩, g5⟩
          have := hx.2
          have := hy.2
          omega
        · cases h
          refine a_pc_ok g (by omega) (by omega) (fun ρ' e1 e2 => ?_)
          have ha := hx.1
          have hb := hy.1
          refine ⟨Nat.lt_succ_self _, Nat.lt_succ_of_lt ha, Nat.lt_succ_of_lt hb, ?_⟩
          rw [e1 a ha, e1 b hb]
          have := hx.2
          have := hy.2
          omega
  · cases h
noncomputable def a_subc (n : Nat) (lv : List (Nat × AV)) (st : List AV) (iv : IV) (ex : AX) (k1 : Option Nat) (o1 : Int) (k2 : Option Nat) (o2 : Int) : Option AS := match iv_rng iv k1 o1, iv_rng iv k2 o2 with
  | some (l1, u1), some (l2, u2) => bif ai_in (l1 - u2) (u1 - l2) then (match k2 with
      | none => some (n, lv, .inl (k1, o1 - o2) :: st, iv, ex)
      | some b => match k1 with
      | none => some (a_pi n lv st iv ex (l1 - u2) (u1 - l2))
      | some a => bif Nat.beq a b then some (n, lv, .inl (none, o1 - o2) :: st, iv, ex) else match con_dif ex.2.1 a b with
        | some s => some (n, lv, .inl (some s, o1 - o2) :: st, iv, ex)
        | none => some (a_pc n lv st iv ex (con_lo ex.2.1 a b (l1 - u2 - o1 + o2)) (con_hi ex.2.1 a b (u1 - l2 - o1 + o2)) (o1 - o2) (fun s => .inl (a, s, b)))) else some (a_pi n lv st iv ex (-2147483648) 2147483647)
  | _, _ => none
theorem a_subc_ok {E : AEnv} {ρ : Nat → Int} {pc n : Nat} {lv : List (Nat × AV)} {st : List AV} {iv : IV} {ex : AX} {pc' : Nat} {cl : List (Nat × Value)} {cs : List Value} {W : pm_H × Nat × Nat} {x y : Int32} {k1 k2 : Option Nat} {o1 o2 : Int} {A : AS} (g : as_r w E ρ (pc, lv, st, iv, ex) (pc', cl, cs, W)) (hx : av_ev iv.length ρ k1 o1 x.toInt) (hy : av_ev iv.length ρ k2 o2 y.toInt)
    (h : a_subc n lv st iv ex k1 o1 k2 o2 = some A) : as_g w E A (n, cl, .int (x - y) :: cs, W) := by
  obtain ⟨g1, g2, g3, g4, g5⟩ := id g
  dsimp only at g1 g3 g4 g5
  unfold a_subc at h
  split at h
  · rename_i l1 u1 l2 u2 r1 r2
    have b1 := iv_rng_ok g1 hx r1
    have b2 := iv_rng_ok g1 hy r2
    cases hb : ai_in (l1 - u2) (u1 - l2) with
    | false =>
      rw [hb] at h
      cases h
      exact a_pi_ok g (ai_lo _) (ai_hi _)
    | true =>
      rw [hb, cond_true] at h
      have hi := ai_in_ok hb
      have hs : (x - y).toInt = x.toInt - y.toInt := ai_sub (by omega) (by omega)
      split at h
      · cases h
        have hy : y.toInt = o2 := hy
        refine ⟨ρ, g1, rfl, g3, ⟨?_, g4⟩, g5⟩
        show av_ev iv.length ρ k1 (o1 - o2) (x - y).toInt
        rw [hs, hy]
        exact av_ev_sub hx
      rename_i b
      split at h
      · cases h
        exact a_pi_ok g (by omega) (by omega)
      · rename_i a
        have hx2 := hx.2
        have hy2 := hy.2
        cases hab : Nat.beq a b with
        | true =>
          rw [hab] at h
          cases h
          have hab := Nat.eq_of_beq_eq_true hab
          subst hab
          refine ⟨ρ, g1, rfl, g3, ⟨?_, g4⟩, g5⟩
          show (x - y).toInt = o1 - o2
          omega
        | false =>
          rw [hab, cond_false] at h
          split at h
          · rename_i s hss
            cases h
            obtain ⟨q1, q2⟩ := con_dif_ok g5.2.2.1 hss
            refine ⟨ρ, g1, rfl, g3, ⟨⟨q1, ?_⟩, g4⟩, g5⟩
            omega
          · cases h
            have w1 := con_lo_ok (a := a) (b := b) (lo := l1 - u2 - o1 + o2) g5.2.2.1 (by omega)
            have w2 := con_hi_ok (a := a) (b := b) (hi := u1 - l2 - o1 + o2) g5.2.2.1 (by omega)
            refine a_pc_ok g (by omega) (by omega) (fun ρ' e1 e2 => ?_)
            have ha := hx.1
            have hb := hy.1
            refine ⟨Nat.lt_succ_of_lt ha, Nat.lt_succ_self _, Nat.lt_succ_of_lt hb, ?_⟩
            rw [e1 a ha, e1 b hb]
            omega
  · cases h
noncomputable def a_add (n : Nat) : AS → Option (List AS) := fun A => match A.2.2.1 with
  | .inl (k2, o2) :: .inl (k1, o1) :: st => (a_addc n A.2.1 st A.2.2.2.1 A.2.2.2.2 k1 o1 k2 o2).map (fun B => [B])
  | _ => none
theorem a_add_ok (n : Nat) : ai_ok w (s_bin (fun x y => x + y) n) (a_add n) := by
  rintro E ⟨pc, lv, st, iv, ex⟩ ⟨pc', cl, cs, W⟩ As ⟨ρ, g1, g2, g3, g4, g5⟩ h
  simp only [a_add] at h
  split at h
  · rename_i k2 o2 k1 o1 st'
    obtain ⟨A, hA, rfl⟩ := Option.map_eq_some_iff.mp h
    obtain ⟨v, cs, rfl, ha, hr0⟩ := f2_cons g4
    obtain ⟨u, cs, rfl, hc, hr⟩ := f2_cons hr0
    obtain ⟨y, rfl, ha⟩ := av_int ha
    obtain ⟨x, rfl, hc⟩ := av_int hc
    exact ⟨(n, cl, .int (x + y) :: cs, W), rfl, _, List.mem_singleton_self _, a_addc_ok (st := st') (pc := pc) (pc' := pc') ⟨g1, g2, g3, hr, g5⟩ hc ha hA⟩
  · cases h
noncomputable def a_sub (n : Nat) : AS → Option (List AS) := fun A => match A.2.2.1 with
  | .inl (k2, o2) :: .inl (k1, o1) :: st => (a_subc n A.2.1 st A.2.2.2.1 A.2.2.2.2 k1 o1 k2 o2).map (fun B => [B])
  | _ => none
theorem a_sub_ok (n : Nat) : ai_ok w (s_bin (fun x y => x - y) n) (a_sub n) := by
  rintro E ⟨pc, lv, st, iv, ex⟩ ⟨pc', cl, cs, W⟩ As ⟨ρ, g1, g2, g3, g4, g5⟩ h
  simp only [a_sub] at h
  split at h
  · rename_i k2 o2 k1 o1 st'
    obtain ⟨A, hA, rfl⟩ := Option.map_eq_some_iff.mp h
    obtain ⟨v, cs, rfl, ha, hr0⟩ := f2_cons g4
    obtain ⟨u, cs, rfl, hc, hr⟩ := f2_cons hr0
    obtain ⟨y, rfl, ha⟩ := av_int ha
    obtain ⟨x, rfl, hc⟩ := av_int hc
    exact ⟨(n, cl, .int (x - y) :: cs, W), rfl, _, List.mem_singleton_self _, a_subc_ok (st := st') (pc := pc) (pc' := pc') ⟨g1, g2, g3, hr, g5⟩ hc ha hA⟩
  · cases h
/-- a local counts on -/
noncomputable def a_inc (i : Nat) (d : Int32) (n : Nat) : AS → Option (List AS) := fun A => match as_get A.2.1 i with
  | some (.inl (k, o)) => match iv_rng A.2.2.2.1 k o with
    | some (lo, hi) => bif kp1 A.2.2.2.2.2.2.2.2 A.2.1 i then (bif ai_in (lo + d.toInt) (hi + d.toInt) then some [(n, as_put1 i (.inl (k, (o + d.toInt))) A.2.1, A.2.2.1, A.2.2.2)] else some [(n, as_put1 i (.inl (some A.2.2.2.1.length, 0)) A.2.1, A.2.2.1, A.2.2.2.1 ++ [(-2147483648, 2147483647)], A.2.2.2.2)]) else none
    | none => none
  | _ => none
theorem a_inc_ok (i : Nat) (d : Int32) (n : Nat) : ai_ok w (s_inc i d n) (a_inc i d n) := by
  rintro E ⟨pc, lv, st, iv, ex⟩ ⟨pc', cl, cs, W⟩ As ⟨ρ, g⟩ h
  obtain ⟨g1, g2, g3, g4, g5⟩ := id g
  simp only [a_inc] at h
  split at h
  · rename_i k o e
    split at h
    · rename_i lo hi er
      cases hk : kp1 ex.2.2.2.2 lv i with
      | false => rw [hk] at h; cases h
      | true =>
        rw [hk, cond_true] at h
        obtain ⟨v, e1, e2⟩ := g3 i _ (as_get_in e)
        obtain ⟨x, rfl, e2⟩ := av_int e2
        have hstep : s_inc i d n (pc', cl, cs, W) = some (n, pm_put1 i (.int (x + d)) cl, cs, W) := by
          simp only [s_inc]; simp only at e1; rw [e1]
        cases hb : ai_in (lo + d.toInt) (hi + d.toInt) with
        | false =>
          rw [hb] at h
          cases h
          obtain ⟨⟨p1, p2, p3, p4, p5⟩, q⟩ := as_grow (v := (x + d).toInt) (lo := -2147483648) (hi := 2147483647) g (ai_lo _) (ai_hi _)
          exact ⟨_, hstep, _, List.mem_singleton_self _, _, p1, rfl, as_put1_ok p3 q, p4, ex_put1 p3 hk p5⟩
        | true =>
          rw [hb] at h
          cases h
          have hr := iv_rng_ok g1 e2 er
          have hi2 := ai_in_ok hb
          have hx : (x + d).toInt = x.toInt + d.toInt := ai_add (by omega) (by omega)
          refine ⟨_, hstep, _, List.mem_singleton_self _, ρ, g1, rfl, as_put1_ok g3 ?_, g4, ex_put1 g3 hk g5⟩
          show av_ev iv.length ρ k (o + d.toInt) (x + d).toInt
          rw [hx]
          exact av_ev_add e2
    · cases h
  · cases h
end AIQ
end
