/-! an instruction by its bytes (written by rowdec.py) -/
noncomputable def bk1 (c : ByteArray) (p o : Nat) : Bool := match c.data.toList.drop p with
  | [] => false
  | x :: _ => Nat.beq x.toNat o
noncomputable def bk2 (c : ByteArray) (p o n : Nat) : Bool := match c.data.toList.drop p with
  | x :: y :: _ => Nat.beq x.toNat o && Nat.beq y.toNat n
  | _ => false
noncomputable def bk3 (c : ByteArray) (p o n : Nat) : Bool := match c.data.toList.drop p with
  | x :: y :: z :: _ => Nat.beq x.toNat o && Nat.beq (y.toNat * 256 + z.toNat) n
  | _ => false
noncomputable def bkS (c : ByteArray) (p o : Nat) (n : Int) : Bool := match c.data.toList.drop p with
  | x :: y :: z :: _ => Nat.beq x.toNat o && decide (Reader.signed 16 (y.toNat * 256 + z.toNat) = n)
  | _ => false
noncomputable def bkB (c : ByteArray) (p o : Nat) (n : Int) : Bool := match c.data.toList.drop p with
  | x :: y :: _ => Nat.beq x.toNat o && decide (Reader.signed 8 y.toNat = n)
  | _ => false
noncomputable def bkI (c : ByteArray) (p o m : Nat) (n : Int) : Bool := match c.data.toList.drop p with
  | x :: y :: z :: _ => Nat.beq x.toNat o && (Nat.beq y.toNat m && decide (Reader.signed 8 z.toNat = n))
  | _ => false
theorem dk_u1 {c : ByteArray} {p : Nat} (h : p < c.size) : (Reader.u1 : Decoder Nat) c p = .ok (c[p].toNat, p + 1) := by
  show (dite (p < c.size) (fun h => (_ : Decoder Nat)) (fun _ => _)) c p = _
  rw [dif_pos h]
  rfl
theorem dk_at {c : ByteArray} {p : Nat} {x : UInt8} {l : List UInt8} (e : c.data.toList.drop p = x :: l) : (Reader.u1 : Decoder Nat) c p = .ok (x.toNat, p + 1) ∧ c.data.toList.drop (p + 1) = l := by
  have hp : p < c.data.toList.length := by
    have := congrArg List.length e
    rw [List.length_drop, List.length_cons] at this
    omega
  have hs : p < c.size := hp
  have e2 : c[p] = c.data.toList[p] := rfl
  have e4 := List.drop_eq_getElem_cons hp
  rw [e] at e4
  injection e4 with a b
  exact ⟨by rw [dk_u1 hs, e2, ← a], b.symm⟩
theorem dk_1 {c : ByteArray} {p o : Nat} (h : bk1 c p o = true) : (Reader.u1 : Decoder Nat) c p = .ok (o, p + 1) := by
  unfold bk1 at h
  split at h
  · cases h
  · rename_i x l e
    rw [(dk_at e).1, Nat.eq_of_beq_eq_true h]
theorem dk_2 {c : ByteArray} {p o n : Nat} (h : bk2 c p o n = true) : (Reader.u1 : Decoder Nat) c p = .ok (o, p + 1) ∧ (Reader.u1 : Decoder Nat) c (p + 1) = .ok (n, p + 1 + 1) := by
  unfold bk2 at h
  split at h
  · rename_i x y l e
    rw [Bool.and_eq_true] at h
    obtain ⟨a, b⟩ := dk_at e
    exact ⟨by rw [a, Nat.eq_of_beq_eq_true h.1], by rw [(dk_at b).1, Nat.eq_of_beq_eq_true h.2]⟩
  · cases h
theorem dk_u2 {c : ByteArray} {p a b : Nat} (h1 : (Reader.u1 : Decoder Nat) c p = .ok (a, p + 1)) (h2 : (Reader.u1 : Decoder Nat) c (p + 1) = .ok (b, p + 1 + 1)) : (Reader.u2 : Decoder Nat) c p = .ok (a * 256 + b, p + 1 + 1) := by
  show Except.bind ((Reader.u1 : Decoder Nat) c p) _ = _
  rw [h1]
  show Except.bind ((Reader.u1 : Decoder Nat) c (p + 1)) _ = _
  rw [h2]
  rfl
theorem dk_3 {c : ByteArray} {p o n : Nat} (h : bk3 c p o n = true) : (Reader.u1 : Decoder Nat) c p = .ok (o, p + 1) ∧ (Reader.u2 : Decoder Nat) c (p + 1) = .ok (n, p + 1 + 1 + 1) := by
  unfold bk3 at h
  split at h
  · rename_i x y z l e
    rw [Bool.and_eq_true] at h
    obtain ⟨a, b⟩ := dk_at e
    obtain ⟨a2, b2⟩ := dk_at b
    exact ⟨by rw [a, Nat.eq_of_beq_eq_true h.1], by rw [dk_u2 a2 (dk_at b2).1, Nat.eq_of_beq_eq_true h.2]⟩
  · cases h
theorem dk_S {c : ByteArray} {p o : Nat} {n : Int} (h : bkS c p o n = true) : (Reader.u1 : Decoder Nat) c p = .ok (o, p + 1) ∧ (Reader.s2 : Decoder Int) c (p + 1) = .ok (n, p + 1 + 1 + 1) := by
  unfold bkS at h
  split at h
  · rename_i x y z l e
    rw [Bool.and_eq_true] at h
    obtain ⟨a, b⟩ := dk_at e
    obtain ⟨a2, b2⟩ := dk_at b
    refine ⟨by rw [a, Nat.eq_of_beq_eq_true h.1], ?_⟩
    show Except.bind ((Reader.u2 : Decoder Nat) c (p + 1)) _ = _
    rw [dk_u2 a2 (dk_at b2).1, ← of_decide_eq_true h.2]
    rfl
  · cases h
theorem dk_B {c : ByteArray} {p o : Nat} {n : Int} (h : bkB c p o n = true) : (Reader.u1 : Decoder Nat) c p = .ok (o, p + 1) ∧ (Reader.s1 : Decoder Int) c (p + 1) = .ok (n, p + 1 + 1) := by
  unfold bkB at h
  split at h
  · rename_i x y l e
    rw [Bool.and_eq_true] at h
    obtain ⟨a, b⟩ := dk_at e
    refine ⟨by rw [a, Nat.eq_of_beq_eq_true h.1], ?_⟩
    show Except.bind ((Reader.u1 : Decoder Nat) c (p + 1)) _ = _
    rw [(dk_at b).1, ← of_decide_eq_true h.2]
    rfl
  · cases h
theorem dk_I {c : ByteArray} {p o m : Nat} {n : Int} (h : bkI c p o m n = true) : (Reader.u1 : Decoder Nat) c p = .ok (o, p + 1) ∧ (Reader.u1 : Decoder Nat) c (p + 1) = .ok (m, p + 1 + 1) ∧ (Reader.s1 : Decoder Int) c (p + 1 + 1) = .ok (n, p + 1 + 1 + 1) := by
  unfold bkI at h
  split at h
  · rename_i x y z l e
    rw [Bool.and_eq_true, Bool.and_eq_true] at h
    obtain ⟨a, b⟩ := dk_at e
    obtain ⟨a2, b2⟩ := dk_at b
    refine ⟨by rw [a, Nat.eq_of_beq_eq_true h.1], by rw [a2, Nat.eq_of_beq_eq_true h.2.1], ?_⟩
    show Except.bind ((Reader.u1 : Decoder Nat) c (p + 1 + 1)) _ = _
    rw [(dk_at b2).1, ← of_decide_eq_true h.2.2]
    rfl
  · cases h
/-! Math: no rows of natives (read by rowdec.py) -/
noncomputable def natB (n d : String) : Bool := (n == "abs" && (d == "(I)I" || d == "(J)J")) || ((n == "max" || n == "min") && d == "(II)I")
theorem nat_all : Jvm.natives.all (fun r => !(r.cls == "java/lang/Math") || !(natB r.name r.desc)) = true := by decide +kernel
theorem nat_pf {y : MethodName} (hc : y.cls = "java/lang/Math") (hn : natB y.name y.desc = true) : plainFor y = true := by
  have e : NativeRow.find? Jvm.natives y.cls y.name y.desc = none := List.find?_eq_none.mpr (fun r hr => by
    have a := List.all_eq_true.mp nat_all r hr
    intro b
    rw [Bool.and_eq_true, Bool.and_eq_true] at b
    have b1 := eq_of_beq b.1.1
    have b2 := eq_of_beq b.1.2
    have b3 := eq_of_beq b.2
    rw [b1, b2, b3, hc, hn] at a
    exact absurd a (by decide))
  unfold plainFor
  rw [e]
  exact Bool.or_true _
set_option maxRecDepth 100000 in
theorem dk_aaload {c : ByteArray} {p : Nat} (h : bk1 c p 50 = true) : decode c p = .ok (.aaload, 1) := by
  show Except.bind (Except.bind ((Reader.u1 : Decoder Nat) c p) _) _ = _
  rw [dk_1 h]
  show Except.ok (_, p + 1 - p) = _
  rw [Nat.add_sub_cancel_left]
set_option maxRecDepth 100000 in
theorem dk_aastore {c : ByteArray} {p : Nat} (h : bk1 c p 83 = true) : decode c p = .ok (.aastore, 1) := by
  show Except.bind (Except.bind ((Reader.u1 : Decoder Nat) c p) _) _ = _
  rw [dk_1 h]
  show Except.ok (_, p + 1 - p) = _
  rw [Nat.add_sub_cancel_left]
set_option maxRecDepth 100000 in
theorem dk_aload_n_0 {c : ByteArray} {p : Nat} (h : bk1 c p 42 = true) : decode c p = .ok (.aload_n 0, 1) := by
  show Except.bind (Except.bind ((Reader.u1 : Decoder Nat) c p) _) _ = _
  rw [dk_1 h]
  show Except.ok (_, p + 1 - p) = _
  rw [Nat.add_sub_cancel_left]
set_option maxRecDepth 100000 in
theorem dk_aload_n_1 {c : ByteArray} {p : Nat} (h : bk1 c p 43 = true) : decode c p = .ok (.aload_n 1, 1) := by
  show Except.bind (Except.bind ((Reader.u1 : Decoder Nat) c p) _) _ = _
  rw [dk_1 h]
  show Except.ok (_, p + 1 - p) = _
  rw [Nat.add_sub_cancel_left]
set_option maxRecDepth 100000 in
theorem dk_aload_n_2 {c : ByteArray} {p : Nat} (h : bk1 c p 44 = true) : decode c p = .ok (.aload_n 2, 1) := by
  show Except.bind (Except.bind ((Reader.u1 : Decoder Nat) c p) _) _ = _
  rw [dk_1 h]
  show Except.ok (_, p + 1 - p) = _
  rw [Nat.add_sub_cancel_left]
set_option maxRecDepth 100000 in
theorem dk_aload_n_3 {c : ByteArray} {p : Nat} (h : bk1 c p 45 = true) : decode c p = .ok (.aload_n 3, 1) := by
  show Except.bind (Except.bind ((Reader.u1 : Decoder Nat) c p) _) _ = _
  rw [dk_1 h]
  show Except.ok (_, p + 1 - p) = _
  rw [Nat.add_sub_cancel_left]
set_option maxRecDepth 100000 in
theorem dk_arraylength {c : ByteArray} {p : Nat} (h : bk1 c p 190 = true) : decode c p = .ok (.arraylength, 1) := by
  show Except.bind (Except.bind ((Reader.u1 : Decoder Nat) c p) _) _ = _
  rw [dk_1 h]
  show Except.ok (_, p + 1 - p) = _
  rw [Nat.add_sub_cancel_left]
set_option maxRecDepth 100000 in
theorem dk_astore_n_3 {c : ByteArray} {p : Nat} (h : bk1 c p 78 = true) : decode c p = .ok (.astore_n 3, 1) := by
  show Except.bind (Except.bind ((Reader.u1 : Decoder Nat) c p) _) _ = _
  rw [dk_1 h]
  show Except.ok (_, p + 1 - p) = _
  rw [Nat.add_sub_cancel_left]
set_option maxRecDepth 100000 in
theorem dk_baload {c : ByteArray} {p : Nat} (h : bk1 c p 51 = true) : decode c p = .ok (.baload, 1) := by
  show Except.bind (Except.bind ((Reader.u1 : Decoder Nat) c p) _) _ = _
  rw [dk_1 h]
  show Except.ok (_, p + 1 - p) = _
  rw [Nat.add_sub_cancel_left]
set_option maxRecDepth 100000 in
theorem dk_bastore {c : ByteArray} {p : Nat} (h : bk1 c p 84 = true) : decode c p = .ok (.bastore, 1) := by
  show Except.bind (Except.bind ((Reader.u1 : Decoder Nat) c p) _) _ = _
  rw [dk_1 h]
  show Except.ok (_, p + 1 - p) = _
  rw [Nat.add_sub_cancel_left]
set_option maxRecDepth 100000 in
theorem dk_dup {c : ByteArray} {p : Nat} (h : bk1 c p 89 = true) : decode c p = .ok (.dup, 1) := by
  show Except.bind (Except.bind ((Reader.u1 : Decoder Nat) c p) _) _ = _
  rw [dk_1 h]
  show Except.ok (_, p + 1 - p) = _
  rw [Nat.add_sub_cancel_left]
set_option maxRecDepth 100000 in
theorem dk_dup2 {c : ByteArray} {p : Nat} (h : bk1 c p 92 = true) : decode c p = .ok (.dup2, 1) := by
  show Except.bind (Except.bind ((Reader.u1 : Decoder Nat) c p) _) _ = _
  rw [dk_1 h]
  show Except.ok (_, p + 1 - p) = _
  rw [Nat.add_sub_cancel_left]
set_option maxRecDepth 100000 in
theorem dk_i2b {c : ByteArray} {p : Nat} (h : bk1 c p 145 = true) : decode c p = .ok (.i2b, 1) := by
  show Except.bind (Except.bind ((Reader.u1 : Decoder Nat) c p) _) _ = _
  rw [dk_1 h]
  show Except.ok (_, p + 1 - p) = _
  rw [Nat.add_sub_cancel_left]
set_option maxRecDepth 100000 in
theorem dk_i2c {c : ByteArray} {p : Nat} (h : bk1 c p 146 = true) : decode c p = .ok (.i2c, 1) := by
  show Except.bind (Except.bind ((Reader.u1 : Decoder Nat) c p) _) _ = _
  rw [dk_1 h]
  show Except.ok (_, p + 1 - p) = _
  rw [Nat.add_sub_cancel_left]
set_option maxRecDepth 100000 in
theorem dk_i2l {c : ByteArray} {p : Nat} (h : bk1 c p 133 = true) : decode c p = .ok (.i2l, 1) := by
  show Except.bind (Except.bind ((Reader.u1 : Decoder Nat) c p) _) _ = _
  rw [dk_1 h]
  show Except.ok (_, p + 1 - p) = _
  rw [Nat.add_sub_cancel_left]
set_option maxRecDepth 100000 in
theorem dk_i2s {c : ByteArray} {p : Nat} (h : bk1 c p 147 = true) : decode c p = .ok (.i2s, 1) := by
  show Except.bind (Except.bind ((Reader.u1 : Decoder Nat) c p) _) _ = _
  rw [dk_1 h]
  show Except.ok (_, p + 1 - p) = _
  rw [Nat.add_sub_cancel_left]
set_option maxRecDepth 100000 in
theorem dk_iadd {c : ByteArray} {p : Nat} (h : bk1 c p 96 = true) : decode c p = .ok (.iadd, 1) := by
  show Except.bind (Except.bind ((Reader.u1 : Decoder Nat) c p) _) _ = _
  rw [dk_1 h]
  show Except.ok (_, p + 1 - p) = _
  rw [Nat.add_sub_cancel_left]
set_option maxRecDepth 100000 in
theorem dk_iaload {c : ByteArray} {p : Nat} (h : bk1 c p 46 = true) : decode c p = .ok (.iaload, 1) := by
  show Except.bind (Except.bind ((Reader.u1 : Decoder Nat) c p) _) _ = _
  rw [dk_1 h]
  show Except.ok (_, p + 1 - p) = _
  rw [Nat.add_sub_cancel_left]
set_option maxRecDepth 100000 in
theorem dk_iand {c : ByteArray} {p : Nat} (h : bk1 c p 126 = true) : decode c p = .ok (.iand, 1) := by
  show Except.bind (Except.bind ((Reader.u1 : Decoder Nat) c p) _) _ = _
  rw [dk_1 h]
  show Except.ok (_, p + 1 - p) = _
  rw [Nat.add_sub_cancel_left]
set_option maxRecDepth 100000 in
theorem dk_iastore {c : ByteArray} {p : Nat} (h : bk1 c p 79 = true) : decode c p = .ok (.iastore, 1) := by
  show Except.bind (Except.bind ((Reader.u1 : Decoder Nat) c p) _) _ = _
  rw [dk_1 h]
  show Except.ok (_, p + 1 - p) = _
  rw [Nat.add_sub_cancel_left]
set_option maxRecDepth 100000 in
theorem dk_iconst_m {c : ByteArray} {p : Nat} (h : bk1 c p 2 = true) : decode c p = .ok (.iconst (-1), 1) := by
  show Except.bind (Except.bind ((Reader.u1 : Decoder Nat) c p) _) _ = _
  rw [dk_1 h]
  show Except.ok (_, p + 1 - p) = _
  rw [Nat.add_sub_cancel_left]
set_option maxRecDepth 100000 in
theorem dk_iconst_0 {c : ByteArray} {p : Nat} (h : bk1 c p 3 = true) : decode c p = .ok (.iconst 0, 1) := by
  show Except.bind (Except.bind ((Reader.u1 : Decoder Nat) c p) _) _ = _
  rw [dk_1 h]
  show Except.ok (_, p + 1 - p) = _
  rw [Nat.add_sub_cancel_left]
set_option maxRecDepth 100000 in
theorem dk_iconst_1 {c : ByteArray} {p : Nat} (h : bk1 c p 4 = true) : decode c p = .ok (.iconst 1, 1) := by
  show Except.bind (Except.bind ((Reader.u1 : Decoder Nat) c p) _) _ = _
  rw [dk_1 h]
  show Except.ok (_, p + 1 - p) = _
  rw [Nat.add_sub_cancel_left]
set_option maxRecDepth 100000 in
theorem dk_iconst_2 {c : ByteArray} {p : Nat} (h : bk1 c p 5 = true) : decode c p = .ok (.iconst 2, 1) := by
  show Except.bind (Except.bind ((Reader.u1 : Decoder Nat) c p) _) _ = _
  rw [dk_1 h]
  show Except.ok (_, p + 1 - p) = _
  rw [Nat.add_sub_cancel_left]
set_option maxRecDepth 100000 in
theorem dk_iconst_3 {c : ByteArray} {p : Nat} (h : bk1 c p 6 = true) : decode c p = .ok (.iconst 3, 1) := by
  show Except.bind (Except.bind ((Reader.u1 : Decoder Nat) c p) _) _ = _
  rw [dk_1 h]
  show Except.ok (_, p + 1 - p) = _
  rw [Nat.add_sub_cancel_left]
set_option maxRecDepth 100000 in
theorem dk_iconst_4 {c : ByteArray} {p : Nat} (h : bk1 c p 7 = true) : decode c p = .ok (.iconst 4, 1) := by
  show Except.bind (Except.bind ((Reader.u1 : Decoder Nat) c p) _) _ = _
  rw [dk_1 h]
  show Except.ok (_, p + 1 - p) = _
  rw [Nat.add_sub_cancel_left]
set_option maxRecDepth 100000 in
theorem dk_iconst_5 {c : ByteArray} {p : Nat} (h : bk1 c p 8 = true) : decode c p = .ok (.iconst 5, 1) := by
  show Except.bind (Except.bind ((Reader.u1 : Decoder Nat) c p) _) _ = _
  rw [dk_1 h]
  show Except.ok (_, p + 1 - p) = _
  rw [Nat.add_sub_cancel_left]
set_option maxRecDepth 100000 in
theorem dk_idiv {c : ByteArray} {p : Nat} (h : bk1 c p 108 = true) : decode c p = .ok (.idiv, 1) := by
  show Except.bind (Except.bind ((Reader.u1 : Decoder Nat) c p) _) _ = _
  rw [dk_1 h]
  show Except.ok (_, p + 1 - p) = _
  rw [Nat.add_sub_cancel_left]
set_option maxRecDepth 100000 in
theorem dk_iload_n_0 {c : ByteArray} {p : Nat} (h : bk1 c p 26 = true) : decode c p = .ok (.iload_n 0, 1) := by
  show Except.bind (Except.bind ((Reader.u1 : Decoder Nat) c p) _) _ = _
  rw [dk_1 h]
  show Except.ok (_, p + 1 - p) = _
  rw [Nat.add_sub_cancel_left]
set_option maxRecDepth 100000 in
theorem dk_iload_n_1 {c : ByteArray} {p : Nat} (h : bk1 c p 27 = true) : decode c p = .ok (.iload_n 1, 1) := by
  show Except.bind (Except.bind ((Reader.u1 : Decoder Nat) c p) _) _ = _
  rw [dk_1 h]
  show Except.ok (_, p + 1 - p) = _
  rw [Nat.add_sub_cancel_left]
set_option maxRecDepth 100000 in
theorem dk_iload_n_2 {c : ByteArray} {p : Nat} (h : bk1 c p 28 = true) : decode c p = .ok (.iload_n 2, 1) := by
  show Except.bind (Except.bind ((Reader.u1 : Decoder Nat) c p) _) _ = _
  rw [dk_1 h]
  show Except.ok (_, p + 1 - p) = _
  rw [Nat.add_sub_cancel_left]
set_option maxRecDepth 100000 in
theorem dk_iload_n_3 {c : ByteArray} {p : Nat} (h : bk1 c p 29 = true) : decode c p = .ok (.iload_n 3, 1) := by
  show Except.bind (Except.bind ((Reader.u1 : Decoder Nat) c p) _) _ = _
  rw [dk_1 h]
  show Except.ok (_, p + 1 - p) = _
  rw [Nat.add_sub_cancel_left]
set_option maxRecDepth 100000 in
theorem dk_imul {c : ByteArray} {p : Nat} (h : bk1 c p 104 = true) : decode c p = .ok (.imul, 1) := by
  show Except.bind (Except.bind ((Reader.u1 : Decoder Nat) c p) _) _ = _
  rw [dk_1 h]
  show Except.ok (_, p + 1 - p) = _
  rw [Nat.add_sub_cancel_left]
set_option maxRecDepth 100000 in
theorem dk_ineg {c : ByteArray} {p : Nat} (h : bk1 c p 116 = true) : decode c p = .ok (.ineg, 1) := by
  show Except.bind (Except.bind ((Reader.u1 : Decoder Nat) c p) _) _ = _
  rw [dk_1 h]
  show Except.ok (_, p + 1 - p) = _
  rw [Nat.add_sub_cancel_left]
set_option maxRecDepth 100000 in
theorem dk_ior {c : ByteArray} {p : Nat} (h : bk1 c p 128 = true) : decode c p = .ok (.ior, 1) := by
  show Except.bind (Except.bind ((Reader.u1 : Decoder Nat) c p) _) _ = _
  rw [dk_1 h]
  show Except.ok (_, p + 1 - p) = _
  rw [Nat.add_sub_cancel_left]
set_option maxRecDepth 100000 in
theorem dk_irem {c : ByteArray} {p : Nat} (h : bk1 c p 112 = true) : decode c p = .ok (.irem, 1) := by
  show Except.bind (Except.bind ((Reader.u1 : Decoder Nat) c p) _) _ = _
  rw [dk_1 h]
  show Except.ok (_, p + 1 - p) = _
  rw [Nat.add_sub_cancel_left]
set_option maxRecDepth 100000 in
theorem dk_ireturn {c : ByteArray} {p : Nat} (h : bk1 c p 172 = true) : decode c p = .ok (.ireturn, 1) := by
  show Except.bind (Except.bind ((Reader.u1 : Decoder Nat) c p) _) _ = _
  rw [dk_1 h]
  show Except.ok (_, p + 1 - p) = _
  rw [Nat.add_sub_cancel_left]
set_option maxRecDepth 100000 in
theorem dk_ishl {c : ByteArray} {p : Nat} (h : bk1 c p 120 = true) : decode c p = .ok (.ishl, 1) := by
  show Except.bind (Except.bind ((Reader.u1 : Decoder Nat) c p) _) _ = _
  rw [dk_1 h]
  show Except.ok (_, p + 1 - p) = _
  rw [Nat.add_sub_cancel_left]
set_option maxRecDepth 100000 in
theorem dk_ishr {c : ByteArray} {p : Nat} (h : bk1 c p 122 = true) : decode c p = .ok (.ishr, 1) := by
  show Except.bind (Except.bind ((Reader.u1 : Decoder Nat) c p) _) _ = _
  rw [dk_1 h]
  show Except.ok (_, p + 1 - p) = _
  rw [Nat.add_sub_cancel_left]
set_option maxRecDepth 100000 in
theorem dk_istore_n_0 {c : ByteArray} {p : Nat} (h : bk1 c p 59 = true) : decode c p = .ok (.istore_n 0, 1) := by
  show Except.bind (Except.bind ((Reader.u1 : Decoder Nat) c p) _) _ = _
  rw [dk_1 h]
  show Except.ok (_, p + 1 - p) = _
  rw [Nat.add_sub_cancel_left]
set_option maxRecDepth 100000 in
theorem dk_istore_n_1 {c : ByteArray} {p : Nat} (h : bk1 c p 60 = true) : decode c p = .ok (.istore_n 1, 1) := by
  show Except.bind (Except.bind ((Reader.u1 : Decoder Nat) c p) _) _ = _
  rw [dk_1 h]
  show Except.ok (_, p + 1 - p) = _
  rw [Nat.add_sub_cancel_left]
set_option maxRecDepth 100000 in
theorem dk_istore_n_2 {c : ByteArray} {p : Nat} (h : bk1 c p 61 = true) : decode c p = .ok (.istore_n 2, 1) := by
  show Except.bind (Except.bind ((Reader.u1 : Decoder Nat) c p) _) _ = _
  rw [dk_1 h]
  show Except.ok (_, p + 1 - p) = _
  rw [Nat.add_sub_cancel_left]
set_option maxRecDepth 100000 in
theorem dk_istore_n_3 {c : ByteArray} {p : Nat} (h : bk1 c p 62 = true) : decode c p = .ok (.istore_n 3, 1) := by
  show Except.bind (Except.bind ((Reader.u1 : Decoder Nat) c p) _) _ = _
  rw [dk_1 h]
  show Except.ok (_, p + 1 - p) = _
  rw [Nat.add_sub_cancel_left]
set_option maxRecDepth 100000 in
theorem dk_isub {c : ByteArray} {p : Nat} (h : bk1 c p 100 = true) : decode c p = .ok (.isub, 1) := by
  show Except.bind (Except.bind ((Reader.u1 : Decoder Nat) c p) _) _ = _
  rw [dk_1 h]
  show Except.ok (_, p + 1 - p) = _
  rw [Nat.add_sub_cancel_left]
set_option maxRecDepth 100000 in
theorem dk_iushr {c : ByteArray} {p : Nat} (h : bk1 c p 124 = true) : decode c p = .ok (.iushr, 1) := by
  show Except.bind (Except.bind ((Reader.u1 : Decoder Nat) c p) _) _ = _
  rw [dk_1 h]
  show Except.ok (_, p + 1 - p) = _
  rw [Nat.add_sub_cancel_left]
set_option maxRecDepth 100000 in
theorem dk_ixor {c : ByteArray} {p : Nat} (h : bk1 c p 130 = true) : decode c p = .ok (.ixor, 1) := by
  show Except.bind (Except.bind ((Reader.u1 : Decoder Nat) c p) _) _ = _
  rw [dk_1 h]
  show Except.ok (_, p + 1 - p) = _
  rw [Nat.add_sub_cancel_left]
set_option maxRecDepth 100000 in
theorem dk_l2i {c : ByteArray} {p : Nat} (h : bk1 c p 136 = true) : decode c p = .ok (.l2i, 1) := by
  show Except.bind (Except.bind ((Reader.u1 : Decoder Nat) c p) _) _ = _
  rw [dk_1 h]
  show Except.ok (_, p + 1 - p) = _
  rw [Nat.add_sub_cancel_left]
set_option maxRecDepth 100000 in
theorem dk_ladd {c : ByteArray} {p : Nat} (h : bk1 c p 97 = true) : decode c p = .ok (.ladd, 1) := by
  show Except.bind (Except.bind ((Reader.u1 : Decoder Nat) c p) _) _ = _
  rw [dk_1 h]
  show Except.ok (_, p + 1 - p) = _
  rw [Nat.add_sub_cancel_left]
set_option maxRecDepth 100000 in
theorem dk_laload {c : ByteArray} {p : Nat} (h : bk1 c p 47 = true) : decode c p = .ok (.laload, 1) := by
  show Except.bind (Except.bind ((Reader.u1 : Decoder Nat) c p) _) _ = _
  rw [dk_1 h]
  show Except.ok (_, p + 1 - p) = _
  rw [Nat.add_sub_cancel_left]
set_option maxRecDepth 100000 in
theorem dk_land {c : ByteArray} {p : Nat} (h : bk1 c p 127 = true) : decode c p = .ok (.land, 1) := by
  show Except.bind (Except.bind ((Reader.u1 : Decoder Nat) c p) _) _ = _
  rw [dk_1 h]
  show Except.ok (_, p + 1 - p) = _
  rw [Nat.add_sub_cancel_left]
set_option maxRecDepth 100000 in
theorem dk_lastore {c : ByteArray} {p : Nat} (h : bk1 c p 80 = true) : decode c p = .ok (.lastore, 1) := by
  show Except.bind (Except.bind ((Reader.u1 : Decoder Nat) c p) _) _ = _
  rw [dk_1 h]
  show Except.ok (_, p + 1 - p) = _
  rw [Nat.add_sub_cancel_left]
set_option maxRecDepth 100000 in
theorem dk_lcmp {c : ByteArray} {p : Nat} (h : bk1 c p 148 = true) : decode c p = .ok (.lcmp, 1) := by
  show Except.bind (Except.bind ((Reader.u1 : Decoder Nat) c p) _) _ = _
  rw [dk_1 h]
  show Except.ok (_, p + 1 - p) = _
  rw [Nat.add_sub_cancel_left]
set_option maxRecDepth 100000 in
theorem dk_lconst_0 {c : ByteArray} {p : Nat} (h : bk1 c p 9 = true) : decode c p = .ok (.lconst 0, 1) := by
  show Except.bind (Except.bind ((Reader.u1 : Decoder Nat) c p) _) _ = _
  rw [dk_1 h]
  show Except.ok (_, p + 1 - p) = _
  rw [Nat.add_sub_cancel_left]
set_option maxRecDepth 100000 in
theorem dk_lconst_1 {c : ByteArray} {p : Nat} (h : bk1 c p 10 = true) : decode c p = .ok (.lconst 1, 1) := by
  show Except.bind (Except.bind ((Reader.u1 : Decoder Nat) c p) _) _ = _
  rw [dk_1 h]
  show Except.ok (_, p + 1 - p) = _
  rw [Nat.add_sub_cancel_left]
set_option maxRecDepth 100000 in
theorem dk_ldiv {c : ByteArray} {p : Nat} (h : bk1 c p 109 = true) : decode c p = .ok (.ldiv, 1) := by
  show Except.bind (Except.bind ((Reader.u1 : Decoder Nat) c p) _) _ = _
  rw [dk_1 h]
  show Except.ok (_, p + 1 - p) = _
  rw [Nat.add_sub_cancel_left]
set_option maxRecDepth 100000 in
theorem dk_lload_n_0 {c : ByteArray} {p : Nat} (h : bk1 c p 30 = true) : decode c p = .ok (.lload_n 0, 1) := by
  show Except.bind (Except.bind ((Reader.u1 : Decoder Nat) c p) _) _ = _
  rw [dk_1 h]
  show Except.ok (_, p + 1 - p) = _
  rw [Nat.add_sub_cancel_left]
set_option maxRecDepth 100000 in
theorem dk_lload_n_1 {c : ByteArray} {p : Nat} (h : bk1 c p 31 = true) : decode c p = .ok (.lload_n 1, 1) := by
  show Except.bind (Except.bind ((Reader.u1 : Decoder Nat) c p) _) _ = _
  rw [dk_1 h]
  show Except.ok (_, p + 1 - p) = _
  rw [Nat.add_sub_cancel_left]
set_option maxRecDepth 100000 in
theorem dk_lload_n_2 {c : ByteArray} {p : Nat} (h : bk1 c p 32 = true) : decode c p = .ok (.lload_n 2, 1) := by
  show Except.bind (Except.bind ((Reader.u1 : Decoder Nat) c p) _) _ = _
  rw [dk_1 h]
  show Except.ok (_, p + 1 - p) = _
  rw [Nat.add_sub_cancel_left]
set_option maxRecDepth 100000 in
theorem dk_lload_n_3 {c : ByteArray} {p : Nat} (h : bk1 c p 33 = true) : decode c p = .ok (.lload_n 3, 1) := by
  show Except.bind (Except.bind ((Reader.u1 : Decoder Nat) c p) _) _ = _
  rw [dk_1 h]
  show Except.ok (_, p + 1 - p) = _
  rw [Nat.add_sub_cancel_left]
set_option maxRecDepth 100000 in
theorem dk_lmul {c : ByteArray} {p : Nat} (h : bk1 c p 105 = true) : decode c p = .ok (.lmul, 1) := by
  show Except.bind (Except.bind ((Reader.u1 : Decoder Nat) c p) _) _ = _
  rw [dk_1 h]
  show Except.ok (_, p + 1 - p) = _
  rw [Nat.add_sub_cancel_left]
set_option maxRecDepth 100000 in
theorem dk_lneg {c : ByteArray} {p : Nat} (h : bk1 c p 117 = true) : decode c p = .ok (.lneg, 1) := by
  show Except.bind (Except.bind ((Reader.u1 : Decoder Nat) c p) _) _ = _
  rw [dk_1 h]
  show Except.ok (_, p + 1 - p) = _
  rw [Nat.add_sub_cancel_left]
set_option maxRecDepth 100000 in
theorem dk_lrem {c : ByteArray} {p : Nat} (h : bk1 c p 113 = true) : decode c p = .ok (.lrem, 1) := by
  show Except.bind (Except.bind ((Reader.u1 : Decoder Nat) c p) _) _ = _
  rw [dk_1 h]
  show Except.ok (_, p + 1 - p) = _
  rw [Nat.add_sub_cancel_left]
set_option maxRecDepth 100000 in
theorem dk_lreturn {c : ByteArray} {p : Nat} (h : bk1 c p 173 = true) : decode c p = .ok (.lreturn, 1) := by
  show Except.bind (Except.bind ((Reader.u1 : Decoder Nat) c p) _) _ = _
  rw [dk_1 h]
  show Except.ok (_, p + 1 - p) = _
  rw [Nat.add_sub_cancel_left]
set_option maxRecDepth 100000 in
theorem dk_lstore_n_2 {c : ByteArray} {p : Nat} (h : bk1 c p 65 = true) : decode c p = .ok (.lstore_n 2, 1) := by
  show Except.bind (Except.bind ((Reader.u1 : Decoder Nat) c p) _) _ = _
  rw [dk_1 h]
  show Except.ok (_, p + 1 - p) = _
  rw [Nat.add_sub_cancel_left]
set_option maxRecDepth 100000 in
theorem dk_lstore_n_3 {c : ByteArray} {p : Nat} (h : bk1 c p 66 = true) : decode c p = .ok (.lstore_n 3, 1) := by
  show Except.bind (Except.bind ((Reader.u1 : Decoder Nat) c p) _) _ = _
  rw [dk_1 h]
  show Except.ok (_, p + 1 - p) = _
  rw [Nat.add_sub_cancel_left]
set_option maxRecDepth 100000 in
theorem dk_lsub {c : ByteArray} {p : Nat} (h : bk1 c p 101 = true) : decode c p = .ok (.lsub, 1) := by
  show Except.bind (Except.bind ((Reader.u1 : Decoder Nat) c p) _) _ = _
  rw [dk_1 h]
  show Except.ok (_, p + 1 - p) = _
  rw [Nat.add_sub_cancel_left]
set_option maxRecDepth 100000 in
theorem dk_pop {c : ByteArray} {p : Nat} (h : bk1 c p 87 = true) : decode c p = .ok (.pop, 1) := by
  show Except.bind (Except.bind ((Reader.u1 : Decoder Nat) c p) _) _ = _
  rw [dk_1 h]
  show Except.ok (_, p + 1 - p) = _
  rw [Nat.add_sub_cancel_left]
set_option maxRecDepth 100000 in
theorem dk_return {c : ByteArray} {p : Nat} (h : bk1 c p 177 = true) : decode c p = .ok (.return_, 1) := by
  show Except.bind (Except.bind ((Reader.u1 : Decoder Nat) c p) _) _ = _
  rw [dk_1 h]
  show Except.ok (_, p + 1 - p) = _
  rw [Nat.add_sub_cancel_left]
set_option maxRecDepth 100000 in
theorem dk_aload {c : ByteArray} {p n : Nat} (h : bk2 c p 25 n = true) : decode c p = .ok (.aload n, 2) := by
  obtain ⟨a, b⟩ := dk_2 h
  show Except.bind (Except.bind ((Reader.u1 : Decoder Nat) c p) _) _ = _
  rw [a]
  show Except.bind (Except.bind ((Reader.u1 : Decoder Nat) c (p + 1)) _) _ = _
  rw [b]
  show Except.ok (_, p + 1 + 1 - p) = _
  rw [show p + 1 + 1 - p = 2 by omega]
set_option maxRecDepth 100000 in
theorem dk_astore {c : ByteArray} {p n : Nat} (h : bk2 c p 58 n = true) : decode c p = .ok (.astore n, 2) := by
  obtain ⟨a, b⟩ := dk_2 h
  show Except.bind (Except.bind ((Reader.u1 : Decoder Nat) c p) _) _ = _
  rw [a]
  show Except.bind (Except.bind ((Reader.u1 : Decoder Nat) c (p + 1)) _) _ = _
  rw [b]
  show Except.ok (_, p + 1 + 1 - p) = _
  rw [show p + 1 + 1 - p = 2 by omega]
set_option maxRecDepth 100000 in
theorem dk_iload {c : ByteArray} {p n : Nat} (h : bk2 c p 21 n = true) : decode c p = .ok (.iload n, 2) := by
  obtain ⟨a, b⟩ := dk_2 h
  show Except.bind (Except.bind ((Reader.u1 : Decoder Nat) c p) _) _ = _
  rw [a]
  show Except.bind (Except.bind ((Reader.u1 : Decoder Nat) c (p + 1)) _) _ = _
  rw [b]
  show Except.ok (_, p + 1 + 1 - p) = _
  rw [show p + 1 + 1 - p = 2 by omega]
set_option maxRecDepth 100000 in
theorem dk_istore {c : ByteArray} {p n : Nat} (h : bk2 c p 54 n = true) : decode c p = .ok (.istore n, 2) := by
  obtain ⟨a, b⟩ := dk_2 h
  show Except.bind (Except.bind ((Reader.u1 : Decoder Nat) c p) _) _ = _
  rw [a]
  show Except.bind (Except.bind ((Reader.u1 : Decoder Nat) c (p + 1)) _) _ = _
  rw [b]
  show Except.ok (_, p + 1 + 1 - p) = _
  rw [show p + 1 + 1 - p = 2 by omega]
set_option maxRecDepth 100000 in
theorem dk_ldc {c : ByteArray} {p n : Nat} (h : bk2 c p 18 n = true) : decode c p = .ok (.ldc n, 2) := by
  obtain ⟨a, b⟩ := dk_2 h
  show Except.bind (Except.bind ((Reader.u1 : Decoder Nat) c p) _) _ = _
  rw [a]
  show Except.bind (Except.bind ((Reader.u1 : Decoder Nat) c (p + 1)) _) _ = _
  rw [b]
  show Except.ok (_, p + 1 + 1 - p) = _
  rw [show p + 1 + 1 - p = 2 by omega]
set_option maxRecDepth 100000 in
theorem dk_lload {c : ByteArray} {p n : Nat} (h : bk2 c p 22 n = true) : decode c p = .ok (.lload n, 2) := by
  obtain ⟨a, b⟩ := dk_2 h
  show Except.bind (Except.bind ((Reader.u1 : Decoder Nat) c p) _) _ = _
  rw [a]
  show Except.bind (Except.bind ((Reader.u1 : Decoder Nat) c (p + 1)) _) _ = _
  rw [b]
  show Except.ok (_, p + 1 + 1 - p) = _
  rw [show p + 1 + 1 - p = 2 by omega]
set_option maxRecDepth 100000 in
theorem dk_lstore {c : ByteArray} {p n : Nat} (h : bk2 c p 55 n = true) : decode c p = .ok (.lstore n, 2) := by
  obtain ⟨a, b⟩ := dk_2 h
  show Except.bind (Except.bind ((Reader.u1 : Decoder Nat) c p) _) _ = _
  rw [a]
  show Except.bind (Except.bind ((Reader.u1 : Decoder Nat) c (p + 1)) _) _ = _
  rw [b]
  show Except.ok (_, p + 1 + 1 - p) = _
  rw [show p + 1 + 1 - p = 2 by omega]
set_option maxRecDepth 100000 in
theorem dk_anewarray {c : ByteArray} {p n : Nat} (h : bk3 c p 189 n = true) : decode c p = .ok (.anewarray n, 3) := by
  obtain ⟨a, b⟩ := dk_3 h
  show Except.bind (Except.bind ((Reader.u1 : Decoder Nat) c p) _) _ = _
  rw [a]
  show Except.bind (Except.bind ((Reader.u2 : Decoder Nat) c (p + 1)) _) _ = _
  rw [b]
  show Except.ok (_, p + 1 + 1 + 1 - p) = _
  rw [show p + 1 + 1 + 1 - p = 3 by omega]
set_option maxRecDepth 100000 in
theorem dk_getfield {c : ByteArray} {p n : Nat} (h : bk3 c p 180 n = true) : decode c p = .ok (.getfield n, 3) := by
  obtain ⟨a, b⟩ := dk_3 h
  show Except.bind (Except.bind ((Reader.u1 : Decoder Nat) c p) _) _ = _
  rw [a]
  show Except.bind (Except.bind ((Reader.u2 : Decoder Nat) c (p + 1)) _) _ = _
  rw [b]
  show Except.ok (_, p + 1 + 1 + 1 - p) = _
  rw [show p + 1 + 1 + 1 - p = 3 by omega]
set_option maxRecDepth 100000 in
theorem dk_getstatic {c : ByteArray} {p n : Nat} (h : bk3 c p 178 n = true) : decode c p = .ok (.getstatic n, 3) := by
  obtain ⟨a, b⟩ := dk_3 h
  show Except.bind (Except.bind ((Reader.u1 : Decoder Nat) c p) _) _ = _
  rw [a]
  show Except.bind (Except.bind ((Reader.u2 : Decoder Nat) c (p + 1)) _) _ = _
  rw [b]
  show Except.ok (_, p + 1 + 1 + 1 - p) = _
  rw [show p + 1 + 1 + 1 - p = 3 by omega]
set_option maxRecDepth 100000 in
theorem dk_invokespecial {c : ByteArray} {p n : Nat} (h : bk3 c p 183 n = true) : decode c p = .ok (.invokespecial n, 3) := by
  obtain ⟨a, b⟩ := dk_3 h
  show Except.bind (Except.bind ((Reader.u1 : Decoder Nat) c p) _) _ = _
  rw [a]
  show Except.bind (Except.bind ((Reader.u2 : Decoder Nat) c (p + 1)) _) _ = _
  rw [b]
  show Except.ok (_, p + 1 + 1 + 1 - p) = _
  rw [show p + 1 + 1 + 1 - p = 3 by omega]
set_option maxRecDepth 100000 in
theorem dk_invokestatic {c : ByteArray} {p n : Nat} (h : bk3 c p 184 n = true) : decode c p = .ok (.invokestatic n, 3) := by
  obtain ⟨a, b⟩ := dk_3 h
  show Except.bind (Except.bind ((Reader.u1 : Decoder Nat) c p) _) _ = _
  rw [a]
  show Except.bind (Except.bind ((Reader.u2 : Decoder Nat) c (p + 1)) _) _ = _
  rw [b]
  show Except.ok (_, p + 1 + 1 + 1 - p) = _
  rw [show p + 1 + 1 + 1 - p = 3 by omega]
set_option maxRecDepth 100000 in
theorem dk_invokevirtual {c : ByteArray} {p n : Nat} (h : bk3 c p 182 n = true) : decode c p = .ok (.invokevirtual n, 3) := by
  obtain ⟨a, b⟩ := dk_3 h
  show Except.bind (Except.bind ((Reader.u1 : Decoder Nat) c p) _) _ = _
  rw [a]
  show Except.bind (Except.bind ((Reader.u2 : Decoder Nat) c (p + 1)) _) _ = _
  rw [b]
  show Except.ok (_, p + 1 + 1 + 1 - p) = _
  rw [show p + 1 + 1 + 1 - p = 3 by omega]
set_option maxRecDepth 100000 in
theorem dk_ldc2_w {c : ByteArray} {p n : Nat} (h : bk3 c p 20 n = true) : decode c p = .ok (.ldc2_w n, 3) := by
  obtain ⟨a, b⟩ := dk_3 h
  show Except.bind (Except.bind ((Reader.u1 : Decoder Nat) c p) _) _ = _
  rw [a]
  show Except.bind (Except.bind ((Reader.u2 : Decoder Nat) c (p + 1)) _) _ = _
  rw [b]
  show Except.ok (_, p + 1 + 1 + 1 - p) = _
  rw [show p + 1 + 1 + 1 - p = 3 by omega]
set_option maxRecDepth 100000 in
theorem dk_ldc_w {c : ByteArray} {p n : Nat} (h : bk3 c p 19 n = true) : decode c p = .ok (.ldc_w n, 3) := by
  obtain ⟨a, b⟩ := dk_3 h
  show Except.bind (Except.bind ((Reader.u1 : Decoder Nat) c p) _) _ = _
  rw [a]
  show Except.bind (Except.bind ((Reader.u2 : Decoder Nat) c (p + 1)) _) _ = _
  rw [b]
  show Except.ok (_, p + 1 + 1 + 1 - p) = _
  rw [show p + 1 + 1 + 1 - p = 3 by omega]
set_option maxRecDepth 100000 in
theorem dk_new {c : ByteArray} {p n : Nat} (h : bk3 c p 187 n = true) : decode c p = .ok (.new n, 3) := by
  obtain ⟨a, b⟩ := dk_3 h
  show Except.bind (Except.bind ((Reader.u1 : Decoder Nat) c p) _) _ = _
  rw [a]
  show Except.bind (Except.bind ((Reader.u2 : Decoder Nat) c (p + 1)) _) _ = _
  rw [b]
  show Except.ok (_, p + 1 + 1 + 1 - p) = _
  rw [show p + 1 + 1 + 1 - p = 3 by omega]
set_option maxRecDepth 100000 in
theorem dk_putfield {c : ByteArray} {p n : Nat} (h : bk3 c p 181 n = true) : decode c p = .ok (.putfield n, 3) := by
  obtain ⟨a, b⟩ := dk_3 h
  show Except.bind (Except.bind ((Reader.u1 : Decoder Nat) c p) _) _ = _
  rw [a]
  show Except.bind (Except.bind ((Reader.u2 : Decoder Nat) c (p + 1)) _) _ = _
  rw [b]
  show Except.ok (_, p + 1 + 1 + 1 - p) = _
  rw [show p + 1 + 1 + 1 - p = 3 by omega]
set_option maxRecDepth 100000 in
theorem dk_bipush {c : ByteArray} {p : Nat} {n : Int} (h : bkB c p 16 n = true) : decode c p = .ok (.bipush n, 2) := by
  obtain ⟨a, b⟩ := dk_B h
  show Except.bind (Except.bind ((Reader.u1 : Decoder Nat) c p) _) _ = _
  rw [a]
  show Except.bind (Except.bind ((Reader.s1 : Decoder Int) c (p + 1)) _) _ = _
  rw [b]
  show Except.ok (_, p + 1 + 1 - p) = _
  rw [show p + 1 + 1 - p = 2 by omega]
set_option maxRecDepth 100000 in
theorem dk_iinc {c : ByteArray} {p m : Nat} {n : Int} (h : bkI c p 132 m n = true) : decode c p = .ok (.iinc m n, 3) := by
  obtain ⟨a, b, d⟩ := dk_I h
  show Except.bind (Except.bind ((Reader.u1 : Decoder Nat) c p) _) _ = _
  rw [a]
  show Except.bind (Except.bind ((Reader.u1 : Decoder Nat) c (p + 1)) _) _ = _
  rw [b]
  show Except.bind (Except.bind ((Reader.s1 : Decoder Int) c (p + 1 + 1)) _) _ = _
  rw [d]
  show Except.ok (_, p + 1 + 1 + 1 - p) = _
  rw [show p + 1 + 1 + 1 - p = 3 by omega]
set_option maxRecDepth 100000 in
theorem dk_goto {c : ByteArray} {p : Nat} {n : Int} (h : bkS c p 167 n = true) : decode c p = .ok (.goto n, 3) := by
  obtain ⟨a, b⟩ := dk_S h
  show Except.bind (Except.bind ((Reader.u1 : Decoder Nat) c p) _) _ = _
  rw [a]
  show Except.bind (Except.bind ((Reader.s2 : Decoder Int) c (p + 1)) _) _ = _
  rw [b]
  show Except.ok (_, p + 1 + 1 + 1 - p) = _
  rw [show p + 1 + 1 + 1 - p = 3 by omega]
set_option maxRecDepth 100000 in
theorem dk_ifCond_eq {c : ByteArray} {p : Nat} {n : Int} (h : bkS c p 153 n = true) : decode c p = .ok (.ifCond .eq n, 3) := by
  obtain ⟨a, b⟩ := dk_S h
  show Except.bind (Except.bind ((Reader.u1 : Decoder Nat) c p) _) _ = _
  rw [a]
  show Except.bind (Except.bind ((Reader.s2 : Decoder Int) c (p + 1)) _) _ = _
  rw [b]
  show Except.ok (_, p + 1 + 1 + 1 - p) = _
  rw [show p + 1 + 1 + 1 - p = 3 by omega]
set_option maxRecDepth 100000 in
theorem dk_ifCond_ge {c : ByteArray} {p : Nat} {n : Int} (h : bkS c p 156 n = true) : decode c p = .ok (.ifCond .ge n, 3) := by
  obtain ⟨a, b⟩ := dk_S h
  show Except.bind (Except.bind ((Reader.u1 : Decoder Nat) c p) _) _ = _
  rw [a]
  show Except.bind (Except.bind ((Reader.s2 : Decoder Int) c (p + 1)) _) _ = _
  rw [b]
  show Except.ok (_, p + 1 + 1 + 1 - p) = _
  rw [show p + 1 + 1 + 1 - p = 3 by omega]
set_option maxRecDepth 100000 in
theorem dk_ifCond_gt {c : ByteArray} {p : Nat} {n : Int} (h : bkS c p 157 n = true) : decode c p = .ok (.ifCond .gt n, 3) := by
  obtain ⟨a, b⟩ := dk_S h
  show Except.bind (Except.bind ((Reader.u1 : Decoder Nat) c p) _) _ = _
  rw [a]
  show Except.bind (Except.bind ((Reader.s2 : Decoder Int) c (p + 1)) _) _ = _
  rw [b]
  show Except.ok (_, p + 1 + 1 + 1 - p) = _
  rw [show p + 1 + 1 + 1 - p = 3 by omega]
set_option maxRecDepth 100000 in
theorem dk_ifCond_le {c : ByteArray} {p : Nat} {n : Int} (h : bkS c p 158 n = true) : decode c p = .ok (.ifCond .le n, 3) := by
  obtain ⟨a, b⟩ := dk_S h
  show Except.bind (Except.bind ((Reader.u1 : Decoder Nat) c p) _) _ = _
  rw [a]
  show Except.bind (Except.bind ((Reader.s2 : Decoder Int) c (p + 1)) _) _ = _
  rw [b]
  show Except.ok (_, p + 1 + 1 + 1 - p) = _
  rw [show p + 1 + 1 + 1 - p = 3 by omega]
set_option maxRecDepth 100000 in
theorem dk_ifCond_lt {c : ByteArray} {p : Nat} {n : Int} (h : bkS c p 155 n = true) : decode c p = .ok (.ifCond .lt n, 3) := by
  obtain ⟨a, b⟩ := dk_S h
  show Except.bind (Except.bind ((Reader.u1 : Decoder Nat) c p) _) _ = _
  rw [a]
  show Except.bind (Except.bind ((Reader.s2 : Decoder Int) c (p + 1)) _) _ = _
  rw [b]
  show Except.ok (_, p + 1 + 1 + 1 - p) = _
  rw [show p + 1 + 1 + 1 - p = 3 by omega]
set_option maxRecDepth 100000 in
theorem dk_ifCond_ne {c : ByteArray} {p : Nat} {n : Int} (h : bkS c p 154 n = true) : decode c p = .ok (.ifCond .ne n, 3) := by
  obtain ⟨a, b⟩ := dk_S h
  show Except.bind (Except.bind ((Reader.u1 : Decoder Nat) c p) _) _ = _
  rw [a]
  show Except.bind (Except.bind ((Reader.s2 : Decoder Int) c (p + 1)) _) _ = _
  rw [b]
  show Except.ok (_, p + 1 + 1 + 1 - p) = _
  rw [show p + 1 + 1 + 1 - p = 3 by omega]
set_option maxRecDepth 100000 in
theorem dk_if_icmp_eq {c : ByteArray} {p : Nat} {n : Int} (h : bkS c p 159 n = true) : decode c p = .ok (.if_icmp .eq n, 3) := by
  obtain ⟨a, b⟩ := dk_S h
  show Except.bind (Except.bind ((Reader.u1 : Decoder Nat) c p) _) _ = _
  rw [a]
  show Except.bind (Except.bind ((Reader.s2 : Decoder Int) c (p + 1)) _) _ = _
  rw [b]
  show Except.ok (_, p + 1 + 1 + 1 - p) = _
  rw [show p + 1 + 1 + 1 - p = 3 by omega]
set_option maxRecDepth 100000 in
theorem dk_if_icmp_ge {c : ByteArray} {p : Nat} {n : Int} (h : bkS c p 162 n = true) : decode c p = .ok (.if_icmp .ge n, 3) := by
  obtain ⟨a, b⟩ := dk_S h
  show Except.bind (Except.bind ((Reader.u1 : Decoder Nat) c p) _) _ = _
  rw [a]
  show Except.bind (Except.bind ((Reader.s2 : Decoder Int) c (p + 1)) _) _ = _
  rw [b]
  show Except.ok (_, p + 1 + 1 + 1 - p) = _
  rw [show p + 1 + 1 + 1 - p = 3 by omega]
set_option maxRecDepth 100000 in
theorem dk_if_icmp_gt {c : ByteArray} {p : Nat} {n : Int} (h : bkS c p 163 n = true) : decode c p = .ok (.if_icmp .gt n, 3) := by
  obtain ⟨a, b⟩ := dk_S h
  show Except.bind (Except.bind ((Reader.u1 : Decoder Nat) c p) _) _ = _
  rw [a]
  show Except.bind (Except.bind ((Reader.s2 : Decoder Int) c (p + 1)) _) _ = _
  rw [b]
  show Except.ok (_, p + 1 + 1 + 1 - p) = _
  rw [show p + 1 + 1 + 1 - p = 3 by omega]
set_option maxRecDepth 100000 in
theorem dk_if_icmp_le {c : ByteArray} {p : Nat} {n : Int} (h : bkS c p 164 n = true) : decode c p = .ok (.if_icmp .le n, 3) := by
  obtain ⟨a, b⟩ := dk_S h
  show Except.bind (Except.bind ((Reader.u1 : Decoder Nat) c p) _) _ = _
  rw [a]
  show Except.bind (Except.bind ((Reader.s2 : Decoder Int) c (p + 1)) _) _ = _
  rw [b]
  show Except.ok (_, p + 1 + 1 + 1 - p) = _
  rw [show p + 1 + 1 + 1 - p = 3 by omega]
set_option maxRecDepth 100000 in
theorem dk_if_icmp_lt {c : ByteArray} {p : Nat} {n : Int} (h : bkS c p 161 n = true) : decode c p = .ok (.if_icmp .lt n, 3) := by
  obtain ⟨a, b⟩ := dk_S h
  show Except.bind (Except.bind ((Reader.u1 : Decoder Nat) c p) _) _ = _
  rw [a]
  show Except.bind (Except.bind ((Reader.s2 : Decoder Int) c (p + 1)) _) _ = _
  rw [b]
  show Except.ok (_, p + 1 + 1 + 1 - p) = _
  rw [show p + 1 + 1 + 1 - p = 3 by omega]
set_option maxRecDepth 100000 in
theorem dk_if_icmp_ne {c : ByteArray} {p : Nat} {n : Int} (h : bkS c p 160 n = true) : decode c p = .ok (.if_icmp .ne n, 3) := by
  obtain ⟨a, b⟩ := dk_S h
  show Except.bind (Except.bind ((Reader.u1 : Decoder Nat) c p) _) _ = _
  rw [a]
  show Except.bind (Except.bind ((Reader.s2 : Decoder Int) c (p + 1)) _) _ = _
  rw [b]
  show Except.ok (_, p + 1 + 1 + 1 - p) = _
  rw [show p + 1 + 1 + 1 - p = 3 by omega]
set_option maxRecDepth 100000 in
theorem dk_sipush {c : ByteArray} {p : Nat} {n : Int} (h : bkS c p 17 n = true) : decode c p = .ok (.sipush n, 3) := by
  obtain ⟨a, b⟩ := dk_S h
  show Except.bind (Except.bind ((Reader.u1 : Decoder Nat) c p) _) _ = _
  rw [a]
  show Except.bind (Except.bind ((Reader.s2 : Decoder Int) c (p + 1)) _) _ = _
  rw [b]
  show Except.ok (_, p + 1 + 1 + 1 - p) = _
  rw [show p + 1 + 1 + 1 - p = 3 by omega]
