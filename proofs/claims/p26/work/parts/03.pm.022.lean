section
noncomputable def bkB (c : ByteArray) (p o : Nat) (n : Int) : Bool := match c.data.toList.drop p with
  | x :: y :: _ => Nat.beq x.toNat o && decide (Reader.signed 8 y.toNat = n)
  | _ => false
noncomputable def bkI (c : ByteArray) (p o m : Nat) (n : Int) : Bool := match c.data.toList.drop p with
  | x :: y :: z :: _ => Nat.beq x.toNat o && (Nat.beq y.toNat m && decide (Reader.signed 8 z.toNat = n))
  | _ => false
theorem dk_u1 {c : ByteArray} {p : Nat} (h : p < c.size) : (Reader.u1 : Decoder Nat) c p = .ok (c[p].toNat, p + 1) := by
  show (dite (p < c.size) (fun h => (_ : Decoder Nat)) (fun _ => _)) c p = _
  rw [dif_pos h]
  rfl
theorem dk_at {c : ByteArray} {p : Nat} {x : UInt8} {l : List UInt8} (e : c.data.toList.drop p = x :: l) : (Reader.u1 : Decoder Nat) c p = .ok (x.toNat, p + 1) ∧ c.data.toList.drop (p + 1) = l := by
  have hp : p < c.data.toList.length := by
    have := congrArg List.length e
    rw [List.length_drop, List.length_cons] at this
    omega
  have hs : p < c.size := hp
  have e2 : c[p] = c.data.toList[p] := rfl
  have e4 := List.drop_eq_getElem_cons hp
  rw [e] at e4
  injection e4 with a b
  exact ⟨by rw [dk_u1 hs, e2, ← a], b.symm⟩
theorem dk_1 {c : ByteArray} {p o : Nat} (h : bk1 c p o = true) : (Reader.u1 : Decoder Nat) c p = .ok (o, p + 1) := by
  unfold bk1 at h
  split at h
  · cases h
  · rename_i x l e
    rw [(dk_at e).1, Nat.eq_of_beq_eq_true h]
theorem dk_2 {c : ByteArray} {p o n : Nat} (h : bk2 c p o n = true) : (Reader.u1 : Decoder Nat) c p = .ok (o, p + 1) ∧ (Reader.u1 : Decoder Nat) c (p + 1) = .ok (n, p + 1 + 1) := by
  unfold bk2 at h
  split at h
  · rename_i x y l e
    rw [Bool.and_eq_true] at h
    obtain ⟨a, b⟩ := dk_at e
    exact ⟨by rw [a, Nat.eq_of_beq_eq_true h.1], by rw [(dk_at b).1, Nat.eq_of_beq_eq_true h.2]⟩
  · cases h
theorem dk_u2 {c : ByteArray} {p a b : Nat} (h1 : (Reader.u1 : Decoder Nat) c p = .ok (a, p + 1)) (h2 : (Reader.u1 : Decoder Nat) c (p + 1) = .ok (b, p + 1 + 1)) : (Reader.u2 : Decoder Nat) c p = .ok (a * 256 + b, p + 1 + 1) := by
  show Except.bind ((Reader.u1 : Decoder Nat) c p) _ = _
  rw [h1]
  show Except.bind ((Reader.u1 : Decoder Nat) c (p + 1)) _ = _
  rw [h2]
  rfl
theorem dk_3 {c : ByteArray} {p o n : Nat} (h : bk3 c p o n = true) : (Reader.u1 : Decoder Nat) c p = .ok (o, p + 1) ∧ (Reader.u2 : Decoder Nat) c (p + 1) = .ok (n, p + 1 + 1 + 1) := by
  unfold bk3 at h
  split at h
  · rename_i x y z l e
    rw [Bool.and_eq_true] at h
    obtain ⟨a, b⟩ := dk_at e
    obtain ⟨a2, b2⟩ := dk_at b
    exact ⟨by rw [a, Nat.eq_of_beq_eq_true h.1], by rw [dk_u2 a2 (dk_at b2).1, Nat.eq_of_beq_eq_true h.2]⟩
  · cases h
theorem dk_S {c : ByteArray} {p o : Nat} {n : Int} (h : bkS c p o n = true) : (Reader.u1 : Decoder Nat) c p = .ok (o, p + 1) ∧ (Reader.s2 : Decoder Int) c (p + 1) = .ok (n, p + 1 + 1 + 1) := by
  unfold bkS at h
  split at h
  · rename_i x y z l e
    rw [Bool.and_eq_true] at h
    obtain ⟨a, b⟩ := dk_at e
    obtain ⟨a2, b2⟩ := dk_at b
    refine ⟨by rw [a, Nat.eq_of_beq_eq_true h.1], ?_⟩
    show Except.bind ((Reader.u2 : Decoder Nat) c (p + 1)) _ = _
    rw [dk_u2 a2 (dk_at b2).1, ← of_decide_eq_true h.2]
    rfl
  · cases h
theorem dk_B {c : ByteArray} {p o : Nat} {n : Int} (h : bkB c p o n = true) : (Reader.u1 : Decoder Nat) c p = .ok (o, p + 1) ∧ (Reader.s1 : Decoder Int) c (p + 1) = .ok (n, p + 1 + 1) := by
  unfold bkB at h
  split at h
  · rename_i x y l e
    rw [Bool.and_eq_true] at h
    obtain ⟨a, b⟩ := dk_at e
    refine ⟨by rw [a, Nat.eq_of_beq_eq_true h.1], ?_⟩
    show Except.bind ((Reader.u1 : Decoder Nat) c (p + 1)) _ = _
    rw [(dk_at b).1, ← of_decide_eq_true h.2]
    rfl
  · cases h
theorem dk_I {c : ByteArray} {p o m : Nat} {n : Int} (h : bkI c p o m n = true) : (Reader.u1 : Decoder Nat) c p = .ok (o, p + 1) ∧ (Reader.u1 : Decoder Nat) c (p + 1) = .ok (m, p + 1 + 1) ∧ (Reader.s1 : Decoder Int) c (p + 1 + 1) = .ok (n, p + 1 + 1 + 1) := by
  unfold bkI at h
  split at h
  · rename_i x y z l e
    rw [Bool.and_eq_true, Bool.and_eq_true] at h
    obtain ⟨a, b⟩ := dk_at e
    obtain ⟨a2, b2⟩ := dk_at b
    refine ⟨by rw [a, Nat.eq_of_beq_eq_true h.1], by rw [a2, Nat.eq_of_beq_eq_true h.2.1], ?_⟩
    show Except.bind ((Reader.u1 : Decoder Nat) c (p + 1 + 1)) _ = _
    rw [(dk_at b2).1, ← of_decide_eq_true h.2.2]
    rfl
  · cases h
/-! Math: no rows of natives (read by rowdec.py) -/
noncomputable def natB (n d : String) : Bool := (n == "abs" && (d == "(I)I" || d == "(J)J")) || ((n == "max" || n == "min") && d == "(II)I")
theorem nat_all : Jvm.natives.all (fun r => !(r.cls == "java/lang/Math") || !(natB r.name r.desc)) = true := by decide +kernel
theorem nat_pf {y : MethodName} (hc : y.cls = "java/lang/Math") (hn : natB y.name y.desc = true) : plainFor y = true := by
  have e : NativeRow.find? Jvm.natives y.cls y.name y.desc = none := List.find?_eq_none.mpr (fun r hr => by
    have a := List.all_eq_true.mp nat_all r hr
    intro b
    rw [Bool.and_eq_true, Bool.and_eq_true] at b
    have b1 := eq_of_beq b.1.1
    have b2 := eq_of_beq b.1.2
    have b3 := eq_of_beq b.2
    rw [b1, b2, b3, hc, hn] at a
    exact absurd a (by decide))
  unfold plainFor
  rw [e]
  exact Bool.or_true _
set_option maxRecDepth 100000 in
theorem dk_aaload {c : ByteArray} {p : Nat} (h : bk1 c p 50 = true) : decode c p = .ok (.aaload, 1) := by
  show Except.bind (Except.bind ((Reader.u1 : Decoder Nat) c p) _) _ = _
  rw [dk_1 h]
  show Except.ok (_, p + 1 - p) = _
  rw [Nat.add_sub_cancel_left]
set_option maxRecDepth 100000 in
theorem dk_aastore {c : ByteArray} {p : Nat} (h : bk1 c p 83 = true) : decode c p = .ok (.aastore, 1) := by
  show Except.bind (Except.bind ((Reader.u1 : Decoder Nat) c p) _) _ = _
  rw [dk_1 h]
  show Except.ok (_, p + 1 - p) = _
  rw [Nat.add_sub_cancel_left]
set_option maxRecDepth 100000 in
theorem dk_aload_n_0 {c : ByteArray} {p : Nat} (h : bk1 c p 42 = true) : decode c p = .ok (.aload_n 0, 1) := by
  show Except.bind (Except.bind ((Reader.u1 : Decoder Nat) c p) _) _ = _
  rw [dk_1 h]
  show Except.ok (_, p + 1 - p) = _
  rw [Nat.add_sub_cancel_left]
set_option maxRecDepth 100000 in
theorem dk_aload_n_1 {c : ByteArray} {p : Nat} (h : bk1 c p 43 = true) : decode c p = .ok (.aload_n 1, 1) := by
  show Except.bind (Except.bind ((Reader.u1 : Decoder Nat) c p) _) _ = _
  rw [dk_1 h]
  show Except.ok (_, p + 1 - p) = _
  rw [Nat.add_sub_cancel_left]
end
