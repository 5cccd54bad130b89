/-! THE EXECUTOR (second writing), part 7: one number, longs, branches, switches -/
section AIB
variable {w : AW}
/-- the value stays, its kind too -/
theorem i2b_id {x : Int32} (h1 : -128 ≤ x.toInt) (h2 : x.toInt ≤ 127) : x.toInt8.toInt32.toInt = x.toInt := by
  rw [Int8.toInt_toInt32, Int32.toInt_toInt8]
  unfold Int.bmod
  have e : ((2 ^ 8 : Nat) : Int) = 256 := rfl
  simp only [e]
  split <;> omega
theorem i2b_rg (x : Int32) : -128 ≤ x.toInt8.toInt32.toInt ∧ x.toInt8.toInt32.toInt ≤ 127 := by
  rw [Int8.toInt_toInt32]
  have h1 := Int8.le_toInt x.toInt8
  have h2 := Int8.toInt_lt x.toInt8
  omega
theorem i2s_id {x : Int32} (h1 : -32768 ≤ x.toInt) (h2 : x.toInt ≤ 32767) : x.toInt16.toInt32.toInt = x.toInt := by
  rw [Int16.toInt_toInt32, Int32.toInt_toInt16]
  unfold Int.bmod
  have e : ((2 ^ 16 : Nat) : Int) = 65536 := rfl
  simp only [e]
  split <;> omega
theorem i2s_rg (x : Int32) : -32768 ≤ x.toInt16.toInt32.toInt ∧ x.toInt16.toInt32.toInt ≤ 32767 := by
  rw [Int16.toInt_toInt32]
  have h1 := Int16.le_toInt x.toInt16
  have h2 := Int16.toInt_lt x.toInt16
  omega
noncomputable def a_nar (a b : Int) (n : Nat) : AS → Option (List AS) := fun A => match A.2.2.1 with
  | .inl (k, o) :: st => match iv_rng A.2.2.2.1 k o with
    | some (l, u) => bif decide (a ≤ l) && decide (u ≤ b) then some [(n, A.2.1, .inl (k, o) :: st, A.2.2.2)] else some [a_pi n A.2.1 st A.2.2.2.1 A.2.2.2.2 a b]
    | none => none
  | _ => none
theorem a_nar_ok {op : Int32 → Int32} {a b : Int} (n : Nat) (hid : ∀ x : Int32, a ≤ x.toInt → x.toInt ≤ b → (op x).toInt = x.toInt) (hrg : ∀ x : Int32, a ≤ (op x).toInt ∧ (op x).toInt ≤ b) : ai_ok w (s_un op n) (a_nar a b n) := by
  rintro E ⟨pc, lv, st, iv, ex⟩ ⟨pc', cl, cs, W⟩ As ⟨ρ, g1, g2, g3, g4, g5⟩ h
  simp only [a_nar] at h
  split at h
  · rename_i k o st'
    split at h
    · rename_i l u r
      obtain ⟨v, cs, rfl, ha, hr⟩ := f2_cons g4
      obtain ⟨x, rfl, ha⟩ := av_int ha
      have b1 := iv_rng_ok g1 ha r
      cases hb : (decide (a ≤ l) && decide (u ≤ b)) with
      | true =>
        rw [hb] at h
        cases h
        simp only [Bool.and_eq_true, decide_eq_true_eq] at hb
        refine ⟨(n, cl, .int (op x) :: cs, W), rfl, _, List.mem_singleton_self _, ρ, g1, rfl, g3, ⟨?_, hr⟩, g5⟩
        show av_ev iv.length ρ k o (op x).toInt
        rw [hid x (by omega) (by omega)]
        exact ha
      | false =>
        rw [hb] at h
        cases h
        exact ⟨(n, cl, .int (op x) :: cs, W), rfl, _, List.mem_singleton_self _, a_pi_ok (st := st') (pc := pc) (pc' := pc') ⟨g1, g2, g3, hr, g5⟩ (hrg x).1 (hrg x).2⟩
    · cases h
  · cases h
theorem a_i2b_ok (n : Nat) : ai_ok w (s_un (fun x => x.toInt8.toInt32) n) (a_nar (-128) 127 n) := a_nar_ok n (fun _ => i2b_id) i2b_rg
theorem a_i2s_ok (n : Nat) : ai_ok w (s_un (fun x => x.toInt16.toInt32) n) (a_nar (-32768) 32767 n) := a_nar_ok n (fun _ => i2s_id) i2s_rg
theorem i2c_nat (x : Int32) : ((x.toUInt32 % 65536).toInt32).toBitVec.toNat = x.toBitVec.toNat % 65536 := rfl
theorem i2c_id {x : Int32} (h1 : 0 ≤ x.toInt) (h2 : x.toInt ≤ 65535) : ((x.toUInt32 % 65536).toInt32).toInt = x.toInt := by
  obtain ⟨e, l⟩ := ai_nn h1
  have hn := i2c_nat x
  rw [ai_of (by omega), hn, e]
  omega
theorem i2c_rg (x : Int32) : 0 ≤ ((x.toUInt32 % 65536).toInt32).toInt ∧ ((x.toUInt32 % 65536).toInt32).toInt ≤ 65535 := by
  have hn := i2c_nat x
  rw [ai_of (by omega), hn]
  omega
theorem a_i2c_ok (n : Nat) : ai_ok w (s_un (fun x => (x.toUInt32 % 65536).toInt32) n) (a_nar 0 65535 n) := a_nar_ok n (fun _ => i2c_id) i2c_rg
noncomputable def a_neg (n : Nat) : AS → Option (List AS) := fun A => match A.2.2.1 with
  | .inl (k, o) :: st => match iv_rng A.2.2.2.1 k o with
    | some (l, u) => some [a_pi n A.2.1 st A.2.2.2.1 A.2.2.2.2 (ai_bnd (-u) (-l)).1 (ai_bnd (-u) (-l)).2]
    | none => none
  | _ => none
theorem a_neg_ok (n : Nat) : ai_ok w (s_un (fun x => -x) n) (a_neg n) := by
  rintro E ⟨pc, lv, st, iv, ex⟩ ⟨pc', cl, cs, W⟩ As ⟨ρ, g1, g2, g3, g4, g5⟩ h
  simp only [a_neg] at h
  split at h
  · rename_i k o st'
    split at h
    · rename_i l u r
      cases h
      obtain ⟨v, cs, rfl, ha, hr⟩ := f2_cons g4
      obtain ⟨x, rfl, ha⟩ := av_int ha
      have b1 := iv_rng_ok g1 ha r
      have hq := ai_bnd_ok (z := -x) (lo := -u) (hi := -l) (fun hb => by
        have := ai_in_ok hb
        rw [Int32.toInt_neg, ai_bmod (by omega) (by omega)]
        omega)
      exact ⟨(n, cl, .int (-x) :: cs, W), rfl, _, List.mem_singleton_self _, a_pi_ok (st := st') (pc := pc) (pc' := pc') ⟨g1, g2, g3, hr, g5⟩ hq.1 hq.2⟩
    · cases h
  · cases h
/-- longs -/
noncomputable def a_i2l (n : Nat) : AS → Option (List AS) := fun A => match A.2.2.1 with
  | .inl (k, o) :: st => some [(n, A.2.1, .inr (.inl (k, o)) :: st, A.2.2.2)]
  | _ => none
theorem a_i2l_ok (n : Nat) : ai_ok w (s_i2l n) (a_i2l n) := by
  rintro E ⟨pc, lv, st, iv, ex⟩ ⟨pc', cl, cs, W⟩ As ⟨ρ, g1, g2, g3, g4, g5⟩ h
  simp only [a_i2l] at h
  split at h
  · rename_i k o st'
    cases h
    obtain ⟨v, cs, rfl, ha, hr⟩ := f2_cons g4
    obtain ⟨x, rfl, ha⟩ := av_int ha
    refine ⟨(n, cl, .long x.toInt64 :: cs, W), rfl, _, List.mem_singleton_self _, ρ, g1, rfl, g3, ⟨?_, hr⟩, g5⟩
    show av_ev iv.length ρ k o x.toInt64.toInt
    rw [Int32.toInt_toInt64]
    exact ha
  · cases h
noncomputable def a_l2i (n : Nat) : AS → Option (List AS) := fun A => match A.2.2.1 with
  | .inr (.inl (k, o)) :: st => match iv_rng A.2.2.2.1 k o with
    | some (l, u) => bif ai_in l u then some [(n, A.2.1, .inl (k, o) :: st, A.2.2.2)] else some [a_pi n A.2.1 st A.2.2.2.1 A.2.2.2.2 (-2147483648) 2147483647]
    | none => none
  | _ => none
theorem a_l2i_ok (n : Nat) : ai_ok w (s_l2i n) (a_l2i n) := by
  rintro E ⟨pc, lv, st, iv, ex⟩ ⟨pc', cl, cs, W⟩ As ⟨ρ, g1, g2, g3, g4, g5⟩ h
  simp only [a_l2i] at h
  split at h
  · rename_i k o st'
    split at h
    · rename_i l u r
      obtain ⟨v, cs, rfl, ha, hr⟩ := f2_cons g4
      obtain ⟨x, rfl, ha⟩ := av_long ha
      have b1 := iv_rng_ok g1 ha r
      cases hb : ai_in l u with
      | true =>
        rw [hb] at h
        cases h
        have := ai_in_ok hb
        refine ⟨(n, cl, .int x.toInt32 :: cs, W), rfl, _, List.mem_singleton_self _, ρ, g1, rfl, g3, ⟨?_, hr⟩, g5⟩
        show av_ev iv.length ρ k o x.toInt32.toInt
        rw [Int64.toInt_toInt32, ai_bmod (by omega) (by omega)]
        exact ha
      | false =>
        rw [hb] at h
        cases h
        exact ⟨(n, cl, .int x.toInt32 :: cs, W), rfl, _, List.mem_singleton_self _, a_pi_ok (st := st') (pc := pc) (pc' := pc') ⟨g1, g2, g3, hr, g5⟩ (ai_lo _) (ai_hi _)⟩
    · cases h
  · cases h
/-- two longs: by bounds; a known one added or taken away moves the offset -/
noncomputable def lo_ok (op : Int64 → Int64 → Int64) (f : Int → Int → Int → Int → Int × Int) : Prop := ∀ (x y : Int64) (l1 u1 l2 u2 : Int), l1 ≤ x.toInt → x.toInt ≤ u1 → l2 ≤ y.toInt → y.toInt ≤ u2 → (f l1 u1 l2 u2).1 ≤ (op x y).toInt ∧ (op x y).toInt ≤ (f l1 u1 l2 u2).2
noncomputable def a_lbin (f : Int → Int → Int → Int → Int × Int) (n : Nat) : AS → Option (List AS) := fun A => match A.2.2.1 with
  | .inr (.inl (k2, o2)) :: .inr (.inl (k1, o1)) :: st => match iv_rng A.2.2.2.1 k1 o1, iv_rng A.2.2.2.1 k2 o2 with
    | some (l1, u1), some (l2, u2) => some [a_pl n A.2.1 st A.2.2.2.1 A.2.2.2.2 (f l1 u1 l2 u2).1 (f l1 u1 l2 u2).2]
    | _, _ => none
  | _ => none
theorem a_lbin_ok {op : Int64 → Int64 → Int64} {f : Int → Int → Int → Int → Int × Int} (n : Nat) (hf : lo_ok op f) : ai_ok w (s_lbin op n) (a_lbin f n) := by
  rintro E ⟨pc, lv, st, iv, ex⟩ ⟨pc', cl, cs, W⟩ As ⟨ρ, g1, g2, g3, g4, g5⟩ h
  simp only [a_lbin] at h
  split at h
  · rename_i k2 o2 k1 o1 st'
    split at h
    · rename_i l1 u1 l2 u2 r1 r2
      cases h
      obtain ⟨v, cs, rfl, ha, hr0⟩ := f2_cons g4
      obtain ⟨u, cs, rfl, hc, hr⟩ := f2_cons hr0
      obtain ⟨y, rfl, ha⟩ := av_long ha
      obtain ⟨x, rfl, hc⟩ := av_long hc
      have b1 := iv_rng_ok g1 hc r1
      have b2 := iv_rng_ok g1 ha r2
      have hq := hf x y l1 u1 l2 u2 b1.1 b1.2 b2.1 b2.2
      exact ⟨(n, cl, .long (op x y) :: cs, W), rfl, _, List.mem_singleton_self _, a_pl_ok (st := st') (pc := pc) (pc' := pc') ⟨g1, g2, g3, hr, g5⟩ hq.1 hq.2⟩
    · cases h
  · cases h
noncomputable def fl_top (_ _ _ _ : Int) : Int × Int := (-9223372036854775808, 9223372036854775807)
theorem fl_top_ok (op : Int64 → Int64 → Int64) : lo_ok op fl_top := fun _ _ _ _ _ _ _ _ _ _ => ⟨al_lo _, al_hi _⟩
noncomputable def fl_mul (l1 u1 l2 u2 : Int) : Int × Int := al_bnd (mn4 (l1 * l2) (l1 * u2) (u1 * l2) (u1 * u2)) (mx4 (l1 * l2) (l1 * u2) (u1 * l2) (u1 * u2))
theorem fl_mul_ok : lo_ok (fun x y => x * y) fl_mul := by
  intro x y l1 u1 l2 u2 h1 h2 h3 h4
  have hm := mul_rg h1 h2 h3 h4
  refine al_bnd_ok (fun hb => ?_)
  have hi := al_in_ok hb
  show _ ≤ (x * y).toInt ∧ (x * y).toInt ≤ _
  rw [al_mul (by omega) (by omega)]
  exact hm
noncomputable def fl_add (l1 u1 l2 u2 : Int) : Int × Int := al_bnd (l1 + l2) (u1 + u2)
theorem fl_add_ok : lo_ok (fun x y => x + y) fl_add := by
  intro x y l1 u1 l2 u2 h1 h2 h3 h4
  refine al_bnd_ok (fun hb => ?_)
  have hi := al_in_ok hb
  show _ ≤ (x + y).toInt ∧ (x + y).toInt ≤ _
  rw [al_add (by omega) (by omega)]
  omega
noncomputable def fl_sub (l1 u1 l2 u2 : Int) : Int × Int := al_bnd (l1 - u2) (u1 - l2)
theorem fl_sub_ok : lo_ok (fun x y => x - y) fl_sub := by
  intro x y l1 u1 l2 u2 h1 h2 h3 h4
  refine al_bnd_ok (fun hb => ?_)
  have hi := al_in_ok hb
  show _ ≤ (x - y).toInt ∧ (x - y).toInt ≤ _
  rw [al_sub (by omega) (by omega)]
  omega
noncomputable def ld_ok (op : Int64 → Int64 → Int64) (f : Int → Int → Int → Int → Int × Int) : Prop := ∀ (x y : Int64) (l1 u1 l2 u2 : Int), 0 < l2 → l1 ≤ x.toInt → x.toInt ≤ u1 → l2 ≤ y.toInt → y.toInt ≤ u2 → (f l1 u1 l2 u2).1 ≤ (op x y).toInt ∧ (op x y).toInt ≤ (f l1 u1 l2 u2).2
noncomputable def a_ldiv (f : Int → Int → Int → Int → Int × Int) (n : Nat) : AS → Option (List AS) := fun A => match A.2.2.1 with
  | .inr (.inl (k2, o2)) :: .inr (.inl (k1, o1)) :: st => match iv_rng A.2.2.2.1 k1 o1, iv_rng A.2.2.2.1 k2 o2 with
    | some (l1, u1), some (l2, u2) => bif decide (0 < l2) then some [a_pl n A.2.1 st A.2.2.2.1 A.2.2.2.2 (f l1 u1 l2 u2).1 (f l1 u1 l2 u2).2] else (bif decide (u2 < 0) then some [a_pl n A.2.1 st A.2.2.2.1 A.2.2.2.2 (-9223372036854775808) 9223372036854775807] else none)
    | _, _ => none
  | _ => none
theorem a_ldiv_ok {op : Int64 → Int64 → Int64} {f : Int → Int → Int → Int → Int × Int} (n : Nat) (hf : ld_ok op f) : ai_ok w (s_ldiv op n) (a_ldiv f n) := by
  rintro E ⟨pc, lv, st, iv, ex⟩ ⟨pc', cl, cs, W⟩ As ⟨ρ, g1, g2, g3, g4, g5⟩ h
  simp only [a_ldiv] at h
  split at h
  · rename_i k2 o2 k1 o1 st'
    split at h
    · rename_i l1 u1 l2 u2 r1 r2
      obtain ⟨v, cs, rfl, ha, hr0⟩ := f2_cons g4
      obtain ⟨u, cs, rfl, hc, hr⟩ := f2_cons hr0
      obtain ⟨y, rfl, ha⟩ := av_long ha
      obtain ⟨x, rfl, hc⟩ := av_long hc
      have b1 := iv_rng_ok g1 hc r1
      have b2 := iv_rng_ok g1 ha r2
      have z : (0 : Int64).toInt = 0 := rfl
      cases hb : decide (0 < l2) with
      | true =>
        rw [hb] at h
        have hb := of_decide_eq_true hb
        cases h
        have hq := hf x y l1 u1 l2 u2 hb b1.1 b1.2 b2.1 b2.2
        have hy : ¬ y = 0 := by intro e; subst e; omega
        exact ⟨(n, cl, .long (op x y) :: cs, W), by simp only [s_ldiv, if_neg hy], _, List.mem_singleton_self _, a_pl_ok (st := st') (pc := pc) (pc' := pc') ⟨g1, g2, g3, hr, g5⟩ hq.1 hq.2⟩
      | false =>
        rw [hb, cond_false] at h
        cases hd : decide (u2 < 0) with
        | false => rw [hd] at h; cases h
        | true =>
          rw [hd] at h
          cases h
          have hd := of_decide_eq_true hd
          have hy : ¬ y = 0 := by intro e; subst e; omega
          exact ⟨(n, cl, .long (op x y) :: cs, W), by simp only [s_ldiv, if_neg hy], _, List.mem_singleton_self _, a_pl_ok (st := st') (pc := pc) (pc' := pc') ⟨g1, g2, g3, hr, g5⟩ (al_lo _) (al_hi _)⟩
    · cases h
  · cases h
theorem ld_top_ok (op : Int64 → Int64 → Int64) : ld_ok op fl_top := fun _ _ _ _ _ _ _ _ _ _ _ => ⟨al_lo _, al_hi _⟩
noncomputable def a_lneg (n : Nat) : AS → Option (List AS) := fun A => match A.2.2.1 with
  | .inr (.inl (k, o)) :: st => match iv_rng A.2.2.2.1 k o with
    | some (l, u) => some [a_pl n A.2.1 st A.2.2.2.1 A.2.2.2.2 (al_bnd (-u) (-l)).1 (al_bnd (-u) (-l)).2]
    | none => none
  | _ => none
theorem a_lneg_ok (n : Nat) : ai_ok w (s_lun (fun x => -x) n) (a_lneg n) := by
  rintro E ⟨pc, lv, st, iv, ex⟩ ⟨pc', cl, cs, W⟩ As ⟨ρ, g1, g2, g3, g4, g5⟩ h
  simp only [a_lneg] at h
  split at h
  · rename_i k o st'
    split at h
    · rename_i l u r
      cases h
      obtain ⟨v, cs, rfl, ha, hr⟩ := f2_cons g4
      obtain ⟨x, rfl, ha⟩ := av_long ha
      have b1 := iv_rng_ok g1 ha r
      have hq := al_bnd_ok (z := -x) (lo := -u) (hi := -l) (fun hb => by
        have := al_in_ok hb
        rw [Int64.toInt_neg, al_bmod (by omega) (by omega)]
        omega)
      exact ⟨(n, cl, .long (-x) :: cs, W), rfl, _, List.mem_singleton_self _, a_pl_ok (st := st') (pc := pc) (pc' := pc') ⟨g1, g2, g3, hr, g5⟩ hq.1 hq.2⟩
    · cases h
  · cases h
/-- a comparison taken in: 0 eq, 1 ne, 2 lt, 3 ge, 4 gt, 5 le -/
noncomputable def ic (c : Nat) (x y : Int) : Bool := match c with
  | 0 => decide (x = y)
  | 1 => decide (¬ x = y)
  | 2 => decide (x < y)
  | 3 => decide (y ≤ x)
  | 4 => decide (y < x)
  | _ => decide (x ≤ y)
noncomputable def br (c : Nat) (n : Nat) (lv : List (Nat × AV)) (st : List AV) (iv : IV) (ex : AX) (k1 : Option Nat) (o1 : Int) (k2 : Option Nat) (o2 : Int) : Option AS := match c with
  | 0 => match br_le iv ex.2.1 k1 o1 k2 o2 with
    | some (iv, cs) => match br_le iv cs k2 o2 k1 o1 with
      | some (iv, cs) => some (n, lv, st, iv, ex.1, cs, ex.2.2)
      | none => none
    | none => none
  | 1 => match br_ne iv k1 o1 k2 o2 with
    | some iv => some (n, lv, st, iv, ex)
    | none => none
  | 2 => match br_le iv ex.2.1 k1 (o1 + 1) k2 o2 with
    | some (iv, cs) => some (n, lv, st, iv, ex.1, cs, ex.2.2)
    | none => none
  | 3 => match br_le iv ex.2.1 k2 o2 k1 o1 with
    | some (iv, cs) => some (n, lv, st, iv, ex.1, cs, ex.2.2)
    | none => none
  | 4 => match br_le iv ex.2.1 k2 (o2 + 1) k1 o1 with
    | some (iv, cs) => some (n, lv, st, iv, ex.1, cs, ex.2.2)
    | none => none
  | _ => match br_le iv ex.2.1 k1 o1 k2 o2 with
    | some (iv, cs) => some (n, lv, st, iv, ex.1, cs, ex.2.2)
    | none => none
theorem br_ok {E : AEnv} {ρ : Nat → Int} {pc n : Nat} {lv : List (Nat × AV)} {st : List AV} {iv : IV} {ex : AX} {pc' : Nat} {cl : List (Nat × Value)} {cs : List Value} {W : pm_H × Nat × Nat} {k1 k2 : Option Nat} {o1 o2 x y : Int} (c : Nat) (g : as_r w E ρ (pc, lv, st, iv, ex) (pc', cl, cs, W)) (hx : av_ev iv.length ρ k1 o1 x) (hy : av_ev iv.length ρ k2 o2 y) (h : ic c x y = true) :
    ∃ B, br c n lv st iv ex k1 o1 k2 o2 = some B ∧ as_r w E ρ B (n, cl, cs, W) := by
  have base : ∀ iv' cs', iv'.length = iv.length → ia_g E ρ iv' → (∀ c ∈ cs', con_g iv.length ρ c) → as_r w E ρ (n, lv, st, iv', ex.1, cs', ex.2.2) (n, cl, cs, W) := by
    intro iv' cs' hl hi hc
    obtain ⟨q1, q2, q3, q4, q5⟩ := as_iv g hl hi
    exact ⟨q1, rfl, q3, q4, q5.1, q5.2.1, (by show ∀ c ∈ cs', con_g iv'.length ρ c; rw [hl]; exact hc), q5.2.2.2⟩
  obtain ⟨g1, g2, g3, g4, g5⟩ := id g
  dsimp only at g1 g5
  have one : ∀ {ka kb : Option Nat} {oa ob u v : Int}, av_ev iv.length ρ ka oa u → av_ev iv.length ρ kb ob v → u ≤ v → ∃ q : IV × List Con, br_le iv ex.2.1 ka oa kb ob = some q ∧ as_r w E ρ (n, lv, st, q.1, ex.1, q.2, ex.2.2) (n, cl, cs, W) := by
    intro ka kb oa ob u v hu hv huv
    obtain ⟨q, e, l, i, cc⟩ := br_le_ok g1 g5.2.2.1 hu hv huv
    exact ⟨q, e, base q.1 q.2 l i cc⟩
  match c, h with
  | 0, h =>
    have h : x = y := of_decide_eq_true h
    obtain ⟨q, e, l, i, cc⟩ := br_le_ok g1 g5.2.2.1 hx hy (by omega)
    obtain ⟨q2, e2, l2, i2, cc2⟩ := br_le_ok (k1 := k2) (k2 := k1) (o1 := o2) (o2 := o1) (x := y) (y := x) i (by rw [l]; exact cc) (by rw [l]; exact hy) (by rw [l]; exact hx) (by omega)
    unfold br
    rw [e]
    simp only [e2]
    exact ⟨_, rfl, base q2.1 q2.2 (by omega) i2 (by rw [l] at cc2; exact cc2)⟩
  | 1, h =>
    have h : ¬ x = y := of_decide_eq_true h
    obtain ⟨q, e, l, i⟩ := br_ne_ok g1 hx hy h
    unfold br
    rw [e]
    obtain ⟨q1, q2, q3, q4, q5⟩ := as_iv g l i
    exact ⟨_, rfl, q1, rfl, q3, q4, q5⟩
  | 2, h =>
    have h : x < y := of_decide_eq_true h
    obtain ⟨q, e, r⟩ := one (av_ev_add (d := 1) hx) hy (by omega)
    unfold br
    rw [e]
    exact ⟨_, rfl, r⟩
  | 3, h =>
    have h : y ≤ x := of_decide_eq_true h
    obtain ⟨q, e, r⟩ := one hy hx (by omega)
    unfold br
    rw [e]
    exact ⟨_, rfl, r⟩
  | 4, h =>
    have h : y < x := of_decide_eq_true h
    obtain ⟨q, e, r⟩ := one (av_ev_add (d := 1) hy) hx (by omega)
    unfold br
    rw [e]
    exact ⟨_, rfl, r⟩
  | c + 5, h =>
    have h : x ≤ y := of_decide_eq_true h
    obtain ⟨q, e, r⟩ := one hx hy (by omega)
    refine ⟨(n, lv, st, q.1, ex.1, q.2, ex.2.2), ?_, r⟩
    show (match br_le iv ex.2.1 k1 o1 k2 o2 with
      | some (iv, cs) => some (n, lv, st, iv, ex.1, cs, ex.2.2)
      | none => none) = _
    rw [e]
/-- the other branch -/
noncomputable def ic_not (c : Nat) : Nat := match c with
  | 0 => 1
  | 1 => 0
  | 2 => 3
  | 3 => 2
  | 4 => 5
  | _ => 4
theorem ic_not_ok {c : Nat} {x y : Int} (h : ic c x y = false) : ic (ic_not c) x y = true := by
  match c, h with
  | 0, h => have h : ¬ x = y := of_decide_eq_false h; exact decide_eq_true h
  | 1, h => have h : ¬ ¬ x = y := of_decide_eq_false h; exact decide_eq_true (show x = y by omega)
  | 2, h => have h : ¬ x < y := of_decide_eq_false h; exact decide_eq_true (show y ≤ x by omega)
  | 3, h => have h : ¬ y ≤ x := of_decide_eq_false h; exact decide_eq_true (show x < y by omega)
  | 4, h => have h : ¬ y < x := of_decide_eq_false h; exact decide_eq_true (show x ≤ y by omega)
  | c + 5, h => have h : ¬ x ≤ y := of_decide_eq_false h; exact decide_eq_true (show y < x by omega)
noncomputable def a_if2 (c t n : Nat) : AS → Option (List AS) := fun A => match A.2.2.1 with
  | .inl (k2, o2) :: .inl (k1, o1) :: st => some ((br c t A.2.1 st A.2.2.2.1 A.2.2.2.2 k1 o1 k2 o2).toList ++ (br (ic_not c) n A.2.1 st A.2.2.2.1 A.2.2.2.2 k1 o1 k2 o2).toList)
  | _ => none
theorem a_if2_ok {q : Int32 → Int32 → Bool} (c t n : Nat) (hq : ∀ x y : Int32, q x y = ic c x.toInt y.toInt) : ai_ok w (s_icmp q t n) (a_if2 c t n) := by
  rintro E ⟨pc, lv, st, iv, ex⟩ ⟨pc', cl, cs, W⟩ As ⟨ρ, g1, g2, g3, g4, g5⟩ h
  simp only [a_if2] at h
  split at h
  · rename_i k2 o2 k1 o1 st'
    cases h
    obtain ⟨v, cs, rfl, ha, hr0⟩ := f2_cons g4
    obtain ⟨u, cs, rfl, hc, hr⟩ := f2_cons hr0
    obtain ⟨y, rfl, ha⟩ := av_int ha
    obtain ⟨x, rfl, hc⟩ := av_int hc
    cases hb : ic c x.toInt y.toInt with
    | true =>
      obtain ⟨B, e1, e2⟩ := br_ok (n := t) (pc := pc) (pc' := pc') (st := st') (cs := cs) c ⟨g1, g2, g3, hr, g5⟩ hc ha hb
      refine ⟨(t, cl, cs, W), by simp only [s_icmp, hq, hb, cond_true], B, ?_, ρ, e2⟩
      rw [e1]
      exact List.mem_append_left _ (List.mem_singleton_self _)
    | false =>
      obtain ⟨B, e1, e2⟩ := br_ok (n := n) (pc := pc) (pc' := pc') (st := st') (cs := cs) (ic_not c) ⟨g1, g2, g3, hr, g5⟩ hc ha (ic_not_ok hb)
      refine ⟨(n, cl, cs, W), by simp only [s_icmp, hq, hb, cond_false], B, ?_, ρ, e2⟩
      rw [e1]
      exact List.mem_append_right _ (List.mem_singleton_self _)
  · cases h
noncomputable def a_if1 (c t n : Nat) : AS → Option (List AS) := fun A => match A.2.2.1 with
  | .inl (k1, o1) :: st => some ((br c t A.2.1 st A.2.2.2.1 A.2.2.2.2 k1 o1 none 0).toList ++ (br (ic_not c) n A.2.1 st A.2.2.2.1 A.2.2.2.2 k1 o1 none 0).toList)
  | _ => none
theorem a_if1_ok {q : Int32 → Bool} (c t n : Nat) (hq : ∀ x : Int32, q x = ic c x.toInt 0) : ai_ok w (s_if q t n) (a_if1 c t n) := by
  rintro E ⟨pc, lv, st, iv, ex⟩ ⟨pc', cl, cs, W⟩ As ⟨ρ, g1, g2, g3, g4, g5⟩ h
  simp only [a_if1] at h
  split at h
  · rename_i k1 o1 st'
    cases h
    obtain ⟨u, cs, rfl, hc, hr⟩ := f2_cons g4
    obtain ⟨x, rfl, hc⟩ := av_int hc
    have h0 : av_ev iv.length ρ none 0 0 := rfl
    cases hb : ic c x.toInt 0 with
    | true =>
      obtain ⟨B, e1, e2⟩ := br_ok (n := t) (pc := pc) (pc' := pc') (st := st') (cs := cs) c ⟨g1, g2, g3, hr, g5⟩ hc h0 hb
      refine ⟨(t, cl, cs, W), by simp only [s_if, hq, hb, cond_true], B, ?_, ρ, e2⟩
      rw [e1]
      exact List.mem_append_left _ (List.mem_singleton_self _)
    | false =>
      obtain ⟨B, e1, e2⟩ := br_ok (n := n) (pc := pc) (pc' := pc') (st := st') (cs := cs) (ic_not c) ⟨g1, g2, g3, hr, g5⟩ hc h0 (ic_not_ok hb)
      refine ⟨(n, cl, cs, W), by simp only [s_if, hq, hb, cond_false], B, ?_, ρ, e2⟩
      rw [e1]
      exact List.mem_append_right _ (List.mem_singleton_self _)
  · cases h
/-- two longs compared: three branches -/
noncomputable def a_lcmp (n : Nat) : AS → Option (List AS) := fun A => match A.2.2.1 with
  | .inr (.inl (k2, o2)) :: .inr (.inl (k1, o1)) :: st => some ((br 2 n A.2.1 (.inl (none, -1) :: st) A.2.2.2.1 A.2.2.2.2 k1 o1 k2 o2).toList ++ ((br 0 n A.2.1 (.inl (none, 0) :: st) A.2.2.2.1 A.2.2.2.2 k1 o1 k2 o2).toList ++ (br 4 n A.2.1 (.inl (none, 1) :: st) A.2.2.2.1 A.2.2.2.2 k1 o1 k2 o2).toList))
  | _ => none
theorem a_lcmp_ok (n : Nat) : ai_ok w (s_lcmp n) (a_lcmp n) := by
  rintro E ⟨pc, lv, st, iv, ex⟩ ⟨pc', cl, cs, W⟩ As ⟨ρ, g1, g2, g3, g4, g5⟩ h
  simp only [a_lcmp] at h
  split at h
  · rename_i k2 o2 k1 o1 st'
    cases h
    obtain ⟨v, cs, rfl, ha, hr0⟩ := f2_cons g4
    obtain ⟨u, cs, rfl, hc, hr⟩ := f2_cons hr0
    obtain ⟨y, rfl, ha⟩ := av_long ha
    obtain ⟨x, rfl, hc⟩ := av_long hc
    refine ⟨(n, cl, .int (lg_cmp x y) :: cs, W), rfl, ?_⟩
    by_cases h1 : x.toInt < y.toInt
    · have hv : lg_cmp x y = -1 := by
        unfold lg_cmp
        rw [if_neg (by rw [gt_iff_lt, Int64.lt_iff_toInt_lt]; omega), if_neg (by intro e; subst e; omega)]
      obtain ⟨B, e1, e2⟩ := br_ok (n := n) (pc := pc) (pc' := pc') (st := .inl (none, -1) :: st') (cs := .int (lg_cmp x y) :: cs) 2 ⟨g1, g2, g3, ⟨(by rw [hv]; rfl), hr⟩, g5⟩ hc ha (decide_eq_true h1)
      exact ⟨B, by rw [e1]; exact List.mem_append_left _ (List.mem_singleton_self _), ρ, e2⟩
    · by_cases h2 : x.toInt = y.toInt
      · have hv : lg_cmp x y = 0 := by
          unfold lg_cmp
          rw [if_neg (by rw [gt_iff_lt, Int64.lt_iff_toInt_lt]; omega), if_pos (Int64.toInt_inj.mp h2)]
        obtain ⟨B, e1, e2⟩ := br_ok (n := n) (pc := pc) (pc' := pc') (st := .inl (none, 0) :: st') (cs := .int (lg_cmp x y) :: cs) 0 ⟨g1, g2, g3, ⟨(by rw [hv]; rfl), hr⟩, g5⟩ hc ha (decide_eq_true h2)
        exact ⟨B, by rw [e1]; exact List.mem_append_right _ (List.mem_append_left _ (List.mem_singleton_self _)), ρ, e2⟩
      · have h3 : y.toInt < x.toInt := by omega
        have hv : lg_cmp x y = 1 := by
          unfold lg_cmp
          rw [if_pos (by rw [gt_iff_lt, Int64.lt_iff_toInt_lt]; exact h3)]
        obtain ⟨B, e1, e2⟩ := br_ok (n := n) (pc := pc) (pc' := pc') (st := .inl (none, 1) :: st') (cs := .int (lg_cmp x y) :: cs) 4 ⟨g1, g2, g3, ⟨(by rw [hv]; rfl), hr⟩, g5⟩ hc ha (decide_eq_true h3)
        exact ⟨B, by rw [e1]; exact List.mem_append_right _ (List.mem_append_right _ (List.mem_singleton_self _)), ρ, e2⟩
  · cases h
end AIB
