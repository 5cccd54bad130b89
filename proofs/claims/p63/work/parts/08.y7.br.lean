section
/-! THE EXECUTOR (second writing), part 7: one number, longs, branches, switches -/
section AIB
variable {w : AW}
/-- the value stays, its kind too -/
theorem i2b_id {x : Int32} (h1 : -128 ≤ x.toInt) (h2 : x.toInt ≤ 127) : x.toInt8.toInt32.toInt = x.toInt := by
  rw [Int8.toInt_toInt32, Int32.toInt_toInt8]
  unfold Int.bmod
  have e : ((2 ^ 8 : Nat) : Int) = 256 := rfl
  simp only [e]
  split <;> omega
theorem i2b_rg (x : Int32) : -128 ≤ x.toInt8.toInt32.toInt ∧ x.toInt8.toInt32.toInt ≤ 127 := by
  rw [Int8.toInt_toInt32]
  have h1 := Int8.le_toInt x.toInt8
  have h2 := Int8.toInt_lt x.toInt8
  omega
theorem i2s_id {x : Int32} (h1 : -32768 ≤ x.toInt) (h2 : x.toInt ≤ 32767) : x.toInt16.toInt32.toInt = x.toInt := by
  rw [Int16.toInt_toInt32, Int32.toInt_toInt16]
  unfold Int.bmod
  have e : ((2 ^ 16 : Nat) : Int) = 65536 := rfl
  simp only [e]
  split <;> omega
theorem i2s_rg (x : Int32) : -32768 ≤ x.toInt16.toInt32.toInt ∧ x.toInt16.toInt32.toInt ≤ 32767 := by
  rw [Int16.toInt_toInt32]
  have h1 := Int16.le_toInt x.toInt16
  have h2 := Int16.toInt_lt x.toInt16
  omega
noncomputable def a_nar (a b : Int) (n : Nat) : AS → Option (List AS) := fun A => match A.2.2.1 with
  | .inl (k, o) :: st => match iv_rng A.2.2.2.1 k o with
    | some (l, u) => bif decide (a ≤ l) && decide (u ≤ b) then some [(n, A.2.1, .inl (k, o) :: st, A.2.2.2)] else some [a_pi n A.2.1 st A.2.2.2.1 A.2.2.2.2 a b]
    | none => none
  | _ => none
theorem a_nar_ok {op : Int32 → Int32} {a b : Int} (n : Nat) (hid : ∀ x : Int32, a ≤ x.toInt → x.toInt ≤ b → (op x).toInt = x.toInt) (hrg : ∀ x : Int32, a ≤ (op x).toInt ∧ (op x).toInt ≤ b) : ai_ok w (s_un op n) (a_nar a b n) := by
  rintro E ⟨pc, lv, st, iv, ex⟩ ⟨pc', cl, cs, W⟩ As ⟨ρ, g1, g2, g3, g4, g5⟩ h
  simp only [a_nar] at h
  split at h
  · rename_i k o st'
    split at h
    · rename_i l u r
      obtain ⟨v, cs, rfl, ha, hr⟩ := f2_cons g4
      obtain ⟨x, rfl, ha⟩ := av_int ha
      have b1 := iv_rng_ok g1 ha r
      cases hb : (decide (a ≤ l) && decide (u ≤ b)) with
      | true =>
        rw [hb] at h
        cases h
        simp only [Bool.and_eq_true, decide_eq_true_eq] at hb
        refine ⟨(n, cl, .int (op x) :: cs, W), rfl, _, List.mem_singleton_self _, ρ, g1, rfl, g3, ⟨?_, hr⟩, g5⟩
        show av_ev iv.length ρ k o (op x).toInt
        rw [hid x (by omega) (by omega)]
        exact ha
      | false =>
        rw [hb] at h
        cases h
        exact ⟨(n, cl, .int (op x) :: cs, W), rfl, _, List.mem_singleton_self _, a_pi_ok (st := st') (pc := pc) (pc' := pc') ⟨g1, g2, g3, hr, g5⟩ (hrg x).1 (hrg x).2⟩
    · cases h
  · cases h
theorem a_i2b_ok (n : Nat) : ai_ok w (s_un (fun x => x.toInt8.toInt32) n) (a_nar (-128) 127 n) := a_nar_ok n (fun _ => i2b_id) i2b_rg
theorem a_i2s_ok (n : Nat) : ai_ok w (s_un (fun x => x.toInt16.toInt32) n) (a_nar (-32768) 32767 n) := a_nar_ok n (fun _ => i2s_id) i2s_rg
theorem i2c_nat (x : Int32) : ((x.toUInt32 % 65536).toInt32).toBitVec.toNat = x.toBitVec.toNat % 65536 := rfl
theorem i2c_id {x : Int32} (h1 : 0 ≤ x.toInt) (h2 : x.toInt ≤ 65535) : ((x.toUInt32 % 65536).toInt32).toInt = x.toInt := by
  obtain ⟨e, l⟩ := ai_nn h1
  have hn := i2c_nat x
  rw [ai_of (by omega), hn, e]
  omega
theorem i2c_rg (x : Int32) : 0 ≤ ((x.toUInt32 % 65536).toInt32).toInt ∧ ((x.toUInt32 % 65536).toInt32).toInt ≤ 65535 := by
  have hn := i2c_nat x
  rw [ai_of (by omega), hn]
  omega
theorem a_i2c_ok (n : Nat) : ai_ok w (s_un (fun x => (x.toUInt32 % 65536).toInt32) n) (a_nar 0 65535 n) := a_nar_ok n (fun _ => i2c_id) i2c_rg
noncomputable def a_neg (n : Nat) : AS → Option (List AS) := fun A => match A.2.2.1 with
  | .inl (k, o) :: st => match iv_rng A.2.2.2.1 k o with
    | some (l, u) => some [a_pi n A.2.1 st A.2.2.2.1 A.2.2.2.2 (ai_bnd (-u) (-l)).1 (ai_bnd (-u) (-l)).2]
    | none => none
  | _ => none
theorem a_neg_ok (n : Nat) : ai_ok w (s_un (fun x => -x) n) (a_neg n) := by
  rintro E ⟨pc, lv, st, iv, ex⟩ ⟨pc', cl, cs, W⟩ As ⟨ρ, g1, g2, g3, g4, g5⟩ h
  simp only [a_neg] at h
  split at h
  · rename_i k o st'
    split at h
    · rename_i l u r
      cases h
      obtain ⟨v, cs, rfl, ha, hr⟩ := f2_cons g4
      obtain ⟨x, rfl, ha⟩ := av_int ha
      have b1 := iv_rng_ok g1 ha r
      have hq := ai_bnd_ok (z := -x) (lo := -u) (hi := -l) (fun hb => by
        have := ai_in_ok hb
        rw [Int32.toInt_neg, ai_bmod (by omega) (by omega)]
        omega)
      exact ⟨(n, cl, .int (-x) :: cs, W), rfl, _, List.mem_singleton_self _, a_pi_ok (st := st') (pc := pc) (pc' := pc') ⟨g1, g2, g3, hr, g5⟩ hq.1 hq.2⟩
    · cases h
  · cases h
/-- longs -/
noncomputable def a_i2l (n : Nat) : AS → Option (List AS) := fun A => match A.2.2.1 with
  | .inl (k, o) :: st => some [(n, A.2.1, .inr (.inl (k, o)) :: st, A.2.2.2)]
  | _ => none
theorem a_i2l_ok (n : Nat) : ai_ok w (s_i2l n) (a_i2l n) := by
  rintro E ⟨pc, lv, st, iv, ex⟩ ⟨pc', cl, cs, W⟩ As ⟨ρ, g1, g2, g3, g4, g5⟩ h
  simp only [a_i2l] at h
  split at h
  · rename_i k o st'
    cases h
    obtain ⟨v, cs, rfl, ha, hr⟩ := f2_cons g4
    obtain ⟨x, rfl, ha⟩ := av_int ha
    refine ⟨(n, cl, .long x.toInt64 :: cs, W), rfl, _, List.mem_singleton_self _, ρ, g1, rfl, g3, ⟨?_, hr⟩, g5⟩
    show av_ev iv.length ρ k o x.toInt64.toInt
    rw [Int32.toInt_toInt64]
    exact ha
  · cases h
noncomputable def a_l2i (n : Nat) : AS → Option (List AS) := fun A => match A.2.2.1 with
  | .inr (.inl (k, o)) :: st => match iv_rng A.2.2.2.1 k o with
    | some (l, u) => bif ai_in l u then some [(n, A.2.1, .inl (k, o) :: st, A.2.2.2)] else some [a_pi n A.2.1 st A.2.2.2.1 A.2.2.2.2 (-2147483648) 2147483647]
    | none => none
  | _ => none
theorem a_l2i_ok (n : Nat) : ai_ok w (s_l2i n) (a_l2i n) := by
  rintro E ⟨pc, lv, st, iv, ex⟩ ⟨pc', cl, cs, W⟩ As ⟨ρ, g1, g2, g3, g4, g5⟩ h
  simp only [a_l2i] at h
  split at h
  · rename_i k o st'
    split at h
    · rename_i l u r
      obtain ⟨v, cs, rfl, ha, hr⟩ := f2_cons g4
      obtain ⟨x, rfl, ha⟩ := av_long ha
      have b1 := iv_rng_ok g1 ha r
      cases hb : ai_in l u with
      | true =>
        rw [hb] at h
        cases h
        have := ai_in_ok hb
        refine ⟨(n, cl, .int x.toInt32 :: cs, W), rfl, _, List.mem_singleton_self _, ρ, g1, rfl, g3, ⟨?_, hr⟩, g5⟩
        show av_ev iv.length ρ k o x.toInt32.toInt
        rw [Int64.toInt_toInt32, ai_bmod (by omega) (by omega)]
        exact ha
      | false =>
        rw [hb] at h
        cases h
        exact ⟨(n, cl, .int x.toInt32 :: cs, W), rfl, _, List.mem_singleton_self _, a_pi_ok (st := st') (pc := pc) (pc' := pc') ⟨g1, g2, g3, hr, g5⟩ (ai_lo _) (ai_hi _)⟩
    · cases h
  · cases h
/-- two longs: by bounds; a known one added or taken away moves the offset -/
noncomputable def lo_ok (op : Int64 → Int64 → Int64) (f : Int → Int → Int → Int → Int × Int) : Prop := ∀ (x y : Int64) (l1 u1 l2 u2 : Int), l1 ≤ x.toInt → x.toInt ≤ u1 → l2 ≤ y.toInt → y.toInt ≤ u2 → (f l1 u1 l2 u2).1 ≤ (op x y).toInt ∧ (op x y).toInt ≤ (f l1 u1 l2 u2).2
noncomputable def a_lbin (f : Int → Int → Int → Int → Int × Int) (n : Nat) : AS → Option (List AS) := fun A => match A.2.2.1 with
  | .inr (.inl (k2, o2)) :: .inr (.inl (k1, o1)) :: st => match iv_rng A.2.2.2.1 k1 o1, iv_rng A.2.2.2.1 k2 o2 with
    | some (l1, u1), some (l2, u2) => some [a_pl n A.2.1 st A.2.2.2.1 A.2.2.2.2 (f l1 u1 l2 u2).1 (f l1 u1 l2 u2).2]
    | _, _ => none
  | _ => none
theorem a_lbin_ok {op : Int64 → Int64 → Int64} {f : Int → Int → Int → Int → Int × Int} (n : Nat) (hf : lo_ok op f) : ai_ok w (s_lbin op n) (a_lbin f n) := by
  rintro E ⟨pc, lv, st, iv, ex⟩ ⟨pc', cl, cs, W⟩ As ⟨ρ, g1, g2, g3, g4, g5⟩ h
  simp only [a_lbin] at h
  split at h
  · rename_i k2 o2 k1 o1 st'
    split at h
    · rename_i l1 u1 l2 u2 r1 r2
      cases h
      obtain ⟨v, cs, rfl, ha, hr0⟩ := f2_cons g4
      obtain ⟨u, cs, rfl, hc, hr⟩ := f2_cons hr0
      obtain ⟨y, rfl, ha⟩ := av_long ha
      obtain ⟨x, rfl, hc⟩ := av_long hc
      have b1 := iv_rng_ok g1 hc r1
      have b2 := iv_rng_ok g1 ha r2
      have hq := hf x y l1 u1 l2 u2 b1.1 b1.2 b2.1 b2.2
      exact ⟨(n, cl, .long (op x y) :: cs, W), rfl, _, List.mem_singleton_self _, a_pl_ok (st := st') (pc := pc) (pc' := pc') ⟨g1, g2, g3, hr, g5⟩ hq.1 hq.2⟩
    · cases h
  · cases h
noncomputable def fl_top (_ _ _ _ : Int) : Int × Int := (-9223372036854775808, 9223372036854775807)
theorem fl_top_ok (op : Int64 → Int64 → Int64) : lo_ok op fl_top := fun _ _ _ _ _ _ _ _ _ _ => ⟨al_lo _, al_hi _⟩
noncomputable def fl_mul (l1 u1 l2 u2 : Int) : Int × Int := al_bnd (mn4 (l1 * l2) (l1 * u2) (u1 * l2) (u1 * u2)) (mx4 (l1 * l2) (l1 * u2) (u1 * l2) (u1 * u2))
theorem fl_mul_ok : lo_ok (fun x y => x * y) fl_mul := by
  intro x y l1 u1 l2 u2 h1 h2 h3 h4
  have hm := mul_rg h1 h2 h3 h4
  refine al_bnd_ok (fun hb => ?_)
  have hi := al_in_ok hb
  show _ ≤ (x * y).toInt ∧ (x * y).toInt ≤ _
  rw [al_mul (by omega) (by omega)]
  exact hm
noncomputable def fl_add (l1 u1 l2 u2 : Int) : Int × Int := al_bnd (l1 + l2) (u1 + u2)
theorem fl_add_ok : lo_ok (fun x y => x + y) fl_add := by
  intro x y l1 u1 l2 u2 h1 h2 h3 h4
  refine al_bnd_ok (fun hb => ?_)
  have hi := al_in_ok hb
  show _ ≤ (x + y).toInt ∧ (x + y).toInt ≤ _
  rw [al_add (by omega) (by omega)]
  omega
noncomputable def fl_sub (l1 u1 l2 u2 : Int) : Int × Int := al_bnd (l1 - u2) (u1 - l2)
theorem fl_sub_ok : lo_ok (fun x y => x - y) fl_sub := by
  intro x y l1 u1 l2 u2 h1 h2 h3 h4
  refine al_bnd_ok (fun hb => ?_)
  have hi := al_in_ok hb
  show _ ≤ (x - y).toInt ∧ (x - y).toInt ≤ _
  rw [al_sub (by omega) (by omega)]
  omega
noncomputable def ld_ok (op : Int64 → Int64 → Int64) (f : Int → Int → Int → Int → Int × Int) : Prop := ∀ (x y : Int64) (l1 u1 l2 u2 : Int), 0 < l2 → l1 ≤ x.toInt → x.toInt ≤ u1 → l2 ≤ y.toInt → y.toInt ≤ u2 → (f l1 u1 l2 u2).1 ≤ (op x y).toInt ∧ (op x y).toInt ≤ (f l1 u1 l2 u2).2
noncomputable def a_ldiv (f : Int → Int → Int → Int → Int × Int) (n : Nat) : AS → Option (List AS) := fun A => match A.2.2.1 with
  | .inr (.inl (k2, o2)) :: .inr (.inl (k1, o1)) :: st => match iv_rng A.2.2.2.1 k1 o1, iv_rng A.2.2.2.1 k2 o2 with
    | some (l1, u1), some (l2, u2) => bif decide (0 < l2) then some [a_pl n A.2.1 st A.2.2.2.1 A.2.2.2.2 (f l1 u1 l2 u2).1 (f l1 u1 l2 u2).2] else (bif decide (u2 < 0) then some [a_pl n A.2.1 st A.2.2.2.1 A.2.2.2.2 (-9223372036854775808) 9223372036854775807] else none)
    | _, _ => none
  | _ => none
theorem a_ldiv_ok {op : Int64 → Int64 → Int64} {f : Int → Int → Int → Int → Int × Int} (n : Nat) (hf : ld_ok op f) : ai_ok w (s_ldiv op n) (a_ldiv f n) := by
  rintro E ⟨pc, lv, st, iv, ex⟩ ⟨pc', cl, cs, W⟩ As ⟨ρ, g1, g2, g3, g4, g5⟩ h
  simp only [a_ldiv] at h
  split at h
  · rename_i k2 o2 k1 o1 st'
    split at h
    · rename_i l1 u1 l2 u2 r1 r2
      obtain ⟨v, cs, rfl, ha, hr0⟩ := f2_cons g4
      obtain ⟨u, cs, rfl, hc, hr⟩ := f2_cons hr0
      obtain ⟨y, rfl, ha⟩ := av_long ha
      obtain ⟨x, rfl, hc⟩ := av_long hc
      have b1 := iv_rng_ok g1 hc r1
      have b2 := iv_rng_ok g1 ha r2
      have z : (0 : Int64).toInt = 0 := rfl
      cases hb : decide (0 < l2) with
      | true =>
        rw [hb] at h
        have hb := of_decide_eq_true hb
        cases h
        have hq := hf x y l1 u1 l2 u2 hb b1.1 b1.2 b2.1 b2.2
        have hy : ¬ y = 0 := by intro e; subst e; omega
        exact ⟨(n, cl, .long (op x y) :: cs, W), by simp only [s_ldiv, if_neg hy], _, List.mem_singleton_self _, a_pl_ok (st := st') (pc := pc) (pc' := pc') ⟨g1, g2, g3, hr, g5⟩ hq.1 hq.2⟩
      | false =>
        rw [hb, cond_false] at h
        cases hd : decide (u2 < 0) with
        | false => rw [hd] at h; cases h
        | true =>
          rw [hd] at h
          cases h
          have hd := of_decide_eq_true hd
          have hy : ¬ y = 0 := by intro e; subst e; omega
          exact ⟨(n, cl, .long (op x y) :: cs, W), by simp only [s_ldiv, if_neg hy], _, List.mem_singleton_self _, a_pl_ok (st := st') (pc := pc) (pc' := pc') ⟨g1, g2, g3, hr, g5⟩ (al_lo _) (al_hi _)⟩
    · cases h
  · cases h
theorem ld_top_ok (op : Int64 → Int64 → Int64) : ld_ok op fl_top := fun _ _ _ _ _ _ _ _ _ _ _ => ⟨al_lo _, al_hi _⟩
noncomputable def a_lneg (n : Nat) : AS → Option (List AS) := fun A => match A.2.2.1 with
  | .inr (.inl (k, o)) :: st => match iv_rng A.2.2.2.1 k o with
    | some (l, u) => some [a_pl n A.2.1 st A.2.2.2.1 A.2.2.2.2 (al_bnd (-u) (-l)).1 (al_bnd (-u) (-l)).2]
    | none => none
  | _ => none
theorem a_lneg_ok (n : Nat) : ai_ok w (s_lun (fun x => -x) n) (a_lneg n) := by
  rintro E ⟨pc, lv, st, iv, ex⟩ ⟨pc', cl, cs, W⟩ As ⟨ρ, g1, g2, g3, g4, g5⟩ h
  simp only [a_lneg] at h
  split at h
  · rename_i k o st'
    split at h
    · rename_i l u r
      cases h
      obtain ⟨v, cs, rfl, ha, hr⟩ := f2_cons g4
      obtain ⟨x, rfl, ha⟩ := av_long ha
      have b1 := iv_rng_ok g1 ha r
      have hq := al_bnd_ok (z := -x) (lo := -u) (hi := -l) (fun hb => by
        have := al_in_ok hb
        rw [Int64.toInt_neg, al_bmod (by omega) (by omega)]
        omega)
      exact ⟨(n, cl, .long (-x) :: cs, W), rfl, _, List.mem_singleton_self _, a_pl_ok (st := st') (pc := pc) (pc' := pc') ⟨g1, g2, g3, hr, g5⟩ hq.1 hq.2⟩
    · cases h
  · cases h
/-- a comparison taken in: 0 eq, 1 ne, 2 lt, 3 ge, 4 gt, 5 le -/
noncomputable def ic (c : Nat) (x y : Int) : Bool := match c with
  | 0 => decide (x = y)
  | 1 => decide (¬ x = y)
  | 2 => decide (x < y)
  | 3 => decide (y ≤ x)
  | 4 => decide (y < x)
  | _ => decide (x ≤ y)
noncomputable def br (c : Nat) (n : Nat) (lv : List (Nat × AV)) (st : List AV) (iv : IV) (ex : AX) (k1 : Option Nat) (o1 : Int) (k2 : Option Nat) (o2 : Int) : Option AS := match c with
  | 0 => match br_le iv ex.2.1 k1 o1 k2 o2 with
    | some (iv, cs) => match br_le iv cs k2 o2 k1 o1 with
      | some (iv, cs) => some (n, lv, st, iv, ex.1, cs, ex.2.2)
      | none => none
    | none => none
  | 1 => match br_ne iv k1 o1 k2 o2 with
    | some iv => some (n, lv, st, iv, ex)
    | none => none
  | 2 => match br_le iv ex.2.1 k1 (o1 + 1) k2 o2 with
    | some (iv, cs) => some (n, lv, st, iv, ex.1, cs, ex.2.2)
    | none => none
  | 3 => match br_le iv ex.2.1 k2 o2 k1 o1 with
    | some (iv, cs) => some (n, lv, st, iv, ex.1, cs, ex.2.2)
    | none => none
  | 4 => match br_le iv ex.2.1 k2 (o2 + 1) k1 o1 with
    | some (iv, cs) => some (n, lv, st, iv, ex.1, cs, ex.2.2)
    | none => none
  | _ => match br_le iv ex.2.1 k1 o1 k2 o2 with
    | some (iv, cs) => some (n, lv, st, iv, ex.1, cs, ex.2.2)
    | none => none
theorem br_ok {E : AEnv} {ρ : Nat → Int} {pc n : Nat} {lv : List (Nat × AV)} {st : List AV} {iv : IV} {ex : AX} {pc' : Nat} {cl : List (Nat × Value)} {cs : List Value} {W : pm_H × Nat × Nat} {k1 k2 : Option Nat} {o1 o2 x y : Int} (c : Nat) (g : as_r w E ρ (pc, lv, st, iv, ex) (pc', cl, cs, W)) (hx : av_ev iv.length ρ k1 o1 x) (hy : av_ev iv.length ρ k2 o2 y) (h : ic c x y = true) :
    ∃ B, br c n lv st iv ex k1 o1 k2 o2 = some B ∧ as_r w E ρ B (n, cl, cs, W) := by
  have base : ∀ iv' cs', iv'.length = iv.length → ia_g E ρ iv' → (∀ c ∈ cs', con_g iv.length ρ c) → as_r w E ρ (n, lv, st, iv', ex.1, cs', ex.2.2) (n, cl, cs, W) := by
    intro iv' cs' hl hi hc
    obtain ⟨q1, q2, q3, q4, q5⟩ := as_iv g hl hi
    exact ⟨q1, rfl, q3, q4, q5.1, q5.2.1, (by show ∀ c ∈ cs', con_g iv'.length ρ c; rw [hl]; exact hc), q5.2.2.2⟩
  obtain ⟨g1, g2, g3, g4, g5⟩ := id g
  dsimp only at g1 g5
  have one : ∀ {ka kb : Option Nat} {oa ob u v : Int}, av_ev iv.length ρ ka oa u → av_ev iv.length ρ kb ob v → u ≤ v → ∃ q : IV × List Con, br_le iv ex.2.1 ka oa kb ob = some q ∧ as_r w E ρ (n, lv, st, q.1, ex.1, q.2, ex.2.2) (n, cl, cs, W) := by
    intro ka kb oa ob u v hu hv huv
    obtain ⟨q, e, l, i, cc⟩ := br_le_ok g1 g5.2.2.1 hu hv huv
    exact ⟨q, e, base q.1 q.2 l i cc⟩
  match c, h with
  | 0, h =>
    have h : x = y := of_decide_eq_true h
    obtain ⟨q, e, l, i, cc⟩ := br_le_ok g1 g5.2.2.1 hx hy (by omega)
    obtain ⟨q2, e2, l2, i2, cc2⟩ := br_le_ok (k1 := k2) (k2 := k1) (o1 := o2) (o2 := o1) (x := y) (y := x) i (by rw [l]; exact cc) (by rw [l]; exact hy) (by rw [l]; exact hx) (by omega)
    unfold br
    rw [e]
    simp only [e2]
    exact ⟨_, rfl, base q2.1 q2.2 (by omega) i2 (by rw [l] at cc2; exact cc2)⟩
  | 1, h =>
    have h : ¬ x = y := of_decide_eq_true h
    obtain ⟨q, e, l, i⟩ := br_ne_ok g1 hx hy h
    unfold br
    rw [e]
    obtain ⟨q1, q2, q3, q4, q5⟩ := as_iv g l i
    exact ⟨_, rfl, q1, rfl, q3, q4, q5⟩
  | 2, h =>
    have h : x < y := of_decide_eq_true h
    obtain ⟨q, e, r⟩ := one (av_ev_add (d := 1) hx) hy (by omega)
    unfold br
    rw [e]
    exact ⟨_, rfl, r⟩
  | 3, h =>
    have h : y ≤ x := of_decide_eq_true h
    obtain ⟨q, e, r⟩ := one hy hx (by omega)
    unfold br
    rw [e]
    exact ⟨_, rfl, r⟩
  | 4, h =>
    have h : y < x := of_decide_eq_true h
    obtain ⟨q, e, r⟩ := one (av_ev_add (d := 1) hy) hx (by omega)
    unfold br
    rw [e]
    exact ⟨_, rfl, r⟩
  | c + 5, h =>
    have h : x ≤ y := of_decide_eq_true h
    obtain ⟨q, e, r⟩ := one hx hy (by omega)
    refine ⟨(n, lv, st, q.1, ex.1, q.2, ex.2.2), ?_, r⟩
    show (match br_le iv ex.2.1 k1 o1 k2 o2 with
      | some (iv, cs) => some (n, lv, st, iv, ex.1, cs, ex.2.2)
      | none => none) = _
    rw [e]
/-- the other branch -/
noncomputable def ic_not (c : Nat) : Nat := match c with
  | 0 => 1
  | 1 => 0
  | 2 => 3
  | 3 => 2
  | 4 => 5
  | _ => 4
theorem ic_not_ok {c : Nat} {x y : Int} (h : ic c x y = false) : ic (ic_not c) x y = true := by
  match c, h with
  | 0, h => have h : ¬ x = y := of_decide_eq_false h; exact decide_eq_true h
  | 1, h => have h : ¬ ¬ x = y := of_decide_eq_false h; exact decide_eq_true (show x = y by omega)
  | 2, h => have h : ¬ x < y := of_decide_eq_false h; exact decide_eq_true (show y ≤ x by omega)
  | 3, h => have h : ¬ y ≤ x := of_decide_eq_false h; exact decide_eq_true (show x < y by omega)
  | 4, h => have h : ¬ y < x := of_decide_eq_false h; exact decide_eq_true (show x ≤ y by omega)
  | c + 5, h => have h : ¬ x ≤ y := of_decide_eq_false h; exact decide_eq_true (show y < x by omega)
noncomputable def a_if2 (c t n : Nat) : AS → Option (List AS) := fun A => match A.2.2.1 with
  | .inl (k2, o2) :: .inl (k1, o1) :: st => some ((br c t A.2.1 st A.2.2.2.1 A.2.2.2.2 k1 o1 k2 o2).toList ++ (br (ic_not c) n A.2.1 st A.2.2.2.1 A.2.2.2.2 k1 o1 k2 o2).toList)
  | _ => none
theorem a_if2_ok {q : Int32 → Int32 → Bool} (c t n : Nat) (hq : ∀ x y : Int32, q x y = ic c x.toInt y.toInt) : ai_ok w (s_icmp q t n) (a_if2 c t n) := by
  rintro E ⟨pc, lv, st, iv, ex⟩ ⟨pc', cl, cs, W⟩ As ⟨ρ, g1, g2, g3, g4, g5⟩ h
  simp only [a_if2] at h
  split at h
  · rename_i k2 o2 k1 o1 st'
    cases h
    obtain ⟨v, cs, rfl, ha, hr0⟩ := f2_cons g4
    obtain ⟨u, cs, rfl, hc, hr⟩ := f2_cons hr0
    obtain ⟨y, rfl, ha⟩ := av_int ha
    obtain ⟨x, rfl, hc⟩ := av_int hc
    cases hb : ic c x.toInt y.toInt with
    | true =>
      obtain ⟨B, e1, e2⟩ := br_ok (n := t) (pc := pc) (pc' := pc') (st := st') (cs := cs) c ⟨g1, g2, g3, hr, g5⟩ hc ha hb
      refine ⟨(t, cl, cs, W), by simp only [s_icmp, hq, hb, cond_true], B, ?_, ρ, e2⟩
      rw [e1]
      exact List.mem_append_left _ (List.mem_singleton_self _)
    | false =>
      obtain ⟨B, e1, e2⟩ := br_ok (n := n) (pc := pc) (pc' := pc') (st := st') (cs := cs) (ic_not c) ⟨g1, g2, g3, hr, g5⟩ hc ha (ic_not_ok hb)
      refine ⟨(n, cl, cs, W), by simp only [s_icmp, hq, hb, cond_false], B, ?_, ρ, e2⟩
      rw [e1]
      exact List.mem_append_right _ (List.mem_singleton_self _)
  · cases h
noncomputable def a_if1 (c t n : Nat) : AS → Option (List AS) := fun A => match A.2.2.1 with
  | .inl (k1, o1) :: st => some ((br c t A.2.1 st A.2.2.2.1 A.2.2.2.2 k1 o1 none 0).toList ++ (br (ic_not c) n A.2.1 st A.2.2.2.1 A.2.2.2.2 k1 o1 none 0).toList)
  | _ => none
theorem a_if1_ok {q : Int32 → Bool} (c t n : Nat) (hq : ∀ x : Int32, q x = ic c x.toInt 0) : ai_ok w (s_if q t n) (a_if1 c t n) := by
  rintro E ⟨pc, lv, st, iv, ex⟩ ⟨pc', cl, cs, W⟩ As ⟨ρ, g1, g2, g3, g4, g5⟩ h
  simp only [a_if1] at h
  split at h
  · rename_i k1 o1 st'
    cases h
    obtain ⟨u, cs, rfl, hc, hr⟩ := f2_cons g4
    obtain ⟨x, rfl, hc⟩ := av_int hc
    have h0 : av_ev iv.length ρ none 0 0 := rfl
    cases hb : ic c x.toInt 0 with
    | true =>
      obtain ⟨B, e1, e2⟩ := br_ok (n := t) (pc := pc) (pc' := pc') (st := st') (cs := cs) c ⟨g1, g2, g3, hr, g5⟩ hc h0 hb
      refine ⟨(t, cl, cs, W), by simp only [s_if, hq, hb, cond_true], B, ?_, ρ, e2⟩
      rw [e1]
      exact List.mem_append_left _ (List.mem_singleton_self _)
    | false =>
      obtain ⟨B, e1, e2⟩ := br_ok (n := n) (pc := pc) (pc' := pc') (st := st') (cs := cs) (ic_not c) ⟨g1, g2, g3, hr, g5⟩ hc h0 (ic_not_ok hb)
      refine ⟨(n, cl, cs, W), by simp only [s_if, hq, hb, cond_false], B, ?_, ρ, e2⟩
      rw [e1]
      exact List.mem_append_right _ (List.mem_singleton_self _)
  · cases h
/-- two longs compared: three branches -/
noncomputable def a_lcmp (n : Nat) : AS → Option (List AS) := fun A => match A.2.2.1 with
  | .inr (.inl (k2, o2)) :: .inr (.inl (k1, o1)) :: st => some ((br 2 n A.2.1 (.inl (none, -1) :: st) A.2.2.2.1 A.2.2.2.2 k1 o1 k2 o2).toList ++ ((br 0 n A.2.1 (.inl (none, 0) :: st) A.2.2.2.1 A.2.2.2.2 k1 o1 k2 o2).toList ++ (br 4 n A.2.1 (.inl (none, 1) :: st) A.2.2.2.1 A.2.2.2.2 k1 o1 k2 o2).toList))
  | _ => none
theorem a_lcmp_ok (n : Nat) : ai_ok w (s_lcmp n) (a_lcmp n) := by
  rintro E ⟨pc, lv, st, iv, ex⟩ ⟨pc', cl, cs, W⟩ As ⟨ρ, g1, g2, g3, g4, g5⟩ h
  simp only [a_lcmp] at h
  split at h
  · rename_i k2 o2 k1 o1 st'
    cases h
    obtain ⟨v, cs, rfl, ha, hr0⟩ := f2_cons g4
    obtain ⟨u, cs, rfl, hc, hr⟩ := f2_cons hr0
    obtain ⟨y, rfl, ha⟩ := av_long ha
    obtain ⟨x, rfl, hc⟩ := av_long hc
    refine ⟨(n, cl, .int (lg_cmp x y) :: cs, W), rfl, ?_⟩
    by_cases h1 : x.toInt < y.toInt
    · have hv : lg_cmp x y = -1 := by
        unfold lg_cmp
        rw [if_neg (by rw [gt_iff_lt, Int64.lt_iff_toInt_lt]; omega), if_neg (by intro e; subst e; omega)]
      obtain ⟨B, e1, e2⟩ := br_ok (n := n) (pc := pc) (pc' := pc') (st := .inl (none, -1) :: st') (cs := .int (lg_cmp x y) :: cs) 2 ⟨g1, g2, g3, ⟨(by rw [hv]; rfl), hr⟩, g5⟩ hc ha (decide_eq_true h1)
      exact ⟨B, by rw [e1]; exact List.mem_append_left _ (List.mem_singleton_self _), ρ, e2⟩
    · by_cases h2 : x.toInt = y.toInt
      · have hv : lg_cmp x y = 0 := by
          unfold lg_cmp
          rw [if_neg (by rw [gt_iff_lt, Int64.lt_iff_toInt_lt]; omega), if_pos (Int64.toInt_inj.mp h2)]
        obtain ⟨B, e1, e2⟩ := br_ok (n := n) (pc := pc) (pc' := pc') (st := .inl (none, 0) :: st') (cs := .int (lg_cmp x y) :: cs) 0 ⟨g1, g2, g3, ⟨(by rw [hv]; rfl), hr⟩, g5⟩ hc ha (decide_eq_true h2)
        exact ⟨B, by rw [e1]; exact List.mem_append_right _ (List.mem_append_left _ (List.mem_singleton_self _)), ρ, e2⟩
      · have h3 : y.toInt < x.toInt := by omega
        have hv : lg_cmp x y = 1 := by
          unfold lg_cmp
          rw [if_pos (by rw [gt_iff_lt, Int64.lt_iff_toInt_lt]; exact h3)]
        obtain ⟨B, e1, e2⟩ := br_ok (n := n) (pc := pc) (pc' := pc') (st := .inl (none, 1) :: st') (cs := .int (lg_cmp x y) :: cs) 4 ⟨g1, g2, g3, ⟨(by rw [hv]; rfl), hr⟩, g5⟩ hc ha (decide_eq_true h3)
        exact ⟨B, by rw [e1]; exact List.mem_append_right _ (List.mem_append_right _ (List.mem_singleton_self _)), ρ, e2⟩
  · cases h
end AIB
end
section
/-! THE EXECUTOR (second writing), part 8: fields, arrays, switches, what lies outside -/
section AIH
variable {w : AW}
theorem ai_ix {i : Int32} {len : Nat} (h1 : 0 ≤ i.toInt) (h2 : i.toInt < (len : Int)) : pm_ix i len = true := by
  unfold pm_ix
  have h3 : ¬ i < 0 := by rw [Int32.lt_iff_toInt_lt]; show ¬ i.toInt < 0; omega
  have h4 : i.toNatClampNeg < len := by show i.toInt.toNat < len; omega
  simp only [h3, decide_false, Bool.not_false, Bool.true_and]
  exact Nat.ble_eq_true_of_le h4
noncomputable def mem_get : Mem → Nat → Nat → Option AV
  | [], _, _ => none
  | q :: l, a, k => bif Nat.beq q.1.1 a && Nat.beq q.1.2 k then some q.2 else mem_get l a k
theorem mem_get_in {a k : Nat} {v : AV} : ∀ {m : Mem}, mem_get m a k = some v → ((a, k), v) ∈ m
  | [], h => by cases h
  | ((a', k'), v') :: l, h => by
    unfold mem_get at h
    cases hb : (Nat.beq a' a && Nat.beq k' k) with
    | true =>
      simp only [hb, cond_true] at h
      rw [Bool.and_eq_true] at hb
      have h1 := Nat.eq_of_beq_eq_true hb.1
      have h2 := Nat.eq_of_beq_eq_true hb.2
      subst h1; subst h2
      cases h
      exact List.mem_cons_self
    | false =>
      simp only [hb, cond_false] at h
      exact List.mem_cons_of_mem _ (mem_get_in h)
/-- an int that lies at a known place is pushed, and known from now on -/
noncomputable def a_gm (n : Nat) (lv : List (Nat × AV)) (st : List AV) (iv : IV) (ex : AX) (a k : Nat) (lo hi : Int) : Option AS := match mem_get ex.1 a k with
  | some (.inl (q, o)) => some (n, lv, .inl (q, o) :: st, iv, ex)
  | some _ => none
  | none => bif decide (lo = hi) then some (n, lv, .inl (none, lo) :: st, iv, ((a, k), .inl (none, lo)) :: ex.1, ex.2) else some (n, lv, .inl (some iv.length, 0) :: st, iv ++ [(lo, hi)], ((a, k), .inl (some iv.length, 0)) :: ex.1, ex.2)
theorem a_gm_ok {E : AEnv} {ρ : Nat → Int} {pc n : Nat} {lv : List (Nat × AV)} {st : List AV} {iv : IV} {ex : AX} {pc' : Nat} {cl : List (Nat × Value)} {cs : List Value} {W : pm_H × Nat × Nat} {v : Int32} {a k : Nat} {lo hi : Int} {A : AS} (g : as_r w E ρ (pc, lv, st, iv, ex) (pc', cl, cs, W)) (hl : ld W.1 a k = some (.int v)) (h1 : lo ≤ v.toInt) (h2 : v.toInt ≤ hi)
    (h : a_gm n lv st iv ex a k lo hi = some A) : as_g w E A (n, cl, .int v :: cs, W) := by
  unfold a_gm at h
  split at h
  · rename_i q o hm
    cases h
    obtain ⟨g1, g2, g3, g4, g5⟩ := g
    obtain ⟨u, e1, e2⟩ := g5.2.1 _ _ (mem_get_in hm)
    dsimp only at e1
    rw [hl] at e1
    cases e1
    exact ⟨ρ, g1, rfl, g3, ⟨e2, g4⟩, g5⟩
  · cases h
  · cases hb : decide (lo = hi) with
    | true =>
      rw [hb] at h
      cases h
      have hb := of_decide_eq_true hb
      obtain ⟨g1, g2, g3, g4, g5⟩ := g
      have hv : v.toInt = lo := by omega
      refine ⟨ρ, g1, rfl, g3, ⟨hv, g4⟩, g5.1, fun q b hm => ?_, g5.2.2⟩
      cases List.mem_cons.mp hm with
      | inl e => cases e; exact ⟨_, hl, hv⟩
      | inr hm => exact g5.2.1 q b hm
    | false =>
      rw [hb] at h
      cases h
      obtain ⟨⟨g1, g2, g3, g4, g5⟩, e⟩ := as_grow g h1 h2
      refine ⟨_, g1, rfl, g3, ⟨e, g4⟩, g5.1, fun q b hm => ?_, g5.2.2⟩
      cases List.mem_cons.mp hm with
      | inl e' => cases e'; exact ⟨_, hl, e⟩
      | inr hm => exact g5.2.1 q b hm
noncomputable def a_getf (w : AW) (ci k n : Nat) : AS → Option (List AS) := fun A => match A.2.2.1 with
  | .inr (.inr (.inl a)) :: st => match w.1.1[a]? with
    | some (.inr (.inr (.inr (cj, fs)))) => bif Nat.beq cj ci then (match fs[k]? with
      | some (.inl (lo, hi)) => (a_gm n A.2.1 st A.2.2.2.1 A.2.2.2.2 a k lo hi).map (fun B => [B])
      | some (.inr (.inr (.inl q))) => some [(n, A.2.1, .inr (.inr (.inl q)) :: st, A.2.2.2)]
      | some (.inr (.inl ())) => some [a_pl n A.2.1 st A.2.2.2.1 A.2.2.2.2 (-9223372036854775808) 9223372036854775807]
      | _ => none) else none
    | _ => none
  | _ => none
theorem a_getf_ok (ci k n : Nat) : ai_ok w (s_getf ci k n) (a_getf w ci k n) := by
  rintro E ⟨pc, lv, st, iv, ex⟩ ⟨pc', cl, cs, W⟩ As ⟨ρ, g1, g2, g3, g4, g5⟩ h
  simp only [a_getf] at h
  split at h
  · rename_i a st'
    split at h
    · rename_i cj fs hc
      cases hb : Nat.beq cj ci with
      | false => rw [hb] at h; cases h
      | true =>
        rw [hb, cond_true] at h
        obtain ⟨v, cs, rfl, ha, hr⟩ := f2_cons g4
        obtain rfl := av_ref ha
        obtain ⟨x, hx, hg⟩ := hs_at g5.1 hc
        dsimp only at hx
        match x, hx, hg with
        | .inr (cq, vs), hx, hg =>
          obtain ⟨rfl, hlen, hall⟩ := hg
          have hstep : ∀ v, vs[k]? = some v → s_getf ci k n (pc', cl, .ref a :: cs, W) = some (n, cl, v :: cs, W) := by
            intro v hv
            simp only [s_getf]
            rw [hx]
            simp only
            rw [hb, hv]
            rfl
          have hval : ∀ c, fs[k]? = some c → ∃ v, vs[k]? = some v ∧ af_g c v := by
            intro c hcc
            have hl : k < fs.length := (List.getElem?_eq_some_iff.mp hcc).1
            have hl' : k < vs.length := by omega
            exact ⟨vs[k], List.getElem?_eq_getElem hl', hall k c _ hcc (List.getElem?_eq_getElem hl')⟩
          have gg : as_r w E ρ (pc, lv, st', iv, ex) (pc', cl, cs, W) := ⟨g1, g2, g3, hr, g5⟩
          split at h
          · rename_i lo hi hf
            obtain ⟨B, hB, rfl⟩ := Option.map_eq_some_iff.mp h
            obtain ⟨v, e1, e2⟩ := hval _ hf
            cases v with
            | int y => exact ⟨_, hstep _ e1, B, List.mem_singleton_self _, a_gm_ok gg (by unfold ld; rw [hx]; exact e1) e2.1 e2.2 hB⟩
            | _ => exact e2.elim
          · rename_i q hf
            obtain ⟨v, e1, e2⟩ := hval _ hf
            cases v with
            | ref y => cases h; exact ⟨_, hstep _ e1, _, List.mem_singleton_self _, ρ, g1, rfl, g3, ⟨e2, hr⟩, g5⟩
            | _ => exact e2.elim
          · rename_i hf
            obtain ⟨v, e1, e2⟩ := hval _ hf
            cases v with
            | long y => cases h; exact ⟨_, hstep _ e1, _, List.mem_singleton_self _, a_pl_ok gg (al_lo _) (al_hi _)⟩
            | _ => exact e2.elim
          · cases h
    · cases h
  · cases h
/-- bounds of all elements -/
noncomputable def pat_lo : List (Int × Int) → Int
  | [] => -2147483648
  | [q] => q.1
  | q :: l => min q.1 (pat_lo l)
noncomputable def pat_hi : List (Int × Int) → Int
  | [] => 2147483647
  | [q] => q.2
  | q :: l => max q.2 (pat_hi l)
theorem pat_lo_ok {q : Int × Int} : ∀ {p : List (Int × Int)}, q ∈ p → pat_lo p ≤ q.1 ∧ q.2 ≤ pat_hi p
  | [], h => absurd h List.not_mem_nil
  | [a], h => by
    have h := List.mem_singleton.mp h
    subst h
    exact ⟨Int.le_refl _, Int.le_refl _⟩
  | a :: b :: l, h => by
    have e1 : pat_lo (a :: b :: l) = min a.1 (pat_lo (b :: l)) := rfl
    have e2 : pat_hi (a :: b :: l) = max a.2 (pat_hi (b :: l)) := rfl
    cases List.mem_cons.mp h with
    | inl e => subst e; omega
    | inr h => have := pat_lo_ok h; omega
theorem pat_at_some {p : List (Int × Int)} (h : p ≠ []) (j : Nat) : ∃ q, pat_at p j = some q ∧ q ∈ p := by
  have hl : j % p.length < p.length := Nat.mod_lt _ (List.length_pos_iff.mpr h)
  exact ⟨p[j % p.length], List.getElem?_eq_getElem hl, List.getElem_mem hl⟩
theorem pat_all {p : List (Int × Int)} {f : Nat → Int32} (h : ∀ j lo hi, pat_at p j = some (lo, hi) → lo ≤ (f j).toInt ∧ (f j).toInt ≤ hi) (j : Nat) : pat_lo p ≤ (f j).toInt ∧ (f j).toInt ≤ pat_hi p := by
  by_cases hp : p = []
  · subst hp; exact ⟨ai_lo _, ai_hi _⟩
  · obtain ⟨⟨lo, hi⟩, e, hm⟩ := pat_at_some hp j
    have h1 := h j lo hi e
    have h2 := pat_lo_ok hm
    dsimp only at h2
    omega
/-- an element of an int array of class t, read -/
noncomputable def a_ald (w : AW) (t n : Nat) : AS → Option (List AS) := fun A => match A.2.2.1 with
  | .inl (k, o) :: .inr (.inr (.inl a)) :: st => match w.1.1[a]?, iv_rng A.2.2.2.1 k o with
    | some (.inl (t', len, p)), some (l, u) => bif Nat.beq t' t && (decide (0 ≤ l) && decide (u < (len : Int))) then (bif decide (l = u) then (match pat_at p l.toNat with
        | some (lo, hi) => (a_gm n A.2.1 st A.2.2.2.1 A.2.2.2.2 a l.toNat lo hi).map (fun B => [B])
        | none => none) else some [a_pi n A.2.1 st A.2.2.2.1 A.2.2.2.2 (pat_lo p) (pat_hi p)]) else none
    | _, _ => none
  | _ => none
theorem a_ald_ok (t n : Nat) (f : pm_S → Option pm_S) (hf : ∀ (pc : Nat) (cl : List (Nat × Value)) (i : Int32) (a : Nat) (cs : List Value) (W : pm_H × Nat × Nat) (len : Nat) (g : Nat → Int32), W.1[a]? = some (.inl (t, len, .inl g)) → pm_ix i len = true → f (pc, cl, .int i :: .ref a :: cs, W) = some (n, cl, .int (g i.toNatClampNeg) :: cs, W)) : ai_ok w f (a_ald w t n) := by
  rintro E ⟨pc, lv, st, iv, ex⟩ ⟨pc', cl, cs, W⟩ As ⟨ρ, g1, g2, g3, g4, g5⟩ h
  simp only [a_ald] at h
  split at h
  · rename_i k o a st'
    split at h
    · rename_i t' len p l u hc hr
      cases hb : (Nat.beq t' t && (decide (0 ≤ l) && decide (u < (len : Int)))) with
      | false => rw [hb] at h; cases h
      | true =>
        rw [hb, cond_true] at h
        simp only [Bool.and_eq_true, decide_eq_true_eq] at hb
        obtain ⟨hb1, hb2, hb3⟩ := hb
        have ht : t' = t := Nat.eq_of_beq_eq_true hb1
        subst ht
        obtain ⟨v, cs, rfl, ha, hr0⟩ := f2_cons g4
        obtain ⟨u', cs, rfl, hc1, hs2⟩ := f2_cons hr0
        obtain ⟨i, rfl, ha⟩ := av_int ha
        obtain rfl := av_ref hc1
        obtain ⟨x, hx, hg⟩ := hs_at g5.1 hc
        dsimp only at hx
        match x, hx, hg with
        | .inl (t2, len2, .inl g), hx, hg =>
          obtain ⟨rfl, rfl, hall⟩ := hg
          have b1 := iv_rng_ok g1 ha hr
          have hstep := hf pc' cl i a cs W _ g hx (ai_ix (by omega) (by omega))
          have gg : as_r w E ρ (pc, lv, st', iv, ex) (pc', cl, cs, W) := ⟨g1, g2, g3, hs2, g5⟩
          cases hd : decide (l = u) with
          | false =>
            rw [hd] at h
            cases h
            have := pat_all hall i.toNatClampNeg
            exact ⟨_, hstep, _, List.mem_singleton_self _, a_pi_ok gg this.1 this.2⟩
          | true =>
            rw [hd, cond_true] at h
            have hd := of_decide_eq_true hd
            have hi : i.toNatClampNeg = l.toNat := by show i.toInt.toNat = l.toNat; omega
            split at h
            · rename_i lo hi' hp
              obtain ⟨B, hB, rfl⟩ := Option.map_eq_some_iff.mp h
              have := hall _ _ _ hp
              refine ⟨_, hstep, B, List.mem_singleton_self _, ?_⟩
              rw [hi]
              exact a_gm_ok gg (by unfold ld; rw [hx]) this.1 this.2 hB
            · cases h
    · cases h
  · cases h
theorem a_iald_ok (n : Nat) : ai_ok w (s_iald n) (a_ald w 0 n) := a_ald_ok 0 n _ (fun pc cl i a cs w len g h1 h2 => by simp only [s_iald]; rw [h1]; simp only; rw [h2]; rfl)
theorem a_bald_ok (n : Nat) : ai_ok w (s_bald n) (a_ald w 1 n) := a_ald_ok 1 n _ (fun pc cl i a cs w len g h1 h2 => by simp only [s_bald]; rw [h1]; simp only; rw [h2]; rfl)
theorem a_zald_ok (n : Nat) : ai_ok w (s_zald n) (a_ald w 2 n) := a_ald_ok 2 n _ (fun pc cl i a cs w len g h1 h2 => by simp only [s_zald]; rw [h1]; simp only; rw [h2]; rfl)
noncomputable def a_lald (w : AW) (n : Nat) : AS → Option (List AS) := fun A => match A.2.2.1 with
  | .inl (k, o) :: .inr (.inr (.inl a)) :: st => match w.1.1[a]?, iv_rng A.2.2.2.1 k o with
    | some (.inr (.inl len)), some (l, u) => bif decide (0 ≤ l) && decide (u < (len : Int)) then some [a_pl n A.2.1 st A.2.2.2.1 A.2.2.2.2 (-9223372036854775808) 9223372036854775807] else none
    | _, _ => none
  | _ => none
theorem a_lald_ok (n : Nat) : ai_ok w (s_lald n) (a_lald w n) := by
  rintro E ⟨pc, lv, st, iv, ex⟩ ⟨pc', cl, cs, W⟩ As ⟨ρ, g1, g2, g3, g4, g5⟩ h
  simp only [a_lald] at h
  split at h
  · rename_i k o a st'
    split at h
    · rename_i len l u hc hr
      cases hb : (decide (0 ≤ l) && decide (u < (len : Int))) with
      | false => rw [hb] at h; cases h
      | true =>
        rw [hb] at h
        cases h
        simp only [Bool.and_eq_true, decide_eq_true_eq] at hb
        obtain ⟨v, cs, rfl, ha, hr0⟩ := f2_cons g4
        obtain ⟨u', cs, rfl, hc1, hs2⟩ := f2_cons hr0
        obtain ⟨i, rfl, ha⟩ := av_int ha
        obtain rfl := av_ref hc1
        obtain ⟨x, hx, hg⟩ := hs_at g5.1 hc
        dsimp only at hx
        match x, hx, hg with
        | .inl (t2, len2, .inr (.inl g)), hx, hg =>
          obtain ⟨rfl, rfl⟩ := hg
          have b1 := iv_rng_ok g1 ha hr
          have hi := ai_ix (i := i) (len := len2) (by omega) (by omega)
          exact ⟨(n, cl, .long (g i.toNatClampNeg) :: cs, W), by simp only [s_lald]; rw [hx]; simp only; rw [hi]; rfl, _, List.mem_singleton_self _, a_pl_ok (pc := pc) (pc' := pc') (st := st') ⟨g1, g2, g3, hs2, g5⟩ (al_lo _) (al_hi _)⟩
    · cases h
  · cases h
/-- what a store leaves known -/
noncomputable def ex_kill (w : AW) (ex : AX) (a l u : Nat) : AX := (ex.1.filter (fun q => !(Nat.beq q.1.1 a && (Nat.ble l q.1.2 && Nat.ble q.1.2 u))), ex.2.1, ex.2.2.1.filter (fun i => rg_dis (w.1.2.2 i) a l u), ex.2.2.2)
theorem ex_store {E : AEnv} {n : Nat} {ρ : Nat → Int} {ex : AX} {cl : List (Nat × Value)} {h h' : pm_H} {a i l u : Nat} (g : ex_g w E n ρ ex cl h) (hs : hs_g w.1.1 h') (hl : l ≤ i) (hu : i ≤ u) (hM : rg_sub ex.2.2.2.1 a l u = true) (hld : ∀ b k, (b = a → k ≠ i) → ld h' b k = ld h b k) : ex_g w E n ρ (ex_kill w ex a l u) cl h' := by
  obtain ⟨g1, g2, g3, g4, g5, g6⟩ := g
  refine ⟨hs, fun q b hm => ?_, g3, fun j hj => ?_, fun b k hk => ?_, g6⟩
  · obtain ⟨hm1, hm2⟩ := List.mem_filter.mp hm
    obtain ⟨v, e1, e2⟩ := g2 q b hm1
    refine ⟨v, ?_, e2⟩
    rw [hld _ _ (fun hq hk => ?_)]
    · exact e1
    · simp only [hq, hk, Nat.beq_refl, Nat.ble_eq_true_of_le hl, Nat.ble_eq_true_of_le hu, Bool.and_self, Bool.not_true] at hm2
      cases hm2
  · obtain ⟨hm1, hm2⟩ := List.mem_filter.mp hj
    refine w.2 j h h' g1 hs (fun b k hbk => hld b k (fun hq hk => ?_)) (g4 j hm1)
    subst hq; subst hk
    rw [rg_dis_in hm2 hl hu] at hbk
    cases hbk
  · rw [hld b k (fun hq hk' => ?_)]
    · exact g5 b k hk
    · subst hq; subst hk'
      have hk : rg_in ex.2.2.2.1 b k = false := hk
      rw [rg_sub_in hM hl hu] at hk
      cases hk
/-- a store whose place is known is remembered -/
noncomputable def ex_note (ex : AX) (a k : Nat) (v : AV) : AX := (((a, k), v) :: ex.1, ex.2)
theorem ex_note_ok {E : AEnv} {n : Nat} {ρ : Nat → Int} {ex : AX} {cl : List (Nat × Value)} {h : pm_H} {a k : Nat} {b : AV} {v : Value} (g : ex_g w E n ρ ex cl h) (hl : ld h a k = some v) (hv : av_g n ρ b v) : ex_g w E n ρ (ex_note ex a k b) cl h := by
  refine ⟨g.1, fun q c hm => ?_, g.2.2⟩
  cases List.mem_cons.mp hm with
  | inl e => cases e; exact ⟨v, hl, hv⟩
  | inr hm => exact g.2.1 q c hm
theorem ld_set_ne {h : pm_H} {a b k : Nat} {x : pm_E} (hb : b ≠ a) : ld (h.set a x) b k = ld h b k := by
  unfold ld
  rw [List.getElem?_set_ne (Ne.symm hb)]
theorem ld_seti {h : pm_H} {a b k i t len t' len' : Nat} {f : Nat → Int32} {v : Int32} (ha : h[a]? = some (.inl (t', len', .inl f))) (hbk : b = a → k ≠ i) : ld (h.set a (.inl (t, len, .inl (upd f i v)))) b k = ld h b k := by
  by_cases hb : b = a
  · subst hb
    have hl : b < h.length := (List.getElem?_eq_some_iff.mp ha).1
    unfold ld
    rw [List.getElem?_set_self hl, ha]
    simp only [upd, if_neg (hbk rfl)]
  · exact ld_set_ne hb
theorem ld_setl {h : pm_H} {a b k i t len t' len' : Nat} {f : Nat → Int64} {v : Int64} (ha : h[a]? = some (.inl (t', len', .inr (.inl f)))) (hbk : b = a → k ≠ i) : ld (h.set a (.inl (t, len, .inr (.inl (vp_updL f i v))))) b k = ld h b k := by
  by_cases hb : b = a
  · subst hb
    have hl : b < h.length := (List.getElem?_eq_some_iff.mp ha).1
    unfold ld
    rw [List.getElem?_set_self hl, ha]
    simp only [vp_updL, if_neg (hbk rfl)]
  · exact ld_set_ne hb
theorem ld_setf {h : pm_H} {a b k i c c' : Nat} {fs : List Value} {v : Value} (ha : h[a]? = some (.inr (c', fs))) (hbk : b = a → k ≠ i) : ld (h.set a (.inr (c, fs.set i v))) b k = ld h b k := by
  by_cases hb : b = a
  · subst hb
    have hl : b < h.length := (List.getElem?_eq_some_iff.mp ha).1
    unfold ld
    rw [List.getElem?_set_self hl, ha]
    simp only [List.getElem?_set_ne (Ne.symm (hbk rfl))]
  · exact ld_set_ne hb
end AIH
end
section
/-! THE EXECUTOR (second writing), part 9: stores, references, switches, what lies outside -/
section AIT
variable {w : AW}
/-- a value within the bounds of an element, or of all -/
noncomputable def pat_fit (p : List (Int × Int)) (l u a b : Int) : Bool := bif decide (l = u) then (match pat_at p l.toNat with | some (lo, hi) => decide (lo ≤ a) && decide (b ≤ hi) | none => false) else p.all (fun q => decide (q.1 ≤ a) && decide (b ≤ q.2))
theorem pat_fit_ok {p : List (Int × Int)} {f : Nat → Int32} {l u a b : Int} {i x : Int32} (h : ∀ j lo hi, pat_at p j = some (lo, hi) → lo ≤ (f j).toInt ∧ (f j).toInt ≤ hi) (hf : pat_fit p l u a b = true) (h0 : 0 ≤ l) (h1 : l ≤ i.toInt) (h2 : i.toInt ≤ u) (h3 : a ≤ x.toInt) (h4 : x.toInt ≤ b) :
    ∀ j lo hi, pat_at p j = some (lo, hi) → lo ≤ (upd f i.toNatClampNeg x j).toInt ∧ (upd f i.toNatClampNeg x j).toInt ≤ hi := by
  intro j lo hi hp
  unfold upd
  by_cases hj : j = i.toNatClampNeg
  · rw [if_pos hj]
    unfold pat_fit at hf
    cases hd : decide (l = u) with
    | true =>
      rw [hd, cond_true] at hf
      have hd := of_decide_eq_true hd
      have hi : j = l.toNat := by rw [hj]; show i.toInt.toNat = l.toNat; omega
      subst hi
      rw [hp] at hf
      simp only [Bool.and_eq_true, decide_eq_true_eq] at hf
      omega
    | false =>
      rw [hd, cond_false] at hf
      have hm : (lo, hi) ∈ p := List.mem_of_getElem? hp
      have := List.all_eq_true.mp hf _ hm
      simp only [Bool.and_eq_true, decide_eq_true_eq] at this
      omega
  · rw [if_neg hj]
    exact h j lo hi hp
/-- a store to an int array of class t: the value as it is, within c and d -/
noncomputable def a_ast (w : AW) (t : Nat) (c d : Int) (n : Nat) : AS → Option (List AS) := fun A => match A.2.2.1 with
  | .inl (kv, ov) :: .inl (k, o) :: .inr (.inr (.inl a)) :: st => match w.1.1[a]?, iv_rng A.2.2.2.1 k o, iv_rng A.2.2.2.1 kv ov with
    | some (.inl (t', len, p)), some (l, u), some (va, vb) => bif (Nat.beq t' t && (decide (0 ≤ l) && decide (u < (len : Int)))) && ((decide (c ≤ va) && decide (vb ≤ d)) && (pat_fit p l u va vb && rg_sub A.2.2.2.2.2.2.2.1 a l.toNat u.toNat)) then some [(n, A.2.1, st, A.2.2.2.1, bif decide (l = u) then ex_note (ex_kill w A.2.2.2.2 a l.toNat u.toNat) a l.toNat (.inl (kv, ov)) else ex_kill w A.2.2.2.2 a l.toNat u.toNat)] else none
    | _, _, _ => none
  | _ => none
theorem a_ast_ok (t : Nat) (c d : Int) (n : Nat) (f : pm_S → Option pm_S) (hf : ∀ (pc : Nat) (cl : List (Nat × Value)) (x i : Int32) (a : Nat) (cs : List Value) (W : pm_H × Nat × Nat) (len : Nat) (g : Nat → Int32), W.1[a]? = some (.inl (t, len, .inl g)) → pm_ix i len = true → c ≤ x.toInt → x.toInt ≤ d → f (pc, cl, .int x :: .int i :: .ref a :: cs, W) = some (n, cl, cs, W.1.set a (.inl (t, len, .inl (upd g i.toNatClampNeg x))), W.2)) : ai_ok w f (a_ast w t c d n) := by
  rintro E ⟨pc, lv, st, iv, ex⟩ ⟨pc', cl, cs, W⟩ As ⟨ρ, g1, g2, g3, g4, g5⟩ h
  simp only [a_ast] at h
  split at h
  · rename_i kv ov k o a st'
    split at h
    · rename_i t' len p l u va vb hc hr hrv
      cases hb : ((Nat.beq t' t && (decide (0 ≤ l) && decide (u < (len : Int)))) && ((decide (c ≤ va) && decide (vb ≤ d)) && (pat_fit p l u va vb && rg_sub ex.2.2.2.1 a l.toNat u.toNat))) with
      | false => rw [hb] at h; cases h
      | true =>
        rw [hb] at h
        cases h
        simp only [Bool.and_eq_true, decide_eq_true_eq] at hb
        obtain ⟨⟨hb1, hb2, hb3⟩, ⟨hb4, hb5⟩, hb6, hb7⟩ := hb
        have ht : t' = t := Nat.eq_of_beq_eq_true hb1
        subst ht
        obtain ⟨v0, cs, rfl, hv, hr00⟩ := f2_cons g4
        obtain ⟨v, cs, rfl, ha, hr0⟩ := f2_cons hr00
        obtain ⟨u', cs, rfl, hc1, hs2⟩ := f2_cons hr0
        obtain ⟨x, rfl, hv⟩ := av_int hv
        obtain ⟨i, rfl, ha⟩ := av_int ha
        obtain rfl := av_ref hc1
        obtain ⟨z, hx, hg⟩ := hs_at g5.1 hc
        dsimp only at hx
        match z, hx, hg with
        | .inl (t2, len2, .inl g), hx, hg =>
          obtain ⟨rfl, rfl, hall⟩ := hg
          have b1 := iv_rng_ok g1 ha hr
          have b2 := iv_rng_ok g1 hv hrv
          have hstep := hf pc' cl x i a cs W _ g hx (ai_ix (by omega) (by omega)) (by omega) (by omega)
          have hh : hs_g w.1.1 (W.1.set a (.inl (t2, len2, .inl (upd g i.toNatClampNeg x)))) := hs_set g5.1 hc ⟨rfl, rfl, pat_fit_ok hall hb6 hb2 b1.1 b1.2 b2.1 b2.2⟩
          have hi1 : l.toNat ≤ i.toNatClampNeg := by show l.toNat ≤ i.toInt.toNat; omega
          have hi2 : i.toNatClampNeg ≤ u.toNat := by show i.toInt.toNat ≤ u.toNat; omega
          have he : ex_g w E iv.length ρ (ex_kill w ex a l.toNat u.toNat) cl (W.1.set a (.inl (t2, len2, .inl (upd g i.toNatClampNeg x)))) := ex_store g5 hh hi1 hi2 hb7 (fun b k hbk => ld_seti hx hbk)
          refine ⟨_, hstep, _, List.mem_singleton_self _, ρ, g1, rfl, g3, hs2, ?_⟩
          show ex_g w E iv.length ρ (bif decide (l = u) then ex_note (ex_kill w ex a l.toNat u.toNat) a l.toNat (.inl (kv, ov)) else ex_kill w ex a l.toNat u.toNat) cl (W.1.set a (.inl (t2, len2, .inl (upd g i.toNatClampNeg x))))
          cases hd : decide (l = u) with
          | false => exact he
          | true =>
            have hd := of_decide_eq_true hd
            have hi : l.toNat = i.toNatClampNeg := by show l.toNat = i.toInt.toNat; omega
            refine ex_note_ok he (v := .int x) ?_ hv
            have hl : a < W.1.length := (List.getElem?_eq_some_iff.mp hx).1
            unfold ld
            rw [List.getElem?_set_self hl]
            simp only [upd, hi, if_pos]
    · cases h
  · cases h
theorem a_iast_ok (n : Nat) : ai_ok w (s_iast n) (a_ast w 0 (-2147483648) 2147483647 n) := a_ast_ok 0 _ _ n _ (fun pc cl x i a cs W len g h1 h2 _ _ => by simp only [s_iast]; rw [h1]; simp only; rw [h2]; rfl)
theorem a_bast_ok (n : Nat) : ai_ok w (s_bast n) (a_ast w 1 (-128) 127 n) := a_ast_ok 1 _ _ n _ (fun pc cl x i a cs W len g h1 h2 h3 h4 => by
  have hx : vp_nar .byte x = x := by rw [vp_nar_byte]; exact Int32.toInt_inj.mp (i2b_id h3 h4)
  simp only [s_bast]; rw [h1]; simp only; rw [h2, hx]; rfl)
theorem a_zast_ok (n : Nat) : ai_ok w (s_zast n) (a_ast w 2 0 1 n) := a_ast_ok 2 _ _ n _ (fun pc cl x i a cs W len g h1 h2 h3 h4 => by
  have hx : vp_nar .boolean x = x := by
    by_cases h0 : x.toInt = 0
    · have : x = 0 := Int32.toInt_inj.mp h0
      subst this; rfl
    · have : x = 1 := Int32.toInt_inj.mp (by show x.toInt = 1; omega)
      subst this; rfl
  simp only [s_zast]; rw [h1]; simp only; rw [h2, hx]; rfl)
noncomputable def a_last (w : AW) (n : Nat) : AS → Option (List AS) := fun A => match A.2.2.1 with
  | .inr (.inl _) :: .inl (k, o) :: .inr (.inr (.inl a)) :: st => match w.1.1[a]?, iv_rng A.2.2.2.1 k o with
    | some (.inr (.inl len)), some (l, u) => bif (decide (0 ≤ l) && decide (u < (len : Int))) && rg_sub A.2.2.2.2.2.2.2.1 a l.toNat u.toNat then some [(n, A.2.1, st, A.2.2.2.1, ex_kill w A.2.2.2.2 a l.toNat u.toNat)] else none
    | _, _ => none
  | _ => none
theorem a_last_ok (n : Nat) : ai_ok w (s_last n) (a_last w n) := by
  rintro E ⟨pc, lv, st, iv, ex⟩ ⟨pc', cl, cs, W⟩ As ⟨ρ, g1, g2, g3, g4, g5⟩ h
  simp only [a_last] at h
  split at h
  · rename_i va k o a st'
    split at h
    · rename_i len l u hc hr
      cases hb : ((decide (0 ≤ l) && decide (u < (len : Int))) && rg_sub ex.2.2.2.1 a l.toNat u.toNat) with
      | false => rw [hb] at h; cases h
      | true =>
        rw [hb] at h
        cases h
        simp only [Bool.and_eq_true, decide_eq_true_eq] at hb
        obtain ⟨⟨hb2, hb3⟩, hb7⟩ := hb
        obtain ⟨v0, cs, rfl, hv, hr00⟩ := f2_cons g4
        obtain ⟨v, cs, rfl, ha, hr0⟩ := f2_cons hr00
        obtain ⟨u', cs, rfl, hc1, hs2⟩ := f2_cons hr0
        obtain ⟨x, rfl, hv⟩ := av_long hv
        obtain ⟨i, rfl, ha⟩ := av_int ha
        obtain rfl := av_ref hc1
        obtain ⟨z, hx, hg⟩ := hs_at g5.1 hc
        dsimp only at hx
        match z, hx, hg with
        | .inl (t2, len2, .inr (.inl g)), hx, hg =>
          obtain ⟨rfl, rfl⟩ := hg
          have b1 := iv_rng_ok g1 ha hr
          have hi := ai_ix (i := i) (len := len2) (by omega) (by omega)
          have hh : hs_g w.1.1 (W.1.set a (.inl (3, len2, .inr (.inl (vp_updL g i.toNatClampNeg x))))) := hs_set g5.1 hc ⟨rfl, rfl⟩
          have hi1 : l.toNat ≤ i.toNatClampNeg := by show l.toNat ≤ i.toInt.toNat; omega
          have hi2 : i.toNatClampNeg ≤ u.toNat := by show i.toInt.toNat ≤ u.toNat; omega
          exact ⟨(n, cl, cs, W.1.set a (.inl (3, len2, .inr (.inl (vp_updL g i.toNatClampNeg x)))), W.2), by simp only [s_last]; rw [hx]; simp only; rw [hi]; rfl, _, List.mem_singleton_self _, ρ, g1, rfl, g3, hs2, ex_store g5 hh hi1 hi2 hb7 (fun b k hbk => ld_setl hx hbk)⟩
    · cases h
  · cases h
/-- a field is stored to -/
noncomputable def a_putf (w : AW) (ci k : Nat) (ty : FieldType) (n : Nat) : AS → Option (List AS) := fun A => match A.2.2.1 with
  | v :: .inr (.inr (.inl a)) :: st => match w.1.1[a]? with
    | some (.inr (.inr (.inr (cj, fs)))) => bif Nat.beq cj ci && rg_sub A.2.2.2.2.2.2.2.1 a k k then (match fs[k]?, v, ty with
      | some (.inl (lo, hi)), .inl (kv, ov), .int => match iv_rng A.2.2.2.1 kv ov with
        | some (va, vb) => bif decide (lo ≤ va) && decide (vb ≤ hi) then some [(n, A.2.1, st, A.2.2.2.1, ex_note (ex_kill w A.2.2.2.2 a k k) a k (.inl (kv, ov)))] else none
        | none => none
      | some (.inl (lo, hi)), .inl (kv, ov), .boolean => match iv_rng A.2.2.2.1 kv ov with
        | some (va, vb) => bif (decide (lo ≤ va) && decide (vb ≤ hi)) && (decide (0 ≤ va) && decide (vb ≤ 1)) then some [(n, A.2.1, st, A.2.2.2.1, ex_note (ex_kill w A.2.2.2.2 a k k) a k (.inl (kv, ov)))] else none
        | none => none
      | some (.inr (.inl ())), .inr (.inl _), .long => some [(n, A.2.1, st, A.2.2.2.1, ex_kill w A.2.2.2.2 a k k)]
      | _, _, _ => none) else none
    | _ => none
  | _ => none
theorem a_putf_ok (ci k : Nat) (ty : FieldType) (n : Nat) : ai_ok w (s_putf ci k ty n) (a_putf w ci k ty n) := by
  rintro E ⟨pc, lv, st, iv, ex⟩ ⟨pc', cl, cs, W⟩ As ⟨ρ, g1, g2, g3, g4, g5⟩ h
  simp only [a_putf] at h
  split at h
  · rename_i v a st'
    split at h
    · rename_i cj fs hc
      cases hb : (Nat.beq cj ci && rg_sub ex.2.2.2.1 a k k) with
      | false => rw [hb] at h; cases h
      | true =>
        rw [hb, cond_true] at h
        rw [Bool.and_eq_true] at hb
        obtain ⟨hb1, hb2⟩ := hb
        obtain ⟨v0, cs, rfl, hv, hr0⟩ := f2_cons g4
        obtain ⟨u', cs, rfl, hc1, hs2⟩ := f2_cons hr0
        obtain rfl := av_ref hc1
        obtain ⟨z, hx, hg⟩ := hs_at g5.1 hc
        dsimp only at hx
        match z, hx, hg with
        | .inr (cq, vs), hx, hg =>
          obtain ⟨rfl, hlen, hall⟩ := hg
          have key : ∀ cf, fs[k]? = some cf → af_g cf v0 → pm_fit ty v0 = true → s_putf ci k ty n (pc', cl, v0 :: .ref a :: cs, W) = some (n, cl, cs, W.1.set a (.inr (cq, vs.set k v0)), W.2) ∧ hs_g w.1.1 (W.1.set a (.inr (cq, vs.set k v0))) ∧ ld (W.1.set a (.inr (cq, vs.set k v0))) a k = some v0 := by
            intro cf hcf haf hfit
            have hl : k < fs.length := (List.getElem?_eq_some_iff.mp hcf).1
            have hl' : k < vs.length := by omega
            have hla : a < W.1.length := (List.getElem?_eq_some_iff.mp hx).1
            refine ⟨?_, hs_set g5.1 hc ⟨rfl, by rw [List.length_set]; exact hlen, fun q c y h1 h2 => ?_⟩, ?_⟩
            · simp only [s_putf]
              rw [hx]
              simp only
              have hlt : Nat.blt k vs.length = true := Nat.ble_eq_true_of_le hl'
              rw [hb1, hfit, hlt]
              rfl
            · by_cases hq : k = q
              · subst hq
                rw [List.getElem?_set_self hl'] at h2
                cases h2
                rw [hcf] at h1
                cases h1
                exact haf
              · rw [List.getElem?_set_ne hq] at h2
                exact hall q c y h1 h2
            · unfold ld
              rw [List.getElem?_set_self hla]
              simp only [List.getElem?_set_self hl']
          have hkill : hs_g w.1.1 (W.1.set a (.inr (cq, vs.set k v0))) → ex_g w E iv.length ρ (ex_kill w ex a k k) cl (W.1.set a (.inr (cq, vs.set k v0))) := fun hh => ex_store g5 hh (Nat.le_refl _) (Nat.le_refl _) hb2 (fun b q hbk => ld_setf hx hbk)
          split at h
          · rename_i lo hi kv ov hfk
            split at h
            · rename_i va vb hrv
              cases hd : (decide (lo ≤ va) && decide (vb ≤ hi)) with
              | false => rw [hd] at h; cases h
              | true =>
                rw [hd] at h
                cases h
                simp only [Bool.and_eq_true, decide_eq_true_eq] at hd
                obtain ⟨x, rfl, hv'⟩ := av_int hv
                have b2 := iv_rng_ok g1 hv' hrv
                obtain ⟨k1, k2, k3⟩ := key _ hfk (show lo ≤ x.toInt ∧ x.toInt ≤ hi by omega) rfl
                exact ⟨_, k1, _, List.mem_singleton_self _, ρ, g1, rfl, g3, hs2, ex_note_ok (hkill k2) k3 hv⟩
            · cases h
          · rename_i lo hi kv ov hfk
            split at h
            · rename_i va vb hrv
              cases hd : ((decide (lo ≤ va) && decide (vb ≤ hi)) && (decide (0 ≤ va) && decide (vb ≤ 1))) with
              | false => rw [hd] at h; cases h
              | true =>
                rw [hd] at h
                cases h
                simp only [Bool.and_eq_true, decide_eq_true_eq] at hd
                obtain ⟨x, rfl, hv'⟩ := av_int hv
                have b2 := iv_rng_ok g1 hv' hrv
                have hfit : pm_fit .boolean (.int x) = true := by
                  by_cases h0 : x.toInt = 0
                  · have : x = 0 := Int32.toInt_inj.mp h0
                    subst this; rfl
                  · have : x = 1 := Int32.toInt_inj.mp (by show x.toInt = 1; omega)
                    subst this; rfl
                obtain ⟨k1, k2, k3⟩ := key _ hfk (show lo ≤ x.toInt ∧ x.toInt ≤ hi by omega) hfit
                exact ⟨_, k1, _, List.mem_singleton_self _, ρ, g1, rfl, g3, hs2, ex_note_ok (hkill k2) k3 hv⟩
            · cases h
          · rename_i kv hfk
            cases h
            obtain ⟨x, rfl, hv'⟩ := av_long hv
            obtain ⟨k1, k2, k3⟩ := key _ hfk trivial rfl
            exact ⟨_, k1, _, List.mem_singleton_self _, ρ, g1, rfl, g3, hs2, hkill k2⟩
          · cases h
    · cases h
  · cases h
/-- one state for each number from l on -/
noncomputable def a_each (k : Option Nat) (o : Int) (iv : IV) (f : Nat → IV → Option AS) : Nat → Nat → List AS
  | _, 0 => []
  | l, m + 1 => (match iv_nar iv k o (l : Int) (l : Int) with | some iv' => (f l iv').toList | none => []) ++ a_each k o iv f (l + 1) m
theorem a_each_in {k : Option Nat} {o : Int} {iv : IV} {f : Nat → IV → Option AS} {iv' : IV} {B : AS} {j : Nat} (h1 : iv_nar iv k o (j : Int) (j : Int) = some iv') (h2 : f j iv' = some B) : ∀ (m l : Nat), l ≤ j → j < l + m → B ∈ a_each k o iv f l m
  | 0, l, h3, h4 => absurd h4 (by omega)
  | m + 1, l, h3, h4 => by
    unfold a_each
    by_cases hj : l = j
    · subst hj
      rw [h1]
      simp only [h2]
      exact List.mem_append_left _ (List.mem_singleton_self _)
    · exact List.mem_append_right _ (a_each_in h1 h2 m (l + 1) (by omega) (by omega))
/-- a reference out of an array -/
noncomputable def a_aald (w : AW) (t n : Nat) : AS → Option (List AS) := fun A => match A.2.2.1 with
  | .inl (k, o) :: .inr (.inr (.inl a)) :: st => match w.1.1[a]?, iv_rng A.2.2.2.1 k o with
    | some (.inr (.inr (.inl (t', fs)))), some (l, u) => bif Nat.beq t' t && ((decide (0 ≤ l) && decide (u < (fs.length : Int))) && fs.all (fun q => q.isSome)) then some (a_each k o A.2.2.2.1 (fun j iv' => match fs[j]? with
        | some (some r) => some (n, A.2.1, .inr (.inr (.inl r)) :: st, iv', A.2.2.2.2)
        | _ => none) l.toNat (u - l + 1).toNat) else none
    | _, _ => none
  | _ => none
theorem a_aald_ok (t n : Nat) : ai_ok w (s_aald t n) (a_aald w t n) := by
  rintro E ⟨pc, lv, st, iv, ex⟩ ⟨pc', cl, cs, W⟩ As ⟨ρ, g1, g2, g3, g4, g5⟩ h
  simp only [a_aald] at h
  split at h
  · rename_i k o a st'
    split at h
    · rename_i t' fs l u hc hr
      cases hb : (Nat.beq t' t && ((decide (0 ≤ l) && decide (u < (fs.length : Int))) && fs.all (fun q => q.isSome))) with
      | false => rw [hb] at h; cases h
      | true =>
        rw [hb] at h
        cases h
        simp only [Bool.and_eq_true, decide_eq_true_eq] at hb
        obtain ⟨hb1, ⟨hb2, hb3⟩, hb4⟩ := hb
        obtain ⟨v, cs, rfl, ha, hr0⟩ := f2_cons g4
        obtain ⟨u', cs, rfl, hc1, hs2⟩ := f2_cons hr0
        obtain ⟨i, rfl, ha⟩ := av_int ha
        obtain rfl := av_ref hc1
        obtain ⟨z, hx, hg⟩ := hs_at g5.1 hc
        dsimp only at hx
        match z, hx, hg with
        | .inl (t2, len2, .inr (.inr (.inr (.inr g)))), hx, hg =>
          obtain ⟨rfl, rfl, hall⟩ := hg
          have b1 := iv_rng_ok g1 ha hr
          have hi := ai_ix (i := i) (len := fs.length) (by omega) (by omega)
          have hlt : i.toNatClampNeg < fs.length := by show i.toInt.toNat < fs.length; omega
          have hfi : fs[i.toNatClampNeg]? = some fs[i.toNatClampNeg] := List.getElem?_eq_getElem hlt
          have hsm := List.all_eq_true.mp hb4 _ (List.getElem_mem hlt)
          obtain ⟨r, hr'⟩ := Option.isSome_iff_exists.mp hsm
          rw [hr'] at hfi
          have hgi := hall _ _ hfi
          have hcast : ((i.toNatClampNeg : Nat) : Int) = i.toInt := by show ((i.toInt.toNat : Nat) : Int) = i.toInt; omega
          obtain ⟨iv', e1, e2, e3⟩ := iv_nar_ok (lo := (i.toNatClampNeg : Int)) (hi := (i.toNatClampNeg : Int)) g1 ha (by omega) (by omega)
          have gg : as_r w E ρ (pc, lv, st', iv, ex) (pc', cl, cs, W) := ⟨g1, g2, g3, hs2, g5⟩
          obtain ⟨q1, q2, q3, q4, q5⟩ := as_iv gg e2 e3
          refine ⟨(n, cl, .ref r :: cs, W), ?_, (n, lv, .inr (.inr (.inl r)) :: st', iv', ex), a_each_in e1 (by simp only [hfi]) _ _ ?_ ?_, ρ, q1, rfl, q3, ⟨rfl, q4⟩, q5⟩
          · simp only [s_aald]
            rw [hx]
            simp only
            rw [hb1, hi, hgi]
            rfl
          · show l.toNat ≤ i.toInt.toNat; omega
          · show i.toInt.toNat < l.toNat + _; omega
    · cases h
  · cases h
/-- a switch -/
noncomputable def a_tsw (lo hi : Int) (ts : List Nat) (d : Nat) : AS → Option (List AS) := fun A => match A.2.2.1 with
  | .inl (k, o) :: st => bif decide ((ts.length : Int) = hi - lo + 1) then some (a_each k (o - lo) A.2.2.2.1 (fun j iv' => match ts[j]? with
        | some t => some (t, A.2.1, st, iv', A.2.2.2.2)
        | none => none) 0 ts.length ++ ((match iv_nar A.2.2.2.1 k o (-2147483648) (lo - 1) with | some iv' => [(d, A.2.1, st, iv', A.2.2.2.2)] | none => []) ++ (match iv_nar A.2.2.2.1 k o (hi + 1) 2147483647 with | some iv' => [(d, A.2.1, st, iv', A.2.2.2.2)] | none => []))) else none
  | _ => none
theorem a_tsw_ok (lo hi : Int) (ts : List Nat) (d : Nat) : ai_ok w (s_tsw lo hi ts d) (a_tsw lo hi ts d) := by
  rintro E ⟨pc, lv, st, iv, ex⟩ ⟨pc', cl, cs, W⟩ As ⟨ρ, g1, g2, g3, g4, g5⟩ h
  simp only [a_tsw] at h
  split at h
  · rename_i k o st'
    cases hb : decide ((ts.length : Int) = hi - lo + 1) with
    | false => rw [hb] at h; cases h
    | true =>
      rw [hb] at h
      cases h
      have hb1 := of_decide_eq_true hb
      obtain ⟨v, cs, rfl, ha, hr⟩ := f2_cons g4
      obtain ⟨x, rfl, ha⟩ := av_int ha
      have gg : as_r w E ρ (pc, lv, st', iv, ex) (pc', cl, cs, W) := ⟨g1, g2, g3, hr, g5⟩
      have xl := ai_lo x
      have xh := ai_hi x
      by_cases h1 : x.toInt < lo
      · obtain ⟨iv', e1, e2, e3⟩ := iv_nar_ok (lo := -2147483648) (hi := lo - 1) g1 ha (by omega) (by omega)
        obtain ⟨q1, q2, q3, q4, q5⟩ := as_iv gg e2 e3
        refine ⟨(d, cl, cs, W), by simp only [s_tsw, h1, decide_true, Bool.true_or, cond_true], (d, lv, st', iv', ex), ?_, ρ, q1, rfl, q3, q4, q5⟩
        refine List.mem_append_right _ (List.mem_append_left _ ?_)
        rw [e1]
        exact List.mem_singleton_self _
      · by_cases h2 : hi < x.toInt
        · obtain ⟨iv', e1, e2, e3⟩ := iv_nar_ok (lo := hi + 1) (hi := 2147483647) g1 ha (by omega) (by omega)
          obtain ⟨q1, q2, q3, q4, q5⟩ := as_iv gg e2 e3
          refine ⟨(d, cl, cs, W), by simp only [s_tsw, h2, decide_true, Bool.or_true, cond_true], (d, lv, st', iv', ex), ?_, ρ, q1, rfl, q3, q4, q5⟩
          refine List.mem_append_right _ (List.mem_append_right _ ?_)
          rw [e1]
          exact List.mem_singleton_self _
        · have hlt : (x.toInt - lo).toNat < ts.length := by omega
          have hj : ts[(x.toInt - lo).toNat]? = some ts[(x.toInt - lo).toNat] := List.getElem?_eq_getElem hlt
          have hc : (((x.toInt - lo).toNat : Nat) : Int) = x.toInt - lo := by omega
          have ha2 : av_ev iv.length ρ k (o - lo) (x.toInt - lo) := by
            cases k with
            | none => have ha : x.toInt = o := ha; show x.toInt - lo = o - lo; omega
            | some k => exact ⟨ha.1, by have := ha.2; show x.toInt - lo = ρ k + (o - lo); omega⟩
          obtain ⟨iv', e1, e2, e3⟩ := iv_nar_ok (lo := ((x.toInt - lo).toNat : Int)) (hi := ((x.toInt - lo).toNat : Int)) g1 ha2 (by omega) (by omega)
          obtain ⟨q1, q2, q3, q4, q5⟩ := as_iv gg e2 e3
          refine ⟨(ts[(x.toInt - lo).toNat], cl, cs, W), ?_, (ts[(x.toInt - lo).toNat], lv, st', iv', ex), List.mem_append_left _ (a_each_in e1 (by simp only [hj]) _ _ (by omega) (by omega)), ρ, q1, rfl, q3, q4, q5⟩
          simp only [s_tsw, h1, h2, decide_false, Bool.or_self, cond_false, hj]
  · cases h
end AIT
end
section
/-! THE EXECUTOR (second writing), part 10: what lies outside; cases -/
section AIU
variable {w : AW}
noncomputable def a_sval (n : Nat) : AS → Option (List AS) := fun A => match A.2.2.1 with
  | .inr (.inr (.inr (.inl k))) :: st => bif Nat.ble 4 k && Nat.blt k 12 then some [(n, A.2.1, .inr (.inr (.inr (.inl (k + 8)))) :: st, A.2.2.2)] else none
  | _ => none
theorem a_sval_ok (n : Nat) : ai_ok w (s_sval n) (a_sval n) := by
  rintro E ⟨pc, lv, st, iv, ex⟩ ⟨pc', cl, cs, W⟩ As ⟨ρ, g1, g2, g3, g4, g5⟩ h
  simp only [a_sval] at h
  split at h
  · rename_i k st'
    cases hb : (Nat.ble 4 k && Nat.blt k 12) with
    | false => rw [hb] at h; cases h
    | true =>
      rw [hb] at h
      cases h
      obtain ⟨v, cs, rfl, ha, hr⟩ := f2_cons g4
      obtain rfl := av_out ha
      exact ⟨(n, cl, .retAddr (k + 8) :: cs, W), by simp only [s_sval, hb, cond_true], _, List.mem_singleton_self _, ρ, g1, rfl, g3, ⟨rfl, hr⟩, g5⟩
  · cases h
noncomputable def a_scod (n : Nat) : AS → Option (List AS) := fun A => match A.2.2.1 with
  | .inr (.inr (.inr (.inl k))) :: st => bif Nat.ble 4 k && Nat.blt k 12 then some [(n, A.2.1, .inl (none, 0) :: st, A.2.2.2)] else none
  | _ => none
theorem a_scod_ok (n : Nat) : ai_ok w (s_scod n) (a_scod n) := by
  rintro E ⟨pc, lv, st, iv, ex⟩ ⟨pc', cl, cs, W⟩ As ⟨ρ, g1, g2, g3, g4, g5⟩ h
  simp only [a_scod] at h
  split at h
  · rename_i k st'
    cases hb : (Nat.ble 4 k && Nat.blt k 12) with
    | false => rw [hb] at h; cases h
    | true =>
      rw [hb] at h
      cases h
      obtain ⟨v, cs, rfl, ha, hr⟩ := f2_cons g4
      obtain rfl := av_out ha
      exact ⟨(n, cl, .int 0 :: cs, W), by simp only [s_scod, hb, cond_true], _, List.mem_singleton_self _, ρ, g1, rfl, g3, ⟨rfl, hr⟩, g5⟩
  · cases h
noncomputable def a_sblen (n : Nat) : AS → Option (List AS) := fun A => match A.2.2.1 with
  | .inr (.inr (.inr (.inl k))) :: st => bif Nat.ble 12 k && Nat.blt k 20 then some [(n, A.2.1, .inl (none, (Int32.ofNat (pm_len.getD (k - 12) 0)).toInt) :: st, A.2.2.2)] else none
  | _ => none
theorem a_sblen_ok (n : Nat) : ai_ok w (s_sblen n) (a_sblen n) := by
  rintro E ⟨pc, lv, st, iv, ex⟩ ⟨pc', cl, cs, W⟩ As ⟨ρ, g1, g2, g3, g4, g5⟩ h
  simp only [a_sblen] at h
  split at h
  · rename_i k st'
    cases hb : (Nat.ble 12 k && Nat.blt k 20) with
    | false => rw [hb] at h; cases h
    | true =>
      rw [hb] at h
      cases h
      obtain ⟨v, cs, rfl, ha, hr⟩ := f2_cons g4
      obtain rfl := av_out ha
      exact ⟨(n, cl, .int (Int32.ofNat (pm_len.getD (k - 12) 0)) :: cs, W), by simp only [s_sblen, hb, cond_true], _, List.mem_singleton_self _, ρ, g1, rfl, g3, ⟨rfl, hr⟩, g5⟩
  · cases h
theorem byt_rg (k j : Nat) : 0 ≤ ((pm_byt.getD k []).getD j 0).toInt ∧ ((pm_byt.getD k []).getD j 0).toInt ≤ 127 := by
  have hall : ∀ l ∈ pm_byt, ∀ b ∈ l, 0 ≤ b.toInt ∧ b.toInt ≤ 127 := by decide +kernel
  have h0 : 0 ≤ (0 : Int32).toInt ∧ (0 : Int32).toInt ≤ 127 := by decide
  rw [List.getD_eq_getElem?_getD, List.getD_eq_getElem?_getD]
  cases hk : pm_byt[k]? with
  | none => exact h0
  | some l =>
    show 0 ≤ (l[j]?.getD 0).toInt ∧ (l[j]?.getD 0).toInt ≤ 127
    cases hj : l[j]? with
    | none => exact h0
    | some b => exact hall l (List.mem_of_getElem? hk) b (List.mem_of_getElem? hj)
noncomputable def a_sbald (n : Nat) : AS → Option (List AS) := fun A => match A.2.2.1 with
  | .inl (kk, o) :: .inr (.inr (.inr (.inl k))) :: st => match iv_rng A.2.2.2.1 kk o with
    | some (l, u) => bif (Nat.ble 12 k && Nat.blt k 20) && (decide (0 ≤ l) && decide (u < ((pm_len.getD (k - 12) 0 : Nat) : Int))) then some [a_pi n A.2.1 st A.2.2.2.1 A.2.2.2.2 0 127] else none
    | none => none
  | _ => none
theorem a_sbald_ok (n : Nat) : ai_ok w (s_sbald n) (a_sbald n) := by
  rintro E ⟨pc, lv, st, iv, ex⟩ ⟨pc', cl, cs, W⟩ As ⟨ρ, g1, g2, g3, g4, g5⟩ h
  simp only [a_sbald] at h
  split at h
  · rename_i kk o k st'
    split at h
    · rename_i l u r
      cases hb : ((Nat.ble 12 k && Nat.blt k 20) && (decide (0 ≤ l) && decide (u < ((pm_len.getD (k - 12) 0 : Nat) : Int)))) with
      | false => rw [hb] at h; cases h
      | true =>
        rw [hb] at h
        cases h
        rw [Bool.and_eq_true] at hb
        obtain ⟨hb1, hb2⟩ := hb
        simp only [Bool.and_eq_true, decide_eq_true_eq] at hb2
        obtain ⟨v, cs, rfl, ha, hr0⟩ := f2_cons g4
        obtain ⟨v2, cs, rfl, hc, hr⟩ := f2_cons hr0
        obtain ⟨i, rfl, ha⟩ := av_int ha
        obtain rfl := av_out hc
        have b1 := iv_rng_ok g1 ha r
        have hi := ai_ix (i := i) (len := pm_len.getD (k - 12) 0) (by omega) (by omega)
        have hv := byt_rg (k - 12) i.toNatClampNeg
        exact ⟨(n, cl, .int ((pm_byt.getD (k - 12) []).getD i.toNatClampNeg 0) :: cs, W), by simp only [s_sbald, hb1, hi, Bool.and_self, cond_true], _, List.mem_singleton_self _, a_pi_ok (st := st') (pc := pc) (pc' := pc') ⟨g1, g2, g3, hr, g5⟩ hv.1 hv.2⟩
    · cases h
  · cases h
theorem fac_rg : ∀ j : Fin 9, 1 ≤ (pm_fac j.1).toInt ∧ (pm_fac j.1).toInt ≤ 40320 := by decide +kernel
theorem rbs_rg : ∀ j : Fin 55, 0 ≤ (pm_rbs j.1).toInt ∧ (pm_rbs j.1).toInt ≤ 270 := by decide +kernel
noncomputable def a_tald (n : Nat) : AS → Option (List AS) := fun A => match A.2.2.1 with
  | .inl (kk, o) :: .inr (.inr (.inr (.inl 1))) :: st => match iv_rng A.2.2.2.1 kk o with
    | some (l, u) => bif decide (0 ≤ l) && decide (u < 9) then some [a_pi n A.2.1 st A.2.2.2.1 A.2.2.2.2 1 40320] else none
    | none => none
  | .inl (kk, o) :: .inr (.inr (.inr (.inl 2))) :: st => match iv_rng A.2.2.2.1 kk o with
    | some (l, u) => bif decide (0 ≤ l) && decide (u < 55) then some [a_pi n A.2.1 st A.2.2.2.1 A.2.2.2.2 0 270] else none
    | none => none
  | _ => none
theorem a_tald_ok (n : Nat) : ai_ok w (s_tald n) (a_tald n) := by
  rintro E ⟨pc, lv, st, iv, ex⟩ ⟨pc', cl, cs, W⟩ As ⟨ρ, g1, g2, g3, g4, g5⟩ h
  simp only [a_tald] at h
  split at h
  · rename_i kk o st'
    split at h
    · rename_i l u r
      cases hb : (decide (0 ≤ l) && decide (u < 9)) with
      | false => rw [hb] at h; cases h
      | true =>
        rw [hb] at h
        cases h
        simp only [Bool.and_eq_true, decide_eq_true_eq] at hb
        obtain ⟨v, cs, rfl, ha, hr0⟩ := f2_cons g4
        obtain ⟨v2, cs, rfl, hc, hr⟩ := f2_cons hr0
        obtain ⟨i, rfl, ha⟩ := av_int ha
        obtain rfl := av_out hc
        have b1 := iv_rng_ok g1 ha r
        have hi := ai_ix (i := i) (len := 9) (by omega) (by omega)
        have hv := fac_rg ⟨i.toNatClampNeg, by show i.toInt.toNat < 9; omega⟩
        exact ⟨(n, cl, .int (pm_fac i.toNatClampNeg) :: cs, W), by simp only [s_tald, hi, cond_true], _, List.mem_singleton_self _, a_pi_ok (st := st') (pc := pc) (pc' := pc') ⟨g1, g2, g3, hr, g5⟩ hv.1 hv.2⟩
    · cases h
  · rename_i kk o st'
    split at h
    · rename_i l u r
      cases hb : (decide (0 ≤ l) && decide (u < 55)) with
      | false => rw [hb] at h; cases h
      | true =>
        rw [hb] at h
        cases h
        simp only [Bool.and_eq_true, decide_eq_true_eq] at hb
        obtain ⟨v, cs, rfl, ha, hr0⟩ := f2_cons g4
        obtain ⟨v2, cs, rfl, hc, hr⟩ := f2_cons hr0
        obtain ⟨i, rfl, ha⟩ := av_int ha
        obtain rfl := av_out hc
        have b1 := iv_rng_ok g1 ha r
        have hi := ai_ix (i := i) (len := 55) (by omega) (by omega)
        have hv := rbs_rg ⟨i.toNatClampNeg, by show i.toInt.toNat < 55; omega⟩
        exact ⟨(n, cl, .int (pm_rbs i.toNatClampNeg) :: cs, W), by simp only [s_tald, hi, cond_true], _, List.mem_singleton_self _, a_pi_ok (st := st') (pc := pc) (pc' := pc') ⟨g1, g2, g3, hr, g5⟩ hv.1 hv.2⟩
    · cases h
  · cases h
/-- one state for each value of the int on the stack -/
noncomputable def as_split (A : AS) : Option (List AS) := match A.2.2.1 with
  | .inl (k, o) :: _ => match iv_rng A.2.2.2.1 k o with
    | some (l, u) => bif decide (0 ≤ l) then some (a_each k o A.2.2.2.1 (fun _ iv' => some (A.1, A.2.1, A.2.2.1, iv', A.2.2.2.2)) l.toNat (u - l + 1).toNat) else none
    | none => none
  | _ => none
theorem as_split_ok {E : AEnv} {A : AS} {σ : pm_S} {As : List AS} (g : as_g w E A σ) (h : as_split A = some As) : ∃ B ∈ As, as_g w E B σ := by
  obtain ⟨ρ, g⟩ := g
  obtain ⟨pc, lv, st, iv, ex⟩ := A
  obtain ⟨pc', cl, cs, W⟩ := σ
  obtain ⟨g1, g2, g3, g4, g5⟩ := id g
  simp only [as_split] at h
  split at h
  · rename_i k o st' e0
    split at h
    · rename_i l u r
      cases hb : decide (0 ≤ l) with
      | false => rw [hb] at h; cases h
      | true =>
        rw [hb] at h
        cases h
        have hb := of_decide_eq_true hb
        have g4 := g4
        dsimp only at g4
        obtain ⟨v, cs', e1, ha, hr⟩ := f2_cons g4
        obtain ⟨x, rfl, ha⟩ := av_int ha
        have b1 := iv_rng_ok g1 ha r
        obtain ⟨iv', e1, e2, e3⟩ := iv_nar_ok (lo := (x.toInt.toNat : Int)) (hi := (x.toInt.toNat : Int)) g1 ha (by omega) (by omega)
        exact ⟨_, a_each_in e1 rfl _ _ (by omega) (by omega), ρ, as_iv g e2 e3⟩
    · cases h
  · cases h
end AIU
end
section
/-! THE EXECUTOR (second writing), part 11: calls by what is known of them -/
theorem f2_len {α β : Type} {R : α → β → Prop} : ∀ {l : List α} {m : List β}, f2 R l m → m.length = l.length
  | [], [], _ => rfl
  | [], _ :: _, h => h.elim
  | _ :: _, [], h => h.elim
  | _ :: _, _ :: _, h => congrArg (· + 1) (f2_len h.2)
theorem f2_app {α β : Type} {R : α → β → Prop} {l' : List α} {m' : List β} (h' : f2 R l' m') : ∀ {l : List α} {m : List β}, f2 R l m → f2 R (l ++ l') (m ++ m')
  | [], [], _ => h'
  | [], _ :: _, h => h.elim
  | _ :: _, [], h => h.elim
  | _ :: _, _ :: _, h => ⟨h.1, f2_app h' h.2⟩
theorem f2_rev {α β : Type} {R : α → β → Prop} : ∀ {l : List α} {m : List β}, f2 R l m → f2 R l.reverse m.reverse
  | [], [], _ => trivial
  | [], _ :: _, h => h.elim
  | _ :: _, [], h => h.elim
  | a :: l, b :: m, h => by
    rw [List.reverse_cons, List.reverse_cons]
    exact f2_app (l' := [a]) (m' := [b]) ⟨h.1, trivial⟩ (f2_rev h.2)
theorem f2_take {α β : Type} {R : α → β → Prop} : ∀ (k : Nat) {l : List α} {m : List β}, f2 R l m → f2 R (l.take k) (m.take k)
  | 0, _, _, _ => by simp only [List.take_zero]; trivial
  | k + 1, [], [], _ => trivial
  | k + 1, [], _ :: _, h => h.elim
  | k + 1, _ :: _, [], h => h.elim
  | k + 1, _ :: _, _ :: _, h => ⟨h.1, f2_take k h.2⟩
theorem f2_drop {α β : Type} {R : α → β → Prop} : ∀ (k : Nat) {l : List α} {m : List β}, f2 R l m → f2 R (l.drop k) (m.drop k)
  | 0, _, _, h => h
  | k + 1, [], [], _ => trivial
  | k + 1, [], _ :: _, h => h.elim
  | k + 1, _ :: _, [], h => h.elim
  | k + 1, _ :: _, _ :: _, h => f2_drop k h.2
noncomputable def av_sz (st : List AV) : Nat := (st.map av_cat).sum
theorem av_sz_eq {n : Nat} {ρ : Nat → Int} : ∀ {l : List AV} {m : List Value}, f2 (fun a v => av_g n ρ a v) l m → pm_sz m = av_sz l
  | [], [], _ => rfl
  | [], _ :: _, h => h.elim
  | _ :: _, [], h => h.elim
  | a :: l, v :: m, h => by
    have ih := av_sz_eq h.2
    have hc := av_cat_eq h.1
    unfold pm_sz av_sz at ih ⊢
    rw [List.map_cons, List.map_cons, List.sum_cons, List.sum_cons, ih, hc]
noncomputable def rc_chk (hs : List AE) (ci : Option Nat) (args : List AV) : Bool := match ci, args with
  | none, _ => true
  | some q, .inr (.inr (.inl a)) :: _ => Nat.blt q 100 && (match hs[a]? with | some (.inr (.inr (.inr (cj, _)))) => Nat.beq cj q | _ => false)
  | some q, .inr (.inr (.inr (.inl k))) :: _ => Nat.ble 100 q && (Nat.ble 4 k && Nat.blt k 12)
  | _, _ => false
theorem rc_chk_ok {hs : List AE} {n : Nat} {ρ : Nat → Int} {h : pm_H} {ci : Option Nat} {args : List AV} {vs : List Value} (H : hs_g hs h) (hv : f2 (fun a v => av_g n ρ a v) args vs) (hc : rc_chk hs ci args = true) :
    ∀ q : Nat, ci = some q → (q < 100 → ∃ (a : Nat) (fs : List Value) (as : List Value), vs = .ref a :: as ∧ h[a]? = some (.inr (q, fs))) ∧ (100 ≤ q → ∃ (i : Nat) (as : List Value), i < 8 ∧ vs = .retAddr (4 + i) :: as) := by
  intro q hq
  subst hq
  unfold rc_chk at hc
  split at hc
  · rename_i e; cases e
  · rename_i q' a rest e
    cases e
    rw [Bool.and_eq_true] at hc
    have hlt : q < 100 := Nat.le_of_ble_eq_true hc.1
    refine ⟨fun _ => ?_, fun hge => absurd hlt (Nat.not_lt.mpr hge)⟩
    obtain ⟨v, cs, rfl, ha, hr⟩ := f2_cons hv
    have h2 := hc.2
    split at h2
    · rename_i cj fs0 e2
      have hj : cj = q := Nat.eq_of_beq_eq_true h2
      subst hj
      obtain ⟨x, hx, hg⟩ := hs_at H e2
      obtain rfl := av_ref ha
      match x, hx, hg with
      | .inr (cq, vs'), hx, hg =>
        obtain ⟨rfl, -, -⟩ := hg
        exact ⟨a, vs', cs, rfl, hx⟩
    · cases h2
  · rename_i q' k rest e
    cases e
    rw [Bool.and_eq_true, Bool.and_eq_true] at hc
    have hge : 100 ≤ q := Nat.le_of_ble_eq_true hc.1
    have h4 : 4 ≤ k := Nat.le_of_ble_eq_true hc.2.1
    have h12 : k < 12 := Nat.le_of_ble_eq_true hc.2.2
    refine ⟨fun hlt => absurd hlt (Nat.not_lt.mpr hge), fun _ => ?_⟩
    obtain ⟨v, cs, rfl, ha, hr⟩ := f2_cons hv
    obtain rfl := av_out ha
    refine ⟨k - 4, cs, by omega, ?_⟩
    rw [show 4 + (k - 4) = k by omega]
  · cases hc
/-- an abstract value lies in a kind -/
noncomputable def cv_le (iv : IV) (a : AV) (c : CV) : Bool := match a, c with
  | .inl (k, o), .inl (lo, hi) => match iv_rng iv k o with | some (l, u) => decide (lo ≤ l) && decide (u ≤ hi) | none => false
  | .inr (.inl (k, o)), .inr (.inl (lo, hi)) => match iv_rng iv k o with | some (l, u) => decide (lo ≤ l) && decide (u ≤ hi) | none => false
  | .inr (.inr (.inl a)), .inr (.inr (.inl a')) => Nat.beq a a'
  | .inr (.inr (.inr (.inl a))), .inr (.inr (.inr (.inl a'))) => Nat.beq a a'
  | .inr (.inr (.inr (.inr ()))), .inr (.inr (.inr (.inr ()))) => true
  | _, _ => false
theorem cv_le_ok {E : AEnv} {n : Nat} {ρ : Nat → Int} {iv : IV} {a : AV} {c : CV} {v : Value} (g : ia_g E ρ iv) (hv : av_g n ρ a v) (h : cv_le iv a c = true) : cv_g c v := by
  unfold cv_le at h
  split at h
  · split at h
    · rename_i l u hr
      simp only [Bool.and_eq_true, decide_eq_true_eq] at h
      obtain ⟨x, rfl, hv⟩ := av_int hv
      have := iv_rng_ok g hv hr
      exact ⟨by omega, by omega⟩
    · cases h
  · split at h
    · rename_i l u hr
      simp only [Bool.and_eq_true, decide_eq_true_eq] at h
      obtain ⟨x, rfl, hv⟩ := av_long hv
      have := iv_rng_ok g hv hr
      exact ⟨by omega, by omega⟩
    · cases h
  · have h := Nat.eq_of_beq_eq_true h
    subst h
    cases v <;> first | exact hv | exact hv.elim
  · have h := Nat.eq_of_beq_eq_true h
    subst h
    cases v <;> first | exact hv | exact hv.elim
  · cases v <;> first | exact hv | exact hv.elim
  · cases h
noncomputable def cvs_le (iv : IV) : List AV → List CV → Bool
  | [], [] => true
  | a :: l, c :: m => cv_le iv a c && cvs_le iv l m
  | _, _ => false
theorem cvs_le_ok {E : AEnv} {n : Nat} {ρ : Nat → Int} {iv : IV} (g : ia_g E ρ iv) : ∀ {l : List AV} {m : List CV} {vs : List Value}, f2 (fun a v => av_g n ρ a v) l vs → cvs_le iv l m = true → f2 cv_g m vs
  | [], [], [], _, _ => trivial
  | [], [], _ :: _, h, _ => h.elim
  | [], _ :: _, _, _, h => by cases h
  | _ :: _, [], _, _, h => by cases h
  | _ :: _, _ :: _, [], h, _ => h.elim
  | a :: l, c :: m, v :: vs, hl, h => by
    unfold cvs_le at h
    rw [Bool.and_eq_true] at h
    exact ⟨cv_le_ok g hl.1 h.1, cvs_le_ok g hl.2 h.2⟩
/-- memory by bounds -/
noncomputable abbrev MB : Type := List ((Nat × Nat) × Int × Int)
noncomputable def mm_g (h : pm_H) (m : MB) : Prop := ∀ q ∈ m, ∃ x : Int32, ld h q.1.1 q.1.2 = some (.int x) ∧ q.2.1 ≤ x.toInt ∧ x.toInt ≤ q.2.2
noncomputable def mm_le (iv : IV) (mem : Mem) (m : MB) : Bool := m.all (fun q => match mem_get mem q.1.1 q.1.2 with | some a => cv_le iv a (.inl q.2) | none => false)
theorem mm_le_ok {w : AW} {E : AEnv} {n : Nat} {ρ : Nat → Int} {iv : IV} {ex : AX} {cl : List (Nat × Value)} {h : pm_H} {m : MB} (g : ia_g E ρ iv) (g5 : ex_g w E n ρ ex cl h) (hm : mm_le iv ex.1 m = true) : mm_g h m := by
  intro q hq
  have h1 := List.all_eq_true.mp hm q hq
  split at h1
  · rename_i a e
    obtain ⟨v, e1, e2⟩ := g5.2.1 _ _ (mem_get_in e)
    have h2 := cv_le_ok g e2 h1
    cases v with
    | int x => exact ⟨x, e1, h2⟩
    | _ => exact h2.elim
  · cases h1
/-- a case of what a method does: its arguments, memory and facts behind it, the answer (a kind, or what lies at a place) -/
noncomputable abbrev Cs : Type := List CV × MB × List Nat × Option (CV ⊕ (Nat × Nat))
/-- what is known of a method: number, arguments, memory, facts; what it stores to; cases -/
noncomputable abbrev Sum1 : Type := Nat × List CV × MB × List Nat × List Rng × List Cs
noncomputable def rv_g (h : pm_H) (c : Option (CV ⊕ (Nat × Nat))) (r : Option Value) : Prop := match c, r with
  | none, none => True
  | some (.inl c), some v => cv_g c v
  | some (.inr q), some (.int x) => ld h q.1 q.2 = some (.int x)
  | _, _ => False
noncomputable def cs_g (w : AW) (as : List Value) (h' : pm_H) (r : Option Value) (C : Cs) : Prop := f2 cv_g C.1 as ∧ mm_g h' C.2.1 ∧ (∀ i ∈ C.2.2.1, w.1.2.1 i h') ∧ rv_g h' C.2.2.2 r
noncomputable def fr_g (M : List Rng) (h h' : pm_H) : Prop := ∀ a k, rg_in M a k = false → ld h' a k = ld h a k
noncomputable def sum_g (w : AW) (call : pm_Call) (S : Sum1) : Prop := ∀ (h : pm_H) (as : List Value), hs_g w.1.1 h → f2 cv_g S.2.1 as → mm_g h S.2.2.1 → (∀ i ∈ S.2.2.2.1, w.1.2.1 i h) → ∃ h' r, call S.1 h as h' r ∧ hs_g w.1.1 h' ∧ fr_g S.2.2.2.2.1 h h' ∧ ∃ C ∈ S.2.2.2.2.2, cs_g w as h' r C
/-- arguments narrowed by a case -/
noncomputable def nar_as (iv : IV) : List AV → List CV → Option IV
  | .inl (k, o) :: l, .inl (lo, hi) :: m => match iv_nar iv k o lo hi with | some iv => nar_as iv l m | none => none
  | .inr (.inl (k, o)) :: l, .inr (.inl (lo, hi)) :: m => match iv_nar iv k o lo hi with | some iv => nar_as iv l m | none => none
  | _ :: l, _ :: m => nar_as iv l m
  | _, _ => some iv
theorem nar_as_ok {E : AEnv} {ρ : Nat → Int} : ∀ {l : List AV} {m : List CV} {vs : List Value} {iv : IV}, ia_g E ρ iv → f2 (fun a v => av_g iv.length ρ a v) l vs → f2 cv_g m vs → ∃ iv', nar_as iv l m = some iv' ∧ iv'.length = iv.length ∧ ia_g E ρ iv' := by
  intro l
  induction l with
  | nil => intro m vs iv g _ _; exact ⟨iv, by cases m <;> rfl, rfl, g⟩
  | cons a l ih =>
    intro m vs iv g h1 h2
    cases m with
    | nil => exact ⟨iv, by unfold nar_as; split <;> first | contradiction | rfl, rfl, g⟩
    | cons c m =>
      obtain ⟨v, vs, rfl, ha, hl⟩ := f2_cons h1
      have skip : ∃ iv', nar_as iv l m = some iv' ∧ iv'.length = iv.length ∧ ia_g E ρ iv' := ih g hl h2.2
      rcases a with ⟨k, o⟩ | ⟨k, o⟩ | a | a | ⟨⟩
      · obtain ⟨x, rfl, ha⟩ := av_int ha
        rcases c with ⟨lo, hi⟩ | ⟨lo, hi⟩ | c | c | ⟨⟩
        · obtain ⟨i1, e1, n1, g1⟩ := iv_nar_ok g ha h2.1.1 h2.1.2
          obtain ⟨i2, e2, n2, g2⟩ := ih (m := m) (vs := vs) g1 (by rw [n1]; exact hl) h2.2
          exact ⟨i2, by unfold nar_as; rw [e1]; exact e2, by omega, g2⟩
        · exact h2.1.elim
        · exact h2.1.elim
        · exact h2.1.elim
        · exact h2.1.elim
      · obtain ⟨x, rfl, ha⟩ := av_long ha
        rcases c with ⟨lo, hi⟩ | ⟨lo, hi⟩ | c | c | ⟨⟩
        · exact h2.1.elim
        · obtain ⟨i1, e1, n1, g1⟩ := iv_nar_ok g ha h2.1.1 h2.1.2
          obtain ⟨i2, e2, n2, g2⟩ := ih (m := m) (vs := vs) g1 (by rw [n1]; exact hl) h2.2
          exact ⟨i2, by unfold nar_as; rw [e1]; exact e2, by omega, g2⟩
        · exact h2.1.elim
        · exact h2.1.elim
        · exact h2.1.elim
      · exact skip
      · exact skip
      · exact skip
/-- what a call leaves known -/
noncomputable def ex_call (w : AW) (ex : AX) (M : List Rng) (F : List Nat) : AX := (ex.1.filter (fun q => !(rg_in M q.1.1 q.1.2)), ex.2.1, F ++ ex.2.2.1.filter (fun i => M.all (fun r => rg_dis (w.1.2.2 i) r.1 r.2.1 r.2.2)), ex.2.2.2)
theorem ex_call_ok {w : AW} {E : AEnv} {n : Nat} {ρ : Nat → Int} {ex : AX} {cl : List (Nat × Value)} {h h' : pm_H} {M : List Rng} {F : List Nat} (g : ex_g w E n ρ ex cl h) (hs : hs_g w.1.1 h') (hf : fr_g M h h') (hM : M.all (fun r => rg_sub ex.2.2.2.1 r.1 r.2.1 r.2.2) = true) (hF : ∀ i ∈ F, w.1.2.1 i h') : ex_g w E n ρ (ex_call w ex M F) cl h' := by
  obtain ⟨g1, g2, g3, g4, g5, g6⟩ := g
  have hin : ∀ a k, rg_in M a k = true → rg_in ex.2.2.2.1 a k = true := by
    intro a k hak
    obtain ⟨r, hr, hb⟩ := List.any_eq_true.mp hak
    simp only [Bool.and_eq_true] at hb
    have h1 := List.all_eq_true.mp hM r hr
    have he := Nat.eq_of_beq_eq_true hb.1
    subst he
    exact rg_sub_in h1 (Nat.le_of_ble_eq_true hb.2.1) (Nat.le_of_ble_eq_true hb.2.2)
  refine ⟨hs, fun q b hm => ?_, g3, fun j hj => ?_, fun b k hk => ?_, g6⟩
  · obtain ⟨hm1, hm2⟩ := List.mem_filter.mp hm
    obtain ⟨v, e1, e2⟩ := g2 q b hm1
    refine ⟨v, ?_, e2⟩
    rw [hf _ _ (by simpa using hm2)]
    exact e1
  · cases List.mem_append.mp hj with
    | inl hj => exact hF j hj
    | inr hj =>
      obtain ⟨hm1, hm2⟩ := List.mem_filter.mp hj
      refine w.2 j h h' g1 hs (fun b k hbk => hf b k ?_) (g4 j hm1)
      cases hM2 : rg_in M b k with
      | false => rfl
      | true =>
        obtain ⟨r, hr, hb⟩ := List.any_eq_true.mp hM2
        simp only [Bool.and_eq_true] at hb
        have h1 := List.all_eq_true.mp hm2 r hr
        have he := Nat.eq_of_beq_eq_true hb.1
        subst he
        rw [rg_dis_in h1 (Nat.le_of_ble_eq_true hb.2.1) (Nat.le_of_ble_eq_true hb.2.2)] at hbk
        cases hbk
  · have hk : rg_in ex.2.2.2.1 b k = false := hk
    rw [hf b k (by cases hM2 : rg_in M b k with | false => rfl | true => rw [hin b k hM2] at hk; cases hk)]
    exact g5 b k hk
/-- memory of a case is taken in -/
noncomputable def mem_take (iv : IV) (ex : AX) : MB → Option (IV × AX)
  | [] => some (iv, ex)
  | (q, lo, hi) :: m => match mem_get ex.1 q.1 q.2 with
    | some (.inl (k, o)) => match iv_nar iv k o lo hi with | some iv => mem_take iv ex m | none => none
    | some _ => mem_take iv ex m
    | none => bif decide (lo = hi) then mem_take iv (ex_note ex q.1 q.2 (.inl (none, lo))) m else mem_take (iv ++ [(lo, hi)]) (ex_note ex q.1 q.2 (.inl (some iv.length, 0))) m
theorem mem_take_ok {w : AW} {E : AEnv} {pc : Nat} {lv : List (Nat × AV)} {st : List AV} {σ : pm_S} : ∀ (m : MB) (iv : IV) (ex : AX) (ρ : Nat → Int), as_r w E ρ (pc, lv, st, iv, ex) σ → mm_g σ.2.2.2.1 m → ∃ q : IV × AX, mem_take iv ex m = some q ∧ as_g w E (pc, lv, st, q.1, q.2) σ
  | [], iv, ex, ρ, g, _ => ⟨(iv, ex), rfl, ρ, g⟩
  | ((a, k), lo, hi) :: m, iv, ex, ρ, g, hm => by
    obtain ⟨x, e1, e2, e3⟩ := hm _ List.mem_cons_self
    have hm' : mm_g σ.2.2.2.1 m := fun q hq => hm q (List.mem_cons_of_mem _ hq)
    dsimp only at e1 e2 e3
    unfold mem_take
    dsimp only
    split
    · rename_i kk o hg
      obtain ⟨v, f1, f2'⟩ := g.2.2.2.2.2.1 _ _ (mem_get_in hg)
      dsimp only at f1
      rw [e1] at f1
      cases f1
      obtain ⟨i1, q1, q2, q3⟩ := iv_nar_ok g.1 f2' e2 e3
      dsimp only at q1
      rw [q1]
      exact mem_take_ok m i1 ex ρ (as_iv g q2 q3) hm'
    · exact mem_take_ok m iv ex ρ g hm'
    · cases hb : decide (lo = hi) with
      | true =>
        have hb := of_decide_eq_true hb
        have hv : x.toInt = lo := by omega
        refine mem_take_ok m iv _ ρ ?_ hm'
        obtain ⟨g1, g2, g3, g4, g5⟩ := g
        exact ⟨g1, g2, g3, g4, ex_note_ok g5 e1 hv⟩
      | false =>
        obtain ⟨⟨g1, g2, g3, g4, g5⟩, e⟩ := as_grow g e2 e3
        exact mem_take_ok m _ _ _ ⟨g1, g2, g3, g4, ex_note_ok g5 e1 e⟩ hm'
/-- a value of a kind, as an abstract one -/
noncomputable def ci_av (c : CV) (iv : IV) : AV × IV := match c with
  | .inl (lo, hi) => bif decide (lo = hi) then (.inl (none, lo), iv) else (.inl ((some iv.length), 0), iv ++ [(lo, hi)])
  | .inr (.inl (lo, hi)) => bif decide (lo = hi) then (.inr (.inl (none, lo)), iv) else (.inr (.inl ((some iv.length), 0)), iv ++ [(lo, hi)])
  | .inr (.inr (.inl a)) => (.inr (.inr (.inl a)), iv)
  | .inr (.inr (.inr (.inl k))) => (.inr (.inr (.inr (.inl k))), iv)
  | .inr (.inr (.inr (.inr ()))) => (.inr (.inr (.inr (.inr ()))), iv)
theorem ci_av_ok {w : AW} {E : AEnv} {ρ : Nat → Int} {c : CV} {pc : Nat} {lv : List (Nat × AV)} {st : List AV} {iv : IV} {ex : AX} {σ : pm_S} {v : Value} (g : as_r w E ρ (pc, lv, st, iv, ex) σ) (hv : cv_g c v) :
    ∃ ρ', as_r w E ρ' (pc, lv, st, (ci_av c iv).2, ex) σ ∧ av_g (ci_av c iv).2.length ρ' (ci_av c iv).1 v ∧ iv.length ≤ (ci_av c iv).2.length ∧ ∀ k, k < iv.length → ρ' k = ρ k := by
  rcases c with ⟨lo, hi⟩ | ⟨lo, hi⟩ | a | a | ⟨⟩
  · cases v with
    | int x =>
      unfold ci_av
      dsimp only
      cases hb : decide (lo = hi) with
      | true =>
        have hb := of_decide_eq_true hb
        exact ⟨ρ, g, (by have := hv.1; have := hv.2; show x.toInt = lo; omega), Nat.le_refl _, fun _ _ => rfl⟩
      | false =>
        obtain ⟨g', e⟩ := as_grow g hv.1 hv.2
        exact ⟨_, g', e, by show iv.length ≤ (iv ++ [(lo, hi)]).length; rw [List.length_append]; exact Nat.le_add_right _ _, iv_ext_old⟩
    | _ => exact hv.elim
  · cases v with
    | long x =>
      unfold ci_av
      dsimp only
      cases hb : decide (lo = hi) with
      | true =>
        have hb := of_decide_eq_true hb
        exact ⟨ρ, g, (by have := hv.1; have := hv.2; show x.toInt = lo; omega), Nat.le_refl _, fun _ _ => rfl⟩
      | false =>
        obtain ⟨g', e⟩ := as_grow g hv.1 hv.2
        exact ⟨_, g', e, by show iv.length ≤ (iv ++ [(lo, hi)]).length; rw [List.length_append]; exact Nat.le_add_right _ _, iv_ext_old⟩
    | _ => exact hv.elim
  · exact ⟨ρ, g, by cases v <;> first | exact hv | exact hv.elim, Nat.le_refl _, fun _ _ => rfl⟩
  · exact ⟨ρ, g, by cases v <;> first | exact hv | exact hv.elim, Nat.le_refl _, fun _ _ => rfl⟩
  · exact ⟨ρ, g, by cases v <;> first | exact hv | exact hv.elim, Nat.le_refl _, fun _ _ => rfl⟩
/-- the state behind a call, in one case -/
noncomputable def case_do (w : AW) (A : AS) (k : Nat) (M : List Rng) (C : Cs) : Option AS := match nar_as A.2.2.2.1 (A.2.2.1.take k).reverse C.1 with
  | none => none
  | some iv => match mem_take iv (ex_call w A.2.2.2.2 M C.2.2.1) C.2.1 with
    | none => none
    | some (iv, ex) => match C.2.2.2 with
      | none => some (A.1 + 3, A.2.1, A.2.2.1.drop k, iv, ex)
      | some (.inl c) => some (A.1 + 3, A.2.1, (ci_av c iv).1 :: A.2.2.1.drop k, (ci_av c iv).2, ex)
      | some (.inr q) => match mem_get ex.1 q.1 q.2 with
        | some a => some (A.1 + 3, A.2.1, a :: A.2.2.1.drop k, iv, ex)
        | none => some (a_pi (A.1 + 3) A.2.1 (A.2.2.1.drop k) iv ex (-2147483648) 2147483647)
noncomputable def call_do (w : AW) (sums : List Sum1) (A : AS) (y k : Nat) (ci : Option Nat) (mc ms : Nat) : Option (List AS) :=
  bif Nat.ble k A.2.2.1.length && (Nat.beq mc 0 && (Nat.beq ms 0 && (Nat.ble (av_sz (A.2.2.1.drop k)) 8 && rc_chk w.1.1 ci (A.2.2.1.take k).reverse))) then
    match sums.find? (fun S => Nat.beq S.1 y && (cvs_le A.2.2.2.1 (A.2.2.1.take k).reverse S.2.1 && (mm_le A.2.2.2.1 A.2.2.2.2.1 S.2.2.1 && (S.2.2.2.1.all (fun i => A.2.2.2.2.2.2.1.contains i) && S.2.2.2.2.1.all (fun r => rg_sub A.2.2.2.2.2.2.2.1 r.1 r.2.1 r.2.2))))) with
    | some S => some (S.2.2.2.2.2.flatMap (fun C => (case_do w A k S.2.2.2.2.1 C).toList))
    | none => none
  else none
theorem case_do_ok {w : AW} {E : AEnv} {ρ : Nat → Int} {A : AS} {pc' : Nat} {cl : List (Nat × Value)} {cs : List Value} {W : pm_H × Nat × Nat} {k : Nat} {M : List Rng} {C : Cs} {h' : pm_H} {r : Option Value} {z : Nat × Nat} (g : as_r w E ρ A (pc', cl, cs, W)) (hs : hs_g w.1.1 h') (hf : fr_g M W.1 h') (hM : M.all (fun r => rg_sub A.2.2.2.2.2.2.2.1 r.1 r.2.1 r.2.2) = true) (hC : cs_g w (cs.take k).reverse h' r C) :
    ∃ B, case_do w A k M C = some B ∧ as_g w E B (pc' + 3, cl, r.toList ++ cs.drop k, h', z) := by
  obtain ⟨pc, lv, st, iv, ex⟩ := A
  obtain ⟨g1, g2, g3, g4, g5⟩ := g
  obtain ⟨c1, c2, c3, c4⟩ := hC
  dsimp only at g1 g2 g3 g4 g5 hM
  subst g2
  obtain ⟨i1, e1, n1, p1⟩ := nar_as_ok g1 (f2_rev (f2_take k g4)) c1
  have hex := ex_call_ok g5 hs hf hM c3
  have q0 : as_r w E ρ (pc' + 3, lv, st.drop k, i1, ex_call w ex M C.2.2.1) (pc' + 3, cl, cs.drop k, h', z) := as_iv (iv := iv) ⟨g1, rfl, g3, f2_drop k g4, hex⟩ n1 p1
  obtain ⟨⟨i2, x2⟩, e2, ρ2, q2⟩ := mem_take_ok C.2.1 i1 _ ρ q0 c2
  dsimp only at q2
  unfold case_do
  dsimp only
  rw [e1]
  simp only [e2]
  split
  · rename_i hc
    rw [hc] at c4
    cases r with
    | none => exact ⟨_, rfl, ρ2, q2⟩
    | some v => exact c4.elim
  · rename_i c hc
    rw [hc] at c4
    cases r with
    | none => exact c4.elim
    | some v =>
      obtain ⟨ρ3, r1, r2, r3, r4⟩ := ci_av_ok q2 c4
      obtain ⟨s1, s2, s3, s4, s5⟩ := r1
      exact ⟨_, rfl, ρ3, s1, rfl, s3, ⟨r2, s4⟩, s5⟩
  · rename_i q hc
    rw [hc] at c4
    cases r with
    | none => exact c4.elim
    | some v =>
      cases v with
      | int x =>
        split
        · rename_i a hm
          obtain ⟨s1, s2, s3, s4, s5⟩ := q2
          obtain ⟨v, f1, f2'⟩ := s5.2.1 _ _ (mem_get_in hm)
          have c4 : ld h' q.1 q.2 = some (.int x) := c4
          dsimp only at f1
          rw [c4] at f1
          cases f1
          exact ⟨_, rfl, ρ2, s1, rfl, s3, ⟨f2', s4⟩, s5⟩
        · exact ⟨_, rfl, a_pi_ok q2 (ai_lo _) (ai_hi _)⟩
      | _ => exact c4.elim
theorem call_do_ok {w : AW} {sums : List Sum1} {call : pm_Call} {E : AEnv} {A : AS} {As : List AS} {σ : pm_S} {y k : Nat} {ci : Option Nat} {mc ms : Nat} (hS : ∀ S ∈ sums, sum_g w call S) (g : as_g w E A σ) (h : call_do w sums A y k ci mc ms = some As) :
    ∃ h' r, call y σ.2.2.2.1 (σ.2.2.1.take k).reverse h' r ∧ pm_chk k ci mc ms σ.2.2.1 σ.2.2.2 ∧ ∃ B ∈ As, as_g w E B (σ.1 + 3, σ.2.1, r.toList ++ σ.2.2.1.drop k, h', σ.2.2.2.2.1 - mc, σ.2.2.2.2.2 - ms) := by
  obtain ⟨ρ, g⟩ := g
  obtain ⟨g1, g2, g3, g4, g5⟩ := id g
  unfold call_do at h
  cases hb : (Nat.ble k A.2.2.1.length && (Nat.beq mc 0 && (Nat.beq ms 0 && (Nat.ble (av_sz (A.2.2.1.drop k)) 8 && rc_chk w.1.1 ci (A.2.2.1.take k).reverse)))) with
  | false => rw [hb] at h; cases h
  | true =>
    rw [hb, cond_true] at h
    simp only [Bool.and_eq_true] at hb
    obtain ⟨b1, b2, b3, b4, b5⟩ := hb
    have hmc : mc = 0 := Nat.eq_of_beq_eq_true b2
    have hms : ms = 0 := Nat.eq_of_beq_eq_true b3
    subst hmc; subst hms
    have hk := Nat.le_of_ble_eq_true b1
    have h8 := Nat.le_of_ble_eq_true b4
    have gT := f2_rev (f2_take k g4)
    have gD := f2_drop k g4
    have hchk : pm_chk k ci 0 0 σ.2.2.1 σ.2.2.2 := ⟨by rw [f2_len g4]; exact hk, rc_chk_ok g5.1 gT b5, by rw [av_sz_eq gD]; exact h8, Nat.zero_le _, Nat.zero_le _⟩
    split at h
    · rename_i S hf
      cases h
      have hmem := List.mem_of_find?_eq_some hf
      have hp := List.find?_some hf
      simp only [Bool.and_eq_true] at hp
      obtain ⟨p1, p2, p3, p4, p5⟩ := hp
      have hy := Nat.eq_of_beq_eq_true p1
      subst hy
      obtain ⟨h', r, e1, e2, e3, C, hC, e4⟩ := hS S hmem σ.2.2.2.1 (σ.2.2.1.take k).reverse g5.1 (cvs_le_ok g1 gT p2) (mm_le_ok g1 g5 p3) (fun i hi => g5.2.2.2.1 i (by have := List.all_eq_true.mp p4 i hi; simpa using this))
      obtain ⟨B, f1, f2'⟩ := case_do_ok (z := (σ.2.2.2.2.1 - 0, σ.2.2.2.2.2 - 0)) g e2 e3 p5 e4
      refine ⟨h', r, e1, hchk, B, List.mem_flatMap.mpr ⟨C, hC, ?_⟩, f2'⟩
      rw [f1]
      exact List.mem_singleton_self _
    · cases h
end
section
/-! THE EXECUTOR (second writing), part 12: rows with their cover, ranks, cuts -/
/-- a row: the step and what covers it -/
noncomputable abbrev ARow (w : AW) : Type := { q : (pm_S → Option pm_S) × (AS → Option (List AS)) × (PX → Nat → Bool) // ai_ok w q.1 q.2.1 ∧ rw_g q.1 q.2.2 }
noncomputable abbrev AR (w : AW) : Type := ARow w ⊕ ((Nat × Nat × Option Nat × Nat × Nat) ⊕ Nat)
noncomputable def ar_cv {w : AW} (a : AR w) : pm_I := match a with
  | .inl r => .inl r.1.1
  | .inr (.inl c) => .inr (.inl c)
  | .inr (.inr k) => .inr (.inr k)
noncomputable def ar_tab {w : AW} (t : List (Nat × AR w)) : List (Nat × pm_I) := t.map (fun q => (q.1, ar_cv q.2))
theorem ar_at {w : AW} {pc : Nat} {a : AR w} : ∀ {t : List (Nat × AR w)}, pm_at t pc = some a → pm_at (ar_tab t) pc = some (ar_cv a)
  | [], h => by cases h
  | q :: t, h => by
    unfold ar_tab
    simp only [List.map_cons]
    unfold pm_at at h ⊢
    cases hk : Nat.beq q.1 pc with
    | true =>
      rw [hk] at h
      simp only [hk, cond_true] at h ⊢
      exact congrArg some (congrArg ar_cv (Option.some.inj h))
    | false =>
      rw [hk] at h
      simp only [hk, cond_false] at h ⊢
      exact ar_at (t := t) h
noncomputable def rk_e (K : Nat) : Nat → List Nat → Nat
  | 0, _ => 0
  | _ + 1, [] => 0
  | d + 1, a :: l => a * K ^ d + rk_e K d l
theorem rk_e_lt {K : Nat} (hK : 0 < K) : ∀ (d : Nat) (l : List Nat), (∀ a ∈ l, a < K) → rk_e K d l < K ^ d
  | 0, _, _ => Nat.one_pos
  | d + 1, [], _ => Nat.pow_pos hK
  | d + 1, a :: l, h => by
    have h1 := rk_e_lt hK d l (fun b hb => h b (List.mem_cons_of_mem _ hb))
    have h2 : a + 1 ≤ K := h a List.mem_cons_self
    have h3 : (a + 1) * K ^ d ≤ K * K ^ d := Nat.mul_le_mul_right _ h2
    have h4 : (a + 1) * K ^ d = a * K ^ d + K ^ d := Nat.succ_mul a (K ^ d)
    have h5 : K ^ (d + 1) = K * K ^ d := by rw [Nat.pow_succ, Nat.mul_comm]
    show a * K ^ d + rk_e K d l < K ^ (d + 1)
    omega
noncomputable def rk_lt : Nat → List Nat → List Nat → Prop
  | d + 1, a :: l, b :: m => a < b ∨ (a = b ∧ rk_lt d l m)
  | _, _, _ => False
theorem rk_e_mono {K : Nat} (hK : 0 < K) : ∀ (d : Nat) (l m : List Nat), (∀ a ∈ l, a < K) → rk_lt d l m → rk_e K d l < rk_e K d m
  | 0, _, _, _, h => h.elim
  | _ + 1, [], _, _, h => h.elim
  | _ + 1, _ :: _, [], _, h => h.elim
  | d + 1, a :: l, b :: m, hl, h => by
    have hl' : ∀ c ∈ l, c < K := fun c hc => hl c (List.mem_cons_of_mem _ hc)
    show a * K ^ d + rk_e K d l < b * K ^ d + rk_e K d m
    cases h with
    | inl h =>
      have h1 := rk_e_lt hK d l hl'
      have h3 : (a + 1) * K ^ d ≤ b * K ^ d := Nat.mul_le_mul_right _ h
      have h4 : (a + 1) * K ^ d = a * K ^ d + K ^ d := Nat.succ_mul a (K ^ d)
      omega
    | inr h =>
      obtain ⟨rfl, h⟩ := h
      have := rk_e_mono hK d l m hl' h
      omega
/-- a rank: fixed numbers, and numbers that count up (true) or down: locals, or what lies at a place -/
noncomputable abbrev RK : Type := List (Nat ⊕ ((Nat ⊕ (Nat × Nat)) × Bool))
noncomputable def rk_val (cl : List (Nat × Value)) (h : pm_H) (q : Nat ⊕ (Nat × Nat)) : Option Value := match q with
  | .inl i => pm_get cl i
  | .inr (a, k) => ld h a k
noncomputable def rk_num (v : Option Value) (up : Bool) : Nat := match v with
  | some (.int x) => bif up then (2147483648 - x.toInt).toNat else (x.toInt + 2147483648).toNat
  | _ => 0
noncomputable def rk_one (cl : List (Nat × Value)) (h : pm_H) (q : Nat ⊕ ((Nat ⊕ (Nat × Nat)) × Bool)) : Nat := match q with
  | .inl n => n
  | .inr (v, up) => rk_num (rk_val cl h v) up
noncomputable def rk_v (cl : List (Nat × Value)) (h : pm_H) (r : RK) : List Nat := r.map (rk_one cl h)
noncomputable def rk_small (r : RK) : Bool := r.all (fun q => match q with | .inl n => Nat.blt n 8589934592 | .inr _ => true)
theorem rk_v_lt {cl : List (Nat × Value)} {h : pm_H} {r : RK} (hr : rk_small r = true) : ∀ a ∈ rk_v cl h r, a < 8589934592 := by
  intro a ha
  obtain ⟨q, hq, rfl⟩ := List.mem_map.mp ha
  have h1 := List.all_eq_true.mp hr q hq
  cases q with
  | inl n => exact Nat.le_of_ble_eq_true h1
  | inr p =>
    obtain ⟨v, up⟩ := p
    show rk_num (rk_val cl h v) up < _
    unfold rk_num
    split
    · rename_i x e
      have h2 := ai_lo x
      have h3 := ai_hi x
      cases up with
      | true => show (2147483648 - x.toInt).toNat < _; omega
      | false => show (x.toInt + 2147483648).toNat < _; omega
    · omega
noncomputable def rk_av (lv : List (Nat × AV)) (m : Mem) (q : Nat ⊕ (Nat × Nat)) : Option AV := match q with
  | .inl i => as_get lv i
  | .inr (a, k) => mem_get m a k
/-- how much more the second is -/
noncomputable def rk_dif (a b : Option AV) : Option Int := match a, b with
  | some (.inl (none, o)), some (.inl (none, p)) => some (p - o)
  | some (.inl (some k, o)), some (.inl (some j, p)) => bif Nat.beq k j then some (p - o) else none
  | _, _ => none
/-- the rank of the target is smaller -/
noncomputable def rk_chk (l0 : List (Nat × AV)) (m0 : Mem) (l1 : List (Nat × AV)) (m1 : Mem) : Nat → RK → RK → Bool
  | d + 1, .inl a :: r, .inl b :: q => Nat.blt a b || (Nat.beq a b && rk_chk l0 m0 l1 m1 d r q)
  | d + 1, .inr (v, u) :: r, .inr (v', u') :: q => decide (v = v') && ((u == u') && (match rk_dif (rk_av l0 m0 v) (rk_av l1 m1 v) with
      | some o => (bif u then decide (0 < o) else decide (o < 0)) || (decide (o = 0) && rk_chk l0 m0 l1 m1 d r q)
      | none => false))
  | _, _, _ => false
theorem rk_av_ok {n : Nat} {ρ : Nat → Int} {lv : List (Nat × AV)} {m : Mem} {cl : List (Nat × Value)} {h : pm_H} (h1 : ∀ i a, (i, a) ∈ lv → ∃ v, pm_get cl i = some v ∧ av_g n ρ a v) (h2 : ∀ q a, (q, a) ∈ m → ∃ v, ld h q.1 q.2 = some v ∧ av_g n ρ a v) {q : Nat ⊕ (Nat × Nat)} {a : AV} (e : rk_av lv m q = some a) : ∃ v, rk_val cl h q = some v ∧ av_g n ρ a v := by
  cases q with
  | inl i => exact h1 i a (as_get_in e)
  | inr p => exact h2 (p.1, p.2) a (mem_get_in e)
theorem rk_chk_ok {n0 n : Nat} {ρ0 ρ : Nat → Int} {l0 l1 : List (Nat × AV)} {m0 m1 : Mem} {c0 c1 : List (Nat × Value)} {h0 h1 : pm_H} (hρ : ∀ k, k < n0 → ρ k = ρ0 k)
    (a0 : ∀ i a, (i, a) ∈ l0 → ∃ v, pm_get c0 i = some v ∧ av_g n0 ρ0 a v) (b0 : ∀ q a, (q, a) ∈ m0 → ∃ v, ld h0 q.1 q.2 = some v ∧ av_g n0 ρ0 a v)
    (a1 : ∀ i a, (i, a) ∈ l1 → ∃ v, pm_get c1 i = some v ∧ av_g n ρ a v) (b1 : ∀ q a, (q, a) ∈ m1 → ∃ v, ld h1 q.1 q.2 = some v ∧ av_g n ρ a v) :
    ∀ (d : Nat) (r q : RK), rk_chk l0 m0 l1 m1 d r q = true → rk_lt d (rk_v c1 h1 r) (rk_v c0 h0 q)
  | 0, _, _, h => by unfold rk_chk at h; cases h
  | d + 1, [], _, h => by unfold rk_chk at h; cases h
  | d + 1, _ :: _, [], h => by unfold rk_chk at h; split at h <;> first | cases h | contradiction
  | d + 1, .inl a :: r, .inl b :: q, h => by
    unfold rk_chk at h
    rw [Bool.or_eq_true] at h
    cases h with
    | inl h => exact .inl (Nat.le_of_ble_eq_true h)
    | inr h =>
      rw [Bool.and_eq_true] at h
      exact .inr ⟨Nat.eq_of_beq_eq_true h.1, rk_chk_ok hρ a0 b0 a1 b1 d r q h.2⟩
  | d + 1, .inl _ :: _, .inr _ :: _, h => by unfold rk_chk at h; cases h
  | d + 1, .inr _ :: _, .inl _ :: _, h => by unfold rk_chk at h; cases h
  | d + 1, .inr (v, u) :: r, .inr (v', u') :: q, h => by
    unfold rk_chk at h
    rw [Bool.and_eq_true, Bool.and_eq_true] at h
    obtain ⟨hv, hu, h⟩ := h
    have hv := of_decide_eq_true hv
    have hu : u = u' := by simpa using hu
    subst hv; subst hu
    split at h
    · rename_i o hd
      have hxy : ∃ x y : Int32, rk_val c0 h0 v = some (.int x) ∧ rk_val c1 h1 v = some (.int y) ∧ y.toInt = x.toInt + o := by
        unfold rk_dif at hd
        split at hd
        · rename_i o1 o2 e0 e1
          cases hd
          obtain ⟨v0, p0, q0⟩ := rk_av_ok a0 b0 e0
          obtain ⟨v1, p1, q1⟩ := rk_av_ok a1 b1 e1
          obtain ⟨x, rfl, q0⟩ := av_int q0
          obtain ⟨y, rfl, q1⟩ := av_int q1
          have q0 : x.toInt = o1 := q0
          have q1 : y.toInt = o2 := q1
          exact ⟨x, y, p0, p1, by omega⟩
        · rename_i k o1 j o2 e0 e1
          cases hb : Nat.beq k j with
          | false => rw [hb] at hd; cases hd
          | true =>
            rw [hb] at hd
            cases hd
            have hb := Nat.eq_of_beq_eq_true hb
            subst hb
            obtain ⟨v0, p0, q0⟩ := rk_av_ok a0 b0 e0
            obtain ⟨v1, p1, q1⟩ := rk_av_ok a1 b1 e1
            obtain ⟨x, rfl, q0⟩ := av_int q0
            obtain ⟨y, rfl, q1⟩ := av_int q1
            have z0 := q0.2
            have z1 := q1.2
            rw [hρ k q0.1] at z1
            exact ⟨x, y, p0, p1, by omega⟩
        · cases hd
      obtain ⟨x, y, e0, e1, e2⟩ := hxy
      have x1 := ai_lo x
      have x2 := ai_hi x
      have y1 := ai_lo y
      have y2 := ai_hi y
      show rk_lt (d + 1) (rk_num (rk_val c1 h1 v) u :: rk_v c1 h1 r) (rk_num (rk_val c0 h0 v) u :: rk_v c0 h0 q)
      rw [e0, e1]
      rw [Bool.or_eq_true] at h
      cases h with
      | inl h =>
        left
        cases u with
        | true =>
          have h : 0 < o := of_decide_eq_true h
          show (2147483648 - y.toInt).toNat < (2147483648 - x.toInt).toNat
          omega
        | false =>
          have h : o < 0 := of_decide_eq_true h
          show (y.toInt + 2147483648).toNat < (x.toInt + 2147483648).toNat
          omega
      | inr h =>
        rw [Bool.and_eq_true] at h
        right
        have ho : o = 0 := of_decide_eq_true h.1
        have hx : y = x := Int32.toInt_inj.mp (by omega)
        rw [hx]
        exact ⟨rfl, rk_chk_ok hρ a0 b0 a1 b1 d r q h.2⟩
    · cases h
/-- a cut: locals, stack, memory, facts, rank -/
noncomputable abbrev Cut : Type := List (Nat × CV) × List CV × MB × List Nat × RK
noncomputable def cut_g (w : AW) (M : List Rng) (K : List Nat) (h0 : pm_H) (c0 : List (Nat × Value)) (c : Cut) (σ : pm_S) : Prop := (∀ i k, (i, k) ∈ c.1 → ∃ v, pm_get σ.2.1 i = some v ∧ cv_g k v) ∧ f2 cv_g c.2.1 σ.2.2.1 ∧ hs_g w.1.1 σ.2.2.2.1 ∧ mm_g σ.2.2.2.1 c.2.2.1 ∧ (∀ i ∈ c.2.2.2.1, w.1.2.1 i σ.2.2.2.1) ∧ fr_g M h0 σ.2.2.2.1 ∧ ∀ i ∈ K, pm_get σ.2.1 i = pm_get c0 i
/-- a state lies in a cut -/
noncomputable def cut_le (A : AS) (c : Cut) : Bool := c.1.all (fun q => match as_get A.2.1 q.1 with | some a => cv_le A.2.2.2.1 a q.2 | none => false) && (cvs_le A.2.2.2.1 A.2.2.1 c.2.1 && (mm_le A.2.2.2.1 A.2.2.2.2.1 c.2.2.1 && c.2.2.2.1.all (fun i => A.2.2.2.2.2.2.1.contains i)))
theorem cut_le_ok {w : AW} {E : AEnv} {A : AS} {c : Cut} {σ : pm_S} (g : as_g w E A σ) (h : cut_le A c = true) : cut_g w A.2.2.2.2.2.2.2.1 A.2.2.2.2.2.2.2.2 E.2.2.1 E.2.2.2 c σ := by
  obtain ⟨ρ, g1, g2, g3, g4, g5⟩ := g
  unfold cut_le at h
  rw [Bool.and_eq_true, Bool.and_eq_true, Bool.and_eq_true] at h
  obtain ⟨h1, h2, h3, h4⟩ := h
  refine ⟨fun i k hm => ?_, cvs_le_ok g1 g4 h2, g5.1, mm_le_ok g1 g5 h3, fun i hi => g5.2.2.2.1 i (by have := List.all_eq_true.mp h4 i hi; simpa using this), g5.2.2.2.2.1, g5.2.2.2.2.2⟩
  have h1 := List.all_eq_true.mp h1 (i, k) hm
  dsimp only at h1
  split at h1
  · rename_i a e
    obtain ⟨v, e1, e2⟩ := g3 i a (as_get_in e)
    exact ⟨v, e1, cv_le_ok g1 e2 h1⟩
  · cases h1
/-- arguments that a case narrows lie in locals that stay -/
noncomputable def ag_chk (A : AS) : List (Nat × CV) → List CV → Bool
  | [], [] => true
  | (i, c) :: l, d :: m => (decide (c = d) || (A.2.2.2.2.2.2.2.2.contains i && (match as_get A.2.1 i with | some a => cv_le A.2.2.2.1 a d | none => false))) && ag_chk A l m
  | _, _ => false
theorem ag_chk_ok {w : AW} {E : AEnv} {A : AS} {σ : pm_S} (g : as_g w E A σ) : ∀ {l : List (Nat × CV)} {m : List CV} {vs : List Value}, f2 (fun (q : Nat × CV) v => cv_g q.2 v ∧ pm_get E.2.2.2 q.1 = some v) l vs → ag_chk A l m = true → f2 cv_g m vs
  | [], [], [], _, _ => trivial
  | [], [], _ :: _, h, _ => h.elim
  | [], _ :: _, _, _, h => by unfold ag_chk at h; cases h
  | _ :: _, [], _, _, h => by unfold ag_chk at h; cases h
  | _ :: _, _ :: _, [], h, _ => h.elim
  | (i, c) :: l, d :: m, v :: vs, hl, h => by
    unfold ag_chk at h
    rw [Bool.and_eq_true, Bool.or_eq_true] at h
    refine ⟨?_, ag_chk_ok g hl.2 h.2⟩
    cases h.1 with
    | inl h => rw [← of_decide_eq_true h]; exact hl.1.1
    | inr h =>
      rw [Bool.and_eq_true] at h
      obtain ⟨ρ, g1, g2, g3, g4, g5⟩ := g
      have hk := g5.2.2.2.2.2 i (by have := h.1; simpa using this)
      have h2 := h.2
      split at h2
      · rename_i a e
        obtain ⟨u, e1, e2⟩ := g3 i a (as_get_in e)
        have e3 : pm_get E.2.2.2 i = some v := hl.1.2
        rw [e1, e3] at hk
        cases hk
        exact cv_le_ok g1 e2 h2
      · cases h2
/-- the answer -/
noncomputable def rt_one (kd : Nat) (A : AS) (c : Option (CV ⊕ (Nat × Nat))) : Bool := match kd, A.2.2.1, c with
  | 0, [], none => true
  | 1, [.inl q], some (.inl c) => cv_le A.2.2.2.1 (.inl q) c
  | 2, [.inl q], some (.inl c) => cv_le A.2.2.2.1 (.inl q) c && cv_le A.2.2.2.1 (.inl q) (.inl (0, 1))
  | 3, [.inr (.inl q)], some (.inl c) => cv_le A.2.2.2.1 (.inr (.inl q)) c
  | 4, [.inl q], some (.inl c) => cv_le A.2.2.2.1 (.inl q) c && cv_le A.2.2.2.1 (.inl q) (.inl (-128, 127))
  | 5, [.inl q], some (.inl c) => cv_le A.2.2.2.1 (.inl q) c && cv_le A.2.2.2.1 (.inl q) (.inl (0, 65535))
  | 1, [.inl q], some (.inr p) => decide (mem_get A.2.2.2.2.1 p.1 p.2 = some (.inl q))
  | _, _, _ => false
noncomputable def rt_chk (kd : Nat) (A : AS) (al : List (Nat × CV)) (cases : List Cs) : Bool := cases.any (fun C => ag_chk A al C.1 && (mm_le A.2.2.2.1 A.2.2.2.2.1 C.2.1 && (C.2.2.1.all (fun i => A.2.2.2.2.2.2.1.contains i) && rt_one kd A C.2.2.2)))
theorem rt_one_ok {w : AW} {E : AEnv} {A : AS} {kd : Nat} {c : Option (CV ⊕ (Nat × Nat))} {σ : pm_S} (g : as_g w E A σ) (h : rt_one kd A c = true) : ∃ o, pm_ret kd σ.2.2.1 σ.2.2.2.1 o ∧ o.1 = σ.2.2.2.1 ∧ rv_g o.1 c o.2 := by
  obtain ⟨ρ, g1, g2, g3, g4, g5⟩ := g
  obtain ⟨pc, lv, st, iv, ex⟩ := A
  obtain ⟨pc', cl, cs, W⟩ := σ
  dsimp only at g1 g2 g3 g4 g5 h ⊢
  have one : ∀ {q : Option Nat × Int}, f2 (fun a v => av_g iv.length ρ a v) [.inl q] cs → ∃ x : Int32, cs = [.int x] ∧ av_g iv.length ρ (.inl q) (.int x) := by
    intro q hq
    obtain ⟨v, cs', rfl, ha, hr⟩ := f2_cons hq
    cases cs' with
    | cons _ _ => exact hr.elim
    | nil =>
      obtain ⟨x, rfl, ha'⟩ := av_int (k := q.1) (o := q.2) ha
      exact ⟨x, rfl, ha⟩
  unfold rt_one at h
  dsimp only at h
  split at h
  · cases cs with
    | nil => exact ⟨(W.1, none), ⟨rfl, rfl⟩, rfl, trivial⟩
    | cons v cs => exact g4.elim
  · obtain ⟨x, rfl, ha⟩ := one g4
    exact ⟨(W.1, some (.int x)), ⟨x, rfl, rfl⟩, rfl, cv_le_ok g1 ha h⟩
  · rw [Bool.and_eq_true] at h
    obtain ⟨x, rfl, ha⟩ := one g4
    have hz : 0 ≤ x.toInt ∧ x.toInt ≤ 1 := cv_le_ok g1 ha h.2
    refine ⟨(W.1, some (.int x)), ⟨x, rfl, ?_, rfl⟩, rfl, cv_le_ok g1 ha h.1⟩
    by_cases h0 : x.toInt = 0
    · exact .inl (Int32.toInt_inj.mp h0)
    · exact .inr (Int32.toInt_inj.mp (by show x.toInt = 1; omega))
  · obtain ⟨v, cs', rfl, ha, hr⟩ := f2_cons g4
    cases cs' with
    | cons _ _ => exact hr.elim
    | nil =>
      rename_i q c
      obtain ⟨x, rfl, ha'⟩ := av_long (k := q.1) (o := q.2) ha
      exact ⟨(W.1, some (.long x)), ⟨x, rfl, rfl⟩, rfl, cv_le_ok g1 ha h⟩
  · rw [Bool.and_eq_true] at h
    obtain ⟨x, rfl, ha⟩ := one g4
    have hz : -128 ≤ x.toInt ∧ x.toInt ≤ 127 := cv_le_ok g1 ha h.2
    refine ⟨(W.1, some (.int x)), ⟨x, rfl, ?_, rfl⟩, rfl, cv_le_ok g1 ha h.1⟩
    show Value.int x.toInt8.toInt32 = .int x
    rw [Int32.toInt_inj.mp (i2b_id hz.1 hz.2)]
  · rw [Bool.and_eq_true] at h
    obtain ⟨x, rfl, ha⟩ := one g4
    have hz : 0 ≤ x.toInt ∧ x.toInt ≤ 65535 := cv_le_ok g1 ha h.2
    refine ⟨(W.1, some (.int x)), ⟨x, rfl, ?_, rfl⟩, rfl, cv_le_ok g1 ha h.1⟩
    show Value.int x.toUInt32.toUInt16.toUInt32.toInt32 = .int x
    have hn : (x.toUInt32.toUInt16.toUInt32.toInt32).toBitVec.toNat = x.toBitVec.toNat % 65536 := by
      show ((x.toBitVec.setWidth 16).setWidth 32).toNat = _
      rw [BitVec.toNat_setWidth, BitVec.toNat_setWidth]
      omega
    obtain ⟨e, l⟩ := ai_nn hz.1
    congr 1
    apply Int32.toInt_inj.mp
    rw [ai_of (by omega), hn, e]
    omega
  · rename_i q p
    have h := of_decide_eq_true h
    obtain ⟨x, rfl, ha⟩ := one g4
    obtain ⟨v, e1, e2⟩ := g5.2.1 _ _ (mem_get_in h)
    obtain ⟨y, rfl, e3⟩ := av_int (k := q.1) (o := q.2) e2
    have ha' : av_ev iv.length ρ q.1 q.2 x.toInt := ha
    have hxy : y = x := by
      apply Int32.toInt_inj.mp
      obtain ⟨qk, qo⟩ := q
      cases qk with
      | none =>
        have z1 : y.toInt = qo := e3
        have z2 : x.toInt = qo := ha'
        omega
      | some k => have z1 := e3.2; have z2 := ha'.2; dsimp only at z1 z2; omega
    subst hxy
    exact ⟨(W.1, some (.int y)), ⟨y, rfl, rfl⟩, rfl, e1⟩
  · cases h
end
section
/-! THE EXECUTOR (second writing), part 13: segments, methods -/
/-- states behind a row whose answer is told apart -/
noncomputable def sp_do (spl : List Nat) (pc : Nat) (As : List AS) : Option (List AS) := bif spl.contains pc then (match As with
  | [] => some []
  | B :: l => match as_split B with
    | none => none
    | some Bs => match sp_do spl pc l with
      | none => none
      | some r => some (Bs ++ r)) else some As
theorem sp_do_ok {w : AW} {E : AEnv} {spl : List Nat} {pc : Nat} {σ : pm_S} {B : AS} (g : as_g w E B σ) : ∀ {As Rs : List AS}, sp_do spl pc As = some Rs → B ∈ As → ∃ C ∈ Rs, as_g w E C σ := by
  intro As
  induction As with
  | nil => intro Rs _ hm; exact absurd hm List.not_mem_nil
  | cons A l ih =>
    intro Rs h hm
    unfold sp_do at h
    cases hc : spl.contains pc with
    | false =>
      rw [hc] at h
      cases h
      exact ⟨B, hm, g⟩
    | true =>
      rw [hc, cond_true] at h
      dsimp only at h
      cases h1 : as_split A with
      | none => rw [h1] at h; cases h
      | some Bs =>
        rw [h1] at h
        dsimp only at h
        cases h2 : sp_do spl pc l with
        | none => rw [h2] at h; cases h
        | some r =>
          rw [h2] at h
          cases h
          cases List.mem_cons.mp hm with
          | inl e =>
            subst e
            obtain ⟨C, hC, gC⟩ := as_split_ok g h1
            exact ⟨C, List.mem_append_left _ hC, gC⟩
          | inr hm =>
            obtain ⟨C, hC, gC⟩ := ih h2 hm
            exact ⟨C, List.mem_append_right _ hC, gC⟩
/-- what a check speaks of: rows, what is known of calls, cuts, where answers are told apart, arguments in their locals, cases; what may be stored to, locals that stay -/
noncomputable abbrev Job (w : AW) : Type := List (Nat × AR w) × List Sum1 × List (Nat × List Cut) × List Nat × List (Nat × CV) × List Cs × List Rng × List Nat
noncomputable def nx_chk {w : AW} (J : Job w) (r0 : Option (List (Nat × AV) × Mem × RK)) (go : AS → Bool) (B : AS) : Bool := match pm_at J.2.2.1 B.1 with
  | some cl => decide (B.2.2.2.2.2.2.2 = J.2.2.2.2.2.2) && cl.any (fun c => cut_le B c && (match r0 with | some (l0, m0, rk0) => rk_chk l0 m0 B.2.1 B.2.2.2.2.1 12 c.2.2.2.2 rk0 | none => true))
  | none => go B
noncomputable def ar_run {w : AW} (J : Job w) (r0 : Option (List (Nat × AV) × Mem × RK)) : Nat → AS → Bool
  | 0, _ => false
  | n + 1, A => match pm_at J.1 A.1 with
    | none => false
    | some (.inl r) => match r.1.2.1 A with
      | none => false
      | some As => match sp_do J.2.2.2.1 A.1 As with
        | none => false
        | some Bs => Bs.all (nx_chk J r0 (ar_run J r0 n))
    | some (.inr (.inl (y, k, ci, mc, ms))) => match call_do w J.2.1 A y k ci mc ms with
      | none => false
      | some As => match sp_do J.2.2.2.1 A.1 As with
        | none => false
        | some Bs => Bs.all (nx_chk J r0 (ar_run J r0 n))
    | some (.inr (.inr kd)) => decide (A.2.2.2.2.2.2.2 = J.2.2.2.2.2.2) && rt_chk kd A J.2.2.2.2.1 J.2.2.2.2.2.1
/-- it runs to an answer -/
noncomputable def ar_G {w : AW} (J : Job w) (call : pm_Call) (h0 : pm_H) (as : List Value) (σ : pm_S) : Prop := ∃ o, pm_Go (pm_at (ar_tab J.1)) call σ o ∧ hs_g w.1.1 o.1 ∧ fr_g J.2.2.2.2.2.2.1 h0 o.1 ∧ ∃ C ∈ J.2.2.2.2.2.1, cs_g w as o.1 o.2 C
theorem rt_chk_ok {w : AW} {J : Job w} {E : AEnv} {A : AS} {σ : pm_S} {kd : Nat} {as : List Value} (g : as_g w E A σ) (hMK : A.2.2.2.2.2.2.2 = J.2.2.2.2.2.2) (hal : f2 (fun (q : Nat × CV) v => cv_g q.2 v ∧ pm_get E.2.2.2 q.1 = some v) J.2.2.2.2.1 as) (h : rt_chk kd A J.2.2.2.2.1 J.2.2.2.2.2.1 = true) : ∃ o, pm_ret kd σ.2.2.1 σ.2.2.2.1 o ∧ hs_g w.1.1 o.1 ∧ fr_g J.2.2.2.2.2.2.1 E.2.2.1 o.1 ∧ ∃ C ∈ J.2.2.2.2.2.1, cs_g w as o.1 o.2 C := by
  obtain ⟨C, hC, hb⟩ := List.any_eq_true.mp h
  rw [Bool.and_eq_true, Bool.and_eq_true, Bool.and_eq_true] at hb
  obtain ⟨b1, b2, b3, b4⟩ := hb
  obtain ⟨o, e1, e2, e3⟩ := rt_one_ok g b4
  have c1 := ag_chk_ok g hal b1
  obtain ⟨ρ, g1, g2, g3, g4, g5⟩ := g
  have c2 := mm_le_ok g1 g5 b2
  have c3 : ∀ i ∈ C.2.2.1, w.1.2.1 i σ.2.2.2.1 := fun i hi => g5.2.2.2.1 i (by have := List.all_eq_true.mp b3 i hi; simpa using this)
  have c5 := g5.2.2.2.2.1
  rw [hMK] at c5
  rw [← e2] at c2 c3 c5
  exact ⟨o, e1, by rw [e2]; exact g5.1, c5, C, hC, c1, c2, c3, e3⟩
theorem ar_run_ok {w : AW} {J : Job w} {r0 : Option (List (Nat × AV) × Mem × RK)} {call : pm_Call} {E : AEnv} {as : List Value} {cl0 : List (Nat × Value)} {hh0 : pm_H}
    (hS : ∀ S ∈ J.2.1, sum_g w call S) (hal : f2 (fun (q : Nat × CV) v => cv_g q.2 v ∧ pm_get E.2.2.2 q.1 = some v) J.2.2.2.2.1 as)
    (h0 : ∀ l0 m0 rk0, r0 = some (l0, m0, rk0) → (∀ i a, (i, a) ∈ l0 → ∃ v, pm_get cl0 i = some v ∧ av_g E.1 E.2.1 a v) ∧ ∀ q a, (q, a) ∈ m0 → ∃ v, ld hh0 q.1 q.2 = some v ∧ av_g E.1 E.2.1 a v)
    (K : ∀ (cl : List Cut) (c : Cut) (σ : pm_S), pm_at J.2.2.1 σ.1 = some cl → c ∈ cl → cut_g w J.2.2.2.2.2.2.1 J.2.2.2.2.2.2.2 E.2.2.1 E.2.2.2 c σ → (∀ l0 m0 rk0, r0 = some (l0, m0, rk0) → rk_lt 12 (rk_v σ.2.1 σ.2.2.2.1 c.2.2.2.2) (rk_v cl0 hh0 rk0)) → ar_G J call E.2.2.1 as σ) :
    ∀ (n : Nat) (A : AS) (σ : pm_S), ar_run J r0 n A = true → as_g w E A σ → ar_G J call E.2.2.1 as σ
  | 0, _, _, h, _ => by cases h
  | n + 1, A, σ, h, g => by
    have nx : ∀ (B : AS) (τ : pm_S), nx_chk J r0 (ar_run J r0 n) B = true → as_g w E B τ → ar_G J call E.2.2.1 as τ := by
      intro B τ hB gB
      unfold nx_chk at hB
      cases hc : pm_at J.2.2.1 B.1 with
      | none =>
        rw [hc] at hB
        exact ar_run_ok hS hal h0 K n B τ hB gB
      | some cl =>
        rw [hc] at hB
        dsimp only at hB
        rw [Bool.and_eq_true] at hB
        have hMK := of_decide_eq_true hB.1
        obtain ⟨c, hcm, hcb⟩ := List.any_eq_true.mp hB.2
        rw [Bool.and_eq_true] at hcb
        have hg := cut_le_ok gB hcb.1
        rw [hMK] at hg
        obtain ⟨ρ, g1, g2, g3, g4, g5⟩ := gB
        refine K cl c τ (by rw [g2]; exact hc) hcm hg (fun l0 m0 rk0 hr => ?_)
        have hr2 := hcb.2
        rw [hr] at hr2
        dsimp only at hr2
        have := h0 l0 m0 rk0 hr
        exact rk_chk_ok (fun k hk => g1.2.2 k hk) this.1 this.2 g3 g5.2.1 12 c.2.2.2.2 rk0 hr2
    have many : ∀ (As Bs : List AS) (τ : pm_S) (B : AS), sp_do J.2.2.2.1 A.1 As = some Bs → Bs.all (nx_chk J r0 (ar_run J r0 n)) = true → B ∈ As → as_g w E B τ → ar_G J call E.2.2.1 as τ := by
      intro As Bs τ B hsp hall hB gB
      obtain ⟨C, hC, gC⟩ := sp_do_ok gB hsp hB
      exact nx C τ (List.all_eq_true.mp hall C hC) gC
    have gpc : σ.1 = A.1 := by obtain ⟨ρ, g1, g2, g3, g4, g5⟩ := g; exact g2
    unfold ar_run at h
    cases ht : pm_at J.1 A.1 with
    | none => rw [ht] at h; cases h
    | some x =>
      rw [ht] at h
      have hl := ar_at ht
      rw [← gpc] at hl
      match x, hl, h with
      | .inl r, hl, h =>
        dsimp only at h
        cases hA : r.1.2.1 A with
        | none => rw [hA] at h; cases h
        | some As =>
          rw [hA] at h
          dsimp only at h
          cases hsp : sp_do J.2.2.2.1 A.1 As with
          | none => rw [hsp] at h; cases h
          | some Bs =>
            rw [hsp] at h
            dsimp only at h
            obtain ⟨σ', e1, A', e2, e3⟩ := r.2.1 E A σ As g hA
            obtain ⟨o, o1, o2⟩ := many As Bs σ' A' hsp h e2 e3
            exact ⟨o, Go_st hl e1 o1, o2⟩
      | .inr (.inl (y, k, ci, mc, ms)), hl, h =>
        dsimp only at h
        cases hA : call_do w J.2.1 A y k ci mc ms with
        | none => rw [hA] at h; cases h
        | some As =>
          rw [hA] at h
          dsimp only at h
          cases hsp : sp_do J.2.2.2.1 A.1 As with
          | none => rw [hsp] at h; cases h
          | some Bs =>
            rw [hsp] at h
            dsimp only at h
            obtain ⟨h', r, e1, e2, B, hB, e3⟩ := call_do_ok hS g hA
            obtain ⟨o, o1, o2⟩ := many As Bs _ B hsp h hB e3
            exact ⟨o, Go_call hl e1 e2 o1, o2⟩
      | .inr (.inr kd), hl, h =>
        dsimp only at h
        rw [Bool.and_eq_true] at h
        obtain ⟨o, o1, o2⟩ := rt_chk_ok g (of_decide_eq_true h.1) hal h.2
        exact ⟨o, Go_ret hl o1, o2⟩
/-- a cut as a state: locals, stack, memory one after the other -/
noncomputable def as_locs : List (Nat × CV) → AS → AS
  | [], A => A
  | (i, c) :: l, A => as_locs l (A.1, (i, (ci_av c A.2.2.2.1).1) :: A.2.1, A.2.2.1, (ci_av c A.2.2.2.1).2, A.2.2.2.2)
theorem as_locs_ok {w : AW} {E : AEnv} {σ : pm_S} : ∀ (l : List (Nat × CV)) (A : AS) (ρ : Nat → Int), as_r w E ρ A σ → (∀ i k, (i, k) ∈ l → ∃ v, pm_get σ.2.1 i = some v ∧ cv_g k v) → ∃ ρ', as_r w E ρ' (as_locs l A) σ
  | [], A, ρ, g, _ => ⟨ρ, g⟩
  | (i, c) :: l, (pc, lv, st, iv, ex), ρ, g, h => by
    obtain ⟨v, e1, e2⟩ := h i c List.mem_cons_self
    obtain ⟨ρ', r1, r2, r3, r4⟩ := ci_av_ok g e2
    obtain ⟨s1, s2, s3, s4, s5⟩ := r1
    refine as_locs_ok l _ ρ' ⟨s1, s2, fun j a hm => ?_, s4, s5⟩ (fun j k hm => h j k (List.mem_cons_of_mem _ hm))
    cases List.mem_cons.mp hm with
    | inl e => cases e; exact ⟨v, e1, r2⟩
    | inr hm => exact s3 j a hm
noncomputable def as_stk : List CV → AS → AS
  | [], A => A
  | c :: l, A => ((as_stk l A).1, (as_stk l A).2.1, (ci_av c (as_stk l A).2.2.2.1).1 :: (as_stk l A).2.2.1, (ci_av c (as_stk l A).2.2.2.1).2, (as_stk l A).2.2.2.2)
theorem as_stk_ok {w : AW} {E : AEnv} {pc : Nat} {cl : List (Nat × Value)} {W : pm_H × Nat × Nat} {A : AS} {ρ : Nat → Int} (g : as_r w E ρ A (pc, cl, [], W)) : ∀ (l : List CV) (vs : List Value), f2 cv_g l vs → ∃ ρ', as_r w E ρ' (as_stk l A) (pc, cl, vs, W)
  | [], [], _ => ⟨ρ, g⟩
  | [], _ :: _, h => h.elim
  | _ :: _, [], h => h.elim
  | c :: l, v :: vs, h => by
    obtain ⟨ρ1, g1⟩ := as_stk_ok g l vs h.2
    obtain ⟨ρ', r1, r2, r3, r4⟩ := ci_av_ok g1 h.1
    obtain ⟨s1, s2, s3, s4, s5⟩ := r1
    exact ⟨ρ', s1, s2, s3, ⟨r2, s4⟩, s5⟩
noncomputable def cut_as (pc : Nat) (M : List Rng) (K : List Nat) (c : Cut) : Option AS := match mem_take (as_stk c.2.1 (as_locs c.1 (pc, [], [], [], [], [], c.2.2.2.1, M, K))).2.2.2.1 (as_stk c.2.1 (as_locs c.1 (pc, [], [], [], [], [], c.2.2.2.1, M, K))).2.2.2.2 c.2.2.1 with
  | some (iv, ex) => some (pc, (as_stk c.2.1 (as_locs c.1 (pc, [], [], [], [], [], c.2.2.2.1, M, K))).2.1, (as_stk c.2.1 (as_locs c.1 (pc, [], [], [], [], [], c.2.2.2.1, M, K))).2.2.1, iv, ex)
  | none => none
theorem cut_as_ok {w : AW} {M : List Rng} {K : List Nat} {h0 : pm_H} {c0 : List (Nat × Value)} {c : Cut} {σ : pm_S} (h : cut_g w M K h0 c0 c σ) : ∃ (A : AS) (n : Nat) (ρ : Nat → Int), cut_as σ.1 M K c = some A ∧ as_g w (n, ρ, h0, c0) A σ ∧ (∀ i a, (i, a) ∈ A.2.1 → ∃ v, pm_get σ.2.1 i = some v ∧ av_g n ρ a v) ∧ ∀ q a, (q, a) ∈ A.2.2.2.2.1 → ∃ v, ld σ.2.2.2.1 q.1 q.2 = some v ∧ av_g n ρ a v := by
  obtain ⟨pc, cl, cs, W⟩ := σ
  obtain ⟨h1, h2, h3, h4, h5, h6, h7⟩ := h
  dsimp only at h1 h2 h3 h4 h5 h6 h7
  have g0 : as_r w (0, fun _ => 0, h0, c0) (fun _ => 0) (pc, [], [], [], [], [], c.2.2.2.1, M, K) (pc, cl, [], W) :=
    ⟨⟨fun k lo hi hk => (by cases hk), Nat.le_refl _, fun _ _ => rfl⟩, rfl, fun i a hm => absurd hm List.not_mem_nil, trivial, h3, fun q a hm => absurd hm List.not_mem_nil, fun c hc => absurd hc List.not_mem_nil, h5, h6, h7⟩
  obtain ⟨ρ1, g1⟩ := as_locs_ok c.1 _ _ g0 h1
  obtain ⟨ρ2, g2⟩ := as_stk_ok g1 c.2.1 cs h2
  have hpc : (as_stk c.2.1 (as_locs c.1 (pc, [], [], [], [], [], c.2.2.2.1, M, K))).1 = pc := g2.2.1.symm
  obtain ⟨q, e3, ρ3, g3⟩ := mem_take_ok c.2.2.1 _ _ ρ2 g2 h4
  rw [hpc] at g3
  refine ⟨_, q.1.length, ρ3, by unfold cut_as; rw [e3], ⟨ρ3, ⟨g3.1.1, Nat.le_refl _, fun _ _ => rfl⟩, g3.2⟩, g3.2.2.1, g3.2.2.2.2.2.1⟩
/-- every cut is checked -/
noncomputable def cuts_chk {w : AW} (J : Job w) (N : Nat) : Bool := J.2.2.1.all (fun q => q.2.all (fun c => rk_small c.2.2.2.2 && (match cut_as q.1 J.2.2.2.2.2.2.1 J.2.2.2.2.2.2.2 c with
  | some A => ar_run J (some (A.2.1, A.2.2.2.2.1, c.2.2.2.2)) N A
  | none => false)))
theorem cuts_ok {w : AW} {J : Job w} {call : pm_Call} {N : Nat} {h0 : pm_H} {c0 : List (Nat × Value)} {as : List Value} (hS : ∀ S ∈ J.2.1, sum_g w call S) (hal : f2 (fun (q : Nat × CV) v => cv_g q.2 v ∧ pm_get c0 q.1 = some v) J.2.2.2.2.1 as) (h : cuts_chk J N = true) :
    ∀ (m : Nat) (cl : List Cut) (c : Cut) (σ : pm_S), pm_at J.2.2.1 σ.1 = some cl → c ∈ cl → cut_g w J.2.2.2.2.2.2.1 J.2.2.2.2.2.2.2 h0 c0 c σ → rk_e 8589934592 12 (rk_v σ.2.1 σ.2.2.2.1 c.2.2.2.2) < m → ar_G J call h0 as σ
  | 0, _, _, _, _, _, _, hm => absurd hm (Nat.not_lt_zero _)
  | m + 1, cl, c, σ, hc, hcl, hg, hm => by
    have hone : ∀ (cl : List Cut) (c : Cut) (pc : Nat), pm_at J.2.2.1 pc = some cl → c ∈ cl → rk_small c.2.2.2.2 = true ∧ (match cut_as pc J.2.2.2.2.2.2.1 J.2.2.2.2.2.2.2 c with
        | some A => ar_run J (some (A.2.1, A.2.2.2.2.1, c.2.2.2.2)) N A
        | none => false) = true := by
      intro cl c pc h1 h2
      have h3 := List.all_eq_true.mp (List.all_eq_true.mp h _ (pm_at_in h1)) c h2
      rw [Bool.and_eq_true] at h3
      exact h3
    obtain ⟨s1, s2⟩ := hone cl c σ.1 hc hcl
    obtain ⟨A, n, ρ, e1, e2, e3, e4⟩ := cut_as_ok hg
    rw [e1] at s2
    dsimp only at s2
    refine ar_run_ok (E := (n, ρ, h0, c0)) (cl0 := σ.2.1) (hh0 := σ.2.2.2.1) hS hal (fun l0 m0 rk0 hr => ?_) (fun cl' c' σ' k1 k2 k3 k4 => ?_) N A σ s2 e2
    · cases hr
      exact ⟨e3, e4⟩
    · have h2 := hone cl' c' σ'.1 k1 k2
      have h3 := k4 _ _ _ rfl
      have h4 : rk_e 8589934592 12 (rk_v σ'.2.1 σ'.2.2.2.1 c'.2.2.2.2) < rk_e 8589934592 12 (rk_v σ.2.1 σ.2.2.2.1 c.2.2.2.2) := rk_e_mono (K := 8589934592) (by decide) 12 _ _ (rk_v_lt h2.1) h3
      exact cuts_ok hS hal h m cl' c' σ' k1 k2 k3 (by omega)
/-- arguments in their locals -/
noncomputable def cv_cat (c : CV) : Nat := match c with
  | .inr (.inl _) => 2
  | _ => 1
theorem cv_cat_eq {c : CV} {v : Value} (h : cv_g c v) : v.category = cv_cat c := by
  rcases c with ⟨lo, hi⟩ | ⟨lo, hi⟩ | a | k | ⟨⟩ <;> cases v <;> first | rfl | exact h.elim
noncomputable def arg_lv : Nat → List CV → List (Nat × CV)
  | _, [] => []
  | i, c :: l => (i, c) :: arg_lv (bif Nat.beq (cv_cat c) 2 then i + 2 else i + 1) l
theorem lv_args_ge {j : Nat} {v : Value} : ∀ {vs : List Value} {i : Nat}, pm_get (lv_args i vs) j = some v → i ≤ j
  | [], _, h => by cases h
  | u :: vs, i, h => by
    unfold lv_args pm_get at h
    cases hb : Nat.beq i j with
    | true => exact Nat.le_of_eq (Nat.eq_of_beq_eq_true hb)
    | false =>
      simp only [hb, cond_false] at h
      have := lv_args_ge h
      split at this <;> omega
theorem arg_lv_ok : ∀ {l : List CV} {vs : List Value} {i : Nat}, f2 cv_g l vs → f2 (fun (q : Nat × CV) v => cv_g q.2 v ∧ pm_get (lv_args i vs) q.1 = some v) (arg_lv i l) vs
  | [], [], _, _ => trivial
  | [], _ :: _, _, h => h.elim
  | _ :: _, [], _, h => h.elim
  | c :: l, v :: vs, i, h => by
    have hc := cv_cat_eq h.1
    have hn : (bif Nat.beq (cv_cat c) 2 then i + 2 else i + 1) = if v.category = 2 then i + 2 else i + 1 := by
      rw [hc]
      rcases c with ⟨lo, hi⟩ | ⟨lo, hi⟩ | a | k | ⟨⟩ <;> rfl
    refine ⟨⟨h.1, ?_⟩, ?_⟩
    · unfold lv_args
      exact pm_get_self
    · rw [hn]
      refine f2_mono (fun q u hq => ⟨hq.1, ?_⟩) (arg_lv_ok (l := l) (vs := vs) (i := if v.category = 2 then i + 2 else i + 1) h.2)
      have hge := lv_args_ge hq.2
      unfold lv_args
      refine pm_get_ne ?_ hq.2
      split at hge <;> omega
theorem f2_in {α β : Type} {R : α → β → Prop} {a : α} : ∀ {l : List α} {m : List β}, f2 R l m → a ∈ l → ∃ b, R a b
  | [], [], _, h => absurd h List.not_mem_nil
  | [], _ :: _, h, _ => h.elim
  | _ :: _, [], h, _ => h.elim
  | _ :: _, b :: _, h, hm => by
    cases List.mem_cons.mp hm with
    | inl e => subst e; exact ⟨b, h.1⟩
    | inr hm => exact f2_in h.2 hm
/-- a method is checked: its entry and its cuts -/
noncomputable def sum_chk {w : AW} (tab : List (Nat × AR w)) (sums : List Sum1) (cuts : List (Nat × List Cut)) (spl : List Nat) (K : List Nat) (N : Nat) (S : Sum1) : Bool :=
  cuts_chk (tab, sums, cuts, spl, arg_lv 0 S.2.1, S.2.2.2.2.2, S.2.2.2.2.1, K) N && (match cut_as 0 S.2.2.2.2.1 K (arg_lv 0 S.2.1, [], S.2.2.1, S.2.2.2.1, []) with
    | some A => ar_run (tab, sums, cuts, spl, arg_lv 0 S.2.1, S.2.2.2.2.2, S.2.2.2.2.1, K) none N A
    | none => false)
theorem cv_sz_le : ∀ {l : List CV} {vs : List Value}, f2 cv_g l vs → (lg_sl vs).length = (l.map cv_cat).sum
  | [], [], _ => rfl
  | [], _ :: _, h => h.elim
  | _ :: _, [], h => h.elim
  | c :: l, v :: vs, h => by
    have ih := cv_sz_le h.2
    have hc := cv_cat_eq h.1
    unfold lg_sl at ih ⊢
    rw [List.flatMap_cons, List.length_append, ih, List.map_cons, List.sum_cons, ← hc]
    rcases c with ⟨lo, hi⟩ | ⟨lo, hi⟩ | a | k | ⟨⟩ <;> cases v <;> first | rfl | exact h.1.elim
theorem meth_ok {w : AW} {P : List (Nat × pm_M)} {I : pm_M} {tab : List (Nat × AR w)} {sums : List Sum1} {cuts : List (Nat × List Cut)} {spl K : List Nat} {N d : Nat} {S : Sum1} (hI : pm_at P S.1 = some I) (ht : I.2.2.2.2.2.2.2 = ar_tab tab) (hz : Nat.ble (S.2.1.map cv_cat).sum I.2.2.1 = true) (hS : ∀ T ∈ sums, sum_g w (pm_Rt P d) T) (hc : sum_chk tab sums cuts spl K N S = true) : sum_g w (pm_Rt P (d + 1)) S := by
  intro h as hh ha hm hf
  unfold sum_chk at hc
  rw [Bool.and_eq_true] at hc
  have hal := arg_lv_ok (i := 0) ha
  have hg : cut_g w S.2.2.2.2.1 K h (lv_args 0 as) (arg_lv 0 S.2.1, [], S.2.2.1, S.2.2.2.1, []) (0, lv_args 0 as, [], h, I.2.2.2.2.2.1, I.2.2.2.2.2.2.1) :=
    ⟨fun i k hik => (by obtain ⟨v, q1, q2⟩ := f2_in hal hik; exact ⟨v, q2, q1⟩), trivial, hh, hm, hf, fun a k _ => rfl, fun i _ => rfl⟩
  obtain ⟨A, n, ρ, e1, e2, e3, e4⟩ := cut_as_ok hg
  have hr := hc.2
  have e1' : cut_as 0 S.2.2.2.2.1 K (arg_lv 0 S.2.1, [], S.2.2.1, S.2.2.2.1, []) = some A := e1
  rw [e1'] at hr
  dsimp only at hr
  obtain ⟨o, o1, o2, o3, o4⟩ := ar_run_ok (E := (n, ρ, h, lv_args 0 as)) (cl0 := []) (hh0 := []) (as := as) (call := pm_Rt P d) hS hal (fun l0 m0 rk0 hr => by cases hr) (fun cl c σ k1 k2 k3 _ => cuts_ok hS hal hc.1 _ cl c σ k1 k2 k3 (Nat.lt_succ_self _)) N A _ hr e2
  refine ⟨o.1, o.2, ⟨I, hI, ?_, ?_⟩, o2, o3, o4⟩
  · rw [cv_sz_le ha]
    exact Nat.le_of_ble_eq_true hz
  · rw [ht]
    exact o1
/-- more depth does no harm -/
theorem pm_go_up {look : Nat → Option pm_I} {call call' : pm_Call} (hc : ∀ y h as h' r, call y h as h' r → call' y h as h' r) : ∀ (n : Nat) (σ : pm_S) (o : pm_H × Option Value), pm_go look call n σ o → pm_go look call' n σ o
  | 0, _, _, h => h
  | n + 1, σ, o, h => by
    unfold pm_go at h ⊢
    split at h
    · exact h
    · split at h
      · exact h
      · exact pm_go_up hc n _ o h
    · obtain ⟨h', r, e1, e2, e3⟩ := h
      exact ⟨h', r, hc _ _ _ _ _ e1, e2, pm_go_up hc n _ o e3⟩
    · exact h
theorem pm_Rt_up {P : List (Nat × pm_M)} : ∀ (d : Nat) (y : Nat) (h : pm_H) (as : List Value) (h' : pm_H) (r : Option Value), pm_Rt P d y h as h' r → pm_Rt P (d + 1) y h as h' r
  | 0, _, _, _, _, _, h => h.elim
  | d + 1, y, h, as, h', r, ⟨I, e1, e2, n, e3⟩ => ⟨I, e1, e2, n, pm_go_up (pm_Rt_up d) n _ _ e3⟩
theorem sum_up {w : AW} {P : List (Nat × pm_M)} {S : Sum1} {d : Nat} (h : sum_g w (pm_Rt P d) S) : ∀ e : Nat, sum_g w (pm_Rt P (d + e)) S
  | 0 => h
  | e + 1 => fun h0 as a1 a2 a3 a4 => by
    obtain ⟨h', r, q1, q2⟩ := sum_up h e h0 as a1 a2 a3 a4
    exact ⟨h', r, pm_Rt_up _ _ _ _ _ _ q1, q2⟩
end
section
/-! THE EXECUTOR (second writing), part 14: every kind of row with its cover -/
section AIR
variable {w : AW}
noncomputable def R_const (v : Value) (n : Nat) : ARow w := ⟨(s_const v n, a_const v n, ck_const v n), (a_const_ok v n), ck_const_ok v n⟩
noncomputable def R_il (i n : Nat) : ARow w := ⟨(s_il i n, a_il i n, ck_ld 26 21 i n), (a_il_ok i n), ck_il_ok i n⟩
noncomputable def R_ll (i n : Nat) : ARow w := ⟨(s_ll i n, a_ll i n, ck_ld 30 22 i n), (a_ll_ok i n), ck_ll_ok i n⟩
noncomputable def R_al (i n : Nat) : ARow w := ⟨(s_al i n, a_al i n, ck_ld 42 25 i n), (a_al_ok i n), ck_al_ok i n⟩
noncomputable def R_is (i n : Nat) : ARow w := ⟨(s_is i n, a_is i n, ck_st 59 54 0 i n), (a_is_ok i n), ck_is_ok i n⟩
noncomputable def R_ls (i n : Nat) : ARow w := ⟨(s_ls i n, a_ls i n, ck_ls i n), (a_ls_ok i n), ck_ls_ok i n⟩
noncomputable def R_as (i n : Nat) : ARow w := ⟨(s_as i n, a_as i n, ck_as i n), (a_as_ok i n), ck_as_ok i n⟩
noncomputable def R_inc (i : Nat) (d : Int32) (n : Nat) : ARow w := ⟨(s_inc i d n, a_inc i d n, ck_inc i d n), (a_inc_ok i d n), ck_inc_ok i d n⟩
noncomputable def R_goto (n : Nat) : ARow w := ⟨(s_goto n, a_goto n, ck_goto n), (a_goto_ok n), ck_goto_ok n⟩
noncomputable def R_dup (n : Nat) : ARow w := ⟨(s_dup n, a_dup n, ck_1 89 n), (a_dup_ok n), ck_1_ok (g := s_dup) (fun _ _ _ _ _ h => k_dup (dk_dup h)) n⟩
noncomputable def R_dup2 (n : Nat) : ARow w := ⟨(s_dup2 n, a_dup2 n, ck_1 92 n), (a_dup2_ok n), ck_1_ok (g := s_dup2) (fun _ _ _ _ _ h => k_dup2 (dk_dup2 h)) n⟩
noncomputable def R_pop (n : Nat) : ARow w := ⟨(s_pop n, a_pop n, ck_1 87 n), (a_pop_ok n), ck_1_ok (g := s_pop) (fun _ _ _ _ _ h => k_pop (dk_pop h)) n⟩
noncomputable def R_i2l (n : Nat) : ARow w := ⟨(s_i2l n, a_i2l n, ck_1 133 n), (a_i2l_ok n), ck_1_ok (g := s_i2l) (fun _ _ _ _ _ h => k_i2l (dk_i2l h)) n⟩
noncomputable def R_l2i (n : Nat) : ARow w := ⟨(s_l2i n, a_l2i n, ck_1 136 n), (a_l2i_ok n), ck_1_ok (g := s_l2i) (fun _ _ _ _ _ h => k_l2i (dk_l2i h)) n⟩
noncomputable def R_lcmp (n : Nat) : ARow w := ⟨(s_lcmp n, a_lcmp n, ck_1 148 n), (a_lcmp_ok n), ck_1_ok (g := s_lcmp) (fun _ _ _ _ _ h => k_lcmp (dk_lcmp h)) n⟩
noncomputable def R_tald (n : Nat) : ARow w := ⟨(s_tald n, a_tald n, ck_1 46 n), (a_tald_ok n), ck_1_ok (g := s_tald) (fun _ _ _ _ _ h => k_tald (dk_iaload h)) n⟩
noncomputable def R_sval (n : Nat) : ARow w := ⟨(s_sval n, a_sval n, ck_no), (a_sval_ok n), ck_no_ok⟩
noncomputable def R_scod (n : Nat) : ARow w := ⟨(s_scod n, a_scod n, ck_no), (a_scod_ok n), ck_no_ok⟩
noncomputable def R_sblen (n : Nat) : ARow w := ⟨(s_sblen n, a_sblen n, ck_1 190 n), (a_sblen_ok n), ck_1_ok (g := s_sblen) (fun _ _ _ _ _ h => k_sblen (dk_arraylength h)) n⟩
noncomputable def R_sbald (n : Nat) : ARow w := ⟨(s_sbald n, a_sbald n, ck_1 51 n), (a_sbald_ok n), ck_1_ok (g := s_sbald) (fun _ _ _ _ _ h => k_sbald (dk_baload h)) n⟩
noncomputable def R_add (n : Nat) : ARow w := ⟨(s_bin (fun x y => x + y) n, a_add n, ck_1 96 n), (a_add_ok n), ck_1_ok (g := s_bin (fun x y => x + y)) (fun _ _ _ _ _ h => k_iadd (dk_iadd h)) n⟩
noncomputable def R_sub (n : Nat) : ARow w := ⟨(s_bin (fun x y => x - y) n, a_sub n, ck_1 100 n), (a_sub_ok n), ck_1_ok (g := s_bin (fun x y => x - y)) (fun _ _ _ _ _ h => k_isub (dk_isub h)) n⟩
noncomputable def R_mul (n : Nat) : ARow w := ⟨(s_bin (fun x y => x * y) n, a_bin (bo (fun x y => x * y) fb_mul) n, ck_1 104 n), (a_bin_ok n (bo_okx (fb_mul_ok))), ck_1_ok (g := s_bin (fun x y => x * y)) (fun _ _ _ _ _ h => k_imul (dk_imul h)) n⟩
noncomputable def R_and (n : Nat) : ARow w := ⟨(s_bin (fun x y => x &&& y) n, a_bin (bo (fun x y => x &&& y) fb_and) n, ck_1 126 n), (a_bin_ok n (bo_okx (fb_and_ok))), ck_1_ok (g := s_bin (fun x y => x &&& y)) (fun _ _ _ _ _ h => k_iand (dk_iand h)) n⟩
noncomputable def R_or (n : Nat) : ARow w := ⟨(s_bin (fun x y => x ||| y) n, a_bin (bo (fun x y => x ||| y) fb_or) n, ck_1 128 n), (a_bin_ok n (bo_okx (fb_or_ok))), ck_1_ok (g := s_bin (fun x y => x ||| y)) (fun _ _ _ _ _ h => k_ior (dk_ior h)) n⟩
noncomputable def R_xor (n : Nat) : ARow w := ⟨(s_bin (fun x y => x ^^^ y) n, a_bin (bo (fun x y => x ^^^ y) fb_xor) n, ck_1 130 n), (a_bin_ok n (bo_okx (fb_xor_ok))), ck_1_ok (g := s_bin (fun x y => x ^^^ y)) (fun _ _ _ _ _ h => k_ixor (dk_ixor h)) n⟩
noncomputable def R_shl (n : Nat) : ARow w := ⟨(s_bin (fun x y => x <<< (y &&& 31)) n, a_bin (bo (fun x y => x <<< (y &&& 31)) fb_shl) n, ck_1 120 n), (a_bin_ok n (bo_okx (fb_shl_ok))), ck_1_ok (g := s_bin (fun x y => x <<< (y &&& 31))) (fun _ _ _ _ _ h => k_ishl (dk_ishl h)) n⟩
noncomputable def R_shr (n : Nat) : ARow w := ⟨(s_bin (fun x y => x >>> (y &&& 31)) n, a_bin (bo (fun x y => x >>> (y &&& 31)) fb_top) n, ck_1 122 n), (a_bin_ok n (bo_okx (fb_top_ok _))), ck_1_ok (g := s_bin (fun x y => x >>> (y &&& 31))) (fun _ _ _ _ _ h => k_ishr (dk_ishr h)) n⟩
noncomputable def R_ushr (n : Nat) : ARow w := ⟨(s_bin (fun x y => (x.toUInt32 >>> (y.toUInt32 &&& Int32.toUInt32 31)).toInt32) n, a_bin (bo (fun x y => (x.toUInt32 >>> (y.toUInt32 &&& Int32.toUInt32 31)).toInt32) fb_top) n, ck_1 124 n), (a_bin_ok n (bo_okx (fb_top_ok _))), ck_1_ok (g := s_bin (fun x y => (x.toUInt32 >>> (y.toUInt32 &&& Int32.toUInt32 31)).toInt32)) (fun _ _ _ _ _ h => k_iushr (dk_iushr h)) n⟩
noncomputable def R_idiv (n : Nat) : ARow w := ⟨(s_div (fun x y => x / y) n, a_div (bo (fun x y => x / y) fb_div) n, ck_1 108 n), (a_div_ok n (bd_okx fb_div_ok)), ck_1_ok (g := s_div (fun x y => x / y)) (fun _ _ _ _ _ h => k_idiv (dk_idiv h)) n⟩
noncomputable def R_irem (n : Nat) : ARow w := ⟨(s_div (fun x y => x - x / y * y) n, a_div (bo (fun x y => x - x / y * y) fb_rem) n, ck_1 112 n), (a_div_ok n (bd_okx fb_rem_ok)), ck_1_ok (g := s_div (fun x y => x - x / y * y)) (fun _ _ _ _ _ h => k_irem (dk_irem h)) n⟩
noncomputable def R_i2b (n : Nat) : ARow w := ⟨(s_un (fun x => x.toInt8.toInt32) n, a_nar (-128) 127 n, ck_1 145 n), (a_i2b_ok n), ck_1_ok (g := s_un (fun x => x.toInt8.toInt32)) (fun _ _ _ _ _ h => k_i2b (dk_i2b h)) n⟩
noncomputable def R_i2s (n : Nat) : ARow w := ⟨(s_un (fun x => x.toInt16.toInt32) n, a_nar (-32768) 32767 n, ck_1 147 n), (a_i2s_ok n), ck_1_ok (g := s_un (fun x => x.toInt16.toInt32)) (fun _ _ _ _ _ h => k_i2s (dk_i2s h)) n⟩
noncomputable def R_i2c (n : Nat) : ARow w := ⟨(s_un (fun x => (x.toUInt32 % 65536).toInt32) n, a_nar 0 65535 n, ck_1 146 n), (a_i2c_ok n), ck_1_ok (g := s_un (fun x => (x.toUInt32 % 65536).toInt32)) (fun _ _ _ _ _ h => k_i2c (dk_i2c h)) n⟩
noncomputable def R_neg (n : Nat) : ARow w := ⟨(s_un (fun x => -x) n, a_neg n, ck_1 116 n), (a_neg_ok n), ck_1_ok (g := s_un (fun x => -x)) (fun _ _ _ _ _ h => k_ineg (dk_ineg h)) n⟩
noncomputable def R_lneg (n : Nat) : ARow w := ⟨(s_lun (fun x => -x) n, a_lneg n, ck_1 117 n), (a_lneg_ok n), ck_1_ok (g := s_lun (fun x => -x)) (fun _ _ _ _ _ h => k_lneg (dk_lneg h)) n⟩
noncomputable def R_ladd (n : Nat) : ARow w := ⟨(s_lbin (fun x y => x + y) n, a_lbin fl_add n, ck_1 97 n), (a_lbin_ok n fl_add_ok), ck_1_ok (g := s_lbin (fun x y => x + y)) (fun _ _ _ _ _ h => k_ladd (dk_ladd h)) n⟩
noncomputable def R_lsub (n : Nat) : ARow w := ⟨(s_lbin (fun x y => x - y) n, a_lbin fl_sub n, ck_1 101 n), (a_lbin_ok n fl_sub_ok), ck_1_ok (g := s_lbin (fun x y => x - y)) (fun _ _ _ _ _ h => k_lsub (dk_lsub h)) n⟩
noncomputable def R_lmul (n : Nat) : ARow w := ⟨(s_lbin (fun x y => x * y) n, a_lbin fl_mul n, ck_1 105 n), (a_lbin_ok n fl_mul_ok), ck_1_ok (g := s_lbin (fun x y => x * y)) (fun _ _ _ _ _ h => k_lmul (dk_lmul h)) n⟩
noncomputable def R_land (n : Nat) : ARow w := ⟨(s_lbin (fun x y => x &&& y) n, a_lbin fl_top n, ck_1 127 n), (a_lbin_ok n (fl_top_ok _)), ck_1_ok (g := s_lbin (fun x y => x &&& y)) (fun _ _ _ _ _ h => k_land (dk_land h)) n⟩
noncomputable def R_ldiv (n : Nat) : ARow w := ⟨(s_ldiv (fun x y => x / y) n, a_ldiv fl_top n, ck_1 109 n), (a_ldiv_ok n (ld_top_ok _)), ck_1_ok (g := s_ldiv (fun x y => x / y)) (fun _ _ _ _ _ h => k_ldiv (dk_ldiv h)) n⟩
noncomputable def R_lrem (n : Nat) : ARow w := ⟨(s_ldiv (fun x y => x - x / y * y) n, a_ldiv fl_top n, ck_1 113 n), (a_ldiv_ok n (ld_top_ok _)), ck_1_ok (g := s_ldiv (fun x y => x - x / y * y)) (fun _ _ _ _ _ h => k_lrem (dk_lrem h)) n⟩
noncomputable def R_if1_eq (t n : Nat) : ARow w := ⟨(s_if (fun x => decide (x = 0)) t n, a_if1 0 t n, ck_if 153 t n), (a_if1_ok 0 t n (fun _ => decide_eq_decide.mpr (Int32.toInt_inj.symm))), ck_if_ok (g := s_if (fun x => decide (x = 0))) (fun _ _ _ _ _ _ _ h e => k_if_eq (dk_ifCond_eq h) e) t n⟩
noncomputable def R_if2_eq (t n : Nat) : ARow w := ⟨(s_icmp (fun x y => decide (x = y)) t n, a_if2 0 t n, ck_if 159 t n), (a_if2_ok 0 t n (fun _ _ => decide_eq_decide.mpr (Int32.toInt_inj.symm))), ck_if_ok (g := s_icmp (fun x y => decide (x = y))) (fun _ _ _ _ _ _ _ h e => k_icmp_eq (dk_if_icmp_eq h) e) t n⟩
noncomputable def R_if1_ne (t n : Nat) : ARow w := ⟨(s_if (fun x => decide (¬ x = 0)) t n, a_if1 1 t n, ck_if 154 t n), (a_if1_ok 1 t n (fun _ => decide_eq_decide.mpr (not_congr Int32.toInt_inj.symm))), ck_if_ok (g := s_if (fun x => decide (¬ x = 0))) (fun _ _ _ _ _ _ _ h e => k_if_ne (dk_ifCond_ne h) e) t n⟩
noncomputable def R_if2_ne (t n : Nat) : ARow w := ⟨(s_icmp (fun x y => decide (¬ x = y)) t n, a_if2 1 t n, ck_if 160 t n), (a_if2_ok 1 t n (fun _ _ => decide_eq_decide.mpr (not_congr Int32.toInt_inj.symm))), ck_if_ok (g := s_icmp (fun x y => decide (¬ x = y))) (fun _ _ _ _ _ _ _ h e => k_icmp_ne (dk_if_icmp_ne h) e) t n⟩
noncomputable def R_if1_lt (t n : Nat) : ARow w := ⟨(s_if (fun x => decide (x < 0)) t n, a_if1 2 t n, ck_if 155 t n), (a_if1_ok 2 t n (fun _ => decide_eq_decide.mpr (Int32.lt_iff_toInt_lt))), ck_if_ok (g := s_if (fun x => decide (x < 0))) (fun _ _ _ _ _ _ _ h e => k_if_lt (dk_ifCond_lt h) e) t n⟩
noncomputable def R_if2_lt (t n : Nat) : ARow w := ⟨(s_icmp (fun x y => decide (x < y)) t n, a_if2 2 t n, ck_if 161 t n), (a_if2_ok 2 t n (fun _ _ => decide_eq_decide.mpr (Int32.lt_iff_toInt_lt))), ck_if_ok (g := s_icmp (fun x y => decide (x < y))) (fun _ _ _ _ _ _ _ h e => k_icmp_lt (dk_if_icmp_lt h) e) t n⟩
noncomputable def R_if1_ge (t n : Nat) : ARow w := ⟨(s_if (fun x => decide (0 ≤ x)) t n, a_if1 3 t n, ck_if 156 t n), (a_if1_ok 3 t n (fun _ => decide_eq_decide.mpr (Int32.le_iff_toInt_le))), ck_if_ok (g := s_if (fun x => decide (0 ≤ x))) (fun _ _ _ _ _ _ _ h e => k_if_ge (dk_ifCond_ge h) e) t n⟩
noncomputable def R_if2_ge (t n : Nat) : ARow w := ⟨(s_icmp (fun x y => decide (y ≤ x)) t n, a_if2 3 t n, ck_if 162 t n), (a_if2_ok 3 t n (fun _ _ => decide_eq_decide.mpr (Int32.le_iff_toInt_le))), ck_if_ok (g := s_icmp (fun x y => decide (y ≤ x))) (fun _ _ _ _ _ _ _ h e => k_icmp_ge (dk_if_icmp_ge h) e) t n⟩
noncomputable def R_if1_gt (t n : Nat) : ARow w := ⟨(s_if (fun x => decide (0 < x)) t n, a_if1 4 t n, ck_if 157 t n), (a_if1_ok 4 t n (fun _ => decide_eq_decide.mpr (Int32.lt_iff_toInt_lt))), ck_if_ok (g := s_if (fun x => decide (0 < x))) (fun _ _ _ _ _ _ _ h e => k_if_gt (dk_ifCond_gt h) e) t n⟩
noncomputable def R_if2_gt (t n : Nat) : ARow w := ⟨(s_icmp (fun x y => decide (y < x)) t n, a_if2 4 t n, ck_if 163 t n), (a_if2_ok 4 t n (fun _ _ => decide_eq_decide.mpr (Int32.lt_iff_toInt_lt))), ck_if_ok (g := s_icmp (fun x y => decide (y < x))) (fun _ _ _ _ _ _ _ h e => k_icmp_gt (dk_if_icmp_gt h) e) t n⟩
noncomputable def R_if1_le (t n : Nat) : ARow w := ⟨(s_if (fun x => decide (x ≤ 0)) t n, a_if1 5 t n, ck_if 158 t n), (a_if1_ok 5 t n (fun _ => decide_eq_decide.mpr (Int32.le_iff_toInt_le))), ck_if_ok (g := s_if (fun x => decide (x ≤ 0))) (fun _ _ _ _ _ _ _ h e => k_if_le (dk_ifCond_le h) e) t n⟩
noncomputable def R_if2_le (t n : Nat) : ARow w := ⟨(s_icmp (fun x y => decide (x ≤ y)) t n, a_if2 5 t n, ck_if 164 t n), (a_if2_ok 5 t n (fun _ _ => decide_eq_decide.mpr (Int32.le_iff_toInt_le))), ck_if_ok (g := s_icmp (fun x y => decide (x ≤ y))) (fun _ _ _ _ _ _ _ h e => k_icmp_le (dk_if_icmp_le h) e) t n⟩
noncomputable def R_tsw (lo hi : Int) (ts : List Nat) (d : Nat) : ARow w := ⟨(s_tsw lo hi ts d, a_tsw lo hi ts d, ck_no), (a_tsw_ok lo hi ts d), ck_no_ok⟩
noncomputable def R_getf (ci k n : Nat) : ARow w := ⟨(s_getf ci k n, a_getf w ci k n, ck_gf ci k n), (a_getf_ok ci k n), ck_gf_ok ci k n⟩
noncomputable def R_putf (ci k : Nat) (ty : FieldType) (n : Nat) : ARow w := ⟨(s_putf ci k ty n, a_putf w ci k ty n, ck_pf ci k ty n), (a_putf_ok ci k ty n), ck_pf_ok ci k ty n⟩
noncomputable def R_iald (n : Nat) : ARow w := ⟨(s_iald n, a_ald w 0 n, ck_1 46 n), (a_iald_ok n), ck_1_ok (g := s_iald) (fun _ _ _ _ _ h => k_iald (dk_iaload h)) n⟩
noncomputable def R_bald (n : Nat) : ARow w := ⟨(s_bald n, a_ald w 1 n, ck_1 51 n), (a_bald_ok n), ck_1_ok (g := s_bald) (fun _ _ _ _ _ h => k_bald (dk_baload h)) n⟩
noncomputable def R_zald (n : Nat) : ARow w := ⟨(s_zald n, a_ald w 2 n, ck_1 51 n), (a_zald_ok n), ck_1_ok (g := s_zald) (fun _ _ _ _ _ h => k_zald (dk_baload h)) n⟩
noncomputable def R_iast (n : Nat) : ARow w := ⟨(s_iast n, a_ast w 0 (-2147483648) 2147483647 n, ck_1 79 n), (a_iast_ok n), ck_1_ok (g := s_iast) (fun _ _ _ _ _ h => k_iast (dk_iastore h)) n⟩
noncomputable def R_bast (n : Nat) : ARow w := ⟨(s_bast n, a_ast w 1 (-128) 127 n, ck_1 84 n), (a_bast_ok n), ck_1_ok (g := s_bast) (fun _ _ _ _ _ h => k_bast (dk_bastore h)) n⟩
noncomputable def R_zast (n : Nat) : ARow w := ⟨(s_zast n, a_ast w 2 0 1 n, ck_1 84 n), (a_zast_ok n), ck_1_ok (g := s_zast) (fun _ _ _ _ _ h => k_zast (dk_bastore h)) n⟩
noncomputable def R_lald (n : Nat) : ARow w := ⟨(s_lald n, a_lald w n, ck_1 47 n), (a_lald_ok n), ck_1_ok (g := s_lald) (fun _ _ _ _ _ h => k_lald (dk_laload h)) n⟩
noncomputable def R_last (n : Nat) : ARow w := ⟨(s_last n, a_last w n, ck_1 80 n), (a_last_ok n), ck_1_ok (g := s_last) (fun _ _ _ _ _ h => k_last (dk_lastore h)) n⟩
noncomputable def R_aald (t n : Nat) : ARow w := ⟨(s_aald t n, a_aald w t n, ck_aa t n), (a_aald_ok t n), ck_aa_ok t n⟩
end AIR
end
section
/-! THE EXECUTOR (second writing), part 15: rows with hints -/
/-- a row, and what is made of the states behind it without a step -/
noncomputable def R_h {w : AW} (r : ARow w) (g : AS → List AS) (hg : ∀ (E : AEnv) (A : AS) (σ : pm_S), as_g w E A σ → ∃ B ∈ g A, as_g w E B σ) : ARow w := ⟨(r.1.1, fun A => (r.1.2.1 A).map (fun As => As.flatMap g), r.1.2.2), (by
  intro E A σ Bs g0 h
  obtain ⟨As, hAs, rfl⟩ := Option.map_eq_some_iff.mp h
  obtain ⟨σ', e1, A', e2, e3⟩ := r.2.1 E A σ As g0 hAs
  obtain ⟨B, hB, gB⟩ := hg E A' σ' e3
  exact ⟨σ', e1, B, List.mem_flatMap.mpr ⟨A', e2, hB⟩, gB⟩), r.2.2⟩
noncomputable def set_fl (A : AS) (fl : List Nat) : AS := (A.1, A.2.1, A.2.2.1, A.2.2.2.1, A.2.2.2.2.1, A.2.2.2.2.2.1, fl, A.2.2.2.2.2.2.2)
theorem set_fl_ok {w : AW} {E : AEnv} {ρ : Nat → Int} {A : AS} {σ : pm_S} {fl : List Nat} (g : as_r w E ρ A σ) (h : ∀ i ∈ fl, w.1.2.1 i σ.2.2.2.1) : as_r w E ρ (set_fl A fl) σ := by
  obtain ⟨g1, g2, g3, g4, g5⟩ := g
  exact ⟨g1, g2, g3, g4, g5.1, g5.2.1, g5.2.2.1, h, g5.2.2.2.2⟩
noncomputable def set_iv (A : AS) (iv : IV) : AS := (A.1, A.2.1, A.2.2.1, iv, A.2.2.2.2)
end
section
/-! THE EXECUTOR, rows looked up in the rest of the table behind the row before (wants meth_ok) -/
noncomputable def pm_dr {α : Type} : List (Nat × α) → Nat → List (Nat × α)
  | [], _ => []
  | q :: l, i => bif Nat.beq q.1 i then q :: l else pm_dr l i
noncomputable def pm_hd {α : Type} (sf t : List (Nat × α)) (i : Nat) : List (Nat × α) := match sf with
  | [] => pm_dr t i
  | q :: l => bif Nat.beq q.1 i then q :: l else pm_dr t i
noncomputable def srt {α : Type} : List (Nat × α) → Bool
  | [] => true
  | q :: l => (match l with | [] => true | r :: _ => Nat.blt q.1 r.1) && srt l
theorem srt_lt {α : Type} : ∀ {l : List (Nat × α)} {a : Nat × α}, srt (a :: l) = true → ∀ q ∈ l, a.1 < q.1
  | [], _, _, _, hq => absurd hq List.not_mem_nil
  | b :: l, a, h, q, hq => by
    have h : (Nat.blt a.1 b.1 && srt (b :: l)) = true := h
    rw [Bool.and_eq_true] at h
    have h1 : a.1 < b.1 := Nat.le_of_ble_eq_true h.1
    cases List.mem_cons.mp hq with
    | inl e => rw [e]; exact h1
    | inr hq => exact Nat.lt_trans h1 (srt_lt h.2 q hq)
theorem srt_at {α : Type} : ∀ {t : List (Nat × α)}, srt t = true → ∀ q ∈ t, pm_at t q.1 = some q.2
  | [], _, _, hq => absurd hq List.not_mem_nil
  | a :: l, h, q, hq => by
    have h2 : srt l = true := by
      cases l with
      | nil => rfl
      | cons b l =>
        have h : (Nat.blt a.1 b.1 && srt (b :: l)) = true := h
        rw [Bool.and_eq_true] at h
        exact h.2
    unfold pm_at
    cases List.mem_cons.mp hq with
    | inl e => rw [e, Nat.beq_refl]; rfl
    | inr hq =>
      have hlt := srt_lt h q hq
      have hb : Nat.beq a.1 q.1 = false := by
        cases hb : Nat.beq a.1 q.1 with
        | false => rfl
        | true => have := Nat.eq_of_beq_eq_true hb; omega
      rw [hb]
      exact srt_at h2 q hq
theorem dr_in {α : Type} : ∀ {t : List (Nat × α)} {i : Nat} {q : Nat × α} {rest : List (Nat × α)}, pm_dr t i = q :: rest → q.1 = i ∧ q ∈ t ∧ ∀ x ∈ rest, x ∈ t
  | [], _, _, _, h => by cases h
  | a :: l, i, q, rest, h => by
    unfold pm_dr at h
    cases hb : Nat.beq a.1 i with
    | true =>
      rw [hb] at h
      have h : a :: l = q :: rest := h
      injection h with e1 e2
      subst e1; subst e2
      exact ⟨Nat.eq_of_beq_eq_true hb, List.mem_cons_self, fun x hx => List.mem_cons_of_mem _ hx⟩
    | false =>
      rw [hb] at h
      obtain ⟨h1, h2, h3⟩ := dr_in (t := l) h
      exact ⟨h1, List.mem_cons_of_mem _ h2, fun x hx => List.mem_cons_of_mem _ (h3 x hx)⟩
theorem hd_in {α : Type} {sf t : List (Nat × α)} {i : Nat} {q : Nat × α} {rest : List (Nat × α)} (hs : ∀ x ∈ sf, x ∈ t) (h : pm_hd sf t i = q :: rest) : q.1 = i ∧ q ∈ t ∧ ∀ x ∈ rest, x ∈ t := by
  cases sf with
  | nil => exact dr_in (t := t) h
  | cons a l =>
    have h : (bif Nat.beq a.1 i then a :: l else pm_dr t i) = q :: rest := h
    cases hb : Nat.beq a.1 i with
    | true =>
      rw [hb] at h
      have h : a :: l = q :: rest := h
      injection h with e1 e2
      subst e1; subst e2
      exact ⟨Nat.eq_of_beq_eq_true hb, hs _ List.mem_cons_self, fun x hx => hs x (List.mem_cons_of_mem _ hx)⟩
    | false =>
      rw [hb] at h
      exact dr_in (t := t) h
noncomputable def ar_runB {w : AW} (J : Job w) (r0 : Option (List (Nat × AV) × Mem × RK)) : Nat → List (Nat × AR w) → AS → Bool
  | 0, _, _ => false
  | n + 1, sf, A => match pm_hd sf J.1 A.1 with
    | [] => false
    | q :: rest => match q.2 with
      | .inl r => match r.1.2.1 A with
        | none => false
        | some As => match sp_do J.2.2.2.1 A.1 As with
          | none => false
          | some Bs => Bs.all (nx_chk J r0 (ar_runB J r0 n rest))
      | .inr (.inl (y, k, ci, mc, ms)) => match call_do w J.2.1 A y k ci mc ms with
        | none => false
        | some As => match sp_do J.2.2.2.1 A.1 As with
          | none => false
          | some Bs => Bs.all (nx_chk J r0 (ar_runB J r0 n rest))
      | .inr (.inr kd) => decide (A.2.2.2.2.2.2.2 = J.2.2.2.2.2.2) && rt_chk kd A J.2.2.2.2.1 J.2.2.2.2.2.1
theorem nx_mono {w : AW} {J : Job w} {r0 : Option (List (Nat × AV) × Mem × RK)} {f g : AS → Bool} (hfg : ∀ B, f B = true → g B = true) {B : AS} (h : nx_chk J r0 f B = true) : nx_chk J r0 g B = true := by
  unfold nx_chk at h ⊢
  cases hc : pm_at J.2.2.1 B.1 with
  | none => rw [hc] at h; exact hfg B h
  | some cl => rw [hc] at h; exact h
theorem runB_ok {w : AW} {J : Job w} {r0 : Option (List (Nat × AV) × Mem × RK)} (hs : srt J.1 = true) : ∀ (n : Nat) (sf : List (Nat × AR w)) (A : AS), (∀ x ∈ sf, x ∈ J.1) → ar_runB J r0 n sf A = true → ar_run J r0 n A = true
  | 0, _, _, _, h => by cases h
  | n + 1, sf, A, hsf, h => by
    unfold ar_runB at h
    cases hp : pm_hd sf J.1 A.1 with
    | nil => rw [hp] at h; cases h
    | cons q rest =>
      rw [hp] at h
      obtain ⟨e1, e2, e3⟩ := hd_in hsf hp
      have ea := srt_at hs q e2
      rw [e1] at ea
      have mono : ∀ Bs : List AS, Bs.all (nx_chk J r0 (ar_runB J r0 n rest)) = true → Bs.all (nx_chk J r0 (ar_run J r0 n)) = true := fun Bs hb =>
        List.all_eq_true.mpr (fun B hB => nx_mono (fun C hC => runB_ok hs n rest C e3 hC) (List.all_eq_true.mp hb B hB))
      obtain ⟨pc, x⟩ := q
      unfold ar_run
      rw [ea]
      dsimp only at h ⊢
      match x, h with
      | .inl r, h =>
        dsimp only at h ⊢
        cases hA : r.1.2.1 A with
        | none => rw [hA] at h; cases h
        | some As =>
          rw [hA] at h
          dsimp only at h ⊢
          cases hsp : sp_do J.2.2.2.1 A.1 As with
          | none => rw [hsp] at h; cases h
          | some Bs => rw [hsp] at h; exact mono Bs h
      | .inr (.inl (y, k, ci, mc, ms)), h =>
        dsimp only at h ⊢
        cases hA : call_do w J.2.1 A y k ci mc ms with
        | none => rw [hA] at h; cases h
        | some As =>
          rw [hA] at h
          dsimp only at h ⊢
          cases hsp : sp_do J.2.2.2.1 A.1 As with
          | none => rw [hsp] at h; cases h
          | some Bs => rw [hsp] at h; exact mono Bs h
      | .inr (.inr kd), h => exact h
noncomputable def cuts_chkB {w : AW} (J : Job w) (N : Nat) : Bool := J.2.2.1.all (fun q => q.2.all (fun c => rk_small c.2.2.2.2 && (match cut_as q.1 J.2.2.2.2.2.2.1 J.2.2.2.2.2.2.2 c with
  | some A => ar_runB J (some (A.2.1, A.2.2.2.2.1, c.2.2.2.2)) N [] A
  | none => false)))
theorem cutsB_ok {w : AW} {J : Job w} {N : Nat} (hs : srt J.1 = true) (h : cuts_chkB J N = true) : cuts_chk J N = true := by
  refine List.all_eq_true.mpr (fun q hq => List.all_eq_true.mpr (fun c hc => ?_))
  have h1 := List.all_eq_true.mp (List.all_eq_true.mp h q hq) c hc
  rw [Bool.and_eq_true] at h1 ⊢
  refine ⟨h1.1, ?_⟩
  have h2 := h1.2
  cases hA : cut_as q.1 J.2.2.2.2.2.2.1 J.2.2.2.2.2.2.2 c with
  | none => rw [hA] at h2; cases h2
  | some A => rw [hA] at h2; exact runB_ok hs N [] A (fun x hx => absurd hx List.not_mem_nil) h2
noncomputable def sum_chkB {w : AW} (tab : List (Nat × AR w)) (sums : List Sum1) (cuts : List (Nat × List Cut)) (spl : List Nat) (K : List Nat) (N : Nat) (S : Sum1) : Bool :=
  srt tab && (cuts_chkB (tab, sums, cuts, spl, arg_lv 0 S.2.1, S.2.2.2.2.2, S.2.2.2.2.1, K) N && (match cut_as 0 S.2.2.2.2.1 K (arg_lv 0 S.2.1, [], S.2.2.1, S.2.2.2.1, []) with
    | some A => ar_runB (tab, sums, cuts, spl, arg_lv 0 S.2.1, S.2.2.2.2.2, S.2.2.2.2.1, K) none N [] A
    | none => false))
theorem sumB_ok {w : AW} {tab : List (Nat × AR w)} {sums : List Sum1} {cuts : List (Nat × List Cut)} {spl K : List Nat} {N : Nat} {S : Sum1} (h : sum_chkB tab sums cuts spl K N S = true) : sum_chk tab sums cuts spl K N S = true := by
  unfold sum_chkB at h
  rw [Bool.and_eq_true, Bool.and_eq_true] at h
  obtain ⟨h0, h1, h2⟩ := h
  unfold sum_chk
  rw [Bool.and_eq_true]
  refine ⟨cutsB_ok h0 h1, ?_⟩
  cases hA : cut_as 0 S.2.2.2.2.1 K (arg_lv 0 S.2.1, [], S.2.2.1, S.2.2.2.1, []) with
  | none => rw [hA] at h2; cases h2
  | some A => rw [hA] at h2; exact runB_ok h0 N [] A (fun x hx => absurd hx List.not_mem_nil) h2
theorem meth_okB {w : AW} {P : List (Nat × pm_M)} {I : pm_M} {tab : List (Nat × AR w)} {sums : List Sum1} {cuts : List (Nat × List Cut)} {spl K : List Nat} {N d : Nat} {S : Sum1} (hI : pm_at P S.1 = some I) (ht : I.2.2.2.2.2.2.2 = ar_tab tab) (hz : Nat.ble (S.2.1.map cv_cat).sum I.2.2.1 = true) (hS : ∀ T ∈ sums, sum_g w (pm_Rt P d) T) (hc : sum_chkB tab sums cuts spl K N S = true) : sum_g w (pm_Rt P (d + 1)) S := meth_ok hI ht hz hS (sumB_ok hc)
end
