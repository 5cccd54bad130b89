section
section AIB
variable {w : AW}
/-- two longs: by bounds; a known one added or taken away moves the offset -/
noncomputable def lo_ok (op : Int64 → Int64 → Int64) (f : Int → Int → Int → Int → Int × Int) : Prop := ∀ (x y : Int64) (l1 u1 l2 u2 : Int), l1 ≤ x.toInt → x.toInt ≤ u1 → l2 ≤ y.toInt → y.toInt ≤ u2 → (f l1 u1 l2 u2).1 ≤ (op x y).toInt ∧ (op x y).toInt ≤ (f l1 u1 l2 u2).2
noncomputable def a_lbin (f : Int → Int → Int → Int → Int × Int) (n : Nat) : AS → Option (List AS) := fun A => match A.2.2.1 with
  | .inr (.inl (k2, o2)) :: .inr (.inl (k1, o1)) :: st => match iv_rng A.2.2.2.1 k1 o1, iv_rng A.2.2.2.1 k2 o2 with
    | some (l1, u1), some (l2, u2) => some [a_pl n A.2.1 st A.2.2.2.1 A.2.2.2.2 (f l1 u1 l2 u2).1 (f l1 u1 l2 u2).2]
    | _, _ => none
  | _ => none
theorem a_lbin_ok {op : Int64 → Int64 → Int64} {f : Int → Int → Int → Int → Int × Int} (n : Nat) (hf : lo_ok op f) : ai_ok w (s_lbin op n) (a_lbin f n) := by
  rintro E ⟨pc, lv, st, iv, ex⟩ ⟨pc', cl, cs, W⟩ As ⟨ρ, g1, g2, g3, g4, g5⟩ h
  simp only [a_lbin] at h
  split at h
  · rename_i k2 o2 k1 o1 st'
    split at h
    · rename_i l1 u1 l2 u2 r1 r2
      cases h
      obtain ⟨v, cs, rfl, ha, hr0⟩ := f2_cons g4
      obtain ⟨u, cs, rfl, hc, hr⟩ := f2_cons hr0
      obtain ⟨y, rfl, ha⟩ := av_long ha
      obtain ⟨x, rfl, hc⟩ := av_long hc
      have b1 := iv_rng_ok g1 hc r1
      have b2 := iv_rng_ok g1 ha r2
      have hq := hf x y l1 u1 l2 u2 b1.1 b1.2 b2.1 b2.2
      exact ⟨(n, cl, .long (op x y) :: cs, W), rfl, _, List.mem_singleton_self _, a_pl_ok (st := st') (pc := pc) (pc' := pc') ⟨g1, g2, g3, hr, g5⟩ hq.1 hq.2⟩
    · cases h
  · cases h
noncomputable def fl_top (_ _ _ _ : Int) : Int × Int := (-9223372036854775808, 9223372036854775807)
theorem fl_top_ok (op : Int64 → Int64 → Int64) : lo_ok op fl_top := fun _ _ _ _ _ _ _ _ _ _ => ⟨al_lo _, al_hi _⟩
noncomputable def fl_mul (l1 u1 l2 u2 : Int) : Int × Int := al_bnd (mn4 (l1 * l2) (l1 * u2) (u1 * l2) (u1 * u2)) (mx4 (l1 * l2) (l1 * u2) (u1 * l2) (u1 * u2))
theorem fl_mul_ok : lo_ok (fun x y => x * y) fl_mul := by
  intro x y l1 u1 l2 u2 h1 h2 h3 h4
  have hm := mul_rg h1 h2 h3 h4
  refine al_bnd_ok (fun hb => ?_)
  have hi := al_in_ok hb
  show _ ≤ (x * y).toInt ∧ (x * y).toInt ≤ _
  rw [al_mul (by omega) (by omega)]
  exact hm
noncomputable def fl_add (l1 u1 l2 u2 : Int) : Int × Int := al_bnd (l1 + l2) (u1 + u2)
theorem fl_add_ok : lo_ok (fun x y => x + y) fl_add := by
  intro x y l1 u1 l2 u2 h1 h2 h3 h4
  refine al_bnd_ok (fun hb => ?_)
  have hi := al_in_ok hb
  show _ ≤ (x + y).toInt ∧ (x + y).toInt ≤ _
  rw [al_add (by omega) (by omega)]
  omega
noncomputable def fl_sub (l1 u1 l2 u2 : Int) : Int × Int := al_bnd (l1 - u2) (u1 - l2)
theorem fl_sub_ok : lo_ok (fun x y => x - y) fl_sub := by
  intro x y l1 u1 l2 u2 h1 h2 h3 h4
  refine al_bnd_ok (fun hb => ?_)
  have hi := al_in_ok hb
  show _ ≤ (x - y).toInt ∧ (x - y).toInt ≤ _
  rw [al_sub (by omega) (by omega)]
  omega
noncomputable def ld_ok (op : Int64 → Int64 → Int64) (f : Int → Int → Int → Int → Int × Int) : Prop := ∀ (x y : Int64) (l1 u1 l2 u2 : Int), 0 < l2 → l1 ≤ x.toInt → x.toInt ≤ u1 → l2 ≤ y.toInt → y.toInt ≤ u2 → (f l1 u1 l2 u2).1 ≤ (op x y).toInt ∧ (op x y).toInt ≤ (f l1 u1 l2 u2).2
noncomputable def a_ldiv (f : Int → Int → Int → Int → Int × Int) (n : Nat) : AS → Option (List AS) := fun A => match A.2.2.1 with
  | .inr (.inl (k2, o2)) :: .inr (.inl (k1, o1)) :: st => match iv_rng A.2.2.2.1 k1 o1, iv_rng A.2.2.2.1 k2 o2 with
    | some (l1, u1), some (l2, u2) => bif decide (0 < l2) then some [a_pl n A.2.1 st A.2.2.2.1 A.2.2.2.2 (f l1 u1 l2 u2).1 (f l1 u1 l2 u2).2] else (bif decide (u2 < 0) then some [a_pl n A.2.1 st A.2.2.2.1 A.2.2.2.2 (-9223372036854775808) 9223372036854775807] else none)
    | _, _ => none
  | _ => none
theorem a_ldiv_ok {op : Int64 → Int64 → Int64} {f : Int → Int → Int → Int → Int × Int} (n : Nat) (hf : ld_ok op f) : ai_ok w (s_ldiv op n) (a_ldiv f n) := by
  rintro E ⟨pc, lv, st, iv, ex⟩ ⟨pc', cl, cs, W⟩ As ⟨ρ, g1, g2, g3, g4, g5⟩ h
  simp only [a_ldiv] at h
  split at h
  · rename_i k2 o2 k1 o1 st'
    split at h
    · rename_i l1 u1 l2 u2 r1 r2
      obtain ⟨v, cs, rfl, ha, hr0⟩ := f2_cons g4
      obtain ⟨u, cs, rfl, hc, hr⟩ := f2_cons hr0
      obtain ⟨y, rfl, ha⟩ := av_long ha
      obtain ⟨x, rfl, hc⟩ := av_long hc
      have b1 := iv_rng_ok g1 hc r1
      have b2 := iv_rng_ok g1 ha r2
      have z : (0 : Int64).toInt = 0 := rfl
      cases hb : decide (0 < l2) with
      | true =>
        rw [hb] at h
        have hb := of_decide_eq_true hb
        cases h
        have hq := hf x y l1 u1 l2 u2 hb b1.1 b1.2 b2.1 b2.2
        have hy : ¬ y = 0 := by intro e; subst e; omega
        exact ⟨(n, cl, .long (op x y) :: cs, W), by simp only [s_ldiv, if_neg hy], _, List.mem_singleton_self _, a_pl_ok (st := st') (pc := pc) (pc' := pc') ⟨g1, g2, g3, hr, g5⟩ hq.1 hq.2⟩
      | false =>
        rw [hb, cond_false] at h
        cases hd : decide (u2 < 0) with
        | false => rw [hd] at h; cases h
        | true =>
          rw [hd] at h
          cases h
          have hd := of_decide_eq_true hd
          have hy : ¬ y = 0 := by intro e; subst e; omega
          exact ⟨(n, cl, .long (op x y) :: cs, W), by simp only [s_ldiv, if_neg hy], _, List.mem_singleton_self _, a_pl_ok (st := st') (pc := pc) (pc' := pc') ⟨g1, g2, g3, hr, g5⟩ (al_lo _) (al_hi _)⟩
    · cases h
  · cases h
theorem ld_top_ok (op : Int64 → Int64 → Int64) : ld_ok op fl_top := fun _ _ _ _ _ _ _ _ _ _ _ => ⟨al_lo _, al_hi _⟩
noncomputable def a_lneg (n : Nat) : AS → Option (List AS) := fun A => match A.2.2.1 with
  | .inr (.inl (k, o)) :: st => match iv_rng A.2.2.2.1 k o with
    | some (l, u) => some [a_pl n A.2.1 st A.2.2.2.1 A.2.2.2.2 (al_bnd (-u) (-l)).1 (al_bnd (-u) (-l)).2]
    | none => none
  | _ => none
theorem a_lneg_ok (n : Nat) : ai_ok w (s_lun (fun x => -x) n) (a_lneg n) := by
  rintro E ⟨pc, lv, st, iv, ex⟩ ⟨pc', cl, cs, W⟩ As ⟨ρ, g1, g2, g3, g4, g5⟩ h
  simp only [a_lneg] at h
  split at h
  · rename_i k o st'
    split at h
    · rename_i l u r
      cases h
      obtain ⟨v, cs, rfl, ha, hr⟩ := f2_cons g4
      obtain ⟨x, rfl, ha⟩ := av_long ha
      have b1 := iv_rng_ok g1 ha r
      have hq := al_bnd_ok (z := -x) (lo := -u) (hi := -l) (fun hb => by
        have := al_in_ok hb
        rw [Int64.toInt_neg, al_bmod (by omega) (by omega)]
        omega)
      exact ⟨(n, cl, .long (-x) :: cs, W), rfl, _, List.mem_singleton_self _, a_pl_ok (st := st') (pc := pc) (pc' := pc') ⟨g1, g2, g3, hr, g5⟩ hq.1 hq.2⟩
    · cases h
  · cases h
end AIB
end
