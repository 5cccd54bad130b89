section
section AIT
variable {w : AW}
/-- a store to an int array of class t: the value as it is, within c and d -/
noncomputable def a_ast (w : AW) (t : Nat) (c d : Int) (n : Nat) : AS → Option (List AS) := fun A => match A.2.2.1 with
  | .inl (kv, ov) :: .inl (k, o) :: .inr (.inr (.inl a)) :: st => match w.1.1[a]?, iv_rng A.2.2.2.1 k o, iv_rng A.2.2.2.1 kv ov with
    | some (.inl (t', len, p)), some (l, u), some (va, vb) => bif (Nat.beq t' t && (decide (0 ≤ l) && decide (u < (len : Int)))) && ((decide (c ≤ va) && decide (vb ≤ d)) && (pat_fit p l u va vb && rg_sub A.2.2.2.2.2.2.2.1 a l.toNat u.toNat)) then some [(n, A.2.1, st, A.2.2.2.1, bif decide (l = u) then ex_note (ex_kill w A.2.2.2.2 a l.toNat u.toNat) a l.toNat (.inl (kv, ov)) else ex_kill w A.2.2.2.2 a l.toNat u.toNat)] else none
    | _, _, _ => none
  | _ => none
theorem a_ast_ok (t : Nat) (c d : Int) (n : Nat) (f : pm_S → Option pm_S) (hf : ∀ (pc : Nat) (cl : List (Nat × Value)) (x i : Int32) (a : Nat) (cs : List Value) (W : pm_H × Nat × Nat) (len : Nat) (g : Nat → Int32), W.1[a]? = some (.inl (t, len, .inl g)) → pm_ix i len = true → c ≤ x.toInt → x.toInt ≤ d → f (pc, cl, .int x :: .int i :: .ref a :: cs, W) = some (n, cl, cs, W.1.set a (.inl (t, len, .inl (upd g i.toNatClampNeg x))), W.2)) : ai_ok w f (a_ast w t c d n) := by
  rintro E ⟨pc, lv, st, iv, ex⟩ ⟨pc', cl, cs, W⟩ As ⟨ρ, g1, g2, g3, g4, g5⟩ h
  simp only [a_ast] at h
  split at h
  · rename_i kv ov k o a st'
    split at h
    · rename_i t' len p l u va vb hc hr hrv
      cases hb : ((Nat.beq t' t && (decide (0 ≤ l) && decide (u < (len : Int)))) && ((decide (c ≤ va) && decide (vb ≤ d)) && (pat_fit p l u va vb && rg_sub ex.2.2.2.1 a l.toNat u.toNat))) with
      | false => rw [hb] at h; cases h
      | true =>
        rw [hb] at h
        cases h
        simp only [Bool.and_eq_true, decide_eq_true_eq] at hb
        obtain ⟨⟨hb1, hb2, hb3⟩, ⟨hb4, hb5⟩, hb6, hb7⟩ := hb
        have ht : t' = t := Nat.eq_of_beq_eq_true hb1
        subst ht
        obtain ⟨v0, cs, rfl, hv, hr00⟩ := f2_cons g4
        obtain ⟨v, cs, rfl, ha, hr0⟩ := f2_cons hr00
        obtain ⟨u', cs, rfl, hc1, hs2⟩ := f2_cons hr0
        obtain ⟨x, rfl, hv⟩ := av_int hv
        obtain ⟨i, rfl, ha⟩ := av_int ha
        obtain rfl := av_ref hc1
        obtain ⟨z, hx, hg⟩ := hs_at g5.1 hc
        dsimp only at hx
        match z, hx, hg with
        | .inl (t2, len2, .inl g), hx, hg =>
          obtain ⟨rfl, rfl, hall⟩ := hg
          have b1 := iv_rng_ok g1 ha hr
          have b2 := iv_rng_ok g1 hv hrv
          have hstep := hf pc' cl x i a cs W _ g hx (ai_ix (by omega) (by omega)) (by omega) (by omega)
          have hh : hs_g w.1.1 (W.1.set a (.inl (t2, len2, .inl (upd g i.toNatClampNeg x)))) := hs_set g5.1 hc ⟨rfl, rfl, pat_fit_ok hall hb6 hb2 b1.1 b1.2 b2.1 b2.2⟩
          have hi1 : l.toNat ≤ i.toNatClampNeg := by show l.toNat ≤ i.toInt.toNat; omega
          have hi2 : i.toNatClampNeg ≤ u.toNat := by show i.toInt.toNat ≤ u.toNat; omega
          have he : ex_g w E iv.length ρ (ex_kill w ex a l.toNat u.toNat) cl (W.1.set a (.inl (t2, len2, .inl (upd g i.toNatClampNeg x)))) := ex_store g5 hh hi1 hi2 hb7 (fun b k hbk => ld_seti hx hbk)
          refine ⟨_, hstep, _, List.mem_singleton_self _, ρ, g1, rfl, g3, hs2, ?_⟩
          show ex_g w E iv.length ρ (bif decide (l = u) then ex_note (ex_kill w ex a l.toNat u.toNat) a l.toNat (.inl (kv, ov)) else ex_kill w ex a l.toNat u.toNat) cl (W.1.set a (.inl (t2, len2, .inl (upd g i.toNatClampNeg x))))
          cases hd : decide (l = u) with
          | false => exact he
          | true =>
            have hd := of_decide_eq_true hd
            have hi : l.toNat = i.toNatClampNeg := by show l.toNat = i.toInt.toNat; omega
            refine ex_note_ok he (v := .int x) ?_ hv
            have hl : a < W.1.length := (List.getElem?_eq_some_iff.mp hx).1
            unfold ld
            rw [List.getElem?_set_self hl]
            simp only [upd, hi, if_pos]
    · cases h
  · cases h
theorem a_iast_ok (n : Nat) : ai_ok w (s_iast n) (a_ast w 0 (-2147483648) 2147483647 n) := a_ast_ok 0 _ _ n _ (fun pc cl x i a cs W len g h1 h2 _ _ => by simp only [s_iast]; rw [h1]; simp only; rw [h2]; rfl)
theorem a_bast_ok (n : Nat) : ai_ok w (s_bast n) (a_ast w 1 (-128) 127 n) := a_ast_ok 1 _ _ n _ (fun pc cl x i a cs W len g h1 h2 h3 h4 => by
  have hx : vp_nar .byte x = x := by rw [vp_nar_byte]; exact Int32.toInt_inj.mp (i2b_id h3 h4)
  simp only [s_bast]; rw [h1]; simp only; rw [h2, hx]; rfl)
theorem a_zast_ok (n : Nat) : ai_ok w (s_zast n) (a_ast w 2 0 1 n) := a_ast_ok 2 _ _ n _ (fun pc cl x i a cs W len g h1 h2 h3 h4 => by
  have hx : vp_nar .boolean x = x := by
    by_cases h0 : x.toInt = 0
    · have : x = 0 := Int32.toInt_inj.mp h0
      subst this; rfl
    · have : x = 1 := Int32.toInt_inj.mp (by show x.toInt = 1; omega)
      subst this; rfl
  simp only [s_zast]; rw [h1]; simp only; rw [h2, hx]; rfl)
noncomputable def a_last (w : AW) (n : Nat) : AS → Option (List AS) := fun A => match A.2.2.1 with
  | .inr (.inl _) :: .inl (k, o) :: .inr (.inr (.inl a)) :: st => match w.1.1[a]?, iv_rng A.2.2.2.1 k o with
    | some (.inr (.inl len)), some (l, u) => bif (decide (0 ≤ l) && decide (u < (len : Int))) && rg_sub A.2.2.2.2.2.2.2.1 a l.toNat u.toNat then some [(n, A.2.1, st, A.2.2.2.1, ex_kill w A.2.2.2.2 a l.toNat u.toNat)] else none
    | _, _ => none
  | _ => none
theorem a_last_ok (n : Nat) : ai_ok w (s_last n) (a_last w n) := by
  rintro E ⟨pc, lv, st, iv, ex⟩ ⟨pc', cl, cs, W⟩ As ⟨ρ, g1, g2, g3, g4, g5⟩ h
  simp only [a_last] at h
  split at h
  · rename_i va k o a st'
    split at h
    · rename_i len l u hc hr
      cases hb : ((decide (0 ≤ l) && decide (u < (len : Int))) && rg_sub ex.2.2.2.1 a l.toNat u.toNat) with
      | false => rw [hb] at h; cases h
      | true =>
        rw [hb] at h
        cases h
        simp only [Bool.and_eq_true, decide_eq_true_eq] at hb
        obtain ⟨⟨hb2, hb3⟩, hb7⟩ := hb
        obtain ⟨v0, cs, rfl, hv, hr00⟩ := f2_cons g4
        obtain ⟨v, cs, rfl, ha, hr0⟩ := f2_cons hr00
        obtain ⟨u', cs, rfl, hc1, hs2⟩ := f2_cons hr0
        obtain ⟨x, rfl, hv⟩ := av_long hv
        obtain ⟨i, rfl, ha⟩ := av_int ha
        obtain rfl := av_ref hc1
        obtain ⟨z, hx, hg⟩ := hs_at g5.1 hc
        dsimp only at hx
        match z, hx, hg with
        | .inl (t2, len2, .inr (.inl g)), hx, hg =>
          obtain ⟨rfl, rfl⟩ := hg
          have b1 := iv_rng_ok g1 ha hr
          have hi := ai_ix (i := i) (len := len2) (by omega) (by omega)
          have hh : hs_g w.1.1 (W.1.set a (.inl (3, len2, .inr (.inl (vp_updL g i.toNatClampNeg x))))) := hs_set g5.1 hc ⟨rfl, rfl⟩
          have hi1 : l.toNat ≤ i.toNatClampNeg := by show l.toNat ≤ i.toInt.toNat; omega
          have hi2 : i.toNatClampNeg ≤ u.toNat := by show i.toInt.toNat ≤ u.toNat; omega
          exact ⟨(n, cl, cs, W.1.set a (.inl (3, len2, .inr (.inl (vp_updL g i.toNatClampNeg x)))), W.2), by simp only [s_last]; rw [hx]; simp only; rw [hi]; rfl, _, List.mem_singleton_self _, ρ, g1, rfl, g3, hs2, ex_store g5 hh hi1 hi2 hb7 (fun b k hbk => ld_setl hx hbk)⟩
    · cases h
  · cases h
end AIT
end
