/-! THE EXECUTOR (second writing), part 9: stores, references, switches, what lies outside -/
section AIT
variable {w : AW}
/-- a value within the bounds of an element, or of all -/
noncomputable def pat_fit (p : List (Int × Int)) (l u a b : Int) : Bool := bif decide (l = u) then (match pat_at p l.toNat with | some (lo, hi) => decide (lo ≤ a) && decide (b ≤ hi) | none => false) else p.all (fun q => decide (q.1 ≤ a) && decide (b ≤ q.2))
theorem pat_fit_ok {p : List (Int × Int)} {f : Nat → Int32} {l u a b : Int} {i x : Int32} (h : ∀ j lo hi, pat_at p j = some (lo, hi) → lo ≤ (f j).toInt ∧ (f j).toInt ≤ hi) (hf : pat_fit p l u a b = true) (h0 : 0 ≤ l) (h1 : l ≤ i.toInt) (h2 : i.toInt ≤ u) (h3 : a ≤ x.toInt) (h4 : x.toInt ≤ b) :
    ∀ j lo hi, pat_at p j = some (lo, hi) → lo ≤ (upd f i.toNatClampNeg x j).toInt ∧ (upd f i.toNatClampNeg x j).toInt ≤ hi := by
  intro j lo hi hp
  unfold upd
  by_cases hj : j = i.toNatClampNeg
  · rw [if_pos hj]
    unfold pat_fit at hf
    cases hd : decide (l = u) with
    | true =>
      rw [hd, cond_true] at hf
      have hd := of_decide_eq_true hd
      have hi : j = l.toNat := by rw [hj]; show i.toInt.toNat = l.toNat; omega
      subst hi
      rw [hp] at hf
      simp only [Bool.and_eq_true, decide_eq_true_eq] at hf
      omega
    | false =>
      rw [hd, cond_false] at hf
      have hm : (lo, hi) ∈ p := List.mem_of_getElem? hp
      have := List.all_eq_true.mp hf _ hm
      simp only [Bool.and_eq_true, decide_eq_true_eq] at this
      omega
  · rw [if_neg hj]
    exact h j lo hi hp
/-- a store to an int array of class t: the value as it is, within c and d -/
noncomputable def a_ast (w : AW) (t : Nat) (c d : Int) (n : Nat) : AS → Option (List AS) := fun A => match A.2.2.1 with
  | .inl (kv, ov) :: .inl (k, o) :: .inr (.inr (.inl a)) :: st => match w.1.1[a]?, iv_rng A.2.2.2.1 k o, iv_rng A.2.2.2.1 kv ov with
    | some (.inl (t', len, p)), some (l, u), some (va, vb) => bif (Nat.beq t' t && (decide (0 ≤ l) && decide (u < (len : Int)))) && ((decide (c ≤ va) && decide (vb ≤ d)) && (pat_fit p l u va vb && rg_sub A.2.2.2.2.2.2.2.1 a l.toNat u.toNat)) then some [(n, A.2.1, st, A.2.2.2.1, bif decide (l = u) then ex_note (ex_kill w A.2.2.2.2 a l.toNat u.toNat) a l.toNat (.inl (kv, ov)) else ex_kill w A.2.2.2.2 a l.toNat u.toNat)] else none
    | _, _, _ => none
  | _ => none
theorem a_ast_ok (t : Nat) (c d : Int) (n : Nat) (f : pm_S → Option pm_S) (hf : ∀ (pc : Nat) (cl : List (Nat × Value)) (x i : Int32) (a : Nat) (cs : List Value) (W : pm_H × Nat × Nat) (len : Nat) (g : Nat → Int32), W.1[a]? = some (.inl (t, len, .inl g)) → pm_ix i len = true → c ≤ x.toInt → x.toInt ≤ d → f (pc, cl, .int x :: .int i :: .ref a :: cs, W) = some (n, cl, cs, W.1.set a (.inl (t, len, .inl (upd g i.toNatClampNeg x))), W.2)) : ai_ok w f (a_ast w t c d n) := by
  rintro E ⟨pc, lv, st, iv, ex⟩ ⟨pc', cl, cs, W⟩ As ⟨ρ, g1, g2, g3, g4, g5⟩ h
  simp only [a_ast] at h
  split at h
  · rename_i kv ov k o a st'
    split at h
    · rename_i t' len p l u va vb hc hr hrv
      cases hb : ((Nat.beq t' t && (decide (0 ≤ l) && decide (u < (len : Int)))) && ((decide (c ≤ va) && decide (vb ≤ d)) && (pat_fit p l u va vb && rg_sub ex.2.2.2.1 a l.toNat u.toNat))) with
      | false => rw [hb] at h; cases h
      | true =>
        rw [hb] at h
        cases h
        simp only [Bool.and_eq_true, decide_eq_true_eq] at hb
        obtain ⟨⟨hb1, hb2, hb3⟩, ⟨hb4, hb5⟩, hb6, hb7⟩ := hb
        have ht : t' = t := Nat.eq_of_beq_eq_true hb1
        subst ht
        obtain ⟨v0, cs, rfl, hv, hr00⟩ := f2_cons g4
        obtain ⟨v, cs, rfl, ha, hr0⟩ := f2_cons hr00
        obtain ⟨u', cs, rfl, hc1, hs2⟩ := f2_cons hr0
        obtain ⟨x, rfl, hv⟩ := av_int hv
        obtain ⟨i, rfl, ha⟩ := av_int ha
        obtain rfl := av_ref hc1
        obtain ⟨z, hx, hg⟩ := hs_at g5.1 hc
        dsimp only at hx
        match z, hx, hg with
        | .inl (t2, len2, .inl g), hx, hg =>
          obtain ⟨rfl, rfl, hall⟩ := hg
          have b1 := iv_rng_ok g1 ha hr
          have b2 := iv_rng_ok g1 hv hrv
          have hstep := hf pc' cl x i a cs W _ g hx (ai_ix (by omega) (by omega)) (by omega) (by omega)
          have hh : hs_g w.1.1 (W.1.set a (.inl (t2, len2, .inl (upd g i.toNatClampNeg x)))) := hs_set g5.1 hc ⟨rfl, rfl, pat_fit_ok hall hb6 hb2 b1.1 b1.2 b2.1 b2.2⟩
          have hi1 : l.toNat ≤ i.toNatClampNeg := by show l.toNat ≤ i.toInt.toNat; omega
          have hi2 : i.toNatClampNeg ≤ u.toNat := by show i.toInt.toNat ≤ u.toNat; omega
          have he : ex_g w E iv.length ρ (ex_kill w ex a l.toNat u.toNat) cl (W.1.set a (.inl (t2, len2, .inl (upd g i.toNatClampNeg x)))) := ex_store g5 hh hi1 hi2 hb7 (fun b k hbk => ld_seti hx hbk)
          refine ⟨_, hstep, _, List.mem_singleton_self _, ρ, g1, rfl, g3, hs2, ?_⟩
          show ex_g w E iv.length ρ (bif decide (l = u) then ex_note (ex_kill w ex a l.toNat u.toNat) a l.toNat (.inl (kv, ov)) else ex_kill w ex a l.toNat u.toNat) cl (W.1.set a (.inl (t2, len2, .inl (upd g i.toNatClampNeg x))))
          cases hd : decide (l = u) with
          | false => exact he
          | true =>
            have hd := of_decide_eq_true hd
            have hi : l.toNat = i.toNatClampNeg := by show l.toNat = i.toInt.toNat; omega
            refine ex_note_ok he (v := .int x) ?_ hv
            have hl : a < W.1.length := (List.getElem?_eq_some_iff.mp hx).1
            unfold ld
            rw [List.getElem?_set_self hl]
            simp only [upd, hi, if_pos]
    · cases h
  · cases h
theorem a_iast_ok (n : Nat) : ai_ok w (s_iast n) (a_ast w 0 (-2147483648) 2147483647 n) := a_ast_ok 0 _ _ n _ (fun pc cl x i a cs W len g h1 h2 _ _ => by simp only [s_iast]; rw [h1]; simp only; rw [h2]; rfl)
theorem a_bast_ok (n : Nat) : ai_ok w (s_bast n) (a_ast w 1 (-128) 127 n) := a_ast_ok 1 _ _ n _ (fun pc cl x i a cs W len g h1 h2 h3 h4 => by
  have hx : vp_nar .byte x = x := by rw [vp_nar_byte]; exact Int32.toInt_inj.mp (i2b_id h3 h4)
  simp only [s_bast]; rw [h1]; simp only; rw [h2, hx]; rfl)
theorem a_zast_ok (n : Nat) : ai_ok w (s_zast n) (a_ast w 2 0 1 n) := a_ast_ok 2 _ _ n _ (fun pc cl x i a cs W len g h1 h2 h3 h4 => by
  have hx : vp_nar .boolean x = x := by
    by_cases h0 : x.toInt = 0
    · have : x = 0 := Int32.toInt_inj.mp h0
      subst this; rfl
    · have : x = 1 := Int32.toInt_inj.mp (by show x.toInt = 1; omega)
      subst this; rfl
  simp only [s_zast]; rw [h1]; simp only; rw [h2, hx]; rfl)
noncomputable def a_last (w : AW) (n : Nat) : AS → Option (List AS) := fun A => match A.2.2.1 with
  | .inr (.inl _) :: .inl (k, o) :: .inr (.inr (.inl a)) :: st => match w.1.1[a]?, iv_rng A.2.2.2.1 k o with
    | some (.inr (.inl len)), some (l, u) => bif (decide (0 ≤ l) && decide (u < (len : Int))) && rg_sub A.2.2.2.2.2.2.2.1 a l.toNat u.toNat then some [(n, A.2.1, st, A.2.2.2.1, ex_kill w A.2.2.2.2 a l.toNat u.toNat)] else none
    | _, _ => none
  | _ => none
theorem a_last_ok (n : Nat) : ai_ok w (s_last n) (a_last w n) := by
  rintro E ⟨pc, lv, st, iv, ex⟩ ⟨pc', cl, cs, W⟩ As ⟨ρ, g1, g2, g3, g4, g5⟩ h
  simp only [a_last] at h
  split at h
  · rename_i va k o a st'
    split at h
    · rename_i len l u hc hr
      cases hb : ((decide (0 ≤ l) && decide (u < (len : Int))) && rg_sub ex.2.2.2.1 a l.toNat u.toNat) with
      | false => rw [hb] at h; cases h
      | true =>
        rw [hb] at h
        cases h
        simp only [Bool.and_eq_true, decide_eq_true_eq] at hb
        obtain ⟨⟨hb2, hb3⟩, hb7⟩ := hb
        obtain ⟨v0, cs, rfl, hv, hr00⟩ := f2_cons g4
        obtain ⟨v, cs, rfl, ha, hr0⟩ := f2_cons hr00
        obtain ⟨u', cs, rfl, hc1, hs2⟩ := f2_cons hr0
        obtain ⟨x, rfl, hv⟩ := av_long hv
        obtain ⟨i, rfl, ha⟩ := av_int ha
        obtain rfl := av_ref hc1
        obtain ⟨z, hx, hg⟩ := hs_at g5.1 hc
        dsimp only at hx
        match z, hx, hg with
        | .inl (t2, len2, .inr (.inl g)), hx, hg =>
          obtain ⟨rfl, rfl⟩ := hg
          have b1 := iv_rng_ok g1 ha hr
          have hi := ai_ix (i := i) (len := len2) (by omega) (by omega)
          have hh : hs_g w.1.1 (W.1.set a (.inl (3, len2, .inr (.inl (vp_updL g i.toNatClampNeg x))))) := hs_set g5.1 hc ⟨rfl, rfl⟩
          have hi1 : l.toNat ≤ i.toNatClampNeg := by show l.toNat ≤ i.toInt.toNat; omega
          have hi2 : i.toNatClampNeg ≤ u.toNat := by show i.toInt.toNat ≤ u.toNat; omega
          exact ⟨(n, cl, cs, W.1.set a (.inl (3, len2, .inr (.inl (vp_updL g i.toNatClampNeg x)))), W.2), by simp only [s_last]; rw [hx]; simp only; rw [hi]; rfl, _, List.mem_singleton_self _, ρ, g1, rfl, g3, hs2, ex_store g5 hh hi1 hi2 hb7 (fun b k hbk => ld_setl hx hbk)⟩
    · cases h
  · cases h
/-- a field is stored to -/
noncomputable def a_putf (w : AW) (ci k : Nat) (ty : FieldType) (n : Nat) : AS → Option (List AS) := fun A => match A.2.2.1 with
  | v :: .inr (.inr (.inl a)) :: st => match w.1.1[a]? with
    | some (.inr (.inr (.inr (cj, fs)))) => bif Nat.beq cj ci && rg_sub A.2.2.2.2.2.2.2.1 a k k then (match fs[k]?, v, ty with
      | some (.inl (lo, hi)), .inl (kv, ov), .int => match iv_rng A.2.2.2.1 kv ov with
        | some (va, vb) => bif decide (lo ≤ va) && decide (vb ≤ hi) then some [(n, A.2.1, st, A.2.2.2.1, ex_note (ex_kill w A.2.2.2.2 a k k) a k (.inl (kv, ov)))] else none
        | none => none
      | some (.inl (lo, hi)), .inl (kv, ov), .boolean => match iv_rng A.2.2.2.1 kv ov with
        | some (va, vb) => bif (decide (lo ≤ va) && decide (vb ≤ hi)) && (decide (0 ≤ va) && decide (vb ≤ 1)) then some [(n, A.2.1, st, A.2.2.2.1, ex_note (ex_kill w A.2.2.2.2 a k k) a k (.inl (kv, ov)))] else none
        | none => none
      | some (.inr (.inl ())), .inr (.inl _), .long => some [(n, A.2.1, st, A.2.2.2.1, ex_kill w A.2.2.2.2 a k k)]
      | _, _, _ => none) else none
    | _ => none
  | _ => none
theorem a_putf_ok (ci k : Nat) (ty : FieldType) (n : Nat) : ai_ok w (s_putf ci k ty n) (a_putf w ci k ty n) := by
  rintro E ⟨pc, lv, st, iv, ex⟩ ⟨pc', cl, cs, W⟩ As ⟨ρ, g1, g2, g3, g4, g5⟩ h
  simp only [a_putf] at h
  split at h
  · rename_i v a st'
    split at h
    · rename_i cj fs hc
      cases hb : (Nat.beq cj ci && rg_sub ex.2.2.2.1 a k k) with
      | false => rw [hb] at h; cases h
      | true =>
        rw [hb, cond_true] at h
        rw [Bool.and_eq_true] at hb
        obtain ⟨hb1, hb2⟩ := hb
        obtain ⟨v0, cs, rfl, hv, hr0⟩ := f2_cons g4
        obtain ⟨u', cs, rfl, hc1, hs2⟩ := f2_cons hr0
        obtain rfl := av_ref hc1
        obtain ⟨z, hx, hg⟩ := hs_at g5.1 hc
        dsimp only at hx
        match z, hx, hg with
        | .inr (cq, vs), hx, hg =>
          obtain ⟨rfl, hlen, hall⟩ := hg
          have key : ∀ cf, fs[k]? = some cf → af_g cf v0 → pm_fit ty v0 = true → s_putf ci k ty n (pc', cl, v0 :: .ref a :: cs, W) = some (n, cl, cs, W.1.set a (.inr (cq, vs.set k v0)), W.2) ∧ hs_g w.1.1 (W.1.set a (.inr (cq, vs.set k v0))) ∧ ld (W.1.set a (.inr (cq, vs.set k v0))) a k = some v0 := by
            intro cf hcf haf hfit
            have hl : k < fs.length := (List.getElem?_eq_some_iff.mp hcf).1
            have hl' : k < vs.length := by omega
            have hla : a < W.1.length := (List.getElem?_eq_some_iff.mp hx).1
            refine ⟨?_, hs_set g5.1 hc ⟨rfl, by rw [List.length_set]; exact hlen, fun q c y h1 h2 => ?_⟩, ?_⟩
            · simp only [s_putf]
              rw [hx]
              simp only
              have hlt : Nat.blt k vs.length = true := Nat.ble_eq_true_of_le hl'
              rw [hb1, hfit, hlt]
              rfl
            · by_cases hq : k = q
              · subst hq
                rw [List.getElem?_set_self hl'] at h2
                cases h2
                rw [hcf] at h1
                cases h1
                exact haf
              · rw [List.getElem?_set_ne hq] at h2
                exact hall q c y h1 h2
            · unfold ld
              rw [List.getElem?_set_self hla]
              simp only [List.getElem?_set_self hl']
          have hkill : hs_g w.1.1 (W.1.set a (.inr (cq, vs.set k v0))) → ex_g w E iv.length ρ (ex_kill w ex a k k) cl (W.1.set a (.inr (cq, vs.set k v0))) := fun hh => ex_store g5 hh (Nat.le_refl _) (Nat.le_refl _) hb2 (fun b q hbk => ld_setf hx hbk)
          split at h
          · rename_i lo hi kv ov hfk
            split at h
            · rename_i va vb hrv
              cases hd : (decide (lo ≤ va) && decide (vb ≤ hi)) with
              | false => rw [hd] at h; cases h
              | true =>
                rw [hd] at h
                cases h
                simp only [Bool.and_eq_true, decide_eq_true_eq] at hd
                obtain ⟨x, rfl, hv'⟩ := av_int hv
                have b2 := iv_rng_ok g1 hv' hrv
                obtain ⟨k1, k2, k3⟩ := key _ hfk (show lo ≤ x.toInt ∧ x.toInt ≤ hi by omega) rfl
                exact ⟨_, k1, _, List.mem_singleton_self _, ρ, g1, rfl, g3, hs2, ex_note_ok (hkill k2) k3 hv⟩
            · cases h
          · rename_i lo hi kv ov hfk
            split at h
            · rename_i va vb hrv
              cases hd : ((decide (lo ≤ va) && decide (vb ≤ hi)) && (decide (0 ≤ va) && decide (vb ≤ 1))) with
              | false => rw [hd] at h; cases h
              | true =>
                rw [hd] at h
                cases h
                simp only [Bool.and_eq_true, decide_eq_true_eq] at hd
                obtain ⟨x, rfl, hv'⟩ := av_int hv
                have b2 := iv_rng_ok g1 hv' hrv
                have hfit : pm_fit .boolean (.int x) = true := by
                  by_cases h0 : x.toInt = 0
                  · have : x = 0 := Int32.toInt_inj.mp h0
                    subst this; rfl
                  · have : x = 1 := Int32.toInt_inj.mp (by show x.toInt = 1; omega)
                    subst this; rfl
                obtain ⟨k1, k2, k3⟩ := key _ hfk (show lo ≤ x.toInt ∧ x.toInt ≤ hi by omega) hfit
                exact ⟨_, k1, _, List.mem_singleton_self _, ρ, g1, rfl, g3, hs2, ex_note_ok (hkill k2) k3 hv⟩
            · cases h
          · rename_i kv hfk
            cases h
            obtain ⟨x, rfl, hv'⟩ := av_long hv
            obtain ⟨k1, k2, k3⟩ := key _ hfk trivial rfl
            exact ⟨_, k1, _, List.mem_singleton_self _, ρ, g1, rfl, g3, hs2, hkill k2⟩
          · cases h
    · cases h
  · cases h
/-- one state for each number from l on -/
noncomputable def a_each (k : Option Nat) (o : Int) (iv : IV) (f : Nat → IV → Option AS) : Nat → Nat → List AS
  | _, 0 => []
  | l, m + 1 => (match iv_nar iv k o (l : Int) (l : Int) with | some iv' => (f l iv').toList | none => []) ++ a_each k o iv f (l + 1) m
theorem a_each_in {k : Option Nat} {o : Int} {iv : IV} {f : Nat → IV → Option AS} {iv' : IV} {B : AS} {j : Nat} (h1 : iv_nar iv k o (j : Int) (j : Int) = some iv') (h2 : f j iv' = some B) : ∀ (m l : Nat), l ≤ j → j < l + m → B ∈ a_each k o iv f l m
  | 0, l, h3, h4 => absurd h4 (by omega)
  | m + 1, l, h3, h4 => by
    unfold a_each
    by_cases hj : l = j
    · subst hj
      rw [h1]
      simp only [h2]
      exact List.mem_append_left _ (List.mem_singleton_self _)
    · exact List.mem_append_right _ (a_each_in h1 h2 m (l + 1) (by omega) (by omega))
/-- a reference out of an array -/
noncomputable def a_aald (w : AW) (t n : Nat) : AS → Option (List AS) := fun A => match A.2.2.1 with
  | .inl (k, o) :: .inr (.inr (.inl a)) :: st => match w.1.1[a]?, iv_rng A.2.2.2.1 k o with
    | some (.inr (.inr (.inl (t', fs)))), some (l, u) => bif Nat.beq t' t && ((decide (0 ≤ l) && decide (u < (fs.length : Int))) && fs.all (fun q => q.isSome)) then some (a_each k o A.2.2.2.1 (fun j iv' => match fs[j]? with
        | some (some r) => some (n, A.2.1, .inr (.inr (.inl r)) :: st, iv', A.2.2.2.2)
        | _ => none) l.toNat (u - l + 1).toNat) else none
    | _, _ => none
  | _ => none
theorem a_aald_ok (t n : Nat) : ai_ok w (s_aald t n) (a_aald w t n) := by
  rintro E ⟨pc, lv, st, iv, ex⟩ ⟨pc', cl, cs, W⟩ As ⟨ρ, g1, g2, g3, g4, g5⟩ h
  simp only [a_aald] at h
  split at h
  · rename_i k o a st'
    split at h
    · rename_i t' fs l u hc hr
      cases hb : (Nat.beq t' t && ((decide (0 ≤ l) && decide (u < (fs.length : Int))) && fs.all (fun q => q.isSome))) with
      | false => rw [hb] at h; cases h
      | true =>
        rw [hb] at h
        cases h
        simp only [Bool.and_eq_true, decide_eq_true_eq] at hb
        obtain ⟨hb1, ⟨hb2, hb3⟩, hb4⟩ := hb
        obtain ⟨v, cs, rfl, ha, hr0⟩ := f2_cons g4
        obtain ⟨u', cs, rfl, hc1, hs2⟩ := f2_cons hr0
        obtain ⟨i, rfl, ha⟩ := av_int ha
        obtain rfl := av_ref hc1
        obtain ⟨z, hx, hg⟩ := hs_at g5.1 hc
        dsimp only at hx
        match z, hx, hg with
        | .inl (t2, len2, .inr (.inr (.inr (.inr g)))), hx, hg =>
          obtain ⟨rfl, rfl, hall⟩ := hg
          have b1 := iv_rng_ok g1 ha hr
          have hi := ai_ix (i := i) (len := fs.length) (by omega) (by omega)
          have hlt : i.toNatClampNeg < fs.length := by show i.toInt.toNat < fs.length; omega
          have hfi : fs[i.toNatClampNeg]? = some fs[i.toNatClampNeg] := List.getElem?_eq_getElem hlt
          have hsm := List.all_eq_true.mp hb4 _ (List.getElem_mem hlt)
          obtain ⟨r, hr'⟩ := Option.isSome_iff_exists.mp hsm
          rw [hr'] at hfi
          have hgi := hall _ _ hfi
          have hcast : ((i.toNatClampNeg : Nat) : Int) = i.toInt := by show ((i.toInt.toNat : Nat) : Int) = i.toInt; omega
          obtain ⟨iv', e1, e2, e3⟩ := iv_nar_ok (lo := (i.toNatClampNeg : Int)) (hi := (i.toNatClampNeg : Int)) g1 ha (by omega) (by omega)
          have gg : as_r w E ρ (pc, lv, st', iv, ex) (pc', cl, cs, W) := ⟨g1, g2, g3, hs2, g5⟩
          obtain ⟨q1, q2, q3, q4, q5⟩ := as_iv gg e2 e3
          refine ⟨(n, cl, .ref r :: cs, W), ?_, (n, lv, .inr (.inr (.inl r)) :: st', iv', ex), a_each_in e1 (by simp only [hfi]) _ _ ?_ ?_, ρ, q1, rfl, q3, ⟨rfl, q4⟩, q5⟩
          · simp only [s_aald]
            rw [hx]
            simp only
            rw [hb1, hi, hgi]
            rfl
          · show l.toNat ≤ i.toInt.toNat; omega
          · show i.toInt.toNat < l.toNat + _; omega
    · cases h
  · cases h
/-- a switch -/
noncomputable def a_tsw (lo hi : Int) (ts : List Nat) (d : Nat) : AS → Option (List AS) := fun A => match A.2.2.1 with
  | .inl (k, o) :: st => bif decide ((ts.length : Int) = hi - lo + 1) then some (a_each k (o - lo) A.2.2.2.1 (fun j iv' => match ts[j]? with
        | some t => some (t, A.2.1, st, iv', A.2.2.2.2)
        | none => none) 0 ts.length ++ ((match iv_nar A.2.2.2.1 k o (-2147483648) (lo - 1) with | some iv' => [(d, A.2.1, st, iv', A.2.2.2.2)] | none => []) ++ (match iv_nar A.2.2.2.1 k o (hi + 1) 2147483647 with | some iv' => [(d, A.2.1, st, iv', A.2.2.2.2)] | none => []))) else none
  | _ => none
theorem a_tsw_ok (lo hi : Int) (ts : List Nat) (d : Nat) : ai_ok w (s_tsw lo hi ts d) (a_tsw lo hi ts d) := by
  rintro E ⟨pc, lv, st, iv, ex⟩ ⟨pc', cl, cs, W⟩ As ⟨ρ, g1, g2, g3, g4, g5⟩ h
  simp only [a_tsw] at h
  split at h
  · rename_i k o st'
    cases hb : decide ((ts.length : Int) = hi - lo + 1) with
    | false => rw [hb] at h; cases h
    | true =>
      rw [hb] at h
      cases h
      have hb1 := of_decide_eq_true hb
      obtain ⟨v, cs, rfl, ha, hr⟩ := f2_cons g4
      obtain ⟨x, rfl, ha⟩ := av_int ha
      have gg : as_r w E ρ (pc, lv, st', iv, ex) (pc', cl, cs, W) := ⟨g1, g2, g3, hr, g5⟩
      have xl := ai_lo x
      have xh := ai_hi x
      by_cases h1 : x.toInt < lo
      · obtain ⟨iv', e1, e2, e3⟩ := iv_nar_ok (lo := -2147483648) (hi := lo - 1) g1 ha (by omega) (by omega)
        obtain ⟨q1, q2, q3, q4, q5⟩ := as_iv gg e2 e3
        refine ⟨(d, cl, cs, W), by simp only [s_tsw, h1, decide_true, Bool.true_or, cond_true], (d, lv, st', iv', ex), ?_, ρ, q1, rfl, q3, q4, q5⟩
        refine List.mem_append_right _ (List.mem_append_left _ ?_)
        rw [e1]
        exact List.mem_singleton_self _
      · by_cases h2 : hi < x.toInt
        · obtain ⟨iv', e1, e2, e3⟩ := iv_nar_ok (lo := hi + 1) (hi := 2147483647) g1 ha (by omega) (by omega)
          obtain ⟨q1, q2, q3, q4, q5⟩ := as_iv gg e2 e3
          refine ⟨(d, cl, cs, W), by simp only [s_tsw, h2, decide_true, Bool.or_true, cond_true], (d, lv, st', iv', ex), ?_, ρ, q1, rfl, q3, q4, q5⟩
          refine List.mem_append_right _ (List.mem_append_right _ ?_)
          rw [e1]
          exact List.mem_singleton_self _
        · have hlt : (x.toInt - lo).toNat < ts.length := by omega
          have hj : ts[(x.toInt - lo).toNat]? = some ts[(x.toInt - lo).toNat] := List.getElem?_eq_getElem hlt
          have hc : (((x.toInt - lo).toNat : Nat) : Int) = x.toInt - lo := by omega
          have ha2 : av_ev iv.length ρ k (o - lo) (x.toInt - lo) := by
            cases k with
            | none => have ha : x.toInt = o := ha; show x.toInt - lo = o - lo; omega
            | some k => exact ⟨ha.1, by have := ha.2; show x.toInt - lo = ρ k + (o - lo); omega⟩
          obtain ⟨iv', e1, e2, e3⟩ := iv_nar_ok (lo := ((x.toInt - lo).toNat : Int)) (hi := ((x.toInt - lo).toNat : Int)) g1 ha2 (by omega) (by omega)
          obtain ⟨q1, q2, q3, q4, q5⟩ := as_iv gg e2 e3
          refine ⟨(ts[(x.toInt - lo).toNat], cl, cs, W), ?_, (ts[(x.toInt - lo).toNat], lv, st', iv', ex), List.mem_append_left _ (a_each_in e1 (by simp only [hj]) _ _ (by omega) (by omega)), ρ, q1, rfl, q3, q4, q5⟩
          simp only [s_tsw, h1, h2, decide_false, Bool.or_self, cond_false, hj]
  · cases h
end AIT
