/-! THE EXECUTOR (second writing), part 8: fields, arrays, switches, what lies outside -/
section AIH
variable {w : AW}
theorem ai_ix {i : Int32} {len : Nat} (h1 : 0 ≤ i.toInt) (h2 : i.toInt < (len : Int)) : pm_ix i len = true := by
  unfold pm_ix
  have h3 : ¬ i < 0 := by rw [Int32.lt_iff_toInt_lt]; show ¬ i.toInt < 0; omega
  have h4 : i.toNatClampNeg < len := by show i.toInt.toNat < len; omega
  simp only [h3, decide_false, Bool.not_false, Bool.true_and]
  exact Nat.ble_eq_true_of_le h4
noncomputable def mem_get : Mem → Nat → Nat → Option AV
  | [], _, _ => none
  | q :: l, a, k => bif Nat.beq q.1.1 a && Nat.beq q.1.2 k then some q.2 else mem_get l a k
theorem mem_get_in {a k : Nat} {v : AV} : ∀ {m : Mem}, mem_get m a k = some v → ((a, k), v) ∈ m
  | [], h => by cases h
  | ((a', k'), v') :: l, h => by
    unfold mem_get at h
    cases hb : (Nat.beq a' a && Nat.beq k' k) with
    | true =>
      simp only [hb, cond_true] at h
      rw [Bool.and_eq_true] at hb
      have h1 := Nat.eq_of_beq_eq_true hb.1
      have h2 := Nat.eq_of_beq_eq_true hb.2
      subst h1; subst h2
      cases h
      exact List.mem_cons_self
    | false =>
      simp only [hb, cond_false] at h
      exact List.mem_cons_of_mem _ (mem_get_in h)
/-- an int that lies at a known place is pushed, and known from now on -/
noncomputable def a_gm (n : Nat) (lv : List (Nat × AV)) (st : List AV) (iv : IV) (ex : AX) (a k : Nat) (lo hi : Int) : Option AS := match mem_get ex.1 a k with
  | some (.inl (q, o)) => some (n, lv, .inl (q, o) :: st, iv, ex)
  | some _ => none
  | none => bif decide (lo = hi) then some (n, lv, .inl (none, lo) :: st, iv, ((a, k), .inl (none, lo)) :: ex.1, ex.2) else some (n, lv, .inl (some iv.length, 0) :: st, iv ++ [(lo, hi)], ((a, k), .inl (some iv.length, 0)) :: ex.1, ex.2)
theorem a_gm_ok {E : AEnv} {ρ : Nat → Int} {pc n : Nat} {lv : List (Nat × AV)} {st : List AV} {iv : IV} {ex : AX} {pc' : Nat} {cl : List (Nat × Value)} {cs : List Value} {W : pm_H × Nat × Nat} {v : Int32} {a k : Nat} {lo hi : Int} {A : AS} (g : as_r w E ρ (pc, lv, st, iv, ex) (pc', cl, cs, W)) (hl : ld W.1 a k = some (.int v)) (h1 : lo ≤ v.toInt) (h2 : v.toInt ≤ hi)
    (h : a_gm n lv st iv ex a k lo hi = some A) : as_g w E A (n, cl, .int v :: cs, W) := by
  unfold a_gm at h
  split at h
  · rename_i q o hm
    cases h
    obtain ⟨g1, g2, g3, g4, g5⟩ := g
    obtain ⟨u, e1, e2⟩ := g5.2.1 _ _ (mem_get_in hm)
    dsimp only at e1
    rw [hl] at e1
    cases e1
    exact ⟨ρ, g1, rfl, g3, ⟨e2, g4⟩, g5⟩
  · cases h
  · cases hb : decide (lo = hi) with
    | true =>
      rw [hb] at h
      cases h
      have hb := of_decide_eq_true hb
      obtain ⟨g1, g2, g3, g4, g5⟩ := g
      have hv : v.toInt = lo := by omega
      refine ⟨ρ, g1, rfl, g3, ⟨hv, g4⟩, g5.1, fun q b hm => ?_, g5.2.2⟩
      cases List.mem_cons.mp hm with
      | inl e => cases e; exact ⟨_, hl, hv⟩
      | inr hm => exact g5.2.1 q b hm
    | false =>
      rw [hb] at h
      cases h
      obtain ⟨⟨g1, g2, g3, g4, g5⟩, e⟩ := as_grow g h1 h2
      refine ⟨_, g1, rfl, g3, ⟨e, g4⟩, g5.1, fun q b hm => ?_, g5.2.2⟩
      cases List.mem_cons.mp hm with
      | inl e' => cases e'; exact ⟨_, hl, e⟩
      | inr hm => exact g5.2.1 q b hm
noncomputable def a_getf (w : AW) (ci k n : Nat) : AS → Option (List AS) := fun A => match A.2.2.1 with
  | .inr (.inr (.inl a)) :: st => match w.1.1[a]? with
    | some (.inr (.inr (.inr (cj, fs)))) => bif Nat.beq cj ci then (match fs[k]? with
      | some (.inl (lo, hi)) => (a_gm n A.2.1 st A.2.2.2.1 A.2.2.2.2 a k lo hi).map (fun B => [B])
      | some (.inr (.inr (.inl q))) => some [(n, A.2.1, .inr (.inr (.inl q)) :: st, A.2.2.2)]
      | some (.inr (.inl ())) => some [a_pl n A.2.1 st A.2.2.2.1 A.2.2.2.2 (-9223372036854775808) 9223372036854775807]
      | _ => none) else none
    | _ => none
  | _ => none
theorem a_getf_ok (ci k n : Nat) : ai_ok w (s_getf ci k n) (a_getf w ci k n) := by
  rintro E ⟨pc, lv, st, iv, ex⟩ ⟨pc', cl, cs, W⟩ As ⟨ρ, g1, g2, g3, g4, g5⟩ h
  simp only [a_getf] at h
  split at h
  · rename_i a st'
    split at h
    · rename_i cj fs hc
      cases hb : Nat.beq cj ci with
      | false => rw [hb] at h; cases h
      | true =>
        rw [hb, cond_true] at h
        obtain ⟨v, cs, rfl, ha, hr⟩ := f2_cons g4
        obtain rfl := av_ref ha
        obtain ⟨x, hx, hg⟩ := hs_at g5.1 hc
        dsimp only at hx
        match x, hx, hg with
        | .inr (cq, vs), hx, hg =>
          obtain ⟨rfl, hlen, hall⟩ := hg
          have hstep : ∀ v, vs[k]? = some v → s_getf ci k n (pc', cl, .ref a :: cs, W) = some (n, cl, v :: cs, W) := by
            intro v hv
            simp only [s_getf]
            rw [hx]
            simp only
            rw [hb, hv]
            rfl
          have hval : ∀ c, fs[k]? = some c → ∃ v, vs[k]? = some v ∧ af_g c v := by
            intro c hcc
            have hl : k < fs.length := (List.getElem?_eq_some_iff.mp hcc).1
            have hl' : k < vs.length := by omega
            exact ⟨vs[k], List.getElem?_eq_getElem hl', hall k c _ hcc (List.getElem?_eq_getElem hl')⟩
          have gg : as_r w E ρ (pc, lv, st', iv, ex) (pc', cl, cs, W) := ⟨g1, g2, g3, hr, g5⟩
          split at h
          · rename_i lo hi hf
            obtain ⟨B, hB, rfl⟩ := Option.map_eq_some_iff.mp h
            obtain ⟨v, e1, e2⟩ := hval _ hf
            cases v with
            | int y => exact ⟨_, hstep _ e1, B, List.mem_singleton_self _, a_gm_ok gg (by unfold ld; rw [hx]; exact e1) e2.1 e2.2 hB⟩
            | _ => exact e2.elim
          · rename_i q hf
            obtain ⟨v, e1, e2⟩ := hval _ hf
            cases v with
            | ref y => cases h; exact ⟨_, hstep _ e1, _, List.mem_singleton_self _, ρ, g1, rfl, g3, ⟨e2, hr⟩, g5⟩
            | _ => exact e2.elim
          · rename_i hf
            obtain ⟨v, e1, e2⟩ := hval _ hf
            cases v with
            | long y => cases h; exact ⟨_, hstep _ e1, _, List.mem_singleton_self _, a_pl_ok gg (al_lo _) (al_hi _)⟩
            | _ => exact e2.elim
          · cases h
    · cases h
  · cases h
/-- bounds of all elements -/
noncomputable def pat_lo : List (Int × Int) → Int
  | [] => -2147483648
  | [q] => q.1
  | q :: l => min q.1 (pat_lo l)
noncomputable def pat_hi : List (Int × Int) → Int
  | [] => 2147483647
  | [q] => q.2
  | q :: l => max q.2 (pat_hi l)
theorem pat_lo_ok {q : Int × Int} : ∀ {p : List (Int × Int)}, q ∈ p → pat_lo p ≤ q.1 ∧ q.2 ≤ pat_hi p
  | [], h => absurd h List.not_mem_nil
  | [a], h => by
    have h := List.mem_singleton.mp h
    subst h
    exact ⟨Int.le_refl _, Int.le_refl _⟩
  | a :: b :: l, h => by
    have e1 : pat_lo (a :: b :: l) = min a.1 (pat_lo (b :: l)) := rfl
    have e2 : pat_hi (a :: b :: l) = max a.2 (pat_hi (b :: l)) := rfl
    cases List.mem_cons.mp h with
    | inl e => subst e; omega
    | inr h => have := pat_lo_ok h; omega
theorem pat_at_some {p : List (Int × Int)} (h : p ≠ []) (j : Nat) : ∃ q, pat_at p j = some q ∧ q ∈ p := by
  have hl : j % p.length < p.length := Nat.mod_lt _ (List.length_pos_iff.mpr h)
  exact ⟨p[j % p.length], List.getElem?_eq_getElem hl, List.getElem_mem hl⟩
theorem pat_all {p : List (Int × Int)} {f : Nat → Int32} (h : ∀ j lo hi, pat_at p j = some (lo, hi) → lo ≤ (f j).toInt ∧ (f j).toInt ≤ hi) (j : Nat) : pat_lo p ≤ (f j).toInt ∧ (f j).toInt ≤ pat_hi p := by
  by_cases hp : p = []
  · subst hp; exact ⟨ai_lo _, ai_hi _⟩
  · obtain ⟨⟨lo, hi⟩, e, hm⟩ := pat_at_some hp j
    have h1 := h j lo hi e
    have h2 := pat_lo_ok hm
    dsimp only at h2
    omega
/-- an element of an int array of class t, read -/
noncomputable def a_ald (w : AW) (t n : Nat) : AS → Option (List AS) := fun A => match A.2.2.1 with
  | .inl (k, o) :: .inr (.inr (.inl a)) :: st => match w.1.1[a]?, iv_rng A.2.2.2.1 k o with
    | some (.inl (t', len, p)), some (l, u) => bif Nat.beq t' t && (decide (0 ≤ l) && decide (u < (len : Int))) then (bif decide (l = u) then (match pat_at p l.toNat with
        | some (lo, hi) => (a_gm n A.2.1 st A.2.2.2.1 A.2.2.2.2 a l.toNat lo hi).map (fun B => [B])
        | none => none) else some [a_pi n A.2.1 st A.2.2.2.1 A.2.2.2.2 (pat_lo p) (pat_hi p)]) else none
    | _, _ => none
  | _ => none
theorem a_ald_ok (t n : Nat) (f : pm_S → Option pm_S) (hf : ∀ (pc : Nat) (cl : List (Nat × Value)) (i : Int32) (a : Nat) (cs : List Value) (W : pm_H × Nat × Nat) (len : Nat) (g : Nat → Int32), W.1[a]? = some (.inl (t, len, .inl g)) → pm_ix i len = true → f (pc, cl, .int i :: .ref a :: cs, W) = some (n, cl, .int (g i.toNatClampNeg) :: cs, W)) : ai_ok w f (a_ald w t n) := by
  rintro E ⟨pc, lv, st, iv, ex⟩ ⟨pc', cl, cs, W⟩ As ⟨ρ, g1, g2, g3, g4, g5⟩ h
  simp only [a_ald] at h
  split at h
  · rename_i k o a st'
    split at h
    · rename_i t' len p l u hc hr
      cases hb : (Nat.beq t' t && (decide (0 ≤ l) && decide (u < (len : Int)))) with
      | false => rw [hb] at h; cases h
      | true =>
        rw [hb, cond_true] at h
        simp only [Bool.and_eq_true, decide_eq_true_eq] at hb
        obtain ⟨hb1, hb2, hb3⟩ := hb
        have ht : t' = t := Nat.eq_of_beq_eq_true hb1
        subst ht
        obtain ⟨v, cs, rfl, ha, hr0⟩ := f2_cons g4
        obtain ⟨u', cs, rfl, hc1, hs2⟩ := f2_cons hr0
        obtain ⟨i, rfl, ha⟩ := av_int ha
        obtain rfl := av_ref hc1
        obtain ⟨x, hx, hg⟩ := hs_at g5.1 hc
        dsimp only at hx
        match x, hx, hg with
        | .inl (t2, len2, .inl g), hx, hg =>
          obtain ⟨rfl, rfl, hall⟩ := hg
          have b1 := iv_rng_ok g1 ha hr
          have hstep := hf pc' cl i a cs W _ g hx (ai_ix (by omega) (by omega))
          have gg : as_r w E ρ (pc, lv, st', iv, ex) (pc', cl, cs, W) := ⟨g1, g2, g3, hs2, g5⟩
          cases hd : decide (l = u) with
          | false =>
            rw [hd] at h
            cases h
            have := pat_all hall i.toNatClampNeg
            exact ⟨_, hstep, _, List.mem_singleton_self _, a_pi_ok gg this.1 this.2⟩
          | true =>
            rw [hd, cond_true] at h
            have hd := of_decide_eq_true hd
            have hi : i.toNatClampNeg = l.toNat := by show i.toInt.toNat = l.toNat; omega
            split at h
            · rename_i lo hi' hp
              obtain ⟨B, hB, rfl⟩ := Option.map_eq_some_iff.mp h
              have := hall _ _ _ hp
              refine ⟨_, hstep, B, List.mem_singleton_self _, ?_⟩
              rw [hi]
              exact a_gm_ok gg (by unfold ld; rw [hx]) this.1 this.2 hB
            · cases h
    · cases h
  · cases h
theorem a_iald_ok (n : Nat) : ai_ok w (s_iald n) (a_ald w 0 n) := a_ald_ok 0 n _ (fun pc cl i a cs w len g h1 h2 => by simp only [s_iald]; rw [h1]; simp only; rw [h2]; rfl)
theorem a_bald_ok (n : Nat) : ai_ok w (s_bald n) (a_ald w 1 n) := a_ald_ok 1 n _ (fun pc cl i a cs w len g h1 h2 => by simp only [s_bald]; rw [h1]; simp only; rw [h2]; rfl)
theorem a_zald_ok (n : Nat) : ai_ok w (s_zald n) (a_ald w 2 n) := a_ald_ok 2 n _ (fun pc cl i a cs w len g h1 h2 => by simp only [s_zald]; rw [h1]; simp only; rw [h2]; rfl)
noncomputable def a_lald (w : AW) (n : Nat) : AS → Option (List AS) := fun A => match A.2.2.1 with
  | .inl (k, o) :: .inr (.inr (.inl a)) :: st => match w.1.1[a]?, iv_rng A.2.2.2.1 k o with
    | some (.inr (.inl len)), some (l, u) => bif decide (0 ≤ l) && decide (u < (len : Int)) then some [a_pl n A.2.1 st A.2.2.2.1 A.2.2.2.2 (-9223372036854775808) 9223372036854775807] else none
    | _, _ => none
  | _ => none
theorem a_lald_ok (n : Nat) : ai_ok w (s_lald n) (a_lald w n) := by
  rintro E ⟨pc, lv, st, iv, ex⟩ ⟨pc', cl, cs, W⟩ As ⟨ρ, g1, g2, g3, g4, g5⟩ h
  simp only [a_lald] at h
  split at h
  · rename_i k o a st'
    split at h
    · rename_i len l u hc hr
      cases hb : (decide (0 ≤ l) && decide (u < (len : Int))) with
      | false => rw [hb] at h; cases h
      | true =>
        rw [hb] at h
        cases h
        simp only [Bool.and_eq_true, decide_eq_true_eq] at hb
        obtain ⟨v, cs, rfl, ha, hr0⟩ := f2_cons g4
        obtain ⟨u', cs, rfl, hc1, hs2⟩ := f2_cons hr0
        obtain ⟨i, rfl, ha⟩ := av_int ha
        obtain rfl := av_ref hc1
        obtain ⟨x, hx, hg⟩ := hs_at g5.1 hc
        dsimp only at hx
        match x, hx, hg with
        | .inl (t2, len2, .inr (.inl g)), hx, hg =>
          obtain ⟨rfl, rfl⟩ := hg
          have b1 := iv_rng_ok g1 ha hr
          have hi := ai_ix (i := i) (len := len2) (by omega) (by omega)
          exact ⟨(n, cl, .long (g i.toNatClampNeg) :: cs, W), by simp only [s_lald]; rw [hx]; simp only; rw [hi]; rfl, _, List.mem_singleton_self _, a_pl_ok (pc := pc) (pc' := pc') (st := st') ⟨g1, g2, g3, hs2, g5⟩ (al_lo _) (al_hi _)⟩
    · cases h
  · cases h
/-- what a store leaves known -/
noncomputable def ex_kill (w : AW) (ex : AX) (a l u : Nat) : AX := (ex.1.filter (fun q => !(Nat.beq q.1.1 a && (Nat.ble l q.1.2 && Nat.ble q.1.2 u))), ex.2.1, ex.2.2.1.filter (fun i => rg_dis (w.1.2.2 i) a l u), ex.2.2.2)
theorem ex_store {E : AEnv} {n : Nat} {ρ : Nat → Int} {ex : AX} {cl : List (Nat × Value)} {h h' : pm_H} {a i l u : Nat} (g : ex_g w E n ρ ex cl h) (hs : hs_g w.1.1 h') (hl : l ≤ i) (hu : i ≤ u) (hM : rg_sub ex.2.2.2.1 a l u = true) (hld : ∀ b k, (b = a → k ≠ i) → ld h' b k = ld h b k) : ex_g w E n ρ (ex_kill w ex a l u) cl h' := by
  obtain ⟨g1, g2, g3, g4, g5, g6⟩ := g
  refine ⟨hs, fun q b hm => ?_, g3, fun j hj => ?_, fun b k hk => ?_, g6⟩
  · obtain ⟨hm1, hm2⟩ := List.mem_filter.mp hm
    obtain ⟨v, e1, e2⟩ := g2 q b hm1
    refine ⟨v, ?_, e2⟩
    rw [hld _ _ (fun hq hk => ?_)]
    · exact e1
    · simp only [hq, hk, Nat.beq_refl, Nat.ble_eq_true_of_le hl, Nat.ble_eq_true_of_le hu, Bool.and_self, Bool.not_true] at hm2
      cases hm2
  · obtain ⟨hm1, hm2⟩ := List.mem_filter.mp hj
    refine w.2 j h h' g1 hs (fun b k hbk => hld b k (fun hq hk => ?_)) (g4 j hm1)
    subst hq; subst hk
    rw [rg_dis_in hm2 hl hu] at hbk
    cases hbk
  · rw [hld b k (fun hq hk' => ?_)]
    · exact g5 b k hk
    · subst hq; subst hk'
      have hk : rg_in ex.2.2.2.1 b k = false := hk
      rw [rg_sub_in hM hl hu] at hk
      cases hk
/-- a store whose place is known is remembered -/
noncomputable def ex_note (ex : AX) (a k : Nat) (v : AV) : AX := (((a, k), v) :: ex.1, ex.2)
theorem ex_note_ok {E : AEnv} {n : Nat} {ρ : Nat → Int} {ex : AX} {cl : List (Nat × Value)} {h : pm_H} {a k : Nat} {b : AV} {v : Value} (g : ex_g w E n ρ ex cl h) (hl : ld h a k = some v) (hv : av_g n ρ b v) : ex_g w E n ρ (ex_note ex a k b) cl h := by
  refine ⟨g.1, fun q c hm => ?_, g.2.2⟩
  cases List.mem_cons.mp hm with
  | inl e => cases e; exact ⟨v, hl, hv⟩
  | inr hm => exact g.2.1 q c hm
theorem ld_set_ne {h : pm_H} {a b k : Nat} {x : pm_E} (hb : b ≠ a) : ld (h.set a x) b k = ld h b k := by
  unfold ld
  rw [List.getElem?_set_ne (Ne.symm hb)]
theorem ld_seti {h : pm_H} {a b k i t len t' len' : Nat} {f : Nat → Int32} {v : Int32} (ha : h[a]? = some (.inl (t', len', .inl f))) (hbk : b = a → k ≠ i) : ld (h.set a (.inl (t, len, .inl (upd f i v)))) b k = ld h b k := by
  by_cases hb : b = a
  · subst hb
    have hl : b < h.length := (List.getElem?_eq_some_iff.mp ha).1
    unfold ld
    rw [List.getElem?_set_self hl, ha]
    simp only [upd, if_neg (hbk rfl)]
  · exact ld_set_ne hb
theorem ld_setl {h : pm_H} {a b k i t len t' len' : Nat} {f : Nat → Int64} {v : Int64} (ha : h[a]? = some (.inl (t', len', .inr (.inl f)))) (hbk : b = a → k ≠ i) : ld (h.set a (.inl (t, len, .inr (.inl (vp_updL f i v))))) b k = ld h b k := by
  by_cases hb : b = a
  · subst hb
    have hl : b < h.length := (List.getElem?_eq_some_iff.mp ha).1
    unfold ld
    rw [List.getElem?_set_self hl, ha]
    simp only [vp_updL, if_neg (hbk rfl)]
  · exact ld_set_ne hb
theorem ld_setf {h : pm_H} {a b k i c c' : Nat} {fs : List Value} {v : Value} (ha : h[a]? = some (.inr (c', fs))) (hbk : b = a → k ≠ i) : ld (h.set a (.inr (c, fs.set i v))) b k = ld h b k := by
  by_cases hb : b = a
  · subst hb
    have hl : b < h.length := (List.getElem?_eq_some_iff.mp ha).1
    unfold ld
    rw [List.getElem?_set_self hl, ha]
    simp only [List.getElem?_set_ne (Ne.symm (hbk rfl))]
  · exact ld_set_ne hb
end AIH
