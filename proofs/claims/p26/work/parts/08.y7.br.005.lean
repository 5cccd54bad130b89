section
section AIH
variable {w : AW}
theorem a_iald_ok (n : Nat) : ai_ok w (s_iald n) (a_ald w 0 n) := a_ald_ok 0 n _ (fun pc cl i a cs w len g h1 h2 => by simp only [s_iald]; rw [h1]; simp only; rw [h2]; rfl)
theorem a_bald_ok (n : Nat) : ai_ok w (s_bald n) (a_ald w 1 n) := a_ald_ok 1 n _ (fun pc cl i a cs w len g h1 h2 => by simp only [s_bald]; rw [h1]; simp only; rw [h2]; rfl)
theorem a_zald_ok (n : Nat) : ai_ok w (s_zald n) (a_ald w 2 n) := a_ald_ok 2 n _ (fun pc cl i a cs w len g h1 h2 => by simp only [s_zald]; rw [h1]; simp only; rw [h2]; rfl)
noncomputable def a_lald (w : AW) (n : Nat) : AS → Option (List AS) := fun A => match A.2.2.1 with
  | .inl (k, o) :: .inr (.inr (.inl a)) :: st => match w.1.1[a]?, iv_rng A.2.2.2.1 k o with
    | some (.inr (.inl len)), some (l, u) => bif decide (0 ≤ l) && decide (u < (len : Int)) then some [a_pl n A.2.1 st A.2.2.2.1 A.2.2.2.2 (-9223372036854775808) 9223372036854775807] else none
    | _, _ => none
  | _ => none
theorem a_lald_ok (n : Nat) : ai_ok w (s_lald n) (a_lald w n) := by
  rintro E ⟨pc, lv, st, iv, ex⟩ ⟨pc', cl, cs, W⟩ As ⟨ρ, g1, g2, g3, g4, g5⟩ h
  simp only [a_lald] at h
  split at h
  · rename_i k o a st'
    split at h
    · rename_i len l u hc hr
      cases hb : (decide (0 ≤ l) && decide (u < (len : Int))) with
      | false => rw [hb] at h; cases h
      | true =>
        rw [hb] at h
        cases h
        simp only [Bool.and_eq_true, decide_eq_true_eq] at hb
        obtain ⟨v, cs, rfl, ha, hr0⟩ := f2_cons g4
        obtain ⟨u', cs, rfl, hc1, hs2⟩ := f2_cons hr0
        obtain ⟨i, rfl, ha⟩ := av_int ha
        obtain rfl := av_ref hc1
        obtain ⟨x, hx, hg⟩ := hs_at g5.1 hc
        dsimp only at hx
        match x, hx, hg with
        | .inl (t2, len2, .inr (.inl g)), hx, hg =>
          obtain ⟨rfl, rfl⟩ := hg
          have b1 := iv_rng_ok g1 ha hr
          have hi := ai_ix (i := i) (len := len2) (by omega) (by omega)
          exact ⟨(n, cl, .long (g i.toNatClampNeg) :: cs, W), by simp only [s_lald]; rw [hx]; simp only; rw [hi]; rfl, _, List.mem_singleton_self _, a_pl_ok (pc := pc) (pc' := pc') (st := st') ⟨g1, g2, g3, hs2, g5⟩ (al_lo _) (al_hi _)⟩
    · cases h
  · cases h
/-- what a store leaves known -/
noncomputable def ex_kill (w : AW) (ex : AX) (a l u : Nat) : AX := (ex.1.filter (fun q => !(Nat.beq q.1.1 a && (Nat.ble l q.1.2 && Nat.ble q.1.2 u))), ex.2.1, ex.2.2.1.filter (fun i => rg_dis (w.1.2.2 i) a l u), ex.2.2.2)
theorem ex_store {E : AEnv} {n : Nat} {ρ : Nat → Int} {ex : AX} {cl : List (Nat × Value)} {h h' : pm_H} {a i l u : Nat} (g : ex_g w E n ρ ex cl h) (hs : hs_g w.1.1 h') (hl : l ≤ i) (hu : i ≤ u) (hM : rg_sub ex.2.2.2.1 a l u = true) (hld : ∀ b k, (b = a → k ≠ i) → ld h' b k = ld h b k) : ex_g w E n ρ (ex_kill w ex a l u) cl h' := by
  obtain ⟨g1, g2, g3, g4, g5, g6⟩ := g
  refine ⟨hs, fun q b hm => ?_, g3, fun j hj => ?_, fun b k hk => ?_, g6⟩
  · obtain ⟨hm1, hm2⟩ := List.mem_filter.mp hm
    obtain ⟨v, e1, e2⟩ := g2 q b hm1
    refine ⟨v, ?_, e2⟩
    rw [hld _ _ (fun hq hk => ?_)]
    · exact e1
    · simp only [hq, hk, Nat.beq_refl, Nat.ble_eq_true_of_le hl, Nat.ble_eq_true_of_le hu, Bool.and_self, Bool.not_true] at hm2
      cases hm2
  · obtain ⟨hm1, hm2⟩ := List.mem_filter.mp hj
    refine w.2 j h h' g1 hs (fun b k hbk => hld b k (fun hq hk => ?_)) (g4 j hm1)
    subst hq; subst hk
    rw [rg_dis_in hm2 hl hu] at hbk
    cases hbk
  · rw [hld b k (fun hq hk' => ?_)]
    · exact g5 b k hk
    · subst hq; subst hk'
      have hk : rg_in ex.2.2.2.1 b k = false := hk
      rw [rg_sub_in hM hl hu] at hk
      cases hk
/-- a store whose place is known is remembered -/
noncomputable def ex_note (ex : AX) (a k : Nat) (v : AV) : AX := (((a, k), v) :: ex.1, ex.2)
theorem ex_note_ok {E : AEnv} {n : Nat} {ρ : Nat → Int} {ex : AX} {cl : List (Nat × Value)} {h : pm_H} {a k : Nat} {b : AV} {v : Value} (g : ex_g w E n ρ ex cl h) (hl : ld h a k = some v) (hv : av_g n ρ b v) : ex_g w E n ρ (ex_note ex a k b) cl h := by
  refine ⟨g.1, fun q c hm => ?_, g.2.2⟩
  cases List.mem_cons.mp hm with
  | inl e => cases e; exact ⟨v, hl, hv⟩
  | inr hm => exact g.2.1 q c hm
theorem ld_set_ne {h : pm_H} {a b k : Nat} {x : pm_E} (hb : b ≠ a) : ld (h.set a x) b k = ld h b k := by
  unfold ld
  rw [List.getElem?_set_ne (Ne.symm hb)]
theorem ld_seti {h : pm_H} {a b k i t len t' len' : Nat} {f : Nat → Int32} {v : Int32} (ha : h[a]? = some (.inl (t', len', .inl f))) (hbk : b = a → k ≠ i) : ld (h.set a (.inl (t, len, .inl (upd f i v)))) b k = ld h b k := by
  by_cases hb : b = a
  · subst hb
    have hl : b < h.length := (List.getElem?_eq_some_iff.mp ha).1
    unfold ld
    rw [List.getElem?_set_self hl, ha]
    simp only [upd, if_neg (hbk rfl)]
  · exact ld_set_ne hb
theorem ld_setl {h : pm_H} {a b k i t len t' len' : Nat} {f : Nat → Int64} {v : Int64} (ha : h[a]? = some (.inl (t', len', .inr (.inl f)))) (hbk : b = a → k ≠ i) : ld (h.set a (.inl (t, len, .inr (.inl (vp_updL f i v))))) b k = ld h b k := by
  by_cases hb : b = a
  · subst hb
    have hl : b < h.length := (List.getElem?_eq_some_iff.mp ha).1
    unfold ld
    rw [List.getElem?_set_self hl, ha]
    simp only [vp_updL, if_neg (hbk rfl)]
  · exact ld_set_ne hb
theorem ld_setf {h : pm_H} {a b k i c c' : Nat} {fs : List Value} {v : Value} (ha : h[a]? = some (.inr (c', fs))) (hbk : b = a → k ≠ i) : ld (h.set a (.inr (c, fs.set i v))) b k = ld h b k := by
  by_cases hb : b = a
  · subst hb
    have hl : b < h.length := (List.getElem?_eq_some_iff.mp ha).1
    unfold ld
    rw [List.getElem?_set_self hl, ha]
    simp only [List.getElem?_set_ne (Ne.symm (hbk rfl))]
  · exact ld_set_ne hb
end AIH
end
section
/-! THE EXECUTOR (second writing), part 9: stores, references, switches, what lies outside -/
section AIT
variable {w : AW}
/-- a value within the bounds of an element, or of all -/
noncomputable def pat_fit (p : List (Int × Int)) (l u a b : Int) : Bool := bif decide (l = u) then (match pat_at p l.toNat with | some (lo, hi) => decide (lo ≤ a) && decide (b ≤ hi) | none => false) else p.all (fun q => decide (q.1 ≤ a) && decide (b ≤ q.2))
theorem pat_fit_ok {p : List (Int × Int)} {f : Nat → Int32} {l u a b : Int} {i x : Int32} (h : ∀ j lo hi, pat_at p j = some (lo, hi) → lo ≤ (f j).toInt ∧ (f j).toInt ≤ hi) (hf : pat_fit p l u a b = true) (h0 : 0 ≤ l) (h1 : l ≤ i.toInt) (h2 : i.toInt ≤ u) (h3 : a ≤ x.toInt) (h4 : x.toInt ≤ b) :
    ∀ j lo hi, pat_at p j = some (lo, hi) → lo ≤ (upd f i.toNatClampNeg x j).toInt ∧ (upd f i.toNatClampNeg x j).toInt ≤ hi := by
  intro j lo hi hp
  unfold upd
  by_cases hj : j = i.toNatClampNeg
  · rw [if_pos hj]
    unfold pat_fit at hf
    cases hd : decide (l = u) with
    | true =>
      rw [hd, cond_true] at hf
      have hd := of_decide_eq_true hd
      have hi : j = l.toNat := by rw [hj]; show i.toInt.toNat = l.toNat; omega
      subst hi
      rw [hp] at hf
      simp only [Bool.and_eq_true, decide_eq_true_eq] at hf
      omega
    | false =>
      rw [hd, cond_false] at hf
      have hm : (lo, hi) ∈ p := List.mem_of_getElem? hp
      have := List.all_eq_true.mp hf _ hm
      simp only [Bool.and_eq_true, decide_eq_true_eq] at this
      omega
  · rw [if_neg hj]
    exact h j lo hi hp
end AIT
end
