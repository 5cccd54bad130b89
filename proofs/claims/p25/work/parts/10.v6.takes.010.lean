section
section SEE
variable {h : pm_H} {d : Nat}
theorem sp_isSoB {s : Nat} (hh : HH h) (hs : s < 4) (F : LDf 80 (60 * s) 2 0 7 79 s h) : Sp (d + 2) 280 h [.ref 77, .int (nJ s)] (fun h' r => h' = h ∧ (r = some (.int 1) ∨ (r = some (.int 0) ∧ 1 ≤ gn h 79 s))) := by
  refine Sp_of aiX9_isSo rfl rfl rfl ?_
  have L0 : pm_get (lv_args 0 [.ref 77, .int (nJ s)]) 0 = some (.ref 77) := rfl
  have L1 : pm_get (lv_args 0 [.ref 77, .int (nJ s)]) 1 = some (.int (nJ s)) := rfl
  generalize lv_args 0 [.ref 77, .int (nJ s)] = lv at L0 L1 ⊢
  refine E_ci 0 rfl (by decide) ?_
  refine E_is rfl (fun lv1 K2 kp => ?_)
  have hn : gn h 79 s ≤ 60 := gn_hi hh (bd_u rfl (by omega)) (by decide)
  exact so_loop hh hs F 60 (k := 0) lv1 (by omega) (by omega) (kp 0 _ (by decide) rfl L0) (kp 1 _ (by decide) rfl L1) K2
theorem so_sum {s f : Nat} {i : Int} (hs : s < 4) (hi : i = (s : Int)) (eF : ∀ h, w0.1.2.1 f h = LDf 80 (60 * s) 2 0 7 79 s h) : sum_g w0 (pm_Rt pm_P 2) (280, [cR 77, cI i i], [], [f], [], [([cR 77, cI i i], [((79, s), 1, 60)], [], some (.inl (cI 0 0))), ([cR 77, cI i i], [], [], some (.inl (cI 1 1)))]) := by
  intro h as hh ha _ hf
  match as, ha with
  | [.ref a, .int x], ⟨h1, h2, _⟩ =>
    have h1 : a = 77 := h1
    have h2 : i ≤ x.toInt ∧ x.toInt ≤ i := h2
    subst h1
    have hx : x = nJ s := Int32.toInt_inj.mp (by rw [nJ_toInt (by omega)]; omega)
    obtain ⟨h', r, p1, e, p2⟩ := sp_isSoB (d := 0) hh hs ((eF h) ▸ hf f List.mem_cons_self)
    subst e
    have b79 : bd 79 s = some (0, 60) := bd_u rfl (by omega)
    refine ⟨h', r, by rw [hx]; exact p1, hh, fun _ _ _ => rfl, ?_⟩
    rcases p2 with rfl | ⟨rfl, q⟩
    · exact ⟨_, List.mem_cons_of_mem _ List.mem_cons_self, ⟨rfl, h2, trivial⟩, fun _ hq => absurd hq List.not_mem_nil, fun _ hq => absurd hq List.not_mem_nil, ⟨by decide, by decide⟩⟩
    · refine ⟨_, List.mem_cons_self, ⟨rfl, h2, trivial⟩, fun k hk => ?_, fun _ hq => absurd hq List.not_mem_nil, ⟨by decide, by decide⟩⟩
      rw [List.mem_singleton.mp hk]
      have hn : gn h' 79 s ≤ 60 := gn_hi hh b79 (by decide)
      have tn := nJ_toInt (n := gn h' 79 s) (by omega)
      refine ⟨_, (ld_gi hh b79).1, ?_, ?_⟩
      · rw [gi_gn hh b79 (by decide), tn]; show (1 : Int) ≤ _; omega
      · rw [gi_gn hh b79 (by decide), tn]; show _ ≤ (60 : Int); omega
theorem asq0 : sum_g w0 (pm_Rt pm_P 1) (124, [cR 0, cR 54], [], [271], [], [([cR 0, cR 54], [((54, 3), 2, 60)], [], some (.inl (cI 0 0))), ([cR 0, cR 54], [], [], some (.inl (cI 1 1)))]) := as_sum (s := 0) (by omega) (fun _ => rfl)
theorem asq1 : sum_g w0 (pm_Rt pm_P 1) (124, [cR 0, cR 56], [], [333], [], [([cR 0, cR 56], [((56, 3), 2, 60)], [], some (.inl (cI 0 0))), ([cR 0, cR 56], [], [], some (.inl (cI 1 1)))]) := as_sum (s := 1) (by omega) (fun _ => rfl)
theorem asq2 : sum_g w0 (pm_Rt pm_P 1) (124, [cR 0, cR 58], [], [395], [], [([cR 0, cR 58], [((58, 3), 2, 60)], [], some (.inl (cI 0 0))), ([cR 0, cR 58], [], [], some (.inl (cI 1 1)))]) := as_sum (s := 2) (by omega) (fun _ => rfl)
theorem asq3 : sum_g w0 (pm_Rt pm_P 1) (124, [cR 0, cR 60], [], [457], [], [([cR 0, cR 60], [((60, 3), 2, 60)], [], some (.inl (cI 0 0))), ([cR 0, cR 60], [], [], some (.inl (cI 1 1)))]) := as_sum (s := 3) (by omega) (fun _ => rfl)
theorem soq0 : sum_g w0 (pm_Rt pm_P 2) (280, [cR 77, cI 0 0], [], [767], [], [([cR 77, cI 0 0], [((79, 0), 1, 60)], [], some (.inl (cI 0 0))), ([cR 77, cI 0 0], [], [], some (.inl (cI 1 1)))]) := so_sum (s := 0) (by omega) rfl (fun _ => rfl)
theorem soq1 : sum_g w0 (pm_Rt pm_P 2) (280, [cR 77, cI 1 1], [], [829], [], [([cR 77, cI 1 1], [((79, 1), 1, 60)], [], some (.inl (cI 0 0))), ([cR 77, cI 1 1], [], [], some (.inl (cI 1 1)))]) := so_sum (s := 1) (by omega) rfl (fun _ => rfl)
theorem soq2 : sum_g w0 (pm_Rt pm_P 2) (280, [cR 77, cI 2 2], [], [891], [], [([cR 77, cI 2 2], [((79, 2), 1, 60)], [], some (.inl (cI 0 0))), ([cR 77, cI 2 2], [], [], some (.inl (cI 1 1)))]) := so_sum (s := 2) (by omega) rfl (fun _ => rfl)
theorem soq3 : sum_g w0 (pm_Rt pm_P 2) (280, [cR 77, cI 3 3], [], [953], [], [([cR 77, cI 3 3], [((79, 3), 1, 60)], [], some (.inl (cI 0 0))), ([cR 77, cI 3 3], [], [], some (.inl (cI 1 1)))]) := so_sum (s := 3) (by omega) rfl (fun _ => rfl)
end SEE
end
section
/-! rows of long arrays, frames of one cell -/
theorem fr_one {M : List Rng} {h h' : pm_H} {c j l u : Nat} (hs : rg_sub M c l u = true) (h1 : l ≤ j) (h2 : j ≤ u) (hf : fr_g [(c, j, j)] h h') : fr_g M h h' := by
  intro b k hbk
  refine hf b k ?_
  cases hq : rg_in [(c, j, j)] b k with
  | false => rfl
  | true =>
    obtain ⟨r, hr, hc⟩ := List.any_eq_true.mp hq
    have er := List.mem_singleton.mp hr
    subst er
    simp only [Bool.and_eq_true] at hc
    have e1 : c = b := Nat.eq_of_beq_eq_true hc.1
    have e2 : j ≤ k := Nat.le_of_ble_eq_true hc.2.1
    have e3 : k ≤ j := Nat.le_of_ble_eq_true hc.2.2
    have e4 : k = j := by omega
    subst e1
    subst e4
    rw [rg_sub_in hs h1 h2] at hbk
    cases hbk
section SLT
variable {look : Nat → Option pm_I} {call : pm_Call} {Q : pm_H → Option Value → Prop} {pc n i t : Nat} {lv : List (Nat × Value)} {st : List Value} {w : pm_H × Nat × Nat} {h : pm_H} {z : Nat × Nat}
theorem E_opT {a c k : Nat} {q : Int × Int} {v : Int32} {ty : FieldType} (h1 : look pc = some (.inl (s_putf c k ty n))) (hf : pm_fit ty (.int v) = true) (hh : HH h) (hc : ciO a = some c) (hb : bd a k = some q) (kk : Ends look call (n, lv, st, pt h a k v, z) Q) : Ends look call (pc, lv, .int v :: .ref a :: st, h, z) Q := by
  obtain ⟨vs, hx, hv⟩ := obO hh hc
  have h2 := (ld_gi hh hb).1
  have h3 : vs[k]? = some (.int (gi h a k)) := by
    unfold ld at h2
    rw [hx] at h2
    exact h2
  have h4 : Nat.blt k vs.length = true := Nat.ble_eq_true_of_le (List.getElem?_eq_some_iff.mp h3).1
  have h5 : pt h a k v = h.set a (.inr (c, vs.set k (.int v))) := by unfold pt; rw [hx]
  refine E_st h1 ?_ kk
  simp only [s_putf, hx, h4, h5, hf, Nat.beq_refl, Bool.and_self, cond_true]
theorem E_las {a len j : Nat} {v : Int64} (h1 : look pc = some (.inl (s_last n))) (hh : HH h) (hc : hs0[a]? = some (.inr (.inl len))) (hj : j < len) (hj2 : len < 2147483648) (kk : ∀ h', HH h' → fr_g [(a, j, j)] h h' → gl h' a j = v → Ends look call (n, lv, st, h', z) Q) : Ends look call (pc, lv, .long v :: .int (nJ j) :: .ref a :: st, h, z) Q := by
  obtain ⟨x, hx, hg⟩ := hs_at hh hc
  match x, hx, hg with
  | .inl (t2, len2, .inr (.inl f)), hx, hg =>
    obtain ⟨rfl, rfl⟩ := hg
    have h2 := nJ_toInt (n := j) (by omega)
    have h3 : pm_ix (nJ j) len2 = true := ai_ix (by omega) (by omega)
    have h4 : (nJ j).toNatClampNeg = j := by show (nJ j).toInt.toNat = j; omega
    have hl := (List.getElem?_eq_some_iff.mp hx).1
    refine E_st h1 (σ' := (n, lv, st, h.set a (.inl (3, len2, .inr (.inl (vp_updL f j v)))), z)) ?_ (kk _ (hs_set hh hc ⟨rfl, rfl⟩) ?_ ?_)
    · simp only [s_last, hx, h3, h4, cond_true]
    · intro b k hbk
      by_cases e : b = a
      · subst e
        have hk : k ≠ j := fun q => by
          rw [q, rg_in_one (Nat.le_refl _) (Nat.le_refl _) (List.mem_singleton_self _)] at hbk
          cases hbk
        unfold ld
        rw [List.getElem?_set_self hl, hx]
        show some (Value.long (vp_updL f j v k)) = some (Value.long (f k))
        unfold vp_updL
        rw [if_neg hk]
      · unfold ld
        rw [List.getElem?_set_ne (Ne.symm e)]
    · unfold gl ld
      rw [List.getElem?_set_self hl]
      show vp_updL f j v j = v
      unfold vp_updL
      rw [if_pos rfl]
end SLT
end

