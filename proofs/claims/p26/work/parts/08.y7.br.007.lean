section
section AIT
variable {w : AW}
/-- a field is stored to -/
noncomputable def a_putf (w : AW) (ci k : Nat) (ty : FieldType) (n : Nat) : AS → Option (List AS) := fun A => match A.2.2.1 with
  | v :: .inr (.inr (.inl a)) :: st => match w.1.1[a]? with
    | some (.inr (.inr (.inr (cj, fs)))) => bif Nat.beq cj ci && rg_sub A.2.2.2.2.2.2.2.1 a k k then (match fs[k]?, v, ty with
      | some (.inl (lo, hi)), .inl (kv, ov), .int => match iv_rng A.2.2.2.1 kv ov with
        | some (va, vb) => bif decide (lo ≤ va) && decide (vb ≤ hi) then some [(n, A.2.1, st, A.2.2.2.1, ex_note (ex_kill w A.2.2.2.2 a k k) a k (.inl (kv, ov)))] else none
        | none => none
      | some (.inl (lo, hi)), .inl (kv, ov), .boolean => match iv_rng A.2.2.2.1 kv ov with
        | some (va, vb) => bif (decide (lo ≤ va) && decide (vb ≤ hi)) && (decide (0 ≤ va) && decide (vb ≤ 1)) then some [(n, A.2.1, st, A.2.2.2.1, ex_note (ex_kill w A.2.2.2.2 a k k) a k (.inl (kv, ov)))] else none
        | none => none
      | some (.inr (.inl ())), .inr (.inl _), .long => some [(n, A.2.1, st, A.2.2.2.1, ex_kill w A.2.2.2.2 a k k)]
      | _, _, _ => none) else none
    | _ => none
  | _ => none
theorem a_putf_ok (ci k : Nat) (ty : FieldType) (n : Nat) : ai_ok w (s_putf ci k ty n) (a_putf w ci k ty n) := by
  rintro E ⟨pc, lv, st, iv, ex⟩ ⟨pc', cl, cs, W⟩ As ⟨ρ, g1, g2, g3, g4, g5⟩ h
  simp only [a_putf] at h
  split at h
  · rename_i v a st'
    split at h
    · rename_i cj fs hc
      cases hb : (Nat.beq cj ci && rg_sub ex.2.2.2.1 a k k) with
      | false => rw [hb] at h; cases h
      | true =>
        rw [hb, cond_true] at h
        rw [Bool.and_eq_true] at hb
        obtain ⟨hb1, hb2⟩ := hb
        obtain ⟨v0, cs, rfl, hv, hr0⟩ := f2_cons g4
        obtain ⟨u', cs, rfl, hc1, hs2⟩ := f2_cons hr0
        obtain rfl := av_ref hc1
        obtain ⟨z, hx, hg⟩ := hs_at g5.1 hc
        dsimp only at hx
        match z, hx, hg with
        | .inr (cq, vs), hx, hg =>
          obtain ⟨rfl, hlen, hall⟩ := hg
          have key : ∀ cf, fs[k]? = some cf → af_g cf v0 → pm_fit ty v0 = true → s_putf ci k ty n (pc', cl, v0 :: .ref a :: cs, W) = some (n, cl, cs, W.1.set a (.inr (cq, vs.set k v0)), W.2) ∧ hs_g w.1.1 (W.1.set a (.inr (cq, vs.set k v0))) ∧ ld (W.1.set a (.inr (cq, vs.set k v0))) a k = some v0 := by
            intro cf hcf haf hfit
            have hl : k < fs.length := (List.getElem?_eq_some_iff.mp hcf).1
            have hl' : k < vs.length := by omega
            have hla : a < W.1.length := (List.getElem?_eq_some_iff.mp hx).1
            refine ⟨?_, hs_set g5.1 hc ⟨rfl, by rw [List.length_set]; exact hlen, fun q c y h1 h2 => ?_⟩, ?_⟩
            · simp only [s_putf]
              rw [hx]
              simp only
              have hlt : Nat.blt k vs.length = true := Nat.ble_eq_true_of_le hl'
              rw [hb1, hfit, hlt]
              rfl
            · by_cases hq : k = q
              · subst hq
                rw [List.getElem?_set_self hl'] at h2
                cases h2
                rw [hcf] at h1
                cases h1
                exact haf
              · rw [List.getElem?_set_ne hq] at h2
                exact hall q c y h1 h2
            · unfold ld
              rw [List.getElem?_set_self hla]
              simp only [List.getElem?_set_self hl']
          have hkill : hs_g w.1.1 (W.1.set a (.inr (cq, vs.set k v0))) → ex_g w E iv.length ρ (ex_kill w ex a k k) cl (W.1.set a (.inr (cq, vs.set k v0))) := fun hh => ex_store g5 hh (Nat.le_refl _) (Nat.le_refl _) hb2 (fun b q hbk => ld_setf hx hbk)
          split at h
          · rename_i lo hi kv ov hfk
            split at h
            · rename_i va vb hrv
              cases hd : (decide (lo ≤ va) && decide (vb ≤ hi)) with
              | false => rw [hd] at h; cases h
              | true =>
                rw [hd] at h
                cases h
                simp only [Bool.and_eq_true, decide_eq_true_eq] at hd
                obtain ⟨x, rfl, hv'⟩ := av_int hv
                have b2 := iv_rng_ok g1 hv' hrv
                obtain ⟨k1, k2, k3⟩ := key _ hfk (show lo ≤ x.toInt ∧ x.toInt ≤ hi by omega) rfl
                exact ⟨_, k1, _, List.mem_singleton_self _, ρ, g1, rfl, g3, hs2, ex_note_ok (hkill k2) k3 hv⟩
            · cases h
          · rename_i lo hi kv ov hfk
            split at h
            · rename_i va vb hrv
              cases hd : ((decide (lo ≤ va) && decide (vb ≤ hi)) && (decide (0 ≤ va) && decide (vb ≤ 1))) with
              | false => rw [hd] at h; cases h
              | true =>
                rw [hd] at h
                cases h
                simp only [Bool.and_eq_true, decide_eq_true_eq] at hd
                obtain ⟨x, rfl, hv'⟩ := av_int hv
                have b2 := iv_rng_ok g1 hv' hrv
                have hfit : pm_fit .boolean (.int x) = true := by
                  by_cases h0 : x.toInt = 0
                  · have : x = 0 := Int32.toInt_inj.mp h0
                    subst this; rfl
                  · have : x = 1 := Int32.toInt_inj.mp (by show x.toInt = 1; omega)
                    subst this; rfl
                obtain ⟨k1, k2, k3⟩ := key _ hfk (show lo ≤ x.toInt ∧ x.toInt ≤ hi by omega) hfit
                exact ⟨_, k1, _, List.mem_singleton_self _, ρ, g1, rfl, g3, hs2, ex_note_ok (hkill k2) k3 hv⟩
            · cases h
          · rename_i kv hfk
            cases h
            obtain ⟨x, rfl, hv'⟩ := av_long hv
            obtain ⟨k1, k2, k3⟩ := key _ hfk trivial rfl
            exact ⟨_, k1, _, List.mem_singleton_self _, ρ, g1, rfl, g3, hs2, hkill k2⟩
          · cases h
    · cases h
  · cases h
/-- one state for each number from l on -/
noncomputable def a_each (k : Option Nat) (o : Int) (iv : IV) (f : Nat → IV → Option AS) : Nat → Nat → List AS
  | _, 0 => []
  | l, m + 1 => (match iv_nar iv k o (l : Int) (l : Int) with | some iv' => (f l iv').toList | none => []) ++ a_each k o iv f (l + 1) m
theorem a_each_in {k : Option Nat} {o : Int} {iv : IV} {f : Nat → IV → Option AS} {iv' : IV} {B : AS} {j : Nat} (h1 : iv_nar iv k o (j : Int) (j : Int) = some iv') (h2 : f j iv' = some B) : ∀ (m l : Nat), l ≤ j → j < l + m → B ∈ a_each k o iv f l m
  | 0, l, h3, h4 => absurd h4 (by omega)
  | m + 1, l, h3, h4 => by
    unfold a_each
    by_cases hj : l = j
    · subst hj
      rw [h1]
      simp only [h2]
      exact List.mem_append_left _ (List.mem_singleton_self _)
    · exact List.mem_append_right _ (a_each_in h1 h2 m (l + 1) (by omega) (by omega))
end AIT
end
