section
theorem l_dint_ok (f : Nat) (E : AEnv) (A : AS) (σ : pm_S) (g : as_g w0 E A σ) : ∃ B ∈ l_dint f A, as_g w0 E B σ := by
  obtain ⟨ρ, g⟩ := g
  exact ⟨_, List.mem_singleton_self _, ρ, l_dt_ok g 61 (Nat.le_refl _)⟩
/-- the greatest value is told apart -/
noncomputable def h_top (_ : Nat) (A : AS) : List AS := match A.2.2.1 with
  | .inl (k, o) :: _ => match iv_rng A.2.2.2.1 k o with
    | some (l, u) => (match iv_nar A.2.2.2.1 k o l (u - 1) with | some iv' => [set_iv A iv'] | none => []) ++ (match iv_nar A.2.2.2.1 k o u u with | some iv' => [set_iv A iv'] | none => [])
    | none => [A]
  | _ => [A]
theorem h_top_ok (f : Nat) (E : AEnv) (A : AS) (σ : pm_S) (g : as_g w0 E A σ) : ∃ B ∈ h_top f A, as_g w0 E B σ := by
  have self : ∃ B ∈ [A], as_g w0 E B σ := ⟨A, List.mem_singleton_self _, g⟩
  obtain ⟨pc, lv, st, iv, ex⟩ := A
  obtain ⟨pc', cl, cs, W⟩ := σ
  unfold h_top
  dsimp only
  split
  · rename_i k o st'
    split
    · rename_i l u r
      obtain ⟨ρ, g⟩ := g
      obtain ⟨g1, g2, g3, g4, g5⟩ := id g
      dsimp only at g1 g4
      obtain ⟨v, cs, rfl, ha, hr⟩ := f2_cons g4
      obtain ⟨x, rfl, ha⟩ := av_int ha
      have b1 := iv_rng_ok g1 ha r
      by_cases hu : x.toInt = u
      · obtain ⟨iv', e1, e2, e3⟩ := iv_nar_ok (lo := u) (hi := u) g1 ha (by omega) (by omega)
        refine ⟨_, List.mem_append_right _ (by rw [e1]; exact List.mem_singleton_self _), ρ, as_iv g e2 e3⟩
      · obtain ⟨iv', e1, e2, e3⟩ := iv_nar_ok (lo := l) (hi := u - 1) g1 ha (by omega) (by omega)
        refine ⟨_, List.mem_append_left _ (by rw [e1]; exact List.mem_singleton_self _), ρ, as_iv g e2 e3⟩
    · exact self
  · exact self
/-- places whose ints are told apart -/
noncomputable def ldp : List (Nat × Nat) := [(15, 4), (84, 3), (84, 0)]
noncomputable def ld_b (a k : Nat) : Option (Int × Int) := match w0.1.1[a]? with
  | some (.inr (.inr (.inr (_, fs)))) => (match fs[k]? with | some (.inl q) => some q | _ => none)
  | some (.inl (_, _, p)) => pat_at p k
  | _ => none
theorem ld_b_ok {h : pm_H} {a k : Nat} {lo hi : Int} (H : hs_g w0.1.1 h) (e : ld_b a k = some (lo, hi)) : ∃ x : Int32, ld h a k = some (.int x) ∧ lo ≤ x.toInt ∧ x.toInt ≤ hi := by
  unfold ld_b at e
  split at e
  · rename_i ci fs hc
    split at e
    · rename_i q hf
      cases e
      obtain ⟨x, hx, hg⟩ := hs_at H hc
      match x, hx, hg with
      | .inr (cq, vs), hx, hg =>
        obtain ⟨rfl, hlen, hall⟩ := hg
        have hl : k < fs.length := (List.getElem?_eq_some_iff.mp hf).1
        have hl' : k < vs.length := by omega
        have hv := hall k _ _ hf (List.getElem?_eq_getElem hl')
        have hld : ld h a k = some vs[k] := by unfold ld; rw [hx]; exact List.getElem?_eq_getElem hl'
        cases hq : vs[k] with
        | int y => rw [hq] at hv hld; exact ⟨y, hld, hv⟩
        | _ => rw [hq] at hv; exact hv.elim
    · cases e
  · rename_i t len p hc
    obtain ⟨x, hx, hg⟩ := hs_at H hc
    match x, hx, hg with
    | .inl (t2, len2, .inl g), hx, hg =>
      obtain ⟨rfl, rfl, hall⟩ := hg
      exact ⟨g k, by unfold ld; rw [hx], hall k lo hi e⟩
  · cases e
noncomputable def ld_each (A : AS) (a k : Nat) : Nat → Nat → List AS
  | _, 0 => []
  | l, m + 1 => (A.1, A.2.1, A.2.2.1, A.2.2.2.1, ex_note A.2.2.2.2 a k (.inl (none, (l : Int)))) :: ld_each A a k (l + 1) m
theorem ld_each_in {A : AS} {a k j : Nat} : ∀ (m l : Nat), l ≤ j → j < l + m → (A.1, A.2.1, A.2.2.1, A.2.2.2.1, ex_note A.2.2.2.2 a k (.inl (none, (j : Int)))) ∈ ld_each A a k l m
  | 0, l, h1, h2 => absurd h2 (by omega)
  | m + 1, l, h1, h2 => by
    unfold ld_each
    by_cases hj : l = j
    · subst hj; exact List.mem_cons_self
    · exact List.mem_cons_of_mem _ (ld_each_in m (l + 1) (by omega) (by omega))
noncomputable def h_ld (f : Nat) (A : AS) : List AS := match ldp[f]? with
  | some (a, k) => match mem_get A.2.2.2.2.1 a k, ld_b a k with
    | none, some (lo, hi) => bif decide (0 ≤ lo) then ld_each A a k lo.toNat (hi - lo + 1).toNat else [A]
    | _, _ => [A]
  | none => [A]
theorem h_ld_ok (f : Nat) (E : AEnv) (A : AS) (σ : pm_S) (g : as_g w0 E A σ) : ∃ B ∈ h_ld f A, as_g w0 E B σ := by
  have self : ∃ B ∈ [A], as_g w0 E B σ := ⟨A, List.mem_singleton_self _, g⟩
  unfold h_ld
  split
  · rename_i a k _
    split
    · rename_i lo hi _ eb
      cases hb : decide (0 ≤ lo) with
      | false => exact self
      | true =>
        have hb := of_decide_eq_true hb
        obtain ⟨ρ, g1, g2, g3, g4, g5⟩ := g
        obtain ⟨x, e1, e2, e3⟩ := ld_b_ok g5.1 eb
        refine ⟨_, ld_each_in (j := x.toInt.toNat) _ _ (by omega) (by omega), ρ, g1, g2, g3, g4, ex_note_ok g5 e1 ?_⟩
        show x.toInt = ((x.toInt.toNat : Nat) : Int)
        omega
    · exact self
  · exact self
/-- one cut is checked -/
noncomputable def cut1 {w : AW} (J : Job w) (N pc : Nat) (c : Cut) : Bool := rk_small c.2.2.2.2 && (match cut_as pc J.2.2.2.2.2.2.1 J.2.2.2.2.2.2.2 c with
  | some A => ar_run J (some (A.2.1, A.2.2.2.2.1, c.2.2.2.2)) N A
  | none => false)
theorem cuts_of {w : AW} {J : Job w} {N : Nat} (h : ∀ q ∈ J.2.2.1, ∀ c ∈ q.2, cut1 J N q.1 c = true) : cuts_chk J N = true :=
  List.all_eq_true.mpr (fun q hq => List.all_eq_true.mpr (fun c hc => h q hq c hc))
/-- the entry is checked -/
noncomputable def ent1 {w : AW} (J : Job w) (N : Nat) (S : Sum1) : Bool := match cut_as 0 S.2.2.2.2.1 J.2.2.2.2.2.2.2 (arg_lv 0 S.2.1, [], S.2.2.1, S.2.2.2.1, []) with
  | some A => ar_run J none N A
  | none => false
theorem meth_ok2 {w : AW} {P : List (Nat × pm_M)} {I : pm_M} {tab : List (Nat × AR w)} {sums : List Sum1} {cuts : List (Nat × List Cut)} {spl K : List Nat} {N d : Nat} {S : Sum1} (hI : pm_at P S.1 = some I) (ht : I.2.2.2.2.2.2.2 = ar_tab tab) (hz : Nat.ble (S.2.1.map cv_cat).sum I.2.2.1 = true) (hS : ∀ T ∈ sums, sum_g w (pm_Rt P d) T)
    (h1 : ∀ q ∈ cuts, ∀ c ∈ q.2, cut1 (tab, sums, cuts, spl, arg_lv 0 S.2.1, S.2.2.2.2.2, S.2.2.2.2.1, K) N q.1 c = true) (h2 : ent1 (tab, sums, cuts, spl, arg_lv 0 S.2.1, S.2.2.2.2.2, S.2.2.2.2.1, K) N S = true) : sum_g w (pm_Rt P (d + 1)) S :=
  meth_ok hI ht hz hS (by unfold sum_chk; rw [Bool.and_eq_true]; exact ⟨cuts_of h1, h2⟩)
end
section
/-! THE HAND: numbers, places of memory, rows by their lemmas; a run that ends so (hand proofs over the pure machine) -/
noncomputable abbrev HH (h : pm_H) : Prop := hs_g hs0 h
noncomputable def nJ (n : Nat) : Int32 := Int32.ofInt n
theorem nJ_toInt {n : Nat} (h : n < 2147483648) : (nJ n).toInt = n := Int32.toInt_ofInt_of_le (by omega) (by omega)
theorem nJ_add (a b : Nat) : nJ a + nJ b = nJ (a + b) := by
  unfold nJ
  rw [← Int32.ofInt_add]
  rfl
theorem nJ_sub {a b : Nat} (h : b ≤ a) : nJ a - nJ b = nJ (a - b) := by
  unfold nJ
  rw [← Int32.ofInt_sub, Int.ofNat_sub h]
theorem nJ_of {x : Int32} (h : 0 ≤ x.toInt) : x = nJ x.toInt.toNat := by
  apply Int32.toInt_inj.mp
  have := ai_hi x
  rw [nJ_toInt (by omega)]
  omega
theorem nJ_lt {a b : Nat} (ha : a < 2147483648) (hb : b < 2147483648) : nJ a < nJ b ↔ a < b := by
  rw [Int32.lt_iff_toInt_lt, nJ_toInt ha, nJ_toInt hb]; omega
theorem nJ_le {a b : Nat} (ha : a < 2147483648) (hb : b < 2147483648) : nJ a ≤ nJ b ↔ a ≤ b := by
  rw [Int32.le_iff_toInt_le, nJ_toInt ha, nJ_toInt hb]; omega
theorem nJ_eq {a b : Nat} (ha : a < 2147483648) (hb : b < 2147483648) : nJ a = nJ b ↔ a = b := by
  rw [← Int32.toInt_inj, nJ_toInt ha, nJ_toInt hb]; omega
noncomputable def gi (h : pm_H) (a k : Nat) : Int32 := match ld h a k with | some (.int x) => x | _ => 0
noncomputable def gn (h : pm_H) (a k : Nat) : Nat := (gi h a k).toInt.toNat
/-- bounds of a place -/
noncomputable def bd (a k : Nat) : Option (Int × Int) := match hs0[a]? with
  | some (.inl (_, len, p)) => bif Nat.blt k len then pat_at p k else none
  | some (.inr (.inr (.inr (_, fs)))) => (match fs[k]? with | some (.inl q) => some q | _ => none)
  | _ => none
/-- a store -/
noncomputable def pt (h : pm_H) (a k : Nat) (v : Int32) : pm_H := match h[a]? with
  | some (.inl (t, len, .inl f)) => h.set a (.inl (t, len, .inl (upd f k v)))
  | some (.inr (c, fs)) => h.set a (.inr (c, fs.set k (.int v)))
  | _ => h
theorem ld_gi {h : pm_H} {a k : Nat} {q : Int × Int} (hh : HH h) (hb : bd a k = some q) : ld h a k = some (.int (gi h a k)) ∧ q.1 ≤ (gi h a k).toInt ∧ (gi h a k).toInt ≤ q.2 := by
  unfold bd at hb
  split at hb
  · rename_i t len p hc
    cases hk : Nat.blt k len with
    | false => rw [hk] at hb; cases hb
    | true =>
      rw [hk, cond_true] at hb
      obtain ⟨x, hx, hg⟩ := hs_at hh hc
      match x, hx, hg with
      | .inl (t2, len2, .inl g), hx, hg =>
        obtain ⟨rfl, rfl, hall⟩ := hg
        have e : ld h a k = some (.int (g k)) := by unfold ld; rw [hx]
        have e2 : gi h a k = g k := by unfold gi; rw [e]
        rw [e2]
        exact ⟨e, hall k q.1 q.2 hb⟩
  · rename_i c fs hc
    split at hb
    · rename_i q' hf
      cases hb
      obtain ⟨x, hx, hg⟩ := hs_at hh hc
      match x, hx, hg with
      | .inr (cq, vs), hx, hg =>
        obtain ⟨rfl, hlen, hall⟩ := hg
        have hl : k < fs.length := (List.getElem?_eq_some_iff.mp hf).1
        have hl' : k < vs.length := by omega
        have hv := hall k _ _ hf (List.getElem?_eq_getElem hl')
        have e0 : vs[k]? = some vs[k] := List.getElem?_eq_getElem hl'
        generalize vs[k] = v at hv e0
        cases v with
        | int y =>
          have e : ld h a k = some (.int y) := by unfold ld; rw [hx]; exact e0
          have e2 : gi h a k = y := by unfold gi; rw [e]
          rw [e2]
          exact ⟨e, hv⟩
        | _ => exact hv.elim
    · cases hb
  · cases hb
theorem pt_all {h : pm_H} {a k : Nat} {q : Int × Int} {v : Int32} (hh : HH h) (hb : bd a k = some q) (h1 : q.1 ≤ v.toInt) (h2 : v.toInt ≤ q.2) : HH (pt h a k v) ∧ ld (pt h a k v) a k = some (.int v) ∧ ∀ b j, (b = a → j ≠ k) → ld (pt h a k v) b j = ld h b j := by
  unfold bd at hb
  split at hb
  · rename_i t len p hc
    cases hk : Nat.blt k len with
    | false => rw [hk] at hb; cases hb
    | true =>
      rw [hk, cond_true] at hb
      obtain ⟨x, hx, hg⟩ := hs_at hh hc
      match x, hx, hg with
      | .inl (t2, len2, .inl g), hx, hg =>
        obtain ⟨rfl, rfl, hall⟩ := hg
        have hl : a < h.length := (List.getElem?_eq_some_iff.mp hx).1
        have e : pt h a k v = h.set a (.inl (t2, len2, .inl (upd g k v))) := by unfold pt; rw [hx]
        rw [e]
        refine ⟨hs_set hh hc ⟨rfl, rfl, fun j lo hi hj => ?_⟩, ?_, fun b j hbj => ld_seti hx hbj⟩
        · unfold upd
          by_cases hjk : j = k
          · subst hjk
            rw [hb] at hj
            cases hj
            rw [if_pos rfl]
            exact ⟨h1, h2⟩
          · rw [if_neg hjk]
            exact hall j lo hi hj
        · unfold ld
          rw [List.getElem?_set_self hl]
          simp only [upd, if_pos]
  · rename_i c fs hc
    split at hb
    · rename_i q' hf
      cases hb
      obtain ⟨x, hx, hg⟩ := hs_at hh hc
      match x, hx, hg with
      | .inr (cq, vs), hx, hg =>
        obtain ⟨rfl, hlen, hall⟩ := hg
        have hl : k < fs.length := (List.getElem?_eq_some_iff.mp hf).1
        have hl' : k < vs.length := by omega
        have hla : a < h.length := (List.getElem?_eq_some_iff.mp hx).1
        have e : pt h a k v = h.set a (.inr (cq, vs.set k (.int v))) := by unfold pt; rw [hx]
        rw [e]
        refine ⟨hs_set hh hc ⟨rfl, by rw [List.length_set]; exact hlen, fun q c y h3 h4 => ?_⟩, ?_, fun b j hbj => ld_setf hx hbj⟩
        · by_cases hq : k = q
          · subst hq
            rw [List.getElem?_set_self hl'] at h4
            cases h4
            rw [hf] at h3
            cases h3
            exact ⟨h1, h2⟩
          · rw [List.getElem?_set_ne hq] at h4
            exact hall q c y h3 h4
        · unfold ld
          rw [List.getElem?_set_self hla]
          simp only [List.getElem?_set_self hl']
    · cases hb
  · cases hb
end
