/-! THE HAND: numbers, places of memory, rows by their lemmas; a run that ends so (hand proofs over the pure machine) -/
noncomputable abbrev HH (h : pm_H) : Prop := hs_g hs0 h
noncomputable def nJ (n : Nat) : Int32 := Int32.ofInt n
theorem nJ_toInt {n : Nat} (h : n < 2147483648) : (nJ n).toInt = n := Int32.toInt_ofInt_of_le (by omega) (by omega)
theorem nJ_add (a b : Nat) : nJ a + nJ b = nJ (a + b) := by
  unfold nJ
  rw [← Int32.ofInt_add]
  rfl
theorem nJ_sub {a b : Nat} (h : b ≤ a) : nJ a - nJ b = nJ (a - b) := by
  unfold nJ
  rw [← Int32.ofInt_sub, Int.ofNat_sub h]
theorem nJ_of {x : Int32} (h : 0 ≤ x.toInt) : x = nJ x.toInt.toNat := by
  apply Int32.toInt_inj.mp
  have := ai_hi x
  rw [nJ_toInt (by omega)]
  omega
theorem nJ_lt {a b : Nat} (ha : a < 2147483648) (hb : b < 2147483648) : nJ a < nJ b ↔ a < b := by
  rw [Int32.lt_iff_toInt_lt, nJ_toInt ha, nJ_toInt hb]; omega
theorem nJ_le {a b : Nat} (ha : a < 2147483648) (hb : b < 2147483648) : nJ a ≤ nJ b ↔ a ≤ b := by
  rw [Int32.le_iff_toInt_le, nJ_toInt ha, nJ_toInt hb]; omega
theorem nJ_eq {a b : Nat} (ha : a < 2147483648) (hb : b < 2147483648) : nJ a = nJ b ↔ a = b := by
  rw [← Int32.toInt_inj, nJ_toInt ha, nJ_toInt hb]; omega
noncomputable def gi (h : pm_H) (a k : Nat) : Int32 := match ld h a k with | some (.int x) => x | _ => 0
noncomputable def gn (h : pm_H) (a k : Nat) : Nat := (gi h a k).toInt.toNat
/-- bounds of a place -/
noncomputable def bd (a k : Nat) : Option (Int × Int) := match hs0[a]? with
  | some (.inl (_, len, p)) => bif Nat.blt k len then pat_at p k else none
  | some (.inr (.inr (.inr (_, fs)))) => (match fs[k]? with | some (.inl q) => some q | _ => none)
  | _ => none
/-- a store -/
noncomputable def pt (h : pm_H) (a k : Nat) (v : Int32) : pm_H := match h[a]? with
  | some (.inl (t, len, .inl f)) => h.set a (.inl (t, len, .inl (upd f k v)))
  | some (.inr (c, fs)) => h.set a (.inr (c, fs.set k (.int v)))
  | _ => h
theorem ld_gi {h : pm_H} {a k : Nat} {q : Int × Int} (hh : HH h) (hb : bd a k = some q) : ld h a k = some (.int (gi h a k)) ∧ q.1 ≤ (gi h a k).toInt ∧ (gi h a k).toInt ≤ q.2 := by
  unfold bd at hb
  split at hb
  · rename_i t len p hc
    cases hk : Nat.blt k len with
    | false => rw [hk] at hb; cases hb
    | true =>
      rw [hk, cond_true] at hb
      obtain ⟨x, hx, hg⟩ := hs_at hh hc
      match x, hx, hg with
      | .inl (t2, len2, .inl g), hx, hg =>
        obtain ⟨rfl, rfl, hall⟩ := hg
        have e : ld h a k = some (.int (g k)) := by unfold ld; rw [hx]
        have e2 : gi h a k = g k := by unfold gi; rw [e]
        rw [e2]
        exact ⟨e, hall k q.1 q.2 hb⟩
  · rename_i c fs hc
    split at hb
    · rename_i q' hf
      cases hb
      obtain ⟨x, hx, hg⟩ := hs_at hh hc
      match x, hx, hg with
      | .inr (cq, vs), hx, hg =>
        obtain ⟨rfl, hlen, hall⟩ := hg
        have hl : k < fs.length := (List.getElem?_eq_some_iff.mp hf).1
        have hl' : k < vs.length := by omega
        have hv := hall k _ _ hf (List.getElem?_eq_getElem hl')
        have e0 : vs[k]? = some vs[k] := List.getElem?_eq_getElem hl'
        generalize vs[k] = v at hv e0
        cases v with
        | int y =>
          have e : ld h a k = some (.int y) := by unfold ld; rw [hx]; exact e0
          have e2 : gi h a k = y := by unfold gi; rw [e]
          rw [e2]
          exact ⟨e, hv⟩
        | _ => exact hv.elim
    · cases hb
  · cases hb
theorem pt_all {h : pm_H} {a k : Nat} {q : Int × Int} {v : Int32} (hh : HH h) (hb : bd a k = some q) (h1 : q.1 ≤ v.toInt) (h2 : v.toInt ≤ q.2) : HH (pt h a k v) ∧ ld (pt h a k v) a k = some (.int v) ∧ ∀ b j, (b = a → j ≠ k) → ld (pt h a k v) b j = ld h b j := by
  unfold bd at hb
  split at hb
  · rename_i t len p hc
    cases hk : Nat.blt k len with
    | false => rw [hk] at hb; cases hb
    | true =>
      rw [hk, cond_true] at hb
      obtain ⟨x, hx, hg⟩ := hs_at hh hc
      match x, hx, hg with
      | .inl (t2, len2, .inl g), hx, hg =>
        obtain ⟨rfl, rfl, hall⟩ := hg
        have hl : a < h.length := (List.getElem?_eq_some_iff.mp hx).1
        have e : pt h a k v = h.set a (.inl (t2, len2, .inl (upd g k v))) := by unfold pt; rw [hx]
        rw [e]
        refine ⟨hs_set hh hc ⟨rfl, rfl, fun j lo hi hj => ?_⟩, ?_, fun b j hbj => ld_seti hx hbj⟩
        · unfold upd
          by_cases hjk : j = k
          · subst hjk
            rw [hb] at hj
            cases hj
            rw [if_pos rfl]
            exact ⟨h1, h2⟩
          · rw [if_neg hjk]
            exact hall j lo hi hj
        · unfold ld
          rw [List.getElem?_set_self hl]
          simp only [upd, if_pos]
  · rename_i c fs hc
    split at hb
    · rename_i q' hf
      cases hb
      obtain ⟨x, hx, hg⟩ := hs_at hh hc
      match x, hx, hg with
      | .inr (cq, vs), hx, hg =>
        obtain ⟨rfl, hlen, hall⟩ := hg
        have hl : k < fs.length := (List.getElem?_eq_some_iff.mp hf).1
        have hl' : k < vs.length := by omega
        have hla : a < h.length := (List.getElem?_eq_some_iff.mp hx).1
        have e : pt h a k v = h.set a (.inr (cq, vs.set k (.int v))) := by unfold pt; rw [hx]
        rw [e]
        refine ⟨hs_set hh hc ⟨rfl, by rw [List.length_set]; exact hlen, fun q c y h3 h4 => ?_⟩, ?_, fun b j hbj => ld_setf hx hbj⟩
        · by_cases hq : k = q
          · subst hq
            rw [List.getElem?_set_self hl'] at h4
            cases h4
            rw [hf] at h3
            cases h3
            exact ⟨h1, h2⟩
          · rw [List.getElem?_set_ne hq] at h4
            exact hall q c y h3 h4
        · unfold ld
          rw [List.getElem?_set_self hla]
          simp only [List.getElem?_set_self hl']
    · cases hb
  · cases hb
theorem HH_pt {h : pm_H} {a k : Nat} {q : Int × Int} {v : Int32} (hh : HH h) (hb : bd a k = some q) (h1 : q.1 ≤ v.toInt) (h2 : v.toInt ≤ q.2) : HH (pt h a k v) := (pt_all hh hb h1 h2).1
theorem gi_pt {h : pm_H} {a k : Nat} {q : Int × Int} {v : Int32} (hh : HH h) (hb : bd a k = some q) (h1 : q.1 ≤ v.toInt) (h2 : v.toInt ≤ q.2) : gi (pt h a k v) a k = v := by
  unfold gi
  rw [(pt_all hh hb h1 h2).2.1]
theorem ld_pt {h : pm_H} {a k : Nat} {v : Int32} {b j : Nat} (hbj : b = a → j ≠ k) : ld (pt h a k v) b j = ld h b j := by
  unfold pt
  split
  · rename_i hx; exact ld_seti hx hbj
  · rename_i hx; exact ld_setf hx hbj
  · rfl
theorem gi_ne {h : pm_H} {a k : Nat} {v : Int32} {b j : Nat} (hbj : b = a → j ≠ k) : gi (pt h a k v) b j = gi h b j := by
  unfold gi
  rw [ld_pt hbj]
theorem gn_ne {h : pm_H} {a k : Nat} {v : Int32} {b j : Nat} (hbj : b = a → j ≠ k) : gn (pt h a k v) b j = gn h b j := by
  unfold gn
  rw [gi_ne hbj]
/-- a place that holds no number below 0 -/
theorem gi_gn {h : pm_H} {a k : Nat} {q : Int × Int} (hh : HH h) (hb : bd a k = some q) (h0 : 0 ≤ q.1) : gi h a k = nJ (gn h a k) := nJ_of (by have := (ld_gi hh hb).2.1; omega)
theorem gn_le {h : pm_H} {a k : Nat} {q : Int × Int} (hh : HH h) (hb : bd a k = some q) : (gn h a k : Int) ≤ q.2 ∨ gn h a k = 0 := by
  have := (ld_gi hh hb).2.2
  unfold gn
  omega
theorem gn_of {h : pm_H} {a k n : Nat} (e : gi h a k = nJ n) (hn : n < 2147483648) : gn h a k = n := by
  unfold gn
  rw [e, nJ_toInt hn]
  omega
/-- arrays with the same bounds everywhere -/
theorem bd_u {a k len t : Nat} {lo hi : Int} (hc : hs0[a]? = some (.inl (t, len, [(lo, hi)]))) (hk : k < len) : bd a k = some (lo, hi) := by
  unfold bd
  rw [hc]
  dsimp only
  rw [show Nat.blt k len = true from Nat.ble_eq_true_of_le hk, cond_true]
  unfold pat_at
  rw [show k % [(lo, hi)].length = 0 from Nat.mod_one k]
  rfl
/-- a run ends so -/
noncomputable def Ends (look : Nat → Option pm_I) (call : pm_Call) (σ : pm_S) (Q : pm_H → Option Value → Prop) : Prop := ∃ h' r, pm_Go look call σ (h', r) ∧ Q h' r
/-- a method's run ends so -/
noncomputable def Sp (d y : Nat) (h : pm_H) (as : List Value) (Q : pm_H → Option Value → Prop) : Prop := ∃ h' r, pm_Rt pm_P d y h as h' r ∧ Q h' r
theorem Sp_mono {d y : Nat} {h : pm_H} {as : List Value} {Q Q' : pm_H → Option Value → Prop} (hq : ∀ h' r, Q h' r → Q' h' r) (k : Sp d y h as Q) : Sp d y h as Q' := by
  obtain ⟨h', r, a, b⟩ := k
  exact ⟨h', r, a, hq _ _ b⟩
theorem Sp_up {d y : Nat} {h : pm_H} {as : List Value} {Q : pm_H → Option Value → Prop} (k : Sp d y h as Q) : ∀ e : Nat, Sp (d + e) y h as Q
  | 0 => k
  | e + 1 => by
    obtain ⟨h', r, a, b⟩ := Sp_up k e
    exact ⟨h', r, pm_Rt_up _ _ _ _ _ _ a, b⟩
theorem Sp_le {d e y : Nat} {h : pm_H} {as : List Value} {Q : pm_H → Option Value → Prop} (hde : d ≤ e) (k : Sp d y h as Q) : Sp e y h as Q := by
  have := Sp_up k (e - d)
  rw [show d + (e - d) = e by omega] at this
  exact this
theorem Ends_mono {look : Nat → Option pm_I} {call : pm_Call} {σ : pm_S} {Q Q' : pm_H → Option Value → Prop} (hq : ∀ h' r, Q h' r → Q' h' r) (k : Ends look call σ Q) : Ends look call σ Q' := by
  obtain ⟨h', r, a, b⟩ := k
  exact ⟨h', r, a, hq _ _ b⟩
theorem Sp_of {d y : Nat} {h : pm_H} {as : List Value} {Q : pm_H → Option Value → Prop} {I : pm_M} (hI : pm_at pm_P y = some I) (hl : Nat.ble (lg_sl as).length I.2.2.1 = true) (hc : I.2.2.2.2.2.1 = 0) (hs : I.2.2.2.2.2.2.1 = 0) (k : Ends (pm_at I.2.2.2.2.2.2.2) (pm_Rt pm_P d) (0, lv_args 0 as, [], h, 0, 0) Q) : Sp (d + 1) y h as Q := by
  obtain ⟨h', r, a, b⟩ := k
  refine ⟨h', r, ⟨I, hI, Nat.le_of_ble_eq_true hl, ?_⟩, b⟩
  rw [hc, hs]
  exact a
section ENDS
variable {look : Nat → Option pm_I} {call : pm_Call} {Q : pm_H → Option Value → Prop} {pc n i t : Nat} {lv : List (Nat × Value)} {st : List Value} {w : pm_H × Nat × Nat} {h : pm_H} {z : Nat × Nat}
theorem E_st {σ σ' : pm_S} {f : pm_S → Option pm_S} (h1 : look σ.1 = some (.inl f)) (h2 : f σ = some σ') (k : Ends look call σ' Q) : Ends look call σ Q := by
  obtain ⟨h', r, a, b⟩ := k
  exact ⟨h', r, Go_st h1 h2 a, b⟩
theorem E_c {v : Value} (h1 : look pc = some (.inl (s_const v n))) (k : Ends look call (n, lv, v :: st, w) Q) : Ends look call (pc, lv, st, w) Q := E_st h1 rfl k
theorem E_ci {c : Int32} (m : Nat) (h1 : look pc = some (.inl (s_const (.int c) n))) (e : c = nJ m) (k : Ends look call (n, lv, .int (nJ m) :: st, w) Q) : Ends look call (pc, lv, st, w) Q := by
  subst e; exact E_st h1 rfl k
theorem E_il {x : Int32} (h1 : look pc = some (.inl (s_il i n))) (e : pm_get lv i = some (.int x)) (k : Ends look call (n, lv, .int x :: st, w) Q) : Ends look call (pc, lv, st, w) Q := E_st h1 (by simp only [s_il, e]) k
theorem E_al {x : Nat} (h1 : look pc = some (.inl (s_al i n))) (e : pm_get lv i = some (.ref x)) (k : Ends look call (n, lv, .ref x :: st, w) Q) : Ends look call (pc, lv, st, w) Q := E_st h1 (by simp only [s_al, e]) k
theorem gp_self {v : Value} : pm_get (pm_put1 i v lv) i = some v := pm_get_self
theorem gp_ne {v u : Value} {j : Nat} (hj : j ≠ i) (hc : u.category = 1) (e : pm_get lv j = some u) : pm_get (pm_put1 i v lv) j = some u := by
  unfold pm_put1
  refine pm_get_ne hj (pm_get_filter e ?_)
  simp only [Bool.and_eq_true, Bool.not_eq_true', Bool.and_eq_false_iff, beq_eq_false_iff_ne, hc]
  exact ⟨hj, .inr (by decide)⟩
theorem E_is {x : Int32} (h1 : look pc = some (.inl (s_is i n))) (k : ∀ lv' : List (Nat × Value), pm_get lv' i = some (.int x) → (∀ (j : Nat) (u : Value), j ≠ i → u.category = 1 → pm_get lv j = some u → pm_get lv' j = some u) → Ends look call (n, lv', st, w) Q) : Ends look call (pc, lv, .int x :: st, w) Q :=
  E_st h1 rfl (k (pm_put1 i (.int x) lv) gp_self (fun _ _ a b c => gp_ne a b c))
theorem E_inc {x d y : Int32} (h1 : look pc = some (.inl (s_inc i d n))) (e : pm_get lv i = some (.int x)) (ey : x + d = y) (k : ∀ lv' : List (Nat × Value), pm_get lv' i = some (.int y) → (∀ (j : Nat) (u : Value), j ≠ i → u.category = 1 → pm_get lv j = some u → pm_get lv' j = some u) → Ends look call (n, lv', st, w) Q) : Ends look call (pc, lv, st, w) Q := by
  subst ey
  exact E_st h1 (by simp only [s_inc, e]) (k (pm_put1 i (.int (x + d)) lv) gp_self (fun _ _ a b c => gp_ne a b c))
theorem E_bin {op : Int32 → Int32 → Int32} {x y v : Int32} (h1 : look pc = some (.inl (s_bin op n))) (e : op x y = v) (k : Ends look call (n, lv, .int v :: st, w) Q) : Ends look call (pc, lv, .int y :: .int x :: st, w) Q := by
  subst e; exact E_st h1 rfl k
theorem E_dup {x : Value} (h1 : look pc = some (.inl (s_dup n))) (e : x.category = 1) (k : Ends look call (n, lv, x :: x :: st, w) Q) : Ends look call (pc, lv, x :: st, w) Q := E_st h1 (by simp only [s_dup, e]; rfl) k
theorem E_dup2 {x y : Value} (h1 : look pc = some (.inl (s_dup2 n))) (e : x.category = 1) (e2 : y.category = 1) (k : Ends look call (n, lv, x :: y :: x :: y :: st, w) Q) : Ends look call (pc, lv, x :: y :: st, w) Q := E_st h1 (by simp only [s_dup2, e, e2]; rfl) k
theorem E_pop {x : Value} (h1 : look pc = some (.inl (s_pop n))) (e : x.category = 1) (k : Ends look call (n, lv, st, w) Q) : Ends look call (pc, lv, x :: st, w) Q := E_st h1 (by simp only [s_pop, e]; rfl) k
theorem E_goto (h1 : look pc = some (.inl (s_goto t))) (k : Ends look call (t, lv, st, w) Q) : Ends look call (pc, lv, st, w) Q := E_st h1 rfl k
theorem E_ifT {q : Int32 → Bool} {x : Int32} (h1 : look pc = some (.inl (s_if q t n))) (e : q x = true) (k : Ends look call (t, lv, st, w) Q) : Ends look call (pc, lv, .int x :: st, w) Q := E_st h1 (by simp only [s_if, e, cond_true]) k
theorem E_ifF {q : Int32 → Bool} {x : Int32} (h1 : look pc = some (.inl (s_if q t n))) (e : q x = false) (k : Ends look call (n, lv, st, w) Q) : Ends look call (pc, lv, .int x :: st, w) Q := E_st h1 (by simp only [s_if, e, cond_false]) k
theorem E_icT {q : Int32 → Int32 → Bool} {x y : Int32} (h1 : look pc = some (.inl (s_icmp q t n))) (e : q x y = true) (k : Ends look call (t, lv, st, w) Q) : Ends look call (pc, lv, .int y :: .int x :: st, w) Q := E_st h1 (by simp only [s_icmp, e, cond_true]) k
theorem E_icF {q : Int32 → Int32 → Bool} {x y : Int32} (h1 : look pc = some (.inl (s_icmp q t n))) (e : q x y = false) (k : Ends look call (n, lv, st, w) Q) : Ends look call (pc, lv, .int y :: .int x :: st, w) Q := E_st h1 (by simp only [s_icmp, e, cond_false]) k
/-- the model's object -/
noncomputable def fr77 (k : Nat) : Option Nat := match hs0[(77 : Nat)]? with
  | some (.inr (.inr (.inr (_, fs)))) => (match fs[k]? with | some (.inr (.inr (.inl q))) => some q | _ => none)
  | _ => none
theorem ob77 (hh : HH h) : ∃ vs : List Value, h[77]? = some (.inr (9, vs)) ∧ ∀ (k : Nat) (q : Nat), fr77 k = some q → vs[k]? = some (.ref q) := by
  cases hc : hs0[(77 : Nat)]? with
  | none => cases hc
  | some c =>
    have hc' := hc
    cases hc
    obtain ⟨x, hx, hg⟩ := hs_at hh hc'
    match x, hx, hg with
    | .inr (cq, vs), hx, hg =>
      obtain ⟨rfl, hlen, hall⟩ := hg
      refine ⟨vs, hx, fun k q hk => ?_⟩
      unfold fr77 at hk
      rw [hc'] at hk
      dsimp only at hk
      split at hk
      · rename_i q' hf
        cases hk
        have hl := (List.getElem?_eq_some_iff.mp hf).1
        have hl' : k < vs.length := Nat.lt_of_lt_of_eq hl hlen.symm
        have hv := hall k _ _ hf (List.getElem?_eq_getElem hl')
        rw [List.getElem?_eq_getElem hl']
        generalize vs[k] = v at hv
        cases v with
        | ref y => exact congrArg some (congrArg Value.ref hv)
        | _ => exact hv.elim
      · cases hk
theorem E_gr {k q : Nat} (h1 : look pc = some (.inl (s_getf 9 k n))) (hh : HH h) (e : fr77 k = some q) (kk : Ends look call (n, lv, .ref q :: st, h, z) Q) : Ends look call (pc, lv, .ref 77 :: st, h, z) Q := by
  obtain ⟨vs, hx, hv⟩ := ob77 hh
  refine E_st h1 ?_ kk
  simp only [s_getf, hx, hv k q e]
  rfl
theorem E_gf {k : Nat} {q : Int × Int} {v : Int32} (h1 : look pc = some (.inl (s_getf 9 k n))) (hh : HH h) (hb : bd 77 k = some q) (e : gi h 77 k = v) (kk : Ends look call (n, lv, .int v :: st, h, z) Q) : Ends look call (pc, lv, .ref 77 :: st, h, z) Q := by
  obtain ⟨vs, hx, hv⟩ := ob77 hh
  have h2 := (ld_gi hh hb).1
  have h3 : vs[k]? = some (.int v) := by
    unfold ld at h2
    rw [hx, e] at h2
    exact h2
  refine E_st h1 ?_ kk
  simp only [s_getf, hx, h3]
  rfl
theorem ar_of {a t len : Nat} {p : List (Int × Int)} (hh : HH h) (hc : hs0[a]? = some (.inl (t, len, p))) : ∃ f : Nat → Int32, h[a]? = some (.inl (t, len, .inl f)) ∧ ∀ k, gi h a k = f k := by
  obtain ⟨x, hx, hg⟩ := hs_at hh hc
  match x, hx, hg with
  | .inl (t2, len2, .inl g), hx, hg =>
    obtain ⟨rfl, rfl, -⟩ := hg
    exact ⟨g, hx, fun k => by unfold gi ld; rw [hx]⟩
theorem E_ial {a len j : Nat} {p : List (Int × Int)} {v : Int32} (h1 : look pc = some (.inl (s_iald n))) (hh : HH h) (hc : hs0[a]? = some (.inl (0, len, p))) (hj : j < len) (hj2 : len < 2147483648) (e : gi h a j = v) (kk : Ends look call (n, lv, .int v :: st, h, z) Q) : Ends look call (pc, lv, .int (nJ j) :: .ref a :: st, h, z) Q := by
  obtain ⟨f, hx, hf⟩ := ar_of hh hc
  have h2 := nJ_toInt (n := j) (by omega)
  have h3 : pm_ix (nJ j) len = true := ai_ix (by omega) (by omega)
  have h4 : (nJ j).toNatClampNeg = j := by show (nJ j).toInt.toNat = j; omega
  refine E_st h1 ?_ kk
  simp only [s_iald, hx, h3, h4, cond_true, ← hf, e]
theorem E_ias {a len j : Nat} {p : List (Int × Int)} {v : Int32} (h1 : look pc = some (.inl (s_iast n))) (hh : HH h) (hc : hs0[a]? = some (.inl (0, len, p))) (hj : j < len) (hj2 : len < 2147483648) (kk : Ends look call (n, lv, st, pt h a j v, z) Q) : Ends look call (pc, lv, .int v :: .int (nJ j) :: .ref a :: st, h, z) Q := by
  obtain ⟨f, hx, hf⟩ := ar_of hh hc
  have h2 := nJ_toInt (n := j) (by omega)
  have h3 : pm_ix (nJ j) len = true := ai_ix (by omega) (by omega)
  have h4 : (nJ j).toNatClampNeg = j := by show (nJ j).toInt.toNat = j; omega
  have h5 : pt h a j v = h.set a (.inl (0, len, .inl (upd f j v))) := by unfold pt; rw [hx]
  refine E_st h1 ?_ kk
  simp only [s_iast, hx, h3, h4, cond_true, h5]
theorem E_pf {k : Nat} {q : Int × Int} {v : Int32} (h1 : look pc = some (.inl (s_putf 9 k .int n))) (hh : HH h) (hb : bd 77 k = some q) (kk : Ends look call (n, lv, st, pt h 77 k v, z) Q) : Ends look call (pc, lv, .int v :: .ref 77 :: st, h, z) Q := by
  obtain ⟨vs, hx, hv⟩ := ob77 hh
  have h2 := (ld_gi hh hb).1
  have h3 : vs[k]? = some (.int (gi h 77 k)) := by
    unfold ld at h2
    rw [hx] at h2
    exact h2
  have h4 : Nat.blt k vs.length = true := Nat.ble_eq_true_of_le (List.getElem?_eq_some_iff.mp h3).1
  have h5 : pt h 77 k v = h.set 77 (.inr (9, vs.set k (.int v))) := by unfold pt; rw [hx]
  refine E_st h1 ?_ kk
  simp only [s_putf, hx, h4, h5]
  rfl
theorem E_ret (h1 : look pc = some (.inr (.inr 0))) (hq : Q h none) : Ends look call (pc, lv, [], h, z) Q := ⟨h, none, Go_ret h1 ⟨rfl, rfl⟩, hq⟩
theorem E_rti {v : Int32} (h1 : look pc = some (.inr (.inr 1))) (hq : Q h (some (.int v))) : Ends look call (pc, lv, [.int v], h, z) Q := ⟨h, some (.int v), Go_ret h1 ⟨v, rfl, rfl⟩, hq⟩
theorem E_rtz {v : Int32} (h1 : look pc = some (.inr (.inr 2))) (hv : v = 0 ∨ v = 1) (hq : Q h (some (.int v))) : Ends look call (pc, lv, [.int v], h, z) Q := ⟨h, some (.int v), Go_ret h1 ⟨v, rfl, hv, rfl⟩, hq⟩
theorem chk77 {k : Nat} {as : List Value} {z : Nat × Nat} (hh : HH h) (hl : Nat.ble k st.length = true) (e : (st.take k).reverse = .ref 77 :: as) (hs : pm_sz (st.drop k) ≤ 8) : pm_chk k (some 9) 0 0 st (h, z) := by
  obtain ⟨vs, hx, -⟩ := ob77 hh
  refine ⟨Nat.le_of_ble_eq_true hl, fun q hq => ?_, hs, Nat.zero_le _, Nat.zero_le _⟩
  cases hq
  exact ⟨fun _ => ⟨77, vs, as, e, hx⟩, fun h9 => absurd h9 (by decide)⟩
theorem chkS {k : Nat} {z : Nat × Nat} (hl : Nat.ble k st.length = true) (hs : pm_sz (st.drop k) ≤ 8) : pm_chk k none 0 0 st (h, z) :=
  ⟨Nat.le_of_ble_eq_true hl, fun q hq => (nomatch hq), hs, Nat.zero_le _, Nat.zero_le _⟩
/-- a call that ends so -/
theorem E_call {d : Nat} {y k : Nat} {ci : Option Nat} {R : pm_H → Option Value → Prop} (h1 : look pc = some (.inr (.inl (y, k, ci, 0, 0)))) (hc : Sp d y h (st.take k).reverse R) (h2 : pm_chk k ci 0 0 st (h, z)) (kk : ∀ h' r, R h' r → Ends look (pm_Rt pm_P d) (pc + 3, lv, r.toList ++ st.drop k, h', z) Q) : Ends look (pm_Rt pm_P d) (pc, lv, st, h, z) Q := by
  obtain ⟨h', r, a, b⟩ := hc
  obtain ⟨h'', r', c, e⟩ := kk h' r b
  exact ⟨h'', r', Go_call h1 a h2 c, e⟩
end ENDS
/-- small methods, as they answer -/
theorem sp_places {h : pm_H} {d : Nat} (hh : HH h) : Sp (d + 1) 325 h [.ref 77] (fun h' r => h' = h ∧ r = some (.int (nJ (gn h 84 0))) ∧ gn h 84 0 ≤ 8) := by
  have hb := gn_le (h := h) (a := 84) (k := 0) hh rfl
  refine Sp_of aiX9_places rfl rfl rfl ?_
  refine E_al rfl (x := 77) rfl ?_
  refine E_gr rfl hh (q := 84) rfl ?_
  refine E_ci 0 rfl (by decide) ?_
  refine E_ial rfl hh rfl (by decide) (by decide) (gi_gn hh rfl (by decide)) ?_
  exact E_rti rfl ⟨rfl, rfl, by omega⟩
theorem sp_cars {h : pm_H} {d : Nat} (hh : HH h) : Sp (d + 1) 224 h [.ref 77] (fun h' r => h' = h ∧ r = some (.int (nJ (gn h 84 3))) ∧ gn h 84 3 ≤ 8) := by
  have hb := gn_le (h := h) (a := 84) (k := 3) hh rfl
  refine Sp_of aiX9_cars rfl rfl rfl ?_
  refine E_al rfl (x := 77) rfl ?_
  refine E_gr rfl hh (q := 84) rfl ?_
  refine E_ci 3 rfl (by decide) ?_
  refine E_ial rfl hh rfl (by decide) (by decide) (gi_gn hh rfl (by decide)) ?_
  exact E_rti rfl ⟨rfl, rfl, by omega⟩
/-- a bit of a small number -/
noncomputable def isB (m k : Nat) : Bool := m / 2 ^ k % 2 == 1
theorem isB_tab : ∀ m : Fin 512, ∀ k : Fin 9, (nJ m.val >>> (nJ k.val &&& 31) &&& 1 = 1) ↔ isB m.val k.val = true := by decide +kernel
theorem sp_isBit {h : pm_H} {d m k : Nat} (hm : m < 512) (hk : k < 9) : Sp (d + 1) 265 h [.int (nJ m), .int (nJ k)] (fun h' r => h' = h ∧ r = some (.int (nJ (bif isB m k then 1 else 0)))) := by
  have ht := isB_tab ⟨m, hm⟩ ⟨k, hk⟩
  dsimp only at ht
  refine Sp_of aiX9_isBit rfl rfl rfl ?_
  refine E_il rfl (x := nJ m) rfl ?_
  refine E_il rfl (x := nJ k) rfl ?_
  refine E_bin rfl rfl ?_
  refine E_c rfl ?_
  refine E_bin rfl rfl ?_
  refine E_c rfl ?_
  cases hz : isB m k with
  | true =>
    refine E_icF rfl (decide_eq_false (fun hn => hn (ht.mpr hz))) ?_
    refine E_ci 1 rfl (by decide) ?_
    refine E_goto rfl ?_
    exact E_rtz rfl (.inr (by decide)) ⟨rfl, rfl⟩
  | false =>
    refine E_icT rfl (decide_eq_true (fun hn => by rw [ht.mp hn] at hz; cases hz)) ?_
    refine E_ci 0 rfl (by decide) ?_
    exact E_rtz rfl (.inl (by decide)) ⟨rfl, rfl⟩
theorem or_tab : ∀ m : Fin 512, ∀ k : Fin 9, nJ m.val ||| nJ 1 <<< (nJ k.val &&& 31) = nJ (bif isB m.val k.val then m.val else m.val + 2 ^ k.val) := by decide +kernel
theorem nJ_inc (a : Nat) : nJ a + 1 = nJ (a + 1) := nJ_add a 1
/-- a number less 1 -/
noncomputable def pI : Nat → Int32
  | 0 => -1
  | k + 1 => nJ k
theorem pI_of (n : Nat) : nJ n - nJ 1 = pI n := by
  cases n with
  | zero => decide
  | succ k => exact nJ_sub (Nat.le_add_left 1 k)
theorem pI_dec (n : Nat) : nJ n + (-1) = pI n := by
  rw [← pI_of]
  have h1 : nJ n = nJ n := rfl
  apply Int32.toInt_inj.mp
  rw [Int32.toInt_add, Int32.toInt_sub]
  rfl
theorem nJ_lt0 {a : Nat} (h : a < 2147483648) : ¬ nJ a < 0 := fun q => by
  have h1 := Int32.lt_iff_toInt_lt.mp q
  rw [nJ_toInt h] at h1
  have h2 : (0 : Int32).toInt = 0 := rfl
  omega
theorem nJ_ge0 {a : Nat} (h : a < 2147483648) : 0 ≤ nJ a := by
  rw [Int32.le_iff_toInt_le, nJ_toInt h]
  have h2 : (0 : Int32).toInt = 0 := rfl
  omega
theorem nJ_eq0 {a : Nat} (h : a < 2147483648) : nJ a = 0 ↔ a = 0 := nJ_eq (b := 0) h (by omega)
theorem nJ_le0 {a : Nat} (h : a < 2147483648) : nJ a ≤ 0 ↔ a = 0 := by
  have := nJ_le (b := 0) h (by omega)
  have h0 : nJ 0 = 0 := rfl
  rw [h0] at this
  exact this.trans (by omega)
theorem HH_ptn {h : pm_H} {a k v : Nat} {lo hi : Int} (hh : HH h) (hb : bd a k = some (lo, hi)) (hv : v < 2147483648) (h1 : lo ≤ (v : Int)) (h2 : (v : Int) ≤ hi) : HH (pt h a k (nJ v)) := HH_pt hh hb (by rw [nJ_toInt hv]; exact h1) (by rw [nJ_toInt hv]; exact h2)
theorem gn_ptn {h : pm_H} {a k v : Nat} {lo hi : Int} (hh : HH h) (hb : bd a k = some (lo, hi)) (hv : v < 2147483648) (h1 : lo ≤ (v : Int)) (h2 : (v : Int) ≤ hi) : gn (pt h a k (nJ v)) a k = v := gn_of (gi_pt hh hb (by rw [nJ_toInt hv]; exact h1) (by rw [nJ_toInt hv]; exact h2)) hv
theorem gn_hi {h : pm_H} {a k n : Nat} {lo hi : Int} (hh : HH h) (hb : bd a k = some (lo, hi)) (hn : hi = (n : Int)) : gn h a k ≤ n := by
  have := (ld_gi hh hb).2.2
  unfold gn
  dsimp only at this
  omega
