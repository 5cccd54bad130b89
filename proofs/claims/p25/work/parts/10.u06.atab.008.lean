section
theorem HH_pt {h : pm_H} {a k : Nat} {q : Int × Int} {v : Int32} (hh : HH h) (hb : bd a k = some q) (h1 : q.1 ≤ v.toInt) (h2 : v.toInt ≤ q.2) : HH (pt h a k v) := (pt_all hh hb h1 h2).1
theorem gi_pt {h : pm_H} {a k : Nat} {q : Int × Int} {v : Int32} (hh : HH h) (hb : bd a k = some q) (h1 : q.1 ≤ v.toInt) (h2 : v.toInt ≤ q.2) : gi (pt h a k v) a k = v := by
  unfold gi
  rw [(pt_all hh hb h1 h2).2.1]
theorem ld_pt {h : pm_H} {a k : Nat} {v : Int32} {b j : Nat} (hbj : b = a → j ≠ k) : ld (pt h a k v) b j = ld h b j := by
  unfold pt
  split
  · rename_i hx; exact ld_seti hx hbj
  · rename_i hx; exact ld_setf hx hbj
  · rfl
theorem gi_ne {h : pm_H} {a k : Nat} {v : Int32} {b j : Nat} (hbj : b = a → j ≠ k) : gi (pt h a k v) b j = gi h b j := by
  unfold gi
  rw [ld_pt hbj]
theorem gn_ne {h : pm_H} {a k : Nat} {v : Int32} {b j : Nat} (hbj : b = a → j ≠ k) : gn (pt h a k v) b j = gn h b j := by
  unfold gn
  rw [gi_ne hbj]
/-- a place that holds no number below 0 -/
theorem gi_gn {h : pm_H} {a k : Nat} {q : Int × Int} (hh : HH h) (hb : bd a k = some q) (h0 : 0 ≤ q.1) : gi h a k = nJ (gn h a k) := nJ_of (by have := (ld_gi hh hb).2.1; omega)
theorem gn_le {h : pm_H} {a k : Nat} {q : Int × Int} (hh : HH h) (hb : bd a k = some q) : (gn h a k : Int) ≤ q.2 ∨ gn h a k = 0 := by
  have := (ld_gi hh hb).2.2
  unfold gn
  omega
theorem gn_of {h : pm_H} {a k n : Nat} (e : gi h a k = nJ n) (hn : n < 2147483648) : gn h a k = n := by
  unfold gn
  rw [e, nJ_toInt hn]
  omega
/-- arrays with the same bounds everywhere -/
theorem bd_u {a k len t : Nat} {lo hi : Int} (hc : hs0[a]? = some (.inl (t, len, [(lo, hi)]))) (hk : k < len) : bd a k = some (lo, hi) := by
  unfold bd
  rw [hc]
  dsimp only
  rw [show Nat.blt k len = true from Nat.ble_eq_true_of_le hk, cond_true]
  unfold pat_at
  rw [show k % [(lo, hi)].length = 0 from Nat.mod_one k]
  rfl
/-- a run ends so -/
noncomputable def Ends (look : Nat → Option pm_I) (call : pm_Call) (σ : pm_S) (Q : pm_H → Option Value → Prop) : Prop := ∃ h' r, pm_Go look call σ (h', r) ∧ Q h' r
/-- a method's run ends so -/
noncomputable def Sp (d y : Nat) (h : pm_H) (as : List Value) (Q : pm_H → Option Value → Prop) : Prop := ∃ h' r, pm_Rt pm_P d y h as h' r ∧ Q h' r
theorem Sp_mono {d y : Nat} {h : pm_H} {as : List Value} {Q Q' : pm_H → Option Value → Prop} (hq : ∀ h' r, Q h' r → Q' h' r) (k : Sp d y h as Q) : Sp d y h as Q' := by
  obtain ⟨h', r, a, b⟩ := k
  exact ⟨h', r, a, hq _ _ b⟩
theorem Sp_up {d y : Nat} {h : pm_H} {as : List Value} {Q : pm_H → Option Value → Prop} (k : Sp d y h as Q) : ∀ e : Nat, Sp (d + e) y h as Q
  | 0 => k
  | e + 1 => by
    obtain ⟨h', r, a, b⟩ := Sp_up k e
    exact ⟨h', r, pm_Rt_up _ _ _ _ _ _ a, b⟩
theorem Sp_le {d e y : Nat} {h : pm_H} {as : List Value} {Q : pm_H → Option Value → Prop} (hde : d ≤ e) (k : Sp d y h as Q) : Sp e y h as Q := by
  have := Sp_up k (e - d)
  rw [show d + (e - d) = e by omega] at this
  exact this
theorem Ends_mono {look : Nat → Option pm_I} {call : pm_Call} {σ : pm_S} {Q Q' : pm_H → Option Value → Prop} (hq : ∀ h' r, Q h' r → Q' h' r) (k : Ends look call σ Q) : Ends look call σ Q' := by
  obtain ⟨h', r, a, b⟩ := k
  exact ⟨h', r, a, hq _ _ b⟩
theorem Sp_of {d y : Nat} {h : pm_H} {as : List Value} {Q : pm_H → Option Value → Prop} {I : pm_M} (hI : pm_at pm_P y = some I) (hl : Nat.ble (lg_sl as).length I.2.2.1 = true) (hc : I.2.2.2.2.2.1 = 0) (hs : I.2.2.2.2.2.2.1 = 0) (k : Ends (pm_at I.2.2.2.2.2.2.2) (pm_Rt pm_P d) (0, lv_args 0 as, [], h, 0, 0) Q) : Sp (d + 1) y h as Q := by
  obtain ⟨h', r, a, b⟩ := k
  refine ⟨h', r, ⟨I, hI, Nat.le_of_ble_eq_true hl, ?_⟩, b⟩
  rw [hc, hs]
  exact a
section ENDS
variable {look : Nat → Option pm_I} {call : pm_Call} {Q : pm_H → Option Value → Prop} {pc n i t : Nat} {lv : List (Nat × Value)} {st : List Value} {w : pm_H × Nat × Nat} {h : pm_H} {z : Nat × Nat}
theorem E_st {σ σ' : pm_S} {f : pm_S → Option pm_S} (h1 : look σ.1 = some (.inl f)) (h2 : f σ = some σ') (k : Ends look call σ' Q) : Ends look call σ Q := by
  obtain ⟨h', r, a, b⟩ := k
  exact ⟨h', r, Go_st h1 h2 a, b⟩
theorem E_c {v : Value} (h1 : look pc = some (.inl (s_const v n))) (k : Ends look call (n, lv, v :: st, w) Q) : Ends look call (pc, lv, st, w) Q := E_st h1 rfl k
theorem E_ci {c : Int32} (m : Nat) (h1 : look pc = some (.inl (s_const (.int c) n))) (e : c = nJ m) (k : Ends look call (n, lv, .int (nJ m) :: st, w) Q) : Ends look call (pc, lv, st, w) Q := by
  subst e; exact E_st h1 rfl k
theorem E_il {x : Int32} (h1 : look pc = some (.inl (s_il i n))) (e : pm_get lv i = some (.int x)) (k : Ends look call (n, lv, .int x :: st, w) Q) : Ends look call (pc, lv, st, w) Q := E_st h1 (by simp only [s_il, e]) k
theorem E_al {x : Nat} (h1 : look pc = some (.inl (s_al i n))) (e : pm_get lv i = some (.ref x)) (k : Ends look call (n, lv, .ref x :: st, w) Q) : Ends look call (pc, lv, st, w) Q := E_st h1 (by simp only [s_al, e]) k
theorem gp_self {v : Value} : pm_get (pm_put1 i v lv) i = some v := pm_get_self
theorem gp_ne {v u : Value} {j : Nat} (hj : j ≠ i) (hc : u.category = 1) (e : pm_get lv j = some u) : pm_get (pm_put1 i v lv) j = some u := by
  unfold pm_put1
  refine pm_get_ne hj (pm_get_filter e ?_)
  simp only [Bool.and_eq_true, Bool.not_eq_true', Bool.and_eq_false_iff, beq_eq_false_iff_ne, hc]
  exact ⟨hj, .inr (by decide)⟩
theorem E_is {x : Int32} (h1 : look pc = some (.inl (s_is i n))) (k : ∀ lv' : List (Nat × Value), pm_get lv' i = some (.int x) → (∀ (j : Nat) (u : Value), j ≠ i → u.category = 1 → pm_get lv j = some u → pm_get lv' j = some u) → Ends look call (n, lv', st, w) Q) : Ends look call (pc, lv, .int x :: st, w) Q :=
  E_st h1 rfl (k (pm_put1 i (.int x) lv) gp_self (fun _ _ a b c => gp_ne a b c))
theorem E_inc {x d y : Int32} (h1 : look pc = some (.inl (s_inc i d n))) (e : pm_get lv i = some (.int x)) (ey : x + d = y) (k : ∀ lv' : List (Nat × Value), pm_get lv' i = some (.int y) → (∀ (j : Nat) (u : Value), j ≠ i → u.category = 1 → pm_get lv j = some u → pm_get lv' j = some u) → Ends look call (n, lv', st, w) Q) : Ends look call (pc, lv, st, w) Q := by
  subst ey
  exact E_st h1 (by simp only [s_inc, e]) (k (pm_put1 i (.int (x + d)) lv) gp_self (fun _ _ a b c => gp_ne a b c))
theorem E_bin {op : Int32 → Int32 → Int32} {x y v : Int32} (h1 : look pc = some (.inl (s_bin op n))) (e : op x y = v) (k : Ends look call (n, lv, .int v :: st, w) Q) : Ends look call (pc, lv, .int y :: .int x :: st, w) Q := by
  subst e; exact E_st h1 rfl k
theorem E_dup {x : Value} (h1 : look pc = some (.inl (s_dup n))) (e : x.category = 1) (k : Ends look call (n, lv, x :: x :: st, w) Q) : Ends look call (pc, lv, x :: st, w) Q := E_st h1 (by simp only [s_dup, e]; rfl) k
theorem E_dup2 {x y : Value} (h1 : look pc = some (.inl (s_dup2 n))) (e : x.category = 1) (e2 : y.category = 1) (k : Ends look call (n, lv, x :: y :: x :: y :: st, w) Q) : Ends look call (pc, lv, x :: y :: st, w) Q := E_st h1 (by simp only [s_dup2, e, e2]; rfl) k
theorem E_pop {x : Value} (h1 : look pc = some (.inl (s_pop n))) (e : x.category = 1) (k : Ends look call (n, lv, st, w) Q) : Ends look call (pc, lv, x :: st, w) Q := E_st h1 (by simp only [s_pop, e]; rfl) k
theorem E_goto (h1 : look pc = some (.inl (s_goto t))) (k : Ends look call (t, lv, st, w) Q) : Ends look call (pc, lv, st, w) Q := E_st h1 rfl k
theorem E_ifT {q : Int32 → Bool} {x : Int32} (h1 : look pc = some (.inl (s_if q t n))) (e : q x = true) (k : Ends look call (t, lv, st, w) Q) : Ends look call (pc, lv, .int x :: st, w) Q := E_st h1 (by simp only [s_if, e, cond_true]) k
theorem E_ifF {q : Int32 → Bool} {x : Int32} (h1 : look pc = some (.inl (s_if q t n))) (e : q x = false) (k : Ends look call (n, lv, st, w) Q) : Ends look call (pc, lv, .int x :: st, w) Q := E_st h1 (by simp only [s_if, e, cond_false]) k
theorem E_icT {q : Int32 → Int32 → Bool} {x y : Int32} (h1 : look pc = some (.inl (s_icmp q t n))) (e : q x y = true) (k : Ends look call (t, lv, st, w) Q) : Ends look call (pc, lv, .int y :: .int x :: st, w) Q := E_st h1 (by simp only [s_icmp, e, cond_true]) k
theorem E_icF {q : Int32 → Int32 → Bool} {x y : Int32} (h1 : look pc = some (.inl (s_icmp q t n))) (e : q x y = false) (k : Ends look call (n, lv, st, w) Q) : Ends look call (pc, lv, .int y :: .int x :: st, w) Q := E_st h1 (by simp only [s_icmp, e, cond_false]) k
/-- the model's object -/
noncomputable def fr77 (k : Nat) : Option Nat := match hs0[(77 : Nat)]? with
  | some (.inr (.inr (.inr (_, fs)))) => (match fs[k]? with | some (.inr (.inr (.inl q))) => some q | _ => none)
  | _ => none
theorem ob77 (hh : HH h) : ∃ vs : List Value, h[77]? = some (.inr (9, vs)) ∧ ∀ (k : Nat) (q : Nat), fr77 k = some q → vs[k]? = some (.ref q) := by
  cases hc : hs0[(77 : Nat)]? with
  | none => cases hc
  | some c =>
    have hc' := hc
    cases hc
    obtain ⟨x, hx, hg⟩ := hs_at hh hc'
    match x, hx, hg with
    | .inr (cq, vs), hx, hg =>
      obtain ⟨rfl, hlen, hall⟩ := hg
      refine ⟨vs, hx, fun k q hk => ?_⟩
      unfold fr77 at hk
      rw [hc'] at hk
      dsimp only at hk
      split at hk
      · rename_i q' hf
        cases hk
        have hl := (List.getElem?_eq_some_iff.mp hf).1
        have hl' : k < vs.length := Nat.lt_of_lt_of_eq hl hlen.symm
        have hv := hall k _ _ hf (List.getElem?_eq_getElem hl')
        rw [List.getElem?_eq_getElem hl']
        generalize vs[k] = v at hv
        cases v with
        | ref y => exact congrArg some (congrArg Value.ref hv)
        | _ => exact hv.elim
      · cases hk
theorem E_gr {k q : Nat} (h1 : look pc = some (.inl (s_getf 9 k n))) (hh : HH h) (e : fr77 k = some q) (kk : Ends look call (n, lv, .ref q :: st, h, z) Q) : Ends look call (pc, lv, .ref 77 :: st, h, z) Q := by
  obtain ⟨vs, hx, hv⟩ := ob77 hh
  refine E_st h1 ?_ kk
  simp only [s_getf, hx, hv k q e]
  rfl
theorem E_gf {k : Nat} {q : Int × Int} {v : Int32} (h1 : look pc = some (.inl (s_getf 9 k n))) (hh : HH h) (hb : bd 77 k = some q) (e : gi h 77 k = v) (kk : Ends look call (n, lv, .int v :: st, h, z) Q) : Ends look call (pc, lv, .ref 77 :: st, h, z) Q := by
  obtain ⟨vs, hx, hv⟩ := ob77 hh
  have h2 := (ld_gi hh hb).1
  have h3 : vs[k]? = some (.int v) := by
    unfold ld at h2
    rw [hx, e] at h2
    exact h2
  refine E_st h1 ?_ kk
  simp only [s_getf, hx, h3]
  rfl
theorem ar_of {a t len : Nat} {p : List (Int × Int)} (hh : HH h) (hc : hs0[a]? = some (.inl (t, len, p))) : ∃ f : Nat → Int32, h[a]? = some (.inl (t, len, .inl f)) ∧ ∀ k, gi h a k = f k := by
  obtain ⟨x, hx, hg⟩ := hs_at hh hc
  match x, hx, hg with
  | .inl (t2, len2, .inl g), hx, hg =>
    obtain ⟨rfl, rfl, -⟩ := hg
    exact ⟨g, hx, fun k => by unfold gi ld; rw [hx]⟩
end ENDS
end
