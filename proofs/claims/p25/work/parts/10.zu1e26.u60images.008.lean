section
theorem cm_bits : ∀ {c : Nat}, c ≤ 8 → (nJ 1 <<< (nJ c &&& 31)) - nJ 1 = nJ (2 ^ c - 1) := by
  intro c hc
  have : ∀ c : Fin 9, (nJ 1 <<< (nJ c.val &&& 31)) - nJ 1 = nJ (2 ^ c.val - 1) := by decide
  exact this ⟨c, by omega⟩
theorem sp_laysX {h0 : pm_H} {d : Nat} (hh0 : HH h0) (hV : V9 h0) : Sp (d + 2) 293 h0 [.ref 77] (fun h' r => r = none ∧ HH h' ∧ fr_g YM h0 h' ∧ gi h' 77 22 = nJ (gn h0 84 1) ∧ gi h' 77 23 = nJ (2 ^ gn h0 84 3 - 1) ∧ ∀ c, c < gn h0 84 3 → gn h' 89 c = W9 h0 c) := by
  refine Sp_of aiX9_lays rfl rfl rfl ?_
  refine E_al rfl (show pm_get (lv_args 0 [.ref 77]) 0 = _ from rfl) ?_
  refine E_al rfl (show pm_get (lv_args 0 [.ref 77]) 0 = _ from rfl) ?_
  refine E_gr rfl hh0 (q := 84) rfl ?_
  refine E_ci 1 rfl (by decide) ?_
  have b1 : gn h0 84 1 ≤ 3 := gn_hi hh0 rfl (by decide)
  refine E_ial rfl hh0 rfl (by omega) (by decide) (gi_gn hh0 rfl (by decide)) ?_
  refine E_pf rfl hh0 rfl ?_
  have hh2 : HH (pt h0 77 22 (nJ ((gn h0 84 1)))) := HH_ptn hh0 rfl (by omega) (by omega) (by omega)
  have fr2 : fr_g YM h0 (pt h0 77 22 (nJ ((gn h0 84 1)))) := fr_ptr (l := 22) (u := 22) rfl (by omega) (by omega) (fr_rf YM h0)
  refine E_al rfl (show pm_get (lv_args 0 [.ref 77]) 0 = _ from rfl) ?_
  refine E_ci 1 rfl (by decide) ?_
  refine E_al rfl (show pm_get (lv_args 0 [.ref 77]) 0 = _ from rfl) ?_
  refine E_call rfl (sp_cars hh2) (chk77 hh2 rfl rfl (by show 2 ≤ 8; decide)) (fun h3 r3 => ?_)
  rintro ⟨e3, f3, c3⟩
  rw [e3, f3]
  show Ends _ _ (16, (lv_args 0 [.ref 77]), [.int (nJ (gn (pt h0 77 22 (nJ ((gn h0 84 1)))) 84 3)), .int (nJ 1), .ref 77], (pt h0 77 22 (nJ ((gn h0 84 1)))), 0, 0) _
  refine E_bin rfl rfl ?_
  refine E_ci 1 rfl (by decide) ?_
  refine E_bin rfl rfl ?_
  have c8 : gn h0 84 3 ≤ 8 := gn_hi hh0 rfl (by decide)
  refine E_pf rfl hh2 rfl ?_
  have hh4 : HH (pt (pt h0 77 22 (nJ ((gn h0 84 1)))) 77 23 ((nJ 1 <<< (nJ ((gn (pt h0 77 22 (nJ ((gn h0 84 1)))) 84 3)) &&& 31)) - nJ 1)) := HH_pt hh2 rfl (ai_lo _) (ai_hi _)
  have fr4 : fr_g YM h0 (pt (pt h0 77 22 (nJ ((gn h0 84 1)))) 77 23 ((nJ 1 <<< (nJ ((gn (pt h0 77 22 (nJ ((gn h0 84 1)))) 84 3)) &&& 31)) - nJ 1)) := fr_ptr (l := 23) (u := 23) rfl (by omega) (by omega) fr2
  refine E_ci 0 rfl (by decide) ?_
  refine E_is rfl (fun lv5 L5_1 kp5 => ?_)
  have L5_0 := kp5 0 _ (by decide) rfl (show pm_get (lv_args 0 [.ref 77]) 0 = _ from rfl)
  refine ly_oneX hh0 hV (gn h0 84 3) (c := 0) lv5 (by omega) hh4 fr4 ?_ ?_ (fun c1 hc1 => absurd hc1 (Nat.not_lt_zero _)) L5_0 L5_1
  · rw [gi_ne (by omega)]
    exact gi_ptn hh0 rfl (by omega) (by omega) (by omega)
  · rw [gi_pt hh2 rfl (ai_lo _) (ai_hi _), gn_ne (by omega)]
    exact cm_bits c8
/-- the reference's street is in order -/
theorem V9_of {h : pm_H} (R : QRE h) : V9 h := fun i hi => by
  obtain ⟨⟨s1, s2, s3, s4, s5⟩, sa, sd, b, tj, ac, vt, va, nw⟩ := R.2.1
  have e6 : gn h 15 6 = gn h 84 5 := gn_eq (show gi h 15 6 = gi h 84 5 from sa)
  have e4 : gn h 15 4 = gn h 84 3 := gn_eq s3
  have e0 : gn h 15 0 = gn h 84 0 := gn_eq (s2 0 (by omega))
  have v := va i (by omega)
  have a := ac i (by omega)
  have a1 : gn h (15 + 6) i = C9 h i := by have := gn_eq a.1; rw [show 60 * 0 + (3 * i + 1) = 3 * i + 1 by omega] at this; exact this
  have a2 : gn h (15 + 7) i = G9 h i := by have := gn_eq a.2.1; rw [show 60 * 0 + (3 * i + 2) = 3 * i + 2 by omega] at this; exact this
  have a3 : gn h (15 + 8) i = Z9 h i := by have := gn_eq a.2.2; rw [show 60 * 0 + 3 * i = 3 * i by omega] at this; exact this
  unfold vAct at v ⊢
  rw [← a1, ← a2, ← a3, ← e4, ← e0]
  exact v
/-- what is wanted now, of both -/
theorem now_eq {h : pm_H} (R : QRE h) : ∀ j, j < gn h 84 3 → gn h 17 j = W9 h j ∧ 1 ≤ W9 h j ∧ W9 h j ≤ gn h 84 0 := fun j hj => by
  have V := V9_of R
  obtain ⟨⟨s1, s2, s3, s4, s5⟩, sa, sd, b, tj, ac, vt, va, nw⟩ := R.2.1
  have e6 : gn h 15 6 = gn h 84 5 := gn_eq (show gi h 15 6 = gi h 84 5 from sa)
  have e4 : gn h 15 4 = gn h 84 3 := gn_eq s3
  have e0 : gn h 15 0 = gn h 84 0 := gn_eq (s2 0 (by omega))
  have te : ∀ c, c < gn h 84 3 → gn h 16 c = t9 h c := fun c hc => by
    have := gn_eq (tj.1 c (by omega))
    rw [show 16 * 0 + 2 * c = 2 * c by omega] at this
    exact this
  have ne := nw j (by omega)
  rw [e6] at ne
  have cg := nwF_cg (C' := gn h 21) (G' := gn h 22) (Z' := gn h 23) (t' := gn h 16) (gn h 84 5) (fun i hi => by
    have a := ac i (by omega)
    have a1 := gn_eq a.1
    have a2 := gn_eq a.2.1
    have a3 := gn_eq a.2.2
    rw [show 60 * 0 + (3 * i + 1) = 3 * i + 1 by omega] at a1
    rw [show 60 * 0 + (3 * i + 2) = 3 * i + 2 by omega] at a2
    rw [show 60 * 0 + 3 * i = 3 * i by omega] at a3
    exact ⟨a1, a2, a3⟩) V te j hj
  refine ⟨?_, nwF_in (gn h 84 5) V (fun c hc => ?_) j hj⟩
  · exact (show gn h 17 j = nwF (gn h 21) (gn h 22) (gn h 23) (gn h 16) (gn h 84 5) j from ne).trans cg
  · have := vt c (by omega)
    rw [show gn h (15 + 1) c = t9 h c from te c hc, e0] at this
    exact this
end
section
/-! who parks where: one pure law, and the class's Lot (wants t47, t56, u55) -/
noncomputable def ff (m p : Nat) : Nat → Nat → Nat
  | 0, _ => 0
  | j + 1, q => if q ≤ p then (if isB m (q - 1) = false then q else ff m p j (q + 1)) else 0
noncomputable def nf (m p w : Nat) : Nat → Nat → Nat
  | 0, _ => 0
  | j + 1, k => if k < p then (if w + k ≤ p ∧ isB m (w + k - 1) = false then w + k else if 1 + k ≤ w ∧ isB m (w - k - 1) = false then w - k else nf m p w j (k + 1)) else 0
/-- the place that one finds who wants w, by law l, of p places with those of m taken; 0: none -/
noncomputable def sf (l p m w : Nat) : Nat := if isB m (w - 1) = false then w else if l = 1 ∧ 2 ≤ w ∧ isB m (w - 2) = false then w - 1 else if l = 2 then nf m p w 10 1 else if ff m p 10 (w + 1) = 0 ∧ l = 3 then ff m p 10 1 else ff m p 10 (w + 1)
noncomputable def ad (m q : Nat) : Nat := if q = 0 then m else m + 2 ^ (q - 1)
/-- places taken by the first n of the set s -/
noncomputable def tk (l p s : Nat) (W : Nat → Nat) : Nat → Nat
  | 0 => 0
  | n + 1 => ad (tk l p s W n) (if isB s n = true then sf l p (tk l p s W n) (W n) else 0)
noncomputable def spt (l p s : Nat) (W : Nat → Nat) (n : Nat) : Nat := if isB s n = true then sf l p (tk l p s W n) (W n) else 0
noncomputable def dst (a b : Nat) : Nat := (a - b) + (b - a)
/-! the law depends on what it reads alone -/
/-! the class -/
section LOT
variable {h : pm_H} {d : Nat}
end LOT
end
section
/-! the class's Lot, filled (wants u65) -/
section FILL
variable {h : pm_H} {d : Nat}
end FILL
end
section
/-! the reference parks (wants u65, u63) -/
/-- who holds a place, counted from 1; 0: none -/
noncomputable def hd (l p s : Nat) (W : Nat → Nat) : Nat → Nat → Nat
  | 0, _ => 0
  | n + 1, q => if spt l p s W n = q ∧ q ≠ 0 then n + 1 else hd l p s W n q
section PK9
variable {h : pm_H} {d : Nat}
end PK9
end
section
/-! the reference parks and lays, exactly; the street's numbers as both see them (wants u66, u67) -/
theorem Sp_and1 {d e y : Nat} {h : pm_H} {as : List Value} {Q Q' : pm_H → Option Value → Prop} (a : Sp d y h as Q) (b : Sp e y h as Q') : Sp d y h as (fun h' r => Q h' r ∧ Q' h' r) := by
  obtain ⟨h1, r1, a1, a2⟩ := a
  have a' : Sp (d + e) y h as (fun h' r => h' = h1 ∧ r = r1) := Sp_up ⟨h1, r1, a1, rfl, rfl⟩ e
  obtain ⟨h3, r3, c1, rfl, rfl⟩ := a'
  obtain ⟨h2, r2, b1, b2⟩ := Sp_le (Nat.le_add_left e d) b
  obtain ⟨rfl, rfl⟩ := pm_Rt_det _ _ _ _ _ _ _ _ c1 b1
  exact ⟨_, _, a1, a2, b2⟩
section PARKS
variable {h0 : pm_H} {d : Nat}
/-! the street's numbers, by the reference's cells -/
noncomputable def L9 (h : pm_H) : Nat := gn h 84 1
noncomputable def P9 (h : pm_H) : Nat := gn h 84 0
noncomputable def N9 (h : pm_H) : Nat := gn h 84 3
/-- what a heap must keep of another for these numbers -/
noncomputable def K9 (h h' : pm_H) : Prop := (∀ k, gn h' 84 k = gn h 84 k) ∧ (∀ k, gn h' 85 k = gn h 85 k) ∧ (∀ k, gn h' 87 k = gn h 87 k) ∧ ∀ k, gi h' 83 k = gi h 83 k
theorem W9_K {h h' : pm_H} (k : K9 h h') : W9 h' = W9 h := by
  obtain ⟨e4, e5, e7, -⟩ := k
  have a : C9 h' = C9 h := funext (fun i => e7 _)
  have b : G9 h' = G9 h := funext (fun i => e7 _)
  have c : Z9 h' = Z9 h := funext (fun i => e7 _)
  have d : t9 h' = t9 h := funext (fun i => e5 _)
  unfold W9
  rw [a, b, c, d, e4]
theorem V9_K {h h' : pm_H} (k : K9 h h') (V : V9 h) : V9 h' := by
  obtain ⟨e4, e5, e7, -⟩ := k
  intro i hi
  rw [e4] at hi
  have q := V i hi
  unfold vAct C9 G9 Z9 at q ⊢
  rw [e4, e4, e7, e7, e7]
  exact q
theorem P9_K {h h' : pm_H} (k : K9 h h') : P9 h' = P9 h := k.1 _
theorem N9_K {h h' : pm_H} (k : K9 h h') : N9 h' = N9 h := k.1 _
theorem K9_fr {M : List Rng} {h h' : pm_H} (hf : fr_g M h h') (h4 : M.all (fun r => !(Nat.beq r.1 84)) = true) (h5 : M.all (fun r => !(Nat.beq r.1 85)) = true) (h7 : M.all (fun r => !(Nat.beq r.1 87)) = true) (h3 : M.all (fun r => !(Nat.beq r.1 83)) = true) : K9 h h' := ⟨fun k => fr_gn hf (rg_no h4 k), fun k => fr_gn hf (rg_no h5 k), fun k => fr_gn hf (rg_no h7 k), fun k => fr_gi hf (rg_no h3 k)⟩
theorem K9_77 {h : pm_H} {v : Int32} : K9 h (pt h 77 0 v) := ⟨fun k => gn_ne (by omega), fun k => gn_ne (by omega), fun k => gn_ne (by omega), fun k => gi_ne (by omega)⟩
/-- wishes lie within the places -/
noncomputable def B9 (h : pm_H) : Prop := ∀ c, c < N9 h → 1 ≤ W9 h c ∧ W9 h c ≤ P9 h
theorem B9_of {h : pm_H} (R : QRE h) : B9 h := fun c hc => (now_eq R c hc).2
theorem g9s {h : pm_H} (hh : HH h) : L9 h ≤ 3 ∧ P9 h ≤ 8 ∧ N9 h ≤ 8 := ⟨gn_hi hh rfl (by decide), gn_hi hh rfl (by decide), gn_hi hh rfl (by decide)⟩
/-! answers -/
noncomputable def cq (h : pm_H) (f : Nat → Int32) (x : Int32) : Int32 := if 0 ≤ x.toInt ∧ x.toInt < (N9 h : Int) then f x.toInt.toNat else -2
noncomputable def pq (h : pm_H) (f : Nat → Int32) (x : Int32) : Int32 := if 0 < (gi h 83 0).toInt ∧ 1 ≤ x.toInt ∧ x.toInt ≤ (P9 h : Int) then f x.toInt.toNat else -2
end PARKS
end
section
/-! what is wanted, counted by both (wants u67b; cw of t1) -/
/-- the class's street in the reference's numbers -/
noncomputable def CW8 (h : pm_H) : Prop := gi h 15 4 = nJ (N9 h) ∧ gi h 15 0 = nJ (P9 h) ∧ ∀ i, i < N9 h → gi h 17 i = nJ (W9 h i)
noncomputable def LY9 (h h' : pm_H) : Prop := HH h' ∧ gn h' 84 0 = P9 h ∧ gn h' 84 3 = N9 h ∧ ∀ c, c < N9 h → gn h' 89 c = W9 h c
noncomputable def LW9 (h : pm_H) : Bool := Nat.beq (N9 h) (P9 h) && (List.range (P9 h)).all (fun q => Nat.ble (q + 1) (cw (W9 h) (q + 1) (N9 h)))
theorem LW9_iff {h : pm_H} : LW9 h = true ↔ N9 h = P9 h ∧ ∀ p, 1 ≤ p → p ≤ P9 h → p ≤ cw (W9 h) p (N9 h) := by
  unfold LW9
  rw [Bool.and_eq_true, List.all_eq_true]
  constructor
  · rintro ⟨a, b⟩
    refine ⟨Nat.eq_of_beq_eq_true a, fun p p1 pp => ?_⟩
    have := Nat.le_of_ble_eq_true (b (p - 1) (List.mem_range.mpr (by omega)))
    rw [show p - 1 + 1 = p by omega] at this
    exact this
  · rintro ⟨a, b⟩
    refine ⟨by rw [a]; exact Nat.beq_refl _, fun q hq => Nat.ble_eq_true_of_le (b (q + 1) (by omega) (by have := List.mem_range.mp hq; omega))⟩
section WSH
variable {h h2 : pm_H} {d : Nat}
theorem CW8_of (hh : HH h) (R : QRE h) : CW8 h := by
  have s := R.2.1.1
  have e4 : gn h 15 4 = N9 h := gn_eq s.2.2.1
  have e0 : gn h 15 0 = P9 h := gn_eq (s.2.1 0 (by omega))
  obtain ⟨-, -, n8⟩ := g9s hh
  refine ⟨?_, ?_, fun i hi => ?_⟩
  · rw [← e4]; exact gi_gn hh rfl (by decide)
  · rw [← e0]; exact gi_gn hh rfl (by decide)
  · rw [← (now_eq R i hi).1]; exact gi_gn hh (q := (0, 8)) (bd_u rfl (by omega)) (by decide)
end WSH
end
