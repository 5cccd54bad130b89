section
theorem lnp_0 {h : pm_H} (S : ST1 15 0 h) : gn h 15 0 = 0 ↔ lnp h = 0 := by
  obtain ⟨s1, -, -, -, s5⟩ := S
  rw [s5, s1]
  unfold lnp
  by_cases b : 0 < (gi h 83 0).toInt
  · rw [if_pos b]
    constructor
    · intro q; exact absurd b q
    · intro q; cases q
  · rw [if_neg b]
    exact ⟨fun _ => rfl, fun _ => b⟩
theorem udv_eq {p q a : Nat} (e : p = 0 ↔ q = 0) : udv p a = udv q a ∧ uda p a = uda q a ∧ anv p a = anv q a ∧ ana p a = ana q a := by
  unfold udv uda anv ana
  by_cases b : p = 0
  · have b2 := e.mp b
    rw [if_pos b, if_pos b2, if_pos b, if_pos b2, if_pos b, if_pos b2, if_pos b, if_pos b2]
    exact ⟨rfl, rfl, rfl, rfl⟩
  · have b2 : ¬ q = 0 := fun z => b (e.mpr z)
    rw [if_neg b, if_neg b2, if_neg b, if_neg b2, if_neg b, if_neg b2, if_neg b, if_neg b2]
    exact ⟨rfl, rfl, rfl, rfl⟩
theorem lnp_fr {h h' : pm_H} (e : gi h' 83 0 = gi h 83 0) : lnp h' = lnp h := by unfold lnp; rw [e]
/-- of the street as it is now: all but that its acts are the reference's -/
noncomputable def HF (h : pm_H) : Prop := BN 15 h ∧ TJ 15 0 h ∧ VT 15 h ∧ VA 15 h ∧ NW 15 h
theorem FS_of {h : pm_H} (H : HF h) (a : AC 15 0 (gn h 15 6) h) : FS 15 0 h := ⟨H.1, H.2.1, a, H.2.2.1, H.2.2.2.1, H.2.2.2.2⟩
theorem HF_of {h : pm_H} (F : FS 15 0 h) : HF h := ⟨F.1, F.2.1, F.2.2.2.1, F.2.2.2.2.1, F.2.2.2.2.2⟩
theorem HF_k {h h' : pm_H} (c : ∀ q, q ≤ 8 → q ≠ 3 → ∀ j, gi h' (15 + q) j = gi h (15 + q) j) (e85 : ∀ i, i < 8 → gi h' 85 (2 * i) = gi h 85 (2 * i)) (e86 : ∀ i, i < 16 → gi h' 86 i = gi h 86 i) (S : HF h) : HF h' := by
  have n : ∀ q, q ≤ 8 → q ≠ 3 → gn h' (15 + q) = gn h (15 + q) := fun q h1 h2 => funext (fun j => gn_eq (c q h1 h2 j))
  obtain ⟨b, ⟨t1, t2⟩, vt, va, nw⟩ := S
  have n0 : gn h' 15 = gn h 15 := n 0 (by omega) (by omega)
  have n1 : gn h' 16 = gn h 16 := n 1 (by omega) (by omega)
  have n2 : gn h' 17 = gn h 17 := n 2 (by omega) (by omega)
  have n6 : gn h' 21 = gn h 21 := n 6 (by omega) (by omega)
  have n7 : gn h' 22 = gn h 22 := n 7 (by omega) (by omega)
  have n8 : gn h' 23 = gn h 23 := n 8 (by omega) (by omega)
  have c1 : ∀ j, gi h' 16 j = gi h 16 j := c 1 (by omega) (by omega)
  have c4 : ∀ j, gi h' 19 j = gi h 19 j := c 4 (by omega) (by omega)
  have c5 : ∀ j, gi h' 20 j = gi h 20 j := c 5 (by omega) (by omega)
  obtain ⟨b1, b2, b3⟩ := b
  refine ⟨?_, ⟨fun i hi => ?_, fun i hi => ?_⟩, fun i hi => ?_, fun i hi => ?_, fun i hi => ?_⟩
  · show gn h' 15 4 ≤ 8 ∧ gn h' 15 5 ≤ 8 ∧ gn h' 15 6 ≤ 20
    rw [n0]; exact ⟨b1, b2, b3⟩
  · rw [n0] at hi
    have q := t1 i hi
    show gi h' 16 i = gi h' 85 (16 * 0 + 2 * i)
    rw [show 16 * 0 + 2 * i = 2 * i by omega] at q ⊢
    rw [c1, e85 i (by omega)]; exact q
  · rw [n0] at hi
    have q := t2 i hi
    show gi h' 19 i = gi h' 86 (16 * 0 + 2 * i) ∧ gi h' 20 i = gi h' 86 (16 * 0 + (2 * i + 1))
    rw [show 16 * 0 + 2 * i = 2 * i by omega, show 16 * 0 + (2 * i + 1) = 2 * i + 1 by omega] at q ⊢
    rw [c4, c5, e86 _ (by omega), e86 _ (by omega)]; exact q
  · rw [n0] at hi
    show 1 ≤ gn h' 16 i ∧ gn h' 16 i ≤ gn h' 15 0
    rw [n0, n1]; exact vt i hi
  · rw [n0] at hi
    show vAct (gn h' 15 4) (gn h' 15 0) (gn h' 21) (gn h' 22) (gn h' 23) i
    rw [n0, n6, n7, n8]; exact va i hi
  · rw [n0] at hi
    show gn h' 17 i = nwF (gn h' 21) (gn h' 22) (gn h' 23) (gn h' 16) (gn h' 15 6) i
    rw [n0, n1, n2, n6, n7, n8]; exact nw i hi
/-- acts taken back -/
theorem un_HF {h h' : pm_H} {a : Nat} (F : FS 15 0 h) (f : fr_g KAF h h') (e : gi h' 15 6 = nJ a) (le : a ≤ gn h 15 6) (N : ∀ j, j < gn h 15 4 → gn h' 17 j = nwF (gn h 21) (gn h 22) (gn h 23) (gn h 16) a j) : HF h' ∧ AC 15 0 a h' := by
  obtain ⟨⟨b1, b2, b3⟩, ⟨t1, t2⟩, ac, vt, va, nw⟩ := F
  have e4 : gn h' 15 4 = gn h 15 4 := fr_gn f rfl
  have e5 : gn h' 15 5 = gn h 15 5 := fr_gn f rfl
  have e0 : gn h' 15 0 = gn h 15 0 := fr_gn f rfl
  have e6 : gn h' 15 6 = a := gn_of e (by omega)
  have k16 : ∀ j, gi h' 16 j = gi h 16 j := fun j => fr_gi f (rg_no rfl _)
  have k19 : ∀ j, gi h' 19 j = gi h 19 j := fun j => fr_gi f (rg_no rfl _)
  have k20 : ∀ j, gi h' 20 j = gi h 20 j := fun j => fr_gi f (rg_no rfl _)
  have k21 : ∀ j, gi h' 21 j = gi h 21 j := fun j => fr_gi f (rg_no rfl _)
  have k22 : ∀ j, gi h' 22 j = gi h 22 j := fun j => fr_gi f (rg_no rfl _)
  have k23 : ∀ j, gi h' 23 j = gi h 23 j := fun j => fr_gi f (rg_no rfl _)
  have k85 : ∀ j, gi h' 85 j = gi h 85 j := fun j => fr_gi f (rg_no rfl _)
  have k86 : ∀ j, gi h' 86 j = gi h 86 j := fun j => fr_gi f (rg_no rfl _)
  have k87 : ∀ j, gi h' 87 j = gi h 87 j := fun j => fr_gi f (rg_no rfl _)
  have n16 : gn h' 16 = gn h 16 := funext (fun j => gn_eq (k16 j))
  have n21 : gn h' 21 = gn h 21 := funext (fun j => gn_eq (k21 j))
  have n22 : gn h' 22 = gn h 22 := funext (fun j => gn_eq (k22 j))
  have n23 : gn h' 23 = gn h 23 := funext (fun j => gn_eq (k23 j))
  refine ⟨⟨⟨by omega, by omega, by omega⟩, ⟨fun i hi => ?_, fun i hi => ?_⟩, fun i hi => ?_, fun i hi => ?_, fun i hi => ?_⟩, fun i hi => ?_⟩
  · show gi h' 16 i = gi h' 85 (16 * 0 + 2 * i)
    rw [k16, k85]; exact t1 i (by omega)
  · show gi h' 19 i = gi h' 86 (16 * 0 + 2 * i) ∧ gi h' 20 i = gi h' 86 (16 * 0 + (2 * i + 1))
    rw [k19, k20, k86, k86]; exact t2 i (by omega)
  · show 1 ≤ gn h' 16 i ∧ gn h' 16 i ≤ gn h' 15 0
    rw [n16, e0]; exact vt i (by omega)
  · show vAct (gn h' 15 4) (gn h' 15 0) (gn h' 21) (gn h' 22) (gn h' 23) i
    rw [e4, e0, n21, n22, n23]; exact va i (by omega)
  · show gn h' 17 i = nwF (gn h' 21) (gn h' 22) (gn h' 23) (gn h' 16) (gn h' 15 6) i
    rw [n16, n21, n22, n23, e6]; exact N i (by omega)
  · show gi h' 21 i = gi h' 87 (60 * 0 + (3 * i + 1)) ∧ gi h' 22 i = gi h' 87 (60 * 0 + (3 * i + 2)) ∧ gi h' 23 i = gi h' 87 (60 * 0 + 3 * i)
    rw [k21, k22, k23, k87, k87, k87]; exact ac i (by omega)
noncomputable def WMF : List Rng := [(15, 6, 6), (17, 0, 7), (21, 0, 19), (22, 0, 19), (23, 0, 19), (62, 1, 3), (63, 0, 7)]
theorem gi_g2 {h h' : pm_H} {a k : Nat} {q : Int × Int} (hh : HH h) (hh' : HH h') (hb : bd a k = some q) (h0 : 0 ≤ q.1) (e : gn h' a k = gn h a k) : gi h' a k = gi h a k := by
  rw [gi_gn hh' hb h0, gi_gn hh hb h0, e]
/-- an act more, or none -/
theorem add_HF {h h' : pm_H} {c z t : Nat} {ok : Bool} (hh : HH h) (hh' : HH h') (F : FS 15 0 h) (f : fr_g WMF h h') (V : ok = true → c < gn h 15 4 ∧ ((t = 0 ∧ 1 ≤ z ∧ z ≤ gn h 15 0) ∨ (t = 1 ∧ z < gn h 15 4))) (X : WX ok h h' (gn h 15 6) c z t) : HF h' ∧ AC 15 0 (gn h 15 6) h' ∧ (gn h' 15 6 = gn h 15 6 ∨ (gn h' 15 6 = gn h 15 6 + 1 ∧ gi h' 21 (gn h 15 6) = nJ c ∧ gi h' 22 (gn h 15 6) = nJ z ∧ gi h' 23 (gn h 15 6) = nJ t)) := by
  obtain ⟨⟨b1, b2, b3⟩, ⟨t1, t2⟩, ac, vt, va, nw⟩ := F
  have e4 : gn h' 15 4 = gn h 15 4 := fr_gn f rfl
  have e5 : gn h' 15 5 = gn h 15 5 := fr_gn f rfl
  have e0 : gn h' 15 0 = gn h 15 0 := fr_gn f rfl
  have k16 : ∀ j, gi h' 16 j = gi h 16 j := fun j => fr_gi f (rg_no rfl _)
  have k19 : ∀ j, gi h' 19 j = gi h 19 j := fun j => fr_gi f (rg_no rfl _)
  have k20 : ∀ j, gi h' 20 j = gi h 20 j := fun j => fr_gi f (rg_no rfl _)
  have k85 : ∀ j, gi h' 85 j = gi h 85 j := fun j => fr_gi f (rg_no rfl _)
  have k86 : ∀ j, gi h' 86 j = gi h 86 j := fun j => fr_gi f (rg_no rfl _)
  have k87 : ∀ j, gi h' 87 j = gi h 87 j := fun j => fr_gi f (rg_no rfl _)
  have n16 : gn h' 16 = gn h 16 := funext (fun j => gn_eq (k16 j))
  have tj : TJ 15 0 h' := ⟨fun i hi => by
    show gi h' 16 i = gi h' 85 (16 * 0 + 2 * i)
    rw [k16, k85]; exact t1 i (by omega), fun i hi => by
    show gi h' 19 i = gi h' 86 (16 * 0 + 2 * i) ∧ gi h' 20 i = gi h' 86 (16 * 0 + (2 * i + 1))
    rw [k19, k20, k86, k86]; exact t2 i (by omega)⟩
  have vt' : VT 15 h' := fun i hi => by
    show 1 ≤ gn h' 16 i ∧ gn h' 16 i ≤ gn h' 15 0
    rw [n16, e0]; exact vt i (by omega)
  have ac' : (∀ i, i < gn h 15 6 → gn h' 21 i = gn h 21 i ∧ gn h' 22 i = gn h 22 i ∧ gn h' 23 i = gn h 23 i) → AC 15 0 (gn h 15 6) h' := fun g i hi => by
    obtain ⟨g1, g2, g3⟩ := g i hi
    show gi h' 21 i = gi h' 87 (60 * 0 + (3 * i + 1)) ∧ gi h' 22 i = gi h' 87 (60 * 0 + (3 * i + 2)) ∧ gi h' 23 i = gi h' 87 (60 * 0 + 3 * i)
    rw [k87, k87, k87, gi_g2 hh hh' (bd_u rfl (by omega)) (by decide) g1, gi_g2 hh hh' (bd_u rfl (by omega)) (by decide) g2, gi_g2 hh hh' (bd_u rfl (by omega)) (by decide) g3]
    exact ac i hi
  by_cases b : ok = true ∧ gn h 15 6 < 20
  · obtain ⟨w6, w1, w2, w3, w4⟩ := X.1 b
    have v := V b.1
    have e6 : gn h' 15 6 = gn h 15 6 + 1 := gn_of w6 (by omega)
    have vK : vAct (gn h 15 4) (gn h 15 0) (fup (gn h 21) (gn h 15 6) c) (fup (gn h 22) (gn h 15 6) z) (fup (gn h 23) (gn h 15 6) t) (gn h 15 6) := by
      unfold vAct
      rw [fup_s, fup_s, fup_s]
      exact v
    refine ⟨⟨⟨by omega, by omega, by omega⟩, tj, vt', fun i hi => ?_, fun i hi => ?_⟩, ac' (fun i hi => by rw [w1, w2, w3, fup_n (by omega), fup_n (by omega), fup_n (by omega)]; exact ⟨rfl, rfl, rfl⟩), .inr ⟨e6, ?_, ?_, ?_⟩⟩
    · show vAct (gn h' 15 4) (gn h' 15 0) (gn h' 21) (gn h' 22) (gn h' 23) i
      rw [e4, e0, w1, w2, w3]
      by_cases q : i = gn h 15 6
      · rw [q]; exact vK
      · have o := va i (by omega)
        unfold vAct at o ⊢
        rw [fup_n q, fup_n q, fup_n q]
        exact o
    · show gn h' 17 i = nwF (gn h' 21) (gn h' 22) (gn h' 23) (gn h' 16) (gn h' 15 6) i
      rw [w4, w1, w2, w3, e6, n16]
      exact dAct_cg rfl rfl rfl vK (fun j hj => (nw j hj).trans (nwF_cg (gn h 15 6) (fun q hq => ⟨fup_n (by omega), fup_n (by omega), fup_n (by omega)⟩) va (fun _ _ => rfl) j hj).symm) i (by omega)
    · rw [gi_gn hh' (q := (0, 7)) (bd_u rfl (by omega)) (by decide), w1, fup_s]
    · rw [gi_gn hh' (q := (0, 8)) (bd_u rfl (by omega)) (by decide), w2, fup_s]
    · rw [gi_gn hh' (q := (0, 1)) (bd_u rfl (by omega)) (by decide), w3, fup_s]
  · obtain ⟨w6, w1, w2, w3, w4⟩ := X.2 b
    have e6 : gn h' 15 6 = gn h 15 6 := gn_eq w6
    refine ⟨⟨⟨by omega, by omega, by omega⟩, tj, vt', fun i hi => ?_, fun i hi => ?_⟩, ac' (fun i hi => by rw [w1, w2, w3]; exact ⟨rfl, rfl, rfl⟩), .inl e6⟩
    · show vAct (gn h' 15 4) (gn h' 15 0) (gn h' 21) (gn h' 22) (gn h' 23) i
      rw [e4, e0, w1, w2, w3]; exact va i (by omega)
    · show gn h' 17 i = nwF (gn h' 21) (gn h' 22) (gn h' 23) (gn h' 16) (gn h' 15 6) i
      rw [w4, w1, w2, w3, e6, n16]; exact nw i (by omega)
end
