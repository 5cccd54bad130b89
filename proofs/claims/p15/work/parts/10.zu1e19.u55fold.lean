/-! wishes as they are now: those told, and the acts done upon them -/
noncomputable def dAct (C G Z : Nat → Nat) (i : Nat) (f : Nat → Nat) : Nat → Nat := if Z i = 0 then fup f (C i) (G i) else fup (fup f (C i) (f (G i))) (G i) (f (C i))
noncomputable def nwF (C G Z t : Nat → Nat) : Nat → Nat → Nat
  | 0 => t
  | n + 1 => dAct C G Z n (nwF C G Z t n)
noncomputable def vAct (m P : Nat) (C G Z : Nat → Nat) (i : Nat) : Prop := C i < m ∧ ((Z i = 0 ∧ 1 ≤ G i ∧ G i ≤ P) ∨ (Z i = 1 ∧ G i < m))
theorem dAct_cg {C G Z C' G' Z' f f' : Nat → Nat} {i m P : Nat} (c : C' i = C i) (g : G' i = G i) (z : Z' i = Z i) (v : vAct m P C G Z i) (e : ∀ j, j < m → f' j = f j) : ∀ j, j < m → dAct C' G' Z' i f' j = dAct C G Z i f j := by
  intro j hj
  unfold dAct fup
  rw [c, g, z]
  obtain ⟨v1, v2⟩ := v
  rcases v2 with ⟨z0, -, -⟩ | ⟨z1, v3⟩
  · rw [if_pos z0, if_pos z0]
    rw [e j hj]
  · have z2 : ¬ Z i = 0 := by omega
    rw [if_neg z2, if_neg z2]
    rw [e j hj, e _ v1, e _ v3]
theorem nwF_cg {C G Z t C' G' Z' t' : Nat → Nat} {m P : Nat} (n : Nat) (e : ∀ i, i < n → C' i = C i ∧ G' i = G i ∧ Z' i = Z i) (v : ∀ i, i < n → vAct m P C G Z i) (q : ∀ j, j < m → t' j = t j) : ∀ j, j < m → nwF C' G' Z' t' n j = nwF C G Z t n j := by
  induction n with
  | zero => exact q
  | succ n ih =>
    obtain ⟨e1, e2, e3⟩ := e n (by omega)
    exact dAct_cg e1 e2 e3 (v n (by omega)) (ih (fun i hi => e i (by omega)) (fun i hi => v i (by omega)))
theorem dAct_in {C G Z f : Nat → Nat} {i m P : Nat} (v : vAct m P C G Z i) (e : ∀ j, j < m → 1 ≤ f j ∧ f j ≤ P) : ∀ j, j < m → 1 ≤ dAct C G Z i f j ∧ dAct C G Z i f j ≤ P := by
  intro j hj
  unfold dAct fup
  obtain ⟨v1, v2⟩ := v
  rcases v2 with ⟨z0, g1, g2⟩ | ⟨z1, v3⟩
  · rw [if_pos z0]
    split
    · exact ⟨g1, g2⟩
    · exact e j hj
  · have z2 : ¬ Z i = 0 := by omega
    rw [if_neg z2]
    split
    · exact e _ v1
    · split
      · exact e _ v3
      · exact e j hj
theorem nwF_in {C G Z t : Nat → Nat} {m P : Nat} (n : Nat) (v : ∀ i, i < n → vAct m P C G Z i) (q : ∀ j, j < m → 1 ≤ t j ∧ t j ≤ P) : ∀ j, j < m → 1 ≤ nwF C G Z t n j ∧ nwF C G Z t n j ≤ P := by
  induction n with
  | zero => exact q
  | succ n ih => exact dAct_in (v n (by omega)) (ih (fun i hi => v i (by omega)))
/-- a store to an array of numbers, as a whole -/
theorem gn_fup {h : pm_H} {a k v : Nat} {lo hi : Int} (hh : HH h) (hb : bd a k = some (lo, hi)) (hv : v < 2147483648) (h1 : lo ≤ (v : Int)) (h2 : (v : Int) ≤ hi) : gn (pt h a k (nJ v)) a = fup (gn h a) k v := by
  funext j
  by_cases e : j = k
  · rw [e, fup_s, gn_ptn hh hb hv h1 h2]
  · rw [fup_n e, gn_ne (fun _ => e)]
theorem gn_eq0 {h : pm_H} {a k : Nat} {q : Int × Int} (hh : HH h) (hb : bd a k = some q) (h0 : 0 ≤ q.1) : gi h a k = 0 ↔ gn h a k = 0 := by
  have e := gi_gn hh hb h0
  constructor
  · intro z
    unfold gn
    rw [z]
    rfl
  · intro z
    rw [e, z]
    rfl
