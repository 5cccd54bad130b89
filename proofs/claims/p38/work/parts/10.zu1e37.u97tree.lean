section
/-! questions of a tree: limbs, turned pairs, what hangs from a node: both (wants u96) -/
noncomputable def tp1 (pa : Nat → Nat) (v : Nat) : Nat → Nat → Nat
  | 0, _ => 0
  | f + 1, k => if k = 0 then 0 else (if v < k then 1 else 0) + tp1 pa v f (pa k)
noncomputable def tpS (pa : Nat → Nat) (n : Nat) : Nat → Nat
  | 0 => 0
  | m + 1 => tpS pa n m + tp1 pa (m + 1) n (pa (m + 1))
/-- a tree of n nodes and 0 -/
noncomputable def DT (n : Nat) (pa : Nat → Nat) : Prop := ∀ v, 1 ≤ v → v ≤ n → dep pa n v ∧ pa v ≤ n
theorem DT_d {n : Nat} {pa : Nat → Nat} (D : DT n pa) {v : Nat} (hv : v ≤ n) : dep pa n v := by
  by_cases z : v = 0
  · rw [z]; exact dep_zero pa n
  · exact (D v (by first | decide | with_reducible assumption | omega) hv).1
section TRE
variable {h : pm_H} {d n : Nat} {pa : Nat → Nat}
/-! turned pairs: the class -/
theorem tp8_in {v : Nat} {Q : pm_H → Option Value → Prop} (hh : HH h) (n8 : n ≤ 8) (T : ∀ v, 1 ≤ v → v ≤ n → gi h 65 v = nJ (pa v)) (D : DT n pa) (g5 : gi h 64 5 = nJ (n + 1)) (hv : v ≤ n) (f : Nat) : ∀ {k m s : Nat} (lv : List (Nat × Value)), dep pa f k → k ≤ n → m + f ≤ n → pm_get lv 0 = some (.ref 64) → pm_get lv 1 = some (.int (nJ s)) → pm_get lv 2 = some (.int (nJ v)) → pm_get lv 3 = some (.int (nJ k)) → pm_get lv 4 = some (.int (nJ m)) → (∀ lv' : List (Nat × Value), pm_get lv' 0 = some (.ref 64) → pm_get lv' 1 = some (.int (nJ (s + tp1 pa v f k))) → pm_get lv' 2 = some (.int (nJ v)) → Ends (pm_at tX7_turnedPairs) (pm_Rt pm_P d) (56, lv', [], h, 0, 0) Q) → Ends (pm_at tX7_turnedPairs) (pm_Rt pm_P d) (22, lv, [], h, 0, 0) Q := by
  have fin : ∀ {f k m s : Nat} (lv : List (Nat × Value)), k = 0 → m ≤ n → pm_get lv 0 = some (.ref 64) → pm_get lv 1 = some (.int (nJ s)) → pm_get lv 2 = some (.int (nJ v)) → pm_get lv 3 = some (.int (nJ k)) → pm_get lv 4 = some (.int (nJ m)) → (∀ lv' : List (Nat × Value), pm_get lv' 0 = some (.ref 64) → pm_get lv' 1 = some (.int (nJ (s + tp1 pa v f k))) → pm_get lv' 2 = some (.int (nJ v)) → Ends (pm_at tX7_turnedPairs) (pm_Rt pm_P d) (56, lv', [], h, 0, 0) Q) → Ends (pm_at tX7_turnedPairs) (pm_Rt pm_P d) (22, lv, [], h, 0, 0) Q := by
    intro f k m s lv z mn L0 L1 L2 L3 L4 K
    refine E_il rfl L4 ?_
    refine E_al rfl L0 ?_
    refine E_ogf (q := (0, 9)) rfl hh rfl rfl g5 ?_
    refine E_icF rfl (decide_eq_false (fun q => absurd ((nJ_le (by first | decide | with_reducible assumption | omega) (by first | decide | with_reducible assumption | omega)).mp q) (by first | decide | with_reducible assumption | omega))) ?_
    refine E_il rfl L3 ?_
    refine E_ifT rfl (decide_eq_true (by rw [z]; rfl)) ?_
    have e : tp1 pa v f k = 0 := by
      cases f with
      | zero => rfl
      | succ f => unfold tp1; rw [if_pos z]
    rw [e, Nat.add_zero] at K
    exact K lv L0 L1 L2
  induction f with
  | zero =>
    intro k m s lv dp kn mf L0 L1 L2 L3 L4 K
    exact fin lv dp (by first | decide | with_reducible assumption | omega) L0 L1 L2 L3 L4 K
  | succ f ih =>
    intro k m s lv dp kn mf L0 L1 L2 L3 L4 K
    by_cases z : k = 0
    · exact fin lv z (by first | decide | with_reducible assumption | omega) L0 L1 L2 L3 L4 K
    · have dp2 : dep pa f (pa k) := dp.resolve_left z
      have kb := (D k (by first | decide | with_reducible assumption | omega) kn).2
      unfold tp1 at K
      rw [if_neg z] at K
      refine E_il rfl L4 ?_
      refine E_al rfl L0 ?_
      refine E_ogf (q := (0, 9)) rfl hh rfl rfl g5 ?_
      refine E_icF rfl (decide_eq_false (fun q => absurd ((nJ_le (by first | decide | with_reducible assumption | omega) (by first | decide | with_reducible assumption | omega)).mp q) (by first | decide | with_reducible assumption | omega))) ?_
      refine E_il rfl L3 ?_
      refine E_ifF rfl (decide_eq_false (fun q => z ((nJ_eq0 (by first | decide | with_reducible assumption | omega)).mp q))) ?_
      refine E_il rfl L2 ?_
      refine E_il rfl L3 ?_
      have nx : ∀ (b : Nat) (lv : List (Nat × Value)), (if v < k then 1 else 0) = b → pm_get lv 0 = some (.ref 64) → pm_get lv 1 = some (.int (nJ (s + b))) → pm_get lv 2 = some (.int (nJ v)) → pm_get lv 3 = some (.int (nJ k)) → pm_get lv 4 = some (.int (nJ m)) → Ends (pm_at tX7_turnedPairs) (pm_Rt pm_P d) (43, lv, [], h, 0, 0) Q := by
        intro b lv eb N0 N1 N2 N3 N4
        rw [eb] at K
        refine E_al rfl N0 ?_
        refine E_ogr (q := 65) rfl hh rfl rfl ?_
        refine E_il rfl N3 ?_
        refine E_ial rfl hh rfl (by first | decide | with_reducible assumption | omega) (by decide) (T k (by first | decide | with_reducible assumption | omega) kn) ?_
        refine E_is rfl (fun lv1 K3 kp => ?_)
        refine E_inc rfl (kp 4 _ (nbz rfl) rfl N4) (nJ_inc _) (fun lv2 K4 kp2 => ?_)
        refine E_goto rfl ?_
        refine ih (k := pa k) (m := m + 1) (s := s + b) lv2 dp2 kb (by first | decide | with_reducible assumption | omega) (kp2 0 _ (nbz rfl) rfl (kp 0 _ (nbz rfl) rfl N0)) (kp2 1 _ (nbz rfl) rfl (kp 1 _ (nbz rfl) rfl N1)) (kp2 2 _ (nbz rfl) rfl (kp 2 _ (nbz rfl) rfl N2)) (kp2 3 _ (nbz rfl) rfl K3) K4 (fun lv' M0 M1 M2 => ?_)
        exact K lv' M0 (by rw [← Nat.add_assoc]; exact M1) M2
      by_cases b : v < k
      · refine E_icF rfl (decide_eq_false (fun q => absurd ((nJ_le (by first | decide | with_reducible assumption | omega) (by first | decide | with_reducible assumption | omega)).mp q) (by first | decide | with_reducible assumption | omega))) ?_
        refine E_inc rfl L1 (nJ_inc _) (fun lv1 K1 kp => ?_)
        exact nx 1 lv1 (if_pos b) (kp 0 _ (nbz rfl) rfl L0) K1 (kp 2 _ (nbz rfl) rfl L2) (kp 3 _ (nbz rfl) rfl L3) (kp 4 _ (nbz rfl) rfl L4)
      · refine E_icT rfl (decide_eq_true ((nJ_le (by first | decide | with_reducible assumption | omega) (by first | decide | with_reducible assumption | omega)).mpr (by first | decide | with_reducible assumption | omega))) ?_
        exact nx 0 lv (if_neg b) L0 L1 L2 L3 L4
theorem tp8_out (hh : HH h) (n8 : n ≤ 8) (T : ∀ v, 1 ≤ v → v ≤ n → gi h 65 v = nJ (pa v)) (D : DT n pa) (g5 : gi h 64 5 = nJ (n + 1)) (j : Nat) : ∀ {m : Nat} (lv : List (Nat × Value)), m + j = n → pm_get lv 0 = some (.ref 64) → pm_get lv 1 = some (.int (nJ (tpS pa n m))) → pm_get lv 2 = some (.int (nJ (m + 1))) → Ends (pm_at tX7_turnedPairs) (pm_Rt pm_P d) (4, lv, [], h, 0, 0) (fun h' r => h' = h ∧ r = some (.int (nJ (tpS pa n n)))) := by
  induction j with
  | zero =>
    intro m lv hj L0 L1 L2
    refine E_il rfl L2 ?_
    refine E_al rfl L0 ?_
    refine E_ogf (q := (0, 9)) rfl hh rfl rfl g5 ?_
    refine E_icT rfl (decide_eq_true ((nJ_le (by first | decide | with_reducible assumption | omega) (by first | decide | with_reducible assumption | omega)).mpr (by first | decide | with_reducible assumption | omega))) ?_
    refine E_il rfl L1 ?_
    have e : m = n := by omega
    exact E_rti rfl ⟨rfl, by rw [e]⟩
  | succ j ih =>
    intro m lv hj L0 L1 L2
    have t := D (m + 1) (by first | decide | with_reducible assumption | omega) (by first | decide | with_reducible assumption | omega)
    refine E_il rfl L2 ?_
    refine E_al rfl L0 ?_
    refine E_ogf (q := (0, 9)) rfl hh rfl rfl g5 ?_
    refine E_icF rfl (decide_eq_false (fun q => absurd ((nJ_le (by first | decide | with_reducible assumption | omega) (by first | decide | with_reducible assumption | omega)).mp q) (by first | decide | with_reducible assumption | omega))) ?_
    refine E_al rfl L0 ?_
    refine E_ogr (q := 65) rfl hh rfl rfl ?_
    refine E_il rfl L2 ?_
    refine E_ial rfl hh rfl (by first | decide | with_reducible assumption | omega) (by decide) (T (m + 1) (by first | decide | with_reducible assumption | omega) (by first | decide | with_reducible assumption | omega)) ?_
    refine E_is rfl (fun lv1 K3 kp => ?_)
    refine E_ci 0 rfl ci0 ?_
    refine E_is rfl (fun lv2 K4 kp2 => ?_)
    refine tp8_in (v := m + 1) hh n8 T D g5 (by first | decide | with_reducible assumption | omega) n (k := pa (m + 1)) (m := 0) lv2 (DT_d D t.2) t.2 (by first | decide | with_reducible assumption | omega) (kp2 0 _ (nbz rfl) rfl (kp 0 _ (nbz rfl) rfl L0)) (kp2 1 _ (nbz rfl) rfl (kp 1 _ (nbz rfl) rfl L1)) (kp2 2 _ (nbz rfl) rfl (kp 2 _ (nbz rfl) rfl L2)) (kp2 3 _ (nbz rfl) rfl K3) K4 (fun lv' M0 M1 M2 => ?_)
    refine E_inc rfl M2 (nJ_inc _) (fun lv3 K2 kp3 => ?_)
    refine E_goto rfl ?_
    exact ih (m := m + 1) lv3 (by first | decide | with_reducible assumption | omega) (kp3 0 _ (nbz rfl) rfl M0) (kp3 1 _ (nbz rfl) rfl M1) K2
theorem sp_turnedPairs8 (hh : HH h) (n8 : n ≤ 8) (T : ∀ v, 1 ≤ v → v ≤ n → gi h 65 v = nJ (pa v)) (D : DT n pa) (g5 : gi h 64 5 = nJ (n + 1)) : Sp (d + 1) 73 h [.ref 64] (fun h' r => h' = h ∧ r = some (.int (nJ (tpS pa n n)))) := by
  refine Sp_of aiX7_turnedPairs rfl rfl rfl ?_
  have L0 : pm_get (lv_args 0 [.ref 64]) 0 = some (.ref 64) := rfl
  generalize lv_args 0 [.ref 64] = lv at L0 ⊢
  refine E_ci 0 rfl ci0 ?_
  refine E_is rfl (fun lv1 K1 kp => ?_)
  refine E_ci 1 rfl ci1 ?_
  refine E_is rfl (fun lv2 K2 kp2 => ?_)
  exact tp8_out hh n8 T D g5 n (m := 0) lv2 (by first | decide | with_reducible assumption | omega) (kp2 0 _ (nbz rfl) rfl (kp 0 _ (nbz rfl) rfl L0)) (kp2 1 _ (nbz rfl) rfl K1) K2
/-! what hangs from a node: the class -/
/-! the reference -/
theorem tp9_in {v : Nat} {Q : pm_H → Option Value → Prop} (hh : HH h) (n8 : n ≤ 8) (T : ∀ v, 1 ≤ v → v ≤ n → gi h 92 v = nJ (pa v)) (D : DT n pa) (hv : v ≤ n) (f : Nat) : ∀ {k s : Nat} (lv : List (Nat × Value)), dep pa f k → k ≤ n → pm_get lv 0 = some (.ref 77) → pm_get lv 1 = some (.int (nJ n)) → pm_get lv 2 = some (.int (nJ s)) → pm_get lv 3 = some (.int (nJ v)) → pm_get lv 4 = some (.int (nJ k)) → (∀ lv' : List (Nat × Value), pm_get lv' 0 = some (.ref 77) → pm_get lv' 1 = some (.int (nJ n)) → pm_get lv' 2 = some (.int (nJ (s + tp1 pa v f k))) → pm_get lv' 3 = some (.int (nJ v)) → Ends (pm_at tX9_turnedIn) (pm_Rt pm_P d) (48, lv', [], h, 0, 0) Q) → Ends (pm_at tX9_turnedIn) (pm_Rt pm_P d) (17, lv, [], h, 0, 0) Q := by
  have fin : ∀ {f k s : Nat} (lv : List (Nat × Value)), k = 0 → pm_get lv 0 = some (.ref 77) → pm_get lv 1 = some (.int (nJ n)) → pm_get lv 2 = some (.int (nJ s)) → pm_get lv 3 = some (.int (nJ v)) → pm_get lv 4 = some (.int (nJ k)) → (∀ lv' : List (Nat × Value), pm_get lv' 0 = some (.ref 77) → pm_get lv' 1 = some (.int (nJ n)) → pm_get lv' 2 = some (.int (nJ (s + tp1 pa v f k))) → pm_get lv' 3 = some (.int (nJ v)) → Ends (pm_at tX9_turnedIn) (pm_Rt pm_P d) (48, lv', [], h, 0, 0) Q) → Ends (pm_at tX9_turnedIn) (pm_Rt pm_P d) (17, lv, [], h, 0, 0) Q := by
    intro f k s lv z L0 L1 L2 L3 L4 K
    refine E_il rfl L4 ?_
    refine E_ifT rfl (decide_eq_true (by rw [z]; rfl)) ?_
    have e : tp1 pa v f k = 0 := by
      cases f with
      | zero => rfl
      | succ f => unfold tp1; rw [if_pos z]
    rw [e, Nat.add_zero] at K
    exact K lv L0 L1 L2 L3
  induction f with
  | zero =>
    intro k s lv dp kn L0 L1 L2 L3 L4 K
    exact fin lv dp L0 L1 L2 L3 L4 K
  | succ f ih =>
    intro k s lv dp kn L0 L1 L2 L3 L4 K
    by_cases z : k = 0
    · exact fin lv z L0 L1 L2 L3 L4 K
    · have dp2 : dep pa f (pa k) := dp.resolve_left z
      have kb := (D k (by first | decide | with_reducible assumption | omega) kn).2
      unfold tp1 at K
      rw [if_neg z] at K
      refine E_il rfl L4 ?_
      refine E_ifF rfl (decide_eq_false (fun q => z ((nJ_eq0 (by first | decide | with_reducible assumption | omega)).mp q))) ?_
      refine E_il rfl L2 ?_
      refine E_il rfl L3 ?_
      refine E_il rfl L4 ?_
      have nx : ∀ b : Nat, (if v < k then 1 else 0) = b → Ends (pm_at tX9_turnedIn) (pm_Rt pm_P d) (34, lv, [.int (nJ b), .int (nJ s)], h, 0, 0) Q := by
        intro b eb
        rw [eb] at K
        refine E_bin rfl (nJ_add _ _) ?_
        refine E_is rfl (fun lv1 K2 kp => ?_)
        refine E_al rfl (kp 0 _ (nbz rfl) rfl L0) ?_
        refine E_gr rfl hh (q := 92) rfl ?_
        refine E_il rfl (kp 4 _ (nbz rfl) rfl L4) ?_
        refine E_ial rfl hh rfl (by first | decide | with_reducible assumption | omega) (by decide) (T k (by first | decide | with_reducible assumption | omega) kn) ?_
        refine E_is rfl (fun lv2 K4 kp2 => ?_)
        refine E_goto rfl ?_
        refine ih (k := pa k) (s := s + b) lv2 dp2 kb (kp2 0 _ (nbz rfl) rfl (kp 0 _ (nbz rfl) rfl L0)) (kp2 1 _ (nbz rfl) rfl (kp 1 _ (nbz rfl) rfl L1)) (kp2 2 _ (nbz rfl) rfl K2) (kp2 3 _ (nbz rfl) rfl (kp 3 _ (nbz rfl) rfl L3)) K4 (fun lv' M0 M1 M2 M3 => ?_)
        exact K lv' M0 M1 (by rw [← Nat.add_assoc]; exact M2) M3
      by_cases b : v < k
      · refine E_icF rfl (decide_eq_false (fun q => absurd ((nJ_le (by first | decide | with_reducible assumption | omega) (by first | decide | with_reducible assumption | omega)).mp q) (by first | decide | with_reducible assumption | omega))) ?_
        refine E_ci 1 rfl ci1 ?_
        refine E_goto rfl ?_
        exact nx 1 (if_pos b)
      · refine E_icT rfl (decide_eq_true ((nJ_le (by first | decide | with_reducible assumption | omega) (by first | decide | with_reducible assumption | omega)).mpr (by first | decide | with_reducible assumption | omega))) ?_
        refine E_ci 0 rfl ci0 ?_
        exact nx 0 (if_neg b)
theorem tp9_out (hh : HH h) (n8 : n ≤ 8) (T : ∀ v, 1 ≤ v → v ≤ n → gi h 92 v = nJ (pa v)) (D : DT n pa) (j : Nat) : ∀ {m : Nat} (lv : List (Nat × Value)), m + j = n → pm_get lv 0 = some (.ref 77) → pm_get lv 1 = some (.int (nJ n)) → pm_get lv 2 = some (.int (nJ (tpS pa n m))) → pm_get lv 3 = some (.int (nJ (m + 1))) → Ends (pm_at tX9_turnedIn) (pm_Rt pm_P d) (4, lv, [], h, 0, 0) (fun h' r => h' = h ∧ r = some (.int (nJ (tpS pa n n)))) := by
  induction j with
  | zero =>
    intro m lv hj L0 L1 L2 L3
    refine E_il rfl L3 ?_
    refine E_il rfl L1 ?_
    refine E_icT rfl (decide_eq_true ((nJ_lt (by first | decide | with_reducible assumption | omega) (by first | decide | with_reducible assumption | omega)).mpr (by first | decide | with_reducible assumption | omega))) ?_
    refine E_il rfl L2 ?_
    have e : m = n := by omega
    exact E_rti rfl ⟨rfl, by rw [e]⟩
  | succ j ih =>
    intro m lv hj L0 L1 L2 L3
    have t := D (m + 1) (by first | decide | with_reducible assumption | omega) (by first | decide | with_reducible assumption | omega)
    refine E_il rfl L3 ?_
    refine E_il rfl L1 ?_
    refine E_icF rfl (decide_eq_false (fun q => absurd ((nJ_lt (by first | decide | with_reducible assumption | omega) (by first | decide | with_reducible assumption | omega)).mp q) (by first | decide | with_reducible assumption | omega))) ?_
    refine E_al rfl L0 ?_
    refine E_gr rfl hh (q := 92) rfl ?_
    refine E_il rfl L3 ?_
    refine E_ial rfl hh rfl (by first | decide | with_reducible assumption | omega) (by decide) (T (m + 1) (by first | decide | with_reducible assumption | omega) (by first | decide | with_reducible assumption | omega)) ?_
    refine E_is rfl (fun lv1 K4 kp => ?_)
    refine tp9_in (v := m + 1) hh n8 T D (by first | decide | with_reducible assumption | omega) n (k := pa (m + 1)) lv1 (DT_d D t.2) t.2 (kp 0 _ (nbz rfl) rfl L0) (kp 1 _ (nbz rfl) rfl L1) (kp 2 _ (nbz rfl) rfl L2) (kp 3 _ (nbz rfl) rfl L3) K4 (fun lv' M0 M1 M2 M3 => ?_)
    refine E_inc rfl M3 (nJ_inc _) (fun lv3 K3 kp3 => ?_)
    refine E_goto rfl ?_
    exact ih (m := m + 1) lv3 (by first | decide | with_reducible assumption | omega) (kp3 0 _ (nbz rfl) rfl M0) (kp3 1 _ (nbz rfl) rfl M1) (kp3 2 _ (nbz rfl) rfl M2) K3
theorem sp_turnedIn9 (hh : HH h) (n8 : n ≤ 8) (T : ∀ v, 1 ≤ v → v ≤ n → gi h 92 v = nJ (pa v)) (D : DT n pa) : Sp (d + 1) 365 h [.ref 77, .int (nJ n)] (fun h' r => h' = h ∧ r = some (.int (nJ (tpS pa n n)))) := by
  refine Sp_of aiX9_turnedIn rfl rfl rfl ?_
  have L0 : pm_get (lv_args 0 [.ref 77, .int (nJ n)]) 0 = some (.ref 77) := rfl
  have L1 : pm_get (lv_args 0 [.ref 77, .int (nJ n)]) 1 = some (.int (nJ n)) := rfl
  generalize lv_args 0 [.ref 77, .int (nJ n)] = lv at L0 L1 ⊢
  refine E_ci 0 rfl ci0 ?_
  refine E_is rfl (fun lv1 K2 kp => ?_)
  refine E_ci 1 rfl ci1 ?_
  refine E_is rfl (fun lv2 K3 kp2 => ?_)
  exact tp9_out hh n8 T D n (m := 0) lv2 (by first | decide | with_reducible assumption | omega) (kp2 0 _ (nbz rfl) rfl (kp 0 _ (nbz rfl) rfl L0)) (kp2 1 _ (nbz rfl) rfl (kp 1 _ (nbz rfl) rfl L1)) (kp2 2 _ (nbz rfl) rfl K2) K3
/-! the street's tree -/
end TRE
end
section
/-! limbs as masks: near of the class (wants u97) -/
theorem msk_or : ∀ m : Fin 512, ∀ c : Fin 9, isB m.val c.val = true → nJ m.val ||| nJ (2 ^ c.val) = nJ m.val := by decide +kernel
theorem or_any {m c : Nat} (hm : m < 512) (hc : c < 9) : ∃ m', m' < 512 ∧ nJ m ||| nJ (2 ^ c) = nJ m' ∧ ∀ j, j < 9 → isB m' j = (j == c || isB m j) := by
  cases b : isB m c
  · exact ⟨m + 2 ^ c, isB_add_lt hm hc b, or2_tab ⟨m, hm⟩ ⟨c, hc⟩ b, fun j hj => isB_add hm hc hj b⟩
  · refine ⟨m, hm, msk_or ⟨m, hm⟩ ⟨c, hc⟩ b, fun j hj => ?_⟩
    by_cases e : j = c
    · rw [e, b, Bool.or_true]
    · rw [show (j == c) = false from beq_eq_false_iff_ne.mpr e, Bool.false_or]
theorem an_tab : ∀ m : Fin 512, ∀ v : Fin 9, isB m.val v.val = true → nJ m.val &&& (nJ (2 ^ v.val) ^^^ (-1)) = nJ (m.val - 2 ^ v.val) := by decide +kernel
theorem an_tab2 : ∀ m : Fin 512, ∀ v : Fin 9, isB m.val v.val = true → 2 ^ v.val ≤ m.val ∧ isB (m.val - 2 ^ v.val) v.val = false := by decide +kernel
theorem an_any {m c : Nat} (hm : m < 512) (hc : c < 9) (b : isB m c = true) : ∃ m', m' < 512 ∧ nJ m &&& (nJ (2 ^ c) ^^^ (-1)) = nJ m' ∧ ∀ j, j < 9 → isB m' j = (!(j == c) && isB m j) := by
  obtain ⟨l, z⟩ := an_tab2 ⟨m, hm⟩ ⟨c, hc⟩ b
  dsimp only at l z
  have l2 : m - 2 ^ c < 512 := Nat.lt_of_le_of_lt (Nat.sub_le _ _) hm
  refine ⟨m - 2 ^ c, l2, an_tab ⟨m, hm⟩ ⟨c, hc⟩ b, fun j hj => ?_⟩
  have e := isB_add (m := m - 2 ^ c) (c := c) (j := j) l2 hc hj z
  rw [show m - 2 ^ c + 2 ^ c = m by omega] at e
  rw [e]
  by_cases q : j = c
  · rw [q, z, show (c == c) = true from beq_self_eq_true _]; rfl
  · rw [show (j == c) = false from beq_eq_false_iff_ne.mpr q, Bool.false_or]; rfl
theorem pcn_ex {m : Nat} : ∀ {k : Nat}, pcn m k ≠ 0 → ∃ j, j < k ∧ isB m j = true
  | 0, q => absurd rfl q
  | k + 1, q => by
    cases b : isB m k
    · have e : pcn m (k + 1) = pcn m k := by
        show pcn m k + (if isB m k = true then 1 else 0) = _
        rw [if_neg (fun q => by rw [b] at q; cases q)]; rfl
      rw [e] at q
      obtain ⟨j, h1, h2⟩ := pcn_ex q
      exact ⟨j, by omega, h2⟩
    · exact ⟨k, by omega, b⟩
/-- one mask, its bits -/
noncomputable def NR (p : Nat → Nat → Bool) (v : Nat) (h : pm_H) : Prop := ∃ m, m < 512 ∧ gi h 68 v = nJ m ∧ ∀ j, j < 9 → isB m j = p j v
theorem NR_cg {p q : Nat → Nat → Bool} {v : Nat} {h : pm_H} (e : ∀ j, j < 9 → p j v = q j v) (N : NR p v h) : NR q v h := by
  obtain ⟨m, h1, h2, h3⟩ := N
  exact ⟨m, h1, h2, fun j hj => by rw [h3 j hj, e j hj]⟩
noncomputable def NF : List Rng := [(68, 0, 8)]
noncomputable def one (p : Nat → Nat → Bool) (a b : Nat) : Nat → Nat → Bool := fun j v => (v == a && j == b) || p j v
section LMB
variable {h : pm_H} {d : Nat}
theorem NR_or {n a b : Nat} {p : Nat → Nat → Bool} (hh : HH h) (n8 : n ≤ 8) (ha : a ≤ n) (hb : b ≤ 8) (N : ∀ v, v ≤ n → NR p v h) : ∃ m m', gi h 68 a = nJ m ∧ nJ m ||| nJ (2 ^ b) = nJ m' ∧ HH (pt h 68 a (nJ m')) ∧ ∀ v, v ≤ n → NR (one p a b) v (pt h 68 a (nJ m')) := by
  obtain ⟨m, hm, gm, bm⟩ := N a ha
  obtain ⟨m', hm', om, bm'⟩ := or_any hm (show b < 9 by omega)
  have b68 : bd 68 a = some (0, 511) := bd_u rfl (by first | decide | with_reducible assumption | omega)
  refine ⟨m, m', gm, om, HH_ptn hh b68 (by first | decide | with_reducible assumption | omega) (by first | decide | with_reducible assumption | omega) (by first | decide | with_reducible assumption | omega), fun v hv => ?_⟩
  by_cases e : v = a
  · refine ⟨m', hm', by rw [e]; exact gi_ptn hh b68 (by first | decide | with_reducible assumption | omega) (by first | decide | with_reducible assumption | omega) (by first | decide | with_reducible assumption | omega), fun j hj => ?_⟩
    rw [bm' j hj, bm j hj, e]
    show _ = ((a == a && j == b) || p j a)
    rw [beq_self_eq_true, Bool.true_and]
  · obtain ⟨k, hk, gk, bk⟩ := N v hv
    refine ⟨k, hk, by rw [gi_ne (fun _ => e)]; exact gk, fun j hj => ?_⟩
    rw [bk j hj]
    show _ = ((v == a && j == b) || p j v)
    rw [show (v == a) = false from beq_eq_false_iff_ne.mpr e, Bool.false_and, Bool.false_or]
theorem sp_addLimb8 {n a b : Nat} {p : Nat → Nat → Bool} (hh : HH h) (n8 : n ≤ 8) (ha : a ≤ n) (hb : b ≤ n) (N : ∀ v, v ≤ n → NR p v h) : Sp (d + 1) 57 h [.ref 64, .int (nJ a), .int (nJ b)] (fun h' r => r = none ∧ HH h' ∧ fr_g NF h h' ∧ ∀ v, v ≤ n → NR (one (one p a b) b a) v h') := by
  refine Sp_of aiX7_addLimb rfl rfl rfl ?_
  have L0 : pm_get (lv_args 0 [.ref 64, .int (nJ a), .int (nJ b)]) 0 = some (.ref 64) := rfl
  have L1 : pm_get (lv_args 0 [.ref 64, .int (nJ a), .int (nJ b)]) 1 = some (.int (nJ a)) := rfl
  have L2 : pm_get (lv_args 0 [.ref 64, .int (nJ a), .int (nJ b)]) 2 = some (.int (nJ b)) := rfl
  generalize lv_args 0 [.ref 64, .int (nJ a), .int (nJ b)] = lv at L0 L1 L2 ⊢
  obtain ⟨m, m', g1, o1, h1, N1⟩ := NR_or hh n8 ha (show b ≤ 8 by omega) N
  obtain ⟨k, k', g2, o2, h2, N2⟩ := NR_or h1 n8 hb (show a ≤ 8 by omega) N1
  refine E_al rfl L0 ?_
  refine E_ogr (q := 68) rfl hh rfl rfl ?_
  refine E_il rfl L1 ?_
  refine E_dup2 rfl rfl rfl ?_
  refine E_ial rfl hh rfl (by first | decide | with_reducible assumption | omega) (by decide) g1 ?_
  refine E_ci 1 rfl ci1 ?_
  refine E_il rfl L2 ?_
  refine E_bin rfl (show nJ 1 <<< (nJ b &&& 31) = nJ (2 ^ b) from shl_tab ⟨b, by omega⟩) ?_
  refine E_bin rfl o1 ?_
  refine E_ias rfl hh rfl (by first | decide | with_reducible assumption | omega) (by decide) ?_
  refine E_al rfl L0 ?_
  refine E_ogr (q := 68) rfl h1 rfl rfl ?_
  refine E_il rfl L2 ?_
  refine E_dup2 rfl rfl rfl ?_
  refine E_ial rfl h1 rfl (by first | decide | with_reducible assumption | omega) (by decide) g2 ?_
  refine E_ci 1 rfl ci1 ?_
  refine E_il rfl L1 ?_
  refine E_bin rfl (show nJ 1 <<< (nJ a &&& 31) = nJ (2 ^ a) from shl_tab ⟨a, by omega⟩) ?_
  refine E_bin rfl o2 ?_
  refine E_ias rfl h1 rfl (by first | decide | with_reducible assumption | omega) (by decide) ?_
  exact E_ret rfl ⟨rfl, h2, fr_ptr (l := 0) (u := 8) rfl (by first | decide | with_reducible assumption | omega) (by first | decide | with_reducible assumption | omega) (fr_ptr (l := 0) (u := 8) rfl (by first | decide | with_reducible assumption | omega) (by first | decide | with_reducible assumption | omega) (fr_rf _ _)), N2⟩
theorem sp_clear8 {n : Nat} (hh : HH h) (n8 : n ≤ 8) (g5 : gi h 64 5 = nJ (n + 1)) : Sp (d + 1) 60 h [.ref 64] (fun h' r => r = none ∧ HH h' ∧ fr_g NF h h' ∧ ∀ v, v ≤ n → NR (fun _ _ => false) v h') := by
  refine Sp_of aiX7_clearLimbs rfl rfl rfl ?_
  have L0 : pm_get (lv_args 0 [.ref 64]) 0 = some (.ref 64) := rfl
  generalize lv_args 0 [.ref 64] = lv at L0 ⊢
  have loop : ∀ (j : Nat) {g : pm_H} {k : Nat} (lv : List (Nat × Value)), k + j = n + 1 → HH g → fr_g NF h g → (∀ v, v < k → gi g 68 v = nJ 0) → pm_get lv 0 = some (.ref 64) → pm_get lv 1 = some (.int (nJ k)) → Ends (pm_at tX7_clearLimbs) (pm_Rt pm_P d) (2, lv, [], g, 0, 0) (fun h' r => r = none ∧ HH h' ∧ fr_g NF h h' ∧ ∀ v, v ≤ n → NR (fun _ _ => false) v h') := by
    intro j
    induction j with
    | zero =>
      intro g k lv hj hg F Z L0 L1
      have g5' : gi g 64 5 = nJ (n + 1) := by rw [fr_gi F (rg_no rfl _)]; exact g5
      refine E_il rfl L1 ?_
      refine E_al rfl L0 ?_
      refine E_ogf (q := (0, 9)) rfl hg rfl rfl g5' ?_
      refine E_icT rfl (decide_eq_true ((nJ_le (by first | decide | with_reducible assumption | omega) (by first | decide | with_reducible assumption | omega)).mpr (by first | decide | with_reducible assumption | omega))) ?_
      exact E_ret rfl ⟨rfl, hg, F, fun v hv => ⟨0, by omega, Z v (by first | decide | with_reducible assumption | omega), fun j _ => isB_zero j⟩⟩
    | succ j ih =>
      intro g k lv hj hg F Z L0 L1
      have g5' : gi g 64 5 = nJ (n + 1) := by rw [fr_gi F (rg_no rfl _)]; exact g5
      refine E_il rfl L1 ?_
      refine E_al rfl L0 ?_
      refine E_ogf (q := (0, 9)) rfl hg rfl rfl g5' ?_
      refine E_icF rfl (decide_eq_false (fun q => absurd ((nJ_le (by first | decide | with_reducible assumption | omega) (by first | decide | with_reducible assumption | omega)).mp q) (by first | decide | with_reducible assumption | omega))) ?_
      refine E_al rfl L0 ?_
      refine E_ogr (q := 68) rfl hg rfl rfl ?_
      refine E_il rfl L1 ?_
      refine E_ci 0 rfl ci0 ?_
      refine E_ias rfl hg rfl (by first | decide | with_reducible assumption | omega) (by decide) ?_
      have b : bd 68 k = some (0, 511) := bd_u rfl (by first | decide | with_reducible assumption | omega)
      have h1 : HH (pt g 68 k (nJ 0)) := HH_ptn hg b (by first | decide | with_reducible assumption | omega) (by first | decide | with_reducible assumption | omega) (by first | decide | with_reducible assumption | omega)
      refine E_inc rfl L1 (nJ_inc _) (fun lv1 K1 kp => ?_)
      refine E_goto rfl ?_
      refine ih (k := k + 1) lv1 (by first | decide | with_reducible assumption | omega) h1 (fr_ptr (l := 0) (u := 8) rfl (by first | decide | with_reducible assumption | omega) (by first | decide | with_reducible assumption | omega) F) (fun v hv => ?_) (kp 0 _ (nbz rfl) rfl L0) K1
      by_cases e : v = k
      · rw [e]; exact gi_ptn hg b (by first | decide | with_reducible assumption | omega) (by first | decide | with_reducible assumption | omega) (by first | decide | with_reducible assumption | omega)
      · rw [gi_ne (fun _ => e)]; exact Z v (by first | decide | with_reducible assumption | omega)
  refine E_ci 0 rfl ci0 ?_
  refine E_is rfl (fun lv1 K1 kp => ?_)
  exact loop (n + 1) lv1 (by first | decide | with_reducible assumption | omega) hh (fr_rf _ _) (fun v hv => absurd hv (Nat.not_lt_zero v)) (kp 0 _ (nbz rfl) rfl L0) K1
theorem sp_low8 {m : Nat} (hm : m < 512) (ex : ∃ j, j < 9 ∧ isB m j = true) : Sp (d + 1) 70 h [.int (nJ m)] (fun h' r => h' = h ∧ ∃ e, e < 9 ∧ isB m e = true ∧ (∀ j, j < e → isB m j = false) ∧ r = some (.int (nJ e))) := by
  refine Sp_of aiX7_lowestBit rfl rfl rfl ?_
  have L0 : pm_get (lv_args 0 [.int (nJ m)]) 0 = some (.int (nJ m)) := rfl
  generalize lv_args 0 [.int (nJ m)] = lv at L0 ⊢
  have loop : ∀ (j : Nat) {k : Nat} (lv : List (Nat × Value)), k + j = 9 → (∀ i, i < k → isB m i = false) → pm_get lv 0 = some (.int (nJ m)) → pm_get lv 1 = some (.int (nJ k)) → Ends (pm_at tX7_lowestBit) (pm_Rt pm_P d) (2, lv, [], h, 0, 0) (fun h' r => h' = h ∧ ∃ e, e < 9 ∧ isB m e = true ∧ (∀ j, j < e → isB m j = false) ∧ r = some (.int (nJ e))) := by
    intro j
    induction j with
    | zero =>
      intro k lv hj Z L0 L1
      obtain ⟨j, j9, bj⟩ := ex
      have := Z j (by first | decide | with_reducible assumption | omega)
      rw [bj] at this; cases this
    | succ j ih =>
      intro k lv hj Z L0 L1
      refine E_il rfl L1 ?_
      refine E_ci 9 rfl ci9 ?_
      refine E_icF rfl (decide_eq_false (fun q => absurd ((nJ_le (by first | decide | with_reducible assumption | omega) (by first | decide | with_reducible assumption | omega)).mp q) (by first | decide | with_reducible assumption | omega))) ?_
      refine E_il rfl L0 ?_
      refine E_il rfl L1 ?_
      refine E_bin rfl rfl ?_
      refine E_ci 1 rfl ci1 ?_
      refine E_bin rfl rfl ?_
      have tb := fr0_tab ⟨m, hm⟩ ⟨k, by omega⟩
      dsimp only at tb
      cases b : isB m k
      · refine E_ifT rfl (decide_eq_true (tb.mpr b)) ?_
        refine E_inc rfl L1 (nJ_inc _) (fun lv1 K1 kp => ?_)
        refine E_goto rfl ?_
        refine ih (k := k + 1) lv1 (by first | decide | with_reducible assumption | omega) (fun i hi => ?_) (kp 0 _ (nbz rfl) rfl L0) K1
        by_cases e : i = k
        · rw [e]; exact b
        · exact Z i (by first | decide | with_reducible assumption | omega)
      · refine E_ifF rfl (decide_eq_false (fun q => by rw [tb.mp q] at b; cases b)) ?_
        refine E_il rfl L1 ?_
        exact E_rti rfl ⟨rfl, k, by omega, b, Z, rfl⟩
  refine E_ci 0 rfl ci0 ?_
  refine E_is rfl (fun lv1 K1 kp => ?_)
  exact loop 9 lv1 (by first | decide | with_reducible assumption | omega) (fun i hi => absurd hi (Nat.not_lt_zero i)) (kp 0 _ (nbz rfl) rfl L0) K1
end LMB
end
section
/-! a tree out of its CODE: one pure law, and that no other tree has these limbs (wants u97, u101) -/
noncomputable def lfS (p : Nat → Bool) : Nat → Nat → Nat
  | 0, x => x
  | f + 1, x => bif p x then x else lfS p f (x + 1)
theorem lfS_ok {p : Nat → Bool} : ∀ {f x y : Nat}, x ≤ y → y < x + f → p y = true → p (lfS p f x) = true ∧ x ≤ lfS p f x ∧ lfS p f x ≤ y ∧ ∀ z, x ≤ z → z < lfS p f x → p z = false
  | 0, x, y, h1, h2, _ => by omega
  | f + 1, x, y, h1, h2, hy => by
    have e : lfS p (f + 1) x = bif p x then x else lfS p f (x + 1) := rfl
    rw [e]
    cases b : p x
    · rw [cond_false]
      have ne : x ≠ y := fun e => by rw [e, hy] at b; cases b
      obtain ⟨a1, a2, a3, a4⟩ := lfS_ok (f := f) (x := x + 1) (y := y) (by first | decide | with_reducible assumption | omega) (by first | decide | with_reducible assumption | omega) hy
      refine ⟨a1, by omega, a3, fun z z1 z2 => ?_⟩
      by_cases e : z = x
      · rw [e]; exact b
      · exact a4 z (by first | decide | with_reducible assumption | omega) z2
    · rw [cond_true]
      exact ⟨b, Nat.le_refl x, h1, fun z z1 z2 => by omega⟩
theorem sb_bit {m v j : Nat} (hm : m < 512) (hv : v < 9) (hj : j < 9) (b : isB m v = true) : isB (m - 2 ^ v) j = (!(j == v) && isB m j) := by
  obtain ⟨l, z⟩ := an_tab2 ⟨m, hm⟩ ⟨v, hv⟩ b
  dsimp only at l z
  have e := isB_add (m := m - 2 ^ v) (c := v) (j := j) (Nat.lt_of_le_of_lt (Nat.sub_le _ _) hm) hv hj z
  rw [show m - 2 ^ v + 2 ^ v = m by omega] at e
  rw [e]
  by_cases q : j = v
  · rw [q, z, show (v == v) = true from beq_self_eq_true _]; rfl
  · rw [show (j == v) = false from beq_eq_false_iff_ne.mpr q, Bool.false_or]; rfl
theorem sb_ne {m v j : Nat} (hm : m < 512) (hv : v < 9) (hj : j < 9) (b : isB m v = true) (q : j ≠ v) : isB (m - 2 ^ v) j = isB m j := by
  rw [sb_bit hm hv hj b, show (j == v) = false from beq_eq_false_iff_ne.mpr q]; rfl
theorem sb_T {m v j : Nat} (hm : m < 512) (hv : v < 9) (hj : j < 9) (b : isB m v = true) (q : isB (m - 2 ^ v) j = true) : j ≠ v ∧ isB m j = true := by
  rw [sb_bit hm hv hj b] at q
  by_cases e : j = v
  · rw [e, show (v == v) = true from beq_self_eq_true _] at q; cases q
  · exact ⟨e, by rw [show (j == v) = false from beq_eq_false_iff_ne.mpr e] at q; exact q⟩
theorem sb_pcn {m v : Nat} (hm : m < 512) (hv : v < 9) (b : isB m v = true) : pcn m 9 = pcn (m - 2 ^ v) 9 + 1 := by
  obtain ⟨l, z⟩ := an_tab2 ⟨m, hm⟩ ⟨v, hv⟩ b
  dsimp only at l z
  have e := pcn_add (m := m - 2 ^ v) (c := v) (Nat.lt_of_le_of_lt (Nat.sub_le _ _) hm) hv z (n := 9) (Nat.le_refl 9)
  rw [show m - 2 ^ v + 2 ^ v = m by omega, if_pos hv] at e
  exact e
theorem pcn_pos {m v : Nat} (b : isB m v = true) : ∀ {k : Nat}, v < k → 0 < pcn m k
  | 0, h => by omega
  | k + 1, h => by
    have e : pcn m (k + 1) = pcn m k + (if isB m k = true then 1 else 0) := rfl
    rw [e]
    by_cases q : v = k
    · rw [← q, if_pos b]; omega
    · have := pcn_pos b (k := k) (by first | decide | with_reducible assumption | omega)
      omega
noncomputable def soC (c : Nat → Nat) (k i : Nat) : Nat → Nat
  | 0 => 0
  | v + 1 => soC c k i v + ocr c v k i
theorem soC_0 {c : Nat → Nat} {i : Nat} : ∀ N, soC c 0 i N = 0
  | 0 => rfl
  | N + 1 => by
    show soC c 0 i N + 0 = 0
    rw [soC_0 N]
theorem soC_s {c : Nat → Nat} {k i : Nat} : ∀ N, soC c (k + 1) i N = (if c i < N then 1 else 0) + soC c k (i + 1) N
  | 0 => by rw [if_neg (Nat.not_lt_zero _)]; rfl
  | N + 1 => by
    show soC c (k + 1) i N + ((if c i = N then 1 else 0) + ocr c N k (i + 1)) = _ + (soC c k (i + 1) N + ocr c N k (i + 1))
    rw [soC_s N]
    by_cases a : c i < N
    · rw [if_pos a, if_neg (by first | decide | with_reducible assumption | omega), if_pos (by first | decide | with_reducible assumption | omega)]; omega
    · by_cases b : c i = N
      · rw [if_neg a, if_pos b, if_pos (by first | decide | with_reducible assumption | omega)]; omega
      · rw [if_neg a, if_neg b, if_neg (by first | decide | with_reducible assumption | omega)]; omega
theorem soC_le {c : Nat → Nat} {N : Nat} : ∀ k i, soC c k i N ≤ k
  | 0, i => by rw [soC_0]; exact Nat.le_refl 0
  | k + 1, i => by
    have := soC_le (c := c) (N := N) k (i + 1)
    rw [soC_s]
    split <;> omega
theorem pcn_so {c : Nat → Nat} {k i m : Nat} : ∀ {N : Nat}, (∀ v, v < N → isB m v = true → 1 ≤ ocr c v k i) → pcn m N ≤ soC c k i N
  | 0, _ => Nat.le_refl 0
  | N + 1, h => by
    have ih := pcn_so (c := c) (k := k) (i := i) (m := m) (N := N) (fun v hv => h v (by first | decide | with_reducible assumption | omega))
    show pcn m N + (if isB m N = true then 1 else 0) ≤ soC c k i N + ocr c N k i
    by_cases b : isB m N = true
    · rw [if_pos b]; have := h N (by first | decide | with_reducible assumption | omega) b; omega
    · rw [if_neg b]; omega
/-- left, and not written from i on -/
noncomputable def unw (c : Nat → Nat) (k i m v : Nat) : Bool := isB m v && Nat.beq (ocr c v k i) 0
noncomputable def lfX (c : Nat → Nat) (k i m : Nat) : Nat := lfS (unw c k i m) 9 0
theorem unw_iff {c : Nat → Nat} {k i m v : Nat} : unw c k i m v = true ↔ isB m v = true ∧ ocr c v k i = 0 := by
  unfold unw
  rw [Bool.and_eq_true]
  exact ⟨fun q => ⟨q.1, Nat.eq_of_beq_eq_true q.2⟩, fun q => ⟨q.1, by rw [q.2]; rfl⟩⟩
/-- what is left, k numbers of the CODE to come from i on -/
noncomputable def MI (c : Nat → Nat) (n k i m : Nat) : Prop := m < 512 ∧ (∀ v, v < 9 → isB m v = true → v ≤ n) ∧ pcn m 9 = k + 2 ∧ ∀ j, i ≤ j → j < i + k → isB m (c j) = true ∧ c j ≤ n
theorem lf_ok {c : Nat → Nat} {n k i m : Nat} (I : MI c n k i m) : isB m (lfX c k i m) = true ∧ ocr c (lfX c k i m) k i = 0 ∧ lfX c k i m < 9 ∧ lfX c k i m ≤ n ∧ ∀ y, y < lfX c k i m → ¬ (isB m y = true ∧ ocr c y k i = 0) := by
  obtain ⟨m5, vn, pc, -⟩ := I
  have ex : ∃ v, v < 9 ∧ unw c k i m v = true := by
    by_cases q : ∃ v, v < 9 ∧ unw c k i m v = true
    · exact q
    · have a := pcn_so (c := c) (k := k) (i := i) (m := m) (N := 9) (fun v hv b => by
        by_cases z : ocr c v k i = 0
        · exact absurd ⟨v, hv, unw_iff.mpr ⟨b, z⟩⟩ q
        · omega)
      have b := soC_le (c := c) (N := 9) k i
      omega
  obtain ⟨v, v9, bv⟩ := ex
  obtain ⟨a1, -, a3, a4⟩ := lfS_ok (p := unw c k i m) (f := 9) (x := 0) (y := v) (Nat.zero_le v) (by first | decide | with_reducible assumption | omega) bv
  have b := unw_iff.mp a1
  refine ⟨b.1, b.2, Nat.lt_of_le_of_lt a3 v9, vn _ (Nat.lt_of_le_of_lt a3 v9) b.1, fun y hy q => ?_⟩
  have := a4 y (Nat.zero_le y) hy
  rw [unw_iff.mpr q] at this
  cases this
theorem lf_u {c : Nat → Nat} {n k i m x : Nat} (I : MI c n k i m) (b : isB m x = true) (o : ocr c x k i = 0) (l : ∀ y, y < x → ¬ (isB m y = true ∧ ocr c y k i = 0)) : x = lfX c k i m := by
  obtain ⟨h1, h2, -, -, h5⟩ := lf_ok I
  by_cases q : x < lfX c k i m
  · exact absurd ⟨b, o⟩ (h5 x q)
  · by_cases r : lfX c k i m < x
    · exact absurd ⟨h1, h2⟩ (l _ r)
    · omega
theorem ocr_hd {c : Nat → Nat} {k i v : Nat} (o : ocr c v (k + 1) i = 0) : c i ≠ v ∧ ocr c v k (i + 1) = 0 := by
  have e : ocr c v (k + 1) i = (if c i = v then 1 else 0) + ocr c v k (i + 1) := rfl
  rw [e] at o
  by_cases q : c i = v
  · rw [if_pos q] at o; omega
  · exact ⟨q, by omega⟩
theorem MI_step {c : Nat → Nat} {n k i m : Nat} (I : MI c n (k + 1) i m) : MI c n k (i + 1) (m - 2 ^ lfX c (k + 1) i m) := by
  obtain ⟨h1, h2, h3, h4, -⟩ := lf_ok I
  obtain ⟨m5, vn, pc, cs⟩ := I
  refine ⟨Nat.lt_of_le_of_lt (Nat.sub_le _ _) m5, fun v hv b => vn v hv (sb_T m5 h3 hv h1 b).2, ?_, fun j j1 j2 => ?_⟩
  · have := sb_pcn m5 h3 h1
    omega
  · obtain ⟨a, b⟩ := cs j (by first | decide | with_reducible assumption | omega) (by first | decide | with_reducible assumption | omega)
    have cn : c j < 9 := by
      by_cases q : c j < 9
      · exact q
      · exfalso
        have z : m / 2 ^ c j = 0 := Nat.div_eq_of_lt (Nat.lt_of_lt_of_le m5 (show 512 ≤ 2 ^ c j from Nat.pow_le_pow_right (n := 2) (by first | decide | with_reducible assumption | omega) (show 9 ≤ c j by omega)))
        unfold isB at a
        rw [z] at a
        cases a
    refine ⟨?_, b⟩
    rw [sb_ne m5 h3 cn h1]
    · exact a
    · exact ocr_no h2 j (by first | decide | with_reducible assumption | omega) (by first | decide | with_reducible assumption | omega)
/-- towards the last node of all: what a node hangs from when it is taken off -/
noncomputable def prD (c : Nat → Nat) : Nat → Nat → Nat → Nat → Nat
  | 0, i, m, _ => lfX c 0 i (m - 2 ^ lfX c 0 i m)
  | k + 1, i, m, v => if v = lfX c (k + 1) i m then c i else prD c k (i + 1) (m - 2 ^ lfX c (k + 1) i m) v
noncomputable def rtD (c : Nat → Nat) : Nat → Nat → Nat → Nat
  | 0, i, m => lfX c 0 i (m - 2 ^ lfX c 0 i m)
  | k + 1, i, m => rtD c k (i + 1) (m - 2 ^ lfX c (k + 1) i m)
noncomputable def rkD (c : Nat → Nat) : Nat → Nat → Nat → Nat → Nat
  | 0, i, m, v => if v = lfX c 0 i m then i else i + 1
  | k + 1, i, m, v => if v = lfX c (k + 1) i m then i else rkD c k (i + 1) (m - 2 ^ lfX c (k + 1) i m) v
theorem two_ok {c : Nat → Nat} {n i m : Nat} (I : MI c n 0 i m) : isB m (rtD c 0 i m) = true ∧ rtD c 0 i m ≤ n ∧ lfX c 0 i m < rtD c 0 i m ∧ rtD c 0 i m < 9 ∧ (∀ v, v < 9 → isB m v = true → v = lfX c 0 i m ∨ v = rtD c 0 i m) ∧ ∀ v, lfX c 0 i m < v → v < rtD c 0 i m → isB m v = false := by
  obtain ⟨h1, -, h3, h4, h5⟩ := lf_ok I
  obtain ⟨m5, vn, pc, -⟩ := I
  have p1 := sb_pcn m5 h3 h1
  have m5' : m - 2 ^ lfX c 0 i m < 512 := Nat.lt_of_le_of_lt (Nat.sub_le _ _) m5
  obtain ⟨v, v9, bv⟩ := pcn_ex (m := m - 2 ^ lfX c 0 i m) (k := 9) (by first | decide | with_reducible assumption | omega)
  obtain ⟨a1, -, a3, a4⟩ := lfS_ok (p := unw c 0 i (m - 2 ^ lfX c 0 i m)) (f := 9) (x := 0) (y := v) (Nat.zero_le v) (by first | decide | with_reducible assumption | omega) (unw_iff.mpr ⟨bv, rfl⟩)
  have er : rtD c 0 i m = lfS (unw c 0 i (m - 2 ^ lfX c 0 i m)) 9 0 := rfl
  rw [← er] at a1 a3 a4
  have b1 := (unw_iff.mp a1).1
  have r9 : rtD c 0 i m < 9 := Nat.lt_of_le_of_lt a3 v9
  obtain ⟨ne, b2⟩ := sb_T m5 h3 r9 h1 b1
  have lt : lfX c 0 i m < rtD c 0 i m := by
    by_cases q : rtD c 0 i m < lfX c 0 i m
    · exact absurd ⟨b2, rfl⟩ (h5 _ q)
    · omega
  have p2 := sb_pcn m5' r9 b1
  refine ⟨b2, vn _ r9 b2, lt, r9, fun w w9 bw => ?_, fun w w1 w2 => ?_⟩
  · by_cases e1 : w = lfX c 0 i m
    · exact .inl e1
    · by_cases e2 : w = rtD c 0 i m
      · exact .inr e2
      · exfalso
        have q1 : isB (m - 2 ^ lfX c 0 i m) w = true := by rw [sb_ne m5 h3 w9 h1 e1]; exact bw
        have q2 : isB (m - 2 ^ lfX c 0 i m - 2 ^ rtD c 0 i m) w = true := by rw [sb_ne m5' r9 w9 b1 e2]; exact q1
        have := pcn_pos q2 w9
        omega
  · have q := a4 w (Nat.zero_le w) w2
    cases b : isB m w
    · rfl
    · have q1 : isB (m - 2 ^ lfX c 0 i m) w = true := by rw [sb_ne m5 h3 (by first | decide | with_reducible assumption | omega) h1 (by first | decide | with_reducible assumption | omega)]; exact b
      rw [unw_iff.mpr ⟨q1, rfl⟩] at q
      cases q
noncomputable def TFc (c : Nat → Nat) (n k i m : Nat) : Prop := (isB m (rtD c k i m) = true ∧ rtD c k i m ≤ n) ∧ (∀ v, v < 9 → isB m v = true → isB m (prD c k i m v) = true ∧ prD c k i m v ≤ n ∧ i ≤ rkD c k i m v ∧ rkD c k i m v ≤ i + k + 1) ∧ (∀ v, v < 9 → isB m v = true → v ≠ rtD c k i m → rkD c k i m v < rkD c k i m (prD c k i m v)) ∧ prD c k i m (rtD c k i m) = rtD c k i m
theorem TF_all {c : Nat → Nat} {n : Nat} (n8 : n ≤ 8) : ∀ {k i m : Nat}, MI c n k i m → TFc c n k i m
  | 0, i, m, I => by
    obtain ⟨h1, -, h3, h4, h5⟩ := lf_ok I
    obtain ⟨a1, a2, a3, a4, a5, -⟩ := two_ok I
    have eP : ∀ v, prD c 0 i m v = rtD c 0 i m := fun _ => rfl
    have eR : ∀ v, rkD c 0 i m v = if v = lfX c 0 i m then i else i + 1 := fun _ => rfl
    refine ⟨⟨a1, a2⟩, fun v v9 bv => ?_, fun v v9 bv ne => ?_, rfl⟩
    · rw [eP, eR]
      refine ⟨a1, a2, ?_, ?_⟩ <;> split <;> omega
    · rw [eP, eR, eR]
      have := (a5 v v9 bv).resolve_right ne
      rw [if_pos this, if_neg (by first | decide | with_reducible assumption | omega)]
      omega
  | k + 1, i, m, I => by
    obtain ⟨h1, h2, h3, h4, h5⟩ := lf_ok I
    have J := MI_step I
    obtain ⟨⟨t1, t1'⟩, t2, t3, t4⟩ := TF_all n8 J
    have m5 := I.1
    obtain ⟨ci1, ci2⟩ := I.2.2.2 i (Nat.le_refl i) (by first | decide | with_reducible assumption | omega)
    have cx := (ocr_hd h2).1
    have eP : ∀ v, prD c (k + 1) i m v = if v = lfX c (k + 1) i m then c i else prD c k (i + 1) (m - 2 ^ lfX c (k + 1) i m) v := fun _ => rfl
    have eR : ∀ v, rkD c (k + 1) i m v = if v = lfX c (k + 1) i m then i else rkD c k (i + 1) (m - 2 ^ lfX c (k + 1) i m) v := fun _ => rfl
    have eT : rtD c (k + 1) i m = rtD c k (i + 1) (m - 2 ^ lfX c (k + 1) i m) := rfl
    have rT := sb_T m5 h3 (by first | decide | with_reducible assumption | omega) h1 t1
    refine ⟨⟨by rw [eT]; exact rT.2, by rw [eT]; exact t1'⟩, fun v v9 bv => ?_, fun v v9 bv ne => ?_, ?_⟩
    · by_cases e : v = lfX c (k + 1) i m
      · rw [eP, eR, if_pos e, if_pos e]
        exact ⟨ci1, ci2, by omega, by omega⟩
      · rw [eP, eR, if_neg e, if_neg e]
        obtain ⟨b1, b2, b3, b4⟩ := t2 v v9 (by rw [sb_ne m5 h3 v9 h1 e]; exact bv)
        exact ⟨(sb_T m5 h3 (by first | decide | with_reducible assumption | omega) h1 b1).2, b2, by omega, by omega⟩
    · rw [eT] at ne
      by_cases e : v = lfX c (k + 1) i m
      · rw [eP, if_pos e, eR, if_pos e, eR, if_neg cx]
        have := t2 (c i) (by first | decide | with_reducible assumption | omega) (by rw [sb_ne m5 h3 (by first | decide | with_reducible assumption | omega) h1 cx]; exact ci1)
        omega
      · rw [eP, if_neg e, eR, if_neg e, eR]
        have bv' : isB (m - 2 ^ lfX c (k + 1) i m) v = true := by rw [sb_ne m5 h3 v9 h1 e]; exact bv
        have q := t2 v v9 bv'
        rw [if_neg (sb_T m5 h3 (by first | decide | with_reducible assumption | omega) h1 q.1).1]
        exact t3 v v9 bv' ne
    · rw [eT, eP, if_neg rT.1]
      exact t4
/-! a tree of these limbs, towards 0: one alone -/
noncomputable def AJ (P : Nat → Nat) (b u w : Nat) : Prop := (u ≠ b ∧ P u = w) ∨ (w ≠ b ∧ P w = u)
theorem AJ_s {P : Nat → Nat} {b u w : Nat} (a : AJ P b u w) : AJ P b w u := a.symm
noncomputable def itP (P : Nat → Nat) : Nat → Nat
  | 0 => 0
  | k + 1 => P (itP P k)
noncomputable def pvP (P : Nat → Nat) (b : Nat) : Nat → Nat → Nat → Nat
  | 0, _, v => P v
  | f + 1, x, v => if x = b then P v else if P x = v then x else pvP P b f (P x) v
theorem no_two {f : Nat → Nat} : ∀ (e : Nat) {u v : Nat}, dep f e v → u ≠ 0 → v ≠ 0 → f v = u → f u = v → False
  | 0, _, _, d, _, v0, _, _ => v0 d
  | e + 1, u, v, d, u0, v0, e1, e2 => by
    rcases d with d | d
    · exact v0 d
    · rw [e1] at d
      exact no_two e d v0 u0 e2 e1
section UNQ
variable {n b : Nat} {P rk f : Nat → Nat}
noncomputable def PTr (n b : Nat) (P rk : Nat → Nat) : Prop := b ≤ n ∧ P b = b ∧ (∀ v, v ≤ n → P v ≤ n ∧ rk v ≤ n) ∧ ∀ v, v ≤ n → v ≠ b → rk v < rk (P v)
noncomputable def FTr (n b : Nat) (P f : Nat → Nat) : Prop := ∀ v, 1 ≤ v → v ≤ n → f v ≤ n ∧ AJ P b v (f v) ∧ ∃ e, dep f e v
theorem it_le (T : PTr n b P rk) : ∀ k, itP P k ≤ n
  | 0 => Nat.zero_le n
  | k + 1 => (T.2.2.1 _ (it_le T k)).1
theorem it_rk1 (T : PTr n b P rk) (k : Nat) : rk (itP P k) ≤ rk (itP P (k + 1)) := by
  by_cases e : itP P k = b
  · have : itP P (k + 1) = itP P k := by
      show P (itP P k) = _
      rw [e]; exact T.2.1
    rw [this]; exact Nat.le_refl _
  · exact Nat.le_of_lt (T.2.2.2 _ (it_le T k) e)
theorem it_rk (T : PTr n b P rk) {j : Nat} : ∀ {k : Nat}, j ≤ k → rk (itP P j) ≤ rk (itP P k)
  | 0, h => by have : j = 0 := by omega
               rw [this]; exact Nat.le_refl _
  | k + 1, h => by
    by_cases e : j = k + 1
    · rw [e]; exact Nat.le_refl _
    · exact Nat.le_trans (it_rk T (by first | decide | with_reducible assumption | omega)) (it_rk1 T k)
theorem off_P (T : PTr n b P rk) (F : FTr n b P f) (r : Nat) : ∀ {v : Nat}, rk v ≤ r → 1 ≤ v → v ≤ n → (∀ k, itP P k ≠ v) → f v = P v := by
  induction r using Nat.strongRecOn with
  | _ r ih =>
    intro v hr v1 vn off
    obtain ⟨f1, a, e, d⟩ := F v v1 vn
    rcases a with ⟨-, a⟩ | ⟨wb, a⟩
    · exact a.symm
    · exfalso
      have w0 : 1 ≤ f v := by
        by_cases z : f v = 0
        · exfalso
          rw [z] at a
          exact off 1 a
        · omega
      have lt := T.2.2.2 _ f1 wb
      rw [a] at lt
      have g := ih (rk (f v)) (by first | decide | with_reducible assumption | omega) (Nat.le_refl _) w0 f1 (fun k q => off (k + 1) (by show P (itP P k) = v; rw [q]; exact a))
      rw [a] at g
      exact no_two e d (by first | decide | with_reducible assumption | omega) (by first | decide | with_reducible assumption | omega) rfl g
theorem on_P (T : PTr n b P rk) (F : FTr n b P f) (t : Nat) : ∀ {k : Nat}, n ≤ rk (itP P k) + t → itP P k ≠ b → f (P (itP P k)) = itP P k := by
  induction t with
  | zero =>
    intro k h ne
    have lt := T.2.2.2 _ (it_le T k) ne
    have := (T.2.2.1 _ (it_le T (k + 1))).2
    have e : itP P (k + 1) = P (itP P k) := rfl
    rw [e] at this
    omega
  | succ t ih =>
    intro k h ne
    have lt := T.2.2.2 _ (it_le T k) ne
    have e : itP P (k + 1) = P (itP P k) := rfl
    have l0 := it_rk T (j := 0) (k := k) (Nat.zero_le k)
    have v0 : 1 ≤ P (itP P k) := by
      by_cases z : P (itP P k) = 0
      · exfalso
        rw [z] at lt
        have : itP P 0 = 0 := rfl
        rw [this] at l0
        omega
      · omega
    have vn : P (itP P k) ≤ n := by rw [← e]; exact it_le T (k + 1)
    obtain ⟨f1, a, x, d⟩ := F _ v0 vn
    rcases a with ⟨vb, a⟩ | ⟨wb, a⟩
    · exfalso
      have g := ih (k := k + 1) (by rw [e]; omega) (by rw [e]; exact vb)
      rw [e, a] at g
      have lt2 := T.2.2.2 _ vn vb
      have y0 : f (P (itP P k)) ≠ 0 := fun z => by
        rw [a, z] at lt2
        have : itP P 0 = 0 := rfl
        rw [this] at l0
        omega
      exact no_two x d y0 (by first | decide | with_reducible assumption | omega) rfl g
    · by_cases on : ∃ j, itP P j = f (P (itP P k))
      · obtain ⟨j, hj⟩ := on
        rw [← hj] at a wb
        have eq : itP P (j + 1) = itP P (k + 1) := a
        by_cases c1 : j < k
        · exfalso
          have := it_rk T (j := j + 1) (k := k) (by first | decide | with_reducible assumption | omega)
          rw [eq, e] at this
          omega
        · by_cases c2 : k < j
          · exfalso
            have := it_rk T (j := k + 1) (k := j) (by first | decide | with_reducible assumption | omega)
            have l3 := T.2.2.2 _ (it_le T j) wb
            have e3 : itP P (j + 1) = P (itP P j) := rfl
            rw [← e3, eq] at l3
            omega
          · rw [← hj, show j = k by omega]
      · exfalso
        have w0 : 1 ≤ f (P (itP P k)) := by
          by_cases z : f (P (itP P k)) = 0
          · exact absurd ⟨0, z.symm⟩ on
          · omega
        have g := off_P T F (rk (f (P (itP P k)))) (Nat.le_refl _) w0 f1 (fun j q => on ⟨j, q⟩)
        rw [a] at g
        exact no_two x d (by first | decide | with_reducible assumption | omega) (by first | decide | with_reducible assumption | omega) rfl g
theorem it_b (T : PTr n b P rk) {j : Nat} (e : itP P j = b) : ∀ i, itP P (j + i) = b
  | 0 => e
  | i + 1 => by
    show P (itP P (j + i)) = b
    rw [it_b T e i]; exact T.2.1
theorem pv_f (T : PTr n b P rk) (F : FTr n b P f) {v : Nat} (v1 : 1 ≤ v) (vn : v ≤ n) : ∀ (u j : Nat), n < u + rk (itP P j) → (∀ i, i < j → P (itP P i) ≠ v) → pvP P b u (itP P j) v = f v
  | 0, j, h, _ => by have := (T.2.2.1 _ (it_le T j)).2; omega
  | u + 1, j, h, no => by
    have e : pvP P b (u + 1) (itP P j) v = if itP P j = b then P v else if P (itP P j) = v then itP P j else pvP P b u (P (itP P j)) v := rfl
    rw [e]
    by_cases z : itP P j = b
    · rw [if_pos z]
      refine (off_P T F (rk v) (Nat.le_refl _) v1 vn (fun k q => ?_)).symm
      have key : ∀ k, k ≤ j → itP P k ≠ v := fun k hk q => by
        cases k with
        | zero => have : itP P 0 = 0 := rfl
                  omega
        | succ k => exact no k (by first | decide | with_reducible assumption | omega) q
      by_cases c : k ≤ j
      · exact key k c q
      · have := it_b T z (k - j)
        rw [show j + (k - j) = k by omega, ← z] at this
        rw [this] at q
        exact key j (Nat.le_refl j) q
    · rw [if_neg z]
      by_cases y : P (itP P j) = v
      · rw [if_pos y]
        have := on_P T F n (k := j) (by first | decide | with_reducible assumption | omega) z
        rw [y] at this
        exact this.symm
      · rw [if_neg y]
        have lt := T.2.2.2 _ (it_le T j) z
        exact pv_f T F v1 vn u (j + 1) (by show n < u + rk (P (itP P j)); omega) (fun i hi => by
          by_cases e : i = j
          · rw [e]; exact y
          · exact no i (by first | decide | with_reducible assumption | omega))
/-- a set with 0, not with v: a limb leaves it -/
theorem cut_P (T : PTr n b P rk) (s : Nat → Bool) (t : Nat) : ∀ {u : Nat}, u ≤ n → n ≤ rk u + t → (∀ w, w ≤ n → w ≠ b → s w = s (P w)) → s u = s b := by
  induction t with
  | zero =>
    intro u hu h q
    by_cases e : u = b
    · rw [e]
    · have := T.2.2.2 u hu e
      have := (T.2.2.1 _ (T.2.2.1 u hu).1).2
      omega
  | succ t ih =>
    intro u hu h q
    by_cases e : u = b
    · rw [e]
    · have := T.2.2.2 u hu e
      rw [q u hu e]
      exact ih (T.2.2.1 u hu).1 (by first | decide | with_reducible assumption | omega) q
theorem leave_P (T : PTr n b P rk) (s : Nat → Bool) {v : Nat} (hv : v ≤ n) (s0 : s 0 = true) (sv : s v = false) : ∃ w, w ≤ n ∧ w ≠ b ∧ s w ≠ s (P w) := by
  by_cases q : ∃ w, w ≤ n ∧ w ≠ b ∧ s w ≠ s (P w)
  · exact q
  · exfalso
    have a : ∀ w, w ≤ n → w ≠ b → s w = s (P w) := fun w h1 h2 => by
      by_cases e : s w = s (P w)
      · exact e
      · exact absurd ⟨w, h1, h2, e⟩ q
    have e1 := cut_P T s n (u := 0) (Nat.zero_le n) (by first | decide | with_reducible assumption | omega) a
    have e2 := cut_P T s n (u := v) hv (by first | decide | with_reducible assumption | omega) a
    rw [s0] at e1
    rw [sv] at e2
    rw [← e1] at e2
    cases e2
end UNQ
/-! the CODE's tree -/
noncomputable def fuM (n : Nat) : Nat := 2 ^ (n + 1) - 1
theorem fuM_tab : ∀ n : Fin 9, fuM n.val < 512 ∧ pcn (fuM n.val) 9 = n.val + 1 ∧ ∀ v : Fin 9, isB (fuM n.val) v.val = decide (v.val ≤ n.val) := by decide +kernel
theorem fuM_b {n v : Nat} (n8 : n ≤ 8) (hv : v < 9) : isB (fuM n) v = decide (v ≤ n) := (fuM_tab ⟨n, by omega⟩).2.2 ⟨v, hv⟩
theorem MI_0 {c : Nat → Nat} {n : Nat} (n1 : 1 ≤ n) (n8 : n ≤ 8) (hc : ∀ j, j < n - 1 → c j ≤ n) : MI c n (n - 1) 0 (fuM n) := by
  obtain ⟨a, b, -⟩ := fuM_tab ⟨n, by omega⟩
  dsimp only at a b
  refine ⟨a, fun v hv q => ?_, by omega, fun j _ j2 => ⟨?_, hc j (by first | decide | with_reducible assumption | omega)⟩⟩
  · rw [fuM_b n8 hv] at q
    exact of_decide_eq_true q
  · have := hc j (by first | decide | with_reducible assumption | omega)
    rw [fuM_b n8 (by first | decide | with_reducible assumption | omega)]
    exact decide_eq_true this
noncomputable def cP (c : Nat → Nat) (n : Nat) : Nat → Nat := prD c (n - 1) 0 (fuM n)
noncomputable def cB (c : Nat → Nat) (n : Nat) : Nat := rtD c (n - 1) 0 (fuM n)
noncomputable def cRk (c : Nat → Nat) (n : Nat) : Nat → Nat := rkD c (n - 1) 0 (fuM n)
/-- what a node hangs from in the tree of a CODE -/
noncomputable def cH (c : Nat → Nat) (n v : Nat) : Nat := pvP (cP c n) (cB c n) (n + 1) 0 v
theorem cT {c : Nat → Nat} {n : Nat} (n1 : 1 ≤ n) (n8 : n ≤ 8) (hc : ∀ j, j < n - 1 → c j ≤ n) : PTr n (cB c n) (cP c n) (cRk c n) := by
  have I := MI_0 n1 n8 hc
  obtain ⟨⟨t1, t1'⟩, t2, t3, t4⟩ := TF_all n8 I
  have on : ∀ v, v ≤ n → isB (fuM n) v = true := fun v hv => by rw [fuM_b n8 (by first | decide | with_reducible assumption | omega)]; exact decide_eq_true hv
  refine ⟨t1', t4, fun v hv => ?_, fun v hv ne => t3 v (by first | decide | with_reducible assumption | omega) (on v hv) ne⟩
  obtain ⟨a, b, c1, d⟩ := t2 v (by first | decide | with_reducible assumption | omega) (on v hv)
  exact ⟨b, Nat.le_trans d (by first | decide | with_reducible assumption | omega)⟩
theorem cH_u {c f : Nat → Nat} {n : Nat} (n1 : 1 ≤ n) (n8 : n ≤ 8) (hc : ∀ j, j < n - 1 → c j ≤ n) (F : FTr n (cB c n) (cP c n) f) {v : Nat} (v1 : 1 ≤ v) (vn : v ≤ n) : f v = cH c n v :=
  (pv_f (cT n1 n8 hc) F v1 vn (n + 1) 0 (by first | decide | with_reducible assumption | omega) (fun i hi => absurd hi (Nat.not_lt_zero i))).symm
/-- while the CODE is read: what is left knows its part of the tree -/
noncomputable def PI (c : Nat → Nat) (n k i m : Nat) : Prop := i + k = n - 1 ∧ MI c n k i m ∧ (∀ v, v ≤ n → isB m v = true → cP c n v = prD c k i m v) ∧ cB c n = rtD c k i m
theorem PI_0 {c : Nat → Nat} {n : Nat} (n1 : 1 ≤ n) (n8 : n ≤ 8) (hc : ∀ j, j < n - 1 → c j ≤ n) : PI c n (n - 1) 0 (fuM n) := ⟨by omega, MI_0 n1 n8 hc, fun _ _ _ => rfl, rfl⟩
theorem PI_step {c : Nat → Nat} {n k i m : Nat} (n8 : n ≤ 8) (I : PI c n (k + 1) i m) : PI c n k (i + 1) (m - 2 ^ lfX c (k + 1) i m) ∧ cP c n (lfX c (k + 1) i m) = c i ∧ lfX c (k + 1) i m ≠ cB c n ∧ c i ≤ n ∧ c i ≠ lfX c (k + 1) i m := by
  obtain ⟨ik, M, E, R⟩ := I
  obtain ⟨h1, h2, h3, h4, h5⟩ := lf_ok M
  have J := MI_step M
  have m5 := M.1
  have eP : ∀ v, prD c (k + 1) i m v = if v = lfX c (k + 1) i m then c i else prD c k (i + 1) (m - 2 ^ lfX c (k + 1) i m) v := fun _ => rfl
  have eT : rtD c (k + 1) i m = rtD c k (i + 1) (m - 2 ^ lfX c (k + 1) i m) := rfl
  have t := (TF_all n8 J).1
  have rT := sb_T m5 h3 (by first | decide | with_reducible assumption | omega) h1 t.1
  refine ⟨⟨by omega, J, fun v hv b => ?_, by rw [R, eT]⟩, ?_, ?_, (M.2.2.2 i (Nat.le_refl i) (by first | decide | with_reducible assumption | omega)).2, (ocr_hd h2).1⟩
  · obtain ⟨ne, bv⟩ := sb_T m5 h3 (by first | decide | with_reducible assumption | omega) h1 b
    rw [E v hv bv, eP, if_neg ne]
  · rw [E _ h4 h1, eP, if_pos rfl]
  · rw [R, eT]
    exact fun q => rT.1 q.symm
theorem PI_end {c : Nat → Nat} {n i m : Nat} (I : PI c n 0 i m) : cP c n (lfX c 0 i m) = cB c n ∧ lfX c 0 i m ≠ cB c n ∧ cB c n = rtD c 0 i m := by
  obtain ⟨ik, M, E, R⟩ := I
  obtain ⟨h1, -, h3, h4, h5⟩ := lf_ok M
  obtain ⟨a1, a2, a3, -⟩ := two_ok M
  refine ⟨?_, ?_, R⟩
  · rw [E _ h4 h1, R]; rfl
  · rw [R]; omega
end
section
/-! reads0 of the reference by the pure law (written by gen_u111.py; wants u110) -/
noncomputable def RSA (A : Nat → Nat → Prop) (h0 h : pm_H) (N m : Nat) (L : List Nat) : Prop := RS h0 h N m L ∧ ∀ v, v ∈ L → A v (gn h 92 v)
theorem RSA_add {A : Nat → Nat → Prop} {h0 h : pm_H} {N m a b : Nat} {L : List Nat} (R : RSA A h0 h N m L) (hN : N ≤ 9) (ha : a < N) (hb : b < N) (h1 : isB m a = true) (h2 : isB m b = false) (hA : A b a) : RSA A h0 (pt h 92 b (nJ a)) N (m + 2 ^ b) (b :: L) := by
  refine ⟨RS_add R.1 hN ha hb h1 h2, fun v hv => ?_⟩
  by_cases e : v = b
  · rw [e, gn_ptn R.1.1 (bd_u rfl (by first | decide | with_reducible assumption | omega)) (by first | decide | with_reducible assumption | omega) (by first | decide | with_reducible assumption | omega) (by first | decide | with_reducible assumption | omega)]
    exact hA
  · rw [gn_ne (fun _ => e)]
    exact R.2 v ((List.mem_cons.mp hv).resolve_left e)
noncomputable def RQA (A : Nat → Nat → Prop) (h0 : pm_H) (N : Nat) (h' : pm_H) (r : Option Value) : Prop := r = none ∧ HH h' ∧ fr_g RM h0 h' ∧ ∀ v, 1 ≤ v → v < N → dep (gn h' 92) (N - 1) v ∧ gn h' 92 v < N ∧ A v (gn h' 92 v)
theorem RSA_end {A : Nat → Nat → Prop} {h0 h : pm_H} {N m : Nat} {L : List Nat} (R : RSA A h0 h N m L) (hN : N ≤ 9) (hm : m = 2 ^ N - 1) : RQA A h0 N h none := by
  obtain ⟨⟨r1, r2, r3, r4, r5, r6, r7, r8⟩, ra⟩ := R
  refine ⟨rfl, r1, r2, fun v h1 h2 => ?_⟩
  have hv : v ∈ L := (r6 v).mpr ⟨by omega, h2, by rw [hm]; exact all_tab ⟨N, by omega⟩ ⟨v, by omega⟩ h2⟩
  refine ⟨?_, r8 v hv, ra v hv⟩
  have := pcn_le m N
  exact dep_le (TL_dep r5 v hv) (by first | decide | with_reducible assumption | omega)
theorem ro_inA {A : Nat → Nat → Prop} {h0 : pm_H} {d N M0 : Nat} (hh0 : HH h0) (hN2 : 2 ≤ N) (hN9 : N ≤ 9) (hE : ∀ k, k < 2 * (N - 1) → gn h0 96 k < N) (hA : ∀ k, k < 2 * (N - 1) → A (gn h0 96 (xr k)) (gn h0 96 k)) (K : ∀ {h : pm_H} {m : Nat} {L : List Nat} (lv : List (Nat × Value)), RSA A h0 h N m L → (∀ v, v < N → isB M0 v = true → isB m v = true) → (∀ k, k < 2 * (N - 1) → isB M0 (gn h0 96 k) = true → isB m (gn h0 96 (xr k)) = true) → pm_get lv 0 = some (.ref 77) → pm_get lv 1 = some (.int (nJ N)) → pm_get lv 2 = some (.int (nJ m)) → Ends (pm_at tX9_roots) (pm_Rt pm_P (d + 1)) (2, lv, [], h, 0, 0) (RQA A h0 N)) (j : Nat) : ∀ {h : pm_H} {m k : Nat} {L : List Nat} (lv : List (Nat × Value)), k + j = 2 * (N - 1) → RSA A h0 h N m L → (∀ v, v < N → isB M0 v = true → isB m v = true) → (∀ k1, k1 < k → isB M0 (gn h0 96 k1) = true → isB m (gn h0 96 (xr k1)) = true) → pm_get lv 0 = some (.ref 77) → pm_get lv 1 = some (.int (nJ N)) → pm_get lv 2 = some (.int (nJ m)) → pm_get lv 3 = some (.int (nJ k)) → Ends (pm_at tX9_roots) (pm_Rt pm_P (d + 1)) (13, lv, [], h, 0, 0) (RQA A h0 N) := by
  induction j with
  | zero =>
    intro h m k L lv hj R hsub hpr L0 L1 L2 L3
    have hm5 : m < 512 := Nat.lt_of_lt_of_le R.1.2.2.1 (pow_tab ⟨N, by omega⟩).2
    refine E_il rfl L3 ?_
    refine E_ci 2 rfl ci2 ?_
    refine E_il rfl L1 ?_
    refine E_ci 1 rfl ci1 ?_
    refine E_bin rfl (nJ_sub (by first | decide | with_reducible assumption | omega)) ?_
    refine E_bin rfl (nJ_mul _ _) ?_
    refine E_icT rfl (decide_eq_true ((nJ_le (by first | decide | with_reducible assumption | omega) (by first | decide | with_reducible assumption | omega)).mpr (by first | decide | with_reducible assumption | omega))) ?_
    refine E_goto rfl ?_
    exact K lv R hsub (fun k1 hk1 a => hpr k1 (by first | decide | with_reducible assumption | omega) a) L0 L1 L2
  | succ j ih =>
    intro h m k L lv hj R hsub hpr L0 L1 L2 L3
    have hm5 : m < 512 := Nat.lt_of_lt_of_le R.1.2.2.1 (pow_tab ⟨N, by omega⟩).2
    refine E_il rfl L3 ?_
    refine E_ci 2 rfl ci2 ?_
    refine E_il rfl L1 ?_
    refine E_ci 1 rfl ci1 ?_
    refine E_bin rfl (nJ_sub (by first | decide | with_reducible assumption | omega)) ?_
    refine E_bin rfl (nJ_mul _ _) ?_
    refine E_icF rfl (decide_eq_false (fun q => absurd ((nJ_le (by first | decide | with_reducible assumption | omega) (by first | decide | with_reducible assumption | omega)).mp q) (by first | decide | with_reducible assumption | omega))) ?_
    have hek := hE k (by first | decide | with_reducible assumption | omega)
    have hxl : xr k < 2 * (N - 1) := xr_lt (by first | decide | with_reducible assumption | omega)
    have hex := hE (xr k) hxl
    refine E_al rfl L0 ?_
    refine E_gr rfl R.1.1 (q := 96) rfl ?_
    refine E_il rfl L3 ?_
    refine E_ial rfl R.1.1 rfl (by first | decide | with_reducible assumption | omega) (by decide) (show gi h 96 k = nJ ((gn h0 96 k)) from (by rw [fr_gi R.1.2.1 (rg_no rfl _)]; exact gi_gn hh0 (bd_u rfl (by first | decide | with_reducible assumption | omega)) (by decide))) ?_
    refine E_is rfl (fun lv1 L1_4 kp1 => ?_)
    have L1_0 := kp1 0 _ (nbz rfl) rfl L0
    have L1_1 := kp1 1 _ (nbz rfl) rfl L1
    have L1_2 := kp1 2 _ (nbz rfl) rfl L2
    have L1_3 := kp1 3 _ (nbz rfl) rfl L3
    refine E_al rfl L1_0 ?_
    refine E_gr rfl R.1.1 (q := 96) rfl ?_
    refine E_il rfl L1_3 ?_
    refine E_ci 1 rfl ci1 ?_
    refine E_bin rfl (show nJ k ^^^ nJ 1 = nJ (xr k) from xr_tab ⟨k, by omega⟩) ?_
    refine E_ial rfl R.1.1 rfl (by first | decide | with_reducible assumption | omega) (by decide) (show gi h 96 ((xr k)) = nJ ((gn h0 96 (xr k))) from (by rw [fr_gi R.1.2.1 (rg_no rfl _)]; exact gi_gn hh0 (bd_u rfl (by first | decide | with_reducible assumption | omega)) (by decide))) ?_
    refine E_is rfl (fun lv2 L2_5 kp2 => ?_)
    have L2_0 := kp2 0 _ (nbz rfl) rfl L1_0
    have L2_1 := kp2 1 _ (nbz rfl) rfl L1_1
    have L2_2 := kp2 2 _ (nbz rfl) rfl L1_2
    have L2_3 := kp2 3 _ (nbz rfl) rfl L1_3
    have L2_4 := kp2 4 _ (nbz rfl) rfl L1_4
    refine E_il rfl L2_2 ?_
    refine E_il rfl L2_4 ?_
    refine E_call rfl (sp_isBit (by first | decide | with_reducible assumption | omega) (by first | decide | with_reducible assumption | omega)) (chkS rfl (by show 0 ≤ 8; decide)) (fun h3 r3 => ?_)
    rintro ⟨e3, f3⟩
    rw [e3, f3]
    show Ends _ _ (46, lv2, [.int (nJ (bif isB m ((gn h0 96 k)) then 1 else 0))], h, 0, 0) _
    by_cases hb4 : isB m (gn h0 96 k) = false
    · refine E_ifT rfl (by rw [hb4]; rfl) ?_
      refine E_inc rfl L2_3 (nJ_inc _) (fun lv5 L5_3 kp5 => ?_)
      have L5_0 := kp5 0 _ (nbz rfl) rfl L2_0
      have L5_1 := kp5 1 _ (nbz rfl) rfl L2_1
      have L5_2 := kp5 2 _ (nbz rfl) rfl L2_2
      have L5_4 := kp5 4 _ (nbz rfl) rfl L2_4
      have L5_5 := kp5 5 _ (nbz rfl) rfl L2_5
      refine E_goto rfl ?_
      refine ih lv5 (by first | decide | with_reducible assumption | omega) R hsub (fun k1 hk1 a => ?_) L5_0 L5_1 L5_2 L5_3
      by_cases hkk : k1 = k
      · subst hkk; rw [hsub _ hek a] at hb4; cases hb4
      · exact hpr k1 (by first | decide | with_reducible assumption | omega) a
    · refine E_ifF rfl (by rw [Bool.not_eq_false] at hb4; rw [hb4]; rfl) ?_
      refine E_il rfl L2_2 ?_
      refine E_il rfl L2_5 ?_
      refine E_call rfl (sp_isBit (by first | decide | with_reducible assumption | omega) (by first | decide | with_reducible assumption | omega)) (chkS rfl (by show 0 ≤ 8; decide)) (fun h6 r6 => ?_)
      rintro ⟨e6, f6⟩
      rw [e6, f6]
      show Ends _ _ (55, lv2, [.int (nJ (bif isB m ((gn h0 96 (xr k))) then 1 else 0))], h, 0, 0) _
      by_cases hb7 : isB m (gn h0 96 (xr k)) = false
      · refine E_ifT rfl (by rw [hb7]; rfl) ?_
        rw [Bool.not_eq_false] at hb4
        obtain ⟨m2, hm2⟩ : ∃ m2, m2 = m + 2 ^ gn h0 96 (xr k) := ⟨_, rfl⟩
        have hm2l : m2 < 512 := by rw [hm2]; exact isB_add_lt hm5 (by first | decide | with_reducible assumption | omega) hb7
        have hup : ∀ v, v < N → isB m v = true → isB m2 v = true := fun v hv h4 => by rw [hm2, isB_add hm5 (by first | decide | with_reducible assumption | omega) (by first | decide | with_reducible assumption | omega) hb7, h4, Bool.or_true]
        refine E_al rfl L2_0 ?_
        refine E_gr rfl R.1.1 (q := 92) rfl ?_
        refine E_il rfl L2_5 ?_
        refine E_il rfl L2_4 ?_
        refine E_ias rfl R.1.1 rfl (by first | decide | with_reducible assumption | omega) (by decide) ?_
        have hh8 : HH (pt h 92 ((gn h0 96 (xr k))) (nJ ((gn h0 96 k)))) := HH_ptn R.1.1 (bd_u rfl (by first | decide | with_reducible assumption | omega)) (by first | decide | with_reducible assumption | omega) (by first | decide | with_reducible assumption | omega) (by first | decide | with_reducible assumption | omega)
        refine E_il rfl L2_2 ?_
        refine E_ci 1 rfl ci1 ?_
        refine E_il rfl L2_5 ?_
        refine E_bin rfl rfl ?_
        refine E_bin rfl (show nJ m ||| nJ 1 <<< (nJ (gn h0 96 (xr k)) &&& 31) = nJ m2 from (by rw [hm2]; exact or_new hm5 (by first | decide | with_reducible assumption | omega) hb7)) ?_
        refine E_is rfl (fun lv9 L9_2 kp9 => ?_)
        have L9_0 := kp9 0 _ (nbz rfl) rfl L2_0
        have L9_1 := kp9 1 _ (nbz rfl) rfl L2_1
        have L9_3 := kp9 3 _ (nbz rfl) rfl L2_3
        have L9_4 := kp9 4 _ (nbz rfl) rfl L2_4
        have L9_5 := kp9 5 _ (nbz rfl) rfl L2_5
        refine E_inc rfl L9_3 (nJ_inc _) (fun lv10 L10_3 kp10 => ?_)
        have L10_0 := kp10 0 _ (nbz rfl) rfl L9_0
        have L10_1 := kp10 1 _ (nbz rfl) rfl L9_1
        have L10_2 := kp10 2 _ (nbz rfl) rfl L9_2
        have L10_4 := kp10 4 _ (nbz rfl) rfl L9_4
        have L10_5 := kp10 5 _ (nbz rfl) rfl L9_5
        refine E_goto rfl ?_
        refine ih lv10 (by first | decide | with_reducible assumption | omega) (hm2 ▸ RSA_add R hN9 hek hex hb4 hb7 (hA k (by first | decide | with_reducible assumption | omega))) (fun v hv a => hup v hv (hsub v hv a)) (fun k1 hk1 a => ?_) L10_0 L10_1 L10_2 L10_3
        by_cases hkk : k1 = k
        · subst hkk; rw [hm2, isB_add hm5 (by first | decide | with_reducible assumption | omega) (by first | decide | with_reducible assumption | omega) hb7, beq_self_eq_true]; rfl
        · exact hup _ (hE _ (xr_lt (by first | decide | with_reducible assumption | omega))) (hpr k1 (by first | decide | with_reducible assumption | omega) a)
      · refine E_ifF rfl (by rw [Bool.not_eq_false] at hb7; rw [hb7]; rfl) ?_
        refine E_goto rfl ?_
        refine E_inc rfl L2_3 (nJ_inc _) (fun lv11 L11_3 kp11 => ?_)
        have L11_0 := kp11 0 _ (nbz rfl) rfl L2_0
        have L11_1 := kp11 1 _ (nbz rfl) rfl L2_1
        have L11_2 := kp11 2 _ (nbz rfl) rfl L2_2
        have L11_4 := kp11 4 _ (nbz rfl) rfl L2_4
        have L11_5 := kp11 5 _ (nbz rfl) rfl L2_5
        refine E_goto rfl ?_
        refine ih lv11 (by first | decide | with_reducible assumption | omega) R hsub (fun k1 hk1 a => ?_) L11_0 L11_1 L11_2 L11_3
        by_cases hkk : k1 = k
        · subst hkk; rw [Bool.not_eq_false] at hb7; exact hb7
        · exact hpr k1 (by first | decide | with_reducible assumption | omega) a
theorem ro_oneA {A : Nat → Nat → Prop} {h0 : pm_H} {d N u : Nat} (hh0 : HH h0) (hN2 : 2 ≤ N) (hN9 : N ≤ 9) (hE : ∀ k, k < 2 * (N - 1) → gn h0 96 k < N) (hA : ∀ k, k < 2 * (N - 1) → A (gn h0 96 (xr k)) (gn h0 96 k)) (hC : CNx h0 N) (ih : ∀ u', u = u' + 1 → ∀ {h : pm_H} {m : Nat} {L : List Nat} (lv : List (Nat × Value)), RSA A h0 h N m L → N ≤ u' + pcn m N → pm_get lv 0 = some (.ref 77) → pm_get lv 1 = some (.int (nJ N)) → pm_get lv 2 = some (.int (nJ m)) → Ends (pm_at tX9_roots) (pm_Rt pm_P (d + 1)) (2, lv, [], h, 0, 0) (RQA A h0 N)) {h : pm_H} {m : Nat} {L : List Nat} (lv : List (Nat × Value)) (R : RSA A h0 h N m L) (hu : N ≤ u + pcn m N) (L0 : pm_get lv 0 = some (.ref 77)) (L1 : pm_get lv 1 = some (.int (nJ N))) (L2 : pm_get lv 2 = some (.int (nJ m))) : Ends (pm_at tX9_roots) (pm_Rt pm_P (d + 1)) (2, lv, [], h, 0, 0) (RQA A h0 N) := by
  have hm5 : m < 512 := Nat.lt_of_lt_of_le R.1.2.2.1 (pow_tab ⟨N, by omega⟩).2
  obtain ⟨T, hT⟩ : ∃ T, T = 2 ^ N := ⟨_, rfl⟩
  have hT1 : 1 ≤ T ∧ T ≤ 512 := by rw [hT]; exact pow_tab ⟨N, by omega⟩
  refine E_il rfl L2 ?_
  refine E_ci 1 rfl ci1 ?_
  refine E_il rfl L1 ?_
  refine E_bin rfl (show nJ 1 <<< (nJ N &&& 31) = nJ T from (by rw [hT]; exact sh_tab ⟨N, by omega⟩)) ?_
  refine E_ci 1 rfl ci1 ?_
  refine E_bin rfl (nJ_sub (by first | decide | with_reducible assumption | omega)) ?_
  by_cases hb1 : m = (T - 1)
  · refine E_icT rfl (decide_eq_true ((nJ_eq (by first | decide | with_reducible assumption | omega) (by first | decide | with_reducible assumption | omega)).mpr hb1)) ?_
    exact E_ret rfl (RSA_end R hN9 (by rw [hT] at hb1; exact hb1))
  · refine E_icF rfl (decide_eq_false (fun q => hb1 ((nJ_eq (by first | decide | with_reducible assumption | omega) (by first | decide | with_reducible assumption | omega)).mp q))) ?_
    refine E_ci 0 rfl ci0 ?_
    refine E_is rfl (fun lv2 L2_3 kp2 => ?_)
    have L2_0 := kp2 0 _ (nbz rfl) rfl L0
    have L2_1 := kp2 1 _ (nbz rfl) rfl L1
    have L2_2 := kp2 2 _ (nbz rfl) rfl L2
    obtain ⟨v0, hv1, hv2⟩ := full_tab ⟨N, by omega⟩ ⟨m, hm5⟩ R.1.2.2.1 (by rw [hT] at hb1; exact hb1)
    have hpl : pcn m N < N := pcn_lt hv2 hv1
    obtain ⟨k0, hk0, hk1, hk2⟩ := hC m hm5 R.1.2.2.2.1 ⟨v0, hv1, hv2⟩
    refine ro_inA hh0 hN2 hN9 hE hA (fun {h'} {m'} {L'} lv' R' sub' pr' a b c => ?_) (2 * (N - 1)) (k := 0) lv2 (by first | decide | with_reducible assumption | omega) R (fun _ _ a => a) (fun k1 hk1 _ => absurd hk1 (Nat.not_lt_zero _)) L2_0 L2_1 L2_2 L2_3
    have := pcn_slt (n := N) sub' (hE _ (xr_lt hk0)) hk2 (pr' k0 hk0 hk1)
    cases u with
    | zero => exfalso; omega
    | succ u => exact ih u rfl lv' R' (by first | decide | with_reducible assumption | omega) a b c
theorem ro_outA {A : Nat → Nat → Prop} {h0 : pm_H} {d N : Nat} (hh0 : HH h0) (hN2 : 2 ≤ N) (hN9 : N ≤ 9) (hE : ∀ k, k < 2 * (N - 1) → gn h0 96 k < N) (hA : ∀ k, k < 2 * (N - 1) → A (gn h0 96 (xr k)) (gn h0 96 k)) (hC : CNx h0 N) : ∀ (u : Nat) {h : pm_H} {m : Nat} {L : List Nat} (lv : List (Nat × Value)), RSA A h0 h N m L → N ≤ u + pcn m N → pm_get lv 0 = some (.ref 77) → pm_get lv 1 = some (.int (nJ N)) → pm_get lv 2 = some (.int (nJ m)) → Ends (pm_at tX9_roots) (pm_Rt pm_P (d + 1)) (2, lv, [], h, 0, 0) (RQA A h0 N)
  | 0 => ro_oneA hh0 hN2 hN9 hE hA hC (fun u' hu' => by omega)
  | u + 1 => ro_oneA hh0 hN2 hN9 hE hA hC (fun u' hu' => by
      have : u' = u := by omega
      subst this
      exact @ro_outA A h0 d N hh0 hN2 hN9 hE hA hC u')
theorem sp_rootsA {A : Nat → Nat → Prop} {h0 : pm_H} {d N : Nat} (hh : HH h0) (hN2 : 2 ≤ N) (hN9 : N ≤ 9) (hE : ∀ k, k < 2 * (N - 1) → gn h0 96 k < N) (hA : ∀ k, k < 2 * (N - 1) → A (gn h0 96 (xr k)) (gn h0 96 k)) (hC : CNx h0 N) : Sp (d + 2) 337 h0 [.ref 77, .int (nJ N)] (RQA A h0 N) := by
  refine Sp_of aiX9_roots rfl rfl rfl ?_
  refine E_ci 1 rfl ci1 ?_
  refine E_is rfl (fun lv1 L1_2 kp1 => ?_)
  have L1_0 := kp1 0 _ (nbz rfl) rfl (show pm_get (lv_args 0 [.ref 77, .int (nJ N)]) 0 = _ from rfl)
  have L1_1 := kp1 1 _ (nbz rfl) rfl (show pm_get (lv_args 0 [.ref 77, .int (nJ N)]) 1 = _ from rfl)
  refine ro_outA hh hN2 hN9 hE hA hC N (m := 1) (L := []) lv1 ⟨⟨hh, fr_rf _ _, one_tab ⟨N, by omega⟩ hN2, rfl, trivial, fun v => ⟨fun hv => absurd hv List.not_mem_nil, fun ⟨q1, q2, q3⟩ => absurd q3 (by rw [one_bit ⟨v, by omega⟩ q1]; decide)⟩, pc1_tab ⟨N, by omega⟩ hN2, fun v hv => absurd hv List.not_mem_nil⟩, fun v hv => absurd hv List.not_mem_nil⟩ (by first | decide | with_reducible assumption | omega) L1_0 L1_1 L1_2
/-- limbs of a node as the reference counts them -/
noncomputable def lmM (c : Nat → Nat) (k i m v : Nat) : Nat := bif isB m v then 1 + ocr c v k i else 0
theorem lmM_T {c : Nat → Nat} {k i m v : Nat} (b : isB m v = true) : lmM c k i m v = 1 + ocr c v k i := by unfold lmM; rw [b]; rfl
theorem lmM_F {c : Nat → Nat} {k i m v : Nat} (b : isB m v = false) : lmM c k i m v = 0 := by unfold lmM; rw [b]; rfl
theorem lmM_1 {c : Nat → Nat} {k i m v : Nat} : lmM c k i m v = 1 ↔ isB m v = true ∧ ocr c v k i = 0 := by
  cases b : isB m v
  · rw [lmM_F b]
    exact ⟨fun q => by omega, fun q => by cases q.1⟩
  · rw [lmM_T b]
    exact ⟨fun q => ⟨rfl, by omega⟩, fun q => by omega⟩
theorem lmM_lt {c : Nat → Nat} {k i m v : Nat} (hk : k ≤ 8) : lmM c k i m v < 100 := by
  have := ocr_le c v k i
  unfold lmM
  cases isB m v
  · show 0 < 100; omega
  · show 1 + ocr c v k i < 100; omega
theorem xr_odd (i : Nat) : xr (2 * i + 1) = 2 * i := by unfold xr; rw [if_neg (by first | decide | with_reducible assumption | omega)]; omega
/-- the limbs written so far -/
noncomputable def EDG (c : Nat → Nat) (n i : Nat) (h : pm_H) : Prop := ∀ q, q < i → gn h 96 (2 * q) ≤ n ∧ gn h 96 (2 * q + 1) ≤ n ∧ gn h 96 (2 * q) ≠ cB c n ∧ cP c n (gn h 96 (2 * q)) = gn h 96 (2 * q + 1)
noncomputable def RX (c : Nat → Nat) (n : Nat) (h0 h : pm_H) (i k m : Nat) : Prop := HH h ∧ fr_g DM h0 h ∧ (∀ v, v < n + 1 → gi h 94 v = nJ (lmM c k i m v)) ∧ PI c n k i m ∧ EDG c n i h ∧ ∀ v, v ≤ n → isB m v = false → ∃ q, q < i ∧ gn h 96 (2 * q) = v
noncomputable def DQX (c : Nat → Nat) (n : Nat) (h0 h' : pm_H) (r : Option Value) : Prop := r = none ∧ HH h' ∧ fr_g DM h0 h' ∧ (∀ v, 1 ≤ v → v ≤ n → gi h' 92 v = nJ (cH c n v)) ∧ DT n (cH c n)
theorem dep_cgX {f pa : Nat → Nat} {n : Nat} (e : ∀ v, 1 ≤ v → v ≤ n → f v = pa v) (D : ∀ v, 1 ≤ v → v ≤ n → pa v ≤ n) : ∀ (k : Nat) {v : Nat}, v ≤ n → dep pa k v → dep f k v
  | 0, _, _, q => q
  | k + 1, v, hv, q => by
    by_cases z : v = 0
    · exact .inl z
    · refine .inr ?_
      rw [e v (Nat.pos_of_ne_zero z) hv]
      exact dep_cgX e D k (D v (Nat.pos_of_ne_zero z) hv) (q.resolve_left z)
section RDX
variable {h0 : pm_H} {d n : Nat} {c : Nat → Nat}
theorem ed_add {h h' : pm_H} {i x w : Nat} (hE : EDG c n i h) (e0 : ∀ q, q < 2 * i → gn h' 96 q = gn h 96 q) (e1 : gn h' 96 (2 * i) = x) (e2 : gn h' 96 (2 * i + 1) = w) (xn : x ≤ n) (wn : w ≤ n) (xb : x ≠ cB c n) (xp : cP c n x = w) : EDG c n (i + 1) h' := by
  intro q hq
  by_cases e : q = i
  · rw [e, e1, e2]
    exact ⟨xn, wn, xb, xp⟩
  · rw [e0 _ (by first | decide | with_reducible assumption | omega), e0 _ (by first | decide | with_reducible assumption | omega)]
    exact hE q (by first | decide | with_reducible assumption | omega)
theorem rdX_end {h : pm_H} (n1 : 1 ≤ n) (n8 : n ≤ 8) (hc : ∀ j, j < n - 1 → c j ≤ n) (E : EDG c n n h) (all : ∀ v, v ≤ n → v ≠ cB c n → ∃ q, q < n ∧ gn h 96 (2 * q) = v) : (∀ k, k < 2 * (n + 1 - 1) → gn h 96 k < n + 1) ∧ (∀ k, k < 2 * (n + 1 - 1) → AJ (cP c n) (cB c n) (gn h 96 (xr k)) (gn h 96 k)) ∧ CNx h (n + 1) := by
  have T := cT n1 n8 hc
  have par : ∀ k, k < 2 * (n + 1 - 1) → ∃ q, q < n ∧ (k = 2 * q ∨ k = 2 * q + 1) := fun k hk => ⟨k / 2, by omega, by omega⟩
  refine ⟨fun k hk => ?_, fun k hk => ?_, fun m hm b0 ⟨v, v1, v2⟩ => ?_⟩
  · obtain ⟨q, q1, q2⟩ := par k hk
    obtain ⟨a, b, -⟩ := E q q1
    rcases q2 with q2 | q2 <;> rw [q2] <;> omega
  · obtain ⟨q, q1, q2⟩ := par k hk
    obtain ⟨-, -, a, b⟩ := E q q1
    rcases q2 with q2 | q2
    · rw [q2, xr_even]; exact .inr ⟨a, b⟩
    · rw [q2, xr_odd]; exact .inl ⟨a, b⟩
  · obtain ⟨w, w1, w2, w3⟩ := leave_P T (isB m) (v := v) (by first | decide | with_reducible assumption | omega) b0 v2
    obtain ⟨q, q1, q2⟩ := all w w1 w2
    obtain ⟨-, -, -, p⟩ := E q q1
    rw [q2] at p
    rw [p] at w3
    rcases ne_bool w3 with e | e
    · exact ⟨2 * q, by omega, by rw [q2]; exact e.1, by rw [xr_even]; exact e.2⟩
    · exact ⟨2 * q + 1, by omega, e.2, by rw [xr_odd, q2]; exact e.1⟩
theorem rdX_last (n1 : 1 ≤ n) (n8 : n ≤ 8) (hc : ∀ j, j < n - 1 → c j ≤ n) {h : pm_H} {m a b : Nat} (R : RX c n h0 h (n - 1) 0 m) (ea : a = lfX c 0 (n - 1) m) (eb : b = cB c n) (lv : List (Nat × Value)) (L0 : pm_get lv 0 = some (.ref 77)) (L1 : pm_get lv 1 = some (.int (nJ (n + 1)))) (L2 : pm_get lv 2 = some (.int (nJ (2 * (n - 1))))) (L3 : pm_get lv 3 = some (.int (nJ a))) (L4 : pm_get lv 4 = some (.int (nJ b))) : Ends (pm_at tX9_reads0) (pm_Rt pm_P (d + 2)) (175, lv, [], h, 0, 0) (DQX c n h0) := by
  obtain ⟨hh, fr, -, I, E, al⟩ := R
  obtain ⟨p1, p2, p3⟩ := PI_end I
  obtain ⟨h1, -, h3, h4, -⟩ := lf_ok I.2.1
  obtain ⟨a1, a2, a3, a4, a5, -⟩ := two_ok I.2.1
  rw [← ea] at p1 p2 h1 h3 h4 a3 a5
  rw [← p3, ← eb] at a1 a2 a3 a4 a5
  refine E_al rfl L0 ?_
  refine E_gr rfl hh (q := 96) rfl ?_
  refine E_il rfl L2 ?_
  refine E_il rfl L3 ?_
  refine E_ias rfl hh rfl (by first | decide | with_reducible assumption | omega) (by decide) ?_
  have b96 : bd 96 (2 * (n - 1)) = some (0, 8) := bd_u rfl (by first | decide | with_reducible assumption | omega)
  have hh1 : HH (pt h 96 (2 * (n - 1)) (nJ a)) := HH_ptn hh b96 (by first | decide | with_reducible assumption | omega) (by first | decide | with_reducible assumption | omega) (by first | decide | with_reducible assumption | omega)
  have k1 : gn (pt h 96 (2 * (n - 1)) (nJ a)) 96 (2 * (n - 1)) = a := gn_ptn hh b96 (by first | decide | with_reducible assumption | omega) (by first | decide | with_reducible assumption | omega) (by first | decide | with_reducible assumption | omega)
  have k2 : ∀ q, q < 2 * (n - 1) → gn (pt h 96 (2 * (n - 1)) (nJ a)) 96 q = gn h 96 q := fun q hq => gn_ne (fun _ => by omega)
  have fr1 : fr_g DM h0 (pt h 96 (2 * (n - 1)) (nJ a)) := fr_ptr (l := 0) (u := 17) rfl (by first | decide | with_reducible assumption | omega) (by first | decide | with_reducible assumption | omega) fr
  generalize pt h 96 (2 * (n - 1)) (nJ a) = g1 at hh1 k1 k2 fr1 ⊢
  refine E_al rfl L0 ?_
  refine E_gr rfl hh1 (q := 96) rfl ?_
  refine E_il rfl L2 ?_
  refine E_ci 1 rfl ci1 ?_
  refine E_bin rfl (nJ_add _ _) ?_
  refine E_il rfl L4 ?_
  refine E_ias rfl hh1 rfl (by first | decide | with_reducible assumption | omega) (by decide) ?_
  have b96' : bd 96 (2 * (n - 1) + 1) = some (0, 8) := bd_u rfl (by first | decide | with_reducible assumption | omega)
  have hh2 : HH (pt g1 96 (2 * (n - 1) + 1) (nJ b)) := HH_ptn hh1 b96' (by first | decide | with_reducible assumption | omega) (by first | decide | with_reducible assumption | omega) (by first | decide | with_reducible assumption | omega)
  have m1 : gn (pt g1 96 (2 * (n - 1) + 1) (nJ b)) 96 (2 * (n - 1) + 1) = b := gn_ptn hh1 b96' (by first | decide | with_reducible assumption | omega) (by first | decide | with_reducible assumption | omega) (by first | decide | with_reducible assumption | omega)
  have m2 : ∀ q, q < 2 * (n - 1) + 1 → gn (pt g1 96 (2 * (n - 1) + 1) (nJ b)) 96 q = gn g1 96 q := fun q hq => gn_ne (fun _ => by omega)
  have fr2 : fr_g DM h0 (pt g1 96 (2 * (n - 1) + 1) (nJ b)) := fr_ptr (l := 0) (u := 17) rfl (by first | decide | with_reducible assumption | omega) (by first | decide | with_reducible assumption | omega) fr1
  generalize pt g1 96 (2 * (n - 1) + 1) (nJ b) = g2 at hh2 m1 m2 fr2 ⊢
  have E2 : EDG c n (n - 1 + 1) g2 := ed_add E (fun q hq => by rw [m2 q (by first | decide | with_reducible assumption | omega), k2 q hq]) (by rw [m2 _ (by first | decide | with_reducible assumption | omega)]; exact k1) m1 h4 a2 p2 (by rw [p1, eb])
  rw [show n - 1 + 1 = n by omega] at E2
  have al2 : ∀ v, v ≤ n → v ≠ cB c n → ∃ q, q < n ∧ gn g2 96 (2 * q) = v := fun v hv ne => by
    cases bv : isB m v
    · obtain ⟨q, q1, q2⟩ := al v hv bv
      exact ⟨q, by omega, by rw [m2 _ (by first | decide | with_reducible assumption | omega), k2 _ (by first | decide | with_reducible assumption | omega)]; exact q2⟩
    · have := (a5 v (by first | decide | with_reducible assumption | omega) bv).resolve_right (fun q => ne (by rw [q, eb]))
      exact ⟨n - 1, by omega, by rw [m2 _ (by first | decide | with_reducible assumption | omega), k1, this]⟩
  obtain ⟨z1, z2, z3⟩ := rdX_end n1 n8 hc E2 al2
  refine E_al rfl L0 ?_
  refine E_il rfl L1 ?_
  refine E_call rfl (sp_rootsA (d := d) (N := n + 1) hh2 (by first | decide | with_reducible assumption | omega) (by first | decide | with_reducible assumption | omega) z1 z2 z3) (chk77 hh2 rfl rfl (by show 0 ≤ 8; decide)) (fun h9 r9 => ?_)
  rintro ⟨e9, hh9, fr9, q9⟩
  rw [e9]
  show Ends _ _ (197, lv, [], h9, 0, 0) _
  have F : FTr n (cB c n) (cP c n) (gn h9 92) := fun v v1 vn => by
    obtain ⟨x1, x2, x3⟩ := q9 v v1 (by first | decide | with_reducible assumption | omega)
    exact ⟨by omega, x3, _, x1⟩
  have eH : ∀ v, 1 ≤ v → v ≤ n → gn h9 92 v = cH c n v := fun v v1 vn => cH_u n1 n8 hc F v1 vn
  refine E_ret rfl ⟨rfl, hh9, fr_trans fr2 (fr_wk rfl fr9), fun v v1 vn => ?_, fun v v1 vn => ?_⟩
  · rw [← eH v v1 vn]
    exact gi_gn hh9 (bd_u rfl (by first | decide | with_reducible assumption | omega)) (by decide)
  · obtain ⟨x1, x2, x3⟩ := q9 v v1 (by first | decide | with_reducible assumption | omega)
    refine ⟨?_, by rw [← eH v v1 vn]; omega⟩
    refine dep_cgX (fun w w1 wn => (eH w w1 wn).symm) (fun w w1 wn => by have := (q9 w w1 (by first | decide | with_reducible assumption | omega)).2.1; omega) n vn ?_
    exact x1
theorem rdX_two (n1 : 1 ≤ n) (n8 : n ≤ 8) (hc : ∀ j, j < n - 1 → c j ≤ n) {h : pm_H} {m : Nat} (R : RX c n h0 h (n - 1) 0 m) (lv : List (Nat × Value)) (L0 : pm_get lv 0 = some (.ref 77)) (L1 : pm_get lv 1 = some (.int (nJ (n + 1)))) (L2 : pm_get lv 2 = some (.int (nJ (2 * (n - 1))))) : Ends (pm_at tX9_reads0) (pm_Rt pm_P (d + 2)) (135, lv, [], h, 0, 0) (DQX c n h0) := by
  have I := R.2.2.2.1
  obtain ⟨h1, h2, h3, h4, h5⟩ := lf_ok I.2.1
  obtain ⟨a1, a2, a3, a4, a5, a6⟩ := two_ok I.2.1
  refine E_ci 0 rfl ci0 ?_
  refine E_is rfl (fun lv1 L1_3 kp1 => ?_)
  have L1_0 := kp1 0 _ (nbz rfl) rfl L0
  have L1_1 := kp1 1 _ (nbz rfl) rfl L1
  have L1_2 := kp1 2 _ (nbz rfl) rfl L2
  refine rd_s2 (N := n + 1) (s := 0) (y := lfX c 0 (n - 1) m) R.1 (by first | decide | with_reducible assumption | omega) R.2.2.1 (fun v _ => lmM_lt (by first | decide | with_reducible assumption | omega)) (by first | decide | with_reducible assumption | omega) (lmM_1.mpr ⟨h1, h2⟩) (fun {x} lv1 hx _ hlx hbe K0 K1 K2 K3 => ?_) (lfX c 0 (n - 1) m) lv1 (by first | decide | with_reducible assumption | omega) (Nat.zero_le _) (fun v h1 h2 => by omega) L1_0 L1_1 L1_2 L1_3
  have xb := lmM_1.mp hlx
  have ex : x = lfX c 0 (n - 1) m := lf_u I.2.1 xb.1 xb.2 (fun y hy q => hbe y (Nat.zero_le y) hy (lmM_1.mpr q))
  refine E_il rfl K3 ?_
  refine E_ci 1 rfl ci1 ?_
  refine E_bin rfl (nJ_add _ _) ?_
  refine E_is rfl (fun lv1 L1_4 kp1 => ?_)
  have L1_0 := kp1 0 _ (nbz rfl) rfl K0
  have L1_1 := kp1 1 _ (nbz rfl) rfl K1
  have L1_2 := kp1 2 _ (nbz rfl) rfl K2
  have L1_3 := kp1 3 _ (nbz rfl) rfl K3
  refine rd_s3 (N := n + 1) (s := x + 1) (y := rtD c 0 (n - 1) m) R.1 (by first | decide | with_reducible assumption | omega) R.2.2.1 (fun v _ => lmM_lt (by first | decide | with_reducible assumption | omega)) (by first | decide | with_reducible assumption | omega) (lmM_1.mpr ⟨a1, rfl⟩) (fun {x2} lv2 q1 q2 q3 q4 b0 b1 b2 b3 b4 => ?_) (rtD c 0 (n - 1) m - (x + 1)) lv1 (by first | decide | with_reducible assumption | omega) (Nat.le_refl _) (fun v h1 h2 => by omega) L1_0 L1_1 L1_2 L1_3 L1_4
  have y2 := (lmM_1.mp q3).1
  have : x2 = rtD c 0 (n - 1) m := (a5 x2 (by first | decide | with_reducible assumption | omega) y2).resolve_left (by first | decide | with_reducible assumption | omega)
  exact rdX_last n1 n8 hc R ex (by rw [this]; exact I.2.2.2.symm) lv2 b0 b1 b2 b3 b4
theorem rdX_loop (n1 : 1 ≤ n) (n8 : n ≤ 8) (hc : ∀ j, j < n - 1 → c j ≤ n) (hC : ∀ j, j < n - 1 → gi h0 95 j = nJ (c j)) (k : Nat) : ∀ {h : pm_H} {i m : Nat} (lv : List (Nat × Value)), RX c n h0 h i k m → pm_get lv 0 = some (.ref 77) → pm_get lv 1 = some (.int (nJ (n + 1))) → pm_get lv 2 = some (.int (nJ (2 * i))) → pm_get lv 3 = some (.int (nJ i)) → Ends (pm_at tX9_reads0) (pm_Rt pm_P (d + 2)) (54, lv, [], h, 0, 0) (DQX c n h0) := by
  induction k with
  | zero =>
    intro h i m lv R L0 L1 L2 L3
    have hj := R.2.2.2.1.1
    have hiN : i = n - 1 := by omega
    refine E_il rfl L3 ?_
    refine E_il rfl L1 ?_
    refine E_ci 2 rfl ci2 ?_
    refine E_bin rfl (nJ_sub (by first | decide | with_reducible assumption | omega)) ?_
    refine E_icT rfl (decide_eq_true ((nJ_le (by first | decide | with_reducible assumption | omega) (by first | decide | with_reducible assumption | omega)).mpr (by first | decide | with_reducible assumption | omega))) ?_
    exact rdX_two n1 n8 hc (hiN ▸ R) lv L0 L1 (hiN ▸ L2)
  | succ k ih =>
    intro h i m lv R L0 L1 L2 L3
    obtain ⟨hh, fr, l94, I, E, al⟩ := R
    have hj := I.1
    obtain ⟨h1, h2, h3, h4, h5⟩ := lf_ok I.2.1
    obtain ⟨J, p1, p2, p3, p4⟩ := PI_step n8 I
    have m5 := I.2.1.1
    refine E_il rfl L3 ?_
    refine E_il rfl L1 ?_
    refine E_ci 2 rfl ci2 ?_
    refine E_bin rfl (nJ_sub (by first | decide | with_reducible assumption | omega)) ?_
    refine E_icF rfl (decide_eq_false (fun q => absurd ((nJ_le (by first | decide | with_reducible assumption | omega) (by first | decide | with_reducible assumption | omega)).mp q) (by first | decide | with_reducible assumption | omega))) ?_
    refine E_ci 0 rfl ci0 ?_
    refine E_is rfl (fun lv1 L1_4 kp1 => ?_)
    have L1_0 := kp1 0 _ (nbz rfl) rfl L0
    have L1_1 := kp1 1 _ (nbz rfl) rfl L1
    have L1_2 := kp1 2 _ (nbz rfl) rfl L2
    have L1_3 := kp1 3 _ (nbz rfl) rfl L3
    refine rd_s1 (N := n + 1) (s := 0) (y := lfX c (k + 1) i m) hh (by first | decide | with_reducible assumption | omega) l94 (fun v _ => lmM_lt (by first | decide | with_reducible assumption | omega)) (by first | decide | with_reducible assumption | omega) (lmM_1.mpr ⟨h1, h2⟩) (fun {x} lv1 hx _ hlx hbe K0 K1 K2 K3 K4 => ?_) (lfX c (k + 1) i m) lv1 (by first | decide | with_reducible assumption | omega) (Nat.zero_le _) (fun v h1 h2 => by omega) L1_0 L1_1 L1_2 L1_3 L1_4
    have xb := lmM_1.mp hlx
    have ex : x = lfX c (k + 1) i m := lf_u I.2.1 xb.1 xb.2 (fun y hy q => hbe y (Nat.zero_le y) hy (lmM_1.mpr q))
    rw [← ex] at h1 h2 h3 h4 J p1 p2 p4
    have cb := (I.2.1.2.2.2 i (Nat.le_refl i) (by first | decide | with_reducible assumption | omega)).1
    have lc : lmM c (k + 1) i m (c i) = 1 + (1 + ocr c (c i) k (i + 1)) := by
      rw [lmM_T cb]
      show 1 + ((if c i = c i then 1 else 0) + ocr c (c i) k (i + 1)) = _
      rw [if_pos rfl]
    have oc := ocr_le c (c i) k (i + 1)
    refine E_al rfl K0 ?_
    refine E_gr rfl hh (q := 96) rfl ?_
    refine E_il rfl K2 ?_
    refine E_il rfl K4 ?_
    refine E_ias rfl hh rfl (by first | decide | with_reducible assumption | omega) (by decide) ?_
    have b96 : bd 96 (2 * i) = some (0, 8) := bd_u rfl (by first | decide | with_reducible assumption | omega)
    have hh1 : HH (pt h 96 (2 * i) (nJ x)) := HH_ptn hh b96 (by first | decide | with_reducible assumption | omega) (by first | decide | with_reducible assumption | omega) (by first | decide | with_reducible assumption | omega)
    have k1 : gn (pt h 96 (2 * i) (nJ x)) 96 (2 * i) = x := gn_ptn hh b96 (by first | decide | with_reducible assumption | omega) (by first | decide | with_reducible assumption | omega) (by first | decide | with_reducible assumption | omega)
    have k2 : ∀ q, q < 2 * i → gn (pt h 96 (2 * i) (nJ x)) 96 q = gn h 96 q := fun q hq => gn_ne (fun _ => by omega)
    have k3 : ∀ v, gi (pt h 96 (2 * i) (nJ x)) 94 v = gi h 94 v := fun v => gi_ne (by first | exact gxx rfl | omega)
    have fr1 : fr_g DM h0 (pt h 96 (2 * i) (nJ x)) := fr_ptr (l := 0) (u := 17) rfl (by first | decide | with_reducible assumption | omega) (by first | decide | with_reducible assumption | omega) fr
    generalize pt h 96 (2 * i) (nJ x) = g1 at hh1 k1 k2 k3 fr1 ⊢
    refine E_al rfl K0 ?_
    refine E_gr rfl hh1 (q := 96) rfl ?_
    refine E_il rfl K2 ?_
    refine E_ci 1 rfl ci1 ?_
    refine E_bin rfl (nJ_add _ _) ?_
    refine E_al rfl K0 ?_
    refine E_gr rfl hh1 (q := 95) rfl ?_
    refine E_il rfl K3 ?_
    refine E_ial rfl hh1 rfl (by first | decide | with_reducible assumption | omega) (by decide) (show gi g1 95 i = nJ (c i) from by rw [fr_gi fr1 (rg_no rfl _)]; exact hC i (by first | decide | with_reducible assumption | omega)) ?_
    refine E_ias rfl hh1 rfl (by first | decide | with_reducible assumption | omega) (by decide) ?_
    have b96' : bd 96 (2 * i + 1) = some (0, 8) := bd_u rfl (by first | decide | with_reducible assumption | omega)
    have hh2 : HH (pt g1 96 (2 * i + 1) (nJ (c i))) := HH_ptn hh1 b96' (by first | decide | with_reducible assumption | omega) (by first | decide | with_reducible assumption | omega) (by first | decide | with_reducible assumption | omega)
    have m1 : gn (pt g1 96 (2 * i + 1) (nJ (c i))) 96 (2 * i + 1) = c i := gn_ptn hh1 b96' (by first | decide | with_reducible assumption | omega) (by first | decide | with_reducible assumption | omega) (by first | decide | with_reducible assumption | omega)
    have m2 : ∀ q, q < 2 * i + 1 → gn (pt g1 96 (2 * i + 1) (nJ (c i))) 96 q = gn g1 96 q := fun q hq => gn_ne (fun _ => by omega)
    have m3 : ∀ v, gi (pt g1 96 (2 * i + 1) (nJ (c i))) 94 v = gi g1 94 v := fun v => gi_ne (by first | exact gxx rfl | omega)
    have fr2 : fr_g DM h0 (pt g1 96 (2 * i + 1) (nJ (c i))) := fr_ptr (l := 0) (u := 17) rfl (by first | decide | with_reducible assumption | omega) (by first | decide | with_reducible assumption | omega) fr1
    generalize pt g1 96 (2 * i + 1) (nJ (c i)) = g2 at hh2 m1 m2 m3 fr2 ⊢
    have E2 : EDG c n (i + 1) g2 := ed_add E (fun q hq => by rw [m2 q (by first | decide | with_reducible assumption | omega), k2 q hq]) (by rw [m2 _ (by first | decide | with_reducible assumption | omega)]; exact k1) m1 h4 p3 p2 p1
    refine E_inc rfl K2 (nJ_inc2 _) (fun lv3 L3_2 kp3 => ?_)
    have L3_0 := kp3 0 _ (nbz rfl) rfl K0
    have L3_1 := kp3 1 _ (nbz rfl) rfl K1
    have L3_3 := kp3 3 _ (nbz rfl) rfl K3
    have L3_4 := kp3 4 _ (nbz rfl) rfl K4
    refine E_al rfl L3_0 ?_
    refine E_gr rfl hh2 (q := 94) rfl ?_
    refine E_il rfl L3_4 ?_
    refine E_ci 0 rfl ci0 ?_
    refine E_ias rfl hh2 rfl (by first | decide | with_reducible assumption | omega) (by decide) ?_
    have b94 : bd 94 x = some (-2147483648, 2147483647) := bd_u rfl (by first | decide | with_reducible assumption | omega)
    have hh3 : HH (pt g2 94 x (nJ 0)) := HH_ptn hh2 b94 (by first | decide | with_reducible assumption | omega) (by first | decide | with_reducible assumption | omega) (by first | decide | with_reducible assumption | omega)
    have w1 : gi (pt g2 94 x (nJ 0)) 94 x = nJ 0 := gi_ptn hh2 b94 (by first | decide | with_reducible assumption | omega) (by first | decide | with_reducible assumption | omega) (by first | decide | with_reducible assumption | omega)
    have w2 : ∀ v, v ≠ x → gi (pt g2 94 x (nJ 0)) 94 v = gi g2 94 v := fun v hv => gi_ne (fun _ => hv)
    have w3 : ∀ q, gn (pt g2 94 x (nJ 0)) 96 q = gn g2 96 q := fun q => gn_ne (by first | exact gxx rfl | omega)
    have fr3 : fr_g DM h0 (pt g2 94 x (nJ 0)) := fr_ptr (l := 0) (u := 8) rfl (by first | decide | with_reducible assumption | omega) (by first | decide | with_reducible assumption | omega) fr2
    generalize pt g2 94 x (nJ 0) = g3 at hh3 w1 w2 w3 fr3 ⊢
    refine E_al rfl L3_0 ?_
    refine E_gr rfl hh3 (q := 94) rfl ?_
    refine E_al rfl L3_0 ?_
    refine E_gr rfl hh3 (q := 95) rfl ?_
    refine E_il rfl L3_3 ?_
    refine E_ial rfl hh3 rfl (by first | decide | with_reducible assumption | omega) (by decide) (show gi g3 95 i = nJ (c i) from by rw [fr_gi fr3 (rg_no rfl _)]; exact hC i (by first | decide | with_reducible assumption | omega)) ?_
    refine E_dup2 rfl rfl rfl ?_
    refine E_ial rfl hh3 rfl (by first | decide | with_reducible assumption | omega) (by decide) (show gi g3 94 (c i) = nJ (1 + (1 + ocr c (c i) k (i + 1))) from by rw [w2 _ p4, m3, k3, l94 _ (by first | decide | with_reducible assumption | omega), lc]) ?_
    refine E_ci 1 rfl ci1 ?_
    refine E_bin rfl (nJ_sub (by first | decide | with_reducible assumption | omega)) ?_
    refine E_ias rfl hh3 rfl (by first | decide | with_reducible assumption | omega) (by decide) ?_
    have b94' : bd 94 (c i) = some (-2147483648, 2147483647) := bd_u rfl (by first | decide | with_reducible assumption | omega)
    have hh4 : HH (pt g3 94 (c i) (nJ (1 + (1 + ocr c (c i) k (i + 1)) - 1))) := HH_ptn hh3 b94' (by first | decide | with_reducible assumption | omega) (by first | decide | with_reducible assumption | omega) (by first | decide | with_reducible assumption | omega)
    have y1 : gi (pt g3 94 (c i) (nJ (1 + (1 + ocr c (c i) k (i + 1)) - 1))) 94 (c i) = nJ (1 + (1 + ocr c (c i) k (i + 1)) - 1) := gi_ptn hh3 b94' (by first | decide | with_reducible assumption | omega) (by first | decide | with_reducible assumption | omega) (by first | decide | with_reducible assumption | omega)
    have y2 : ∀ v, v ≠ c i → gi (pt g3 94 (c i) (nJ (1 + (1 + ocr c (c i) k (i + 1)) - 1))) 94 v = gi g3 94 v := fun v hv => gi_ne (fun _ => hv)
    have y3 : ∀ q, gn (pt g3 94 (c i) (nJ (1 + (1 + ocr c (c i) k (i + 1)) - 1))) 96 q = gn g3 96 q := fun q => gn_ne (by first | exact gxx rfl | omega)
    have fr4 : fr_g DM h0 (pt g3 94 (c i) (nJ (1 + (1 + ocr c (c i) k (i + 1)) - 1))) := fr_ptr (l := 0) (u := 8) rfl (by first | decide | with_reducible assumption | omega) (by first | decide | with_reducible assumption | omega) fr3
    generalize pt g3 94 (c i) (nJ (1 + (1 + ocr c (c i) k (i + 1)) - 1)) = g4 at hh4 y1 y2 y3 fr4 ⊢
    refine E_inc rfl L3_3 (nJ_inc _) (fun lv6 L6_3 kp6 => ?_)
    have L6_0 := kp6 0 _ (nbz rfl) rfl L3_0
    have L6_1 := kp6 1 _ (nbz rfl) rfl L3_1
    have L6_2 := kp6 2 _ (nbz rfl) rfl L3_2
    refine E_goto rfl ?_
    refine ih lv6 ⟨hh4, fr4, fun v hv => ?_, J, fun q hq => ?_, fun v hv b => ?_⟩ L6_0 L6_1 L6_2 L6_3
    · by_cases e : v = c i
      · rw [e, y1, lmM_T (by rw [sb_ne m5 h3 (by first | decide | with_reducible assumption | omega) h1 p4]; exact cb)]
        exact congrArg nJ (by first | decide | with_reducible assumption | omega)
      · rw [y2 v e]
        by_cases e2 : v = x
        · rw [e2, w1, lmM_F]
          rw [sb_bit m5 h3 h3 h1, show (x == x) = true from beq_self_eq_true _]; rfl
        · rw [w2 v e2, m3, k3, l94 v hv]
          have eb : isB (m - 2 ^ x) v = isB m v := sb_ne m5 h3 (by first | decide | with_reducible assumption | omega) h1 e2
          cases bv : isB m v
          · rw [lmM_F bv, lmM_F (by rw [eb]; exact bv)]
          · rw [lmM_T bv, lmM_T (by rw [eb]; exact bv)]
            show nJ (1 + ((if c i = v then 1 else 0) + ocr c v k (i + 1))) = _
            rw [if_neg (fun q => e q.symm), Nat.zero_add]
    · rw [y3, y3, w3, w3]; exact E2 q hq
    · by_cases e : v = x
      · exact ⟨i, by omega, by rw [y3, w3, m2 _ (by first | decide | with_reducible assumption | omega), k1, e]⟩
      · rw [sb_ne m5 h3 (by first | decide | with_reducible assumption | omega) h1 e] at b
        obtain ⟨q, q1, q2⟩ := al v hv b
        exact ⟨q, by omega, by rw [y3, w3, m2 _ (by first | decide | with_reducible assumption | omega), k2 _ (by first | decide | with_reducible assumption | omega)]; exact q2⟩
theorem rdX_cnt (n1 : 1 ≤ n) (n8 : n ≤ 8) (hc : ∀ j, j < n - 1 → c j ≤ n) (hC : ∀ j, j < n - 1 → gi h0 95 j = nJ (c j)) (k : Nat) : ∀ {h : pm_H} {i : Nat} {l : Nat → Nat} (lv : List (Nat × Value)), i + k = n - 1 → HH h → fr_g DM h0 h → (∀ v, v < n + 1 → gi h 94 v = nJ (l v)) → (∀ v, v < n + 1 → l v + ocr c v k i = 1 + ocr c v (n - 1) 0) → pm_get lv 0 = some (.ref 77) → pm_get lv 1 = some (.int (nJ (n + 1))) → pm_get lv 2 = some (.int (nJ i)) → Ends (pm_at tX9_reads0) (pm_Rt pm_P (d + 2)) (22, lv, [], h, 0, 0) (DQX c n h0) := by
  induction k with
  | zero =>
    intro h i l lv hj hh hfr hl ho L0 L1 L2
    refine E_il rfl L2 ?_
    refine E_il rfl L1 ?_
    refine E_ci 2 rfl ci2 ?_
    refine E_bin rfl (nJ_sub (by first | decide | with_reducible assumption | omega)) ?_
    refine E_icT rfl (decide_eq_true ((nJ_le (by first | decide | with_reducible assumption | omega) (by first | decide | with_reducible assumption | omega)).mpr (by first | decide | with_reducible assumption | omega))) ?_
    refine E_ci 0 rfl ci0 ?_
    refine E_is rfl (fun lv1 L1_2 kp1 => ?_)
    have L1_0 := kp1 0 _ (nbz rfl) rfl L0
    have L1_1 := kp1 1 _ (nbz rfl) rfl L1
    refine E_ci 0 rfl ci0 ?_
    refine E_is rfl (fun lv2 L2_3 kp2 => ?_)
    have L2_0 := kp2 0 _ (nbz rfl) rfl L1_0
    have L2_1 := kp2 1 _ (nbz rfl) rfl L1_1
    have L2_2 := kp2 2 _ (nbz rfl) rfl L1_2
    have on : ∀ v, v ≤ n → isB (fuM n) v = true := fun v hv => by rw [fuM_b n8 (by first | decide | with_reducible assumption | omega)]; exact decide_eq_true hv
    refine rdX_loop n1 n8 hc hC (n - 1) (i := 0) (m := fuM n) lv2 ⟨hh, hfr, fun v hv => ?_, PI_0 n1 n8 hc, fun q hq => absurd hq (Nat.not_lt_zero q), fun v hv b => ?_⟩ L2_0 L2_1 L2_2 L2_3
    · have := ho v hv
      have h3 : ocr c v 0 i = 0 := rfl
      rw [hl v hv, lmM_T (on v (by first | decide | with_reducible assumption | omega))]
      exact congrArg nJ (by first | decide | with_reducible assumption | omega)
    · rw [on v hv] at b; cases b
  | succ k ih =>
    intro h i l lv hj hh hfr hl ho L0 L1 L2
    have hl8 : ∀ v, v < n + 1 → l v < 100 := fun v hv => by have := ho v hv; have := ocr_le c v (n - 1) 0; omega
    have hci := hc i (by first | decide | with_reducible assumption | omega)
    have hlc := ho _ (show c i < n + 1 by omega)
    have o8 := ocr_le c (c i) (n - 1) 0
    have oh : ocr c (c i) (k + 1) i = 1 + ocr c (c i) k (i + 1) := by
      show (if c i = c i then 1 else 0) + _ = _
      rw [if_pos rfl]
    refine E_il rfl L2 ?_
    refine E_il rfl L1 ?_
    refine E_ci 2 rfl ci2 ?_
    refine E_bin rfl (nJ_sub (by first | decide | with_reducible assumption | omega)) ?_
    refine E_icF rfl (decide_eq_false (fun q => absurd ((nJ_le (by first | decide | with_reducible assumption | omega) (by first | decide | with_reducible assumption | omega)).mp q) (by first | decide | with_reducible assumption | omega))) ?_
    refine E_al rfl L0 ?_
    refine E_gr rfl hh (q := 94) rfl ?_
    refine E_al rfl L0 ?_
    refine E_gr rfl hh (q := 95) rfl ?_
    refine E_il rfl L2 ?_
    refine E_ial rfl hh rfl (by first | decide | with_reducible assumption | omega) (by decide) (show gi h 95 i = nJ (c i) from by rw [fr_gi hfr (rg_no rfl _)]; exact hC i (by first | decide | with_reducible assumption | omega)) ?_
    refine E_dup2 rfl rfl rfl ?_
    refine E_ial rfl hh rfl (by first | decide | with_reducible assumption | omega) (by decide) (show gi h 94 (c i) = nJ (l (c i)) from hl _ (by first | decide | with_reducible assumption | omega)) ?_
    refine E_ci 1 rfl ci1 ?_
    refine E_bin rfl (nJ_add _ _) ?_
    refine E_ias rfl hh rfl (by first | decide | with_reducible assumption | omega) (by decide) ?_
    have b94 : bd 94 (c i) = some (-2147483648, 2147483647) := bd_u rfl (by first | decide | with_reducible assumption | omega)
    have hh1 : HH (pt h 94 (c i) (nJ (l (c i) + 1))) := HH_ptn hh b94 (by first | decide | with_reducible assumption | omega) (by first | decide | with_reducible assumption | omega) (by first | decide | with_reducible assumption | omega)
    refine E_inc rfl L2 (nJ_inc _) (fun lv2 L2_2 kp2 => ?_)
    have L2_0 := kp2 0 _ (nbz rfl) rfl L0
    have L2_1 := kp2 1 _ (nbz rfl) rfl L1
    refine E_goto rfl ?_
    refine ih (l := fu l (c i) (l (c i) + 1)) lv2 (by first | decide | with_reducible assumption | omega) hh1 (fr_ptr (l := 0) (u := 8) rfl (by first | decide | with_reducible assumption | omega) (by first | decide | with_reducible assumption | omega) hfr) (fun v hv => ?_) (fun v hv => ?_) L2_0 L2_1 L2_2
    · by_cases e : v = c i
      · rw [e, fu_same]; exact gi_ptn hh b94 (by first | decide | with_reducible assumption | omega) (by first | decide | with_reducible assumption | omega) (by first | decide | with_reducible assumption | omega)
      · rw [fu_ne e, gi_ne (fun _ => e)]; exact hl v hv
    · have h1 := ho v hv
      have h2 : ocr c v (k + 1) i = (if c i = v then 1 else 0) + ocr c v k (i + 1) := rfl
      by_cases e : v = c i
      · rw [e, fu_same]; omega
      · rw [if_neg (fun q => e q.symm)] at h2; rw [fu_ne e]; omega
theorem rdX_one (n1 : 1 ≤ n) (n8 : n ≤ 8) (hc : ∀ j, j < n - 1 → c j ≤ n) (hC : ∀ j, j < n - 1 → gi h0 95 j = nJ (c j)) (k : Nat) : ∀ {h : pm_H} {i : Nat} (lv : List (Nat × Value)), i + k = n + 1 → HH h → fr_g DM h0 h → (∀ v, v < i → gi h 94 v = nJ 1) → pm_get lv 0 = some (.ref 77) → pm_get lv 1 = some (.int (nJ (n + 1))) → pm_get lv 2 = some (.int (nJ i)) → Ends (pm_at tX9_reads0) (pm_Rt pm_P (d + 2)) (2, lv, [], h, 0, 0) (DQX c n h0) := by
  induction k with
  | zero =>
    intro h i lv hj hh hfr hl L0 L1 L2
    refine E_il rfl L2 ?_
    refine E_il rfl L1 ?_
    refine E_icT rfl (decide_eq_true ((nJ_le (by first | decide | with_reducible assumption | omega) (by first | decide | with_reducible assumption | omega)).mpr (by first | decide | with_reducible assumption | omega))) ?_
    refine E_ci 0 rfl ci0 ?_
    refine E_is rfl (fun lv1 L1_2 kp1 => ?_)
    have L1_0 := kp1 0 _ (nbz rfl) rfl L0
    have L1_1 := kp1 1 _ (nbz rfl) rfl L1
    exact rdX_cnt n1 n8 hc hC (n - 1) (i := 0) (l := fun _ => 1) lv1 (by first | decide | with_reducible assumption | omega) hh hfr (fun v hv => hl v (by first | decide | with_reducible assumption | omega)) (fun v hv => rfl) L1_0 L1_1 L1_2
  | succ k ih =>
    intro h i lv hj hh hfr hl L0 L1 L2
    refine E_il rfl L2 ?_
    refine E_il rfl L1 ?_
    refine E_icF rfl (decide_eq_false (fun q => absurd ((nJ_le (by first | decide | with_reducible assumption | omega) (by first | decide | with_reducible assumption | omega)).mp q) (by first | decide | with_reducible assumption | omega))) ?_
    refine E_al rfl L0 ?_
    refine E_gr rfl hh (q := 94) rfl ?_
    refine E_il rfl L2 ?_
    refine E_ci 1 rfl ci1 ?_
    refine E_ias rfl hh rfl (by first | decide | with_reducible assumption | omega) (by decide) ?_
    have hh1 : HH (pt h 94 i (nJ 1)) := HH_ptn hh (bd_u rfl (by first | decide | with_reducible assumption | omega)) (by first | decide | with_reducible assumption | omega) (by first | decide | with_reducible assumption | omega) (by first | decide | with_reducible assumption | omega)
    refine E_inc rfl L2 (nJ_inc _) (fun lv2 L2_2 kp2 => ?_)
    have L2_0 := kp2 0 _ (nbz rfl) rfl L0
    have L2_1 := kp2 1 _ (nbz rfl) rfl L1
    refine E_goto rfl ?_
    refine ih lv2 (by first | decide | with_reducible assumption | omega) hh1 (fr_ptr (l := 0) (u := 8) rfl (by first | decide | with_reducible assumption | omega) (by first | decide | with_reducible assumption | omega) hfr) (fun v hv => ?_) L2_0 L2_1 L2_2
    by_cases e : v = i
    · rw [e]; exact gi_ptn hh (bd_u rfl (by first | decide | with_reducible assumption | omega)) (by first | decide | with_reducible assumption | omega) (by first | decide | with_reducible assumption | omega) (by first | decide | with_reducible assumption | omega)
    · rw [gi_ne (fun _ => e)]; exact hl v (by first | decide | with_reducible assumption | omega)
theorem sp_reads0X (hh : HH h0) (n1 : 1 ≤ n) (n8 : n ≤ 8) (hc : ∀ j, j < n - 1 → c j ≤ n) (hC : ∀ j, j < n - 1 → gi h0 95 j = nJ (c j)) : Sp (d + 3) 330 h0 [.ref 77, .int (nJ (n + 1))] (DQX c n h0) := by
  refine Sp_of aiX9_reads0 rfl rfl rfl ?_
  refine E_ci 0 rfl ci0 ?_
  refine E_is rfl (fun lv1 L1_2 kp1 => ?_)
  have L1_0 := kp1 0 _ (nbz rfl) rfl (show pm_get (lv_args 0 [.ref 77, .int (nJ (n + 1))]) 0 = _ from rfl)
  have L1_1 := kp1 1 _ (nbz rfl) rfl (show pm_get (lv_args 0 [.ref 77, .int (nJ (n + 1))]) 1 = _ from rfl)
  exact rdX_one n1 n8 hc hC (n + 1) (i := 0) lv1 (by first | decide | with_reducible assumption | omega) hh (fr_rf _ _) (fun v hv => absurd hv (Nat.not_lt_zero _)) L1_0 L1_1 L1_2
end RDX
end
section
/-! the CODE's tree is one; its order (wants u110, u97) -/
section CHT
variable {n b : Nat} {P rk : Nat → Nat}
theorem it_inj (T : PTr n b P rk) {i k : Nat} (h1 : itP P i ≠ b) (h2 : itP P k ≠ b) (e : P (itP P i) = P (itP P k)) : itP P i = itP P k := by
  have l1 := T.2.2.2 _ (it_le T i) h1
  have l2 := T.2.2.2 _ (it_le T k) h2
  by_cases c1 : i < k
  · have := it_rk T (j := i + 1) (k := k) (by first | decide | with_reducible assumption | omega)
    have e1 : itP P (i + 1) = P (itP P i) := rfl
    rw [e1, e] at this
    omega
  · by_cases c2 : k < i
    · have := it_rk T (j := k + 1) (k := i) (by first | decide | with_reducible assumption | omega)
      have e1 : itP P (k + 1) = P (itP P k) := rfl
      rw [e1, ← e] at this
      omega
    · rw [show i = k by omega]
theorem it_reach (T : PTr n b P rk) (t : Nat) : ∀ j, n ≤ rk (itP P j) + t → ∃ i, itP P i = b := by
  induction t with
  | zero =>
    intro j h
    by_cases e : itP P j = b
    · exact ⟨j, e⟩
    · have := T.2.2.2 _ (it_le T j) e
      have := (T.2.2.1 _ (it_le T (j + 1))).2
      have e1 : itP P (j + 1) = P (itP P j) := rfl
      rw [e1] at this
      omega
  | succ t ih =>
    intro j h
    by_cases e : itP P j = b
    · exact ⟨j, e⟩
    · have := T.2.2.2 _ (it_le T j) e
      exact ih (j + 1) (by show n ≤ rk (P (itP P j)) + t; omega)
theorem it_pre (b0 : b ≠ 0) : ∀ {j : Nat}, itP P j = b → ∃ i, itP P i ≠ b ∧ P (itP P i) = b
  | 0, e => absurd (show b = 0 from e.symm) b0
  | j + 1, e => by
    by_cases q : itP P j = b
    · exact it_pre b0 q
    · exact ⟨j, q, e⟩
theorem pv_sp (T : PTr n b P rk) {v : Nat} : ∀ (u j : Nat), n < u + rk (itP P j) → (∀ i, i < j → P (itP P i) ≠ v) → (∃ i, itP P i ≠ b ∧ P (itP P i) = v ∧ pvP P b u (itP P j) v = itP P i) ∨ ((∀ i, itP P i ≠ b → P (itP P i) ≠ v) ∧ pvP P b u (itP P j) v = P v)
  | 0, j, h, _ => by have := (T.2.2.1 _ (it_le T j)).2; omega
  | u + 1, j, h, no => by
    have e : pvP P b (u + 1) (itP P j) v = if itP P j = b then P v else if P (itP P j) = v then itP P j else pvP P b u (P (itP P j)) v := rfl
    rw [e]
    by_cases z : itP P j = b
    · rw [if_pos z]
      refine .inr ⟨fun i hi q => ?_, rfl⟩
      by_cases c : i < j
      · exact no i c q
      · exact hi (by have := it_b T z (i - j); rw [show j + (i - j) = i by omega] at this; exact this)
    · rw [if_neg z]
      by_cases y : P (itP P j) = v
      · rw [if_pos y]
        exact .inl ⟨j, z, y, rfl⟩
      · rw [if_neg y]
        have lt := T.2.2.2 _ (it_le T j) z
        exact pv_sp T u (j + 1) (by show n < u + rk (P (itP P j)); omega) (fun i hi => by
          by_cases e : i = j
          · rw [e]; exact y
          · exact no i (by first | decide | with_reducible assumption | omega))
theorem cut_H (T : PTr n b P rk) {f : Nat → Nat} (hf : ∀ v, f v = pvP P b (n + 1) 0 v) : (∀ v, 1 ≤ v → v ≤ n → f v ≤ n ∧ AJ P b v (f v)) ∧ (∀ k, itP P k ≠ b → f (P (itP P k)) = itP P k) ∧ ∀ v, (∀ i, itP P i ≠ b → P (itP P i) ≠ v) → f v = P v := by
  have sp : ∀ v, (∃ i, itP P i ≠ b ∧ P (itP P i) = v ∧ f v = itP P i) ∨ ((∀ i, itP P i ≠ b → P (itP P i) ≠ v) ∧ f v = P v) := fun v => by
    rw [hf v]
    exact pv_sp T (v := v) (n + 1) 0 (by first | decide | with_reducible assumption | omega) (fun i hi => absurd hi (Nat.not_lt_zero i))
  refine ⟨fun v v1 vn => ?_, fun k hk => ?_, fun v hv => ?_⟩
  · rcases sp v with ⟨i, i1, i2, i3⟩ | ⟨i1, i2⟩
    · rw [i3]
      exact ⟨it_le T i, .inr ⟨i1, i2⟩⟩
    · rw [i2]
      refine ⟨(T.2.2.1 v vn).1, .inl ⟨fun e => ?_, rfl⟩⟩
      obtain ⟨j, hj⟩ := it_reach T n 0 (by first | decide | with_reducible assumption | omega)
      obtain ⟨i, h1, h2⟩ := it_pre (b := b) (by first | decide | with_reducible assumption | omega) hj
      exact i1 i h1 (by rw [h2, e])
  · rcases sp (P (itP P k)) with ⟨i, i1, i2, i3⟩ | ⟨i1, i2⟩
    · rw [i3]; exact it_inj T i1 hk i2
    · exact absurd rfl (i1 k hk)
  · rcases sp v with ⟨i, i1, i2, i3⟩ | ⟨i1, i2⟩
    · exact absurd i2 (hv i i1)
    · exact i2
theorem dep_it (T : PTr n b P rk) {f : Nat → Nat} (on : ∀ k, itP P k ≠ b → f (P (itP P k)) = itP P k) : ∀ k, dep f k (itP P k)
  | 0 => rfl
  | k + 1 => by
    by_cases e : itP P k = b
    · have : itP P (k + 1) = itP P k := by
        show P (itP P k) = _
        rw [e]; exact T.2.1
      rw [this]
      exact dep_up1 (dep_it T on k)
    · refine .inr ?_
      show dep f k (f (P (itP P k)))
      rw [on k e]
      exact dep_it T on k
theorem dep_H (T : PTr n b P rk) {f : Nat → Nat} (on : ∀ k, itP P k ≠ b → f (P (itP P k)) = itP P k) (off : ∀ v, (∀ i, itP P i ≠ b → P (itP P i) ≠ v) → f v = P v) (t : Nat) : ∀ v, v ≤ n → n ≤ rk v + t → ∃ e, dep f e v := by
  have onp : ∀ v, (∃ i, itP P i = v) → ∃ e, dep f e v := fun v ⟨i, hi⟩ => ⟨i, by rw [← hi]; exact dep_it T on i⟩
  have key : ∀ v, v ≤ n → ¬ (∃ i, itP P i = v) → f v = P v ∧ rk v < rk (P v) := fun v hv q => by
    refine ⟨off v (fun i _ z => q ⟨i + 1, z⟩), T.2.2.2 v hv (fun e => ?_)⟩
    obtain ⟨j, hj⟩ := it_reach T n 0 (by first | decide | with_reducible assumption | omega)
    exact q ⟨j, by rw [hj, e]⟩
  induction t with
  | zero =>
    intro v hv h
    by_cases q : ∃ i, itP P i = v
    · exact onp v q
    · have := (key v hv q).2
      have := (T.2.2.1 _ (T.2.2.1 v hv).1).2
      omega
  | succ t ih =>
    intro v hv h
    by_cases q : ∃ i, itP P i = v
    · exact onp v q
    · obtain ⟨k1, k2⟩ := key v hv q
      obtain ⟨e, he⟩ := ih (P v) (T.2.2.1 v hv).1 (by first | decide | with_reducible assumption | omega)
      exact ⟨e + 1, .inr (by rw [k1]; exact he)⟩
theorem near_H (T : PTr n b P rk) {f : Nat → Nat} (on : ∀ k, itP P k ≠ b → f (P (itP P k)) = itP P k) (off : ∀ v, (∀ i, itP P i ≠ b → P (itP P i) ≠ v) → f v = P v) {u v : Nat} (a : AJ P b u v) (v0 : v ≠ 0) : f v = u ∨ (u ≠ 0 ∧ f u = v) := by
  have key : ∀ {x y : Nat}, x ≠ b → P x = y → f y = x ∨ (x ≠ 0 ∧ f x = y) := fun {x y} hx hy => by
    by_cases q : ∃ i, itP P i = x
    · obtain ⟨i, hi⟩ := q
      left
      have := on i (by rw [hi]; exact hx)
      rw [hi, hy] at this
      exact this
    · right
      refine ⟨fun e => q ⟨0, by rw [e]; rfl⟩, ?_⟩
      rw [off x (fun i _ z => q ⟨i + 1, z⟩), hy]
  rcases a with ⟨h1, h2⟩ | ⟨h1, h2⟩
  · rcases key h1 h2 with q | q
    · exact .inl q
    · exact .inr q
  · rcases key h1 h2 with q | q
    · by_cases u0 : u = 0
      · -- v is left towards 0: it can't be
        left
        obtain ⟨h3, h4⟩ : v ≠ b ∧ P v = 0 := ⟨h1, by rw [h2, u0]⟩
        by_cases w : ∃ i, itP P i = v
        · obtain ⟨i, hi⟩ := w
          exfalso
          have l := T.2.2.2 _ (it_le T i) (by rw [hi]; exact h3)
          have l0 := it_rk T (j := 0) (k := i) (Nat.zero_le i)
          rw [hi, h4] at l
          have z : itP P 0 = 0 := rfl
          rw [z, hi] at l0
          omega
        · rw [off v (fun i _ z => w ⟨i + 1, z⟩), h2]
      · exact .inr ⟨u0, q⟩
    · exact .inl q.2
end CHT
theorem cH_all {c : Nat → Nat} {n : Nat} (n1 : 1 ≤ n) (n8 : n ≤ 8) (hc : ∀ j, j < n - 1 → c j ≤ n) : (∀ v, 1 ≤ v → v ≤ n → cH c n v ≤ n ∧ AJ (cP c n) (cB c n) v (cH c n v)) ∧ (∀ v, v ≤ n → ∃ e, dep (cH c n) e v) ∧ ∀ u v, AJ (cP c n) (cB c n) u v → v ≠ 0 → cH c n v = u ∨ (u ≠ 0 ∧ cH c n u = v) := by
  have T := cT n1 n8 hc
  obtain ⟨h1, h2, h3⟩ := cut_H T (f := cH c n) (fun _ => rfl)
  exact ⟨h1, fun v hv => dep_H T h2 h3 n v hv (by first | decide | with_reducible assumption | omega), fun u v a v0 => near_H T h2 h3 a v0⟩
/-! the order in which NODES come -/
noncomputable abbrev BFT : Type := (Nat → Nat) × Nat
noncomputable def bfS (f : Nat → Nat) (fr v : Nat) (s : BFT) : BFT := if f v = fr then (fup s.1 s.2 v, s.2 + 1) else s
noncomputable def bfI (f : Nat → Nat) (fr : Nat) (s : BFT) : Nat → BFT
  | 0 => s
  | v + 1 => bfS f fr (v + 1) (bfI f fr s v)
noncomputable def bfO (f : Nat → Nat) (n : Nat) : Nat → BFT
  | 0 => (fun _ => 0, 1)
  | i + 1 => bfI f ((bfO f n i).1 i) (bfO f n i) n
noncomputable def bfV (f : Nat → Nat) (n i v : Nat) (s : BFT) : Prop := (1 ≤ s.2 ∧ s.1 0 = 0) ∧ (∀ q, 1 ≤ q → q < s.2 → (1 ≤ s.1 q ∧ s.1 q ≤ n) ∧ ∃ q', q' < q ∧ f (s.1 q) = s.1 q' ∧ (q' < i ∨ (q' = i ∧ s.1 q ≤ v))) ∧ (∀ q q', q < s.2 → q' < s.2 → s.1 q = s.1 q' → q = q') ∧ ∀ w, 1 ≤ w → w ≤ n → (∃ q, q < s.2 ∧ f w = s.1 q ∧ (q < i ∨ (q = i ∧ w ≤ v))) → ∃ q, 1 ≤ q ∧ q < s.2 ∧ s.1 q = w
section BFS
variable {f : Nat → Nat} {n : Nat}
/-- a node that hangs from the i-th has not come before it is looked at -/
theorem bfV_new {i v : Nat} {s : BFT} (hi : i < s.2) (V : bfV f n i v s) (e : f (v + 1) = s.1 i) : ∀ q, q < s.2 → s.1 q ≠ v + 1 := fun q hq z => by
  obtain ⟨⟨v1, v2⟩, v3, v4, v5⟩ := V
  by_cases q0 : q = 0
  · rw [q0, v2] at z; omega
  · obtain ⟨-, q', l, h1, h2⟩ := v3 q (by first | decide | with_reducible assumption | omega) hq
    rw [z, e] at h1
    have := v4 i q' hi (by first | decide | with_reducible assumption | omega) h1
    omega
theorem bfV_step {i v : Nat} {s : BFT} (hv : v < n) (hi : i < s.2) (V : bfV f n i v s) : bfV f n i (v + 1) (bfS f (s.1 i) (v + 1) s) := by
  have nw := bfV_new hi V
  obtain ⟨⟨v1, v2⟩, v3, v4, v5⟩ := V
  unfold bfS
  by_cases e : f (v + 1) = s.1 i
  · rw [if_pos e]
    have nw := nw e
    have o : ∀ q, q ≠ s.2 → fup s.1 s.2 (v + 1) q = s.1 q := fun q hq => fup_n hq
    have os : fup s.1 s.2 (v + 1) s.2 = v + 1 := fup_s _ _ _
    refine ⟨⟨by show 1 ≤ s.2 + 1; omega, by show fup s.1 s.2 (v + 1) 0 = 0; rw [o 0 (by first | decide | with_reducible assumption | omega)]; exact v2⟩, fun q q1 q2 => ?_, fun q q' h1 h2 h3 => ?_, fun w w1 w2 ⟨q, h1, h2, h3⟩ => ?_⟩
    · show (1 ≤ fup s.1 s.2 (v + 1) q ∧ fup s.1 s.2 (v + 1) q ≤ n) ∧ ∃ q', q' < q ∧ f (fup s.1 s.2 (v + 1) q) = fup s.1 s.2 (v + 1) q' ∧ (q' < i ∨ (q' = i ∧ fup s.1 s.2 (v + 1) q ≤ v + 1))
      have q2 : q < s.2 + 1 := q2
      by_cases a : q = s.2
      · rw [a, os]
        exact ⟨⟨by omega, by omega⟩, i, hi, by rw [o i (by first | decide | with_reducible assumption | omega)]; exact e, .inr ⟨rfl, by omega⟩⟩
      · rw [o q a]
        obtain ⟨a1, q', a2, a3, a4⟩ := v3 q q1 (by first | decide | with_reducible assumption | omega)
        exact ⟨a1, q', a2, by rw [o q' (by first | decide | with_reducible assumption | omega)]; exact a3, by omega⟩
    · have h1 : q < s.2 + 1 := h1
      have h2 : q' < s.2 + 1 := h2
      have h3 : fup s.1 s.2 (v + 1) q = fup s.1 s.2 (v + 1) q' := h3
      by_cases a : q = s.2
      · by_cases a' : q' = s.2
        · omega
        · rw [a, os, o q' a'] at h3
          exact absurd h3.symm (nw q' (by first | decide | with_reducible assumption | omega))
      · by_cases a' : q' = s.2
        · rw [a', os, o q a] at h3
          exact absurd h3 (nw q (by first | decide | with_reducible assumption | omega))
        · rw [o q a, o q' a'] at h3
          exact v4 q q' (by first | decide | with_reducible assumption | omega) (by first | decide | with_reducible assumption | omega) h3
    · show ∃ q, 1 ≤ q ∧ q < s.2 + 1 ∧ fup s.1 s.2 (v + 1) q = w
      have h1 : q < s.2 + 1 := h1
      have h2 : f w = fup s.1 s.2 (v + 1) q := h2
      by_cases a : w = v + 1
      · exact ⟨s.2, by omega, by omega, by rw [os, a]⟩
      · have qi : q < s.2 := by omega
        rw [o q (by first | decide | with_reducible assumption | omega)] at h2
        obtain ⟨q1, b1, b2, b3⟩ := v5 w w1 w2 ⟨q, qi, h2, by omega⟩
        exact ⟨q1, b1, by omega, by rw [o q1 (by first | decide | with_reducible assumption | omega)]; exact b3⟩
  · rw [if_neg e]
    refine ⟨⟨v1, v2⟩, fun q q1 q2 => ?_, v4, fun w w1 w2 ⟨q, h1, h2, h3⟩ => ?_⟩
    · obtain ⟨a1, q', a2, a3, a4⟩ := v3 q q1 q2
      exact ⟨a1, q', a2, a3, by omega⟩
    · by_cases a : w = v + 1
      · rcases h3 with h3 | ⟨h3, -⟩
        · exact v5 w w1 w2 ⟨q, h1, h2, .inl h3⟩
        · rw [h3] at h2
          rw [a] at h2
          exact absurd h2 e
      · exact v5 w w1 w2 ⟨q, h1, h2, by omega⟩
theorem bfS_2 {fr v : Nat} {s : BFT} : s.2 ≤ (bfS f fr v s).2 ∧ ∀ q, q < s.2 → (bfS f fr v s).1 q = s.1 q := by
  unfold bfS
  by_cases e : f v = fr
  · rw [if_pos e]
    exact ⟨by show s.2 ≤ s.2 + 1; omega, fun q hq => fup_n (by first | decide | with_reducible assumption | omega)⟩
  · rw [if_neg e]
    exact ⟨Nat.le_refl _, fun _ _ => rfl⟩
theorem bfI_2 {fr : Nat} {s : BFT} : ∀ v, s.2 ≤ (bfI f fr s v).2 ∧ ∀ q, q < s.2 → (bfI f fr s v).1 q = s.1 q
  | 0 => ⟨Nat.le_refl _, fun _ _ => rfl⟩
  | v + 1 => by
    obtain ⟨a1, a2⟩ := bfI_2 (fr := fr) (s := s) v
    obtain ⟨b1, b2⟩ := bfS_2 (f := f) (fr := fr) (v := v + 1) (s := bfI f fr s v)
    exact ⟨Nat.le_trans a1 b1, fun q hq => by
      show (bfS f fr (v + 1) (bfI f fr s v)).1 q = _
      rw [b2 q (by first | decide | with_reducible assumption | omega), a2 q hq]⟩
theorem bfV_in {i : Nat} {s : BFT} (hi : i < s.2) (V : bfV f n i 0 s) : ∀ {v : Nat}, v ≤ n → bfV f n i v (bfI f (s.1 i) s v)
  | 0, _ => V
  | v + 1, h => by
    obtain ⟨a1, a2⟩ := bfI_2 (f := f) (fr := s.1 i) (s := s) v
    have := bfV_step (v := v) (by first | decide | with_reducible assumption | omega) (by first | decide | with_reducible assumption | omega) (bfV_in hi V (v := v) (by first | decide | with_reducible assumption | omega))
    rw [a2 i hi] at this
    exact this
theorem bfV_next {i : Nat} {s : BFT} (V : bfV f n i n s) : bfV f n (i + 1) 0 s := by
  obtain ⟨v0, v3, v4, v5⟩ := V
  refine ⟨v0, fun q q1 q2 => ?_, v4, fun w w1 w2 ⟨q, h1, h2, h3⟩ => v5 w w1 w2 ⟨q, h1, h2, by omega⟩⟩
  obtain ⟨a1, q', a2, a3, a4⟩ := v3 q q1 q2
  exact ⟨a1, q', a2, a3, by omega⟩
/-- rows without one number twice are no longer than there are numbers -/
theorem ce_one {o : Nat → Nat} {p : Nat} : ∀ {m : Nat}, (∀ q q', q < m → q' < m → o q = o q' → q = q') → ce o p m ≤ 1
  | 0, _ => Nat.zero_le 1
  | m + 1, inj => by
    have ih := ce_one (o := o) (p := p) (m := m) (fun q q' h1 h2 h3 => inj q q' (by first | decide | with_reducible assumption | omega) (by first | decide | with_reducible assumption | omega) h3)
    by_cases e : o m = p
    · rw [ce_T e]
      have : ce o p m = 0 := by
        by_cases z : ce o p m = 0
        · exact z
        · exfalso
          have : ∀ {m' : Nat}, m' ≤ m → ce o p m' ≠ 0 → False := by
            intro m'
            induction m' with
            | zero => intro _ h; exact h rfl
            | succ m' ih2 =>
              intro hm h
              by_cases e2 : o m' = p
              · have := inj m' m (by first | decide | with_reducible assumption | omega) (by first | decide | with_reducible assumption | omega) (by rw [e2, e])
                omega
              · rw [ce_F e2] at h
                exact ih2 (by first | decide | with_reducible assumption | omega) h
          exact this (Nat.le_refl m) z
      omega
    · rw [ce_F e]; exact ih
theorem cw_inj {o : Nat → Nat} {m : Nat} (inj : ∀ q q', q < m → q' < m → o q = o q' → q = q') : ∀ k, cw o k m ≤ k + 1
  | 0 => by
    have : ∀ {j : Nat}, cw o 0 j = ce o 0 j := by
      intro j
      induction j with
      | zero => rfl
      | succ j ih =>
        by_cases e : o j = 0
        · rw [cw_T (by first | decide | with_reducible assumption | omega), ce_T e, ih]
        · rw [cw_F (by first | decide | with_reducible assumption | omega), ce_F e, ih]; omega
    rw [this]
    exact ce_one inj
  | k + 1 => by
    rw [cw_succ]
    have := cw_inj inj k
    have := ce_one (p := k + 1) inj
    omega
theorem cw_full {o : Nat → Nat} {k : Nat} : ∀ {m : Nat}, (∀ q, q < m → o q ≤ k) → cw o k m = m
  | 0, _ => rfl
  | m + 1, h => by rw [cw_T (h m (by first | decide | with_reducible assumption | omega)), cw_full (fun q hq => h q (by first | decide | with_reducible assumption | omega))]
theorem cw_sur {o : Nat → Nat} {m : Nat} : ∀ {k : Nat}, (∀ w, w ≤ k → ∃ q, q < m ∧ o q = w) → k + 1 ≤ cw o k m
  | 0, h => by
    obtain ⟨q, q1, q2⟩ := h 0 (Nat.le_refl 0)
    have : ∀ {j : Nat}, q < j → 1 ≤ cw o 0 j := by
      intro j
      induction j with
      | zero => intro h; omega
      | succ j ih =>
        intro hq
        by_cases e : o j ≤ 0
        · rw [cw_T e]; omega
        · have : q ≠ j := fun z => e (by rw [← z]; omega)
          rw [cw_F e]
          have := ih (by first | decide | with_reducible assumption | omega)
          omega
    exact this q1
  | k + 1, h => by
    have a := cw_sur (o := o) (m := m) (k := k) (fun w hw => h w (by first | decide | with_reducible assumption | omega))
    obtain ⟨q, q1, q2⟩ := h (k + 1) (Nat.le_refl _)
    have b := ce_lt o (k + 1) q1 q2
    rw [cw_succ]
    omega
theorem bfV_le {i v : Nat} {s : BFT} (V : bfV f n i v s) : s.2 ≤ n + 1 ∧ ∀ q, q < s.2 → s.1 q ≤ n := by
  obtain ⟨⟨v1, v2⟩, v3, v4, v5⟩ := V
  have le : ∀ q, q < s.2 → s.1 q ≤ n := fun q hq => by
    by_cases q0 : q = 0
    · rw [q0, v2]; exact Nat.zero_le n
    · exact (v3 q (by first | decide | with_reducible assumption | omega) hq).1.2
  have a := cw_inj (o := s.1) (m := s.2) v4 n
  rw [cw_full le] at a
  exact ⟨a, le⟩
/-- before all have come, one that has come is still to be looked at -/
theorem bfV_lt {i : Nat} {s : BFT} (hi : i ≤ n) (D : ∀ v, v ≤ n → ∃ e, dep f e v) (F : ∀ v, 1 ≤ v → v ≤ n → f v ≤ n) (V : bfV f n i 0 s) : i < s.2 := by
  obtain ⟨⟨v1, v2⟩, v3, v4, v5⟩ := V
  by_cases h : i < s.2
  · exact h
  · exfalso
    have all : ∀ (e : Nat) (w : Nat), w ≤ n → dep f e w → ∃ q, q < s.2 ∧ s.1 q = w := by
      intro e
      induction e with
      | zero => intro w _ d; exact ⟨0, by omega, by rw [v2]; exact d.symm⟩
      | succ e ih =>
        intro w hw d
        by_cases w0 : w = 0
        · exact ⟨0, by omega, by rw [v2, w0]⟩
        · obtain ⟨q, q1, q2⟩ := ih (f w) (F w (by first | decide | with_reducible assumption | omega) hw) (d.resolve_left w0)
          obtain ⟨q', a1, a2, a3⟩ := v5 w (by first | decide | with_reducible assumption | omega) hw ⟨q, q1, q2.symm, .inl (by first | decide | with_reducible assumption | omega)⟩
          exact ⟨q', a2, a3⟩
    have a := cw_sur (o := s.1) (m := s.2) (k := n) (fun w hw => by
      obtain ⟨e, d⟩ := D w hw
      exact all e w hw d)
    have b := cw_le s.1 n s.2
    omega
theorem bfV_ou (D : ∀ v, v ≤ n → ∃ e, dep f e v) (F : ∀ v, 1 ≤ v → v ≤ n → f v ≤ n) : ∀ {i : Nat}, i ≤ n + 1 → bfV f n i 0 (bfO f n i)
  | 0, _ => ⟨⟨Nat.le_refl 1, rfl⟩, fun q q1 q2 => absurd q2 (by show ¬ q < 1; omega), fun q q' h1 h2 _ => by have h1 : q < 1 := h1; have h2 : q' < 1 := h2; omega, fun w w1 w2 ⟨q, h1, h2, h3⟩ => by
      rcases h3 with h3 | ⟨h3, h4⟩ <;> omega⟩
  | i + 1, h => by
    have V := bfV_ou D F (i := i) (by first | decide | with_reducible assumption | omega)
    exact bfV_next (bfV_in (bfV_lt (by first | decide | with_reducible assumption | omega) D F V) V (Nat.le_refl n))
theorem bfV_end (D : ∀ v, v ≤ n → ∃ e, dep f e v) (F : ∀ v, 1 ≤ v → v ≤ n → f v ≤ n) : (bfO f n (n + 1)).2 = n + 1 ∧ (∀ w, w ≤ n → ∃ q, q ≤ n ∧ (bfO f n (n + 1)).1 q = w) ∧ DT n f := by
  have V := bfV_ou D F (i := n + 1) (Nat.le_refl _)
  have l1 := (bfV_le V).1
  have V' := bfV_ou D F (i := n) (by first | decide | with_reducible assumption | omega)
  have l2 := bfV_lt (Nat.le_refl n) D F V'
  have l3 : (bfO f n n).2 ≤ (bfO f n (n + 1)).2 := (bfI_2 n).1
  have e : (bfO f n (n + 1)).2 = n + 1 := by omega
  obtain ⟨⟨v1, v2⟩, v3, v4, v5⟩ := V
  have all : ∀ (k : Nat) (w : Nat), w ≤ n → dep f k w → ∃ q, q < n + 1 ∧ (bfO f n (n + 1)).1 q = w := by
    intro k
    induction k with
    | zero => intro w _ d; exact ⟨0, by omega, by rw [v2]; exact d.symm⟩
    | succ k ih =>
      intro w hw d
      by_cases w0 : w = 0
      · exact ⟨0, by omega, by rw [v2, w0]⟩
      · obtain ⟨q, q1, q2⟩ := ih (f w) (F w (by first | decide | with_reducible assumption | omega) hw) (d.resolve_left w0)
        obtain ⟨q', a1, a2, a3⟩ := v5 w (by first | decide | with_reducible assumption | omega) hw ⟨q, by omega, q2.symm, .inl (by first | decide | with_reducible assumption | omega)⟩
        exact ⟨q', by omega, a3⟩
  have al : ∀ w, w ≤ n → ∃ q, q ≤ n ∧ (bfO f n (n + 1)).1 q = w := fun w hw => by
    obtain ⟨k, d⟩ := D w hw
    obtain ⟨q, q1, q2⟩ := all k w hw d
    exact ⟨q, by omega, q2⟩
  have dq : ∀ q, q ≤ n → dep f q ((bfO f n (n + 1)).1 q) := by
    intro q
    induction q using Nat.strongRecOn with
    | _ q ih =>
      intro hq
      by_cases q0 : q = 0
      · rw [q0, v2]; rfl
      · obtain ⟨-, q', h1, h2, -⟩ := v3 q (by first | decide | with_reducible assumption | omega) (by first | decide | with_reducible assumption | omega)
        obtain ⟨k, rfl⟩ : ∃ k, q = k + 1 := ⟨q - 1, by omega⟩
        refine .inr ?_
        rw [h2]
        exact dep_le (ih q' h1 (by first | decide | with_reducible assumption | omega)) (by first | decide | with_reducible assumption | omega)
  refine ⟨e, al, fun v v1 vn => ?_⟩
  obtain ⟨q, q1, q2⟩ := al v vn
  have := dq q q1
  rw [q2] at this
  exact ⟨dep_le this q1, F v v1 vn⟩
end BFS
/-- the order of the CODE's tree -/
noncomputable def cOr (c : Nat → Nat) (n : Nat) : Nat → Nat := (bfO (cH c n) n (n + 1)).1
end
section
/-! the class reads a CODE (wants u121, u101, u97) -/
theorem an_no : ∀ m : Fin 512, ∀ v : Fin 9, isB m.val v.val = false → nJ m.val &&& (nJ (2 ^ v.val) ^^^ (-1)) = nJ m.val := by decide +kernel
theorem an_all {m c : Nat} (hm : m < 512) (hc : c < 9) : ∃ m', m' < 512 ∧ nJ m &&& (nJ (2 ^ c) ^^^ (-1)) = nJ m' ∧ ∀ j, j < 9 → isB m' j = (!(j == c) && isB m j) := by
  cases b : isB m c
  · refine ⟨m, hm, an_no ⟨m, hm⟩ ⟨c, hc⟩ b, fun j hj => ?_⟩
    by_cases e : j = c
    · rw [e, b, Bool.and_false]
    · rw [show (j == c) = false from beq_eq_false_iff_ne.mpr e]; rfl
  · exact an_any hm hc b
theorem ocr_end {c : Nat → Nat} {v : Nat} : ∀ {k i : Nat}, ocr c v (k + 1) i = ocr c v k i + (if c (i + k) = v then 1 else 0)
  | 0, i => by
    show (if c i = v then 1 else 0) + 0 = 0 + (if c (i + 0) = v then 1 else 0)
    rw [Nat.add_zero, Nat.add_zero, Nat.zero_add]
  | k + 1, i => by
    have ih := ocr_end (c := c) (v := v) (k := k) (i := i + 1)
    show (if c i = v then 1 else 0) + ocr c v (k + 1) (i + 1) = (if c i = v then 1 else 0) + ocr c v k (i + 1) + _
    rw [ih, show i + 1 + k = i + (k + 1) by omega]
    omega
/-- limbs that are told by now: those of nodes that are taken off -/
noncomputable def lmP (c : Nat → Nat) (n : Nat) (ok : Nat → Bool) : Nat → Nat → Bool := fun j v => decide ((v ≤ n ∧ ok v = true ∧ cP c n v = j) ∨ (j ≤ n ∧ ok j = true ∧ cP c n j = v))
theorem lmP_add {c : Nat → Nat} {n x w : Nat} {ok ok' : Nat → Bool} (hx : x ≤ n) (hw : cP c n x = w) (e : ∀ v, v ≤ n → ok' v = (v == x || ok v)) : ∀ j v, one (one (lmP c n ok) x w) w x j v = lmP c n ok' j v := by
  intro j v
  show ((v == w && j == x) || ((v == x && j == w) || lmP c n ok j v)) = lmP c n ok' j v
  have key : lmP c n ok' j v = true ↔ (v = w ∧ j = x) ∨ (v = x ∧ j = w) ∨ lmP c n ok j v = true := by
    unfold lmP
    rw [decide_eq_true_iff, decide_eq_true_iff]
    constructor
    · rintro (⟨h1, h2, h3⟩ | ⟨h1, h2, h3⟩)
      · rw [e v h1, Bool.or_eq_true, beq_iff_eq] at h2
        rcases h2 with h2 | h2
        · exact .inr (.inl ⟨h2, by rw [← h3, h2, hw]⟩)
        · exact .inr (.inr (.inl ⟨h1, h2, h3⟩))
      · rw [e j h1, Bool.or_eq_true, beq_iff_eq] at h2
        rcases h2 with h2 | h2
        · exact .inl ⟨by rw [← h3, h2, hw], h2⟩
        · exact .inr (.inr (.inr ⟨h1, h2, h3⟩))
    · rintro (⟨h1, h2⟩ | ⟨h1, h2⟩ | h)
      · right
        refine ⟨by omega, ?_, by rw [h2, hw, h1]⟩
        rw [e j (by first | decide | with_reducible assumption | omega), h2, show (x == x) = true from beq_self_eq_true _, Bool.true_or]
      · left
        refine ⟨by omega, ?_, by rw [h1, hw, h2]⟩
        rw [e v (by first | decide | with_reducible assumption | omega), h1, show (x == x) = true from beq_self_eq_true _, Bool.true_or]
      · rcases h with ⟨h1, h2, h3⟩ | ⟨h1, h2, h3⟩
        · exact .inl ⟨h1, by rw [e v h1, h2, Bool.or_true], h3⟩
        · exact .inr ⟨h1, by rw [e j h1, h2, Bool.or_true], h3⟩
  cases b : lmP c n ok' j v
  · have nk : ¬ ((v = w ∧ j = x) ∨ (v = x ∧ j = w) ∨ lmP c n ok j v = true) := fun q => by rw [key.mpr q] at b; cases b
    rw [Bool.or_eq_false_iff, Bool.or_eq_false_iff]
    refine ⟨?_, ?_, ?_⟩
    · cases q : (v == w && j == x)
      · rfl
      · rw [Bool.and_eq_true, beq_iff_eq, beq_iff_eq] at q
        exact absurd (.inl q) nk
    · cases q : (v == x && j == w)
      · rfl
      · rw [Bool.and_eq_true, beq_iff_eq, beq_iff_eq] at q
        exact absurd (.inr (.inl q)) nk
    · cases q : lmP c n ok j v
      · rfl
      · exact absurd (.inr (.inr q)) nk
  · rcases key.mp b with ⟨q1, q2⟩ | ⟨q1, q2⟩ | q
    · rw [q1, q2, show (w == w) = true from beq_self_eq_true _, show (x == x) = true from beq_self_eq_true _]; rfl
    · rw [q1, q2, show (w == w) = true from beq_self_eq_true _, show (x == x) = true from beq_self_eq_true _, Bool.and_true, Bool.true_or, Bool.or_true]
    · rw [q, Bool.or_true, Bool.or_true]
noncomputable def TCF : List Rng := [(64, 5, 6), (65, 0, 8), (66, 0, 8), (68, 0, 8)]
/-- the numbers of a CODE in a row of the class -/
noncomputable def CDR (cell : Nat) (c : Nat → Nat) (n : Nat) (h : pm_H) : Prop := hsF cell = some (.inr (.inl 60)) ∧ n ≤ 8 ∧ ∀ j, j < n - 1 → (gl h cell j).toInt = (c j : Int) ∧ c j ≤ n
theorem CDR_fr {cell n : Nat} {c : Nat → Nat} {M : List Rng} {h h' : pm_H} (f : fr_g M h h') (hb : M.all (fun r => !(Nat.beq r.1 cell)) = true) (C : CDR cell c n h) : CDR cell c n h' := ⟨C.1, C.2.1, fun j hj => by rw [fr_gl f (rg_no hb _)]; exact C.2.2 j hj⟩
theorem CDR_l2i {cell n j : Nat} {c : Nat → Nat} {h : pm_H} (C : CDR cell c n h) (hj : j < n - 1) : (gl h cell j).toInt32 = nJ (c j) := by
  obtain ⟨-, n8, q⟩ := C
  obtain ⟨q1, q2⟩ := q j hj
  apply Int32.toInt_inj.mp
  rw [Int64.toInt_toInt32, nJ_toInt (by first | decide | with_reducible assumption | omega), q1, Int.bmod_eq_of_le (by first | decide | with_reducible assumption | omega) (by first | decide | with_reducible assumption | omega)]
section DEC
variable {h : pm_H} {d n cell : Nat} {c : Nat → Nat}
theorem lu_loop {i m : Nat} (hh : HH h) (C : CDR cell c n h) (m5 : m < 512) (j : Nat) : ∀ {k u : Nat} (lv : List (Nat × Value)), i + k + j = n - 1 → u < 512 → (∀ v, v < 9 → isB u v = (isB m v && Nat.beq (ocr c v k i) 0)) → (∃ v, v < 9 ∧ unw c (n - 1 - i) i m v = true) → pm_get lv 1 = some (.ref cell) → pm_get lv 3 = some (.int (nJ (n - 1))) → pm_get lv 5 = some (.int (nJ u)) → pm_get lv 6 = some (.int (nJ (i + k))) → Ends (pm_at tX7_leastUnwritten) (pm_Rt pm_P (d + 1)) (7, lv, [], h, 0, 0) (fun h' r => h' = h ∧ ∃ e, e < 9 ∧ unw c (n - 1 - i) i m e = true ∧ (∀ v, v < e → unw c (n - 1 - i) i m v = false) ∧ r = some (.int (nJ e))) := by
  have n8 := C.2.1
  induction j with
  | zero =>
    intro k u lv hj u5 ub ex L1 L3 L5 L6
    have ek : k = n - 1 - i := by omega
    have uu : ∀ v, v < 9 → isB u v = unw c (n - 1 - i) i m v := fun v hv => by rw [ub v hv, ek]; rfl
    refine E_il rfl L6 ?_
    refine E_il rfl L3 ?_
    refine E_icT rfl (decide_eq_true ((nJ_le (by first | decide | with_reducible assumption | omega) (by first | decide | with_reducible assumption | omega)).mpr (by first | decide | with_reducible assumption | omega))) ?_
    refine E_il rfl L5 ?_
    refine E_call rfl (sp_low8 (d := d) u5 (by obtain ⟨v, v1, v2⟩ := ex; exact ⟨v, v1, by rw [uu v v1]; exact v2⟩)) (chkS rfl (by show 0 ≤ 8; decide)) (fun h1 r1 => ?_)
    rintro ⟨e1, e, e9, be, ze, f1⟩
    rw [e1, f1]
    exact E_rti rfl ⟨rfl, e, e9, by rw [← uu e e9]; exact be, fun v hv => by rw [← uu v (by first | decide | with_reducible assumption | omega)]; exact ze v hv, rfl⟩
  | succ j ih =>
    intro k u lv hj u5 ub ex L1 L3 L5 L6
    obtain ⟨q1, q2⟩ := C.2.2 (i + k) (by first | decide | with_reducible assumption | omega)
    obtain ⟨u', u5', ou, bu⟩ := an_all u5 (show c (i + k) < 9 by omega)
    refine E_il rfl L6 ?_
    refine E_il rfl L3 ?_
    refine E_icF rfl (decide_eq_false (fun q => absurd ((nJ_le (by first | decide | with_reducible assumption | omega) (by first | decide | with_reducible assumption | omega)).mp q) (by first | decide | with_reducible assumption | omega))) ?_
    refine E_il rfl L5 ?_
    refine E_ci 1 rfl ci1 ?_
    refine E_al rfl L1 ?_
    refine E_il rfl L6 ?_
    refine E_lal rfl hh C.1 (by first | decide | with_reducible assumption | omega) (by decide) ?_
    refine E_l2i rfl (CDR_l2i C (by first | decide | with_reducible assumption | omega)) ?_
    refine E_bin rfl (show nJ 1 <<< (nJ (c (i + k)) &&& 31) = nJ (2 ^ c (i + k)) from shl_tab ⟨c (i + k), by omega⟩) ?_
    refine E_c rfl ?_
    refine E_bin rfl rfl ?_
    refine E_bin rfl ou ?_
    refine E_is rfl (fun lv1 K5 kp => ?_)
    refine E_inc rfl (kp 6 _ (nbz rfl) rfl L6) (nJ_inc _) (fun lv2 K6 kp2 => ?_)
    refine E_goto rfl ?_
    refine ih (k := k + 1) lv2 (by first | decide | with_reducible assumption | omega) u5' (fun v hv => ?_) ex (kp2 1 _ (nbz rfl) rfl (kp 1 _ (nbz rfl) rfl L1)) (kp2 3 _ (nbz rfl) rfl (kp 3 _ (nbz rfl) rfl L3)) (kp2 5 _ (nbz rfl) rfl K5) K6
    rw [bu v hv, ub v hv, ocr_end]
    by_cases e : v = c (i + k)
    · rw [e, show (c (i + k) == c (i + k)) = true from beq_self_eq_true _, if_pos rfl]
      show false = _
      rw [Bool.and_comm]; rfl
    · rw [show (v == c (i + k)) = false from beq_eq_false_iff_ne.mpr e, if_neg (fun z => e z.symm), Nat.add_zero]; rfl
theorem sp_leastUnw {i m : Nat} (hh : HH h) (C : CDR cell c n h) (I : MI c n (n - 1 - i) i m) (hi : i ≤ n - 1) : Sp (d + 2) 67 h [.ref 64, .ref cell, .int (nJ i), .int (nJ (n - 1)), .int (nJ m)] (fun h' r => h' = h ∧ r = some (.int (nJ (lfX c (n - 1 - i) i m)))) := by
  have n8 := C.2.1
  obtain ⟨h1, h2, h3, h4, h5⟩ := lf_ok I
  refine Sp_of aiX7_leastUnwritten rfl rfl rfl ?_
  have L1 : pm_get (lv_args 0 [.ref 64, .ref cell, .int (nJ i), .int (nJ (n - 1)), .int (nJ m)]) 1 = some (.ref cell) := rfl
  have L2 : pm_get (lv_args 0 [.ref 64, .ref cell, .int (nJ i), .int (nJ (n - 1)), .int (nJ m)]) 2 = some (.int (nJ i)) := rfl
  have L3 : pm_get (lv_args 0 [.ref 64, .ref cell, .int (nJ i), .int (nJ (n - 1)), .int (nJ m)]) 3 = some (.int (nJ (n - 1))) := rfl
  have L4 : pm_get (lv_args 0 [.ref 64, .ref cell, .int (nJ i), .int (nJ (n - 1)), .int (nJ m)]) 4 = some (.int (nJ m)) := rfl
  generalize lv_args 0 [.ref 64, .ref cell, .int (nJ i), .int (nJ (n - 1)), .int (nJ m)] = lv at L1 L2 L3 L4 ⊢
  refine E_il rfl L4 ?_
  refine E_is rfl (fun lv1 K5 kp => ?_)
  refine E_il rfl (kp 2 _ (nbz rfl) rfl L2) ?_
  refine E_is rfl (fun lv2 K6 kp2 => ?_)
  refine Ends_mono ?_ (lu_loop (i := i) (m := m) hh C I.1 (n - 1 - i) (k := 0) (u := m) lv2 (by first | decide | with_reducible assumption | omega) I.1 (fun v hv => by rw [show Nat.beq (ocr c v 0 i) 0 = true from rfl, Bool.and_true]) ⟨_, h3, unw_iff.mpr ⟨h1, h2⟩⟩ (kp2 1 _ (nbz rfl) rfl (kp 1 _ (nbz rfl) rfl L1)) (kp2 3 _ (nbz rfl) rfl (kp 3 _ (nbz rfl) rfl L3)) (kp2 5 _ (nbz rfl) rfl K5) K6)
  rintro h' r ⟨e, x, x9, x1, x2, q⟩
  have xb := unw_iff.mp x1
  have : x = lfX c (n - 1 - i) i m := lf_u I xb.1 xb.2 (fun y hy z => by have := x2 y hy; rw [unw_iff.mpr z] at this; cases this)
  exact ⟨e, by rw [q, this]⟩
/-! the tree hangs by its limbs -/
/-- near of all: the limbs of the CODE's tree -/
noncomputable def ajB (c : Nat → Nat) (n j v : Nat) : Bool := decide (((j ≠ cB c n ∧ cP c n j = v) ∨ (v ≠ cB c n ∧ cP c n v = j)) ∧ j ≤ n)
theorem ajB_i {c : Nat → Nat} {n j v : Nat} : ajB c n j v = true ↔ AJ (cP c n) (cB c n) j v ∧ j ≤ n := decide_eq_true_iff
theorem ajB_F {c : Nat → Nat} {n j v : Nat} (q : ¬ (AJ (cP c n) (cB c n) j v ∧ j ≤ n)) : ajB c n j v = false := decide_eq_false q
noncomputable def NFIN (c : Nat → Nat) (n : Nat) (h : pm_H) : Prop := ∀ v, v ≤ n → NR (ajB c n) v h
/-- the bits of what has not come -/
noncomputable def UMX (n : Nat) (s : BFT) (um : Nat) : Prop := um < 512 ∧ ∀ v, v < 9 → isB um v = decide (v ≤ n ∧ ∀ q, q < s.2 → s.1 q ≠ v)
noncomputable def HRO (c : Nat → Nat) (n : Nat) (s : BFT) (h : pm_H) : Prop := (∀ q, q < s.2 → gi h 66 q = nJ (s.1 q)) ∧ ∀ q, 1 ≤ q → q < s.2 → gi h 65 (s.1 q) = nJ (cH c n (s.1 q))
noncomputable def HBF : List Rng := [(64, 5, 6), (65, 0, 8), (66, 0, 8)]
theorem ad_tab : ∀ m : Fin 512, ∀ k : Fin 9, nJ m.val &&& nJ (2 ^ k.val) = nJ (bif isB m.val k.val then 2 ^ k.val else 0) := by decide +kernel
theorem tri_and {a u k : Nat} (ha : a < 512) (hu : u < 512) (hk : k < 9) : (nJ a &&& nJ u) &&& nJ (2 ^ k) = nJ (bif (isB a k && isB u k) then 2 ^ k else 0) := by
  rw [Int32.and_assoc, show nJ u &&& nJ (2 ^ k) = nJ (bif isB u k then 2 ^ k else 0) from ad_tab ⟨u, hu⟩ ⟨k, hk⟩]
  cases b : isB u k
  · rw [Bool.and_false]
    show nJ a &&& nJ 0 = nJ 0
    exact Int32.and_zero
  · rw [Bool.and_true]
    exact ad_tab ⟨a, ha⟩ ⟨k, hk⟩
theorem um0_tab : ∀ n : Fin 9, 2 ^ (n.val + 1) - 2 < 512 ∧ ∀ v : Fin 9, isB (2 ^ (n.val + 1) - 2) v.val = decide (1 ≤ v.val ∧ v.val ≤ n.val) := by decide +kernel
theorem UMX_0 (n8 : n ≤ 8) : UMX n (fun _ => 0, 1) (2 ^ (n + 1) - 2) := by
  obtain ⟨a, b⟩ := um0_tab ⟨n, by omega⟩
  refine ⟨a, fun v hv => ?_⟩
  have b := b ⟨v, hv⟩
  dsimp only at b
  rw [b]
  by_cases q : 1 ≤ v ∧ v ≤ n
  · rw [decide_eq_true q, decide_eq_true ⟨q.2, fun _ _ z => by have z : 0 = v := z; omega⟩]
  · rw [decide_eq_false q, decide_eq_false (fun z => q ⟨by
      by_cases v0 : v = 0
      · exact absurd v0.symm (z.2 0 (by show 0 < 1; omega))
      · omega, z.1⟩)]
theorem UMX_add {s : BFT} {um um' w : Nat} (hw : w ≤ n) (U : UMX n s um) (u5 : um' < 512) (bu : ∀ j, j < 9 → isB um' j = (!(j == w) && isB um j)) : UMX n (fup s.1 s.2 w, s.2 + 1) um' := by
  refine ⟨u5, fun v hv => ?_⟩
  rw [bu v hv, U.2 v hv]
  by_cases e : v = w
  · rw [e, show (w == w) = true from beq_self_eq_true _, decide_eq_false (p := w ≤ n ∧ ∀ q, q < s.2 + 1 → fup s.1 s.2 w q ≠ w) (fun z => z.2 s.2 (by first | decide | with_reducible assumption | omega) (fup_s _ _ _))]; rfl
  · rw [show (v == w) = false from beq_eq_false_iff_ne.mpr e]
    show (true && _) = _
    rw [Bool.true_and]
    by_cases q : v ≤ n ∧ ∀ q, q < s.2 → s.1 q ≠ v
    · rw [decide_eq_true q, decide_eq_true (p := v ≤ n ∧ ∀ q, q < s.2 + 1 → fup s.1 s.2 w q ≠ v) ⟨q.1, fun i hi => by
        by_cases z : i = s.2
        · rw [z, fup_s]; exact fun y => e y.symm
        · rw [fup_n z]; exact q.2 i (by first | decide | with_reducible assumption | omega)⟩]
    · rw [decide_eq_false q, decide_eq_false (p := v ≤ n ∧ ∀ q, q < s.2 + 1 → fup s.1 s.2 w q ≠ v) (fun z => q ⟨z.1, fun i hi => by
        have := z.2 i (by first | decide | with_reducible assumption | omega)
        rw [fup_n (by first | decide | with_reducible assumption | omega)] at this
        exact this⟩)]
/-- near and not come: just what hangs from the node looked at -/
theorem hb_iff {i v um : Nat} {s : BFT} {a : Nat} (n1 : 1 ≤ n) (n8 : n ≤ 8) (hc : ∀ j, j < n - 1 → c j ≤ n) (hi : i < s.2) (hv : v < n) (V : bfV (cH c n) n i v s) (U : UMX n s um) (ba : ∀ j, j < 9 → isB a j = ajB c n j (s.1 i)) : (isB a (v + 1) && isB um (v + 1)) = true ↔ cH c n (v + 1) = s.1 i := by
  obtain ⟨F, D, N⟩ := cH_all n1 n8 hc
  rw [Bool.and_eq_true, ba _ (by first | decide | with_reducible assumption | omega), U.2 _ (by first | decide | with_reducible assumption | omega), ajB_i, decide_eq_true_iff]
  constructor
  · rintro ⟨⟨q1, -⟩, -, q2⟩
    rcases N (s.1 i) (v + 1) (AJ_s q1) (by first | decide | with_reducible assumption | omega) with e | ⟨u0, e⟩
    · exact e
    · exfalso
      have i0 : i ≠ 0 := fun z => u0 (by rw [z]; exact V.1.2)
      obtain ⟨-, q', l, h1, -⟩ := V.2.1 i (by first | decide | with_reducible assumption | omega) hi
      exact q2 q' (by first | decide | with_reducible assumption | omega) (by rw [← h1, e])
  · intro e
    have := (F (v + 1) (by first | decide | with_reducible assumption | omega) (by first | decide | with_reducible assumption | omega)).2
    rw [e] at this
    exact ⟨⟨this, by omega⟩, by omega, bfV_new hi V e⟩
noncomputable def HST (c : Nat → Nat) (n : Nat) (h0 : pm_H) (s : BFT) (h : pm_H) : Prop := HH h ∧ fr_g HBF h0 h ∧ gi h 64 5 = nJ (n + 1) ∧ gi h 64 6 = nJ s.2 ∧ HRO c n s h
theorem hb_in {h0 : pm_H} {i : Nat} {s0 : BFT} {Q : pm_H → Option Value → Prop} (n1 : 1 ≤ n) (n8 : n ≤ 8) (hc : ∀ j, j < n - 1 → c j ≤ n) (NF0 : NFIN c n h0) (hi : i < s0.2) (V0 : bfV (cH c n) n i 0 s0) (j : Nat) : ∀ {h : pm_H} {v um : Nat} (lv : List (Nat × Value)), v + j = n → HST c n h0 (bfI (cH c n) (s0.1 i) s0 v) h → UMX n (bfI (cH c n) (s0.1 i) s0 v) um → pm_get lv 0 = some (.ref 64) → pm_get lv 1 = some (.int (nJ um)) → pm_get lv 2 = some (.int (nJ i)) → pm_get lv 3 = some (.int (nJ (s0.1 i))) → pm_get lv 4 = some (.int (nJ (v + 1))) → (∀ (h' : pm_H) (um' : Nat) (lv' : List (Nat × Value)), HST c n h0 (bfI (cH c n) (s0.1 i) s0 n) h' → UMX n (bfI (cH c n) (s0.1 i) s0 n) um' → pm_get lv' 0 = some (.ref 64) → pm_get lv' 1 = some (.int (nJ um')) → pm_get lv' 2 = some (.int (nJ i)) → Ends (pm_at tX7_hangByLimbs) (pm_Rt pm_P (d + 1)) (76, lv', [], h', 0, 0) Q) → Ends (pm_at tX7_hangByLimbs) (pm_Rt pm_P (d + 1)) (29, lv, [], h, 0, 0) Q := by
  induction j with
  | zero =>
    intro h v um lv hj S U L0 L1 L2 L3 L4 K
    refine E_il rfl L4 ?_
    refine E_al rfl L0 ?_
    refine E_ogf (q := (0, 9)) rfl S.1 rfl rfl S.2.2.1 ?_
    refine E_icT rfl (decide_eq_true ((nJ_le (by first | decide | with_reducible assumption | omega) (by first | decide | with_reducible assumption | omega)).mpr (by first | decide | with_reducible assumption | omega))) ?_
    have e : v = n := by omega
    rw [e] at S U
    exact K h um lv S U L0 L1 L2
  | succ j ih =>
    intro h v um lv hj S U L0 L1 L2 L3 L4 K
    have hv : v < n := by omega
    obtain ⟨b1, b2⟩ := bfI_2 (f := cH c n) (fr := s0.1 i) (s := s0) v
    have V := bfV_in hi V0 (v := v) (by first | decide | with_reducible assumption | omega)
    have V' := bfV_in hi V0 (v := v + 1) (by first | decide | with_reducible assumption | omega)
    have le := bfV_le V
    have le' := bfV_le V'
    have i2 : i < (bfI (cH c n) (s0.1 i) s0 v).2 := by omega
    have fr := b2 i hi
    have frn : s0.1 i ≤ n := by rw [← fr]; exact le.2 i i2
    have es : bfI (cH c n) (s0.1 i) s0 (v + 1) = bfS (cH c n) (s0.1 i) (v + 1) (bfI (cH c n) (s0.1 i) s0 v) := rfl
    rw [es] at le'
    generalize bfI (cH c n) (s0.1 i) s0 v = s at S U b1 b2 V le i2 fr es le'
    obtain ⟨hh, f, g5, g6, T⟩ := S
    obtain ⟨a, a5, ga, ba⟩ := NF0 (s0.1 i) frn
    have ga' : gi h 68 (s0.1 i) = nJ a := by rw [fr_gi f (rg_no rfl _)]; exact ga
    have iff := hb_iff (um := um) (a := a) n1 n8 hc i2 hv V U (by rw [fr]; exact ba)
    rw [fr] at iff
    refine E_il rfl L4 ?_
    refine E_al rfl L0 ?_
    refine E_ogf (q := (0, 9)) rfl hh rfl rfl g5 ?_
    refine E_icF rfl (decide_eq_false (fun q => absurd ((nJ_le (by first | decide | with_reducible assumption | omega) (by first | decide | with_reducible assumption | omega)).mp q) (by first | decide | with_reducible assumption | omega))) ?_
    refine E_al rfl L0 ?_
    refine E_ogr (q := 68) rfl hh rfl rfl ?_
    refine E_il rfl L3 ?_
    refine E_ial rfl hh rfl (by first | decide | with_reducible assumption | omega) (by decide) ga' ?_
    refine E_il rfl L1 ?_
    refine E_bin rfl rfl ?_
    refine E_ci 1 rfl ci1 ?_
    refine E_il rfl L4 ?_
    refine E_bin rfl (show nJ 1 <<< (nJ (v + 1) &&& 31) = nJ (2 ^ (v + 1)) from shl_tab ⟨v + 1, by omega⟩) ?_
    refine E_bin rfl (tri_and a5 U.1 (show v + 1 < 9 by omega)) ?_
    have p2 : 1 ≤ 2 ^ (v + 1) ∧ 2 ^ (v + 1) ≤ 2 ^ 8 := ⟨Nat.pos_of_ne_zero (by have := Nat.pow_pos (n := v + 1) (show 0 < 2 by omega); omega), Nat.pow_le_pow_right (by first | decide | with_reducible assumption | omega) (by first | decide | with_reducible assumption | omega)⟩
    by_cases q : cH c n (v + 1) = s0.1 i
    · rw [iff.mpr q, cond_true]
      have es : bfI (cH c n) (s0.1 i) s0 (v + 1) = (fup s.1 s.2 (v + 1), s.2 + 1) := by rw [es]; unfold bfS; rw [if_pos q]
      have e2 : (bfS (cH c n) (s0.1 i) (v + 1) s).2 = s.2 + 1 := by unfold bfS; rw [if_pos q]
      rw [e2] at le'
      have sl : s.2 ≤ n := by omega
      have bu : isB um (v + 1) = true := by have := iff.mpr q; rw [Bool.and_eq_true] at this; exact this.2
      obtain ⟨um', u5', ou, bu'⟩ := an_any U.1 (show v + 1 < 9 by omega) bu
      refine E_ifF rfl (decide_eq_false (fun z => absurd ((nJ_eq0 (by first | decide | with_reducible assumption | omega)).mp z) (by first | decide | with_reducible assumption | omega))) ?_
      refine E_il rfl L1 ?_
      refine E_ci 1 rfl ci1 ?_
      refine E_il rfl L4 ?_
      refine E_bin rfl (show nJ 1 <<< (nJ (v + 1) &&& 31) = nJ (2 ^ (v + 1)) from shl_tab ⟨v + 1, by omega⟩) ?_
      refine E_c rfl ?_
      refine E_bin rfl rfl ?_
      refine E_bin rfl ou ?_
      refine E_is rfl (fun lv1 K1 kp => ?_)
      refine E_al rfl (kp 0 _ (nbz rfl) rfl L0) ?_
      refine E_il rfl (kp 4 _ (nbz rfl) rfl L4) ?_
      refine E_il rfl (kp 3 _ (nbz rfl) rfl L3) ?_
      refine E_call rfl (sp_bringT (d := d) (m := s.2) (v := v + 1) (f := s0.1 i) hh n8 sl (by first | decide | with_reducible assumption | omega) (by first | decide | with_reducible assumption | omega) g5 g6) (chkO (a := 64) hh rfl rfl rfl rfl (by show 0 ≤ 8; decide)) (fun h3 r3 => ?_)
      rintro ⟨e3, hh3, f3, k5, k6, o1, o2, p1, p2'⟩
      rw [e3]
      refine E_inc rfl (kp 4 _ (nbz rfl) rfl L4) (nJ_inc _) (fun lv2 K4 kp2 => ?_)
      refine E_goto rfl ?_
      refine ih (v := v + 1) (um := um') lv2 (by first | decide | with_reducible assumption | omega) ⟨hh3, fr_trans f (fr_wk rfl f3), k5, by rw [es]; exact k6, ?_⟩ (by rw [es]; exact UMX_add (by first | decide | with_reducible assumption | omega) U u5' bu') (kp2 0 _ (nbz rfl) rfl (kp 0 _ (nbz rfl) rfl L0)) (kp2 1 _ (nbz rfl) rfl K1) (kp2 2 _ (nbz rfl) rfl (kp 2 _ (nbz rfl) rfl L2)) (kp2 3 _ (nbz rfl) rfl (kp 3 _ (nbz rfl) rfl L3)) K4 K
      rw [es]
      refine ⟨fun x hx => ?_, fun x x1 hx => ?_⟩
      · show gi h3 66 x = nJ (fup s.1 s.2 (v + 1) x)
        have hx : x < s.2 + 1 := hx
        by_cases z : x = s.2
        · rw [z, fup_s]; exact o1
        · rw [fup_n z, o2 x z]; exact T.1 x (by first | decide | with_reducible assumption | omega)
      · show gi h3 65 (fup s.1 s.2 (v + 1) x) = nJ (cH c n (fup s.1 s.2 (v + 1) x))
        have hx : x < s.2 + 1 := hx
        by_cases z : x = s.2
        · rw [z, fup_s, q]; exact p1
        · rw [fup_n z]
          have nw := bfV_new i2 V (by rw [fr]; exact q) x (by first | decide | with_reducible assumption | omega)
          rw [p2' _ nw]
          exact T.2 x x1 (by first | decide | with_reducible assumption | omega)
    · have nq : (isB a (v + 1) && isB um (v + 1)) = false := by
        cases z : (isB a (v + 1) && isB um (v + 1))
        · rfl
        · exact absurd (iff.mp z) q
      rw [nq, cond_false]
      have es : bfI (cH c n) (s0.1 i) s0 (v + 1) = s := by rw [es]; unfold bfS; rw [if_neg q]
      refine E_ifT rfl (by decide) ?_
      refine E_inc rfl L4 (nJ_inc _) (fun lv2 K4 kp2 => ?_)
      refine E_goto rfl ?_
      exact ih (v := v + 1) (um := um) lv2 (by first | decide | with_reducible assumption | omega) ⟨hh, f, g5, by rw [es]; exact g6, by rw [es]; exact T⟩ (by rw [es]; exact U) (kp2 0 _ (nbz rfl) rfl L0) (kp2 1 _ (nbz rfl) rfl L1) (kp2 2 _ (nbz rfl) rfl L2) (kp2 3 _ (nbz rfl) rfl L3) K4 K
/-- what the tree's rows are then -/
noncomputable def TRC (c : Nat → Nat) (n : Nat) (h : pm_H) : Prop := gi h 64 5 = nJ (n + 1) ∧ (∀ i, i ≤ n → gi h 66 i = nJ (cOr c n i)) ∧ ∀ v, 1 ≤ v → v ≤ n → gi h 65 v = nJ (cH c n v)
theorem hb_out {h0 : pm_H} (n1 : 1 ≤ n) (n8 : n ≤ 8) (hc : ∀ j, j < n - 1 → c j ≤ n) (NF0 : NFIN c n h0) (j : Nat) : ∀ {h : pm_H} {i um : Nat} (lv : List (Nat × Value)), i + j = n + 1 → HST c n h0 (bfO (cH c n) n i) h → UMX n (bfO (cH c n) n i) um → pm_get lv 0 = some (.ref 64) → pm_get lv 1 = some (.int (nJ um)) → pm_get lv 2 = some (.int (nJ i)) → Ends (pm_at tX7_hangByLimbs) (pm_Rt pm_P (d + 1)) (11, lv, [], h, 0, 0) (fun h' r => r = none ∧ HH h' ∧ fr_g HBF h0 h' ∧ TRC c n h') := by
  obtain ⟨F, D, N⟩ := cH_all n1 n8 hc
  have F' : ∀ v, 1 ≤ v → v ≤ n → cH c n v ≤ n := fun v v1 vn => (F v v1 vn).1
  induction j with
  | zero =>
    intro h i um lv hj S U L0 L1 L2
    refine E_il rfl L2 ?_
    refine E_al rfl L0 ?_
    refine E_ogf (q := (0, 9)) rfl S.1 rfl rfl S.2.2.1 ?_
    refine E_icT rfl (decide_eq_true ((nJ_le (by first | decide | with_reducible assumption | omega) (by first | decide | with_reducible assumption | omega)).mpr (by first | decide | with_reducible assumption | omega))) ?_
    have e : i = n + 1 := by omega
    rw [e] at S
    obtain ⟨hh, f, g5, g6, T1, T2⟩ := S
    obtain ⟨e1, e2, -⟩ := bfV_end D F'
    have V := bfV_ou D F' (i := n + 1) (Nat.le_refl _)
    refine E_ret rfl ⟨rfl, hh, f, g5, fun q hq => T1 q (by first | decide | with_reducible assumption | omega), fun v v1 vn => ?_⟩
    obtain ⟨q, q1, q2⟩ := e2 v vn
    have q0 : q ≠ 0 := fun z => by rw [z, V.1.2] at q2; omega
    have := T2 q (by first | decide | with_reducible assumption | omega) (by first | decide | with_reducible assumption | omega)
    rw [q2] at this
    exact this
  | succ j ih =>
    intro h i um lv hj S U L0 L1 L2
    have V := bfV_ou D F' (i := i) (by first | decide | with_reducible assumption | omega)
    have il := bfV_lt (show i ≤ n by omega) D F' V
    have le := bfV_le V
    refine E_il rfl L2 ?_
    refine E_al rfl L0 ?_
    refine E_ogf (q := (0, 9)) rfl S.1 rfl rfl S.2.2.1 ?_
    refine E_icF rfl (decide_eq_false (fun q => absurd ((nJ_le (by first | decide | with_reducible assumption | omega) (by first | decide | with_reducible assumption | omega)).mp q) (by first | decide | with_reducible assumption | omega))) ?_
    refine E_al rfl L0 ?_
    refine E_ogr (q := 66) rfl S.1 rfl rfl ?_
    refine E_il rfl L2 ?_
    refine E_ial rfl S.1 rfl (by first | decide | with_reducible assumption | omega) (by decide) (S.2.2.2.2.1 i il) ?_
    refine E_is rfl (fun lv1 K3 kp => ?_)
    refine E_ci 1 rfl ci1 ?_
    refine E_is rfl (fun lv2 K4 kp2 => ?_)
    refine hb_in (i := i) (s0 := bfO (cH c n) n i) n1 n8 hc NF0 il V n (v := 0) (um := um) lv2 (by first | decide | with_reducible assumption | omega) S U (kp2 0 _ (nbz rfl) rfl (kp 0 _ (nbz rfl) rfl L0)) (kp2 1 _ (nbz rfl) rfl (kp 1 _ (nbz rfl) rfl L1)) (kp2 2 _ (nbz rfl) rfl (kp 2 _ (nbz rfl) rfl L2)) (kp2 3 _ (nbz rfl) rfl K3) K4 (fun h' um' lv' S' U' M0 M1 M2 => ?_)
    refine E_inc rfl M2 (nJ_inc _) (fun lv3 K2 kp3 => ?_)
    refine E_goto rfl ?_
    exact ih (i := i + 1) (um := um') lv3 (by first | decide | with_reducible assumption | omega) S' U' (kp3 0 _ (nbz rfl) rfl M0) (kp3 1 _ (nbz rfl) rfl M1) K2
theorem sp_hangByL (hh : HH h) (n1 : 1 ≤ n) (n8 : n ≤ 8) (hc : ∀ j, j < n - 1 → c j ≤ n) (NF0 : NFIN c n h) (g5 : gi h 64 5 = nJ (n + 1)) (g6 : gi h 64 6 = nJ 1) (g0 : gi h 66 0 = nJ 0) : Sp (d + 2) 64 h [.ref 64] (fun h' r => r = none ∧ HH h' ∧ fr_g HBF h h' ∧ TRC c n h') := by
  refine Sp_of aiX7_hangByLimbs rfl rfl rfl ?_
  have L0 : pm_get (lv_args 0 [.ref 64]) 0 = some (.ref 64) := rfl
  generalize lv_args 0 [.ref 64] = lv at L0 ⊢
  have p2 : 2 ≤ 2 ^ (n + 1) := by have := Nat.pow_le_pow_right (n := 2) (by first | decide | with_reducible assumption | omega) (show 1 ≤ n + 1 by omega); omega
  refine E_ci 1 rfl ci1 ?_
  refine E_al rfl L0 ?_
  refine E_ogf (q := (0, 9)) rfl hh rfl rfl g5 ?_
  refine E_bin rfl (show nJ 1 <<< (nJ (n + 1) &&& 31) = nJ (2 ^ (n + 1)) from sh_tab ⟨n + 1, by omega⟩) ?_
  refine E_ci 2 rfl ci2 ?_
  refine E_bin rfl (nJ_sub p2) ?_
  refine E_is rfl (fun lv1 K1 kp => ?_)
  refine E_ci 0 rfl ci0 ?_
  refine E_is rfl (fun lv2 K2 kp2 => ?_)
  refine hb_out n1 n8 hc NF0 (n + 1) (i := 0) lv2 (by first | decide | with_reducible assumption | omega) ⟨hh, fr_rf _ _, g5, g6, fun q hq => ?_, fun q q1 q2 => ?_⟩ (UMX_0 n8) (kp2 0 _ (nbz rfl) rfl (kp 0 _ (nbz rfl) rfl L0)) (kp2 1 _ (nbz rfl) rfl K1) K2
  · have hq : q < 1 := hq
    rw [show q = 0 by omega]
    exact g0
  · have q2 : q < 1 := q2
    omega
/-! the CODE is read -/
theorem de_loop {h0 : pm_H} (n1 : 1 ≤ n) (n8 : n ≤ 8) (hc : ∀ j, j < n - 1 → c j ≤ n) (ncell : 70 ≤ cell ∨ cell < 64) (k : Nat) : ∀ {h : pm_H} {i m : Nat} (lv : List (Nat × Value)), HH h → fr_g TCF h0 h → CDR cell c n h → gi h 64 5 = nJ (n + 1) → gi h 64 6 = nJ 1 → gi h 66 0 = nJ 0 → (∀ v, v ≤ n → NR (lmP c n (fun v => !isB m v)) v h) → PI c n k i m → pm_get lv 0 = some (.ref 64) → pm_get lv 1 = some (.ref cell) → pm_get lv 2 = some (.int (nJ n)) → pm_get lv 3 = some (.int (nJ m)) → pm_get lv 4 = some (.int (nJ i)) → Ends (pm_at tX7_decode) (pm_Rt pm_P (d + 2)) (21, lv, [], h, 0, 0) (fun h' r => r = none ∧ HH h' ∧ fr_g TCF h0 h' ∧ TRC c n h') := by
  induction k with
  | zero =>
    intro h i m lv hh f C g5 g6 g0 NN I L0 L1 L2 L3 L4
    have ik := I.1
    obtain ⟨p1, p2, p3⟩ := PI_end I
    obtain ⟨h1, -, h3, h4, h5⟩ := lf_ok I.2.1
    obtain ⟨a1, a2, a3, a4, a5, -⟩ := two_ok I.2.1
    have m5 := I.2.1.1
    generalize ha : lfX c 0 i m = a at *
    refine E_il rfl L4 ?_
    refine E_il rfl L2 ?_
    refine E_ci 1 rfl ci1 ?_
    refine E_bin rfl (nJ_sub (by first | decide | with_reducible assumption | omega)) ?_
    refine E_icT rfl (decide_eq_true ((nJ_le (by first | decide | with_reducible assumption | omega) (by first | decide | with_reducible assumption | omega)).mpr (by first | decide | with_reducible assumption | omega))) ?_
    refine E_il rfl L3 ?_
    refine E_call rfl (Sp_le (by first | exact Nat.add_le_add_left (Nat.le_of_ble_eq_true rfl) _ | exact Nat.le_of_ble_eq_true rfl | omega) (sp_low8 (d := d) m5 ⟨a, h3, h1⟩)) (chkS rfl (by show 0 ≤ 8; decide)) (fun hx rx => ?_)
    rintro ⟨ex, x, x9, xb, xz, fx⟩
    rw [ex, fx]
    have xa : x = a := by rw [← ha]; exact lf_u I.2.1 xb rfl (fun y hy z => by have := xz y hy; rw [z.1] at this; cases this)
    rw [xa]
    refine E_is rfl (fun lv1 K4 kp => ?_)
    have A0 := kp 0 _ (nbz rfl) rfl L0
    have A3 := kp 3 _ (nbz rfl) rfl L3
    refine E_al rfl A0 ?_
    refine E_il rfl K4 ?_
    refine E_il rfl A3 ?_
    refine E_ci 1 rfl ci1 ?_
    refine E_il rfl K4 ?_
    refine E_bin rfl (show nJ 1 <<< (nJ a &&& 31) = nJ (2 ^ a) from shl_tab ⟨a, h3⟩) ?_
    refine E_c rfl ?_
    refine E_bin rfl rfl ?_
    refine E_bin rfl (show nJ m &&& (nJ (2 ^ a) ^^^ (-1)) = nJ (m - 2 ^ a) from an_tab ⟨m, m5⟩ ⟨a, h3⟩ h1) ?_
    have bb : isB (m - 2 ^ a) (rtD c 0 i m) = true := by rw [sb_ne m5 h3 a4 h1 (by first | decide | with_reducible assumption | omega)]; exact a1
    refine E_call rfl (Sp_le (by first | exact Nat.add_le_add_left (Nat.le_of_ble_eq_true rfl) _ | exact Nat.le_of_ble_eq_true rfl | omega) (sp_low8 (d := d) (m := m - 2 ^ a) (Nat.lt_of_le_of_lt (Nat.sub_le _ _) m5) ⟨_, a4, bb⟩)) (chkS rfl (by show 2 ≤ 8; decide)) (fun hy ry => ?_)
    rintro ⟨ey, y, y9, yb, yz, fy⟩
    rw [ey, fy]
    obtain ⟨ya, ym⟩ := sb_T m5 h3 y9 h1 yb
    have yr : y = rtD c 0 i m := (a5 y y9 ym).resolve_left ya
    rw [← p3] at yr a2
    rw [yr]
    refine E_call rfl (Sp_le (by first | exact Nat.add_le_add_left (Nat.le_of_ble_eq_true rfl) _ | exact Nat.le_of_ble_eq_true rfl | omega) (sp_addLimb8 (d := d) hh n8 h4 a2 NN)) (chkO (a := 64) hh rfl rfl rfl rfl (by show 0 ≤ 8; decide)) (fun h6 r6 => ?_)
    rintro ⟨e6, hh6, f6, N6⟩
    rw [e6]
    have okb : ∀ v, v ≤ n → decide (v ≠ cB c n) = (v == a || !isB m v) := fun v hv => by
      by_cases e : v = a
      · rw [e, show (a == a) = true from beq_self_eq_true _, Bool.true_or]; exact decide_eq_true p2
      · rw [show (v == a) = false from beq_eq_false_iff_ne.mpr e, Bool.false_or]
        cases b : isB m v
        · exact decide_eq_true (fun z => by rw [z, p3, a1] at b; cases b)
        · have := (a5 v (by first | decide | with_reducible assumption | omega) b).resolve_left e
          rw [← p3] at this
          exact decide_eq_false (fun z => z this)
    have add := lmP_add (ok := fun v => !isB m v) (ok' := fun v => decide (v ≠ cB c n)) h4 p1 okb
    have T := cT n1 n8 hc
    have NFn : NFIN c n h6 := fun v hv => NR_cg (fun j hj => by
      rw [add j v]
      unfold lmP
      by_cases q : AJ (cP c n) (cB c n) j v ∧ j ≤ n
      · rw [ajB_i.mpr q]
        refine decide_eq_true ?_
        rcases q.1 with ⟨q1, q2⟩ | ⟨q1, q2⟩
        · exact .inr ⟨q.2, decide_eq_true q1, q2⟩
        · exact .inl ⟨hv, decide_eq_true q1, q2⟩
      · rw [ajB_F q]
        refine decide_eq_false (fun z => q ?_)
        rcases z with ⟨z1, z2, z3⟩ | ⟨z1, z2, z3⟩
        · exact ⟨.inr ⟨of_decide_eq_true z2, z3⟩, by rw [← z3]; exact (T.2.2.1 v hv).1⟩
        · exact ⟨.inl ⟨of_decide_eq_true z2, z3⟩, z1⟩) (N6 v hv)
    refine E_al rfl A0 ?_
    refine E_call rfl (sp_hangByL (d := d) hh6 n1 n8 hc NFn (by rw [fr_gi f6 (rg_no rfl _)]; exact g5) (by rw [fr_gi f6 (rg_no rfl _)]; exact g6) (by rw [fr_gi f6 (rg_no rfl _)]; exact g0)) (chkO (a := 64) hh6 rfl rfl rfl rfl (by show 0 ≤ 8; decide)) (fun h7 r7 => ?_)
    rintro ⟨e7, hh7, f7, T7⟩
    rw [e7]
    exact E_ret rfl ⟨rfl, hh7, fr_trans f (fr_trans (fr_wk rfl f6) (fr_wk rfl f7)), T7⟩
  | succ k ih =>
    intro h i m lv hh f C g5 g6 g0 NN I L0 L1 L2 L3 L4
    have ik := I.1
    obtain ⟨h1, h2, h3, h4, h5⟩ := lf_ok I.2.1
    obtain ⟨J, p1, p2, p3, p4⟩ := PI_step n8 I
    have m5 := I.2.1.1
    have ek : k + 1 = n - 1 - i := by omega
    have IM : MI c n (n - 1 - i) i m := by rw [← ek]; exact I.2.1
    have SL := sp_leastUnw (d := d) hh C IM (by first | decide | with_reducible assumption | omega)
    rw [← ek] at SL
    generalize lfX c (k + 1) i m = x at *
    refine E_il rfl L4 ?_
    refine E_il rfl L2 ?_
    refine E_ci 1 rfl ci1 ?_
    refine E_bin rfl (nJ_sub (by first | decide | with_reducible assumption | omega)) ?_
    refine E_icF rfl (decide_eq_false (fun q => absurd ((nJ_le (by first | decide | with_reducible assumption | omega) (by first | decide | with_reducible assumption | omega)).mp q) (by first | decide | with_reducible assumption | omega))) ?_
    refine E_al rfl L0 ?_
    refine E_al rfl L1 ?_
    refine E_il rfl L4 ?_
    refine E_il rfl L2 ?_
    refine E_ci 1 rfl ci1 ?_
    refine E_bin rfl (nJ_sub (by first | decide | with_reducible assumption | omega)) ?_
    refine E_il rfl L3 ?_
    refine E_call rfl SL (chkO (a := 64) hh rfl rfl rfl rfl (by show 0 ≤ 8; decide)) (fun hx rx => ?_)
    rintro ⟨ex, fx⟩
    rw [ex, fx]
    refine E_is rfl (fun lv1 K5 kp => ?_)
    refine E_il rfl (kp 3 _ (nbz rfl) rfl L3) ?_
    refine E_ci 1 rfl ci1 ?_
    refine E_il rfl K5 ?_
    refine E_bin rfl (show nJ 1 <<< (nJ x &&& 31) = nJ (2 ^ x) from shl_tab ⟨x, h3⟩) ?_
    refine E_c rfl ?_
    refine E_bin rfl rfl ?_
    refine E_bin rfl (show nJ m &&& (nJ (2 ^ x) ^^^ (-1)) = nJ (m - 2 ^ x) from an_tab ⟨m, m5⟩ ⟨x, h3⟩ h1) ?_
    refine E_is rfl (fun lv2 K3 kp2 => ?_)
    have A0 := kp2 0 _ (nbz rfl) rfl (kp 0 _ (nbz rfl) rfl L0)
    have A1 := kp2 1 _ (nbz rfl) rfl (kp 1 _ (nbz rfl) rfl L1)
    have A2 := kp2 2 _ (nbz rfl) rfl (kp 2 _ (nbz rfl) rfl L2)
    have A4 := kp2 4 _ (nbz rfl) rfl (kp 4 _ (nbz rfl) rfl L4)
    refine E_al rfl A0 ?_
    refine E_il rfl (kp2 5 _ (nbz rfl) rfl K5) ?_
    refine E_al rfl A1 ?_
    refine E_il rfl A4 ?_
    refine E_lal rfl hh C.1 (by first | decide | with_reducible assumption | omega) (by decide) ?_
    refine E_l2i rfl (CDR_l2i C (by first | decide | with_reducible assumption | omega)) ?_
    refine E_call rfl (Sp_le (by first | exact Nat.add_le_add_left (Nat.le_of_ble_eq_true rfl) _ | exact Nat.le_of_ble_eq_true rfl | omega) (sp_addLimb8 (d := d) hh n8 h4 p3 NN)) (chkO (a := 64) hh rfl rfl rfl rfl (by show 0 ≤ 8; decide)) (fun h6 r6 => ?_)
    rintro ⟨e6, hh6, f6, N6⟩
    rw [e6]
    have okb : ∀ v, v ≤ n → (!isB (m - 2 ^ x) v) = (v == x || !isB m v) := fun v hv => by
      rw [sb_bit m5 h3 (by first | decide | with_reducible assumption | omega) h1, Bool.not_and, Bool.not_not]
    have add := lmP_add (ok := fun v => !isB m v) (ok' := fun v => !isB (m - 2 ^ x) v) h4 p1 okb
    refine E_inc rfl A4 (nJ_inc _) (fun lv3 K4 kp3 => ?_)
    refine E_goto rfl ?_
    exact ih lv3 hh6 (fr_trans f (fr_wk rfl f6)) (CDR_fr f6 (by simp [NF, beq_no (show (68 : Nat) ≠ cell by omega)]) C) (by rw [fr_gi f6 (rg_no rfl _)]; exact g5) (by rw [fr_gi f6 (rg_no rfl _)]; exact g6) (by rw [fr_gi f6 (rg_no rfl _)]; exact g0) (fun v hv => NR_cg (fun j _ => add j v) (N6 v hv)) J (kp3 0 _ (nbz rfl) rfl A0) (kp3 1 _ (nbz rfl) rfl A1) (kp3 2 _ (nbz rfl) rfl A2) (kp3 3 _ (nbz rfl) rfl K3) K4
theorem sp_decode8 (hh : HH h) (n1 : 1 ≤ n) (ncell : 70 ≤ cell ∨ cell < 64) (C : CDR cell c n h) : Sp (d + 3) 62 h [.ref 64, .ref cell, .int (nJ n)] (fun h' r => r = none ∧ HH h' ∧ fr_g TCF h h' ∧ TRC c n h') := by
  have n8 := C.2.1
  have hc : ∀ j, j < n - 1 → c j ≤ n := fun j hj => (C.2.2 j hj).2
  refine Sp_of aiX7_decode rfl rfl rfl ?_
  have L0 : pm_get (lv_args 0 [.ref 64, .ref cell, .int (nJ n)]) 0 = some (.ref 64) := rfl
  have L1 : pm_get (lv_args 0 [.ref 64, .ref cell, .int (nJ n)]) 1 = some (.ref cell) := rfl
  have L2 : pm_get (lv_args 0 [.ref 64, .ref cell, .int (nJ n)]) 2 = some (.int (nJ n)) := rfl
  generalize lv_args 0 [.ref 64, .ref cell, .int (nJ n)] = lv at L0 L1 L2 ⊢
  have p2 : 1 ≤ 2 ^ (n + 1) := Nat.pos_of_ne_zero (by have := Nat.pow_pos (n := n + 1) (show 0 < 2 by omega); omega)
  refine E_al rfl L0 ?_
  refine E_il rfl L2 ?_
  refine E_call rfl (Sp_le (by first | exact Nat.add_le_add_left (Nat.le_of_ble_eq_true rfl) _ | exact Nat.le_of_ble_eq_true rfl | omega) (sp_beginT (d := d) hh n8)) (chkO (a := 64) hh rfl rfl rfl rfl (by show 0 ≤ 8; decide)) (fun h1 r1 => ?_)
  rintro ⟨e1, hh1, f1, g5, g6, g0, -⟩
  rw [e1]
  refine E_al rfl L0 ?_
  refine E_call rfl (Sp_le (by first | exact Nat.add_le_add_left (Nat.le_of_ble_eq_true rfl) _ | exact Nat.le_of_ble_eq_true rfl | omega) (sp_clear8 (d := d) hh1 n8 g5)) (chkO (a := 64) hh1 rfl rfl rfl rfl (by show 0 ≤ 8; decide)) (fun h2 r2 => ?_)
  rintro ⟨e2, hh2, f2, N2⟩
  rw [e2]
  have k5 : gi h2 64 5 = nJ (n + 1) := by rw [fr_gi f2 (rg_no rfl _)]; exact g5
  refine E_ci 1 rfl ci1 ?_
  refine E_al rfl L0 ?_
  refine E_ogf (q := (0, 9)) rfl hh2 rfl rfl k5 ?_
  refine E_bin rfl (show nJ 1 <<< (nJ (n + 1) &&& 31) = nJ (2 ^ (n + 1)) from sh_tab ⟨n + 1, by omega⟩) ?_
  refine E_ci 1 rfl ci1 ?_
  refine E_bin rfl (show nJ (2 ^ (n + 1)) - nJ 1 = nJ (fuM n) from nJ_sub p2) ?_
  refine E_is rfl (fun lv1 K3 kp => ?_)
  refine E_ci 0 rfl ci0 ?_
  refine E_is rfl (fun lv2 K4 kp2 => ?_)
  have nc : ∀ M : List Rng, M.all (fun r => Nat.ble 64 r.1 && Nat.ble r.1 69) = true → M.all (fun r => !(Nat.beq r.1 cell)) = true := fun M hM => List.all_eq_true.mpr (fun r hr => by
    have := List.all_eq_true.mp hM r hr
    rw [Bool.and_eq_true] at this
    have a1 := Nat.le_of_ble_eq_true this.1
    have a2 := Nat.le_of_ble_eq_true this.2
    rw [beq_no (show r.1 ≠ cell by omega)]; rfl)
  refine de_loop n1 n8 hc ncell (n - 1) (i := 0) (m := fuM n) lv2 hh2 (fr_trans (fr_wk rfl f1) (fr_wk rfl f2)) (CDR_fr f2 (nc NF rfl) (CDR_fr f1 (nc TF rfl) C)) k5 (by rw [fr_gi f2 (rg_no rfl _)]; exact g6) (by rw [fr_gi f2 (rg_no rfl _)]; exact g0) (fun v hv => NR_cg (fun j hj => ?_) (N2 v hv)) (PI_0 n1 n8 hc) (kp2 0 _ (nbz rfl) rfl (kp 0 _ (nbz rfl) rfl L0)) (kp2 1 _ (nbz rfl) rfl (kp 1 _ (nbz rfl) rfl L1)) (kp2 2 _ (nbz rfl) rfl (kp 2 _ (nbz rfl) rfl L2)) (kp2 3 _ (nbz rfl) rfl K3) K4
  refine (decide_eq_false (fun z => ?_)).symm
  have on : ∀ w, w ≤ n → isB (fuM n) w = true := fun w hw => by rw [fuM_b n8 (by first | decide | with_reducible assumption | omega)]; exact decide_eq_true hw
  rcases z with ⟨z1, z2, -⟩ | ⟨z1, z2, -⟩
  · have z2 : (!isB (fuM n) v) = true := z2
    rw [on v z1] at z2; cases z2
  · have z2 : (!isB (fuM n) j) = true := z2
    rw [on j z1] at z2; cases z2
end DEC
end
section
/-! the slots' numbers in the relation (written by gen_u113.py; wants t33, u62) -/
theorem gl_ne {h : pm_H} {a k : Nat} {v : Int32} {b j : Nat} (hbj : b = a → j ≠ k) : gl (pt h a k v) b j = gl h b j := by
  unfold gl
  rw [ld_pt hbj]
noncomputable def clN (h : pm_H) (s k : Nat) : Int64 := gl h (55 + 2 * s) k
noncomputable def rlN (h : pm_H) (s k : Nat) : Int64 := gl h 80 (60 * s + k)
noncomputable def NU (h : pm_H) : Prop := ∀ s, s < 4 → ∀ k, k < 60 → clN h s k = rlN h s k
noncomputable def rowE (r a c : Int32) (f : Nat → Nat → Int64) (s k : Nat) : Int64 := if r = 0 ∧ a = nJ s ∧ (k : Int) < c.toInt then 0 else f s k
noncomputable def wrE (r a b : Int32) (v : Int64) (w : Nat → Int32) (f : Nat → Nat → Int64) (s k : Nat) : Int64 := if r = 0 ∧ a = nJ s ∧ b = nJ k then cutv v (w s) else f s k
noncomputable def paE (r a i b j n : Int32) (f : Nat → Nat → Int64) (s k : Nat) : Int64 := if r = 0 ∧ b = nJ s ∧ j.toInt ≤ (k : Int) ∧ (k : Int) < j.toInt + n.toInt then f a.toInt.toNat ((k : Int) - j.toInt + i.toInt).toNat else f s k
noncomputable def EF (g : pm_H → Nat → Nat → Int64) (E : Int32 → Nat → Nat → Int64) (h' : pm_H) (r : Option Value) : Prop := ∃ x : Int32, r = some (.int x) ∧ ∀ s, s < 4 → ∀ k, k < 60 → g h' s k = E x s k
theorem no_cell {c j b k : Nat} (h : c ≠ b) {u : Nat} : rg_in [(c, j, u)] b k = false := rg_no (by simp [beq_no h]) k
theorem no_one {c j k : Nat} (h : k ≠ j) : rg_in [(c, j, j)] c k = false := by
  cases hq : rg_in [(c, j, j)] c k with
  | false => rfl
  | true =>
    obtain ⟨r, hr, hc⟩ := List.any_eq_true.mp hq
    have er := List.mem_singleton.mp hr
    subst er
    simp only [Bool.and_eq_true] at hc
    exact absurd (Nat.le_antisymm (Nat.le_of_ble_eq_true hc.2.2) (Nat.le_of_ble_eq_true hc.2.1)) h
theorem no_long {M : List Rng} (hb : [55, 57, 59, 61].all (nocell M) = true) {s k : Nat} (hs : s < 4) : rg_in M (55 + 2 * s) k = false := by
  refine rg_no ?_ k
  match s, hs with
  | 0, _ => exact nc_at hb (by decide)
  | 1, _ => exact nc_at hb (by decide)
  | 2, _ => exact nc_at hb (by decide)
  | 3, _ => exact nc_at hb (by decide)
section EFF
variable {r a b c i j n : Int32} {v : Int64} {w : Nat → Int32} {f g : Nat → Nat → Int64} {s t k : Nat}
theorem rowE_n (q : r ≠ 0) : rowE r a c f s k = f s k := if_neg (fun z => q z.1)
theorem wrE_n (q : r ≠ 0) : wrE r a b v w f s k = f s k := if_neg (fun z => q z.1)
theorem paE_n (q : r ≠ 0) : paE r a i b j n f s k = f s k := if_neg (fun z => q z.1)
theorem rowE_at {m : Nat} (hs : s < 4) (hm : m ≤ 60) (e : ∀ k, k < 60 → g s k = if k < m then 0 else f s k) (o : ∀ s', s' < 4 → s' ≠ s → ∀ k, k < 60 → g s' k = f s' k) : ∀ s', s' < 4 → ∀ k, k < 60 → g s' k = rowE (nJ 0) (nJ s) (nJ m) f s' k := by
  intro s' hs' k hk
  have tm := nJ_toInt (n := m) (by first | decide | with_reducible assumption | omega)
  unfold rowE
  by_cases q : s' = s
  · subst q
    rw [e k hk]
    by_cases z : k < m
    · rw [if_pos z, if_pos ⟨rfl, rfl, by omega⟩]
    · rw [if_neg z, if_neg (fun y => z (by have := y.2.2; omega))]
  · rw [o s' hs' q k hk, if_neg (fun y => q ((nJ_eq (by first | decide | with_reducible assumption | omega) (by first | decide | with_reducible assumption | omega)).mp y.2.1).symm)]
theorem wrE_at {k0 : Nat} (r0 : r = 0) (hs : s < 4) (hk0 : k0 < 60) (e : g s k0 = cutv v (w s)) (o : ∀ s' k, s' < 4 → k < 60 → ¬ (s' = s ∧ k = k0) → g s' k = f s' k) : ∀ s', s' < 4 → ∀ k, k < 60 → g s' k = wrE r (nJ s) (nJ k0) v w f s' k := by
  intro s' hs' k hk
  unfold wrE
  by_cases q : s' = s ∧ k = k0
  · rw [q.1, q.2, e, if_pos ⟨r0, rfl, rfl⟩]
  · rw [o s' k hs' hk q, if_neg (fun y => q ⟨((nJ_eq (by first | decide | with_reducible assumption | omega) (by first | decide | with_reducible assumption | omega)).mp y.2.1).symm, ((nJ_eq (by first | decide | with_reducible assumption | omega) (by first | decide | with_reducible assumption | omega)).mp y.2.2).symm⟩)]
theorem paE_at (r0 : r = 0) (hs : s < 4) (ht : t < 4) (e : ∀ k, k < 60 → g t k = if j.toInt ≤ (k : Int) ∧ (k : Int) < j.toInt + n.toInt then f s ((k : Int) - j.toInt + i.toInt).toNat else f t k) (o : ∀ s', s' < 4 → s' ≠ t → ∀ k, k < 60 → g s' k = f s' k) : ∀ s', s' < 4 → ∀ k, k < 60 → g s' k = paE r (nJ s) i (nJ t) j n f s' k := by
  intro s' hs' k hk
  unfold paE
  by_cases q : s' = t
  · subst q
    rw [e k hk, nJ_nat hs]
    by_cases z : j.toInt ≤ (k : Int) ∧ (k : Int) < j.toInt + n.toInt
    · rw [if_pos z, if_pos ⟨r0, rfl, z⟩]
    · rw [if_neg z, if_neg (fun y => z y.2.2)]
  · rw [o s' hs' q k hk, if_neg (fun y => q ((nJ_eq (by first | decide | with_reducible assumption | omega) (by first | decide | with_reducible assumption | omega)).mp y.2.1).symm)]
theorem rowE_cg (e : ∀ s, s < 4 → ∀ k, k < 60 → f s k = g s k) (hs : s < 4) (hk : k < 60) : rowE r a c f s k = rowE r a c g s k := by unfold rowE; rw [e s hs k hk]
end EFF
/-! row -/
section RWN
theorem bgN_loop {a c w n d : Nat} {h0 : pm_H} (hac : a ≠ c) (S : isS a c) (hn : n ≤ 60) (j : Nat) : ∀ {h : pm_H} {i : Nat} (lv : List (Nat × Value)), i + j = n → HH h → fr_g [(a, 1, 3), (c, 0, 59)] h0 h → (∀ k, k < 60 → gl h c k = if k < i then 0 else gl h0 c k) → pm_get lv 0 = some (.ref a) → pm_get lv 2 = some (.int (nJ n)) → pm_get lv 3 = some (.int (nJ i)) → Ends (pm_at tX4_begin) (pm_Rt pm_P d) (17, lv, [], h, 0, 0) (fun h' r => r = none ∧ HH h' ∧ fr_g [(a, 1, 3), (c, 0, 59)] h0 h' ∧ ∀ k, k < 60 → gl h' c k = if k < n then 0 else gl h0 c k) := by
  obtain ⟨S1, S2, S3, S4, S5, S6⟩ := S
  induction j with
  | zero =>
    intro h i lv hj hh hf g L0 L2 L3
    refine E_il rfl L3 ?_
    refine E_il rfl L2 ?_
    refine E_icT rfl (decide_eq_true ((nJ_le (by first | decide | with_reducible assumption | omega) (by first | decide | with_reducible assumption | omega)).mpr (by first | decide | with_reducible assumption | omega))) ?_
    have e : i = n := by omega
    exact E_ret rfl ⟨rfl, hh, hf, by rw [← e]; exact g⟩
  | succ j ih =>
    intro h i lv hj hh hf g L0 L2 L3
    refine E_il rfl L3 ?_
    refine E_il rfl L2 ?_
    refine E_icF rfl (decide_eq_false (fun q => absurd ((nJ_le (by first | decide | with_reducible assumption | omega) (by first | decide | with_reducible assumption | omega)).mp q) (by first | decide | with_reducible assumption | omega))) ?_
    refine E_al rfl L0 ?_
    refine E_ogr rfl hh S1 S2 ?_
    refine E_il rfl L3 ?_
    refine E_c rfl ?_
    refine E_las rfl hh S3 (by first | decide | with_reducible assumption | omega) (by decide) (fun h1 hh1 f1 g1 => ?_)
    refine E_inc rfl L3 (nJ_inc _) (fun lv1 K3 kp => ?_)
    refine E_goto rfl ?_
    refine ih lv1 (by first | decide | with_reducible assumption | omega) hh1 (fr_trans hf (fr_one (l := 0) (u := 59) (by unfold rg_sub; simp) (Nat.zero_le _) (by first | decide | with_reducible assumption | omega) f1)) (fun k hk => ?_) (kp 0 _ (nbz rfl) rfl L0) (kp 2 _ (nbz rfl) rfl L2) K3
    by_cases e : k = i
    · rw [e, g1, if_pos (by first | decide | with_reducible assumption | omega)]
    · rw [fr_gl f1 (no_one e), g k hk]
      by_cases z : k < i
      · rw [if_pos z, if_pos (by first | decide | with_reducible assumption | omega)]
      · rw [if_neg z, if_neg (by first | decide | with_reducible assumption | omega)]
theorem sp_beginN {h : pm_H} {a c w n d : Nat} (hac : a ≠ c) (S : isS a c) (hh : HH h) (hw : w ≤ 3) (hn : n ≤ 60) : Sp (d + 1) 44 h [.ref a, .int (nJ w), .int (nJ n)] (fun h' r => r = none ∧ HH h' ∧ fr_g [(a, 1, 3), (c, 0, 59)] h h' ∧ ∀ k, k < 60 → gl h' c k = if k < n then 0 else gl h c k) := by
  have S0 := S
  obtain ⟨S1, S2, S3, S4, S5, S6⟩ := S
  refine Sp_of aiX4_begin rfl rfl rfl ?_
  have L0 : pm_get (lv_args 0 [.ref a, .int (nJ w), .int (nJ n)]) 0 = some (.ref a) := rfl
  have L1 : pm_get (lv_args 0 [.ref a, .int (nJ w), .int (nJ n)]) 1 = some (.int (nJ w)) := rfl
  have L2 : pm_get (lv_args 0 [.ref a, .int (nJ w), .int (nJ n)]) 2 = some (.int (nJ n)) := rfl
  generalize lv_args 0 [.ref a, .int (nJ w), .int (nJ n)] = lv at L0 L1 L2 ⊢
  refine E_al rfl L0 ?_
  refine E_c rfl ?_
  refine E_opT rfl rfl hh S1 S4 ?_
  have h1 : HH (pt h a 1 1) := HH_pt hh S4 (by decide) (by decide)
  refine E_al rfl L0 ?_
  refine E_il rfl L1 ?_
  refine E_opf rfl h1 S1 S5 ?_
  have h2 : HH (pt (pt h a 1 1) a 2 (nJ w)) := HH_ptn h1 S5 (by first | decide | with_reducible assumption | omega) (by first | decide | with_reducible assumption | omega) (by first | decide | with_reducible assumption | omega)
  refine E_al rfl L0 ?_
  refine E_il rfl L2 ?_
  refine E_opf rfl h2 S1 S6 ?_
  have h3 : HH (pt (pt (pt h a 1 1) a 2 (nJ w)) a 3 (nJ n)) := HH_ptn h2 S6 (by first | decide | with_reducible assumption | omega) (by first | decide | with_reducible assumption | omega) (by first | decide | with_reducible assumption | omega)
  refine E_ci 0 rfl ci0 ?_
  refine E_is rfl (fun lv1 K3 kp => ?_)
  refine bgN_loop (w := w) hac S0 hn n (i := 0) lv1 (by first | decide | with_reducible assumption | omega) h3 ?_ (fun k hk => ?_) (kp 0 _ (nbz rfl) rfl L0) (kp 2 _ (nbz rfl) rfl L2) K3
  · refine fr_ptr (l := 1) (u := 3) (by unfold rg_sub; simp) (by first | decide | with_reducible assumption | omega) (by first | decide | with_reducible assumption | omega) (fr_ptr (l := 1) (u := 3) (by unfold rg_sub; simp) (by first | decide | with_reducible assumption | omega) (by first | decide | with_reducible assumption | omega) (fr_ptr (l := 1) (u := 3) (by unfold rg_sub; simp) (by first | decide | with_reducible assumption | omega) (by first | decide | with_reducible assumption | omega) (fr_rf _ _)))
  · rw [if_neg (Nat.not_lt_zero k), gl_ne (fun q => absurd q.symm hac), gl_ne (fun q => absurd q.symm hac), gl_ne (fun q => absurd q.symm hac)]
theorem sp_row8N {h : pm_H} {d : Nat} {x y v : Int32} (hh : HH h) : Sp (d + 2) 171 h [.ref 0, .int x, .int y, .int v] (EF clN (fun r => rowE r x v (clN h))) := by
  refine Sp_of aiX8_row rfl rfl rfl ?_
  have L0 : pm_get (lv_args 0 [.ref 0, .int x, .int y, .int v]) 0 = some (.ref 0) := rfl
  have L1 : pm_get (lv_args 0 [.ref 0, .int x, .int y, .int v]) 1 = some (.int x) := rfl
  have L2 : pm_get (lv_args 0 [.ref 0, .int x, .int y, .int v]) 2 = some (.int y) := rfl
  have L3 : pm_get (lv_args 0 [.ref 0, .int x, .int y, .int v]) 3 = some (.int v) := rfl
  generalize lv_args 0 [.ref 0, .int x, .int y, .int v] = lv at L0 L1 L2 L3 ⊢
  have z0 : (0 : Int32).toInt = 0 := rfl
  have no : (x.toInt < 0 ∨ 3 < x.toInt ∨ y.toInt < 0 ∨ 3 < y.toInt ∨ 60 < v.toInt) → Ends (pm_at tX8_row) (pm_Rt pm_P (d + 1)) (22, lv, [], h, 0, 0) (EF clN (fun r => rowE r x v (clN h))) := by
    intro q
    refine E_c rfl ?_
    exact E_rti rfl ⟨_, rfl, fun s _ k _ => (rowE_n (by decide)).symm⟩
  refine E_il rfl L1 ?_
  refine E_call rfl (sp_isSlot8 (d := d)) (chkS rfl (by show 0 ≤ 8; decide)) (fun h1 r1 => ?_)
  rintro ⟨e1, rv⟩
  rw [e1]
  rcases rv with ⟨a0, a3, hr⟩ | ⟨an, hr⟩
  · rw [hr]
    refine E_ifF rfl (by decide) ?_
    refine E_il rfl L2 ?_
    by_cases b1 : y < 0
    · have q := Int32.lt_iff_toInt_lt.mp b1
      refine E_ifT rfl (decide_eq_true b1) ?_
      exact no (by first | decide | with_reducible assumption | omega)
    have q1 : ¬ y.toInt < (0 : Int32).toInt := fun w => b1 (Int32.lt_iff_toInt_lt.mpr w)
    refine E_ifF rfl (decide_eq_false b1) ?_
    refine E_il rfl L2 ?_
    refine E_ci 4 rfl ci4 ?_
    by_cases b2 : nJ 4 ≤ y
    · have q := Int32.le_iff_toInt_le.mp b2
      rw [nJ_toInt (by first | decide | with_reducible assumption | omega)] at q
      refine E_icT rfl (decide_eq_true b2) ?_
      exact no (by first | decide | with_reducible assumption | omega)
    have q2 : ¬ (nJ 4).toInt ≤ y.toInt := fun w => b2 (Int32.le_iff_toInt_le.mpr w)
    rw [nJ_toInt (by first | decide | with_reducible assumption | omega)] at q2
    refine E_icF rfl (decide_eq_false b2) ?_
    refine E_il rfl L3 ?_
    refine E_ci 60 rfl ci60 ?_
    by_cases b3 : v ≤ nJ 60
    · have q3 := Int32.le_iff_toInt_le.mp b3
      rw [nJ_toInt (by first | decide | with_reducible assumption | omega)] at q3
      refine E_icT rfl (decide_eq_true b3) ?_
      refine E_il rfl L3 ?_
      by_cases b4 : 0 ≤ v
      · have q4 := Int32.le_iff_toInt_le.mp b4
        refine E_ifT rfl (decide_eq_true b4) ?_
        have hr : rin x y v := ⟨⟨a0, a3⟩, ⟨by omega, by omega⟩, by omega, by omega⟩
        obtain ⟨s, hs, rfl⟩ : ∃ s, s < 4 ∧ x = nJ s := ⟨x.toInt.toNat, by omega, nJ_of a0⟩
        obtain ⟨w, hw, rfl⟩ : ∃ s, s ≤ 3 ∧ y = nJ s := ⟨y.toInt.toNat, by omega, nJ_of (by first | decide | with_reducible assumption | omega)⟩
        obtain ⟨n, hn, rfl⟩ : ∃ s, s ≤ 60 ∧ v = nJ s := ⟨v.toInt.toNat, by omega, nJ_of (by first | decide | with_reducible assumption | omega)⟩
        have S := isS_at s hs
        refine E_al rfl L0 ?_
        refine E_ogr rfl hh rfl (q := 53) rfl ?_
        refine E_il rfl L1 ?_
        refine E_aal rfl hh rfl (slot_at s hs) (by decide) ?_
        refine E_il rfl L2 ?_
        refine E_il rfl L3 ?_
        refine E_call rfl (sp_beginN (d := d) (by first | decide | with_reducible assumption | omega) S hh hw hn) (chkO (a := 54 + 2 * s) hh S.1 rfl rfl rfl (by show 0 ≤ 8; decide)) (fun h2 r2 => ?_)
        rintro ⟨e2, hh2, f2, gN⟩
        rw [e2]
        refine E_ci 0 rfl ci0 ?_
        exact E_rti rfl ⟨_, rfl, rowE_at hs hn (fun k hk => gN k hk) (fun s' hs' ne k hk => fr_gl f2 (no2 (by first | decide | with_reducible assumption | omega) (by first | decide | with_reducible assumption | omega) k))⟩
      · have q4 : ¬ (0 : Int32).toInt ≤ v.toInt := fun w => b4 (Int32.le_iff_toInt_le.mpr w)
        refine E_ifF rfl (decide_eq_false b4) ?_
        refine E_c rfl ?_
        exact E_rti rfl ⟨_, rfl, fun s _ k _ => (rowE_n (by decide)).symm⟩
    · have q3 : ¬ v.toInt ≤ (nJ 60).toInt := fun w => b3 (Int32.le_iff_toInt_le.mpr w)
      rw [nJ_toInt (by first | decide | with_reducible assumption | omega)] at q3
      refine E_icF rfl (decide_eq_false b3) ?_
      exact no (by first | decide | with_reducible assumption | omega)
  · rw [hr]
    refine E_ifT rfl (by decide) ?_
    exact no (by first | decide | with_reducible assumption | omega)
/-! the reference's row -/
theorem rlN_77 {h : pm_H} {v : Int32} {s k : Nat} : rlN (pt h 77 0 v) s k = rlN h s k := gl_ne (by first | decide | with_reducible assumption | omega)
theorem rwN_loop {h0 : pm_H} {d s n : Nat} (hs : s < 4) (hn : n ≤ 60) (j : Nat) : ∀ {h : pm_H} {i : Nat} (lv : List (Nat × Value)), i + j = n → HH h → (∀ q, q < 240 → gl h 80 q = if 60 * s ≤ q ∧ q < 60 * s + i then 0 else gl h0 80 q) → pm_get lv 0 = some (.ref 77) → pm_get lv 1 = some (.int (nJ s)) → pm_get lv 3 = some (.int (nJ n)) → pm_get lv 4 = some (.int (nJ i)) → Ends (pm_at tX9_row) (pm_Rt pm_P d) (57, lv, [], h, 0, 0) (EF rlN (fun r => rowE r (nJ s) (nJ n) (rlN h0))) := by
  induction j with
  | zero =>
    intro h i lv hj hh g L0 L1 L3 L4
    refine E_il rfl L4 ?_
    refine E_il rfl L3 ?_
    refine E_icT rfl (decide_eq_true ((nJ_le (by first | decide | with_reducible assumption | omega) (by first | decide | with_reducible assumption | omega)).mpr (by first | decide | with_reducible assumption | omega))) ?_
    refine E_ci 0 rfl ci0 ?_
    refine E_rti rfl ⟨_, rfl, rowE_at hs hn (fun k hk => ?_) (fun s' hs' ne k hk => ?_)⟩
    · show gl h 80 (60 * s + k) = if k < n then 0 else gl h0 80 (60 * s + k)
      rw [g _ (by first | decide | with_reducible assumption | omega)]
      by_cases z : k < n
      · rw [if_pos z, if_pos (by first | decide | with_reducible assumption | omega)]
      · rw [if_neg z, if_neg (by first | decide | with_reducible assumption | omega)]
    · show gl h 80 (60 * s' + k) = gl h0 80 (60 * s' + k)
      rw [g _ (by first | decide | with_reducible assumption | omega), if_neg (by first | decide | with_reducible assumption | omega)]
  | succ j ih =>
    intro h i lv hj hh g L0 L1 L3 L4
    refine E_il rfl L4 ?_
    refine E_il rfl L3 ?_
    refine E_icF rfl (decide_eq_false (fun q => absurd ((nJ_le (by first | decide | with_reducible assumption | omega) (by first | decide | with_reducible assumption | omega)).mp q) (by first | decide | with_reducible assumption | omega))) ?_
    refine E_al rfl L0 ?_
    refine E_gr rfl hh (q := 80) rfl ?_
    refine E_ci 60 rfl ci60 ?_
    refine E_il rfl L1 ?_
    refine E_bin rfl (nJ_mul _ _) ?_
    refine E_il rfl L4 ?_
    refine E_bin rfl (nJ_add _ _) ?_
    refine E_c rfl ?_
    refine E_las rfl hh rfl (by first | decide | with_reducible assumption | omega) (by decide) (fun h1 hh1 f1 g1 => ?_)
    refine E_inc rfl L4 (nJ_inc _) (fun lv1 K4 kp => ?_)
    refine E_goto rfl ?_
    refine ih lv1 (by first | decide | with_reducible assumption | omega) hh1 (fun q hq => ?_) (kp 0 _ (nbz rfl) rfl L0) (kp 1 _ (nbz rfl) rfl L1) (kp 3 _ (nbz rfl) rfl L3) K4
    by_cases e : q = 60 * s + i
    · rw [e, g1, if_pos (by first | decide | with_reducible assumption | omega)]
    · rw [fr_gl f1 (no_one e), g q hq]
      by_cases z : 60 * s ≤ q ∧ q < 60 * s + i
      · rw [if_pos z, if_pos (by first | decide | with_reducible assumption | omega)]
      · rw [if_neg z, if_neg (by first | decide | with_reducible assumption | omega)]
theorem sp_row9N {h : pm_H} {d : Nat} {x y v : Int32} (hh : HH h) : Sp (d + 3) 338 h [.ref 77, .int x, .int y, .int v] (EF rlN (fun r => rowE r x v (rlN h))) := by
  refine Sp_of aiX9_row rfl rfl rfl ?_
  have L0 : pm_get (lv_args 0 [.ref 77, .int x, .int y, .int v]) 0 = some (.ref 77) := rfl
  have L1 : pm_get (lv_args 0 [.ref 77, .int x, .int y, .int v]) 1 = some (.int x) := rfl
  have L2 : pm_get (lv_args 0 [.ref 77, .int x, .int y, .int v]) 2 = some (.int y) := rfl
  have L3 : pm_get (lv_args 0 [.ref 77, .int x, .int y, .int v]) 3 = some (.int v) := rfl
  generalize lv_args 0 [.ref 77, .int x, .int y, .int v] = lv at L0 L1 L2 L3 ⊢
  have z0 : (0 : Int32).toInt = 0 := rfl
  refine E_al rfl L0 ?_
  refine E_ci 0 rfl ci0 ?_
  refine E_pf rfl hh rfl ?_
  have hg : HH (pt h 77 0 (nJ 0)) := HH_ptn hh rfl (by first | decide | with_reducible assumption | omega) (by first | decide | with_reducible assumption | omega) (by first | decide | with_reducible assumption | omega)
  have no : (x.toInt < 0 ∨ 3 < x.toInt ∨ y.toInt < 0 ∨ 3 < y.toInt ∨ 60 < v.toInt) → Ends (pm_at tX9_row) (pm_Rt pm_P (d + 2)) (30, lv, [], pt h 77 0 (nJ 0), 0, 0) (EF rlN (fun r => rowE r x v (rlN h))) := by
    intro q
    refine E_c rfl ?_
    exact E_rti rfl ⟨_, rfl, fun s _ k _ => rlN_77.trans (rowE_n (by decide)).symm⟩
  refine E_il rfl L1 ?_
  refine E_call rfl sp_isSlot (chkS rfl (by show 0 ≤ 8; decide)) (fun h1 r1 => ?_)
  rintro ⟨e1, f1⟩
  rw [e1, f1]
  by_cases b0 : 0 ≤ x.toInt ∧ x.toInt ≤ 3
  · refine E_ifF rfl (by rw [zb_T b0]; rfl) ?_
    refine E_il rfl L2 ?_
    refine E_i2l rfl ?_
    refine E_c rfl ?_
    refine E_c rfl ?_
    refine E_call rfl (sp_in (a := y.toInt) (b := 0) (c := 3) (i2l_toInt _) rfl rfl) (chkS rfl (by show 0 ≤ 8; decide)) (fun h2 r2 => ?_)
    rintro ⟨e2, f2⟩
    rw [e2, f2]
    by_cases b1 : 0 ≤ y.toInt ∧ y.toInt ≤ 3
    · refine E_ifF rfl (by rw [zb_T b1]; rfl) ?_
      refine E_il rfl L3 ?_
      refine E_ci 60 rfl ci60 ?_
      by_cases b3 : v ≤ nJ 60
      · have q3 := Int32.le_iff_toInt_le.mp b3
        rw [nJ_toInt (by first | decide | with_reducible assumption | omega)] at q3
        refine E_icT rfl (decide_eq_true b3) ?_
        refine E_il rfl L3 ?_
        by_cases b4 : 0 ≤ v
        · have q4 := Int32.le_iff_toInt_le.mp b4
          refine E_ifT rfl (decide_eq_true b4) ?_
          have hr : rin x y v := ⟨b0, b1, by omega, by omega⟩
          obtain ⟨s, hs, rfl⟩ : ∃ s, s < 4 ∧ x = nJ s := ⟨x.toInt.toNat, by omega, nJ_of b0.1⟩
          obtain ⟨w, hw, rfl⟩ : ∃ s, s ≤ 3 ∧ y = nJ s := ⟨y.toInt.toNat, by omega, nJ_of b1.1⟩
          obtain ⟨n, hn, rfl⟩ : ∃ s, s ≤ 60 ∧ v = nJ s := ⟨v.toInt.toNat, by omega, nJ_of (by first | decide | with_reducible assumption | omega)⟩
          refine E_al rfl L0 ?_
          refine E_gr rfl hg (q := 78) rfl ?_
          refine E_il rfl L1 ?_
          refine E_il rfl L2 ?_
          refine E_ias rfl hg rfl (by first | decide | with_reducible assumption | omega) (by decide) ?_
          have h1 : HH (pt (pt h 77 0 (nJ 0)) 78 s (nJ w)) := HH_ptn hg (bd_u rfl (by first | decide | with_reducible assumption | omega)) (by first | decide | with_reducible assumption | omega) (by first | decide | with_reducible assumption | omega) (by first | decide | with_reducible assumption | omega)
          refine E_al rfl L0 ?_
          refine E_gr rfl h1 (q := 79) rfl ?_
          refine E_il rfl L1 ?_
          refine E_il rfl L3 ?_
          refine E_ias rfl h1 rfl (by first | decide | with_reducible assumption | omega) (by decide) ?_
          have h2 : HH (pt (pt (pt h 77 0 (nJ 0)) 78 s (nJ w)) 79 s (nJ n)) := HH_ptn h1 (bd_u rfl (by first | decide | with_reducible assumption | omega)) (by first | decide | with_reducible assumption | omega) (by first | decide | with_reducible assumption | omega) (by first | decide | with_reducible assumption | omega)
          refine E_ci 0 rfl ci0 ?_
          refine E_is rfl (fun lv1 K4 kp => ?_)
          refine rwN_loop hs hn n (i := 0) lv1 (by first | decide | with_reducible assumption | omega) h2 (fun q hq => ?_) (kp 0 _ (nbz rfl) rfl L0) (kp 1 _ (nbz rfl) rfl L1) (kp 3 _ (nbz rfl) rfl L3) K4
          rw [if_neg (by first | decide | with_reducible assumption | omega), gl_ne (by first | decide | with_reducible assumption | omega), gl_ne (by first | decide | with_reducible assumption | omega), gl_ne (by first | decide | with_reducible assumption | omega)]
        · have q4 : ¬ (0 : Int32).toInt ≤ v.toInt := fun w => b4 (Int32.le_iff_toInt_le.mpr w)
          refine E_ifF rfl (decide_eq_false b4) ?_
          refine E_c rfl ?_
          exact E_rti rfl ⟨_, rfl, fun s _ k _ => rlN_77.trans (rowE_n (by decide)).symm⟩
      · have q3 : ¬ v.toInt ≤ (nJ 60).toInt := fun w => b3 (Int32.le_iff_toInt_le.mpr w)
        rw [nJ_toInt (by first | decide | with_reducible assumption | omega)] at q3
        refine E_icF rfl (decide_eq_false b3) ?_
        exact no (by first | decide | with_reducible assumption | omega)
    · refine E_ifT rfl (by rw [zb_F b1]; rfl) ?_
      exact no (by first | decide | with_reducible assumption | omega)
  · refine E_ifT rfl (by rw [zb_F b0]; rfl) ?_
    exact no (by first | decide | with_reducible assumption | omega)
/-! the relation of the slots -/
end RWN
/-! write -/
section WRN
variable {h : pm_H} {d : Nat} {x i : Int32} {v : Int64}
theorem sp_write8N (hh : HH h) : Sp (d + 2) 203 h [.ref 0, .int x, .int i, .long v] (EF clN (fun r => wrE r x i v (cwd h) (clN h))) := by
  refine Sp_of aiX8_write rfl rfl rfl ?_
  have L0 : pm_get (lv_args 0 [.ref 0, .int x, .int i, .long v]) 0 = some (.ref 0) := rfl
  have L1 : pm_get (lv_args 0 [.ref 0, .int x, .int i, .long v]) 1 = some (.int x) := rfl
  have L2 : pm_get (lv_args 0 [.ref 0, .int x, .int i, .long v]) 2 = some (.int i) := rfl
  have L3 : pm_get (lv_args 0 [.ref 0, .int x, .int i, .long v]) 3 = some (.long v) := rfl
  generalize lv_args 0 [.ref 0, .int x, .int i, .long v] = lv at L0 L1 L2 L3 ⊢
  have z0 : (0 : Int32).toInt = 0 := rfl
  refine E_il rfl L1 ?_
  refine E_call rfl (sp_isSlot8 (d := d)) (chkS rfl (by show 0 ≤ 8; decide)) (fun h1 r1 => ?_)
  rintro ⟨e1, rv⟩
  rw [e1]
  rcases rv with ⟨a0, a3, hr⟩ | ⟨an, hr⟩
  · rw [hr]
    refine E_ifT rfl (by decide) ?_
    obtain ⟨s, hs, rfl⟩ : ∃ s, s < 4 ∧ x = nJ s := ⟨x.toInt.toNat, by omega, nJ_of a0⟩
    obtain ⟨S1, S2, S3, S4, S5, S6⟩ := isS_at s hs
    refine E_al rfl L0 ?_
    refine E_ogr rfl hh rfl (q := 53) rfl ?_
    refine E_il rfl L1 ?_
    refine E_aal rfl hh rfl (slot_at s hs) (by decide) ?_
    refine E_asw rfl (fun lv1 M5 kp => ?_)
    have M2 := kp 2 _ (nbz rfl) (nbz rfl) L2
    have M3 := kp 3 _ (nbz rfl) (nbz rfl) L3
    refine E_al rfl M5 ?_
    refine E_ogf rfl hh S1 S4 rfl ?_
    by_cases b1 : gi h (54 + 2 * s) 1 = 0
    · refine E_ifF rfl (decide_eq_false (fun q => q b1)) ?_
      refine E_c rfl ?_
      exact E_rti rfl ⟨_, rfl, fun s _ k _ => (wrE_n (by decide)).symm⟩
    refine E_ifT rfl (decide_eq_true b1) ?_
    have g := (ld_gi hh S6).2
    dsimp only at g
    have no : ∀ {lv : List (Nat × Value)}, ¬ (0 ≤ i.toInt ∧ i.toInt < (gi h (54 + 2 * s) 3).toInt) → Ends (pm_at tX8_write) (pm_Rt pm_P (d + 1)) (42, lv, [], h, 0, 0) (EF clN (fun r => wrE r (nJ s) i v (cwd h) (clN h))) := by
      intro lv hn
      refine E_c rfl ?_
      exact E_rti rfl ⟨_, rfl, fun s _ k _ => (wrE_n (by decide)).symm⟩
    refine E_il rfl M2 ?_
    by_cases b2 : i < 0
    · have q := Int32.lt_iff_toInt_lt.mp b2
      refine E_ifT rfl (decide_eq_true b2) ?_
      exact no (by first | decide | with_reducible assumption | omega)
    have q2 : ¬ i.toInt < (0 : Int32).toInt := fun z => b2 (Int32.lt_iff_toInt_lt.mpr z)
    refine E_ifF rfl (decide_eq_false b2) ?_
    refine E_il rfl M2 ?_
    refine E_al rfl M5 ?_
    refine E_ogf rfl hh S1 S6 rfl ?_
    by_cases b3 : i < gi h (54 + 2 * s) 3
    · have q3 := Int32.lt_iff_toInt_lt.mp b3
      refine E_icT rfl (decide_eq_true b3) ?_
      obtain ⟨k, hk, rfl⟩ : ∃ k, k < 60 ∧ i = nJ k := ⟨i.toInt.toNat, by omega, nJ_of (by first | decide | with_reducible assumption | omega)⟩
      refine E_al rfl M5 ?_
      refine E_ogr rfl hh S1 S2 ?_
      refine E_il rfl M2 ?_
      refine E_ll rfl M3 ?_
      refine E_al rfl M5 ?_
      refine E_ogf rfl hh S1 S5 rfl ?_
      refine E_call rfl (sp_cut8 (d := d)) (chkS rfl (by show 2 ≤ 8; decide)) (fun h3 r3 => ?_)
      rintro ⟨e3, f3⟩
      rw [e3, f3]
      refine E_las rfl hh S3 hk (by decide) (fun h4 _ f4 g4 => ?_)
      refine E_c rfl ?_
      refine E_rti rfl ⟨_, rfl, wrE_at rfl hs hk g4 (fun s' k' hs' hk' ne => ?_)⟩
      by_cases e : s' = s
      · rw [e]; exact fr_gl f4 (no_one (fun q => ne ⟨e, q⟩))
      · exact fr_gl f4 (no_cell (by first | decide | with_reducible assumption | omega))
    · have q3 : ¬ i.toInt < (gi h (54 + 2 * s) 3).toInt := fun z => b3 (Int32.lt_iff_toInt_lt.mpr z)
      refine E_icF rfl (decide_eq_false b3) ?_
      exact no (fun z => q3 z.2)
  · rw [hr]
    refine E_ifF rfl (by decide) ?_
    refine E_c rfl ?_
    exact E_rti rfl ⟨_, rfl, fun s _ k _ => (wrE_n (by decide)).symm⟩
theorem sp_write9N (hh : HH h) : Sp (d + 3) 380 h [.ref 77, .int x, .int i, .long v] (EF rlN (fun r => wrE r x i v (rfw h) (rlN h))) := by
  refine Sp_of aiX9_write rfl rfl rfl ?_
  have L0 : pm_get (lv_args 0 [.ref 77, .int x, .int i, .long v]) 0 = some (.ref 77) := rfl
  have L1 : pm_get (lv_args 0 [.ref 77, .int x, .int i, .long v]) 1 = some (.int x) := rfl
  have L2 : pm_get (lv_args 0 [.ref 77, .int x, .int i, .long v]) 2 = some (.int i) := rfl
  have L3 : pm_get (lv_args 0 [.ref 77, .int x, .int i, .long v]) 3 = some (.long v) := rfl
  generalize lv_args 0 [.ref 77, .int x, .int i, .long v] = lv at L0 L1 L2 L3 ⊢
  have o1 : (1 : Int32).toInt = 1 := rfl
  refine E_al rfl L0 ?_
  refine E_ci 0 rfl ci0 ?_
  refine E_pf rfl hh rfl ?_
  have hg : HH (pt h 77 0 (nJ 0)) := HH_ptn hh rfl (by first | decide | with_reducible assumption | omega) (by first | decide | with_reducible assumption | omega) (by first | decide | with_reducible assumption | omega)
  refine E_il rfl L1 ?_
  refine E_call rfl sp_isSlot (chkS rfl (by show 0 ≤ 8; decide)) (fun h1 r1 => ?_)
  rintro ⟨e1, f1⟩
  rw [e1, f1]
  by_cases b0 : 0 ≤ x.toInt ∧ x.toInt ≤ 3
  · refine E_ifT rfl (by rw [zb_T b0]; rfl) ?_
    obtain ⟨s, hs, rfl⟩ : ∃ s, s < 4 ∧ x = nJ s := ⟨x.toInt.toNat, by omega, nJ_of b0.1⟩
    refine E_al rfl L0 ?_
    refine E_gr rfl hg (q := 78) rfl ?_
    refine E_il rfl L1 ?_
    refine E_ial (v := gi h 78 s) rfl hg rfl (by first | decide | with_reducible assumption | omega) (by decide) (gi_ne (by first | exact gxx rfl | omega)) ?_
    refine E_c rfl ?_
    by_cases b1 : gi h 78 s = -1
    · refine E_icF rfl (decide_eq_false (fun q => q b1)) ?_
      refine E_c rfl ?_
      exact E_rti rfl ⟨_, rfl, fun s _ k _ => rlN_77.trans (wrE_n (by decide)).symm⟩
    refine E_icT rfl (decide_eq_true b1) ?_
    refine E_il rfl L2 ?_
    refine E_i2l rfl ?_
    refine E_c rfl ?_
    refine E_al rfl L0 ?_
    refine E_gr rfl hg (q := 79) rfl ?_
    refine E_il rfl L1 ?_
    refine E_ial (v := gi h 79 s) rfl hg rfl (by first | decide | with_reducible assumption | omega) (by decide) (gi_ne (by first | exact gxx rfl | omega)) ?_
    refine E_c rfl ?_
    refine E_bin rfl rfl ?_
    refine E_i2l rfl ?_
    have g := (ld_gi hh (a := 79) (k := s) (bd_u rfl (by first | decide | with_reducible assumption | omega))).2
    dsimp only at g
    have es : (gi h 79 s - 1).toInt = (gi h 79 s).toInt - 1 := by
      rw [Int32.toInt_sub, o1]
      exact Int.bmod_eq_of_le (by first | decide | with_reducible assumption | omega) (by first | decide | with_reducible assumption | omega)
    refine E_call rfl (sp_in (a := i.toInt) (b := 0) (c := (gi h 79 s).toInt - 1) (i2l_toInt _) rfl (by rw [i2l_toInt]; exact es)) (chkS rfl (by show 0 ≤ 8; decide)) (fun h2 r2 => ?_)
    rintro ⟨e2, f2⟩
    rw [e2, f2]
    by_cases b2 : 0 ≤ i.toInt ∧ i.toInt ≤ (gi h 79 s).toInt - 1
    · refine E_ifT rfl (by rw [zb_T b2]; rfl) ?_
      obtain ⟨k, hk, rfl⟩ : ∃ k, k < 60 ∧ i = nJ k := ⟨i.toInt.toNat, by omega, nJ_of b2.1⟩
      refine E_al rfl L0 ?_
      refine E_gr rfl hg (q := 80) rfl ?_
      refine E_ci 60 rfl ci60 ?_
      refine E_il rfl L1 ?_
      refine E_bin rfl (nJ_mul _ _) ?_
      refine E_il rfl L2 ?_
      refine E_bin rfl (nJ_add _ _) ?_
      refine E_ll rfl L3 ?_
      refine E_al rfl L0 ?_
      refine E_gr rfl hg (q := 78) rfl ?_
      refine E_il rfl L1 ?_
      refine E_ial (v := gi h 78 s) rfl hg rfl (by first | decide | with_reducible assumption | omega) (by decide) (gi_ne (by first | exact gxx rfl | omega)) ?_
      refine E_call rfl (sp_cut9 (d := d + 1)) (chkS rfl (by show 2 ≤ 8; decide)) (fun h3 r3 => ?_)
      rintro ⟨e3, f3⟩
      rw [e3, f3]
      refine E_las rfl hg rfl (by first | decide | with_reducible assumption | omega) (by decide) (fun h4 _ f4 g4 => ?_)
      refine E_c rfl ?_
      refine E_rti rfl ⟨_, rfl, wrE_at rfl hs hk g4 (fun s' k' hs' hk' ne => ?_)⟩
      show gl h4 80 (60 * s' + k') = gl h 80 (60 * s' + k')
      rw [fr_gl f4 (no_one (by first | decide | with_reducible assumption | omega))]
      exact gl_ne (by first | decide | with_reducible assumption | omega)
    · refine E_ifF rfl (by rw [zb_F b2]; rfl) ?_
      refine E_c rfl ?_
      exact E_rti rfl ⟨_, rfl, fun s _ k _ => rlN_77.trans (wrE_n (by decide)).symm⟩
  · refine E_ifF rfl (by rw [zb_F b0]; rfl) ?_
    refine E_c rfl ?_
    exact E_rti rfl ⟨_, rfl, fun s _ k _ => rlN_77.trans (wrE_n (by decide)).symm⟩
end WRN
/-! paste -/
theorem E_cpyN {look : Nat → Option pm_I} {call : pm_Call} {Q : pm_H → Option Value → Prop} {pc n : Nat} {lv : List (Nat × Value)} {st : List Value} {h : pm_H} {z : Nat × Nat} {a0 a1 : Nat} {sp dp m : Int32} (h1 : look pc = some (.inl (s_copy n))) (hh : HH h) (c0 : hsF a0 = some (.inr (.inl 60))) (c1 : hsF a1 = some (.inr (.inl 60))) (k1 : 0 ≤ sp.toInt) (k2 : 0 ≤ dp.toInt) (k3 : 0 ≤ m.toInt) (k4 : sp.toInt + m.toInt ≤ 60) (k5 : dp.toInt + m.toInt ≤ 60) (hs : Nat.ble (pm_sz st) 8 = true) (kk : ∀ h', fr_g [(a1, 0, 59)] h h' → (∀ k, k < 60 → gl h' a1 k = if dp.toInt ≤ (k : Int) ∧ (k : Int) < dp.toInt + m.toInt then gl h a0 ((k : Int) - dp.toInt + sp.toInt).toNat else gl h a1 k) → Ends look call (n, lv, st, h', z) Q) : Ends look call (pc, lv, .int m :: .int dp :: .ref a1 :: .int sp :: .ref a0 :: st, h, z) Q := by
  obtain ⟨x, hx, hg⟩ := hf_at hh c0
  obtain ⟨y, hy, hk⟩ := hf_at hh c1
  match x, hx, hg, y, hy, hk with
  | .inl (t2, len2, .inr (.inl f)), hx, hg, .inl (t3, len3, .inr (.inl g)), hy, hk =>
    obtain ⟨rfl, rfl⟩ := hg
    obtain ⟨rfl, rfl⟩ := hk
    have z0 : (0 : Int32).toInt = 0 := rfl
    have n1 : ∀ w : Int32, 0 ≤ w.toInt → (!(decide (w < 0))) = true := fun w hw => by
      rw [decide_eq_false (fun q => by have := Int32.lt_iff_toInt_lt.mp q; omega)]; rfl
    have e1 : sp.toNatClampNeg = sp.toInt.toNat := rfl
    have e2 : dp.toNatClampNeg = dp.toInt.toNat := rfl
    have e3 : m.toNatClampNeg = m.toInt.toNat := rfl
    have b1 : Nat.ble (sp.toNatClampNeg + m.toNatClampNeg) 60 = true := Nat.ble_eq_true_of_le (by rw [e1, e3]; omega)
    have b2 : Nat.ble (dp.toNatClampNeg + m.toNatClampNeg) 60 = true := Nat.ble_eq_true_of_le (by rw [e2, e3]; omega)
    have hl := (List.getElem?_eq_some_iff.mp hy).1
    refine E_st h1 (σ' := (n, lv, st, h.set a1 (.inl (3, 60, .inr (.inl (va_cpy f g sp.toNatClampNeg dp.toNatClampNeg m.toNatClampNeg)))), z)) ?_ (kk _ ?_ (fun k hk => ?_))
    · simp only [s_copy, hx, hy, n1 sp k1, n1 dp k2, n1 m k3, b1, b2, hs, Bool.and_self, cond_true]
    · intro b j hbj
      by_cases e : b = a1
      · subst e
        have hj : ¬ j ≤ 59 := fun hj => by
          rw [rg_in_one (Nat.zero_le _) hj (List.mem_singleton_self _)] at hbj
          cases hbj
        have e9 : va_cpy f g sp.toNatClampNeg dp.toNatClampNeg m.toNatClampNeg j = g j := by
          unfold va_cpy
          rw [if_neg (by rw [e2, e3]; omega)]
        unfold ld
        rw [List.getElem?_set_self hl, hy]
        dsimp only
        rw [e9]
      · unfold ld
        rw [List.getElem?_set_ne (Ne.symm e)]
    · have ga : ∀ q, gl h a0 q = f q := fun q => by unfold gl ld; rw [hx]
      have gb : ∀ q, gl h a1 q = g q := fun q => by unfold gl ld; rw [hy]
      have gc : gl (h.set a1 (.inl (3, 60, .inr (.inl (va_cpy f g sp.toNatClampNeg dp.toNatClampNeg m.toNatClampNeg))))) a1 k = va_cpy f g sp.toNatClampNeg dp.toNatClampNeg m.toNatClampNeg k := by
        unfold gl ld
        rw [List.getElem?_set_self hl]
      rw [gc, ga, gb]
      unfold va_cpy
      by_cases q : dp.toInt ≤ (k : Int) ∧ (k : Int) < dp.toInt + m.toInt
      · rw [if_pos q, if_pos (by rw [e2, e3]; omega)]
        congr 1
        rw [e1, e2]
        omega
      · rw [if_neg q, if_neg (by rw [e2, e3]; omega)]
section PAN
variable {d s t a b n : Nat}
theorem sp_paste8N {h : pm_H} {x i y j n : Int32} (hh : HH h) : Sp (d + 2) 158 h [.ref 0, .int x, .int i, .int y, .int j, .int n] (EF clN (fun r => paE r x i y j n (clN h))) := by
  refine Sp_of aiX8_paste rfl rfl rfl ?_
  have L0 : pm_get (lv_args 0 [.ref 0, .int x, .int i, .int y, .int j, .int n]) 0 = some (.ref 0) := rfl
  have L1 : pm_get (lv_args 0 [.ref 0, .int x, .int i, .int y, .int j, .int n]) 1 = some (.int x) := rfl
  have L2 : pm_get (lv_args 0 [.ref 0, .int x, .int i, .int y, .int j, .int n]) 2 = some (.int i) := rfl
  have L3 : pm_get (lv_args 0 [.ref 0, .int x, .int i, .int y, .int j, .int n]) 3 = some (.int y) := rfl
  have L4 : pm_get (lv_args 0 [.ref 0, .int x, .int i, .int y, .int j, .int n]) 4 = some (.int j) := rfl
  have L5 : pm_get (lv_args 0 [.ref 0, .int x, .int i, .int y, .int j, .int n]) 5 = some (.int n) := rfl
  generalize lv_args 0 [.ref 0, .int x, .int i, .int y, .int j, .int n] = lv at L0 L1 L2 L3 L4 L5 ⊢
  have no : ∀ {lv : List (Nat × Value)}, ¬ ((0 ≤ x.toInt ∧ x.toInt ≤ 3) ∧ 0 ≤ y.toInt ∧ y.toInt ≤ 3) → Ends (pm_at tX8_paste) (pm_Rt pm_P (d + 1)) (14, lv, [], h, 0, 0) (EF clN (fun r => paE r x i y j n (clN h))) := by
    intro lv hn
    refine E_c rfl ?_
    exact E_rti rfl ⟨_, rfl, fun s _ k _ => (paE_n (by decide)).symm⟩
  refine E_il rfl L1 ?_
  refine E_call rfl (sp_isSlot8 (d := d)) (chkS rfl (by show 0 ≤ 8; decide)) (fun h1 r1 => ?_)
  rintro ⟨e1, rv⟩
  rw [e1]
  rcases rv with ⟨a0, a3, hr⟩ | ⟨an, hr⟩
  · rw [hr]
    refine E_ifF rfl (by decide) ?_
    refine E_il rfl L3 ?_
    refine E_call rfl (sp_isSlot8 (d := d)) (chkS rfl (by show 0 ≤ 8; decide)) (fun h2 r2 => ?_)
    rintro ⟨e2, rw2⟩
    rw [e2]
    rcases rw2 with ⟨c0, c3, hr2⟩ | ⟨cn, hr2⟩
    · rw [hr2]
      refine E_ifT rfl (by decide) ?_
      obtain ⟨s, hs, rfl⟩ : ∃ s, s < 4 ∧ x = nJ s := ⟨x.toInt.toNat, by omega, nJ_of a0⟩
      obtain ⟨t, ht, rfl⟩ : ∃ s, s < 4 ∧ y = nJ s := ⟨y.toInt.toNat, by omega, nJ_of c0⟩
      obtain ⟨S1, S2, S3, S4, S5, S6⟩ := isS_at s hs
      obtain ⟨T1, T2, T3, T4, T5, T6⟩ := isS_at t ht
      refine E_al rfl L0 ?_
      refine E_ogr rfl hh rfl (q := 53) rfl ?_
      refine E_il rfl L1 ?_
      refine E_aal rfl hh rfl (slot_at s hs) (by decide) ?_
      refine E_asr rfl (fun lv1 M6 kp => ?_)
      have M0 := kp 0 _ (nbz rfl) rfl L0
      have M2 := kp 2 _ (nbz rfl) rfl L2
      have M3 := kp 3 _ (nbz rfl) rfl L3
      have M4 := kp 4 _ (nbz rfl) rfl L4
      have M5 := kp 5 _ (nbz rfl) rfl L5
      refine E_al rfl M0 ?_
      refine E_ogr rfl hh rfl (q := 53) rfl ?_
      refine E_il rfl M3 ?_
      refine E_aal rfl hh rfl (slot_at t ht) (by decide) ?_
      refine E_asr rfl (fun lv2 N7 kp2 => ?_)
      have N2 := kp2 2 _ (nbz rfl) rfl M2
      have N4 := kp2 4 _ (nbz rfl) rfl M4
      have N5 := kp2 5 _ (nbz rfl) rfl M5
      have N6 := kp2 6 _ (nbz rfl) rfl M6
      refine E_al rfl N6 ?_
      refine E_ogf rfl hh S1 S4 rfl ?_
      by_cases b1 : gi h (54 + 2 * s) 1 = 0
      · refine E_ifT rfl (decide_eq_true b1) ?_
        refine E_c rfl ?_
        exact E_rti rfl ⟨_, rfl, fun s _ k _ => (paE_n (by decide)).symm⟩
      refine E_ifF rfl (decide_eq_false b1) ?_
      refine E_al rfl N7 ?_
      refine E_ogf rfl hh T1 T4 rfl ?_
      by_cases b2 : gi h (54 + 2 * t) 1 = 0
      · refine E_ifF rfl (decide_eq_false (fun q => q b2)) ?_
        refine E_c rfl ?_
        exact E_rti rfl ⟨_, rfl, fun s _ k _ => (paE_n (by decide)).symm⟩
      refine E_ifT rfl (decide_eq_true b2) ?_
      refine E_al rfl N6 ?_
      refine E_ogf rfl hh S1 S5 rfl ?_
      refine E_al rfl N7 ?_
      refine E_ogf rfl hh T1 T5 rfl ?_
      by_cases b3 : gi h (54 + 2 * s) 2 = gi h (54 + 2 * t) 2
      · refine E_icT rfl (decide_eq_true b3) ?_
        have fin7 : ∀ {lv : List (Nat × Value)}, ¬ (hol h (54 + 2 * s) i n ∧ hol h (54 + 2 * t) j n) → Ends (pm_at tX8_paste) (pm_Rt pm_P (d + 1)) (91, lv, [], h, 0, 0) (EF clN (fun r => paE r (nJ s) i (nJ t) j n (clN h))) := by
          intro lv hn
          refine E_c rfl ?_
          exact E_rti rfl ⟨_, rfl, fun s _ k _ => (paE_n (by decide)).symm⟩
        refine E_al rfl N6 ?_
        refine E_il rfl N2 ?_
        refine E_il rfl N5 ?_
        refine E_call rfl (sp_holds (d := d) hh (isS_at s hs)) (chkO (a := 54 + 2 * s) hh S1 rfl rfl rfl (by show 0 ≤ 8; decide)) (fun h3 r3 => ?_)
        rintro ⟨e3, rw3⟩
        rw [e3]
        rcases rw3 with ⟨o3, hr3⟩ | ⟨o3, hr3⟩
        · rw [hr3]
          refine E_ifF rfl (by decide) ?_
          refine E_al rfl N7 ?_
          refine E_il rfl N4 ?_
          refine E_il rfl N5 ?_
          refine E_call rfl (sp_holds (d := d) hh (isS_at t ht)) (chkO (a := 54 + 2 * t) hh T1 rfl rfl rfl (by show 0 ≤ 8; decide)) (fun h4 r4 => ?_)
          rintro ⟨e4, rw4⟩
          rw [e4]
          rcases rw4 with ⟨o4, hr4⟩ | ⟨o4, hr4⟩
          · rw [hr4]
            refine E_ifT rfl (by decide) ?_
            have g6 := (ld_gi hh S6).2
            have t6 := (ld_gi hh T6).2
            dsimp only at g6 t6
            have u1 := o3.2.2
            have u2 := o4.2.2
            refine E_al rfl N6 ?_
            refine E_ogr rfl hh S1 S2 ?_
            refine E_il rfl N2 ?_
            refine E_al rfl N7 ?_
            refine E_ogr rfl hh T1 T2 ?_
            refine E_il rfl N4 ?_
            refine E_il rfl N5 ?_
            refine E_cpyN rfl hh S3 T3 o3.1 o4.1 o3.2.1 (by first | decide | with_reducible assumption | omega) (by first | decide | with_reducible assumption | omega) rfl (fun h5 fr5 g5 => ?_)
            refine E_ci 0 rfl ci0 ?_
            exact E_rti rfl ⟨_, rfl, paE_at rfl hs ht (fun k hk => g5 k hk) (fun s' hs' ne k hk => fr_gl fr5 (no_cell (by first | decide | with_reducible assumption | omega)))⟩
          · rw [hr4]
            refine E_ifF rfl (by decide) ?_
            exact fin7 (fun q => o4 q.2)
        · rw [hr3]
          refine E_ifT rfl (by decide) ?_
          exact fin7 (fun q => o3 q.1)
      · refine E_icF rfl (decide_eq_false b3) ?_
        refine E_c rfl ?_
        exact E_rti rfl ⟨_, rfl, fun s _ k _ => (paE_n (by decide)).symm⟩
    · rw [hr2]
      refine E_ifF rfl (by decide) ?_
      exact no (fun q => cn q.2)
  · rw [hr]
    refine E_ifT rfl (by decide) ?_
    exact no (fun q => an q.1)
theorem pN_b {h0 : pm_H} (ht : t < 4) (hs : s < 4) (ha : a + n ≤ 60) (hb : b + n ≤ 60) (j : Nat) : ∀ {h : pm_H} {c : Nat} (lv : List (Nat × Value)), c + j = n → HH h → (∀ q, q < n → gl h 81 q = gl h0 80 (60 * s + a + q)) → (∀ q, q < 240 → gl h 80 q = if 60 * t + b ≤ q ∧ q < 60 * t + b + c then gl h0 80 (60 * s + a + (q - (60 * t + b))) else gl h0 80 q) → pm_get lv 0 = some (.ref 77) → pm_get lv 3 = some (.int (nJ t)) → pm_get lv 4 = some (.int (nJ b)) → pm_get lv 5 = some (.int (nJ n)) → pm_get lv 6 = some (.int (nJ c)) → Ends (pm_at tX9_paste) (pm_Rt pm_P d) (155, lv, [], h, 0, 0) (EF rlN (fun r => paE r (nJ s) (nJ a) (nJ t) (nJ b) (nJ n) (rlN h0))) := by
  induction j with
  | zero =>
    intro h c lv hj hh g1 g2 L0 L3 L4 L5 L6
    have ea := nJ_toInt (n := a) (by first | decide | with_reducible assumption | omega)
    have eb := nJ_toInt (n := b) (by first | decide | with_reducible assumption | omega)
    have en := nJ_toInt (n := n) (by first | decide | with_reducible assumption | omega)
    refine E_il rfl L6 ?_
    refine E_il rfl L5 ?_
    refine E_icT rfl (decide_eq_true ((nJ_le (by first | decide | with_reducible assumption | omega) (by first | decide | with_reducible assumption | omega)).mpr (by first | decide | with_reducible assumption | omega))) ?_
    refine E_c rfl ?_
    refine E_rti rfl ⟨_, rfl, paE_at rfl hs ht (fun k hk => ?_) (fun s' hs' ne k hk => ?_)⟩
    · show gl h 80 (60 * t + k) = if _ then gl h0 80 (60 * s + _) else gl h0 80 (60 * t + k)
      rw [g2 _ (by first | decide | with_reducible assumption | omega), ea, eb, en]
      by_cases z : b ≤ k ∧ k < b + n
      · rw [if_pos (by first | decide | with_reducible assumption | omega), if_pos (by first | decide | with_reducible assumption | omega)]
        congr 1
        omega
      · rw [if_neg (by first | decide | with_reducible assumption | omega), if_neg (by first | decide | with_reducible assumption | omega)]
    · show gl h 80 (60 * s' + k) = gl h0 80 (60 * s' + k)
      rw [g2 _ (by first | decide | with_reducible assumption | omega), if_neg (by first | decide | with_reducible assumption | omega)]
  | succ j ih =>
    intro h c lv hj hh g1 g2 L0 L3 L4 L5 L6
    refine E_il rfl L6 ?_
    refine E_il rfl L5 ?_
    refine E_icF rfl (decide_eq_false (fun q => absurd ((nJ_le (by first | decide | with_reducible assumption | omega) (by first | decide | with_reducible assumption | omega)).mp q) (by first | decide | with_reducible assumption | omega))) ?_
    refine E_al rfl L0 ?_
    refine E_gr rfl hh (q := 80) rfl ?_
    refine E_ci 60 rfl ci60 ?_
    refine E_il rfl L3 ?_
    refine E_bin rfl (nJ_mul _ _) ?_
    refine E_il rfl L4 ?_
    refine E_bin rfl (nJ_add _ _) ?_
    refine E_il rfl L6 ?_
    refine E_bin rfl (nJ_add _ _) ?_
    refine E_al rfl L0 ?_
    refine E_gr rfl hh (q := 81) rfl ?_
    refine E_il rfl L6 ?_
    refine E_lal rfl hh rfl (by first | decide | with_reducible assumption | omega) (by decide) ?_
    refine E_las rfl hh rfl (by first | decide | with_reducible assumption | omega) (by decide) (fun h1 hh1 f1 v1 => ?_)
    refine E_inc rfl L6 (nJ_inc _) (fun lv1 K6 kp => ?_)
    refine E_goto rfl ?_
    refine ih lv1 (by first | decide | with_reducible assumption | omega) hh1 (fun q hq => ?_) (fun q hq => ?_) (kp 0 _ (nbz rfl) rfl L0) (kp 3 _ (nbz rfl) rfl L3) (kp 4 _ (nbz rfl) rfl L4) (kp 5 _ (nbz rfl) rfl L5) K6
    · rw [fr_gl f1 (no_cell (by first | decide | with_reducible assumption | omega))]; exact g1 q hq
    · by_cases e : q = 60 * t + b + c
      · rw [e, v1, g1 c (by first | decide | with_reducible assumption | omega), if_pos (by first | decide | with_reducible assumption | omega)]
        congr 1
        omega
      · rw [fr_gl f1 (no_one e), g2 q hq]
        by_cases z : 60 * t + b ≤ q ∧ q < 60 * t + b + c
        · rw [if_pos z, if_pos (by first | decide | with_reducible assumption | omega)]
        · rw [if_neg z, if_neg (by first | decide | with_reducible assumption | omega)]
theorem pN_a {h0 : pm_H} (hs : s < 4) (ht : t < 4) (ha : a + n ≤ 60) (hb : b + n ≤ 60) (j : Nat) : ∀ {h : pm_H} {c : Nat} (lv : List (Nat × Value)), c + j = n → HH h → (∀ q, q < c → gl h 81 q = gl h0 80 (60 * s + a + q)) → (∀ q, gl h 80 q = gl h0 80 q) → pm_get lv 0 = some (.ref 77) → pm_get lv 1 = some (.int (nJ s)) → pm_get lv 2 = some (.int (nJ a)) → pm_get lv 3 = some (.int (nJ t)) → pm_get lv 4 = some (.int (nJ b)) → pm_get lv 5 = some (.int (nJ n)) → pm_get lv 6 = some (.int (nJ c)) → Ends (pm_at tX9_paste) (pm_Rt pm_P d) (118, lv, [], h, 0, 0) (EF rlN (fun r => paE r (nJ s) (nJ a) (nJ t) (nJ b) (nJ n) (rlN h0))) := by
  induction j with
  | zero =>
    intro h c lv hj hh g1 g2 L0 L1 L2 L3 L4 L5 L6
    refine E_il rfl L6 ?_
    refine E_il rfl L5 ?_
    refine E_icT rfl (decide_eq_true ((nJ_le (by first | decide | with_reducible assumption | omega) (by first | decide | with_reducible assumption | omega)).mpr (by first | decide | with_reducible assumption | omega))) ?_
    refine E_ci 0 rfl ci0 ?_
    refine E_is rfl (fun lv1 K6 kp => ?_)
    have e : c = n := by omega
    exact pN_b ht hs ha hb n (c := 0) lv1 (by first | decide | with_reducible assumption | omega) hh (by rw [← e]; exact g1) (fun q hq => by rw [if_neg (by first | decide | with_reducible assumption | omega)]; exact g2 q) (kp 0 _ (nbz rfl) rfl L0) (kp 3 _ (nbz rfl) rfl L3) (kp 4 _ (nbz rfl) rfl L4) (kp 5 _ (nbz rfl) rfl L5) K6
  | succ j ih =>
    intro h c lv hj hh g1 g2 L0 L1 L2 L3 L4 L5 L6
    refine E_il rfl L6 ?_
    refine E_il rfl L5 ?_
    refine E_icF rfl (decide_eq_false (fun q => absurd ((nJ_le (by first | decide | with_reducible assumption | omega) (by first | decide | with_reducible assumption | omega)).mp q) (by first | decide | with_reducible assumption | omega))) ?_
    refine E_al rfl L0 ?_
    refine E_gr rfl hh (q := 81) rfl ?_
    refine E_il rfl L6 ?_
    refine E_al rfl L0 ?_
    refine E_gr rfl hh (q := 80) rfl ?_
    refine E_ci 60 rfl ci60 ?_
    refine E_il rfl L1 ?_
    refine E_bin rfl (nJ_mul _ _) ?_
    refine E_il rfl L2 ?_
    refine E_bin rfl (nJ_add _ _) ?_
    refine E_il rfl L6 ?_
    refine E_bin rfl (nJ_add _ _) ?_
    refine E_lal rfl hh rfl (by first | decide | with_reducible assumption | omega) (by decide) ?_
    refine E_las rfl hh rfl (by first | decide | with_reducible assumption | omega) (by decide) (fun h1 hh1 f1 v1 => ?_)
    refine E_inc rfl L6 (nJ_inc _) (fun lv1 K6 kp => ?_)
    refine E_goto rfl ?_
    refine ih lv1 (by first | decide | with_reducible assumption | omega) hh1 (fun q hq => ?_) (fun q => by rw [fr_gl f1 (no_cell (by first | decide | with_reducible assumption | omega))]; exact g2 q) (kp 0 _ (nbz rfl) rfl L0) (kp 1 _ (nbz rfl) rfl L1) (kp 2 _ (nbz rfl) rfl L2) (kp 3 _ (nbz rfl) rfl L3) (kp 4 _ (nbz rfl) rfl L4) (kp 5 _ (nbz rfl) rfl L5) K6
    by_cases e : q = c
    · rw [e, v1, g2]
    · rw [fr_gl f1 (no_one e)]; exact g1 q (by first | decide | with_reducible assumption | omega)
theorem sp_paste9N {h : pm_H} {x i y j n : Int32} (hh : HH h) : Sp (d + 3) 323 h [.ref 77, .int x, .int i, .int y, .int j, .int n] (EF rlN (fun r => paE r x i y j n (rlN h))) := by
  refine Sp_of aiX9_paste rfl rfl rfl ?_
  have L0 : pm_get (lv_args 0 [.ref 77, .int x, .int i, .int y, .int j, .int n]) 0 = some (.ref 77) := rfl
  have L1 : pm_get (lv_args 0 [.ref 77, .int x, .int i, .int y, .int j, .int n]) 1 = some (.int x) := rfl
  have L2 : pm_get (lv_args 0 [.ref 77, .int x, .int i, .int y, .int j, .int n]) 2 = some (.int i) := rfl
  have L3 : pm_get (lv_args 0 [.ref 77, .int x, .int i, .int y, .int j, .int n]) 3 = some (.int y) := rfl
  have L4 : pm_get (lv_args 0 [.ref 77, .int x, .int i, .int y, .int j, .int n]) 4 = some (.int j) := rfl
  have L5 : pm_get (lv_args 0 [.ref 77, .int x, .int i, .int y, .int j, .int n]) 5 = some (.int n) := rfl
  generalize lv_args 0 [.ref 77, .int x, .int i, .int y, .int j, .int n] = lv at L0 L1 L2 L3 L4 L5 ⊢
  have z0 : (0 : Int32).toInt = 0 := rfl
  refine E_al rfl L0 ?_
  refine E_ci 0 rfl ci0 ?_
  refine E_pf rfl hh rfl ?_
  have hg : HH (pt h 77 0 (nJ 0)) := HH_ptn hh rfl (by first | decide | with_reducible assumption | omega) (by first | decide | with_reducible assumption | omega) (by first | decide | with_reducible assumption | omega)
  have no : ¬ ((0 ≤ x.toInt ∧ x.toInt ≤ 3) ∧ 0 ≤ y.toInt ∧ y.toInt ≤ 3) → Ends (pm_at tX9_paste) (pm_Rt pm_P (d + 2)) (19, lv, [], pt h 77 0 (nJ 0), 0, 0) (EF rlN (fun r => paE r x i y j n (rlN h))) := by
    intro hn
    refine E_c rfl ?_
    exact E_rti rfl ⟨_, rfl, fun s _ k _ => rlN_77.trans (paE_n (by decide)).symm⟩
  refine E_il rfl L1 ?_
  refine E_call rfl sp_isSlot (chkS rfl (by show 0 ≤ 8; decide)) (fun h1 r1 => ?_)
  rintro ⟨e1, f1⟩
  rw [e1, f1]
  by_cases b0 : 0 ≤ x.toInt ∧ x.toInt ≤ 3
  · refine E_ifF rfl (by rw [zb_T b0]; rfl) ?_
    refine E_il rfl L3 ?_
    refine E_call rfl sp_isSlot (chkS rfl (by show 0 ≤ 8; decide)) (fun h2 r2 => ?_)
    rintro ⟨e2, f2⟩
    rw [e2, f2]
    by_cases c0 : 0 ≤ y.toInt ∧ y.toInt ≤ 3
    · refine E_ifT rfl (by rw [zb_T c0]; rfl) ?_
      obtain ⟨s, hs, rfl⟩ : ∃ s, s < 4 ∧ x = nJ s := ⟨x.toInt.toNat, by omega, nJ_of b0.1⟩
      obtain ⟨t, ht, rfl⟩ : ∃ s, s < 4 ∧ y = nJ s := ⟨y.toInt.toNat, by omega, nJ_of c0.1⟩
      refine E_al rfl L0 ?_
      refine E_gr rfl hg (q := 78) rfl ?_
      refine E_il rfl L1 ?_
      refine E_ial (v := gi h 78 s) rfl hg rfl (by first | decide | with_reducible assumption | omega) (by decide) (gi_ne (by first | exact gxx rfl | omega)) ?_
      refine E_c rfl ?_
      by_cases b1 : gi h 78 s = -1
      · refine E_icT rfl (decide_eq_true b1) ?_
        refine E_c rfl ?_
        exact E_rti rfl ⟨_, rfl, fun s _ k _ => rlN_77.trans (paE_n (by decide)).symm⟩
      refine E_icF rfl (decide_eq_false b1) ?_
      refine E_al rfl L0 ?_
      refine E_gr rfl hg (q := 78) rfl ?_
      refine E_il rfl L3 ?_
      refine E_ial (v := gi h 78 t) rfl hg rfl (by first | decide | with_reducible assumption | omega) (by decide) (gi_ne (by first | exact gxx rfl | omega)) ?_
      refine E_c rfl ?_
      by_cases b2 : gi h 78 t = -1
      · refine E_icF rfl (decide_eq_false (fun q => q b2)) ?_
        refine E_c rfl ?_
        exact E_rti rfl ⟨_, rfl, fun s _ k _ => rlN_77.trans (paE_n (by decide)).symm⟩
      refine E_icT rfl (decide_eq_true b2) ?_
      refine E_al rfl L0 ?_
      refine E_gr rfl hg (q := 78) rfl ?_
      refine E_il rfl L1 ?_
      refine E_ial (v := gi h 78 s) rfl hg rfl (by first | decide | with_reducible assumption | omega) (by decide) (gi_ne (by first | exact gxx rfl | omega)) ?_
      refine E_al rfl L0 ?_
      refine E_gr rfl hg (q := 78) rfl ?_
      refine E_il rfl L3 ?_
      refine E_ial (v := gi h 78 t) rfl hg rfl (by first | decide | with_reducible assumption | omega) (by decide) (gi_ne (by first | exact gxx rfl | omega)) ?_
      by_cases b3 : gi h 78 s = gi h 78 t
      · refine E_icT rfl (decide_eq_true b3) ?_
        have g1 := (ld_gi hh (a := 79) (k := s) (bd_u rfl (by first | decide | with_reducible assumption | omega))).2
        have g2 := (ld_gi hh (a := 79) (k := t) (bd_u rfl (by first | decide | with_reducible assumption | omega))).2
        dsimp only at g1 g2
        have no7 : Ends (pm_at tX9_paste) (pm_Rt pm_P (d + 2)) (112, lv, [], pt h 77 0 (nJ 0), 0, 0) (EF rlN (fun r => paE r (nJ s) i (nJ t) j n (rlN h))) := by
          refine E_c rfl ?_
          exact E_rti rfl ⟨_, rfl, fun s _ k _ => rlN_77.trans (paE_n (by decide)).symm⟩
        refine E_il rfl L2 ?_
        by_cases k1 : i < 0
        · have q := Int32.lt_iff_toInt_lt.mp k1
          refine E_ifT rfl (decide_eq_true k1) ?_
          exact no7
        have q1 : ¬ i.toInt < (0 : Int32).toInt := fun z => k1 (Int32.lt_iff_toInt_lt.mpr z)
        refine E_ifF rfl (decide_eq_false k1) ?_
        refine E_il rfl L4 ?_
        by_cases k2 : j < 0
        · have q := Int32.lt_iff_toInt_lt.mp k2
          refine E_ifT rfl (decide_eq_true k2) ?_
          exact no7
        have q2 : ¬ j.toInt < (0 : Int32).toInt := fun z => k2 (Int32.lt_iff_toInt_lt.mpr z)
        refine E_ifF rfl (decide_eq_false k2) ?_
        refine E_il rfl L5 ?_
        by_cases k3 : n < 0
        · have q := Int32.lt_iff_toInt_lt.mp k3
          refine E_ifT rfl (decide_eq_true k3) ?_
          exact no7
        have q3 : ¬ n.toInt < (0 : Int32).toInt := fun z => k3 (Int32.lt_iff_toInt_lt.mpr z)
        refine E_ifF rfl (decide_eq_false k3) ?_
        refine E_il rfl L2 ?_
        refine E_i2l rfl ?_
        refine E_il rfl L5 ?_
        refine E_i2l rfl ?_
        refine E_lbin rfl ?_
        refine E_al rfl L0 ?_
        refine E_gr rfl hg (q := 79) rfl ?_
        refine E_il rfl L1 ?_
        refine E_ial (v := gi h 79 s) rfl hg rfl (by first | decide | with_reducible assumption | omega) (by decide) (gi_ne (by first | exact gxx rfl | omega)) ?_
        refine E_i2l rfl ?_
        refine E_lcmp rfl ?_
        by_cases k4 : (gi h 79 s).toInt < i.toInt + n.toInt
        · refine E_ifT rfl (decide_eq_true ((lg_cmp_gt _ _).mpr (by rw [Int64.lt_iff_toInt_lt, i2l_add, i2l_toInt]; omega))) ?_
          exact no7
        refine E_ifF rfl (decide_eq_false (fun q => absurd ((lg_cmp_gt _ _).mp q) (by rw [Int64.lt_iff_toInt_lt, i2l_add, i2l_toInt]; omega))) ?_
        refine E_il rfl L4 ?_
        refine E_i2l rfl ?_
        refine E_il rfl L5 ?_
        refine E_i2l rfl ?_
        refine E_lbin rfl ?_
        refine E_al rfl L0 ?_
        refine E_gr rfl hg (q := 79) rfl ?_
        refine E_il rfl L3 ?_
        refine E_ial (v := gi h 79 t) rfl hg rfl (by first | decide | with_reducible assumption | omega) (by decide) (gi_ne (by first | exact gxx rfl | omega)) ?_
        refine E_i2l rfl ?_
        refine E_lcmp rfl ?_
        by_cases k5 : j.toInt + n.toInt ≤ (gi h 79 t).toInt
        · refine E_ifT rfl (decide_eq_true ((lg_cmp_le _ _).mpr (by rw [Int64.le_iff_toInt_le, i2l_add, i2l_toInt]; omega))) ?_
          obtain ⟨a, ha, rfl⟩ : ∃ k, k ≤ 60 ∧ i = nJ k := ⟨i.toInt.toNat, by omega, nJ_of (by first | decide | with_reducible assumption | omega)⟩
          obtain ⟨b, hb, rfl⟩ : ∃ k, k ≤ 60 ∧ j = nJ k := ⟨j.toInt.toNat, by omega, nJ_of (by first | decide | with_reducible assumption | omega)⟩
          obtain ⟨m, hm, rfl⟩ : ∃ k, k ≤ 60 ∧ n = nJ k := ⟨n.toInt.toNat, by omega, nJ_of (by first | decide | with_reducible assumption | omega)⟩
          have ea := nJ_toInt (n := a) (by first | decide | with_reducible assumption | omega)
          have eb := nJ_toInt (n := b) (by first | decide | with_reducible assumption | omega)
          have em := nJ_toInt (n := m) (by first | decide | with_reducible assumption | omega)
          refine E_ci 0 rfl ci0 ?_
          refine E_is rfl (fun lv1 K6 kp => ?_)
          exact pN_a hs ht (by first | decide | with_reducible assumption | omega) (by first | decide | with_reducible assumption | omega) m (c := 0) lv1 (by first | decide | with_reducible assumption | omega) hg (fun q hq => absurd hq (Nat.not_lt_zero q)) (fun q => gl_ne (by first | decide | with_reducible assumption | omega)) (kp 0 _ (nbz rfl) rfl L0) (kp 1 _ (nbz rfl) rfl L1) (kp 2 _ (nbz rfl) rfl L2) (kp 3 _ (nbz rfl) rfl L3) (kp 4 _ (nbz rfl) rfl L4) (kp 5 _ (nbz rfl) rfl L5) K6
        · refine E_ifF rfl (decide_eq_false (fun q => absurd ((lg_cmp_le _ _).mp q) (by rw [Int64.le_iff_toInt_le, i2l_add, i2l_toInt]; omega))) ?_
          exact no7
      · refine E_icF rfl (decide_eq_false b3) ?_
        refine E_c rfl ?_
        exact E_rti rfl ⟨_, rfl, fun s _ k _ => rlN_77.trans (paE_n (by decide)).symm⟩
    · refine E_ifF rfl (by rw [zb_F c0]; rfl) ?_
      exact no (fun q => c0 q.2)
  · refine E_ifT rfl (by rw [zb_F b0]; rfl) ?_
    exact no (fun q => b0 q.1)
end PAN
/-! the relation with numbers -/
noncomputable def nuB (M : List Rng) : Bool := [55, 57, 59, 61, 80].all (nocell M)
theorem nu_fr {M : List Rng} {h h' : pm_H} (hf : fr_g M h h') (hb : nuB M = true) : ∀ s, s < 4 → ∀ k, clN h' s k = clN h s k ∧ rlN h' s k = rlN h s k := by
  intro s hs k
  refine ⟨fr_gl hf (rg_no ?_ _), fr_gl hf (rg_no (nc_at hb (by decide)) _)⟩
  match s, hs with
  | 0, _ => exact nc_at hb (by decide)
  | 1, _ => exact nc_at hb (by decide)
  | 2, _ => exact nc_at hb (by decide)
  | 3, _ => exact nc_at hb (by decide)
theorem NU_fr {M : List Rng} {h h' : pm_H} (hf : fr_g M h h') (hb : nuB M = true) (N : NU h) : NU h' := fun s hs k hk => by
  rw [(nu_fr hf hb s hs k).1, (nu_fr hf hb s hs k).2]
  exact N s hs k hk
noncomputable def IVN (h : pm_H) : Prop := IVh h ∧ QRE h ∧ NU h
theorem IVN_q {h : pm_H} (I : IVN h) : IVQ h := ⟨I.1, I.2.1⟩
noncomputable def qnB (M : List Rng) : Bool := qrB M && nuB M
theorem tN_int {d y : Nat} {h : pm_H} {as : List Value} {M : List Rng} (hd : Nat.ble d 100 = true) (hM : qnB M = true) (R : QRE h ∧ NU h) (k : Sp d y h as (fun h' r => IVh h' ∧ fr_g M h h' ∧ ∃ x : Int32, r = some (.int x))) : Sp 100 y h as (fun h' r => IVN h' ∧ ∃ x : Int32, r = some (.int x)) := by
  unfold qnB at hM
  rw [Bool.and_eq_true] at hM
  exact Sp_le (Nat.le_of_ble_eq_true hd) (Sp_mono (fun _ _ q => ⟨⟨q.1, QRE_fr q.2.1 hM.1 R.1, NU_fr q.2.1 hM.2 R.2⟩, q.2.2⟩) k)
theorem tN_lng {d y : Nat} {h : pm_H} {as : List Value} {M : List Rng} (hd : Nat.ble d 100 = true) (hM : qnB M = true) (R : QRE h ∧ NU h) (k : Sp d y h as (fun h' r => IVh h' ∧ fr_g M h h' ∧ ∃ x : Int64, r = some (.long x))) : Sp 100 y h as (fun h' r => IVN h' ∧ ∃ x : Int64, r = some (.long x)) := by
  unfold qnB at hM
  rw [Bool.and_eq_true] at hM
  exact Sp_le (Nat.le_of_ble_eq_true hd) (Sp_mono (fun _ _ q => ⟨⟨q.1, QRE_fr q.2.1 hM.1 R.1, NU_fr q.2.1 hM.2 R.2⟩, q.2.2⟩) k)
theorem hf_N {d y : Nat} {h : pm_H} {as : List Value} {M : List Rng} {P : pm_H → Int32 → Prop} {U : pm_H → Option Value → Prop} (hd : d ≤ 100) (hM : nuB M = true) (N : NU h) (a : Sp 100 y h as (fun h' r => IVh h' ∧ ∃ x : Int32, r = some (.int x) ∧ P h' x)) (b : Sp d y h as (fun h' r => U h' r ∧ fr_g M h h')) : Sp 100 y h as (fun h' r => IVh h' ∧ ∃ x : Int32, r = some (.int x) ∧ (P h' x ∧ NU h')) :=
  Sp_mono (fun _ _ q => by
    obtain ⟨⟨q1, x, q2, q3⟩, -, q4⟩ := q
    exact ⟨q1, x, q2, q3, NU_fr q4 hM N⟩) (Sp_an a (Sp_le hd b))
theorem hs_N {d y : Nat} {h : pm_H} {as : List Value} {M : List Rng} {P : Option Value → Prop} {U : pm_H → Option Value → Prop} (hd : d ≤ 100) (hM : nuB M = true) (N : NU h) (a : Sp 100 y h as (fun h' r => IVQ h' ∧ P r)) (b : Sp d y h as (fun h' r => U h' r ∧ fr_g M h h')) : Sp 100 y h as (fun h' r => IVN h' ∧ P r) :=
  Sp_mono (fun _ _ q => by
    obtain ⟨⟨q1, q2⟩, -, q4⟩ := q
    exact ⟨⟨q1.1, q1.2, NU_fr q4 hM N⟩, q2⟩) (Sp_an a (Sp_le hd b))
section PRN
variable {h : pm_H} {x v w a b c d e : Int32} {z : Int64}
theorem n8_feed (I : IVN h) : Sp 100 106 h [.ref 0, .int a, .int b, .int c, .int d, .int e] (fun h' r => IVh h' ∧ ∃ x : Int32, r = some (.int x) ∧ (((half_feed h' x a b c d e ∧ SL h') ∧ RST h') ∧ NU h')) :=
  hf_N (P := fun h' x => ((half_feed h' x a b c d e ∧ SL h') ∧ RST h')) (by first | decide | with_reducible assumption | omega) rfl I.2.2 (g8_feed (IVN_q I)) (tf_all (as := [.ref 0, .int a, .int b, .int c, .int d, .int e]) q1 (by decide +kernel) I.1 ⟨rfl, aI _, aI _, aI _, aI _, aI _, trivial⟩)
theorem n9_feed (I : IVh h) (J : ((half_feed h x a b c d e ∧ SL h) ∧ RST h) ∧ NU h) : Sp 100 247 h [.ref 77, .int a, .int b, .int c, .int d, .int e] (fun h' r => IVN h' ∧ r = some (.int x)) :=
  hs_N (P := fun r => r = some (.int x)) (by first | decide | with_reducible assumption | omega) rfl J.2 (g9_feed I J.1) (tf_all (as := [.ref 77, .int a, .int b, .int c, .int d, .int e]) q7 (by decide +kernel) I ⟨rfl, aI _, aI _, aI _, aI _, aI _, trivial⟩)
theorem n8_end (I : IVN h) : Sp 100 101 h [.ref 0, .int v] (fun h' r => IVh h' ∧ ∃ x : Int32, r = some (.int x) ∧ (((half_end h' x v ∧ SL h') ∧ RST h') ∧ NU h')) :=
  hf_N (P := fun h' x => ((half_end h' x v ∧ SL h') ∧ RST h')) (by first | decide | with_reducible assumption | omega) rfl I.2.2 (g8_end (IVN_q I)) (tf_all (as := [.ref 0, .int v]) q8 (by decide +kernel) I.1 ⟨rfl, aI _, trivial⟩)
theorem n9_end (I : IVh h) (J : ((half_end h x v ∧ SL h) ∧ RST h) ∧ NU h) : Sp 100 241 h [.ref 77, .int v] (fun h' r => IVN h' ∧ r = some (.int x)) :=
  hs_N (P := fun r => r = some (.int x)) (by first | decide | with_reducible assumption | omega) rfl J.2 (g9_end I J.1) (tf_all (as := [.ref 77, .int v]) q10 (by decide +kernel) I ⟨rfl, aI _, trivial⟩)
theorem n8_street (I : IVN h) : Sp 100 185 h [.ref 0] (fun h' r => IVh h' ∧ ∃ x : Int32, r = some (.int x) ∧ (half_stQ h' x ∧ NU h')) :=
  hf_N (P := fun h' x => half_stQ h' x) (by first | decide | with_reducible assumption | omega) rfl I.2.2 (g8_street (IVN_q I)) (tf_all (as := [.ref 0]) q106 (by decide +kernel) I.1 ⟨rfl, trivial⟩)
theorem n9_street (I : IVh h) (J : (half_stQ h x) ∧ NU h) : Sp 100 354 h [.ref 77] (fun h' r => IVN h' ∧ r = some (.int x)) :=
  hs_N (P := fun r => r = some (.int x)) (M := VMS) (U := fun h' _ => HH h') (d := 40) (by first | decide | with_reducible assumption | omega) rfl J.2 (g9_street I J.1) (Sp_mono (fun _ _ q => ⟨q.1, q.2.1⟩) (tv_street (d := 0) I.1 I.2.2))
theorem n8_undo (I : IVN h) : Sp 100 195 h [.ref 0] (fun h' r => IVh h' ∧ ∃ x : Int32, r = some (.int x) ∧ (half_unQ h' x ∧ NU h')) :=
  hf_N (P := fun h' x => half_unQ h' x) (by first | decide | with_reducible assumption | omega) rfl I.2.2 (g8_undo (IVN_q I)) (tf_all (as := [.ref 0]) q878 (by decide +kernel) I.1 ⟨rfl, trivial⟩)
theorem n9_undo (I : IVh h) (J : (half_unQ h x) ∧ NU h) : Sp 100 366 h [.ref 77] (fun h' r => IVN h' ∧ r = some (.int x)) :=
  hs_N (P := fun r => r = some (.int x)) (M := VM) (U := fun h' _ => HH h') (d := 40) (by first | decide | with_reducible assumption | omega) rfl J.2 (g9_undo I J.1) (Sp_mono (fun _ _ q => ⟨q.1, q.2.1⟩) (tv_undo (d := 0) I.1 I.2.2))
theorem n8_anew (I : IVN h) : Sp 100 79 h [.ref 0] (fun h' r => IVh h' ∧ ∃ x : Int32, r = some (.int x) ∧ (half_anQ h' x ∧ NU h')) :=
  hf_N (P := fun h' x => half_anQ h' x) (by first | decide | with_reducible assumption | omega) rfl I.2.2 (g8_anew (IVN_q I)) (tf_all (as := [.ref 0]) q881 (by decide +kernel) I.1 ⟨rfl, trivial⟩)
theorem n9_anew (I : IVh h) (J : (half_anQ h x) ∧ NU h) : Sp 100 207 h [.ref 77] (fun h' r => IVN h' ∧ r = some (.int x)) :=
  hs_N (P := fun r => r = some (.int x)) (M := VM) (U := fun h' _ => HH h') (d := 40) (by first | decide | with_reducible assumption | omega) rfl J.2 (g9_anew I J.1) (Sp_mono (fun _ _ q => ⟨q.1, q.2.1⟩) (tv_anew (d := 0) I.1 I.2.2))
theorem n8_rate (I : IVN h) : Sp 100 164 h [.ref 0, .int v, .int w] (fun h' r => IVh h' ∧ ∃ x : Int32, r = some (.int x) ∧ (half_rtQ h' x v w ∧ NU h')) :=
  hf_N (P := fun h' x => half_rtQ h' x v w) (by first | decide | with_reducible assumption | omega) rfl I.2.2 (g8_rate (IVN_q I)) (tf_all (as := [.ref 0, .int v, .int w]) q895 (by decide +kernel) I.1 ⟨rfl, aI _, aI _, trivial⟩)
theorem n9_rate (I : IVh h) (J : (half_rtQ h x v w) ∧ NU h) : Sp 100 329 h [.ref 77, .int v, .int w] (fun h' r => IVN h' ∧ r = some (.int x)) :=
  hs_N (P := fun r => r = some (.int x)) (M := VM) (U := fun h' _ => HH h') (d := 40) (by first | decide | with_reducible assumption | omega) rfl J.2 (g9_rate I J.1) (Sp_mono (fun _ _ q => ⟨q.1, q.2.1⟩) (tv_rate (d := 0) I.1 I.2.2))
theorem n8_wants (I : IVN h) : Sp 100 198 h [.ref 0, .int v, .int w] (fun h' r => IVh h' ∧ ∃ x : Int32, r = some (.int x) ∧ (half_w h' (wq h' v w) v w 0 ∧ NU h')) :=
  hf_N (P := fun h' x => half_w h' (wq h' v w) v w 0) (by first | decide | with_reducible assumption | omega) rfl I.2.2 (g8_wants (IVN_q I)) (tf_all (as := [.ref 0, .int v, .int w]) q868 (by decide +kernel) I.1 ⟨rfl, aI _, aI _, trivial⟩)
theorem n9_wants (I : IVh h) (J : (half_w h (wq h v w) v w 0) ∧ NU h) : Sp 100 370 h [.ref 77, .int v, .int w] (fun h' r => IVN h' ∧ ∃ x : Int32, r = some (.int x)) :=
  hs_N (P := fun r => ∃ x : Int32, r = some (.int x)) (M := VM) (U := fun h' _ => HH h') (d := 40) (by first | decide | with_reducible assumption | omega) rfl J.2 (g9_wants I J.1) (Sp_mono (fun _ _ q => ⟨q.1, q.2.1⟩) (tv_wants (d := 0) I.1 I.2.2))
theorem n8_trades (I : IVN h) : Sp 100 191 h [.ref 0, .int v, .int w] (fun h' r => IVh h' ∧ ∃ x : Int32, r = some (.int x) ∧ (half_w h' (tq h' v w) v w 1 ∧ NU h')) :=
  hf_N (P := fun h' x => half_w h' (tq h' v w) v w 1) (by first | decide | with_reducible assumption | omega) rfl I.2.2 (g8_trades (IVN_q I)) (tf_all (as := [.ref 0, .int v, .int w]) q873 (by decide +kernel) I.1 ⟨rfl, aI _, aI _, trivial⟩)
theorem n9_trades (I : IVh h) (J : (half_w h (tq h v w) v w 1) ∧ NU h) : Sp 100 362 h [.ref 77, .int v, .int w] (fun h' r => IVN h' ∧ ∃ x : Int32, r = some (.int x)) :=
  hs_N (P := fun r => ∃ x : Int32, r = some (.int x)) (M := VM) (U := fun h' _ => HH h') (d := 40) (by first | decide | with_reducible assumption | omega) rfl J.2 (g9_trades I J.1) (Sp_mono (fun _ _ q => ⟨q.1, q.2.1⟩) (tv_trades (d := 0) I.1 I.2.2))
theorem n8_count (I : IVN h) : Sp 100 93 h [.ref 0, .int v] (fun h' r => IVh h' ∧ ∃ x : Int32, r = some (.int x) ∧ (half_cnQ h' x v ∧ NU h')) :=
  hf_N (P := fun h' x => half_cnQ h' x v) (by first | decide | with_reducible assumption | omega) rfl I.2.2 (g8_count (IVN_q I)) (tf_all (as := [.ref 0, .int v]) q899 (by decide +kernel) I.1 ⟨rfl, aI _, trivial⟩)
theorem n9_count (I : IVh h) (J : (half_cnQ h x v) ∧ NU h) : Sp 100 233 h [.ref 77, .int v] (fun h' r => IVN h' ∧ r = some (.int x)) :=
  hs_N (P := fun r => r = some (.int x)) (by first | decide | with_reducible assumption | omega) rfl J.2 (g9_count I J.1) (tf_all (as := [.ref 77, .int v]) q901 (by decide +kernel) I ⟨rfl, aI _, trivial⟩)
theorem n8_image (I : IVN h) : Sp 100 121 h [.ref 0, .int v] (fun h' r => IVh h' ∧ ∃ x : Int32, r = some (.int x) ∧ (half_imQ h' x v ∧ NU h')) :=
  hf_N (P := fun h' x => half_imQ h' x v) (by first | decide | with_reducible assumption | omega) rfl I.2.2 (g8_image (IVN_q I)) (tf_all (as := [.ref 0, .int v]) q905 (by decide +kernel) I.1 ⟨rfl, aI _, trivial⟩)
theorem n9_image (I : IVh h) (J : (half_imQ h x v) ∧ NU h) : Sp 100 260 h [.ref 77, .int v] (fun h' r => IVN h' ∧ r = some (.int x)) :=
  hs_N (P := fun r => r = some (.int x)) (M := VMI) (U := fun h' _ => HH h') (d := 40) (by first | decide | with_reducible assumption | omega) rfl J.2 (g9_image I J.1) (Sp_mono (fun _ _ q => ⟨q.1, q.2.1⟩) (tv_image (d := 0) I.1 I.2.2))
theorem n8_back (I : IVN h) : Sp 100 82 h [.ref 0, .int v] (fun h' r => IVh h' ∧ ∃ x : Int32, r = some (.int x) ∧ (half_bkQ h' x v ∧ NU h')) :=
  hf_N (P := fun h' x => half_bkQ h' x v) (by first | decide | with_reducible assumption | omega) rfl I.2.2 (g8_back (IVN_q I)) (tf_all (as := [.ref 0, .int v]) q927 (by decide +kernel) I.1 ⟨rfl, aI _, trivial⟩)
theorem n9_back (I : IVh h) (J : (half_bkQ h x v) ∧ NU h) : Sp 100 212 h [.ref 77, .int v] (fun h' r => IVN h' ∧ r = some (.int x)) :=
  hs_N (P := fun r => r = some (.int x)) (M := VM) (U := fun h' _ => HH h') (d := 40) (by first | decide | with_reducible assumption | omega) rfl J.2 (g9_back I J.1) (Sp_mono (fun _ _ q => ⟨q.1, q.2.1⟩) (tv_back (d := 0) I.1 I.2.2))
/-! row, write, paste: with their numbers -/
theorem n8_row (I : IVN h) : Sp 100 171 h [.ref 0, .int a, .int b, .int c] (fun h' r => IVh h' ∧ ∃ x : Int32, r = some (.int x) ∧ ((half_row h' x a b c ∧ RST h') ∧ ∀ s, s < 4 → ∀ k, k < 60 → clN h' s k = rowE x a c (rlN h') s k)) := by
  refine Sp_mono ?_ (Sp_an (Sp_an (g8_row (a := a) (b := b) (c := c) (IVN_q I)) (Sp_le (by first | exact Nat.add_le_add_left (Nat.le_of_ble_eq_true rfl) _ | exact Nat.le_of_ble_eq_true rfl | omega) (tf_all (as := [.ref 0, .int a, .int b, .int c]) q949 (by decide +kernel) I.1 ⟨rfl, aI _, aI _, aI _, trivial⟩))) (Sp_le (by first | exact Nat.add_le_add_left (Nat.le_of_ble_eq_true rfl) _ | exact Nat.le_of_ble_eq_true rfl | omega) (sp_row8N (d := 0) I.1.1)))
  rintro h' r ⟨⟨⟨q1, x, q2, q3⟩, -, q4⟩, y, q5, q6⟩
  rw [q2] at q5
  cases q5
  refine ⟨q1, x, q2, q3, fun s hs k hk => ?_⟩
  rw [q6 s hs k hk]
  exact rowE_cg (fun s hs k hk => by rw [I.2.2 s hs k hk]; exact (fr_gl q4 (rg_no rfl _)).symm) hs hk
theorem n9_row (I : IVh h) (J : (half_row h x a b c ∧ RST h) ∧ ∀ s, s < 4 → ∀ k, k < 60 → clN h s k = rowE x a c (rlN h) s k) : Sp 100 338 h [.ref 77, .int a, .int b, .int c] (fun h' r => IVN h' ∧ r = some (.int x)) := by
  refine Sp_mono ?_ (Sp_an (Sp_an (g9_row I J.1) (Sp_le (by first | exact Nat.add_le_add_left (Nat.le_of_ble_eq_true rfl) _ | exact Nat.le_of_ble_eq_true rfl | omega) (tf_all (as := [.ref 77, .int a, .int b, .int c]) q950 (by decide +kernel) I ⟨rfl, aI _, aI _, aI _, trivial⟩))) (Sp_le (by first | exact Nat.add_le_add_left (Nat.le_of_ble_eq_true rfl) _ | exact Nat.le_of_ble_eq_true rfl | omega) (sp_row9N (d := 0) I.1)))
  rintro h' r ⟨⟨⟨q1, q2⟩, -, q4⟩, y, q5, q6⟩
  rw [q2] at q5
  cases q5
  refine ⟨⟨q1.1, q1.2, fun s hs k hk => ?_⟩, q2⟩
  rw [q6 s hs k hk]
  show clN h' s k = rowE x a c (rlN h) s k
  rw [← J.2 s hs k hk]
  exact fr_gl q4 (no_long rfl hs)
theorem wrE_cg {r : Int32} {w w' : Nat → Int32} {f g : Nat → Nat → Int64} {s k : Nat} (e : ∀ s, s < 4 → ∀ k, k < 60 → f s k = g s k) (ew : r = 0 → a = nJ s → w s = w' s) (hs : s < 4) (hk : k < 60) : wrE r a b z w f s k = wrE r a b z w' g s k := by
  unfold wrE
  by_cases q : r = 0 ∧ a = nJ s ∧ b = nJ k
  · rw [if_pos q, if_pos q, ew q.1 q.2.1]
  · rw [if_neg q, if_neg q, e s hs k hk]
theorem wrv_f {f m : Nat → Int32} {s : Nat} (hs : s < 4) (e : wrv f m (nJ s) b = 0) : ¬ f s = 0 := fun q => by
  rw [wrv_6 hs q] at e
  exact absurd e (by decide)
theorem n8_write (I : IVN h) : Sp 100 203 h [.ref 0, .int a, .int b, .long z] (fun h' r => IVh h' ∧ ∃ x : Int32, r = some (.int x) ∧ ((half_write h' x a b ∧ RST h') ∧ ∀ s, s < 4 → ∀ k, k < 60 → clN h' s k = wrE x a b z (rfw h') (rlN h') s k)) := by
  refine Sp_mono ?_ (Sp_an (Sp_an (g8_write (a := a) (b := b) (w := z) (IVN_q I)) (Sp_le (by first | exact Nat.add_le_add_left (Nat.le_of_ble_eq_true rfl) _ | exact Nat.le_of_ble_eq_true rfl | omega) (tf_all (as := [.ref 0, .int a, .int b, .long z]) q952 (by decide +kernel) I.1 ⟨rfl, aI _, aI _, aL _, trivial⟩))) (Sp_le (by first | exact Nat.add_le_add_left (Nat.le_of_ble_eq_true rfl) _ | exact Nat.le_of_ble_eq_true rfl | omega) (sp_write8N (d := 0) I.1.1)))
  rintro h' r ⟨⟨⟨q1, x, q2, q3⟩, -, q4⟩, y, q5, q6⟩
  rw [q2] at q5
  cases q5
  refine ⟨q1, x, q2, q3, fun s hs k hk => ?_⟩
  rw [q6 s hs k hk]
  refine wrE_cg (fun s hs k hk => by rw [I.2.2 s hs k hk]; exact (fr_gl q4 (rg_no rfl _)).symm) (fun e0 ea => ?_) hs hk
  have ex := q3.1.2
  rw [e0, ea] at ex
  have nf := wrv_f hs ex.symm
  obtain ⟨r1, r2, -⟩ := rf_fr q4 rfl s
  rw [r1] at nf
  rw [r2]
  exact (SL_cf I.2.1.1.2 s hs).2.1 nf
theorem n9_write (I : IVh h) (J : (half_write h x a b ∧ RST h) ∧ ∀ s, s < 4 → ∀ k, k < 60 → clN h s k = wrE x a b z (rfw h) (rlN h) s k) : Sp 100 380 h [.ref 77, .int a, .int b, .long z] (fun h' r => IVN h' ∧ r = some (.int x)) := by
  refine Sp_mono ?_ (Sp_an (Sp_an (g9_write (w := z) I J.1) (Sp_le (by first | exact Nat.add_le_add_left (Nat.le_of_ble_eq_true rfl) _ | exact Nat.le_of_ble_eq_true rfl | omega) (tf_all (as := [.ref 77, .int a, .int b, .long z]) q955 (by decide +kernel) I ⟨rfl, aI _, aI _, aL _, trivial⟩))) (Sp_le (by first | exact Nat.add_le_add_left (Nat.le_of_ble_eq_true rfl) _ | exact Nat.le_of_ble_eq_true rfl | omega) (sp_write9N (d := 0) I.1)))
  rintro h' r ⟨⟨⟨q1, q2⟩, -, q4⟩, y, q5, q6⟩
  rw [q2] at q5
  cases q5
  refine ⟨⟨q1.1, q1.2, fun s hs k hk => ?_⟩, q2⟩
  rw [q6 s hs k hk]
  show clN h' s k = wrE x a b z (rfw h) (rlN h) s k
  rw [← J.2 s hs k hk]
  exact fr_gl q4 (no_long rfl hs)
theorem paE_cg {r i j n : Int32} {f g : Nat → Nat → Int64} {s k : Nat} (e : ∀ s, s < 4 → ∀ k, k < 60 → f s k = g s k) (ok : r = 0 → (0 ≤ a.toInt ∧ a.toInt ≤ 3) ∧ 0 ≤ i.toInt ∧ 0 ≤ n.toInt ∧ i.toInt + n.toInt ≤ 60) (hs : s < 4) (hk : k < 60) : paE r a i b j n f s k = paE r a i b j n g s k := by
  unfold paE
  by_cases q : r = 0 ∧ b = nJ s ∧ j.toInt ≤ (k : Int) ∧ (k : Int) < j.toInt + n.toInt
  · obtain ⟨o1, o2, o3, o4⟩ := ok q.1
    rw [if_pos q, if_pos q, e _ (by first | decide | with_reducible assumption | omega) _ (by first | decide | with_reducible assumption | omega)]
  · rw [if_neg q, if_neg q, e s hs k hk]
theorem pav_ok {f w m : Nat → Int32} {i j n : Int32} (hm : ∀ s, s < 4 → (m s).toInt ≤ 60) (q : pav f w m a i b j n = 0) : (0 ≤ a.toInt ∧ a.toInt ≤ 3) ∧ 0 ≤ i.toInt ∧ 0 ≤ n.toInt ∧ i.toInt + n.toInt ≤ 60 := by
  unfold pav at q
  by_cases c1 : (0 ≤ a.toInt ∧ a.toInt ≤ 3) ∧ 0 ≤ b.toInt ∧ b.toInt ≤ 3
  · rw [if_pos c1] at q
    by_cases c2 : f a.toInt.toNat = 0 ∨ f b.toInt.toNat = 0
    · rw [if_pos c2] at q; exact absurd q (by decide)
    · rw [if_neg c2] at q
      by_cases c3 : w a.toInt.toNat = w b.toInt.toNat
      · rw [if_pos c3] at q
        by_cases c4 : (0 ≤ i.toInt ∧ 0 ≤ n.toInt ∧ i.toInt + n.toInt ≤ (m a.toInt.toNat).toInt) ∧ 0 ≤ j.toInt ∧ 0 ≤ n.toInt ∧ j.toInt + n.toInt ≤ (m b.toInt.toNat).toInt
        · have := hm a.toInt.toNat (by first | decide | with_reducible assumption | omega)
          exact ⟨c1.1, c4.1.1, c4.1.2.1, by have := c4.1.2.2; omega⟩
        · rw [if_neg c4] at q; exact absurd q (by decide)
      · rw [if_neg c3] at q; exact absurd q (by decide)
  · rw [if_neg c1] at q; exact absurd q (by decide)
theorem n8_paste (I : IVN h) : Sp 100 158 h [.ref 0, .int a, .int b, .int c, .int d, .int e] (fun h' r => IVh h' ∧ ∃ x : Int32, r = some (.int x) ∧ ((half_paste h' x a b c d e ∧ RST h') ∧ ∀ s, s < 4 → ∀ k, k < 60 → clN h' s k = paE x a b c d e (rlN h') s k)) := by
  refine Sp_mono ?_ (Sp_an (Sp_an (g8_paste (a := a) (b := b) (c := c) (d := d) (e := e) (IVN_q I)) (Sp_le (by first | exact Nat.add_le_add_left (Nat.le_of_ble_eq_true rfl) _ | exact Nat.le_of_ble_eq_true rfl | omega) (sp_paste8 (d := 0) (x := a) (i := b) (y := c) (j := d) (n := e) I.1.1))) (Sp_le (by first | exact Nat.add_le_add_left (Nat.le_of_ble_eq_true rfl) _ | exact Nat.le_of_ble_eq_true rfl | omega) (sp_paste8N (d := 0) I.1.1)))
  rintro h' r ⟨⟨⟨q1, x, q2, q3⟩, -, q4, -⟩, y, q5, q6⟩
  rw [q2] at q5
  cases q5
  refine ⟨q1, x, q2, q3, fun s hs k hk => ?_⟩
  rw [q6 s hs k hk]
  refine paE_cg (fun s hs k hk => by rw [I.2.2 s hs k hk]; exact (fr_gl q4 (rg_no rfl _)).symm) (fun e0 => ?_) hs hk
  have ex := q3.1.2
  rw [e0] at ex
  exact pav_ok (fun s hs => (ld_gi q1.1 (a := 79) (k := s) (bd_u rfl (by first | decide | with_reducible assumption | omega))).2.2) ex.symm
theorem n9_paste (I : IVh h) (J : (half_paste h x a b c d e ∧ RST h) ∧ ∀ s, s < 4 → ∀ k, k < 60 → clN h s k = paE x a b c d e (rlN h) s k) : Sp 100 323 h [.ref 77, .int a, .int b, .int c, .int d, .int e] (fun h' r => IVN h' ∧ r = some (.int x)) := by
  refine Sp_mono ?_ (Sp_an (Sp_an (g9_paste I J.1) (Sp_le (by first | exact Nat.add_le_add_left (Nat.le_of_ble_eq_true rfl) _ | exact Nat.le_of_ble_eq_true rfl | omega) (tf_all (as := [.ref 77, .int a, .int b, .int c, .int d, .int e]) q961 (by decide +kernel) I ⟨rfl, aI _, aI _, aI _, aI _, aI _, trivial⟩))) (Sp_le (by first | exact Nat.add_le_add_left (Nat.le_of_ble_eq_true rfl) _ | exact Nat.le_of_ble_eq_true rfl | omega) (sp_paste9N (d := 0) I.1)))
  rintro h' r ⟨⟨⟨q1, q2⟩, -, q4⟩, y, q5, q6⟩
  rw [q2] at q5
  cases q5
  refine ⟨⟨q1.1, q1.2, fun s hs k hk => ?_⟩, q2⟩
  rw [q6 s hs k hk]
  show clN h' s k = paE x a b c d e (rlN h) s k
  rw [← J.2 s hs k hk]
  exact fr_gl q4 (no_long rfl hs)
end PRN
theorem NU_hp0 : NU hp0 := by
  have t : ∀ s : Fin 4, ∀ k : Fin 60, clN hp0 s.val k.val = rlN hp0 s.val k.val := by decide +kernel
  exact fun s hs k hk => t ⟨s, hs⟩ ⟨k, hk⟩
theorem IVN_hp0 : IVN hp0 := ⟨IVQ_hp0.1, IVQ_hp0.2, NU_hp0⟩
end
section
/-! parked by any law, any set (wants u67b, u69, t34, u72's park) -/
noncomputable def ML (h : pm_H) (l s : Nat) : Nat := mss l (P9 h) s (W9 h) (N9 h)
noncomputable def PK9 (h : pm_H) (l s : Nat) (h2 : pm_H) : Prop := HH h2 ∧ gn h2 84 0 = P9 h ∧ gn h2 84 3 = N9 h ∧ gi h2 77 27 = nJ (ML h l s) ∧ (∀ q, q ≤ 9 → gi h2 90 q = pI (hd l (P9 h) s (W9 h) (N9 h) q)) ∧ (∀ i, i < N9 h → gi h2 91 i = pO (spt l (P9 h) s (W9 h) i)) ∧ ∀ i, i < N9 h → gi h2 89 i = nJ (W9 h i)
section BYS
variable {h h2 g : pm_H} {d : Nat}
end BYS
end
section
/-! by of both (written by gen_u76.py; wants u75) -/
section PKB
variable {h h2 : pm_H} {d : Nat}
/-- the class parks by a law, the wishes of a row -/
theorem sp_park8B {A l : Nat} {hi : Int} (hA : hsF A = some (.inl (0, 8, [(0, hi)]))) (A2 : A ≠ 62 ∧ A ≠ 63) (hh : HH h) (l3 : l ≤ 3) (V : ∀ c, c < gn h 15 4 → 1 ≤ gn h A c ∧ gn h A c ≤ gn h 15 0) : Sp (d + 5) 153 h [.ref 0, .ref A, .int (nJ l)] (fun h' r => r = none ∧ HH h' ∧ fr_g FL h h' ∧ LTP l (gn h 15 0) (2 ^ gn h 15 4 - 1) (gn h A) (gn h 15 4) h') := by
  obtain ⟨a1, a2, a3, a4, -⟩ := g15 hh
  refine Sp_of aiX8_park rfl rfl rfl ?_
  have L0 : pm_get (lv_args 0 [.ref 0, .ref A, .int (nJ l)]) 0 = some (.ref 0) := rfl
  have L1 : pm_get (lv_args 0 [.ref 0, .ref A, .int (nJ l)]) 1 = some (.ref A) := rfl
  have L2 : pm_get (lv_args 0 [.ref 0, .ref A, .int (nJ l)]) 2 = some (.int (nJ l)) := rfl
  generalize lv_args 0 [.ref 0, .ref A, .int (nJ l)] = lv at L0 L1 L2 ⊢
  refine E_al rfl L0 ?_
  refine E_ogr (q := 62) rfl hh rfl rfl ?_
  refine E_al rfl L1 ?_
  refine E_al rfl L0 ?_
  refine E_ogr (q := 15) rfl hh rfl rfl ?_
  refine E_ogf (q := (0, 8)) rfl hh rfl rfl a3 ?_
  refine E_al rfl L0 ?_
  refine E_call rfl (Sp_le (by first | exact Nat.add_le_add_left (Nat.le_of_ble_eq_true rfl) _ | exact Nat.le_of_ble_eq_true rfl | omega) (sp_everyCar (d := d) hh)) (chkO (a := 0) hh rfl rfl rfl rfl (by show 3 ≤ 8; decide)) (fun h1 r1 => ?_)
  rintro ⟨e1, f1⟩
  rw [e1, f1]
  refine E_al rfl L0 ?_
  refine E_ogr (q := 15) rfl hh rfl rfl ?_
  refine E_ogf (q := (0, 8)) rfl hh rfl rfl a1 ?_
  refine E_il rfl L2 ?_
  refine E_call rfl (sp_fill (d := d) hA A2 hh l3 (by first | decide | with_reducible assumption | omega) (all_lt a4) a4 V) (chkO (a := 62) hh rfl rfl rfl rfl (by show 0 ≤ 8; decide)) (fun h2 r2 => ?_)
  rintro ⟨e2, hh2, f2, t2⟩
  rw [e2]
  exact E_ret rfl ⟨rfl, hh2, f2, t2⟩
end PKB
section BYQ
variable {h : pm_H} {d : Nat} {x : Int32}
end BYQ
end
section
/-! SEEN: why a slot's row is none, whether it is as it tells: both, as they answer (wants u113, t29, t33c, t37) -/
noncomputable def okB (C P : Nat) (N : Nat → Int64) (k : Nat) : Bool := decide ((0 ≤ (N (2 * k)).toInt ∧ (N (2 * k)).toInt < (C : Int)) ∧ 0 ≤ (N (2 * k + 1)).toInt ∧ (N (2 * k + 1)).toInt ≤ (P : Int))
noncomputable def allB (p : Nat → Bool) : Nat → Bool
  | 0 => true
  | k + 1 => allB p k && p k
theorem allB_at {p : Nat → Bool} : ∀ {n : Nat}, allB p n = true → ∀ k, k < n → p k = true
  | 0, _, k, h => absurd h (Nat.not_lt_zero k)
  | n + 1, q, k, h => by
    have q : (allB p n && p n) = true := q
    rw [Bool.and_eq_true] at q
    by_cases e : k = n
    · rw [e]; exact q.2
    · exact allB_at q.1 k (by first | decide | with_reducible assumption | omega)
theorem allB_of {p : Nat → Bool} : ∀ {n : Nat}, (∀ k, k < n → p k = true) → allB p n = true
  | 0, _ => rfl
  | n + 1, q => by
    show (allB p n && p n) = true
    rw [allB_of (fun k hk => q k (by first | decide | with_reducible assumption | omega)), q n (by first | decide | with_reducible assumption | omega)]; rfl
theorem allB_cg {p q : Nat → Bool} : ∀ {n : Nat}, (∀ k, k < n → p k = q k) → allB p n = allB q n
  | 0, _ => rfl
  | n + 1, e => by
    show (allB p n && p n) = (allB q n && q n)
    rw [allB_cg (fun k hk => e k (by first | decide | with_reducible assumption | omega)), e n (by first | decide | with_reducible assumption | omega)]
theorem allB_no {p : Nat → Bool} {n k : Nat} (h : k < n) (q : p k = false) : ¬ allB p n = true := fun a => by
  rw [allB_at a k h] at q; cases q
noncomputable def sgv (f : Nat → Int32) (m : Nat → Nat) (N : Nat → Nat → Int64) (C P : Nat) (is : Bool) (x : Int32) : Int32 := if 0 ≤ x.toInt ∧ x.toInt ≤ 3 then (if is = true then (if f x.toInt.toNat = 0 then -6 else if m x.toInt.toNat % 2 = 0 then (if allB (okB C P (N x.toInt.toNat)) (m x.toInt.toNat / 2) = true then 0 else -2) else -2) else -2) else -2
noncomputable def mC (h : pm_H) (s : Nat) : Nat := gn h (54 + 2 * s) 3
noncomputable def mR (h : pm_H) (s : Nat) : Nat := gn h 79 s
section SGH
variable {h : pm_H} {d : Nat} {x : Int32}
theorem mC_b (hh : HH h) {s : Nat} (hs : s < 4) : mC h s ≤ 60 := gn_hi hh (isS_at s hs).2.2.2.2.2 (by decide)
theorem mR_b (hh : HH h) {s : Nat} (hs : s < 4) : mR h s ≤ 60 := gn_hi hh (bd_u rfl (by first | decide | with_reducible assumption | omega)) (by decide)
theorem lt_zero (y : Int64) : lg_cmp y 0 < 0 ↔ y.toInt < 0 := by
  rw [lg_cmp_lt, Int64.lt_iff_toInt_lt]
  have z0 : (0 : Int64).toInt = 0 := rfl
  rw [z0]
theorem gt_nJ {c : Nat} (y : Int64) (hc : c < 1000) : 0 < lg_cmp y (nJ c).toInt64 ↔ (c : Int) < y.toInt := by
  rw [lg_cmp_gt, Int64.lt_iff_toInt_lt, i2l_nJ (by first | decide | with_reducible assumption | omega)]
/-! the reference -/
/-! as it tells -/
end SGH
end
section
/-! the slots' rows of both, one row (wants u114, u76.by's sp_park8B, u75) -/
theorem zb_dcX {p : Prop} [Decidable p] : zb p = zb (decide p = true) := by
  by_cases b : p
  · rw [zb_T b, zb_T (decide_eq_true b)]
  · rw [zb_F b, zb_F (by rw [decide_eq_false b]; decide)]
noncomputable def CEQ (h g : pm_H) : Prop := ∀ s, s < 4 → cf g s = rf h s ∧ mC g s = mR h s ∧ ∀ k, k < 60 → clN g s k = rlN h s k
noncomputable def slcB (M : List Rng) : Bool := [54, 55, 56, 57, 58, 59, 60, 61].all (nocell M)
noncomputable def slrB (M : List Rng) : Bool := [78, 79, 80].all (nocell M)
theorem slc_at {M : List Rng} (hb : slcB M = true) : ∀ s, s < 4 → M.all (fun r => !(Nat.beq r.1 (54 + 2 * s))) = true ∧ M.all (fun r => !(Nat.beq r.1 (55 + 2 * s))) = true
  | 0, _ => ⟨nc_at hb (by decide), nc_at hb (by decide)⟩
  | 1, _ => ⟨nc_at hb (by decide), nc_at hb (by decide)⟩
  | 2, _ => ⟨nc_at hb (by decide), nc_at hb (by decide)⟩
  | 3, _ => ⟨nc_at hb (by decide), nc_at hb (by decide)⟩
  | s + 4, hs => absurd hs (by first | decide | with_reducible assumption | omega)
theorem CEQ_of {M : List Rng} {h g : pm_H} (R : QRE h) (N : NU h) (f : fr_g M h g) (hb : slcB M = true) : CEQ h g := by
  intro s hs
  obtain ⟨c1, c2⟩ := slc_at hb s hs
  obtain ⟨s1, -, s3⟩ := SL_cf R.1.2 s hs
  refine ⟨?_, ?_, fun k hk => ?_⟩
  · rw [← s1]; exact fr_gi f (rg_no c1 _)
  · exact (fr_gn f (rg_no c1 _)).trans (gn_eq s3)
  · rw [← N s hs k hk]; exact fr_gl f (rg_no c2 _)
section BRG
variable {h g : pm_H} {d : Nat} {x : Int32}
/-- why a slot's row is none, of a street as the reference has it -/
noncomputable def why (h : pm_H) (is : Bool) (x : Int32) : Int32 := sgv (rf h) (mR h) (rlN h) (N9 h) (P9 h) is x
end BRG
end
section
/-! a SLOT's row as a CODE: both (wants u115, u111, u122) -/
noncomputable def okC (P : Nat) (N : Nat → Int64) (k : Nat) : Bool := decide (0 ≤ (N k).toInt ∧ (N k).toInt ≤ (P : Int))
noncomputable def cdv (f : Nat → Int32) (m : Nat → Nat) (N : Nat → Nat → Int64) (P : Nat) (is : Bool) (x : Int32) : Int32 := if 0 ≤ x.toInt ∧ x.toInt ≤ 3 then (if is = true then (if f x.toInt.toNat = 0 then -6 else if m x.toInt.toNat + 1 = P then (if allB (okC P (N x.toInt.toNat)) (m x.toInt.toNat) = true then 0 else -2) else -2) else -2) else -2
theorem cdv_in {f : Nat → Int32} {m : Nat → Nat} {N : Nat → Nat → Int64} {P s : Nat} {is : Bool} (hs : s < 4) : cdv f m N P is (nJ s) = if is = true then (if f s = 0 then -6 else if m s + 1 = P then (if allB (okC P (N s)) (m s) = true then 0 else -2) else -2) else -2 := by
  unfold cdv
  rw [if_pos (nJ_sl hs), nJ_nat hs]
theorem cdv_no {f : Nat → Int32} {m : Nat → Nat} {N : Nat → Nat → Int64} {P : Nat} {is : Bool} {x : Int32} (q : ¬ (0 ≤ x.toInt ∧ x.toInt ≤ 3)) : cdv f m N P is x = -2 := if_neg q
/-- a slot's row as it may be read for a CODE -/
noncomputable def GODC (f : Nat → Int32) (m : Nat → Nat) (N : Nat → Nat → Int64) (P s : Nat) : Prop := ¬ f s = 0 ∧ m s + 1 = P ∧ allB (okC P (N s)) (m s) = true
theorem cdv_0 {f : Nat → Int32} {m : Nat → Nat} {N : Nat → Nat → Int64} {P : Nat} {is : Bool} {x : Int32} (e : cdv f m N P is x = 0) : is = true ∧ ∃ s, s < 4 ∧ x = nJ s ∧ GODC f m N P s := by
  by_cases q : 0 ≤ x.toInt ∧ x.toInt ≤ 3
  · obtain ⟨s, hs, rfl⟩ : ∃ s, s < 4 ∧ x = nJ s := ⟨x.toInt.toNat, by omega, nJ_of q.1⟩
    rw [cdv_in hs] at e
    by_cases q1 : is = true
    · rw [if_pos q1] at e
      by_cases q2 : f s = 0
      · rw [if_pos q2] at e; exact absurd e (by decide)
      · rw [if_neg q2] at e
        by_cases q3 : m s + 1 = P
        · rw [if_pos q3] at e
          by_cases q4 : allB (okC P (N s)) (m s) = true
          · exact ⟨q1, s, hs, rfl, q2, q3, q4⟩
          · rw [if_neg q4] at e; exact absurd e (by decide)
        · rw [if_neg q3] at e; exact absurd e (by decide)
    · rw [if_neg q1] at e; exact absurd e (by decide)
  · rw [cdv_no q] at e; exact absurd e (by decide)
theorem cdv_cg {f f' : Nat → Int32} {m m' : Nat → Nat} {N N' : Nat → Nat → Int64} {P : Nat} {is : Bool} {x : Int32} (e1 : ∀ s, s < 4 → f s = f' s) (e2 : ∀ s, s < 4 → m s = m' s) (b : ∀ s, s < 4 → m' s ≤ 60) (e3 : ∀ s, s < 4 → ∀ k, k < 60 → N s k = N' s k) : cdv f m N P is x = cdv f' m' N' P is x := by
  by_cases q : 0 ≤ x.toInt ∧ x.toInt ≤ 3
  · obtain ⟨s, hs, rfl⟩ : ∃ s, s < 4 ∧ x = nJ s := ⟨x.toInt.toNat, by omega, nJ_of q.1⟩
    have := b s hs
    rw [cdv_in hs, cdv_in hs, e1 s hs, e2 s hs, allB_cg (p := okC P (N s)) (q := okC P (N' s)) (fun k hk => by unfold okC; rw [e3 s hs _ (by first | decide | with_reducible assumption | omega)])]
  · rw [cdv_no q, cdv_no q]
theorem le_nJ {c : Nat} (y : Int64) (hc : c < 1000) : lg_cmp y (nJ c).toInt64 ≤ 0 ↔ y.toInt ≤ (c : Int) := by
  rw [← Int32.not_lt, gt_nJ y hc]; omega
theorem cdv_nz6 : ¬ (-6 : Int32) = 0 := by decide
theorem cdv_nz2 : ¬ (-2 : Int32) = 0 := by decide
/-- the numbers of a slot as a CODE's -/
noncomputable def cNM (N : Nat → Nat → Int64) (s j : Nat) : Nat := (N s j).toInt.toNat
theorem GODC_c {f : Nat → Int32} {m : Nat → Nat} {N : Nat → Nat → Int64} {P s : Nat} (G : GODC f m N P s) : ∀ j, j < P - 1 → (N s j).toInt = (cNM N s j : Int) ∧ cNM N s j ≤ P := by
  intro j hj
  have q := of_decide_eq_true (allB_at G.2.2 j (by have := G.2.1; omega))
  unfold cNM
  omega
section RCD
variable {h : pm_H} {d : Nat} {x : Int32}
theorem rcC_loop {s : Nat} {Q : pm_H → Option Value → Prop} (hh : HH h) (hs : s < 4) (no : allB (okC (gn h 15 0) (clN h s)) (mC h s) = false → Q h (some (.int (-2)))) (yes : ∀ lv' : List (Nat × Value), allB (okC (gn h 15 0) (clN h s)) (mC h s) = true → pm_get lv' 0 = some (.ref 0) → pm_get lv' 3 = some (.ref (54 + 2 * s)) → Ends (pm_at tX8_readCode) (pm_Rt pm_P d) (102, lv', [], h, 0, 0) Q) (j : Nat) : ∀ {k : Nat} (lv : List (Nat × Value)), k + j = mC h s → (∀ q, q < k → okC (gn h 15 0) (clN h s) q = true) → pm_get lv 0 = some (.ref 0) → pm_get lv 3 = some (.ref (54 + 2 * s)) → pm_get lv 4 = some (.int (nJ k)) → Ends (pm_at tX8_readCode) (pm_Rt pm_P d) (53, lv, [], h, 0, 0) Q := by
  obtain ⟨S1, S2, S3, S4, S5, S6⟩ := isS_at s hs
  have hn := mC_b hh hs
  obtain ⟨a1, a2, -⟩ := g15 hh
  have g3 : gi h (54 + 2 * s) 3 = nJ (mC h s) := gi_gn hh S6 (by decide)
  induction j with
  | zero =>
    intro k lv hj hi L0 L3 L4
    refine E_il rfl L4 ?_
    refine E_al rfl L3 ?_
    refine E_ogf rfl hh S1 S6 g3 ?_
    refine E_icT rfl (decide_eq_true ((nJ_le (by first | decide | with_reducible assumption | omega) (by first | decide | with_reducible assumption | omega)).mpr (by first | decide | with_reducible assumption | omega))) ?_
    exact yes lv (allB_of (fun q hq => hi q (by first | decide | with_reducible assumption | omega))) L0 L3
  | succ j ih =>
    intro k lv hj hi L0 L3 L4
    refine E_il rfl L4 ?_
    refine E_al rfl L3 ?_
    refine E_ogf rfl hh S1 S6 g3 ?_
    refine E_icF rfl (decide_eq_false (fun q => absurd ((nJ_le (by first | decide | with_reducible assumption | omega) (by first | decide | with_reducible assumption | omega)).mp q) (by first | decide | with_reducible assumption | omega))) ?_
    have bad : okC (gn h 15 0) (clN h s) k = false → Ends (pm_at tX8_readCode) (pm_Rt pm_P d) (93, lv, [], h, 0, 0) Q := fun q => by
      refine E_c rfl ?_
      refine E_rti rfl (no ?_)
      cases e : allB (okC (gn h 15 0) (clN h s)) (mC h s)
      · rfl
      · exact absurd e (allB_no (k := k) (by first | decide | with_reducible assumption | omega) q)
    refine E_al rfl L3 ?_
    refine E_ogr rfl hh S1 S2 ?_
    refine E_il rfl L4 ?_
    refine E_lal rfl hh S3 (by first | decide | with_reducible assumption | omega) (by decide) ?_
    refine E_c rfl ?_
    refine E_lcmp rfl ?_
    by_cases q1 : (clN h s k).toInt < 0
    · refine E_ifT rfl (decide_eq_true ((lt_zero _).mpr q1)) ?_
      exact bad (decide_eq_false (fun z => by omega))
    · refine E_ifF rfl (decide_eq_false (fun z => q1 ((lt_zero _).mp z))) ?_
      refine E_al rfl L3 ?_
      refine E_ogr rfl hh S1 S2 ?_
      refine E_il rfl L4 ?_
      refine E_lal rfl hh S3 (by first | decide | with_reducible assumption | omega) (by decide) ?_
      refine E_al rfl L0 ?_
      refine E_ogr rfl hh rfl (q := 15) rfl ?_
      refine E_ogf rfl hh rfl (q := (0, 8)) rfl a1 ?_
      refine E_i2l rfl ?_
      refine E_lcmp rfl ?_
      by_cases q2 : (clN h s k).toInt ≤ (gn h 15 0 : Int)
      · refine E_ifT rfl (decide_eq_true ((le_nJ _ (by first | decide | with_reducible assumption | omega)).mpr q2)) ?_
        refine E_inc rfl L4 (nJ_inc _) (fun lv2 N4 kp2 => ?_)
        refine E_goto rfl ?_
        refine ih lv2 (by first | decide | with_reducible assumption | omega) (fun q hq => ?_) (kp2 0 _ (nbz rfl) rfl L0) (kp2 3 _ (nbz rfl) rfl L3) N4
        by_cases e : q = k
        · rw [e]; exact decide_eq_true ⟨by omega, q2⟩
        · exact hi q (by first | decide | with_reducible assumption | omega)
      · refine E_ifF rfl (decide_eq_false (fun z => q2 ((le_nJ _ (by first | decide | with_reducible assumption | omega)).mp z))) ?_
        exact bad (decide_eq_false (fun z => q2 z.2))
/-- what reading leaves -/
noncomputable def RDQ (f : Nat → Int32) (m : Nat → Nat) (N N' : Nat → Nat → Int64) (P : Nat) (is : Bool) (x : Int32) (h h' : pm_H) (r : Option Value) : Prop := r = some (.int (cdv f m N P is x)) ∧ HH h' ∧ fr_g TCF h h' ∧ (¬ cdv f m N P is x = 0 → h' = h) ∧ ∀ s, s < 4 → x = nJ s → GODC f m N P s → cdv f m N P is x = 0 → TRC (cNM N' s) P h'
theorem sp_readCodeX {is : Bool} {N' : Nat → Nat → Int64} (hh : HH h) (hN : ∀ s, s < 4 → ∀ k, k < 60 → clN h s k = N' s k) (hp : is = true → 1 ≤ gn h 15 0) : Sp (d + 4) 165 h [.ref 0, .int x, .int (zb (is = true))] (RDQ (cf h) (mC h) (clN h) N' (gn h 15 0) is x h) := by
  refine Sp_of aiX8_readCode rfl rfl rfl ?_
  have L0 : pm_get (lv_args 0 [.ref 0, .int x, .int (zb (is = true))]) 0 = some (.ref 0) := rfl
  have L1 : pm_get (lv_args 0 [.ref 0, .int x, .int (zb (is = true))]) 1 = some (.int x) := rfl
  have L2 : pm_get (lv_args 0 [.ref 0, .int x, .int (zb (is = true))]) 2 = some (.int (zb (is = true))) := rfl
  generalize lv_args 0 [.ref 0, .int x, .int (zb (is = true))] = lv at L0 L1 L2 ⊢
  obtain ⟨a1, a2, -⟩ := g15 hh
  have nn : ∀ v : Int32, cdv (cf h) (mC h) (clN h) (gn h 15 0) is x = v → ¬ v = 0 → RDQ (cf h) (mC h) (clN h) N' (gn h 15 0) is x h h (some (.int v)) := fun v e q => ⟨by rw [e], hh, fr_rf _ _, fun _ => rfl, fun s _ _ _ z => absurd (e.symm.trans z) q⟩
  refine E_il rfl L1 ?_
  refine E_call rfl (Sp_le (by first | exact Nat.add_le_add_left (Nat.le_of_ble_eq_true rfl) _ | exact Nat.le_of_ble_eq_true rfl | omega) (sp_isSlot8 (d := d))) (chkS rfl (by show 0 ≤ 8; decide)) (fun h1 r1 => ?_)
  rintro ⟨e1, rv⟩
  rw [e1]
  rcases rv with ⟨hx0, hx3, hr⟩ | ⟨nx, hr⟩
  · rw [hr]
    refine E_ifF rfl (by decide) ?_
    obtain ⟨s, hs, rfl⟩ : ∃ s, s < 4 ∧ x = nJ s := ⟨x.toInt.toNat, by omega, nJ_of hx0⟩
    have CV := cdv_in (f := cf h) (m := mC h) (N := clN h) (P := gn h 15 0) (is := is) hs
    refine E_il rfl L2 ?_
    by_cases q0 : is = true
    · refine E_ifT rfl (by rw [zb_T q0]; rfl) ?_
      rw [if_pos q0] at CV
      have p1 := hp q0
      obtain ⟨S1, S2, S3, S4, S5, S6⟩ := isS_at s hs
      have hn := mC_b hh hs
      refine E_al rfl L0 ?_
      refine E_ogr rfl hh rfl (q := 53) rfl ?_
      refine E_il rfl L1 ?_
      refine E_aal rfl hh rfl (slot_at s hs) (by decide) ?_
      refine E_asr rfl (fun lv1 M3 kp => ?_)
      have M0 := kp 0 _ (nbz rfl) rfl L0
      refine E_al rfl M3 ?_
      refine E_ogf rfl hh S1 S4 rfl ?_
      by_cases b1 : gi h (54 + 2 * s) 1 = 0
      · refine E_ifF rfl (decide_eq_false (fun q => q b1)) ?_
        rw [if_pos (show cf h s = 0 from b1)] at CV
        refine E_c rfl ?_
        exact E_rti rfl (nn _ CV cdv_nz6)
      · refine E_ifT rfl (decide_eq_true b1) ?_
        rw [if_neg (show ¬ cf h s = 0 from b1)] at CV
        refine E_al rfl M3 ?_
        refine E_ogf rfl hh S1 S6 (show gi h (54 + 2 * s) 3 = nJ (mC h s) from gi_gn hh S6 (by decide)) ?_
        refine E_al rfl M0 ?_
        refine E_ogr rfl hh rfl (q := 15) rfl ?_
        refine E_ogf rfl hh rfl (q := (0, 8)) rfl a1 ?_
        refine E_ci 1 rfl ci1 ?_
        refine E_bin rfl (nJ_sub p1) ?_
        by_cases b2 : mC h s + 1 = gn h 15 0
        · refine E_icT rfl (decide_eq_true ((nJ_eq (by first | decide | with_reducible assumption | omega) (by first | decide | with_reducible assumption | omega)).mpr (by first | decide | with_reducible assumption | omega))) ?_
          rw [if_pos b2] at CV
          refine E_ci 0 rfl ci0 ?_
          refine E_is rfl (fun lv2 N4 kp2 => ?_)
          refine rcC_loop hh hs (fun q => ?_) (fun lv3 q O0 O3 => ?_) (mC h s) (k := 0) lv2 (by first | decide | with_reducible assumption | omega) (fun m hm => absurd hm (Nat.not_lt_zero m)) (kp2 0 _ (nbz rfl) rfl M0) (kp2 3 _ (nbz rfl) rfl M3) N4
          · rw [if_neg (by rw [q]; decide)] at CV
            exact nn _ CV cdv_nz2
          · rw [if_pos q] at CV
            have G : GODC (cf h) (mC h) (clN h) (gn h 15 0) s := ⟨b1, b2, q⟩
            refine E_al rfl O0 ?_
            refine E_ogr rfl hh rfl (q := 64) rfl ?_
            refine E_al rfl O3 ?_
            refine E_ogr rfl hh S1 S2 ?_
            refine E_al rfl O0 ?_
            refine E_ogr rfl hh rfl (q := 15) rfl ?_
            refine E_ogf rfl hh rfl (q := (0, 8)) rfl a1 ?_
            refine E_call rfl (sp_decode8 (d := d) (cell := 55 + 2 * s) (c := cNM N' s) hh p1 (.inr (by first | decide | with_reducible assumption | omega)) ⟨S3, a2, fun j hj => by
              have q := GODC_c G j hj
              unfold cNM at q ⊢
              rw [← hN s hs j (by first | decide | with_reducible assumption | omega)]
              exact q⟩) (chkO (a := 64) hh rfl rfl rfl rfl (by show 0 ≤ 8; decide)) (fun h7 r7 => ?_)
            rintro ⟨e7, hh7, f7, T7⟩
            rw [e7]
            refine E_ci 0 rfl ci0 ?_
            refine E_rti rfl ⟨by rw [CV]; rfl, hh7, f7, fun z => absurd CV z, fun t ht et _ _ => ?_⟩
            have : t = s := ((nJ_eq (by first | decide | with_reducible assumption | omega) (by first | decide | with_reducible assumption | omega)).mp et).symm
            rw [this]; exact T7
        · refine E_icF rfl (decide_eq_false (fun q => b2 (by have := (nJ_eq (by first | decide | with_reducible assumption | omega) (by first | decide | with_reducible assumption | omega)).mp q; omega))) ?_
          rw [if_neg b2] at CV
          refine E_c rfl ?_
          exact E_rti rfl (nn _ CV cdv_nz2)
    · refine E_ifF rfl (by rw [zb_F q0]; rfl) ?_
      rw [if_neg q0] at CV
      refine E_c rfl ?_
      exact E_rti rfl (nn _ CV cdv_nz2)
  · rw [hr]
    refine E_ifT rfl (by decide) ?_
    refine E_c rfl ?_
    exact E_rti rfl (nn _ (cdv_no nx) cdv_nz2)
/-! the reference -/
theorem wcX_loop {s : Nat} (hh : HH h) (hs : s < 4) (j : Nat) : ∀ {k : Nat} (lv : List (Nat × Value)), k + j = mR h s → (∀ q, q < k → okC (gn h 84 0) (rlN h s) q = true) → pm_get lv 0 = some (.ref 77) → pm_get lv 1 = some (.int (nJ s)) → pm_get lv 3 = some (.int (nJ k)) → Ends (pm_at tX9_whyNotCode) (pm_Rt pm_P (d + 2)) (54, lv, [], h, 0, 0) (fun h' r => h' = h ∧ r = some (.int (if allB (okC (gn h 84 0) (rlN h s)) (mR h s) = true then 0 else -2))) := by
  have b79 : bd 79 s = some (0, 60) := bd_u rfl (by first | decide | with_reducible assumption | omega)
  have hn := mR_b hh hs
  have g79 : gi h 79 s = nJ (mR h s) := gi_gn hh b79 (by decide)
  induction j with
  | zero =>
    intro k lv hj hi L0 L1 L3
    refine E_il rfl L3 ?_
    refine E_al rfl L0 ?_
    refine E_gr rfl hh (q := 79) rfl ?_
    refine E_il rfl L1 ?_
    refine E_ial rfl hh rfl (by first | decide | with_reducible assumption | omega) (by decide) g79 ?_
    refine E_icT rfl (decide_eq_true ((nJ_le (by first | decide | with_reducible assumption | omega) (by first | decide | with_reducible assumption | omega)).mpr (by first | decide | with_reducible assumption | omega))) ?_
    refine E_ci 0 rfl ci0 ?_
    exact E_rti rfl ⟨rfl, by rw [if_pos (allB_of (fun q hq => hi q (by first | decide | with_reducible assumption | omega)))]; rfl⟩
  | succ j ih =>
    intro k lv hj hi L0 L1 L3
    refine E_il rfl L3 ?_
    refine E_al rfl L0 ?_
    refine E_gr rfl hh (q := 79) rfl ?_
    refine E_il rfl L1 ?_
    refine E_ial rfl hh rfl (by first | decide | with_reducible assumption | omega) (by decide) g79 ?_
    refine E_icF rfl (decide_eq_false (fun q => absurd ((nJ_le (by first | decide | with_reducible assumption | omega) (by first | decide | with_reducible assumption | omega)).mp q) (by first | decide | with_reducible assumption | omega))) ?_
    refine E_al rfl L0 ?_
    refine E_gr rfl hh (q := 80) rfl ?_
    refine E_ci 60 rfl ci60 ?_
    refine E_il rfl L1 ?_
    refine E_bin rfl (nJ_mulE _ _) ?_
    refine E_il rfl L3 ?_
    refine E_bin rfl (nJ_add _ _) ?_
    refine E_lal (len := 240) rfl hh rfl (by first | decide | with_reducible assumption | omega) (by decide) ?_
    refine E_c rfl ?_
    refine E_al rfl L0 ?_
    refine E_call rfl (Sp_le (by first | exact Nat.add_le_add_left (Nat.le_of_ble_eq_true rfl) _ | exact Nat.le_of_ble_eq_true rfl | omega) (sp_places (d := d) hh)) (chk77 hh rfl rfl (by show 4 ≤ 8; decide)) (fun h2 r2 => ?_)
    rintro ⟨e2, f2, c2⟩
    rw [e2, f2]
    refine E_i2l rfl ?_
    refine E_call rfl (Sp_le (by first | exact Nat.add_le_add_left (Nat.le_of_ble_eq_true rfl) _ | exact Nat.le_of_ble_eq_true rfl | omega) (sp_in (d := d) rfl (b := 0) rfl (c := (gn h 84 0 : Int)) (i2l_nJ (by first | decide | with_reducible assumption | omega)))) (chkS rfl (by show 0 ≤ 8; decide)) (fun h3 r3 => ?_)
    rintro ⟨e3, f3⟩
    rw [e3, f3]
    by_cases b2 : 0 ≤ (gl h 80 (60 * s + k)).toInt ∧ (gl h 80 (60 * s + k)).toInt ≤ (gn h 84 0 : Int)
    · refine E_ifT rfl (by rw [zb_T b2]; rfl) ?_
      refine E_inc rfl L3 (nJ_inc _) (fun lv2 N3 kp2 => ?_)
      refine E_goto rfl ?_
      refine ih lv2 (by first | decide | with_reducible assumption | omega) (fun m hm => ?_) (kp2 0 _ (nbz rfl) rfl L0) (kp2 1 _ (nbz rfl) rfl L1) N3
      by_cases e : m = k
      · rw [e]; exact decide_eq_true b2
      · exact hi m (by first | decide | with_reducible assumption | omega)
    · refine E_ifF rfl (by rw [zb_F b2]; rfl) ?_
      refine E_c rfl ?_
      exact E_rti rfl ⟨rfl, by rw [if_neg (allB_no (k := k) (by first | decide | with_reducible assumption | omega) (decide_eq_false b2))]⟩
theorem sp_whyNotCX {is : Bool} (hh : HH h) (hp : 0 < (gi h 83 0).toInt → 1 ≤ gn h 84 0) : Sp (d + 3) 373 h [.ref 77, .int x, .int (zb (is = true))] (fun h' r => h' = h ∧ r = some (.int (cdv (rf h) (mR h) (rlN h) (gn h 84 0) (decide (0 < (gi h 83 0).toInt) && is) x))) := by
  refine Sp_of aiX9_whyNotCode rfl rfl rfl ?_
  have L0 : pm_get (lv_args 0 [.ref 77, .int x, .int (zb (is = true))]) 0 = some (.ref 77) := rfl
  have L1 : pm_get (lv_args 0 [.ref 77, .int x, .int (zb (is = true))]) 1 = some (.int x) := rfl
  have L2 : pm_get (lv_args 0 [.ref 77, .int x, .int (zb (is = true))]) 2 = some (.int (zb (is = true))) := rfl
  generalize lv_args 0 [.ref 77, .int x, .int (zb (is = true))] = lv at L0 L1 L2 ⊢
  refine E_il rfl L1 ?_
  refine E_call rfl (sp_isSlot (d := d)) (chkS rfl (by show 0 ≤ 8; decide)) (fun h1 r1 => ?_)
  rintro ⟨e1, f1⟩
  rw [e1, f1]
  by_cases b1 : 0 ≤ x.toInt ∧ x.toInt ≤ 3
  · refine E_ifF rfl (by rw [zb_T b1]; rfl) ?_
    obtain ⟨s, hs, rfl⟩ : ∃ s, s < 4 ∧ x = nJ s := ⟨x.toInt.toNat, by omega, nJ_of b1.1⟩
    rw [cdv_in hs]
    refine E_al rfl L0 ?_
    refine E_call rfl (Sp_le (by first | exact Nat.add_le_add_left (Nat.le_of_ble_eq_true rfl) _ | exact Nat.le_of_ble_eq_true rfl | omega) (sp_isStreet (d := d) hh)) (chk77 hh rfl rfl (by show 0 ≤ 8; decide)) (fun h2 r2 => ?_)
    rintro ⟨e2, f2⟩
    rw [e2, f2]
    by_cases b2 : 0 < (gi h 83 0).toInt
    · refine E_ifF rfl (by rw [zb_T b2]; rfl) ?_
      have p1 := hp b2
      rw [decide_eq_true b2, Bool.true_and]
      refine E_il rfl L2 ?_
      by_cases q0 : is = true
      · refine E_ifT rfl (by rw [zb_T q0]; rfl) ?_
        rw [if_pos q0]
        refine E_al rfl L0 ?_
        refine E_gr rfl hh (q := 78) rfl ?_
        refine E_il rfl L1 ?_
        refine E_ial rfl hh rfl (by first | decide | with_reducible assumption | omega) (by decide) rfl ?_
        refine E_c rfl ?_
        by_cases b3 : gi h 78 s = -1
        · refine E_icF rfl (decide_eq_false (fun q => q b3)) ?_
          rw [if_pos (rf_0 b3)]
          refine E_c rfl ?_
          exact E_rti rfl ⟨rfl, rfl⟩
        · refine E_icT rfl (decide_eq_true b3) ?_
          rw [if_neg (rf_1 b3)]
          have b79 : bd 79 s = some (0, 60) := bd_u rfl (by first | decide | with_reducible assumption | omega)
          have hn := mR_b hh hs
          refine E_al rfl L0 ?_
          refine E_gr rfl hh (q := 79) rfl ?_
          refine E_il rfl L1 ?_
          refine E_ial rfl hh rfl (by first | decide | with_reducible assumption | omega) (by decide) (show gi h 79 s = nJ (mR h s) from gi_gn hh b79 (by decide)) ?_
          refine E_al rfl L0 ?_
          refine E_call rfl (Sp_le (by first | exact Nat.add_le_add_left (Nat.le_of_ble_eq_true rfl) _ | exact Nat.le_of_ble_eq_true rfl | omega) (sp_places (d := d) hh)) (chk77 hh rfl rfl (by show 1 ≤ 8; decide)) (fun h3 r3 => ?_)
          rintro ⟨e3, f3, c3⟩
          rw [e3, f3]
          refine E_ci 1 rfl ci1 ?_
          refine E_bin rfl (nJ_sub p1) ?_
          by_cases b4 : mR h s + 1 = gn h 84 0
          · refine E_icT rfl (decide_eq_true ((nJ_eq (by first | decide | with_reducible assumption | omega) (by first | decide | with_reducible assumption | omega)).mpr (by first | decide | with_reducible assumption | omega))) ?_
            rw [if_pos b4]
            refine E_ci 0 rfl ci0 ?_
            refine E_is rfl (fun lv2 N3 kp2 => ?_)
            exact wcX_loop hh hs (mR h s) (k := 0) lv2 (by first | decide | with_reducible assumption | omega) (fun m hm => absurd hm (Nat.not_lt_zero m)) (kp2 0 _ (nbz rfl) rfl L0) (kp2 1 _ (nbz rfl) rfl L1) N3
          · refine E_icF rfl (decide_eq_false (fun q => b4 (by have := (nJ_eq (by first | decide | with_reducible assumption | omega) (by first | decide | with_reducible assumption | omega)).mp q; omega))) ?_
            rw [if_neg b4]
            refine E_c rfl ?_
            exact E_rti rfl ⟨rfl, rfl⟩
      · refine E_ifF rfl (by rw [zb_F q0]; rfl) ?_
        rw [if_neg q0]
        refine E_c rfl ?_
        exact E_rti rfl ⟨rfl, rfl⟩
    · refine E_ifT rfl (by rw [zb_F b2]; rfl) ?_
      rw [decide_eq_false b2, Bool.false_and, if_neg (by decide)]
      refine E_c rfl ?_
      exact E_rti rfl ⟨rfl, rfl⟩
  · refine E_ifT rfl (by rw [zb_F b1]; rfl) ?_
    rw [cdv_no b1]
    refine E_c rfl ?_
    exact E_rti rfl ⟨rfl, rfl⟩
/-- the reference reads the row -/
noncomputable def LSQF : List Rng := (95, 0, 7) :: DM
theorem lsX_loop {h0 : pm_H} {s n : Nat} (hs : s < 4) (G : GODC (rf h0) (mR h0) (rlN h0) n s) (n1 : 1 ≤ n) (n8 : n ≤ 8) (hn : gn h0 84 0 = n) (j : Nat) : ∀ {h : pm_H} {k : Nat} (lv : List (Nat × Value)), k + j = n - 1 → HH h → fr_g [(95, 0, 7)] h0 h → (∀ q, q < k → gi h 95 q = nJ (cNM (rlN h0) s q)) → pm_get lv 0 = some (.ref 77) → pm_get lv 1 = some (.int (nJ s)) → pm_get lv 2 = some (.int (nJ k)) → Ends (pm_at tX9_laysSlot) (pm_Rt pm_P (d + 3)) (2, lv, [], h, 0, 0) (fun h' r => r = none ∧ HH h' ∧ fr_g LSQF h0 h' ∧ (∀ v, 1 ≤ v → v ≤ n → gi h' 92 v = nJ (cH (cNM (rlN h0) s) n v)) ∧ DT n (cH (cNM (rlN h0) s) n)) := by
  have C := GODC_c G
  have hm : mR h0 s + 1 = n := G.2.1
  have b79 : bd 79 s = some (0, 60) := bd_u rfl (by first | decide | with_reducible assumption | omega)
  induction j with
  | zero =>
    intro h k lv hj hh f g L0 L1 L2
    have g79 : gi h 79 s = nJ (mR h0 s) := by
      have : gn h 79 s = mR h0 s := fr_gn f (rg_no rfl _)
      rw [← this]; exact gi_gn hh b79 (by decide)
    refine E_il rfl L2 ?_
    refine E_al rfl L0 ?_
    refine E_gr rfl hh (q := 79) rfl ?_
    refine E_il rfl L1 ?_
    refine E_ial rfl hh rfl (by first | decide | with_reducible assumption | omega) (by decide) g79 ?_
    refine E_icT rfl (decide_eq_true ((nJ_le (by first | decide | with_reducible assumption | omega) (by first | decide | with_reducible assumption | omega)).mpr (by first | decide | with_reducible assumption | omega))) ?_
    refine E_al rfl L0 ?_
    refine E_al rfl L0 ?_
    refine E_call rfl (Sp_le (by first | exact Nat.add_le_add_left (Nat.le_of_ble_eq_true rfl) _ | exact Nat.le_of_ble_eq_true rfl | omega) (sp_places (d := d) hh)) (chk77 hh rfl rfl (by show 1 ≤ 8; decide)) (fun h3 r3 => ?_)
    rintro ⟨e3, f3, c3⟩
    rw [e3, f3, show gn h 84 0 = n by rw [fr_gn f (rg_no rfl _)]; exact hn]
    refine E_ci 1 rfl ci1 ?_
    refine E_bin rfl (nJ_add _ _) ?_
    refine E_call rfl (sp_reads0X (d := d) (c := cNM (rlN h0) s) hh n1 n8 (fun j hj => (C j hj).2) (fun j hj' => g j (by first | decide | with_reducible assumption | omega))) (chk77 hh rfl rfl (by show 0 ≤ 8; decide)) (fun h5 r5 => ?_)
    rintro ⟨e5, hh5, f5, T5, D5⟩
    rw [e5]
    exact E_ret rfl ⟨rfl, hh5, fr_trans (fr_wk rfl f) (fr_wk rfl f5), T5, D5⟩
  | succ j ih =>
    intro h k lv hj hh f g L0 L1 L2
    have g79 : gi h 79 s = nJ (mR h0 s) := by
      have : gn h 79 s = mR h0 s := fr_gn f (rg_no rfl _)
      rw [← this]; exact gi_gn hh b79 (by decide)
    obtain ⟨c1, c2⟩ := C k (by first | decide | with_reducible assumption | omega)
    have gk : gl h 80 (60 * s + k) = rlN h0 s k := fr_gl f (rg_no rfl _)
    refine E_il rfl L2 ?_
    refine E_al rfl L0 ?_
    refine E_gr rfl hh (q := 79) rfl ?_
    refine E_il rfl L1 ?_
    refine E_ial rfl hh rfl (by first | decide | with_reducible assumption | omega) (by decide) g79 ?_
    refine E_icF rfl (decide_eq_false (fun q => absurd ((nJ_le (by first | decide | with_reducible assumption | omega) (by first | decide | with_reducible assumption | omega)).mp q) (by first | decide | with_reducible assumption | omega))) ?_
    refine E_al rfl L0 ?_
    refine E_gr rfl hh (q := 95) rfl ?_
    refine E_il rfl L2 ?_
    refine E_al rfl L0 ?_
    refine E_gr rfl hh (q := 80) rfl ?_
    refine E_ci 60 rfl ci60 ?_
    refine E_il rfl L1 ?_
    refine E_bin rfl (nJ_mulE _ _) ?_
    refine E_il rfl L2 ?_
    refine E_bin rfl (nJ_add _ _) ?_
    refine E_lal (len := 240) rfl hh rfl (by first | decide | with_reducible assumption | omega) (by decide) ?_
    refine E_l2i rfl (show (gl h 80 (60 * s + k)).toInt32 = nJ (cNM (rlN h0) s k) from by
      rw [gk]
      apply Int32.toInt_inj.mp
      rw [Int64.toInt_toInt32, nJ_toInt (by first | decide | with_reducible assumption | omega), c1, Int.bmod_eq_of_le (by first | decide | with_reducible assumption | omega) (by first | decide | with_reducible assumption | omega)]) ?_
    refine E_ias rfl hh rfl (by first | decide | with_reducible assumption | omega) (by decide) ?_
    have b : bd 95 k = some (0, 8) := bd_u rfl (by first | decide | with_reducible assumption | omega)
    have h3 : HH (pt h 95 k (nJ (cNM (rlN h0) s k))) := HH_ptn hh b (by first | decide | with_reducible assumption | omega) (by first | decide | with_reducible assumption | omega) (by first | decide | with_reducible assumption | omega)
    have F3 : fr_g [(95, 0, 7)] h0 (pt h 95 k (nJ (cNM (rlN h0) s k))) := fr_ptr (l := 0) (u := 7) rfl (by first | decide | with_reducible assumption | omega) (by first | decide | with_reducible assumption | omega) f
    have G3 : ∀ q, q < k + 1 → gi (pt h 95 k (nJ (cNM (rlN h0) s k))) 95 q = nJ (cNM (rlN h0) s q) := fun q hq => by
      by_cases e : q = k
      · rw [e]; exact gi_ptn hh b (by first | decide | with_reducible assumption | omega) (by first | decide | with_reducible assumption | omega) (by first | decide | with_reducible assumption | omega)
      · rw [gi_ne (fun _ => e)]; exact g q (by first | decide | with_reducible assumption | omega)
    generalize pt h 95 k (nJ (cNM (rlN h0) s k)) = gg at h3 F3 G3 ⊢
    refine E_inc rfl L2 (nJ_inc _) (fun lv2 K2 kp2 => ?_)
    refine E_goto rfl ?_
    exact ih lv2 (by first | decide | with_reducible assumption | omega) h3 F3 G3 (kp2 0 _ (nbz rfl) rfl L0) (kp2 1 _ (nbz rfl) rfl L1) K2
theorem sp_laysSlotX {s n : Nat} (hh : HH h) (hs : s < 4) (G : GODC (rf h) (mR h) (rlN h) n s) (n1 : 1 ≤ n) (n8 : n ≤ 8) (hn : gn h 84 0 = n) : Sp (d + 4) 298 h [.ref 77, .int (nJ s)] (fun h' r => r = none ∧ HH h' ∧ fr_g LSQF h h' ∧ (∀ v, 1 ≤ v → v ≤ n → gi h' 92 v = nJ (cH (cNM (rlN h) s) n v)) ∧ DT n (cH (cNM (rlN h) s) n)) := by
  refine Sp_of aiX9_laysSlot rfl rfl rfl ?_
  have L0 : pm_get (lv_args 0 [.ref 77, .int (nJ s)]) 0 = some (.ref 77) := rfl
  have L1 : pm_get (lv_args 0 [.ref 77, .int (nJ s)]) 1 = some (.int (nJ s)) := rfl
  generalize lv_args 0 [.ref 77, .int (nJ s)] = lv at L0 L1 ⊢
  refine E_ci 0 rfl ci0 ?_
  refine E_is rfl (fun lv1 K2 kp => ?_)
  exact lsX_loop hs G n1 n8 hn (n - 1) (k := 0) lv1 (by first | decide | with_reducible assumption | omega) hh (fr_rf _ _) (fun q hq => absurd hq (Nat.not_lt_zero q)) (kp 0 _ (nbz rfl) rfl L0) (kp 1 _ (nbz rfl) rfl L1) K2
end RCD
end
section
/-! above, upset of both (wants u123, u97) -/
section ABV
variable {h g : pm_H} {d : Nat} {x y : Int32}
/-- why a slot's row is no CODE, of a street as the reference has it -/
noncomputable def cdw (h : pm_H) (is : Bool) (x : Int32) : Int32 := cdv (rf h) (mR h) (rlN h) (P9 h) is x
noncomputable def SKF (h g : pm_H) : Prop := rf g = rf h ∧ mR g = mR h ∧ rlN g = rlN h ∧ P9 g = P9 h ∧ gi g 83 0 = gi h 83 0
theorem SKF_fr {M : List Rng} (f : fr_g M h g) (h4 : M.all (fun r => !(Nat.beq r.1 84)) = true) (h3 : M.all (fun r => !(Nat.beq r.1 83)) = true) (hb : slrB M = true) : SKF h g := by
  refine ⟨funext (fun s => ?_), funext (fun s => fr_gn f (rg_no (nc_at hb (by decide)) _)), funext (fun s => funext (fun k => fr_gl f (rg_no (nc_at hb (by decide)) _))), fr_gn f (rg_no h4 _), fr_gi f (rg_no h3 _)⟩
  unfold rf
  rw [fr_gi f (rg_no (nc_at hb (by decide)) _)]
theorem cdw_K {is : Bool} (k : SKF h g) : cdw g is x = cdw h is x := by
  obtain ⟨k1, k2, k3, k4, -⟩ := k
  unfold cdw
  rw [k1, k2, k3, k4]
theorem st_pl (R : QRE h) : 1 ≤ gn h 84 0 ↔ 0 < (gi h 83 0).toInt := by
  obtain ⟨s1, s2, -, -, s5⟩ := R.2.1.1
  have k0 : gn h 15 0 = gn h 84 0 := gn_eq (s2 0 (by first | decide | with_reducible assumption | omega))
  rw [← s1, ← k0]
  omega
/-- the class reads a slot's row -/
theorem sp_readCodeH {is : Bool} (hh : HH h) (R : QRE h) (N : NU h) (hp : is = true → 1 ≤ P9 h) : Sp (d + 4) 165 h [.ref 0, .int x, .int (zb (is = true))] (fun h' r => r = some (.int (cdw h is x)) ∧ HH h' ∧ fr_g TCF h h' ∧ (¬ cdw h is x = 0 → h' = h) ∧ ∀ s, s < 4 → x = nJ s → cdw h is x = 0 → TRC (cNM (rlN h) s) (P9 h) h') := by
  have E := CEQ_of (M := []) R N (fr_rf _ _) rfl
  have k0 : gn h 15 0 = P9 h := gn_eq (R.2.1.1.2.1 0 (by first | decide | with_reducible assumption | omega))
  have e : cdv (cf h) (mC h) (clN h) (P9 h) is x = cdw h is x := cdv_cg (fun s hs => (E s hs).1) (fun s hs => (E s hs).2.1) (fun s hs => mR_b hh hs) (fun s hs k hk => (E s hs).2.2 k hk)
  refine Sp_mono ?_ (sp_readCodeX (d := d) (is := is) (x := x) (N' := rlN h) hh (fun s hs k hk => (E s hs).2.2 k hk) (by rw [k0]; exact hp))
  rintro h' r ⟨q1, q2, q3, q4, q5⟩
  rw [k0, e] at q1 q4
  refine ⟨q1, q2, q3, q4, fun s hs ex z => ?_⟩
  rw [← k0]
  refine q5 s hs ex ?_ (by rw [k0, e]; exact z)
  obtain ⟨-, t, ht, et, G⟩ := cdv_0 (show cdv (cf h) (mC h) (clN h) (gn h 15 0) is x = 0 by rw [k0, e]; exact z)
  have : t = s := (nJ_eq (by first | decide | with_reducible assumption | omega) (by first | decide | with_reducible assumption | omega)).mp (et.symm.trans ex)
  rw [← this]; exact G
theorem cdw_0 {is : Bool} (e : cdw h is x = 0) : is = true ∧ ∃ s, s < 4 ∧ x = nJ s ∧ GODC (rf h) (mR h) (rlN h) (P9 h) s := cdv_0 e
/-! above -/
end ABV
/-! upset -/
section UPS
variable {h g : pm_H} {d : Nat} {x : Int32}
noncomputable def upv (h : pm_H) (x : Int32) : Int32 := if cdw h (decide (0 < P9 h)) x = 0 then nJ (tpS (cH (cNM (rlN h) x.toInt.toNat) (P9 h)) (P9 h) (P9 h)) else cdw h (decide (0 < P9 h)) x
theorem upv_K (k : SKF h g) : upv g x = upv h x := by
  unfold upv
  rw [cdw_K k, k.2.2.1, k.2.2.2.1]
theorem sp_upset8 (hh : HH h) (R : QRE h) (N : NU h) : Sp (d + 5) 196 h [.ref 0, .int x] (fun h' r => SKF h h' ∧ r = some (.int (upv h x))) := by
  refine Sp_of aiX8_upset rfl rfl rfl ?_
  have L0 : pm_get (lv_args 0 [.ref 0, .int x]) 0 = some (.ref 0) := rfl
  have L1 : pm_get (lv_args 0 [.ref 0, .int x]) 1 = some (.int x) := rfl
  generalize lv_args 0 [.ref 0, .int x] = lv at L0 L1 ⊢
  have k0 : gn h 15 0 = P9 h := gn_eq (R.2.1.1.2.1 0 (by first | decide | with_reducible assumption | omega))
  refine E_al rfl L0 ?_
  refine E_il rfl L1 ?_
  refine E_al rfl L0 ?_
  refine E_call rfl (Sp_le (by first | exact Nat.add_le_add_left (Nat.le_of_ble_eq_true rfl) _ | exact Nat.le_of_ble_eq_true rfl | omega) (sp_hasStreet8 (d := d) hh)) (chkO (a := 0) hh rfl rfl rfl rfl (by show 2 ≤ 8; decide)) (fun h1 r1 => ?_)
  rintro ⟨e1, f1⟩
  rw [e1, f1, k0, zb_dcX]
  refine E_call rfl (sp_readCodeH (d := d) (is := decide (0 < P9 h)) (x := x) hh R N (fun q => of_decide_eq_true q)) (chkO (a := 0) hh rfl rfl rfl rfl (by show 0 ≤ 8; decide)) (fun h2 r2 => ?_)
  rintro ⟨e2, hh2, f2, -, T2⟩
  rw [e2]
  have sk : SKF h h2 := SKF_fr f2 rfl rfl rfl
  refine E_is rfl (fun lv1 K3 kp => ?_)
  refine E_il rfl K3 ?_
  by_cases z : cdw h (decide (0 < P9 h)) x = 0
  · refine E_ifT rfl (decide_eq_true z) ?_
    obtain ⟨q, s, hs, rfl, G⟩ := cdw_0 z
    have p1 : 0 < P9 h := of_decide_eq_true q
    have T := T2 s hs rfl z
    obtain ⟨-, p8, -⟩ := g9s hh
    rw [show upv h (nJ s) = nJ (tpS (cH (cNM (rlN h) s) (P9 h)) (P9 h) (P9 h)) by unfold upv; rw [if_pos z, nJ_nat hs]]
    have C := GODC_c G
    obtain ⟨A1, A2, -⟩ := cH_all (c := cNM (rlN h) s) p1 p8 (fun j hj => (C j hj).2)
    refine E_al rfl (kp 0 _ (nbz rfl) rfl L0) ?_
    refine E_ogr (q := 64) rfl hh2 rfl rfl ?_
    refine E_call rfl (Sp_le (by first | exact Nat.add_le_add_left (Nat.le_of_ble_eq_true rfl) _ | exact Nat.le_of_ble_eq_true rfl | omega) (sp_turnedPairs8 (d := d) (pa := cH (cNM (rlN h) s) (P9 h)) hh2 p8 T.2.2 (bfV_end A2 (fun v v1 vn => (A1 v v1 vn).1)).2.2 T.1)) (chkO (a := 64) hh2 rfl rfl rfl rfl (by show 0 ≤ 8; decide)) (fun h3 r3 => ?_)
    rintro ⟨e3, f3⟩
    rw [e3, f3]
    exact E_rti rfl ⟨sk, rfl⟩
  · refine E_ifF rfl (decide_eq_false z) ?_
    refine E_il rfl K3 ?_
    refine E_goto rfl ?_
    exact E_rti rfl ⟨sk, by unfold upv; rw [if_neg z]⟩
theorem sp_upset9 (hh : HH h) (R : QRE h) : Sp (d + 5) 367 h [.ref 77, .int x] (fun h' r => r = some (.int (upv h x))) := by
  refine Sp_of aiX9_upset rfl rfl rfl ?_
  have L0 : pm_get (lv_args 0 [.ref 77, .int x]) 0 = some (.ref 77) := rfl
  have L1 : pm_get (lv_args 0 [.ref 77, .int x]) 1 = some (.int x) := rfl
  generalize lv_args 0 [.ref 77, .int x] = lv at L0 L1 ⊢
  refine E_al rfl L0 ?_
  refine E_ci 0 rfl ci0 ?_
  refine E_pf rfl hh rfl ?_
  have hg : HH (pt h 77 0 (nJ 0)) := HH_ptn hh rfl (by first | decide | with_reducible assumption | omega) (by first | decide | with_reducible assumption | omega) (by first | decide | with_reducible assumption | omega)
  have k : SKF h (pt h 77 0 (nJ 0)) := SKF_fr (M := [(77, 0, 0)]) (fr_ptr (l := 0) (u := 0) rfl (by first | decide | with_reducible assumption | omega) (by first | decide | with_reducible assumption | omega) (fr_rf _ _)) rfl rfl rfl
  generalize pt h 77 0 (nJ 0) = g at hg k ⊢
  have P : gn g 84 0 = P9 h := k.2.2.2.1
  refine E_al rfl L0 ?_
  refine E_il rfl L1 ?_
  refine E_ci 1 rfl ci1 ?_
  have WN : Sp (d + 4) 373 g [.ref 77, .int x, .int (nJ 1)] (fun h' r => h' = g ∧ r = some (.int (cdw h (decide (0 < P9 h)) x))) := by
    refine Sp_le (by first | exact Nat.add_le_add_left (Nat.le_of_ble_eq_true rfl) _ | exact Nat.le_of_ble_eq_true rfl | omega) (Sp_mono ?_ (sp_whyNotCX (d := d) (is := true) (x := x) hg (by rw [k.2.2.2.2, show gn g 84 0 = gn h 84 0 from k.2.2.2.1]; exact (st_pl R).mpr)))
    rintro h' r ⟨e, q⟩
    refine ⟨e, ?_⟩
    have ei : (decide (0 < (gi g 83 0).toInt) && true) = decide (0 < P9 h) := by
      rw [Bool.and_true, k.2.2.2.2]
      by_cases b : 0 < P9 h
      · rw [decide_eq_true b, decide_eq_true ((st_pl R).mp b)]
      · rw [decide_eq_false b, decide_eq_false (fun z => b ((st_pl R).mpr z))]
    rw [q, ei]
    show some (Value.int (cdw g (decide (0 < P9 h)) x)) = _
    rw [cdw_K k]
  refine E_call rfl WN (chk77 hg rfl rfl (by show 0 ≤ 8; decide)) (fun h4 r4 => ?_)
  rintro ⟨e4, f4⟩
  rw [e4, f4]
  refine E_is rfl (fun lv1 K3 kp => ?_)
  refine E_il rfl K3 ?_
  by_cases z : cdw h (decide (0 < P9 h)) x = 0
  · refine E_ifT rfl (decide_eq_true z) ?_
    obtain ⟨q, s, hs, rfl, G⟩ := cdw_0 z
    have p1 : 0 < P9 h := of_decide_eq_true q
    obtain ⟨-, p8, -⟩ := g9s hh
    rw [show upv h (nJ s) = nJ (tpS (cH (cNM (rlN h) s) (P9 h)) (P9 h) (P9 h)) by unfold upv; rw [if_pos z, nJ_nat hs]]
    have SL := sp_laysSlotX (d := d) (n := P9 h) hg hs (by rw [k.1, k.2.1, k.2.2.1]; exact G) (by first | decide | with_reducible assumption | omega) p8 P
    rw [k.2.2.1] at SL
    refine E_al rfl (kp 0 _ (nbz rfl) rfl L0) ?_
    refine E_il rfl (kp 1 _ (nbz rfl) rfl L1) ?_
    refine E_call rfl SL (chk77 hg rfl rfl (by show 0 ≤ 8; decide)) (fun h5 r5 => ?_)
    rintro ⟨e5, hh5, f5, T5, D5⟩
    rw [e5]
    refine E_al rfl (kp 0 _ (nbz rfl) rfl L0) ?_
    refine E_al rfl (kp 0 _ (nbz rfl) rfl L0) ?_
    refine E_call rfl (Sp_le (by first | exact Nat.add_le_add_left (Nat.le_of_ble_eq_true rfl) _ | exact Nat.le_of_ble_eq_true rfl | omega) (sp_places (d := d) hh5)) (chk77 hh5 rfl rfl (by show 1 ≤ 8; decide)) (fun h6 r6 => ?_)
    rintro ⟨e6, f6, c6⟩
    rw [e6, f6, show gn h5 84 0 = P9 h by rw [fr_gn f5 (rg_no rfl _)]; exact P]
    refine E_call rfl (Sp_le (by first | exact Nat.add_le_add_left (Nat.le_of_ble_eq_true rfl) _ | exact Nat.le_of_ble_eq_true rfl | omega) (sp_turnedIn9 (d := d) hh5 p8 T5 D5)) (chk77 hh5 rfl rfl (by show 0 ≤ 8; decide)) (fun h7 r7 => ?_)
    rintro ⟨e7, f7⟩
    rw [e7, f7]
    exact E_rti rfl rfl
  · refine E_ifF rfl (decide_eq_false z) ?_
    refine E_il rfl K3 ?_
    exact E_rti rfl (by unfold upv; rw [if_neg z])
end UPS
noncomputable def half_upset (h : pm_H) (r x : Int32) : Prop := (QRE h ∧ NU h) ∧ r = upv h x
theorem n8_upset {h : pm_H} {x : Int32} (I : IVN h) : Sp 100 196 h [.ref 0, .int x] (fun h' v => IVh h' ∧ ∃ r : Int32, v = some (.int r) ∧ half_upset h' r x) := by
  refine Sp_le (by first | exact Nat.add_le_add_left (Nat.le_of_ble_eq_true rfl) _ | exact Nat.le_of_ble_eq_true rfl | omega) (Sp_mono ?_ (Sp_and (top_all (as := [.ref 0, .int x]) q496 (by decide +kernel) I.1 ⟨rfl, aI _, trivial⟩) (sp_upset8 (d := 0) I.1.1 I.2.1 I.2.2)))
  rintro h' v ⟨⟨s1, s2, -⟩, k, rfl⟩
  exact ⟨s1, _, rfl, ⟨QRE_fr s2 rfl I.2.1, NU_fr s2 rfl I.2.2⟩, by rw [upv_K k]⟩
theorem n9_upset {h : pm_H} {r x : Int32} (I : IVh h) (J : half_upset h r x) : Sp 100 367 h [.ref 77, .int x] (fun h' v => IVN h' ∧ v = some (.int r)) := by
  obtain ⟨J1, rfl⟩ := J
  have tr := (top_TQ (as := [.ref 77, .int x]) (d := 30) rfl I (tp_upset (d := 0) I.1 (I.2.2.1 0 (by first | decide | with_reducible assumption | omega))))
  refine Sp_mono ?_ (Sp_an (Sp_le (by first | exact Nat.add_le_add_left (Nat.le_of_ble_eq_true rfl) _ | exact Nat.le_of_ble_eq_true rfl | omega) tr) (Sp_le (by first | exact Nat.add_le_add_left (Nat.le_of_ble_eq_true rfl) _ | exact Nat.le_of_ble_eq_true rfl | omega) (sp_upset9 (d := 0) I.1 J1.1)))
  rintro h' v ⟨⟨s1, s2, -⟩, rfl⟩
  exact ⟨⟨s1, QRE_fr s2 rfl J1.1, NU_fr s2 rfl J1.2⟩, rfl⟩
end
