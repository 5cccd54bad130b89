section
/-! the slots' numbers in the relation (written by gen_u113.py; wants t33, u62) -/
theorem gl_ne {h : pm_H} {a k : Nat} {v : Int32} {b j : Nat} (hbj : b = a → j ≠ k) : gl (pt h a k v) b j = gl h b j := by
  unfold gl
  rw [ld_pt hbj]
noncomputable def clN (h : pm_H) (s k : Nat) : Int64 := gl h (55 + 2 * s) k
noncomputable def rlN (h : pm_H) (s k : Nat) : Int64 := gl h 80 (60 * s + k)
noncomputable def NU (h : pm_H) : Prop := ∀ s, s < 4 → ∀ k, k < 60 → clN h s k = rlN h s k
noncomputable def rowE (r a c : Int32) (f : Nat → Nat → Int64) (s k : Nat) : Int64 := if r = 0 ∧ a = nJ s ∧ (k : Int) < c.toInt then 0 else f s k
noncomputable def wrE (r a b : Int32) (v : Int64) (w : Nat → Int32) (f : Nat → Nat → Int64) (s k : Nat) : Int64 := if r = 0 ∧ a = nJ s ∧ b = nJ k then cutv v (w s) else f s k
noncomputable def paE (r a i b j n : Int32) (f : Nat → Nat → Int64) (s k : Nat) : Int64 := if r = 0 ∧ b = nJ s ∧ j.toInt ≤ (k : Int) ∧ (k : Int) < j.toInt + n.toInt then f a.toInt.toNat ((k : Int) - j.toInt + i.toInt).toNat else f s k
noncomputable def EF (g : pm_H → Nat → Nat → Int64) (E : Int32 → Nat → Nat → Int64) (h' : pm_H) (r : Option Value) : Prop := ∃ x : Int32, r = some (.int x) ∧ ∀ s, s < 4 → ∀ k, k < 60 → g h' s k = E x s k
theorem no_cell {c j b k : Nat} (h : c ≠ b) {u : Nat} : rg_in [(c, j, u)] b k = false := rg_no (by simp [beq_no h]) k
theorem no_one {c j k : Nat} (h : k ≠ j) : rg_in [(c, j, j)] c k = false := by
  cases hq : rg_in [(c, j, j)] c k with
  | false => rfl
  | true =>
    obtain ⟨r, hr, hc⟩ := List.any_eq_true.mp hq
    have er := List.mem_singleton.mp hr
    subst er
    simp only [Bool.and_eq_true] at hc
    exact absurd (Nat.le_antisymm (Nat.le_of_ble_eq_true hc.2.2) (Nat.le_of_ble_eq_true hc.2.1)) h
theorem no_long {M : List Rng} (hb : [55, 57, 59, 61].all (nocell M) = true) {s k : Nat} (hs : s < 4) : rg_in M (55 + 2 * s) k = false := by
  refine rg_no ?_ k
  match s, hs with
  | 0, _ => exact nc_at hb (by decide)
  | 1, _ => exact nc_at hb (by decide)
  | 2, _ => exact nc_at hb (by decide)
  | 3, _ => exact nc_at hb (by decide)
section EFF
variable {r a b c i j n : Int32} {v : Int64} {w : Nat → Int32} {f g : Nat → Nat → Int64} {s t k : Nat}
theorem rowE_n (q : r ≠ 0) : rowE r a c f s k = f s k := if_neg (fun z => q z.1)
theorem wrE_n (q : r ≠ 0) : wrE r a b v w f s k = f s k := if_neg (fun z => q z.1)
theorem paE_n (q : r ≠ 0) : paE r a i b j n f s k = f s k := if_neg (fun z => q z.1)
theorem rowE_at {m : Nat} (hs : s < 4) (hm : m ≤ 60) (e : ∀ k, k < 60 → g s k = if k < m then 0 else f s k) (o : ∀ s', s' < 4 → s' ≠ s → ∀ k, k < 60 → g s' k = f s' k) : ∀ s', s' < 4 → ∀ k, k < 60 → g s' k = rowE (nJ 0) (nJ s) (nJ m) f s' k := by
  intro s' hs' k hk
  have tm := nJ_toInt (n := m) (by omega)
  unfold rowE
  by_cases q : s' = s
  · subst q
    rw [e k hk]
    by_cases z : k < m
    · rw [if_pos z, if_pos ⟨rfl, rfl, by omega⟩]
    · rw [if_neg z, if_neg (fun y => z (by have := y.2.2; omega))]
  · rw [o s' hs' q k hk, if_neg (fun y => q ((nJ_eq (by omega) (by omega)).mp y.2.1).symm)]
theorem wrE_at {k0 : Nat} (r0 : r = 0) (hs : s < 4) (hk0 : k0 < 60) (e : g s k0 = cutv v (w s)) (o : ∀ s' k, s' < 4 → k < 60 → ¬ (s' = s ∧ k = k0) → g s' k = f s' k) : ∀ s', s' < 4 → ∀ k, k < 60 → g s' k = wrE r (nJ s) (nJ k0) v w f s' k := by
  intro s' hs' k hk
  unfold wrE
  by_cases q : s' = s ∧ k = k0
  · rw [q.1, q.2, e, if_pos ⟨r0, rfl, rfl⟩]
  · rw [o s' k hs' hk q, if_neg (fun y => q ⟨((nJ_eq (by omega) (by omega)).mp y.2.1).symm, ((nJ_eq (by omega) (by omega)).mp y.2.2).symm⟩)]
theorem paE_at (r0 : r = 0) (hs : s < 4) (ht : t < 4) (e : ∀ k, k < 60 → g t k = if j.toInt ≤ (k : Int) ∧ (k : Int) < j.toInt + n.toInt then f s ((k : Int) - j.toInt + i.toInt).toNat else f t k) (o : ∀ s', s' < 4 → s' ≠ t → ∀ k, k < 60 → g s' k = f s' k) : ∀ s', s' < 4 → ∀ k, k < 60 → g s' k = paE r (nJ s) i (nJ t) j n f s' k := by
  intro s' hs' k hk
  unfold paE
  by_cases q : s' = t
  · subst q
    rw [e k hk, nJ_nat hs]
    by_cases z : j.toInt ≤ (k : Int) ∧ (k : Int) < j.toInt + n.toInt
    · rw [if_pos z, if_pos ⟨r0, rfl, z⟩]
    · rw [if_neg z, if_neg (fun y => z y.2.2)]
  · rw [o s' hs' q k hk, if_neg (fun y => q ((nJ_eq (by omega) (by omega)).mp y.2.1).symm)]
theorem rowE_cg (e : ∀ s, s < 4 → ∀ k, k < 60 → f s k = g s k) (hs : s < 4) (hk : k < 60) : rowE r a c f s k = rowE r a c g s k := by unfold rowE; rw [e s hs k hk]
end EFF
/-! row -/
section RWN
theorem bgN_loop {a c w n d : Nat} {h0 : pm_H} (hac : a ≠ c) (S : isS a c) (hn : n ≤ 60) (j : Nat) : ∀ {h : pm_H} {i : Nat} (lv : List (Nat × Value)), i + j = n → HH h → fr_g [(a, 1, 3), (c, 0, 59)] h0 h → (∀ k, k < 60 → gl h c k = if k < i then 0 else gl h0 c k) → pm_get lv 0 = some (.ref a) → pm_get lv 2 = some (.int (nJ n)) → pm_get lv 3 = some (.int (nJ i)) → Ends (pm_at tX4_begin) (pm_Rt pm_P d) (17, lv, [], h, 0, 0) (fun h' r => r = none ∧ HH h' ∧ fr_g [(a, 1, 3), (c, 0, 59)] h0 h' ∧ ∀ k, k < 60 → gl h' c k = if k < n then 0 else gl h0 c k) := by
  obtain ⟨S1, S2, S3, S4, S5, S6⟩ := S
  induction j with
  | zero =>
    intro h i lv hj hh hf g L0 L2 L3
    refine E_il rfl L3 ?_
    refine E_il rfl L2 ?_
    refine E_icT rfl (decide_eq_true ((nJ_le (by omega) (by omega)).mpr (by omega))) ?_
    have e : i = n := by omega
    exact E_ret rfl ⟨rfl, hh, hf, by rw [← e]; exact g⟩
  | succ j ih =>
    intro h i lv hj hh hf g L0 L2 L3
    refine E_il rfl L3 ?_
    refine E_il rfl L2 ?_
    refine E_icF rfl (decide_eq_false (fun q => absurd ((nJ_le (by omega) (by omega)).mp q) (by omega))) ?_
    refine E_al rfl L0 ?_
    refine E_ogr rfl hh S1 S2 ?_
    refine E_il rfl L3 ?_
    refine E_c rfl ?_
    refine E_las rfl hh S3 (by omega) (by decide) (fun h1 hh1 f1 g1 => ?_)
    refine E_inc rfl L3 (nJ_inc _) (fun lv1 K3 kp => ?_)
    refine E_goto rfl ?_
    refine ih lv1 (by omega) hh1 (fr_trans hf (fr_one (l := 0) (u := 59) (by unfold rg_sub; simp) (Nat.zero_le _) (by omega) f1)) (fun k hk => ?_) (kp 0 _ (by decide) rfl L0) (kp 2 _ (by decide) rfl L2) K3
    by_cases e : k = i
    · rw [e, g1, if_pos (by omega)]
    · rw [fr_gl f1 (no_one e), g k hk]
      by_cases z : k < i
      · rw [if_pos z, if_pos (by omega)]
      · rw [if_neg z, if_neg (by omega)]
theorem sp_beginN {h : pm_H} {a c w n d : Nat} (hac : a ≠ c) (S : isS a c) (hh : HH h) (hw : w ≤ 3) (hn : n ≤ 60) : Sp (d + 1) 44 h [.ref a, .int (nJ w), .int (nJ n)] (fun h' r => r = none ∧ HH h' ∧ fr_g [(a, 1, 3), (c, 0, 59)] h h' ∧ ∀ k, k < 60 → gl h' c k = if k < n then 0 else gl h c k) := by
  have S0 := S
  obtain ⟨S1, S2, S3, S4, S5, S6⟩ := S
  refine Sp_of aiX4_begin rfl rfl rfl ?_
  have L0 : pm_get (lv_args 0 [.ref a, .int (nJ w), .int (nJ n)]) 0 = some (.ref a) := rfl
  have L1 : pm_get (lv_args 0 [.ref a, .int (nJ w), .int (nJ n)]) 1 = some (.int (nJ w)) := rfl
  have L2 : pm_get (lv_args 0 [.ref a, .int (nJ w), .int (nJ n)]) 2 = some (.int (nJ n)) := rfl
  generalize lv_args 0 [.ref a, .int (nJ w), .int (nJ n)] = lv at L0 L1 L2 ⊢
  refine E_al rfl L0 ?_
  refine E_c rfl ?_
  refine E_opT rfl rfl hh S1 S4 ?_
  have h1 : HH (pt h a 1 1) := HH_pt hh S4 (by decide) (by decide)
  refine E_al rfl L0 ?_
  refine E_il rfl L1 ?_
  refine E_opf rfl h1 S1 S5 ?_
  have h2 : HH (pt (pt h a 1 1) a 2 (nJ w)) := HH_ptn h1 S5 (by omega) (by omega) (by omega)
  refine E_al rfl L0 ?_
  refine E_il rfl L2 ?_
  refine E_opf rfl h2 S1 S6 ?_
  have h3 : HH (pt (pt (pt h a 1 1) a 2 (nJ w)) a 3 (nJ n)) := HH_ptn h2 S6 (by omega) (by omega) (by omega)
  refine E_ci 0 rfl (by decide) ?_
  refine E_is rfl (fun lv1 K3 kp => ?_)
  refine bgN_loop (w := w) hac S0 hn n (i := 0) lv1 (by omega) h3 ?_ (fun k hk => ?_) (kp 0 _ (by decide) rfl L0) (kp 2 _ (by decide) rfl L2) K3
  · refine fr_ptr (l := 1) (u := 3) (by unfold rg_sub; simp) (by omega) (by omega) (fr_ptr (l := 1) (u := 3) (by unfold rg_sub; simp) (by omega) (by omega) (fr_ptr (l := 1) (u := 3) (by unfold rg_sub; simp) (by omega) (by omega) (fr_rf _ _)))
  · rw [if_neg (Nat.not_lt_zero k), gl_ne (fun q => absurd q.symm hac), gl_ne (fun q => absurd q.symm hac), gl_ne (fun q => absurd q.symm hac)]
theorem sp_row8N {h : pm_H} {d : Nat} {x y v : Int32} (hh : HH h) : Sp (d + 2) 171 h [.ref 0, .int x, .int y, .int v] (EF clN (fun r => rowE r x v (clN h))) := by
  refine Sp_of aiX8_row rfl rfl rfl ?_
  have L0 : pm_get (lv_args 0 [.ref 0, .int x, .int y, .int v]) 0 = some (.ref 0) := rfl
  have L1 : pm_get (lv_args 0 [.ref 0, .int x, .int y, .int v]) 1 = some (.int x) := rfl
  have L2 : pm_get (lv_args 0 [.ref 0, .int x, .int y, .int v]) 2 = some (.int y) := rfl
  have L3 : pm_get (lv_args 0 [.ref 0, .int x, .int y, .int v]) 3 = some (.int v) := rfl
  generalize lv_args 0 [.ref 0, .int x, .int y, .int v] = lv at L0 L1 L2 L3 ⊢
  have z0 : (0 : Int32).toInt = 0 := rfl
  have no : (x.toInt < 0 ∨ 3 < x.toInt ∨ y.toInt < 0 ∨ 3 < y.toInt ∨ 60 < v.toInt) → Ends (pm_at tX8_row) (pm_Rt pm_P (d + 1)) (22, lv, [], h, 0, 0) (EF clN (fun r => rowE r x v (clN h))) := by
    intro q
    refine E_c rfl ?_
    exact E_rti rfl ⟨_, rfl, fun s _ k _ => (rowE_n (by decide)).symm⟩
  refine E_il rfl L1 ?_
  refine E_call rfl (sp_isSlot8 (d := d)) (chkS rfl (by show 0 ≤ 8; decide)) (fun h1 r1 => ?_)
  rintro ⟨e1, rv⟩
  rw [e1]
  rcases rv with ⟨a0, a3, hr⟩ | ⟨an, hr⟩
  · rw [hr]
    refine E_ifF rfl (by decide) ?_
    refine E_il rfl L2 ?_
    by_cases b1 : y < 0
    · have q := Int32.lt_iff_toInt_lt.mp b1
      refine E_ifT rfl (decide_eq_true b1) ?_
      exact no (by omega)
    have q1 : ¬ y.toInt < (0 : Int32).toInt := fun w => b1 (Int32.lt_iff_toInt_lt.mpr w)
    refine E_ifF rfl (decide_eq_false b1) ?_
    refine E_il rfl L2 ?_
    refine E_ci 4 rfl (by decide) ?_
    by_cases b2 : nJ 4 ≤ y
    · have q := Int32.le_iff_toInt_le.mp b2
      rw [nJ_toInt (by omega)] at q
      refine E_icT rfl (decide_eq_true b2) ?_
      exact no (by omega)
    have q2 : ¬ (nJ 4).toInt ≤ y.toInt := fun w => b2 (Int32.le_iff_toInt_le.mpr w)
    rw [nJ_toInt (by omega)] at q2
    refine E_icF rfl (decide_eq_false b2) ?_
    refine E_il rfl L3 ?_
    refine E_ci 60 rfl (by decide) ?_
    by_cases b3 : v ≤ nJ 60
    · have q3 := Int32.le_iff_toInt_le.mp b3
      rw [nJ_toInt (by omega)] at q3
      refine E_icT rfl (decide_eq_true b3) ?_
      refine E_il rfl L3 ?_
      by_cases b4 : 0 ≤ v
      · have q4 := Int32.le_iff_toInt_le.mp b4
        refine E_ifT rfl (decide_eq_true b4) ?_
        have hr : rin x y v := ⟨⟨a0, a3⟩, ⟨by omega, by omega⟩, by omega, by omega⟩
        obtain ⟨s, hs, rfl⟩ : ∃ s, s < 4 ∧ x = nJ s := ⟨x.toInt.toNat, by omega, nJ_of a0⟩
        obtain ⟨w, hw, rfl⟩ : ∃ s, s ≤ 3 ∧ y = nJ s := ⟨y.toInt.toNat, by omega, nJ_of (by omega)⟩
        obtain ⟨n, hn, rfl⟩ : ∃ s, s ≤ 60 ∧ v = nJ s := ⟨v.toInt.toNat, by omega, nJ_of (by omega)⟩
        have S := isS_at s hs
        refine E_al rfl L0 ?_
        refine E_ogr rfl hh rfl (q := 53) rfl ?_
        refine E_il rfl L1 ?_
        refine E_aal rfl hh rfl (slot_at s hs) (by decide) ?_
        refine E_il rfl L2 ?_
        refine E_il rfl L3 ?_
        refine E_call rfl (sp_beginN (d := d) (by omega) S hh hw hn) (chkO (a := 54 + 2 * s) hh S.1 rfl rfl rfl (by show 0 ≤ 8; decide)) (fun h2 r2 => ?_)
        rintro ⟨e2, hh2, f2, gN⟩
        rw [e2]
        refine E_ci 0 rfl (by decide) ?_
        exact E_rti rfl ⟨_, rfl, rowE_at hs hn (fun k hk => gN k hk) (fun s' hs' ne k hk => fr_gl f2 (no2 (by omega) (by omega) k))⟩
      · have q4 : ¬ (0 : Int32).toInt ≤ v.toInt := fun w => b4 (Int32.le_iff_toInt_le.mpr w)
        refine E_ifF rfl (decide_eq_false b4) ?_
        refine E_c rfl ?_
        exact E_rti rfl ⟨_, rfl, fun s _ k _ => (rowE_n (by decide)).symm⟩
    · have q3 : ¬ v.toInt ≤ (nJ 60).toInt := fun w => b3 (Int32.le_iff_toInt_le.mpr w)
      rw [nJ_toInt (by omega)] at q3
      refine E_icF rfl (decide_eq_false b3) ?_
      exact no (by omega)
  · rw [hr]
    refine E_ifT rfl (by decide) ?_
    exact no (by omega)
/-! the reference's row -/
theorem rlN_77 {h : pm_H} {v : Int32} {s k : Nat} : rlN (pt h 77 0 v) s k = rlN h s k := gl_ne (by omega)
theorem rwN_loop {h0 : pm_H} {d s n : Nat} (hs : s < 4) (hn : n ≤ 60) (j : Nat) : ∀ {h : pm_H} {i : Nat} (lv : List (Nat × Value)), i + j = n → HH h → (∀ q, q < 240 → gl h 80 q = if 60 * s ≤ q ∧ q < 60 * s + i then 0 else gl h0 80 q) → pm_get lv 0 = some (.ref 77) → pm_get lv 1 = some (.int (nJ s)) → pm_get lv 3 = some (.int (nJ n)) → pm_get lv 4 = some (.int (nJ i)) → Ends (pm_at tX9_row) (pm_Rt pm_P d) (57, lv, [], h, 0, 0) (EF rlN (fun r => rowE r (nJ s) (nJ n) (rlN h0))) := by
  induction j with
  | zero =>
    intro h i lv hj hh g L0 L1 L3 L4
    refine E_il rfl L4 ?_
    refine E_il rfl L3 ?_
    refine E_icT rfl (decide_eq_true ((nJ_le (by omega) (by omega)).mpr (by omega))) ?_
    refine E_ci 0 rfl (by decide) ?_
    refine E_rti rfl ⟨_, rfl, rowE_at hs hn (fun k hk => ?_) (fun s' hs' ne k hk => ?_)⟩
    · show gl h 80 (60 * s + k) = if k < n then 0 else gl h0 80 (60 * s + k)
      rw [g _ (by omega)]
      by_cases z : k < n
      · rw [if_pos z, if_pos (by omega)]
      · rw [if_neg z, if_neg (by omega)]
    · show gl h 80 (60 * s' + k) = gl h0 80 (60 * s' + k)
      rw [g _ (by omega), if_neg (by omega)]
  | succ j ih =>
    intro h i lv hj hh g L0 L1 L3 L4
    refine E_il rfl L4 ?_
    refine E_il rfl L3 ?_
    refine E_icF rfl (decide_eq_false (fun q => absurd ((nJ_le (by omega) (by omega)).mp q) (by omega))) ?_
    refine E_al rfl L0 ?_
    refine E_gr rfl hh (q := 80) rfl ?_
    refine E_ci 60 rfl (by decide) ?_
    refine E_il rfl L1 ?_
    refine E_bin rfl (nJ_mul _ _) ?_
    refine E_il rfl L4 ?_
    refine E_bin rfl (nJ_add _ _) ?_
    refine E_c rfl ?_
    refine E_las rfl hh rfl (by omega) (by decide) (fun h1 hh1 f1 g1 => ?_)
    refine E_inc rfl L4 (nJ_inc _) (fun lv1 K4 kp => ?_)
    refine E_goto rfl ?_
    refine ih lv1 (by omega) hh1 (fun q hq => ?_) (kp 0 _ (by decide) rfl L0) (kp 1 _ (by decide) rfl L1) (kp 3 _ (by decide) rfl L3) K4
    by_cases e : q = 60 * s + i
    · rw [e, g1, if_pos (by omega)]
    · rw [fr_gl f1 (no_one e), g q hq]
      by_cases z : 60 * s ≤ q ∧ q < 60 * s + i
      · rw [if_pos z, if_pos (by omega)]
      · rw [if_neg z, if_neg (by omega)]
theorem sp_row9N {h : pm_H} {d : Nat} {x y v : Int32} (hh : HH h) : Sp (d + 3) 338 h [.ref 77, .int x, .int y, .int v] (EF rlN (fun r => rowE r x v (rlN h))) := by
  refine Sp_of aiX9_row rfl rfl rfl ?_
  have L0 : pm_get (lv_args 0 [.ref 77, .int x, .int y, .int v]) 0 = some (.ref 77) := rfl
  have L1 : pm_get (lv_args 0 [.ref 77, .int x, .int y, .int v]) 1 = some (.int x) := rfl
  have L2 : pm_get (lv_args 0 [.ref 77, .int x, .int y, .int v]) 2 = some (.int y) := rfl
  have L3 : pm_get (lv_args 0 [.ref 77, .int x, .int y, .int v]) 3 = some (.int v) := rfl
  generalize lv_args 0 [.ref 77, .int x, .int y, .int v] = lv at L0 L1 L2 L3 ⊢
  have z0 : (0 : Int32).toInt = 0 := rfl
  refine E_al rfl L0 ?_
  refine E_ci 0 rfl (by decide) ?_
  refine E_pf rfl hh rfl ?_
  have hg : HH (pt h 77 0 (nJ 0)) := HH_ptn hh rfl (by omega) (by omega) (by omega)
  have no : (x.toInt < 0 ∨ 3 < x.toInt ∨ y.toInt < 0 ∨ 3 < y.toInt ∨ 60 < v.toInt) → Ends (pm_at tX9_row) (pm_Rt pm_P (d + 2)) (30, lv, [], pt h 77 0 (nJ 0), 0, 0) (EF rlN (fun r => rowE r x v (rlN h))) := by
    intro q
    refine E_c rfl ?_
    exact E_rti rfl ⟨_, rfl, fun s _ k _ => rlN_77.trans (rowE_n (by decide)).symm⟩
  refine E_il rfl L1 ?_
  refine E_call rfl sp_isSlot (chkS rfl (by show 0 ≤ 8; decide)) (fun h1 r1 => ?_)
  rintro ⟨e1, f1⟩
  rw [e1, f1]
  by_cases b0 : 0 ≤ x.toInt ∧ x.toInt ≤ 3
  · refine E_ifF rfl (by rw [zb_T b0]; rfl) ?_
    refine E_il rfl L2 ?_
    refine E_i2l rfl ?_
    refine E_c rfl ?_
    refine E_c rfl ?_
    refine E_call rfl (sp_in (a := y.toInt) (b := 0) (c := 3) (i2l_toInt _) rfl rfl) (chkS rfl (by show 0 ≤ 8; decide)) (fun h2 r2 => ?_)
    rintro ⟨e2, f2⟩
    rw [e2, f2]
    by_cases b1 : 0 ≤ y.toInt ∧ y.toInt ≤ 3
    · refine E_ifF rfl (by rw [zb_T b1]; rfl) ?_
      refine E_il rfl L3 ?_
      refine E_ci 60 rfl (by decide) ?_
      by_cases b3 : v ≤ nJ 60
      · have q3 := Int32.le_iff_toInt_le.mp b3
        rw [nJ_toInt (by omega)] at q3
        refine E_icT rfl (decide_eq_true b3) ?_
        refine E_il rfl L3 ?_
        by_cases b4 : 0 ≤ v
        · have q4 := Int32.le_iff_toInt_le.mp b4
          refine E_ifT rfl (decide_eq_true b4) ?_
          have hr : rin x y v := ⟨b0, b1, by omega, by omega⟩
          obtain ⟨s, hs, rfl⟩ : ∃ s, s < 4 ∧ x = nJ s := ⟨x.toInt.toNat, by omega, nJ_of b0.1⟩
          obtain ⟨w, hw, rfl⟩ : ∃ s, s ≤ 3 ∧ y = nJ s := ⟨y.toInt.toNat, by omega, nJ_of b1.1⟩
          obtain ⟨n, hn, rfl⟩ : ∃ s, s ≤ 60 ∧ v = nJ s := ⟨v.toInt.toNat, by omega, nJ_of (by omega)⟩
          refine E_al rfl L0 ?_
          refine E_gr rfl hg (q := 78) rfl ?_
          refine E_il rfl L1 ?_
          refine E_il rfl L2 ?_
          refine E_ias rfl hg rfl (by omega) (by decide) ?_
          have h1 : HH (pt (pt h 77 0 (nJ 0)) 78 s (nJ w)) := HH_ptn hg (bd_u rfl (by omega)) (by omega) (by omega) (by omega)
          refine E_al rfl L0 ?_
          refine E_gr rfl h1 (q := 79) rfl ?_
          refine E_il rfl L1 ?_
          refine E_il rfl L3 ?_
          refine E_ias rfl h1 rfl (by omega) (by decide) ?_
          have h2 : HH (pt (pt (pt h 77 0 (nJ 0)) 78 s (nJ w)) 79 s (nJ n)) := HH_ptn h1 (bd_u rfl (by omega)) (by omega) (by omega) (by omega)
          refine E_ci 0 rfl (by decide) ?_
          refine E_is rfl (fun lv1 K4 kp => ?_)
          refine rwN_loop hs hn n (i := 0) lv1 (by omega) h2 (fun q hq => ?_) (kp 0 _ (by decide) rfl L0) (kp 1 _ (by decide) rfl L1) (kp 3 _ (by decide) rfl L3) K4
          rw [if_neg (by omega), gl_ne (by omega), gl_ne (by omega), gl_ne (by omega)]
        · have q4 : ¬ (0 : Int32).toInt ≤ v.toInt := fun w => b4 (Int32.le_iff_toInt_le.mpr w)
          refine E_ifF rfl (decide_eq_false b4) ?_
          refine E_c rfl ?_
          exact E_rti rfl ⟨_, rfl, fun s _ k _ => rlN_77.trans (rowE_n (by decide)).symm⟩
      · have q3 : ¬ v.toInt ≤ (nJ 60).toInt := fun w => b3 (Int32.le_iff_toInt_le.mpr w)
        rw [nJ_toInt (by omega)] at q3
        refine E_icF rfl (decide_eq_false b3) ?_
        exact no (by omega)
    · refine E_ifT rfl (by rw [zb_F b1]; rfl) ?_
      exact no (by omega)
  · refine E_ifT rfl (by rw [zb_F b0]; rfl) ?_
    exact no (by omega)
/-! the relation of the slots -/
end RWN
/-! write -/
section WRN
variable {h : pm_H} {d : Nat} {x i : Int32} {v : Int64}
theorem sp_write8N (hh : HH h) : Sp (d + 2) 203 h [.ref 0, .int x, .int i, .long v] (EF clN (fun r => wrE r x i v (cwd h) (clN h))) := by
  refine Sp_of aiX8_write rfl rfl rfl ?_
  have L0 : pm_get (lv_args 0 [.ref 0, .int x, .int i, .long v]) 0 = some (.ref 0) := rfl
  have L1 : pm_get (lv_args 0 [.ref 0, .int x, .int i, .long v]) 1 = some (.int x) := rfl
  have L2 : pm_get (lv_args 0 [.ref 0, .int x, .int i, .long v]) 2 = some (.int i) := rfl
  have L3 : pm_get (lv_args 0 [.ref 0, .int x, .int i, .long v]) 3 = some (.long v) := rfl
  generalize lv_args 0 [.ref 0, .int x, .int i, .long v] = lv at L0 L1 L2 L3 ⊢
  have z0 : (0 : Int32).toInt = 0 := rfl
  refine E_il rfl L1 ?_
  refine E_call rfl (sp_isSlot8 (d := d)) (chkS rfl (by show 0 ≤ 8; decide)) (fun h1 r1 => ?_)
  rintro ⟨e1, rv⟩
  rw [e1]
  rcases rv with ⟨a0, a3, hr⟩ | ⟨an, hr⟩
  · rw [hr]
    refine E_ifT rfl (by decide) ?_
    obtain ⟨s, hs, rfl⟩ : ∃ s, s < 4 ∧ x = nJ s := ⟨x.toInt.toNat, by omega, nJ_of a0⟩
    obtain ⟨S1, S2, S3, S4, S5, S6⟩ := isS_at s hs
    refine E_al rfl L0 ?_
    refine E_ogr rfl hh rfl (q := 53) rfl ?_
    refine E_il rfl L1 ?_
    refine E_aal rfl hh rfl (slot_at s hs) (by decide) ?_
    refine E_asw rfl (fun lv1 M5 kp => ?_)
    have M2 := kp 2 _ (by decide) (by decide) L2
    have M3 := kp 3 _ (by decide) (by decide) L3
    refine E_al rfl M5 ?_
    refine E_ogf rfl hh S1 S4 rfl ?_
    by_cases b1 : gi h (54 + 2 * s) 1 = 0
    · refine E_ifF rfl (decide_eq_false (fun q => q b1)) ?_
      refine E_c rfl ?_
      exact E_rti rfl ⟨_, rfl, fun s _ k _ => (wrE_n (by decide)).symm⟩
    refine E_ifT rfl (decide_eq_true b1) ?_
    have g := (ld_gi hh S6).2
    dsimp only at g
    have no : ∀ {lv : List (Nat × Value)}, ¬ (0 ≤ i.toInt ∧ i.toInt < (gi h (54 + 2 * s) 3).toInt) → Ends (pm_at tX8_write) (pm_Rt pm_P (d + 1)) (42, lv, [], h, 0, 0) (EF clN (fun r => wrE r (nJ s) i v (cwd h) (clN h))) := by
      intro lv hn
      refine E_c rfl ?_
      exact E_rti rfl ⟨_, rfl, fun s _ k _ => (wrE_n (by decide)).symm⟩
    refine E_il rfl M2 ?_
    by_cases b2 : i < 0
    · have q := Int32.lt_iff_toInt_lt.mp b2
      refine E_ifT rfl (decide_eq_true b2) ?_
      exact no (by omega)
    have q2 : ¬ i.toInt < (0 : Int32).toInt := fun z => b2 (Int32.lt_iff_toInt_lt.mpr z)
    refine E_ifF rfl (decide_eq_false b2) ?_
    refine E_il rfl M2 ?_
    refine E_al rfl M5 ?_
    refine E_ogf rfl hh S1 S6 rfl ?_
    by_cases b3 : i < gi h (54 + 2 * s) 3
    · have q3 := Int32.lt_iff_toInt_lt.mp b3
      refine E_icT rfl (decide_eq_true b3) ?_
      obtain ⟨k, hk, rfl⟩ : ∃ k, k < 60 ∧ i = nJ k := ⟨i.toInt.toNat, by omega, nJ_of (by omega)⟩
      refine E_al rfl M5 ?_
      refine E_ogr rfl hh S1 S2 ?_
      refine E_il rfl M2 ?_
      refine E_ll rfl M3 ?_
      refine E_al rfl M5 ?_
      refine E_ogf rfl hh S1 S5 rfl ?_
      refine E_call rfl (sp_cut8 (d := d)) (chkS rfl (by show 2 ≤ 8; decide)) (fun h3 r3 => ?_)
      rintro ⟨e3, f3⟩
      rw [e3, f3]
      refine E_las rfl hh S3 hk (by decide) (fun h4 _ f4 g4 => ?_)
      refine E_c rfl ?_
      refine E_rti rfl ⟨_, rfl, wrE_at rfl hs hk g4 (fun s' k' hs' hk' ne => ?_)⟩
      by_cases e : s' = s
      · rw [e]; exact fr_gl f4 (no_one (fun q => ne ⟨e, q⟩))
      · exact fr_gl f4 (no_cell (by omega))
    · have q3 : ¬ i.toInt < (gi h (54 + 2 * s) 3).toInt := fun z => b3 (Int32.lt_iff_toInt_lt.mpr z)
      refine E_icF rfl (decide_eq_false b3) ?_
      exact no (fun z => q3 z.2)
  · rw [hr]
    refine E_ifF rfl (by decide) ?_
    refine E_c rfl ?_
    exact E_rti rfl ⟨_, rfl, fun s _ k _ => (wrE_n (by decide)).symm⟩
theorem sp_write9N (hh : HH h) : Sp (d + 3) 380 h [.ref 77, .int x, .int i, .long v] (EF rlN (fun r => wrE r x i v (rfw h) (rlN h))) := by
  refine Sp_of aiX9_write rfl rfl rfl ?_
  have L0 : pm_get (lv_args 0 [.ref 77, .int x, .int i, .long v]) 0 = some (.ref 77) := rfl
  have L1 : pm_get (lv_args 0 [.ref 77, .int x, .int i, .long v]) 1 = some (.int x) := rfl
  have L2 : pm_get (lv_args 0 [.ref 77, .int x, .int i, .long v]) 2 = some (.int i) := rfl
  have L3 : pm_get (lv_args 0 [.ref 77, .int x, .int i, .long v]) 3 = some (.long v) := rfl
  generalize lv_args 0 [.ref 77, .int x, .int i, .long v] = lv at L0 L1 L2 L3 ⊢
  have o1 : (1 : Int32).toInt = 1 := rfl
  refine E_al rfl L0 ?_
  refine E_ci 0 rfl (by decide) ?_
  refine E_pf rfl hh rfl ?_
  have hg : HH (pt h 77 0 (nJ 0)) := HH_ptn hh rfl (by omega) (by omega) (by omega)
  refine E_il rfl L1 ?_
  refine E_call rfl sp_isSlot (chkS rfl (by show 0 ≤ 8; decide)) (fun h1 r1 => ?_)
  rintro ⟨e1, f1⟩
  rw [e1, f1]
  by_cases b0 : 0 ≤ x.toInt ∧ x.toInt ≤ 3
  · refine E_ifT rfl (by rw [zb_T b0]; rfl) ?_
    obtain ⟨s, hs, rfl⟩ : ∃ s, s < 4 ∧ x = nJ s := ⟨x.toInt.toNat, by omega, nJ_of b0.1⟩
    refine E_al rfl L0 ?_
    refine E_gr rfl hg (q := 78) rfl ?_
    refine E_il rfl L1 ?_
    refine E_ial (v := gi h 78 s) rfl hg rfl (by omega) (by decide) (gi_ne (by omega)) ?_
    refine E_c rfl ?_
    by_cases b1 : gi h 78 s = -1
    · refine E_icF rfl (decide_eq_false (fun q => q b1)) ?_
      refine E_c rfl ?_
      exact E_rti rfl ⟨_, rfl, fun s _ k _ => rlN_77.trans (wrE_n (by decide)).symm⟩
    refine E_icT rfl (decide_eq_true b1) ?_
    refine E_il rfl L2 ?_
    refine E_i2l rfl ?_
    refine E_c rfl ?_
    refine E_al rfl L0 ?_
    refine E_gr rfl hg (q := 79) rfl ?_
    refine E_il rfl L1 ?_
    refine E_ial (v := gi h 79 s) rfl hg rfl (by omega) (by decide) (gi_ne (by omega)) ?_
    refine E_c rfl ?_
    refine E_bin rfl rfl ?_
    refine E_i2l rfl ?_
    have g := (ld_gi hh (a := 79) (k := s) (bd_u rfl (by omega))).2
    dsimp only at g
    have es : (gi h 79 s - 1).toInt = (gi h 79 s).toInt - 1 := by
      rw [Int32.toInt_sub, o1]
      exact Int.bmod_eq_of_le (by omega) (by omega)
    refine E_call rfl (sp_in (a := i.toInt) (b := 0) (c := (gi h 79 s).toInt - 1) (i2l_toInt _) rfl (by rw [i2l_toInt]; exact es)) (chkS rfl (by show 0 ≤ 8; decide)) (fun h2 r2 => ?_)
    rintro ⟨e2, f2⟩
    rw [e2, f2]
    by_cases b2 : 0 ≤ i.toInt ∧ i.toInt ≤ (gi h 79 s).toInt - 1
    · refine E_ifT rfl (by rw [zb_T b2]; rfl) ?_
      obtain ⟨k, hk, rfl⟩ : ∃ k, k < 60 ∧ i = nJ k := ⟨i.toInt.toNat, by omega, nJ_of b2.1⟩
      refine E_al rfl L0 ?_
      refine E_gr rfl hg (q := 80) rfl ?_
      refine E_ci 60 rfl (by decide) ?_
      refine E_il rfl L1 ?_
      refine E_bin rfl (nJ_mul _ _) ?_
      refine E_il rfl L2 ?_
      refine E_bin rfl (nJ_add _ _) ?_
      refine E_ll rfl L3 ?_
      refine E_al rfl L0 ?_
      refine E_gr rfl hg (q := 78) rfl ?_
      refine E_il rfl L1 ?_
      refine E_ial (v := gi h 78 s) rfl hg rfl (by omega) (by decide) (gi_ne (by omega)) ?_
      refine E_call rfl (sp_cut9 (d := d + 1)) (chkS rfl (by show 2 ≤ 8; decide)) (fun h3 r3 => ?_)
      rintro ⟨e3, f3⟩
      rw [e3, f3]
      refine E_las rfl hg rfl (by omega) (by decide) (fun h4 _ f4 g4 => ?_)
      refine E_c rfl ?_
      refine E_rti rfl ⟨_, rfl, wrE_at rfl hs hk g4 (fun s' k' hs' hk' ne => ?_)⟩
      show gl h4 80 (60 * s' + k') = gl h 80 (60 * s' + k')
      rw [fr_gl f4 (no_one (by omega))]
      exact gl_ne (by omega)
    · refine E_ifF rfl (by rw [zb_F b2]; rfl) ?_
      refine E_c rfl ?_
      exact E_rti rfl ⟨_, rfl, fun s _ k _ => rlN_77.trans (wrE_n (by decide)).symm⟩
  · refine E_ifF rfl (by rw [zb_F b0]; rfl) ?_
    refine E_c rfl ?_
    exact E_rti rfl ⟨_, rfl, fun s _ k _ => rlN_77.trans (wrE_n (by decide)).symm⟩
end WRN
/-! paste -/
theorem E_cpyN {look : Nat → Option pm_I} {call : pm_Call} {Q : pm_H → Option Value → Prop} {pc n : Nat} {lv : List (Nat × Value)} {st : List Value} {h : pm_H} {z : Nat × Nat} {a0 a1 : Nat} {sp dp m : Int32} (h1 : look pc = some (.inl (s_copy n))) (hh : HH h) (c0 : hs0[a0]? = some (.inr (.inl 60))) (c1 : hs0[a1]? = some (.inr (.inl 60))) (k1 : 0 ≤ sp.toInt) (k2 : 0 ≤ dp.toInt) (k3 : 0 ≤ m.toInt) (k4 : sp.toInt + m.toInt ≤ 60) (k5 : dp.toInt + m.toInt ≤ 60) (hs : Nat.ble (pm_sz st) 8 = true) (kk : ∀ h', fr_g [(a1, 0, 59)] h h' → (∀ k, k < 60 → gl h' a1 k = if dp.toInt ≤ (k : Int) ∧ (k : Int) < dp.toInt + m.toInt then gl h a0 ((k : Int) - dp.toInt + sp.toInt).toNat else gl h a1 k) → Ends look call (n, lv, st, h', z) Q) : Ends look call (pc, lv, .int m :: .int dp :: .ref a1 :: .int sp :: .ref a0 :: st, h, z) Q := by
  obtain ⟨x, hx, hg⟩ := hs_at hh c0
  obtain ⟨y, hy, hk⟩ := hs_at hh c1
  match x, hx, hg, y, hy, hk with
  | .inl (t2, len2, .inr (.inl f)), hx, hg, .inl (t3, len3, .inr (.inl g)), hy, hk =>
    obtain ⟨rfl, rfl⟩ := hg
    obtain ⟨rfl, rfl⟩ := hk
    have z0 : (0 : Int32).toInt = 0 := rfl
    have n1 : ∀ w : Int32, 0 ≤ w.toInt → (!(decide (w < 0))) = true := fun w hw => by
      rw [decide_eq_false (fun q => by have := Int32.lt_iff_toInt_lt.mp q; omega)]; rfl
    have e1 : sp.toNatClampNeg = sp.toInt.toNat := rfl
    have e2 : dp.toNatClampNeg = dp.toInt.toNat := rfl
    have e3 : m.toNatClampNeg = m.toInt.toNat := rfl
    have b1 : Nat.ble (sp.toNatClampNeg + m.toNatClampNeg) 60 = true := Nat.ble_eq_true_of_le (by rw [e1, e3]; omega)
    have b2 : Nat.ble (dp.toNatClampNeg + m.toNatClampNeg) 60 = true := Nat.ble_eq_true_of_le (by rw [e2, e3]; omega)
    have hl := (List.getElem?_eq_some_iff.mp hy).1
    refine E_st h1 (σ' := (n, lv, st, h.set a1 (.inl (3, 60, .inr (.inl (va_cpy f g sp.toNatClampNeg dp.toNatClampNeg m.toNatClampNeg)))), z)) ?_ (kk _ ?_ (fun k hk => ?_))
    · simp only [s_copy, hx, hy, n1 sp k1, n1 dp k2, n1 m k3, b1, b2, hs, Bool.and_self, cond_true]
    · intro b j hbj
      by_cases e : b = a1
      · subst e
        have hj : ¬ j ≤ 59 := fun hj => by
          rw [rg_in_one (Nat.zero_le _) hj (List.mem_singleton_self _)] at hbj
          cases hbj
        have e9 : va_cpy f g sp.toNatClampNeg dp.toNatClampNeg m.toNatClampNeg j = g j := by
          unfold va_cpy
          rw [if_neg (by rw [e2, e3]; omega)]
        unfold ld
        rw [List.getElem?_set_self hl, hy]
        dsimp only
        rw [e9]
      · unfold ld
        rw [List.getElem?_set_ne (Ne.symm e)]
    · have ga : ∀ q, gl h a0 q = f q := fun q => by unfold gl ld; rw [hx]
      have gb : ∀ q, gl h a1 q = g q := fun q => by unfold gl ld; rw [hy]
      have gc : gl (h.set a1 (.inl (3, 60, .inr (.inl (va_cpy f g sp.toNatClampNeg dp.toNatClampNeg m.toNatClampNeg))))) a1 k = va_cpy f g sp.toNatClampNeg dp.toNatClampNeg m.toNatClampNeg k := by
        unfold gl ld
        rw [List.getElem?_set_self hl]
      rw [gc, ga, gb]
      unfold va_cpy
      by_cases q : dp.toInt ≤ (k : Int) ∧ (k : Int) < dp.toInt + m.toInt
      · rw [if_pos q, if_pos (by rw [e2, e3]; omega)]
        congr 1
        rw [e1, e2]
        omega
      · rw [if_neg q, if_neg (by rw [e2, e3]; omega)]
section PAN
variable {d s t a b n : Nat}
theorem sp_paste8N {h : pm_H} {x i y j n : Int32} (hh : HH h) : Sp (d + 2) 158 h [.ref 0, .int x, .int i, .int y, .int j, .int n] (EF clN (fun r => paE r x i y j n (clN h))) := by
  refine Sp_of aiX8_paste rfl rfl rfl ?_
  have L0 : pm_get (lv_args 0 [.ref 0, .int x, .int i, .int y, .int j, .int n]) 0 = some (.ref 0) := rfl
  have L1 : pm_get (lv_args 0 [.ref 0, .int x, .int i, .int y, .int j, .int n]) 1 = some (.int x) := rfl
  have L2 : pm_get (lv_args 0 [.ref 0, .int x, .int i, .int y, .int j, .int n]) 2 = some (.int i) := rfl
  have L3 : pm_get (lv_args 0 [.ref 0, .int x, .int i, .int y, .int j, .int n]) 3 = some (.int y) := rfl
  have L4 : pm_get (lv_args 0 [.ref 0, .int x, .int i, .int y, .int j, .int n]) 4 = some (.int j) := rfl
  have L5 : pm_get (lv_args 0 [.ref 0, .int x, .int i, .int y, .int j, .int n]) 5 = some (.int n) := rfl
  generalize lv_args 0 [.ref 0, .int x, .int i, .int y, .int j, .int n] = lv at L0 L1 L2 L3 L4 L5 ⊢
  have no : ∀ {lv : List (Nat × Value)}, ¬ ((0 ≤ x.toInt ∧ x.toInt ≤ 3) ∧ 0 ≤ y.toInt ∧ y.toInt ≤ 3) → Ends (pm_at tX8_paste) (pm_Rt pm_P (d + 1)) (14, lv, [], h, 0, 0) (EF clN (fun r => paE r x i y j n (clN h))) := by
    intro lv hn
    refine E_c rfl ?_
    exact E_rti rfl ⟨_, rfl, fun s _ k _ => (paE_n (by decide)).symm⟩
  refine E_il rfl L1 ?_
  refine E_call rfl (sp_isSlot8 (d := d)) (chkS rfl (by show 0 ≤ 8; decide)) (fun h1 r1 => ?_)
  rintro ⟨e1, rv⟩
  rw [e1]
  rcases rv with ⟨a0, a3, hr⟩ | ⟨an, hr⟩
  · rw [hr]
    refine E_ifF rfl (by decide) ?_
    refine E_il rfl L3 ?_
    refine E_call rfl (sp_isSlot8 (d := d)) (chkS rfl (by show 0 ≤ 8; decide)) (fun h2 r2 => ?_)
    rintro ⟨e2, rw2⟩
    rw [e2]
    rcases rw2 with ⟨c0, c3, hr2⟩ | ⟨cn, hr2⟩
    · rw [hr2]
      refine E_ifT rfl (by decide) ?_
      obtain ⟨s, hs, rfl⟩ : ∃ s, s < 4 ∧ x = nJ s := ⟨x.toInt.toNat, by omega, nJ_of a0⟩
      obtain ⟨t, ht, rfl⟩ : ∃ s, s < 4 ∧ y = nJ s := ⟨y.toInt.toNat, by omega, nJ_of c0⟩
      obtain ⟨S1, S2, S3, S4, S5, S6⟩ := isS_at s hs
      obtain ⟨T1, T2, T3, T4, T5, T6⟩ := isS_at t ht
      refine E_al rfl L0 ?_
      refine E_ogr rfl hh rfl (q := 53) rfl ?_
      refine E_il rfl L1 ?_
      refine E_aal rfl hh rfl (slot_at s hs) (by decide) ?_
      refine E_asr rfl (fun lv1 M6 kp => ?_)
      have M0 := kp 0 _ (by decide) rfl L0
      have M2 := kp 2 _ (by decide) rfl L2
      have M3 := kp 3 _ (by decide) rfl L3
      have M4 := kp 4 _ (by decide) rfl L4
      have M5 := kp 5 _ (by decide) rfl L5
      refine E_al rfl M0 ?_
      refine E_ogr rfl hh rfl (q := 53) rfl ?_
      refine E_il rfl M3 ?_
      refine E_aal rfl hh rfl (slot_at t ht) (by decide) ?_
      refine E_asr rfl (fun lv2 N7 kp2 => ?_)
      have N2 := kp2 2 _ (by decide) rfl M2
      have N4 := kp2 4 _ (by decide) rfl M4
      have N5 := kp2 5 _ (by decide) rfl M5
      have N6 := kp2 6 _ (by decide) rfl M6
      refine E_al rfl N6 ?_
      refine E_ogf rfl hh S1 S4 rfl ?_
      by_cases b1 : gi h (54 + 2 * s) 1 = 0
      · refine E_ifT rfl (decide_eq_true b1) ?_
        refine E_c rfl ?_
        exact E_rti rfl ⟨_, rfl, fun s _ k _ => (paE_n (by decide)).symm⟩
      refine E_ifF rfl (decide_eq_false b1) ?_
      refine E_al rfl N7 ?_
      refine E_ogf rfl hh T1 T4 rfl ?_
      by_cases b2 : gi h (54 + 2 * t) 1 = 0
      · refine E_ifF rfl (decide_eq_false (fun q => q b2)) ?_
        refine E_c rfl ?_
        exact E_rti rfl ⟨_, rfl, fun s _ k _ => (paE_n (by decide)).symm⟩
      refine E_ifT rfl (decide_eq_true b2) ?_
      refine E_al rfl N6 ?_
      refine E_ogf rfl hh S1 S5 rfl ?_
      refine E_al rfl N7 ?_
      refine E_ogf rfl hh T1 T5 rfl ?_
      by_cases b3 : gi h (54 + 2 * s) 2 = gi h (54 + 2 * t) 2
      · refine E_icT rfl (decide_eq_true b3) ?_
        have fin7 : ∀ {lv : List (Nat × Value)}, ¬ (hol h (54 + 2 * s) i n ∧ hol h (54 + 2 * t) j n) → Ends (pm_at tX8_paste) (pm_Rt pm_P (d + 1)) (91, lv, [], h, 0, 0) (EF clN (fun r => paE r (nJ s) i (nJ t) j n (clN h))) := by
          intro lv hn
          refine E_c rfl ?_
          exact E_rti rfl ⟨_, rfl, fun s _ k _ => (paE_n (by decide)).symm⟩
        refine E_al rfl N6 ?_
        refine E_il rfl N2 ?_
        refine E_il rfl N5 ?_
        refine E_call rfl (sp_holds (d := d) hh (isS_at s hs)) (chkO (a := 54 + 2 * s) hh S1 rfl rfl rfl (by show 0 ≤ 8; decide)) (fun h3 r3 => ?_)
        rintro ⟨e3, rw3⟩
        rw [e3]
        rcases rw3 with ⟨o3, hr3⟩ | ⟨o3, hr3⟩
        · rw [hr3]
          refine E_ifF rfl (by decide) ?_
          refine E_al rfl N7 ?_
          refine E_il rfl N4 ?_
          refine E_il rfl N5 ?_
          refine E_call rfl (sp_holds (d := d) hh (isS_at t ht)) (chkO (a := 54 + 2 * t) hh T1 rfl rfl rfl (by show 0 ≤ 8; decide)) (fun h4 r4 => ?_)
          rintro ⟨e4, rw4⟩
          rw [e4]
          rcases rw4 with ⟨o4, hr4⟩ | ⟨o4, hr4⟩
          · rw [hr4]
            refine E_ifT rfl (by decide) ?_
            have g6 := (ld_gi hh S6).2
            have t6 := (ld_gi hh T6).2
            dsimp only at g6 t6
            have u1 := o3.2.2
            have u2 := o4.2.2
            refine E_al rfl N6 ?_
            refine E_ogr rfl hh S1 S2 ?_
            refine E_il rfl N2 ?_
            refine E_al rfl N7 ?_
            refine E_ogr rfl hh T1 T2 ?_
            refine E_il rfl N4 ?_
            refine E_il rfl N5 ?_
            refine E_cpyN rfl hh S3 T3 o3.1 o4.1 o3.2.1 (by omega) (by omega) rfl (fun h5 fr5 g5 => ?_)
            refine E_ci 0 rfl (by decide) ?_
            exact E_rti rfl ⟨_, rfl, paE_at rfl hs ht (fun k hk => g5 k hk) (fun s' hs' ne k hk => fr_gl fr5 (no_cell (by omega)))⟩
          · rw [hr4]
            refine E_ifF rfl (by decide) ?_
            exact fin7 (fun q => o4 q.2)
        · rw [hr3]
          refine E_ifT rfl (by decide) ?_
          exact fin7 (fun q => o3 q.1)
      · refine E_icF rfl (decide_eq_false b3) ?_
        refine E_c rfl ?_
        exact E_rti rfl ⟨_, rfl, fun s _ k _ => (paE_n (by decide)).symm⟩
    · rw [hr2]
      refine E_ifF rfl (by decide) ?_
      exact no (fun q => cn q.2)
  · rw [hr]
    refine E_ifT rfl (by decide) ?_
    exact no (fun q => an q.1)
theorem pN_b {h0 : pm_H} (ht : t < 4) (hs : s < 4) (ha : a + n ≤ 60) (hb : b + n ≤ 60) (j : Nat) : ∀ {h : pm_H} {c : Nat} (lv : List (Nat × Value)), c + j = n → HH h → (∀ q, q < n → gl h 81 q = gl h0 80 (60 * s + a + q)) → (∀ q, q < 240 → gl h 80 q = if 60 * t + b ≤ q ∧ q < 60 * t + b + c then gl h0 80 (60 * s + a + (q - (60 * t + b))) else gl h0 80 q) → pm_get lv 0 = some (.ref 77) → pm_get lv 3 = some (.int (nJ t)) → pm_get lv 4 = some (.int (nJ b)) → pm_get lv 5 = some (.int (nJ n)) → pm_get lv 6 = some (.int (nJ c)) → Ends (pm_at tX9_paste) (pm_Rt pm_P d) (155, lv, [], h, 0, 0) (EF rlN (fun r => paE r (nJ s) (nJ a) (nJ t) (nJ b) (nJ n) (rlN h0))) := by
  induction j with
  | zero =>
    intro h c lv hj hh g1 g2 L0 L3 L4 L5 L6
    have ea := nJ_toInt (n := a) (by omega)
    have eb := nJ_toInt (n := b) (by omega)
    have en := nJ_toInt (n := n) (by omega)
    refine E_il rfl L6 ?_
    refine E_il rfl L5 ?_
    refine E_icT rfl (decide_eq_true ((nJ_le (by omega) (by omega)).mpr (by omega))) ?_
    refine E_c rfl ?_
    refine E_rti rfl ⟨_, rfl, paE_at rfl hs ht (fun k hk => ?_) (fun s' hs' ne k hk => ?_)⟩
    · show gl h 80 (60 * t + k) = if _ then gl h0 80 (60 * s + _) else gl h0 80 (60 * t + k)
      rw [g2 _ (by omega), ea, eb, en]
      by_cases z : b ≤ k ∧ k < b + n
      · rw [if_pos (by omega), if_pos (by omega)]
        congr 1
        omega
      · rw [if_neg (by omega), if_neg (by omega)]
    · show gl h 80 (60 * s' + k) = gl h0 80 (60 * s' + k)
      rw [g2 _ (by omega), if_neg (by omega)]
  | succ j ih =>
    intro h c lv hj hh g1 g2 L0 L3 L4 L5 L6
    refine E_il rfl L6 ?_
    refine E_il rfl L5 ?_
    refine E_icF rfl (decide_eq_false (fun q => absurd ((nJ_le (by omega) (by omega)).mp q) (by omega))) ?_
    refine E_al rfl L0 ?_
    refine E_gr rfl hh (q := 80) rfl ?_
    refine E_ci 60 rfl (by decide) ?_
    refine E_il rfl L3 ?_
    refine E_bin rfl (nJ_mul _ _) ?_
    refine E_il rfl L4 ?_
    refine E_bin rfl (nJ_add _ _) ?_
    refine E_il rfl L6 ?_
    refine E_bin rfl (nJ_add _ _) ?_
    refine E_al rfl L0 ?_
    refine E_gr rfl hh (q := 81) rfl ?_
    refine E_il rfl L6 ?_
    refine E_lal rfl hh rfl (by omega) (by decide) ?_
    refine E_las rfl hh rfl (by omega) (by decide) (fun h1 hh1 f1 v1 => ?_)
    refine E_inc rfl L6 (nJ_inc _) (fun lv1 K6 kp => ?_)
    refine E_goto rfl ?_
    refine ih lv1 (by omega) hh1 (fun q hq => ?_) (fun q hq => ?_) (kp 0 _ (by decide) rfl L0) (kp 3 _ (by decide) rfl L3) (kp 4 _ (by decide) rfl L4) (kp 5 _ (by decide) rfl L5) K6
    · rw [fr_gl f1 (no_cell (by omega))]; exact g1 q hq
    · by_cases e : q = 60 * t + b + c
      · rw [e, v1, g1 c (by omega), if_pos (by omega)]
        congr 1
        omega
      · rw [fr_gl f1 (no_one e), g2 q hq]
        by_cases z : 60 * t + b ≤ q ∧ q < 60 * t + b + c
        · rw [if_pos z, if_pos (by omega)]
        · rw [if_neg z, if_neg (by omega)]
theorem pN_a {h0 : pm_H} (hs : s < 4) (ht : t < 4) (ha : a + n ≤ 60) (hb : b + n ≤ 60) (j : Nat) : ∀ {h : pm_H} {c : Nat} (lv : List (Nat × Value)), c + j = n → HH h → (∀ q, q < c → gl h 81 q = gl h0 80 (60 * s + a + q)) → (∀ q, gl h 80 q = gl h0 80 q) → pm_get lv 0 = some (.ref 77) → pm_get lv 1 = some (.int (nJ s)) → pm_get lv 2 = some (.int (nJ a)) → pm_get lv 3 = some (.int (nJ t)) → pm_get lv 4 = some (.int (nJ b)) → pm_get lv 5 = some (.int (nJ n)) → pm_get lv 6 = some (.int (nJ c)) → Ends (pm_at tX9_paste) (pm_Rt pm_P d) (118, lv, [], h, 0, 0) (EF rlN (fun r => paE r (nJ s) (nJ a) (nJ t) (nJ b) (nJ n) (rlN h0))) := by
  induction j with
  | zero =>
    intro h c lv hj hh g1 g2 L0 L1 L2 L3 L4 L5 L6
    refine E_il rfl L6 ?_
    refine E_il rfl L5 ?_
    refine E_icT rfl (decide_eq_true ((nJ_le (by omega) (by omega)).mpr (by omega))) ?_
    refine E_ci 0 rfl (by decide) ?_
    refine E_is rfl (fun lv1 K6 kp => ?_)
    have e : c = n := by omega
    exact pN_b ht hs ha hb n (c := 0) lv1 (by omega) hh (by rw [← e]; exact g1) (fun q hq => by rw [if_neg (by omega)]; exact g2 q) (kp 0 _ (by decide) rfl L0) (kp 3 _ (by decide) rfl L3) (kp 4 _ (by decide) rfl L4) (kp 5 _ (by decide) rfl L5) K6
  | succ j ih =>
    intro h c lv hj hh g1 g2 L0 L1 L2 L3 L4 L5 L6
    refine E_il rfl L6 ?_
    refine E_il rfl L5 ?_
    refine E_icF rfl (decide_eq_false (fun q => absurd ((nJ_le (by omega) (by omega)).mp q) (by omega))) ?_
    refine E_al rfl L0 ?_
    refine E_gr rfl hh (q := 81) rfl ?_
    refine E_il rfl L6 ?_
    refine E_al rfl L0 ?_
    refine E_gr rfl hh (q := 80) rfl ?_
    refine E_ci 60 rfl (by decide) ?_
    refine E_il rfl L1 ?_
    refine E_bin rfl (nJ_mul _ _) ?_
    refine E_il rfl L2 ?_
    refine E_bin rfl (nJ_add _ _) ?_
    refine E_il rfl L6 ?_
    refine E_bin rfl (nJ_add _ _) ?_
    refine E_lal rfl hh rfl (by omega) (by decide) ?_
    refine E_las rfl hh rfl (by omega) (by decide) (fun h1 hh1 f1 v1 => ?_)
    refine E_inc rfl L6 (nJ_inc _) (fun lv1 K6 kp => ?_)
    refine E_goto rfl ?_
    refine ih lv1 (by omega) hh1 (fun q hq => ?_) (fun q => by rw [fr_gl f1 (no_cell (by omega))]; exact g2 q) (kp 0 _ (by decide) rfl L0) (kp 1 _ (by decide) rfl L1) (kp 2 _ (by decide) rfl L2) (kp 3 _ (by decide) rfl L3) (kp 4 _ (by decide) rfl L4) (kp 5 _ (by decide) rfl L5) K6
    by_cases e : q = c
    · rw [e, v1, g2]
    · rw [fr_gl f1 (no_one e)]; exact g1 q (by omega)
theorem sp_paste9N {h : pm_H} {x i y j n : Int32} (hh : HH h) : Sp (d + 3) 323 h [.ref 77, .int x, .int i, .int y, .int j, .int n] (EF rlN (fun r => paE r x i y j n (rlN h))) := by
  refine Sp_of aiX9_paste rfl rfl rfl ?_
  have L0 : pm_get (lv_args 0 [.ref 77, .int x, .int i, .int y, .int j, .int n]) 0 = some (.ref 77) := rfl
  have L1 : pm_get (lv_args 0 [.ref 77, .int x, .int i, .int y, .int j, .int n]) 1 = some (.int x) := rfl
  have L2 : pm_get (lv_args 0 [.ref 77, .int x, .int i, .int y, .int j, .int n]) 2 = some (.int i) := rfl
  have L3 : pm_get (lv_args 0 [.ref 77, .int x, .int i, .int y, .int j, .int n]) 3 = some (.int y) := rfl
  have L4 : pm_get (lv_args 0 [.ref 77, .int x, .int i, .int y, .int j, .int n]) 4 = some (.int j) := rfl
  have L5 : pm_get (lv_args 0 [.ref 77, .int x, .int i, .int y, .int j, .int n]) 5 = some (.int n) := rfl
  generalize lv_args 0 [.ref 77, .int x, .int i, .int y, .int j, .int n] = lv at L0 L1 L2 L3 L4 L5 ⊢
  have z0 : (0 : Int32).toInt = 0 := rfl
  refine E_al rfl L0 ?_
  refine E_ci 0 rfl (by decide) ?_
  refine E_pf rfl hh rfl ?_
  have hg : HH (pt h 77 0 (nJ 0)) := HH_ptn hh rfl (by omega) (by omega) (by omega)
  have no : ¬ ((0 ≤ x.toInt ∧ x.toInt ≤ 3) ∧ 0 ≤ y.toInt ∧ y.toInt ≤ 3) → Ends (pm_at tX9_paste) (pm_Rt pm_P (d + 2)) (19, lv, [], pt h 77 0 (nJ 0), 0, 0) (EF rlN (fun r => paE r x i y j n (rlN h))) := by
    intro hn
    refine E_c rfl ?_
    exact E_rti rfl ⟨_, rfl, fun s _ k _ => rlN_77.trans (paE_n (by decide)).symm⟩
  refine E_il rfl L1 ?_
  refine E_call rfl sp_isSlot (chkS rfl (by show 0 ≤ 8; decide)) (fun h1 r1 => ?_)
  rintro ⟨e1, f1⟩
  rw [e1, f1]
  by_cases b0 : 0 ≤ x.toInt ∧ x.toInt ≤ 3
  · refine E_ifF rfl (by rw [zb_T b0]; rfl) ?_
    refine E_il rfl L3 ?_
    refine E_call rfl sp_isSlot (chkS rfl (by show 0 ≤ 8; decide)) (fun h2 r2 => ?_)
    rintro ⟨e2, f2⟩
    rw [e2, f2]
    by_cases c0 : 0 ≤ y.toInt ∧ y.toInt ≤ 3
    · refine E_ifT rfl (by rw [zb_T c0]; rfl) ?_
      obtain ⟨s, hs, rfl⟩ : ∃ s, s < 4 ∧ x = nJ s := ⟨x.toInt.toNat, by omega, nJ_of b0.1⟩
      obtain ⟨t, ht, rfl⟩ : ∃ s, s < 4 ∧ y = nJ s := ⟨y.toInt.toNat, by omega, nJ_of c0.1⟩
      refine E_al rfl L0 ?_
      refine E_gr rfl hg (q := 78) rfl ?_
      refine E_il rfl L1 ?_
      refine E_ial (v := gi h 78 s) rfl hg rfl (by omega) (by decide) (gi_ne (by omega)) ?_
      refine E_c rfl ?_
      by_cases b1 : gi h 78 s = -1
      · refine E_icT rfl (decide_eq_true b1) ?_
        refine E_c rfl ?_
        exact E_rti rfl ⟨_, rfl, fun s _ k _ => rlN_77.trans (paE_n (by decide)).symm⟩
      refine E_icF rfl (decide_eq_false b1) ?_
      refine E_al rfl L0 ?_
      refine E_gr rfl hg (q := 78) rfl ?_
      refine E_il rfl L3 ?_
      refine E_ial (v := gi h 78 t) rfl hg rfl (by omega) (by decide) (gi_ne (by omega)) ?_
      refine E_c rfl ?_
      by_cases b2 : gi h 78 t = -1
      · refine E_icF rfl (decide_eq_false (fun q => q b2)) ?_
        refine E_c rfl ?_
        exact E_rti rfl ⟨_, rfl, fun s _ k _ => rlN_77.trans (paE_n (by decide)).symm⟩
      refine E_icT rfl (decide_eq_true b2) ?_
      refine E_al rfl L0 ?_
      refine E_gr rfl hg (q := 78) rfl ?_
      refine E_il rfl L1 ?_
      refine E_ial (v := gi h 78 s) rfl hg rfl (by omega) (by decide) (gi_ne (by omega)) ?_
      refine E_al rfl L0 ?_
      refine E_gr rfl hg (q := 78) rfl ?_
      refine E_il rfl L3 ?_
      refine E_ial (v := gi h 78 t) rfl hg rfl (by omega) (by decide) (gi_ne (by omega)) ?_
      by_cases b3 : gi h 78 s = gi h 78 t
      · refine E_icT rfl (decide_eq_true b3) ?_
        have g1 := (ld_gi hh (a := 79) (k := s) (bd_u rfl (by omega))).2
        have g2 := (ld_gi hh (a := 79) (k := t) (bd_u rfl (by omega))).2
        dsimp only at g1 g2
        have no7 : Ends (pm_at tX9_paste) (pm_Rt pm_P (d + 2)) (112, lv, [], pt h 77 0 (nJ 0), 0, 0) (EF rlN (fun r => paE r (nJ s) i (nJ t) j n (rlN h))) := by
          refine E_c rfl ?_
          exact E_rti rfl ⟨_, rfl, fun s _ k _ => rlN_77.trans (paE_n (by decide)).symm⟩
        refine E_il rfl L2 ?_
        by_cases k1 : i < 0
        · have q := Int32.lt_iff_toInt_lt.mp k1
          refine E_ifT rfl (decide_eq_true k1) ?_
          exact no7
        have q1 : ¬ i.toInt < (0 : Int32).toInt := fun z => k1 (Int32.lt_iff_toInt_lt.mpr z)
        refine E_ifF rfl (decide_eq_false k1) ?_
        refine E_il rfl L4 ?_
        by_cases k2 : j < 0
        · have q := Int32.lt_iff_toInt_lt.mp k2
          refine E_ifT rfl (decide_eq_true k2) ?_
          exact no7
        have q2 : ¬ j.toInt < (0 : Int32).toInt := fun z => k2 (Int32.lt_iff_toInt_lt.mpr z)
        refine E_ifF rfl (decide_eq_false k2) ?_
        refine E_il rfl L5 ?_
        by_cases k3 : n < 0
        · have q := Int32.lt_iff_toInt_lt.mp k3
          refine E_ifT rfl (decide_eq_true k3) ?_
          exact no7
        have q3 : ¬ n.toInt < (0 : Int32).toInt := fun z => k3 (Int32.lt_iff_toInt_lt.mpr z)
        refine E_ifF rfl (decide_eq_false k3) ?_
        refine E_il rfl L2 ?_
        refine E_i2l rfl ?_
        refine E_il rfl L5 ?_
        refine E_i2l rfl ?_
        refine E_lbin rfl ?_
        refine E_al rfl L0 ?_
        refine E_gr rfl hg (q := 79) rfl ?_
        refine E_il rfl L1 ?_
        refine E_ial (v := gi h 79 s) rfl hg rfl (by omega) (by decide) (gi_ne (by omega)) ?_
        refine E_i2l rfl ?_
        refine E_lcmp rfl ?_
        by_cases k4 : (gi h 79 s).toInt < i.toInt + n.toInt
        · refine E_ifT rfl (decide_eq_true ((lg_cmp_gt _ _).mpr (by rw [Int64.lt_iff_toInt_lt, i2l_add, i2l_toInt]; omega))) ?_
          exact no7
        refine E_ifF rfl (decide_eq_false (fun q => absurd ((lg_cmp_gt _ _).mp q) (by rw [Int64.lt_iff_toInt_lt, i2l_add, i2l_toInt]; omega))) ?_
        refine E_il rfl L4 ?_
        refine E_i2l rfl ?_
        refine E_il rfl L5 ?_
        refine E_i2l rfl ?_
        refine E_lbin rfl ?_
        refine E_al rfl L0 ?_
        refine E_gr rfl hg (q := 79) rfl ?_
        refine E_il rfl L3 ?_
        refine E_ial (v := gi h 79 t) rfl hg rfl (by omega) (by decide) (gi_ne (by omega)) ?_
        refine E_i2l rfl ?_
        refine E_lcmp rfl ?_
        by_cases k5 : j.toInt + n.toInt ≤ (gi h 79 t).toInt
        · refine E_ifT rfl (decide_eq_true ((lg_cmp_le _ _).mpr (by rw [Int64.le_iff_toInt_le, i2l_add, i2l_toInt]; omega))) ?_
          obtain ⟨a, ha, rfl⟩ : ∃ k, k ≤ 60 ∧ i = nJ k := ⟨i.toInt.toNat, by omega, nJ_of (by omega)⟩
          obtain ⟨b, hb, rfl⟩ : ∃ k, k ≤ 60 ∧ j = nJ k := ⟨j.toInt.toNat, by omega, nJ_of (by omega)⟩
          obtain ⟨m, hm, rfl⟩ : ∃ k, k ≤ 60 ∧ n = nJ k := ⟨n.toInt.toNat, by omega, nJ_of (by omega)⟩
          have ea := nJ_toInt (n := a) (by omega)
          have eb := nJ_toInt (n := b) (by omega)
          have em := nJ_toInt (n := m) (by omega)
          refine E_ci 0 rfl (by decide) ?_
          refine E_is rfl (fun lv1 K6 kp => ?_)
          exact pN_a hs ht (by omega) (by omega) m (c := 0) lv1 (by omega) hg (fun q hq => absurd hq (Nat.not_lt_zero q)) (fun q => gl_ne (by omega)) (kp 0 _ (by decide) rfl L0) (kp 1 _ (by decide) rfl L1) (kp 2 _ (by decide) rfl L2) (kp 3 _ (by decide) rfl L3) (kp 4 _ (by decide) rfl L4) (kp 5 _ (by decide) rfl L5) K6
        · refine E_ifF rfl (decide_eq_false (fun q => absurd ((lg_cmp_le _ _).mp q) (by rw [Int64.le_iff_toInt_le, i2l_add, i2l_toInt]; omega))) ?_
          exact no7
      · refine E_icF rfl (decide_eq_false b3) ?_
        refine E_c rfl ?_
        exact E_rti rfl ⟨_, rfl, fun s _ k _ => rlN_77.trans (paE_n (by decide)).symm⟩
    · refine E_ifF rfl (by rw [zb_F c0]; rfl) ?_
      exact no (fun q => c0 q.2)
  · refine E_ifT rfl (by rw [zb_F b0]; rfl) ?_
    exact no (fun q => b0 q.1)
end PAN
/-! the relation with numbers -/
noncomputable def nuB (M : List Rng) : Bool := [55, 57, 59, 61, 80].all (nocell M)
theorem nu_fr {M : List Rng} {h h' : pm_H} (hf : fr_g M h h') (hb : nuB M = true) : ∀ s, s < 4 → ∀ k, clN h' s k = clN h s k ∧ rlN h' s k = rlN h s k := by
  intro s hs k
  refine ⟨fr_gl hf (rg_no ?_ _), fr_gl hf (rg_no (nc_at hb (by decide)) _)⟩
  match s, hs with
  | 0, _ => exact nc_at hb (by decide)
  | 1, _ => exact nc_at hb (by decide)
  | 2, _ => exact nc_at hb (by decide)
  | 3, _ => exact nc_at hb (by decide)
theorem NU_fr {M : List Rng} {h h' : pm_H} (hf : fr_g M h h') (hb : nuB M = true) (N : NU h) : NU h' := fun s hs k hk => by
  rw [(nu_fr hf hb s hs k).1, (nu_fr hf hb s hs k).2]
  exact N s hs k hk
noncomputable def IVN (h : pm_H) : Prop := IVh h ∧ QRE h ∧ NU h
theorem IVN_q {h : pm_H} (I : IVN h) : IVQ h := ⟨I.1, I.2.1⟩
noncomputable def qnB (M : List Rng) : Bool := qrB M && nuB M
theorem tN_int {d y : Nat} {h : pm_H} {as : List Value} {M : List Rng} (hd : Nat.ble d 100 = true) (hM : qnB M = true) (R : QRE h ∧ NU h) (k : Sp d y h as (fun h' r => IVh h' ∧ fr_g M h h' ∧ ∃ x : Int32, r = some (.int x))) : Sp 100 y h as (fun h' r => IVN h' ∧ ∃ x : Int32, r = some (.int x)) := by
  unfold qnB at hM
  rw [Bool.and_eq_true] at hM
  exact Sp_le (Nat.le_of_ble_eq_true hd) (Sp_mono (fun _ _ q => ⟨⟨q.1, QRE_fr q.2.1 hM.1 R.1, NU_fr q.2.1 hM.2 R.2⟩, q.2.2⟩) k)
theorem tN_lng {d y : Nat} {h : pm_H} {as : List Value} {M : List Rng} (hd : Nat.ble d 100 = true) (hM : qnB M = true) (R : QRE h ∧ NU h) (k : Sp d y h as (fun h' r => IVh h' ∧ fr_g M h h' ∧ ∃ x : Int64, r = some (.long x))) : Sp 100 y h as (fun h' r => IVN h' ∧ ∃ x : Int64, r = some (.long x)) := by
  unfold qnB at hM
  rw [Bool.and_eq_true] at hM
  exact Sp_le (Nat.le_of_ble_eq_true hd) (Sp_mono (fun _ _ q => ⟨⟨q.1, QRE_fr q.2.1 hM.1 R.1, NU_fr q.2.1 hM.2 R.2⟩, q.2.2⟩) k)
theorem hf_N {d y : Nat} {h : pm_H} {as : List Value} {M : List Rng} {P : pm_H → Int32 → Prop} {U : pm_H → Option Value → Prop} (hd : d ≤ 100) (hM : nuB M = true) (N : NU h) (a : Sp 100 y h as (fun h' r => IVh h' ∧ ∃ x : Int32, r = some (.int x) ∧ P h' x)) (b : Sp d y h as (fun h' r => U h' r ∧ fr_g M h h')) : Sp 100 y h as (fun h' r => IVh h' ∧ ∃ x : Int32, r = some (.int x) ∧ (P h' x ∧ NU h')) :=
  Sp_mono (fun _ _ q => by
    obtain ⟨⟨q1, x, q2, q3⟩, -, q4⟩ := q
    exact ⟨q1, x, q2, q3, NU_fr q4 hM N⟩) (Sp_an a (Sp_le hd b))
theorem hs_N {d y : Nat} {h : pm_H} {as : List Value} {M : List Rng} {P : Option Value → Prop} {U : pm_H → Option Value → Prop} (hd : d ≤ 100) (hM : nuB M = true) (N : NU h) (a : Sp 100 y h as (fun h' r => IVQ h' ∧ P r)) (b : Sp d y h as (fun h' r => U h' r ∧ fr_g M h h')) : Sp 100 y h as (fun h' r => IVN h' ∧ P r) :=
  Sp_mono (fun _ _ q => by
    obtain ⟨⟨q1, q2⟩, -, q4⟩ := q
    exact ⟨⟨q1.1, q1.2, NU_fr q4 hM N⟩, q2⟩) (Sp_an a (Sp_le hd b))
section PRN
variable {h : pm_H} {x v w a b c d e : Int32} {z : Int64}
theorem n8_feed (I : IVN h) : Sp 100 106 h [.ref 0, .int a, .int b, .int c, .int d, .int e] (fun h' r => IVh h' ∧ ∃ x : Int32, r = some (.int x) ∧ (((half_feed h' x a b c d e ∧ SL h') ∧ RST h') ∧ NU h')) :=
  hf_N (P := fun h' x => ((half_feed h' x a b c d e ∧ SL h') ∧ RST h')) (by omega) rfl I.2.2 (g8_feed (IVN_q I)) (tf_all (as := [.ref 0, .int a, .int b, .int c, .int d, .int e]) q1 (by decide +kernel) I.1 ⟨rfl, aI _, aI _, aI _, aI _, aI _, trivial⟩)
theorem n9_feed (I : IVh h) (J : ((half_feed h x a b c d e ∧ SL h) ∧ RST h) ∧ NU h) : Sp 100 247 h [.ref 77, .int a, .int b, .int c, .int d, .int e] (fun h' r => IVN h' ∧ r = some (.int x)) :=
  hs_N (P := fun r => r = some (.int x)) (by omega) rfl J.2 (g9_feed I J.1) (tf_all (as := [.ref 77, .int a, .int b, .int c, .int d, .int e]) q7 (by decide +kernel) I ⟨rfl, aI _, aI _, aI _, aI _, aI _, trivial⟩)
theorem n8_end (I : IVN h) : Sp 100 101 h [.ref 0, .int v] (fun h' r => IVh h' ∧ ∃ x : Int32, r = some (.int x) ∧ (((half_end h' x v ∧ SL h') ∧ RST h') ∧ NU h')) :=
  hf_N (P := fun h' x => ((half_end h' x v ∧ SL h') ∧ RST h')) (by omega) rfl I.2.2 (g8_end (IVN_q I)) (tf_all (as := [.ref 0, .int v]) q8 (by decide +kernel) I.1 ⟨rfl, aI _, trivial⟩)
theorem n9_end (I : IVh h) (J : ((half_end h x v ∧ SL h) ∧ RST h) ∧ NU h) : Sp 100 241 h [.ref 77, .int v] (fun h' r => IVN h' ∧ r = some (.int x)) :=
  hs_N (P := fun r => r = some (.int x)) (by omega) rfl J.2 (g9_end I J.1) (tf_all (as := [.ref 77, .int v]) q10 (by decide +kernel) I ⟨rfl, aI _, trivial⟩)
theorem n8_street (I : IVN h) : Sp 100 185 h [.ref 0] (fun h' r => IVh h' ∧ ∃ x : Int32, r = some (.int x) ∧ (half_stQ h' x ∧ NU h')) :=
  hf_N (P := fun h' x => half_stQ h' x) (by omega) rfl I.2.2 (g8_street (IVN_q I)) (tf_all (as := [.ref 0]) q106 (by decide +kernel) I.1 ⟨rfl, trivial⟩)
theorem n9_street (I : IVh h) (J : (half_stQ h x) ∧ NU h) : Sp 100 354 h [.ref 77] (fun h' r => IVN h' ∧ r = some (.int x)) :=
  hs_N (P := fun r => r = some (.int x)) (M := VMS) (U := fun h' _ => HH h') (d := 40) (by omega) rfl J.2 (g9_street I J.1) (Sp_mono (fun _ _ q => ⟨q.1, q.2.1⟩) (tv_street (d := 0) I.1 I.2.2))
theorem n8_undo (I : IVN h) : Sp 100 195 h [.ref 0] (fun h' r => IVh h' ∧ ∃ x : Int32, r = some (.int x) ∧ (half_unQ h' x ∧ NU h')) :=
  hf_N (P := fun h' x => half_unQ h' x) (by omega) rfl I.2.2 (g8_undo (IVN_q I)) (tf_all (as := [.ref 0]) q878 (by decide +kernel) I.1 ⟨rfl, trivial⟩)
theorem n9_undo (I : IVh h) (J : (half_unQ h x) ∧ NU h) : Sp 100 366 h [.ref 77] (fun h' r => IVN h' ∧ r = some (.int x)) :=
  hs_N (P := fun r => r = some (.int x)) (M := VM) (U := fun h' _ => HH h') (d := 40) (by omega) rfl J.2 (g9_undo I J.1) (Sp_mono (fun _ _ q => ⟨q.1, q.2.1⟩) (tv_undo (d := 0) I.1 I.2.2))
theorem n8_anew (I : IVN h) : Sp 100 79 h [.ref 0] (fun h' r => IVh h' ∧ ∃ x : Int32, r = some (.int x) ∧ (half_anQ h' x ∧ NU h')) :=
  hf_N (P := fun h' x => half_anQ h' x) (by omega) rfl I.2.2 (g8_anew (IVN_q I)) (tf_all (as := [.ref 0]) q881 (by decide +kernel) I.1 ⟨rfl, trivial⟩)
theorem n9_anew (I : IVh h) (J : (half_anQ h x) ∧ NU h) : Sp 100 207 h [.ref 77] (fun h' r => IVN h' ∧ r = some (.int x)) :=
  hs_N (P := fun r => r = some (.int x)) (M := VM) (U := fun h' _ => HH h') (d := 40) (by omega) rfl J.2 (g9_anew I J.1) (Sp_mono (fun _ _ q => ⟨q.1, q.2.1⟩) (tv_anew (d := 0) I.1 I.2.2))
theorem n8_rate (I : IVN h) : Sp 100 164 h [.ref 0, .int v, .int w] (fun h' r => IVh h' ∧ ∃ x : Int32, r = some (.int x) ∧ (half_rtQ h' x v w ∧ NU h')) :=
  hf_N (P := fun h' x => half_rtQ h' x v w) (by omega) rfl I.2.2 (g8_rate (IVN_q I)) (tf_all (as := [.ref 0, .int v, .int w]) q895 (by decide +kernel) I.1 ⟨rfl, aI _, aI _, trivial⟩)
theorem n9_rate (I : IVh h) (J : (half_rtQ h x v w) ∧ NU h) : Sp 100 329 h [.ref 77, .int v, .int w] (fun h' r => IVN h' ∧ r = some (.int x)) :=
  hs_N (P := fun r => r = some (.int x)) (M := VM) (U := fun h' _ => HH h') (d := 40) (by omega) rfl J.2 (g9_rate I J.1) (Sp_mono (fun _ _ q => ⟨q.1, q.2.1⟩) (tv_rate (d := 0) I.1 I.2.2))
theorem n8_wants (I : IVN h) : Sp 100 198 h [.ref 0, .int v, .int w] (fun h' r => IVh h' ∧ ∃ x : Int32, r = some (.int x) ∧ (half_w h' (wq h' v w) v w 0 ∧ NU h')) :=
  hf_N (P := fun h' x => half_w h' (wq h' v w) v w 0) (by omega) rfl I.2.2 (g8_wants (IVN_q I)) (tf_all (as := [.ref 0, .int v, .int w]) q868 (by decide +kernel) I.1 ⟨rfl, aI _, aI _, trivial⟩)
theorem n9_wants (I : IVh h) (J : (half_w h (wq h v w) v w 0) ∧ NU h) : Sp 100 370 h [.ref 77, .int v, .int w] (fun h' r => IVN h' ∧ ∃ x : Int32, r = some (.int x)) :=
  hs_N (P := fun r => ∃ x : Int32, r = some (.int x)) (M := VM) (U := fun h' _ => HH h') (d := 40) (by omega) rfl J.2 (g9_wants I J.1) (Sp_mono (fun _ _ q => ⟨q.1, q.2.1⟩) (tv_wants (d := 0) I.1 I.2.2))
theorem n8_trades (I : IVN h) : Sp 100 191 h [.ref 0, .int v, .int w] (fun h' r => IVh h' ∧ ∃ x : Int32, r = some (.int x) ∧ (half_w h' (tq h' v w) v w 1 ∧ NU h')) :=
  hf_N (P := fun h' x => half_w h' (tq h' v w) v w 1) (by omega) rfl I.2.2 (g8_trades (IVN_q I)) (tf_all (as := [.ref 0, .int v, .int w]) q873 (by decide +kernel) I.1 ⟨rfl, aI _, aI _, trivial⟩)
theorem n9_trades (I : IVh h) (J : (half_w h (tq h v w) v w 1) ∧ NU h) : Sp 100 362 h [.ref 77, .int v, .int w] (fun h' r => IVN h' ∧ ∃ x : Int32, r = some (.int x)) :=
  hs_N (P := fun r => ∃ x : Int32, r = some (.int x)) (M := VM) (U := fun h' _ => HH h') (d := 40) (by omega) rfl J.2 (g9_trades I J.1) (Sp_mono (fun _ _ q => ⟨q.1, q.2.1⟩) (tv_trades (d := 0) I.1 I.2.2))
theorem n8_count (I : IVN h) : Sp 100 93 h [.ref 0, .int v] (fun h' r => IVh h' ∧ ∃ x : Int32, r = some (.int x) ∧ (half_cnQ h' x v ∧ NU h')) :=
  hf_N (P := fun h' x => half_cnQ h' x v) (by omega) rfl I.2.2 (g8_count (IVN_q I)) (tf_all (as := [.ref 0, .int v]) q899 (by decide +kernel) I.1 ⟨rfl, aI _, trivial⟩)
theorem n9_count (I : IVh h) (J : (half_cnQ h x v) ∧ NU h) : Sp 100 233 h [.ref 77, .int v] (fun h' r => IVN h' ∧ r = some (.int x)) :=
  hs_N (P := fun r => r = some (.int x)) (by omega) rfl J.2 (g9_count I J.1) (tf_all (as := [.ref 77, .int v]) q901 (by decide +kernel) I ⟨rfl, aI _, trivial⟩)
theorem n8_image (I : IVN h) : Sp 100 121 h [.ref 0, .int v] (fun h' r => IVh h' ∧ ∃ x : Int32, r = some (.int x) ∧ (half_imQ h' x v ∧ NU h')) :=
  hf_N (P := fun h' x => half_imQ h' x v) (by omega) rfl I.2.2 (g8_image (IVN_q I)) (tf_all (as := [.ref 0, .int v]) q905 (by decide +kernel) I.1 ⟨rfl, aI _, trivial⟩)
theorem n9_image (I : IVh h) (J : (half_imQ h x v) ∧ NU h) : Sp 100 260 h [.ref 77, .int v] (fun h' r => IVN h' ∧ r = some (.int x)) :=
  hs_N (P := fun r => r = some (.int x)) (M := VMI) (U := fun h' _ => HH h') (d := 40) (by omega) rfl J.2 (g9_image I J.1) (Sp_mono (fun _ _ q => ⟨q.1, q.2.1⟩) (tv_image (d := 0) I.1 I.2.2))
theorem n8_back (I : IVN h) : Sp 100 82 h [.ref 0, .int v] (fun h' r => IVh h' ∧ ∃ x : Int32, r = some (.int x) ∧ (half_bkQ h' x v ∧ NU h')) :=
  hf_N (P := fun h' x => half_bkQ h' x v) (by omega) rfl I.2.2 (g8_back (IVN_q I)) (tf_all (as := [.ref 0, .int v]) q927 (by decide +kernel) I.1 ⟨rfl, aI _, trivial⟩)
theorem n9_back (I : IVh h) (J : (half_bkQ h x v) ∧ NU h) : Sp 100 212 h [.ref 77, .int v] (fun h' r => IVN h' ∧ r = some (.int x)) :=
  hs_N (P := fun r => r = some (.int x)) (M := VM) (U := fun h' _ => HH h') (d := 40) (by omega) rfl J.2 (g9_back I J.1) (Sp_mono (fun _ _ q => ⟨q.1, q.2.1⟩) (tv_back (d := 0) I.1 I.2.2))
/-! row, write, paste: with their numbers -/
theorem n8_row (I : IVN h) : Sp 100 171 h [.ref 0, .int a, .int b, .int c] (fun h' r => IVh h' ∧ ∃ x : Int32, r = some (.int x) ∧ ((half_row h' x a b c ∧ RST h') ∧ ∀ s, s < 4 → ∀ k, k < 60 → clN h' s k = rowE x a c (rlN h') s k)) := by
  refine Sp_mono ?_ (Sp_an (Sp_an (g8_row (a := a) (b := b) (c := c) (IVN_q I)) (Sp_le (by omega) (tf_all (as := [.ref 0, .int a, .int b, .int c]) q949 (by decide +kernel) I.1 ⟨rfl, aI _, aI _, aI _, trivial⟩))) (Sp_le (by omega) (sp_row8N (d := 0) I.1.1)))
  rintro h' r ⟨⟨⟨q1, x, q2, q3⟩, -, q4⟩, y, q5, q6⟩
  rw [q2] at q5
  cases q5
  refine ⟨q1, x, q2, q3, fun s hs k hk => ?_⟩
  rw [q6 s hs k hk]
  exact rowE_cg (fun s hs k hk => by rw [I.2.2 s hs k hk]; exact (fr_gl q4 (rg_no rfl _)).symm) hs hk
theorem n9_row (I : IVh h) (J : (half_row h x a b c ∧ RST h) ∧ ∀ s, s < 4 → ∀ k, k < 60 → clN h s k = rowE x a c (rlN h) s k) : Sp 100 338 h [.ref 77, .int a, .int b, .int c] (fun h' r => IVN h' ∧ r = some (.int x)) := by
  refine Sp_mono ?_ (Sp_an (Sp_an (g9_row I J.1) (Sp_le (by omega) (tf_all (as := [.ref 77, .int a, .int b, .int c]) q950 (by decide +kernel) I ⟨rfl, aI _, aI _, aI _, trivial⟩))) (Sp_le (by omega) (sp_row9N (d := 0) I.1)))
  rintro h' r ⟨⟨⟨q1, q2⟩, -, q4⟩, y, q5, q6⟩
  rw [q2] at q5
  cases q5
  refine ⟨⟨q1.1, q1.2, fun s hs k hk => ?_⟩, q2⟩
  rw [q6 s hs k hk]
  show clN h' s k = rowE x a c (rlN h) s k
  rw [← J.2 s hs k hk]
  exact fr_gl q4 (no_long rfl hs)
theorem wrE_cg {r : Int32} {w w' : Nat → Int32} {f g : Nat → Nat → Int64} {s k : Nat} (e : ∀ s, s < 4 → ∀ k, k < 60 → f s k = g s k) (ew : r = 0 → a = nJ s → w s = w' s) (hs : s < 4) (hk : k < 60) : wrE r a b z w f s k = wrE r a b z w' g s k := by
  unfold wrE
  by_cases q : r = 0 ∧ a = nJ s ∧ b = nJ k
  · rw [if_pos q, if_pos q, ew q.1 q.2.1]
  · rw [if_neg q, if_neg q, e s hs k hk]
theorem wrv_f {f m : Nat → Int32} {s : Nat} (hs : s < 4) (e : wrv f m (nJ s) b = 0) : ¬ f s = 0 := fun q => by
  rw [wrv_6 hs q] at e
  exact absurd e (by decide)
theorem n8_write (I : IVN h) : Sp 100 203 h [.ref 0, .int a, .int b, .long z] (fun h' r => IVh h' ∧ ∃ x : Int32, r = some (.int x) ∧ ((half_write h' x a b ∧ RST h') ∧ ∀ s, s < 4 → ∀ k, k < 60 → clN h' s k = wrE x a b z (rfw h') (rlN h') s k)) := by
  refine Sp_mono ?_ (Sp_an (Sp_an (g8_write (a := a) (b := b) (w := z) (IVN_q I)) (Sp_le (by omega) (tf_all (as := [.ref 0, .int a, .int b, .long z]) q952 (by decide +kernel) I.1 ⟨rfl, aI _, aI _, aL _, trivial⟩))) (Sp_le (by omega) (sp_write8N (d := 0) I.1.1)))
  rintro h' r ⟨⟨⟨q1, x, q2, q3⟩, -, q4⟩, y, q5, q6⟩
  rw [q2] at q5
  cases q5
  refine ⟨q1, x, q2, q3, fun s hs k hk => ?_⟩
  rw [q6 s hs k hk]
  refine wrE_cg (fun s hs k hk => by rw [I.2.2 s hs k hk]; exact (fr_gl q4 (rg_no rfl _)).symm) (fun e0 ea => ?_) hs hk
  have ex := q3.1.2
  rw [e0, ea] at ex
  have nf := wrv_f hs ex.symm
  obtain ⟨r1, r2, -⟩ := rf_fr q4 rfl s
  rw [r1] at nf
  rw [r2]
  exact (SL_cf I.2.1.1.2 s hs).2.1 nf
theorem n9_write (I : IVh h) (J : (half_write h x a b ∧ RST h) ∧ ∀ s, s < 4 → ∀ k, k < 60 → clN h s k = wrE x a b z (rfw h) (rlN h) s k) : Sp 100 380 h [.ref 77, .int a, .int b, .long z] (fun h' r => IVN h' ∧ r = some (.int x)) := by
  refine Sp_mono ?_ (Sp_an (Sp_an (g9_write (w := z) I J.1) (Sp_le (by omega) (tf_all (as := [.ref 77, .int a, .int b, .long z]) q955 (by decide +kernel) I ⟨rfl, aI _, aI _, aL _, trivial⟩))) (Sp_le (by omega) (sp_write9N (d := 0) I.1)))
  rintro h' r ⟨⟨⟨q1, q2⟩, -, q4⟩, y, q5, q6⟩
  rw [q2] at q5
  cases q5
  refine ⟨⟨q1.1, q1.2, fun s hs k hk => ?_⟩, q2⟩
  rw [q6 s hs k hk]
  show clN h' s k = wrE x a b z (rfw h) (rlN h) s k
  rw [← J.2 s hs k hk]
  exact fr_gl q4 (no_long rfl hs)
theorem paE_cg {r i j n : Int32} {f g : Nat → Nat → Int64} {s k : Nat} (e : ∀ s, s < 4 → ∀ k, k < 60 → f s k = g s k) (ok : r = 0 → (0 ≤ a.toInt ∧ a.toInt ≤ 3) ∧ 0 ≤ i.toInt ∧ 0 ≤ n.toInt ∧ i.toInt + n.toInt ≤ 60) (hs : s < 4) (hk : k < 60) : paE r a i b j n f s k = paE r a i b j n g s k := by
  unfold paE
  by_cases q : r = 0 ∧ b = nJ s ∧ j.toInt ≤ (k : Int) ∧ (k : Int) < j.toInt + n.toInt
  · obtain ⟨o1, o2, o3, o4⟩ := ok q.1
    rw [if_pos q, if_pos q, e _ (by omega) _ (by omega)]
  · rw [if_neg q, if_neg q, e s hs k hk]
theorem pav_ok {f w m : Nat → Int32} {i j n : Int32} (hm : ∀ s, s < 4 → (m s).toInt ≤ 60) (q : pav f w m a i b j n = 0) : (0 ≤ a.toInt ∧ a.toInt ≤ 3) ∧ 0 ≤ i.toInt ∧ 0 ≤ n.toInt ∧ i.toInt + n.toInt ≤ 60 := by
  unfold pav at q
  by_cases c1 : (0 ≤ a.toInt ∧ a.toInt ≤ 3) ∧ 0 ≤ b.toInt ∧ b.toInt ≤ 3
  · rw [if_pos c1] at q
    by_cases c2 : f a.toInt.toNat = 0 ∨ f b.toInt.toNat = 0
    · rw [if_pos c2] at q; exact absurd q (by decide)
    · rw [if_neg c2] at q
      by_cases c3 : w a.toInt.toNat = w b.toInt.toNat
      · rw [if_pos c3] at q
        by_cases c4 : (0 ≤ i.toInt ∧ 0 ≤ n.toInt ∧ i.toInt + n.toInt ≤ (m a.toInt.toNat).toInt) ∧ 0 ≤ j.toInt ∧ 0 ≤ n.toInt ∧ j.toInt + n.toInt ≤ (m b.toInt.toNat).toInt
        · have := hm a.toInt.toNat (by omega)
          exact ⟨c1.1, c4.1.1, c4.1.2.1, by have := c4.1.2.2; omega⟩
        · rw [if_neg c4] at q; exact absurd q (by decide)
      · rw [if_neg c3] at q; exact absurd q (by decide)
  · rw [if_neg c1] at q; exact absurd q (by decide)
theorem n8_paste (I : IVN h) : Sp 100 158 h [.ref 0, .int a, .int b, .int c, .int d, .int e] (fun h' r => IVh h' ∧ ∃ x : Int32, r = some (.int x) ∧ ((half_paste h' x a b c d e ∧ RST h') ∧ ∀ s, s < 4 → ∀ k, k < 60 → clN h' s k = paE x a b c d e (rlN h') s k)) := by
  refine Sp_mono ?_ (Sp_an (Sp_an (g8_paste (a := a) (b := b) (c := c) (d := d) (e := e) (IVN_q I)) (Sp_le (by omega) (sp_paste8 (d := 0) (x := a) (i := b) (y := c) (j := d) (n := e) I.1.1))) (Sp_le (by omega) (sp_paste8N (d := 0) I.1.1)))
  rintro h' r ⟨⟨⟨q1, x, q2, q3⟩, -, q4, -⟩, y, q5, q6⟩
  rw [q2] at q5
  cases q5
  refine ⟨q1, x, q2, q3, fun s hs k hk => ?_⟩
  rw [q6 s hs k hk]
  refine paE_cg (fun s hs k hk => by rw [I.2.2 s hs k hk]; exact (fr_gl q4 (rg_no rfl _)).symm) (fun e0 => ?_) hs hk
  have ex := q3.1.2
  rw [e0] at ex
  exact pav_ok (fun s hs => (ld_gi q1.1 (a := 79) (k := s) (bd_u rfl (by omega))).2.2) ex.symm
theorem n9_paste (I : IVh h) (J : (half_paste h x a b c d e ∧ RST h) ∧ ∀ s, s < 4 → ∀ k, k < 60 → clN h s k = paE x a b c d e (rlN h) s k) : Sp 100 323 h [.ref 77, .int a, .int b, .int c, .int d, .int e] (fun h' r => IVN h' ∧ r = some (.int x)) := by
  refine Sp_mono ?_ (Sp_an (Sp_an (g9_paste I J.1) (Sp_le (by omega) (tf_all (as := [.ref 77, .int a, .int b, .int c, .int d, .int e]) q961 (by decide +kernel) I ⟨rfl, aI _, aI _, aI _, aI _, aI _, trivial⟩))) (Sp_le (by omega) (sp_paste9N (d := 0) I.1)))
  rintro h' r ⟨⟨⟨q1, q2⟩, -, q4⟩, y, q5, q6⟩
  rw [q2] at q5
  cases q5
  refine ⟨⟨q1.1, q1.2, fun s hs k hk => ?_⟩, q2⟩
  rw [q6 s hs k hk]
  show clN h' s k = paE x a b c d e (rlN h) s k
  rw [← J.2 s hs k hk]
  exact fr_gl q4 (no_long rfl hs)
end PRN
theorem NU_hp0 : NU hp0 := by
  have t : ∀ s : Fin 4, ∀ k : Fin 60, clN hp0 s.val k.val = rlN hp0 s.val k.val := by decide +kernel
  exact fun s hs k hk => t ⟨s, hs⟩ ⟨k, hk⟩
theorem IVN_hp0 : IVN hp0 := ⟨IVQ_hp0.1, IVQ_hp0.2, NU_hp0⟩
end
section
/-! parked by any law, any set (wants u67b, u69, t34, u72's park) -/
noncomputable def WL (h : pm_H) (l s : Nat) : Nat := wlk l (P9 h) s (W9 h) (N9 h)
noncomputable def ML (h : pm_H) (l s : Nat) : Nat := mss l (P9 h) s (W9 h) (N9 h)
noncomputable def PK9 (h : pm_H) (l s : Nat) (h2 : pm_H) : Prop := HH h2 ∧ gn h2 84 0 = P9 h ∧ gn h2 84 3 = N9 h ∧ gi h2 77 27 = nJ (ML h l s) ∧ (∀ q, q ≤ 9 → gi h2 90 q = pI (hd l (P9 h) s (W9 h) (N9 h) q)) ∧ (∀ i, i < N9 h → gi h2 91 i = pO (spt l (P9 h) s (W9 h) i)) ∧ ∀ i, i < N9 h → gi h2 89 i = nJ (W9 h i)
theorem WL_K {h h' : pm_H} (k : K9 h h') : WL h' = WL h := by funext l s; unfold WL; rw [P9_K k, N9_K k, W9_K k]
theorem ML_K {h h' : pm_H} (k : K9 h h') : ML h' = ML h := by funext l s; unfold ML; rw [P9_K k, N9_K k, W9_K k]
theorem K9_tr {a b c : pm_H} (x : K9 a b) (y : K9 b c) : K9 a c := ⟨fun k => (y.1 k).trans (x.1 k), fun k => (y.2.1 k).trans (x.2.1 k), fun k => (y.2.2.1 k).trans (x.2.2.1 k), fun k => (y.2.2.2 k).trans (x.2.2.2 k)⟩
section BYS
variable {h h2 g : pm_H} {d : Nat}
theorem ML_lt (hh : HH h) (l s : Nat) : ML h l s < 256 := by
  have q := mss_lt (l := l) (p := P9 h) (s := s) (W := W9 h) (N9 h)
  have q8 : 2 ^ N9 h ≤ 256 := Nat.le_trans (Nat.pow_le_pow_right (n := 2) (by omega) (g9s hh).2.2) (by decide)
  show mss _ _ _ _ _ < 256
  omega
theorem WL_le (hh : HH h) (B : B9 h) (l s : Nat) : WL h l s ≤ 64 := by
  have := wlk_le (l := l) (s := s) (W := W9 h) (p := P9 h) (n := N9 h) B
  have : N9 h * P9 h ≤ 8 * 8 := Nat.mul_le_mul (g9s hh).2.2 (g9s hh).2.1
  show wlk _ _ _ _ _ ≤ 64
  omega
theorem PK9_of {l s : Nat} (hh2 : HH h2) (T : LY9 h g) {h3 : pm_H} (hh3 : HH h3) (f : fr_g PKF h2 h3) (e : ∀ a k, a = 84 ∨ a = 89 → gi h2 a k = gi g a k) (t : PKD l (P9 h) s (W9 h) (N9 h) h3) : PK9 h l s h3 := by
  obtain ⟨hg, u0, u3, u9⟩ := T
  have n8 : ∀ i, i < N9 h → i < 8 := fun i hi => by have : gn g 84 3 ≤ 8 := gn_hi hg rfl (by decide); omega
  refine ⟨hh3, ?_, ?_, t.1, t.2.1, t.2.2, fun i hi => ?_⟩
  · rw [fr_gn f (rg_no rfl _), ← u0]; unfold gn; rw [e _ _ (.inl rfl)]
  · rw [fr_gn f (rg_no rfl _), ← u3]; unfold gn; rw [e _ _ (.inl rfl)]
  · rw [fr_gi f (rg_no rfl _), e _ _ (.inr rfl), ← u9 i hi]; exact gi_gn hg (q := (0, 8)) (bd_u rfl (n8 i hi)) (by decide)
theorem sp_stepsOfP {l s i : Nat} (hh : HH h) (B : B9 h) (T : PK9 h l s h2) (hi : i < N9 h) (z : ¬ spt l (P9 h) s (W9 h) i = 0) : Sp (d + 2) 353 h2 [.ref 77, .int (nJ i)] (fun h' r => h' = h2 ∧ r = some (.int (nJ (dst (spt l (P9 h) s (W9 h) i) (W9 h i))))) := by
  obtain ⟨hh2, u0, u3, t1, t2, t3, t4⟩ := T
  obtain ⟨-, p8, n8⟩ := g9s hh
  have s8 : spt l (P9 h) s (W9 h) i ≤ P9 h := by rcases spt_ok (l := l) (s := s) (W := W9 h) (B i hi).1 (B i hi).2 with e | ⟨_, e, _⟩ <;> omega
  have w8 := (B i hi).2
  refine Sp_of aiX9_stepsOf rfl rfl rfl ?_
  have L0 : pm_get (lv_args 0 [.ref 77, .int (nJ i)]) 0 = some (.ref 77) := rfl
  have L1 : pm_get (lv_args 0 [.ref 77, .int (nJ i)]) 1 = some (.int (nJ i)) := rfl
  generalize lv_args 0 [.ref 77, .int (nJ i)] = lv at L0 L1 ⊢
  refine E_al rfl L0 ?_
  refine E_gr rfl hh2 (q := 91) rfl ?_
  refine E_il rfl L1 ?_
  refine E_ial rfl hh2 rfl (by omega) (by decide) (show gi h2 91 i = nJ (spt l (P9 h) s (W9 h) i) from by rw [t3 i hi]; unfold pO; rw [if_neg z]) ?_
  refine E_al rfl L0 ?_
  refine E_gr rfl hh2 (q := 89) rfl ?_
  refine E_il rfl L1 ?_
  refine E_ial rfl hh2 rfl (by omega) (by decide) (t4 i hi) ?_
  refine E_call rfl (sp_far0 (d := d) (by omega) (by omega)) (chkS rfl (by show 0 ≤ 8; decide)) (fun h3 r3 => ?_)
  rintro ⟨e3, f3⟩
  rw [e3, f3]
  exact E_rti rfl ⟨rfl, rfl⟩
theorem snP_loop {l s : Nat} (hh : HH h) (B : B9 h) (T : PK9 h l s h2) (j : Nat) : ∀ {c : Nat} (lv : List (Nat × Value)), c + j = N9 h → pm_get lv 0 = some (.ref 77) → pm_get lv 1 = some (.int (nJ (wlk l (P9 h) s (W9 h) c))) → pm_get lv 2 = some (.int (nJ c)) → Ends (pm_at tX9_sumNow) (pm_Rt pm_P (d + 2)) (4, lv, [], h2, 0, 0) (fun h' r => h' = h2 ∧ r = some (.int (nJ (WL h l s)))) := by
  have T0 := T
  obtain ⟨hh2, u0, u3, t1, t2, t3, t4⟩ := T
  obtain ⟨l3, p8, n8⟩ := g9s hh
  induction j with
  | zero =>
    intro c lv hj L0 L1 L2
    refine E_il rfl L2 ?_
    refine E_al rfl L0 ?_
    refine E_call rfl (Sp_le (by omega) (sp_cars (d := d) hh2)) (chk77 hh2 rfl rfl (by show 1 ≤ 8; decide)) (fun h1 r1 => ?_)
    rintro ⟨e1, f1, -⟩
    rw [e1, f1, u3]
    refine E_icT rfl (decide_eq_true ((nJ_le (by omega) (by omega)).mpr (by omega))) ?_
    refine E_il rfl L1 ?_
    have e : c = N9 h := by omega
    exact E_rti rfl ⟨rfl, by rw [e]; rfl⟩
  | succ j ih =>
    intro c lv hj L0 L1 L2
    refine E_il rfl L2 ?_
    refine E_al rfl L0 ?_
    refine E_call rfl (Sp_le (by omega) (sp_cars (d := d) hh2)) (chk77 hh2 rfl rfl (by show 1 ≤ 8; decide)) (fun h1 r1 => ?_)
    rintro ⟨e1, f1, -⟩
    rw [e1, f1, u3]
    refine E_icF rfl (decide_eq_false (fun z => absurd ((nJ_le (by omega) (by omega)).mp z) (by omega))) ?_
    have hc : c < N9 h := by omega
    have s8 : spt l (P9 h) s (W9 h) c ≤ P9 h := by rcases spt_ok (l := l) (s := s) (W := W9 h) (B c hc).1 (B c hc).2 with e | ⟨_, e, _⟩ <;> omega
    refine E_il rfl L1 ?_
    refine E_al rfl L0 ?_
    refine E_gr rfl hh2 (q := 91) rfl ?_
    refine E_il rfl L2 ?_
    refine E_ial rfl hh2 rfl (by omega) (by decide) (t3 c hc) ?_
    refine E_c rfl ?_
    have es : wlk l (P9 h) s (W9 h) (c + 1) = wlk l (P9 h) s (W9 h) c + (if spt l (P9 h) s (W9 h) c = 0 then 0 else dst (spt l (P9 h) s (W9 h) c) (W9 h c)) := rfl
    have nx : Ends (pm_at tX9_sumNow) (pm_Rt pm_P (d + 2)) (32, lv, [.int (nJ (if spt l (P9 h) s (W9 h) c = 0 then 0 else dst (spt l (P9 h) s (W9 h) c) (W9 h c))), .int (nJ (wlk l (P9 h) s (W9 h) c))], h2, 0, 0) (fun h' r => h' = h2 ∧ r = some (.int (nJ (WL h l s)))) := by
      refine E_bin rfl (nJ_add _ _) ?_
      refine E_is rfl (fun lv1 K1 kp => ?_)
      refine E_inc rfl (kp 2 _ (by decide) rfl L2) (nJ_inc _) (fun lv2 K2 kp2 => ?_)
      refine E_goto rfl ?_
      exact ih (c := c + 1) lv2 (by omega) (kp2 0 _ (by decide) rfl (kp 0 _ (by decide) rfl L0)) (by rw [es]; exact kp2 1 _ (by decide) rfl K1) K2
    by_cases z : spt l (P9 h) s (W9 h) c = 0
    · refine E_icF rfl (decide_eq_false (fun q => q ((pO_n1 (by omega)).mpr z))) ?_
      refine E_ci 0 rfl (by decide) ?_
      refine E_goto rfl ?_
      rw [if_pos z] at nx
      exact nx
    · refine E_icT rfl (decide_eq_true (fun q => z ((pO_n1 (by omega)).mp q))) ?_
      refine E_al rfl L0 ?_
      refine E_il rfl L2 ?_
      refine E_call rfl (sp_stepsOfP (d := d) hh B T0 hc z) (chk77 hh2 rfl rfl (by show 1 ≤ 8; decide)) (fun h3 r3 => ?_)
      rintro ⟨e3, f3⟩
      rw [e3, f3]
      rw [if_neg z] at nx
      exact nx
theorem sp_sumNowP {l s : Nat} (hh : HH h) (B : B9 h) (T : PK9 h l s h2) : Sp (d + 3) 356 h2 [.ref 77] (fun h' r => h' = h2 ∧ r = some (.int (nJ (WL h l s)))) := by
  refine Sp_of aiX9_sumNow rfl rfl rfl ?_
  have L0 : pm_get (lv_args 0 [.ref 77]) 0 = some (.ref 77) := rfl
  generalize lv_args 0 [.ref 77] = lv at L0 ⊢
  refine E_ci 0 rfl (by decide) ?_
  refine E_is rfl (fun lv1 K1 kp => ?_)
  refine E_ci 0 rfl (by decide) ?_
  refine E_is rfl (fun lv2 K2 kp2 => ?_)
  exact snP_loop hh B T (N9 h) (c := 0) lv2 (by omega) (kp2 0 _ (by decide) rfl (kp 0 _ (by decide) rfl L0)) (kp2 1 _ (by decide) rfl K1) K2
theorem wbX (T : LY9 h g) (B : B9 h) : ∀ c, c < gn g 84 3 → 1 ≤ gn g 89 c ∧ gn g 89 c ≤ gn g 84 0 := fun c hc => by
  obtain ⟨-, u0, u3, u9⟩ := T
  rw [u3] at hc
  rw [u9 c hc, u0]
  exact B c hc
theorem sp_parksByX {l : Nat} (hh : HH h) (hg : HH g) (k : K9 h g) (V : V9 h) (B : B9 h) (l3 : l ≤ 3) : Sp (d + 5) 321 g [.ref 77, .int (nJ l)] (fun h' r => r = none ∧ K9 h h' ∧ PK9 h l (2 ^ N9 h - 1) h') := by
  obtain ⟨-, p8, n8⟩ := g9s hh
  refine Sp_of aiX9_parksBy rfl rfl rfl ?_
  have L0 : pm_get (lv_args 0 [.ref 77, .int (nJ l)]) 0 = some (.ref 77) := rfl
  have L1 : pm_get (lv_args 0 [.ref 77, .int (nJ l)]) 1 = some (.int (nJ l)) := rfl
  generalize lv_args 0 [.ref 77, .int (nJ l)] = lv at L0 L1 ⊢
  refine E_al rfl L0 ?_
  refine E_call rfl (Sp_le (by omega) (sp_laysX (d := d) hg (V9_K k V))) (chk77 hg rfl rfl (by show 0 ≤ 8; decide)) (fun h2 r2 => ?_)
  rintro ⟨e2, hh2, f2, -, q23, w2⟩
  rw [e2]
  have T := LY9_of k hh2 f2 w2
  rw [show gn g 84 3 = N9 h from N9_K k] at q23
  refine E_al rfl L0 ?_
  refine E_il rfl L1 ?_
  refine E_call rfl (sp_parksX (d := d) (l := l) (s := 2 ^ N9 h - 1) hh2 l3 (all_lt n8) q23 (wbX T B)) (chk77 hh2 rfl rfl (by show 0 ≤ 8; decide)) (fun h3 r3 => ?_)
  rintro ⟨e3, hh3, f3, t3⟩
  rw [e3]
  rw [T.2.1, T.2.2.1] at t3
  refine E_ret rfl ⟨rfl, K9_tr k (K9_tr (K9_fr f2 rfl rfl rfl rfl) (K9_fr f3 rfl rfl rfl rfl)), PK9_of (g := h2) (h2 := h2) hh2 T hh3 f3 (fun _ _ _ => rfl) (PKD_W T.2.2.2 t3)⟩
end BYS
end
section
/-! by of both (written by gen_u76.py; wants u75) -/
section PKB
variable {h h2 : pm_H} {d : Nat}
/-- the class parks by a law, the wishes of a row -/
theorem sp_park8B {A l : Nat} {hi : Int} (hA : hs0[A]? = some (.inl (0, 8, [(0, hi)]))) (A2 : A ≠ 62 ∧ A ≠ 63) (hh : HH h) (l3 : l ≤ 3) (V : ∀ c, c < gn h 15 4 → 1 ≤ gn h A c ∧ gn h A c ≤ gn h 15 0) : Sp (d + 5) 153 h [.ref 0, .ref A, .int (nJ l)] (fun h' r => r = none ∧ HH h' ∧ fr_g FL h h' ∧ LTP l (gn h 15 0) (2 ^ gn h 15 4 - 1) (gn h A) (gn h 15 4) h') := by
  obtain ⟨a1, a2, a3, a4, -⟩ := g15 hh
  refine Sp_of aiX8_park rfl rfl rfl ?_
  have L0 : pm_get (lv_args 0 [.ref 0, .ref A, .int (nJ l)]) 0 = some (.ref 0) := rfl
  have L1 : pm_get (lv_args 0 [.ref 0, .ref A, .int (nJ l)]) 1 = some (.ref A) := rfl
  have L2 : pm_get (lv_args 0 [.ref 0, .ref A, .int (nJ l)]) 2 = some (.int (nJ l)) := rfl
  generalize lv_args 0 [.ref 0, .ref A, .int (nJ l)] = lv at L0 L1 L2 ⊢
  refine E_al rfl L0 ?_
  refine E_ogr (q := 62) rfl hh rfl rfl ?_
  refine E_al rfl L1 ?_
  refine E_al rfl L0 ?_
  refine E_ogr (q := 15) rfl hh rfl rfl ?_
  refine E_ogf (q := (0, 8)) rfl hh rfl rfl a3 ?_
  refine E_al rfl L0 ?_
  refine E_call rfl (Sp_le (by omega) (sp_everyCar (d := d) hh)) (chkO (a := 0) hh rfl rfl rfl rfl (by show 3 ≤ 8; decide)) (fun h1 r1 => ?_)
  rintro ⟨e1, f1⟩
  rw [e1, f1]
  refine E_al rfl L0 ?_
  refine E_ogr (q := 15) rfl hh rfl rfl ?_
  refine E_ogf (q := (0, 8)) rfl hh rfl rfl a1 ?_
  refine E_il rfl L2 ?_
  refine E_call rfl (sp_fill (d := d) hA A2 hh l3 (by omega) (all_lt a4) a4 V) (chkO (a := 62) hh rfl rfl rfl rfl (by show 0 ≤ 8; decide)) (fun h2 r2 => ?_)
  rintro ⟨e2, hh2, f2, t2⟩
  rw [e2]
  exact E_ret rfl ⟨rfl, hh2, f2, t2⟩
theorem sp_parkNow {l : Nat} (hh : HH h) (hh2 : HH h2) (f : fr_g FL h h2) (R : QRE h) (l3 : l ≤ 3) : Sp (d + 5) 153 h2 [.ref 0, .ref 17, .int (nJ l)] (fun h' r => r = none ∧ HH h' ∧ fr_g FL h h' ∧ gi h' 62 2 = nJ (ML h l (2 ^ N9 h - 1)) ∧ gi h' 62 3 = nJ (WL h l (2 ^ N9 h - 1))) := by
  have s := R.2.1.1
  have k : ∀ j, gn h2 15 j = gn h 15 j := fun j => fr_gn f (rg_no rfl _)
  have k7 : gn h2 17 = gn h 17 := funext fun j => fr_gn f (rg_no rfl _)
  have e4 : gn h2 15 4 = N9 h := (k 4).trans (gn_eq s.2.2.1)
  have e0 : gn h2 15 0 = P9 h := (k 0).trans (gn_eq (s.2.1 0 (by omega)))
  have B := B9_of R
  have ne : ∀ c, c < N9 h → gn h 17 c = W9 h c := fun c hc => (now_eq R c hc).1
  refine Sp_mono ?_ (sp_park8B (d := d) (A := 17) (hi := 8) rfl (by decide) hh2 l3 (fun c hc => by rw [e4] at hc; rw [k7, ne c hc, e0]; exact B c hc))
  rintro h' r ⟨e, a1, a2, a3⟩
  rw [e4, e0, k7] at a3
  obtain ⟨-, t2, t3, -⟩ := a3
  refine ⟨e, a1, fr_trans f a2, ?_, ?_⟩
  · rw [t2, mss_W (W' := W9 h) ne]; rfl
  · rw [t3, wlk_W (W' := W9 h) ne]; rfl
end PKB
noncomputable def byq (h : pm_H) (x : Int32) : Int32 := if 0 < (gi h 83 0).toInt ∧ 0 ≤ x.toInt ∧ x.toInt ≤ 3 then nJ (WL h x.toInt.toNat (2 ^ N9 h - 1)) else -2
section BYQ
variable {h : pm_H} {d : Nat} {x : Int32}
theorem sp_by8 (hh : HH h) (R : QRE h) : Sp (d + 6) 88 h [.ref 0, .int x] (fun h' r => K9 h h' ∧ r = some (.int (byq h x))) := by
  refine Sp_of aiX8_by rfl rfl rfl ?_
  have L0 : pm_get (lv_args 0 [.ref 0, .int x]) 0 = some (.ref 0) := rfl
  have L1 : pm_get (lv_args 0 [.ref 0, .int x]) 1 = some (.int x) := rfl
  generalize lv_args 0 [.ref 0, .int x] = lv at L0 L1 ⊢
  have k0 : K9 h h := ⟨fun _ => rfl, fun _ => rfl, fun _ => rfl, fun _ => rfl⟩
  obtain ⟨l3, p8, n8⟩ := g9s hh
  have z0 : (0 : Int32).toInt = 0 := rfl
  have no : ¬ (0 < (gi h 83 0).toInt ∧ 0 ≤ x.toInt ∧ x.toInt ≤ 3) → Ends (pm_at tX8_by) (pm_Rt pm_P (d + 5)) (16, lv, [], h, 0, 0) (fun h' r => K9 h h' ∧ r = some (.int (byq h x))) := by
    intro q
    refine E_c rfl ?_
    exact E_rti rfl ⟨k0, by unfold byq; rw [if_neg q]⟩
  refine E_al rfl L0 ?_
  refine E_call rfl (Sp_le (by omega) (sp_hasStreet8 (d := d) hh)) (chkO (a := 0) hh rfl rfl rfl rfl (by show 0 ≤ 8; decide)) (fun h1 r1 => ?_)
  rintro ⟨e1, f1⟩
  rw [e1, f1]
  by_cases b : 0 < gn h 15 0
  · refine E_ifF rfl (by rw [zb_T b]; rfl) ?_
    refine E_il rfl L1 ?_
    by_cases c1 : 0 ≤ x.toInt
    · refine E_ifF rfl (decide_eq_false (fun q => by have := Int32.lt_iff_toInt_lt.mp q; omega)) ?_
      refine E_il rfl L1 ?_
      refine E_ci 4 rfl (by decide) ?_
      have z4 := nJ_toInt (n := 4) (by omega)
      by_cases c2 : x.toInt ≤ 3
      · refine E_icT rfl (decide_eq_true (Int32.lt_iff_toInt_lt.mpr (by omega))) ?_
        rw [show byq h x = nJ (WL h x.toInt.toNat (2 ^ N9 h - 1)) from if_pos ⟨(st_eq R).mp b, c1, c2⟩]
        obtain ⟨l, hl, rfl⟩ : ∃ c, c ≤ 3 ∧ x = nJ c := ⟨x.toInt.toNat, by omega, nJ_of c1⟩
        rw [show (nJ l).toInt.toNat = l by have := nJ_toInt (n := l) (by omega); omega]
        refine E_al rfl L0 ?_
        refine E_al rfl L0 ?_
        refine E_ogr (q := 15) rfl hh rfl rfl ?_
        refine E_ogr (q := 17) rfl hh rfl rfl ?_
        refine E_il rfl L1 ?_
        refine E_call rfl (sp_parkNow (d := d) hh hh (fr_rf _ _) R hl) (chkO (a := 0) hh rfl rfl rfl rfl (by show 0 ≤ 8; decide)) (fun h2 r2 => ?_)
        rintro ⟨e2, hh2, f2, -, t3⟩
        rw [e2]
        refine E_al rfl L0 ?_
        refine E_ogr (q := 62) rfl hh2 rfl rfl ?_
        refine E_ogf (q := (-2147483648, 2147483647)) rfl hh2 rfl rfl t3 ?_
        exact E_rti rfl ⟨K9_fr f2 rfl rfl rfl rfl, rfl⟩
      · refine E_icF rfl (decide_eq_false (fun q => c2 (by have := Int32.lt_iff_toInt_lt.mp q; omega))) ?_
        exact no (fun q => c2 q.2.2)
    · refine E_ifT rfl (decide_eq_true (Int32.lt_iff_toInt_lt.mpr (by omega))) ?_
      exact no (fun q => c1 q.2.1)
  · refine E_ifT rfl (by rw [zb_F b]; rfl) ?_
    exact no (fun q => b ((st_eq R).mpr q.1))
theorem sp_by9 (hh : HH h) (V : V9 h) (B : B9 h) : Sp (d + 7) 221 h [.ref 77, .int x] (fun h' r => r = some (.int (byq h x))) := by
  obtain ⟨l3, p8, n8⟩ := g9s hh
  refine Sp_of aiX9_by rfl rfl rfl ?_
  have L0 : pm_get (lv_args 0 [.ref 77, .int x]) 0 = some (.ref 77) := rfl
  have L1 : pm_get (lv_args 0 [.ref 77, .int x]) 1 = some (.int x) := rfl
  generalize lv_args 0 [.ref 77, .int x] = lv at L0 L1 ⊢
  refine E_al rfl L0 ?_
  refine E_ci 0 rfl (by decide) ?_
  refine E_pf rfl hh rfl ?_
  have hg : HH (pt h 77 0 (nJ 0)) := HH_ptn hh rfl (by omega) (by omega) (by omega)
  have k : K9 h (pt h 77 0 (nJ 0)) := K9_77
  generalize pt h 77 0 (nJ 0) = g at hg k ⊢
  have no : ¬ (0 < (gi h 83 0).toInt ∧ 0 ≤ x.toInt ∧ x.toInt ≤ 3) → Ends (pm_at tX9_by) (pm_Rt pm_P (d + 6)) (24, lv, [], g, 0, 0) (fun h' r => r = some (.int (byq h x))) := by
    intro q
    refine E_c rfl ?_
    exact E_rti rfl (by unfold byq; rw [if_neg q])
  refine E_al rfl L0 ?_
  refine E_call rfl (Sp_le (by omega) (sp_isStreet (d := d) hg)) (chk77 hg rfl rfl (by show 0 ≤ 8; decide)) (fun h1 r1 => ?_)
  rintro ⟨e1, f1⟩
  rw [e1, f1, k.2.2.2]
  by_cases b : 0 < (gi h 83 0).toInt
  · refine E_ifF rfl (by rw [zb_T b]; rfl) ?_
    refine E_il rfl L1 ?_
    refine E_i2l rfl ?_
    refine E_c rfl ?_
    refine E_c rfl ?_
    refine E_call rfl (Sp_le (by omega) (sp_in (d := d) (i2l_toInt x) (b := 0) rfl (c := 3) rfl)) (chkS rfl (by show 0 ≤ 8; decide)) (fun h3 r3 => ?_)
    rintro ⟨e3, f3⟩
    rw [e3, f3]
    show Ends _ _ (21, lv, [.int (zb (0 ≤ x.toInt ∧ x.toInt ≤ 3))], g, 0, 0) _
    by_cases c1 : 0 ≤ x.toInt ∧ x.toInt ≤ 3
    · refine E_ifT rfl (by rw [zb_T c1]; rfl) ?_
      rw [show byq h x = nJ (WL h x.toInt.toNat (2 ^ N9 h - 1)) from if_pos ⟨b, c1⟩]
      obtain ⟨l, hl, rfl⟩ : ∃ c, c ≤ 3 ∧ x = nJ c := ⟨x.toInt.toNat, by omega, nJ_of c1.1⟩
      rw [show (nJ l).toInt.toNat = l by have := nJ_toInt (n := l) (by omega); omega]
      refine E_al rfl L0 ?_
      refine E_il rfl L1 ?_
      refine E_call rfl (Sp_le (by omega) (sp_parksByX (d := d) hh hg k V B hl)) (chk77 hg rfl rfl (by show 0 ≤ 8; decide)) (fun h4 r4 => ?_)
      rintro ⟨e4, k4, T⟩
      rw [e4]
      refine E_al rfl L0 ?_
      refine E_call rfl (Sp_le (by omega) (sp_sumNowP (d := d) hh B T)) (chk77 T.1 rfl rfl (by show 0 ≤ 8; decide)) (fun h5 r5 => ?_)
      rintro ⟨e5, f5⟩
      rw [e5, f5]
      exact E_rti rfl rfl
    · refine E_ifF rfl (by rw [zb_F c1]; rfl) ?_
      exact no (fun q => c1 q.2)
  · refine E_ifT rfl (by rw [zb_F b]; rfl) ?_
    exact no (fun q => b q.1)
end BYQ
theorem byq_K {h h' : pm_H} {x : Int32} (k : K9 h h') : byq h' x = byq h x := by unfold byq; rw [k.2.2.2, WL_K k, N9_K k]
noncomputable def half_by (h : pm_H) (r x : Int32) : Prop := QRE h ∧ r = byq h x
theorem g8_by {h : pm_H} {x : Int32} (I : IVQ h) : Sp 100 88 h [.ref 0, .int x] (fun h' v => IVh h' ∧ ∃ r : Int32, v = some (.int r) ∧ half_by h' r x) := by
  refine Sp_le (by omega) (Sp_mono ?_ (Sp_and (top_all (as := [.ref 0, .int x]) q670 (by decide +kernel) I.1 ⟨rfl, aI _, trivial⟩) (sp_by8 (d := 0) I.1.1 I.2)))
  rintro h' v ⟨⟨s1, s2, -⟩, k, rfl⟩
  exact ⟨s1, _, rfl, QRE_fr s2 rfl I.2, by rw [byq_K k]⟩
theorem g9_by {h : pm_H} {r x : Int32} (I : IVh h) (J : half_by h r x) : Sp 100 221 h [.ref 77, .int x] (fun h' v => IVQ h' ∧ v = some (.int r)) := by
  obtain ⟨J1, rfl⟩ := J
  refine Sp_le (by omega) (Sp_mono ?_ (Sp_and (top_all (as := [.ref 77, .int x]) q671 (by decide +kernel) I ⟨rfl, aI _, trivial⟩) (sp_by9 (d := 0) I.1 (V9_of J1) (B9_of J1))))
  rintro h' v ⟨⟨s1, s2, -⟩, rfl⟩
  exact ⟨⟨s1, QRE_fr s2 rfl J1⟩, rfl⟩
end
section
/-! SEEN: why a slot's row is none, whether it is as it tells: both, as they answer (wants u113, t29, t33c, t37) -/
noncomputable def okB (C P : Nat) (N : Nat → Int64) (k : Nat) : Bool := decide ((0 ≤ (N (2 * k)).toInt ∧ (N (2 * k)).toInt < (C : Int)) ∧ 0 ≤ (N (2 * k + 1)).toInt ∧ (N (2 * k + 1)).toInt ≤ (P : Int))
noncomputable def allB (p : Nat → Bool) : Nat → Bool
  | 0 => true
  | k + 1 => allB p k && p k
theorem allB_at {p : Nat → Bool} : ∀ {n : Nat}, allB p n = true → ∀ k, k < n → p k = true
  | 0, _, k, h => absurd h (Nat.not_lt_zero k)
  | n + 1, q, k, h => by
    have q : (allB p n && p n) = true := q
    rw [Bool.and_eq_true] at q
    by_cases e : k = n
    · rw [e]; exact q.2
    · exact allB_at q.1 k (by omega)
theorem allB_of {p : Nat → Bool} : ∀ {n : Nat}, (∀ k, k < n → p k = true) → allB p n = true
  | 0, _ => rfl
  | n + 1, q => by
    show (allB p n && p n) = true
    rw [allB_of (fun k hk => q k (by omega)), q n (by omega)]; rfl
theorem allB_cg {p q : Nat → Bool} : ∀ {n : Nat}, (∀ k, k < n → p k = q k) → allB p n = allB q n
  | 0, _ => rfl
  | n + 1, e => by
    show (allB p n && p n) = (allB q n && q n)
    rw [allB_cg (fun k hk => e k (by omega)), e n (by omega)]
theorem allB_no {p : Nat → Bool} {n k : Nat} (h : k < n) (q : p k = false) : ¬ allB p n = true := fun a => by
  rw [allB_at a k h] at q; cases q
noncomputable def sgv (f : Nat → Int32) (m : Nat → Nat) (N : Nat → Nat → Int64) (C P : Nat) (is : Bool) (x : Int32) : Int32 := if 0 ≤ x.toInt ∧ x.toInt ≤ 3 then (if is = true then (if f x.toInt.toNat = 0 then -6 else if m x.toInt.toNat % 2 = 0 then (if allB (okB C P (N x.toInt.toNat)) (m x.toInt.toNat / 2) = true then 0 else -2) else -2) else -2) else -2
theorem sgv_in {f : Nat → Int32} {m : Nat → Nat} {N : Nat → Nat → Int64} {C P s : Nat} {is : Bool} (hs : s < 4) : sgv f m N C P is (nJ s) = if is = true then (if f s = 0 then -6 else if m s % 2 = 0 then (if allB (okB C P (N s)) (m s / 2) = true then 0 else -2) else -2) else -2 := by
  unfold sgv
  rw [if_pos (nJ_sl hs), nJ_nat hs]
theorem sgv_no {f : Nat → Int32} {m : Nat → Nat} {N : Nat → Nat → Int64} {C P : Nat} {is : Bool} {x : Int32} (q : ¬ (0 ≤ x.toInt ∧ x.toInt ≤ 3)) : sgv f m N C P is x = -2 := if_neg q
/-- a slot's row as it may be read -/
noncomputable def GOOD (f : Nat → Int32) (m : Nat → Nat) (N : Nat → Nat → Int64) (C P s : Nat) : Prop := ¬ f s = 0 ∧ m s % 2 = 0 ∧ allB (okB C P (N s)) (m s / 2) = true
theorem sgv_0 {f : Nat → Int32} {m : Nat → Nat} {N : Nat → Nat → Int64} {C P : Nat} {is : Bool} {x : Int32} (e : sgv f m N C P is x = 0) : is = true ∧ ∃ s, s < 4 ∧ x = nJ s ∧ GOOD f m N C P s := by
  by_cases q : 0 ≤ x.toInt ∧ x.toInt ≤ 3
  · obtain ⟨s, hs, rfl⟩ : ∃ s, s < 4 ∧ x = nJ s := ⟨x.toInt.toNat, by omega, nJ_of q.1⟩
    rw [sgv_in hs] at e
    by_cases q1 : is = true
    · rw [if_pos q1] at e
      by_cases q2 : f s = 0
      · rw [if_pos q2] at e; exact absurd e (by decide)
      · rw [if_neg q2] at e
        by_cases q3 : m s % 2 = 0
        · rw [if_pos q3] at e
          by_cases q4 : allB (okB C P (N s)) (m s / 2) = true
          · exact ⟨q1, s, hs, rfl, q2, q3, q4⟩
          · rw [if_neg q4] at e; exact absurd e (by decide)
        · rw [if_neg q3] at e; exact absurd e (by decide)
    · rw [if_neg q1] at e; exact absurd e (by decide)
  · rw [sgv_no q] at e; exact absurd e (by decide)
theorem sgv_cg {f f' : Nat → Int32} {m m' : Nat → Nat} {N N' : Nat → Nat → Int64} {C P : Nat} {is : Bool} {x : Int32} (e1 : ∀ s, s < 4 → f s = f' s) (e2 : ∀ s, s < 4 → m s = m' s) (b : ∀ s, s < 4 → m' s ≤ 60) (e3 : ∀ s, s < 4 → ∀ k, k < 60 → N s k = N' s k) : sgv f m N C P is x = sgv f' m' N' C P is x := by
  by_cases q : 0 ≤ x.toInt ∧ x.toInt ≤ 3
  · obtain ⟨s, hs, rfl⟩ : ∃ s, s < 4 ∧ x = nJ s := ⟨x.toInt.toNat, by omega, nJ_of q.1⟩
    have := b s hs
    rw [sgv_in hs, sgv_in hs, e1 s hs, e2 s hs, allB_cg (p := okB C P (N s)) (q := okB C P (N' s)) (fun k hk => by unfold okB; rw [e3 s hs _ (by omega), e3 s hs _ (by omega)])]
  · rw [sgv_no q, sgv_no q]
noncomputable def mC (h : pm_H) (s : Nat) : Nat := gn h (54 + 2 * s) 3
noncomputable def mR (h : pm_H) (s : Nat) : Nat := gn h 79 s
section SGH
variable {h : pm_H} {d : Nat} {x : Int32}
theorem mC_b (hh : HH h) {s : Nat} (hs : s < 4) : mC h s ≤ 60 := gn_hi hh (isS_at s hs).2.2.2.2.2 (by decide)
theorem mR_b (hh : HH h) {s : Nat} (hs : s < 4) : mR h s ≤ 60 := gn_hi hh (bd_u rfl (by omega)) (by decide)
theorem lt_zero (y : Int64) : lg_cmp y 0 < 0 ↔ y.toInt < 0 := by
  rw [lg_cmp_lt, Int64.lt_iff_toInt_lt]
  have z0 : (0 : Int64).toInt = 0 := rfl
  rw [z0]
theorem ge_nJ {c : Nat} (y : Int64) (hc : c < 1000) : 0 ≤ lg_cmp y (nJ c).toInt64 ↔ (c : Int) ≤ y.toInt := by
  rw [lg_cmp_ge, Int64.le_iff_toInt_le, i2l_nJ (by omega)]
theorem gt_nJ {c : Nat} (y : Int64) (hc : c < 1000) : 0 < lg_cmp y (nJ c).toInt64 ↔ (c : Int) < y.toInt := by
  rw [lg_cmp_gt, Int64.lt_iff_toInt_lt, i2l_nJ (by omega)]
theorem eq_nJ {c : Nat} (y : Int64) (hc : c < 1000) : lg_cmp (nJ c).toInt64 y = 0 ↔ (c : Int) = y.toInt := by
  rw [lg_cmp_eq, ← Int64.toInt_inj, i2l_nJ (by omega)]
noncomputable def b1N (b : Bool) : Nat := bif b then 1 else 0
theorem sgX_loop {s : Nat} (hh : HH h) (hs : s < 4) (ev : mC h s % 2 = 0) (j : Nat) : ∀ {k : Nat} (lv : List (Nat × Value)), mC h s ≤ 2 * k + j → k ≤ mC h s / 2 → (∀ q, q < k → okB (gn h 15 4) (gn h 15 0) (clN h s) q = true) → pm_get lv 0 = some (.ref 0) → pm_get lv 3 = some (.ref (54 + 2 * s)) → pm_get lv 4 = some (.int (nJ (2 * k))) → Ends (pm_at tX8_sightRefusal) (pm_Rt pm_P d) (46, lv, [], h, 0, 0) (fun h' r => h' = h ∧ r = some (.int (if allB (okB (gn h 15 4) (gn h 15 0) (clN h s)) (mC h s / 2) = true then 0 else -2))) := by
  obtain ⟨S1, S2, S3, S4, S5, S6⟩ := isS_at s hs
  have hn := mC_b hh hs
  obtain ⟨a1, a2, a3, a4, -⟩ := g15 hh
  have g3 : gi h (54 + 2 * s) 3 = nJ (mC h s) := gi_gn hh S6 (by decide)
  have yes : ∀ {k : Nat} (lv : List (Nat × Value)), k = mC h s / 2 → (∀ q, q < k → okB (gn h 15 4) (gn h 15 0) (clN h s) q = true) → Ends (pm_at tX8_sightRefusal) (pm_Rt pm_P d) (156, lv, [], h, 0, 0) (fun h' r => h' = h ∧ r = some (.int (if allB (okB (gn h 15 4) (gn h 15 0) (clN h s)) (mC h s / 2) = true then 0 else -2))) := by
    intro k lv hk hi
    refine E_ci 0 rfl (by decide) ?_
    exact E_rti rfl ⟨rfl, by rw [if_pos (by rw [← hk]; exact allB_of hi)]; rfl⟩
  induction j with
  | zero =>
    intro k lv hj hk hi L0 L3 L4
    refine E_il rfl L4 ?_
    refine E_ci 1 rfl (by decide) ?_
    refine E_bin rfl (nJ_add _ _) ?_
    refine E_al rfl L3 ?_
    refine E_ogf rfl hh S1 S6 g3 ?_
    refine E_icT rfl (decide_eq_true ((nJ_le (by omega) (by omega)).mpr (by omega))) ?_
    exact yes lv (by omega) hi
  | succ j ih =>
    intro k lv hj hk hi L0 L3 L4
    refine E_il rfl L4 ?_
    refine E_ci 1 rfl (by decide) ?_
    refine E_bin rfl (nJ_add _ _) ?_
    refine E_al rfl L3 ?_
    refine E_ogf rfl hh S1 S6 g3 ?_
    by_cases b0 : mC h s ≤ 2 * k + 1
    · refine E_icT rfl (decide_eq_true ((nJ_le (by omega) (by omega)).mpr b0)) ?_
      exact yes lv (by omega) hi
    refine E_icF rfl (decide_eq_false (fun q => b0 ((nJ_le (by omega) (by omega)).mp q))) ?_
    have k60 : 2 * k + 1 < 60 := by omega
    -- both told, k's pair is good or not
    have c135 : ∀ (lv : List (Nat × Value)) (b1 b2 : Bool), okB (gn h 15 4) (gn h 15 0) (clN h s) k = (b1 && b2) → pm_get lv 0 = some (.ref 0) → pm_get lv 3 = some (.ref (54 + 2 * s)) → pm_get lv 4 = some (.int (nJ (2 * k))) → pm_get lv 5 = some (.int (nJ (b1N b1))) → Ends (pm_at tX8_sightRefusal) (pm_Rt pm_P d) (135, lv, [.int (nJ (b1N b2))], h, 0, 0) (fun h' r => h' = h ∧ r = some (.int (if allB (okB (gn h 15 4) (gn h 15 0) (clN h s)) (mC h s / 2) = true then 0 else -2))) := by
      intro lv b1 b2 e M0 M3 M4 M5
      have no : ∀ lv : List (Nat × Value), (b1 && b2) = false → Ends (pm_at tX8_sightRefusal) (pm_Rt pm_P d) (147, lv, [], h, 0, 0) (fun h' r => h' = h ∧ r = some (.int (if allB (okB (gn h 15 4) (gn h 15 0) (clN h s)) (mC h s / 2) = true then 0 else -2))) := by
        intro lv q
        refine E_c rfl ?_
        exact E_rti rfl ⟨rfl, by rw [if_neg (allB_no (k := k) (by omega) (e.trans q))]⟩
      refine E_is rfl (fun lv1 M6 kp => ?_)
      refine E_il rfl (kp 5 _ (by decide) rfl M5) ?_
      cases b1 with
      | false =>
        refine E_ifT rfl (by decide) ?_
        exact no _ rfl
      | true =>
        refine E_ifF rfl (by decide) ?_
        refine E_il rfl M6 ?_
        cases b2 with
        | false =>
          refine E_ifF rfl (by decide) ?_
          exact no _ rfl
        | true =>
          refine E_ifT rfl (by decide) ?_
          refine E_inc rfl (kp 4 _ (by decide) rfl M4) (show nJ (2 * k) + 2 = nJ (2 * (k + 1)) from nJ_add (2 * k) 2) (fun lv2 N4 kp2 => ?_)
          refine E_goto rfl ?_
          refine ih lv2 (by omega) (by omega) (fun q hq => ?_) (kp2 0 _ (by decide) rfl (kp 0 _ (by decide) rfl M0)) (kp2 3 _ (by decide) rfl (kp 3 _ (by decide) rfl M3)) N4
          by_cases e2 : q = k
          · rw [e2]; exact e
          · exact hi q (by omega)
    have c93 : ∀ (lv : List (Nat × Value)) (b1 : Bool), b1 = decide (0 ≤ (clN h s (2 * k)).toInt ∧ (clN h s (2 * k)).toInt < (gn h 15 4 : Int)) → pm_get lv 0 = some (.ref 0) → pm_get lv 3 = some (.ref (54 + 2 * s)) → pm_get lv 4 = some (.int (nJ (2 * k))) → Ends (pm_at tX8_sightRefusal) (pm_Rt pm_P d) (93, lv, [.int (nJ (b1N b1))], h, 0, 0) (fun h' r => h' = h ∧ r = some (.int (if allB (okB (gn h 15 4) (gn h 15 0) (clN h s)) (mC h s / 2) = true then 0 else -2))) := by
      intro lv b1 e L0 L3 L4
      have fin : ∀ b2 : Bool, b2 = decide (0 ≤ (clN h s (2 * k + 1)).toInt ∧ (clN h s (2 * k + 1)).toInt ≤ (gn h 15 0 : Int)) → okB (gn h 15 4) (gn h 15 0) (clN h s) k = (b1 && b2) := fun b2 e2 => by
        rw [e, e2]
        unfold okB
        rw [Bool.decide_and]
      refine E_is rfl (fun lv1 M5 kp => ?_)
      have M0 := kp 0 _ (by decide) rfl L0
      have M3 := kp 3 _ (by decide) rfl L3
      have M4 := kp 4 _ (by decide) rfl L4
      refine E_al rfl M3 ?_
      refine E_ogr rfl hh S1 S2 ?_
      refine E_il rfl M4 ?_
      refine E_ci 1 rfl (by decide) ?_
      refine E_bin rfl (nJ_add _ _) ?_
      refine E_lal rfl hh S3 (by omega) (by decide) ?_
      refine E_c rfl ?_
      refine E_lcmp rfl ?_
      by_cases q1 : (clN h s (2 * k + 1)).toInt < 0
      · refine E_ifT rfl (decide_eq_true ((lt_zero _).mpr q1)) ?_
        refine E_ci 0 rfl (by decide) ?_
        exact c135 lv1 b1 false (fin false (decide_eq_false (fun z => by omega)).symm) M0 M3 M4 M5
      · refine E_ifF rfl (decide_eq_false (fun z => q1 ((lt_zero _).mp z))) ?_
        refine E_al rfl M3 ?_
        refine E_ogr rfl hh S1 S2 ?_
        refine E_il rfl M4 ?_
        refine E_ci 1 rfl (by decide) ?_
        refine E_bin rfl (nJ_add _ _) ?_
        refine E_lal rfl hh S3 (by omega) (by decide) ?_
        refine E_al rfl M0 ?_
        refine E_ogr rfl hh rfl (q := 15) rfl ?_
        refine E_ogf rfl hh rfl (q := (0, 8)) rfl a1 ?_
        refine E_i2l rfl ?_
        refine E_lcmp rfl ?_
        by_cases q2 : (gn h 15 0 : Int) < (clN h s (2 * k + 1)).toInt
        · refine E_ifT rfl (decide_eq_true ((gt_nJ _ (by omega)).mpr q2)) ?_
          refine E_ci 0 rfl (by decide) ?_
          exact c135 lv1 b1 false (fin false (decide_eq_false (fun z => by omega)).symm) M0 M3 M4 M5
        · refine E_ifF rfl (decide_eq_false (fun z => q2 ((gt_nJ _ (by omega)).mp z))) ?_
          refine E_ci 1 rfl (by decide) ?_
          refine E_goto rfl ?_
          exact c135 lv1 b1 true (fin true (decide_eq_true (by omega)).symm) M0 M3 M4 M5
    refine E_al rfl L3 ?_
    refine E_ogr rfl hh S1 S2 ?_
    refine E_il rfl L4 ?_
    refine E_lal rfl hh S3 (by omega) (by decide) ?_
    refine E_c rfl ?_
    refine E_lcmp rfl ?_
    by_cases q1 : (clN h s (2 * k)).toInt < 0
    · refine E_ifT rfl (decide_eq_true ((lt_zero _).mpr q1)) ?_
      refine E_ci 0 rfl (by decide) ?_
      exact c93 lv false (decide_eq_false (fun z => by omega)).symm L0 L3 L4
    · refine E_ifF rfl (decide_eq_false (fun z => q1 ((lt_zero _).mp z))) ?_
      refine E_al rfl L3 ?_
      refine E_ogr rfl hh S1 S2 ?_
      refine E_il rfl L4 ?_
      refine E_lal rfl hh S3 (by omega) (by decide) ?_
      refine E_al rfl L0 ?_
      refine E_ogr rfl hh rfl (q := 15) rfl ?_
      refine E_ogf rfl hh rfl (q := (0, 8)) rfl a3 ?_
      refine E_i2l rfl ?_
      refine E_lcmp rfl ?_
      by_cases q2 : (gn h 15 4 : Int) ≤ (clN h s (2 * k)).toInt
      · refine E_ifT rfl (decide_eq_true ((ge_nJ _ (by omega)).mpr q2)) ?_
        refine E_ci 0 rfl (by decide) ?_
        exact c93 lv false (decide_eq_false (fun z => by omega)).symm L0 L3 L4
      · refine E_ifF rfl (decide_eq_false (fun z => q2 ((ge_nJ _ (by omega)).mp z))) ?_
        refine E_ci 1 rfl (by decide) ?_
        refine E_goto rfl ?_
        exact c93 lv true (decide_eq_true (by omega)).symm L0 L3 L4
theorem sp_sightX8 {is : Bool} (hh : HH h) : Sp (d + 2) 180 h [.ref 0, .int x, .int (zb (is = true))] (fun h' r => h' = h ∧ r = some (.int (sgv (cf h) (mC h) (clN h) (gn h 15 4) (gn h 15 0) is x))) := by
  refine Sp_of aiX8_sightRefusal rfl rfl rfl ?_
  have L0 : pm_get (lv_args 0 [.ref 0, .int x, .int (zb (is = true))]) 0 = some (.ref 0) := rfl
  have L1 : pm_get (lv_args 0 [.ref 0, .int x, .int (zb (is = true))]) 1 = some (.int x) := rfl
  have L2 : pm_get (lv_args 0 [.ref 0, .int x, .int (zb (is = true))]) 2 = some (.int (zb (is = true))) := rfl
  generalize lv_args 0 [.ref 0, .int x, .int (zb (is = true))] = lv at L0 L1 L2 ⊢
  refine E_il rfl L1 ?_
  refine E_call rfl (sp_isSlot8 (d := d)) (chkS rfl (by show 0 ≤ 8; decide)) (fun h1 r1 => ?_)
  rintro ⟨e1, rv⟩
  rw [e1]
  rcases rv with ⟨hx0, hx3, hr⟩ | ⟨nx, hr⟩
  · rw [hr]
    refine E_ifF rfl (by decide) ?_
    obtain ⟨s, hs, rfl⟩ : ∃ s, s < 4 ∧ x = nJ s := ⟨x.toInt.toNat, by omega, nJ_of hx0⟩
    rw [sgv_in hs]
    refine E_il rfl L2 ?_
    by_cases q0 : is = true
    · refine E_ifT rfl (by rw [zb_T q0]; rfl) ?_
      rw [if_pos q0]
      obtain ⟨S1, S2, S3, S4, S5, S6⟩ := isS_at s hs
      have hn := mC_b hh hs
      refine E_al rfl L0 ?_
      refine E_ogr rfl hh rfl (q := 53) rfl ?_
      refine E_il rfl L1 ?_
      refine E_aal rfl hh rfl (slot_at s hs) (by decide) ?_
      refine E_asr rfl (fun lv1 M3 kp => ?_)
      have M0 := kp 0 _ (by decide) rfl L0
      refine E_al rfl M3 ?_
      refine E_ogf rfl hh S1 S4 rfl ?_
      by_cases b1 : gi h (54 + 2 * s) 1 = 0
      · refine E_ifF rfl (decide_eq_false (fun q => q b1)) ?_
        rw [if_pos (show cf h s = 0 from b1)]
        refine E_c rfl ?_
        exact E_rti rfl ⟨rfl, rfl⟩
      · refine E_ifT rfl (decide_eq_true b1) ?_
        rw [if_neg (show ¬ cf h s = 0 from b1)]
        refine E_al rfl M3 ?_
        refine E_ogf rfl hh S1 S6 (gi_gn hh S6 (by decide)) ?_
        refine E_c rfl ?_
        refine E_dv rfl (by decide) ?_
        have pt := par_tab ⟨mC h s, by omega⟩
        dsimp only at pt
        by_cases b2 : mC h s % 2 = 0
        · refine E_ifT rfl (decide_eq_true (pt.mpr b2)) ?_
          rw [if_pos b2]
          refine E_ci 0 rfl (by decide) ?_
          refine E_is rfl (fun lv2 N4 kp2 => ?_)
          exact sgX_loop hh hs b2 60 (k := 0) lv2 (by omega) (Nat.zero_le _) (fun m hm => absurd hm (Nat.not_lt_zero m)) (kp2 0 _ (by decide) rfl M0) (kp2 3 _ (by decide) rfl M3) N4
        · refine E_ifF rfl (decide_eq_false (fun q => b2 (pt.mp q))) ?_
          rw [if_neg b2]
          refine E_c rfl ?_
          exact E_rti rfl ⟨rfl, rfl⟩
    · refine E_ifF rfl (by rw [zb_F q0]; rfl) ?_
      rw [if_neg q0]
      refine E_c rfl ?_
      exact E_rti rfl ⟨rfl, rfl⟩
  · rw [hr, sgv_no nx]
    refine E_ifT rfl (by decide) ?_
    refine E_c rfl ?_
    exact E_rti rfl ⟨rfl, rfl⟩
/-! the reference -/
theorem wnX_loop {s : Nat} (hh : HH h) (hs : s < 4) (ev : mR h s % 2 = 0) (j : Nat) : ∀ {k : Nat} (lv : List (Nat × Value)), mR h s ≤ 2 * k + j → k ≤ mR h s / 2 → (∀ q, q < k → okB (gn h 84 3) (gn h 84 0) (rlN h s) q = true) → pm_get lv 0 = some (.ref 77) → pm_get lv 1 = some (.int (nJ s)) → pm_get lv 3 = some (.int (nJ (2 * k))) → Ends (pm_at tX9_whyNot) (pm_Rt pm_P (d + 2)) (50, lv, [], h, 0, 0) (fun h' r => h' = h ∧ r = some (.int (if allB (okB (gn h 84 3) (gn h 84 0) (rlN h s)) (mR h s / 2) = true then 0 else -2))) := by
  have b79 : bd 79 s = some (0, 60) := bd_u rfl (by omega)
  have hn := mR_b hh hs
  have g79 : gi h 79 s = nJ (mR h s) := gi_gn hh b79 (by decide)
  have n8 : gn h 84 3 ≤ 8 := gn_hi hh rfl (by decide)
  have yes : ∀ {k : Nat} (lv : List (Nat × Value)), k = mR h s / 2 → (∀ q, q < k → okB (gn h 84 3) (gn h 84 0) (rlN h s) q = true) → Ends (pm_at tX9_whyNot) (pm_Rt pm_P (d + 2)) (112, lv, [], h, 0, 0) (fun h' r => h' = h ∧ r = some (.int (if allB (okB (gn h 84 3) (gn h 84 0) (rlN h s)) (mR h s / 2) = true then 0 else -2))) := by
    intro k lv hk hi
    refine E_ci 0 rfl (by decide) ?_
    exact E_rti rfl ⟨rfl, by rw [if_pos (by rw [← hk]; exact allB_of hi)]; rfl⟩
  induction j with
  | zero =>
    intro k lv hj hk hi L0 L1 L3
    refine E_il rfl L3 ?_
    refine E_al rfl L0 ?_
    refine E_gr rfl hh (q := 79) rfl ?_
    refine E_il rfl L1 ?_
    refine E_ial rfl hh rfl (by omega) (by decide) g79 ?_
    refine E_icT rfl (decide_eq_true ((nJ_le (by omega) (by omega)).mpr (by omega))) ?_
    exact yes lv (by omega) hi
  | succ j ih =>
    intro k lv hj hk hi L0 L1 L3
    refine E_il rfl L3 ?_
    refine E_al rfl L0 ?_
    refine E_gr rfl hh (q := 79) rfl ?_
    refine E_il rfl L1 ?_
    refine E_ial rfl hh rfl (by omega) (by decide) g79 ?_
    by_cases b0 : mR h s ≤ 2 * k
    · refine E_icT rfl (decide_eq_true ((nJ_le (by omega) (by omega)).mpr b0)) ?_
      exact yes lv (by omega) hi
    refine E_icF rfl (decide_eq_false (fun q => b0 ((nJ_le (by omega) (by omega)).mp q))) ?_
    have no : ∀ (lv : List (Nat × Value)), okB (gn h 84 3) (gn h 84 0) (rlN h s) k = false → Ends (pm_at tX9_whyNot) (pm_Rt pm_P (d + 2)) (103, lv, [], h, 0, 0) (fun h' r => h' = h ∧ r = some (.int (if allB (okB (gn h 84 3) (gn h 84 0) (rlN h s)) (mR h s / 2) = true then 0 else -2))) := by
      intro lv q
      refine E_c rfl ?_
      exact E_rti rfl ⟨rfl, by rw [if_neg (allB_no (k := k) (by omega) q)]⟩
    refine E_ci 60 rfl (by decide) ?_
    refine E_il rfl L1 ?_
    refine E_bin rfl (nJ_mulE _ _) ?_
    refine E_il rfl L3 ?_
    refine E_bin rfl (nJ_add _ _) ?_
    refine E_is rfl (fun lv1 M4 kp => ?_)
    have M0 := kp 0 _ (by decide) rfl L0
    have M1 := kp 1 _ (by decide) rfl L1
    have M3 := kp 3 _ (by decide) rfl L3
    refine E_al rfl M0 ?_
    refine E_al rfl M0 ?_
    refine E_gr rfl hh (q := 80) rfl ?_
    refine E_il rfl M4 ?_
    refine E_lal (len := 240) rfl hh rfl (by omega) (by decide) ?_
    refine E_call rfl (sp_isCarL (d := d) hh) (chk77 hh rfl rfl (by show 0 ≤ 8; decide)) (fun h1 r1 => ?_)
    rintro ⟨e1, f1⟩
    rw [e1, f1]
    by_cases b1 : 0 ≤ (gl h 80 (60 * s + 2 * k)).toInt ∧ (gl h 80 (60 * s + 2 * k)).toInt ≤ (gn h 84 3 : Int) - 1
    · refine E_ifF rfl (by rw [zb_T b1]; rfl) ?_
      refine E_al rfl M0 ?_
      refine E_gr rfl hh (q := 80) rfl ?_
      refine E_il rfl M4 ?_
      refine E_ci 1 rfl (by decide) ?_
      refine E_bin rfl (nJ_add _ _) ?_
      refine E_lal (len := 240) rfl hh rfl (by omega) (by decide) ?_
      refine E_c rfl ?_
      refine E_al rfl M0 ?_
      refine E_call rfl (Sp_le (by omega) (sp_places (d := d) hh)) (chk77 hh rfl rfl (by show 4 ≤ 8; decide)) (fun h2 r2 => ?_)
      rintro ⟨e2, f2, c2⟩
      rw [e2, f2]
      refine E_i2l rfl ?_
      refine E_call rfl (Sp_le (by omega) (sp_in (d := d) rfl (b := 0) rfl (c := (gn h 84 0 : Int)) (i2l_nJ (by omega)))) (chkS rfl (by show 0 ≤ 8; decide)) (fun h3 r3 => ?_)
      rintro ⟨e3, f3⟩
      rw [e3, f3]
      by_cases b2 : 0 ≤ (gl h 80 (60 * s + 2 * k + 1)).toInt ∧ (gl h 80 (60 * s + 2 * k + 1)).toInt ≤ (gn h 84 0 : Int)
      · refine E_ifT rfl (by rw [zb_T b2]; rfl) ?_
        refine E_inc rfl M3 (show nJ (2 * k) + 2 = nJ (2 * (k + 1)) from nJ_add (2 * k) 2) (fun lv2 N3 kp2 => ?_)
        refine E_goto rfl ?_
        refine ih lv2 (by omega) (by omega) (fun m hm => ?_) (kp2 0 _ (by decide) rfl M0) (kp2 1 _ (by decide) rfl M1) N3
        by_cases e : m = k
        · rw [e]; exact decide_eq_true ⟨⟨b1.1, by have := b1.2; show (gl h 80 (60 * s + 2 * k)).toInt < _; omega⟩, b2⟩
        · exact hi m (by omega)
      · refine E_ifF rfl (by rw [zb_F b2]; rfl) ?_
        exact no lv1 (decide_eq_false (fun q => b2 q.2))
    · refine E_ifT rfl (by rw [zb_F b1]; rfl) ?_
      exact no lv1 (decide_eq_false (fun q => b1 ⟨q.1.1, by have : (gl h 80 (60 * s + 2 * k)).toInt < _ := q.1.2; omega⟩))
theorem sp_whyNotN {is : Bool} (hh : HH h) : Sp (d + 3) 372 h [.ref 77, .int x, .int (zb (is = true))] (fun h' r => h' = h ∧ r = some (.int (sgv (rf h) (mR h) (rlN h) (gn h 84 3) (gn h 84 0) (decide (0 < (gi h 83 0).toInt) && is) x))) := by
  refine Sp_of aiX9_whyNot rfl rfl rfl ?_
  have L0 : pm_get (lv_args 0 [.ref 77, .int x, .int (zb (is = true))]) 0 = some (.ref 77) := rfl
  have L1 : pm_get (lv_args 0 [.ref 77, .int x, .int (zb (is = true))]) 1 = some (.int x) := rfl
  have L2 : pm_get (lv_args 0 [.ref 77, .int x, .int (zb (is = true))]) 2 = some (.int (zb (is = true))) := rfl
  generalize lv_args 0 [.ref 77, .int x, .int (zb (is = true))] = lv at L0 L1 L2 ⊢
  refine E_il rfl L1 ?_
  refine E_call rfl (sp_isSlot (d := d)) (chkS rfl (by show 0 ≤ 8; decide)) (fun h1 r1 => ?_)
  rintro ⟨e1, f1⟩
  rw [e1, f1]
  by_cases b1 : 0 ≤ x.toInt ∧ x.toInt ≤ 3
  · refine E_ifF rfl (by rw [zb_T b1]; rfl) ?_
    obtain ⟨s, hs, rfl⟩ : ∃ s, s < 4 ∧ x = nJ s := ⟨x.toInt.toNat, by omega, nJ_of b1.1⟩
    rw [sgv_in hs]
    refine E_al rfl L0 ?_
    refine E_call rfl (Sp_le (by omega) (sp_isStreet (d := d) hh)) (chk77 hh rfl rfl (by show 0 ≤ 8; decide)) (fun h2 r2 => ?_)
    rintro ⟨e2, f2⟩
    rw [e2, f2]
    by_cases b2 : 0 < (gi h 83 0).toInt
    · refine E_ifF rfl (by rw [zb_T b2]; rfl) ?_
      rw [decide_eq_true b2, Bool.true_and]
      refine E_il rfl L2 ?_
      by_cases q0 : is = true
      · refine E_ifT rfl (by rw [zb_T q0]; rfl) ?_
        rw [if_pos q0]
        refine E_al rfl L0 ?_
        refine E_gr rfl hh (q := 78) rfl ?_
        refine E_il rfl L1 ?_
        refine E_ial rfl hh rfl (by omega) (by decide) rfl ?_
        refine E_c rfl ?_
        by_cases b3 : gi h 78 s = -1
        · refine E_icF rfl (decide_eq_false (fun q => q b3)) ?_
          rw [if_pos (rf_0 b3)]
          refine E_c rfl ?_
          exact E_rti rfl ⟨rfl, rfl⟩
        · refine E_icT rfl (decide_eq_true b3) ?_
          rw [if_neg (rf_1 b3)]
          have b79 : bd 79 s = some (0, 60) := bd_u rfl (by omega)
          have hn := mR_b hh hs
          refine E_al rfl L0 ?_
          refine E_gr rfl hh (q := 79) rfl ?_
          refine E_il rfl L1 ?_
          refine E_ial rfl hh rfl (by omega) (by decide) (show gi h 79 s = nJ (mR h s) from gi_gn hh b79 (by decide)) ?_
          refine E_c rfl ?_
          refine E_dv rfl (by decide) ?_
          have pt := par_tab ⟨mR h s, by omega⟩
          dsimp only at pt
          by_cases b4 : mR h s % 2 = 0
          · refine E_ifT rfl (decide_eq_true (pt.mpr b4)) ?_
            rw [if_pos b4]
            refine E_ci 0 rfl (by decide) ?_
            refine E_is rfl (fun lv2 N3 kp2 => ?_)
            exact wnX_loop hh hs b4 60 (k := 0) lv2 (by omega) (Nat.zero_le _) (fun m hm => absurd hm (Nat.not_lt_zero m)) (kp2 0 _ (by decide) rfl L0) (kp2 1 _ (by decide) rfl L1) N3
          · refine E_ifF rfl (decide_eq_false (fun q => b4 (pt.mp q))) ?_
            rw [if_neg b4]
            refine E_c rfl ?_
            exact E_rti rfl ⟨rfl, rfl⟩
      · refine E_ifF rfl (by rw [zb_F q0]; rfl) ?_
        rw [if_neg q0]
        refine E_c rfl ?_
        exact E_rti rfl ⟨rfl, rfl⟩
    · refine E_ifT rfl (by rw [zb_F b2]; rfl) ?_
      rw [decide_eq_false b2, Bool.false_and, if_neg (by decide)]
      refine E_c rfl ?_
      exact E_rti rfl ⟨rfl, rfl⟩
  · rw [sgv_no b1]
    refine E_ifT rfl (by rw [zb_F b1]; rfl) ?_
    refine E_c rfl ?_
    exact E_rti rfl ⟨rfl, rfl⟩
/-! as it tells -/
noncomputable def asB (sp : Nat → Nat) (N : Nat → Int64) (k : Nat) : Bool := decide ((sp (N (2 * k)).toInt.toNat : Int) = (N (2 * k + 1)).toInt)
theorem okB_1 {C P : Nat} {N : Nat → Int64} {k : Nat} (q : okB C P N k = true) : 0 ≤ (N (2 * k)).toInt ∧ (N (2 * k)).toInt < (C : Int) ∧ 0 ≤ (N (2 * k + 1)).toInt ∧ (N (2 * k + 1)).toInt ≤ (P : Int) := by
  have := of_decide_eq_true q
  exact ⟨this.1.1, this.1.2, this.2⟩
theorem l2i_X {y : Int64} (h1 : 0 ≤ y.toInt) (h2 : y.toInt < 1000) : y.toInt32 = nJ y.toInt.toNat := by
  apply Int32.toInt_inj.mp
  rw [Int64.toInt_toInt32, nJ_toInt (by omega), Int.bmod_eq_of_le (by omega) (by omega)]
  omega
theorem asX_loop {s C P : Nat} {sp : Nat → Nat} (hh : HH h) (hs : s < 4) (C8 : C ≤ 8) (ev : mC h s % 2 = 0) (ok : allB (okB C P (clN h s)) (mC h s / 2) = true) (S : ∀ c, c < C → gi h 63 c = nJ (sp c) ∧ sp c < 1000) (j : Nat) : ∀ {k : Nat} (lv : List (Nat × Value)), mC h s ≤ 2 * k + j → k ≤ mC h s / 2 → (∀ q, q < k → asB sp (clN h s) q = true) → pm_get lv 0 = some (.ref 0) → pm_get lv 1 = some (.ref (54 + 2 * s)) → pm_get lv 2 = some (.int (nJ (2 * k))) → Ends (pm_at tX8_isAsSeen) (pm_Rt pm_P d) (2, lv, [], h, 0, 0) (fun h' r => h' = h ∧ r = some (.int (nJ (b1N (allB (asB sp (clN h s)) (mC h s / 2)))))) := by
  obtain ⟨S1, S2, S3, S4, S5, S6⟩ := isS_at s hs
  have hn := mC_b hh hs
  have g3 : gi h (54 + 2 * s) 3 = nJ (mC h s) := gi_gn hh S6 (by decide)
  have yes : ∀ {k : Nat} (lv : List (Nat × Value)), k = mC h s / 2 → (∀ q, q < k → asB sp (clN h s) q = true) → Ends (pm_at tX8_isAsSeen) (pm_Rt pm_P d) (48, lv, [], h, 0, 0) (fun h' r => h' = h ∧ r = some (.int (nJ (b1N (allB (asB sp (clN h s)) (mC h s / 2)))))) := by
    intro k lv hk hi
    refine E_ci 1 rfl (by decide) ?_
    exact E_rtz rfl (.inr rfl) ⟨rfl, by rw [← hk, allB_of hi]; rfl⟩
  induction j with
  | zero =>
    intro k lv hj hk hi L0 L1 L2
    refine E_il rfl L2 ?_
    refine E_ci 1 rfl (by decide) ?_
    refine E_bin rfl (nJ_add _ _) ?_
    refine E_al rfl L1 ?_
    refine E_ogf rfl hh S1 S6 g3 ?_
    refine E_icT rfl (decide_eq_true ((nJ_le (by omega) (by omega)).mpr (by omega))) ?_
    exact yes lv (by omega) hi
  | succ j ih =>
    intro k lv hj hk hi L0 L1 L2
    refine E_il rfl L2 ?_
    refine E_ci 1 rfl (by decide) ?_
    refine E_bin rfl (nJ_add _ _) ?_
    refine E_al rfl L1 ?_
    refine E_ogf rfl hh S1 S6 g3 ?_
    by_cases b0 : mC h s ≤ 2 * k + 1
    · refine E_icT rfl (decide_eq_true ((nJ_le (by omega) (by omega)).mpr b0)) ?_
      exact yes lv (by omega) hi
    refine E_icF rfl (decide_eq_false (fun q => b0 ((nJ_le (by omega) (by omega)).mp q))) ?_
    obtain ⟨o1, o2, o3, o4⟩ := okB_1 (allB_at ok k (by omega))
    obtain ⟨sp1, sp2⟩ := S (clN h s (2 * k)).toInt.toNat (by omega)
    refine E_al rfl L0 ?_
    refine E_ogr (q := 62) rfl hh rfl rfl ?_
    refine E_ogr (q := 63) rfl hh rfl rfl ?_
    refine E_al rfl L1 ?_
    refine E_ogr rfl hh S1 S2 ?_
    refine E_il rfl L2 ?_
    refine E_lal rfl hh S3 (by omega) (by decide) ?_
    refine E_l2i rfl (l2i_X (y := clN h s (2 * k)) o1 (by omega)) ?_
    refine E_ial rfl hh rfl (by show (clN h s (2 * k)).toInt.toNat < 8; omega) (by decide) sp1 ?_
    refine E_i2l rfl ?_
    refine E_al rfl L1 ?_
    refine E_ogr rfl hh S1 S2 ?_
    refine E_il rfl L2 ?_
    refine E_ci 1 rfl (by decide) ?_
    refine E_bin rfl (nJ_add _ _) ?_
    refine E_lal rfl hh S3 (by omega) (by decide) ?_
    refine E_lcmp rfl ?_
    by_cases b1 : (sp (clN h s (2 * k)).toInt.toNat : Int) = (clN h s (2 * k + 1)).toInt
    · refine E_ifT rfl (decide_eq_true ((eq_nJ _ sp2).mpr b1)) ?_
      refine E_inc rfl L2 (show nJ (2 * k) + 2 = nJ (2 * (k + 1)) from nJ_add (2 * k) 2) (fun lv2 N2 kp2 => ?_)
      refine E_goto rfl ?_
      refine ih lv2 (by omega) (by omega) (fun q hq => ?_) (kp2 0 _ (by decide) rfl L0) (kp2 1 _ (by decide) rfl L1) N2
      by_cases e : q = k
      · rw [e]; exact decide_eq_true b1
      · exact hi q (by omega)
    · refine E_ifF rfl (decide_eq_false (fun z => b1 ((eq_nJ _ sp2).mp z))) ?_
      refine E_ci 0 rfl (by decide) ?_
      refine E_rtz rfl (.inl rfl) ⟨rfl, ?_⟩
      have : allB (asB sp (clN h s)) (mC h s / 2) = false := by
        cases q : allB (asB sp (clN h s)) (mC h s / 2)
        · rfl
        · exact absurd q (allB_no (k := k) (by omega) (decide_eq_false b1))
      rw [this]; rfl
theorem sp_isAsSeenX {s C P : Nat} {sp : Nat → Nat} (hh : HH h) (hs : s < 4) (C8 : C ≤ 8) (G : GOOD (cf h) (mC h) (clN h) C P s) (S : ∀ c, c < C → gi h 63 c = nJ (sp c) ∧ sp c < 1000) : Sp (d + 1) 124 h [.ref 0, .ref (54 + 2 * s)] (fun h' r => h' = h ∧ r = some (.int (nJ (b1N (allB (asB sp (clN h s)) (mC h s / 2)))))) := by
  refine Sp_of aiX8_isAsSeen rfl rfl rfl ?_
  have L0 : pm_get (lv_args 0 [.ref 0, .ref (54 + 2 * s)]) 0 = some (.ref 0) := rfl
  have L1 : pm_get (lv_args 0 [.ref 0, .ref (54 + 2 * s)]) 1 = some (.ref (54 + 2 * s)) := rfl
  generalize lv_args 0 [.ref 0, .ref (54 + 2 * s)] = lv at L0 L1 ⊢
  have hn := mC_b hh hs
  refine E_ci 0 rfl (by decide) ?_
  refine E_is rfl (fun lv1 K2 kp => ?_)
  exact asX_loop hh hs C8 G.2.1 G.2.2 S 60 (k := 0) lv1 (by omega) (Nat.zero_le _) (fun q hq => absurd hq (Nat.not_lt_zero q)) (kp 0 _ (by decide) rfl L0) (kp 1 _ (by decide) rfl L1) K2
theorem sp_seenX {v w : Nat} (hh : HH h) (v7 : v < 8) (g : gi h 91 v = pO w) (w8 : w < 1000) : Sp (d + 1) 343 h [.ref 77, .int (nJ v)] (fun h' r => h' = h ∧ r = some (.int (nJ w))) := by
  refine Sp_of aiX9_seenPlace rfl rfl rfl ?_
  have L0 : pm_get (lv_args 0 [.ref 77, .int (nJ v)]) 0 = some (.ref 77) := rfl
  have L1 : pm_get (lv_args 0 [.ref 77, .int (nJ v)]) 1 = some (.int (nJ v)) := rfl
  generalize lv_args 0 [.ref 77, .int (nJ v)] = lv at L0 L1 ⊢
  refine E_al rfl L0 ?_
  refine E_gr rfl hh (q := 91) rfl ?_
  refine E_il rfl L1 ?_
  refine E_ial rfl hh rfl (by omega) (by decide) g ?_
  refine E_c rfl ?_
  by_cases b : w = 0
  · refine E_icF rfl (decide_eq_false (fun q => q ((pO_n1 w8).mpr b))) ?_
    refine E_ci 0 rfl (by decide) ?_
    refine E_goto rfl ?_
    exact E_rti rfl ⟨rfl, by rw [b]⟩
  · refine E_icT rfl (decide_eq_true (fun q => b ((pO_n1 w8).mp q))) ?_
    refine E_al rfl L0 ?_
    refine E_gr rfl hh (q := 91) rfl ?_
    refine E_il rfl L1 ?_
    refine E_ial rfl hh rfl (by omega) (by decide) g ?_
    exact E_rti rfl ⟨rfl, by unfold pO; rw [if_neg b]⟩
theorem soX_loop {s C P : Nat} {sp : Nat → Nat} (hh : HH h) (hs : s < 4) (C8 : C ≤ 8) (ev : mR h s % 2 = 0) (ok : allB (okB C P (rlN h s)) (mR h s / 2) = true) (S : ∀ c, c < C → gi h 91 c = pO (sp c) ∧ sp c < 1000) (j : Nat) : ∀ {k : Nat} (lv : List (Nat × Value)), mR h s ≤ 2 * k + j → k ≤ mR h s / 2 → (∀ q, q < k → asB sp (rlN h s) q = true) → pm_get lv 0 = some (.ref 77) → pm_get lv 1 = some (.int (nJ s)) → pm_get lv 2 = some (.int (nJ (2 * k))) → Ends (pm_at tX9_isSo) (pm_Rt pm_P (d + 1)) (2, lv, [], h, 0, 0) (fun h' r => h' = h ∧ r = some (.int (nJ (b1N (allB (asB sp (rlN h s)) (mR h s / 2)))))) := by
  have b79 : bd 79 s = some (0, 60) := bd_u rfl (by omega)
  have hn := mR_b hh hs
  have g79 : gi h 79 s = nJ (mR h s) := gi_gn hh b79 (by decide)
  have yes : ∀ {k : Nat} (lv : List (Nat × Value)), k = mR h s / 2 → (∀ q, q < k → asB sp (rlN h s) q = true) → Ends (pm_at tX9_isSo) (pm_Rt pm_P (d + 1)) (54, lv, [], h, 0, 0) (fun h' r => h' = h ∧ r = some (.int (nJ (b1N (allB (asB sp (rlN h s)) (mR h s / 2)))))) := by
    intro k lv hk hi
    refine E_ci 1 rfl (by decide) ?_
    exact E_rtz rfl (.inr rfl) ⟨rfl, by rw [← hk, allB_of hi]; rfl⟩
  induction j with
  | zero =>
    intro k lv hj hk hi L0 L1 L2
    refine E_il rfl L2 ?_
    refine E_al rfl L0 ?_
    refine E_gr rfl hh (q := 79) rfl ?_
    refine E_il rfl L1 ?_
    refine E_ial rfl hh rfl (by omega) (by decide) g79 ?_
    refine E_icT rfl (decide_eq_true ((nJ_le (by omega) (by omega)).mpr (by omega))) ?_
    exact yes lv (by omega) hi
  | succ j ih =>
    intro k lv hj hk hi L0 L1 L2
    refine E_il rfl L2 ?_
    refine E_al rfl L0 ?_
    refine E_gr rfl hh (q := 79) rfl ?_
    refine E_il rfl L1 ?_
    refine E_ial rfl hh rfl (by omega) (by decide) g79 ?_
    by_cases b0 : mR h s ≤ 2 * k
    · refine E_icT rfl (decide_eq_true ((nJ_le (by omega) (by omega)).mpr b0)) ?_
      exact yes lv (by omega) hi
    refine E_icF rfl (decide_eq_false (fun q => b0 ((nJ_le (by omega) (by omega)).mp q))) ?_
    obtain ⟨o1, o2, o3, o4⟩ := okB_1 (allB_at ok k (by omega))
    obtain ⟨sp1, sp2⟩ := S (rlN h s (2 * k)).toInt.toNat (by omega)
    refine E_al rfl L0 ?_
    refine E_al rfl L0 ?_
    refine E_gr rfl hh (q := 80) rfl ?_
    refine E_ci 60 rfl (by decide) ?_
    refine E_il rfl L1 ?_
    refine E_bin rfl (nJ_mulE _ _) ?_
    refine E_il rfl L2 ?_
    refine E_bin rfl (nJ_add _ _) ?_
    refine E_lal (len := 240) rfl hh rfl (by omega) (by decide) ?_
    refine E_l2i rfl (l2i_X (y := rlN h s (2 * k)) o1 (by omega)) ?_
    refine E_call rfl (sp_seenX (d := d) hh (by show (rlN h s (2 * k)).toInt.toNat < 8; omega) sp1 sp2) (chk77 hh rfl rfl (by show 0 ≤ 8; decide)) (fun h1 r1 => ?_)
    rintro ⟨f1, f2⟩
    rw [f1, f2]
    refine E_i2l rfl ?_
    refine E_al rfl L0 ?_
    refine E_gr rfl hh (q := 80) rfl ?_
    refine E_ci 60 rfl (by decide) ?_
    refine E_il rfl L1 ?_
    refine E_bin rfl (nJ_mulE _ _) ?_
    refine E_il rfl L2 ?_
    refine E_bin rfl (nJ_add _ _) ?_
    refine E_ci 1 rfl (by decide) ?_
    refine E_bin rfl (nJ_add _ _) ?_
    refine E_lal (len := 240) rfl hh rfl (by omega) (by decide) ?_
    refine E_lcmp rfl ?_
    by_cases b1 : (sp (rlN h s (2 * k)).toInt.toNat : Int) = (rlN h s (2 * k + 1)).toInt
    · refine E_ifT rfl (decide_eq_true ((eq_nJ _ sp2).mpr b1)) ?_
      refine E_inc rfl L2 (show nJ (2 * k) + 2 = nJ (2 * (k + 1)) from nJ_add (2 * k) 2) (fun lv2 N2 kp2 => ?_)
      refine E_goto rfl ?_
      refine ih lv2 (by omega) (by omega) (fun q hq => ?_) (kp2 0 _ (by decide) rfl L0) (kp2 1 _ (by decide) rfl L1) N2
      by_cases e : q = k
      · rw [e]; exact decide_eq_true b1
      · exact hi q (by omega)
    · refine E_ifF rfl (decide_eq_false (fun z => b1 ((eq_nJ _ sp2).mp z))) ?_
      refine E_ci 0 rfl (by decide) ?_
      refine E_rtz rfl (.inl rfl) ⟨rfl, ?_⟩
      have : allB (asB sp (rlN h s)) (mR h s / 2) = false := by
        cases q : allB (asB sp (rlN h s)) (mR h s / 2)
        · rfl
        · exact absurd q (allB_no (k := k) (by omega) (decide_eq_false b1))
      rw [this]; rfl
theorem sp_isSoX {s C P : Nat} {sp : Nat → Nat} (hh : HH h) (hs : s < 4) (C8 : C ≤ 8) (G : GOOD (rf h) (mR h) (rlN h) C P s) (S : ∀ c, c < C → gi h 91 c = pO (sp c) ∧ sp c < 1000) : Sp (d + 2) 280 h [.ref 77, .int (nJ s)] (fun h' r => h' = h ∧ r = some (.int (nJ (b1N (allB (asB sp (rlN h s)) (mR h s / 2)))))) := by
  refine Sp_of aiX9_isSo rfl rfl rfl ?_
  have L0 : pm_get (lv_args 0 [.ref 77, .int (nJ s)]) 0 = some (.ref 77) := rfl
  have L1 : pm_get (lv_args 0 [.ref 77, .int (nJ s)]) 1 = some (.int (nJ s)) := rfl
  generalize lv_args 0 [.ref 77, .int (nJ s)] = lv at L0 L1 ⊢
  have hn := mR_b hh hs
  refine E_ci 0 rfl (by decide) ?_
  refine E_is rfl (fun lv1 K2 kp => ?_)
  exact soX_loop hh hs C8 G.2.1 G.2.2 S 60 (k := 0) lv1 (by omega) (Nat.zero_le _) (fun q hq => absurd hq (Nat.not_lt_zero q)) (kp 0 _ (by decide) rfl L0) (kp 1 _ (by decide) rfl L1) K2
end SGH
end
section
/-! the slots' rows of both, one row (wants u114, u76.by's sp_park8B, u75) -/
theorem zb_dcX {p : Prop} [Decidable p] : zb p = zb (decide p = true) := by
  by_cases b : p
  · rw [zb_T b, zb_T (decide_eq_true b)]
  · rw [zb_F b, zb_F (by rw [decide_eq_false b]; decide)]
noncomputable def CEQ (h g : pm_H) : Prop := ∀ s, s < 4 → cf g s = rf h s ∧ mC g s = mR h s ∧ ∀ k, k < 60 → clN g s k = rlN h s k
noncomputable def REQ (h g : pm_H) : Prop := ∀ s, s < 4 → rf g s = rf h s ∧ mR g s = mR h s ∧ ∀ k, k < 60 → rlN g s k = rlN h s k
noncomputable def slcB (M : List Rng) : Bool := [54, 55, 56, 57, 58, 59, 60, 61].all (nocell M)
noncomputable def slrB (M : List Rng) : Bool := [78, 79, 80].all (nocell M)
theorem slc_at {M : List Rng} (hb : slcB M = true) : ∀ s, s < 4 → M.all (fun r => !(Nat.beq r.1 (54 + 2 * s))) = true ∧ M.all (fun r => !(Nat.beq r.1 (55 + 2 * s))) = true
  | 0, _ => ⟨nc_at hb (by decide), nc_at hb (by decide)⟩
  | 1, _ => ⟨nc_at hb (by decide), nc_at hb (by decide)⟩
  | 2, _ => ⟨nc_at hb (by decide), nc_at hb (by decide)⟩
  | 3, _ => ⟨nc_at hb (by decide), nc_at hb (by decide)⟩
  | s + 4, hs => absurd hs (by omega)
theorem CEQ_of {M : List Rng} {h g : pm_H} (R : QRE h) (N : NU h) (f : fr_g M h g) (hb : slcB M = true) : CEQ h g := by
  intro s hs
  obtain ⟨c1, c2⟩ := slc_at hb s hs
  obtain ⟨s1, -, s3⟩ := SL_cf R.1.2 s hs
  refine ⟨?_, ?_, fun k hk => ?_⟩
  · rw [← s1]; exact fr_gi f (rg_no c1 _)
  · exact (fr_gn f (rg_no c1 _)).trans (gn_eq s3)
  · rw [← N s hs k hk]; exact fr_gl f (rg_no c2 _)
theorem REQ_of {M : List Rng} {h g : pm_H} (f : fr_g M h g) (hb : slrB M = true) : REQ h g := by
  intro s hs
  refine ⟨?_, fr_gn f (rg_no (nc_at hb (by decide)) _), fun k hk => fr_gl f (rg_no (nc_at hb (by decide)) _)⟩
  unfold rf
  rw [fr_gi f (rg_no (nc_at hb (by decide)) _)]
theorem okB_cg {C P : Nat} {N N' : Nat → Int64} {k : Nat} (hk : k < 30) (e : ∀ k, k < 60 → N k = N' k) : okB C P N k = okB C P N' k := by unfold okB; rw [e _ (by omega), e _ (by omega)]
theorem asB_cg {sp : Nat → Nat} {N N' : Nat → Int64} {k : Nat} (hk : k < 30) (e : ∀ k, k < 60 → N k = N' k) : asB sp N k = asB sp N' k := by unfold asB; rw [e _ (by omega), e _ (by omega)]
section BRG
variable {h g : pm_H} {d : Nat} {x : Int32}
theorem GOOD_c {C P s : Nat} (hh : HH h) (E : CEQ h g) (hs : s < 4) (G : GOOD (rf h) (mR h) (rlN h) C P s) : GOOD (cf g) (mC g) (clN g) C P s := by
  obtain ⟨e1, e2, e3⟩ := E s hs
  have := mR_b hh hs
  obtain ⟨g1, g2, g3⟩ := G
  refine ⟨by rw [e1]; exact g1, by rw [e2]; exact g2, ?_⟩
  rw [e2, allB_cg (fun k hk => okB_cg (by omega) e3)]
  exact g3
theorem GOOD_r {C P s : Nat} (hh : HH h) (E : REQ h g) (hs : s < 4) (G : GOOD (rf h) (mR h) (rlN h) C P s) : GOOD (rf g) (mR g) (rlN g) C P s := by
  obtain ⟨e1, e2, e3⟩ := E s hs
  have := mR_b hh hs
  obtain ⟨g1, g2, g3⟩ := G
  refine ⟨by rw [e1]; exact g1, by rw [e2]; exact g2, ?_⟩
  rw [e2, allB_cg (fun k hk => okB_cg (by omega) e3)]
  exact g3
/-- as the row of slot s tells, with these spots -/
noncomputable def seen (h : pm_H) (s : Nat) (sp : Nat → Nat) : Bool := allB (asB sp (rlN h s)) (mR h s / 2)
theorem sp_isAsSeenH {s C P : Nat} {sp : Nat → Nat} (hh : HH h) (hg : HH g) (E : CEQ h g) (hs : s < 4) (C8 : C ≤ 8) (G : GOOD (rf h) (mR h) (rlN h) C P s) (S : ∀ c, c < C → gi g 63 c = nJ (sp c) ∧ sp c < 1000) : Sp (d + 1) 124 g [.ref 0, .ref (54 + 2 * s)] (fun h' r => h' = g ∧ r = some (.int (nJ (b1N (seen h s sp))))) := by
  have := mR_b hh hs
  refine Sp_mono ?_ (sp_isAsSeenX (d := d) hg hs C8 (GOOD_c hh E hs G) S)
  rintro h' r ⟨e, q⟩
  refine ⟨e, ?_⟩
  rw [q, (E s hs).2.1, allB_cg (fun k hk => asB_cg (by omega) (E s hs).2.2)]
  rfl
theorem sp_isSoH {s C P : Nat} {sp : Nat → Nat} (hh : HH h) (hg : HH g) (E : REQ h g) (hs : s < 4) (C8 : C ≤ 8) (G : GOOD (rf h) (mR h) (rlN h) C P s) (S : ∀ c, c < C → gi g 91 c = pO (sp c) ∧ sp c < 1000) : Sp (d + 2) 280 g [.ref 77, .int (nJ s)] (fun h' r => h' = g ∧ r = some (.int (nJ (b1N (seen h s sp))))) := by
  have := mR_b hh hs
  refine Sp_mono ?_ (sp_isSoX (d := d) hg hs C8 (GOOD_r hh E hs G) S)
  rintro h' r ⟨e, q⟩
  refine ⟨e, ?_⟩
  rw [q, (E s hs).2.1, allB_cg (fun k hk => asB_cg (by omega) (E s hs).2.2)]
  rfl
/-- why a slot's row is none, of a street as the reference has it -/
noncomputable def why (h : pm_H) (is : Bool) (x : Int32) : Int32 := sgv (rf h) (mR h) (rlN h) (N9 h) (P9 h) is x
theorem sp_sightH {is : Bool} (hh : HH h) (R : QRE h) (N : NU h) : Sp (d + 2) 180 h [.ref 0, .int x, .int (zb (is = true))] (fun h' r => h' = h ∧ r = some (.int (why h is x))) := by
  refine Sp_mono ?_ (sp_sightX8 (d := d) (is := is) (x := x) hh)
  rintro h' r ⟨e, q⟩
  refine ⟨e, ?_⟩
  have E := CEQ_of (M := []) R N (fr_rf _ _) rfl
  have k4 : gn h 15 4 = N9 h := gn_eq R.2.1.1.2.2.1
  have k0 : gn h 15 0 = P9 h := gn_eq (R.2.1.1.2.1 0 (by omega))
  rw [q, k4, k0, sgv_cg (fun s hs => (E s hs).1) (fun s hs => (E s hs).2.1) (fun s hs => mR_b hh hs) (fun s hs k hk => (E s hs).2.2 k hk)]
  rfl
theorem sp_whyNotH {is : Bool} (hh : HH h) (hg : HH g) (k : K9 h g) (E : REQ h g) : Sp (d + 3) 372 g [.ref 77, .int x, .int (zb (is = true))] (fun h' r => h' = g ∧ r = some (.int (why h (decide (0 < (gi h 83 0).toInt) && is) x))) := by
  refine Sp_mono ?_ (sp_whyNotN (d := d) (is := is) (x := x) hg)
  rintro h' r ⟨e, q⟩
  refine ⟨e, ?_⟩
  rw [q, show gn g 84 3 = N9 h from N9_K k, show gn g 84 0 = P9 h from P9_K k, k.2.2.2, sgv_cg (fun s hs => (E s hs).1) (fun s hs => (E s hs).2.1) (fun s hs => mR_b hh hs) (fun s hs k hk => (E s hs).2.2 k hk)]
  rfl
/-- a heap that tells the same of slots and street -/
noncomputable def SK (h h' : pm_H) : Prop := K9 h h' ∧ REQ h h'
theorem why_K {is : Bool} (hh : HH h) (k : SK h g) : why g is x = why h is x := by
  unfold why
  rw [N9_K k.1, P9_K k.1]
  exact sgv_cg (fun s hs => (k.2 s hs).1) (fun s hs => (k.2 s hs).2.1) (fun s hs => mR_b hh hs) (fun s hs q hk => (k.2 s hs).2.2 q hk)
theorem seen_K {s : Nat} {sp : Nat → Nat} (hh : HH h) (hs : s < 4) (k : SK h g) : seen g s sp = seen h s sp := by
  have := mR_b hh hs
  unfold seen
  rw [(k.2 s hs).2.1, allB_cg (fun q hq => asB_cg (by omega) (k.2 s hs).2.2)]
theorem SK_fr {M : List Rng} (f : fr_g M h g) (h4 : M.all (fun r => !(Nat.beq r.1 84)) = true) (h5 : M.all (fun r => !(Nat.beq r.1 85)) = true) (h7 : M.all (fun r => !(Nat.beq r.1 87)) = true) (h3 : M.all (fun r => !(Nat.beq r.1 83)) = true) (hr : slrB M = true) : SK h g := ⟨K9_fr f h4 h5 h7 h3, REQ_of f hr⟩
/-- the class parks all by a law: where each stands -/
theorem sp_parkNowS {l : Nat} (hh : HH h) (hg : HH g) (f : fr_g FL h g) (R : QRE h) (l3 : l ≤ 3) : Sp (d + 5) 153 g [.ref 0, .ref 17, .int (nJ l)] (fun h' r => r = none ∧ HH h' ∧ fr_g FL h h' ∧ ∀ i, i < N9 h → gi h' 63 i = nJ (spt l (P9 h) (2 ^ N9 h - 1) (W9 h) i)) := by
  have s := R.2.1.1
  have k : ∀ j, gn g 15 j = gn h 15 j := fun j => fr_gn f (rg_no rfl _)
  have k7 : gn g 17 = gn h 17 := funext fun j => fr_gn f (rg_no rfl _)
  have e4 : gn g 15 4 = N9 h := (k 4).trans (gn_eq s.2.2.1)
  have e0 : gn g 15 0 = P9 h := (k 0).trans (gn_eq (s.2.1 0 (by omega)))
  have B := B9_of R
  have ne : ∀ c, c < N9 h → gn h 17 c = W9 h c := fun c hc => (now_eq R c hc).1
  refine Sp_mono ?_ (sp_park8B (d := d) (A := 17) (hi := 8) rfl (by decide) hg l3 (fun c hc => by rw [e4] at hc; rw [k7, ne c hc, e0]; exact B c hc))
  rintro h' r ⟨e, a1, a2, a3⟩
  rw [e4, e0, k7] at a3
  exact ⟨e, a1, fr_trans f a2, fun i hi => by rw [a3.2.2.2 i hi, spt_W (W' := W9 h) (fun c hc => ne c (by omega))]⟩
/-- the reference parks all by a law: what it touches -/
theorem sp_parksByF {l : Nat} (hh : HH h) (hg : HH g) (k : K9 h g) (V : V9 h) (B : B9 h) (l3 : l ≤ 3) : Sp (d + 5) 321 g [.ref 77, .int (nJ l)] (fun h' r => r = none ∧ (K9 h h' ∧ PK9 h l (2 ^ N9 h - 1) h') ∧ fr_g (YM ++ PKF) g h') := by
  obtain ⟨-, p8, n8⟩ := g9s hh
  refine Sp_of aiX9_parksBy rfl rfl rfl ?_
  have L0 : pm_get (lv_args 0 [.ref 77, .int (nJ l)]) 0 = some (.ref 77) := rfl
  have L1 : pm_get (lv_args 0 [.ref 77, .int (nJ l)]) 1 = some (.int (nJ l)) := rfl
  generalize lv_args 0 [.ref 77, .int (nJ l)] = lv at L0 L1 ⊢
  refine E_al rfl L0 ?_
  refine E_call rfl (Sp_le (by omega) (sp_laysX (d := d) hg (V9_K k V))) (chk77 hg rfl rfl (by show 0 ≤ 8; decide)) (fun h2 r2 => ?_)
  rintro ⟨e2, hh2, f2, -, q23, w2⟩
  rw [e2]
  have T := LY9_of k hh2 f2 w2
  rw [show gn g 84 3 = N9 h from N9_K k] at q23
  refine E_al rfl L0 ?_
  refine E_il rfl L1 ?_
  refine E_call rfl (sp_parksX (d := d) (l := l) (s := 2 ^ N9 h - 1) hh2 l3 (all_lt n8) q23 (wbX T B)) (chk77 hh2 rfl rfl (by show 0 ≤ 8; decide)) (fun h3 r3 => ?_)
  rintro ⟨e3, hh3, f3, t3⟩
  rw [e3]
  rw [T.2.1, T.2.2.1] at t3
  exact E_ret rfl ⟨rfl, ⟨K9_tr k (K9_tr (K9_fr f2 rfl rfl rfl rfl) (K9_fr f3 rfl rfl rfl rfl)), PK9_of (g := h2) (h2 := h2) hh2 T hh3 f3 (fun _ _ _ => rfl) (PKD_W T.2.2.2 t3)⟩, fr_trans (fr_wk rfl f2) (fr_wk rfl f3)⟩
theorem spt_8 (hh : HH h) (B : B9 h) {l s i : Nat} (hi : i < N9 h) : spt l (P9 h) s (W9 h) i < 1000 := by
  obtain ⟨-, p8, -⟩ := g9s hh
  rcases spt_ok (l := l) (s := s) (W := W9 h) (B i hi).1 (B i hi).2 with e | ⟨_, e, _⟩ <;> omega
end BRG
end
section
/-! laws of both (wants u115) -/
noncomputable def lawB (p : Nat → Bool) : Nat → Nat
  | 0 => 0
  | l + 1 => bif p l then lawB p l + 2 ^ l else lawB p l
theorem lawB_lt {p : Nat → Bool} : ∀ l, lawB p l < 2 ^ l
  | 0 => by show 0 < 1; omega
  | l + 1 => by
    have := lawB_lt (p := p) l
    have e : 2 ^ (l + 1) = 2 ^ l + 2 ^ l := by rw [Nat.pow_succ]; omega
    show (bif p l then lawB p l + 2 ^ l else lawB p l) < _
    cases p l
    · show lawB p l < _; omega
    · show lawB p l + 2 ^ l < _; omega
theorem lawB_cg {p q : Nat → Bool} : ∀ {l : Nat}, (∀ k, k < l → p k = q k) → lawB p l = lawB q l
  | 0, _ => rfl
  | l + 1, e => by
    show (bif p l then lawB p l + 2 ^ l else lawB p l) = (bif q l then lawB q l + 2 ^ l else lawB q l)
    rw [lawB_cg (fun k hk => e k (by omega)), e l (by omega)]
theorem isB_hiX : ∀ m : Fin 256, ∀ k : Fin 9, m.val < 2 ^ k.val → isB m.val k.val = false := by decide +kernel
noncomputable def lwS (h : pm_H) (s l : Nat) : Bool := seen h s (fun c => spt l (P9 h) (2 ^ N9 h - 1) (W9 h) c)
noncomputable def lwv (h : pm_H) (x : Int32) : Int32 := if why h (decide (0 < (gi h 83 0).toInt)) x = 0 then nJ (lawB (lwS h x.toInt.toNat) 4) else why h (decide (0 < (gi h 83 0).toInt)) x
section LAW
variable {h : pm_H} {d : Nat} {x : Int32}
theorem la8_loop {s : Nat} (hh : HH h) (R : QRE h) (N : NU h) (hs : s < 4) (G : GOOD (rf h) (mR h) (rlN h) (N9 h) (P9 h) s) (j : Nat) : ∀ {g : pm_H} {l : Nat} (lv : List (Nat × Value)), l + j = 4 → HH g → fr_g FL h g → pm_get lv 0 = some (.ref 0) → pm_get lv 1 = some (.int (nJ s)) → pm_get lv 3 = some (.int (nJ (lawB (lwS h s) l))) → pm_get lv 4 = some (.int (nJ l)) → Ends (pm_at tX8_laws) (pm_Rt pm_P (d + 5)) (21, lv, [], g, 0, 0) (fun h' r => fr_g FL h h' ∧ r = some (.int (nJ (lawB (lwS h s) 4)))) := by
  obtain ⟨l3, p8, n8⟩ := g9s hh
  have B := B9_of R
  induction j with
  | zero =>
    intro g l lv hj hg f L0 L1 L3 L4
    refine E_il rfl L4 ?_
    refine E_ci 4 rfl (by decide) ?_
    refine E_icT rfl (decide_eq_true ((nJ_le (by omega) (by omega)).mpr (by omega))) ?_
    refine E_il rfl L3 ?_
    have e : l = 4 := by omega
    exact E_rti rfl ⟨f, by rw [e]⟩
  | succ j ih =>
    intro g l lv hj hg f L0 L1 L3 L4
    have bl := lawB_lt (p := lwS h s) l
    have b8 : 2 ^ l ≤ 2 ^ 3 := Nat.pow_le_pow_right (by omega) (by omega)
    refine E_il rfl L4 ?_
    refine E_ci 4 rfl (by decide) ?_
    refine E_icF rfl (decide_eq_false (fun z => absurd ((nJ_le (by omega) (by omega)).mp z) (by omega))) ?_
    refine E_al rfl L0 ?_
    refine E_al rfl L0 ?_
    refine E_ogr (q := 15) rfl hg rfl rfl ?_
    refine E_ogr (q := 17) rfl hg rfl rfl ?_
    refine E_il rfl L4 ?_
    refine E_call rfl (sp_parkNowS (d := d) hh hg f R (show l ≤ 3 by omega)) (chkO (a := 0) hg rfl rfl rfl rfl (by show 0 ≤ 8; decide)) (fun h2 r2 => ?_)
    rintro ⟨e2, hh2, f2, t2⟩
    rw [e2]
    refine E_al rfl L0 ?_
    refine E_al rfl L0 ?_
    refine E_ogr (q := 53) rfl hh2 rfl rfl ?_
    refine E_il rfl L1 ?_
    refine E_aal rfl hh2 rfl (slot_at s hs) (by decide) ?_
    refine E_call rfl (Sp_le (by omega) (sp_isAsSeenH (d := d) (sp := fun c => spt l (P9 h) (2 ^ N9 h - 1) (W9 h) c) hh hh2 (CEQ_of R N f2 rfl) hs n8 G (fun c hc => ⟨t2 c hc, spt_8 hh B hc⟩))) (chkO (a := 0) hh2 rfl rfl rfl rfl (by show 0 ≤ 8; decide)) (fun h3 r3 => ?_)
    rintro ⟨e3, f3⟩
    rw [e3, f3]
    have ep : lawB (lwS h s) (l + 1) = bif lwS h s l then lawB (lwS h s) l + 2 ^ l else lawB (lwS h s) l := rfl
    have nx : ∀ lv : List (Nat × Value), pm_get lv 0 = some (.ref 0) → pm_get lv 1 = some (.int (nJ s)) → pm_get lv 3 = some (.int (nJ (lawB (lwS h s) (l + 1)))) → pm_get lv 4 = some (.int (nJ l)) → Ends (pm_at tX8_laws) (pm_Rt pm_P (d + 5)) (60, lv, [], h2, 0, 0) (fun h' r => fr_g FL h h' ∧ r = some (.int (nJ (lawB (lwS h s) 4)))) := by
      intro lv M0 M1 M3 M4
      refine E_inc rfl M4 (nJ_inc _) (fun lv2 K4 kp => ?_)
      refine E_goto rfl ?_
      exact ih lv2 (by omega) hh2 f2 (kp 0 _ (by decide) rfl M0) (kp 1 _ (by decide) rfl M1) (kp 3 _ (by decide) rfl M3) K4
    show Ends _ _ (50, lv, [.int (nJ (b1N (lwS h s l)))], h2, 0, 0) _
    cases b : lwS h s l with
    | false =>
      rw [b] at ep
      refine E_ifT rfl (by decide) ?_
      exact nx lv L0 L1 (by rw [ep]; exact L3) L4
    | true =>
      rw [b] at ep
      refine E_ifF rfl (by decide) ?_
      refine E_il rfl L3 ?_
      refine E_ci 1 rfl (by decide) ?_
      refine E_il rfl L4 ?_
      refine E_bin rfl (show nJ 1 <<< (nJ l &&& 31) = nJ (2 ^ l) from shl_tab ⟨l, by omega⟩) ?_
      refine E_bin rfl (show nJ (lawB (lwS h s) l) ||| nJ (2 ^ l) = nJ (lawB (lwS h s) l + 2 ^ l) from or2_tab ⟨lawB (lwS h s) l, by omega⟩ ⟨l, by omega⟩ (isB_hiX ⟨lawB (lwS h s) l, by omega⟩ ⟨l, by omega⟩ bl)) ?_
      refine E_is rfl (fun lv1 K3 kp => ?_)
      exact nx lv1 (kp 0 _ (by decide) rfl L0) (kp 1 _ (by decide) rfl L1) (by rw [ep]; exact K3) (kp 4 _ (by decide) rfl L4)
theorem sp_laws8 (hh : HH h) (R : QRE h) (N : NU h) : Sp (d + 6) 138 h [.ref 0, .int x] (fun h' r => fr_g FL h h' ∧ r = some (.int (lwv h x))) := by
  refine Sp_of aiX8_laws rfl rfl rfl ?_
  have L0 : pm_get (lv_args 0 [.ref 0, .int x]) 0 = some (.ref 0) := rfl
  have L1 : pm_get (lv_args 0 [.ref 0, .int x]) 1 = some (.int x) := rfl
  generalize lv_args 0 [.ref 0, .int x] = lv at L0 L1 ⊢
  refine E_al rfl L0 ?_
  refine E_il rfl L1 ?_
  refine E_al rfl L0 ?_
  refine E_call rfl (Sp_le (by omega) (sp_hasStreet8 (d := d) hh)) (chkO (a := 0) hh rfl rfl rfl rfl (by show 2 ≤ 8; decide)) (fun h1 r1 => ?_)
  rintro ⟨e1, f1⟩
  rw [e1, f1]
  have ez : (zb (0 < gn h 15 0) : Int32) = zb (decide (0 < (gi h 83 0).toInt) = true) := by
    rw [← zb_dcX]
    by_cases b : 0 < gn h 15 0
    · rw [zb_T b, zb_T ((st_eq R).mp b)]
    · rw [zb_F b, zb_F (fun q => b ((st_eq R).mpr q))]
  rw [ez]
  refine E_call rfl (Sp_le (by omega) (sp_sightH (d := d) (x := x) (is := decide (0 < (gi h 83 0).toInt)) hh R N)) (chkO (a := 0) hh rfl rfl rfl rfl (by show 0 ≤ 8; decide)) (fun h2 r2 => ?_)
  rintro ⟨e2, f2⟩
  rw [e2, f2]
  refine E_is rfl (fun lv1 K2 kp => ?_)
  have A0 := kp 0 _ (by decide) rfl L0
  have A1 := kp 1 _ (by decide) rfl L1
  refine E_il rfl K2 ?_
  by_cases z : why h (decide (0 < (gi h 83 0).toInt)) x = 0
  · rw [show lwv h x = nJ (lawB (lwS h x.toInt.toNat) 4) from if_pos z]
    refine E_ifT rfl (decide_eq_true z) ?_
    obtain ⟨-, s, hs, rfl, G⟩ := sgv_0 z
    rw [nJ_nat hs]
    refine E_ci 0 rfl (by decide) ?_
    refine E_is rfl (fun lv2 K3 kp2 => ?_)
    refine E_ci 0 rfl (by decide) ?_
    refine E_is rfl (fun lv3 K4 kp3 => ?_)
    exact la8_loop hh R N hs G 4 (l := 0) lv3 (by omega) hh (fr_rf _ _) (kp3 0 _ (by decide) rfl (kp2 0 _ (by decide) rfl A0)) (kp3 1 _ (by decide) rfl (kp2 1 _ (by decide) rfl A1)) (kp3 3 _ (by decide) rfl K3) K4
  · rw [show lwv h x = why h (decide (0 < (gi h 83 0).toInt)) x from if_neg z]
    refine E_ifF rfl (decide_eq_false z) ?_
    refine E_il rfl K2 ?_
    exact E_rti rfl ⟨fr_rf _ _, rfl⟩
theorem la9_loop {s : Nat} (hh : HH h) (V : V9 h) (B : B9 h) (hs : s < 4) (G : GOOD (rf h) (mR h) (rlN h) (N9 h) (P9 h) s) (j : Nat) : ∀ {g : pm_H} {l : Nat} (lv : List (Nat × Value)), l + j = 4 → HH g → K9 h g → REQ h g → pm_get lv 0 = some (.ref 77) → pm_get lv 1 = some (.int (nJ s)) → pm_get lv 3 = some (.int (nJ (lawB (lwS h s) l))) → pm_get lv 4 = some (.int (nJ l)) → Ends (pm_at tX9_laws) (pm_Rt pm_P (d + 5)) (23, lv, [], g, 0, 0) (fun h' r => r = some (.int (nJ (lawB (lwS h s) 4)))) := by
  obtain ⟨l3, p8, n8⟩ := g9s hh
  induction j with
  | zero =>
    intro g l lv hj hg k E L0 L1 L3 L4
    refine E_il rfl L4 ?_
    refine E_ci 4 rfl (by decide) ?_
    refine E_icT rfl (decide_eq_true ((nJ_le (by omega) (by omega)).mpr (by omega))) ?_
    refine E_il rfl L3 ?_
    have e : l = 4 := by omega
    exact E_rti rfl (by rw [e])
  | succ j ih =>
    intro g l lv hj hg k E L0 L1 L3 L4
    have bl := lawB_lt (p := lwS h s) l
    have b8 : 2 ^ l ≤ 2 ^ 3 := Nat.pow_le_pow_right (by omega) (by omega)
    refine E_il rfl L4 ?_
    refine E_ci 4 rfl (by decide) ?_
    refine E_icF rfl (decide_eq_false (fun z => absurd ((nJ_le (by omega) (by omega)).mp z) (by omega))) ?_
    refine E_al rfl L0 ?_
    refine E_il rfl L4 ?_
    refine E_call rfl (sp_parksByF (d := d) hh hg k V B (show l ≤ 3 by omega)) (chk77 hg rfl rfl (by show 0 ≤ 8; decide)) (fun h2 r2 => ?_)
    rintro ⟨e2, ⟨k2, T⟩, f2⟩
    rw [e2]
    have E2 : REQ h h2 := fun q hq => by
      obtain ⟨a1, a2, a3⟩ := REQ_of f2 rfl q hq
      obtain ⟨b1, b2, b3⟩ := E q hq
      exact ⟨a1.trans b1, a2.trans b2, fun i hi => (a3 i hi).trans (b3 i hi)⟩
    have hh2 := T.1
    refine E_il rfl L3 ?_
    refine E_al rfl L0 ?_
    refine E_il rfl L1 ?_
    refine E_call rfl (Sp_le (by omega) (sp_isSoH (d := d) (sp := fun c => spt l (P9 h) (2 ^ N9 h - 1) (W9 h) c) hh hh2 E2 hs n8 G (fun c hc => ⟨T.2.2.2.2.2.1 c hc, spt_8 hh B hc⟩))) (chk77 hh2 rfl rfl (by show 1 ≤ 8; decide)) (fun h3 r3 => ?_)
    rintro ⟨e3, f3⟩
    rw [e3, f3]
    have ep : lawB (lwS h s) (l + 1) = bif lwS h s l then lawB (lwS h s) l + 2 ^ l else lawB (lwS h s) l := rfl
    have nx : ∀ y : Int32, nJ (lawB (lwS h s) l) ||| y = nJ (lawB (lwS h s) (l + 1)) → Ends (pm_at tX9_laws) (pm_Rt pm_P (d + 5)) (52, lv, [.int y, .int (nJ (lawB (lwS h s) l))], h2, 0, 0) (fun h' r => r = some (.int (nJ (lawB (lwS h s) 4)))) := by
      intro y ey
      refine E_bin rfl ey ?_
      refine E_is rfl (fun lv1 K3 kp => ?_)
      refine E_inc rfl (kp 4 _ (by decide) rfl L4) (nJ_inc _) (fun lv2 K4 kp2 => ?_)
      refine E_goto rfl ?_
      exact ih lv2 (by omega) hh2 k2 E2 (kp2 0 _ (by decide) rfl (kp 0 _ (by decide) rfl L0)) (kp2 1 _ (by decide) rfl (kp 1 _ (by decide) rfl L1)) (kp2 3 _ (by decide) rfl K3) K4
    show Ends _ _ (41, lv, [.int (nJ (b1N (lwS h s l))), .int (nJ (lawB (lwS h s) l))], h2, 0, 0) _
    cases b : lwS h s l with
    | false =>
      rw [b] at ep
      refine E_ifT rfl (by decide) ?_
      refine E_ci 0 rfl (by decide) ?_
      exact nx _ (by rw [ep]; exact Int32.or_zero)
    | true =>
      rw [b] at ep
      refine E_ifF rfl (by decide) ?_
      refine E_ci 1 rfl (by decide) ?_
      refine E_il rfl L4 ?_
      refine E_bin rfl (show nJ 1 <<< (nJ l &&& 31) = nJ (2 ^ l) from shl_tab ⟨l, by omega⟩) ?_
      refine E_goto rfl ?_
      exact nx _ (by rw [ep]; exact or2_tab ⟨lawB (lwS h s) l, by omega⟩ ⟨l, by omega⟩ (isB_hiX ⟨lawB (lwS h s) l, by omega⟩ ⟨l, by omega⟩ bl))
theorem sp_laws9 (hh : HH h) (V : V9 h) (B : B9 h) : Sp (d + 6) 292 h [.ref 77, .int x] (fun h' r => r = some (.int (lwv h x))) := by
  refine Sp_of aiX9_laws rfl rfl rfl ?_
  have L0 : pm_get (lv_args 0 [.ref 77, .int x]) 0 = some (.ref 77) := rfl
  have L1 : pm_get (lv_args 0 [.ref 77, .int x]) 1 = some (.int x) := rfl
  generalize lv_args 0 [.ref 77, .int x] = lv at L0 L1 ⊢
  refine E_al rfl L0 ?_
  refine E_ci 0 rfl (by decide) ?_
  refine E_pf rfl hh rfl ?_
  have hg : HH (pt h 77 0 (nJ 0)) := HH_ptn hh rfl (by omega) (by omega) (by omega)
  have k : K9 h (pt h 77 0 (nJ 0)) := K9_77
  have E : REQ h (pt h 77 0 (nJ 0)) := REQ_of (M := [(77, 0, 0)]) (fr_ptr (l := 0) (u := 0) rfl (by omega) (by omega) (fr_rf _ _)) rfl
  generalize pt h 77 0 (nJ 0) = g at hg k E ⊢
  refine E_al rfl L0 ?_
  refine E_il rfl L1 ?_
  refine E_ci 1 rfl (by decide) ?_
  show Ends _ _ (8, lv, [.int (zb (true = true)), .int x, .ref 77], g, 0, 0) _
  refine E_call rfl (Sp_le (by omega) (sp_whyNotH (d := d) (x := x) (is := true) hh hg k E)) (chk77 hg rfl rfl (by show 0 ≤ 8; decide)) (fun h2 r2 => ?_)
  rintro ⟨e2, f2⟩
  rw [e2, f2, Bool.and_true]
  refine E_is rfl (fun lv1 K2 kp => ?_)
  have A0 := kp 0 _ (by decide) rfl L0
  have A1 := kp 1 _ (by decide) rfl L1
  refine E_il rfl K2 ?_
  by_cases z : why h (decide (0 < (gi h 83 0).toInt)) x = 0
  · rw [show lwv h x = nJ (lawB (lwS h x.toInt.toNat) 4) from if_pos z]
    refine E_ifT rfl (decide_eq_true z) ?_
    obtain ⟨-, s, hs, rfl, G⟩ := sgv_0 z
    rw [nJ_nat hs]
    refine E_ci 0 rfl (by decide) ?_
    refine E_is rfl (fun lv2 K3 kp2 => ?_)
    refine E_ci 0 rfl (by decide) ?_
    refine E_is rfl (fun lv3 K4 kp3 => ?_)
    exact la9_loop hh V B hs G 4 (l := 0) lv3 (by omega) hg k E (kp3 0 _ (by decide) rfl (kp2 0 _ (by decide) rfl A0)) (kp3 1 _ (by decide) rfl (kp2 1 _ (by decide) rfl A1)) (kp3 3 _ (by decide) rfl K3) K4
  · rw [show lwv h x = why h (decide (0 < (gi h 83 0).toInt)) x from if_neg z]
    refine E_ifF rfl (decide_eq_false z) ?_
    refine E_il rfl K2 ?_
    exact E_rti rfl rfl
end LAW
theorem lwv_K {h g : pm_H} {x : Int32} (hh : HH h) (k : SK h g) : lwv g x = lwv h x := by
  have e : ∀ s, s < 4 → lawB (lwS g s) 4 = lawB (lwS h s) 4 := fun s hs => lawB_cg (fun l _ => by
    unfold lwS
    rw [P9_K k.1, N9_K k.1, W9_K k.1]
    exact seen_K hh hs k)
  unfold lwv
  rw [k.1.2.2.2, why_K hh k]
  by_cases z : why h (decide (0 < (gi h 83 0).toInt)) x = 0
  · rw [if_pos z, if_pos z]
    obtain ⟨-, s, hs, rfl, -⟩ := sgv_0 z
    rw [nJ_nat hs, e s hs]
  · rw [if_neg z, if_neg z]
noncomputable def half_laws (h : pm_H) (r x : Int32) : Prop := (QRE h ∧ NU h) ∧ r = lwv h x
theorem n8_laws {h : pm_H} {x : Int32} (I : IVN h) : Sp 100 138 h [.ref 0, .int x] (fun h' v => IVh h' ∧ ∃ r : Int32, v = some (.int r) ∧ half_laws h' r x) := by
  refine Sp_le (by omega) (Sp_mono ?_ (Sp_and (top_all (as := [.ref 0, .int x]) q667 (by decide +kernel) I.1 ⟨rfl, aI _, trivial⟩) (sp_laws8 (d := 0) I.1.1 I.2.1 I.2.2)))
  rintro h' v ⟨⟨s1, s2, -⟩, k, rfl⟩
  exact ⟨s1, _, rfl, ⟨QRE_fr s2 rfl I.2.1, NU_fr s2 rfl I.2.2⟩, by rw [lwv_K I.1.1 (SK_fr k rfl rfl rfl rfl rfl)]⟩
theorem n9_laws {h : pm_H} {r x : Int32} (I : IVh h) (J : half_laws h r x) : Sp 100 292 h [.ref 77, .int x] (fun h' v => IVN h' ∧ v = some (.int r)) := by
  obtain ⟨J1, rfl⟩ := J
  refine Sp_le (by omega) (Sp_mono ?_ (Sp_and (top_all (as := [.ref 77, .int x]) q669 (by decide +kernel) I ⟨rfl, aI _, trivial⟩) (sp_laws9 (d := 0) I.1 (V9_of J1.1) (B9_of J1.1))))
  rintro h' v ⟨⟨s1, s2, -⟩, rfl⟩
  exact ⟨⟨s1, QRE_fr s2 rfl J1.1, NU_fr s2 rfl J1.2⟩, rfl⟩
end
