section
/-! by hand: the code of a tree (written by gen_t12.py) -/
/-- a node that is left and hangs from this one -/
noncomputable def ind (f : Nat → Nat) (g node k : Nat) : Nat := if 1 ≤ k ∧ f k = node ∧ isB g k = false then 1 else 0
theorem ind_T {f : Nat → Nat} {g node k : Nat} (h : 1 ≤ k ∧ f k = node ∧ isB g k = false) : ind f g node k = 1 := if_pos h
theorem ind_F {f : Nat → Nat} {g node k : Nat} (h : ¬ (1 ≤ k ∧ f k = node ∧ isB g k = false)) : ind f g node k = 0 := if_neg h
theorem ind_ne {f : Nat → Nat} {g node k : Nat} (h : ind f g node k ≠ 0) : 1 ≤ k ∧ f k = node ∧ isB g k = false := by
  by_cases q : 1 ≤ k ∧ f k = node ∧ isB g k = false
  · exact q
  · exact absurd (ind_F q) h
noncomputable def upl (f : Nat → Nat) (g node : Nat) : Nat := if node ≠ 0 ∧ isB g (f node) = false then 1 else 0
noncomputable def limb (f : Nat → Nat) (g node P : Nat) : Nat := upl f g node + lc (ind f g node) (P + 1)
theorem lc_le (l : Nat → Nat) : ∀ n, lc l n ≤ n
  | 0 => Nat.le_refl _
  | n + 1 => by
    have := lc_le l n
    unfold lc
    split <;> omega
theorem lc_none {l : Nat → Nat} : ∀ {n : Nat}, (∀ v, v < n → l v = 0) → lc l n = 0
  | 0, _ => rfl
  | n + 1, h => by
    unfold lc
    rw [lc_none (n := n) (fun v hv => h v (by omega)), if_pos (h n (by omega))]
theorem upl_le (f : Nat → Nat) (g node : Nat) : upl f g node ≤ 1 := by unfold upl; split <;> omega
theorem limb_le (f : Nat → Nat) (g node P : Nat) : limb f g node P ≤ P + 2 := by
  have := lc_le (ind f g node) (P + 1)
  have := upl_le f g node
  unfold limb
  omega
noncomputable def NZ (f : Nat → Nat) : Nat → Nat → Prop
  | 0, k => k ≠ 0
  | n + 1, k => k ≠ 0 ∧ NZ f n (f k)
theorem dep_nz {f : Nat → Nat} : ∀ {n k : Nat}, dep f n k → NZ f n k → False
  | 0, _, h, q => q h
  | _ + 1, _, .inl h, q => q.1 h
  | _ + 1, _, .inr h, q => dep_nz h q.2
/-- what is left hangs together: one node on top -/
noncomputable def CI (f : Nat → Nat) (P g : Nat) : Prop := ∃ t, t ≤ P ∧ isB g t = false ∧ (∀ v, v ≤ P → isB g v = false → v ≠ t → v ≠ 0 ∧ isB g (f v) = false) ∧ (t = 0 ∨ isB g (f t) = true)
theorem un2 {g N t : Nat} (hg : g < 512) (hN : N ≤ 9) (h : pcn g N + 2 ≤ N) (ht : t < N) : ∃ v, v < N ∧ v ≠ t ∧ isB g v = false := by
  by_cases hx : ∃ v, v < N ∧ v ≠ t ∧ isB g v = false
  · exact hx
  · exfalso
    have hall : ∀ v, v < N → v ≠ t → isB g v = true := fun v a b => by
      cases hz : isB g v with
      | true => rfl
      | false => exact absurd ⟨v, a, b, hz⟩ hx
    cases hz : isB g t with
    | true =>
      have : ∀ n, n ≤ N → pcn g n = n := by
        intro n
        induction n with
        | zero => intro _; rfl
        | succ n ih =>
          intro hn
          unfold pcn
          rw [ih (by omega), if_pos]
          by_cases e : n = t
          · rw [e]; exact hz
          · exact hall n (by omega) e
      have := this N (Nat.le_refl _)
      omega
    | false =>
      have : ∀ n, n ≤ N → pcn (g + 2 ^ t) n = n := by
        intro n
        induction n with
        | zero => intro _; rfl
        | succ n ih =>
          intro hn
          unfold pcn
          rw [ih (by omega), if_pos]
          rw [isB_add hg (by omega) (by omega) hz]
          by_cases e : n = t
          · rw [e, beq_self_eq_true]; rfl
          · rw [hall n (by omega) e, Bool.or_true]
      have h1 := this N (Nat.le_refl _)
      rw [pcn_add hg (by omega) hz hN, if_pos ht] at h1
      omega
theorem leaf_in {f : Nat → Nat} {P g : Nat} (hP : P ≤ 8) (hg : g < 512) (C : CI f P g) (hD : ∀ v, 1 ≤ v → v ≤ P → dep f 8 v) (h2 : pcn g (P + 1) + 2 ≤ P + 1) : ∃ v, v ≤ P ∧ isB g v = false ∧ limb f g v P = 1 := by
  obtain ⟨t, t1, t2, t3, t4⟩ := C
  by_cases hx : ∃ v, v ≤ P ∧ isB g v = false ∧ limb f g v P = 1
  · exact hx
  · exfalso
    have kid : ∀ v, v ≤ P → isB g v = false → v ≠ t → ∃ k, (k ≤ P ∧ isB g k = false ∧ k ≠ t) ∧ f k = v := by
      intro v v1 v2 v3
      by_cases hy : ∃ k, (k ≤ P ∧ isB g k = false ∧ k ≠ t) ∧ f k = v
      · exact hy
      · exfalso
        refine hx ⟨v, v1, v2, ?_⟩
        have hu := t3 v v1 v2 v3
        unfold limb upl
        rw [if_pos hu, lc_none]
        intro k hk
        refine ind_F (fun ⟨q1, q2, q3⟩ => ?_)
        by_cases e : k = t
        · subst e
          cases t4 with
          | inl q => omega
          | inr q => rw [q2, v2] at q; cases q
        · exact hy ⟨k, ⟨by omega, q3, e⟩, q2⟩
    obtain ⟨v0, a1, a2, a3⟩ := un2 hg (show P + 1 ≤ 9 by omega) h2 (show t < P + 1 by omega)
    have chain : ∀ n, ∃ k, (k ≤ P ∧ isB g k = false ∧ k ≠ t) ∧ NZ f n k := by
      intro n
      induction n with
      | zero => exact ⟨v0, ⟨by omega, a3, a2⟩, (t3 v0 (by omega) a3 a2).1⟩
      | succ n ih =>
        obtain ⟨k, ⟨k1, k2, k3⟩, k4⟩ := ih
        obtain ⟨k', ⟨q1, q2, q3⟩, q4⟩ := kid k k1 k2 k3
        exact ⟨k', ⟨q1, q2, q3⟩, (t3 k' q1 q2 q3).1, by rw [q4]; exact k4⟩
    obtain ⟨k, ⟨k1, k2, k3⟩, k4⟩ := chain 8
    have hk0 := (t3 k k1 k2 k3).1
    exact dep_nz (hD k (by omega) k1) k4
theorem CI_step {f : Nat → Nat} {P g x : Nat} (hP : P ≤ 8) (hg : g < 512) (hF : ∀ v, 1 ≤ v → v ≤ P → f v ≤ P) (C : CI f P g) (hx : x ≤ P) (hz : isB g x = false) (hl : limb f g x P = 1) : CI f P (g + 2 ^ x) := by
  obtain ⟨t, t1, t2, t3, t4⟩ := C
  have hB : ∀ v, v ≤ P → isB (g + 2 ^ x) v = (v == x || isB g v) := fun v hv => isB_add hg (by omega) (by omega) hz
  have hB0 : ∀ v, v ≤ P → isB (g + 2 ^ x) v = false → v ≠ x ∧ isB g v = false := fun v hv q => by
    rw [hB v hv, Bool.or_eq_false_iff] at q
    exact ⟨beq_eq_false_iff_ne.mp q.1, q.2⟩
  have hB1 : ∀ v, v ≤ P → v ≠ x → isB g v = false → isB (g + 2 ^ x) v = false := fun v hv q1 q2 => by
    rw [hB v hv, q2, Bool.or_false]; exact beq_eq_false_iff_ne.mpr q1
  unfold limb at hl
  by_cases hxt : x = t
  · subst hxt
    have hu : upl f g x = 0 := by
      refine if_neg (fun ⟨q1, q2⟩ => ?_)
      cases t4 with
      | inl q => exact q1 q
      | inr q => rw [q2] at q; cases q
    rw [hu, Nat.zero_add] at hl
    obtain ⟨u, u1, u2⟩ := lc_pos (l := ind f g x) (n := P + 1) (by omega)
    obtain ⟨q1, q2, q3⟩ := ind_ne u2
    have hux : u ≠ x := fun e => by
      subst e
      cases t4 with
      | inl q => omega
      | inr q => rw [q2, q3] at q; cases q
    have honly : ∀ v, v ≤ P → ind f g x v ≠ 0 → v = u := fun v v1 v2 => by
      by_cases e : v = u
      · exact e
      · exfalso
        have s1 := lc_fu0 u2 (n := P + 1) u1
        have s2 := lc_zero (l := fu (ind f g x) u 0) (n := P + 1) (by omega) v (by omega)
        rw [fu_ne e] at s2
        exact v2 s2
    refine ⟨u, by omega, hB1 u (by omega) hux q3, fun v v1 v2 v3 => ?_, .inr ?_⟩
    · obtain ⟨b1, b2⟩ := hB0 v v1 v2
      obtain ⟨c1, c2⟩ := t3 v v1 b2 b1
      refine ⟨c1, hB1 _ (hF v (by omega) v1) (fun e => v3 (honly v v1 (by rw [ind_T ⟨by omega, e, b2⟩]; decide))) c2⟩
    · rw [q2, hB x hx, beq_self_eq_true]; rfl
  · have hu := t3 x hx hz hxt
    have hu1 : upl f g x = 1 := if_pos hu
    have hno : ∀ v, v < P + 1 → ind f g x v = 0 := lc_zero (by omega)
    refine ⟨t, t1, hB1 t t1 (Ne.symm hxt) t2, fun v v1 v2 v3 => ?_, ?_⟩
    · obtain ⟨b1, b2⟩ := hB0 v v1 v2
      obtain ⟨c1, c2⟩ := t3 v v1 b2 v3
      refine ⟨c1, hB1 _ (hF v (by omega) v1) (fun e => ?_) c2⟩
      have := hno v (by omega)
      rw [ind_T ⟨by omega, e, b2⟩] at this
      cases this
    · cases t4 with
      | inl q => exact .inl q
      | inr q =>
        by_cases t0 : t = 0
        · exact .inl t0
        · right
          rw [hB _ (hF t (by omega) t1), q, Bool.or_true]
theorem lb_loop {h : pm_H} {d node g : Nat} (hh : HH h) (hn : node ≤ 8) (hg : g < 512) (j : Nat) : ∀ {k n : Nat} (lv : List (Nat × Value)), k + j = gn h 84 0 + 1 → 1 ≤ k → n = upl (gn h 92) g node + lc (ind (gn h 92) g node) k → pm_get lv 0 = some (.ref 77) → pm_get lv 1 = some (.int (nJ node)) → pm_get lv 2 = some (.int (nJ g)) → pm_get lv 3 = some (.int (nJ n)) → pm_get lv 4 = some (.int (nJ k)) → Ends (pm_at tX9_limbsOf) (pm_Rt pm_P (d + 1)) (26, lv, [], h, 0, 0) (fun h' r => h' = h ∧ r = some (.int (nJ (limb (gn h 92) g node (gn h 84 0))))) := by
  have hP8 : gn h 84 0 ≤ 8 := gn_hi hh rfl (by decide)
  induction j with
  | zero =>
    intro k n lv hj hk hv L0 L1 L2 L3 L4
    refine E_il rfl L4 ?_
    refine E_al rfl L0 ?_
    refine E_call rfl (sp_places hh) (chk77 hh rfl rfl (by show 1 ≤ 8; decide)) (fun h1 r1 => ?_)
    rintro ⟨e1, f1, c1⟩
    rw [e1, f1]
    show Ends _ _ (32, lv, [.int (nJ (gn h 84 0)), .int (nJ k)], h, 0, 0) _
    refine E_icT rfl (decide_eq_true ((nJ_lt (by omega) (by omega)).mpr (by omega))) ?_
    refine E_il rfl L3 ?_
    exact E_rti rfl ⟨rfl, by rw [hv, show k = gn h 84 0 + 1 by omega]; rfl⟩
  | succ j ih =>
    intro k n lv hj hk hv L0 L1 L2 L3 L4
    refine E_il rfl L4 ?_
    refine E_al rfl L0 ?_
    refine E_call rfl (sp_places hh) (chk77 hh rfl rfl (by show 1 ≤ 8; decide)) (fun h1 r1 => ?_)
    rintro ⟨e1, f1, c1⟩
    rw [e1, f1]
    show Ends _ _ (32, lv, [.int (nJ (gn h 84 0)), .int (nJ k)], h, 0, 0) _
    refine E_icF rfl (decide_eq_false (fun q => absurd ((nJ_lt (by omega) (by omega)).mp q) (by omega))) ?_
    have hnl := lc_le (ind (gn h 92) g node) k
    have hul := upl_le (gn h 92) g node
    refine E_il rfl L3 ?_
    refine E_al rfl L0 ?_
    refine E_gr rfl hh (q := 92) rfl ?_
    refine E_il rfl L4 ?_
    have b2 : gn h 92 k ≤ 8 := gn_hi hh (bd_u rfl (by omega)) (by decide)
    refine E_ial rfl hh rfl (by omega) (by decide) (gi_gn hh (bd_u rfl (by omega)) (by decide)) ?_
    refine E_il rfl L1 ?_
    by_cases hb3 : ¬ (gn h 92 k) = node
    · refine E_icT rfl (decide_eq_true (fun q => hb3 ((nJ_eq (by omega) (by omega)).mp q))) ?_
      have hZ : ¬ (1 ≤ k ∧ gn h 92 k = node ∧ isB g k = false) := fun q => hb3 q.2.1
      refine E_ci 0 rfl ci0 ?_
      refine E_bin rfl (nJ_add _ _) ?_
      refine E_is rfl (fun lv4 L4_3 kp4 => ?_)
      have L4_0 := kp4 0 _ (nbz rfl) rfl L0
      have L4_1 := kp4 1 _ (nbz rfl) rfl L1
      have L4_2 := kp4 2 _ (nbz rfl) rfl L2
      have L4_4 := kp4 4 _ (nbz rfl) rfl L4
      refine E_inc rfl L4_4 (nJ_inc _) (fun lv5 L5_4 kp5 => ?_)
      have L5_0 := kp5 0 _ (nbz rfl) rfl L4_0
      have L5_1 := kp5 1 _ (nbz rfl) rfl L4_1
      have L5_2 := kp5 2 _ (nbz rfl) rfl L4_2
      have L5_3 := kp5 3 _ (nbz rfl) rfl L4_3
      refine E_goto rfl ?_
      refine ih lv5 (by omega) (by omega) ?_ L5_0 L5_1 L5_2 L5_3 L5_4
      show n + 0 = _ + (lc _ k + (if ind _ _ _ k = 0 then 0 else 1)); rw [ind_F hZ, if_pos rfl]; omega
    · refine E_icF rfl (decide_eq_false (fun q => hb3 (fun z => q ((nJ_eq (by omega) (by omega)).mpr z)))) ?_
      have hX : gn h 92 k = node := Classical.not_not.mp hb3
      refine E_il rfl L2 ?_
      refine E_il rfl L4 ?_
      refine E_call rfl (sp_isBit (by omega) (by omega)) (chkS rfl (by show 1 ≤ 8; decide)) (fun h6 r6 => ?_)
      rintro ⟨e6, f6⟩
      rw [e6, f6]
      show Ends _ _ (53, lv, [.int (nJ (bif isB g k then 1 else 0)), .int (nJ n)], h, 0, 0) _
      by_cases hb7 : isB g k = true
      · refine E_ifT rfl (by rw [hb7]; rfl) ?_
        have hZ : ¬ (1 ≤ k ∧ gn h 92 k = node ∧ isB g k = false) := fun q => by rw [q.2.2] at hb7; cases hb7
        refine E_ci 0 rfl ci0 ?_
        refine E_bin rfl (nJ_add _ _) ?_
        refine E_is rfl (fun lv8 L8_3 kp8 => ?_)
        have L8_0 := kp8 0 _ (nbz rfl) rfl L0
        have L8_1 := kp8 1 _ (nbz rfl) rfl L1
        have L8_2 := kp8 2 _ (nbz rfl) rfl L2
        have L8_4 := kp8 4 _ (nbz rfl) rfl L4
        refine E_inc rfl L8_4 (nJ_inc _) (fun lv9 L9_4 kp9 => ?_)
        have L9_0 := kp9 0 _ (nbz rfl) rfl L8_0
        have L9_1 := kp9 1 _ (nbz rfl) rfl L8_1
        have L9_2 := kp9 2 _ (nbz rfl) rfl L8_2
        have L9_3 := kp9 3 _ (nbz rfl) rfl L8_3
        refine E_goto rfl ?_
        refine ih lv9 (by omega) (by omega) ?_ L9_0 L9_1 L9_2 L9_3 L9_4
        show n + 0 = _ + (lc _ k + (if ind _ _ _ k = 0 then 0 else 1)); rw [ind_F hZ, if_pos rfl]; omega
      · refine E_ifF rfl (by rw [Bool.not_eq_true] at hb7; rw [hb7]; rfl) ?_
        have hY : isB g k = false := by rw [Bool.not_eq_true] at hb7; exact hb7
        refine E_ci 1 rfl ci1 ?_
        refine E_goto rfl ?_
        refine E_bin rfl (nJ_add _ _) ?_
        refine E_is rfl (fun lv10 L10_3 kp10 => ?_)
        have L10_0 := kp10 0 _ (nbz rfl) rfl L0
        have L10_1 := kp10 1 _ (nbz rfl) rfl L1
        have L10_2 := kp10 2 _ (nbz rfl) rfl L2
        have L10_4 := kp10 4 _ (nbz rfl) rfl L4
        refine E_inc rfl L10_4 (nJ_inc _) (fun lv11 L11_4 kp11 => ?_)
        have L11_0 := kp11 0 _ (nbz rfl) rfl L10_0
        have L11_1 := kp11 1 _ (nbz rfl) rfl L10_1
        have L11_2 := kp11 2 _ (nbz rfl) rfl L10_2
        have L11_3 := kp11 3 _ (nbz rfl) rfl L10_3
        refine E_goto rfl ?_
        refine ih lv11 (by omega) (by omega) ?_ L11_0 L11_1 L11_2 L11_3 L11_4
        show n + 1 = _ + (lc _ k + (if ind _ _ _ k = 0 then 0 else 1)); rw [ind_T ⟨hk, hX, hY⟩, if_neg (by decide)]; omega
theorem sp_limbsOf {h : pm_H} {d node g : Nat} (hh : HH h) (hn : node ≤ 8) (hg : g < 512) : Sp (d + 2) 303 h [.ref 77, .int (nJ node), .int (nJ g)] (fun h' r => h' = h ∧ r = some (.int (nJ (limb (gn h 92) g node (gn h 84 0))))) := by
  refine Sp_of aiX9_limbsOf rfl rfl rfl ?_
  refine E_il rfl (show pm_get (lv_args 0 [.ref 77, .int (nJ node), .int (nJ g)]) 1 = _ from rfl) ?_
  by_cases hb1 : node = 0
  · refine E_ifT rfl (decide_eq_true ((nJ_eq0 (by omega)).mpr hb1)) ?_
    have hZ : ¬ (node ≠ 0 ∧ isB g (gn h 92 node) = false) := fun q => q.1 hb1
    refine E_ci 0 rfl ci0 ?_
    refine E_is rfl (fun lv2 L2_3 kp2 => ?_)
    have L2_0 := kp2 0 _ (nbz rfl) rfl (show pm_get (lv_args 0 [.ref 77, .int (nJ node), .int (nJ g)]) 0 = _ from rfl)
    have L2_1 := kp2 1 _ (nbz rfl) rfl (show pm_get (lv_args 0 [.ref 77, .int (nJ node), .int (nJ g)]) 1 = _ from rfl)
    have L2_2 := kp2 2 _ (nbz rfl) rfl (show pm_get (lv_args 0 [.ref 77, .int (nJ node), .int (nJ g)]) 2 = _ from rfl)
    refine E_ci 1 rfl ci1 ?_
    refine E_is rfl (fun lv3 L3_4 kp3 => ?_)
    have L3_0 := kp3 0 _ (nbz rfl) rfl L2_0
    have L3_1 := kp3 1 _ (nbz rfl) rfl L2_1
    have L3_2 := kp3 2 _ (nbz rfl) rfl L2_2
    have L3_3 := kp3 3 _ (nbz rfl) rfl L2_3
    refine lb_loop hh hn hg (gn h 84 0) (k := 1) (n := 0) lv3 (by omega) (by omega) ?_ L3_0 L3_1 L3_2 L3_3 L3_4
    have h1 : lc (ind (gn h 92) g node) 1 = 0 := by show 0 + (if ind (gn h 92) g node 0 = 0 then 0 else 1) = 0; rw [ind_F (fun q => by omega), if_pos rfl]
    rw [h1, show upl (gn h 92) g node = 0 from if_neg hZ]
  · refine E_ifF rfl (decide_eq_false (fun q => hb1 ((nJ_eq0 (by omega)).mp q))) ?_
    have hX : node ≠ 0 := hb1
    refine E_il rfl (show pm_get (lv_args 0 [.ref 77, .int (nJ node), .int (nJ g)]) 2 = _ from rfl) ?_
    refine E_al rfl (show pm_get (lv_args 0 [.ref 77, .int (nJ node), .int (nJ g)]) 0 = _ from rfl) ?_
    refine E_gr rfl hh (q := 92) rfl ?_
    refine E_il rfl (show pm_get (lv_args 0 [.ref 77, .int (nJ node), .int (nJ g)]) 1 = _ from rfl) ?_
    have b4 : gn h 92 node ≤ 8 := gn_hi hh (bd_u rfl (by omega)) (by decide)
    refine E_ial rfl hh rfl (by omega) (by decide) (gi_gn hh (bd_u rfl (by omega)) (by decide)) ?_
    refine E_call rfl (sp_isBit (by omega) (by omega)) (chkS rfl (by show 0 ≤ 8; decide)) (fun h5 r5 => ?_)
    rintro ⟨e5, f5⟩
    rw [e5, f5]
    show Ends _ _ (14, (lv_args 0 [.ref 77, .int (nJ node), .int (nJ g)]), [.int (nJ (bif isB g ((gn h 92 node)) then 1 else 0))], h, 0, 0) _
    by_cases hb6 : isB g ((gn h 92 node)) = true
    · refine E_ifT rfl (by rw [hb6]; rfl) ?_
      have hZ : ¬ (node ≠ 0 ∧ isB g (gn h 92 node) = false) := fun q => by rw [q.2] at hb6; cases hb6
      refine E_ci 0 rfl ci0 ?_
      refine E_is rfl (fun lv7 L7_3 kp7 => ?_)
      have L7_0 := kp7 0 _ (nbz rfl) rfl (show pm_get (lv_args 0 [.ref 77, .int (nJ node), .int (nJ g)]) 0 = _ from rfl)
      have L7_1 := kp7 1 _ (nbz rfl) rfl (show pm_get (lv_args 0 [.ref 77, .int (nJ node), .int (nJ g)]) 1 = _ from rfl)
      have L7_2 := kp7 2 _ (nbz rfl) rfl (show pm_get (lv_args 0 [.ref 77, .int (nJ node), .int (nJ g)]) 2 = _ from rfl)
      refine E_ci 1 rfl ci1 ?_
      refine E_is rfl (fun lv8 L8_4 kp8 => ?_)
      have L8_0 := kp8 0 _ (nbz rfl) rfl L7_0
      have L8_1 := kp8 1 _ (nbz rfl) rfl L7_1
      have L8_2 := kp8 2 _ (nbz rfl) rfl L7_2
      have L8_3 := kp8 3 _ (nbz rfl) rfl L7_3
      refine lb_loop hh hn hg (gn h 84 0) (k := 1) (n := 0) lv8 (by omega) (by omega) ?_ L8_0 L8_1 L8_2 L8_3 L8_4
      have h1 : lc (ind (gn h 92) g node) 1 = 0 := by show 0 + (if ind (gn h 92) g node 0 = 0 then 0 else 1) = 0; rw [ind_F (fun q => by omega), if_pos rfl]
      rw [h1, show upl (gn h 92) g node = 0 from if_neg hZ]
    · refine E_ifF rfl (by rw [Bool.not_eq_true] at hb6; rw [hb6]; rfl) ?_
      have hY : isB g (gn h 92 node) = false := by rw [Bool.not_eq_true] at hb6; exact hb6
      refine E_ci 1 rfl ci1 ?_
      refine E_goto rfl ?_
      refine E_is rfl (fun lv9 L9_3 kp9 => ?_)
      have L9_0 := kp9 0 _ (nbz rfl) rfl (show pm_get (lv_args 0 [.ref 77, .int (nJ node), .int (nJ g)]) 0 = _ from rfl)
      have L9_1 := kp9 1 _ (nbz rfl) rfl (show pm_get (lv_args 0 [.ref 77, .int (nJ node), .int (nJ g)]) 1 = _ from rfl)
      have L9_2 := kp9 2 _ (nbz rfl) rfl (show pm_get (lv_args 0 [.ref 77, .int (nJ node), .int (nJ g)]) 2 = _ from rfl)
      refine E_ci 1 rfl ci1 ?_
      refine E_is rfl (fun lv10 L10_4 kp10 => ?_)
      have L10_0 := kp10 0 _ (nbz rfl) rfl L9_0
      have L10_1 := kp10 1 _ (nbz rfl) rfl L9_1
      have L10_2 := kp10 2 _ (nbz rfl) rfl L9_2
      have L10_3 := kp10 3 _ (nbz rfl) rfl L9_3
      refine lb_loop hh hn hg (gn h 84 0) (k := 1) (n := 1) lv10 (by omega) (by omega) ?_ L10_0 L10_1 L10_2 L10_3 L10_4
      have h1 : lc (ind (gn h 92) g node) 1 = 0 := by show 0 + (if ind (gn h 92) g node 0 = 0 then 0 else 1) = 0; rw [ind_F (fun q => by omega), if_pos rfl]
      rw [h1, show upl (gn h 92) g node = 1 from if_pos ⟨hX, hY⟩]
theorem oe_loop {h : pm_H} {d node g : Nat} (hh : HH h) (hn : node ≤ 8) (hg : g < 512) (hu : upl (gn h 92) g node = 0) (j : Nat) : ∀ {k : Nat} (lv : List (Nat × Value)), k + j = gn h 84 0 + 1 → 1 ≤ k → (∀ k1, k1 < k → ind (gn h 92) g node k1 = 0) → pm_get lv 0 = some (.ref 77) → pm_get lv 1 = some (.int (nJ node)) → pm_get lv 2 = some (.int (nJ g)) → pm_get lv 3 = some (.int (nJ k)) → Ends (pm_at tX9_otherEnd) (pm_Rt pm_P (d + 1)) (26, lv, [], h, 0, 0) (fun h' r => h' = h ∧ ∃ x : Int32, r = some (.int x) ∧ (limb (gn h 92) g node (gn h 84 0) ≠ 0 → ∃ v, v ≤ 8 ∧ x = nJ v)) := by
  have hP8 : gn h 84 0 ≤ 8 := gn_hi hh rfl (by decide)
  induction j with
  | zero =>
    intro k lv hj hk hz L0 L1 L2 L3
    refine E_il rfl L3 ?_
    refine E_al rfl L0 ?_
    refine E_call rfl (sp_places hh) (chk77 hh rfl rfl (by show 1 ≤ 8; decide)) (fun h1 r1 => ?_)
    rintro ⟨e1, f1, c1⟩
    rw [e1, f1]
    show Ends _ _ (31, lv, [.int (nJ (gn h 84 0)), .int (nJ k)], h, 0, 0) _
    refine E_icT rfl (decide_eq_true ((nJ_lt (by omega) (by omega)).mpr (by omega))) ?_
    refine E_c rfl ?_
    exact E_rti rfl ⟨rfl, _, rfl, fun q => absurd (show limb (gn h 92) g node (gn h 84 0) = 0 by unfold limb; rw [hu, lc_none (fun v hv => hz v (by omega))]) q⟩
  | succ j ih =>
    intro k lv hj hk hz L0 L1 L2 L3
    refine E_il rfl L3 ?_
    refine E_al rfl L0 ?_
    refine E_call rfl (sp_places hh) (chk77 hh rfl rfl (by show 1 ≤ 8; decide)) (fun h1 r1 => ?_)
    rintro ⟨e1, f1, c1⟩
    rw [e1, f1]
    show Ends _ _ (31, lv, [.int (nJ (gn h 84 0)), .int (nJ k)], h, 0, 0) _
    refine E_icF rfl (decide_eq_false (fun q => absurd ((nJ_lt (by omega) (by omega)).mp q) (by omega))) ?_
    refine E_al rfl L0 ?_
    refine E_gr rfl hh (q := 92) rfl ?_
    refine E_il rfl L3 ?_
    have b2 : gn h 92 k ≤ 8 := gn_hi hh (bd_u rfl (by omega)) (by decide)
    refine E_ial rfl hh rfl (by omega) (by decide) (gi_gn hh (bd_u rfl (by omega)) (by decide)) ?_
    refine E_il rfl L1 ?_
    by_cases hb3 : ¬ (gn h 92 k) = node
    · refine E_icT rfl (decide_eq_true (fun q => hb3 ((nJ_eq (by omega) (by omega)).mp q))) ?_
      have hZ : ¬ (1 ≤ k ∧ gn h 92 k = node ∧ isB g k = false) := fun q => hb3 q.2.1
      refine E_inc rfl L3 (nJ_inc _) (fun lv4 L4_3 kp4 => ?_)
      have L4_0 := kp4 0 _ (nbz rfl) rfl L0
      have L4_1 := kp4 1 _ (nbz rfl) rfl L1
      have L4_2 := kp4 2 _ (nbz rfl) rfl L2
      refine E_goto rfl ?_
      refine ih lv4 (by omega) (by omega) (fun k1 h1 => ?_) L4_0 L4_1 L4_2 L4_3
      by_cases e : k1 = k
      · rw [e]; exact ind_F hZ
      · exact hz k1 (by omega)
    · refine E_icF rfl (decide_eq_false (fun q => hb3 (fun z => q ((nJ_eq (by omega) (by omega)).mpr z)))) ?_
      refine E_il rfl L2 ?_
      refine E_il rfl L3 ?_
      refine E_call rfl (sp_isBit (by omega) (by omega)) (chkS rfl (by show 0 ≤ 8; decide)) (fun h5 r5 => ?_)
      rintro ⟨e5, f5⟩
      rw [e5, f5]
      show Ends _ _ (49, lv, [.int (nJ (bif isB g k then 1 else 0))], h, 0, 0) _
      by_cases hb6 : isB g k = true
      · refine E_ifT rfl (by rw [hb6]; rfl) ?_
        have hZ : ¬ (1 ≤ k ∧ gn h 92 k = node ∧ isB g k = false) := fun q => by rw [q.2.2] at hb6; cases hb6
        refine E_inc rfl L3 (nJ_inc _) (fun lv7 L7_3 kp7 => ?_)
        have L7_0 := kp7 0 _ (nbz rfl) rfl L0
        have L7_1 := kp7 1 _ (nbz rfl) rfl L1
        have L7_2 := kp7 2 _ (nbz rfl) rfl L2
        refine E_goto rfl ?_
        refine ih lv7 (by omega) (by omega) (fun k1 h1 => ?_) L7_0 L7_1 L7_2 L7_3
        by_cases e : k1 = k
        · rw [e]; exact ind_F hZ
        · exact hz k1 (by omega)
      · refine E_ifF rfl (by rw [Bool.not_eq_true] at hb6; rw [hb6]; rfl) ?_
        refine E_il rfl L3 ?_
        exact E_rti rfl ⟨rfl, _, rfl, fun _ => ⟨_, by omega, rfl⟩⟩
end
