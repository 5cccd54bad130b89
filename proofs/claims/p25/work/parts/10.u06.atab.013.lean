section
section SR
variable {h : pm_H} {d a c k : Nat} {x : Int32}
theorem sp_isSlot8 : Sp (d + 1) 127 h [.int x] (fun h' r => h' = h ∧ ((0 ≤ x.toInt ∧ x.toInt ≤ 3 ∧ r = some (.int 1)) ∨ (¬ (0 ≤ x.toInt ∧ x.toInt ≤ 3) ∧ r = some (.int 0)))) := by
  refine Sp_of aiX8_isSlot rfl rfl rfl ?_
  have L0 : pm_get (lv_args 0 [.int x]) 0 = some (.int x) := rfl
  generalize lv_args 0 [.int x] = lv at L0 ⊢
  have z0 : (0 : Int32).toInt = 0 := rfl
  refine E_il rfl L0 ?_
  by_cases b1 : x < 0
  · have q := Int32.lt_iff_toInt_lt.mp b1
    refine E_ifT rfl (decide_eq_true b1) ?_
    refine E_ci 0 rfl (by decide) ?_
    exact E_rtz rfl (.inl rfl) ⟨rfl, .inr ⟨by omega, rfl⟩⟩
  · have q : ¬ x.toInt < (0 : Int32).toInt := fun z => b1 (Int32.lt_iff_toInt_lt.mpr z)
    refine E_ifF rfl (decide_eq_false b1) ?_
    refine E_il rfl L0 ?_
    refine E_ci 4 rfl (by decide) ?_
    by_cases b2 : nJ 4 ≤ x
    · have q2 := Int32.le_iff_toInt_le.mp b2
      rw [nJ_toInt (by omega)] at q2
      refine E_icT rfl (decide_eq_true b2) ?_
      refine E_ci 0 rfl (by decide) ?_
      exact E_rtz rfl (.inl rfl) ⟨rfl, .inr ⟨by omega, rfl⟩⟩
    · have q2 : ¬ (nJ 4).toInt ≤ x.toInt := fun z => b2 (Int32.le_iff_toInt_le.mpr z)
      rw [nJ_toInt (by omega)] at q2
      refine E_icF rfl (decide_eq_false b2) ?_
      refine E_ci 1 rfl (by decide) ?_
      refine E_goto rfl ?_
      exact E_rtz rfl (.inr rfl) ⟨rfl, .inl ⟨by omega, by omega, rfl⟩⟩
theorem sp_sight (hh : HH h) : Sp 2 180 h [.ref 0, .int x, .int (nJ 1)] (SgQ h x) := by
  refine Sp_of (d := 1) aiX8_sightRefusal rfl rfl rfl ?_
  have L0 : pm_get (lv_args 0 [.ref 0, .int x, .int (nJ 1)]) 0 = some (.ref 0) := rfl
  have L1 : pm_get (lv_args 0 [.ref 0, .int x, .int (nJ 1)]) 1 = some (.int x) := rfl
  have L2 : pm_get (lv_args 0 [.ref 0, .int x, .int (nJ 1)]) 2 = some (.int (nJ 1)) := rfl
  generalize lv_args 0 [.ref 0, .int x, .int (nJ 1)] = lv at L0 L1 L2 ⊢
  have no : ∀ {lv : List (Nat × Value)}, Ends (pm_at tX8_sightRefusal) (pm_Rt pm_P 1) (11, lv, [], h, 0, 0) (SgQ h x) := by
    intro lv
    refine E_c rfl ?_
    exact E_rti rfl ⟨rfl, .inl ⟨_, rfl, by decide, by decide⟩⟩
  refine E_il rfl L1 ?_
  refine E_call rfl (sp_isSlot8 (d := 0)) (chkS rfl (by show 0 ≤ 8; decide)) (fun h1 r1 => ?_)
  rintro ⟨e1, rv⟩
  rw [e1]
  rcases rv with ⟨hx0, hx3, hr⟩ | ⟨-, hr⟩
  · rw [hr]
    refine E_ifF rfl (by decide) ?_
    refine E_il rfl L2 ?_
    refine E_ifT rfl (by decide) ?_
    obtain ⟨s, hs, rfl⟩ : ∃ s, s < 4 ∧ x = nJ s := ⟨x.toInt.toNat, by omega, nJ_of hx0⟩
    obtain ⟨S1, S2, S3, S4, S5, S6⟩ := isS_at s hs
    refine E_al rfl L0 ?_
    refine E_ogr rfl hh rfl (q := 53) rfl ?_
    refine E_il rfl L1 ?_
    refine E_aal rfl hh rfl (slot_at s hs) (by decide) ?_
    refine E_asr rfl (fun lv1 M3 kp => ?_)
    have M0 := kp 0 _ (by decide) rfl L0
    refine E_al rfl M3 ?_
    refine E_ogf rfl hh S1 S4 rfl ?_
    by_cases b1 : gi h (54 + 2 * s) 1 = 0
    · refine E_ifF rfl (decide_eq_false (fun q => q b1)) ?_
      refine E_c rfl ?_
      exact E_rti rfl ⟨rfl, .inl ⟨_, rfl, by decide, by decide⟩⟩
    · refine E_ifT rfl (decide_eq_true b1) ?_
      have f1 : gi h (54 + 2 * s) 1 = 1 := by
        have q := (ld_gi hh S4).2
        apply Int32.toInt_inj.mp
        have z1 : (1 : Int32).toInt = 1 := rfl
        have z0 : ¬ (gi h (54 + 2 * s) 1).toInt = 0 := fun z => b1 (Int32.toInt_inj.mp z)
        dsimp only at q
        omega
      refine E_al rfl M3 ?_
      refine E_ogf rfl hh S1 S6 rfl ?_
      refine E_c rfl ?_
      refine E_dv rfl (by decide) ?_
      by_cases b2 : gi h (54 + 2 * s) 3 - gi h (54 + 2 * s) 3 / 2 * 2 = 0
      · refine E_ifT rfl (decide_eq_true b2) ?_
        refine E_ci 0 rfl (by decide) ?_
        refine E_is rfl (fun lv2 N4 kp2 => ?_)
        have hn : gn h (54 + 2 * s) 3 ≤ 60 := gn_hi hh S6 (by decide)
        exact sr_loop hh hs rfl f1 60 (k := 0) lv2 (by omega) (by omega) (fun m hm => absurd hm (Nat.not_lt_zero m)) (kp2 0 _ (by decide) rfl M0) (kp2 3 _ (by decide) rfl M3) N4
      · refine E_ifF rfl (decide_eq_false b2) ?_
        refine E_c rfl ?_
        exact E_rti rfl ⟨rfl, .inl ⟨_, rfl, by decide, by decide⟩⟩
  · rw [hr]
    refine E_ifT rfl (by decide) ?_
    exact no
end SR
end
section
/-! the bits of small numbers: bitCount of the class, sizeOf of the reference (wants t0) -/
noncomputable def pcT (m : Nat) : Nat := (List.range 9).foldl (fun a k => bif isB m k then a + 1 else a) 0
noncomputable def bcnA (x : Int32) : Int32 := x - ((x.toUInt32 >>> (Int32.toUInt32 1 &&& Int32.toUInt32 31)).toInt32 &&& 1431655765)
noncomputable def bcnB (x : Int32) : Int32 := (x &&& 858993459) + ((x.toUInt32 >>> (Int32.toUInt32 2 &&& Int32.toUInt32 31)).toInt32 &&& 858993459)
noncomputable def bcnC (x : Int32) : Int32 := (x + (x.toUInt32 >>> (Int32.toUInt32 4 &&& Int32.toUInt32 31)).toInt32) &&& 252645135
noncomputable def bcnD (x : Int32) : Int32 := x + (x.toUInt32 >>> (Int32.toUInt32 8 &&& Int32.toUInt32 31)).toInt32
noncomputable def bcnE (x : Int32) : Int32 := (x + (x.toUInt32 >>> (Int32.toUInt32 16 &&& Int32.toUInt32 31)).toInt32) &&& 63
noncomputable def bcn (x : Int32) : Int32 := bcnE (bcnD (bcnC (bcnB (bcnA x))))
theorem bcn_tab : ∀ m : Fin 512, bcn (nJ m.val) = nJ (pcT m.val) := by decide +kernel
theorem sp_bitCount {h : pm_H} {d : Nat} {x : Int32} : Sp (d + 1) 7 h [.int x] (fun h' r => h' = h ∧ r = some (.int (bcn x))) := by
  refine Sp_of aiJ6_bitCount_0f7a4 rfl rfl rfl ?_
  have L0 : pm_get (lv_args 0 [.int x]) 0 = some (.int x) := rfl
  generalize lv_args 0 [.int x] = lv at L0 ⊢
  refine E_il rfl L0 ?_
  refine E_il rfl L0 ?_
  refine E_c rfl ?_
  refine E_bin rfl rfl ?_
  refine E_c rfl ?_
  refine E_bin rfl rfl ?_
  refine E_bin (v := bcnA x) rfl rfl ?_
  refine E_is rfl (fun lv1 K1 _ => ?_)
  refine E_il rfl K1 ?_
  refine E_c rfl ?_
  refine E_bin rfl rfl ?_
  refine E_il rfl K1 ?_
  refine E_c rfl ?_
  refine E_bin rfl rfl ?_
  refine E_c rfl ?_
  refine E_bin rfl rfl ?_
  refine E_bin (v := bcnB (bcnA x)) rfl rfl ?_
  refine E_is rfl (fun lv2 K2 _ => ?_)
  refine E_il rfl K2 ?_
  refine E_il rfl K2 ?_
  refine E_c rfl ?_
  refine E_bin rfl rfl ?_
  refine E_bin rfl rfl ?_
  refine E_c rfl ?_
  refine E_bin (v := bcnC (bcnB (bcnA x))) rfl rfl ?_
  refine E_is rfl (fun lv3 K3 _ => ?_)
  refine E_il rfl K3 ?_
  refine E_il rfl K3 ?_
  refine E_c rfl ?_
  refine E_bin rfl rfl ?_
  refine E_bin (v := bcnD (bcnC (bcnB (bcnA x)))) rfl rfl ?_
  refine E_is rfl (fun lv4 K4 _ => ?_)
  refine E_il rfl K4 ?_
  refine E_il rfl K4 ?_
  refine E_c rfl ?_
  refine E_bin rfl rfl ?_
  refine E_bin rfl rfl ?_
  refine E_is rfl (fun lv5 K5 _ => ?_)
  refine E_il rfl K5 ?_
  refine E_c rfl ?_
  refine E_bin (v := bcn x) rfl rfl ?_
  exact E_rti rfl ⟨rfl, rfl⟩
noncomputable def bcK (k : Int) (m : Nat) : Bool := (decide (2 ≤ pcT m) && decide ((pcT m : Int) ≤ k)) || (Nat.beq (pcT m) 1 || Nat.beq (pcT m) 0)
theorem pcT_le : ∀ m : Fin 512, pcT m.val ≤ 9 := by decide +kernel
theorem bc_sum {hi k : Int} (h5 : hi < 512) (hc : (List.range (hi.toNat + 1)).all (bcK k) = true) : sum_g w0 (pm_Rt pm_P 1) (7, [cI 0 hi], [], [], [], [([cI 0 hi], [], [], some (.inl (cI 2 k))), ([cI 0 hi], [], [], some (.inl (cI 1 1))), ([cI 0 hi], [], [], some (.inl (cI 0 0)))]) := by
  intro h as hh ha _ _
  match as, ha with
  | [.int x], ⟨h1, _⟩ =>
    have h1 : (0 : Int) ≤ x.toInt ∧ x.toInt ≤ hi := h1
    obtain ⟨m, hm, rfl⟩ : ∃ m, m < 512 ∧ x = nJ m := ⟨x.toInt.toNat, by omega, nJ_of h1.1⟩
    have hx := nJ_toInt (n := m) (by omega)
    obtain ⟨h', r, p1, e, rfl⟩ := sp_bitCount (h := h) (d := 0) (x := nJ m)
    subst e
    have ck := List.all_eq_true.mp hc m (List.mem_range.mpr (by omega))
    have p9 := pcT_le ⟨m, hm⟩
    dsimp only at p9
    refine ⟨h', _, p1, hh, fun _ _ _ => rfl, ?_⟩
    rw [bcn_tab ⟨m, hm⟩]
    have z := nJ_toInt (n := pcT m) (by omega)
    unfold bcK at ck
    rw [Bool.or_eq_true, Bool.and_eq_true, Bool.or_eq_true] at ck
    rcases ck with ⟨c1, c2⟩ | c | c
    · have c1 := of_decide_eq_true c1
      have c2 := of_decide_eq_true c2
      exact ⟨_, List.mem_cons_self, ⟨⟨h1.1, h1.2⟩, trivial⟩, fun _ hq => absurd hq List.not_mem_nil, fun _ hq => absurd hq List.not_mem_nil, ⟨by show (2 : Int) ≤ (nJ (pcT m)).toInt; omega, by show (nJ (pcT m)).toInt ≤ k; omega⟩⟩
    · have c := Nat.eq_of_beq_eq_true c
      exact ⟨_, List.mem_cons_of_mem _ List.mem_cons_self, ⟨⟨h1.1, h1.2⟩, trivial⟩, fun _ hq => absurd hq List.not_mem_nil, fun _ hq => absurd hq List.not_mem_nil, ⟨by show (1 : Int) ≤ (nJ (pcT m)).toInt; omega, by show (nJ (pcT m)).toInt ≤ 1; omega⟩⟩
    · have c := Nat.eq_of_beq_eq_true c
      exact ⟨_, List.mem_cons_of_mem _ (List.mem_cons_of_mem _ List.mem_cons_self), ⟨⟨h1.1, h1.2⟩, trivial⟩, fun _ hq => absurd hq List.not_mem_nil, fun _ hq => absurd hq List.not_mem_nil, ⟨by show (0 : Int) ≤ (nJ (pcT m)).toInt; omega, by show (nJ (pcT m)).toInt ≤ 0; omega⟩⟩
theorem sz_tab : ∀ m : Fin 512, m.val = 0 ∨ (m.val &&& (m.val - 1)) < m.val ∧ pcT m.val = pcT (m.val &&& (m.val - 1)) + 1 ∧ nJ m.val &&& nJ (m.val - 1) = nJ (m.val &&& (m.val - 1)) := by decide +kernel
theorem sz_loop {h : pm_H} {d : Nat} (j : Nat) : ∀ {m a : Nat} (lv : List (Nat × Value)), m < 512 → m ≤ j → pm_get lv 1 = some (.int (nJ a)) → pm_get lv 2 = some (.int (nJ m)) → Ends (pm_at tX9_sizeOf) (pm_Rt pm_P d) (4, lv, [], h, 0, 0) (fun h' r => h' = h ∧ r = some (.int (nJ (a + pcT m)))) := by
  induction j with
  | zero =>
    intro m a lv hm hj L1 L2
    have e : m = 0 := by omega
    subst e
    refine E_il rfl L2 ?_
    refine E_ifT rfl (decide_eq_true rfl) ?_
    refine E_il rfl L1 ?_
    exact E_rti rfl ⟨rfl, rfl⟩
  | succ j ih =>
    intro m a lv hm hj L1 L2
    refine E_il rfl L2 ?_
    rcases sz_tab ⟨m, hm⟩ with e | ⟨e1, e2, e3⟩
    · have e : m = 0 := e
      subst e
      refine E_ifT rfl (decide_eq_true rfl) ?_
      refine E_il rfl L1 ?_
      exact E_rti rfl ⟨rfl, rfl⟩
    · have e1 : (m &&& (m - 1)) < m := e1
      have e2 : pcT m = pcT (m &&& (m - 1)) + 1 := e2
      refine E_ifF rfl (decide_eq_false (fun q => by have := (nJ_eq0 (by omega)).mp q; omega)) ?_
      refine E_inc rfl L1 (nJ_inc _) (fun lv1 K1 kp => ?_)
      have M2 := kp 2 _ (by decide) rfl L2
      refine E_il rfl M2 ?_
      refine E_il rfl M2 ?_
      refine E_ci 1 rfl (by decide) ?_
      refine E_bin rfl (nJ_sub (by omega)) ?_
      refine E_bin rfl e3 ?_
      refine E_is rfl (fun lv2 K2 kp2 => ?_)
      refine E_goto rfl ?_
      rw [e2, show a + (pcT (m &&& (m - 1)) + 1) = a + 1 + pcT (m &&& (m - 1)) by omega]
      exact ih lv2 (by omega) (by omega) (kp2 1 _ (by decide) rfl K1) K2
end
