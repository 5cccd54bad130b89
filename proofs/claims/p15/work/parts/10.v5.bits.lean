/-! the bits of small numbers: bitCount of the class, sizeOf of the reference (wants t0) -/
noncomputable def pcT (m : Nat) : Nat := (List.range 9).foldl (fun a k => bif isB m k then a + 1 else a) 0
noncomputable def bcnA (x : Int32) : Int32 := x - ((x.toUInt32 >>> (Int32.toUInt32 1 &&& Int32.toUInt32 31)).toInt32 &&& 1431655765)
noncomputable def bcnB (x : Int32) : Int32 := (x &&& 858993459) + ((x.toUInt32 >>> (Int32.toUInt32 2 &&& Int32.toUInt32 31)).toInt32 &&& 858993459)
noncomputable def bcnC (x : Int32) : Int32 := (x + (x.toUInt32 >>> (Int32.toUInt32 4 &&& Int32.toUInt32 31)).toInt32) &&& 252645135
noncomputable def bcnD (x : Int32) : Int32 := x + (x.toUInt32 >>> (Int32.toUInt32 8 &&& Int32.toUInt32 31)).toInt32
noncomputable def bcnE (x : Int32) : Int32 := (x + (x.toUInt32 >>> (Int32.toUInt32 16 &&& Int32.toUInt32 31)).toInt32) &&& 63
noncomputable def bcn (x : Int32) : Int32 := bcnE (bcnD (bcnC (bcnB (bcnA x))))
theorem bcn_tab : ∀ m : Fin 512, bcn (nJ m.val) = nJ (pcT m.val) := by decide +kernel
theorem sp_bitCount {h : pm_H} {d : Nat} {x : Int32} : Sp (d + 1) 7 h [.int x] (fun h' r => h' = h ∧ r = some (.int (bcn x))) := by
  refine Sp_of aiJ6_bitCount_0f7a4 rfl rfl rfl ?_
  have L0 : pm_get (lv_args 0 [.int x]) 0 = some (.int x) := rfl
  generalize lv_args 0 [.int x] = lv at L0 ⊢
  refine E_il rfl L0 ?_
  refine E_il rfl L0 ?_
  refine E_c rfl ?_
  refine E_bin rfl rfl ?_
  refine E_c rfl ?_
  refine E_bin rfl rfl ?_
  refine E_bin (v := bcnA x) rfl rfl ?_
  refine E_is rfl (fun lv1 K1 _ => ?_)
  refine E_il rfl K1 ?_
  refine E_c rfl ?_
  refine E_bin rfl rfl ?_
  refine E_il rfl K1 ?_
  refine E_c rfl ?_
  refine E_bin rfl rfl ?_
  refine E_c rfl ?_
  refine E_bin rfl rfl ?_
  refine E_bin (v := bcnB (bcnA x)) rfl rfl ?_
  refine E_is rfl (fun lv2 K2 _ => ?_)
  refine E_il rfl K2 ?_
  refine E_il rfl K2 ?_
  refine E_c rfl ?_
  refine E_bin rfl rfl ?_
  refine E_bin rfl rfl ?_
  refine E_c rfl ?_
  refine E_bin (v := bcnC (bcnB (bcnA x))) rfl rfl ?_
  refine E_is rfl (fun lv3 K3 _ => ?_)
  refine E_il rfl K3 ?_
  refine E_il rfl K3 ?_
  refine E_c rfl ?_
  refine E_bin rfl rfl ?_
  refine E_bin (v := bcnD (bcnC (bcnB (bcnA x)))) rfl rfl ?_
  refine E_is rfl (fun lv4 K4 _ => ?_)
  refine E_il rfl K4 ?_
  refine E_il rfl K4 ?_
  refine E_c rfl ?_
  refine E_bin rfl rfl ?_
  refine E_bin rfl rfl ?_
  refine E_is rfl (fun lv5 K5 _ => ?_)
  refine E_il rfl K5 ?_
  refine E_c rfl ?_
  refine E_bin (v := bcn x) rfl rfl ?_
  exact E_rti rfl ⟨rfl, rfl⟩
noncomputable def bcK (k : Int) (m : Nat) : Bool := (decide (2 ≤ pcT m) && decide ((pcT m : Int) ≤ k)) || (Nat.beq (pcT m) 1 || Nat.beq (pcT m) 0)
theorem pcT_le : ∀ m : Fin 512, pcT m.val ≤ 9 := by decide +kernel
theorem bc_sum {hi k : Int} (h5 : hi < 512) (hc : (List.range (hi.toNat + 1)).all (bcK k) = true) : sum_g w0 (pm_Rt pm_P 1) (7, [cI 0 hi], [], [], [], [([cI 0 hi], [], [], some (.inl (cI 2 k))), ([cI 0 hi], [], [], some (.inl (cI 1 1))), ([cI 0 hi], [], [], some (.inl (cI 0 0)))]) := by
  intro h as hh ha _ _
  match as, ha with
  | [.int x], ⟨h1, _⟩ =>
    have h1 : (0 : Int) ≤ x.toInt ∧ x.toInt ≤ hi := h1
    obtain ⟨m, hm, rfl⟩ : ∃ m, m < 512 ∧ x = nJ m := ⟨x.toInt.toNat, by omega, nJ_of h1.1⟩
    have hx := nJ_toInt (n := m) (by omega)
    obtain ⟨h', r, p1, e, rfl⟩ := sp_bitCount (h := h) (d := 0) (x := nJ m)
    subst e
    have ck := List.all_eq_true.mp hc m (List.mem_range.mpr (by omega))
    have p9 := pcT_le ⟨m, hm⟩
    dsimp only at p9
    refine ⟨h', _, p1, hh, fun _ _ _ => rfl, ?_⟩
    rw [bcn_tab ⟨m, hm⟩]
    have z := nJ_toInt (n := pcT m) (by omega)
    unfold bcK at ck
    rw [Bool.or_eq_true, Bool.and_eq_true, Bool.or_eq_true] at ck
    rcases ck with ⟨c1, c2⟩ | c | c
    · have c1 := of_decide_eq_true c1
      have c2 := of_decide_eq_true c2
      exact ⟨_, List.mem_cons_self, ⟨⟨h1.1, h1.2⟩, trivial⟩, fun _ hq => absurd hq List.not_mem_nil, fun _ hq => absurd hq List.not_mem_nil, ⟨by show (2 : Int) ≤ (nJ (pcT m)).toInt; omega, by show (nJ (pcT m)).toInt ≤ k; omega⟩⟩
    · have c := Nat.eq_of_beq_eq_true c
      exact ⟨_, List.mem_cons_of_mem _ List.mem_cons_self, ⟨⟨h1.1, h1.2⟩, trivial⟩, fun _ hq => absurd hq List.not_mem_nil, fun _ hq => absurd hq List.not_mem_nil, ⟨by show (1 : Int) ≤ (nJ (pcT m)).toInt; omega, by show (nJ (pcT m)).toInt ≤ 1; omega⟩⟩
    · have c := Nat.eq_of_beq_eq_true c
      exact ⟨_, List.mem_cons_of_mem _ (List.mem_cons_of_mem _ List.mem_cons_self), ⟨⟨h1.1, h1.2⟩, trivial⟩, fun _ hq => absurd hq List.not_mem_nil, fun _ hq => absurd hq List.not_mem_nil, ⟨by show (0 : Int) ≤ (nJ (pcT m)).toInt; omega, by show (nJ (pcT m)).toInt ≤ 0; omega⟩⟩
theorem sz_tab : ∀ m : Fin 512, m.val = 0 ∨ (m.val &&& (m.val - 1)) < m.val ∧ pcT m.val = pcT (m.val &&& (m.val - 1)) + 1 ∧ nJ m.val &&& nJ (m.val - 1) = nJ (m.val &&& (m.val - 1)) := by decide +kernel
theorem sz_loop {h : pm_H} {d : Nat} (j : Nat) : ∀ {m a : Nat} (lv : List (Nat × Value)), m < 512 → m ≤ j → pm_get lv 1 = some (.int (nJ a)) → pm_get lv 2 = some (.int (nJ m)) → Ends (pm_at tX9_sizeOf) (pm_Rt pm_P d) (4, lv, [], h, 0, 0) (fun h' r => h' = h ∧ r = some (.int (nJ (a + pcT m)))) := by
  induction j with
  | zero =>
    intro m a lv hm hj L1 L2
    have e : m = 0 := by omega
    subst e
    refine E_il rfl L2 ?_
    refine E_ifT rfl (decide_eq_true rfl) ?_
    refine E_il rfl L1 ?_
    exact E_rti rfl ⟨rfl, rfl⟩
  | succ j ih =>
    intro m a lv hm hj L1 L2
    refine E_il rfl L2 ?_
    rcases sz_tab ⟨m, hm⟩ with e | ⟨e1, e2, e3⟩
    · have e : m = 0 := e
      subst e
      refine E_ifT rfl (decide_eq_true rfl) ?_
      refine E_il rfl L1 ?_
      exact E_rti rfl ⟨rfl, rfl⟩
    · have e1 : (m &&& (m - 1)) < m := e1
      have e2 : pcT m = pcT (m &&& (m - 1)) + 1 := e2
      refine E_ifF rfl (decide_eq_false (fun q => by have := (nJ_eq0 (by omega)).mp q; omega)) ?_
      refine E_inc rfl L1 (nJ_inc _) (fun lv1 K1 kp => ?_)
      have M2 := kp 2 _ (by decide) rfl L2
      refine E_il rfl M2 ?_
      refine E_il rfl M2 ?_
      refine E_ci 1 rfl (by decide) ?_
      refine E_bin rfl (nJ_sub (by omega)) ?_
      refine E_bin rfl e3 ?_
      refine E_is rfl (fun lv2 K2 kp2 => ?_)
      refine E_goto rfl ?_
      rw [e2, show a + (pcT (m &&& (m - 1)) + 1) = a + 1 + pcT (m &&& (m - 1)) by omega]
      exact ih lv2 (by omega) (by omega) (kp2 1 _ (by decide) rfl K1) K2
theorem sp_sizeOf {h : pm_H} {d m : Nat} (hm : m < 512) : Sp (d + 1) 348 h [.int (nJ m)] (fun h' r => h' = h ∧ r = some (.int (nJ (pcT m)))) := by
  refine Sp_of aiX9_sizeOf rfl rfl rfl ?_
  have L0 : pm_get (lv_args 0 [.int (nJ m)]) 0 = some (.int (nJ m)) := rfl
  generalize lv_args 0 [.int (nJ m)] = lv at L0 ⊢
  refine E_ci 0 rfl (by decide) ?_
  refine E_is rfl (fun lv1 K1 kp => ?_)
  refine E_il rfl (kp 0 _ (by decide) rfl L0) ?_
  refine E_is rfl (fun lv2 K2 kp2 => ?_)
  refine Ends_mono ?_ (sz_loop m (a := 0) lv2 hm (Nat.le_refl m) (kp2 1 _ (by decide) rfl K1) K2)
  rintro h' r ⟨e, f⟩
  exact ⟨e, by rw [f, Nat.zero_add]⟩
noncomputable def szK (k e : Int) (m : Nat) : Bool := (decide (3 ≤ m) && (decide (2 ≤ pcT m) && decide ((pcT m : Int) ≤ k))) || ((decide (1 ≤ m) && (decide ((m : Int) ≤ e) && Nat.beq (pcT m) 1)) || (Nat.beq m 0 && Nat.beq (pcT m) 0))
theorem sz_sum {hi k e : Int} (h5 : hi < 512) (hc : (List.range (hi.toNat + 1)).all (szK k e) = true) : sum_g w0 (pm_Rt pm_P 1) (348, [cI 0 hi], [], [], [], [([cI 3 hi], [], [], some (.inl (cI 2 k))), ([cI 1 e], [], [], some (.inl (cI 1 1))), ([cI 0 0], [], [], some (.inl (cI 0 0)))]) := by
  intro h as hh ha _ _
  match as, ha with
  | [.int x], ⟨h1, _⟩ =>
    have h1 : (0 : Int) ≤ x.toInt ∧ x.toInt ≤ hi := h1
    obtain ⟨m, hm, rfl⟩ : ∃ m, m < 512 ∧ x = nJ m := ⟨x.toInt.toNat, by omega, nJ_of h1.1⟩
    have hx := nJ_toInt (n := m) (by omega)
    obtain ⟨h', r, p1, e, rfl⟩ := sp_sizeOf (h := h) (d := 0) hm
    subst e
    have ck := List.all_eq_true.mp hc m (List.mem_range.mpr (by omega))
    have p9 := pcT_le ⟨m, hm⟩
    dsimp only at p9
    refine ⟨h', _, p1, hh, fun _ _ _ => rfl, ?_⟩
    have z := nJ_toInt (n := pcT m) (by omega)
    unfold szK at ck
    rw [Bool.or_eq_true, Bool.or_eq_true, Bool.and_eq_true, Bool.and_eq_true, Bool.and_eq_true, Bool.and_eq_true, Bool.and_eq_true] at ck
    rcases ck with ⟨c0, c1, c2⟩ | ⟨c0, c1, c2⟩ | ⟨c0, c⟩
    · have c0 := of_decide_eq_true c0
      have c1 := of_decide_eq_true c1
      have c2 := of_decide_eq_true c2
      exact ⟨_, List.mem_cons_self, ⟨⟨by show (3 : Int) ≤ (nJ m).toInt; omega, h1.2⟩, trivial⟩, fun _ hq => absurd hq List.not_mem_nil, fun _ hq => absurd hq List.not_mem_nil, ⟨by show (2 : Int) ≤ (nJ (pcT m)).toInt; omega, by show (nJ (pcT m)).toInt ≤ k; omega⟩⟩
    · have c0 := of_decide_eq_true c0
      have c1 := of_decide_eq_true c1
      have c := Nat.eq_of_beq_eq_true c2
      exact ⟨_, List.mem_cons_of_mem _ List.mem_cons_self, ⟨⟨by show (1 : Int) ≤ (nJ m).toInt; omega, by show (nJ m).toInt ≤ _; omega⟩, trivial⟩, fun _ hq => absurd hq List.not_mem_nil, fun _ hq => absurd hq List.not_mem_nil, ⟨by show (1 : Int) ≤ (nJ (pcT m)).toInt; omega, by show (nJ (pcT m)).toInt ≤ 1; omega⟩⟩
    · have c0 := Nat.eq_of_beq_eq_true c0
      have c := Nat.eq_of_beq_eq_true c
      exact ⟨_, List.mem_cons_of_mem _ (List.mem_cons_of_mem _ List.mem_cons_self), ⟨⟨h1.1, by show (nJ m).toInt ≤ 0; omega⟩, trivial⟩, fun _ hq => absurd hq List.not_mem_nil, fun _ hq => absurd hq List.not_mem_nil, ⟨by show (0 : Int) ≤ (nJ (pcT m)).toInt; omega, by show (nJ (pcT m)).toInt ≤ 0; omega⟩⟩
