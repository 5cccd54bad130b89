section
theorem sp_sizeOf {h : pm_H} {d m : Nat} (hm : m < 512) : Sp (d + 1) 348 h [.int (nJ m)] (fun h' r => h' = h ∧ r = some (.int (nJ (pcT m)))) := by
  refine Sp_of aiX9_sizeOf rfl rfl rfl ?_
  have L0 : pm_get (lv_args 0 [.int (nJ m)]) 0 = some (.int (nJ m)) := rfl
  generalize lv_args 0 [.int (nJ m)] = lv at L0 ⊢
  refine E_ci 0 rfl (by decide) ?_
  refine E_is rfl (fun lv1 K1 kp => ?_)
  refine E_il rfl (kp 0 _ (by decide) rfl L0) ?_
  refine E_is rfl (fun lv2 K2 kp2 => ?_)
  refine Ends_mono ?_ (sz_loop m (a := 0) lv2 hm (Nat.le_refl m) (kp2 1 _ (by decide) rfl K1) K2)
  rintro h' r ⟨e, f⟩
  exact ⟨e, by rw [f, Nat.zero_add]⟩
noncomputable def szK (k e : Int) (m : Nat) : Bool := (decide (3 ≤ m) && (decide (2 ≤ pcT m) && decide ((pcT m : Int) ≤ k))) || ((decide (1 ≤ m) && (decide ((m : Int) ≤ e) && Nat.beq (pcT m) 1)) || (Nat.beq m 0 && Nat.beq (pcT m) 0))
theorem sz_sum {hi k e : Int} (h5 : hi < 512) (hc : (List.range (hi.toNat + 1)).all (szK k e) = true) : sum_g w0 (pm_Rt pm_P 1) (348, [cI 0 hi], [], [], [], [([cI 3 hi], [], [], some (.inl (cI 2 k))), ([cI 1 e], [], [], some (.inl (cI 1 1))), ([cI 0 0], [], [], some (.inl (cI 0 0)))]) := by
  intro h as hh ha _ _
  match as, ha with
  | [.int x], ⟨h1, _⟩ =>
    have h1 : (0 : Int) ≤ x.toInt ∧ x.toInt ≤ hi := h1
    obtain ⟨m, hm, rfl⟩ : ∃ m, m < 512 ∧ x = nJ m := ⟨x.toInt.toNat, by omega, nJ_of h1.1⟩
    have hx := nJ_toInt (n := m) (by omega)
    obtain ⟨h', r, p1, e, rfl⟩ := sp_sizeOf (h := h) (d := 0) hm
    subst e
    have ck := List.all_eq_true.mp hc m (List.mem_range.mpr (by omega))
    have p9 := pcT_le ⟨m, hm⟩
    dsimp only at p9
    refine ⟨h', _, p1, hh, fun _ _ _ => rfl, ?_⟩
    have z := nJ_toInt (n := pcT m) (by omega)
    unfold szK at ck
    rw [Bool.or_eq_true, Bool.or_eq_true, Bool.and_eq_true, Bool.and_eq_true, Bool.and_eq_true, Bool.and_eq_true, Bool.and_eq_true] at ck
    rcases ck with ⟨c0, c1, c2⟩ | ⟨c0, c1, c2⟩ | ⟨c0, c⟩
    · have c0 := of_decide_eq_true c0
      have c1 := of_decide_eq_true c1
      have c2 := of_decide_eq_true c2
      exact ⟨_, List.mem_cons_self, ⟨⟨by show (3 : Int) ≤ (nJ m).toInt; omega, h1.2⟩, trivial⟩, fun _ hq => absurd hq List.not_mem_nil, fun _ hq => absurd hq List.not_mem_nil, ⟨by show (2 : Int) ≤ (nJ (pcT m)).toInt; omega, by show (nJ (pcT m)).toInt ≤ k; omega⟩⟩
    · have c0 := of_decide_eq_true c0
      have c1 := of_decide_eq_true c1
      have c := Nat.eq_of_beq_eq_true c2
      exact ⟨_, List.mem_cons_of_mem _ List.mem_cons_self, ⟨⟨by show (1 : Int) ≤ (nJ m).toInt; omega, by show (nJ m).toInt ≤ _; omega⟩, trivial⟩, fun _ hq => absurd hq List.not_mem_nil, fun _ hq => absurd hq List.not_mem_nil, ⟨by show (1 : Int) ≤ (nJ (pcT m)).toInt; omega, by show (nJ (pcT m)).toInt ≤ 1; omega⟩⟩
    · have c0 := Nat.eq_of_beq_eq_true c0
      have c := Nat.eq_of_beq_eq_true c
      exact ⟨_, List.mem_cons_of_mem _ (List.mem_cons_of_mem _ List.mem_cons_self), ⟨⟨h1.1, by show (nJ m).toInt ≤ 0; omega⟩, trivial⟩, fun _ hq => absurd hq List.not_mem_nil, fun _ hq => absurd hq List.not_mem_nil, ⟨by show (0 : Int) ≤ (nJ (pcT m)).toInt; omega, by show (nJ (pcT m)).toInt ≤ 0; omega⟩⟩
end

