section
section WYH
variable {h : pm_H}
theorem wy_all {x : Int32} (hx : x = -1 ∨ (0 ≤ x.toInt ∧ x.toInt ≤ 7)) (hh : HH h) (F : w0.1.2.1 125 h) : Sp 10 371 h [.ref 77, .int x] (fun h' r => HH h' ∧ fr_g WYM h h' ∧ (0 ≤ (gi h' 77 23).toInt ∧ (gi h' 77 23).toInt ≤ 255) ∧ ∃ v : Int64, r = some (.long v)) := by
  refine Sp_of aiX9_weightOf rfl rfl rfl ?_
  have L0 : pm_get (lv_args 0 [.ref 77, .int x]) 0 = some (.ref 77) := rfl
  have L1 : pm_get (lv_args 0 [.ref 77, .int x]) 1 = some (.int x) := rfl
  generalize lv_args 0 [.ref 77, .int x] = lv at L0 L1 ⊢
  refine E_al rfl L0 ?_
  refine E_call rfl (wy_lays hh F) (chk77 hh rfl rfl (by show 0 ≤ 8; decide)) (fun h2 r2 => ?_)
  rintro ⟨e2, hh2, f2, cm⟩
  rw [e2]
  have n8 : gn h2 84 3 ≤ 8 := gn_hi hh2 rfl rfl
  have g4 : gi h2 84 3 = nJ (gn h2 84 3) := gi_gn hh2 rfl (by decide)
  have q8 : 2 ^ gn h2 84 3 ≤ 2 ^ 8 := Nat.pow_le_pow_right (by omega) n8
  refine E_c rfl ?_
  refine sy_ls rfl (fun lv1 K2 kp => ?_)
  refine E_ci 0 rfl ci0 ?_
  refine sy_is rfl (fun lv2 K4 kp2 => ?_)
  obtain ⟨h', r, p, a, b, c, e⟩ := wy_loop n8 hx (2 ^ gn h2 84 3) (s := 0) lv2 (by omega) hh2 g4 cm (kp2 0 _ (nbz rfl) (fun q => absurd q (nbz rfl)) (kp 0 _ (nbz rfl) (nbz rfl) (fun q => absurd q (nbz rfl)) L0)) (kp2 1 _ (nbz rfl) (fun q => absurd q (nbz rfl)) (kp 1 _ (nbz rfl) (nbz rfl) (fun _ => rfl) L1)) (kp2 2 _ (nbz rfl) (fun q => absurd q (nbz rfl)) K2) K4
  exact ⟨h', r, p, a, fr_trans (fr_wk rfl f2) b, c, e⟩
theorem wy_sum {lo hi : Int} (hc : ∀ x : Int32, lo ≤ x.toInt → x.toInt ≤ hi → x = -1 ∨ (0 ≤ x.toInt ∧ x.toInt ≤ 7)) : sum_g w0 (pm_Rt pm_P 10) (371, [cR 77, cI lo hi], [], [125], WYM, [([cR 77, cI lo hi], [((77, 23), 0, 255)], [], some (.inl (cL (-9223372036854775808) 9223372036854775807)))]) := by
  intro h as hh ha _ hf
  match as, ha with
  | [.ref a, .int x], ⟨h1, h2, _⟩ =>
    have h1 : a = 77 := h1
    have h2 : lo ≤ x.toInt ∧ x.toInt ≤ hi := h2
    subst h1
    obtain ⟨h', r, p1, hh', fr, cm, v, rfl⟩ := wy_all (hc x h2.1 h2.2) hh (hf 125 List.mem_cons_self)
    refine ⟨h', _, p1, hh', fr, _, List.mem_cons_self, ⟨rfl, h2, trivial⟩, fun q hq => ?_, fun _ hq => absurd hq List.not_mem_nil, al_lo v, al_hi v⟩
    cases List.mem_singleton.mp hq
    exact ⟨_, (ld_gi hh' (a := 77) (k := 23) rfl).1, cm.1, cm.2⟩
end WYH
theorem q821 : sum_g w0 (pm_Rt pm_P 10) S821 := wy_sum (fun _ a b => .inr ⟨a, b⟩)
noncomputable def S822 : Sum1 := (326, [cL 10 10, cI 0 0], [], [], [], [([cL 10 10, cI 0 0], [], [], some (.inl (cL 1 1)))])
theorem q822 : sum_g w0 (pm_Rt pm_P 1) S822 := meth_okB (d := 0) (cuts := []) (spl := []) (K := [0, 2]) (N := 6) (sums := []) aiX9_power (abX9_power w0) (by decide) (fun _ h => absurd h List.not_mem_nil) (by decide +kernel)
noncomputable def S823 : Sum1 := (326, [cL 10 10, cI 0 1], [], [], [], [([cL 10 10, cI 0 1], [], [], some (.inl (cL 1 10)))])
theorem q823 : sum_g w0 (pm_Rt pm_P 2) S823 := meth_okB (d := 1) (cuts := []) (spl := []) (K := [0, 2]) (N := 11) (sums := [S822]) aiX9_power (abX9_power w0) (by decide) (List.forall_mem_cons.mpr ⟨sum_up q822 0, fun _ h => absurd h List.not_mem_nil⟩) (by decide +kernel)
noncomputable def S824 : Sum1 := (326, [cL 10 10, cI 0 2], [], [], [], [([cL 10 10, cI 0 2], [], [], some (.inl (cL 1 100)))])
theorem q824 : sum_g w0 (pm_Rt pm_P 3) S824 := meth_okB (d := 2) (cuts := []) (spl := []) (K := [0, 2]) (N := 11) (sums := [S823]) aiX9_power (abX9_power w0) (by decide) (List.forall_mem_cons.mpr ⟨sum_up q823 0, fun _ h => absurd h List.not_mem_nil⟩) (by decide +kernel)
noncomputable def S825 : Sum1 := (326, [cL 10 10, cI 0 3], [], [], [], [([cL 10 10, cI 0 3], [], [], some (.inl (cL 1 1000)))])
theorem q825 : sum_g w0 (pm_Rt pm_P 4) S825 := meth_okB (d := 3) (cuts := []) (spl := []) (K := [0, 2]) (N := 11) (sums := [S824]) aiX9_power (abX9_power w0) (by decide) (List.forall_mem_cons.mpr ⟨sum_up q824 0, fun _ h => absurd h List.not_mem_nil⟩) (by decide +kernel)
noncomputable def S826 : Sum1 := (326, [cL 10 10, cI 0 4], [], [], [], [([cL 10 10, cI 0 4], [], [], some (.inl (cL 1 10000)))])
theorem q826 : sum_g w0 (pm_Rt pm_P 5) S826 := meth_okB (d := 4) (cuts := []) (spl := []) (K := [0, 2]) (N := 11) (sums := [S825]) aiX9_power (abX9_power w0) (by decide) (List.forall_mem_cons.mpr ⟨sum_up q825 0, fun _ h => absurd h List.not_mem_nil⟩) (by decide +kernel)
noncomputable def S827 : Sum1 := (326, [cL 10 10, cI 0 5], [], [], [], [([cL 10 10, cI 0 5], [], [], some (.inl (cL 1 100000)))])
theorem q827 : sum_g w0 (pm_Rt pm_P 6) S827 := meth_okB (d := 5) (cuts := []) (spl := []) (K := [0, 2]) (N := 11) (sums := [S826]) aiX9_power (abX9_power w0) (by decide) (List.forall_mem_cons.mpr ⟨sum_up q826 0, fun _ h => absurd h List.not_mem_nil⟩) (by decide +kernel)
noncomputable def S828 : Sum1 := (326, [cL 10 10, cI 0 6], [], [], [], [([cL 10 10, cI 0 6], [], [], some (.inl (cL 1 1000000)))])
theorem q828 : sum_g w0 (pm_Rt pm_P 7) S828 := meth_okB (d := 6) (cuts := []) (spl := []) (K := [0, 2]) (N := 11) (sums := [S827]) aiX9_power (abX9_power w0) (by decide) (List.forall_mem_cons.mpr ⟨sum_up q827 0, fun _ h => absurd h List.not_mem_nil⟩) (by decide +kernel)
noncomputable def S829 : Sum1 := (326, [cL 10 10, cI 0 7], [], [], [], [([cL 10 10, cI 0 7], [], [], some (.inl (cL 1 10000000)))])
theorem q829 : sum_g w0 (pm_Rt pm_P 8) S829 := meth_okB (d := 7) (cuts := []) (spl := []) (K := [0, 2]) (N := 11) (sums := [S828]) aiX9_power (abX9_power w0) (by decide) (List.forall_mem_cons.mpr ⟨sum_up q828 0, fun _ h => absurd h List.not_mem_nil⟩) (by decide +kernel)
noncomputable def S830 : Sum1 := (326, [cL 10 10, cI 0 8], [], [], [], [([cL 10 10, cI 0 8], [], [], some (.inl (cL 1 100000000)))])
theorem q830 : sum_g w0 (pm_Rt pm_P 9) S830 := meth_okB (d := 8) (cuts := []) (spl := []) (K := [0, 2]) (N := 11) (sums := [S829]) aiX9_power (abX9_power w0) (by decide) (List.forall_mem_cons.mpr ⟨sum_up q829 0, fun _ h => absurd h List.not_mem_nil⟩) (by decide +kernel)
noncomputable def S831 : Sum1 := (21, [cI 1 8, cI 0 511, cI 3 9], [], [], [], [([cI 3 8, cI 0 511, cI 3 9], [], [], some (.inl (cI 3 8))), ([cI 1 8, cI 0 511, cI 3 9], [], [], some (.inl (cI 0 0)))])
theorem q831 : sum_g w0 (pm_Rt pm_P 2) S831 := meth_okB (d := 1) (cuts := [(2, [([(0, cI 1 8), (1, cI 0 511), (2, cI 3 9), (3, cI 3 9)], [], [], [], [.inl 0, .inr (.inl 3, true), .inl 0])])]) (spl := []) (K := [0, 1, 2]) (N := 10) (sums := [S123]) aiX1_firstFree (abX1_firstFree w0) (by decide) (List.forall_mem_cons.mpr ⟨sum_up q123 0, fun _ h => absurd h List.not_mem_nil⟩) (by decide +kernel)
noncomputable def S832 : Sum1 := (21, [cI 1 8, cI 0 511, cI 1 2], [], [], [], [([cI 1 8, cI 0 511, cI 1 2], [], [], some (.inl (cI 1 8))), ([cI 1 8, cI 0 511, cI 1 2], [], [], some (.inl (cI 0 0)))])
theorem q832 : sum_g w0 (pm_Rt pm_P 2) S832 := meth_okB (d := 1) (cuts := [(2, [([(0, cI 1 8), (1, cI 0 511), (2, cI 1 2), (3, cI 1 9)], [], [], [], [.inl 0, .inr (.inl 3, true), .inl 0])])]) (spl := []) (K := [0, 1, 2]) (N := 10) (sums := [S125]) aiX1_firstFree (abX1_firstFree w0) (by decide) (List.forall_mem_cons.mpr ⟨sum_up q125 0, fun _ h => absurd h List.not_mem_nil⟩) (by decide +kernel)
noncomputable def S833 : Sum1 := (24, [cI 1 8, cI 0 511, cI 0 8], [], [], [], [([cI 2 8, cI 0 511, cI 0 8], [], [], some (.inl (cI 1 8))), ([cI 1 8, cI 0 511, cI 0 8], [], [], some (.inl (cI 0 0)))])
theorem q833 : sum_g w0 (pm_Rt pm_P 2) S833 := meth_okB (d := 1) (cuts := [(2, [([(0, cI 1 8), (1, cI 0 511), (2, cI 0 8), (3, cI 1 8)], [], [], [], [.inl 0, .inr (.inl 3, true), .inl 0])])]) (spl := []) (K := [0, 1, 2]) (N := 30) (sums := [S127, S122, S125]) aiX1_nearestFree (abX1_nearestFree w0) (by decide) (List.forall_mem_cons.mpr ⟨sum_up q127 0, List.forall_mem_cons.mpr ⟨sum_up q122 0, List.forall_mem_cons.mpr ⟨sum_up q125 0, fun _ h => absurd h List.not_mem_nil⟩⟩⟩) (by decide +kernel)
noncomputable def S834 : Sum1 := (21, [cI 1 8, cI 0 511, cI 1 9], [], [], [], [([cI 1 8, cI 0 511, cI 1 9], [], [], some (.inl (cI 1 8))), ([cI 1 8, cI 0 511, cI 1 9], [], [], some (.inl (cI 0 0)))])
theorem q834 : sum_g w0 (pm_Rt pm_P 2) S834 := meth_okB (d := 1) (cuts := [(2, [([(0, cI 1 8), (1, cI 0 511), (2, cI 1 9), (3, cI 1 9)], [], [], [], [.inl 0, .inr (.inl 3, true), .inl 0])])]) (spl := []) (K := [0, 1, 2]) (N := 10) (sums := [S125]) aiX1_firstFree (abX1_firstFree w0) (by decide) (List.forall_mem_cons.mpr ⟨sum_up q125 0, fun _ h => absurd h List.not_mem_nil⟩) (by decide +kernel)
noncomputable def S835 : Sum1 := (21, [cI 1 8, cI 0 511, cI 1 1], [], [], [], [([cI 1 8, cI 0 511, cI 1 1], [], [], some (.inl (cI 1 8))), ([cI 1 8, cI 0 511, cI 1 1], [], [], some (.inl (cI 0 0)))])
theorem q835 : sum_g w0 (pm_Rt pm_P 2) S835 := meth_okB (d := 1) (cuts := [(2, [([(0, cI 1 8), (1, cI 0 511), (2, cI 1 1), (3, cI 1 9)], [], [], [], [.inl 0, .inr (.inl 3, true), .inl 0])])]) (spl := []) (K := [0, 1, 2]) (N := 10) (sums := [S125]) aiX1_firstFree (abX1_firstFree w0) (by decide) (List.forall_mem_cons.mpr ⟨sum_up q125 0, fun _ h => absurd h List.not_mem_nil⟩) (by decide +kernel)
noncomputable def S836 : Sum1 := (25, [cI 0 3, cI 1 8, cI 0 511, cI 0 8], [], [], [], [([cI 0 3, cI 1 8, cI 0 511, cI 0 8], [], [], some (.inl (cI 0 0))), ([cI 0 3, cI 1 8, cI 0 511, cI 0 8], [], [], some (.inl (cI 0 8)))])
end
