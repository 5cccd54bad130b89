section
section SYH
variable {h : pm_H} {d : Nat} {x y : Int32}
theorem sy_share {w : Int32} (hh : HH h) : Sp 5 177 h [.ref 0, .int x, .int w] (fun h' r => HH h' ∧ fr_g SYM h h' ∧ ∃ v : Int32, r = some (.int v)) := by
  refine Sp_of aiX8_share rfl rfl rfl ?_
  have L0 : pm_get (lv_args 0 [.ref 0, .int x, .int w]) 0 = some (.ref 0) := rfl
  have L1 : pm_get (lv_args 0 [.ref 0, .int x, .int w]) 1 = some (.int x) := rfl
  have L2 : pm_get (lv_args 0 [.ref 0, .int x, .int w]) 2 = some (.int w) := rfl
  generalize lv_args 0 [.ref 0, .int x, .int w] = lv at L0 L1 L2 ⊢
  obtain ⟨i4, n8⟩ := sy_i4 hh
  have no : Ends (pm_at tX8_share) (pm_Rt pm_P 4) (15, lv, [], h, 0, 0) (fun h' r => HH h' ∧ fr_g SYM h h' ∧ ∃ v : Int32, r = some (.int v)) := by
    refine E_c rfl ?_
    exact E_rti rfl ⟨hh, fr_rf _ _, _, rfl⟩
  refine E_al rfl L0 ?_
  refine E_il rfl L1 ?_
  refine E_call rfl (Sp_le (by first | exact Nat.add_le_add_left (Nat.le_of_ble_eq_true rfl) _ | exact Nat.le_of_ble_eq_true rfl | omega) (sy_car (d := 0) hh)) (chkO (a := 0) hh rfl rfl rfl rfl (by show 0 ≤ 8; decide)) (fun h1 r1 => ?_)
  rintro ⟨e1, f1⟩
  rw [e1, f1]
  by_cases c1 : 0 ≤ x.toInt ∧ x.toInt < (gn h 15 4 : Int)
  · refine E_ifF rfl (by rw [zb_T c1]; rfl) ?_
    refine E_il rfl L2 ?_
    refine E_call rfl (Sp_le (by first | exact Nat.add_le_add_left (Nat.le_of_ble_eq_true rfl) _ | exact Nat.le_of_ble_eq_true rfl | omega) (sy_term (d := 0))) (chkS rfl (by show 0 ≤ 8; decide)) (fun h2 r2 => ?_)
    rintro ⟨e2, f2⟩
    rw [e2, f2]
    by_cases c2 : 0 ≤ w.toInt ∧ w.toInt ≤ 1
    · refine E_ifT rfl (by rw [zb_T c2]; rfl) ?_
      obtain ⟨c, hc, rfl⟩ : ∃ c, c < gn h 15 4 ∧ x = nJ c := ⟨x.toInt.toNat, by omega, nJ_of c1.1⟩
      have p8 : gi h 15 0 = nJ (gn h 15 0) ∧ gn h 15 0 ≤ 8 := ⟨gi_gn hh rfl (by decide), gn_hi hh rfl (by decide)⟩
      have l3 : gi h 15 1 = nJ (gn h 15 1) ∧ gn h 15 1 ≤ 3 := ⟨gi_gn hh rfl (by decide), gn_hi hh rfl (by decide)⟩
      have p9 := nJ_toInt (n := gn h 15 0) (by omega)
      have l9 := nJ_toInt (n := gn h 15 1) (by omega)
      refine E_al rfl L0 ?_
      refine E_ogr (q := 72) rfl hh rfl rfl ?_
      refine E_al rfl L0 ?_
      refine E_ogr (q := 15) rfl hh rfl rfl ?_
      refine E_ogr (q := 17) rfl hh rfl rfl ?_
      refine E_al rfl L0 ?_
      refine E_ogr (q := 15) rfl hh rfl rfl ?_
      refine E_ogf (q := (0, 8)) rfl hh rfl rfl i4 ?_
      refine E_al rfl L0 ?_
      refine E_ogr (q := 15) rfl hh rfl rfl ?_
      refine E_ogf (q := (0, 8)) rfl hh rfl rfl p8.1 ?_
      refine E_al rfl L0 ?_
      refine E_ogr (q := 15) rfl hh rfl rfl ?_
      refine E_ogf (q := (0, 3)) rfl hh rfl rfl l3.1 ?_
      refine E_call rfl (sy_fill (n := gn h 15 4) (by omega) n8 hh (by omega) (by omega) (by omega) (by omega)) (chkO (a := 72) hh rfl rfl rfl rfl (by show 0 ≤ 8; decide)) (fun h3 r3 => ?_)
      rintro ⟨e3, hh3, f3⟩
      rw [e3]
      refine E_c rfl ?_
      refine sy_ls rfl (fun lv1 K3 kp => ?_)
      refine E_ci 0 rfl ci0 ?_
      refine sy_is rfl (fun lv2 K5 kp2 => ?_)
      have A0 := kp2 0 _ (nbz rfl) (fun q => absurd q (nbz rfl)) (kp 0 _ (nbz rfl) (nbz rfl) (fun q => absurd q (nbz rfl)) L0)
      have A1 := kp2 1 _ (nbz rfl) (fun q => absurd q (nbz rfl)) (kp 1 _ (nbz rfl) (nbz rfl) (fun q => absurd q (nbz rfl)) L1)
      have A2 := kp2 2 _ (nbz rfl) (fun q => absurd q (nbz rfl)) (kp 2 _ (nbz rfl) (nbz rfl) (fun _ => rfl) L2)
      have A3 := kp2 3 _ (nbz rfl) (fun q => absurd q (nbz rfl)) K3
      obtain ⟨h', r, p, a, b, v⟩ := sy_loop hh3 n8 hc (by rw [fr_gi f3 (rg_no rfl _)]; exact i4) c2.1 c2.2 (2 ^ gn h 15 4) (s := 0) lv2 (by omega) A0 A1 A2 A3 K5
      exact ⟨h', r, p, a, fr_trans f3 (fr_wk rfl b), v⟩
    · refine E_ifF rfl (by rw [zb_F c2]; rfl) ?_
      exact no
  · refine E_ifT rfl (by rw [zb_F c1]; rfl) ?_
    exact no
theorem q730 : sum_g w0 (pm_Rt pm_P 5) S730 := by
  intro h as hh ha _ _
  match as, ha with
  | [.ref a, .int x, .int w], ⟨h1, h2, h3, _⟩ =>
    have h1 : a = 0 := h1
    subst h1
    obtain ⟨h', r, p1, hh', fr, v, rfl⟩ := sy_share (x := x) (w := w) hh
    exact ⟨h', _, p1, hh', fr, _, List.mem_cons_self, ⟨rfl, h2, h3, trivial⟩, fun _ hq => absurd hq List.not_mem_nil, fun _ hq => absurd hq List.not_mem_nil, ai_lo v, ai_hi v⟩
end SYH
noncomputable def S731 : Sum1 := (360, [cI 0 0], [], [], [], [([cI 0 0], [], [], some (.inl (cI 1 1)))])
theorem q731 : sum_g w0 (pm_Rt pm_P 1) S731 := meth_okB (d := 0) (cuts := []) (spl := []) (K := [0]) (N := 7) (sums := []) aiX9_times (abX9_times w0) (by decide) (fun _ h => absurd h List.not_mem_nil) (by decide +kernel)
noncomputable def S732 : Sum1 := (360, [cI 1 1], [], [], [], [([cI 1 1], [], [], some (.inl (cI 1 1)))])
theorem q732 : sum_g w0 (pm_Rt pm_P 1) S732 := meth_okB (d := 0) (cuts := []) (spl := []) (K := [0]) (N := 7) (sums := []) aiX9_times (abX9_times w0) (by decide) (fun _ h => absurd h List.not_mem_nil) (by decide +kernel)
noncomputable def S733 : Sum1 := (360, [cI 1 2], [], [], [], [([cI 1 1], [], [], some (.inl (cI 1 1))), ([cI 2 2], [], [], some (.inl (cI 2 2)))])
theorem q733 : sum_g w0 (pm_Rt pm_P 2) S733 := meth_okB (d := 1) (cuts := []) (spl := []) (K := [0]) (N := 11) (sums := [S732]) aiX9_times (abX9_times w0) (by decide) (List.forall_mem_cons.mpr ⟨sum_up q732 0, fun _ h => absurd h List.not_mem_nil⟩) (by decide +kernel)
noncomputable def S734 : Sum1 := (360, [cI 1 3], [], [], [], [([cI 1 1], [], [], some (.inl (cI 1 1))), ([cI 2 3], [], [], some (.inl (cI 2 6)))])
theorem q734 : sum_g w0 (pm_Rt pm_P 3) S734 := meth_okB (d := 2) (cuts := []) (spl := []) (K := [0]) (N := 11) (sums := [S733]) aiX9_times (abX9_times w0) (by decide) (List.forall_mem_cons.mpr ⟨sum_up q733 0, fun _ h => absurd h List.not_mem_nil⟩) (by decide +kernel)
noncomputable def S735 : Sum1 := (360, [cI 1 4], [], [], [], [([cI 1 1], [], [], some (.inl (cI 1 1))), ([cI 2 4], [], [], some (.inl (cI 2 24)))])
theorem q735 : sum_g w0 (pm_Rt pm_P 4) S735 := meth_okB (d := 3) (cuts := []) (spl := []) (K := [0]) (N := 11) (sums := [S734]) aiX9_times (abX9_times w0) (by decide) (List.forall_mem_cons.mpr ⟨sum_up q734 0, fun _ h => absurd h List.not_mem_nil⟩) (by decide +kernel)
noncomputable def S736 : Sum1 := (360, [cI 1 5], [], [], [], [([cI 1 1], [], [], some (.inl (cI 1 1))), ([cI 2 5], [], [], some (.inl (cI 2 120)))])
theorem q736 : sum_g w0 (pm_Rt pm_P 5) S736 := meth_okB (d := 4) (cuts := []) (spl := []) (K := [0]) (N := 11) (sums := [S735]) aiX9_times (abX9_times w0) (by decide) (List.forall_mem_cons.mpr ⟨sum_up q735 0, fun _ h => absurd h List.not_mem_nil⟩) (by decide +kernel)
noncomputable def S737 : Sum1 := (360, [cI 1 6], [], [], [], [([cI 1 1], [], [], some (.inl (cI 1 1))), ([cI 2 6], [], [], some (.inl (cI 2 720)))])
theorem q737 : sum_g w0 (pm_Rt pm_P 6) S737 := meth_okB (d := 5) (cuts := []) (spl := []) (K := [0]) (N := 11) (sums := [S736]) aiX9_times (abX9_times w0) (by decide) (List.forall_mem_cons.mpr ⟨sum_up q736 0, fun _ h => absurd h List.not_mem_nil⟩) (by decide +kernel)
noncomputable def S738 : Sum1 := (360, [cI (-1) 7], [], [], [], [([cI (-1) 1], [], [], some (.inl (cI 1 1))), ([cI 2 7], [], [], some (.inl (cI 2 5040)))])
theorem q738 : sum_g w0 (pm_Rt pm_P 7) S738 := meth_okB (d := 6) (cuts := []) (spl := []) (K := [0]) (N := 11) (sums := [S737]) aiX9_times (abX9_times w0) (by decide) (List.forall_mem_cons.mpr ⟨sum_up q737 0, fun _ h => absurd h List.not_mem_nil⟩) (by decide +kernel)
noncomputable def S739 : Sum1 := (379, [cR 77, cI 1 255], [], [125], [(77, 22, 23), (77, 27, 27), (89, 0, 7), (90, 0, 9), (91, 0, 7)], [([cR 77, cI 1 255], [((77, 23), 1, 255)], [], some (.inl (cI (-2147483648) 2147483647)))])
theorem q739 : sum_g w0 (pm_Rt pm_P 5) S739 := meth_okB (d := 4) (cuts := []) (spl := []) (K := [0, 1]) (N := 13) (sums := [S118, S172, S149]) aiX9_worthOf (abX9_worthOf w0) (by decide) (List.forall_mem_cons.mpr ⟨sum_up q118 2, List.forall_mem_cons.mpr ⟨sum_up q172 1, List.forall_mem_cons.mpr ⟨sum_up q149 0, fun _ h => absurd h List.not_mem_nil⟩⟩⟩) (by decide +kernel)
noncomputable def S740 : Sum1 := (379, [cR 77, cI 0 0], [], [125], [(77, 22, 23), (77, 27, 27), (89, 0, 7), (90, 0, 9), (91, 0, 7)], [([cR 77, cI 0 0], [((77, 23), 0, 0)], [], some (.inl (cI (-2147483648) 2147483647)))])
theorem q740 : sum_g w0 (pm_Rt pm_P 5) S740 := meth_okB (d := 4) (cuts := []) (spl := []) (K := [0, 1]) (N := 13) (sums := [S118, S172, S149]) aiX9_worthOf (abX9_worthOf w0) (by decide) (List.forall_mem_cons.mpr ⟨sum_up q118 2, List.forall_mem_cons.mpr ⟨sum_up q172 1, List.forall_mem_cons.mpr ⟨sum_up q149 0, fun _ h => absurd h List.not_mem_nil⟩⟩⟩) (by decide +kernel)
noncomputable def S741 : Sum1 := (360, [cI (-2) 6], [], [], [], [([cI (-2) 1], [], [], some (.inl (cI 1 1))), ([cI 2 6], [], [], some (.inl (cI 2 720)))])
theorem q741 : sum_g w0 (pm_Rt pm_P 6) S741 := meth_okB (d := 5) (cuts := []) (spl := []) (K := [0]) (N := 11) (sums := [S736]) aiX9_times (abX9_times w0) (by decide) (List.forall_mem_cons.mpr ⟨sum_up q736 0, fun _ h => absurd h List.not_mem_nil⟩) (by decide +kernel)
noncomputable def S742 : Sum1 := (379, [cR 77, cI 1 128], [], [125], [(77, 22, 23), (77, 27, 27), (89, 0, 7), (90, 0, 9), (91, 0, 7)], [([cR 77, cI 1 128], [((77, 23), 1, 128)], [], some (.inl (cI (-2147483648) 2147483647)))])
end
