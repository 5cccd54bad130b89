section
theorem q768 : sum_g w0 (pm_Rt pm_P 4) S768 := meth_okB (d := 3) (cuts := [(17, [([(0, cR 72), (1, cR 17), (2, cI 1 8), (3, cI 0 8), (4, cI 0 3), (5, cI 0 8)], [], [((73, 0), 0, 0), ((74, 0), 0, 0)], [], [.inl 0, .inr (.inl 5, true), .inl 1])]), (26, [([(0, cR 72), (1, cR 17), (2, cI 1 8), (3, cI 0 8), (4, cI 0 3), (5, cI 0 7), (6, cI 0 128)], [], [((73, 0), 0, 0), ((74, 0), 0, 0)], [], [.inl 0, .inr (.inl 5, true), .inl 0, .inr (.inl 6, true), .inl 0])])]) (spl := []) (K := [0, 1, 2, 3, 4]) (N := 55) (sums := [S132, S133, S131]) aiX3_fill (abX3_fill w0) (by decide) (List.forall_mem_cons.mpr ⟨sum_up q132 2, List.forall_mem_cons.mpr ⟨sum_up q133 2, List.forall_mem_cons.mpr ⟨sum_up q131 0, fun _ h => absurd h List.not_mem_nil⟩⟩⟩) (by decide +kernel)
noncomputable def S769 : Sum1 := (7, [cI 0 127], [], [], [], [([cI 0 127], [], [], some (.inl (cI 2 7))), ([cI 0 127], [], [], some (.inl (cI 1 1))), ([cI 0 127], [], [], some (.inl (cI 0 0)))])
theorem q769 : sum_g w0 (pm_Rt pm_P 1) S769 := bc_sum (hi := 127) (k := 7) (by decide) (by decide +kernel)
noncomputable def S770 : Sum1 := (161, [cI 0 10, cI 0 0], [], [], [], [([cI 0 10, cI 0 0], [], [], some (.inl (cL 1 1)))])
theorem q770 : sum_g w0 (pm_Rt pm_P 1) S770 := meth_okB (d := 0) (cuts := [(5, [([(0, cI 0 10), (1, cI 0 0), (2, cL 1 1), (4, cI 0 0)], [], [], [], [.inl 0])])]) (spl := []) (K := [0, 1]) (N := 6) (sums := []) aiX8_power (abX8_power w0) (by decide) (fun _ h => absurd h List.not_mem_nil) (by decide +kernel)
noncomputable def S771 : Sum1 := (161, [cI 0 10, cI 0 7], [], [], [], [([cI 0 10, cI 0 7], [], [], some (.inl (cL (-9223372036854775808) 9223372036854775807)))])
theorem q771 : sum_g w0 (pm_Rt pm_P 1) S771 := meth_okB (d := 0) (cuts := [(5, [([(0, cI 0 10), (1, cI 0 7), (2, cL (-9223372036854775808) 9223372036854775807), (4, cI 0 7)], [], [], [], [.inl 0, .inr (.inl 4, true), .inl 0])])]) (spl := []) (K := [0, 1]) (N := 11) (sums := []) aiX8_power (abX8_power w0) (by decide) (fun _ h => absurd h List.not_mem_nil) (by decide +kernel)
noncomputable def S772 : Sum1 := (161, [cI 0 10, cI 1 1], [], [], [], [([cI 0 10, cI 1 1], [], [], some (.inl (cL (-9223372036854775808) 9223372036854775807)))])
theorem q772 : sum_g w0 (pm_Rt pm_P 1) S772 := meth_okB (d := 0) (cuts := [(5, [([(0, cI 0 10), (1, cI 1 1), (2, cL (-9223372036854775808) 9223372036854775807), (4, cI 0 1)], [], [], [], [.inl 0, .inr (.inl 4, true), .inl 0])])]) (spl := []) (K := [0, 1]) (N := 11) (sums := []) aiX8_power (abX8_power w0) (by decide) (fun _ h => absurd h List.not_mem_nil) (by decide +kernel)
noncomputable def S773 : Sum1 := (161, [cI 0 10, cI (-1) 6], [], [], [], [([cI 0 10, cI (-1) 6], [], [], some (.inl (cL (-9223372036854775808) 9223372036854775807)))])
theorem q773 : sum_g w0 (pm_Rt pm_P 1) S773 := meth_okB (d := 0) (cuts := [(5, [([(0, cI 0 10), (1, cI (-1) 6), (2, cL (-9223372036854775808) 9223372036854775807), (4, cI 0 6)], [], [], [], [.inl 0, .inr (.inl 4, true), .inl 0])])]) (spl := []) (K := [0, 1]) (N := 11) (sums := []) aiX8_power (abX8_power w0) (by decide) (fun _ h => absurd h List.not_mem_nil) (by decide +kernel)
noncomputable def S774 : Sum1 := (161, [cI 0 10, cI 2 7], [], [], [], [([cI 0 10, cI 2 7], [], [], some (.inl (cL (-9223372036854775808) 9223372036854775807)))])
theorem q774 : sum_g w0 (pm_Rt pm_P 1) S774 := meth_okB (d := 0) (cuts := [(5, [([(0, cI 0 10), (1, cI 2 7), (2, cL (-9223372036854775808) 9223372036854775807), (4, cI 0 7)], [], [], [], [.inl 0, .inr (.inl 4, true), .inl 0])])]) (spl := []) (K := [0, 1]) (N := 11) (sums := []) aiX8_power (abX8_power w0) (by decide) (fun _ h => absurd h List.not_mem_nil) (by decide +kernel)
noncomputable def S775 : Sum1 := (161, [cI 0 10, cI (-7) 5], [], [], [], [([cI 0 10, cI (-7) 5], [], [], some (.inl (cL (-9223372036854775808) 9223372036854775807)))])
theorem q775 : sum_g w0 (pm_Rt pm_P 1) S775 := meth_okB (d := 0) (cuts := [(5, [([(0, cI 0 10), (1, cI (-7) 5), (2, cL (-9223372036854775808) 9223372036854775807), (4, cI 0 5)], [], [], [], [.inl 0, .inr (.inl 4, true), .inl 0])])]) (spl := []) (K := [0, 1]) (N := 11) (sums := []) aiX8_power (abX8_power w0) (by decide) (fun _ h => absurd h List.not_mem_nil) (by decide +kernel)
noncomputable def S776 : Sum1 := (176, [cR 0, cI 0 127, cI 0 7], [], [], [], [([cR 0, cI 0 127, cI 0 7], [], [], some (.inl (cL (-9223372036854775808) 9223372036854775807)))])
theorem q776 : sum_g w0 (pm_Rt pm_P 2) S776 := meth_okB (d := 1) (cuts := []) (spl := []) (K := [0, 1, 2]) (N := 20) (sums := [S770, S772, S774, S771, S773, S775, S769]) aiX8_setWeight (abX8_setWeight w0) (by decide) (List.forall_mem_cons.mpr ⟨sum_up q770 0, List.forall_mem_cons.mpr ⟨sum_up q772 0, List.forall_mem_cons.mpr ⟨sum_up q774 0, List.forall_mem_cons.mpr ⟨sum_up q771 0, List.forall_mem_cons.mpr ⟨sum_up q773 0, List.forall_mem_cons.mpr ⟨sum_up q775 0, List.forall_mem_cons.mpr ⟨sum_up q769 0, fun _ h => absurd h List.not_mem_nil⟩⟩⟩⟩⟩⟩⟩) (by decide +kernel)
noncomputable def S777 : Sum1 := (161, [cI 10 10, cI 1 8], [], [], [], [([cI 10 10, cI 1 8], [], [], some (.inl (cL (-9223372036854775808) 9223372036854775807)))])
theorem q777 : sum_g w0 (pm_Rt pm_P 1) S777 := meth_okB (d := 0) (cuts := [(5, [([(0, cI 10 10), (1, cI 1 8), (2, cL (-9223372036854775808) 9223372036854775807), (4, cI 0 8)], [], [], [], [.inl 0, .inr (.inl 4, true), .inl 0])])]) (spl := []) (K := [0, 1]) (N := 11) (sums := []) aiX8_power (abX8_power w0) (by decide) (fun _ h => absurd h List.not_mem_nil) (by decide +kernel)
noncomputable def S778 : Sum1 := (190, [cL (-9223372036854775808) 9223372036854775807, cL (-9223372036854775808) 9223372036854775807, cI 0 1], [], [], [], [([cL (-9223372036854775808) 9223372036854775807, cL (-9223372036854775808) 9223372036854775807, cI 0 1], [], [], some (.inl (cL (-9223372036854775808) 9223372036854775807)))])
theorem q778 : sum_g w0 (pm_Rt pm_P 2) S778 := meth_okB (d := 1) (cuts := [(12, [([(0, cL (-9223372036854775808) 9223372036854775807), (2, cL (-9223372036854775808) 9223372036854775807), (4, cI 0 1), (5, cL (-9223372036854775808) 9223372036854775807), (7, cL (-9223372036854775808) 9223372036854775807), (9, cI 0 100)], [], [], [], [.inl 0, .inr (.inl 9, true), .inl 0])])]) (spl := []) (K := [0, 2, 4]) (N := 19) (sums := [S714]) aiX8_term (abX8_term w0) (by decide) (List.forall_mem_cons.mpr ⟨sum_up q714 0, fun _ h => absurd h List.not_mem_nil⟩) (by decide +kernel)
noncomputable def S779 : Sum1 := (91, [cR 0, cI (-2147483648) 2147483647, cI (-2147483648) 2147483647], [], [], [(73, 0, 255), (74, 0, 255)], [([cR 0, cI (-2147483648) 2147483647, cI (-2147483648) 2147483647], [], [], some (.inl (cI (-2147483648) 2147483647)))])
theorem q779 : sum_g w0 (pm_Rt pm_P 5) S779 := meth_okB (d := 4) (cuts := [(58, [([(0, cR 0), (1, cI 0 7), (2, cI 0 1), (3, cL (-9223372036854775808) 9223372036854775807), (5, cI 0 128)], [], [((15, 0), 0, 8), ((15, 1), 0, 3), ((15, 4), 1, 8), ((73, 0), 0, 0), ((74, 0), 0, 0)], [], [.inl 0, .inr (.inl 5, true), .inl 0])])]) (spl := []) (K := [0, 1, 2]) (N := 32) (sums := [S777, S768, S776, S121, S109, S110, S778]) aiX8_chance (abX8_chance w0) (by decide) (List.forall_mem_cons.mpr ⟨sum_up q777 3, List.forall_mem_cons.mpr ⟨sum_up q768 0, List.forall_mem_cons.mpr ⟨sum_up q776 2, List.forall_mem_cons.mpr ⟨sum_up q121 3, List.forall_mem_cons.mpr ⟨sum_up q109 3, List.forall_mem_cons.mpr ⟨sum_up q110 3, List.forall_mem_cons.mpr ⟨sum_up q778 2, fun _ h => absurd h List.not_mem_nil⟩⟩⟩⟩⟩⟩⟩) (by decide +kernel)
end
section
/-! what is known of the methods, checked (written by emit.py) -/
noncomputable def S821 : Sum1 := (371, [cR 77, cI 0 7], [], [125], [(77, 22, 23), (77, 27, 27), (89, 0, 7), (90, 0, 9), (91, 0, 7)], [([cR 77, cI 0 7], [((77, 23), 0, 255)], [], some (.inl (cL (-9223372036854775808) 9223372036854775807)))])
/-! the reference's weightOf by hand, but for its answer (q821, q845; wants q730's text) -/
noncomputable def WYM : List Rng := [(77, 22, 23), (77, 27, 27), (89, 0, 7), (90, 0, 9), (91, 0, 7)]
theorem wy_n : ∀ n : Fin 9, pcT (2 ^ n.val - 1) ≤ n.val := by decide +kernel
theorem wy_pc {n s : Nat} (n8 : n ≤ 8) (hs : s < 2 ^ n) : pcT s ≤ n := by
  have a := List.all_eq_true.mp (List.all_eq_true.mp sy_ck n (List.mem_range.mpr (by omega))) s (List.mem_range.mpr hs)
  rw [Bool.or_eq_true] at a
  rcases a with a | a
  · exact Nat.le_of_lt (Nat.le_of_ble_eq_true a)
  · rw [Nat.eq_of_beq_eq_true a]; exact wy_n ⟨n, by omega⟩
theorem wy_ret {look : Nat → Option pm_I} {call : pm_Call} {Q : pm_H → Option Value → Prop} {pc : Nat} {lv : List (Nat × Value)} {h : pm_H} {z : Nat × Nat} {v : Int64} (h1 : look pc = some (.inr (.inr 3))) (hq : Q h (some (.long v))) : Ends look call (pc, lv, [.long v], h, z) Q := ⟨h, some (.long v), Go_ret h1 ⟨v, rfl, rfl⟩, hq⟩
section WYH
variable {h : pm_H}
theorem wy_power {o : Int64} : ∀ (n : Nat), n ≤ 9 → ∀ {d : Nat}, Sp (d + n + 1) 326 h [.long o, .int (nJ n)] (fun h' r => h' = h ∧ ∃ v : Int64, r = some (.long v))
  | 0, _, d => by
    refine Sp_of aiX9_power rfl rfl rfl ?_
    have L2 : pm_get (lv_args 0 [.long o, .int (nJ 0)]) 2 = some (.int (nJ 0)) := rfl
    generalize lv_args 0 [.long o, .int (nJ 0)] = lv at L2 ⊢
    refine E_il rfl L2 ?_
    refine E_ifF rfl (by decide) ?_
    refine E_c rfl ?_
    refine E_goto rfl ?_
    exact wy_ret rfl ⟨rfl, _, rfl⟩
  | n + 1, hn, d => by
    refine Sp_of aiX9_power rfl rfl rfl ?_
    have L0 : pm_get (lv_args 0 [.long o, .int (nJ (n + 1))]) 0 = some (.long o) := rfl
    have L2 : pm_get (lv_args 0 [.long o, .int (nJ (n + 1))]) 2 = some (.int (nJ (n + 1))) := rfl
    generalize lv_args 0 [.long o, .int (nJ (n + 1))] = lv at L0 L2 ⊢
    refine E_il rfl L2 ?_
    refine E_ifT rfl (decide_eq_true (fun q => absurd ((nJ_eq0 (by omega)).mp q) (by omega))) ?_
    refine E_ll rfl L0 ?_
    refine E_ll rfl L0 ?_
    refine E_il rfl L2 ?_
    refine E_ci 1 rfl ci1 ?_
    refine E_bin rfl (show nJ (n + 1) - nJ 1 = nJ n from nJ_sub (by omega)) ?_
    refine E_call rfl (wy_power n (by omega) (d := d)) (chkS rfl (by show 2 ≤ 8; decide)) (fun h1 r1 => ?_)
    rintro ⟨e1, v, f1⟩
    rw [e1, f1]
    refine sy_lb rfl ?_
    exact wy_ret rfl ⟨rfl, _, rfl⟩
end WYH
end
