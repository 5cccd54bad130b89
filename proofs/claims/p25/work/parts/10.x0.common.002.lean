section
noncomputable def So2 : Sum1 := (230, [cL (-9223372036854775808) 9223372036854775807, cL 2 40320], [], [], [], [([cL (-9223372036854775808) 9223372036854775807, cL 2 40320], [], [], some (.inl (cL 1 9223372036854775807)))])
theorem qo2 : sum_g w0 (pm_Rt pm_P 56) So2 := common_sum (-9223372036854775808) 9223372036854775807 2 40320 (by decide) (by decide)
end
section
/-! what is known of the methods, checked (written by emit.py) -/
noncomputable def S962 : Sum1 := (322, [cL (-9223372036854775808) 9223372036854775807, cL 2 40320, cI 0 1], [], [], [], [([cL (-9223372036854775808) 9223372036854775807, cL 2 40320, cI 0 1], [], [], some (.inl (cL (-9223372036854775808) 9223372036854775807)))])
theorem q962 : sum_g w0 (pm_Rt pm_P 57) S962 := meth_ok (d := 56) (cuts := []) (spl := []) (K := [0, 2, 4]) (N := 10) (sums := [So2]) aiX9_partOf (abX9_partOf w0) (by decide) (List.forall_mem_cons.mpr ⟨sum_up qo2 0, fun _ h => absurd h List.not_mem_nil⟩) (by decide +kernel)
noncomputable def S963 : Sum1 := (322, [cL (-9223372036854775808) 9223372036854775807, cL 1 1, cI 0 1], [], [], [], [([cL (-9223372036854775808) 9223372036854775807, cL 1 1, cI 0 1], [], [], some (.inl (cL (-9223372036854775808) 9223372036854775807)))])
theorem q963 : sum_g w0 (pm_Rt pm_P 57) S963 := meth_ok (d := 56) (cuts := []) (spl := []) (K := [0, 2, 4]) (N := 10) (sums := [So0]) aiX9_partOf (abX9_partOf w0) (by decide) (List.forall_mem_cons.mpr ⟨sum_up qo0 0, fun _ h => absurd h List.not_mem_nil⟩) (by decide +kernel)
noncomputable def S964 : Sum1 := (344, [cR 77, cI (-2147483648) 2147483647, cI (-2147483648) 2147483647], [], [125], [(77, 0, 0), (77, 22, 23), (77, 27, 27), (89, 0, 7), (90, 0, 9), (91, 0, 7)], [([cR 77, cI (-2147483648) 2147483647, cI (-2147483648) 2147483647], [], [], some (.inl (cI (-2147483648) 2147483647)))])
theorem q964 : sum_g w0 (pm_Rt pm_P 58) S964 := meth_ok (d := 57) (cuts := [(30, [([(0, cR 77), (1, cI 0 7), (2, cI 0 1), (3, cL (-9223372036854775808) 9223372036854775807), (5, cI 0 256)], [], [((77, 0), 0, 0)], [125], [.inl 0, .inr (.inl 5, true), .inl 0])])]) (spl := []) (K := [0, 1, 2]) (N := 44) (sums := [S112, S731, S740, S732, S744, S738, S741, S747, S745, S742, S746, S739, S616, S646, S114, S116, S963, S962]) aiX9_share (abX9_share w0) (by decide) (List.forall_mem_cons.mpr ⟨sum_up q112 56, List.forall_mem_cons.mpr ⟨sum_up q731 56, List.forall_mem_cons.mpr ⟨sum_up q740 52, List.forall_mem_cons.mpr ⟨sum_up q732 56, List.forall_mem_cons.mpr ⟨sum_up q744 49, List.forall_mem_cons.mpr ⟨sum_up q738 50, List.forall_mem_cons.mpr ⟨sum_up q741 51, List.forall_mem_cons.mpr ⟨sum_up q747 49, List.forall_mem_cons.mpr ⟨sum_up q745 52, List.forall_mem_cons.mpr ⟨sum_up q742 52, List.forall_mem_cons.mpr ⟨sum_up q746 52, List.forall_mem_cons.mpr ⟨sum_up q739 52, List.forall_mem_cons.mpr ⟨sum_up q616 56, List.forall_mem_cons.mpr ⟨sum_up q646 56, List.forall_mem_cons.mpr ⟨sum_up q114 55, List.forall_mem_cons.mpr ⟨sum_up q116 55, List.forall_mem_cons.mpr ⟨sum_up q963 0, List.forall_mem_cons.mpr ⟨sum_up q962 0, fun _ h => absurd h List.not_mem_nil⟩⟩⟩⟩⟩⟩⟩⟩⟩⟩⟩⟩⟩⟩⟩⟩⟩⟩) (by decide +kernel)
noncomputable def S965 : Sum1 := (322, [cL (-9223372036854775808) 9223372036854775807, cL 1 100000000, cI 0 1], [], [], [], [([cL (-9223372036854775808) 9223372036854775807, cL 1 100000000, cI 0 1], [], [], some (.inl (cL (-9223372036854775808) 9223372036854775807)))])
theorem q965 : sum_g w0 (pm_Rt pm_P 57) S965 := meth_ok (d := 56) (cuts := []) (spl := []) (K := [0, 2, 4]) (N := 10) (sums := [So1]) aiX9_partOf (abX9_partOf w0) (by decide) (List.forall_mem_cons.mpr ⟨sum_up qo1 0, fun _ h => absurd h List.not_mem_nil⟩) (by decide +kernel)
noncomputable def S966 : Sum1 := (226, [cR 77, cI (-2147483648) 2147483647, cI (-2147483648) 2147483647], [], [125], [(77, 0, 0), (77, 22, 23), (77, 27, 27), (89, 0, 7), (90, 0, 9), (91, 0, 7)], [([cR 77, cI (-2147483648) 2147483647, cI (-2147483648) 2147483647], [], [], some (.inl (cI (-2147483648) 2147483647)))])
theorem q966 : sum_g w0 (pm_Rt pm_P 58) S966 := meth_ok (d := 57) (cuts := []) (spl := []) (K := [0, 1, 2]) (N := 24) (sums := [S112, S821, S830, S114, S116, S965]) aiX9_chance (abX9_chance w0) (by decide) (List.forall_mem_cons.mpr ⟨sum_up q112 56, List.forall_mem_cons.mpr ⟨sum_up q821 47, List.forall_mem_cons.mpr ⟨sum_up q830 48, List.forall_mem_cons.mpr ⟨sum_up q114 55, List.forall_mem_cons.mpr ⟨sum_up q116 55, List.forall_mem_cons.mpr ⟨sum_up q965 0, fun _ h => absurd h List.not_mem_nil⟩⟩⟩⟩⟩⟩) (by decide +kernel)
noncomputable def S967 : Sum1 := (310, [cR 77, cI (-2147483648) 2147483647], [], [125], [(77, 0, 0), (77, 22, 23), (77, 27, 27), (89, 0, 7), (90, 0, 9), (91, 0, 7)], [([cR 77, cI (-2147483648) 2147483647], [], [], some (.inl (cL (-9223372036854775808) 9223372036854775807)))])
theorem q967 : sum_g w0 (pm_Rt pm_P 58) S967 := meth_ok (d := 57) (cuts := []) (spl := []) (K := [0, 1]) (N := 21) (sums := [S160, S845, S112, S830, S116, S965]) aiX9_mean (abX9_mean w0) (by decide) (List.forall_mem_cons.mpr ⟨sum_up q160 56, List.forall_mem_cons.mpr ⟨sum_up q845 47, List.forall_mem_cons.mpr ⟨sum_up q112 56, List.forall_mem_cons.mpr ⟨sum_up q830 48, List.forall_mem_cons.mpr ⟨sum_up q116 55, List.forall_mem_cons.mpr ⟨sum_up q965 0, fun _ h => absurd h List.not_mem_nil⟩⟩⟩⟩⟩⟩) (by decide +kernel)
end
section
/-! sums about numbers: rows that count, trees by the order in which nodes come, bits -/
noncomputable def TL (f : Nat → Nat) : List Nat → Prop
  | [] => True
  | v :: L => v ≠ 0 ∧ v ∉ L ∧ (f v = 0 ∨ f v ∈ L) ∧ TL f L
theorem dep_zero (f : Nat → Nat) : ∀ d, dep f d 0
  | 0 => rfl
  | _ + 1 => .inl rfl
theorem dep_up1 {f : Nat → Nat} : ∀ {d v : Nat}, dep f d v → dep f (d + 1) v
  | 0, _, h => .inl h
  | _ + 1, _, .inl h => .inl h
  | _ + 1, _, .inr h => .inr (dep_up1 h)
theorem dep_le {f : Nat → Nat} {d v : Nat} (h : dep f d v) : ∀ {e : Nat}, d ≤ e → dep f e v
  | 0, he => by
    have : d = 0 := by omega
    subst this
    exact h
  | e + 1, he => by
    by_cases hd : d = e + 1
    · subst hd; exact h
    · exact dep_up1 (dep_le h (e := e) (by omega))
theorem TL_dep {f : Nat → Nat} : ∀ {L : List Nat}, TL f L → ∀ v, v ∈ L → dep f L.length v
  | [], _, v, hv => absurd hv List.not_mem_nil
  | u :: L, h, v, hv => by
    have ih : ∀ v, v ∈ L → dep f L.length v := TL_dep h.2.2.2
    show dep f (L.length + 1) v
    cases List.mem_cons.mp hv with
    | inr hv => exact dep_up1 (ih v hv)
    | inl e =>
      subst e
      right
      cases h.2.2.1 with
      | inl h0 => rw [h0]; exact dep_zero f _
      | inr h1 => exact ih _ h1
theorem TL_upd {f g : Nat → Nat} : ∀ {L : List Nat}, (∀ v, v ∈ L → g v = f v) → TL f L → TL g L
  | [], _, _ => trivial
  | u :: L, hfg, h => by
    refine ⟨h.1, h.2.1, ?_, TL_upd (fun v hv => hfg v (List.mem_cons_of_mem _ hv)) h.2.2.2⟩
    rw [hfg u List.mem_cons_self]
    exact h.2.2.1
end
section
/-! by hand: how many want so, lawful rows (written by gen_t2.py) -/
theorem wn_loop {h : pm_H} {d p : Nat} (hh : HH h) (hp : p < 2147483648) (k : Nat) : ∀ {c n : Nat}, n = cw (gn h 89) p c → ∀ (lv : List (Nat × Value)), c + k = gn h 84 3 → pm_get lv 0 = some (.ref 77) → pm_get lv 1 = some (.int (nJ p)) → pm_get lv 2 = some (.int (nJ n)) → pm_get lv 3 = some (.int (nJ c)) → Ends (pm_at tX9_wanting) (pm_Rt pm_P (d + 1)) (4, lv, [], h, 0, 0) (fun h' r => h' = h ∧ r = some (.int (nJ (cw (gn h 89) p (gn h 84 3))))) := by
  have hC : gn h 84 3 ≤ 8 := gn_hi hh rfl (by decide)
  induction k with
  | zero =>
    intro c n hn lv hk L0 L1 L2 L3
    have hn8 := cw_le (gn h 89) p c
    refine E_il rfl L3 ?_
    refine E_al rfl L0 ?_
    refine E_call rfl (sp_cars hh) (chk77 hh rfl rfl (by show 1 ≤ 8; decide)) (fun h1 r1 => ?_)
    rintro ⟨e1, f1, c1⟩
    rw [e1, f1]
    show Ends _ _ (9, lv, [.int (nJ (gn h 84 3)), .int (nJ c)], h, 0, 0) _
    refine E_icT rfl (decide_eq_true ((nJ_le (by omega) (by omega)).mpr (by omega))) ?_
    refine E_il rfl L2 ?_
    exact E_rti rfl ⟨rfl, by rw [hn, show gn h 84 3 = c by omega]⟩
  | succ k ih =>
    intro c n hn lv hk L0 L1 L2 L3
    have hn8 := cw_le (gn h 89) p c
    refine E_il rfl L3 ?_
    refine E_al rfl L0 ?_
    refine E_call rfl (sp_cars hh) (chk77 hh rfl rfl (by show 1 ≤ 8; decide)) (fun h1 r1 => ?_)
    rintro ⟨e1, f1, c1⟩
    rw [e1, f1]
    show Ends _ _ (9, lv, [.int (nJ (gn h 84 3)), .int (nJ c)], h, 0, 0) _
    refine E_icF rfl (decide_eq_false (fun q => absurd ((nJ_le (by omega) (by omega)).mp q) (by omega))) ?_
    refine E_il rfl L2 ?_
    refine E_al rfl L0 ?_
    refine E_gr rfl hh (q := 89) rfl ?_
    refine E_il rfl L3 ?_
    have b2 : gn h 89 c ≤ 8 := gn_hi hh (bd_u rfl (by omega)) (by decide)
    refine E_ial rfl hh rfl (by omega) (by decide) (gi_gn hh (bd_u rfl (by omega)) (by decide)) ?_
    refine E_il rfl L1 ?_
    by_cases hb3 : p < (gn h 89 c)
    · refine E_icT rfl (decide_eq_true ((nJ_lt (by omega) (by omega)).mpr hb3)) ?_
      refine E_ci 0 rfl (by decide) ?_
      refine E_bin rfl (nJ_add _ _) ?_
      refine E_is rfl (fun lv4 L4_2 kp4 => ?_)
      have L4_0 := kp4 0 _ (by decide) rfl L0
      have L4_1 := kp4 1 _ (by decide) rfl L1
      have L4_3 := kp4 3 _ (by decide) rfl L3
      refine E_inc rfl L4_3 (nJ_inc _) (fun lv5 L5_3 kp5 => ?_)
      have L5_0 := kp5 0 _ (by decide) rfl L4_0
      have L5_1 := kp5 1 _ (by decide) rfl L4_1
      have L5_2 := kp5 2 _ (by decide) rfl L4_2
      refine E_goto rfl ?_
      refine ih (c := c + 1) (n := (n + 0)) ?_ lv5 (by omega) L5_0 L5_1 L5_2 L5_3
      rw [hn, cw_F (by omega)]
    · refine E_icF rfl (decide_eq_false (fun q => hb3 ((nJ_lt (by omega) (by omega)).mp q))) ?_
      refine E_ci 1 rfl (by decide) ?_
      refine E_goto rfl ?_
      refine E_bin rfl (nJ_add _ _) ?_
      refine E_is rfl (fun lv6 L6_2 kp6 => ?_)
      have L6_0 := kp6 0 _ (by decide) rfl L0
      have L6_1 := kp6 1 _ (by decide) rfl L1
      have L6_3 := kp6 3 _ (by decide) rfl L3
      refine E_inc rfl L6_3 (nJ_inc _) (fun lv7 L7_3 kp7 => ?_)
      have L7_0 := kp7 0 _ (by decide) rfl L6_0
      have L7_1 := kp7 1 _ (by decide) rfl L6_1
      have L7_2 := kp7 2 _ (by decide) rfl L6_2
      refine E_goto rfl ?_
      refine ih (c := c + 1) (n := (n + 1)) ?_ lv7 (by omega) L7_0 L7_1 L7_2 L7_3
      rw [hn, cw_T (by omega)]
theorem sp_wanting {h : pm_H} {d p : Nat} (hh : HH h) (hp : p < 2147483648) : Sp (d + 2) 369 h [.ref 77, .int (nJ p)] (fun h' r => h' = h ∧ r = some (.int (nJ (cw (gn h 89) p (gn h 84 3))))) := by
  refine Sp_of aiX9_wanting rfl rfl rfl ?_
  refine E_ci 0 rfl (by decide) ?_
  refine E_is rfl (fun lv1 L1_2 kp1 => ?_)
  have L1_0 := kp1 0 _ (by decide) rfl (show pm_get (lv_args 0 [.ref 77, .int (nJ p)]) 0 = _ from rfl)
  have L1_1 := kp1 1 _ (by decide) rfl (show pm_get (lv_args 0 [.ref 77, .int (nJ p)]) 1 = _ from rfl)
  refine E_ci 0 rfl (by decide) ?_
  refine E_is rfl (fun lv2 L2_3 kp2 => ?_)
  have L2_0 := kp2 0 _ (by decide) rfl L1_0
  have L2_1 := kp2 1 _ (by decide) rfl L1_1
  have L2_2 := kp2 2 _ (by decide) rfl L1_2
  exact wn_loop hh hp (gn h 84 3) (c := 0) (n := 0) rfl lv2 (by omega) L2_0 L2_1 L2_2 L2_3
end
