section
noncomputable def So2 : Sum1 := (230, [cL (-9223372036854775808) 9223372036854775807, cL 2 40320], [], [], [], [([cL (-9223372036854775808) 9223372036854775807, cL 2 40320], [], [], some (.inl (cL 1 9223372036854775807)))])
theorem qo2 : sum_g w0 (pm_Rt pm_P 56) So2 := common_sum (-9223372036854775808) 9223372036854775807 2 40320 (by decide) (by decide)
end
section
/-! what is known of the methods, checked (written by emit.py) -/
noncomputable def S962 : Sum1 := (322, [cL (-9223372036854775808) 9223372036854775807, cL 2 40320, cI 0 1], [], [], [], [([cL (-9223372036854775808) 9223372036854775807, cL 2 40320, cI 0 1], [], [], some (.inl (cL (-9223372036854775808) 9223372036854775807)))])
theorem q962 : sum_g w0 (pm_Rt pm_P 57) S962 := meth_okB (d := 56) (cuts := []) (spl := []) (K := [0, 2, 4]) (N := 10) (sums := [So2]) aiX9_partOf (abX9_partOf w0) (by decide) (List.forall_mem_cons.mpr ⟨sum_up qo2 0, fun _ h => absurd h List.not_mem_nil⟩) (by decide +kernel)
noncomputable def S963 : Sum1 := (322, [cL (-9223372036854775808) 9223372036854775807, cL 1 1, cI 0 1], [], [], [], [([cL (-9223372036854775808) 9223372036854775807, cL 1 1, cI 0 1], [], [], some (.inl (cL (-9223372036854775808) 9223372036854775807)))])
theorem q963 : sum_g w0 (pm_Rt pm_P 57) S963 := meth_okB (d := 56) (cuts := []) (spl := []) (K := [0, 2, 4]) (N := 10) (sums := [So0]) aiX9_partOf (abX9_partOf w0) (by decide) (List.forall_mem_cons.mpr ⟨sum_up qo0 0, fun _ h => absurd h List.not_mem_nil⟩) (by decide +kernel)
noncomputable def S964 : Sum1 := (344, [cR 77, cI (-2147483648) 2147483647, cI (-2147483648) 2147483647], [], [125], [(77, 0, 0), (77, 22, 23), (77, 27, 27), (89, 0, 7), (90, 0, 9), (91, 0, 7)], [([cR 77, cI (-2147483648) 2147483647, cI (-2147483648) 2147483647], [], [], some (.inl (cI (-2147483648) 2147483647)))])
theorem q964 : sum_g w0 (pm_Rt pm_P 58) S964 := meth_okB (d := 57) (cuts := [(30, [([(0, cR 77), (1, cI 0 7), (2, cI 0 1), (3, cL (-9223372036854775808) 9223372036854775807), (5, cI 0 256)], [], [((77, 0), 0, 0)], [125], [.inl 0, .inr (.inl 5, true), .inl 0])])]) (spl := []) (K := [0, 1, 2]) (N := 44) (sums := [S112, S731, S740, S732, S744, S738, S741, S747, S745, S742, S746, S739, S616, S646, S114, S116, S963, S962]) aiX9_share (abX9_share w0) (by decide) (List.forall_mem_cons.mpr ⟨sum_up q112 56, List.forall_mem_cons.mpr ⟨sum_up q731 56, List.forall_mem_cons.mpr ⟨sum_up q740 52, List.forall_mem_cons.mpr ⟨sum_up q732 56, List.forall_mem_cons.mpr ⟨sum_up q744 49, List.forall_mem_cons.mpr ⟨sum_up q738 50, List.forall_mem_cons.mpr ⟨sum_up q741 51, List.forall_mem_cons.mpr ⟨sum_up q747 49, List.forall_mem_cons.mpr ⟨sum_up q745 52, List.forall_mem_cons.mpr ⟨sum_up q742 52, List.forall_mem_cons.mpr ⟨sum_up q746 52, List.forall_mem_cons.mpr ⟨sum_up q739 52, List.forall_mem_cons.mpr ⟨sum_up q616 56, List.forall_mem_cons.mpr ⟨sum_up q646 56, List.forall_mem_cons.mpr ⟨sum_up q114 55, List.forall_mem_cons.mpr ⟨sum_up q116 55, List.forall_mem_cons.mpr ⟨sum_up q963 0, List.forall_mem_cons.mpr ⟨sum_up q962 0, fun _ h => absurd h List.not_mem_nil⟩⟩⟩⟩⟩⟩⟩⟩⟩⟩⟩⟩⟩⟩⟩⟩⟩⟩) (by decide +kernel)
noncomputable def S965 : Sum1 := (322, [cL (-9223372036854775808) 9223372036854775807, cL 1 100000000, cI 0 1], [], [], [], [([cL (-9223372036854775808) 9223372036854775807, cL 1 100000000, cI 0 1], [], [], some (.inl (cL (-9223372036854775808) 9223372036854775807)))])
theorem q965 : sum_g w0 (pm_Rt pm_P 57) S965 := meth_okB (d := 56) (cuts := []) (spl := []) (K := [0, 2, 4]) (N := 10) (sums := [So1]) aiX9_partOf (abX9_partOf w0) (by decide) (List.forall_mem_cons.mpr ⟨sum_up qo1 0, fun _ h => absurd h List.not_mem_nil⟩) (by decide +kernel)
noncomputable def S966 : Sum1 := (226, [cR 77, cI (-2147483648) 2147483647, cI (-2147483648) 2147483647], [], [125], [(77, 0, 0), (77, 22, 23), (77, 27, 27), (89, 0, 7), (90, 0, 9), (91, 0, 7)], [([cR 77, cI (-2147483648) 2147483647, cI (-2147483648) 2147483647], [], [], some (.inl (cI (-2147483648) 2147483647)))])
theorem q966 : sum_g w0 (pm_Rt pm_P 58) S966 := meth_okB (d := 57) (cuts := []) (spl := []) (K := [0, 1, 2]) (N := 24) (sums := [S112, S821, S830, S114, S116, S965]) aiX9_chance (abX9_chance w0) (by decide) (List.forall_mem_cons.mpr ⟨sum_up q112 56, List.forall_mem_cons.mpr ⟨sum_up q821 47, List.forall_mem_cons.mpr ⟨sum_up q830 48, List.forall_mem_cons.mpr ⟨sum_up q114 55, List.forall_mem_cons.mpr ⟨sum_up q116 55, List.forall_mem_cons.mpr ⟨sum_up q965 0, fun _ h => absurd h List.not_mem_nil⟩⟩⟩⟩⟩⟩) (by decide +kernel)
noncomputable def S967 : Sum1 := (310, [cR 77, cI (-2147483648) 2147483647], [], [125], [(77, 0, 0), (77, 22, 23), (77, 27, 27), (89, 0, 7), (90, 0, 9), (91, 0, 7)], [([cR 77, cI (-2147483648) 2147483647], [], [], some (.inl (cL (-9223372036854775808) 9223372036854775807)))])
theorem q967 : sum_g w0 (pm_Rt pm_P 58) S967 := meth_okB (d := 57) (cuts := []) (spl := []) (K := [0, 1]) (N := 21) (sums := [S160, S845, S112, S830, S116, S965]) aiX9_mean (abX9_mean w0) (by decide) (List.forall_mem_cons.mpr ⟨sum_up q160 56, List.forall_mem_cons.mpr ⟨sum_up q845 47, List.forall_mem_cons.mpr ⟨sum_up q112 56, List.forall_mem_cons.mpr ⟨sum_up q830 48, List.forall_mem_cons.mpr ⟨sum_up q116 55, List.forall_mem_cons.mpr ⟨sum_up q965 0, fun _ h => absurd h List.not_mem_nil⟩⟩⟩⟩⟩⟩) (by decide +kernel)
end
section
/-! sums about numbers: rows that count, trees by the order in which nodes come, bits -/
noncomputable def TL (f : Nat → Nat) : List Nat → Prop
  | [] => True
  | v :: L => v ≠ 0 ∧ v ∉ L ∧ (f v = 0 ∨ f v ∈ L) ∧ TL f L
theorem dep_zero (f : Nat → Nat) : ∀ d, dep f d 0
  | 0 => rfl
  | _ + 1 => .inl rfl
theorem dep_up1 {f : Nat → Nat} : ∀ {d v : Nat}, dep f d v → dep f (d + 1) v
  | 0, _, h => .inl h
  | _ + 1, _, .inl h => .inl h
  | _ + 1, _, .inr h => .inr (dep_up1 h)
theorem dep_le {f : Nat → Nat} {d v : Nat} (h : dep f d v) : ∀ {e : Nat}, d ≤ e → dep f e v
  | 0, he => by
    have : d = 0 := by omega
    subst this
    exact h
  | e + 1, he => by
    by_cases hd : d = e + 1
    · subst hd; exact h
    · exact dep_up1 (dep_le h (e := e) (by omega))
theorem TL_dep {f : Nat → Nat} : ∀ {L : List Nat}, TL f L → ∀ v, v ∈ L → dep f L.length v
  | [], _, v, hv => absurd hv List.not_mem_nil
  | u :: L, h, v, hv => by
    have ih : ∀ v, v ∈ L → dep f L.length v := TL_dep h.2.2.2
    show dep f (L.length + 1) v
    cases List.mem_cons.mp hv with
    | inr hv => exact dep_up1 (ih v hv)
    | inl e =>
      subst e
      right
      cases h.2.2.1 with
      | inl h0 => rw [h0]; exact dep_zero f _
      | inr h1 => exact ih _ h1
theorem TL_upd {f g : Nat → Nat} : ∀ {L : List Nat}, (∀ v, v ∈ L → g v = f v) → TL f L → TL g L
  | [], _, _ => trivial
  | u :: L, hfg, h => by
    refine ⟨h.1, h.2.1, ?_, TL_upd (fun v hv => hfg v (List.mem_cons_of_mem _ hv)) h.2.2.2⟩
    rw [hfg u List.mem_cons_self]
    exact h.2.2.1
end
section
/-! by hand: how many want so, lawful rows (written by gen_t2.py) -/
/-- lawful -/
noncomputable def LWf (h : pm_H) : Prop := gn h 84 3 = gn h 84 0 ∧ ∀ p, 1 ≤ p → p ≤ gn h 84 0 → p ≤ cw (gn h 89) p (gn h 84 0)
theorem lw_loop {h : pm_H} {d : Nat} (hh : HH h) (hCP : gn h 84 3 = gn h 84 0) (k : Nat) : ∀ {p : Nat}, p + k = gn h 84 0 + 1 → (∀ q, 1 ≤ q → q < p → q ≤ cw (gn h 89) q (gn h 84 3)) → ∀ (lv : List (Nat × Value)), pm_get lv 0 = some (.ref 77) → pm_get lv 1 = some (.int (nJ p)) → Ends (pm_at tX9_isLawful) (pm_Rt pm_P (d + 2)) (15, lv, [], h, 0, 0) (fun h' r => h' = h ∧ (r = some (.int (nJ 0)) ∨ r = some (.int (nJ 1)) ∧ LWf h)) := by
  have hP : gn h 84 0 ≤ 8 := gn_hi hh rfl (by decide)
  induction k with
  | zero =>
    intro p hk hp lv L0 L1
    refine E_il rfl L1 ?_
    refine E_al rfl L0 ?_
    refine E_call rfl (sp_places hh) (chk77 hh rfl rfl (by show 1 ≤ 8; decide)) (fun h1 r1 => ?_)
    rintro ⟨e1, f1, c1⟩
    rw [e1, f1]
    show Ends _ _ (20, lv, [.int (nJ (gn h 84 0)), .int (nJ p)], h, 0, 0) _
    refine E_icT rfl (decide_eq_true ((nJ_lt (by omega) (by omega)).mpr (by omega))) ?_
    refine E_ci 1 rfl ci1 ?_
    exact E_rtz rfl (.inr rfl) ⟨rfl, .inr ⟨rfl, hCP, fun q h1 h2 => by have := hp q h1 (by omega); rw [hCP] at this; exact this⟩⟩
  | succ k ih =>
    intro p hk hp lv L0 L1
    refine E_il rfl L1 ?_
    refine E_al rfl L0 ?_
    refine E_call rfl (sp_places hh) (chk77 hh rfl rfl (by show 1 ≤ 8; decide)) (fun h1 r1 => ?_)
    rintro ⟨e1, f1, c1⟩
    rw [e1, f1]
    show Ends _ _ (20, lv, [.int (nJ (gn h 84 0)), .int (nJ p)], h, 0, 0) _
    refine E_icF rfl (decide_eq_false (fun q => absurd ((nJ_lt (by omega) (by omega)).mp q) (by omega))) ?_
    refine E_al rfl L0 ?_
    refine E_il rfl L1 ?_
    refine E_call rfl (sp_wanting hh (by omega)) (chk77 hh rfl rfl (by show 0 ≤ 8; decide)) (fun h2 r2 => ?_)
    rintro ⟨e2, f2⟩
    rw [e2, f2]
    have hw8 := cw_le (gn h 89) p (gn h 84 3)
    show Ends _ _ (28, lv, [.int (nJ (cw (gn h 89) p (gn h 84 3)))], h, 0, 0) _
    refine E_il rfl L1 ?_
    by_cases hb3 : p ≤ (cw (gn h 89) p (gn h 84 3))
    · refine E_icT rfl (decide_eq_true ((nJ_le (by omega) (by omega)).mpr hb3)) ?_
      refine E_inc rfl L1 (nJ_inc _) (fun lv4 L4_1 kp4 => ?_)
      have L4_0 := kp4 0 _ (nbz rfl) rfl L0
      refine E_goto rfl ?_
      refine ih (p := p + 1) (by omega) (fun q h1 h2 => ?_) lv4 L4_0 L4_1
      by_cases hq : q = p
      · subst hq; omega
      · exact hp q h1 (by omega)
    · refine E_icF rfl (decide_eq_false (fun q => hb3 ((nJ_le (by omega) (by omega)).mp q))) ?_
      refine E_ci 0 rfl ci0 ?_
      exact E_rtz rfl (.inl rfl) ⟨rfl, .inl rfl⟩
theorem sp_isLawful {h : pm_H} {d : Nat} (hh : HH h) : Sp (d + 3) 272 h [.ref 77] (fun h' r => h' = h ∧ (r = some (.int (nJ 0)) ∨ r = some (.int (nJ 1)) ∧ LWf h)) := by
  refine Sp_of aiX9_isLawful rfl rfl rfl ?_
  refine E_al rfl (show pm_get (lv_args 0 [.ref 77]) 0 = _ from rfl) ?_
  refine E_call rfl (sp_cars hh) (chk77 hh rfl rfl (by show 0 ≤ 8; decide)) (fun h1 r1 => ?_)
  rintro ⟨e1, f1, c1⟩
  rw [e1, f1]
  show Ends _ _ (4, (lv_args 0 [.ref 77]), [.int (nJ (gn h 84 3))], h, 0, 0) _
  refine E_al rfl (show pm_get (lv_args 0 [.ref 77]) 0 = _ from rfl) ?_
  refine E_call rfl (sp_places hh) (chk77 hh rfl rfl (by show 1 ≤ 8; decide)) (fun h2 r2 => ?_)
  rintro ⟨e2, f2, c2⟩
  rw [e2, f2]
  show Ends _ _ (8, (lv_args 0 [.ref 77]), [.int (nJ (gn h 84 0)), .int (nJ (gn h 84 3))], h, 0, 0) _
  by_cases hb3 : (gn h 84 3) = (gn h 84 0)
  · refine E_icT rfl (decide_eq_true ((nJ_eq (by omega) (by omega)).mpr hb3)) ?_
    refine E_ci 1 rfl ci1 ?_
    refine E_is rfl (fun lv4 L4_1 kp4 => ?_)
    have L4_0 := kp4 0 _ (nbz rfl) rfl (show pm_get (lv_args 0 [.ref 77]) 0 = _ from rfl)
    exact lw_loop hh (by omega) (gn h 84 0) (p := 1) (by omega) (fun q h1 h2 => by omega) lv4 L4_0 L4_1
  · refine E_icF rfl (decide_eq_false (fun q => hb3 ((nJ_eq (by omega) (by omega)).mp q))) ?_
    refine E_ci 0 rfl ci0 ?_
    exact E_rtz rfl (.inl rfl) ⟨rfl, .inl rfl⟩
end
section
/-! by hand: the search (written by gen_t3.py) -/
noncomputable def GM : List Rng := [(77, 35, 36), (92, 0, 8), (97, 0, 7), (98, 0, 8)]
noncomputable def GS (h : pm_H) (C m : Nat) (g : Nat → Nat) (L : List Nat) : Prop := HH h ∧ gn h 84 3 = C ∧ gi h 77 35 = nJ m ∧ m < 512 ∧ gn h 77 36 = pcn m C + 1 ∧ (TL (gn h 92) L ∧ L.length = pcn m C) ∧ (∀ v, v ∈ L ↔ ∃ c, c < C ∧ v = c + 1 ∧ isB m c = true) ∧ ∀ c, c < C → (gi h 97 c = nJ (g c) ∨ gi h 97 c = -1 ∧ g c = 0) ∧ g c ≤ 8
noncomputable def GQ (h0 : pm_H) (C m0 : Nat) (g0 : Nat → Nat) (h' : pm_H) (r : Option Value) : Prop := r = none ∧ fr_g GM h0 h' ∧ ∃ m g L, GS h' C m g L ∧ (∀ c, c < C → isB m0 c = true → isB m c = true) ∧ ∀ c, c < C → isB m c = false → g c + 1 + pcn m C = g0 c + pcn m0 C
theorem GS_g0 {h : pm_H} {C m k : Nat} {g : Nat → Nat} {L : List Nat} (G : GS h C m g L) (hk : k < C) : gi h 97 k ≤ 0 ↔ g k = 0 := by
  obtain ⟨h1, h2⟩ := G.2.2.2.2.2.2.2 k hk
  cases h1 with
  | inl e => rw [e]; exact nJ_le0 (by omega)
  | inr e => rw [e.1, e.2]; exact ⟨fun _ => rfl, fun _ => by decide⟩
theorem GS_gk {h : pm_H} {C m k : Nat} {g : Nat → Nat} {L : List Nat} (G : GS h C m g L) (hk : k < C) (h0 : ¬ g k = 0) : gi h 97 k = nJ (g k) := by
  cases (G.2.2.2.2.2.2.2 k hk).1 with
  | inl e => exact e
  | inr e => exact absurd e.2 h0
theorem GS_dec {h : pm_H} {C m k : Nat} {g : Nat → Nat} {L : List Nat} (G : GS h C m g L) (hC : C ≤ 8) (hk : k < C) (h0 : ¬ g k = 0) : GS (pt h 97 k (nJ (g k - 1))) C m (fun c => if c = k then g k - 1 else g c) L := by
  obtain ⟨hh, g1, g2, g3, g4, g5, g6, g7⟩ := G
  have hk8 := (g7 k hk).2
  refine ⟨HH_ptn hh (bd_u rfl (by omega)) (by omega) (by omega) (by omega), ?_, ?_, g3, ?_, ?_, g6, fun c hc => ?_⟩
  · rw [gn_ne (by first | exact gxx rfl | omega)]; exact g1
  · rw [gi_ne (by first | exact gxx rfl | omega)]; exact g2
  · rw [gn_ne (by first | exact gxx rfl | omega)]; exact g4
  · refine ⟨TL_upd (fun v _ => ?_) g5.1, g5.2⟩
    rw [gn_ne (by first | exact gxx rfl | omega)]
  · dsimp only
    by_cases hck : c = k
    · subst hck
      rw [if_pos rfl]
      exact ⟨.inl (gi_pt hh (bd_u rfl (by omega)) (ai_lo _) (ai_hi _)), by omega⟩
    · rw [if_neg hck, gi_ne (fun _ => hck)]
      exact g7 c hc
theorem GS_add {h : pm_H} {C m m2 k node : Nat} {g : Nat → Nat} {L : List Nat} (G : GS h C m g L) (hC : C ≤ 8) (hk : k < C) (hz : isB m k = false) (hm2 : m2 = m + 2 ^ k) (hn : node = 0 ∨ node ∈ L) (hn8 : node ≤ 8) :
    GS (pt (pt (pt (pt h 77 35 (nJ m2)) 92 (k + 1) (nJ node)) 98 (pcn m C + 1) (nJ (k + 1))) 77 36 (nJ (pcn m C + 1 + 1))) C m2 g ((k + 1) :: L) := by
  obtain ⟨hh, g1, g2, g3, g4, g5, g6, g7⟩ := G
  have hp := pcn_lt hz hk
  have hm2l : m2 < 512 := by rw [hm2]; exact isB_add_lt g3 (by omega) hz
  have hh1 : HH (pt h 77 35 (nJ m2)) := HH_pt hh rfl (ai_lo _) (ai_hi _)
  have hh2 : HH (pt (pt h 77 35 (nJ m2)) 92 (k + 1) (nJ node)) := HH_ptn hh1 (bd_u rfl (by omega)) (by omega) (by omega) (by omega)
  have hh3 : HH (pt (pt (pt h 77 35 (nJ m2)) 92 (k + 1) (nJ node)) 98 (pcn m C + 1) (nJ (k + 1))) := HH_ptn hh2 (bd_u rfl (by omega)) (by omega) (by omega) (by omega)
  have hnL : k + 1 ∉ L := fun hm => by
    obtain ⟨c, c1, c2, c3⟩ := (g6 _).mp hm
    have : c = k := by omega
    subst this
    rw [hz] at c3
    cases c3
  have hB : ∀ c, c < C → isB m2 c = (c == k || isB m c) := fun c hc => by rw [hm2]; exact isB_add g3 (by omega) (by omega) hz
  refine ⟨HH_ptn hh3 rfl (by omega) (by omega) (by omega), ?_, ?_, hm2l, ?_, ⟨⟨by omega, hnL, ?_, ?_⟩, ?_⟩, fun v => ⟨fun hv => ?_, fun hv => ?_⟩, fun c hc => ?_⟩
  · rw [gn_ne (by first | exact gxx rfl | omega), gn_ne (by first | exact gxx rfl | omega), gn_ne (by first | exact gxx rfl | omega), gn_ne (by first | exact gxx rfl | omega)]; exact g1
  · rw [gi_ne (by first | exact gxx rfl | omega), gi_ne (by first | exact gxx rfl | omega), gi_ne (by first | exact gxx rfl | omega)]; exact gi_pt hh rfl (ai_lo _) (ai_hi _)
  · rw [gn_ptn hh3 rfl (by omega) (by omega) (by omega), hm2, pcn_add g3 (by omega) hz (by omega), if_pos hk]
  · rw [gn_ne (by first | exact gxx rfl | omega), gn_ne (by first | exact gxx rfl | omega), gn_ptn hh1 (bd_u rfl (by omega)) (by omega) (by omega) (by omega)]; exact hn
  · refine TL_upd (fun v hv => ?_) g5.1
    have : v ≠ k + 1 := fun e => hnL (e ▸ hv)
    rw [gn_ne (by first | exact gxx rfl | omega), gn_ne (by first | exact gxx rfl | omega), gn_ne (fun _ => this), gn_ne (by first | exact gxx rfl | omega)]
  · rw [List.length_cons, g5.2, hm2, pcn_add g3 (by omega) hz (by omega), if_pos hk]
  · cases List.mem_cons.mp hv with
    | inl e => exact ⟨k, hk, e, by rw [hB k hk, beq_self_eq_true]; rfl⟩
    | inr hv =>
      obtain ⟨c, c1, c2, c3⟩ := (g6 v).mp hv
      exact ⟨c, c1, c2, by rw [hB c c1, c3, Bool.or_true]⟩
  · obtain ⟨c, c1, c2, c3⟩ := hv
    rw [hB c c1] at c3
    by_cases hck : c = k
    · subst hck; rw [c2]; exact List.mem_cons_self
    · rw [show (c == k) = false from beq_eq_false_iff_ne.mpr hck, Bool.false_or] at c3
      exact List.mem_cons_of_mem _ ((g6 v).mpr ⟨c, c1, c2, c3⟩)
  · rw [gi_ne (by first | exact gxx rfl | omega), gi_ne (by first | exact gxx rfl | omega), gi_ne (by first | exact gxx rfl | omega), gi_ne (by first | exact gxx rfl | omega)]
    exact g7 c hc
theorem go_loop {u C node m0 : Nat} {g0 : Nat → Nat} {h0 : pm_H} (hC : C ≤ 8) (hn8 : node ≤ 8) (ihu : ∀ u', u = u' + 1 → ∀ (h : pm_H) (nd m : Nat) (g : Nat → Nat) (L : List Nat), GS h C m g L → C ≤ u' + pcn m C → (nd = 0 ∨ nd ∈ L) → nd ≤ 8 → Sp (u' + 2) 256 h [.ref 77, .int (nJ nd)] (GQ h C m g)) (k : Nat) : ∀ {h : pm_H} {m : Nat} {g : Nat → Nat} {L : List Nat} (lv : List (Nat × Value)), k ≤ C → GS h C m g L → (node = 0 ∨ node ∈ L) → (∀ c, c < C → isB m0 c = true → isB m c = true) → fr_g GM h0 h → C ≤ u + pcn m C → (∀ c, c < C → isB m c = false → g c + pcn m C + (if k ≤ c then 1 else 0) = g0 c + pcn m0 C) → pm_get lv 0 = some (.ref 77) → pm_get lv 1 = some (.int (nJ node)) → pm_get lv 2 = some (.int (pI k)) → Ends (pm_at tX9_goesOn) (pm_Rt pm_P (u + 1)) (7, lv, [], h, 0, 0) (GQ h0 C m0 g0) := by
  induction k with
  | zero =>
    intro h m g L lv hkC G hnode hsub hfr hu hg L0 L1 L2
    refine E_il rfl L2 ?_
    refine E_ifT rfl (by decide) ?_
    exact E_ret rfl ⟨rfl, hfr, m, g, L, G, hsub, fun c hc hz => by have := hg c hc hz; rw [if_pos (Nat.zero_le _)] at this; omega⟩
  | succ k ih =>
    intro h m g L lv hkC G hnode hsub hfr hu hg L0 L1 L2
    have L2 : pm_get lv 2 = some (.int (nJ k)) := L2
    have hm := G.2.2.2.1
    refine E_il rfl L2 ?_
    refine E_ifF rfl (decide_eq_false (nJ_lt0 (by omega))) ?_
    refine E_al rfl L0 ?_
    refine E_gf rfl G.1 rfl (show gi h 77 35 = nJ m from G.2.2.1) ?_
    refine E_il rfl L2 ?_
    refine E_call rfl (sp_isBit (by omega) (by omega)) (chkS rfl (by show 0 ≤ 8; decide)) (fun h1 r1 => ?_)
    rintro ⟨e1, f1⟩
    rw [e1, f1]
    show Ends _ _ (19, lv, [.int (nJ (bif isB m k then 1 else 0))], h, 0, 0) _
    by_cases hb2 : isB m k = false
    · refine E_ifT rfl (by rw [hb2]; rfl) ?_
      refine E_al rfl L0 ?_
      refine E_gr rfl G.1 (q := 97) rfl ?_
      refine E_il rfl L2 ?_
      refine E_ial rfl G.1 rfl (by omega) (by decide) (show gi h 97 k = (gi h 97 k) from rfl) ?_
      by_cases hb3 : g k = 0
      · refine E_ifT rfl (decide_eq_true ((GS_g0 G (by omega)).mpr hb3)) ?_
        have hbk := hb2
        obtain ⟨m2, hm2⟩ : ∃ m2, m2 = m + 2 ^ k := ⟨_, rfl⟩
        have hm2l : m2 < 512 := by rw [hm2]; exact isB_add_lt hm (by omega) hbk
        have hpl := pcn_lt hbk (n := C) (by omega)
        have hpa : pcn m2 C = pcn m C + 1 := by rw [hm2, pcn_add hm (by omega) hbk (by omega), if_pos (by omega)]
        have hup : ∀ c, c < C → isB m c = true → isB m2 c = true := fun c hc h4 => by rw [hm2, isB_add hm (by omega) (by omega) hbk, h4, Bool.or_true]
        refine E_al rfl L0 ?_
        refine E_dup rfl rfl ?_
        refine E_gf rfl G.1 rfl (show gi h 77 35 = nJ m from G.2.2.1) ?_
        refine E_ci 1 rfl ci1 ?_
        refine E_il rfl L2 ?_
        refine E_bin rfl rfl ?_
        refine E_bin rfl (show nJ m ||| nJ 1 <<< (nJ k &&& 31) = nJ m2 from (by rw [hm2]; exact or_new hm (by omega) hbk)) ?_
        refine E_pf rfl G.1 rfl ?_
        have hh4 : HH (pt h 77 35 (nJ m2)) := HH_ptn G.1 rfl (by omega) (by omega) (by omega)
        refine E_al rfl L0 ?_
        refine E_gr rfl hh4 (q := 92) rfl ?_
        refine E_il rfl L2 ?_
        refine E_ci 1 rfl ci1 ?_
        refine E_bin rfl (nJ_add _ _) ?_
        refine E_il rfl L1 ?_
        refine E_ias rfl hh4 rfl (by omega) (by decide) ?_
        have hh5 : HH (pt (pt h 77 35 (nJ m2)) 92 ((k + 1)) (nJ node)) := HH_ptn hh4 (bd_u rfl (by omega)) (by omega) (by omega) (by omega)
        refine E_al rfl L0 ?_
        refine E_gr rfl hh5 (q := 98) rfl ?_
        refine E_al rfl L0 ?_
        refine E_gf rfl hh5 rfl (show gi (pt (pt h 77 35 (nJ m2)) 92 ((k + 1)) (nJ node)) 77 36 = nJ ((pcn m C + 1)) from (by rw [gi_ne (by first | exact gxx rfl | omega), gi_ne (by first | exact gxx rfl | omega), gi_gn G.1 rfl (by decide), G.2.2.2.2.1])) ?_
        refine E_il rfl L2 ?_
        refine E_ci 1 rfl ci1 ?_
        refine E_bin rfl (nJ_add _ _) ?_
        refine E_ias rfl hh5 rfl (by omega) (by decide) ?_
        have hh6 : HH (pt (pt (pt h 77 35 (nJ m2)) 92 ((k + 1)) (nJ node)) 98 ((pcn m C + 1)) (nJ ((k + 1)))) := HH_ptn hh5 (bd_u rfl (by omega)) (by omega) (by omega) (by omega)
        refine E_al rfl L0 ?_
        refine E_dup rfl rfl ?_
        refine E_gf rfl hh6 rfl (show gi (pt (pt (pt h 77 35 (nJ m2)) 92 ((k + 1)) (nJ node)) 98 ((pcn m C + 1)) (nJ ((k + 1)))) 77 36 = nJ ((pcn m C + 1)) from (by rw [gi_ne (by first | exact gxx rfl | omega), gi_ne (by first | exact gxx rfl | omega), gi_ne (by first | exact gxx rfl | omega), gi_gn G.1 rfl (by decide), G.2.2.2.2.1])) ?_
        refine E_ci 1 rfl ci1 ?_
        refine E_bin rfl (nJ_add _ _) ?_
        refine E_pf rfl hh6 rfl ?_
        have hh7 : HH (pt (pt (pt (pt h 77 35 (nJ m2)) 92 ((k + 1)) (nJ node)) 98 ((pcn m C + 1)) (nJ ((k + 1)))) 77 36 (nJ (((pcn m C + 1) + 1)))) := HH_ptn hh6 rfl (by omega) (by omega) (by omega)
        refine E_al rfl L0 ?_
        refine E_il rfl L2 ?_
        refine E_ci 1 rfl ci1 ?_
        refine E_bin rfl (nJ_add _ _) ?_
        have G2 := GS_add G hC (by omega) hbk hm2 hnode hn8
        obtain ⟨u', hu'⟩ : ∃ u', u = u' + 1 := ⟨u - 1, by omega⟩
        refine E_call rfl (Sp_le (by first | exact Nat.add_le_add_left (Nat.le_of_ble_eq_true rfl) _ | exact Nat.le_of_ble_eq_true rfl | omega) (ihu u' hu' _ _ _ _ _ G2 (by omega) (.inr List.mem_cons_self) (by omega))) (chk77 hh7 rfl rfl (by show 0 ≤ 8; decide)) (fun h9 r9 => ?_)
        rintro ⟨e9, fr9, m9, g9, L9, G9, sub9, gr9⟩
        rw [e9]
        show Ends _ _ (97, lv, [], h9, 0, 0) _
        refine E_inc rfl L2 (pI_dec _) (fun lv8 L8_2 kp8 => ?_)
        have L8_0 := kp8 0 _ (nbz rfl) rfl L0
        have L8_1 := kp8 1 _ (nbz rfl) rfl L1
        refine E_goto rfl ?_
        refine ih lv8 (by omega) G9 ?_ ?_ ?_ ?_ (fun c hc hz => ?_) L8_0 L8_1 L8_2
        · cases hnode with
          | inl e => exact .inl e
          | inr e =>
            obtain ⟨c, c1, c2, c3⟩ := (G.2.2.2.2.2.2.1 _).mp e
            exact .inr ((G9.2.2.2.2.2.2.1 _).mpr ⟨c, c1, c2, sub9 c c1 (hup c c1 c3)⟩)
        · exact fun c c1 c3 => sub9 c c1 (hup c c1 (hsub c c1 c3))
        · exact fr_trans (fr_ptr (l := 35) (u := 36) rfl (by omega) (by omega) (fr_ptr (l := 0) (u := 8) rfl (by omega) (by omega) (fr_ptr (l := 0) (u := 8) rfl (by omega) (by omega) (fr_ptr (l := 35) (u := 36) rfl (by omega) (by omega) hfr)))) fr9
        · have := pcn_mono (n := C) sub9
          omega
        · have h1 := gr9 c hc hz
          have h3 : isB m c = false := by
            cases h4 : isB m c with
            | false => rfl
            | true => rw [sub9 c hc (hup c hc h4)] at hz; cases hz
          have h5 : c ≠ k := fun e => by subst e; rw [sub9 c hc (by rw [hm2, isB_add hm (by omega) (by omega) hbk, beq_self_eq_true]; rfl)] at hz; cases hz
          have h2 := hg c hc h3
          split at h2 <;> split <;> omega
      · refine E_ifF rfl (decide_eq_false (fun q => hb3 ((GS_g0 G (by omega)).mp q))) ?_
        have hg0 := hb3
        have hgk8 := (G.2.2.2.2.2.2.2 k (by omega)).2
        refine E_al rfl L0 ?_
        refine E_gr rfl G.1 (q := 97) rfl ?_
        refine E_il rfl L2 ?_
        refine E_dup2 rfl rfl rfl ?_
        refine E_ial rfl G.1 rfl (by omega) (by decide) (show gi h 97 k = nJ ((g k)) from (GS_gk G (by omega) hg0)) ?_
        refine E_ci 1 rfl ci1 ?_
        refine E_bin rfl (nJ_sub (by omega)) ?_
        refine E_ias rfl G.1 rfl (by omega) (by decide) ?_
        have hh9 : HH (pt h 97 k (nJ (((g k) - 1)))) := HH_ptn G.1 (bd_u rfl (by omega)) (by omega) (by omega) (by omega)
        refine E_goto rfl ?_
        refine E_inc rfl L2 (pI_dec _) (fun lv10 L10_2 kp10 => ?_)
        have L10_0 := kp10 0 _ (nbz rfl) rfl L0
        have L10_1 := kp10 1 _ (nbz rfl) rfl L1
        refine E_goto rfl ?_
        refine ih lv10 (by omega) (GS_dec G hC (by omega) hg0) hnode hsub (fr_ptr (l := 0) (u := 7) rfl (by omega) (by omega) hfr) hu (fun c hc hz => ?_) L10_0 L10_1 L10_2
        have h1 := hg c hc hz
        by_cases h2 : c = k
        · subst h2; rw [if_pos rfl]; split at h1 <;> split <;> omega
        · rw [if_neg h2]; split at h1 <;> split <;> omega
    · refine E_ifF rfl (by rw [Bool.not_eq_false] at hb2; rw [hb2]; rfl) ?_
      refine E_goto rfl ?_
      refine E_inc rfl L2 (pI_dec _) (fun lv11 L11_2 kp11 => ?_)
      have L11_0 := kp11 0 _ (nbz rfl) rfl L0
      have L11_1 := kp11 1 _ (nbz rfl) rfl L1
      refine E_goto rfl ?_
      refine ih lv11 (by omega) G hnode hsub hfr hu (fun c hc hz => ?_) L11_0 L11_1 L11_2
      have h1 := hg c hc hz
      have h2 : c ≠ k := fun e => by subst e; exact absurd hz hb2
      split at h1 <;> split <;> omega
end
