section
theorem ls_lt {L i : Nat} (hL : L ≤ 3072) (hi : i ≤ 4000) : nJ L - nJ 6 < nJ i ↔ L < i + 6 := by
  rw [Int32.lt_iff_toInt_lt, Int32.toInt_sub, nJ_toInt (by omega), nJ_toInt (by omega), nJ_toInt (by omega), Int.bmod_eq_of_le (by omega) (by omega)]
  omega
set_option maxRecDepth 20000 in
theorem law_loop {L : Nat} {xs : Nat → Int32} (hL : L ≤ 3072) (n : Nat) : ∀ {h : pm_H} {i : Nat} (lv : List (Nat × Value)), IVQ h → i ≤ 4000 → L < i + 6 * (n + 1) → pm_get lv 0 = some (.retAddr 0) → pm_get lv 1 = some (.ref 0) → pm_get lv 2 = some (.ref 77) → pm_get lv 3 = some (.int (nJ i)) → Ends (pm_tr (lb_all L xs)) (pm_Rt pm_P 100) (18, lv, [], h, 599897, 7298671) RQ1 := by
  have fin : ∀ {h : pm_H} {i : Nat} (lv : List (Nat × Value)), i ≤ 4000 → L < i + 6 → pm_get lv 0 = some (.retAddr 0) → pm_get lv 3 = some (.int (nJ i)) → Ends (pm_tr (lb_all L xs)) (pm_Rt pm_P 100) (18, lv, [], h, 599897, 7298671) RQ1 := by
    intro h i lv hi hlt L0 L3
    refine E_il rfl L3 ?_
    refine E_alr rfl L0 ?_
    refine E_slen rfl hL ?_
    refine E_ci 6 rfl (by decide) ?_
    refine E_bin rfl rfl ?_
    refine E_icT rfl (decide_eq_true ((ls_lt hL hi).mpr hlt)) ?_
    refine E_ci 1 rfl (by decide) ?_
    exact E_rtz rfl (.inr rfl) rfl
  induction n with
  | zero => intro h i lv I hi hn L0 L1 L2 L3; exact fin lv hi (by omega) L0 L3
  | succ n ih =>
    intro h i lv I hi hn L0 L1 L2 L3
    by_cases hlt : L < i + 6
    · exact fin lv hi hlt L0 L3
    · refine E_il rfl L3 ?_
      refine E_alr rfl L0 ?_
      refine E_slen rfl hL ?_
      refine E_ci 6 rfl (by decide) ?_
      refine E_bin rfl rfl ?_
      refine E_icF rfl (decide_eq_false (fun q => hlt ((ls_lt hL hi).mp q))) ?_
      refine E_alr rfl L0 ?_
      refine E_il rfl L3 ?_
      refine E_sld rfl (by omega) hL ?_
      refine E_c rfl ?_
      obtain ⟨j, hj, e⟩ := pk_andE (xs i) (m := 127) 7 rfl
      refine E_bin rfl e ?_
      refine sw_all hL (by omega) lv I L0 L1 L2 L3 (fun h' I' => ?_) j hj
      refine E_inc rfl L3 (nJ_inc6 _) (fun lv1 K3 kp => ?_)
      refine E_goto rfl ?_
      have K0 : pm_get lv1 0 = some (.retAddr 0) := kp 0 _ (by decide) rfl L0
      exact ih lv1 I' (by omega) (by omega) K0 (kp 1 _ (by decide) rfl L1) (kp 2 _ (by decide) rfl L2) K3
set_option maxRecDepth 20000 in
set_option maxHeartbeats 4000000 in
theorem law_pure (L : Nat) (hL : L ≤ 3072) (xs : Nat → Int32) : ∃ h2, pm_Go (pm_tr (lb_all L xs)) (pm_Rt pm_P 100) (0, [(0, .retAddr 0)], [], [], 600000, 7302250) (h2, some (.int 1)) := by
  obtain ⟨h2, r, hg, hr⟩ := law_loop (xs := xs) hL 600 (h := hp0) (i := 0) [(3, .int 0), (2, .ref 77), (1, .ref 0), (0, .retAddr 0)] IVQ_hp0 (by omega) (by omega) rfl rfl rfl rfl
  have hr : r = some (.int 1) := hr
  subst hr
  refine ⟨h2, ?_⟩
  refine Go_st rfl rfl ?_
  refine Go_st rfl rfl ?_
  refine Go_call rfl (rc_16 97) (chkV rfl rfl rfl rfl rfl rfl rfl) ?_
  refine Go_st rfl rfl ?_
  refine Go_st rfl rfl ?_
  refine Go_st rfl rfl ?_
  refine Go_call rfl (rc_17 99) (chkV rfl rfl rfl rfl rfl rfl rfl) ?_
  refine Go_st rfl rfl ?_
  refine Go_st rfl rfl ?_
  refine Go_st rfl rfl ?_
  exact hg
end
section
/-! THE CLAIM OUT OF ONE WALK OF THE LAW'S BODY. Your part is whole_start (and what it stands on); all else here is the same for every law, but numbers. -/
noncomputable def R_law : String := "ParkingTreesLaw"
noncomputable def lw_P (b : Addr) (xs : List Int32) (args : Array Value) (s : State) : Prop := args = #[.ref b] ∧ s.IntsAt b xs ∧ xs.length ≤ 3072 ∧ (Jvm.Cond.and given_1 narrow_1).before args s = true
noncomputable def lw_Q (_ : Array Value) (s : State) (o : Outcome) (t : State) : Prop := o = .returned (some (.int 1)) ∧ Framed s o t [] 600000 7302250
noncomputable def lw_Z (below : List Frame) (a : Array Value) (s : State) : State → Prop := fun t => ∃ o, t.status = .running ∧ Ended t below o ∧ lw_Q a s o t
/-- the law's own end, with 1 on the stack, nothing written that was there before, its room as the claim has it -/
theorem lw_ret {p : Program} {l : Launch} {e : Env} {s : State} {m : MethodId} {below : List Frame} {meth : Method} {c : Code} {b : Nat} (hx : p.tables.exec = Jvm.exec) (hb : c.code = code) (hr : meth.sig.returnType = ret) (hlocks : meth.locks = false) {pc : Nat} {H : Heap} {ls : Array Slot} (hdg : decode code pc = .ok (.ireturn, 1)) : W p l e room_1 s m #[Value.ref b] below meth c H [] 600000 7302250 (lw_Z below #[Value.ref b] s) (F0 m pc ls [.int 1]) := by
  intro T hT X
  obtain ⟨fs, hret, hrun, hended, hW, hframe⟩ := X.leave (v := some (.int 1)) (hlocks := hlocks) (fun h => by rw [hr] at h; cases h)
  have hmeth' : T.vm.method? m = some meth := X.method'
  refine ⟨T.setFrames fs, ?_, .returned (some (.int 1)), hrun, hended, rfl, ⟨_, rfl⟩, hW, hframe⟩
  jvm_step X.here [X.here.top, hx, hb, hdg, hmeth', hr, ret, narrow_b1]
  (try refine ⟨rfl, ?_⟩); (try refine ⟨rfl, ?_⟩)
  first | (intro acts; rw [hret _ acts rfl rfl rfl]) | rw [hret _ _ rfl rfl rfl]
  exact Steps.refl _
/-- what holds at the law's entry: the machine, the code, the tables' words (any of lw_tbl by 'hts w (by decide +kernel)'), the script of L ints xs at the cell b, what the Statement gives of the start (any of its parts by flat_of_before) -/
noncomputable def lw_At (p : Program) (s : State) (m : MethodId) (meth : Method) (c : Code) (b L : Nat) (xs : Nat → Int32) : Prop :=
  p.tables.exec = Jvm.exec ∧ c.code = code ∧ meth.sig.returnType = ret ∧ c.maxLocals = 4 ∧ s.vm.findClass R_law = some m.cls ∧ (∀ w ∈ lw_tbl, w.before #[Value.ref b] s = true) ∧ va_X b L xs s s.heap ∧ b < s.heap.size ∧ meth.locks = false ∧ (Jvm.Cond.and given_1 narrow_1).before #[Value.ref b] s = true
theorem in_t1 {w : Cond} (i : Nat) (h : tables_1_1[i]? = some w) : w ∈ lw_tbl := List.mem_append_right _ (List.mem_append_left _ (List.mem_of_getElem? h))
theorem in_t2 {w : Cond} (i : Nat) (h : tables_1_2[i]? = some w) : w ∈ lw_tbl := List.mem_append_right _ (List.mem_append_right _ (List.mem_append_left _ (List.mem_of_getElem? h)))
theorem in_t3 {w : Cond} (i : Nat) (h : tables_1_3[i]? = some w) : w ∈ lw_tbl := List.mem_append_right _ (List.mem_append_right _ (List.mem_append_right _ (List.mem_append_left _ (List.mem_of_getElem? h))))
theorem in_t4 {w : Cond} (i : Nat) (h : tables_1_4[i]? = some w) : w ∈ lw_tbl := List.mem_append_right _ (List.mem_append_right _ (List.mem_append_right _ (List.mem_append_right _ (List.mem_append_left _ (List.mem_of_getElem? h)))))
theorem in_t5 {w : Cond} (i : Nat) (h : tables_1_5[i]? = some w) : w ∈ lw_tbl := List.mem_append_right _ (List.mem_append_right _ (List.mem_append_right _ (List.mem_append_right _ (List.mem_append_right _ (List.mem_append_left _ (List.mem_of_getElem? h))))))
noncomputable def gv1 : Cond := Jvm.Cond.and given_1 narrow_1
theorem gx_fac : ∀ j : Fin 9, (flatC gv1)[70 + j.val]? = some (Cond.eq (.elem (.static RX8 "FACTORIALS" "[I") (.int (Int32.ofNat j.val))) (.int (pm_fac j.val))) := by decide +kernel
theorem gx_rbs : ∀ j : Fin 55, (flatC gv1)[12 + j.val]? = some (Cond.eq (.elem (.static RX8 "ROWS_BY_STEPS" "[I") (.int (Int32.ofNat j.val))) (.int (pm_rbs j.val))) := by decide +kernel
noncomputable def gxs (i : Nat) : Nat := [99, 109, 120, 129, 140, 151, 165, 181].getD i 0
theorem gx_str : ∀ i : Fin 8, (flatC gv1)[gxs i.val]? = some (Cond.exactly (.string RX2 (pm_six i.val)) "java/lang/String") ∧ (flatC gv1)[gxs i.val + 1]? = some (Cond.eq (.field (.string RX2 (pm_six i.val)) "java/lang/String" "coder" "B") (.int 0)) ∧ (flatC gv1)[gxs i.val + 2]? = some (Cond.arrayOf (.field (.string RX2 (pm_six i.val)) "java/lang/String" "value" "[B") .byte) ∧ (flatC gv1)[gxs i.val + 3]? = some (Cond.eq (.length (.field (.string RX2 (pm_six i.val)) "java/lang/String" "value" "[B")) (.int (Int32.ofNat (pm_len.getD i.val 0)))) := by decide +kernel
theorem gx_byt : ∀ i : Fin 8, ∀ j : Fin 6, j.val < pm_len.getD i.val 0 → (flatC gv1)[gxs i.val + 4 + j.val]? = some (Cond.eq (.elem (.field (.string RX2 (pm_six i.val)) "java/lang/String" "value" "[B") (.int (Int32.ofNat j.val))) (.int ((pm_byt.getD i.val []).getD j.val 0))) := by decide +kernel
noncomputable def gxn (i j : Nat) : Nat := [119, 127, 137, 147, 160, 175, 189].getD (j - 1) 0 + i
theorem gx_ne : ∀ i j : Fin 8, i.val < j.val → (flatC gv1)[gxn i.val j.val]? = some (Cond.not (Cond.eq (.string RX2 (pm_six i.val)) (.string RX2 (pm_six j.val)))) := by decide +kernel
theorem gv_fac : ∀ j : Fin 9, Cond.eq (.elem (.static RX8 "FACTORIALS" "[I") (.int (Int32.ofNat j.val))) (.int (pm_fac j.val)) ∈ flatC gv1 := fun j => List.mem_of_getElem? (gx_fac j)
theorem gv_rbs : ∀ j : Fin 55, Cond.eq (.elem (.static RX8 "ROWS_BY_STEPS" "[I") (.int (Int32.ofNat j.val))) (.int (pm_rbs j.val)) ∈ flatC gv1 := fun j => List.mem_of_getElem? (gx_rbs j)
theorem gv_str : ∀ i : Fin 8, Cond.exactly (.string RX2 (pm_six i.val)) "java/lang/String" ∈ flatC gv1 ∧ Cond.eq (.field (.string RX2 (pm_six i.val)) "java/lang/String" "coder" "B") (.int 0) ∈ flatC gv1 ∧ Cond.arrayOf (.field (.string RX2 (pm_six i.val)) "java/lang/String" "value" "[B") .byte ∈ flatC gv1 ∧ Cond.eq (.length (.field (.string RX2 (pm_six i.val)) "java/lang/String" "value" "[B")) (.int (Int32.ofNat (pm_len.getD i.val 0))) ∈ flatC gv1 := fun i => ⟨List.mem_of_getElem? (gx_str i).1, List.mem_of_getElem? (gx_str i).2.1, List.mem_of_getElem? (gx_str i).2.2.1, List.mem_of_getElem? (gx_str i).2.2.2⟩
theorem gv_byt : ∀ i : Fin 8, ∀ j : Fin 6, j.val < pm_len.getD i.val 0 → Cond.eq (.elem (.field (.string RX2 (pm_six i.val)) "java/lang/String" "value" "[B") (.int (Int32.ofNat j.val))) (.int ((pm_byt.getD i.val []).getD j.val 0)) ∈ flatC gv1 := fun i j h => List.mem_of_getElem? (gx_byt i j h)
theorem gv_ne : ∀ i j : Fin 8, i ≠ j → (Cond.not (Cond.eq (.string RX2 (pm_six i.val)) (.string RX2 (pm_six j.val))) ∈ flatC gv1 ∨ Cond.not (Cond.eq (.string RX2 (pm_six j.val)) (.string RX2 (pm_six i.val))) ∈ flatC gv1) := fun i j hij => by
  rcases Nat.lt_or_gt_of_ne (fun e => hij (Fin.ext e)) with h | h
  · exact .inl (List.mem_of_getElem? (gx_ne i j h))
  · exact .inr (List.mem_of_getElem? (gx_ne j i h))
theorem gv_six : ∀ i : Fin 8, pm_len.getD i.val 0 < 2 ^ 31 ∧ pm_len.getD i.val 0 ≤ 6 := by decide +kernel
theorem bf_ex {p : Program} {s : State} {m : MethodId} {meth : Method} {c : Code} {b L : Nat} {xs : Nat → Int32} (C0 : lw_At p s m meth c b L xs) : ∃ bf : Nat → Option Nat, bf 0 = some b ∧ pm_N bf s ∧ pm_O s.heap.size bf s s.heap := by
  obtain ⟨hx, hb, hr, hml, hown, hts, hX, hbl, hlocks, hgv⟩ := C0
  have hs := flat_of_before gv1 hgv
  have hA : ∀ a : Nat, a < s.heap.size → ¬ s.heap.size ≤ a := fun a ha => Nat.not_le.mpr ha
  have iniP : (Cond.initialized RX8).before #[Value.ref b] s = true := hts _ (in_t1 1 rfl)
  obtain ⟨t1, e1, T1⟩ := va_Tof (tm := .static RX8 "FACTORIALS" "[I") (ty := .int) (N := 9) (f := fun j => .int (pm_fac j)) (A := fun q => s.heap.size ≤ q) (by decide) (hs _ (by decide +kernel)) (va_eqt (hs _ (by decide +kernel))) (fun j hj => va_eqt (hs _ (gv_fac ⟨j, hj⟩))) hA
  obtain ⟨t2, e2, T2⟩ := va_Tof (tm := .static RX8 "ROWS_BY_STEPS" "[I") (ty := .int) (N := 55) (f := fun j => .int (pm_rbs j)) (A := fun q => s.heap.size ≤ q) (by decide) (hs _ (by decide +kernel)) (va_eqt (hs _ (by decide +kernel))) (fun j hj => va_eqt (hs _ (gv_rbs ⟨j, hj⟩))) hA
  have Z1 : va_Z RX8 "FACTORIALS" "[I" (.ref t1) (fun q => s.heap.size ≤ q) s s.heap := va_Zref (hts _ (in_t4 89 rfl)) iniP e1 hA
  have Z2 : va_Z RX8 "ROWS_BY_STEPS" "[I" (.ref t2) (fun q => s.heap.size ≤ q) s s.heap := va_Zref (hts _ (in_t4 79 rfl)) iniP e2 hA
  have Z3 : va_Z RJ0 "COMPACT_STRINGS" "Z" (.int 1) (fun q => s.heap.size ≤ q) s s.heap := va_Zof (hts _ (in_t2 131 rfl)) (hts _ (in_t1 11 rfl)) (va_eqi (hs _ (by decide +kernel))) hA
  have Z4 : va_Zq RJ3 "SIOOBE_FORMATTER" "Ljava/util/function/BiFunction;" (fun q => s.heap.size ≤ q) s s.heap := va_Zqof (hts _ (in_t2 147 rfl)) (hts _ (in_t1 13 rfl)) (hs _ (by decide +kernel)) hA
  obtain ⟨o3, Z4⟩ : ∃ o3 : Option Nat, va_Z RJ3 "SIOOBE_FORMATTER" "Ljava/util/function/BiFunction;" (va_rf o3) (fun q => s.heap.size ≤ q) s s.heap := by
    rcases Z4 with h | ⟨t, h⟩
    · exact ⟨none, h⟩
    · exact ⟨some t, h⟩
  obtain ⟨adK, adV, hS, hev⟩ := vk_Sof (args := #[Value.ref b]) (s := s) (N := 8) (tm := fun i => .string RX2 (pm_six i)) (len := pm_len) (byt := pm_byt) (A := fun q => s.heap.size ≤ q) (fun i hi => (gv_six ⟨i, hi⟩).1) (fun i hi => hs _ (gv_str ⟨i, hi⟩).1) (fun i hi => hs _ (gv_str ⟨i, hi⟩).2.1) (fun i hi => hs _ (gv_str ⟨i, hi⟩).2.2.1) (fun i hi => hs _ (gv_str ⟨i, hi⟩).2.2.2) (fun i hi j hj => hs _ (gv_byt ⟨i, hi⟩ ⟨j, Nat.lt_of_lt_of_le hj (gv_six ⟨i, hi⟩).2⟩ hj)) (fun i j hi hj hij => (gv_ne ⟨i, hi⟩ ⟨j, hj⟩ (fun e => hij (congrArg Fin.val e))).imp (hs _) (hs _)) hA
  refine ⟨fun k => match k with | 0 => some b | 1 => some t1 | 2 => some t2 | 3 => o3 | k + 4 => if k < 8 then some (adK k) else some (adV (k - 8)), rfl, ⟨⟨va_Nw.of rfl (hts _ (in_t2 185 rfl)), va_Nw.of rfl (hts _ (in_t3 35 rfl)), va_Nw.of rfl (hts _ (in_t5 25 rfl))⟩, fun i hi => ⟨adK i, ?_, ?_⟩⟩, ⟨t1, rfl, Z1, T1⟩, ⟨t2, rfl, Z2, T2⟩, Z3, Z4, adK, adV, hS, fun i hi => ⟨?_, ?_⟩⟩
  · rw [Nat.add_comm 4 i]
    exact if_pos hi
  · have sr : (Cond.stringRef RX2 (pm_six i) (pm_stx i)).before #[Value.ref b] s = true := by
      match i, hi with
      | 0, _ => exact hts _ (in_t2 113 rfl)
      | 1, _ => exact hts _ (in_t2 174 rfl)
      | 2, _ => exact hts _ (in_t2 179 rfl)
      | 3, _ => exact hts _ (in_t2 180 rfl)
      | 4, _ => exact hts _ (in_t2 188 rfl)
      | 5, _ => exact hts _ (in_t2 193 rfl)
      | 6, _ => exact hts _ (in_t2 194 rfl)
      | 7, _ => exact hts _ (in_t2 203 rfl)
      | i + 8, hi => exact absurd hi (by omega)
    exact vk_R.of sr (hev i hi)
  · rw [Nat.add_comm 4 i]
    exact if_pos hi
  · rw [show 12 + i = (i + 8) + 4 by omega]
    exact (if_neg (by omega)).trans (by rw [show i + 8 - 8 = i by omega])
end
