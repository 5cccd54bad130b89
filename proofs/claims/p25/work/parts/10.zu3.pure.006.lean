section
/-- THE LAW OUT OF A PURE RUN -/
theorem pm_law {p : Program} {e : Env} {s : State} {m : MethodId} {below : List Frame} {meth : Method} {c : Code} (l : Launch) {b L : Nat} {xs : Nat → Int32} (C0 : lw_At p s m meth c b L xs) (hP : ∀ q ∈ pm_P, pm_okM pm_P q.2) (hLb : ∀ q ∈ lb_all L xs, ∀ r ∈ q.2, pm_okL pm_P L xs r) {d : Nat} (hd : d ≤ 500) {h' : pm_H} (hgo : pm_Go (pm_tr (lb_all L xs)) (pm_Rt pm_P d) (0, [(0, .retAddr 0)], [], [], 600000, 7302250) (h', some (.int 1))) : W p l e room_1 s m #[Value.ref b] below meth c s.heap [] 0 0 (lw_Z below #[Value.ref b] s) (entryFrame m ([Value.ref b] : List Value).toArray 4) := by
  obtain ⟨bf, hb0, hN, hO⟩ := bf_ex C0
  obtain ⟨hx, hb, hr, hml, hown, hts, hX, hbl, hlocks, hgv⟩ := id C0
  have htsT : ∀ w ∈ pm_T, w.before #[Value.ref b] s = true := fun w hw => hts w (pm_T_good w hw).1
  obtain ⟨c0, i0, hK0⟩ := u_known (C := RX0) (T := TX0) (N := 2) (n := 2) htsT inX0 (htsT _ w_1_120)
  obtain ⟨c1, i1, hK1⟩ := u_known (C := RX1) (T := TX1) (N := 4) (n := 4) htsT inX1 (htsT _ w_1_196)
  obtain ⟨c2, i2, hK2⟩ := u_known (C := RX2) (T := TX2) (N := 10) (n := 10) htsT inX2 (htsT _ w_1_44)
  obtain ⟨c3, i3, hK3⟩ := u_known (C := RX3) (T := TX3) (N := 2) (n := 2) htsT inX3 (htsT _ w_2_12)
  obtain ⟨c4, i4, hK4⟩ := u_known (C := RX4) (T := TX4) (N := 4) (n := 4) htsT inX4 (htsT _ w_1_172)
  obtain ⟨c5, i5, hK5⟩ := u_known (C := RX5) (T := TX5) (N := 15) (n := 15) htsT inX5 (htsT _ w_1_50)
  obtain ⟨c6, i6, hK6⟩ := u_known (C := RX6) (T := TX6) (N := 2) (n := 2) htsT inX6 (htsT _ w_1_27)
  obtain ⟨c7, i7, hK7⟩ := u_known (C := RX7) (T := TX7) (N := 7) (n := 7) htsT inX7 (htsT _ w_1_219)
  obtain ⟨c8, i8, hK8⟩ := u_known (C := RX8) (T := TX8) (N := 12) (n := 12) htsT inX8 (htsT _ w_1_19)
  obtain ⟨c9, i9, hK9⟩ := u_known (C := RX9) (T := TX9) (N := 45) (n := 45) htsT inX9 (htsT _ w_5_161)
  obtain ⟨aI, kI, mI, fI1, fI2, fI3⟩ := Cond.arrayClass_spec (htsT _ w_1_117)
  obtain ⟨aB, kB, mB, fB1, fB2, fB3⟩ := Cond.arrayClass_spec (htsT _ w_1_42)
  obtain ⟨aZ, kZ, mZ, fZ1, fZ2, fZ3⟩ := Cond.arrayClass_spec (htsT _ w_1_118)
  obtain ⟨aJ, kJ, mJ, fJ1, fJ2, fJ3⟩ := Cond.arrayClass_spec (htsT _ w_1_194)
  have aoS : (Cond.arrayOver (.object RX5)).before #[Value.ref b] s = true := hts _ (List.mem_append_right _ (List.mem_append_left _ (List.mem_of_getElem? (i := 169) rfl)))
  obtain ⟨mS, aS, kS, fS0, -, fS2, fS3, fS1⟩ := Cond.arrayOver_spec aoS
  have aoL : (Cond.arrayOver (.object RX4)).before #[Value.ref b] s = true := hts _ (List.mem_append_right _ (List.mem_append_left _ (List.mem_of_getElem? (i := 171) rfl)))
  obtain ⟨mL, aL, kL, fL0, -, fL2, fL3, fL1⟩ := Cond.arrayOver_spec aoL
  obtain ⟨D, hDk⟩ : ∃ D : va_G, ∀ (k : Nat) (q : vw_C), vwCl[k]? = some q → u_Kn s q.1 q.2.1 q.2.2 (D.1 k) (D.2 k) := by
    refine ⟨(fun k => match k with | 0 => c0 | 1 => c1 | 2 => c2 | 3 => c3 | 4 => c4 | 5 => c5 | 6 => c6 | 7 => c7 | 8 => c8 | _ => c9, fun k => match k with | 0 => i0 | 1 => i1 | 2 => i2 | 3 => i3 | 4 => i4 | 5 => i5 | 6 => i6 | 7 => i7 | 8 => i8 | _ => i9), ?_⟩
    intro k q hq
    match k, hq with
    | 0, hq => cases hq; exact hK0
    | 1, hq => cases hq; exact hK1
    | 2, hq => cases hq; exact hK2
    | 3, hq => cases hq; exact hK3
    | 4, hq => cases hq; exact hK4
    | 5, hq => cases hq; exact hK5
    | 6, hq => cases hq; exact hK6
    | 7, hq => cases hq; exact hK7
    | 8, hq => cases hq; exact hK8
    | 9, hq => cases hq; exact hK9
    | k + 10, hq => cases hq
  obtain ⟨aC, hAc⟩ : ∃ aC : Nat → ClassId, ∀ (k : Nat) (q : ClassId × FieldType), (pm_tys aC)[k]? = some q → ArrOfT s q.1 q.2 ∧ va_RA s q.1 q.2 := by
    refine ⟨fun k => match k with | 0 => aI | 1 => aB | 2 => aZ | 3 => aJ | 4 => aS | _ => aL, ?_⟩
    intro k q hq
    match k, hq with
    | 0, hq => cases hq; exact ⟨fun n z => ⟨(fun k h => by cases h), kI, fI2, mI, fI3⟩, fI1⟩
    | 1, hq => cases hq; exact ⟨fun n z => ⟨(fun k h => by cases h), kB, fB2, mB, fB3⟩, fB1⟩
    | 2, hq => cases hq; exact ⟨fun n z => ⟨(fun k h => by cases h), kZ, fZ2, mZ, fZ3⟩, fZ1⟩
    | 3, hq => cases hq; exact ⟨fun n z => ⟨(fun k h => by cases h), kJ, fJ2, mJ, fJ3⟩, fJ1⟩
    | 4, hq => cases hq; exact ⟨fun n z => ⟨(fun k h => by cases h), kS, fS2, mS, fS3⟩, kS, mS, fS2, fS3, fS0, fS1⟩
    | 5, hq => cases hq; exact ⟨fun n z => ⟨(fun k h => by cases h), kL, fL2, mL, fL3⟩, kL, mL, fL2, fL3, fL0, fL1⟩
    | k + 6, hq => cases hq
  have hK : pm_K D aC s.heap.size bf s := ⟨⟨hDk, hAc⟩, va_AO.of aoS, va_AO.of aoL, hN, hO⟩
  have Cx : pm_C p s m #[Value.ref b] meth c cL_law RL 4 false D aC s.heap.size bf := ⟨hx, hb, hml, hown, htsT, hK, Nat.le_refl _, fun h => by cases h⟩
  have hl := lv_entry ([.ref b]) (n := 4) (Nat.le_of_ble_eq_true rfl)
  rw [lg_entry_eq]
  generalize (lg_sl ([.ref b]) ++ List.replicate (4 - (lg_sl ([.ref b])).length) Slot.unset).toArray = ls at hl ⊢
  have hl : lv_has ls 4 ([(0, Value.retAddr 0)].map (pm_q s.heap.size bf)) := by
    show lv_has ls 4 [(0, va_rf (bf 0))]
    rw [hb0]
    exact hl
  obtain ⟨n, hgo⟩ := hgo
  refine pm_run (nL := 4) (D := D) (aC := aC) (B := s.heap.size) (b := bf) (look := pm_tr (lb_all L xs)) (call := pm_Rt pm_P d) (o := (h', some (.int 1))) ?_ ?_ ?_ n _ hgo s.heap [] ls 0 0 hl rfl (fun k q h => by simp [pm_w] at h) va_S.rf (Nat.le_of_ble_eq_true rfl) (Nat.le_of_ble_eq_true rfl)
  · intro pc f ha lv st w σ' hf k
    obtain ⟨q, hq, hm⟩ := pm_tr_in ha
    have ho : pm_okX cL_law RL 4 L xs pc f := hLb q hq _ hm
    exact ho p l e _ s m _ below meth c D aC s.heap.size bf _ Cx b hb0 hX hbl (Nat.le_of_ble_eq_true rfl) (Nat.le_of_ble_eq_true rfl) lv st w σ' hf k
  · intro pc y k ci mc ms ha lv st w h2 r2 hcall hch kk
    obtain ⟨q, hq, hm⟩ := pm_tr_in ha
    obtain ⟨I, e1, e2, e3, e4⟩ : ∃ I : pm_M, pm_at pm_P y = some I ∧ I.2.2.2.2.2.1 = mc ∧ I.2.2.2.2.2.2.1 = ms ∧ pm_okC cL_law RL 4 false pc I.1 I.2.1 I.2.2.1 I.2.2.2.1 k ci mc ms := hLb q hq _ hm
    subst e2; subst e3
    exact e4 p l e _ s m _ below meth c D aC s.heap.size bf _ Cx (d + 1) (100 * (d + 1)) (by show d + 1 + 1 ≤ 2048; omega) (by show 100 * (d + 1) + 100 ≤ 84000; omega) lv st w h2 r2 hch (pm_sound hP l D aC s.heap.size bf d y w.1 _ h2 r2 I e1 hcall) kk
  · intro pc kd ha lv st w hret
    obtain ⟨q, hq, hm⟩ := pm_tr_in ha
    obtain ⟨hkd, hdec⟩ : kd = 2 ∧ decode cL_law pc = .ok (.ireturn, 1) := hLb q hq _ hm
    subst hkd
    obtain ⟨v, rfl, -, ho⟩ := hret
    cases ho
    intro H locs ls cells slots h1 h2 h3 h4 h5 h6
    refine va_forget (fun q hq => h4.2.2 q hq) ?_
    refine W.widen (k := 600000) (n := 7302250) ?_ ?_ ?_
    · have z : cells + w.2.1 ≤ 600000 := h5
      omega
    · have z : slots + w.2.2 ≤ 7302250 := h6
      omega
    · exact lw_ret hx hb hr hlocks hdec
end

