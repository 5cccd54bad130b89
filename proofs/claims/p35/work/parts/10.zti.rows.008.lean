section
theorem FA_hp0 (T a G b st j : Nat) (hT : ∀ k, ld hp0 T k = some (.int 0)) : FA T a G b st j hp0 := by
  intro i _ _ t g h1 _ h3
  rw [hT] at h1
  cases h1
  exact absurd rfl h3
theorem RV_hp0 : RV hp0 := by
  have e84 : ∀ k, gn hp0 84 k = 0 := fun k => rfl
  have e87 : ∀ k, gn hp0 87 k = 0 := fun k => rfl
  refine ⟨fun r _ => ⟨by rw [e84, e84]; omega, fun c hc => ?_, fun k hk => ?_⟩, fun r _ i _ q => absurd (e87 _) q⟩
  · rw [e84] at hc; omega
  · rw [e84] at hk; omega
theorem IVh_hp0 : IVh hp0 := by
  refine ⟨HH_hp0, fun i hi => ?_, RV_hp0⟩
  have hi : i ∈ [20, 41, 62, 83, 104] := hi
  simp only [List.mem_cons, List.not_mem_nil, or_false] at hi
  rcases hi with rfl | rfl | rfl | rfl | rfl
  · exact (FA_hp0 12 0 11 0 1 20 (fun _ => rfl) : FA 12 0 11 0 1 20 hp0)
  · exact (FA_hp0 23 0 22 0 1 20 (fun _ => rfl) : FA 23 0 22 0 1 20 hp0)
  · exact (FA_hp0 33 0 32 0 1 20 (fun _ => rfl) : FA 33 0 32 0 1 20 hp0)
  · exact (FA_hp0 42 0 41 0 1 20 (fun _ => rfl) : FA 42 0 41 0 1 20 hp0)
  · exact (FA_hp0 51 0 50 0 1 20 (fun _ => rfl) : FA 51 0 50 0 1 20 hp0)
end
section
/-! the tapes -/
/-- a byte of a number, as it is stored -/
noncomputable def byv (v : Int32) (s : Nat) : Int32 := vp_nar .byte (v >>> (nJ s &&& 31)).toInt8.toInt32
theorem nar_b (v : Int32) : -128 ≤ (vp_nar .byte v).toInt ∧ (vp_nar .byte v).toInt ≤ 127 := by
  have e : vp_nar .byte v = v.toInt8.toInt32 := rfl
  rw [e, Int8.toInt_toInt32]
  have h1 := Int8.le_toInt v.toInt8
  have h2 := Int8.toInt_lt v.toInt8
  omega
/-- one byte more -/
noncomputable def rdb (A a k : Nat) (h : pm_H) (b : Int32) : pm_H := pt (pt h A (gn h a k) b) a k (nJ (gn h a k + 1))
/-- a tape: bytes in cell A, their number at (a, k) -/
noncomputable def isT (A a k : Nat) : Prop := A ≠ a ∧ bd a k = some (0, 500) ∧ hsF A = some (.inl (1, 500, [((-128), 127)]))
theorem isT8 : isT 2 1 1 := ⟨by decide, rfl, rfl⟩
theorem isT9 : isT 82 77 6 := ⟨by decide, rfl, rfl⟩
theorem rdb_ok {A a k : Nat} {h : pm_H} {b : Int32} (t : isT A a k) (hh : HH h) (hn : gn h a k < 500) (hb : -128 ≤ b.toInt ∧ b.toInt ≤ 127) : HH (pt h A (gn h a k) b) ∧ gn (pt h A (gn h a k) b) a k = gn h a k ∧ HH (rdb A a k h b) ∧ gn (rdb A a k h b) a k = gn h a k + 1 ∧ (∀ j, j < gn h a k → gi (rdb A a k h b) A j = gi h A j) ∧ gi (rdb A a k h b) A (gn h a k) = b ∧ fr_g [(a, k, k), (A, 0, 499)] h (rdb A a k h b) := by
  obtain ⟨t1, t2, t3⟩ := t
  have h1 : HH (pt h A (gn h a k) b) := HH_pt hh (bd_u t3 hn) hb.1 hb.2
  have t1' : A = a → False := t1
  have h2 : gn (pt h A (gn h a k) b) a k = gn h a k := gn_ne (fun e => absurd e.symm t1)
  refine ⟨h1, h2, HH_ptn h1 t2 (by omega) (by omega) (by omega), gn_ptn h1 t2 (by omega) (by omega) (by omega), fun j hj => ?_, ?_, ?_⟩
  · unfold rdb
    rw [gi_ne (fun e => absurd e t1), gi_ne (fun _ => by omega)]
  · unfold rdb
    rw [gi_ne (fun e => absurd e t1)]
    exact gi_pt hh (bd_u t3 hn) hb.1 hb.2
  · unfold rdb
    refine fr_ptr (l := k) (u := k) ?_ (Nat.le_refl _) (Nat.le_refl _) (fr_ptr (l := 0) (u := 499) ?_ (Nat.zero_le _) (by omega) (fr_rf _ _))
    · unfold rg_sub; simp
    · unfold rg_sub; simp
/-- four bytes more -/
noncomputable def rd4 (A a k : Nat) (h : pm_H) (v : Int32) : pm_H := rdb A a k (rdb A a k (rdb A a k (rdb A a k h (byv v 24)) (byv v 16)) (byv v 8)) (byv v 0)
noncomputable def b4 (v : Int32) (i : Nat) : Int32 := byv v (24 - 8 * i)
theorem rd4_ok {A a k : Nat} {h : pm_H} {v : Int32} (t : isT A a k) (hh : HH h) (hn : gn h a k + 4 ≤ 500) : HH (rd4 A a k h v) ∧ gn (rd4 A a k h v) a k = gn h a k + 4 ∧ (∀ j, j < gn h a k → gi (rd4 A a k h v) A j = gi h A j) ∧ (∀ i, i < 4 → gi (rd4 A a k h v) A (gn h a k + i) = b4 v i) ∧ fr_g [(a, k, k), (A, 0, 499)] h (rd4 A a k h v) := by
  obtain ⟨-, -, p1, p2, p3, p4, p5⟩ := rdb_ok (b := byv v 24) t hh (by omega) (nar_b _)
  obtain ⟨-, -, q1, q2, q3, q4, q5⟩ := rdb_ok (b := byv v 16) t p1 (by omega) (nar_b _)
  obtain ⟨-, -, r1, r2, r3, r4, r5⟩ := rdb_ok (b := byv v 8) t q1 (by omega) (nar_b _)
  obtain ⟨-, -, s1, s2, s3, s4, s5⟩ := rdb_ok (b := byv v 0) t r1 (by omega) (nar_b _)
  refine ⟨s1, by show gn (rdb _ _ _ _ _) a k = _; omega, fun j hj => ?_, fun i hi => ?_, fr_trans p5 (fr_trans q5 (fr_trans r5 s5))⟩
  · exact (s3 j (by omega)).trans ((r3 j (by omega)).trans ((q3 j (by omega)).trans (p3 j hj)))
  · match i, hi with
    | 0, _ => exact (s3 _ (by omega)).trans ((r3 _ (by omega)).trans ((q3 _ (by omega)).trans p4))
    | 1, _ => rw [← p2]; exact (s3 _ (by omega)).trans ((r3 _ (by omega)).trans q4)
    | 2, _ => rw [show gn h a k + 2 = gn (rdb A a k (rdb A a k h (byv v 24)) (byv v 16)) a k by omega]; exact (s3 _ (by omega)).trans r4
    | 3, _ => rw [show gn h a k + 3 = gn (rdb A a k (rdb A a k (rdb A a k h (byv v 24)) (byv v 16)) (byv v 8)) a k by omega]; exact s4
/-- twenty bytes more -/
noncomputable def rd20 (A a k : Nat) (h : pm_H) (v1 v2 v3 v4 v5 : Int32) : pm_H := rd4 A a k (rd4 A a k (rd4 A a k (rd4 A a k (rd4 A a k h v1) v2) v3) v4) v5
noncomputable def b20 (v1 v2 v3 v4 v5 : Int32) (i : Nat) : Int32 := if i < 4 then b4 v1 i else if i < 8 then b4 v2 (i - 4) else if i < 12 then b4 v3 (i - 8) else if i < 16 then b4 v4 (i - 12) else b4 v5 (i - 16)
theorem rd20_ok {A a k : Nat} {h : pm_H} {v1 v2 v3 v4 v5 : Int32} (t : isT A a k) (hh : HH h) (hn : gn h a k + 20 ≤ 500) : HH (rd20 A a k h v1 v2 v3 v4 v5) ∧ gn (rd20 A a k h v1 v2 v3 v4 v5) a k = gn h a k + 20 ∧ (∀ j, j < gn h a k → gi (rd20 A a k h v1 v2 v3 v4 v5) A j = gi h A j) ∧ (∀ i, i < 20 → gi (rd20 A a k h v1 v2 v3 v4 v5) A (gn h a k + i) = b20 v1 v2 v3 v4 v5 i) ∧ fr_g [(a, k, k), (A, 0, 499)] h (rd20 A a k h v1 v2 v3 v4 v5) := by
  obtain ⟨a1, a2, a3, a4, a5⟩ := rd4_ok (v := v1) t hh (by omega)
  obtain ⟨c1, c2, c3, c4, c5⟩ := rd4_ok (v := v2) t a1 (by omega)
  obtain ⟨d1, d2, d3, d4, d5⟩ := rd4_ok (v := v3) t c1 (by omega)
  obtain ⟨e1, e2, e3, e4, e5⟩ := rd4_ok (v := v4) t d1 (by omega)
  obtain ⟨f1, f2, f3, f4, f5⟩ := rd4_ok (v := v5) t e1 (by omega)
  refine ⟨f1, by show gn (rd4 _ _ _ _ _) a k = _; omega, fun j hj => ?_, fun i hi => ?_, fr_trans a5 (fr_trans c5 (fr_trans d5 (fr_trans e5 f5)))⟩
  · exact (f3 j (by omega)).trans ((e3 j (by omega)).trans ((d3 j (by omega)).trans ((c3 j (by omega)).trans (a3 j hj))))
  · unfold b20
    split
    · exact (f3 _ (by omega)).trans ((e3 _ (by omega)).trans ((d3 _ (by omega)).trans ((c3 _ (by omega)).trans (a4 i (by omega)))))
    · split
      · have := c4 (i - 4) (by omega)
        rw [show gn (rd4 A a k h v1) a k + (i - 4) = gn h a k + i by omega] at this
        exact (f3 _ (by omega)).trans ((e3 _ (by omega)).trans ((d3 _ (by omega)).trans this))
      · split
        · have := d4 (i - 8) (by omega)
          rw [show gn (rd4 A a k (rd4 A a k h v1) v2) a k + (i - 8) = gn h a k + i by omega] at this
          exact (f3 _ (by omega)).trans ((e3 _ (by omega)).trans this)
        · split
          · have := e4 (i - 12) (by omega)
            rw [show gn (rd4 A a k (rd4 A a k (rd4 A a k h v1) v2) v3) a k + (i - 12) = gn h a k + i by omega] at this
            exact (f3 _ (by omega)).trans this
          · have := f4 (i - 16) (by omega)
            rw [show gn (rd4 A a k (rd4 A a k (rd4 A a k (rd4 A a k h v1) v2) v3) v4) a k + (i - 16) = gn h a k + i by omega] at this
            exact this
/-- the tapes of class and reference -/
noncomputable def TP (h : pm_H) : Prop := gn h 1 1 = gn h 77 6 ∧ ∀ j, j < gn h 1 1 → gi h 2 j = gi h 82 j
theorem TP_fr {M : List Rng} {h h' : pm_H} (hf : fr_g M h h') (h1 : rg_in M 1 1 = false) (h2 : rg_in M 77 6 = false) (h3 : M.all (fun r => !(Nat.beq r.1 2)) = true) (h4 : M.all (fun r => !(Nat.beq r.1 82)) = true) (T : TP h) : TP h' := by
  refine ⟨by rw [fr_gn hf h1, fr_gn hf h2]; exact T.1, fun j hj => ?_⟩
  rw [fr_gn hf h1] at hj
  rw [fr_gi hf (rg_no h3 j), fr_gi hf (rg_no h4 j)]
  exact T.2 j hj
end
section
/-! by hand: feed and end of class and reference (written by gen_t26.py) -/
theorem add_r {h : pm_H} {d s : Nat} {v x : Int32} {Q : pm_H → Option Value → Prop} (lv : List (Nat × Value)) (hh : HH h) (hn : gn h 1 1 < 500) (hs : s < 32) (hx : nJ s + (-8) = x) (L0 : pm_get lv 0 = some (.ref 1)) (L1 : pm_get lv 1 = some (.int v)) (L2 : pm_get lv 2 = some (.int (nJ s))) (K : ∀ lv : List (Nat × Value), pm_get lv 0 = some (.ref 1) → pm_get lv 1 = some (.int v) → pm_get lv 2 = some (.int x) → Ends (pm_at tX6_add) (pm_Rt pm_P d) (3, lv, [], rdb 2 1 1 h (byv v s), 0, 0) Q) : Ends (pm_at tX6_add) (pm_Rt pm_P d) (3, lv, [], h, 0, 0) Q := by
  refine E_il rfl L2 ?_
  refine E_ifF rfl (decide_eq_false (nJ_lt0 (by omega))) ?_
  refine E_al rfl L0 ?_
  refine E_ogf rfl hh rfl rfl (show gi h 1 1 = nJ ((gn h 1 1)) from (gi_gn hh rfl (by decide))) ?_
  refine E_ci 500 rfl ci500 ?_
  refine E_icF rfl (decide_eq_false (fun q => absurd ((nJ_le (a := 500) (by omega) (by omega)).mp q) (by omega))) ?_
  refine E_al rfl L0 ?_
  refine E_ogr rfl hh rfl (q := 2) rfl ?_
  refine E_al rfl L0 ?_
  refine E_ogf rfl hh rfl rfl (show gi h 1 1 = nJ ((gn h 1 1)) from (gi_gn hh rfl (by decide))) ?_
  refine E_il rfl L1 ?_
  refine E_il rfl L2 ?_
  refine E_bin rfl rfl ?_
  refine E_un rfl ?_
  refine E_bas rfl hh rfl (by omega) (by decide) ?_
  obtain ⟨p1, p2, p3, p4, -, -, -⟩ := rdb_ok (b := byv v s) isT8 hh hn (nar_b _)
  show Ends _ _ (30, lv, [], (pt h 2 (gn h 1 1) (byv v s)), 0, 0) _
  refine E_al rfl L0 ?_
  refine E_dup rfl rfl ?_
  refine E_ogf rfl p1 rfl rfl (show gi (pt h 2 (gn h 1 1) (byv v s)) 1 1 = nJ ((gn h 1 1)) from (by rw [gi_ne (by first | exact gxx rfl | omega)]; exact gi_gn hh rfl (by decide))) ?_
  refine E_ci 1 rfl ci1 ?_
  refine E_bin rfl (nJ_add _ _) ?_
  refine E_opf rfl p1 rfl rfl ?_
  have hh1 : HH (pt (pt h 2 (gn h 1 1) (byv v s)) 1 1 (nJ (((gn h 1 1) + 1)))) := HH_ptn p1 rfl (by omega) (by omega) (by omega)
  refine E_inc rfl L2 hx (fun lv2 L2_2 kp2 => ?_)
  have L2_0 := kp2 0 _ (nbz rfl) rfl L0
  have L2_1 := kp2 1 _ (nbz rfl) rfl L1
  refine E_goto rfl ?_
  exact K lv2 L2_0 L2_1 L2_2
theorem sp_add {h : pm_H} {d : Nat} {v : Int32} (hh : HH h) (hn : gn h 1 1 + 4 ≤ 500) : Sp (d + 1) 55 h [.ref 1, .int v] (fun h' r => r = none ∧ h' = rd4 2 1 1 h v) := by
  refine Sp_of aiX6_add rfl rfl rfl ?_
  refine E_ci 24 rfl ci24 ?_
  refine E_is rfl (fun lv1 L1_2 kp1 => ?_)
  have L1_0 := kp1 0 _ (nbz rfl) rfl (show pm_get (lv_args 0 [.ref 1, .int v]) 0 = _ from rfl)
  have L1_1 := kp1 1 _ (nbz rfl) rfl (show pm_get (lv_args 0 [.ref 1, .int v]) 1 = _ from rfl)
  have T := isT8
  obtain ⟨-, -, p1, p2, -, -, -⟩ := rdb_ok (b := byv v 24) T hh (by omega) (nar_b _)
  obtain ⟨-, -, q1, q2, -, -, -⟩ := rdb_ok (b := byv v 16) T p1 (by omega) (nar_b _)
  obtain ⟨-, -, r1, r2, -, -, -⟩ := rdb_ok (b := byv v 8) T q1 (by omega) (nar_b _)
  refine add_r (x := nJ 16) _ hh (by omega) (by omega) (by decide) L1_0 L1_1 L1_2 (fun lv A0 A1 A2 => ?_)
  refine add_r (x := nJ 8) _ p1 (by omega) (by omega) (by decide) A0 A1 A2 (fun lv A0 A1 A2 => ?_)
  refine add_r (x := nJ 0) _ q1 (by omega) (by omega) (by decide) A0 A1 A2 (fun lv A0 A1 A2 => ?_)
  refine add_r (x := -8) _ r1 (by omega) (by omega) (by decide) A0 A1 A2 (fun lv A0 A1 A2 => ?_)
  refine E_il rfl A2 ?_
  refine E_ifT rfl (by decide) ?_
  exact E_ret rfl ⟨rfl, rfl⟩
theorem four_r {h : pm_H} {d s : Nat} {v x : Int32} {Q : pm_H → Option Value → Prop} (lv : List (Nat × Value)) (hh : HH h) (hn : gn h 77 6 < 500) (hs : s < 32) (hx : nJ s + (-8) = x) (L0 : pm_get lv 0 = some (.ref 77)) (L1 : pm_get lv 1 = some (.int v)) (L2 : pm_get lv 2 = some (.int (nJ s))) (K : ∀ lv : List (Nat × Value), pm_get lv 0 = some (.ref 77) → pm_get lv 1 = some (.int v) → pm_get lv 2 = some (.int x) → Ends (pm_at tX9_four) (pm_Rt pm_P d) (3, lv, [], rdb 82 77 6 h (byv v s), 0, 0) Q) : Ends (pm_at tX9_four) (pm_Rt pm_P d) (3, lv, [], h, 0, 0) Q := by
  refine E_il rfl L2 ?_
  refine E_ifF rfl (decide_eq_false (nJ_lt0 (by omega))) ?_
  refine E_al rfl L0 ?_
  refine E_gr rfl hh (q := 82) rfl ?_
  refine E_al rfl L0 ?_
  refine E_gf rfl hh rfl (show gi h 77 6 = nJ ((gn h 77 6)) from (gi_gn hh rfl (by decide))) ?_
  refine E_il rfl L1 ?_
  refine E_il rfl L2 ?_
  refine E_bin rfl rfl ?_
  refine E_un rfl ?_
  refine E_bas rfl hh rfl (by omega) (by decide) ?_
  obtain ⟨p1, p2, p3, p4, -, -, -⟩ := rdb_ok (b := byv v s) isT9 hh hn (nar_b _)
  show Ends _ _ (20, lv, [], (pt h 82 (gn h 77 6) (byv v s)), 0, 0) _
  refine E_al rfl L0 ?_
  refine E_dup rfl rfl ?_
  refine E_gf rfl p1 rfl (show gi (pt h 82 (gn h 77 6) (byv v s)) 77 6 = nJ ((gn h 77 6)) from (by rw [gi_ne (by first | exact gxx rfl | omega)]; exact gi_gn hh rfl (by decide))) ?_
  refine E_ci 1 rfl ci1 ?_
  refine E_bin rfl (nJ_add _ _) ?_
  refine E_pf rfl p1 rfl ?_
  have hh1 : HH (pt (pt h 82 (gn h 77 6) (byv v s)) 77 6 (nJ (((gn h 77 6) + 1)))) := HH_ptn p1 rfl (by omega) (by omega) (by omega)
  refine E_inc rfl L2 hx (fun lv2 L2_2 kp2 => ?_)
  have L2_0 := kp2 0 _ (nbz rfl) rfl L0
  have L2_1 := kp2 1 _ (nbz rfl) rfl L1
  refine E_goto rfl ?_
  exact K lv2 L2_0 L2_1 L2_2
theorem sp_four {h : pm_H} {d : Nat} {v : Int32} (hh : HH h) (hn : gn h 77 6 + 4 ≤ 500) : Sp (d + 1) 252 h [.ref 77, .int v] (fun h' r => r = none ∧ h' = rd4 82 77 6 h v) := by
  refine Sp_of aiX9_four rfl rfl rfl ?_
  refine E_ci 24 rfl ci24 ?_
  refine E_is rfl (fun lv1 L1_2 kp1 => ?_)
  have L1_0 := kp1 0 _ (nbz rfl) rfl (show pm_get (lv_args 0 [.ref 77, .int v]) 0 = _ from rfl)
  have L1_1 := kp1 1 _ (nbz rfl) rfl (show pm_get (lv_args 0 [.ref 77, .int v]) 1 = _ from rfl)
  have T := isT9
  obtain ⟨-, -, p1, p2, -, -, -⟩ := rdb_ok (b := byv v 24) T hh (by omega) (nar_b _)
  obtain ⟨-, -, q1, q2, -, -, -⟩ := rdb_ok (b := byv v 16) T p1 (by omega) (nar_b _)
  obtain ⟨-, -, r1, r2, -, -, -⟩ := rdb_ok (b := byv v 8) T q1 (by omega) (nar_b _)
  refine four_r (x := nJ 16) _ hh (by omega) (by omega) (by decide) L1_0 L1_1 L1_2 (fun lv A0 A1 A2 => ?_)
  refine four_r (x := nJ 8) _ p1 (by omega) (by omega) (by decide) A0 A1 A2 (fun lv A0 A1 A2 => ?_)
  refine four_r (x := nJ 0) _ q1 (by omega) (by omega) (by decide) A0 A1 A2 (fun lv A0 A1 A2 => ?_)
  refine four_r (x := -8) _ r1 (by omega) (by omega) (by decide) A0 A1 A2 (fun lv A0 A1 A2 => ?_)
  refine E_il rfl A2 ?_
  refine E_ifT rfl (by decide) ?_
  exact E_ret rfl ⟨rfl, rfl⟩
theorem sp_feed8 {h : pm_H} {dd : Nat} {a b c d e : Int32} (hh : HH h) : Sp (dd + 2) 106 h [.ref 0, .int a, .int b, .int c, .int d, .int e] (fun h' r => (gn h 1 1 + 20 ≤ 500 ∧ h' = rd20 2 1 1 h a b c d e ∧ r = some (.int (nJ (gn h 1 1 + 20)))) ∨ (¬ gn h 1 1 + 20 ≤ 500 ∧ h' = h ∧ r = some (.int (-1)))) := by
  have hn5 : gn h 1 1 ≤ 500 := gn_hi hh rfl (by decide)
  refine Sp_of aiX8_feed rfl rfl rfl ?_
  refine E_al rfl (show pm_get (lv_args 0 [.ref 0, .int a, .int b, .int c, .int d, .int e]) 0 = _ from rfl) ?_
  refine E_ogr rfl hh rfl (q := 1) rfl ?_
  refine E_ogf rfl hh rfl rfl (show gi h 1 1 = nJ ((gn h 1 1)) from (gi_gn hh rfl (by decide))) ?_
  refine E_ci 480 rfl ci480 ?_
  by_cases hb1 : (gn h 1 1) ≤ 480
  · refine E_icT rfl (decide_eq_true ((nJ_le (by omega) (by omega)).mpr hb1)) ?_
    refine E_al rfl (show pm_get (lv_args 0 [.ref 0, .int a, .int b, .int c, .int d, .int e]) 0 = _ from rfl) ?_
    refine E_ogr rfl hh rfl (q := 1) rfl ?_
    refine E_il rfl (show pm_get (lv_args 0 [.ref 0, .int a, .int b, .int c, .int d, .int e]) 1 = _ from rfl) ?_
    refine E_call rfl (Sp_le (by first | exact Nat.add_le_add_left (Nat.le_of_ble_eq_true rfl) _ | exact Nat.le_of_ble_eq_true rfl | omega) (sp_add (d := 0) hh (by omega))) (chkO (a := 1) hh rfl rfl rfl rfl (by show 0 ≤ 8; decide)) (fun h2 r2 => ?_)
    rintro ⟨e2, f2⟩
    rw [e2, f2]
    obtain ⟨y2, n2, -, -, -⟩ := rd4_ok (v := a) isT8 hh (by omega)
    show Ends _ _ (23, (lv_args 0 [.ref 0, .int a, .int b, .int c, .int d, .int e]), [], (rd4 2 1 1 h a), 0, 0) _
    refine E_al rfl (show pm_get (lv_args 0 [.ref 0, .int a, .int b, .int c, .int d, .int e]) 0 = _ from rfl) ?_
    refine E_ogr rfl y2 rfl (q := 1) rfl ?_
    refine E_il rfl (show pm_get (lv_args 0 [.ref 0, .int a, .int b, .int c, .int d, .int e]) 2 = _ from rfl) ?_
    refine E_call rfl (Sp_le (by first | exact Nat.add_le_add_left (Nat.le_of_ble_eq_true rfl) _ | exact Nat.le_of_ble_eq_true rfl | omega) (sp_add (d := 0) y2 (by omega))) (chkO (a := 1) y2 rfl rfl rfl rfl (by show 0 ≤ 8; decide)) (fun h3 r3 => ?_)
    rintro ⟨e3, f3⟩
    rw [e3, f3]
    obtain ⟨y3, n3, -, -, -⟩ := rd4_ok (v := b) isT8 y2 (by omega)
    show Ends _ _ (31, (lv_args 0 [.ref 0, .int a, .int b, .int c, .int d, .int e]), [], (rd4 2 1 1 (rd4 2 1 1 h a) b), 0, 0) _
    refine E_al rfl (show pm_get (lv_args 0 [.ref 0, .int a, .int b, .int c, .int d, .int e]) 0 = _ from rfl) ?_
    refine E_ogr rfl y3 rfl (q := 1) rfl ?_
    refine E_il rfl (show pm_get (lv_args 0 [.ref 0, .int a, .int b, .int c, .int d, .int e]) 3 = _ from rfl) ?_
    refine E_call rfl (Sp_le (by first | exact Nat.add_le_add_left (Nat.le_of_ble_eq_true rfl) _ | exact Nat.le_of_ble_eq_true rfl | omega) (sp_add (d := 0) y3 (by omega))) (chkO (a := 1) y3 rfl rfl rfl rfl (by show 0 ≤ 8; decide)) (fun h4 r4 => ?_)
    rintro ⟨e4, f4⟩
    rw [e4, f4]
    obtain ⟨y4, n4, -, -, -⟩ := rd4_ok (v := c) isT8 y3 (by omega)
    show Ends _ _ (39, (lv_args 0 [.ref 0, .int a, .int b, .int c, .int d, .int e]), [], (rd4 2 1 1 (rd4 2 1 1 (rd4 2 1 1 h a) b) c), 0, 0) _
    refine E_al rfl (show pm_get (lv_args 0 [.ref 0, .int a, .int b, .int c, .int d, .int e]) 0 = _ from rfl) ?_
    refine E_ogr rfl y4 rfl (q := 1) rfl ?_
    refine E_il rfl (show pm_get (lv_args 0 [.ref 0, .int a, .int b, .int c, .int d, .int e]) 4 = _ from rfl) ?_
    refine E_call rfl (Sp_le (by first | exact Nat.add_le_add_left (Nat.le_of_ble_eq_true rfl) _ | exact Nat.le_of_ble_eq_true rfl | omega) (sp_add (d := 0) y4 (by omega))) (chkO (a := 1) y4 rfl rfl rfl rfl (by show 0 ≤ 8; decide)) (fun h5 r5 => ?_)
    rintro ⟨e5, f5⟩
    rw [e5, f5]
    obtain ⟨y5, n5, -, -, -⟩ := rd4_ok (v := d) isT8 y4 (by omega)
    show Ends _ _ (48, (lv_args 0 [.ref 0, .int a, .int b, .int c, .int d, .int e]), [], (rd4 2 1 1 (rd4 2 1 1 (rd4 2 1 1 (rd4 2 1 1 h a) b) c) d), 0, 0) _
    refine E_al rfl (show pm_get (lv_args 0 [.ref 0, .int a, .int b, .int c, .int d, .int e]) 0 = _ from rfl) ?_
    refine E_ogr rfl y5 rfl (q := 1) rfl ?_
    refine E_il rfl (show pm_get (lv_args 0 [.ref 0, .int a, .int b, .int c, .int d, .int e]) 5 = _ from rfl) ?_
    refine E_call rfl (Sp_le (by first | exact Nat.add_le_add_left (Nat.le_of_ble_eq_true rfl) _ | exact Nat.le_of_ble_eq_true rfl | omega) (sp_add (d := 0) y5 (by omega))) (chkO (a := 1) y5 rfl rfl rfl rfl (by show 0 ≤ 8; decide)) (fun h6 r6 => ?_)
    rintro ⟨e6, f6⟩
    rw [e6, f6]
    obtain ⟨y6, n6, -, -, -⟩ := rd4_ok (v := e) isT8 y5 (by omega)
    show Ends _ _ (57, (lv_args 0 [.ref 0, .int a, .int b, .int c, .int d, .int e]), [], (rd4 2 1 1 (rd4 2 1 1 (rd4 2 1 1 (rd4 2 1 1 (rd4 2 1 1 h a) b) c) d) e), 0, 0) _
    refine E_al rfl (show pm_get (lv_args 0 [.ref 0, .int a, .int b, .int c, .int d, .int e]) 0 = _ from rfl) ?_
    refine E_ogr rfl y6 rfl (q := 1) rfl ?_
    refine E_ogf rfl y6 rfl rfl (show gi (rd4 2 1 1 (rd4 2 1 1 (rd4 2 1 1 (rd4 2 1 1 (rd4 2 1 1 h a) b) c) d) e) 1 1 = nJ ((gn h 1 1 + 20)) from (by rw [gi_gn y6 rfl (by decide)]; exact congrArg nJ (by omega))) ?_
    exact E_rti rfl (.inl ⟨by omega, rfl, rfl⟩)
  · refine E_icF rfl (decide_eq_false (fun q => hb1 ((nJ_le (by omega) (by omega)).mp q))) ?_
    refine E_c rfl ?_
    exact E_rti rfl (.inr ⟨by omega, rfl, rfl⟩)
theorem sp_feed9 {h : pm_H} {dd : Nat} {a b c d e : Int32} (hh : HH h) : Sp (dd + 2) 247 h [.ref 77, .int a, .int b, .int c, .int d, .int e] (fun h' r => (gn h 77 6 + 20 ≤ 500 ∧ h' = rd20 82 77 6 (pt h 77 0 (nJ 0)) a b c d e ∧ r = some (.int (nJ (gn h 77 6 + 20)))) ∨ (¬ gn h 77 6 + 20 ≤ 500 ∧ h' = (pt h 77 0 (nJ 0)) ∧ r = some (.int (-1)))) := by
  have hn5 : gn h 77 6 ≤ 500 := gn_hi hh rfl (by decide)
  refine Sp_of aiX9_feed rfl rfl rfl ?_
  refine E_al rfl (show pm_get (lv_args 0 [.ref 77, .int a, .int b, .int c, .int d, .int e]) 0 = _ from rfl) ?_
  refine E_ci 0 rfl ci0 ?_
  refine E_pf rfl hh rfl ?_
  have hh1 : HH (pt h 77 0 (nJ 0)) := HH_ptn hh rfl (by omega) (by omega) (by omega)
  have n0 : gn (pt h 77 0 (nJ 0)) 77 6 = gn h 77 6 := gn_ne (by first | exact gxx rfl | omega)
  refine E_al rfl (show pm_get (lv_args 0 [.ref 77, .int a, .int b, .int c, .int d, .int e]) 0 = _ from rfl) ?_
  refine E_gf rfl hh1 rfl (show gi (pt h 77 0 (nJ 0)) 77 6 = nJ ((gn h 77 6)) from (by rw [gi_ne (by first | exact gxx rfl | omega)]; exact gi_gn hh rfl (by decide))) ?_
  refine E_ci 20 rfl ci20 ?_
  refine E_bin rfl (nJ_add _ _) ?_
  refine E_ci 500 rfl ci500 ?_
  by_cases hb2 : ((gn h 77 6) + 20) ≤ 500
  · refine E_icT rfl (decide_eq_true ((nJ_le (by omega) (by omega)).mpr hb2)) ?_
    refine E_al rfl (show pm_get (lv_args 0 [.ref 77, .int a, .int b, .int c, .int d, .int e]) 0 = _ from rfl) ?_
    refine E_il rfl (show pm_get (lv_args 0 [.ref 77, .int a, .int b, .int c, .int d, .int e]) 1 = _ from rfl) ?_
    refine E_call rfl (Sp_le (by first | exact Nat.add_le_add_left (Nat.le_of_ble_eq_true rfl) _ | exact Nat.le_of_ble_eq_true rfl | omega) (sp_four (d := 0) hh1 (by omega))) (chk77 hh1 rfl rfl (by show 0 ≤ 8; decide)) (fun h3 r3 => ?_)
    rintro ⟨e3, f3⟩
    rw [e3, f3]
    obtain ⟨y3, n3, -, -, -⟩ := rd4_ok (v := a) isT9 hh1 (by omega)
    show Ends _ _ (25, (lv_args 0 [.ref 77, .int a, .int b, .int c, .int d, .int e]), [], (rd4 82 77 6 (pt h 77 0 (nJ 0)) a), 0, 0) _
    refine E_al rfl (show pm_get (lv_args 0 [.ref 77, .int a, .int b, .int c, .int d, .int e]) 0 = _ from rfl) ?_
    refine E_il rfl (show pm_get (lv_args 0 [.ref 77, .int a, .int b, .int c, .int d, .int e]) 2 = _ from rfl) ?_
    refine E_call rfl (Sp_le (by first | exact Nat.add_le_add_left (Nat.le_of_ble_eq_true rfl) _ | exact Nat.le_of_ble_eq_true rfl | omega) (sp_four (d := 0) y3 (by omega))) (chk77 y3 rfl rfl (by show 0 ≤ 8; decide)) (fun h4 r4 => ?_)
    rintro ⟨e4, f4⟩
    rw [e4, f4]
    obtain ⟨y4, n4, -, -, -⟩ := rd4_ok (v := b) isT9 y3 (by omega)
    show Ends _ _ (30, (lv_args 0 [.ref 77, .int a, .int b, .int c, .int d, .int e]), [], (rd4 82 77 6 (rd4 82 77 6 (pt h 77 0 (nJ 0)) a) b), 0, 0) _
    refine E_al rfl (show pm_get (lv_args 0 [.ref 77, .int a, .int b, .int c, .int d, .int e]) 0 = _ from rfl) ?_
    refine E_il rfl (show pm_get (lv_args 0 [.ref 77, .int a, .int b, .int c, .int d, .int e]) 3 = _ from rfl) ?_
    refine E_call rfl (Sp_le (by first | exact Nat.add_le_add_left (Nat.le_of_ble_eq_true rfl) _ | exact Nat.le_of_ble_eq_true rfl | omega) (sp_four (d := 0) y4 (by omega))) (chk77 y4 rfl rfl (by show 0 ≤ 8; decide)) (fun h5 r5 => ?_)
    rintro ⟨e5, f5⟩
    rw [e5, f5]
    obtain ⟨y5, n5, -, -, -⟩ := rd4_ok (v := c) isT9 y4 (by omega)
    show Ends _ _ (35, (lv_args 0 [.ref 77, .int a, .int b, .int c, .int d, .int e]), [], (rd4 82 77 6 (rd4 82 77 6 (rd4 82 77 6 (pt h 77 0 (nJ 0)) a) b) c), 0, 0) _
    refine E_al rfl (show pm_get (lv_args 0 [.ref 77, .int a, .int b, .int c, .int d, .int e]) 0 = _ from rfl) ?_
    refine E_il rfl (show pm_get (lv_args 0 [.ref 77, .int a, .int b, .int c, .int d, .int e]) 4 = _ from rfl) ?_
    refine E_call rfl (Sp_le (by first | exact Nat.add_le_add_left (Nat.le_of_ble_eq_true rfl) _ | exact Nat.le_of_ble_eq_true rfl | omega) (sp_four (d := 0) y5 (by omega))) (chk77 y5 rfl rfl (by show 0 ≤ 8; decide)) (fun h6 r6 => ?_)
    rintro ⟨e6, f6⟩
    rw [e6, f6]
    obtain ⟨y6, n6, -, -, -⟩ := rd4_ok (v := d) isT9 y5 (by omega)
    show Ends _ _ (41, (lv_args 0 [.ref 77, .int a, .int b, .int c, .int d, .int e]), [], (rd4 82 77 6 (rd4 82 77 6 (rd4 82 77 6 (rd4 82 77 6 (pt h 77 0 (nJ 0)) a) b) c) d), 0, 0) _
    refine E_al rfl (show pm_get (lv_args 0 [.ref 77, .int a, .int b, .int c, .int d, .int e]) 0 = _ from rfl) ?_
    refine E_il rfl (show pm_get (lv_args 0 [.ref 77, .int a, .int b, .int c, .int d, .int e]) 5 = _ from rfl) ?_
    refine E_call rfl (Sp_le (by first | exact Nat.add_le_add_left (Nat.le_of_ble_eq_true rfl) _ | exact Nat.le_of_ble_eq_true rfl | omega) (sp_four (d := 0) y6 (by omega))) (chk77 y6 rfl rfl (by show 0 ≤ 8; decide)) (fun h7 r7 => ?_)
    rintro ⟨e7, f7⟩
    rw [e7, f7]
    obtain ⟨y7, n7, -, -, -⟩ := rd4_ok (v := e) isT9 y6 (by omega)
    show Ends _ _ (47, (lv_args 0 [.ref 77, .int a, .int b, .int c, .int d, .int e]), [], (rd4 82 77 6 (rd4 82 77 6 (rd4 82 77 6 (rd4 82 77 6 (rd4 82 77 6 (pt h 77 0 (nJ 0)) a) b) c) d) e), 0, 0) _
    refine E_al rfl (show pm_get (lv_args 0 [.ref 77, .int a, .int b, .int c, .int d, .int e]) 0 = _ from rfl) ?_
    refine E_gf rfl y7 rfl (show gi (rd4 82 77 6 (rd4 82 77 6 (rd4 82 77 6 (rd4 82 77 6 (rd4 82 77 6 (pt h 77 0 (nJ 0)) a) b) c) d) e) 77 6 = nJ ((gn h 77 6 + 20)) from (by rw [gi_gn y7 rfl (by decide)]; exact congrArg nJ (by omega))) ?_
    exact E_rti rfl (.inl ⟨by omega, rfl, rfl⟩)
  · refine E_icF rfl (decide_eq_false (fun q => hb2 ((nJ_le (by omega) (by omega)).mp q))) ?_
    refine E_c rfl ?_
    exact E_rti rfl (.inr ⟨by omega, rfl, rfl⟩)
end
