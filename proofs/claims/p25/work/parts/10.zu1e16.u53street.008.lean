section
section AX8
variable {h : pm_H} {d : Nat} {x y : Int32}
theorem sp_trades8X (hh : HH h) : Sp (d + 7) 191 h [.ref 0, .int x, .int y] (fun h' r => (∃ v : Int32, r = some (.int v)) ∧ WX (okT (gn h 15 4) x y) h h' (gn h 15 6) x.toInt.toNat y.toInt.toNat 1) := by
  obtain ⟨a1, a2, a3, a4, a5, a6⟩ := g15 hh
  refine Sp_of aiX8_trades rfl rfl rfl ?_
  have L0 : pm_get (lv_args 0 [.ref 0, .int x, .int y]) 0 = some (.ref 0) := rfl
  have L1 : pm_get (lv_args 0 [.ref 0, .int x, .int y]) 1 = some (.int x) := rfl
  have L2 : pm_get (lv_args 0 [.ref 0, .int x, .int y]) 2 = some (.int y) := rfl
  generalize lv_args 0 [.ref 0, .int x, .int y] = lv at L0 L1 L2 ⊢
  refine E_al rfl L0 ?_
  refine E_il rfl L1 ?_
  refine E_il rfl L2 ?_
  refine E_call rfl (Sp_le (by omega) (sp_hasPair8 (d := d) hh)) (chkO (a := 0) hh rfl rfl rfl rfl (by show 0 ≤ 8; decide)) (fun h1 r1 => ?_)
  rintro ⟨e1, f1⟩
  rw [e1, f1]
  by_cases b : (0 ≤ x.toInt ∧ x.toInt < (gn h 15 4 : Int)) ∧ (0 ≤ y.toInt ∧ y.toInt < (gn h 15 4 : Int)) ∧ ¬ x = y
  · refine E_ifT rfl (by rw [zb_T b]; rfl) ?_
    have ok : okT (gn h 15 4) x y = true := decide_eq_true b
    rw [ok]
    obtain ⟨b1, b2, -⟩ := b
    obtain ⟨c, hc, rfl⟩ : ∃ c, c ≤ 7 ∧ x = nJ c := ⟨x.toInt.toNat, by omega, nJ_of b1.1⟩
    obtain ⟨z, hz, rfl⟩ : ∃ c, c ≤ 7 ∧ y = nJ c := ⟨y.toInt.toNat, by omega, nJ_of (by omega)⟩
    refine E_al rfl L0 ?_
    refine E_il rfl L1 ?_
    refine E_il rfl L2 ?_
    refine E_ci 1 rfl (by decide) ?_
    refine E_call rfl (sp_actLostX (d := d) (t := 1) hh hc (by omega) (by omega) (fun _ => hz)) (chkO (a := 0) hh rfl rfl rfl rfl (by show 0 ≤ 8; decide)) (fun h3 r3 => ?_)
    rintro ⟨⟨v, e3⟩, g3⟩
    rw [e3]
    exact E_rti rfl ⟨⟨_, rfl⟩, by rw [nJ_toInt (by omega), nJ_toInt (by omega)]; exact g3⟩
  · refine E_ifF rfl (by rw [zb_F b]; rfl) ?_
    refine E_c rfl ?_
    exact E_rti rfl ⟨⟨_, rfl⟩, WX_no (fun z => b (of_decide_eq_true z.1))⟩
end AX8
end
section
/-! the reference's does, wants, trades: what they leave (written by gen_t58.py; wants t57) -/
/-- all of the counted places but the acts stay -/
noncomputable def SAM (h h' : pm_H) : Prop := ∀ a k, (a = 83 ∨ a = 85 ∨ (a = 84 ∧ k ≠ 5)) → gi h' a k = gi h a k
theorem sp_doesE {h0 : pm_H} {d kd c x : Nat} (hh0 : HH h0) (hV : RV h0) (hK : gn h0 84 5 < 20) (hkd : kd ≤ 1) (hc7 : c ≤ 7) (hx8 : x ≤ 8) (hcond : (kd = 0 → 1 ≤ x) ∧ (¬ kd = 0 → c < gn h0 84 3 ∧ x < gn h0 84 3)) : Sp (d + 7) 238 h0 [.ref 77, .int (nJ kd), .int (nJ c), .int (nJ x)] (fun h' r => VQ h0 h' r ∧ SAM h0 h' ∧ gi h' 84 5 = nJ (gn h0 84 5 + 1)) := by
  refine Sp_of aiX9_does rfl rfl rfl ?_
  refine E_ci 3 rfl (by decide) ?_
  refine E_al rfl (show pm_get (lv_args 0 [.ref 77, .int (nJ kd), .int (nJ c), .int (nJ x)]) 0 = _ from rfl) ?_
  refine E_gr rfl hh0 (q := 84) rfl ?_
  refine E_ci 5 rfl (by decide) ?_
  have b1 : gn h0 84 5 ≤ 20 := gn_hi hh0 rfl (by decide)
  refine E_ial rfl hh0 rfl (by omega) (by decide) (gi_gn hh0 rfl (by decide)) ?_
  refine E_bin rfl (nJ_mul _ _) ?_
  refine E_is rfl (fun lv2 L2_4 kp2 => ?_)
  have L2_0 := kp2 0 _ (by decide) rfl (show pm_get (lv_args 0 [.ref 77, .int (nJ kd), .int (nJ c), .int (nJ x)]) 0 = _ from rfl)
  have L2_1 := kp2 1 _ (by decide) rfl (show pm_get (lv_args 0 [.ref 77, .int (nJ kd), .int (nJ c), .int (nJ x)]) 1 = _ from rfl)
  have L2_2 := kp2 2 _ (by decide) rfl (show pm_get (lv_args 0 [.ref 77, .int (nJ kd), .int (nJ c), .int (nJ x)]) 2 = _ from rfl)
  have L2_3 := kp2 3 _ (by decide) rfl (show pm_get (lv_args 0 [.ref 77, .int (nJ kd), .int (nJ c), .int (nJ x)]) 3 = _ from rfl)
  refine E_al rfl L2_0 ?_
  refine E_gr rfl hh0 (q := 87) rfl ?_
  refine E_il rfl L2_4 ?_
  refine E_il rfl L2_1 ?_
  refine E_ias rfl hh0 rfl (by omega) (by decide) ?_
  have hh3 : HH (pt h0 87 ((3 * (gn h0 84 5))) (nJ kd)) := HH_ptn hh0 (bd_87a (by omega) (by omega)) (by omega) (by omega) (by omega)
  have fr3 : fr_g VM h0 (pt h0 87 ((3 * (gn h0 84 5))) (nJ kd)) := fr_ptr (l := 0) (u := 299) rfl (by omega) (by omega) (fr_rf VM h0)
  refine E_al rfl L2_0 ?_
  refine E_gr rfl hh3 (q := 87) rfl ?_
  refine E_il rfl L2_4 ?_
  refine E_ci 1 rfl (by decide) ?_
  refine E_bin rfl (nJ_add _ _) ?_
  refine E_il rfl L2_2 ?_
  refine E_ias rfl hh3 rfl (by omega) (by decide) ?_
  have hh4 : HH (pt (pt h0 87 ((3 * (gn h0 84 5))) (nJ kd)) 87 (((3 * (gn h0 84 5)) + 1)) (nJ c)) := HH_ptn hh3 (bd_87b (by omega) (by omega)) (by omega) (by omega) (by omega)
  have fr4 : fr_g VM h0 (pt (pt h0 87 ((3 * (gn h0 84 5))) (nJ kd)) 87 (((3 * (gn h0 84 5)) + 1)) (nJ c)) := fr_ptr (l := 0) (u := 299) rfl (by omega) (by omega) fr3
  refine E_al rfl L2_0 ?_
  refine E_gr rfl hh4 (q := 87) rfl ?_
  refine E_il rfl L2_4 ?_
  refine E_ci 2 rfl (by decide) ?_
  refine E_bin rfl (nJ_add _ _) ?_
  refine E_il rfl L2_3 ?_
  refine E_ias rfl hh4 rfl (by omega) (by decide) ?_
  have hh5 : HH (pt (pt (pt h0 87 ((3 * (gn h0 84 5))) (nJ kd)) 87 (((3 * (gn h0 84 5)) + 1)) (nJ c)) 87 (((3 * (gn h0 84 5)) + 2)) (nJ x)) := HH_ptn hh4 (bd_87c (by omega) (by omega)) (by omega) (by omega) (by omega)
  have fr5 : fr_g VM h0 (pt (pt (pt h0 87 ((3 * (gn h0 84 5))) (nJ kd)) 87 (((3 * (gn h0 84 5)) + 1)) (nJ c)) 87 (((3 * (gn h0 84 5)) + 2)) (nJ x)) := fr_ptr (l := 0) (u := 299) rfl (by omega) (by omega) fr4
  refine E_al rfl L2_0 ?_
  refine E_gr rfl hh5 (q := 84) rfl ?_
  refine E_ci 5 rfl (by decide) ?_
  refine E_dup2 rfl rfl rfl ?_
  refine E_ial rfl hh5 rfl (by omega) (by decide) (show gi (pt (pt (pt h0 87 ((3 * (gn h0 84 5))) (nJ kd)) 87 (((3 * (gn h0 84 5)) + 1)) (nJ c)) 87 (((3 * (gn h0 84 5)) + 2)) (nJ x)) 84 5 = nJ ((gn h0 84 5)) from by rw [gi_ne (by omega), gi_ne (by omega), gi_ne (by omega)]; exact gi_gn hh0 rfl (by decide)) ?_
  refine E_ci 1 rfl (by decide) ?_
  refine E_bin rfl (nJ_add _ _) ?_
  refine E_ias rfl hh5 rfl (by omega) (by decide) ?_
  have hh6 : HH (pt (pt (pt (pt h0 87 ((3 * (gn h0 84 5))) (nJ kd)) 87 (((3 * (gn h0 84 5)) + 1)) (nJ c)) 87 (((3 * (gn h0 84 5)) + 2)) (nJ x)) 84 5 (nJ (((gn h0 84 5) + 1)))) := HH_ptn hh5 rfl (by omega) (by omega) (by omega)
  have fr6 : fr_g VM h0 (pt (pt (pt (pt h0 87 ((3 * (gn h0 84 5))) (nJ kd)) 87 (((3 * (gn h0 84 5)) + 1)) (nJ c)) 87 (((3 * (gn h0 84 5)) + 2)) (nJ x)) 84 5 (nJ (((gn h0 84 5) + 1)))) := fr_ptr (l := 0) (u := 29) rfl (by omega) (by omega) fr5
  refine E_al rfl L2_0 ?_
  have V2 : RV (pt (pt (pt (pt h0 87 ((3 * (gn h0 84 5))) (nJ kd)) 87 (((3 * (gn h0 84 5)) + 1)) (nJ c)) 87 (((3 * (gn h0 84 5)) + 2)) (nJ x)) 84 5 (nJ (((gn h0 84 5) + 1)))) := RV_act hh0 hV rfl hK (gn_ptn hh5 rfl (by omega) (by omega) (by omega)) (fun k hk => by rw [gn_ne (fun _ => hk), gn_ne (by omega), gn_ne (by omega), gn_ne (by omega)]) (fun k => by rw [gn_ne (by omega), gn_ne (by omega), gn_ne (by omega), gn_ne (by omega)]) (kd := kd) (c := c) (x := x) (by rw [gn_ne (by omega), gn_ne (by omega), gn_ne (by omega), gn_ptn hh0 (bd_87a (by omega) (by omega)) (by omega) (by omega) (by omega)]) (by rw [gn_ne (by omega), gn_ne (by omega), gn_ptn hh3 (bd_87b (by omega) (by omega)) (by omega) (by omega) (by omega)]) (by rw [gn_ne (by omega), gn_ptn hh4 (bd_87c (by omega) (by omega)) (by omega) (by omega) (by omega)]) (fun k k1 k2 k3 => by rw [gn_ne (by omega), gn_ne (fun _ => k3), gn_ne (fun _ => k2), gn_ne (fun _ => k1)]) hcond
  refine E_call rfl (Sp_le (by omega) (Sp_sum (as := [.ref 77]) q150 hh6 ⟨rfl, trivial⟩ (fun _ hq => absurd hq List.not_mem_nil) (fun i hi => by rw [List.mem_singleton.mp hi]; exact FAg_fact hh6 (V2.2 0 (by omega))))) (chk77 hh6 rfl rfl (by show 0 ≤ 8; decide)) (fun h7 r7 => ?_)
  rintro ⟨hh7, fq7, C7, hC7, -, -, -, rv7⟩
  have e7 : r7 = none := by have e := List.mem_singleton.mp hC7; subst e; cases r7 with | none => rfl | some v => exact rv7.elim
  rw [e7]
  have fr7 : fr_g VM h0 h7 := fr_trans fr6 (fr_wk rfl fq7)
  have V7 : RV h7 := RV_fr hh6 rfl fq7 V2
  show Ends _ _ (52, lv2, [], h7, 0, 0) _
  refine E_al rfl L2_0 ?_
  have b8 : gn h7 77 27 ≤ 255 := gn_hi hh7 rfl (by decide)
  refine E_gf rfl hh7 rfl (gi_gn hh7 rfl (by decide)) ?_
  refine E_call rfl (Sp_le (by omega) (Sp_sum (as := [.int (nJ ((gn h7 77 27)))]) q616 hh7 ⟨nJ_in (by omega) (by omega), trivial⟩ (fun _ hq => absurd hq List.not_mem_nil) (fun _ hq => absurd hq List.not_mem_nil))) (chkS rfl (by show 0 ≤ 8; decide)) (fun h9 r9 => ?_)
  rintro ⟨hh9, fq9, C9, hC9, -, -, -, rv9⟩
  have hC9 : C9 ∈ [([cI 3 255], [], [], some (.inl (cI 2 8))), ([cI 1 128], [], [], some (.inl (cI 1 1))), ([cI 0 0], [], [], some (.inl (cI 0 0)))] := hC9
  obtain ⟨x9, f9⟩ : ∃ x : Int32, r9 = some (.int x) := by
    rcases List.mem_cons.mp hC9 with e | e
    · subst e; exact rv_ci rv9
    · rcases List.mem_cons.mp e with e | e
      · subst e; exact rv_ci rv9
      · have e := List.mem_singleton.mp e; subst e; exact rv_ci rv9
  rw [f9]
  have fr9 : fr_g VM h0 h9 := fr_trans fr7 (fr_wk rfl fq9)
  have V9 : RV h9 := RV_fr hh7 rfl fq9 V7
  show Ends _ _ (59, lv2, [.int x9], h9, 0, 0) _
  refine E_rti rfl ⟨⟨hh9, fr9, V9, _, rfl⟩, ?_, ?_⟩
  · intro a k hak
    rcases hak with rfl | rfl | ⟨rfl, hk⟩
    · rw [fr_gi fq9 (rg_no rfl _), fr_gi fq7 (rg_no rfl _), gi_ne (by omega), gi_ne (by omega), gi_ne (by omega), gi_ne (by omega)]
    · rw [fr_gi fq9 (rg_no rfl _), fr_gi fq7 (rg_no rfl _), gi_ne (by omega), gi_ne (by omega), gi_ne (by omega), gi_ne (by omega)]
    · rw [fr_gi fq9 (rg_no rfl _), fr_gi fq7 (rg_no rfl _), gi_ne (fun _ => hk), gi_ne (by omega), gi_ne (by omega), gi_ne (by omega)]
  · rw [fr_gi fq9 (rg_no rfl _), fr_gi fq7 (rg_no rfl _)]
    exact gi_ptn hh5 rfl (by omega) (by omega) (by omega)
theorem wn_no {a : Nat} {ok : Bool} (e : ok = false) : wna ok a = a := by rw [e]; rfl
theorem wn_full {ok : Bool} : wna ok 20 = 20 := by cases ok <;> rfl
theorem wn_yes {a : Nat} {ok : Bool} (e : ok = true) (h : a < 20) : wna ok a = a + 1 := by
  rw [e]
  show (if a < 20 then a + 1 else a) = a + 1
  rw [if_pos h]
theorem pg5 {h0 : pm_H} (hh0 : HH h0) : gi (pt h0 77 0 (nJ 0)) 84 5 = nJ (gn h0 84 5) := by
  rw [gi_ne (by omega)]
  exact (g84 hh0).1
theorem bif_no {p q : Bool} (h : ¬ (p = true ∧ q = true)) : (bif p then q else false) = false := by
  cases p <;> cases q <;> simp_all
theorem bif_ye {p q : Bool} (h1 : p = true) (h2 : q = true) : (bif p then q else false) = true := by
  rw [h1, h2]; rfl
section WT9
variable {h0 : pm_H} {x y : Int32}
theorem wnW (hh0 : HH h0) (h : ¬ (0 ≤ x.toInt ∧ x.toInt ≤ (gn (pt h0 77 0 (nJ 0)) 84 3 : Int) - 1) ∨ ¬ (0 < (gi (pt h0 77 0 (nJ 0)) 83 0).toInt ∧ 1 ≤ y.toInt ∧ y.toInt ≤ (gn (pt h0 77 0 (nJ 0)) 84 0 : Int))) : gi (pt h0 77 0 (nJ 0)) 84 5 = nJ (wna (bif decide (0 < (gi h0 83 0).toInt) then okW (gn h0 84 3) (gn h0 84 0) x y else false) (gn h0 84 5)) := by
  have e1 : gn (pt h0 77 0 (nJ 0)) 84 3 = gn h0 84 3 := gn_ne (by omega)
  have e2 : gn (pt h0 77 0 (nJ 0)) 84 0 = gn h0 84 0 := gn_ne (by omega)
  have e3 : gi (pt h0 77 0 (nJ 0)) 83 0 = gi h0 83 0 := gi_ne (by omega)
  rw [e1, e2, e3] at h
  rw [wn_no (bif_no (fun q => ?_)), pg5 hh0]
  have q1 := of_decide_eq_true q.1
  have q2 : (0 ≤ x.toInt ∧ x.toInt < (gn h0 84 3 : Int)) ∧ 1 ≤ y.toInt ∧ y.toInt ≤ (gn h0 84 0 : Int) := of_decide_eq_true q.2
  omega
end WT9
end
