section
/-! wants and trades of the class; undo, anew, rate, wants, trades of the reference: the numbers that are counted (wants t56) -/
noncomputable def AAF : List Rng := [(15, 6, 6), (17, 0, 7), (21, 0, 19), (22, 0, 19), (23, 0, 19)]
noncomputable def wna (ok : Bool) (a : Nat) : Nat := bif ok then (if a < 20 then a + 1 else a) else a
section WN8
variable {h : pm_H} {d : Nat} {x y : Int32}
theorem sp_addAct {c z t a : Nat} (hh : HH h) (c7 : c ≤ 7) (z8 : z ≤ 8) (t1 : t ≤ 1) (hz : t ≠ 0 → z ≤ 7) (g6 : gi h 15 6 = nJ a) (a20 : a < 20) : Sp (d + 2) 47 h [.ref 15, .int (nJ c), .int (nJ z), .int (nJ t)] (fun h' r => r = none ∧ HH h' ∧ fr_g AAF h h' ∧ gi h' 15 6 = nJ (a + 1)) := by
  refine Sp_of aiX5_addAct rfl rfl rfl ?_
  have L0 : pm_get (lv_args 0 [.ref 15, .int (nJ c), .int (nJ z), .int (nJ t)]) 0 = some (.ref 15) := rfl
  have L1 : pm_get (lv_args 0 [.ref 15, .int (nJ c), .int (nJ z), .int (nJ t)]) 1 = some (.int (nJ c)) := rfl
  have L2 : pm_get (lv_args 0 [.ref 15, .int (nJ c), .int (nJ z), .int (nJ t)]) 2 = some (.int (nJ z)) := rfl
  have L3 : pm_get (lv_args 0 [.ref 15, .int (nJ c), .int (nJ z), .int (nJ t)]) 3 = some (.int (nJ t)) := rfl
  generalize lv_args 0 [.ref 15, .int (nJ c), .int (nJ z), .int (nJ t)] = lv at L0 L1 L2 L3 ⊢
  have tt := nJ_toInt (n := t) (by first | decide | with_reducible assumption | omega)
  refine E_al rfl L0 ?_
  refine E_ogf (q := (0, 20)) rfl hh rfl rfl g6 ?_
  refine E_ci 20 rfl ci20 ?_
  refine E_icF rfl (decide_eq_false (fun q => absurd ((nJ_le (by first | decide | with_reducible assumption | omega) (by first | decide | with_reducible assumption | omega)).mp q) (by first | decide | with_reducible assumption | omega))) ?_
  have b1 : bd 21 a = some (0, 7) := bd_u rfl a20
  have b2 : bd 22 a = some (0, 8) := bd_u rfl a20
  have b3 : bd 23 a = some (0, 1) := bd_u rfl a20
  have h1 : HH (pt h 21 a (nJ c)) := HH_ptn hh b1 (by first | decide | with_reducible assumption | omega) (by first | decide | with_reducible assumption | omega) (by first | decide | with_reducible assumption | omega)
  have h2 : HH (pt (pt h 21 a (nJ c)) 22 a (nJ z)) := HH_ptn h1 b2 (by first | decide | with_reducible assumption | omega) (by first | decide | with_reducible assumption | omega) (by first | decide | with_reducible assumption | omega)
  have h3 : HH (pt (pt (pt h 21 a (nJ c)) 22 a (nJ z)) 23 a (nJ t)) := HH_ptn h2 b3 (by first | decide | with_reducible assumption | omega) (by first | decide | with_reducible assumption | omega) (by first | decide | with_reducible assumption | omega)
  refine E_al rfl L0 ?_
  refine E_ogr (q := 21) rfl hh rfl rfl ?_
  refine E_al rfl L0 ?_
  refine E_ogf (q := (0, 20)) rfl hh rfl rfl g6 ?_
  refine E_il rfl L1 ?_
  refine E_ias rfl hh rfl a20 (by decide) ?_
  refine E_al rfl L0 ?_
  refine E_ogr (q := 22) rfl h1 rfl rfl ?_
  refine E_al rfl L0 ?_
  refine E_ogf (q := (0, 20)) (v := nJ a) rfl h1 rfl rfl (by rw [gi_ne (by first | exact gxx rfl | omega)]; exact g6) ?_
  refine E_il rfl L2 ?_
  refine E_ias rfl h1 rfl a20 (by decide) ?_
  refine E_al rfl L0 ?_
  refine E_ogr (q := 23) rfl h2 rfl rfl ?_
  refine E_al rfl L0 ?_
  refine E_ogf (q := (0, 20)) (v := nJ a) rfl h2 rfl rfl (by rw [gi_ne (by first | exact gxx rfl | omega), gi_ne (by first | exact gxx rfl | omega)]; exact g6) ?_
  refine E_il rfl L3 ?_
  refine E_zasB rfl h2 rfl a20 (by decide) (nar_z (by first | decide | with_reducible assumption | omega) (by first | decide | with_reducible assumption | omega)) ?_
  have g3 : gi (pt (pt (pt h 21 a (nJ c)) 22 a (nJ z)) 23 a (nJ t)) 15 6 = nJ a := by rw [gi_ne (by first | exact gxx rfl | omega), gi_ne (by first | exact gxx rfl | omega), gi_ne (by first | exact gxx rfl | omega)]; exact g6
  have q3 : gi (pt (pt (pt h 21 a (nJ c)) 22 a (nJ z)) 23 a (nJ t)) 23 a = nJ t := gi_ptn h2 b3 (by first | decide | with_reducible assumption | omega) (by first | decide | with_reducible assumption | omega) (by first | decide | with_reducible assumption | omega)
  have q2 : gn (pt (pt (pt h 21 a (nJ c)) 22 a (nJ z)) 23 a (nJ t)) 22 a = z := by rw [gn_ne (by first | exact gxx rfl | omega)]; exact gn_ptn h1 b2 (by first | decide | with_reducible assumption | omega) (by first | decide | with_reducible assumption | omega) (by first | decide | with_reducible assumption | omega)
  have F3 : fr_g AAF h (pt (pt (pt h 21 a (nJ c)) 22 a (nJ z)) 23 a (nJ t)) := fr_ptr (l := 0) (u := 19) rfl (by first | decide | with_reducible assumption | omega) (by first | decide | with_reducible assumption | omega) (fr_ptr (l := 0) (u := 19) rfl (by first | decide | with_reducible assumption | omega) (by first | decide | with_reducible assumption | omega) (fr_ptr (l := 0) (u := 19) rfl (by first | decide | with_reducible assumption | omega) (by first | decide | with_reducible assumption | omega) (fr_rf _ _)))
  generalize pt (pt (pt h 21 a (nJ c)) 22 a (nJ z)) 23 a (nJ t) = g at h3 g3 q3 q2 F3 ⊢
  refine E_al rfl L0 ?_
  refine E_al rfl L0 ?_
  refine E_ogf (q := (0, 20)) rfl h3 rfl rfl g3 ?_
  refine E_call rfl (sp_doAct (d := d) h3 a20 (fun q => by rw [q2]; exact hz (fun e => q (by rw [q3, e]; rfl)))) (chkO (a := 15) h3 rfl rfl rfl rfl (by show 0 ≤ 8; decide)) (fun h5 r5 => ?_)
  rintro ⟨e5, hh5, f5⟩
  rw [e5]
  refine E_al rfl L0 ?_
  refine E_dup rfl rfl ?_
  refine E_ogf (q := (0, 20)) (v := nJ a) rfl hh5 rfl rfl (by rw [fr_gi f5 (rg_no rfl _)]; exact g3) ?_
  refine E_ci 1 rfl ci1 ?_
  refine E_bin rfl (nJ_add _ _) ?_
  refine E_opf (q := (0, 20)) rfl hh5 rfl rfl ?_
  exact E_ret rfl ⟨rfl, HH_ptn hh5 rfl (by first | decide | with_reducible assumption | omega) (by first | decide | with_reducible assumption | omega) (by first | decide | with_reducible assumption | omega), fr_ptr (l := 6) (u := 6) rfl (by first | decide | with_reducible assumption | omega) (by first | decide | with_reducible assumption | omega) (fr_trans F3 (fr_wk rfl f5)), gi_ptn hh5 rfl (by first | decide | with_reducible assumption | omega) (by first | decide | with_reducible assumption | omega) (by first | decide | with_reducible assumption | omega)⟩
theorem sp_actLost {c z t : Nat} (hh : HH h) (c7 : c ≤ 7) (z8 : z ≤ 8) (t1 : t ≤ 1) (hz : t ≠ 0 → z ≤ 7) : Sp (d + 6) 78 h [.ref 0, .int (nJ c), .int (nJ z), .int (nJ t)] (fun h' r => (∃ v : Int32, r = some (.int v)) ∧ gi h' 15 6 = nJ (wna true (gn h 15 6))) := by
  obtain ⟨a1, a2, a3, a4, a5, a6⟩ := g15 hh
  refine Sp_of aiX8_actAndCountLost rfl rfl rfl ?_
  have L0 : pm_get (lv_args 0 [.ref 0, .int (nJ c), .int (nJ z), .int (nJ t)]) 0 = some (.ref 0) := rfl
  have L1 : pm_get (lv_args 0 [.ref 0, .int (nJ c), .int (nJ z), .int (nJ t)]) 1 = some (.int (nJ c)) := rfl
  have L2 : pm_get (lv_args 0 [.ref 0, .int (nJ c), .int (nJ z), .int (nJ t)]) 2 = some (.int (nJ z)) := rfl
  have L3 : pm_get (lv_args 0 [.ref 0, .int (nJ c), .int (nJ z), .int (nJ t)]) 3 = some (.int (nJ t)) := rfl
  generalize lv_args 0 [.ref 0, .int (nJ c), .int (nJ z), .int (nJ t)] = lv at L0 L1 L2 L3 ⊢
  unfold wna
  dsimp only [cond_true]
  refine E_al rfl L0 ?_
  refine E_ogr (q := 15) rfl hh rfl rfl ?_
  refine E_ogf (q := (0, 20)) rfl hh rfl rfl a5 ?_
  refine E_ci 20 rfl ci20 ?_
  by_cases b : gn h 15 6 < 20
  · refine E_icT rfl (decide_eq_true ((nJ_lt (by first | decide | with_reducible assumption | omega) (by first | decide | with_reducible assumption | omega)).mpr b)) ?_
    rw [if_pos b]
    refine E_al rfl L0 ?_
    refine E_ogr (q := 15) rfl hh rfl rfl ?_
    refine E_il rfl L1 ?_
    refine E_il rfl L2 ?_
    refine E_il rfl L3 ?_
    refine E_call rfl (Sp_le (by first | exact Nat.add_le_add_left (Nat.le_of_ble_eq_true rfl) _ | exact Nat.le_of_ble_eq_true rfl | omega) (sp_addAct (d := d) hh c7 z8 t1 hz a5 b)) (chkO (a := 15) hh rfl rfl rfl rfl (by show 0 ≤ 8; decide)) (fun h1 r1 => ?_)
    rintro ⟨e1, hh1, f1, g1⟩
    rw [e1]
    refine E_al rfl L0 ?_
    refine E_call rfl (Sp_le (by first | exact Nat.add_le_add_left (Nat.le_of_ble_eq_true rfl) _ | exact Nat.le_of_ble_eq_true rfl | omega) (Sp_sum (as := [.ref 0]) q137 hh1 ⟨rfl, trivial⟩ (fun _ hq => absurd hq List.not_mem_nil) (fun _ hq => absurd hq List.not_mem_nil))) (chkO (a := 0) hh1 rfl rfl rfl rfl (by show 0 ≤ 8; decide)) (fun h2 r2 => ?_)
    rintro ⟨hh2, f2, C2, hC2, -, -, -, rv2⟩
    have e2 : r2 = none := by have e := List.mem_singleton.mp hC2; subst e; cases r2 with | none => rfl | some v => exact rv2.elim
    rw [e2]
    refine E_al rfl L0 ?_
    refine E_ogr (q := 62) rfl hh2 rfl rfl ?_
    refine E_ogf (q := (0, 255)) rfl hh2 rfl rfl rfl ?_
    have bm := (ld_gi hh2 (a := 62) (k := 2) (q := (0, 255)) rfl).2
    refine E_call rfl (Sp_le (by first | exact Nat.add_le_add_left (Nat.le_of_ble_eq_true rfl) _ | exact Nat.le_of_ble_eq_true rfl | omega) (Sp_sum (as := [.int (gi h2 62 2)]) q607 hh2 ⟨bm, trivial⟩ (fun _ hq => absurd hq List.not_mem_nil) (fun _ hq => absurd hq List.not_mem_nil))) (chkS rfl (by show 0 ≤ 8; decide)) (fun h3 r3 => ?_)
    rintro ⟨hh3, f3, C3, hC3, -, -, -, rv3⟩
    have hC3 : C3 ∈ [([cI 0 255], [], [], some (.inl (cI 2 8))), ([cI 0 255], [], [], some (.inl (cI 1 1))), ([cI 0 255], [], [], some (.inl (cI 0 0)))] := hC3
    obtain ⟨v3, e3⟩ : ∃ x : Int32, r3 = some (.int x) := by
      rcases List.mem_cons.mp hC3 with e | e
      · subst e; exact rv_ci rv3
      · rcases List.mem_cons.mp e with e | e
        · subst e; exact rv_ci rv3
        · have e := List.mem_singleton.mp e; subst e; exact rv_ci rv3
    rw [e3]
    exact E_rti rfl ⟨⟨_, rfl⟩, by rw [fr_gi f3 rfl, fr_gi f2 rfl]; exact g1⟩
  · refine E_icF rfl (decide_eq_false (fun q => b ((nJ_lt (by first | decide | with_reducible assumption | omega) (by first | decide | with_reducible assumption | omega)).mp q))) ?_
    rw [if_neg b]
    refine E_c rfl ?_
    exact E_rti rfl ⟨⟨_, rfl⟩, a5⟩
noncomputable def okW (c p : Nat) (x y : Int32) : Bool := decide ((0 ≤ x.toInt ∧ x.toInt < (c : Int)) ∧ 1 ≤ y.toInt ∧ y.toInt ≤ (p : Int))
noncomputable def okT (c : Nat) (x y : Int32) : Bool := decide ((0 ≤ x.toInt ∧ x.toInt < (c : Int)) ∧ (0 ≤ y.toInt ∧ y.toInt < (c : Int)) ∧ ¬ x = y)
theorem sp_wants8 (hh : HH h) : Sp (d + 7) 198 h [.ref 0, .int x, .int y] (fun h' r => (∃ v : Int32, r = some (.int v)) ∧ gi h' 15 6 = nJ (wna (okW (gn h 15 4) (gn h 15 0) x y) (gn h 15 6))) := by
  obtain ⟨a1, a2, a3, a4, a5, a6⟩ := g15 hh
  refine Sp_of aiX8_wants rfl rfl rfl ?_
  have L0 : pm_get (lv_args 0 [.ref 0, .int x, .int y]) 0 = some (.ref 0) := rfl
  have L1 : pm_get (lv_args 0 [.ref 0, .int x, .int y]) 1 = some (.int x) := rfl
  have L2 : pm_get (lv_args 0 [.ref 0, .int x, .int y]) 2 = some (.int y) := rfl
  generalize lv_args 0 [.ref 0, .int x, .int y] = lv at L0 L1 L2 ⊢
  have no : ¬ ((0 ≤ x.toInt ∧ x.toInt < (gn h 15 4 : Int)) ∧ 1 ≤ y.toInt ∧ y.toInt ≤ (gn h 15 0 : Int)) → Ends (pm_at tX8_wants) (pm_Rt pm_P (d + 6)) (16, lv, [], h, 0, 0) (fun h' r => (∃ v : Int32, r = some (.int v)) ∧ gi h' 15 6 = nJ (wna (okW (gn h 15 4) (gn h 15 0) x y) (gn h 15 6))) := by
    intro q
    refine E_c rfl ?_
    exact E_rti rfl ⟨⟨_, rfl⟩, by unfold okW; rw [decide_eq_false q]; exact a5⟩
  refine E_al rfl L0 ?_
  refine E_il rfl L1 ?_
  refine E_call rfl (Sp_le (by first | exact Nat.add_le_add_left (Nat.le_of_ble_eq_true rfl) _ | exact Nat.le_of_ble_eq_true rfl | omega) (sp_hasCar8 (d := d) hh)) (chkO (a := 0) hh rfl rfl rfl rfl (by show 0 ≤ 8; decide)) (fun h1 r1 => ?_)
  rintro ⟨e1, f1⟩
  rw [e1, f1]
  by_cases b1 : 0 ≤ x.toInt ∧ x.toInt < (gn h 15 4 : Int)
  · refine E_ifF rfl (by rw [zb_T b1]; rfl) ?_
    refine E_al rfl L0 ?_
    refine E_il rfl L2 ?_
    refine E_call rfl (Sp_le (by first | exact Nat.add_le_add_left (Nat.le_of_ble_eq_true rfl) _ | exact Nat.le_of_ble_eq_true rfl | omega) (sp_hasPlace8 (d := d) hh)) (chkO (a := 0) hh rfl rfl rfl rfl (by show 0 ≤ 8; decide)) (fun h2 r2 => ?_)
    rintro ⟨e2, f2⟩
    rw [e2, f2]
    by_cases b2 : 1 ≤ y.toInt ∧ y.toInt ≤ (gn h 15 0 : Int)
    · refine E_ifT rfl (by rw [zb_T b2]; rfl) ?_
      have ok : okW (gn h 15 4) (gn h 15 0) x y = true := decide_eq_true ⟨b1, b2⟩
      rw [ok]
      obtain ⟨c, hc, rfl⟩ : ∃ c, c ≤ 7 ∧ x = nJ c := ⟨x.toInt.toNat, by omega, nJ_of b1.1⟩
      obtain ⟨z, hz, rfl⟩ : ∃ c, c ≤ 8 ∧ y = nJ c := ⟨y.toInt.toNat, by omega, nJ_of (by first | decide | with_reducible assumption | omega)⟩
      refine E_al rfl L0 ?_
      refine E_il rfl L1 ?_
      refine E_il rfl L2 ?_
      refine E_ci 0 rfl ci0 ?_
      refine E_call rfl (sp_actLost (d := d) (t := 0) hh hc hz (by first | decide | with_reducible assumption | omega) (fun q => absurd rfl q)) (chkO (a := 0) hh rfl rfl rfl rfl (by show 0 ≤ 8; decide)) (fun h3 r3 => ?_)
      rintro ⟨⟨v, e3⟩, g3⟩
      rw [e3]
      exact E_rti rfl ⟨⟨_, rfl⟩, g3⟩
    · refine E_ifF rfl (by rw [zb_F b2]; rfl) ?_
      exact no (fun q => b2 q.2)
  · refine E_ifT rfl (by rw [zb_F b1]; rfl) ?_
    exact no (fun q => b1 q.1)
theorem sp_trades8 (hh : HH h) : Sp (d + 7) 191 h [.ref 0, .int x, .int y] (fun h' r => (∃ v : Int32, r = some (.int v)) ∧ gi h' 15 6 = nJ (wna (okT (gn h 15 4) x y) (gn h 15 6))) := by
  obtain ⟨a1, a2, a3, a4, a5, a6⟩ := g15 hh
  refine Sp_of aiX8_trades rfl rfl rfl ?_
  have L0 : pm_get (lv_args 0 [.ref 0, .int x, .int y]) 0 = some (.ref 0) := rfl
  have L1 : pm_get (lv_args 0 [.ref 0, .int x, .int y]) 1 = some (.int x) := rfl
  have L2 : pm_get (lv_args 0 [.ref 0, .int x, .int y]) 2 = some (.int y) := rfl
  generalize lv_args 0 [.ref 0, .int x, .int y] = lv at L0 L1 L2 ⊢
  refine E_al rfl L0 ?_
  refine E_il rfl L1 ?_
  refine E_il rfl L2 ?_
  refine E_call rfl (Sp_le (by first | exact Nat.add_le_add_left (Nat.le_of_ble_eq_true rfl) _ | exact Nat.le_of_ble_eq_true rfl | omega) (sp_hasPair8 (d := d) hh)) (chkO (a := 0) hh rfl rfl rfl rfl (by show 0 ≤ 8; decide)) (fun h1 r1 => ?_)
  rintro ⟨e1, f1⟩
  rw [e1, f1]
  by_cases b : (0 ≤ x.toInt ∧ x.toInt < (gn h 15 4 : Int)) ∧ (0 ≤ y.toInt ∧ y.toInt < (gn h 15 4 : Int)) ∧ ¬ x = y
  · refine E_ifT rfl (by rw [zb_T b]; rfl) ?_
    have ok : okT (gn h 15 4) x y = true := decide_eq_true b
    rw [ok]
    obtain ⟨b1, b2, -⟩ := b
    obtain ⟨c, hc, rfl⟩ : ∃ c, c ≤ 7 ∧ x = nJ c := ⟨x.toInt.toNat, by omega, nJ_of b1.1⟩
    obtain ⟨z, hz, rfl⟩ : ∃ c, c ≤ 7 ∧ y = nJ c := ⟨y.toInt.toNat, by omega, nJ_of (by first | decide | with_reducible assumption | omega)⟩
    refine E_al rfl L0 ?_
    refine E_il rfl L1 ?_
    refine E_il rfl L2 ?_
    refine E_ci 1 rfl ci1 ?_
    refine E_call rfl (sp_actLost (d := d) (t := 1) hh hc (by first | decide | with_reducible assumption | omega) (by first | decide | with_reducible assumption | omega) (fun _ => hz)) (chkO (a := 0) hh rfl rfl rfl rfl (by show 0 ≤ 8; decide)) (fun h3 r3 => ?_)
    rintro ⟨⟨v, e3⟩, g3⟩
    rw [e3]
    exact E_rti rfl ⟨⟨_, rfl⟩, g3⟩
  · refine E_ifF rfl (by rw [zb_F b]; rfl) ?_
    refine E_c rfl ?_
    exact E_rti rfl ⟨⟨_, rfl⟩, by unfold okT; rw [decide_eq_false b]; exact a5⟩
end WN8
/-! the reference -/
noncomputable def lnp (h : pm_H) : Nat := if 0 < (gi h 83 0).toInt then 1 else 0
section AC9
variable {h : pm_H} {d : Nat} {x y : Int32}
theorem g84 (hh : HH h) : gi h 84 5 = nJ (gn h 84 5) ∧ gn h 84 5 ≤ 20 ∧ gn h 84 3 ≤ 8 ∧ gn h 84 0 ≤ 8 := ⟨gi_gn hh rfl (by decide), gn_hi hh rfl (by decide), gn_hi hh rfl (by decide), gn_hi hh rfl (by decide)⟩
theorem sp_undo9 (hh : HH h) : Sp (d + 2) 366 h [.ref 77] (fun h' r => r = some (.int (udv (lnp h) (gn h 84 5))) ∧ HH h' ∧ fr_g [(77, 0, 0), (84, 5, 5)] h h' ∧ gi h' 84 5 = nJ (uda (lnp h) (gn h 84 5))) := by
  obtain ⟨a5, a6, -⟩ := g84 hh
  refine Sp_of aiX9_undo rfl rfl rfl ?_
  have L0 : pm_get (lv_args 0 [.ref 77]) 0 = some (.ref 77) := rfl
  generalize lv_args 0 [.ref 77] = lv at L0 ⊢
  refine E_al rfl L0 ?_
  refine E_ci 0 rfl ci0 ?_
  refine E_pf rfl hh rfl ?_
  have hg : HH (pt h 77 0 (nJ 0)) := HH_ptn hh rfl (by first | decide | with_reducible assumption | omega) (by first | decide | with_reducible assumption | omega) (by first | decide | with_reducible assumption | omega)
  have F : fr_g [(77, 0, 0), (84, 5, 5)] h (pt h 77 0 (nJ 0)) := fr_ptr (l := 0) (u := 0) rfl (by first | decide | with_reducible assumption | omega) (by first | decide | with_reducible assumption | omega) (fr_rf _ _)
  have g5 : gi (pt h 77 0 (nJ 0)) 84 5 = nJ (gn h 84 5) := by rw [gi_ne (by first | exact gxx rfl | omega)]; exact a5
  have g83 : gi (pt h 77 0 (nJ 0)) 83 0 = gi h 83 0 := gi_ne (by first | exact gxx rfl | omega)
  generalize pt h 77 0 (nJ 0) = g at hg F g5 g83 ⊢
  unfold udv uda lnp
  refine E_al rfl L0 ?_
  refine E_call rfl (sp_isStreet (d := d) hg) (chk77 hg rfl rfl (by show 0 ≤ 8; decide)) (fun h1 r1 => ?_)
  rintro ⟨e1, f1⟩
  rw [e1, f1, g83]
  by_cases b : 0 < (gi h 83 0).toInt
  · refine E_ifT rfl (by rw [zb_T b]; rfl) ?_
    rw [if_pos b, if_neg (show ¬ (1 : Nat) = 0 by decide), if_neg (show ¬ (1 : Nat) = 0 by decide)]
    refine E_al rfl L0 ?_
    refine E_gr rfl hg (q := 84) rfl ?_
    refine E_ci 5 rfl ci5 ?_
    refine E_ial rfl hg rfl (by first | decide | with_reducible assumption | omega) (by decide) g5 ?_
    by_cases b2 : gn h 84 5 = 0
    · refine E_ifF rfl (decide_eq_false (fun q => q ((nJ_eq0 (by first | decide | with_reducible assumption | omega)).mpr b2))) ?_
      refine E_c rfl ?_
      exact E_rti rfl ⟨by rw [if_pos b2], hg, F, by rw [g5, b2]⟩
    refine E_ifT rfl (decide_eq_true (fun q => b2 ((nJ_eq0 (by first | decide | with_reducible assumption | omega)).mp q))) ?_
    rw [if_neg b2]
    refine E_al rfl L0 ?_
    refine E_gr rfl hg (q := 84) rfl ?_
    refine E_ci 5 rfl ci5 ?_
    refine E_dup2 rfl rfl rfl ?_
    refine E_ial rfl hg rfl (by first | decide | with_reducible assumption | omega) (by decide) g5 ?_
    refine E_ci 1 rfl ci1 ?_
    refine E_bin rfl (nJ_sub (by first | decide | with_reducible assumption | omega)) ?_
    refine E_ias rfl hg rfl (by first | decide | with_reducible assumption | omega) (by decide) ?_
    have h2 : HH (pt g 84 5 (nJ (gn h 84 5 - 1))) := HH_ptn hg rfl (by first | decide | with_reducible assumption | omega) (by first | decide | with_reducible assumption | omega) (by first | decide | with_reducible assumption | omega)
    have g2 : gi (pt g 84 5 (nJ (gn h 84 5 - 1))) 84 5 = nJ (gn h 84 5 - 1) := gi_ptn hg rfl (by first | decide | with_reducible assumption | omega) (by first | decide | with_reducible assumption | omega) (by first | decide | with_reducible assumption | omega)
    refine E_al rfl L0 ?_
    refine E_gr rfl h2 (q := 84) rfl ?_
    refine E_ci 5 rfl ci5 ?_
    refine E_ial rfl h2 rfl (by first | decide | with_reducible assumption | omega) (by decide) g2 ?_
    exact E_rti rfl ⟨rfl, h2, fr_ptr (l := 5) (u := 5) rfl (by first | decide | with_reducible assumption | omega) (by first | decide | with_reducible assumption | omega) F, g2⟩
  · refine E_ifF rfl (by rw [zb_F b]; rfl) ?_
    rw [if_neg b, if_pos rfl, if_pos rfl]
    refine E_c rfl ?_
    exact E_rti rfl ⟨rfl, hg, F, g5⟩
theorem sp_anew9 (hh : HH h) : Sp (d + 2) 207 h [.ref 77] (fun h' r => r = some (.int (anv (lnp h) (gn h 84 5))) ∧ HH h' ∧ fr_g [(77, 0, 0), (84, 5, 5)] h h' ∧ gi h' 84 5 = nJ (ana (lnp h) (gn h 84 5))) := by
  obtain ⟨a5, a6, -⟩ := g84 hh
  refine Sp_of aiX9_anew rfl rfl rfl ?_
  have L0 : pm_get (lv_args 0 [.ref 77]) 0 = some (.ref 77) := rfl
  generalize lv_args 0 [.ref 77] = lv at L0 ⊢
  refine E_al rfl L0 ?_
  refine E_ci 0 rfl ci0 ?_
  refine E_pf rfl hh rfl ?_
  have hg : HH (pt h 77 0 (nJ 0)) := HH_ptn hh rfl (by first | decide | with_reducible assumption | omega) (by first | decide | with_reducible assumption | omega) (by first | decide | with_reducible assumption | omega)
  have F : fr_g [(77, 0, 0), (84, 5, 5)] h (pt h 77 0 (nJ 0)) := fr_ptr (l := 0) (u := 0) rfl (by first | decide | with_reducible assumption | omega) (by first | decide | with_reducible assumption | omega) (fr_rf _ _)
  have g5 : gi (pt h 77 0 (nJ 0)) 84 5 = nJ (gn h 84 5) := by rw [gi_ne (by first | exact gxx rfl | omega)]; exact a5
  have g83 : gi (pt h 77 0 (nJ 0)) 83 0 = gi h 83 0 := gi_ne (by first | exact gxx rfl | omega)
  generalize pt h 77 0 (nJ 0) = g at hg F g5 g83 ⊢
  unfold anv ana lnp
  refine E_al rfl L0 ?_
  refine E_call rfl (sp_isStreet (d := d) hg) (chk77 hg rfl rfl (by show 0 ≤ 8; decide)) (fun h1 r1 => ?_)
  rintro ⟨e1, f1⟩
  rw [e1, f1, g83]
  by_cases b : 0 < (gi h 83 0).toInt
  · refine E_ifT rfl (by rw [zb_T b]; rfl) ?_
    rw [if_pos b, if_neg (show ¬ (1 : Nat) = 0 by decide), if_neg (show ¬ (1 : Nat) = 0 by decide)]
    refine E_al rfl L0 ?_
    refine E_gr rfl hg (q := 84) rfl ?_
    refine E_ci 5 rfl ci5 ?_
    refine E_ial rfl hg rfl (by first | decide | with_reducible assumption | omega) (by decide) g5 ?_
    refine E_is rfl (fun lv1 K1 kp => ?_)
    refine E_al rfl (kp 0 _ (nbz rfl) rfl L0) ?_
    refine E_gr rfl hg (q := 84) rfl ?_
    refine E_ci 5 rfl ci5 ?_
    refine E_ci 0 rfl ci0 ?_
    refine E_ias rfl hg rfl (by first | decide | with_reducible assumption | omega) (by decide) ?_
    have h2 : HH (pt g 84 5 (nJ 0)) := HH_ptn hg rfl (by first | decide | with_reducible assumption | omega) (by first | decide | with_reducible assumption | omega) (by first | decide | with_reducible assumption | omega)
    refine E_il rfl K1 ?_
    exact E_rti rfl ⟨rfl, h2, fr_ptr (l := 5) (u := 5) rfl (by first | decide | with_reducible assumption | omega) (by first | decide | with_reducible assumption | omega) F, gi_ptn hg rfl (by first | decide | with_reducible assumption | omega) (by first | decide | with_reducible assumption | omega) (by first | decide | with_reducible assumption | omega)⟩
  · refine E_ifF rfl (by rw [zb_F b]; rfl) ?_
    rw [if_neg b, if_pos rfl, if_pos rfl]
    refine E_c rfl ?_
    exact E_rti rfl ⟨rfl, hg, F, g5⟩
theorem sp_rate9 (hh : HH h) : Sp (d + 3) 329 h [.ref 77, .int x, .int y] (fun h' r => r = some (.int (rtv (gn h 84 3) (gn h 84 5) (fun i => gi h 85 (2 * i + 1)) x y)) ∧ HH h' ∧ fr_g [(77, 0, 0), (85, 1, 15)] h h' ∧ ∀ i, i < 8 → gi h' 85 (2 * i + 1) = rts (gn h 84 3) (gn h 84 5) (fun i => gi h 85 (2 * i + 1)) x y i) := by
  obtain ⟨a5, a6, a3, -⟩ := g84 hh
  refine Sp_of aiX9_rate rfl rfl rfl ?_
  have L0 : pm_get (lv_args 0 [.ref 77, .int x, .int y]) 0 = some (.ref 77) := rfl
  have L1 : pm_get (lv_args 0 [.ref 77, .int x, .int y]) 1 = some (.int x) := rfl
  have L2 : pm_get (lv_args 0 [.ref 77, .int x, .int y]) 2 = some (.int y) := rfl
  generalize lv_args 0 [.ref 77, .int x, .int y] = lv at L0 L1 L2 ⊢
  refine E_al rfl L0 ?_
  refine E_ci 0 rfl ci0 ?_
  refine E_pf rfl hh rfl ?_
  have hg : HH (pt h 77 0 (nJ 0)) := HH_ptn hh rfl (by first | decide | with_reducible assumption | omega) (by first | decide | with_reducible assumption | omega) (by first | decide | with_reducible assumption | omega)
  have F : fr_g [(77, 0, 0), (85, 1, 15)] h (pt h 77 0 (nJ 0)) := fr_ptr (l := 0) (u := 0) rfl (by first | decide | with_reducible assumption | omega) (by first | decide | with_reducible assumption | omega) (fr_rf _ _)
  have g5 : gi (pt h 77 0 (nJ 0)) 84 5 = nJ (gn h 84 5) := by rw [gi_ne (by first | exact gxx rfl | omega)]; exact a5
  have g3 : gn (pt h 77 0 (nJ 0)) 84 3 = gn h 84 3 := gn_ne (by first | exact gxx rfl | omega)
  have g85 : ∀ k, gi (pt h 77 0 (nJ 0)) 85 k = gi h 85 k := fun k => gi_ne (by first | exact gxx rfl | omega)
  generalize pt h 77 0 (nJ 0) = g at hg F g5 g3 g85 ⊢
  have no : ¬ ((0 ≤ x.toInt ∧ x.toInt < (gn h 84 3 : Int)) ∧ 0 ≤ y.toInt ∧ y.toInt ≤ 99) → Ends (pm_at tX9_rate) (pm_Rt pm_P (d + 2)) (26, lv, [], g, 0, 0) (fun h' r => r = some (.int (rtv (gn h 84 3) (gn h 84 5) (fun i => gi h 85 (2 * i + 1)) x y)) ∧ HH h' ∧ fr_g [(77, 0, 0), (85, 1, 15)] h h' ∧ ∀ i, i < 8 → gi h' 85 (2 * i + 1) = rts (gn h 84 3) (gn h 84 5) (fun i => gi h 85 (2 * i + 1)) x y i) := by
    intro q
    refine E_c rfl ?_
    exact E_rti rfl ⟨by unfold rtv; rw [if_neg q], hg, F, fun i _ => by unfold rts; rw [if_neg (fun z => q z.1)]; exact g85 _⟩
  refine E_al rfl L0 ?_
  refine E_il rfl L1 ?_
  refine E_i2l rfl ?_
  refine E_call rfl (sp_isCar (d := d) hg) (chk77 hg rfl rfl (by show 0 ≤ 8; decide)) (fun h1 r1 => ?_)
  rintro ⟨e1, f1⟩
  rw [e1, f1, g3]
  by_cases b1 : 0 ≤ x.toInt ∧ x.toInt ≤ (gn h 84 3 : Int) - 1
  · refine E_ifF rfl (by rw [zb_T b1]; rfl) ?_
    refine E_il rfl L2 ?_
    refine E_i2l rfl ?_
    refine E_c rfl ?_
    refine E_c rfl ?_
    refine E_call rfl (sp_in (a := y.toInt) (b := 0) (c := 99) (i2l_toInt _) rfl rfl) (chkS rfl (by show 0 ≤ 8; decide)) (fun h2 r2 => ?_)
    rintro ⟨e2, f2⟩
    rw [e2, f2]
    by_cases b2 : 0 ≤ y.toInt ∧ y.toInt ≤ 99
    · refine E_ifT rfl (by rw [zb_T b2]; rfl) ?_
      obtain ⟨c, hc, rfl⟩ : ∃ c, c < 8 ∧ x = nJ c := ⟨x.toInt.toNat, by omega, nJ_of b1.1⟩
      have xc := nJ_toInt (n := c) (by first | decide | with_reducible assumption | omega)
      have ec : (nJ c).toInt.toNat = c := by omega
      have ok : (0 ≤ (nJ c).toInt ∧ (nJ c).toInt < (gn h 84 3 : Int)) ∧ 0 ≤ y.toInt ∧ y.toInt ≤ 99 := ⟨by omega, b2⟩
      refine E_al rfl L0 ?_
      refine E_gr rfl hg (q := 84) rfl ?_
      refine E_ci 5 rfl ci5 ?_
      refine E_ial rfl hg rfl (by first | decide | with_reducible assumption | omega) (by decide) g5 ?_
      by_cases b4 : gn h 84 5 = 0
      · refine E_ifT rfl (decide_eq_true ((nJ_le0 (by first | decide | with_reducible assumption | omega)).mpr b4)) ?_
        refine E_al rfl L0 ?_
        refine E_gr rfl hg (q := 85) rfl ?_
        refine E_ci 2 rfl ci2 ?_
        refine E_il rfl L1 ?_
        refine E_bin rfl (nJ_mul _ _) ?_
        refine E_ci 1 rfl ci1 ?_
        refine E_bin rfl (nJ_add _ _) ?_
        refine E_ial rfl hg rfl (by first | decide | with_reducible assumption | omega) (by decide) (g85 (2 * c + 1)) ?_
        refine E_is rfl (fun lv1 K3 kp => ?_)
        refine E_al rfl (kp 0 _ (nbz rfl) rfl L0) ?_
        refine E_gr rfl hg (q := 85) rfl ?_
        refine E_ci 2 rfl ci2 ?_
        refine E_il rfl (kp 1 _ (nbz rfl) rfl L1) ?_
        refine E_bin rfl (nJ_mul _ _) ?_
        refine E_ci 1 rfl ci1 ?_
        refine E_bin rfl (nJ_add _ _) ?_
        refine E_il rfl (kp 2 _ (nbz rfl) rfl L2) ?_
        refine E_ias rfl hg rfl (by first | decide | with_reducible assumption | omega) (by decide) ?_
        refine E_il rfl K3 ?_
        have b85 : bd 85 (2 * c + 1) = some (0, 99) := bd_85o (by first | decide | with_reducible assumption | omega) (by first | decide | with_reducible assumption | omega)
        refine E_rti rfl ⟨by unfold rtv; rw [if_pos ok, if_pos b4, ec], HH_pt hg b85 (by show (0 : Int) ≤ _; omega) (by show _ ≤ (99 : Int); omega), fr_ptr (l := 1) (u := 15) rfl (by first | decide | with_reducible assumption | omega) (by first | decide | with_reducible assumption | omega) F, fun i hi => ?_⟩
        unfold rts
        rw [ec]
        by_cases e : i = c
        · rw [if_pos ⟨ok, b4, e⟩, e]
          exact gi_pt hg b85 (by show (0 : Int) ≤ _; omega) (by show _ ≤ (99 : Int); omega)
        · rw [if_neg (fun z => e z.2.2), gi_ne (by first | exact gxx rfl | omega)]
          exact g85 _
      · refine E_ifF rfl (decide_eq_false (fun z => b4 ((nJ_le0 (by first | decide | with_reducible assumption | omega)).mp z))) ?_
        refine E_c rfl ?_
        exact E_rti rfl ⟨by unfold rtv; rw [if_pos ok, if_neg b4], hg, F, fun i _ => by unfold rts; rw [if_neg (fun z => b4 z.2.1)]; exact g85 _⟩
    · refine E_ifF rfl (by rw [zb_F b2]; rfl) ?_
      exact no (fun q => b2 q.2)
  · refine E_ifT rfl (by rw [zb_F b1]; rfl) ?_
    exact no (fun q => b1 (by first | decide | with_reducible assumption | omega))
end AC9
end
section
/-! acts of the class, exactly (written by gen_u56.py; wants t56, t57, u55) -/
section AX8
variable {h : pm_H} {d : Nat} {x y : Int32}
theorem sp_doActX {i : Nat} (hh : HH h) (hi : i < 20) (hx : ¬ gi h 23 i = 0 → gn h 22 i ≤ 7) : Sp (d + 1) 51 h [.ref 15, .int (nJ i)] (fun h' r => r = none ∧ HH h' ∧ fr_g [(17, 0, 7)] h h' ∧ gn h' 17 = dAct (gn h 21) (gn h 22) (gn h 23) i (gn h 17)) := by
  have z3 := gn_eq0 hh (a := 23) (k := i) (bd_u rfl hi) (by decide)
  have c1 : gi h 21 i = nJ (gn h 21 i) := gi_gn hh (bd_u rfl hi) (by decide)
  have c2 : gn h 21 i ≤ 7 := gn_hi hh (bd_u rfl hi) (by decide)
  have x1 : gi h 22 i = nJ (gn h 22 i) := gi_gn hh (bd_u rfl hi) (by decide)
  have x2 : gn h 22 i ≤ 8 := gn_hi hh (bd_u rfl hi) (by decide)
  refine Sp_of aiX5_doAct rfl rfl rfl ?_
  have L0 : pm_get (lv_args 0 [.ref 15, .int (nJ i)]) 0 = some (.ref 15) := rfl
  have L1 : pm_get (lv_args 0 [.ref 15, .int (nJ i)]) 1 = some (.int (nJ i)) := rfl
  generalize lv_args 0 [.ref 15, .int (nJ i)] = lv at L0 L1 ⊢
  refine E_al rfl L0 ?_
  refine E_ogr (q := 21) rfl hh rfl rfl ?_
  refine E_il rfl L1 ?_
  refine E_ial rfl hh rfl hi (by decide) c1 ?_
  refine E_is rfl (fun lv1 K2 kp1 => ?_)
  refine E_al rfl (kp1 0 _ (nbz rfl) rfl L0) ?_
  refine E_ogr (q := 22) rfl hh rfl rfl ?_
  refine E_il rfl (kp1 1 _ (nbz rfl) rfl L1) ?_
  refine E_ial rfl hh rfl hi (by decide) x1 ?_
  refine E_is rfl (fun lv2 K3 kp2 => ?_)
  have M0 := kp2 0 _ (nbz rfl) rfl (kp1 0 _ (nbz rfl) rfl L0)
  have M1 := kp2 1 _ (nbz rfl) rfl (kp1 1 _ (nbz rfl) rfl L1)
  have M2 := kp2 2 _ (nbz rfl) rfl K2
  refine E_al rfl M0 ?_
  refine E_ogr (q := 23) rfl hh rfl rfl ?_
  refine E_il rfl M1 ?_
  refine E_zalB rfl hh rfl hi (by decide) rfl ?_
  have b17 : ∀ k, k ≤ 7 → bd 17 k = some (0, 8) := fun k hk => bd_u rfl (by first | decide | with_reducible assumption | omega)
  by_cases b : gi h 23 i = 0
  · refine E_ifT rfl (decide_eq_true b) ?_
    refine E_al rfl M0 ?_
    refine E_ogr (q := 17) rfl hh rfl rfl ?_
    refine E_il rfl M2 ?_
    refine E_il rfl K3 ?_
    refine E_ias rfl hh rfl (by first | decide | with_reducible assumption | omega) (by decide) ?_
    exact E_ret rfl ⟨rfl, HH_ptn hh (b17 _ c2) (by first | decide | with_reducible assumption | omega) (by first | decide | with_reducible assumption | omega) (by first | decide | with_reducible assumption | omega), fr_ptr (l := 0) (u := 7) rfl (by first | decide | with_reducible assumption | omega) (by first | decide | with_reducible assumption | omega) (fr_rf _ _), by unfold dAct; rw [if_pos (z3.mp b), gn_fup hh (b17 _ c2) (by first | decide | with_reducible assumption | omega) (by first | decide | with_reducible assumption | omega) (by first | decide | with_reducible assumption | omega)]⟩
  · have x7 := hx b
    refine E_ifF rfl (decide_eq_false b) ?_
    have n1 : gi h 17 (gn h 21 i) = nJ (gn h 17 (gn h 21 i)) := gi_gn hh (b17 _ c2) (by decide)
    have n2 : gn h 17 (gn h 21 i) ≤ 8 := gn_hi hh (b17 _ c2) (by decide)
    have n3 : gi h 17 (gn h 22 i) = nJ (gn h 17 (gn h 22 i)) := gi_gn hh (b17 _ x7) (by decide)
    have n4 : gn h 17 (gn h 22 i) ≤ 8 := gn_hi hh (b17 _ x7) (by decide)
    refine E_al rfl M0 ?_
    refine E_ogr (q := 17) rfl hh rfl rfl ?_
    refine E_il rfl M2 ?_
    refine E_ial rfl hh rfl (by first | decide | with_reducible assumption | omega) (by decide) n1 ?_
    refine E_is rfl (fun lv3 K4 kp3 => ?_)
    have N0 := kp3 0 _ (nbz rfl) rfl M0
    have N2 := kp3 2 _ (nbz rfl) rfl M2
    have N3 := kp3 3 _ (nbz rfl) rfl K3
    refine E_al rfl N0 ?_
    refine E_ogr (q := 17) rfl hh rfl rfl ?_
    refine E_il rfl N2 ?_
    refine E_al rfl N0 ?_
    refine E_ogr (q := 17) rfl hh rfl rfl ?_
    refine E_il rfl N3 ?_
    refine E_ial rfl hh rfl (by first | decide | with_reducible assumption | omega) (by decide) n3 ?_
    refine E_ias rfl hh rfl (by first | decide | with_reducible assumption | omega) (by decide) ?_
    have h1 : HH (pt h 17 (gn h 21 i) (nJ (gn h 17 (gn h 22 i)))) := HH_ptn hh (b17 _ c2) (by first | decide | with_reducible assumption | omega) (by first | decide | with_reducible assumption | omega) (by first | decide | with_reducible assumption | omega)
    refine E_al rfl N0 ?_
    refine E_ogr (q := 17) rfl h1 rfl rfl ?_
    refine E_il rfl N3 ?_
    refine E_il rfl K4 ?_
    refine E_ias rfl h1 rfl (by first | decide | with_reducible assumption | omega) (by decide) ?_
    refine E_goto rfl ?_
    exact E_ret rfl ⟨rfl, HH_ptn h1 (b17 _ x7) (by first | decide | with_reducible assumption | omega) (by first | decide | with_reducible assumption | omega) (by first | decide | with_reducible assumption | omega), fr_ptr (l := 0) (u := 7) rfl (by first | decide | with_reducible assumption | omega) (by first | decide | with_reducible assumption | omega) (fr_ptr (l := 0) (u := 7) rfl (by first | decide | with_reducible assumption | omega) (by first | decide | with_reducible assumption | omega) (fr_rf _ _)), by unfold dAct; rw [if_neg (fun q => b (z3.mpr q)), gn_fup h1 (b17 _ x7) (by first | decide | with_reducible assumption | omega) (by first | decide | with_reducible assumption | omega) (by first | decide | with_reducible assumption | omega), gn_fup hh (b17 _ c2) (by first | decide | with_reducible assumption | omega) (by first | decide | with_reducible assumption | omega) (by first | decide | with_reducible assumption | omega)]⟩
theorem ka_twoX {h0 : pm_H} {a m p : Nat} {C G Z t : Nat → Nat} (m8 : m ≤ 8) (ha : a ≤ 20) (v : ∀ i, i < a → vAct m p C G Z i) (j : Nat) : ∀ {h : pm_H} {i : Nat} (lv : List (Nat × Value)), i + j = a → HH h → fr_g KAF h0 h → gi h 15 6 = nJ a → gn h 21 = C → gn h 22 = G → gn h 23 = Z → (∀ j, j < m → gn h 17 j = nwF C G Z t i j) → pm_get lv 0 = some (.ref 15) → pm_get lv 2 = some (.int (nJ i)) → Ends (pm_at tX5_keepActs) (pm_Rt pm_P (d + 1)) (35, lv, [], h, 0, 0) (fun h' r => r = none ∧ HH h' ∧ fr_g KAF h0 h' ∧ gi h' 15 6 = nJ a ∧ ∀ j, j < m → gn h' 17 j = nwF C G Z t a j) := by
  induction j with
  | zero =>
    intro h i lv hj hh hf g6 gC gG gZ hx L0 L2
    refine E_il rfl L2 ?_
    refine E_al rfl L0 ?_
    refine E_ogf (q := (0, 20)) rfl hh rfl rfl g6 ?_
    refine E_icT rfl (decide_eq_true ((nJ_le (by first | decide | with_reducible assumption | omega) (by first | decide | with_reducible assumption | omega)).mpr (by first | decide | with_reducible assumption | omega))) ?_
    have ei : i = a := by omega
    exact E_ret rfl ⟨rfl, hh, hf, g6, fun j hj => by rw [← ei]; exact hx j hj⟩
  | succ j ih =>
    intro h i lv hj hh hf g6 gC gG gZ hx L0 L2
    refine E_il rfl L2 ?_
    refine E_al rfl L0 ?_
    refine E_ogf (q := (0, 20)) rfl hh rfl rfl g6 ?_
    refine E_icF rfl (decide_eq_false (fun q => absurd ((nJ_le (by first | decide | with_reducible assumption | omega) (by first | decide | with_reducible assumption | omega)).mp q) (by first | decide | with_reducible assumption | omega))) ?_
    refine E_al rfl L0 ?_
    refine E_il rfl L2 ?_
    refine E_call rfl (sp_doActX (d := d) hh (by first | decide | with_reducible assumption | omega) (fun q => by
      have v1 := v i (by first | decide | with_reducible assumption | omega)
      have z3 := gn_eq0 hh (a := 23) (k := i) (bd_u rfl (by first | decide | with_reducible assumption | omega)) (by decide)
      rw [gG]
      rw [gZ] at z3
      rcases v1.2 with ⟨z0, -, -⟩ | ⟨-, g1⟩
      · exact absurd (z3.mpr z0) q
      · omega)) (chkO (a := 15) hh rfl rfl rfl rfl (by show 0 ≤ 8; decide)) (fun h1 r1 => ?_)
    rintro ⟨e1, hh1, f1, n1⟩
    rw [gC, gG, gZ] at n1
    rw [e1]
    refine E_inc rfl L2 (nJ_inc _) (fun lv1 K2 kp => ?_)
    refine E_goto rfl ?_
    exact ih lv1 (i := i + 1) (by first | decide | with_reducible assumption | omega) hh1 (fr_trans hf (fr_wk rfl f1)) (by rw [fr_gi f1 (rg_no rfl _)]; exact g6) (by rw [← gC]; funext k; exact fr_gn f1 (rg_no rfl _)) (by rw [← gG]; funext k; exact fr_gn f1 (rg_no rfl _)) (by rw [← gZ]; funext k; exact fr_gn f1 (rg_no rfl _)) (fun j hj => by rw [n1]; exact dAct_cg rfl rfl rfl (v i (by first | decide | with_reducible assumption | omega)) hx j hj) (kp 0 _ (nbz rfl) rfl L0) K2
theorem ka_oneX {h0 : pm_H} {a m p : Nat} {C G Z t : Nat → Nat} (m8 : m ≤ 8) (ha : a ≤ 20) (v : ∀ i, i < a → vAct m p C G Z i) (j : Nat) : ∀ {h : pm_H} {i : Nat} (lv : List (Nat × Value)), i + j = m → HH h → fr_g KAF h0 h → gi h 15 4 = nJ m → gi h 15 6 = nJ a → gn h 21 = C → gn h 22 = G → gn h 23 = Z → gn h 16 = t → (∀ j, j < i → gn h 17 j = t j) → pm_get lv 0 = some (.ref 15) → pm_get lv 2 = some (.int (nJ i)) → Ends (pm_at tX5_keepActs) (pm_Rt pm_P (d + 1)) (7, lv, [], h, 0, 0) (fun h' r => r = none ∧ HH h' ∧ fr_g KAF h0 h' ∧ gi h' 15 6 = nJ a ∧ ∀ j, j < m → gn h' 17 j = nwF C G Z t a j) := by
  induction j with
  | zero =>
    intro h i lv hj hh hf g4 g6 gC gG gZ gt hx L0 L2
    refine E_il rfl L2 ?_
    refine E_al rfl L0 ?_
    refine E_ogf (q := (0, 8)) rfl hh rfl rfl g4 ?_
    refine E_icT rfl (decide_eq_true ((nJ_le (by first | decide | with_reducible assumption | omega) (by first | decide | with_reducible assumption | omega)).mpr (by first | decide | with_reducible assumption | omega))) ?_
    refine E_ci 0 rfl ci0 ?_
    refine E_is rfl (fun lv1 K2 kp => ?_)
    exact ka_twoX m8 ha v a (i := 0) lv1 (by first | decide | with_reducible assumption | omega) hh hf g6 gC gG gZ (fun j hj => hx j (by first | decide | with_reducible assumption | omega)) (kp 0 _ (nbz rfl) rfl L0) K2
  | succ j ih =>
    intro h i lv hj hh hf g4 g6 gC gG gZ gt hx L0 L2
    refine E_il rfl L2 ?_
    refine E_al rfl L0 ?_
    refine E_ogf (q := (0, 8)) rfl hh rfl rfl g4 ?_
    refine E_icF rfl (decide_eq_false (fun q => absurd ((nJ_le (by first | decide | with_reducible assumption | omega) (by first | decide | with_reducible assumption | omega)).mp q) (by first | decide | with_reducible assumption | omega))) ?_
    have t1 : gi h 16 i = nJ (gn h 16 i) := gi_gn hh (bd_u rfl (by first | decide | with_reducible assumption | omega)) (by decide)
    have t2 : gn h 16 i ≤ 8 := gn_hi hh (bd_u rfl (by first | decide | with_reducible assumption | omega)) (by decide)
    refine E_al rfl L0 ?_
    refine E_ogr (q := 17) rfl hh rfl rfl ?_
    refine E_il rfl L2 ?_
    refine E_al rfl L0 ?_
    refine E_ogr (q := 16) rfl hh rfl rfl ?_
    refine E_il rfl L2 ?_
    refine E_ial rfl hh rfl (by first | decide | with_reducible assumption | omega) (by decide) t1 ?_
    refine E_ias rfl hh rfl (by first | decide | with_reducible assumption | omega) (by decide) ?_
    have b17 : bd 17 i = some (0, 8) := bd_u rfl (by first | decide | with_reducible assumption | omega)
    refine E_inc rfl L2 (nJ_inc _) (fun lv1 K2 kp => ?_)
    refine E_goto rfl ?_
    exact ih lv1 (i := i + 1) (by first | decide | with_reducible assumption | omega) (HH_ptn hh b17 (by first | decide | with_reducible assumption | omega) (by first | decide | with_reducible assumption | omega) (by first | decide | with_reducible assumption | omega)) (fr_ptr (l := 0) (u := 7) rfl (by first | decide | with_reducible assumption | omega) (by first | decide | with_reducible assumption | omega) hf) (by rw [gi_ne (by first | exact gxx rfl | omega)]; exact g4) (by rw [gi_ne (by first | exact gxx rfl | omega)]; exact g6) (by rw [← gC]; funext k; exact gn_ne (by first | exact gxx rfl | omega)) (by rw [← gG]; funext k; exact gn_ne (by first | exact gxx rfl | omega)) (by rw [← gZ]; funext k; exact gn_ne (by first | exact gxx rfl | omega)) (by rw [← gt]; funext k; exact gn_ne (by first | exact gxx rfl | omega)) (fun j hj => by
      rw [gn_fup hh b17 (by first | decide | with_reducible assumption | omega) (by first | decide | with_reducible assumption | omega) (by first | decide | with_reducible assumption | omega)]
      by_cases e : j = i
      · rw [e, fup_s, gt]
      · rw [fup_n e]; exact hx j (by first | decide | with_reducible assumption | omega)) (kp 0 _ (nbz rfl) rfl L0) K2
theorem sp_keepActsX {a p : Nat} (hh : HH h) (ha : a ≤ 20) (v : ∀ i, i < a → vAct (gn h 15 4) p (gn h 21) (gn h 22) (gn h 23) i) : Sp (d + 2) 53 h [.ref 15, .int (nJ a)] (fun h' r => r = none ∧ HH h' ∧ fr_g KAF h h' ∧ gi h' 15 6 = nJ a ∧ ∀ j, j < gn h 15 4 → gn h' 17 j = nwF (gn h 21) (gn h 22) (gn h 23) (gn h 16) a j) := by
  obtain ⟨-, -, a3, a4, -⟩ := g15 hh
  refine Sp_of aiX5_keepActs rfl rfl rfl ?_
  have L0 : pm_get (lv_args 0 [.ref 15, .int (nJ a)]) 0 = some (.ref 15) := rfl
  have L1 : pm_get (lv_args 0 [.ref 15, .int (nJ a)]) 1 = some (.int (nJ a)) := rfl
  generalize lv_args 0 [.ref 15, .int (nJ a)] = lv at L0 L1 ⊢
  refine E_al rfl L0 ?_
  refine E_il rfl L1 ?_
  refine E_opf (q := (0, 20)) rfl hh rfl rfl ?_
  have h1 : HH (pt h 15 6 (nJ a)) := HH_ptn hh rfl (by first | decide | with_reducible assumption | omega) (by first | decide | with_reducible assumption | omega) (by first | decide | with_reducible assumption | omega)
  refine E_ci 0 rfl ci0 ?_
  refine E_is rfl (fun lv1 K2 kp => ?_)
  exact ka_oneX (d := d) (p := p) a4 ha v (gn h 15 4) (i := 0) lv1 (by first | decide | with_reducible assumption | omega) h1 (fr_ptr (l := 6) (u := 6) rfl (by first | decide | with_reducible assumption | omega) (by first | decide | with_reducible assumption | omega) (fr_rf _ _)) (by rw [gi_ne (by first | exact gxx rfl | omega)]; exact a3) (gi_ptn hh rfl (by first | decide | with_reducible assumption | omega) (by first | decide | with_reducible assumption | omega) (by first | decide | with_reducible assumption | omega)) (by funext k; exact gn_ne (by first | exact gxx rfl | omega)) (by funext k; exact gn_ne (by first | exact gxx rfl | omega)) (by funext k; exact gn_ne (by first | exact gxx rfl | omega)) (by funext k; exact gn_ne (by first | exact gxx rfl | omega)) (fun j hj => absurd hj (Nat.not_lt_zero j)) (kp 0 _ (nbz rfl) rfl L0) K2
theorem sp_undo8X {p : Nat} (hh : HH h) (v : ∀ i, i < gn h 15 6 → vAct (gn h 15 4) p (gn h 21) (gn h 22) (gn h 23) i) (N : ∀ j, j < gn h 15 4 → gn h 17 j = nwF (gn h 21) (gn h 22) (gn h 23) (gn h 16) (gn h 15 6) j) : Sp (d + 3) 195 h [.ref 0] (fun h' r => r = some (.int (udv (gn h 15 0) (gn h 15 6))) ∧ gi h' 15 6 = nJ (uda (gn h 15 0) (gn h 15 6)) ∧ fr_g KAF h h' ∧ (∀ j, j < gn h 15 4 → gn h' 17 j = nwF (gn h 21) (gn h 22) (gn h 23) (gn h 16) (uda (gn h 15 0) (gn h 15 6)) j)) := by
  obtain ⟨a1, a2, a3, a4, a5, a6⟩ := g15 hh
  refine Sp_of aiX8_undo rfl rfl rfl ?_
  have L0 : pm_get (lv_args 0 [.ref 0]) 0 = some (.ref 0) := rfl
  generalize lv_args 0 [.ref 0] = lv at L0 ⊢
  unfold udv uda
  refine E_al rfl L0 ?_
  refine E_call rfl (Sp_le (by first | exact Nat.add_le_add_left (Nat.le_of_ble_eq_true rfl) _ | exact Nat.le_of_ble_eq_true rfl | omega) (sp_hasStreet8 (d := d) hh)) (chkO (a := 0) hh rfl rfl rfl rfl (by show 0 ≤ 8; decide)) (fun h1 r1 => ?_)
  rintro ⟨e1, f1⟩
  rw [e1, f1]
  by_cases b : gn h 15 0 = 0
  · refine E_ifF rfl (by rw [zb_F (by first | decide | with_reducible assumption | omega)]; rfl) ?_
    refine E_c rfl ?_
    exact E_rti rfl ⟨by rw [if_pos b], by rw [if_pos b]; exact a5, fr_rf _ _, by rw [if_pos b]; exact N⟩
  refine E_ifT rfl (by rw [zb_T (by first | decide | with_reducible assumption | omega)]; rfl) ?_
  rw [if_neg b, if_neg b]
  refine E_al rfl L0 ?_
  refine E_ogr (q := 15) rfl hh rfl rfl ?_
  refine E_ogf (q := (0, 20)) rfl hh rfl rfl a5 ?_
  by_cases b2 : gn h 15 6 = 0
  · refine E_ifF rfl (decide_eq_false (fun q => q ((nJ_eq0 (by first | decide | with_reducible assumption | omega)).mpr b2))) ?_
    refine E_c rfl ?_
    exact E_rti rfl ⟨by rw [if_pos b2], by rw [a5, b2], fr_rf _ _, by rw [b2] at N ⊢; exact N⟩
  refine E_ifT rfl (decide_eq_true (fun q => b2 ((nJ_eq0 (by first | decide | with_reducible assumption | omega)).mp q))) ?_
  rw [if_neg b2]
  refine E_al rfl L0 ?_
  refine E_ogr (q := 15) rfl hh rfl rfl ?_
  refine E_al rfl L0 ?_
  refine E_ogr (q := 15) rfl hh rfl rfl ?_
  refine E_ogf (q := (0, 20)) rfl hh rfl rfl a5 ?_
  refine E_ci 1 rfl ci1 ?_
  refine E_bin rfl (nJ_sub (by first | decide | with_reducible assumption | omega)) ?_
  refine E_call rfl (sp_keepActsX (p := p) (d := d) (a := gn h 15 6 - 1) hh (by first | decide | with_reducible assumption | omega) (fun i hi => v i (by first | decide | with_reducible assumption | omega))) (chkO (a := 15) hh rfl rfl rfl rfl (by show 0 ≤ 8; decide)) (fun h2 r2 => ?_)
  rintro ⟨e2, hh2, f2, g2, n2⟩
  rw [e2]
  refine E_al rfl L0 ?_
  refine E_ogr (q := 15) rfl hh2 rfl rfl ?_
  refine E_ogf (q := (0, 20)) rfl hh2 rfl rfl g2 ?_
  exact E_rti rfl ⟨rfl, g2, f2, n2⟩
theorem sp_anew8X {p : Nat} (hh : HH h) (N : ∀ j, j < gn h 15 4 → gn h 17 j = nwF (gn h 21) (gn h 22) (gn h 23) (gn h 16) (gn h 15 6) j) : Sp (d + 3) 79 h [.ref 0] (fun h' r => r = some (.int (anv (gn h 15 0) (gn h 15 6))) ∧ gi h' 15 6 = nJ (ana (gn h 15 0) (gn h 15 6)) ∧ fr_g KAF h h' ∧ (∀ j, j < gn h 15 4 → gn h' 17 j = nwF (gn h 21) (gn h 22) (gn h 23) (gn h 16) (ana (gn h 15 0) (gn h 15 6)) j)) := by
  obtain ⟨a1, a2, a3, a4, a5, a6⟩ := g15 hh
  refine Sp_of aiX8_anew rfl rfl rfl ?_
  have L0 : pm_get (lv_args 0 [.ref 0]) 0 = some (.ref 0) := rfl
  generalize lv_args 0 [.ref 0] = lv at L0 ⊢
  unfold anv ana
  refine E_al rfl L0 ?_
  refine E_call rfl (Sp_le (by first | exact Nat.add_le_add_left (Nat.le_of_ble_eq_true rfl) _ | exact Nat.le_of_ble_eq_true rfl | omega) (sp_hasStreet8 (d := d) hh)) (chkO (a := 0) hh rfl rfl rfl rfl (by show 0 ≤ 8; decide)) (fun h1 r1 => ?_)
  rintro ⟨e1, f1⟩
  rw [e1, f1]
  by_cases b : gn h 15 0 = 0
  · refine E_ifF rfl (by rw [zb_F (by first | decide | with_reducible assumption | omega)]; rfl) ?_
    refine E_c rfl ?_
    exact E_rti rfl ⟨by rw [if_pos b], by rw [if_pos b]; exact a5, fr_rf _ _, by rw [if_pos b]; exact N⟩
  refine E_ifT rfl (by rw [zb_T (by first | decide | with_reducible assumption | omega)]; rfl) ?_
  rw [if_neg b, if_neg b]
  refine E_al rfl L0 ?_
  refine E_ogr (q := 15) rfl hh rfl rfl ?_
  refine E_ogf (q := (0, 20)) rfl hh rfl rfl a5 ?_
  refine E_is rfl (fun lv1 K1 kp => ?_)
  refine E_al rfl (kp 0 _ (nbz rfl) rfl L0) ?_
  refine E_ogr (q := 15) rfl hh rfl rfl ?_
  refine E_ci 0 rfl ci0 ?_
  refine E_call rfl (sp_keepActsX (d := d) (a := 0) (p := p) hh (by first | decide | with_reducible assumption | omega) (fun i hi => absurd hi (Nat.not_lt_zero i))) (chkO (a := 15) hh rfl rfl rfl rfl (by show 0 ≤ 8; decide)) (fun h2 r2 => ?_)
  rintro ⟨e2, hh2, f2, g2, n2⟩
  rw [e2]
  refine E_il rfl K1 ?_
  exact E_rti rfl ⟨rfl, g2, f2, n2⟩
/-- an act more -/
noncomputable def ADD (h h' : pm_H) (a c z t : Nat) : Prop := gi h' 15 6 = nJ (a + 1) ∧ gn h' 21 = fup (gn h 21) a c ∧ gn h' 22 = fup (gn h 22) a z ∧ gn h' 23 = fup (gn h 23) a t ∧ gn h' 17 = dAct (fup (gn h 21) a c) (fup (gn h 22) a z) (fup (gn h 23) a t) a (gn h 17)
noncomputable def NOA (h h' : pm_H) : Prop := gi h' 15 6 = gi h 15 6 ∧ gn h' 21 = gn h 21 ∧ gn h' 22 = gn h 22 ∧ gn h' 23 = gn h 23 ∧ gn h' 17 = gn h 17
noncomputable def WX (ok : Bool) (h h' : pm_H) (a c z t : Nat) : Prop := (ok = true ∧ a < 20 → ADD h h' a c z t) ∧ (¬ (ok = true ∧ a < 20) → NOA h h')
theorem NOA_rf : NOA h h := ⟨rfl, rfl, rfl, rfl, rfl⟩
theorem WX_no {ok : Bool} {a c z t : Nat} (e : ¬ (ok = true ∧ a < 20)) : WX ok h h a c z t := ⟨fun q => absurd q e, fun _ => NOA_rf⟩
theorem sp_addActX {c z t a : Nat} (hh : HH h) (c7 : c ≤ 7) (z8 : z ≤ 8) (t1 : t ≤ 1) (hz : t ≠ 0 → z ≤ 7) (g6 : gi h 15 6 = nJ a) (a20 : a < 20) : Sp (d + 2) 47 h [.ref 15, .int (nJ c), .int (nJ z), .int (nJ t)] (fun h' r => r = none ∧ HH h' ∧ fr_g AAF h h' ∧ ADD h h' a c z t) := by
  refine Sp_of aiX5_addAct rfl rfl rfl ?_
  have L0 : pm_get (lv_args 0 [.ref 15, .int (nJ c), .int (nJ z), .int (nJ t)]) 0 = some (.ref 15) := rfl
  have L1 : pm_get (lv_args 0 [.ref 15, .int (nJ c), .int (nJ z), .int (nJ t)]) 1 = some (.int (nJ c)) := rfl
  have L2 : pm_get (lv_args 0 [.ref 15, .int (nJ c), .int (nJ z), .int (nJ t)]) 2 = some (.int (nJ z)) := rfl
  have L3 : pm_get (lv_args 0 [.ref 15, .int (nJ c), .int (nJ z), .int (nJ t)]) 3 = some (.int (nJ t)) := rfl
  generalize lv_args 0 [.ref 15, .int (nJ c), .int (nJ z), .int (nJ t)] = lv at L0 L1 L2 L3 ⊢
  have tt := nJ_toInt (n := t) (by first | decide | with_reducible assumption | omega)
  refine E_al rfl L0 ?_
  refine E_ogf (q := (0, 20)) rfl hh rfl rfl g6 ?_
  refine E_ci 20 rfl ci20 ?_
  refine E_icF rfl (decide_eq_false (fun q => absurd ((nJ_le (by first | decide | with_reducible assumption | omega) (by first | decide | with_reducible assumption | omega)).mp q) (by first | decide | with_reducible assumption | omega))) ?_
  have b1 : bd 21 a = some (0, 7) := bd_u rfl a20
  have b2 : bd 22 a = some (0, 8) := bd_u rfl a20
  have b3 : bd 23 a = some (0, 1) := bd_u rfl a20
  have h1 : HH (pt h 21 a (nJ c)) := HH_ptn hh b1 (by first | decide | with_reducible assumption | omega) (by first | decide | with_reducible assumption | omega) (by first | decide | with_reducible assumption | omega)
  have h2 : HH (pt (pt h 21 a (nJ c)) 22 a (nJ z)) := HH_ptn h1 b2 (by first | decide | with_reducible assumption | omega) (by first | decide | with_reducible assumption | omega) (by first | decide | with_reducible assumption | omega)
  have h3 : HH (pt (pt (pt h 21 a (nJ c)) 22 a (nJ z)) 23 a (nJ t)) := HH_ptn h2 b3 (by first | decide | with_reducible assumption | omega) (by first | decide | with_reducible assumption | omega) (by first | decide | with_reducible assumption | omega)
  refine E_al rfl L0 ?_
  refine E_ogr (q := 21) rfl hh rfl rfl ?_
  refine E_al rfl L0 ?_
  refine E_ogf (q := (0, 20)) rfl hh rfl rfl g6 ?_
  refine E_il rfl L1 ?_
  refine E_ias rfl hh rfl a20 (by decide) ?_
  refine E_al rfl L0 ?_
  refine E_ogr (q := 22) rfl h1 rfl rfl ?_
  refine E_al rfl L0 ?_
  refine E_ogf (q := (0, 20)) (v := nJ a) rfl h1 rfl rfl (by rw [gi_ne (by first | exact gxx rfl | omega)]; exact g6) ?_
  refine E_il rfl L2 ?_
  refine E_ias rfl h1 rfl a20 (by decide) ?_
  refine E_al rfl L0 ?_
  refine E_ogr (q := 23) rfl h2 rfl rfl ?_
  refine E_al rfl L0 ?_
  refine E_ogf (q := (0, 20)) (v := nJ a) rfl h2 rfl rfl (by rw [gi_ne (by first | exact gxx rfl | omega), gi_ne (by first | exact gxx rfl | omega)]; exact g6) ?_
  refine E_il rfl L3 ?_
  refine E_zasB rfl h2 rfl a20 (by decide) (nar_z (by first | decide | with_reducible assumption | omega) (by first | decide | with_reducible assumption | omega)) ?_
  have g3 : gi (pt (pt (pt h 21 a (nJ c)) 22 a (nJ z)) 23 a (nJ t)) 15 6 = nJ a := by rw [gi_ne (by first | exact gxx rfl | omega), gi_ne (by first | exact gxx rfl | omega), gi_ne (by first | exact gxx rfl | omega)]; exact g6
  have q3 : gi (pt (pt (pt h 21 a (nJ c)) 22 a (nJ z)) 23 a (nJ t)) 23 a = nJ t := gi_ptn h2 b3 (by first | decide | with_reducible assumption | omega) (by first | decide | with_reducible assumption | omega) (by first | decide | with_reducible assumption | omega)
  have q2 : gn (pt (pt (pt h 21 a (nJ c)) 22 a (nJ z)) 23 a (nJ t)) 22 a = z := by rw [gn_ne (by first | exact gxx rfl | omega)]; exact gn_ptn h1 b2 (by first | decide | with_reducible assumption | omega) (by first | decide | with_reducible assumption | omega) (by first | decide | with_reducible assumption | omega)
  have F3 : fr_g AAF h (pt (pt (pt h 21 a (nJ c)) 22 a (nJ z)) 23 a (nJ t)) := fr_ptr (l := 0) (u := 19) rfl (by first | decide | with_reducible assumption | omega) (by first | decide | with_reducible assumption | omega) (fr_ptr (l := 0) (u := 19) rfl (by first | decide | with_reducible assumption | omega) (by first | decide | with_reducible assumption | omega) (fr_ptr (l := 0) (u := 19) rfl (by first | decide | with_reducible assumption | omega) (by first | decide | with_reducible assumption | omega) (fr_rf _ _)))
  have w1 : gn (pt (pt (pt h 21 a (nJ c)) 22 a (nJ z)) 23 a (nJ t)) 21 = fup (gn h 21) a c := by rw [← gn_fup hh b1 (by first | decide | with_reducible assumption | omega) (by first | decide | with_reducible assumption | omega) (by first | decide | with_reducible assumption | omega)]; funext k; rw [gn_ne (by first | exact gxx rfl | omega), gn_ne (by first | exact gxx rfl | omega)]
  have w2 : gn (pt (pt (pt h 21 a (nJ c)) 22 a (nJ z)) 23 a (nJ t)) 22 = fup (gn h 22) a z := by
    have e : gn (pt h 21 a (nJ c)) 22 = gn h 22 := by funext k; exact gn_ne (by first | exact gxx rfl | omega)
    rw [← e, ← gn_fup h1 b2 (by first | decide | with_reducible assumption | omega) (by first | decide | with_reducible assumption | omega) (by first | decide | with_reducible assumption | omega)]; funext k; rw [gn_ne (by first | exact gxx rfl | omega)]
  have w3 : gn (pt (pt (pt h 21 a (nJ c)) 22 a (nJ z)) 23 a (nJ t)) 23 = fup (gn h 23) a t := by
    have e : gn (pt (pt h 21 a (nJ c)) 22 a (nJ z)) 23 = gn h 23 := by funext k; rw [gn_ne (by first | exact gxx rfl | omega), gn_ne (by first | exact gxx rfl | omega)]
    rw [← e, ← gn_fup h2 b3 (by first | decide | with_reducible assumption | omega) (by first | decide | with_reducible assumption | omega) (by first | decide | with_reducible assumption | omega)]
  have w4 : gn (pt (pt (pt h 21 a (nJ c)) 22 a (nJ z)) 23 a (nJ t)) 17 = gn h 17 := by funext k; rw [gn_ne (by first | exact gxx rfl | omega), gn_ne (by first | exact gxx rfl | omega), gn_ne (by first | exact gxx rfl | omega)]
  generalize pt (pt (pt h 21 a (nJ c)) 22 a (nJ z)) 23 a (nJ t) = g at h3 g3 q3 q2 F3 w1 w2 w3 w4 ⊢
  refine E_al rfl L0 ?_
  refine E_al rfl L0 ?_
  refine E_ogf (q := (0, 20)) rfl h3 rfl rfl g3 ?_
  refine E_call rfl (sp_doActX (d := d) h3 a20 (fun q => by rw [q2]; exact hz (fun e => q (by rw [q3, e]; rfl)))) (chkO (a := 15) h3 rfl rfl rfl rfl (by show 0 ≤ 8; decide)) (fun h5 r5 => ?_)
  rintro ⟨e5, hh5, f5, n5⟩
  rw [w1, w2, w3, w4] at n5
  rw [e5]
  refine E_al rfl L0 ?_
  refine E_dup rfl rfl ?_
  refine E_ogf (q := (0, 20)) (v := nJ a) rfl hh5 rfl rfl (by rw [fr_gi f5 (rg_no rfl _)]; exact g3) ?_
  refine E_ci 1 rfl ci1 ?_
  refine E_bin rfl (nJ_add _ _) ?_
  refine E_opf (q := (0, 20)) rfl hh5 rfl rfl ?_
  refine E_ret rfl ⟨rfl, HH_ptn hh5 rfl (by first | decide | with_reducible assumption | omega) (by first | decide | with_reducible assumption | omega) (by first | decide | with_reducible assumption | omega), fr_ptr (l := 6) (u := 6) rfl (by first | decide | with_reducible assumption | omega) (by first | decide | with_reducible assumption | omega) (fr_trans F3 (fr_wk rfl f5)), gi_ptn hh5 rfl (by first | decide | with_reducible assumption | omega) (by first | decide | with_reducible assumption | omega) (by first | decide | with_reducible assumption | omega), ?_, ?_, ?_, ?_⟩
  · rw [← w1]; funext k; rw [gn_ne (by first | exact gxx rfl | omega)]; exact fr_gn f5 (rg_no rfl _)
  · rw [← w2]; funext k; rw [gn_ne (by first | exact gxx rfl | omega)]; exact fr_gn f5 (rg_no rfl _)
  · rw [← w3]; funext k; rw [gn_ne (by first | exact gxx rfl | omega)]; exact fr_gn f5 (rg_no rfl _)
  · rw [← n5]; funext k; exact gn_ne (by first | exact gxx rfl | omega)
theorem sp_actLostX {c z t : Nat} (hh : HH h) (c7 : c ≤ 7) (z8 : z ≤ 8) (t1 : t ≤ 1) (hz : t ≠ 0 → z ≤ 7) : Sp (d + 6) 78 h [.ref 0, .int (nJ c), .int (nJ z), .int (nJ t)] (fun h' r => (∃ v : Int32, r = some (.int v)) ∧ WX true h h' (gn h 15 6) c z t) := by
  obtain ⟨a1, a2, a3, a4, a5, a6⟩ := g15 hh
  refine Sp_of aiX8_actAndCountLost rfl rfl rfl ?_
  have L0 : pm_get (lv_args 0 [.ref 0, .int (nJ c), .int (nJ z), .int (nJ t)]) 0 = some (.ref 0) := rfl
  have L1 : pm_get (lv_args 0 [.ref 0, .int (nJ c), .int (nJ z), .int (nJ t)]) 1 = some (.int (nJ c)) := rfl
  have L2 : pm_get (lv_args 0 [.ref 0, .int (nJ c), .int (nJ z), .int (nJ t)]) 2 = some (.int (nJ z)) := rfl
  have L3 : pm_get (lv_args 0 [.ref 0, .int (nJ c), .int (nJ z), .int (nJ t)]) 3 = some (.int (nJ t)) := rfl
  generalize lv_args 0 [.ref 0, .int (nJ c), .int (nJ z), .int (nJ t)] = lv at L0 L1 L2 L3 ⊢
  refine E_al rfl L0 ?_
  refine E_ogr (q := 15) rfl hh rfl rfl ?_
  refine E_ogf (q := (0, 20)) rfl hh rfl rfl a5 ?_
  refine E_ci 20 rfl ci20 ?_
  by_cases b : gn h 15 6 < 20
  · refine E_icT rfl (decide_eq_true ((nJ_lt (by first | decide | with_reducible assumption | omega) (by first | decide | with_reducible assumption | omega)).mpr b)) ?_
    refine E_al rfl L0 ?_
    refine E_ogr (q := 15) rfl hh rfl rfl ?_
    refine E_il rfl L1 ?_
    refine E_il rfl L2 ?_
    refine E_il rfl L3 ?_
    refine E_call rfl (Sp_le (by first | exact Nat.add_le_add_left (Nat.le_of_ble_eq_true rfl) _ | exact Nat.le_of_ble_eq_true rfl | omega) (sp_addActX (d := d) hh c7 z8 t1 hz a5 b)) (chkO (a := 15) hh rfl rfl rfl rfl (by show 0 ≤ 8; decide)) (fun h1 r1 => ?_)
    rintro ⟨e1, hh1, f1, g1⟩
    rw [e1]
    refine E_al rfl L0 ?_
    refine E_call rfl (Sp_le (by first | exact Nat.add_le_add_left (Nat.le_of_ble_eq_true rfl) _ | exact Nat.le_of_ble_eq_true rfl | omega) (Sp_sum (as := [.ref 0]) q137 hh1 ⟨rfl, trivial⟩ (fun _ hq => absurd hq List.not_mem_nil) (fun _ hq => absurd hq List.not_mem_nil))) (chkO (a := 0) hh1 rfl rfl rfl rfl (by show 0 ≤ 8; decide)) (fun h2 r2 => ?_)
    rintro ⟨hh2, f2, C2, hC2, -, -, -, rv2⟩
    have e2 : r2 = none := by have e := List.mem_singleton.mp hC2; subst e; cases r2 with | none => rfl | some v => exact rv2.elim
    rw [e2]
    refine E_al rfl L0 ?_
    refine E_ogr (q := 62) rfl hh2 rfl rfl ?_
    refine E_ogf (q := (0, 255)) rfl hh2 rfl rfl rfl ?_
    have bm := (ld_gi hh2 (a := 62) (k := 2) (q := (0, 255)) rfl).2
    refine E_call rfl (Sp_le (by first | exact Nat.add_le_add_left (Nat.le_of_ble_eq_true rfl) _ | exact Nat.le_of_ble_eq_true rfl | omega) (Sp_sum (as := [.int (gi h2 62 2)]) q607 hh2 ⟨bm, trivial⟩ (fun _ hq => absurd hq List.not_mem_nil) (fun _ hq => absurd hq List.not_mem_nil))) (chkS rfl (by show 0 ≤ 8; decide)) (fun h3 r3 => ?_)
    rintro ⟨hh3, f3, C3, hC3, -, -, -, rv3⟩
    have hC3 : C3 ∈ [([cI 0 255], [], [], some (.inl (cI 2 8))), ([cI 0 255], [], [], some (.inl (cI 1 1))), ([cI 0 255], [], [], some (.inl (cI 0 0)))] := hC3
    obtain ⟨v3, e3⟩ : ∃ x : Int32, r3 = some (.int x) := by
      rcases List.mem_cons.mp hC3 with e | e
      · subst e; exact rv_ci rv3
      · rcases List.mem_cons.mp e with e | e
        · subst e; exact rv_ci rv3
        · have e := List.mem_singleton.mp e; subst e; exact rv_ci rv3
    rw [e3]
    have k3 : ∀ a k, a ≤ 23 → 15 ≤ a → gi h3 a k = gi h1 a k := fun a k ha hb => by
      rw [fr_gi f3 rfl, fr_gi f2 (rg_no ((show ∀ a : Fin 24, 15 ≤ a.val → S137.2.2.2.2.1.all (fun r => !(Nat.beq r.1 a.val)) = true from by decide) ⟨a, by omega⟩ hb) _)]
    have k4 : ∀ a, a ≤ 23 → 15 ≤ a → gn h3 a = gn h1 a := fun a ha hb => by funext k; unfold gn; rw [k3 a k ha hb]
    obtain ⟨w0, w1, w2, w3, w4⟩ := g1
    exact E_rti rfl ⟨⟨_, rfl⟩, fun _ => ⟨by rw [k3 _ _ (by first | decide | with_reducible assumption | omega) (by first | decide | with_reducible assumption | omega)]; exact w0, by rw [k4 _ (by first | decide | with_reducible assumption | omega) (by first | decide | with_reducible assumption | omega)]; exact w1, by rw [k4 _ (by first | decide | with_reducible assumption | omega) (by first | decide | with_reducible assumption | omega)]; exact w2, by rw [k4 _ (by first | decide | with_reducible assumption | omega) (by first | decide | with_reducible assumption | omega)]; exact w3, by rw [k4 _ (by first | decide | with_reducible assumption | omega) (by first | decide | with_reducible assumption | omega)]; exact w4⟩, fun q => absurd ⟨rfl, b⟩ q⟩
  · refine E_icF rfl (decide_eq_false (fun q => b ((nJ_lt (by first | decide | with_reducible assumption | omega) (by first | decide | with_reducible assumption | omega)).mp q))) ?_
    refine E_c rfl ?_
    exact E_rti rfl ⟨⟨_, rfl⟩, WX_no (fun q => b q.2)⟩
theorem sp_wants8X (hh : HH h) : Sp (d + 7) 198 h [.ref 0, .int x, .int y] (fun h' r => (∃ v : Int32, r = some (.int v)) ∧ WX (okW (gn h 15 4) (gn h 15 0) x y) h h' (gn h 15 6) x.toInt.toNat y.toInt.toNat 0) := by
  obtain ⟨a1, a2, a3, a4, a5, a6⟩ := g15 hh
  refine Sp_of aiX8_wants rfl rfl rfl ?_
  have L0 : pm_get (lv_args 0 [.ref 0, .int x, .int y]) 0 = some (.ref 0) := rfl
  have L1 : pm_get (lv_args 0 [.ref 0, .int x, .int y]) 1 = some (.int x) := rfl
  have L2 : pm_get (lv_args 0 [.ref 0, .int x, .int y]) 2 = some (.int y) := rfl
  generalize lv_args 0 [.ref 0, .int x, .int y] = lv at L0 L1 L2 ⊢
  have no : ¬ ((0 ≤ x.toInt ∧ x.toInt < (gn h 15 4 : Int)) ∧ 1 ≤ y.toInt ∧ y.toInt ≤ (gn h 15 0 : Int)) → Ends (pm_at tX8_wants) (pm_Rt pm_P (d + 6)) (16, lv, [], h, 0, 0) (fun h' r => (∃ v : Int32, r = some (.int v)) ∧ WX (okW (gn h 15 4) (gn h 15 0) x y) h h' (gn h 15 6) x.toInt.toNat y.toInt.toNat 0) := by
    intro q
    refine E_c rfl ?_
    exact E_rti rfl ⟨⟨_, rfl⟩, WX_no (fun z => q (of_decide_eq_true z.1))⟩
  refine E_al rfl L0 ?_
  refine E_il rfl L1 ?_
  refine E_call rfl (Sp_le (by first | exact Nat.add_le_add_left (Nat.le_of_ble_eq_true rfl) _ | exact Nat.le_of_ble_eq_true rfl | omega) (sp_hasCar8 (d := d) hh)) (chkO (a := 0) hh rfl rfl rfl rfl (by show 0 ≤ 8; decide)) (fun h1 r1 => ?_)
  rintro ⟨e1, f1⟩
  rw [e1, f1]
  by_cases b1 : 0 ≤ x.toInt ∧ x.toInt < (gn h 15 4 : Int)
  · refine E_ifF rfl (by rw [zb_T b1]; rfl) ?_
    refine E_al rfl L0 ?_
    refine E_il rfl L2 ?_
    refine E_call rfl (Sp_le (by first | exact Nat.add_le_add_left (Nat.le_of_ble_eq_true rfl) _ | exact Nat.le_of_ble_eq_true rfl | omega) (sp_hasPlace8 (d := d) hh)) (chkO (a := 0) hh rfl rfl rfl rfl (by show 0 ≤ 8; decide)) (fun h2 r2 => ?_)
    rintro ⟨e2, f2⟩
    rw [e2, f2]
    by_cases b2 : 1 ≤ y.toInt ∧ y.toInt ≤ (gn h 15 0 : Int)
    · refine E_ifT rfl (by rw [zb_T b2]; rfl) ?_
      have ok : okW (gn h 15 4) (gn h 15 0) x y = true := decide_eq_true ⟨b1, b2⟩
      rw [ok]
      obtain ⟨c, hc, rfl⟩ : ∃ c, c ≤ 7 ∧ x = nJ c := ⟨x.toInt.toNat, by omega, nJ_of b1.1⟩
      obtain ⟨z, hz, rfl⟩ : ∃ c, c ≤ 8 ∧ y = nJ c := ⟨y.toInt.toNat, by omega, nJ_of (by first | decide | with_reducible assumption | omega)⟩
      refine E_al rfl L0 ?_
      refine E_il rfl L1 ?_
      refine E_il rfl L2 ?_
      refine E_ci 0 rfl ci0 ?_
      refine E_call rfl (sp_actLostX (d := d) (t := 0) hh hc hz (by first | decide | with_reducible assumption | omega) (fun q => absurd rfl q)) (chkO (a := 0) hh rfl rfl rfl rfl (by show 0 ≤ 8; decide)) (fun h3 r3 => ?_)
      rintro ⟨⟨v, e3⟩, g3⟩
      rw [e3]
      exact E_rti rfl ⟨⟨_, rfl⟩, by rw [nJ_toInt (by first | decide | with_reducible assumption | omega), nJ_toInt (by first | decide | with_reducible assumption | omega)]; exact g3⟩
    · refine E_ifF rfl (by rw [zb_F b2]; rfl) ?_
      exact no (fun q => b2 q.2)
  · refine E_ifT rfl (by rw [zb_F b1]; rfl) ?_
    exact no (fun q => b1 q.1)
theorem sp_trades8X (hh : HH h) : Sp (d + 7) 191 h [.ref 0, .int x, .int y] (fun h' r => (∃ v : Int32, r = some (.int v)) ∧ WX (okT (gn h 15 4) x y) h h' (gn h 15 6) x.toInt.toNat y.toInt.toNat 1) := by
  obtain ⟨a1, a2, a3, a4, a5, a6⟩ := g15 hh
  refine Sp_of aiX8_trades rfl rfl rfl ?_
  have L0 : pm_get (lv_args 0 [.ref 0, .int x, .int y]) 0 = some (.ref 0) := rfl
  have L1 : pm_get (lv_args 0 [.ref 0, .int x, .int y]) 1 = some (.int x) := rfl
  have L2 : pm_get (lv_args 0 [.ref 0, .int x, .int y]) 2 = some (.int y) := rfl
  generalize lv_args 0 [.ref 0, .int x, .int y] = lv at L0 L1 L2 ⊢
  refine E_al rfl L0 ?_
  refine E_il rfl L1 ?_
  refine E_il rfl L2 ?_
  refine E_call rfl (Sp_le (by first | exact Nat.add_le_add_left (Nat.le_of_ble_eq_true rfl) _ | exact Nat.le_of_ble_eq_true rfl | omega) (sp_hasPair8 (d := d) hh)) (chkO (a := 0) hh rfl rfl rfl rfl (by show 0 ≤ 8; decide)) (fun h1 r1 => ?_)
  rintro ⟨e1, f1⟩
  rw [e1, f1]
  by_cases b : (0 ≤ x.toInt ∧ x.toInt < (gn h 15 4 : Int)) ∧ (0 ≤ y.toInt ∧ y.toInt < (gn h 15 4 : Int)) ∧ ¬ x = y
  · refine E_ifT rfl (by rw [zb_T b]; rfl) ?_
    have ok : okT (gn h 15 4) x y = true := decide_eq_true b
    rw [ok]
    obtain ⟨b1, b2, -⟩ := b
    obtain ⟨c, hc, rfl⟩ : ∃ c, c ≤ 7 ∧ x = nJ c := ⟨x.toInt.toNat, by omega, nJ_of b1.1⟩
    obtain ⟨z, hz, rfl⟩ : ∃ c, c ≤ 7 ∧ y = nJ c := ⟨y.toInt.toNat, by omega, nJ_of (by first | decide | with_reducible assumption | omega)⟩
    refine E_al rfl L0 ?_
    refine E_il rfl L1 ?_
    refine E_il rfl L2 ?_
    refine E_ci 1 rfl ci1 ?_
    refine E_call rfl (sp_actLostX (d := d) (t := 1) hh hc (by first | decide | with_reducible assumption | omega) (by first | decide | with_reducible assumption | omega) (fun _ => hz)) (chkO (a := 0) hh rfl rfl rfl rfl (by show 0 ≤ 8; decide)) (fun h3 r3 => ?_)
    rintro ⟨⟨v, e3⟩, g3⟩
    rw [e3]
    exact E_rti rfl ⟨⟨_, rfl⟩, by rw [nJ_toInt (by first | decide | with_reducible assumption | omega), nJ_toInt (by first | decide | with_reducible assumption | omega)]; exact g3⟩
  · refine E_ifF rfl (by rw [zb_F b]; rfl) ?_
    refine E_c rfl ?_
    exact E_rti rfl ⟨⟨_, rfl⟩, WX_no (fun z => b (of_decide_eq_true z.1))⟩
end AX8
end
section
/-! the reference's does, wants, trades: what they leave (written by gen_t58.py; wants t57) -/
/-- all of the counted places but the acts stay -/
noncomputable def SAM (h h' : pm_H) : Prop := ∀ a k, (a = 83 ∨ a = 85 ∨ (a = 84 ∧ k ≠ 5)) → gi h' a k = gi h a k
theorem sp_doesE {h0 : pm_H} {d kd c x : Nat} (hh0 : HH h0) (hV : RV h0) (hK : gn h0 84 5 < 20) (hkd : kd ≤ 1) (hc7 : c ≤ 7) (hx8 : x ≤ 8) (hcond : (kd = 0 → 1 ≤ x) ∧ (¬ kd = 0 → c < gn h0 84 3 ∧ x < gn h0 84 3)) : Sp (d + 7) 238 h0 [.ref 77, .int (nJ kd), .int (nJ c), .int (nJ x)] (fun h' r => VQ h0 h' r ∧ SAM h0 h' ∧ gi h' 84 5 = nJ (gn h0 84 5 + 1)) := by
  refine Sp_of aiX9_does rfl rfl rfl ?_
  refine E_ci 3 rfl ci3 ?_
  refine E_al rfl (show pm_get (lv_args 0 [.ref 77, .int (nJ kd), .int (nJ c), .int (nJ x)]) 0 = _ from rfl) ?_
  refine E_gr rfl hh0 (q := 84) rfl ?_
  refine E_ci 5 rfl ci5 ?_
  have b1 : gn h0 84 5 ≤ 20 := gn_hi hh0 rfl (by decide)
  refine E_ial rfl hh0 rfl (by first | decide | with_reducible assumption | omega) (by decide) (gi_gn hh0 rfl (by decide)) ?_
  refine E_bin rfl (nJ_mul _ _) ?_
  refine E_is rfl (fun lv2 L2_4 kp2 => ?_)
  have L2_0 := kp2 0 _ (nbz rfl) rfl (show pm_get (lv_args 0 [.ref 77, .int (nJ kd), .int (nJ c), .int (nJ x)]) 0 = _ from rfl)
  have L2_1 := kp2 1 _ (nbz rfl) rfl (show pm_get (lv_args 0 [.ref 77, .int (nJ kd), .int (nJ c), .int (nJ x)]) 1 = _ from rfl)
  have L2_2 := kp2 2 _ (nbz rfl) rfl (show pm_get (lv_args 0 [.ref 77, .int (nJ kd), .int (nJ c), .int (nJ x)]) 2 = _ from rfl)
  have L2_3 := kp2 3 _ (nbz rfl) rfl (show pm_get (lv_args 0 [.ref 77, .int (nJ kd), .int (nJ c), .int (nJ x)]) 3 = _ from rfl)
  refine E_al rfl L2_0 ?_
  refine E_gr rfl hh0 (q := 87) rfl ?_
  refine E_il rfl L2_4 ?_
  refine E_il rfl L2_1 ?_
  refine E_ias rfl hh0 rfl (by first | decide | with_reducible assumption | omega) (by decide) ?_
  have hh3 : HH (pt h0 87 ((3 * (gn h0 84 5))) (nJ kd)) := HH_ptn hh0 (bd_87a (by first | decide | with_reducible assumption | omega) (by first | decide | with_reducible assumption | omega)) (by first | decide | with_reducible assumption | omega) (by first | decide | with_reducible assumption | omega) (by first | decide | with_reducible assumption | omega)
  have fr3 : fr_g VM h0 (pt h0 87 ((3 * (gn h0 84 5))) (nJ kd)) := fr_ptr (l := 0) (u := 299) rfl (by first | decide | with_reducible assumption | omega) (by first | decide | with_reducible assumption | omega) (fr_rf VM h0)
  refine E_al rfl L2_0 ?_
  refine E_gr rfl hh3 (q := 87) rfl ?_
  refine E_il rfl L2_4 ?_
  refine E_ci 1 rfl ci1 ?_
  refine E_bin rfl (nJ_add _ _) ?_
  refine E_il rfl L2_2 ?_
  refine E_ias rfl hh3 rfl (by first | decide | with_reducible assumption | omega) (by decide) ?_
  have hh4 : HH (pt (pt h0 87 ((3 * (gn h0 84 5))) (nJ kd)) 87 (((3 * (gn h0 84 5)) + 1)) (nJ c)) := HH_ptn hh3 (bd_87b (by first | decide | with_reducible assumption | omega) (by first | decide | with_reducible assumption | omega)) (by first | decide | with_reducible assumption | omega) (by first | decide | with_reducible assumption | omega) (by first | decide | with_reducible assumption | omega)
  have fr4 : fr_g VM h0 (pt (pt h0 87 ((3 * (gn h0 84 5))) (nJ kd)) 87 (((3 * (gn h0 84 5)) + 1)) (nJ c)) := fr_ptr (l := 0) (u := 299) rfl (by first | decide | with_reducible assumption | omega) (by first | decide | with_reducible assumption | omega) fr3
  refine E_al rfl L2_0 ?_
  refine E_gr rfl hh4 (q := 87) rfl ?_
  refine E_il rfl L2_4 ?_
  refine E_ci 2 rfl ci2 ?_
  refine E_bin rfl (nJ_add _ _) ?_
  refine E_il rfl L2_3 ?_
  refine E_ias rfl hh4 rfl (by first | decide | with_reducible assumption | omega) (by decide) ?_
  have hh5 : HH (pt (pt (pt h0 87 ((3 * (gn h0 84 5))) (nJ kd)) 87 (((3 * (gn h0 84 5)) + 1)) (nJ c)) 87 (((3 * (gn h0 84 5)) + 2)) (nJ x)) := HH_ptn hh4 (bd_87c (by first | decide | with_reducible assumption | omega) (by first | decide | with_reducible assumption | omega)) (by first | decide | with_reducible assumption | omega) (by first | decide | with_reducible assumption | omega) (by first | decide | with_reducible assumption | omega)
  have fr5 : fr_g VM h0 (pt (pt (pt h0 87 ((3 * (gn h0 84 5))) (nJ kd)) 87 (((3 * (gn h0 84 5)) + 1)) (nJ c)) 87 (((3 * (gn h0 84 5)) + 2)) (nJ x)) := fr_ptr (l := 0) (u := 299) rfl (by first | decide | with_reducible assumption | omega) (by first | decide | with_reducible assumption | omega) fr4
  refine E_al rfl L2_0 ?_
  refine E_gr rfl hh5 (q := 84) rfl ?_
  refine E_ci 5 rfl ci5 ?_
  refine E_dup2 rfl rfl rfl ?_
  refine E_ial rfl hh5 rfl (by first | decide | with_reducible assumption | omega) (by decide) (show gi (pt (pt (pt h0 87 ((3 * (gn h0 84 5))) (nJ kd)) 87 (((3 * (gn h0 84 5)) + 1)) (nJ c)) 87 (((3 * (gn h0 84 5)) + 2)) (nJ x)) 84 5 = nJ ((gn h0 84 5)) from by rw [gi_ne (by first | exact gxx rfl | omega), gi_ne (by first | exact gxx rfl | omega), gi_ne (by first | exact gxx rfl | omega)]; exact gi_gn hh0 rfl (by decide)) ?_
  refine E_ci 1 rfl ci1 ?_
  refine E_bin rfl (nJ_add _ _) ?_
  refine E_ias rfl hh5 rfl (by first | decide | with_reducible assumption | omega) (by decide) ?_
  have hh6 : HH (pt (pt (pt (pt h0 87 ((3 * (gn h0 84 5))) (nJ kd)) 87 (((3 * (gn h0 84 5)) + 1)) (nJ c)) 87 (((3 * (gn h0 84 5)) + 2)) (nJ x)) 84 5 (nJ (((gn h0 84 5) + 1)))) := HH_ptn hh5 rfl (by first | decide | with_reducible assumption | omega) (by first | decide | with_reducible assumption | omega) (by first | decide | with_reducible assumption | omega)
  have fr6 : fr_g VM h0 (pt (pt (pt (pt h0 87 ((3 * (gn h0 84 5))) (nJ kd)) 87 (((3 * (gn h0 84 5)) + 1)) (nJ c)) 87 (((3 * (gn h0 84 5)) + 2)) (nJ x)) 84 5 (nJ (((gn h0 84 5) + 1)))) := fr_ptr (l := 0) (u := 29) rfl (by first | decide | with_reducible assumption | omega) (by first | decide | with_reducible assumption | omega) fr5
  refine E_al rfl L2_0 ?_
  have V2 : RV (pt (pt (pt (pt h0 87 ((3 * (gn h0 84 5))) (nJ kd)) 87 (((3 * (gn h0 84 5)) + 1)) (nJ c)) 87 (((3 * (gn h0 84 5)) + 2)) (nJ x)) 84 5 (nJ (((gn h0 84 5) + 1)))) := RV_act hh0 hV rfl hK (gn_ptn hh5 rfl (by first | decide | with_reducible assumption | omega) (by first | decide | with_reducible assumption | omega) (by first | decide | with_reducible assumption | omega)) (fun k hk => by rw [gn_ne (fun _ => hk), gn_ne (by first | exact gxx rfl | omega), gn_ne (by first | exact gxx rfl | omega), gn_ne (by first | exact gxx rfl | omega)]) (fun k => by rw [gn_ne (by first | exact gxx rfl | omega), gn_ne (by first | exact gxx rfl | omega), gn_ne (by first | exact gxx rfl | omega), gn_ne (by first | exact gxx rfl | omega)]) (kd := kd) (c := c) (x := x) (by rw [gn_ne (by first | exact gxx rfl | omega), gn_ne (by first | exact gxx rfl | omega), gn_ne (by first | exact gxx rfl | omega), gn_ptn hh0 (bd_87a (by first | decide | with_reducible assumption | omega) (by first | decide | with_reducible assumption | omega)) (by first | decide | with_reducible assumption | omega) (by first | decide | with_reducible assumption | omega) (by first | decide | with_reducible assumption | omega)]) (by rw [gn_ne (by first | exact gxx rfl | omega), gn_ne (by first | exact gxx rfl | omega), gn_ptn hh3 (bd_87b (by first | decide | with_reducible assumption | omega) (by first | decide | with_reducible assumption | omega)) (by first | decide | with_reducible assumption | omega) (by first | decide | with_reducible assumption | omega) (by first | decide | with_reducible assumption | omega)]) (by rw [gn_ne (by first | exact gxx rfl | omega), gn_ptn hh4 (bd_87c (by first | decide | with_reducible assumption | omega) (by first | decide | with_reducible assumption | omega)) (by first | decide | with_reducible assumption | omega) (by first | decide | with_reducible assumption | omega) (by first | decide | with_reducible assumption | omega)]) (fun k k1 k2 k3 => by rw [gn_ne (by first | exact gxx rfl | omega), gn_ne (fun _ => k3), gn_ne (fun _ => k2), gn_ne (fun _ => k1)]) hcond
  refine E_call rfl (Sp_le (by first | exact Nat.add_le_add_left (Nat.le_of_ble_eq_true rfl) _ | exact Nat.le_of_ble_eq_true rfl | omega) (Sp_sum (as := [.ref 77]) q150 hh6 ⟨rfl, trivial⟩ (fun _ hq => absurd hq List.not_mem_nil) (fun i hi => by rw [List.mem_singleton.mp hi]; exact FAg_fact hh6 (V2.2 0 (by first | decide | with_reducible assumption | omega))))) (chk77 hh6 rfl rfl (by show 0 ≤ 8; decide)) (fun h7 r7 => ?_)
  rintro ⟨hh7, fq7, C7, hC7, -, -, -, rv7⟩
  have e7 : r7 = none := by have e := List.mem_singleton.mp hC7; subst e; cases r7 with | none => rfl | some v => exact rv7.elim
  rw [e7]
  have fr7 : fr_g VM h0 h7 := fr_trans fr6 (fr_wk rfl fq7)
  have V7 : RV h7 := RV_fr hh6 rfl fq7 V2
  show Ends _ _ (52, lv2, [], h7, 0, 0) _
  refine E_al rfl L2_0 ?_
  have b8 : gn h7 77 27 ≤ 255 := gn_hi hh7 rfl (by decide)
  refine E_gf rfl hh7 rfl (gi_gn hh7 rfl (by decide)) ?_
  refine E_call rfl (Sp_le (by first | exact Nat.add_le_add_left (Nat.le_of_ble_eq_true rfl) _ | exact Nat.le_of_ble_eq_true rfl | omega) (Sp_sum (as := [.int (nJ ((gn h7 77 27)))]) q616 hh7 ⟨nJ_in (by first | decide | with_reducible assumption | omega) (by first | decide | with_reducible assumption | omega), trivial⟩ (fun _ hq => absurd hq List.not_mem_nil) (fun _ hq => absurd hq List.not_mem_nil))) (chkS rfl (by show 0 ≤ 8; decide)) (fun h9 r9 => ?_)
  rintro ⟨hh9, fq9, C9, hC9, -, -, -, rv9⟩
  have hC9 : C9 ∈ [([cI 3 255], [], [], some (.inl (cI 2 8))), ([cI 1 128], [], [], some (.inl (cI 1 1))), ([cI 0 0], [], [], some (.inl (cI 0 0)))] := hC9
  obtain ⟨x9, f9⟩ : ∃ x : Int32, r9 = some (.int x) := by
    rcases List.mem_cons.mp hC9 with e | e
    · subst e; exact rv_ci rv9
    · rcases List.mem_cons.mp e with e | e
      · subst e; exact rv_ci rv9
      · have e := List.mem_singleton.mp e; subst e; exact rv_ci rv9
  rw [f9]
  have fr9 : fr_g VM h0 h9 := fr_trans fr7 (fr_wk rfl fq9)
  have V9 : RV h9 := RV_fr hh7 rfl fq9 V7
  show Ends _ _ (59, lv2, [.int x9], h9, 0, 0) _
  refine E_rti rfl ⟨⟨hh9, fr9, V9, _, rfl⟩, ?_, ?_⟩
  · intro a k hak
    rcases hak with rfl | rfl | ⟨rfl, hk⟩
    · rw [fr_gi fq9 (rg_no rfl _), fr_gi fq7 (rg_no rfl _), gi_ne (by first | exact gxx rfl | omega), gi_ne (by first | exact gxx rfl | omega), gi_ne (by first | exact gxx rfl | omega), gi_ne (by first | exact gxx rfl | omega)]
    · rw [fr_gi fq9 (rg_no rfl _), fr_gi fq7 (rg_no rfl _), gi_ne (by first | exact gxx rfl | omega), gi_ne (by first | exact gxx rfl | omega), gi_ne (by first | exact gxx rfl | omega), gi_ne (by first | exact gxx rfl | omega)]
    · rw [fr_gi fq9 (rg_no rfl _), fr_gi fq7 (rg_no rfl _), gi_ne (fun _ => hk), gi_ne (by first | exact gxx rfl | omega), gi_ne (by first | exact gxx rfl | omega), gi_ne (by first | exact gxx rfl | omega)]
  · rw [fr_gi fq9 (rg_no rfl _), fr_gi fq7 (rg_no rfl _)]
    exact gi_ptn hh5 rfl (by first | decide | with_reducible assumption | omega) (by first | decide | with_reducible assumption | omega) (by first | decide | with_reducible assumption | omega)
theorem wn_no {a : Nat} {ok : Bool} (e : ok = false) : wna ok a = a := by rw [e]; rfl
theorem wn_full {ok : Bool} : wna ok 20 = 20 := by cases ok <;> rfl
theorem wn_yes {a : Nat} {ok : Bool} (e : ok = true) (h : a < 20) : wna ok a = a + 1 := by
  rw [e]
  show (if a < 20 then a + 1 else a) = a + 1
  rw [if_pos h]
theorem pg5 {h0 : pm_H} (hh0 : HH h0) : gi (pt h0 77 0 (nJ 0)) 84 5 = nJ (gn h0 84 5) := by
  rw [gi_ne (by first | exact gxx rfl | omega)]
  exact (g84 hh0).1
theorem bif_no {p q : Bool} (h : ¬ (p = true ∧ q = true)) : (bif p then q else false) = false := by
  cases p <;> cases q <;> simp_all
theorem bif_ye {p q : Bool} (h1 : p = true) (h2 : q = true) : (bif p then q else false) = true := by
  rw [h1, h2]; rfl
section WT9
variable {h0 : pm_H} {x y : Int32}
theorem wnW (hh0 : HH h0) (h : ¬ (0 ≤ x.toInt ∧ x.toInt ≤ (gn (pt h0 77 0 (nJ 0)) 84 3 : Int) - 1) ∨ ¬ (0 < (gi (pt h0 77 0 (nJ 0)) 83 0).toInt ∧ 1 ≤ y.toInt ∧ y.toInt ≤ (gn (pt h0 77 0 (nJ 0)) 84 0 : Int))) : gi (pt h0 77 0 (nJ 0)) 84 5 = nJ (wna (bif decide (0 < (gi h0 83 0).toInt) then okW (gn h0 84 3) (gn h0 84 0) x y else false) (gn h0 84 5)) := by
  have e1 : gn (pt h0 77 0 (nJ 0)) 84 3 = gn h0 84 3 := gn_ne (by first | exact gxx rfl | omega)
  have e2 : gn (pt h0 77 0 (nJ 0)) 84 0 = gn h0 84 0 := gn_ne (by first | exact gxx rfl | omega)
  have e3 : gi (pt h0 77 0 (nJ 0)) 83 0 = gi h0 83 0 := gi_ne (by first | exact gxx rfl | omega)
  rw [e1, e2, e3] at h
  rw [wn_no (bif_no (fun q => ?_)), pg5 hh0]
  have q1 := of_decide_eq_true q.1
  have q2 : (0 ≤ x.toInt ∧ x.toInt < (gn h0 84 3 : Int)) ∧ 1 ≤ y.toInt ∧ y.toInt ≤ (gn h0 84 0 : Int) := of_decide_eq_true q.2
  omega
theorem wnT (hh0 : HH h0) (h : ¬ ((0 ≤ x.toInt ∧ x.toInt ≤ (gn (pt h0 77 0 (nJ 0)) 84 3 : Int) - 1) ∧ (0 ≤ y.toInt ∧ y.toInt ≤ (gn (pt h0 77 0 (nJ 0)) 84 3 : Int) - 1) ∧ ¬ x = y)) : gi (pt h0 77 0 (nJ 0)) 84 5 = nJ (wna (okT (gn h0 84 3) x y) (gn h0 84 5)) := by
  have e1 : gn (pt h0 77 0 (nJ 0)) 84 3 = gn h0 84 3 := gn_ne (by first | exact gxx rfl | omega)
  rw [e1] at h
  have ek : okT (gn h0 84 3) x y = false := decide_eq_false (fun q => h ⟨by omega, by omega, q.2.2⟩)
  rw [wn_no ek, pg5 hh0]
theorem wnF {ok : Bool} (hh0 : HH h0) (h : ¬ ¬ gn (pt h0 77 0 (nJ 0)) 84 5 = 20) : gi (pt h0 77 0 (nJ 0)) 84 5 = nJ (wna ok (gn h0 84 5)) := by
  have e1 : gn (pt h0 77 0 (nJ 0)) 84 5 = gn h0 84 5 := gn_ne (by first | exact gxx rfl | omega)
  rw [e1] at h
  rw [pg5 hh0, Classical.not_not.mp h, wn_full]
theorem wnY {ok : Bool} {h8 : pm_H} (hh0 : HH h0) (h : ¬ gn (pt h0 77 0 (nJ 0)) 84 5 = 20) (n8 : gi h8 84 5 = nJ (gn (pt h0 77 0 (nJ 0)) 84 5 + 1)) (e : ok = true) : gi h8 84 5 = nJ (wna ok (gn h0 84 5)) := by
  have e1 : gn (pt h0 77 0 (nJ 0)) 84 5 = gn h0 84 5 := gn_ne (by first | exact gxx rfl | omega)
  have b := (g84 hh0).2.1
  rw [e1] at h n8
  rw [n8, wn_yes e (by first | decide | with_reducible assumption | omega)]
end WT9
theorem tv_wantsE {h0 : pm_H} {d : Nat} {x y : Int32} (hh0 : HH h0) (hV : RV h0) : Sp (d + 40) 370 h0 [.ref 77, .int x, .int y] (fun h' r => VQ h0 h' r ∧ SAM h0 h' ∧ gi h' 84 5 = nJ (wna (bif decide (0 < (gi h0 83 0).toInt) then okW (gn h0 84 3) (gn h0 84 0) x y else false) (gn h0 84 5))) := by
  refine Sp_of aiX9_wants rfl rfl rfl ?_
  have L0 : pm_get (lv_args 0 [.ref 77, .int x, .int y]) 0 = some (.ref 77) := rfl
  have L1 : pm_get (lv_args 0 [.ref 77, .int x, .int y]) 1 = some (.int x) := rfl
  have L2 : pm_get (lv_args 0 [.ref 77, .int x, .int y]) 2 = some (.int y) := rfl
  generalize lv_args 0 [.ref 77, .int x, .int y] = lv at L0 L1 L2 ⊢
  refine E_al rfl L0 ?_
  refine E_ci 0 rfl ci0 ?_
  refine E_pf rfl hh0 rfl ?_
  have hh1 : HH (pt h0 77 0 (nJ 0)) := HH_ptn hh0 rfl (by first | decide | with_reducible assumption | omega) (by first | decide | with_reducible assumption | omega) (by first | decide | with_reducible assumption | omega)
  have fr1 : fr_g VM h0 (pt h0 77 0 (nJ 0)) := fr_ptr (l := 0) (u := 0) rfl (by first | decide | with_reducible assumption | omega) (by first | decide | with_reducible assumption | omega) (fr_rf VM h0)
  have V0 : RV (pt h0 77 0 (nJ 0)) := RV_fr hh0 (M := [(77, 0, 0)]) rfl (fr_ptr (l := 0) (u := 0) rfl (by first | decide | with_reducible assumption | omega) (by first | decide | with_reducible assumption | omega) (fr_rf _ _)) hV
  refine E_al rfl L0 ?_
  refine E_il rfl L1 ?_
  refine E_i2l rfl ?_
  refine E_call rfl (sp_isCar hh1) (chk77 hh1 rfl rfl (by show 0 ≤ 8; decide)) (fun h2 r2 => ?_)
  rintro ⟨e2, f2⟩
  rw [e2, f2]
  show Ends _ _ (11, lv, [.int (zb (0 ≤ x.toInt ∧ x.toInt ≤ (gn (pt h0 77 0 (nJ 0)) 84 3 : Int) - 1))], (pt h0 77 0 (nJ 0)), 0, 0) _
  by_cases hb3 : ¬ (0 ≤ x.toInt ∧ x.toInt ≤ (gn (pt h0 77 0 (nJ 0)) 84 3 : Int) - 1)
  · refine E_ifT rfl (by rw [zb_F hb3]; rfl) ?_
    refine E_c rfl ?_
    exact E_rti rfl ⟨⟨hh1, fr1, V0, _, rfl⟩, fun a k hak => gi_ne (by first | exact gxx rfl | omega), wnW hh0 (.inl hb3)⟩
  · refine E_ifF rfl (by rw [zb_T (Classical.not_not.mp hb3)]; rfl) ?_
    have hcar := Classical.not_not.mp hb3
    refine E_al rfl L0 ?_
    refine E_il rfl L2 ?_
    refine E_call rfl (Sp_le (by first | exact Nat.add_le_add_left (Nat.le_of_ble_eq_true rfl) _ | exact Nat.le_of_ble_eq_true rfl | omega) (sp_isPlace (d := 0) hh1)) (chk77 hh1 rfl rfl (by show 0 ≤ 8; decide)) (fun h4 r4 => ?_)
    rintro ⟨e4, f4⟩
    rw [e4, f4]
    show Ends _ _ (19, lv, [.int (zb (0 < (gi (pt h0 77 0 (nJ 0)) 83 0).toInt ∧ 1 ≤ y.toInt ∧ y.toInt ≤ (gn (pt h0 77 0 (nJ 0)) 84 0 : Int)))], (pt h0 77 0 (nJ 0)), 0, 0) _
    by_cases hb5 : 0 < (gi (pt h0 77 0 (nJ 0)) 83 0).toInt ∧ 1 ≤ y.toInt ∧ y.toInt ≤ (gn (pt h0 77 0 (nJ 0)) 84 0 : Int)
    · refine E_ifT rfl (by rw [zb_T hb5]; rfl) ?_
      have hC8 : gn (pt h0 77 0 (nJ 0)) 84 3 ≤ 8 := gn_hi hh1 rfl (by decide)
      have hP8 : gn (pt h0 77 0 (nJ 0)) 84 0 ≤ 8 := gn_hi hh1 rfl (by decide)
      obtain ⟨k, hk, rfl⟩ := nJ_of2 (n := gn (pt h0 77 0 (nJ 0)) 84 3 - 1) hcar.1 (by have := hcar.2; have := hcar.1; omega)
      obtain ⟨p, hp, rfl⟩ := nJ_of2 (n := gn (pt h0 77 0 (nJ 0)) 84 0) (x := y) (by have := hb5.2.1; omega) hb5.2.2
      have hp1 : 1 ≤ p := by have h9 := hb5.2.1; rw [nJ_toInt (by first | decide | with_reducible assumption | omega)] at h9; omega
      refine E_al rfl L0 ?_
      refine E_gr rfl hh1 (q := 84) rfl ?_
      refine E_ci 5 rfl ci5 ?_
      have b6 : gn (pt h0 77 0 (nJ 0)) 84 5 ≤ 20 := gn_hi hh1 rfl (by decide)
      refine E_ial rfl hh1 rfl (by first | decide | with_reducible assumption | omega) (by decide) (gi_gn hh1 rfl (by decide)) ?_
      refine E_ci 20 rfl ci20 ?_
      by_cases hb7 : ¬ (gn (pt h0 77 0 (nJ 0)) 84 5) = 20
      · refine E_icT rfl (decide_eq_true (fun q => hb7 ((nJ_eq (by first | decide | with_reducible assumption | omega) (by first | decide | with_reducible assumption | omega)).mp q))) ?_
        refine E_al rfl L0 ?_
        refine E_ci 0 rfl ci0 ?_
        refine E_il rfl L1 ?_
        refine E_il rfl L2 ?_
        refine E_call rfl (Sp_le (by first | exact Nat.add_le_add_left (Nat.le_of_ble_eq_true rfl) _ | exact Nat.le_of_ble_eq_true rfl | omega) (sp_doesE (d := 0) hh1 V0 (by first | decide | with_reducible assumption | omega) (by first | decide | with_reducible assumption | omega) (by first | decide | with_reducible assumption | omega) (by first | decide | with_reducible assumption | omega) (by first | decide | with_reducible assumption | omega))) (chk77 hh1 rfl rfl (by show 0 ≤ 8; decide)) (fun h8 r8 => ?_)
        rintro ⟨⟨hh8, fq8, V8, x8, f8⟩, m8, n8⟩
        rw [f8]
        have fr8 : fr_g VM h0 h8 := fr_trans fr1 fq8
        show Ends _ _ (48, lv, [.int x8], h8, 0, 0) _
        exact E_rti rfl ⟨⟨hh8, fr8, V8, _, rfl⟩, fun a k hak => by rw [m8 a k hak]; exact gi_ne (by first | exact gxx rfl | omega), wnY hh0 hb7 n8 (bif_ye (decide_eq_true (show 0 < (gi h0 83 0).toInt by have := hb5.1; rw [gi_ne (by first | exact gxx rfl | omega)] at this; exact this)) (decide_eq_true (by have e1 : gn (pt h0 77 0 (nJ 0)) 84 3 = gn h0 84 3 := gn_ne (by first | exact gxx rfl | omega); have e2 : gn (pt h0 77 0 (nJ 0)) 84 0 = gn h0 84 0 := gn_ne (by first | exact gxx rfl | omega); have q5 := hb5.2; rw [e1] at hcar; rw [e2] at q5; exact ⟨⟨hcar.1, by omega⟩, q5⟩)))⟩
      · refine E_icF rfl (decide_eq_false (fun q => hb7 (fun z => q ((nJ_eq (by first | decide | with_reducible assumption | omega) (by first | decide | with_reducible assumption | omega)).mpr z)))) ?_
        refine E_c rfl ?_
        refine E_goto rfl ?_
        exact E_rti rfl ⟨⟨hh1, fr1, V0, _, rfl⟩, fun a k hak => gi_ne (by first | exact gxx rfl | omega), wnF hh0 hb7⟩
    · refine E_ifF rfl (by rw [zb_F hb5]; rfl) ?_
      refine E_c rfl ?_
      exact E_rti rfl ⟨⟨hh1, fr1, V0, _, rfl⟩, fun a k hak => gi_ne (by first | exact gxx rfl | omega), wnW hh0 (.inr hb5)⟩
theorem tv_tradesE {h0 : pm_H} {d : Nat} {x y : Int32} (hh0 : HH h0) (hV : RV h0) : Sp (d + 40) 362 h0 [.ref 77, .int x, .int y] (fun h' r => VQ h0 h' r ∧ SAM h0 h' ∧ gi h' 84 5 = nJ (wna (okT (gn h0 84 3) x y) (gn h0 84 5))) := by
  refine Sp_of aiX9_trades rfl rfl rfl ?_
  have L0 : pm_get (lv_args 0 [.ref 77, .int x, .int y]) 0 = some (.ref 77) := rfl
  have L1 : pm_get (lv_args 0 [.ref 77, .int x, .int y]) 1 = some (.int x) := rfl
  have L2 : pm_get (lv_args 0 [.ref 77, .int x, .int y]) 2 = some (.int y) := rfl
  generalize lv_args 0 [.ref 77, .int x, .int y] = lv at L0 L1 L2 ⊢
  refine E_al rfl L0 ?_
  refine E_ci 0 rfl ci0 ?_
  refine E_pf rfl hh0 rfl ?_
  have hh1 : HH (pt h0 77 0 (nJ 0)) := HH_ptn hh0 rfl (by first | decide | with_reducible assumption | omega) (by first | decide | with_reducible assumption | omega) (by first | decide | with_reducible assumption | omega)
  have fr1 : fr_g VM h0 (pt h0 77 0 (nJ 0)) := fr_ptr (l := 0) (u := 0) rfl (by first | decide | with_reducible assumption | omega) (by first | decide | with_reducible assumption | omega) (fr_rf VM h0)
  have V0 : RV (pt h0 77 0 (nJ 0)) := RV_fr hh0 (M := [(77, 0, 0)]) rfl (fr_ptr (l := 0) (u := 0) rfl (by first | decide | with_reducible assumption | omega) (by first | decide | with_reducible assumption | omega) (fr_rf _ _)) hV
  refine E_al rfl L0 ?_
  refine E_il rfl L1 ?_
  refine E_il rfl L2 ?_
  refine E_call rfl (Sp_le (by first | exact Nat.add_le_add_left (Nat.le_of_ble_eq_true rfl) _ | exact Nat.le_of_ble_eq_true rfl | omega) (sp_areTwo (d := 0) hh1)) (chk77 hh1 rfl rfl (by show 0 ≤ 8; decide)) (fun h2 r2 => ?_)
  rintro ⟨e2, f2⟩
  rw [e2, f2]
  show Ends _ _ (11, lv, [.int (zb ((0 ≤ x.toInt ∧ x.toInt ≤ (gn (pt h0 77 0 (nJ 0)) 84 3 : Int) - 1) ∧ (0 ≤ y.toInt ∧ y.toInt ≤ (gn (pt h0 77 0 (nJ 0)) 84 3 : Int) - 1) ∧ ¬ x = y))], (pt h0 77 0 (nJ 0)), 0, 0) _
  by_cases hb3 : (0 ≤ x.toInt ∧ x.toInt ≤ (gn (pt h0 77 0 (nJ 0)) 84 3 : Int) - 1) ∧ (0 ≤ y.toInt ∧ y.toInt ≤ (gn (pt h0 77 0 (nJ 0)) 84 3 : Int) - 1) ∧ ¬ x = y
  · refine E_ifT rfl (by rw [zb_T hb3]; rfl) ?_
    have hC8 : gn (pt h0 77 0 (nJ 0)) 84 3 ≤ 8 := gn_hi hh1 rfl (by decide)
    obtain ⟨qa, qb, qn⟩ := id hb3
    obtain ⟨k, hk, rfl⟩ := nJ_of2 (n := gn (pt h0 77 0 (nJ 0)) 84 3 - 1) qa.1 (by have := qa.2; have := qa.1; omega)
    obtain ⟨p, hp, rfl⟩ := nJ_of2 (n := gn (pt h0 77 0 (nJ 0)) 84 3 - 1) (x := y) qb.1 (by have := qb.2; have := qb.1; omega)
    have hc1 : 1 ≤ gn (pt h0 77 0 (nJ 0)) 84 3 := by have := qa.1; have := qa.2; omega
    refine E_al rfl L0 ?_
    refine E_gr rfl hh1 (q := 84) rfl ?_
    refine E_ci 5 rfl ci5 ?_
    have b4 : gn (pt h0 77 0 (nJ 0)) 84 5 ≤ 20 := gn_hi hh1 rfl (by decide)
    refine E_ial rfl hh1 rfl (by first | decide | with_reducible assumption | omega) (by decide) (gi_gn hh1 rfl (by decide)) ?_
    refine E_ci 20 rfl ci20 ?_
    by_cases hb5 : ¬ (gn (pt h0 77 0 (nJ 0)) 84 5) = 20
    · refine E_icT rfl (decide_eq_true (fun q => hb5 ((nJ_eq (by first | decide | with_reducible assumption | omega) (by first | decide | with_reducible assumption | omega)).mp q))) ?_
      refine E_al rfl L0 ?_
      refine E_ci 1 rfl ci1 ?_
      refine E_il rfl L1 ?_
      refine E_il rfl L2 ?_
      refine E_call rfl (Sp_le (by first | exact Nat.add_le_add_left (Nat.le_of_ble_eq_true rfl) _ | exact Nat.le_of_ble_eq_true rfl | omega) (sp_doesE (d := 0) hh1 V0 (by first | decide | with_reducible assumption | omega) (by first | decide | with_reducible assumption | omega) (by first | decide | with_reducible assumption | omega) (by first | decide | with_reducible assumption | omega) (by first | decide | with_reducible assumption | omega))) (chk77 hh1 rfl rfl (by show 0 ≤ 8; decide)) (fun h6 r6 => ?_)
      rintro ⟨⟨hh6, fq6, V6, x6, f6⟩, m8, n8⟩
      rw [f6]
      have fr6 : fr_g VM h0 h6 := fr_trans fr1 fq6
      show Ends _ _ (40, lv, [.int x6], h6, 0, 0) _
      exact E_rti rfl ⟨⟨hh6, fr6, V6, _, rfl⟩, fun a k hak => by rw [m8 a k hak]; exact gi_ne (by first | exact gxx rfl | omega), wnY hh0 hb5 n8 (decide_eq_true (by have e1 : gn (pt h0 77 0 (nJ 0)) 84 3 = gn h0 84 3 := gn_ne (by first | exact gxx rfl | omega); have q3 := hb3; rw [e1] at q3; exact ⟨⟨q3.1.1, by omega⟩, ⟨q3.2.1.1, by omega⟩, q3.2.2⟩))⟩
    · refine E_icF rfl (decide_eq_false (fun q => hb5 (fun z => q ((nJ_eq (by first | decide | with_reducible assumption | omega) (by first | decide | with_reducible assumption | omega)).mpr z)))) ?_
      refine E_c rfl ?_
      refine E_goto rfl ?_
      exact E_rti rfl ⟨⟨hh1, fr1, V0, _, rfl⟩, fun a k hak => gi_ne (by first | exact gxx rfl | omega), wnF hh0 hb5⟩
  · refine E_ifF rfl (by rw [zb_F hb3]; rfl) ?_
    refine E_c rfl ?_
    exact E_rti rfl ⟨⟨hh1, fr1, V0, _, rfl⟩, fun a k hak => gi_ne (by first | exact gxx rfl | omega), wnT hh0 hb3⟩
end
section
/-! acts of the reference, exactly (written by gen_u58.py; wants t58, u56) -/
noncomputable def DO9 (h h' : pm_H) (kd c x : Nat) : Prop := gi h' 87 (3 * gn h 84 5) = nJ kd ∧ gi h' 87 (3 * gn h 84 5 + 1) = nJ c ∧ gi h' 87 (3 * gn h 84 5 + 2) = nJ x ∧ ∀ k, k ≠ 3 * gn h 84 5 → k ≠ 3 * gn h 84 5 + 1 → k ≠ 3 * gn h 84 5 + 2 → gi h' 87 k = gi h 87 k
noncomputable def AD9 (h h' : pm_H) (kd c x : Nat) : Prop := (gi h' 84 5 = gi h 84 5 ∧ ∀ k, gi h' 87 k = gi h 87 k) ∨ (gi h' 84 5 = nJ (gn h 84 5 + 1) ∧ DO9 h h' kd c x)
theorem AD9_77 {h h' : pm_H} {v : Int32} {kd c x : Nat} (n : gi h' 84 5 = nJ (gn (pt h 77 0 v) 84 5 + 1) ∧ DO9 (pt h 77 0 v) h' kd c x) : AD9 h h' kd c x := by
  have e : gn (pt h 77 0 v) 84 5 = gn h 84 5 := gn_ne (by first | exact gxx rfl | omega)
  obtain ⟨n1, d1, d2, d3, d4⟩ := n
  rw [e] at n1 d1 d2 d3 d4
  exact .inr ⟨n1, d1, d2, d3, fun k k1 k2 k3 => by rw [d4 k k1 k2 k3]; exact gi_ne (by first | exact gxx rfl | omega)⟩
theorem sp_doesX {h0 : pm_H} {d kd c x : Nat} (hh0 : HH h0) (hV : RV h0) (hK : gn h0 84 5 < 20) (hkd : kd ≤ 1) (hc7 : c ≤ 7) (hx8 : x ≤ 8) (hcond : (kd = 0 → 1 ≤ x) ∧ (¬ kd = 0 → c < gn h0 84 3 ∧ x < gn h0 84 3)) : Sp (d + 7) 238 h0 [.ref 77, .int (nJ kd), .int (nJ c), .int (nJ x)] (fun h' r => VQ h0 h' r ∧ (∀ k, gi h' 86 k = gi h0 86 k) ∧ gi h' 84 5 = nJ (gn h0 84 5 + 1) ∧ DO9 h0 h' kd c x) := by
  refine Sp_of aiX9_does rfl rfl rfl ?_
  refine E_ci 3 rfl ci3 ?_
  refine E_al rfl (show pm_get (lv_args 0 [.ref 77, .int (nJ kd), .int (nJ c), .int (nJ x)]) 0 = _ from rfl) ?_
  refine E_gr rfl hh0 (q := 84) rfl ?_
  refine E_ci 5 rfl ci5 ?_
  have b1 : gn h0 84 5 ≤ 20 := gn_hi hh0 rfl (by decide)
  refine E_ial rfl hh0 rfl (by first | decide | with_reducible assumption | omega) (by decide) (gi_gn hh0 rfl (by decide)) ?_
  refine E_bin rfl (nJ_mul _ _) ?_
  refine E_is rfl (fun lv2 L2_4 kp2 => ?_)
  have L2_0 := kp2 0 _ (nbz rfl) rfl (show pm_get (lv_args 0 [.ref 77, .int (nJ kd), .int (nJ c), .int (nJ x)]) 0 = _ from rfl)
  have L2_1 := kp2 1 _ (nbz rfl) rfl (show pm_get (lv_args 0 [.ref 77, .int (nJ kd), .int (nJ c), .int (nJ x)]) 1 = _ from rfl)
  have L2_2 := kp2 2 _ (nbz rfl) rfl (show pm_get (lv_args 0 [.ref 77, .int (nJ kd), .int (nJ c), .int (nJ x)]) 2 = _ from rfl)
  have L2_3 := kp2 3 _ (nbz rfl) rfl (show pm_get (lv_args 0 [.ref 77, .int (nJ kd), .int (nJ c), .int (nJ x)]) 3 = _ from rfl)
  refine E_al rfl L2_0 ?_
  refine E_gr rfl hh0 (q := 87) rfl ?_
  refine E_il rfl L2_4 ?_
  refine E_il rfl L2_1 ?_
  refine E_ias rfl hh0 rfl (by first | decide | with_reducible assumption | omega) (by decide) ?_
  have hh3 : HH (pt h0 87 ((3 * (gn h0 84 5))) (nJ kd)) := HH_ptn hh0 (bd_87a (by first | decide | with_reducible assumption | omega) (by first | decide | with_reducible assumption | omega)) (by first | decide | with_reducible assumption | omega) (by first | decide | with_reducible assumption | omega) (by first | decide | with_reducible assumption | omega)
  have fr3 : fr_g VM h0 (pt h0 87 ((3 * (gn h0 84 5))) (nJ kd)) := fr_ptr (l := 0) (u := 299) rfl (by first | decide | with_reducible assumption | omega) (by first | decide | with_reducible assumption | omega) (fr_rf VM h0)
  refine E_al rfl L2_0 ?_
  refine E_gr rfl hh3 (q := 87) rfl ?_
  refine E_il rfl L2_4 ?_
  refine E_ci 1 rfl ci1 ?_
  refine E_bin rfl (nJ_add _ _) ?_
  refine E_il rfl L2_2 ?_
  refine E_ias rfl hh3 rfl (by first | decide | with_reducible assumption | omega) (by decide) ?_
  have hh4 : HH (pt (pt h0 87 ((3 * (gn h0 84 5))) (nJ kd)) 87 (((3 * (gn h0 84 5)) + 1)) (nJ c)) := HH_ptn hh3 (bd_87b (by first | decide | with_reducible assumption | omega) (by first | decide | with_reducible assumption | omega)) (by first | decide | with_reducible assumption | omega) (by first | decide | with_reducible assumption | omega) (by first | decide | with_reducible assumption | omega)
  have fr4 : fr_g VM h0 (pt (pt h0 87 ((3 * (gn h0 84 5))) (nJ kd)) 87 (((3 * (gn h0 84 5)) + 1)) (nJ c)) := fr_ptr (l := 0) (u := 299) rfl (by first | decide | with_reducible assumption | omega) (by first | decide | with_reducible assumption | omega) fr3
  refine E_al rfl L2_0 ?_
  refine E_gr rfl hh4 (q := 87) rfl ?_
  refine E_il rfl L2_4 ?_
  refine E_ci 2 rfl ci2 ?_
  refine E_bin rfl (nJ_add _ _) ?_
  refine E_il rfl L2_3 ?_
  refine E_ias rfl hh4 rfl (by first | decide | with_reducible assumption | omega) (by decide) ?_
  have hh5 : HH (pt (pt (pt h0 87 ((3 * (gn h0 84 5))) (nJ kd)) 87 (((3 * (gn h0 84 5)) + 1)) (nJ c)) 87 (((3 * (gn h0 84 5)) + 2)) (nJ x)) := HH_ptn hh4 (bd_87c (by first | decide | with_reducible assumption | omega) (by first | decide | with_reducible assumption | omega)) (by first | decide | with_reducible assumption | omega) (by first | decide | with_reducible assumption | omega) (by first | decide | with_reducible assumption | omega)
  have fr5 : fr_g VM h0 (pt (pt (pt h0 87 ((3 * (gn h0 84 5))) (nJ kd)) 87 (((3 * (gn h0 84 5)) + 1)) (nJ c)) 87 (((3 * (gn h0 84 5)) + 2)) (nJ x)) := fr_ptr (l := 0) (u := 299) rfl (by first | decide | with_reducible assumption | omega) (by first | decide | with_reducible assumption | omega) fr4
  refine E_al rfl L2_0 ?_
  refine E_gr rfl hh5 (q := 84) rfl ?_
  refine E_ci 5 rfl ci5 ?_
  refine E_dup2 rfl rfl rfl ?_
  refine E_ial rfl hh5 rfl (by first | decide | with_reducible assumption | omega) (by decide) (show gi (pt (pt (pt h0 87 ((3 * (gn h0 84 5))) (nJ kd)) 87 (((3 * (gn h0 84 5)) + 1)) (nJ c)) 87 (((3 * (gn h0 84 5)) + 2)) (nJ x)) 84 5 = nJ ((gn h0 84 5)) from by rw [gi_ne (by first | exact gxx rfl | omega), gi_ne (by first | exact gxx rfl | omega), gi_ne (by first | exact gxx rfl | omega)]; exact gi_gn hh0 rfl (by decide)) ?_
  refine E_ci 1 rfl ci1 ?_
  refine E_bin rfl (nJ_add _ _) ?_
  refine E_ias rfl hh5 rfl (by first | decide | with_reducible assumption | omega) (by decide) ?_
  have hh6 : HH (pt (pt (pt (pt h0 87 ((3 * (gn h0 84 5))) (nJ kd)) 87 (((3 * (gn h0 84 5)) + 1)) (nJ c)) 87 (((3 * (gn h0 84 5)) + 2)) (nJ x)) 84 5 (nJ (((gn h0 84 5) + 1)))) := HH_ptn hh5 rfl (by first | decide | with_reducible assumption | omega) (by first | decide | with_reducible assumption | omega) (by first | decide | with_reducible assumption | omega)
  have fr6 : fr_g VM h0 (pt (pt (pt (pt h0 87 ((3 * (gn h0 84 5))) (nJ kd)) 87 (((3 * (gn h0 84 5)) + 1)) (nJ c)) 87 (((3 * (gn h0 84 5)) + 2)) (nJ x)) 84 5 (nJ (((gn h0 84 5) + 1)))) := fr_ptr (l := 0) (u := 29) rfl (by first | decide | with_reducible assumption | omega) (by first | decide | with_reducible assumption | omega) fr5
  refine E_al rfl L2_0 ?_
  have V2 : RV (pt (pt (pt (pt h0 87 ((3 * (gn h0 84 5))) (nJ kd)) 87 (((3 * (gn h0 84 5)) + 1)) (nJ c)) 87 (((3 * (gn h0 84 5)) + 2)) (nJ x)) 84 5 (nJ (((gn h0 84 5) + 1)))) := RV_act hh0 hV rfl hK (gn_ptn hh5 rfl (by first | decide | with_reducible assumption | omega) (by first | decide | with_reducible assumption | omega) (by first | decide | with_reducible assumption | omega)) (fun k hk => by rw [gn_ne (fun _ => hk), gn_ne (by first | exact gxx rfl | omega), gn_ne (by first | exact gxx rfl | omega), gn_ne (by first | exact gxx rfl | omega)]) (fun k => by rw [gn_ne (by first | exact gxx rfl | omega), gn_ne (by first | exact gxx rfl | omega), gn_ne (by first | exact gxx rfl | omega), gn_ne (by first | exact gxx rfl | omega)]) (kd := kd) (c := c) (x := x) (by rw [gn_ne (by first | exact gxx rfl | omega), gn_ne (by first | exact gxx rfl | omega), gn_ne (by first | exact gxx rfl | omega), gn_ptn hh0 (bd_87a (by first | decide | with_reducible assumption | omega) (by first | decide | with_reducible assumption | omega)) (by first | decide | with_reducible assumption | omega) (by first | decide | with_reducible assumption | omega) (by first | decide | with_reducible assumption | omega)]) (by rw [gn_ne (by first | exact gxx rfl | omega), gn_ne (by first | exact gxx rfl | omega), gn_ptn hh3 (bd_87b (by first | decide | with_reducible assumption | omega) (by first | decide | with_reducible assumption | omega)) (by first | decide | with_reducible assumption | omega) (by first | decide | with_reducible assumption | omega) (by first | decide | with_reducible assumption | omega)]) (by rw [gn_ne (by first | exact gxx rfl | omega), gn_ptn hh4 (bd_87c (by first | decide | with_reducible assumption | omega) (by first | decide | with_reducible assumption | omega)) (by first | decide | with_reducible assumption | omega) (by first | decide | with_reducible assumption | omega) (by first | decide | with_reducible assumption | omega)]) (fun k k1 k2 k3 => by rw [gn_ne (by first | exact gxx rfl | omega), gn_ne (fun _ => k3), gn_ne (fun _ => k2), gn_ne (fun _ => k1)]) hcond
  refine E_call rfl (Sp_le (by first | exact Nat.add_le_add_left (Nat.le_of_ble_eq_true rfl) _ | exact Nat.le_of_ble_eq_true rfl | omega) (Sp_sum (as := [.ref 77]) q150 hh6 ⟨rfl, trivial⟩ (fun _ hq => absurd hq List.not_mem_nil) (fun i hi => by rw [List.mem_singleton.mp hi]; exact FAg_fact hh6 (V2.2 0 (by first | decide | with_reducible assumption | omega))))) (chk77 hh6 rfl rfl (by show 0 ≤ 8; decide)) (fun h7 r7 => ?_)
  rintro ⟨hh7, fq7, C7, hC7, -, -, -, rv7⟩
  have e7 : r7 = none := by have e := List.mem_singleton.mp hC7; subst e; cases r7 with | none => rfl | some v => exact rv7.elim
  rw [e7]
  have fr7 : fr_g VM h0 h7 := fr_trans fr6 (fr_wk rfl fq7)
  have V7 : RV h7 := RV_fr hh6 rfl fq7 V2
  show Ends _ _ (52, lv2, [], h7, 0, 0) _
  refine E_al rfl L2_0 ?_
  have b8 : gn h7 77 27 ≤ 255 := gn_hi hh7 rfl (by decide)
  refine E_gf rfl hh7 rfl (gi_gn hh7 rfl (by decide)) ?_
  refine E_call rfl (Sp_le (by first | exact Nat.add_le_add_left (Nat.le_of_ble_eq_true rfl) _ | exact Nat.le_of_ble_eq_true rfl | omega) (Sp_sum (as := [.int (nJ ((gn h7 77 27)))]) q616 hh7 ⟨nJ_in (by first | decide | with_reducible assumption | omega) (by first | decide | with_reducible assumption | omega), trivial⟩ (fun _ hq => absurd hq List.not_mem_nil) (fun _ hq => absurd hq List.not_mem_nil))) (chkS rfl (by show 0 ≤ 8; decide)) (fun h9 r9 => ?_)
  rintro ⟨hh9, fq9, C9, hC9, -, -, -, rv9⟩
  have hC9 : C9 ∈ [([cI 3 255], [], [], some (.inl (cI 2 8))), ([cI 1 128], [], [], some (.inl (cI 1 1))), ([cI 0 0], [], [], some (.inl (cI 0 0)))] := hC9
  obtain ⟨x9, f9⟩ : ∃ x : Int32, r9 = some (.int x) := by
    rcases List.mem_cons.mp hC9 with e | e
    · subst e; exact rv_ci rv9
    · rcases List.mem_cons.mp e with e | e
      · subst e; exact rv_ci rv9
      · have e := List.mem_singleton.mp e; subst e; exact rv_ci rv9
  rw [f9]
  have fr9 : fr_g VM h0 h9 := fr_trans fr7 (fr_wk rfl fq9)
  have V9 : RV h9 := RV_fr hh7 rfl fq9 V7
  show Ends _ _ (59, lv2, [.int x9], h9, 0, 0) _
  refine E_rti rfl ⟨⟨hh9, fr9, V9, _, rfl⟩, fun k => ?_, ?_, ?_, ?_, ?_, fun k k1 k2 k3 => ?_⟩
  · rw [fr_gi fq9 (rg_no rfl _), fr_gi fq7 (rg_no rfl _), gi_ne (by first | exact gxx rfl | omega), gi_ne (by first | exact gxx rfl | omega), gi_ne (by first | exact gxx rfl | omega), gi_ne (by first | exact gxx rfl | omega)]
  · rw [fr_gi fq9 (rg_no rfl _), fr_gi fq7 (rg_no rfl _)]
    exact gi_ptn hh5 rfl (by first | decide | with_reducible assumption | omega) (by first | decide | with_reducible assumption | omega) (by first | decide | with_reducible assumption | omega)
  · rw [fr_gi fq9 (rg_no rfl _), fr_gi fq7 (rg_no rfl _), gi_ne (by first | exact gxx rfl | omega), gi_ne (by first | exact gxx rfl | omega), gi_ne (by first | exact gxx rfl | omega)]
    exact gi_ptn hh0 (bd_87a (by first | decide | with_reducible assumption | omega) (by first | decide | with_reducible assumption | omega)) (by first | decide | with_reducible assumption | omega) (by first | decide | with_reducible assumption | omega) (by first | decide | with_reducible assumption | omega)
  · rw [fr_gi fq9 (rg_no rfl _), fr_gi fq7 (rg_no rfl _), gi_ne (by first | exact gxx rfl | omega), gi_ne (by first | exact gxx rfl | omega)]
    exact gi_ptn hh3 (bd_87b (by first | decide | with_reducible assumption | omega) (by first | decide | with_reducible assumption | omega)) (by first | decide | with_reducible assumption | omega) (by first | decide | with_reducible assumption | omega) (by first | decide | with_reducible assumption | omega)
  · rw [fr_gi fq9 (rg_no rfl _), fr_gi fq7 (rg_no rfl _), gi_ne (by first | exact gxx rfl | omega)]
    exact gi_ptn hh4 (bd_87c (by first | decide | with_reducible assumption | omega) (by first | decide | with_reducible assumption | omega)) (by first | decide | with_reducible assumption | omega) (by first | decide | with_reducible assumption | omega) (by first | decide | with_reducible assumption | omega)
  · rw [fr_gi fq9 (rg_no rfl _), fr_gi fq7 (rg_no rfl _), gi_ne (by first | exact gxx rfl | omega), gi_ne (fun _ => k3), gi_ne (fun _ => k2), gi_ne (fun _ => k1)]
theorem tv_wantsX {h0 : pm_H} {d : Nat} {x y : Int32} (hh0 : HH h0) (hV : RV h0) : Sp (d + 40) 370 h0 [.ref 77, .int x, .int y] (fun h' r => VQ h0 h' r ∧ (∀ k, gi h' 86 k = gi h0 86 k) ∧ AD9 h0 h' 0 x.toInt.toNat y.toInt.toNat) := by
  refine Sp_of aiX9_wants rfl rfl rfl ?_
  have L0 : pm_get (lv_args 0 [.ref 77, .int x, .int y]) 0 = some (.ref 77) := rfl
  have L1 : pm_get (lv_args 0 [.ref 77, .int x, .int y]) 1 = some (.int x) := rfl
  have L2 : pm_get (lv_args 0 [.ref 77, .int x, .int y]) 2 = some (.int y) := rfl
  generalize lv_args 0 [.ref 77, .int x, .int y] = lv at L0 L1 L2 ⊢
  refine E_al rfl L0 ?_
  refine E_ci 0 rfl ci0 ?_
  refine E_pf rfl hh0 rfl ?_
  have hh1 : HH (pt h0 77 0 (nJ 0)) := HH_ptn hh0 rfl (by first | decide | with_reducible assumption | omega) (by first | decide | with_reducible assumption | omega) (by first | decide | with_reducible assumption | omega)
  have fr1 : fr_g VM h0 (pt h0 77 0 (nJ 0)) := fr_ptr (l := 0) (u := 0) rfl (by first | decide | with_reducible assumption | omega) (by first | decide | with_reducible assumption | omega) (fr_rf VM h0)
  have V0 : RV (pt h0 77 0 (nJ 0)) := RV_fr hh0 (M := [(77, 0, 0)]) rfl (fr_ptr (l := 0) (u := 0) rfl (by first | decide | with_reducible assumption | omega) (by first | decide | with_reducible assumption | omega) (fr_rf _ _)) hV
  refine E_al rfl L0 ?_
  refine E_il rfl L1 ?_
  refine E_i2l rfl ?_
  refine E_call rfl (sp_isCar hh1) (chk77 hh1 rfl rfl (by show 0 ≤ 8; decide)) (fun h2 r2 => ?_)
  rintro ⟨e2, f2⟩
  rw [e2, f2]
  show Ends _ _ (11, lv, [.int (zb (0 ≤ x.toInt ∧ x.toInt ≤ (gn (pt h0 77 0 (nJ 0)) 84 3 : Int) - 1))], (pt h0 77 0 (nJ 0)), 0, 0) _
  by_cases hb3 : ¬ (0 ≤ x.toInt ∧ x.toInt ≤ (gn (pt h0 77 0 (nJ 0)) 84 3 : Int) - 1)
  · refine E_ifT rfl (by rw [zb_F hb3]; rfl) ?_
    refine E_c rfl ?_
    exact E_rti rfl ⟨⟨hh1, fr1, V0, _, rfl⟩, fun k => gi_ne (by first | exact gxx rfl | omega), .inl ⟨gi_ne (by first | exact gxx rfl | omega), fun k => gi_ne (by first | exact gxx rfl | omega)⟩⟩
  · refine E_ifF rfl (by rw [zb_T (Classical.not_not.mp hb3)]; rfl) ?_
    have hcar := Classical.not_not.mp hb3
    refine E_al rfl L0 ?_
    refine E_il rfl L2 ?_
    refine E_call rfl (Sp_le (by first | exact Nat.add_le_add_left (Nat.le_of_ble_eq_true rfl) _ | exact Nat.le_of_ble_eq_true rfl | omega) (sp_isPlace (d := 0) hh1)) (chk77 hh1 rfl rfl (by show 0 ≤ 8; decide)) (fun h4 r4 => ?_)
    rintro ⟨e4, f4⟩
    rw [e4, f4]
    show Ends _ _ (19, lv, [.int (zb (0 < (gi (pt h0 77 0 (nJ 0)) 83 0).toInt ∧ 1 ≤ y.toInt ∧ y.toInt ≤ (gn (pt h0 77 0 (nJ 0)) 84 0 : Int)))], (pt h0 77 0 (nJ 0)), 0, 0) _
    by_cases hb5 : 0 < (gi (pt h0 77 0 (nJ 0)) 83 0).toInt ∧ 1 ≤ y.toInt ∧ y.toInt ≤ (gn (pt h0 77 0 (nJ 0)) 84 0 : Int)
    · refine E_ifT rfl (by rw [zb_T hb5]; rfl) ?_
      have hC8 : gn (pt h0 77 0 (nJ 0)) 84 3 ≤ 8 := gn_hi hh1 rfl (by decide)
      have hP8 : gn (pt h0 77 0 (nJ 0)) 84 0 ≤ 8 := gn_hi hh1 rfl (by decide)
      obtain ⟨k, hk, rfl⟩ := nJ_of2 (n := gn (pt h0 77 0 (nJ 0)) 84 3 - 1) hcar.1 (by have := hcar.2; have := hcar.1; omega)
      obtain ⟨p, hp, rfl⟩ := nJ_of2 (n := gn (pt h0 77 0 (nJ 0)) 84 0) (x := y) (by have := hb5.2.1; omega) hb5.2.2
      have hp1 : 1 ≤ p := by have h9 := hb5.2.1; rw [nJ_toInt (by first | decide | with_reducible assumption | omega)] at h9; omega
      refine E_al rfl L0 ?_
      refine E_gr rfl hh1 (q := 84) rfl ?_
      refine E_ci 5 rfl ci5 ?_
      have b6 : gn (pt h0 77 0 (nJ 0)) 84 5 ≤ 20 := gn_hi hh1 rfl (by decide)
      refine E_ial rfl hh1 rfl (by first | decide | with_reducible assumption | omega) (by decide) (gi_gn hh1 rfl (by decide)) ?_
      refine E_ci 20 rfl ci20 ?_
      by_cases hb7 : ¬ (gn (pt h0 77 0 (nJ 0)) 84 5) = 20
      · refine E_icT rfl (decide_eq_true (fun q => hb7 ((nJ_eq (by first | decide | with_reducible assumption | omega) (by first | decide | with_reducible assumption | omega)).mp q))) ?_
        refine E_al rfl L0 ?_
        refine E_ci 0 rfl ci0 ?_
        refine E_il rfl L1 ?_
        refine E_il rfl L2 ?_
        refine E_call rfl (Sp_le (by first | exact Nat.add_le_add_left (Nat.le_of_ble_eq_true rfl) _ | exact Nat.le_of_ble_eq_true rfl | omega) (sp_doesX (d := 0) hh1 V0 (by first | decide | with_reducible assumption | omega) (by first | decide | with_reducible assumption | omega) (by first | decide | with_reducible assumption | omega) (by first | decide | with_reducible assumption | omega) (by first | decide | with_reducible assumption | omega))) (chk77 hh1 rfl rfl (by show 0 ≤ 8; decide)) (fun h8 r8 => ?_)
        rintro ⟨⟨hh8, fq8, V8, x8, f8⟩, m8, n8⟩
        rw [f8]
        have fr8 : fr_g VM h0 h8 := fr_trans fr1 fq8
        show Ends _ _ (48, lv, [.int x8], h8, 0, 0) _
        exact E_rti rfl ⟨⟨hh8, fr8, V8, _, rfl⟩, fun k => by rw [m8 k]; exact gi_ne (by first | exact gxx rfl | omega), by rw [nJ_toInt (by first | decide | with_reducible assumption | omega), nJ_toInt (by first | decide | with_reducible assumption | omega)]; exact AD9_77 n8⟩
      · refine E_icF rfl (decide_eq_false (fun q => hb7 (fun z => q ((nJ_eq (by first | decide | with_reducible assumption | omega) (by first | decide | with_reducible assumption | omega)).mpr z)))) ?_
        refine E_c rfl ?_
        refine E_goto rfl ?_
        exact E_rti rfl ⟨⟨hh1, fr1, V0, _, rfl⟩, fun k => gi_ne (by first | exact gxx rfl | omega), .inl ⟨gi_ne (by first | exact gxx rfl | omega), fun k => gi_ne (by first | exact gxx rfl | omega)⟩⟩
    · refine E_ifF rfl (by rw [zb_F hb5]; rfl) ?_
      refine E_c rfl ?_
      exact E_rti rfl ⟨⟨hh1, fr1, V0, _, rfl⟩, fun k => gi_ne (by first | exact gxx rfl | omega), .inl ⟨gi_ne (by first | exact gxx rfl | omega), fun k => gi_ne (by first | exact gxx rfl | omega)⟩⟩
theorem tv_tradesX {h0 : pm_H} {d : Nat} {x y : Int32} (hh0 : HH h0) (hV : RV h0) : Sp (d + 40) 362 h0 [.ref 77, .int x, .int y] (fun h' r => VQ h0 h' r ∧ (∀ k, gi h' 86 k = gi h0 86 k) ∧ AD9 h0 h' 1 x.toInt.toNat y.toInt.toNat) := by
  refine Sp_of aiX9_trades rfl rfl rfl ?_
  have L0 : pm_get (lv_args 0 [.ref 77, .int x, .int y]) 0 = some (.ref 77) := rfl
  have L1 : pm_get (lv_args 0 [.ref 77, .int x, .int y]) 1 = some (.int x) := rfl
  have L2 : pm_get (lv_args 0 [.ref 77, .int x, .int y]) 2 = some (.int y) := rfl
  generalize lv_args 0 [.ref 77, .int x, .int y] = lv at L0 L1 L2 ⊢
  refine E_al rfl L0 ?_
  refine E_ci 0 rfl ci0 ?_
  refine E_pf rfl hh0 rfl ?_
  have hh1 : HH (pt h0 77 0 (nJ 0)) := HH_ptn hh0 rfl (by first | decide | with_reducible assumption | omega) (by first | decide | with_reducible assumption | omega) (by first | decide | with_reducible assumption | omega)
  have fr1 : fr_g VM h0 (pt h0 77 0 (nJ 0)) := fr_ptr (l := 0) (u := 0) rfl (by first | decide | with_reducible assumption | omega) (by first | decide | with_reducible assumption | omega) (fr_rf VM h0)
  have V0 : RV (pt h0 77 0 (nJ 0)) := RV_fr hh0 (M := [(77, 0, 0)]) rfl (fr_ptr (l := 0) (u := 0) rfl (by first | decide | with_reducible assumption | omega) (by first | decide | with_reducible assumption | omega) (fr_rf _ _)) hV
  refine E_al rfl L0 ?_
  refine E_il rfl L1 ?_
  refine E_il rfl L2 ?_
  refine E_call rfl (Sp_le (by first | exact Nat.add_le_add_left (Nat.le_of_ble_eq_true rfl) _ | exact Nat.le_of_ble_eq_true rfl | omega) (sp_areTwo (d := 0) hh1)) (chk77 hh1 rfl rfl (by show 0 ≤ 8; decide)) (fun h2 r2 => ?_)
  rintro ⟨e2, f2⟩
  rw [e2, f2]
  show Ends _ _ (11, lv, [.int (zb ((0 ≤ x.toInt ∧ x.toInt ≤ (gn (pt h0 77 0 (nJ 0)) 84 3 : Int) - 1) ∧ (0 ≤ y.toInt ∧ y.toInt ≤ (gn (pt h0 77 0 (nJ 0)) 84 3 : Int) - 1) ∧ ¬ x = y))], (pt h0 77 0 (nJ 0)), 0, 0) _
  by_cases hb3 : (0 ≤ x.toInt ∧ x.toInt ≤ (gn (pt h0 77 0 (nJ 0)) 84 3 : Int) - 1) ∧ (0 ≤ y.toInt ∧ y.toInt ≤ (gn (pt h0 77 0 (nJ 0)) 84 3 : Int) - 1) ∧ ¬ x = y
  · refine E_ifT rfl (by rw [zb_T hb3]; rfl) ?_
    have hC8 : gn (pt h0 77 0 (nJ 0)) 84 3 ≤ 8 := gn_hi hh1 rfl (by decide)
    obtain ⟨qa, qb, qn⟩ := id hb3
    obtain ⟨k, hk, rfl⟩ := nJ_of2 (n := gn (pt h0 77 0 (nJ 0)) 84 3 - 1) qa.1 (by have := qa.2; have := qa.1; omega)
    obtain ⟨p, hp, rfl⟩ := nJ_of2 (n := gn (pt h0 77 0 (nJ 0)) 84 3 - 1) (x := y) qb.1 (by have := qb.2; have := qb.1; omega)
    have hc1 : 1 ≤ gn (pt h0 77 0 (nJ 0)) 84 3 := by have := qa.1; have := qa.2; omega
    refine E_al rfl L0 ?_
    refine E_gr rfl hh1 (q := 84) rfl ?_
    refine E_ci 5 rfl ci5 ?_
    have b4 : gn (pt h0 77 0 (nJ 0)) 84 5 ≤ 20 := gn_hi hh1 rfl (by decide)
    refine E_ial rfl hh1 rfl (by first | decide | with_reducible assumption | omega) (by decide) (gi_gn hh1 rfl (by decide)) ?_
    refine E_ci 20 rfl ci20 ?_
    by_cases hb5 : ¬ (gn (pt h0 77 0 (nJ 0)) 84 5) = 20
    · refine E_icT rfl (decide_eq_true (fun q => hb5 ((nJ_eq (by first | decide | with_reducible assumption | omega) (by first | decide | with_reducible assumption | omega)).mp q))) ?_
      refine E_al rfl L0 ?_
      refine E_ci 1 rfl ci1 ?_
      refine E_il rfl L1 ?_
      refine E_il rfl L2 ?_
      refine E_call rfl (Sp_le (by first | exact Nat.add_le_add_left (Nat.le_of_ble_eq_true rfl) _ | exact Nat.le_of_ble_eq_true rfl | omega) (sp_doesX (d := 0) hh1 V0 (by first | decide | with_reducible assumption | omega) (by first | decide | with_reducible assumption | omega) (by first | decide | with_reducible assumption | omega) (by first | decide | with_reducible assumption | omega) (by first | decide | with_reducible assumption | omega))) (chk77 hh1 rfl rfl (by show 0 ≤ 8; decide)) (fun h6 r6 => ?_)
      rintro ⟨⟨hh6, fq6, V6, x6, f6⟩, m8, n8⟩
      rw [f6]
      have fr6 : fr_g VM h0 h6 := fr_trans fr1 fq6
      show Ends _ _ (40, lv, [.int x6], h6, 0, 0) _
      exact E_rti rfl ⟨⟨hh6, fr6, V6, _, rfl⟩, fun k => by rw [m8 k]; exact gi_ne (by first | exact gxx rfl | omega), by rw [nJ_toInt (by first | decide | with_reducible assumption | omega), nJ_toInt (by first | decide | with_reducible assumption | omega)]; exact AD9_77 n8⟩
    · refine E_icF rfl (decide_eq_false (fun q => hb5 (fun z => q ((nJ_eq (by first | decide | with_reducible assumption | omega) (by first | decide | with_reducible assumption | omega)).mpr z)))) ?_
      refine E_c rfl ?_
      refine E_goto rfl ?_
      exact E_rti rfl ⟨⟨hh1, fr1, V0, _, rfl⟩, fun k => gi_ne (by first | exact gxx rfl | omega), .inl ⟨gi_ne (by first | exact gxx rfl | omega), fun k => gi_ne (by first | exact gxx rfl | omega)⟩⟩
  · refine E_ifF rfl (by rw [zb_F hb3]; rfl) ?_
    refine E_c rfl ?_
    exact E_rti rfl ⟨⟨hh1, fr1, V0, _, rfl⟩, fun k => gi_ne (by first | exact gxx rfl | omega), .inl ⟨gi_ne (by first | exact gxx rfl | omega), fun k => gi_ne (by first | exact gxx rfl | omega)⟩⟩
theorem sp_rate9X {h : pm_H} {d : Nat} {x y : Int32} (hh : HH h) : Sp (d + 3) 329 h [.ref 77, .int x, .int y] (fun h' r => r = some (.int (rtv (gn h 84 3) (gn h 84 5) (fun i => gi h 85 (2 * i + 1)) x y)) ∧ ∀ i, gi h' 85 (2 * i) = gi h 85 (2 * i)) := by
  obtain ⟨a5, a6, a3, -⟩ := g84 hh
  refine Sp_of aiX9_rate rfl rfl rfl ?_
  have L0 : pm_get (lv_args 0 [.ref 77, .int x, .int y]) 0 = some (.ref 77) := rfl
  have L1 : pm_get (lv_args 0 [.ref 77, .int x, .int y]) 1 = some (.int x) := rfl
  have L2 : pm_get (lv_args 0 [.ref 77, .int x, .int y]) 2 = some (.int y) := rfl
  generalize lv_args 0 [.ref 77, .int x, .int y] = lv at L0 L1 L2 ⊢
  refine E_al rfl L0 ?_
  refine E_ci 0 rfl ci0 ?_
  refine E_pf rfl hh rfl ?_
  have hg : HH (pt h 77 0 (nJ 0)) := HH_ptn hh rfl (by first | decide | with_reducible assumption | omega) (by first | decide | with_reducible assumption | omega) (by first | decide | with_reducible assumption | omega)
  have F : fr_g [(77, 0, 0), (85, 1, 15)] h (pt h 77 0 (nJ 0)) := fr_ptr (l := 0) (u := 0) rfl (by first | decide | with_reducible assumption | omega) (by first | decide | with_reducible assumption | omega) (fr_rf _ _)
  have g5 : gi (pt h 77 0 (nJ 0)) 84 5 = nJ (gn h 84 5) := by rw [gi_ne (by first | exact gxx rfl | omega)]; exact a5
  have g3 : gn (pt h 77 0 (nJ 0)) 84 3 = gn h 84 3 := gn_ne (by first | exact gxx rfl | omega)
  have g85 : ∀ k, gi (pt h 77 0 (nJ 0)) 85 k = gi h 85 k := fun k => gi_ne (by first | exact gxx rfl | omega)
  generalize pt h 77 0 (nJ 0) = g at hg F g5 g3 g85 ⊢
  have no : ¬ ((0 ≤ x.toInt ∧ x.toInt < (gn h 84 3 : Int)) ∧ 0 ≤ y.toInt ∧ y.toInt ≤ 99) → Ends (pm_at tX9_rate) (pm_Rt pm_P (d + 2)) (26, lv, [], g, 0, 0) (fun h' r => r = some (.int (rtv (gn h 84 3) (gn h 84 5) (fun i => gi h 85 (2 * i + 1)) x y)) ∧ ∀ i, gi h' 85 (2 * i) = gi h 85 (2 * i)) := by
    intro q
    refine E_c rfl ?_
    exact E_rti rfl ⟨by unfold rtv; rw [if_neg q], fun i => g85 _⟩
  refine E_al rfl L0 ?_
  refine E_il rfl L1 ?_
  refine E_i2l rfl ?_
  refine E_call rfl (sp_isCar (d := d) hg) (chk77 hg rfl rfl (by show 0 ≤ 8; decide)) (fun h1 r1 => ?_)
  rintro ⟨e1, f1⟩
  rw [e1, f1, g3]
  by_cases b1 : 0 ≤ x.toInt ∧ x.toInt ≤ (gn h 84 3 : Int) - 1
  · refine E_ifF rfl (by rw [zb_T b1]; rfl) ?_
    refine E_il rfl L2 ?_
    refine E_i2l rfl ?_
    refine E_c rfl ?_
    refine E_c rfl ?_
    refine E_call rfl (sp_in (a := y.toInt) (b := 0) (c := 99) (i2l_toInt _) rfl rfl) (chkS rfl (by show 0 ≤ 8; decide)) (fun h2 r2 => ?_)
    rintro ⟨e2, f2⟩
    rw [e2, f2]
    by_cases b2 : 0 ≤ y.toInt ∧ y.toInt ≤ 99
    · refine E_ifT rfl (by rw [zb_T b2]; rfl) ?_
      obtain ⟨c, hc, rfl⟩ : ∃ c, c < 8 ∧ x = nJ c := ⟨x.toInt.toNat, by omega, nJ_of b1.1⟩
      have xc := nJ_toInt (n := c) (by first | decide | with_reducible assumption | omega)
      have ec : (nJ c).toInt.toNat = c := by omega
      have ok : (0 ≤ (nJ c).toInt ∧ (nJ c).toInt < (gn h 84 3 : Int)) ∧ 0 ≤ y.toInt ∧ y.toInt ≤ 99 := ⟨by omega, b2⟩
      refine E_al rfl L0 ?_
      refine E_gr rfl hg (q := 84) rfl ?_
      refine E_ci 5 rfl ci5 ?_
      refine E_ial rfl hg rfl (by first | decide | with_reducible assumption | omega) (by decide) g5 ?_
      by_cases b4 : gn h 84 5 = 0
      · refine E_ifT rfl (decide_eq_true ((nJ_le0 (by first | decide | with_reducible assumption | omega)).mpr b4)) ?_
        refine E_al rfl L0 ?_
        refine E_gr rfl hg (q := 85) rfl ?_
        refine E_ci 2 rfl ci2 ?_
        refine E_il rfl L1 ?_
        refine E_bin rfl (nJ_mul _ _) ?_
        refine E_ci 1 rfl ci1 ?_
        refine E_bin rfl (nJ_add _ _) ?_
        refine E_ial rfl hg rfl (by first | decide | with_reducible assumption | omega) (by decide) (g85 (2 * c + 1)) ?_
        refine E_is rfl (fun lv1 K3 kp => ?_)
        refine E_al rfl (kp 0 _ (nbz rfl) rfl L0) ?_
        refine E_gr rfl hg (q := 85) rfl ?_
        refine E_ci 2 rfl ci2 ?_
        refine E_il rfl (kp 1 _ (nbz rfl) rfl L1) ?_
        refine E_bin rfl (nJ_mul _ _) ?_
        refine E_ci 1 rfl ci1 ?_
        refine E_bin rfl (nJ_add _ _) ?_
        refine E_il rfl (kp 2 _ (nbz rfl) rfl L2) ?_
        refine E_ias rfl hg rfl (by first | decide | with_reducible assumption | omega) (by decide) ?_
        refine E_il rfl K3 ?_
        have b85 : bd 85 (2 * c + 1) = some (0, 99) := bd_85o (by first | decide | with_reducible assumption | omega) (by first | decide | with_reducible assumption | omega)
        exact E_rti rfl ⟨by unfold rtv; rw [if_pos ok, if_pos b4, ec], fun i => by rw [gi_ne (by first | exact gxx rfl | omega)]; exact g85 _⟩
      · refine E_ifF rfl (decide_eq_false (fun z => b4 ((nJ_le0 (by first | decide | with_reducible assumption | omega)).mp z))) ?_
        refine E_c rfl ?_
        exact E_rti rfl ⟨by unfold rtv; rw [if_pos ok, if_neg b4], fun i => g85 _⟩
    · refine E_ifF rfl (by rw [zb_F b2]; rfl) ?_
      exact no (fun q => b2 q.2)
  · refine E_ifT rfl (by rw [zb_F b1]; rfl) ?_
    exact no (fun q => b1 (by first | decide | with_reducible assumption | omega))
end
section
/-! count of both; image and back of both, exactly (written by gen_t59.py; wants t32, t52 with all pairs, t53) -/
noncomputable def sct (f : Nat → Int32) : Nat → Nat
  | 0 => 0
  | n + 1 => sct f n + (if f n = 0 then 0 else 1)
theorem sct_eq {f g : Nat → Int32} : ∀ {n : Nat}, (∀ i, i < n → f i = g i) → sct f n = sct g n
  | 0, _ => rfl
  | n + 1, e => by
    show sct f n + (if f n = 0 then 0 else 1) = sct g n + (if g n = 0 then 0 else 1)
    rw [sct_eq (fun i hi => e i (Nat.lt_succ_of_lt hi)), e n (Nat.lt_succ_self n)]
noncomputable def cnv (f : Nat → Int32) (v : Int32) : Int32 := if 0 ≤ v.toInt ∧ v.toInt ≤ 8 then f v.toInt.toNat else -1
theorem cnv_in {f : Nat → Int32} {k : Nat} (hk : k ≤ 8) : cnv f (nJ k) = f k := by
  have e := nJ_toInt (n := k) (by first | decide | with_reducible assumption | omega)
  unfold cnv
  rw [if_pos (by first | decide | with_reducible assumption | omega), e]
  rfl
theorem cnv_eq {f g : Nat → Int32} {v : Int32} (e : ∀ k, k ≤ 8 → f k = g k) : cnv f v = cnv g v := by
  unfold cnv
  by_cases q : 0 ≤ v.toInt ∧ v.toInt ≤ 8
  · rw [if_pos q, if_pos q, e _ (by first | decide | with_reducible assumption | omega)]
  · rw [if_neg q, if_neg q]
noncomputable def c8f (h : pm_H) : Nat → Int32
  | 0 => gi h 15 0
  | 1 => gi h 15 1
  | 2 => gi h 15 2
  | 3 => gi h 15 4
  | 4 => gi h 15 5
  | 5 => gi h 15 6
  | 6 => gi h 15 3
  | 7 => gi h 1 1
  | _ => nJ (sct (cf h) 4)
noncomputable def c9f (h : pm_H) : Nat → Int32
  | 0 => gi h 84 0
  | 1 => gi h 84 1
  | 2 => gi h 84 2
  | 3 => gi h 84 3
  | 4 => gi h 84 4
  | 5 => gi h 84 5
  | 6 => gi h 83 0
  | 7 => gi h 77 6
  | _ => nJ (sct (rf h) 4)
section CNT
variable {h : pm_H} {d : Nat} {v : Int32}
theorem sw_loop (hh : HH h) (j : Nat) : ∀ {i : Nat} (lv : List (Nat × Value)), i + j = 4 → pm_get lv 0 = some (.ref 0) → pm_get lv 1 = some (.int (nJ (sct (cf h) i))) → pm_get lv 2 = some (.int (nJ i)) → Ends (pm_at tX8_slotsWithRows) (pm_Rt pm_P d) (4, lv, [], h, 0, 0) (fun h' r => h' = h ∧ r = some (.int (nJ (sct (cf h) 4)))) := by
  induction j with
  | zero =>
    intro i lv hj L0 L1 L2
    have e : i = 4 := by omega
    subst e
    refine E_il rfl L2 ?_
    refine E_ci 4 rfl ci4 ?_
    refine E_icT rfl (decide_eq_true ((nJ_le (by first | decide | with_reducible assumption | omega) (by first | decide | with_reducible assumption | omega)).mpr (by first | decide | with_reducible assumption | omega))) ?_
    refine E_il rfl L1 ?_
    exact E_rti rfl ⟨rfl, rfl⟩
  | succ j ih =>
    intro i lv hj L0 L1 L2
    obtain ⟨S1, S2, S3, S4, S5, S6⟩ := isS_at i (by first | decide | with_reducible assumption | omega)
    refine E_il rfl L2 ?_
    refine E_ci 4 rfl ci4 ?_
    refine E_icF rfl (decide_eq_false (fun q => absurd ((nJ_le (by first | decide | with_reducible assumption | omega) (by first | decide | with_reducible assumption | omega)).mp q) (by first | decide | with_reducible assumption | omega))) ?_
    refine E_al rfl L0 ?_
    refine E_ogr rfl hh rfl (q := 53) rfl ?_
    refine E_il rfl L2 ?_
    refine E_aal rfl hh rfl (slot_at i (by first | decide | with_reducible assumption | omega)) (by decide) ?_
    refine E_ogf rfl hh S1 S4 rfl ?_
    have es : sct (cf h) (i + 1) = sct (cf h) i + (if gi h (54 + 2 * i) 1 = 0 then 0 else 1) := rfl
    by_cases b : gi h (54 + 2 * i) 1 = 0
    · rw [if_pos b] at es
      refine E_ifT rfl (decide_eq_true b) ?_
      refine E_inc rfl L2 (nJ_inc _) (fun lv1 K2 kp => ?_)
      refine E_goto rfl ?_
      exact ih lv1 (i := i + 1) (by first | decide | with_reducible assumption | omega) (kp 0 _ (nbz rfl) rfl L0) (by rw [es]; exact kp 1 _ (nbz rfl) rfl L1) K2
    · rw [if_neg b] at es
      refine E_ifF rfl (decide_eq_false b) ?_
      refine E_inc rfl L1 (nJ_inc _) (fun lv1 K1 kp1 => ?_)
      refine E_inc rfl (kp1 2 _ (nbz rfl) rfl L2) (nJ_inc _) (fun lv2 K2 kp => ?_)
      refine E_goto rfl ?_
      exact ih lv2 (i := i + 1) (by first | decide | with_reducible assumption | omega) (kp 0 _ (nbz rfl) rfl (kp1 0 _ (nbz rfl) rfl L0)) (by rw [es]; exact kp 1 _ (nbz rfl) rfl K1) K2
theorem sp_slotsRows (hh : HH h) : Sp (d + 1) 181 h [.ref 0] (fun h' r => h' = h ∧ r = some (.int (nJ (sct (cf h) 4)))) := by
  refine Sp_of aiX8_slotsWithRows rfl rfl rfl ?_
  have L0 : pm_get (lv_args 0 [.ref 0]) 0 = some (.ref 0) := rfl
  generalize lv_args 0 [.ref 0] = lv at L0 ⊢
  refine E_ci 0 rfl ci0 ?_
  refine E_is rfl (fun lv1 K1 kp1 => ?_)
  refine E_ci 0 rfl ci0 ?_
  refine E_is rfl (fun lv2 K2 kp2 => ?_)
  exact sw_loop hh 4 (i := 0) lv2 (by first | decide | with_reducible assumption | omega) (kp2 0 _ (nbz rfl) rfl (kp1 0 _ (nbz rfl) rfl L0)) (kp2 1 _ (nbz rfl) rfl K1) K2
theorem sp_count8 (hh : HH h) : Sp (d + 2) 93 h [.ref 0, .int v] (fun _ r => r = some (.int (cnv (c8f h) v))) := by
  refine Sp_of aiX8_count rfl rfl rfl ?_
  have L0 : pm_get (lv_args 0 [.ref 0, .int v]) 0 = some (.ref 0) := rfl
  have L1 : pm_get (lv_args 0 [.ref 0, .int v]) 1 = some (.int v) := rfl
  generalize lv_args 0 [.ref 0, .int v] = lv at L0 L1 ⊢
  refine E_il rfl L1 ?_
  by_cases q : 0 ≤ v.toInt ∧ v.toInt ≤ 8
  · obtain ⟨k, hk, rfl⟩ := nJ_of2 (n := 8) q.1 q.2
    rw [cnv_in hk]
    match k, hk with
    | 0, _ =>
      refine E_tsA (t := 52) rfl (by decide) (by decide) ?_
      refine E_al rfl L0 ?_
      refine E_ogr (q := 15) rfl hh rfl rfl ?_
      refine E_ogf (q := (0, 8)) rfl hh rfl rfl rfl ?_
      exact E_rti rfl rfl
    | 1, _ =>
      refine E_tsA (t := 60) rfl (by decide) (by decide) ?_
      refine E_al rfl L0 ?_
      refine E_ogr (q := 15) rfl hh rfl rfl ?_
      refine E_ogf (q := (0, 3)) rfl hh rfl rfl rfl ?_
      exact E_rti rfl rfl
    | 2, _ =>
      refine E_tsA (t := 68) rfl (by decide) (by decide) ?_
      refine E_al rfl L0 ?_
      refine E_ogr (q := 15) rfl hh rfl rfl ?_
      refine E_ogf (q := (0, 10)) rfl hh rfl rfl rfl ?_
      exact E_rti rfl rfl
    | 3, _ =>
      refine E_tsA (t := 76) rfl (by decide) (by decide) ?_
      refine E_al rfl L0 ?_
      refine E_ogr (q := 15) rfl hh rfl rfl ?_
      refine E_ogf (q := (0, 8)) rfl hh rfl rfl rfl ?_
      exact E_rti rfl rfl
    | 4, _ =>
      refine E_tsA (t := 84) rfl (by decide) (by decide) ?_
      refine E_al rfl L0 ?_
      refine E_ogr (q := 15) rfl hh rfl rfl ?_
      refine E_ogf (q := (0, 8)) rfl hh rfl rfl rfl ?_
      exact E_rti rfl rfl
    | 5, _ =>
      refine E_tsA (t := 92) rfl (by decide) (by decide) ?_
      refine E_al rfl L0 ?_
      refine E_ogr (q := 15) rfl hh rfl rfl ?_
      refine E_ogf (q := (0, 20)) rfl hh rfl rfl rfl ?_
      exact E_rti rfl rfl
    | 6, _ =>
      refine E_tsA (t := 100) rfl (by decide) (by decide) ?_
      refine E_al rfl L0 ?_
      refine E_ogr (q := 15) rfl hh rfl rfl ?_
      refine E_ogf (q := ((-2147483648), 2147483647)) rfl hh rfl rfl rfl ?_
      exact E_rti rfl rfl
    | 7, _ =>
      refine E_tsA (t := 108) rfl (by decide) (by decide) ?_
      refine E_al rfl L0 ?_
      refine E_ogr (q := 1) rfl hh rfl rfl ?_
      refine E_ogf (q := (0, 500)) rfl hh rfl rfl rfl ?_
      exact E_rti rfl rfl
    | 8, _ =>
      refine E_tsA (t := 116) rfl (by decide) (by decide) ?_
      refine E_al rfl L0 ?_
      refine E_call rfl (sp_slotsRows (d := d) hh) (chkO (a := 0) hh rfl rfl rfl rfl (by show 0 ≤ 8; decide)) (fun h1 r1 => ?_)
      rintro ⟨e1, f1⟩
      rw [e1, f1]
      exact E_rti rfl rfl
  · refine E_tsD rfl (by rw [Bool.or_eq_true, decide_eq_true_iff, decide_eq_true_iff]; omega) ?_
    refine E_c rfl ?_
    exact E_rti rfl (by unfold cnv; rw [if_neg q])
theorem cw_loop {h0 : pm_H} (hh : HH h) (e78 : ∀ s, gi h 78 s = gi h0 78 s) (j : Nat) : ∀ {i : Nat} (lv : List (Nat × Value)), i + j = 4 → pm_get lv 0 = some (.ref 77) → pm_get lv 2 = some (.int (nJ (sct (rf h0) i))) → pm_get lv 3 = some (.int (nJ i)) → Ends (pm_at tX9_count) (pm_Rt pm_P d) (66, lv, [], h, 0, 0) (fun _ r => r = some (.int (nJ (sct (rf h0) 4)))) := by
  induction j with
  | zero =>
    intro i lv hj L0 L2 L3
    have e : i = 4 := by omega
    subst e
    refine E_il rfl L3 ?_
    refine E_ci 4 rfl ci4 ?_
    refine E_icT rfl (decide_eq_true ((nJ_le (by first | decide | with_reducible assumption | omega) (by first | decide | with_reducible assumption | omega)).mpr (by first | decide | with_reducible assumption | omega))) ?_
    refine E_il rfl L2 ?_
    exact E_rti rfl rfl
  | succ j ih =>
    intro i lv hj L0 L2 L3
    refine E_il rfl L3 ?_
    refine E_ci 4 rfl ci4 ?_
    refine E_icF rfl (decide_eq_false (fun q => absurd ((nJ_le (by first | decide | with_reducible assumption | omega) (by first | decide | with_reducible assumption | omega)).mp q) (by first | decide | with_reducible assumption | omega))) ?_
    refine E_il rfl L2 ?_
    refine E_al rfl L0 ?_
    refine E_gr rfl hh (q := 78) rfl ?_
    refine E_il rfl L3 ?_
    refine E_ial rfl hh rfl (by first | decide | with_reducible assumption | omega) (by decide) (e78 i) ?_
    refine E_c rfl ?_
    have es : sct (rf h0) (i + 1) = sct (rf h0) i + (if rf h0 i = 0 then 0 else 1) := rfl
    have fin : ∀ {w : Nat}, sct (rf h0) (i + 1) = sct (rf h0) i + w → Ends (pm_at tX9_count) (pm_Rt pm_P d) (87, lv, [.int (nJ w), .int (nJ (sct (rf h0) i))], h, 0, 0) (fun _ r => r = some (.int (nJ (sct (rf h0) 4)))) := by
      intro w ew
      refine E_bin rfl (nJ_add _ _) ?_
      rw [← ew]
      refine E_is rfl (fun lv1 K2 kp1 => ?_)
      refine E_inc rfl (kp1 3 _ (nbz rfl) rfl L3) (nJ_inc _) (fun lv2 K3 kp2 => ?_)
      refine E_goto rfl ?_
      exact ih lv2 (i := i + 1) (by first | decide | with_reducible assumption | omega) (kp2 0 _ (nbz rfl) rfl (kp1 0 _ (nbz rfl) rfl L0)) (kp2 2 _ (nbz rfl) rfl K2) K3
    by_cases b : gi h0 78 i = -1
    · refine E_icF rfl (decide_eq_false (fun q => q b)) ?_
      refine E_ci 0 rfl ci0 ?_
      refine E_goto rfl ?_
      exact fin (by rw [es, if_pos (rf_0 b)])
    · refine E_icT rfl (decide_eq_true b) ?_
      refine E_ci 1 rfl ci1 ?_
      exact fin (by rw [es, if_neg (rf_1 b)])
theorem sp_count9 (hh : HH h) : Sp (d + 2) 233 h [.ref 77, .int v] (fun _ r => r = some (.int (cnv (c9f h) v))) := by
  refine Sp_of aiX9_count rfl rfl rfl ?_
  have L0 : pm_get (lv_args 0 [.ref 77, .int v]) 0 = some (.ref 77) := rfl
  have L1 : pm_get (lv_args 0 [.ref 77, .int v]) 1 = some (.int v) := rfl
  generalize lv_args 0 [.ref 77, .int v] = lv at L0 L1 ⊢
  refine E_al rfl L0 ?_
  refine E_ci 0 rfl ci0 ?_
  refine E_pf rfl hh rfl ?_
  have hg : HH (pt h 77 0 (nJ 0)) := HH_ptn hh rfl (by first | decide | with_reducible assumption | omega) (by first | decide | with_reducible assumption | omega) (by first | decide | with_reducible assumption | omega)
  have e1 : ∀ a k, a ≠ 77 → gi (pt h 77 0 (nJ 0)) a k = gi h a k := fun a k ha => gi_ne (fun z => absurd z ha)
  have e6 : gi (pt h 77 0 (nJ 0)) 77 6 = gi h 77 6 := gi_ne (by first | exact gxx rfl | omega)
  generalize pt h 77 0 (nJ 0) = g at hg e1 e6 ⊢
  refine E_il rfl L1 ?_
  refine E_i2l rfl ?_
  refine E_c rfl ?_
  refine E_c rfl ?_
  refine E_call rfl (sp_in (a := v.toInt) (b := 0) (c := 5) (i2l_toInt _) rfl rfl) (chkS rfl (by show 0 ≤ 8; decide)) (fun h2 r2 => ?_)
  rintro ⟨e2, f2⟩
  rw [e2, f2]
  by_cases b : 0 ≤ v.toInt ∧ v.toInt ≤ 5
  · refine E_ifF rfl (by rw [zb_T b]; rfl) ?_
    obtain ⟨k, hk, rfl⟩ := nJ_of2 (n := 5) b.1 b.2
    rw [cnv_in (by first | decide | with_reducible assumption | omega)]
    refine E_al rfl L0 ?_
    refine E_gr rfl hg (q := 84) rfl ?_
    refine E_il rfl L1 ?_
    refine E_ial rfl hg rfl (by first | decide | with_reducible assumption | omega) (by decide) (e1 84 k (by first | decide | with_reducible assumption | omega)) ?_
    refine E_rti rfl ?_
    match k, hk with
    | 0, _ => rfl
    | 1, _ => rfl
    | 2, _ => rfl
    | 3, _ => rfl
    | 4, _ => rfl
    | 5, _ => rfl
  · refine E_ifT rfl (by rw [zb_F b]; rfl) ?_
    refine E_ci 0 rfl ci0 ?_
    refine E_is rfl (fun lv1 K2 kp => ?_)
    have M0 := kp 0 _ (nbz rfl) rfl L0
    refine E_il rfl (kp 1 _ (nbz rfl) rfl L1) ?_
    by_cases q : 6 ≤ v.toInt ∧ v.toInt ≤ 8
    · obtain ⟨k, hk, rfl⟩ := nJ_of2 (n := 8) (x := v) (by first | decide | with_reducible assumption | omega) q.2
      have e := nJ_toInt (n := k) (by first | decide | with_reducible assumption | omega)
      rw [cnv_in hk]
      have k6 : 6 ≤ k := by omega
      match k, hk, k6 with
      | 6, _, _ =>
        refine E_tsA (t := 52) rfl (by decide) (by decide) ?_
        refine E_al rfl M0 ?_
        refine E_gr rfl hg (q := 83) rfl ?_
        refine E_ci 0 rfl ci0 ?_
        refine E_ial rfl hg rfl (by first | decide | with_reducible assumption | omega) (by decide) (e1 83 0 (by first | decide | with_reducible assumption | omega)) ?_
        exact E_rti rfl rfl
      | 7, _, _ =>
        refine E_tsA (t := 59) rfl (by decide) (by decide) ?_
        refine E_al rfl M0 ?_
        refine E_gf (q := (0, 500)) rfl hg rfl e6 ?_
        exact E_rti rfl rfl
      | 8, _, _ =>
        refine E_tsA (t := 64) rfl (by decide) (by decide) ?_
        refine E_ci 0 rfl ci0 ?_
        refine E_is rfl (fun lv2 K3 kp2 => ?_)
        exact cw_loop hg (fun s => e1 78 s (by first | decide | with_reducible assumption | omega)) 4 (i := 0) lv2 (by first | decide | with_reducible assumption | omega) (kp2 0 _ (nbz rfl) rfl M0) (kp2 2 _ (nbz rfl) rfl K2) K3
    · refine E_tsD rfl (by rw [Bool.or_eq_true, decide_eq_true_iff, decide_eq_true_iff]; omega) ?_
      refine E_c rfl ?_
      exact E_rti rfl (by unfold cnv; rw [if_neg (by first | decide | with_reducible assumption | omega)])
end CNT
end
section
/-! image and back of both, exactly; the streets' relation (written by gen_t60.py; wants t33, t52b, t53, t56 to t59) -/
noncomputable def CPY (A B : Nat) (h h' : pm_H) : Prop := (∀ j, j < 7 → gi h' A j = gi h B j) ∧ (∀ i, i < 8 → gi h' (A + 3) i = gi h (B + 3) i) ∧ (∀ i, i < 8 → gi h' (A + 1) i = gi h (B + 1) i ∧ gi h' (A + 2) i = gi h (B + 2) i ∧ gi h' (A + 4) i = gi h (B + 4) i ∧ gi h' (A + 5) i = gi h (B + 5) i) ∧ ∀ i, i < 20 → gi h' (A + 6) i = gi h (B + 6) i ∧ gi h' (A + 7) i = gi h (B + 7) i ∧ gi h' (A + 8) i = gi h (B + 8) i
noncomputable def KEE (A : Nat) (h h' : pm_H) : Prop := ∀ q, q ≤ 8 → ∀ j, gi h' (A + q) j = gi h (A + q) j
noncomputable def kB (M : List Rng) (A : Nat) : Bool := (List.range 9).all (fun q => M.all (fun r => !(Nat.beq r.1 (A + q))))
theorem kB_at {M : List Rng} {A q : Nat} (h : kB M A = true) (hq : q ≤ 8) : M.all (fun r => !(Nat.beq r.1 (A + q))) = true := List.all_eq_true.mp h q (List.mem_range.mpr (by first | decide | with_reducible assumption | omega))
noncomputable def imA (k : Nat) : Nat := 25 + 9 * k
theorem KEE_fr {M : List Rng} {A : Nat} {h h' : pm_H} (hf : fr_g M h h') (h1 : kB M A = true) : KEE A h h' := fun _ hq _ => fr_gi hf (rg_no (kB_at h1 hq) _)
section IM8
variable {h : pm_H} {x : Int32}
/-- what image of the class leaves -/
noncomputable def IX8 (h : pm_H) (x : Int32) (h' : pm_H) : Prop := (∃ k, k < 3 ∧ x = nJ k ∧ CPY (imA k) 15 h h' ∧ KEE 15 h h' ∧ ∀ j, j < 3 → j ≠ k → KEE (imA j) h h') ∨ (¬ (0 ≤ x.toInt ∧ x.toInt ≤ 2) ∧ h' = h)
noncomputable def BX8 (h : pm_H) (x : Int32) (h' : pm_H) : Prop := (∃ k, k < 3 ∧ x = nJ k ∧ ¬ gi h 52 k = 0 ∧ CPY 15 (imA k) h h' ∧ ∀ j, j < 3 → KEE (imA j) h h') ∨ (¬ (∃ k, k < 3 ∧ x = nJ k ∧ ¬ gi h 52 k = 0) ∧ h' = h)
theorem sp_imageX8 (hh : HH h) : Sp 20 121 h [.ref 0, .int x] (fun h' _ => IX8 h x h') := by
  refine Sp_of (d := 19) aiX8_image rfl rfl rfl ?_
  have L0 : pm_get (lv_args 0 [.ref 0, .int x]) 0 = some (.ref 0) := rfl
  have L1 : pm_get (lv_args 0 [.ref 0, .int x]) 1 = some (.int x) := rfl
  generalize lv_args 0 [.ref 0, .int x] = lv at L0 L1 ⊢
  refine E_il rfl L1 ?_
  by_cases hr : 0 ≤ x.toInt ∧ x.toInt ≤ 2
  · obtain ⟨k, hk, rfl⟩ := nJ_of2 (n := 2) hr.1 hr.2
    refine E_ifF rfl (decide_eq_false (nJ_lt0 (by first | decide | with_reducible assumption | omega))) ?_
    refine E_il rfl L1 ?_
    refine E_ci 3 rfl ci3 ?_
    refine E_icT rfl (decide_eq_true ((nJ_lt (by first | decide | with_reducible assumption | omega) (by first | decide | with_reducible assumption | omega)).mpr (by first | decide | with_reducible assumption | omega))) ?_
    match k, hk with
    | 0, _ =>
      refine E_al rfl L0 ?_
      refine E_ogr rfl hh rfl (q := 24) rfl ?_
      refine E_il rfl L1 ?_
      refine E_aal rfl hh rfl (q := 25) rfl (by decide) ?_
      refine E_al rfl L0 ?_
      refine E_ogr rfl hh rfl (q := 15) rfl ?_
      refine E_call rfl (Sp_le (by first | exact Nat.add_le_add_left (Nat.le_of_ble_eq_true rfl) _ | exact Nat.le_of_ble_eq_true rfl | omega) (sp_take_25_15 (d := 0) hh)) (chkO (a := 25) hh rfl rfl rfl rfl (by show 0 ≤ 8; decide)) (fun h4 r4 => ?_)
      rintro ⟨e4, hh4, f4, t0, t1, t2⟩
      rw [e4]
      refine E_al rfl L0 ?_
      refine E_ogr rfl hh4 rfl (q := 52) rfl ?_
      refine E_il rfl L1 ?_
      refine E_ci 1 rfl ci1 ?_
      refine E_zasA rfl hh4 rfl (by decide) ?_
      refine E_ci 0 rfl ci0 ?_
      refine E_rti rfl (.inl ⟨0, by omega, rfl, ⟨fun j hj => ?_, fun i hi => ?_, fun i hi => ?_, fun i hi => ?_⟩, fun q hq j => ?_, fun j hj hne => ?_⟩)
      · show gi (pt h4 52 0 1) 25 j = _
        rw [gi_ne (by first | exact gxx rfl | omega)]; exact t0 j hj
      · show gi (pt h4 52 0 1) 28 i = gi h 18 i
        rw [gi_ne (by first | exact gxx rfl | omega)]; exact (t1 i hi).2.2.1
      · show gi (pt h4 52 0 1) 26 i = gi h 16 i ∧ gi (pt h4 52 0 1) 27 i = gi h 17 i ∧ gi (pt h4 52 0 1) 29 i = gi h 19 i ∧ gi (pt h4 52 0 1) 30 i = gi h 20 i
        rw [gi_ne (by first | exact gxx rfl | omega), gi_ne (by first | exact gxx rfl | omega), gi_ne (by first | exact gxx rfl | omega), gi_ne (by first | exact gxx rfl | omega)]
        obtain ⟨a1, a2, -, a4, a5⟩ := t1 i hi
        exact ⟨a1, a2, a4, a5⟩
      · show gi (pt h4 52 0 1) 31 i = gi h 21 i ∧ gi (pt h4 52 0 1) 32 i = gi h 22 i ∧ gi (pt h4 52 0 1) 33 i = gi h 23 i
        rw [gi_ne (by first | exact gxx rfl | omega), gi_ne (by first | exact gxx rfl | omega), gi_ne (by first | exact gxx rfl | omega)]
        exact t2 i hi
      · rw [gi_ne (by first | exact gxx rfl | omega), fr_gi f4 (rg_no (kB_at (A := 15) rfl hq) _)]
      · match j, hj, hne with
        | 0, _, hne => exact absurd rfl hne
        | 1, _, hne => exact fun q hq i => by show gi (pt h4 52 0 1) (34 + q) i = gi h (34 + q) i; rw [gi_ne (by first | exact gxx rfl | omega), fr_gi f4 (rg_no (kB_at (A := 34) rfl hq) _)]
        | 2, _, hne => exact fun q hq i => by show gi (pt h4 52 0 1) (43 + q) i = gi h (43 + q) i; rw [gi_ne (by first | exact gxx rfl | omega), fr_gi f4 (rg_no (kB_at (A := 43) rfl hq) _)]
    | 1, _ =>
      refine E_al rfl L0 ?_
      refine E_ogr rfl hh rfl (q := 24) rfl ?_
      refine E_il rfl L1 ?_
      refine E_aal rfl hh rfl (q := 34) rfl (by decide) ?_
      refine E_al rfl L0 ?_
      refine E_ogr rfl hh rfl (q := 15) rfl ?_
      refine E_call rfl (Sp_le (by first | exact Nat.add_le_add_left (Nat.le_of_ble_eq_true rfl) _ | exact Nat.le_of_ble_eq_true rfl | omega) (sp_take_34_15 (d := 0) hh)) (chkO (a := 34) hh rfl rfl rfl rfl (by show 0 ≤ 8; decide)) (fun h4 r4 => ?_)
      rintro ⟨e4, hh4, f4, t0, t1, t2⟩
      rw [e4]
      refine E_al rfl L0 ?_
      refine E_ogr rfl hh4 rfl (q := 52) rfl ?_
      refine E_il rfl L1 ?_
      refine E_ci 1 rfl ci1 ?_
      refine E_zasA rfl hh4 rfl (by decide) ?_
      refine E_ci 0 rfl ci0 ?_
      refine E_rti rfl (.inl ⟨1, by omega, rfl, ⟨fun j hj => ?_, fun i hi => ?_, fun i hi => ?_, fun i hi => ?_⟩, fun q hq j => ?_, fun j hj hne => ?_⟩)
      · show gi (pt h4 52 1 1) 34 j = _
        rw [gi_ne (by first | exact gxx rfl | omega)]; exact t0 j hj
      · show gi (pt h4 52 1 1) 37 i = gi h 18 i
        rw [gi_ne (by first | exact gxx rfl | omega)]; exact (t1 i hi).2.2.1
      · show gi (pt h4 52 1 1) 35 i = gi h 16 i ∧ gi (pt h4 52 1 1) 36 i = gi h 17 i ∧ gi (pt h4 52 1 1) 38 i = gi h 19 i ∧ gi (pt h4 52 1 1) 39 i = gi h 20 i
        rw [gi_ne (by first | exact gxx rfl | omega), gi_ne (by first | exact gxx rfl | omega), gi_ne (by first | exact gxx rfl | omega), gi_ne (by first | exact gxx rfl | omega)]
        obtain ⟨a1, a2, -, a4, a5⟩ := t1 i hi
        exact ⟨a1, a2, a4, a5⟩
      · show gi (pt h4 52 1 1) 40 i = gi h 21 i ∧ gi (pt h4 52 1 1) 41 i = gi h 22 i ∧ gi (pt h4 52 1 1) 42 i = gi h 23 i
        rw [gi_ne (by first | exact gxx rfl | omega), gi_ne (by first | exact gxx rfl | omega), gi_ne (by first | exact gxx rfl | omega)]
        exact t2 i hi
      · rw [gi_ne (by first | exact gxx rfl | omega), fr_gi f4 (rg_no (kB_at (A := 15) rfl hq) _)]
      · match j, hj, hne with
        | 0, _, hne => exact fun q hq i => by show gi (pt h4 52 1 1) (25 + q) i = gi h (25 + q) i; rw [gi_ne (by first | exact gxx rfl | omega), fr_gi f4 (rg_no (kB_at (A := 25) rfl hq) _)]
        | 1, _, hne => exact absurd rfl hne
        | 2, _, hne => exact fun q hq i => by show gi (pt h4 52 1 1) (43 + q) i = gi h (43 + q) i; rw [gi_ne (by first | exact gxx rfl | omega), fr_gi f4 (rg_no (kB_at (A := 43) rfl hq) _)]
    | 2, _ =>
      refine E_al rfl L0 ?_
      refine E_ogr rfl hh rfl (q := 24) rfl ?_
      refine E_il rfl L1 ?_
      refine E_aal rfl hh rfl (q := 43) rfl (by decide) ?_
      refine E_al rfl L0 ?_
      refine E_ogr rfl hh rfl (q := 15) rfl ?_
      refine E_call rfl (Sp_le (by first | exact Nat.add_le_add_left (Nat.le_of_ble_eq_true rfl) _ | exact Nat.le_of_ble_eq_true rfl | omega) (sp_take_43_15 (d := 0) hh)) (chkO (a := 43) hh rfl rfl rfl rfl (by show 0 ≤ 8; decide)) (fun h4 r4 => ?_)
      rintro ⟨e4, hh4, f4, t0, t1, t2⟩
      rw [e4]
      refine E_al rfl L0 ?_
      refine E_ogr rfl hh4 rfl (q := 52) rfl ?_
      refine E_il rfl L1 ?_
      refine E_ci 1 rfl ci1 ?_
      refine E_zasA rfl hh4 rfl (by decide) ?_
      refine E_ci 0 rfl ci0 ?_
      refine E_rti rfl (.inl ⟨2, by omega, rfl, ⟨fun j hj => ?_, fun i hi => ?_, fun i hi => ?_, fun i hi => ?_⟩, fun q hq j => ?_, fun j hj hne => ?_⟩)
      · show gi (pt h4 52 2 1) 43 j = _
        rw [gi_ne (by first | exact gxx rfl | omega)]; exact t0 j hj
      · show gi (pt h4 52 2 1) 46 i = gi h 18 i
        rw [gi_ne (by first | exact gxx rfl | omega)]; exact (t1 i hi).2.2.1
      · show gi (pt h4 52 2 1) 44 i = gi h 16 i ∧ gi (pt h4 52 2 1) 45 i = gi h 17 i ∧ gi (pt h4 52 2 1) 47 i = gi h 19 i ∧ gi (pt h4 52 2 1) 48 i = gi h 20 i
        rw [gi_ne (by first | exact gxx rfl | omega), gi_ne (by first | exact gxx rfl | omega), gi_ne (by first | exact gxx rfl | omega), gi_ne (by first | exact gxx rfl | omega)]
        obtain ⟨a1, a2, -, a4, a5⟩ := t1 i hi
        exact ⟨a1, a2, a4, a5⟩
      · show gi (pt h4 52 2 1) 49 i = gi h 21 i ∧ gi (pt h4 52 2 1) 50 i = gi h 22 i ∧ gi (pt h4 52 2 1) 51 i = gi h 23 i
        rw [gi_ne (by first | exact gxx rfl | omega), gi_ne (by first | exact gxx rfl | omega), gi_ne (by first | exact gxx rfl | omega)]
        exact t2 i hi
      · rw [gi_ne (by first | exact gxx rfl | omega), fr_gi f4 (rg_no (kB_at (A := 15) rfl hq) _)]
      · match j, hj, hne with
        | 0, _, hne => exact fun q hq i => by show gi (pt h4 52 2 1) (25 + q) i = gi h (25 + q) i; rw [gi_ne (by first | exact gxx rfl | omega), fr_gi f4 (rg_no (kB_at (A := 25) rfl hq) _)]
        | 1, _, hne => exact fun q hq i => by show gi (pt h4 52 2 1) (34 + q) i = gi h (34 + q) i; rw [gi_ne (by first | exact gxx rfl | omega), fr_gi f4 (rg_no (kB_at (A := 34) rfl hq) _)]
        | 2, _, hne => exact absurd rfl hne
  · have z0 : (0 : Int32).toInt = 0 := rfl
    by_cases h0 : x < 0
    · refine E_ifT rfl (decide_eq_true h0) ?_
      refine E_c rfl ?_
      exact E_rti rfl (.inr ⟨hr, rfl⟩)
    · refine E_ifF rfl (decide_eq_false h0) ?_
      refine E_il rfl L1 ?_
      refine E_ci 3 rfl ci3 ?_
      refine E_icF rfl (decide_eq_false (fun q => hr ?_)) ?_
      · have q1 := Int32.lt_iff_toInt_lt.mp q
        rw [nJ_toInt (by first | decide | with_reducible assumption | omega)] at q1
        have q2 : ¬ x.toInt < (0 : Int32).toInt := fun z => h0 (Int32.lt_iff_toInt_lt.mpr z)
        omega
      · refine E_c rfl ?_
        exact E_rti rfl (.inr ⟨hr, rfl⟩)
theorem sp_backX8 (hh : HH h) : Sp 20 82 h [.ref 0, .int x] (fun h' _ => BX8 h x h') := by
  refine Sp_of (d := 19) aiX8_back rfl rfl rfl ?_
  have L0 : pm_get (lv_args 0 [.ref 0, .int x]) 0 = some (.ref 0) := rfl
  have L1 : pm_get (lv_args 0 [.ref 0, .int x]) 1 = some (.int x) := rfl
  generalize lv_args 0 [.ref 0, .int x] = lv at L0 L1 ⊢
  refine E_il rfl L1 ?_
  by_cases hr : 0 ≤ x.toInt ∧ x.toInt ≤ 2
  · obtain ⟨k, hk, rfl⟩ := nJ_of2 (n := 2) hr.1 hr.2
    refine E_ifF rfl (decide_eq_false (nJ_lt0 (by first | decide | with_reducible assumption | omega))) ?_
    refine E_il rfl L1 ?_
    refine E_ci 3 rfl ci3 ?_
    refine E_icT rfl (decide_eq_true ((nJ_lt (by first | decide | with_reducible assumption | omega) (by first | decide | with_reducible assumption | omega)).mpr (by first | decide | with_reducible assumption | omega))) ?_
    refine E_al rfl L0 ?_
    refine E_ogr rfl hh rfl (q := 52) rfl ?_
    refine E_il rfl L1 ?_
    refine E_zalA rfl hh rfl (by first | decide | with_reducible assumption | omega) ?_
    by_cases hz : gi h 52 k = 0
    · refine E_ifF rfl (decide_eq_false (fun q => q hz)) ?_
      refine E_c rfl ?_
      refine E_rti rfl (.inr ⟨?_, rfl⟩)
      rintro ⟨j, hj, ej, nj⟩
      rw [(nJ_eq (by first | decide | with_reducible assumption | omega) (by first | decide | with_reducible assumption | omega)).mp ej] at hz
      exact nj hz
    · refine E_ifT rfl (decide_eq_true hz) ?_
      match k, hk, hz with
      | 0, _, hz =>
        refine E_al rfl L0 ?_
        refine E_ogr rfl hh rfl (q := 15) rfl ?_
        refine E_al rfl L0 ?_
        refine E_ogr rfl hh rfl (q := 24) rfl ?_
        refine E_il rfl L1 ?_
        refine E_aal rfl hh rfl (q := 25) rfl (by decide) ?_
        refine E_call rfl (Sp_le (by first | exact Nat.add_le_add_left (Nat.le_of_ble_eq_true rfl) _ | exact Nat.le_of_ble_eq_true rfl | omega) (sp_take_15_25 (d := 0) hh)) (chkO (a := 15) hh rfl rfl rfl rfl (by show 0 ≤ 8; decide)) (fun h4 r4 => ?_)
        rintro ⟨e4, hh4, f4, t0, t1, t2⟩
        rw [e4]
        refine E_ci 0 rfl ci0 ?_
        refine E_rti rfl (.inl ⟨0, by omega, rfl, hz, ⟨t0, fun i hi => (t1 i hi).2.2.1, fun i hi => ⟨(t1 i hi).1, (t1 i hi).2.1, (t1 i hi).2.2.2.1, (t1 i hi).2.2.2.2⟩, t2⟩, fun j hj => ?_⟩)
        match j, hj with
        | 0, _ => exact fun q hq i => by show gi h4 (25 + q) i = gi h (25 + q) i; rw [fr_gi f4 (rg_no (kB_at (A := 25) rfl hq) _)]
        | 1, _ => exact fun q hq i => by show gi h4 (34 + q) i = gi h (34 + q) i; rw [fr_gi f4 (rg_no (kB_at (A := 34) rfl hq) _)]
        | 2, _ => exact fun q hq i => by show gi h4 (43 + q) i = gi h (43 + q) i; rw [fr_gi f4 (rg_no (kB_at (A := 43) rfl hq) _)]
      | 1, _, hz =>
        refine E_al rfl L0 ?_
        refine E_ogr rfl hh rfl (q := 15) rfl ?_
        refine E_al rfl L0 ?_
        refine E_ogr rfl hh rfl (q := 24) rfl ?_
        refine E_il rfl L1 ?_
        refine E_aal rfl hh rfl (q := 34) rfl (by decide) ?_
        refine E_call rfl (Sp_le (by first | exact Nat.add_le_add_left (Nat.le_of_ble_eq_true rfl) _ | exact Nat.le_of_ble_eq_true rfl | omega) (sp_take_15_34 (d := 0) hh)) (chkO (a := 15) hh rfl rfl rfl rfl (by show 0 ≤ 8; decide)) (fun h4 r4 => ?_)
        rintro ⟨e4, hh4, f4, t0, t1, t2⟩
        rw [e4]
        refine E_ci 0 rfl ci0 ?_
        refine E_rti rfl (.inl ⟨1, by omega, rfl, hz, ⟨t0, fun i hi => (t1 i hi).2.2.1, fun i hi => ⟨(t1 i hi).1, (t1 i hi).2.1, (t1 i hi).2.2.2.1, (t1 i hi).2.2.2.2⟩, t2⟩, fun j hj => ?_⟩)
        match j, hj with
        | 0, _ => exact fun q hq i => by show gi h4 (25 + q) i = gi h (25 + q) i; rw [fr_gi f4 (rg_no (kB_at (A := 25) rfl hq) _)]
        | 1, _ => exact fun q hq i => by show gi h4 (34 + q) i = gi h (34 + q) i; rw [fr_gi f4 (rg_no (kB_at (A := 34) rfl hq) _)]
        | 2, _ => exact fun q hq i => by show gi h4 (43 + q) i = gi h (43 + q) i; rw [fr_gi f4 (rg_no (kB_at (A := 43) rfl hq) _)]
      | 2, _, hz =>
        refine E_al rfl L0 ?_
        refine E_ogr rfl hh rfl (q := 15) rfl ?_
        refine E_al rfl L0 ?_
        refine E_ogr rfl hh rfl (q := 24) rfl ?_
        refine E_il rfl L1 ?_
        refine E_aal rfl hh rfl (q := 43) rfl (by decide) ?_
        refine E_call rfl (Sp_le (by first | exact Nat.add_le_add_left (Nat.le_of_ble_eq_true rfl) _ | exact Nat.le_of_ble_eq_true rfl | omega) (sp_take_15_43 (d := 0) hh)) (chkO (a := 15) hh rfl rfl rfl rfl (by show 0 ≤ 8; decide)) (fun h4 r4 => ?_)
        rintro ⟨e4, hh4, f4, t0, t1, t2⟩
        rw [e4]
        refine E_ci 0 rfl ci0 ?_
        refine E_rti rfl (.inl ⟨2, by omega, rfl, hz, ⟨t0, fun i hi => (t1 i hi).2.2.1, fun i hi => ⟨(t1 i hi).1, (t1 i hi).2.1, (t1 i hi).2.2.2.1, (t1 i hi).2.2.2.2⟩, t2⟩, fun j hj => ?_⟩)
        match j, hj with
        | 0, _ => exact fun q hq i => by show gi h4 (25 + q) i = gi h (25 + q) i; rw [fr_gi f4 (rg_no (kB_at (A := 25) rfl hq) _)]
        | 1, _ => exact fun q hq i => by show gi h4 (34 + q) i = gi h (34 + q) i; rw [fr_gi f4 (rg_no (kB_at (A := 34) rfl hq) _)]
        | 2, _ => exact fun q hq i => by show gi h4 (43 + q) i = gi h (43 + q) i; rw [fr_gi f4 (rg_no (kB_at (A := 43) rfl hq) _)]
  · have z0 : (0 : Int32).toInt = 0 := rfl
    by_cases h0 : x < 0
    · refine E_ifT rfl (decide_eq_true h0) ?_
      refine E_c rfl ?_
      exact E_rti rfl (.inr ⟨fun ⟨j, hj, ej, _⟩ => hr (by rw [ej, nJ_toInt (by first | decide | with_reducible assumption | omega)]; omega), rfl⟩)
    · refine E_ifF rfl (decide_eq_false h0) ?_
      refine E_il rfl L1 ?_
      refine E_ci 3 rfl ci3 ?_
      refine E_icF rfl (decide_eq_false (fun q => hr ?_)) ?_
      · have q1 := Int32.lt_iff_toInt_lt.mp q
        rw [nJ_toInt (by first | decide | with_reducible assumption | omega)] at q1
        have q2 : ¬ x.toInt < (0 : Int32).toInt := fun z => h0 (Int32.lt_iff_toInt_lt.mpr z)
        omega
      · refine E_c rfl ?_
        exact E_rti rfl (.inr ⟨fun ⟨j, hj, ej, _⟩ => hr (by rw [ej, nJ_toInt (by first | decide | with_reducible assumption | omega)]; omega), rfl⟩)
end IM8
section IM9
variable {h : pm_H} {d : Nat} {x : Int32}
noncomputable def IX9 (h : pm_H) (x : Int32) (h' : pm_H) : Prop := (∃ k, k < 3 ∧ x = nJ k ∧ CP9 (k + 1) 0 h h' ∧ ∀ r, r ≤ 3 → r ≠ k + 1 → KE9 r h h') ∨ (¬ (0 ≤ x.toInt ∧ x.toInt ≤ 2) ∧ ∀ r, KE9 r h h')
noncomputable def BX9 (h : pm_H) (x : Int32) (h' : pm_H) : Prop := (∃ k, k < 3 ∧ x = nJ k ∧ ¬ gi h 88 k = 0 ∧ CP9 0 (k + 1) h h' ∧ ∀ r, r ≤ 3 → r ≠ 0 → KE9 r h h') ∨ (¬ (∃ k, k < 3 ∧ x = nJ k ∧ ¬ gi h 88 k = 0) ∧ ∀ r, KE9 r h h')
theorem KE9_77 {r : Nat} {v : Int32} {j : Nat} : KE9 r h (pt h 77 j v) := ⟨gi_ne (by first | exact gxx rfl | omega), fun _ _ => gi_ne (by first | exact gxx rfl | omega), fun _ _ => gi_ne (by first | exact gxx rfl | omega), fun _ _ => gi_ne (by first | exact gxx rfl | omega), fun _ _ => gi_ne (by first | exact gxx rfl | omega)⟩
theorem sp_imageX9 (hh0 : HH h) : Sp (d + 4) 260 h [.ref 77, .int x] (fun h' _ => IX9 h x h') := by
  refine Sp_of aiX9_image rfl rfl rfl ?_
  have L0 : pm_get (lv_args 0 [.ref 77, .int x]) 0 = some (.ref 77) := rfl
  have L1 : pm_get (lv_args 0 [.ref 77, .int x]) 1 = some (.int x) := rfl
  generalize lv_args 0 [.ref 77, .int x] = lv at L0 L1 ⊢
  refine E_al rfl L0 ?_
  refine E_ci 0 rfl ci0 ?_
  refine E_pf rfl hh0 rfl ?_
  have hh1 : HH (pt h 77 0 (nJ 0)) := HH_ptn hh0 rfl (by first | decide | with_reducible assumption | omega) (by first | decide | with_reducible assumption | omega) (by first | decide | with_reducible assumption | omega)
  have z : ∀ a k, a ≠ 77 → gi (pt h 77 0 (nJ 0)) a k = gi h a k := fun a k ha => gi_ne (fun q => absurd q ha)
  have kz : ∀ r, KE9 r h (pt h 77 0 (nJ 0)) := fun r => KE9_77
  generalize pt h 77 0 (nJ 0) = g at hh1 z kz ⊢
  refine E_il rfl L1 ?_
  refine E_i2l rfl ?_
  refine E_c rfl ?_
  refine E_c rfl ?_
  refine E_call rfl (Sp_le (by first | exact Nat.add_le_add_left (Nat.le_of_ble_eq_true rfl) _ | exact Nat.le_of_ble_eq_true rfl | omega) (sp_in (d := d) (a := x.toInt) (b := 0) (c := 2) (i2l_toInt _) rfl rfl)) (chkS rfl (by show 0 ≤ 8; decide)) (fun h2 r2 => ?_)
  rintro ⟨e2, f2⟩
  rw [e2, f2]
  by_cases hb3 : 0 ≤ x.toInt ∧ x.toInt ≤ 2
  · refine E_ifT rfl (by rw [zb_T hb3]; rfl) ?_
    obtain ⟨k, hk, rfl⟩ := nJ_of2 (n := 2) hb3.1 hb3.2
    refine E_al rfl L0 ?_
    refine E_ci 0 rfl ci0 ?_
    refine E_ci 1 rfl ci1 ?_
    refine E_il rfl L1 ?_
    refine E_bin rfl (nJ_add _ _) ?_
    refine E_call rfl (Sp_le (by first | exact Nat.add_le_add_left (Nat.le_of_ble_eq_true rfl) _ | exact Nat.le_of_ble_eq_true rfl | omega) (sp_cpY (d := d) (a := 0) (b := 1 + k) hh1 (by first | decide | with_reducible assumption | omega) (by first | decide | with_reducible assumption | omega) (by first | decide | with_reducible assumption | omega))) (chk77 hh1 rfl rfl (by show 0 ≤ 8; decide)) (fun h4 r4 => ?_)
    rintro ⟨e4, hh4, f4, c4, k4⟩
    rw [e4]
    refine E_al rfl L0 ?_
    refine E_gr rfl hh4 (q := 88) rfl ?_
    refine E_il rfl L1 ?_
    refine E_ci 1 rfl ci1 ?_
    refine E_zas rfl hh4 (by first | decide | with_reducible assumption | omega) ?_
    refine E_ci 0 rfl ci0 ?_
    have w : ∀ a i, a ≠ 88 → gi (pt h4 88 k 1) a i = gi h4 a i := fun a i ha => gi_ne (fun q => absurd q ha)
    rw [show 1 + k = k + 1 by omega] at c4 k4
    refine E_rti rfl (.inl ⟨k, by omega, rfl, ⟨?_, fun i hi => ?_, fun i hi => ?_, fun i hi => ?_, fun i hi => ?_⟩, fun r hr hne => ⟨?_, fun i hi => ?_, fun i hi => ?_, fun i hi => ?_, fun i hi => ?_⟩⟩)
    · rw [w _ _ (by first | decide | with_reducible assumption | omega), c4.1, z _ _ (by first | decide | with_reducible assumption | omega)]
    · rw [w _ _ (by first | decide | with_reducible assumption | omega), c4.2.1 i hi, z _ _ (by first | decide | with_reducible assumption | omega)]
    · rw [w _ _ (by first | decide | with_reducible assumption | omega), c4.2.2.1 i hi, z _ _ (by first | decide | with_reducible assumption | omega)]
    · rw [w _ _ (by first | decide | with_reducible assumption | omega), c4.2.2.2.1 i hi, z _ _ (by first | decide | with_reducible assumption | omega)]
    · rw [w _ _ (by first | decide | with_reducible assumption | omega), c4.2.2.2.2 i hi, z _ _ (by first | decide | with_reducible assumption | omega)]
    · rw [w _ _ (by first | decide | with_reducible assumption | omega), (k4 r (by first | decide | with_reducible assumption | omega) hne).1, z _ _ (by first | decide | with_reducible assumption | omega)]
    · rw [w _ _ (by first | decide | with_reducible assumption | omega), (k4 r (by first | decide | with_reducible assumption | omega) hne).2.1 i hi, z _ _ (by first | decide | with_reducible assumption | omega)]
    · rw [w _ _ (by first | decide | with_reducible assumption | omega), (k4 r (by first | decide | with_reducible assumption | omega) hne).2.2.1 i hi, z _ _ (by first | decide | with_reducible assumption | omega)]
    · rw [w _ _ (by first | decide | with_reducible assumption | omega), (k4 r (by first | decide | with_reducible assumption | omega) hne).2.2.2.1 i hi, z _ _ (by first | decide | with_reducible assumption | omega)]
    · rw [w _ _ (by first | decide | with_reducible assumption | omega), (k4 r (by first | decide | with_reducible assumption | omega) hne).2.2.2.2 i hi, z _ _ (by first | decide | with_reducible assumption | omega)]
  · refine E_ifF rfl (by rw [zb_F hb3]; rfl) ?_
    refine E_c rfl ?_
    exact E_rti rfl (.inr ⟨hb3, kz⟩)
theorem sp_backX9 (hh0 : HH h) : Sp (d + 4) 212 h [.ref 77, .int x] (fun h' _ => BX9 h x h') := by
  refine Sp_of aiX9_back rfl rfl rfl ?_
  have L0 : pm_get (lv_args 0 [.ref 77, .int x]) 0 = some (.ref 77) := rfl
  have L1 : pm_get (lv_args 0 [.ref 77, .int x]) 1 = some (.int x) := rfl
  generalize lv_args 0 [.ref 77, .int x] = lv at L0 L1 ⊢
  refine E_al rfl L0 ?_
  refine E_ci 0 rfl ci0 ?_
  refine E_pf rfl hh0 rfl ?_
  have hh1 : HH (pt h 77 0 (nJ 0)) := HH_ptn hh0 rfl (by first | decide | with_reducible assumption | omega) (by first | decide | with_reducible assumption | omega) (by first | decide | with_reducible assumption | omega)
  have z : ∀ a k, a ≠ 77 → gi (pt h 77 0 (nJ 0)) a k = gi h a k := fun a k ha => gi_ne (fun q => absurd q ha)
  have kz : ∀ r, KE9 r h (pt h 77 0 (nJ 0)) := fun r => KE9_77
  generalize pt h 77 0 (nJ 0) = g at hh1 z kz ⊢
  refine E_il rfl L1 ?_
  refine E_i2l rfl ?_
  refine E_c rfl ?_
  refine E_c rfl ?_
  refine E_call rfl (Sp_le (by first | exact Nat.add_le_add_left (Nat.le_of_ble_eq_true rfl) _ | exact Nat.le_of_ble_eq_true rfl | omega) (sp_in (d := d) (a := x.toInt) (b := 0) (c := 2) (i2l_toInt _) rfl rfl)) (chkS rfl (by show 0 ≤ 8; decide)) (fun h2 r2 => ?_)
  rintro ⟨e2, f2⟩
  rw [e2, f2]
  by_cases hb3 : 0 ≤ x.toInt ∧ x.toInt ≤ 2
  · refine E_ifT rfl (by rw [zb_T hb3]; rfl) ?_
    obtain ⟨k, hk, rfl⟩ := nJ_of2 (n := 2) hb3.1 hb3.2
    refine E_al rfl L0 ?_
    refine E_gr rfl hh1 (q := 88) rfl ?_
    refine E_il rfl L1 ?_
    refine E_zalB (v := gi h 88 k) rfl hh1 rfl (by first | decide | with_reducible assumption | omega) (by decide) (z 88 k (by first | decide | with_reducible assumption | omega)) ?_
    by_cases hz : gi h 88 k = 0
    · refine E_ifF rfl (decide_eq_false (fun q => q hz)) ?_
      refine E_c rfl ?_
      refine E_rti rfl (.inr ⟨?_, kz⟩)
      rintro ⟨j, hj, ej, nj⟩
      rw [(nJ_eq (by first | decide | with_reducible assumption | omega) (by first | decide | with_reducible assumption | omega)).mp ej] at hz
      exact nj hz
    · refine E_ifT rfl (decide_eq_true hz) ?_
      refine E_al rfl L0 ?_
      refine E_ci 1 rfl ci1 ?_
      refine E_il rfl L1 ?_
      refine E_bin rfl (nJ_add _ _) ?_
      refine E_ci 0 rfl ci0 ?_
      refine E_call rfl (Sp_le (by first | exact Nat.add_le_add_left (Nat.le_of_ble_eq_true rfl) _ | exact Nat.le_of_ble_eq_true rfl | omega) (sp_cpY (d := d) (a := 1 + k) (b := 0) hh1 (by first | decide | with_reducible assumption | omega) (by first | decide | with_reducible assumption | omega) (by first | decide | with_reducible assumption | omega))) (chk77 hh1 rfl rfl (by show 0 ≤ 8; decide)) (fun h4 r4 => ?_)
      rintro ⟨e4, hh4, f4, c4, k4⟩
      rw [e4]
      refine E_ci 0 rfl ci0 ?_
      rw [show 1 + k = k + 1 by omega] at c4
      refine E_rti rfl (.inl ⟨k, by omega, rfl, hz, ⟨?_, fun i hi => ?_, fun i hi => ?_, fun i hi => ?_, fun i hi => ?_⟩, fun r hr hne => ⟨?_, fun i hi => ?_, fun i hi => ?_, fun i hi => ?_, fun i hi => ?_⟩⟩)
      · rw [c4.1, z _ _ (by first | decide | with_reducible assumption | omega)]
      · rw [c4.2.1 i hi, z _ _ (by first | decide | with_reducible assumption | omega)]
      · rw [c4.2.2.1 i hi, z _ _ (by first | decide | with_reducible assumption | omega)]
      · rw [c4.2.2.2.1 i hi, z _ _ (by first | decide | with_reducible assumption | omega)]
      · rw [c4.2.2.2.2 i hi, z _ _ (by first | decide | with_reducible assumption | omega)]
      · rw [(k4 r (by first | decide | with_reducible assumption | omega) hne).1, z _ _ (by first | decide | with_reducible assumption | omega)]
      · rw [(k4 r (by first | decide | with_reducible assumption | omega) hne).2.1 i hi, z _ _ (by first | decide | with_reducible assumption | omega)]
      · rw [(k4 r (by first | decide | with_reducible assumption | omega) hne).2.2.1 i hi, z _ _ (by first | decide | with_reducible assumption | omega)]
      · rw [(k4 r (by first | decide | with_reducible assumption | omega) hne).2.2.2.1 i hi, z _ _ (by first | decide | with_reducible assumption | omega)]
      · rw [(k4 r (by first | decide | with_reducible assumption | omega) hne).2.2.2.2 i hi, z _ _ (by first | decide | with_reducible assumption | omega)]
  · refine E_ifF rfl (by rw [zb_F hb3]; rfl) ?_
    refine E_c rfl ?_
    exact E_rti rfl (.inr ⟨fun ⟨j, hj, ej, _⟩ => hb3 (by rw [ej, nJ_toInt (by first | decide | with_reducible assumption | omega)]; omega), kz⟩)
end IM9
end
section
/-! the streets' relation and pairs of calls over it (wants t33, t53, t56 to t60) -/
noncomputable def ST1 (A r : Nat) (h : pm_H) : Prop := gi h A 3 = gi h 83 r ∧ (∀ k, k < 3 → gi h A k = gi h 84 (6 * r + k)) ∧ gi h A 4 = gi h 84 (6 * r + 3) ∧ gi h A 5 = gi h 84 (6 * r + 4) ∧ (gn h A 0 = 0 ↔ ¬ 0 < (gi h A 3).toInt)
noncomputable def STA (A r : Nat) (h : pm_H) : Prop := gi h A 6 = gi h 84 (6 * r + 5)
noncomputable def STD (A r : Nat) (h : pm_H) : Prop := ∀ i, i < 8 → i < gn h A 4 → gi h (A + 3) i = gi h 85 (16 * r + (2 * i + 1))
noncomputable def BN (A : Nat) (h : pm_H) : Prop := gn h A 4 ≤ 8 ∧ gn h A 5 ≤ 8 ∧ gn h A 6 ≤ 20
noncomputable def TJ (A r : Nat) (h : pm_H) : Prop := (∀ i, i < gn h A 4 → gi h (A + 1) i = gi h 85 (16 * r + 2 * i)) ∧ ∀ i, i < gn h A 5 → gi h (A + 4) i = gi h 86 (16 * r + 2 * i) ∧ gi h (A + 5) i = gi h 86 (16 * r + (2 * i + 1))
noncomputable def AC (A r n : Nat) (h : pm_H) : Prop := ∀ i, i < n → gi h (A + 6) i = gi h 87 (60 * r + (3 * i + 1)) ∧ gi h (A + 7) i = gi h 87 (60 * r + (3 * i + 2)) ∧ gi h (A + 8) i = gi h 87 (60 * r + 3 * i)
noncomputable def VT (A : Nat) (h : pm_H) : Prop := ∀ i, i < gn h A 4 → 1 ≤ gn h (A + 1) i ∧ gn h (A + 1) i ≤ gn h A 0
noncomputable def VA (A : Nat) (h : pm_H) : Prop := ∀ i, i < gn h A 6 → vAct (gn h A 4) (gn h A 0) (gn h (A + 6)) (gn h (A + 7)) (gn h (A + 8)) i
noncomputable def NW (A : Nat) (h : pm_H) : Prop := ∀ i, i < gn h A 4 → gn h (A + 2) i = nwF (gn h (A + 6)) (gn h (A + 7)) (gn h (A + 8)) (gn h (A + 1)) (gn h A 6) i
noncomputable def FS (A r : Nat) (h : pm_H) : Prop := BN A h ∧ TJ A r h ∧ AC A r (gn h A 6) h ∧ VT A h ∧ VA A h ∧ NW A h
noncomputable def ST (A r : Nat) (h : pm_H) : Prop := ST1 A r h ∧ STA A r h ∧ STD A r h ∧ FS A r h
theorem gn_eq {h h' : pm_H} {a b k j : Nat} (e : gi h' a k = gi h b j) : gn h' a k = gn h b j := by unfold gn; rw [e]
theorem FS_cp {A B r s : Nat} {h h' : pm_H} (c : CPY A B h h') (k : CP9 r s h h') (S : FS B s h) : FS A r h' := by
  obtain ⟨c1, -, c3, c4⟩ := c
  obtain ⟨-, -, k3, k4, k5⟩ := k
  obtain ⟨⟨b1, b2, b3⟩, ⟨t1, t2⟩, ac, vt, va, nw⟩ := S
  have e : ∀ j, j < 7 → gn h' A j = gn h B j := fun j hj => gn_eq (c1 j hj)
  have e4 := e 4 (by first | decide | with_reducible assumption | omega)
  have e5 := e 5 (by first | decide | with_reducible assumption | omega)
  have e6 := e 6 (by first | decide | with_reducible assumption | omega)
  have e0 := e 0 (by first | decide | with_reducible assumption | omega)
  refine ⟨⟨by omega, by omega, by omega⟩, ⟨fun i hi => ?_, fun i hi => ?_⟩, fun i hi => ?_, fun i hi => ?_, fun i hi => ?_, fun i hi => ?_⟩
  · rw [(c3 i (by first | decide | with_reducible assumption | omega)).1, k3 _ (by first | decide | with_reducible assumption | omega)]; exact t1 i (by first | decide | with_reducible assumption | omega)
  · rw [(c3 i (by first | decide | with_reducible assumption | omega)).2.2.1, (c3 i (by first | decide | with_reducible assumption | omega)).2.2.2, k4 _ (by first | decide | with_reducible assumption | omega), k4 _ (by first | decide | with_reducible assumption | omega)]; exact t2 i (by first | decide | with_reducible assumption | omega)
  · rw [(c4 i (by first | decide | with_reducible assumption | omega)).1, (c4 i (by first | decide | with_reducible assumption | omega)).2.1, (c4 i (by first | decide | with_reducible assumption | omega)).2.2, k5 _ (by first | decide | with_reducible assumption | omega), k5 _ (by first | decide | with_reducible assumption | omega), k5 _ (by first | decide | with_reducible assumption | omega)]; exact ac i (by first | decide | with_reducible assumption | omega)
  · rw [gn_eq (c3 i (by first | decide | with_reducible assumption | omega)).1, e0]; exact vt i (by first | decide | with_reducible assumption | omega)
  · have v := va i (by first | decide | with_reducible assumption | omega)
    unfold vAct at v ⊢
    rw [gn_eq (c4 i (by first | decide | with_reducible assumption | omega)).1, gn_eq (c4 i (by first | decide | with_reducible assumption | omega)).2.1, gn_eq (c4 i (by first | decide | with_reducible assumption | omega)).2.2, e4, e0]
    exact v
  · rw [gn_eq (c3 i (by first | decide | with_reducible assumption | omega)).2.1, nw i (by first | decide | with_reducible assumption | omega), e6]
    exact (nwF_cg (gn h B 6) (fun q hq => ⟨gn_eq (c4 q (by first | decide | with_reducible assumption | omega)).1, gn_eq (c4 q (by first | decide | with_reducible assumption | omega)).2.1, gn_eq (c4 q (by first | decide | with_reducible assumption | omega)).2.2⟩) va (fun j hj => gn_eq (c3 j (by first | decide | with_reducible assumption | omega)).1) i (by first | decide | with_reducible assumption | omega)).symm
theorem ST_cp {A B r s : Nat} {h h' : pm_H} (c : CPY A B h h') (k : CP9 r s h h') (S : ST B s h) : ST A r h' := by
  have fs := FS_cp c k S.2.2.2
  obtain ⟨c1, c2, -⟩ := c
  obtain ⟨k1, k2, k3, -⟩ := k
  obtain ⟨⟨s1, s2, s3, s4, s5⟩, sa, sd, -⟩ := S
  refine ⟨⟨?_, fun i hi => ?_, ?_, ?_, ?_⟩, ?_, fun i hi h4 => ?_, fs⟩
  · rw [c1 3 (by first | decide | with_reducible assumption | omega), k1]; exact s1
  · rw [c1 i (by first | decide | with_reducible assumption | omega), k2 i (by first | decide | with_reducible assumption | omega)]; exact s2 i hi
  · rw [c1 4 (by first | decide | with_reducible assumption | omega), k2 3 (by first | decide | with_reducible assumption | omega)]; exact s3
  · rw [c1 5 (by first | decide | with_reducible assumption | omega), k2 4 (by first | decide | with_reducible assumption | omega)]; exact s4
  · rw [c1 3 (by first | decide | with_reducible assumption | omega), gn_eq (c1 0 (by first | decide | with_reducible assumption | omega))]; exact s5
  · show gi h' A 6 = gi h' 84 (6 * r + 5)
    rw [c1 6 (by first | decide | with_reducible assumption | omega), k2 5 (by first | decide | with_reducible assumption | omega)]; exact sa
  · rw [gn_eq (c1 4 (by first | decide | with_reducible assumption | omega))] at h4
    rw [c2 i hi, k3 _ (by first | decide | with_reducible assumption | omega)]; exact sd i hi h4
theorem KEE_c {A : Nat} {h h' : pm_H} (k : KEE A h h') : CPY A A h h' := ⟨fun j _ => k 0 (by first | decide | with_reducible assumption | omega) j, fun i _ => k 3 (by first | decide | with_reducible assumption | omega) i, fun i _ => ⟨k 1 (by first | decide | with_reducible assumption | omega) i, k 2 (by first | decide | with_reducible assumption | omega) i, k 4 (by first | decide | with_reducible assumption | omega) i, k 5 (by first | decide | with_reducible assumption | omega) i⟩, fun i _ => ⟨k 6 (by first | decide | with_reducible assumption | omega) i, k 7 (by first | decide | with_reducible assumption | omega) i, k 8 (by first | decide | with_reducible assumption | omega) i⟩⟩
theorem KE9_c {r : Nat} {h h' : pm_H} (k : KE9 r h h') : CP9 r r h h' := k
noncomputable def IMG (h : pm_H) : Prop := ∀ k, k < 3 → ¬ gi h 52 k = 0 → ST (imA k) (k + 1) h
noncomputable def RST (h : pm_H) : Prop := ST 15 0 h ∧ IMG h
noncomputable def QRE (h : pm_H) : Prop := RES h ∧ RST h
noncomputable def IVQ (h : pm_H) : Prop := IVh h ∧ QRE h
noncomputable def nocell (M : List Rng) (a : Nat) : Bool := M.all (fun r => !(Nat.beq r.1 a))
noncomputable def clB (M : List Rng) : Bool := [15, 16, 17, 18, 19, 20, 21, 22, 23, 25, 26, 27, 28, 29, 30, 31, 32, 33, 34, 35, 36, 37, 38, 39, 40, 41, 42, 43, 44, 45, 46, 47, 48, 49, 50, 51, 52].all (nocell M)
noncomputable def rwB (M : List Rng) : Bool := [83, 84, 85, 86, 87].all (nocell M)
noncomputable def stB (M : List Rng) : Bool := clB M && rwB M
noncomputable def qrB (M : List Rng) : Bool := resB M && stB M
theorem nc_at {M : List Rng} {L : List Nat} (h : L.all (nocell M) = true) {a : Nat} (ha : a ∈ L) : M.all (fun r => !(Nat.beq r.1 a)) = true := List.all_eq_true.mp h a ha
theorem kB_cl {M : List Rng} {L : List Nat} {A : Nat} (h : L.all (nocell M) = true) (hA : ∀ q, q ≤ 8 → A + q ∈ L) : kB M A = true := List.all_eq_true.mpr (fun q hq => nc_at h (hA q (by have := List.mem_range.mp hq; omega)))
theorem KEE_15 {M : List Rng} {h h' : pm_H} (hf : fr_g M h h') (hb : clB M = true) : KEE 15 h h' := KEE_fr hf (kB_cl hb (by decide))
theorem KEE_im {M : List Rng} {h h' : pm_H} (hf : fr_g M h h') (hb : clB M = true) : ∀ k, k < 3 → KEE (imA k) h h'
  | 0, _ => KEE_fr hf (kB_cl hb (by decide))
  | 1, _ => KEE_fr hf (kB_cl hb (by decide))
  | 2, _ => KEE_fr hf (kB_cl hb (by decide))
theorem KE9_fr {M : List Rng} {h h' : pm_H} (hf : fr_g M h h') (hb : rwB M = true) (r : Nat) : KE9 r h h' := ⟨fr_gi hf (rg_no (nc_at hb (by decide)) _), fun _ _ => fr_gi hf (rg_no (nc_at hb (by decide)) _), fun _ _ => fr_gi hf (rg_no (nc_at hb (by decide)) _), fun _ _ => fr_gi hf (rg_no (nc_at hb (by decide)) _), fun _ _ => fr_gi hf (rg_no (nc_at hb (by decide)) _)⟩
theorem RST_fr {M : List Rng} {h h' : pm_H} (hf : fr_g M h h') (hb : stB M = true) (R : RST h) : RST h' := by
  unfold stB at hb
  rw [Bool.and_eq_true] at hb
  refine ⟨ST_cp (KEE_c (KEE_15 hf hb.1)) (KE9_c (KE9_fr hf hb.2 0)) R.1, fun k hk q => ?_⟩
  rw [fr_gi hf (rg_no (nc_at hb.1 (by decide)) _)] at q
  exact ST_cp (KEE_c (KEE_im hf hb.1 k hk)) (KE9_c (KE9_fr hf hb.2 _)) (R.2 k hk q)
theorem QRE_fr {M : List Rng} {h h' : pm_H} (hf : fr_g M h h') (hb : qrB M = true) (R : QRE h) : QRE h' := by
  unfold qrB at hb
  rw [Bool.and_eq_true] at hb
  exact ⟨RES_fr hf hb.1 R.1, RST_fr hf hb.2 R.2⟩
theorem tQ_int {d y : Nat} {h : pm_H} {as : List Value} {M : List Rng} (hd : Nat.ble d 100 = true) (hM : qrB M = true) (R : QRE h) (k : Sp d y h as (fun h' r => IVh h' ∧ fr_g M h h' ∧ ∃ x : Int32, r = some (.int x))) : Sp 100 y h as (fun h' r => IVQ h' ∧ ∃ x : Int32, r = some (.int x)) :=
  Sp_le (Nat.le_of_ble_eq_true hd) (Sp_mono (fun _ _ q => ⟨⟨q.1, QRE_fr q.2.1 hM R⟩, q.2.2⟩) k)
theorem tQ_lng {d y : Nat} {h : pm_H} {as : List Value} {M : List Rng} (hd : Nat.ble d 100 = true) (hM : qrB M = true) (R : QRE h) (k : Sp d y h as (fun h' r => IVh h' ∧ fr_g M h h' ∧ ∃ x : Int64, r = some (.long x))) : Sp 100 y h as (fun h' r => IVQ h' ∧ ∃ x : Int64, r = some (.long x)) :=
  Sp_le (Nat.le_of_ble_eq_true hd) (Sp_mono (fun _ _ q => ⟨⟨q.1, QRE_fr q.2.1 hM R⟩, q.2.2⟩) k)
theorem hf_Q {d y : Nat} {h : pm_H} {as : List Value} {M : List Rng} {P : pm_H → Int32 → Prop} {U : pm_H → Option Value → Prop} (hd : d ≤ 100) (hM : stB M = true) (S : RST h) (a : Sp 100 y h as (fun h' r => IVh h' ∧ ∃ x : Int32, r = some (.int x) ∧ P h' x)) (b : Sp d y h as (fun h' r => U h' r ∧ fr_g M h h')) : Sp 100 y h as (fun h' r => IVh h' ∧ ∃ x : Int32, r = some (.int x) ∧ (P h' x ∧ RST h')) :=
  Sp_mono (fun _ _ q => by
    obtain ⟨⟨q1, x, q2, q3⟩, -, q4⟩ := q
    exact ⟨q1, x, q2, q3, RST_fr q4 hM S⟩) (Sp_an a (Sp_le hd b))
theorem hs_Q {d y : Nat} {h : pm_H} {as : List Value} {M : List Rng} {P : Option Value → Prop} {U : pm_H → Option Value → Prop} (hd : d ≤ 100) (hM : stB M = true) (S : RST h) (a : Sp 100 y h as (fun h' r => IVS h' ∧ P r)) (b : Sp d y h as (fun h' r => U h' r ∧ fr_g M h h')) : Sp 100 y h as (fun h' r => IVQ h' ∧ P r) :=
  Sp_mono (fun _ _ q => by
    obtain ⟨⟨q1, q2⟩, -, q4⟩ := q
    exact ⟨⟨q1.1, q1.2, RST_fr q4 hM S⟩, q2⟩) (Sp_an a (Sp_le hd b))
section OLQ
variable {h : pm_H} {x v a b c d e : Int32} {w : Int64}
theorem g8_feed (I : IVQ h) : Sp 100 106 h [.ref 0, .int a, .int b, .int c, .int d, .int e] (fun h' r => IVh h' ∧ ∃ x : Int32, r = some (.int x) ∧ ((half_feed h' x a b c d e ∧ SL h') ∧ RST h')) :=
  hf_Q (by first | decide | with_reducible assumption | omega) rfl I.2.2 (d8_feed ⟨I.1, I.2.1⟩) (tf_all (as := [.ref 0, .int a, .int b, .int c, .int d, .int e]) q1 (by decide +kernel) I.1 ⟨rfl, aI _, aI _, aI _, aI _, aI _, trivial⟩)
theorem g9_feed (I : IVh h) (J : (half_feed h x a b c d e ∧ SL h) ∧ RST h) : Sp 100 247 h [.ref 77, .int a, .int b, .int c, .int d, .int e] (fun h' r => IVQ h' ∧ r = some (.int x)) :=
  hs_Q (by first | decide | with_reducible assumption | omega) rfl J.2 (d9_feed I J.1) (tf_all (as := [.ref 77, .int a, .int b, .int c, .int d, .int e]) q7 (by decide +kernel) I ⟨rfl, aI _, aI _, aI _, aI _, aI _, trivial⟩)
theorem g8_end (I : IVQ h) : Sp 100 101 h [.ref 0, .int v] (fun h' r => IVh h' ∧ ∃ x : Int32, r = some (.int x) ∧ ((half_end h' x v ∧ SL h') ∧ RST h')) :=
  hf_Q (by first | decide | with_reducible assumption | omega) rfl I.2.2 (d8_end ⟨I.1, I.2.1⟩) (tf_all (as := [.ref 0, .int v]) q8 (by decide +kernel) I.1 ⟨rfl, aI _, trivial⟩)
theorem g9_end (I : IVh h) (J : (half_end h x v ∧ SL h) ∧ RST h) : Sp 100 241 h [.ref 77, .int v] (fun h' r => IVQ h' ∧ r = some (.int x)) :=
  hs_Q (by first | decide | with_reducible assumption | omega) rfl J.2 (d9_end I J.1) (tf_all (as := [.ref 77, .int v]) q10 (by decide +kernel) I ⟨rfl, aI _, trivial⟩)
theorem g8_row (I : IVQ h) : Sp 100 171 h [.ref 0, .int a, .int b, .int c] (fun h' r => IVh h' ∧ ∃ x : Int32, r = some (.int x) ∧ (half_row h' x a b c ∧ RST h')) :=
  hf_Q (by first | decide | with_reducible assumption | omega) rfl I.2.2 (d8_row ⟨I.1, I.2.1⟩) (tf_all (as := [.ref 0, .int a, .int b, .int c]) q949 (by decide +kernel) I.1 ⟨rfl, aI _, aI _, aI _, trivial⟩)
theorem g9_row (I : IVh h) (J : half_row h x a b c ∧ RST h) : Sp 100 338 h [.ref 77, .int a, .int b, .int c] (fun h' r => IVQ h' ∧ r = some (.int x)) :=
  hs_Q (by first | decide | with_reducible assumption | omega) rfl J.2 (d9_row I J.1) (tf_all (as := [.ref 77, .int a, .int b, .int c]) q950 (by decide +kernel) I ⟨rfl, aI _, aI _, aI _, trivial⟩)
theorem g8_write (I : IVQ h) : Sp 100 203 h [.ref 0, .int a, .int b, .long w] (fun h' r => IVh h' ∧ ∃ x : Int32, r = some (.int x) ∧ (half_write h' x a b ∧ RST h')) :=
  hf_Q (by first | decide | with_reducible assumption | omega) rfl I.2.2 (d8_write ⟨I.1, I.2.1⟩) (tf_all (as := [.ref 0, .int a, .int b, .long w]) q952 (by decide +kernel) I.1 ⟨rfl, aI _, aI _, aL _, trivial⟩)
theorem g9_write (I : IVh h) (J : half_write h x a b ∧ RST h) : Sp 100 380 h [.ref 77, .int a, .int b, .long w] (fun h' r => IVQ h' ∧ r = some (.int x)) :=
  hs_Q (by first | decide | with_reducible assumption | omega) rfl J.2 (d9_write I J.1) (tf_all (as := [.ref 77, .int a, .int b, .long w]) q955 (by decide +kernel) I ⟨rfl, aI _, aI _, aL _, trivial⟩)
theorem g8_paste (I : IVQ h) : Sp 100 158 h [.ref 0, .int a, .int b, .int c, .int d, .int e] (fun h' r => IVh h' ∧ ∃ x : Int32, r = some (.int x) ∧ (half_paste h' x a b c d e ∧ RST h')) :=
  hf_Q (M := PM) (U := fun h' _ => HH h') (d := 2) (by first | decide | with_reducible assumption | omega) rfl I.2.2 (d8_paste ⟨I.1, I.2.1⟩) (Sp_mono (fun _ _ q => ⟨q.1, q.2.1⟩) (sp_paste8 (d := 0) I.1.1))
theorem g9_paste (I : IVh h) (J : half_paste h x a b c d e ∧ RST h) : Sp 100 323 h [.ref 77, .int a, .int b, .int c, .int d, .int e] (fun h' r => IVQ h' ∧ r = some (.int x)) :=
  hs_Q (by first | decide | with_reducible assumption | omega) rfl J.2 (d9_paste I J.1) (tf_all (as := [.ref 77, .int a, .int b, .int c, .int d, .int e]) q961 (by decide +kernel) I ⟨rfl, aI _, aI _, aI _, aI _, aI _, trivial⟩)
end OLQ
/-! image and back -/
noncomputable def half_imQ (h : pm_H) (x v : Int32) : Prop := (half_image h x v ∧ SL h) ∧ ST 15 0 h ∧ ∀ j, j < 3 → (v = nJ j ∧ ST (imA j) 0 h) ∨ (¬ v = nJ j ∧ (¬ gi h 88 j = 0 → ST (imA j) (j + 1) h))
theorem g8_image {h : pm_H} {v : Int32} (I : IVQ h) : Sp 100 121 h [.ref 0, .int v] (fun h' r => IVh h' ∧ ∃ x : Int32, r = some (.int x) ∧ half_imQ h' x v) := by
  refine Sp_mono ?_ (Sp_an (d8_image ⟨I.1, I.2.1⟩) (Sp_le (by first | exact Nat.add_le_add_left (Nat.le_of_ble_eq_true rfl) _ | exact Nat.le_of_ble_eq_true rfl | omega) (Sp_and (tf_all (as := [.ref 0, .int v]) q905 (by decide +kernel) I.1 ⟨rfl, aI _, trivial⟩) (sp_imageX8 I.1.1))))
  rintro h' r ⟨⟨q1, x, q2, q3⟩, ⟨-, q4⟩, q5⟩
  have k9 : ∀ r, KE9 r h h' := KE9_fr q4 rfl
  have e88 : ∀ j, gi h' 88 j = gi h 88 j := fun j => fr_gi q4 (rg_no rfl _)
  have kp := I.2.1.1.2
  refine ⟨q1, x, q2, q3, ?_⟩
  rcases q5 with ⟨k, hk, rfl, c1, k1, k2⟩ | ⟨hr, rfl⟩
  · refine ⟨ST_cp (KEE_c k1) (KE9_c (k9 0)) I.2.2.1, fun j hj => ?_⟩
    by_cases e : j = k
    · subst e
      exact .inl ⟨rfl, ST_cp c1 (KE9_c (k9 0)) I.2.2.1⟩
    · refine .inr ⟨fun q => e ((nJ_eq (by first | decide | with_reducible assumption | omega) (by first | decide | with_reducible assumption | omega)).mp q).symm, fun q => ?_⟩
      rw [e88 j, ← kp j hj] at q
      exact ST_cp (KEE_c (k2 j hj e)) (KE9_c (k9 _)) (I.2.2.2 j hj q)
  · refine ⟨I.2.2.1, fun j hj => .inr ⟨fun q => hr (by rw [q, nJ_toInt (by first | decide | with_reducible assumption | omega)]; omega), fun q => ?_⟩⟩
    rw [← kp j hj] at q
    exact I.2.2.2 j hj q
theorem g9_image {h : pm_H} {x v : Int32} (I : IVh h) (J : half_imQ h x v) : Sp 100 260 h [.ref 77, .int v] (fun h' r => IVQ h' ∧ r = some (.int x)) := by
  refine Sp_mono ?_ (Sp_an (d9_image I J.1) (Sp_le (by first | exact Nat.add_le_add_left (Nat.le_of_ble_eq_true rfl) _ | exact Nat.le_of_ble_eq_true rfl | omega) (Sp_and (tv_image (d := 0) I.1 I.2.2) (sp_imageX9 (d := 0) I.1))))
  rintro h' r ⟨⟨q1, q2⟩, ⟨-, q4, -, -, q88⟩, q5⟩
  obtain ⟨-, s0, sj⟩ := J
  have cl : clB VMI = true := rfl
  have kp : ∀ j, j < 3 → gi h' 52 j = gi h' 88 j := q1.2.1.2
  refine ⟨⟨q1.1, q1.2, ?_⟩, q2⟩
  rcases q5 with ⟨k, hk, rfl, c1, k2⟩ | ⟨hr, k2⟩
  · refine ⟨ST_cp (KEE_c (KEE_15 q4 cl)) (KE9_c (k2 0 (by first | decide | with_reducible assumption | omega) (by first | decide | with_reducible assumption | omega))) s0, fun j hj q => ?_⟩
    rcases sj j hj with ⟨e, s⟩ | ⟨e, s⟩
    · have e := (nJ_eq (by first | decide | with_reducible assumption | omega) (by first | decide | with_reducible assumption | omega)).mp e
      subst e
      exact ST_cp (KEE_c (KEE_im q4 cl _ hj)) c1 s
    · rw [kp j hj, q88 j hj, if_neg e] at q
      have ne : j ≠ k := fun z => e (by rw [z])
      exact ST_cp (KEE_c (KEE_im q4 cl _ hj)) (KE9_c (k2 (j + 1) (by first | decide | with_reducible assumption | omega) (by first | decide | with_reducible assumption | omega))) (s q)
  · refine ⟨ST_cp (KEE_c (KEE_15 q4 cl)) (KE9_c (k2 0)) s0, fun j hj q => ?_⟩
    rcases sj j hj with ⟨e, -⟩ | ⟨e, s⟩
    · exact absurd (by rw [e, nJ_toInt (by first | decide | with_reducible assumption | omega)]; omega) hr
    · rw [kp j hj, q88 j hj, if_neg e] at q
      exact ST_cp (KEE_c (KEE_im q4 cl _ hj)) (KE9_c (k2 _)) (s q)
noncomputable def half_bkQ (h : pm_H) (x v : Int32) : Prop := (half_back h x v ∧ SL h) ∧ IMG h ∧ ((∃ k, k < 3 ∧ v = nJ k ∧ ¬ gi h 88 k = 0 ∧ ST 15 (k + 1) h) ∨ (¬ (∃ k, k < 3 ∧ v = nJ k ∧ ¬ gi h 88 k = 0) ∧ ST 15 0 h))
theorem g8_back {h : pm_H} {v : Int32} (I : IVQ h) : Sp 100 82 h [.ref 0, .int v] (fun h' r => IVh h' ∧ ∃ x : Int32, r = some (.int x) ∧ half_bkQ h' x v) := by
  refine Sp_mono ?_ (Sp_an (d8_back ⟨I.1, I.2.1⟩) (Sp_le (by first | exact Nat.add_le_add_left (Nat.le_of_ble_eq_true rfl) _ | exact Nat.le_of_ble_eq_true rfl | omega) (Sp_and (tf_all (as := [.ref 0, .int v]) q927 (by decide +kernel) I.1 ⟨rfl, aI _, trivial⟩) (sp_backX8 I.1.1))))
  rintro h' r ⟨⟨q1, x, q2, q3⟩, ⟨-, q4⟩, q5⟩
  have k9 : ∀ r, KE9 r h h' := KE9_fr q4 rfl
  have e88 : ∀ j, gi h' 88 j = gi h 88 j := fun j => fr_gi q4 (rg_no rfl _)
  have e52 : ∀ j, gi h' 52 j = gi h 52 j := fun j => fr_gi q4 (rg_no rfl _)
  have kp := I.2.1.1.2
  refine ⟨q1, x, q2, q3, ?_⟩
  rcases q5 with ⟨k, hk, rfl, nz, c1, k2⟩ | ⟨hr, rfl⟩
  · refine ⟨fun j hj q => ?_, .inl ⟨k, hk, rfl, by rw [e88, ← kp k hk]; exact nz, ST_cp c1 (KE9_c (k9 _)) (I.2.2.2 k hk nz)⟩⟩
    rw [e52] at q
    exact ST_cp (KEE_c (k2 j hj)) (KE9_c (k9 _)) (I.2.2.2 j hj q)
  · refine ⟨I.2.2.2, .inr ⟨?_, I.2.2.1⟩⟩
    rintro ⟨k, hk, e, nz⟩
    exact hr ⟨k, hk, e, by rw [kp k hk]; exact nz⟩
theorem g9_back {h : pm_H} {x v : Int32} (I : IVh h) (J : half_bkQ h x v) : Sp 100 212 h [.ref 77, .int v] (fun h' r => IVQ h' ∧ r = some (.int x)) := by
  refine Sp_mono ?_ (Sp_an (d9_back I J.1) (Sp_le (by first | exact Nat.add_le_add_left (Nat.le_of_ble_eq_true rfl) _ | exact Nat.le_of_ble_eq_true rfl | omega) (Sp_and (tv_back (d := 0) I.1 I.2.2) (sp_backX9 (d := 0) I.1))))
  rintro h' r ⟨⟨q1, q2⟩, ⟨-, q4, -, -⟩, q5⟩
  obtain ⟨-, im, s⟩ := J
  have cl : clB VM = true := rfl
  have e52 : ∀ j, gi h' 52 j = gi h 52 j := fun j => fr_gi q4 (rg_no rfl _)
  refine ⟨⟨q1.1, q1.2, ?_⟩, q2⟩
  rcases q5 with ⟨k, hk, rfl, nz, c1, k2⟩ | ⟨hr, k2⟩
  · rcases s with ⟨j, hj, e, -, s⟩ | ⟨e, -⟩
    · have e := (nJ_eq (by first | decide | with_reducible assumption | omega) (by first | decide | with_reducible assumption | omega)).mp e
      subst e
      refine ⟨ST_cp (KEE_c (KEE_15 q4 cl)) c1 s, fun j hj q => ?_⟩
      rw [e52] at q
      exact ST_cp (KEE_c (KEE_im q4 cl _ hj)) (KE9_c (k2 (j + 1) (by first | decide | with_reducible assumption | omega) (by first | decide | with_reducible assumption | omega))) (im j hj q)
    · exact absurd ⟨k, hk, rfl, nz⟩ e
  · rcases s with ⟨j, hj, e, nz, -⟩ | ⟨-, s⟩
    · exact absurd ⟨j, hj, e, nz⟩ hr
    · refine ⟨ST_cp (KEE_c (KEE_15 q4 cl)) (KE9_c (k2 0)) s, fun j hj q => ?_⟩
      rw [e52] at q
      exact ST_cp (KEE_c (KEE_im q4 cl _ hj)) (KE9_c (k2 _)) (im j hj q)
end
section
/-! pairs over the streets' relation, II: street, undo, anew, rate, wants, trades, count (wants t61) -/
theorem prs_inv {T : Nat → Int32} {L : Nat} (f : Nat) : ∀ {n s : Nat} {σ : Sg}, Ws n σ → n ≤ s → s ≤ L → L < s + f → isR (prs T L f n σ s).1 = true → Ws (prs T L f n σ s).2.1 (prs T L f n σ s).2.2 ∧ (prs T L f n σ s).2.1 ≤ L := by
  induction f with
  | zero => intro n s σ _ _ h1 h2; omega
  | succ f ih =>
    intro n s σ W ns sL hL hr
    by_cases b2 : tkk T L s = 0
    · rw [prs_end b2]
      exact ⟨W, by show n ≤ L; omega⟩
    · cases x1 : bS T L (ln T L n σ s).1 with
      | inl e =>
        rw [prs_bad b2 x1] at hr
        cases hr
      | inr s' =>
        obtain ⟨t, et, k3, es⟩ := bS_in x1
        have tl := tkk_lt (T := T) (L := L) (s := t) (by first | decide | with_reducible assumption | omega)
        have nx := nxt_le (T := T) (Nat.le_of_lt tl)
        have nx2 := nx.2.2 tl
        have ge := ge_ln (T := T) (n := n) (σ := σ) sL
        rw [et] at ge
        have ge1 : s ≤ t := ge.1
        rw [prs_go b2 x1] at hr ⊢
        exact ih (Ws_ln W et) (by first | decide | with_reducible assumption | omega) (by first | decide | with_reducible assumption | omega) (by first | decide | with_reducible assumption | omega) hr
theorem PRS_inv {T : Nat → Int32} {L : Nat} (hr : isR (PRS T L).1 = true) : Ws (PRS T L).2.1 (PRS T L).2.2 ∧ (PRS T L).2.1 ≤ L := by
  have sk := skp_le (T := T) (L := L) (i := 0) (Nat.zero_le _)
  exact prs_inv (L + 1) (.inl ⟨rfl, rfl, rfl, rfl⟩) (Nat.zero_le _) sk.2 (by first | decide | with_reducible assumption | omega) hr
noncomputable def imB (M : List Rng) : Bool := [25, 26, 27, 28, 29, 30, 31, 32, 33, 34, 35, 36, 37, 38, 39, 40, 41, 42, 43, 44, 45, 46, 47, 48, 49, 50, 51, 52].all (nocell M)
theorem KEE_imB {M : List Rng} {h h' : pm_H} (hf : fr_g M h h') (hb : imB M = true) : ∀ k, k < 3 → KEE (imA k) h h'
  | 0, _ => KEE_fr hf (kB_cl hb (by decide))
  | 1, _ => KEE_fr hf (kB_cl hb (by decide))
  | 2, _ => KEE_fr hf (kB_cl hb (by decide))
theorem IMG_fr {M : List Rng} {h h' : pm_H} (hf : fr_g M h h') (hb : imB M = true) (k9 : ∀ r, 1 ≤ r → r ≤ 3 → KE9 r h h') (R : IMG h) : IMG h' := fun k hk q => by
  rw [fr_gi hf (rg_no (nc_at hb (by decide)) _)] at q
  exact ST_cp (KEE_c (KEE_imB hf hb k hk)) (KE9_c (k9 _ (by first | decide | with_reducible assumption | omega) (by first | decide | with_reducible assumption | omega))) (R k hk q)
theorem ST1_k {h h' : pm_H} (c : ∀ k, k ≤ 5 → gi h' 15 k = gi h 15 k) (r0 : gi h' 83 0 = gi h 83 0) (r : ∀ k, k < 5 → gi h' 84 k = gi h 84 k) (S : ST1 15 0 h) : ST1 15 0 h' := by
  obtain ⟨s1, s2, s3, s4, s5⟩ := S
  have e : ∀ k, 6 * 0 + k = k := fun k => by omega
  refine ⟨by rw [c 3 (by first | decide | with_reducible assumption | omega), r0]; exact s1, fun k hk => ?_, ?_, ?_, ?_⟩
  · have := s2 k hk
    rw [e] at this ⊢
    rw [c k (by first | decide | with_reducible assumption | omega), r k (by first | decide | with_reducible assumption | omega)]; exact this
  · rw [c 4 (by first | decide | with_reducible assumption | omega), r 3 (by first | decide | with_reducible assumption | omega)]; exact s3
  · rw [c 5 (by first | decide | with_reducible assumption | omega), r 4 (by first | decide | with_reducible assumption | omega)]; exact s4
  · rw [c 3 (by first | decide | with_reducible assumption | omega), gn_eq (c 0 (by first | decide | with_reducible assumption | omega))]; exact s5
theorem STD_k {h h' : pm_H} (c : gi h' 15 4 = gi h 15 4) (c2 : ∀ i, gi h' 18 i = gi h 18 i) (r : ∀ i, i < 16 → gi h' 85 i = gi h 85 i) (S : STD 15 0 h) : STD 15 0 h' := fun i hi q => by
  rw [gn_eq c] at q
  show gi h' 18 i = gi h' 85 (16 * 0 + (2 * i + 1))
  rw [c2, r _ (by first | decide | with_reducible assumption | omega)]
  exact S i hi q
/-! street -/
noncomputable def half_stQ (h : pm_H) (x : Int32) : Prop := gn h 1 1 = 0 ∧ KP h ∧ SL h ∧ IMG h ∧ ∃ (T : Nat → Int32) (L : Nat), TB T L h ∧ x = stv (PRS T L) ∧ (isR (PRS T L).1 = true → C0 (PRS T L).2.1 (PRS T L).2.2 h) ∧ (isR (PRS T L).1 = false → ST 15 0 h)
theorem g8_street {h : pm_H} (I : IVQ h) : Sp 100 185 h [.ref 0] (fun h' r => IVh h' ∧ ∃ x : Int32, r = some (.int x) ∧ half_stQ h' x) := by
  have hh : HH h := I.1.1
  have l5 : gn h 1 1 ≤ 500 := gn_hi hh rfl (by decide)
  have A : TA (gi h 2) (gn h 1 1) h := ⟨hh, gi_gn hh rfl (by decide), l5, fun _ _ => rfl⟩
  refine Sp_le (by first | exact Nat.add_le_add_left (Nat.le_of_ble_eq_true rfl) _ | exact Nat.le_of_ble_eq_true rfl | omega) (Sp_mono ?_ (Sp_and (top_all (as := [.ref 0]) q106 (by decide +kernel) I.1 ⟨rfl, trivial⟩) (sp_street8 (d := 0) A)))
  rintro h' r ⟨⟨s1, s2, -⟩, rfl, hh', g1, -, -, good, bad⟩
  obtain ⟨T1, T2⟩ := I.2.1.1.1
  have k9 : ∀ r, KE9 r h h' := KE9_fr s2 rfl
  refine ⟨s1, _, rfl, gn_of g1 (by first | decide | with_reducible assumption | omega), KP_fr s2 rfl I.2.1.1.2, SL_fr s2 rfl I.2.1.2, IMG_fr s2 rfl (fun r _ _ => k9 r) I.2.2.2, gi h 2, gn h 1 1, ⟨hh', ?_, l5, fun j hj => ?_⟩, rfl, good, fun q => ?_⟩
  · rw [fr_gi s2 rfl, T1]
    exact gi_gn hh rfl (by decide)
  · rw [fr_gi s2 (rg_no rfl _)]
    exact (T2 j hj).symm
  · exact ST_cp (KEE_c (KEE_15 (bad q) rfl)) (KE9_c (k9 0)) I.2.2.1
theorem g9_street {h : pm_H} {x : Int32} (I : IVh h) (J : half_stQ h x) : Sp 100 354 h [.ref 77] (fun h' r => IVQ h' ∧ r = some (.int x)) := by
  obtain ⟨j1, j2, j3, j4, T, L, B, rfl, good, bad⟩ := J
  have l5 := B.2.2.1
  refine Sp_le (by first | exact Nat.add_le_add_left (Nat.le_of_ble_eq_true rfl) _ | exact Nat.le_of_ble_eq_true rfl | omega) (Sp_mono ?_ (Sp_and (tv_street (d := 0) I.1 I.2.2) (sp_street9 (d := 0) B)))
  rintro h' r ⟨⟨a1, a2, a3, a4, a5⟩, rfl, -, -, -, -, gd, bd, ro⟩
  have e11 : gn h' 1 1 = gn h 1 1 := fr_gn a2 rfl
  have c : ∀ a k, 15 ≤ a → a ≤ 61 → gi h' a k = gi h a k := fun a k x1 x2 => fr_gi a2 (rg_no (by simp [VMS, VM, show Nat.beq 77 a = false from nbeqF (by first | decide | with_reducible assumption | omega), show Nat.beq 83 a = false from nbeqF (by first | decide | with_reducible assumption | omega), show Nat.beq 84 a = false from nbeqF (by first | decide | with_reducible assumption | omega), show Nat.beq 85 a = false from nbeqF (by first | decide | with_reducible assumption | omega), show Nat.beq 86 a = false from nbeqF (by first | decide | with_reducible assumption | omega), show Nat.beq 87 a = false from nbeqF (by first | decide | with_reducible assumption | omega), show Nat.beq 89 a = false from nbeqF (by first | decide | with_reducible assumption | omega), show Nat.beq 90 a = false from nbeqF (by first | decide | with_reducible assumption | omega), show Nat.beq 91 a = false from nbeqF (by first | decide | with_reducible assumption | omega), show Nat.beq 92 a = false from nbeqF (by first | decide | with_reducible assumption | omega), show Nat.beq 93 a = false from nbeqF (by first | decide | with_reducible assumption | omega), show Nat.beq 94 a = false from nbeqF (by first | decide | with_reducible assumption | omega), show Nat.beq 95 a = false from nbeqF (by first | decide | with_reducible assumption | omega), show Nat.beq 96 a = false from nbeqF (by first | decide | with_reducible assumption | omega), show Nat.beq 97 a = false from nbeqF (by first | decide | with_reducible assumption | omega), show Nat.beq 98 a = false from nbeqF (by first | decide | with_reducible assumption | omega), show Nat.beq 99 a = false from nbeqF (by first | decide | with_reducible assumption | omega), show Nat.beq 100 a = false from nbeqF (by first | decide | with_reducible assumption | omega), show Nat.beq 101 a = false from nbeqF (by first | decide | with_reducible assumption | omega), show Nat.beq 102 a = false from nbeqF (by first | decide | with_reducible assumption | omega)]) k)
  refine ⟨⟨IVh_fr (M := VMS) (by decide +kernel) a2 a1 I a3, ⟨⟨⟨by omega, fun j hj => by omega⟩, KP_fr a2 rfl j2⟩, SL_fr a2 rfl j3⟩, ?_, IMG_fr a2 rfl (fun r q1 q2 => ro r q2 q1) j4⟩, rfl⟩
  cases hr : isR (PRS T L).1 with
  | false => exact ST_cp (KEE_c (KEE_15 a2 rfl)) (KE9_c (KE9_st (bd hr) 0 (by first | decide | with_reducible assumption | omega))) (bad hr)
  | true =>
    obtain ⟨W, nL⟩ := PRS_inv hr
    obtain ⟨p0, p1, p2, p3, p4, p5, p6, pc, pj⟩ := good hr
    obtain ⟨q3, q0, q1, q2, q4, q5, q6, qc, qj⟩ := gd hr
    generalize (PRS T L).2.1 = n at W nL p3 q3
    generalize eσ : (PRS T L).2.2 = σ at W p0 p1 p2 p4 p5 pc pj q0 q1 q2 q4 q5 qc qj
    have cb : σ.1.1 ≤ 8 ∧ σ.2.1.1 ≤ 8 ∧ (σ.1.1 = 0 ↔ n = 0) := by
      rcases W with ⟨w1, w2, w3, -⟩ | ⟨w1, w2, w3, w4, -⟩ <;> omega
    have wt : Wt σ := by rw [← eσ]; exact PRS_wt hr
    have g4 : gn h' 15 4 = σ.2.1.1 := by rw [gn_eq (c 15 4 (by first | decide | with_reducible assumption | omega) (by first | decide | with_reducible assumption | omega)), gn_of p4 (by first | decide | with_reducible assumption | omega)]
    have b5 : gn h' 15 5 ≤ 8 := gn_hi a1 rfl (by decide)
    have g5 : gn h' 15 5 = σ.2.2.1 := by
      have j9 : σ.2.2.1 ≤ 9 := by rcases W with ⟨w1, w2, w3, w4⟩ | ⟨w1, w2, w3, w4, w5, w6, -⟩ <;> omega
      rw [gn_eq (c 15 5 (by first | decide | with_reducible assumption | omega) (by first | decide | with_reducible assumption | omega)), gn_of p5 (by first | decide | with_reducible assumption | omega)]
    have g6 : gn h' 15 6 = 0 := by rw [gn_eq (c 15 6 (by first | decide | with_reducible assumption | omega) (by first | decide | with_reducible assumption | omega)), gn_of p6 (by first | decide | with_reducible assumption | omega)]
    have g0 : gn h' 15 0 = σ.1.1 := by rw [gn_eq (c 15 0 (by first | decide | with_reducible assumption | omega) (by first | decide | with_reducible assumption | omega)), gn_of p0 (by first | decide | with_reducible assumption | omega)]
    refine ⟨⟨?_, fun k hk => ?_, ?_, ?_, ?_⟩, ?_, fun i hi q => ?_, ⟨by omega, b5, by omega⟩, ⟨fun i hi => ?_, fun i hi => ?_⟩, fun i hi => by omega, fun i hi => ?_, fun i hi => by omega, fun i hi => ?_⟩
    · rw [c 15 3 (by first | decide | with_reducible assumption | omega) (by first | decide | with_reducible assumption | omega), p3, q3]
    · match k, hk with
      | 0, _ => rw [c 15 0 (by first | decide | with_reducible assumption | omega) (by first | decide | with_reducible assumption | omega), p0]; exact q0.symm
      | 1, _ => rw [c 15 1 (by first | decide | with_reducible assumption | omega) (by first | decide | with_reducible assumption | omega), p1]; exact q1.symm
      | 2, _ => rw [c 15 2 (by first | decide | with_reducible assumption | omega) (by first | decide | with_reducible assumption | omega), p2]; exact q2.symm
    · rw [c 15 4 (by first | decide | with_reducible assumption | omega) (by first | decide | with_reducible assumption | omega), p4]; exact q4.symm
    · rw [c 15 5 (by first | decide | with_reducible assumption | omega) (by first | decide | with_reducible assumption | omega), p5]; exact q5.symm
    · rw [c 15 3 (by first | decide | with_reducible assumption | omega) (by first | decide | with_reducible assumption | omega), p3, gn_eq (c 15 0 (by first | decide | with_reducible assumption | omega) (by first | decide | with_reducible assumption | omega)), gn_of p0 (by first | decide | with_reducible assumption | omega), nJ_toInt (by first | decide | with_reducible assumption | omega)]
      omega
    · show gi h' 15 6 = gi h' 84 (6 * 0 + 5)
      rw [c 15 6 (by first | decide | with_reducible assumption | omega) (by first | decide | with_reducible assumption | omega), p6]; exact q6.symm
    · rw [gn_eq (c 15 4 (by first | decide | with_reducible assumption | omega) (by first | decide | with_reducible assumption | omega)), gn_of p4 (by first | decide | with_reducible assumption | omega)] at q
      show gi h' 18 i = gi h' 85 (16 * 0 + (2 * i + 1))
      rw [c 18 i (by first | decide | with_reducible assumption | omega) (by first | decide | with_reducible assumption | omega), (pc i hi q).2.2, show 16 * 0 + (2 * i + 1) = 2 * i + 1 by omega, (qc i hi q).2]
    · show gi h' 16 i = gi h' 85 (16 * 0 + 2 * i)
      rw [c 16 i (by first | decide | with_reducible assumption | omega) (by first | decide | with_reducible assumption | omega), (pc i (by first | decide | with_reducible assumption | omega) (by first | decide | with_reducible assumption | omega)).1, show 16 * 0 + 2 * i = 2 * i by omega, (qc i (by first | decide | with_reducible assumption | omega) (by first | decide | with_reducible assumption | omega)).1]
    · show gi h' 19 i = gi h' 86 (16 * 0 + 2 * i) ∧ gi h' 20 i = gi h' 86 (16 * 0 + (2 * i + 1))
      rw [c 19 i (by first | decide | with_reducible assumption | omega) (by first | decide | with_reducible assumption | omega), c 20 i (by first | decide | with_reducible assumption | omega) (by first | decide | with_reducible assumption | omega), (pj i (by first | decide | with_reducible assumption | omega) (by first | decide | with_reducible assumption | omega)).1, (pj i (by first | decide | with_reducible assumption | omega) (by first | decide | with_reducible assumption | omega)).2, show 16 * 0 + 2 * i = 2 * i by omega, show 16 * 0 + (2 * i + 1) = 2 * i + 1 by omega, (qj i (by first | decide | with_reducible assumption | omega) (by first | decide | with_reducible assumption | omega)).1, (qj i (by first | decide | with_reducible assumption | omega) (by first | decide | with_reducible assumption | omega)).2]
      exact ⟨rfl, rfl⟩
    · show 1 ≤ gn h' 16 i ∧ gn h' 16 i ≤ gn h' 15 0
      have w := wt i (by first | decide | with_reducible assumption | omega)
      rw [gn_eq (c 16 i (by first | decide | with_reducible assumption | omega) (by first | decide | with_reducible assumption | omega)), gn_of (pc i (by first | decide | with_reducible assumption | omega) (by first | decide | with_reducible assumption | omega)).1 (by first | decide | with_reducible assumption | omega), g0]
      exact w
    · show gn h' 17 i = nwF (gn h' 21) (gn h' 22) (gn h' 23) (gn h' 16) (gn h' 15 6) i
      have w := wt i (by first | decide | with_reducible assumption | omega)
      rw [g6]
      show gn h' 17 i = gn h' 16 i
      rw [gn_eq (c 16 i (by first | decide | with_reducible assumption | omega) (by first | decide | with_reducible assumption | omega)), gn_eq (c 17 i (by first | decide | with_reducible assumption | omega) (by first | decide | with_reducible assumption | omega)), gn_of (pc i (by first | decide | with_reducible assumption | omega) (by first | decide | with_reducible assumption | omega)).1 (by first | decide | with_reducible assumption | omega), gn_of (pc i (by first | decide | with_reducible assumption | omega) (by first | decide | with_reducible assumption | omega)).2.1 (by first | decide | with_reducible assumption | omega)]
/-! undo, anew -/
theorem lnp_0 {h : pm_H} (S : ST1 15 0 h) : gn h 15 0 = 0 ↔ lnp h = 0 := by
  obtain ⟨s1, -, -, -, s5⟩ := S
  rw [s5, s1]
  unfold lnp
  by_cases b : 0 < (gi h 83 0).toInt
  · rw [if_pos b]
    constructor
    · intro q; exact absurd b q
    · intro q; cases q
  · rw [if_neg b]
    exact ⟨fun _ => rfl, fun _ => b⟩
theorem udv_eq {p q a : Nat} (e : p = 0 ↔ q = 0) : udv p a = udv q a ∧ uda p a = uda q a ∧ anv p a = anv q a ∧ ana p a = ana q a := by
  unfold udv uda anv ana
  by_cases b : p = 0
  · have b2 := e.mp b
    rw [if_pos b, if_pos b2, if_pos b, if_pos b2, if_pos b, if_pos b2, if_pos b, if_pos b2]
    exact ⟨rfl, rfl, rfl, rfl⟩
  · have b2 : ¬ q = 0 := fun z => b (e.mpr z)
    rw [if_neg b, if_neg b2, if_neg b, if_neg b2, if_neg b, if_neg b2, if_neg b, if_neg b2]
    exact ⟨rfl, rfl, rfl, rfl⟩
theorem lnp_fr {h h' : pm_H} (e : gi h' 83 0 = gi h 83 0) : lnp h' = lnp h := by unfold lnp; rw [e]
/-- of the street as it is now: all but that its acts are the reference's -/
noncomputable def HF (h : pm_H) : Prop := BN 15 h ∧ TJ 15 0 h ∧ VT 15 h ∧ VA 15 h ∧ NW 15 h
theorem FS_of {h : pm_H} (H : HF h) (a : AC 15 0 (gn h 15 6) h) : FS 15 0 h := ⟨H.1, H.2.1, a, H.2.2.1, H.2.2.2.1, H.2.2.2.2⟩
theorem HF_of {h : pm_H} (F : FS 15 0 h) : HF h := ⟨F.1, F.2.1, F.2.2.2.1, F.2.2.2.2.1, F.2.2.2.2.2⟩
theorem HF_k {h h' : pm_H} (c : ∀ q, q ≤ 8 → q ≠ 3 → ∀ j, gi h' (15 + q) j = gi h (15 + q) j) (e85 : ∀ i, i < 8 → gi h' 85 (2 * i) = gi h 85 (2 * i)) (e86 : ∀ i, i < 16 → gi h' 86 i = gi h 86 i) (S : HF h) : HF h' := by
  have n : ∀ q, q ≤ 8 → q ≠ 3 → gn h' (15 + q) = gn h (15 + q) := fun q h1 h2 => funext (fun j => gn_eq (c q h1 h2 j))
  obtain ⟨b, ⟨t1, t2⟩, vt, va, nw⟩ := S
  have n0 : gn h' 15 = gn h 15 := n 0 (by first | decide | with_reducible assumption | omega) (by first | decide | with_reducible assumption | omega)
  have n1 : gn h' 16 = gn h 16 := n 1 (by first | decide | with_reducible assumption | omega) (by first | decide | with_reducible assumption | omega)
  have n2 : gn h' 17 = gn h 17 := n 2 (by first | decide | with_reducible assumption | omega) (by first | decide | with_reducible assumption | omega)
  have n6 : gn h' 21 = gn h 21 := n 6 (by first | decide | with_reducible assumption | omega) (by first | decide | with_reducible assumption | omega)
  have n7 : gn h' 22 = gn h 22 := n 7 (by first | decide | with_reducible assumption | omega) (by first | decide | with_reducible assumption | omega)
  have n8 : gn h' 23 = gn h 23 := n 8 (by first | decide | with_reducible assumption | omega) (by first | decide | with_reducible assumption | omega)
  have c1 : ∀ j, gi h' 16 j = gi h 16 j := c 1 (by first | decide | with_reducible assumption | omega) (by first | decide | with_reducible assumption | omega)
  have c4 : ∀ j, gi h' 19 j = gi h 19 j := c 4 (by first | decide | with_reducible assumption | omega) (by first | decide | with_reducible assumption | omega)
  have c5 : ∀ j, gi h' 20 j = gi h 20 j := c 5 (by first | decide | with_reducible assumption | omega) (by first | decide | with_reducible assumption | omega)
  obtain ⟨b1, b2, b3⟩ := b
  refine ⟨?_, ⟨fun i hi => ?_, fun i hi => ?_⟩, fun i hi => ?_, fun i hi => ?_, fun i hi => ?_⟩
  · show gn h' 15 4 ≤ 8 ∧ gn h' 15 5 ≤ 8 ∧ gn h' 15 6 ≤ 20
    rw [n0]; exact ⟨b1, b2, b3⟩
  · rw [n0] at hi
    have q := t1 i hi
    show gi h' 16 i = gi h' 85 (16 * 0 + 2 * i)
    rw [show 16 * 0 + 2 * i = 2 * i by omega] at q ⊢
    rw [c1, e85 i (by first | decide | with_reducible assumption | omega)]; exact q
  · rw [n0] at hi
    have q := t2 i hi
    show gi h' 19 i = gi h' 86 (16 * 0 + 2 * i) ∧ gi h' 20 i = gi h' 86 (16 * 0 + (2 * i + 1))
    rw [show 16 * 0 + 2 * i = 2 * i by omega, show 16 * 0 + (2 * i + 1) = 2 * i + 1 by omega] at q ⊢
    rw [c4, c5, e86 _ (by first | decide | with_reducible assumption | omega), e86 _ (by first | decide | with_reducible assumption | omega)]; exact q
  · rw [n0] at hi
    show 1 ≤ gn h' 16 i ∧ gn h' 16 i ≤ gn h' 15 0
    rw [n0, n1]; exact vt i hi
  · rw [n0] at hi
    show vAct (gn h' 15 4) (gn h' 15 0) (gn h' 21) (gn h' 22) (gn h' 23) i
    rw [n0, n6, n7, n8]; exact va i hi
  · rw [n0] at hi
    show gn h' 17 i = nwF (gn h' 21) (gn h' 22) (gn h' 23) (gn h' 16) (gn h' 15 6) i
    rw [n0, n1, n2, n6, n7, n8]; exact nw i hi
/-- acts taken back -/
theorem un_HF {h h' : pm_H} {a : Nat} (F : FS 15 0 h) (f : fr_g KAF h h') (e : gi h' 15 6 = nJ a) (le : a ≤ gn h 15 6) (N : ∀ j, j < gn h 15 4 → gn h' 17 j = nwF (gn h 21) (gn h 22) (gn h 23) (gn h 16) a j) : HF h' ∧ AC 15 0 a h' := by
  obtain ⟨⟨b1, b2, b3⟩, ⟨t1, t2⟩, ac, vt, va, nw⟩ := F
  have e4 : gn h' 15 4 = gn h 15 4 := fr_gn f rfl
  have e5 : gn h' 15 5 = gn h 15 5 := fr_gn f rfl
  have e0 : gn h' 15 0 = gn h 15 0 := fr_gn f rfl
  have e6 : gn h' 15 6 = a := gn_of e (by first | decide | with_reducible assumption | omega)
  have k16 : ∀ j, gi h' 16 j = gi h 16 j := fun j => fr_gi f (rg_no rfl _)
  have k19 : ∀ j, gi h' 19 j = gi h 19 j := fun j => fr_gi f (rg_no rfl _)
  have k20 : ∀ j, gi h' 20 j = gi h 20 j := fun j => fr_gi f (rg_no rfl _)
  have k21 : ∀ j, gi h' 21 j = gi h 21 j := fun j => fr_gi f (rg_no rfl _)
  have k22 : ∀ j, gi h' 22 j = gi h 22 j := fun j => fr_gi f (rg_no rfl _)
  have k23 : ∀ j, gi h' 23 j = gi h 23 j := fun j => fr_gi f (rg_no rfl _)
  have k85 : ∀ j, gi h' 85 j = gi h 85 j := fun j => fr_gi f (rg_no rfl _)
  have k86 : ∀ j, gi h' 86 j = gi h 86 j := fun j => fr_gi f (rg_no rfl _)
  have k87 : ∀ j, gi h' 87 j = gi h 87 j := fun j => fr_gi f (rg_no rfl _)
  have n16 : gn h' 16 = gn h 16 := funext (fun j => gn_eq (k16 j))
  have n21 : gn h' 21 = gn h 21 := funext (fun j => gn_eq (k21 j))
  have n22 : gn h' 22 = gn h 22 := funext (fun j => gn_eq (k22 j))
  have n23 : gn h' 23 = gn h 23 := funext (fun j => gn_eq (k23 j))
  refine ⟨⟨⟨by omega, by omega, by omega⟩, ⟨fun i hi => ?_, fun i hi => ?_⟩, fun i hi => ?_, fun i hi => ?_, fun i hi => ?_⟩, fun i hi => ?_⟩
  · show gi h' 16 i = gi h' 85 (16 * 0 + 2 * i)
    rw [k16, k85]; exact t1 i (by first | decide | with_reducible assumption | omega)
  · show gi h' 19 i = gi h' 86 (16 * 0 + 2 * i) ∧ gi h' 20 i = gi h' 86 (16 * 0 + (2 * i + 1))
    rw [k19, k20, k86, k86]; exact t2 i (by first | decide | with_reducible assumption | omega)
  · show 1 ≤ gn h' 16 i ∧ gn h' 16 i ≤ gn h' 15 0
    rw [n16, e0]; exact vt i (by first | decide | with_reducible assumption | omega)
  · show vAct (gn h' 15 4) (gn h' 15 0) (gn h' 21) (gn h' 22) (gn h' 23) i
    rw [e4, e0, n21, n22, n23]; exact va i (by first | decide | with_reducible assumption | omega)
  · show gn h' 17 i = nwF (gn h' 21) (gn h' 22) (gn h' 23) (gn h' 16) (gn h' 15 6) i
    rw [n16, n21, n22, n23, e6]; exact N i (by first | decide | with_reducible assumption | omega)
  · show gi h' 21 i = gi h' 87 (60 * 0 + (3 * i + 1)) ∧ gi h' 22 i = gi h' 87 (60 * 0 + (3 * i + 2)) ∧ gi h' 23 i = gi h' 87 (60 * 0 + 3 * i)
    rw [k21, k22, k23, k87, k87, k87]; exact ac i (by first | decide | with_reducible assumption | omega)
noncomputable def WMF : List Rng := [(15, 6, 6), (17, 0, 7), (21, 0, 19), (22, 0, 19), (23, 0, 19), (62, 1, 3), (63, 0, 7)]
theorem gi_g2 {h h' : pm_H} {a k : Nat} {q : Int × Int} (hh : HH h) (hh' : HH h') (hb : bd a k = some q) (h0 : 0 ≤ q.1) (e : gn h' a k = gn h a k) : gi h' a k = gi h a k := by
  rw [gi_gn hh' hb h0, gi_gn hh hb h0, e]
/-- an act more, or none -/
theorem add_HF {h h' : pm_H} {c z t : Nat} {ok : Bool} (hh : HH h) (hh' : HH h') (F : FS 15 0 h) (f : fr_g WMF h h') (V : ok = true → c < gn h 15 4 ∧ ((t = 0 ∧ 1 ≤ z ∧ z ≤ gn h 15 0) ∨ (t = 1 ∧ z < gn h 15 4))) (X : WX ok h h' (gn h 15 6) c z t) : HF h' ∧ AC 15 0 (gn h 15 6) h' ∧ (gn h' 15 6 = gn h 15 6 ∨ (gn h' 15 6 = gn h 15 6 + 1 ∧ gi h' 21 (gn h 15 6) = nJ c ∧ gi h' 22 (gn h 15 6) = nJ z ∧ gi h' 23 (gn h 15 6) = nJ t)) := by
  obtain ⟨⟨b1, b2, b3⟩, ⟨t1, t2⟩, ac, vt, va, nw⟩ := F
  have e4 : gn h' 15 4 = gn h 15 4 := fr_gn f rfl
  have e5 : gn h' 15 5 = gn h 15 5 := fr_gn f rfl
  have e0 : gn h' 15 0 = gn h 15 0 := fr_gn f rfl
  have k16 : ∀ j, gi h' 16 j = gi h 16 j := fun j => fr_gi f (rg_no rfl _)
  have k19 : ∀ j, gi h' 19 j = gi h 19 j := fun j => fr_gi f (rg_no rfl _)
  have k20 : ∀ j, gi h' 20 j = gi h 20 j := fun j => fr_gi f (rg_no rfl _)
  have k85 : ∀ j, gi h' 85 j = gi h 85 j := fun j => fr_gi f (rg_no rfl _)
  have k86 : ∀ j, gi h' 86 j = gi h 86 j := fun j => fr_gi f (rg_no rfl _)
  have k87 : ∀ j, gi h' 87 j = gi h 87 j := fun j => fr_gi f (rg_no rfl _)
  have n16 : gn h' 16 = gn h 16 := funext (fun j => gn_eq (k16 j))
  have tj : TJ 15 0 h' := ⟨fun i hi => by
    show gi h' 16 i = gi h' 85 (16 * 0 + 2 * i)
    rw [k16, k85]; exact t1 i (by first | decide | with_reducible assumption | omega), fun i hi => by
    show gi h' 19 i = gi h' 86 (16 * 0 + 2 * i) ∧ gi h' 20 i = gi h' 86 (16 * 0 + (2 * i + 1))
    rw [k19, k20, k86, k86]; exact t2 i (by first | decide | with_reducible assumption | omega)⟩
  have vt' : VT 15 h' := fun i hi => by
    show 1 ≤ gn h' 16 i ∧ gn h' 16 i ≤ gn h' 15 0
    rw [n16, e0]; exact vt i (by first | decide | with_reducible assumption | omega)
  have ac' : (∀ i, i < gn h 15 6 → gn h' 21 i = gn h 21 i ∧ gn h' 22 i = gn h 22 i ∧ gn h' 23 i = gn h 23 i) → AC 15 0 (gn h 15 6) h' := fun g i hi => by
    obtain ⟨g1, g2, g3⟩ := g i hi
    show gi h' 21 i = gi h' 87 (60 * 0 + (3 * i + 1)) ∧ gi h' 22 i = gi h' 87 (60 * 0 + (3 * i + 2)) ∧ gi h' 23 i = gi h' 87 (60 * 0 + 3 * i)
    rw [k87, k87, k87, gi_g2 hh hh' (bd_u rfl (by first | decide | with_reducible assumption | omega)) (by decide) g1, gi_g2 hh hh' (bd_u rfl (by first | decide | with_reducible assumption | omega)) (by decide) g2, gi_g2 hh hh' (bd_u rfl (by first | decide | with_reducible assumption | omega)) (by decide) g3]
    exact ac i hi
  by_cases b : ok = true ∧ gn h 15 6 < 20
  · obtain ⟨w6, w1, w2, w3, w4⟩ := X.1 b
    have v := V b.1
    have e6 : gn h' 15 6 = gn h 15 6 + 1 := gn_of w6 (by first | decide | with_reducible assumption | omega)
    have vK : vAct (gn h 15 4) (gn h 15 0) (fup (gn h 21) (gn h 15 6) c) (fup (gn h 22) (gn h 15 6) z) (fup (gn h 23) (gn h 15 6) t) (gn h 15 6) := by
      unfold vAct
      rw [fup_s, fup_s, fup_s]
      exact v
    refine ⟨⟨⟨by omega, by omega, by omega⟩, tj, vt', fun i hi => ?_, fun i hi => ?_⟩, ac' (fun i hi => by rw [w1, w2, w3, fup_n (by first | decide | with_reducible assumption | omega), fup_n (by first | decide | with_reducible assumption | omega), fup_n (by first | decide | with_reducible assumption | omega)]; exact ⟨rfl, rfl, rfl⟩), .inr ⟨e6, ?_, ?_, ?_⟩⟩
    · show vAct (gn h' 15 4) (gn h' 15 0) (gn h' 21) (gn h' 22) (gn h' 23) i
      rw [e4, e0, w1, w2, w3]
      by_cases q : i = gn h 15 6
      · rw [q]; exact vK
      · have o := va i (by first | decide | with_reducible assumption | omega)
        unfold vAct at o ⊢
        rw [fup_n q, fup_n q, fup_n q]
        exact o
    · show gn h' 17 i = nwF (gn h' 21) (gn h' 22) (gn h' 23) (gn h' 16) (gn h' 15 6) i
      rw [w4, w1, w2, w3, e6, n16]
      exact dAct_cg rfl rfl rfl vK (fun j hj => (nw j hj).trans (nwF_cg (gn h 15 6) (fun q hq => ⟨fup_n (by first | decide | with_reducible assumption | omega), fup_n (by first | decide | with_reducible assumption | omega), fup_n (by first | decide | with_reducible assumption | omega)⟩) va (fun _ _ => rfl) j hj).symm) i (by first | decide | with_reducible assumption | omega)
    · rw [gi_gn hh' (q := (0, 7)) (bd_u rfl (by first | decide | with_reducible assumption | omega)) (by decide), w1, fup_s]
    · rw [gi_gn hh' (q := (0, 8)) (bd_u rfl (by first | decide | with_reducible assumption | omega)) (by decide), w2, fup_s]
    · rw [gi_gn hh' (q := (0, 1)) (bd_u rfl (by first | decide | with_reducible assumption | omega)) (by decide), w3, fup_s]
  · obtain ⟨w6, w1, w2, w3, w4⟩ := X.2 b
    have e6 : gn h' 15 6 = gn h 15 6 := gn_eq w6
    refine ⟨⟨⟨by omega, by omega, by omega⟩, tj, vt', fun i hi => ?_, fun i hi => ?_⟩, ac' (fun i hi => by rw [w1, w2, w3]; exact ⟨rfl, rfl, rfl⟩), .inl e6⟩
    · show vAct (gn h' 15 4) (gn h' 15 0) (gn h' 21) (gn h' 22) (gn h' 23) i
      rw [e4, e0, w1, w2, w3]; exact va i (by first | decide | with_reducible assumption | omega)
    · show gn h' 17 i = nwF (gn h' 21) (gn h' 22) (gn h' 23) (gn h' 16) (gn h' 15 6) i
      rw [w4, w1, w2, w3, e6, n16]; exact nw i (by first | decide | with_reducible assumption | omega)
/-- between: all but the acts, which are told -/
noncomputable def half_ac (h : pm_H) (a : Nat) : Prop := RES h ∧ IMG h ∧ ST1 15 0 h ∧ STD 15 0 h ∧ gi h 15 6 = nJ a ∧ HF h
theorem ac_8 {M : List Rng} {h h' : pm_H} {a : Nat} (R : QRE h) (hf : fr_g M h h') (hb : resB M = true) (hi : imB M = true) (hr : rwB M = true) (h1 : ∀ k, k ≤ 5 → rg_in M 15 k = false) (h2 : M.all (fun r => !(Nat.beq r.1 18)) = true) (e : gi h' 15 6 = nJ a) (H : HF h') : half_ac h' a := by
  have k9 : ∀ r, KE9 r h h' := KE9_fr hf hr
  refine ⟨RES_fr hf hb R.1, IMG_fr hf hi (fun r _ _ => k9 r) R.2.2, ST1_k (fun k hk => fr_gi hf (h1 k hk)) (k9 0).1 (fun k hk => ?_) R.2.1.1, STD_k (fr_gi hf (h1 4 (by first | decide | with_reducible assumption | omega))) (fun i => fr_gi hf (rg_no h2 _)) (fun i hi => ?_) R.2.1.2.2.1, e, H⟩
  · have := (k9 0).2.1 k (by first | decide | with_reducible assumption | omega)
    rw [show 6 * 0 + k = k by omega] at this
    exact this
  · have := (k9 0).2.2.1 i hi
    rw [show 16 * 0 + i = i by omega] at this
    exact this
theorem ac_9 {M : List Rng} {h h' : pm_H} {a : Nat} (J : half_ac h a) (hf : fr_g M h h') (hb : resB M = true) (hc : clB M = true) (s : SAM h h') (e86 : ∀ k, gi h' 86 k = gi h 86 k) (e87 : ∀ k, 60 ≤ k → gi h' 87 k = gi h 87 k) (e : gi h' 84 5 = nJ a) (A : AC 15 0 (gn h 15 6) h') : QRE h' := by
  obtain ⟨j1, j2, j3, j4, j5, j6⟩ := J
  have c : ∀ k, gi h' 15 k = gi h 15 k := fun k => fr_gi hf (rg_no (nc_at hc (by decide)) _)
  have im : imB M = true := by
    unfold clB at hc
    unfold imB
    rw [List.all_eq_true] at hc ⊢
    intro x hx
    exact hc x (by revert x; decide)
  have k9 : ∀ r, 1 ≤ r → r ≤ 3 → KE9 r h h' := fun r h1 _ => ⟨s 83 r (.inl rfl), fun k _ => s 84 _ (.inr (.inr ⟨rfl, by omega⟩)), fun k _ => s 85 _ (.inr (.inl rfl)), fun k _ => e86 _, fun k _ => e87 _ (by first | decide | with_reducible assumption | omega)⟩
  refine ⟨RES_fr hf hb j1, ⟨ST1_k (fun k _ => c k) (s 83 0 (.inl rfl)) (fun k hk => s 84 k (.inr (.inr ⟨rfl, by omega⟩))) j3, ?_, STD_k (c 4) (fun i => fr_gi hf (rg_no (nc_at hc (by decide)) _)) (fun i _ => s 85 i (.inr (.inl rfl))) j4, FS_of (HF_k (fun q hq _ j => KEE_15 hf hc q hq j) (fun i _ => s 85 _ (.inr (.inl rfl))) (fun i _ => e86 i) j6) (by rw [gn_eq (c 6)]; exact A)⟩, IMG_fr hf im k9 j2⟩
  show gi h' 15 6 = gi h' 84 (6 * 0 + 5)
  rw [c 6, j5]
  exact e.symm
theorem sam_fr {h h' : pm_H} (hf : fr_g [(77, 0, 0), (84, 5, 5)] h h') : SAM h h' := fun a k q => by
  rcases q with rfl | rfl | ⟨rfl, hk⟩
  · exact fr_gi hf (rg_no rfl _)
  · exact fr_gi hf (rg_no rfl _)
  · refine fr_gi hf ?_
    show (Nat.beq 77 84 && (Nat.ble 0 k && Nat.ble k 0) || (Nat.beq 84 84 && (Nat.ble 5 k && Nat.ble k 5) || false)) = false
    have : (Nat.ble 5 k && Nat.ble k 5) = false := by
      cases q : (Nat.ble 5 k && Nat.ble k 5) with
      | false => rfl
      | true =>
        rw [Bool.and_eq_true, nble, nble] at q
        omega
    rw [this]
    rfl
theorem fr_rf_ac {h h' : pm_H} (f : fr_g [(77, 0, 0), (84, 5, 5)] h h') : ∀ a k, a = 21 ∨ a = 22 ∨ a = 23 ∨ a = 87 → gi h' a k = gi h a k := fun a k q => by
  rcases q with rfl | rfl | rfl | rfl <;> exact fr_gi f (rg_no rfl _)
theorem AC_87 {h h' : pm_H} {n : Nat} (e : ∀ a k, a = 21 ∨ a = 22 ∨ a = 23 ∨ a = 87 → gi h' a k = gi h a k) (A : AC 15 0 n h) : AC 15 0 n h' := fun i hi => by
  show gi h' 21 i = gi h' 87 (60 * 0 + (3 * i + 1)) ∧ gi h' 22 i = gi h' 87 (60 * 0 + (3 * i + 2)) ∧ gi h' 23 i = gi h' 87 (60 * 0 + 3 * i)
  rw [e 21 i (by first | decide | with_reducible assumption | omega), e 22 i (by first | decide | with_reducible assumption | omega), e 23 i (by first | decide | with_reducible assumption | omega), e 87 _ (by first | decide | with_reducible assumption | omega), e 87 _ (by first | decide | with_reducible assumption | omega), e 87 _ (by first | decide | with_reducible assumption | omega)]
  exact A i hi
section UNQ
variable {h : pm_H} {x : Int32}
noncomputable def half_unQ (h : pm_H) (x : Int32) : Prop := (half_ac h (uda (lnp h) (gn h 84 5)) ∧ AC 15 0 (uda (lnp h) (gn h 84 5)) h) ∧ x = udv (lnp h) (gn h 84 5)
noncomputable def half_anQ (h : pm_H) (x : Int32) : Prop := (half_ac h (ana (lnp h) (gn h 84 5)) ∧ AC 15 0 (ana (lnp h) (gn h 84 5)) h) ∧ x = anv (lnp h) (gn h 84 5)
theorem uda_le {p a : Nat} : uda p a ≤ a := by unfold uda; split <;> omega
theorem ana_le {p a : Nat} : ana p a ≤ a := by unfold ana; split <;> omega
theorem acts_eq (R : QRE h) : gn h 15 6 = gn h 84 5 := gn_eq (show gi h 15 6 = gi h 84 5 from R.2.1.2.1)
theorem g8_undo (I : IVQ h) : Sp 100 195 h [.ref 0] (fun h' r => IVh h' ∧ ∃ x : Int32, r = some (.int x) ∧ half_unQ h' x) := by
  refine Sp_le (by first | exact Nat.add_le_add_left (Nat.le_of_ble_eq_true rfl) _ | exact Nat.le_of_ble_eq_true rfl | omega) (Sp_mono ?_ (Sp_and (top_all (as := [.ref 0]) q878 (by decide +kernel) I.1 ⟨rfl, trivial⟩) (sp_undo8X (d := 0) I.1.1 I.2.2.1.2.2.2.2.2.2.2.1 I.2.2.1.2.2.2.2.2.2.2.2)))
  rintro h' r ⟨⟨s1, s2, -⟩, rfl, g6, ka, nw⟩
  have u := udv_eq (a := gn h 84 5) (lnp_0 I.2.2.1.1)
  have e1 : lnp h' = lnp h := lnp_fr (fr_gi s2 (rg_no rfl _))
  have e2 : gn h' 84 5 = gn h 84 5 := fr_gn s2 (rg_no rfl _)
  obtain ⟨H, A⟩ := un_HF I.2.2.1.2.2.2 ka g6 uda_le nw
  rw [acts_eq I.2, u.2.1] at g6 A
  refine ⟨s1, _, rfl, ⟨ac_8 I.2 s2 rfl rfl rfl (fun k hk => ?_) rfl (by rw [e1, e2]; exact g6) H, by rw [e1, e2]; exact A⟩, by rw [e1, e2, acts_eq I.2, u.1]⟩
  match k, hk with
  | 0, _ => rfl
  | 1, _ => rfl
  | 2, _ => rfl
  | 3, _ => rfl
  | 4, _ => rfl
  | 5, _ => rfl
theorem g9_undo (I : IVh h) (J : half_unQ h x) : Sp 100 366 h [.ref 77] (fun h' r => IVQ h' ∧ r = some (.int x)) := by
  refine Sp_le (by first | exact Nat.add_le_add_left (Nat.le_of_ble_eq_true rfl) _ | exact Nat.le_of_ble_eq_true rfl | omega) (Sp_mono ?_ (Sp_and (tv_undo (d := 0) I.1 I.2.2) (sp_undo9 (d := 0) I.1)))
  rintro h' r ⟨⟨a1, a2, a3, -⟩, rfl, -, f9, g9⟩
  obtain ⟨J1, rfl⟩ := J
  exact ⟨⟨IVh_fr (M := VM) (by decide +kernel) a2 a1 I a3, ac_9 J1.1 f9 rfl rfl (sam_fr f9) (fun k => fr_gi f9 (rg_no rfl _)) (fun k _ => fr_gi f9 (rg_no rfl _)) g9 (AC_87 (fr_rf_ac f9) (by rw [gn_of J1.1.2.2.2.2.1 (by have := (g84 I.1).2.1; have := @uda_le (lnp h) (gn h 84 5); omega)]; exact J1.2))⟩, rfl⟩
theorem g8_anew (I : IVQ h) : Sp 100 79 h [.ref 0] (fun h' r => IVh h' ∧ ∃ x : Int32, r = some (.int x) ∧ half_anQ h' x) := by
  refine Sp_le (by first | exact Nat.add_le_add_left (Nat.le_of_ble_eq_true rfl) _ | exact Nat.le_of_ble_eq_true rfl | omega) (Sp_mono ?_ (Sp_and (top_all (as := [.ref 0]) q881 (by decide +kernel) I.1 ⟨rfl, trivial⟩) (sp_anew8X (p := 0) (d := 0) I.1.1 I.2.2.1.2.2.2.2.2.2.2.2)))
  rintro h' r ⟨⟨s1, s2, -⟩, rfl, g6, ka, nw⟩
  have u := udv_eq (a := gn h 84 5) (lnp_0 I.2.2.1.1)
  have e1 : lnp h' = lnp h := lnp_fr (fr_gi s2 (rg_no rfl _))
  have e2 : gn h' 84 5 = gn h 84 5 := fr_gn s2 (rg_no rfl _)
  obtain ⟨H, A⟩ := un_HF I.2.2.1.2.2.2 ka g6 ana_le nw
  rw [acts_eq I.2, u.2.2.2] at g6 A
  refine ⟨s1, _, rfl, ⟨ac_8 I.2 s2 rfl rfl rfl (fun k hk => ?_) rfl (by rw [e1, e2]; exact g6) H, by rw [e1, e2]; exact A⟩, by rw [e1, e2, acts_eq I.2, u.2.2.1]⟩
  match k, hk with
  | 0, _ => rfl
  | 1, _ => rfl
  | 2, _ => rfl
  | 3, _ => rfl
  | 4, _ => rfl
  | 5, _ => rfl
theorem g9_anew (I : IVh h) (J : half_anQ h x) : Sp 100 207 h [.ref 77] (fun h' r => IVQ h' ∧ r = some (.int x)) := by
  refine Sp_le (by first | exact Nat.add_le_add_left (Nat.le_of_ble_eq_true rfl) _ | exact Nat.le_of_ble_eq_true rfl | omega) (Sp_mono ?_ (Sp_and (tv_anew (d := 0) I.1 I.2.2) (sp_anew9 (d := 0) I.1)))
  rintro h' r ⟨⟨a1, a2, a3, -⟩, rfl, -, f9, g9⟩
  obtain ⟨J1, rfl⟩ := J
  exact ⟨⟨IVh_fr (M := VM) (by decide +kernel) a2 a1 I a3, ac_9 J1.1 f9 rfl rfl (sam_fr f9) (fun k => fr_gi f9 (rg_no rfl _)) (fun k _ => fr_gi f9 (rg_no rfl _)) g9 (AC_87 (fr_rf_ac f9) (by rw [gn_of J1.1.2.2.2.2.1 (by have := (g84 I.1).2.1; have := @ana_le (lnp h) (gn h 84 5); omega)]; exact J1.2))⟩, rfl⟩
end UNQ
section WNQ
variable {h : pm_H} {v w : Int32}
noncomputable def wq (h : pm_H) (v w : Int32) : Nat := wna (bif decide (0 < (gi h 83 0).toInt) then okW (gn h 84 3) (gn h 84 0) v w else false) (gn h 84 5)
noncomputable def tq (h : pm_H) (v w : Int32) : Nat := wna (okT (gn h 84 3) v w) (gn h 84 5)
theorem wq_eq (R : QRE h) : wna (okW (gn h 15 4) (gn h 15 0) v w) (gn h 15 6) = wq h v w := by
  obtain ⟨s1, s2, s3, s4, s5⟩ := R.2.1.1
  have e4 : gn h 15 4 = gn h 84 3 := gn_eq s3
  have e0 : gn h 15 0 = gn h 84 0 := gn_eq (s2 0 (by first | decide | with_reducible assumption | omega))
  unfold wq
  rw [acts_eq R, e4, e0]
  rw [e0, s1] at s5
  by_cases b : 0 < (gi h 83 0).toInt
  · rw [decide_eq_true b]; rfl
  · have p0 := s5.mpr b
    rw [decide_eq_false b]
    have : okW (gn h 84 3) (gn h 84 0) v w = false := decide_eq_false (fun q => by have := q.2; rw [p0] at this; omega)
    rw [this]
    rfl
theorem tq_eq (R : QRE h) : wna (okT (gn h 15 4) v w) (gn h 15 6) = tq h v w := by
  obtain ⟨s1, s2, s3, s4, s5⟩ := R.2.1.1
  have e4 : gn h 15 4 = gn h 84 3 := gn_eq s3
  unfold tq
  rw [acts_eq R, e4]
/-- between, of an act: the reference has not done it yet -/
noncomputable def half_w (h : pm_H) (a : Nat) (v w : Int32) (t : Nat) : Prop := half_ac h a ∧ AC 15 0 (gn h 84 5) h ∧ (gn h 15 6 = gn h 84 5 ∨ (gn h 15 6 = gn h 84 5 + 1 ∧ gi h 21 (gn h 84 5) = nJ v.toInt.toNat ∧ gi h 22 (gn h 84 5) = nJ w.toInt.toNat ∧ gi h 23 (gn h 84 5) = nJ t))
theorem okW_v {c p : Nat} (c8 : c ≤ 8) (p8 : p ≤ 8) (e : okW c p v w = true) : v.toInt.toNat < c ∧ (((0 : Nat) = 0 ∧ 1 ≤ w.toInt.toNat ∧ w.toInt.toNat ≤ p) ∨ ((0 : Nat) = 1 ∧ w.toInt.toNat < c)) := by
  obtain ⟨q1, q2⟩ := of_decide_eq_true e
  exact ⟨by omega, .inl ⟨rfl, by omega, by omega⟩⟩
theorem okT_v {c p : Nat} (c8 : c ≤ 8) (e : okT c v w = true) : v.toInt.toNat < c ∧ (((1 : Nat) = 0 ∧ 1 ≤ w.toInt.toNat ∧ w.toInt.toNat ≤ p) ∨ ((1 : Nat) = 1 ∧ w.toInt.toNat < c)) := by
  obtain ⟨q1, q2, -⟩ := of_decide_eq_true e
  exact ⟨by omega, .inr ⟨rfl, by omega⟩⟩
theorem w_9 {h h' : pm_H} {M : List Rng} {a t : Nat} (hh : HH h) (hh' : HH h') (J : half_w h a v w t) (a20 : a ≤ 20) (hf : fr_g M h h') (hb : resB M = true) (hc : clB M = true) (s : SAM h h') (e86 : ∀ k, gi h' 86 k = gi h 86 k) (e : gi h' 84 5 = nJ a) (D : AD9 h h' t v.toInt.toNat w.toInt.toNat) : QRE h' := by
  obtain ⟨J1, A, B⟩ := J
  have K := g84 hh
  have k20 := (g84 hh').2.1
  have e6 : gn h 15 6 = a := gn_of J1.2.2.2.2.1 (by first | decide | with_reducible assumption | omega)
  have c : ∀ q, q ≤ 8 → ∀ j, gi h' (15 + q) j = gi h (15 + q) j := KEE_15 hf hc
  have c6 : ∀ j, gi h' 21 j = gi h 21 j := c 6 (by first | decide | with_reducible assumption | omega)
  have c7 : ∀ j, gi h' 22 j = gi h 22 j := c 7 (by first | decide | with_reducible assumption | omega)
  have c8 : ∀ j, gi h' 23 j = gi h 23 j := c 8 (by first | decide | with_reducible assumption | omega)
  rcases D with ⟨d1, d2⟩ | ⟨d1, d2, d3, d4, d5⟩
  · have ea : a = gn h 84 5 := by
      have q : nJ a = nJ (gn h 84 5) := by rw [← e, d1]; exact K.1
      exact (nJ_eq (by first | decide | with_reducible assumption | omega) (by first | decide | with_reducible assumption | omega)).mp q
    refine ac_9 J1 hf hb hc s e86 (fun k _ => d2 k) e (AC_87 (fun b k q => ?_) (by rw [e6, ea]; exact A))
    rcases q with rfl | rfl | rfl | rfl
    · exact c6 k
    · exact c7 k
    · exact c8 k
    · exact d2 k
  · have ea : a = gn h 84 5 + 1 := (nJ_eq (by first | decide | with_reducible assumption | omega) (by first | decide | with_reducible assumption | omega)).mp (by rw [← e, d1])
    have g5 : gn h' 84 5 = gn h 84 5 + 1 := gn_of d1 (by first | decide | with_reducible assumption | omega)
    rcases B with B | ⟨B1, B2, B3, B4⟩
    · omega
    refine ac_9 J1 hf hb hc s e86 (fun k hk => d5 k (by first | decide | with_reducible assumption | omega) (by first | decide | with_reducible assumption | omega) (by first | decide | with_reducible assumption | omega)) e (fun i hi => ?_)
    rw [B1] at hi
    show gi h' 21 i = gi h' 87 (60 * 0 + (3 * i + 1)) ∧ gi h' 22 i = gi h' 87 (60 * 0 + (3 * i + 2)) ∧ gi h' 23 i = gi h' 87 (60 * 0 + 3 * i)
    rw [c6, c7, c8, show 60 * 0 + (3 * i + 1) = 3 * i + 1 by omega, show 60 * 0 + (3 * i + 2) = 3 * i + 2 by omega, show 60 * 0 + 3 * i = 3 * i by omega]
    by_cases q : i = gn h 84 5
    · rw [q, B2, B3, B4, d2, d3, d4]; exact ⟨rfl, rfl, rfl⟩
    · have o := A i (by first | decide | with_reducible assumption | omega)
      rw [show 60 * 0 + (3 * i + 1) = 3 * i + 1 by omega, show 60 * 0 + (3 * i + 2) = 3 * i + 2 by omega, show 60 * 0 + 3 * i = 3 * i by omega] at o
      rw [d5 _ (by first | decide | with_reducible assumption | omega) (by first | decide | with_reducible assumption | omega) (by first | decide | with_reducible assumption | omega), d5 _ (by first | decide | with_reducible assumption | omega) (by first | decide | with_reducible assumption | omega) (by first | decide | with_reducible assumption | omega), d5 _ (by first | decide | with_reducible assumption | omega) (by first | decide | with_reducible assumption | omega) (by first | decide | with_reducible assumption | omega)]
      exact o
theorem wna_le {ok : Bool} {a : Nat} (h : a ≤ 20) : wna ok a ≤ 20 := by
  unfold wna
  cases ok
  · exact h
  · show (if a < 20 then a + 1 else a) ≤ 20
    split <;> omega
theorem g8_wants (I : IVQ h) : Sp 100 198 h [.ref 0, .int v, .int w] (fun h' r => IVh h' ∧ ∃ x : Int32, r = some (.int x) ∧ half_w h' (wq h' v w) v w 0) := by
  refine Sp_le (by first | exact Nat.add_le_add_left (Nat.le_of_ble_eq_true rfl) _ | exact Nat.le_of_ble_eq_true rfl | omega) (Sp_mono ?_ (Sp_and (top_all (as := [.ref 0, .int v, .int w]) q868 (by decide +kernel) I.1 ⟨rfl, aI _, aI _, trivial⟩) (Sp_and (sp_wants8 (d := 0) I.1.1) (sp_wants8X (d := 0) I.1.1))))
  rintro h' r ⟨⟨s1, s2, -⟩, ⟨⟨x, rfl⟩, g6⟩, -, wx⟩
  obtain ⟨-, b0, -, b4, -⟩ := g15 I.1.1
  obtain ⟨H, A, B⟩ := add_HF I.1.1 s1.1 I.2.2.1.2.2.2 s2 (fun e => okW_v b4 b0 e) wx
  rw [acts_eq I.2] at A B
  rw [wq_eq I.2] at g6
  have e1 : gi h' 83 0 = gi h 83 0 := fr_gi s2 (rg_no rfl _)
  have e2 : ∀ k, gn h' 84 k = gn h 84 k := fun k => fr_gn s2 (rg_no rfl _)
  refine ⟨s1, x, rfl, ac_8 I.2 s2 rfl rfl rfl (fun k hk => ?_) rfl (by unfold wq at g6 ⊢; rw [e1, e2, e2, e2]; exact g6) H, by rw [e2]; exact ⟨A, B⟩⟩
  match k, hk with
  | 0, _ => rfl
  | 1, _ => rfl
  | 2, _ => rfl
  | 3, _ => rfl
  | 4, _ => rfl
  | 5, _ => rfl
theorem g9_wants (I : IVh h) (J : half_w h (wq h v w) v w 0) : Sp 100 370 h [.ref 77, .int v, .int w] (fun h' r => IVQ h' ∧ ∃ x : Int32, r = some (.int x)) := by
  refine Sp_le (by first | exact Nat.add_le_add_left (Nat.le_of_ble_eq_true rfl) _ | exact Nat.le_of_ble_eq_true rfl | omega) (Sp_mono ?_ (Sp_and (tv_wantsE (d := 0) I.1 I.2.2) (tv_wantsX (d := 0) I.1 I.2.2)))
  rintro h' r ⟨⟨⟨a1, a2, a3, a4⟩, s, g9⟩, -, e86, ad⟩
  exact ⟨⟨IVh_fr (M := VM) (by decide +kernel) a2 a1 I a3, w_9 I.1 a1 J (wna_le (g84 I.1).2.1) a2 rfl rfl s e86 g9 ad⟩, a4⟩
theorem g8_trades (I : IVQ h) : Sp 100 191 h [.ref 0, .int v, .int w] (fun h' r => IVh h' ∧ ∃ x : Int32, r = some (.int x) ∧ half_w h' (tq h' v w) v w 1) := by
  refine Sp_le (by first | exact Nat.add_le_add_left (Nat.le_of_ble_eq_true rfl) _ | exact Nat.le_of_ble_eq_true rfl | omega) (Sp_mono ?_ (Sp_and (top_all (as := [.ref 0, .int v, .int w]) q873 (by decide +kernel) I.1 ⟨rfl, aI _, aI _, trivial⟩) (Sp_and (sp_trades8 (d := 0) I.1.1) (sp_trades8X (d := 0) I.1.1))))
  rintro h' r ⟨⟨s1, s2, -⟩, ⟨⟨x, rfl⟩, g6⟩, -, wx⟩
  obtain ⟨-, b0, -, b4, -⟩ := g15 I.1.1
  obtain ⟨H, A, B⟩ := add_HF I.1.1 s1.1 I.2.2.1.2.2.2 s2 (fun e => okT_v b4 e) wx
  rw [acts_eq I.2] at A B
  rw [tq_eq I.2] at g6
  have e2 : ∀ k, gn h' 84 k = gn h 84 k := fun k => fr_gn s2 (rg_no rfl _)
  refine ⟨s1, x, rfl, ac_8 I.2 s2 rfl rfl rfl (fun k hk => ?_) rfl (by unfold tq at g6 ⊢; rw [e2, e2]; exact g6) H, by rw [e2]; exact ⟨A, B⟩⟩
  match k, hk with
  | 0, _ => rfl
  | 1, _ => rfl
  | 2, _ => rfl
  | 3, _ => rfl
  | 4, _ => rfl
  | 5, _ => rfl
theorem g9_trades (I : IVh h) (J : half_w h (tq h v w) v w 1) : Sp 100 362 h [.ref 77, .int v, .int w] (fun h' r => IVQ h' ∧ ∃ x : Int32, r = some (.int x)) := by
  refine Sp_le (by first | exact Nat.add_le_add_left (Nat.le_of_ble_eq_true rfl) _ | exact Nat.le_of_ble_eq_true rfl | omega) (Sp_mono ?_ (Sp_and (tv_tradesE (d := 0) I.1 I.2.2) (tv_tradesX (d := 0) I.1 I.2.2)))
  rintro h' r ⟨⟨⟨a1, a2, a3, a4⟩, s, g9⟩, -, e86, ad⟩
  exact ⟨⟨IVh_fr (M := VM) (by decide +kernel) a2 a1 I a3, w_9 I.1 a1 J (wna_le (g84 I.1).2.1) a2 rfl rfl s e86 g9 ad⟩, a4⟩
end WNQ
/-! rate, count -/
section RTQ
variable {h : pm_H} {x v w : Int32}
noncomputable def half_rtQ (h : pm_H) (x v w : Int32) : Prop := RES h ∧ IMG h ∧ ST1 15 0 h ∧ STA 15 0 h ∧ (∀ i, i < 8 → i < gn h 15 4 → gi h 18 i = rts (gn h 84 3) (gn h 84 5) (fun i => gi h 85 (2 * i + 1)) v w i) ∧ FS 15 0 h ∧ x = rtv (gn h 84 3) (gn h 84 5) (fun i => gi h 85 (2 * i + 1)) v w
theorem rt_eq {c a : Nat} {s s' : Nat → Int32} (c8 : c ≤ 8) (e : ∀ i, i < 8 → i < c → s i = s' i) : rtv c a s v w = rtv c a s' v w ∧ ∀ i, i < 8 → i < c → rts c a s v w i = rts c a s' v w i := by
  constructor
  · unfold rtv
    by_cases q : (0 ≤ v.toInt ∧ v.toInt < (c : Int)) ∧ 0 ≤ w.toInt ∧ w.toInt ≤ 99
    · rw [if_pos q, if_pos q, e _ (by first | decide | with_reducible assumption | omega) (by first | decide | with_reducible assumption | omega)]
    · rw [if_neg q, if_neg q]
  · intro i h1 h2
    unfold rts
    rw [e i h1 h2]
theorem g8_rate (I : IVQ h) : Sp 100 164 h [.ref 0, .int v, .int w] (fun h' r => IVh h' ∧ ∃ x : Int32, r = some (.int x) ∧ half_rtQ h' x v w) := by
  refine Sp_le (by first | exact Nat.add_le_add_left (Nat.le_of_ble_eq_true rfl) _ | exact Nat.le_of_ble_eq_true rfl | omega) (Sp_mono ?_ (Sp_and (top_all (as := [.ref 0, .int v, .int w]) q895 (by decide +kernel) I.1 ⟨rfl, aI _, aI _, trivial⟩) (sp_rate8 (d := 0) I.1.1)))
  rintro h' r ⟨⟨s1, s2, -⟩, rfl, g18⟩
  obtain ⟨-, -, -, c8, -⟩ := g15 I.1.1
  have k9 : ∀ r, KE9 r h h' := KE9_fr s2 rfl
  have c15 : ∀ k, gi h' 15 k = gi h 15 k := fun k => fr_gi s2 (rg_no rfl _)
  have r84 : ∀ k, gi h' 84 k = gi h 84 k := fun k => fr_gi s2 (rg_no rfl _)
  have r85 : ∀ k, gi h' 85 k = gi h 85 k := fun k => fr_gi s2 (rg_no rfl _)
  have e4 : gn h 15 4 = gn h 84 3 := gn_eq I.2.2.1.1.2.2.1
  have f85 : (fun i => gi h' 85 (2 * i + 1)) = fun i => gi h 85 (2 * i + 1) := funext (fun i => r85 _)
  have se : ∀ i, i < 8 → i < gn h 15 4 → gi h 18 i = (fun i => gi h 85 (2 * i + 1)) i := fun i h1 h2 => by
    have := I.2.2.1.2.2.1 i h1 h2
    rw [show 16 * 0 + (2 * i + 1) = 2 * i + 1 by omega] at this
    exact this
  have rt := rt_eq (a := gn h 15 6) (v := v) (w := w) c8 se
  refine ⟨s1, _, rfl, RES_fr s2 rfl I.2.1, IMG_fr s2 rfl (fun r _ _ => k9 r) I.2.2.2, ST1_k (fun k _ => c15 k) (k9 0).1 (fun k _ => r84 k) I.2.2.1.1, ?_, fun i h1 h2 => ?_, FS_of (HF_k (fun q hq q3 j => fr_gi s2 (rg_no ((show ∀ q : Fin 9, q.val ≠ 3 → S895.2.2.2.2.1.all (fun r => !(Nat.beq r.1 (15 + q.val))) = true from by decide) ⟨q, by omega⟩ q3) _)) (fun i _ => r85 _) (fun i _ => fr_gi s2 (rg_no rfl _)) (HF_of I.2.2.1.2.2.2)) (by rw [gn_eq (c15 6)]; exact AC_87 (fun a k q => by rcases q with rfl | rfl | rfl | rfl <;> exact fr_gi s2 (rg_no rfl _)) I.2.2.1.2.2.2.2.2.1), ?_⟩
  · show gi h' 15 6 = gi h' 84 (6 * 0 + 5)
    rw [c15, r84]; exact I.2.2.1.2.1
  · rw [gn_eq (c15 4)] at h2
    rw [g18 i, rt.2 i h1 h2, f85, gn_eq (r84 3), gn_eq (r84 5), e4, acts_eq I.2]
  · rw [rt.1, f85, gn_eq (r84 3), gn_eq (r84 5), e4, acts_eq I.2]
theorem g9_rate (I : IVh h) (J : half_rtQ h x v w) : Sp 100 329 h [.ref 77, .int v, .int w] (fun h' r => IVQ h' ∧ r = some (.int x)) := by
  refine Sp_le (by first | exact Nat.add_le_add_left (Nat.le_of_ble_eq_true rfl) _ | exact Nat.le_of_ble_eq_true rfl | omega) (Sp_mono ?_ (Sp_and (tv_rate (d := 0) I.1 I.2.2) (Sp_and (sp_rate9 (d := 0) I.1) (sp_rate9X (d := 0) I.1))))
  rintro h' r ⟨⟨a1, a2, a3, -⟩, ⟨rfl, -, f9, g9⟩, -, ev⟩
  obtain ⟨j1, j2, j3, j4, j5, j6, rfl⟩ := J
  have c15 : ∀ k, gi h' 15 k = gi h 15 k := fun k => fr_gi f9 (rg_no rfl _)
  have r84 : ∀ k, gi h' 84 k = gi h 84 k := fun k => fr_gi f9 (rg_no rfl _)
  have e83 : ∀ k, gi h' 83 k = gi h 83 k := fun k => fr_gi f9 (rg_no rfl _)
  have k9 : ∀ r, 1 ≤ r → r ≤ 3 → KE9 r h h' := fun r h1 h2 => ⟨e83 r, fun k _ => r84 _, fun k _ => fr_gi f9 (by
    cases q : rg_in [(77, 0, 0), (85, 1, 15)] 85 (16 * r + k) with
    | false => rfl
    | true =>
      obtain ⟨z, hz, hc⟩ := List.any_eq_true.mp q
      simp only [Bool.and_eq_true] at hc
      have c1 := Nat.eq_of_beq_eq_true hc.1
      have c3 := Nat.le_of_ble_eq_true hc.2.2
      simp only [List.mem_cons, List.not_mem_nil, or_false] at hz
      rcases hz with rfl | rfl
      · cases c1
      · have c3 : 16 * r + k ≤ 15 := c3
        omega), fun k _ => fr_gi f9 (rg_no rfl _), fun k _ => fr_gi f9 (rg_no rfl _)⟩
  have ce : ∀ q, q ≤ 8 → ∀ j, gi h' (15 + q) j = gi h (15 + q) j := KEE_15 f9 rfl
  refine ⟨⟨IVh_fr (M := VM) (by decide +kernel) a2 a1 I a3, RES_fr f9 rfl j1, ⟨ST1_k (fun k _ => c15 k) (e83 0) (fun k _ => r84 k) j3, ?_, fun i h1 h2 => ?_, FS_of (HF_k (fun q hq _ j => ce q hq j) (fun i _ => ev i) (fun i _ => fr_gi f9 (rg_no rfl _)) (HF_of j6)) (by rw [gn_eq (c15 6)]; exact AC_87 (fun a k q => by rcases q with rfl | rfl | rfl | rfl <;> exact fr_gi f9 (rg_no rfl _)) j6.2.2.1)⟩, IMG_fr f9 rfl k9 j2⟩, rfl⟩
  · show gi h' 15 6 = gi h' 84 (6 * 0 + 5)
    rw [c15, r84]; exact j4
  · rw [gn_eq (c15 4)] at h2
    show gi h' 18 i = gi h' 85 (16 * 0 + (2 * i + 1))
    rw [show 16 * 0 + (2 * i + 1) = 2 * i + 1 by omega, g9 i h1, fr_gi f9 (rg_no rfl _)]
    exact j5 i h1 h2
noncomputable def half_cnQ (h : pm_H) (x v : Int32) : Prop := QRE h ∧ x = cnv (c9f h) v
theorem cn_eq (hh : HH h) (R : QRE h) : ∀ k, k ≤ 8 → c8f h k = c9f h k := by
  obtain ⟨⟨s1, s2, s3, s4, s5⟩, sa, sd, -⟩ := R.2.1
  intro k hk
  match k, hk with
  | 0, _ => exact s2 0 (by first | decide | with_reducible assumption | omega)
  | 1, _ => exact s2 1 (by first | decide | with_reducible assumption | omega)
  | 2, _ => exact s2 2 (by first | decide | with_reducible assumption | omega)
  | 3, _ => exact s3
  | 4, _ => exact s4
  | 5, _ => exact sa
  | 6, _ => exact s1
  | 7, _ =>
    show gi h 1 1 = gi h 77 6
    rw [gi_gn (a := 1) (k := 1) hh (q := (0, 500)) rfl (by decide), gi_gn (a := 77) (k := 6) hh (q := (0, 500)) rfl (by decide), R.1.1.1.1]
  | 8, _ =>
    show nJ (sct (cf h) 4) = nJ (sct (rf h) 4)
    rw [sct_eq (fun i hi => (SL_cf R.1.2 i hi).1)]
theorem g8_count (I : IVQ h) : Sp 100 93 h [.ref 0, .int v] (fun h' r => IVh h' ∧ ∃ x : Int32, r = some (.int x) ∧ half_cnQ h' x v) := by
  refine Sp_le (by first | exact Nat.add_le_add_left (Nat.le_of_ble_eq_true rfl) _ | exact Nat.le_of_ble_eq_true rfl | omega) (Sp_mono ?_ (Sp_and (top_all (as := [.ref 0, .int v]) q899 (by decide +kernel) I.1 ⟨rfl, aI _, trivial⟩) (sp_count8 (d := 0) I.1.1)))
  rintro h' r ⟨⟨s1, s2, -⟩, rfl⟩
  have R := QRE_fr s2 rfl I.2
  refine ⟨s1, _, rfl, R, (cnv_eq (fun k hk => ?_))⟩
  rw [cn_eq I.1.1 I.2 k hk]
  have e : ∀ a j, gi h' a j = gi h a j := fun a j => fr_gi s2 rfl
  match k, hk with
  | 0, _ => exact (e 84 0).symm
  | 1, _ => exact (e 84 1).symm
  | 2, _ => exact (e 84 2).symm
  | 3, _ => exact (e 84 3).symm
  | 4, _ => exact (e 84 4).symm
  | 5, _ => exact (e 84 5).symm
  | 6, _ => exact (e 83 0).symm
  | 7, _ => exact (e 77 6).symm
  | 8, _ =>
    show nJ (sct (rf h) 4) = nJ (sct (rf h') 4)
    rw [sct_eq (f := rf h) (g := rf h') (fun i _ => by unfold rf; rw [e 78 i])]
theorem g9_count (I : IVh h) (J : half_cnQ h x v) : Sp 100 233 h [.ref 77, .int v] (fun h' r => IVQ h' ∧ r = some (.int x)) := by
  refine Sp_le (by first | exact Nat.add_le_add_left (Nat.le_of_ble_eq_true rfl) _ | exact Nat.le_of_ble_eq_true rfl | omega) (Sp_mono ?_ (Sp_and (top_all (as := [.ref 77, .int v]) q901 (by decide +kernel) I ⟨rfl, aI _, trivial⟩) (sp_count9 (d := 0) I.1)))
  rintro h' r ⟨⟨s1, s2, -⟩, rfl⟩
  obtain ⟨J1, rfl⟩ := J
  exact ⟨⟨s1, QRE_fr s2 rfl J1⟩, rfl⟩
end RTQ
theorem IVQ_hp0 : IVQ hp0 := by
  refine ⟨IVS_hp0.1, IVS_hp0.2, ⟨⟨by decide +kernel, fun k hk => ?_, by decide +kernel, by decide +kernel, by decide +kernel⟩, ?_, fun i _ q => ?_, ⟨by decide +kernel, by decide +kernel, by decide +kernel⟩, ⟨fun i hi => ?_, fun i hi => ?_⟩, fun i hi => ?_, fun i hi => ?_, fun i hi => ?_, fun i hi => ?_⟩, fun k hk q => ?_⟩
  · match k, hk with
    | 0, _ => decide +kernel
    | 1, _ => decide +kernel
    | 2, _ => decide +kernel
  · show gi hp0 15 6 = gi hp0 84 (6 * 0 + 5)
    decide +kernel
  · have e : gn hp0 15 4 = 0 := by decide +kernel
    omega
  · have e : gn hp0 15 4 = 0 := by decide +kernel
    omega
  · have e : gn hp0 15 5 = 0 := by decide +kernel
    omega
  · have e : gn hp0 15 6 = 0 := by decide +kernel
    omega
  · have e : gn hp0 15 4 = 0 := by decide +kernel
    omega
  · have e : gn hp0 15 6 = 0 := by decide +kernel
    omega
  · have e : gn hp0 15 4 = 0 := by decide +kernel
    omega
  · match k, hk with
    | 0, _ => exact absurd (by decide +kernel) q
    | 1, _ => exact absurd (by decide +kernel) q
    | 2, _ => exact absurd (by decide +kernel) q
end
section
/-! lays of the reference, exactly: what is wanted now (written by gen_u63.py; wants u62) -/
noncomputable def C9 (h : pm_H) (i : Nat) : Nat := gn h 87 (3 * i + 1)
noncomputable def G9 (h : pm_H) (i : Nat) : Nat := gn h 87 (3 * i + 2)
noncomputable def Z9 (h : pm_H) (i : Nat) : Nat := gn h 87 (3 * i)
noncomputable def t9 (h : pm_H) (c : Nat) : Nat := gn h 85 (2 * c)
noncomputable def W9 (h : pm_H) : Nat → Nat := nwF (C9 h) (G9 h) (Z9 h) (t9 h) (gn h 84 5)
noncomputable def V9 (h : pm_H) : Prop := ∀ i, i < gn h 84 5 → vAct (gn h 84 3) (gn h 84 0) (C9 h) (G9 h) (Z9 h) i
theorem ly_twoX {h0 : pm_H} {d : Nat} {a b : Int32} (hh0 : HH h0) (hV : V9 h0) (j : Nat) : ∀ {h : pm_H} {k : Nat} (lv : List (Nat × Value)), k + j = gn h0 84 5 → HH h → fr_g YM h0 h → gi h 77 22 = a → gi h 77 23 = b → (∀ c, c < gn h0 84 3 → gn h 89 c = nwF (C9 h0) (G9 h0) (Z9 h0) (t9 h0) k c) → pm_get lv 0 = some (.ref 77) → pm_get lv 1 = some (.int (nJ k)) → Ends (pm_at tX9_lays) (pm_Rt pm_P (d + 1)) (54, lv, [], h, 0, 0) (fun h' r => r = none ∧ HH h' ∧ fr_g YM h0 h' ∧ gi h' 77 22 = a ∧ gi h' 77 23 = b ∧ ∀ c, c < gn h0 84 3 → gn h' 89 c = W9 h0 c) := by
  have hK : gn h0 84 5 ≤ 20 := gn_hi hh0 rfl (by decide)
  have hC : gn h0 84 3 ≤ 8 := gn_hi hh0 rfl (by decide)
  induction j with
  | zero =>
    intro h k lv hj hh hfr ga gb hw L0 L1
    have hce : gn h 84 3 = gn h0 84 3 := fr_gn hfr (rg_no rfl _)
    refine E_il rfl L1 ?_
    refine E_al rfl L0 ?_
    refine E_gr rfl hh (q := 84) rfl ?_
    refine E_ci 5 rfl ci5 ?_
    refine E_ial rfl hh rfl (by first | decide | with_reducible assumption | omega) (by decide) (show gi h 84 5 = nJ ((gn h0 84 5)) from by rw [fr_gi hfr (rg_no rfl _)]; exact gi_gn hh0 rfl (by decide)) ?_
    refine E_icT rfl (decide_eq_true ((nJ_le (by first | decide | with_reducible assumption | omega) (by first | decide | with_reducible assumption | omega)).mpr (by first | decide | with_reducible assumption | omega))) ?_
    have ek : k = gn h0 84 5 := by omega
    exact E_ret rfl ⟨rfl, hh, hfr, ga, gb, fun c hc => by rw [hw c hc, ek]; rfl⟩
  | succ j ih =>
    intro h k lv hj hh hfr ga gb hw L0 L1
    have hce : gn h 84 3 = gn h0 84 3 := fr_gn hfr (rg_no rfl _)
    refine E_il rfl L1 ?_
    refine E_al rfl L0 ?_
    refine E_gr rfl hh (q := 84) rfl ?_
    refine E_ci 5 rfl ci5 ?_
    refine E_ial rfl hh rfl (by first | decide | with_reducible assumption | omega) (by decide) (show gi h 84 5 = nJ ((gn h0 84 5)) from by rw [fr_gi hfr (rg_no rfl _)]; exact gi_gn hh0 rfl (by decide)) ?_
    refine E_icF rfl (decide_eq_false (fun q => absurd ((nJ_le (by first | decide | with_reducible assumption | omega) (by first | decide | with_reducible assumption | omega)).mp q) (by first | decide | with_reducible assumption | omega))) ?_
    have v := hV k (show k < gn h0 84 5 by omega)
    have hact : gn h0 87 (3 * k + 1) < gn h0 84 3 ∧ ((gn h0 87 (3 * k) = 0 ∧ 1 ≤ gn h0 87 (3 * k + 2) ∧ gn h0 87 (3 * k + 2) ≤ gn h0 84 0) ∨ (gn h0 87 (3 * k) = 1 ∧ gn h0 87 (3 * k + 2) < gn h0 84 3)) := v
    have ha1 : gn h0 87 (3 * k + 1) ≤ 7 := gn_hi hh0 (bd_87b (by first | decide | with_reducible assumption | omega) (by first | decide | with_reducible assumption | omega)) (by decide)
    have ha2 : gn h0 87 (3 * k + 2) ≤ 8 := gn_hi hh0 (bd_87c (by first | decide | with_reducible assumption | omega) (by first | decide | with_reducible assumption | omega)) (by decide)
    have ha0 : gn h0 87 (3 * k) ≤ 1 := gn_hi hh0 (bd_87a (by first | decide | with_reducible assumption | omega) (by first | decide | with_reducible assumption | omega)) (by decide)
    refine E_al rfl L0 ?_
    refine E_gr rfl hh (q := 87) rfl ?_
    refine E_ci 3 rfl ci3 ?_
    refine E_il rfl L1 ?_
    refine E_bin rfl (nJ_mul _ _) ?_
    refine E_ci 1 rfl ci1 ?_
    refine E_bin rfl (nJ_add _ _) ?_
    refine E_ial rfl hh rfl (by first | decide | with_reducible assumption | omega) (by decide) (show gi h 87 (((3 * k) + 1)) = nJ ((gn h0 87 (3 * k + 1))) from by rw [fr_gi hfr (rg_no rfl _)]; exact gi_gn hh0 (bd_87b (by first | decide | with_reducible assumption | omega) (by first | decide | with_reducible assumption | omega)) (by decide)) ?_
    refine E_is rfl (fun lv1 L1_2 kp1 => ?_)
    have L1_0 := kp1 0 _ (nbz rfl) rfl L0
    have L1_1 := kp1 1 _ (nbz rfl) rfl L1
    refine E_al rfl L1_0 ?_
    refine E_gr rfl hh (q := 87) rfl ?_
    refine E_ci 3 rfl ci3 ?_
    refine E_il rfl L1_1 ?_
    refine E_bin rfl (nJ_mul _ _) ?_
    refine E_ci 2 rfl ci2 ?_
    refine E_bin rfl (nJ_add _ _) ?_
    refine E_ial rfl hh rfl (by first | decide | with_reducible assumption | omega) (by decide) (show gi h 87 (((3 * k) + 2)) = nJ ((gn h0 87 (3 * k + 2))) from by rw [fr_gi hfr (rg_no rfl _)]; exact gi_gn hh0 (bd_87c (by first | decide | with_reducible assumption | omega) (by first | decide | with_reducible assumption | omega)) (by decide)) ?_
    refine E_is rfl (fun lv2 L2_3 kp2 => ?_)
    have L2_0 := kp2 0 _ (nbz rfl) rfl L1_0
    have L2_1 := kp2 1 _ (nbz rfl) rfl L1_1
    have L2_2 := kp2 2 _ (nbz rfl) rfl L1_2
    refine E_al rfl L2_0 ?_
    refine E_gr rfl hh (q := 87) rfl ?_
    refine E_ci 3 rfl ci3 ?_
    refine E_il rfl L2_1 ?_
    refine E_bin rfl (nJ_mul _ _) ?_
    refine E_ial rfl hh rfl (by first | decide | with_reducible assumption | omega) (by decide) (show gi h 87 ((3 * k)) = nJ ((gn h0 87 (3 * k))) from by rw [fr_gi hfr (rg_no rfl _)]; exact gi_gn hh0 (bd_87a (by first | decide | with_reducible assumption | omega) (by first | decide | with_reducible assumption | omega)) (by decide)) ?_
    by_cases hb3 : ¬ (gn h0 87 (3 * k)) = 0
    · refine E_ifT rfl (decide_eq_true (fun q => hb3 ((nJ_eq0 (by first | decide | with_reducible assumption | omega)).mp q))) ?_
      refine E_al rfl L2_0 ?_
      refine E_il rfl L2_2 ?_
      refine E_il rfl L2_3 ?_
      have hA : gn h0 87 (3 * k + 1) < gn h0 84 3 ∧ gn h0 87 (3 * k + 2) < gn h0 84 3 := ⟨hact.1, by omega⟩
      refine E_call rfl (sp_trade hh (by first | decide | with_reducible assumption | omega) (by first | decide | with_reducible assumption | omega)) (chk77 hh rfl rfl (by show 0 ≤ 8; decide)) (fun hq rq => ?_)
      rintro ⟨e9, hhq, he9⟩
      rw [e9]
      show Ends _ _ (113, lv2, [], hq, 0, 0) _
      refine E_inc rfl L2_1 (nJ_inc _) (fun lv4 L4_1 kp4 => ?_)
      have L4_0 := kp4 0 _ (nbz rfl) rfl L2_0
      have L4_2 := kp4 2 _ (nbz rfl) rfl L2_2
      have L4_3 := kp4 3 _ (nbz rfl) rfl L2_3
      refine E_goto rfl ?_
      refine ih lv4 (by first | decide | with_reducible assumption | omega) hhq (he9 ▸ fr_ptr (l := 0) (u := 7) rfl (by first | decide | with_reducible assumption | omega) (by first | decide | with_reducible assumption | omega) (fr_ptr (l := 0) (u := 7) rfl (by first | decide | with_reducible assumption | omega) (by first | decide | with_reducible assumption | omega) hfr)) (by rw [he9, gi_ne (by first | exact gxx rfl | omega), gi_ne (by first | exact gxx rfl | omega)]; exact ga) (by rw [he9, gi_ne (by first | exact gxx rfl | omega), gi_ne (by first | exact gxx rfl | omega)]; exact gb) (fun c hc => ?_) L4_0 L4_1
      have hx8 : gn h 89 (gn h0 87 (3 * k + 2)) ≤ 8 := gn_hi hh (bd_u rfl (by first | decide | with_reducible assumption | omega)) (by decide)
      have hy8 : gn h 89 (gn h0 87 (3 * k + 1)) ≤ 8 := gn_hi hh (bd_u rfl (by first | decide | with_reducible assumption | omega)) (by decide)
      have hh5 : HH (pt h 89 (gn h0 87 (3 * k + 1)) (nJ (gn h 89 (gn h0 87 (3 * k + 2))))) := HH_ptn hh (bd_u rfl (by first | decide | with_reducible assumption | omega)) (by first | decide | with_reducible assumption | omega) (by first | decide | with_reducible assumption | omega) (by first | decide | with_reducible assumption | omega)
      have ez : ¬ Z9 h0 k = 0 := hb3
      show gn hq 89 c = dAct (C9 h0) (G9 h0) (Z9 h0) k (nwF (C9 h0) (G9 h0) (Z9 h0) (t9 h0) k) c
      rw [he9, gn_fup hh5 (bd_u rfl (by first | decide | with_reducible assumption | omega)) (by first | decide | with_reducible assumption | omega) (by first | decide | with_reducible assumption | omega) (by first | decide | with_reducible assumption | omega), gn_fup hh (bd_u rfl (by first | decide | with_reducible assumption | omega)) (by first | decide | with_reducible assumption | omega) (by first | decide | with_reducible assumption | omega) (by first | decide | with_reducible assumption | omega), ← dAct_cg (f' := gn h 89) rfl rfl rfl v hw c hc]
      unfold dAct
      rw [if_neg ez]
      rfl
    · refine E_ifF rfl (decide_eq_false (fun q => hb3 (fun z => q ((nJ_eq0 (by first | decide | with_reducible assumption | omega)).mpr z)))) ?_
      refine E_al rfl L2_0 ?_
      refine E_gr rfl hh (q := 89) rfl ?_
      refine E_il rfl L2_2 ?_
      refine E_il rfl L2_3 ?_
      refine E_ias rfl hh rfl (by first | decide | with_reducible assumption | omega) (by decide) ?_
      have hh5 : HH (pt h 89 ((gn h0 87 (3 * k + 1))) (nJ ((gn h0 87 (3 * k + 2))))) := HH_ptn hh (bd_u rfl (by first | decide | with_reducible assumption | omega)) (by first | decide | with_reducible assumption | omega) (by first | decide | with_reducible assumption | omega) (by first | decide | with_reducible assumption | omega)
      refine E_goto rfl ?_
      refine E_inc rfl L2_1 (nJ_inc _) (fun lv6 L6_1 kp6 => ?_)
      have L6_0 := kp6 0 _ (nbz rfl) rfl L2_0
      have L6_2 := kp6 2 _ (nbz rfl) rfl L2_2
      have L6_3 := kp6 3 _ (nbz rfl) rfl L2_3
      refine E_goto rfl ?_
      refine ih lv6 (by first | decide | with_reducible assumption | omega) hh5 (fr_ptr (l := 0) (u := 7) rfl (by first | decide | with_reducible assumption | omega) (by first | decide | with_reducible assumption | omega) hfr) (by rw [gi_ne (by first | exact gxx rfl | omega)]; exact ga) (by rw [gi_ne (by first | exact gxx rfl | omega)]; exact gb) (fun c hc => ?_) L6_0 L6_1
      have ez : Z9 h0 k = 0 := Classical.not_not.mp hb3
      show gn (pt h 89 ((gn h0 87 (3 * k + 1))) (nJ ((gn h0 87 (3 * k + 2))))) 89 c = dAct (C9 h0) (G9 h0) (Z9 h0) k (nwF (C9 h0) (G9 h0) (Z9 h0) (t9 h0) k) c
      rw [gn_fup hh (bd_u rfl (by first | decide | with_reducible assumption | omega)) (by first | decide | with_reducible assumption | omega) (by first | decide | with_reducible assumption | omega) (by first | decide | with_reducible assumption | omega), ← dAct_cg (f' := gn h 89) rfl rfl rfl v hw c hc]
      unfold dAct
      rw [if_pos ez]
      rfl
theorem ly_oneX {h0 : pm_H} {d : Nat} {a b : Int32} (hh0 : HH h0) (hV : V9 h0) (j : Nat) : ∀ {h : pm_H} {c : Nat} (lv : List (Nat × Value)), c + j = gn h0 84 3 → HH h → fr_g YM h0 h → gi h 77 22 = a → gi h 77 23 = b → (∀ c1, c1 < c → gn h 89 c1 = t9 h0 c1) → pm_get lv 0 = some (.ref 77) → pm_get lv 1 = some (.int (nJ c)) → Ends (pm_at tX9_lays) (pm_Rt pm_P (d + 1)) (24, lv, [], h, 0, 0) (fun h' r => r = none ∧ HH h' ∧ fr_g YM h0 h' ∧ gi h' 77 22 = a ∧ gi h' 77 23 = b ∧ ∀ c, c < gn h0 84 3 → gn h' 89 c = W9 h0 c) := by
  have hC : gn h0 84 3 ≤ 8 := gn_hi hh0 rfl (by decide)
  induction j with
  | zero =>
    intro h c lv hj hh hfr ga gb hw L0 L1
    have hce : gn h 84 3 = gn h0 84 3 := fr_gn hfr (rg_no rfl _)
    refine E_il rfl L1 ?_
    refine E_al rfl L0 ?_
    refine E_call rfl (sp_cars hh) (chk77 hh rfl rfl (by show 1 ≤ 8; decide)) (fun h1 r1 => ?_)
    rintro ⟨e1, f1, c1⟩
    rw [e1, f1]
    show Ends _ _ (29, lv, [.int (nJ (gn h 84 3)), .int (nJ c)], h, 0, 0) _
    refine E_icT rfl (decide_eq_true ((nJ_le (by first | decide | with_reducible assumption | omega) (by first | decide | with_reducible assumption | omega)).mpr (by first | decide | with_reducible assumption | omega))) ?_
    refine E_ci 0 rfl ci0 ?_
    refine E_is rfl (fun lv2 L2_1 kp2 => ?_)
    have L2_0 := kp2 0 _ (nbz rfl) rfl L0
    exact ly_twoX hh0 hV (gn h0 84 5) (k := 0) lv2 (by first | decide | with_reducible assumption | omega) hh hfr ga gb (fun c1 hc1 => hw c1 (by first | decide | with_reducible assumption | omega)) L2_0 L2_1
  | succ j ih =>
    intro h c lv hj hh hfr ga gb hw L0 L1
    have hce : gn h 84 3 = gn h0 84 3 := fr_gn hfr (rg_no rfl _)
    refine E_il rfl L1 ?_
    refine E_al rfl L0 ?_
    refine E_call rfl (sp_cars hh) (chk77 hh rfl rfl (by show 1 ≤ 8; decide)) (fun h1 r1 => ?_)
    rintro ⟨e1, f1, c1⟩
    rw [e1, f1]
    show Ends _ _ (29, lv, [.int (nJ (gn h 84 3)), .int (nJ c)], h, 0, 0) _
    refine E_icF rfl (decide_eq_false (fun q => absurd ((nJ_le (by first | decide | with_reducible assumption | omega) (by first | decide | with_reducible assumption | omega)).mp q) (by first | decide | with_reducible assumption | omega))) ?_
    have ht8 : gn h0 85 (2 * c) ≤ 8 := gn_hi hh0 (bd_85 (by first | decide | with_reducible assumption | omega) (by first | decide | with_reducible assumption | omega)) (by decide)
    refine E_al rfl L0 ?_
    refine E_gr rfl hh (q := 89) rfl ?_
    refine E_il rfl L1 ?_
    refine E_al rfl L0 ?_
    refine E_gr rfl hh (q := 85) rfl ?_
    refine E_ci 2 rfl ci2 ?_
    refine E_il rfl L1 ?_
    refine E_bin rfl (nJ_mul _ _) ?_
    refine E_ial rfl hh rfl (by first | decide | with_reducible assumption | omega) (by decide) (show gi h 85 ((2 * c)) = nJ ((gn h0 85 (2 * c))) from by rw [fr_gi hfr (rg_no rfl _)]; exact gi_gn hh0 (bd_85 (by first | decide | with_reducible assumption | omega) (by first | decide | with_reducible assumption | omega)) (by decide)) ?_
    refine E_ias rfl hh rfl (by first | decide | with_reducible assumption | omega) (by decide) ?_
    have hh2 : HH (pt h 89 c (nJ ((gn h0 85 (2 * c))))) := HH_ptn hh (bd_u rfl (by first | decide | with_reducible assumption | omega)) (by first | decide | with_reducible assumption | omega) (by first | decide | with_reducible assumption | omega) (by first | decide | with_reducible assumption | omega)
    refine E_inc rfl L1 (nJ_inc _) (fun lv3 L3_1 kp3 => ?_)
    have L3_0 := kp3 0 _ (nbz rfl) rfl L0
    refine E_goto rfl ?_
    refine ih lv3 (by first | decide | with_reducible assumption | omega) hh2 (fr_ptr (l := 0) (u := 7) rfl (by first | decide | with_reducible assumption | omega) (by first | decide | with_reducible assumption | omega) hfr) (by rw [gi_ne (by first | exact gxx rfl | omega)]; exact ga) (by rw [gi_ne (by first | exact gxx rfl | omega)]; exact gb) (fun c1 hc1 => ?_) L3_0 L3_1
    by_cases e : c1 = c
    · rw [e, gn_ptn hh (bd_u rfl (by first | decide | with_reducible assumption | omega)) (by first | decide | with_reducible assumption | omega) (by first | decide | with_reducible assumption | omega) (by first | decide | with_reducible assumption | omega)]; rfl
    · rw [gn_ne (fun _ => e)]; exact hw c1 (by first | decide | with_reducible assumption | omega)
theorem cm_bits : ∀ {c : Nat}, c ≤ 8 → (nJ 1 <<< (nJ c &&& 31)) - nJ 1 = nJ (2 ^ c - 1) := by
  intro c hc
  have : ∀ c : Fin 9, (nJ 1 <<< (nJ c.val &&& 31)) - nJ 1 = nJ (2 ^ c.val - 1) := by decide
  exact this ⟨c, by omega⟩
theorem sp_laysX {h0 : pm_H} {d : Nat} (hh0 : HH h0) (hV : V9 h0) : Sp (d + 2) 293 h0 [.ref 77] (fun h' r => r = none ∧ HH h' ∧ fr_g YM h0 h' ∧ gi h' 77 22 = nJ (gn h0 84 1) ∧ gi h' 77 23 = nJ (2 ^ gn h0 84 3 - 1) ∧ ∀ c, c < gn h0 84 3 → gn h' 89 c = W9 h0 c) := by
  refine Sp_of aiX9_lays rfl rfl rfl ?_
  refine E_al rfl (show pm_get (lv_args 0 [.ref 77]) 0 = _ from rfl) ?_
  refine E_al rfl (show pm_get (lv_args 0 [.ref 77]) 0 = _ from rfl) ?_
  refine E_gr rfl hh0 (q := 84) rfl ?_
  refine E_ci 1 rfl ci1 ?_
  have b1 : gn h0 84 1 ≤ 3 := gn_hi hh0 rfl (by decide)
  refine E_ial rfl hh0 rfl (by first | decide | with_reducible assumption | omega) (by decide) (gi_gn hh0 rfl (by decide)) ?_
  refine E_pf rfl hh0 rfl ?_
  have hh2 : HH (pt h0 77 22 (nJ ((gn h0 84 1)))) := HH_ptn hh0 rfl (by first | decide | with_reducible assumption | omega) (by first | decide | with_reducible assumption | omega) (by first | decide | with_reducible assumption | omega)
  have fr2 : fr_g YM h0 (pt h0 77 22 (nJ ((gn h0 84 1)))) := fr_ptr (l := 22) (u := 22) rfl (by first | decide | with_reducible assumption | omega) (by first | decide | with_reducible assumption | omega) (fr_rf YM h0)
  refine E_al rfl (show pm_get (lv_args 0 [.ref 77]) 0 = _ from rfl) ?_
  refine E_ci 1 rfl ci1 ?_
  refine E_al rfl (show pm_get (lv_args 0 [.ref 77]) 0 = _ from rfl) ?_
  refine E_call rfl (sp_cars hh2) (chk77 hh2 rfl rfl (by show 2 ≤ 8; decide)) (fun h3 r3 => ?_)
  rintro ⟨e3, f3, c3⟩
  rw [e3, f3]
  show Ends _ _ (16, (lv_args 0 [.ref 77]), [.int (nJ (gn (pt h0 77 22 (nJ ((gn h0 84 1)))) 84 3)), .int (nJ 1), .ref 77], (pt h0 77 22 (nJ ((gn h0 84 1)))), 0, 0) _
  refine E_bin rfl rfl ?_
  refine E_ci 1 rfl ci1 ?_
  refine E_bin rfl rfl ?_
  have c8 : gn h0 84 3 ≤ 8 := gn_hi hh0 rfl (by decide)
  refine E_pf rfl hh2 rfl ?_
  have hh4 : HH (pt (pt h0 77 22 (nJ ((gn h0 84 1)))) 77 23 ((nJ 1 <<< (nJ ((gn (pt h0 77 22 (nJ ((gn h0 84 1)))) 84 3)) &&& 31)) - nJ 1)) := HH_pt hh2 rfl (ai_lo _) (ai_hi _)
  have fr4 : fr_g YM h0 (pt (pt h0 77 22 (nJ ((gn h0 84 1)))) 77 23 ((nJ 1 <<< (nJ ((gn (pt h0 77 22 (nJ ((gn h0 84 1)))) 84 3)) &&& 31)) - nJ 1)) := fr_ptr (l := 23) (u := 23) rfl (by first | decide | with_reducible assumption | omega) (by first | decide | with_reducible assumption | omega) fr2
  refine E_ci 0 rfl ci0 ?_
  refine E_is rfl (fun lv5 L5_1 kp5 => ?_)
  have L5_0 := kp5 0 _ (nbz rfl) rfl (show pm_get (lv_args 0 [.ref 77]) 0 = _ from rfl)
  refine ly_oneX hh0 hV (gn h0 84 3) (c := 0) lv5 (by first | decide | with_reducible assumption | omega) hh4 fr4 ?_ ?_ (fun c1 hc1 => absurd hc1 (Nat.not_lt_zero _)) L5_0 L5_1
  · rw [gi_ne (by first | exact gxx rfl | omega)]
    exact gi_ptn hh0 rfl (by first | decide | with_reducible assumption | omega) (by first | decide | with_reducible assumption | omega) (by first | decide | with_reducible assumption | omega)
  · rw [gi_pt hh2 rfl (ai_lo _) (ai_hi _), gn_ne (by first | exact gxx rfl | omega)]
    exact cm_bits c8
/-- the reference's street is in order -/
theorem V9_of {h : pm_H} (R : QRE h) : V9 h := fun i hi => by
  obtain ⟨⟨s1, s2, s3, s4, s5⟩, sa, sd, b, tj, ac, vt, va, nw⟩ := R.2.1
  have e6 : gn h 15 6 = gn h 84 5 := gn_eq (show gi h 15 6 = gi h 84 5 from sa)
  have e4 : gn h 15 4 = gn h 84 3 := gn_eq s3
  have e0 : gn h 15 0 = gn h 84 0 := gn_eq (s2 0 (by first | decide | with_reducible assumption | omega))
  have v := va i (by first | decide | with_reducible assumption | omega)
  have a := ac i (by first | decide | with_reducible assumption | omega)
  have a1 : gn h (15 + 6) i = C9 h i := by have := gn_eq a.1; rw [show 60 * 0 + (3 * i + 1) = 3 * i + 1 by omega] at this; exact this
  have a2 : gn h (15 + 7) i = G9 h i := by have := gn_eq a.2.1; rw [show 60 * 0 + (3 * i + 2) = 3 * i + 2 by omega] at this; exact this
  have a3 : gn h (15 + 8) i = Z9 h i := by have := gn_eq a.2.2; rw [show 60 * 0 + 3 * i = 3 * i by omega] at this; exact this
  unfold vAct at v ⊢
  rw [← a1, ← a2, ← a3, ← e4, ← e0]
  exact v
/-- what is wanted now, of both -/
theorem now_eq {h : pm_H} (R : QRE h) : ∀ j, j < gn h 84 3 → gn h 17 j = W9 h j ∧ 1 ≤ W9 h j ∧ W9 h j ≤ gn h 84 0 := fun j hj => by
  have V := V9_of R
  obtain ⟨⟨s1, s2, s3, s4, s5⟩, sa, sd, b, tj, ac, vt, va, nw⟩ := R.2.1
  have e6 : gn h 15 6 = gn h 84 5 := gn_eq (show gi h 15 6 = gi h 84 5 from sa)
  have e4 : gn h 15 4 = gn h 84 3 := gn_eq s3
  have e0 : gn h 15 0 = gn h 84 0 := gn_eq (s2 0 (by first | decide | with_reducible assumption | omega))
  have te : ∀ c, c < gn h 84 3 → gn h 16 c = t9 h c := fun c hc => by
    have := gn_eq (tj.1 c (by first | decide | with_reducible assumption | omega))
    rw [show 16 * 0 + 2 * c = 2 * c by omega] at this
    exact this
  have ne := nw j (by first | decide | with_reducible assumption | omega)
  rw [e6] at ne
  have cg := nwF_cg (C' := gn h 21) (G' := gn h 22) (Z' := gn h 23) (t' := gn h 16) (gn h 84 5) (fun i hi => by
    have a := ac i (by first | decide | with_reducible assumption | omega)
    have a1 := gn_eq a.1
    have a2 := gn_eq a.2.1
    have a3 := gn_eq a.2.2
    rw [show 60 * 0 + (3 * i + 1) = 3 * i + 1 by omega] at a1
    rw [show 60 * 0 + (3 * i + 2) = 3 * i + 2 by omega] at a2
    rw [show 60 * 0 + 3 * i = 3 * i by omega] at a3
    exact ⟨a1, a2, a3⟩) V te j hj
  refine ⟨?_, nwF_in (gn h 84 5) V (fun c hc => ?_) j hj⟩
  · exact (show gn h 17 j = nwF (gn h 21) (gn h 22) (gn h 23) (gn h 16) (gn h 84 5) j from ne).trans cg
  · have := vt c (by first | decide | with_reducible assumption | omega)
    rw [show gn h (15 + 1) c = t9 h c from te c hc, e0] at this
    exact this
end
section
/-! who parks where: one pure law, and the class's Lot (wants t47, t56, u55) -/
noncomputable def ff (m p : Nat) : Nat → Nat → Nat
  | 0, _ => 0
  | j + 1, q => if q ≤ p then (if isB m (q - 1) = false then q else ff m p j (q + 1)) else 0
noncomputable def nf (m p w : Nat) : Nat → Nat → Nat
  | 0, _ => 0
  | j + 1, k => if k < p then (if w + k ≤ p ∧ isB m (w + k - 1) = false then w + k else if 1 + k ≤ w ∧ isB m (w - k - 1) = false then w - k else nf m p w j (k + 1)) else 0
/-- the place that one finds who wants w, by law l, of p places with those of m taken; 0: none -/
noncomputable def sf (l p m w : Nat) : Nat := if isB m (w - 1) = false then w else if l = 1 ∧ 2 ≤ w ∧ isB m (w - 2) = false then w - 1 else if l = 2 then nf m p w 10 1 else if ff m p 10 (w + 1) = 0 ∧ l = 3 then ff m p 10 1 else ff m p 10 (w + 1)
noncomputable def okS (p m q : Nat) : Prop := q = 0 ∨ (1 ≤ q ∧ q ≤ p ∧ isB m (q - 1) = false)
theorem ff_ok {m p : Nat} : ∀ {j q : Nat}, 1 ≤ q → okS p m (ff m p j q)
  | 0, _, _ => .inl rfl
  | j + 1, q, h => by
    unfold ff
    by_cases b : q ≤ p
    · rw [if_pos b]
      by_cases c : isB m (q - 1) = false
      · rw [if_pos c]; exact .inr ⟨h, b, c⟩
      · rw [if_neg c]; exact ff_ok (by first | decide | with_reducible assumption | omega)
    · rw [if_neg b]; exact .inl rfl
theorem nf_ok {m p w : Nat} (hw : w ≤ p) : ∀ {j k : Nat}, 1 ≤ k → okS p m (nf m p w j k)
  | 0, _, _ => .inl rfl
  | j + 1, k, h => by
    unfold nf
    by_cases b : k < p
    · rw [if_pos b]
      by_cases c : w + k ≤ p ∧ isB m (w + k - 1) = false
      · rw [if_pos c]; exact .inr ⟨by omega, c.1, c.2⟩
      · rw [if_neg c]
        by_cases e : 1 + k ≤ w ∧ isB m (w - k - 1) = false
        · rw [if_pos e]; exact .inr ⟨by omega, by omega, e.2⟩
        · rw [if_neg e]; exact nf_ok hw (by first | decide | with_reducible assumption | omega)
    · rw [if_neg b]; exact .inl rfl
theorem sf_ok {l p m w : Nat} (h1 : 1 ≤ w) (h2 : w ≤ p) : okS p m (sf l p m w) := by
  unfold sf
  by_cases a : isB m (w - 1) = false
  · rw [if_pos a]; exact .inr ⟨h1, h2, a⟩
  rw [if_neg a]
  by_cases b : l = 1 ∧ 2 ≤ w ∧ isB m (w - 2) = false
  · rw [if_pos b]; exact .inr ⟨by omega, by omega, b.2.2⟩
  rw [if_neg b]
  by_cases c : l = 2
  · rw [if_pos c]; exact nf_ok h2 (by first | decide | with_reducible assumption | omega)
  rw [if_neg c]
  by_cases e : ff m p 10 (w + 1) = 0 ∧ l = 3
  · rw [if_pos e]; exact ff_ok (by first | decide | with_reducible assumption | omega)
  · rw [if_neg e]; exact ff_ok (by first | decide | with_reducible assumption | omega)
noncomputable def ad (m q : Nat) : Nat := if q = 0 then m else m + 2 ^ (q - 1)
/-- places taken by the first n of the set s -/
noncomputable def tk (l p s : Nat) (W : Nat → Nat) : Nat → Nat
  | 0 => 0
  | n + 1 => ad (tk l p s W n) (if isB s n = true then sf l p (tk l p s W n) (W n) else 0)
noncomputable def spt (l p s : Nat) (W : Nat → Nat) (n : Nat) : Nat := if isB s n = true then sf l p (tk l p s W n) (W n) else 0
noncomputable def mss (l p s : Nat) (W : Nat → Nat) : Nat → Nat
  | 0 => 0
  | n + 1 => if isB s n = true ∧ spt l p s W n = 0 then mss l p s W n + 2 ^ n else mss l p s W n
noncomputable def dst (a b : Nat) : Nat := (a - b) + (b - a)
noncomputable def wlk (l p s : Nat) (W : Nat → Nat) : Nat → Nat
  | 0 => 0
  | n + 1 => wlk l p s W n + (if spt l p s W n = 0 then 0 else dst (spt l p s W n) (W n))
theorem tk_s {l p s n : Nat} {W : Nat → Nat} : tk l p s W (n + 1) = ad (tk l p s W n) (spt l p s W n) := rfl
theorem ad_lt {p m q : Nat} (hp : p ≤ 9) (hm : m < 2 ^ p) (h : okS p m q) : ad m q < 2 ^ p := by
  unfold ad
  rcases h with h | ⟨h1, h2, h3⟩
  · rw [if_pos h]; exact hm
  · rw [if_neg (by first | decide | with_reducible assumption | omega)]
    have m5 : m < 512 := Nat.lt_of_lt_of_le hm (Nat.pow_le_pow_right (n := 2) (by first | decide | with_reducible assumption | omega) hp)
    exact add_tab ⟨p, by omega⟩ ⟨m, m5⟩ hm ⟨q - 1, by omega⟩ (by show q - 1 < p; omega) h3
theorem spt_ok {l p s n : Nat} {W : Nat → Nat} (h1 : 1 ≤ W n) (h2 : W n ≤ p) : okS p (tk l p s W n) (spt l p s W n) := by
  unfold spt
  split
  · exact sf_ok h1 h2
  · exact .inl rfl
theorem tk_lt {l p s : Nat} {W : Nat → Nat} (hp : p ≤ 9) : ∀ {n : Nat}, (∀ c, c < n → 1 ≤ W c ∧ W c ≤ p) → tk l p s W n < 2 ^ p
  | 0, _ => Nat.pow_pos (by first | decide | with_reducible assumption | omega)
  | n + 1, h => by
    rw [tk_s]
    exact ad_lt hp (tk_lt hp (fun c hc => h c (by first | decide | with_reducible assumption | omega))) (spt_ok (h n (by first | decide | with_reducible assumption | omega)).1 (h n (by first | decide | with_reducible assumption | omega)).2)
theorem isB_hi {m k : Nat} (h : m < 2 ^ k) : isB m k = false := by
  unfold isB
  rw [Nat.div_eq_of_lt h]
  rfl
theorem mss_lt {l p s : Nat} {W : Nat → Nat} : ∀ (n : Nat), mss l p s W n < 2 ^ n
  | 0 => by show 0 < 1; omega
  | n + 1 => by
    have := mss_lt (l := l) (p := p) (s := s) (W := W) n
    have e : 2 ^ (n + 1) = 2 ^ n + 2 ^ n := by rw [Nat.pow_succ]; omega
    show (if isB s n = true ∧ spt l p s W n = 0 then mss l p s W n + 2 ^ n else mss l p s W n) < _
    split <;> omega
theorem dst_le {a b p : Nat} (h1 : 1 ≤ a) (h2 : a ≤ p) (h3 : 1 ≤ b) (h4 : b ≤ p) : dst a b < p := by unfold dst; omega
theorem wlk_le {l p s : Nat} {W : Nat → Nat} : ∀ {n : Nat}, (∀ c, c < n → 1 ≤ W c ∧ W c ≤ p) → wlk l p s W n ≤ n * p
  | 0, _ => by show 0 ≤ 0 * p; omega
  | n + 1, h => by
    have q := wlk_le (l := l) (s := s) (p := p) (fun c hc => h c (Nat.lt_succ_of_lt hc))
    have o := spt_ok (l := l) (s := s) (h n (by first | decide | with_reducible assumption | omega)).1 (h n (by first | decide | with_reducible assumption | omega)).2
    have w := h n (by first | decide | with_reducible assumption | omega)
    have e : (n + 1) * p = n * p + p := Nat.succ_mul n p
    show wlk l p s W n + (if spt l p s W n = 0 then 0 else dst (spt l p s W n) (W n)) ≤ (n + 1) * p
    by_cases z : spt l p s W n = 0
    · rw [if_pos z]; omega
    · rw [if_neg z]
      rcases o with o | ⟨o1, o2, -⟩
      · exact absurd o z
      · have := dst_le o1 o2 w.1 w.2
        omega
/-! the law depends on what it reads alone -/
theorem sf_W {l p s n : Nat} {W W' : Nat → Nat} (e : ∀ c, c < n → W c = W' c) : tk l p s W n = tk l p s W' n := by
  induction n with
  | zero => rfl
  | succ n ih =>
    have i := ih (fun c hc => e c (by first | decide | with_reducible assumption | omega))
    rw [tk_s, tk_s]
    unfold spt
    rw [i, e n (by first | decide | with_reducible assumption | omega)]
theorem spt_W {l p s n : Nat} {W W' : Nat → Nat} (e : ∀ c, c ≤ n → W c = W' c) : spt l p s W n = spt l p s W' n := by
  unfold spt
  rw [sf_W (fun c hc => e c (by first | decide | with_reducible assumption | omega)), e n (Nat.le_refl n)]
theorem mss_W {l p s n : Nat} {W W' : Nat → Nat} (e : ∀ c, c < n → W c = W' c) : mss l p s W n = mss l p s W' n := by
  induction n with
  | zero => rfl
  | succ n ih =>
    have i := ih (fun c hc => e c (by first | decide | with_reducible assumption | omega))
    show (if _ ∧ spt l p s W n = 0 then mss l p s W n + 2 ^ n else mss l p s W n) = (if _ ∧ spt l p s W' n = 0 then mss l p s W' n + 2 ^ n else mss l p s W' n)
    rw [i, spt_W (fun c hc => e c (by first | decide | with_reducible assumption | omega))]
theorem wlk_W {l p s n : Nat} {W W' : Nat → Nat} (e : ∀ c, c < n → W c = W' c) : wlk l p s W n = wlk l p s W' n := by
  induction n with
  | zero => rfl
  | succ n ih =>
    have i := ih (fun c hc => e c (by first | decide | with_reducible assumption | omega))
    show wlk l p s W n + (if spt l p s W n = 0 then 0 else dst (spt l p s W n) (W n)) = wlk l p s W' n + (if spt l p s W' n = 0 then 0 else dst (spt l p s W' n) (W' n))
    rw [i, spt_W (fun c hc => e c (by first | decide | with_reducible assumption | omega)), e n (by first | decide | with_reducible assumption | omega)]
/-! the class -/
theorem fr0_tab : ∀ m : Fin 512, ∀ k : Fin 9, (nJ m.val >>> (nJ k.val &&& 31) &&& nJ 1 = 0) ↔ isB m.val k.val = false := by
  intro m k
  rw [bl_bit m.isLt k.isLt]
  cases isB m.val k.val <;> decide
theorem or2_tab : ∀ m : Fin 512, ∀ k : Fin 9, isB m.val k.val = false → nJ m.val ||| nJ (2 ^ k.val) = nJ (m.val + 2 ^ k.val) := by
  intro m k h
  rw [bl_or, bl_lor m k, h]
  rfl
section LOT
variable {h : pm_H} {d : Nat}
theorem sp_isFree8 {m q : Nat} (hm : m < 512) (q1 : 1 ≤ q) (q9 : q ≤ 9) : Sp (d + 1) 23 h [.int (nJ m), .int (nJ q)] (fun h' r => h' = h ∧ r = some (.int (zb (isB m (q - 1) = false)))) := by
  refine Sp_of aiX1_isFree rfl rfl rfl ?_
  have L0 : pm_get (lv_args 0 [.int (nJ m), .int (nJ q)]) 0 = some (.int (nJ m)) := rfl
  have L1 : pm_get (lv_args 0 [.int (nJ m), .int (nJ q)]) 1 = some (.int (nJ q)) := rfl
  generalize lv_args 0 [.int (nJ m), .int (nJ q)] = lv at L0 L1 ⊢
  have tb := fr0_tab ⟨m, hm⟩ ⟨q - 1, by omega⟩
  refine E_il rfl L0 ?_
  refine E_il rfl L1 ?_
  refine E_ci 1 rfl ci1 ?_
  refine E_bin rfl (nJ_sub q1) ?_
  refine E_bin rfl rfl ?_
  refine E_ci 1 rfl ci1 ?_
  refine E_bin rfl rfl ?_
  by_cases b : isB m (q - 1) = false
  · refine E_ifF rfl (decide_eq_false (fun z => z (tb.mpr b))) ?_
    refine E_ci 1 rfl ci1 ?_
    refine E_goto rfl ?_
    exact E_rtz rfl (.inr rfl) ⟨rfl, by rw [zb_T b]⟩
  · refine E_ifT rfl (decide_eq_true (fun z => b (tb.mp z))) ?_
    refine E_ci 0 rfl ci0 ?_
    exact E_rtz rfl (.inl rfl) ⟨rfl, by rw [zb_F b]⟩
theorem ff_loop {m p : Nat} (hm : m < 512) (p9 : p ≤ 9) (j : Nat) : ∀ {q : Nat} (lv : List (Nat × Value)), 1 ≤ q → q ≤ 10 → p < q + j → pm_get lv 0 = some (.int (nJ p)) → pm_get lv 1 = some (.int (nJ m)) → pm_get lv 3 = some (.int (nJ q)) → Ends (pm_at tX1_firstFree) (pm_Rt pm_P (d + 1)) (2, lv, [], h, 0, 0) (fun h' r => h' = h ∧ r = some (.int (nJ (ff m p j q)))) := by
  induction j with
  | zero =>
    intro q lv q1 q10 hj L0 L1 L3
    refine E_il rfl L3 ?_
    refine E_il rfl L0 ?_
    refine E_icT rfl (decide_eq_true ((nJ_lt (by first | decide | with_reducible assumption | omega) (by first | decide | with_reducible assumption | omega)).mpr (by first | decide | with_reducible assumption | omega))) ?_
    refine E_ci 0 rfl ci0 ?_
    exact E_rti rfl ⟨rfl, rfl⟩
  | succ j ih =>
    intro q lv q1 q10 hj L0 L1 L3
    unfold ff
    refine E_il rfl L3 ?_
    refine E_il rfl L0 ?_
    by_cases b : q ≤ p
    · refine E_icF rfl (decide_eq_false (fun z => absurd ((nJ_lt (by first | decide | with_reducible assumption | omega) (by first | decide | with_reducible assumption | omega)).mp z) (by first | decide | with_reducible assumption | omega))) ?_
      rw [if_pos b]
      refine E_il rfl L1 ?_
      refine E_il rfl L3 ?_
      refine E_call rfl (sp_isFree8 (d := d) hm q1 (by first | decide | with_reducible assumption | omega)) (chkS rfl (by show 0 ≤ 8; decide)) (fun h1 r1 => ?_)
      rintro ⟨e1, f1⟩
      rw [e1, f1]
      by_cases c : isB m (q - 1) = false
      · refine E_ifF rfl (by rw [zb_T c]; rfl) ?_
        rw [if_pos c]
        refine E_il rfl L3 ?_
        exact E_rti rfl ⟨rfl, rfl⟩
      · refine E_ifT rfl (by rw [zb_F c]; rfl) ?_
        rw [if_neg c]
        refine E_inc rfl L3 (nJ_inc _) (fun lv1 K3 kp => ?_)
        refine E_goto rfl ?_
        exact ih lv1 (by first | decide | with_reducible assumption | omega) (by first | decide | with_reducible assumption | omega) (by first | decide | with_reducible assumption | omega) (kp 0 _ (nbz rfl) rfl L0) (kp 1 _ (nbz rfl) rfl L1) K3
    · refine E_icT rfl (decide_eq_true ((nJ_lt (by first | decide | with_reducible assumption | omega) (by first | decide | with_reducible assumption | omega)).mpr (by first | decide | with_reducible assumption | omega))) ?_
      rw [if_neg b]
      refine E_ci 0 rfl ci0 ?_
      exact E_rti rfl ⟨rfl, rfl⟩
theorem sp_firstFree {m p q : Nat} (hm : m < 512) (p9 : p ≤ 9) (q1 : 1 ≤ q) (q10 : q ≤ 10) : Sp (d + 2) 21 h [.int (nJ p), .int (nJ m), .int (nJ q)] (fun h' r => h' = h ∧ r = some (.int (nJ (ff m p 10 q)))) := by
  refine Sp_of aiX1_firstFree rfl rfl rfl ?_
  have L0 : pm_get (lv_args 0 [.int (nJ p), .int (nJ m), .int (nJ q)]) 0 = some (.int (nJ p)) := rfl
  have L1 : pm_get (lv_args 0 [.int (nJ p), .int (nJ m), .int (nJ q)]) 1 = some (.int (nJ m)) := rfl
  have L2 : pm_get (lv_args 0 [.int (nJ p), .int (nJ m), .int (nJ q)]) 2 = some (.int (nJ q)) := rfl
  generalize lv_args 0 [.int (nJ p), .int (nJ m), .int (nJ q)] = lv at L0 L1 L2 ⊢
  refine E_il rfl L2 ?_
  refine E_is rfl (fun lv1 K3 kp => ?_)
  exact ff_loop hm p9 10 lv1 q1 q10 (by first | decide | with_reducible assumption | omega) (kp 0 _ (nbz rfl) rfl L0) (kp 1 _ (nbz rfl) rfl L1) K3
theorem nf_loop {m p w : Nat} (hm : m < 512) (p9 : p ≤ 9) (w1 : 1 ≤ w) (wp : w ≤ p) (j : Nat) : ∀ {k : Nat} (lv : List (Nat × Value)), 1 ≤ k → k ≤ 10 → p ≤ k + j → pm_get lv 0 = some (.int (nJ p)) → pm_get lv 1 = some (.int (nJ m)) → pm_get lv 2 = some (.int (nJ w)) → pm_get lv 3 = some (.int (nJ k)) → Ends (pm_at tX1_nearestFree) (pm_Rt pm_P (d + 1)) (2, lv, [], h, 0, 0) (fun h' r => h' = h ∧ r = some (.int (nJ (nf m p w j k)))) := by
  induction j with
  | zero =>
    intro k lv k1 k10 hj L0 L1 L2 L3
    refine E_il rfl L3 ?_
    refine E_il rfl L0 ?_
    refine E_icT rfl (decide_eq_true ((nJ_le (by first | decide | with_reducible assumption | omega) (by first | decide | with_reducible assumption | omega)).mpr (by first | decide | with_reducible assumption | omega))) ?_
    refine E_ci 0 rfl ci0 ?_
    exact E_rti rfl ⟨rfl, rfl⟩
  | succ j ih =>
    intro k lv k1 k10 hj L0 L1 L2 L3
    unfold nf
    refine E_il rfl L3 ?_
    refine E_il rfl L0 ?_
    by_cases b : k < p
    · refine E_icF rfl (decide_eq_false (fun z => absurd ((nJ_le (by first | decide | with_reducible assumption | omega) (by first | decide | with_reducible assumption | omega)).mp z) (by first | decide | with_reducible assumption | omega))) ?_
      rw [if_pos b]
      have low : ¬ (w + k ≤ p ∧ isB m (w + k - 1) = false) → Ends (pm_at tX1_nearestFree) (pm_Rt pm_P (d + 1)) (28, lv, [], h, 0, 0) (fun h' r => h' = h ∧ r = some (.int (nJ (if w + k ≤ p ∧ isB m (w + k - 1) = false then w + k else if 1 + k ≤ w ∧ isB m (w - k - 1) = false then w - k else nf m p w j (k + 1))))) := by
        intro c
        rw [if_neg c]
        have nx : ¬ (1 + k ≤ w ∧ isB m (w - k - 1) = false) → Ends (pm_at tX1_nearestFree) (pm_Rt pm_P (d + 1)) (49, lv, [], h, 0, 0) (fun h' r => h' = h ∧ r = some (.int (nJ (if 1 + k ≤ w ∧ isB m (w - k - 1) = false then w - k else nf m p w j (k + 1))))) := by
          intro e
          rw [if_neg e]
          refine E_inc rfl L3 (nJ_inc _) (fun lv1 K3 kp => ?_)
          refine E_goto rfl ?_
          exact ih lv1 (by first | decide | with_reducible assumption | omega) (by first | decide | with_reducible assumption | omega) (by first | decide | with_reducible assumption | omega) (kp 0 _ (nbz rfl) rfl L0) (kp 1 _ (nbz rfl) rfl L1) (kp 2 _ (nbz rfl) rfl L2) K3
        refine E_il rfl L2 ?_
        refine E_il rfl L3 ?_
        refine E_bin rfl rfl ?_
        refine E_c rfl ?_
        have ti : (nJ w - nJ k).toInt = (w : Int) - (k : Int) := by
          rw [Int32.toInt_sub, nJ_toInt (by first | decide | with_reducible assumption | omega), nJ_toInt (by first | decide | with_reducible assumption | omega)]
          exact Int.bmod_eq_of_le (by first | decide | with_reducible assumption | omega) (by first | decide | with_reducible assumption | omega)
        have z1 : (1 : Int32).toInt = 1 := rfl
        by_cases e1 : 1 + k ≤ w
        · refine E_icF rfl (decide_eq_false (fun z => by have := Int32.lt_iff_toInt_lt.mp z; omega)) ?_
          refine E_il rfl L1 ?_
          refine E_il rfl L2 ?_
          refine E_il rfl L3 ?_
          refine E_bin rfl (nJ_sub (by first | decide | with_reducible assumption | omega)) ?_
          refine E_call rfl (sp_isFree8 (d := d) hm (by first | decide | with_reducible assumption | omega) (by first | decide | with_reducible assumption | omega)) (chkS rfl (by show 0 ≤ 8; decide)) (fun h1 r1 => ?_)
          rintro ⟨e2, f2⟩
          rw [e2, f2]
          by_cases e3 : isB m (w - k - 1) = false
          · refine E_ifF rfl (by rw [zb_T e3]; rfl) ?_
            rw [if_pos ⟨e1, e3⟩]
            refine E_il rfl L2 ?_
            refine E_il rfl L3 ?_
            refine E_bin rfl (nJ_sub (by first | decide | with_reducible assumption | omega)) ?_
            exact E_rti rfl ⟨rfl, rfl⟩
          · refine E_ifT rfl (by rw [zb_F e3]; rfl) ?_
            exact nx (fun q => e3 q.2)
        · refine E_icT rfl (decide_eq_true (Int32.lt_iff_toInt_lt.mpr (by first | decide | with_reducible assumption | omega))) ?_
          exact nx (fun q => e1 q.1)
      refine E_il rfl L2 ?_
      refine E_il rfl L3 ?_
      refine E_bin rfl (nJ_add _ _) ?_
      refine E_il rfl L0 ?_
      by_cases c1 : w + k ≤ p
      · refine E_icF rfl (decide_eq_false (fun z => absurd ((nJ_lt (by first | decide | with_reducible assumption | omega) (by first | decide | with_reducible assumption | omega)).mp z) (by first | decide | with_reducible assumption | omega))) ?_
        refine E_il rfl L1 ?_
        refine E_il rfl L2 ?_
        refine E_il rfl L3 ?_
        refine E_bin rfl (nJ_add _ _) ?_
        refine E_call rfl (sp_isFree8 (d := d) hm (by first | decide | with_reducible assumption | omega) (by first | decide | with_reducible assumption | omega)) (chkS rfl (by show 0 ≤ 8; decide)) (fun h1 r1 => ?_)
        rintro ⟨e2, f2⟩
        rw [e2, f2]
        by_cases c2 : isB m (w + k - 1) = false
        · refine E_ifF rfl (by rw [zb_T c2]; rfl) ?_
          rw [if_pos ⟨c1, c2⟩]
          refine E_il rfl L2 ?_
          refine E_il rfl L3 ?_
          refine E_bin rfl (nJ_add _ _) ?_
          exact E_rti rfl ⟨rfl, rfl⟩
        · refine E_ifT rfl (by rw [zb_F c2]; rfl) ?_
          exact low (fun q => c2 q.2)
      · refine E_icT rfl (decide_eq_true ((nJ_lt (by first | decide | with_reducible assumption | omega) (by first | decide | with_reducible assumption | omega)).mpr (by first | decide | with_reducible assumption | omega))) ?_
        exact low (fun q => c1 q.1)
    · refine E_icT rfl (decide_eq_true ((nJ_le (by first | decide | with_reducible assumption | omega) (by first | decide | with_reducible assumption | omega)).mpr (by first | decide | with_reducible assumption | omega))) ?_
      rw [if_neg b]
      refine E_ci 0 rfl ci0 ?_
      exact E_rti rfl ⟨rfl, rfl⟩
theorem sp_nearestFree {m p w : Nat} (hm : m < 512) (p9 : p ≤ 9) (w1 : 1 ≤ w) (wp : w ≤ p) : Sp (d + 2) 24 h [.int (nJ p), .int (nJ m), .int (nJ w)] (fun h' r => h' = h ∧ r = some (.int (nJ (nf m p w 10 1)))) := by
  refine Sp_of aiX1_nearestFree rfl rfl rfl ?_
  have L0 : pm_get (lv_args 0 [.int (nJ p), .int (nJ m), .int (nJ w)]) 0 = some (.int (nJ p)) := rfl
  have L1 : pm_get (lv_args 0 [.int (nJ p), .int (nJ m), .int (nJ w)]) 1 = some (.int (nJ m)) := rfl
  have L2 : pm_get (lv_args 0 [.int (nJ p), .int (nJ m), .int (nJ w)]) 2 = some (.int (nJ w)) := rfl
  generalize lv_args 0 [.int (nJ p), .int (nJ m), .int (nJ w)] = lv at L0 L1 L2 ⊢
  refine E_ci 1 rfl ci1 ?_
  refine E_is rfl (fun lv1 K3 kp => ?_)
  exact nf_loop hm p9 w1 wp 10 lv1 (by first | decide | with_reducible assumption | omega) (by first | decide | with_reducible assumption | omega) (by first | decide | with_reducible assumption | omega) (kp 0 _ (nbz rfl) rfl L0) (kp 1 _ (nbz rfl) rfl L1) (kp 2 _ (nbz rfl) rfl L2) K3
theorem sp_spotFor {l p m w : Nat} (hl : l ≤ 3) (hm : m < 512) (p9 : p ≤ 9) (w1 : 1 ≤ w) (wp : w ≤ p) : Sp (d + 3) 25 h [.int (nJ l), .int (nJ p), .int (nJ m), .int (nJ w)] (fun h' r => h' = h ∧ r = some (.int (nJ (sf l p m w)))) := by
  refine Sp_of aiX1_spotFor rfl rfl rfl ?_
  have L0 : pm_get (lv_args 0 [.int (nJ l), .int (nJ p), .int (nJ m), .int (nJ w)]) 0 = some (.int (nJ l)) := rfl
  have L1 : pm_get (lv_args 0 [.int (nJ l), .int (nJ p), .int (nJ m), .int (nJ w)]) 1 = some (.int (nJ p)) := rfl
  have L2 : pm_get (lv_args 0 [.int (nJ l), .int (nJ p), .int (nJ m), .int (nJ w)]) 2 = some (.int (nJ m)) := rfl
  have L3 : pm_get (lv_args 0 [.int (nJ l), .int (nJ p), .int (nJ m), .int (nJ w)]) 3 = some (.int (nJ w)) := rfl
  generalize lv_args 0 [.int (nJ l), .int (nJ p), .int (nJ m), .int (nJ w)] = lv at L0 L1 L2 L3 ⊢
  unfold sf
  refine E_il rfl L2 ?_
  refine E_il rfl L3 ?_
  refine E_call rfl (Sp_le (by first | exact Nat.add_le_add_left (Nat.le_of_ble_eq_true rfl) _ | exact Nat.le_of_ble_eq_true rfl | omega) (sp_isFree8 (d := d) hm w1 (by first | decide | with_reducible assumption | omega))) (chkS rfl (by show 0 ≤ 8; decide)) (fun h1 r1 => ?_)
  rintro ⟨e1, f1⟩
  rw [e1, f1]
  by_cases a : isB m (w - 1) = false
  · refine E_ifF rfl (by rw [zb_T a]; rfl) ?_
    rw [if_pos a]
    refine E_il rfl L3 ?_
    exact E_rti rfl ⟨rfl, rfl⟩
  refine E_ifT rfl (by rw [zb_F a]; rfl) ?_
  rw [if_neg a]
  have at34 : ¬ (l = 1 ∧ 2 ≤ w ∧ isB m (w - 2) = false) → Ends (pm_at tX1_spotFor) (pm_Rt pm_P (d + 2)) (34, lv, [], h, 0, 0) (fun h' r => h' = h ∧ r = some (.int (nJ (if l = 1 ∧ 2 ≤ w ∧ isB m (w - 2) = false then w - 1 else if l = 2 then nf m p w 10 1 else if ff m p 10 (w + 1) = 0 ∧ l = 3 then ff m p 10 1 else ff m p 10 (w + 1))))) := by
    intro b
    rw [if_neg b]
    refine E_il rfl L0 ?_
    refine E_ci 2 rfl ci2 ?_
    by_cases c : l = 2
    · refine E_icF rfl (decide_eq_false (fun z => z ((nJ_eq (by first | decide | with_reducible assumption | omega) (by first | decide | with_reducible assumption | omega)).mpr c))) ?_
      rw [if_pos c]
      refine E_il rfl L1 ?_
      refine E_il rfl L2 ?_
      refine E_il rfl L3 ?_
      refine E_call rfl (sp_nearestFree (d := d) hm p9 w1 wp) (chkS rfl (by show 0 ≤ 8; decide)) (fun h2 r2 => ?_)
      rintro ⟨e2, f2⟩
      rw [e2, f2]
      exact E_rti rfl ⟨rfl, rfl⟩
    · refine E_icT rfl (decide_eq_true (fun z => c ((nJ_eq (by first | decide | with_reducible assumption | omega) (by first | decide | with_reducible assumption | omega)).mp z))) ?_
      rw [if_neg c]
      refine E_il rfl L1 ?_
      refine E_il rfl L2 ?_
      refine E_il rfl L3 ?_
      refine E_ci 1 rfl ci1 ?_
      refine E_bin rfl (nJ_add _ _) ?_
      refine E_call rfl (sp_firstFree (d := d) hm p9 (by first | decide | with_reducible assumption | omega) (by first | decide | with_reducible assumption | omega)) (chkS rfl (by show 0 ≤ 8; decide)) (fun h2 r2 => ?_)
      rintro ⟨e2, f2⟩
      rw [e2, f2]
      have fo := ff_ok (m := m) (p := p) (j := 10) (q := w + 1) (by first | decide | with_reducible assumption | omega)
      have f9 : ff m p 10 (w + 1) ≤ 9 := by rcases fo with q | ⟨_, q, _⟩ <;> omega
      refine E_is rfl (fun lv1 K4 kp => ?_)
      refine E_il rfl K4 ?_
      by_cases z : ff m p 10 (w + 1) = 0
      · refine E_ifF rfl (decide_eq_false (fun q => q ((nJ_eq0 (by first | decide | with_reducible assumption | omega)).mpr z))) ?_
        refine E_il rfl (kp 0 _ (nbz rfl) rfl L0) ?_
        refine E_ci 3 rfl ci3 ?_
        by_cases l3 : l = 3
        · refine E_icF rfl (decide_eq_false (fun q => q ((nJ_eq (by first | decide | with_reducible assumption | omega) (by first | decide | with_reducible assumption | omega)).mpr l3))) ?_
          rw [if_pos ⟨z, l3⟩]
          refine E_il rfl (kp 1 _ (nbz rfl) rfl L1) ?_
          refine E_il rfl (kp 2 _ (nbz rfl) rfl L2) ?_
          refine E_ci 1 rfl ci1 ?_
          refine E_call rfl (sp_firstFree (d := d) hm p9 (by first | decide | with_reducible assumption | omega) (by first | decide | with_reducible assumption | omega)) (chkS rfl (by show 0 ≤ 8; decide)) (fun h3 r3 => ?_)
          rintro ⟨e3, f3⟩
          rw [e3, f3]
          refine E_goto rfl ?_
          exact E_rti rfl ⟨rfl, rfl⟩
        · refine E_icT rfl (decide_eq_true (fun q => l3 ((nJ_eq (by first | decide | with_reducible assumption | omega) (by first | decide | with_reducible assumption | omega)).mp q))) ?_
          rw [if_neg (fun q => l3 q.2)]
          refine E_il rfl K4 ?_
          exact E_rti rfl ⟨rfl, rfl⟩
      · refine E_ifT rfl (decide_eq_true (fun q => z ((nJ_eq0 (by first | decide | with_reducible assumption | omega)).mp q))) ?_
        rw [if_neg (fun q => z q.1)]
        refine E_il rfl K4 ?_
        exact E_rti rfl ⟨rfl, rfl⟩
  refine E_il rfl L0 ?_
  refine E_ci 1 rfl ci1 ?_
  by_cases b1 : l = 1
  · refine E_icF rfl (decide_eq_false (fun z => z ((nJ_eq (by first | decide | with_reducible assumption | omega) (by first | decide | with_reducible assumption | omega)).mpr b1))) ?_
    refine E_il rfl L3 ?_
    refine E_ci 1 rfl ci1 ?_
    by_cases b2 : 2 ≤ w
    · refine E_icF rfl (decide_eq_false (fun z => absurd ((nJ_le (by first | decide | with_reducible assumption | omega) (by first | decide | with_reducible assumption | omega)).mp z) (by first | decide | with_reducible assumption | omega))) ?_
      refine E_il rfl L2 ?_
      refine E_il rfl L3 ?_
      refine E_ci 1 rfl ci1 ?_
      refine E_bin rfl (nJ_sub (by first | decide | with_reducible assumption | omega)) ?_
      refine E_call rfl (Sp_le (by first | exact Nat.add_le_add_left (Nat.le_of_ble_eq_true rfl) _ | exact Nat.le_of_ble_eq_true rfl | omega) (sp_isFree8 (d := d) hm (show 1 ≤ w - 1 by omega) (by first | decide | with_reducible assumption | omega))) (chkS rfl (by show 0 ≤ 8; decide)) (fun h2 r2 => ?_)
      rintro ⟨e2, f2⟩
      rw [e2, f2, show w - 1 - 1 = w - 2 by omega]
      by_cases b3 : isB m (w - 2) = false
      · refine E_ifF rfl (by rw [zb_T b3]; rfl) ?_
        rw [if_pos ⟨b1, b2, b3⟩]
        refine E_il rfl L3 ?_
        refine E_ci 1 rfl ci1 ?_
        refine E_bin rfl (nJ_sub (by first | decide | with_reducible assumption | omega)) ?_
        exact E_rti rfl ⟨rfl, rfl⟩
      · refine E_ifT rfl (by rw [zb_F b3]; rfl) ?_
        exact at34 (fun q => b3 q.2.2)
    · refine E_icT rfl (decide_eq_true ((nJ_le (by first | decide | with_reducible assumption | omega) (by first | decide | with_reducible assumption | omega)).mpr (by first | decide | with_reducible assumption | omega))) ?_
      exact at34 (fun q => b2 q.2.1)
  · refine E_icT rfl (decide_eq_true (fun z => b1 ((nJ_eq (by first | decide | with_reducible assumption | omega) (by first | decide | with_reducible assumption | omega)).mp z))) ?_
    exact at34 (fun q => b1 q.1)
end LOT
end
