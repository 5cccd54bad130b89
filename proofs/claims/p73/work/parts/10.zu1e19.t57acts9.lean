section
/-! wants and trades of the class; undo, anew, rate, wants, trades of the reference: the numbers that are counted (wants t56) -/
noncomputable def AAF : List Rng := [(15, 6, 6), (17, 0, 7), (21, 0, 19), (22, 0, 19), (23, 0, 19)]
noncomputable def wna (ok : Bool) (a : Nat) : Nat := bif ok then (if a < 20 then a + 1 else a) else a
section WN8
variable {h : pm_H} {d : Nat} {x y : Int32}
theorem sp_addAct {c z t a : Nat} (hh : HH h) (c7 : c ≤ 7) (z8 : z ≤ 8) (t1 : t ≤ 1) (hz : t ≠ 0 → z ≤ 7) (g6 : gi h 15 6 = nJ a) (a20 : a < 20) : Sp (d + 2) 47 h [.ref 15, .int (nJ c), .int (nJ z), .int (nJ t)] (fun h' r => r = none ∧ HH h' ∧ fr_g AAF h h' ∧ gi h' 15 6 = nJ (a + 1)) := by
  refine Sp_of aiX5_addAct rfl rfl rfl ?_
  have L0 : pm_get (lv_args 0 [.ref 15, .int (nJ c), .int (nJ z), .int (nJ t)]) 0 = some (.ref 15) := rfl
  have L1 : pm_get (lv_args 0 [.ref 15, .int (nJ c), .int (nJ z), .int (nJ t)]) 1 = some (.int (nJ c)) := rfl
  have L2 : pm_get (lv_args 0 [.ref 15, .int (nJ c), .int (nJ z), .int (nJ t)]) 2 = some (.int (nJ z)) := rfl
  have L3 : pm_get (lv_args 0 [.ref 15, .int (nJ c), .int (nJ z), .int (nJ t)]) 3 = some (.int (nJ t)) := rfl
  generalize lv_args 0 [.ref 15, .int (nJ c), .int (nJ z), .int (nJ t)] = lv at L0 L1 L2 L3 ⊢
  have tt := nJ_toInt (n := t) (by first | decide | with_reducible assumption | omega)
  refine E_al rfl L0 ?_
  refine E_ogf (q := (0, 20)) rfl hh rfl rfl g6 ?_
  refine E_ci 20 rfl ci20 ?_
  refine E_icF rfl (decide_eq_false (fun q => absurd ((nJ_le (by first | decide | with_reducible assumption | omega) (by first | decide | with_reducible assumption | omega)).mp q) (by first | decide | with_reducible assumption | omega))) ?_
  have b1 : bd 21 a = some (0, 7) := bd_u rfl a20
  have b2 : bd 22 a = some (0, 8) := bd_u rfl a20
  have b3 : bd 23 a = some (0, 1) := bd_u rfl a20
  have h1 : HH (pt h 21 a (nJ c)) := HH_ptn hh b1 (by first | decide | with_reducible assumption | omega) (by first | decide | with_reducible assumption | omega) (by first | decide | with_reducible assumption | omega)
  have h2 : HH (pt (pt h 21 a (nJ c)) 22 a (nJ z)) := HH_ptn h1 b2 (by first | decide | with_reducible assumption | omega) (by first | decide | with_reducible assumption | omega) (by first | decide | with_reducible assumption | omega)
  have h3 : HH (pt (pt (pt h 21 a (nJ c)) 22 a (nJ z)) 23 a (nJ t)) := HH_ptn h2 b3 (by first | decide | with_reducible assumption | omega) (by first | decide | with_reducible assumption | omega) (by first | decide | with_reducible assumption | omega)
  refine E_al rfl L0 ?_
  refine E_ogr (q := 21) rfl hh rfl rfl ?_
  refine E_al rfl L0 ?_
  refine E_ogf (q := (0, 20)) rfl hh rfl rfl g6 ?_
  refine E_il rfl L1 ?_
  refine E_ias rfl hh rfl a20 (by decide) ?_
  refine E_al rfl L0 ?_
  refine E_ogr (q := 22) rfl h1 rfl rfl ?_
  refine E_al rfl L0 ?_
  refine E_ogf (q := (0, 20)) (v := nJ a) rfl h1 rfl rfl (by rw [gi_ne (by first | exact gxx rfl | omega)]; exact g6) ?_
  refine E_il rfl L2 ?_
  refine E_ias rfl h1 rfl a20 (by decide) ?_
  refine E_al rfl L0 ?_
  refine E_ogr (q := 23) rfl h2 rfl rfl ?_
  refine E_al rfl L0 ?_
  refine E_ogf (q := (0, 20)) (v := nJ a) rfl h2 rfl rfl (by rw [gi_ne (by first | exact gxx rfl | omega), gi_ne (by first | exact gxx rfl | omega)]; exact g6) ?_
  refine E_il rfl L3 ?_
  refine E_zasB rfl h2 rfl a20 (by decide) (nar_z (by first | decide | with_reducible assumption | omega) (by first | decide | with_reducible assumption | omega)) ?_
  have g3 : gi (pt (pt (pt h 21 a (nJ c)) 22 a (nJ z)) 23 a (nJ t)) 15 6 = nJ a := by rw [gi_ne (by first | exact gxx rfl | omega), gi_ne (by first | exact gxx rfl | omega), gi_ne (by first | exact gxx rfl | omega)]; exact g6
  have q3 : gi (pt (pt (pt h 21 a (nJ c)) 22 a (nJ z)) 23 a (nJ t)) 23 a = nJ t := gi_ptn h2 b3 (by first | decide | with_reducible assumption | omega) (by first | decide | with_reducible assumption | omega) (by first | decide | with_reducible assumption | omega)
  have q2 : gn (pt (pt (pt h 21 a (nJ c)) 22 a (nJ z)) 23 a (nJ t)) 22 a = z := by rw [gn_ne (by first | exact gxx rfl | omega)]; exact gn_ptn h1 b2 (by first | decide | with_reducible assumption | omega) (by first | decide | with_reducible assumption | omega) (by first | decide | with_reducible assumption | omega)
  have F3 : fr_g AAF h (pt (pt (pt h 21 a (nJ c)) 22 a (nJ z)) 23 a (nJ t)) := fr_ptr (l := 0) (u := 19) rfl (by first | decide | with_reducible assumption | omega) (by first | decide | with_reducible assumption | omega) (fr_ptr (l := 0) (u := 19) rfl (by first | decide | with_reducible assumption | omega) (by first | decide | with_reducible assumption | omega) (fr_ptr (l := 0) (u := 19) rfl (by first | decide | with_reducible assumption | omega) (by first | decide | with_reducible assumption | omega) (fr_rf _ _)))
  generalize pt (pt (pt h 21 a (nJ c)) 22 a (nJ z)) 23 a (nJ t) = g at h3 g3 q3 q2 F3 ⊢
  refine E_al rfl L0 ?_
  refine E_al rfl L0 ?_
  refine E_ogf (q := (0, 20)) rfl h3 rfl rfl g3 ?_
  refine E_call rfl (sp_doAct (d := d) h3 a20 (fun q => by rw [q2]; exact hz (fun e => q (by rw [q3, e]; rfl)))) (chkO (a := 15) h3 rfl rfl rfl rfl (by show 0 ≤ 8; decide)) (fun h5 r5 => ?_)
  rintro ⟨e5, hh5, f5⟩
  rw [e5]
  refine E_al rfl L0 ?_
  refine E_dup rfl rfl ?_
  refine E_ogf (q := (0, 20)) (v := nJ a) rfl hh5 rfl rfl (by rw [fr_gi f5 (rg_no rfl _)]; exact g3) ?_
  refine E_ci 1 rfl ci1 ?_
  refine E_bin rfl (nJ_add _ _) ?_
  refine E_opf (q := (0, 20)) rfl hh5 rfl rfl ?_
  exact E_ret rfl ⟨rfl, HH_ptn hh5 rfl (by first | decide | with_reducible assumption | omega) (by first | decide | with_reducible assumption | omega) (by first | decide | with_reducible assumption | omega), fr_ptr (l := 6) (u := 6) rfl (by first | decide | with_reducible assumption | omega) (by first | decide | with_reducible assumption | omega) (fr_trans F3 (fr_wk rfl f5)), gi_ptn hh5 rfl (by first | decide | with_reducible assumption | omega) (by first | decide | with_reducible assumption | omega) (by first | decide | with_reducible assumption | omega)⟩
theorem sp_actLost {c z t : Nat} (hh : HH h) (c7 : c ≤ 7) (z8 : z ≤ 8) (t1 : t ≤ 1) (hz : t ≠ 0 → z ≤ 7) : Sp (d + 6) 78 h [.ref 0, .int (nJ c), .int (nJ z), .int (nJ t)] (fun h' r => (∃ v : Int32, r = some (.int v)) ∧ gi h' 15 6 = nJ (wna true (gn h 15 6))) := by
  obtain ⟨a1, a2, a3, a4, a5, a6⟩ := g15 hh
  refine Sp_of aiX8_actAndCountLost rfl rfl rfl ?_
  have L0 : pm_get (lv_args 0 [.ref 0, .int (nJ c), .int (nJ z), .int (nJ t)]) 0 = some (.ref 0) := rfl
  have L1 : pm_get (lv_args 0 [.ref 0, .int (nJ c), .int (nJ z), .int (nJ t)]) 1 = some (.int (nJ c)) := rfl
  have L2 : pm_get (lv_args 0 [.ref 0, .int (nJ c), .int (nJ z), .int (nJ t)]) 2 = some (.int (nJ z)) := rfl
  have L3 : pm_get (lv_args 0 [.ref 0, .int (nJ c), .int (nJ z), .int (nJ t)]) 3 = some (.int (nJ t)) := rfl
  generalize lv_args 0 [.ref 0, .int (nJ c), .int (nJ z), .int (nJ t)] = lv at L0 L1 L2 L3 ⊢
  unfold wna
  dsimp only [cond_true]
  refine E_al rfl L0 ?_
  refine E_ogr (q := 15) rfl hh rfl rfl ?_
  refine E_ogf (q := (0, 20)) rfl hh rfl rfl a5 ?_
  refine E_ci 20 rfl ci20 ?_
  by_cases b : gn h 15 6 < 20
  · refine E_icT rfl (decide_eq_true ((nJ_lt (by first | decide | with_reducible assumption | omega) (by first | decide | with_reducible assumption | omega)).mpr b)) ?_
    rw [if_pos b]
    refine E_al rfl L0 ?_
    refine E_ogr (q := 15) rfl hh rfl rfl ?_
    refine E_il rfl L1 ?_
    refine E_il rfl L2 ?_
    refine E_il rfl L3 ?_
    refine E_call rfl (Sp_le (by first | exact Nat.add_le_add_left (Nat.le_of_ble_eq_true rfl) _ | exact Nat.le_of_ble_eq_true rfl | omega) (sp_addAct (d := d) hh c7 z8 t1 hz a5 b)) (chkO (a := 15) hh rfl rfl rfl rfl (by show 0 ≤ 8; decide)) (fun h1 r1 => ?_)
    rintro ⟨e1, hh1, f1, g1⟩
    rw [e1]
    refine E_al rfl L0 ?_
    refine E_call rfl (Sp_le (by first | exact Nat.add_le_add_left (Nat.le_of_ble_eq_true rfl) _ | exact Nat.le_of_ble_eq_true rfl | omega) (Sp_sum (as := [.ref 0]) q137 hh1 ⟨rfl, trivial⟩ (fun _ hq => absurd hq List.not_mem_nil) (fun _ hq => absurd hq List.not_mem_nil))) (chkO (a := 0) hh1 rfl rfl rfl rfl (by show 0 ≤ 8; decide)) (fun h2 r2 => ?_)
    rintro ⟨hh2, f2, C2, hC2, -, -, -, rv2⟩
    have e2 : r2 = none := by have e := List.mem_singleton.mp hC2; subst e; cases r2 with | none => rfl | some v => exact rv2.elim
    rw [e2]
    refine E_al rfl L0 ?_
    refine E_ogr (q := 62) rfl hh2 rfl rfl ?_
    refine E_ogf (q := (0, 255)) rfl hh2 rfl rfl rfl ?_
    have bm := (ld_gi hh2 (a := 62) (k := 2) (q := (0, 255)) rfl).2
    refine E_call rfl (Sp_le (by first | exact Nat.add_le_add_left (Nat.le_of_ble_eq_true rfl) _ | exact Nat.le_of_ble_eq_true rfl | omega) (Sp_sum (as := [.int (gi h2 62 2)]) q607 hh2 ⟨bm, trivial⟩ (fun _ hq => absurd hq List.not_mem_nil) (fun _ hq => absurd hq List.not_mem_nil))) (chkS rfl (by show 0 ≤ 8; decide)) (fun h3 r3 => ?_)
    rintro ⟨hh3, f3, C3, hC3, -, -, -, rv3⟩
    have hC3 : C3 ∈ [([cI 0 255], [], [], some (.inl (cI 2 8))), ([cI 0 255], [], [], some (.inl (cI 1 1))), ([cI 0 255], [], [], some (.inl (cI 0 0)))] := hC3
    obtain ⟨v3, e3⟩ : ∃ x : Int32, r3 = some (.int x) := by
      rcases List.mem_cons.mp hC3 with e | e
      · subst e; exact rv_ci rv3
      · rcases List.mem_cons.mp e with e | e
        · subst e; exact rv_ci rv3
        · have e := List.mem_singleton.mp e; subst e; exact rv_ci rv3
    rw [e3]
    exact E_rti rfl ⟨⟨_, rfl⟩, by rw [fr_gi f3 rfl, fr_gi f2 rfl]; exact g1⟩
  · refine E_icF rfl (decide_eq_false (fun q => b ((nJ_lt (by first | decide | with_reducible assumption | omega) (by first | decide | with_reducible assumption | omega)).mp q))) ?_
    rw [if_neg b]
    refine E_c rfl ?_
    exact E_rti rfl ⟨⟨_, rfl⟩, a5⟩
noncomputable def okW (c p : Nat) (x y : Int32) : Bool := decide ((0 ≤ x.toInt ∧ x.toInt < (c : Int)) ∧ 1 ≤ y.toInt ∧ y.toInt ≤ (p : Int))
noncomputable def okT (c : Nat) (x y : Int32) : Bool := decide ((0 ≤ x.toInt ∧ x.toInt < (c : Int)) ∧ (0 ≤ y.toInt ∧ y.toInt < (c : Int)) ∧ ¬ x = y)
theorem sp_wants8 (hh : HH h) : Sp (d + 7) 198 h [.ref 0, .int x, .int y] (fun h' r => (∃ v : Int32, r = some (.int v)) ∧ gi h' 15 6 = nJ (wna (okW (gn h 15 4) (gn h 15 0) x y) (gn h 15 6))) := by
  obtain ⟨a1, a2, a3, a4, a5, a6⟩ := g15 hh
  refine Sp_of aiX8_wants rfl rfl rfl ?_
  have L0 : pm_get (lv_args 0 [.ref 0, .int x, .int y]) 0 = some (.ref 0) := rfl
  have L1 : pm_get (lv_args 0 [.ref 0, .int x, .int y]) 1 = some (.int x) := rfl
  have L2 : pm_get (lv_args 0 [.ref 0, .int x, .int y]) 2 = some (.int y) := rfl
  generalize lv_args 0 [.ref 0, .int x, .int y] = lv at L0 L1 L2 ⊢
  have no : ¬ ((0 ≤ x.toInt ∧ x.toInt < (gn h 15 4 : Int)) ∧ 1 ≤ y.toInt ∧ y.toInt ≤ (gn h 15 0 : Int)) → Ends (pm_at tX8_wants) (pm_Rt pm_P (d + 6)) (16, lv, [], h, 0, 0) (fun h' r => (∃ v : Int32, r = some (.int v)) ∧ gi h' 15 6 = nJ (wna (okW (gn h 15 4) (gn h 15 0) x y) (gn h 15 6))) := by
    intro q
    refine E_c rfl ?_
    exact E_rti rfl ⟨⟨_, rfl⟩, by unfold okW; rw [decide_eq_false q]; exact a5⟩
  refine E_al rfl L0 ?_
  refine E_il rfl L1 ?_
  refine E_call rfl (Sp_le (by first | exact Nat.add_le_add_left (Nat.le_of_ble_eq_true rfl) _ | exact Nat.le_of_ble_eq_true rfl | omega) (sp_hasCar8 (d := d) hh)) (chkO (a := 0) hh rfl rfl rfl rfl (by show 0 ≤ 8; decide)) (fun h1 r1 => ?_)
  rintro ⟨e1, f1⟩
  rw [e1, f1]
  by_cases b1 : 0 ≤ x.toInt ∧ x.toInt < (gn h 15 4 : Int)
  · refine E_ifF rfl (by rw [zb_T b1]; rfl) ?_
    refine E_al rfl L0 ?_
    refine E_il rfl L2 ?_
    refine E_call rfl (Sp_le (by first | exact Nat.add_le_add_left (Nat.le_of_ble_eq_true rfl) _ | exact Nat.le_of_ble_eq_true rfl | omega) (sp_hasPlace8 (d := d) hh)) (chkO (a := 0) hh rfl rfl rfl rfl (by show 0 ≤ 8; decide)) (fun h2 r2 => ?_)
    rintro ⟨e2, f2⟩
    rw [e2, f2]
    by_cases b2 : 1 ≤ y.toInt ∧ y.toInt ≤ (gn h 15 0 : Int)
    · refine E_ifT rfl (by rw [zb_T b2]; rfl) ?_
      have ok : okW (gn h 15 4) (gn h 15 0) x y = true := decide_eq_true ⟨b1, b2⟩
      rw [ok]
      obtain ⟨c, hc, rfl⟩ : ∃ c, c ≤ 7 ∧ x = nJ c := ⟨x.toInt.toNat, by omega, nJ_of b1.1⟩
      obtain ⟨z, hz, rfl⟩ : ∃ c, c ≤ 8 ∧ y = nJ c := ⟨y.toInt.toNat, by omega, nJ_of (by first | decide | with_reducible assumption | omega)⟩
      refine E_al rfl L0 ?_
      refine E_il rfl L1 ?_
      refine E_il rfl L2 ?_
      refine E_ci 0 rfl ci0 ?_
      refine E_call rfl (sp_actLost (d := d) (t := 0) hh hc hz (by first | decide | with_reducible assumption | omega) (fun q => absurd rfl q)) (chkO (a := 0) hh rfl rfl rfl rfl (by show 0 ≤ 8; decide)) (fun h3 r3 => ?_)
      rintro ⟨⟨v, e3⟩, g3⟩
      rw [e3]
      exact E_rti rfl ⟨⟨_, rfl⟩, g3⟩
    · refine E_ifF rfl (by rw [zb_F b2]; rfl) ?_
      exact no (fun q => b2 q.2)
  · refine E_ifT rfl (by rw [zb_F b1]; rfl) ?_
    exact no (fun q => b1 q.1)
theorem sp_trades8 (hh : HH h) : Sp (d + 7) 191 h [.ref 0, .int x, .int y] (fun h' r => (∃ v : Int32, r = some (.int v)) ∧ gi h' 15 6 = nJ (wna (okT (gn h 15 4) x y) (gn h 15 6))) := by
  obtain ⟨a1, a2, a3, a4, a5, a6⟩ := g15 hh
  refine Sp_of aiX8_trades rfl rfl rfl ?_
  have L0 : pm_get (lv_args 0 [.ref 0, .int x, .int y]) 0 = some (.ref 0) := rfl
  have L1 : pm_get (lv_args 0 [.ref 0, .int x, .int y]) 1 = some (.int x) := rfl
  have L2 : pm_get (lv_args 0 [.ref 0, .int x, .int y]) 2 = some (.int y) := rfl
  generalize lv_args 0 [.ref 0, .int x, .int y] = lv at L0 L1 L2 ⊢
  refine E_al rfl L0 ?_
  refine E_il rfl L1 ?_
  refine E_il rfl L2 ?_
  refine E_call rfl (Sp_le (by first | exact Nat.add_le_add_left (Nat.le_of_ble_eq_true rfl) _ | exact Nat.le_of_ble_eq_true rfl | omega) (sp_hasPair8 (d := d) hh)) (chkO (a := 0) hh rfl rfl rfl rfl (by show 0 ≤ 8; decide)) (fun h1 r1 => ?_)
  rintro ⟨e1, f1⟩
  rw [e1, f1]
  by_cases b : (0 ≤ x.toInt ∧ x.toInt < (gn h 15 4 : Int)) ∧ (0 ≤ y.toInt ∧ y.toInt < (gn h 15 4 : Int)) ∧ ¬ x = y
  · refine E_ifT rfl (by rw [zb_T b]; rfl) ?_
    have ok : okT (gn h 15 4) x y = true := decide_eq_true b
    rw [ok]
    obtain ⟨b1, b2, -⟩ := b
    obtain ⟨c, hc, rfl⟩ : ∃ c, c ≤ 7 ∧ x = nJ c := ⟨x.toInt.toNat, by omega, nJ_of b1.1⟩
    obtain ⟨z, hz, rfl⟩ : ∃ c, c ≤ 7 ∧ y = nJ c := ⟨y.toInt.toNat, by omega, nJ_of (by first | decide | with_reducible assumption | omega)⟩
    refine E_al rfl L0 ?_
    refine E_il rfl L1 ?_
    refine E_il rfl L2 ?_
    refine E_ci 1 rfl ci1 ?_
    refine E_call rfl (sp_actLost (d := d) (t := 1) hh hc (by first | decide | with_reducible assumption | omega) (by first | decide | with_reducible assumption | omega) (fun _ => hz)) (chkO (a := 0) hh rfl rfl rfl rfl (by show 0 ≤ 8; decide)) (fun h3 r3 => ?_)
    rintro ⟨⟨v, e3⟩, g3⟩
    rw [e3]
    exact E_rti rfl ⟨⟨_, rfl⟩, g3⟩
  · refine E_ifF rfl (by rw [zb_F b]; rfl) ?_
    refine E_c rfl ?_
    exact E_rti rfl ⟨⟨_, rfl⟩, by unfold okT; rw [decide_eq_false b]; exact a5⟩
end WN8
/-! the reference -/
noncomputable def lnp (h : pm_H) : Nat := if 0 < (gi h 83 0).toInt then 1 else 0
section AC9
variable {h : pm_H} {d : Nat} {x y : Int32}
theorem g84 (hh : HH h) : gi h 84 5 = nJ (gn h 84 5) ∧ gn h 84 5 ≤ 20 ∧ gn h 84 3 ≤ 8 ∧ gn h 84 0 ≤ 8 := ⟨gi_gn hh rfl (by decide), gn_hi hh rfl (by decide), gn_hi hh rfl (by decide), gn_hi hh rfl (by decide)⟩
theorem sp_undo9 (hh : HH h) : Sp (d + 2) 366 h [.ref 77] (fun h' r => r = some (.int (udv (lnp h) (gn h 84 5))) ∧ HH h' ∧ fr_g [(77, 0, 0), (84, 5, 5)] h h' ∧ gi h' 84 5 = nJ (uda (lnp h) (gn h 84 5))) := by
  obtain ⟨a5, a6, -⟩ := g84 hh
  refine Sp_of aiX9_undo rfl rfl rfl ?_
  have L0 : pm_get (lv_args 0 [.ref 77]) 0 = some (.ref 77) := rfl
  generalize lv_args 0 [.ref 77] = lv at L0 ⊢
  refine E_al rfl L0 ?_
  refine E_ci 0 rfl ci0 ?_
  refine E_pf rfl hh rfl ?_
  have hg : HH (pt h 77 0 (nJ 0)) := HH_ptn hh rfl (by first | decide | with_reducible assumption | omega) (by first | decide | with_reducible assumption | omega) (by first | decide | with_reducible assumption | omega)
  have F : fr_g [(77, 0, 0), (84, 5, 5)] h (pt h 77 0 (nJ 0)) := fr_ptr (l := 0) (u := 0) rfl (by first | decide | with_reducible assumption | omega) (by first | decide | with_reducible assumption | omega) (fr_rf _ _)
  have g5 : gi (pt h 77 0 (nJ 0)) 84 5 = nJ (gn h 84 5) := by rw [gi_ne (by first | exact gxx rfl | omega)]; exact a5
  have g83 : gi (pt h 77 0 (nJ 0)) 83 0 = gi h 83 0 := gi_ne (by first | exact gxx rfl | omega)
  generalize pt h 77 0 (nJ 0) = g at hg F g5 g83 ⊢
  unfold udv uda lnp
  refine E_al rfl L0 ?_
  refine E_call rfl (sp_isStreet (d := d) hg) (chk77 hg rfl rfl (by show 0 ≤ 8; decide)) (fun h1 r1 => ?_)
  rintro ⟨e1, f1⟩
  rw [e1, f1, g83]
  by_cases b : 0 < (gi h 83 0).toInt
  · refine E_ifT rfl (by rw [zb_T b]; rfl) ?_
    rw [if_pos b, if_neg (show ¬ (1 : Nat) = 0 by decide), if_neg (show ¬ (1 : Nat) = 0 by decide)]
    refine E_al rfl L0 ?_
    refine E_gr rfl hg (q := 84) rfl ?_
    refine E_ci 5 rfl ci5 ?_
    refine E_ial rfl hg rfl (by first | decide | with_reducible assumption | omega) (by decide) g5 ?_
    by_cases b2 : gn h 84 5 = 0
    · refine E_ifF rfl (decide_eq_false (fun q => q ((nJ_eq0 (by first | decide | with_reducible assumption | omega)).mpr b2))) ?_
      refine E_c rfl ?_
      exact E_rti rfl ⟨by rw [if_pos b2], hg, F, by rw [g5, b2]⟩
    refine E_ifT rfl (decide_eq_true (fun q => b2 ((nJ_eq0 (by first | decide | with_reducible assumption | omega)).mp q))) ?_
    rw [if_neg b2]
    refine E_al rfl L0 ?_
    refine E_gr rfl hg (q := 84) rfl ?_
    refine E_ci 5 rfl ci5 ?_
    refine E_dup2 rfl rfl rfl ?_
    refine E_ial rfl hg rfl (by first | decide | with_reducible assumption | omega) (by decide) g5 ?_
    refine E_ci 1 rfl ci1 ?_
    refine E_bin rfl (nJ_sub (by first | decide | with_reducible assumption | omega)) ?_
    refine E_ias rfl hg rfl (by first | decide | with_reducible assumption | omega) (by decide) ?_
    have h2 : HH (pt g 84 5 (nJ (gn h 84 5 - 1))) := HH_ptn hg rfl (by first | decide | with_reducible assumption | omega) (by first | decide | with_reducible assumption | omega) (by first | decide | with_reducible assumption | omega)
    have g2 : gi (pt g 84 5 (nJ (gn h 84 5 - 1))) 84 5 = nJ (gn h 84 5 - 1) := gi_ptn hg rfl (by first | decide | with_reducible assumption | omega) (by first | decide | with_reducible assumption | omega) (by first | decide | with_reducible assumption | omega)
    refine E_al rfl L0 ?_
    refine E_gr rfl h2 (q := 84) rfl ?_
    refine E_ci 5 rfl ci5 ?_
    refine E_ial rfl h2 rfl (by first | decide | with_reducible assumption | omega) (by decide) g2 ?_
    exact E_rti rfl ⟨rfl, h2, fr_ptr (l := 5) (u := 5) rfl (by first | decide | with_reducible assumption | omega) (by first | decide | with_reducible assumption | omega) F, g2⟩
  · refine E_ifF rfl (by rw [zb_F b]; rfl) ?_
    rw [if_neg b, if_pos rfl, if_pos rfl]
    refine E_c rfl ?_
    exact E_rti rfl ⟨rfl, hg, F, g5⟩
theorem sp_anew9 (hh : HH h) : Sp (d + 2) 207 h [.ref 77] (fun h' r => r = some (.int (anv (lnp h) (gn h 84 5))) ∧ HH h' ∧ fr_g [(77, 0, 0), (84, 5, 5)] h h' ∧ gi h' 84 5 = nJ (ana (lnp h) (gn h 84 5))) := by
  obtain ⟨a5, a6, -⟩ := g84 hh
  refine Sp_of aiX9_anew rfl rfl rfl ?_
  have L0 : pm_get (lv_args 0 [.ref 77]) 0 = some (.ref 77) := rfl
  generalize lv_args 0 [.ref 77] = lv at L0 ⊢
  refine E_al rfl L0 ?_
  refine E_ci 0 rfl ci0 ?_
  refine E_pf rfl hh rfl ?_
  have hg : HH (pt h 77 0 (nJ 0)) := HH_ptn hh rfl (by first | decide | with_reducible assumption | omega) (by first | decide | with_reducible assumption | omega) (by first | decide | with_reducible assumption | omega)
  have F : fr_g [(77, 0, 0), (84, 5, 5)] h (pt h 77 0 (nJ 0)) := fr_ptr (l := 0) (u := 0) rfl (by first | decide | with_reducible assumption | omega) (by first | decide | with_reducible assumption | omega) (fr_rf _ _)
  have g5 : gi (pt h 77 0 (nJ 0)) 84 5 = nJ (gn h 84 5) := by rw [gi_ne (by first | exact gxx rfl | omega)]; exact a5
  have g83 : gi (pt h 77 0 (nJ 0)) 83 0 = gi h 83 0 := gi_ne (by first | exact gxx rfl | omega)
  generalize pt h 77 0 (nJ 0) = g at hg F g5 g83 ⊢
  unfold anv ana lnp
  refine E_al rfl L0 ?_
  refine E_call rfl (sp_isStreet (d := d) hg) (chk77 hg rfl rfl (by show 0 ≤ 8; decide)) (fun h1 r1 => ?_)
  rintro ⟨e1, f1⟩
  rw [e1, f1, g83]
  by_cases b : 0 < (gi h 83 0).toInt
  · refine E_ifT rfl (by rw [zb_T b]; rfl) ?_
    rw [if_pos b, if_neg (show ¬ (1 : Nat) = 0 by decide), if_neg (show ¬ (1 : Nat) = 0 by decide)]
    refine E_al rfl L0 ?_
    refine E_gr rfl hg (q := 84) rfl ?_
    refine E_ci 5 rfl ci5 ?_
    refine E_ial rfl hg rfl (by first | decide | with_reducible assumption | omega) (by decide) g5 ?_
    refine E_is rfl (fun lv1 K1 kp => ?_)
    refine E_al rfl (kp 0 _ (nbz rfl) rfl L0) ?_
    refine E_gr rfl hg (q := 84) rfl ?_
    refine E_ci 5 rfl ci5 ?_
    refine E_ci 0 rfl ci0 ?_
    refine E_ias rfl hg rfl (by first | decide | with_reducible assumption | omega) (by decide) ?_
    have h2 : HH (pt g 84 5 (nJ 0)) := HH_ptn hg rfl (by first | decide | with_reducible assumption | omega) (by first | decide | with_reducible assumption | omega) (by first | decide | with_reducible assumption | omega)
    refine E_il rfl K1 ?_
    exact E_rti rfl ⟨rfl, h2, fr_ptr (l := 5) (u := 5) rfl (by first | decide | with_reducible assumption | omega) (by first | decide | with_reducible assumption | omega) F, gi_ptn hg rfl (by first | decide | with_reducible assumption | omega) (by first | decide | with_reducible assumption | omega) (by first | decide | with_reducible assumption | omega)⟩
  · refine E_ifF rfl (by rw [zb_F b]; rfl) ?_
    rw [if_neg b, if_pos rfl, if_pos rfl]
    refine E_c rfl ?_
    exact E_rti rfl ⟨rfl, hg, F, g5⟩
theorem sp_rate9 (hh : HH h) : Sp (d + 3) 329 h [.ref 77, .int x, .int y] (fun h' r => r = some (.int (rtv (gn h 84 3) (gn h 84 5) (fun i => gi h 85 (2 * i + 1)) x y)) ∧ HH h' ∧ fr_g [(77, 0, 0), (85, 1, 15)] h h' ∧ ∀ i, i < 8 → gi h' 85 (2 * i + 1) = rts (gn h 84 3) (gn h 84 5) (fun i => gi h 85 (2 * i + 1)) x y i) := by
  obtain ⟨a5, a6, a3, -⟩ := g84 hh
  refine Sp_of aiX9_rate rfl rfl rfl ?_
  have L0 : pm_get (lv_args 0 [.ref 77, .int x, .int y]) 0 = some (.ref 77) := rfl
  have L1 : pm_get (lv_args 0 [.ref 77, .int x, .int y]) 1 = some (.int x) := rfl
  have L2 : pm_get (lv_args 0 [.ref 77, .int x, .int y]) 2 = some (.int y) := rfl
  generalize lv_args 0 [.ref 77, .int x, .int y] = lv at L0 L1 L2 ⊢
  refine E_al rfl L0 ?_
  refine E_ci 0 rfl ci0 ?_
  refine E_pf rfl hh rfl ?_
  have hg : HH (pt h 77 0 (nJ 0)) := HH_ptn hh rfl (by first | decide | with_reducible assumption | omega) (by first | decide | with_reducible assumption | omega) (by first | decide | with_reducible assumption | omega)
  have F : fr_g [(77, 0, 0), (85, 1, 15)] h (pt h 77 0 (nJ 0)) := fr_ptr (l := 0) (u := 0) rfl (by first | decide | with_reducible assumption | omega) (by first | decide | with_reducible assumption | omega) (fr_rf _ _)
  have g5 : gi (pt h 77 0 (nJ 0)) 84 5 = nJ (gn h 84 5) := by rw [gi_ne (by first | exact gxx rfl | omega)]; exact a5
  have g3 : gn (pt h 77 0 (nJ 0)) 84 3 = gn h 84 3 := gn_ne (by first | exact gxx rfl | omega)
  have g85 : ∀ k, gi (pt h 77 0 (nJ 0)) 85 k = gi h 85 k := fun k => gi_ne (by first | exact gxx rfl | omega)
  generalize pt h 77 0 (nJ 0) = g at hg F g5 g3 g85 ⊢
  have no : ¬ ((0 ≤ x.toInt ∧ x.toInt < (gn h 84 3 : Int)) ∧ 0 ≤ y.toInt ∧ y.toInt ≤ 99) → Ends (pm_at tX9_rate) (pm_Rt pm_P (d + 2)) (26, lv, [], g, 0, 0) (fun h' r => r = some (.int (rtv (gn h 84 3) (gn h 84 5) (fun i => gi h 85 (2 * i + 1)) x y)) ∧ HH h' ∧ fr_g [(77, 0, 0), (85, 1, 15)] h h' ∧ ∀ i, i < 8 → gi h' 85 (2 * i + 1) = rts (gn h 84 3) (gn h 84 5) (fun i => gi h 85 (2 * i + 1)) x y i) := by
    intro q
    refine E_c rfl ?_
    exact E_rti rfl ⟨by unfold rtv; rw [if_neg q], hg, F, fun i _ => by unfold rts; rw [if_neg (fun z => q z.1)]; exact g85 _⟩
  refine E_al rfl L0 ?_
  refine E_il rfl L1 ?_
  refine E_i2l rfl ?_
  refine E_call rfl (sp_isCar (d := d) hg) (chk77 hg rfl rfl (by show 0 ≤ 8; decide)) (fun h1 r1 => ?_)
  rintro ⟨e1, f1⟩
  rw [e1, f1, g3]
  by_cases b1 : 0 ≤ x.toInt ∧ x.toInt ≤ (gn h 84 3 : Int) - 1
  · refine E_ifF rfl (by rw [zb_T b1]; rfl) ?_
    refine E_il rfl L2 ?_
    refine E_i2l rfl ?_
    refine E_c rfl ?_
    refine E_c rfl ?_
    refine E_call rfl (sp_in (a := y.toInt) (b := 0) (c := 99) (i2l_toInt _) rfl rfl) (chkS rfl (by show 0 ≤ 8; decide)) (fun h2 r2 => ?_)
    rintro ⟨e2, f2⟩
    rw [e2, f2]
    by_cases b2 : 0 ≤ y.toInt ∧ y.toInt ≤ 99
    · refine E_ifT rfl (by rw [zb_T b2]; rfl) ?_
      obtain ⟨c, hc, rfl⟩ : ∃ c, c < 8 ∧ x = nJ c := ⟨x.toInt.toNat, by omega, nJ_of b1.1⟩
      have xc := nJ_toInt (n := c) (by first | decide | with_reducible assumption | omega)
      have ec : (nJ c).toInt.toNat = c := by omega
      have ok : (0 ≤ (nJ c).toInt ∧ (nJ c).toInt < (gn h 84 3 : Int)) ∧ 0 ≤ y.toInt ∧ y.toInt ≤ 99 := ⟨by omega, b2⟩
      refine E_al rfl L0 ?_
      refine E_gr rfl hg (q := 84) rfl ?_
      refine E_ci 5 rfl ci5 ?_
      refine E_ial rfl hg rfl (by first | decide | with_reducible assumption | omega) (by decide) g5 ?_
      by_cases b4 : gn h 84 5 = 0
      · refine E_ifT rfl (decide_eq_true ((nJ_le0 (by first | decide | with_reducible assumption | omega)).mpr b4)) ?_
        refine E_al rfl L0 ?_
        refine E_gr rfl hg (q := 85) rfl ?_
        refine E_ci 2 rfl ci2 ?_
        refine E_il rfl L1 ?_
        refine E_bin rfl (nJ_mul _ _) ?_
        refine E_ci 1 rfl ci1 ?_
        refine E_bin rfl (nJ_add _ _) ?_
        refine E_ial rfl hg rfl (by first | decide | with_reducible assumption | omega) (by decide) (g85 (2 * c + 1)) ?_
        refine E_is rfl (fun lv1 K3 kp => ?_)
        refine E_al rfl (kp 0 _ (nbz rfl) rfl L0) ?_
        refine E_gr rfl hg (q := 85) rfl ?_
        refine E_ci 2 rfl ci2 ?_
        refine E_il rfl (kp 1 _ (nbz rfl) rfl L1) ?_
        refine E_bin rfl (nJ_mul _ _) ?_
        refine E_ci 1 rfl ci1 ?_
        refine E_bin rfl (nJ_add _ _) ?_
        refine E_il rfl (kp 2 _ (nbz rfl) rfl L2) ?_
        refine E_ias rfl hg rfl (by first | decide | with_reducible assumption | omega) (by decide) ?_
        refine E_il rfl K3 ?_
        have b85 : bd 85 (2 * c + 1) = some (0, 99) := bd_85o (by first | decide | with_reducible assumption | omega) (by first | decide | with_reducible assumption | omega)
        refine E_rti rfl ⟨by unfold rtv; rw [if_pos ok, if_pos b4, ec], HH_pt hg b85 (by show (0 : Int) ≤ _; omega) (by show _ ≤ (99 : Int); omega), fr_ptr (l := 1) (u := 15) rfl (by first | decide | with_reducible assumption | omega) (by first | decide | with_reducible assumption | omega) F, fun i hi => ?_⟩
        unfold rts
        rw [ec]
        by_cases e : i = c
        · rw [if_pos ⟨ok, b4, e⟩, e]
          exact gi_pt hg b85 (by show (0 : Int) ≤ _; omega) (by show _ ≤ (99 : Int); omega)
        · rw [if_neg (fun z => e z.2.2), gi_ne (by first | exact gxx rfl | omega)]
          exact g85 _
      · refine E_ifF rfl (decide_eq_false (fun z => b4 ((nJ_le0 (by first | decide | with_reducible assumption | omega)).mp z))) ?_
        refine E_c rfl ?_
        exact E_rti rfl ⟨by unfold rtv; rw [if_pos ok, if_neg b4], hg, F, fun i _ => by unfold rts; rw [if_neg (fun z => b4 z.2.1)]; exact g85 _⟩
    · refine E_ifF rfl (by rw [zb_F b2]; rfl) ?_
      exact no (fun q => b2 q.2)
  · refine E_ifT rfl (by rw [zb_F b1]; rfl) ?_
    exact no (fun q => b1 (by first | decide | with_reducible assumption | omega))
end AC9
end
section
/-! the reference's does, wants, trades: what they leave (written by gen_t58.py; wants t57) -/
/-- all of the counted places but the acts stay -/
noncomputable def SAM (h h' : pm_H) : Prop := ∀ a k, (a = 83 ∨ a = 85 ∨ (a = 84 ∧ k ≠ 5)) → gi h' a k = gi h a k
theorem sp_doesE {h0 : pm_H} {d kd c x : Nat} (hh0 : HH h0) (hV : RV h0) (hK : gn h0 84 5 < 20) (hkd : kd ≤ 1) (hc7 : c ≤ 7) (hx8 : x ≤ 8) (hcond : (kd = 0 → 1 ≤ x) ∧ (¬ kd = 0 → c < gn h0 84 3 ∧ x < gn h0 84 3)) : Sp (d + 7) 238 h0 [.ref 77, .int (nJ kd), .int (nJ c), .int (nJ x)] (fun h' r => VQ h0 h' r ∧ SAM h0 h' ∧ gi h' 84 5 = nJ (gn h0 84 5 + 1)) := by
  refine Sp_of aiX9_does rfl rfl rfl ?_
  refine E_ci 3 rfl ci3 ?_
  refine E_al rfl (show pm_get (lv_args 0 [.ref 77, .int (nJ kd), .int (nJ c), .int (nJ x)]) 0 = _ from rfl) ?_
  refine E_gr rfl hh0 (q := 84) rfl ?_
  refine E_ci 5 rfl ci5 ?_
  have b1 : gn h0 84 5 ≤ 20 := gn_hi hh0 rfl (by decide)
  refine E_ial rfl hh0 rfl (by first | decide | with_reducible assumption | omega) (by decide) (gi_gn hh0 rfl (by decide)) ?_
  refine E_bin rfl (nJ_mul _ _) ?_
  refine E_is rfl (fun lv2 L2_4 kp2 => ?_)
  have L2_0 := kp2 0 _ (nbz rfl) rfl (show pm_get (lv_args 0 [.ref 77, .int (nJ kd), .int (nJ c), .int (nJ x)]) 0 = _ from rfl)
  have L2_1 := kp2 1 _ (nbz rfl) rfl (show pm_get (lv_args 0 [.ref 77, .int (nJ kd), .int (nJ c), .int (nJ x)]) 1 = _ from rfl)
  have L2_2 := kp2 2 _ (nbz rfl) rfl (show pm_get (lv_args 0 [.ref 77, .int (nJ kd), .int (nJ c), .int (nJ x)]) 2 = _ from rfl)
  have L2_3 := kp2 3 _ (nbz rfl) rfl (show pm_get (lv_args 0 [.ref 77, .int (nJ kd), .int (nJ c), .int (nJ x)]) 3 = _ from rfl)
  refine E_al rfl L2_0 ?_
  refine E_gr rfl hh0 (q := 87) rfl ?_
  refine E_il rfl L2_4 ?_
  refine E_il rfl L2_1 ?_
  refine E_ias rfl hh0 rfl (by first | decide | with_reducible assumption | omega) (by decide) ?_
  have hh3 : HH (pt h0 87 ((3 * (gn h0 84 5))) (nJ kd)) := HH_ptn hh0 (bd_87a (by first | decide | with_reducible assumption | omega) (by first | decide | with_reducible assumption | omega)) (by first | decide | with_reducible assumption | omega) (by first | decide | with_reducible assumption | omega) (by first | decide | with_reducible assumption | omega)
  have fr3 : fr_g VM h0 (pt h0 87 ((3 * (gn h0 84 5))) (nJ kd)) := fr_ptr (l := 0) (u := 299) rfl (by first | decide | with_reducible assumption | omega) (by first | decide | with_reducible assumption | omega) (fr_rf VM h0)
  refine E_al rfl L2_0 ?_
  refine E_gr rfl hh3 (q := 87) rfl ?_
  refine E_il rfl L2_4 ?_
  refine E_ci 1 rfl ci1 ?_
  refine E_bin rfl (nJ_add _ _) ?_
  refine E_il rfl L2_2 ?_
  refine E_ias rfl hh3 rfl (by first | decide | with_reducible assumption | omega) (by decide) ?_
  have hh4 : HH (pt (pt h0 87 ((3 * (gn h0 84 5))) (nJ kd)) 87 (((3 * (gn h0 84 5)) + 1)) (nJ c)) := HH_ptn hh3 (bd_87b (by first | decide | with_reducible assumption | omega) (by first | decide | with_reducible assumption | omega)) (by first | decide | with_reducible assumption | omega) (by first | decide | with_reducible assumption | omega) (by first | decide | with_reducible assumption | omega)
  have fr4 : fr_g VM h0 (pt (pt h0 87 ((3 * (gn h0 84 5))) (nJ kd)) 87 (((3 * (gn h0 84 5)) + 1)) (nJ c)) := fr_ptr (l := 0) (u := 299) rfl (by first | decide | with_reducible assumption | omega) (by first | decide | with_reducible assumption | omega) fr3
  refine E_al rfl L2_0 ?_
  refine E_gr rfl hh4 (q := 87) rfl ?_
  refine E_il rfl L2_4 ?_
  refine E_ci 2 rfl ci2 ?_
  refine E_bin rfl (nJ_add _ _) ?_
  refine E_il rfl L2_3 ?_
  refine E_ias rfl hh4 rfl (by first | decide | with_reducible assumption | omega) (by decide) ?_
  have hh5 : HH (pt (pt (pt h0 87 ((3 * (gn h0 84 5))) (nJ kd)) 87 (((3 * (gn h0 84 5)) + 1)) (nJ c)) 87 (((3 * (gn h0 84 5)) + 2)) (nJ x)) := HH_ptn hh4 (bd_87c (by first | decide | with_reducible assumption | omega) (by first | decide | with_reducible assumption | omega)) (by first | decide | with_reducible assumption | omega) (by first | decide | with_reducible assumption | omega) (by first | decide | with_reducible assumption | omega)
  have fr5 : fr_g VM h0 (pt (pt (pt h0 87 ((3 * (gn h0 84 5))) (nJ kd)) 87 (((3 * (gn h0 84 5)) + 1)) (nJ c)) 87 (((3 * (gn h0 84 5)) + 2)) (nJ x)) := fr_ptr (l := 0) (u := 299) rfl (by first | decide | with_reducible assumption | omega) (by first | decide | with_reducible assumption | omega) fr4
  refine E_al rfl L2_0 ?_
  refine E_gr rfl hh5 (q := 84) rfl ?_
  refine E_ci 5 rfl ci5 ?_
  refine E_dup2 rfl rfl rfl ?_
  refine E_ial rfl hh5 rfl (by first | decide | with_reducible assumption | omega) (by decide) (show gi (pt (pt (pt h0 87 ((3 * (gn h0 84 5))) (nJ kd)) 87 (((3 * (gn h0 84 5)) + 1)) (nJ c)) 87 (((3 * (gn h0 84 5)) + 2)) (nJ x)) 84 5 = nJ ((gn h0 84 5)) from by rw [gi_ne (by first | exact gxx rfl | omega), gi_ne (by first | exact gxx rfl | omega), gi_ne (by first | exact gxx rfl | omega)]; exact gi_gn hh0 rfl (by decide)) ?_
  refine E_ci 1 rfl ci1 ?_
  refine E_bin rfl (nJ_add _ _) ?_
  refine E_ias rfl hh5 rfl (by first | decide | with_reducible assumption | omega) (by decide) ?_
  have hh6 : HH (pt (pt (pt (pt h0 87 ((3 * (gn h0 84 5))) (nJ kd)) 87 (((3 * (gn h0 84 5)) + 1)) (nJ c)) 87 (((3 * (gn h0 84 5)) + 2)) (nJ x)) 84 5 (nJ (((gn h0 84 5) + 1)))) := HH_ptn hh5 rfl (by first | decide | with_reducible assumption | omega) (by first | decide | with_reducible assumption | omega) (by first | decide | with_reducible assumption | omega)
  have fr6 : fr_g VM h0 (pt (pt (pt (pt h0 87 ((3 * (gn h0 84 5))) (nJ kd)) 87 (((3 * (gn h0 84 5)) + 1)) (nJ c)) 87 (((3 * (gn h0 84 5)) + 2)) (nJ x)) 84 5 (nJ (((gn h0 84 5) + 1)))) := fr_ptr (l := 0) (u := 29) rfl (by first | decide | with_reducible assumption | omega) (by first | decide | with_reducible assumption | omega) fr5
  refine E_al rfl L2_0 ?_
  have V2 : RV (pt (pt (pt (pt h0 87 ((3 * (gn h0 84 5))) (nJ kd)) 87 (((3 * (gn h0 84 5)) + 1)) (nJ c)) 87 (((3 * (gn h0 84 5)) + 2)) (nJ x)) 84 5 (nJ (((gn h0 84 5) + 1)))) := RV_act hh0 hV rfl hK (gn_ptn hh5 rfl (by first | decide | with_reducible assumption | omega) (by first | decide | with_reducible assumption | omega) (by first | decide | with_reducible assumption | omega)) (fun k hk => by rw [gn_ne (fun _ => hk), gn_ne (by first | exact gxx rfl | omega), gn_ne (by first | exact gxx rfl | omega), gn_ne (by first | exact gxx rfl | omega)]) (fun k => by rw [gn_ne (by first | exact gxx rfl | omega), gn_ne (by first | exact gxx rfl | omega), gn_ne (by first | exact gxx rfl | omega), gn_ne (by first | exact gxx rfl | omega)]) (kd := kd) (c := c) (x := x) (by rw [gn_ne (by first | exact gxx rfl | omega), gn_ne (by first | exact gxx rfl | omega), gn_ne (by first | exact gxx rfl | omega), gn_ptn hh0 (bd_87a (by first | decide | with_reducible assumption | omega) (by first | decide | with_reducible assumption | omega)) (by first | decide | with_reducible assumption | omega) (by first | decide | with_reducible assumption | omega) (by first | decide | with_reducible assumption | omega)]) (by rw [gn_ne (by first | exact gxx rfl | omega), gn_ne (by first | exact gxx rfl | omega), gn_ptn hh3 (bd_87b (by first | decide | with_reducible assumption | omega) (by first | decide | with_reducible assumption | omega)) (by first | decide | with_reducible assumption | omega) (by first | decide | with_reducible assumption | omega) (by first | decide | with_reducible assumption | omega)]) (by rw [gn_ne (by first | exact gxx rfl | omega), gn_ptn hh4 (bd_87c (by first | decide | with_reducible assumption | omega) (by first | decide | with_reducible assumption | omega)) (by first | decide | with_reducible assumption | omega) (by first | decide | with_reducible assumption | omega) (by first | decide | with_reducible assumption | omega)]) (fun k k1 k2 k3 => by rw [gn_ne (by first | exact gxx rfl | omega), gn_ne (fun _ => k3), gn_ne (fun _ => k2), gn_ne (fun _ => k1)]) hcond
  refine E_call rfl (Sp_le (by first | exact Nat.add_le_add_left (Nat.le_of_ble_eq_true rfl) _ | exact Nat.le_of_ble_eq_true rfl | omega) (Sp_sum (as := [.ref 77]) q150 hh6 ⟨rfl, trivial⟩ (fun _ hq => absurd hq List.not_mem_nil) (fun i hi => by rw [List.mem_singleton.mp hi]; exact FAg_fact hh6 (V2.2 0 (by first | decide | with_reducible assumption | omega))))) (chk77 hh6 rfl rfl (by show 0 ≤ 8; decide)) (fun h7 r7 => ?_)
  rintro ⟨hh7, fq7, C7, hC7, -, -, -, rv7⟩
  have e7 : r7 = none := by have e := List.mem_singleton.mp hC7; subst e; cases r7 with | none => rfl | some v => exact rv7.elim
  rw [e7]
  have fr7 : fr_g VM h0 h7 := fr_trans fr6 (fr_wk rfl fq7)
  have V7 : RV h7 := RV_fr hh6 rfl fq7 V2
  show Ends _ _ (52, lv2, [], h7, 0, 0) _
  refine E_al rfl L2_0 ?_
  have b8 : gn h7 77 27 ≤ 255 := gn_hi hh7 rfl (by decide)
  refine E_gf rfl hh7 rfl (gi_gn hh7 rfl (by decide)) ?_
  refine E_call rfl (Sp_le (by first | exact Nat.add_le_add_left (Nat.le_of_ble_eq_true rfl) _ | exact Nat.le_of_ble_eq_true rfl | omega) (Sp_sum (as := [.int (nJ ((gn h7 77 27)))]) q616 hh7 ⟨nJ_in (by first | decide | with_reducible assumption | omega) (by first | decide | with_reducible assumption | omega), trivial⟩ (fun _ hq => absurd hq List.not_mem_nil) (fun _ hq => absurd hq List.not_mem_nil))) (chkS rfl (by show 0 ≤ 8; decide)) (fun h9 r9 => ?_)
  rintro ⟨hh9, fq9, C9, hC9, -, -, -, rv9⟩
  have hC9 : C9 ∈ [([cI 3 255], [], [], some (.inl (cI 2 8))), ([cI 1 128], [], [], some (.inl (cI 1 1))), ([cI 0 0], [], [], some (.inl (cI 0 0)))] := hC9
  obtain ⟨x9, f9⟩ : ∃ x : Int32, r9 = some (.int x) := by
    rcases List.mem_cons.mp hC9 with e | e
    · subst e; exact rv_ci rv9
    · rcases List.mem_cons.mp e with e | e
      · subst e; exact rv_ci rv9
      · have e := List.mem_singleton.mp e; subst e; exact rv_ci rv9
  rw [f9]
  have fr9 : fr_g VM h0 h9 := fr_trans fr7 (fr_wk rfl fq9)
  have V9 : RV h9 := RV_fr hh7 rfl fq9 V7
  show Ends _ _ (59, lv2, [.int x9], h9, 0, 0) _
  refine E_rti rfl ⟨⟨hh9, fr9, V9, _, rfl⟩, ?_, ?_⟩
  · intro a k hak
    rcases hak with rfl | rfl | ⟨rfl, hk⟩
    · rw [fr_gi fq9 (rg_no rfl _), fr_gi fq7 (rg_no rfl _), gi_ne (by first | exact gxx rfl | omega), gi_ne (by first | exact gxx rfl | omega), gi_ne (by first | exact gxx rfl | omega), gi_ne (by first | exact gxx rfl | omega)]
    · rw [fr_gi fq9 (rg_no rfl _), fr_gi fq7 (rg_no rfl _), gi_ne (by first | exact gxx rfl | omega), gi_ne (by first | exact gxx rfl | omega), gi_ne (by first | exact gxx rfl | omega), gi_ne (by first | exact gxx rfl | omega)]
    · rw [fr_gi fq9 (rg_no rfl _), fr_gi fq7 (rg_no rfl _), gi_ne (fun _ => hk), gi_ne (by first | exact gxx rfl | omega), gi_ne (by first | exact gxx rfl | omega), gi_ne (by first | exact gxx rfl | omega)]
  · rw [fr_gi fq9 (rg_no rfl _), fr_gi fq7 (rg_no rfl _)]
    exact gi_ptn hh5 rfl (by first | decide | with_reducible assumption | omega) (by first | decide | with_reducible assumption | omega) (by first | decide | with_reducible assumption | omega)
theorem wn_no {a : Nat} {ok : Bool} (e : ok = false) : wna ok a = a := by rw [e]; rfl
theorem wn_full {ok : Bool} : wna ok 20 = 20 := by cases ok <;> rfl
theorem wn_yes {a : Nat} {ok : Bool} (e : ok = true) (h : a < 20) : wna ok a = a + 1 := by
  rw [e]
  show (if a < 20 then a + 1 else a) = a + 1
  rw [if_pos h]
theorem pg5 {h0 : pm_H} (hh0 : HH h0) : gi (pt h0 77 0 (nJ 0)) 84 5 = nJ (gn h0 84 5) := by
  rw [gi_ne (by first | exact gxx rfl | omega)]
  exact (g84 hh0).1
theorem bif_no {p q : Bool} (h : ¬ (p = true ∧ q = true)) : (bif p then q else false) = false := by
  cases p <;> cases q <;> simp_all
theorem bif_ye {p q : Bool} (h1 : p = true) (h2 : q = true) : (bif p then q else false) = true := by
  rw [h1, h2]; rfl
section WT9
variable {h0 : pm_H} {x y : Int32}
theorem wnW (hh0 : HH h0) (h : ¬ (0 ≤ x.toInt ∧ x.toInt ≤ (gn (pt h0 77 0 (nJ 0)) 84 3 : Int) - 1) ∨ ¬ (0 < (gi (pt h0 77 0 (nJ 0)) 83 0).toInt ∧ 1 ≤ y.toInt ∧ y.toInt ≤ (gn (pt h0 77 0 (nJ 0)) 84 0 : Int))) : gi (pt h0 77 0 (nJ 0)) 84 5 = nJ (wna (bif decide (0 < (gi h0 83 0).toInt) then okW (gn h0 84 3) (gn h0 84 0) x y else false) (gn h0 84 5)) := by
  have e1 : gn (pt h0 77 0 (nJ 0)) 84 3 = gn h0 84 3 := gn_ne (by first | exact gxx rfl | omega)
  have e2 : gn (pt h0 77 0 (nJ 0)) 84 0 = gn h0 84 0 := gn_ne (by first | exact gxx rfl | omega)
  have e3 : gi (pt h0 77 0 (nJ 0)) 83 0 = gi h0 83 0 := gi_ne (by first | exact gxx rfl | omega)
  rw [e1, e2, e3] at h
  rw [wn_no (bif_no (fun q => ?_)), pg5 hh0]
  have q1 := of_decide_eq_true q.1
  have q2 : (0 ≤ x.toInt ∧ x.toInt < (gn h0 84 3 : Int)) ∧ 1 ≤ y.toInt ∧ y.toInt ≤ (gn h0 84 0 : Int) := of_decide_eq_true q.2
  omega
theorem wnT (hh0 : HH h0) (h : ¬ ((0 ≤ x.toInt ∧ x.toInt ≤ (gn (pt h0 77 0 (nJ 0)) 84 3 : Int) - 1) ∧ (0 ≤ y.toInt ∧ y.toInt ≤ (gn (pt h0 77 0 (nJ 0)) 84 3 : Int) - 1) ∧ ¬ x = y)) : gi (pt h0 77 0 (nJ 0)) 84 5 = nJ (wna (okT (gn h0 84 3) x y) (gn h0 84 5)) := by
  have e1 : gn (pt h0 77 0 (nJ 0)) 84 3 = gn h0 84 3 := gn_ne (by first | exact gxx rfl | omega)
  rw [e1] at h
  have ek : okT (gn h0 84 3) x y = false := decide_eq_false (fun q => h ⟨by omega, by omega, q.2.2⟩)
  rw [wn_no ek, pg5 hh0]
theorem wnF {ok : Bool} (hh0 : HH h0) (h : ¬ ¬ gn (pt h0 77 0 (nJ 0)) 84 5 = 20) : gi (pt h0 77 0 (nJ 0)) 84 5 = nJ (wna ok (gn h0 84 5)) := by
  have e1 : gn (pt h0 77 0 (nJ 0)) 84 5 = gn h0 84 5 := gn_ne (by first | exact gxx rfl | omega)
  rw [e1] at h
  rw [pg5 hh0, Classical.not_not.mp h, wn_full]
theorem wnY {ok : Bool} {h8 : pm_H} (hh0 : HH h0) (h : ¬ gn (pt h0 77 0 (nJ 0)) 84 5 = 20) (n8 : gi h8 84 5 = nJ (gn (pt h0 77 0 (nJ 0)) 84 5 + 1)) (e : ok = true) : gi h8 84 5 = nJ (wna ok (gn h0 84 5)) := by
  have e1 : gn (pt h0 77 0 (nJ 0)) 84 5 = gn h0 84 5 := gn_ne (by first | exact gxx rfl | omega)
  have b := (g84 hh0).2.1
  rw [e1] at h n8
  rw [n8, wn_yes e (by first | decide | with_reducible assumption | omega)]
end WT9
theorem tv_wantsE {h0 : pm_H} {d : Nat} {x y : Int32} (hh0 : HH h0) (hV : RV h0) : Sp (d + 40) 370 h0 [.ref 77, .int x, .int y] (fun h' r => VQ h0 h' r ∧ SAM h0 h' ∧ gi h' 84 5 = nJ (wna (bif decide (0 < (gi h0 83 0).toInt) then okW (gn h0 84 3) (gn h0 84 0) x y else false) (gn h0 84 5))) := by
  refine Sp_of aiX9_wants rfl rfl rfl ?_
  have L0 : pm_get (lv_args 0 [.ref 77, .int x, .int y]) 0 = some (.ref 77) := rfl
  have L1 : pm_get (lv_args 0 [.ref 77, .int x, .int y]) 1 = some (.int x) := rfl
  have L2 : pm_get (lv_args 0 [.ref 77, .int x, .int y]) 2 = some (.int y) := rfl
  generalize lv_args 0 [.ref 77, .int x, .int y] = lv at L0 L1 L2 ⊢
  refine E_al rfl L0 ?_
  refine E_ci 0 rfl ci0 ?_
  refine E_pf rfl hh0 rfl ?_
  have hh1 : HH (pt h0 77 0 (nJ 0)) := HH_ptn hh0 rfl (by first | decide | with_reducible assumption | omega) (by first | decide | with_reducible assumption | omega) (by first | decide | with_reducible assumption | omega)
  have fr1 : fr_g VM h0 (pt h0 77 0 (nJ 0)) := fr_ptr (l := 0) (u := 0) rfl (by first | decide | with_reducible assumption | omega) (by first | decide | with_reducible assumption | omega) (fr_rf VM h0)
  have V0 : RV (pt h0 77 0 (nJ 0)) := RV_fr hh0 (M := [(77, 0, 0)]) rfl (fr_ptr (l := 0) (u := 0) rfl (by first | decide | with_reducible assumption | omega) (by first | decide | with_reducible assumption | omega) (fr_rf _ _)) hV
  refine E_al rfl L0 ?_
  refine E_il rfl L1 ?_
  refine E_i2l rfl ?_
  refine E_call rfl (sp_isCar hh1) (chk77 hh1 rfl rfl (by show 0 ≤ 8; decide)) (fun h2 r2 => ?_)
  rintro ⟨e2, f2⟩
  rw [e2, f2]
  show Ends _ _ (11, lv, [.int (zb (0 ≤ x.toInt ∧ x.toInt ≤ (gn (pt h0 77 0 (nJ 0)) 84 3 : Int) - 1))], (pt h0 77 0 (nJ 0)), 0, 0) _
  by_cases hb3 : ¬ (0 ≤ x.toInt ∧ x.toInt ≤ (gn (pt h0 77 0 (nJ 0)) 84 3 : Int) - 1)
  · refine E_ifT rfl (by rw [zb_F hb3]; rfl) ?_
    refine E_c rfl ?_
    exact E_rti rfl ⟨⟨hh1, fr1, V0, _, rfl⟩, fun a k hak => gi_ne (by first | exact gxx rfl | omega), wnW hh0 (.inl hb3)⟩
  · refine E_ifF rfl (by rw [zb_T (Classical.not_not.mp hb3)]; rfl) ?_
    have hcar := Classical.not_not.mp hb3
    refine E_al rfl L0 ?_
    refine E_il rfl L2 ?_
    refine E_call rfl (Sp_le (by first | exact Nat.add_le_add_left (Nat.le_of_ble_eq_true rfl) _ | exact Nat.le_of_ble_eq_true rfl | omega) (sp_isPlace (d := 0) hh1)) (chk77 hh1 rfl rfl (by show 0 ≤ 8; decide)) (fun h4 r4 => ?_)
    rintro ⟨e4, f4⟩
    rw [e4, f4]
    show Ends _ _ (19, lv, [.int (zb (0 < (gi (pt h0 77 0 (nJ 0)) 83 0).toInt ∧ 1 ≤ y.toInt ∧ y.toInt ≤ (gn (pt h0 77 0 (nJ 0)) 84 0 : Int)))], (pt h0 77 0 (nJ 0)), 0, 0) _
    by_cases hb5 : 0 < (gi (pt h0 77 0 (nJ 0)) 83 0).toInt ∧ 1 ≤ y.toInt ∧ y.toInt ≤ (gn (pt h0 77 0 (nJ 0)) 84 0 : Int)
    · refine E_ifT rfl (by rw [zb_T hb5]; rfl) ?_
      have hC8 : gn (pt h0 77 0 (nJ 0)) 84 3 ≤ 8 := gn_hi hh1 rfl (by decide)
      have hP8 : gn (pt h0 77 0 (nJ 0)) 84 0 ≤ 8 := gn_hi hh1 rfl (by decide)
      obtain ⟨k, hk, rfl⟩ := nJ_of2 (n := gn (pt h0 77 0 (nJ 0)) 84 3 - 1) hcar.1 (by have := hcar.2; have := hcar.1; omega)
      obtain ⟨p, hp, rfl⟩ := nJ_of2 (n := gn (pt h0 77 0 (nJ 0)) 84 0) (x := y) (by have := hb5.2.1; omega) hb5.2.2
      have hp1 : 1 ≤ p := by have h9 := hb5.2.1; rw [nJ_toInt (by first | decide | with_reducible assumption | omega)] at h9; omega
      refine E_al rfl L0 ?_
      refine E_gr rfl hh1 (q := 84) rfl ?_
      refine E_ci 5 rfl ci5 ?_
      have b6 : gn (pt h0 77 0 (nJ 0)) 84 5 ≤ 20 := gn_hi hh1 rfl (by decide)
      refine E_ial rfl hh1 rfl (by first | decide | with_reducible assumption | omega) (by decide) (gi_gn hh1 rfl (by decide)) ?_
      refine E_ci 20 rfl ci20 ?_
      by_cases hb7 : ¬ (gn (pt h0 77 0 (nJ 0)) 84 5) = 20
      · refine E_icT rfl (decide_eq_true (fun q => hb7 ((nJ_eq (by first | decide | with_reducible assumption | omega) (by first | decide | with_reducible assumption | omega)).mp q))) ?_
        refine E_al rfl L0 ?_
        refine E_ci 0 rfl ci0 ?_
        refine E_il rfl L1 ?_
        refine E_il rfl L2 ?_
        refine E_call rfl (Sp_le (by first | exact Nat.add_le_add_left (Nat.le_of_ble_eq_true rfl) _ | exact Nat.le_of_ble_eq_true rfl | omega) (sp_doesE (d := 0) hh1 V0 (by first | decide | with_reducible assumption | omega) (by first | decide | with_reducible assumption | omega) (by first | decide | with_reducible assumption | omega) (by first | decide | with_reducible assumption | omega) (by first | decide | with_reducible assumption | omega))) (chk77 hh1 rfl rfl (by show 0 ≤ 8; decide)) (fun h8 r8 => ?_)
        rintro ⟨⟨hh8, fq8, V8, x8, f8⟩, m8, n8⟩
        rw [f8]
        have fr8 : fr_g VM h0 h8 := fr_trans fr1 fq8
        show Ends _ _ (48, lv, [.int x8], h8, 0, 0) _
        exact E_rti rfl ⟨⟨hh8, fr8, V8, _, rfl⟩, fun a k hak => by rw [m8 a k hak]; exact gi_ne (by first | exact gxx rfl | omega), wnY hh0 hb7 n8 (bif_ye (decide_eq_true (show 0 < (gi h0 83 0).toInt by have := hb5.1; rw [gi_ne (by first | exact gxx rfl | omega)] at this; exact this)) (decide_eq_true (by have e1 : gn (pt h0 77 0 (nJ 0)) 84 3 = gn h0 84 3 := gn_ne (by first | exact gxx rfl | omega); have e2 : gn (pt h0 77 0 (nJ 0)) 84 0 = gn h0 84 0 := gn_ne (by first | exact gxx rfl | omega); have q5 := hb5.2; rw [e1] at hcar; rw [e2] at q5; exact ⟨⟨hcar.1, by omega⟩, q5⟩)))⟩
      · refine E_icF rfl (decide_eq_false (fun q => hb7 (fun z => q ((nJ_eq (by first | decide | with_reducible assumption | omega) (by first | decide | with_reducible assumption | omega)).mpr z)))) ?_
        refine E_c rfl ?_
        refine E_goto rfl ?_
        exact E_rti rfl ⟨⟨hh1, fr1, V0, _, rfl⟩, fun a k hak => gi_ne (by first | exact gxx rfl | omega), wnF hh0 hb7⟩
    · refine E_ifF rfl (by rw [zb_F hb5]; rfl) ?_
      refine E_c rfl ?_
      exact E_rti rfl ⟨⟨hh1, fr1, V0, _, rfl⟩, fun a k hak => gi_ne (by first | exact gxx rfl | omega), wnW hh0 (.inr hb5)⟩
theorem tv_tradesE {h0 : pm_H} {d : Nat} {x y : Int32} (hh0 : HH h0) (hV : RV h0) : Sp (d + 40) 362 h0 [.ref 77, .int x, .int y] (fun h' r => VQ h0 h' r ∧ SAM h0 h' ∧ gi h' 84 5 = nJ (wna (okT (gn h0 84 3) x y) (gn h0 84 5))) := by
  refine Sp_of aiX9_trades rfl rfl rfl ?_
  have L0 : pm_get (lv_args 0 [.ref 77, .int x, .int y]) 0 = some (.ref 77) := rfl
  have L1 : pm_get (lv_args 0 [.ref 77, .int x, .int y]) 1 = some (.int x) := rfl
  have L2 : pm_get (lv_args 0 [.ref 77, .int x, .int y]) 2 = some (.int y) := rfl
  generalize lv_args 0 [.ref 77, .int x, .int y] = lv at L0 L1 L2 ⊢
  refine E_al rfl L0 ?_
  refine E_ci 0 rfl ci0 ?_
  refine E_pf rfl hh0 rfl ?_
  have hh1 : HH (pt h0 77 0 (nJ 0)) := HH_ptn hh0 rfl (by first | decide | with_reducible assumption | omega) (by first | decide | with_reducible assumption | omega) (by first | decide | with_reducible assumption | omega)
  have fr1 : fr_g VM h0 (pt h0 77 0 (nJ 0)) := fr_ptr (l := 0) (u := 0) rfl (by first | decide | with_reducible assumption | omega) (by first | decide | with_reducible assumption | omega) (fr_rf VM h0)
  have V0 : RV (pt h0 77 0 (nJ 0)) := RV_fr hh0 (M := [(77, 0, 0)]) rfl (fr_ptr (l := 0) (u := 0) rfl (by first | decide | with_reducible assumption | omega) (by first | decide | with_reducible assumption | omega) (fr_rf _ _)) hV
  refine E_al rfl L0 ?_
  refine E_il rfl L1 ?_
  refine E_il rfl L2 ?_
  refine E_call rfl (Sp_le (by first | exact Nat.add_le_add_left (Nat.le_of_ble_eq_true rfl) _ | exact Nat.le_of_ble_eq_true rfl | omega) (sp_areTwo (d := 0) hh1)) (chk77 hh1 rfl rfl (by show 0 ≤ 8; decide)) (fun h2 r2 => ?_)
  rintro ⟨e2, f2⟩
  rw [e2, f2]
  show Ends _ _ (11, lv, [.int (zb ((0 ≤ x.toInt ∧ x.toInt ≤ (gn (pt h0 77 0 (nJ 0)) 84 3 : Int) - 1) ∧ (0 ≤ y.toInt ∧ y.toInt ≤ (gn (pt h0 77 0 (nJ 0)) 84 3 : Int) - 1) ∧ ¬ x = y))], (pt h0 77 0 (nJ 0)), 0, 0) _
  by_cases hb3 : (0 ≤ x.toInt ∧ x.toInt ≤ (gn (pt h0 77 0 (nJ 0)) 84 3 : Int) - 1) ∧ (0 ≤ y.toInt ∧ y.toInt ≤ (gn (pt h0 77 0 (nJ 0)) 84 3 : Int) - 1) ∧ ¬ x = y
  · refine E_ifT rfl (by rw [zb_T hb3]; rfl) ?_
    have hC8 : gn (pt h0 77 0 (nJ 0)) 84 3 ≤ 8 := gn_hi hh1 rfl (by decide)
    obtain ⟨qa, qb, qn⟩ := id hb3
    obtain ⟨k, hk, rfl⟩ := nJ_of2 (n := gn (pt h0 77 0 (nJ 0)) 84 3 - 1) qa.1 (by have := qa.2; have := qa.1; omega)
    obtain ⟨p, hp, rfl⟩ := nJ_of2 (n := gn (pt h0 77 0 (nJ 0)) 84 3 - 1) (x := y) qb.1 (by have := qb.2; have := qb.1; omega)
    have hc1 : 1 ≤ gn (pt h0 77 0 (nJ 0)) 84 3 := by have := qa.1; have := qa.2; omega
    refine E_al rfl L0 ?_
    refine E_gr rfl hh1 (q := 84) rfl ?_
    refine E_ci 5 rfl ci5 ?_
    have b4 : gn (pt h0 77 0 (nJ 0)) 84 5 ≤ 20 := gn_hi hh1 rfl (by decide)
    refine E_ial rfl hh1 rfl (by first | decide | with_reducible assumption | omega) (by decide) (gi_gn hh1 rfl (by decide)) ?_
    refine E_ci 20 rfl ci20 ?_
    by_cases hb5 : ¬ (gn (pt h0 77 0 (nJ 0)) 84 5) = 20
    · refine E_icT rfl (decide_eq_true (fun q => hb5 ((nJ_eq (by first | decide | with_reducible assumption | omega) (by first | decide | with_reducible assumption | omega)).mp q))) ?_
      refine E_al rfl L0 ?_
      refine E_ci 1 rfl ci1 ?_
      refine E_il rfl L1 ?_
      refine E_il rfl L2 ?_
      refine E_call rfl (Sp_le (by first | exact Nat.add_le_add_left (Nat.le_of_ble_eq_true rfl) _ | exact Nat.le_of_ble_eq_true rfl | omega) (sp_doesE (d := 0) hh1 V0 (by first | decide | with_reducible assumption | omega) (by first | decide | with_reducible assumption | omega) (by first | decide | with_reducible assumption | omega) (by first | decide | with_reducible assumption | omega) (by first | decide | with_reducible assumption | omega))) (chk77 hh1 rfl rfl (by show 0 ≤ 8; decide)) (fun h6 r6 => ?_)
      rintro ⟨⟨hh6, fq6, V6, x6, f6⟩, m8, n8⟩
      rw [f6]
      have fr6 : fr_g VM h0 h6 := fr_trans fr1 fq6
      show Ends _ _ (40, lv, [.int x6], h6, 0, 0) _
      exact E_rti rfl ⟨⟨hh6, fr6, V6, _, rfl⟩, fun a k hak => by rw [m8 a k hak]; exact gi_ne (by first | exact gxx rfl | omega), wnY hh0 hb5 n8 (decide_eq_true (by have e1 : gn (pt h0 77 0 (nJ 0)) 84 3 = gn h0 84 3 := gn_ne (by first | exact gxx rfl | omega); have q3 := hb3; rw [e1] at q3; exact ⟨⟨q3.1.1, by omega⟩, ⟨q3.2.1.1, by omega⟩, q3.2.2⟩))⟩
    · refine E_icF rfl (decide_eq_false (fun q => hb5 (fun z => q ((nJ_eq (by first | decide | with_reducible assumption | omega) (by first | decide | with_reducible assumption | omega)).mpr z)))) ?_
      refine E_c rfl ?_
      refine E_goto rfl ?_
      exact E_rti rfl ⟨⟨hh1, fr1, V0, _, rfl⟩, fun a k hak => gi_ne (by first | exact gxx rfl | omega), wnF hh0 hb5⟩
  · refine E_ifF rfl (by rw [zb_F hb3]; rfl) ?_
    refine E_c rfl ?_
    exact E_rti rfl ⟨⟨hh1, fr1, V0, _, rfl⟩, fun a k hak => gi_ne (by first | exact gxx rfl | omega), wnT hh0 hb3⟩
end
section
/-! count of both; image and back of both, exactly (written by gen_t59.py; wants t32, t52 with all pairs, t53) -/
noncomputable def sct (f : Nat → Int32) : Nat → Nat
  | 0 => 0
  | n + 1 => sct f n + (if f n = 0 then 0 else 1)
theorem sct_eq {f g : Nat → Int32} : ∀ {n : Nat}, (∀ i, i < n → f i = g i) → sct f n = sct g n
  | 0, _ => rfl
  | n + 1, e => by
    show sct f n + (if f n = 0 then 0 else 1) = sct g n + (if g n = 0 then 0 else 1)
    rw [sct_eq (fun i hi => e i (Nat.lt_succ_of_lt hi)), e n (Nat.lt_succ_self n)]
noncomputable def cnv (f : Nat → Int32) (v : Int32) : Int32 := if 0 ≤ v.toInt ∧ v.toInt ≤ 8 then f v.toInt.toNat else -1
theorem cnv_in {f : Nat → Int32} {k : Nat} (hk : k ≤ 8) : cnv f (nJ k) = f k := by
  have e := nJ_toInt (n := k) (by first | decide | with_reducible assumption | omega)
  unfold cnv
  rw [if_pos (by first | decide | with_reducible assumption | omega), e]
  rfl
theorem cnv_eq {f g : Nat → Int32} {v : Int32} (e : ∀ k, k ≤ 8 → f k = g k) : cnv f v = cnv g v := by
  unfold cnv
  by_cases q : 0 ≤ v.toInt ∧ v.toInt ≤ 8
  · rw [if_pos q, if_pos q, e _ (by first | decide | with_reducible assumption | omega)]
  · rw [if_neg q, if_neg q]
noncomputable def c8f (h : pm_H) : Nat → Int32
  | 0 => gi h 15 0
  | 1 => gi h 15 1
  | 2 => gi h 15 2
  | 3 => gi h 15 4
  | 4 => gi h 15 5
  | 5 => gi h 15 6
  | 6 => gi h 15 3
  | 7 => gi h 1 1
  | _ => nJ (sct (cf h) 4)
noncomputable def c9f (h : pm_H) : Nat → Int32
  | 0 => gi h 84 0
  | 1 => gi h 84 1
  | 2 => gi h 84 2
  | 3 => gi h 84 3
  | 4 => gi h 84 4
  | 5 => gi h 84 5
  | 6 => gi h 83 0
  | 7 => gi h 77 6
  | _ => nJ (sct (rf h) 4)
section CNT
variable {h : pm_H} {d : Nat} {v : Int32}
theorem sw_loop (hh : HH h) (j : Nat) : ∀ {i : Nat} (lv : List (Nat × Value)), i + j = 4 → pm_get lv 0 = some (.ref 0) → pm_get lv 1 = some (.int (nJ (sct (cf h) i))) → pm_get lv 2 = some (.int (nJ i)) → Ends (pm_at tX8_slotsWithRows) (pm_Rt pm_P d) (4, lv, [], h, 0, 0) (fun h' r => h' = h ∧ r = some (.int (nJ (sct (cf h) 4)))) := by
  induction j with
  | zero =>
    intro i lv hj L0 L1 L2
    have e : i = 4 := by omega
    subst e
    refine E_il rfl L2 ?_
    refine E_ci 4 rfl ci4 ?_
    refine E_icT rfl (decide_eq_true ((nJ_le (by first | decide | with_reducible assumption | omega) (by first | decide | with_reducible assumption | omega)).mpr (by first | decide | with_reducible assumption | omega))) ?_
    refine E_il rfl L1 ?_
    exact E_rti rfl ⟨rfl, rfl⟩
  | succ j ih =>
    intro i lv hj L0 L1 L2
    obtain ⟨S1, S2, S3, S4, S5, S6⟩ := isS_at i (by first | decide | with_reducible assumption | omega)
    refine E_il rfl L2 ?_
    refine E_ci 4 rfl ci4 ?_
    refine E_icF rfl (decide_eq_false (fun q => absurd ((nJ_le (by first | decide | with_reducible assumption | omega) (by first | decide | with_reducible assumption | omega)).mp q) (by first | decide | with_reducible assumption | omega))) ?_
    refine E_al rfl L0 ?_
    refine E_ogr rfl hh rfl (q := 53) rfl ?_
    refine E_il rfl L2 ?_
    refine E_aal rfl hh rfl (slot_at i (by first | decide | with_reducible assumption | omega)) (by decide) ?_
    refine E_ogf rfl hh S1 S4 rfl ?_
    have es : sct (cf h) (i + 1) = sct (cf h) i + (if gi h (54 + 2 * i) 1 = 0 then 0 else 1) := rfl
    by_cases b : gi h (54 + 2 * i) 1 = 0
    · rw [if_pos b] at es
      refine E_ifT rfl (decide_eq_true b) ?_
      refine E_inc rfl L2 (nJ_inc _) (fun lv1 K2 kp => ?_)
      refine E_goto rfl ?_
      exact ih lv1 (i := i + 1) (by first | decide | with_reducible assumption | omega) (kp 0 _ (nbz rfl) rfl L0) (by rw [es]; exact kp 1 _ (nbz rfl) rfl L1) K2
    · rw [if_neg b] at es
      refine E_ifF rfl (decide_eq_false b) ?_
      refine E_inc rfl L1 (nJ_inc _) (fun lv1 K1 kp1 => ?_)
      refine E_inc rfl (kp1 2 _ (nbz rfl) rfl L2) (nJ_inc _) (fun lv2 K2 kp => ?_)
      refine E_goto rfl ?_
      exact ih lv2 (i := i + 1) (by first | decide | with_reducible assumption | omega) (kp 0 _ (nbz rfl) rfl (kp1 0 _ (nbz rfl) rfl L0)) (by rw [es]; exact kp 1 _ (nbz rfl) rfl K1) K2
theorem sp_slotsRows (hh : HH h) : Sp (d + 1) 181 h [.ref 0] (fun h' r => h' = h ∧ r = some (.int (nJ (sct (cf h) 4)))) := by
  refine Sp_of aiX8_slotsWithRows rfl rfl rfl ?_
  have L0 : pm_get (lv_args 0 [.ref 0]) 0 = some (.ref 0) := rfl
  generalize lv_args 0 [.ref 0] = lv at L0 ⊢
  refine E_ci 0 rfl ci0 ?_
  refine E_is rfl (fun lv1 K1 kp1 => ?_)
  refine E_ci 0 rfl ci0 ?_
  refine E_is rfl (fun lv2 K2 kp2 => ?_)
  exact sw_loop hh 4 (i := 0) lv2 (by first | decide | with_reducible assumption | omega) (kp2 0 _ (nbz rfl) rfl (kp1 0 _ (nbz rfl) rfl L0)) (kp2 1 _ (nbz rfl) rfl K1) K2
theorem sp_count8 (hh : HH h) : Sp (d + 2) 93 h [.ref 0, .int v] (fun _ r => r = some (.int (cnv (c8f h) v))) := by
  refine Sp_of aiX8_count rfl rfl rfl ?_
  have L0 : pm_get (lv_args 0 [.ref 0, .int v]) 0 = some (.ref 0) := rfl
  have L1 : pm_get (lv_args 0 [.ref 0, .int v]) 1 = some (.int v) := rfl
  generalize lv_args 0 [.ref 0, .int v] = lv at L0 L1 ⊢
  refine E_il rfl L1 ?_
  by_cases q : 0 ≤ v.toInt ∧ v.toInt ≤ 8
  · obtain ⟨k, hk, rfl⟩ := nJ_of2 (n := 8) q.1 q.2
    rw [cnv_in hk]
    match k, hk with
    | 0, _ =>
      refine E_tsA (t := 52) rfl (by decide) (by decide) ?_
      refine E_al rfl L0 ?_
      refine E_ogr (q := 15) rfl hh rfl rfl ?_
      refine E_ogf (q := (0, 8)) rfl hh rfl rfl rfl ?_
      exact E_rti rfl rfl
    | 1, _ =>
      refine E_tsA (t := 60) rfl (by decide) (by decide) ?_
      refine E_al rfl L0 ?_
      refine E_ogr (q := 15) rfl hh rfl rfl ?_
      refine E_ogf (q := (0, 3)) rfl hh rfl rfl rfl ?_
      exact E_rti rfl rfl
    | 2, _ =>
      refine E_tsA (t := 68) rfl (by decide) (by decide) ?_
      refine E_al rfl L0 ?_
      refine E_ogr (q := 15) rfl hh rfl rfl ?_
      refine E_ogf (q := (0, 10)) rfl hh rfl rfl rfl ?_
      exact E_rti rfl rfl
    | 3, _ =>
      refine E_tsA (t := 76) rfl (by decide) (by decide) ?_
      refine E_al rfl L0 ?_
      refine E_ogr (q := 15) rfl hh rfl rfl ?_
      refine E_ogf (q := (0, 8)) rfl hh rfl rfl rfl ?_
      exact E_rti rfl rfl
    | 4, _ =>
      refine E_tsA (t := 84) rfl (by decide) (by decide) ?_
      refine E_al rfl L0 ?_
      refine E_ogr (q := 15) rfl hh rfl rfl ?_
      refine E_ogf (q := (0, 8)) rfl hh rfl rfl rfl ?_
      exact E_rti rfl rfl
    | 5, _ =>
      refine E_tsA (t := 92) rfl (by decide) (by decide) ?_
      refine E_al rfl L0 ?_
      refine E_ogr (q := 15) rfl hh rfl rfl ?_
      refine E_ogf (q := (0, 20)) rfl hh rfl rfl rfl ?_
      exact E_rti rfl rfl
    | 6, _ =>
      refine E_tsA (t := 100) rfl (by decide) (by decide) ?_
      refine E_al rfl L0 ?_
      refine E_ogr (q := 15) rfl hh rfl rfl ?_
      refine E_ogf (q := ((-2147483648), 2147483647)) rfl hh rfl rfl rfl ?_
      exact E_rti rfl rfl
    | 7, _ =>
      refine E_tsA (t := 108) rfl (by decide) (by decide) ?_
      refine E_al rfl L0 ?_
      refine E_ogr (q := 1) rfl hh rfl rfl ?_
      refine E_ogf (q := (0, 500)) rfl hh rfl rfl rfl ?_
      exact E_rti rfl rfl
    | 8, _ =>
      refine E_tsA (t := 116) rfl (by decide) (by decide) ?_
      refine E_al rfl L0 ?_
      refine E_call rfl (sp_slotsRows (d := d) hh) (chkO (a := 0) hh rfl rfl rfl rfl (by show 0 ≤ 8; decide)) (fun h1 r1 => ?_)
      rintro ⟨e1, f1⟩
      rw [e1, f1]
      exact E_rti rfl rfl
  · refine E_tsD rfl (by rw [Bool.or_eq_true, decide_eq_true_iff, decide_eq_true_iff]; omega) ?_
    refine E_c rfl ?_
    exact E_rti rfl (by unfold cnv; rw [if_neg q])
theorem cw_loop {h0 : pm_H} (hh : HH h) (e78 : ∀ s, gi h 78 s = gi h0 78 s) (j : Nat) : ∀ {i : Nat} (lv : List (Nat × Value)), i + j = 4 → pm_get lv 0 = some (.ref 77) → pm_get lv 2 = some (.int (nJ (sct (rf h0) i))) → pm_get lv 3 = some (.int (nJ i)) → Ends (pm_at tX9_count) (pm_Rt pm_P d) (66, lv, [], h, 0, 0) (fun _ r => r = some (.int (nJ (sct (rf h0) 4)))) := by
  induction j with
  | zero =>
    intro i lv hj L0 L2 L3
    have e : i = 4 := by omega
    subst e
    refine E_il rfl L3 ?_
    refine E_ci 4 rfl ci4 ?_
    refine E_icT rfl (decide_eq_true ((nJ_le (by first | decide | with_reducible assumption | omega) (by first | decide | with_reducible assumption | omega)).mpr (by first | decide | with_reducible assumption | omega))) ?_
    refine E_il rfl L2 ?_
    exact E_rti rfl rfl
  | succ j ih =>
    intro i lv hj L0 L2 L3
    refine E_il rfl L3 ?_
    refine E_ci 4 rfl ci4 ?_
    refine E_icF rfl (decide_eq_false (fun q => absurd ((nJ_le (by first | decide | with_reducible assumption | omega) (by first | decide | with_reducible assumption | omega)).mp q) (by first | decide | with_reducible assumption | omega))) ?_
    refine E_il rfl L2 ?_
    refine E_al rfl L0 ?_
    refine E_gr rfl hh (q := 78) rfl ?_
    refine E_il rfl L3 ?_
    refine E_ial rfl hh rfl (by first | decide | with_reducible assumption | omega) (by decide) (e78 i) ?_
    refine E_c rfl ?_
    have es : sct (rf h0) (i + 1) = sct (rf h0) i + (if rf h0 i = 0 then 0 else 1) := rfl
    have fin : ∀ {w : Nat}, sct (rf h0) (i + 1) = sct (rf h0) i + w → Ends (pm_at tX9_count) (pm_Rt pm_P d) (87, lv, [.int (nJ w), .int (nJ (sct (rf h0) i))], h, 0, 0) (fun _ r => r = some (.int (nJ (sct (rf h0) 4)))) := by
      intro w ew
      refine E_bin rfl (nJ_add _ _) ?_
      rw [← ew]
      refine E_is rfl (fun lv1 K2 kp1 => ?_)
      refine E_inc rfl (kp1 3 _ (nbz rfl) rfl L3) (nJ_inc _) (fun lv2 K3 kp2 => ?_)
      refine E_goto rfl ?_
      exact ih lv2 (i := i + 1) (by first | decide | with_reducible assumption | omega) (kp2 0 _ (nbz rfl) rfl (kp1 0 _ (nbz rfl) rfl L0)) (kp2 2 _ (nbz rfl) rfl K2) K3
    by_cases b : gi h0 78 i = -1
    · refine E_icF rfl (decide_eq_false (fun q => q b)) ?_
      refine E_ci 0 rfl ci0 ?_
      refine E_goto rfl ?_
      exact fin (by rw [es, if_pos (rf_0 b)])
    · refine E_icT rfl (decide_eq_true b) ?_
      refine E_ci 1 rfl ci1 ?_
      exact fin (by rw [es, if_neg (rf_1 b)])
theorem sp_count9 (hh : HH h) : Sp (d + 2) 233 h [.ref 77, .int v] (fun _ r => r = some (.int (cnv (c9f h) v))) := by
  refine Sp_of aiX9_count rfl rfl rfl ?_
  have L0 : pm_get (lv_args 0 [.ref 77, .int v]) 0 = some (.ref 77) := rfl
  have L1 : pm_get (lv_args 0 [.ref 77, .int v]) 1 = some (.int v) := rfl
  generalize lv_args 0 [.ref 77, .int v] = lv at L0 L1 ⊢
  refine E_al rfl L0 ?_
  refine E_ci 0 rfl ci0 ?_
  refine E_pf rfl hh rfl ?_
  have hg : HH (pt h 77 0 (nJ 0)) := HH_ptn hh rfl (by first | decide | with_reducible assumption | omega) (by first | decide | with_reducible assumption | omega) (by first | decide | with_reducible assumption | omega)
  have e1 : ∀ a k, a ≠ 77 → gi (pt h 77 0 (nJ 0)) a k = gi h a k := fun a k ha => gi_ne (fun z => absurd z ha)
  have e6 : gi (pt h 77 0 (nJ 0)) 77 6 = gi h 77 6 := gi_ne (by first | exact gxx rfl | omega)
  generalize pt h 77 0 (nJ 0) = g at hg e1 e6 ⊢
  refine E_il rfl L1 ?_
  refine E_i2l rfl ?_
  refine E_c rfl ?_
  refine E_c rfl ?_
  refine E_call rfl (sp_in (a := v.toInt) (b := 0) (c := 5) (i2l_toInt _) rfl rfl) (chkS rfl (by show 0 ≤ 8; decide)) (fun h2 r2 => ?_)
  rintro ⟨e2, f2⟩
  rw [e2, f2]
  by_cases b : 0 ≤ v.toInt ∧ v.toInt ≤ 5
  · refine E_ifF rfl (by rw [zb_T b]; rfl) ?_
    obtain ⟨k, hk, rfl⟩ := nJ_of2 (n := 5) b.1 b.2
    rw [cnv_in (by first | decide | with_reducible assumption | omega)]
    refine E_al rfl L0 ?_
    refine E_gr rfl hg (q := 84) rfl ?_
    refine E_il rfl L1 ?_
    refine E_ial rfl hg rfl (by first | decide | with_reducible assumption | omega) (by decide) (e1 84 k (by first | decide | with_reducible assumption | omega)) ?_
    refine E_rti rfl ?_
    match k, hk with
    | 0, _ => rfl
    | 1, _ => rfl
    | 2, _ => rfl
    | 3, _ => rfl
    | 4, _ => rfl
    | 5, _ => rfl
  · refine E_ifT rfl (by rw [zb_F b]; rfl) ?_
    refine E_ci 0 rfl ci0 ?_
    refine E_is rfl (fun lv1 K2 kp => ?_)
    have M0 := kp 0 _ (nbz rfl) rfl L0
    refine E_il rfl (kp 1 _ (nbz rfl) rfl L1) ?_
    by_cases q : 6 ≤ v.toInt ∧ v.toInt ≤ 8
    · obtain ⟨k, hk, rfl⟩ := nJ_of2 (n := 8) (x := v) (by first | decide | with_reducible assumption | omega) q.2
      have e := nJ_toInt (n := k) (by first | decide | with_reducible assumption | omega)
      rw [cnv_in hk]
      have k6 : 6 ≤ k := by omega
      match k, hk, k6 with
      | 6, _, _ =>
        refine E_tsA (t := 52) rfl (by decide) (by decide) ?_
        refine E_al rfl M0 ?_
        refine E_gr rfl hg (q := 83) rfl ?_
        refine E_ci 0 rfl ci0 ?_
        refine E_ial rfl hg rfl (by first | decide | with_reducible assumption | omega) (by decide) (e1 83 0 (by first | decide | with_reducible assumption | omega)) ?_
        exact E_rti rfl rfl
      | 7, _, _ =>
        refine E_tsA (t := 59) rfl (by decide) (by decide) ?_
        refine E_al rfl M0 ?_
        refine E_gf (q := (0, 500)) rfl hg rfl e6 ?_
        exact E_rti rfl rfl
      | 8, _, _ =>
        refine E_tsA (t := 64) rfl (by decide) (by decide) ?_
        refine E_ci 0 rfl ci0 ?_
        refine E_is rfl (fun lv2 K3 kp2 => ?_)
        exact cw_loop hg (fun s => e1 78 s (by first | decide | with_reducible assumption | omega)) 4 (i := 0) lv2 (by first | decide | with_reducible assumption | omega) (kp2 0 _ (nbz rfl) rfl M0) (kp2 2 _ (nbz rfl) rfl K2) K3
    · refine E_tsD rfl (by rw [Bool.or_eq_true, decide_eq_true_iff, decide_eq_true_iff]; omega) ?_
      refine E_c rfl ?_
      exact E_rti rfl (by unfold cnv; rw [if_neg (by first | decide | with_reducible assumption | omega)])
end CNT
end
section
/-! image and back of both, exactly; the streets' relation (written by gen_t60.py; wants t33, t52b, t53, t56 to t59) -/
noncomputable def CPY (A B : Nat) (h h' : pm_H) : Prop := (∀ j, j < 7 → gi h' A j = gi h B j) ∧ ∀ i, i < 8 → gi h' (A + 3) i = gi h (B + 3) i
noncomputable def KEE (A : Nat) (h h' : pm_H) : Prop := (∀ j, gi h' A j = gi h A j) ∧ ∀ i, gi h' (A + 3) i = gi h (A + 3) i
noncomputable def imA (k : Nat) : Nat := 25 + 9 * k
theorem KEE_fr {M : List Rng} {A : Nat} {h h' : pm_H} (hf : fr_g M h h') (h1 : M.all (fun r => !(Nat.beq r.1 A)) = true) (h2 : M.all (fun r => !(Nat.beq r.1 (A + 3))) = true) : KEE A h h' := ⟨fun _ => fr_gi hf (rg_no h1 _), fun _ => fr_gi hf (rg_no h2 _)⟩
section IM8
variable {h : pm_H} {x : Int32}
/-- what image of the class leaves -/
noncomputable def IX8 (h : pm_H) (x : Int32) (h' : pm_H) : Prop := (∃ k, k < 3 ∧ x = nJ k ∧ CPY (imA k) 15 h h' ∧ KEE 15 h h' ∧ ∀ j, j < 3 → j ≠ k → KEE (imA j) h h') ∨ (¬ (0 ≤ x.toInt ∧ x.toInt ≤ 2) ∧ h' = h)
noncomputable def BX8 (h : pm_H) (x : Int32) (h' : pm_H) : Prop := (∃ k, k < 3 ∧ x = nJ k ∧ ¬ gi h 52 k = 0 ∧ CPY 15 (imA k) h h' ∧ ∀ j, j < 3 → KEE (imA j) h h') ∨ (¬ (∃ k, k < 3 ∧ x = nJ k ∧ ¬ gi h 52 k = 0) ∧ h' = h)
theorem sp_imageX8 (hh : HH h) : Sp 20 121 h [.ref 0, .int x] (fun h' _ => IX8 h x h') := by
  refine Sp_of (d := 19) aiX8_image rfl rfl rfl ?_
  have L0 : pm_get (lv_args 0 [.ref 0, .int x]) 0 = some (.ref 0) := rfl
  have L1 : pm_get (lv_args 0 [.ref 0, .int x]) 1 = some (.int x) := rfl
  generalize lv_args 0 [.ref 0, .int x] = lv at L0 L1 ⊢
  refine E_il rfl L1 ?_
  by_cases hr : 0 ≤ x.toInt ∧ x.toInt ≤ 2
  · obtain ⟨k, hk, rfl⟩ := nJ_of2 (n := 2) hr.1 hr.2
    refine E_ifF rfl (decide_eq_false (nJ_lt0 (by first | decide | with_reducible assumption | omega))) ?_
    refine E_il rfl L1 ?_
    refine E_ci 3 rfl ci3 ?_
    refine E_icT rfl (decide_eq_true ((nJ_lt (by first | decide | with_reducible assumption | omega) (by first | decide | with_reducible assumption | omega)).mpr (by first | decide | with_reducible assumption | omega))) ?_
    match k, hk with
    | 0, _ =>
      refine E_al rfl L0 ?_
      refine E_ogr rfl hh rfl (q := 24) rfl ?_
      refine E_il rfl L1 ?_
      refine E_aal rfl hh rfl (q := 25) rfl (by decide) ?_
      refine E_al rfl L0 ?_
      refine E_ogr rfl hh rfl (q := 15) rfl ?_
      refine E_call rfl (Sp_le (by first | exact Nat.add_le_add_left (Nat.le_of_ble_eq_true rfl) _ | exact Nat.le_of_ble_eq_true rfl | omega) (sp_take_25_15 (d := 0) hh)) (chkO (a := 25) hh rfl rfl rfl rfl (by show 0 ≤ 8; decide)) (fun h4 r4 => ?_)
      rintro ⟨e4, hh4, f4, t0, t1, -⟩
      rw [e4]
      refine E_al rfl L0 ?_
      refine E_ogr rfl hh4 rfl (q := 52) rfl ?_
      refine E_il rfl L1 ?_
      refine E_ci 1 rfl ci1 ?_
      refine E_zasA rfl hh4 rfl (by decide) ?_
      refine E_ci 0 rfl ci0 ?_
      refine E_rti rfl (.inl ⟨0, by omega, rfl, ⟨fun j hj => ?_, fun i hi => ?_⟩, ⟨fun j => ?_, fun i => ?_⟩, fun j hj hne => ?_⟩)
      · show gi (pt h4 52 0 1) 25 j = _
        rw [gi_ne (by first | exact gxx rfl | omega)]; exact t0 j hj
      · show gi (pt h4 52 0 1) 28 i = gi h 18 i
        rw [gi_ne (by first | exact gxx rfl | omega)]; exact (t1 i hi).2.2.1
      · rw [gi_ne (by first | exact gxx rfl | omega), fr_gi f4 (rg_no rfl _)]
      · show gi (pt h4 52 0 1) 18 i = gi h 18 i
        rw [gi_ne (by first | exact gxx rfl | omega), fr_gi f4 (rg_no rfl _)]
      · match j, hj, hne with
        | 0, _, hne => exact absurd rfl hne
        | 1, _, hne => exact ⟨fun j => by show gi (pt h4 52 0 1) 34 j = gi h 34 j; rw [gi_ne (by first | exact gxx rfl | omega), fr_gi f4 (rg_no rfl _)], fun i => by show gi (pt h4 52 0 1) 37 i = gi h 37 i; rw [gi_ne (by first | exact gxx rfl | omega), fr_gi f4 (rg_no rfl _)]⟩
        | 2, _, hne => exact ⟨fun j => by show gi (pt h4 52 0 1) 43 j = gi h 43 j; rw [gi_ne (by first | exact gxx rfl | omega), fr_gi f4 (rg_no rfl _)], fun i => by show gi (pt h4 52 0 1) 46 i = gi h 46 i; rw [gi_ne (by first | exact gxx rfl | omega), fr_gi f4 (rg_no rfl _)]⟩
    | 1, _ =>
      refine E_al rfl L0 ?_
      refine E_ogr rfl hh rfl (q := 24) rfl ?_
      refine E_il rfl L1 ?_
      refine E_aal rfl hh rfl (q := 34) rfl (by decide) ?_
      refine E_al rfl L0 ?_
      refine E_ogr rfl hh rfl (q := 15) rfl ?_
      refine E_call rfl (Sp_le (by first | exact Nat.add_le_add_left (Nat.le_of_ble_eq_true rfl) _ | exact Nat.le_of_ble_eq_true rfl | omega) (sp_take_34_15 (d := 0) hh)) (chkO (a := 34) hh rfl rfl rfl rfl (by show 0 ≤ 8; decide)) (fun h4 r4 => ?_)
      rintro ⟨e4, hh4, f4, t0, t1, -⟩
      rw [e4]
      refine E_al rfl L0 ?_
      refine E_ogr rfl hh4 rfl (q := 52) rfl ?_
      refine E_il rfl L1 ?_
      refine E_ci 1 rfl ci1 ?_
      refine E_zasA rfl hh4 rfl (by decide) ?_
      refine E_ci 0 rfl ci0 ?_
      refine E_rti rfl (.inl ⟨1, by omega, rfl, ⟨fun j hj => ?_, fun i hi => ?_⟩, ⟨fun j => ?_, fun i => ?_⟩, fun j hj hne => ?_⟩)
      · show gi (pt h4 52 1 1) 34 j = _
        rw [gi_ne (by first | exact gxx rfl | omega)]; exact t0 j hj
      · show gi (pt h4 52 1 1) 37 i = gi h 18 i
        rw [gi_ne (by first | exact gxx rfl | omega)]; exact (t1 i hi).2.2.1
      · rw [gi_ne (by first | exact gxx rfl | omega), fr_gi f4 (rg_no rfl _)]
      · show gi (pt h4 52 1 1) 18 i = gi h 18 i
        rw [gi_ne (by first | exact gxx rfl | omega), fr_gi f4 (rg_no rfl _)]
      · match j, hj, hne with
        | 0, _, hne => exact ⟨fun j => by show gi (pt h4 52 1 1) 25 j = gi h 25 j; rw [gi_ne (by first | exact gxx rfl | omega), fr_gi f4 (rg_no rfl _)], fun i => by show gi (pt h4 52 1 1) 28 i = gi h 28 i; rw [gi_ne (by first | exact gxx rfl | omega), fr_gi f4 (rg_no rfl _)]⟩
        | 1, _, hne => exact absurd rfl hne
        | 2, _, hne => exact ⟨fun j => by show gi (pt h4 52 1 1) 43 j = gi h 43 j; rw [gi_ne (by first | exact gxx rfl | omega), fr_gi f4 (rg_no rfl _)], fun i => by show gi (pt h4 52 1 1) 46 i = gi h 46 i; rw [gi_ne (by first | exact gxx rfl | omega), fr_gi f4 (rg_no rfl _)]⟩
    | 2, _ =>
      refine E_al rfl L0 ?_
      refine E_ogr rfl hh rfl (q := 24) rfl ?_
      refine E_il rfl L1 ?_
      refine E_aal rfl hh rfl (q := 43) rfl (by decide) ?_
      refine E_al rfl L0 ?_
      refine E_ogr rfl hh rfl (q := 15) rfl ?_
      refine E_call rfl (Sp_le (by first | exact Nat.add_le_add_left (Nat.le_of_ble_eq_true rfl) _ | exact Nat.le_of_ble_eq_true rfl | omega) (sp_take_43_15 (d := 0) hh)) (chkO (a := 43) hh rfl rfl rfl rfl (by show 0 ≤ 8; decide)) (fun h4 r4 => ?_)
      rintro ⟨e4, hh4, f4, t0, t1, -⟩
      rw [e4]
      refine E_al rfl L0 ?_
      refine E_ogr rfl hh4 rfl (q := 52) rfl ?_
      refine E_il rfl L1 ?_
      refine E_ci 1 rfl ci1 ?_
      refine E_zasA rfl hh4 rfl (by decide) ?_
      refine E_ci 0 rfl ci0 ?_
      refine E_rti rfl (.inl ⟨2, by omega, rfl, ⟨fun j hj => ?_, fun i hi => ?_⟩, ⟨fun j => ?_, fun i => ?_⟩, fun j hj hne => ?_⟩)
      · show gi (pt h4 52 2 1) 43 j = _
        rw [gi_ne (by first | exact gxx rfl | omega)]; exact t0 j hj
      · show gi (pt h4 52 2 1) 46 i = gi h 18 i
        rw [gi_ne (by first | exact gxx rfl | omega)]; exact (t1 i hi).2.2.1
      · rw [gi_ne (by first | exact gxx rfl | omega), fr_gi f4 (rg_no rfl _)]
      · show gi (pt h4 52 2 1) 18 i = gi h 18 i
        rw [gi_ne (by first | exact gxx rfl | omega), fr_gi f4 (rg_no rfl _)]
      · match j, hj, hne with
        | 0, _, hne => exact ⟨fun j => by show gi (pt h4 52 2 1) 25 j = gi h 25 j; rw [gi_ne (by first | exact gxx rfl | omega), fr_gi f4 (rg_no rfl _)], fun i => by show gi (pt h4 52 2 1) 28 i = gi h 28 i; rw [gi_ne (by first | exact gxx rfl | omega), fr_gi f4 (rg_no rfl _)]⟩
        | 1, _, hne => exact ⟨fun j => by show gi (pt h4 52 2 1) 34 j = gi h 34 j; rw [gi_ne (by first | exact gxx rfl | omega), fr_gi f4 (rg_no rfl _)], fun i => by show gi (pt h4 52 2 1) 37 i = gi h 37 i; rw [gi_ne (by first | exact gxx rfl | omega), fr_gi f4 (rg_no rfl _)]⟩
        | 2, _, hne => exact absurd rfl hne
  · have z0 : (0 : Int32).toInt = 0 := rfl
    by_cases h0 : x < 0
    · refine E_ifT rfl (decide_eq_true h0) ?_
      refine E_c rfl ?_
      exact E_rti rfl (.inr ⟨hr, rfl⟩)
    · refine E_ifF rfl (decide_eq_false h0) ?_
      refine E_il rfl L1 ?_
      refine E_ci 3 rfl ci3 ?_
      refine E_icF rfl (decide_eq_false (fun q => hr ?_)) ?_
      · have q1 := Int32.lt_iff_toInt_lt.mp q
        rw [nJ_toInt (by first | decide | with_reducible assumption | omega)] at q1
        have q2 : ¬ x.toInt < (0 : Int32).toInt := fun z => h0 (Int32.lt_iff_toInt_lt.mpr z)
        omega
      · refine E_c rfl ?_
        exact E_rti rfl (.inr ⟨hr, rfl⟩)
theorem sp_backX8 (hh : HH h) : Sp 20 82 h [.ref 0, .int x] (fun h' _ => BX8 h x h') := by
  refine Sp_of (d := 19) aiX8_back rfl rfl rfl ?_
  have L0 : pm_get (lv_args 0 [.ref 0, .int x]) 0 = some (.ref 0) := rfl
  have L1 : pm_get (lv_args 0 [.ref 0, .int x]) 1 = some (.int x) := rfl
  generalize lv_args 0 [.ref 0, .int x] = lv at L0 L1 ⊢
  refine E_il rfl L1 ?_
  by_cases hr : 0 ≤ x.toInt ∧ x.toInt ≤ 2
  · obtain ⟨k, hk, rfl⟩ := nJ_of2 (n := 2) hr.1 hr.2
    refine E_ifF rfl (decide_eq_false (nJ_lt0 (by first | decide | with_reducible assumption | omega))) ?_
    refine E_il rfl L1 ?_
    refine E_ci 3 rfl ci3 ?_
    refine E_icT rfl (decide_eq_true ((nJ_lt (by first | decide | with_reducible assumption | omega) (by first | decide | with_reducible assumption | omega)).mpr (by first | decide | with_reducible assumption | omega))) ?_
    refine E_al rfl L0 ?_
    refine E_ogr rfl hh rfl (q := 52) rfl ?_
    refine E_il rfl L1 ?_
    refine E_zalA rfl hh rfl (by first | decide | with_reducible assumption | omega) ?_
    by_cases hz : gi h 52 k = 0
    · refine E_ifF rfl (decide_eq_false (fun q => q hz)) ?_
      refine E_c rfl ?_
      refine E_rti rfl (.inr ⟨?_, rfl⟩)
      rintro ⟨j, hj, ej, nj⟩
      rw [(nJ_eq (by first | decide | with_reducible assumption | omega) (by first | decide | with_reducible assumption | omega)).mp ej] at hz
      exact nj hz
    · refine E_ifT rfl (decide_eq_true hz) ?_
      match k, hk, hz with
      | 0, _, hz =>
        refine E_al rfl L0 ?_
        refine E_ogr rfl hh rfl (q := 15) rfl ?_
        refine E_al rfl L0 ?_
        refine E_ogr rfl hh rfl (q := 24) rfl ?_
        refine E_il rfl L1 ?_
        refine E_aal rfl hh rfl (q := 25) rfl (by decide) ?_
        refine E_call rfl (Sp_le (by first | exact Nat.add_le_add_left (Nat.le_of_ble_eq_true rfl) _ | exact Nat.le_of_ble_eq_true rfl | omega) (sp_take_15_25 (d := 0) hh)) (chkO (a := 15) hh rfl rfl rfl rfl (by show 0 ≤ 8; decide)) (fun h4 r4 => ?_)
        rintro ⟨e4, hh4, f4, t0, t1, -⟩
        rw [e4]
        refine E_ci 0 rfl ci0 ?_
        refine E_rti rfl (.inl ⟨0, by omega, rfl, hz, ⟨t0, fun i hi => (t1 i hi).2.2.1⟩, fun j hj => ?_⟩)
        match j, hj with
        | 0, _ => exact ⟨fun j => by show gi h4 25 j = gi h 25 j; rw [fr_gi f4 (rg_no rfl _)], fun i => by show gi h4 28 i = gi h 28 i; rw [fr_gi f4 (rg_no rfl _)]⟩
        | 1, _ => exact ⟨fun j => by show gi h4 34 j = gi h 34 j; rw [fr_gi f4 (rg_no rfl _)], fun i => by show gi h4 37 i = gi h 37 i; rw [fr_gi f4 (rg_no rfl _)]⟩
        | 2, _ => exact ⟨fun j => by show gi h4 43 j = gi h 43 j; rw [fr_gi f4 (rg_no rfl _)], fun i => by show gi h4 46 i = gi h 46 i; rw [fr_gi f4 (rg_no rfl _)]⟩
      | 1, _, hz =>
        refine E_al rfl L0 ?_
        refine E_ogr rfl hh rfl (q := 15) rfl ?_
        refine E_al rfl L0 ?_
        refine E_ogr rfl hh rfl (q := 24) rfl ?_
        refine E_il rfl L1 ?_
        refine E_aal rfl hh rfl (q := 34) rfl (by decide) ?_
        refine E_call rfl (Sp_le (by first | exact Nat.add_le_add_left (Nat.le_of_ble_eq_true rfl) _ | exact Nat.le_of_ble_eq_true rfl | omega) (sp_take_15_34 (d := 0) hh)) (chkO (a := 15) hh rfl rfl rfl rfl (by show 0 ≤ 8; decide)) (fun h4 r4 => ?_)
        rintro ⟨e4, hh4, f4, t0, t1, -⟩
        rw [e4]
        refine E_ci 0 rfl ci0 ?_
        refine E_rti rfl (.inl ⟨1, by omega, rfl, hz, ⟨t0, fun i hi => (t1 i hi).2.2.1⟩, fun j hj => ?_⟩)
        match j, hj with
        | 0, _ => exact ⟨fun j => by show gi h4 25 j = gi h 25 j; rw [fr_gi f4 (rg_no rfl _)], fun i => by show gi h4 28 i = gi h 28 i; rw [fr_gi f4 (rg_no rfl _)]⟩
        | 1, _ => exact ⟨fun j => by show gi h4 34 j = gi h 34 j; rw [fr_gi f4 (rg_no rfl _)], fun i => by show gi h4 37 i = gi h 37 i; rw [fr_gi f4 (rg_no rfl _)]⟩
        | 2, _ => exact ⟨fun j => by show gi h4 43 j = gi h 43 j; rw [fr_gi f4 (rg_no rfl _)], fun i => by show gi h4 46 i = gi h 46 i; rw [fr_gi f4 (rg_no rfl _)]⟩
      | 2, _, hz =>
        refine E_al rfl L0 ?_
        refine E_ogr rfl hh rfl (q := 15) rfl ?_
        refine E_al rfl L0 ?_
        refine E_ogr rfl hh rfl (q := 24) rfl ?_
        refine E_il rfl L1 ?_
        refine E_aal rfl hh rfl (q := 43) rfl (by decide) ?_
        refine E_call rfl (Sp_le (by first | exact Nat.add_le_add_left (Nat.le_of_ble_eq_true rfl) _ | exact Nat.le_of_ble_eq_true rfl | omega) (sp_take_15_43 (d := 0) hh)) (chkO (a := 15) hh rfl rfl rfl rfl (by show 0 ≤ 8; decide)) (fun h4 r4 => ?_)
        rintro ⟨e4, hh4, f4, t0, t1, -⟩
        rw [e4]
        refine E_ci 0 rfl ci0 ?_
        refine E_rti rfl (.inl ⟨2, by omega, rfl, hz, ⟨t0, fun i hi => (t1 i hi).2.2.1⟩, fun j hj => ?_⟩)
        match j, hj with
        | 0, _ => exact ⟨fun j => by show gi h4 25 j = gi h 25 j; rw [fr_gi f4 (rg_no rfl _)], fun i => by show gi h4 28 i = gi h 28 i; rw [fr_gi f4 (rg_no rfl _)]⟩
        | 1, _ => exact ⟨fun j => by show gi h4 34 j = gi h 34 j; rw [fr_gi f4 (rg_no rfl _)], fun i => by show gi h4 37 i = gi h 37 i; rw [fr_gi f4 (rg_no rfl _)]⟩
        | 2, _ => exact ⟨fun j => by show gi h4 43 j = gi h 43 j; rw [fr_gi f4 (rg_no rfl _)], fun i => by show gi h4 46 i = gi h 46 i; rw [fr_gi f4 (rg_no rfl _)]⟩
  · have z0 : (0 : Int32).toInt = 0 := rfl
    by_cases h0 : x < 0
    · refine E_ifT rfl (decide_eq_true h0) ?_
      refine E_c rfl ?_
      exact E_rti rfl (.inr ⟨fun ⟨j, hj, ej, _⟩ => hr (by rw [ej, nJ_toInt (by first | decide | with_reducible assumption | omega)]; omega), rfl⟩)
    · refine E_ifF rfl (decide_eq_false h0) ?_
      refine E_il rfl L1 ?_
      refine E_ci 3 rfl ci3 ?_
      refine E_icF rfl (decide_eq_false (fun q => hr ?_)) ?_
      · have q1 := Int32.lt_iff_toInt_lt.mp q
        rw [nJ_toInt (by first | decide | with_reducible assumption | omega)] at q1
        have q2 : ¬ x.toInt < (0 : Int32).toInt := fun z => h0 (Int32.lt_iff_toInt_lt.mpr z)
        omega
      · refine E_c rfl ?_
        exact E_rti rfl (.inr ⟨fun ⟨j, hj, ej, _⟩ => hr (by rw [ej, nJ_toInt (by first | decide | with_reducible assumption | omega)]; omega), rfl⟩)
end IM8
section IM9
variable {h : pm_H} {d : Nat} {x : Int32}
noncomputable def IX9 (h : pm_H) (x : Int32) (h' : pm_H) : Prop := (∃ k, k < 3 ∧ x = nJ k ∧ CP9 (k + 1) 0 h h' ∧ ∀ r, r ≤ 3 → r ≠ k + 1 → KE9 r h h') ∨ (¬ (0 ≤ x.toInt ∧ x.toInt ≤ 2) ∧ ∀ r, KE9 r h h')
noncomputable def BX9 (h : pm_H) (x : Int32) (h' : pm_H) : Prop := (∃ k, k < 3 ∧ x = nJ k ∧ ¬ gi h 88 k = 0 ∧ CP9 0 (k + 1) h h' ∧ ∀ r, r ≤ 3 → r ≠ 0 → KE9 r h h') ∨ (¬ (∃ k, k < 3 ∧ x = nJ k ∧ ¬ gi h 88 k = 0) ∧ ∀ r, KE9 r h h')
theorem KE9_77 {r : Nat} {v : Int32} {j : Nat} : KE9 r h (pt h 77 j v) := ⟨gi_ne (by first | exact gxx rfl | omega), fun _ _ => gi_ne (by first | exact gxx rfl | omega), fun _ _ => gi_ne (by first | exact gxx rfl | omega)⟩
theorem sp_imageX9 (hh0 : HH h) : Sp (d + 4) 260 h [.ref 77, .int x] (fun h' _ => IX9 h x h') := by
  refine Sp_of aiX9_image rfl rfl rfl ?_
  have L0 : pm_get (lv_args 0 [.ref 77, .int x]) 0 = some (.ref 77) := rfl
  have L1 : pm_get (lv_args 0 [.ref 77, .int x]) 1 = some (.int x) := rfl
  generalize lv_args 0 [.ref 77, .int x] = lv at L0 L1 ⊢
  refine E_al rfl L0 ?_
  refine E_ci 0 rfl ci0 ?_
  refine E_pf rfl hh0 rfl ?_
  have hh1 : HH (pt h 77 0 (nJ 0)) := HH_ptn hh0 rfl (by first | decide | with_reducible assumption | omega) (by first | decide | with_reducible assumption | omega) (by first | decide | with_reducible assumption | omega)
  have z : ∀ a k, a ≠ 77 → gi (pt h 77 0 (nJ 0)) a k = gi h a k := fun a k ha => gi_ne (fun q => absurd q ha)
  have kz : ∀ r, KE9 r h (pt h 77 0 (nJ 0)) := fun r => KE9_77
  generalize pt h 77 0 (nJ 0) = g at hh1 z kz ⊢
  refine E_il rfl L1 ?_
  refine E_i2l rfl ?_
  refine E_c rfl ?_
  refine E_c rfl ?_
  refine E_call rfl (Sp_le (by first | exact Nat.add_le_add_left (Nat.le_of_ble_eq_true rfl) _ | exact Nat.le_of_ble_eq_true rfl | omega) (sp_in (d := d) (a := x.toInt) (b := 0) (c := 2) (i2l_toInt _) rfl rfl)) (chkS rfl (by show 0 ≤ 8; decide)) (fun h2 r2 => ?_)
  rintro ⟨e2, f2⟩
  rw [e2, f2]
  by_cases hb3 : 0 ≤ x.toInt ∧ x.toInt ≤ 2
  · refine E_ifT rfl (by rw [zb_T hb3]; rfl) ?_
    obtain ⟨k, hk, rfl⟩ := nJ_of2 (n := 2) hb3.1 hb3.2
    refine E_al rfl L0 ?_
    refine E_ci 0 rfl ci0 ?_
    refine E_ci 1 rfl ci1 ?_
    refine E_il rfl L1 ?_
    refine E_bin rfl (nJ_add _ _) ?_
    refine E_call rfl (Sp_le (by first | exact Nat.add_le_add_left (Nat.le_of_ble_eq_true rfl) _ | exact Nat.le_of_ble_eq_true rfl | omega) (sp_cpY (d := d) (a := 0) (b := 1 + k) hh1 (by first | decide | with_reducible assumption | omega) (by first | decide | with_reducible assumption | omega) (by first | decide | with_reducible assumption | omega))) (chk77 hh1 rfl rfl (by show 0 ≤ 8; decide)) (fun h4 r4 => ?_)
    rintro ⟨e4, hh4, f4, c4, -, k4⟩
    rw [e4]
    refine E_al rfl L0 ?_
    refine E_gr rfl hh4 (q := 88) rfl ?_
    refine E_il rfl L1 ?_
    refine E_ci 1 rfl ci1 ?_
    refine E_zas rfl hh4 (by first | decide | with_reducible assumption | omega) ?_
    refine E_ci 0 rfl ci0 ?_
    have w : ∀ a i, a ≠ 88 → gi (pt h4 88 k 1) a i = gi h4 a i := fun a i ha => gi_ne (fun q => absurd q ha)
    rw [show 1 + k = k + 1 by omega] at c4 k4
    refine E_rti rfl (.inl ⟨k, by omega, rfl, ⟨?_, fun i hi => ?_, fun i hi => ?_⟩, fun r hr hne => ⟨?_, fun i hi => ?_, fun i hi => ?_⟩⟩)
    · rw [w _ _ (by first | decide | with_reducible assumption | omega), c4.1, z _ _ (by first | decide | with_reducible assumption | omega)]
    · rw [w _ _ (by first | decide | with_reducible assumption | omega), c4.2.1 i hi, z _ _ (by first | decide | with_reducible assumption | omega)]
    · rw [w _ _ (by first | decide | with_reducible assumption | omega), c4.2.2 i hi, z _ _ (by first | decide | with_reducible assumption | omega)]
    · rw [w _ _ (by first | decide | with_reducible assumption | omega), (k4 r (by first | decide | with_reducible assumption | omega) hne).1, z _ _ (by first | decide | with_reducible assumption | omega)]
    · rw [w _ _ (by first | decide | with_reducible assumption | omega), (k4 r (by first | decide | with_reducible assumption | omega) hne).2.1 i hi, z _ _ (by first | decide | with_reducible assumption | omega)]
    · rw [w _ _ (by first | decide | with_reducible assumption | omega), (k4 r (by first | decide | with_reducible assumption | omega) hne).2.2 i hi, z _ _ (by first | decide | with_reducible assumption | omega)]
  · refine E_ifF rfl (by rw [zb_F hb3]; rfl) ?_
    refine E_c rfl ?_
    exact E_rti rfl (.inr ⟨hb3, kz⟩)
theorem sp_backX9 (hh0 : HH h) : Sp (d + 4) 212 h [.ref 77, .int x] (fun h' _ => BX9 h x h') := by
  refine Sp_of aiX9_back rfl rfl rfl ?_
  have L0 : pm_get (lv_args 0 [.ref 77, .int x]) 0 = some (.ref 77) := rfl
  have L1 : pm_get (lv_args 0 [.ref 77, .int x]) 1 = some (.int x) := rfl
  generalize lv_args 0 [.ref 77, .int x] = lv at L0 L1 ⊢
  refine E_al rfl L0 ?_
  refine E_ci 0 rfl ci0 ?_
  refine E_pf rfl hh0 rfl ?_
  have hh1 : HH (pt h 77 0 (nJ 0)) := HH_ptn hh0 rfl (by first | decide | with_reducible assumption | omega) (by first | decide | with_reducible assumption | omega) (by first | decide | with_reducible assumption | omega)
  have z : ∀ a k, a ≠ 77 → gi (pt h 77 0 (nJ 0)) a k = gi h a k := fun a k ha => gi_ne (fun q => absurd q ha)
  have kz : ∀ r, KE9 r h (pt h 77 0 (nJ 0)) := fun r => KE9_77
  generalize pt h 77 0 (nJ 0) = g at hh1 z kz ⊢
  refine E_il rfl L1 ?_
  refine E_i2l rfl ?_
  refine E_c rfl ?_
  refine E_c rfl ?_
  refine E_call rfl (Sp_le (by first | exact Nat.add_le_add_left (Nat.le_of_ble_eq_true rfl) _ | exact Nat.le_of_ble_eq_true rfl | omega) (sp_in (d := d) (a := x.toInt) (b := 0) (c := 2) (i2l_toInt _) rfl rfl)) (chkS rfl (by show 0 ≤ 8; decide)) (fun h2 r2 => ?_)
  rintro ⟨e2, f2⟩
  rw [e2, f2]
  by_cases hb3 : 0 ≤ x.toInt ∧ x.toInt ≤ 2
  · refine E_ifT rfl (by rw [zb_T hb3]; rfl) ?_
    obtain ⟨k, hk, rfl⟩ := nJ_of2 (n := 2) hb3.1 hb3.2
    refine E_al rfl L0 ?_
    refine E_gr rfl hh1 (q := 88) rfl ?_
    refine E_il rfl L1 ?_
    refine E_zalB (v := gi h 88 k) rfl hh1 rfl (by first | decide | with_reducible assumption | omega) (by decide) (z 88 k (by first | decide | with_reducible assumption | omega)) ?_
    by_cases hz : gi h 88 k = 0
    · refine E_ifF rfl (decide_eq_false (fun q => q hz)) ?_
      refine E_c rfl ?_
      refine E_rti rfl (.inr ⟨?_, kz⟩)
      rintro ⟨j, hj, ej, nj⟩
      rw [(nJ_eq (by first | decide | with_reducible assumption | omega) (by first | decide | with_reducible assumption | omega)).mp ej] at hz
      exact nj hz
    · refine E_ifT rfl (decide_eq_true hz) ?_
      refine E_al rfl L0 ?_
      refine E_ci 1 rfl ci1 ?_
      refine E_il rfl L1 ?_
      refine E_bin rfl (nJ_add _ _) ?_
      refine E_ci 0 rfl ci0 ?_
      refine E_call rfl (Sp_le (by first | exact Nat.add_le_add_left (Nat.le_of_ble_eq_true rfl) _ | exact Nat.le_of_ble_eq_true rfl | omega) (sp_cpY (d := d) (a := 1 + k) (b := 0) hh1 (by first | decide | with_reducible assumption | omega) (by first | decide | with_reducible assumption | omega) (by first | decide | with_reducible assumption | omega))) (chk77 hh1 rfl rfl (by show 0 ≤ 8; decide)) (fun h4 r4 => ?_)
      rintro ⟨e4, hh4, f4, c4, -, k4⟩
      rw [e4]
      refine E_ci 0 rfl ci0 ?_
      rw [show 1 + k = k + 1 by omega] at c4
      refine E_rti rfl (.inl ⟨k, by omega, rfl, hz, ⟨?_, fun i hi => ?_, fun i hi => ?_⟩, fun r hr hne => ⟨?_, fun i hi => ?_, fun i hi => ?_⟩⟩)
      · rw [c4.1, z _ _ (by first | decide | with_reducible assumption | omega)]
      · rw [c4.2.1 i hi, z _ _ (by first | decide | with_reducible assumption | omega)]
      · rw [c4.2.2 i hi, z _ _ (by first | decide | with_reducible assumption | omega)]
      · rw [(k4 r (by first | decide | with_reducible assumption | omega) hne).1, z _ _ (by first | decide | with_reducible assumption | omega)]
      · rw [(k4 r (by first | decide | with_reducible assumption | omega) hne).2.1 i hi, z _ _ (by first | decide | with_reducible assumption | omega)]
      · rw [(k4 r (by first | decide | with_reducible assumption | omega) hne).2.2 i hi, z _ _ (by first | decide | with_reducible assumption | omega)]
  · refine E_ifF rfl (by rw [zb_F hb3]; rfl) ?_
    refine E_c rfl ?_
    exact E_rti rfl (.inr ⟨fun ⟨j, hj, ej, _⟩ => hb3 (by rw [ej, nJ_toInt (by first | decide | with_reducible assumption | omega)]; omega), kz⟩)
end IM9
end
section
/-! the streets' relation and pairs of calls over it (wants t33, t53, t56 to t60) -/
noncomputable def ST1 (A r : Nat) (h : pm_H) : Prop := gi h A 3 = gi h 83 r ∧ (∀ k, k < 3 → gi h A k = gi h 84 (6 * r + k)) ∧ gi h A 4 = gi h 84 (6 * r + 3) ∧ gi h A 5 = gi h 84 (6 * r + 4) ∧ (gn h A 0 = 0 ↔ ¬ 0 < (gi h A 3).toInt)
noncomputable def STA (A r : Nat) (h : pm_H) : Prop := gi h A 6 = gi h 84 (6 * r + 5)
noncomputable def STD (A r : Nat) (h : pm_H) : Prop := ∀ i, i < 8 → i < gn h A 4 → gi h (A + 3) i = gi h 85 (16 * r + (2 * i + 1))
noncomputable def ST (A r : Nat) (h : pm_H) : Prop := ST1 A r h ∧ STA A r h ∧ STD A r h
theorem gn_eq {h h' : pm_H} {a b k j : Nat} (e : gi h' a k = gi h b j) : gn h' a k = gn h b j := by unfold gn; rw [e]
theorem ST_cp {A B r s : Nat} {h h' : pm_H} (c : CPY A B h h') (k : CP9 r s h h') (S : ST B s h) : ST A r h' := by
  obtain ⟨c1, c2⟩ := c
  obtain ⟨k1, k2, k3⟩ := k
  obtain ⟨⟨s1, s2, s3, s4, s5⟩, sa, sd⟩ := S
  refine ⟨⟨?_, fun i hi => ?_, ?_, ?_, ?_⟩, ?_, fun i hi h4 => ?_⟩
  · rw [c1 3 (by first | decide | with_reducible assumption | omega), k1]; exact s1
  · rw [c1 i (by first | decide | with_reducible assumption | omega), k2 i (by first | decide | with_reducible assumption | omega)]; exact s2 i hi
  · rw [c1 4 (by first | decide | with_reducible assumption | omega), k2 3 (by first | decide | with_reducible assumption | omega)]; exact s3
  · rw [c1 5 (by first | decide | with_reducible assumption | omega), k2 4 (by first | decide | with_reducible assumption | omega)]; exact s4
  · rw [c1 3 (by first | decide | with_reducible assumption | omega), gn_eq (c1 0 (by first | decide | with_reducible assumption | omega))]; exact s5
  · show gi h' A 6 = gi h' 84 (6 * r + 5)
    rw [c1 6 (by first | decide | with_reducible assumption | omega), k2 5 (by first | decide | with_reducible assumption | omega)]; exact sa
  · rw [gn_eq (c1 4 (by first | decide | with_reducible assumption | omega))] at h4
    rw [c2 i hi, k3 _ (by first | decide | with_reducible assumption | omega)]; exact sd i hi h4
theorem KEE_c {A : Nat} {h h' : pm_H} (k : KEE A h h') : CPY A A h h' := ⟨fun j _ => k.1 j, fun i _ => k.2 i⟩
theorem KE9_c {r : Nat} {h h' : pm_H} (k : KE9 r h h') : CP9 r r h h' := k
noncomputable def IMG (h : pm_H) : Prop := ∀ k, k < 3 → ¬ gi h 52 k = 0 → ST (imA k) (k + 1) h
noncomputable def RST (h : pm_H) : Prop := ST 15 0 h ∧ IMG h
noncomputable def QRE (h : pm_H) : Prop := RES h ∧ RST h
noncomputable def IVQ (h : pm_H) : Prop := IVh h ∧ QRE h
noncomputable def nocell (M : List Rng) (a : Nat) : Bool := M.all (fun r => !(Nat.beq r.1 a))
noncomputable def clB (M : List Rng) : Bool := [15, 18, 25, 28, 34, 37, 43, 46, 52].all (nocell M)
noncomputable def rwB (M : List Rng) : Bool := [83, 84, 85].all (nocell M)
noncomputable def stB (M : List Rng) : Bool := clB M && rwB M
noncomputable def qrB (M : List Rng) : Bool := resB M && stB M
theorem nc_at {M : List Rng} {L : List Nat} (h : L.all (nocell M) = true) {a : Nat} (ha : a ∈ L) : M.all (fun r => !(Nat.beq r.1 a)) = true := List.all_eq_true.mp h a ha
theorem KEE_15 {M : List Rng} {h h' : pm_H} (hf : fr_g M h h') (hb : clB M = true) : KEE 15 h h' := KEE_fr hf (nc_at hb (by decide)) (nc_at hb (by decide))
theorem KEE_im {M : List Rng} {h h' : pm_H} (hf : fr_g M h h') (hb : clB M = true) : ∀ k, k < 3 → KEE (imA k) h h'
  | 0, _ => KEE_fr hf (nc_at hb (by decide)) (nc_at hb (by decide))
  | 1, _ => KEE_fr hf (nc_at hb (by decide)) (nc_at hb (by decide))
  | 2, _ => KEE_fr hf (nc_at hb (by decide)) (nc_at hb (by decide))
theorem KE9_fr {M : List Rng} {h h' : pm_H} (hf : fr_g M h h') (hb : rwB M = true) (r : Nat) : KE9 r h h' := ⟨fr_gi hf (rg_no (nc_at hb (by decide)) _), fun _ _ => fr_gi hf (rg_no (nc_at hb (by decide)) _), fun _ _ => fr_gi hf (rg_no (nc_at hb (by decide)) _)⟩
theorem RST_fr {M : List Rng} {h h' : pm_H} (hf : fr_g M h h') (hb : stB M = true) (R : RST h) : RST h' := by
  unfold stB at hb
  rw [Bool.and_eq_true] at hb
  refine ⟨ST_cp (KEE_c (KEE_15 hf hb.1)) (KE9_c (KE9_fr hf hb.2 0)) R.1, fun k hk q => ?_⟩
  rw [fr_gi hf (rg_no (nc_at hb.1 (by decide)) _)] at q
  exact ST_cp (KEE_c (KEE_im hf hb.1 k hk)) (KE9_c (KE9_fr hf hb.2 _)) (R.2 k hk q)
theorem QRE_fr {M : List Rng} {h h' : pm_H} (hf : fr_g M h h') (hb : qrB M = true) (R : QRE h) : QRE h' := by
  unfold qrB at hb
  rw [Bool.and_eq_true] at hb
  exact ⟨RES_fr hf hb.1 R.1, RST_fr hf hb.2 R.2⟩
theorem tQ_int {d y : Nat} {h : pm_H} {as : List Value} {M : List Rng} (hd : Nat.ble d 100 = true) (hM : qrB M = true) (R : QRE h) (k : Sp d y h as (fun h' r => IVh h' ∧ fr_g M h h' ∧ ∃ x : Int32, r = some (.int x))) : Sp 100 y h as (fun h' r => IVQ h' ∧ ∃ x : Int32, r = some (.int x)) :=
  Sp_le (Nat.le_of_ble_eq_true hd) (Sp_mono (fun _ _ q => ⟨⟨q.1, QRE_fr q.2.1 hM R⟩, q.2.2⟩) k)
theorem tQ_lng {d y : Nat} {h : pm_H} {as : List Value} {M : List Rng} (hd : Nat.ble d 100 = true) (hM : qrB M = true) (R : QRE h) (k : Sp d y h as (fun h' r => IVh h' ∧ fr_g M h h' ∧ ∃ x : Int64, r = some (.long x))) : Sp 100 y h as (fun h' r => IVQ h' ∧ ∃ x : Int64, r = some (.long x)) :=
  Sp_le (Nat.le_of_ble_eq_true hd) (Sp_mono (fun _ _ q => ⟨⟨q.1, QRE_fr q.2.1 hM R⟩, q.2.2⟩) k)
theorem hf_Q {d y : Nat} {h : pm_H} {as : List Value} {M : List Rng} {P : pm_H → Int32 → Prop} {U : pm_H → Option Value → Prop} (hd : d ≤ 100) (hM : stB M = true) (S : RST h) (a : Sp 100 y h as (fun h' r => IVh h' ∧ ∃ x : Int32, r = some (.int x) ∧ P h' x)) (b : Sp d y h as (fun h' r => U h' r ∧ fr_g M h h')) : Sp 100 y h as (fun h' r => IVh h' ∧ ∃ x : Int32, r = some (.int x) ∧ (P h' x ∧ RST h')) :=
  Sp_mono (fun _ _ q => by
    obtain ⟨⟨q1, x, q2, q3⟩, -, q4⟩ := q
    exact ⟨q1, x, q2, q3, RST_fr q4 hM S⟩) (Sp_an a (Sp_le hd b))
theorem hs_Q {d y : Nat} {h : pm_H} {as : List Value} {M : List Rng} {P : Option Value → Prop} {U : pm_H → Option Value → Prop} (hd : d ≤ 100) (hM : stB M = true) (S : RST h) (a : Sp 100 y h as (fun h' r => IVS h' ∧ P r)) (b : Sp d y h as (fun h' r => U h' r ∧ fr_g M h h')) : Sp 100 y h as (fun h' r => IVQ h' ∧ P r) :=
  Sp_mono (fun _ _ q => by
    obtain ⟨⟨q1, q2⟩, -, q4⟩ := q
    exact ⟨⟨q1.1, q1.2, RST_fr q4 hM S⟩, q2⟩) (Sp_an a (Sp_le hd b))
section OLQ
variable {h : pm_H} {x v a b c d e : Int32} {w : Int64}
theorem g8_feed (I : IVQ h) : Sp 100 106 h [.ref 0, .int a, .int b, .int c, .int d, .int e] (fun h' r => IVh h' ∧ ∃ x : Int32, r = some (.int x) ∧ ((half_feed h' x a b c d e ∧ SL h') ∧ RST h')) :=
  hf_Q (by first | decide | with_reducible assumption | omega) rfl I.2.2 (d8_feed ⟨I.1, I.2.1⟩) (tf_all (as := [.ref 0, .int a, .int b, .int c, .int d, .int e]) q1 (by decide +kernel) I.1 ⟨rfl, aI _, aI _, aI _, aI _, aI _, trivial⟩)
theorem g9_feed (I : IVh h) (J : (half_feed h x a b c d e ∧ SL h) ∧ RST h) : Sp 100 247 h [.ref 77, .int a, .int b, .int c, .int d, .int e] (fun h' r => IVQ h' ∧ r = some (.int x)) :=
  hs_Q (by first | decide | with_reducible assumption | omega) rfl J.2 (d9_feed I J.1) (tf_all (as := [.ref 77, .int a, .int b, .int c, .int d, .int e]) q7 (by decide +kernel) I ⟨rfl, aI _, aI _, aI _, aI _, aI _, trivial⟩)
theorem g8_end (I : IVQ h) : Sp 100 101 h [.ref 0, .int v] (fun h' r => IVh h' ∧ ∃ x : Int32, r = some (.int x) ∧ ((half_end h' x v ∧ SL h') ∧ RST h')) :=
  hf_Q (by first | decide | with_reducible assumption | omega) rfl I.2.2 (d8_end ⟨I.1, I.2.1⟩) (tf_all (as := [.ref 0, .int v]) q8 (by decide +kernel) I.1 ⟨rfl, aI _, trivial⟩)
theorem g9_end (I : IVh h) (J : (half_end h x v ∧ SL h) ∧ RST h) : Sp 100 241 h [.ref 77, .int v] (fun h' r => IVQ h' ∧ r = some (.int x)) :=
  hs_Q (by first | decide | with_reducible assumption | omega) rfl J.2 (d9_end I J.1) (tf_all (as := [.ref 77, .int v]) q10 (by decide +kernel) I ⟨rfl, aI _, trivial⟩)
theorem g8_row (I : IVQ h) : Sp 100 171 h [.ref 0, .int a, .int b, .int c] (fun h' r => IVh h' ∧ ∃ x : Int32, r = some (.int x) ∧ (half_row h' x a b c ∧ RST h')) :=
  hf_Q (by first | decide | with_reducible assumption | omega) rfl I.2.2 (d8_row ⟨I.1, I.2.1⟩) (tf_all (as := [.ref 0, .int a, .int b, .int c]) q949 (by decide +kernel) I.1 ⟨rfl, aI _, aI _, aI _, trivial⟩)
theorem g9_row (I : IVh h) (J : half_row h x a b c ∧ RST h) : Sp 100 338 h [.ref 77, .int a, .int b, .int c] (fun h' r => IVQ h' ∧ r = some (.int x)) :=
  hs_Q (by first | decide | with_reducible assumption | omega) rfl J.2 (d9_row I J.1) (tf_all (as := [.ref 77, .int a, .int b, .int c]) q950 (by decide +kernel) I ⟨rfl, aI _, aI _, aI _, trivial⟩)
theorem g8_write (I : IVQ h) : Sp 100 203 h [.ref 0, .int a, .int b, .long w] (fun h' r => IVh h' ∧ ∃ x : Int32, r = some (.int x) ∧ (half_write h' x a b ∧ RST h')) :=
  hf_Q (by first | decide | with_reducible assumption | omega) rfl I.2.2 (d8_write ⟨I.1, I.2.1⟩) (tf_all (as := [.ref 0, .int a, .int b, .long w]) q952 (by decide +kernel) I.1 ⟨rfl, aI _, aI _, aL _, trivial⟩)
theorem g9_write (I : IVh h) (J : half_write h x a b ∧ RST h) : Sp 100 380 h [.ref 77, .int a, .int b, .long w] (fun h' r => IVQ h' ∧ r = some (.int x)) :=
  hs_Q (by first | decide | with_reducible assumption | omega) rfl J.2 (d9_write I J.1) (tf_all (as := [.ref 77, .int a, .int b, .long w]) q955 (by decide +kernel) I ⟨rfl, aI _, aI _, aL _, trivial⟩)
theorem g8_paste (I : IVQ h) : Sp 100 158 h [.ref 0, .int a, .int b, .int c, .int d, .int e] (fun h' r => IVh h' ∧ ∃ x : Int32, r = some (.int x) ∧ (half_paste h' x a b c d e ∧ RST h')) :=
  hf_Q (M := PM) (U := fun h' _ => HH h') (d := 2) (by first | decide | with_reducible assumption | omega) rfl I.2.2 (d8_paste ⟨I.1, I.2.1⟩) (Sp_mono (fun _ _ q => ⟨q.1, q.2.1⟩) (sp_paste8 (d := 0) I.1.1))
theorem g9_paste (I : IVh h) (J : half_paste h x a b c d e ∧ RST h) : Sp 100 323 h [.ref 77, .int a, .int b, .int c, .int d, .int e] (fun h' r => IVQ h' ∧ r = some (.int x)) :=
  hs_Q (by first | decide | with_reducible assumption | omega) rfl J.2 (d9_paste I J.1) (tf_all (as := [.ref 77, .int a, .int b, .int c, .int d, .int e]) q961 (by decide +kernel) I ⟨rfl, aI _, aI _, aI _, aI _, aI _, trivial⟩)
end OLQ
/-! image and back -/
noncomputable def half_imQ (h : pm_H) (x v : Int32) : Prop := (half_image h x v ∧ SL h) ∧ ST 15 0 h ∧ ∀ j, j < 3 → (v = nJ j ∧ ST (imA j) 0 h) ∨ (¬ v = nJ j ∧ (¬ gi h 88 j = 0 → ST (imA j) (j + 1) h))
theorem g8_image {h : pm_H} {v : Int32} (I : IVQ h) : Sp 100 121 h [.ref 0, .int v] (fun h' r => IVh h' ∧ ∃ x : Int32, r = some (.int x) ∧ half_imQ h' x v) := by
  refine Sp_mono ?_ (Sp_an (d8_image ⟨I.1, I.2.1⟩) (Sp_le (by first | exact Nat.add_le_add_left (Nat.le_of_ble_eq_true rfl) _ | exact Nat.le_of_ble_eq_true rfl | omega) (Sp_and (tf_all (as := [.ref 0, .int v]) q905 (by decide +kernel) I.1 ⟨rfl, aI _, trivial⟩) (sp_imageX8 I.1.1))))
  rintro h' r ⟨⟨q1, x, q2, q3⟩, ⟨-, q4⟩, q5⟩
  have k9 : ∀ r, KE9 r h h' := KE9_fr q4 rfl
  have e88 : ∀ j, gi h' 88 j = gi h 88 j := fun j => fr_gi q4 (rg_no rfl _)
  have kp := I.2.1.1.2
  refine ⟨q1, x, q2, q3, ?_⟩
  rcases q5 with ⟨k, hk, rfl, c1, k1, k2⟩ | ⟨hr, rfl⟩
  · refine ⟨ST_cp (KEE_c k1) (KE9_c (k9 0)) I.2.2.1, fun j hj => ?_⟩
    by_cases e : j = k
    · subst e
      exact .inl ⟨rfl, ST_cp c1 (KE9_c (k9 0)) I.2.2.1⟩
    · refine .inr ⟨fun q => e ((nJ_eq (by first | decide | with_reducible assumption | omega) (by first | decide | with_reducible assumption | omega)).mp q).symm, fun q => ?_⟩
      rw [e88 j, ← kp j hj] at q
      exact ST_cp (KEE_c (k2 j hj e)) (KE9_c (k9 _)) (I.2.2.2 j hj q)
  · refine ⟨I.2.2.1, fun j hj => .inr ⟨fun q => hr (by rw [q, nJ_toInt (by first | decide | with_reducible assumption | omega)]; omega), fun q => ?_⟩⟩
    rw [← kp j hj] at q
    exact I.2.2.2 j hj q
theorem g9_image {h : pm_H} {x v : Int32} (I : IVh h) (J : half_imQ h x v) : Sp 100 260 h [.ref 77, .int v] (fun h' r => IVQ h' ∧ r = some (.int x)) := by
  refine Sp_mono ?_ (Sp_an (d9_image I J.1) (Sp_le (by first | exact Nat.add_le_add_left (Nat.le_of_ble_eq_true rfl) _ | exact Nat.le_of_ble_eq_true rfl | omega) (Sp_and (tv_image (d := 0) I.1 I.2.2) (sp_imageX9 (d := 0) I.1))))
  rintro h' r ⟨⟨q1, q2⟩, ⟨-, q4, -, -, q88⟩, q5⟩
  obtain ⟨-, s0, sj⟩ := J
  have cl : clB VMI = true := rfl
  have kp : ∀ j, j < 3 → gi h' 52 j = gi h' 88 j := q1.2.1.2
  refine ⟨⟨q1.1, q1.2, ?_⟩, q2⟩
  rcases q5 with ⟨k, hk, rfl, c1, k2⟩ | ⟨hr, k2⟩
  · refine ⟨ST_cp (KEE_c (KEE_15 q4 cl)) (KE9_c (k2 0 (by first | decide | with_reducible assumption | omega) (by first | decide | with_reducible assumption | omega))) s0, fun j hj q => ?_⟩
    rcases sj j hj with ⟨e, s⟩ | ⟨e, s⟩
    · have e := (nJ_eq (by first | decide | with_reducible assumption | omega) (by first | decide | with_reducible assumption | omega)).mp e
      subst e
      exact ST_cp (KEE_c (KEE_im q4 cl _ hj)) c1 s
    · rw [kp j hj, q88 j hj, if_neg e] at q
      have ne : j ≠ k := fun z => e (by rw [z])
      exact ST_cp (KEE_c (KEE_im q4 cl _ hj)) (KE9_c (k2 (j + 1) (by first | decide | with_reducible assumption | omega) (by first | decide | with_reducible assumption | omega))) (s q)
  · refine ⟨ST_cp (KEE_c (KEE_15 q4 cl)) (KE9_c (k2 0)) s0, fun j hj q => ?_⟩
    rcases sj j hj with ⟨e, -⟩ | ⟨e, s⟩
    · exact absurd (by rw [e, nJ_toInt (by first | decide | with_reducible assumption | omega)]; omega) hr
    · rw [kp j hj, q88 j hj, if_neg e] at q
      exact ST_cp (KEE_c (KEE_im q4 cl _ hj)) (KE9_c (k2 _)) (s q)
noncomputable def half_bkQ (h : pm_H) (x v : Int32) : Prop := (half_back h x v ∧ SL h) ∧ IMG h ∧ ((∃ k, k < 3 ∧ v = nJ k ∧ ¬ gi h 88 k = 0 ∧ ST 15 (k + 1) h) ∨ (¬ (∃ k, k < 3 ∧ v = nJ k ∧ ¬ gi h 88 k = 0) ∧ ST 15 0 h))
theorem g8_back {h : pm_H} {v : Int32} (I : IVQ h) : Sp 100 82 h [.ref 0, .int v] (fun h' r => IVh h' ∧ ∃ x : Int32, r = some (.int x) ∧ half_bkQ h' x v) := by
  refine Sp_mono ?_ (Sp_an (d8_back ⟨I.1, I.2.1⟩) (Sp_le (by first | exact Nat.add_le_add_left (Nat.le_of_ble_eq_true rfl) _ | exact Nat.le_of_ble_eq_true rfl | omega) (Sp_and (tf_all (as := [.ref 0, .int v]) q927 (by decide +kernel) I.1 ⟨rfl, aI _, trivial⟩) (sp_backX8 I.1.1))))
  rintro h' r ⟨⟨q1, x, q2, q3⟩, ⟨-, q4⟩, q5⟩
  have k9 : ∀ r, KE9 r h h' := KE9_fr q4 rfl
  have e88 : ∀ j, gi h' 88 j = gi h 88 j := fun j => fr_gi q4 (rg_no rfl _)
  have e52 : ∀ j, gi h' 52 j = gi h 52 j := fun j => fr_gi q4 (rg_no rfl _)
  have kp := I.2.1.1.2
  refine ⟨q1, x, q2, q3, ?_⟩
  rcases q5 with ⟨k, hk, rfl, nz, c1, k2⟩ | ⟨hr, rfl⟩
  · refine ⟨fun j hj q => ?_, .inl ⟨k, hk, rfl, by rw [e88, ← kp k hk]; exact nz, ST_cp c1 (KE9_c (k9 _)) (I.2.2.2 k hk nz)⟩⟩
    rw [e52] at q
    exact ST_cp (KEE_c (k2 j hj)) (KE9_c (k9 _)) (I.2.2.2 j hj q)
  · refine ⟨I.2.2.2, .inr ⟨?_, I.2.2.1⟩⟩
    rintro ⟨k, hk, e, nz⟩
    exact hr ⟨k, hk, e, by rw [kp k hk]; exact nz⟩
theorem g9_back {h : pm_H} {x v : Int32} (I : IVh h) (J : half_bkQ h x v) : Sp 100 212 h [.ref 77, .int v] (fun h' r => IVQ h' ∧ r = some (.int x)) := by
  refine Sp_mono ?_ (Sp_an (d9_back I J.1) (Sp_le (by first | exact Nat.add_le_add_left (Nat.le_of_ble_eq_true rfl) _ | exact Nat.le_of_ble_eq_true rfl | omega) (Sp_and (tv_back (d := 0) I.1 I.2.2) (sp_backX9 (d := 0) I.1))))
  rintro h' r ⟨⟨q1, q2⟩, ⟨-, q4, -, -⟩, q5⟩
  obtain ⟨-, im, s⟩ := J
  have cl : clB VM = true := rfl
  have e52 : ∀ j, gi h' 52 j = gi h 52 j := fun j => fr_gi q4 (rg_no rfl _)
  refine ⟨⟨q1.1, q1.2, ?_⟩, q2⟩
  rcases q5 with ⟨k, hk, rfl, nz, c1, k2⟩ | ⟨hr, k2⟩
  · rcases s with ⟨j, hj, e, -, s⟩ | ⟨e, -⟩
    · have e := (nJ_eq (by first | decide | with_reducible assumption | omega) (by first | decide | with_reducible assumption | omega)).mp e
      subst e
      refine ⟨ST_cp (KEE_c (KEE_15 q4 cl)) c1 s, fun j hj q => ?_⟩
      rw [e52] at q
      exact ST_cp (KEE_c (KEE_im q4 cl _ hj)) (KE9_c (k2 (j + 1) (by first | decide | with_reducible assumption | omega) (by first | decide | with_reducible assumption | omega))) (im j hj q)
    · exact absurd ⟨k, hk, rfl, nz⟩ e
  · rcases s with ⟨j, hj, e, nz, -⟩ | ⟨-, s⟩
    · exact absurd ⟨j, hj, e, nz⟩ hr
    · refine ⟨ST_cp (KEE_c (KEE_15 q4 cl)) (KE9_c (k2 0)) s, fun j hj q => ?_⟩
      rw [e52] at q
      exact ST_cp (KEE_c (KEE_im q4 cl _ hj)) (KE9_c (k2 _)) (im j hj q)
end
section
/-! pairs over the streets' relation, II: street, undo, anew, rate, wants, trades, count (wants t61) -/
theorem prs_inv {T : Nat → Int32} {L : Nat} (f : Nat) : ∀ {n s : Nat} {σ : Sg}, Ws n σ → n ≤ s → s ≤ L → L < s + f → isR (prs T L f n σ s).1 = true → Ws (prs T L f n σ s).2.1 (prs T L f n σ s).2.2 ∧ (prs T L f n σ s).2.1 ≤ L := by
  induction f with
  | zero => intro n s σ _ _ h1 h2; omega
  | succ f ih =>
    intro n s σ W ns sL hL hr
    by_cases b2 : tkk T L s = 0
    · rw [prs_end b2]
      exact ⟨W, by show n ≤ L; omega⟩
    · cases x1 : bS T L (ln T L n σ s).1 with
      | inl e =>
        rw [prs_bad b2 x1] at hr
        cases hr
      | inr s' =>
        obtain ⟨t, et, k3, es⟩ := bS_in x1
        have tl := tkk_lt (T := T) (L := L) (s := t) (by first | decide | with_reducible assumption | omega)
        have nx := nxt_le (T := T) (Nat.le_of_lt tl)
        have nx2 := nx.2.2 tl
        have ge := ge_ln (T := T) (n := n) (σ := σ) sL
        rw [et] at ge
        have ge1 : s ≤ t := ge.1
        rw [prs_go b2 x1] at hr ⊢
        exact ih (Ws_ln W et) (by first | decide | with_reducible assumption | omega) (by first | decide | with_reducible assumption | omega) (by first | decide | with_reducible assumption | omega) hr
theorem PRS_inv {T : Nat → Int32} {L : Nat} (hr : isR (PRS T L).1 = true) : Ws (PRS T L).2.1 (PRS T L).2.2 ∧ (PRS T L).2.1 ≤ L := by
  have sk := skp_le (T := T) (L := L) (i := 0) (Nat.zero_le _)
  exact prs_inv (L + 1) (.inl ⟨rfl, rfl, rfl, rfl⟩) (Nat.zero_le _) sk.2 (by first | decide | with_reducible assumption | omega) hr
noncomputable def imB (M : List Rng) : Bool := [25, 28, 34, 37, 43, 46, 52].all (nocell M)
theorem KEE_imB {M : List Rng} {h h' : pm_H} (hf : fr_g M h h') (hb : imB M = true) : ∀ k, k < 3 → KEE (imA k) h h'
  | 0, _ => KEE_fr hf (nc_at hb (by decide)) (nc_at hb (by decide))
  | 1, _ => KEE_fr hf (nc_at hb (by decide)) (nc_at hb (by decide))
  | 2, _ => KEE_fr hf (nc_at hb (by decide)) (nc_at hb (by decide))
theorem IMG_fr {M : List Rng} {h h' : pm_H} (hf : fr_g M h h') (hb : imB M = true) (k9 : ∀ r, 1 ≤ r → r ≤ 3 → KE9 r h h') (R : IMG h) : IMG h' := fun k hk q => by
  rw [fr_gi hf (rg_no (nc_at hb (by decide)) _)] at q
  exact ST_cp (KEE_c (KEE_imB hf hb k hk)) (KE9_c (k9 _ (by first | decide | with_reducible assumption | omega) (by first | decide | with_reducible assumption | omega))) (R k hk q)
theorem ST1_k {h h' : pm_H} (c : ∀ k, k ≤ 5 → gi h' 15 k = gi h 15 k) (r0 : gi h' 83 0 = gi h 83 0) (r : ∀ k, k < 5 → gi h' 84 k = gi h 84 k) (S : ST1 15 0 h) : ST1 15 0 h' := by
  obtain ⟨s1, s2, s3, s4, s5⟩ := S
  have e : ∀ k, 6 * 0 + k = k := fun k => by omega
  refine ⟨by rw [c 3 (by first | decide | with_reducible assumption | omega), r0]; exact s1, fun k hk => ?_, ?_, ?_, ?_⟩
  · have := s2 k hk
    rw [e] at this ⊢
    rw [c k (by first | decide | with_reducible assumption | omega), r k (by first | decide | with_reducible assumption | omega)]; exact this
  · rw [c 4 (by first | decide | with_reducible assumption | omega), r 3 (by first | decide | with_reducible assumption | omega)]; exact s3
  · rw [c 5 (by first | decide | with_reducible assumption | omega), r 4 (by first | decide | with_reducible assumption | omega)]; exact s4
  · rw [c 3 (by first | decide | with_reducible assumption | omega), gn_eq (c 0 (by first | decide | with_reducible assumption | omega))]; exact s5
theorem STD_k {h h' : pm_H} (c : gi h' 15 4 = gi h 15 4) (c2 : ∀ i, gi h' 18 i = gi h 18 i) (r : ∀ i, i < 16 → gi h' 85 i = gi h 85 i) (S : STD 15 0 h) : STD 15 0 h' := fun i hi q => by
  rw [gn_eq c] at q
  show gi h' 18 i = gi h' 85 (16 * 0 + (2 * i + 1))
  rw [c2, r _ (by first | decide | with_reducible assumption | omega)]
  exact S i hi q
/-! street -/
noncomputable def half_stQ (h : pm_H) (x : Int32) : Prop := gn h 1 1 = 0 ∧ KP h ∧ SL h ∧ IMG h ∧ ∃ (T : Nat → Int32) (L : Nat), TB T L h ∧ x = stv (PRS T L) ∧ (isR (PRS T L).1 = true → C0 (PRS T L).2.1 (PRS T L).2.2 h) ∧ (isR (PRS T L).1 = false → ST 15 0 h)
theorem g8_street {h : pm_H} (I : IVQ h) : Sp 100 185 h [.ref 0] (fun h' r => IVh h' ∧ ∃ x : Int32, r = some (.int x) ∧ half_stQ h' x) := by
  have hh : HH h := I.1.1
  have l5 : gn h 1 1 ≤ 500 := gn_hi hh rfl (by decide)
  have A : TA (gi h 2) (gn h 1 1) h := ⟨hh, gi_gn hh rfl (by decide), l5, fun _ _ => rfl⟩
  refine Sp_le (by first | exact Nat.add_le_add_left (Nat.le_of_ble_eq_true rfl) _ | exact Nat.le_of_ble_eq_true rfl | omega) (Sp_mono ?_ (Sp_and (top_all (as := [.ref 0]) q106 (by decide +kernel) I.1 ⟨rfl, trivial⟩) (sp_street8 (d := 0) A)))
  rintro h' r ⟨⟨s1, s2, -⟩, rfl, hh', g1, -, -, good, bad⟩
  obtain ⟨T1, T2⟩ := I.2.1.1.1
  have k9 : ∀ r, KE9 r h h' := KE9_fr s2 rfl
  refine ⟨s1, _, rfl, gn_of g1 (by first | decide | with_reducible assumption | omega), KP_fr s2 rfl I.2.1.1.2, SL_fr s2 rfl I.2.1.2, IMG_fr s2 rfl (fun r _ _ => k9 r) I.2.2.2, gi h 2, gn h 1 1, ⟨hh', ?_, l5, fun j hj => ?_⟩, rfl, good, fun q => ?_⟩
  · rw [fr_gi s2 rfl, T1]
    exact gi_gn hh rfl (by decide)
  · rw [fr_gi s2 (rg_no rfl _)]
    exact (T2 j hj).symm
  · exact ST_cp (KEE_c (KEE_15 (bad q) rfl)) (KE9_c (k9 0)) I.2.2.1
theorem g9_street {h : pm_H} {x : Int32} (I : IVh h) (J : half_stQ h x) : Sp 100 354 h [.ref 77] (fun h' r => IVQ h' ∧ r = some (.int x)) := by
  obtain ⟨j1, j2, j3, j4, T, L, B, rfl, good, bad⟩ := J
  have l5 := B.2.2.1
  refine Sp_le (by first | exact Nat.add_le_add_left (Nat.le_of_ble_eq_true rfl) _ | exact Nat.le_of_ble_eq_true rfl | omega) (Sp_mono ?_ (Sp_and (tv_street (d := 0) I.1 I.2.2) (sp_street9 (d := 0) B)))
  rintro h' r ⟨⟨a1, a2, a3, a4, a5⟩, rfl, -, -, -, -, gd, bd, ro⟩
  have e11 : gn h' 1 1 = gn h 1 1 := fr_gn a2 rfl
  have c : ∀ a k, 15 ≤ a → a ≤ 61 → gi h' a k = gi h a k := fun a k x1 x2 => fr_gi a2 (rg_no (by simp [VMS, VM, show Nat.beq 77 a = false from nbeqF (by first | decide | with_reducible assumption | omega), show Nat.beq 83 a = false from nbeqF (by first | decide | with_reducible assumption | omega), show Nat.beq 84 a = false from nbeqF (by first | decide | with_reducible assumption | omega), show Nat.beq 85 a = false from nbeqF (by first | decide | with_reducible assumption | omega), show Nat.beq 86 a = false from nbeqF (by first | decide | with_reducible assumption | omega), show Nat.beq 87 a = false from nbeqF (by first | decide | with_reducible assumption | omega), show Nat.beq 89 a = false from nbeqF (by first | decide | with_reducible assumption | omega), show Nat.beq 90 a = false from nbeqF (by first | decide | with_reducible assumption | omega), show Nat.beq 91 a = false from nbeqF (by first | decide | with_reducible assumption | omega), show Nat.beq 92 a = false from nbeqF (by first | decide | with_reducible assumption | omega), show Nat.beq 93 a = false from nbeqF (by first | decide | with_reducible assumption | omega), show Nat.beq 94 a = false from nbeqF (by first | decide | with_reducible assumption | omega), show Nat.beq 95 a = false from nbeqF (by first | decide | with_reducible assumption | omega), show Nat.beq 96 a = false from nbeqF (by first | decide | with_reducible assumption | omega), show Nat.beq 97 a = false from nbeqF (by first | decide | with_reducible assumption | omega), show Nat.beq 98 a = false from nbeqF (by first | decide | with_reducible assumption | omega), show Nat.beq 99 a = false from nbeqF (by first | decide | with_reducible assumption | omega), show Nat.beq 100 a = false from nbeqF (by first | decide | with_reducible assumption | omega), show Nat.beq 101 a = false from nbeqF (by first | decide | with_reducible assumption | omega), show Nat.beq 102 a = false from nbeqF (by first | decide | with_reducible assumption | omega)]) k)
  refine ⟨⟨IVh_fr (M := VMS) (by decide +kernel) a2 a1 I a3, ⟨⟨⟨by omega, fun j hj => by omega⟩, KP_fr a2 rfl j2⟩, SL_fr a2 rfl j3⟩, ?_, IMG_fr a2 rfl (fun r q1 q2 => ro r q2 q1) j4⟩, rfl⟩
  cases hr : isR (PRS T L).1 with
  | false => exact ST_cp (KEE_c (KEE_15 a2 rfl)) (KE9_c (KE9_st (bd hr) 0 (by first | decide | with_reducible assumption | omega))) (bad hr)
  | true =>
    obtain ⟨W, nL⟩ := PRS_inv hr
    obtain ⟨p0, p1, p2, p3, p4, p5, p6, pc, pj⟩ := good hr
    obtain ⟨q3, q0, q1, q2, q4, q5, q6, qc, qj⟩ := gd hr
    generalize (PRS T L).2.1 = n at W nL p3 q3
    generalize (PRS T L).2.2 = σ at W p0 p1 p2 p4 p5 pc pj q0 q1 q2 q4 q5 qc qj
    have cb : σ.1.1 ≤ 8 ∧ σ.2.1.1 ≤ 8 ∧ (σ.1.1 = 0 ↔ n = 0) := by
      rcases W with ⟨w1, w2, w3, -⟩ | ⟨w1, w2, w3, w4, -⟩ <;> omega
    refine ⟨⟨?_, fun k hk => ?_, ?_, ?_, ?_⟩, ?_, fun i hi q => ?_⟩
    · rw [c 15 3 (by first | decide | with_reducible assumption | omega) (by first | decide | with_reducible assumption | omega), p3, q3]
    · match k, hk with
      | 0, _ => rw [c 15 0 (by first | decide | with_reducible assumption | omega) (by first | decide | with_reducible assumption | omega), p0]; exact q0.symm
      | 1, _ => rw [c 15 1 (by first | decide | with_reducible assumption | omega) (by first | decide | with_reducible assumption | omega), p1]; exact q1.symm
      | 2, _ => rw [c 15 2 (by first | decide | with_reducible assumption | omega) (by first | decide | with_reducible assumption | omega), p2]; exact q2.symm
    · rw [c 15 4 (by first | decide | with_reducible assumption | omega) (by first | decide | with_reducible assumption | omega), p4]; exact q4.symm
    · rw [c 15 5 (by first | decide | with_reducible assumption | omega) (by first | decide | with_reducible assumption | omega), p5]; exact q5.symm
    · rw [c 15 3 (by first | decide | with_reducible assumption | omega) (by first | decide | with_reducible assumption | omega), p3, gn_eq (c 15 0 (by first | decide | with_reducible assumption | omega) (by first | decide | with_reducible assumption | omega)), gn_of p0 (by first | decide | with_reducible assumption | omega), nJ_toInt (by first | decide | with_reducible assumption | omega)]
      omega
    · show gi h' 15 6 = gi h' 84 (6 * 0 + 5)
      rw [c 15 6 (by first | decide | with_reducible assumption | omega) (by first | decide | with_reducible assumption | omega), p6]; exact q6.symm
    · rw [gn_eq (c 15 4 (by first | decide | with_reducible assumption | omega) (by first | decide | with_reducible assumption | omega)), gn_of p4 (by first | decide | with_reducible assumption | omega)] at q
      show gi h' 18 i = gi h' 85 (16 * 0 + (2 * i + 1))
      rw [c 18 i (by first | decide | with_reducible assumption | omega) (by first | decide | with_reducible assumption | omega), (pc i hi q).2.2, show 16 * 0 + (2 * i + 1) = 2 * i + 1 by omega, (qc i hi q).2]
/-! undo, anew -/
theorem act7 {h : pm_H} (I : IVh h) : ∀ i, i < 20 → ¬ gi h 23 i = 0 → gn h 22 i ≤ 7 := by
  have f := I.2.1 41 (by decide)
  rw [show (41 : Nat) = 21 * 1 + 20 from rfl, fl0_f (f := 1) (j := 20) (by first | decide | with_reducible assumption | omega) rfl] at f
  intro i hi nz
  have l1 := (ld_gi I.1 (a := 23) (k := i) (q := (0, 1)) (bd_u rfl hi)).1
  have l2 := (ld_gi I.1 (a := 22) (k := i) (q := (0, 8)) (bd_u rfl hi)).1
  have q := f i hi (by first | decide | with_reducible assumption | omega) (gi h 23 i) (gi h 22 i) (by rw [show 0 + 1 * i = i by omega]; exact l1) (by rw [show 0 + 1 * i = i by omega]; exact l2) (fun z => nz (Int32.toInt_inj.mp z))
  unfold gn
  omega
theorem lnp_0 {h : pm_H} (S : ST1 15 0 h) : gn h 15 0 = 0 ↔ lnp h = 0 := by
  obtain ⟨s1, -, -, -, s5⟩ := S
  rw [s5, s1]
  unfold lnp
  by_cases b : 0 < (gi h 83 0).toInt
  · rw [if_pos b]
    constructor
    · intro q; exact absurd b q
    · intro q; cases q
  · rw [if_neg b]
    exact ⟨fun _ => rfl, fun _ => b⟩
theorem udv_eq {p q a : Nat} (e : p = 0 ↔ q = 0) : udv p a = udv q a ∧ uda p a = uda q a ∧ anv p a = anv q a ∧ ana p a = ana q a := by
  unfold udv uda anv ana
  by_cases b : p = 0
  · have b2 := e.mp b
    rw [if_pos b, if_pos b2, if_pos b, if_pos b2, if_pos b, if_pos b2, if_pos b, if_pos b2]
    exact ⟨rfl, rfl, rfl, rfl⟩
  · have b2 : ¬ q = 0 := fun z => b (e.mpr z)
    rw [if_neg b, if_neg b2, if_neg b, if_neg b2, if_neg b, if_neg b2, if_neg b, if_neg b2]
    exact ⟨rfl, rfl, rfl, rfl⟩
theorem lnp_fr {h h' : pm_H} (e : gi h' 83 0 = gi h 83 0) : lnp h' = lnp h := by unfold lnp; rw [e]
/-- between: all but the acts, which are told -/
noncomputable def half_ac (h : pm_H) (a : Nat) : Prop := RES h ∧ IMG h ∧ ST1 15 0 h ∧ STD 15 0 h ∧ gi h 15 6 = nJ a
theorem ac_8 {M : List Rng} {h h' : pm_H} {a : Nat} (R : QRE h) (hf : fr_g M h h') (hb : resB M = true) (hi : imB M = true) (hr : rwB M = true) (h1 : ∀ k, k ≤ 5 → rg_in M 15 k = false) (h2 : M.all (fun r => !(Nat.beq r.1 18)) = true) (e : gi h' 15 6 = nJ a) : half_ac h' a := by
  have k9 : ∀ r, KE9 r h h' := KE9_fr hf hr
  refine ⟨RES_fr hf hb R.1, IMG_fr hf hi (fun r _ _ => k9 r) R.2.2, ST1_k (fun k hk => fr_gi hf (h1 k hk)) (k9 0).1 (fun k hk => ?_) R.2.1.1, STD_k (fr_gi hf (h1 4 (by first | decide | with_reducible assumption | omega))) (fun i => fr_gi hf (rg_no h2 _)) (fun i hi => ?_) R.2.1.2.2, e⟩
  · have := (k9 0).2.1 k (by first | decide | with_reducible assumption | omega)
    rw [show 6 * 0 + k = k by omega] at this
    exact this
  · have := (k9 0).2.2 i hi
    rw [show 16 * 0 + i = i by omega] at this
    exact this
theorem ac_9 {M : List Rng} {h h' : pm_H} {a : Nat} (J : half_ac h a) (hf : fr_g M h h') (hb : resB M = true) (hc : clB M = true) (s : SAM h h') (k9 : ∀ r, 1 ≤ r → r ≤ 3 → KE9 r h h') (e : gi h' 84 5 = nJ a) : QRE h' := by
  obtain ⟨j1, j2, j3, j4, j5⟩ := J
  have c : ∀ k, gi h' 15 k = gi h 15 k := fun k => fr_gi hf (rg_no (nc_at hc (by decide)) _)
  have im : imB M = true := by
    unfold clB at hc
    unfold imB
    rw [List.all_eq_true] at hc ⊢
    intro x hx
    exact hc x (by revert x; decide)
  refine ⟨RES_fr hf hb j1, ⟨ST1_k (fun k _ => c k) (s 83 0 (.inl rfl)) (fun k hk => s 84 k (.inr (.inr ⟨rfl, by omega⟩))) j3, ?_, STD_k (c 4) (fun i => fr_gi hf (rg_no (nc_at hc (by decide)) _)) (fun i _ => s 85 i (.inr (.inl rfl))) j4⟩, IMG_fr hf im k9 j2⟩
  show gi h' 15 6 = gi h' 84 (6 * 0 + 5)
  rw [c 6, j5]
  exact e.symm
theorem sam_k9 {h h' : pm_H} (s : SAM h h') : ∀ r, 1 ≤ r → r ≤ 3 → KE9 r h h' := fun r h1 _ => ⟨s 83 r (.inl rfl), fun k _ => s 84 _ (.inr (.inr ⟨rfl, by omega⟩)), fun k _ => s 85 _ (.inr (.inl rfl))⟩
theorem sam_fr {h h' : pm_H} (hf : fr_g [(77, 0, 0), (84, 5, 5)] h h') : SAM h h' := fun a k q => by
  rcases q with rfl | rfl | ⟨rfl, hk⟩
  · exact fr_gi hf (rg_no rfl _)
  · exact fr_gi hf (rg_no rfl _)
  · refine fr_gi hf ?_
    show (Nat.beq 77 84 && (Nat.ble 0 k && Nat.ble k 0) || (Nat.beq 84 84 && (Nat.ble 5 k && Nat.ble k 5) || false)) = false
    have : (Nat.ble 5 k && Nat.ble k 5) = false := by
      cases q : (Nat.ble 5 k && Nat.ble k 5) with
      | false => rfl
      | true =>
        rw [Bool.and_eq_true, nble, nble] at q
        omega
    rw [this]
    rfl
section UNQ
variable {h : pm_H} {x : Int32}
noncomputable def half_unQ (h : pm_H) (x : Int32) : Prop := half_ac h (uda (lnp h) (gn h 84 5)) ∧ x = udv (lnp h) (gn h 84 5)
noncomputable def half_anQ (h : pm_H) (x : Int32) : Prop := half_ac h (ana (lnp h) (gn h 84 5)) ∧ x = anv (lnp h) (gn h 84 5)
theorem acts_eq (R : QRE h) : gn h 15 6 = gn h 84 5 := gn_eq (show gi h 15 6 = gi h 84 5 from R.2.1.2.1)
theorem g8_undo (I : IVQ h) : Sp 100 195 h [.ref 0] (fun h' r => IVh h' ∧ ∃ x : Int32, r = some (.int x) ∧ half_unQ h' x) := by
  refine Sp_le (by first | exact Nat.add_le_add_left (Nat.le_of_ble_eq_true rfl) _ | exact Nat.le_of_ble_eq_true rfl | omega) (Sp_mono ?_ (Sp_and (top_all (as := [.ref 0]) q878 (by decide +kernel) I.1 ⟨rfl, trivial⟩) (sp_undo8 (d := 0) I.1.1 (act7 I.1))))
  rintro h' r ⟨⟨s1, s2, -⟩, rfl, g6⟩
  have u := udv_eq (a := gn h 84 5) (lnp_0 I.2.2.1.1)
  have e1 : lnp h' = lnp h := lnp_fr (fr_gi s2 (rg_no rfl _))
  have e2 : gn h' 84 5 = gn h 84 5 := fr_gn s2 (rg_no rfl _)
  rw [acts_eq I.2, u.2.1] at g6
  refine ⟨s1, _, rfl, ac_8 I.2 s2 rfl rfl rfl (fun k hk => ?_) rfl (by rw [e1, e2]; exact g6), by rw [e1, e2, acts_eq I.2, u.1]⟩
  match k, hk with
  | 0, _ => rfl
  | 1, _ => rfl
  | 2, _ => rfl
  | 3, _ => rfl
  | 4, _ => rfl
  | 5, _ => rfl
theorem g9_undo (I : IVh h) (J : half_unQ h x) : Sp 100 366 h [.ref 77] (fun h' r => IVQ h' ∧ r = some (.int x)) := by
  refine Sp_le (by first | exact Nat.add_le_add_left (Nat.le_of_ble_eq_true rfl) _ | exact Nat.le_of_ble_eq_true rfl | omega) (Sp_mono ?_ (Sp_and (tv_undo (d := 0) I.1 I.2.2) (sp_undo9 (d := 0) I.1)))
  rintro h' r ⟨⟨a1, a2, a3, -⟩, rfl, -, f9, g9⟩
  obtain ⟨J1, rfl⟩ := J
  exact ⟨⟨IVh_fr (M := VM) (by decide +kernel) a2 a1 I a3, ac_9 J1 f9 rfl rfl (sam_fr f9) (sam_k9 (sam_fr f9)) g9⟩, rfl⟩
theorem g8_anew (I : IVQ h) : Sp 100 79 h [.ref 0] (fun h' r => IVh h' ∧ ∃ x : Int32, r = some (.int x) ∧ half_anQ h' x) := by
  refine Sp_le (by first | exact Nat.add_le_add_left (Nat.le_of_ble_eq_true rfl) _ | exact Nat.le_of_ble_eq_true rfl | omega) (Sp_mono ?_ (Sp_and (top_all (as := [.ref 0]) q881 (by decide +kernel) I.1 ⟨rfl, trivial⟩) (sp_anew8 (d := 0) I.1.1)))
  rintro h' r ⟨⟨s1, s2, -⟩, rfl, g6⟩
  have u := udv_eq (a := gn h 84 5) (lnp_0 I.2.2.1.1)
  have e1 : lnp h' = lnp h := lnp_fr (fr_gi s2 (rg_no rfl _))
  have e2 : gn h' 84 5 = gn h 84 5 := fr_gn s2 (rg_no rfl _)
  rw [acts_eq I.2, u.2.2.2] at g6
  refine ⟨s1, _, rfl, ac_8 I.2 s2 rfl rfl rfl (fun k hk => ?_) rfl (by rw [e1, e2]; exact g6), by rw [e1, e2, acts_eq I.2, u.2.2.1]⟩
  match k, hk with
  | 0, _ => rfl
  | 1, _ => rfl
  | 2, _ => rfl
  | 3, _ => rfl
  | 4, _ => rfl
  | 5, _ => rfl
theorem g9_anew (I : IVh h) (J : half_anQ h x) : Sp 100 207 h [.ref 77] (fun h' r => IVQ h' ∧ r = some (.int x)) := by
  refine Sp_le (by first | exact Nat.add_le_add_left (Nat.le_of_ble_eq_true rfl) _ | exact Nat.le_of_ble_eq_true rfl | omega) (Sp_mono ?_ (Sp_and (tv_anew (d := 0) I.1 I.2.2) (sp_anew9 (d := 0) I.1)))
  rintro h' r ⟨⟨a1, a2, a3, -⟩, rfl, -, f9, g9⟩
  obtain ⟨J1, rfl⟩ := J
  exact ⟨⟨IVh_fr (M := VM) (by decide +kernel) a2 a1 I a3, ac_9 J1 f9 rfl rfl (sam_fr f9) (sam_k9 (sam_fr f9)) g9⟩, rfl⟩
end UNQ
section WNQ
variable {h : pm_H} {v w : Int32}
noncomputable def wq (h : pm_H) (v w : Int32) : Nat := wna (bif decide (0 < (gi h 83 0).toInt) then okW (gn h 84 3) (gn h 84 0) v w else false) (gn h 84 5)
noncomputable def tq (h : pm_H) (v w : Int32) : Nat := wna (okT (gn h 84 3) v w) (gn h 84 5)
theorem wq_eq (R : QRE h) : wna (okW (gn h 15 4) (gn h 15 0) v w) (gn h 15 6) = wq h v w := by
  obtain ⟨s1, s2, s3, s4, s5⟩ := R.2.1.1
  have e4 : gn h 15 4 = gn h 84 3 := gn_eq s3
  have e0 : gn h 15 0 = gn h 84 0 := gn_eq (s2 0 (by first | decide | with_reducible assumption | omega))
  unfold wq
  rw [acts_eq R, e4, e0]
  rw [e0, s1] at s5
  by_cases b : 0 < (gi h 83 0).toInt
  · rw [decide_eq_true b]; rfl
  · have p0 := s5.mpr b
    rw [decide_eq_false b]
    have : okW (gn h 84 3) (gn h 84 0) v w = false := decide_eq_false (fun q => by have := q.2; rw [p0] at this; omega)
    rw [this]
    rfl
theorem tq_eq (R : QRE h) : wna (okT (gn h 15 4) v w) (gn h 15 6) = tq h v w := by
  obtain ⟨s1, s2, s3, s4, s5⟩ := R.2.1.1
  have e4 : gn h 15 4 = gn h 84 3 := gn_eq s3
  unfold tq
  rw [acts_eq R, e4]
theorem g8_wants (I : IVQ h) : Sp 100 198 h [.ref 0, .int v, .int w] (fun h' r => IVh h' ∧ ∃ x : Int32, r = some (.int x) ∧ half_ac h' (wq h' v w)) := by
  refine Sp_le (by first | exact Nat.add_le_add_left (Nat.le_of_ble_eq_true rfl) _ | exact Nat.le_of_ble_eq_true rfl | omega) (Sp_mono ?_ (Sp_and (top_all (as := [.ref 0, .int v, .int w]) q868 (by decide +kernel) I.1 ⟨rfl, aI _, aI _, trivial⟩) (sp_wants8 (d := 0) I.1.1)))
  rintro h' r ⟨⟨s1, s2, -⟩, ⟨x, rfl⟩, g6⟩
  rw [wq_eq I.2] at g6
  have e1 : gi h' 83 0 = gi h 83 0 := fr_gi s2 (rg_no rfl _)
  have e2 : ∀ k, gn h' 84 k = gn h 84 k := fun k => fr_gn s2 (rg_no rfl _)
  refine ⟨s1, x, rfl, ac_8 I.2 s2 rfl rfl rfl (fun k hk => ?_) rfl (by unfold wq at g6 ⊢; rw [e1, e2, e2, e2]; exact g6)⟩
  match k, hk with
  | 0, _ => rfl
  | 1, _ => rfl
  | 2, _ => rfl
  | 3, _ => rfl
  | 4, _ => rfl
  | 5, _ => rfl
theorem g9_wants (I : IVh h) (J : half_ac h (wq h v w)) : Sp 100 370 h [.ref 77, .int v, .int w] (fun h' r => IVQ h' ∧ ∃ x : Int32, r = some (.int x)) := by
  refine Sp_le (by first | exact Nat.add_le_add_left (Nat.le_of_ble_eq_true rfl) _ | exact Nat.le_of_ble_eq_true rfl | omega) (Sp_mono ?_ (tv_wantsE (d := 0) I.1 I.2.2))
  rintro h' r ⟨⟨a1, a2, a3, a4⟩, s, g9⟩
  exact ⟨⟨IVh_fr (M := VM) (by decide +kernel) a2 a1 I a3, ac_9 J a2 rfl rfl s (sam_k9 s) g9⟩, a4⟩
theorem g8_trades (I : IVQ h) : Sp 100 191 h [.ref 0, .int v, .int w] (fun h' r => IVh h' ∧ ∃ x : Int32, r = some (.int x) ∧ half_ac h' (tq h' v w)) := by
  refine Sp_le (by first | exact Nat.add_le_add_left (Nat.le_of_ble_eq_true rfl) _ | exact Nat.le_of_ble_eq_true rfl | omega) (Sp_mono ?_ (Sp_and (top_all (as := [.ref 0, .int v, .int w]) q873 (by decide +kernel) I.1 ⟨rfl, aI _, aI _, trivial⟩) (sp_trades8 (d := 0) I.1.1)))
  rintro h' r ⟨⟨s1, s2, -⟩, ⟨x, rfl⟩, g6⟩
  rw [tq_eq I.2] at g6
  have e2 : ∀ k, gn h' 84 k = gn h 84 k := fun k => fr_gn s2 (rg_no rfl _)
  refine ⟨s1, x, rfl, ac_8 I.2 s2 rfl rfl rfl (fun k hk => ?_) rfl (by unfold tq at g6 ⊢; rw [e2, e2]; exact g6)⟩
  match k, hk with
  | 0, _ => rfl
  | 1, _ => rfl
  | 2, _ => rfl
  | 3, _ => rfl
  | 4, _ => rfl
  | 5, _ => rfl
theorem g9_trades (I : IVh h) (J : half_ac h (tq h v w)) : Sp 100 362 h [.ref 77, .int v, .int w] (fun h' r => IVQ h' ∧ ∃ x : Int32, r = some (.int x)) := by
  refine Sp_le (by first | exact Nat.add_le_add_left (Nat.le_of_ble_eq_true rfl) _ | exact Nat.le_of_ble_eq_true rfl | omega) (Sp_mono ?_ (tv_tradesE (d := 0) I.1 I.2.2))
  rintro h' r ⟨⟨a1, a2, a3, a4⟩, s, g9⟩
  exact ⟨⟨IVh_fr (M := VM) (by decide +kernel) a2 a1 I a3, ac_9 J a2 rfl rfl s (sam_k9 s) g9⟩, a4⟩
end WNQ
/-! rate, count -/
section RTQ
variable {h : pm_H} {x v w : Int32}
noncomputable def half_rtQ (h : pm_H) (x v w : Int32) : Prop := RES h ∧ IMG h ∧ ST1 15 0 h ∧ STA 15 0 h ∧ (∀ i, i < 8 → i < gn h 15 4 → gi h 18 i = rts (gn h 84 3) (gn h 84 5) (fun i => gi h 85 (2 * i + 1)) v w i) ∧ x = rtv (gn h 84 3) (gn h 84 5) (fun i => gi h 85 (2 * i + 1)) v w
theorem rt_eq {c a : Nat} {s s' : Nat → Int32} (c8 : c ≤ 8) (e : ∀ i, i < 8 → i < c → s i = s' i) : rtv c a s v w = rtv c a s' v w ∧ ∀ i, i < 8 → i < c → rts c a s v w i = rts c a s' v w i := by
  constructor
  · unfold rtv
    by_cases q : (0 ≤ v.toInt ∧ v.toInt < (c : Int)) ∧ 0 ≤ w.toInt ∧ w.toInt ≤ 99
    · rw [if_pos q, if_pos q, e _ (by first | decide | with_reducible assumption | omega) (by first | decide | with_reducible assumption | omega)]
    · rw [if_neg q, if_neg q]
  · intro i h1 h2
    unfold rts
    rw [e i h1 h2]
theorem g8_rate (I : IVQ h) : Sp 100 164 h [.ref 0, .int v, .int w] (fun h' r => IVh h' ∧ ∃ x : Int32, r = some (.int x) ∧ half_rtQ h' x v w) := by
  refine Sp_le (by first | exact Nat.add_le_add_left (Nat.le_of_ble_eq_true rfl) _ | exact Nat.le_of_ble_eq_true rfl | omega) (Sp_mono ?_ (Sp_and (top_all (as := [.ref 0, .int v, .int w]) q895 (by decide +kernel) I.1 ⟨rfl, aI _, aI _, trivial⟩) (sp_rate8 (d := 0) I.1.1)))
  rintro h' r ⟨⟨s1, s2, -⟩, rfl, g18⟩
  obtain ⟨-, -, -, c8, -⟩ := g15 I.1.1
  have k9 : ∀ r, KE9 r h h' := KE9_fr s2 rfl
  have c15 : ∀ k, gi h' 15 k = gi h 15 k := fun k => fr_gi s2 (rg_no rfl _)
  have r84 : ∀ k, gi h' 84 k = gi h 84 k := fun k => fr_gi s2 (rg_no rfl _)
  have r85 : ∀ k, gi h' 85 k = gi h 85 k := fun k => fr_gi s2 (rg_no rfl _)
  have e4 : gn h 15 4 = gn h 84 3 := gn_eq I.2.2.1.1.2.2.1
  have f85 : (fun i => gi h' 85 (2 * i + 1)) = fun i => gi h 85 (2 * i + 1) := funext (fun i => r85 _)
  have se : ∀ i, i < 8 → i < gn h 15 4 → gi h 18 i = (fun i => gi h 85 (2 * i + 1)) i := fun i h1 h2 => by
    have := I.2.2.1.2.2 i h1 h2
    rw [show 16 * 0 + (2 * i + 1) = 2 * i + 1 by omega] at this
    exact this
  have rt := rt_eq (a := gn h 15 6) (v := v) (w := w) c8 se
  refine ⟨s1, _, rfl, RES_fr s2 rfl I.2.1, IMG_fr s2 rfl (fun r _ _ => k9 r) I.2.2.2, ST1_k (fun k _ => c15 k) (k9 0).1 (fun k _ => r84 k) I.2.2.1.1, ?_, fun i h1 h2 => ?_, ?_⟩
  · show gi h' 15 6 = gi h' 84 (6 * 0 + 5)
    rw [c15, r84]; exact I.2.2.1.2.1
  · rw [gn_eq (c15 4)] at h2
    rw [g18 i, rt.2 i h1 h2, f85, gn_eq (r84 3), gn_eq (r84 5), e4, acts_eq I.2]
  · rw [rt.1, f85, gn_eq (r84 3), gn_eq (r84 5), e4, acts_eq I.2]
theorem g9_rate (I : IVh h) (J : half_rtQ h x v w) : Sp 100 329 h [.ref 77, .int v, .int w] (fun h' r => IVQ h' ∧ r = some (.int x)) := by
  refine Sp_le (by first | exact Nat.add_le_add_left (Nat.le_of_ble_eq_true rfl) _ | exact Nat.le_of_ble_eq_true rfl | omega) (Sp_mono ?_ (Sp_and (tv_rate (d := 0) I.1 I.2.2) (sp_rate9 (d := 0) I.1)))
  rintro h' r ⟨⟨a1, a2, a3, -⟩, rfl, -, f9, g9⟩
  obtain ⟨j1, j2, j3, j4, j5, rfl⟩ := J
  have c15 : ∀ k, gi h' 15 k = gi h 15 k := fun k => fr_gi f9 (rg_no rfl _)
  have r84 : ∀ k, gi h' 84 k = gi h 84 k := fun k => fr_gi f9 (rg_no rfl _)
  have e83 : ∀ k, gi h' 83 k = gi h 83 k := fun k => fr_gi f9 (rg_no rfl _)
  have k9 : ∀ r, 1 ≤ r → r ≤ 3 → KE9 r h h' := fun r h1 h2 => ⟨e83 r, fun k _ => r84 _, fun k _ => fr_gi f9 (by
    cases q : rg_in [(77, 0, 0), (85, 1, 15)] 85 (16 * r + k) with
    | false => rfl
    | true =>
      obtain ⟨z, hz, hc⟩ := List.any_eq_true.mp q
      simp only [Bool.and_eq_true] at hc
      have c1 := Nat.eq_of_beq_eq_true hc.1
      have c3 := Nat.le_of_ble_eq_true hc.2.2
      simp only [List.mem_cons, List.not_mem_nil, or_false] at hz
      rcases hz with rfl | rfl
      · cases c1
      · have c3 : 16 * r + k ≤ 15 := c3
        omega)⟩
  refine ⟨⟨IVh_fr (M := VM) (by decide +kernel) a2 a1 I a3, RES_fr f9 rfl j1, ⟨ST1_k (fun k _ => c15 k) (e83 0) (fun k _ => r84 k) j3, ?_, fun i h1 h2 => ?_⟩, IMG_fr f9 rfl k9 j2⟩, rfl⟩
  · show gi h' 15 6 = gi h' 84 (6 * 0 + 5)
    rw [c15, r84]; exact j4
  · rw [gn_eq (c15 4)] at h2
    show gi h' 18 i = gi h' 85 (16 * 0 + (2 * i + 1))
    rw [show 16 * 0 + (2 * i + 1) = 2 * i + 1 by omega, g9 i h1, fr_gi f9 (rg_no rfl _)]
    exact j5 i h1 h2
noncomputable def half_cnQ (h : pm_H) (x v : Int32) : Prop := QRE h ∧ x = cnv (c9f h) v
theorem cn_eq (hh : HH h) (R : QRE h) : ∀ k, k ≤ 8 → c8f h k = c9f h k := by
  obtain ⟨⟨s1, s2, s3, s4, s5⟩, sa, sd⟩ := R.2.1
  intro k hk
  match k, hk with
  | 0, _ => exact s2 0 (by first | decide | with_reducible assumption | omega)
  | 1, _ => exact s2 1 (by first | decide | with_reducible assumption | omega)
  | 2, _ => exact s2 2 (by first | decide | with_reducible assumption | omega)
  | 3, _ => exact s3
  | 4, _ => exact s4
  | 5, _ => exact sa
  | 6, _ => exact s1
  | 7, _ =>
    show gi h 1 1 = gi h 77 6
    rw [gi_gn (a := 1) (k := 1) hh (q := (0, 500)) rfl (by decide), gi_gn (a := 77) (k := 6) hh (q := (0, 500)) rfl (by decide), R.1.1.1.1]
  | 8, _ =>
    show nJ (sct (cf h) 4) = nJ (sct (rf h) 4)
    rw [sct_eq (fun i hi => (SL_cf R.1.2 i hi).1)]
theorem g8_count (I : IVQ h) : Sp 100 93 h [.ref 0, .int v] (fun h' r => IVh h' ∧ ∃ x : Int32, r = some (.int x) ∧ half_cnQ h' x v) := by
  refine Sp_le (by first | exact Nat.add_le_add_left (Nat.le_of_ble_eq_true rfl) _ | exact Nat.le_of_ble_eq_true rfl | omega) (Sp_mono ?_ (Sp_and (top_all (as := [.ref 0, .int v]) q899 (by decide +kernel) I.1 ⟨rfl, aI _, trivial⟩) (sp_count8 (d := 0) I.1.1)))
  rintro h' r ⟨⟨s1, s2, -⟩, rfl⟩
  have R := QRE_fr s2 rfl I.2
  refine ⟨s1, _, rfl, R, (cnv_eq (fun k hk => ?_))⟩
  rw [cn_eq I.1.1 I.2 k hk]
  have e : ∀ a j, gi h' a j = gi h a j := fun a j => fr_gi s2 rfl
  match k, hk with
  | 0, _ => exact (e 84 0).symm
  | 1, _ => exact (e 84 1).symm
  | 2, _ => exact (e 84 2).symm
  | 3, _ => exact (e 84 3).symm
  | 4, _ => exact (e 84 4).symm
  | 5, _ => exact (e 84 5).symm
  | 6, _ => exact (e 83 0).symm
  | 7, _ => exact (e 77 6).symm
  | 8, _ =>
    show nJ (sct (rf h) 4) = nJ (sct (rf h') 4)
    rw [sct_eq (f := rf h) (g := rf h') (fun i _ => by unfold rf; rw [e 78 i])]
theorem g9_count (I : IVh h) (J : half_cnQ h x v) : Sp 100 233 h [.ref 77, .int v] (fun h' r => IVQ h' ∧ r = some (.int x)) := by
  refine Sp_le (by first | exact Nat.add_le_add_left (Nat.le_of_ble_eq_true rfl) _ | exact Nat.le_of_ble_eq_true rfl | omega) (Sp_mono ?_ (Sp_and (top_all (as := [.ref 77, .int v]) q901 (by decide +kernel) I ⟨rfl, aI _, trivial⟩) (sp_count9 (d := 0) I.1)))
  rintro h' r ⟨⟨s1, s2, -⟩, rfl⟩
  obtain ⟨J1, rfl⟩ := J
  exact ⟨⟨s1, QRE_fr s2 rfl J1⟩, rfl⟩
end RTQ
theorem IVQ_hp0 : IVQ hp0 := by
  refine ⟨IVS_hp0.1, IVS_hp0.2, ⟨⟨by decide +kernel, fun k hk => ?_, by decide +kernel, by decide +kernel, by decide +kernel⟩, ?_, fun i _ q => ?_⟩, fun k hk q => ?_⟩
  · match k, hk with
    | 0, _ => decide +kernel
    | 1, _ => decide +kernel
    | 2, _ => decide +kernel
  · show gi hp0 15 6 = gi hp0 84 (6 * 0 + 5)
    decide +kernel
  · have e : gn hp0 15 4 = 0 := by decide +kernel
    omega
  · match k, hk with
    | 0, _ => exact absurd (by decide +kernel) q
    | 1, _ => exact absurd (by decide +kernel) q
    | 2, _ => exact absurd (by decide +kernel) q
end
section
/-! the law's own run (written by gen_t21.py) -/
noncomputable def RQ1 (_ : pm_H) (r : Option Value) : Prop := r = some (.int 1)
section ENDW
variable {look : Nat → Option pm_I} {call : pm_Call} {Q : pm_H → Option Value → Prop} {pc n i t : Nat} {lv : List (Nat × Value)} {st : List Value} {w : pm_H × Nat × Nat} {h : pm_H} {z : Nat × Nat}
theorem E_alr {x : Nat} (h1 : look pc = some (.inl (s_al i n))) (e : pm_get lv i = some (.retAddr x)) (k : Ends look call (n, lv, .retAddr x :: st, w) Q) : Ends look call (pc, lv, st, w) Q := E_st h1 (by simp only [s_al, e]) k
theorem E_sld {L j : Nat} {xs : Nat → Int32} (h1 : look pc = some (.inl (s_sld L xs n))) (hj : j < L) (hL : L ≤ 3072) (k : Ends look call (n, lv, .int (xs j) :: st, w) Q) : Ends look call (pc, lv, .int (nJ j) :: .retAddr 0 :: st, w) Q := by
  have h2 := nJ_toInt (n := j) (by first | decide | with_reducible assumption | omega)
  have h3 : pm_ix (nJ j) L = true := ai_ix (by first | decide | with_reducible assumption | omega) (by first | decide | with_reducible assumption | omega)
  have h4 : (nJ j).toNatClampNeg = j := by show (nJ j).toInt.toNat = j; omega
  refine E_st h1 ?_ k
  simp only [s_sld, h3, h4, cond_true]
theorem E_slen {L : Nat} (h1 : look pc = some (.inl (s_slen L n))) (hL : L ≤ 3072) (k : Ends look call (n, lv, .int (nJ L) :: st, w) Q) : Ends look call (pc, lv, .retAddr 0 :: st, w) Q := by
  have e : Int32.ofNat L = nJ L := by
    apply Int32.toInt_inj.mp
    rw [nJ_toInt (by first | decide | with_reducible assumption | omega), Int32.toInt_ofNat_of_lt (by first | decide | with_reducible assumption | omega)]
  refine E_st h1 ?_ k
  simp only [s_slen, e]
theorem E_lsh {op : Int64 → Int32 → Int64} {x : Int64} {y : Int32} (h1 : look pc = some (.inl (s_lsh op n))) (k : Ends look call (n, lv, .long (op x y) :: st, w) Q) : Ends look call (pc, lv, .int y :: .long x :: st, w) Q := E_st h1 rfl k
theorem E_pop2 {x : Value} (h1 : look pc = some (.inl (s_pop2 n))) (e : x.category = 2) (k : Ends look call (n, lv, st, w) Q) : Ends look call (pc, lv, x :: st, w) Q := E_st h1 (by simp only [s_pop2, e]; rfl) k
theorem E_tsw {lo hi : Int} {ts : List Nat} {dd : Nat} {x : Int32} (h1 : look pc = some (.inl (s_tsw lo hi ts dd))) (hz : (decide (x.toInt < lo) || decide (hi < x.toInt)) = false) (ht : ts[(x.toInt - lo).toNat]? = some t) (k : Ends look call (t, lv, st, w) Q) : Ends look call (pc, lv, .int x :: st, w) Q := E_st h1 (by simp only [s_tsw, hz, cond_false, ht]) k
theorem E_tswD {lo hi : Int} {ts : List Nat} {dd : Nat} {x : Int32} (h1 : look pc = some (.inl (s_tsw lo hi ts dd))) (hz : (decide (x.toInt < lo) || decide (hi < x.toInt)) = true) (k : Ends look call (dd, lv, st, w) Q) : Ends look call (pc, lv, .int x :: st, w) Q := E_st h1 (by simp only [s_tsw, hz, cond_true]) k
theorem chkR {a ci k : Nat} {fs : List AF} {as : List Value} (hh : HH h) (hc : hsF a = some (.inr (.inr (.inr (ci, fs))))) (h9 : Nat.blt ci 100 = true) (hl : Nat.ble k st.length = true) (e : (st.take k).reverse = .ref a :: as) (hs : pm_sz (st.drop k) ≤ 8) : pm_chk k (some ci) 0 0 st (h, z) := by
  obtain ⟨x, hx, hg⟩ := hf_at hh hc
  match x, hx, hg with
  | .inr (cq, vs), hx, hg =>
    obtain ⟨rfl, -, -⟩ := hg
    refine ⟨Nat.le_of_ble_eq_true hl, fun q hq => ?_, hs, Nat.zero_le _, Nat.zero_le _⟩
    cases hq
    exact ⟨fun _ => ⟨a, vs, as, e, hx⟩, fun h7 => absurd (Nat.le_of_ble_eq_true h9) (Nat.not_lt.mpr h7)⟩
end ENDW
theorem nJ_inc6 (a : Nat) : nJ a + 6 = nJ (a + 6) := nJ_add a 6
set_option maxRecDepth 20000 in
theorem bl_0 {L : Nat} {xs : Nat → Int32} (hL : L ≤ 3072) {h : pm_H} {i : Nat} (hi : i + 6 ≤ L) (lv : List (Nat × Value)) (I : IVQ h) (L0 : pm_get lv 0 = some (.retAddr 0)) (L1 : pm_get lv 1 = some (.ref 0)) (L2 : pm_get lv 2 = some (.ref 77)) (L3 : pm_get lv 3 = some (.int (nJ i))) (K : ∀ h', IVQ h' → Ends (pm_tr (lb_all L xs)) (pm_Rt pm_P 100) (2392, lv, [], h', 599897, 7298671) RQ1) : Ends (pm_tr (lb_all L xs)) (pm_Rt pm_P 100) (376, lv, [], h, 599897, 7298671) RQ1 := by
  refine E_al rfl L1 ?_
  refine E_alr rfl L0 ?_
  refine E_il rfl L3 ?_
  refine E_ci 1 rfl ci1 ?_
  refine E_bin rfl (nJ_add _ _) ?_
  refine E_sld rfl (by first | decide | with_reducible assumption | omega) hL ?_
  refine E_alr rfl L0 ?_
  refine E_il rfl L3 ?_
  refine E_ci 2 rfl ci2 ?_
  refine E_bin rfl (nJ_add _ _) ?_
  refine E_sld rfl (by first | decide | with_reducible assumption | omega) hL ?_
  refine E_alr rfl L0 ?_
  refine E_il rfl L3 ?_
  refine E_ci 3 rfl ci3 ?_
  refine E_bin rfl (nJ_add _ _) ?_
  refine E_sld rfl (by first | decide | with_reducible assumption | omega) hL ?_
  refine E_alr rfl L0 ?_
  refine E_il rfl L3 ?_
  refine E_ci 4 rfl ci4 ?_
  refine E_bin rfl (nJ_add _ _) ?_
  refine E_sld rfl (by first | decide | with_reducible assumption | omega) hL ?_
  refine E_alr rfl L0 ?_
  refine E_il rfl L3 ?_
  refine E_ci 5 rfl ci5 ?_
  refine E_bin rfl (nJ_add _ _) ?_
  refine E_sld rfl (by first | decide | with_reducible assumption | omega) hL ?_
  refine E_call rfl (g8_feed I) (chkR (a := 0) I.1.1 rfl rfl rfl rfl (by show 0 ≤ 8; decide)) (fun h1 r1 => ?_)
  rintro ⟨I1, x1, f1, J1⟩
  rw [f1]
  show Ends _ _ (405, lv, [.int x1], h1, 599897, 7298671) _
  refine E_pop rfl rfl ?_
  refine E_al rfl L2 ?_
  refine E_alr rfl L0 ?_
  refine E_il rfl L3 ?_
  refine E_ci 1 rfl ci1 ?_
  refine E_bin rfl (nJ_add _ _) ?_
  refine E_sld rfl (by first | decide | with_reducible assumption | omega) hL ?_
  refine E_alr rfl L0 ?_
  refine E_il rfl L3 ?_
  refine E_ci 2 rfl ci2 ?_
  refine E_bin rfl (nJ_add _ _) ?_
  refine E_sld rfl (by first | decide | with_reducible assumption | omega) hL ?_
  refine E_alr rfl L0 ?_
  refine E_il rfl L3 ?_
  refine E_ci 3 rfl ci3 ?_
  refine E_bin rfl (nJ_add _ _) ?_
  refine E_sld rfl (by first | decide | with_reducible assumption | omega) hL ?_
  refine E_alr rfl L0 ?_
  refine E_il rfl L3 ?_
  refine E_ci 4 rfl ci4 ?_
  refine E_bin rfl (nJ_add _ _) ?_
  refine E_sld rfl (by first | decide | with_reducible assumption | omega) hL ?_
  refine E_alr rfl L0 ?_
  refine E_il rfl L3 ?_
  refine E_ci 5 rfl ci5 ?_
  refine E_bin rfl (nJ_add _ _) ?_
  refine E_sld rfl (by first | decide | with_reducible assumption | omega) hL ?_
  refine E_call rfl (g9_feed I1 J1) (chkR (a := 77) I1.1 rfl rfl rfl rfl (by show 0 ≤ 8; decide)) (fun h2 r2 => ?_)
  rintro ⟨I2, f2⟩
  rw [f2]
  show Ends _ _ (435, lv, [.int x1], h2, 599897, 7298671) _
  refine E_pop rfl rfl ?_
  refine E_goto rfl ?_
  exact K _ I2
set_option maxRecDepth 20000 in
theorem bl_1 {L : Nat} {xs : Nat → Int32} (hL : L ≤ 3072) {h : pm_H} {i : Nat} (hi : i + 6 ≤ L) (lv : List (Nat × Value)) (I : IVQ h) (L0 : pm_get lv 0 = some (.retAddr 0)) (L1 : pm_get lv 1 = some (.ref 0)) (L2 : pm_get lv 2 = some (.ref 77)) (L3 : pm_get lv 3 = some (.int (nJ i))) (K : ∀ h', IVQ h' → Ends (pm_tr (lb_all L xs)) (pm_Rt pm_P 100) (2392, lv, [], h', 599897, 7298671) RQ1) : Ends (pm_tr (lb_all L xs)) (pm_Rt pm_P 100) (439, lv, [], h, 599897, 7298671) RQ1 := by
  refine E_al rfl L1 ?_
  refine E_alr rfl L0 ?_
  refine E_il rfl L3 ?_
  refine E_ci 1 rfl ci1 ?_
  refine E_bin rfl (nJ_add _ _) ?_
  refine E_sld rfl (by first | decide | with_reducible assumption | omega) hL ?_
  refine E_call rfl (g8_end I) (chkR (a := 0) I.1.1 rfl rfl rfl rfl (by show 0 ≤ 8; decide)) (fun h1 r1 => ?_)
  rintro ⟨I1, x1, f1, J1⟩
  rw [f1]
  show Ends _ _ (448, lv, [.int x1], h1, 599897, 7298671) _
  refine E_pop rfl rfl ?_
  refine E_al rfl L2 ?_
  refine E_alr rfl L0 ?_
  refine E_il rfl L3 ?_
  refine E_ci 1 rfl ci1 ?_
  refine E_bin rfl (nJ_add _ _) ?_
  refine E_sld rfl (by first | decide | with_reducible assumption | omega) hL ?_
  refine E_call rfl (g9_end I1 J1) (chkR (a := 77) I1.1 rfl rfl rfl rfl (by show 0 ≤ 8; decide)) (fun h2 r2 => ?_)
  rintro ⟨I2, f2⟩
  rw [f2]
  show Ends _ _ (458, lv, [.int x1], h2, 599897, 7298671) _
  refine E_pop rfl rfl ?_
  refine E_goto rfl ?_
  exact K _ I2
set_option maxRecDepth 20000 in
theorem bl_2 {L : Nat} {xs : Nat → Int32} (hL : L ≤ 3072) {h : pm_H} {i : Nat} (hi : i + 6 ≤ L) (lv : List (Nat × Value)) (I : IVQ h) (L0 : pm_get lv 0 = some (.retAddr 0)) (L1 : pm_get lv 1 = some (.ref 0)) (L2 : pm_get lv 2 = some (.ref 77)) (L3 : pm_get lv 3 = some (.int (nJ i))) (K : ∀ h', IVQ h' → Ends (pm_tr (lb_all L xs)) (pm_Rt pm_P 100) (2392, lv, [], h', 599897, 7298671) RQ1) : Ends (pm_tr (lb_all L xs)) (pm_Rt pm_P 100) (462, lv, [], h, 599897, 7298671) RQ1 := by
  refine E_al rfl L1 ?_
  refine E_call rfl (g8_street I) (chkR (a := 0) I.1.1 rfl rfl rfl rfl (by show 0 ≤ 8; decide)) (fun h1 r1 => ?_)
  rintro ⟨I1, x1, f1, J1⟩
  rw [f1]
  show Ends _ _ (466, lv, [.int x1], h1, 599897, 7298671) _
  refine E_pop rfl rfl ?_
  refine E_al rfl L2 ?_
  refine E_call rfl (g9_street I1 J1) (chkR (a := 77) I1.1 rfl rfl rfl rfl (by show 0 ≤ 8; decide)) (fun h2 r2 => ?_)
  rintro ⟨I2, f2⟩
  rw [f2]
  show Ends _ _ (471, lv, [.int x1], h2, 599897, 7298671) _
  refine E_pop rfl rfl ?_
  refine E_goto rfl ?_
  exact K _ I2
set_option maxRecDepth 20000 in
theorem bl_3 {L : Nat} {xs : Nat → Int32} (hL : L ≤ 3072) {h : pm_H} {i : Nat} (hi : i + 6 ≤ L) (lv : List (Nat × Value)) (I : IVQ h) (L0 : pm_get lv 0 = some (.retAddr 0)) (L1 : pm_get lv 1 = some (.ref 0)) (L2 : pm_get lv 2 = some (.ref 77)) (L3 : pm_get lv 3 = some (.int (nJ i))) (K : ∀ h', IVQ h' → Ends (pm_tr (lb_all L xs)) (pm_Rt pm_P 100) (2392, lv, [], h', 599897, 7298671) RQ1) : Ends (pm_tr (lb_all L xs)) (pm_Rt pm_P 100) (475, lv, [], h, 599897, 7298671) RQ1 := by
  refine E_al rfl L1 ?_
  refine E_alr rfl L0 ?_
  refine E_il rfl L3 ?_
  refine E_ci 1 rfl ci1 ?_
  refine E_bin rfl (nJ_add _ _) ?_
  refine E_sld rfl (by first | decide | with_reducible assumption | omega) hL ?_
  refine E_call rfl (tQ_int (by decide +kernel) (by decide +kernel) I.2 (top_int (as := [.ref 0, .int (xs ((i + 1)))]) q107 (by decide +kernel) (by decide +kernel) I.1 ⟨rfl, aI _, trivial⟩)) (chkR (a := 0) I.1.1 rfl rfl rfl rfl (by show 0 ≤ 8; decide)) (fun h1 r1 => ?_)
  rintro ⟨I1, x1, f1⟩
  rw [f1]
  show Ends _ _ (484, lv, [.int x1], h1, 599897, 7298671) _
  refine E_pop rfl rfl ?_
  refine E_al rfl L2 ?_
  refine E_alr rfl L0 ?_
  refine E_il rfl L3 ?_
  refine E_ci 1 rfl ci1 ?_
  refine E_bin rfl (nJ_add _ _) ?_
  refine E_sld rfl (by first | decide | with_reducible assumption | omega) hL ?_
  refine E_call rfl (tQ_int (by decide +kernel) (by decide +kernel) I1.2 (top_int (as := [.ref 77, .int (xs ((i + 1)))]) q108 (by decide +kernel) (by decide +kernel) I1.1 ⟨rfl, aI _, trivial⟩)) (chkR (a := 77) I1.1.1 rfl rfl rfl rfl (by show 0 ≤ 8; decide)) (fun h2 r2 => ?_)
  rintro ⟨I2, x2, f2⟩
  rw [f2]
  show Ends _ _ (494, lv, [.int x2], h2, 599897, 7298671) _
  refine E_pop rfl rfl ?_
  refine E_goto rfl ?_
  exact K _ I2
set_option maxRecDepth 20000 in
theorem bl_4 {L : Nat} {xs : Nat → Int32} (hL : L ≤ 3072) {h : pm_H} {i : Nat} (hi : i + 6 ≤ L) (lv : List (Nat × Value)) (I : IVQ h) (L0 : pm_get lv 0 = some (.retAddr 0)) (L1 : pm_get lv 1 = some (.ref 0)) (L2 : pm_get lv 2 = some (.ref 77)) (L3 : pm_get lv 3 = some (.int (nJ i))) (K : ∀ h', IVQ h' → Ends (pm_tr (lb_all L xs)) (pm_Rt pm_P 100) (2392, lv, [], h', 599897, 7298671) RQ1) : Ends (pm_tr (lb_all L xs)) (pm_Rt pm_P 100) (498, lv, [], h, 599897, 7298671) RQ1 := by
  refine E_al rfl L1 ?_
  refine E_alr rfl L0 ?_
  refine E_il rfl L3 ?_
  refine E_ci 1 rfl ci1 ?_
  refine E_bin rfl (nJ_add _ _) ?_
  refine E_sld rfl (by first | decide | with_reducible assumption | omega) hL ?_
  refine E_alr rfl L0 ?_
  refine E_il rfl L3 ?_
  refine E_ci 2 rfl ci2 ?_
  refine E_bin rfl (nJ_add _ _) ?_
  refine E_sld rfl (by first | decide | with_reducible assumption | omega) hL ?_
  refine E_call rfl (tQ_int (by decide +kernel) (by decide +kernel) I.2 (top_int (as := [.ref 0, .int (xs ((i + 1))), .int (xs ((i + 2)))]) q111 (by decide +kernel) (by decide +kernel) I.1 ⟨rfl, aI _, aI _, trivial⟩)) (chkR (a := 0) I.1.1 rfl rfl rfl rfl (by show 0 ≤ 8; decide)) (fun h1 r1 => ?_)
  rintro ⟨I1, x1, f1⟩
  rw [f1]
  show Ends _ _ (512, lv, [.int x1], h1, 599897, 7298671) _
  refine E_pop rfl rfl ?_
  refine E_al rfl L2 ?_
  refine E_alr rfl L0 ?_
  refine E_il rfl L3 ?_
  refine E_ci 1 rfl ci1 ?_
  refine E_bin rfl (nJ_add _ _) ?_
  refine E_sld rfl (by first | decide | with_reducible assumption | omega) hL ?_
  refine E_alr rfl L0 ?_
  refine E_il rfl L3 ?_
  refine E_ci 2 rfl ci2 ?_
  refine E_bin rfl (nJ_add _ _) ?_
  refine E_sld rfl (by first | decide | with_reducible assumption | omega) hL ?_
  refine E_call rfl (tQ_int (by decide +kernel) (by decide +kernel) I1.2 (top_int (as := [.ref 77, .int (xs ((i + 1))), .int (xs ((i + 2)))]) q119 (by decide +kernel) (by decide +kernel) I1.1 ⟨rfl, aI _, aI _, trivial⟩)) (chkR (a := 77) I1.1.1 rfl rfl rfl rfl (by show 0 ≤ 8; decide)) (fun h2 r2 => ?_)
  rintro ⟨I2, x2, f2⟩
  rw [f2]
  show Ends _ _ (527, lv, [.int x2], h2, 599897, 7298671) _
  refine E_pop rfl rfl ?_
  refine E_goto rfl ?_
  exact K _ I2
set_option maxRecDepth 20000 in
theorem bl_5 {L : Nat} {xs : Nat → Int32} (hL : L ≤ 3072) {h : pm_H} {i : Nat} (hi : i + 6 ≤ L) (lv : List (Nat × Value)) (I : IVQ h) (L0 : pm_get lv 0 = some (.retAddr 0)) (L1 : pm_get lv 1 = some (.ref 0)) (L2 : pm_get lv 2 = some (.ref 77)) (L3 : pm_get lv 3 = some (.int (nJ i))) (K : ∀ h', IVQ h' → Ends (pm_tr (lb_all L xs)) (pm_Rt pm_P 100) (2392, lv, [], h', 599897, 7298671) RQ1) : Ends (pm_tr (lb_all L xs)) (pm_Rt pm_P 100) (531, lv, [], h, 599897, 7298671) RQ1 := by
  refine E_al rfl L1 ?_
  refine E_alr rfl L0 ?_
  refine E_il rfl L3 ?_
  refine E_ci 1 rfl ci1 ?_
  refine E_bin rfl (nJ_add _ _) ?_
  refine E_sld rfl (by first | decide | with_reducible assumption | omega) hL ?_
  refine E_call rfl (tQ_int (by decide +kernel) (by decide +kernel) I.2 (top_int (as := [.ref 0, .int (xs ((i + 1)))]) q138 (by decide +kernel) (by decide +kernel) I.1 ⟨rfl, aI _, trivial⟩)) (chkR (a := 0) I.1.1 rfl rfl rfl rfl (by show 0 ≤ 8; decide)) (fun h1 r1 => ?_)
  rintro ⟨I1, x1, f1⟩
  rw [f1]
  show Ends _ _ (540, lv, [.int x1], h1, 599897, 7298671) _
  refine E_pop rfl rfl ?_
  refine E_al rfl L2 ?_
  refine E_alr rfl L0 ?_
  refine E_il rfl L3 ?_
  refine E_ci 1 rfl ci1 ?_
  refine E_bin rfl (nJ_add _ _) ?_
  refine E_sld rfl (by first | decide | with_reducible assumption | omega) hL ?_
  refine E_call rfl (tQ_int (by decide +kernel) (by decide +kernel) I1.2 (top_int (as := [.ref 77, .int (xs ((i + 1)))]) q151 (by decide +kernel) (by decide +kernel) I1.1 ⟨rfl, aI _, trivial⟩)) (chkR (a := 77) I1.1.1 rfl rfl rfl rfl (by show 0 ≤ 8; decide)) (fun h2 r2 => ?_)
  rintro ⟨I2, x2, f2⟩
  rw [f2]
  show Ends _ _ (550, lv, [.int x2], h2, 599897, 7298671) _
  refine E_pop rfl rfl ?_
  refine E_goto rfl ?_
  exact K _ I2
set_option maxRecDepth 20000 in
theorem bl_6 {L : Nat} {xs : Nat → Int32} (hL : L ≤ 3072) {h : pm_H} {i : Nat} (hi : i + 6 ≤ L) (lv : List (Nat × Value)) (I : IVQ h) (L0 : pm_get lv 0 = some (.retAddr 0)) (L1 : pm_get lv 1 = some (.ref 0)) (L2 : pm_get lv 2 = some (.ref 77)) (L3 : pm_get lv 3 = some (.int (nJ i))) (K : ∀ h', IVQ h' → Ends (pm_tr (lb_all L xs)) (pm_Rt pm_P 100) (2392, lv, [], h', 599897, 7298671) RQ1) : Ends (pm_tr (lb_all L xs)) (pm_Rt pm_P 100) (554, lv, [], h, 599897, 7298671) RQ1 := by
  refine E_al rfl L1 ?_
  refine E_alr rfl L0 ?_
  refine E_il rfl L3 ?_
  refine E_ci 1 rfl ci1 ?_
  refine E_bin rfl (nJ_add _ _) ?_
  refine E_sld rfl (by first | decide | with_reducible assumption | omega) hL ?_
  refine E_call rfl (tQ_int (by decide +kernel) (by decide +kernel) I.2 (top_int (as := [.ref 0, .int (xs ((i + 1)))]) q154 (by decide +kernel) (by decide +kernel) I.1 ⟨rfl, aI _, trivial⟩)) (chkR (a := 0) I.1.1 rfl rfl rfl rfl (by show 0 ≤ 8; decide)) (fun h1 r1 => ?_)
  rintro ⟨I1, x1, f1⟩
  rw [f1]
  show Ends _ _ (563, lv, [.int x1], h1, 599897, 7298671) _
  refine E_pop rfl rfl ?_
  refine E_al rfl L2 ?_
  refine E_alr rfl L0 ?_
  refine E_il rfl L3 ?_
  refine E_ci 1 rfl ci1 ?_
  refine E_bin rfl (nJ_add _ _) ?_
  refine E_sld rfl (by first | decide | with_reducible assumption | omega) hL ?_
  refine E_call rfl (tQ_int (by decide +kernel) (by decide +kernel) I1.2 (top_int (as := [.ref 77, .int (xs ((i + 1)))]) q157 (by decide +kernel) (by decide +kernel) I1.1 ⟨rfl, aI _, trivial⟩)) (chkR (a := 77) I1.1.1 rfl rfl rfl rfl (by show 0 ≤ 8; decide)) (fun h2 r2 => ?_)
  rintro ⟨I2, x2, f2⟩
  rw [f2]
  show Ends _ _ (573, lv, [.int x2], h2, 599897, 7298671) _
  refine E_pop rfl rfl ?_
  refine E_goto rfl ?_
  exact K _ I2
set_option maxRecDepth 20000 in
theorem bl_7 {L : Nat} {xs : Nat → Int32} (hL : L ≤ 3072) {h : pm_H} {i : Nat} (hi : i + 6 ≤ L) (lv : List (Nat × Value)) (I : IVQ h) (L0 : pm_get lv 0 = some (.retAddr 0)) (L1 : pm_get lv 1 = some (.ref 0)) (L2 : pm_get lv 2 = some (.ref 77)) (L3 : pm_get lv 3 = some (.int (nJ i))) (K : ∀ h', IVQ h' → Ends (pm_tr (lb_all L xs)) (pm_Rt pm_P 100) (2392, lv, [], h', 599897, 7298671) RQ1) : Ends (pm_tr (lb_all L xs)) (pm_Rt pm_P 100) (577, lv, [], h, 599897, 7298671) RQ1 := by
  refine E_al rfl L1 ?_
  refine E_call rfl (tQ_int (by decide +kernel) (by decide +kernel) I.2 (top_int (as := [.ref 0]) q159 (by decide +kernel) (by decide +kernel) I.1 ⟨rfl, trivial⟩)) (chkR (a := 0) I.1.1 rfl rfl rfl rfl (by show 0 ≤ 8; decide)) (fun h1 r1 => ?_)
  rintro ⟨I1, x1, f1⟩
  rw [f1]
  show Ends _ _ (581, lv, [.int x1], h1, 599897, 7298671) _
  refine E_pop rfl rfl ?_
  refine E_al rfl L2 ?_
  refine E_call rfl (tQ_int (by decide +kernel) (by decide +kernel) I1.2 (top_int (as := [.ref 77]) q161 (by decide +kernel) (by decide +kernel) I1.1 ⟨rfl, trivial⟩)) (chkR (a := 77) I1.1.1 rfl rfl rfl rfl (by show 0 ≤ 8; decide)) (fun h2 r2 => ?_)
  rintro ⟨I2, x2, f2⟩
  rw [f2]
  show Ends _ _ (586, lv, [.int x2], h2, 599897, 7298671) _
  refine E_pop rfl rfl ?_
  refine E_goto rfl ?_
  exact K _ I2
set_option maxRecDepth 20000 in
theorem bl_8 {L : Nat} {xs : Nat → Int32} (hL : L ≤ 3072) {h : pm_H} {i : Nat} (hi : i + 6 ≤ L) (lv : List (Nat × Value)) (I : IVQ h) (L0 : pm_get lv 0 = some (.retAddr 0)) (L1 : pm_get lv 1 = some (.ref 0)) (L2 : pm_get lv 2 = some (.ref 77)) (L3 : pm_get lv 3 = some (.int (nJ i))) (K : ∀ h', IVQ h' → Ends (pm_tr (lb_all L xs)) (pm_Rt pm_P 100) (2392, lv, [], h', 599897, 7298671) RQ1) : Ends (pm_tr (lb_all L xs)) (pm_Rt pm_P 100) (590, lv, [], h, 599897, 7298671) RQ1 := by
  refine E_al rfl L1 ?_
  refine E_call rfl (tQ_int (by decide +kernel) (by decide +kernel) I.2 (top_int (as := [.ref 0]) q162 (by decide +kernel) (by decide +kernel) I.1 ⟨rfl, trivial⟩)) (chkR (a := 0) I.1.1 rfl rfl rfl rfl (by show 0 ≤ 8; decide)) (fun h1 r1 => ?_)
  rintro ⟨I1, x1, f1⟩
  rw [f1]
  show Ends _ _ (594, lv, [.int x1], h1, 599897, 7298671) _
  refine E_pop rfl rfl ?_
  refine E_al rfl L2 ?_
  refine E_call rfl (tQ_int (by decide +kernel) (by decide +kernel) I1.2 (top_int (as := [.ref 77]) q163 (by decide +kernel) (by decide +kernel) I1.1 ⟨rfl, trivial⟩)) (chkR (a := 77) I1.1.1 rfl rfl rfl rfl (by show 0 ≤ 8; decide)) (fun h2 r2 => ?_)
  rintro ⟨I2, x2, f2⟩
  rw [f2]
  show Ends _ _ (599, lv, [.int x2], h2, 599897, 7298671) _
  refine E_pop rfl rfl ?_
  refine E_goto rfl ?_
  exact K _ I2
set_option maxRecDepth 20000 in
theorem bl_9 {L : Nat} {xs : Nat → Int32} (hL : L ≤ 3072) {h : pm_H} {i : Nat} (hi : i + 6 ≤ L) (lv : List (Nat × Value)) (I : IVQ h) (L0 : pm_get lv 0 = some (.retAddr 0)) (L1 : pm_get lv 1 = some (.ref 0)) (L2 : pm_get lv 2 = some (.ref 77)) (L3 : pm_get lv 3 = some (.int (nJ i))) (K : ∀ h', IVQ h' → Ends (pm_tr (lb_all L xs)) (pm_Rt pm_P 100) (2392, lv, [], h', 599897, 7298671) RQ1) : Ends (pm_tr (lb_all L xs)) (pm_Rt pm_P 100) (603, lv, [], h, 599897, 7298671) RQ1 := by
  refine E_al rfl L1 ?_
  refine E_alr rfl L0 ?_
  refine E_il rfl L3 ?_
  refine E_ci 1 rfl ci1 ?_
  refine E_bin rfl (nJ_add _ _) ?_
  refine E_sld rfl (by first | decide | with_reducible assumption | omega) hL ?_
  refine E_call rfl (tQ_int (by decide +kernel) (by decide +kernel) I.2 (top_int (as := [.ref 0, .int (xs ((i + 1)))]) q165 (by decide +kernel) (by decide +kernel) I.1 ⟨rfl, aI _, trivial⟩)) (chkR (a := 0) I.1.1 rfl rfl rfl rfl (by show 0 ≤ 8; decide)) (fun h1 r1 => ?_)
  rintro ⟨I1, x1, f1⟩
  rw [f1]
  show Ends _ _ (612, lv, [.int x1], h1, 599897, 7298671) _
  refine E_pop rfl rfl ?_
  refine E_al rfl L2 ?_
  refine E_alr rfl L0 ?_
  refine E_il rfl L3 ?_
  refine E_ci 1 rfl ci1 ?_
  refine E_bin rfl (nJ_add _ _) ?_
  refine E_sld rfl (by first | decide | with_reducible assumption | omega) hL ?_
  refine E_call rfl (tQ_int (by decide +kernel) (by decide +kernel) I1.2 (top_int (as := [.ref 77, .int (xs ((i + 1)))]) q168 (by decide +kernel) (by decide +kernel) I1.1 ⟨rfl, aI _, trivial⟩)) (chkR (a := 77) I1.1.1 rfl rfl rfl rfl (by show 0 ≤ 8; decide)) (fun h2 r2 => ?_)
  rintro ⟨I2, x2, f2⟩
  rw [f2]
  show Ends _ _ (622, lv, [.int x2], h2, 599897, 7298671) _
  refine E_pop rfl rfl ?_
  refine E_goto rfl ?_
  exact K _ I2
set_option maxRecDepth 20000 in
theorem bl_10 {L : Nat} {xs : Nat → Int32} (hL : L ≤ 3072) {h : pm_H} {i : Nat} (hi : i + 6 ≤ L) (lv : List (Nat × Value)) (I : IVQ h) (L0 : pm_get lv 0 = some (.retAddr 0)) (L1 : pm_get lv 1 = some (.ref 0)) (L2 : pm_get lv 2 = some (.ref 77)) (L3 : pm_get lv 3 = some (.int (nJ i))) (K : ∀ h', IVQ h' → Ends (pm_tr (lb_all L xs)) (pm_Rt pm_P 100) (2392, lv, [], h', 599897, 7298671) RQ1) : Ends (pm_tr (lb_all L xs)) (pm_Rt pm_P 100) (626, lv, [], h, 599897, 7298671) RQ1 := by
  refine E_al rfl L1 ?_
  refine E_call rfl (tQ_int (by decide +kernel) (by decide +kernel) I.2 (top_int (as := [.ref 0]) q169 (by decide +kernel) (by decide +kernel) I.1 ⟨rfl, trivial⟩)) (chkR (a := 0) I.1.1 rfl rfl rfl rfl (by show 0 ≤ 8; decide)) (fun h1 r1 => ?_)
  rintro ⟨I1, x1, f1⟩
  rw [f1]
  show Ends _ _ (630, lv, [.int x1], h1, 599897, 7298671) _
  refine E_pop rfl rfl ?_
  refine E_al rfl L2 ?_
  refine E_call rfl (tQ_int (by decide +kernel) (by decide +kernel) I1.2 (top_int (as := [.ref 77]) q170 (by decide +kernel) (by decide +kernel) I1.1 ⟨rfl, trivial⟩)) (chkR (a := 77) I1.1.1 rfl rfl rfl rfl (by show 0 ≤ 8; decide)) (fun h2 r2 => ?_)
  rintro ⟨I2, x2, f2⟩
  rw [f2]
  show Ends _ _ (635, lv, [.int x2], h2, 599897, 7298671) _
  refine E_pop rfl rfl ?_
  refine E_goto rfl ?_
  exact K _ I2
set_option maxRecDepth 20000 in
theorem bl_11 {L : Nat} {xs : Nat → Int32} (hL : L ≤ 3072) {h : pm_H} {i : Nat} (hi : i + 6 ≤ L) (lv : List (Nat × Value)) (I : IVQ h) (L0 : pm_get lv 0 = some (.retAddr 0)) (L1 : pm_get lv 1 = some (.ref 0)) (L2 : pm_get lv 2 = some (.ref 77)) (L3 : pm_get lv 3 = some (.int (nJ i))) (K : ∀ h', IVQ h' → Ends (pm_tr (lb_all L xs)) (pm_Rt pm_P 100) (2392, lv, [], h', 599897, 7298671) RQ1) : Ends (pm_tr (lb_all L xs)) (pm_Rt pm_P 100) (639, lv, [], h, 599897, 7298671) RQ1 := by
  refine E_al rfl L1 ?_
  refine E_call rfl (tQ_int (by decide +kernel) (by decide +kernel) I.2 (top_int (as := [.ref 0]) q171 (by decide +kernel) (by decide +kernel) I.1 ⟨rfl, trivial⟩)) (chkR (a := 0) I.1.1 rfl rfl rfl rfl (by show 0 ≤ 8; decide)) (fun h1 r1 => ?_)
  rintro ⟨I1, x1, f1⟩
  rw [f1]
  show Ends _ _ (643, lv, [.int x1], h1, 599897, 7298671) _
  refine E_pop rfl rfl ?_
  refine E_al rfl L2 ?_
  refine E_call rfl (tQ_int (by decide +kernel) (by decide +kernel) I1.2 (top_int (as := [.ref 77]) q173 (by decide +kernel) (by decide +kernel) I1.1 ⟨rfl, trivial⟩)) (chkR (a := 77) I1.1.1 rfl rfl rfl rfl (by show 0 ≤ 8; decide)) (fun h2 r2 => ?_)
  rintro ⟨I2, x2, f2⟩
  rw [f2]
  show Ends _ _ (648, lv, [.int x2], h2, 599897, 7298671) _
  refine E_pop rfl rfl ?_
  refine E_goto rfl ?_
  exact K _ I2
set_option maxRecDepth 20000 in
theorem bl_12 {L : Nat} {xs : Nat → Int32} (hL : L ≤ 3072) {h : pm_H} {i : Nat} (hi : i + 6 ≤ L) (lv : List (Nat × Value)) (I : IVQ h) (L0 : pm_get lv 0 = some (.retAddr 0)) (L1 : pm_get lv 1 = some (.ref 0)) (L2 : pm_get lv 2 = some (.ref 77)) (L3 : pm_get lv 3 = some (.int (nJ i))) (K : ∀ h', IVQ h' → Ends (pm_tr (lb_all L xs)) (pm_Rt pm_P 100) (2392, lv, [], h', 599897, 7298671) RQ1) : Ends (pm_tr (lb_all L xs)) (pm_Rt pm_P 100) (652, lv, [], h, 599897, 7298671) RQ1 := by
  refine E_al rfl L1 ?_
  refine E_call rfl (tQ_int (by decide +kernel) (by decide +kernel) I.2 (top_int (as := [.ref 0]) q174 (by decide +kernel) (by decide +kernel) I.1 ⟨rfl, trivial⟩)) (chkR (a := 0) I.1.1 rfl rfl rfl rfl (by show 0 ≤ 8; decide)) (fun h1 r1 => ?_)
  rintro ⟨I1, x1, f1⟩
  rw [f1]
  show Ends _ _ (656, lv, [.int x1], h1, 599897, 7298671) _
  refine E_pop rfl rfl ?_
  refine E_al rfl L2 ?_
  refine E_call rfl (tQ_int (by decide +kernel) (by decide +kernel) I1.2 (top_int (as := [.ref 77]) q175 (by decide +kernel) (by decide +kernel) I1.1 ⟨rfl, trivial⟩)) (chkR (a := 77) I1.1.1 rfl rfl rfl rfl (by show 0 ≤ 8; decide)) (fun h2 r2 => ?_)
  rintro ⟨I2, x2, f2⟩
  rw [f2]
  show Ends _ _ (661, lv, [.int x2], h2, 599897, 7298671) _
  refine E_pop rfl rfl ?_
  refine E_goto rfl ?_
  exact K _ I2
set_option maxRecDepth 20000 in
theorem bl_13 {L : Nat} {xs : Nat → Int32} (hL : L ≤ 3072) {h : pm_H} {i : Nat} (hi : i + 6 ≤ L) (lv : List (Nat × Value)) (I : IVQ h) (L0 : pm_get lv 0 = some (.retAddr 0)) (L1 : pm_get lv 1 = some (.ref 0)) (L2 : pm_get lv 2 = some (.ref 77)) (L3 : pm_get lv 3 = some (.int (nJ i))) (K : ∀ h', IVQ h' → Ends (pm_tr (lb_all L xs)) (pm_Rt pm_P 100) (2392, lv, [], h', 599897, 7298671) RQ1) : Ends (pm_tr (lb_all L xs)) (pm_Rt pm_P 100) (665, lv, [], h, 599897, 7298671) RQ1 := by
  refine E_al rfl L1 ?_
  refine E_call rfl (tQ_int (by decide +kernel) (by decide +kernel) I.2 (top_int (as := [.ref 0]) q177 (by decide +kernel) (by decide +kernel) I.1 ⟨rfl, trivial⟩)) (chkR (a := 0) I.1.1 rfl rfl rfl rfl (by show 0 ≤ 8; decide)) (fun h1 r1 => ?_)
  rintro ⟨I1, x1, f1⟩
  rw [f1]
  show Ends _ _ (669, lv, [.int x1], h1, 599897, 7298671) _
  refine E_pop rfl rfl ?_
  refine E_al rfl L2 ?_
  refine E_call rfl (tQ_int (by decide +kernel) (by decide +kernel) I1.2 (top_int (as := [.ref 77]) q178 (by decide +kernel) (by decide +kernel) I1.1 ⟨rfl, trivial⟩)) (chkR (a := 77) I1.1.1 rfl rfl rfl rfl (by show 0 ≤ 8; decide)) (fun h2 r2 => ?_)
  rintro ⟨I2, x2, f2⟩
  rw [f2]
  show Ends _ _ (674, lv, [.int x2], h2, 599897, 7298671) _
  refine E_pop rfl rfl ?_
  refine E_goto rfl ?_
  exact K _ I2
set_option maxRecDepth 20000 in
theorem bl_14 {L : Nat} {xs : Nat → Int32} (hL : L ≤ 3072) {h : pm_H} {i : Nat} (hi : i + 6 ≤ L) (lv : List (Nat × Value)) (I : IVQ h) (L0 : pm_get lv 0 = some (.retAddr 0)) (L1 : pm_get lv 1 = some (.ref 0)) (L2 : pm_get lv 2 = some (.ref 77)) (L3 : pm_get lv 3 = some (.int (nJ i))) (K : ∀ h', IVQ h' → Ends (pm_tr (lb_all L xs)) (pm_Rt pm_P 100) (2392, lv, [], h', 599897, 7298671) RQ1) : Ends (pm_tr (lb_all L xs)) (pm_Rt pm_P 100) (678, lv, [], h, 599897, 7298671) RQ1 := by
  refine E_al rfl L1 ?_
  refine E_alr rfl L0 ?_
  refine E_il rfl L3 ?_
  refine E_ci 1 rfl ci1 ?_
  refine E_bin rfl (nJ_add _ _) ?_
  refine E_sld rfl (by first | decide | with_reducible assumption | omega) hL ?_
  refine E_call rfl (tQ_int (by decide +kernel) (by decide +kernel) I.2 (top_int (as := [.ref 0, .int (xs ((i + 1)))]) q180 (by decide +kernel) (by decide +kernel) I.1 ⟨rfl, aI _, trivial⟩)) (chkR (a := 0) I.1.1 rfl rfl rfl rfl (by show 0 ≤ 8; decide)) (fun h1 r1 => ?_)
  rintro ⟨I1, x1, f1⟩
  rw [f1]
  show Ends _ _ (687, lv, [.int x1], h1, 599897, 7298671) _
  refine E_pop rfl rfl ?_
  refine E_al rfl L2 ?_
  refine E_alr rfl L0 ?_
  refine E_il rfl L3 ?_
  refine E_ci 1 rfl ci1 ?_
  refine E_bin rfl (nJ_add _ _) ?_
  refine E_sld rfl (by first | decide | with_reducible assumption | omega) hL ?_
  refine E_call rfl (tQ_int (by decide +kernel) (by decide +kernel) I1.2 (top_int (as := [.ref 77, .int (xs ((i + 1)))]) q245 (by decide +kernel) (by decide +kernel) I1.1 ⟨rfl, aI _, trivial⟩)) (chkR (a := 77) I1.1.1 rfl rfl rfl rfl (by show 0 ≤ 8; decide)) (fun h2 r2 => ?_)
  rintro ⟨I2, x2, f2⟩
  rw [f2]
  show Ends _ _ (697, lv, [.int x2], h2, 599897, 7298671) _
  refine E_pop rfl rfl ?_
  refine E_goto rfl ?_
  exact K _ I2
set_option maxRecDepth 20000 in
theorem bl_15 {L : Nat} {xs : Nat → Int32} (hL : L ≤ 3072) {h : pm_H} {i : Nat} (hi : i + 6 ≤ L) (lv : List (Nat × Value)) (I : IVQ h) (L0 : pm_get lv 0 = some (.retAddr 0)) (L1 : pm_get lv 1 = some (.ref 0)) (L2 : pm_get lv 2 = some (.ref 77)) (L3 : pm_get lv 3 = some (.int (nJ i))) (K : ∀ h', IVQ h' → Ends (pm_tr (lb_all L xs)) (pm_Rt pm_P 100) (2392, lv, [], h', 599897, 7298671) RQ1) : Ends (pm_tr (lb_all L xs)) (pm_Rt pm_P 100) (701, lv, [], h, 599897, 7298671) RQ1 := by
  refine E_al rfl L1 ?_
  refine E_call rfl (tQ_int (by decide +kernel) (by decide +kernel) I.2 (top_int (as := [.ref 0]) q247 (by decide +kernel) (by decide +kernel) I.1 ⟨rfl, trivial⟩)) (chkR (a := 0) I.1.1 rfl rfl rfl rfl (by show 0 ≤ 8; decide)) (fun h1 r1 => ?_)
  rintro ⟨I1, x1, f1⟩
  rw [f1]
  show Ends _ _ (705, lv, [.int x1], h1, 599897, 7298671) _
  refine E_pop rfl rfl ?_
  refine E_al rfl L2 ?_
  refine E_call rfl (tQ_int (by decide +kernel) (by decide +kernel) I1.2 (top_int (as := [.ref 77]) q250 (by decide +kernel) (by decide +kernel) I1.1 ⟨rfl, trivial⟩)) (chkR (a := 77) I1.1.1 rfl rfl rfl rfl (by show 0 ≤ 8; decide)) (fun h2 r2 => ?_)
  rintro ⟨I2, x2, f2⟩
  rw [f2]
  show Ends _ _ (710, lv, [.int x2], h2, 599897, 7298671) _
  refine E_pop rfl rfl ?_
  refine E_goto rfl ?_
  exact K _ I2
set_option maxRecDepth 20000 in
theorem bl_16 {L : Nat} {xs : Nat → Int32} (hL : L ≤ 3072) {h : pm_H} {i : Nat} (hi : i + 6 ≤ L) (lv : List (Nat × Value)) (I : IVQ h) (L0 : pm_get lv 0 = some (.retAddr 0)) (L1 : pm_get lv 1 = some (.ref 0)) (L2 : pm_get lv 2 = some (.ref 77)) (L3 : pm_get lv 3 = some (.int (nJ i))) (K : ∀ h', IVQ h' → Ends (pm_tr (lb_all L xs)) (pm_Rt pm_P 100) (2392, lv, [], h', 599897, 7298671) RQ1) : Ends (pm_tr (lb_all L xs)) (pm_Rt pm_P 100) (714, lv, [], h, 599897, 7298671) RQ1 := by
  refine E_al rfl L1 ?_
  refine E_call rfl (tQ_int (by decide +kernel) (by decide +kernel) I.2 (top_int (as := [.ref 0]) q252 (by decide +kernel) (by decide +kernel) I.1 ⟨rfl, trivial⟩)) (chkR (a := 0) I.1.1 rfl rfl rfl rfl (by show 0 ≤ 8; decide)) (fun h1 r1 => ?_)
  rintro ⟨I1, x1, f1⟩
  rw [f1]
  show Ends _ _ (718, lv, [.int x1], h1, 599897, 7298671) _
  refine E_pop rfl rfl ?_
  refine E_al rfl L2 ?_
  refine E_call rfl (tQ_int (by decide +kernel) (by decide +kernel) I1.2 (top_int (as := [.ref 77]) q254 (by decide +kernel) (by decide +kernel) I1.1 ⟨rfl, trivial⟩)) (chkR (a := 77) I1.1.1 rfl rfl rfl rfl (by show 0 ≤ 8; decide)) (fun h2 r2 => ?_)
  rintro ⟨I2, x2, f2⟩
  rw [f2]
  show Ends _ _ (723, lv, [.int x2], h2, 599897, 7298671) _
  refine E_pop rfl rfl ?_
  refine E_goto rfl ?_
  exact K _ I2
set_option maxRecDepth 20000 in
theorem bl_17 {L : Nat} {xs : Nat → Int32} (hL : L ≤ 3072) {h : pm_H} {i : Nat} (hi : i + 6 ≤ L) (lv : List (Nat × Value)) (I : IVQ h) (L0 : pm_get lv 0 = some (.retAddr 0)) (L1 : pm_get lv 1 = some (.ref 0)) (L2 : pm_get lv 2 = some (.ref 77)) (L3 : pm_get lv 3 = some (.int (nJ i))) (K : ∀ h', IVQ h' → Ends (pm_tr (lb_all L xs)) (pm_Rt pm_P 100) (2392, lv, [], h', 599897, 7298671) RQ1) : Ends (pm_tr (lb_all L xs)) (pm_Rt pm_P 100) (727, lv, [], h, 599897, 7298671) RQ1 := by
  refine E_al rfl L1 ?_
  refine E_call rfl (tQ_int (by decide +kernel) (by decide +kernel) I.2 (top_int (as := [.ref 0]) q257 (by decide +kernel) (by decide +kernel) I.1 ⟨rfl, trivial⟩)) (chkR (a := 0) I.1.1 rfl rfl rfl rfl (by show 0 ≤ 8; decide)) (fun h1 r1 => ?_)
  rintro ⟨I1, x1, f1⟩
  rw [f1]
  show Ends _ _ (731, lv, [.int x1], h1, 599897, 7298671) _
  refine E_pop rfl rfl ?_
  refine E_al rfl L2 ?_
  refine E_call rfl (tQ_int (by decide +kernel) (by decide +kernel) I1.2 (top_int (as := [.ref 77]) q258 (by decide +kernel) (by decide +kernel) I1.1 ⟨rfl, trivial⟩)) (chkR (a := 77) I1.1.1 rfl rfl rfl rfl (by show 0 ≤ 8; decide)) (fun h2 r2 => ?_)
  rintro ⟨I2, x2, f2⟩
  rw [f2]
  show Ends _ _ (736, lv, [.int x2], h2, 599897, 7298671) _
  refine E_pop rfl rfl ?_
  refine E_goto rfl ?_
  exact K _ I2
set_option maxRecDepth 20000 in
theorem bl_18 {L : Nat} {xs : Nat → Int32} (hL : L ≤ 3072) {h : pm_H} {i : Nat} (hi : i + 6 ≤ L) (lv : List (Nat × Value)) (I : IVQ h) (L0 : pm_get lv 0 = some (.retAddr 0)) (L1 : pm_get lv 1 = some (.ref 0)) (L2 : pm_get lv 2 = some (.ref 77)) (L3 : pm_get lv 3 = some (.int (nJ i))) (K : ∀ h', IVQ h' → Ends (pm_tr (lb_all L xs)) (pm_Rt pm_P 100) (2392, lv, [], h', 599897, 7298671) RQ1) : Ends (pm_tr (lb_all L xs)) (pm_Rt pm_P 100) (740, lv, [], h, 599897, 7298671) RQ1 := by
  refine E_al rfl L1 ?_
  refine E_call rfl (tQ_int (by decide +kernel) (by decide +kernel) I.2 (top_int (as := [.ref 0]) q264 (by decide +kernel) (by decide +kernel) I.1 ⟨rfl, trivial⟩)) (chkR (a := 0) I.1.1 rfl rfl rfl rfl (by show 0 ≤ 8; decide)) (fun h1 r1 => ?_)
  rintro ⟨I1, x1, f1⟩
  rw [f1]
  show Ends _ _ (744, lv, [.int x1], h1, 599897, 7298671) _
  refine E_pop rfl rfl ?_
  refine E_al rfl L2 ?_
  refine E_call rfl (tQ_int (by decide +kernel) (by decide +kernel) I1.2 (top_int (as := [.ref 77]) q267 (by decide +kernel) (by decide +kernel) I1.1 ⟨rfl, trivial⟩)) (chkR (a := 77) I1.1.1 rfl rfl rfl rfl (by show 0 ≤ 8; decide)) (fun h2 r2 => ?_)
  rintro ⟨I2, x2, f2⟩
  rw [f2]
  show Ends _ _ (749, lv, [.int x2], h2, 599897, 7298671) _
  refine E_pop rfl rfl ?_
  refine E_goto rfl ?_
  exact K _ I2
set_option maxRecDepth 20000 in
theorem bl_19 {L : Nat} {xs : Nat → Int32} (hL : L ≤ 3072) {h : pm_H} {i : Nat} (hi : i + 6 ≤ L) (lv : List (Nat × Value)) (I : IVQ h) (L0 : pm_get lv 0 = some (.retAddr 0)) (L1 : pm_get lv 1 = some (.ref 0)) (L2 : pm_get lv 2 = some (.ref 77)) (L3 : pm_get lv 3 = some (.int (nJ i))) (K : ∀ h', IVQ h' → Ends (pm_tr (lb_all L xs)) (pm_Rt pm_P 100) (2392, lv, [], h', 599897, 7298671) RQ1) : Ends (pm_tr (lb_all L xs)) (pm_Rt pm_P 100) (753, lv, [], h, 599897, 7298671) RQ1 := by
  refine E_al rfl L1 ?_
  refine E_alr rfl L0 ?_
  refine E_il rfl L3 ?_
  refine E_ci 1 rfl ci1 ?_
  refine E_bin rfl (nJ_add _ _) ?_
  refine E_sld rfl (by first | decide | with_reducible assumption | omega) hL ?_
  refine E_call rfl (tQ_int (by decide +kernel) (by decide +kernel) I.2 (top_int (as := [.ref 0, .int (xs ((i + 1)))]) q276 (by decide +kernel) (by decide +kernel) I.1 ⟨rfl, aI _, trivial⟩)) (chkR (a := 0) I.1.1 rfl rfl rfl rfl (by show 0 ≤ 8; decide)) (fun h1 r1 => ?_)
  rintro ⟨I1, x1, f1⟩
  rw [f1]
  show Ends _ _ (762, lv, [.int x1], h1, 599897, 7298671) _
  refine E_pop rfl rfl ?_
  refine E_al rfl L2 ?_
  refine E_alr rfl L0 ?_
  refine E_il rfl L3 ?_
  refine E_ci 1 rfl ci1 ?_
  refine E_bin rfl (nJ_add _ _) ?_
  refine E_sld rfl (by first | decide | with_reducible assumption | omega) hL ?_
  refine E_call rfl (tQ_int (by decide +kernel) (by decide +kernel) I1.2 (top_TQ (d := 30) rfl I1.1 (tp_ring (d := 0) I1.1.1 (I1.1.2.2.1 0 (by first | decide | with_reducible assumption | omega))))) (chkR (a := 77) I1.1.1 rfl rfl rfl rfl (by show 0 ≤ 8; decide)) (fun h2 r2 => ?_)
  rintro ⟨I2, x2, f2⟩
  rw [f2]
  show Ends _ _ (772, lv, [.int x2], h2, 599897, 7298671) _
  refine E_pop rfl rfl ?_
  refine E_goto rfl ?_
  exact K _ I2
set_option maxRecDepth 20000 in
theorem bl_20 {L : Nat} {xs : Nat → Int32} (hL : L ≤ 3072) {h : pm_H} {i : Nat} (hi : i + 6 ≤ L) (lv : List (Nat × Value)) (I : IVQ h) (L0 : pm_get lv 0 = some (.retAddr 0)) (L1 : pm_get lv 1 = some (.ref 0)) (L2 : pm_get lv 2 = some (.ref 77)) (L3 : pm_get lv 3 = some (.int (nJ i))) (K : ∀ h', IVQ h' → Ends (pm_tr (lb_all L xs)) (pm_Rt pm_P 100) (2392, lv, [], h', 599897, 7298671) RQ1) : Ends (pm_tr (lb_all L xs)) (pm_Rt pm_P 100) (776, lv, [], h, 599897, 7298671) RQ1 := by
  refine E_al rfl L1 ?_
  refine E_call rfl (tQ_int (by decide +kernel) (by decide +kernel) I.2 (top_int (as := [.ref 0]) q278 (by decide +kernel) (by decide +kernel) I.1 ⟨rfl, trivial⟩)) (chkR (a := 0) I.1.1 rfl rfl rfl rfl (by show 0 ≤ 8; decide)) (fun h1 r1 => ?_)
  rintro ⟨I1, x1, f1⟩
  rw [f1]
  show Ends _ _ (780, lv, [.int x1], h1, 599897, 7298671) _
  refine E_pop rfl rfl ?_
  refine E_al rfl L2 ?_
  refine E_call rfl (tQ_int (by decide +kernel) (by decide +kernel) I1.2 (top_TQ (d := 30) rfl I1.1 (tp_hole (d := 0) I1.1.1 (I1.1.2.2.1 0 (by first | decide | with_reducible assumption | omega))))) (chkR (a := 77) I1.1.1 rfl rfl rfl rfl (by show 0 ≤ 8; decide)) (fun h2 r2 => ?_)
  rintro ⟨I2, x2, f2⟩
  rw [f2]
  show Ends _ _ (785, lv, [.int x2], h2, 599897, 7298671) _
  refine E_pop rfl rfl ?_
  refine E_goto rfl ?_
  exact K _ I2
set_option maxRecDepth 20000 in
theorem bl_21 {L : Nat} {xs : Nat → Int32} (hL : L ≤ 3072) {h : pm_H} {i : Nat} (hi : i + 6 ≤ L) (lv : List (Nat × Value)) (I : IVQ h) (L0 : pm_get lv 0 = some (.retAddr 0)) (L1 : pm_get lv 1 = some (.ref 0)) (L2 : pm_get lv 2 = some (.ref 77)) (L3 : pm_get lv 3 = some (.int (nJ i))) (K : ∀ h', IVQ h' → Ends (pm_tr (lb_all L xs)) (pm_Rt pm_P 100) (2392, lv, [], h', 599897, 7298671) RQ1) : Ends (pm_tr (lb_all L xs)) (pm_Rt pm_P 100) (789, lv, [], h, 599897, 7298671) RQ1 := by
  refine E_al rfl L1 ?_
  refine E_call rfl (tQ_int (by decide +kernel) (by decide +kernel) I.2 (top_int (as := [.ref 0]) q279 (by decide +kernel) (by decide +kernel) I.1 ⟨rfl, trivial⟩)) (chkR (a := 0) I.1.1 rfl rfl rfl rfl (by show 0 ≤ 8; decide)) (fun h1 r1 => ?_)
  rintro ⟨I1, x1, f1⟩
  rw [f1]
  show Ends _ _ (793, lv, [.int x1], h1, 599897, 7298671) _
  refine E_pop rfl rfl ?_
  refine E_al rfl L2 ?_
  refine E_call rfl (tQ_int (by decide +kernel) (by decide +kernel) I1.2 (top_TQ (d := 30) rfl I1.1 (tp_shifts (d := 0) I1.1.1 (I1.1.2.2.1 0 (by first | decide | with_reducible assumption | omega))))) (chkR (a := 77) I1.1.1 rfl rfl rfl rfl (by show 0 ≤ 8; decide)) (fun h2 r2 => ?_)
  rintro ⟨I2, x2, f2⟩
  rw [f2]
  show Ends _ _ (798, lv, [.int x2], h2, 599897, 7298671) _
  refine E_pop rfl rfl ?_
  refine E_goto rfl ?_
  exact K _ I2
set_option maxRecDepth 20000 in
theorem bl_22 {L : Nat} {xs : Nat → Int32} (hL : L ≤ 3072) {h : pm_H} {i : Nat} (hi : i + 6 ≤ L) (lv : List (Nat × Value)) (I : IVQ h) (L0 : pm_get lv 0 = some (.retAddr 0)) (L1 : pm_get lv 1 = some (.ref 0)) (L2 : pm_get lv 2 = some (.ref 77)) (L3 : pm_get lv 3 = some (.int (nJ i))) (K : ∀ h', IVQ h' → Ends (pm_tr (lb_all L xs)) (pm_Rt pm_P 100) (2392, lv, [], h', 599897, 7298671) RQ1) : Ends (pm_tr (lb_all L xs)) (pm_Rt pm_P 100) (802, lv, [], h, 599897, 7298671) RQ1 := by
  refine E_al rfl L1 ?_
  refine E_alr rfl L0 ?_
  refine E_il rfl L3 ?_
  refine E_ci 1 rfl ci1 ?_
  refine E_bin rfl (nJ_add _ _) ?_
  refine E_sld rfl (by first | decide | with_reducible assumption | omega) hL ?_
  refine E_alr rfl L0 ?_
  refine E_il rfl L3 ?_
  refine E_ci 2 rfl ci2 ?_
  refine E_bin rfl (nJ_add _ _) ?_
  refine E_sld rfl (by first | decide | with_reducible assumption | omega) hL ?_
  refine E_call rfl (tQ_int (by decide +kernel) (by decide +kernel) I.2 (top_int (as := [.ref 0, .int (xs ((i + 1))), .int (xs ((i + 2)))]) q280 (by decide +kernel) (by decide +kernel) I.1 ⟨rfl, aI _, aI _, trivial⟩)) (chkR (a := 0) I.1.1 rfl rfl rfl rfl (by show 0 ≤ 8; decide)) (fun h1 r1 => ?_)
  rintro ⟨I1, x1, f1⟩
  rw [f1]
  show Ends _ _ (816, lv, [.int x1], h1, 599897, 7298671) _
  refine E_pop rfl rfl ?_
  refine E_al rfl L2 ?_
  refine E_alr rfl L0 ?_
  refine E_il rfl L3 ?_
  refine E_ci 1 rfl ci1 ?_
  refine E_bin rfl (nJ_add _ _) ?_
  refine E_sld rfl (by first | decide | with_reducible assumption | omega) hL ?_
  refine E_alr rfl L0 ?_
  refine E_il rfl L3 ?_
  refine E_ci 2 rfl ci2 ?_
  refine E_bin rfl (nJ_add _ _) ?_
  refine E_sld rfl (by first | decide | with_reducible assumption | omega) hL ?_
  refine E_call rfl (tQ_int (by decide +kernel) (by decide +kernel) I1.2 (top_int (as := [.ref 77, .int (xs ((i + 1))), .int (xs ((i + 2)))]) q283 (by decide +kernel) (by decide +kernel) I1.1 ⟨rfl, aI _, aI _, trivial⟩)) (chkR (a := 77) I1.1.1 rfl rfl rfl rfl (by show 0 ≤ 8; decide)) (fun h2 r2 => ?_)
  rintro ⟨I2, x2, f2⟩
  rw [f2]
  show Ends _ _ (831, lv, [.int x2], h2, 599897, 7298671) _
  refine E_pop rfl rfl ?_
  refine E_goto rfl ?_
  exact K _ I2
set_option maxRecDepth 20000 in
theorem bl_23 {L : Nat} {xs : Nat → Int32} (hL : L ≤ 3072) {h : pm_H} {i : Nat} (hi : i + 6 ≤ L) (lv : List (Nat × Value)) (I : IVQ h) (L0 : pm_get lv 0 = some (.retAddr 0)) (L1 : pm_get lv 1 = some (.ref 0)) (L2 : pm_get lv 2 = some (.ref 77)) (L3 : pm_get lv 3 = some (.int (nJ i))) (K : ∀ h', IVQ h' → Ends (pm_tr (lb_all L xs)) (pm_Rt pm_P 100) (2392, lv, [], h', 599897, 7298671) RQ1) : Ends (pm_tr (lb_all L xs)) (pm_Rt pm_P 100) (835, lv, [], h, 599897, 7298671) RQ1 := by
  refine E_al rfl L1 ?_
  refine E_alr rfl L0 ?_
  refine E_il rfl L3 ?_
  refine E_ci 1 rfl ci1 ?_
  refine E_bin rfl (nJ_add _ _) ?_
  refine E_sld rfl (by first | decide | with_reducible assumption | omega) hL ?_
  refine E_call rfl (tQ_int (by decide +kernel) (by decide +kernel) I.2 (top_int (as := [.ref 0, .int (xs ((i + 1)))]) q289 (by decide +kernel) (by decide +kernel) I.1 ⟨rfl, aI _, trivial⟩)) (chkR (a := 0) I.1.1 rfl rfl rfl rfl (by show 0 ≤ 8; decide)) (fun h1 r1 => ?_)
  rintro ⟨I1, x1, f1⟩
  rw [f1]
  show Ends _ _ (844, lv, [.int x1], h1, 599897, 7298671) _
  refine E_pop rfl rfl ?_
  refine E_al rfl L2 ?_
  refine E_alr rfl L0 ?_
  refine E_il rfl L3 ?_
  refine E_ci 1 rfl ci1 ?_
  refine E_bin rfl (nJ_add _ _) ?_
  refine E_sld rfl (by first | decide | with_reducible assumption | omega) hL ?_
  refine E_call rfl (tQ_int (by decide +kernel) (by decide +kernel) I1.2 (top_TQ (d := 30) rfl I1.1 (tp_parent (d := 0) I1.1.1 (I1.1.2.2.1 0 (by first | decide | with_reducible assumption | omega))))) (chkR (a := 77) I1.1.1 rfl rfl rfl rfl (by show 0 ≤ 8; decide)) (fun h2 r2 => ?_)
  rintro ⟨I2, x2, f2⟩
  rw [f2]
  show Ends _ _ (854, lv, [.int x2], h2, 599897, 7298671) _
  refine E_pop rfl rfl ?_
  refine E_goto rfl ?_
  exact K _ I2
set_option maxRecDepth 20000 in
theorem bl_24 {L : Nat} {xs : Nat → Int32} (hL : L ≤ 3072) {h : pm_H} {i : Nat} (hi : i + 6 ≤ L) (lv : List (Nat × Value)) (I : IVQ h) (L0 : pm_get lv 0 = some (.retAddr 0)) (L1 : pm_get lv 1 = some (.ref 0)) (L2 : pm_get lv 2 = some (.ref 77)) (L3 : pm_get lv 3 = some (.int (nJ i))) (K : ∀ h', IVQ h' → Ends (pm_tr (lb_all L xs)) (pm_Rt pm_P 100) (2392, lv, [], h', 599897, 7298671) RQ1) : Ends (pm_tr (lb_all L xs)) (pm_Rt pm_P 100) (858, lv, [], h, 599897, 7298671) RQ1 := by
  refine E_al rfl L1 ?_
  refine E_alr rfl L0 ?_
  refine E_il rfl L3 ?_
  refine E_ci 1 rfl ci1 ?_
  refine E_bin rfl (nJ_add _ _) ?_
  refine E_sld rfl (by first | decide | with_reducible assumption | omega) hL ?_
  refine E_call rfl (tQ_int (by decide +kernel) (by decide +kernel) I.2 (top_int (as := [.ref 0, .int (xs ((i + 1)))]) q291 (by decide +kernel) (by decide +kernel) I.1 ⟨rfl, aI _, trivial⟩)) (chkR (a := 0) I.1.1 rfl rfl rfl rfl (by show 0 ≤ 8; decide)) (fun h1 r1 => ?_)
  rintro ⟨I1, x1, f1⟩
  rw [f1]
  show Ends _ _ (867, lv, [.int x1], h1, 599897, 7298671) _
  refine E_pop rfl rfl ?_
  refine E_al rfl L2 ?_
  refine E_alr rfl L0 ?_
  refine E_il rfl L3 ?_
  refine E_ci 1 rfl ci1 ?_
  refine E_bin rfl (nJ_add _ _) ?_
  refine E_sld rfl (by first | decide | with_reducible assumption | omega) hL ?_
  refine E_call rfl (tQ_int (by decide +kernel) (by decide +kernel) I1.2 (top_TQ (d := 30) rfl I1.1 (tp_depth (d := 0) I1.1.1 (I1.1.2.2.1 0 (by first | decide | with_reducible assumption | omega))))) (chkR (a := 77) I1.1.1 rfl rfl rfl rfl (by show 0 ≤ 8; decide)) (fun h2 r2 => ?_)
  rintro ⟨I2, x2, f2⟩
  rw [f2]
  show Ends _ _ (877, lv, [.int x2], h2, 599897, 7298671) _
  refine E_pop rfl rfl ?_
  refine E_goto rfl ?_
  exact K _ I2
set_option maxRecDepth 20000 in
theorem bl_25 {L : Nat} {xs : Nat → Int32} (hL : L ≤ 3072) {h : pm_H} {i : Nat} (hi : i + 6 ≤ L) (lv : List (Nat × Value)) (I : IVQ h) (L0 : pm_get lv 0 = some (.retAddr 0)) (L1 : pm_get lv 1 = some (.ref 0)) (L2 : pm_get lv 2 = some (.ref 77)) (L3 : pm_get lv 3 = some (.int (nJ i))) (K : ∀ h', IVQ h' → Ends (pm_tr (lb_all L xs)) (pm_Rt pm_P 100) (2392, lv, [], h', 599897, 7298671) RQ1) : Ends (pm_tr (lb_all L xs)) (pm_Rt pm_P 100) (881, lv, [], h, 599897, 7298671) RQ1 := by
  refine E_al rfl L1 ?_
  refine E_alr rfl L0 ?_
  refine E_il rfl L3 ?_
  refine E_ci 1 rfl ci1 ?_
  refine E_bin rfl (nJ_add _ _) ?_
  refine E_sld rfl (by first | decide | with_reducible assumption | omega) hL ?_
  refine E_call rfl (tQ_int (by decide +kernel) (by decide +kernel) I.2 (top_int (as := [.ref 0, .int (xs ((i + 1)))]) q293 (by decide +kernel) (by decide +kernel) I.1 ⟨rfl, aI _, trivial⟩)) (chkR (a := 0) I.1.1 rfl rfl rfl rfl (by show 0 ≤ 8; decide)) (fun h1 r1 => ?_)
  rintro ⟨I1, x1, f1⟩
  rw [f1]
  show Ends _ _ (890, lv, [.int x1], h1, 599897, 7298671) _
  refine E_pop rfl rfl ?_
  refine E_al rfl L2 ?_
  refine E_alr rfl L0 ?_
  refine E_il rfl L3 ?_
  refine E_ci 1 rfl ci1 ?_
  refine E_bin rfl (nJ_add _ _) ?_
  refine E_sld rfl (by first | decide | with_reducible assumption | omega) hL ?_
  refine E_call rfl (tQ_int (by decide +kernel) (by decide +kernel) I1.2 (top_TQ (d := 30) rfl I1.1 (tp_kids (d := 0) I1.1.1 (I1.1.2.2.1 0 (by first | decide | with_reducible assumption | omega))))) (chkR (a := 77) I1.1.1 rfl rfl rfl rfl (by show 0 ≤ 8; decide)) (fun h2 r2 => ?_)
  rintro ⟨I2, x2, f2⟩
  rw [f2]
  show Ends _ _ (900, lv, [.int x2], h2, 599897, 7298671) _
  refine E_pop rfl rfl ?_
  refine E_goto rfl ?_
  exact K _ I2
set_option maxRecDepth 20000 in
theorem bl_26 {L : Nat} {xs : Nat → Int32} (hL : L ≤ 3072) {h : pm_H} {i : Nat} (hi : i + 6 ≤ L) (lv : List (Nat × Value)) (I : IVQ h) (L0 : pm_get lv 0 = some (.retAddr 0)) (L1 : pm_get lv 1 = some (.ref 0)) (L2 : pm_get lv 2 = some (.ref 77)) (L3 : pm_get lv 3 = some (.int (nJ i))) (K : ∀ h', IVQ h' → Ends (pm_tr (lb_all L xs)) (pm_Rt pm_P 100) (2392, lv, [], h', 599897, 7298671) RQ1) : Ends (pm_tr (lb_all L xs)) (pm_Rt pm_P 100) (904, lv, [], h, 599897, 7298671) RQ1 := by
  refine E_al rfl L1 ?_
  refine E_alr rfl L0 ?_
  refine E_il rfl L3 ?_
  refine E_ci 1 rfl ci1 ?_
  refine E_bin rfl (nJ_add _ _) ?_
  refine E_sld rfl (by first | decide | with_reducible assumption | omega) hL ?_
  refine E_call rfl (tQ_int (by decide +kernel) (by decide +kernel) I.2 (top_int (as := [.ref 0, .int (xs ((i + 1)))]) q296 (by decide +kernel) (by decide +kernel) I.1 ⟨rfl, aI _, trivial⟩)) (chkR (a := 0) I.1.1 rfl rfl rfl rfl (by show 0 ≤ 8; decide)) (fun h1 r1 => ?_)
  rintro ⟨I1, x1, f1⟩
  rw [f1]
  show Ends _ _ (913, lv, [.int x1], h1, 599897, 7298671) _
  refine E_pop rfl rfl ?_
  refine E_al rfl L2 ?_
  refine E_alr rfl L0 ?_
  refine E_il rfl L3 ?_
  refine E_ci 1 rfl ci1 ?_
  refine E_bin rfl (nJ_add _ _) ?_
  refine E_sld rfl (by first | decide | with_reducible assumption | omega) hL ?_
  refine E_call rfl (tQ_int (by decide +kernel) (by decide +kernel) I1.2 (top_TQ (d := 30) rfl I1.1 (tp_queue (d := 0) I1.1.1 (I1.1.2.2.1 0 (by first | decide | with_reducible assumption | omega))))) (chkR (a := 77) I1.1.1 rfl rfl rfl rfl (by show 0 ≤ 8; decide)) (fun h2 r2 => ?_)
  rintro ⟨I2, x2, f2⟩
  rw [f2]
  show Ends _ _ (923, lv, [.int x2], h2, 599897, 7298671) _
  refine E_pop rfl rfl ?_
  refine E_goto rfl ?_
  exact K _ I2
set_option maxRecDepth 20000 in
theorem bl_27 {L : Nat} {xs : Nat → Int32} (hL : L ≤ 3072) {h : pm_H} {i : Nat} (hi : i + 6 ≤ L) (lv : List (Nat × Value)) (I : IVQ h) (L0 : pm_get lv 0 = some (.retAddr 0)) (L1 : pm_get lv 1 = some (.ref 0)) (L2 : pm_get lv 2 = some (.ref 77)) (L3 : pm_get lv 3 = some (.int (nJ i))) (K : ∀ h', IVQ h' → Ends (pm_tr (lb_all L xs)) (pm_Rt pm_P 100) (2392, lv, [], h', 599897, 7298671) RQ1) : Ends (pm_tr (lb_all L xs)) (pm_Rt pm_P 100) (927, lv, [], h, 599897, 7298671) RQ1 := by
  refine E_al rfl L1 ?_
  refine E_call rfl (tQ_int (by decide +kernel) (by decide +kernel) I.2 (top_int (as := [.ref 0]) q298 (by decide +kernel) (by decide +kernel) I.1 ⟨rfl, trivial⟩)) (chkR (a := 0) I.1.1 rfl rfl rfl rfl (by show 0 ≤ 8; decide)) (fun h1 r1 => ?_)
  rintro ⟨I1, x1, f1⟩
  rw [f1]
  show Ends _ _ (931, lv, [.int x1], h1, 599897, 7298671) _
  refine E_pop rfl rfl ?_
  refine E_al rfl L2 ?_
  refine E_call rfl (tQ_int (by decide +kernel) (by decide +kernel) I1.2 (top_TQ (d := 30) rfl I1.1 (tp_leaves (d := 0) I1.1.1 (I1.1.2.2.1 0 (by first | decide | with_reducible assumption | omega))))) (chkR (a := 77) I1.1.1 rfl rfl rfl rfl (by show 0 ≤ 8; decide)) (fun h2 r2 => ?_)
  rintro ⟨I2, x2, f2⟩
  rw [f2]
  show Ends _ _ (936, lv, [.int x2], h2, 599897, 7298671) _
  refine E_pop rfl rfl ?_
  refine E_goto rfl ?_
  exact K _ I2
set_option maxRecDepth 20000 in
theorem bl_28 {L : Nat} {xs : Nat → Int32} (hL : L ≤ 3072) {h : pm_H} {i : Nat} (hi : i + 6 ≤ L) (lv : List (Nat × Value)) (I : IVQ h) (L0 : pm_get lv 0 = some (.retAddr 0)) (L1 : pm_get lv 1 = some (.ref 0)) (L2 : pm_get lv 2 = some (.ref 77)) (L3 : pm_get lv 3 = some (.int (nJ i))) (K : ∀ h', IVQ h' → Ends (pm_tr (lb_all L xs)) (pm_Rt pm_P 100) (2392, lv, [], h', 599897, 7298671) RQ1) : Ends (pm_tr (lb_all L xs)) (pm_Rt pm_P 100) (940, lv, [], h, 599897, 7298671) RQ1 := by
  refine E_al rfl L1 ?_
  refine E_call rfl (tQ_int (by decide +kernel) (by decide +kernel) I.2 (top_int (as := [.ref 0]) q301 (by decide +kernel) (by decide +kernel) I.1 ⟨rfl, trivial⟩)) (chkR (a := 0) I.1.1 rfl rfl rfl rfl (by show 0 ≤ 8; decide)) (fun h1 r1 => ?_)
  rintro ⟨I1, x1, f1⟩
  rw [f1]
  show Ends _ _ (944, lv, [.int x1], h1, 599897, 7298671) _
  refine E_pop rfl rfl ?_
  refine E_al rfl L2 ?_
  refine E_call rfl (tQ_int (by decide +kernel) (by decide +kernel) I1.2 (top_TQ (d := 30) rfl I1.1 (tp_inversions (d := 0) I1.1.1 (I1.1.2.2.1 0 (by first | decide | with_reducible assumption | omega))))) (chkR (a := 77) I1.1.1 rfl rfl rfl rfl (by show 0 ≤ 8; decide)) (fun h2 r2 => ?_)
  rintro ⟨I2, x2, f2⟩
  rw [f2]
  show Ends _ _ (949, lv, [.int x2], h2, 599897, 7298671) _
  refine E_pop rfl rfl ?_
  refine E_goto rfl ?_
  exact K _ I2
set_option maxRecDepth 20000 in
theorem bl_29 {L : Nat} {xs : Nat → Int32} (hL : L ≤ 3072) {h : pm_H} {i : Nat} (hi : i + 6 ≤ L) (lv : List (Nat × Value)) (I : IVQ h) (L0 : pm_get lv 0 = some (.retAddr 0)) (L1 : pm_get lv 1 = some (.ref 0)) (L2 : pm_get lv 2 = some (.ref 77)) (L3 : pm_get lv 3 = some (.int (nJ i))) (K : ∀ h', IVQ h' → Ends (pm_tr (lb_all L xs)) (pm_Rt pm_P 100) (2392, lv, [], h', 599897, 7298671) RQ1) : Ends (pm_tr (lb_all L xs)) (pm_Rt pm_P 100) (953, lv, [], h, 599897, 7298671) RQ1 := by
  refine E_al rfl L1 ?_
  refine E_alr rfl L0 ?_
  refine E_il rfl L3 ?_
  refine E_ci 1 rfl ci1 ?_
  refine E_bin rfl (nJ_add _ _) ?_
  refine E_sld rfl (by first | decide | with_reducible assumption | omega) hL ?_
  refine E_call rfl (tQ_int (by decide +kernel) (by decide +kernel) I.2 (top_int (as := [.ref 0, .int (xs ((i + 1)))]) q307 (by decide +kernel) (by decide +kernel) I.1 ⟨rfl, aI _, trivial⟩)) (chkR (a := 0) I.1.1 rfl rfl rfl rfl (by show 0 ≤ 8; decide)) (fun h1 r1 => ?_)
  rintro ⟨I1, x1, f1⟩
  rw [f1]
  show Ends _ _ (962, lv, [.int x1], h1, 599897, 7298671) _
  refine E_pop rfl rfl ?_
  refine E_al rfl L2 ?_
  refine E_alr rfl L0 ?_
  refine E_il rfl L3 ?_
  refine E_ci 1 rfl ci1 ?_
  refine E_bin rfl (nJ_add _ _) ?_
  refine E_sld rfl (by first | decide | with_reducible assumption | omega) hL ?_
  refine E_call rfl (tQ_int (by decide +kernel) (by decide +kernel) I1.2 (top_TQ (d := 30) rfl I1.1 (tp_code (d := 0) I1.1.1 (I1.1.2.2.1 0 (by first | decide | with_reducible assumption | omega))))) (chkR (a := 77) I1.1.1 rfl rfl rfl rfl (by show 0 ≤ 8; decide)) (fun h2 r2 => ?_)
  rintro ⟨I2, x2, f2⟩
  rw [f2]
  show Ends _ _ (972, lv, [.int x2], h2, 599897, 7298671) _
  refine E_pop rfl rfl ?_
  refine E_goto rfl ?_
  exact K _ I2
set_option maxRecDepth 20000 in
theorem bl_30 {L : Nat} {xs : Nat → Int32} (hL : L ≤ 3072) {h : pm_H} {i : Nat} (hi : i + 6 ≤ L) (lv : List (Nat × Value)) (I : IVQ h) (L0 : pm_get lv 0 = some (.retAddr 0)) (L1 : pm_get lv 1 = some (.ref 0)) (L2 : pm_get lv 2 = some (.ref 77)) (L3 : pm_get lv 3 = some (.int (nJ i))) (K : ∀ h', IVQ h' → Ends (pm_tr (lb_all L xs)) (pm_Rt pm_P 100) (2392, lv, [], h', 599897, 7298671) RQ1) : Ends (pm_tr (lb_all L xs)) (pm_Rt pm_P 100) (976, lv, [], h, 599897, 7298671) RQ1 := by
  refine E_al rfl L1 ?_
  refine E_alr rfl L0 ?_
  refine E_il rfl L3 ?_
  refine E_ci 1 rfl ci1 ?_
  refine E_bin rfl (nJ_add _ _) ?_
  refine E_sld rfl (by first | decide | with_reducible assumption | omega) hL ?_
  refine E_call rfl (tQ_int (by decide +kernel) (by decide +kernel) I.2 (top_int (as := [.ref 0, .int (xs ((i + 1)))]) q312 (by decide +kernel) (by decide +kernel) I.1 ⟨rfl, aI _, trivial⟩)) (chkR (a := 0) I.1.1 rfl rfl rfl rfl (by show 0 ≤ 8; decide)) (fun h1 r1 => ?_)
  rintro ⟨I1, x1, f1⟩
  rw [f1]
  show Ends _ _ (985, lv, [.int x1], h1, 599897, 7298671) _
  refine E_pop rfl rfl ?_
  refine E_al rfl L2 ?_
  refine E_alr rfl L0 ?_
  refine E_il rfl L3 ?_
  refine E_ci 1 rfl ci1 ?_
  refine E_bin rfl (nJ_add _ _) ?_
  refine E_sld rfl (by first | decide | with_reducible assumption | omega) hL ?_
  refine E_call rfl (tQ_int (by decide +kernel) (by decide +kernel) I1.2 (top_TQ (d := 30) rfl I1.1 (tp_burnt (d := 0) I1.1.1 (I1.1.2.2.1 0 (by first | decide | with_reducible assumption | omega))))) (chkR (a := 77) I1.1.1 rfl rfl rfl rfl (by show 0 ≤ 8; decide)) (fun h2 r2 => ?_)
  rintro ⟨I2, x2, f2⟩
  rw [f2]
  show Ends _ _ (995, lv, [.int x2], h2, 599897, 7298671) _
  refine E_pop rfl rfl ?_
  refine E_goto rfl ?_
  exact K _ I2
set_option maxRecDepth 20000 in
theorem bl_31 {L : Nat} {xs : Nat → Int32} (hL : L ≤ 3072) {h : pm_H} {i : Nat} (hi : i + 6 ≤ L) (lv : List (Nat × Value)) (I : IVQ h) (L0 : pm_get lv 0 = some (.retAddr 0)) (L1 : pm_get lv 1 = some (.ref 0)) (L2 : pm_get lv 2 = some (.ref 77)) (L3 : pm_get lv 3 = some (.int (nJ i))) (K : ∀ h', IVQ h' → Ends (pm_tr (lb_all L xs)) (pm_Rt pm_P 100) (2392, lv, [], h', 599897, 7298671) RQ1) : Ends (pm_tr (lb_all L xs)) (pm_Rt pm_P 100) (999, lv, [], h, 599897, 7298671) RQ1 := by
  refine E_al rfl L1 ?_
  refine E_call rfl (tQ_int (by decide +kernel) (by decide +kernel) I.2 (top_int (as := [.ref 0]) q313 (by decide +kernel) (by decide +kernel) I.1 ⟨rfl, trivial⟩)) (chkR (a := 0) I.1.1 rfl rfl rfl rfl (by show 0 ≤ 8; decide)) (fun h1 r1 => ?_)
  rintro ⟨I1, x1, f1⟩
  rw [f1]
  show Ends _ _ (1003, lv, [.int x1], h1, 599897, 7298671) _
  refine E_pop rfl rfl ?_
  refine E_al rfl L2 ?_
  refine E_call rfl (tQ_int (by decide +kernel) (by decide +kernel) I1.2 (top_TQ (d := 30) rfl I1.1 (tp_turned (d := 0) I1.1.1 (I1.1.2.2.1 0 (by first | decide | with_reducible assumption | omega))))) (chkR (a := 77) I1.1.1 rfl rfl rfl rfl (by show 0 ≤ 8; decide)) (fun h2 r2 => ?_)
  rintro ⟨I2, x2, f2⟩
  rw [f2]
  show Ends _ _ (1008, lv, [.int x2], h2, 599897, 7298671) _
  refine E_pop rfl rfl ?_
  refine E_goto rfl ?_
  exact K _ I2
set_option maxRecDepth 20000 in
theorem bl_32 {L : Nat} {xs : Nat → Int32} (hL : L ≤ 3072) {h : pm_H} {i : Nat} (hi : i + 6 ≤ L) (lv : List (Nat × Value)) (I : IVQ h) (L0 : pm_get lv 0 = some (.retAddr 0)) (L1 : pm_get lv 1 = some (.ref 0)) (L2 : pm_get lv 2 = some (.ref 77)) (L3 : pm_get lv 3 = some (.int (nJ i))) (K : ∀ h', IVQ h' → Ends (pm_tr (lb_all L xs)) (pm_Rt pm_P 100) (2392, lv, [], h', 599897, 7298671) RQ1) : Ends (pm_tr (lb_all L xs)) (pm_Rt pm_P 100) (1012, lv, [], h, 599897, 7298671) RQ1 := by
  refine E_al rfl L1 ?_
  refine E_alr rfl L0 ?_
  refine E_il rfl L3 ?_
  refine E_ci 1 rfl ci1 ?_
  refine E_bin rfl (nJ_add _ _) ?_
  refine E_sld rfl (by first | decide | with_reducible assumption | omega) hL ?_
  refine E_call rfl (tQ_int (by decide +kernel) (by decide +kernel) I.2 (top_int (as := [.ref 0, .int (xs ((i + 1)))]) q314 (by decide +kernel) (by decide +kernel) I.1 ⟨rfl, aI _, trivial⟩)) (chkR (a := 0) I.1.1 rfl rfl rfl rfl (by show 0 ≤ 8; decide)) (fun h1 r1 => ?_)
  rintro ⟨I1, x1, f1⟩
  rw [f1]
  show Ends _ _ (1021, lv, [.int x1], h1, 599897, 7298671) _
  refine E_pop rfl rfl ?_
  refine E_al rfl L2 ?_
  refine E_alr rfl L0 ?_
  refine E_il rfl L3 ?_
  refine E_ci 1 rfl ci1 ?_
  refine E_bin rfl (nJ_add _ _) ?_
  refine E_sld rfl (by first | decide | with_reducible assumption | omega) hL ?_
  refine E_call rfl (tQ_int (by decide +kernel) (by decide +kernel) I1.2 (top_TQ (d := 30) rfl I1.1 (tp_visit (d := 0) I1.1.1 (I1.1.2.2.1 0 (by first | decide | with_reducible assumption | omega))))) (chkR (a := 77) I1.1.1 rfl rfl rfl rfl (by show 0 ≤ 8; decide)) (fun h2 r2 => ?_)
  rintro ⟨I2, x2, f2⟩
  rw [f2]
  show Ends _ _ (1031, lv, [.int x2], h2, 599897, 7298671) _
  refine E_pop rfl rfl ?_
  refine E_goto rfl ?_
  exact K _ I2
set_option maxRecDepth 20000 in
theorem bl_33 {L : Nat} {xs : Nat → Int32} (hL : L ≤ 3072) {h : pm_H} {i : Nat} (hi : i + 6 ≤ L) (lv : List (Nat × Value)) (I : IVQ h) (L0 : pm_get lv 0 = some (.retAddr 0)) (L1 : pm_get lv 1 = some (.ref 0)) (L2 : pm_get lv 2 = some (.ref 77)) (L3 : pm_get lv 3 = some (.int (nJ i))) (K : ∀ h', IVQ h' → Ends (pm_tr (lb_all L xs)) (pm_Rt pm_P 100) (2392, lv, [], h', 599897, 7298671) RQ1) : Ends (pm_tr (lb_all L xs)) (pm_Rt pm_P 100) (1035, lv, [], h, 599897, 7298671) RQ1 := by
  refine E_al rfl L1 ?_
  refine E_alr rfl L0 ?_
  refine E_il rfl L3 ?_
  refine E_ci 1 rfl ci1 ?_
  refine E_bin rfl (nJ_add _ _) ?_
  refine E_sld rfl (by first | decide | with_reducible assumption | omega) hL ?_
  refine E_alr rfl L0 ?_
  refine E_il rfl L3 ?_
  refine E_ci 2 rfl ci2 ?_
  refine E_bin rfl (nJ_add _ _) ?_
  refine E_sld rfl (by first | decide | with_reducible assumption | omega) hL ?_
  refine E_call rfl (tQ_int (by decide +kernel) (by decide +kernel) I.2 (top_int (as := [.ref 0, .int (xs ((i + 1))), .int (xs ((i + 2)))]) q484 (by decide +kernel) (by decide +kernel) I.1 ⟨rfl, aI _, aI _, trivial⟩)) (chkR (a := 0) I.1.1 rfl rfl rfl rfl (by show 0 ≤ 8; decide)) (fun h1 r1 => ?_)
  rintro ⟨I1, x1, f1⟩
  rw [f1]
  show Ends _ _ (1049, lv, [.int x1], h1, 599897, 7298671) _
  refine E_pop rfl rfl ?_
  refine E_al rfl L2 ?_
  refine E_alr rfl L0 ?_
  refine E_il rfl L3 ?_
  refine E_ci 1 rfl ci1 ?_
  refine E_bin rfl (nJ_add _ _) ?_
  refine E_sld rfl (by first | decide | with_reducible assumption | omega) hL ?_
  refine E_alr rfl L0 ?_
  refine E_il rfl L3 ?_
  refine E_ci 2 rfl ci2 ?_
  refine E_bin rfl (nJ_add _ _) ?_
  refine E_sld rfl (by first | decide | with_reducible assumption | omega) hL ?_
  refine E_call rfl (tQ_int (by decide +kernel) (by decide +kernel) I1.2 (top_TQ (d := 30) rfl I1.1 (tp_above (d := 0) I1.1.1 (I1.1.2.2.1 0 (by first | decide | with_reducible assumption | omega))))) (chkR (a := 77) I1.1.1 rfl rfl rfl rfl (by show 0 ≤ 8; decide)) (fun h2 r2 => ?_)
  rintro ⟨I2, x2, f2⟩
  rw [f2]
  show Ends _ _ (1064, lv, [.int x2], h2, 599897, 7298671) _
  refine E_pop rfl rfl ?_
  refine E_goto rfl ?_
  exact K _ I2
set_option maxRecDepth 20000 in
theorem bl_34 {L : Nat} {xs : Nat → Int32} (hL : L ≤ 3072) {h : pm_H} {i : Nat} (hi : i + 6 ≤ L) (lv : List (Nat × Value)) (I : IVQ h) (L0 : pm_get lv 0 = some (.retAddr 0)) (L1 : pm_get lv 1 = some (.ref 0)) (L2 : pm_get lv 2 = some (.ref 77)) (L3 : pm_get lv 3 = some (.int (nJ i))) (K : ∀ h', IVQ h' → Ends (pm_tr (lb_all L xs)) (pm_Rt pm_P 100) (2392, lv, [], h', 599897, 7298671) RQ1) : Ends (pm_tr (lb_all L xs)) (pm_Rt pm_P 100) (1068, lv, [], h, 599897, 7298671) RQ1 := by
  refine E_al rfl L1 ?_
  refine E_alr rfl L0 ?_
  refine E_il rfl L3 ?_
  refine E_ci 1 rfl ci1 ?_
  refine E_bin rfl (nJ_add _ _) ?_
  refine E_sld rfl (by first | decide | with_reducible assumption | omega) hL ?_
  refine E_alr rfl L0 ?_
  refine E_il rfl L3 ?_
  refine E_ci 2 rfl ci2 ?_
  refine E_bin rfl (nJ_add _ _) ?_
  refine E_sld rfl (by first | decide | with_reducible assumption | omega) hL ?_
  refine E_call rfl (tQ_int (by decide +kernel) (by decide +kernel) I.2 (top_int (as := [.ref 0, .int (xs ((i + 1))), .int (xs ((i + 2)))]) q491 (by decide +kernel) (by decide +kernel) I.1 ⟨rfl, aI _, aI _, trivial⟩)) (chkR (a := 0) I.1.1 rfl rfl rfl rfl (by show 0 ≤ 8; decide)) (fun h1 r1 => ?_)
  rintro ⟨I1, x1, f1⟩
  rw [f1]
  show Ends _ _ (1082, lv, [.int x1], h1, 599897, 7298671) _
  refine E_pop rfl rfl ?_
  refine E_al rfl L2 ?_
  refine E_alr rfl L0 ?_
  refine E_il rfl L3 ?_
  refine E_ci 1 rfl ci1 ?_
  refine E_bin rfl (nJ_add _ _) ?_
  refine E_sld rfl (by first | decide | with_reducible assumption | omega) hL ?_
  refine E_alr rfl L0 ?_
  refine E_il rfl L3 ?_
  refine E_ci 2 rfl ci2 ?_
  refine E_bin rfl (nJ_add _ _) ?_
  refine E_sld rfl (by first | decide | with_reducible assumption | omega) hL ?_
  refine E_call rfl (tQ_int (by decide +kernel) (by decide +kernel) I1.2 (top_TQ (d := 30) rfl I1.1 (tp_wish (d := 0) I1.1.1 (I1.1.2.2.1 0 (by first | decide | with_reducible assumption | omega))))) (chkR (a := 77) I1.1.1 rfl rfl rfl rfl (by show 0 ≤ 8; decide)) (fun h2 r2 => ?_)
  rintro ⟨I2, x2, f2⟩
  rw [f2]
  show Ends _ _ (1097, lv, [.int x2], h2, 599897, 7298671) _
  refine E_pop rfl rfl ?_
  refine E_goto rfl ?_
  exact K _ I2
set_option maxRecDepth 20000 in
theorem bl_35 {L : Nat} {xs : Nat → Int32} (hL : L ≤ 3072) {h : pm_H} {i : Nat} (hi : i + 6 ≤ L) (lv : List (Nat × Value)) (I : IVQ h) (L0 : pm_get lv 0 = some (.retAddr 0)) (L1 : pm_get lv 1 = some (.ref 0)) (L2 : pm_get lv 2 = some (.ref 77)) (L3 : pm_get lv 3 = some (.int (nJ i))) (K : ∀ h', IVQ h' → Ends (pm_tr (lb_all L xs)) (pm_Rt pm_P 100) (2392, lv, [], h', 599897, 7298671) RQ1) : Ends (pm_tr (lb_all L xs)) (pm_Rt pm_P 100) (1101, lv, [], h, 599897, 7298671) RQ1 := by
  refine E_al rfl L1 ?_
  refine E_alr rfl L0 ?_
  refine E_il rfl L3 ?_
  refine E_ci 1 rfl ci1 ?_
  refine E_bin rfl (nJ_add _ _) ?_
  refine E_sld rfl (by first | decide | with_reducible assumption | omega) hL ?_
  refine E_alr rfl L0 ?_
  refine E_il rfl L3 ?_
  refine E_ci 2 rfl ci2 ?_
  refine E_bin rfl (nJ_add _ _) ?_
  refine E_sld rfl (by first | decide | with_reducible assumption | omega) hL ?_
  refine E_call rfl (tQ_int (by decide +kernel) (by decide +kernel) I.2 (top_int (as := [.ref 0, .int (xs ((i + 1))), .int (xs ((i + 2)))]) q495 (by decide +kernel) (by decide +kernel) I.1 ⟨rfl, aI _, aI _, trivial⟩)) (chkR (a := 0) I.1.1 rfl rfl rfl rfl (by show 0 ≤ 8; decide)) (fun h1 r1 => ?_)
  rintro ⟨I1, x1, f1⟩
  rw [f1]
  show Ends _ _ (1115, lv, [.int x1], h1, 599897, 7298671) _
  refine E_pop rfl rfl ?_
  refine E_al rfl L2 ?_
  refine E_alr rfl L0 ?_
  refine E_il rfl L3 ?_
  refine E_ci 1 rfl ci1 ?_
  refine E_bin rfl (nJ_add _ _) ?_
  refine E_sld rfl (by first | decide | with_reducible assumption | omega) hL ?_
  refine E_alr rfl L0 ?_
  refine E_il rfl L3 ?_
  refine E_ci 2 rfl ci2 ?_
  refine E_bin rfl (nJ_add _ _) ?_
  refine E_sld rfl (by first | decide | with_reducible assumption | omega) hL ?_
  refine E_call rfl (tQ_int (by decide +kernel) (by decide +kernel) I1.2 (top_TQ (d := 30) rfl I1.1 (tp_regain (d := 0) I1.1.1 (I1.1.2.2.1 0 (by first | decide | with_reducible assumption | omega))))) (chkR (a := 77) I1.1.1 rfl rfl rfl rfl (by show 0 ≤ 8; decide)) (fun h2 r2 => ?_)
  rintro ⟨I2, x2, f2⟩
  rw [f2]
  show Ends _ _ (1130, lv, [.int x2], h2, 599897, 7298671) _
  refine E_pop rfl rfl ?_
  refine E_goto rfl ?_
  exact K _ I2
set_option maxRecDepth 20000 in
theorem bl_36 {L : Nat} {xs : Nat → Int32} (hL : L ≤ 3072) {h : pm_H} {i : Nat} (hi : i + 6 ≤ L) (lv : List (Nat × Value)) (I : IVQ h) (L0 : pm_get lv 0 = some (.retAddr 0)) (L1 : pm_get lv 1 = some (.ref 0)) (L2 : pm_get lv 2 = some (.ref 77)) (L3 : pm_get lv 3 = some (.int (nJ i))) (K : ∀ h', IVQ h' → Ends (pm_tr (lb_all L xs)) (pm_Rt pm_P 100) (2392, lv, [], h', 599897, 7298671) RQ1) : Ends (pm_tr (lb_all L xs)) (pm_Rt pm_P 100) (1134, lv, [], h, 599897, 7298671) RQ1 := by
  refine E_al rfl L1 ?_
  refine E_alr rfl L0 ?_
  refine E_il rfl L3 ?_
  refine E_ci 1 rfl ci1 ?_
  refine E_bin rfl (nJ_add _ _) ?_
  refine E_sld rfl (by first | decide | with_reducible assumption | omega) hL ?_
  refine E_call rfl (tQ_int (by decide +kernel) (by decide +kernel) I.2 (top_int (as := [.ref 0, .int (xs ((i + 1)))]) q496 (by decide +kernel) (by decide +kernel) I.1 ⟨rfl, aI _, trivial⟩)) (chkR (a := 0) I.1.1 rfl rfl rfl rfl (by show 0 ≤ 8; decide)) (fun h1 r1 => ?_)
  rintro ⟨I1, x1, f1⟩
  rw [f1]
  show Ends _ _ (1143, lv, [.int x1], h1, 599897, 7298671) _
  refine E_pop rfl rfl ?_
  refine E_al rfl L2 ?_
  refine E_alr rfl L0 ?_
  refine E_il rfl L3 ?_
  refine E_ci 1 rfl ci1 ?_
  refine E_bin rfl (nJ_add _ _) ?_
  refine E_sld rfl (by first | decide | with_reducible assumption | omega) hL ?_
  refine E_call rfl (tQ_int (by decide +kernel) (by decide +kernel) I1.2 (top_TQ (d := 30) rfl I1.1 (tp_upset (d := 0) I1.1.1 (I1.1.2.2.1 0 (by first | decide | with_reducible assumption | omega))))) (chkR (a := 77) I1.1.1 rfl rfl rfl rfl (by show 0 ≤ 8; decide)) (fun h2 r2 => ?_)
  rintro ⟨I2, x2, f2⟩
  rw [f2]
  show Ends _ _ (1153, lv, [.int x2], h2, 599897, 7298671) _
  refine E_pop rfl rfl ?_
  refine E_goto rfl ?_
  exact K _ I2
set_option maxRecDepth 20000 in
theorem bl_37 {L : Nat} {xs : Nat → Int32} (hL : L ≤ 3072) {h : pm_H} {i : Nat} (hi : i + 6 ≤ L) (lv : List (Nat × Value)) (I : IVQ h) (L0 : pm_get lv 0 = some (.retAddr 0)) (L1 : pm_get lv 1 = some (.ref 0)) (L2 : pm_get lv 2 = some (.ref 77)) (L3 : pm_get lv 3 = some (.int (nJ i))) (K : ∀ h', IVQ h' → Ends (pm_tr (lb_all L xs)) (pm_Rt pm_P 100) (2392, lv, [], h', 599897, 7298671) RQ1) : Ends (pm_tr (lb_all L xs)) (pm_Rt pm_P 100) (1157, lv, [], h, 599897, 7298671) RQ1 := by
  refine E_al rfl L1 ?_
  refine E_alr rfl L0 ?_
  refine E_il rfl L3 ?_
  refine E_ci 1 rfl ci1 ?_
  refine E_bin rfl (nJ_add _ _) ?_
  refine E_sld rfl (by first | decide | with_reducible assumption | omega) hL ?_
  refine E_call rfl (tQ_int (by decide +kernel) (by decide +kernel) I.2 (top_int (as := [.ref 0, .int (xs ((i + 1)))]) q499 (by decide +kernel) (by decide +kernel) I.1 ⟨rfl, aI _, trivial⟩)) (chkR (a := 0) I.1.1 rfl rfl rfl rfl (by show 0 ≤ 8; decide)) (fun h1 r1 => ?_)
  rintro ⟨I1, x1, f1⟩
  rw [f1]
  show Ends _ _ (1166, lv, [.int x1], h1, 599897, 7298671) _
  refine E_pop rfl rfl ?_
  refine E_al rfl L2 ?_
  refine E_alr rfl L0 ?_
  refine E_il rfl L3 ?_
  refine E_ci 1 rfl ci1 ?_
  refine E_bin rfl (nJ_add _ _) ?_
  refine E_sld rfl (by first | decide | with_reducible assumption | omega) hL ?_
  refine E_call rfl (tQ_int (by decide +kernel) (by decide +kernel) I1.2 (top_int (as := [.ref 77, .int (xs ((i + 1)))]) q504 (by decide +kernel) (by decide +kernel) I1.1 ⟨rfl, aI _, trivial⟩)) (chkR (a := 77) I1.1.1 rfl rfl rfl rfl (by show 0 ≤ 8; decide)) (fun h2 r2 => ?_)
  rintro ⟨I2, x2, f2⟩
  rw [f2]
  show Ends _ _ (1176, lv, [.int x2], h2, 599897, 7298671) _
  refine E_pop rfl rfl ?_
  refine E_goto rfl ?_
  exact K _ I2
set_option maxRecDepth 20000 in
theorem bl_38 {L : Nat} {xs : Nat → Int32} (hL : L ≤ 3072) {h : pm_H} {i : Nat} (hi : i + 6 ≤ L) (lv : List (Nat × Value)) (I : IVQ h) (L0 : pm_get lv 0 = some (.retAddr 0)) (L1 : pm_get lv 1 = some (.ref 0)) (L2 : pm_get lv 2 = some (.ref 77)) (L3 : pm_get lv 3 = some (.int (nJ i))) (K : ∀ h', IVQ h' → Ends (pm_tr (lb_all L xs)) (pm_Rt pm_P 100) (2392, lv, [], h', 599897, 7298671) RQ1) : Ends (pm_tr (lb_all L xs)) (pm_Rt pm_P 100) (1180, lv, [], h, 599897, 7298671) RQ1 := by
  refine E_al rfl L1 ?_
  refine E_alr rfl L0 ?_
  refine E_il rfl L3 ?_
  refine E_ci 1 rfl ci1 ?_
  refine E_bin rfl (nJ_add _ _) ?_
  refine E_sld rfl (by first | decide | with_reducible assumption | omega) hL ?_
  refine E_alr rfl L0 ?_
  refine E_il rfl L3 ?_
  refine E_ci 2 rfl ci2 ?_
  refine E_bin rfl (nJ_add _ _) ?_
  refine E_sld rfl (by first | decide | with_reducible assumption | omega) hL ?_
  refine E_call rfl (tQ_int (by decide +kernel) (by decide +kernel) I.2 (top_int (as := [.ref 0, .int (xs ((i + 1))), .int (xs ((i + 2)))]) q506 (by decide +kernel) (by decide +kernel) I.1 ⟨rfl, aI _, aI _, trivial⟩)) (chkR (a := 0) I.1.1 rfl rfl rfl rfl (by show 0 ≤ 8; decide)) (fun h1 r1 => ?_)
  rintro ⟨I1, x1, f1⟩
  rw [f1]
  show Ends _ _ (1194, lv, [.int x1], h1, 599897, 7298671) _
  refine E_pop rfl rfl ?_
  refine E_al rfl L2 ?_
  refine E_alr rfl L0 ?_
  refine E_il rfl L3 ?_
  refine E_ci 1 rfl ci1 ?_
  refine E_bin rfl (nJ_add _ _) ?_
  refine E_sld rfl (by first | decide | with_reducible assumption | omega) hL ?_
  refine E_alr rfl L0 ?_
  refine E_il rfl L3 ?_
  refine E_ci 2 rfl ci2 ?_
  refine E_bin rfl (nJ_add _ _) ?_
  refine E_sld rfl (by first | decide | with_reducible assumption | omega) hL ?_
  refine E_call rfl (tQ_int (by decide +kernel) (by decide +kernel) I1.2 (top_int (as := [.ref 77, .int (xs ((i + 1))), .int (xs ((i + 2)))]) q509 (by decide +kernel) (by decide +kernel) I1.1 ⟨rfl, aI _, aI _, trivial⟩)) (chkR (a := 77) I1.1.1 rfl rfl rfl rfl (by show 0 ≤ 8; decide)) (fun h2 r2 => ?_)
  rintro ⟨I2, x2, f2⟩
  rw [f2]
  show Ends _ _ (1209, lv, [.int x2], h2, 599897, 7298671) _
  refine E_pop rfl rfl ?_
  refine E_goto rfl ?_
  exact K _ I2
set_option maxRecDepth 20000 in
theorem bl_39 {L : Nat} {xs : Nat → Int32} (hL : L ≤ 3072) {h : pm_H} {i : Nat} (hi : i + 6 ≤ L) (lv : List (Nat × Value)) (I : IVQ h) (L0 : pm_get lv 0 = some (.retAddr 0)) (L1 : pm_get lv 1 = some (.ref 0)) (L2 : pm_get lv 2 = some (.ref 77)) (L3 : pm_get lv 3 = some (.int (nJ i))) (K : ∀ h', IVQ h' → Ends (pm_tr (lb_all L xs)) (pm_Rt pm_P 100) (2392, lv, [], h', 599897, 7298671) RQ1) : Ends (pm_tr (lb_all L xs)) (pm_Rt pm_P 100) (1213, lv, [], h, 599897, 7298671) RQ1 := by
  refine E_al rfl L1 ?_
  refine E_alr rfl L0 ?_
  refine E_il rfl L3 ?_
  refine E_ci 1 rfl ci1 ?_
  refine E_bin rfl (nJ_add _ _) ?_
  refine E_sld rfl (by first | decide | with_reducible assumption | omega) hL ?_
  refine E_alr rfl L0 ?_
  refine E_il rfl L3 ?_
  refine E_ci 2 rfl ci2 ?_
  refine E_bin rfl (nJ_add _ _) ?_
  refine E_sld rfl (by first | decide | with_reducible assumption | omega) hL ?_
  refine E_call rfl (tQ_int (by decide +kernel) (by decide +kernel) I.2 (top_int (as := [.ref 0, .int (xs ((i + 1))), .int (xs ((i + 2)))]) q510 (by decide +kernel) (by decide +kernel) I.1 ⟨rfl, aI _, aI _, trivial⟩)) (chkR (a := 0) I.1.1 rfl rfl rfl rfl (by show 0 ≤ 8; decide)) (fun h1 r1 => ?_)
  rintro ⟨I1, x1, f1⟩
  rw [f1]
  show Ends _ _ (1227, lv, [.int x1], h1, 599897, 7298671) _
  refine E_pop rfl rfl ?_
  refine E_al rfl L2 ?_
  refine E_alr rfl L0 ?_
  refine E_il rfl L3 ?_
  refine E_ci 1 rfl ci1 ?_
  refine E_bin rfl (nJ_add _ _) ?_
  refine E_sld rfl (by first | decide | with_reducible assumption | omega) hL ?_
  refine E_alr rfl L0 ?_
  refine E_il rfl L3 ?_
  refine E_ci 2 rfl ci2 ?_
  refine E_bin rfl (nJ_add _ _) ?_
  refine E_sld rfl (by first | decide | with_reducible assumption | omega) hL ?_
  refine E_call rfl (tQ_int (by decide +kernel) (by decide +kernel) I1.2 (top_TQ (d := 30) rfl I1.1 (tp_trees (d := 0) I1.1.1 (I1.1.2.2.1 0 (by first | decide | with_reducible assumption | omega))))) (chkR (a := 77) I1.1.1 rfl rfl rfl rfl (by show 0 ≤ 8; decide)) (fun h2 r2 => ?_)
  rintro ⟨I2, x2, f2⟩
  rw [f2]
  show Ends _ _ (1242, lv, [.int x2], h2, 599897, 7298671) _
  refine E_pop rfl rfl ?_
  refine E_goto rfl ?_
  exact K _ I2
set_option maxRecDepth 20000 in
theorem bl_40 {L : Nat} {xs : Nat → Int32} (hL : L ≤ 3072) {h : pm_H} {i : Nat} (hi : i + 6 ≤ L) (lv : List (Nat × Value)) (I : IVQ h) (L0 : pm_get lv 0 = some (.retAddr 0)) (L1 : pm_get lv 1 = some (.ref 0)) (L2 : pm_get lv 2 = some (.ref 77)) (L3 : pm_get lv 3 = some (.int (nJ i))) (K : ∀ h', IVQ h' → Ends (pm_tr (lb_all L xs)) (pm_Rt pm_P 100) (2392, lv, [], h', 599897, 7298671) RQ1) : Ends (pm_tr (lb_all L xs)) (pm_Rt pm_P 100) (1246, lv, [], h, 599897, 7298671) RQ1 := by
  refine E_al rfl L1 ?_
  refine E_alr rfl L0 ?_
  refine E_il rfl L3 ?_
  refine E_ci 1 rfl ci1 ?_
  refine E_bin rfl (nJ_add _ _) ?_
  refine E_sld rfl (by first | decide | with_reducible assumption | omega) hL ?_
  refine E_alr rfl L0 ?_
  refine E_il rfl L3 ?_
  refine E_ci 2 rfl ci2 ?_
  refine E_bin rfl (nJ_add _ _) ?_
  refine E_sld rfl (by first | decide | with_reducible assumption | omega) hL ?_
  refine E_call rfl (tQ_int (by decide +kernel) (by decide +kernel) I.2 (top_int (as := [.ref 0, .int (xs ((i + 1))), .int (xs ((i + 2)))]) q512 (by decide +kernel) (by decide +kernel) I.1 ⟨rfl, aI _, aI _, trivial⟩)) (chkR (a := 0) I.1.1 rfl rfl rfl rfl (by show 0 ≤ 8; decide)) (fun h1 r1 => ?_)
  rintro ⟨I1, x1, f1⟩
  rw [f1]
  show Ends _ _ (1260, lv, [.int x1], h1, 599897, 7298671) _
  refine E_pop rfl rfl ?_
  refine E_al rfl L2 ?_
  refine E_alr rfl L0 ?_
  refine E_il rfl L3 ?_
  refine E_ci 1 rfl ci1 ?_
  refine E_bin rfl (nJ_add _ _) ?_
  refine E_sld rfl (by first | decide | with_reducible assumption | omega) hL ?_
  refine E_alr rfl L0 ?_
  refine E_il rfl L3 ?_
  refine E_ci 2 rfl ci2 ?_
  refine E_bin rfl (nJ_add _ _) ?_
  refine E_sld rfl (by first | decide | with_reducible assumption | omega) hL ?_
  refine E_call rfl (tQ_int (by decide +kernel) (by decide +kernel) I1.2 (top_int (as := [.ref 77, .int (xs ((i + 1))), .int (xs ((i + 2)))]) q515 (by decide +kernel) (by decide +kernel) I1.1 ⟨rfl, aI _, aI _, trivial⟩)) (chkR (a := 77) I1.1.1 rfl rfl rfl rfl (by show 0 ≤ 8; decide)) (fun h2 r2 => ?_)
  rintro ⟨I2, x2, f2⟩
  rw [f2]
  show Ends _ _ (1275, lv, [.int x2], h2, 599897, 7298671) _
  refine E_pop rfl rfl ?_
  refine E_goto rfl ?_
  exact K _ I2
set_option maxRecDepth 20000 in
theorem bl_41 {L : Nat} {xs : Nat → Int32} (hL : L ≤ 3072) {h : pm_H} {i : Nat} (hi : i + 6 ≤ L) (lv : List (Nat × Value)) (I : IVQ h) (L0 : pm_get lv 0 = some (.retAddr 0)) (L1 : pm_get lv 1 = some (.ref 0)) (L2 : pm_get lv 2 = some (.ref 77)) (L3 : pm_get lv 3 = some (.int (nJ i))) (K : ∀ h', IVQ h' → Ends (pm_tr (lb_all L xs)) (pm_Rt pm_P 100) (2392, lv, [], h', 599897, 7298671) RQ1) : Ends (pm_tr (lb_all L xs)) (pm_Rt pm_P 100) (1279, lv, [], h, 599897, 7298671) RQ1 := by
  refine E_al rfl L1 ?_
  refine E_alr rfl L0 ?_
  refine E_il rfl L3 ?_
  refine E_ci 1 rfl ci1 ?_
  refine E_bin rfl (nJ_add _ _) ?_
  refine E_sld rfl (by first | decide | with_reducible assumption | omega) hL ?_
  refine E_call rfl (tQ_int (by decide +kernel) (by decide +kernel) I.2 (top_int (as := [.ref 0, .int (xs ((i + 1)))]) q520 (by decide +kernel) (by decide +kernel) I.1 ⟨rfl, aI _, trivial⟩)) (chkR (a := 0) I.1.1 rfl rfl rfl rfl (by show 0 ≤ 8; decide)) (fun h1 r1 => ?_)
  rintro ⟨I1, x1, f1⟩
  rw [f1]
  show Ends _ _ (1288, lv, [.int x1], h1, 599897, 7298671) _
  refine E_pop rfl rfl ?_
  refine E_al rfl L2 ?_
  refine E_alr rfl L0 ?_
  refine E_il rfl L3 ?_
  refine E_ci 1 rfl ci1 ?_
  refine E_bin rfl (nJ_add _ _) ?_
  refine E_sld rfl (by first | decide | with_reducible assumption | omega) hL ?_
  refine E_call rfl (tQ_int (by decide +kernel) (by decide +kernel) I1.2 (top_int (as := [.ref 77, .int (xs ((i + 1)))]) q528 (by decide +kernel) (by decide +kernel) I1.1 ⟨rfl, aI _, trivial⟩)) (chkR (a := 77) I1.1.1 rfl rfl rfl rfl (by show 0 ≤ 8; decide)) (fun h2 r2 => ?_)
  rintro ⟨I2, x2, f2⟩
  rw [f2]
  show Ends _ _ (1298, lv, [.int x2], h2, 599897, 7298671) _
  refine E_pop rfl rfl ?_
  refine E_goto rfl ?_
  exact K _ I2
set_option maxRecDepth 20000 in
theorem bl_42 {L : Nat} {xs : Nat → Int32} (hL : L ≤ 3072) {h : pm_H} {i : Nat} (hi : i + 6 ≤ L) (lv : List (Nat × Value)) (I : IVQ h) (L0 : pm_get lv 0 = some (.retAddr 0)) (L1 : pm_get lv 1 = some (.ref 0)) (L2 : pm_get lv 2 = some (.ref 77)) (L3 : pm_get lv 3 = some (.int (nJ i))) (K : ∀ h', IVQ h' → Ends (pm_tr (lb_all L xs)) (pm_Rt pm_P 100) (2392, lv, [], h', 599897, 7298671) RQ1) : Ends (pm_tr (lb_all L xs)) (pm_Rt pm_P 100) (1302, lv, [], h, 599897, 7298671) RQ1 := by
  refine E_al rfl L1 ?_
  refine E_alr rfl L0 ?_
  refine E_il rfl L3 ?_
  refine E_ci 1 rfl ci1 ?_
  refine E_bin rfl (nJ_add _ _) ?_
  refine E_sld rfl (by first | decide | with_reducible assumption | omega) hL ?_
  refine E_call rfl (tQ_int (by decide +kernel) (by decide +kernel) I.2 (top_int (as := [.ref 0, .int (xs ((i + 1)))]) q530 (by decide +kernel) (by decide +kernel) I.1 ⟨rfl, aI _, trivial⟩)) (chkR (a := 0) I.1.1 rfl rfl rfl rfl (by show 0 ≤ 8; decide)) (fun h1 r1 => ?_)
  rintro ⟨I1, x1, f1⟩
  rw [f1]
  show Ends _ _ (1311, lv, [.int x1], h1, 599897, 7298671) _
  refine E_pop rfl rfl ?_
  refine E_al rfl L2 ?_
  refine E_alr rfl L0 ?_
  refine E_il rfl L3 ?_
  refine E_ci 1 rfl ci1 ?_
  refine E_bin rfl (nJ_add _ _) ?_
  refine E_sld rfl (by first | decide | with_reducible assumption | omega) hL ?_
  refine E_call rfl (tQ_int (by decide +kernel) (by decide +kernel) I1.2 (top_int (as := [.ref 77, .int (xs ((i + 1)))]) q533 (by decide +kernel) (by decide +kernel) I1.1 ⟨rfl, aI _, trivial⟩)) (chkR (a := 77) I1.1.1 rfl rfl rfl rfl (by show 0 ≤ 8; decide)) (fun h2 r2 => ?_)
  rintro ⟨I2, x2, f2⟩
  rw [f2]
  show Ends _ _ (1321, lv, [.int x2], h2, 599897, 7298671) _
  refine E_pop rfl rfl ?_
  refine E_goto rfl ?_
  exact K _ I2
set_option maxRecDepth 20000 in
theorem bl_43 {L : Nat} {xs : Nat → Int32} (hL : L ≤ 3072) {h : pm_H} {i : Nat} (hi : i + 6 ≤ L) (lv : List (Nat × Value)) (I : IVQ h) (L0 : pm_get lv 0 = some (.retAddr 0)) (L1 : pm_get lv 1 = some (.ref 0)) (L2 : pm_get lv 2 = some (.ref 77)) (L3 : pm_get lv 3 = some (.int (nJ i))) (K : ∀ h', IVQ h' → Ends (pm_tr (lb_all L xs)) (pm_Rt pm_P 100) (2392, lv, [], h', 599897, 7298671) RQ1) : Ends (pm_tr (lb_all L xs)) (pm_Rt pm_P 100) (1325, lv, [], h, 599897, 7298671) RQ1 := by
  refine E_al rfl L1 ?_
  refine E_call rfl (tQ_int (by decide +kernel) (by decide +kernel) I.2 (top_int (as := [.ref 0]) q534 (by decide +kernel) (by decide +kernel) I.1 ⟨rfl, trivial⟩)) (chkR (a := 0) I.1.1 rfl rfl rfl rfl (by show 0 ≤ 8; decide)) (fun h1 r1 => ?_)
  rintro ⟨I1, x1, f1⟩
  rw [f1]
  show Ends _ _ (1329, lv, [.int x1], h1, 599897, 7298671) _
  refine E_pop rfl rfl ?_
  refine E_al rfl L2 ?_
  refine E_call rfl (tQ_int (by decide +kernel) (by decide +kernel) I1.2 (top_int (as := [.ref 77]) q537 (by decide +kernel) (by decide +kernel) I1.1 ⟨rfl, trivial⟩)) (chkR (a := 77) I1.1.1 rfl rfl rfl rfl (by show 0 ≤ 8; decide)) (fun h2 r2 => ?_)
  rintro ⟨I2, x2, f2⟩
  rw [f2]
  show Ends _ _ (1334, lv, [.int x2], h2, 599897, 7298671) _
  refine E_pop rfl rfl ?_
  refine E_goto rfl ?_
  exact K _ I2
set_option maxRecDepth 20000 in
theorem bl_44 {L : Nat} {xs : Nat → Int32} (hL : L ≤ 3072) {h : pm_H} {i : Nat} (hi : i + 6 ≤ L) (lv : List (Nat × Value)) (I : IVQ h) (L0 : pm_get lv 0 = some (.retAddr 0)) (L1 : pm_get lv 1 = some (.ref 0)) (L2 : pm_get lv 2 = some (.ref 77)) (L3 : pm_get lv 3 = some (.int (nJ i))) (K : ∀ h', IVQ h' → Ends (pm_tr (lb_all L xs)) (pm_Rt pm_P 100) (2392, lv, [], h', 599897, 7298671) RQ1) : Ends (pm_tr (lb_all L xs)) (pm_Rt pm_P 100) (1338, lv, [], h, 599897, 7298671) RQ1 := by
  refine E_al rfl L1 ?_
  refine E_alr rfl L0 ?_
  refine E_il rfl L3 ?_
  refine E_ci 1 rfl ci1 ?_
  refine E_bin rfl (nJ_add _ _) ?_
  refine E_sld rfl (by first | decide | with_reducible assumption | omega) hL ?_
  refine E_call rfl (tQ_int (by decide +kernel) (by decide +kernel) I.2 (top_int (as := [.ref 0, .int (xs ((i + 1)))]) q540 (by decide +kernel) (by decide +kernel) I.1 ⟨rfl, aI _, trivial⟩)) (chkR (a := 0) I.1.1 rfl rfl rfl rfl (by show 0 ≤ 8; decide)) (fun h1 r1 => ?_)
  rintro ⟨I1, x1, f1⟩
  rw [f1]
  show Ends _ _ (1347, lv, [.int x1], h1, 599897, 7298671) _
  refine E_pop rfl rfl ?_
  refine E_al rfl L2 ?_
  refine E_alr rfl L0 ?_
  refine E_il rfl L3 ?_
  refine E_ci 1 rfl ci1 ?_
  refine E_bin rfl (nJ_add _ _) ?_
  refine E_sld rfl (by first | decide | with_reducible assumption | omega) hL ?_
  refine E_call rfl (tQ_int (by decide +kernel) (by decide +kernel) I1.2 (top_int (as := [.ref 77, .int (xs ((i + 1)))]) q544 (by decide +kernel) (by decide +kernel) I1.1 ⟨rfl, aI _, trivial⟩)) (chkR (a := 77) I1.1.1 rfl rfl rfl rfl (by show 0 ≤ 8; decide)) (fun h2 r2 => ?_)
  rintro ⟨I2, x2, f2⟩
  rw [f2]
  show Ends _ _ (1357, lv, [.int x2], h2, 599897, 7298671) _
  refine E_pop rfl rfl ?_
  refine E_goto rfl ?_
  exact K _ I2
set_option maxRecDepth 20000 in
theorem bl_45 {L : Nat} {xs : Nat → Int32} (hL : L ≤ 3072) {h : pm_H} {i : Nat} (hi : i + 6 ≤ L) (lv : List (Nat × Value)) (I : IVQ h) (L0 : pm_get lv 0 = some (.retAddr 0)) (L1 : pm_get lv 1 = some (.ref 0)) (L2 : pm_get lv 2 = some (.ref 77)) (L3 : pm_get lv 3 = some (.int (nJ i))) (K : ∀ h', IVQ h' → Ends (pm_tr (lb_all L xs)) (pm_Rt pm_P 100) (2392, lv, [], h', 599897, 7298671) RQ1) : Ends (pm_tr (lb_all L xs)) (pm_Rt pm_P 100) (1361, lv, [], h, 599897, 7298671) RQ1 := by
  refine E_al rfl L1 ?_
  refine E_call rfl (tQ_int (by decide +kernel) (by decide +kernel) I.2 (top_int (as := [.ref 0]) q550 (by decide +kernel) (by decide +kernel) I.1 ⟨rfl, trivial⟩)) (chkR (a := 0) I.1.1 rfl rfl rfl rfl (by show 0 ≤ 8; decide)) (fun h1 r1 => ?_)
  rintro ⟨I1, x1, f1⟩
  rw [f1]
  show Ends _ _ (1365, lv, [.int x1], h1, 599897, 7298671) _
  refine E_pop rfl rfl ?_
  refine E_al rfl L2 ?_
  refine E_call rfl (tQ_int (by decide +kernel) (by decide +kernel) I1.2 (top_int (as := [.ref 77]) q556 (by decide +kernel) (by decide +kernel) I1.1 ⟨rfl, trivial⟩)) (chkR (a := 77) I1.1.1 rfl rfl rfl rfl (by show 0 ≤ 8; decide)) (fun h2 r2 => ?_)
  rintro ⟨I2, x2, f2⟩
  rw [f2]
  show Ends _ _ (1370, lv, [.int x2], h2, 599897, 7298671) _
  refine E_pop rfl rfl ?_
  refine E_goto rfl ?_
  exact K _ I2
set_option maxRecDepth 20000 in
theorem bl_46 {L : Nat} {xs : Nat → Int32} (hL : L ≤ 3072) {h : pm_H} {i : Nat} (hi : i + 6 ≤ L) (lv : List (Nat × Value)) (I : IVQ h) (L0 : pm_get lv 0 = some (.retAddr 0)) (L1 : pm_get lv 1 = some (.ref 0)) (L2 : pm_get lv 2 = some (.ref 77)) (L3 : pm_get lv 3 = some (.int (nJ i))) (K : ∀ h', IVQ h' → Ends (pm_tr (lb_all L xs)) (pm_Rt pm_P 100) (2392, lv, [], h', 599897, 7298671) RQ1) : Ends (pm_tr (lb_all L xs)) (pm_Rt pm_P 100) (1374, lv, [], h, 599897, 7298671) RQ1 := by
  refine E_al rfl L1 ?_
  refine E_alr rfl L0 ?_
  refine E_il rfl L3 ?_
  refine E_ci 1 rfl ci1 ?_
  refine E_bin rfl (nJ_add _ _) ?_
  refine E_sld rfl (by first | decide | with_reducible assumption | omega) hL ?_
  refine E_alr rfl L0 ?_
  refine E_il rfl L3 ?_
  refine E_ci 2 rfl ci2 ?_
  refine E_bin rfl (nJ_add _ _) ?_
  refine E_sld rfl (by first | decide | with_reducible assumption | omega) hL ?_
  refine E_call rfl (tQ_int (by decide +kernel) (by decide +kernel) I.2 (top_int (as := [.ref 0, .int (xs ((i + 1))), .int (xs ((i + 2)))]) q558 (by decide +kernel) (by decide +kernel) I.1 ⟨rfl, aI _, aI _, trivial⟩)) (chkR (a := 0) I.1.1 rfl rfl rfl rfl (by show 0 ≤ 8; decide)) (fun h1 r1 => ?_)
  rintro ⟨I1, x1, f1⟩
  rw [f1]
  show Ends _ _ (1388, lv, [.int x1], h1, 599897, 7298671) _
  refine E_pop rfl rfl ?_
  refine E_al rfl L2 ?_
  refine E_alr rfl L0 ?_
  refine E_il rfl L3 ?_
  refine E_ci 1 rfl ci1 ?_
  refine E_bin rfl (nJ_add _ _) ?_
  refine E_sld rfl (by first | decide | with_reducible assumption | omega) hL ?_
  refine E_alr rfl L0 ?_
  refine E_il rfl L3 ?_
  refine E_ci 2 rfl ci2 ?_
  refine E_bin rfl (nJ_add _ _) ?_
  refine E_sld rfl (by first | decide | with_reducible assumption | omega) hL ?_
  refine E_call rfl (tQ_int (by decide +kernel) (by decide +kernel) I1.2 (top_int (as := [.ref 77, .int (xs ((i + 1))), .int (xs ((i + 2)))]) q564 (by decide +kernel) (by decide +kernel) I1.1 ⟨rfl, aI _, aI _, trivial⟩)) (chkR (a := 77) I1.1.1 rfl rfl rfl rfl (by show 0 ≤ 8; decide)) (fun h2 r2 => ?_)
  rintro ⟨I2, x2, f2⟩
  rw [f2]
  show Ends _ _ (1403, lv, [.int x2], h2, 599897, 7298671) _
  refine E_pop rfl rfl ?_
  refine E_goto rfl ?_
  exact K _ I2
set_option maxRecDepth 20000 in
theorem bl_47 {L : Nat} {xs : Nat → Int32} (hL : L ≤ 3072) {h : pm_H} {i : Nat} (hi : i + 6 ≤ L) (lv : List (Nat × Value)) (I : IVQ h) (L0 : pm_get lv 0 = some (.retAddr 0)) (L1 : pm_get lv 1 = some (.ref 0)) (L2 : pm_get lv 2 = some (.ref 77)) (L3 : pm_get lv 3 = some (.int (nJ i))) (K : ∀ h', IVQ h' → Ends (pm_tr (lb_all L xs)) (pm_Rt pm_P 100) (2392, lv, [], h', 599897, 7298671) RQ1) : Ends (pm_tr (lb_all L xs)) (pm_Rt pm_P 100) (1407, lv, [], h, 599897, 7298671) RQ1 := by
  refine E_al rfl L1 ?_
  refine E_alr rfl L0 ?_
  refine E_il rfl L3 ?_
  refine E_ci 1 rfl ci1 ?_
  refine E_bin rfl (nJ_add _ _) ?_
  refine E_sld rfl (by first | decide | with_reducible assumption | omega) hL ?_
  refine E_alr rfl L0 ?_
  refine E_il rfl L3 ?_
  refine E_ci 2 rfl ci2 ?_
  refine E_bin rfl (nJ_add _ _) ?_
  refine E_sld rfl (by first | decide | with_reducible assumption | omega) hL ?_
  refine E_call rfl (tQ_int (by decide +kernel) (by decide +kernel) I.2 (top_int (as := [.ref 0, .int (xs ((i + 1))), .int (xs ((i + 2)))]) q566 (by decide +kernel) (by decide +kernel) I.1 ⟨rfl, aI _, aI _, trivial⟩)) (chkR (a := 0) I.1.1 rfl rfl rfl rfl (by show 0 ≤ 8; decide)) (fun h1 r1 => ?_)
  rintro ⟨I1, x1, f1⟩
  rw [f1]
  show Ends _ _ (1421, lv, [.int x1], h1, 599897, 7298671) _
  refine E_pop rfl rfl ?_
  refine E_al rfl L2 ?_
  refine E_alr rfl L0 ?_
  refine E_il rfl L3 ?_
  refine E_ci 1 rfl ci1 ?_
  refine E_bin rfl (nJ_add _ _) ?_
  refine E_sld rfl (by first | decide | with_reducible assumption | omega) hL ?_
  refine E_alr rfl L0 ?_
  refine E_il rfl L3 ?_
  refine E_ci 2 rfl ci2 ?_
  refine E_bin rfl (nJ_add _ _) ?_
  refine E_sld rfl (by first | decide | with_reducible assumption | omega) hL ?_
  refine E_call rfl (tQ_int (by decide +kernel) (by decide +kernel) I1.2 (top_int (as := [.ref 77, .int (xs ((i + 1))), .int (xs ((i + 2)))]) q568 (by decide +kernel) (by decide +kernel) I1.1 ⟨rfl, aI _, aI _, trivial⟩)) (chkR (a := 77) I1.1.1 rfl rfl rfl rfl (by show 0 ≤ 8; decide)) (fun h2 r2 => ?_)
  rintro ⟨I2, x2, f2⟩
  rw [f2]
  show Ends _ _ (1436, lv, [.int x2], h2, 599897, 7298671) _
  refine E_pop rfl rfl ?_
  refine E_goto rfl ?_
  exact K _ I2
set_option maxRecDepth 20000 in
theorem bl_48 {L : Nat} {xs : Nat → Int32} (hL : L ≤ 3072) {h : pm_H} {i : Nat} (hi : i + 6 ≤ L) (lv : List (Nat × Value)) (I : IVQ h) (L0 : pm_get lv 0 = some (.retAddr 0)) (L1 : pm_get lv 1 = some (.ref 0)) (L2 : pm_get lv 2 = some (.ref 77)) (L3 : pm_get lv 3 = some (.int (nJ i))) (K : ∀ h', IVQ h' → Ends (pm_tr (lb_all L xs)) (pm_Rt pm_P 100) (2392, lv, [], h', 599897, 7298671) RQ1) : Ends (pm_tr (lb_all L xs)) (pm_Rt pm_P 100) (1440, lv, [], h, 599897, 7298671) RQ1 := by
  refine E_al rfl L1 ?_
  refine E_call rfl (tQ_int (by decide +kernel) (by decide +kernel) I.2 (top_int (as := [.ref 0]) q576 (by decide +kernel) (by decide +kernel) I.1 ⟨rfl, trivial⟩)) (chkR (a := 0) I.1.1 rfl rfl rfl rfl (by show 0 ≤ 8; decide)) (fun h1 r1 => ?_)
  rintro ⟨I1, x1, f1⟩
  rw [f1]
  show Ends _ _ (1444, lv, [.int x1], h1, 599897, 7298671) _
  refine E_pop rfl rfl ?_
  refine E_al rfl L2 ?_
  refine E_call rfl (tQ_int (by decide +kernel) (by decide +kernel) I1.2 (top_int (as := [.ref 77]) q577 (by decide +kernel) (by decide +kernel) I1.1 ⟨rfl, trivial⟩)) (chkR (a := 77) I1.1.1 rfl rfl rfl rfl (by show 0 ≤ 8; decide)) (fun h2 r2 => ?_)
  rintro ⟨I2, x2, f2⟩
  rw [f2]
  show Ends _ _ (1449, lv, [.int x2], h2, 599897, 7298671) _
  refine E_pop rfl rfl ?_
  refine E_goto rfl ?_
  exact K _ I2
set_option maxRecDepth 20000 in
theorem bl_49 {L : Nat} {xs : Nat → Int32} (hL : L ≤ 3072) {h : pm_H} {i : Nat} (hi : i + 6 ≤ L) (lv : List (Nat × Value)) (I : IVQ h) (L0 : pm_get lv 0 = some (.retAddr 0)) (L1 : pm_get lv 1 = some (.ref 0)) (L2 : pm_get lv 2 = some (.ref 77)) (L3 : pm_get lv 3 = some (.int (nJ i))) (K : ∀ h', IVQ h' → Ends (pm_tr (lb_all L xs)) (pm_Rt pm_P 100) (2392, lv, [], h', 599897, 7298671) RQ1) : Ends (pm_tr (lb_all L xs)) (pm_Rt pm_P 100) (1453, lv, [], h, 599897, 7298671) RQ1 := by
  refine E_al rfl L1 ?_
  refine E_alr rfl L0 ?_
  refine E_il rfl L3 ?_
  refine E_ci 1 rfl ci1 ?_
  refine E_bin rfl (nJ_add _ _) ?_
  refine E_sld rfl (by first | decide | with_reducible assumption | omega) hL ?_
  refine E_call rfl (tQ_int (by decide +kernel) (by decide +kernel) I.2 (top_int (as := [.ref 0, .int (xs ((i + 1)))]) q580 (by decide +kernel) (by decide +kernel) I.1 ⟨rfl, aI _, trivial⟩)) (chkR (a := 0) I.1.1 rfl rfl rfl rfl (by show 0 ≤ 8; decide)) (fun h1 r1 => ?_)
  rintro ⟨I1, x1, f1⟩
  rw [f1]
  show Ends _ _ (1462, lv, [.int x1], h1, 599897, 7298671) _
  refine E_pop rfl rfl ?_
  refine E_al rfl L2 ?_
  refine E_alr rfl L0 ?_
  refine E_il rfl L3 ?_
  refine E_ci 1 rfl ci1 ?_
  refine E_bin rfl (nJ_add _ _) ?_
  refine E_sld rfl (by first | decide | with_reducible assumption | omega) hL ?_
  refine E_call rfl (tQ_int (by decide +kernel) (by decide +kernel) I1.2 (top_int (as := [.ref 77, .int (xs ((i + 1)))]) q585 (by decide +kernel) (by decide +kernel) I1.1 ⟨rfl, aI _, trivial⟩)) (chkR (a := 77) I1.1.1 rfl rfl rfl rfl (by show 0 ≤ 8; decide)) (fun h2 r2 => ?_)
  rintro ⟨I2, x2, f2⟩
  rw [f2]
  show Ends _ _ (1472, lv, [.int x2], h2, 599897, 7298671) _
  refine E_pop rfl rfl ?_
  refine E_goto rfl ?_
  exact K _ I2
set_option maxRecDepth 20000 in
theorem bl_50 {L : Nat} {xs : Nat → Int32} (hL : L ≤ 3072) {h : pm_H} {i : Nat} (hi : i + 6 ≤ L) (lv : List (Nat × Value)) (I : IVQ h) (L0 : pm_get lv 0 = some (.retAddr 0)) (L1 : pm_get lv 1 = some (.ref 0)) (L2 : pm_get lv 2 = some (.ref 77)) (L3 : pm_get lv 3 = some (.int (nJ i))) (K : ∀ h', IVQ h' → Ends (pm_tr (lb_all L xs)) (pm_Rt pm_P 100) (2392, lv, [], h', 599897, 7298671) RQ1) : Ends (pm_tr (lb_all L xs)) (pm_Rt pm_P 100) (1476, lv, [], h, 599897, 7298671) RQ1 := by
  refine E_al rfl L1 ?_
  refine E_alr rfl L0 ?_
  refine E_il rfl L3 ?_
  refine E_ci 1 rfl ci1 ?_
  refine E_bin rfl (nJ_add _ _) ?_
  refine E_sld rfl (by first | decide | with_reducible assumption | omega) hL ?_
  refine E_alr rfl L0 ?_
  refine E_il rfl L3 ?_
  refine E_ci 2 rfl ci2 ?_
  refine E_bin rfl (nJ_add _ _) ?_
  refine E_sld rfl (by first | decide | with_reducible assumption | omega) hL ?_
  refine E_call rfl (tQ_int (by decide +kernel) (by decide +kernel) I.2 (top_int (as := [.ref 0, .int (xs ((i + 1))), .int (xs ((i + 2)))]) q593 (by decide +kernel) (by decide +kernel) I.1 ⟨rfl, aI _, aI _, trivial⟩)) (chkR (a := 0) I.1.1 rfl rfl rfl rfl (by show 0 ≤ 8; decide)) (fun h1 r1 => ?_)
  rintro ⟨I1, x1, f1⟩
  rw [f1]
  show Ends _ _ (1490, lv, [.int x1], h1, 599897, 7298671) _
  refine E_pop rfl rfl ?_
  refine E_al rfl L2 ?_
  refine E_alr rfl L0 ?_
  refine E_il rfl L3 ?_
  refine E_ci 1 rfl ci1 ?_
  refine E_bin rfl (nJ_add _ _) ?_
  refine E_sld rfl (by first | decide | with_reducible assumption | omega) hL ?_
  refine E_alr rfl L0 ?_
  refine E_il rfl L3 ?_
  refine E_ci 2 rfl ci2 ?_
  refine E_bin rfl (nJ_add _ _) ?_
  refine E_sld rfl (by first | decide | with_reducible assumption | omega) hL ?_
  refine E_call rfl (tQ_int (by decide +kernel) (by decide +kernel) I1.2 (top_int (as := [.ref 77, .int (xs ((i + 1))), .int (xs ((i + 2)))]) q595 (by decide +kernel) (by decide +kernel) I1.1 ⟨rfl, aI _, aI _, trivial⟩)) (chkR (a := 77) I1.1.1 rfl rfl rfl rfl (by show 0 ≤ 8; decide)) (fun h2 r2 => ?_)
  rintro ⟨I2, x2, f2⟩
  rw [f2]
  show Ends _ _ (1505, lv, [.int x2], h2, 599897, 7298671) _
  refine E_pop rfl rfl ?_
  refine E_goto rfl ?_
  exact K _ I2
set_option maxRecDepth 20000 in
theorem bl_51 {L : Nat} {xs : Nat → Int32} (hL : L ≤ 3072) {h : pm_H} {i : Nat} (hi : i + 6 ≤ L) (lv : List (Nat × Value)) (I : IVQ h) (L0 : pm_get lv 0 = some (.retAddr 0)) (L1 : pm_get lv 1 = some (.ref 0)) (L2 : pm_get lv 2 = some (.ref 77)) (L3 : pm_get lv 3 = some (.int (nJ i))) (K : ∀ h', IVQ h' → Ends (pm_tr (lb_all L xs)) (pm_Rt pm_P 100) (2392, lv, [], h', 599897, 7298671) RQ1) : Ends (pm_tr (lb_all L xs)) (pm_Rt pm_P 100) (1509, lv, [], h, 599897, 7298671) RQ1 := by
  refine E_al rfl L1 ?_
  refine E_call rfl (tQ_int (by decide +kernel) (by decide +kernel) I.2 (top_int (as := [.ref 0]) q599 (by decide +kernel) (by decide +kernel) I.1 ⟨rfl, trivial⟩)) (chkR (a := 0) I.1.1 rfl rfl rfl rfl (by show 0 ≤ 8; decide)) (fun h1 r1 => ?_)
  rintro ⟨I1, x1, f1⟩
  rw [f1]
  show Ends _ _ (1513, lv, [.int x1], h1, 599897, 7298671) _
  refine E_pop rfl rfl ?_
  refine E_al rfl L2 ?_
  refine E_call rfl (tQ_int (by decide +kernel) (by decide +kernel) I1.2 (top_int (as := [.ref 77]) q602 (by decide +kernel) (by decide +kernel) I1.1 ⟨rfl, trivial⟩)) (chkR (a := 77) I1.1.1 rfl rfl rfl rfl (by show 0 ≤ 8; decide)) (fun h2 r2 => ?_)
  rintro ⟨I2, x2, f2⟩
  rw [f2]
  show Ends _ _ (1518, lv, [.int x2], h2, 599897, 7298671) _
  refine E_pop rfl rfl ?_
  refine E_goto rfl ?_
  exact K _ I2
set_option maxRecDepth 20000 in
theorem bl_52 {L : Nat} {xs : Nat → Int32} (hL : L ≤ 3072) {h : pm_H} {i : Nat} (hi : i + 6 ≤ L) (lv : List (Nat × Value)) (I : IVQ h) (L0 : pm_get lv 0 = some (.retAddr 0)) (L1 : pm_get lv 1 = some (.ref 0)) (L2 : pm_get lv 2 = some (.ref 77)) (L3 : pm_get lv 3 = some (.int (nJ i))) (K : ∀ h', IVQ h' → Ends (pm_tr (lb_all L xs)) (pm_Rt pm_P 100) (2392, lv, [], h', 599897, 7298671) RQ1) : Ends (pm_tr (lb_all L xs)) (pm_Rt pm_P 100) (1522, lv, [], h, 599897, 7298671) RQ1 := by
  refine E_al rfl L1 ?_
  refine E_call rfl (tQ_int (by decide +kernel) (by decide +kernel) I.2 (top_int (as := [.ref 0]) q603 (by decide +kernel) (by decide +kernel) I.1 ⟨rfl, trivial⟩)) (chkR (a := 0) I.1.1 rfl rfl rfl rfl (by show 0 ≤ 8; decide)) (fun h1 r1 => ?_)
  rintro ⟨I1, x1, f1⟩
  rw [f1]
  show Ends _ _ (1526, lv, [.int x1], h1, 599897, 7298671) _
  refine E_pop rfl rfl ?_
  refine E_al rfl L2 ?_
  refine E_call rfl (tQ_int (by decide +kernel) (by decide +kernel) I1.2 (top_int (as := [.ref 77]) q604 (by decide +kernel) (by decide +kernel) I1.1 ⟨rfl, trivial⟩)) (chkR (a := 77) I1.1.1 rfl rfl rfl rfl (by show 0 ≤ 8; decide)) (fun h2 r2 => ?_)
  rintro ⟨I2, x2, f2⟩
  rw [f2]
  show Ends _ _ (1531, lv, [.int x2], h2, 599897, 7298671) _
  refine E_pop rfl rfl ?_
  refine E_goto rfl ?_
  exact K _ I2
set_option maxRecDepth 20000 in
theorem bl_53 {L : Nat} {xs : Nat → Int32} (hL : L ≤ 3072) {h : pm_H} {i : Nat} (hi : i + 6 ≤ L) (lv : List (Nat × Value)) (I : IVQ h) (L0 : pm_get lv 0 = some (.retAddr 0)) (L1 : pm_get lv 1 = some (.ref 0)) (L2 : pm_get lv 2 = some (.ref 77)) (L3 : pm_get lv 3 = some (.int (nJ i))) (K : ∀ h', IVQ h' → Ends (pm_tr (lb_all L xs)) (pm_Rt pm_P 100) (2392, lv, [], h', 599897, 7298671) RQ1) : Ends (pm_tr (lb_all L xs)) (pm_Rt pm_P 100) (1535, lv, [], h, 599897, 7298671) RQ1 := by
  refine E_al rfl L1 ?_
  refine E_call rfl (tQ_int (by decide +kernel) (by decide +kernel) I.2 (top_int (as := [.ref 0]) q605 (by decide +kernel) (by decide +kernel) I.1 ⟨rfl, trivial⟩)) (chkR (a := 0) I.1.1 rfl rfl rfl rfl (by show 0 ≤ 8; decide)) (fun h1 r1 => ?_)
  rintro ⟨I1, x1, f1⟩
  rw [f1]
  show Ends _ _ (1539, lv, [.int x1], h1, 599897, 7298671) _
  refine E_pop rfl rfl ?_
  refine E_al rfl L2 ?_
  refine E_call rfl (tQ_int (by decide +kernel) (by decide +kernel) I1.2 (top_int (as := [.ref 77]) q606 (by decide +kernel) (by decide +kernel) I1.1 ⟨rfl, trivial⟩)) (chkR (a := 77) I1.1.1 rfl rfl rfl rfl (by show 0 ≤ 8; decide)) (fun h2 r2 => ?_)
  rintro ⟨I2, x2, f2⟩
  rw [f2]
  show Ends _ _ (1544, lv, [.int x2], h2, 599897, 7298671) _
  refine E_pop rfl rfl ?_
  refine E_goto rfl ?_
  exact K _ I2
set_option maxRecDepth 20000 in
theorem bl_54 {L : Nat} {xs : Nat → Int32} (hL : L ≤ 3072) {h : pm_H} {i : Nat} (hi : i + 6 ≤ L) (lv : List (Nat × Value)) (I : IVQ h) (L0 : pm_get lv 0 = some (.retAddr 0)) (L1 : pm_get lv 1 = some (.ref 0)) (L2 : pm_get lv 2 = some (.ref 77)) (L3 : pm_get lv 3 = some (.int (nJ i))) (K : ∀ h', IVQ h' → Ends (pm_tr (lb_all L xs)) (pm_Rt pm_P 100) (2392, lv, [], h', 599897, 7298671) RQ1) : Ends (pm_tr (lb_all L xs)) (pm_Rt pm_P 100) (1548, lv, [], h, 599897, 7298671) RQ1 := by
  refine E_al rfl L1 ?_
  refine E_call rfl (tQ_int (by decide +kernel) (by decide +kernel) I.2 (top_int (as := [.ref 0]) q615 (by decide +kernel) (by decide +kernel) I.1 ⟨rfl, trivial⟩)) (chkR (a := 0) I.1.1 rfl rfl rfl rfl (by show 0 ≤ 8; decide)) (fun h1 r1 => ?_)
  rintro ⟨I1, x1, f1⟩
  rw [f1]
  show Ends _ _ (1552, lv, [.int x1], h1, 599897, 7298671) _
  refine E_pop rfl rfl ?_
  refine E_al rfl L2 ?_
  refine E_call rfl (tQ_int (by decide +kernel) (by decide +kernel) I1.2 (top_int (as := [.ref 77]) q619 (by decide +kernel) (by decide +kernel) I1.1 ⟨rfl, trivial⟩)) (chkR (a := 77) I1.1.1 rfl rfl rfl rfl (by show 0 ≤ 8; decide)) (fun h2 r2 => ?_)
  rintro ⟨I2, x2, f2⟩
  rw [f2]
  show Ends _ _ (1557, lv, [.int x2], h2, 599897, 7298671) _
  refine E_pop rfl rfl ?_
  refine E_goto rfl ?_
  exact K _ I2
set_option maxRecDepth 20000 in
theorem bl_55 {L : Nat} {xs : Nat → Int32} (hL : L ≤ 3072) {h : pm_H} {i : Nat} (hi : i + 6 ≤ L) (lv : List (Nat × Value)) (I : IVQ h) (L0 : pm_get lv 0 = some (.retAddr 0)) (L1 : pm_get lv 1 = some (.ref 0)) (L2 : pm_get lv 2 = some (.ref 77)) (L3 : pm_get lv 3 = some (.int (nJ i))) (K : ∀ h', IVQ h' → Ends (pm_tr (lb_all L xs)) (pm_Rt pm_P 100) (2392, lv, [], h', 599897, 7298671) RQ1) : Ends (pm_tr (lb_all L xs)) (pm_Rt pm_P 100) (1561, lv, [], h, 599897, 7298671) RQ1 := by
  refine E_al rfl L1 ?_
  refine E_call rfl (tQ_int (by decide +kernel) (by decide +kernel) I.2 (top_int (as := [.ref 0]) q621 (by decide +kernel) (by decide +kernel) I.1 ⟨rfl, trivial⟩)) (chkR (a := 0) I.1.1 rfl rfl rfl rfl (by show 0 ≤ 8; decide)) (fun h1 r1 => ?_)
  rintro ⟨I1, x1, f1⟩
  rw [f1]
  show Ends _ _ (1565, lv, [.int x1], h1, 599897, 7298671) _
  refine E_pop rfl rfl ?_
  refine E_al rfl L2 ?_
  refine E_call rfl (tQ_int (by decide +kernel) (by decide +kernel) I1.2 (top_int (as := [.ref 77]) q623 (by decide +kernel) (by decide +kernel) I1.1 ⟨rfl, trivial⟩)) (chkR (a := 77) I1.1.1 rfl rfl rfl rfl (by show 0 ≤ 8; decide)) (fun h2 r2 => ?_)
  rintro ⟨I2, x2, f2⟩
  rw [f2]
  show Ends _ _ (1570, lv, [.int x2], h2, 599897, 7298671) _
  refine E_pop rfl rfl ?_
  refine E_goto rfl ?_
  exact K _ I2
set_option maxRecDepth 20000 in
theorem bl_56 {L : Nat} {xs : Nat → Int32} (hL : L ≤ 3072) {h : pm_H} {i : Nat} (hi : i + 6 ≤ L) (lv : List (Nat × Value)) (I : IVQ h) (L0 : pm_get lv 0 = some (.retAddr 0)) (L1 : pm_get lv 1 = some (.ref 0)) (L2 : pm_get lv 2 = some (.ref 77)) (L3 : pm_get lv 3 = some (.int (nJ i))) (K : ∀ h', IVQ h' → Ends (pm_tr (lb_all L xs)) (pm_Rt pm_P 100) (2392, lv, [], h', 599897, 7298671) RQ1) : Ends (pm_tr (lb_all L xs)) (pm_Rt pm_P 100) (1574, lv, [], h, 599897, 7298671) RQ1 := by
  refine E_al rfl L1 ?_
  refine E_call rfl (tQ_int (by decide +kernel) (by decide +kernel) I.2 (top_int (as := [.ref 0]) q626 (by decide +kernel) (by decide +kernel) I.1 ⟨rfl, trivial⟩)) (chkR (a := 0) I.1.1 rfl rfl rfl rfl (by show 0 ≤ 8; decide)) (fun h1 r1 => ?_)
  rintro ⟨I1, x1, f1⟩
  rw [f1]
  show Ends _ _ (1578, lv, [.int x1], h1, 599897, 7298671) _
  refine E_pop rfl rfl ?_
  refine E_al rfl L2 ?_
  refine E_call rfl (tQ_int (by decide +kernel) (by decide +kernel) I1.2 (top_int (as := [.ref 77]) q627 (by decide +kernel) (by decide +kernel) I1.1 ⟨rfl, trivial⟩)) (chkR (a := 77) I1.1.1 rfl rfl rfl rfl (by show 0 ≤ 8; decide)) (fun h2 r2 => ?_)
  rintro ⟨I2, x2, f2⟩
  rw [f2]
  show Ends _ _ (1583, lv, [.int x2], h2, 599897, 7298671) _
  refine E_pop rfl rfl ?_
  refine E_goto rfl ?_
  exact K _ I2
set_option maxRecDepth 20000 in
theorem bl_57 {L : Nat} {xs : Nat → Int32} (hL : L ≤ 3072) {h : pm_H} {i : Nat} (hi : i + 6 ≤ L) (lv : List (Nat × Value)) (I : IVQ h) (L0 : pm_get lv 0 = some (.retAddr 0)) (L1 : pm_get lv 1 = some (.ref 0)) (L2 : pm_get lv 2 = some (.ref 77)) (L3 : pm_get lv 3 = some (.int (nJ i))) (K : ∀ h', IVQ h' → Ends (pm_tr (lb_all L xs)) (pm_Rt pm_P 100) (2392, lv, [], h', 599897, 7298671) RQ1) : Ends (pm_tr (lb_all L xs)) (pm_Rt pm_P 100) (1587, lv, [], h, 599897, 7298671) RQ1 := by
  refine E_al rfl L1 ?_
  refine E_alr rfl L0 ?_
  refine E_il rfl L3 ?_
  refine E_ci 1 rfl ci1 ?_
  refine E_bin rfl (nJ_add _ _) ?_
  refine E_sld rfl (by first | decide | with_reducible assumption | omega) hL ?_
  refine E_alr rfl L0 ?_
  refine E_il rfl L3 ?_
  refine E_ci 2 rfl ci2 ?_
  refine E_bin rfl (nJ_add _ _) ?_
  refine E_sld rfl (by first | decide | with_reducible assumption | omega) hL ?_
  refine E_call rfl (tQ_int (by decide +kernel) (by decide +kernel) I.2 (top_int (as := [.ref 0, .int (xs ((i + 1))), .int (xs ((i + 2)))]) q638 (by decide +kernel) (by decide +kernel) I.1 ⟨rfl, aI _, aI _, trivial⟩)) (chkR (a := 0) I.1.1 rfl rfl rfl rfl (by show 0 ≤ 8; decide)) (fun h1 r1 => ?_)
  rintro ⟨I1, x1, f1⟩
  rw [f1]
  show Ends _ _ (1601, lv, [.int x1], h1, 599897, 7298671) _
  refine E_pop rfl rfl ?_
  refine E_al rfl L2 ?_
  refine E_alr rfl L0 ?_
  refine E_il rfl L3 ?_
  refine E_ci 1 rfl ci1 ?_
  refine E_bin rfl (nJ_add _ _) ?_
  refine E_sld rfl (by first | decide | with_reducible assumption | omega) hL ?_
  refine E_alr rfl L0 ?_
  refine E_il rfl L3 ?_
  refine E_ci 2 rfl ci2 ?_
  refine E_bin rfl (nJ_add _ _) ?_
  refine E_sld rfl (by first | decide | with_reducible assumption | omega) hL ?_
  refine E_call rfl (tQ_int (by decide +kernel) (by decide +kernel) I1.2 (top_int (as := [.ref 77, .int (xs ((i + 1))), .int (xs ((i + 2)))]) q656 (by decide +kernel) (by decide +kernel) I1.1 ⟨rfl, aI _, aI _, trivial⟩)) (chkR (a := 77) I1.1.1 rfl rfl rfl rfl (by show 0 ≤ 8; decide)) (fun h2 r2 => ?_)
  rintro ⟨I2, x2, f2⟩
  rw [f2]
  show Ends _ _ (1616, lv, [.int x2], h2, 599897, 7298671) _
  refine E_pop rfl rfl ?_
  refine E_goto rfl ?_
  exact K _ I2
set_option maxRecDepth 20000 in
theorem bl_58 {L : Nat} {xs : Nat → Int32} (hL : L ≤ 3072) {h : pm_H} {i : Nat} (hi : i + 6 ≤ L) (lv : List (Nat × Value)) (I : IVQ h) (L0 : pm_get lv 0 = some (.retAddr 0)) (L1 : pm_get lv 1 = some (.ref 0)) (L2 : pm_get lv 2 = some (.ref 77)) (L3 : pm_get lv 3 = some (.int (nJ i))) (K : ∀ h', IVQ h' → Ends (pm_tr (lb_all L xs)) (pm_Rt pm_P 100) (2392, lv, [], h', 599897, 7298671) RQ1) : Ends (pm_tr (lb_all L xs)) (pm_Rt pm_P 100) (1620, lv, [], h, 599897, 7298671) RQ1 := by
  refine E_al rfl L1 ?_
  refine E_alr rfl L0 ?_
  refine E_il rfl L3 ?_
  refine E_ci 1 rfl ci1 ?_
  refine E_bin rfl (nJ_add _ _) ?_
  refine E_sld rfl (by first | decide | with_reducible assumption | omega) hL ?_
  refine E_alr rfl L0 ?_
  refine E_il rfl L3 ?_
  refine E_ci 2 rfl ci2 ?_
  refine E_bin rfl (nJ_add _ _) ?_
  refine E_sld rfl (by first | decide | with_reducible assumption | omega) hL ?_
  refine E_call rfl (tQ_int (by decide +kernel) (by decide +kernel) I.2 (top_int (as := [.ref 0, .int (xs ((i + 1))), .int (xs ((i + 2)))]) q661 (by decide +kernel) (by decide +kernel) I.1 ⟨rfl, aI _, aI _, trivial⟩)) (chkR (a := 0) I.1.1 rfl rfl rfl rfl (by show 0 ≤ 8; decide)) (fun h1 r1 => ?_)
  rintro ⟨I1, x1, f1⟩
  rw [f1]
  show Ends _ _ (1634, lv, [.int x1], h1, 599897, 7298671) _
  refine E_pop rfl rfl ?_
  refine E_al rfl L2 ?_
  refine E_alr rfl L0 ?_
  refine E_il rfl L3 ?_
  refine E_ci 1 rfl ci1 ?_
  refine E_bin rfl (nJ_add _ _) ?_
  refine E_sld rfl (by first | decide | with_reducible assumption | omega) hL ?_
  refine E_alr rfl L0 ?_
  refine E_il rfl L3 ?_
  refine E_ci 2 rfl ci2 ?_
  refine E_bin rfl (nJ_add _ _) ?_
  refine E_sld rfl (by first | decide | with_reducible assumption | omega) hL ?_
  refine E_call rfl (tQ_int (by decide +kernel) (by decide +kernel) I1.2 (top_int (as := [.ref 77, .int (xs ((i + 1))), .int (xs ((i + 2)))]) q662 (by decide +kernel) (by decide +kernel) I1.1 ⟨rfl, aI _, aI _, trivial⟩)) (chkR (a := 77) I1.1.1 rfl rfl rfl rfl (by show 0 ≤ 8; decide)) (fun h2 r2 => ?_)
  rintro ⟨I2, x2, f2⟩
  rw [f2]
  show Ends _ _ (1649, lv, [.int x2], h2, 599897, 7298671) _
  refine E_pop rfl rfl ?_
  refine E_goto rfl ?_
  exact K _ I2
set_option maxRecDepth 20000 in
theorem bl_59 {L : Nat} {xs : Nat → Int32} (hL : L ≤ 3072) {h : pm_H} {i : Nat} (hi : i + 6 ≤ L) (lv : List (Nat × Value)) (I : IVQ h) (L0 : pm_get lv 0 = some (.retAddr 0)) (L1 : pm_get lv 1 = some (.ref 0)) (L2 : pm_get lv 2 = some (.ref 77)) (L3 : pm_get lv 3 = some (.int (nJ i))) (K : ∀ h', IVQ h' → Ends (pm_tr (lb_all L xs)) (pm_Rt pm_P 100) (2392, lv, [], h', 599897, 7298671) RQ1) : Ends (pm_tr (lb_all L xs)) (pm_Rt pm_P 100) (1653, lv, [], h, 599897, 7298671) RQ1 := by
  refine E_al rfl L1 ?_
  refine E_alr rfl L0 ?_
  refine E_il rfl L3 ?_
  refine E_ci 1 rfl ci1 ?_
  refine E_bin rfl (nJ_add _ _) ?_
  refine E_sld rfl (by first | decide | with_reducible assumption | omega) hL ?_
  refine E_alr rfl L0 ?_
  refine E_il rfl L3 ?_
  refine E_ci 2 rfl ci2 ?_
  refine E_bin rfl (nJ_add _ _) ?_
  refine E_sld rfl (by first | decide | with_reducible assumption | omega) hL ?_
  refine E_call rfl (tQ_int (by decide +kernel) (by decide +kernel) I.2 (top_int (as := [.ref 0, .int (xs ((i + 1))), .int (xs ((i + 2)))]) q664 (by decide +kernel) (by decide +kernel) I.1 ⟨rfl, aI _, aI _, trivial⟩)) (chkR (a := 0) I.1.1 rfl rfl rfl rfl (by show 0 ≤ 8; decide)) (fun h1 r1 => ?_)
  rintro ⟨I1, x1, f1⟩
  rw [f1]
  show Ends _ _ (1667, lv, [.int x1], h1, 599897, 7298671) _
  refine E_pop rfl rfl ?_
  refine E_al rfl L2 ?_
  refine E_alr rfl L0 ?_
  refine E_il rfl L3 ?_
  refine E_ci 1 rfl ci1 ?_
  refine E_bin rfl (nJ_add _ _) ?_
  refine E_sld rfl (by first | decide | with_reducible assumption | omega) hL ?_
  refine E_alr rfl L0 ?_
  refine E_il rfl L3 ?_
  refine E_ci 2 rfl ci2 ?_
  refine E_bin rfl (nJ_add _ _) ?_
  refine E_sld rfl (by first | decide | with_reducible assumption | omega) hL ?_
  refine E_call rfl (tQ_int (by decide +kernel) (by decide +kernel) I1.2 (top_int (as := [.ref 77, .int (xs ((i + 1))), .int (xs ((i + 2)))]) q665 (by decide +kernel) (by decide +kernel) I1.1 ⟨rfl, aI _, aI _, trivial⟩)) (chkR (a := 77) I1.1.1 rfl rfl rfl rfl (by show 0 ≤ 8; decide)) (fun h2 r2 => ?_)
  rintro ⟨I2, x2, f2⟩
  rw [f2]
  show Ends _ _ (1682, lv, [.int x2], h2, 599897, 7298671) _
  refine E_pop rfl rfl ?_
  refine E_goto rfl ?_
  exact K _ I2
set_option maxRecDepth 20000 in
theorem bl_60 {L : Nat} {xs : Nat → Int32} (hL : L ≤ 3072) {h : pm_H} {i : Nat} (hi : i + 6 ≤ L) (lv : List (Nat × Value)) (I : IVQ h) (L0 : pm_get lv 0 = some (.retAddr 0)) (L1 : pm_get lv 1 = some (.ref 0)) (L2 : pm_get lv 2 = some (.ref 77)) (L3 : pm_get lv 3 = some (.int (nJ i))) (K : ∀ h', IVQ h' → Ends (pm_tr (lb_all L xs)) (pm_Rt pm_P 100) (2392, lv, [], h', 599897, 7298671) RQ1) : Ends (pm_tr (lb_all L xs)) (pm_Rt pm_P 100) (1686, lv, [], h, 599897, 7298671) RQ1 := by
  refine E_al rfl L1 ?_
  refine E_alr rfl L0 ?_
  refine E_il rfl L3 ?_
  refine E_ci 1 rfl ci1 ?_
  refine E_bin rfl (nJ_add _ _) ?_
  refine E_sld rfl (by first | decide | with_reducible assumption | omega) hL ?_
  refine E_call rfl (tQ_int (by decide +kernel) (by decide +kernel) I.2 (top_int (as := [.ref 0, .int (xs ((i + 1)))]) q667 (by decide +kernel) (by decide +kernel) I.1 ⟨rfl, aI _, trivial⟩)) (chkR (a := 0) I.1.1 rfl rfl rfl rfl (by show 0 ≤ 8; decide)) (fun h1 r1 => ?_)
  rintro ⟨I1, x1, f1⟩
  rw [f1]
  show Ends _ _ (1695, lv, [.int x1], h1, 599897, 7298671) _
  refine E_pop rfl rfl ?_
  refine E_al rfl L2 ?_
  refine E_alr rfl L0 ?_
  refine E_il rfl L3 ?_
  refine E_ci 1 rfl ci1 ?_
  refine E_bin rfl (nJ_add _ _) ?_
  refine E_sld rfl (by first | decide | with_reducible assumption | omega) hL ?_
  refine E_call rfl (tQ_int (by decide +kernel) (by decide +kernel) I1.2 (top_int (as := [.ref 77, .int (xs ((i + 1)))]) q669 (by decide +kernel) (by decide +kernel) I1.1 ⟨rfl, aI _, trivial⟩)) (chkR (a := 77) I1.1.1 rfl rfl rfl rfl (by show 0 ≤ 8; decide)) (fun h2 r2 => ?_)
  rintro ⟨I2, x2, f2⟩
  rw [f2]
  show Ends _ _ (1705, lv, [.int x2], h2, 599897, 7298671) _
  refine E_pop rfl rfl ?_
  refine E_goto rfl ?_
  exact K _ I2
set_option maxRecDepth 20000 in
theorem bl_61 {L : Nat} {xs : Nat → Int32} (hL : L ≤ 3072) {h : pm_H} {i : Nat} (hi : i + 6 ≤ L) (lv : List (Nat × Value)) (I : IVQ h) (L0 : pm_get lv 0 = some (.retAddr 0)) (L1 : pm_get lv 1 = some (.ref 0)) (L2 : pm_get lv 2 = some (.ref 77)) (L3 : pm_get lv 3 = some (.int (nJ i))) (K : ∀ h', IVQ h' → Ends (pm_tr (lb_all L xs)) (pm_Rt pm_P 100) (2392, lv, [], h', 599897, 7298671) RQ1) : Ends (pm_tr (lb_all L xs)) (pm_Rt pm_P 100) (1709, lv, [], h, 599897, 7298671) RQ1 := by
  refine E_al rfl L1 ?_
  refine E_alr rfl L0 ?_
  refine E_il rfl L3 ?_
  refine E_ci 1 rfl ci1 ?_
  refine E_bin rfl (nJ_add _ _) ?_
  refine E_sld rfl (by first | decide | with_reducible assumption | omega) hL ?_
  refine E_call rfl (tQ_int (by decide +kernel) (by decide +kernel) I.2 (top_int (as := [.ref 0, .int (xs ((i + 1)))]) q670 (by decide +kernel) (by decide +kernel) I.1 ⟨rfl, aI _, trivial⟩)) (chkR (a := 0) I.1.1 rfl rfl rfl rfl (by show 0 ≤ 8; decide)) (fun h1 r1 => ?_)
  rintro ⟨I1, x1, f1⟩
  rw [f1]
  show Ends _ _ (1718, lv, [.int x1], h1, 599897, 7298671) _
  refine E_pop rfl rfl ?_
  refine E_al rfl L2 ?_
  refine E_alr rfl L0 ?_
  refine E_il rfl L3 ?_
  refine E_ci 1 rfl ci1 ?_
  refine E_bin rfl (nJ_add _ _) ?_
  refine E_sld rfl (by first | decide | with_reducible assumption | omega) hL ?_
  refine E_call rfl (tQ_int (by decide +kernel) (by decide +kernel) I1.2 (top_int (as := [.ref 77, .int (xs ((i + 1)))]) q671 (by decide +kernel) (by decide +kernel) I1.1 ⟨rfl, aI _, trivial⟩)) (chkR (a := 77) I1.1.1 rfl rfl rfl rfl (by show 0 ≤ 8; decide)) (fun h2 r2 => ?_)
  rintro ⟨I2, x2, f2⟩
  rw [f2]
  show Ends _ _ (1728, lv, [.int x2], h2, 599897, 7298671) _
  refine E_pop rfl rfl ?_
  refine E_goto rfl ?_
  exact K _ I2
set_option maxRecDepth 20000 in
theorem bl_62 {L : Nat} {xs : Nat → Int32} (hL : L ≤ 3072) {h : pm_H} {i : Nat} (hi : i + 6 ≤ L) (lv : List (Nat × Value)) (I : IVQ h) (L0 : pm_get lv 0 = some (.retAddr 0)) (L1 : pm_get lv 1 = some (.ref 0)) (L2 : pm_get lv 2 = some (.ref 77)) (L3 : pm_get lv 3 = some (.int (nJ i))) (K : ∀ h', IVQ h' → Ends (pm_tr (lb_all L xs)) (pm_Rt pm_P 100) (2392, lv, [], h', 599897, 7298671) RQ1) : Ends (pm_tr (lb_all L xs)) (pm_Rt pm_P 100) (1732, lv, [], h, 599897, 7298671) RQ1 := by
  refine E_al rfl L1 ?_
  refine E_call rfl (tQ_int (by decide +kernel) (by decide +kernel) I.2 (top_int (as := [.ref 0]) q675 (by decide +kernel) (by decide +kernel) I.1 ⟨rfl, trivial⟩)) (chkR (a := 0) I.1.1 rfl rfl rfl rfl (by show 0 ≤ 8; decide)) (fun h1 r1 => ?_)
  rintro ⟨I1, x1, f1⟩
  rw [f1]
  show Ends _ _ (1736, lv, [.int x1], h1, 599897, 7298671) _
  refine E_pop rfl rfl ?_
  refine E_al rfl L2 ?_
  refine E_call rfl (tQ_int (by decide +kernel) (by decide +kernel) I1.2 (top_int (as := [.ref 77]) q676 (by decide +kernel) (by decide +kernel) I1.1 ⟨rfl, trivial⟩)) (chkR (a := 77) I1.1.1 rfl rfl rfl rfl (by show 0 ≤ 8; decide)) (fun h2 r2 => ?_)
  rintro ⟨I2, x2, f2⟩
  rw [f2]
  show Ends _ _ (1741, lv, [.int x2], h2, 599897, 7298671) _
  refine E_pop rfl rfl ?_
  refine E_goto rfl ?_
  exact K _ I2
set_option maxRecDepth 20000 in
theorem bl_63 {L : Nat} {xs : Nat → Int32} (hL : L ≤ 3072) {h : pm_H} {i : Nat} (hi : i + 6 ≤ L) (lv : List (Nat × Value)) (I : IVQ h) (L0 : pm_get lv 0 = some (.retAddr 0)) (L1 : pm_get lv 1 = some (.ref 0)) (L2 : pm_get lv 2 = some (.ref 77)) (L3 : pm_get lv 3 = some (.int (nJ i))) (K : ∀ h', IVQ h' → Ends (pm_tr (lb_all L xs)) (pm_Rt pm_P 100) (2392, lv, [], h', 599897, 7298671) RQ1) : Ends (pm_tr (lb_all L xs)) (pm_Rt pm_P 100) (1745, lv, [], h, 599897, 7298671) RQ1 := by
  refine E_al rfl L1 ?_
  refine E_alr rfl L0 ?_
  refine E_il rfl L3 ?_
  refine E_ci 1 rfl ci1 ?_
  refine E_bin rfl (nJ_add _ _) ?_
  refine E_sld rfl (by first | decide | with_reducible assumption | omega) hL ?_
  refine E_call rfl (tQ_int (by decide +kernel) (by decide +kernel) I.2 (top_int (as := [.ref 0, .int (xs ((i + 1)))]) q677 (by decide +kernel) (by decide +kernel) I.1 ⟨rfl, aI _, trivial⟩)) (chkR (a := 0) I.1.1 rfl rfl rfl rfl (by show 0 ≤ 8; decide)) (fun h1 r1 => ?_)
  rintro ⟨I1, x1, f1⟩
  rw [f1]
  show Ends _ _ (1754, lv, [.int x1], h1, 599897, 7298671) _
  refine E_pop rfl rfl ?_
  refine E_al rfl L2 ?_
  refine E_alr rfl L0 ?_
  refine E_il rfl L3 ?_
  refine E_ci 1 rfl ci1 ?_
  refine E_bin rfl (nJ_add _ _) ?_
  refine E_sld rfl (by first | decide | with_reducible assumption | omega) hL ?_
  refine E_call rfl (tQ_int (by decide +kernel) (by decide +kernel) I1.2 (top_int (as := [.ref 77, .int (xs ((i + 1)))]) q680 (by decide +kernel) (by decide +kernel) I1.1 ⟨rfl, aI _, trivial⟩)) (chkR (a := 77) I1.1.1 rfl rfl rfl rfl (by show 0 ≤ 8; decide)) (fun h2 r2 => ?_)
  rintro ⟨I2, x2, f2⟩
  rw [f2]
  show Ends _ _ (1764, lv, [.int x2], h2, 599897, 7298671) _
  refine E_pop rfl rfl ?_
  refine E_goto rfl ?_
  exact K _ I2
set_option maxRecDepth 20000 in
theorem bl_64 {L : Nat} {xs : Nat → Int32} (hL : L ≤ 3072) {h : pm_H} {i : Nat} (hi : i + 6 ≤ L) (lv : List (Nat × Value)) (I : IVQ h) (L0 : pm_get lv 0 = some (.retAddr 0)) (L1 : pm_get lv 1 = some (.ref 0)) (L2 : pm_get lv 2 = some (.ref 77)) (L3 : pm_get lv 3 = some (.int (nJ i))) (K : ∀ h', IVQ h' → Ends (pm_tr (lb_all L xs)) (pm_Rt pm_P 100) (2392, lv, [], h', 599897, 7298671) RQ1) : Ends (pm_tr (lb_all L xs)) (pm_Rt pm_P 100) (1768, lv, [], h, 599897, 7298671) RQ1 := by
  refine E_al rfl L1 ?_
  refine E_alr rfl L0 ?_
  refine E_il rfl L3 ?_
  refine E_ci 1 rfl ci1 ?_
  refine E_bin rfl (nJ_add _ _) ?_
  refine E_sld rfl (by first | decide | with_reducible assumption | omega) hL ?_
  refine E_alr rfl L0 ?_
  refine E_il rfl L3 ?_
  refine E_ci 2 rfl ci2 ?_
  refine E_bin rfl (nJ_add _ _) ?_
  refine E_sld rfl (by first | decide | with_reducible assumption | omega) hL ?_
  refine E_call rfl (tQ_int (by decide +kernel) (by decide +kernel) I.2 (top_int (as := [.ref 0, .int (xs ((i + 1))), .int (xs ((i + 2)))]) q730 (by decide +kernel) (by decide +kernel) I.1 ⟨rfl, aI _, aI _, trivial⟩)) (chkR (a := 0) I.1.1 rfl rfl rfl rfl (by show 0 ≤ 8; decide)) (fun h1 r1 => ?_)
  rintro ⟨I1, x1, f1⟩
  rw [f1]
  show Ends _ _ (1782, lv, [.int x1], h1, 599897, 7298671) _
  refine E_pop rfl rfl ?_
  refine E_al rfl L2 ?_
  refine E_alr rfl L0 ?_
  refine E_il rfl L3 ?_
  refine E_ci 1 rfl ci1 ?_
  refine E_bin rfl (nJ_add _ _) ?_
  refine E_sld rfl (by first | decide | with_reducible assumption | omega) hL ?_
  refine E_alr rfl L0 ?_
  refine E_il rfl L3 ?_
  refine E_ci 2 rfl ci2 ?_
  refine E_bin rfl (nJ_add _ _) ?_
  refine E_sld rfl (by first | decide | with_reducible assumption | omega) hL ?_
  refine E_call rfl (tQ_int (by decide +kernel) (by decide +kernel) I1.2 (top_int (as := [.ref 77, .int (xs ((i + 1))), .int (xs ((i + 2)))]) q964 (by decide +kernel) (by decide +kernel) I1.1 ⟨rfl, aI _, aI _, trivial⟩)) (chkR (a := 77) I1.1.1 rfl rfl rfl rfl (by show 0 ≤ 8; decide)) (fun h2 r2 => ?_)
  rintro ⟨I2, x2, f2⟩
  rw [f2]
  show Ends _ _ (1797, lv, [.int x2], h2, 599897, 7298671) _
  refine E_pop rfl rfl ?_
  refine E_goto rfl ?_
  exact K _ I2
set_option maxRecDepth 20000 in
theorem bl_65 {L : Nat} {xs : Nat → Int32} (hL : L ≤ 3072) {h : pm_H} {i : Nat} (hi : i + 6 ≤ L) (lv : List (Nat × Value)) (I : IVQ h) (L0 : pm_get lv 0 = some (.retAddr 0)) (L1 : pm_get lv 1 = some (.ref 0)) (L2 : pm_get lv 2 = some (.ref 77)) (L3 : pm_get lv 3 = some (.int (nJ i))) (K : ∀ h', IVQ h' → Ends (pm_tr (lb_all L xs)) (pm_Rt pm_P 100) (2392, lv, [], h', 599897, 7298671) RQ1) : Ends (pm_tr (lb_all L xs)) (pm_Rt pm_P 100) (1801, lv, [], h, 599897, 7298671) RQ1 := by
  refine E_al rfl L1 ?_
  refine E_alr rfl L0 ?_
  refine E_il rfl L3 ?_
  refine E_ci 1 rfl ci1 ?_
  refine E_bin rfl (nJ_add _ _) ?_
  refine E_sld rfl (by first | decide | with_reducible assumption | omega) hL ?_
  refine E_alr rfl L0 ?_
  refine E_il rfl L3 ?_
  refine E_ci 2 rfl ci2 ?_
  refine E_bin rfl (nJ_add _ _) ?_
  refine E_sld rfl (by first | decide | with_reducible assumption | omega) hL ?_
  refine E_call rfl (tQ_int (by decide +kernel) (by decide +kernel) I.2 (top_int (as := [.ref 0, .int (xs ((i + 1))), .int (xs ((i + 2)))]) q754 (by decide +kernel) (by decide +kernel) I.1 ⟨rfl, aI _, aI _, trivial⟩)) (chkR (a := 0) I.1.1 rfl rfl rfl rfl (by show 0 ≤ 8; decide)) (fun h1 r1 => ?_)
  rintro ⟨I1, x1, f1⟩
  rw [f1]
  show Ends _ _ (1815, lv, [.int x1], h1, 599897, 7298671) _
  refine E_pop rfl rfl ?_
  refine E_al rfl L2 ?_
  refine E_alr rfl L0 ?_
  refine E_il rfl L3 ?_
  refine E_ci 1 rfl ci1 ?_
  refine E_bin rfl (nJ_add _ _) ?_
  refine E_sld rfl (by first | decide | with_reducible assumption | omega) hL ?_
  refine E_alr rfl L0 ?_
  refine E_il rfl L3 ?_
  refine E_ci 2 rfl ci2 ?_
  refine E_bin rfl (nJ_add _ _) ?_
  refine E_sld rfl (by first | decide | with_reducible assumption | omega) hL ?_
  refine E_call rfl (tQ_int (by decide +kernel) (by decide +kernel) I1.2 (top_int (as := [.ref 77, .int (xs ((i + 1))), .int (xs ((i + 2)))]) q761 (by decide +kernel) (by decide +kernel) I1.1 ⟨rfl, aI _, aI _, trivial⟩)) (chkR (a := 77) I1.1.1 rfl rfl rfl rfl (by show 0 ≤ 8; decide)) (fun h2 r2 => ?_)
  rintro ⟨I2, x2, f2⟩
  rw [f2]
  show Ends _ _ (1830, lv, [.int x2], h2, 599897, 7298671) _
  refine E_pop rfl rfl ?_
  refine E_goto rfl ?_
  exact K _ I2
set_option maxRecDepth 20000 in
theorem bl_66 {L : Nat} {xs : Nat → Int32} (hL : L ≤ 3072) {h : pm_H} {i : Nat} (hi : i + 6 ≤ L) (lv : List (Nat × Value)) (I : IVQ h) (L0 : pm_get lv 0 = some (.retAddr 0)) (L1 : pm_get lv 1 = some (.ref 0)) (L2 : pm_get lv 2 = some (.ref 77)) (L3 : pm_get lv 3 = some (.int (nJ i))) (K : ∀ h', IVQ h' → Ends (pm_tr (lb_all L xs)) (pm_Rt pm_P 100) (2392, lv, [], h', 599897, 7298671) RQ1) : Ends (pm_tr (lb_all L xs)) (pm_Rt pm_P 100) (1834, lv, [], h, 599897, 7298671) RQ1 := by
  refine E_al rfl L1 ?_
  refine E_alr rfl L0 ?_
  refine E_il rfl L3 ?_
  refine E_ci 1 rfl ci1 ?_
  refine E_bin rfl (nJ_add _ _) ?_
  refine E_sld rfl (by first | decide | with_reducible assumption | omega) hL ?_
  refine E_alr rfl L0 ?_
  refine E_il rfl L3 ?_
  refine E_ci 2 rfl ci2 ?_
  refine E_bin rfl (nJ_add _ _) ?_
  refine E_sld rfl (by first | decide | with_reducible assumption | omega) hL ?_
  refine E_alr rfl L0 ?_
  refine E_il rfl L3 ?_
  refine E_ci 3 rfl ci3 ?_
  refine E_bin rfl (nJ_add _ _) ?_
  refine E_sld rfl (by first | decide | with_reducible assumption | omega) hL ?_
  refine E_alr rfl L0 ?_
  refine E_il rfl L3 ?_
  refine E_ci 4 rfl ci4 ?_
  refine E_bin rfl (nJ_add _ _) ?_
  refine E_sld rfl (by first | decide | with_reducible assumption | omega) hL ?_
  refine E_call rfl (tQ_int (by decide +kernel) (by decide +kernel) I.2 (top_int (as := [.ref 0, .int (xs ((i + 1))), .int (xs ((i + 2))), .int (xs ((i + 3))), .int (xs ((i + 4)))]) q764 (by decide +kernel) (by decide +kernel) I.1 ⟨rfl, aI _, aI _, aI _, aI _, trivial⟩)) (chkR (a := 0) I.1.1 rfl rfl rfl rfl (by show 0 ≤ 8; decide)) (fun h1 r1 => ?_)
  rintro ⟨I1, x1, f1⟩
  rw [f1]
  show Ends _ _ (1858, lv, [.int x1], h1, 599897, 7298671) _
  refine E_pop rfl rfl ?_
  refine E_al rfl L2 ?_
  refine E_alr rfl L0 ?_
  refine E_il rfl L3 ?_
  refine E_ci 1 rfl ci1 ?_
  refine E_bin rfl (nJ_add _ _) ?_
  refine E_sld rfl (by first | decide | with_reducible assumption | omega) hL ?_
  refine E_alr rfl L0 ?_
  refine E_il rfl L3 ?_
  refine E_ci 2 rfl ci2 ?_
  refine E_bin rfl (nJ_add _ _) ?_
  refine E_sld rfl (by first | decide | with_reducible assumption | omega) hL ?_
  refine E_alr rfl L0 ?_
  refine E_il rfl L3 ?_
  refine E_ci 3 rfl ci3 ?_
  refine E_bin rfl (nJ_add _ _) ?_
  refine E_sld rfl (by first | decide | with_reducible assumption | omega) hL ?_
  refine E_alr rfl L0 ?_
  refine E_il rfl L3 ?_
  refine E_ci 4 rfl ci4 ?_
  refine E_bin rfl (nJ_add _ _) ?_
  refine E_sld rfl (by first | decide | with_reducible assumption | omega) hL ?_
  refine E_call rfl (tQ_int (by decide +kernel) (by decide +kernel) I1.2 (top_int (as := [.ref 77, .int (xs ((i + 1))), .int (xs ((i + 2))), .int (xs ((i + 3))), .int (xs ((i + 4)))]) q767 (by decide +kernel) (by decide +kernel) I1.1 ⟨rfl, aI _, aI _, aI _, aI _, trivial⟩)) (chkR (a := 77) I1.1.1 rfl rfl rfl rfl (by show 0 ≤ 8; decide)) (fun h2 r2 => ?_)
  rintro ⟨I2, x2, f2⟩
  rw [f2]
  show Ends _ _ (1883, lv, [.int x2], h2, 599897, 7298671) _
  refine E_pop rfl rfl ?_
  refine E_goto rfl ?_
  exact K _ I2
set_option maxRecDepth 20000 in
theorem bl_67 {L : Nat} {xs : Nat → Int32} (hL : L ≤ 3072) {h : pm_H} {i : Nat} (hi : i + 6 ≤ L) (lv : List (Nat × Value)) (I : IVQ h) (L0 : pm_get lv 0 = some (.retAddr 0)) (L1 : pm_get lv 1 = some (.ref 0)) (L2 : pm_get lv 2 = some (.ref 77)) (L3 : pm_get lv 3 = some (.int (nJ i))) (K : ∀ h', IVQ h' → Ends (pm_tr (lb_all L xs)) (pm_Rt pm_P 100) (2392, lv, [], h', 599897, 7298671) RQ1) : Ends (pm_tr (lb_all L xs)) (pm_Rt pm_P 100) (1887, lv, [], h, 599897, 7298671) RQ1 := by
  refine E_al rfl L1 ?_
  refine E_alr rfl L0 ?_
  refine E_il rfl L3 ?_
  refine E_ci 1 rfl ci1 ?_
  refine E_bin rfl (nJ_add _ _) ?_
  refine E_sld rfl (by first | decide | with_reducible assumption | omega) hL ?_
  refine E_alr rfl L0 ?_
  refine E_il rfl L3 ?_
  refine E_ci 2 rfl ci2 ?_
  refine E_bin rfl (nJ_add _ _) ?_
  refine E_sld rfl (by first | decide | with_reducible assumption | omega) hL ?_
  refine E_call rfl (tQ_int (by decide +kernel) (by decide +kernel) I.2 (top_int (as := [.ref 0, .int (xs ((i + 1))), .int (xs ((i + 2)))]) q779 (by decide +kernel) (by decide +kernel) I.1 ⟨rfl, aI _, aI _, trivial⟩)) (chkR (a := 0) I.1.1 rfl rfl rfl rfl (by show 0 ≤ 8; decide)) (fun h1 r1 => ?_)
  rintro ⟨I1, x1, f1⟩
  rw [f1]
  show Ends _ _ (1901, lv, [.int x1], h1, 599897, 7298671) _
  refine E_pop rfl rfl ?_
  refine E_al rfl L2 ?_
  refine E_alr rfl L0 ?_
  refine E_il rfl L3 ?_
  refine E_ci 1 rfl ci1 ?_
  refine E_bin rfl (nJ_add _ _) ?_
  refine E_sld rfl (by first | decide | with_reducible assumption | omega) hL ?_
  refine E_alr rfl L0 ?_
  refine E_il rfl L3 ?_
  refine E_ci 2 rfl ci2 ?_
  refine E_bin rfl (nJ_add _ _) ?_
  refine E_sld rfl (by first | decide | with_reducible assumption | omega) hL ?_
  refine E_call rfl (tQ_int (by decide +kernel) (by decide +kernel) I1.2 (top_int (as := [.ref 77, .int (xs ((i + 1))), .int (xs ((i + 2)))]) q966 (by decide +kernel) (by decide +kernel) I1.1 ⟨rfl, aI _, aI _, trivial⟩)) (chkR (a := 77) I1.1.1 rfl rfl rfl rfl (by show 0 ≤ 8; decide)) (fun h2 r2 => ?_)
  rintro ⟨I2, x2, f2⟩
  rw [f2]
  show Ends _ _ (1916, lv, [.int x2], h2, 599897, 7298671) _
  refine E_pop rfl rfl ?_
  refine E_goto rfl ?_
  exact K _ I2
set_option maxRecDepth 20000 in
theorem bl_68 {L : Nat} {xs : Nat → Int32} (hL : L ≤ 3072) {h : pm_H} {i : Nat} (hi : i + 6 ≤ L) (lv : List (Nat × Value)) (I : IVQ h) (L0 : pm_get lv 0 = some (.retAddr 0)) (L1 : pm_get lv 1 = some (.ref 0)) (L2 : pm_get lv 2 = some (.ref 77)) (L3 : pm_get lv 3 = some (.int (nJ i))) (K : ∀ h', IVQ h' → Ends (pm_tr (lb_all L xs)) (pm_Rt pm_P 100) (2392, lv, [], h', 599897, 7298671) RQ1) : Ends (pm_tr (lb_all L xs)) (pm_Rt pm_P 100) (1920, lv, [], h, 599897, 7298671) RQ1 := by
  refine E_al rfl L1 ?_
  refine E_alr rfl L0 ?_
  refine E_il rfl L3 ?_
  refine E_ci 1 rfl ci1 ?_
  refine E_bin rfl (nJ_add _ _) ?_
  refine E_sld rfl (by first | decide | with_reducible assumption | omega) hL ?_
  refine E_call rfl (tQ_lng (by decide +kernel) (by decide +kernel) I.2 (top_lng (as := [.ref 0, .int (xs ((i + 1)))]) q844 (by decide +kernel) (by decide +kernel) I.1 ⟨rfl, aI _, trivial⟩)) (chkR (a := 0) I.1.1 rfl rfl rfl rfl (by show 0 ≤ 8; decide)) (fun h1 r1 => ?_)
  rintro ⟨I1, x1, f1⟩
  rw [f1]
  show Ends _ _ (1929, lv, [.long x1], h1, 599897, 7298671) _
  refine E_pop2 rfl rfl ?_
  refine E_al rfl L2 ?_
  refine E_alr rfl L0 ?_
  refine E_il rfl L3 ?_
  refine E_ci 1 rfl ci1 ?_
  refine E_bin rfl (nJ_add _ _) ?_
  refine E_sld rfl (by first | decide | with_reducible assumption | omega) hL ?_
  refine E_call rfl (tQ_lng (by decide +kernel) (by decide +kernel) I1.2 (top_lng (as := [.ref 77, .int (xs ((i + 1)))]) q967 (by decide +kernel) (by decide +kernel) I1.1 ⟨rfl, aI _, trivial⟩)) (chkR (a := 77) I1.1.1 rfl rfl rfl rfl (by show 0 ≤ 8; decide)) (fun h2 r2 => ?_)
  rintro ⟨I2, x2, f2⟩
  rw [f2]
  show Ends _ _ (1939, lv, [.long x2], h2, 599897, 7298671) _
  refine E_pop2 rfl rfl ?_
  refine E_goto rfl ?_
  exact K _ I2
set_option maxRecDepth 20000 in
theorem bl_69 {L : Nat} {xs : Nat → Int32} (hL : L ≤ 3072) {h : pm_H} {i : Nat} (hi : i + 6 ≤ L) (lv : List (Nat × Value)) (I : IVQ h) (L0 : pm_get lv 0 = some (.retAddr 0)) (L1 : pm_get lv 1 = some (.ref 0)) (L2 : pm_get lv 2 = some (.ref 77)) (L3 : pm_get lv 3 = some (.int (nJ i))) (K : ∀ h', IVQ h' → Ends (pm_tr (lb_all L xs)) (pm_Rt pm_P 100) (2392, lv, [], h', 599897, 7298671) RQ1) : Ends (pm_tr (lb_all L xs)) (pm_Rt pm_P 100) (1943, lv, [], h, 599897, 7298671) RQ1 := by
  refine E_al rfl L1 ?_
  refine E_alr rfl L0 ?_
  refine E_il rfl L3 ?_
  refine E_ci 1 rfl ci1 ?_
  refine E_bin rfl (nJ_add _ _) ?_
  refine E_sld rfl (by first | decide | with_reducible assumption | omega) hL ?_
  refine E_alr rfl L0 ?_
  refine E_il rfl L3 ?_
  refine E_ci 2 rfl ci2 ?_
  refine E_bin rfl (nJ_add _ _) ?_
  refine E_sld rfl (by first | decide | with_reducible assumption | omega) hL ?_
  refine E_call rfl (g8_wants I) (chkR (a := 0) I.1.1 rfl rfl rfl rfl (by show 0 ≤ 8; decide)) (fun h1 r1 => ?_)
  rintro ⟨I1, x1, f1, J1⟩
  rw [f1]
  show Ends _ _ (1957, lv, [.int x1], h1, 599897, 7298671) _
  refine E_pop rfl rfl ?_
  refine E_al rfl L2 ?_
  refine E_alr rfl L0 ?_
  refine E_il rfl L3 ?_
  refine E_ci 1 rfl ci1 ?_
  refine E_bin rfl (nJ_add _ _) ?_
  refine E_sld rfl (by first | decide | with_reducible assumption | omega) hL ?_
  refine E_alr rfl L0 ?_
  refine E_il rfl L3 ?_
  refine E_ci 2 rfl ci2 ?_
  refine E_bin rfl (nJ_add _ _) ?_
  refine E_sld rfl (by first | decide | with_reducible assumption | omega) hL ?_
  refine E_call rfl (g9_wants I1 J1) (chkR (a := 77) I1.1 rfl rfl rfl rfl (by show 0 ≤ 8; decide)) (fun h2 r2 => ?_)
  rintro ⟨I2, x2, f2⟩
  rw [f2]
  show Ends _ _ (1972, lv, [.int x2], h2, 599897, 7298671) _
  refine E_pop rfl rfl ?_
  refine E_goto rfl ?_
  exact K _ I2
set_option maxRecDepth 20000 in
theorem bl_70 {L : Nat} {xs : Nat → Int32} (hL : L ≤ 3072) {h : pm_H} {i : Nat} (hi : i + 6 ≤ L) (lv : List (Nat × Value)) (I : IVQ h) (L0 : pm_get lv 0 = some (.retAddr 0)) (L1 : pm_get lv 1 = some (.ref 0)) (L2 : pm_get lv 2 = some (.ref 77)) (L3 : pm_get lv 3 = some (.int (nJ i))) (K : ∀ h', IVQ h' → Ends (pm_tr (lb_all L xs)) (pm_Rt pm_P 100) (2392, lv, [], h', 599897, 7298671) RQ1) : Ends (pm_tr (lb_all L xs)) (pm_Rt pm_P 100) (1976, lv, [], h, 599897, 7298671) RQ1 := by
  refine E_al rfl L1 ?_
  refine E_alr rfl L0 ?_
  refine E_il rfl L3 ?_
  refine E_ci 1 rfl ci1 ?_
  refine E_bin rfl (nJ_add _ _) ?_
  refine E_sld rfl (by first | decide | with_reducible assumption | omega) hL ?_
  refine E_alr rfl L0 ?_
  refine E_il rfl L3 ?_
  refine E_ci 2 rfl ci2 ?_
  refine E_bin rfl (nJ_add _ _) ?_
  refine E_sld rfl (by first | decide | with_reducible assumption | omega) hL ?_
  refine E_call rfl (g8_trades I) (chkR (a := 0) I.1.1 rfl rfl rfl rfl (by show 0 ≤ 8; decide)) (fun h1 r1 => ?_)
  rintro ⟨I1, x1, f1, J1⟩
  rw [f1]
  show Ends _ _ (1990, lv, [.int x1], h1, 599897, 7298671) _
  refine E_pop rfl rfl ?_
  refine E_al rfl L2 ?_
  refine E_alr rfl L0 ?_
  refine E_il rfl L3 ?_
  refine E_ci 1 rfl ci1 ?_
  refine E_bin rfl (nJ_add _ _) ?_
  refine E_sld rfl (by first | decide | with_reducible assumption | omega) hL ?_
  refine E_alr rfl L0 ?_
  refine E_il rfl L3 ?_
  refine E_ci 2 rfl ci2 ?_
  refine E_bin rfl (nJ_add _ _) ?_
  refine E_sld rfl (by first | decide | with_reducible assumption | omega) hL ?_
  refine E_call rfl (g9_trades I1 J1) (chkR (a := 77) I1.1 rfl rfl rfl rfl (by show 0 ≤ 8; decide)) (fun h2 r2 => ?_)
  rintro ⟨I2, x2, f2⟩
  rw [f2]
  show Ends _ _ (2005, lv, [.int x2], h2, 599897, 7298671) _
  refine E_pop rfl rfl ?_
  refine E_goto rfl ?_
  exact K _ I2
set_option maxRecDepth 20000 in
theorem bl_71 {L : Nat} {xs : Nat → Int32} (hL : L ≤ 3072) {h : pm_H} {i : Nat} (hi : i + 6 ≤ L) (lv : List (Nat × Value)) (I : IVQ h) (L0 : pm_get lv 0 = some (.retAddr 0)) (L1 : pm_get lv 1 = some (.ref 0)) (L2 : pm_get lv 2 = some (.ref 77)) (L3 : pm_get lv 3 = some (.int (nJ i))) (K : ∀ h', IVQ h' → Ends (pm_tr (lb_all L xs)) (pm_Rt pm_P 100) (2392, lv, [], h', 599897, 7298671) RQ1) : Ends (pm_tr (lb_all L xs)) (pm_Rt pm_P 100) (2009, lv, [], h, 599897, 7298671) RQ1 := by
  refine E_al rfl L1 ?_
  refine E_call rfl (g8_undo I) (chkR (a := 0) I.1.1 rfl rfl rfl rfl (by show 0 ≤ 8; decide)) (fun h1 r1 => ?_)
  rintro ⟨I1, x1, f1, J1⟩
  rw [f1]
  show Ends _ _ (2013, lv, [.int x1], h1, 599897, 7298671) _
  refine E_al rfl L2 ?_
  refine E_call rfl (g9_undo I1 J1) (chkR (a := 77) I1.1 rfl rfl rfl rfl (by show 1 ≤ 8; decide)) (fun h2 r2 => ?_)
  rintro ⟨I2, f2⟩
  rw [f2]
  show Ends _ _ (2017, lv, [.int x1, .int x1], h2, 599897, 7298671) _
  refine E_icT rfl (decide_eq_true rfl) ?_
  exact K _ I2
set_option maxRecDepth 20000 in
theorem bl_72 {L : Nat} {xs : Nat → Int32} (hL : L ≤ 3072) {h : pm_H} {i : Nat} (hi : i + 6 ≤ L) (lv : List (Nat × Value)) (I : IVQ h) (L0 : pm_get lv 0 = some (.retAddr 0)) (L1 : pm_get lv 1 = some (.ref 0)) (L2 : pm_get lv 2 = some (.ref 77)) (L3 : pm_get lv 3 = some (.int (nJ i))) (K : ∀ h', IVQ h' → Ends (pm_tr (lb_all L xs)) (pm_Rt pm_P 100) (2392, lv, [], h', 599897, 7298671) RQ1) : Ends (pm_tr (lb_all L xs)) (pm_Rt pm_P 100) (2022, lv, [], h, 599897, 7298671) RQ1 := by
  refine E_al rfl L1 ?_
  refine E_call rfl (g8_anew I) (chkR (a := 0) I.1.1 rfl rfl rfl rfl (by show 0 ≤ 8; decide)) (fun h1 r1 => ?_)
  rintro ⟨I1, x1, f1, J1⟩
  rw [f1]
  show Ends _ _ (2026, lv, [.int x1], h1, 599897, 7298671) _
  refine E_pop rfl rfl ?_
  refine E_al rfl L2 ?_
  refine E_call rfl (g9_anew I1 J1) (chkR (a := 77) I1.1 rfl rfl rfl rfl (by show 0 ≤ 8; decide)) (fun h2 r2 => ?_)
  rintro ⟨I2, f2⟩
  rw [f2]
  show Ends _ _ (2031, lv, [.int x1], h2, 599897, 7298671) _
  refine E_pop rfl rfl ?_
  refine E_goto rfl ?_
  exact K _ I2
set_option maxRecDepth 20000 in
theorem bl_73 {L : Nat} {xs : Nat → Int32} (hL : L ≤ 3072) {h : pm_H} {i : Nat} (hi : i + 6 ≤ L) (lv : List (Nat × Value)) (I : IVQ h) (L0 : pm_get lv 0 = some (.retAddr 0)) (L1 : pm_get lv 1 = some (.ref 0)) (L2 : pm_get lv 2 = some (.ref 77)) (L3 : pm_get lv 3 = some (.int (nJ i))) (K : ∀ h', IVQ h' → Ends (pm_tr (lb_all L xs)) (pm_Rt pm_P 100) (2392, lv, [], h', 599897, 7298671) RQ1) : Ends (pm_tr (lb_all L xs)) (pm_Rt pm_P 100) (2035, lv, [], h, 599897, 7298671) RQ1 := by
  refine E_al rfl L1 ?_
  refine E_alr rfl L0 ?_
  refine E_il rfl L3 ?_
  refine E_ci 1 rfl ci1 ?_
  refine E_bin rfl (nJ_add _ _) ?_
  refine E_sld rfl (by first | decide | with_reducible assumption | omega) hL ?_
  refine E_alr rfl L0 ?_
  refine E_il rfl L3 ?_
  refine E_ci 2 rfl ci2 ?_
  refine E_bin rfl (nJ_add _ _) ?_
  refine E_sld rfl (by first | decide | with_reducible assumption | omega) hL ?_
  refine E_call rfl (tQ_int (by decide +kernel) (by decide +kernel) I.2 (top_int (as := [.ref 0, .int (xs ((i + 1))), .int (xs ((i + 2)))]) q885 (by decide +kernel) (by decide +kernel) I.1 ⟨rfl, aI _, aI _, trivial⟩)) (chkR (a := 0) I.1.1 rfl rfl rfl rfl (by show 0 ≤ 8; decide)) (fun h1 r1 => ?_)
  rintro ⟨I1, x1, f1⟩
  rw [f1]
  show Ends _ _ (2049, lv, [.int x1], h1, 599897, 7298671) _
  refine E_pop rfl rfl ?_
  refine E_al rfl L2 ?_
  refine E_alr rfl L0 ?_
  refine E_il rfl L3 ?_
  refine E_ci 1 rfl ci1 ?_
  refine E_bin rfl (nJ_add _ _) ?_
  refine E_sld rfl (by first | decide | with_reducible assumption | omega) hL ?_
  refine E_alr rfl L0 ?_
  refine E_il rfl L3 ?_
  refine E_ci 2 rfl ci2 ?_
  refine E_bin rfl (nJ_add _ _) ?_
  refine E_sld rfl (by first | decide | with_reducible assumption | omega) hL ?_
  refine E_call rfl (tQ_int (by decide +kernel) (by decide +kernel) I1.2 (top_int (as := [.ref 77, .int (xs ((i + 1))), .int (xs ((i + 2)))]) q889 (by decide +kernel) (by decide +kernel) I1.1 ⟨rfl, aI _, aI _, trivial⟩)) (chkR (a := 77) I1.1.1 rfl rfl rfl rfl (by show 0 ≤ 8; decide)) (fun h2 r2 => ?_)
  rintro ⟨I2, x2, f2⟩
  rw [f2]
  show Ends _ _ (2064, lv, [.int x2], h2, 599897, 7298671) _
  refine E_pop rfl rfl ?_
  refine E_goto rfl ?_
  exact K _ I2
set_option maxRecDepth 20000 in
theorem bl_74 {L : Nat} {xs : Nat → Int32} (hL : L ≤ 3072) {h : pm_H} {i : Nat} (hi : i + 6 ≤ L) (lv : List (Nat × Value)) (I : IVQ h) (L0 : pm_get lv 0 = some (.retAddr 0)) (L1 : pm_get lv 1 = some (.ref 0)) (L2 : pm_get lv 2 = some (.ref 77)) (L3 : pm_get lv 3 = some (.int (nJ i))) (K : ∀ h', IVQ h' → Ends (pm_tr (lb_all L xs)) (pm_Rt pm_P 100) (2392, lv, [], h', 599897, 7298671) RQ1) : Ends (pm_tr (lb_all L xs)) (pm_Rt pm_P 100) (2068, lv, [], h, 599897, 7298671) RQ1 := by
  refine E_al rfl L1 ?_
  refine E_alr rfl L0 ?_
  refine E_il rfl L3 ?_
  refine E_ci 1 rfl ci1 ?_
  refine E_bin rfl (nJ_add _ _) ?_
  refine E_sld rfl (by first | decide | with_reducible assumption | omega) hL ?_
  refine E_alr rfl L0 ?_
  refine E_il rfl L3 ?_
  refine E_ci 2 rfl ci2 ?_
  refine E_bin rfl (nJ_add _ _) ?_
  refine E_sld rfl (by first | decide | with_reducible assumption | omega) hL ?_
  refine E_alr rfl L0 ?_
  refine E_il rfl L3 ?_
  refine E_ci 3 rfl ci3 ?_
  refine E_bin rfl (nJ_add _ _) ?_
  refine E_sld rfl (by first | decide | with_reducible assumption | omega) hL ?_
  refine E_call rfl (tQ_int (by decide +kernel) (by decide +kernel) I.2 (top_int (as := [.ref 0, .int (xs ((i + 1))), .int (xs ((i + 2))), .int (xs ((i + 3)))]) q891 (by decide +kernel) (by decide +kernel) I.1 ⟨rfl, aI _, aI _, aI _, trivial⟩)) (chkR (a := 0) I.1.1 rfl rfl rfl rfl (by show 0 ≤ 8; decide)) (fun h1 r1 => ?_)
  rintro ⟨I1, x1, f1⟩
  rw [f1]
  show Ends _ _ (2087, lv, [.int x1], h1, 599897, 7298671) _
  refine E_pop rfl rfl ?_
  refine E_al rfl L2 ?_
  refine E_alr rfl L0 ?_
  refine E_il rfl L3 ?_
  refine E_ci 1 rfl ci1 ?_
  refine E_bin rfl (nJ_add _ _) ?_
  refine E_sld rfl (by first | decide | with_reducible assumption | omega) hL ?_
  refine E_alr rfl L0 ?_
  refine E_il rfl L3 ?_
  refine E_ci 2 rfl ci2 ?_
  refine E_bin rfl (nJ_add _ _) ?_
  refine E_sld rfl (by first | decide | with_reducible assumption | omega) hL ?_
  refine E_alr rfl L0 ?_
  refine E_il rfl L3 ?_
  refine E_ci 3 rfl ci3 ?_
  refine E_bin rfl (nJ_add _ _) ?_
  refine E_sld rfl (by first | decide | with_reducible assumption | omega) hL ?_
  refine E_call rfl (tQ_int (by decide +kernel) (by decide +kernel) I1.2 (top_int (as := [.ref 77, .int (xs ((i + 1))), .int (xs ((i + 2))), .int (xs ((i + 3)))]) q894 (by decide +kernel) (by decide +kernel) I1.1 ⟨rfl, aI _, aI _, aI _, trivial⟩)) (chkR (a := 77) I1.1.1 rfl rfl rfl rfl (by show 0 ≤ 8; decide)) (fun h2 r2 => ?_)
  rintro ⟨I2, x2, f2⟩
  rw [f2]
  show Ends _ _ (2107, lv, [.int x2], h2, 599897, 7298671) _
  refine E_pop rfl rfl ?_
  refine E_goto rfl ?_
  exact K _ I2
set_option maxRecDepth 20000 in
theorem bl_75 {L : Nat} {xs : Nat → Int32} (hL : L ≤ 3072) {h : pm_H} {i : Nat} (hi : i + 6 ≤ L) (lv : List (Nat × Value)) (I : IVQ h) (L0 : pm_get lv 0 = some (.retAddr 0)) (L1 : pm_get lv 1 = some (.ref 0)) (L2 : pm_get lv 2 = some (.ref 77)) (L3 : pm_get lv 3 = some (.int (nJ i))) (K : ∀ h', IVQ h' → Ends (pm_tr (lb_all L xs)) (pm_Rt pm_P 100) (2392, lv, [], h', 599897, 7298671) RQ1) : Ends (pm_tr (lb_all L xs)) (pm_Rt pm_P 100) (2111, lv, [], h, 599897, 7298671) RQ1 := by
  refine E_al rfl L1 ?_
  refine E_alr rfl L0 ?_
  refine E_il rfl L3 ?_
  refine E_ci 1 rfl ci1 ?_
  refine E_bin rfl (nJ_add _ _) ?_
  refine E_sld rfl (by first | decide | with_reducible assumption | omega) hL ?_
  refine E_alr rfl L0 ?_
  refine E_il rfl L3 ?_
  refine E_ci 2 rfl ci2 ?_
  refine E_bin rfl (nJ_add _ _) ?_
  refine E_sld rfl (by first | decide | with_reducible assumption | omega) hL ?_
  refine E_call rfl (g8_rate I) (chkR (a := 0) I.1.1 rfl rfl rfl rfl (by show 0 ≤ 8; decide)) (fun h1 r1 => ?_)
  rintro ⟨I1, x1, f1, J1⟩
  rw [f1]
  show Ends _ _ (2125, lv, [.int x1], h1, 599897, 7298671) _
  refine E_pop rfl rfl ?_
  refine E_al rfl L2 ?_
  refine E_alr rfl L0 ?_
  refine E_il rfl L3 ?_
  refine E_ci 1 rfl ci1 ?_
  refine E_bin rfl (nJ_add _ _) ?_
  refine E_sld rfl (by first | decide | with_reducible assumption | omega) hL ?_
  refine E_alr rfl L0 ?_
  refine E_il rfl L3 ?_
  refine E_ci 2 rfl ci2 ?_
  refine E_bin rfl (nJ_add _ _) ?_
  refine E_sld rfl (by first | decide | with_reducible assumption | omega) hL ?_
  refine E_call rfl (g9_rate I1 J1) (chkR (a := 77) I1.1 rfl rfl rfl rfl (by show 0 ≤ 8; decide)) (fun h2 r2 => ?_)
  rintro ⟨I2, f2⟩
  rw [f2]
  show Ends _ _ (2140, lv, [.int x1], h2, 599897, 7298671) _
  refine E_pop rfl rfl ?_
  refine E_goto rfl ?_
  exact K _ I2
set_option maxRecDepth 20000 in
theorem bl_76 {L : Nat} {xs : Nat → Int32} (hL : L ≤ 3072) {h : pm_H} {i : Nat} (hi : i + 6 ≤ L) (lv : List (Nat × Value)) (I : IVQ h) (L0 : pm_get lv 0 = some (.retAddr 0)) (L1 : pm_get lv 1 = some (.ref 0)) (L2 : pm_get lv 2 = some (.ref 77)) (L3 : pm_get lv 3 = some (.int (nJ i))) (K : ∀ h', IVQ h' → Ends (pm_tr (lb_all L xs)) (pm_Rt pm_P 100) (2392, lv, [], h', 599897, 7298671) RQ1) : Ends (pm_tr (lb_all L xs)) (pm_Rt pm_P 100) (2144, lv, [], h, 599897, 7298671) RQ1 := by
  refine E_al rfl L1 ?_
  refine E_alr rfl L0 ?_
  refine E_il rfl L3 ?_
  refine E_ci 1 rfl ci1 ?_
  refine E_bin rfl (nJ_add _ _) ?_
  refine E_sld rfl (by first | decide | with_reducible assumption | omega) hL ?_
  refine E_call rfl (g8_count I) (chkR (a := 0) I.1.1 rfl rfl rfl rfl (by show 0 ≤ 8; decide)) (fun h1 r1 => ?_)
  rintro ⟨I1, x1, f1, J1⟩
  rw [f1]
  show Ends _ _ (2153, lv, [.int x1], h1, 599897, 7298671) _
  refine E_pop rfl rfl ?_
  refine E_al rfl L2 ?_
  refine E_alr rfl L0 ?_
  refine E_il rfl L3 ?_
  refine E_ci 1 rfl ci1 ?_
  refine E_bin rfl (nJ_add _ _) ?_
  refine E_sld rfl (by first | decide | with_reducible assumption | omega) hL ?_
  refine E_call rfl (g9_count I1 J1) (chkR (a := 77) I1.1 rfl rfl rfl rfl (by show 0 ≤ 8; decide)) (fun h2 r2 => ?_)
  rintro ⟨I2, f2⟩
  rw [f2]
  show Ends _ _ (2163, lv, [.int x1], h2, 599897, 7298671) _
  refine E_pop rfl rfl ?_
  refine E_goto rfl ?_
  exact K _ I2
set_option maxRecDepth 20000 in
theorem bl_77 {L : Nat} {xs : Nat → Int32} (hL : L ≤ 3072) {h : pm_H} {i : Nat} (hi : i + 6 ≤ L) (lv : List (Nat × Value)) (I : IVQ h) (L0 : pm_get lv 0 = some (.retAddr 0)) (L1 : pm_get lv 1 = some (.ref 0)) (L2 : pm_get lv 2 = some (.ref 77)) (L3 : pm_get lv 3 = some (.int (nJ i))) (K : ∀ h', IVQ h' → Ends (pm_tr (lb_all L xs)) (pm_Rt pm_P 100) (2392, lv, [], h', 599897, 7298671) RQ1) : Ends (pm_tr (lb_all L xs)) (pm_Rt pm_P 100) (2167, lv, [], h, 599897, 7298671) RQ1 := by
  refine E_al rfl L1 ?_
  refine E_alr rfl L0 ?_
  refine E_il rfl L3 ?_
  refine E_ci 1 rfl ci1 ?_
  refine E_bin rfl (nJ_add _ _) ?_
  refine E_sld rfl (by first | decide | with_reducible assumption | omega) hL ?_
  refine E_call rfl (g8_image I) (chkR (a := 0) I.1.1 rfl rfl rfl rfl (by show 0 ≤ 8; decide)) (fun h1 r1 => ?_)
  rintro ⟨I1, x1, f1, J1⟩
  rw [f1]
  show Ends _ _ (2176, lv, [.int x1], h1, 599897, 7298671) _
  refine E_pop rfl rfl ?_
  refine E_al rfl L2 ?_
  refine E_alr rfl L0 ?_
  refine E_il rfl L3 ?_
  refine E_ci 1 rfl ci1 ?_
  refine E_bin rfl (nJ_add _ _) ?_
  refine E_sld rfl (by first | decide | with_reducible assumption | omega) hL ?_
  refine E_call rfl (g9_image I1 J1) (chkR (a := 77) I1.1 rfl rfl rfl rfl (by show 0 ≤ 8; decide)) (fun h2 r2 => ?_)
  rintro ⟨I2, f2⟩
  rw [f2]
  show Ends _ _ (2186, lv, [.int x1], h2, 599897, 7298671) _
  refine E_pop rfl rfl ?_
  refine E_goto rfl ?_
  exact K _ I2
set_option maxRecDepth 20000 in
theorem bl_78 {L : Nat} {xs : Nat → Int32} (hL : L ≤ 3072) {h : pm_H} {i : Nat} (hi : i + 6 ≤ L) (lv : List (Nat × Value)) (I : IVQ h) (L0 : pm_get lv 0 = some (.retAddr 0)) (L1 : pm_get lv 1 = some (.ref 0)) (L2 : pm_get lv 2 = some (.ref 77)) (L3 : pm_get lv 3 = some (.int (nJ i))) (K : ∀ h', IVQ h' → Ends (pm_tr (lb_all L xs)) (pm_Rt pm_P 100) (2392, lv, [], h', 599897, 7298671) RQ1) : Ends (pm_tr (lb_all L xs)) (pm_Rt pm_P 100) (2190, lv, [], h, 599897, 7298671) RQ1 := by
  refine E_al rfl L1 ?_
  refine E_alr rfl L0 ?_
  refine E_il rfl L3 ?_
  refine E_ci 1 rfl ci1 ?_
  refine E_bin rfl (nJ_add _ _) ?_
  refine E_sld rfl (by first | decide | with_reducible assumption | omega) hL ?_
  refine E_call rfl (g8_back I) (chkR (a := 0) I.1.1 rfl rfl rfl rfl (by show 0 ≤ 8; decide)) (fun h1 r1 => ?_)
  rintro ⟨I1, x1, f1, J1⟩
  rw [f1]
  show Ends _ _ (2199, lv, [.int x1], h1, 599897, 7298671) _
  refine E_pop rfl rfl ?_
  refine E_al rfl L2 ?_
  refine E_alr rfl L0 ?_
  refine E_il rfl L3 ?_
  refine E_ci 1 rfl ci1 ?_
  refine E_bin rfl (nJ_add _ _) ?_
  refine E_sld rfl (by first | decide | with_reducible assumption | omega) hL ?_
  refine E_call rfl (g9_back I1 J1) (chkR (a := 77) I1.1 rfl rfl rfl rfl (by show 0 ≤ 8; decide)) (fun h2 r2 => ?_)
  rintro ⟨I2, f2⟩
  rw [f2]
  show Ends _ _ (2209, lv, [.int x1], h2, 599897, 7298671) _
  refine E_pop rfl rfl ?_
  refine E_goto rfl ?_
  exact K _ I2
set_option maxRecDepth 20000 in
theorem bl_79 {L : Nat} {xs : Nat → Int32} (hL : L ≤ 3072) {h : pm_H} {i : Nat} (hi : i + 6 ≤ L) (lv : List (Nat × Value)) (I : IVQ h) (L0 : pm_get lv 0 = some (.retAddr 0)) (L1 : pm_get lv 1 = some (.ref 0)) (L2 : pm_get lv 2 = some (.ref 77)) (L3 : pm_get lv 3 = some (.int (nJ i))) (K : ∀ h', IVQ h' → Ends (pm_tr (lb_all L xs)) (pm_Rt pm_P 100) (2392, lv, [], h', 599897, 7298671) RQ1) : Ends (pm_tr (lb_all L xs)) (pm_Rt pm_P 100) (2213, lv, [], h, 599897, 7298671) RQ1 := by
  refine E_al rfl L1 ?_
  refine E_alr rfl L0 ?_
  refine E_il rfl L3 ?_
  refine E_ci 1 rfl ci1 ?_
  refine E_bin rfl (nJ_add _ _) ?_
  refine E_sld rfl (by first | decide | with_reducible assumption | omega) hL ?_
  refine E_alr rfl L0 ?_
  refine E_il rfl L3 ?_
  refine E_ci 2 rfl ci2 ?_
  refine E_bin rfl (nJ_add _ _) ?_
  refine E_sld rfl (by first | decide | with_reducible assumption | omega) hL ?_
  refine E_alr rfl L0 ?_
  refine E_il rfl L3 ?_
  refine E_ci 3 rfl ci3 ?_
  refine E_bin rfl (nJ_add _ _) ?_
  refine E_sld rfl (by first | decide | with_reducible assumption | omega) hL ?_
  refine E_call rfl (g8_row I) (chkR (a := 0) I.1.1 rfl rfl rfl rfl (by show 0 ≤ 8; decide)) (fun h1 r1 => ?_)
  rintro ⟨I1, x1, f1, J1⟩
  rw [f1]
  show Ends _ _ (2232, lv, [.int x1], h1, 599897, 7298671) _
  refine E_pop rfl rfl ?_
  refine E_al rfl L2 ?_
  refine E_alr rfl L0 ?_
  refine E_il rfl L3 ?_
  refine E_ci 1 rfl ci1 ?_
  refine E_bin rfl (nJ_add _ _) ?_
  refine E_sld rfl (by first | decide | with_reducible assumption | omega) hL ?_
  refine E_alr rfl L0 ?_
  refine E_il rfl L3 ?_
  refine E_ci 2 rfl ci2 ?_
  refine E_bin rfl (nJ_add _ _) ?_
  refine E_sld rfl (by first | decide | with_reducible assumption | omega) hL ?_
  refine E_alr rfl L0 ?_
  refine E_il rfl L3 ?_
  refine E_ci 3 rfl ci3 ?_
  refine E_bin rfl (nJ_add _ _) ?_
  refine E_sld rfl (by first | decide | with_reducible assumption | omega) hL ?_
  refine E_call rfl (g9_row I1 J1) (chkR (a := 77) I1.1 rfl rfl rfl rfl (by show 0 ≤ 8; decide)) (fun h2 r2 => ?_)
  rintro ⟨I2, f2⟩
  rw [f2]
  show Ends _ _ (2252, lv, [.int x1], h2, 599897, 7298671) _
  refine E_pop rfl rfl ?_
  refine E_goto rfl ?_
  exact K _ I2
set_option maxRecDepth 20000 in
theorem bl_80 {L : Nat} {xs : Nat → Int32} (hL : L ≤ 3072) {h : pm_H} {i : Nat} (hi : i + 6 ≤ L) (lv : List (Nat × Value)) (I : IVQ h) (L0 : pm_get lv 0 = some (.retAddr 0)) (L1 : pm_get lv 1 = some (.ref 0)) (L2 : pm_get lv 2 = some (.ref 77)) (L3 : pm_get lv 3 = some (.int (nJ i))) (K : ∀ h', IVQ h' → Ends (pm_tr (lb_all L xs)) (pm_Rt pm_P 100) (2392, lv, [], h', 599897, 7298671) RQ1) : Ends (pm_tr (lb_all L xs)) (pm_Rt pm_P 100) (2256, lv, [], h, 599897, 7298671) RQ1 := by
  refine E_al rfl L1 ?_
  refine E_alr rfl L0 ?_
  refine E_il rfl L3 ?_
  refine E_ci 1 rfl ci1 ?_
  refine E_bin rfl (nJ_add _ _) ?_
  refine E_sld rfl (by first | decide | with_reducible assumption | omega) hL ?_
  refine E_alr rfl L0 ?_
  refine E_il rfl L3 ?_
  refine E_ci 2 rfl ci2 ?_
  refine E_bin rfl (nJ_add _ _) ?_
  refine E_sld rfl (by first | decide | with_reducible assumption | omega) hL ?_
  refine E_alr rfl L0 ?_
  refine E_il rfl L3 ?_
  refine E_ci 3 rfl ci3 ?_
  refine E_bin rfl (nJ_add _ _) ?_
  refine E_sld rfl (by first | decide | with_reducible assumption | omega) hL ?_
  refine E_i2l rfl ?_
  refine E_ci 32 rfl ci32 ?_
  refine E_lsh rfl ?_
  refine E_alr rfl L0 ?_
  refine E_il rfl L3 ?_
  refine E_ci 4 rfl ci4 ?_
  refine E_bin rfl (nJ_add _ _) ?_
  refine E_sld rfl (by first | decide | with_reducible assumption | omega) hL ?_
  refine E_i2l rfl ?_
  refine E_c rfl ?_
  refine E_lbin rfl ?_
  refine E_lbin rfl ?_
  refine E_call rfl (g8_write I) (chkR (a := 0) I.1.1 rfl rfl rfl rfl (by show 0 ≤ 8; decide)) (fun h1 r1 => ?_)
  rintro ⟨I1, x1, f1, J1⟩
  rw [f1]
  show Ends _ _ (2290, lv, [.int x1], h1, 599897, 7298671) _
  refine E_pop rfl rfl ?_
  refine E_al rfl L2 ?_
  refine E_alr rfl L0 ?_
  refine E_il rfl L3 ?_
  refine E_ci 1 rfl ci1 ?_
  refine E_bin rfl (nJ_add _ _) ?_
  refine E_sld rfl (by first | decide | with_reducible assumption | omega) hL ?_
  refine E_alr rfl L0 ?_
  refine E_il rfl L3 ?_
  refine E_ci 2 rfl ci2 ?_
  refine E_bin rfl (nJ_add _ _) ?_
  refine E_sld rfl (by first | decide | with_reducible assumption | omega) hL ?_
  refine E_alr rfl L0 ?_
  refine E_il rfl L3 ?_
  refine E_ci 3 rfl ci3 ?_
  refine E_bin rfl (nJ_add _ _) ?_
  refine E_sld rfl (by first | decide | with_reducible assumption | omega) hL ?_
  refine E_i2l rfl ?_
  refine E_ci 32 rfl ci32 ?_
  refine E_lsh rfl ?_
  refine E_alr rfl L0 ?_
  refine E_il rfl L3 ?_
  refine E_ci 4 rfl ci4 ?_
  refine E_bin rfl (nJ_add _ _) ?_
  refine E_sld rfl (by first | decide | with_reducible assumption | omega) hL ?_
  refine E_i2l rfl ?_
  refine E_c rfl ?_
  refine E_lbin rfl ?_
  refine E_lbin rfl ?_
  refine E_call rfl (g9_write I1 J1) (chkR (a := 77) I1.1 rfl rfl rfl rfl (by show 0 ≤ 8; decide)) (fun h2 r2 => ?_)
  rintro ⟨I2, f2⟩
  rw [f2]
  show Ends _ _ (2325, lv, [.int x1], h2, 599897, 7298671) _
  refine E_pop rfl rfl ?_
  refine E_goto rfl ?_
  exact K _ I2
set_option maxRecDepth 20000 in
theorem bl_81 {L : Nat} {xs : Nat → Int32} (hL : L ≤ 3072) {h : pm_H} {i : Nat} (hi : i + 6 ≤ L) (lv : List (Nat × Value)) (I : IVQ h) (L0 : pm_get lv 0 = some (.retAddr 0)) (L1 : pm_get lv 1 = some (.ref 0)) (L2 : pm_get lv 2 = some (.ref 77)) (L3 : pm_get lv 3 = some (.int (nJ i))) (K : ∀ h', IVQ h' → Ends (pm_tr (lb_all L xs)) (pm_Rt pm_P 100) (2392, lv, [], h', 599897, 7298671) RQ1) : Ends (pm_tr (lb_all L xs)) (pm_Rt pm_P 100) (2329, lv, [], h, 599897, 7298671) RQ1 := by
  refine E_al rfl L1 ?_
  refine E_alr rfl L0 ?_
  refine E_il rfl L3 ?_
  refine E_ci 1 rfl ci1 ?_
  refine E_bin rfl (nJ_add _ _) ?_
  refine E_sld rfl (by first | decide | with_reducible assumption | omega) hL ?_
  refine E_alr rfl L0 ?_
  refine E_il rfl L3 ?_
  refine E_ci 2 rfl ci2 ?_
  refine E_bin rfl (nJ_add _ _) ?_
  refine E_sld rfl (by first | decide | with_reducible assumption | omega) hL ?_
  refine E_alr rfl L0 ?_
  refine E_il rfl L3 ?_
  refine E_ci 3 rfl ci3 ?_
  refine E_bin rfl (nJ_add _ _) ?_
  refine E_sld rfl (by first | decide | with_reducible assumption | omega) hL ?_
  refine E_alr rfl L0 ?_
  refine E_il rfl L3 ?_
  refine E_ci 4 rfl ci4 ?_
  refine E_bin rfl (nJ_add _ _) ?_
  refine E_sld rfl (by first | decide | with_reducible assumption | omega) hL ?_
  refine E_alr rfl L0 ?_
  refine E_il rfl L3 ?_
  refine E_ci 5 rfl ci5 ?_
  refine E_bin rfl (nJ_add _ _) ?_
  refine E_sld rfl (by first | decide | with_reducible assumption | omega) hL ?_
  refine E_call rfl (g8_paste I) (chkR (a := 0) I.1.1 rfl rfl rfl rfl (by show 0 ≤ 8; decide)) (fun h1 r1 => ?_)
  rintro ⟨I1, x1, f1, J1⟩
  rw [f1]
  show Ends _ _ (2358, lv, [.int x1], h1, 599897, 7298671) _
  refine E_pop rfl rfl ?_
  refine E_al rfl L2 ?_
  refine E_alr rfl L0 ?_
  refine E_il rfl L3 ?_
  refine E_ci 1 rfl ci1 ?_
  refine E_bin rfl (nJ_add _ _) ?_
  refine E_sld rfl (by first | decide | with_reducible assumption | omega) hL ?_
  refine E_alr rfl L0 ?_
  refine E_il rfl L3 ?_
  refine E_ci 2 rfl ci2 ?_
  refine E_bin rfl (nJ_add _ _) ?_
  refine E_sld rfl (by first | decide | with_reducible assumption | omega) hL ?_
  refine E_alr rfl L0 ?_
  refine E_il rfl L3 ?_
  refine E_ci 3 rfl ci3 ?_
  refine E_bin rfl (nJ_add _ _) ?_
  refine E_sld rfl (by first | decide | with_reducible assumption | omega) hL ?_
  refine E_alr rfl L0 ?_
  refine E_il rfl L3 ?_
  refine E_ci 4 rfl ci4 ?_
  refine E_bin rfl (nJ_add _ _) ?_
  refine E_sld rfl (by first | decide | with_reducible assumption | omega) hL ?_
  refine E_alr rfl L0 ?_
  refine E_il rfl L3 ?_
  refine E_ci 5 rfl ci5 ?_
  refine E_bin rfl (nJ_add _ _) ?_
  refine E_sld rfl (by first | decide | with_reducible assumption | omega) hL ?_
  refine E_call rfl (g9_paste I1 J1) (chkR (a := 77) I1.1 rfl rfl rfl rfl (by show 0 ≤ 8; decide)) (fun h2 r2 => ?_)
  rintro ⟨I2, f2⟩
  rw [f2]
  show Ends _ _ (2388, lv, [.int x1], h2, 599897, 7298671) _
  refine E_pop rfl rfl ?_
  refine E_goto rfl ?_
  exact K _ I2
end
