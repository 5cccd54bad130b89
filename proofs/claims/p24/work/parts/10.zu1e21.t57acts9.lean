section
/-! wants and trades of the class; undo, anew, rate, wants, trades of the reference: the numbers that are counted (wants t56) -/
noncomputable def AAF : List Rng := [(15, 6, 6), (17, 0, 7), (21, 0, 19), (22, 0, 19), (23, 0, 19)]
noncomputable def wna (ok : Bool) (a : Nat) : Nat := bif ok then (if a < 20 then a + 1 else a) else a
section WN8
variable {h : pm_H} {d : Nat} {x y : Int32}
theorem sp_addAct {c z t a : Nat} (hh : HH h) (c7 : c ≤ 7) (z8 : z ≤ 8) (t1 : t ≤ 1) (hz : t ≠ 0 → z ≤ 7) (g6 : gi h 15 6 = nJ a) (a20 : a < 20) : Sp (d + 2) 47 h [.ref 15, .int (nJ c), .int (nJ z), .int (nJ t)] (fun h' r => r = none ∧ HH h' ∧ fr_g AAF h h' ∧ gi h' 15 6 = nJ (a + 1)) := by
  refine Sp_of aiX5_addAct rfl rfl rfl ?_
  have L0 : pm_get (lv_args 0 [.ref 15, .int (nJ c), .int (nJ z), .int (nJ t)]) 0 = some (.ref 15) := rfl
  have L1 : pm_get (lv_args 0 [.ref 15, .int (nJ c), .int (nJ z), .int (nJ t)]) 1 = some (.int (nJ c)) := rfl
  have L2 : pm_get (lv_args 0 [.ref 15, .int (nJ c), .int (nJ z), .int (nJ t)]) 2 = some (.int (nJ z)) := rfl
  have L3 : pm_get (lv_args 0 [.ref 15, .int (nJ c), .int (nJ z), .int (nJ t)]) 3 = some (.int (nJ t)) := rfl
  generalize lv_args 0 [.ref 15, .int (nJ c), .int (nJ z), .int (nJ t)] = lv at L0 L1 L2 L3 ⊢
  have tt := nJ_toInt (n := t) (by omega)
  refine E_al rfl L0 ?_
  refine E_ogf (q := (0, 20)) rfl hh rfl rfl g6 ?_
  refine E_ci 20 rfl (by decide) ?_
  refine E_icF rfl (decide_eq_false (fun q => absurd ((nJ_le (by omega) (by omega)).mp q) (by omega))) ?_
  have b1 : bd 21 a = some (0, 7) := bd_u rfl a20
  have b2 : bd 22 a = some (0, 8) := bd_u rfl a20
  have b3 : bd 23 a = some (0, 1) := bd_u rfl a20
  have h1 : HH (pt h 21 a (nJ c)) := HH_ptn hh b1 (by omega) (by omega) (by omega)
  have h2 : HH (pt (pt h 21 a (nJ c)) 22 a (nJ z)) := HH_ptn h1 b2 (by omega) (by omega) (by omega)
  have h3 : HH (pt (pt (pt h 21 a (nJ c)) 22 a (nJ z)) 23 a (nJ t)) := HH_ptn h2 b3 (by omega) (by omega) (by omega)
  refine E_al rfl L0 ?_
  refine E_ogr (q := 21) rfl hh rfl rfl ?_
  refine E_al rfl L0 ?_
  refine E_ogf (q := (0, 20)) rfl hh rfl rfl g6 ?_
  refine E_il rfl L1 ?_
  refine E_ias rfl hh rfl a20 (by decide) ?_
  refine E_al rfl L0 ?_
  refine E_ogr (q := 22) rfl h1 rfl rfl ?_
  refine E_al rfl L0 ?_
  refine E_ogf (q := (0, 20)) (v := nJ a) rfl h1 rfl rfl (by rw [gi_ne (by omega)]; exact g6) ?_
  refine E_il rfl L2 ?_
  refine E_ias rfl h1 rfl a20 (by decide) ?_
  refine E_al rfl L0 ?_
  refine E_ogr (q := 23) rfl h2 rfl rfl ?_
  refine E_al rfl L0 ?_
  refine E_ogf (q := (0, 20)) (v := nJ a) rfl h2 rfl rfl (by rw [gi_ne (by omega), gi_ne (by omega)]; exact g6) ?_
  refine E_il rfl L3 ?_
  refine E_zasB rfl h2 rfl a20 (by decide) (nar_z (by omega) (by omega)) ?_
  have g3 : gi (pt (pt (pt h 21 a (nJ c)) 22 a (nJ z)) 23 a (nJ t)) 15 6 = nJ a := by rw [gi_ne (by omega), gi_ne (by omega), gi_ne (by omega)]; exact g6
  have q3 : gi (pt (pt (pt h 21 a (nJ c)) 22 a (nJ z)) 23 a (nJ t)) 23 a = nJ t := gi_ptn h2 b3 (by omega) (by omega) (by omega)
  have q2 : gn (pt (pt (pt h 21 a (nJ c)) 22 a (nJ z)) 23 a (nJ t)) 22 a = z := by rw [gn_ne (by omega)]; exact gn_ptn h1 b2 (by omega) (by omega) (by omega)
  have F3 : fr_g AAF h (pt (pt (pt h 21 a (nJ c)) 22 a (nJ z)) 23 a (nJ t)) := fr_ptr (l := 0) (u := 19) rfl (by omega) (by omega) (fr_ptr (l := 0) (u := 19) rfl (by omega) (by omega) (fr_ptr (l := 0) (u := 19) rfl (by omega) (by omega) (fr_rf _ _)))
  generalize pt (pt (pt h 21 a (nJ c)) 22 a (nJ z)) 23 a (nJ t) = g at h3 g3 q3 q2 F3 ⊢
  refine E_al rfl L0 ?_
  refine E_al rfl L0 ?_
  refine E_ogf (q := (0, 20)) rfl h3 rfl rfl g3 ?_
  refine E_call rfl (sp_doAct (d := d) h3 a20 (fun q => by rw [q2]; exact hz (fun e => q (by rw [q3, e]; rfl)))) (chkO (a := 15) h3 rfl rfl rfl rfl (by show 0 ≤ 8; decide)) (fun h5 r5 => ?_)
  rintro ⟨e5, hh5, f5⟩
  rw [e5]
  refine E_al rfl L0 ?_
  refine E_dup rfl rfl ?_
  refine E_ogf (q := (0, 20)) (v := nJ a) rfl hh5 rfl rfl (by rw [fr_gi f5 (rg_no rfl _)]; exact g3) ?_
  refine E_ci 1 rfl (by decide) ?_
  refine E_bin rfl (nJ_add _ _) ?_
  refine E_opf (q := (0, 20)) rfl hh5 rfl rfl ?_
  exact E_ret rfl ⟨rfl, HH_ptn hh5 rfl (by omega) (by omega) (by omega), fr_ptr (l := 6) (u := 6) rfl (by omega) (by omega) (fr_trans F3 (fr_wk rfl f5)), gi_ptn hh5 rfl (by omega) (by omega) (by omega)⟩
theorem sp_actLost {c z t : Nat} (hh : HH h) (c7 : c ≤ 7) (z8 : z ≤ 8) (t1 : t ≤ 1) (hz : t ≠ 0 → z ≤ 7) : Sp (d + 6) 78 h [.ref 0, .int (nJ c), .int (nJ z), .int (nJ t)] (fun h' r => (∃ v : Int32, r = some (.int v)) ∧ gi h' 15 6 = nJ (wna true (gn h 15 6))) := by
  obtain ⟨a1, a2, a3, a4, a5, a6⟩ := g15 hh
  refine Sp_of aiX8_actAndCountLost rfl rfl rfl ?_
  have L0 : pm_get (lv_args 0 [.ref 0, .int (nJ c), .int (nJ z), .int (nJ t)]) 0 = some (.ref 0) := rfl
  have L1 : pm_get (lv_args 0 [.ref 0, .int (nJ c), .int (nJ z), .int (nJ t)]) 1 = some (.int (nJ c)) := rfl
  have L2 : pm_get (lv_args 0 [.ref 0, .int (nJ c), .int (nJ z), .int (nJ t)]) 2 = some (.int (nJ z)) := rfl
  have L3 : pm_get (lv_args 0 [.ref 0, .int (nJ c), .int (nJ z), .int (nJ t)]) 3 = some (.int (nJ t)) := rfl
  generalize lv_args 0 [.ref 0, .int (nJ c), .int (nJ z), .int (nJ t)] = lv at L0 L1 L2 L3 ⊢
  unfold wna
  dsimp only [cond_true]
  refine E_al rfl L0 ?_
  refine E_ogr (q := 15) rfl hh rfl rfl ?_
  refine E_ogf (q := (0, 20)) rfl hh rfl rfl a5 ?_
  refine E_ci 20 rfl (by decide) ?_
  by_cases b : gn h 15 6 < 20
  · refine E_icT rfl (decide_eq_true ((nJ_lt (by omega) (by omega)).mpr b)) ?_
    rw [if_pos b]
    refine E_al rfl L0 ?_
    refine E_ogr (q := 15) rfl hh rfl rfl ?_
    refine E_il rfl L1 ?_
    refine E_il rfl L2 ?_
    refine E_il rfl L3 ?_
    refine E_call rfl (Sp_le (by omega) (sp_addAct (d := d) hh c7 z8 t1 hz a5 b)) (chkO (a := 15) hh rfl rfl rfl rfl (by show 0 ≤ 8; decide)) (fun h1 r1 => ?_)
    rintro ⟨e1, hh1, f1, g1⟩
    rw [e1]
    refine E_al rfl L0 ?_
    refine E_call rfl (Sp_le (by omega) (Sp_sum (as := [.ref 0]) q137 hh1 ⟨rfl, trivial⟩ (fun _ hq => absurd hq List.not_mem_nil) (fun _ hq => absurd hq List.not_mem_nil))) (chkO (a := 0) hh1 rfl rfl rfl rfl (by show 0 ≤ 8; decide)) (fun h2 r2 => ?_)
    rintro ⟨hh2, f2, C2, hC2, -, -, -, rv2⟩
    have e2 : r2 = none := by have e := List.mem_singleton.mp hC2; subst e; cases r2 with | none => rfl | some v => exact rv2.elim
    rw [e2]
    refine E_al rfl L0 ?_
    refine E_ogr (q := 62) rfl hh2 rfl rfl ?_
    refine E_ogf (q := (0, 255)) rfl hh2 rfl rfl rfl ?_
    have bm := (ld_gi hh2 (a := 62) (k := 2) (q := (0, 255)) rfl).2
    refine E_call rfl (Sp_le (by omega) (Sp_sum (as := [.int (gi h2 62 2)]) q607 hh2 ⟨bm, trivial⟩ (fun _ hq => absurd hq List.not_mem_nil) (fun _ hq => absurd hq List.not_mem_nil))) (chkS rfl (by show 0 ≤ 8; decide)) (fun h3 r3 => ?_)
    rintro ⟨hh3, f3, C3, hC3, -, -, -, rv3⟩
    have hC3 : C3 ∈ [([cI 0 255], [], [], some (.inl (cI 2 8))), ([cI 0 255], [], [], some (.inl (cI 1 1))), ([cI 0 255], [], [], some (.inl (cI 0 0)))] := hC3
    obtain ⟨v3, e3⟩ : ∃ x : Int32, r3 = some (.int x) := by
      rcases List.mem_cons.mp hC3 with e | e
      · subst e; exact rv_ci rv3
      · rcases List.mem_cons.mp e with e | e
        · subst e; exact rv_ci rv3
        · have e := List.mem_singleton.mp e; subst e; exact rv_ci rv3
    rw [e3]
    exact E_rti rfl ⟨⟨_, rfl⟩, by rw [fr_gi f3 rfl, fr_gi f2 rfl]; exact g1⟩
  · refine E_icF rfl (decide_eq_false (fun q => b ((nJ_lt (by omega) (by omega)).mp q))) ?_
    rw [if_neg b]
    refine E_c rfl ?_
    exact E_rti rfl ⟨⟨_, rfl⟩, a5⟩
noncomputable def okW (c p : Nat) (x y : Int32) : Bool := decide ((0 ≤ x.toInt ∧ x.toInt < (c : Int)) ∧ 1 ≤ y.toInt ∧ y.toInt ≤ (p : Int))
noncomputable def okT (c : Nat) (x y : Int32) : Bool := decide ((0 ≤ x.toInt ∧ x.toInt < (c : Int)) ∧ (0 ≤ y.toInt ∧ y.toInt < (c : Int)) ∧ ¬ x = y)
theorem sp_wants8 (hh : HH h) : Sp (d + 7) 198 h [.ref 0, .int x, .int y] (fun h' r => (∃ v : Int32, r = some (.int v)) ∧ gi h' 15 6 = nJ (wna (okW (gn h 15 4) (gn h 15 0) x y) (gn h 15 6))) := by
  obtain ⟨a1, a2, a3, a4, a5, a6⟩ := g15 hh
  refine Sp_of aiX8_wants rfl rfl rfl ?_
  have L0 : pm_get (lv_args 0 [.ref 0, .int x, .int y]) 0 = some (.ref 0) := rfl
  have L1 : pm_get (lv_args 0 [.ref 0, .int x, .int y]) 1 = some (.int x) := rfl
  have L2 : pm_get (lv_args 0 [.ref 0, .int x, .int y]) 2 = some (.int y) := rfl
  generalize lv_args 0 [.ref 0, .int x, .int y] = lv at L0 L1 L2 ⊢
  have no : ¬ ((0 ≤ x.toInt ∧ x.toInt < (gn h 15 4 : Int)) ∧ 1 ≤ y.toInt ∧ y.toInt ≤ (gn h 15 0 : Int)) → Ends (pm_at tX8_wants) (pm_Rt pm_P (d + 6)) (16, lv, [], h, 0, 0) (fun h' r => (∃ v : Int32, r = some (.int v)) ∧ gi h' 15 6 = nJ (wna (okW (gn h 15 4) (gn h 15 0) x y) (gn h 15 6))) := by
    intro q
    refine E_c rfl ?_
    exact E_rti rfl ⟨⟨_, rfl⟩, by unfold okW; rw [decide_eq_false q]; exact a5⟩
  refine E_al rfl L0 ?_
  refine E_il rfl L1 ?_
  refine E_call rfl (Sp_le (by omega) (sp_hasCar8 (d := d) hh)) (chkO (a := 0) hh rfl rfl rfl rfl (by show 0 ≤ 8; decide)) (fun h1 r1 => ?_)
  rintro ⟨e1, f1⟩
  rw [e1, f1]
  by_cases b1 : 0 ≤ x.toInt ∧ x.toInt < (gn h 15 4 : Int)
  · refine E_ifF rfl (by rw [zb_T b1]; rfl) ?_
    refine E_al rfl L0 ?_
    refine E_il rfl L2 ?_
    refine E_call rfl (Sp_le (by omega) (sp_hasPlace8 (d := d) hh)) (chkO (a := 0) hh rfl rfl rfl rfl (by show 0 ≤ 8; decide)) (fun h2 r2 => ?_)
    rintro ⟨e2, f2⟩
    rw [e2, f2]
    by_cases b2 : 1 ≤ y.toInt ∧ y.toInt ≤ (gn h 15 0 : Int)
    · refine E_ifT rfl (by rw [zb_T b2]; rfl) ?_
      have ok : okW (gn h 15 4) (gn h 15 0) x y = true := decide_eq_true ⟨b1, b2⟩
      rw [ok]
      obtain ⟨c, hc, rfl⟩ : ∃ c, c ≤ 7 ∧ x = nJ c := ⟨x.toInt.toNat, by omega, nJ_of b1.1⟩
      obtain ⟨z, hz, rfl⟩ : ∃ c, c ≤ 8 ∧ y = nJ c := ⟨y.toInt.toNat, by omega, nJ_of (by omega)⟩
      refine E_al rfl L0 ?_
      refine E_il rfl L1 ?_
      refine E_il rfl L2 ?_
      refine E_ci 0 rfl (by decide) ?_
      refine E_call rfl (sp_actLost (d := d) (t := 0) hh hc hz (by omega) (fun q => absurd rfl q)) (chkO (a := 0) hh rfl rfl rfl rfl (by show 0 ≤ 8; decide)) (fun h3 r3 => ?_)
      rintro ⟨⟨v, e3⟩, g3⟩
      rw [e3]
      exact E_rti rfl ⟨⟨_, rfl⟩, g3⟩
    · refine E_ifF rfl (by rw [zb_F b2]; rfl) ?_
      exact no (fun q => b2 q.2)
  · refine E_ifT rfl (by rw [zb_F b1]; rfl) ?_
    exact no (fun q => b1 q.1)
theorem sp_trades8 (hh : HH h) : Sp (d + 7) 191 h [.ref 0, .int x, .int y] (fun h' r => (∃ v : Int32, r = some (.int v)) ∧ gi h' 15 6 = nJ (wna (okT (gn h 15 4) x y) (gn h 15 6))) := by
  obtain ⟨a1, a2, a3, a4, a5, a6⟩ := g15 hh
  refine Sp_of aiX8_trades rfl rfl rfl ?_
  have L0 : pm_get (lv_args 0 [.ref 0, .int x, .int y]) 0 = some (.ref 0) := rfl
  have L1 : pm_get (lv_args 0 [.ref 0, .int x, .int y]) 1 = some (.int x) := rfl
  have L2 : pm_get (lv_args 0 [.ref 0, .int x, .int y]) 2 = some (.int y) := rfl
  generalize lv_args 0 [.ref 0, .int x, .int y] = lv at L0 L1 L2 ⊢
  refine E_al rfl L0 ?_
  refine E_il rfl L1 ?_
  refine E_il rfl L2 ?_
  refine E_call rfl (Sp_le (by omega) (sp_hasPair8 (d := d) hh)) (chkO (a := 0) hh rfl rfl rfl rfl (by show 0 ≤ 8; decide)) (fun h1 r1 => ?_)
  rintro ⟨e1, f1⟩
  rw [e1, f1]
  by_cases b : (0 ≤ x.toInt ∧ x.toInt < (gn h 15 4 : Int)) ∧ (0 ≤ y.toInt ∧ y.toInt < (gn h 15 4 : Int)) ∧ ¬ x = y
  · refine E_ifT rfl (by rw [zb_T b]; rfl) ?_
    have ok : okT (gn h 15 4) x y = true := decide_eq_true b
    rw [ok]
    obtain ⟨b1, b2, -⟩ := b
    obtain ⟨c, hc, rfl⟩ : ∃ c, c ≤ 7 ∧ x = nJ c := ⟨x.toInt.toNat, by omega, nJ_of b1.1⟩
    obtain ⟨z, hz, rfl⟩ : ∃ c, c ≤ 7 ∧ y = nJ c := ⟨y.toInt.toNat, by omega, nJ_of (by omega)⟩
    refine E_al rfl L0 ?_
    refine E_il rfl L1 ?_
    refine E_il rfl L2 ?_
    refine E_ci 1 rfl (by decide) ?_
    refine E_call rfl (sp_actLost (d := d) (t := 1) hh hc (by omega) (by omega) (fun _ => hz)) (chkO (a := 0) hh rfl rfl rfl rfl (by show 0 ≤ 8; decide)) (fun h3 r3 => ?_)
    rintro ⟨⟨v, e3⟩, g3⟩
    rw [e3]
    exact E_rti rfl ⟨⟨_, rfl⟩, g3⟩
  · refine E_ifF rfl (by rw [zb_F b]; rfl) ?_
    refine E_c rfl ?_
    exact E_rti rfl ⟨⟨_, rfl⟩, by unfold okT; rw [decide_eq_false b]; exact a5⟩
end WN8
/-! the reference -/
noncomputable def lnp (h : pm_H) : Nat := if 0 < (gi h 83 0).toInt then 1 else 0
section AC9
variable {h : pm_H} {d : Nat} {x y : Int32}
theorem g84 (hh : HH h) : gi h 84 5 = nJ (gn h 84 5) ∧ gn h 84 5 ≤ 20 ∧ gn h 84 3 ≤ 8 ∧ gn h 84 0 ≤ 8 := ⟨gi_gn hh rfl (by decide), gn_hi hh rfl (by decide), gn_hi hh rfl (by decide), gn_hi hh rfl (by decide)⟩
theorem sp_undo9 (hh : HH h) : Sp (d + 2) 366 h [.ref 77] (fun h' r => r = some (.int (udv (lnp h) (gn h 84 5))) ∧ HH h' ∧ fr_g [(77, 0, 0), (84, 5, 5)] h h' ∧ gi h' 84 5 = nJ (uda (lnp h) (gn h 84 5))) := by
  obtain ⟨a5, a6, -⟩ := g84 hh
  refine Sp_of aiX9_undo rfl rfl rfl ?_
  have L0 : pm_get (lv_args 0 [.ref 77]) 0 = some (.ref 77) := rfl
  generalize lv_args 0 [.ref 77] = lv at L0 ⊢
  refine E_al rfl L0 ?_
  refine E_ci 0 rfl (by decide) ?_
  refine E_pf rfl hh rfl ?_
  have hg : HH (pt h 77 0 (nJ 0)) := HH_ptn hh rfl (by omega) (by omega) (by omega)
  have F : fr_g [(77, 0, 0), (84, 5, 5)] h (pt h 77 0 (nJ 0)) := fr_ptr (l := 0) (u := 0) rfl (by omega) (by omega) (fr_rf _ _)
  have g5 : gi (pt h 77 0 (nJ 0)) 84 5 = nJ (gn h 84 5) := by rw [gi_ne (by omega)]; exact a5
  have g83 : gi (pt h 77 0 (nJ 0)) 83 0 = gi h 83 0 := gi_ne (by omega)
  generalize pt h 77 0 (nJ 0) = g at hg F g5 g83 ⊢
  unfold udv uda lnp
  refine E_al rfl L0 ?_
  refine E_call rfl (sp_isStreet (d := d) hg) (chk77 hg rfl rfl (by show 0 ≤ 8; decide)) (fun h1 r1 => ?_)
  rintro ⟨e1, f1⟩
  rw [e1, f1, g83]
  by_cases b : 0 < (gi h 83 0).toInt
  · refine E_ifT rfl (by rw [zb_T b]; rfl) ?_
    rw [if_pos b, if_neg (show ¬ (1 : Nat) = 0 by decide), if_neg (show ¬ (1 : Nat) = 0 by decide)]
    refine E_al rfl L0 ?_
    refine E_gr rfl hg (q := 84) rfl ?_
    refine E_ci 5 rfl (by decide) ?_
    refine E_ial rfl hg rfl (by omega) (by decide) g5 ?_
    by_cases b2 : gn h 84 5 = 0
    · refine E_ifF rfl (decide_eq_false (fun q => q ((nJ_eq0 (by omega)).mpr b2))) ?_
      refine E_c rfl ?_
      exact E_rti rfl ⟨by rw [if_pos b2], hg, F, by rw [g5, b2]⟩
    refine E_ifT rfl (decide_eq_true (fun q => b2 ((nJ_eq0 (by omega)).mp q))) ?_
    rw [if_neg b2]
    refine E_al rfl L0 ?_
    refine E_gr rfl hg (q := 84) rfl ?_
    refine E_ci 5 rfl (by decide) ?_
    refine E_dup2 rfl rfl rfl ?_
    refine E_ial rfl hg rfl (by omega) (by decide) g5 ?_
    refine E_ci 1 rfl (by decide) ?_
    refine E_bin rfl (nJ_sub (by omega)) ?_
    refine E_ias rfl hg rfl (by omega) (by decide) ?_
    have h2 : HH (pt g 84 5 (nJ (gn h 84 5 - 1))) := HH_ptn hg rfl (by omega) (by omega) (by omega)
    have g2 : gi (pt g 84 5 (nJ (gn h 84 5 - 1))) 84 5 = nJ (gn h 84 5 - 1) := gi_ptn hg rfl (by omega) (by omega) (by omega)
    refine E_al rfl L0 ?_
    refine E_gr rfl h2 (q := 84) rfl ?_
    refine E_ci 5 rfl (by decide) ?_
    refine E_ial rfl h2 rfl (by omega) (by decide) g2 ?_
    exact E_rti rfl ⟨rfl, h2, fr_ptr (l := 5) (u := 5) rfl (by omega) (by omega) F, g2⟩
  · refine E_ifF rfl (by rw [zb_F b]; rfl) ?_
    rw [if_neg b, if_pos rfl, if_pos rfl]
    refine E_c rfl ?_
    exact E_rti rfl ⟨rfl, hg, F, g5⟩
theorem sp_anew9 (hh : HH h) : Sp (d + 2) 207 h [.ref 77] (fun h' r => r = some (.int (anv (lnp h) (gn h 84 5))) ∧ HH h' ∧ fr_g [(77, 0, 0), (84, 5, 5)] h h' ∧ gi h' 84 5 = nJ (ana (lnp h) (gn h 84 5))) := by
  obtain ⟨a5, a6, -⟩ := g84 hh
  refine Sp_of aiX9_anew rfl rfl rfl ?_
  have L0 : pm_get (lv_args 0 [.ref 77]) 0 = some (.ref 77) := rfl
  generalize lv_args 0 [.ref 77] = lv at L0 ⊢
  refine E_al rfl L0 ?_
  refine E_ci 0 rfl (by decide) ?_
  refine E_pf rfl hh rfl ?_
  have hg : HH (pt h 77 0 (nJ 0)) := HH_ptn hh rfl (by omega) (by omega) (by omega)
  have F : fr_g [(77, 0, 0), (84, 5, 5)] h (pt h 77 0 (nJ 0)) := fr_ptr (l := 0) (u := 0) rfl (by omega) (by omega) (fr_rf _ _)
  have g5 : gi (pt h 77 0 (nJ 0)) 84 5 = nJ (gn h 84 5) := by rw [gi_ne (by omega)]; exact a5
  have g83 : gi (pt h 77 0 (nJ 0)) 83 0 = gi h 83 0 := gi_ne (by omega)
  generalize pt h 77 0 (nJ 0) = g at hg F g5 g83 ⊢
  unfold anv ana lnp
  refine E_al rfl L0 ?_
  refine E_call rfl (sp_isStreet (d := d) hg) (chk77 hg rfl rfl (by show 0 ≤ 8; decide)) (fun h1 r1 => ?_)
  rintro ⟨e1, f1⟩
  rw [e1, f1, g83]
  by_cases b : 0 < (gi h 83 0).toInt
  · refine E_ifT rfl (by rw [zb_T b]; rfl) ?_
    rw [if_pos b, if_neg (show ¬ (1 : Nat) = 0 by decide), if_neg (show ¬ (1 : Nat) = 0 by decide)]
    refine E_al rfl L0 ?_
    refine E_gr rfl hg (q := 84) rfl ?_
    refine E_ci 5 rfl (by decide) ?_
    refine E_ial rfl hg rfl (by omega) (by decide) g5 ?_
    refine E_is rfl (fun lv1 K1 kp => ?_)
    refine E_al rfl (kp 0 _ (by decide) rfl L0) ?_
    refine E_gr rfl hg (q := 84) rfl ?_
    refine E_ci 5 rfl (by decide) ?_
    refine E_ci 0 rfl (by decide) ?_
    refine E_ias rfl hg rfl (by omega) (by decide) ?_
    have h2 : HH (pt g 84 5 (nJ 0)) := HH_ptn hg rfl (by omega) (by omega) (by omega)
    refine E_il rfl K1 ?_
    exact E_rti rfl ⟨rfl, h2, fr_ptr (l := 5) (u := 5) rfl (by omega) (by omega) F, gi_ptn hg rfl (by omega) (by omega) (by omega)⟩
  · refine E_ifF rfl (by rw [zb_F b]; rfl) ?_
    rw [if_neg b, if_pos rfl, if_pos rfl]
    refine E_c rfl ?_
    exact E_rti rfl ⟨rfl, hg, F, g5⟩
theorem sp_rate9 (hh : HH h) : Sp (d + 3) 329 h [.ref 77, .int x, .int y] (fun h' r => r = some (.int (rtv (gn h 84 3) (gn h 84 5) (fun i => gi h 85 (2 * i + 1)) x y)) ∧ HH h' ∧ fr_g [(77, 0, 0), (85, 1, 15)] h h' ∧ ∀ i, i < 8 → gi h' 85 (2 * i + 1) = rts (gn h 84 3) (gn h 84 5) (fun i => gi h 85 (2 * i + 1)) x y i) := by
  obtain ⟨a5, a6, a3, -⟩ := g84 hh
  refine Sp_of aiX9_rate rfl rfl rfl ?_
  have L0 : pm_get (lv_args 0 [.ref 77, .int x, .int y]) 0 = some (.ref 77) := rfl
  have L1 : pm_get (lv_args 0 [.ref 77, .int x, .int y]) 1 = some (.int x) := rfl
  have L2 : pm_get (lv_args 0 [.ref 77, .int x, .int y]) 2 = some (.int y) := rfl
  generalize lv_args 0 [.ref 77, .int x, .int y] = lv at L0 L1 L2 ⊢
  refine E_al rfl L0 ?_
  refine E_ci 0 rfl (by decide) ?_
  refine E_pf rfl hh rfl ?_
  have hg : HH (pt h 77 0 (nJ 0)) := HH_ptn hh rfl (by omega) (by omega) (by omega)
  have F : fr_g [(77, 0, 0), (85, 1, 15)] h (pt h 77 0 (nJ 0)) := fr_ptr (l := 0) (u := 0) rfl (by omega) (by omega) (fr_rf _ _)
  have g5 : gi (pt h 77 0 (nJ 0)) 84 5 = nJ (gn h 84 5) := by rw [gi_ne (by omega)]; exact a5
  have g3 : gn (pt h 77 0 (nJ 0)) 84 3 = gn h 84 3 := gn_ne (by omega)
  have g85 : ∀ k, gi (pt h 77 0 (nJ 0)) 85 k = gi h 85 k := fun k => gi_ne (by omega)
  generalize pt h 77 0 (nJ 0) = g at hg F g5 g3 g85 ⊢
  have no : ¬ ((0 ≤ x.toInt ∧ x.toInt < (gn h 84 3 : Int)) ∧ 0 ≤ y.toInt ∧ y.toInt ≤ 99) → Ends (pm_at tX9_rate) (pm_Rt pm_P (d + 2)) (26, lv, [], g, 0, 0) (fun h' r => r = some (.int (rtv (gn h 84 3) (gn h 84 5) (fun i => gi h 85 (2 * i + 1)) x y)) ∧ HH h' ∧ fr_g [(77, 0, 0), (85, 1, 15)] h h' ∧ ∀ i, i < 8 → gi h' 85 (2 * i + 1) = rts (gn h 84 3) (gn h 84 5) (fun i => gi h 85 (2 * i + 1)) x y i) := by
    intro q
    refine E_c rfl ?_
    exact E_rti rfl ⟨by unfold rtv; rw [if_neg q], hg, F, fun i _ => by unfold rts; rw [if_neg (fun z => q z.1)]; exact g85 _⟩
  refine E_al rfl L0 ?_
  refine E_il rfl L1 ?_
  refine E_i2l rfl ?_
  refine E_call rfl (sp_isCar (d := d) hg) (chk77 hg rfl rfl (by show 0 ≤ 8; decide)) (fun h1 r1 => ?_)
  rintro ⟨e1, f1⟩
  rw [e1, f1, g3]
  by_cases b1 : 0 ≤ x.toInt ∧ x.toInt ≤ (gn h 84 3 : Int) - 1
  · refine E_ifF rfl (by rw [zb_T b1]; rfl) ?_
    refine E_il rfl L2 ?_
    refine E_i2l rfl ?_
    refine E_c rfl ?_
    refine E_c rfl ?_
    refine E_call rfl (sp_in (a := y.toInt) (b := 0) (c := 99) (i2l_toInt _) rfl rfl) (chkS rfl (by show 0 ≤ 8; decide)) (fun h2 r2 => ?_)
    rintro ⟨e2, f2⟩
    rw [e2, f2]
    by_cases b2 : 0 ≤ y.toInt ∧ y.toInt ≤ 99
    · refine E_ifT rfl (by rw [zb_T b2]; rfl) ?_
      obtain ⟨c, hc, rfl⟩ : ∃ c, c < 8 ∧ x = nJ c := ⟨x.toInt.toNat, by omega, nJ_of b1.1⟩
      have xc := nJ_toInt (n := c) (by omega)
      have ec : (nJ c).toInt.toNat = c := by omega
      have ok : (0 ≤ (nJ c).toInt ∧ (nJ c).toInt < (gn h 84 3 : Int)) ∧ 0 ≤ y.toInt ∧ y.toInt ≤ 99 := ⟨by omega, b2⟩
      refine E_al rfl L0 ?_
      refine E_gr rfl hg (q := 84) rfl ?_
      refine E_ci 5 rfl (by decide) ?_
      refine E_ial rfl hg rfl (by omega) (by decide) g5 ?_
      by_cases b4 : gn h 84 5 = 0
      · refine E_ifT rfl (decide_eq_true ((nJ_le0 (by omega)).mpr b4)) ?_
        refine E_al rfl L0 ?_
        refine E_gr rfl hg (q := 85) rfl ?_
        refine E_ci 2 rfl (by decide) ?_
        refine E_il rfl L1 ?_
        refine E_bin rfl (nJ_mul _ _) ?_
        refine E_ci 1 rfl (by decide) ?_
        refine E_bin rfl (nJ_add _ _) ?_
        refine E_ial rfl hg rfl (by omega) (by decide) (g85 (2 * c + 1)) ?_
        refine E_is rfl (fun lv1 K3 kp => ?_)
        refine E_al rfl (kp 0 _ (by decide) rfl L0) ?_
        refine E_gr rfl hg (q := 85) rfl ?_
        refine E_ci 2 rfl (by decide) ?_
        refine E_il rfl (kp 1 _ (by decide) rfl L1) ?_
        refine E_bin rfl (nJ_mul _ _) ?_
        refine E_ci 1 rfl (by decide) ?_
        refine E_bin rfl (nJ_add _ _) ?_
        refine E_il rfl (kp 2 _ (by decide) rfl L2) ?_
        refine E_ias rfl hg rfl (by omega) (by decide) ?_
        refine E_il rfl K3 ?_
        have b85 : bd 85 (2 * c + 1) = some (0, 99) := bd_85o (by omega) (by omega)
        refine E_rti rfl ⟨by unfold rtv; rw [if_pos ok, if_pos b4, ec], HH_pt hg b85 (by show (0 : Int) ≤ _; omega) (by show _ ≤ (99 : Int); omega), fr_ptr (l := 1) (u := 15) rfl (by omega) (by omega) F, fun i hi => ?_⟩
        unfold rts
        rw [ec]
        by_cases e : i = c
        · rw [if_pos ⟨ok, b4, e⟩, e]
          exact gi_pt hg b85 (by show (0 : Int) ≤ _; omega) (by show _ ≤ (99 : Int); omega)
        · rw [if_neg (fun z => e z.2.2), gi_ne (by omega)]
          exact g85 _
      · refine E_ifF rfl (decide_eq_false (fun z => b4 ((nJ_le0 (by omega)).mp z))) ?_
        refine E_c rfl ?_
        exact E_rti rfl ⟨by unfold rtv; rw [if_pos ok, if_neg b4], hg, F, fun i _ => by unfold rts; rw [if_neg (fun z => b4 z.2.1)]; exact g85 _⟩
    · refine E_ifF rfl (by rw [zb_F b2]; rfl) ?_
      exact no (fun q => b2 q.2)
  · refine E_ifT rfl (by rw [zb_F b1]; rfl) ?_
    exact no (fun q => b1 (by omega))
end AC9
end
section
/-! acts of the class, exactly (written by gen_u56.py; wants t56, t57, u55) -/
section AX8
variable {h : pm_H} {d : Nat} {x y : Int32}
theorem sp_doActX {i : Nat} (hh : HH h) (hi : i < 20) (hx : ¬ gi h 23 i = 0 → gn h 22 i ≤ 7) : Sp (d + 1) 51 h [.ref 15, .int (nJ i)] (fun h' r => r = none ∧ HH h' ∧ fr_g [(17, 0, 7)] h h' ∧ gn h' 17 = dAct (gn h 21) (gn h 22) (gn h 23) i (gn h 17)) := by
  have z3 := gn_eq0 hh (a := 23) (k := i) (bd_u rfl hi) (by decide)
  have c1 : gi h 21 i = nJ (gn h 21 i) := gi_gn hh (bd_u rfl hi) (by decide)
  have c2 : gn h 21 i ≤ 7 := gn_hi hh (bd_u rfl hi) (by decide)
  have x1 : gi h 22 i = nJ (gn h 22 i) := gi_gn hh (bd_u rfl hi) (by decide)
  have x2 : gn h 22 i ≤ 8 := gn_hi hh (bd_u rfl hi) (by decide)
  refine Sp_of aiX5_doAct rfl rfl rfl ?_
  have L0 : pm_get (lv_args 0 [.ref 15, .int (nJ i)]) 0 = some (.ref 15) := rfl
  have L1 : pm_get (lv_args 0 [.ref 15, .int (nJ i)]) 1 = some (.int (nJ i)) := rfl
  generalize lv_args 0 [.ref 15, .int (nJ i)] = lv at L0 L1 ⊢
  refine E_al rfl L0 ?_
  refine E_ogr (q := 21) rfl hh rfl rfl ?_
  refine E_il rfl L1 ?_
  refine E_ial rfl hh rfl hi (by decide) c1 ?_
  refine E_is rfl (fun lv1 K2 kp1 => ?_)
  refine E_al rfl (kp1 0 _ (by decide) rfl L0) ?_
  refine E_ogr (q := 22) rfl hh rfl rfl ?_
  refine E_il rfl (kp1 1 _ (by decide) rfl L1) ?_
  refine E_ial rfl hh rfl hi (by decide) x1 ?_
  refine E_is rfl (fun lv2 K3 kp2 => ?_)
  have M0 := kp2 0 _ (by decide) rfl (kp1 0 _ (by decide) rfl L0)
  have M1 := kp2 1 _ (by decide) rfl (kp1 1 _ (by decide) rfl L1)
  have M2 := kp2 2 _ (by decide) rfl K2
  refine E_al rfl M0 ?_
  refine E_ogr (q := 23) rfl hh rfl rfl ?_
  refine E_il rfl M1 ?_
  refine E_zalB rfl hh rfl hi (by decide) rfl ?_
  have b17 : ∀ k, k ≤ 7 → bd 17 k = some (0, 8) := fun k hk => bd_u rfl (by omega)
  by_cases b : gi h 23 i = 0
  · refine E_ifT rfl (decide_eq_true b) ?_
    refine E_al rfl M0 ?_
    refine E_ogr (q := 17) rfl hh rfl rfl ?_
    refine E_il rfl M2 ?_
    refine E_il rfl K3 ?_
    refine E_ias rfl hh rfl (by omega) (by decide) ?_
    exact E_ret rfl ⟨rfl, HH_ptn hh (b17 _ c2) (by omega) (by omega) (by omega), fr_ptr (l := 0) (u := 7) rfl (by omega) (by omega) (fr_rf _ _), by unfold dAct; rw [if_pos (z3.mp b), gn_fup hh (b17 _ c2) (by omega) (by omega) (by omega)]⟩
  · have x7 := hx b
    refine E_ifF rfl (decide_eq_false b) ?_
    have n1 : gi h 17 (gn h 21 i) = nJ (gn h 17 (gn h 21 i)) := gi_gn hh (b17 _ c2) (by decide)
    have n2 : gn h 17 (gn h 21 i) ≤ 8 := gn_hi hh (b17 _ c2) (by decide)
    have n3 : gi h 17 (gn h 22 i) = nJ (gn h 17 (gn h 22 i)) := gi_gn hh (b17 _ x7) (by decide)
    have n4 : gn h 17 (gn h 22 i) ≤ 8 := gn_hi hh (b17 _ x7) (by decide)
    refine E_al rfl M0 ?_
    refine E_ogr (q := 17) rfl hh rfl rfl ?_
    refine E_il rfl M2 ?_
    refine E_ial rfl hh rfl (by omega) (by decide) n1 ?_
    refine E_is rfl (fun lv3 K4 kp3 => ?_)
    have N0 := kp3 0 _ (by decide) rfl M0
    have N2 := kp3 2 _ (by decide) rfl M2
    have N3 := kp3 3 _ (by decide) rfl K3
    refine E_al rfl N0 ?_
    refine E_ogr (q := 17) rfl hh rfl rfl ?_
    refine E_il rfl N2 ?_
    refine E_al rfl N0 ?_
    refine E_ogr (q := 17) rfl hh rfl rfl ?_
    refine E_il rfl N3 ?_
    refine E_ial rfl hh rfl (by omega) (by decide) n3 ?_
    refine E_ias rfl hh rfl (by omega) (by decide) ?_
    have h1 : HH (pt h 17 (gn h 21 i) (nJ (gn h 17 (gn h 22 i)))) := HH_ptn hh (b17 _ c2) (by omega) (by omega) (by omega)
    refine E_al rfl N0 ?_
    refine E_ogr (q := 17) rfl h1 rfl rfl ?_
    refine E_il rfl N3 ?_
    refine E_il rfl K4 ?_
    refine E_ias rfl h1 rfl (by omega) (by decide) ?_
    refine E_goto rfl ?_
    exact E_ret rfl ⟨rfl, HH_ptn h1 (b17 _ x7) (by omega) (by omega) (by omega), fr_ptr (l := 0) (u := 7) rfl (by omega) (by omega) (fr_ptr (l := 0) (u := 7) rfl (by omega) (by omega) (fr_rf _ _)), by unfold dAct; rw [if_neg (fun q => b (z3.mpr q)), gn_fup h1 (b17 _ x7) (by omega) (by omega) (by omega), gn_fup hh (b17 _ c2) (by omega) (by omega) (by omega)]⟩
theorem ka_twoX {h0 : pm_H} {a m p : Nat} {C G Z t : Nat → Nat} (m8 : m ≤ 8) (ha : a ≤ 20) (v : ∀ i, i < a → vAct m p C G Z i) (j : Nat) : ∀ {h : pm_H} {i : Nat} (lv : List (Nat × Value)), i + j = a → HH h → fr_g KAF h0 h → gi h 15 6 = nJ a → gn h 21 = C → gn h 22 = G → gn h 23 = Z → (∀ j, j < m → gn h 17 j = nwF C G Z t i j) → pm_get lv 0 = some (.ref 15) → pm_get lv 2 = some (.int (nJ i)) → Ends (pm_at tX5_keepActs) (pm_Rt pm_P (d + 1)) (35, lv, [], h, 0, 0) (fun h' r => r = none ∧ HH h' ∧ fr_g KAF h0 h' ∧ gi h' 15 6 = nJ a ∧ ∀ j, j < m → gn h' 17 j = nwF C G Z t a j) := by
  induction j with
  | zero =>
    intro h i lv hj hh hf g6 gC gG gZ hx L0 L2
    refine E_il rfl L2 ?_
    refine E_al rfl L0 ?_
    refine E_ogf (q := (0, 20)) rfl hh rfl rfl g6 ?_
    refine E_icT rfl (decide_eq_true ((nJ_le (by omega) (by omega)).mpr (by omega))) ?_
    have ei : i = a := by omega
    exact E_ret rfl ⟨rfl, hh, hf, g6, fun j hj => by rw [← ei]; exact hx j hj⟩
  | succ j ih =>
    intro h i lv hj hh hf g6 gC gG gZ hx L0 L2
    refine E_il rfl L2 ?_
    refine E_al rfl L0 ?_
    refine E_ogf (q := (0, 20)) rfl hh rfl rfl g6 ?_
    refine E_icF rfl (decide_eq_false (fun q => absurd ((nJ_le (by omega) (by omega)).mp q) (by omega))) ?_
    refine E_al rfl L0 ?_
    refine E_il rfl L2 ?_
    refine E_call rfl (sp_doActX (d := d) hh (by omega) (fun q => by
      have v1 := v i (by omega)
      have z3 := gn_eq0 hh (a := 23) (k := i) (bd_u rfl (by omega)) (by decide)
      rw [gG]
      rw [gZ] at z3
      rcases v1.2 with ⟨z0, -, -⟩ | ⟨-, g1⟩
      · exact absurd (z3.mpr z0) q
      · omega)) (chkO (a := 15) hh rfl rfl rfl rfl (by show 0 ≤ 8; decide)) (fun h1 r1 => ?_)
    rintro ⟨e1, hh1, f1, n1⟩
    rw [gC, gG, gZ] at n1
    rw [e1]
    refine E_inc rfl L2 (nJ_inc _) (fun lv1 K2 kp => ?_)
    refine E_goto rfl ?_
    exact ih lv1 (i := i + 1) (by omega) hh1 (fr_trans hf (fr_wk rfl f1)) (by rw [fr_gi f1 (rg_no rfl _)]; exact g6) (by rw [← gC]; funext k; exact fr_gn f1 (rg_no rfl _)) (by rw [← gG]; funext k; exact fr_gn f1 (rg_no rfl _)) (by rw [← gZ]; funext k; exact fr_gn f1 (rg_no rfl _)) (fun j hj => by rw [n1]; exact dAct_cg rfl rfl rfl (v i (by omega)) hx j hj) (kp 0 _ (by decide) rfl L0) K2
theorem ka_oneX {h0 : pm_H} {a m p : Nat} {C G Z t : Nat → Nat} (m8 : m ≤ 8) (ha : a ≤ 20) (v : ∀ i, i < a → vAct m p C G Z i) (j : Nat) : ∀ {h : pm_H} {i : Nat} (lv : List (Nat × Value)), i + j = m → HH h → fr_g KAF h0 h → gi h 15 4 = nJ m → gi h 15 6 = nJ a → gn h 21 = C → gn h 22 = G → gn h 23 = Z → gn h 16 = t → (∀ j, j < i → gn h 17 j = t j) → pm_get lv 0 = some (.ref 15) → pm_get lv 2 = some (.int (nJ i)) → Ends (pm_at tX5_keepActs) (pm_Rt pm_P (d + 1)) (7, lv, [], h, 0, 0) (fun h' r => r = none ∧ HH h' ∧ fr_g KAF h0 h' ∧ gi h' 15 6 = nJ a ∧ ∀ j, j < m → gn h' 17 j = nwF C G Z t a j) := by
  induction j with
  | zero =>
    intro h i lv hj hh hf g4 g6 gC gG gZ gt hx L0 L2
    refine E_il rfl L2 ?_
    refine E_al rfl L0 ?_
    refine E_ogf (q := (0, 8)) rfl hh rfl rfl g4 ?_
    refine E_icT rfl (decide_eq_true ((nJ_le (by omega) (by omega)).mpr (by omega))) ?_
    refine E_ci 0 rfl (by decide) ?_
    refine E_is rfl (fun lv1 K2 kp => ?_)
    exact ka_twoX m8 ha v a (i := 0) lv1 (by omega) hh hf g6 gC gG gZ (fun j hj => hx j (by omega)) (kp 0 _ (by decide) rfl L0) K2
  | succ j ih =>
    intro h i lv hj hh hf g4 g6 gC gG gZ gt hx L0 L2
    refine E_il rfl L2 ?_
    refine E_al rfl L0 ?_
    refine E_ogf (q := (0, 8)) rfl hh rfl rfl g4 ?_
    refine E_icF rfl (decide_eq_false (fun q => absurd ((nJ_le (by omega) (by omega)).mp q) (by omega))) ?_
    have t1 : gi h 16 i = nJ (gn h 16 i) := gi_gn hh (bd_u rfl (by omega)) (by decide)
    have t2 : gn h 16 i ≤ 8 := gn_hi hh (bd_u rfl (by omega)) (by decide)
    refine E_al rfl L0 ?_
    refine E_ogr (q := 17) rfl hh rfl rfl ?_
    refine E_il rfl L2 ?_
    refine E_al rfl L0 ?_
    refine E_ogr (q := 16) rfl hh rfl rfl ?_
    refine E_il rfl L2 ?_
    refine E_ial rfl hh rfl (by omega) (by decide) t1 ?_
    refine E_ias rfl hh rfl (by omega) (by decide) ?_
    have b17 : bd 17 i = some (0, 8) := bd_u rfl (by omega)
    refine E_inc rfl L2 (nJ_inc _) (fun lv1 K2 kp => ?_)
    refine E_goto rfl ?_
    exact ih lv1 (i := i + 1) (by omega) (HH_ptn hh b17 (by omega) (by omega) (by omega)) (fr_ptr (l := 0) (u := 7) rfl (by omega) (by omega) hf) (by rw [gi_ne (by omega)]; exact g4) (by rw [gi_ne (by omega)]; exact g6) (by rw [← gC]; funext k; exact gn_ne (by omega)) (by rw [← gG]; funext k; exact gn_ne (by omega)) (by rw [← gZ]; funext k; exact gn_ne (by omega)) (by rw [← gt]; funext k; exact gn_ne (by omega)) (fun j hj => by
      rw [gn_fup hh b17 (by omega) (by omega) (by omega)]
      by_cases e : j = i
      · rw [e, fup_s, gt]
      · rw [fup_n e]; exact hx j (by omega)) (kp 0 _ (by decide) rfl L0) K2
theorem sp_keepActsX {a p : Nat} (hh : HH h) (ha : a ≤ 20) (v : ∀ i, i < a → vAct (gn h 15 4) p (gn h 21) (gn h 22) (gn h 23) i) : Sp (d + 2) 53 h [.ref 15, .int (nJ a)] (fun h' r => r = none ∧ HH h' ∧ fr_g KAF h h' ∧ gi h' 15 6 = nJ a ∧ ∀ j, j < gn h 15 4 → gn h' 17 j = nwF (gn h 21) (gn h 22) (gn h 23) (gn h 16) a j) := by
  obtain ⟨-, -, a3, a4, -⟩ := g15 hh
  refine Sp_of aiX5_keepActs rfl rfl rfl ?_
  have L0 : pm_get (lv_args 0 [.ref 15, .int (nJ a)]) 0 = some (.ref 15) := rfl
  have L1 : pm_get (lv_args 0 [.ref 15, .int (nJ a)]) 1 = some (.int (nJ a)) := rfl
  generalize lv_args 0 [.ref 15, .int (nJ a)] = lv at L0 L1 ⊢
  refine E_al rfl L0 ?_
  refine E_il rfl L1 ?_
  refine E_opf (q := (0, 20)) rfl hh rfl rfl ?_
  have h1 : HH (pt h 15 6 (nJ a)) := HH_ptn hh rfl (by omega) (by omega) (by omega)
  refine E_ci 0 rfl (by decide) ?_
  refine E_is rfl (fun lv1 K2 kp => ?_)
  exact ka_oneX (d := d) (p := p) a4 ha v (gn h 15 4) (i := 0) lv1 (by omega) h1 (fr_ptr (l := 6) (u := 6) rfl (by omega) (by omega) (fr_rf _ _)) (by rw [gi_ne (by omega)]; exact a3) (gi_ptn hh rfl (by omega) (by omega) (by omega)) (by funext k; exact gn_ne (by omega)) (by funext k; exact gn_ne (by omega)) (by funext k; exact gn_ne (by omega)) (by funext k; exact gn_ne (by omega)) (fun j hj => absurd hj (Nat.not_lt_zero j)) (kp 0 _ (by decide) rfl L0) K2
theorem sp_undo8X {p : Nat} (hh : HH h) (v : ∀ i, i < gn h 15 6 → vAct (gn h 15 4) p (gn h 21) (gn h 22) (gn h 23) i) (N : ∀ j, j < gn h 15 4 → gn h 17 j = nwF (gn h 21) (gn h 22) (gn h 23) (gn h 16) (gn h 15 6) j) : Sp (d + 3) 195 h [.ref 0] (fun h' r => r = some (.int (udv (gn h 15 0) (gn h 15 6))) ∧ gi h' 15 6 = nJ (uda (gn h 15 0) (gn h 15 6)) ∧ fr_g KAF h h' ∧ (∀ j, j < gn h 15 4 → gn h' 17 j = nwF (gn h 21) (gn h 22) (gn h 23) (gn h 16) (uda (gn h 15 0) (gn h 15 6)) j)) := by
  obtain ⟨a1, a2, a3, a4, a5, a6⟩ := g15 hh
  refine Sp_of aiX8_undo rfl rfl rfl ?_
  have L0 : pm_get (lv_args 0 [.ref 0]) 0 = some (.ref 0) := rfl
  generalize lv_args 0 [.ref 0] = lv at L0 ⊢
  unfold udv uda
  refine E_al rfl L0 ?_
  refine E_call rfl (Sp_le (by omega) (sp_hasStreet8 (d := d) hh)) (chkO (a := 0) hh rfl rfl rfl rfl (by show 0 ≤ 8; decide)) (fun h1 r1 => ?_)
  rintro ⟨e1, f1⟩
  rw [e1, f1]
  by_cases b : gn h 15 0 = 0
  · refine E_ifF rfl (by rw [zb_F (by omega)]; rfl) ?_
    refine E_c rfl ?_
    exact E_rti rfl ⟨by rw [if_pos b], by rw [if_pos b]; exact a5, fr_rf _ _, by rw [if_pos b]; exact N⟩
  refine E_ifT rfl (by rw [zb_T (by omega)]; rfl) ?_
  rw [if_neg b, if_neg b]
  refine E_al rfl L0 ?_
  refine E_ogr (q := 15) rfl hh rfl rfl ?_
  refine E_ogf (q := (0, 20)) rfl hh rfl rfl a5 ?_
  by_cases b2 : gn h 15 6 = 0
  · refine E_ifF rfl (decide_eq_false (fun q => q ((nJ_eq0 (by omega)).mpr b2))) ?_
    refine E_c rfl ?_
    exact E_rti rfl ⟨by rw [if_pos b2], by rw [a5, b2], fr_rf _ _, by rw [b2] at N ⊢; exact N⟩
  refine E_ifT rfl (decide_eq_true (fun q => b2 ((nJ_eq0 (by omega)).mp q))) ?_
  rw [if_neg b2]
  refine E_al rfl L0 ?_
  refine E_ogr (q := 15) rfl hh rfl rfl ?_
  refine E_al rfl L0 ?_
  refine E_ogr (q := 15) rfl hh rfl rfl ?_
  refine E_ogf (q := (0, 20)) rfl hh rfl rfl a5 ?_
  refine E_ci 1 rfl (by decide) ?_
  refine E_bin rfl (nJ_sub (by omega)) ?_
  refine E_call rfl (sp_keepActsX (p := p) (d := d) (a := gn h 15 6 - 1) hh (by omega) (fun i hi => v i (by omega))) (chkO (a := 15) hh rfl rfl rfl rfl (by show 0 ≤ 8; decide)) (fun h2 r2 => ?_)
  rintro ⟨e2, hh2, f2, g2, n2⟩
  rw [e2]
  refine E_al rfl L0 ?_
  refine E_ogr (q := 15) rfl hh2 rfl rfl ?_
  refine E_ogf (q := (0, 20)) rfl hh2 rfl rfl g2 ?_
  exact E_rti rfl ⟨rfl, g2, f2, n2⟩
theorem sp_anew8X {p : Nat} (hh : HH h) (N : ∀ j, j < gn h 15 4 → gn h 17 j = nwF (gn h 21) (gn h 22) (gn h 23) (gn h 16) (gn h 15 6) j) : Sp (d + 3) 79 h [.ref 0] (fun h' r => r = some (.int (anv (gn h 15 0) (gn h 15 6))) ∧ gi h' 15 6 = nJ (ana (gn h 15 0) (gn h 15 6)) ∧ fr_g KAF h h' ∧ (∀ j, j < gn h 15 4 → gn h' 17 j = nwF (gn h 21) (gn h 22) (gn h 23) (gn h 16) (ana (gn h 15 0) (gn h 15 6)) j)) := by
  obtain ⟨a1, a2, a3, a4, a5, a6⟩ := g15 hh
  refine Sp_of aiX8_anew rfl rfl rfl ?_
  have L0 : pm_get (lv_args 0 [.ref 0]) 0 = some (.ref 0) := rfl
  generalize lv_args 0 [.ref 0] = lv at L0 ⊢
  unfold anv ana
  refine E_al rfl L0 ?_
  refine E_call rfl (Sp_le (by omega) (sp_hasStreet8 (d := d) hh)) (chkO (a := 0) hh rfl rfl rfl rfl (by show 0 ≤ 8; decide)) (fun h1 r1 => ?_)
  rintro ⟨e1, f1⟩
  rw [e1, f1]
  by_cases b : gn h 15 0 = 0
  · refine E_ifF rfl (by rw [zb_F (by omega)]; rfl) ?_
    refine E_c rfl ?_
    exact E_rti rfl ⟨by rw [if_pos b], by rw [if_pos b]; exact a5, fr_rf _ _, by rw [if_pos b]; exact N⟩
  refine E_ifT rfl (by rw [zb_T (by omega)]; rfl) ?_
  rw [if_neg b, if_neg b]
  refine E_al rfl L0 ?_
  refine E_ogr (q := 15) rfl hh rfl rfl ?_
  refine E_ogf (q := (0, 20)) rfl hh rfl rfl a5 ?_
  refine E_is rfl (fun lv1 K1 kp => ?_)
  refine E_al rfl (kp 0 _ (by decide) rfl L0) ?_
  refine E_ogr (q := 15) rfl hh rfl rfl ?_
  refine E_ci 0 rfl (by decide) ?_
  refine E_call rfl (sp_keepActsX (d := d) (a := 0) (p := p) hh (by omega) (fun i hi => absurd hi (Nat.not_lt_zero i))) (chkO (a := 15) hh rfl rfl rfl rfl (by show 0 ≤ 8; decide)) (fun h2 r2 => ?_)
  rintro ⟨e2, hh2, f2, g2, n2⟩
  rw [e2]
  refine E_il rfl K1 ?_
  exact E_rti rfl ⟨rfl, g2, f2, n2⟩
/-- an act more -/
noncomputable def ADD (h h' : pm_H) (a c z t : Nat) : Prop := gi h' 15 6 = nJ (a + 1) ∧ gn h' 21 = fup (gn h 21) a c ∧ gn h' 22 = fup (gn h 22) a z ∧ gn h' 23 = fup (gn h 23) a t ∧ gn h' 17 = dAct (fup (gn h 21) a c) (fup (gn h 22) a z) (fup (gn h 23) a t) a (gn h 17)
noncomputable def NOA (h h' : pm_H) : Prop := gi h' 15 6 = gi h 15 6 ∧ gn h' 21 = gn h 21 ∧ gn h' 22 = gn h 22 ∧ gn h' 23 = gn h 23 ∧ gn h' 17 = gn h 17
noncomputable def WX (ok : Bool) (h h' : pm_H) (a c z t : Nat) : Prop := (ok = true ∧ a < 20 → ADD h h' a c z t) ∧ (¬ (ok = true ∧ a < 20) → NOA h h')
theorem NOA_rf : NOA h h := ⟨rfl, rfl, rfl, rfl, rfl⟩
theorem WX_no {ok : Bool} {a c z t : Nat} (e : ¬ (ok = true ∧ a < 20)) : WX ok h h a c z t := ⟨fun q => absurd q e, fun _ => NOA_rf⟩
theorem sp_addActX {c z t a : Nat} (hh : HH h) (c7 : c ≤ 7) (z8 : z ≤ 8) (t1 : t ≤ 1) (hz : t ≠ 0 → z ≤ 7) (g6 : gi h 15 6 = nJ a) (a20 : a < 20) : Sp (d + 2) 47 h [.ref 15, .int (nJ c), .int (nJ z), .int (nJ t)] (fun h' r => r = none ∧ HH h' ∧ fr_g AAF h h' ∧ ADD h h' a c z t) := by
  refine Sp_of aiX5_addAct rfl rfl rfl ?_
  have L0 : pm_get (lv_args 0 [.ref 15, .int (nJ c), .int (nJ z), .int (nJ t)]) 0 = some (.ref 15) := rfl
  have L1 : pm_get (lv_args 0 [.ref 15, .int (nJ c), .int (nJ z), .int (nJ t)]) 1 = some (.int (nJ c)) := rfl
  have L2 : pm_get (lv_args 0 [.ref 15, .int (nJ c), .int (nJ z), .int (nJ t)]) 2 = some (.int (nJ z)) := rfl
  have L3 : pm_get (lv_args 0 [.ref 15, .int (nJ c), .int (nJ z), .int (nJ t)]) 3 = some (.int (nJ t)) := rfl
  generalize lv_args 0 [.ref 15, .int (nJ c), .int (nJ z), .int (nJ t)] = lv at L0 L1 L2 L3 ⊢
  have tt := nJ_toInt (n := t) (by omega)
  refine E_al rfl L0 ?_
  refine E_ogf (q := (0, 20)) rfl hh rfl rfl g6 ?_
  refine E_ci 20 rfl (by decide) ?_
  refine E_icF rfl (decide_eq_false (fun q => absurd ((nJ_le (by omega) (by omega)).mp q) (by omega))) ?_
  have b1 : bd 21 a = some (0, 7) := bd_u rfl a20
  have b2 : bd 22 a = some (0, 8) := bd_u rfl a20
  have b3 : bd 23 a = some (0, 1) := bd_u rfl a20
  have h1 : HH (pt h 21 a (nJ c)) := HH_ptn hh b1 (by omega) (by omega) (by omega)
  have h2 : HH (pt (pt h 21 a (nJ c)) 22 a (nJ z)) := HH_ptn h1 b2 (by omega) (by omega) (by omega)
  have h3 : HH (pt (pt (pt h 21 a (nJ c)) 22 a (nJ z)) 23 a (nJ t)) := HH_ptn h2 b3 (by omega) (by omega) (by omega)
  refine E_al rfl L0 ?_
  refine E_ogr (q := 21) rfl hh rfl rfl ?_
  refine E_al rfl L0 ?_
  refine E_ogf (q := (0, 20)) rfl hh rfl rfl g6 ?_
  refine E_il rfl L1 ?_
  refine E_ias rfl hh rfl a20 (by decide) ?_
  refine E_al rfl L0 ?_
  refine E_ogr (q := 22) rfl h1 rfl rfl ?_
  refine E_al rfl L0 ?_
  refine E_ogf (q := (0, 20)) (v := nJ a) rfl h1 rfl rfl (by rw [gi_ne (by omega)]; exact g6) ?_
  refine E_il rfl L2 ?_
  refine E_ias rfl h1 rfl a20 (by decide) ?_
  refine E_al rfl L0 ?_
  refine E_ogr (q := 23) rfl h2 rfl rfl ?_
  refine E_al rfl L0 ?_
  refine E_ogf (q := (0, 20)) (v := nJ a) rfl h2 rfl rfl (by rw [gi_ne (by omega), gi_ne (by omega)]; exact g6) ?_
  refine E_il rfl L3 ?_
  refine E_zasB rfl h2 rfl a20 (by decide) (nar_z (by omega) (by omega)) ?_
  have g3 : gi (pt (pt (pt h 21 a (nJ c)) 22 a (nJ z)) 23 a (nJ t)) 15 6 = nJ a := by rw [gi_ne (by omega), gi_ne (by omega), gi_ne (by omega)]; exact g6
  have q3 : gi (pt (pt (pt h 21 a (nJ c)) 22 a (nJ z)) 23 a (nJ t)) 23 a = nJ t := gi_ptn h2 b3 (by omega) (by omega) (by omega)
  have q2 : gn (pt (pt (pt h 21 a (nJ c)) 22 a (nJ z)) 23 a (nJ t)) 22 a = z := by rw [gn_ne (by omega)]; exact gn_ptn h1 b2 (by omega) (by omega) (by omega)
  have F3 : fr_g AAF h (pt (pt (pt h 21 a (nJ c)) 22 a (nJ z)) 23 a (nJ t)) := fr_ptr (l := 0) (u := 19) rfl (by omega) (by omega) (fr_ptr (l := 0) (u := 19) rfl (by omega) (by omega) (fr_ptr (l := 0) (u := 19) rfl (by omega) (by omega) (fr_rf _ _)))
  have w1 : gn (pt (pt (pt h 21 a (nJ c)) 22 a (nJ z)) 23 a (nJ t)) 21 = fup (gn h 21) a c := by rw [← gn_fup hh b1 (by omega) (by omega) (by omega)]; funext k; rw [gn_ne (by omega), gn_ne (by omega)]
  have w2 : gn (pt (pt (pt h 21 a (nJ c)) 22 a (nJ z)) 23 a (nJ t)) 22 = fup (gn h 22) a z := by
    have e : gn (pt h 21 a (nJ c)) 22 = gn h 22 := by funext k; exact gn_ne (by omega)
    rw [← e, ← gn_fup h1 b2 (by omega) (by omega) (by omega)]; funext k; rw [gn_ne (by omega)]
  have w3 : gn (pt (pt (pt h 21 a (nJ c)) 22 a (nJ z)) 23 a (nJ t)) 23 = fup (gn h 23) a t := by
    have e : gn (pt (pt h 21 a (nJ c)) 22 a (nJ z)) 23 = gn h 23 := by funext k; rw [gn_ne (by omega), gn_ne (by omega)]
    rw [← e, ← gn_fup h2 b3 (by omega) (by omega) (by omega)]
  have w4 : gn (pt (pt (pt h 21 a (nJ c)) 22 a (nJ z)) 23 a (nJ t)) 17 = gn h 17 := by funext k; rw [gn_ne (by omega), gn_ne (by omega), gn_ne (by omega)]
  generalize pt (pt (pt h 21 a (nJ c)) 22 a (nJ z)) 23 a (nJ t) = g at h3 g3 q3 q2 F3 w1 w2 w3 w4 ⊢
  refine E_al rfl L0 ?_
  refine E_al rfl L0 ?_
  refine E_ogf (q := (0, 20)) rfl h3 rfl rfl g3 ?_
  refine E_call rfl (sp_doActX (d := d) h3 a20 (fun q => by rw [q2]; exact hz (fun e => q (by rw [q3, e]; rfl)))) (chkO (a := 15) h3 rfl rfl rfl rfl (by show 0 ≤ 8; decide)) (fun h5 r5 => ?_)
  rintro ⟨e5, hh5, f5, n5⟩
  rw [w1, w2, w3, w4] at n5
  rw [e5]
  refine E_al rfl L0 ?_
  refine E_dup rfl rfl ?_
  refine E_ogf (q := (0, 20)) (v := nJ a) rfl hh5 rfl rfl (by rw [fr_gi f5 (rg_no rfl _)]; exact g3) ?_
  refine E_ci 1 rfl (by decide) ?_
  refine E_bin rfl (nJ_add _ _) ?_
  refine E_opf (q := (0, 20)) rfl hh5 rfl rfl ?_
  refine E_ret rfl ⟨rfl, HH_ptn hh5 rfl (by omega) (by omega) (by omega), fr_ptr (l := 6) (u := 6) rfl (by omega) (by omega) (fr_trans F3 (fr_wk rfl f5)), gi_ptn hh5 rfl (by omega) (by omega) (by omega), ?_, ?_, ?_, ?_⟩
  · rw [← w1]; funext k; rw [gn_ne (by omega)]; exact fr_gn f5 (rg_no rfl _)
  · rw [← w2]; funext k; rw [gn_ne (by omega)]; exact fr_gn f5 (rg_no rfl _)
  · rw [← w3]; funext k; rw [gn_ne (by omega)]; exact fr_gn f5 (rg_no rfl _)
  · rw [← n5]; funext k; exact gn_ne (by omega)
theorem sp_actLostX {c z t : Nat} (hh : HH h) (c7 : c ≤ 7) (z8 : z ≤ 8) (t1 : t ≤ 1) (hz : t ≠ 0 → z ≤ 7) : Sp (d + 6) 78 h [.ref 0, .int (nJ c), .int (nJ z), .int (nJ t)] (fun h' r => (∃ v : Int32, r = some (.int v)) ∧ WX true h h' (gn h 15 6) c z t) := by
  obtain ⟨a1, a2, a3, a4, a5, a6⟩ := g15 hh
  refine Sp_of aiX8_actAndCountLost rfl rfl rfl ?_
  have L0 : pm_get (lv_args 0 [.ref 0, .int (nJ c), .int (nJ z), .int (nJ t)]) 0 = some (.ref 0) := rfl
  have L1 : pm_get (lv_args 0 [.ref 0, .int (nJ c), .int (nJ z), .int (nJ t)]) 1 = some (.int (nJ c)) := rfl
  have L2 : pm_get (lv_args 0 [.ref 0, .int (nJ c), .int (nJ z), .int (nJ t)]) 2 = some (.int (nJ z)) := rfl
  have L3 : pm_get (lv_args 0 [.ref 0, .int (nJ c), .int (nJ z), .int (nJ t)]) 3 = some (.int (nJ t)) := rfl
  generalize lv_args 0 [.ref 0, .int (nJ c), .int (nJ z), .int (nJ t)] = lv at L0 L1 L2 L3 ⊢
  refine E_al rfl L0 ?_
  refine E_ogr (q := 15) rfl hh rfl rfl ?_
  refine E_ogf (q := (0, 20)) rfl hh rfl rfl a5 ?_
  refine E_ci 20 rfl (by decide) ?_
  by_cases b : gn h 15 6 < 20
  · refine E_icT rfl (decide_eq_true ((nJ_lt (by omega) (by omega)).mpr b)) ?_
    refine E_al rfl L0 ?_
    refine E_ogr (q := 15) rfl hh rfl rfl ?_
    refine E_il rfl L1 ?_
    refine E_il rfl L2 ?_
    refine E_il rfl L3 ?_
    refine E_call rfl (Sp_le (by omega) (sp_addActX (d := d) hh c7 z8 t1 hz a5 b)) (chkO (a := 15) hh rfl rfl rfl rfl (by show 0 ≤ 8; decide)) (fun h1 r1 => ?_)
    rintro ⟨e1, hh1, f1, g1⟩
    rw [e1]
    refine E_al rfl L0 ?_
    refine E_call rfl (Sp_le (by omega) (Sp_sum (as := [.ref 0]) q137 hh1 ⟨rfl, trivial⟩ (fun _ hq => absurd hq List.not_mem_nil) (fun _ hq => absurd hq List.not_mem_nil))) (chkO (a := 0) hh1 rfl rfl rfl rfl (by show 0 ≤ 8; decide)) (fun h2 r2 => ?_)
    rintro ⟨hh2, f2, C2, hC2, -, -, -, rv2⟩
    have e2 : r2 = none := by have e := List.mem_singleton.mp hC2; subst e; cases r2 with | none => rfl | some v => exact rv2.elim
    rw [e2]
    refine E_al rfl L0 ?_
    refine E_ogr (q := 62) rfl hh2 rfl rfl ?_
    refine E_ogf (q := (0, 255)) rfl hh2 rfl rfl rfl ?_
    have bm := (ld_gi hh2 (a := 62) (k := 2) (q := (0, 255)) rfl).2
    refine E_call rfl (Sp_le (by omega) (Sp_sum (as := [.int (gi h2 62 2)]) q607 hh2 ⟨bm, trivial⟩ (fun _ hq => absurd hq List.not_mem_nil) (fun _ hq => absurd hq List.not_mem_nil))) (chkS rfl (by show 0 ≤ 8; decide)) (fun h3 r3 => ?_)
    rintro ⟨hh3, f3, C3, hC3, -, -, -, rv3⟩
    have hC3 : C3 ∈ [([cI 0 255], [], [], some (.inl (cI 2 8))), ([cI 0 255], [], [], some (.inl (cI 1 1))), ([cI 0 255], [], [], some (.inl (cI 0 0)))] := hC3
    obtain ⟨v3, e3⟩ : ∃ x : Int32, r3 = some (.int x) := by
      rcases List.mem_cons.mp hC3 with e | e
      · subst e; exact rv_ci rv3
      · rcases List.mem_cons.mp e with e | e
        · subst e; exact rv_ci rv3
        · have e := List.mem_singleton.mp e; subst e; exact rv_ci rv3
    rw [e3]
    have k3 : ∀ a k, a ≤ 23 → 15 ≤ a → gi h3 a k = gi h1 a k := fun a k ha hb => by
      rw [fr_gi f3 rfl, fr_gi f2 (rg_no ((show ∀ a : Fin 24, 15 ≤ a.val → S137.2.2.2.2.1.all (fun r => !(Nat.beq r.1 a.val)) = true from by decide) ⟨a, by omega⟩ hb) _)]
    have k4 : ∀ a, a ≤ 23 → 15 ≤ a → gn h3 a = gn h1 a := fun a ha hb => by funext k; unfold gn; rw [k3 a k ha hb]
    obtain ⟨w0, w1, w2, w3, w4⟩ := g1
    exact E_rti rfl ⟨⟨_, rfl⟩, fun _ => ⟨by rw [k3 _ _ (by omega) (by omega)]; exact w0, by rw [k4 _ (by omega) (by omega)]; exact w1, by rw [k4 _ (by omega) (by omega)]; exact w2, by rw [k4 _ (by omega) (by omega)]; exact w3, by rw [k4 _ (by omega) (by omega)]; exact w4⟩, fun q => absurd ⟨rfl, b⟩ q⟩
  · refine E_icF rfl (decide_eq_false (fun q => b ((nJ_lt (by omega) (by omega)).mp q))) ?_
    refine E_c rfl ?_
    exact E_rti rfl ⟨⟨_, rfl⟩, WX_no (fun q => b q.2)⟩
theorem sp_wants8X (hh : HH h) : Sp (d + 7) 198 h [.ref 0, .int x, .int y] (fun h' r => (∃ v : Int32, r = some (.int v)) ∧ WX (okW (gn h 15 4) (gn h 15 0) x y) h h' (gn h 15 6) x.toInt.toNat y.toInt.toNat 0) := by
  obtain ⟨a1, a2, a3, a4, a5, a6⟩ := g15 hh
  refine Sp_of aiX8_wants rfl rfl rfl ?_
  have L0 : pm_get (lv_args 0 [.ref 0, .int x, .int y]) 0 = some (.ref 0) := rfl
  have L1 : pm_get (lv_args 0 [.ref 0, .int x, .int y]) 1 = some (.int x) := rfl
  have L2 : pm_get (lv_args 0 [.ref 0, .int x, .int y]) 2 = some (.int y) := rfl
  generalize lv_args 0 [.ref 0, .int x, .int y] = lv at L0 L1 L2 ⊢
  have no : ¬ ((0 ≤ x.toInt ∧ x.toInt < (gn h 15 4 : Int)) ∧ 1 ≤ y.toInt ∧ y.toInt ≤ (gn h 15 0 : Int)) → Ends (pm_at tX8_wants) (pm_Rt pm_P (d + 6)) (16, lv, [], h, 0, 0) (fun h' r => (∃ v : Int32, r = some (.int v)) ∧ WX (okW (gn h 15 4) (gn h 15 0) x y) h h' (gn h 15 6) x.toInt.toNat y.toInt.toNat 0) := by
    intro q
    refine E_c rfl ?_
    exact E_rti rfl ⟨⟨_, rfl⟩, WX_no (fun z => q (of_decide_eq_true z.1))⟩
  refine E_al rfl L0 ?_
  refine E_il rfl L1 ?_
  refine E_call rfl (Sp_le (by omega) (sp_hasCar8 (d := d) hh)) (chkO (a := 0) hh rfl rfl rfl rfl (by show 0 ≤ 8; decide)) (fun h1 r1 => ?_)
  rintro ⟨e1, f1⟩
  rw [e1, f1]
  by_cases b1 : 0 ≤ x.toInt ∧ x.toInt < (gn h 15 4 : Int)
  · refine E_ifF rfl (by rw [zb_T b1]; rfl) ?_
    refine E_al rfl L0 ?_
    refine E_il rfl L2 ?_
    refine E_call rfl (Sp_le (by omega) (sp_hasPlace8 (d := d) hh)) (chkO (a := 0) hh rfl rfl rfl rfl (by show 0 ≤ 8; decide)) (fun h2 r2 => ?_)
    rintro ⟨e2, f2⟩
    rw [e2, f2]
    by_cases b2 : 1 ≤ y.toInt ∧ y.toInt ≤ (gn h 15 0 : Int)
    · refine E_ifT rfl (by rw [zb_T b2]; rfl) ?_
      have ok : okW (gn h 15 4) (gn h 15 0) x y = true := decide_eq_true ⟨b1, b2⟩
      rw [ok]
      obtain ⟨c, hc, rfl⟩ : ∃ c, c ≤ 7 ∧ x = nJ c := ⟨x.toInt.toNat, by omega, nJ_of b1.1⟩
      obtain ⟨z, hz, rfl⟩ : ∃ c, c ≤ 8 ∧ y = nJ c := ⟨y.toInt.toNat, by omega, nJ_of (by omega)⟩
      refine E_al rfl L0 ?_
      refine E_il rfl L1 ?_
      refine E_il rfl L2 ?_
      refine E_ci 0 rfl (by decide) ?_
      refine E_call rfl (sp_actLostX (d := d) (t := 0) hh hc hz (by omega) (fun q => absurd rfl q)) (chkO (a := 0) hh rfl rfl rfl rfl (by show 0 ≤ 8; decide)) (fun h3 r3 => ?_)
      rintro ⟨⟨v, e3⟩, g3⟩
      rw [e3]
      exact E_rti rfl ⟨⟨_, rfl⟩, by rw [nJ_toInt (by omega), nJ_toInt (by omega)]; exact g3⟩
    · refine E_ifF rfl (by rw [zb_F b2]; rfl) ?_
      exact no (fun q => b2 q.2)
  · refine E_ifT rfl (by rw [zb_F b1]; rfl) ?_
    exact no (fun q => b1 q.1)
theorem sp_trades8X (hh : HH h) : Sp (d + 7) 191 h [.ref 0, .int x, .int y] (fun h' r => (∃ v : Int32, r = some (.int v)) ∧ WX (okT (gn h 15 4) x y) h h' (gn h 15 6) x.toInt.toNat y.toInt.toNat 1) := by
  obtain ⟨a1, a2, a3, a4, a5, a6⟩ := g15 hh
  refine Sp_of aiX8_trades rfl rfl rfl ?_
  have L0 : pm_get (lv_args 0 [.ref 0, .int x, .int y]) 0 = some (.ref 0) := rfl
  have L1 : pm_get (lv_args 0 [.ref 0, .int x, .int y]) 1 = some (.int x) := rfl
  have L2 : pm_get (lv_args 0 [.ref 0, .int x, .int y]) 2 = some (.int y) := rfl
  generalize lv_args 0 [.ref 0, .int x, .int y] = lv at L0 L1 L2 ⊢
  refine E_al rfl L0 ?_
  refine E_il rfl L1 ?_
  refine E_il rfl L2 ?_
  refine E_call rfl (Sp_le (by omega) (sp_hasPair8 (d := d) hh)) (chkO (a := 0) hh rfl rfl rfl rfl (by show 0 ≤ 8; decide)) (fun h1 r1 => ?_)
  rintro ⟨e1, f1⟩
  rw [e1, f1]
  by_cases b : (0 ≤ x.toInt ∧ x.toInt < (gn h 15 4 : Int)) ∧ (0 ≤ y.toInt ∧ y.toInt < (gn h 15 4 : Int)) ∧ ¬ x = y
  · refine E_ifT rfl (by rw [zb_T b]; rfl) ?_
    have ok : okT (gn h 15 4) x y = true := decide_eq_true b
    rw [ok]
    obtain ⟨b1, b2, -⟩ := b
    obtain ⟨c, hc, rfl⟩ : ∃ c, c ≤ 7 ∧ x = nJ c := ⟨x.toInt.toNat, by omega, nJ_of b1.1⟩
    obtain ⟨z, hz, rfl⟩ : ∃ c, c ≤ 7 ∧ y = nJ c := ⟨y.toInt.toNat, by omega, nJ_of (by omega)⟩
    refine E_al rfl L0 ?_
    refine E_il rfl L1 ?_
    refine E_il rfl L2 ?_
    refine E_ci 1 rfl (by decide) ?_
    refine E_call rfl (sp_actLostX (d := d) (t := 1) hh hc (by omega) (by omega) (fun _ => hz)) (chkO (a := 0) hh rfl rfl rfl rfl (by show 0 ≤ 8; decide)) (fun h3 r3 => ?_)
    rintro ⟨⟨v, e3⟩, g3⟩
    rw [e3]
    exact E_rti rfl ⟨⟨_, rfl⟩, by rw [nJ_toInt (by omega), nJ_toInt (by omega)]; exact g3⟩
  · refine E_ifF rfl (by rw [zb_F b]; rfl) ?_
    refine E_c rfl ?_
    exact E_rti rfl ⟨⟨_, rfl⟩, WX_no (fun z => b (of_decide_eq_true z.1))⟩
end AX8
end
section
/-! the reference's does, wants, trades: what they leave (written by gen_t58.py; wants t57) -/
/-- all of the counted places but the acts stay -/
noncomputable def SAM (h h' : pm_H) : Prop := ∀ a k, (a = 83 ∨ a = 85 ∨ (a = 84 ∧ k ≠ 5)) → gi h' a k = gi h a k
theorem sp_doesE {h0 : pm_H} {d kd c x : Nat} (hh0 : HH h0) (hV : RV h0) (hK : gn h0 84 5 < 20) (hkd : kd ≤ 1) (hc7 : c ≤ 7) (hx8 : x ≤ 8) (hcond : (kd = 0 → 1 ≤ x) ∧ (¬ kd = 0 → c < gn h0 84 3 ∧ x < gn h0 84 3)) : Sp (d + 7) 238 h0 [.ref 77, .int (nJ kd), .int (nJ c), .int (nJ x)] (fun h' r => VQ h0 h' r ∧ SAM h0 h' ∧ gi h' 84 5 = nJ (gn h0 84 5 + 1)) := by
  refine Sp_of aiX9_does rfl rfl rfl ?_
  refine E_ci 3 rfl (by decide) ?_
  refine E_al rfl (show pm_get (lv_args 0 [.ref 77, .int (nJ kd), .int (nJ c), .int (nJ x)]) 0 = _ from rfl) ?_
  refine E_gr rfl hh0 (q := 84) rfl ?_
  refine E_ci 5 rfl (by decide) ?_
  have b1 : gn h0 84 5 ≤ 20 := gn_hi hh0 rfl (by decide)
  refine E_ial rfl hh0 rfl (by omega) (by decide) (gi_gn hh0 rfl (by decide)) ?_
  refine E_bin rfl (nJ_mul _ _) ?_
  refine E_is rfl (fun lv2 L2_4 kp2 => ?_)
  have L2_0 := kp2 0 _ (by decide) rfl (show pm_get (lv_args 0 [.ref 77, .int (nJ kd), .int (nJ c), .int (nJ x)]) 0 = _ from rfl)
  have L2_1 := kp2 1 _ (by decide) rfl (show pm_get (lv_args 0 [.ref 77, .int (nJ kd), .int (nJ c), .int (nJ x)]) 1 = _ from rfl)
  have L2_2 := kp2 2 _ (by decide) rfl (show pm_get (lv_args 0 [.ref 77, .int (nJ kd), .int (nJ c), .int (nJ x)]) 2 = _ from rfl)
  have L2_3 := kp2 3 _ (by decide) rfl (show pm_get (lv_args 0 [.ref 77, .int (nJ kd), .int (nJ c), .int (nJ x)]) 3 = _ from rfl)
  refine E_al rfl L2_0 ?_
  refine E_gr rfl hh0 (q := 87) rfl ?_
  refine E_il rfl L2_4 ?_
  refine E_il rfl L2_1 ?_
  refine E_ias rfl hh0 rfl (by omega) (by decide) ?_
  have hh3 : HH (pt h0 87 ((3 * (gn h0 84 5))) (nJ kd)) := HH_ptn hh0 (bd_87a (by omega) (by omega)) (by omega) (by omega) (by omega)
  have fr3 : fr_g VM h0 (pt h0 87 ((3 * (gn h0 84 5))) (nJ kd)) := fr_ptr (l := 0) (u := 299) rfl (by omega) (by omega) (fr_rf VM h0)
  refine E_al rfl L2_0 ?_
  refine E_gr rfl hh3 (q := 87) rfl ?_
  refine E_il rfl L2_4 ?_
  refine E_ci 1 rfl (by decide) ?_
  refine E_bin rfl (nJ_add _ _) ?_
  refine E_il rfl L2_2 ?_
  refine E_ias rfl hh3 rfl (by omega) (by decide) ?_
  have hh4 : HH (pt (pt h0 87 ((3 * (gn h0 84 5))) (nJ kd)) 87 (((3 * (gn h0 84 5)) + 1)) (nJ c)) := HH_ptn hh3 (bd_87b (by omega) (by omega)) (by omega) (by omega) (by omega)
  have fr4 : fr_g VM h0 (pt (pt h0 87 ((3 * (gn h0 84 5))) (nJ kd)) 87 (((3 * (gn h0 84 5)) + 1)) (nJ c)) := fr_ptr (l := 0) (u := 299) rfl (by omega) (by omega) fr3
  refine E_al rfl L2_0 ?_
  refine E_gr rfl hh4 (q := 87) rfl ?_
  refine E_il rfl L2_4 ?_
  refine E_ci 2 rfl (by decide) ?_
  refine E_bin rfl (nJ_add _ _) ?_
  refine E_il rfl L2_3 ?_
  refine E_ias rfl hh4 rfl (by omega) (by decide) ?_
  have hh5 : HH (pt (pt (pt h0 87 ((3 * (gn h0 84 5))) (nJ kd)) 87 (((3 * (gn h0 84 5)) + 1)) (nJ c)) 87 (((3 * (gn h0 84 5)) + 2)) (nJ x)) := HH_ptn hh4 (bd_87c (by omega) (by omega)) (by omega) (by omega) (by omega)
  have fr5 : fr_g VM h0 (pt (pt (pt h0 87 ((3 * (gn h0 84 5))) (nJ kd)) 87 (((3 * (gn h0 84 5)) + 1)) (nJ c)) 87 (((3 * (gn h0 84 5)) + 2)) (nJ x)) := fr_ptr (l := 0) (u := 299) rfl (by omega) (by omega) fr4
  refine E_al rfl L2_0 ?_
  refine E_gr rfl hh5 (q := 84) rfl ?_
  refine E_ci 5 rfl (by decide) ?_
  refine E_dup2 rfl rfl rfl ?_
  refine E_ial rfl hh5 rfl (by omega) (by decide) (show gi (pt (pt (pt h0 87 ((3 * (gn h0 84 5))) (nJ kd)) 87 (((3 * (gn h0 84 5)) + 1)) (nJ c)) 87 (((3 * (gn h0 84 5)) + 2)) (nJ x)) 84 5 = nJ ((gn h0 84 5)) from by rw [gi_ne (by omega), gi_ne (by omega), gi_ne (by omega)]; exact gi_gn hh0 rfl (by decide)) ?_
  refine E_ci 1 rfl (by decide) ?_
  refine E_bin rfl (nJ_add _ _) ?_
  refine E_ias rfl hh5 rfl (by omega) (by decide) ?_
  have hh6 : HH (pt (pt (pt (pt h0 87 ((3 * (gn h0 84 5))) (nJ kd)) 87 (((3 * (gn h0 84 5)) + 1)) (nJ c)) 87 (((3 * (gn h0 84 5)) + 2)) (nJ x)) 84 5 (nJ (((gn h0 84 5) + 1)))) := HH_ptn hh5 rfl (by omega) (by omega) (by omega)
  have fr6 : fr_g VM h0 (pt (pt (pt (pt h0 87 ((3 * (gn h0 84 5))) (nJ kd)) 87 (((3 * (gn h0 84 5)) + 1)) (nJ c)) 87 (((3 * (gn h0 84 5)) + 2)) (nJ x)) 84 5 (nJ (((gn h0 84 5) + 1)))) := fr_ptr (l := 0) (u := 29) rfl (by omega) (by omega) fr5
  refine E_al rfl L2_0 ?_
  have V2 : RV (pt (pt (pt (pt h0 87 ((3 * (gn h0 84 5))) (nJ kd)) 87 (((3 * (gn h0 84 5)) + 1)) (nJ c)) 87 (((3 * (gn h0 84 5)) + 2)) (nJ x)) 84 5 (nJ (((gn h0 84 5) + 1)))) := RV_act hh0 hV rfl hK (gn_ptn hh5 rfl (by omega) (by omega) (by omega)) (fun k hk => by rw [gn_ne (fun _ => hk), gn_ne (by omega), gn_ne (by omega), gn_ne (by omega)]) (fun k => by rw [gn_ne (by omega), gn_ne (by omega), gn_ne (by omega), gn_ne (by omega)]) (kd := kd) (c := c) (x := x) (by rw [gn_ne (by omega), gn_ne (by omega), gn_ne (by omega), gn_ptn hh0 (bd_87a (by omega) (by omega)) (by omega) (by omega) (by omega)]) (by rw [gn_ne (by omega), gn_ne (by omega), gn_ptn hh3 (bd_87b (by omega) (by omega)) (by omega) (by omega) (by omega)]) (by rw [gn_ne (by omega), gn_ptn hh4 (bd_87c (by omega) (by omega)) (by omega) (by omega) (by omega)]) (fun k k1 k2 k3 => by rw [gn_ne (by omega), gn_ne (fun _ => k3), gn_ne (fun _ => k2), gn_ne (fun _ => k1)]) hcond
  refine E_call rfl (Sp_le (by omega) (Sp_sum (as := [.ref 77]) q150 hh6 ⟨rfl, trivial⟩ (fun _ hq => absurd hq List.not_mem_nil) (fun i hi => by rw [List.mem_singleton.mp hi]; exact FAg_fact hh6 (V2.2 0 (by omega))))) (chk77 hh6 rfl rfl (by show 0 ≤ 8; decide)) (fun h7 r7 => ?_)
  rintro ⟨hh7, fq7, C7, hC7, -, -, -, rv7⟩
  have e7 : r7 = none := by have e := List.mem_singleton.mp hC7; subst e; cases r7 with | none => rfl | some v => exact rv7.elim
  rw [e7]
  have fr7 : fr_g VM h0 h7 := fr_trans fr6 (fr_wk rfl fq7)
  have V7 : RV h7 := RV_fr hh6 rfl fq7 V2
  show Ends _ _ (52, lv2, [], h7, 0, 0) _
  refine E_al rfl L2_0 ?_
  have b8 : gn h7 77 27 ≤ 255 := gn_hi hh7 rfl (by decide)
  refine E_gf rfl hh7 rfl (gi_gn hh7 rfl (by decide)) ?_
  refine E_call rfl (Sp_le (by omega) (Sp_sum (as := [.int (nJ ((gn h7 77 27)))]) q616 hh7 ⟨nJ_in (by omega) (by omega), trivial⟩ (fun _ hq => absurd hq List.not_mem_nil) (fun _ hq => absurd hq List.not_mem_nil))) (chkS rfl (by show 0 ≤ 8; decide)) (fun h9 r9 => ?_)
  rintro ⟨hh9, fq9, C9, hC9, -, -, -, rv9⟩
  have hC9 : C9 ∈ [([cI 3 255], [], [], some (.inl (cI 2 8))), ([cI 1 128], [], [], some (.inl (cI 1 1))), ([cI 0 0], [], [], some (.inl (cI 0 0)))] := hC9
  obtain ⟨x9, f9⟩ : ∃ x : Int32, r9 = some (.int x) := by
    rcases List.mem_cons.mp hC9 with e | e
    · subst e; exact rv_ci rv9
    · rcases List.mem_cons.mp e with e | e
      · subst e; exact rv_ci rv9
      · have e := List.mem_singleton.mp e; subst e; exact rv_ci rv9
  rw [f9]
  have fr9 : fr_g VM h0 h9 := fr_trans fr7 (fr_wk rfl fq9)
  have V9 : RV h9 := RV_fr hh7 rfl fq9 V7
  show Ends _ _ (59, lv2, [.int x9], h9, 0, 0) _
  refine E_rti rfl ⟨⟨hh9, fr9, V9, _, rfl⟩, ?_, ?_⟩
  · intro a k hak
    rcases hak with rfl | rfl | ⟨rfl, hk⟩
    · rw [fr_gi fq9 (rg_no rfl _), fr_gi fq7 (rg_no rfl _), gi_ne (by omega), gi_ne (by omega), gi_ne (by omega), gi_ne (by omega)]
    · rw [fr_gi fq9 (rg_no rfl _), fr_gi fq7 (rg_no rfl _), gi_ne (by omega), gi_ne (by omega), gi_ne (by omega), gi_ne (by omega)]
    · rw [fr_gi fq9 (rg_no rfl _), fr_gi fq7 (rg_no rfl _), gi_ne (fun _ => hk), gi_ne (by omega), gi_ne (by omega), gi_ne (by omega)]
  · rw [fr_gi fq9 (rg_no rfl _), fr_gi fq7 (rg_no rfl _)]
    exact gi_ptn hh5 rfl (by omega) (by omega) (by omega)
theorem wn_no {a : Nat} {ok : Bool} (e : ok = false) : wna ok a = a := by rw [e]; rfl
theorem wn_full {ok : Bool} : wna ok 20 = 20 := by cases ok <;> rfl
theorem wn_yes {a : Nat} {ok : Bool} (e : ok = true) (h : a < 20) : wna ok a = a + 1 := by
  rw [e]
  show (if a < 20 then a + 1 else a) = a + 1
  rw [if_pos h]
theorem pg5 {h0 : pm_H} (hh0 : HH h0) : gi (pt h0 77 0 (nJ 0)) 84 5 = nJ (gn h0 84 5) := by
  rw [gi_ne (by omega)]
  exact (g84 hh0).1
theorem bif_no {p q : Bool} (h : ¬ (p = true ∧ q = true)) : (bif p then q else false) = false := by
  cases p <;> cases q <;> simp_all
theorem bif_ye {p q : Bool} (h1 : p = true) (h2 : q = true) : (bif p then q else false) = true := by
  rw [h1, h2]; rfl
section WT9
variable {h0 : pm_H} {x y : Int32}
theorem wnW (hh0 : HH h0) (h : ¬ (0 ≤ x.toInt ∧ x.toInt ≤ (gn (pt h0 77 0 (nJ 0)) 84 3 : Int) - 1) ∨ ¬ (0 < (gi (pt h0 77 0 (nJ 0)) 83 0).toInt ∧ 1 ≤ y.toInt ∧ y.toInt ≤ (gn (pt h0 77 0 (nJ 0)) 84 0 : Int))) : gi (pt h0 77 0 (nJ 0)) 84 5 = nJ (wna (bif decide (0 < (gi h0 83 0).toInt) then okW (gn h0 84 3) (gn h0 84 0) x y else false) (gn h0 84 5)) := by
  have e1 : gn (pt h0 77 0 (nJ 0)) 84 3 = gn h0 84 3 := gn_ne (by omega)
  have e2 : gn (pt h0 77 0 (nJ 0)) 84 0 = gn h0 84 0 := gn_ne (by omega)
  have e3 : gi (pt h0 77 0 (nJ 0)) 83 0 = gi h0 83 0 := gi_ne (by omega)
  rw [e1, e2, e3] at h
  rw [wn_no (bif_no (fun q => ?_)), pg5 hh0]
  have q1 := of_decide_eq_true q.1
  have q2 : (0 ≤ x.toInt ∧ x.toInt < (gn h0 84 3 : Int)) ∧ 1 ≤ y.toInt ∧ y.toInt ≤ (gn h0 84 0 : Int) := of_decide_eq_true q.2
  omega
theorem wnT (hh0 : HH h0) (h : ¬ ((0 ≤ x.toInt ∧ x.toInt ≤ (gn (pt h0 77 0 (nJ 0)) 84 3 : Int) - 1) ∧ (0 ≤ y.toInt ∧ y.toInt ≤ (gn (pt h0 77 0 (nJ 0)) 84 3 : Int) - 1) ∧ ¬ x = y)) : gi (pt h0 77 0 (nJ 0)) 84 5 = nJ (wna (okT (gn h0 84 3) x y) (gn h0 84 5)) := by
  have e1 : gn (pt h0 77 0 (nJ 0)) 84 3 = gn h0 84 3 := gn_ne (by omega)
  rw [e1] at h
  have ek : okT (gn h0 84 3) x y = false := decide_eq_false (fun q => h ⟨by omega, by omega, q.2.2⟩)
  rw [wn_no ek, pg5 hh0]
theorem wnF {ok : Bool} (hh0 : HH h0) (h : ¬ ¬ gn (pt h0 77 0 (nJ 0)) 84 5 = 20) : gi (pt h0 77 0 (nJ 0)) 84 5 = nJ (wna ok (gn h0 84 5)) := by
  have e1 : gn (pt h0 77 0 (nJ 0)) 84 5 = gn h0 84 5 := gn_ne (by omega)
  rw [e1] at h
  rw [pg5 hh0, Classical.not_not.mp h, wn_full]
theorem wnY {ok : Bool} {h8 : pm_H} (hh0 : HH h0) (h : ¬ gn (pt h0 77 0 (nJ 0)) 84 5 = 20) (n8 : gi h8 84 5 = nJ (gn (pt h0 77 0 (nJ 0)) 84 5 + 1)) (e : ok = true) : gi h8 84 5 = nJ (wna ok (gn h0 84 5)) := by
  have e1 : gn (pt h0 77 0 (nJ 0)) 84 5 = gn h0 84 5 := gn_ne (by omega)
  have b := (g84 hh0).2.1
  rw [e1] at h n8
  rw [n8, wn_yes e (by omega)]
end WT9
theorem tv_wantsE {h0 : pm_H} {d : Nat} {x y : Int32} (hh0 : HH h0) (hV : RV h0) : Sp (d + 40) 370 h0 [.ref 77, .int x, .int y] (fun h' r => VQ h0 h' r ∧ SAM h0 h' ∧ gi h' 84 5 = nJ (wna (bif decide (0 < (gi h0 83 0).toInt) then okW (gn h0 84 3) (gn h0 84 0) x y else false) (gn h0 84 5))) := by
  refine Sp_of aiX9_wants rfl rfl rfl ?_
  have L0 : pm_get (lv_args 0 [.ref 77, .int x, .int y]) 0 = some (.ref 77) := rfl
  have L1 : pm_get (lv_args 0 [.ref 77, .int x, .int y]) 1 = some (.int x) := rfl
  have L2 : pm_get (lv_args 0 [.ref 77, .int x, .int y]) 2 = some (.int y) := rfl
  generalize lv_args 0 [.ref 77, .int x, .int y] = lv at L0 L1 L2 ⊢
  refine E_al rfl L0 ?_
  refine E_ci 0 rfl (by decide) ?_
  refine E_pf rfl hh0 rfl ?_
  have hh1 : HH (pt h0 77 0 (nJ 0)) := HH_ptn hh0 rfl (by omega) (by omega) (by omega)
  have fr1 : fr_g VM h0 (pt h0 77 0 (nJ 0)) := fr_ptr (l := 0) (u := 0) rfl (by omega) (by omega) (fr_rf VM h0)
  have V0 : RV (pt h0 77 0 (nJ 0)) := RV_fr hh0 (M := [(77, 0, 0)]) rfl (fr_ptr (l := 0) (u := 0) rfl (by omega) (by omega) (fr_rf _ _)) hV
  refine E_al rfl L0 ?_
  refine E_il rfl L1 ?_
  refine E_i2l rfl ?_
  refine E_call rfl (sp_isCar hh1) (chk77 hh1 rfl rfl (by show 0 ≤ 8; decide)) (fun h2 r2 => ?_)
  rintro ⟨e2, f2⟩
  rw [e2, f2]
  show Ends _ _ (11, lv, [.int (zb (0 ≤ x.toInt ∧ x.toInt ≤ (gn (pt h0 77 0 (nJ 0)) 84 3 : Int) - 1))], (pt h0 77 0 (nJ 0)), 0, 0) _
  by_cases hb3 : ¬ (0 ≤ x.toInt ∧ x.toInt ≤ (gn (pt h0 77 0 (nJ 0)) 84 3 : Int) - 1)
  · refine E_ifT rfl (by rw [zb_F hb3]; rfl) ?_
    refine E_c rfl ?_
    exact E_rti rfl ⟨⟨hh1, fr1, V0, _, rfl⟩, fun a k hak => gi_ne (by omega), wnW hh0 (.inl hb3)⟩
  · refine E_ifF rfl (by rw [zb_T (Classical.not_not.mp hb3)]; rfl) ?_
    have hcar := Classical.not_not.mp hb3
    refine E_al rfl L0 ?_
    refine E_il rfl L2 ?_
    refine E_call rfl (Sp_le (by omega) (sp_isPlace (d := 0) hh1)) (chk77 hh1 rfl rfl (by show 0 ≤ 8; decide)) (fun h4 r4 => ?_)
    rintro ⟨e4, f4⟩
    rw [e4, f4]
    show Ends _ _ (19, lv, [.int (zb (0 < (gi (pt h0 77 0 (nJ 0)) 83 0).toInt ∧ 1 ≤ y.toInt ∧ y.toInt ≤ (gn (pt h0 77 0 (nJ 0)) 84 0 : Int)))], (pt h0 77 0 (nJ 0)), 0, 0) _
    by_cases hb5 : 0 < (gi (pt h0 77 0 (nJ 0)) 83 0).toInt ∧ 1 ≤ y.toInt ∧ y.toInt ≤ (gn (pt h0 77 0 (nJ 0)) 84 0 : Int)
    · refine E_ifT rfl (by rw [zb_T hb5]; rfl) ?_
      have hC8 : gn (pt h0 77 0 (nJ 0)) 84 3 ≤ 8 := gn_hi hh1 rfl (by decide)
      have hP8 : gn (pt h0 77 0 (nJ 0)) 84 0 ≤ 8 := gn_hi hh1 rfl (by decide)
      obtain ⟨k, hk, rfl⟩ := nJ_of2 (n := gn (pt h0 77 0 (nJ 0)) 84 3 - 1) hcar.1 (by have := hcar.2; have := hcar.1; omega)
      obtain ⟨p, hp, rfl⟩ := nJ_of2 (n := gn (pt h0 77 0 (nJ 0)) 84 0) (x := y) (by have := hb5.2.1; omega) hb5.2.2
      have hp1 : 1 ≤ p := by have h9 := hb5.2.1; rw [nJ_toInt (by omega)] at h9; omega
      refine E_al rfl L0 ?_
      refine E_gr rfl hh1 (q := 84) rfl ?_
      refine E_ci 5 rfl (by decide) ?_
      have b6 : gn (pt h0 77 0 (nJ 0)) 84 5 ≤ 20 := gn_hi hh1 rfl (by decide)
      refine E_ial rfl hh1 rfl (by omega) (by decide) (gi_gn hh1 rfl (by decide)) ?_
      refine E_ci 20 rfl (by decide) ?_
      by_cases hb7 : ¬ (gn (pt h0 77 0 (nJ 0)) 84 5) = 20
      · refine E_icT rfl (decide_eq_true (fun q => hb7 ((nJ_eq (by omega) (by omega)).mp q))) ?_
        refine E_al rfl L0 ?_
        refine E_ci 0 rfl (by decide) ?_
        refine E_il rfl L1 ?_
        refine E_il rfl L2 ?_
        refine E_call rfl (Sp_le (by omega) (sp_doesE (d := 0) hh1 V0 (by omega) (by omega) (by omega) (by omega) (by omega))) (chk77 hh1 rfl rfl (by show 0 ≤ 8; decide)) (fun h8 r8 => ?_)
        rintro ⟨⟨hh8, fq8, V8, x8, f8⟩, m8, n8⟩
        rw [f8]
        have fr8 : fr_g VM h0 h8 := fr_trans fr1 fq8
        show Ends _ _ (48, lv, [.int x8], h8, 0, 0) _
        exact E_rti rfl ⟨⟨hh8, fr8, V8, _, rfl⟩, fun a k hak => by rw [m8 a k hak]; exact gi_ne (by omega), wnY hh0 hb7 n8 (bif_ye (decide_eq_true (show 0 < (gi h0 83 0).toInt by have := hb5.1; rw [gi_ne (by omega)] at this; exact this)) (decide_eq_true (by have e1 : gn (pt h0 77 0 (nJ 0)) 84 3 = gn h0 84 3 := gn_ne (by omega); have e2 : gn (pt h0 77 0 (nJ 0)) 84 0 = gn h0 84 0 := gn_ne (by omega); have q5 := hb5.2; rw [e1] at hcar; rw [e2] at q5; exact ⟨⟨hcar.1, by omega⟩, q5⟩)))⟩
      · refine E_icF rfl (decide_eq_false (fun q => hb7 (fun z => q ((nJ_eq (by omega) (by omega)).mpr z)))) ?_
        refine E_c rfl ?_
        refine E_goto rfl ?_
        exact E_rti rfl ⟨⟨hh1, fr1, V0, _, rfl⟩, fun a k hak => gi_ne (by omega), wnF hh0 hb7⟩
    · refine E_ifF rfl (by rw [zb_F hb5]; rfl) ?_
      refine E_c rfl ?_
      exact E_rti rfl ⟨⟨hh1, fr1, V0, _, rfl⟩, fun a k hak => gi_ne (by omega), wnW hh0 (.inr hb5)⟩
theorem tv_tradesE {h0 : pm_H} {d : Nat} {x y : Int32} (hh0 : HH h0) (hV : RV h0) : Sp (d + 40) 362 h0 [.ref 77, .int x, .int y] (fun h' r => VQ h0 h' r ∧ SAM h0 h' ∧ gi h' 84 5 = nJ (wna (okT (gn h0 84 3) x y) (gn h0 84 5))) := by
  refine Sp_of aiX9_trades rfl rfl rfl ?_
  have L0 : pm_get (lv_args 0 [.ref 77, .int x, .int y]) 0 = some (.ref 77) := rfl
  have L1 : pm_get (lv_args 0 [.ref 77, .int x, .int y]) 1 = some (.int x) := rfl
  have L2 : pm_get (lv_args 0 [.ref 77, .int x, .int y]) 2 = some (.int y) := rfl
  generalize lv_args 0 [.ref 77, .int x, .int y] = lv at L0 L1 L2 ⊢
  refine E_al rfl L0 ?_
  refine E_ci 0 rfl (by decide) ?_
  refine E_pf rfl hh0 rfl ?_
  have hh1 : HH (pt h0 77 0 (nJ 0)) := HH_ptn hh0 rfl (by omega) (by omega) (by omega)
  have fr1 : fr_g VM h0 (pt h0 77 0 (nJ 0)) := fr_ptr (l := 0) (u := 0) rfl (by omega) (by omega) (fr_rf VM h0)
  have V0 : RV (pt h0 77 0 (nJ 0)) := RV_fr hh0 (M := [(77, 0, 0)]) rfl (fr_ptr (l := 0) (u := 0) rfl (by omega) (by omega) (fr_rf _ _)) hV
  refine E_al rfl L0 ?_
  refine E_il rfl L1 ?_
  refine E_il rfl L2 ?_
  refine E_call rfl (Sp_le (by omega) (sp_areTwo (d := 0) hh1)) (chk77 hh1 rfl rfl (by show 0 ≤ 8; decide)) (fun h2 r2 => ?_)
  rintro ⟨e2, f2⟩
  rw [e2, f2]
  show Ends _ _ (11, lv, [.int (zb ((0 ≤ x.toInt ∧ x.toInt ≤ (gn (pt h0 77 0 (nJ 0)) 84 3 : Int) - 1) ∧ (0 ≤ y.toInt ∧ y.toInt ≤ (gn (pt h0 77 0 (nJ 0)) 84 3 : Int) - 1) ∧ ¬ x = y))], (pt h0 77 0 (nJ 0)), 0, 0) _
  by_cases hb3 : (0 ≤ x.toInt ∧ x.toInt ≤ (gn (pt h0 77 0 (nJ 0)) 84 3 : Int) - 1) ∧ (0 ≤ y.toInt ∧ y.toInt ≤ (gn (pt h0 77 0 (nJ 0)) 84 3 : Int) - 1) ∧ ¬ x = y
  · refine E_ifT rfl (by rw [zb_T hb3]; rfl) ?_
    have hC8 : gn (pt h0 77 0 (nJ 0)) 84 3 ≤ 8 := gn_hi hh1 rfl (by decide)
    obtain ⟨qa, qb, qn⟩ := id hb3
    obtain ⟨k, hk, rfl⟩ := nJ_of2 (n := gn (pt h0 77 0 (nJ 0)) 84 3 - 1) qa.1 (by have := qa.2; have := qa.1; omega)
    obtain ⟨p, hp, rfl⟩ := nJ_of2 (n := gn (pt h0 77 0 (nJ 0)) 84 3 - 1) (x := y) qb.1 (by have := qb.2; have := qb.1; omega)
    have hc1 : 1 ≤ gn (pt h0 77 0 (nJ 0)) 84 3 := by have := qa.1; have := qa.2; omega
    refine E_al rfl L0 ?_
    refine E_gr rfl hh1 (q := 84) rfl ?_
    refine E_ci 5 rfl (by decide) ?_
    have b4 : gn (pt h0 77 0 (nJ 0)) 84 5 ≤ 20 := gn_hi hh1 rfl (by decide)
    refine E_ial rfl hh1 rfl (by omega) (by decide) (gi_gn hh1 rfl (by decide)) ?_
    refine E_ci 20 rfl (by decide) ?_
    by_cases hb5 : ¬ (gn (pt h0 77 0 (nJ 0)) 84 5) = 20
    · refine E_icT rfl (decide_eq_true (fun q => hb5 ((nJ_eq (by omega) (by omega)).mp q))) ?_
      refine E_al rfl L0 ?_
      refine E_ci 1 rfl (by decide) ?_
      refine E_il rfl L1 ?_
      refine E_il rfl L2 ?_
      refine E_call rfl (Sp_le (by omega) (sp_doesE (d := 0) hh1 V0 (by omega) (by omega) (by omega) (by omega) (by omega))) (chk77 hh1 rfl rfl (by show 0 ≤ 8; decide)) (fun h6 r6 => ?_)
      rintro ⟨⟨hh6, fq6, V6, x6, f6⟩, m8, n8⟩
      rw [f6]
      have fr6 : fr_g VM h0 h6 := fr_trans fr1 fq6
      show Ends _ _ (40, lv, [.int x6], h6, 0, 0) _
      exact E_rti rfl ⟨⟨hh6, fr6, V6, _, rfl⟩, fun a k hak => by rw [m8 a k hak]; exact gi_ne (by omega), wnY hh0 hb5 n8 (decide_eq_true (by have e1 : gn (pt h0 77 0 (nJ 0)) 84 3 = gn h0 84 3 := gn_ne (by omega); have q3 := hb3; rw [e1] at q3; exact ⟨⟨q3.1.1, by omega⟩, ⟨q3.2.1.1, by omega⟩, q3.2.2⟩))⟩
    · refine E_icF rfl (decide_eq_false (fun q => hb5 (fun z => q ((nJ_eq (by omega) (by omega)).mpr z)))) ?_
      refine E_c rfl ?_
      refine E_goto rfl ?_
      exact E_rti rfl ⟨⟨hh1, fr1, V0, _, rfl⟩, fun a k hak => gi_ne (by omega), wnF hh0 hb5⟩
  · refine E_ifF rfl (by rw [zb_F hb3]; rfl) ?_
    refine E_c rfl ?_
    exact E_rti rfl ⟨⟨hh1, fr1, V0, _, rfl⟩, fun a k hak => gi_ne (by omega), wnT hh0 hb3⟩
end
section
/-! acts of the reference, exactly (written by gen_u58.py; wants t58, u56) -/
noncomputable def DO9 (h h' : pm_H) (kd c x : Nat) : Prop := gi h' 87 (3 * gn h 84 5) = nJ kd ∧ gi h' 87 (3 * gn h 84 5 + 1) = nJ c ∧ gi h' 87 (3 * gn h 84 5 + 2) = nJ x ∧ ∀ k, k ≠ 3 * gn h 84 5 → k ≠ 3 * gn h 84 5 + 1 → k ≠ 3 * gn h 84 5 + 2 → gi h' 87 k = gi h 87 k
noncomputable def AD9 (h h' : pm_H) (kd c x : Nat) : Prop := (gi h' 84 5 = gi h 84 5 ∧ ∀ k, gi h' 87 k = gi h 87 k) ∨ (gi h' 84 5 = nJ (gn h 84 5 + 1) ∧ DO9 h h' kd c x)
theorem AD9_77 {h h' : pm_H} {v : Int32} {kd c x : Nat} (n : gi h' 84 5 = nJ (gn (pt h 77 0 v) 84 5 + 1) ∧ DO9 (pt h 77 0 v) h' kd c x) : AD9 h h' kd c x := by
  have e : gn (pt h 77 0 v) 84 5 = gn h 84 5 := gn_ne (by omega)
  obtain ⟨n1, d1, d2, d3, d4⟩ := n
  rw [e] at n1 d1 d2 d3 d4
  exact .inr ⟨n1, d1, d2, d3, fun k k1 k2 k3 => by rw [d4 k k1 k2 k3]; exact gi_ne (by omega)⟩
theorem sp_doesX {h0 : pm_H} {d kd c x : Nat} (hh0 : HH h0) (hV : RV h0) (hK : gn h0 84 5 < 20) (hkd : kd ≤ 1) (hc7 : c ≤ 7) (hx8 : x ≤ 8) (hcond : (kd = 0 → 1 ≤ x) ∧ (¬ kd = 0 → c < gn h0 84 3 ∧ x < gn h0 84 3)) : Sp (d + 7) 238 h0 [.ref 77, .int (nJ kd), .int (nJ c), .int (nJ x)] (fun h' r => VQ h0 h' r ∧ (∀ k, gi h' 86 k = gi h0 86 k) ∧ gi h' 84 5 = nJ (gn h0 84 5 + 1) ∧ DO9 h0 h' kd c x) := by
  refine Sp_of aiX9_does rfl rfl rfl ?_
  refine E_ci 3 rfl (by decide) ?_
  refine E_al rfl (show pm_get (lv_args 0 [.ref 77, .int (nJ kd), .int (nJ c), .int (nJ x)]) 0 = _ from rfl) ?_
  refine E_gr rfl hh0 (q := 84) rfl ?_
  refine E_ci 5 rfl (by decide) ?_
  have b1 : gn h0 84 5 ≤ 20 := gn_hi hh0 rfl (by decide)
  refine E_ial rfl hh0 rfl (by omega) (by decide) (gi_gn hh0 rfl (by decide)) ?_
  refine E_bin rfl (nJ_mul _ _) ?_
  refine E_is rfl (fun lv2 L2_4 kp2 => ?_)
  have L2_0 := kp2 0 _ (by decide) rfl (show pm_get (lv_args 0 [.ref 77, .int (nJ kd), .int (nJ c), .int (nJ x)]) 0 = _ from rfl)
  have L2_1 := kp2 1 _ (by decide) rfl (show pm_get (lv_args 0 [.ref 77, .int (nJ kd), .int (nJ c), .int (nJ x)]) 1 = _ from rfl)
  have L2_2 := kp2 2 _ (by decide) rfl (show pm_get (lv_args 0 [.ref 77, .int (nJ kd), .int (nJ c), .int (nJ x)]) 2 = _ from rfl)
  have L2_3 := kp2 3 _ (by decide) rfl (show pm_get (lv_args 0 [.ref 77, .int (nJ kd), .int (nJ c), .int (nJ x)]) 3 = _ from rfl)
  refine E_al rfl L2_0 ?_
  refine E_gr rfl hh0 (q := 87) rfl ?_
  refine E_il rfl L2_4 ?_
  refine E_il rfl L2_1 ?_
  refine E_ias rfl hh0 rfl (by omega) (by decide) ?_
  have hh3 : HH (pt h0 87 ((3 * (gn h0 84 5))) (nJ kd)) := HH_ptn hh0 (bd_87a (by omega) (by omega)) (by omega) (by omega) (by omega)
  have fr3 : fr_g VM h0 (pt h0 87 ((3 * (gn h0 84 5))) (nJ kd)) := fr_ptr (l := 0) (u := 299) rfl (by omega) (by omega) (fr_rf VM h0)
  refine E_al rfl L2_0 ?_
  refine E_gr rfl hh3 (q := 87) rfl ?_
  refine E_il rfl L2_4 ?_
  refine E_ci 1 rfl (by decide) ?_
  refine E_bin rfl (nJ_add _ _) ?_
  refine E_il rfl L2_2 ?_
  refine E_ias rfl hh3 rfl (by omega) (by decide) ?_
  have hh4 : HH (pt (pt h0 87 ((3 * (gn h0 84 5))) (nJ kd)) 87 (((3 * (gn h0 84 5)) + 1)) (nJ c)) := HH_ptn hh3 (bd_87b (by omega) (by omega)) (by omega) (by omega) (by omega)
  have fr4 : fr_g VM h0 (pt (pt h0 87 ((3 * (gn h0 84 5))) (nJ kd)) 87 (((3 * (gn h0 84 5)) + 1)) (nJ c)) := fr_ptr (l := 0) (u := 299) rfl (by omega) (by omega) fr3
  refine E_al rfl L2_0 ?_
  refine E_gr rfl hh4 (q := 87) rfl ?_
  refine E_il rfl L2_4 ?_
  refine E_ci 2 rfl (by decide) ?_
  refine E_bin rfl (nJ_add _ _) ?_
  refine E_il rfl L2_3 ?_
  refine E_ias rfl hh4 rfl (by omega) (by decide) ?_
  have hh5 : HH (pt (pt (pt h0 87 ((3 * (gn h0 84 5))) (nJ kd)) 87 (((3 * (gn h0 84 5)) + 1)) (nJ c)) 87 (((3 * (gn h0 84 5)) + 2)) (nJ x)) := HH_ptn hh4 (bd_87c (by omega) (by omega)) (by omega) (by omega) (by omega)
  have fr5 : fr_g VM h0 (pt (pt (pt h0 87 ((3 * (gn h0 84 5))) (nJ kd)) 87 (((3 * (gn h0 84 5)) + 1)) (nJ c)) 87 (((3 * (gn h0 84 5)) + 2)) (nJ x)) := fr_ptr (l := 0) (u := 299) rfl (by omega) (by omega) fr4
  refine E_al rfl L2_0 ?_
  refine E_gr rfl hh5 (q := 84) rfl ?_
  refine E_ci 5 rfl (by decide) ?_
  refine E_dup2 rfl rfl rfl ?_
  refine E_ial rfl hh5 rfl (by omega) (by decide) (show gi (pt (pt (pt h0 87 ((3 * (gn h0 84 5))) (nJ kd)) 87 (((3 * (gn h0 84 5)) + 1)) (nJ c)) 87 (((3 * (gn h0 84 5)) + 2)) (nJ x)) 84 5 = nJ ((gn h0 84 5)) from by rw [gi_ne (by omega), gi_ne (by omega), gi_ne (by omega)]; exact gi_gn hh0 rfl (by decide)) ?_
  refine E_ci 1 rfl (by decide) ?_
  refine E_bin rfl (nJ_add _ _) ?_
  refine E_ias rfl hh5 rfl (by omega) (by decide) ?_
  have hh6 : HH (pt (pt (pt (pt h0 87 ((3 * (gn h0 84 5))) (nJ kd)) 87 (((3 * (gn h0 84 5)) + 1)) (nJ c)) 87 (((3 * (gn h0 84 5)) + 2)) (nJ x)) 84 5 (nJ (((gn h0 84 5) + 1)))) := HH_ptn hh5 rfl (by omega) (by omega) (by omega)
  have fr6 : fr_g VM h0 (pt (pt (pt (pt h0 87 ((3 * (gn h0 84 5))) (nJ kd)) 87 (((3 * (gn h0 84 5)) + 1)) (nJ c)) 87 (((3 * (gn h0 84 5)) + 2)) (nJ x)) 84 5 (nJ (((gn h0 84 5) + 1)))) := fr_ptr (l := 0) (u := 29) rfl (by omega) (by omega) fr5
  refine E_al rfl L2_0 ?_
  have V2 : RV (pt (pt (pt (pt h0 87 ((3 * (gn h0 84 5))) (nJ kd)) 87 (((3 * (gn h0 84 5)) + 1)) (nJ c)) 87 (((3 * (gn h0 84 5)) + 2)) (nJ x)) 84 5 (nJ (((gn h0 84 5) + 1)))) := RV_act hh0 hV rfl hK (gn_ptn hh5 rfl (by omega) (by omega) (by omega)) (fun k hk => by rw [gn_ne (fun _ => hk), gn_ne (by omega), gn_ne (by omega), gn_ne (by omega)]) (fun k => by rw [gn_ne (by omega), gn_ne (by omega), gn_ne (by omega), gn_ne (by omega)]) (kd := kd) (c := c) (x := x) (by rw [gn_ne (by omega), gn_ne (by omega), gn_ne (by omega), gn_ptn hh0 (bd_87a (by omega) (by omega)) (by omega) (by omega) (by omega)]) (by rw [gn_ne (by omega), gn_ne (by omega), gn_ptn hh3 (bd_87b (by omega) (by omega)) (by omega) (by omega) (by omega)]) (by rw [gn_ne (by omega), gn_ptn hh4 (bd_87c (by omega) (by omega)) (by omega) (by omega) (by omega)]) (fun k k1 k2 k3 => by rw [gn_ne (by omega), gn_ne (fun _ => k3), gn_ne (fun _ => k2), gn_ne (fun _ => k1)]) hcond
  refine E_call rfl (Sp_le (by omega) (Sp_sum (as := [.ref 77]) q150 hh6 ⟨rfl, trivial⟩ (fun _ hq => absurd hq List.not_mem_nil) (fun i hi => by rw [List.mem_singleton.mp hi]; exact FAg_fact hh6 (V2.2 0 (by omega))))) (chk77 hh6 rfl rfl (by show 0 ≤ 8; decide)) (fun h7 r7 => ?_)
  rintro ⟨hh7, fq7, C7, hC7, -, -, -, rv7⟩
  have e7 : r7 = none := by have e := List.mem_singleton.mp hC7; subst e; cases r7 with | none => rfl | some v => exact rv7.elim
  rw [e7]
  have fr7 : fr_g VM h0 h7 := fr_trans fr6 (fr_wk rfl fq7)
  have V7 : RV h7 := RV_fr hh6 rfl fq7 V2
  show Ends _ _ (52, lv2, [], h7, 0, 0) _
  refine E_al rfl L2_0 ?_
  have b8 : gn h7 77 27 ≤ 255 := gn_hi hh7 rfl (by decide)
  refine E_gf rfl hh7 rfl (gi_gn hh7 rfl (by decide)) ?_
  refine E_call rfl (Sp_le (by omega) (Sp_sum (as := [.int (nJ ((gn h7 77 27)))]) q616 hh7 ⟨nJ_in (by omega) (by omega), trivial⟩ (fun _ hq => absurd hq List.not_mem_nil) (fun _ hq => absurd hq List.not_mem_nil))) (chkS rfl (by show 0 ≤ 8; decide)) (fun h9 r9 => ?_)
  rintro ⟨hh9, fq9, C9, hC9, -, -, -, rv9⟩
  have hC9 : C9 ∈ [([cI 3 255], [], [], some (.inl (cI 2 8))), ([cI 1 128], [], [], some (.inl (cI 1 1))), ([cI 0 0], [], [], some (.inl (cI 0 0)))] := hC9
  obtain ⟨x9, f9⟩ : ∃ x : Int32, r9 = some (.int x) := by
    rcases List.mem_cons.mp hC9 with e | e
    · subst e; exact rv_ci rv9
    · rcases List.mem_cons.mp e with e | e
      · subst e; exact rv_ci rv9
      · have e := List.mem_singleton.mp e; subst e; exact rv_ci rv9
  rw [f9]
  have fr9 : fr_g VM h0 h9 := fr_trans fr7 (fr_wk rfl fq9)
  have V9 : RV h9 := RV_fr hh7 rfl fq9 V7
  show Ends _ _ (59, lv2, [.int x9], h9, 0, 0) _
  refine E_rti rfl ⟨⟨hh9, fr9, V9, _, rfl⟩, fun k => ?_, ?_, ?_, ?_, ?_, fun k k1 k2 k3 => ?_⟩
  · rw [fr_gi fq9 (rg_no rfl _), fr_gi fq7 (rg_no rfl _), gi_ne (by omega), gi_ne (by omega), gi_ne (by omega), gi_ne (by omega)]
  · rw [fr_gi fq9 (rg_no rfl _), fr_gi fq7 (rg_no rfl _)]
    exact gi_ptn hh5 rfl (by omega) (by omega) (by omega)
  · rw [fr_gi fq9 (rg_no rfl _), fr_gi fq7 (rg_no rfl _), gi_ne (by omega), gi_ne (by omega), gi_ne (by omega)]
    exact gi_ptn hh0 (bd_87a (by omega) (by omega)) (by omega) (by omega) (by omega)
  · rw [fr_gi fq9 (rg_no rfl _), fr_gi fq7 (rg_no rfl _), gi_ne (by omega), gi_ne (by omega)]
    exact gi_ptn hh3 (bd_87b (by omega) (by omega)) (by omega) (by omega) (by omega)
  · rw [fr_gi fq9 (rg_no rfl _), fr_gi fq7 (rg_no rfl _), gi_ne (by omega)]
    exact gi_ptn hh4 (bd_87c (by omega) (by omega)) (by omega) (by omega) (by omega)
  · rw [fr_gi fq9 (rg_no rfl _), fr_gi fq7 (rg_no rfl _), gi_ne (by omega), gi_ne (fun _ => k3), gi_ne (fun _ => k2), gi_ne (fun _ => k1)]
theorem tv_wantsX {h0 : pm_H} {d : Nat} {x y : Int32} (hh0 : HH h0) (hV : RV h0) : Sp (d + 40) 370 h0 [.ref 77, .int x, .int y] (fun h' r => VQ h0 h' r ∧ (∀ k, gi h' 86 k = gi h0 86 k) ∧ AD9 h0 h' 0 x.toInt.toNat y.toInt.toNat) := by
  refine Sp_of aiX9_wants rfl rfl rfl ?_
  have L0 : pm_get (lv_args 0 [.ref 77, .int x, .int y]) 0 = some (.ref 77) := rfl
  have L1 : pm_get (lv_args 0 [.ref 77, .int x, .int y]) 1 = some (.int x) := rfl
  have L2 : pm_get (lv_args 0 [.ref 77, .int x, .int y]) 2 = some (.int y) := rfl
  generalize lv_args 0 [.ref 77, .int x, .int y] = lv at L0 L1 L2 ⊢
  refine E_al rfl L0 ?_
  refine E_ci 0 rfl (by decide) ?_
  refine E_pf rfl hh0 rfl ?_
  have hh1 : HH (pt h0 77 0 (nJ 0)) := HH_ptn hh0 rfl (by omega) (by omega) (by omega)
  have fr1 : fr_g VM h0 (pt h0 77 0 (nJ 0)) := fr_ptr (l := 0) (u := 0) rfl (by omega) (by omega) (fr_rf VM h0)
  have V0 : RV (pt h0 77 0 (nJ 0)) := RV_fr hh0 (M := [(77, 0, 0)]) rfl (fr_ptr (l := 0) (u := 0) rfl (by omega) (by omega) (fr_rf _ _)) hV
  refine E_al rfl L0 ?_
  refine E_il rfl L1 ?_
  refine E_i2l rfl ?_
  refine E_call rfl (sp_isCar hh1) (chk77 hh1 rfl rfl (by show 0 ≤ 8; decide)) (fun h2 r2 => ?_)
  rintro ⟨e2, f2⟩
  rw [e2, f2]
  show Ends _ _ (11, lv, [.int (zb (0 ≤ x.toInt ∧ x.toInt ≤ (gn (pt h0 77 0 (nJ 0)) 84 3 : Int) - 1))], (pt h0 77 0 (nJ 0)), 0, 0) _
  by_cases hb3 : ¬ (0 ≤ x.toInt ∧ x.toInt ≤ (gn (pt h0 77 0 (nJ 0)) 84 3 : Int) - 1)
  · refine E_ifT rfl (by rw [zb_F hb3]; rfl) ?_
    refine E_c rfl ?_
    exact E_rti rfl ⟨⟨hh1, fr1, V0, _, rfl⟩, fun k => gi_ne (by omega), .inl ⟨gi_ne (by omega), fun k => gi_ne (by omega)⟩⟩
  · refine E_ifF rfl (by rw [zb_T (Classical.not_not.mp hb3)]; rfl) ?_
    have hcar := Classical.not_not.mp hb3
    refine E_al rfl L0 ?_
    refine E_il rfl L2 ?_
    refine E_call rfl (Sp_le (by omega) (sp_isPlace (d := 0) hh1)) (chk77 hh1 rfl rfl (by show 0 ≤ 8; decide)) (fun h4 r4 => ?_)
    rintro ⟨e4, f4⟩
    rw [e4, f4]
    show Ends _ _ (19, lv, [.int (zb (0 < (gi (pt h0 77 0 (nJ 0)) 83 0).toInt ∧ 1 ≤ y.toInt ∧ y.toInt ≤ (gn (pt h0 77 0 (nJ 0)) 84 0 : Int)))], (pt h0 77 0 (nJ 0)), 0, 0) _
    by_cases hb5 : 0 < (gi (pt h0 77 0 (nJ 0)) 83 0).toInt ∧ 1 ≤ y.toInt ∧ y.toInt ≤ (gn (pt h0 77 0 (nJ 0)) 84 0 : Int)
    · refine E_ifT rfl (by rw [zb_T hb5]; rfl) ?_
      have hC8 : gn (pt h0 77 0 (nJ 0)) 84 3 ≤ 8 := gn_hi hh1 rfl (by decide)
      have hP8 : gn (pt h0 77 0 (nJ 0)) 84 0 ≤ 8 := gn_hi hh1 rfl (by decide)
      obtain ⟨k, hk, rfl⟩ := nJ_of2 (n := gn (pt h0 77 0 (nJ 0)) 84 3 - 1) hcar.1 (by have := hcar.2; have := hcar.1; omega)
      obtain ⟨p, hp, rfl⟩ := nJ_of2 (n := gn (pt h0 77 0 (nJ 0)) 84 0) (x := y) (by have := hb5.2.1; omega) hb5.2.2
      have hp1 : 1 ≤ p := by have h9 := hb5.2.1; rw [nJ_toInt (by omega)] at h9; omega
      refine E_al rfl L0 ?_
      refine E_gr rfl hh1 (q := 84) rfl ?_
      refine E_ci 5 rfl (by decide) ?_
      have b6 : gn (pt h0 77 0 (nJ 0)) 84 5 ≤ 20 := gn_hi hh1 rfl (by decide)
      refine E_ial rfl hh1 rfl (by omega) (by decide) (gi_gn hh1 rfl (by decide)) ?_
      refine E_ci 20 rfl (by decide) ?_
      by_cases hb7 : ¬ (gn (pt h0 77 0 (nJ 0)) 84 5) = 20
      · refine E_icT rfl (decide_eq_true (fun q => hb7 ((nJ_eq (by omega) (by omega)).mp q))) ?_
        refine E_al rfl L0 ?_
        refine E_ci 0 rfl (by decide) ?_
        refine E_il rfl L1 ?_
        refine E_il rfl L2 ?_
        refine E_call rfl (Sp_le (by omega) (sp_doesX (d := 0) hh1 V0 (by omega) (by omega) (by omega) (by omega) (by omega))) (chk77 hh1 rfl rfl (by show 0 ≤ 8; decide)) (fun h8 r8 => ?_)
        rintro ⟨⟨hh8, fq8, V8, x8, f8⟩, m8, n8⟩
        rw [f8]
        have fr8 : fr_g VM h0 h8 := fr_trans fr1 fq8
        show Ends _ _ (48, lv, [.int x8], h8, 0, 0) _
        exact E_rti rfl ⟨⟨hh8, fr8, V8, _, rfl⟩, fun k => by rw [m8 k]; exact gi_ne (by omega), by rw [nJ_toInt (by omega), nJ_toInt (by omega)]; exact AD9_77 n8⟩
      · refine E_icF rfl (decide_eq_false (fun q => hb7 (fun z => q ((nJ_eq (by omega) (by omega)).mpr z)))) ?_
        refine E_c rfl ?_
        refine E_goto rfl ?_
        exact E_rti rfl ⟨⟨hh1, fr1, V0, _, rfl⟩, fun k => gi_ne (by omega), .inl ⟨gi_ne (by omega), fun k => gi_ne (by omega)⟩⟩
    · refine E_ifF rfl (by rw [zb_F hb5]; rfl) ?_
      refine E_c rfl ?_
      exact E_rti rfl ⟨⟨hh1, fr1, V0, _, rfl⟩, fun k => gi_ne (by omega), .inl ⟨gi_ne (by omega), fun k => gi_ne (by omega)⟩⟩
theorem tv_tradesX {h0 : pm_H} {d : Nat} {x y : Int32} (hh0 : HH h0) (hV : RV h0) : Sp (d + 40) 362 h0 [.ref 77, .int x, .int y] (fun h' r => VQ h0 h' r ∧ (∀ k, gi h' 86 k = gi h0 86 k) ∧ AD9 h0 h' 1 x.toInt.toNat y.toInt.toNat) := by
  refine Sp_of aiX9_trades rfl rfl rfl ?_
  have L0 : pm_get (lv_args 0 [.ref 77, .int x, .int y]) 0 = some (.ref 77) := rfl
  have L1 : pm_get (lv_args 0 [.ref 77, .int x, .int y]) 1 = some (.int x) := rfl
  have L2 : pm_get (lv_args 0 [.ref 77, .int x, .int y]) 2 = some (.int y) := rfl
  generalize lv_args 0 [.ref 77, .int x, .int y] = lv at L0 L1 L2 ⊢
  refine E_al rfl L0 ?_
  refine E_ci 0 rfl (by decide) ?_
  refine E_pf rfl hh0 rfl ?_
  have hh1 : HH (pt h0 77 0 (nJ 0)) := HH_ptn hh0 rfl (by omega) (by omega) (by omega)
  have fr1 : fr_g VM h0 (pt h0 77 0 (nJ 0)) := fr_ptr (l := 0) (u := 0) rfl (by omega) (by omega) (fr_rf VM h0)
  have V0 : RV (pt h0 77 0 (nJ 0)) := RV_fr hh0 (M := [(77, 0, 0)]) rfl (fr_ptr (l := 0) (u := 0) rfl (by omega) (by omega) (fr_rf _ _)) hV
  refine E_al rfl L0 ?_
  refine E_il rfl L1 ?_
  refine E_il rfl L2 ?_
  refine E_call rfl (Sp_le (by omega) (sp_areTwo (d := 0) hh1)) (chk77 hh1 rfl rfl (by show 0 ≤ 8; decide)) (fun h2 r2 => ?_)
  rintro ⟨e2, f2⟩
  rw [e2, f2]
  show Ends _ _ (11, lv, [.int (zb ((0 ≤ x.toInt ∧ x.toInt ≤ (gn (pt h0 77 0 (nJ 0)) 84 3 : Int) - 1) ∧ (0 ≤ y.toInt ∧ y.toInt ≤ (gn (pt h0 77 0 (nJ 0)) 84 3 : Int) - 1) ∧ ¬ x = y))], (pt h0 77 0 (nJ 0)), 0, 0) _
  by_cases hb3 : (0 ≤ x.toInt ∧ x.toInt ≤ (gn (pt h0 77 0 (nJ 0)) 84 3 : Int) - 1) ∧ (0 ≤ y.toInt ∧ y.toInt ≤ (gn (pt h0 77 0 (nJ 0)) 84 3 : Int) - 1) ∧ ¬ x = y
  · refine E_ifT rfl (by rw [zb_T hb3]; rfl) ?_
    have hC8 : gn (pt h0 77 0 (nJ 0)) 84 3 ≤ 8 := gn_hi hh1 rfl (by decide)
    obtain ⟨qa, qb, qn⟩ := id hb3
    obtain ⟨k, hk, rfl⟩ := nJ_of2 (n := gn (pt h0 77 0 (nJ 0)) 84 3 - 1) qa.1 (by have := qa.2; have := qa.1; omega)
    obtain ⟨p, hp, rfl⟩ := nJ_of2 (n := gn (pt h0 77 0 (nJ 0)) 84 3 - 1) (x := y) qb.1 (by have := qb.2; have := qb.1; omega)
    have hc1 : 1 ≤ gn (pt h0 77 0 (nJ 0)) 84 3 := by have := qa.1; have := qa.2; omega
    refine E_al rfl L0 ?_
    refine E_gr rfl hh1 (q := 84) rfl ?_
    refine E_ci 5 rfl (by decide) ?_
    have b4 : gn (pt h0 77 0 (nJ 0)) 84 5 ≤ 20 := gn_hi hh1 rfl (by decide)
    refine E_ial rfl hh1 rfl (by omega) (by decide) (gi_gn hh1 rfl (by decide)) ?_
    refine E_ci 20 rfl (by decide) ?_
    by_cases hb5 : ¬ (gn (pt h0 77 0 (nJ 0)) 84 5) = 20
    · refine E_icT rfl (decide_eq_true (fun q => hb5 ((nJ_eq (by omega) (by omega)).mp q))) ?_
      refine E_al rfl L0 ?_
      refine E_ci 1 rfl (by decide) ?_
      refine E_il rfl L1 ?_
      refine E_il rfl L2 ?_
      refine E_call rfl (Sp_le (by omega) (sp_doesX (d := 0) hh1 V0 (by omega) (by omega) (by omega) (by omega) (by omega))) (chk77 hh1 rfl rfl (by show 0 ≤ 8; decide)) (fun h6 r6 => ?_)
      rintro ⟨⟨hh6, fq6, V6, x6, f6⟩, m8, n8⟩
      rw [f6]
      have fr6 : fr_g VM h0 h6 := fr_trans fr1 fq6
      show Ends _ _ (40, lv, [.int x6], h6, 0, 0) _
      exact E_rti rfl ⟨⟨hh6, fr6, V6, _, rfl⟩, fun k => by rw [m8 k]; exact gi_ne (by omega), by rw [nJ_toInt (by omega), nJ_toInt (by omega)]; exact AD9_77 n8⟩
    · refine E_icF rfl (decide_eq_false (fun q => hb5 (fun z => q ((nJ_eq (by omega) (by omega)).mpr z)))) ?_
      refine E_c rfl ?_
      refine E_goto rfl ?_
      exact E_rti rfl ⟨⟨hh1, fr1, V0, _, rfl⟩, fun k => gi_ne (by omega), .inl ⟨gi_ne (by omega), fun k => gi_ne (by omega)⟩⟩
  · refine E_ifF rfl (by rw [zb_F hb3]; rfl) ?_
    refine E_c rfl ?_
    exact E_rti rfl ⟨⟨hh1, fr1, V0, _, rfl⟩, fun k => gi_ne (by omega), .inl ⟨gi_ne (by omega), fun k => gi_ne (by omega)⟩⟩
theorem sp_rate9X {h : pm_H} {d : Nat} {x y : Int32} (hh : HH h) : Sp (d + 3) 329 h [.ref 77, .int x, .int y] (fun h' r => r = some (.int (rtv (gn h 84 3) (gn h 84 5) (fun i => gi h 85 (2 * i + 1)) x y)) ∧ ∀ i, gi h' 85 (2 * i) = gi h 85 (2 * i)) := by
  obtain ⟨a5, a6, a3, -⟩ := g84 hh
  refine Sp_of aiX9_rate rfl rfl rfl ?_
  have L0 : pm_get (lv_args 0 [.ref 77, .int x, .int y]) 0 = some (.ref 77) := rfl
  have L1 : pm_get (lv_args 0 [.ref 77, .int x, .int y]) 1 = some (.int x) := rfl
  have L2 : pm_get (lv_args 0 [.ref 77, .int x, .int y]) 2 = some (.int y) := rfl
  generalize lv_args 0 [.ref 77, .int x, .int y] = lv at L0 L1 L2 ⊢
  refine E_al rfl L0 ?_
  refine E_ci 0 rfl (by decide) ?_
  refine E_pf rfl hh rfl ?_
  have hg : HH (pt h 77 0 (nJ 0)) := HH_ptn hh rfl (by omega) (by omega) (by omega)
  have F : fr_g [(77, 0, 0), (85, 1, 15)] h (pt h 77 0 (nJ 0)) := fr_ptr (l := 0) (u := 0) rfl (by omega) (by omega) (fr_rf _ _)
  have g5 : gi (pt h 77 0 (nJ 0)) 84 5 = nJ (gn h 84 5) := by rw [gi_ne (by omega)]; exact a5
  have g3 : gn (pt h 77 0 (nJ 0)) 84 3 = gn h 84 3 := gn_ne (by omega)
  have g85 : ∀ k, gi (pt h 77 0 (nJ 0)) 85 k = gi h 85 k := fun k => gi_ne (by omega)
  generalize pt h 77 0 (nJ 0) = g at hg F g5 g3 g85 ⊢
  have no : ¬ ((0 ≤ x.toInt ∧ x.toInt < (gn h 84 3 : Int)) ∧ 0 ≤ y.toInt ∧ y.toInt ≤ 99) → Ends (pm_at tX9_rate) (pm_Rt pm_P (d + 2)) (26, lv, [], g, 0, 0) (fun h' r => r = some (.int (rtv (gn h 84 3) (gn h 84 5) (fun i => gi h 85 (2 * i + 1)) x y)) ∧ ∀ i, gi h' 85 (2 * i) = gi h 85 (2 * i)) := by
    intro q
    refine E_c rfl ?_
    exact E_rti rfl ⟨by unfold rtv; rw [if_neg q], fun i => g85 _⟩
  refine E_al rfl L0 ?_
  refine E_il rfl L1 ?_
  refine E_i2l rfl ?_
  refine E_call rfl (sp_isCar (d := d) hg) (chk77 hg rfl rfl (by show 0 ≤ 8; decide)) (fun h1 r1 => ?_)
  rintro ⟨e1, f1⟩
  rw [e1, f1, g3]
  by_cases b1 : 0 ≤ x.toInt ∧ x.toInt ≤ (gn h 84 3 : Int) - 1
  · refine E_ifF rfl (by rw [zb_T b1]; rfl) ?_
    refine E_il rfl L2 ?_
    refine E_i2l rfl ?_
    refine E_c rfl ?_
    refine E_c rfl ?_
    refine E_call rfl (sp_in (a := y.toInt) (b := 0) (c := 99) (i2l_toInt _) rfl rfl) (chkS rfl (by show 0 ≤ 8; decide)) (fun h2 r2 => ?_)
    rintro ⟨e2, f2⟩
    rw [e2, f2]
    by_cases b2 : 0 ≤ y.toInt ∧ y.toInt ≤ 99
    · refine E_ifT rfl (by rw [zb_T b2]; rfl) ?_
      obtain ⟨c, hc, rfl⟩ : ∃ c, c < 8 ∧ x = nJ c := ⟨x.toInt.toNat, by omega, nJ_of b1.1⟩
      have xc := nJ_toInt (n := c) (by omega)
      have ec : (nJ c).toInt.toNat = c := by omega
      have ok : (0 ≤ (nJ c).toInt ∧ (nJ c).toInt < (gn h 84 3 : Int)) ∧ 0 ≤ y.toInt ∧ y.toInt ≤ 99 := ⟨by omega, b2⟩
      refine E_al rfl L0 ?_
      refine E_gr rfl hg (q := 84) rfl ?_
      refine E_ci 5 rfl (by decide) ?_
      refine E_ial rfl hg rfl (by omega) (by decide) g5 ?_
      by_cases b4 : gn h 84 5 = 0
      · refine E_ifT rfl (decide_eq_true ((nJ_le0 (by omega)).mpr b4)) ?_
        refine E_al rfl L0 ?_
        refine E_gr rfl hg (q := 85) rfl ?_
        refine E_ci 2 rfl (by decide) ?_
        refine E_il rfl L1 ?_
        refine E_bin rfl (nJ_mul _ _) ?_
        refine E_ci 1 rfl (by decide) ?_
        refine E_bin rfl (nJ_add _ _) ?_
        refine E_ial rfl hg rfl (by omega) (by decide) (g85 (2 * c + 1)) ?_
        refine E_is rfl (fun lv1 K3 kp => ?_)
        refine E_al rfl (kp 0 _ (by decide) rfl L0) ?_
        refine E_gr rfl hg (q := 85) rfl ?_
        refine E_ci 2 rfl (by decide) ?_
        refine E_il rfl (kp 1 _ (by decide) rfl L1) ?_
        refine E_bin rfl (nJ_mul _ _) ?_
        refine E_ci 1 rfl (by decide) ?_
        refine E_bin rfl (nJ_add _ _) ?_
        refine E_il rfl (kp 2 _ (by decide) rfl L2) ?_
        refine E_ias rfl hg rfl (by omega) (by decide) ?_
        refine E_il rfl K3 ?_
        have b85 : bd 85 (2 * c + 1) = some (0, 99) := bd_85o (by omega) (by omega)
        exact E_rti rfl ⟨by unfold rtv; rw [if_pos ok, if_pos b4, ec], fun i => by rw [gi_ne (by omega)]; exact g85 _⟩
      · refine E_ifF rfl (decide_eq_false (fun z => b4 ((nJ_le0 (by omega)).mp z))) ?_
        refine E_c rfl ?_
        exact E_rti rfl ⟨by unfold rtv; rw [if_pos ok, if_neg b4], fun i => g85 _⟩
    · refine E_ifF rfl (by rw [zb_F b2]; rfl) ?_
      exact no (fun q => b2 q.2)
  · refine E_ifT rfl (by rw [zb_F b1]; rfl) ?_
    exact no (fun q => b1 (by omega))
end
section
/-! count of both; image and back of both, exactly (written by gen_t59.py; wants t32, t52 with all pairs, t53) -/
noncomputable def sct (f : Nat → Int32) : Nat → Nat
  | 0 => 0
  | n + 1 => sct f n + (if f n = 0 then 0 else 1)
theorem sct_le (f : Nat → Int32) : ∀ n, sct f n ≤ n
  | 0 => Nat.le_refl _
  | n + 1 => by
    have := sct_le f n
    show sct f n + (if f n = 0 then 0 else 1) ≤ n + 1
    split <;> omega
theorem sct_eq {f g : Nat → Int32} : ∀ {n : Nat}, (∀ i, i < n → f i = g i) → sct f n = sct g n
  | 0, _ => rfl
  | n + 1, e => by
    show sct f n + (if f n = 0 then 0 else 1) = sct g n + (if g n = 0 then 0 else 1)
    rw [sct_eq (fun i hi => e i (Nat.lt_succ_of_lt hi)), e n (Nat.lt_succ_self n)]
noncomputable def cnv (f : Nat → Int32) (v : Int32) : Int32 := if 0 ≤ v.toInt ∧ v.toInt ≤ 8 then f v.toInt.toNat else -1
theorem cnv_in {f : Nat → Int32} {k : Nat} (hk : k ≤ 8) : cnv f (nJ k) = f k := by
  have e := nJ_toInt (n := k) (by omega)
  unfold cnv
  rw [if_pos (by omega), e]
  rfl
theorem cnv_eq {f g : Nat → Int32} {v : Int32} (e : ∀ k, k ≤ 8 → f k = g k) : cnv f v = cnv g v := by
  unfold cnv
  by_cases q : 0 ≤ v.toInt ∧ v.toInt ≤ 8
  · rw [if_pos q, if_pos q, e _ (by omega)]
  · rw [if_neg q, if_neg q]
noncomputable def c8f (h : pm_H) : Nat → Int32
  | 0 => gi h 15 0
  | 1 => gi h 15 1
  | 2 => gi h 15 2
  | 3 => gi h 15 4
  | 4 => gi h 15 5
  | 5 => gi h 15 6
  | 6 => gi h 15 3
  | 7 => gi h 1 1
  | _ => nJ (sct (cf h) 4)
noncomputable def c9f (h : pm_H) : Nat → Int32
  | 0 => gi h 84 0
  | 1 => gi h 84 1
  | 2 => gi h 84 2
  | 3 => gi h 84 3
  | 4 => gi h 84 4
  | 5 => gi h 84 5
  | 6 => gi h 83 0
  | 7 => gi h 77 6
  | _ => nJ (sct (rf h) 4)
section CNT
variable {h : pm_H} {d : Nat} {v : Int32}
theorem sw_loop (hh : HH h) (j : Nat) : ∀ {i : Nat} (lv : List (Nat × Value)), i + j = 4 → pm_get lv 0 = some (.ref 0) → pm_get lv 1 = some (.int (nJ (sct (cf h) i))) → pm_get lv 2 = some (.int (nJ i)) → Ends (pm_at tX8_slotsWithRows) (pm_Rt pm_P d) (4, lv, [], h, 0, 0) (fun h' r => h' = h ∧ r = some (.int (nJ (sct (cf h) 4)))) := by
  induction j with
  | zero =>
    intro i lv hj L0 L1 L2
    have e : i = 4 := by omega
    subst e
    refine E_il rfl L2 ?_
    refine E_ci 4 rfl (by decide) ?_
    refine E_icT rfl (decide_eq_true ((nJ_le (by omega) (by omega)).mpr (by omega))) ?_
    refine E_il rfl L1 ?_
    exact E_rti rfl ⟨rfl, rfl⟩
  | succ j ih =>
    intro i lv hj L0 L1 L2
    obtain ⟨S1, S2, S3, S4, S5, S6⟩ := isS_at i (by omega)
    refine E_il rfl L2 ?_
    refine E_ci 4 rfl (by decide) ?_
    refine E_icF rfl (decide_eq_false (fun q => absurd ((nJ_le (by omega) (by omega)).mp q) (by omega))) ?_
    refine E_al rfl L0 ?_
    refine E_ogr rfl hh rfl (q := 53) rfl ?_
    refine E_il rfl L2 ?_
    refine E_aal rfl hh rfl (slot_at i (by omega)) (by decide) ?_
    refine E_ogf rfl hh S1 S4 rfl ?_
    have es : sct (cf h) (i + 1) = sct (cf h) i + (if gi h (54 + 2 * i) 1 = 0 then 0 else 1) := rfl
    by_cases b : gi h (54 + 2 * i) 1 = 0
    · rw [if_pos b] at es
      refine E_ifT rfl (decide_eq_true b) ?_
      refine E_inc rfl L2 (nJ_inc _) (fun lv1 K2 kp => ?_)
      refine E_goto rfl ?_
      exact ih lv1 (i := i + 1) (by omega) (kp 0 _ (by decide) rfl L0) (by rw [es]; exact kp 1 _ (by decide) rfl L1) K2
    · rw [if_neg b] at es
      refine E_ifF rfl (decide_eq_false b) ?_
      refine E_inc rfl L1 (nJ_inc _) (fun lv1 K1 kp1 => ?_)
      refine E_inc rfl (kp1 2 _ (by decide) rfl L2) (nJ_inc _) (fun lv2 K2 kp => ?_)
      refine E_goto rfl ?_
      exact ih lv2 (i := i + 1) (by omega) (kp 0 _ (by decide) rfl (kp1 0 _ (by decide) rfl L0)) (by rw [es]; exact kp 1 _ (by decide) rfl K1) K2
theorem sp_slotsRows (hh : HH h) : Sp (d + 1) 181 h [.ref 0] (fun h' r => h' = h ∧ r = some (.int (nJ (sct (cf h) 4)))) := by
  refine Sp_of aiX8_slotsWithRows rfl rfl rfl ?_
  have L0 : pm_get (lv_args 0 [.ref 0]) 0 = some (.ref 0) := rfl
  generalize lv_args 0 [.ref 0] = lv at L0 ⊢
  refine E_ci 0 rfl (by decide) ?_
  refine E_is rfl (fun lv1 K1 kp1 => ?_)
  refine E_ci 0 rfl (by decide) ?_
  refine E_is rfl (fun lv2 K2 kp2 => ?_)
  exact sw_loop hh 4 (i := 0) lv2 (by omega) (kp2 0 _ (by decide) rfl (kp1 0 _ (by decide) rfl L0)) (kp2 1 _ (by decide) rfl K1) K2
theorem sp_count8 (hh : HH h) : Sp (d + 2) 93 h [.ref 0, .int v] (fun _ r => r = some (.int (cnv (c8f h) v))) := by
  refine Sp_of aiX8_count rfl rfl rfl ?_
  have L0 : pm_get (lv_args 0 [.ref 0, .int v]) 0 = some (.ref 0) := rfl
  have L1 : pm_get (lv_args 0 [.ref 0, .int v]) 1 = some (.int v) := rfl
  generalize lv_args 0 [.ref 0, .int v] = lv at L0 L1 ⊢
  refine E_il rfl L1 ?_
  by_cases q : 0 ≤ v.toInt ∧ v.toInt ≤ 8
  · obtain ⟨k, hk, rfl⟩ := nJ_of2 (n := 8) q.1 q.2
    rw [cnv_in hk]
    match k, hk with
    | 0, _ =>
      refine E_tsA (t := 52) rfl (by decide) (by decide) ?_
      refine E_al rfl L0 ?_
      refine E_ogr (q := 15) rfl hh rfl rfl ?_
      refine E_ogf (q := (0, 8)) rfl hh rfl rfl rfl ?_
      exact E_rti rfl rfl
    | 1, _ =>
      refine E_tsA (t := 60) rfl (by decide) (by decide) ?_
      refine E_al rfl L0 ?_
      refine E_ogr (q := 15) rfl hh rfl rfl ?_
      refine E_ogf (q := (0, 3)) rfl hh rfl rfl rfl ?_
      exact E_rti rfl rfl
    | 2, _ =>
      refine E_tsA (t := 68) rfl (by decide) (by decide) ?_
      refine E_al rfl L0 ?_
      refine E_ogr (q := 15) rfl hh rfl rfl ?_
      refine E_ogf (q := (0, 10)) rfl hh rfl rfl rfl ?_
      exact E_rti rfl rfl
    | 3, _ =>
      refine E_tsA (t := 76) rfl (by decide) (by decide) ?_
      refine E_al rfl L0 ?_
      refine E_ogr (q := 15) rfl hh rfl rfl ?_
      refine E_ogf (q := (0, 8)) rfl hh rfl rfl rfl ?_
      exact E_rti rfl rfl
    | 4, _ =>
      refine E_tsA (t := 84) rfl (by decide) (by decide) ?_
      refine E_al rfl L0 ?_
      refine E_ogr (q := 15) rfl hh rfl rfl ?_
      refine E_ogf (q := (0, 8)) rfl hh rfl rfl rfl ?_
      exact E_rti rfl rfl
    | 5, _ =>
      refine E_tsA (t := 92) rfl (by decide) (by decide) ?_
      refine E_al rfl L0 ?_
      refine E_ogr (q := 15) rfl hh rfl rfl ?_
      refine E_ogf (q := (0, 20)) rfl hh rfl rfl rfl ?_
      exact E_rti rfl rfl
    | 6, _ =>
      refine E_tsA (t := 100) rfl (by decide) (by decide) ?_
      refine E_al rfl L0 ?_
      refine E_ogr (q := 15) rfl hh rfl rfl ?_
      refine E_ogf (q := ((-2147483648), 2147483647)) rfl hh rfl rfl rfl ?_
      exact E_rti rfl rfl
    | 7, _ =>
      refine E_tsA (t := 108) rfl (by decide) (by decide) ?_
      refine E_al rfl L0 ?_
      refine E_ogr (q := 1) rfl hh rfl rfl ?_
      refine E_ogf (q := (0, 500)) rfl hh rfl rfl rfl ?_
      exact E_rti rfl rfl
    | 8, _ =>
      refine E_tsA (t := 116) rfl (by decide) (by decide) ?_
      refine E_al rfl L0 ?_
      refine E_call rfl (sp_slotsRows (d := d) hh) (chkO (a := 0) hh rfl rfl rfl rfl (by show 0 ≤ 8; decide)) (fun h1 r1 => ?_)
      rintro ⟨e1, f1⟩
      rw [e1, f1]
      exact E_rti rfl rfl
  · refine E_tsD rfl (by rw [Bool.or_eq_true, decide_eq_true_iff, decide_eq_true_iff]; omega) ?_
    refine E_c rfl ?_
    exact E_rti rfl (by unfold cnv; rw [if_neg q])
theorem cw_loop {h0 : pm_H} (hh : HH h) (e78 : ∀ s, gi h 78 s = gi h0 78 s) (j : Nat) : ∀ {i : Nat} (lv : List (Nat × Value)), i + j = 4 → pm_get lv 0 = some (.ref 77) → pm_get lv 2 = some (.int (nJ (sct (rf h0) i))) → pm_get lv 3 = some (.int (nJ i)) → Ends (pm_at tX9_count) (pm_Rt pm_P d) (66, lv, [], h, 0, 0) (fun _ r => r = some (.int (nJ (sct (rf h0) 4)))) := by
  induction j with
  | zero =>
    intro i lv hj L0 L2 L3
    have e : i = 4 := by omega
    subst e
    refine E_il rfl L3 ?_
    refine E_ci 4 rfl (by decide) ?_
    refine E_icT rfl (decide_eq_true ((nJ_le (by omega) (by omega)).mpr (by omega))) ?_
    refine E_il rfl L2 ?_
    exact E_rti rfl rfl
  | succ j ih =>
    intro i lv hj L0 L2 L3
    refine E_il rfl L3 ?_
    refine E_ci 4 rfl (by decide) ?_
    refine E_icF rfl (decide_eq_false (fun q => absurd ((nJ_le (by omega) (by omega)).mp q) (by omega))) ?_
    refine E_il rfl L2 ?_
    refine E_al rfl L0 ?_
    refine E_gr rfl hh (q := 78) rfl ?_
    refine E_il rfl L3 ?_
    refine E_ial rfl hh rfl (by omega) (by decide) (e78 i) ?_
    refine E_c rfl ?_
    have es : sct (rf h0) (i + 1) = sct (rf h0) i + (if rf h0 i = 0 then 0 else 1) := rfl
    have fin : ∀ {w : Nat}, sct (rf h0) (i + 1) = sct (rf h0) i + w → Ends (pm_at tX9_count) (pm_Rt pm_P d) (87, lv, [.int (nJ w), .int (nJ (sct (rf h0) i))], h, 0, 0) (fun _ r => r = some (.int (nJ (sct (rf h0) 4)))) := by
      intro w ew
      refine E_bin rfl (nJ_add _ _) ?_
      rw [← ew]
      refine E_is rfl (fun lv1 K2 kp1 => ?_)
      refine E_inc rfl (kp1 3 _ (by decide) rfl L3) (nJ_inc _) (fun lv2 K3 kp2 => ?_)
      refine E_goto rfl ?_
      exact ih lv2 (i := i + 1) (by omega) (kp2 0 _ (by decide) rfl (kp1 0 _ (by decide) rfl L0)) (kp2 2 _ (by decide) rfl K2) K3
    by_cases b : gi h0 78 i = -1
    · refine E_icF rfl (decide_eq_false (fun q => q b)) ?_
      refine E_ci 0 rfl (by decide) ?_
      refine E_goto rfl ?_
      exact fin (by rw [es, if_pos (rf_0 b)])
    · refine E_icT rfl (decide_eq_true b) ?_
      refine E_ci 1 rfl (by decide) ?_
      exact fin (by rw [es, if_neg (rf_1 b)])
theorem sp_count9 (hh : HH h) : Sp (d + 2) 233 h [.ref 77, .int v] (fun _ r => r = some (.int (cnv (c9f h) v))) := by
  refine Sp_of aiX9_count rfl rfl rfl ?_
  have L0 : pm_get (lv_args 0 [.ref 77, .int v]) 0 = some (.ref 77) := rfl
  have L1 : pm_get (lv_args 0 [.ref 77, .int v]) 1 = some (.int v) := rfl
  generalize lv_args 0 [.ref 77, .int v] = lv at L0 L1 ⊢
  refine E_al rfl L0 ?_
  refine E_ci 0 rfl (by decide) ?_
  refine E_pf rfl hh rfl ?_
  have hg : HH (pt h 77 0 (nJ 0)) := HH_ptn hh rfl (by omega) (by omega) (by omega)
  have e1 : ∀ a k, a ≠ 77 → gi (pt h 77 0 (nJ 0)) a k = gi h a k := fun a k ha => gi_ne (fun z => absurd z ha)
  have e6 : gi (pt h 77 0 (nJ 0)) 77 6 = gi h 77 6 := gi_ne (by omega)
  generalize pt h 77 0 (nJ 0) = g at hg e1 e6 ⊢
  refine E_il rfl L1 ?_
  refine E_i2l rfl ?_
  refine E_c rfl ?_
  refine E_c rfl ?_
  refine E_call rfl (sp_in (a := v.toInt) (b := 0) (c := 5) (i2l_toInt _) rfl rfl) (chkS rfl (by show 0 ≤ 8; decide)) (fun h2 r2 => ?_)
  rintro ⟨e2, f2⟩
  rw [e2, f2]
  by_cases b : 0 ≤ v.toInt ∧ v.toInt ≤ 5
  · refine E_ifF rfl (by rw [zb_T b]; rfl) ?_
    obtain ⟨k, hk, rfl⟩ := nJ_of2 (n := 5) b.1 b.2
    rw [cnv_in (by omega)]
    refine E_al rfl L0 ?_
    refine E_gr rfl hg (q := 84) rfl ?_
    refine E_il rfl L1 ?_
    refine E_ial rfl hg rfl (by omega) (by decide) (e1 84 k (by omega)) ?_
    refine E_rti rfl ?_
    match k, hk with
    | 0, _ => rfl
    | 1, _ => rfl
    | 2, _ => rfl
    | 3, _ => rfl
    | 4, _ => rfl
    | 5, _ => rfl
  · refine E_ifT rfl (by rw [zb_F b]; rfl) ?_
    refine E_ci 0 rfl (by decide) ?_
    refine E_is rfl (fun lv1 K2 kp => ?_)
    have M0 := kp 0 _ (by decide) rfl L0
    refine E_il rfl (kp 1 _ (by decide) rfl L1) ?_
    by_cases q : 6 ≤ v.toInt ∧ v.toInt ≤ 8
    · obtain ⟨k, hk, rfl⟩ := nJ_of2 (n := 8) (x := v) (by omega) q.2
      have e := nJ_toInt (n := k) (by omega)
      rw [cnv_in hk]
      have k6 : 6 ≤ k := by omega
      match k, hk, k6 with
      | 6, _, _ =>
        refine E_tsA (t := 52) rfl (by decide) (by decide) ?_
        refine E_al rfl M0 ?_
        refine E_gr rfl hg (q := 83) rfl ?_
        refine E_ci 0 rfl (by decide) ?_
        refine E_ial rfl hg rfl (by omega) (by decide) (e1 83 0 (by omega)) ?_
        exact E_rti rfl rfl
      | 7, _, _ =>
        refine E_tsA (t := 59) rfl (by decide) (by decide) ?_
        refine E_al rfl M0 ?_
        refine E_gf (q := (0, 500)) rfl hg rfl e6 ?_
        exact E_rti rfl rfl
      | 8, _, _ =>
        refine E_tsA (t := 64) rfl (by decide) (by decide) ?_
        refine E_ci 0 rfl (by decide) ?_
        refine E_is rfl (fun lv2 K3 kp2 => ?_)
        exact cw_loop hg (fun s => e1 78 s (by omega)) 4 (i := 0) lv2 (by omega) (kp2 0 _ (by decide) rfl M0) (kp2 2 _ (by decide) rfl K2) K3
    · refine E_tsD rfl (by rw [Bool.or_eq_true, decide_eq_true_iff, decide_eq_true_iff]; omega) ?_
      refine E_c rfl ?_
      exact E_rti rfl (by unfold cnv; rw [if_neg (by omega)])
end CNT
end
section
/-! image and back of both, exactly; the streets' relation (written by gen_t60.py; wants t33, t52b, t53, t56 to t59) -/
noncomputable def CPY (A B : Nat) (h h' : pm_H) : Prop := (∀ j, j < 7 → gi h' A j = gi h B j) ∧ (∀ i, i < 8 → gi h' (A + 3) i = gi h (B + 3) i) ∧ (∀ i, i < 8 → gi h' (A + 1) i = gi h (B + 1) i ∧ gi h' (A + 2) i = gi h (B + 2) i ∧ gi h' (A + 4) i = gi h (B + 4) i ∧ gi h' (A + 5) i = gi h (B + 5) i) ∧ ∀ i, i < 20 → gi h' (A + 6) i = gi h (B + 6) i ∧ gi h' (A + 7) i = gi h (B + 7) i ∧ gi h' (A + 8) i = gi h (B + 8) i
noncomputable def KEE (A : Nat) (h h' : pm_H) : Prop := ∀ q, q ≤ 8 → ∀ j, gi h' (A + q) j = gi h (A + q) j
noncomputable def kB (M : List Rng) (A : Nat) : Bool := (List.range 9).all (fun q => M.all (fun r => !(Nat.beq r.1 (A + q))))
theorem kB_at {M : List Rng} {A q : Nat} (h : kB M A = true) (hq : q ≤ 8) : M.all (fun r => !(Nat.beq r.1 (A + q))) = true := List.all_eq_true.mp h q (List.mem_range.mpr (by omega))
noncomputable def imA (k : Nat) : Nat := 25 + 9 * k
theorem KEE_fr {M : List Rng} {A : Nat} {h h' : pm_H} (hf : fr_g M h h') (h1 : kB M A = true) : KEE A h h' := fun _ hq _ => fr_gi hf (rg_no (kB_at h1 hq) _)
section IM8
variable {h : pm_H} {x : Int32}
/-- what image of the class leaves -/
noncomputable def IX8 (h : pm_H) (x : Int32) (h' : pm_H) : Prop := (∃ k, k < 3 ∧ x = nJ k ∧ CPY (imA k) 15 h h' ∧ KEE 15 h h' ∧ ∀ j, j < 3 → j ≠ k → KEE (imA j) h h') ∨ (¬ (0 ≤ x.toInt ∧ x.toInt ≤ 2) ∧ h' = h)
noncomputable def BX8 (h : pm_H) (x : Int32) (h' : pm_H) : Prop := (∃ k, k < 3 ∧ x = nJ k ∧ ¬ gi h 52 k = 0 ∧ CPY 15 (imA k) h h' ∧ ∀ j, j < 3 → KEE (imA j) h h') ∨ (¬ (∃ k, k < 3 ∧ x = nJ k ∧ ¬ gi h 52 k = 0) ∧ h' = h)
theorem sp_imageX8 (hh : HH h) : Sp 20 121 h [.ref 0, .int x] (fun h' _ => IX8 h x h') := by
  refine Sp_of (d := 19) aiX8_image rfl rfl rfl ?_
  have L0 : pm_get (lv_args 0 [.ref 0, .int x]) 0 = some (.ref 0) := rfl
  have L1 : pm_get (lv_args 0 [.ref 0, .int x]) 1 = some (.int x) := rfl
  generalize lv_args 0 [.ref 0, .int x] = lv at L0 L1 ⊢
  refine E_il rfl L1 ?_
  by_cases hr : 0 ≤ x.toInt ∧ x.toInt ≤ 2
  · obtain ⟨k, hk, rfl⟩ := nJ_of2 (n := 2) hr.1 hr.2
    refine E_ifF rfl (decide_eq_false (nJ_lt0 (by omega))) ?_
    refine E_il rfl L1 ?_
    refine E_ci 3 rfl (by decide) ?_
    refine E_icT rfl (decide_eq_true ((nJ_lt (by omega) (by omega)).mpr (by omega))) ?_
    match k, hk with
    | 0, _ =>
      refine E_al rfl L0 ?_
      refine E_ogr rfl hh rfl (q := 24) rfl ?_
      refine E_il rfl L1 ?_
      refine E_aal rfl hh rfl (q := 25) rfl (by decide) ?_
      refine E_al rfl L0 ?_
      refine E_ogr rfl hh rfl (q := 15) rfl ?_
      refine E_call rfl (Sp_le (by omega) (sp_take_25_15 (d := 0) hh)) (chkO (a := 25) hh rfl rfl rfl rfl (by show 0 ≤ 8; decide)) (fun h4 r4 => ?_)
      rintro ⟨e4, hh4, f4, t0, t1, t2⟩
      rw [e4]
      refine E_al rfl L0 ?_
      refine E_ogr rfl hh4 rfl (q := 52) rfl ?_
      refine E_il rfl L1 ?_
      refine E_ci 1 rfl (by decide) ?_
      refine E_zasA rfl hh4 rfl (by decide) ?_
      refine E_ci 0 rfl (by decide) ?_
      refine E_rti rfl (.inl ⟨0, by omega, rfl, ⟨fun j hj => ?_, fun i hi => ?_, fun i hi => ?_, fun i hi => ?_⟩, fun q hq j => ?_, fun j hj hne => ?_⟩)
      · show gi (pt h4 52 0 1) 25 j = _
        rw [gi_ne (by omega)]; exact t0 j hj
      · show gi (pt h4 52 0 1) 28 i = gi h 18 i
        rw [gi_ne (by omega)]; exact (t1 i hi).2.2.1
      · show gi (pt h4 52 0 1) 26 i = gi h 16 i ∧ gi (pt h4 52 0 1) 27 i = gi h 17 i ∧ gi (pt h4 52 0 1) 29 i = gi h 19 i ∧ gi (pt h4 52 0 1) 30 i = gi h 20 i
        rw [gi_ne (by omega), gi_ne (by omega), gi_ne (by omega), gi_ne (by omega)]
        obtain ⟨a1, a2, -, a4, a5⟩ := t1 i hi
        exact ⟨a1, a2, a4, a5⟩
      · show gi (pt h4 52 0 1) 31 i = gi h 21 i ∧ gi (pt h4 52 0 1) 32 i = gi h 22 i ∧ gi (pt h4 52 0 1) 33 i = gi h 23 i
        rw [gi_ne (by omega), gi_ne (by omega), gi_ne (by omega)]
        exact t2 i hi
      · rw [gi_ne (by omega), fr_gi f4 (rg_no (kB_at (A := 15) rfl hq) _)]
      · match j, hj, hne with
        | 0, _, hne => exact absurd rfl hne
        | 1, _, hne => exact fun q hq i => by show gi (pt h4 52 0 1) (34 + q) i = gi h (34 + q) i; rw [gi_ne (by omega), fr_gi f4 (rg_no (kB_at (A := 34) rfl hq) _)]
        | 2, _, hne => exact fun q hq i => by show gi (pt h4 52 0 1) (43 + q) i = gi h (43 + q) i; rw [gi_ne (by omega), fr_gi f4 (rg_no (kB_at (A := 43) rfl hq) _)]
    | 1, _ =>
      refine E_al rfl L0 ?_
      refine E_ogr rfl hh rfl (q := 24) rfl ?_
      refine E_il rfl L1 ?_
      refine E_aal rfl hh rfl (q := 34) rfl (by decide) ?_
      refine E_al rfl L0 ?_
      refine E_ogr rfl hh rfl (q := 15) rfl ?_
      refine E_call rfl (Sp_le (by omega) (sp_take_34_15 (d := 0) hh)) (chkO (a := 34) hh rfl rfl rfl rfl (by show 0 ≤ 8; decide)) (fun h4 r4 => ?_)
      rintro ⟨e4, hh4, f4, t0, t1, t2⟩
      rw [e4]
      refine E_al rfl L0 ?_
      refine E_ogr rfl hh4 rfl (q := 52) rfl ?_
      refine E_il rfl L1 ?_
      refine E_ci 1 rfl (by decide) ?_
      refine E_zasA rfl hh4 rfl (by decide) ?_
      refine E_ci 0 rfl (by decide) ?_
      refine E_rti rfl (.inl ⟨1, by omega, rfl, ⟨fun j hj => ?_, fun i hi => ?_, fun i hi => ?_, fun i hi => ?_⟩, fun q hq j => ?_, fun j hj hne => ?_⟩)
      · show gi (pt h4 52 1 1) 34 j = _
        rw [gi_ne (by omega)]; exact t0 j hj
      · show gi (pt h4 52 1 1) 37 i = gi h 18 i
        rw [gi_ne (by omega)]; exact (t1 i hi).2.2.1
      · show gi (pt h4 52 1 1) 35 i = gi h 16 i ∧ gi (pt h4 52 1 1) 36 i = gi h 17 i ∧ gi (pt h4 52 1 1) 38 i = gi h 19 i ∧ gi (pt h4 52 1 1) 39 i = gi h 20 i
        rw [gi_ne (by omega), gi_ne (by omega), gi_ne (by omega), gi_ne (by omega)]
        obtain ⟨a1, a2, -, a4, a5⟩ := t1 i hi
        exact ⟨a1, a2, a4, a5⟩
      · show gi (pt h4 52 1 1) 40 i = gi h 21 i ∧ gi (pt h4 52 1 1) 41 i = gi h 22 i ∧ gi (pt h4 52 1 1) 42 i = gi h 23 i
        rw [gi_ne (by omega), gi_ne (by omega), gi_ne (by omega)]
        exact t2 i hi
      · rw [gi_ne (by omega), fr_gi f4 (rg_no (kB_at (A := 15) rfl hq) _)]
      · match j, hj, hne with
        | 0, _, hne => exact fun q hq i => by show gi (pt h4 52 1 1) (25 + q) i = gi h (25 + q) i; rw [gi_ne (by omega), fr_gi f4 (rg_no (kB_at (A := 25) rfl hq) _)]
        | 1, _, hne => exact absurd rfl hne
        | 2, _, hne => exact fun q hq i => by show gi (pt h4 52 1 1) (43 + q) i = gi h (43 + q) i; rw [gi_ne (by omega), fr_gi f4 (rg_no (kB_at (A := 43) rfl hq) _)]
    | 2, _ =>
      refine E_al rfl L0 ?_
      refine E_ogr rfl hh rfl (q := 24) rfl ?_
      refine E_il rfl L1 ?_
      refine E_aal rfl hh rfl (q := 43) rfl (by decide) ?_
      refine E_al rfl L0 ?_
      refine E_ogr rfl hh rfl (q := 15) rfl ?_
      refine E_call rfl (Sp_le (by omega) (sp_take_43_15 (d := 0) hh)) (chkO (a := 43) hh rfl rfl rfl rfl (by show 0 ≤ 8; decide)) (fun h4 r4 => ?_)
      rintro ⟨e4, hh4, f4, t0, t1, t2⟩
      rw [e4]
      refine E_al rfl L0 ?_
      refine E_ogr rfl hh4 rfl (q := 52) rfl ?_
      refine E_il rfl L1 ?_
      refine E_ci 1 rfl (by decide) ?_
      refine E_zasA rfl hh4 rfl (by decide) ?_
      refine E_ci 0 rfl (by decide) ?_
      refine E_rti rfl (.inl ⟨2, by omega, rfl, ⟨fun j hj => ?_, fun i hi => ?_, fun i hi => ?_, fun i hi => ?_⟩, fun q hq j => ?_, fun j hj hne => ?_⟩)
      · show gi (pt h4 52 2 1) 43 j = _
        rw [gi_ne (by omega)]; exact t0 j hj
      · show gi (pt h4 52 2 1) 46 i = gi h 18 i
        rw [gi_ne (by omega)]; exact (t1 i hi).2.2.1
      · show gi (pt h4 52 2 1) 44 i = gi h 16 i ∧ gi (pt h4 52 2 1) 45 i = gi h 17 i ∧ gi (pt h4 52 2 1) 47 i = gi h 19 i ∧ gi (pt h4 52 2 1) 48 i = gi h 20 i
        rw [gi_ne (by omega), gi_ne (by omega), gi_ne (by omega), gi_ne (by omega)]
        obtain ⟨a1, a2, -, a4, a5⟩ := t1 i hi
        exact ⟨a1, a2, a4, a5⟩
      · show gi (pt h4 52 2 1) 49 i = gi h 21 i ∧ gi (pt h4 52 2 1) 50 i = gi h 22 i ∧ gi (pt h4 52 2 1) 51 i = gi h 23 i
        rw [gi_ne (by omega), gi_ne (by omega), gi_ne (by omega)]
        exact t2 i hi
      · rw [gi_ne (by omega), fr_gi f4 (rg_no (kB_at (A := 15) rfl hq) _)]
      · match j, hj, hne with
        | 0, _, hne => exact fun q hq i => by show gi (pt h4 52 2 1) (25 + q) i = gi h (25 + q) i; rw [gi_ne (by omega), fr_gi f4 (rg_no (kB_at (A := 25) rfl hq) _)]
        | 1, _, hne => exact fun q hq i => by show gi (pt h4 52 2 1) (34 + q) i = gi h (34 + q) i; rw [gi_ne (by omega), fr_gi f4 (rg_no (kB_at (A := 34) rfl hq) _)]
        | 2, _, hne => exact absurd rfl hne
  · have z0 : (0 : Int32).toInt = 0 := rfl
    by_cases h0 : x < 0
    · refine E_ifT rfl (decide_eq_true h0) ?_
      refine E_c rfl ?_
      exact E_rti rfl (.inr ⟨hr, rfl⟩)
    · refine E_ifF rfl (decide_eq_false h0) ?_
      refine E_il rfl L1 ?_
      refine E_ci 3 rfl (by decide) ?_
      refine E_icF rfl (decide_eq_false (fun q => hr ?_)) ?_
      · have q1 := Int32.lt_iff_toInt_lt.mp q
        rw [nJ_toInt (by omega)] at q1
        have q2 : ¬ x.toInt < (0 : Int32).toInt := fun z => h0 (Int32.lt_iff_toInt_lt.mpr z)
        omega
      · refine E_c rfl ?_
        exact E_rti rfl (.inr ⟨hr, rfl⟩)
theorem sp_backX8 (hh : HH h) : Sp 20 82 h [.ref 0, .int x] (fun h' _ => BX8 h x h') := by
  refine Sp_of (d := 19) aiX8_back rfl rfl rfl ?_
  have L0 : pm_get (lv_args 0 [.ref 0, .int x]) 0 = some (.ref 0) := rfl
  have L1 : pm_get (lv_args 0 [.ref 0, .int x]) 1 = some (.int x) := rfl
  generalize lv_args 0 [.ref 0, .int x] = lv at L0 L1 ⊢
  refine E_il rfl L1 ?_
  by_cases hr : 0 ≤ x.toInt ∧ x.toInt ≤ 2
  · obtain ⟨k, hk, rfl⟩ := nJ_of2 (n := 2) hr.1 hr.2
    refine E_ifF rfl (decide_eq_false (nJ_lt0 (by omega))) ?_
    refine E_il rfl L1 ?_
    refine E_ci 3 rfl (by decide) ?_
    refine E_icT rfl (decide_eq_true ((nJ_lt (by omega) (by omega)).mpr (by omega))) ?_
    refine E_al rfl L0 ?_
    refine E_ogr rfl hh rfl (q := 52) rfl ?_
    refine E_il rfl L1 ?_
    refine E_zalA rfl hh rfl (by omega) ?_
    by_cases hz : gi h 52 k = 0
    · refine E_ifF rfl (decide_eq_false (fun q => q hz)) ?_
      refine E_c rfl ?_
      refine E_rti rfl (.inr ⟨?_, rfl⟩)
      rintro ⟨j, hj, ej, nj⟩
      rw [(nJ_eq (by omega) (by omega)).mp ej] at hz
      exact nj hz
    · refine E_ifT rfl (decide_eq_true hz) ?_
      match k, hk, hz with
      | 0, _, hz =>
        refine E_al rfl L0 ?_
        refine E_ogr rfl hh rfl (q := 15) rfl ?_
        refine E_al rfl L0 ?_
        refine E_ogr rfl hh rfl (q := 24) rfl ?_
        refine E_il rfl L1 ?_
        refine E_aal rfl hh rfl (q := 25) rfl (by decide) ?_
        refine E_call rfl (Sp_le (by omega) (sp_take_15_25 (d := 0) hh)) (chkO (a := 15) hh rfl rfl rfl rfl (by show 0 ≤ 8; decide)) (fun h4 r4 => ?_)
        rintro ⟨e4, hh4, f4, t0, t1, t2⟩
        rw [e4]
        refine E_ci 0 rfl (by decide) ?_
        refine E_rti rfl (.inl ⟨0, by omega, rfl, hz, ⟨t0, fun i hi => (t1 i hi).2.2.1, fun i hi => ⟨(t1 i hi).1, (t1 i hi).2.1, (t1 i hi).2.2.2.1, (t1 i hi).2.2.2.2⟩, t2⟩, fun j hj => ?_⟩)
        match j, hj with
        | 0, _ => exact fun q hq i => by show gi h4 (25 + q) i = gi h (25 + q) i; rw [fr_gi f4 (rg_no (kB_at (A := 25) rfl hq) _)]
        | 1, _ => exact fun q hq i => by show gi h4 (34 + q) i = gi h (34 + q) i; rw [fr_gi f4 (rg_no (kB_at (A := 34) rfl hq) _)]
        | 2, _ => exact fun q hq i => by show gi h4 (43 + q) i = gi h (43 + q) i; rw [fr_gi f4 (rg_no (kB_at (A := 43) rfl hq) _)]
      | 1, _, hz =>
        refine E_al rfl L0 ?_
        refine E_ogr rfl hh rfl (q := 15) rfl ?_
        refine E_al rfl L0 ?_
        refine E_ogr rfl hh rfl (q := 24) rfl ?_
        refine E_il rfl L1 ?_
        refine E_aal rfl hh rfl (q := 34) rfl (by decide) ?_
        refine E_call rfl (Sp_le (by omega) (sp_take_15_34 (d := 0) hh)) (chkO (a := 15) hh rfl rfl rfl rfl (by show 0 ≤ 8; decide)) (fun h4 r4 => ?_)
        rintro ⟨e4, hh4, f4, t0, t1, t2⟩
        rw [e4]
        refine E_ci 0 rfl (by decide) ?_
        refine E_rti rfl (.inl ⟨1, by omega, rfl, hz, ⟨t0, fun i hi => (t1 i hi).2.2.1, fun i hi => ⟨(t1 i hi).1, (t1 i hi).2.1, (t1 i hi).2.2.2.1, (t1 i hi).2.2.2.2⟩, t2⟩, fun j hj => ?_⟩)
        match j, hj with
        | 0, _ => exact fun q hq i => by show gi h4 (25 + q) i = gi h (25 + q) i; rw [fr_gi f4 (rg_no (kB_at (A := 25) rfl hq) _)]
        | 1, _ => exact fun q hq i => by show gi h4 (34 + q) i = gi h (34 + q) i; rw [fr_gi f4 (rg_no (kB_at (A := 34) rfl hq) _)]
        | 2, _ => exact fun q hq i => by show gi h4 (43 + q) i = gi h (43 + q) i; rw [fr_gi f4 (rg_no (kB_at (A := 43) rfl hq) _)]
      | 2, _, hz =>
        refine E_al rfl L0 ?_
        refine E_ogr rfl hh rfl (q := 15) rfl ?_
        refine E_al rfl L0 ?_
        refine E_ogr rfl hh rfl (q := 24) rfl ?_
        refine E_il rfl L1 ?_
        refine E_aal rfl hh rfl (q := 43) rfl (by decide) ?_
        refine E_call rfl (Sp_le (by omega) (sp_take_15_43 (d := 0) hh)) (chkO (a := 15) hh rfl rfl rfl rfl (by show 0 ≤ 8; decide)) (fun h4 r4 => ?_)
        rintro ⟨e4, hh4, f4, t0, t1, t2⟩
        rw [e4]
        refine E_ci 0 rfl (by decide) ?_
        refine E_rti rfl (.inl ⟨2, by omega, rfl, hz, ⟨t0, fun i hi => (t1 i hi).2.2.1, fun i hi => ⟨(t1 i hi).1, (t1 i hi).2.1, (t1 i hi).2.2.2.1, (t1 i hi).2.2.2.2⟩, t2⟩, fun j hj => ?_⟩)
        match j, hj with
        | 0, _ => exact fun q hq i => by show gi h4 (25 + q) i = gi h (25 + q) i; rw [fr_gi f4 (rg_no (kB_at (A := 25) rfl hq) _)]
        | 1, _ => exact fun q hq i => by show gi h4 (34 + q) i = gi h (34 + q) i; rw [fr_gi f4 (rg_no (kB_at (A := 34) rfl hq) _)]
        | 2, _ => exact fun q hq i => by show gi h4 (43 + q) i = gi h (43 + q) i; rw [fr_gi f4 (rg_no (kB_at (A := 43) rfl hq) _)]
  · have z0 : (0 : Int32).toInt = 0 := rfl
    by_cases h0 : x < 0
    · refine E_ifT rfl (decide_eq_true h0) ?_
      refine E_c rfl ?_
      exact E_rti rfl (.inr ⟨fun ⟨j, hj, ej, _⟩ => hr (by rw [ej, nJ_toInt (by omega)]; omega), rfl⟩)
    · refine E_ifF rfl (decide_eq_false h0) ?_
      refine E_il rfl L1 ?_
      refine E_ci 3 rfl (by decide) ?_
      refine E_icF rfl (decide_eq_false (fun q => hr ?_)) ?_
      · have q1 := Int32.lt_iff_toInt_lt.mp q
        rw [nJ_toInt (by omega)] at q1
        have q2 : ¬ x.toInt < (0 : Int32).toInt := fun z => h0 (Int32.lt_iff_toInt_lt.mpr z)
        omega
      · refine E_c rfl ?_
        exact E_rti rfl (.inr ⟨fun ⟨j, hj, ej, _⟩ => hr (by rw [ej, nJ_toInt (by omega)]; omega), rfl⟩)
end IM8
section IM9
variable {h : pm_H} {d : Nat} {x : Int32}
noncomputable def IX9 (h : pm_H) (x : Int32) (h' : pm_H) : Prop := (∃ k, k < 3 ∧ x = nJ k ∧ CP9 (k + 1) 0 h h' ∧ ∀ r, r ≤ 3 → r ≠ k + 1 → KE9 r h h') ∨ (¬ (0 ≤ x.toInt ∧ x.toInt ≤ 2) ∧ ∀ r, KE9 r h h')
noncomputable def BX9 (h : pm_H) (x : Int32) (h' : pm_H) : Prop := (∃ k, k < 3 ∧ x = nJ k ∧ ¬ gi h 88 k = 0 ∧ CP9 0 (k + 1) h h' ∧ ∀ r, r ≤ 3 → r ≠ 0 → KE9 r h h') ∨ (¬ (∃ k, k < 3 ∧ x = nJ k ∧ ¬ gi h 88 k = 0) ∧ ∀ r, KE9 r h h')
theorem KE9_77 {r : Nat} {v : Int32} {j : Nat} : KE9 r h (pt h 77 j v) := ⟨gi_ne (by omega), fun _ _ => gi_ne (by omega), fun _ _ => gi_ne (by omega), fun _ _ => gi_ne (by omega), fun _ _ => gi_ne (by omega)⟩
theorem sp_imageX9 (hh0 : HH h) : Sp (d + 4) 260 h [.ref 77, .int x] (fun h' _ => IX9 h x h') := by
  refine Sp_of aiX9_image rfl rfl rfl ?_
  have L0 : pm_get (lv_args 0 [.ref 77, .int x]) 0 = some (.ref 77) := rfl
  have L1 : pm_get (lv_args 0 [.ref 77, .int x]) 1 = some (.int x) := rfl
  generalize lv_args 0 [.ref 77, .int x] = lv at L0 L1 ⊢
  refine E_al rfl L0 ?_
  refine E_ci 0 rfl (by decide) ?_
  refine E_pf rfl hh0 rfl ?_
  have hh1 : HH (pt h 77 0 (nJ 0)) := HH_ptn hh0 rfl (by omega) (by omega) (by omega)
  have z : ∀ a k, a ≠ 77 → gi (pt h 77 0 (nJ 0)) a k = gi h a k := fun a k ha => gi_ne (fun q => absurd q ha)
  have kz : ∀ r, KE9 r h (pt h 77 0 (nJ 0)) := fun r => KE9_77
  generalize pt h 77 0 (nJ 0) = g at hh1 z kz ⊢
  refine E_il rfl L1 ?_
  refine E_i2l rfl ?_
  refine E_c rfl ?_
  refine E_c rfl ?_
  refine E_call rfl (Sp_le (by omega) (sp_in (d := d) (a := x.toInt) (b := 0) (c := 2) (i2l_toInt _) rfl rfl)) (chkS rfl (by show 0 ≤ 8; decide)) (fun h2 r2 => ?_)
  rintro ⟨e2, f2⟩
  rw [e2, f2]
  by_cases hb3 : 0 ≤ x.toInt ∧ x.toInt ≤ 2
  · refine E_ifT rfl (by rw [zb_T hb3]; rfl) ?_
    obtain ⟨k, hk, rfl⟩ := nJ_of2 (n := 2) hb3.1 hb3.2
    refine E_al rfl L0 ?_
    refine E_ci 0 rfl (by decide) ?_
    refine E_ci 1 rfl (by decide) ?_
    refine E_il rfl L1 ?_
    refine E_bin rfl (nJ_add _ _) ?_
    refine E_call rfl (Sp_le (by omega) (sp_cpY (d := d) (a := 0) (b := 1 + k) hh1 (by omega) (by omega) (by omega))) (chk77 hh1 rfl rfl (by show 0 ≤ 8; decide)) (fun h4 r4 => ?_)
    rintro ⟨e4, hh4, f4, c4, k4⟩
    rw [e4]
    refine E_al rfl L0 ?_
    refine E_gr rfl hh4 (q := 88) rfl ?_
    refine E_il rfl L1 ?_
    refine E_ci 1 rfl (by decide) ?_
    refine E_zas rfl hh4 (by omega) ?_
    refine E_ci 0 rfl (by decide) ?_
    have w : ∀ a i, a ≠ 88 → gi (pt h4 88 k 1) a i = gi h4 a i := fun a i ha => gi_ne (fun q => absurd q ha)
    rw [show 1 + k = k + 1 by omega] at c4 k4
    refine E_rti rfl (.inl ⟨k, by omega, rfl, ⟨?_, fun i hi => ?_, fun i hi => ?_, fun i hi => ?_, fun i hi => ?_⟩, fun r hr hne => ⟨?_, fun i hi => ?_, fun i hi => ?_, fun i hi => ?_, fun i hi => ?_⟩⟩)
    · rw [w _ _ (by omega), c4.1, z _ _ (by omega)]
    · rw [w _ _ (by omega), c4.2.1 i hi, z _ _ (by omega)]
    · rw [w _ _ (by omega), c4.2.2.1 i hi, z _ _ (by omega)]
    · rw [w _ _ (by omega), c4.2.2.2.1 i hi, z _ _ (by omega)]
    · rw [w _ _ (by omega), c4.2.2.2.2 i hi, z _ _ (by omega)]
    · rw [w _ _ (by omega), (k4 r (by omega) hne).1, z _ _ (by omega)]
    · rw [w _ _ (by omega), (k4 r (by omega) hne).2.1 i hi, z _ _ (by omega)]
    · rw [w _ _ (by omega), (k4 r (by omega) hne).2.2.1 i hi, z _ _ (by omega)]
    · rw [w _ _ (by omega), (k4 r (by omega) hne).2.2.2.1 i hi, z _ _ (by omega)]
    · rw [w _ _ (by omega), (k4 r (by omega) hne).2.2.2.2 i hi, z _ _ (by omega)]
  · refine E_ifF rfl (by rw [zb_F hb3]; rfl) ?_
    refine E_c rfl ?_
    exact E_rti rfl (.inr ⟨hb3, kz⟩)
theorem sp_backX9 (hh0 : HH h) : Sp (d + 4) 212 h [.ref 77, .int x] (fun h' _ => BX9 h x h') := by
  refine Sp_of aiX9_back rfl rfl rfl ?_
  have L0 : pm_get (lv_args 0 [.ref 77, .int x]) 0 = some (.ref 77) := rfl
  have L1 : pm_get (lv_args 0 [.ref 77, .int x]) 1 = some (.int x) := rfl
  generalize lv_args 0 [.ref 77, .int x] = lv at L0 L1 ⊢
  refine E_al rfl L0 ?_
  refine E_ci 0 rfl (by decide) ?_
  refine E_pf rfl hh0 rfl ?_
  have hh1 : HH (pt h 77 0 (nJ 0)) := HH_ptn hh0 rfl (by omega) (by omega) (by omega)
  have z : ∀ a k, a ≠ 77 → gi (pt h 77 0 (nJ 0)) a k = gi h a k := fun a k ha => gi_ne (fun q => absurd q ha)
  have kz : ∀ r, KE9 r h (pt h 77 0 (nJ 0)) := fun r => KE9_77
  generalize pt h 77 0 (nJ 0) = g at hh1 z kz ⊢
  refine E_il rfl L1 ?_
  refine E_i2l rfl ?_
  refine E_c rfl ?_
  refine E_c rfl ?_
  refine E_call rfl (Sp_le (by omega) (sp_in (d := d) (a := x.toInt) (b := 0) (c := 2) (i2l_toInt _) rfl rfl)) (chkS rfl (by show 0 ≤ 8; decide)) (fun h2 r2 => ?_)
  rintro ⟨e2, f2⟩
  rw [e2, f2]
  by_cases hb3 : 0 ≤ x.toInt ∧ x.toInt ≤ 2
  · refine E_ifT rfl (by rw [zb_T hb3]; rfl) ?_
    obtain ⟨k, hk, rfl⟩ := nJ_of2 (n := 2) hb3.1 hb3.2
    refine E_al rfl L0 ?_
    refine E_gr rfl hh1 (q := 88) rfl ?_
    refine E_il rfl L1 ?_
    refine E_zalB (v := gi h 88 k) rfl hh1 rfl (by omega) (by decide) (z 88 k (by omega)) ?_
    by_cases hz : gi h 88 k = 0
    · refine E_ifF rfl (decide_eq_false (fun q => q hz)) ?_
      refine E_c rfl ?_
      refine E_rti rfl (.inr ⟨?_, kz⟩)
      rintro ⟨j, hj, ej, nj⟩
      rw [(nJ_eq (by omega) (by omega)).mp ej] at hz
      exact nj hz
    · refine E_ifT rfl (decide_eq_true hz) ?_
      refine E_al rfl L0 ?_
      refine E_ci 1 rfl (by decide) ?_
      refine E_il rfl L1 ?_
      refine E_bin rfl (nJ_add _ _) ?_
      refine E_ci 0 rfl (by decide) ?_
      refine E_call rfl (Sp_le (by omega) (sp_cpY (d := d) (a := 1 + k) (b := 0) hh1 (by omega) (by omega) (by omega))) (chk77 hh1 rfl rfl (by show 0 ≤ 8; decide)) (fun h4 r4 => ?_)
      rintro ⟨e4, hh4, f4, c4, k4⟩
      rw [e4]
      refine E_ci 0 rfl (by decide) ?_
      rw [show 1 + k = k + 1 by omega] at c4
      refine E_rti rfl (.inl ⟨k, by omega, rfl, hz, ⟨?_, fun i hi => ?_, fun i hi => ?_, fun i hi => ?_, fun i hi => ?_⟩, fun r hr hne => ⟨?_, fun i hi => ?_, fun i hi => ?_, fun i hi => ?_, fun i hi => ?_⟩⟩)
      · rw [c4.1, z _ _ (by omega)]
      · rw [c4.2.1 i hi, z _ _ (by omega)]
      · rw [c4.2.2.1 i hi, z _ _ (by omega)]
      · rw [c4.2.2.2.1 i hi, z _ _ (by omega)]
      · rw [c4.2.2.2.2 i hi, z _ _ (by omega)]
      · rw [(k4 r (by omega) hne).1, z _ _ (by omega)]
      · rw [(k4 r (by omega) hne).2.1 i hi, z _ _ (by omega)]
      · rw [(k4 r (by omega) hne).2.2.1 i hi, z _ _ (by omega)]
      · rw [(k4 r (by omega) hne).2.2.2.1 i hi, z _ _ (by omega)]
      · rw [(k4 r (by omega) hne).2.2.2.2 i hi, z _ _ (by omega)]
  · refine E_ifF rfl (by rw [zb_F hb3]; rfl) ?_
    refine E_c rfl ?_
    exact E_rti rfl (.inr ⟨fun ⟨j, hj, ej, _⟩ => hb3 (by rw [ej, nJ_toInt (by omega)]; omega), kz⟩)
end IM9
end
section
/-! the streets' relation and pairs of calls over it (wants t33, t53, t56 to t60) -/
noncomputable def ST1 (A r : Nat) (h : pm_H) : Prop := gi h A 3 = gi h 83 r ∧ (∀ k, k < 3 → gi h A k = gi h 84 (6 * r + k)) ∧ gi h A 4 = gi h 84 (6 * r + 3) ∧ gi h A 5 = gi h 84 (6 * r + 4) ∧ (gn h A 0 = 0 ↔ ¬ 0 < (gi h A 3).toInt)
noncomputable def STA (A r : Nat) (h : pm_H) : Prop := gi h A 6 = gi h 84 (6 * r + 5)
noncomputable def STD (A r : Nat) (h : pm_H) : Prop := ∀ i, i < 8 → i < gn h A 4 → gi h (A + 3) i = gi h 85 (16 * r + (2 * i + 1))
noncomputable def BN (A : Nat) (h : pm_H) : Prop := gn h A 4 ≤ 8 ∧ gn h A 5 ≤ 8 ∧ gn h A 6 ≤ 20
noncomputable def TJ (A r : Nat) (h : pm_H) : Prop := (∀ i, i < gn h A 4 → gi h (A + 1) i = gi h 85 (16 * r + 2 * i)) ∧ ∀ i, i < gn h A 5 → gi h (A + 4) i = gi h 86 (16 * r + 2 * i) ∧ gi h (A + 5) i = gi h 86 (16 * r + (2 * i + 1))
noncomputable def AC (A r n : Nat) (h : pm_H) : Prop := ∀ i, i < n → gi h (A + 6) i = gi h 87 (60 * r + (3 * i + 1)) ∧ gi h (A + 7) i = gi h 87 (60 * r + (3 * i + 2)) ∧ gi h (A + 8) i = gi h 87 (60 * r + 3 * i)
noncomputable def VT (A : Nat) (h : pm_H) : Prop := ∀ i, i < gn h A 4 → 1 ≤ gn h (A + 1) i ∧ gn h (A + 1) i ≤ gn h A 0
noncomputable def VA (A : Nat) (h : pm_H) : Prop := ∀ i, i < gn h A 6 → vAct (gn h A 4) (gn h A 0) (gn h (A + 6)) (gn h (A + 7)) (gn h (A + 8)) i
noncomputable def NW (A : Nat) (h : pm_H) : Prop := ∀ i, i < gn h A 4 → gn h (A + 2) i = nwF (gn h (A + 6)) (gn h (A + 7)) (gn h (A + 8)) (gn h (A + 1)) (gn h A 6) i
noncomputable def FS (A r : Nat) (h : pm_H) : Prop := BN A h ∧ TJ A r h ∧ AC A r (gn h A 6) h ∧ VT A h ∧ VA A h ∧ NW A h
noncomputable def ST (A r : Nat) (h : pm_H) : Prop := ST1 A r h ∧ STA A r h ∧ STD A r h ∧ FS A r h
theorem gn_eq {h h' : pm_H} {a b k j : Nat} (e : gi h' a k = gi h b j) : gn h' a k = gn h b j := by unfold gn; rw [e]
theorem FS_cp {A B r s : Nat} {h h' : pm_H} (c : CPY A B h h') (k : CP9 r s h h') (S : FS B s h) : FS A r h' := by
  obtain ⟨c1, -, c3, c4⟩ := c
  obtain ⟨-, -, k3, k4, k5⟩ := k
  obtain ⟨⟨b1, b2, b3⟩, ⟨t1, t2⟩, ac, vt, va, nw⟩ := S
  have e : ∀ j, j < 7 → gn h' A j = gn h B j := fun j hj => gn_eq (c1 j hj)
  have e4 := e 4 (by omega)
  have e5 := e 5 (by omega)
  have e6 := e 6 (by omega)
  have e0 := e 0 (by omega)
  refine ⟨⟨by omega, by omega, by omega⟩, ⟨fun i hi => ?_, fun i hi => ?_⟩, fun i hi => ?_, fun i hi => ?_, fun i hi => ?_, fun i hi => ?_⟩
  · rw [(c3 i (by omega)).1, k3 _ (by omega)]; exact t1 i (by omega)
  · rw [(c3 i (by omega)).2.2.1, (c3 i (by omega)).2.2.2, k4 _ (by omega), k4 _ (by omega)]; exact t2 i (by omega)
  · rw [(c4 i (by omega)).1, (c4 i (by omega)).2.1, (c4 i (by omega)).2.2, k5 _ (by omega), k5 _ (by omega), k5 _ (by omega)]; exact ac i (by omega)
  · rw [gn_eq (c3 i (by omega)).1, e0]; exact vt i (by omega)
  · have v := va i (by omega)
    unfold vAct at v ⊢
    rw [gn_eq (c4 i (by omega)).1, gn_eq (c4 i (by omega)).2.1, gn_eq (c4 i (by omega)).2.2, e4, e0]
    exact v
  · rw [gn_eq (c3 i (by omega)).2.1, nw i (by omega), e6]
    exact (nwF_cg (gn h B 6) (fun q hq => ⟨gn_eq (c4 q (by omega)).1, gn_eq (c4 q (by omega)).2.1, gn_eq (c4 q (by omega)).2.2⟩) va (fun j hj => gn_eq (c3 j (by omega)).1) i (by omega)).symm
theorem ST_cp {A B r s : Nat} {h h' : pm_H} (c : CPY A B h h') (k : CP9 r s h h') (S : ST B s h) : ST A r h' := by
  have fs := FS_cp c k S.2.2.2
  obtain ⟨c1, c2, -⟩ := c
  obtain ⟨k1, k2, k3, -⟩ := k
  obtain ⟨⟨s1, s2, s3, s4, s5⟩, sa, sd, -⟩ := S
  refine ⟨⟨?_, fun i hi => ?_, ?_, ?_, ?_⟩, ?_, fun i hi h4 => ?_, fs⟩
  · rw [c1 3 (by omega), k1]; exact s1
  · rw [c1 i (by omega), k2 i (by omega)]; exact s2 i hi
  · rw [c1 4 (by omega), k2 3 (by omega)]; exact s3
  · rw [c1 5 (by omega), k2 4 (by omega)]; exact s4
  · rw [c1 3 (by omega), gn_eq (c1 0 (by omega))]; exact s5
  · show gi h' A 6 = gi h' 84 (6 * r + 5)
    rw [c1 6 (by omega), k2 5 (by omega)]; exact sa
  · rw [gn_eq (c1 4 (by omega))] at h4
    rw [c2 i hi, k3 _ (by omega)]; exact sd i hi h4
theorem KEE_c {A : Nat} {h h' : pm_H} (k : KEE A h h') : CPY A A h h' := ⟨fun j _ => k 0 (by omega) j, fun i _ => k 3 (by omega) i, fun i _ => ⟨k 1 (by omega) i, k 2 (by omega) i, k 4 (by omega) i, k 5 (by omega) i⟩, fun i _ => ⟨k 6 (by omega) i, k 7 (by omega) i, k 8 (by omega) i⟩⟩
theorem KE9_c {r : Nat} {h h' : pm_H} (k : KE9 r h h') : CP9 r r h h' := k
noncomputable def IMG (h : pm_H) : Prop := ∀ k, k < 3 → ¬ gi h 52 k = 0 → ST (imA k) (k + 1) h
noncomputable def RST (h : pm_H) : Prop := ST 15 0 h ∧ IMG h
noncomputable def QRE (h : pm_H) : Prop := RES h ∧ RST h
noncomputable def IVQ (h : pm_H) : Prop := IVh h ∧ QRE h
noncomputable def nocell (M : List Rng) (a : Nat) : Bool := M.all (fun r => !(Nat.beq r.1 a))
noncomputable def clB (M : List Rng) : Bool := [15, 16, 17, 18, 19, 20, 21, 22, 23, 25, 26, 27, 28, 29, 30, 31, 32, 33, 34, 35, 36, 37, 38, 39, 40, 41, 42, 43, 44, 45, 46, 47, 48, 49, 50, 51, 52].all (nocell M)
noncomputable def rwB (M : List Rng) : Bool := [83, 84, 85, 86, 87].all (nocell M)
noncomputable def stB (M : List Rng) : Bool := clB M && rwB M
noncomputable def qrB (M : List Rng) : Bool := resB M && stB M
theorem nc_at {M : List Rng} {L : List Nat} (h : L.all (nocell M) = true) {a : Nat} (ha : a ∈ L) : M.all (fun r => !(Nat.beq r.1 a)) = true := List.all_eq_true.mp h a ha
theorem kB_cl {M : List Rng} {L : List Nat} {A : Nat} (h : L.all (nocell M) = true) (hA : ∀ q, q ≤ 8 → A + q ∈ L) : kB M A = true := List.all_eq_true.mpr (fun q hq => nc_at h (hA q (by have := List.mem_range.mp hq; omega)))
theorem KEE_15 {M : List Rng} {h h' : pm_H} (hf : fr_g M h h') (hb : clB M = true) : KEE 15 h h' := KEE_fr hf (kB_cl hb (by decide))
theorem KEE_im {M : List Rng} {h h' : pm_H} (hf : fr_g M h h') (hb : clB M = true) : ∀ k, k < 3 → KEE (imA k) h h'
  | 0, _ => KEE_fr hf (kB_cl hb (by decide))
  | 1, _ => KEE_fr hf (kB_cl hb (by decide))
  | 2, _ => KEE_fr hf (kB_cl hb (by decide))
theorem KE9_fr {M : List Rng} {h h' : pm_H} (hf : fr_g M h h') (hb : rwB M = true) (r : Nat) : KE9 r h h' := ⟨fr_gi hf (rg_no (nc_at hb (by decide)) _), fun _ _ => fr_gi hf (rg_no (nc_at hb (by decide)) _), fun _ _ => fr_gi hf (rg_no (nc_at hb (by decide)) _), fun _ _ => fr_gi hf (rg_no (nc_at hb (by decide)) _), fun _ _ => fr_gi hf (rg_no (nc_at hb (by decide)) _)⟩
theorem RST_fr {M : List Rng} {h h' : pm_H} (hf : fr_g M h h') (hb : stB M = true) (R : RST h) : RST h' := by
  unfold stB at hb
  rw [Bool.and_eq_true] at hb
  refine ⟨ST_cp (KEE_c (KEE_15 hf hb.1)) (KE9_c (KE9_fr hf hb.2 0)) R.1, fun k hk q => ?_⟩
  rw [fr_gi hf (rg_no (nc_at hb.1 (by decide)) _)] at q
  exact ST_cp (KEE_c (KEE_im hf hb.1 k hk)) (KE9_c (KE9_fr hf hb.2 _)) (R.2 k hk q)
theorem QRE_fr {M : List Rng} {h h' : pm_H} (hf : fr_g M h h') (hb : qrB M = true) (R : QRE h) : QRE h' := by
  unfold qrB at hb
  rw [Bool.and_eq_true] at hb
  exact ⟨RES_fr hf hb.1 R.1, RST_fr hf hb.2 R.2⟩
theorem tQ_int {d y : Nat} {h : pm_H} {as : List Value} {M : List Rng} (hd : Nat.ble d 100 = true) (hM : qrB M = true) (R : QRE h) (k : Sp d y h as (fun h' r => IVh h' ∧ fr_g M h h' ∧ ∃ x : Int32, r = some (.int x))) : Sp 100 y h as (fun h' r => IVQ h' ∧ ∃ x : Int32, r = some (.int x)) :=
  Sp_le (Nat.le_of_ble_eq_true hd) (Sp_mono (fun _ _ q => ⟨⟨q.1, QRE_fr q.2.1 hM R⟩, q.2.2⟩) k)
theorem tQ_lng {d y : Nat} {h : pm_H} {as : List Value} {M : List Rng} (hd : Nat.ble d 100 = true) (hM : qrB M = true) (R : QRE h) (k : Sp d y h as (fun h' r => IVh h' ∧ fr_g M h h' ∧ ∃ x : Int64, r = some (.long x))) : Sp 100 y h as (fun h' r => IVQ h' ∧ ∃ x : Int64, r = some (.long x)) :=
  Sp_le (Nat.le_of_ble_eq_true hd) (Sp_mono (fun _ _ q => ⟨⟨q.1, QRE_fr q.2.1 hM R⟩, q.2.2⟩) k)
theorem hf_Q {d y : Nat} {h : pm_H} {as : List Value} {M : List Rng} {P : pm_H → Int32 → Prop} {U : pm_H → Option Value → Prop} (hd : d ≤ 100) (hM : stB M = true) (S : RST h) (a : Sp 100 y h as (fun h' r => IVh h' ∧ ∃ x : Int32, r = some (.int x) ∧ P h' x)) (b : Sp d y h as (fun h' r => U h' r ∧ fr_g M h h')) : Sp 100 y h as (fun h' r => IVh h' ∧ ∃ x : Int32, r = some (.int x) ∧ (P h' x ∧ RST h')) :=
  Sp_mono (fun _ _ q => by
    obtain ⟨⟨q1, x, q2, q3⟩, -, q4⟩ := q
    exact ⟨q1, x, q2, q3, RST_fr q4 hM S⟩) (Sp_an a (Sp_le hd b))
theorem hs_Q {d y : Nat} {h : pm_H} {as : List Value} {M : List Rng} {P : Option Value → Prop} {U : pm_H → Option Value → Prop} (hd : d ≤ 100) (hM : stB M = true) (S : RST h) (a : Sp 100 y h as (fun h' r => IVS h' ∧ P r)) (b : Sp d y h as (fun h' r => U h' r ∧ fr_g M h h')) : Sp 100 y h as (fun h' r => IVQ h' ∧ P r) :=
  Sp_mono (fun _ _ q => by
    obtain ⟨⟨q1, q2⟩, -, q4⟩ := q
    exact ⟨⟨q1.1, q1.2, RST_fr q4 hM S⟩, q2⟩) (Sp_an a (Sp_le hd b))
section OLQ
variable {h : pm_H} {x v a b c d e : Int32} {w : Int64}
theorem g8_feed (I : IVQ h) : Sp 100 106 h [.ref 0, .int a, .int b, .int c, .int d, .int e] (fun h' r => IVh h' ∧ ∃ x : Int32, r = some (.int x) ∧ ((half_feed h' x a b c d e ∧ SL h') ∧ RST h')) :=
  hf_Q (by omega) rfl I.2.2 (d8_feed ⟨I.1, I.2.1⟩) (tf_all (as := [.ref 0, .int a, .int b, .int c, .int d, .int e]) q1 (by decide +kernel) I.1 ⟨rfl, aI _, aI _, aI _, aI _, aI _, trivial⟩)
theorem g9_feed (I : IVh h) (J : (half_feed h x a b c d e ∧ SL h) ∧ RST h) : Sp 100 247 h [.ref 77, .int a, .int b, .int c, .int d, .int e] (fun h' r => IVQ h' ∧ r = some (.int x)) :=
  hs_Q (by omega) rfl J.2 (d9_feed I J.1) (tf_all (as := [.ref 77, .int a, .int b, .int c, .int d, .int e]) q7 (by decide +kernel) I ⟨rfl, aI _, aI _, aI _, aI _, aI _, trivial⟩)
theorem g8_end (I : IVQ h) : Sp 100 101 h [.ref 0, .int v] (fun h' r => IVh h' ∧ ∃ x : Int32, r = some (.int x) ∧ ((half_end h' x v ∧ SL h') ∧ RST h')) :=
  hf_Q (by omega) rfl I.2.2 (d8_end ⟨I.1, I.2.1⟩) (tf_all (as := [.ref 0, .int v]) q8 (by decide +kernel) I.1 ⟨rfl, aI _, trivial⟩)
theorem g9_end (I : IVh h) (J : (half_end h x v ∧ SL h) ∧ RST h) : Sp 100 241 h [.ref 77, .int v] (fun h' r => IVQ h' ∧ r = some (.int x)) :=
  hs_Q (by omega) rfl J.2 (d9_end I J.1) (tf_all (as := [.ref 77, .int v]) q10 (by decide +kernel) I ⟨rfl, aI _, trivial⟩)
theorem g8_row (I : IVQ h) : Sp 100 171 h [.ref 0, .int a, .int b, .int c] (fun h' r => IVh h' ∧ ∃ x : Int32, r = some (.int x) ∧ (half_row h' x a b c ∧ RST h')) :=
  hf_Q (by omega) rfl I.2.2 (d8_row ⟨I.1, I.2.1⟩) (tf_all (as := [.ref 0, .int a, .int b, .int c]) q949 (by decide +kernel) I.1 ⟨rfl, aI _, aI _, aI _, trivial⟩)
theorem g9_row (I : IVh h) (J : half_row h x a b c ∧ RST h) : Sp 100 338 h [.ref 77, .int a, .int b, .int c] (fun h' r => IVQ h' ∧ r = some (.int x)) :=
  hs_Q (by omega) rfl J.2 (d9_row I J.1) (tf_all (as := [.ref 77, .int a, .int b, .int c]) q950 (by decide +kernel) I ⟨rfl, aI _, aI _, aI _, trivial⟩)
theorem g8_write (I : IVQ h) : Sp 100 203 h [.ref 0, .int a, .int b, .long w] (fun h' r => IVh h' ∧ ∃ x : Int32, r = some (.int x) ∧ (half_write h' x a b ∧ RST h')) :=
  hf_Q (by omega) rfl I.2.2 (d8_write ⟨I.1, I.2.1⟩) (tf_all (as := [.ref 0, .int a, .int b, .long w]) q952 (by decide +kernel) I.1 ⟨rfl, aI _, aI _, aL _, trivial⟩)
theorem g9_write (I : IVh h) (J : half_write h x a b ∧ RST h) : Sp 100 380 h [.ref 77, .int a, .int b, .long w] (fun h' r => IVQ h' ∧ r = some (.int x)) :=
  hs_Q (by omega) rfl J.2 (d9_write I J.1) (tf_all (as := [.ref 77, .int a, .int b, .long w]) q955 (by decide +kernel) I ⟨rfl, aI _, aI _, aL _, trivial⟩)
theorem g8_paste (I : IVQ h) : Sp 100 158 h [.ref 0, .int a, .int b, .int c, .int d, .int e] (fun h' r => IVh h' ∧ ∃ x : Int32, r = some (.int x) ∧ (half_paste h' x a b c d e ∧ RST h')) :=
  hf_Q (M := PM) (U := fun h' _ => HH h') (d := 2) (by omega) rfl I.2.2 (d8_paste ⟨I.1, I.2.1⟩) (Sp_mono (fun _ _ q => ⟨q.1, q.2.1⟩) (sp_paste8 (d := 0) I.1.1))
theorem g9_paste (I : IVh h) (J : half_paste h x a b c d e ∧ RST h) : Sp 100 323 h [.ref 77, .int a, .int b, .int c, .int d, .int e] (fun h' r => IVQ h' ∧ r = some (.int x)) :=
  hs_Q (by omega) rfl J.2 (d9_paste I J.1) (tf_all (as := [.ref 77, .int a, .int b, .int c, .int d, .int e]) q961 (by decide +kernel) I ⟨rfl, aI _, aI _, aI _, aI _, aI _, trivial⟩)
end OLQ
/-! image and back -/
noncomputable def half_imQ (h : pm_H) (x v : Int32) : Prop := (half_image h x v ∧ SL h) ∧ ST 15 0 h ∧ ∀ j, j < 3 → (v = nJ j ∧ ST (imA j) 0 h) ∨ (¬ v = nJ j ∧ (¬ gi h 88 j = 0 → ST (imA j) (j + 1) h))
theorem g8_image {h : pm_H} {v : Int32} (I : IVQ h) : Sp 100 121 h [.ref 0, .int v] (fun h' r => IVh h' ∧ ∃ x : Int32, r = some (.int x) ∧ half_imQ h' x v) := by
  refine Sp_mono ?_ (Sp_an (d8_image ⟨I.1, I.2.1⟩) (Sp_le (by omega) (Sp_and (tf_all (as := [.ref 0, .int v]) q905 (by decide +kernel) I.1 ⟨rfl, aI _, trivial⟩) (sp_imageX8 I.1.1))))
  rintro h' r ⟨⟨q1, x, q2, q3⟩, ⟨-, q4⟩, q5⟩
  have k9 : ∀ r, KE9 r h h' := KE9_fr q4 rfl
  have e88 : ∀ j, gi h' 88 j = gi h 88 j := fun j => fr_gi q4 (rg_no rfl _)
  have kp := I.2.1.1.2
  refine ⟨q1, x, q2, q3, ?_⟩
  rcases q5 with ⟨k, hk, rfl, c1, k1, k2⟩ | ⟨hr, rfl⟩
  · refine ⟨ST_cp (KEE_c k1) (KE9_c (k9 0)) I.2.2.1, fun j hj => ?_⟩
    by_cases e : j = k
    · subst e
      exact .inl ⟨rfl, ST_cp c1 (KE9_c (k9 0)) I.2.2.1⟩
    · refine .inr ⟨fun q => e ((nJ_eq (by omega) (by omega)).mp q).symm, fun q => ?_⟩
      rw [e88 j, ← kp j hj] at q
      exact ST_cp (KEE_c (k2 j hj e)) (KE9_c (k9 _)) (I.2.2.2 j hj q)
  · refine ⟨I.2.2.1, fun j hj => .inr ⟨fun q => hr (by rw [q, nJ_toInt (by omega)]; omega), fun q => ?_⟩⟩
    rw [← kp j hj] at q
    exact I.2.2.2 j hj q
theorem g9_image {h : pm_H} {x v : Int32} (I : IVh h) (J : half_imQ h x v) : Sp 100 260 h [.ref 77, .int v] (fun h' r => IVQ h' ∧ r = some (.int x)) := by
  refine Sp_mono ?_ (Sp_an (d9_image I J.1) (Sp_le (by omega) (Sp_and (tv_image (d := 0) I.1 I.2.2) (sp_imageX9 (d := 0) I.1))))
  rintro h' r ⟨⟨q1, q2⟩, ⟨-, q4, -, -, q88⟩, q5⟩
  obtain ⟨-, s0, sj⟩ := J
  have cl : clB VMI = true := rfl
  have kp : ∀ j, j < 3 → gi h' 52 j = gi h' 88 j := q1.2.1.2
  refine ⟨⟨q1.1, q1.2, ?_⟩, q2⟩
  rcases q5 with ⟨k, hk, rfl, c1, k2⟩ | ⟨hr, k2⟩
  · refine ⟨ST_cp (KEE_c (KEE_15 q4 cl)) (KE9_c (k2 0 (by omega) (by omega))) s0, fun j hj q => ?_⟩
    rcases sj j hj with ⟨e, s⟩ | ⟨e, s⟩
    · have e := (nJ_eq (by omega) (by omega)).mp e
      subst e
      exact ST_cp (KEE_c (KEE_im q4 cl _ hj)) c1 s
    · rw [kp j hj, q88 j hj, if_neg e] at q
      have ne : j ≠ k := fun z => e (by rw [z])
      exact ST_cp (KEE_c (KEE_im q4 cl _ hj)) (KE9_c (k2 (j + 1) (by omega) (by omega))) (s q)
  · refine ⟨ST_cp (KEE_c (KEE_15 q4 cl)) (KE9_c (k2 0)) s0, fun j hj q => ?_⟩
    rcases sj j hj with ⟨e, -⟩ | ⟨e, s⟩
    · exact absurd (by rw [e, nJ_toInt (by omega)]; omega) hr
    · rw [kp j hj, q88 j hj, if_neg e] at q
      exact ST_cp (KEE_c (KEE_im q4 cl _ hj)) (KE9_c (k2 _)) (s q)
noncomputable def half_bkQ (h : pm_H) (x v : Int32) : Prop := (half_back h x v ∧ SL h) ∧ IMG h ∧ ((∃ k, k < 3 ∧ v = nJ k ∧ ¬ gi h 88 k = 0 ∧ ST 15 (k + 1) h) ∨ (¬ (∃ k, k < 3 ∧ v = nJ k ∧ ¬ gi h 88 k = 0) ∧ ST 15 0 h))
theorem g8_back {h : pm_H} {v : Int32} (I : IVQ h) : Sp 100 82 h [.ref 0, .int v] (fun h' r => IVh h' ∧ ∃ x : Int32, r = some (.int x) ∧ half_bkQ h' x v) := by
  refine Sp_mono ?_ (Sp_an (d8_back ⟨I.1, I.2.1⟩) (Sp_le (by omega) (Sp_and (tf_all (as := [.ref 0, .int v]) q927 (by decide +kernel) I.1 ⟨rfl, aI _, trivial⟩) (sp_backX8 I.1.1))))
  rintro h' r ⟨⟨q1, x, q2, q3⟩, ⟨-, q4⟩, q5⟩
  have k9 : ∀ r, KE9 r h h' := KE9_fr q4 rfl
  have e88 : ∀ j, gi h' 88 j = gi h 88 j := fun j => fr_gi q4 (rg_no rfl _)
  have e52 : ∀ j, gi h' 52 j = gi h 52 j := fun j => fr_gi q4 (rg_no rfl _)
  have kp := I.2.1.1.2
  refine ⟨q1, x, q2, q3, ?_⟩
  rcases q5 with ⟨k, hk, rfl, nz, c1, k2⟩ | ⟨hr, rfl⟩
  · refine ⟨fun j hj q => ?_, .inl ⟨k, hk, rfl, by rw [e88, ← kp k hk]; exact nz, ST_cp c1 (KE9_c (k9 _)) (I.2.2.2 k hk nz)⟩⟩
    rw [e52] at q
    exact ST_cp (KEE_c (k2 j hj)) (KE9_c (k9 _)) (I.2.2.2 j hj q)
  · refine ⟨I.2.2.2, .inr ⟨?_, I.2.2.1⟩⟩
    rintro ⟨k, hk, e, nz⟩
    exact hr ⟨k, hk, e, by rw [kp k hk]; exact nz⟩
theorem g9_back {h : pm_H} {x v : Int32} (I : IVh h) (J : half_bkQ h x v) : Sp 100 212 h [.ref 77, .int v] (fun h' r => IVQ h' ∧ r = some (.int x)) := by
  refine Sp_mono ?_ (Sp_an (d9_back I J.1) (Sp_le (by omega) (Sp_and (tv_back (d := 0) I.1 I.2.2) (sp_backX9 (d := 0) I.1))))
  rintro h' r ⟨⟨q1, q2⟩, ⟨-, q4, -, -⟩, q5⟩
  obtain ⟨-, im, s⟩ := J
  have cl : clB VM = true := rfl
  have e52 : ∀ j, gi h' 52 j = gi h 52 j := fun j => fr_gi q4 (rg_no rfl _)
  refine ⟨⟨q1.1, q1.2, ?_⟩, q2⟩
  rcases q5 with ⟨k, hk, rfl, nz, c1, k2⟩ | ⟨hr, k2⟩
  · rcases s with ⟨j, hj, e, -, s⟩ | ⟨e, -⟩
    · have e := (nJ_eq (by omega) (by omega)).mp e
      subst e
      refine ⟨ST_cp (KEE_c (KEE_15 q4 cl)) c1 s, fun j hj q => ?_⟩
      rw [e52] at q
      exact ST_cp (KEE_c (KEE_im q4 cl _ hj)) (KE9_c (k2 (j + 1) (by omega) (by omega))) (im j hj q)
    · exact absurd ⟨k, hk, rfl, nz⟩ e
  · rcases s with ⟨j, hj, e, nz, -⟩ | ⟨-, s⟩
    · exact absurd ⟨j, hj, e, nz⟩ hr
    · refine ⟨ST_cp (KEE_c (KEE_15 q4 cl)) (KE9_c (k2 0)) s, fun j hj q => ?_⟩
      rw [e52] at q
      exact ST_cp (KEE_c (KEE_im q4 cl _ hj)) (KE9_c (k2 _)) (im j hj q)
end
