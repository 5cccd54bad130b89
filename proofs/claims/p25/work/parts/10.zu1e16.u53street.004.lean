section
noncomputable def AAF : List Rng := [(15, 6, 6), (17, 0, 7), (21, 0, 19), (22, 0, 19), (23, 0, 19)]
noncomputable def wna (ok : Bool) (a : Nat) : Nat := bif ok then (if a < 20 then a + 1 else a) else a
section WN8
variable {h : pm_H} {d : Nat} {x y : Int32}
theorem sp_addAct {c z t a : Nat} (hh : HH h) (c7 : c ≤ 7) (z8 : z ≤ 8) (t1 : t ≤ 1) (hz : t ≠ 0 → z ≤ 7) (g6 : gi h 15 6 = nJ a) (a20 : a < 20) : Sp (d + 2) 47 h [.ref 15, .int (nJ c), .int (nJ z), .int (nJ t)] (fun h' r => r = none ∧ HH h' ∧ fr_g AAF h h' ∧ gi h' 15 6 = nJ (a + 1)) := by
  refine Sp_of aiX5_addAct rfl rfl rfl ?_
  have L0 : pm_get (lv_args 0 [.ref 15, .int (nJ c), .int (nJ z), .int (nJ t)]) 0 = some (.ref 15) := rfl
  have L1 : pm_get (lv_args 0 [.ref 15, .int (nJ c), .int (nJ z), .int (nJ t)]) 1 = some (.int (nJ c)) := rfl
  have L2 : pm_get (lv_args 0 [.ref 15, .int (nJ c), .int (nJ z), .int (nJ t)]) 2 = some (.int (nJ z)) := rfl
  have L3 : pm_get (lv_args 0 [.ref 15, .int (nJ c), .int (nJ z), .int (nJ t)]) 3 = some (.int (nJ t)) := rfl
  generalize lv_args 0 [.ref 15, .int (nJ c), .int (nJ z), .int (nJ t)] = lv at L0 L1 L2 L3 ⊢
  have tt := nJ_toInt (n := t) (by omega)
  refine E_al rfl L0 ?_
  refine E_ogf (q := (0, 20)) rfl hh rfl rfl g6 ?_
  refine E_ci 20 rfl (by decide) ?_
  refine E_icF rfl (decide_eq_false (fun q => absurd ((nJ_le (by omega) (by omega)).mp q) (by omega))) ?_
  have b1 : bd 21 a = some (0, 7) := bd_u rfl a20
  have b2 : bd 22 a = some (0, 8) := bd_u rfl a20
  have b3 : bd 23 a = some (0, 1) := bd_u rfl a20
  have h1 : HH (pt h 21 a (nJ c)) := HH_ptn hh b1 (by omega) (by omega) (by omega)
  have h2 : HH (pt (pt h 21 a (nJ c)) 22 a (nJ z)) := HH_ptn h1 b2 (by omega) (by omega) (by omega)
  have h3 : HH (pt (pt (pt h 21 a (nJ c)) 22 a (nJ z)) 23 a (nJ t)) := HH_ptn h2 b3 (by omega) (by omega) (by omega)
  refine E_al rfl L0 ?_
  refine E_ogr (q := 21) rfl hh rfl rfl ?_
  refine E_al rfl L0 ?_
  refine E_ogf (q := (0, 20)) rfl hh rfl rfl g6 ?_
  refine E_il rfl L1 ?_
  refine E_ias rfl hh rfl a20 (by decide) ?_
  refine E_al rfl L0 ?_
  refine E_ogr (q := 22) rfl h1 rfl rfl ?_
  refine E_al rfl L0 ?_
  refine E_ogf (q := (0, 20)) (v := nJ a) rfl h1 rfl rfl (by rw [gi_ne (by omega)]; exact g6) ?_
  refine E_il rfl L2 ?_
  refine E_ias rfl h1 rfl a20 (by decide) ?_
  refine E_al rfl L0 ?_
  refine E_ogr (q := 23) rfl h2 rfl rfl ?_
  refine E_al rfl L0 ?_
  refine E_ogf (q := (0, 20)) (v := nJ a) rfl h2 rfl rfl (by rw [gi_ne (by omega), gi_ne (by omega)]; exact g6) ?_
  refine E_il rfl L3 ?_
  refine E_zasB rfl h2 rfl a20 (by decide) (nar_z (by omega) (by omega)) ?_
  have g3 : gi (pt (pt (pt h 21 a (nJ c)) 22 a (nJ z)) 23 a (nJ t)) 15 6 = nJ a := by rw [gi_ne (by omega), gi_ne (by omega), gi_ne (by omega)]; exact g6
  have q3 : gi (pt (pt (pt h 21 a (nJ c)) 22 a (nJ z)) 23 a (nJ t)) 23 a = nJ t := gi_ptn h2 b3 (by omega) (by omega) (by omega)
  have q2 : gn (pt (pt (pt h 21 a (nJ c)) 22 a (nJ z)) 23 a (nJ t)) 22 a = z := by rw [gn_ne (by omega)]; exact gn_ptn h1 b2 (by omega) (by omega) (by omega)
  have F3 : fr_g AAF h (pt (pt (pt h 21 a (nJ c)) 22 a (nJ z)) 23 a (nJ t)) := fr_ptr (l := 0) (u := 19) rfl (by omega) (by omega) (fr_ptr (l := 0) (u := 19) rfl (by omega) (by omega) (fr_ptr (l := 0) (u := 19) rfl (by omega) (by omega) (fr_rf _ _)))
  generalize pt (pt (pt h 21 a (nJ c)) 22 a (nJ z)) 23 a (nJ t) = g at h3 g3 q3 q2 F3 ⊢
  refine E_al rfl L0 ?_
  refine E_al rfl L0 ?_
  refine E_ogf (q := (0, 20)) rfl h3 rfl rfl g3 ?_
  refine E_call rfl (sp_doAct (d := d) h3 a20 (fun q => by rw [q2]; exact hz (fun e => q (by rw [q3, e]; rfl)))) (chkO (a := 15) h3 rfl rfl rfl rfl (by show 0 ≤ 8; decide)) (fun h5 r5 => ?_)
  rintro ⟨e5, hh5, f5⟩
  rw [e5]
  refine E_al rfl L0 ?_
  refine E_dup rfl rfl ?_
  refine E_ogf (q := (0, 20)) (v := nJ a) rfl hh5 rfl rfl (by rw [fr_gi f5 (rg_no rfl _)]; exact g3) ?_
  refine E_ci 1 rfl (by decide) ?_
  refine E_bin rfl (nJ_add _ _) ?_
  refine E_opf (q := (0, 20)) rfl hh5 rfl rfl ?_
  exact E_ret rfl ⟨rfl, HH_ptn hh5 rfl (by omega) (by omega) (by omega), fr_ptr (l := 6) (u := 6) rfl (by omega) (by omega) (fr_trans F3 (fr_wk rfl f5)), gi_ptn hh5 rfl (by omega) (by omega) (by omega)⟩
theorem sp_actLost {c z t : Nat} (hh : HH h) (c7 : c ≤ 7) (z8 : z ≤ 8) (t1 : t ≤ 1) (hz : t ≠ 0 → z ≤ 7) : Sp (d + 6) 78 h [.ref 0, .int (nJ c), .int (nJ z), .int (nJ t)] (fun h' r => (∃ v : Int32, r = some (.int v)) ∧ gi h' 15 6 = nJ (wna true (gn h 15 6))) := by
  obtain ⟨a1, a2, a3, a4, a5, a6⟩ := g15 hh
  refine Sp_of aiX8_actAndCountLost rfl rfl rfl ?_
  have L0 : pm_get (lv_args 0 [.ref 0, .int (nJ c), .int (nJ z), .int (nJ t)]) 0 = some (.ref 0) := rfl
  have L1 : pm_get (lv_args 0 [.ref 0, .int (nJ c), .int (nJ z), .int (nJ t)]) 1 = some (.int (nJ c)) := rfl
  have L2 : pm_get (lv_args 0 [.ref 0, .int (nJ c), .int (nJ z), .int (nJ t)]) 2 = some (.int (nJ z)) := rfl
  have L3 : pm_get (lv_args 0 [.ref 0, .int (nJ c), .int (nJ z), .int (nJ t)]) 3 = some (.int (nJ t)) := rfl
  generalize lv_args 0 [.ref 0, .int (nJ c), .int (nJ z), .int (nJ t)] = lv at L0 L1 L2 L3 ⊢
  unfold wna
  dsimp only [cond_true]
  refine E_al rfl L0 ?_
  refine E_ogr (q := 15) rfl hh rfl rfl ?_
  refine E_ogf (q := (0, 20)) rfl hh rfl rfl a5 ?_
  refine E_ci 20 rfl (by decide) ?_
  by_cases b : gn h 15 6 < 20
  · refine E_icT rfl (decide_eq_true ((nJ_lt (by omega) (by omega)).mpr b)) ?_
    rw [if_pos b]
    refine E_al rfl L0 ?_
    refine E_ogr (q := 15) rfl hh rfl rfl ?_
    refine E_il rfl L1 ?_
    refine E_il rfl L2 ?_
    refine E_il rfl L3 ?_
    refine E_call rfl (Sp_le (by omega) (sp_addAct (d := d) hh c7 z8 t1 hz a5 b)) (chkO (a := 15) hh rfl rfl rfl rfl (by show 0 ≤ 8; decide)) (fun h1 r1 => ?_)
    rintro ⟨e1, hh1, f1, g1⟩
    rw [e1]
    refine E_al rfl L0 ?_
    refine E_call rfl (Sp_le (by omega) (Sp_sum (as := [.ref 0]) q137 hh1 ⟨rfl, trivial⟩ (fun _ hq => absurd hq List.not_mem_nil) (fun _ hq => absurd hq List.not_mem_nil))) (chkO (a := 0) hh1 rfl rfl rfl rfl (by show 0 ≤ 8; decide)) (fun h2 r2 => ?_)
    rintro ⟨hh2, f2, C2, hC2, -, -, -, rv2⟩
    have e2 : r2 = none := by have e := List.mem_singleton.mp hC2; subst e; cases r2 with | none => rfl | some v => exact rv2.elim
    rw [e2]
    refine E_al rfl L0 ?_
    refine E_ogr (q := 62) rfl hh2 rfl rfl ?_
    refine E_ogf (q := (0, 255)) rfl hh2 rfl rfl rfl ?_
    have bm := (ld_gi hh2 (a := 62) (k := 2) (q := (0, 255)) rfl).2
    refine E_call rfl (Sp_le (by omega) (Sp_sum (as := [.int (gi h2 62 2)]) q607 hh2 ⟨bm, trivial⟩ (fun _ hq => absurd hq List.not_mem_nil) (fun _ hq => absurd hq List.not_mem_nil))) (chkS rfl (by show 0 ≤ 8; decide)) (fun h3 r3 => ?_)
    rintro ⟨hh3, f3, C3, hC3, -, -, -, rv3⟩
    have hC3 : C3 ∈ [([cI 0 255], [], [], some (.inl (cI 2 8))), ([cI 0 255], [], [], some (.inl (cI 1 1))), ([cI 0 255], [], [], some (.inl (cI 0 0)))] := hC3
    obtain ⟨v3, e3⟩ : ∃ x : Int32, r3 = some (.int x) := by
      rcases List.mem_cons.mp hC3 with e | e
      · subst e; exact rv_ci rv3
      · rcases List.mem_cons.mp e with e | e
        · subst e; exact rv_ci rv3
        · have e := List.mem_singleton.mp e; subst e; exact rv_ci rv3
    rw [e3]
    exact E_rti rfl ⟨⟨_, rfl⟩, by rw [fr_gi f3 rfl, fr_gi f2 rfl]; exact g1⟩
  · refine E_icF rfl (decide_eq_false (fun q => b ((nJ_lt (by omega) (by omega)).mp q))) ?_
    rw [if_neg b]
    refine E_c rfl ?_
    exact E_rti rfl ⟨⟨_, rfl⟩, a5⟩
noncomputable def okW (c p : Nat) (x y : Int32) : Bool := decide ((0 ≤ x.toInt ∧ x.toInt < (c : Int)) ∧ 1 ≤ y.toInt ∧ y.toInt ≤ (p : Int))
noncomputable def okT (c : Nat) (x y : Int32) : Bool := decide ((0 ≤ x.toInt ∧ x.toInt < (c : Int)) ∧ (0 ≤ y.toInt ∧ y.toInt < (c : Int)) ∧ ¬ x = y)
theorem sp_wants8 (hh : HH h) : Sp (d + 7) 198 h [.ref 0, .int x, .int y] (fun h' r => (∃ v : Int32, r = some (.int v)) ∧ gi h' 15 6 = nJ (wna (okW (gn h 15 4) (gn h 15 0) x y) (gn h 15 6))) := by
  obtain ⟨a1, a2, a3, a4, a5, a6⟩ := g15 hh
  refine Sp_of aiX8_wants rfl rfl rfl ?_
  have L0 : pm_get (lv_args 0 [.ref 0, .int x, .int y]) 0 = some (.ref 0) := rfl
  have L1 : pm_get (lv_args 0 [.ref 0, .int x, .int y]) 1 = some (.int x) := rfl
  have L2 : pm_get (lv_args 0 [.ref 0, .int x, .int y]) 2 = some (.int y) := rfl
  generalize lv_args 0 [.ref 0, .int x, .int y] = lv at L0 L1 L2 ⊢
  have no : ¬ ((0 ≤ x.toInt ∧ x.toInt < (gn h 15 4 : Int)) ∧ 1 ≤ y.toInt ∧ y.toInt ≤ (gn h 15 0 : Int)) → Ends (pm_at tX8_wants) (pm_Rt pm_P (d + 6)) (16, lv, [], h, 0, 0) (fun h' r => (∃ v : Int32, r = some (.int v)) ∧ gi h' 15 6 = nJ (wna (okW (gn h 15 4) (gn h 15 0) x y) (gn h 15 6))) := by
    intro q
    refine E_c rfl ?_
    exact E_rti rfl ⟨⟨_, rfl⟩, by unfold okW; rw [decide_eq_false q]; exact a5⟩
  refine E_al rfl L0 ?_
  refine E_il rfl L1 ?_
  refine E_call rfl (Sp_le (by omega) (sp_hasCar8 (d := d) hh)) (chkO (a := 0) hh rfl rfl rfl rfl (by show 0 ≤ 8; decide)) (fun h1 r1 => ?_)
  rintro ⟨e1, f1⟩
  rw [e1, f1]
  by_cases b1 : 0 ≤ x.toInt ∧ x.toInt < (gn h 15 4 : Int)
  · refine E_ifF rfl (by rw [zb_T b1]; rfl) ?_
    refine E_al rfl L0 ?_
    refine E_il rfl L2 ?_
    refine E_call rfl (Sp_le (by omega) (sp_hasPlace8 (d := d) hh)) (chkO (a := 0) hh rfl rfl rfl rfl (by show 0 ≤ 8; decide)) (fun h2 r2 => ?_)
    rintro ⟨e2, f2⟩
    rw [e2, f2]
    by_cases b2 : 1 ≤ y.toInt ∧ y.toInt ≤ (gn h 15 0 : Int)
    · refine E_ifT rfl (by rw [zb_T b2]; rfl) ?_
      have ok : okW (gn h 15 4) (gn h 15 0) x y = true := decide_eq_true ⟨b1, b2⟩
      rw [ok]
      obtain ⟨c, hc, rfl⟩ : ∃ c, c ≤ 7 ∧ x = nJ c := ⟨x.toInt.toNat, by omega, nJ_of b1.1⟩
      obtain ⟨z, hz, rfl⟩ : ∃ c, c ≤ 8 ∧ y = nJ c := ⟨y.toInt.toNat, by omega, nJ_of (by omega)⟩
      refine E_al rfl L0 ?_
      refine E_il rfl L1 ?_
      refine E_il rfl L2 ?_
      refine E_ci 0 rfl (by decide) ?_
      refine E_call rfl (sp_actLost (d := d) (t := 0) hh hc hz (by omega) (fun q => absurd rfl q)) (chkO (a := 0) hh rfl rfl rfl rfl (by show 0 ≤ 8; decide)) (fun h3 r3 => ?_)
      rintro ⟨⟨v, e3⟩, g3⟩
      rw [e3]
      exact E_rti rfl ⟨⟨_, rfl⟩, g3⟩
    · refine E_ifF rfl (by rw [zb_F b2]; rfl) ?_
      exact no (fun q => b2 q.2)
  · refine E_ifT rfl (by rw [zb_F b1]; rfl) ?_
    exact no (fun q => b1 q.1)
theorem sp_trades8 (hh : HH h) : Sp (d + 7) 191 h [.ref 0, .int x, .int y] (fun h' r => (∃ v : Int32, r = some (.int v)) ∧ gi h' 15 6 = nJ (wna (okT (gn h 15 4) x y) (gn h 15 6))) := by
  obtain ⟨a1, a2, a3, a4, a5, a6⟩ := g15 hh
  refine Sp_of aiX8_trades rfl rfl rfl ?_
  have L0 : pm_get (lv_args 0 [.ref 0, .int x, .int y]) 0 = some (.ref 0) := rfl
  have L1 : pm_get (lv_args 0 [.ref 0, .int x, .int y]) 1 = some (.int x) := rfl
  have L2 : pm_get (lv_args 0 [.ref 0, .int x, .int y]) 2 = some (.int y) := rfl
  generalize lv_args 0 [.ref 0, .int x, .int y] = lv at L0 L1 L2 ⊢
  refine E_al rfl L0 ?_
  refine E_il rfl L1 ?_
  refine E_il rfl L2 ?_
  refine E_call rfl (Sp_le (by omega) (sp_hasPair8 (d := d) hh)) (chkO (a := 0) hh rfl rfl rfl rfl (by show 0 ≤ 8; decide)) (fun h1 r1 => ?_)
  rintro ⟨e1, f1⟩
  rw [e1, f1]
  by_cases b : (0 ≤ x.toInt ∧ x.toInt < (gn h 15 4 : Int)) ∧ (0 ≤ y.toInt ∧ y.toInt < (gn h 15 4 : Int)) ∧ ¬ x = y
  · refine E_ifT rfl (by rw [zb_T b]; rfl) ?_
    have ok : okT (gn h 15 4) x y = true := decide_eq_true b
    rw [ok]
    obtain ⟨b1, b2, -⟩ := b
    obtain ⟨c, hc, rfl⟩ : ∃ c, c ≤ 7 ∧ x = nJ c := ⟨x.toInt.toNat, by omega, nJ_of b1.1⟩
    obtain ⟨z, hz, rfl⟩ : ∃ c, c ≤ 7 ∧ y = nJ c := ⟨y.toInt.toNat, by omega, nJ_of (by omega)⟩
    refine E_al rfl L0 ?_
    refine E_il rfl L1 ?_
    refine E_il rfl L2 ?_
    refine E_ci 1 rfl (by decide) ?_
    refine E_call rfl (sp_actLost (d := d) (t := 1) hh hc (by omega) (by omega) (fun _ => hz)) (chkO (a := 0) hh rfl rfl rfl rfl (by show 0 ≤ 8; decide)) (fun h3 r3 => ?_)
    rintro ⟨⟨v, e3⟩, g3⟩
    rw [e3]
    exact E_rti rfl ⟨⟨_, rfl⟩, g3⟩
  · refine E_ifF rfl (by rw [zb_F b]; rfl) ?_
    refine E_c rfl ?_
    exact E_rti rfl ⟨⟨_, rfl⟩, by unfold okT; rw [decide_eq_false b]; exact a5⟩
end WN8
/-! the reference -/
end
