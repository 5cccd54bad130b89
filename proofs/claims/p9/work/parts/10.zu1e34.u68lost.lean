/-! lost of both (written by gen_u68.py; wants u67b) -/
section Q_lost
variable {h : pm_H} {d : Nat}
theorem c8_lost {h h2 : pm_H} {lv : List (Nat × Value)} (hh : HH h) (B : B9 h) (T : LT9 h h2) (L0 : pm_get lv 0 = some (.ref 0)) : Ends (pm_at tX8_lost) (pm_Rt pm_P (d + 5)) (14, lv, [], h2, 0, 0) (fun h' r => K9 h h' ∧ r = some (.int (nJ (MS9 h)))) := by
  have T0 := T
  obtain ⟨hh2, f, t1, t2, t3, t4, t5, t6, t7⟩ := T
  have kk : K9 h h2 := K9_fr f rfl rfl rfl rfl
  obtain ⟨l3, p8, n8⟩ := g9s hh
  refine E_al rfl L0 ?_
  refine E_ogr (q := 62) rfl hh2 rfl rfl ?_
  refine E_ogf (q := (0, 255)) rfl hh2 rfl rfl t2 ?_
  exact E_rti rfl ⟨kk, rfl⟩
theorem sp_lost8 (hh : HH h) (R : QRE h) : Sp (d + 6) 143 h [.ref 0] (fun h' r => K9 h h' ∧ r = some (.int (qv h (nJ (MS9 h))))) := by
  refine Sp_of aiX8_lost rfl rfl rfl ?_
  have L0 : pm_get (lv_args 0 [.ref 0]) 0 = some (.ref 0) := rfl
  generalize lv_args 0 [.ref 0] = lv at L0 ⊢
  have k0 : K9 h h := ⟨fun _ => rfl, fun _ => rfl, fun _ => rfl, fun _ => rfl⟩
  refine E_al rfl L0 ?_
  refine E_call rfl (Sp_le (by omega) (sp_hasStreet8 (d := d) hh)) (chkO (a := 0) hh rfl rfl rfl rfl (by show 0 ≤ 8; decide)) (fun h1 r1 => ?_)
  rintro ⟨e1, f1⟩
  rw [e1, f1]
  by_cases b : 0 < gn h 15 0
  · refine E_ifT rfl (by rw [zb_T b]; rfl) ?_
    rw [show qv h (nJ (MS9 h)) = nJ (MS9 h) from if_pos ((st_eq R).mp b)]
    refine E_al rfl L0 ?_
    refine E_call rfl (sp_parkAllX (d := d) hh R) (chkO (a := 0) hh rfl rfl rfl rfl (by show 0 ≤ 8; decide)) (fun h2 r2 => ?_)
    rintro ⟨e2, T⟩
    rw [e2]
    exact c8_lost hh (B9_of R) T L0
  · refine E_ifF rfl (by rw [zb_F b]; rfl) ?_
    rw [show qv h (nJ (MS9 h)) = -2 from if_neg (fun q => b ((st_eq R).mpr q))]
    refine E_c rfl ?_
    exact E_rti rfl ⟨k0, rfl⟩
theorem r9_lost {h h2 : pm_H} {lv : List (Nat × Value)} (hh : HH h) (B : B9 h) (T : LV9 h h2) (L0 : pm_get lv 0 = some (.ref 77)) : Ends (pm_at tX9_lost) (pm_Rt pm_P (d + 6)) (19, lv, [], h2, 0, 0) (fun h' r => r = some (.int (nJ (MS9 h)))) := by
  have T0 := T
  obtain ⟨hh2, u0, u3, t1, t2, t3, t4⟩ := T
  obtain ⟨l3, p8, n8⟩ := g9s hh
  refine E_al rfl L0 ?_
  refine E_gf rfl hh2 rfl t1 ?_
  exact E_rti rfl rfl
theorem sp_lost9 (hh : HH h) (V : V9 h) (B : B9 h) : Sp (d + 7) 305 h [.ref 77] (fun h' r => r = some (.int (qv h (nJ (MS9 h))))) := by
  refine Sp_of aiX9_lost rfl rfl rfl ?_
  have L0 : pm_get (lv_args 0 [.ref 77]) 0 = some (.ref 77) := rfl
  generalize lv_args 0 [.ref 77] = lv at L0 ⊢
  refine E_al rfl L0 ?_
  refine E_ci 0 rfl (by decide) ?_
  refine E_pf rfl hh rfl ?_
  have hg : HH (pt h 77 0 (nJ 0)) := HH_ptn hh rfl (by omega) (by omega) (by omega)
  have k : K9 h (pt h 77 0 (nJ 0)) := K9_77
  generalize pt h 77 0 (nJ 0) = g at hg k ⊢
  refine E_al rfl L0 ?_
  refine E_call rfl (Sp_le (by omega) (sp_isStreet (d := d) hg)) (chk77 hg rfl rfl (by show 0 ≤ 8; decide)) (fun h1 r1 => ?_)
  rintro ⟨e1, f1⟩
  rw [e1, f1]
  rw [k.2.2.2]
  by_cases b : 0 < (gi h 83 0).toInt
  · refine E_ifT rfl (by rw [zb_T b]; rfl) ?_
    rw [show qv h (nJ (MS9 h)) = nJ (MS9 h) from if_pos (b)]
    refine E_al rfl L0 ?_
    refine E_call rfl (Sp_le (by omega) (sp_laysNowX (d := d) hg (V9_K k V) (B9_K k B))) (chk77 hg rfl rfl (by show 0 ≤ 8; decide)) (fun h2 r2 => ?_)
    rintro ⟨e2, T0⟩
    rw [e2]
    have T := LV9_of k T0
    exact r9_lost hh B T L0
  · refine E_ifF rfl (by rw [zb_F b]; rfl) ?_
    rw [show qv h (nJ (MS9 h)) = -2 from if_neg (b)]
    refine E_c rfl ?_
    exact E_rti rfl rfl
end Q_lost
noncomputable def half_lost (h : pm_H) (r : Int32) : Prop := QRE h ∧ r = qv h (nJ (MS9 h))
theorem g8_lost {h : pm_H} (I : IVQ h) : Sp 100 143 h [.ref 0] (fun h' v => IVh h' ∧ ∃ r : Int32, v = some (.int r) ∧ half_lost h' r) := by
  refine Sp_le (by omega) (Sp_mono ?_ (Sp_and (top_all (as := [.ref 0]) q159 (by decide +kernel) I.1 ⟨rfl, trivial⟩) (sp_lost8 (d := 0) I.1.1 I.2)))
  rintro h' v ⟨⟨s1, s2, -⟩, k, rfl⟩
  exact ⟨s1, _, rfl, QRE_fr s2 rfl I.2, by rw [qv_K k, MS9_K k]⟩
theorem g9_lost {h : pm_H} {r : Int32} (I : IVh h) (J : half_lost h r) : Sp 100 305 h [.ref 77] (fun h' v => IVQ h' ∧ v = some (.int r)) := by
  obtain ⟨J1, rfl⟩ := J
  refine Sp_le (by omega) (Sp_mono ?_ (Sp_and (top_all (as := [.ref 77]) q161 (by decide +kernel) I ⟨rfl, trivial⟩) (sp_lost9 (d := 0) I.1 (V9_of J1) (B9_of J1))))
  rintro h' v ⟨⟨s1, s2, -⟩, rfl⟩
  exact ⟨⟨s1, QRE_fr s2 rfl J1⟩, rfl⟩
