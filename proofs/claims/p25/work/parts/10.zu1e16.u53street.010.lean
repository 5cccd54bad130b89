section
theorem sp_doesX {h0 : pm_H} {d kd c x : Nat} (hh0 : HH h0) (hV : RV h0) (hK : gn h0 84 5 < 20) (hkd : kd ≤ 1) (hc7 : c ≤ 7) (hx8 : x ≤ 8) (hcond : (kd = 0 → 1 ≤ x) ∧ (¬ kd = 0 → c < gn h0 84 3 ∧ x < gn h0 84 3)) : Sp (d + 7) 238 h0 [.ref 77, .int (nJ kd), .int (nJ c), .int (nJ x)] (fun h' r => VQ h0 h' r ∧ (∀ k, gi h' 86 k = gi h0 86 k) ∧ gi h' 84 5 = nJ (gn h0 84 5 + 1) ∧ DO9 h0 h' kd c x) := by
  refine Sp_of aiX9_does rfl rfl rfl ?_
  refine E_ci 3 rfl (by decide) ?_
  refine E_al rfl (show pm_get (lv_args 0 [.ref 77, .int (nJ kd), .int (nJ c), .int (nJ x)]) 0 = _ from rfl) ?_
  refine E_gr rfl hh0 (q := 84) rfl ?_
  refine E_ci 5 rfl (by decide) ?_
  have b1 : gn h0 84 5 ≤ 20 := gn_hi hh0 rfl (by decide)
  refine E_ial rfl hh0 rfl (by omega) (by decide) (gi_gn hh0 rfl (by decide)) ?_
  refine E_bin rfl (nJ_mul _ _) ?_
  refine E_is rfl (fun lv2 L2_4 kp2 => ?_)
  have L2_0 := kp2 0 _ (by decide) rfl (show pm_get (lv_args 0 [.ref 77, .int (nJ kd), .int (nJ c), .int (nJ x)]) 0 = _ from rfl)
  have L2_1 := kp2 1 _ (by decide) rfl (show pm_get (lv_args 0 [.ref 77, .int (nJ kd), .int (nJ c), .int (nJ x)]) 1 = _ from rfl)
  have L2_2 := kp2 2 _ (by decide) rfl (show pm_get (lv_args 0 [.ref 77, .int (nJ kd), .int (nJ c), .int (nJ x)]) 2 = _ from rfl)
  have L2_3 := kp2 3 _ (by decide) rfl (show pm_get (lv_args 0 [.ref 77, .int (nJ kd), .int (nJ c), .int (nJ x)]) 3 = _ from rfl)
  refine E_al rfl L2_0 ?_
  refine E_gr rfl hh0 (q := 87) rfl ?_
  refine E_il rfl L2_4 ?_
  refine E_il rfl L2_1 ?_
  refine E_ias rfl hh0 rfl (by omega) (by decide) ?_
  have hh3 : HH (pt h0 87 ((3 * (gn h0 84 5))) (nJ kd)) := HH_ptn hh0 (bd_87a (by omega) (by omega)) (by omega) (by omega) (by omega)
  have fr3 : fr_g VM h0 (pt h0 87 ((3 * (gn h0 84 5))) (nJ kd)) := fr_ptr (l := 0) (u := 299) rfl (by omega) (by omega) (fr_rf VM h0)
  refine E_al rfl L2_0 ?_
  refine E_gr rfl hh3 (q := 87) rfl ?_
  refine E_il rfl L2_4 ?_
  refine E_ci 1 rfl (by decide) ?_
  refine E_bin rfl (nJ_add _ _) ?_
  refine E_il rfl L2_2 ?_
  refine E_ias rfl hh3 rfl (by omega) (by decide) ?_
  have hh4 : HH (pt (pt h0 87 ((3 * (gn h0 84 5))) (nJ kd)) 87 (((3 * (gn h0 84 5)) + 1)) (nJ c)) := HH_ptn hh3 (bd_87b (by omega) (by omega)) (by omega) (by omega) (by omega)
  have fr4 : fr_g VM h0 (pt (pt h0 87 ((3 * (gn h0 84 5))) (nJ kd)) 87 (((3 * (gn h0 84 5)) + 1)) (nJ c)) := fr_ptr (l := 0) (u := 299) rfl (by omega) (by omega) fr3
  refine E_al rfl L2_0 ?_
  refine E_gr rfl hh4 (q := 87) rfl ?_
  refine E_il rfl L2_4 ?_
  refine E_ci 2 rfl (by decide) ?_
  refine E_bin rfl (nJ_add _ _) ?_
  refine E_il rfl L2_3 ?_
  refine E_ias rfl hh4 rfl (by omega) (by decide) ?_
  have hh5 : HH (pt (pt (pt h0 87 ((3 * (gn h0 84 5))) (nJ kd)) 87 (((3 * (gn h0 84 5)) + 1)) (nJ c)) 87 (((3 * (gn h0 84 5)) + 2)) (nJ x)) := HH_ptn hh4 (bd_87c (by omega) (by omega)) (by omega) (by omega) (by omega)
  have fr5 : fr_g VM h0 (pt (pt (pt h0 87 ((3 * (gn h0 84 5))) (nJ kd)) 87 (((3 * (gn h0 84 5)) + 1)) (nJ c)) 87 (((3 * (gn h0 84 5)) + 2)) (nJ x)) := fr_ptr (l := 0) (u := 299) rfl (by omega) (by omega) fr4
  refine E_al rfl L2_0 ?_
  refine E_gr rfl hh5 (q := 84) rfl ?_
  refine E_ci 5 rfl (by decide) ?_
  refine E_dup2 rfl rfl rfl ?_
  refine E_ial rfl hh5 rfl (by omega) (by decide) (show gi (pt (pt (pt h0 87 ((3 * (gn h0 84 5))) (nJ kd)) 87 (((3 * (gn h0 84 5)) + 1)) (nJ c)) 87 (((3 * (gn h0 84 5)) + 2)) (nJ x)) 84 5 = nJ ((gn h0 84 5)) from by rw [gi_ne (by omega), gi_ne (by omega), gi_ne (by omega)]; exact gi_gn hh0 rfl (by decide)) ?_
  refine E_ci 1 rfl (by decide) ?_
  refine E_bin rfl (nJ_add _ _) ?_
  refine E_ias rfl hh5 rfl (by omega) (by decide) ?_
  have hh6 : HH (pt (pt (pt (pt h0 87 ((3 * (gn h0 84 5))) (nJ kd)) 87 (((3 * (gn h0 84 5)) + 1)) (nJ c)) 87 (((3 * (gn h0 84 5)) + 2)) (nJ x)) 84 5 (nJ (((gn h0 84 5) + 1)))) := HH_ptn hh5 rfl (by omega) (by omega) (by omega)
  have fr6 : fr_g VM h0 (pt (pt (pt (pt h0 87 ((3 * (gn h0 84 5))) (nJ kd)) 87 (((3 * (gn h0 84 5)) + 1)) (nJ c)) 87 (((3 * (gn h0 84 5)) + 2)) (nJ x)) 84 5 (nJ (((gn h0 84 5) + 1)))) := fr_ptr (l := 0) (u := 29) rfl (by omega) (by omega) fr5
  refine E_al rfl L2_0 ?_
  have V2 : RV (pt (pt (pt (pt h0 87 ((3 * (gn h0 84 5))) (nJ kd)) 87 (((3 * (gn h0 84 5)) + 1)) (nJ c)) 87 (((3 * (gn h0 84 5)) + 2)) (nJ x)) 84 5 (nJ (((gn h0 84 5) + 1)))) := RV_act hh0 hV rfl hK (gn_ptn hh5 rfl (by omega) (by omega) (by omega)) (fun k hk => by rw [gn_ne (fun _ => hk), gn_ne (by omega), gn_ne (by omega), gn_ne (by omega)]) (fun k => by rw [gn_ne (by omega), gn_ne (by omega), gn_ne (by omega), gn_ne (by omega)]) (kd := kd) (c := c) (x := x) (by rw [gn_ne (by omega), gn_ne (by omega), gn_ne (by omega), gn_ptn hh0 (bd_87a (by omega) (by omega)) (by omega) (by omega) (by omega)]) (by rw [gn_ne (by omega), gn_ne (by omega), gn_ptn hh3 (bd_87b (by omega) (by omega)) (by omega) (by omega) (by omega)]) (by rw [gn_ne (by omega), gn_ptn hh4 (bd_87c (by omega) (by omega)) (by omega) (by omega) (by omega)]) (fun k k1 k2 k3 => by rw [gn_ne (by omega), gn_ne (fun _ => k3), gn_ne (fun _ => k2), gn_ne (fun _ => k1)]) hcond
  refine E_call rfl (Sp_le (by omega) (Sp_sum (as := [.ref 77]) q150 hh6 ⟨rfl, trivial⟩ (fun _ hq => absurd hq List.not_mem_nil) (fun i hi => by rw [List.mem_singleton.mp hi]; exact FAg_fact hh6 (V2.2 0 (by omega))))) (chk77 hh6 rfl rfl (by show 0 ≤ 8; decide)) (fun h7 r7 => ?_)
  rintro ⟨hh7, fq7, C7, hC7, -, -, -, rv7⟩
  have e7 : r7 = none := by have e := List.mem_singleton.mp hC7; subst e; cases r7 with | none => rfl | some v => exact rv7.elim
  rw [e7]
  have fr7 : fr_g VM h0 h7 := fr_trans fr6 (fr_wk rfl fq7)
  have V7 : RV h7 := RV_fr hh6 rfl fq7 V2
  show Ends _ _ (52, lv2, [], h7, 0, 0) _
  refine E_al rfl L2_0 ?_
  have b8 : gn h7 77 27 ≤ 255 := gn_hi hh7 rfl (by decide)
  refine E_gf rfl hh7 rfl (gi_gn hh7 rfl (by decide)) ?_
  refine E_call rfl (Sp_le (by omega) (Sp_sum (as := [.int (nJ ((gn h7 77 27)))]) q616 hh7 ⟨nJ_in (by omega) (by omega), trivial⟩ (fun _ hq => absurd hq List.not_mem_nil) (fun _ hq => absurd hq List.not_mem_nil))) (chkS rfl (by show 0 ≤ 8; decide)) (fun h9 r9 => ?_)
  rintro ⟨hh9, fq9, C9, hC9, -, -, -, rv9⟩
  have hC9 : C9 ∈ [([cI 3 255], [], [], some (.inl (cI 2 8))), ([cI 1 128], [], [], some (.inl (cI 1 1))), ([cI 0 0], [], [], some (.inl (cI 0 0)))] := hC9
  obtain ⟨x9, f9⟩ : ∃ x : Int32, r9 = some (.int x) := by
    rcases List.mem_cons.mp hC9 with e | e
    · subst e; exact rv_ci rv9
    · rcases List.mem_cons.mp e with e | e
      · subst e; exact rv_ci rv9
      · have e := List.mem_singleton.mp e; subst e; exact rv_ci rv9
  rw [f9]
  have fr9 : fr_g VM h0 h9 := fr_trans fr7 (fr_wk rfl fq9)
  have V9 : RV h9 := RV_fr hh7 rfl fq9 V7
  show Ends _ _ (59, lv2, [.int x9], h9, 0, 0) _
  refine E_rti rfl ⟨⟨hh9, fr9, V9, _, rfl⟩, fun k => ?_, ?_, ?_, ?_, ?_, fun k k1 k2 k3 => ?_⟩
  · rw [fr_gi fq9 (rg_no rfl _), fr_gi fq7 (rg_no rfl _), gi_ne (by omega), gi_ne (by omega), gi_ne (by omega), gi_ne (by omega)]
  · rw [fr_gi fq9 (rg_no rfl _), fr_gi fq7 (rg_no rfl _)]
    exact gi_ptn hh5 rfl (by omega) (by omega) (by omega)
  · rw [fr_gi fq9 (rg_no rfl _), fr_gi fq7 (rg_no rfl _), gi_ne (by omega), gi_ne (by omega), gi_ne (by omega)]
    exact gi_ptn hh0 (bd_87a (by omega) (by omega)) (by omega) (by omega) (by omega)
  · rw [fr_gi fq9 (rg_no rfl _), fr_gi fq7 (rg_no rfl _), gi_ne (by omega), gi_ne (by omega)]
    exact gi_ptn hh3 (bd_87b (by omega) (by omega)) (by omega) (by omega) (by omega)
  · rw [fr_gi fq9 (rg_no rfl _), fr_gi fq7 (rg_no rfl _), gi_ne (by omega)]
    exact gi_ptn hh4 (bd_87c (by omega) (by omega)) (by omega) (by omega) (by omega)
  · rw [fr_gi fq9 (rg_no rfl _), fr_gi fq7 (rg_no rfl _), gi_ne (by omega), gi_ne (fun _ => k3), gi_ne (fun _ => k2), gi_ne (fun _ => k1)]
theorem tv_wantsX {h0 : pm_H} {d : Nat} {x y : Int32} (hh0 : HH h0) (hV : RV h0) : Sp (d + 40) 370 h0 [.ref 77, .int x, .int y] (fun h' r => VQ h0 h' r ∧ (∀ k, gi h' 86 k = gi h0 86 k) ∧ AD9 h0 h' 0 x.toInt.toNat y.toInt.toNat) := by
  refine Sp_of aiX9_wants rfl rfl rfl ?_
  have L0 : pm_get (lv_args 0 [.ref 77, .int x, .int y]) 0 = some (.ref 77) := rfl
  have L1 : pm_get (lv_args 0 [.ref 77, .int x, .int y]) 1 = some (.int x) := rfl
  have L2 : pm_get (lv_args 0 [.ref 77, .int x, .int y]) 2 = some (.int y) := rfl
  generalize lv_args 0 [.ref 77, .int x, .int y] = lv at L0 L1 L2 ⊢
  refine E_al rfl L0 ?_
  refine E_ci 0 rfl (by decide) ?_
  refine E_pf rfl hh0 rfl ?_
  have hh1 : HH (pt h0 77 0 (nJ 0)) := HH_ptn hh0 rfl (by omega) (by omega) (by omega)
  have fr1 : fr_g VM h0 (pt h0 77 0 (nJ 0)) := fr_ptr (l := 0) (u := 0) rfl (by omega) (by omega) (fr_rf VM h0)
  have V0 : RV (pt h0 77 0 (nJ 0)) := RV_fr hh0 (M := [(77, 0, 0)]) rfl (fr_ptr (l := 0) (u := 0) rfl (by omega) (by omega) (fr_rf _ _)) hV
  refine E_al rfl L0 ?_
  refine E_il rfl L1 ?_
  refine E_i2l rfl ?_
  refine E_call rfl (sp_isCar hh1) (chk77 hh1 rfl rfl (by show 0 ≤ 8; decide)) (fun h2 r2 => ?_)
  rintro ⟨e2, f2⟩
  rw [e2, f2]
  show Ends _ _ (11, lv, [.int (zb (0 ≤ x.toInt ∧ x.toInt ≤ (gn (pt h0 77 0 (nJ 0)) 84 3 : Int) - 1))], (pt h0 77 0 (nJ 0)), 0, 0) _
  by_cases hb3 : ¬ (0 ≤ x.toInt ∧ x.toInt ≤ (gn (pt h0 77 0 (nJ 0)) 84 3 : Int) - 1)
  · refine E_ifT rfl (by rw [zb_F hb3]; rfl) ?_
    refine E_c rfl ?_
    exact E_rti rfl ⟨⟨hh1, fr1, V0, _, rfl⟩, fun k => gi_ne (by omega), .inl ⟨gi_ne (by omega), fun k => gi_ne (by omega)⟩⟩
  · refine E_ifF rfl (by rw [zb_T (Classical.not_not.mp hb3)]; rfl) ?_
    have hcar := Classical.not_not.mp hb3
    refine E_al rfl L0 ?_
    refine E_il rfl L2 ?_
    refine E_call rfl (Sp_le (by omega) (sp_isPlace (d := 0) hh1)) (chk77 hh1 rfl rfl (by show 0 ≤ 8; decide)) (fun h4 r4 => ?_)
    rintro ⟨e4, f4⟩
    rw [e4, f4]
    show Ends _ _ (19, lv, [.int (zb (0 < (gi (pt h0 77 0 (nJ 0)) 83 0).toInt ∧ 1 ≤ y.toInt ∧ y.toInt ≤ (gn (pt h0 77 0 (nJ 0)) 84 0 : Int)))], (pt h0 77 0 (nJ 0)), 0, 0) _
    by_cases hb5 : 0 < (gi (pt h0 77 0 (nJ 0)) 83 0).toInt ∧ 1 ≤ y.toInt ∧ y.toInt ≤ (gn (pt h0 77 0 (nJ 0)) 84 0 : Int)
    · refine E_ifT rfl (by rw [zb_T hb5]; rfl) ?_
      have hC8 : gn (pt h0 77 0 (nJ 0)) 84 3 ≤ 8 := gn_hi hh1 rfl (by decide)
      have hP8 : gn (pt h0 77 0 (nJ 0)) 84 0 ≤ 8 := gn_hi hh1 rfl (by decide)
      obtain ⟨k, hk, rfl⟩ := nJ_of2 (n := gn (pt h0 77 0 (nJ 0)) 84 3 - 1) hcar.1 (by have := hcar.2; have := hcar.1; omega)
      obtain ⟨p, hp, rfl⟩ := nJ_of2 (n := gn (pt h0 77 0 (nJ 0)) 84 0) (x := y) (by have := hb5.2.1; omega) hb5.2.2
      have hp1 : 1 ≤ p := by have h9 := hb5.2.1; rw [nJ_toInt (by omega)] at h9; omega
      refine E_al rfl L0 ?_
      refine E_gr rfl hh1 (q := 84) rfl ?_
      refine E_ci 5 rfl (by decide) ?_
      have b6 : gn (pt h0 77 0 (nJ 0)) 84 5 ≤ 20 := gn_hi hh1 rfl (by decide)
      refine E_ial rfl hh1 rfl (by omega) (by decide) (gi_gn hh1 rfl (by decide)) ?_
      refine E_ci 20 rfl (by decide) ?_
      by_cases hb7 : ¬ (gn (pt h0 77 0 (nJ 0)) 84 5) = 20
      · refine E_icT rfl (decide_eq_true (fun q => hb7 ((nJ_eq (by omega) (by omega)).mp q))) ?_
        refine E_al rfl L0 ?_
        refine E_ci 0 rfl (by decide) ?_
        refine E_il rfl L1 ?_
        refine E_il rfl L2 ?_
        refine E_call rfl (Sp_le (by omega) (sp_doesX (d := 0) hh1 V0 (by omega) (by omega) (by omega) (by omega) (by omega))) (chk77 hh1 rfl rfl (by show 0 ≤ 8; decide)) (fun h8 r8 => ?_)
        rintro ⟨⟨hh8, fq8, V8, x8, f8⟩, m8, n8⟩
        rw [f8]
        have fr8 : fr_g VM h0 h8 := fr_trans fr1 fq8
        show Ends _ _ (48, lv, [.int x8], h8, 0, 0) _
        exact E_rti rfl ⟨⟨hh8, fr8, V8, _, rfl⟩, fun k => by rw [m8 k]; exact gi_ne (by omega), by rw [nJ_toInt (by omega), nJ_toInt (by omega)]; exact AD9_77 n8⟩
      · refine E_icF rfl (decide_eq_false (fun q => hb7 (fun z => q ((nJ_eq (by omega) (by omega)).mpr z)))) ?_
        refine E_c rfl ?_
        refine E_goto rfl ?_
        exact E_rti rfl ⟨⟨hh1, fr1, V0, _, rfl⟩, fun k => gi_ne (by omega), .inl ⟨gi_ne (by omega), fun k => gi_ne (by omega)⟩⟩
    · refine E_ifF rfl (by rw [zb_F hb5]; rfl) ?_
      refine E_c rfl ?_
      exact E_rti rfl ⟨⟨hh1, fr1, V0, _, rfl⟩, fun k => gi_ne (by omega), .inl ⟨gi_ne (by omega), fun k => gi_ne (by omega)⟩⟩
end
