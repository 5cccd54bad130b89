section
section WT9
variable {h0 : pm_H} {x y : Int32}
theorem wnT (hh0 : HH h0) (h : ¬ ((0 ≤ x.toInt ∧ x.toInt ≤ (gn (pt h0 77 0 (nJ 0)) 84 3 : Int) - 1) ∧ (0 ≤ y.toInt ∧ y.toInt ≤ (gn (pt h0 77 0 (nJ 0)) 84 3 : Int) - 1) ∧ ¬ x = y)) : gi (pt h0 77 0 (nJ 0)) 84 5 = nJ (wna (okT (gn h0 84 3) x y) (gn h0 84 5)) := by
  have e1 : gn (pt h0 77 0 (nJ 0)) 84 3 = gn h0 84 3 := gn_ne (by omega)
  rw [e1] at h
  have ek : okT (gn h0 84 3) x y = false := decide_eq_false (fun q => h ⟨by omega, by omega, q.2.2⟩)
  rw [wn_no ek, pg5 hh0]
theorem wnF {ok : Bool} (hh0 : HH h0) (h : ¬ ¬ gn (pt h0 77 0 (nJ 0)) 84 5 = 20) : gi (pt h0 77 0 (nJ 0)) 84 5 = nJ (wna ok (gn h0 84 5)) := by
  have e1 : gn (pt h0 77 0 (nJ 0)) 84 5 = gn h0 84 5 := gn_ne (by omega)
  rw [e1] at h
  rw [pg5 hh0, Classical.not_not.mp h, wn_full]
theorem wnY {ok : Bool} {h8 : pm_H} (hh0 : HH h0) (h : ¬ gn (pt h0 77 0 (nJ 0)) 84 5 = 20) (n8 : gi h8 84 5 = nJ (gn (pt h0 77 0 (nJ 0)) 84 5 + 1)) (e : ok = true) : gi h8 84 5 = nJ (wna ok (gn h0 84 5)) := by
  have e1 : gn (pt h0 77 0 (nJ 0)) 84 5 = gn h0 84 5 := gn_ne (by omega)
  have b := (g84 hh0).2.1
  rw [e1] at h n8
  rw [n8, wn_yes e (by omega)]
end WT9
theorem tv_wantsE {h0 : pm_H} {d : Nat} {x y : Int32} (hh0 : HH h0) (hV : RV h0) : Sp (d + 40) 370 h0 [.ref 77, .int x, .int y] (fun h' r => VQ h0 h' r ∧ SAM h0 h' ∧ gi h' 84 5 = nJ (wna (bif decide (0 < (gi h0 83 0).toInt) then okW (gn h0 84 3) (gn h0 84 0) x y else false) (gn h0 84 5))) := by
  refine Sp_of aiX9_wants rfl rfl rfl ?_
  have L0 : pm_get (lv_args 0 [.ref 77, .int x, .int y]) 0 = some (.ref 77) := rfl
  have L1 : pm_get (lv_args 0 [.ref 77, .int x, .int y]) 1 = some (.int x) := rfl
  have L2 : pm_get (lv_args 0 [.ref 77, .int x, .int y]) 2 = some (.int y) := rfl
  generalize lv_args 0 [.ref 77, .int x, .int y] = lv at L0 L1 L2 ⊢
  refine E_al rfl L0 ?_
  refine E_ci 0 rfl (by decide) ?_
  refine E_pf rfl hh0 rfl ?_
  have hh1 : HH (pt h0 77 0 (nJ 0)) := HH_ptn hh0 rfl (by omega) (by omega) (by omega)
  have fr1 : fr_g VM h0 (pt h0 77 0 (nJ 0)) := fr_ptr (l := 0) (u := 0) rfl (by omega) (by omega) (fr_rf VM h0)
  have V0 : RV (pt h0 77 0 (nJ 0)) := RV_fr hh0 (M := [(77, 0, 0)]) rfl (fr_ptr (l := 0) (u := 0) rfl (by omega) (by omega) (fr_rf _ _)) hV
  refine E_al rfl L0 ?_
  refine E_il rfl L1 ?_
  refine E_i2l rfl ?_
  refine E_call rfl (sp_isCar hh1) (chk77 hh1 rfl rfl (by show 0 ≤ 8; decide)) (fun h2 r2 => ?_)
  rintro ⟨e2, f2⟩
  rw [e2, f2]
  show Ends _ _ (11, lv, [.int (zb (0 ≤ x.toInt ∧ x.toInt ≤ (gn (pt h0 77 0 (nJ 0)) 84 3 : Int) - 1))], (pt h0 77 0 (nJ 0)), 0, 0) _
  by_cases hb3 : ¬ (0 ≤ x.toInt ∧ x.toInt ≤ (gn (pt h0 77 0 (nJ 0)) 84 3 : Int) - 1)
  · refine E_ifT rfl (by rw [zb_F hb3]; rfl) ?_
    refine E_c rfl ?_
    exact E_rti rfl ⟨⟨hh1, fr1, V0, _, rfl⟩, fun a k hak => gi_ne (by omega), wnW hh0 (.inl hb3)⟩
  · refine E_ifF rfl (by rw [zb_T (Classical.not_not.mp hb3)]; rfl) ?_
    have hcar := Classical.not_not.mp hb3
    refine E_al rfl L0 ?_
    refine E_il rfl L2 ?_
    refine E_call rfl (Sp_le (by omega) (sp_isPlace (d := 0) hh1)) (chk77 hh1 rfl rfl (by show 0 ≤ 8; decide)) (fun h4 r4 => ?_)
    rintro ⟨e4, f4⟩
    rw [e4, f4]
    show Ends _ _ (19, lv, [.int (zb (0 < (gi (pt h0 77 0 (nJ 0)) 83 0).toInt ∧ 1 ≤ y.toInt ∧ y.toInt ≤ (gn (pt h0 77 0 (nJ 0)) 84 0 : Int)))], (pt h0 77 0 (nJ 0)), 0, 0) _
    by_cases hb5 : 0 < (gi (pt h0 77 0 (nJ 0)) 83 0).toInt ∧ 1 ≤ y.toInt ∧ y.toInt ≤ (gn (pt h0 77 0 (nJ 0)) 84 0 : Int)
    · refine E_ifT rfl (by rw [zb_T hb5]; rfl) ?_
      have hC8 : gn (pt h0 77 0 (nJ 0)) 84 3 ≤ 8 := gn_hi hh1 rfl (by decide)
      have hP8 : gn (pt h0 77 0 (nJ 0)) 84 0 ≤ 8 := gn_hi hh1 rfl (by decide)
      obtain ⟨k, hk, rfl⟩ := nJ_of2 (n := gn (pt h0 77 0 (nJ 0)) 84 3 - 1) hcar.1 (by have := hcar.2; have := hcar.1; omega)
      obtain ⟨p, hp, rfl⟩ := nJ_of2 (n := gn (pt h0 77 0 (nJ 0)) 84 0) (x := y) (by have := hb5.2.1; omega) hb5.2.2
      have hp1 : 1 ≤ p := by have h9 := hb5.2.1; rw [nJ_toInt (by omega)] at h9; omega
      refine E_al rfl L0 ?_
      refine E_gr rfl hh1 (q := 84) rfl ?_
      refine E_ci 5 rfl (by decide) ?_
      have b6 : gn (pt h0 77 0 (nJ 0)) 84 5 ≤ 20 := gn_hi hh1 rfl (by decide)
      refine E_ial rfl hh1 rfl (by omega) (by decide) (gi_gn hh1 rfl (by decide)) ?_
      refine E_ci 20 rfl (by decide) ?_
      by_cases hb7 : ¬ (gn (pt h0 77 0 (nJ 0)) 84 5) = 20
      · refine E_icT rfl (decide_eq_true (fun q => hb7 ((nJ_eq (by omega) (by omega)).mp q))) ?_
        refine E_al rfl L0 ?_
        refine E_ci 0 rfl (by decide) ?_
        refine E_il rfl L1 ?_
        refine E_il rfl L2 ?_
        refine E_call rfl (Sp_le (by omega) (sp_doesE (d := 0) hh1 V0 (by omega) (by omega) (by omega) (by omega) (by omega))) (chk77 hh1 rfl rfl (by show 0 ≤ 8; decide)) (fun h8 r8 => ?_)
        rintro ⟨⟨hh8, fq8, V8, x8, f8⟩, m8, n8⟩
        rw [f8]
        have fr8 : fr_g VM h0 h8 := fr_trans fr1 fq8
        show Ends _ _ (48, lv, [.int x8], h8, 0, 0) _
        exact E_rti rfl ⟨⟨hh8, fr8, V8, _, rfl⟩, fun a k hak => by rw [m8 a k hak]; exact gi_ne (by omega), wnY hh0 hb7 n8 (bif_ye (decide_eq_true (show 0 < (gi h0 83 0).toInt by have := hb5.1; rw [gi_ne (by omega)] at this; exact this)) (decide_eq_true (by have e1 : gn (pt h0 77 0 (nJ 0)) 84 3 = gn h0 84 3 := gn_ne (by omega); have e2 : gn (pt h0 77 0 (nJ 0)) 84 0 = gn h0 84 0 := gn_ne (by omega); have q5 := hb5.2; rw [e1] at hcar; rw [e2] at q5; exact ⟨⟨hcar.1, by omega⟩, q5⟩)))⟩
      · refine E_icF rfl (decide_eq_false (fun q => hb7 (fun z => q ((nJ_eq (by omega) (by omega)).mpr z)))) ?_
        refine E_c rfl ?_
        refine E_goto rfl ?_
        exact E_rti rfl ⟨⟨hh1, fr1, V0, _, rfl⟩, fun a k hak => gi_ne (by omega), wnF hh0 hb7⟩
    · refine E_ifF rfl (by rw [zb_F hb5]; rfl) ?_
      refine E_c rfl ?_
      exact E_rti rfl ⟨⟨hh1, fr1, V0, _, rfl⟩, fun a k hak => gi_ne (by omega), wnW hh0 (.inr hb5)⟩
theorem tv_tradesE {h0 : pm_H} {d : Nat} {x y : Int32} (hh0 : HH h0) (hV : RV h0) : Sp (d + 40) 362 h0 [.ref 77, .int x, .int y] (fun h' r => VQ h0 h' r ∧ SAM h0 h' ∧ gi h' 84 5 = nJ (wna (okT (gn h0 84 3) x y) (gn h0 84 5))) := by
  refine Sp_of aiX9_trades rfl rfl rfl ?_
  have L0 : pm_get (lv_args 0 [.ref 77, .int x, .int y]) 0 = some (.ref 77) := rfl
  have L1 : pm_get (lv_args 0 [.ref 77, .int x, .int y]) 1 = some (.int x) := rfl
  have L2 : pm_get (lv_args 0 [.ref 77, .int x, .int y]) 2 = some (.int y) := rfl
  generalize lv_args 0 [.ref 77, .int x, .int y] = lv at L0 L1 L2 ⊢
  refine E_al rfl L0 ?_
  refine E_ci 0 rfl (by decide) ?_
  refine E_pf rfl hh0 rfl ?_
  have hh1 : HH (pt h0 77 0 (nJ 0)) := HH_ptn hh0 rfl (by omega) (by omega) (by omega)
  have fr1 : fr_g VM h0 (pt h0 77 0 (nJ 0)) := fr_ptr (l := 0) (u := 0) rfl (by omega) (by omega) (fr_rf VM h0)
  have V0 : RV (pt h0 77 0 (nJ 0)) := RV_fr hh0 (M := [(77, 0, 0)]) rfl (fr_ptr (l := 0) (u := 0) rfl (by omega) (by omega) (fr_rf _ _)) hV
  refine E_al rfl L0 ?_
  refine E_il rfl L1 ?_
  refine E_il rfl L2 ?_
  refine E_call rfl (Sp_le (by omega) (sp_areTwo (d := 0) hh1)) (chk77 hh1 rfl rfl (by show 0 ≤ 8; decide)) (fun h2 r2 => ?_)
  rintro ⟨e2, f2⟩
  rw [e2, f2]
  show Ends _ _ (11, lv, [.int (zb ((0 ≤ x.toInt ∧ x.toInt ≤ (gn (pt h0 77 0 (nJ 0)) 84 3 : Int) - 1) ∧ (0 ≤ y.toInt ∧ y.toInt ≤ (gn (pt h0 77 0 (nJ 0)) 84 3 : Int) - 1) ∧ ¬ x = y))], (pt h0 77 0 (nJ 0)), 0, 0) _
  by_cases hb3 : (0 ≤ x.toInt ∧ x.toInt ≤ (gn (pt h0 77 0 (nJ 0)) 84 3 : Int) - 1) ∧ (0 ≤ y.toInt ∧ y.toInt ≤ (gn (pt h0 77 0 (nJ 0)) 84 3 : Int) - 1) ∧ ¬ x = y
  · refine E_ifT rfl (by rw [zb_T hb3]; rfl) ?_
    have hC8 : gn (pt h0 77 0 (nJ 0)) 84 3 ≤ 8 := gn_hi hh1 rfl (by decide)
    obtain ⟨qa, qb, qn⟩ := id hb3
    obtain ⟨k, hk, rfl⟩ := nJ_of2 (n := gn (pt h0 77 0 (nJ 0)) 84 3 - 1) qa.1 (by have := qa.2; have := qa.1; omega)
    obtain ⟨p, hp, rfl⟩ := nJ_of2 (n := gn (pt h0 77 0 (nJ 0)) 84 3 - 1) (x := y) qb.1 (by have := qb.2; have := qb.1; omega)
    have hc1 : 1 ≤ gn (pt h0 77 0 (nJ 0)) 84 3 := by have := qa.1; have := qa.2; omega
    refine E_al rfl L0 ?_
    refine E_gr rfl hh1 (q := 84) rfl ?_
    refine E_ci 5 rfl (by decide) ?_
    have b4 : gn (pt h0 77 0 (nJ 0)) 84 5 ≤ 20 := gn_hi hh1 rfl (by decide)
    refine E_ial rfl hh1 rfl (by omega) (by decide) (gi_gn hh1 rfl (by decide)) ?_
    refine E_ci 20 rfl (by decide) ?_
    by_cases hb5 : ¬ (gn (pt h0 77 0 (nJ 0)) 84 5) = 20
    · refine E_icT rfl (decide_eq_true (fun q => hb5 ((nJ_eq (by omega) (by omega)).mp q))) ?_
      refine E_al rfl L0 ?_
      refine E_ci 1 rfl (by decide) ?_
      refine E_il rfl L1 ?_
      refine E_il rfl L2 ?_
      refine E_call rfl (Sp_le (by omega) (sp_doesE (d := 0) hh1 V0 (by omega) (by omega) (by omega) (by omega) (by omega))) (chk77 hh1 rfl rfl (by show 0 ≤ 8; decide)) (fun h6 r6 => ?_)
      rintro ⟨⟨hh6, fq6, V6, x6, f6⟩, m8, n8⟩
      rw [f6]
      have fr6 : fr_g VM h0 h6 := fr_trans fr1 fq6
      show Ends _ _ (40, lv, [.int x6], h6, 0, 0) _
      exact E_rti rfl ⟨⟨hh6, fr6, V6, _, rfl⟩, fun a k hak => by rw [m8 a k hak]; exact gi_ne (by omega), wnY hh0 hb5 n8 (decide_eq_true (by have e1 : gn (pt h0 77 0 (nJ 0)) 84 3 = gn h0 84 3 := gn_ne (by omega); have q3 := hb3; rw [e1] at q3; exact ⟨⟨q3.1.1, by omega⟩, ⟨q3.2.1.1, by omega⟩, q3.2.2⟩))⟩
    · refine E_icF rfl (decide_eq_false (fun q => hb5 (fun z => q ((nJ_eq (by omega) (by omega)).mpr z)))) ?_
      refine E_c rfl ?_
      refine E_goto rfl ?_
      exact E_rti rfl ⟨⟨hh1, fr1, V0, _, rfl⟩, fun a k hak => gi_ne (by omega), wnF hh0 hb5⟩
  · refine E_ifF rfl (by rw [zb_F hb3]; rfl) ?_
    refine E_c rfl ?_
    exact E_rti rfl ⟨⟨hh1, fr1, V0, _, rfl⟩, fun a k hak => gi_ne (by omega), wnT hh0 hb3⟩
end
section
/-! acts of the reference, exactly (written by gen_u58.py; wants t58, u56) -/
noncomputable def DO9 (h h' : pm_H) (kd c x : Nat) : Prop := gi h' 87 (3 * gn h 84 5) = nJ kd ∧ gi h' 87 (3 * gn h 84 5 + 1) = nJ c ∧ gi h' 87 (3 * gn h 84 5 + 2) = nJ x ∧ ∀ k, k ≠ 3 * gn h 84 5 → k ≠ 3 * gn h 84 5 + 1 → k ≠ 3 * gn h 84 5 + 2 → gi h' 87 k = gi h 87 k
noncomputable def AD9 (h h' : pm_H) (kd c x : Nat) : Prop := (gi h' 84 5 = gi h 84 5 ∧ ∀ k, gi h' 87 k = gi h 87 k) ∨ (gi h' 84 5 = nJ (gn h 84 5 + 1) ∧ DO9 h h' kd c x)
theorem AD9_77 {h h' : pm_H} {v : Int32} {kd c x : Nat} (n : gi h' 84 5 = nJ (gn (pt h 77 0 v) 84 5 + 1) ∧ DO9 (pt h 77 0 v) h' kd c x) : AD9 h h' kd c x := by
  have e : gn (pt h 77 0 v) 84 5 = gn h 84 5 := gn_ne (by omega)
  obtain ⟨n1, d1, d2, d3, d4⟩ := n
  rw [e] at n1 d1 d2 d3 d4
  exact .inr ⟨n1, d1, d2, d3, fun k k1 k2 k3 => by rw [d4 k k1 k2 k3]; exact gi_ne (by omega)⟩
end
