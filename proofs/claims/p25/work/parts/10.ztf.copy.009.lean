section
theorem tv_back {h0 : pm_H} {d : Nat} {x : Int32} (hh0 : HH h0) (hV : RV h0) : Sp (d + 40) 212 h0 [.ref 77, .int x] (fun h' r => HH h' ∧ fr_g VM h0 h' ∧ RV h' ∧ r = some (.int (bkv 88 h0 x))) := by
  refine Sp_of aiX9_back rfl rfl rfl ?_
  have L0 : pm_get (lv_args 0 [.ref 77, .int x]) 0 = some (.ref 77) := rfl
  have L1 : pm_get (lv_args 0 [.ref 77, .int x]) 1 = some (.int x) := rfl
  generalize lv_args 0 [.ref 77, .int x] = lv at L0 L1 ⊢
  refine E_al rfl L0 ?_
  refine E_ci 0 rfl (by decide) ?_
  refine E_pf rfl hh0 rfl ?_
  have hh1 : HH (pt h0 77 0 (nJ 0)) := HH_ptn hh0 rfl (by omega) (by omega) (by omega)
  have fr1 : fr_g VM h0 (pt h0 77 0 (nJ 0)) := fr_ptr (l := 0) (u := 0) rfl (by omega) (by omega) (fr_rf VM h0)
  have V0 : RV (pt h0 77 0 (nJ 0)) := RV_fr hh0 (M := [(77, 0, 0)]) rfl (fr_ptr (l := 0) (u := 0) rfl (by omega) (by omega) (fr_rf _ _)) hV
  refine E_il rfl L1 ?_
  refine E_i2l rfl ?_
  refine E_c rfl ?_
  refine E_c rfl ?_
  refine E_call rfl (sp_in (a := x.toInt) (b := 0) (c := 2) (i2l_toInt _) rfl rfl) (chkS rfl (by show 0 ≤ 8; decide)) (fun h2 r2 => ?_)
  rintro ⟨e2, f2⟩
  rw [e2, f2]
  show Ends _ _ (14, lv, [.int (zb (0 ≤ x.toInt ∧ x.toInt ≤ 2))], (pt h0 77 0 (nJ 0)), 0, 0) _
  by_cases hb3 : 0 ≤ x.toInt ∧ x.toInt ≤ 2
  · refine E_ifT rfl (by rw [zb_T hb3]; rfl) ?_
    obtain ⟨k, hk, rfl⟩ := nJ_of2 (n := 2) hb3.1 hb3.2
    refine E_al rfl L0 ?_
    refine E_gr rfl hh1 (q := 88) rfl ?_
    refine E_il rfl L1 ?_
    refine E_zal rfl hh1 (by omega) ?_
    by_cases hb4 : ¬ (gi (pt h0 77 0 (nJ 0)) 88 k) = 0
    · refine E_ifT rfl (decide_eq_true hb4) ?_
      refine E_al rfl L0 ?_
      refine E_ci 1 rfl (by decide) ?_
      refine E_il rfl L1 ?_
      refine E_bin rfl (nJ_add _ _) ?_
      refine E_ci 0 rfl (by decide) ?_
      refine E_call rfl (Sp_le (by omega) (sp_copyStreet (d := 0) hh1 (by omega) (by omega) (by omega))) (chk77 hh1 rfl rfl (by show 0 ≤ 8; decide)) (fun h5 r5 => ?_)
      rintro ⟨e5, hh5, fq5, ka5, kb5, kc5, kd5⟩
      rw [e5]
      have fr5 : fr_g VM h0 h5 := fr_trans fr1 (fr_wk rfl fq5)
      have V5 : RV h5 := ⟨fun r hr => if e : r = 0 then (by rw [e]; exact ka5 (V0.1 _ (by omega))) else kc5 r (by omega) e (V0.1 r hr), fun r hr => if e : r = 0 then (by rw [e]; exact kb5 (V0.2 _ (by omega))) else kd5 r (by omega) e (V0.2 r hr)⟩
      show Ends _ _ (40, lv, [], h5, 0, 0) _
      refine E_ci 0 rfl (by decide) ?_
      exact E_rti rfl ⟨hh5, fr5, V5, by rw [bkv_0 (by omega) (by have q := hb4; rw [gi_ne (by omega)] at q; exact q)]; rfl⟩
    · refine E_ifF rfl (decide_eq_false hb4) ?_
      refine E_c rfl ?_
      exact E_rti rfl ⟨hh1, fr1, V0, by rw [bkv_6 (by omega) (by have q := Classical.not_not.mp hb4; rw [gi_ne (by omega)] at q; exact q)]⟩
  · refine E_ifF rfl (by rw [zb_F hb3]; rfl) ?_
    refine E_c rfl ?_
    exact E_rti rfl ⟨hh1, fr1, V0, by rw [bkv_no hb3]⟩
end

