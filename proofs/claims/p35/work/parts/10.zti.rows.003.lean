section
theorem tv_street {h0 : pm_H} {d : Nat} (hh0 : HH h0) (hV : RV h0) : Sp (d + 40) 354 h0 [.ref 77] (VQS h0) := by
  refine Sp_of aiX9_street rfl rfl rfl ?_
  refine E_al rfl (show pm_get (lv_args 0 [.ref 77]) 0 = _ from rfl) ?_
  refine E_ci 0 rfl ci0 ?_
  refine E_pf rfl hh0 rfl ?_
  have hh1 : HH (pt h0 77 0 (nJ 0)) := HH_ptn hh0 rfl (by omega) (by omega) (by omega)
  have fr1 : fr_g STM h0 (pt h0 77 0 (nJ 0)) := fr_ptr (l := 0) (u := 0) rfl (by omega) (by omega) (fr_rf STM h0)
  refine E_al rfl (show pm_get (lv_args 0 [.ref 77]) 0 = _ from rfl) ?_
  refine E_call rfl (Sp_le (by first | exact Nat.add_le_add_left (Nat.le_of_ble_eq_true rfl) _ | exact Nat.le_of_ble_eq_true rfl | omega) (sp_clears (d := 0) hh1)) (chk77 hh1 rfl rfl (by show 0 ≤ 8; decide)) (fun h2 r2 => ?_)
  rintro ⟨e2, hh2, fq2, l2, z2⟩
  rw [e2]
  have fr2 : fr_g STM h0 h2 := fr_trans fr1 (fr_wk rfl fq2)
  have wy2 : W4 h2 := ⟨by rw [show gn h2 84 27 = 0 from z2 3 (by omega)]; omega, fun c hc => by rw [show gn h2 84 27 = 0 from z2 3 (by omega)] at hc; omega, JN_zero (z2 4 (by omega)), z2 5 (by omega)⟩
  have c2 : gn h2 84 27 = 0 := z2 3 (by omega)
  show Ends _ _ (9, (lv_args 0 [.ref 77]), [], h2, 0, 0) _
  refine E_al rfl (show pm_get (lv_args 0 [.ref 77]) 0 = _ from rfl) ?_
  refine E_call rfl (Sp_le (by first | exact Nat.add_le_add_left (Nat.le_of_ble_eq_true rfl) _ | exact Nat.le_of_ble_eq_true rfl | omega) (sp_begins (d := 0) hh2)) (chk77 hh2 rfl rfl (by show 0 ≤ 8; decide)) (fun h3 r3 => ?_)
  rintro ⟨e3, ⟨hh3, ra3, rb3, rc3⟩, fq3⟩
  rw [e3]
  have fr3 : fr_g STM h0 h3 := fr_trans fr2 (fr_wk rfl fq3)
  have wy3 : W4 h3 := W4_fr rfl fq3 wy2
  have l3 : gi h3 83 4 = nJ 0 := by rw [fr_gi fq3 (rg_no rfl _)]; exact l2
  have c3 : gn h3 84 27 = 0 := by rw [fr_gn fq3 (rg_no rfl _)]; exact c2
  show Ends _ _ (13, (lv_args 0 [.ref 77]), [], h3, 0, 0) _
  exact st_loop hh0 hV 501 (L := 0) (lv_args 0 [.ref 77]) hh3 ra3 rb3 rc3 fr3 wy3 l3 (by omega) (fun _ => by omega) (fun _ => c3) (fun _ => by omega) (show pm_get (lv_args 0 [.ref 77]) 0 = _ from rfl)
end
section
theorem Go_ifT {look : Nat → Option pm_I} {call : pm_Call} {z : Bool} {t n : Nat} {ρ : List (Nat × Value) × List Value × pm_H × Nat × Nat} {o : pm_H × Option Value} (hz : z = true) (h : pm_Go look call (t, ρ) o) : pm_Go look call (bif z then t else n, ρ) o := by
  subst hz; exact h
theorem Go_ifF {look : Nat → Option pm_I} {call : pm_Call} {z : Bool} {t n : Nat} {ρ : List (Nat × Value) × List Value × pm_H × Nat × Nat} {o : pm_H × Option Value} (hz : z = false) (h : pm_Go look call (n, ρ) o) : pm_Go look call (bif z then t else n, ρ) o := by
  subst hz; exact h
/-- a method's run out of its rows -/
theorem Rt_of {d y : Nat} {h : pm_H} {as : List Value} {h' : pm_H} {r : Option Value} {I : pm_M} (hI : pm_at pm_P y = some I) (hl : (lg_sl as).length ≤ I.2.2.1) (hg : pm_Go (pm_at I.2.2.2.2.2.2.2) (pm_Rt pm_P d) (0, lv_args 0 as, [], h, I.2.2.2.2.2.1, I.2.2.2.2.2.2.1) (h', r)) : pm_Rt pm_P (d + 1) y h as h' r := ⟨I, hI, hl, hg⟩
theorem chkV {k ci mc ms a : Nat} {st fs as : List Value} {w : pm_H × Nat × Nat} (h1 : Nat.ble k st.length = true) (h2 : (st.take k).reverse = .ref a :: as) (h3 : w.1[a]? = some (.inr (ci, fs))) (h4 : Nat.ble (pm_sz (st.drop k)) 8 = true) (h5 : Nat.ble mc w.2.1 = true) (h6 : Nat.ble ms w.2.2 = true) (h7 : Nat.blt ci 100 = true) : pm_chk k (some ci) mc ms st w :=
  ⟨Nat.le_of_ble_eq_true h1, fun q hq => by cases hq; exact ⟨fun _ => ⟨a, fs, as, h2, h3⟩, fun h9 => absurd (Nat.le_of_ble_eq_true h7) (Nat.not_lt.mpr h9)⟩, Nat.le_of_ble_eq_true h4, Nat.le_of_ble_eq_true h5, Nat.le_of_ble_eq_true h6⟩
set_option maxRecDepth 20000 in
set_option maxHeartbeats 4000000 in
theorem rc_0 (d : Nat) : pm_Rt pm_P (d + 1) 56 [.inr (8, [.null, .null, .null, .null, .null, .null, .null, .null, .null, .null, .null, .null]), .inr (6, [.null, .int 0])] [.ref 1] [.inr (8, [.null, .null, .null, .null, .null, .null, .null, .null, .null, .null, .null, .null]), .inr (6, [.ref 2, .int 0]), .inl (1, 500, .inl (fun _ => 0))] none := by
  refine Rt_of aiX6_init (by decide) ?_
  refine Go_st rfl rfl ?_
  refine Go_st rfl rfl ?_
  refine Go_st rfl rfl ?_
  refine Go_st rfl rfl ?_
  refine Go_st rfl rfl ?_
  refine Go_st rfl rfl ?_
  exact Go_ret rfl ⟨rfl, rfl⟩
set_option maxRecDepth 20000 in
set_option maxHeartbeats 4000000 in
theorem rc_1 (d : Nat) : pm_Rt pm_P (d + 1) 52 [.inr (8, [.ref 1, .null, .null, .null, .null, .null, .null, .null, .null, .null, .null, .null]), .inr (6, [.ref 2, .int 0]), .inl (1, 500, .inl (fun _ => 0)), .inr (2, [.null, .int 0, .int 0, .ref 1, .null, .int 0, .int 0, .int 0, .int 0, .int 0]), .inr (5, [.int 0, .int 0, .int 0, .int 0, .int 0, .int 0, .int 0, .null, .null, .null, .null, .null, .null, .null, .null])] [.ref 4] [.inr (8, [.ref 1, .null, .null, .null, .null, .null, .null, .null, .null, .null, .null, .null]), .inr (6, [.ref 2, .int 0]), .inl (1, 500, .inl (fun _ => 0)), .inr (2, [.null, .int 0, .int 0, .ref 1, .null, .int 0, .int 0, .int 0, .int 0, .int 0]), .inr (5, [.int 0, .int 0, .int 0, .int 0, .int 0, .int 0, .int 0, .ref 5, .ref 6, .ref 7, .ref 8, .ref 9, .ref 10, .ref 11, .ref 12]), .inl (0, 8, .inl (fun _ => 0)), .inl (0, 8, .inl (fun _ => 0)), .inl (0, 8, .inl (fun _ => 0)), .inl (0, 8, .inl (fun _ => 0)), .inl (0, 8, .inl (fun _ => 0)), .inl (0, 20, .inl (fun _ => 0)), .inl (0, 20, .inl (fun _ => 0)), .inl (2, 20, .inl (fun _ => 0))] none := by
  refine Rt_of aiX5_init (by decide) ?_
  refine Go_st rfl rfl ?_
  refine Go_st rfl rfl ?_
  refine Go_st rfl rfl ?_
  refine Go_st rfl rfl ?_
  refine Go_st rfl rfl ?_
  refine Go_st rfl rfl ?_
  refine Go_st rfl rfl ?_
  refine Go_st rfl rfl ?_
  refine Go_st rfl rfl ?_
  refine Go_st rfl rfl ?_
  refine Go_st rfl rfl ?_
  refine Go_st rfl rfl ?_
  refine Go_st rfl rfl ?_
  refine Go_st rfl rfl ?_
  refine Go_st rfl rfl ?_
  refine Go_st rfl rfl ?_
  refine Go_st rfl rfl ?_
  refine Go_st rfl rfl ?_
  refine Go_st rfl rfl ?_
  refine Go_st rfl rfl ?_
  refine Go_st rfl rfl ?_
  refine Go_st rfl rfl ?_
  refine Go_st rfl rfl ?_
  refine Go_st rfl rfl ?_
  refine Go_st rfl rfl ?_
  refine Go_st rfl rfl ?_
  refine Go_st rfl rfl ?_
  refine Go_st rfl rfl ?_
  refine Go_st rfl rfl ?_
  refine Go_st rfl rfl ?_
  refine Go_st rfl rfl ?_
  refine Go_st rfl rfl ?_
  refine Go_st rfl rfl ?_
  refine Go_st rfl rfl ?_
  exact Go_ret rfl ⟨rfl, rfl⟩
set_option maxRecDepth 20000 in
set_option maxHeartbeats 4000000 in
theorem rc_2 (d : Nat) : pm_Rt pm_P (d + 1) 13 [.inr (8, [.ref 1, .null, .null, .null, .null, .null, .null, .null, .null, .null, .null, .null]), .inr (6, [.ref 2, .int 0]), .inl (1, 500, .inl (fun _ => 0)), .inr (2, [.ref 4, .int 0, .int 0, .ref 1, .null, .int 0, .int 0, .int 0, .int 0, .int 0]), .inr (5, [.int 0, .int 0, .int 0, .int 0, .int 0, .int 0, .int 0, .ref 5, .ref 6, .ref 7, .ref 8, .ref 9, .ref 10, .ref 11, .ref 12]), .inl (0, 8, .inl (fun _ => 0)), .inl (0, 8, .inl (fun _ => 0)), .inl (0, 8, .inl (fun _ => 0)), .inl (0, 8, .inl (fun _ => 0)), .inl (0, 8, .inl (fun _ => 0)), .inl (0, 20, .inl (fun _ => 0)), .inl (0, 20, .inl (fun _ => 0)), .inl (2, 20, .inl (fun _ => 0)), .inr (0, [.null, .int 0])] [.ref 13] [.inr (8, [.ref 1, .null, .null, .null, .null, .null, .null, .null, .null, .null, .null, .null]), .inr (6, [.ref 2, .int 0]), .inl (1, 500, .inl (fun _ => 0)), .inr (2, [.ref 4, .int 0, .int 0, .ref 1, .null, .int 0, .int 0, .int 0, .int 0, .int 0]), .inr (5, [.int 0, .int 0, .int 0, .int 0, .int 0, .int 0, .int 0, .ref 5, .ref 6, .ref 7, .ref 8, .ref 9, .ref 10, .ref 11, .ref 12]), .inl (0, 8, .inl (fun _ => 0)), .inl (0, 8, .inl (fun _ => 0)), .inl (0, 8, .inl (fun _ => 0)), .inl (0, 8, .inl (fun _ => 0)), .inl (0, 8, .inl (fun _ => 0)), .inl (0, 20, .inl (fun _ => 0)), .inl (0, 20, .inl (fun _ => 0)), .inl (2, 20, .inl (fun _ => 0)), .inr (0, [.ref 14, .int 0]), .inl (0, 10, .inl (fun _ => 0))] none := by
  refine Rt_of aiX0_init (by decide) ?_
  refine Go_st rfl rfl ?_
  refine Go_st rfl rfl ?_
  refine Go_st rfl rfl ?_
  refine Go_st rfl rfl ?_
  refine Go_st rfl rfl ?_
  refine Go_st rfl rfl ?_
  exact Go_ret rfl ⟨rfl, rfl⟩
set_option maxRecDepth 20000 in
set_option maxHeartbeats 4000000 in
theorem rc_3 (d : Nat) : pm_Rt pm_P (d + 2) 26 [.inr (8, [.ref 1, .null, .null, .null, .null, .null, .null, .null, .null, .null, .null, .null]), .inr (6, [.ref 2, .int 0]), .inl (1, 500, .inl (fun _ => 0)), .inr (2, [.null, .int 0, .int 0, .null, .null, .int 0, .int 0, .int 0, .int 0, .int 0])] [.ref 3, .ref 1] [.inr (8, [.ref 1, .null, .null, .null, .null, .null, .null, .null, .null, .null, .null, .null]), .inr (6, [.ref 2, .int 0]), .inl (1, 500, .inl (fun _ => 0)), .inr (2, [.ref 4, .int 0, .int (-1), .ref 1, .ref 13, .int 0, .int 0, .int 0, .int 0, .int 0]), .inr (5, [.int 0, .int 0, .int 0, .int 0, .int 0, .int 0, .int 0, .ref 5, .ref 6, .ref 7, .ref 8, .ref 9, .ref 10, .ref 11, .ref 12]), .inl (0, 8, .inl (fun _ => 0)), .inl (0, 8, .inl (fun _ => 0)), .inl (0, 8, .inl (fun _ => 0)), .inl (0, 8, .inl (fun _ => 0)), .inl (0, 8, .inl (fun _ => 0)), .inl (0, 20, .inl (fun _ => 0)), .inl (0, 20, .inl (fun _ => 0)), .inl (2, 20, .inl (fun _ => 0)), .inr (0, [.ref 14, .int 0]), .inl (0, 10, .inl (fun _ => 0))] none := by
  refine Rt_of aiX2_init (by decide) ?_
  refine Go_st rfl rfl ?_
  refine Go_st rfl rfl ?_
  refine Go_st rfl rfl ?_
  refine Go_st rfl rfl ?_
  refine Go_st rfl rfl ?_
  refine Go_st rfl rfl ?_
  refine Go_st rfl rfl ?_
  refine Go_st rfl rfl ?_
  refine Go_call rfl (rc_1 d) (chkV rfl rfl rfl rfl rfl rfl rfl) ?_
  refine Go_st rfl rfl ?_
  refine Go_st rfl rfl ?_
  refine Go_st rfl rfl ?_
  refine Go_st rfl rfl ?_
  refine Go_call rfl (rc_2 d) (chkV rfl rfl rfl rfl rfl rfl rfl) ?_
  refine Go_st rfl rfl ?_
  refine Go_st rfl rfl ?_
  refine Go_st rfl rfl ?_
  refine Go_st rfl rfl ?_
  exact Go_ret rfl ⟨rfl, rfl⟩
set_option maxRecDepth 20000 in
set_option maxHeartbeats 4000000 in
theorem rc_4 (d : Nat) : pm_Rt pm_P (d + 1) 52 [.inr (8, [.ref 1, .ref 3, .null, .null, .null, .null, .null, .null, .null, .null, .null, .null]), .inr (6, [.ref 2, .int 0]), .inl (1, 500, .inl (fun _ => 0)), .inr (2, [.ref 4, .int 0, .int (-1), .ref 1, .ref 13, .int 0, .int 0, .int 0, .int 0, .int 0]), .inr (5, [.int 0, .int 0, .int 0, .int 0, .int 0, .int 0, .int 0, .ref 5, .ref 6, .ref 7, .ref 8, .ref 9, .ref 10, .ref 11, .ref 12]), .inl (0, 8, .inl (fun _ => 0)), .inl (0, 8, .inl (fun _ => 0)), .inl (0, 8, .inl (fun _ => 0)), .inl (0, 8, .inl (fun _ => 0)), .inl (0, 8, .inl (fun _ => 0)), .inl (0, 20, .inl (fun _ => 0)), .inl (0, 20, .inl (fun _ => 0)), .inl (2, 20, .inl (fun _ => 0)), .inr (0, [.ref 14, .int 0]), .inl (0, 10, .inl (fun _ => 0)), .inr (5, [.int 0, .int 0, .int 0, .int 0, .int 0, .int 0, .int 0, .null, .null, .null, .null, .null, .null, .null, .null])] [.ref 15] [.inr (8, [.ref 1, .ref 3, .null, .null, .null, .null, .null, .null, .null, .null, .null, .null]), .inr (6, [.ref 2, .int 0]), .inl (1, 500, .inl (fun _ => 0)), .inr (2, [.ref 4, .int 0, .int (-1), .ref 1, .ref 13, .int 0, .int 0, .int 0, .int 0, .int 0]), .inr (5, [.int 0, .int 0, .int 0, .int 0, .int 0, .int 0, .int 0, .ref 5, .ref 6, .ref 7, .ref 8, .ref 9, .ref 10, .ref 11, .ref 12]), .inl (0, 8, .inl (fun _ => 0)), .inl (0, 8, .inl (fun _ => 0)), .inl (0, 8, .inl (fun _ => 0)), .inl (0, 8, .inl (fun _ => 0)), .inl (0, 8, .inl (fun _ => 0)), .inl (0, 20, .inl (fun _ => 0)), .inl (0, 20, .inl (fun _ => 0)), .inl (2, 20, .inl (fun _ => 0)), .inr (0, [.ref 14, .int 0]), .inl (0, 10, .inl (fun _ => 0)), .inr (5, [.int 0, .int 0, .int 0, .int 0, .int 0, .int 0, .int 0, .ref 16, .ref 17, .ref 18, .ref 19, .ref 20, .ref 21, .ref 22, .ref 23]), .inl (0, 8, .inl (fun _ => 0)), .inl (0, 8, .inl (fun _ => 0)), .inl (0, 8, .inl (fun _ => 0)), .inl (0, 8, .inl (fun _ => 0)), .inl (0, 8, .inl (fun _ => 0)), .inl (0, 20, .inl (fun _ => 0)), .inl (0, 20, .inl (fun _ => 0)), .inl (2, 20, .inl (fun _ => 0))] none := by
  refine Rt_of aiX5_init (by decide) ?_
  refine Go_st rfl rfl ?_
  refine Go_st rfl rfl ?_
  refine Go_st rfl rfl ?_
  refine Go_st rfl rfl ?_
  refine Go_st rfl rfl ?_
  refine Go_st rfl rfl ?_
  refine Go_st rfl rfl ?_
  refine Go_st rfl rfl ?_
  refine Go_st rfl rfl ?_
  refine Go_st rfl rfl ?_
  refine Go_st rfl rfl ?_
  refine Go_st rfl rfl ?_
  refine Go_st rfl rfl ?_
  refine Go_st rfl rfl ?_
  refine Go_st rfl rfl ?_
  refine Go_st rfl rfl ?_
  refine Go_st rfl rfl ?_
  refine Go_st rfl rfl ?_
  refine Go_st rfl rfl ?_
  refine Go_st rfl rfl ?_
  refine Go_st rfl rfl ?_
  refine Go_st rfl rfl ?_
  refine Go_st rfl rfl ?_
  refine Go_st rfl rfl ?_
  refine Go_st rfl rfl ?_
  refine Go_st rfl rfl ?_
  refine Go_st rfl rfl ?_
  refine Go_st rfl rfl ?_
  refine Go_st rfl rfl ?_
  refine Go_st rfl rfl ?_
  refine Go_st rfl rfl ?_
  refine Go_st rfl rfl ?_
  refine Go_st rfl rfl ?_
  refine Go_st rfl rfl ?_
  exact Go_ret rfl ⟨rfl, rfl⟩
set_option maxRecDepth 20000 in
set_option maxHeartbeats 4000000 in
theorem rc_5 (d : Nat) : pm_Rt pm_P (d + 1) 52 [.inr (8, [.ref 1, .ref 3, .ref 15, .ref 24, .null, .null, .null, .null, .null, .null, .null, .null]), .inr (6, [.ref 2, .int 0]), .inl (1, 500, .inl (fun _ => 0)), .inr (2, [.ref 4, .int 0, .int (-1), .ref 1, .ref 13, .int 0, .int 0, .int 0, .int 0, .int 0]), .inr (5, [.int 0, .int 0, .int 0, .int 0, .int 0, .int 0, .int 0, .ref 5, .ref 6, .ref 7, .ref 8, .ref 9, .ref 10, .ref 11, .ref 12]), .inl (0, 8, .inl (fun _ => 0)), .inl (0, 8, .inl (fun _ => 0)), .inl (0, 8, .inl (fun _ => 0)), .inl (0, 8, .inl (fun _ => 0)), .inl (0, 8, .inl (fun _ => 0)), .inl (0, 20, .inl (fun _ => 0)), .inl (0, 20, .inl (fun _ => 0)), .inl (2, 20, .inl (fun _ => 0)), .inr (0, [.ref 14, .int 0]), .inl (0, 10, .inl (fun _ => 0)), .inr (5, [.int 0, .int 0, .int 0, .int 0, .int 0, .int 0, .int 0, .ref 16, .ref 17, .ref 18, .ref 19, .ref 20, .ref 21, .ref 22, .ref 23]), .inl (0, 8, .inl (fun _ => 0)), .inl (0, 8, .inl (fun _ => 0)), .inl (0, 8, .inl (fun _ => 0)), .inl (0, 8, .inl (fun _ => 0)), .inl (0, 8, .inl (fun _ => 0)), .inl (0, 20, .inl (fun _ => 0)), .inl (0, 20, .inl (fun _ => 0)), .inl (2, 20, .inl (fun _ => 0)), .inl (4, 3, .inr (.inr (.inr (.inr (fun _ => none))))), .inr (5, [.int 0, .int 0, .int 0, .int 0, .int 0, .int 0, .int 0, .null, .null, .null, .null, .null, .null, .null, .null])] [.ref 25] [.inr (8, [.ref 1, .ref 3, .ref 15, .ref 24, .null, .null, .null, .null, .null, .null, .null, .null]), .inr (6, [.ref 2, .int 0]), .inl (1, 500, .inl (fun _ => 0)), .inr (2, [.ref 4, .int 0, .int (-1), .ref 1, .ref 13, .int 0, .int 0, .int 0, .int 0, .int 0]), .inr (5, [.int 0, .int 0, .int 0, .int 0, .int 0, .int 0, .int 0, .ref 5, .ref 6, .ref 7, .ref 8, .ref 9, .ref 10, .ref 11, .ref 12]), .inl (0, 8, .inl (fun _ => 0)), .inl (0, 8, .inl (fun _ => 0)), .inl (0, 8, .inl (fun _ => 0)), .inl (0, 8, .inl (fun _ => 0)), .inl (0, 8, .inl (fun _ => 0)), .inl (0, 20, .inl (fun _ => 0)), .inl (0, 20, .inl (fun _ => 0)), .inl (2, 20, .inl (fun _ => 0)), .inr (0, [.ref 14, .int 0]), .inl (0, 10, .inl (fun _ => 0)), .inr (5, [.int 0, .int 0, .int 0, .int 0, .int 0, .int 0, .int 0, .ref 16, .ref 17, .ref 18, .ref 19, .ref 20, .ref 21, .ref 22, .ref 23]), .inl (0, 8, .inl (fun _ => 0)), .inl (0, 8, .inl (fun _ => 0)), .inl (0, 8, .inl (fun _ => 0)), .inl (0, 8, .inl (fun _ => 0)), .inl (0, 8, .inl (fun _ => 0)), .inl (0, 20, .inl (fun _ => 0)), .inl (0, 20, .inl (fun _ => 0)), .inl (2, 20, .inl (fun _ => 0)), .inl (4, 3, .inr (.inr (.inr (.inr (fun _ => none))))), .inr (5, [.int 0, .int 0, .int 0, .int 0, .int 0, .int 0, .int 0, .ref 26, .ref 27, .ref 28, .ref 29, .ref 30, .ref 31, .ref 32, .ref 33]), .inl (0, 8, .inl (fun _ => 0)), .inl (0, 8, .inl (fun _ => 0)), .inl (0, 8, .inl (fun _ => 0)), .inl (0, 8, .inl (fun _ => 0)), .inl (0, 8, .inl (fun _ => 0)), .inl (0, 20, .inl (fun _ => 0)), .inl (0, 20, .inl (fun _ => 0)), .inl (2, 20, .inl (fun _ => 0))] none := by
  refine Rt_of aiX5_init (by decide) ?_
  refine Go_st rfl rfl ?_
  refine Go_st rfl rfl ?_
  refine Go_st rfl rfl ?_
  refine Go_st rfl rfl ?_
  refine Go_st rfl rfl ?_
  refine Go_st rfl rfl ?_
  refine Go_st rfl rfl ?_
  refine Go_st rfl rfl ?_
  refine Go_st rfl rfl ?_
  refine Go_st rfl rfl ?_
  refine Go_st rfl rfl ?_
  refine Go_st rfl rfl ?_
  refine Go_st rfl rfl ?_
  refine Go_st rfl rfl ?_
  refine Go_st rfl rfl ?_
  refine Go_st rfl rfl ?_
  refine Go_st rfl rfl ?_
  refine Go_st rfl rfl ?_
  refine Go_st rfl rfl ?_
  refine Go_st rfl rfl ?_
  refine Go_st rfl rfl ?_
  refine Go_st rfl rfl ?_
  refine Go_st rfl rfl ?_
  refine Go_st rfl rfl ?_
  refine Go_st rfl rfl ?_
  refine Go_st rfl rfl ?_
  refine Go_st rfl rfl ?_
  refine Go_st rfl rfl ?_
  refine Go_st rfl rfl ?_
  refine Go_st rfl rfl ?_
  refine Go_st rfl rfl ?_
  refine Go_st rfl rfl ?_
  refine Go_st rfl rfl ?_
  refine Go_st rfl rfl ?_
  exact Go_ret rfl ⟨rfl, rfl⟩
set_option maxRecDepth 20000 in
set_option maxHeartbeats 4000000 in
theorem rc_6 (d : Nat) : pm_Rt pm_P (d + 1) 52 [.inr (8, [.ref 1, .ref 3, .ref 15, .ref 24, .null, .null, .null, .null, .null, .null, .null, .null]), .inr (6, [.ref 2, .int 0]), .inl (1, 500, .inl (fun _ => 0)), .inr (2, [.ref 4, .int 0, .int (-1), .ref 1, .ref 13, .int 0, .int 0, .int 0, .int 0, .int 0]), .inr (5, [.int 0, .int 0, .int 0, .int 0, .int 0, .int 0, .int 0, .ref 5, .ref 6, .ref 7, .ref 8, .ref 9, .ref 10, .ref 11, .ref 12]), .inl (0, 8, .inl (fun _ => 0)), .inl (0, 8, .inl (fun _ => 0)), .inl (0, 8, .inl (fun _ => 0)), .inl (0, 8, .inl (fun _ => 0)), .inl (0, 8, .inl (fun _ => 0)), .inl (0, 20, .inl (fun _ => 0)), .inl (0, 20, .inl (fun _ => 0)), .inl (2, 20, .inl (fun _ => 0)), .inr (0, [.ref 14, .int 0]), .inl (0, 10, .inl (fun _ => 0)), .inr (5, [.int 0, .int 0, .int 0, .int 0, .int 0, .int 0, .int 0, .ref 16, .ref 17, .ref 18, .ref 19, .ref 20, .ref 21, .ref 22, .ref 23]), .inl (0, 8, .inl (fun _ => 0)), .inl (0, 8, .inl (fun _ => 0)), .inl (0, 8, .inl (fun _ => 0)), .inl (0, 8, .inl (fun _ => 0)), .inl (0, 8, .inl (fun _ => 0)), .inl (0, 20, .inl (fun _ => 0)), .inl (0, 20, .inl (fun _ => 0)), .inl (2, 20, .inl (fun _ => 0)), .inl (4, 3, .inr (.inr (.inr (.inr (va_up (fun _ => none) 0 (some 25)))))), .inr (5, [.int 0, .int 0, .int 0, .int 0, .int 0, .int 0, .int 0, .ref 26, .ref 27, .ref 28, .ref 29, .ref 30, .ref 31, .ref 32, .ref 33]), .inl (0, 8, .inl (fun _ => 0)), .inl (0, 8, .inl (fun _ => 0)), .inl (0, 8, .inl (fun _ => 0)), .inl (0, 8, .inl (fun _ => 0)), .inl (0, 8, .inl (fun _ => 0)), .inl (0, 20, .inl (fun _ => 0)), .inl (0, 20, .inl (fun _ => 0)), .inl (2, 20, .inl (fun _ => 0)), .inr (5, [.int 0, .int 0, .int 0, .int 0, .int 0, .int 0, .int 0, .null, .null, .null, .null, .null, .null, .null, .null])] [.ref 34] [.inr (8, [.ref 1, .ref 3, .ref 15, .ref 24, .null, .null, .null, .null, .null, .null, .null, .null]), .inr (6, [.ref 2, .int 0]), .inl (1, 500, .inl (fun _ => 0)), .inr (2, [.ref 4, .int 0, .int (-1), .ref 1, .ref 13, .int 0, .int 0, .int 0, .int 0, .int 0]), .inr (5, [.int 0, .int 0, .int 0, .int 0, .int 0, .int 0, .int 0, .ref 5, .ref 6, .ref 7, .ref 8, .ref 9, .ref 10, .ref 11, .ref 12]), .inl (0, 8, .inl (fun _ => 0)), .inl (0, 8, .inl (fun _ => 0)), .inl (0, 8, .inl (fun _ => 0)), .inl (0, 8, .inl (fun _ => 0)), .inl (0, 8, .inl (fun _ => 0)), .inl (0, 20, .inl (fun _ => 0)), .inl (0, 20, .inl (fun _ => 0)), .inl (2, 20, .inl (fun _ => 0)), .inr (0, [.ref 14, .int 0]), .inl (0, 10, .inl (fun _ => 0)), .inr (5, [.int 0, .int 0, .int 0, .int 0, .int 0, .int 0, .int 0, .ref 16, .ref 17, .ref 18, .ref 19, .ref 20, .ref 21, .ref 22, .ref 23]), .inl (0, 8, .inl (fun _ => 0)), .inl (0, 8, .inl (fun _ => 0)), .inl (0, 8, .inl (fun _ => 0)), .inl (0, 8, .inl (fun _ => 0)), .inl (0, 8, .inl (fun _ => 0)), .inl (0, 20, .inl (fun _ => 0)), .inl (0, 20, .inl (fun _ => 0)), .inl (2, 20, .inl (fun _ => 0)), .inl (4, 3, .inr (.inr (.inr (.inr (va_up (fun _ => none) 0 (some 25)))))), .inr (5, [.int 0, .int 0, .int 0, .int 0, .int 0, .int 0, .int 0, .ref 26, .ref 27, .ref 28, .ref 29, .ref 30, .ref 31, .ref 32, .ref 33]), .inl (0, 8, .inl (fun _ => 0)), .inl (0, 8, .inl (fun _ => 0)), .inl (0, 8, .inl (fun _ => 0)), .inl (0, 8, .inl (fun _ => 0)), .inl (0, 8, .inl (fun _ => 0)), .inl (0, 20, .inl (fun _ => 0)), .inl (0, 20, .inl (fun _ => 0)), .inl (2, 20, .inl (fun _ => 0)), .inr (5, [.int 0, .int 0, .int 0, .int 0, .int 0, .int 0, .int 0, .ref 35, .ref 36, .ref 37, .ref 38, .ref 39, .ref 40, .ref 41, .ref 42]), .inl (0, 8, .inl (fun _ => 0)), .inl (0, 8, .inl (fun _ => 0)), .inl (0, 8, .inl (fun _ => 0)), .inl (0, 8, .inl (fun _ => 0)), .inl (0, 8, .inl (fun _ => 0)), .inl (0, 20, .inl (fun _ => 0)), .inl (0, 20, .inl (fun _ => 0)), .inl (2, 20, .inl (fun _ => 0))] none := by
  refine Rt_of aiX5_init (by decide) ?_
  refine Go_st rfl rfl ?_
  refine Go_st rfl rfl ?_
  refine Go_st rfl rfl ?_
  refine Go_st rfl rfl ?_
  refine Go_st rfl rfl ?_
  refine Go_st rfl rfl ?_
  refine Go_st rfl rfl ?_
  refine Go_st rfl rfl ?_
  refine Go_st rfl rfl ?_
  refine Go_st rfl rfl ?_
  refine Go_st rfl rfl ?_
  refine Go_st rfl rfl ?_
  refine Go_st rfl rfl ?_
  refine Go_st rfl rfl ?_
  refine Go_st rfl rfl ?_
  refine Go_st rfl rfl ?_
  refine Go_st rfl rfl ?_
  refine Go_st rfl rfl ?_
  refine Go_st rfl rfl ?_
  refine Go_st rfl rfl ?_
  refine Go_st rfl rfl ?_
  refine Go_st rfl rfl ?_
  refine Go_st rfl rfl ?_
  refine Go_st rfl rfl ?_
  refine Go_st rfl rfl ?_
  refine Go_st rfl rfl ?_
  refine Go_st rfl rfl ?_
  refine Go_st rfl rfl ?_
  refine Go_st rfl rfl ?_
  refine Go_st rfl rfl ?_
  refine Go_st rfl rfl ?_
  refine Go_st rfl rfl ?_
  refine Go_st rfl rfl ?_
  refine Go_st rfl rfl ?_
  exact Go_ret rfl ⟨rfl, rfl⟩
end
