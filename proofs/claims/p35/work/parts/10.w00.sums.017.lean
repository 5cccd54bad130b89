section
section RDC
variable {h : pm_H} {d : Nat} {x : Int32}
theorem sp_lu7 {c i n : Nat} (hc : hsF c = some (.inr (.inl 60))) (hh : HH h) (n7 : n ≤ 7) (i7 : i ≤ n) (x0 : 0 ≤ x.toInt) (x5 : x.toInt ≤ 511) : Sp 2 67 h [.ref 64, .ref c, .int (nJ i), .int (nJ n), .int x] (fun h' r => h' = h ∧ ∃ e, e ≤ 8 ∧ r = some (.int (nJ e))) := by
  refine Sp_of aiX7_leastUnwritten rfl rfl rfl ?_
  have L1 : pm_get (lv_args 0 [.ref 64, .ref c, .int (nJ i), .int (nJ n), .int x]) 1 = some (.ref c) := rfl
  have L2 : pm_get (lv_args 0 [.ref 64, .ref c, .int (nJ i), .int (nJ n), .int x]) 2 = some (.int (nJ i)) := rfl
  have L3 : pm_get (lv_args 0 [.ref 64, .ref c, .int (nJ i), .int (nJ n), .int x]) 3 = some (.int (nJ n)) := rfl
  have L4 : pm_get (lv_args 0 [.ref 64, .ref c, .int (nJ i), .int (nJ n), .int x]) 4 = some (.int x) := rfl
  generalize lv_args 0 [.ref 64, .ref c, .int (nJ i), .int (nJ n), .int x] = lv at L1 L2 L3 L4 ⊢
  have loop : ∀ (j : Nat) {k : Nat} {y : Int32} (lv : List (Nat × Value)), k + j = n → 0 ≤ y.toInt → y.toInt ≤ 511 → pm_get lv 1 = some (.ref c) → pm_get lv 3 = some (.int (nJ n)) → pm_get lv 5 = some (.int y) → pm_get lv 6 = some (.int (nJ k)) → Ends (pm_at tX7_leastUnwritten) (pm_Rt pm_P 1) (7, lv, [], h, 0, 0) (fun h' r => h' = h ∧ ∃ e, e ≤ 8 ∧ r = some (.int (nJ e))) := by
    intro j
    induction j with
    | zero =>
      intro k y lv hj y0 y5 L1 L3 L5 L6
      refine E_il rfl L6 ?_
      refine E_il rfl L3 ?_
      refine E_icT rfl (decide_eq_true ((nJ_le (by omega) (by omega)).mpr (by omega))) ?_
      refine E_il rfl L5 ?_
      refine E_call rfl (sp_low7 hh y0 y5) (chkS rfl (by show 0 ≤ 8; decide)) (fun h1 r1 => ?_)
      rintro ⟨e1, e, he, f1⟩
      rw [e1, f1]
      exact E_rti rfl ⟨rfl, e, he, rfl⟩
    | succ j ih =>
      intro k y lv hj y0 y5 L1 L3 L5 L6
      refine E_il rfl L6 ?_
      refine E_il rfl L3 ?_
      refine E_icF rfl (decide_eq_false (fun q => absurd ((nJ_le (by omega) (by omega)).mp q) (by omega))) ?_
      refine E_il rfl L5 ?_
      refine E_ci 1 rfl ci1 ?_
      refine E_al rfl L1 ?_
      refine E_il rfl L6 ?_
      refine E_lal rfl hh hc (by omega) (by decide) ?_
      refine E_l2i rfl rfl ?_
      refine E_bin rfl rfl ?_
      refine E_c rfl ?_
      refine E_bin rfl rfl ?_
      refine E_bin rfl rfl ?_
      refine E_is rfl (fun lv1 K5 kp => ?_)
      refine E_inc rfl (kp 6 _ (nbz rfl) rfl L6) (nJ_inc _) (fun lv2 K6 kp2 => ?_)
      refine E_goto rfl ?_
      have a := ai_and1 (x := y) (y := (nJ 1 <<< ((gl h c k).toInt32 &&& 31)) ^^^ -1) y0
      exact ih lv2 (by omega) a.1 (by omega) (kp2 1 _ (nbz rfl) rfl (kp 1 _ (nbz rfl) rfl L1)) (kp2 3 _ (nbz rfl) rfl (kp 3 _ (nbz rfl) rfl L3)) (kp2 5 _ (nbz rfl) rfl K5) K6
  refine E_il rfl L4 ?_
  refine E_is rfl (fun lv1 K5 kp => ?_)
  refine E_il rfl (kp 2 _ (nbz rfl) rfl L2) ?_
  refine E_is rfl (fun lv2 K6 kp2 => ?_)
  exact loop (n - i) lv2 (by omega) x0 x5 (kp2 1 _ (nbz rfl) rfl (kp 1 _ (nbz rfl) rfl L1)) (kp2 3 _ (nbz rfl) rfl (kp 3 _ (nbz rfl) rfl L3)) (kp2 5 _ (nbz rfl) rfl K5) K6
/-- a call by a summary without cases that matter -/
theorem sp_add7 {e v : Nat} (hh : HH h) (he : e ≤ 8) (hv : v ≤ 8) : Sp 1 57 h [.ref 64, .int (nJ e), .int (nJ v)] (fun h' r => r = none ∧ HH h' ∧ fr_g RF7 h h' ∧ gi h' 64 5 = gi h 64 5) := by
  have z1 := nJ_toInt (n := e) (by omega)
  have z2 := nJ_toInt (n := v) (by omega)
  refine Sp_mono ?_ (Sp_sum q331 (as := [.ref 64, .int (nJ e), .int (nJ v)]) hh ⟨rfl, ⟨by show (0 : Int) ≤ (nJ e).toInt; omega, by show (nJ e).toInt ≤ 8; omega⟩, ⟨by show (0 : Int) ≤ (nJ v).toInt; omega, by show (nJ v).toInt ≤ 8; omega⟩, trivial⟩ (fun _ hq => absurd hq List.not_mem_nil) (fun _ hq => absurd hq List.not_mem_nil))
  rintro h' r ⟨a, b, C, hC, c⟩
  have e := List.mem_singleton.mp hC
  subst e
  refine ⟨?_, a, fr_wk rfl b, fr_gi b rfl⟩
  match r, c.2.2.2 with
  | none, _ => rfl
theorem sp_clr7 (hh : HH h) : Sp 1 60 h [.ref 64] (fun h' r => r = none ∧ HH h' ∧ fr_g RF7 h h' ∧ gi h' 64 5 = gi h 64 5) := by
  refine Sp_mono ?_ (Sp_sum q302 (as := [.ref 64]) hh ⟨rfl, trivial⟩ (fun _ hq => absurd hq List.not_mem_nil) (fun _ hq => absurd hq List.not_mem_nil))
  rintro h' r ⟨a, b, C, hC, c⟩
  have e := List.mem_singleton.mp hC
  subst e
  refine ⟨?_, a, fr_wk rfl b, fr_gi b rfl⟩
  match r, c.2.2.2 with
  | none, _ => rfl
theorem sp_hng7 (hh : HH h) : Sp 2 64 h [.ref 64] (fun h' r => r = none ∧ HH h' ∧ fr_g RF7 h h' ∧ gi h' 64 5 = gi h 64 5) := by
  refine Sp_mono ?_ (Sp_sum q322 (as := [.ref 64]) hh ⟨rfl, trivial⟩ (fun _ hq => absurd hq List.not_mem_nil) (fun _ hq => absurd hq List.not_mem_nil))
  rintro h' r ⟨a, b, C, hC, c⟩
  have e := List.mem_singleton.mp hC
  subst e
  refine ⟨?_, a, fr_wk rfl b, fr_gi b rfl⟩
  match r, c.2.2.2 with
  | none, _ => rfl
theorem bx_tab : ∀ p : Fin 9, 0 ≤ ((nJ 1 <<< (nJ (p.val + 1) &&& 31)) - nJ 1).toInt ∧ ((nJ 1 <<< (nJ (p.val + 1) &&& 31)) - nJ 1).toInt ≤ 511 := by decide +kernel
theorem l2i_nJ7 {y : Int64} (h0 : 0 ≤ y.toInt) (h8 : y.toInt ≤ 8) : y.toInt32 = nJ y.toInt.toNat := by
  apply Int32.toInt_inj.mp
  rw [Int64.toInt_toInt32, nJ_toInt (by omega), Int.bmod_eq_of_le (by omega) (by omega)]
  omega
theorem sp_decode7 {c p : Nat} (hc : hsF c = some (.inr (.inl 60))) (cn : RF7.all (fun r => !(Nat.beq r.1 c)) = true) (hh : HH h) (p1 : 1 ≤ p) (p8 : p ≤ 8) (V : ∀ m, m < p - 1 → 0 ≤ (gl h c m).toInt ∧ (gl h c m).toInt ≤ 8) : Sp 3 62 h [.ref 64, .ref c, .int (nJ p)] (fun h' r => r = none ∧ HH h' ∧ fr_g RF7 h h' ∧ gi h' 64 5 = nJ (p + 1)) := by
  refine Sp_of aiX7_decode rfl rfl rfl ?_
  have L0 : pm_get (lv_args 0 [.ref 64, .ref c, .int (nJ p)]) 0 = some (.ref 64) := rfl
  have L1 : pm_get (lv_args 0 [.ref 64, .ref c, .int (nJ p)]) 1 = some (.ref c) := rfl
  have L2 : pm_get (lv_args 0 [.ref 64, .ref c, .int (nJ p)]) 2 = some (.int (nJ p)) := rfl
  generalize lv_args 0 [.ref 64, .ref c, .int (nJ p)] = lv at L0 L1 L2 ⊢
  have gc : ∀ {g : pm_H}, fr_g RF7 h g → ∀ k, gl g c k = gl h c k := fun hf k => by
    unfold gl
    rw [hf c k (rg_no cn k)]
  have loop : ∀ (j : Nat) {g : pm_H} {k : Nat} {y : Int32} (lv : List (Nat × Value)), k + j = p - 1 → HH g → fr_g RF7 h g → gi g 64 5 = nJ (p + 1) → 0 ≤ y.toInt → y.toInt ≤ 511 → pm_get lv 0 = some (.ref 64) → pm_get lv 1 = some (.ref c) → pm_get lv 2 = some (.int (nJ p)) → pm_get lv 3 = some (.int y) → pm_get lv 4 = some (.int (nJ k)) → Ends (pm_at tX7_decode) (pm_Rt pm_P 2) (21, lv, [], g, 0, 0) (fun h' r => r = none ∧ HH h' ∧ fr_g RF7 h h' ∧ gi h' 64 5 = nJ (p + 1)) := by
    intro j
    induction j with
    | zero =>
      intro g k y lv hj hg hf g5 y0 y5 L0 L1 L2 L3 L4
      refine E_il rfl L4 ?_
      refine E_il rfl L2 ?_
      refine E_ci 1 rfl ci1 ?_
      refine E_bin rfl (nJ_sub p1) ?_
      refine E_icT rfl (decide_eq_true ((nJ_le (by omega) (by omega)).mpr (by omega))) ?_
      refine E_il rfl L3 ?_
      refine E_call rfl (Sp_le (by first | exact Nat.add_le_add_left (Nat.le_of_ble_eq_true rfl) _ | exact Nat.le_of_ble_eq_true rfl | omega) (sp_low7 hg y0 y5)) (chkS rfl (by show 0 ≤ 8; decide)) (fun h1 r1 => ?_)
      rintro ⟨e1, e, he, f1⟩
      rw [e1, f1]
      refine E_is rfl (fun lv1 K4 kp => ?_)
      have M0 := kp 0 _ (nbz rfl) rfl L0
      have M3 := kp 3 _ (nbz rfl) rfl L3
      refine E_al rfl M0 ?_
      refine E_il rfl K4 ?_
      refine E_il rfl M3 ?_
      refine E_ci 1 rfl ci1 ?_
      refine E_il rfl K4 ?_
      refine E_bin rfl rfl ?_
      refine E_c rfl ?_
      refine E_bin rfl rfl ?_
      refine E_bin rfl rfl ?_
      have a := ai_and1 (x := y) (y := (nJ 1 <<< (nJ e &&& 31)) ^^^ -1) y0
      refine E_call rfl (Sp_le (by first | exact Nat.add_le_add_left (Nat.le_of_ble_eq_true rfl) _ | exact Nat.le_of_ble_eq_true rfl | omega) (sp_low7 hg a.1 (by omega))) (chkS rfl (by show 2 ≤ 8; decide)) (fun h2 r2 => ?_)
      rintro ⟨e2, u, hu, f2⟩
      rw [e2, f2]
      refine E_call rfl (Sp_le (by first | exact Nat.add_le_add_left (Nat.le_of_ble_eq_true rfl) _ | exact Nat.le_of_ble_eq_true rfl | omega) (sp_add7 hg he hu)) (chkO (a := 64) hg rfl rfl rfl rfl (by show 0 ≤ 8; decide)) (fun h3 r3 => ?_)
      rintro ⟨e3, hh3, f3, g3⟩
      rw [e3]
      refine E_al rfl M0 ?_
      refine E_call rfl (sp_hng7 hh3) (chkO (a := 64) hh3 rfl rfl rfl rfl (by show 0 ≤ 8; decide)) (fun h4 r4 => ?_)
      rintro ⟨e4, hh4, f4, g4⟩
      rw [e4]
      exact E_ret rfl ⟨rfl, hh4, fr_trans hf (fr_trans f3 f4), by rw [g4]; exact g3.trans g5⟩
    | succ j ih =>
      intro g k y lv hj hg hf g5 y0 y5 L0 L1 L2 L3 L4
      refine E_il rfl L4 ?_
      refine E_il rfl L2 ?_
      refine E_ci 1 rfl ci1 ?_
      refine E_bin rfl (nJ_sub p1) ?_
      refine E_icF rfl (decide_eq_false (fun q => absurd ((nJ_le (by omega) (by omega)).mp q) (by omega))) ?_
      refine E_al rfl L0 ?_
      refine E_al rfl L1 ?_
      refine E_il rfl L4 ?_
      refine E_il rfl L2 ?_
      refine E_ci 1 rfl ci1 ?_
      refine E_bin rfl (nJ_sub p1) ?_
      refine E_il rfl L3 ?_
      refine E_call rfl (sp_lu7 hc hg (by omega) (by omega) y0 y5) (chkO (a := 64) hg rfl rfl rfl rfl (by show 0 ≤ 8; decide)) (fun h1 r1 => ?_)
      rintro ⟨e1, e, he, f1⟩
      rw [e1, f1]
      refine E_is rfl (fun lv1 K5 kp => ?_)
      refine E_il rfl (kp 3 _ (nbz rfl) rfl L3) ?_
      refine E_ci 1 rfl ci1 ?_
      refine E_il rfl K5 ?_
      refine E_bin rfl rfl ?_
      refine E_c rfl ?_
      refine E_bin rfl rfl ?_
      refine E_bin rfl rfl ?_
      have a := ai_and1 (x := y) (y := (nJ 1 <<< (nJ e &&& 31)) ^^^ -1) y0
      refine E_is rfl (fun lv2 K3 kp2 => ?_)
      have M0 := kp2 0 _ (nbz rfl) rfl (kp 0 _ (nbz rfl) rfl L0)
      have M1 := kp2 1 _ (nbz rfl) rfl (kp 1 _ (nbz rfl) rfl L1)
      have M2 := kp2 2 _ (nbz rfl) rfl (kp 2 _ (nbz rfl) rfl L2)
      have M4 := kp2 4 _ (nbz rfl) rfl (kp 4 _ (nbz rfl) rfl L4)
      have M5 := kp2 5 _ (nbz rfl) rfl K5
      have v := V k (by omega)
      refine E_al rfl M0 ?_
      refine E_il rfl M5 ?_
      refine E_al rfl M1 ?_
      refine E_il rfl M4 ?_
      refine E_lal rfl hg hc (by omega) (by decide) ?_
      refine E_l2i rfl (show (gl g c k).toInt32 = nJ (gl h c k).toInt.toNat from by rw [gc hf]; exact l2i_nJ7 v.1 v.2) ?_
      refine E_call rfl (Sp_le (by first | exact Nat.add_le_add_left (Nat.le_of_ble_eq_true rfl) _ | exact Nat.le_of_ble_eq_true rfl | omega) (sp_add7 hg he (v := (gl h c k).toInt.toNat) (by omega))) (chkO (a := 64) hg rfl rfl rfl rfl (by show 0 ≤ 8; decide)) (fun h3 r3 => ?_)
      rintro ⟨e3, hh3, f3, g3⟩
      rw [e3]
      refine E_inc rfl M4 (nJ_inc _) (fun lv3 K4 kp3 => ?_)
      refine E_goto rfl ?_
      exact ih lv3 (by omega) hh3 (fr_trans hf f3) (g3.trans g5) a.1 (by omega) (kp3 0 _ (nbz rfl) rfl M0) (kp3 1 _ (nbz rfl) rfl M1) (kp3 2 _ (nbz rfl) rfl M2) (kp3 3 _ (nbz rfl) rfl K3) K4
  refine E_al rfl L0 ?_
  refine E_il rfl L2 ?_
  refine E_call rfl (Sp_le (by first | exact Nat.add_le_add_left (Nat.le_of_ble_eq_true rfl) _ | exact Nat.le_of_ble_eq_true rfl | omega) (sp_begin7 (d := 0) hh p8)) (chkO (a := 64) hh rfl rfl rfl rfl (by show 0 ≤ 8; decide)) (fun h1 r1 => ?_)
  rintro ⟨e1, hh1, f1, g1⟩
  rw [e1]
  refine E_al rfl L0 ?_
  refine E_call rfl (Sp_le (by first | exact Nat.add_le_add_left (Nat.le_of_ble_eq_true rfl) _ | exact Nat.le_of_ble_eq_true rfl | omega) (sp_clr7 hh1)) (chkO (a := 64) hh1 rfl rfl rfl rfl (by show 0 ≤ 8; decide)) (fun h2 r2 => ?_)
  rintro ⟨e2, hh2, f2, g2'⟩
  rw [e2]
  have g2 : gi h2 64 5 = nJ (p + 1) := g2'.trans g1
  refine E_ci 1 rfl ci1 ?_
  refine E_al rfl L0 ?_
  refine E_ogf (q := (0, 9)) rfl hh2 rfl rfl g2 ?_
  refine E_bin rfl rfl ?_
  refine E_ci 1 rfl ci1 ?_
  refine E_bin rfl rfl ?_
  have bx := bx_tab ⟨p, by omega⟩
  refine E_is rfl (fun lv1 K3 kp => ?_)
  refine E_ci 0 rfl ci0 ?_
  refine E_is rfl (fun lv2 K4 kp2 => ?_)
  exact loop (p - 1) lv2 (by omega) hh2 (fr_trans f1 f2) g2 bx.1 bx.2 (kp2 0 _ (nbz rfl) rfl (kp 0 _ (nbz rfl) rfl L0)) (kp2 1 _ (nbz rfl) rfl (kp 1 _ (nbz rfl) rfl L1)) (kp2 2 _ (nbz rfl) rfl (kp 2 _ (nbz rfl) rfl L2)) (kp2 3 _ (nbz rfl) rfl K3) K4
end RDC
end
