section
noncomputable def half_image (h : pm_H) (x v : Int32) : Prop := TP h ∧ x = imv v ∧ ∀ j, j < 3 → gi h 52 j = if v = nJ j then 1 else gi h 88 j
theorem c8_image {h : pm_H} {v : Int32} (I : IVR h) : Sp 100 121 h [.ref 0, .int v] (fun h' r => IVh h' ∧ ∃ x : Int32, r = some (.int x) ∧ half_image h' x v) := by
  refine Sp_le (by first | exact Nat.add_le_add_left (Nat.le_of_ble_eq_true rfl) _ | exact Nat.le_of_ble_eq_true rfl | omega) (Sp_mono ?_ (Sp_and (top_all (as := [.ref 0, .int v]) q905 (by decide +kernel) I.1 ⟨rfl, aI _, trivial⟩) (sp_image8 I.1)))
  rintro h' r ⟨⟨s1, s2, -⟩, rfl, s3⟩
  refine ⟨s1, _, rfl, TP_frB s2 rfl I.2.1, rfl, fun j hj => ?_⟩
  rw [s3 j hj, I.2.2 j hj, fr_gi s2 (rg_no rfl j)]
theorem c9_image {h : pm_H} {x v : Int32} (I : IVh h) (J : half_image h x v) : Sp 100 260 h [.ref 77, .int v] (fun h' r => IVR h' ∧ r = some (.int x)) := by
  refine Sp_le (by first | exact Nat.add_le_add_left (Nat.le_of_ble_eq_true rfl) _ | exact Nat.le_of_ble_eq_true rfl | omega) (Sp_mono ?_ (tv_image (d := 0) I.1 I.2.2))
  rintro h' r ⟨a1, a2, a3, rfl, a5⟩
  obtain ⟨j1, rfl, j3⟩ := J
  refine ⟨⟨IVh_fr (M := VMI) (by decide +kernel) a2 a1 I a3, TP_frB a2 rfl j1, fun j hj => ?_⟩, rfl⟩
  rw [a5 j hj, fr_gi a2 (rg_no rfl j)]
  exact j3 j hj
theorem bkv_eq {A B : Nat} {h g : pm_H} {v : Int32} (e : ∀ j, j < 3 → gi h A j = gi g B j) : bkv A h v = bkv B g v := by
  unfold bkv
  by_cases q : 0 ≤ v.toInt ∧ v.toInt ≤ 2
  · rw [if_pos q, if_pos q, e _ (by omega)]
  · rw [if_neg q, if_neg q]
noncomputable def half_back (h : pm_H) (x v : Int32) : Prop := REL h ∧ x = bkv 88 h v
theorem c8_back {h : pm_H} {v : Int32} (I : IVR h) : Sp 100 82 h [.ref 0, .int v] (fun h' r => IVh h' ∧ ∃ x : Int32, r = some (.int x) ∧ half_back h' x v) := by
  refine Sp_le (by first | exact Nat.add_le_add_left (Nat.le_of_ble_eq_true rfl) _ | exact Nat.le_of_ble_eq_true rfl | omega) (Sp_mono ?_ (Sp_and (top_all (as := [.ref 0, .int v]) q927 (by decide +kernel) I.1 ⟨rfl, aI _, trivial⟩) (sp_back8 I.1)))
  rintro h' r ⟨⟨s1, s2, -⟩, rfl⟩
  refine ⟨s1, _, rfl, REL_fr s2 rfl I.2, bkv_eq (fun j hj => ?_)⟩
  rw [fr_gi s2 (rg_no rfl j)]
  exact I.2.2 j hj
theorem c9_back {h : pm_H} {x v : Int32} (I : IVh h) (J : half_back h x v) : Sp 100 212 h [.ref 77, .int v] (fun h' r => IVR h' ∧ r = some (.int x)) := by
  refine Sp_le (by first | exact Nat.add_le_add_left (Nat.le_of_ble_eq_true rfl) _ | exact Nat.le_of_ble_eq_true rfl | omega) (Sp_mono ?_ (tv_back (d := 0) I.1 I.2.2))
  rintro h' r ⟨a1, a2, a3, rfl⟩
  obtain ⟨j1, rfl⟩ := J
  exact ⟨⟨IVh_fr (M := VM) (by decide +kernel) a2 a1 I a3, REL_fr a2 rfl j1⟩, rfl⟩
theorem IVR_hp0 : IVR hp0 := ⟨IVh_hp0, ⟨rfl, fun j hj => absurd hj (Nat.not_lt_zero j)⟩, fun _ _ => rfl⟩
end
section
/-! by hand: the class's paste -/
theorem E_cpy {look : Nat → Option pm_I} {call : pm_Call} {Q : pm_H → Option Value → Prop} {pc n : Nat} {lv : List (Nat × Value)} {st : List Value} {h : pm_H} {z : Nat × Nat} {a0 a1 : Nat} {sp dp m : Int32} (h1 : look pc = some (.inl (s_copy n))) (hh : HH h) (c0 : hsF a0 = some (.inr (.inl 60))) (c1 : hsF a1 = some (.inr (.inl 60))) (k1 : 0 ≤ sp.toInt) (k2 : 0 ≤ dp.toInt) (k3 : 0 ≤ m.toInt) (k4 : sp.toInt + m.toInt ≤ 60) (k5 : dp.toInt + m.toInt ≤ 60) (hs : Nat.ble (pm_sz st) 8 = true) (kk : ∀ h', HH h' → fr_g [(a1, 0, 59)] h h' → Ends look call (n, lv, st, h', z) Q) : Ends look call (pc, lv, .int m :: .int dp :: .ref a1 :: .int sp :: .ref a0 :: st, h, z) Q := by
  obtain ⟨x, hx, hg⟩ := hf_at hh c0
  obtain ⟨y, hy, hk⟩ := hf_at hh c1
  match x, hx, hg, y, hy, hk with
  | .inl (t2, len2, .inr (.inl f)), hx, hg, .inl (t3, len3, .inr (.inl g)), hy, hk =>
    obtain ⟨rfl, rfl⟩ := hg
    obtain ⟨rfl, rfl⟩ := hk
    have z0 : (0 : Int32).toInt = 0 := rfl
    have n1 : ∀ w : Int32, 0 ≤ w.toInt → (!(decide (w < 0))) = true := fun w hw => by
      rw [decide_eq_false (fun q => by have := Int32.lt_iff_toInt_lt.mp q; omega)]; rfl
    have e1 : sp.toNatClampNeg = sp.toInt.toNat := rfl
    have e2 : dp.toNatClampNeg = dp.toInt.toNat := rfl
    have e3 : m.toNatClampNeg = m.toInt.toNat := rfl
    have b1 : Nat.ble (sp.toNatClampNeg + m.toNatClampNeg) 60 = true := Nat.ble_eq_true_of_le (by rw [e1, e3]; omega)
    have b2 : Nat.ble (dp.toNatClampNeg + m.toNatClampNeg) 60 = true := Nat.ble_eq_true_of_le (by rw [e2, e3]; omega)
    refine E_st h1 (σ' := (n, lv, st, h.set a1 (.inl (3, 60, .inr (.inl (va_cpy f g sp.toNatClampNeg dp.toNatClampNeg m.toNatClampNeg)))), z)) ?_ (kk _ (hf_set hh c1 ⟨rfl, rfl⟩) ?_)
    · simp only [s_copy, hx, hy, n1 sp k1, n1 dp k2, n1 m k3, b1, b2, hs, Bool.and_self, cond_true]
    · intro b j hbj
      by_cases e : b = a1
      · subst e
        have hj : ¬ j ≤ 59 := fun hj => by
          rw [rg_in_one (Nat.zero_le _) hj (List.mem_singleton_self _)] at hbj
          cases hbj
        have e9 : va_cpy f g sp.toNatClampNeg dp.toNatClampNeg m.toNatClampNeg j = g j := by
          unfold va_cpy
          rw [if_neg (by rw [e2, e3]; omega)]
        unfold ld
        rw [List.getElem?_set_self (List.getElem?_eq_some_iff.mp hy).1, hy]
        dsimp only
        rw [e9]
      · unfold ld
        rw [List.getElem?_set_ne (Ne.symm e)]
/-- so many numbers from there on lie in the slot -/
noncomputable def hol (h : pm_H) (a : Nat) (f n : Int32) : Prop := 0 ≤ f.toInt ∧ 0 ≤ n.toInt ∧ f.toInt + n.toInt ≤ (gi h a 3).toInt
section PS
variable {h : pm_H} {d a c k : Nat} {x : Int32}
theorem sp_holds {f n : Int32} (hh : HH h) (S : isS a c) : Sp (d + 1) 45 h [.ref a, .int f, .int n] (fun h' r => h' = h ∧ ((hol h a f n ∧ r = some (.int 1)) ∨ (¬ hol h a f n ∧ r = some (.int 0)))) := by
  obtain ⟨S1, S2, S3, S4, S5, S6⟩ := S
  refine Sp_of aiX4_holds rfl rfl rfl ?_
  have L0 : pm_get (lv_args 0 [.ref a, .int f, .int n]) 0 = some (.ref a) := rfl
  have L1 : pm_get (lv_args 0 [.ref a, .int f, .int n]) 1 = some (.int f) := rfl
  have L2 : pm_get (lv_args 0 [.ref a, .int f, .int n]) 2 = some (.int n) := rfl
  generalize lv_args 0 [.ref a, .int f, .int n] = lv at L0 L1 L2 ⊢
  have z0 : (0 : Int32).toInt = 0 := rfl
  have no : ∀ {lv : List (Nat × Value)}, ¬ hol h a f n → Ends (pm_at tX4_holds) (pm_Rt pm_P d) (22, lv, [], h, 0, 0) (fun h' r => h' = h ∧ ((hol h a f n ∧ r = some (.int 1)) ∨ (¬ hol h a f n ∧ r = some (.int 0)))) := by
    intro lv hn
    refine E_ci 0 rfl ci0 ?_
    exact E_rtz rfl (.inl rfl) ⟨rfl, .inr ⟨hn, rfl⟩⟩
  refine E_il rfl L1 ?_
  by_cases b1 : f < 0
  · have q := Int32.lt_iff_toInt_lt.mp b1
    refine E_ifT rfl (decide_eq_true b1) ?_
    exact no (fun z => by have := z.1; omega)
  · have q1 : ¬ f.toInt < (0 : Int32).toInt := fun z => b1 (Int32.lt_iff_toInt_lt.mpr z)
    refine E_ifF rfl (decide_eq_false b1) ?_
    refine E_il rfl L2 ?_
    by_cases b2 : n < 0
    · have q := Int32.lt_iff_toInt_lt.mp b2
      refine E_ifT rfl (decide_eq_true b2) ?_
      exact no (fun z => by have := z.2.1; omega)
    · have q2 : ¬ n.toInt < (0 : Int32).toInt := fun z => b2 (Int32.lt_iff_toInt_lt.mpr z)
      refine E_ifF rfl (decide_eq_false b2) ?_
      refine E_il rfl L1 ?_
      refine E_al rfl L0 ?_
      refine E_ogf rfl hh S1 S6 rfl ?_
      refine E_il rfl L2 ?_
      refine E_bin rfl rfl ?_
      have g := (ld_gi hh S6).2
      dsimp only at g
      have hn := ai_hi n
      have es : (gi h a 3 - n).toInt = (gi h a 3).toInt - n.toInt := by
        rw [Int32.toInt_sub]
        exact Int.bmod_eq_of_le (by omega) (by omega)
      by_cases b3 : gi h a 3 - n < f
      · have q := Int32.lt_iff_toInt_lt.mp b3
        refine E_icT rfl (decide_eq_true b3) ?_
        exact no (fun z => by have := z.2.2; omega)
      · have q3 : ¬ (gi h a 3 - n).toInt < f.toInt := fun z => b3 (Int32.lt_iff_toInt_lt.mpr z)
        refine E_icF rfl (decide_eq_false b3) ?_
        refine E_ci 1 rfl ci1 ?_
        refine E_goto rfl ?_
        exact E_rtz rfl (.inr rfl) ⟨rfl, .inl ⟨⟨by omega, by omega, by omega⟩, rfl⟩⟩
/-- what paste answers -/
noncomputable def psv (h : pm_H) (a i b k n : Int32) (r : Int32) : Prop :=
  (¬ ((0 ≤ a.toInt ∧ a.toInt ≤ 3) ∧ 0 ≤ b.toInt ∧ b.toInt ≤ 3) ∧ r = -2) ∨ ∃ s t, s < 4 ∧ t < 4 ∧ a = nJ s ∧ b = nJ t ∧
    (((gi h (54 + 2 * s) 1 = 0 ∨ gi h (54 + 2 * t) 1 = 0) ∧ r = -6) ∨ (¬ (gi h (54 + 2 * s) 1 = 0 ∨ gi h (54 + 2 * t) 1 = 0) ∧
      ((¬ gi h (54 + 2 * s) 2 = gi h (54 + 2 * t) 2 ∧ r = -8) ∨ (gi h (54 + 2 * s) 2 = gi h (54 + 2 * t) 2 ∧
        ((¬ (hol h (54 + 2 * s) i n ∧ hol h (54 + 2 * t) k n) ∧ r = -7) ∨ ((hol h (54 + 2 * s) i n ∧ hol h (54 + 2 * t) k n) ∧ r = 0))))))
noncomputable def PM : List Rng := [(55, 0, 59), (57, 0, 59), (59, 0, 59), (61, 0, 59)]
theorem PM_at {h h' : pm_H} : ∀ t, t < 4 → fr_g [(55 + 2 * t, 0, 59)] h h' → fr_g PM h h'
  | 0, _, hf => fr_wk rfl hf
  | 1, _, hf => fr_wk rfl hf
  | 2, _, hf => fr_wk rfl hf
  | 3, _, hf => fr_wk rfl hf
  | s + 4, hs, _ => absurd hs (by omega)
noncomputable def PQ (h : pm_H) (a i b k n : Int32) (h' : pm_H) (r : Option Value) : Prop := HH h' ∧ fr_g PM h h' ∧ ∃ x : Int32, r = some (.int x) ∧ psv h a i b k n x
theorem sp_paste8 {x i y j n : Int32} (hh : HH h) : Sp (d + 2) 158 h [.ref 0, .int x, .int i, .int y, .int j, .int n] (PQ h x i y j n) := by
  refine Sp_of aiX8_paste rfl rfl rfl ?_
  have L0 : pm_get (lv_args 0 [.ref 0, .int x, .int i, .int y, .int j, .int n]) 0 = some (.ref 0) := rfl
  have L1 : pm_get (lv_args 0 [.ref 0, .int x, .int i, .int y, .int j, .int n]) 1 = some (.int x) := rfl
  have L2 : pm_get (lv_args 0 [.ref 0, .int x, .int i, .int y, .int j, .int n]) 2 = some (.int i) := rfl
  have L3 : pm_get (lv_args 0 [.ref 0, .int x, .int i, .int y, .int j, .int n]) 3 = some (.int y) := rfl
  have L4 : pm_get (lv_args 0 [.ref 0, .int x, .int i, .int y, .int j, .int n]) 4 = some (.int j) := rfl
  have L5 : pm_get (lv_args 0 [.ref 0, .int x, .int i, .int y, .int j, .int n]) 5 = some (.int n) := rfl
  generalize lv_args 0 [.ref 0, .int x, .int i, .int y, .int j, .int n] = lv at L0 L1 L2 L3 L4 L5 ⊢
  have no : ∀ {lv : List (Nat × Value)}, ¬ ((0 ≤ x.toInt ∧ x.toInt ≤ 3) ∧ 0 ≤ y.toInt ∧ y.toInt ≤ 3) → Ends (pm_at tX8_paste) (pm_Rt pm_P (d + 1)) (14, lv, [], h, 0, 0) (PQ h x i y j n) := by
    intro lv hn
    refine E_c rfl ?_
    exact E_rti rfl ⟨hh, fr_rf _ _, _, rfl, .inl ⟨hn, rfl⟩⟩
  refine E_il rfl L1 ?_
  refine E_call rfl (sp_isSlot8 (d := d)) (chkS rfl (by show 0 ≤ 8; decide)) (fun h1 r1 => ?_)
  rintro ⟨e1, rv⟩
  rw [e1]
  rcases rv with ⟨a0, a3, hr⟩ | ⟨an, hr⟩
  · rw [hr]
    refine E_ifF rfl (by decide) ?_
    refine E_il rfl L3 ?_
    refine E_call rfl (sp_isSlot8 (d := d)) (chkS rfl (by show 0 ≤ 8; decide)) (fun h2 r2 => ?_)
    rintro ⟨e2, rw2⟩
    rw [e2]
    rcases rw2 with ⟨c0, c3, hr2⟩ | ⟨cn, hr2⟩
    · rw [hr2]
      refine E_ifT rfl (by decide) ?_
      obtain ⟨s, hs, rfl⟩ : ∃ s, s < 4 ∧ x = nJ s := ⟨x.toInt.toNat, by omega, nJ_of a0⟩
      obtain ⟨t, ht, rfl⟩ : ∃ s, s < 4 ∧ y = nJ s := ⟨y.toInt.toNat, by omega, nJ_of c0⟩
      obtain ⟨S1, S2, S3, S4, S5, S6⟩ := isS_at s hs
      obtain ⟨T1, T2, T3, T4, T5, T6⟩ := isS_at t ht
      have fin : ∀ {r : Int32}, (((gi h (54 + 2 * s) 1 = 0 ∨ gi h (54 + 2 * t) 1 = 0) ∧ r = -6) ∨ (¬ (gi h (54 + 2 * s) 1 = 0 ∨ gi h (54 + 2 * t) 1 = 0) ∧
      ((¬ gi h (54 + 2 * s) 2 = gi h (54 + 2 * t) 2 ∧ r = -8) ∨ (gi h (54 + 2 * s) 2 = gi h (54 + 2 * t) 2 ∧
        ((¬ (hol h (54 + 2 * s) i n ∧ hol h (54 + 2 * t) j n) ∧ r = -7) ∨ ((hol h (54 + 2 * s) i n ∧ hol h (54 + 2 * t) j n) ∧ r = 0)))))) → psv h (nJ s) i (nJ t) j n r := fun q => .inr ⟨s, t, hs, ht, rfl, rfl, q⟩
      refine E_al rfl L0 ?_
      refine E_ogr rfl hh rfl (q := 53) rfl ?_
      refine E_il rfl L1 ?_
      refine E_aal rfl hh rfl (slot_at s hs) (by decide) ?_
      refine E_asr rfl (fun lv1 M6 kp => ?_)
      have M0 := kp 0 _ (nbz rfl) rfl L0
      have M2 := kp 2 _ (nbz rfl) rfl L2
      have M3 := kp 3 _ (nbz rfl) rfl L3
      have M4 := kp 4 _ (nbz rfl) rfl L4
      have M5 := kp 5 _ (nbz rfl) rfl L5
      refine E_al rfl M0 ?_
      refine E_ogr rfl hh rfl (q := 53) rfl ?_
      refine E_il rfl M3 ?_
      refine E_aal rfl hh rfl (slot_at t ht) (by decide) ?_
      refine E_asr rfl (fun lv2 N7 kp2 => ?_)
      have N2 := kp2 2 _ (nbz rfl) rfl M2
      have N4 := kp2 4 _ (nbz rfl) rfl M4
      have N5 := kp2 5 _ (nbz rfl) rfl M5
      have N6 := kp2 6 _ (nbz rfl) rfl M6
      refine E_al rfl N6 ?_
      refine E_ogf rfl hh S1 S4 rfl ?_
      by_cases b1 : gi h (54 + 2 * s) 1 = 0
      · refine E_ifT rfl (decide_eq_true b1) ?_
        refine E_c rfl ?_
        exact E_rti rfl ⟨hh, fr_rf _ _, _, rfl, fin (.inl ⟨.inl b1, rfl⟩)⟩
      refine E_ifF rfl (decide_eq_false b1) ?_
      refine E_al rfl N7 ?_
      refine E_ogf rfl hh T1 T4 rfl ?_
      by_cases b2 : gi h (54 + 2 * t) 1 = 0
      · refine E_ifF rfl (decide_eq_false (fun q => q b2)) ?_
        refine E_c rfl ?_
        exact E_rti rfl ⟨hh, fr_rf _ _, _, rfl, fin (.inl ⟨.inr b2, rfl⟩)⟩
      refine E_ifT rfl (decide_eq_true b2) ?_
      have b12 : ¬ (gi h (54 + 2 * s) 1 = 0 ∨ gi h (54 + 2 * t) 1 = 0) := fun q => q.elim b1 b2
      refine E_al rfl N6 ?_
      refine E_ogf rfl hh S1 S5 rfl ?_
      refine E_al rfl N7 ?_
      refine E_ogf rfl hh T1 T5 rfl ?_
      by_cases b3 : gi h (54 + 2 * s) 2 = gi h (54 + 2 * t) 2
      · refine E_icT rfl (decide_eq_true b3) ?_
        have fin7 : ∀ {lv : List (Nat × Value)}, ¬ (hol h (54 + 2 * s) i n ∧ hol h (54 + 2 * t) j n) → Ends (pm_at tX8_paste) (pm_Rt pm_P (d + 1)) (91, lv, [], h, 0, 0) (PQ h (nJ s) i (nJ t) j n) := by
          intro lv hn
          refine E_c rfl ?_
          exact E_rti rfl ⟨hh, fr_rf _ _, _, rfl, fin (.inr ⟨b12, .inr ⟨b3, .inl ⟨hn, rfl⟩⟩⟩)⟩
        refine E_al rfl N6 ?_
        refine E_il rfl N2 ?_
        refine E_il rfl N5 ?_
        refine E_call rfl (sp_holds (d := d) hh (isS_at s hs)) (chkO (a := 54 + 2 * s) hh S1 rfl rfl rfl (by show 0 ≤ 8; decide)) (fun h3 r3 => ?_)
        rintro ⟨e3, rw3⟩
        rw [e3]
        rcases rw3 with ⟨o3, hr3⟩ | ⟨o3, hr3⟩
        · rw [hr3]
          refine E_ifF rfl (by decide) ?_
          refine E_al rfl N7 ?_
          refine E_il rfl N4 ?_
          refine E_il rfl N5 ?_
          refine E_call rfl (sp_holds (d := d) hh (isS_at t ht)) (chkO (a := 54 + 2 * t) hh T1 rfl rfl rfl (by show 0 ≤ 8; decide)) (fun h4 r4 => ?_)
          rintro ⟨e4, rw4⟩
          rw [e4]
          rcases rw4 with ⟨o4, hr4⟩ | ⟨o4, hr4⟩
          · rw [hr4]
            refine E_ifT rfl (by decide) ?_
            have g6 := (ld_gi hh S6).2
            have t6 := (ld_gi hh T6).2
            dsimp only at g6 t6
            have u1 := o3.2.2
            have u2 := o4.2.2
            refine E_al rfl N6 ?_
            refine E_ogr rfl hh S1 S2 ?_
            refine E_il rfl N2 ?_
            refine E_al rfl N7 ?_
            refine E_ogr rfl hh T1 T2 ?_
            refine E_il rfl N4 ?_
            refine E_il rfl N5 ?_
            refine E_cpy rfl hh S3 T3 o3.1 o4.1 o3.2.1 (by omega) (by omega) rfl (fun h5 hh5 fr5 => ?_)
            refine E_ci 0 rfl ci0 ?_
            exact E_rti rfl ⟨hh5, PM_at t ht fr5, _, rfl, fin (.inr ⟨b12, .inr ⟨b3, .inr ⟨⟨o3, o4⟩, rfl⟩⟩⟩)⟩
          · rw [hr4]
            refine E_ifF rfl (by decide) ?_
            exact fin7 (fun q => o4 q.2)
        · rw [hr3]
          refine E_ifT rfl (by decide) ?_
          exact fin7 (fun q => o3 q.1)
      · refine E_icF rfl (decide_eq_false b3) ?_
        refine E_c rfl ?_
        exact E_rti rfl ⟨hh, fr_rf _ _, _, rfl, fin (.inr ⟨b12, .inl ⟨b3, rfl⟩⟩)⟩
    · rw [hr2]
      refine E_ifF rfl (by decide) ?_
      exact no (fun q => cn q.2)
  · rw [hr]
    refine E_ifT rfl (by decide) ?_
    exact no (fun q => an q.1)
end PS
end
section
/-! row of class and reference by hand; the relation of the slots (wants t25, E_aal, t29, sp_isSlot) -/
/-- a slot begun anew -/
noncomputable def BQ (a c w n : Nat) (h h' : pm_H) (r : Option Value) : Prop := r = none ∧ HH h' ∧ fr_g [(a, 1, 3), (c, 0, 59)] h h' ∧ gi h' a 1 = 1 ∧ gi h' a 2 = nJ w ∧ gi h' a 3 = nJ n
theorem bg_loop {a c w n d : Nat} {h0 : pm_H} (hac : a ≠ c) (S : isS a c) (hn : n ≤ 60) (j : Nat) : ∀ {h : pm_H} {i : Nat} (lv : List (Nat × Value)), i + j = n → HH h → fr_g [(a, 1, 3), (c, 0, 59)] h0 h → gi h a 1 = 1 → gi h a 2 = nJ w → gi h a 3 = nJ n → pm_get lv 0 = some (.ref a) → pm_get lv 2 = some (.int (nJ n)) → pm_get lv 3 = some (.int (nJ i)) → Ends (pm_at tX4_begin) (pm_Rt pm_P d) (17, lv, [], h, 0, 0) (BQ a c w n h0) := by
  obtain ⟨S1, S2, S3, S4, S5, S6⟩ := S
  induction j with
  | zero =>
    intro h i lv hj hh hf g1 g2 g3 L0 L2 L3
    refine E_il rfl L3 ?_
    refine E_il rfl L2 ?_
    refine E_icT rfl (decide_eq_true ((nJ_le (by omega) (by omega)).mpr (by omega))) ?_
    exact E_ret rfl ⟨rfl, hh, hf, g1, g2, g3⟩
  | succ j ih =>
    intro h i lv hj hh hf g1 g2 g3 L0 L2 L3
    refine E_il rfl L3 ?_
    refine E_il rfl L2 ?_
    refine E_icF rfl (decide_eq_false (fun q => absurd ((nJ_le (by omega) (by omega)).mp q) (by omega))) ?_
    refine E_al rfl L0 ?_
    refine E_ogr rfl hh S1 S2 ?_
    refine E_il rfl L3 ?_
    refine E_c rfl ?_
    refine E_las rfl hh S3 (by omega) (by decide) (fun h1 hh1 f1 _ => ?_)
    have no : ∀ k, rg_in [(c, i, i)] a k = false := fun k => rg_no (by have e : Nat.beq c a = false := (by cases hq : Nat.beq c a with | false => rfl | true => exact absurd (Nat.eq_of_beq_eq_true hq).symm hac); simp [e]) k
    refine E_inc rfl L3 (nJ_inc _) (fun lv1 K3 kp => ?_)
    refine E_goto rfl ?_
    exact ih lv1 (by omega) hh1 (fr_trans hf (fr_one (l := 0) (u := 59) (by unfold rg_sub; simp) (Nat.zero_le _) (by omega) f1)) (by rw [fr_gi f1 (no 1)]; exact g1) (by rw [fr_gi f1 (no 2)]; exact g2) (by rw [fr_gi f1 (no 3)]; exact g3) (kp 0 _ (nbz rfl) rfl L0) (kp 2 _ (nbz rfl) rfl L2) K3
theorem sp_begin {h : pm_H} {a c w n d : Nat} (hac : a ≠ c) (S : isS a c) (hh : HH h) (hw : w ≤ 3) (hn : n ≤ 60) : Sp (d + 1) 44 h [.ref a, .int (nJ w), .int (nJ n)] (BQ a c w n h) := by
  have S0 := S
  obtain ⟨S1, S2, S3, S4, S5, S6⟩ := S
  refine Sp_of aiX4_begin rfl rfl rfl ?_
  have L0 : pm_get (lv_args 0 [.ref a, .int (nJ w), .int (nJ n)]) 0 = some (.ref a) := rfl
  have L1 : pm_get (lv_args 0 [.ref a, .int (nJ w), .int (nJ n)]) 1 = some (.int (nJ w)) := rfl
  have L2 : pm_get (lv_args 0 [.ref a, .int (nJ w), .int (nJ n)]) 2 = some (.int (nJ n)) := rfl
  generalize lv_args 0 [.ref a, .int (nJ w), .int (nJ n)] = lv at L0 L1 L2 ⊢
  refine E_al rfl L0 ?_
  refine E_c rfl ?_
  refine E_opT rfl rfl hh S1 S4 ?_
  have h1 : HH (pt h a 1 1) := HH_pt hh S4 (by decide) (by decide)
  refine E_al rfl L0 ?_
  refine E_il rfl L1 ?_
  refine E_opf rfl h1 S1 S5 ?_
  have h2 : HH (pt (pt h a 1 1) a 2 (nJ w)) := HH_ptn h1 S5 (by omega) (by omega) (by omega)
  refine E_al rfl L0 ?_
  refine E_il rfl L2 ?_
  refine E_opf rfl h2 S1 S6 ?_
  have h3 : HH (pt (pt (pt h a 1 1) a 2 (nJ w)) a 3 (nJ n)) := HH_ptn h2 S6 (by omega) (by omega) (by omega)
  refine E_ci 0 rfl ci0 ?_
  refine E_is rfl (fun lv1 K3 kp => ?_)
  refine bg_loop hac S0 hn n (i := 0) lv1 (by omega) h3 ?_ ?_ ?_ ?_ (kp 0 _ (nbz rfl) rfl L0) (kp 2 _ (nbz rfl) rfl L2) K3
  · refine fr_ptr (l := 1) (u := 3) (by unfold rg_sub; simp) (by omega) (by omega) (fr_ptr (l := 1) (u := 3) (by unfold rg_sub; simp) (by omega) (by omega) (fr_ptr (l := 1) (u := 3) (by unfold rg_sub; simp) (by omega) (by omega) (fr_rf _ _)))
  · rw [gi_ne (by first | exact gxx rfl | omega), gi_ne (by first | exact gxx rfl | omega)]; exact gi_pt hh S4 (by decide) (by decide)
  · rw [gi_ne (by first | exact gxx rfl | omega)]; exact gi_pt h1 S5 (by rw [nJ_toInt (by omega)]; show (0 : Int) ≤ _; omega) (by rw [nJ_toInt (by omega)]; show _ ≤ (3 : Int); omega)
  · exact gi_pt h2 S6 (by rw [nJ_toInt (by omega)]; show (0 : Int) ≤ _; omega) (by rw [nJ_toInt (by omega)]; show _ ≤ (60 : Int); omega)
/-- what row answers -/
noncomputable def rowv (a b c : Int32) : Int32 := if a.toInt < 0 ∨ 3 < a.toInt ∨ b.toInt < 0 ∨ 3 < b.toInt ∨ 60 < c.toInt then -2 else if c.toInt < 0 then -3 else 0
noncomputable def rin (a b c : Int32) : Prop := (0 ≤ a.toInt ∧ a.toInt ≤ 3) ∧ (0 ≤ b.toInt ∧ b.toInt ≤ 3) ∧ 0 ≤ c.toInt ∧ c.toInt ≤ 60
theorem rowv_2 {a b c : Int32} (q : a.toInt < 0 ∨ 3 < a.toInt ∨ b.toInt < 0 ∨ 3 < b.toInt ∨ 60 < c.toInt) : rowv a b c = -2 ∧ ¬ rin a b c := ⟨if_pos q, fun z => by obtain ⟨z1, z2, z3⟩ := z; omega⟩
theorem rowv_3 {a b c : Int32} (q : ¬ (a.toInt < 0 ∨ 3 < a.toInt ∨ b.toInt < 0 ∨ 3 < b.toInt ∨ 60 < c.toInt)) (q2 : c.toInt < 0) : rowv a b c = -3 ∧ ¬ rin a b c := ⟨(if_neg q).trans (if_pos q2), fun z => by obtain ⟨z1, z2, z3⟩ := z; omega⟩
theorem rowv_0 {a b c : Int32} (q : rin a b c) : rowv a b c = 0 := (if_neg (by obtain ⟨z1, z2, z3⟩ := q; omega)).trans (if_neg (by obtain ⟨z1, z2, z3⟩ := q; omega))
noncomputable def RQ8 (x y v : Int32) (h h' : pm_H) (r : Option Value) : Prop := r = some (.int (rowv x y v)) ∧ ((rin x y v ∧ HH h' ∧ ∃ s, s < 4 ∧ x = nJ s ∧ fr_g [(54 + 2 * s, 1, 3), (55 + 2 * s, 0, 59)] h h' ∧ gi h' (54 + 2 * s) 1 = 1 ∧ gi h' (54 + 2 * s) 2 = y ∧ gi h' (54 + 2 * s) 3 = v) ∨ (¬ rin x y v ∧ h' = h))
end
