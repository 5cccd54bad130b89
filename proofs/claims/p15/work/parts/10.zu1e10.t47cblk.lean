/-! the class's blocks (wants t46, t41) -/
theorem nJ_bv (a : Nat) : (nJ a).toBitVec = BitVec.ofNat 32 a := BitVec.ofInt_natCast 32 a
theorem nJ_or {a b : Nat} (ha : a < 512) (hb : b < 512) : nJ a ||| nJ b = nJ (a ||| b) := by
  have hc : a ||| b < 2 ^ 9 := Nat.or_lt_two_pow ha hb
  apply Int32.toBitVec_inj.mp
  rw [Int32.toBitVec_or, nJ_bv, nJ_bv, nJ_bv]
  apply BitVec.eq_of_toNat_eq
  rw [BitVec.toNat_or, BitVec.toNat_ofNat, BitVec.toNat_ofNat, BitVec.toNat_ofNat, Nat.mod_eq_of_lt (by omega), Nat.mod_eq_of_lt (by omega), Nat.mod_eq_of_lt (by omega)]
theorem and_tab : ∀ m : Fin 512, ∀ k : Fin 9, (nJ m.val &&& nJ (2 ^ k.val) = 0) ↔ Nat.testBit m.val k.val = false := by decide +kernel
theorem shl_tab : ∀ k : Fin 9, nJ 1 <<< (nJ k.val &&& 31) = nJ (2 ^ k.val) := by decide +kernel
theorem p512 {n : Nat} (h : n ≤ 9) (p : Nat → Bool) : ms p n < 512 := Nat.lt_of_lt_of_le (ms_lt p n) (Nat.pow_le_pow_right (by omega) h)
theorem and_ms {p : Nat → Bool} {n i : Nat} (hn : n ≤ 9) (hi : i < n) : (nJ (ms p n) &&& nJ (2 ^ i) = 0) ↔ p (i + 1) = false := by
  have h := and_tab ⟨ms p n, p512 hn p⟩ ⟨i, by omega⟩
  dsimp only at h
  rw [h, ms_bit, decide_eq_true hi, Bool.true_and]
theorem cxs_le (p q : Nat → Bool) : ∀ n, (cxs p q n).2 ≤ n ∧ (cxs p q n).1 ≤ 2
  | 0 => ⟨Nat.le_refl _, Nat.zero_le _⟩
  | n + 1 => by
    have ih := cxs_le p q n
    have ht := sd_le p q (n + 1)
    constructor
    · show (bif Nat.beq (cxs p q n).1 0 || (Nat.beq (sd p q (n + 1)) 0 || Nat.beq (sd p q (n + 1)) (cxs p q n).1) then (cxs p q n).2 else (cxs p q n).2 + 1) ≤ n + 1
      cases (Nat.beq (cxs p q n).1 0 || (Nat.beq (sd p q (n + 1)) 0 || Nat.beq (sd p q (n + 1)) (cxs p q n).1)) with
      | true => show (cxs p q n).2 ≤ n + 1; omega
      | false => show (cxs p q n).2 + 1 ≤ n + 1; omega
    · show (bif Nat.beq (sd p q (n + 1)) 0 then (cxs p q n).1 else sd p q (n + 1)) ≤ 2
      cases Nat.beq (sd p q (n + 1)) 0 with
      | true => exact ih.2
      | false => exact ht
noncomputable def mkb (n : Nat) (b : Nat → Nat) (k : Nat) : Nat := ms (fun i => Nat.beq (b i) (b k)) n
/-- the masks of blocks -/
noncomputable def MK (n : Nat) (b : Nat → Nat) (h : pm_H) : Prop := gi h 13 1 = nJ n ∧ 1 ≤ n ∧ n ≤ 9 ∧ ∀ k, 1 ≤ k → k ≤ n → gi h 14 k = nJ (mkb n b k)
section CBK
variable {h : pm_H} {d : Nat}
theorem sp_placeBit {k : Nat} (k1 : 1 ≤ k) (k9 : k ≤ 9) : Sp (d + 1) 160 h [.int (nJ k)] (fun h' r => h' = h ∧ r = some (.int (nJ (2 ^ (k - 1))))) := by
  refine Sp_of aiX8_placeBit rfl rfl rfl ?_
  have L0 : pm_get (lv_args 0 [.int (nJ k)]) 0 = some (.int (nJ k)) := rfl
  generalize lv_args 0 [.int (nJ k)] = lv at L0 ⊢
  refine E_ci 1 rfl (by decide) ?_
  refine E_il rfl L0 ?_
  refine E_ci 1 rfl (by decide) ?_
  refine E_bin rfl (nJ_sub k1) ?_
  refine E_bin rfl (shl_tab ⟨k - 1, by omega⟩) ?_
  exact E_rti rfl ⟨rfl, rfl⟩
theorem cr_loop {p q : Nat → Bool} {n : Nat} (hh : HH h) (g1 : gi h 13 1 = nJ n) (hn : n ≤ 9) (j : Nat) : ∀ {i : Nat} (lv : List (Nat × Value)), i + j = n → pm_get lv 0 = some (.ref 13) → pm_get lv 1 = some (.int (nJ (ms p n))) → pm_get lv 2 = some (.int (nJ (ms q n))) → pm_get lv 3 = some (.int (nJ (cxs p q i).2)) → pm_get lv 4 = some (.int (nJ (cxs p q i).1)) → pm_get lv 5 = some (.int (nJ (i + 1))) → Ends (pm_at tX0_crosses) (pm_Rt pm_P (d + 1)) (8, lv, [], h, 0, 0) (fun h' r => h' = h ∧ r = some (.int (zb (3 ≤ (cxs p q n).2)))) := by
  induction j with
  | zero =>
    intro i lv hj L0 L1 L2 L3 L4 L5
    have e : i = n := by omega
    subst e
    have c := cxs_le p q i
    refine E_il rfl L5 ?_
    refine E_al rfl L0 ?_
    refine E_ogf (q := (0, 9)) rfl hh rfl rfl g1 ?_
    refine E_icT rfl (decide_eq_true ((nJ_lt (by omega) (by omega)).mpr (by omega))) ?_
    refine E_il rfl L3 ?_
    refine E_ci 3 rfl (by decide) ?_
    by_cases b : 3 ≤ (cxs p q i).2
    · refine E_icF rfl (decide_eq_false (fun z => absurd ((nJ_lt (by omega) (by omega)).mp z) (by omega))) ?_
      refine E_ci 1 rfl (by decide) ?_
      refine E_goto rfl ?_
      exact E_rtz rfl (.inr rfl) ⟨rfl, by rw [zb_T b]⟩
    · refine E_icT rfl (decide_eq_true ((nJ_lt (by omega) (by omega)).mpr (by omega))) ?_
      refine E_ci 0 rfl (by decide) ?_
      exact E_rtz rfl (.inl rfl) ⟨rfl, by rw [zb_F b]⟩
  | succ j ih =>
    intro i lv hj L0 L1 L2 L3 L4 L5
    have c := cxs_le p q i
    refine E_il rfl L5 ?_
    refine E_al rfl L0 ?_
    refine E_ogf (q := (0, 9)) rfl hh rfl rfl g1 ?_
    refine E_icF rfl (decide_eq_false (fun z => absurd ((nJ_lt (by omega) (by omega)).mp z) (by omega))) ?_
    refine E_il rfl L5 ?_
    refine E_call rfl (sp_placeBit (d := d) (by omega) (by omega)) (chkS rfl (by show 0 ≤ 8; decide)) (fun h1 r1 => ?_)
    rintro ⟨e1, f1⟩
    rw [e1, f1, show i + 1 - 1 = i by omega]
    refine E_is rfl (fun lv1 K6 kp => ?_)
    have M0 := kp 0 _ (by decide) rfl L0
    have M1 := kp 1 _ (by decide) rfl L1
    have M2 := kp 2 _ (by decide) rfl L2
    have M3 := kp 3 _ (by decide) rfl L3
    have M4 := kp 4 _ (by decide) rfl L4
    have M5 := kp 5 _ (by decide) rfl L5
    have ht := sd_le p q (i + 1)
    have fin : ∀ {w : Nat}, w = (bif Nat.beq (sd p q (i + 1)) 0 then (cxs p q i).1 else sd p q (i + 1)) → Ends (pm_at tX0_crosses) (pm_Rt pm_P (d + 1)) (48, lv1, [.int (nJ w)], h, 0, 0) (fun h' r => h' = h ∧ r = some (.int (zb (3 ≤ (cxs p q n).2)))) := by
      intro w hw
      have w2 : w ≤ 2 := by rw [hw]; cases Nat.beq (sd p q (i + 1)) 0 with | true => exact c.2 | false => exact ht
      have ws : (cxs p q (i + 1)).1 = w := hw.symm
      refine E_is rfl (fun lv2 K7 kp2 => ?_)
      have N0 := kp2 0 _ (by decide) rfl M0
      have N1 := kp2 1 _ (by decide) rfl M1
      have N2 := kp2 2 _ (by decide) rfl M2
      have N3 := kp2 3 _ (by decide) rfl M3
      have N4 := kp2 4 _ (by decide) rfl M4
      have N5 := kp2 5 _ (by decide) rfl M5
      have go : ∀ {C : Nat} (lv3 : List (Nat × Value)), (cxs p q (i + 1)).2 = C → pm_get lv3 0 = some (.ref 13) → pm_get lv3 1 = some (.int (nJ (ms p n))) → pm_get lv3 2 = some (.int (nJ (ms q n))) → pm_get lv3 3 = some (.int (nJ C)) → pm_get lv3 5 = some (.int (nJ (i + 1))) → pm_get lv3 7 = some (.int (nJ w)) → Ends (pm_at tX0_crosses) (pm_Rt pm_P (d + 1)) (65, lv3, [], h, 0, 0) (fun h' r => h' = h ∧ r = some (.int (zb (3 ≤ (cxs p q n).2)))) := by
        intro C lv3 hC O0 O1 O2 O3 O5 O7
        refine E_il rfl O7 ?_
        refine E_is rfl (fun lv4 K4 kp4 => ?_)
        refine E_inc rfl (kp4 5 _ (by decide) rfl O5) (nJ_inc _) (fun lv5 K5 kp5 => ?_)
        refine E_goto rfl ?_
        exact ih lv5 (i := i + 1) (by omega) (kp5 0 _ (by decide) rfl (kp4 0 _ (by decide) rfl O0)) (kp5 1 _ (by decide) rfl (kp4 1 _ (by decide) rfl O1)) (kp5 2 _ (by decide) rfl (kp4 2 _ (by decide) rfl O2)) (by rw [hC]; exact kp5 3 _ (by decide) rfl (kp4 3 _ (by decide) rfl O3)) (by rw [ws]; exact kp5 4 _ (by decide) rfl K4) K5
      have ec : (cxs p q (i + 1)).2 = (bif Nat.beq (cxs p q i).1 0 || (Nat.beq (sd p q (i + 1)) 0 || Nat.beq (sd p q (i + 1)) (cxs p q i).1) then (cxs p q i).2 else (cxs p q i).2 + 1) := rfl
      refine E_il rfl N4 ?_
      by_cases b0 : (cxs p q i).1 = 0
      · refine E_ifT rfl (decide_eq_true ((nJ_eq0 (by omega)).mpr b0)) ?_
        rw [nbeq.mpr b0] at ec
        exact go lv2 ec N0 N1 N2 N3 N5 K7
      refine E_ifF rfl (decide_eq_false (fun z => b0 ((nJ_eq0 (by omega)).mp z))) ?_
      rw [nbeqF b0] at ec
      refine E_il rfl K7 ?_
      refine E_il rfl N4 ?_
      by_cases b1 : w = (cxs p q i).1
      · refine E_icT rfl (decide_eq_true (by rw [b1])) ?_
        refine go lv2 ?_ N0 N1 N2 N3 N5 K7
        rw [ec]
        by_cases t0 : sd p q (i + 1) = 0
        · rw [nbeq.mpr t0]; rfl
        · rw [nbeqF t0] at hw
          have hw : w = sd p q (i + 1) := hw
          rw [nbeqF t0, ← hw, nbeq.mpr b1]; rfl
      · refine E_icF rfl (decide_eq_false (fun z => b1 ((nJ_eq (by omega) (by omega)).mp z))) ?_
        refine E_inc rfl N3 (nJ_inc _) (fun lv3 K3 kp3 => ?_)
        refine go lv3 ?_ (kp3 0 _ (by decide) rfl N0) (kp3 1 _ (by decide) rfl N1) (kp3 2 _ (by decide) rfl N2) K3 (kp3 5 _ (by decide) rfl N5) (kp3 7 _ (by decide) rfl K7)
        rw [ec]
        by_cases t0 : sd p q (i + 1) = 0
        · rw [nbeq.mpr t0] at hw
          exact absurd hw b1
        · rw [nbeqF t0] at hw
          have hw : w = sd p q (i + 1) := hw
          rw [nbeqF t0, ← hw, nbeqF b1]; rfl
    refine E_il rfl M1 ?_
    refine E_il rfl K6 ?_
    refine E_bin rfl rfl ?_
    cases hp : p (i + 1) with
    | true =>
      refine E_ifF rfl (decide_eq_false (fun z => absurd ((and_ms hn (by omega)).mp z) (by rw [hp]; decide))) ?_
      refine E_ci 1 rfl (by decide) ?_
      refine E_goto rfl ?_
      exact fin (by unfold sd; rw [hp]; rfl)
    | false =>
      refine E_ifT rfl (decide_eq_true ((and_ms hn (by omega)).mpr hp)) ?_
      refine E_il rfl M2 ?_
      refine E_il rfl K6 ?_
      refine E_bin rfl rfl ?_
      cases hq : q (i + 1) with
      | true =>
        refine E_ifF rfl (decide_eq_false (fun z => absurd ((and_ms hn (by omega)).mp z) (by rw [hq]; decide))) ?_
        refine E_ci 2 rfl (by decide) ?_
        refine E_goto rfl ?_
        exact fin (by unfold sd; rw [hp, hq]; rfl)
      | false =>
        refine E_ifT rfl (decide_eq_true ((and_ms hn (by omega)).mpr hq)) ?_
        refine E_il rfl M4 ?_
        exact fin (by unfold sd; rw [hp, hq]; rfl)
theorem sp_crosses {p q : Nat → Bool} {n : Nat} (hh : HH h) (g1 : gi h 13 1 = nJ n) (hn : n ≤ 9) : Sp (d + 2) 12 h [.ref 13, .int (nJ (ms p n)), .int (nJ (ms q n))] (fun h' r => h' = h ∧ r = some (.int (zb (3 ≤ (cxs p q n).2)))) := by
  refine Sp_of aiX0_crosses rfl rfl rfl ?_
  have L0 : pm_get (lv_args 0 [.ref 13, .int (nJ (ms p n)), .int (nJ (ms q n))]) 0 = some (.ref 13) := rfl
  have L1 : pm_get (lv_args 0 [.ref 13, .int (nJ (ms p n)), .int (nJ (ms q n))]) 1 = some (.int (nJ (ms p n))) := rfl
  have L2 : pm_get (lv_args 0 [.ref 13, .int (nJ (ms p n)), .int (nJ (ms q n))]) 2 = some (.int (nJ (ms q n))) := rfl
  generalize lv_args 0 [.ref 13, .int (nJ (ms p n)), .int (nJ (ms q n))] = lv at L0 L1 L2 ⊢
  refine E_ci 0 rfl (by decide) ?_
  refine E_is rfl (fun lv1 K3 kp1 => ?_)
  refine E_ci 0 rfl (by decide) ?_
  refine E_is rfl (fun lv2 K4 kp2 => ?_)
  refine E_ci 1 rfl (by decide) ?_
  refine E_is rfl (fun lv3 K5 kp3 => ?_)
  exact cr_loop hh g1 hn n (i := 0) lv3 (by omega) (kp3 0 _ (by decide) rfl (kp2 0 _ (by decide) rfl (kp1 0 _ (by decide) rfl L0))) (kp3 1 _ (by decide) rfl (kp2 1 _ (by decide) rfl (kp1 1 _ (by decide) rfl L1))) (kp3 2 _ (by decide) rfl (kp2 2 _ (by decide) rfl (kp1 2 _ (by decide) rfl L2))) (kp3 3 _ (by decide) rfl (kp2 3 _ (by decide) rfl K3)) (kp3 4 _ (by decide) rfl K4) K5
theorem mkb_eq {n x y : Nat} {b : Nat → Nat} (x1 : 1 ≤ x) (xn : x ≤ n) : mkb n b x = mkb n b y ↔ b x = b y := by
  constructor
  · intro e
    have := ms_inj e x1 xn
    rw [Nat.beq_refl] at this
    exact nbeq.mp this.symm
  · intro e
    unfold mkb
    rw [e]
theorem mkb_or {n x y : Nat} {b : Nat → Nat} (hn : n ≤ 9) : nJ (mkb n b x) ||| nJ (mkb n b y) = nJ (ms (inW b x y) n) := by
  unfold mkb
  rw [nJ_or (p512 hn _) (p512 hn _), ms_or]
  rfl
theorem jb_loop {n x y : Nat} {b : Nat → Nat} (hh : HH h) (M : MK n b h) (hb : ∀ k, 1 ≤ k → k ≤ n → 1 ≤ b k) (N : NC b n) (hne : b x ≠ b y) (y1 : 1 ≤ y) (yn : y ≤ n) (j : Nat) : ∀ {i : Nat} (lv : List (Nat × Value)), i + j = n → (∀ k, 1 ≤ k → k ≤ i → ¬ (inW b x y k = false ∧ 3 ≤ (cxs (inW b x y) (fun i => Nat.beq (b i) (b k)) n).2)) → pm_get lv 0 = some (.ref 13) → pm_get lv 3 = some (.int (nJ (ms (inW b x y) n))) → pm_get lv 4 = some (.int (nJ (i + 1))) → Ends (pm_at tX0_joinable) (pm_Rt pm_P (d + 2)) (60, lv, [], h, 0, 0) (fun h' r => h' = h ∧ ((MAY n b x y ∧ r = some (.int (nJ 1))) ∨ (¬ MAY n b x y ∧ r = some (.int (nJ 0))))) := by
  obtain ⟨m1, n1, n9, m2⟩ := M
  induction j with
  | zero =>
    intro i lv hj hA L0 L3 L4
    refine E_il rfl L4 ?_
    refine E_al rfl L0 ?_
    refine E_ogf (q := (0, 9)) rfl hh rfl rfl m1 ?_
    refine E_icT rfl (decide_eq_true ((nJ_lt (by omega) (by omega)).mpr (by omega))) ?_
    refine E_ci 1 rfl (by decide) ?_
    refine E_rtz rfl (.inr rfl) ⟨rfl, .inl ⟨⟨hne, fun X => ?_⟩, rfl⟩⟩
    obtain ⟨k, k1, k2, k3⟩ := (XC_iff hb N).mp X
    exact hA k k1 (by omega) k3
  | succ j ih =>
    intro i lv hj hA L0 L3 L4
    refine E_il rfl L4 ?_
    refine E_al rfl L0 ?_
    refine E_ogf (q := (0, 9)) rfl hh rfl rfl m1 ?_
    refine E_icF rfl (decide_eq_false (fun z => absurd ((nJ_lt (by omega) (by omega)).mp z) (by omega))) ?_
    refine E_il rfl L3 ?_
    refine E_il rfl L4 ?_
    refine E_call rfl (Sp_le (by omega) (sp_placeBit (d := d) (k := i + 1) (by omega) (by omega))) (chkS rfl (by show 1 ≤ 8; decide)) (fun h1 r1 => ?_)
    rintro ⟨e1, f1⟩
    rw [e1, f1, show i + 1 - 1 = i by omega]
    refine E_bin rfl rfl ?_
    have next : ¬ (inW b x y (i + 1) = false ∧ 3 ≤ (cxs (inW b x y) (fun i_1 => Nat.beq (b i_1) (b (i + 1))) n).2) → Ends (pm_at tX0_joinable) (pm_Rt pm_P (d + 2)) (96, lv, [], h, 0, 0) (fun h' r => h' = h ∧ ((MAY n b x y ∧ r = some (.int (nJ 1))) ∨ (¬ MAY n b x y ∧ r = some (.int (nJ 0))))) := by
      intro q
      refine E_inc rfl L4 (nJ_inc _) (fun lv1 K4 kp => ?_)
      refine E_goto rfl ?_
      refine ih lv1 (i := i + 1) (by omega) (fun k k1 k2 => ?_) (kp 0 _ (by decide) rfl L0) (kp 3 _ (by decide) rfl L3) K4
      by_cases e : k = i + 1
      · rw [e]; exact q
      · exact hA k k1 (by omega)
    cases hw : inW b x y (i + 1) with
    | true =>
      refine E_ifT rfl (decide_eq_true (fun z => absurd ((and_ms n9 (by omega)).mp z) (by rw [hw]; decide))) ?_
      exact next (fun q => by rw [hw] at q; cases q.1)
    | false =>
      refine E_ifF rfl (decide_eq_false (fun z => z ((and_ms n9 (by omega)).mpr hw))) ?_
      refine E_al rfl L0 ?_
      refine E_il rfl L3 ?_
      refine E_al rfl L0 ?_
      refine E_ogr (q := 14) rfl hh rfl rfl ?_
      refine E_il rfl L4 ?_
      refine E_ial rfl hh rfl (by omega) (by decide) (m2 (i + 1) (by omega) (by omega)) ?_
      refine E_call rfl (sp_crosses (d := d) (p := inW b x y) (q := fun i_1 => Nat.beq (b i_1) (b (i + 1))) hh m1 n9) (chkO (a := 13) hh rfl rfl rfl rfl (by show 0 ≤ 8; decide)) (fun h2 r2 => ?_)
      rintro ⟨e2, f2⟩
      rw [e2, f2]
      by_cases b3 : 3 ≤ (cxs (inW b x y) (fun i_1 => Nat.beq (b i_1) (b (i + 1))) n).2
      · refine E_ifF rfl (by rw [zb_T b3]; rfl) ?_
        refine E_ci 0 rfl (by decide) ?_
        exact E_rtz rfl (.inl rfl) ⟨rfl, .inr ⟨fun m => m.2 ((XC_iff hb N).mpr ⟨i + 1, by omega, by omega, hw, b3⟩), rfl⟩⟩
      · refine E_ifT rfl (by rw [zb_F b3]; rfl) ?_
        exact next (fun q => b3 q.2)
theorem sp_joinable {n x y : Nat} {b : Nat → Nat} (hh : HH h) (M : MK n b h) (hb : ∀ k, 1 ≤ k → k ≤ n → 1 ≤ b k) (N : NC b n) (x1 : 1 ≤ x) (xn : x ≤ n) (hy : y ≤ 9999) : Sp (d + 3) 16 h [.ref 13, .int (nJ x), .int (nJ y)] (fun h' r => h' = h ∧ (((1 ≤ y ∧ y ≤ n ∧ MAY n b x y) ∧ r = some (.int (nJ 1))) ∨ (¬ (1 ≤ y ∧ y ≤ n ∧ MAY n b x y) ∧ r = some (.int (nJ 0))))) := by
  obtain ⟨m1, n1, n9, m2⟩ := id M
  refine Sp_of aiX0_joinable rfl rfl rfl ?_
  have L0 : pm_get (lv_args 0 [.ref 13, .int (nJ x), .int (nJ y)]) 0 = some (.ref 13) := rfl
  have L1 : pm_get (lv_args 0 [.ref 13, .int (nJ x), .int (nJ y)]) 1 = some (.int (nJ x)) := rfl
  have L2 : pm_get (lv_args 0 [.ref 13, .int (nJ x), .int (nJ y)]) 2 = some (.int (nJ y)) := rfl
  generalize lv_args 0 [.ref 13, .int (nJ x), .int (nJ y)] = lv at L0 L1 L2 ⊢
  have no : ∀ {lv : List (Nat × Value)}, ¬ (1 ≤ y ∧ y ≤ n ∧ MAY n b x y) → Ends (pm_at tX0_joinable) (pm_Rt pm_P (d + 2)) (41, lv, [], h, 0, 0) (fun h' r => h' = h ∧ (((1 ≤ y ∧ y ≤ n ∧ MAY n b x y) ∧ r = some (.int (nJ 1))) ∨ (¬ (1 ≤ y ∧ y ≤ n ∧ MAY n b x y) ∧ r = some (.int (nJ 0))))) := by
    intro lv q
    refine E_ci 0 rfl (by decide) ?_
    exact E_rtz rfl (.inl rfl) ⟨rfl, .inr ⟨q, rfl⟩⟩
  refine E_il rfl L1 ?_
  refine E_ci 1 rfl (by decide) ?_
  refine E_icF rfl (decide_eq_false (fun z => absurd ((nJ_lt (by omega) (by omega)).mp z) (by omega))) ?_
  refine E_il rfl L1 ?_
  refine E_al rfl L0 ?_
  refine E_ogf (q := (0, 9)) rfl hh rfl rfl m1 ?_
  refine E_icF rfl (decide_eq_false (fun z => absurd ((nJ_lt (by omega) (by omega)).mp z) (by omega))) ?_
  refine E_il rfl L2 ?_
  refine E_ci 1 rfl (by decide) ?_
  by_cases y1 : y < 1
  · refine E_icT rfl (decide_eq_true ((nJ_lt (by omega) (by omega)).mpr y1)) ?_
    exact no (fun q => by have := q.1; omega)
  refine E_icF rfl (decide_eq_false (fun z => y1 ((nJ_lt (by omega) (by omega)).mp z))) ?_
  refine E_il rfl L2 ?_
  refine E_al rfl L0 ?_
  refine E_ogf (q := (0, 9)) rfl hh rfl rfl m1 ?_
  by_cases yn : n < y
  · refine E_icT rfl (decide_eq_true ((nJ_lt (by omega) (by omega)).mpr yn)) ?_
    exact no (fun q => by have := q.2.1; omega)
  refine E_icF rfl (decide_eq_false (fun z => yn ((nJ_lt (by omega) (by omega)).mp z))) ?_
  refine E_al rfl L0 ?_
  refine E_ogr (q := 14) rfl hh rfl rfl ?_
  refine E_il rfl L1 ?_
  refine E_ial rfl hh rfl (by omega) (by decide) (m2 x x1 xn) ?_
  refine E_al rfl L0 ?_
  refine E_ogr (q := 14) rfl hh rfl rfl ?_
  refine E_il rfl L2 ?_
  refine E_ial rfl hh rfl (by omega) (by decide) (m2 y (by omega) (by omega)) ?_
  have p1 := p512 (n := n) n9 (fun i => Nat.beq (b i) (b x))
  have p2 := p512 (n := n) n9 (fun i => Nat.beq (b i) (b y))
  by_cases e : b x = b y
  · refine E_icF rfl (decide_eq_false (fun z => z (by rw [(mkb_eq x1 xn).mpr e]))) ?_
    exact no (fun q => q.2.2.1 e)
  refine E_icT rfl (decide_eq_true (fun z => e ((mkb_eq x1 xn).mp ((nJ_eq (by show mkb n b x < _; unfold mkb; omega) (by show mkb n b y < _; unfold mkb; omega)).mp z)))) ?_
  refine E_al rfl L0 ?_
  refine E_ogr (q := 14) rfl hh rfl rfl ?_
  refine E_il rfl L1 ?_
  refine E_ial rfl hh rfl (by omega) (by decide) (m2 x x1 xn) ?_
  refine E_al rfl L0 ?_
  refine E_ogr (q := 14) rfl hh rfl rfl ?_
  refine E_il rfl L2 ?_
  refine E_ial rfl hh rfl (by omega) (by decide) (m2 y (by omega) (by omega)) ?_
  refine E_bin rfl (mkb_or n9) ?_
  refine E_is rfl (fun lv1 K3 kp1 => ?_)
  refine E_ci 1 rfl (by decide) ?_
  refine E_is rfl (fun lv2 K4 kp2 => ?_)
  refine Ends_mono ?_ (jb_loop (d := d) hh M hb N e (by omega) (by omega) n (i := 0) lv2 (by omega) (fun k k1 k2 => by omega) (kp2 0 _ (by decide) rfl (kp1 0 _ (by decide) rfl L0)) (kp2 3 _ (by decide) rfl K3) K4)
  rintro h' r ⟨q1, q2⟩
  refine ⟨q1, ?_⟩
  rcases q2 with ⟨q2, q3⟩ | ⟨q2, q3⟩
  · exact .inl ⟨⟨by omega, by omega, q2⟩, q3⟩
  · exact .inr ⟨fun z => q2 z.2.2, q3⟩
theorem mkb_mg {n x y k : Nat} {b : Nat → Nat} (k1 : 1 ≤ k) : mkb n (mg b x y) k = if inW b x y k = true then ms (inW b x y) n else mkb n b k := by
  unfold mkb
  by_cases hk : inW b x y k = true
  · rw [if_pos hk]
    refine ms_eq (fun i i1 _ => ?_)
    have e := mg_eq (b := b) (x := x) (y := y) i1 k1
    cases hi : inW b x y i with
    | true => exact nbeq.mpr (e.mpr (.inl ⟨hi, hk⟩))
    | false => exact nbeqF (fun z => (e.mp z).elim (fun q => by rw [hi] at q; cases q.1) (fun q => by rw [hk] at q; cases q.2.1))
  · rw [if_neg hk]
    have hk2 : inW b x y k = false := by cases hq : inW b x y k with | false => rfl | true => exact absurd hq hk
    refine ms_eq (fun i i1 _ => ?_)
    have e := mg_eq (b := b) (x := x) (y := y) i1 k1
    by_cases hi : b i = b k
    · have hi2 : inW b x y i = false := by rw [inW_F, hi]; exact inW_F.mp hk2
      rw [nbeq.mpr hi]
      exact nbeq.mpr (e.mpr (.inr ⟨hi2, hk2, hi⟩))
    · rw [nbeqF hi]
      exact nbeqF (fun z => (e.mp z).elim (fun q => hk q.2) (fun q => hi q.2.2))
theorem jn_loop {n x y : Nat} {b : Nat → Nat} {h0 : pm_H} (n9 : n ≤ 9) (M0 : ∀ k, 1 ≤ k → k ≤ n → gi h0 14 k = nJ (mkb n b k)) (j : Nat) : ∀ {h : pm_H} {i : Nat} (lv : List (Nat × Value)), i + j = n → HH h → fr_g [(14, 0, 9)] h0 h → gi h 13 1 = nJ n → (∀ k, 1 ≤ k → k ≤ i → gi h 14 k = nJ (mkb n (mg b x y) k)) → (∀ k, i < k → gi h 14 k = gi h0 14 k) → pm_get lv 0 = some (.ref 13) → pm_get lv 3 = some (.int (nJ (ms (inW b x y) n))) → pm_get lv 4 = some (.int (nJ (i + 1))) → Ends (pm_at tX0_join) (pm_Rt pm_P (d + 1)) (17, lv, [], h, 0, 0) (fun h' r => r = none ∧ HH h' ∧ fr_g [(14, 0, 9)] h0 h' ∧ ∀ k, 1 ≤ k → k ≤ n → gi h' 14 k = nJ (mkb n (mg b x y) k)) := by
  induction j with
  | zero =>
    intro h i lv hj hh hf m1 hA hB L0 L3 L4
    refine E_il rfl L4 ?_
    refine E_al rfl L0 ?_
    refine E_ogf (q := (0, 9)) rfl hh rfl rfl m1 ?_
    refine E_icT rfl (decide_eq_true ((nJ_lt (by omega) (by omega)).mpr (by omega))) ?_
    exact E_ret rfl ⟨rfl, hh, hf, fun k k1 k2 => hA k k1 (by omega)⟩
  | succ j ih =>
    intro h i lv hj hh hf m1 hA hB L0 L3 L4
    refine E_il rfl L4 ?_
    refine E_al rfl L0 ?_
    refine E_ogf (q := (0, 9)) rfl hh rfl rfl m1 ?_
    refine E_icF rfl (decide_eq_false (fun z => absurd ((nJ_lt (by omega) (by omega)).mp z) (by omega))) ?_
    refine E_il rfl L3 ?_
    refine E_il rfl L4 ?_
    refine E_call rfl (sp_placeBit (d := d) (k := i + 1) (by omega) (by omega)) (chkS rfl (by show 1 ≤ 8; decide)) (fun h1 r1 => ?_)
    rintro ⟨e1, f1⟩
    rw [e1, f1, show i + 1 - 1 = i by omega]
    refine E_bin rfl rfl ?_
    have next : ∀ {h2 : pm_H}, HH h2 → fr_g [(14, 0, 9)] h0 h2 → gi h2 13 1 = nJ n → (∀ k, k ≠ i + 1 → gi h2 14 k = gi h 14 k) → gi h2 14 (i + 1) = nJ (mkb n (mg b x y) (i + 1)) → Ends (pm_at tX0_join) (pm_Rt pm_P (d + 1)) (44, lv, [], h2, 0, 0) (fun h' r => r = none ∧ HH h' ∧ fr_g [(14, 0, 9)] h0 h' ∧ ∀ k, 1 ≤ k → k ≤ n → gi h' 14 k = nJ (mkb n (mg b x y) k)) := by
      intro h2 hh2 hf2 m12 q1 q2
      refine E_inc rfl L4 (nJ_inc _) (fun lv1 K4 kp => ?_)
      refine E_goto rfl ?_
      refine ih lv1 (i := i + 1) (by omega) hh2 hf2 m12 (fun k k1 k2 => ?_) (fun k hk => ?_) (kp 0 _ (by decide) rfl L0) (kp 3 _ (by decide) rfl L3) K4
      · by_cases e : k = i + 1
        · rw [e]; exact q2
        · rw [q1 k e]; exact hA k k1 (by omega)
      · rw [q1 k (by omega)]; exact hB k (by omega)
    cases hw : inW b x y (i + 1) with
    | true =>
      refine E_ifF rfl (decide_eq_false (fun z => absurd ((and_ms n9 (by omega)).mp z) (by rw [hw]; decide))) ?_
      refine E_al rfl L0 ?_
      refine E_ogr (q := 14) rfl hh rfl rfl ?_
      refine E_il rfl L4 ?_
      refine E_il rfl L3 ?_
      refine E_ias rfl hh rfl (by omega) (by decide) ?_
      have pb := p512 n9 (inW b x y)
      have b14 : bd 14 (i + 1) = some (0, 511) := bd_u rfl (by omega)
      refine next (HH_ptn hh b14 (by omega) (by omega) (by omega)) (fr_ptr (l := 0) (u := 9) rfl (by omega) (by omega) hf) (by rw [gi_ne (by omega)]; exact m1) (fun k hk => gi_ne (fun _ => hk)) ?_
      rw [gi_ptn hh b14 (by omega) (by omega) (by omega), mkb_mg (by omega), if_pos hw]
    | false =>
      refine E_ifT rfl (decide_eq_true ((and_ms n9 (by omega)).mpr hw)) ?_
      refine next hh hf m1 (fun _ _ => rfl) ?_
      rw [hB (i + 1) (by omega), M0 (i + 1) (by omega) (by omega), mkb_mg (by omega), if_neg (by rw [hw]; decide)]
theorem sp_join {n x y : Nat} {b : Nat → Nat} (hh : HH h) (M : MK n b h) (x1 : 1 ≤ x) (xn : x ≤ n) (y1 : 1 ≤ y) (yn : y ≤ n) : Sp (d + 2) 15 h [.ref 13, .int (nJ x), .int (nJ y)] (fun h' r => r = none ∧ HH h' ∧ fr_g [(14, 0, 9)] h h' ∧ MK n (mg b x y) h') := by
  obtain ⟨m1, n1, n9, m2⟩ := id M
  refine Sp_of aiX0_join rfl rfl rfl ?_
  have L0 : pm_get (lv_args 0 [.ref 13, .int (nJ x), .int (nJ y)]) 0 = some (.ref 13) := rfl
  have L1 : pm_get (lv_args 0 [.ref 13, .int (nJ x), .int (nJ y)]) 1 = some (.int (nJ x)) := rfl
  have L2 : pm_get (lv_args 0 [.ref 13, .int (nJ x), .int (nJ y)]) 2 = some (.int (nJ y)) := rfl
  generalize lv_args 0 [.ref 13, .int (nJ x), .int (nJ y)] = lv at L0 L1 L2 ⊢
  refine E_al rfl L0 ?_
  refine E_ogr (q := 14) rfl hh rfl rfl ?_
  refine E_il rfl L1 ?_
  refine E_ial rfl hh rfl (by omega) (by decide) (m2 x x1 xn) ?_
  refine E_al rfl L0 ?_
  refine E_ogr (q := 14) rfl hh rfl rfl ?_
  refine E_il rfl L2 ?_
  refine E_ial rfl hh rfl (by omega) (by decide) (m2 y y1 yn) ?_
  refine E_bin rfl (mkb_or n9) ?_
  refine E_is rfl (fun lv1 K3 kp1 => ?_)
  refine E_ci 1 rfl (by decide) ?_
  refine E_is rfl (fun lv2 K4 kp2 => ?_)
  refine Ends_mono ?_ (jn_loop (d := d) n9 m2 n (i := 0) lv2 (by omega) hh (fr_rf _ _) m1 (fun k k1 k2 => by omega) (fun k _ => rfl) (kp2 0 _ (by decide) rfl (kp1 0 _ (by decide) rfl L0)) (kp2 3 _ (by decide) rfl K3) K4)
  rintro h' r ⟨q1, q2, q3, q4⟩
  exact ⟨q1, q2, q3, by rw [fr_gi q3 rfl]; exact m1, n1, n9, q4⟩
theorem ms_one {k : Nat} (k1 : 1 ≤ k) : ∀ n, ms (fun i => Nat.beq i k) n = if k ≤ n then 2 ^ (k - 1) else 0
  | 0 => by rw [if_neg (by omega)]; rfl
  | n + 1 => by
    show ms (fun i => Nat.beq i k) n + (bif Nat.beq (n + 1) k then 2 ^ n else 0) = _
    rw [ms_one k1 n]
    by_cases e : n + 1 = k
    · rw [nbeq.mpr e, if_neg (by omega), if_pos (by omega), ← e]
      show 0 + 2 ^ n = 2 ^ (n + 1 - 1)
      rw [Nat.zero_add]
      rfl
    · rw [nbeqF e]
      by_cases q : k ≤ n
      · rw [if_pos q, if_pos (by omega)]; rfl
      · rw [if_neg q, if_neg (by omega)]; rfl
theorem mkb_id {n k : Nat} (k1 : 1 ≤ k) (kn : k ≤ n) : mkb n (fun k => k) k = 2 ^ (k - 1) := by
  unfold mkb
  show ms (fun i => Nat.beq i k) n = _
  rw [ms_one k1 n, if_pos kn]
theorem st_lp {n : Nat} {h0 : pm_H} (n9 : n ≤ 9) (j : Nat) : ∀ {h : pm_H} {i : Nat} (lv : List (Nat × Value)), i + j = n → HH h → fr_g [(13, 1, 1), (14, 0, 9)] h0 h → gi h 13 1 = nJ n → (∀ k, 1 ≤ k → k ≤ i → gi h 14 k = nJ (2 ^ (k - 1))) → pm_get lv 0 = some (.ref 13) → pm_get lv 2 = some (.int (nJ (i + 1))) → Ends (pm_at tX0_start) (pm_Rt pm_P (d + 1)) (7, lv, [], h, 0, 0) (fun h' r => r = none ∧ HH h' ∧ fr_g [(13, 1, 1), (14, 0, 9)] h0 h' ∧ gi h' 13 1 = nJ n ∧ ∀ k, 1 ≤ k → k ≤ n → gi h' 14 k = nJ (2 ^ (k - 1))) := by
  induction j with
  | zero =>
    intro h i lv hj hh hf m1 hA L0 L2
    refine E_il rfl L2 ?_
    refine E_al rfl L0 ?_
    refine E_ogf (q := (0, 9)) rfl hh rfl rfl m1 ?_
    refine E_icT rfl (decide_eq_true ((nJ_lt (by omega) (by omega)).mpr (by omega))) ?_
    exact E_ret rfl ⟨rfl, hh, hf, m1, fun k k1 k2 => hA k k1 (by omega)⟩
  | succ j ih =>
    intro h i lv hj hh hf m1 hA L0 L2
    refine E_il rfl L2 ?_
    refine E_al rfl L0 ?_
    refine E_ogf (q := (0, 9)) rfl hh rfl rfl m1 ?_
    refine E_icF rfl (decide_eq_false (fun z => absurd ((nJ_lt (by omega) (by omega)).mp z) (by omega))) ?_
    refine E_al rfl L0 ?_
    refine E_ogr (q := 14) rfl hh rfl rfl ?_
    refine E_il rfl L2 ?_
    refine E_il rfl L2 ?_
    refine E_call rfl (sp_placeBit (d := d) (k := i + 1) (by omega) (by omega)) (chkS rfl (by show 2 ≤ 8; decide)) (fun h1 r1 => ?_)
    rintro ⟨e1, f1⟩
    rw [e1, f1]
    have b14 : bd 14 (i + 1) = some (0, 511) := bd_u rfl (by omega)
    have pw : 2 ^ (i + 1 - 1) ≤ 2 ^ 8 := Nat.pow_le_pow_right (by omega) (by omega)
    have pw2 : (2 : Nat) ^ 8 = 256 := rfl
    obtain ⟨P, hP⟩ : ∃ P, P = 2 ^ (i + 1 - 1) := ⟨_, rfl⟩
    rw [← hP] at pw ⊢
    refine E_ias rfl hh rfl (by omega) (by decide) ?_
    refine E_inc rfl L2 (nJ_inc _) (fun lv1 K2 kp => ?_)
    refine E_goto rfl ?_
    refine ih lv1 (i := i + 1) (by omega) (HH_ptn hh b14 (by omega) (by omega) (by omega)) (fr_ptr (l := 0) (u := 9) rfl (by omega) (by omega) hf) (by rw [gi_ne (by omega)]; exact m1) (fun k k1 k2 => ?_) (kp 0 _ (by decide) rfl L0) K2
    by_cases e : k = i + 1
    · rw [e, ← hP]; exact gi_ptn hh b14 (by omega) (by omega) (by omega)
    · rw [gi_ne (fun _ => e)]; exact hA k k1 (by omega)
theorem sp_start {n : Nat} (hh : HH h) (n1 : 1 ≤ n) (n9 : n ≤ 9) : Sp (d + 2) 18 h [.ref 13, .int (nJ n)] (fun h' r => r = none ∧ HH h' ∧ fr_g [(13, 1, 1), (14, 0, 9)] h h' ∧ MK n (fun k => k) h') := by
  refine Sp_of aiX0_start rfl rfl rfl ?_
  have L0 : pm_get (lv_args 0 [.ref 13, .int (nJ n)]) 0 = some (.ref 13) := rfl
  have L1 : pm_get (lv_args 0 [.ref 13, .int (nJ n)]) 1 = some (.int (nJ n)) := rfl
  generalize lv_args 0 [.ref 13, .int (nJ n)] = lv at L0 L1 ⊢
  refine E_al rfl L0 ?_
  refine E_il rfl L1 ?_
  refine E_opf (q := (0, 9)) rfl hh rfl rfl ?_
  have hh1 : HH (pt h 13 1 (nJ n)) := HH_ptn hh rfl (by omega) (by omega) (by omega)
  refine E_ci 1 rfl (by decide) ?_
  refine E_is rfl (fun lv1 K2 kp => ?_)
  refine Ends_mono ?_ (st_lp (d := d) (h0 := h) n9 n (i := 0) lv1 (by omega) hh1 (fr_ptr (l := 1) (u := 1) rfl (by omega) (by omega) (fr_rf _ _)) (gi_ptn hh rfl (by omega) (by omega) (by omega)) (fun k k1 k2 => by omega) (kp 0 _ (by decide) rfl L0) K2)
  rintro h' r ⟨q1, q2, q3, q4, q5⟩
  exact ⟨q1, q2, q3, q4, n1, n9, fun k k1 k2 => by rw [mkb_id k1 k2]; exact q5 k k1 k2⟩
end CBK
