section
/-! the class's blocks (wants t46, t41) -/
theorem nJ_bv (a : Nat) : (nJ a).toBitVec = BitVec.ofNat 32 a := BitVec.ofInt_natCast 32 a
theorem nJ_or {a b : Nat} (ha : a < 512) (hb : b < 512) : nJ a ||| nJ b = nJ (a ||| b) := by
  have hc : a ||| b < 2 ^ 9 := Nat.or_lt_two_pow ha hb
  apply Int32.toBitVec_inj.mp
  rw [Int32.toBitVec_or, nJ_bv, nJ_bv, nJ_bv]
  apply BitVec.eq_of_toNat_eq
  rw [BitVec.toNat_or, BitVec.toNat_ofNat, BitVec.toNat_ofNat, BitVec.toNat_ofNat, Nat.mod_eq_of_lt (by omega), Nat.mod_eq_of_lt (by omega), Nat.mod_eq_of_lt (by omega)]
theorem and_tab : ∀ m : Fin 512, ∀ k : Fin 9, (nJ m.val &&& nJ (2 ^ k.val) = 0) ↔ Nat.testBit m.val k.val = false := by decide +kernel
theorem shl_tab : ∀ k : Fin 9, nJ 1 <<< (nJ k.val &&& 31) = nJ (2 ^ k.val) := by decide +kernel
theorem p512 {n : Nat} (h : n ≤ 9) (p : Nat → Bool) : ms p n < 512 := Nat.lt_of_lt_of_le (ms_lt p n) (Nat.pow_le_pow_right (by omega) h)
theorem and_ms {p : Nat → Bool} {n i : Nat} (hn : n ≤ 9) (hi : i < n) : (nJ (ms p n) &&& nJ (2 ^ i) = 0) ↔ p (i + 1) = false := by
  have h := and_tab ⟨ms p n, p512 hn p⟩ ⟨i, by omega⟩
  dsimp only at h
  rw [h, ms_bit, decide_eq_true hi, Bool.true_and]
theorem cxs_le (p q : Nat → Bool) : ∀ n, (cxs p q n).2 ≤ n ∧ (cxs p q n).1 ≤ 2
  | 0 => ⟨Nat.le_refl _, Nat.zero_le _⟩
  | n + 1 => by
    have ih := cxs_le p q n
    have ht := sd_le p q (n + 1)
    constructor
    · show (bif Nat.beq (cxs p q n).1 0 || (Nat.beq (sd p q (n + 1)) 0 || Nat.beq (sd p q (n + 1)) (cxs p q n).1) then (cxs p q n).2 else (cxs p q n).2 + 1) ≤ n + 1
      cases (Nat.beq (cxs p q n).1 0 || (Nat.beq (sd p q (n + 1)) 0 || Nat.beq (sd p q (n + 1)) (cxs p q n).1)) with
      | true => show (cxs p q n).2 ≤ n + 1; omega
      | false => show (cxs p q n).2 + 1 ≤ n + 1; omega
    · show (bif Nat.beq (sd p q (n + 1)) 0 then (cxs p q n).1 else sd p q (n + 1)) ≤ 2
      cases Nat.beq (sd p q (n + 1)) 0 with
      | true => exact ih.2
      | false => exact ht
noncomputable def mkb (n : Nat) (b : Nat → Nat) (k : Nat) : Nat := ms (fun i => Nat.beq (b i) (b k)) n
/-- the masks of blocks -/
noncomputable def MK (n : Nat) (b : Nat → Nat) (h : pm_H) : Prop := gi h 13 1 = nJ n ∧ 1 ≤ n ∧ n ≤ 9 ∧ ∀ k, 1 ≤ k → k ≤ n → gi h 14 k = nJ (mkb n b k)
section CBK
variable {h : pm_H} {d : Nat}
theorem sp_placeBit {k : Nat} (k1 : 1 ≤ k) (k9 : k ≤ 9) : Sp (d + 1) 160 h [.int (nJ k)] (fun h' r => h' = h ∧ r = some (.int (nJ (2 ^ (k - 1))))) := by
  refine Sp_of aiX8_placeBit rfl rfl rfl ?_
  have L0 : pm_get (lv_args 0 [.int (nJ k)]) 0 = some (.int (nJ k)) := rfl
  generalize lv_args 0 [.int (nJ k)] = lv at L0 ⊢
  refine E_ci 1 rfl (by decide) ?_
  refine E_il rfl L0 ?_
  refine E_ci 1 rfl (by decide) ?_
  refine E_bin rfl (nJ_sub k1) ?_
  refine E_bin rfl (shl_tab ⟨k - 1, by omega⟩) ?_
  exact E_rti rfl ⟨rfl, rfl⟩
theorem cr_loop {p q : Nat → Bool} {n : Nat} (hh : HH h) (g1 : gi h 13 1 = nJ n) (hn : n ≤ 9) (j : Nat) : ∀ {i : Nat} (lv : List (Nat × Value)), i + j = n → pm_get lv 0 = some (.ref 13) → pm_get lv 1 = some (.int (nJ (ms p n))) → pm_get lv 2 = some (.int (nJ (ms q n))) → pm_get lv 3 = some (.int (nJ (cxs p q i).2)) → pm_get lv 4 = some (.int (nJ (cxs p q i).1)) → pm_get lv 5 = some (.int (nJ (i + 1))) → Ends (pm_at tX0_crosses) (pm_Rt pm_P (d + 1)) (8, lv, [], h, 0, 0) (fun h' r => h' = h ∧ r = some (.int (zb (3 ≤ (cxs p q n).2)))) := by
  induction j with
  | zero =>
    intro i lv hj L0 L1 L2 L3 L4 L5
    have e : i = n := by omega
    subst e
    have c := cxs_le p q i
    refine E_il rfl L5 ?_
    refine E_al rfl L0 ?_
    refine E_ogf (q := (0, 9)) rfl hh rfl rfl g1 ?_
    refine E_icT rfl (decide_eq_true ((nJ_lt (by omega) (by omega)).mpr (by omega))) ?_
    refine E_il rfl L3 ?_
    refine E_ci 3 rfl (by decide) ?_
    by_cases b : 3 ≤ (cxs p q i).2
    · refine E_icF rfl (decide_eq_false (fun z => absurd ((nJ_lt (by omega) (by omega)).mp z) (by omega))) ?_
      refine E_ci 1 rfl (by decide) ?_
      refine E_goto rfl ?_
      exact E_rtz rfl (.inr rfl) ⟨rfl, by rw [zb_T b]⟩
    · refine E_icT rfl (decide_eq_true ((nJ_lt (by omega) (by omega)).mpr (by omega))) ?_
      refine E_ci 0 rfl (by decide) ?_
      exact E_rtz rfl (.inl rfl) ⟨rfl, by rw [zb_F b]⟩
  | succ j ih =>
    intro i lv hj L0 L1 L2 L3 L4 L5
    have c := cxs_le p q i
    refine E_il rfl L5 ?_
    refine E_al rfl L0 ?_
    refine E_ogf (q := (0, 9)) rfl hh rfl rfl g1 ?_
    refine E_icF rfl (decide_eq_false (fun z => absurd ((nJ_lt (by omega) (by omega)).mp z) (by omega))) ?_
    refine E_il rfl L5 ?_
    refine E_call rfl (sp_placeBit (d := d) (by omega) (by omega)) (chkS rfl (by show 0 ≤ 8; decide)) (fun h1 r1 => ?_)
    rintro ⟨e1, f1⟩
    rw [e1, f1, show i + 1 - 1 = i by omega]
    refine E_is rfl (fun lv1 K6 kp => ?_)
    have M0 := kp 0 _ (by decide) rfl L0
    have M1 := kp 1 _ (by decide) rfl L1
    have M2 := kp 2 _ (by decide) rfl L2
    have M3 := kp 3 _ (by decide) rfl L3
    have M4 := kp 4 _ (by decide) rfl L4
    have M5 := kp 5 _ (by decide) rfl L5
    have ht := sd_le p q (i + 1)
    have fin : ∀ {w : Nat}, w = (bif Nat.beq (sd p q (i + 1)) 0 then (cxs p q i).1 else sd p q (i + 1)) → Ends (pm_at tX0_crosses) (pm_Rt pm_P (d + 1)) (48, lv1, [.int (nJ w)], h, 0, 0) (fun h' r => h' = h ∧ r = some (.int (zb (3 ≤ (cxs p q n).2)))) := by
      intro w hw
      have w2 : w ≤ 2 := by rw [hw]; cases Nat.beq (sd p q (i + 1)) 0 with | true => exact c.2 | false => exact ht
      have ws : (cxs p q (i + 1)).1 = w := hw.symm
      refine E_is rfl (fun lv2 K7 kp2 => ?_)
      have N0 := kp2 0 _ (by decide) rfl M0
      have N1 := kp2 1 _ (by decide) rfl M1
      have N2 := kp2 2 _ (by decide) rfl M2
      have N3 := kp2 3 _ (by decide) rfl M3
      have N4 := kp2 4 _ (by decide) rfl M4
      have N5 := kp2 5 _ (by decide) rfl M5
      have go : ∀ {C : Nat} (lv3 : List (Nat × Value)), (cxs p q (i + 1)).2 = C → pm_get lv3 0 = some (.ref 13) → pm_get lv3 1 = some (.int (nJ (ms p n))) → pm_get lv3 2 = some (.int (nJ (ms q n))) → pm_get lv3 3 = some (.int (nJ C)) → pm_get lv3 5 = some (.int (nJ (i + 1))) → pm_get lv3 7 = some (.int (nJ w)) → Ends (pm_at tX0_crosses) (pm_Rt pm_P (d + 1)) (65, lv3, [], h, 0, 0) (fun h' r => h' = h ∧ r = some (.int (zb (3 ≤ (cxs p q n).2)))) := by
        intro C lv3 hC O0 O1 O2 O3 O5 O7
        refine E_il rfl O7 ?_
        refine E_is rfl (fun lv4 K4 kp4 => ?_)
        refine E_inc rfl (kp4 5 _ (by decide) rfl O5) (nJ_inc _) (fun lv5 K5 kp5 => ?_)
        refine E_goto rfl ?_
        exact ih lv5 (i := i + 1) (by omega) (kp5 0 _ (by decide) rfl (kp4 0 _ (by decide) rfl O0)) (kp5 1 _ (by decide) rfl (kp4 1 _ (by decide) rfl O1)) (kp5 2 _ (by decide) rfl (kp4 2 _ (by decide) rfl O2)) (by rw [hC]; exact kp5 3 _ (by decide) rfl (kp4 3 _ (by decide) rfl O3)) (by rw [ws]; exact kp5 4 _ (by decide) rfl K4) K5
      have ec : (cxs p q (i + 1)).2 = (bif Nat.beq (cxs p q i).1 0 || (Nat.beq (sd p q (i + 1)) 0 || Nat.beq (sd p q (i + 1)) (cxs p q i).1) then (cxs p q i).2 else (cxs p q i).2 + 1) := rfl
      refine E_il rfl N4 ?_
      by_cases b0 : (cxs p q i).1 = 0
      · refine E_ifT rfl (decide_eq_true ((nJ_eq0 (by omega)).mpr b0)) ?_
        rw [nbeq.mpr b0] at ec
        exact go lv2 ec N0 N1 N2 N3 N5 K7
      refine E_ifF rfl (decide_eq_false (fun z => b0 ((nJ_eq0 (by omega)).mp z))) ?_
      rw [nbeqF b0] at ec
      refine E_il rfl K7 ?_
      refine E_il rfl N4 ?_
      by_cases b1 : w = (cxs p q i).1
      · refine E_icT rfl (decide_eq_true (by rw [b1])) ?_
        refine go lv2 ?_ N0 N1 N2 N3 N5 K7
        rw [ec]
        by_cases t0 : sd p q (i + 1) = 0
        · rw [nbeq.mpr t0]; rfl
        · rw [nbeqF t0] at hw
          have hw : w = sd p q (i + 1) := hw
          rw [nbeqF t0, ← hw, nbeq.mpr b1]; rfl
      · refine E_icF rfl (decide_eq_false (fun z => b1 ((nJ_eq (by omega) (by omega)).mp z))) ?_
        refine E_inc rfl N3 (nJ_inc _) (fun lv3 K3 kp3 => ?_)
        refine go lv3 ?_ (kp3 0 _ (by decide) rfl N0) (kp3 1 _ (by decide) rfl N1) (kp3 2 _ (by decide) rfl N2) K3 (kp3 5 _ (by decide) rfl N5) (kp3 7 _ (by decide) rfl K7)
        rw [ec]
        by_cases t0 : sd p q (i + 1) = 0
        · rw [nbeq.mpr t0] at hw
          exact absurd hw b1
        · rw [nbeqF t0] at hw
          have hw : w = sd p q (i + 1) := hw
          rw [nbeqF t0, ← hw, nbeqF b1]; rfl
    refine E_il rfl M1 ?_
    refine E_il rfl K6 ?_
    refine E_bin rfl rfl ?_
    cases hp : p (i + 1) with
    | true =>
      refine E_ifF rfl (decide_eq_false (fun z => absurd ((and_ms hn (by omega)).mp z) (by rw [hp]; decide))) ?_
      refine E_ci 1 rfl (by decide) ?_
      refine E_goto rfl ?_
      exact fin (by unfold sd; rw [hp]; rfl)
    | false =>
      refine E_ifT rfl (decide_eq_true ((and_ms hn (by omega)).mpr hp)) ?_
      refine E_il rfl M2 ?_
      refine E_il rfl K6 ?_
      refine E_bin rfl rfl ?_
      cases hq : q (i + 1) with
      | true =>
        refine E_ifF rfl (decide_eq_false (fun z => absurd ((and_ms hn (by omega)).mp z) (by rw [hq]; decide))) ?_
        refine E_ci 2 rfl (by decide) ?_
        refine E_goto rfl ?_
        exact fin (by unfold sd; rw [hp, hq]; rfl)
      | false =>
        refine E_ifT rfl (decide_eq_true ((and_ms hn (by omega)).mpr hq)) ?_
        refine E_il rfl M4 ?_
        exact fin (by unfold sd; rw [hp, hq]; rfl)
theorem sp_crosses {p q : Nat → Bool} {n : Nat} (hh : HH h) (g1 : gi h 13 1 = nJ n) (hn : n ≤ 9) : Sp (d + 2) 12 h [.ref 13, .int (nJ (ms p n)), .int (nJ (ms q n))] (fun h' r => h' = h ∧ r = some (.int (zb (3 ≤ (cxs p q n).2)))) := by
  refine Sp_of aiX0_crosses rfl rfl rfl ?_
  have L0 : pm_get (lv_args 0 [.ref 13, .int (nJ (ms p n)), .int (nJ (ms q n))]) 0 = some (.ref 13) := rfl
  have L1 : pm_get (lv_args 0 [.ref 13, .int (nJ (ms p n)), .int (nJ (ms q n))]) 1 = some (.int (nJ (ms p n))) := rfl
  have L2 : pm_get (lv_args 0 [.ref 13, .int (nJ (ms p n)), .int (nJ (ms q n))]) 2 = some (.int (nJ (ms q n))) := rfl
  generalize lv_args 0 [.ref 13, .int (nJ (ms p n)), .int (nJ (ms q n))] = lv at L0 L1 L2 ⊢
  refine E_ci 0 rfl (by decide) ?_
  refine E_is rfl (fun lv1 K3 kp1 => ?_)
  refine E_ci 0 rfl (by decide) ?_
  refine E_is rfl (fun lv2 K4 kp2 => ?_)
  refine E_ci 1 rfl (by decide) ?_
  refine E_is rfl (fun lv3 K5 kp3 => ?_)
  exact cr_loop hh g1 hn n (i := 0) lv3 (by omega) (kp3 0 _ (by decide) rfl (kp2 0 _ (by decide) rfl (kp1 0 _ (by decide) rfl L0))) (kp3 1 _ (by decide) rfl (kp2 1 _ (by decide) rfl (kp1 1 _ (by decide) rfl L1))) (kp3 2 _ (by decide) rfl (kp2 2 _ (by decide) rfl (kp1 2 _ (by decide) rfl L2))) (kp3 3 _ (by decide) rfl (kp2 3 _ (by decide) rfl K3)) (kp3 4 _ (by decide) rfl K4) K5
end CBK
end
