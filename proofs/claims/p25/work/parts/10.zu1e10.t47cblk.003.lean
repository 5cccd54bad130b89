section
section RBK
variable {h : pm_H} {d : Nat}
theorem mj_r {n x y p q : Nat} (hh : HH h) (hx : x < 10) (hy : y < 10) (n9 : n ≤ 9) (p1 : 1 ≤ p) (pq : p < q) (qn : q ≤ n) (K : ∀ lv : List (Nat × Value), pm_get lv 0 = some (.ref 77) → pm_get lv 1 = some (.int (nJ x)) → pm_get lv 2 = some (.int (nJ y)) → pm_get lv 3 = some (.int (nJ n)) → pm_get lv 4 = some (.int (nJ p)) → pm_get lv 5 = some (.int (nJ q)) → (∀ r s, q < r → r < s → s ≤ n → ¬ VV (wj (gn h 101) x y) p q r s) → Ends (pm_at tX9_mayJoin) (pm_Rt pm_P (d + 1)) (129, lv, [], h, 0, 0) (MJQ n x y h)) (j : Nat) : ∀ {r : Nat} (lv : List (Nat × Value)), r + j = n + 1 → q < r → (∀ r' s, q < r' → r' < r → r' < s → s ≤ n → ¬ VV (wj (gn h 101) x y) p q r' s) → pm_get lv 0 = some (.ref 77) → pm_get lv 1 = some (.int (nJ x)) → pm_get lv 2 = some (.int (nJ y)) → pm_get lv 3 = some (.int (nJ n)) → pm_get lv 4 = some (.int (nJ p)) → pm_get lv 5 = some (.int (nJ q)) → pm_get lv 6 = some (.int (nJ r)) → Ends (pm_at tX9_mayJoin) (pm_Rt pm_P (d + 1)) (44, lv, [], h, 0, 0) (MJQ n x y h) := by
  induction j with
  | zero =>
    intro r lv hj qr hA L0 L1 L2 L3 L4 L5 L6
    refine E_il rfl L6 ?_
    refine E_il rfl L3 ?_
    refine E_icT rfl (decide_eq_true ((nJ_lt (by omega) (by omega)).mpr (by omega))) ?_
    exact K lv L0 L1 L2 L3 L4 L5 (fun r' s a b c => hA r' s a (by omega) b c)
  | succ j ih =>
    intro r lv hj qr hA L0 L1 L2 L3 L4 L5 L6
    refine E_il rfl L6 ?_
    refine E_il rfl L3 ?_
    refine E_icF rfl (decide_eq_false (fun z => absurd ((nJ_lt (by omega) (by omega)).mp z) (by omega))) ?_
    refine E_il rfl L6 ?_
    refine E_ci 1 rfl (by decide) ?_
    refine E_bin rfl (nJ_add _ _) ?_
    refine E_is rfl (fun lv1 K7 kp => ?_)
    refine mj_s hh hx hy n9 p1 pq qr (by omega) (fun lv2 M0 M1 M2 M3 M4 M5 M6 hB => ?_) (n + 1 - (r + 1)) (s := r + 1) lv1 (by omega) (by omega) (fun s' a b => by omega) (kp 0 _ (by decide) rfl L0) (kp 1 _ (by decide) rfl L1) (kp 2 _ (by decide) rfl L2) (kp 3 _ (by decide) rfl L3) (kp 4 _ (by decide) rfl L4) (kp 5 _ (by decide) rfl L5) (kp 6 _ (by decide) rfl L6) K7
    refine E_inc rfl M6 (nJ_inc _) (fun lv3 K6 kp3 => ?_)
    refine E_goto rfl ?_
    refine ih lv3 (r := r + 1) (by omega) (by omega) (fun r' s a b c e => ?_) (kp3 0 _ (by decide) rfl M0) (kp3 1 _ (by decide) rfl M1) (kp3 2 _ (by decide) rfl M2) (kp3 3 _ (by decide) rfl M3) (kp3 4 _ (by decide) rfl M4) (kp3 5 _ (by decide) rfl M5) K6
    by_cases z : r' = r
    · subst z; exact hB s c e
    · exact hA r' s a (by omega) c e
theorem mj_q {n x y p : Nat} (hh : HH h) (hx : x < 10) (hy : y < 10) (n9 : n ≤ 9) (p1 : 1 ≤ p) (pn : p ≤ n) (K : ∀ lv : List (Nat × Value), pm_get lv 0 = some (.ref 77) → pm_get lv 1 = some (.int (nJ x)) → pm_get lv 2 = some (.int (nJ y)) → pm_get lv 3 = some (.int (nJ n)) → pm_get lv 4 = some (.int (nJ p)) → (∀ q r s, p < q → q < r → r < s → s ≤ n → ¬ VV (wj (gn h 101) x y) p q r s) → Ends (pm_at tX9_mayJoin) (pm_Rt pm_P (d + 1)) (135, lv, [], h, 0, 0) (MJQ n x y h)) (j : Nat) : ∀ {q : Nat} (lv : List (Nat × Value)), q + j = n + 1 → p < q → (∀ q' r s, p < q' → q' < q → q' < r → r < s → s ≤ n → ¬ VV (wj (gn h 101) x y) p q' r s) → pm_get lv 0 = some (.ref 77) → pm_get lv 1 = some (.int (nJ x)) → pm_get lv 2 = some (.int (nJ y)) → pm_get lv 3 = some (.int (nJ n)) → pm_get lv 4 = some (.int (nJ p)) → pm_get lv 5 = some (.int (nJ q)) → Ends (pm_at tX9_mayJoin) (pm_Rt pm_P (d + 1)) (32, lv, [], h, 0, 0) (MJQ n x y h) := by
  induction j with
  | zero =>
    intro q lv hj pq hA L0 L1 L2 L3 L4 L5
    refine E_il rfl L5 ?_
    refine E_il rfl L3 ?_
    refine E_icT rfl (decide_eq_true ((nJ_lt (by omega) (by omega)).mpr (by omega))) ?_
    exact K lv L0 L1 L2 L3 L4 (fun q' r s a b c e => hA q' r s a (by omega) b c e)
  | succ j ih =>
    intro q lv hj pq hA L0 L1 L2 L3 L4 L5
    refine E_il rfl L5 ?_
    refine E_il rfl L3 ?_
    refine E_icF rfl (decide_eq_false (fun z => absurd ((nJ_lt (by omega) (by omega)).mp z) (by omega))) ?_
    refine E_il rfl L5 ?_
    refine E_ci 1 rfl (by decide) ?_
    refine E_bin rfl (nJ_add _ _) ?_
    refine E_is rfl (fun lv1 K6 kp => ?_)
    refine mj_r hh hx hy n9 p1 pq (by omega) (fun lv2 M0 M1 M2 M3 M4 M5 hB => ?_) (n + 1 - (q + 1)) (r := q + 1) lv1 (by omega) (by omega) (fun r' s a b c e => by omega) (kp 0 _ (by decide) rfl L0) (kp 1 _ (by decide) rfl L1) (kp 2 _ (by decide) rfl L2) (kp 3 _ (by decide) rfl L3) (kp 4 _ (by decide) rfl L4) (kp 5 _ (by decide) rfl L5) K6
    refine E_inc rfl M5 (nJ_inc _) (fun lv3 K5 kp3 => ?_)
    refine E_goto rfl ?_
    refine ih lv3 (q := q + 1) (by omega) (by omega) (fun q' r s a b c e f => ?_) (kp3 0 _ (by decide) rfl M0) (kp3 1 _ (by decide) rfl M1) (kp3 2 _ (by decide) rfl M2) (kp3 3 _ (by decide) rfl M3) (kp3 4 _ (by decide) rfl M4) K5
    by_cases z : q' = q
    · subst z; exact hB r s c e f
    · exact hA q' r s a (by omega) c e f
theorem mj_p {n x y : Nat} (hh : HH h) (hx : x < 10) (hy : y < 10) (n9 : n ≤ 9) (hne : gn h 101 x ≠ gn h 101 y) (j : Nat) : ∀ {p : Nat} (lv : List (Nat × Value)), p + j = n + 1 → 1 ≤ p → (∀ p' q r s, 1 ≤ p' → p' < p → p' < q → q < r → r < s → s ≤ n → ¬ VV (wj (gn h 101) x y) p' q r s) → pm_get lv 0 = some (.ref 77) → pm_get lv 1 = some (.int (nJ x)) → pm_get lv 2 = some (.int (nJ y)) → pm_get lv 3 = some (.int (nJ n)) → pm_get lv 4 = some (.int (nJ p)) → Ends (pm_at tX9_mayJoin) (pm_Rt pm_P (d + 1)) (20, lv, [], h, 0, 0) (MJQ n x y h) := by
  induction j with
  | zero =>
    intro p lv hj p1 hA L0 L1 L2 L3 L4
    refine E_il rfl L4 ?_
    refine E_il rfl L3 ?_
    refine E_icT rfl (decide_eq_true ((nJ_lt (by omega) (by omega)).mpr (by omega))) ?_
    refine E_ci 1 rfl (by decide) ?_
    refine E_rtz rfl (.inr rfl) ⟨rfl, .inl ⟨⟨hne, ?_⟩, rfl⟩⟩
    rintro ⟨p', q, r, s, a1, a2, a3, a4, a5, e1, e2, e3⟩
    exact hA p' q r s a1 (by omega) a2 a3 a4 a5 ⟨e1, e2, e3⟩
  | succ j ih =>
    intro p lv hj p1 hA L0 L1 L2 L3 L4
    refine E_il rfl L4 ?_
    refine E_il rfl L3 ?_
    refine E_icF rfl (decide_eq_false (fun z => absurd ((nJ_lt (by omega) (by omega)).mp z) (by omega))) ?_
    refine E_il rfl L4 ?_
    refine E_ci 1 rfl (by decide) ?_
    refine E_bin rfl (nJ_add _ _) ?_
    refine E_is rfl (fun lv1 K5 kp => ?_)
    refine mj_q hh hx hy n9 p1 (by omega) (fun lv2 M0 M1 M2 M3 M4 hB => ?_) (n + 1 - (p + 1)) (q := p + 1) lv1 (by omega) (by omega) (fun q' r s a b c e f => by omega) (kp 0 _ (by decide) rfl L0) (kp 1 _ (by decide) rfl L1) (kp 2 _ (by decide) rfl L2) (kp 3 _ (by decide) rfl L3) (kp 4 _ (by decide) rfl L4) K5
    refine E_inc rfl M4 (nJ_inc _) (fun lv3 K4 kp3 => ?_)
    refine E_goto rfl ?_
    refine ih lv3 (p := p + 1) (by omega) (by omega) (fun p' q r s a b c e f g => ?_) (kp3 0 _ (by decide) rfl M0) (kp3 1 _ (by decide) rfl M1) (kp3 2 _ (by decide) rfl M2) (kp3 3 _ (by decide) rfl M3) K4
    by_cases z : p' = p
    · subst z; exact hB q r s c e f g
    · exact hA p' q r s a (by omega) c e f g
theorem sp_mj {n x y : Nat} (hh : HH h) (hx : x < 10) (hy : y < 10) (n9 : n ≤ 9) : Sp (d + 2) 309 h [.ref 77, .int (nJ x), .int (nJ y), .int (nJ n)] (MJQ n x y h) := by
  obtain ⟨x1, x2⟩ := g101 hh hx
  obtain ⟨y1, y2⟩ := g101 hh hy
  refine Sp_of aiX9_mayJoin rfl rfl rfl ?_
  have L0 : pm_get (lv_args 0 [.ref 77, .int (nJ x), .int (nJ y), .int (nJ n)]) 0 = some (.ref 77) := rfl
  have L1 : pm_get (lv_args 0 [.ref 77, .int (nJ x), .int (nJ y), .int (nJ n)]) 1 = some (.int (nJ x)) := rfl
  have L2 : pm_get (lv_args 0 [.ref 77, .int (nJ x), .int (nJ y), .int (nJ n)]) 2 = some (.int (nJ y)) := rfl
  have L3 : pm_get (lv_args 0 [.ref 77, .int (nJ x), .int (nJ y), .int (nJ n)]) 3 = some (.int (nJ n)) := rfl
  generalize lv_args 0 [.ref 77, .int (nJ x), .int (nJ y), .int (nJ n)] = lv at L0 L1 L2 L3 ⊢
  refine E_al rfl L0 ?_
  refine E_gr rfl hh (q := 101) rfl ?_
  refine E_il rfl L1 ?_
  refine E_ial rfl hh rfl hx (by decide) x1 ?_
  refine E_al rfl L0 ?_
  refine E_gr rfl hh (q := 101) rfl ?_
  refine E_il rfl L2 ?_
  refine E_ial rfl hh rfl hy (by decide) y1 ?_
  by_cases e : gn h 101 x = gn h 101 y
  · refine E_icF rfl (decide_eq_false (fun z => z (by rw [e]))) ?_
    refine E_ci 0 rfl (by decide) ?_
    exact E_rtz rfl (.inl rfl) ⟨rfl, .inr ⟨fun m => m.1 e, rfl⟩⟩
  refine E_icT rfl (decide_eq_true (fun z => e ((nJ_eq (by omega) (by omega)).mp z))) ?_
  refine E_ci 1 rfl (by decide) ?_
  refine E_is rfl (fun lv1 K4 kp => ?_)
  exact mj_p (d := d) hh hx hy n9 e n (p := 1) lv1 (by omega) (by omega) (fun p' q r s a b c => by omega) (kp 0 _ (by decide) rfl L0) (kp 1 _ (by decide) rfl L1) (kp 2 _ (by decide) rfl L2) (kp 3 _ (by decide) rfl L3) K4
end RBK
end
section
/-! the class's lines of a street (written by gen_t49.py; wants t43, t45, t47) -/
section CL0
variable {T : Nat → Int32} {L d s k : Nat} {h : pm_H} {x : Px}
theorem sp_tW (C : CS T L (.inr s) h) (hk : k < 8) : Sp (d + 6) 41 h [.ref 3, .retAddr (4 + k)] (fun h' r => r = some (.int (zb (isR (bW T L (wd k) (.inr s)) = true))) ∧ fr_g [(3, 1, 2), (3, 5, 8)] h h' ∧ CS T L (bW T L (wd k) (.inr s)) h') := sp_takeWord C hk
theorem sp_iW (C : CS T L (.inr s) h) (hk : k < 8) : Sp (d + 5) 29 h [.ref 3, .retAddr (4 + k)] (fun h' r => h' = h ∧ r = some (.int (zb (wIs T L s (wd k) = true)))) := sp_isWord C hk
theorem CS_TA (C : CS T L x h) : TA T L h := by
  match x, C with
  | .inl (k, p), C => exact C.1
  | .inr s, C => exact C.1
theorem CS_eq {h' : pm_H} (e : ∀ k, gi h' 3 k = gi h 3 k) (A : TA T L h') (C : CS T L x h) : CS T L x h' := by
  match x, C with
  | .inl (k, p), C => exact ⟨A, by rw [e]; exact C.2.1, by rw [e]; exact C.2.2.1, C.2.2.2⟩
  | .inr s, ⟨_, ⟨c6, c7, c5, c8⟩, c1, c2, hs⟩ => exact ⟨A, ⟨by rw [e]; exact c6, by rw [e]; exact c7, by rw [e]; exact c5, fun q => by rw [e]; exact c8 q⟩, by rw [e]; exact c1, by rw [e]; exact c2, hs⟩
theorem CS_pt {a k : Nat} {v : Int32} (ha : 4 ≤ a) (hh : HH (pt h a k v)) (C : CS T L x h) : CS T L x (pt h a k v) := CS_eq (fun k => gi_ne (by omega)) (TA_pt (CS_TA C) (by omega) hh) C
theorem CS_frm {M : List Rng} {h' : pm_H} (hf : fr_g M h h') (h1 : M.all (fun r => !(Nat.beq r.1 1)) = true) (h2 : M.all (fun r => !(Nat.beq r.1 2)) = true) (h3 : M.all (fun r => !(Nat.beq r.1 3)) = true) (hh : HH h') (C : CS T L x h) : CS T L x h' := CS_eq (fun k => fr_gi hf (rg_no h3 _)) (TA_fr hf h1 h2 hh (CS_TA C)) C
theorem sp_clear (hh : HH h) : Sp (d + 1) 50 h [.ref 4] (fun h' r => r = none ∧ HH h' ∧ fr_g [(4, 0, 6)] h h' ∧ ∀ k, k < 7 → gi h' 4 k = nJ 0) := by
  refine Sp_of aiX5_clear rfl rfl rfl ?_
  have L0 : pm_get (lv_args 0 [.ref 4]) 0 = some (.ref 4) := rfl
  generalize lv_args 0 [.ref 4] = lv at L0 ⊢
  have st : ∀ {k : Nat} {q : Int × Int} {g : pm_H}, k < 7 → bd 4 k = some q → q.1 ≤ 0 → 0 ≤ q.2 → HH g → fr_g [(4, 0, 6)] h g → (∀ i, i < k → gi g 4 i = nJ 0) → HH (pt g 4 k (nJ 0)) ∧ fr_g [(4, 0, 6)] h (pt g 4 k (nJ 0)) ∧ ∀ i, i < k + 1 → gi (pt g 4 k (nJ 0)) 4 i = nJ 0 := by
    intro k q g hk hb q1 q2 hg hf ha
    refine ⟨HH_pt hg hb q1 q2, fr_ptr (l := 0) (u := 6) rfl (by omega) (by omega) hf, fun i hi => ?_⟩
    by_cases e : i = k
    · rw [e]; exact gi_pt hg hb q1 q2
    · rw [gi_ne (fun _ => e)]; exact ha i (by omega)
  refine E_al rfl L0 ?_
  refine E_ci 0 rfl (by decide) ?_
  refine E_opf (q := (0, 8)) rfl hh rfl rfl ?_
  obtain ⟨a0, b0, c0⟩ := st (k := 0) (q := (0, 8)) (by decide) rfl (by decide) (by decide) hh (fr_rf _ _) (fun i hi => absurd hi (Nat.not_lt_zero i))
  refine E_al rfl L0 ?_
  refine E_ci 0 rfl (by decide) ?_
  refine E_opf (q := (0, 3)) rfl a0 rfl rfl ?_
  obtain ⟨a1, b1, c1⟩ := st (k := 1) (q := (0, 3)) (by decide) rfl (by decide) (by decide) a0 b0 c0
  refine E_al rfl L0 ?_
  refine E_ci 0 rfl (by decide) ?_
  refine E_opf (q := (0, 10)) rfl a1 rfl rfl ?_
  obtain ⟨a2, b2, c2⟩ := st (k := 2) (q := (0, 10)) (by decide) rfl (by decide) (by decide) a1 b1 c1
  refine E_al rfl L0 ?_
  refine E_ci 0 rfl (by decide) ?_
  refine E_opf (q := ((-2147483648), 2147483647)) rfl a2 rfl rfl ?_
  obtain ⟨a3, b3, c3⟩ := st (k := 3) (q := ((-2147483648), 2147483647)) (by decide) rfl (by decide) (by decide) a2 b2 c2
  refine E_al rfl L0 ?_
  refine E_ci 0 rfl (by decide) ?_
  refine E_opf (q := (0, 8)) rfl a3 rfl rfl ?_
  obtain ⟨a4, b4, c4⟩ := st (k := 4) (q := (0, 8)) (by decide) rfl (by decide) (by decide) a3 b3 c3
  refine E_al rfl L0 ?_
  refine E_ci 0 rfl (by decide) ?_
  refine E_opf (q := (0, 8)) rfl a4 rfl rfl ?_
  obtain ⟨a5, b5, c5⟩ := st (k := 5) (q := (0, 8)) (by decide) rfl (by decide) (by decide) a4 b4 c4
  refine E_al rfl L0 ?_
  refine E_ci 0 rfl (by decide) ?_
  refine E_opf (q := (0, 20)) rfl a5 rfl rfl ?_
  obtain ⟨a6, b6, c6⟩ := st (k := 6) (q := (0, 20)) (by decide) rfl (by decide) (by decide) a5 b5 c5
  exact E_ret rfl ⟨rfl, a6, b6, c6⟩
end CL0
end
