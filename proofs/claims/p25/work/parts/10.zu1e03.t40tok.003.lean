section
noncomputable def TB (T : Nat → Int32) (L : Nat) (h : pm_H) : Prop := HH h ∧ gi h 77 6 = nJ L ∧ L ≤ 500 ∧ ∀ j, j < L → gi h 82 j = T j
theorem TB_pt {T : Nat → Int32} {L k : Nat} {v : Int32} {h : pm_H} (A : TB T L h) (hk : k ≠ 6) (hh : HH (pt h 77 k v)) : TB T L (pt h 77 k v) := ⟨hh, by rw [gi_ne (by omega)]; exact A.2.1, A.2.2.1, fun j hj => by rw [gi_ne (by omega)]; exact A.2.2.2 j hj⟩
theorem TB_fr {T : Nat → Int32} {L : Nat} {M : List Rng} {h h' : pm_H} (hf : fr_g M h h') (h1 : rg_in M 77 6 = false) (h2 : M.all (fun r => !(Nat.beq r.1 82)) = true) (hh : HH h') (A : TB T L h) : TB T L h' := ⟨hh, by rw [fr_gi hf h1]; exact A.2.1, A.2.2.1, fun j hj => by rw [fr_gi hf (rg_no h2 _)]; exact A.2.2.2 j hj⟩
section RTK
variable {look : Nat → Option pm_I} {call : pm_Call} {Q : pm_H → Option Value → Prop} {pc n n1 n2 n3 n4 n5 n6 i k : Nat} {lv : List (Nat × Value)} {st : List Value} {h : pm_H} {z : Nat × Nat} {T : Nat → Int32} {L d : Nat}
theorem E_gfw (h1 : look pc = some (.inl (s_getf 9 k n))) (hh : HH h) (hk : lf77 k = true) (kk : Ends look call (n, lv, .long (gl h 77 k) :: st, h, z) Q) : Ends look call (pc, lv, .ref 77 :: st, h, z) Q := by
  obtain ⟨vs, x, hx, hv, -⟩ := ob77l hh hk
  have e : gl h 77 k = x := by
    unfold gl ld
    rw [hx]
    dsimp only
    rw [hv]
  rw [e] at kk
  refine E_st h1 ?_ kk
  simp only [s_getf, hx, hv]
  rfl
theorem E_pfw {y : Int64} (h1 : look pc = some (.inl (s_putf 9 k .long n))) (hh : HH h) (hk : lf77 k = true) (kk : ∀ h' : pm_H, HH h' → fr_g [(77, k, k)] h h' → gl h' 77 k = y → Ends look call (n, lv, st, h', z) Q) : Ends look call (pc, lv, .long y :: .ref 77 :: st, h, z) Q := by
  obtain ⟨vs, x, hx, hv, hs⟩ := ob77l hh hk
  have hl := (List.getElem?_eq_some_iff.mp hv).1
  have h4 : Nat.blt k vs.length = true := Nat.ble_eq_true_of_le hl
  refine E_st h1 ?_ (kk (h.set 77 (.inr (9, vs.set k (.long y)))) (hs y) (fun b j hbj => ld_setf hx (fun hb hj => ?_)) ?_)
  · simp only [s_putf, hx, h4]
    rfl
  · subst hb; subst hj
    rw [rg_in_one (Nat.le_refl _) (Nat.le_refl _) (List.mem_singleton_self _)] at hbj
    cases hbj
  · unfold gl ld
    rw [List.getElem?_set_self (List.getElem?_eq_some_iff.mp hx).1]
    dsimp only
    rw [List.getElem?_set_self hl]
theorem sp_isB {lo hi : Int32} (B : TB T L h) (hk : k ≤ L) : Sp (d + 1) 266 h [.ref 77, .int (nJ k), .int lo, .int hi] (fun h' r => h' = h ∧ r = some (.int (zb (k < L ∧ ¬ T k < lo ∧ ¬ hi < T k)))) := by
  have h5 := B.2.2.1
  have eL : gn h 77 6 = L := gn_of B.2.1 (by omega)
  refine Sp_mono ?_ (sp_isByte (d := d) (k := k) (lo := lo) (hi := hi) B.1 (by omega))
  rintro h' r ⟨e, q⟩
  refine ⟨e, ?_⟩
  have iff : PB h k lo hi ↔ (k < L ∧ ¬ T k < lo ∧ ¬ hi < T k) := by
    unfold PB
    rw [eL]
    constructor
    · rintro ⟨a, b⟩
      rw [B.2.2.2 k a] at b
      exact ⟨a, b⟩
    · rintro ⟨a, b⟩
      rw [B.2.2.2 k a]
      exact ⟨a, b⟩
  rcases q with ⟨q, rfl⟩ | ⟨q, rfl⟩
  · rw [zb_F (fun z => q (iff.mpr z))]
  · rw [zb_T (iff.mp q)]
theorem E_isB {lo hi : Int32} (h1 : look pc = some (.inl (s_al 0 n1))) (h2 : look n1 = some (.inl (s_al 0 n2))) (h3 : look n2 = some (.inl (s_getf 9 7 n3))) (h4 : look n3 = some (.inl (s_const (.int lo) n4))) (h5 : look n4 = some (.inl (s_const (.int hi) n5))) (h6 : look n5 = some (.inr (.inl (266, 4, some 9, 0, 0)))) (L0 : pm_get lv 0 = some (.ref 77)) (B : TB T L h) (hiL : i ≤ L) (g : gi h 77 7 = nJ i) (kk : Ends look (pm_Rt pm_P (d + 1)) (n5 + 3, lv, [.int (zb (i < L ∧ ¬ T i < lo ∧ ¬ hi < T i))], h, z) Q) : Ends look (pm_Rt pm_P (d + 1)) (pc, lv, [], h, z) Q := by
  refine E_al h1 L0 ?_
  refine E_al h2 L0 ?_
  refine E_gf (q := (0, 500)) h3 B.1 rfl g ?_
  refine E_c h4 ?_
  refine E_c h5 ?_
  refine E_call h6 (sp_isB B hiL) (chk77 B.1 rfl rfl (by show 0 ≤ 8; decide)) (fun h' r q => ?_)
  rw [q.1, q.2]
  exact kk
theorem E_sinc (h1 : look pc = some (.inl (s_al 0 n1))) (h2 : look n1 = some (.inl (s_dup n2))) (h3 : look n2 = some (.inl (s_getf 9 7 n3))) (h4 : look n3 = some (.inl (s_const (.int 1) n4))) (h5 : look n4 = some (.inl (s_bin (fun x y => x + y) n5))) (h6 : look n5 = some (.inl (s_putf 9 7 .int n6))) (L0 : pm_get lv 0 = some (.ref 77)) (hh : HH h) (e : gi h 77 7 = nJ i) (kk : Ends look call (n6, lv, st, pt h 77 7 (nJ (i + 1)), z) Q) : Ends look call (pc, lv, st, h, z) Q :=
  E_al h1 L0 (E_dup h2 rfl (E_gf (q := (0, 500)) h3 hh rfl e (E_ci 1 h4 (by decide) (E_bin h5 (nJ_add i 1) (E_pf (q := (0, 500)) h6 hh rfl kk)))))
/-- the byte at the spot -/
theorem E_sbyt (h2 : look pc = some (.inl (s_al 0 n1))) (h3 : look n1 = some (.inl (s_getf 9 5 n2))) (h4 : look n2 = some (.inl (s_al 0 n3))) (h5 : look n3 = some (.inl (s_getf 9 7 n4))) (h6 : look n4 = some (.inl (s_bald n5))) (L0 : pm_get lv 0 = some (.ref 77)) (B : TB T L h) (hi : i < L) (g : gi h 77 7 = nJ i) (kk : Ends look call (n5, lv, .int (T i) :: st, h, z) Q) : Ends look call (pc, lv, st, h, z) Q := by
  have h5' := B.2.2.1
  refine E_al h2 L0 ?_
  refine E_gr (q := 82) h3 B.1 rfl ?_
  refine E_al h4 L0 ?_
  refine E_gf (q := (0, 500)) h5 B.1 rfl g ?_
  refine E_bal (a := 82) (len := 500) h6 B.1 rfl (by omega) (by decide) ?_
  rw [B.2.2.2 i hi]
  exact kk
end RTK
theorem isb_lt {b : Int32} : (¬ b < 97 ∧ ¬ 122 < b) ↔ ltb b = true := by
  constructor
  · rintro ⟨a, c⟩
    exact ltb_in a c
  · intro q
    exact ⟨fun a => absurd q (by rw [ltb_lo a]; decide), fun a => absurd q (by rw [ltb_hi a]; decide)⟩
theorem isb_dg {b : Int32} : (¬ b < 48 ∧ ¬ 57 < b) ↔ dgb b = true := by
  constructor
  · rintro ⟨a, c⟩
    exact dgb_in a c
  · intro q
    exact ⟨fun a => absurd q (by rw [dgb_lo a]; decide), fun a => absurd q (by rw [dgb_hi a]; decide)⟩
theorem isb_eq {b c : Int32} : (¬ b < c ∧ ¬ c < b) ↔ b = c := by
  rw [Int32.lt_iff_toInt_lt, Int32.lt_iff_toInt_lt]
  constructor
  · intro q
    exact Int32.toInt_inj.mp (by omega)
  · intro q
    rw [q]
    omega
/-- the token that the reference is at -/
noncomputable def RT (T : Nat → Int32) (L s : Nat) (h : pm_H) : Prop := gi h 77 9 = nJ s ∧ gi h 77 7 = nJ (tke T L s) ∧ gi h 77 8 = nJ (tkk T L s) ∧ (tkk T L s = 2 → ∃ v, v ≤ 1000009 ∧ gi h 77 10 = nJ v ∧ Vr v (tkv T L s)) ∧ (tkk T L s = 1 → (gl h 77 11).toInt = wnm T s (tke T L s - s))
theorem Vr_r1 {v c d : Nat} (h : Vr v c) (hv : 1000 ≤ v) : Vr 1000000 (min 1000 (10 * c + d)) := by
  unfold Vr at *
  omega
theorem wfo_lt {T : Nat → Int32} {s n : Nat} (h : ∀ i, i < n → ltb (T (s + i)) = true) : wfo T s n < ((27 ^ n : Nat) : Int) := by
  induction n with
  | zero => show (0 : Int) < 1; decide
  | succ n ih =>
    have a := ih (fun i hi => h i (by omega))
    have b := ltb_iff.mp (h n (by omega))
    have e : ((27 ^ (n + 1) : Nat) : Int) = ((27 ^ n : Nat) : Int) * 27 := by rw [Nat.pow_succ, Int.natCast_mul]; rfl
    rw [e]
    show 27 * wfo T s n + ((T (s + n)).toInt - 96) < _
    omega
theorem i64_lin {w : Int64} {t : Int32} (h0 : 0 ≤ w.toInt) (h1 : w.toInt ≤ 10000000000000000) : ((27 * w + t.toInt64) - 96).toInt = 27 * w.toInt + (t.toInt - 96) := by
  have a := ai_lo t
  have b := ai_hi t
  have c27 : (27 : Int64).toInt = 27 := rfl
  have c96 : (96 : Int64).toInt = 96 := rfl
  have e1 : (27 * w).toInt = 27 * w.toInt := by
    rw [Int64.toInt_mul, c27]
    exact Int.bmod_eq_of_le (by omega) (by omega)
  have e2 : (27 * w + t.toInt64).toInt = 27 * w.toInt + t.toInt := by
    rw [Int64.toInt_add, e1, i2l_toInt]
    exact Int.bmod_eq_of_le (by omega) (by omega)
  rw [Int64.toInt_sub, e2, c96, Int.bmod_eq_of_le (by omega) (by omega)]
  omega
section RTL
variable {T : Nat → Int32} {L d : Nat}
theorem fw_let {s : Nat} (j : Nat) : ∀ {h : pm_H} {i n : Nat} (lv : List (Nat × Value)), i + j = L → s + n = i → TB T L h → gi h 77 7 = nJ i → (gl h 77 11).toInt = wnm T s n → (∀ m, m < n → ltb (T (s + m)) = true) → pm_get lv 0 = some (.ref 77) → pm_get lv 1 = some (.int (nJ n)) → Ends (pm_at tX9_follows) (pm_Rt pm_P (d + 1)) (102, lv, [], h, 0, 0) (fun h' r => r = none ∧ HH h' ∧ fr_g [(77, 7, 7), (77, 11, 11)] h h' ∧ gi h' 77 7 = nJ (up (fun j => ltb (T j)) L i) ∧ (gl h' 77 11).toInt = wnm T s (up (fun j => ltb (T j)) L i - s)) := by
  induction j with
  | zero =>
    intro h i n lv hj hn B g gw ha L0 L1
    have h5 := B.2.2.1
    refine E_isB rfl rfl rfl rfl rfl rfl L0 B (by omega) g ?_
    refine E_ifT rfl (by rw [zb_F (fun q => absurd q.1 (by omega))]; rfl) ?_
    refine E_goto rfl ?_
    rw [up_no (L := L) (i := i) (fun q => absurd q.1 (by omega)), show i - s = n by omega]
    exact E_ret rfl ⟨rfl, B.1, fr_rf _ _, g, gw⟩
  | succ j ih =>
    intro h i n lv hj hn B g gw ha L0 L1
    have h5 := B.2.2.1
    refine E_isB rfl rfl rfl rfl rfl rfl L0 B (by omega) g ?_
    by_cases b : ltb (T i) = true
    · refine E_ifF rfl (by rw [zb_T ⟨by omega, isb_lt.mpr b⟩]; rfl) ?_
      rw [up_go (p := fun j => ltb (T j)) (by omega) b]
      have e11 : (11 : Int32) = nJ 11 := by decide
      have ha' : ∀ m, m < n + 1 → ltb (T (s + m)) = true := fun m hm => by
        by_cases q : m = n
        · rw [q, hn]; exact b
        · exact ha m (by omega)
      have rest : ∀ {h1 : pm_H}, HH h1 → fr_g [(77, 11, 11)] h h1 → (gl h1 77 11).toInt = wnm T s (n + 1) → Ends (pm_at tX9_follows) (pm_Rt pm_P (d + 1)) (169, lv, [], h1, 0, 0) (fun h' r => r = none ∧ HH h' ∧ fr_g [(77, 7, 7), (77, 11, 11)] h h' ∧ gi h' 77 7 = nJ (up (fun j => ltb (T j)) L (i + 1)) ∧ (gl h' 77 11).toInt = wnm T s (up (fun j => ltb (T j)) L (i + 1) - s)) := by
        intro h1 hh1 f1 gw1
        have B1 := TB_fr f1 rfl rfl hh1 B
        have g1 : gi h1 77 7 = nJ i := by rw [fr_gi f1 rfl]; exact g
        refine E_sinc rfl rfl rfl rfl rfl rfl L0 hh1 g1 ?_
        have hh2 : HH (pt h1 77 7 (nJ (i + 1))) := HH_ptn hh1 rfl (by omega) (by omega) (by omega)
        refine E_inc rfl L1 (nJ_inc _) (fun lv1 K1 kp => ?_)
        refine E_goto rfl ?_
        have eg : gl (pt h1 77 7 (nJ (i + 1))) 77 11 = gl h1 77 11 := by unfold gl; rw [ld_pt (by omega)]
        refine Ends_mono ?_ (ih lv1 (i := i + 1) (n := n + 1) (by omega) (by omega) (TB_pt B1 (by omega) hh2) (gi_ptn hh1 rfl (by omega) (by omega) (by omega)) (by rw [eg]; exact gw1) ha' (kp 0 _ (by decide) rfl L0) K1)
        rintro h' r ⟨q1, q2, q3, q4⟩
        exact ⟨q1, q2, fr_trans (fr_ptr (l := 7) (u := 7) rfl (by omega) (by omega) (fr_wk rfl f1)) q3, q4⟩
      refine E_al rfl L0 ?_
      refine E_il rfl L1 ?_
      refine E_ci 11 rfl (by decide) ?_
      by_cases b2 : n ≤ 11
      · refine E_icT rfl (decide_eq_true ((nJ_le (by omega) (by omega)).mpr b2)) ?_
        refine E_c rfl ?_
        refine E_al rfl L0 ?_
        refine E_gfw rfl B.1 rfl ?_
        refine E_lbin rfl ?_
        refine E_sbyt rfl rfl rfl rfl rfl L0 B (by omega) g ?_
        refine E_i2l rfl ?_
        refine E_lbin rfl ?_
        refine E_c rfl ?_
        refine E_lbin rfl ?_
        refine E_pfw rfl B.1 rfl (fun h1 hh1 f1 e1 => ?_)
        have w0 := wfo_ge ha
        have w1 := wfo_lt ha
        have w2 : 27 ^ n ≤ 27 ^ 11 := Nat.pow_le_pow_right (by decide) b2
        have w3 : (27 : Nat) ^ 11 = 5559060566555523 := by decide
        have ew : wnm T s n = wfo T s n := if_pos (by omega)
        have ew1 : wnm T s (n + 1) = wfo T s (n + 1) := if_pos (by omega)
        rw [ew] at gw
        refine E_il rfl L1 ?_
        refine E_ci 11 rfl (by decide) ?_
        refine E_icT rfl (decide_eq_true ((nJ_le (by omega) (by omega)).mpr b2)) ?_
        refine rest hh1 f1 ?_
        rw [e1, ew1]
        have := i64_lin (w := gl h 77 11) (t := T i) (by omega) (by omega)
        rw [gw] at this
        show _ = 27 * wfo T s n + ((T (s + n)).toInt - 96)
        rw [hn]
        exact this
      · refine E_icF rfl (decide_eq_false (fun q => b2 ((nJ_le (by omega) (by omega)).mp q))) ?_
        refine E_c rfl ?_
        refine E_goto rfl ?_
        refine E_pfw rfl B.1 rfl (fun h1 hh1 f1 e1 => ?_)
        refine E_il rfl L1 ?_
        refine E_ci 11 rfl (by decide) ?_
        refine E_icF rfl (decide_eq_false (fun q => b2 ((nJ_le (by omega) (by omega)).mp q))) ?_
        refine E_al rfl L0 ?_
        refine E_c rfl ?_
        refine E_pfw rfl hh1 rfl (fun h2 hh2 f2 e2 => ?_)
        refine rest hh2 (fr_trans f1 f2) ?_
        rw [e2, show wnm T s (n + 1) = -1 from if_neg (by omega)]
        rfl
    · refine E_ifT rfl (by rw [zb_F (fun q => b (isb_lt.mp q.2))]; rfl) ?_
      refine E_goto rfl ?_
      rw [up_no (L := L) (i := i) (fun q => b q.2), show i - s = n by omega]
      exact E_ret rfl ⟨rfl, B.1, fr_rf _ _, g, gw⟩
end RTL
end
