/-! the reference's tokens (wants t40, t41, 10.zte) -/
noncomputable def TB (T : Nat → Int32) (L : Nat) (h : pm_H) : Prop := HH h ∧ gi h 77 6 = nJ L ∧ L ≤ 500 ∧ ∀ j, j < L → gi h 82 j = T j
theorem TB_pt {T : Nat → Int32} {L k : Nat} {v : Int32} {h : pm_H} (A : TB T L h) (hk : k ≠ 6) (hh : HH (pt h 77 k v)) : TB T L (pt h 77 k v) := ⟨hh, by rw [gi_ne (by omega)]; exact A.2.1, A.2.2.1, fun j hj => by rw [gi_ne (by omega)]; exact A.2.2.2 j hj⟩
theorem TB_fr {T : Nat → Int32} {L : Nat} {M : List Rng} {h h' : pm_H} (hf : fr_g M h h') (h1 : rg_in M 77 6 = false) (h2 : M.all (fun r => !(Nat.beq r.1 82)) = true) (hh : HH h') (A : TB T L h) : TB T L h' := ⟨hh, by rw [fr_gi hf h1]; exact A.2.1, A.2.2.1, fun j hj => by rw [fr_gi hf (rg_no h2 _)]; exact A.2.2.2 j hj⟩
section RTK
variable {look : Nat → Option pm_I} {call : pm_Call} {Q : pm_H → Option Value → Prop} {pc n n1 n2 n3 n4 n5 n6 i k : Nat} {lv : List (Nat × Value)} {st : List Value} {h : pm_H} {z : Nat × Nat} {T : Nat → Int32} {L d : Nat}
theorem E_gfw (h1 : look pc = some (.inl (s_getf 9 k n))) (hh : HH h) (hk : lf77 k = true) (kk : Ends look call (n, lv, .long (gl h 77 k) :: st, h, z) Q) : Ends look call (pc, lv, .ref 77 :: st, h, z) Q := by
  obtain ⟨vs, x, hx, hv, -⟩ := ob77l hh hk
  have e : gl h 77 k = x := by
    unfold gl ld
    rw [hx]
    dsimp only
    rw [hv]
  rw [e] at kk
  refine E_st h1 ?_ kk
  simp only [s_getf, hx, hv]
  rfl
theorem E_pfw {y : Int64} (h1 : look pc = some (.inl (s_putf 9 k .long n))) (hh : HH h) (hk : lf77 k = true) (kk : ∀ h' : pm_H, HH h' → fr_g [(77, k, k)] h h' → gl h' 77 k = y → Ends look call (n, lv, st, h', z) Q) : Ends look call (pc, lv, .long y :: .ref 77 :: st, h, z) Q := by
  obtain ⟨vs, x, hx, hv, hs⟩ := ob77l hh hk
  have hl := (List.getElem?_eq_some_iff.mp hv).1
  have h4 : Nat.blt k vs.length = true := Nat.ble_eq_true_of_le hl
  refine E_st h1 ?_ (kk (h.set 77 (.inr (9, vs.set k (.long y)))) (hs y) (fun b j hbj => ld_setf hx (fun hb hj => ?_)) ?_)
  · simp only [s_putf, hx, h4]
    rfl
  · subst hb; subst hj
    rw [rg_in_one (Nat.le_refl _) (Nat.le_refl _) (List.mem_singleton_self _)] at hbj
    cases hbj
  · unfold gl ld
    rw [List.getElem?_set_self (List.getElem?_eq_some_iff.mp hx).1]
    dsimp only
    rw [List.getElem?_set_self hl]
theorem sp_isB {lo hi : Int32} (B : TB T L h) (hk : k ≤ L) : Sp (d + 1) 266 h [.ref 77, .int (nJ k), .int lo, .int hi] (fun h' r => h' = h ∧ r = some (.int (zb (k < L ∧ ¬ T k < lo ∧ ¬ hi < T k)))) := by
  have h5 := B.2.2.1
  have eL : gn h 77 6 = L := gn_of B.2.1 (by omega)
  refine Sp_mono ?_ (sp_isByte (d := d) (k := k) (lo := lo) (hi := hi) B.1 (by omega))
  rintro h' r ⟨e, q⟩
  refine ⟨e, ?_⟩
  have iff : PB h k lo hi ↔ (k < L ∧ ¬ T k < lo ∧ ¬ hi < T k) := by
    unfold PB
    rw [eL]
    constructor
    · rintro ⟨a, b⟩
      rw [B.2.2.2 k a] at b
      exact ⟨a, b⟩
    · rintro ⟨a, b⟩
      rw [B.2.2.2 k a]
      exact ⟨a, b⟩
  rcases q with ⟨q, rfl⟩ | ⟨q, rfl⟩
  · rw [zb_F (fun z => q (iff.mpr z))]
  · rw [zb_T (iff.mp q)]
theorem E_isB {lo hi : Int32} (h1 : look pc = some (.inl (s_al 0 n1))) (h2 : look n1 = some (.inl (s_al 0 n2))) (h3 : look n2 = some (.inl (s_getf 9 7 n3))) (h4 : look n3 = some (.inl (s_const (.int lo) n4))) (h5 : look n4 = some (.inl (s_const (.int hi) n5))) (h6 : look n5 = some (.inr (.inl (266, 4, some 9, 0, 0)))) (L0 : pm_get lv 0 = some (.ref 77)) (B : TB T L h) (hiL : i ≤ L) (g : gi h 77 7 = nJ i) (kk : Ends look (pm_Rt pm_P (d + 1)) (n5 + 3, lv, [.int (zb (i < L ∧ ¬ T i < lo ∧ ¬ hi < T i))], h, z) Q) : Ends look (pm_Rt pm_P (d + 1)) (pc, lv, [], h, z) Q := by
  refine E_al h1 L0 ?_
  refine E_al h2 L0 ?_
  refine E_gf (q := (0, 500)) h3 B.1 rfl g ?_
  refine E_c h4 ?_
  refine E_c h5 ?_
  refine E_call h6 (sp_isB B hiL) (chk77 B.1 rfl rfl (by show 0 ≤ 8; decide)) (fun h' r q => ?_)
  rw [q.1, q.2]
  exact kk
theorem E_sinc (h1 : look pc = some (.inl (s_al 0 n1))) (h2 : look n1 = some (.inl (s_dup n2))) (h3 : look n2 = some (.inl (s_getf 9 7 n3))) (h4 : look n3 = some (.inl (s_const (.int 1) n4))) (h5 : look n4 = some (.inl (s_bin (fun x y => x + y) n5))) (h6 : look n5 = some (.inl (s_putf 9 7 .int n6))) (L0 : pm_get lv 0 = some (.ref 77)) (hh : HH h) (e : gi h 77 7 = nJ i) (kk : Ends look call (n6, lv, st, pt h 77 7 (nJ (i + 1)), z) Q) : Ends look call (pc, lv, st, h, z) Q :=
  E_al h1 L0 (E_dup h2 rfl (E_gf (q := (0, 500)) h3 hh rfl e (E_ci 1 h4 (by decide) (E_bin h5 (nJ_add i 1) (E_pf (q := (0, 500)) h6 hh rfl kk)))))
/-- the byte at the spot -/
theorem E_sbyt (h2 : look pc = some (.inl (s_al 0 n1))) (h3 : look n1 = some (.inl (s_getf 9 5 n2))) (h4 : look n2 = some (.inl (s_al 0 n3))) (h5 : look n3 = some (.inl (s_getf 9 7 n4))) (h6 : look n4 = some (.inl (s_bald n5))) (L0 : pm_get lv 0 = some (.ref 77)) (B : TB T L h) (hi : i < L) (g : gi h 77 7 = nJ i) (kk : Ends look call (n5, lv, .int (T i) :: st, h, z) Q) : Ends look call (pc, lv, st, h, z) Q := by
  have h5' := B.2.2.1
  refine E_al h2 L0 ?_
  refine E_gr (q := 82) h3 B.1 rfl ?_
  refine E_al h4 L0 ?_
  refine E_gf (q := (0, 500)) h5 B.1 rfl g ?_
  refine E_bal (a := 82) (len := 500) h6 B.1 rfl (by omega) (by decide) ?_
  rw [B.2.2.2 i hi]
  exact kk
end RTK
theorem isb_lt {b : Int32} : (¬ b < 97 ∧ ¬ 122 < b) ↔ ltb b = true := by
  constructor
  · rintro ⟨a, c⟩
    exact ltb_in a c
  · intro q
    exact ⟨fun a => absurd q (by rw [ltb_lo a]; decide), fun a => absurd q (by rw [ltb_hi a]; decide)⟩
theorem isb_dg {b : Int32} : (¬ b < 48 ∧ ¬ 57 < b) ↔ dgb b = true := by
  constructor
  · rintro ⟨a, c⟩
    exact dgb_in a c
  · intro q
    exact ⟨fun a => absurd q (by rw [dgb_lo a]; decide), fun a => absurd q (by rw [dgb_hi a]; decide)⟩
theorem isb_eq {b c : Int32} : (¬ b < c ∧ ¬ c < b) ↔ b = c := by
  rw [Int32.lt_iff_toInt_lt, Int32.lt_iff_toInt_lt]
  constructor
  · intro q
    exact Int32.toInt_inj.mp (by omega)
  · intro q
    rw [q]
    omega
/-- the token that the reference is at -/
noncomputable def RT (T : Nat → Int32) (L s : Nat) (h : pm_H) : Prop := gi h 77 9 = nJ s ∧ gi h 77 7 = nJ (tke T L s) ∧ gi h 77 8 = nJ (tkk T L s) ∧ (tkk T L s = 2 → ∃ v, v ≤ 1000009 ∧ gi h 77 10 = nJ v ∧ Vr v (tkv T L s)) ∧ (tkk T L s = 1 → (gl h 77 11).toInt = wnm T s (tke T L s - s))
theorem Vr_r1 {v c d : Nat} (h : Vr v c) (hv : 1000 ≤ v) : Vr 1000000 (min 1000 (10 * c + d)) := by
  unfold Vr at *
  omega
theorem wfo_lt {T : Nat → Int32} {s n : Nat} (h : ∀ i, i < n → ltb (T (s + i)) = true) : wfo T s n < ((27 ^ n : Nat) : Int) := by
  induction n with
  | zero => show (0 : Int) < 1; decide
  | succ n ih =>
    have a := ih (fun i hi => h i (by omega))
    have b := ltb_iff.mp (h n (by omega))
    have e : ((27 ^ (n + 1) : Nat) : Int) = ((27 ^ n : Nat) : Int) * 27 := by rw [Nat.pow_succ, Int.natCast_mul]; rfl
    rw [e]
    show 27 * wfo T s n + ((T (s + n)).toInt - 96) < _
    omega
theorem i64_lin {w : Int64} {t : Int32} (h0 : 0 ≤ w.toInt) (h1 : w.toInt ≤ 10000000000000000) : ((27 * w + t.toInt64) - 96).toInt = 27 * w.toInt + (t.toInt - 96) := by
  have a := ai_lo t
  have b := ai_hi t
  have c27 : (27 : Int64).toInt = 27 := rfl
  have c96 : (96 : Int64).toInt = 96 := rfl
  have e1 : (27 * w).toInt = 27 * w.toInt := by
    rw [Int64.toInt_mul, c27]
    exact Int.bmod_eq_of_le (by omega) (by omega)
  have e2 : (27 * w + t.toInt64).toInt = 27 * w.toInt + t.toInt := by
    rw [Int64.toInt_add, e1, i2l_toInt]
    exact Int.bmod_eq_of_le (by omega) (by omega)
  rw [Int64.toInt_sub, e2, c96, Int.bmod_eq_of_le (by omega) (by omega)]
  omega
section RTL
variable {T : Nat → Int32} {L d : Nat}
theorem fw_let {s : Nat} (j : Nat) : ∀ {h : pm_H} {i n : Nat} (lv : List (Nat × Value)), i + j = L → s + n = i → TB T L h → gi h 77 7 = nJ i → (gl h 77 11).toInt = wnm T s n → (∀ m, m < n → ltb (T (s + m)) = true) → pm_get lv 0 = some (.ref 77) → pm_get lv 1 = some (.int (nJ n)) → Ends (pm_at tX9_follows) (pm_Rt pm_P (d + 1)) (102, lv, [], h, 0, 0) (fun h' r => r = none ∧ HH h' ∧ fr_g [(77, 7, 7), (77, 11, 11)] h h' ∧ gi h' 77 7 = nJ (up (fun j => ltb (T j)) L i) ∧ (gl h' 77 11).toInt = wnm T s (up (fun j => ltb (T j)) L i - s)) := by
  induction j with
  | zero =>
    intro h i n lv hj hn B g gw ha L0 L1
    have h5 := B.2.2.1
    refine E_isB rfl rfl rfl rfl rfl rfl L0 B (by omega) g ?_
    refine E_ifT rfl (by rw [zb_F (fun q => absurd q.1 (by omega))]; rfl) ?_
    refine E_goto rfl ?_
    rw [up_no (L := L) (i := i) (fun q => absurd q.1 (by omega)), show i - s = n by omega]
    exact E_ret rfl ⟨rfl, B.1, fr_rf _ _, g, gw⟩
  | succ j ih =>
    intro h i n lv hj hn B g gw ha L0 L1
    have h5 := B.2.2.1
    refine E_isB rfl rfl rfl rfl rfl rfl L0 B (by omega) g ?_
    by_cases b : ltb (T i) = true
    · refine E_ifF rfl (by rw [zb_T ⟨by omega, isb_lt.mpr b⟩]; rfl) ?_
      rw [up_go (p := fun j => ltb (T j)) (by omega) b]
      have e11 : (11 : Int32) = nJ 11 := by decide
      have ha' : ∀ m, m < n + 1 → ltb (T (s + m)) = true := fun m hm => by
        by_cases q : m = n
        · rw [q, hn]; exact b
        · exact ha m (by omega)
      have rest : ∀ {h1 : pm_H}, HH h1 → fr_g [(77, 11, 11)] h h1 → (gl h1 77 11).toInt = wnm T s (n + 1) → Ends (pm_at tX9_follows) (pm_Rt pm_P (d + 1)) (169, lv, [], h1, 0, 0) (fun h' r => r = none ∧ HH h' ∧ fr_g [(77, 7, 7), (77, 11, 11)] h h' ∧ gi h' 77 7 = nJ (up (fun j => ltb (T j)) L (i + 1)) ∧ (gl h' 77 11).toInt = wnm T s (up (fun j => ltb (T j)) L (i + 1) - s)) := by
        intro h1 hh1 f1 gw1
        have B1 := TB_fr f1 rfl rfl hh1 B
        have g1 : gi h1 77 7 = nJ i := by rw [fr_gi f1 rfl]; exact g
        refine E_sinc rfl rfl rfl rfl rfl rfl L0 hh1 g1 ?_
        have hh2 : HH (pt h1 77 7 (nJ (i + 1))) := HH_ptn hh1 rfl (by omega) (by omega) (by omega)
        refine E_inc rfl L1 (nJ_inc _) (fun lv1 K1 kp => ?_)
        refine E_goto rfl ?_
        have eg : gl (pt h1 77 7 (nJ (i + 1))) 77 11 = gl h1 77 11 := by unfold gl; rw [ld_pt (by omega)]
        refine Ends_mono ?_ (ih lv1 (i := i + 1) (n := n + 1) (by omega) (by omega) (TB_pt B1 (by omega) hh2) (gi_ptn hh1 rfl (by omega) (by omega) (by omega)) (by rw [eg]; exact gw1) ha' (kp 0 _ (by decide) rfl L0) K1)
        rintro h' r ⟨q1, q2, q3, q4⟩
        exact ⟨q1, q2, fr_trans (fr_ptr (l := 7) (u := 7) rfl (by omega) (by omega) (fr_wk rfl f1)) q3, q4⟩
      refine E_al rfl L0 ?_
      refine E_il rfl L1 ?_
      refine E_ci 11 rfl (by decide) ?_
      by_cases b2 : n ≤ 11
      · refine E_icT rfl (decide_eq_true ((nJ_le (by omega) (by omega)).mpr b2)) ?_
        refine E_c rfl ?_
        refine E_al rfl L0 ?_
        refine E_gfw rfl B.1 rfl ?_
        refine E_lbin rfl ?_
        refine E_sbyt rfl rfl rfl rfl rfl L0 B (by omega) g ?_
        refine E_i2l rfl ?_
        refine E_lbin rfl ?_
        refine E_c rfl ?_
        refine E_lbin rfl ?_
        refine E_pfw rfl B.1 rfl (fun h1 hh1 f1 e1 => ?_)
        have w0 := wfo_ge ha
        have w1 := wfo_lt ha
        have w2 : 27 ^ n ≤ 27 ^ 11 := Nat.pow_le_pow_right (by decide) b2
        have w3 : (27 : Nat) ^ 11 = 5559060566555523 := by decide
        have ew : wnm T s n = wfo T s n := if_pos (by omega)
        have ew1 : wnm T s (n + 1) = wfo T s (n + 1) := if_pos (by omega)
        rw [ew] at gw
        refine E_il rfl L1 ?_
        refine E_ci 11 rfl (by decide) ?_
        refine E_icT rfl (decide_eq_true ((nJ_le (by omega) (by omega)).mpr b2)) ?_
        refine rest hh1 f1 ?_
        rw [e1, ew1]
        have := i64_lin (w := gl h 77 11) (t := T i) (by omega) (by omega)
        rw [gw] at this
        show _ = 27 * wfo T s n + ((T (s + n)).toInt - 96)
        rw [hn]
        exact this
      · refine E_icF rfl (decide_eq_false (fun q => b2 ((nJ_le (by omega) (by omega)).mp q))) ?_
        refine E_c rfl ?_
        refine E_goto rfl ?_
        refine E_pfw rfl B.1 rfl (fun h1 hh1 f1 e1 => ?_)
        refine E_il rfl L1 ?_
        refine E_ci 11 rfl (by decide) ?_
        refine E_icF rfl (decide_eq_false (fun q => b2 ((nJ_le (by omega) (by omega)).mp q))) ?_
        refine E_al rfl L0 ?_
        refine E_c rfl ?_
        refine E_pfw rfl hh1 rfl (fun h2 hh2 f2 e2 => ?_)
        refine rest hh2 (fr_trans f1 f2) ?_
        rw [e2, show wnm T s (n + 1) = -1 from if_neg (by omega)]
        rfl
    · refine E_ifT rfl (by rw [zb_F (fun q => b (isb_lt.mp q.2))]; rfl) ?_
      refine E_goto rfl ?_
      rw [up_no (L := L) (i := i) (fun q => b q.2), show i - s = n by omega]
      exact E_ret rfl ⟨rfl, B.1, fr_rf _ _, g, gw⟩
theorem fw_num {s : Nat} (j : Nat) : ∀ {h : pm_H} {i n v : Nat} (lv : List (Nat × Value)), i + j = L → s + n = i → TB T L h → gi h 77 7 = nJ i → gi h 77 10 = nJ v → v ≤ 1000009 → Vr v (vfo T s n) → pm_get lv 0 = some (.ref 77) → Ends (pm_at tX9_follows) (pm_Rt pm_P (d + 1)) (208, lv, [], h, 0, 0) (fun h' r => r = none ∧ HH h' ∧ fr_g [(77, 7, 7), (77, 10, 10)] h h' ∧ gi h' 77 7 = nJ (up (fun j => dgb (T j)) L i) ∧ ∃ v, v ≤ 1000009 ∧ gi h' 77 10 = nJ v ∧ Vr v (vfo T s (up (fun j => dgb (T j)) L i - s))) := by
  induction j with
  | zero =>
    intro h i n v lv hj hn B g gv hv hV L0
    have h5 := B.2.2.1
    refine E_isB rfl rfl rfl rfl rfl rfl L0 B (by omega) g ?_
    refine E_ifT rfl (by rw [zb_F (fun q => absurd q.1 (by omega))]; rfl) ?_
    rw [up_no (L := L) (i := i) (fun q => absurd q.1 (by omega)), show i - s = n by omega]
    exact E_ret rfl ⟨rfl, B.1, fr_rf _ _, g, v, hv, gv, hV⟩
  | succ j ih =>
    intro h i n v lv hj hn B g gv hv hV L0
    have h5 := B.2.2.1
    refine E_isB rfl rfl rfl rfl rfl rfl L0 B (by omega) g ?_
    by_cases b : dgb (T i) = true
    · have hd := dgb_iff.mp b
      refine E_ifF rfl (by rw [zb_T ⟨by omega, isb_dg.mpr b⟩]; rfl) ?_
      rw [up_go (p := fun j => dgb (T j)) (by omega) b]
      have vs : vfo T s (n + 1) = min 1000 (10 * vfo T s n + ((T i).toInt.toNat - 48)) := by rw [← hn]; rfl
      have eT : T i = nJ (T i).toInt.toNat := nJ_of (by omega)
      have rest : ∀ {v' : Nat}, v' ≤ 1000009 → Vr v' (vfo T s (n + 1)) → Ends (pm_at tX9_follows) (pm_Rt pm_P (d + 1)) (258, lv, [.int (nJ v'), .ref 77], h, 0, 0) (fun h' r => r = none ∧ HH h' ∧ fr_g [(77, 7, 7), (77, 10, 10)] h h' ∧ gi h' 77 7 = nJ (up (fun j => dgb (T j)) L (i + 1)) ∧ ∃ v, v ≤ 1000009 ∧ gi h' 77 10 = nJ v ∧ Vr v (vfo T s (up (fun j => dgb (T j)) L (i + 1) - s))) := by
        intro v' hv' hV'
        refine E_pf rfl B.1 rfl ?_
        have hh1 : HH (pt h 77 10 (nJ v')) := HH_ptn B.1 rfl (by omega) (by omega) (by omega)
        have B1 := TB_pt B (by omega) hh1
        have g1 : gi (pt h 77 10 (nJ v')) 77 7 = nJ i := by rw [gi_ne (by omega)]; exact g
        refine E_sinc rfl rfl rfl rfl rfl rfl L0 hh1 g1 ?_
        have hh2 : HH (pt (pt h 77 10 (nJ v')) 77 7 (nJ (i + 1))) := HH_ptn hh1 rfl (by omega) (by omega) (by omega)
        refine E_goto rfl ?_
        refine Ends_mono ?_ (ih lv (i := i + 1) (n := n + 1) (v := v') (by omega) (by omega) (TB_pt B1 (by omega) hh2) (gi_ptn hh1 rfl (by omega) (by omega) (by omega)) (by rw [gi_ne (by omega)]; exact gi_ptn B.1 rfl (by omega) (by omega) (by omega)) hv' hV' L0)
        rintro h' r ⟨q1, q2, q3, q4⟩
        exact ⟨q1, q2, fr_trans (fr_ptr (l := 7) (u := 7) rfl (by omega) (by omega) (fr_ptr (l := 10) (u := 10) rfl (by omega) (by omega) (fr_rf _ _))) q3, q4⟩
      refine E_al rfl L0 ?_
      refine E_al rfl L0 ?_
      refine E_gf rfl B.1 rfl gv ?_
      refine E_ci 100000 rfl (by decide) ?_
      by_cases b2 : v ≤ 100000
      · refine E_icT rfl (decide_eq_true ((nJ_le (by omega) (by omega)).mpr b2)) ?_
        refine E_ci 10 rfl (by decide) ?_
        refine E_al rfl L0 ?_
        refine E_gf rfl B.1 rfl gv ?_
        refine E_bin rfl (nJ_mul _ _) ?_
        refine E_sbyt rfl rfl rfl rfl rfl L0 B (by omega) g ?_
        refine E_bin (v := nJ (10 * v + (T i).toInt.toNat)) rfl (by rw [← nJ_add, ← eT]) ?_
        refine E_ci 48 rfl (by decide) ?_
        refine E_bin rfl (nJ_sub (by omega)) ?_
        have ev : 10 * v + (T i).toInt.toNat - 48 = 10 * v + ((T i).toInt.toNat - 48) := by omega
        rw [ev]
        exact rest (by omega) (by rw [vs]; exact Vr_c3 hV)
      · refine E_icF rfl (decide_eq_false (fun q => b2 ((nJ_le (by omega) (by omega)).mp q))) ?_
        refine E_ci 1000000 rfl (by decide) ?_
        refine E_goto rfl ?_
        exact rest (by omega) (by rw [vs]; exact Vr_r1 hV (by omega))
    · refine E_ifT rfl (by rw [zb_F (fun q => b (isb_dg.mp q.2))]; rfl) ?_
      rw [up_no (L := L) (i := i) (fun q => b q.2), show i - s = n by omega]
      exact E_ret rfl ⟨rfl, B.1, fr_rf _ _, g, v, hv, gv, hV⟩
theorem fw_tail {h : pm_H} {i : Nat} (lv : List (Nat × Value)) (B : TB T L h) (hi : i ≤ L) (g : gi h 77 7 = nJ i) (L0 : pm_get lv 0 = some (.ref 77)) : Ends (pm_at tX9_follows) (pm_Rt pm_P (d + 1)) (43, lv, [], h, 0, 0) (fun h' r => r = none ∧ HH h' ∧ fr_g FM h h' ∧ RT T L i h') := by
  have h5 := B.2.2.1
  refine E_al rfl L0 ?_
  refine E_al rfl L0 ?_
  refine E_gf (q := (0, 500)) rfl B.1 rfl g ?_
  refine E_pf (q := (0, 500)) rfl B.1 rfl ?_
  have hha : HH (pt h 77 9 (nJ i)) := HH_ptn B.1 rfl (by omega) (by omega) (by omega)
  have Ba := TB_pt B (by omega) hha
  have g9a : gi (pt h 77 9 (nJ i)) 77 9 = nJ i := gi_ptn B.1 rfl (by omega) (by omega) (by omega)
  have g7a : gi (pt h 77 9 (nJ i)) 77 7 = nJ i := by rw [gi_ne (by omega)]; exact g
  have fa : fr_g FM h (pt h 77 9 (nJ i)) := fr_ptr (l := 7) (u := 11) rfl (by omega) (by omega) (fr_rf _ _)
  generalize pt h 77 9 (nJ i) = ha at hha Ba g9a g7a fa ⊢
  refine E_al rfl L0 ?_
  refine E_ci 0 rfl (by decide) ?_
  refine E_pf rfl hha rfl ?_
  have hhb : HH (pt ha 77 10 (nJ 0)) := HH_ptn hha rfl (by omega) (by omega) (by omega)
  have Bb := TB_pt Ba (by omega) hhb
  have gvb : gi (pt ha 77 10 (nJ 0)) 77 10 = nJ 0 := gi_ptn hha rfl (by omega) (by omega) (by omega)
  have g9b : gi (pt ha 77 10 (nJ 0)) 77 9 = nJ i := by rw [gi_ne (by omega)]; exact g9a
  have g7b : gi (pt ha 77 10 (nJ 0)) 77 7 = nJ i := by rw [gi_ne (by omega)]; exact g7a
  have fb : fr_g FM h (pt ha 77 10 (nJ 0)) := fr_ptr (l := 7) (u := 11) rfl (by omega) (by omega) fa
  generalize pt ha 77 10 (nJ 0) = hb at hhb Bb gvb g9b g7b fb ⊢
  refine E_al rfl L0 ?_
  refine E_c rfl ?_
  refine E_pfw rfl hhb rfl (fun h1 hh1 f1 ew => ?_)
  have B1 := TB_fr f1 rfl rfl hh1 Bb
  have gv : gi h1 77 10 = nJ 0 := by rw [fr_gi f1 rfl]; exact gvb
  have g9 : gi h1 77 9 = nJ i := by rw [fr_gi f1 rfl]; exact g9b
  have g7 : gi h1 77 7 = nJ i := by rw [fr_gi f1 rfl]; exact g7b
  have fh : fr_g FM h h1 := fr_trans fb (fr_wk rfl f1)
  have gw : (gl h1 77 11).toInt = 0 := by rw [ew]; rfl
  refine E_al rfl L0 ?_
  refine E_gf (q := (0, 500)) rfl hh1 rfl g7 ?_
  refine E_al rfl L0 ?_
  refine E_gf (q := (0, 500)) rfl hh1 rfl B1.2.1 ?_
  have setk : ∀ k, k ≤ 4 → HH (pt h1 77 8 (nJ k)) ∧ TB T L (pt h1 77 8 (nJ k)) ∧ gi (pt h1 77 8 (nJ k)) 77 8 = nJ k ∧ gi (pt h1 77 8 (nJ k)) 77 9 = nJ i ∧ gi (pt h1 77 8 (nJ k)) 77 7 = nJ i ∧ fr_g FM h (pt h1 77 8 (nJ k)) := by
    intro k hk
    have a : HH (pt h1 77 8 (nJ k)) := HH_ptn hh1 rfl (by omega) (by omega) (by omega)
    exact ⟨a, TB_pt B1 (by omega) a, gi_ptn hh1 rfl (by omega) (by omega) (by omega), by rw [gi_ne (by omega)]; exact g9, by rw [gi_ne (by omega)]; exact g7, fr_ptr (l := 7) (u := 11) rfl (by omega) (by omega) fh⟩
  by_cases b0 : i < L
  · refine E_icT rfl (decide_eq_true (fun q => absurd ((nJ_eq (by omega) (by omega)).mp q) (by omega))) ?_
    refine E_isB rfl rfl rfl rfl rfl rfl L0 B1 hi g7 ?_
    by_cases b1 : ltb (T i) = true
    · refine E_ifF rfl (by rw [zb_T ⟨b0, isb_lt.mpr b1⟩]; rfl) ?_
      refine E_al rfl L0 ?_
      refine E_ci 1 rfl (by decide) ?_
      refine E_pf (q := (0, 4)) rfl hh1 rfl ?_
      obtain ⟨a1, a2, a3, a4, a5, a6⟩ := setk 1 (by omega)
      have aw : (gl (pt h1 77 8 (nJ 1)) 77 11).toInt = wnm T i 0 := by
        have e : gl (pt h1 77 8 (nJ 1)) 77 11 = gl h1 77 11 := by unfold gl; rw [ld_pt (by omega)]
        rw [e, gw]
        rfl
      generalize pt h1 77 8 (nJ 1) = h2 at a1 a2 a3 a4 a5 a6 aw ⊢
      refine E_ci 0 rfl (by decide) ?_
      refine E_is rfl (fun lv1 K1 kp => ?_)
      refine Ends_mono ?_ (fw_let (d := d) (s := i) (L - i) lv1 (i := i) (n := 0) (by omega) (by omega) a2 a5 aw (fun m hm => absurd hm (Nat.not_lt_zero m)) (kp 0 _ (by decide) rfl L0) K1)
      rintro h' r ⟨q1, q2, q3, q4, q5⟩
      have k := tk_1 (T := T) b0 b1
      refine ⟨q1, q2, fr_trans a6 (fr_wk rfl q3), ?_, ?_, ?_, fun q => absurd q (by rw [k.1]; omega), fun _ => ?_⟩
      · rw [fr_gi q3 rfl]; exact a4
      · rw [q4, k.2]
      · rw [fr_gi q3 rfl, k.1]; exact a3
      · rw [k.2]; exact q5
    · have b1' : ltb (T i) = false := by cases hq : ltb (T i) with | false => rfl | true => exact absurd hq b1
      refine E_ifT rfl (by rw [zb_F (fun q => b1 (isb_lt.mp q.2))]; rfl) ?_
      refine E_isB rfl rfl rfl rfl rfl rfl L0 B1 hi g7 ?_
      by_cases b2 : dgb (T i) = true
      · refine E_ifF rfl (by rw [zb_T ⟨b0, isb_dg.mpr b2⟩]; rfl) ?_
        refine E_al rfl L0 ?_
        refine E_ci 2 rfl (by decide) ?_
        refine E_pf (q := (0, 4)) rfl hh1 rfl ?_
        obtain ⟨a1, a2, a3, a4, a5, a6⟩ := setk 2 (by omega)
        have av : gi (pt h1 77 8 (nJ 2)) 77 10 = nJ 0 := by rw [gi_ne (by omega)]; exact gv
        generalize pt h1 77 8 (nJ 2) = h2 at a1 a2 a3 a4 a5 a6 av ⊢
        refine Ends_mono ?_ (fw_num (d := d) (s := i) (L - i) lv (i := i) (n := 0) (v := 0) (by omega) (by omega) a2 a5 av (by omega) (.inl ⟨rfl, by show (0 : Nat) < 1000; omega⟩) L0)
        rintro h' r ⟨q1, q2, q3, q4, q5⟩
        have k := tk_2 (T := T) b0 b1' b2
        refine ⟨q1, q2, fr_trans a6 (fr_wk rfl q3), ?_, ?_, ?_, fun _ => ?_, fun q => absurd q (by rw [k.1]; omega)⟩
        · rw [fr_gi q3 rfl]; exact a4
        · rw [q4, k.2]
        · rw [fr_gi q3 rfl, k.1]; exact a3
        · unfold tkv
          rw [k.2]
          exact q5
      · have b2' : dgb (T i) = false := by cases hq : dgb (T i) with | false => rfl | true => exact absurd hq b2
        refine E_ifT rfl (by rw [zb_F (fun q => b2 (isb_dg.mp q.2))]; rfl) ?_
        refine E_al rfl L0 ?_
        refine E_sbyt rfl rfl rfl rfl rfl L0 B1 b0 g7 ?_
        refine E_ci 59 rfl (by decide) ?_
        have fin : ∀ k, k ≤ 4 → tkk T L i = k → tke T L i = i + 1 → k ≠ 2 → k ≠ 1 → Ends (pm_at tX9_follows) (pm_Rt pm_P (d + 1)) (294, lv, [.int (nJ k), .ref 77], h1, 0, 0) (fun h' r => r = none ∧ HH h' ∧ fr_g FM h h' ∧ RT T L i h') := by
          intro k hk k1 k2 k3 k4
          refine E_pf (q := (0, 4)) rfl hh1 rfl ?_
          obtain ⟨a1, a2, a3, a4, a5, a6⟩ := setk k hk
          generalize pt h1 77 8 (nJ k) = h2 at a1 a2 a3 a4 a5 a6 ⊢
          refine E_sinc rfl rfl rfl rfl rfl rfl L0 a1 a5 ?_
          have hh3 : HH (pt h2 77 7 (nJ (i + 1))) := HH_ptn a1 rfl (by omega) (by omega) (by omega)
          refine E_ret rfl ⟨rfl, hh3, fr_ptr (l := 7) (u := 11) rfl (by omega) (by omega) a6, ?_, ?_, ?_, fun q => absurd q (by omega), fun q => absurd q (by omega)⟩
          · rw [gi_ne (by omega)]; exact a4
          · rw [k2]; exact gi_ptn a1 rfl (by omega) (by omega) (by omega)
          · rw [k1, gi_ne (by omega)]; exact a3
        have e59 : (59 : Int32) = nJ 59 := by decide
        by_cases b3 : T i = 59
        · refine E_icF rfl (decide_eq_false (fun q => q (b3.trans e59))) ?_
          refine E_ci 3 rfl (by decide) ?_
          refine E_goto rfl ?_
          exact fin 3 (by omega) (tk_3 b0 b1' b2' b3).1 (tk_3 b0 b1' b2' b3).2 (by omega) (by omega)
        · refine E_icT rfl (decide_eq_true (fun q => b3 (q.trans e59.symm))) ?_
          refine E_ci 4 rfl (by decide) ?_
          exact fin 4 (by omega) (tk_4 b0 b1' b2' b3).1 (tk_4 b0 b1' b2' b3).2 (by omega) (by omega)
  · have eL : i = L := by omega
    refine E_icF rfl (decide_eq_false (fun q => q (by rw [eL]))) ?_
    refine E_al rfl L0 ?_
    refine E_ci 0 rfl (by decide) ?_
    refine E_pf (q := (0, 4)) rfl hh1 rfl ?_
    obtain ⟨a1, a2, a3, a4, a5, a6⟩ := setk 0 (by omega)
    generalize pt h1 77 8 (nJ 0) = h2 at a1 a2 a3 a4 a5 a6 ⊢
    refine E_goto rfl ?_
    have k := tk_0 (T := T) b0
    refine E_ret rfl ⟨rfl, a1, a6, a4, ?_, ?_, fun q => absurd q (by rw [k.1]; omega), fun q => absurd q (by rw [k.1]; omega)⟩
    · rw [k.2]; exact a5
    · rw [k.1]; exact a3
theorem fw_loop (j : Nat) : ∀ {h : pm_H} {i : Nat} (lv : List (Nat × Value)), i + j = L → TB T L h → gi h 77 7 = nJ i → pm_get lv 0 = some (.ref 77) → Ends (pm_at tX9_follows) (pm_Rt pm_P (d + 1)) (0, lv, [], h, 0, 0) (fun h' r => r = none ∧ HH h' ∧ fr_g FM h h' ∧ RT T L (skp T L i) h') := by
  induction j with
  | zero =>
    intro h i lv hj B g L0
    have h5 := B.2.2.1
    unfold skp
    rw [up_no (L := L) (i := i) (fun q => absurd q.1 (by omega))]
    refine E_isB rfl rfl rfl rfl rfl rfl L0 B (by omega) g ?_
    refine E_ifF rfl (by rw [zb_F (fun q => absurd q.1 (by omega))]; rfl) ?_
    refine E_isB rfl rfl rfl rfl rfl rfl L0 B (by omega) g ?_
    refine E_ifT rfl (by rw [zb_F (fun q => absurd q.1 (by omega))]; rfl) ?_
    exact fw_tail lv B (by omega) g L0
  | succ j ih =>
    intro h i lv hj B g L0
    have h5 := B.2.2.1
    have go : spb (T i) = true → Ends (pm_at tX9_follows) (pm_Rt pm_P (d + 1)) (30, lv, [], h, 0, 0) (fun h' r => r = none ∧ HH h' ∧ fr_g FM h h' ∧ RT T L (skp T L i) h') := by
      intro b
      refine E_sinc rfl rfl rfl rfl rfl rfl L0 B.1 g ?_
      refine E_goto rfl ?_
      have hh1 : HH (pt h 77 7 (nJ (i + 1))) := HH_ptn B.1 rfl (by omega) (by omega) (by omega)
      refine Ends_mono ?_ (ih lv (i := i + 1) (by omega) (TB_pt B (by omega) hh1) (gi_ptn B.1 rfl (by omega) (by omega) (by omega)) L0)
      rintro h' r ⟨q1, q2, q3, q4⟩
      refine ⟨q1, q2, fr_trans (fr_ptr (l := 7) (u := 11) rfl (by omega) (by omega) (fr_rf _ _)) q3, ?_⟩
      unfold skp
      rw [up_go (p := fun j => spb (T j)) (by omega) b]
      exact q4
    refine E_isB rfl rfl rfl rfl rfl rfl L0 B (by omega) g ?_
    by_cases b1 : T i = 32
    · refine E_ifT rfl (by rw [zb_T ⟨by omega, isb_eq.mpr b1⟩]; rfl) ?_
      exact go (by unfold spb; rw [decide_eq_true b1]; rfl)
    refine E_ifF rfl (by rw [zb_F (fun q => b1 (isb_eq.mp q.2))]; rfl) ?_
    refine E_isB rfl rfl rfl rfl rfl rfl L0 B (by omega) g ?_
    by_cases b2 : T i = 10
    · refine E_ifF rfl (by rw [zb_T ⟨by omega, isb_eq.mpr b2⟩]; rfl) ?_
      exact go (by unfold spb; rw [decide_eq_true b2]; exact Bool.or_true _)
    refine E_ifT rfl (by rw [zb_F (fun q => b2 (isb_eq.mp q.2))]; rfl) ?_
    have e : skp T L i = i := by
      unfold skp
      exact up_no (fun q => by
        have q2 : spb (T i) = true := q.2
        unfold spb at q2
        rw [decide_eq_false b1, decide_eq_false b2] at q2
        cases q2)
    rw [e]
    exact fw_tail lv B (by omega) g L0
theorem sp_fw {h : pm_H} {i : Nat} (B : TB T L h) (hi : i ≤ L) (g : gi h 77 7 = nJ i) : Sp (d + 2) 251 h [.ref 77] (fun h' r => r = none ∧ HH h' ∧ fr_g FM h h' ∧ RT T L (skp T L i) h') := by
  refine Sp_of aiX9_follows rfl rfl rfl ?_
  have L0 : pm_get (lv_args 0 [.ref 77]) 0 = some (.ref 77) := rfl
  generalize lv_args 0 [.ref 77] = lv at L0 ⊢
  exact fw_loop (d := d) (L - i) lv (i := i) (by omega) B g L0
end RTL
