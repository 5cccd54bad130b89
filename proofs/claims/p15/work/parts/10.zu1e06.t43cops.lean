/-! what a reader does at a token, purely; the class's ways (wants t40, t41) -/
noncomputable abbrev Px : Type := (Nat × Nat) ⊕ Nat
noncomputable def isR : Px → Bool
  | .inl _ => false
  | .inr _ => true
section OPS
variable (T : Nat → Int32) (L : Nat)
noncomputable def bW (W : List Int32) : Px → Px
  | .inl f => .inl f
  | .inr s => bif wIs T L s W then .inr (nxt T L s) else .inl (1, s)
noncomputable def okN (lo hi s : Nat) : Bool := Nat.beq (tkk T L s) 2 && (Nat.ble lo (tkv T L s) && Nat.ble (tkv T L s) hi)
noncomputable def bN (lo hi : Nat) : Px → Px
  | .inl f => .inl f
  | .inr s => bif okN T L lo hi s then .inr (nxt T L s) else .inl (bif Nat.beq (tkk T L s) 2 then 2 else 1, s)
noncomputable def bV (lo hi : Nat) : Px → Nat
  | .inl _ => lo
  | .inr s => bif okN T L lo hi s then tkv T L s else lo
noncomputable def bS : Px → Px
  | .inl f => .inl f
  | .inr s => bif Nat.beq (tkk T L s) 3 then .inr (nxt T L s) else .inl (1, s)
noncomputable def bF (k : Nat) : Px → Px
  | .inl f => .inl f
  | .inr s => .inl (k, s)
/-- where the class's reader is -/
noncomputable def CS : Px → pm_H → Prop
  | .inl (k, p) => fun h => TA T L h ∧ gi h 3 1 = nJ k ∧ gi h 3 2 = nJ p ∧ 1 ≤ k ∧ k ≤ 3 ∧ p ≤ L
  | .inr s => fun h => TA T L h ∧ CT T L s h ∧ gi h 3 1 = nJ 0 ∧ gi h 3 2 = -1 ∧ s ≤ L
end OPS
theorem isR_r {s : Nat} : zb (isR (.inr s) = true) = nJ 1 := zb_T rfl
theorem isR_l {f : Nat × Nat} : zb (isR (.inl f) = true) = nJ 0 := zb_no rfl
theorem nbeq {a b : Nat} : Nat.beq a b = true ↔ a = b := ⟨Nat.eq_of_beq_eq_true, fun e => by rw [e]; exact Nat.beq_refl _⟩
theorem nbeqF {a b : Nat} (h : a ≠ b) : Nat.beq a b = false := by
  cases hq : Nat.beq a b with
  | false => rfl
  | true => exact absurd (Nat.eq_of_beq_eq_true hq) h
theorem nble {a b : Nat} : Nat.ble a b = true ↔ a ≤ b := ⟨Nat.le_of_ble_eq_true, Nat.ble_eq_true_of_le⟩
section OPL
variable {T : Nat → Int32} {L s lo hi k : Nat} {W : List Int32}
theorem bW_T (h : wIs T L s W = true) : bW T L W (.inr s) = .inr (nxt T L s) := by unfold bW; dsimp only; rw [h]; rfl
theorem bW_F (h : wIs T L s W = false) : bW T L W (.inr s) = .inl (1, s) := by unfold bW; dsimp only; rw [h]; rfl
theorem okN_iff : okN T L lo hi s = true ↔ tkk T L s = 2 ∧ lo ≤ tkv T L s ∧ tkv T L s ≤ hi := by
  unfold okN
  rw [Bool.and_eq_true, Bool.and_eq_true, nbeq, nble, nble]
theorem okN_F (h : ¬ (tkk T L s = 2 ∧ lo ≤ tkv T L s ∧ tkv T L s ≤ hi)) : okN T L lo hi s = false := by
  cases hq : okN T L lo hi s with
  | false => rfl
  | true => exact absurd (okN_iff.mp hq) h
theorem bN_T (h : okN T L lo hi s = true) : bN T L lo hi (.inr s) = .inr (nxt T L s) ∧ bV T L lo hi (.inr s) = tkv T L s := by unfold bN bV; dsimp only; rw [h]; exact ⟨rfl, rfl⟩
theorem bN_1 (h : ¬ tkk T L s = 2) : bN T L lo hi (.inr s) = .inl (1, s) ∧ bV T L lo hi (.inr s) = lo := by
  have e := okN_F (T := T) (L := L) (s := s) (lo := lo) (hi := hi) (fun q => h q.1)
  unfold bN bV
  dsimp only
  rw [e, nbeqF h]
  exact ⟨rfl, rfl⟩
theorem bN_2 (h : tkk T L s = 2) (h2 : ¬ (lo ≤ tkv T L s ∧ tkv T L s ≤ hi)) : bN T L lo hi (.inr s) = .inl (2, s) ∧ bV T L lo hi (.inr s) = lo := by
  have e := okN_F (T := T) (L := L) (s := s) (lo := lo) (hi := hi) (fun q => h2 q.2)
  unfold bN bV
  dsimp only
  rw [e, nbeq.mpr h]
  exact ⟨rfl, rfl⟩
theorem bS_T (h : tkk T L s = 3) : bS T L (.inr s) = .inr (nxt T L s) := by unfold bS; dsimp only; rw [nbeq.mpr h]; rfl
theorem bS_F (h : ¬ tkk T L s = 3) : bS T L (.inr s) = .inl (1, s) := by unfold bS; dsimp only; rw [nbeqF h]; rfl
end OPL
/-! Strings -/
section STR
variable {look : Nat → Option pm_I} {call : pm_Call} {Q : pm_H → Option Value → Prop} {pc n i k : Nat} {lv : List (Nat × Value)} {st : List Value} {w : pm_H × Nat × Nat} {h : pm_H} {z : Nat × Nat}
theorem E_alS {x : Nat} (h1 : look pc = some (.inl (s_al i n))) (e : pm_get lv i = some (.retAddr x)) (kk : Ends look call (n, lv, .retAddr x :: st, w) Q) : Ends look call (pc, lv, st, w) Q := E_st h1 (by simp only [s_al, e]) kk
theorem str_b (hk : k < 8) : (Nat.ble 4 (4 + k) && Nat.blt (4 + k) 12) = true := by
  rw [Nat.ble_eq_true_of_le (by omega), show Nat.blt (4 + k) 12 = true from Nat.ble_eq_true_of_le (by omega)]
  rfl
theorem str_c (hk : k < 8) : (Nat.ble 12 (12 + k) && Nat.blt (12 + k) 20) = true := by
  rw [Nat.ble_eq_true_of_le (by omega), show Nat.blt (12 + k) 20 = true from Nat.ble_eq_true_of_le (by omega)]
  rfl
theorem E_sval (h1 : look pc = some (.inl (s_sval n))) (hk : k < 8) (kk : Ends look call (n, lv, .retAddr (12 + k) :: st, w) Q) : Ends look call (pc, lv, .retAddr (4 + k) :: st, w) Q := by
  have e : 4 + k + 8 = 12 + k := by omega
  refine E_st h1 ?_ kk
  simp only [s_sval, str_b hk, cond_true, e]
theorem E_scod (h1 : look pc = some (.inl (s_scod n))) (hk : k < 8) (kk : Ends look call (n, lv, .int 0 :: st, w) Q) : Ends look call (pc, lv, .retAddr (4 + k) :: st, w) Q := by
  refine E_st h1 ?_ kk
  simp only [s_scod, str_b hk, cond_true]
theorem E_sblen (h1 : look pc = some (.inl (s_sblen n))) (hk : k < 8) (kk : Ends look call (n, lv, .int (Int32.ofNat (pm_len.getD k 0)) :: st, w) Q) : Ends look call (pc, lv, .retAddr (12 + k) :: st, w) Q := by
  have e : 12 + k - 12 = k := by omega
  refine E_st h1 ?_ kk
  simp only [s_sblen, str_c hk, cond_true, e]
theorem E_sbald {j : Nat} (h1 : look pc = some (.inl (s_sbald n))) (hk : k < 8) (hj : j < pm_len.getD k 0) (hj2 : j < 100) (kk : Ends look call (n, lv, .int ((pm_byt.getD k []).getD j 0) :: st, w) Q) : Ends look call (pc, lv, .int (nJ j) :: .retAddr (12 + k) :: st, w) Q := by
  have e : 12 + k - 12 = k := by omega
  have h2 := nJ_toInt (n := j) (by omega)
  have h3 : pm_ix (nJ j) (pm_len.getD k 0) = true := ai_ix (by omega) (by omega)
  have h4 : (nJ j).toNatClampNeg = j := by show (nJ j).toInt.toNat = j; omega
  refine E_st h1 ?_ kk
  simp only [s_sbald, str_c hk, e, h3, h4, Bool.and_self, cond_true]
theorem chkT {as : List Value} {k i : Nat} (hi : i < 8) (hl : Nat.ble k st.length = true) (e : (st.take k).reverse = .retAddr (4 + i) :: as) (hs : pm_sz (st.drop k) ≤ 8) : pm_chk k (some 100) 0 0 st (h, z) := by
  refine ⟨Nat.le_of_ble_eq_true hl, fun q hq => ?_, hs, Nat.zero_le _, Nat.zero_le _⟩
  cases hq
  exact ⟨fun h7 => absurd h7 (by omega), fun _ => ⟨i, as, hi, e⟩⟩
end STR
theorem byt_tab : ∀ k : Fin 8, (pm_byt.getD k.val []).length = pm_len.getD k.val 0 ∧ pm_len.getD k.val 0 ≤ 6 ∧ ∀ j : Fin 6, (((pm_byt.getD k.val []).getD j.val 0 &&& 255).toUInt32 % 65536).toInt32 = (pm_byt.getD k.val []).getD j.val 0 ∧ narrow .char (.int ((pm_byt.getD k.val []).getD j.val 0)) = .int ((pm_byt.getD k.val []).getD j.val 0) := by decide +kernel
theorem len_tab : ∀ k : Fin 8, Int32.ofNat (pm_len.getD k.val 0) >>> ((0 : Int32) &&& 31) = nJ (pm_len.getD k.val 0) ∧ Int32.ofNat (pm_len.getD k.val 0) = nJ (pm_len.getD k.val 0) := by decide +kernel
section STS
variable {h : pm_H} {d k j : Nat}
theorem sp_coder (hk : k < 8) : Sp (d + 1) 2 h [.retAddr (4 + k)] (fun h' r => h' = h ∧ r = some (.int 0)) := by
  refine Sp_of aiJ0_coder_7d493 rfl rfl rfl ?_
  have L0 : pm_get (lv_args 0 [.retAddr (4 + k)]) 0 = some (.retAddr (4 + k)) := rfl
  generalize lv_args 0 [.retAddr (4 + k)] = lv at L0 ⊢
  refine E_c rfl ?_
  refine E_ifF rfl (by decide) ?_
  refine E_alS rfl L0 ?_
  refine E_scod rfl hk ?_
  refine E_goto rfl ?_
  exact ⟨h, some (.int 0), Go_ret rfl ⟨0, rfl, by decide, rfl⟩, rfl, rfl⟩
theorem sp_latin (hk : k < 8) : Sp (d + 1) 3 h [.retAddr (4 + k)] (fun h' r => h' = h ∧ r = some (.int 1)) := by
  refine Sp_of aiJ0_isLatin1_aae02 rfl rfl rfl ?_
  have L0 : pm_get (lv_args 0 [.retAddr (4 + k)]) 0 = some (.retAddr (4 + k)) := rfl
  generalize lv_args 0 [.retAddr (4 + k)] = lv at L0 ⊢
  refine E_c rfl ?_
  refine E_ifF rfl (by decide) ?_
  refine E_alS rfl L0 ?_
  refine E_scod rfl hk ?_
  refine E_ifF rfl (by decide) ?_
  refine E_c rfl ?_
  refine E_goto rfl ?_
  exact E_rtz rfl (.inr rfl) ⟨rfl, rfl⟩
theorem sp_slen (hk : k < 8) : Sp (d + 2) 4 h [.retAddr (4 + k)] (fun h' r => h' = h ∧ r = some (.int (nJ (pm_len.getD k 0)))) := by
  refine Sp_of aiJ0_length_8abf5 rfl rfl rfl ?_
  have L0 : pm_get (lv_args 0 [.retAddr (4 + k)]) 0 = some (.retAddr (4 + k)) := rfl
  generalize lv_args 0 [.retAddr (4 + k)] = lv at L0 ⊢
  refine E_alS rfl L0 ?_
  refine E_sval rfl hk ?_
  refine E_sblen rfl hk ?_
  refine E_alS rfl L0 ?_
  refine E_call rfl (sp_coder (d := d) hk) (chkT hk rfl rfl (by show 1 ≤ 8; decide)) (fun h1 r1 => ?_)
  rintro ⟨e1, f1⟩
  rw [e1, f1]
  refine E_bin rfl (len_tab ⟨k, hk⟩).1 ?_
  exact E_rti rfl ⟨rfl, rfl⟩
theorem sp_ck3 {x y : Int32} (h0 : ¬ x < 0) (h1 : x < y) : Sp (d + 1) 6 h [.int x, .int y, .retAddr 3] (fun h' r => h' = h ∧ r = some (.int x)) := by
  refine Sp_of aiJ3_checkIndex_8e157 rfl rfl rfl ?_
  have L0 : pm_get (lv_args 0 [.int x, .int y, .retAddr 3]) 0 = some (.int x) := rfl
  have L1 : pm_get (lv_args 0 [.int x, .int y, .retAddr 3]) 1 = some (.int y) := rfl
  generalize lv_args 0 [.int x, .int y, .retAddr 3] = lv at L0 L1 ⊢
  refine E_il rfl L0 ?_
  refine E_ifF rfl (decide_eq_false h0) ?_
  refine E_il rfl L0 ?_
  refine E_il rfl L1 ?_
  refine E_icT rfl (decide_eq_true h1) ?_
  refine E_il rfl L0 ?_
  exact E_rti rfl ⟨rfl, rfl⟩
theorem sp_ck0 {x y : Int32} (h0 : ¬ x < 0) (h1 : x < y) : Sp (d + 2) 1 h [.int x, .int y] (fun h' r => h' = h ∧ r = none) := by
  refine Sp_of aiJ0_checkIndex_df160 rfl rfl rfl ?_
  have L0 : pm_get (lv_args 0 [.int x, .int y]) 0 = some (.int x) := rfl
  have L1 : pm_get (lv_args 0 [.int x, .int y]) 1 = some (.int y) := rfl
  generalize lv_args 0 [.int x, .int y] = lv at L0 L1 ⊢
  refine E_il rfl L0 ?_
  refine E_il rfl L1 ?_
  refine E_c rfl ?_
  refine E_call rfl (sp_ck3 (d := d) h0 h1) (chkS rfl (by show 0 ≤ 8; decide)) (fun h2 r2 => ?_)
  rintro ⟨e2, f2⟩
  rw [e2, f2]
  refine E_pop rfl rfl ?_
  exact E_ret rfl ⟨rfl, rfl⟩
theorem E_rt5 {look : Nat → Option pm_I} {call : pm_Call} {Q : pm_H → Option Value → Prop} {pc : Nat} {lv : List (Nat × Value)} {z : Nat × Nat} {v : Int32} (h1 : look pc = some (.inr (.inr 5))) (hn : narrow .char (.int v) = .int v) (hq : Q h (some (.int v))) : Ends look call (pc, lv, [.int v], h, z) Q := ⟨h, some (.int v), Go_ret h1 ⟨v, rfl, hn, rfl⟩, hq⟩
theorem sp_char1 (hk : k < 8) (hj : j < pm_len.getD k 0) : Sp (d + 3) 5 h [.retAddr (12 + k), .int (nJ j)] (fun h' r => h' = h ∧ r = some (.int ((pm_byt.getD k []).getD j 0))) := by
  obtain ⟨t1, t2, t3⟩ := byt_tab ⟨k, hk⟩
  dsimp only at t1 t2 t3
  obtain ⟨t4, t5⟩ := t3 ⟨j, by omega⟩
  dsimp only at t4 t5
  refine Sp_of aiJ1_charAt_3b067 rfl rfl rfl ?_
  have L0 : pm_get (lv_args 0 [.retAddr (12 + k), .int (nJ j)]) 0 = some (.retAddr (12 + k)) := rfl
  have L1 : pm_get (lv_args 0 [.retAddr (12 + k), .int (nJ j)]) 1 = some (.int (nJ j)) := rfl
  generalize lv_args 0 [.retAddr (12 + k), .int (nJ j)] = lv at L0 L1 ⊢
  refine E_il rfl L1 ?_
  refine E_alS rfl L0 ?_
  refine E_sblen rfl hk ?_
  refine E_call rfl (sp_ck0 (d := d) (nJ_lt0 (by omega)) (by rw [(len_tab ⟨k, hk⟩).2]; exact (nJ_lt (by omega) (by show pm_len.getD k 0 < _; omega)).mpr hj)) (chkS rfl (by show 0 ≤ 8; decide)) (fun h2 r2 => ?_)
  rintro ⟨e2, f2⟩
  rw [e2, f2]
  refine E_alS rfl L0 ?_
  refine E_il rfl L1 ?_
  refine E_sbald rfl hk hj (by omega) ?_
  refine E_c rfl ?_
  refine E_bin rfl rfl ?_
  refine E_un rfl ?_
  rw [t4]
  exact E_rt5 rfl t5 ⟨rfl, rfl⟩
theorem sp_charAt (hk : k < 8) (hj : j < pm_len.getD k 0) : Sp (d + 4) 0 h [.retAddr (4 + k), .int (nJ j)] (fun h' r => h' = h ∧ r = some (.int ((pm_byt.getD k []).getD j 0))) := by
  obtain ⟨t1, t2, t3⟩ := byt_tab ⟨k, hk⟩
  dsimp only at t1 t2 t3
  obtain ⟨t4, t5⟩ := t3 ⟨j, by omega⟩
  dsimp only at t4 t5
  refine Sp_of aiJ0_charAt_5068e rfl rfl rfl ?_
  have L0 : pm_get (lv_args 0 [.retAddr (4 + k), .int (nJ j)]) 0 = some (.retAddr (4 + k)) := rfl
  have L1 : pm_get (lv_args 0 [.retAddr (4 + k), .int (nJ j)]) 1 = some (.int (nJ j)) := rfl
  generalize lv_args 0 [.retAddr (4 + k), .int (nJ j)] = lv at L0 L1 ⊢
  refine E_alS rfl L0 ?_
  refine E_call rfl (sp_latin (d := d + 2) hk) (chkT hk rfl rfl (by show 0 ≤ 8; decide)) (fun h1 r1 => ?_)
  rintro ⟨e1, f1⟩
  rw [e1, f1]
  refine E_ifF rfl (by decide) ?_
  refine E_alS rfl L0 ?_
  refine E_sval rfl hk ?_
  refine E_il rfl L1 ?_
  refine E_call rfl (sp_char1 (d := d) hk hj) (chkS rfl (by show 0 ≤ 8; decide)) (fun h2 r2 => ?_)
  rintro ⟨e2, f2⟩
  rw [e2, f2]
  exact E_rt5 rfl t5 ⟨rfl, rfl⟩
end STS
section COP
variable {T : Nat → Int32} {L d s k : Nat} {h : pm_H}
theorem iw_loop (A : TA T L h) (g6 : gi h 3 6 = nJ s) (hk : k < 8) (h1 : tkk T L s = 1) (h2 : tke T L s = s + pm_len.getD k 0) (h3 : s + pm_len.getD k 0 ≤ L) (j : Nat) : ∀ {i : Nat} (lv : List (Nat × Value)), i + j = pm_len.getD k 0 → (∀ m, m < i → T (s + m) = (pm_byt.getD k []).getD m 0) → pm_get lv 0 = some (.ref 3) → pm_get lv 1 = some (.retAddr (4 + k)) → pm_get lv 2 = some (.int (nJ i)) → Ends (pm_at tX2_isWord) (pm_Rt pm_P (d + 4)) (28, lv, [], h, 0, 0) (fun h' r => h' = h ∧ r = some (.int (zb (wIs T L s (pm_byt.getD k []) = true)))) := by
  obtain ⟨t1, t2, t3⟩ := byt_tab ⟨k, hk⟩
  dsimp only at t1 t2 t3
  have h5 := A.2.2.1
  induction j with
  | zero =>
    intro i lv hj hm L0 L1 L2
    refine E_il rfl L2 ?_
    refine E_alS rfl L1 ?_
    refine E_call rfl (sp_slen (d := d + 2) hk) (chkT hk rfl rfl (by show 1 ≤ 8; decide)) (fun h4 r4 => ?_)
    rintro ⟨e4, f4⟩
    rw [e4, f4]
    refine E_icT rfl (decide_eq_true ((nJ_le (by omega) (by omega)).mpr (by omega))) ?_
    refine E_ci 1 rfl (by decide) ?_
    exact E_rtz rfl (.inr rfl) ⟨rfl, by rw [zb_T (wIs_iff.mpr ⟨h1, by rw [t1]; exact h2, fun i hi => hm i (by omega)⟩)]⟩
  | succ j ih =>
    intro i lv hj hm L0 L1 L2
    refine E_il rfl L2 ?_
    refine E_alS rfl L1 ?_
    refine E_call rfl (sp_slen (d := d + 2) hk) (chkT hk rfl rfl (by show 1 ≤ 8; decide)) (fun h4 r4 => ?_)
    rintro ⟨e4, f4⟩
    rw [e4, f4]
    refine E_icF rfl (decide_eq_false (fun q => absurd ((nJ_le (by omega) (by omega)).mp q) (by omega))) ?_
    refine E_al rfl L0 ?_
    refine E_ogr (q := 1) rfl A.1 rfl rfl ?_
    refine E_ogr (q := 2) rfl A.1 rfl rfl ?_
    refine E_al rfl L0 ?_
    refine E_ogf (q := (0, 500)) rfl A.1 rfl rfl g6 ?_
    refine E_il rfl L2 ?_
    refine E_bin rfl (nJ_add _ _) ?_
    refine E_bal (a := 2) (len := 500) rfl A.1 rfl (by omega) (by decide) ?_
    rw [A.2.2.2 (s + i) (by omega)]
    refine E_alS rfl L1 ?_
    refine E_il rfl L2 ?_
    refine E_call rfl (sp_charAt (d := d) hk (by omega)) (chkT hk rfl rfl (by show 1 ≤ 8; decide)) (fun h6 r6 => ?_)
    rintro ⟨e6, f6⟩
    rw [e6, f6]
    by_cases b : T (s + i) = (pm_byt.getD k []).getD i 0
    · refine E_icT rfl (decide_eq_true b) ?_
      refine E_inc rfl L2 (nJ_inc _) (fun lv1 K2 kp => ?_)
      refine E_goto rfl ?_
      refine ih lv1 (by omega) (fun m hm2 => ?_) (kp 0 _ (by decide) rfl L0) (kp 1 _ (by decide) rfl L1) K2
      by_cases e : m = i
      · rw [e]; exact b
      · exact hm m (by omega)
    · refine E_icF rfl (decide_eq_false b) ?_
      refine E_ci 0 rfl (by decide) ?_
      exact E_rtz rfl (.inl rfl) ⟨rfl, by rw [zb_F (fun q => b ((wIs_iff.mp q).2.2 i (by omega)))]⟩
theorem sp_isWord (C : CS T L (.inr s) h) (hk : k < 8) : Sp (d + 5) 29 h [.ref 3, .retAddr (4 + k)] (fun h' r => h' = h ∧ r = some (.int (zb (wIs T L s (pm_byt.getD k []) = true)))) := by
  obtain ⟨A, ⟨c6, c7, c5, c8⟩, -, -, hs⟩ := C
  obtain ⟨t1, t2, t3⟩ := byt_tab ⟨k, hk⟩
  dsimp only at t1 t2 t3
  have h5 := A.2.2.1
  have he := tke_le (T := T) hs
  have hkk := tkk_le (T := T) (L := L) (s := s)
  refine Sp_of aiX2_isWord rfl rfl rfl ?_
  have L0 : pm_get (lv_args 0 [.ref 3, .retAddr (4 + k)]) 0 = some (.ref 3) := rfl
  have L1 : pm_get (lv_args 0 [.ref 3, .retAddr (4 + k)]) 1 = some (.retAddr (4 + k)) := rfl
  generalize lv_args 0 [.ref 3, .retAddr (4 + k)] = lv at L0 L1 ⊢
  have no : ¬ (tkk T L s = 1 ∧ tke T L s = s + pm_len.getD k 0) → Ends (pm_at tX2_isWord) (pm_Rt pm_P (d + 4)) (24, lv, [], h, 0, 0) (fun h' r => h' = h ∧ r = some (.int (zb (wIs T L s (pm_byt.getD k []) = true)))) := by
    intro q
    refine E_ci 0 rfl (by decide) ?_
    exact E_rtz rfl (.inl rfl) ⟨rfl, by rw [zb_F (fun z => q ⟨(wIs_iff.mp z).1, by rw [← t1]; exact (wIs_iff.mp z).2.1⟩)]⟩
  refine E_al rfl L0 ?_
  refine E_ogf (q := (0, 4)) rfl A.1 rfl rfl c5 ?_
  refine E_ci 1 rfl (by decide) ?_
  by_cases b1 : tkk T L s = 1
  · refine E_icF rfl (decide_eq_false (fun q => q (by rw [b1]))) ?_
    refine E_al rfl L0 ?_
    refine E_ogf (q := (0, 500)) rfl A.1 rfl rfl c7 ?_
    refine E_al rfl L0 ?_
    refine E_ogf (q := (0, 500)) rfl A.1 rfl rfl c6 ?_
    refine E_bin rfl (nJ_sub he.1) ?_
    refine E_alS rfl L1 ?_
    refine E_call rfl (sp_slen (d := d + 2) hk) (chkT hk rfl rfl (by show 1 ≤ 8; decide)) (fun h4 r4 => ?_)
    rintro ⟨e4, f4⟩
    rw [e4, f4]
    by_cases b2 : tke T L s - s = pm_len.getD k 0
    · refine E_icT rfl (decide_eq_true (by rw [b2])) ?_
      refine E_ci 0 rfl (by decide) ?_
      refine E_is rfl (fun lv1 K2 kp => ?_)
      exact iw_loop A c6 hk b1 (by omega) (by omega) (pm_len.getD k 0) (i := 0) lv1 (by omega) (fun m hm => absurd hm (Nat.not_lt_zero m)) (kp 0 _ (by decide) rfl L0) (kp 1 _ (by decide) rfl L1) K2
    · refine E_icF rfl (decide_eq_false (fun q => b2 ((nJ_eq (by omega) (by omega)).mp q))) ?_
      exact no (fun z => b2 (by omega))
  · refine E_icT rfl (decide_eq_true (fun q => b1 ((nJ_eq (by omega) (by omega)).mp q))) ?_
    exact no (fun z => b1 z.1)
theorem sp_refuse (C : CS T L (.inr s) h) (k1 : 1 ≤ k) (k3 : k ≤ 3) : Sp (d + 1) 38 h [.ref 3, .int (nJ k)] (fun h' r => r = some (.int (nJ 0)) ∧ fr_g [(3, 1, 2)] h h' ∧ CS T L (.inl (k, s)) h') := by
  obtain ⟨A, ⟨c6, c7, c5, c8⟩, -, -, hs⟩ := C
  have h5 := A.2.2.1
  refine Sp_of aiX2_refuse rfl rfl rfl ?_
  have L0 : pm_get (lv_args 0 [.ref 3, .int (nJ k)]) 0 = some (.ref 3) := rfl
  have L1 : pm_get (lv_args 0 [.ref 3, .int (nJ k)]) 1 = some (.int (nJ k)) := rfl
  generalize lv_args 0 [.ref 3, .int (nJ k)] = lv at L0 L1 ⊢
  refine E_al rfl L0 ?_
  refine E_il rfl L1 ?_
  refine E_opf (q := (0, 3)) rfl A.1 rfl rfl ?_
  have hh1 : HH (pt h 3 1 (nJ k)) := HH_ptn A.1 rfl (by omega) (by omega) (by omega)
  refine E_al rfl L0 ?_
  refine E_al rfl L0 ?_
  refine E_ogf (q := (0, 500)) (v := nJ s) rfl hh1 rfl rfl (by rw [gi_ne (by omega)]; exact c6) ?_
  refine E_opf (q := ((-1), 500)) rfl hh1 rfl rfl ?_
  have hh2 : HH (pt (pt h 3 1 (nJ k)) 3 2 (nJ s)) := HH_ptn hh1 rfl (by omega) (by omega) (by omega)
  refine E_ci 0 rfl (by decide) ?_
  refine E_rtz rfl (.inl rfl) ⟨rfl, fr_ptr (l := 1) (u := 2) rfl (by omega) (by omega) (fr_ptr (l := 1) (u := 2) rfl (by omega) (by omega) (fr_rf _ _)), ?_, ?_, ?_, k1, k3, hs⟩
  · exact TA_pt (TA_pt A (by omega) hh1) (by omega) hh2
  · rw [gi_ne (by omega)]; exact gi_ptn A.1 rfl (by omega) (by omega) (by omega)
  · exact gi_ptn hh1 rfl (by omega) (by omega) (by omega)
theorem sp_nextTok (C : CS T L (.inr s) h) : Sp (d + 3) 37 h [.ref 3] (fun h' r => r = none ∧ fr_g [(3, 5, 8)] h h' ∧ CS T L (.inr (nxt T L s)) h') := by
  obtain ⟨A, ⟨c6, c7, c5, c8⟩, c1, c2, hs⟩ := C
  have he := tke_le (T := T) hs
  refine Sp_mono ?_ (sp_readToken (d := d) A he.2.1 c7)
  rintro h' r ⟨q1, q2, q3, q4⟩
  exact ⟨q1, q3, TA_fr q3 rfl rfl q2 A, q4, by rw [fr_gi q3 rfl]; exact c1, by rw [fr_gi q3 rfl]; exact c2, (nxt_le hs).2.1⟩
theorem sp_takeWord (C : CS T L (.inr s) h) (hk : k < 8) : Sp (d + 6) 41 h [.ref 3, .retAddr (4 + k)] (fun h' r => r = some (.int (zb (isR (bW T L (pm_byt.getD k []) (.inr s)) = true))) ∧ fr_g [(3, 1, 2), (3, 5, 8)] h h' ∧ CS T L (bW T L (pm_byt.getD k []) (.inr s)) h') := by
  have hh : HH h := C.1.1
  refine Sp_of aiX2_takeWord rfl rfl rfl ?_
  have L0 : pm_get (lv_args 0 [.ref 3, .retAddr (4 + k)]) 0 = some (.ref 3) := rfl
  have L1 : pm_get (lv_args 0 [.ref 3, .retAddr (4 + k)]) 1 = some (.retAddr (4 + k)) := rfl
  generalize lv_args 0 [.ref 3, .retAddr (4 + k)] = lv at L0 L1 ⊢
  refine E_al rfl L0 ?_
  refine E_alS rfl L1 ?_
  refine E_call rfl (sp_isWord (d := d) C hk) (chkO (a := 3) hh rfl rfl rfl rfl (by show 0 ≤ 8; decide)) (fun h1 r1 => ?_)
  rintro ⟨e1, f1⟩
  rw [e1, f1]
  cases hw : wIs T L s (pm_byt.getD k []) with
  | true =>
    rw [bW_T hw]
    refine E_ifT rfl (by rw [zb_T rfl]; rfl) ?_
    refine E_al rfl L0 ?_
    refine E_call rfl (Sp_le (by omega) (sp_nextTok (d := d) C)) (chkO (a := 3) hh rfl rfl rfl rfl (by show 0 ≤ 8; decide)) (fun h2 r2 => ?_)
    rintro ⟨e2, f2, C2⟩
    rw [e2]
    refine E_ci 1 rfl (by decide) ?_
    exact E_rtz rfl (.inr rfl) ⟨by rw [isR_r], fr_wk rfl f2, C2⟩
  | false =>
    rw [bW_F hw]
    refine E_ifF rfl (by rw [zb_F (by decide)]; rfl) ?_
    refine E_al rfl L0 ?_
    refine E_ci 1 rfl (by decide) ?_
    refine E_call rfl (Sp_le (by omega) (sp_refuse (d := d) (k := 1) C (by omega) (by omega))) (chkO (a := 3) hh rfl rfl rfl rfl (by show 0 ≤ 8; decide)) (fun h2 r2 => ?_)
    rintro ⟨e2, f2, C2⟩
    rw [e2]
    exact E_rtz rfl (.inl rfl) ⟨by rw [isR_l], fr_wk rfl f2, C2⟩
theorem sp_takeNumber {lo hi : Nat} (C : CS T L (.inr s) h) (h99 : hi ≤ 99) (hlo : lo ≤ hi) : Sp (d + 6) 39 h [.ref 3, .int (nJ lo), .int (nJ hi)] (fun h' r => r = some (.int (zb (isR (bN T L lo hi (.inr s)) = true))) ∧ fr_g [(3, 1, 2), (3, 5, 9)] h h' ∧ CS T L (bN T L lo hi (.inr s)) h' ∧ (isR (bN T L lo hi (.inr s)) = true → gi h' 3 9 = nJ (bV T L lo hi (.inr s)) ∧ lo ≤ bV T L lo hi (.inr s) ∧ bV T L lo hi (.inr s) ≤ hi)) := by
  have C0 := C
  obtain ⟨A, ⟨c6, c7, c5, c8⟩, c1, c2, hs⟩ := C
  have hh : HH h := A.1
  have hkk := tkk_le (T := T) (L := L) (s := s)
  refine Sp_of aiX2_takeNumber rfl rfl rfl ?_
  have L0 : pm_get (lv_args 0 [.ref 3, .int (nJ lo), .int (nJ hi)]) 0 = some (.ref 3) := rfl
  have L1 : pm_get (lv_args 0 [.ref 3, .int (nJ lo), .int (nJ hi)]) 1 = some (.int (nJ lo)) := rfl
  have L2 : pm_get (lv_args 0 [.ref 3, .int (nJ lo), .int (nJ hi)]) 2 = some (.int (nJ hi)) := rfl
  generalize lv_args 0 [.ref 3, .int (nJ lo), .int (nJ hi)] = lv at L0 L1 L2 ⊢
  refine E_al rfl L0 ?_
  refine E_ogf (q := (0, 4)) rfl hh rfl rfl c5 ?_
  refine E_ci 2 rfl (by decide) ?_
  by_cases b1 : tkk T L s = 2
  · obtain ⟨v, v1, v2, v3⟩ := c8 b1
    have vb := Vr_bd (lo := lo) (hi := hi) v3 (by omega)
    refine E_icT rfl (decide_eq_true (by rw [b1])) ?_
    have no2 : ¬ (lo ≤ tkv T L s ∧ tkv T L s ≤ hi) → Ends (pm_at tX2_takeNumber) (pm_Rt pm_P (d + 5)) (30, lv, [], h, 0, 0) (fun h' r => r = some (.int (zb (isR (bN T L lo hi (.inr s)) = true))) ∧ fr_g [(3, 1, 2), (3, 5, 9)] h h' ∧ CS T L (bN T L lo hi (.inr s)) h' ∧ (isR (bN T L lo hi (.inr s)) = true → gi h' 3 9 = nJ (bV T L lo hi (.inr s)) ∧ lo ≤ bV T L lo hi (.inr s) ∧ bV T L lo hi (.inr s) ≤ hi)) := by
      intro q
      rw [(bN_2 b1 q).1]
      refine E_al rfl L0 ?_
      refine E_ci 2 rfl (by decide) ?_
      refine E_call rfl (Sp_le (by omega) (sp_refuse (d := d) (k := 2) C0 (by omega) (by omega))) (chkO (a := 3) hh rfl rfl rfl rfl (by show 0 ≤ 8; decide)) (fun h2 r2 => ?_)
      rintro ⟨e2, f2, C2⟩
      rw [e2]
      exact E_rtz rfl (.inl rfl) ⟨by rw [isR_l], fr_wk rfl f2, C2, fun q => by cases q⟩
    refine E_al rfl L0 ?_
    refine E_ogf rfl hh rfl rfl v2 ?_
    refine E_il rfl L1 ?_
    by_cases b2 : v < lo
    · refine E_icT rfl (decide_eq_true ((nJ_lt (by omega) (by omega)).mpr b2)) ?_
      exact no2 (fun q => absurd (vb.mpr q) (by omega))
    refine E_icF rfl (decide_eq_false (fun q => b2 ((nJ_lt (by omega) (by omega)).mp q))) ?_
    refine E_al rfl L0 ?_
    refine E_ogf rfl hh rfl rfl v2 ?_
    refine E_il rfl L2 ?_
    by_cases b3 : v ≤ hi
    · refine E_icT rfl (decide_eq_true ((nJ_le (by omega) (by omega)).mpr b3)) ?_
      have vq := vb.mp ⟨by omega, b3⟩
      have ev := Vr_eq v3 (hi := hi) (by omega) vq.2
      have ok : okN T L lo hi s = true := okN_iff.mpr ⟨b1, vq⟩
      rw [(bN_T ok).1, (bN_T ok).2]
      refine E_al rfl L0 ?_
      refine E_al rfl L0 ?_
      refine E_ogf rfl hh rfl rfl v2 ?_
      refine E_opf (q := (0, 99)) rfl hh rfl rfl ?_
      have hh1 : HH (pt h 3 9 (nJ v)) := HH_ptn hh rfl (by omega) (by omega) (by omega)
      have C1 : CS T L (.inr s) (pt h 3 9 (nJ v)) := ⟨TA_pt A (by omega) hh1, ⟨by rw [gi_ne (by omega)]; exact c6, by rw [gi_ne (by omega)]; exact c7, by rw [gi_ne (by omega)]; exact c5, fun q => by rw [gi_ne (by omega)]; exact c8 q⟩, by rw [gi_ne (by omega)]; exact c1, by rw [gi_ne (by omega)]; exact c2, hs⟩
      refine E_al rfl L0 ?_
      refine E_call rfl (Sp_le (by omega) (sp_nextTok (d := d) C1)) (chkO (a := 3) hh1 rfl rfl rfl rfl (by show 0 ≤ 8; decide)) (fun h2 r2 => ?_)
      rintro ⟨e2, f2, C2⟩
      rw [e2]
      refine E_ci 1 rfl (by decide) ?_
      refine E_rtz rfl (.inr rfl) ⟨by rw [isR_r], fr_trans (fr_ptr (l := 5) (u := 9) rfl (by omega) (by omega) (fr_rf _ _)) (fr_wk rfl f2), C2, fun _ => ⟨?_, vq⟩⟩
      rw [fr_gi f2 rfl, ← ev]
      exact gi_ptn hh rfl (by omega) (by omega) (by omega)
    · refine E_icF rfl (decide_eq_false (fun q => b3 ((nJ_le (by omega) (by omega)).mp q))) ?_
      exact no2 (fun q => b3 (vb.mpr q).2)
  · refine E_icF rfl (decide_eq_false (fun q => b1 ((nJ_eq (by omega) (by omega)).mp q))) ?_
    rw [(bN_1 b1).1]
    refine E_al rfl L0 ?_
    refine E_ci 1 rfl (by decide) ?_
    refine E_call rfl (Sp_le (by omega) (sp_refuse (d := d) (k := 1) C0 (by omega) (by omega))) (chkO (a := 3) hh rfl rfl rfl rfl (by show 0 ≤ 8; decide)) (fun h2 r2 => ?_)
    rintro ⟨e2, f2, C2⟩
    rw [e2]
    exact E_rtz rfl (.inl rfl) ⟨by rw [isR_l], fr_wk rfl f2, C2, fun q => by cases q⟩
theorem sp_takeSemi (C : CS T L (.inr s) h) : Sp (d + 6) 40 h [.ref 3] (fun h' r => r = some (.int (zb (isR (bS T L (.inr s)) = true))) ∧ fr_g [(3, 1, 2), (3, 5, 8)] h h' ∧ CS T L (bS T L (.inr s)) h') := by
  have hh : HH h := C.1.1
  have c5 := C.2.1.2.2.1
  have hkk := tkk_le (T := T) (L := L) (s := s)
  refine Sp_of aiX2_takeSemicolon rfl rfl rfl ?_
  have L0 : pm_get (lv_args 0 [.ref 3]) 0 = some (.ref 3) := rfl
  generalize lv_args 0 [.ref 3] = lv at L0 ⊢
  refine E_al rfl L0 ?_
  refine E_ogf (q := (0, 4)) rfl hh rfl rfl c5 ?_
  refine E_ci 3 rfl (by decide) ?_
  by_cases b1 : tkk T L s = 3
  · rw [bS_T b1]
    refine E_icT rfl (decide_eq_true (by rw [b1])) ?_
    refine E_al rfl L0 ?_
    refine E_call rfl (Sp_le (by omega) (sp_nextTok (d := d) C)) (chkO (a := 3) hh rfl rfl rfl rfl (by show 0 ≤ 8; decide)) (fun h2 r2 => ?_)
    rintro ⟨e2, f2, C2⟩
    rw [e2]
    refine E_ci 1 rfl (by decide) ?_
    exact E_rtz rfl (.inr rfl) ⟨by rw [isR_r], fr_wk rfl f2, C2⟩
  · rw [bS_F b1]
    refine E_icF rfl (decide_eq_false (fun q => b1 ((nJ_eq (by omega) (by omega)).mp q))) ?_
    refine E_al rfl L0 ?_
    refine E_ci 1 rfl (by decide) ?_
    refine E_call rfl (Sp_le (by omega) (sp_refuse (d := d) (k := 1) C (by omega) (by omega))) (chkO (a := 3) hh rfl rfl rfl rfl (by show 0 ≤ 8; decide)) (fun h2 r2 => ?_)
    rintro ⟨e2, f2, C2⟩
    rw [e2]
    exact E_rtz rfl (.inl rfl) ⟨by rw [isR_l], fr_wk rfl f2, C2⟩
end COP
