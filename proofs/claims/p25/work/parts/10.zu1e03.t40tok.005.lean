section
section RTL
variable {T : Nat → Int32} {L d : Nat}
theorem fw_loop (j : Nat) : ∀ {h : pm_H} {i : Nat} (lv : List (Nat × Value)), i + j = L → TB T L h → gi h 77 7 = nJ i → pm_get lv 0 = some (.ref 77) → Ends (pm_at tX9_follows) (pm_Rt pm_P (d + 1)) (0, lv, [], h, 0, 0) (fun h' r => r = none ∧ HH h' ∧ fr_g FM h h' ∧ RT T L (skp T L i) h') := by
  induction j with
  | zero =>
    intro h i lv hj B g L0
    have h5 := B.2.2.1
    unfold skp
    rw [up_no (L := L) (i := i) (fun q => absurd q.1 (by omega))]
    refine E_isB rfl rfl rfl rfl rfl rfl L0 B (by omega) g ?_
    refine E_ifF rfl (by rw [zb_F (fun q => absurd q.1 (by omega))]; rfl) ?_
    refine E_isB rfl rfl rfl rfl rfl rfl L0 B (by omega) g ?_
    refine E_ifT rfl (by rw [zb_F (fun q => absurd q.1 (by omega))]; rfl) ?_
    exact fw_tail lv B (by omega) g L0
  | succ j ih =>
    intro h i lv hj B g L0
    have h5 := B.2.2.1
    have go : spb (T i) = true → Ends (pm_at tX9_follows) (pm_Rt pm_P (d + 1)) (30, lv, [], h, 0, 0) (fun h' r => r = none ∧ HH h' ∧ fr_g FM h h' ∧ RT T L (skp T L i) h') := by
      intro b
      refine E_sinc rfl rfl rfl rfl rfl rfl L0 B.1 g ?_
      refine E_goto rfl ?_
      have hh1 : HH (pt h 77 7 (nJ (i + 1))) := HH_ptn B.1 rfl (by omega) (by omega) (by omega)
      refine Ends_mono ?_ (ih lv (i := i + 1) (by omega) (TB_pt B (by omega) hh1) (gi_ptn B.1 rfl (by omega) (by omega) (by omega)) L0)
      rintro h' r ⟨q1, q2, q3, q4⟩
      refine ⟨q1, q2, fr_trans (fr_ptr (l := 7) (u := 11) rfl (by omega) (by omega) (fr_rf _ _)) q3, ?_⟩
      unfold skp
      rw [up_go (p := fun j => spb (T j)) (by omega) b]
      exact q4
    refine E_isB rfl rfl rfl rfl rfl rfl L0 B (by omega) g ?_
    by_cases b1 : T i = 32
    · refine E_ifT rfl (by rw [zb_T ⟨by omega, isb_eq.mpr b1⟩]; rfl) ?_
      exact go (by unfold spb; rw [decide_eq_true b1]; rfl)
    refine E_ifF rfl (by rw [zb_F (fun q => b1 (isb_eq.mp q.2))]; rfl) ?_
    refine E_isB rfl rfl rfl rfl rfl rfl L0 B (by omega) g ?_
    by_cases b2 : T i = 10
    · refine E_ifF rfl (by rw [zb_T ⟨by omega, isb_eq.mpr b2⟩]; rfl) ?_
      exact go (by unfold spb; rw [decide_eq_true b2]; exact Bool.or_true _)
    refine E_ifT rfl (by rw [zb_F (fun q => b2 (isb_eq.mp q.2))]; rfl) ?_
    have e : skp T L i = i := by
      unfold skp
      exact up_no (fun q => by
        have q2 : spb (T i) = true := q.2
        unfold spb at q2
        rw [decide_eq_false b1, decide_eq_false b2] at q2
        cases q2)
    rw [e]
    exact fw_tail lv B (by omega) g L0
theorem sp_fw {h : pm_H} {i : Nat} (B : TB T L h) (hi : i ≤ L) (g : gi h 77 7 = nJ i) : Sp (d + 2) 251 h [.ref 77] (fun h' r => r = none ∧ HH h' ∧ fr_g FM h h' ∧ RT T L (skp T L i) h') := by
  refine Sp_of aiX9_follows rfl rfl rfl ?_
  have L0 : pm_get (lv_args 0 [.ref 77]) 0 = some (.ref 77) := rfl
  generalize lv_args 0 [.ref 77] = lv at L0 ⊢
  exact fw_loop (d := d) (L - i) lv (i := i) (by omega) B g L0
end RTL
end
section
/-! what a reader does at a token, purely; the class's ways (wants t40, t41) -/
noncomputable abbrev Px : Type := (Nat × Nat) ⊕ Nat
noncomputable def isR : Px → Bool
  | .inl _ => false
  | .inr _ => true
section OPS
variable (T : Nat → Int32) (L : Nat)
noncomputable def bW (W : List Int32) : Px → Px
  | .inl f => .inl f
  | .inr s => bif wIs T L s W then .inr (nxt T L s) else .inl (1, s)
noncomputable def okN (lo hi s : Nat) : Bool := Nat.beq (tkk T L s) 2 && (Nat.ble lo (tkv T L s) && Nat.ble (tkv T L s) hi)
noncomputable def bN (lo hi : Nat) : Px → Px
  | .inl f => .inl f
  | .inr s => bif okN T L lo hi s then .inr (nxt T L s) else .inl (bif Nat.beq (tkk T L s) 2 then 2 else 1, s)
noncomputable def bV (lo hi : Nat) : Px → Nat
  | .inl _ => lo
  | .inr s => bif okN T L lo hi s then tkv T L s else lo
noncomputable def bS : Px → Px
  | .inl f => .inl f
  | .inr s => bif Nat.beq (tkk T L s) 3 then .inr (nxt T L s) else .inl (1, s)
noncomputable def bF (k : Nat) : Px → Px
  | .inl f => .inl f
  | .inr s => .inl (k, s)
/-- where the class's reader is -/
noncomputable def CS : Px → pm_H → Prop
  | .inl (k, p) => fun h => TA T L h ∧ gi h 3 1 = nJ k ∧ gi h 3 2 = nJ p ∧ 1 ≤ k ∧ k ≤ 3 ∧ p ≤ L
  | .inr s => fun h => TA T L h ∧ CT T L s h ∧ gi h 3 1 = nJ 0 ∧ gi h 3 2 = -1 ∧ s ≤ L
end OPS
theorem isR_r {s : Nat} : zb (isR (.inr s) = true) = nJ 1 := zb_T rfl
theorem isR_l {f : Nat × Nat} : zb (isR (.inl f) = true) = nJ 0 := zb_no rfl
theorem nbeq {a b : Nat} : Nat.beq a b = true ↔ a = b := ⟨Nat.eq_of_beq_eq_true, fun e => by rw [e]; exact Nat.beq_refl _⟩
theorem nbeqF {a b : Nat} (h : a ≠ b) : Nat.beq a b = false := by
  cases hq : Nat.beq a b with
  | false => rfl
  | true => exact absurd (Nat.eq_of_beq_eq_true hq) h
theorem nble {a b : Nat} : Nat.ble a b = true ↔ a ≤ b := ⟨Nat.le_of_ble_eq_true, Nat.ble_eq_true_of_le⟩
section OPL
variable {T : Nat → Int32} {L s lo hi k : Nat} {W : List Int32}
theorem bW_T (h : wIs T L s W = true) : bW T L W (.inr s) = .inr (nxt T L s) := by unfold bW; dsimp only; rw [h]; rfl
theorem bW_F (h : wIs T L s W = false) : bW T L W (.inr s) = .inl (1, s) := by unfold bW; dsimp only; rw [h]; rfl
theorem okN_iff : okN T L lo hi s = true ↔ tkk T L s = 2 ∧ lo ≤ tkv T L s ∧ tkv T L s ≤ hi := by
  unfold okN
  rw [Bool.and_eq_true, Bool.and_eq_true, nbeq, nble, nble]
theorem okN_F (h : ¬ (tkk T L s = 2 ∧ lo ≤ tkv T L s ∧ tkv T L s ≤ hi)) : okN T L lo hi s = false := by
  cases hq : okN T L lo hi s with
  | false => rfl
  | true => exact absurd (okN_iff.mp hq) h
theorem bN_T (h : okN T L lo hi s = true) : bN T L lo hi (.inr s) = .inr (nxt T L s) ∧ bV T L lo hi (.inr s) = tkv T L s := by unfold bN bV; dsimp only; rw [h]; exact ⟨rfl, rfl⟩
theorem bN_1 (h : ¬ tkk T L s = 2) : bN T L lo hi (.inr s) = .inl (1, s) ∧ bV T L lo hi (.inr s) = lo := by
  have e := okN_F (T := T) (L := L) (s := s) (lo := lo) (hi := hi) (fun q => h q.1)
  unfold bN bV
  dsimp only
  rw [e, nbeqF h]
  exact ⟨rfl, rfl⟩
theorem bN_2 (h : tkk T L s = 2) (h2 : ¬ (lo ≤ tkv T L s ∧ tkv T L s ≤ hi)) : bN T L lo hi (.inr s) = .inl (2, s) ∧ bV T L lo hi (.inr s) = lo := by
  have e := okN_F (T := T) (L := L) (s := s) (lo := lo) (hi := hi) (fun q => h2 q.2)
  unfold bN bV
  dsimp only
  rw [e, nbeq.mpr h]
  exact ⟨rfl, rfl⟩
theorem bS_T (h : tkk T L s = 3) : bS T L (.inr s) = .inr (nxt T L s) := by unfold bS; dsimp only; rw [nbeq.mpr h]; rfl
theorem bS_F (h : ¬ tkk T L s = 3) : bS T L (.inr s) = .inl (1, s) := by unfold bS; dsimp only; rw [nbeqF h]; rfl
end OPL
/-! Strings -/
section STR
variable {look : Nat → Option pm_I} {call : pm_Call} {Q : pm_H → Option Value → Prop} {pc n i k : Nat} {lv : List (Nat × Value)} {st : List Value} {w : pm_H × Nat × Nat} {h : pm_H} {z : Nat × Nat}
theorem E_alS {x : Nat} (h1 : look pc = some (.inl (s_al i n))) (e : pm_get lv i = some (.retAddr x)) (kk : Ends look call (n, lv, .retAddr x :: st, w) Q) : Ends look call (pc, lv, st, w) Q := E_st h1 (by simp only [s_al, e]) kk
theorem str_b (hk : k < 8) : (Nat.ble 4 (4 + k) && Nat.blt (4 + k) 12) = true := by
  rw [Nat.ble_eq_true_of_le (by omega), show Nat.blt (4 + k) 12 = true from Nat.ble_eq_true_of_le (by omega)]
  rfl
theorem str_c (hk : k < 8) : (Nat.ble 12 (12 + k) && Nat.blt (12 + k) 20) = true := by
  rw [Nat.ble_eq_true_of_le (by omega), show Nat.blt (12 + k) 20 = true from Nat.ble_eq_true_of_le (by omega)]
  rfl
theorem E_sval (h1 : look pc = some (.inl (s_sval n))) (hk : k < 8) (kk : Ends look call (n, lv, .retAddr (12 + k) :: st, w) Q) : Ends look call (pc, lv, .retAddr (4 + k) :: st, w) Q := by
  have e : 4 + k + 8 = 12 + k := by omega
  refine E_st h1 ?_ kk
  simp only [s_sval, str_b hk, cond_true, e]
theorem E_scod (h1 : look pc = some (.inl (s_scod n))) (hk : k < 8) (kk : Ends look call (n, lv, .int 0 :: st, w) Q) : Ends look call (pc, lv, .retAddr (4 + k) :: st, w) Q := by
  refine E_st h1 ?_ kk
  simp only [s_scod, str_b hk, cond_true]
theorem E_sblen (h1 : look pc = some (.inl (s_sblen n))) (hk : k < 8) (kk : Ends look call (n, lv, .int (Int32.ofNat (pm_len.getD k 0)) :: st, w) Q) : Ends look call (pc, lv, .retAddr (12 + k) :: st, w) Q := by
  have e : 12 + k - 12 = k := by omega
  refine E_st h1 ?_ kk
  simp only [s_sblen, str_c hk, cond_true, e]
theorem E_sbald {j : Nat} (h1 : look pc = some (.inl (s_sbald n))) (hk : k < 8) (hj : j < pm_len.getD k 0) (hj2 : j < 100) (kk : Ends look call (n, lv, .int ((pm_byt.getD k []).getD j 0) :: st, w) Q) : Ends look call (pc, lv, .int (nJ j) :: .retAddr (12 + k) :: st, w) Q := by
  have e : 12 + k - 12 = k := by omega
  have h2 := nJ_toInt (n := j) (by omega)
  have h3 : pm_ix (nJ j) (pm_len.getD k 0) = true := ai_ix (by omega) (by omega)
  have h4 : (nJ j).toNatClampNeg = j := by show (nJ j).toInt.toNat = j; omega
  refine E_st h1 ?_ kk
  simp only [s_sbald, str_c hk, e, h3, h4, Bool.and_self, cond_true]
theorem chkT {as : List Value} {k i : Nat} (hi : i < 8) (hl : Nat.ble k st.length = true) (e : (st.take k).reverse = .retAddr (4 + i) :: as) (hs : pm_sz (st.drop k) ≤ 8) : pm_chk k (some 100) 0 0 st (h, z) := by
  refine ⟨Nat.le_of_ble_eq_true hl, fun q hq => ?_, hs, Nat.zero_le _, Nat.zero_le _⟩
  cases hq
  exact ⟨fun h7 => absurd h7 (by omega), fun _ => ⟨i, as, hi, e⟩⟩
end STR
theorem byt_tab : ∀ k : Fin 8, (pm_byt.getD k.val []).length = pm_len.getD k.val 0 ∧ pm_len.getD k.val 0 ≤ 6 ∧ ∀ j : Fin 6, (((pm_byt.getD k.val []).getD j.val 0 &&& 255).toUInt32 % 65536).toInt32 = (pm_byt.getD k.val []).getD j.val 0 ∧ narrow .char (.int ((pm_byt.getD k.val []).getD j.val 0)) = .int ((pm_byt.getD k.val []).getD j.val 0) := by decide +kernel
theorem len_tab : ∀ k : Fin 8, Int32.ofNat (pm_len.getD k.val 0) >>> ((0 : Int32) &&& 31) = nJ (pm_len.getD k.val 0) ∧ Int32.ofNat (pm_len.getD k.val 0) = nJ (pm_len.getD k.val 0) := by decide +kernel
section STS
variable {h : pm_H} {d k j : Nat}
theorem sp_coder (hk : k < 8) : Sp (d + 1) 2 h [.retAddr (4 + k)] (fun h' r => h' = h ∧ r = some (.int 0)) := by
  refine Sp_of aiJ0_coder_7d493 rfl rfl rfl ?_
  have L0 : pm_get (lv_args 0 [.retAddr (4 + k)]) 0 = some (.retAddr (4 + k)) := rfl
  generalize lv_args 0 [.retAddr (4 + k)] = lv at L0 ⊢
  refine E_c rfl ?_
  refine E_ifF rfl (by decide) ?_
  refine E_alS rfl L0 ?_
  refine E_scod rfl hk ?_
  refine E_goto rfl ?_
  exact ⟨h, some (.int 0), Go_ret rfl ⟨0, rfl, by decide, rfl⟩, rfl, rfl⟩
theorem sp_latin (hk : k < 8) : Sp (d + 1) 3 h [.retAddr (4 + k)] (fun h' r => h' = h ∧ r = some (.int 1)) := by
  refine Sp_of aiJ0_isLatin1_aae02 rfl rfl rfl ?_
  have L0 : pm_get (lv_args 0 [.retAddr (4 + k)]) 0 = some (.retAddr (4 + k)) := rfl
  generalize lv_args 0 [.retAddr (4 + k)] = lv at L0 ⊢
  refine E_c rfl ?_
  refine E_ifF rfl (by decide) ?_
  refine E_alS rfl L0 ?_
  refine E_scod rfl hk ?_
  refine E_ifF rfl (by decide) ?_
  refine E_c rfl ?_
  refine E_goto rfl ?_
  exact E_rtz rfl (.inr rfl) ⟨rfl, rfl⟩
end STS
end
