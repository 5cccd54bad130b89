section
section ENDS
variable {look : Nat → Option pm_I} {call : pm_Call} {Q : pm_H → Option Value → Prop} {pc n i t : Nat} {lv : List (Nat × Value)} {st : List Value} {w : pm_H × Nat × Nat} {h : pm_H} {z : Nat × Nat}
theorem E_ial {a len j : Nat} {p : List (Int × Int)} {v : Int32} (h1 : look pc = some (.inl (s_iald n))) (hh : HH h) (hc : hs0[a]? = some (.inl (0, len, p))) (hj : j < len) (hj2 : len < 2147483648) (e : gi h a j = v) (kk : Ends look call (n, lv, .int v :: st, h, z) Q) : Ends look call (pc, lv, .int (nJ j) :: .ref a :: st, h, z) Q := by
  obtain ⟨f, hx, hf⟩ := ar_of hh hc
  have h2 := nJ_toInt (n := j) (by omega)
  have h3 : pm_ix (nJ j) len = true := ai_ix (by omega) (by omega)
  have h4 : (nJ j).toNatClampNeg = j := by show (nJ j).toInt.toNat = j; omega
  refine E_st h1 ?_ kk
  simp only [s_iald, hx, h3, h4, cond_true, ← hf, e]
theorem E_ias {a len j : Nat} {p : List (Int × Int)} {v : Int32} (h1 : look pc = some (.inl (s_iast n))) (hh : HH h) (hc : hs0[a]? = some (.inl (0, len, p))) (hj : j < len) (hj2 : len < 2147483648) (kk : Ends look call (n, lv, st, pt h a j v, z) Q) : Ends look call (pc, lv, .int v :: .int (nJ j) :: .ref a :: st, h, z) Q := by
  obtain ⟨f, hx, hf⟩ := ar_of hh hc
  have h2 := nJ_toInt (n := j) (by omega)
  have h3 : pm_ix (nJ j) len = true := ai_ix (by omega) (by omega)
  have h4 : (nJ j).toNatClampNeg = j := by show (nJ j).toInt.toNat = j; omega
  have h5 : pt h a j v = h.set a (.inl (0, len, .inl (upd f j v))) := by unfold pt; rw [hx]
  refine E_st h1 ?_ kk
  simp only [s_iast, hx, h3, h4, cond_true, h5]
theorem E_pf {k : Nat} {q : Int × Int} {v : Int32} (h1 : look pc = some (.inl (s_putf 9 k .int n))) (hh : HH h) (hb : bd 77 k = some q) (kk : Ends look call (n, lv, st, pt h 77 k v, z) Q) : Ends look call (pc, lv, .int v :: .ref 77 :: st, h, z) Q := by
  obtain ⟨vs, hx, hv⟩ := ob77 hh
  have h2 := (ld_gi hh hb).1
  have h3 : vs[k]? = some (.int (gi h 77 k)) := by
    unfold ld at h2
    rw [hx] at h2
    exact h2
  have h4 : Nat.blt k vs.length = true := Nat.ble_eq_true_of_le (List.getElem?_eq_some_iff.mp h3).1
  have h5 : pt h 77 k v = h.set 77 (.inr (9, vs.set k (.int v))) := by unfold pt; rw [hx]
  refine E_st h1 ?_ kk
  simp only [s_putf, hx, h4, h5]
  rfl
theorem E_ret (h1 : look pc = some (.inr (.inr 0))) (hq : Q h none) : Ends look call (pc, lv, [], h, z) Q := ⟨h, none, Go_ret h1 ⟨rfl, rfl⟩, hq⟩
theorem E_rti {v : Int32} (h1 : look pc = some (.inr (.inr 1))) (hq : Q h (some (.int v))) : Ends look call (pc, lv, [.int v], h, z) Q := ⟨h, some (.int v), Go_ret h1 ⟨v, rfl, rfl⟩, hq⟩
theorem E_rtz {v : Int32} (h1 : look pc = some (.inr (.inr 2))) (hv : v = 0 ∨ v = 1) (hq : Q h (some (.int v))) : Ends look call (pc, lv, [.int v], h, z) Q := ⟨h, some (.int v), Go_ret h1 ⟨v, rfl, hv, rfl⟩, hq⟩
theorem chk77 {k : Nat} {as : List Value} {z : Nat × Nat} (hh : HH h) (hl : Nat.ble k st.length = true) (e : (st.take k).reverse = .ref 77 :: as) (hs : pm_sz (st.drop k) ≤ 8) : pm_chk k (some 9) 0 0 st (h, z) := by
  obtain ⟨vs, hx, -⟩ := ob77 hh
  refine ⟨Nat.le_of_ble_eq_true hl, fun q hq => ?_, hs, Nat.zero_le _, Nat.zero_le _⟩
  cases hq
  exact ⟨fun _ => ⟨77, vs, as, e, hx⟩, fun h9 => absurd h9 (by decide)⟩
theorem chkS {k : Nat} {z : Nat × Nat} (hl : Nat.ble k st.length = true) (hs : pm_sz (st.drop k) ≤ 8) : pm_chk k none 0 0 st (h, z) :=
  ⟨Nat.le_of_ble_eq_true hl, fun q hq => (nomatch hq), hs, Nat.zero_le _, Nat.zero_le _⟩
/-- a call that ends so -/
theorem E_call {d : Nat} {y k : Nat} {ci : Option Nat} {R : pm_H → Option Value → Prop} (h1 : look pc = some (.inr (.inl (y, k, ci, 0, 0)))) (hc : Sp d y h (st.take k).reverse R) (h2 : pm_chk k ci 0 0 st (h, z)) (kk : ∀ h' r, R h' r → Ends look (pm_Rt pm_P d) (pc + 3, lv, r.toList ++ st.drop k, h', z) Q) : Ends look (pm_Rt pm_P d) (pc, lv, st, h, z) Q := by
  obtain ⟨h', r, a, b⟩ := hc
  obtain ⟨h'', r', c, e⟩ := kk h' r b
  exact ⟨h'', r', Go_call h1 a h2 c, e⟩
end ENDS
/-- small methods, as they answer -/
theorem sp_places {h : pm_H} {d : Nat} (hh : HH h) : Sp (d + 1) 325 h [.ref 77] (fun h' r => h' = h ∧ r = some (.int (nJ (gn h 84 0))) ∧ gn h 84 0 ≤ 8) := by
  have hb := gn_le (h := h) (a := 84) (k := 0) hh rfl
  refine Sp_of aiX9_places rfl rfl rfl ?_
  refine E_al rfl (x := 77) rfl ?_
  refine E_gr rfl hh (q := 84) rfl ?_
  refine E_ci 0 rfl (by decide) ?_
  refine E_ial rfl hh rfl (by decide) (by decide) (gi_gn hh rfl (by decide)) ?_
  exact E_rti rfl ⟨rfl, rfl, by omega⟩
theorem sp_cars {h : pm_H} {d : Nat} (hh : HH h) : Sp (d + 1) 224 h [.ref 77] (fun h' r => h' = h ∧ r = some (.int (nJ (gn h 84 3))) ∧ gn h 84 3 ≤ 8) := by
  have hb := gn_le (h := h) (a := 84) (k := 3) hh rfl
  refine Sp_of aiX9_cars rfl rfl rfl ?_
  refine E_al rfl (x := 77) rfl ?_
  refine E_gr rfl hh (q := 84) rfl ?_
  refine E_ci 3 rfl (by decide) ?_
  refine E_ial rfl hh rfl (by decide) (by decide) (gi_gn hh rfl (by decide)) ?_
  exact E_rti rfl ⟨rfl, rfl, by omega⟩
/-- a bit of a small number -/
noncomputable def isB (m k : Nat) : Bool := m / 2 ^ k % 2 == 1
theorem isB_tab : ∀ m : Fin 512, ∀ k : Fin 9, (nJ m.val >>> (nJ k.val &&& 31) &&& 1 = 1) ↔ isB m.val k.val = true := by decide +kernel
theorem sp_isBit {h : pm_H} {d m k : Nat} (hm : m < 512) (hk : k < 9) : Sp (d + 1) 265 h [.int (nJ m), .int (nJ k)] (fun h' r => h' = h ∧ r = some (.int (nJ (bif isB m k then 1 else 0)))) := by
  have ht := isB_tab ⟨m, hm⟩ ⟨k, hk⟩
  dsimp only at ht
  refine Sp_of aiX9_isBit rfl rfl rfl ?_
  refine E_il rfl (x := nJ m) rfl ?_
  refine E_il rfl (x := nJ k) rfl ?_
  refine E_bin rfl rfl ?_
  refine E_c rfl ?_
  refine E_bin rfl rfl ?_
  refine E_c rfl ?_
  cases hz : isB m k with
  | true =>
    refine E_icF rfl (decide_eq_false (fun hn => hn (ht.mpr hz))) ?_
    refine E_ci 1 rfl (by decide) ?_
    refine E_goto rfl ?_
    exact E_rtz rfl (.inr (by decide)) ⟨rfl, rfl⟩
  | false =>
    refine E_icT rfl (decide_eq_true (fun hn => by rw [ht.mp hn] at hz; cases hz)) ?_
    refine E_ci 0 rfl (by decide) ?_
    exact E_rtz rfl (.inl (by decide)) ⟨rfl, rfl⟩
theorem or_tab : ∀ m : Fin 512, ∀ k : Fin 9, nJ m.val ||| nJ 1 <<< (nJ k.val &&& 31) = nJ (bif isB m.val k.val then m.val else m.val + 2 ^ k.val) := by decide +kernel
theorem nJ_inc (a : Nat) : nJ a + 1 = nJ (a + 1) := nJ_add a 1
/-- a number less 1 -/
noncomputable def pI : Nat → Int32
  | 0 => -1
  | k + 1 => nJ k
theorem pI_of (n : Nat) : nJ n - nJ 1 = pI n := by
  cases n with
  | zero => decide
  | succ k => exact nJ_sub (Nat.le_add_left 1 k)
theorem pI_dec (n : Nat) : nJ n + (-1) = pI n := by
  rw [← pI_of]
  have h1 : nJ n = nJ n := rfl
  apply Int32.toInt_inj.mp
  rw [Int32.toInt_add, Int32.toInt_sub]
  rfl
theorem nJ_lt0 {a : Nat} (h : a < 2147483648) : ¬ nJ a < 0 := fun q => by
  have h1 := Int32.lt_iff_toInt_lt.mp q
  rw [nJ_toInt h] at h1
  have h2 : (0 : Int32).toInt = 0 := rfl
  omega
theorem nJ_eq0 {a : Nat} (h : a < 2147483648) : nJ a = 0 ↔ a = 0 := nJ_eq (b := 0) h (by omega)
theorem nJ_le0 {a : Nat} (h : a < 2147483648) : nJ a ≤ 0 ↔ a = 0 := by
  have := nJ_le (b := 0) h (by omega)
  have h0 : nJ 0 = 0 := rfl
  rw [h0] at this
  exact this.trans (by omega)
theorem HH_ptn {h : pm_H} {a k v : Nat} {lo hi : Int} (hh : HH h) (hb : bd a k = some (lo, hi)) (hv : v < 2147483648) (h1 : lo ≤ (v : Int)) (h2 : (v : Int) ≤ hi) : HH (pt h a k (nJ v)) := HH_pt hh hb (by rw [nJ_toInt hv]; exact h1) (by rw [nJ_toInt hv]; exact h2)
theorem gn_ptn {h : pm_H} {a k v : Nat} {lo hi : Int} (hh : HH h) (hb : bd a k = some (lo, hi)) (hv : v < 2147483648) (h1 : lo ≤ (v : Int)) (h2 : (v : Int) ≤ hi) : gn (pt h a k (nJ v)) a k = v := gn_of (gi_pt hh hb (by rw [nJ_toInt hv]; exact h1) (by rw [nJ_toInt hv]; exact h2)) hv
theorem gn_hi {h : pm_H} {a k n : Nat} {lo hi : Int} (hh : HH h) (hb : bd a k = some (lo, hi)) (hn : hi = (n : Int)) : gn h a k ≤ n := by
  have := (ld_gi hh hb).2.2
  unfold gn
  dsimp only at this
  omega
end
section
/-! counts, bits, frames -/
/-- how many are at most p -/
noncomputable def cw (f : Nat → Nat) (p : Nat) : Nat → Nat
  | 0 => 0
  | n + 1 => cw f p n + (if f n ≤ p then 1 else 0)
noncomputable def ce (f : Nat → Nat) (p : Nat) : Nat → Nat
  | 0 => 0
  | n + 1 => ce f p n + (if f n = p then 1 else 0)
theorem cw_le (f : Nat → Nat) (p : Nat) : ∀ n, cw f p n ≤ n
  | 0 => Nat.le_refl _
  | n + 1 => by
    have := cw_le f p n
    unfold cw
    split <;> omega
theorem cw_succ (f : Nat → Nat) (p : Nat) : ∀ n, cw f (p + 1) n = cw f p n + ce f (p + 1) n
  | 0 => rfl
  | n + 1 => by
    have := cw_succ f p n
    unfold cw ce
    by_cases h1 : f n ≤ p
    · rw [if_pos h1, if_pos (show f n ≤ p + 1 by omega), if_neg (show ¬ f n = p + 1 by omega)]; omega
    · by_cases h2 : f n = p + 1
      · rw [if_neg h1, if_pos (show f n ≤ p + 1 by omega), if_pos h2]; omega
      · rw [if_neg h1, if_neg (show ¬ f n ≤ p + 1 by omega), if_neg h2]; omega
theorem ce_mono (f : Nat → Nat) (p : Nat) {c n : Nat} (h : c ≤ n) : ce f p c ≤ ce f p n := by
  induction n with
  | zero => have : c = 0 := by omega
            subst this; exact Nat.le_refl _
  | succ n ih =>
    by_cases hc : c = n + 1
    · subst hc; exact Nat.le_refl _
    · have := ih (by omega)
      show ce f p c ≤ ce f p n + (if f n = p then 1 else 0)
      omega
theorem ce_lt (f : Nat → Nat) (p : Nat) {c n : Nat} (h : c < n) (e : f c = p) : ce f p c + 1 ≤ ce f p n := by
  have h1 := ce_mono f p (c := c + 1) (n := n) h
  have h2 : ce f p (c + 1) = ce f p c + 1 := by unfold ce; rw [if_pos e]; cases c <;> rfl
  omega
theorem cw_eq {f g : Nat → Nat} {p : Nat} : ∀ {n : Nat}, (∀ c, c < n → f c = g c) → cw f p n = cw g p n
  | 0, _ => rfl
  | n + 1, h => by
    unfold cw
    rw [cw_eq (n := n) (fun c hc => h c (by omega)), h n (by omega)]
theorem cw_all {f : Nat → Nat} {p : Nat} : ∀ {n : Nat}, n ≤ cw f p n → ∀ c, c < n → f c ≤ p
  | 0, _, c, hc => absurd hc (Nat.not_lt_zero _)
  | n + 1, h, c, hc => by
    have h1 := cw_le f p n
    unfold cw at h
    by_cases hn : f n ≤ p
    · rw [if_pos hn] at h
      by_cases hcn : c = n
      · subst hcn; exact hn
      · exact cw_all (n := n) (by omega) c (by omega)
    · rw [if_neg hn] at h; omega
/-- how many bits are set -/
noncomputable def pcn (m : Nat) : Nat → Nat
  | 0 => 0
  | n + 1 => pcn m n + (if isB m n = true then 1 else 0)
theorem pcn_le (m : Nat) : ∀ n, pcn m n ≤ n
  | 0 => Nat.le_refl _
  | n + 1 => by
    have := pcn_le m n
    unfold pcn
    split <;> omega
theorem pcn_lt {m k : Nat} (hk : isB m k = false) : ∀ {n : Nat}, k < n → pcn m n < n
  | 0, h => absurd h (Nat.not_lt_zero _)
  | n + 1, h => by
    unfold pcn
    by_cases hkn : k = n
    · subst hkn
      rw [hk, if_neg (by decide)]
      have := pcn_le m k
      omega
    · have := pcn_lt hk (n := n) (by omega)
      split <;> omega
end
