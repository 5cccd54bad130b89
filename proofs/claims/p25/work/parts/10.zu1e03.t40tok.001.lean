section
noncomputable def TA (T : Nat → Int32) (L : Nat) (h : pm_H) : Prop := HH h ∧ gi h 1 1 = nJ L ∧ L ≤ 500 ∧ ∀ j, j < L → gi h 2 j = T j
theorem gi_ptn {h : pm_H} {a k v : Nat} {lo hi : Int} (hh : HH h) (hb : bd a k = some (lo, hi)) (hv : v < 2147483648) (h1 : lo ≤ (v : Int)) (h2 : (v : Int) ≤ hi) : gi (pt h a k (nJ v)) a k = nJ v := gi_pt hh hb (by rw [nJ_toInt hv]; exact h1) (by rw [nJ_toInt hv]; exact h2)
theorem TA_pt {T : Nat → Int32} {L a k : Nat} {v : Int32} {h : pm_H} (A : TA T L h) (ha : 3 ≤ a) (hh : HH (pt h a k v)) : TA T L (pt h a k v) := ⟨hh, by rw [gi_ne (by omega)]; exact A.2.1, A.2.2.1, fun j hj => by rw [gi_ne (by omega)]; exact A.2.2.2 j hj⟩
theorem TA_fr {T : Nat → Int32} {L : Nat} {M : List Rng} {h h' : pm_H} (hf : fr_g M h h') (h1 : M.all (fun r => !(Nat.beq r.1 1)) = true) (h2 : M.all (fun r => !(Nat.beq r.1 2)) = true) (hh : HH h') (A : TA T L h) : TA T L h' := ⟨hh, by rw [fr_gi hf (rg_no h1 _)]; exact A.2.1, A.2.2.1, fun j hj => by rw [fr_gi hf (rg_no h2 _)]; exact A.2.2.2 j hj⟩
section CTK
variable {look : Nat → Option pm_I} {call : pm_Call} {Q : pm_H → Option Value → Prop} {pc n1 n2 n3 n4 n5 n6 i f : Nat} {lv : List (Nat × Value)} {st : List Value} {h : pm_H} {z : Nat × Nat} {T : Nat → Int32} {L : Nat}
theorem E_rlen (h1 : look pc = some (.inl (s_al 0 n1))) (h2 : look n1 = some (.inl (s_getf 2 3 n2))) (h3 : look n2 = some (.inl (s_getf 6 1 n3))) (L0 : pm_get lv 0 = some (.ref 3)) (A : TA T L h) (k : Ends look call (n3, lv, .int (nJ L) :: st, h, z) Q) : Ends look call (pc, lv, st, h, z) Q :=
  E_al h1 L0 (E_ogr (q := 1) h2 A.1 rfl rfl (E_ogf (q := (0, 500)) h3 A.1 rfl rfl A.2.1 k))
theorem E_rbyt (h1 : look pc = some (.inl (s_al 0 n1))) (h2 : look n1 = some (.inl (s_getf 2 3 n2))) (h3 : look n2 = some (.inl (s_getf 6 0 n3))) (h4 : look n3 = some (.inl (s_al 0 n4))) (h5 : look n4 = some (.inl (s_getf 2 f n5))) (h6 : look n5 = some (.inl (s_bald n6))) (L0 : pm_get lv 0 = some (.ref 3)) (A : TA T L h) (hb : bd 3 f = some (0, 500)) (e : gi h 3 f = nJ i) (hi : i < L) (k : Ends look call (n6, lv, .int (T i) :: st, h, z) Q) : Ends look call (pc, lv, st, h, z) Q := by
  have h5' := A.2.2.1
  refine E_al h1 L0 ?_
  refine E_ogr (q := 1) h2 A.1 rfl rfl ?_
  refine E_ogr (q := 2) h3 A.1 rfl rfl ?_
  refine E_al h4 L0 ?_
  refine E_ogf h5 A.1 rfl hb e ?_
  refine E_bal (a := 2) (len := 500) h6 A.1 rfl (by omega) (by decide) ?_
  rw [A.2.2.2 i hi]
  exact k
theorem E_rinc (h1 : look pc = some (.inl (s_al 0 n1))) (h2 : look n1 = some (.inl (s_dup n2))) (h3 : look n2 = some (.inl (s_getf 2 7 n3))) (h4 : look n3 = some (.inl (s_const (.int 1) n4))) (h5 : look n4 = some (.inl (s_bin (fun x y => x + y) n5))) (h6 : look n5 = some (.inl (s_putf 2 7 .int n6))) (L0 : pm_get lv 0 = some (.ref 3)) (hh : HH h) (e : gi h 3 7 = nJ i) (k : Ends look call (n6, lv, st, pt h 3 7 (nJ (i + 1)), z) Q) : Ends look call (pc, lv, st, h, z) Q :=
  E_al h1 L0 (E_dup h2 rfl (E_ogf (q := (0, 500)) h3 hh rfl rfl e (E_ci 1 h4 (by decide) (E_bin h5 (nJ_add i 1) (E_opf (q := (0, 500)) h6 hh rfl rfl k)))))
end CTK
section CLS
variable {h : pm_H} {d : Nat} {b : Int32}
theorem ltb_lo (b1 : b < 97) : ltb b = false := by unfold ltb; rw [decide_eq_true b1]; rfl
theorem ltb_hi (b2 : 122 < b) : ltb b = false := by unfold ltb; rw [decide_eq_true b2]; exact Bool.and_false _
theorem ltb_in (b1 : ¬ b < 97) (b2 : ¬ 122 < b) : ltb b = true := by unfold ltb; rw [decide_eq_false b1, decide_eq_false b2]; rfl
theorem dgb_lo (b1 : b < 48) : dgb b = false := by unfold dgb; rw [decide_eq_true b1]; rfl
theorem dgb_hi (b2 : 57 < b) : dgb b = false := by unfold dgb; rw [decide_eq_true b2]; exact Bool.and_false _
theorem dgb_in (b1 : ¬ b < 48) (b2 : ¬ 57 < b) : dgb b = true := by unfold dgb; rw [decide_eq_false b1, decide_eq_false b2]; rfl
theorem zb_no {p : Bool} (e : p = false) : zb (p = true) = nJ 0 := zb_F (by rw [e]; decide)
theorem sp_isLetter : Sp (d + 1) 28 h [.int b] (fun h' r => h' = h ∧ r = some (.int (zb (ltb b = true)))) := by
  refine Sp_of aiX2_isLetter rfl rfl rfl ?_
  have L0 : pm_get (lv_args 0 [.int b]) 0 = some (.int b) := rfl
  generalize lv_args 0 [.int b] = lv at L0 ⊢
  refine E_il rfl L0 ?_
  refine E_c rfl ?_
  by_cases b1 : b < 97
  · refine E_icT rfl (decide_eq_true b1) ?_
    refine E_ci 0 rfl (by decide) ?_
    exact E_rtz rfl (.inl rfl) ⟨rfl, by rw [zb_no (ltb_lo b1)]⟩
  refine E_icF rfl (decide_eq_false b1) ?_
  refine E_il rfl L0 ?_
  refine E_c rfl ?_
  by_cases b2 : 122 < b
  · refine E_icT rfl (decide_eq_true b2) ?_
    refine E_ci 0 rfl (by decide) ?_
    exact E_rtz rfl (.inl rfl) ⟨rfl, by rw [zb_no (ltb_hi b2)]⟩
  refine E_icF rfl (decide_eq_false b2) ?_
  refine E_ci 1 rfl (by decide) ?_
  refine E_goto rfl ?_
  exact E_rtz rfl (.inr rfl) ⟨rfl, by rw [zb_T (ltb_in b1 b2)]⟩
theorem sp_isDigit : Sp (d + 1) 27 h [.int b] (fun h' r => h' = h ∧ r = some (.int (zb (dgb b = true)))) := by
  refine Sp_of aiX2_isDigit rfl rfl rfl ?_
  have L0 : pm_get (lv_args 0 [.int b]) 0 = some (.int b) := rfl
  generalize lv_args 0 [.int b] = lv at L0 ⊢
  refine E_il rfl L0 ?_
  refine E_c rfl ?_
  by_cases b1 : b < 48
  · refine E_icT rfl (decide_eq_true b1) ?_
    refine E_ci 0 rfl (by decide) ?_
    exact E_rtz rfl (.inl rfl) ⟨rfl, by rw [zb_no (dgb_lo b1)]⟩
  refine E_icF rfl (decide_eq_false b1) ?_
  refine E_il rfl L0 ?_
  refine E_c rfl ?_
  by_cases b2 : 57 < b
  · refine E_icT rfl (decide_eq_true b2) ?_
    refine E_ci 0 rfl (by decide) ?_
    exact E_rtz rfl (.inl rfl) ⟨rfl, by rw [zb_no (dgb_hi b2)]⟩
  refine E_icF rfl (decide_eq_false b2) ?_
  refine E_ci 1 rfl (by decide) ?_
  refine E_goto rfl ?_
  exact E_rtz rfl (.inr rfl) ⟨rfl, by rw [zb_T (dgb_in b1 b2)]⟩
end CLS
/-- the token that the class's reader is at -/
noncomputable def CT (T : Nat → Int32) (L s : Nat) (h : pm_H) : Prop := gi h 3 6 = nJ s ∧ gi h 3 7 = nJ (tke T L s) ∧ gi h 3 5 = nJ (tkk T L s) ∧ (tkk T L s = 2 → ∃ v, v ≤ 9999 ∧ gi h 3 8 = nJ v ∧ Vr v (tkv T L s))
theorem Vr_c1 {v c d : Nat} (h : Vr v c) (hv : v < 1000) : Vr (10 * v + d) (min 1000 (10 * c + d)) := by
  unfold Vr at *
  omega
theorem Vr_c2 {v c d : Nat} (h : Vr v c) (hv : 1000 ≤ v) : Vr v (min 1000 (10 * c + d)) := by
  unfold Vr at *
  omega
theorem Vr_c3 {v c d : Nat} (h : Vr v c) : Vr (10 * v + d) (min 1000 (10 * c + d)) := by
  unfold Vr at *
  omega
section CTL
variable {T : Nat → Int32} {L d : Nat}
theorem rdl_loop (j : Nat) : ∀ {h : pm_H} {i : Nat} (lv : List (Nat × Value)), i + j = L → TA T L h → gi h 3 7 = nJ i → pm_get lv 0 = some (.ref 3) → Ends (pm_at tX2_readLetters) (pm_Rt pm_P (d + 1)) (5, lv, [], h, 0, 0) (fun h' r => r = none ∧ HH h' ∧ fr_g [(3, 7, 7)] h h' ∧ gi h' 3 7 = nJ (up (fun j => ltb (T j)) L i)) := by
  induction j with
  | zero =>
    intro h i lv hj A g L0
    have h5 := A.2.2.1
    refine E_al rfl L0 ?_
    refine E_ogf (q := (0, 500)) rfl A.1 rfl rfl g ?_
    refine E_rlen rfl rfl rfl L0 A ?_
    refine E_icT rfl (decide_eq_true ((nJ_le (by omega) (by omega)).mpr (by omega))) ?_
    rw [up_no (L := L) (i := i) (fun q => absurd q.1 (by omega))]
    exact E_ret rfl ⟨rfl, A.1, fr_rf _ _, g⟩
  | succ j ih =>
    intro h i lv hj A g L0
    have h5 := A.2.2.1
    refine E_al rfl L0 ?_
    refine E_ogf (q := (0, 500)) rfl A.1 rfl rfl g ?_
    refine E_rlen rfl rfl rfl L0 A ?_
    refine E_icF rfl (decide_eq_false (fun q => absurd ((nJ_le (by omega) (by omega)).mp q) (by omega))) ?_
    refine E_rbyt rfl rfl rfl rfl rfl rfl L0 A rfl g (by omega) ?_
    refine E_call rfl (sp_isLetter (d := d)) (chkS rfl (by show 0 ≤ 8; decide)) (fun h1 r1 => ?_)
    rintro ⟨e1, f1⟩
    rw [e1, f1]
    by_cases b : ltb (T i) = true
    · refine E_ifF rfl (by rw [zb_T b]; rfl) ?_
      refine E_rinc rfl rfl rfl rfl rfl rfl L0 A.1 g ?_
      refine E_goto rfl ?_
      have hh1 : HH (pt h 3 7 (nJ (i + 1))) := HH_ptn A.1 rfl (by omega) (by omega) (by omega)
      refine Ends_mono ?_ (ih lv (i := i + 1) (by omega) (TA_pt A (by omega) hh1) (gi_ptn A.1 rfl (by omega) (by omega) (by omega)) L0)
      rintro h' r ⟨q1, q2, q3, q4⟩
      refine ⟨q1, q2, fr_trans (fr_ptr (l := 7) (u := 7) rfl (by omega) (by omega) (fr_rf _ _)) q3, ?_⟩
      rw [up_go (p := fun j => ltb (T j)) (by omega) b]
      exact q4
    · refine E_ifT rfl (by rw [zb_F b]; rfl) ?_
      rw [up_no (L := L) (i := i) (fun q => b q.2)]
      exact E_ret rfl ⟨rfl, A.1, fr_rf _ _, g⟩
theorem sp_readLetters {h : pm_H} {i : Nat} (A : TA T L h) (hi : i ≤ L) (g : gi h 3 7 = nJ i) : Sp (d + 2) 34 h [.ref 3] (fun h' r => r = none ∧ HH h' ∧ fr_g [(3, 5, 5), (3, 7, 7)] h h' ∧ gi h' 3 5 = nJ 1 ∧ gi h' 3 7 = nJ (up (fun j => ltb (T j)) L i)) := by
  refine Sp_of aiX2_readLetters rfl rfl rfl ?_
  have L0 : pm_get (lv_args 0 [.ref 3]) 0 = some (.ref 3) := rfl
  generalize lv_args 0 [.ref 3] = lv at L0 ⊢
  refine E_al rfl L0 ?_
  refine E_ci 1 rfl (by decide) ?_
  refine E_opf (q := (0, 4)) rfl A.1 rfl rfl ?_
  have hh1 : HH (pt h 3 5 (nJ 1)) := HH_ptn A.1 rfl (by omega) (by omega) (by omega)
  refine Ends_mono ?_ (rdl_loop (d := d) (L - i) lv (i := i) (by omega) (TA_pt A (by omega) hh1) (by rw [gi_ne (by omega)]; exact g) L0)
  rintro h' r ⟨q1, q2, q3, q4⟩
  refine ⟨q1, q2, fr_trans (fr_ptr (l := 5) (u := 5) rfl (by omega) (by omega) (fr_rf _ _)) (fr_wk rfl q3), ?_, q4⟩
  rw [fr_gi q3 rfl]
  exact gi_ptn A.1 rfl (by omega) (by omega) (by omega)
theorem rdd_loop {s : Nat} (j : Nat) : ∀ {h : pm_H} {i m v : Nat} (lv : List (Nat × Value)), i + j = L → s + m = i → TA T L h → gi h 3 7 = nJ i → gi h 3 8 = nJ v → v ≤ 9999 → Vr v (vfo T s m) → pm_get lv 0 = some (.ref 3) → Ends (pm_at tX2_readDigits) (pm_Rt pm_P (d + 1)) (10, lv, [], h, 0, 0) (fun h' r => r = none ∧ HH h' ∧ fr_g [(3, 7, 8)] h h' ∧ gi h' 3 7 = nJ (up (fun j => dgb (T j)) L i) ∧ ∃ v, v ≤ 9999 ∧ gi h' 3 8 = nJ v ∧ Vr v (vfo T s (up (fun j => dgb (T j)) L i - s))) := by
  induction j with
  | zero =>
    intro h i m v lv hj hm A g g8 hv hV L0
    have h5 := A.2.2.1
    refine E_al rfl L0 ?_
    refine E_ogf (q := (0, 500)) rfl A.1 rfl rfl g ?_
    refine E_rlen rfl rfl rfl L0 A ?_
    refine E_icT rfl (decide_eq_true ((nJ_le (by omega) (by omega)).mpr (by omega))) ?_
    rw [up_no (L := L) (i := i) (fun q => absurd q.1 (by omega)), show i - s = m by omega]
    exact E_ret rfl ⟨rfl, A.1, fr_rf _ _, g, v, hv, g8, hV⟩
  | succ j ih =>
    intro h i m v lv hj hm A g g8 hv hV L0
    have h5 := A.2.2.1
    refine E_al rfl L0 ?_
    refine E_ogf (q := (0, 500)) rfl A.1 rfl rfl g ?_
    refine E_rlen rfl rfl rfl L0 A ?_
    refine E_icF rfl (decide_eq_false (fun q => absurd ((nJ_le (by omega) (by omega)).mp q) (by omega))) ?_
    refine E_rbyt rfl rfl rfl rfl rfl rfl L0 A rfl g (by omega) ?_
    refine E_call rfl (sp_isDigit (d := d)) (chkS rfl (by show 0 ≤ 8; decide)) (fun h1 r1 => ?_)
    rintro ⟨e1, f1⟩
    rw [e1, f1]
    by_cases b : dgb (T i) = true
    · have hd := dgb_iff.mp b
      refine E_ifF rfl (by rw [zb_T b]; rfl) ?_
      have vs : vfo T s (m + 1) = min 1000 (10 * vfo T s m + ((T i).toInt.toNat - 48)) := by rw [← hm]; rfl
      have eT : T i = nJ (T i).toInt.toNat := nJ_of (by omega)
      rw [up_go (p := fun j => dgb (T j)) (by omega) b]
      refine E_al rfl L0 ?_
      refine E_ogf rfl A.1 rfl rfl g8 ?_
      refine E_ci 1000 rfl (by decide) ?_
      by_cases b2 : 1000 ≤ v
      · refine E_icT rfl (decide_eq_true ((nJ_le (by omega) (by omega)).mpr b2)) ?_
        refine E_rinc rfl rfl rfl rfl rfl rfl L0 A.1 g ?_
        refine E_goto rfl ?_
        have hh1 : HH (pt h 3 7 (nJ (i + 1))) := HH_ptn A.1 rfl (by omega) (by omega) (by omega)
        refine Ends_mono ?_ (ih lv (i := i + 1) (m := m + 1) (by omega) (by omega) (TA_pt A (by omega) hh1) (gi_ptn A.1 rfl (by omega) (by omega) (by omega)) (by rw [gi_ne (by omega)]; exact g8) hv (by rw [vs]; exact Vr_c2 hV b2) L0)
        rintro h' r ⟨q1, q2, q3, q4⟩
        exact ⟨q1, q2, fr_trans (fr_ptr (l := 7) (u := 8) rfl (by omega) (by omega) (fr_rf _ _)) q3, q4⟩
      · refine E_icF rfl (decide_eq_false (fun q => b2 ((nJ_le (by omega) (by omega)).mp q))) ?_
        refine E_al rfl L0 ?_
        refine E_ci 10 rfl (by decide) ?_
        refine E_al rfl L0 ?_
        refine E_ogf rfl A.1 rfl rfl g8 ?_
        refine E_bin rfl (nJ_mul _ _) ?_
        refine E_rbyt rfl rfl rfl rfl rfl rfl L0 A rfl g (by omega) ?_
        refine E_bin (v := nJ (10 * v + (T i).toInt.toNat)) rfl (by rw [← nJ_add, ← eT]) ?_
        refine E_ci 48 rfl (by decide) ?_
        refine E_bin rfl (nJ_sub (by omega)) ?_
        refine E_opf rfl A.1 rfl rfl ?_
        have ev : 10 * v + (T i).toInt.toNat - 48 = 10 * v + ((T i).toInt.toNat - 48) := by omega
        rw [ev]
        have hh0 : HH (pt h 3 8 (nJ (10 * v + ((T i).toInt.toNat - 48)))) := HH_ptn A.1 rfl (by omega) (by omega) (by omega)
        have A0 := TA_pt A (by omega) hh0
        have g0 : gi (pt h 3 8 (nJ (10 * v + ((T i).toInt.toNat - 48)))) 3 7 = nJ i := by rw [gi_ne (by omega)]; exact g
        refine E_rinc rfl rfl rfl rfl rfl rfl L0 hh0 g0 ?_
        refine E_goto rfl ?_
        have hh1 : HH (pt (pt h 3 8 (nJ (10 * v + ((T i).toInt.toNat - 48)))) 3 7 (nJ (i + 1))) := HH_ptn hh0 rfl (by omega) (by omega) (by omega)
        refine Ends_mono ?_ (ih lv (i := i + 1) (m := m + 1) (v := 10 * v + ((T i).toInt.toNat - 48)) (by omega) (by omega) (TA_pt A0 (by omega) hh1) (gi_ptn hh0 rfl (by omega) (by omega) (by omega)) (by rw [gi_ne (by omega)]; exact gi_ptn A.1 rfl (by omega) (by omega) (by omega)) (by omega) (by rw [vs]; exact Vr_c1 hV (by omega)) L0)
        rintro h' r ⟨q1, q2, q3, q4⟩
        exact ⟨q1, q2, fr_trans (fr_ptr (l := 7) (u := 8) rfl (by omega) (by omega) (fr_ptr (l := 7) (u := 8) rfl (by omega) (by omega) (fr_rf _ _))) q3, q4⟩
    · refine E_ifT rfl (by rw [zb_F b]; rfl) ?_
      rw [up_no (L := L) (i := i) (fun q => b q.2), show i - s = m by omega]
      exact E_ret rfl ⟨rfl, A.1, fr_rf _ _, g, v, hv, g8, hV⟩
end CTL
end
