section
section STS
variable {h : pm_H} {d k j : Nat}
theorem sp_slen (hk : k < 8) : Sp (d + 2) 4 h [.retAddr (4 + k)] (fun h' r => h' = h ∧ r = some (.int (nJ (pm_len.getD k 0)))) := by
  refine Sp_of aiJ0_length_8abf5 rfl rfl rfl ?_
  have L0 : pm_get (lv_args 0 [.retAddr (4 + k)]) 0 = some (.retAddr (4 + k)) := rfl
  generalize lv_args 0 [.retAddr (4 + k)] = lv at L0 ⊢
  refine E_alS rfl L0 ?_
  refine E_sval rfl hk ?_
  refine E_sblen rfl hk ?_
  refine E_alS rfl L0 ?_
  refine E_call rfl (sp_coder (d := d) hk) (chkT hk rfl rfl (by show 1 ≤ 8; decide)) (fun h1 r1 => ?_)
  rintro ⟨e1, f1⟩
  rw [e1, f1]
  refine E_bin rfl (len_tab ⟨k, hk⟩).1 ?_
  exact E_rti rfl ⟨rfl, rfl⟩
theorem sp_ck3 {x y : Int32} (h0 : ¬ x < 0) (h1 : x < y) : Sp (d + 1) 6 h [.int x, .int y, .retAddr 3] (fun h' r => h' = h ∧ r = some (.int x)) := by
  refine Sp_of aiJ3_checkIndex_8e157 rfl rfl rfl ?_
  have L0 : pm_get (lv_args 0 [.int x, .int y, .retAddr 3]) 0 = some (.int x) := rfl
  have L1 : pm_get (lv_args 0 [.int x, .int y, .retAddr 3]) 1 = some (.int y) := rfl
  generalize lv_args 0 [.int x, .int y, .retAddr 3] = lv at L0 L1 ⊢
  refine E_il rfl L0 ?_
  refine E_ifF rfl (decide_eq_false h0) ?_
  refine E_il rfl L0 ?_
  refine E_il rfl L1 ?_
  refine E_icT rfl (decide_eq_true h1) ?_
  refine E_il rfl L0 ?_
  exact E_rti rfl ⟨rfl, rfl⟩
theorem sp_ck0 {x y : Int32} (h0 : ¬ x < 0) (h1 : x < y) : Sp (d + 2) 1 h [.int x, .int y] (fun h' r => h' = h ∧ r = none) := by
  refine Sp_of aiJ0_checkIndex_df160 rfl rfl rfl ?_
  have L0 : pm_get (lv_args 0 [.int x, .int y]) 0 = some (.int x) := rfl
  have L1 : pm_get (lv_args 0 [.int x, .int y]) 1 = some (.int y) := rfl
  generalize lv_args 0 [.int x, .int y] = lv at L0 L1 ⊢
  refine E_il rfl L0 ?_
  refine E_il rfl L1 ?_
  refine E_c rfl ?_
  refine E_call rfl (sp_ck3 (d := d) h0 h1) (chkS rfl (by show 0 ≤ 8; decide)) (fun h2 r2 => ?_)
  rintro ⟨e2, f2⟩
  rw [e2, f2]
  refine E_pop rfl rfl ?_
  exact E_ret rfl ⟨rfl, rfl⟩
theorem E_rt5 {look : Nat → Option pm_I} {call : pm_Call} {Q : pm_H → Option Value → Prop} {pc : Nat} {lv : List (Nat × Value)} {z : Nat × Nat} {v : Int32} (h1 : look pc = some (.inr (.inr 5))) (hn : narrow .char (.int v) = .int v) (hq : Q h (some (.int v))) : Ends look call (pc, lv, [.int v], h, z) Q := ⟨h, some (.int v), Go_ret h1 ⟨v, rfl, hn, rfl⟩, hq⟩
theorem sp_char1 (hk : k < 8) (hj : j < pm_len.getD k 0) : Sp (d + 3) 5 h [.retAddr (12 + k), .int (nJ j)] (fun h' r => h' = h ∧ r = some (.int ((pm_byt.getD k []).getD j 0))) := by
  obtain ⟨t1, t2, t3⟩ := byt_tab ⟨k, hk⟩
  dsimp only at t1 t2 t3
  obtain ⟨t4, t5⟩ := t3 ⟨j, by omega⟩
  dsimp only at t4 t5
  refine Sp_of aiJ1_charAt_3b067 rfl rfl rfl ?_
  have L0 : pm_get (lv_args 0 [.retAddr (12 + k), .int (nJ j)]) 0 = some (.retAddr (12 + k)) := rfl
  have L1 : pm_get (lv_args 0 [.retAddr (12 + k), .int (nJ j)]) 1 = some (.int (nJ j)) := rfl
  generalize lv_args 0 [.retAddr (12 + k), .int (nJ j)] = lv at L0 L1 ⊢
  refine E_il rfl L1 ?_
  refine E_alS rfl L0 ?_
  refine E_sblen rfl hk ?_
  refine E_call rfl (sp_ck0 (d := d) (nJ_lt0 (by omega)) (by rw [(len_tab ⟨k, hk⟩).2]; exact (nJ_lt (by omega) (by show pm_len.getD k 0 < _; omega)).mpr hj)) (chkS rfl (by show 0 ≤ 8; decide)) (fun h2 r2 => ?_)
  rintro ⟨e2, f2⟩
  rw [e2, f2]
  refine E_alS rfl L0 ?_
  refine E_il rfl L1 ?_
  refine E_sbald rfl hk hj (by omega) ?_
  refine E_c rfl ?_
  refine E_bin rfl rfl ?_
  refine E_un rfl ?_
  rw [t4]
  exact E_rt5 rfl t5 ⟨rfl, rfl⟩
theorem sp_charAt (hk : k < 8) (hj : j < pm_len.getD k 0) : Sp (d + 4) 0 h [.retAddr (4 + k), .int (nJ j)] (fun h' r => h' = h ∧ r = some (.int ((pm_byt.getD k []).getD j 0))) := by
  obtain ⟨t1, t2, t3⟩ := byt_tab ⟨k, hk⟩
  dsimp only at t1 t2 t3
  obtain ⟨t4, t5⟩ := t3 ⟨j, by omega⟩
  dsimp only at t4 t5
  refine Sp_of aiJ0_charAt_5068e rfl rfl rfl ?_
  have L0 : pm_get (lv_args 0 [.retAddr (4 + k), .int (nJ j)]) 0 = some (.retAddr (4 + k)) := rfl
  have L1 : pm_get (lv_args 0 [.retAddr (4 + k), .int (nJ j)]) 1 = some (.int (nJ j)) := rfl
  generalize lv_args 0 [.retAddr (4 + k), .int (nJ j)] = lv at L0 L1 ⊢
  refine E_alS rfl L0 ?_
  refine E_call rfl (sp_latin (d := d + 2) hk) (chkT hk rfl rfl (by show 0 ≤ 8; decide)) (fun h1 r1 => ?_)
  rintro ⟨e1, f1⟩
  rw [e1, f1]
  refine E_ifF rfl (by decide) ?_
  refine E_alS rfl L0 ?_
  refine E_sval rfl hk ?_
  refine E_il rfl L1 ?_
  refine E_call rfl (sp_char1 (d := d) hk hj) (chkS rfl (by show 0 ≤ 8; decide)) (fun h2 r2 => ?_)
  rintro ⟨e2, f2⟩
  rw [e2, f2]
  exact E_rt5 rfl t5 ⟨rfl, rfl⟩
end STS
section COP
variable {T : Nat → Int32} {L d s k : Nat} {h : pm_H}
theorem iw_loop (A : TA T L h) (g6 : gi h 3 6 = nJ s) (hk : k < 8) (h1 : tkk T L s = 1) (h2 : tke T L s = s + pm_len.getD k 0) (h3 : s + pm_len.getD k 0 ≤ L) (j : Nat) : ∀ {i : Nat} (lv : List (Nat × Value)), i + j = pm_len.getD k 0 → (∀ m, m < i → T (s + m) = (pm_byt.getD k []).getD m 0) → pm_get lv 0 = some (.ref 3) → pm_get lv 1 = some (.retAddr (4 + k)) → pm_get lv 2 = some (.int (nJ i)) → Ends (pm_at tX2_isWord) (pm_Rt pm_P (d + 4)) (28, lv, [], h, 0, 0) (fun h' r => h' = h ∧ r = some (.int (zb (wIs T L s (pm_byt.getD k []) = true)))) := by
  obtain ⟨t1, t2, t3⟩ := byt_tab ⟨k, hk⟩
  dsimp only at t1 t2 t3
  have h5 := A.2.2.1
  induction j with
  | zero =>
    intro i lv hj hm L0 L1 L2
    refine E_il rfl L2 ?_
    refine E_alS rfl L1 ?_
    refine E_call rfl (sp_slen (d := d + 2) hk) (chkT hk rfl rfl (by show 1 ≤ 8; decide)) (fun h4 r4 => ?_)
    rintro ⟨e4, f4⟩
    rw [e4, f4]
    refine E_icT rfl (decide_eq_true ((nJ_le (by omega) (by omega)).mpr (by omega))) ?_
    refine E_ci 1 rfl (by decide) ?_
    exact E_rtz rfl (.inr rfl) ⟨rfl, by rw [zb_T (wIs_iff.mpr ⟨h1, by rw [t1]; exact h2, fun i hi => hm i (by omega)⟩)]⟩
  | succ j ih =>
    intro i lv hj hm L0 L1 L2
    refine E_il rfl L2 ?_
    refine E_alS rfl L1 ?_
    refine E_call rfl (sp_slen (d := d + 2) hk) (chkT hk rfl rfl (by show 1 ≤ 8; decide)) (fun h4 r4 => ?_)
    rintro ⟨e4, f4⟩
    rw [e4, f4]
    refine E_icF rfl (decide_eq_false (fun q => absurd ((nJ_le (by omega) (by omega)).mp q) (by omega))) ?_
    refine E_al rfl L0 ?_
    refine E_ogr (q := 1) rfl A.1 rfl rfl ?_
    refine E_ogr (q := 2) rfl A.1 rfl rfl ?_
    refine E_al rfl L0 ?_
    refine E_ogf (q := (0, 500)) rfl A.1 rfl rfl g6 ?_
    refine E_il rfl L2 ?_
    refine E_bin rfl (nJ_add _ _) ?_
    refine E_bal (a := 2) (len := 500) rfl A.1 rfl (by omega) (by decide) ?_
    rw [A.2.2.2 (s + i) (by omega)]
    refine E_alS rfl L1 ?_
    refine E_il rfl L2 ?_
    refine E_call rfl (sp_charAt (d := d) hk (by omega)) (chkT hk rfl rfl (by show 1 ≤ 8; decide)) (fun h6 r6 => ?_)
    rintro ⟨e6, f6⟩
    rw [e6, f6]
    by_cases b : T (s + i) = (pm_byt.getD k []).getD i 0
    · refine E_icT rfl (decide_eq_true b) ?_
      refine E_inc rfl L2 (nJ_inc _) (fun lv1 K2 kp => ?_)
      refine E_goto rfl ?_
      refine ih lv1 (by omega) (fun m hm2 => ?_) (kp 0 _ (by decide) rfl L0) (kp 1 _ (by decide) rfl L1) K2
      by_cases e : m = i
      · rw [e]; exact b
      · exact hm m (by omega)
    · refine E_icF rfl (decide_eq_false b) ?_
      refine E_ci 0 rfl (by decide) ?_
      exact E_rtz rfl (.inl rfl) ⟨rfl, by rw [zb_F (fun q => b ((wIs_iff.mp q).2.2 i (by omega)))]⟩
theorem sp_isWord (C : CS T L (.inr s) h) (hk : k < 8) : Sp (d + 5) 29 h [.ref 3, .retAddr (4 + k)] (fun h' r => h' = h ∧ r = some (.int (zb (wIs T L s (pm_byt.getD k []) = true)))) := by
  obtain ⟨A, ⟨c6, c7, c5, c8⟩, -, -, hs⟩ := C
  obtain ⟨t1, t2, t3⟩ := byt_tab ⟨k, hk⟩
  dsimp only at t1 t2 t3
  have h5 := A.2.2.1
  have he := tke_le (T := T) hs
  have hkk := tkk_le (T := T) (L := L) (s := s)
  refine Sp_of aiX2_isWord rfl rfl rfl ?_
  have L0 : pm_get (lv_args 0 [.ref 3, .retAddr (4 + k)]) 0 = some (.ref 3) := rfl
  have L1 : pm_get (lv_args 0 [.ref 3, .retAddr (4 + k)]) 1 = some (.retAddr (4 + k)) := rfl
  generalize lv_args 0 [.ref 3, .retAddr (4 + k)] = lv at L0 L1 ⊢
  have no : ¬ (tkk T L s = 1 ∧ tke T L s = s + pm_len.getD k 0) → Ends (pm_at tX2_isWord) (pm_Rt pm_P (d + 4)) (24, lv, [], h, 0, 0) (fun h' r => h' = h ∧ r = some (.int (zb (wIs T L s (pm_byt.getD k []) = true)))) := by
    intro q
    refine E_ci 0 rfl (by decide) ?_
    exact E_rtz rfl (.inl rfl) ⟨rfl, by rw [zb_F (fun z => q ⟨(wIs_iff.mp z).1, by rw [← t1]; exact (wIs_iff.mp z).2.1⟩)]⟩
  refine E_al rfl L0 ?_
  refine E_ogf (q := (0, 4)) rfl A.1 rfl rfl c5 ?_
  refine E_ci 1 rfl (by decide) ?_
  by_cases b1 : tkk T L s = 1
  · refine E_icF rfl (decide_eq_false (fun q => q (by rw [b1]))) ?_
    refine E_al rfl L0 ?_
    refine E_ogf (q := (0, 500)) rfl A.1 rfl rfl c7 ?_
    refine E_al rfl L0 ?_
    refine E_ogf (q := (0, 500)) rfl A.1 rfl rfl c6 ?_
    refine E_bin rfl (nJ_sub he.1) ?_
    refine E_alS rfl L1 ?_
    refine E_call rfl (sp_slen (d := d + 2) hk) (chkT hk rfl rfl (by show 1 ≤ 8; decide)) (fun h4 r4 => ?_)
    rintro ⟨e4, f4⟩
    rw [e4, f4]
    by_cases b2 : tke T L s - s = pm_len.getD k 0
    · refine E_icT rfl (decide_eq_true (by rw [b2])) ?_
      refine E_ci 0 rfl (by decide) ?_
      refine E_is rfl (fun lv1 K2 kp => ?_)
      exact iw_loop A c6 hk b1 (by omega) (by omega) (pm_len.getD k 0) (i := 0) lv1 (by omega) (fun m hm => absurd hm (Nat.not_lt_zero m)) (kp 0 _ (by decide) rfl L0) (kp 1 _ (by decide) rfl L1) K2
    · refine E_icF rfl (decide_eq_false (fun q => b2 ((nJ_eq (by omega) (by omega)).mp q))) ?_
      exact no (fun z => b2 (by omega))
  · refine E_icT rfl (decide_eq_true (fun q => b1 ((nJ_eq (by omega) (by omega)).mp q))) ?_
    exact no (fun z => b1 z.1)
theorem sp_refuse (C : CS T L (.inr s) h) (k1 : 1 ≤ k) (k3 : k ≤ 3) : Sp (d + 1) 38 h [.ref 3, .int (nJ k)] (fun h' r => r = some (.int (nJ 0)) ∧ fr_g [(3, 1, 2)] h h' ∧ CS T L (.inl (k, s)) h') := by
  obtain ⟨A, ⟨c6, c7, c5, c8⟩, -, -, hs⟩ := C
  have h5 := A.2.2.1
  refine Sp_of aiX2_refuse rfl rfl rfl ?_
  have L0 : pm_get (lv_args 0 [.ref 3, .int (nJ k)]) 0 = some (.ref 3) := rfl
  have L1 : pm_get (lv_args 0 [.ref 3, .int (nJ k)]) 1 = some (.int (nJ k)) := rfl
  generalize lv_args 0 [.ref 3, .int (nJ k)] = lv at L0 L1 ⊢
  refine E_al rfl L0 ?_
  refine E_il rfl L1 ?_
  refine E_opf (q := (0, 3)) rfl A.1 rfl rfl ?_
  have hh1 : HH (pt h 3 1 (nJ k)) := HH_ptn A.1 rfl (by omega) (by omega) (by omega)
  refine E_al rfl L0 ?_
  refine E_al rfl L0 ?_
  refine E_ogf (q := (0, 500)) (v := nJ s) rfl hh1 rfl rfl (by rw [gi_ne (by omega)]; exact c6) ?_
  refine E_opf (q := ((-1), 500)) rfl hh1 rfl rfl ?_
  have hh2 : HH (pt (pt h 3 1 (nJ k)) 3 2 (nJ s)) := HH_ptn hh1 rfl (by omega) (by omega) (by omega)
  refine E_ci 0 rfl (by decide) ?_
  refine E_rtz rfl (.inl rfl) ⟨rfl, fr_ptr (l := 1) (u := 2) rfl (by omega) (by omega) (fr_ptr (l := 1) (u := 2) rfl (by omega) (by omega) (fr_rf _ _)), ?_, ?_, ?_, k1, k3, hs⟩
  · exact TA_pt (TA_pt A (by omega) hh1) (by omega) hh2
  · rw [gi_ne (by omega)]; exact gi_ptn A.1 rfl (by omega) (by omega) (by omega)
  · exact gi_ptn hh1 rfl (by omega) (by omega) (by omega)
end COP
end
