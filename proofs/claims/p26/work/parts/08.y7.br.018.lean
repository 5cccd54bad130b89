section
theorem arg_lv_ok : ∀ {l : List CV} {vs : List Value} {i : Nat}, f2 cv_g l vs → f2 (fun (q : Nat × CV) v => cv_g q.2 v ∧ pm_get (lv_args i vs) q.1 = some v) (arg_lv i l) vs
  | [], [], _, _ => trivial
  | [], _ :: _, _, h => h.elim
  | _ :: _, [], _, h => h.elim
  | c :: l, v :: vs, i, h => by
    have hc := cv_cat_eq h.1
    have hn : (bif Nat.beq (cv_cat c) 2 then i + 2 else i + 1) = if v.category = 2 then i + 2 else i + 1 := by
      rw [hc]
      rcases c with ⟨lo, hi⟩ | ⟨lo, hi⟩ | a | k | ⟨⟩ <;> rfl
    refine ⟨⟨h.1, ?_⟩, ?_⟩
    · unfold lv_args
      exact pm_get_self
    · rw [hn]
      refine f2_mono (fun q u hq => ⟨hq.1, ?_⟩) (arg_lv_ok (l := l) (vs := vs) (i := if v.category = 2 then i + 2 else i + 1) h.2)
      have hge := lv_args_ge hq.2
      unfold lv_args
      refine pm_get_ne ?_ hq.2
      split at hge <;> omega
theorem f2_in {α β : Type} {R : α → β → Prop} {a : α} : ∀ {l : List α} {m : List β}, f2 R l m → a ∈ l → ∃ b, R a b
  | [], [], _, h => absurd h List.not_mem_nil
  | [], _ :: _, h, _ => h.elim
  | _ :: _, [], h, _ => h.elim
  | _ :: _, b :: _, h, hm => by
    cases List.mem_cons.mp hm with
    | inl e => subst e; exact ⟨b, h.1⟩
    | inr hm => exact f2_in h.2 hm
/-- a method is checked: its entry and its cuts -/
noncomputable def sum_chk {w : AW} (tab : List (Nat × AR w)) (sums : List Sum1) (cuts : List (Nat × List Cut)) (spl : List Nat) (K : List Nat) (N : Nat) (S : Sum1) : Bool :=
  cuts_chk (tab, sums, cuts, spl, arg_lv 0 S.2.1, S.2.2.2.2.2, S.2.2.2.2.1, K) N && (match cut_as 0 S.2.2.2.2.1 K (arg_lv 0 S.2.1, [], S.2.2.1, S.2.2.2.1, []) with
    | some A => ar_run (tab, sums, cuts, spl, arg_lv 0 S.2.1, S.2.2.2.2.2, S.2.2.2.2.1, K) none N A
    | none => false)
theorem cv_sz_le : ∀ {l : List CV} {vs : List Value}, f2 cv_g l vs → (lg_sl vs).length = (l.map cv_cat).sum
  | [], [], _ => rfl
  | [], _ :: _, h => h.elim
  | _ :: _, [], h => h.elim
  | c :: l, v :: vs, h => by
    have ih := cv_sz_le h.2
    have hc := cv_cat_eq h.1
    unfold lg_sl at ih ⊢
    rw [List.flatMap_cons, List.length_append, ih, List.map_cons, List.sum_cons, ← hc]
    rcases c with ⟨lo, hi⟩ | ⟨lo, hi⟩ | a | k | ⟨⟩ <;> cases v <;> first | rfl | exact h.1.elim
theorem meth_ok {w : AW} {P : List (Nat × pm_M)} {I : pm_M} {tab : List (Nat × AR w)} {sums : List Sum1} {cuts : List (Nat × List Cut)} {spl K : List Nat} {N d : Nat} {S : Sum1} (hI : pm_at P S.1 = some I) (ht : I.2.2.2.2.2.2.2 = ar_tab tab) (hz : Nat.ble (S.2.1.map cv_cat).sum I.2.2.1 = true) (hS : ∀ T ∈ sums, sum_g w (pm_Rt P d) T) (hc : sum_chk tab sums cuts spl K N S = true) : sum_g w (pm_Rt P (d + 1)) S := by
  intro h as hh ha hm hf
  unfold sum_chk at hc
  rw [Bool.and_eq_true] at hc
  have hal := arg_lv_ok (i := 0) ha
  have hg : cut_g w S.2.2.2.2.1 K h (lv_args 0 as) (arg_lv 0 S.2.1, [], S.2.2.1, S.2.2.2.1, []) (0, lv_args 0 as, [], h, I.2.2.2.2.2.1, I.2.2.2.2.2.2.1) :=
    ⟨fun i k hik => (by obtain ⟨v, q1, q2⟩ := f2_in hal hik; exact ⟨v, q2, q1⟩), trivial, hh, hm, hf, fun a k _ => rfl, fun i _ => rfl⟩
  obtain ⟨A, n, ρ, e1, e2, e3, e4⟩ := cut_as_ok hg
  have hr := hc.2
  have e1' : cut_as 0 S.2.2.2.2.1 K (arg_lv 0 S.2.1, [], S.2.2.1, S.2.2.2.1, []) = some A := e1
  rw [e1'] at hr
  dsimp only at hr
  obtain ⟨o, o1, o2, o3, o4⟩ := ar_run_ok (E := (n, ρ, h, lv_args 0 as)) (cl0 := []) (hh0 := []) (as := as) (call := pm_Rt P d) hS hal (fun l0 m0 rk0 hr => by cases hr) (fun cl c σ k1 k2 k3 _ => cuts_ok hS hal hc.1 _ cl c σ k1 k2 k3 (Nat.lt_succ_self _)) N A _ hr e2
  refine ⟨o.1, o.2, ⟨I, hI, ?_, ?_⟩, o2, o3, o4⟩
  · rw [cv_sz_le ha]
    exact Nat.le_of_ble_eq_true hz
  · rw [ht]
    exact o1
/-- more depth does no harm -/
theorem pm_go_up {look : Nat → Option pm_I} {call call' : pm_Call} (hc : ∀ y h as h' r, call y h as h' r → call' y h as h' r) : ∀ (n : Nat) (σ : pm_S) (o : pm_H × Option Value), pm_go look call n σ o → pm_go look call' n σ o
  | 0, _, _, h => h
  | n + 1, σ, o, h => by
    unfold pm_go at h ⊢
    split at h
    · exact h
    · split at h
      · exact h
      · exact pm_go_up hc n _ o h
    · obtain ⟨h', r, e1, e2, e3⟩ := h
      exact ⟨h', r, hc _ _ _ _ _ e1, e2, pm_go_up hc n _ o e3⟩
    · exact h
theorem pm_Rt_up {P : List (Nat × pm_M)} : ∀ (d : Nat) (y : Nat) (h : pm_H) (as : List Value) (h' : pm_H) (r : Option Value), pm_Rt P d y h as h' r → pm_Rt P (d + 1) y h as h' r
  | 0, _, _, _, _, _, h => h.elim
  | d + 1, y, h, as, h', r, ⟨I, e1, e2, n, e3⟩ => ⟨I, e1, e2, n, pm_go_up (pm_Rt_up d) n _ _ e3⟩
theorem sum_up {w : AW} {P : List (Nat × pm_M)} {S : Sum1} {d : Nat} (h : sum_g w (pm_Rt P d) S) : ∀ e : Nat, sum_g w (pm_Rt P (d + e)) S
  | 0 => h
  | e + 1 => fun h0 as a1 a2 a3 a4 => by
    obtain ⟨h', r, q1, q2⟩ := sum_up h e h0 as a1 a2 a3 a4
    exact ⟨h', r, pm_Rt_up _ _ _ _ _ _ q1, q2⟩
end
section
/-! THE EXECUTOR (second writing), part 14: every kind of row with its cover -/
section AIR
variable {w : AW}
noncomputable def R_const (v : Value) (n : Nat) : ARow w := ⟨(s_const v n, a_const v n, ck_const v n), (a_const_ok v n), ck_const_ok v n⟩
noncomputable def R_il (i n : Nat) : ARow w := ⟨(s_il i n, a_il i n, ck_ld 26 21 i n), (a_il_ok i n), ck_il_ok i n⟩
noncomputable def R_ll (i n : Nat) : ARow w := ⟨(s_ll i n, a_ll i n, ck_ld 30 22 i n), (a_ll_ok i n), ck_ll_ok i n⟩
noncomputable def R_al (i n : Nat) : ARow w := ⟨(s_al i n, a_al i n, ck_ld 42 25 i n), (a_al_ok i n), ck_al_ok i n⟩
noncomputable def R_is (i n : Nat) : ARow w := ⟨(s_is i n, a_is i n, ck_st 59 54 0 i n), (a_is_ok i n), ck_is_ok i n⟩
noncomputable def R_ls (i n : Nat) : ARow w := ⟨(s_ls i n, a_ls i n, ck_ls i n), (a_ls_ok i n), ck_ls_ok i n⟩
noncomputable def R_as (i n : Nat) : ARow w := ⟨(s_as i n, a_as i n, ck_as i n), (a_as_ok i n), ck_as_ok i n⟩
noncomputable def R_inc (i : Nat) (d : Int32) (n : Nat) : ARow w := ⟨(s_inc i d n, a_inc i d n, ck_inc i d n), (a_inc_ok i d n), ck_inc_ok i d n⟩
noncomputable def R_goto (n : Nat) : ARow w := ⟨(s_goto n, a_goto n, ck_goto n), (a_goto_ok n), ck_goto_ok n⟩
noncomputable def R_dup (n : Nat) : ARow w := ⟨(s_dup n, a_dup n, ck_1 89 n), (a_dup_ok n), ck_1_ok (g := s_dup) (fun _ _ _ _ _ h => k_dup (dk_dup h)) n⟩
noncomputable def R_dup2 (n : Nat) : ARow w := ⟨(s_dup2 n, a_dup2 n, ck_1 92 n), (a_dup2_ok n), ck_1_ok (g := s_dup2) (fun _ _ _ _ _ h => k_dup2 (dk_dup2 h)) n⟩
end AIR
end
