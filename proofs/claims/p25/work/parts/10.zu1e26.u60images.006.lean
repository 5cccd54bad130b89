section
section WNQ
variable {h : pm_H} {v w : Int32}
theorem wna_le {ok : Bool} {a : Nat} (h : a ≤ 20) : wna ok a ≤ 20 := by
  unfold wna
  cases ok
  · exact h
  · show (if a < 20 then a + 1 else a) ≤ 20
    split <;> omega
theorem g8_wants (I : IVQ h) : Sp 100 198 h [.ref 0, .int v, .int w] (fun h' r => IVh h' ∧ ∃ x : Int32, r = some (.int x) ∧ half_w h' (wq h' v w) v w 0) := by
  refine Sp_le (by omega) (Sp_mono ?_ (Sp_and (top_all (as := [.ref 0, .int v, .int w]) q868 (by decide +kernel) I.1 ⟨rfl, aI _, aI _, trivial⟩) (Sp_and (sp_wants8 (d := 0) I.1.1) (sp_wants8X (d := 0) I.1.1))))
  rintro h' r ⟨⟨s1, s2, -⟩, ⟨⟨x, rfl⟩, g6⟩, -, wx⟩
  obtain ⟨-, b0, -, b4, -⟩ := g15 I.1.1
  obtain ⟨H, A, B⟩ := add_HF I.1.1 s1.1 I.2.2.1.2.2.2 s2 (fun e => okW_v b4 b0 e) wx
  rw [acts_eq I.2] at A B
  rw [wq_eq I.2] at g6
  have e1 : gi h' 83 0 = gi h 83 0 := fr_gi s2 (rg_no rfl _)
  have e2 : ∀ k, gn h' 84 k = gn h 84 k := fun k => fr_gn s2 (rg_no rfl _)
  refine ⟨s1, x, rfl, ac_8 I.2 s2 rfl rfl rfl (fun k hk => ?_) rfl (by unfold wq at g6 ⊢; rw [e1, e2, e2, e2]; exact g6) H, by rw [e2]; exact ⟨A, B⟩⟩
  match k, hk with
  | 0, _ => rfl
  | 1, _ => rfl
  | 2, _ => rfl
  | 3, _ => rfl
  | 4, _ => rfl
  | 5, _ => rfl
theorem g9_wants (I : IVh h) (J : half_w h (wq h v w) v w 0) : Sp 100 370 h [.ref 77, .int v, .int w] (fun h' r => IVQ h' ∧ ∃ x : Int32, r = some (.int x)) := by
  refine Sp_le (by omega) (Sp_mono ?_ (Sp_and (tv_wantsE (d := 0) I.1 I.2.2) (tv_wantsX (d := 0) I.1 I.2.2)))
  rintro h' r ⟨⟨⟨a1, a2, a3, a4⟩, s, g9⟩, -, e86, ad⟩
  exact ⟨⟨IVh_fr (M := VM) (by decide +kernel) a2 a1 I a3, w_9 I.1 a1 J (wna_le (g84 I.1).2.1) a2 rfl rfl s e86 g9 ad⟩, a4⟩
theorem g8_trades (I : IVQ h) : Sp 100 191 h [.ref 0, .int v, .int w] (fun h' r => IVh h' ∧ ∃ x : Int32, r = some (.int x) ∧ half_w h' (tq h' v w) v w 1) := by
  refine Sp_le (by omega) (Sp_mono ?_ (Sp_and (top_all (as := [.ref 0, .int v, .int w]) q873 (by decide +kernel) I.1 ⟨rfl, aI _, aI _, trivial⟩) (Sp_and (sp_trades8 (d := 0) I.1.1) (sp_trades8X (d := 0) I.1.1))))
  rintro h' r ⟨⟨s1, s2, -⟩, ⟨⟨x, rfl⟩, g6⟩, -, wx⟩
  obtain ⟨-, b0, -, b4, -⟩ := g15 I.1.1
  obtain ⟨H, A, B⟩ := add_HF I.1.1 s1.1 I.2.2.1.2.2.2 s2 (fun e => okT_v b4 e) wx
  rw [acts_eq I.2] at A B
  rw [tq_eq I.2] at g6
  have e2 : ∀ k, gn h' 84 k = gn h 84 k := fun k => fr_gn s2 (rg_no rfl _)
  refine ⟨s1, x, rfl, ac_8 I.2 s2 rfl rfl rfl (fun k hk => ?_) rfl (by unfold tq at g6 ⊢; rw [e2, e2]; exact g6) H, by rw [e2]; exact ⟨A, B⟩⟩
  match k, hk with
  | 0, _ => rfl
  | 1, _ => rfl
  | 2, _ => rfl
  | 3, _ => rfl
  | 4, _ => rfl
  | 5, _ => rfl
theorem g9_trades (I : IVh h) (J : half_w h (tq h v w) v w 1) : Sp 100 362 h [.ref 77, .int v, .int w] (fun h' r => IVQ h' ∧ ∃ x : Int32, r = some (.int x)) := by
  refine Sp_le (by omega) (Sp_mono ?_ (Sp_and (tv_tradesE (d := 0) I.1 I.2.2) (tv_tradesX (d := 0) I.1 I.2.2)))
  rintro h' r ⟨⟨⟨a1, a2, a3, a4⟩, s, g9⟩, -, e86, ad⟩
  exact ⟨⟨IVh_fr (M := VM) (by decide +kernel) a2 a1 I a3, w_9 I.1 a1 J (wna_le (g84 I.1).2.1) a2 rfl rfl s e86 g9 ad⟩, a4⟩
end WNQ
/-! rate, count -/
section RTQ
variable {h : pm_H} {x v w : Int32}
noncomputable def half_rtQ (h : pm_H) (x v w : Int32) : Prop := RES h ∧ IMG h ∧ ST1 15 0 h ∧ STA 15 0 h ∧ (∀ i, i < 8 → i < gn h 15 4 → gi h 18 i = rts (gn h 84 3) (gn h 84 5) (fun i => gi h 85 (2 * i + 1)) v w i) ∧ FS 15 0 h ∧ x = rtv (gn h 84 3) (gn h 84 5) (fun i => gi h 85 (2 * i + 1)) v w
theorem rt_eq {c a : Nat} {s s' : Nat → Int32} (c8 : c ≤ 8) (e : ∀ i, i < 8 → i < c → s i = s' i) : rtv c a s v w = rtv c a s' v w ∧ ∀ i, i < 8 → i < c → rts c a s v w i = rts c a s' v w i := by
  constructor
  · unfold rtv
    by_cases q : (0 ≤ v.toInt ∧ v.toInt < (c : Int)) ∧ 0 ≤ w.toInt ∧ w.toInt ≤ 99
    · rw [if_pos q, if_pos q, e _ (by omega) (by omega)]
    · rw [if_neg q, if_neg q]
  · intro i h1 h2
    unfold rts
    rw [e i h1 h2]
theorem g8_rate (I : IVQ h) : Sp 100 164 h [.ref 0, .int v, .int w] (fun h' r => IVh h' ∧ ∃ x : Int32, r = some (.int x) ∧ half_rtQ h' x v w) := by
  refine Sp_le (by omega) (Sp_mono ?_ (Sp_and (top_all (as := [.ref 0, .int v, .int w]) q895 (by decide +kernel) I.1 ⟨rfl, aI _, aI _, trivial⟩) (sp_rate8 (d := 0) I.1.1)))
  rintro h' r ⟨⟨s1, s2, -⟩, rfl, g18⟩
  obtain ⟨-, -, -, c8, -⟩ := g15 I.1.1
  have k9 : ∀ r, KE9 r h h' := KE9_fr s2 rfl
  have c15 : ∀ k, gi h' 15 k = gi h 15 k := fun k => fr_gi s2 (rg_no rfl _)
  have r84 : ∀ k, gi h' 84 k = gi h 84 k := fun k => fr_gi s2 (rg_no rfl _)
  have r85 : ∀ k, gi h' 85 k = gi h 85 k := fun k => fr_gi s2 (rg_no rfl _)
  have e4 : gn h 15 4 = gn h 84 3 := gn_eq I.2.2.1.1.2.2.1
  have f85 : (fun i => gi h' 85 (2 * i + 1)) = fun i => gi h 85 (2 * i + 1) := funext (fun i => r85 _)
  have se : ∀ i, i < 8 → i < gn h 15 4 → gi h 18 i = (fun i => gi h 85 (2 * i + 1)) i := fun i h1 h2 => by
    have := I.2.2.1.2.2.1 i h1 h2
    rw [show 16 * 0 + (2 * i + 1) = 2 * i + 1 by omega] at this
    exact this
  have rt := rt_eq (a := gn h 15 6) (v := v) (w := w) c8 se
  refine ⟨s1, _, rfl, RES_fr s2 rfl I.2.1, IMG_fr s2 rfl (fun r _ _ => k9 r) I.2.2.2, ST1_k (fun k _ => c15 k) (k9 0).1 (fun k _ => r84 k) I.2.2.1.1, ?_, fun i h1 h2 => ?_, FS_of (HF_k (fun q hq q3 j => fr_gi s2 (rg_no ((show ∀ q : Fin 9, q.val ≠ 3 → S895.2.2.2.2.1.all (fun r => !(Nat.beq r.1 (15 + q.val))) = true from by decide) ⟨q, by omega⟩ q3) _)) (fun i _ => r85 _) (fun i _ => fr_gi s2 (rg_no rfl _)) (HF_of I.2.2.1.2.2.2)) (by rw [gn_eq (c15 6)]; exact AC_87 (fun a k q => by rcases q with rfl | rfl | rfl | rfl <;> exact fr_gi s2 (rg_no rfl _)) I.2.2.1.2.2.2.2.2.1), ?_⟩
  · show gi h' 15 6 = gi h' 84 (6 * 0 + 5)
    rw [c15, r84]; exact I.2.2.1.2.1
  · rw [gn_eq (c15 4)] at h2
    rw [g18 i, rt.2 i h1 h2, f85, gn_eq (r84 3), gn_eq (r84 5), e4, acts_eq I.2]
  · rw [rt.1, f85, gn_eq (r84 3), gn_eq (r84 5), e4, acts_eq I.2]
theorem g9_rate (I : IVh h) (J : half_rtQ h x v w) : Sp 100 329 h [.ref 77, .int v, .int w] (fun h' r => IVQ h' ∧ r = some (.int x)) := by
  refine Sp_le (by omega) (Sp_mono ?_ (Sp_and (tv_rate (d := 0) I.1 I.2.2) (Sp_and (sp_rate9 (d := 0) I.1) (sp_rate9X (d := 0) I.1))))
  rintro h' r ⟨⟨a1, a2, a3, -⟩, ⟨rfl, -, f9, g9⟩, -, ev⟩
  obtain ⟨j1, j2, j3, j4, j5, j6, rfl⟩ := J
  have c15 : ∀ k, gi h' 15 k = gi h 15 k := fun k => fr_gi f9 (rg_no rfl _)
  have r84 : ∀ k, gi h' 84 k = gi h 84 k := fun k => fr_gi f9 (rg_no rfl _)
  have e83 : ∀ k, gi h' 83 k = gi h 83 k := fun k => fr_gi f9 (rg_no rfl _)
  have k9 : ∀ r, 1 ≤ r → r ≤ 3 → KE9 r h h' := fun r h1 h2 => ⟨e83 r, fun k _ => r84 _, fun k _ => fr_gi f9 (by
    cases q : rg_in [(77, 0, 0), (85, 1, 15)] 85 (16 * r + k) with
    | false => rfl
    | true =>
      obtain ⟨z, hz, hc⟩ := List.any_eq_true.mp q
      simp only [Bool.and_eq_true] at hc
      have c1 := Nat.eq_of_beq_eq_true hc.1
      have c3 := Nat.le_of_ble_eq_true hc.2.2
      simp only [List.mem_cons, List.not_mem_nil, or_false] at hz
      rcases hz with rfl | rfl
      · cases c1
      · have c3 : 16 * r + k ≤ 15 := c3
        omega), fun k _ => fr_gi f9 (rg_no rfl _), fun k _ => fr_gi f9 (rg_no rfl _)⟩
  have ce : ∀ q, q ≤ 8 → ∀ j, gi h' (15 + q) j = gi h (15 + q) j := KEE_15 f9 rfl
  refine ⟨⟨IVh_fr (M := VM) (by decide +kernel) a2 a1 I a3, RES_fr f9 rfl j1, ⟨ST1_k (fun k _ => c15 k) (e83 0) (fun k _ => r84 k) j3, ?_, fun i h1 h2 => ?_, FS_of (HF_k (fun q hq _ j => ce q hq j) (fun i _ => ev i) (fun i _ => fr_gi f9 (rg_no rfl _)) (HF_of j6)) (by rw [gn_eq (c15 6)]; exact AC_87 (fun a k q => by rcases q with rfl | rfl | rfl | rfl <;> exact fr_gi f9 (rg_no rfl _)) j6.2.2.1)⟩, IMG_fr f9 rfl k9 j2⟩, rfl⟩
  · show gi h' 15 6 = gi h' 84 (6 * 0 + 5)
    rw [c15, r84]; exact j4
  · rw [gn_eq (c15 4)] at h2
    show gi h' 18 i = gi h' 85 (16 * 0 + (2 * i + 1))
    rw [show 16 * 0 + (2 * i + 1) = 2 * i + 1 by omega, g9 i h1, fr_gi f9 (rg_no rfl _)]
    exact j5 i h1 h2
noncomputable def half_cnQ (h : pm_H) (x v : Int32) : Prop := QRE h ∧ x = cnv (c9f h) v
theorem cn_eq (hh : HH h) (R : QRE h) : ∀ k, k ≤ 8 → c8f h k = c9f h k := by
  obtain ⟨⟨s1, s2, s3, s4, s5⟩, sa, sd, -⟩ := R.2.1
  intro k hk
  match k, hk with
  | 0, _ => exact s2 0 (by omega)
  | 1, _ => exact s2 1 (by omega)
  | 2, _ => exact s2 2 (by omega)
  | 3, _ => exact s3
  | 4, _ => exact s4
  | 5, _ => exact sa
  | 6, _ => exact s1
  | 7, _ =>
    show gi h 1 1 = gi h 77 6
    rw [gi_gn (a := 1) (k := 1) hh (q := (0, 500)) rfl (by decide), gi_gn (a := 77) (k := 6) hh (q := (0, 500)) rfl (by decide), R.1.1.1.1]
  | 8, _ =>
    show nJ (sct (cf h) 4) = nJ (sct (rf h) 4)
    rw [sct_eq (fun i hi => (SL_cf R.1.2 i hi).1)]
theorem g8_count (I : IVQ h) : Sp 100 93 h [.ref 0, .int v] (fun h' r => IVh h' ∧ ∃ x : Int32, r = some (.int x) ∧ half_cnQ h' x v) := by
  refine Sp_le (by omega) (Sp_mono ?_ (Sp_and (top_all (as := [.ref 0, .int v]) q899 (by decide +kernel) I.1 ⟨rfl, aI _, trivial⟩) (sp_count8 (d := 0) I.1.1)))
  rintro h' r ⟨⟨s1, s2, -⟩, rfl⟩
  have R := QRE_fr s2 rfl I.2
  refine ⟨s1, _, rfl, R, (cnv_eq (fun k hk => ?_))⟩
  rw [cn_eq I.1.1 I.2 k hk]
  have e : ∀ a j, gi h' a j = gi h a j := fun a j => fr_gi s2 rfl
  match k, hk with
  | 0, _ => exact (e 84 0).symm
  | 1, _ => exact (e 84 1).symm
  | 2, _ => exact (e 84 2).symm
  | 3, _ => exact (e 84 3).symm
  | 4, _ => exact (e 84 4).symm
  | 5, _ => exact (e 84 5).symm
  | 6, _ => exact (e 83 0).symm
  | 7, _ => exact (e 77 6).symm
  | 8, _ =>
    show nJ (sct (rf h) 4) = nJ (sct (rf h') 4)
    rw [sct_eq (f := rf h) (g := rf h') (fun i _ => by unfold rf; rw [e 78 i])]
theorem g9_count (I : IVh h) (J : half_cnQ h x v) : Sp 100 233 h [.ref 77, .int v] (fun h' r => IVQ h' ∧ r = some (.int x)) := by
  refine Sp_le (by omega) (Sp_mono ?_ (Sp_and (top_all (as := [.ref 77, .int v]) q901 (by decide +kernel) I ⟨rfl, aI _, trivial⟩) (sp_count9 (d := 0) I.1)))
  rintro h' r ⟨⟨s1, s2, -⟩, rfl⟩
  obtain ⟨J1, rfl⟩ := J
  exact ⟨⟨s1, QRE_fr s2 rfl J1⟩, rfl⟩
end RTQ
theorem IVQ_hp0 : IVQ hp0 := by
  refine ⟨IVS_hp0.1, IVS_hp0.2, ⟨⟨by decide +kernel, fun k hk => ?_, by decide +kernel, by decide +kernel, by decide +kernel⟩, ?_, fun i _ q => ?_, ⟨by decide +kernel, by decide +kernel, by decide +kernel⟩, ⟨fun i hi => ?_, fun i hi => ?_⟩, fun i hi => ?_, fun i hi => ?_, fun i hi => ?_, fun i hi => ?_⟩, fun k hk q => ?_⟩
  · match k, hk with
    | 0, _ => decide +kernel
    | 1, _ => decide +kernel
    | 2, _ => decide +kernel
  · show gi hp0 15 6 = gi hp0 84 (6 * 0 + 5)
    decide +kernel
  · have e : gn hp0 15 4 = 0 := by decide +kernel
    omega
  · have e : gn hp0 15 4 = 0 := by decide +kernel
    omega
  · have e : gn hp0 15 5 = 0 := by decide +kernel
    omega
  · have e : gn hp0 15 6 = 0 := by decide +kernel
    omega
  · have e : gn hp0 15 4 = 0 := by decide +kernel
    omega
  · have e : gn hp0 15 6 = 0 := by decide +kernel
    omega
  · have e : gn hp0 15 4 = 0 := by decide +kernel
    omega
  · match k, hk with
    | 0, _ => exact absurd (by decide +kernel) q
    | 1, _ => exact absurd (by decide +kernel) q
    | 2, _ => exact absurd (by decide +kernel) q
end
section
/-! lays of the reference, exactly: what is wanted now (written by gen_u63.py; wants u62) -/
end
