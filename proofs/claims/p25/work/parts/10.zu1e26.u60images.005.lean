section
/-- between: all but the acts, which are told -/
noncomputable def half_ac (h : pm_H) (a : Nat) : Prop := RES h ∧ IMG h ∧ ST1 15 0 h ∧ STD 15 0 h ∧ gi h 15 6 = nJ a ∧ HF h
theorem ac_8 {M : List Rng} {h h' : pm_H} {a : Nat} (R : QRE h) (hf : fr_g M h h') (hb : resB M = true) (hi : imB M = true) (hr : rwB M = true) (h1 : ∀ k, k ≤ 5 → rg_in M 15 k = false) (h2 : M.all (fun r => !(Nat.beq r.1 18)) = true) (e : gi h' 15 6 = nJ a) (H : HF h') : half_ac h' a := by
  have k9 : ∀ r, KE9 r h h' := KE9_fr hf hr
  refine ⟨RES_fr hf hb R.1, IMG_fr hf hi (fun r _ _ => k9 r) R.2.2, ST1_k (fun k hk => fr_gi hf (h1 k hk)) (k9 0).1 (fun k hk => ?_) R.2.1.1, STD_k (fr_gi hf (h1 4 (by omega))) (fun i => fr_gi hf (rg_no h2 _)) (fun i hi => ?_) R.2.1.2.2.1, e, H⟩
  · have := (k9 0).2.1 k (by omega)
    rw [show 6 * 0 + k = k by omega] at this
    exact this
  · have := (k9 0).2.2.1 i hi
    rw [show 16 * 0 + i = i by omega] at this
    exact this
theorem ac_9 {M : List Rng} {h h' : pm_H} {a : Nat} (J : half_ac h a) (hf : fr_g M h h') (hb : resB M = true) (hc : clB M = true) (s : SAM h h') (e86 : ∀ k, gi h' 86 k = gi h 86 k) (e87 : ∀ k, 60 ≤ k → gi h' 87 k = gi h 87 k) (e : gi h' 84 5 = nJ a) (A : AC 15 0 (gn h 15 6) h') : QRE h' := by
  obtain ⟨j1, j2, j3, j4, j5, j6⟩ := J
  have c : ∀ k, gi h' 15 k = gi h 15 k := fun k => fr_gi hf (rg_no (nc_at hc (by decide)) _)
  have im : imB M = true := by
    unfold clB at hc
    unfold imB
    rw [List.all_eq_true] at hc ⊢
    intro x hx
    exact hc x (by revert x; decide)
  have k9 : ∀ r, 1 ≤ r → r ≤ 3 → KE9 r h h' := fun r h1 _ => ⟨s 83 r (.inl rfl), fun k _ => s 84 _ (.inr (.inr ⟨rfl, by omega⟩)), fun k _ => s 85 _ (.inr (.inl rfl)), fun k _ => e86 _, fun k _ => e87 _ (by omega)⟩
  refine ⟨RES_fr hf hb j1, ⟨ST1_k (fun k _ => c k) (s 83 0 (.inl rfl)) (fun k hk => s 84 k (.inr (.inr ⟨rfl, by omega⟩))) j3, ?_, STD_k (c 4) (fun i => fr_gi hf (rg_no (nc_at hc (by decide)) _)) (fun i _ => s 85 i (.inr (.inl rfl))) j4, FS_of (HF_k (fun q hq _ j => KEE_15 hf hc q hq j) (fun i _ => s 85 _ (.inr (.inl rfl))) (fun i _ => e86 i) j6) (by rw [gn_eq (c 6)]; exact A)⟩, IMG_fr hf im k9 j2⟩
  show gi h' 15 6 = gi h' 84 (6 * 0 + 5)
  rw [c 6, j5]
  exact e.symm
theorem sam_fr {h h' : pm_H} (hf : fr_g [(77, 0, 0), (84, 5, 5)] h h') : SAM h h' := fun a k q => by
  rcases q with rfl | rfl | ⟨rfl, hk⟩
  · exact fr_gi hf (rg_no rfl _)
  · exact fr_gi hf (rg_no rfl _)
  · refine fr_gi hf ?_
    show (Nat.beq 77 84 && (Nat.ble 0 k && Nat.ble k 0) || (Nat.beq 84 84 && (Nat.ble 5 k && Nat.ble k 5) || false)) = false
    have : (Nat.ble 5 k && Nat.ble k 5) = false := by
      cases q : (Nat.ble 5 k && Nat.ble k 5) with
      | false => rfl
      | true =>
        rw [Bool.and_eq_true, nble, nble] at q
        omega
    rw [this]
    rfl
theorem fr_rf_ac {h h' : pm_H} (f : fr_g [(77, 0, 0), (84, 5, 5)] h h') : ∀ a k, a = 21 ∨ a = 22 ∨ a = 23 ∨ a = 87 → gi h' a k = gi h a k := fun a k q => by
  rcases q with rfl | rfl | rfl | rfl <;> exact fr_gi f (rg_no rfl _)
theorem AC_87 {h h' : pm_H} {n : Nat} (e : ∀ a k, a = 21 ∨ a = 22 ∨ a = 23 ∨ a = 87 → gi h' a k = gi h a k) (A : AC 15 0 n h) : AC 15 0 n h' := fun i hi => by
  show gi h' 21 i = gi h' 87 (60 * 0 + (3 * i + 1)) ∧ gi h' 22 i = gi h' 87 (60 * 0 + (3 * i + 2)) ∧ gi h' 23 i = gi h' 87 (60 * 0 + 3 * i)
  rw [e 21 i (by omega), e 22 i (by omega), e 23 i (by omega), e 87 _ (by omega), e 87 _ (by omega), e 87 _ (by omega)]
  exact A i hi
section UNQ
variable {h : pm_H} {x : Int32}
noncomputable def half_unQ (h : pm_H) (x : Int32) : Prop := (half_ac h (uda (lnp h) (gn h 84 5)) ∧ AC 15 0 (uda (lnp h) (gn h 84 5)) h) ∧ x = udv (lnp h) (gn h 84 5)
noncomputable def half_anQ (h : pm_H) (x : Int32) : Prop := (half_ac h (ana (lnp h) (gn h 84 5)) ∧ AC 15 0 (ana (lnp h) (gn h 84 5)) h) ∧ x = anv (lnp h) (gn h 84 5)
theorem uda_le {p a : Nat} : uda p a ≤ a := by unfold uda; split <;> omega
theorem ana_le {p a : Nat} : ana p a ≤ a := by unfold ana; split <;> omega
theorem acts_eq (R : QRE h) : gn h 15 6 = gn h 84 5 := gn_eq (show gi h 15 6 = gi h 84 5 from R.2.1.2.1)
theorem g8_undo (I : IVQ h) : Sp 100 195 h [.ref 0] (fun h' r => IVh h' ∧ ∃ x : Int32, r = some (.int x) ∧ half_unQ h' x) := by
  refine Sp_le (by omega) (Sp_mono ?_ (Sp_and (top_all (as := [.ref 0]) q878 (by decide +kernel) I.1 ⟨rfl, trivial⟩) (sp_undo8X (d := 0) I.1.1 I.2.2.1.2.2.2.2.2.2.2.1 I.2.2.1.2.2.2.2.2.2.2.2)))
  rintro h' r ⟨⟨s1, s2, -⟩, rfl, g6, ka, nw⟩
  have u := udv_eq (a := gn h 84 5) (lnp_0 I.2.2.1.1)
  have e1 : lnp h' = lnp h := lnp_fr (fr_gi s2 (rg_no rfl _))
  have e2 : gn h' 84 5 = gn h 84 5 := fr_gn s2 (rg_no rfl _)
  obtain ⟨H, A⟩ := un_HF I.2.2.1.2.2.2 ka g6 uda_le nw
  rw [acts_eq I.2, u.2.1] at g6 A
  refine ⟨s1, _, rfl, ⟨ac_8 I.2 s2 rfl rfl rfl (fun k hk => ?_) rfl (by rw [e1, e2]; exact g6) H, by rw [e1, e2]; exact A⟩, by rw [e1, e2, acts_eq I.2, u.1]⟩
  match k, hk with
  | 0, _ => rfl
  | 1, _ => rfl
  | 2, _ => rfl
  | 3, _ => rfl
  | 4, _ => rfl
  | 5, _ => rfl
theorem g9_undo (I : IVh h) (J : half_unQ h x) : Sp 100 366 h [.ref 77] (fun h' r => IVQ h' ∧ r = some (.int x)) := by
  refine Sp_le (by omega) (Sp_mono ?_ (Sp_and (tv_undo (d := 0) I.1 I.2.2) (sp_undo9 (d := 0) I.1)))
  rintro h' r ⟨⟨a1, a2, a3, -⟩, rfl, -, f9, g9⟩
  obtain ⟨J1, rfl⟩ := J
  exact ⟨⟨IVh_fr (M := VM) (by decide +kernel) a2 a1 I a3, ac_9 J1.1 f9 rfl rfl (sam_fr f9) (fun k => fr_gi f9 (rg_no rfl _)) (fun k _ => fr_gi f9 (rg_no rfl _)) g9 (AC_87 (fr_rf_ac f9) (by rw [gn_of J1.1.2.2.2.2.1 (by have := (g84 I.1).2.1; have := @uda_le (lnp h) (gn h 84 5); omega)]; exact J1.2))⟩, rfl⟩
theorem g8_anew (I : IVQ h) : Sp 100 79 h [.ref 0] (fun h' r => IVh h' ∧ ∃ x : Int32, r = some (.int x) ∧ half_anQ h' x) := by
  refine Sp_le (by omega) (Sp_mono ?_ (Sp_and (top_all (as := [.ref 0]) q881 (by decide +kernel) I.1 ⟨rfl, trivial⟩) (sp_anew8X (p := 0) (d := 0) I.1.1 I.2.2.1.2.2.2.2.2.2.2.2)))
  rintro h' r ⟨⟨s1, s2, -⟩, rfl, g6, ka, nw⟩
  have u := udv_eq (a := gn h 84 5) (lnp_0 I.2.2.1.1)
  have e1 : lnp h' = lnp h := lnp_fr (fr_gi s2 (rg_no rfl _))
  have e2 : gn h' 84 5 = gn h 84 5 := fr_gn s2 (rg_no rfl _)
  obtain ⟨H, A⟩ := un_HF I.2.2.1.2.2.2 ka g6 ana_le nw
  rw [acts_eq I.2, u.2.2.2] at g6 A
  refine ⟨s1, _, rfl, ⟨ac_8 I.2 s2 rfl rfl rfl (fun k hk => ?_) rfl (by rw [e1, e2]; exact g6) H, by rw [e1, e2]; exact A⟩, by rw [e1, e2, acts_eq I.2, u.2.2.1]⟩
  match k, hk with
  | 0, _ => rfl
  | 1, _ => rfl
  | 2, _ => rfl
  | 3, _ => rfl
  | 4, _ => rfl
  | 5, _ => rfl
theorem g9_anew (I : IVh h) (J : half_anQ h x) : Sp 100 207 h [.ref 77] (fun h' r => IVQ h' ∧ r = some (.int x)) := by
  refine Sp_le (by omega) (Sp_mono ?_ (Sp_and (tv_anew (d := 0) I.1 I.2.2) (sp_anew9 (d := 0) I.1)))
  rintro h' r ⟨⟨a1, a2, a3, -⟩, rfl, -, f9, g9⟩
  obtain ⟨J1, rfl⟩ := J
  exact ⟨⟨IVh_fr (M := VM) (by decide +kernel) a2 a1 I a3, ac_9 J1.1 f9 rfl rfl (sam_fr f9) (fun k => fr_gi f9 (rg_no rfl _)) (fun k _ => fr_gi f9 (rg_no rfl _)) g9 (AC_87 (fr_rf_ac f9) (by rw [gn_of J1.1.2.2.2.2.1 (by have := (g84 I.1).2.1; have := @ana_le (lnp h) (gn h 84 5); omega)]; exact J1.2))⟩, rfl⟩
end UNQ
section WNQ
variable {h : pm_H} {v w : Int32}
noncomputable def wq (h : pm_H) (v w : Int32) : Nat := wna (bif decide (0 < (gi h 83 0).toInt) then okW (gn h 84 3) (gn h 84 0) v w else false) (gn h 84 5)
noncomputable def tq (h : pm_H) (v w : Int32) : Nat := wna (okT (gn h 84 3) v w) (gn h 84 5)
theorem wq_eq (R : QRE h) : wna (okW (gn h 15 4) (gn h 15 0) v w) (gn h 15 6) = wq h v w := by
  obtain ⟨s1, s2, s3, s4, s5⟩ := R.2.1.1
  have e4 : gn h 15 4 = gn h 84 3 := gn_eq s3
  have e0 : gn h 15 0 = gn h 84 0 := gn_eq (s2 0 (by omega))
  unfold wq
  rw [acts_eq R, e4, e0]
  rw [e0, s1] at s5
  by_cases b : 0 < (gi h 83 0).toInt
  · rw [decide_eq_true b]; rfl
  · have p0 := s5.mpr b
    rw [decide_eq_false b]
    have : okW (gn h 84 3) (gn h 84 0) v w = false := decide_eq_false (fun q => by have := q.2; rw [p0] at this; omega)
    rw [this]
    rfl
theorem tq_eq (R : QRE h) : wna (okT (gn h 15 4) v w) (gn h 15 6) = tq h v w := by
  obtain ⟨s1, s2, s3, s4, s5⟩ := R.2.1.1
  have e4 : gn h 15 4 = gn h 84 3 := gn_eq s3
  unfold tq
  rw [acts_eq R, e4]
/-- between, of an act: the reference has not done it yet -/
noncomputable def half_w (h : pm_H) (a : Nat) (v w : Int32) (t : Nat) : Prop := half_ac h a ∧ AC 15 0 (gn h 84 5) h ∧ (gn h 15 6 = gn h 84 5 ∨ (gn h 15 6 = gn h 84 5 + 1 ∧ gi h 21 (gn h 84 5) = nJ v.toInt.toNat ∧ gi h 22 (gn h 84 5) = nJ w.toInt.toNat ∧ gi h 23 (gn h 84 5) = nJ t))
theorem okW_v {c p : Nat} (c8 : c ≤ 8) (p8 : p ≤ 8) (e : okW c p v w = true) : v.toInt.toNat < c ∧ (((0 : Nat) = 0 ∧ 1 ≤ w.toInt.toNat ∧ w.toInt.toNat ≤ p) ∨ ((0 : Nat) = 1 ∧ w.toInt.toNat < c)) := by
  obtain ⟨q1, q2⟩ := of_decide_eq_true e
  exact ⟨by omega, .inl ⟨rfl, by omega, by omega⟩⟩
theorem okT_v {c p : Nat} (c8 : c ≤ 8) (e : okT c v w = true) : v.toInt.toNat < c ∧ (((1 : Nat) = 0 ∧ 1 ≤ w.toInt.toNat ∧ w.toInt.toNat ≤ p) ∨ ((1 : Nat) = 1 ∧ w.toInt.toNat < c)) := by
  obtain ⟨q1, q2, -⟩ := of_decide_eq_true e
  exact ⟨by omega, .inr ⟨rfl, by omega⟩⟩
theorem w_9 {h h' : pm_H} {M : List Rng} {a t : Nat} (hh : HH h) (hh' : HH h') (J : half_w h a v w t) (a20 : a ≤ 20) (hf : fr_g M h h') (hb : resB M = true) (hc : clB M = true) (s : SAM h h') (e86 : ∀ k, gi h' 86 k = gi h 86 k) (e : gi h' 84 5 = nJ a) (D : AD9 h h' t v.toInt.toNat w.toInt.toNat) : QRE h' := by
  obtain ⟨J1, A, B⟩ := J
  have K := g84 hh
  have k20 := (g84 hh').2.1
  have e6 : gn h 15 6 = a := gn_of J1.2.2.2.2.1 (by omega)
  have c : ∀ q, q ≤ 8 → ∀ j, gi h' (15 + q) j = gi h (15 + q) j := KEE_15 hf hc
  have c6 : ∀ j, gi h' 21 j = gi h 21 j := c 6 (by omega)
  have c7 : ∀ j, gi h' 22 j = gi h 22 j := c 7 (by omega)
  have c8 : ∀ j, gi h' 23 j = gi h 23 j := c 8 (by omega)
  rcases D with ⟨d1, d2⟩ | ⟨d1, d2, d3, d4, d5⟩
  · have ea : a = gn h 84 5 := by
      have q : nJ a = nJ (gn h 84 5) := by rw [← e, d1]; exact K.1
      exact (nJ_eq (by omega) (by omega)).mp q
    refine ac_9 J1 hf hb hc s e86 (fun k _ => d2 k) e (AC_87 (fun b k q => ?_) (by rw [e6, ea]; exact A))
    rcases q with rfl | rfl | rfl | rfl
    · exact c6 k
    · exact c7 k
    · exact c8 k
    · exact d2 k
  · have ea : a = gn h 84 5 + 1 := (nJ_eq (by omega) (by omega)).mp (by rw [← e, d1])
    have g5 : gn h' 84 5 = gn h 84 5 + 1 := gn_of d1 (by omega)
    rcases B with B | ⟨B1, B2, B3, B4⟩
    · omega
    refine ac_9 J1 hf hb hc s e86 (fun k hk => d5 k (by omega) (by omega) (by omega)) e (fun i hi => ?_)
    rw [B1] at hi
    show gi h' 21 i = gi h' 87 (60 * 0 + (3 * i + 1)) ∧ gi h' 22 i = gi h' 87 (60 * 0 + (3 * i + 2)) ∧ gi h' 23 i = gi h' 87 (60 * 0 + 3 * i)
    rw [c6, c7, c8, show 60 * 0 + (3 * i + 1) = 3 * i + 1 by omega, show 60 * 0 + (3 * i + 2) = 3 * i + 2 by omega, show 60 * 0 + 3 * i = 3 * i by omega]
    by_cases q : i = gn h 84 5
    · rw [q, B2, B3, B4, d2, d3, d4]; exact ⟨rfl, rfl, rfl⟩
    · have o := A i (by omega)
      rw [show 60 * 0 + (3 * i + 1) = 3 * i + 1 by omega, show 60 * 0 + (3 * i + 2) = 3 * i + 2 by omega, show 60 * 0 + 3 * i = 3 * i by omega] at o
      rw [d5 _ (by omega) (by omega) (by omega), d5 _ (by omega) (by omega) (by omega), d5 _ (by omega) (by omega) (by omega)]
      exact o
end WNQ
end
