section
theorem KEE_c {A : Nat} {h h' : pm_H} (k : KEE A h h') : CPY A A h h' := ⟨fun j _ => k 0 (by omega) j, fun i _ => k 3 (by omega) i, fun i _ => ⟨k 1 (by omega) i, k 2 (by omega) i, k 4 (by omega) i, k 5 (by omega) i⟩, fun i _ => ⟨k 6 (by omega) i, k 7 (by omega) i, k 8 (by omega) i⟩⟩
theorem KE9_c {r : Nat} {h h' : pm_H} (k : KE9 r h h') : CP9 r r h h' := k
noncomputable def IMG (h : pm_H) : Prop := ∀ k, k < 3 → ¬ gi h 52 k = 0 → ST (imA k) (k + 1) h
noncomputable def RST (h : pm_H) : Prop := ST 15 0 h ∧ IMG h
noncomputable def QRE (h : pm_H) : Prop := RES h ∧ RST h
noncomputable def IVQ (h : pm_H) : Prop := IVh h ∧ QRE h
noncomputable def nocell (M : List Rng) (a : Nat) : Bool := M.all (fun r => !(Nat.beq r.1 a))
noncomputable def clB (M : List Rng) : Bool := [15, 16, 17, 18, 19, 20, 21, 22, 23, 25, 26, 27, 28, 29, 30, 31, 32, 33, 34, 35, 36, 37, 38, 39, 40, 41, 42, 43, 44, 45, 46, 47, 48, 49, 50, 51, 52].all (nocell M)
noncomputable def rwB (M : List Rng) : Bool := [83, 84, 85, 86, 87].all (nocell M)
noncomputable def stB (M : List Rng) : Bool := clB M && rwB M
noncomputable def qrB (M : List Rng) : Bool := resB M && stB M
theorem nc_at {M : List Rng} {L : List Nat} (h : L.all (nocell M) = true) {a : Nat} (ha : a ∈ L) : M.all (fun r => !(Nat.beq r.1 a)) = true := List.all_eq_true.mp h a ha
theorem kB_cl {M : List Rng} {L : List Nat} {A : Nat} (h : L.all (nocell M) = true) (hA : ∀ q, q ≤ 8 → A + q ∈ L) : kB M A = true := List.all_eq_true.mpr (fun q hq => nc_at h (hA q (by have := List.mem_range.mp hq; omega)))
theorem KEE_15 {M : List Rng} {h h' : pm_H} (hf : fr_g M h h') (hb : clB M = true) : KEE 15 h h' := KEE_fr hf (kB_cl hb (by decide))
theorem KEE_im {M : List Rng} {h h' : pm_H} (hf : fr_g M h h') (hb : clB M = true) : ∀ k, k < 3 → KEE (imA k) h h'
  | 0, _ => KEE_fr hf (kB_cl hb (by decide))
  | 1, _ => KEE_fr hf (kB_cl hb (by decide))
  | 2, _ => KEE_fr hf (kB_cl hb (by decide))
theorem KE9_fr {M : List Rng} {h h' : pm_H} (hf : fr_g M h h') (hb : rwB M = true) (r : Nat) : KE9 r h h' := ⟨fr_gi hf (rg_no (nc_at hb (by decide)) _), fun _ _ => fr_gi hf (rg_no (nc_at hb (by decide)) _), fun _ _ => fr_gi hf (rg_no (nc_at hb (by decide)) _), fun _ _ => fr_gi hf (rg_no (nc_at hb (by decide)) _), fun _ _ => fr_gi hf (rg_no (nc_at hb (by decide)) _)⟩
theorem RST_fr {M : List Rng} {h h' : pm_H} (hf : fr_g M h h') (hb : stB M = true) (R : RST h) : RST h' := by
  unfold stB at hb
  rw [Bool.and_eq_true] at hb
  refine ⟨ST_cp (KEE_c (KEE_15 hf hb.1)) (KE9_c (KE9_fr hf hb.2 0)) R.1, fun k hk q => ?_⟩
  rw [fr_gi hf (rg_no (nc_at hb.1 (by decide)) _)] at q
  exact ST_cp (KEE_c (KEE_im hf hb.1 k hk)) (KE9_c (KE9_fr hf hb.2 _)) (R.2 k hk q)
theorem QRE_fr {M : List Rng} {h h' : pm_H} (hf : fr_g M h h') (hb : qrB M = true) (R : QRE h) : QRE h' := by
  unfold qrB at hb
  rw [Bool.and_eq_true] at hb
  exact ⟨RES_fr hf hb.1 R.1, RST_fr hf hb.2 R.2⟩
theorem tQ_int {d y : Nat} {h : pm_H} {as : List Value} {M : List Rng} (hd : Nat.ble d 100 = true) (hM : qrB M = true) (R : QRE h) (k : Sp d y h as (fun h' r => IVh h' ∧ fr_g M h h' ∧ ∃ x : Int32, r = some (.int x))) : Sp 100 y h as (fun h' r => IVQ h' ∧ ∃ x : Int32, r = some (.int x)) :=
  Sp_le (Nat.le_of_ble_eq_true hd) (Sp_mono (fun _ _ q => ⟨⟨q.1, QRE_fr q.2.1 hM R⟩, q.2.2⟩) k)
theorem tQ_lng {d y : Nat} {h : pm_H} {as : List Value} {M : List Rng} (hd : Nat.ble d 100 = true) (hM : qrB M = true) (R : QRE h) (k : Sp d y h as (fun h' r => IVh h' ∧ fr_g M h h' ∧ ∃ x : Int64, r = some (.long x))) : Sp 100 y h as (fun h' r => IVQ h' ∧ ∃ x : Int64, r = some (.long x)) :=
  Sp_le (Nat.le_of_ble_eq_true hd) (Sp_mono (fun _ _ q => ⟨⟨q.1, QRE_fr q.2.1 hM R⟩, q.2.2⟩) k)
theorem hf_Q {d y : Nat} {h : pm_H} {as : List Value} {M : List Rng} {P : pm_H → Int32 → Prop} {U : pm_H → Option Value → Prop} (hd : d ≤ 100) (hM : stB M = true) (S : RST h) (a : Sp 100 y h as (fun h' r => IVh h' ∧ ∃ x : Int32, r = some (.int x) ∧ P h' x)) (b : Sp d y h as (fun h' r => U h' r ∧ fr_g M h h')) : Sp 100 y h as (fun h' r => IVh h' ∧ ∃ x : Int32, r = some (.int x) ∧ (P h' x ∧ RST h')) :=
  Sp_mono (fun _ _ q => by
    obtain ⟨⟨q1, x, q2, q3⟩, -, q4⟩ := q
    exact ⟨q1, x, q2, q3, RST_fr q4 hM S⟩) (Sp_an a (Sp_le hd b))
theorem hs_Q {d y : Nat} {h : pm_H} {as : List Value} {M : List Rng} {P : Option Value → Prop} {U : pm_H → Option Value → Prop} (hd : d ≤ 100) (hM : stB M = true) (S : RST h) (a : Sp 100 y h as (fun h' r => IVS h' ∧ P r)) (b : Sp d y h as (fun h' r => U h' r ∧ fr_g M h h')) : Sp 100 y h as (fun h' r => IVQ h' ∧ P r) :=
  Sp_mono (fun _ _ q => by
    obtain ⟨⟨q1, q2⟩, -, q4⟩ := q
    exact ⟨⟨q1.1, q1.2, RST_fr q4 hM S⟩, q2⟩) (Sp_an a (Sp_le hd b))
section OLQ
variable {h : pm_H} {x v a b c d e : Int32} {w : Int64}
theorem g8_feed (I : IVQ h) : Sp 100 106 h [.ref 0, .int a, .int b, .int c, .int d, .int e] (fun h' r => IVh h' ∧ ∃ x : Int32, r = some (.int x) ∧ ((half_feed h' x a b c d e ∧ SL h') ∧ RST h')) :=
  hf_Q (by omega) rfl I.2.2 (d8_feed ⟨I.1, I.2.1⟩) (tf_all (as := [.ref 0, .int a, .int b, .int c, .int d, .int e]) q1 (by decide +kernel) I.1 ⟨rfl, aI _, aI _, aI _, aI _, aI _, trivial⟩)
theorem g9_feed (I : IVh h) (J : (half_feed h x a b c d e ∧ SL h) ∧ RST h) : Sp 100 247 h [.ref 77, .int a, .int b, .int c, .int d, .int e] (fun h' r => IVQ h' ∧ r = some (.int x)) :=
  hs_Q (by omega) rfl J.2 (d9_feed I J.1) (tf_all (as := [.ref 77, .int a, .int b, .int c, .int d, .int e]) q7 (by decide +kernel) I ⟨rfl, aI _, aI _, aI _, aI _, aI _, trivial⟩)
theorem g8_end (I : IVQ h) : Sp 100 101 h [.ref 0, .int v] (fun h' r => IVh h' ∧ ∃ x : Int32, r = some (.int x) ∧ ((half_end h' x v ∧ SL h') ∧ RST h')) :=
  hf_Q (by omega) rfl I.2.2 (d8_end ⟨I.1, I.2.1⟩) (tf_all (as := [.ref 0, .int v]) q8 (by decide +kernel) I.1 ⟨rfl, aI _, trivial⟩)
theorem g9_end (I : IVh h) (J : (half_end h x v ∧ SL h) ∧ RST h) : Sp 100 241 h [.ref 77, .int v] (fun h' r => IVQ h' ∧ r = some (.int x)) :=
  hs_Q (by omega) rfl J.2 (d9_end I J.1) (tf_all (as := [.ref 77, .int v]) q10 (by decide +kernel) I ⟨rfl, aI _, trivial⟩)
theorem g8_row (I : IVQ h) : Sp 100 171 h [.ref 0, .int a, .int b, .int c] (fun h' r => IVh h' ∧ ∃ x : Int32, r = some (.int x) ∧ (half_row h' x a b c ∧ RST h')) :=
  hf_Q (by omega) rfl I.2.2 (d8_row ⟨I.1, I.2.1⟩) (tf_all (as := [.ref 0, .int a, .int b, .int c]) q949 (by decide +kernel) I.1 ⟨rfl, aI _, aI _, aI _, trivial⟩)
theorem g9_row (I : IVh h) (J : half_row h x a b c ∧ RST h) : Sp 100 338 h [.ref 77, .int a, .int b, .int c] (fun h' r => IVQ h' ∧ r = some (.int x)) :=
  hs_Q (by omega) rfl J.2 (d9_row I J.1) (tf_all (as := [.ref 77, .int a, .int b, .int c]) q950 (by decide +kernel) I ⟨rfl, aI _, aI _, aI _, trivial⟩)
theorem g8_write (I : IVQ h) : Sp 100 203 h [.ref 0, .int a, .int b, .long w] (fun h' r => IVh h' ∧ ∃ x : Int32, r = some (.int x) ∧ (half_write h' x a b ∧ RST h')) :=
  hf_Q (by omega) rfl I.2.2 (d8_write ⟨I.1, I.2.1⟩) (tf_all (as := [.ref 0, .int a, .int b, .long w]) q952 (by decide +kernel) I.1 ⟨rfl, aI _, aI _, aL _, trivial⟩)
theorem g9_write (I : IVh h) (J : half_write h x a b ∧ RST h) : Sp 100 380 h [.ref 77, .int a, .int b, .long w] (fun h' r => IVQ h' ∧ r = some (.int x)) :=
  hs_Q (by omega) rfl J.2 (d9_write I J.1) (tf_all (as := [.ref 77, .int a, .int b, .long w]) q955 (by decide +kernel) I ⟨rfl, aI _, aI _, aL _, trivial⟩)
theorem g8_paste (I : IVQ h) : Sp 100 158 h [.ref 0, .int a, .int b, .int c, .int d, .int e] (fun h' r => IVh h' ∧ ∃ x : Int32, r = some (.int x) ∧ (half_paste h' x a b c d e ∧ RST h')) :=
  hf_Q (M := PM) (U := fun h' _ => HH h') (d := 2) (by omega) rfl I.2.2 (d8_paste ⟨I.1, I.2.1⟩) (Sp_mono (fun _ _ q => ⟨q.1, q.2.1⟩) (sp_paste8 (d := 0) I.1.1))
theorem g9_paste (I : IVh h) (J : half_paste h x a b c d e ∧ RST h) : Sp 100 323 h [.ref 77, .int a, .int b, .int c, .int d, .int e] (fun h' r => IVQ h' ∧ r = some (.int x)) :=
  hs_Q (by omega) rfl J.2 (d9_paste I J.1) (tf_all (as := [.ref 77, .int a, .int b, .int c, .int d, .int e]) q961 (by decide +kernel) I ⟨rfl, aI _, aI _, aI _, aI _, aI _, trivial⟩)
end OLQ
/-! image and back -/
noncomputable def half_imQ (h : pm_H) (x v : Int32) : Prop := (half_image h x v ∧ SL h) ∧ ST 15 0 h ∧ ∀ j, j < 3 → (v = nJ j ∧ ST (imA j) 0 h) ∨ (¬ v = nJ j ∧ (¬ gi h 88 j = 0 → ST (imA j) (j + 1) h))
theorem g8_image {h : pm_H} {v : Int32} (I : IVQ h) : Sp 100 121 h [.ref 0, .int v] (fun h' r => IVh h' ∧ ∃ x : Int32, r = some (.int x) ∧ half_imQ h' x v) := by
  refine Sp_mono ?_ (Sp_an (d8_image ⟨I.1, I.2.1⟩) (Sp_le (by omega) (Sp_and (tf_all (as := [.ref 0, .int v]) q905 (by decide +kernel) I.1 ⟨rfl, aI _, trivial⟩) (sp_imageX8 I.1.1))))
  rintro h' r ⟨⟨q1, x, q2, q3⟩, ⟨-, q4⟩, q5⟩
  have k9 : ∀ r, KE9 r h h' := KE9_fr q4 rfl
  have e88 : ∀ j, gi h' 88 j = gi h 88 j := fun j => fr_gi q4 (rg_no rfl _)
  have kp := I.2.1.1.2
  refine ⟨q1, x, q2, q3, ?_⟩
  rcases q5 with ⟨k, hk, rfl, c1, k1, k2⟩ | ⟨hr, rfl⟩
  · refine ⟨ST_cp (KEE_c k1) (KE9_c (k9 0)) I.2.2.1, fun j hj => ?_⟩
    by_cases e : j = k
    · subst e
      exact .inl ⟨rfl, ST_cp c1 (KE9_c (k9 0)) I.2.2.1⟩
    · refine .inr ⟨fun q => e ((nJ_eq (by omega) (by omega)).mp q).symm, fun q => ?_⟩
      rw [e88 j, ← kp j hj] at q
      exact ST_cp (KEE_c (k2 j hj e)) (KE9_c (k9 _)) (I.2.2.2 j hj q)
  · refine ⟨I.2.2.1, fun j hj => .inr ⟨fun q => hr (by rw [q, nJ_toInt (by omega)]; omega), fun q => ?_⟩⟩
    rw [← kp j hj] at q
    exact I.2.2.2 j hj q
theorem g9_image {h : pm_H} {x v : Int32} (I : IVh h) (J : half_imQ h x v) : Sp 100 260 h [.ref 77, .int v] (fun h' r => IVQ h' ∧ r = some (.int x)) := by
  refine Sp_mono ?_ (Sp_an (d9_image I J.1) (Sp_le (by omega) (Sp_and (tv_image (d := 0) I.1 I.2.2) (sp_imageX9 (d := 0) I.1))))
  rintro h' r ⟨⟨q1, q2⟩, ⟨-, q4, -, -, q88⟩, q5⟩
  obtain ⟨-, s0, sj⟩ := J
  have cl : clB VMI = true := rfl
  have kp : ∀ j, j < 3 → gi h' 52 j = gi h' 88 j := q1.2.1.2
  refine ⟨⟨q1.1, q1.2, ?_⟩, q2⟩
  rcases q5 with ⟨k, hk, rfl, c1, k2⟩ | ⟨hr, k2⟩
  · refine ⟨ST_cp (KEE_c (KEE_15 q4 cl)) (KE9_c (k2 0 (by omega) (by omega))) s0, fun j hj q => ?_⟩
    rcases sj j hj with ⟨e, s⟩ | ⟨e, s⟩
    · have e := (nJ_eq (by omega) (by omega)).mp e
      subst e
      exact ST_cp (KEE_c (KEE_im q4 cl _ hj)) c1 s
    · rw [kp j hj, q88 j hj, if_neg e] at q
      have ne : j ≠ k := fun z => e (by rw [z])
      exact ST_cp (KEE_c (KEE_im q4 cl _ hj)) (KE9_c (k2 (j + 1) (by omega) (by omega))) (s q)
  · refine ⟨ST_cp (KEE_c (KEE_15 q4 cl)) (KE9_c (k2 0)) s0, fun j hj q => ?_⟩
    rcases sj j hj with ⟨e, -⟩ | ⟨e, s⟩
    · exact absurd (by rw [e, nJ_toInt (by omega)]; omega) hr
    · rw [kp j hj, q88 j hj, if_neg e] at q
      exact ST_cp (KEE_c (KEE_im q4 cl _ hj)) (KE9_c (k2 _)) (s q)
end
