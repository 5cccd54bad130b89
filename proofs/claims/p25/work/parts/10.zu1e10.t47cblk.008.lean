section
section RL0
variable {T : Nat → Int32} {L d k : Nat} {h : pm_H} {x : Px}
theorem RSt_pt {a : Nat} {v : Int32} (ha : 83 ≤ a) (hh : HH (pt h a k v)) (R : RSt T L x h) : RSt T L x (pt h a k v) := by
  have e : ∀ b j, b ≤ 82 → gi (pt h a k v) b j = gi h b j := fun b j hb => gi_ne (by omega)
  have el : gl (pt h a k v) 77 11 = gl h 77 11 := by unfold gl; rw [ld_pt (by omega)]
  have tb : TB T L h → TB T L (pt h a k v) := fun B => ⟨hh, by rw [e _ _ (by omega)]; exact B.2.1, B.2.2.1, fun j hj => by rw [e _ _ (by omega)]; exact B.2.2.2 j hj⟩
  match x, R with
  | .inl (k, p), ⟨a, b, c⟩ => exact ⟨tb a, by rw [e _ _ (by omega)]; exact b, by rw [e _ _ (by omega)]; exact c.1, c.2⟩
  | .inr s, ⟨a, ⟨b1, b2, b3, b4, b5⟩, c, c2⟩ => exact ⟨tb a, ⟨by rw [e _ _ (by omega)]; exact b1, by rw [e _ _ (by omega)]; exact b2, by rw [e _ _ (by omega)]; exact b3, by rw [e _ _ (by omega)]; exact b4, by rw [el]; exact b5⟩, by rw [e _ _ (by omega)]; exact c, c2⟩
theorem RSt_frm {M : List Rng} {h' : pm_H} (hf : fr_g M h h') (h1 : M.all (fun r => !(Nat.beq r.1 77)) = true) (h2 : M.all (fun r => !(Nat.beq r.1 82)) = true) (hh : HH h') (R : RSt T L x h) : RSt T L x h' := RSt_fr hf (rg_no h1 _) h2 (fun k _ _ => rg_no h1 _) hh R
theorem sp_iW9 (R : RSt T L x h) (hk : k < 8) : Sp (d + 1) 264 h [.ref 77, .long (wcd.getD k 0)] (fun h' r => h' = h ∧ r = some (.int (zb (isX T L (wd k) x = true)))) := sp_isW R hk
theorem sp_aW9 (R : RSt T L x h) (hk : k < 8) : Sp (d + 4) 210 h [.ref 77, .long (wcd.getD k 0)] (fun h' r => r = none ∧ fr_g BB h h' ∧ RSt T L (bW T L (wd k) x) h') := sp_ak R hk
theorem sp_nW9 {lo hi : Nat} (R : RSt T L x h) (hk : k < 8) (hlo : lo ≤ hi) (h99 : hi ≤ 99) : Sp (d + 5) 317 h [.ref 77, .long (wcd.getD k 0), .int (nJ lo), .int (nJ hi)] (fun h' r => r = some (.int (nJ (bV T L lo hi (bW T L (wd k) x)))) ∧ fr_g BB h h' ∧ RSt T L (bN T L lo hi (bW T L (wd k) x)) h' ∧ lo ≤ bV T L lo hi (bW T L (wd k) x) ∧ bV T L lo hi (bW T L (wd k) x) ≤ hi) := sp_nmw R hk hlo h99
theorem sp_hR {v : Nat} (hh : HH h) (hk : k < 6) (e : gi h 84 (24 + k) = nJ v) (hv : v < 1000) : Sp (d + 1) 257 h [.ref 77, .int (nJ k)] (fun h' r => h' = h ∧ r = some (.int (nJ v))) := by
  obtain ⟨q, hb, q1, q2⟩ := bd_84e hk
  refine Sp_of aiX9_hasRead rfl rfl rfl ?_
  refine E_al rfl (show pm_get (lv_args 0 [.ref 77, .int (nJ k)]) 0 = _ from rfl) ?_
  refine E_gr rfl hh (q := 84) rfl ?_
  refine E_ci 24 rfl (by decide) ?_
  refine E_il rfl (show pm_get (lv_args 0 [.ref 77, .int (nJ k)]) 1 = _ from rfl) ?_
  refine E_bin rfl (nJ_add _ _) ?_
  refine E_ial rfl hh rfl (by omega) (by decide) e ?_
  exact E_rti rfl ⟨rfl, rfl⟩
theorem sp_gd (R : RSt T L x h) : Sp (d + 1) 269 h [.ref 77] (fun h' r => h' = h ∧ r = some (.int (zb (isR x = true)))) := by
  have hh : HH h := (RSt_TB R).1
  refine Sp_mono ?_ (sp_isGood (d := d) hh)
  rintro h' r ⟨e, q⟩
  refine ⟨e, ?_⟩
  match x, R with
  | .inl (k, p), R =>
    have g := gn_of R.2.1 (by have := R.2.2.2.2.1; omega)
    rcases q with ⟨-, rfl⟩ | ⟨q, -⟩
    · rw [isR_l]
    · have := R.2.2.2.1
      omega
  | .inr s, R =>
    have g := gn_of R.2.2.1 (by omega)
    rcases q with ⟨q, -⟩ | ⟨-, rfl⟩
    · exact absurd g q
    · rw [isR_r]
end RL0
/-- the reference's draft -/
noncomputable def RDr (σ : Sg) (h : pm_H) : Prop := gi h 84 24 = nJ σ.1.1 ∧ gi h 84 25 = nJ σ.1.2.1 ∧ gi h 84 26 = nJ σ.1.2.2 ∧ gi h 84 27 = nJ σ.2.1.1 ∧ gi h 84 28 = nJ σ.2.2.1 ∧ gi h 84 29 = nJ 0 ∧ (∀ i, i < σ.2.1.1 → gi h 85 (64 + 2 * i) = nJ (σ.2.1.2.1 i) ∧ gi h 85 (64 + 2 * i + 1) = nJ (σ.2.1.2.2 i)) ∧ (∀ i, i < σ.2.2.1 → gi h 86 (64 + 2 * i) = nJ (σ.2.2.2.1 i) ∧ gi h 86 (64 + 2 * i + 1) = nJ (σ.2.2.2.2 i))
theorem RDr_fr {M : List Rng} {σ : Sg} {h h' : pm_H} (hf : fr_g M h h') (h1 : M.all (fun r => !(Nat.beq r.1 84)) = true) (h2 : M.all (fun r => !(Nat.beq r.1 85)) = true) (h3 : M.all (fun r => !(Nat.beq r.1 86)) = true) (D : RDr σ h) : RDr σ h' := by
  obtain ⟨q0, q1, q2, q3, q4, q5, qc, qj⟩ := D
  have e1 : ∀ k, gi h' 84 k = gi h 84 k := fun k => fr_gi hf (rg_no h1 _)
  have e2 : ∀ k, gi h' 85 k = gi h 85 k := fun k => fr_gi hf (rg_no h2 _)
  have e3 : ∀ k, gi h' 86 k = gi h 86 k := fun k => fr_gi hf (rg_no h3 _)
  exact ⟨by rw [e1]; exact q0, by rw [e1]; exact q1, by rw [e1]; exact q2, by rw [e1]; exact q3, by rw [e1]; exact q4, by rw [e1]; exact q5, fun i hi => by rw [e2, e2]; exact qc i hi, fun i hi => by rw [e3, e3]; exact qj i hi⟩
theorem MAY_eq {n x y : Nat} {b b' : Nat → Nat} (e : ∀ k, k < 10 → b k = b' k) (hx : x < 10) (hy : y < 10) (n9 : n ≤ 9) : MAY n b x y ↔ MAY n b' x y := by
  have w : ∀ k, k < 10 → wj b x y k = wj b' x y k := fun k hk => by unfold wj; rw [e k hk, e x hx, e y hy]
  have X : XC (wj b x y) n ↔ XC (wj b' x y) n := by
    constructor
    · rintro ⟨p, q, r, s, h1, h2, h3, h4, h5, e1, e2, e3⟩
      rw [w p (by omega), w q (by omega)] at e1
      rw [w p (by omega), w r (by omega)] at e2
      rw [w q (by omega), w s (by omega)] at e3
      exact ⟨p, q, r, s, h1, h2, h3, h4, h5, e1, e2, e3⟩
    · rintro ⟨p, q, r, s, h1, h2, h3, h4, h5, e1, e2, e3⟩
      rw [← w p (by omega), ← w q (by omega)] at e1
      rw [← w p (by omega), ← w r (by omega)] at e2
      rw [← w q (by omega), ← w s (by omega)] at e3
      exact ⟨p, q, r, s, h1, h2, h3, h4, h5, e1, e2, e3⟩
  unfold MAY
  rw [X, e x hx, e y hy]
theorem bk_bl {A B : Nat → Nat} {h : pm_H} : ∀ {j : Nat}, (∀ i, i < j → gn h 86 (64 + 2 * i) = A i ∧ gn h 86 (64 + 2 * i + 1) = B i) → bk (gn h 86) j = bl A B j
  | 0, _ => rfl
  | j + 1, e => by
    show mg (bk (gn h 86) j) (gn h 86 (64 + 2 * j)) (gn h 86 (64 + 2 * j + 1)) = mg (bl A B j) (A j) (B j)
    rw [bk_bl (fun i hi => e i (Nat.lt_succ_of_lt hi)), (e j (Nat.lt_succ_self j)).1, (e j (Nat.lt_succ_self j)).2]
section RL1
variable {T : Nat → Int32} {L d : Nat} {h : pm_H} {x : Px}
theorem sp_crL {c p : Nat} (R : RSt T L x h) (gc : gi h 84 27 = nJ c) (gp : gi h 84 24 = nJ p) (cp : c < p) (p8 : p ≤ 8) : Sp (d + 7) 223 h [.ref 77] (fun h' r => r = none ∧ HH h' ∧ fr_g CX h h' ∧ RSt T L (lnC T L p x).1 h' ∧ gi h' 84 27 = nJ (c + 1) ∧ gi h' 85 (64 + 2 * c) = nJ (lnC T L p x).2.1 ∧ gi h' 85 (64 + 2 * c + 1) = nJ (lnC T L p x).2.2 ∧ ∀ i, i ≠ 64 + 2 * c → i ≠ 64 + 2 * c + 1 → gi h' 85 i = gi h 85 i) := by
  have hh : HH h := (RSt_TB R).1
  refine Sp_of aiX9_carLine rfl rfl rfl ?_
  have L0 : pm_get (lv_args 0 [.ref 77]) 0 = some (.ref 77) := rfl
  generalize lv_args 0 [.ref 77] = lv at L0 ⊢
  unfold lnC
  dsimp only
  refine E_ci 2 rfl (by decide) ?_
  refine E_ci 32 rfl (by decide) ?_
  refine E_al rfl L0 ?_
  refine E_ci 3 rfl (by decide) ?_
  refine E_call rfl (Sp_le (by omega) (sp_hR (d := d) (k := 3) (v := c) hh (by decide) gc (by omega))) (chk77 hh rfl rfl (by show 2 ≤ 8; decide)) (fun h1 r1 => ?_)
  rintro ⟨e1, f1⟩
  rw [e1, f1]
  refine E_bin rfl (nJ_add _ _) ?_
  refine E_bin rfl (nJ_mul _ _) ?_
  rw [show 2 * (32 + c) = 64 + 2 * c by omega]
  refine E_is rfl (fun lv1 K1 kp => ?_)
  have M0 := kp 0 _ (by decide) rfl L0
  refine E_al rfl M0 ?_
  refine E_gr rfl hh (q := 85) rfl ?_
  refine E_il rfl K1 ?_
  refine E_al rfl M0 ?_
  refine E_c rfl ?_
  refine E_ci 1 rfl (by decide) ?_
  refine E_al rfl M0 ?_
  refine E_ci 0 rfl (by decide) ?_
  refine E_call rfl (Sp_le (by omega) (sp_hR (d := d) (k := 0) (v := p) hh (by decide) gp (by omega))) (chk77 hh rfl rfl (by show 6 ≤ 8; decide)) (fun h2 r2 => ?_)
  rintro ⟨e2, f2⟩
  rw [e2, f2]
  refine E_call rfl (Sp_le (by omega) (sp_nW9 (d := d) (k := 5) (lo := 1) (hi := p) R (by decide) (by omega) (by omega))) (chk77 hh rfl rfl (by show 2 ≤ 8; decide)) (fun h3 r3 => ?_)
  rintro ⟨e3, f3, R3, u3, w3⟩
  rw [e3]
  generalize bV T L 1 p (bW T L (wd 5) x) = V1 at u3 w3 ⊢
  have hh3 : HH h3 := (RSt_TB R3).1
  refine E_ias rfl hh3 rfl (by omega) (by decide) ?_
  have b85 : bd 85 (64 + 2 * c) = some (0, 8) := bd_85 (by omega) (by omega)
  have hh4 : HH (pt h3 85 (64 + 2 * c) (nJ V1)) := HH_ptn hh3 b85 (by omega) (by omega) (by omega)
  have R4 := RSt_pt (by omega) hh4 R3
  have g4 : gi (pt h3 85 (64 + 2 * c) (nJ V1)) 85 (64 + 2 * c) = nJ V1 := gi_ptn hh3 b85 (by omega) (by omega) (by omega)
  have o4 : ∀ i, i ≠ 64 + 2 * c → gi (pt h3 85 (64 + 2 * c) (nJ V1)) 85 i = gi h 85 i := fun i hi => by rw [gi_ne (fun _ => hi), fr_gi f3 (rg_no rfl _)]
  have c4 : gi (pt h3 85 (64 + 2 * c) (nJ V1)) 84 27 = nJ c := by rw [gi_ne (by omega), fr_gi f3 (rg_no rfl _)]; exact gc
  have F4 : fr_g CX h (pt h3 85 (64 + 2 * c) (nJ V1)) := fr_ptr (l := 64) (u := 79) rfl (by omega) (by omega) (fr_wk rfl f3)
  generalize pt h3 85 (64 + 2 * c) (nJ V1) = h4 at hh4 R4 g4 o4 c4 F4 ⊢
  refine E_al rfl M0 ?_
  refine E_gr rfl hh4 (q := 85) rfl ?_
  refine E_il rfl K1 ?_
  refine E_ci 1 rfl (by decide) ?_
  refine E_bin rfl (nJ_add _ _) ?_
  refine E_al rfl M0 ?_
  refine E_c rfl ?_
  refine E_ci 0 rfl (by decide) ?_
  refine E_ci 99 rfl (by decide) ?_
  refine E_call rfl (Sp_le (by omega) (sp_nW9 (d := d) (k := 6) (lo := 0) (hi := 99) R4 (by decide) (by omega) (by omega))) (chk77 hh4 rfl rfl (by show 2 ≤ 8; decide)) (fun h5 r5 => ?_)
  rintro ⟨e5, f5, R5, u5, w5⟩
  rw [e5]
  generalize bV T L 0 99 (bW T L (wd 6) (bN T L 1 p (bW T L (wd 5) x))) = V2 at u5 w5 ⊢
  have hh5 : HH h5 := (RSt_TB R5).1
  refine E_ias rfl hh5 rfl (by omega) (by decide) ?_
  have b85o : bd 85 (64 + 2 * c + 1) = some (0, 99) := bd_85o (by omega) (by omega)
  have hh6 : HH (pt h5 85 (64 + 2 * c + 1) (nJ V2)) := HH_ptn hh5 b85o (by omega) (by omega) (by omega)
  have R6 := RSt_pt (by omega) hh6 R5
  have g6 : gi (pt h5 85 (64 + 2 * c + 1) (nJ V2)) 85 (64 + 2 * c + 1) = nJ V2 := gi_ptn hh5 b85o (by omega) (by omega) (by omega)
  have g6b : gi (pt h5 85 (64 + 2 * c + 1) (nJ V2)) 85 (64 + 2 * c) = nJ V1 := by rw [gi_ne (by omega), fr_gi f5 (rg_no rfl _)]; exact g4
  have o6 : ∀ i, i ≠ 64 + 2 * c → i ≠ 64 + 2 * c + 1 → gi (pt h5 85 (64 + 2 * c + 1) (nJ V2)) 85 i = gi h 85 i := fun i a b => by rw [gi_ne (fun _ => b), fr_gi f5 (rg_no rfl _)]; exact o4 i a
  have c6 : gi (pt h5 85 (64 + 2 * c + 1) (nJ V2)) 84 27 = nJ c := by rw [gi_ne (by omega), fr_gi f5 (rg_no rfl _)]; exact c4
  have F6 : fr_g CX h (pt h5 85 (64 + 2 * c + 1) (nJ V2)) := fr_ptr (l := 64) (u := 79) rfl (by omega) (by omega) (fr_trans F4 (fr_wk rfl f5))
  generalize pt h5 85 (64 + 2 * c + 1) (nJ V2) = h6 at hh6 R6 g6 g6b o6 c6 F6 ⊢
  refine E_al rfl M0 ?_
  refine E_ci 3 rfl (by decide) ?_
  refine E_al rfl M0 ?_
  refine E_ci 3 rfl (by decide) ?_
  refine E_call rfl (Sp_le (by omega) (sp_hR (d := d) (k := 3) (v := c) hh6 (by decide) c6 (by omega))) (chk77 hh6 rfl rfl (by show 2 ≤ 8; decide)) (fun h7 r7 => ?_)
  rintro ⟨e7, f7⟩
  rw [e7, f7]
  refine E_ci 1 rfl (by decide) ?_
  refine E_bin rfl (nJ_add _ _) ?_
  refine E_call rfl (Sp_le (by omega) (sp_tells (d := d) (k := 3) hh6 (by decide))) (chk77 hh6 rfl rfl (by show 0 ≤ 8; decide)) (fun h8 r8 => ?_)
  rintro ⟨e8, f8⟩
  rw [e8, f8]
  have hh8 : HH (pt h6 84 (24 + 3) (nJ (c + 1))) := HH_ptn hh6 rfl (by omega) (by omega) (by omega)
  refine E_ret rfl ⟨rfl, hh8, fr_ptr (l := 27) (u := 27) rfl (by omega) (by omega) F6, RSt_pt (by omega) hh8 R6, gi_ptn hh6 rfl (by omega) (by omega) (by omega), ?_, ?_, fun i a b => ?_⟩
  · rw [gi_ne (by omega)]; exact g6b
  · rw [gi_ne (by omega)]; exact g6
  · rw [gi_ne (by omega)]; exact o6 i a b
end RL1
end
