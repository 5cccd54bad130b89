section
theorem SL_cf {h : pm_H} (S : SL h) (s : Nat) (hs : s < 4) : cf h s = rf h s ∧ (¬ rf h s = 0 → cwd h s = rfw h s) ∧ cm h s = rm h s := by
  obtain ⟨S1, S2, S3⟩ := S s hs
  exact ⟨S1, fun q => S2 (fun e => q (rf_0 e)), S3⟩
section WRP
variable {h : pm_H} {x a b i j n : Int32} {v : Int64}
theorem d8_write (I : IVS h) : Sp 100 203 h [.ref 0, .int a, .int b, .long v] (fun h' r => IVh h' ∧ ∃ x : Int32, r = some (.int x) ∧ half_write h' x a b) := by
  refine Sp_le (by omega) (Sp_mono ?_ (Sp_and (top_all (as := [.ref 0, .int a, .int b, .long v]) q952 (by decide +kernel) I.1 ⟨rfl, aI _, aI _, aL _, trivial⟩) (sp_write8 (d := 0) I.1.1)))
  rintro h' r ⟨⟨s1, s2, -⟩, s3⟩
  refine ⟨s1, _, s3, RES_fr s2 rfl I.2, wrv_eq (fun s hs => ?_) (fun s hs => ?_)⟩
  · rw [(rf_fr s2 rfl s).1]
    exact (SL_cf I.2.2 s hs).1
  · rw [(rf_fr s2 rfl s).2.2]
    exact (SL_cf I.2.2 s hs).2.2
theorem d9_write (I : IVh h) (J : half_write h x a b) : Sp 100 380 h [.ref 77, .int a, .int b, .long v] (fun h' r => IVS h' ∧ r = some (.int x)) := by
  refine Sp_le (by omega) (Sp_mono ?_ (Sp_and (top_all (as := [.ref 77, .int a, .int b, .long v]) q955 (by decide +kernel) I ⟨rfl, aI _, aI _, aL _, trivial⟩) (sp_write9 (d := 0) I.1)))
  rintro h' r ⟨⟨s1, s2, -⟩, s3⟩
  obtain ⟨J1, rfl⟩ := J
  exact ⟨⟨s1, RES_fr s2 rfl J1⟩, s3⟩
noncomputable def half_paste (h : pm_H) (x a i b j n : Int32) : Prop := RES h ∧ x = pav (rf h) (rfw h) (rm h) a i b j n
theorem d8_paste (I : IVS h) : Sp 100 158 h [.ref 0, .int a, .int i, .int b, .int j, .int n] (fun h' r => IVh h' ∧ ∃ x : Int32, r = some (.int x) ∧ half_paste h' x a i b j n) := by
  refine Sp_le (by omega) (Sp_mono ?_ (sp_paste8 (d := 0) I.1.1))
  rintro h' r ⟨q1, q2, x, q3, q4⟩
  refine ⟨IVh_fr (M := PM) (by decide +kernel) q2 q1 I.1 (RV_fr I.1.1 rfl q2 I.1.2.2), x, q3, RES_fr q2 rfl I.2, (psv_pav q4).trans (pav_eq (fun s hs => ?_) (fun s hs => ?_) (fun s hs => ?_))⟩
  · rw [(rf_fr q2 rfl s).1]
    exact (SL_cf I.2.2 s hs).1
  · rw [(rf_fr q2 rfl s).1, (rf_fr q2 rfl s).2.1]
    exact (SL_cf I.2.2 s hs).2.1
  · rw [(rf_fr q2 rfl s).2.2]
    exact (SL_cf I.2.2 s hs).2.2
theorem d9_paste (I : IVh h) (J : half_paste h x a i b j n) : Sp 100 323 h [.ref 77, .int a, .int i, .int b, .int j, .int n] (fun h' r => IVS h' ∧ r = some (.int x)) := by
  refine Sp_le (by omega) (Sp_mono ?_ (Sp_and (top_all (as := [.ref 77, .int a, .int i, .int b, .int j, .int n]) q961 (by decide +kernel) I ⟨rfl, aI _, aI _, aI _, aI _, aI _, trivial⟩) (sp_paste9 (d := 0) I.1)))
  rintro h' r ⟨⟨s1, s2, -⟩, s3⟩
  obtain ⟨J1, rfl⟩ := J
  exact ⟨⟨s1, RES_fr s2 rfl J1⟩, s3⟩
end WRP
end

