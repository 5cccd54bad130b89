section
/-- a row, and what is made of the states behind it without a step -/
noncomputable def R_h {w : AW} (r : ARow w) (g : AS → List AS) (hg : ∀ (E : AEnv) (A : AS) (σ : pm_S), as_g w E A σ → ∃ B ∈ g A, as_g w E B σ) : ARow w := ⟨(r.1.1, fun A => (r.1.2.1 A).map (fun As => As.flatMap g), r.1.2.2), (by
  intro E A σ Bs g0 h
  obtain ⟨As, hAs, rfl⟩ := Option.map_eq_some_iff.mp h
  obtain ⟨σ', e1, A', e2, e3⟩ := r.2.1 E A σ As g0 hAs
  obtain ⟨B, hB, gB⟩ := hg E A' σ' e3
  exact ⟨σ', e1, B, List.mem_flatMap.mpr ⟨A', e2, hB⟩, gB⟩), r.2.2⟩
noncomputable def set_fl (A : AS) (fl : List Nat) : AS := (A.1, A.2.1, A.2.2.1, A.2.2.2.1, A.2.2.2.2.1, A.2.2.2.2.2.1, fl, A.2.2.2.2.2.2.2)
theorem set_fl_ok {w : AW} {E : AEnv} {ρ : Nat → Int} {A : AS} {σ : pm_S} {fl : List Nat} (g : as_r w E ρ A σ) (h : ∀ i ∈ fl, w.1.2.1 i σ.2.2.2.1) : as_r w E ρ (set_fl A fl) σ := by
  obtain ⟨g1, g2, g3, g4, g5⟩ := g
  exact ⟨g1, g2, g3, g4, g5.1, g5.2.1, g5.2.2.1, h, g5.2.2.2.2⟩
noncomputable def set_iv (A : AS) (iv : IV) : AS := (A.1, A.2.1, A.2.2.1, iv, A.2.2.2.2)
end

