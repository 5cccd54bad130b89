/-! THE EXECUTOR, part 9: segments, methods -/
def ar_run {hs : List AE} (tab : List (Nat × AR hs)) (sums : List Sum1) (cuts : List (Nat × Cut)) (l0 : List (Nat × AV)) (rk0 : RK) (rt : Option CV) : Nat → AS → Bool
  | 0, _ => false
  | n + 1, A => match pm_at tab A.1 with
    | none => false
    | some (.inl r) => match r.1.2 A with
      | none => false
      | some As => As.all (fun B => match pm_at cuts B.1 with
        | some c => cut_le B c && rk_chk l0 B.2.1 8 c.2.2 rk0
        | none => ar_run tab sums cuts l0 rk0 rt n B)
    | some (.inr (.inl (y, k, ci, mc, ms))) => match call_do hs sums A y k ci mc ms with
      | none => false
      | some B => match pm_at cuts B.1 with
        | some c => cut_le B c && rk_chk l0 B.2.1 8 c.2.2 rk0
        | none => ar_run tab sums cuts l0 rk0 rt n B
    | some (.inr (.inr kd)) => rt_chk kd A rt
/-- it runs to an answer -/
def ar_G {hs : List AE} (tab : List (Nat × AR hs)) (call : pm_Call) (rt : Option CV) (σ : pm_S) : Prop := ∃ o, pm_Go (pm_at (ar_tab tab)) call σ o ∧ hs_g hs o.1 ∧ rt_g rt o.2
theorem ar_run_ok {hs : List AE} {tab : List (Nat × AR hs)} {sums : List Sum1} {cuts : List (Nat × Cut)} {l0 : List (Nat × AV)} {rk0 : RK} {rt : Option CV} {call : pm_Call} {E : AEnv} {c0 : List (Nat × Value)}
    (hS : ∀ S ∈ sums, sum_g hs call S) (h0 : ∀ i a, (i, a) ∈ l0 → ∃ v, pm_get c0 i = some v ∧ av_g E.1 E.2 a v)
    (K : ∀ (c : Cut) (σ : pm_S), pm_at cuts σ.1 = some c → cut_g hs c σ → rk_lt 8 (rk_v σ.2.1 c.2.2) (rk_v c0 rk0) → ar_G tab call rt σ) :
    ∀ (n : Nat) (A : AS) (σ : pm_S), ar_run tab sums cuts l0 rk0 rt n A = true → as_g hs E A σ → ar_G tab call rt σ
  | 0, _, _, h, _ => by cases h
  | n + 1, A, σ, h, g => by
    have nx : ∀ (B : AS) (τ : pm_S), (match pm_at cuts B.1 with | some c => cut_le B c && rk_chk l0 B.2.1 8 c.2.2 rk0 | none => ar_run tab sums cuts l0 rk0 rt n B) = true → as_g hs E B τ → ar_G tab call rt τ := by
      intro B τ hB gB
      cases hc : pm_at cuts B.1 with
      | none =>
        rw [hc] at hB
        exact ar_run_ok hS h0 K n B τ hB gB
      | some c =>
        rw [hc] at hB
        have hB : (cut_le B c && rk_chk l0 B.2.1 8 c.2.2 rk0) = true := hB
        rw [Bool.and_eq_true] at hB
        have hg := cut_le_ok gB hB.1
        obtain ⟨ρ, g1, g2, g3, g4, g5⟩ := gB
        exact K c τ (by rw [g2]; exact hc) hg (rk_chk_ok (fun k hk => g1.2.2 k hk) h0 g3 8 c.2.2 rk0 hB.2)
    have gpc : σ.1 = A.1 := by obtain ⟨ρ, g1, g2, g3, g4, g5⟩ := g; exact g2
    unfold ar_run at h
    cases ht : pm_at tab A.1 with
    | none => rw [ht] at h; cases h
    | some x =>
      rw [ht] at h
      have hl := ar_at ht
      rw [← gpc] at hl
      match x, hl, h with
      | .inl r, hl, h =>
        dsimp only at h
        cases hA : r.1.2 A with
        | none => rw [hA] at h; cases h
        | some As =>
          rw [hA] at h
          dsimp only at h
          obtain ⟨σ', e1, A', e2, e3⟩ := r.2 E A σ As g hA
          obtain ⟨o, o1, o2⟩ := nx A' σ' (List.all_eq_true.mp h A' e2) e3
          exact ⟨o, Go_st hl e1 o1, o2⟩
      | .inr (.inl (y, k, ci, mc, ms)), hl, h =>
        dsimp only at h
        cases hA : call_do hs sums A y k ci mc ms with
        | none => rw [hA] at h; cases h
        | some B =>
          rw [hA] at h
          dsimp only at h
          obtain ⟨h', r, e1, e2, e3⟩ := call_do_ok hS g hA
          obtain ⟨o, o1, o2⟩ := nx B _ h e3
          exact ⟨o, Go_call hl e1 e2 o1, o2⟩
      | .inr (.inr kd), hl, h =>
        dsimp only at h
        obtain ⟨o, o1, o2, o3⟩ := rt_chk_ok g h
        exact ⟨o, Go_ret hl o1, o2, o3⟩
/-- a cut as a state: a symbol a number -/
def ci_lv : List (Nat × CV) → IV → List (Nat × AV) × IV
  | [], iv => ([], iv)
  | q :: l, iv => ((q.1, (ci_av q.2 iv).1) :: (ci_lv l (ci_av q.2 iv).2).1, (ci_lv l (ci_av q.2 iv).2).2)
def ci_st : List CV → IV → List AV × IV
  | [], iv => ([], iv)
  | c :: l, iv => ((ci_av c iv).1 :: (ci_st l (ci_av c iv).2).1, (ci_st l (ci_av c iv).2).2)
theorem ci_lv_ok {cl : List (Nat × Value)} : ∀ (l : List (Nat × CV)) (iv : IV) (ρ : Nat → Int), (∀ i k, (i, k) ∈ l → ∃ v, pm_get cl i = some v ∧ cv_g k v) → ia_g (0, ρ) ρ iv →
    ∃ ρ', ia_g (0, ρ') ρ' (ci_lv l iv).2 ∧ iv.length ≤ (ci_lv l iv).2.length ∧ (∀ k, k < iv.length → ρ' k = ρ k) ∧ ∀ i a, (i, a) ∈ (ci_lv l iv).1 → ∃ v, pm_get cl i = some v ∧ av_g (ci_lv l iv).2.length ρ' a v
  | [], iv, ρ, _, g => ⟨ρ, g, Nat.le_refl _, fun _ _ => rfl, fun _ _ hm => absurd hm List.not_mem_nil⟩
  | (i, c) :: l, iv, ρ, h, g => by
    obtain ⟨v, e1, e2⟩ := h i c List.mem_cons_self
    obtain ⟨ρ1, p1, p2, p3, p4⟩ := ci_av_ok g e2
    obtain ⟨ρ2, q1, q2, q3, q4⟩ := ci_lv_ok l (ci_av c iv).2 ρ1 (fun j k hm => h j k (List.mem_cons_of_mem _ hm)) ⟨p1.1, Nat.zero_le _, fun k hk => absurd hk (Nat.not_lt_zero k)⟩
    refine ⟨ρ2, q1, Nat.le_trans p2 q2, fun k hk => (q3 k (Nat.lt_of_lt_of_le hk p2)).trans (p3 k hk), fun j a hm => ?_⟩
    cases List.mem_cons.mp hm with
    | inl e => cases e; exact ⟨v, e1, av_g_mono q2 q3 p4⟩
    | inr hm => exact q4 j a hm
theorem ci_st_ok : ∀ (l : List CV) (vs : List Value) (iv : IV) (ρ : Nat → Int), f2 cv_g l vs → ia_g (0, ρ) ρ iv →
    ∃ ρ', ia_g (0, ρ') ρ' (ci_st l iv).2 ∧ iv.length ≤ (ci_st l iv).2.length ∧ (∀ k, k < iv.length → ρ' k = ρ k) ∧ f2 (fun a v => av_g (ci_st l iv).2.length ρ' a v) (ci_st l iv).1 vs
  | [], [], iv, ρ, _, g => ⟨ρ, g, Nat.le_refl _, fun _ _ => rfl, trivial⟩
  | [], _ :: _, _, _, h, _ => h.elim
  | _ :: _, [], _, _, h, _ => h.elim
  | c :: l, v :: vs, iv, ρ, h, g => by
    obtain ⟨ρ1, p1, p2, p3, p4⟩ := ci_av_ok g h.1
    obtain ⟨ρ2, q1, q2, q3, q4⟩ := ci_st_ok l vs (ci_av c iv).2 ρ1 h.2 ⟨p1.1, Nat.zero_le _, fun k hk => absurd hk (Nat.not_lt_zero k)⟩
    exact ⟨ρ2, q1, Nat.le_trans p2 q2, fun k hk => (q3 k (Nat.lt_of_lt_of_le hk p2)).trans (p3 k hk), av_g_mono q2 q3 p4, q4⟩
def cut_as (pc : Nat) (c : Cut) : AS := (pc, (ci_lv c.1 []).1, (ci_st c.2.1 (ci_lv c.1 []).2).1, (ci_st c.2.1 (ci_lv c.1 []).2).2)
theorem cut_as_ok {hs : List AE} {c : Cut} {σ : pm_S} (h : cut_g hs c σ) : ∃ E : AEnv, as_g hs E (cut_as σ.1 c) σ ∧ ∀ i a, (i, a) ∈ (cut_as σ.1 c).2.1 → ∃ v, pm_get σ.2.1 i = some v ∧ av_g E.1 E.2 a v := by
  have g0 : ia_g (0, fun _ => 0) (fun _ => 0) [] := ⟨fun k lo hi hk => (by cases hk), Nat.le_refl _, fun _ _ => rfl⟩
  obtain ⟨ρ1, p1, p2, p3, p4⟩ := ci_lv_ok c.1 [] _ h.1 g0
  obtain ⟨ρ2, q1, q2, q3, q4⟩ := ci_st_ok c.2.1 σ.2.2.1 (ci_lv c.1 []).2 ρ1 h.2.1 p1
  have hl : ∀ i a, (i, a) ∈ (cut_as σ.1 c).2.1 → ∃ v, pm_get σ.2.1 i = some v ∧ av_g (ci_st c.2.1 (ci_lv c.1 []).2).2.length ρ2 a v := fun i a hm => by
    obtain ⟨v, e1, e2⟩ := p4 i a hm
    exact ⟨v, e1, av_g_mono q2 q3 e2⟩
  exact ⟨((ci_st c.2.1 (ci_lv c.1 []).2).2.length, ρ2), ⟨ρ2, ⟨q1.1, Nat.le_refl _, fun _ _ => rfl⟩, rfl, hl, q4, h.2.2⟩, hl⟩
/-- every cut is checked -/
def cuts_chk {hs : List AE} (tab : List (Nat × AR hs)) (sums : List Sum1) (cuts : List (Nat × Cut)) (rt : Option CV) (N : Nat) : Bool :=
  cuts.all (fun q => rk_small q.2.2.2 && ar_run tab sums cuts (cut_as q.1 q.2).2.1 q.2.2.2 rt N (cut_as q.1 q.2))
theorem cuts_ok {hs : List AE} {tab : List (Nat × AR hs)} {sums : List Sum1} {cuts : List (Nat × Cut)} {rt : Option CV} {call : pm_Call} {N : Nat} (hS : ∀ S ∈ sums, sum_g hs call S) (h : cuts_chk tab sums cuts rt N = true) :
    ∀ (m : Nat) (c : Cut) (σ : pm_S), pm_at cuts σ.1 = some c → cut_g hs c σ → rk_e 8589934592 8 (rk_v σ.2.1 c.2.2) < m → ar_G tab call rt σ
  | 0, _, _, _, _, hm => absurd hm (Nat.not_lt_zero _)
  | m + 1, c, σ, hc, hg, hm => by
    have h1 := List.all_eq_true.mp h _ (pm_at_in hc)
    rw [Bool.and_eq_true] at h1
    obtain ⟨E, e1, e2⟩ := cut_as_ok hg
    refine ar_run_ok hS e2 (fun c' σ' k1 k2 k3 => ?_) N (cut_as σ.1 c) σ h1.2 e1
    have h2 := List.all_eq_true.mp h _ (pm_at_in k1)
    rw [Bool.and_eq_true] at h2
    have h3 : rk_e 8589934592 8 (rk_v σ'.2.1 c'.2.2) < rk_e 8589934592 8 (rk_v σ.2.1 c.2.2) := rk_e_mono (K := 8589934592) (by decide) 8 _ _ (rk_v_lt h2.1) k3
    exact cuts_ok hS h m c' σ' k1 k2 (by omega)
