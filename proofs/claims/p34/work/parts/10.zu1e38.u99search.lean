section
/-! SEARCH: one pure law, and the reference goes on by it (wants u97) -/
noncomputable abbrev GST : Type := Nat × (Nat → Nat) × (Nat → Nat) × (Nat → Nat) × Nat
noncomputable def gdec (k : Nat) (s : GST) : GST := (s.1, fup s.2.1 k (s.2.1 k - 1), s.2.2)
noncomputable def gadd (k node : Nat) (s : GST) : GST := (s.1 + 2 ^ k, s.2.1, fup s.2.2.1 (k + 1) node, fup s.2.2.2.1 s.2.2.2.2 (k + 1), s.2.2.2.2 + 1)
noncomputable def glp1 (rec : Nat → GST → GST) (node k : Nat) (s : GST) : GST := if isB s.1 k = true then s else if s.2.1 k = 0 then rec (k + 1) (gadd k node s) else gdec k s
noncomputable def glp (rec : Nat → GST → GST) (node : Nat) : Nat → GST → GST
  | 0, s => s
  | k + 1, s => glp rec node k (glp1 rec node k s)
noncomputable def go (n : Nat) : Nat → Nat → GST → GST
  | 0, _, s => s
  | u + 1, node, s => glp (go n u) node n s
/-- what holds of a state all along -/
noncomputable def GI (n : Nat) (s : GST) : Prop := s.1 < 2 ^ n ∧ s.2.2.2.2 = 1 + pcn s.1 n ∧ s.2.2.2.1 0 = 0 ∧ (∀ i, 1 ≤ i → i < s.2.2.2.2 → ∃ c, c < n ∧ s.2.2.2.1 i = c + 1 ∧ isB s.1 c = true ∧ ∃ j, j < i ∧ s.2.2.1 (c + 1) = s.2.2.2.1 j) ∧ ∀ c, c < n → isB s.1 c = true → ∃ i, 1 ≤ i ∧ i < s.2.2.2.2 ∧ s.2.2.2.1 i = c + 1
/-- a later state -/
noncomputable def GE (n : Nat) (s s' : GST) : Prop := (∀ c, c < n → isB s.1 c = true → isB s'.1 c = true ∧ s'.2.2.1 (c + 1) = s.2.2.1 (c + 1)) ∧ s.2.2.2.2 ≤ s'.2.2.2.2 ∧ ∀ i, i < s.2.2.2.2 → s'.2.2.2.1 i = s.2.2.2.1 i
theorem GE_rf {n : Nat} (s : GST) : GE n s s := ⟨fun _ _ a => ⟨a, rfl⟩, Nat.le_refl _, fun _ _ => rfl⟩
theorem GE_tr {n : Nat} {a b c : GST} (x : GE n a b) (y : GE n b c) : GE n a c :=
  ⟨fun i hi z => ⟨(y.1 i hi (x.1 i hi z).1).1, (y.1 i hi (x.1 i hi z).1).2.trans (x.1 i hi z).2⟩, Nat.le_trans x.2.1 y.2.1, fun i hi => (y.2.2 i (Nat.lt_of_lt_of_le hi x.2.1)).trans (x.2.2 i hi)⟩
noncomputable def GNd (node : Nat) (s : GST) : Prop := ∃ j, j < s.2.2.2.2 ∧ node = s.2.2.2.1 j
theorem GNd_E {n node : Nat} {s s' : GST} (e : GE n s s') (g : GNd node s) : GNd node s' := by
  obtain ⟨j, hj, rfl⟩ := g
  exact ⟨j, Nat.lt_of_lt_of_le hj e.2.1, (e.2.2 j hj).symm⟩
theorem GI_dec {n k : Nat} {s : GST} (G : GI n s) : GI n (gdec k s) := G
theorem GE_dec {n k : Nat} {s : GST} : GE n s (gdec k s) := ⟨fun _ _ a => ⟨a, rfl⟩, Nat.le_refl _, fun _ _ => rfl⟩
theorem GI_add {n k node : Nat} {s : GST} (n8 : n ≤ 8) (hk : k < n) (hz : isB s.1 k = false) (G : GI n s) (g : GNd node s) : GI n (gadd k node s) ∧ GE n s (gadd k node s) ∧ GNd (k + 1) (gadd k node s) := by
  obtain ⟨g1, g2, g3, g4, g5⟩ := G
  obtain ⟨jn, hjn, en⟩ := g
  have p2 : 2 ^ n ≤ 2 ^ 8 := Nat.pow_le_pow_right (by omega) n8
  have bit : ∀ c, c < n → isB (s.1 + 2 ^ k) c = (c == k || isB s.1 c) := fun c hc => isB_add (by omega) (by omega) (by omega) hz
  refine ⟨⟨add_tab ⟨n, by omega⟩ ⟨s.1, by omega⟩ g1 ⟨k, by omega⟩ hk hz, ?_, ?_, fun i i1 i2 => ?_, fun c hc b => ?_⟩, ⟨fun c hc b => ?_, Nat.le_succ _, fun i hi => fup_n (by omega)⟩, s.2.2.2.2, Nat.lt_succ_self _, (fup_s _ _ _).symm⟩
  · show s.2.2.2.2 + 1 = 1 + pcn (s.1 + 2 ^ k) n
    rw [pcn_add (by omega) (by omega) hz (by omega), if_pos hk]; omega
  · show fup s.2.2.2.1 s.2.2.2.2 (k + 1) 0 = 0
    rw [fup_n (by omega)]; exact g3
  · have i2 : i < s.2.2.2.2 + 1 := i2
    by_cases e : i = s.2.2.2.2
    · refine ⟨k, hk, by rw [e]; exact fup_s _ _ _, ?_, jn, by omega, ?_⟩
      · show isB (s.1 + 2 ^ k) k = true
        rw [bit k hk, show (k == k) = true from beq_self_eq_true _, Bool.true_or]
      · show fup s.2.2.1 (k + 1) node (k + 1) = fup s.2.2.2.1 s.2.2.2.2 (k + 1) jn
        rw [fup_s, fup_n (by omega)]; exact en
    · obtain ⟨c, hc, e1, b, j, hj, e2⟩ := g4 i i1 (by omega)
      have ne : c ≠ k := fun z => by rw [z, hz] at b; cases b
      refine ⟨c, hc, ?_, ?_, j, hj, ?_⟩
      · show fup s.2.2.2.1 s.2.2.2.2 (k + 1) i = c + 1
        rw [fup_n e]; exact e1
      · show isB (s.1 + 2 ^ k) c = true
        rw [bit c hc, b, Bool.or_true]
      · show fup s.2.2.1 (k + 1) node (c + 1) = fup s.2.2.2.1 s.2.2.2.2 (k + 1) j
        rw [fup_n (by omega), fup_n (by omega)]; exact e2
  · by_cases e : c = k
    · exact ⟨s.2.2.2.2, by omega, Nat.lt_succ_self _, by rw [e]; exact fup_s _ _ _⟩
    · have b : isB (s.1 + 2 ^ k) c = true := b
      rw [bit c hc, show (c == k) = false from beq_eq_false_iff_ne.mpr e, Bool.false_or] at b
      obtain ⟨i, i1, i2, i3⟩ := g5 c hc b
      refine ⟨i, i1, Nat.lt_succ_of_lt i2, ?_⟩
      show fup s.2.2.2.1 s.2.2.2.2 (k + 1) i = c + 1
      rw [fup_n (by omega)]; exact i3
  · have ne : c ≠ k := fun z => by rw [z, hz] at b; cases b
    refine ⟨?_, ?_⟩
    · show isB (s.1 + 2 ^ k) c = true
      rw [bit c hc, b, Bool.or_true]
    · show fup s.2.2.1 (k + 1) node (c + 1) = s.2.2.1 (c + 1)
      rw [fup_n (by omega)]
/-- what a step of SEARCH keeps, and how grains are counted -/
noncomputable def RecOk (n u : Nat) (rec : Nat → GST → GST) : Prop := ∀ node s, GI n s → GNd node s → n + 2 ≤ u + s.2.2.2.2 → GI n (rec node s) ∧ GE n s (rec node s) ∧ ∀ c, c < n → isB (rec node s).1 c = false → (rec node s).2.1 c + 1 + ((rec node s).2.2.2.2 - s.2.2.2.2) = s.2.1 c
theorem notb {b : Bool} (h : ¬ b = true) : b = false := by cases b; rfl; exact absurd rfl h
theorem glp1_ok {n u : Nat} {rec : Nat → GST → GST} {node k : Nat} {s : GST} (n8 : n ≤ 8) (R : RecOk n u rec) (hk : k < n) (hu : n + 2 ≤ u + 1 + s.2.2.2.2) (G : GI n s) (g : GNd node s) : GI n (glp1 rec node k s) ∧ GE n s (glp1 rec node k s) := by
  unfold glp1
  by_cases b : isB s.1 k = true
  · rw [if_pos b]; exact ⟨G, GE_rf s⟩
  · rw [if_neg b]
    by_cases z : s.2.1 k = 0
    · rw [if_pos z]
      obtain ⟨a1, a2, a3⟩ := GI_add (node := node) n8 hk (notb b) G g
      obtain ⟨b1, b2, -⟩ := R (k + 1) _ a1 a3 (by show n + 2 ≤ u + (s.2.2.2.2 + 1); omega)
      exact ⟨b1, GE_tr a2 b2⟩
    · rw [if_neg z]; exact ⟨GI_dec G, GE_dec⟩
theorem glp_ok {n u : Nat} {rec : Nat → GST → GST} {node : Nat} (n8 : n ≤ 8) (R : RecOk n u rec) : ∀ {k : Nat} {s : GST}, k ≤ n → n + 2 ≤ u + 1 + s.2.2.2.2 → GI n s → GNd node s → GI n (glp rec node k s) ∧ GE n s (glp rec node k s) ∧ ∀ c, c < n → isB (glp rec node k s).1 c = false → (glp rec node k s).2.1 c + (if c < k then 1 else 0) + ((glp rec node k s).2.2.2.2 - s.2.2.2.2) = s.2.1 c
  | 0, s, _, _, G, g => ⟨G, GE_rf s, fun c _ _ => by show s.2.1 c + 0 + (s.2.2.2.2 - s.2.2.2.2) = _; omega⟩
  | k + 1, s, hk, hu, G, g => by
    obtain ⟨a1, a2⟩ := glp1_ok (node := node) n8 R (show k < n by omega) hu G g
    have le0 := a2.2.1
    obtain ⟨b1, b2, b3⟩ := glp_ok (node := node) n8 R (k := k) (by omega) (by omega) a1 (GNd_E a2 g)
    refine ⟨b1, GE_tr a2 b2, fun c hc q => ?_⟩
    have i := b3 c hc q
    have le1 := a2.2.1
    have le2 := b2.2.1
    show (glp rec node k (glp1 rec node k s)).2.1 c + (if c < k + 1 then 1 else 0) + ((glp rec node k (glp1 rec node k s)).2.2.2.2 - s.2.2.2.2) = s.2.1 c
    have q' : isB (glp rec node k (glp1 rec node k s)).1 c = false := q
    have q1 : isB (glp1 rec node k s).1 c = false := by
      cases z : isB (glp1 rec node k s).1 c
      · rfl
      · rw [(b2.1 c hc z).1] at q'; cases q'
    generalize glp rec node k (glp1 rec node k s) = t at i le2 q' ⊢
    by_cases b : isB s.1 k = true
    · have e : glp1 rec node k s = s := by unfold glp1; rw [if_pos b]
      rw [e] at i q1
      have ne : c ≠ k := fun z => by rw [z, b] at q1; cases q1
      by_cases l : c < k
      · rw [if_pos l] at i; rw [if_pos (by omega)]; exact i
      · rw [if_neg l] at i; rw [if_neg (by omega)]; exact i
    · by_cases z : s.2.1 k = 0
      · have e : glp1 rec node k s = rec (k + 1) (gadd k node s) := by unfold glp1; rw [if_neg b, if_pos z]
        obtain ⟨c1, c2, c3⟩ := GI_add (node := node) n8 (show k < n by omega) (notb b) G g
        obtain ⟨r1, r2, r3⟩ := R (k + 1) _ c1 c3 (by show n + 2 ≤ u + (s.2.2.2.2 + 1); omega)
        have rl := r2.2.1
        rw [e] at i q1 le1 le2
        have r4 := r3 c hc q1
        have kc : isB (gadd k node s).1 k = true := by
          have p2 : 2 ^ n ≤ 2 ^ 8 := Nat.pow_le_pow_right (by omega) n8
          have := G.1
          show isB (s.1 + 2 ^ k) k = true
          rw [isB_add (by omega) (by omega) (by omega) (notb b), show (k == k) = true from beq_self_eq_true _, Bool.true_or]
        have ne : c ≠ k := fun z => by rw [z, (r2.1 k (by omega) kc).1] at q1; cases q1
        have eg : (gadd k node s).2.1 c = s.2.1 c := rfl
        have ec : (gadd k node s).2.2.2.2 = s.2.2.2.2 + 1 := rfl
        rw [eg, ec] at r4
        rw [ec] at rl
        by_cases l : c < k
        · rw [if_pos l] at i; rw [if_pos (by omega)]; omega
        · rw [if_neg l] at i; rw [if_neg (by omega)]; omega
      · have e : glp1 rec node k s = gdec k s := by unfold glp1; rw [if_neg b, if_neg z]
        rw [e] at i le1 le2
        have ec : (gdec k s).2.2.2.2 = s.2.2.2.2 := rfl
        rw [ec] at i
        by_cases ck : c = k
        · subst ck
          have eg : (gdec c s).2.1 c = s.2.1 c - 1 := fup_s _ _ _
          rw [eg, if_neg (by omega)] at i
          rw [if_pos (by omega)]
          omega
        · have eg : (gdec k s).2.1 c = s.2.1 c := fup_n ck
          rw [eg] at i
          by_cases l : c < k
          · rw [if_pos l] at i; rw [if_pos (by omega)]; exact i
          · rw [if_neg l] at i; rw [if_neg (by omega)]; exact i
/-- what go keeps, as far as its fuel goes -/
theorem go_ok {n : Nat} (n8 : n ≤ 8) : ∀ u : Nat, RecOk n u (go n u)
  | 0, node, s, G, _, h => by
    have := pcn_le s.1 n
    have := G.2.1
    omega
  | u + 1, node, s, G, g, h => by
    obtain ⟨a1, a2, a3⟩ := glp_ok (node := node) n8 (go_ok n8 u) (k := n) (Nat.le_refl n) h G g
    refine ⟨a1, a2, fun c hc q => ?_⟩
    have := a3 c hc q
    rw [if_pos hc] at this
    exact this
/-- SEARCH of a row of wishes -/
noncomputable def s0 (W : Nat → Nat) : GST := (0, fun c => W c - 1, fun _ => 0, fun _ => 0, 1)
noncomputable def sFin (W : Nat → Nat) (n : Nat) : GST := go n (n + 1) 0 (s0 W)
theorem GI_0 {W : Nat → Nat} {n : Nat} : GI n (s0 W) := ⟨Nat.pow_pos (by omega), by show 1 = 1 + pcn 0 n; rw [pcn_zero], rfl, fun i i1 i2 => by have i2 : i < 1 := i2; omega, fun c _ b => by have b : isB 0 c = true := b; rw [isB_zero] at b; cases b⟩
theorem GNd_0 {W : Nat → Nat} : GNd 0 (s0 W) := ⟨0, by show 0 < 1; omega, rfl⟩
/-- of a lawful row all cars come -/
theorem s_all {W : Nat → Nat} {n : Nat} (n8 : n ≤ 8) (wb : ∀ c, c < n → 1 ≤ W c ∧ W c ≤ n) (lw : ∀ q, 1 ≤ q → q ≤ n → q ≤ cw W q n) : GI n (sFin W n) ∧ (sFin W n).2.2.2.2 = n + 1 ∧ ∀ c, c < n → isB (sFin W n).1 c = true := by
  obtain ⟨a1, a2, a3⟩ := go_ok n8 (n + 1) 0 (s0 W) GI_0 GNd_0 (by show n + 2 ≤ n + 1 + 1; omega)
  have a1 : GI n (sFin W n) := a1
  have c0 : (s0 W).2.2.2.2 = 1 := rfl
  have le : 1 ≤ (sFin W n).2.2.2.2 := a2.2.1
  have key : n ≤ pcn (sFin W n).1 n := by
    rcases Nat.lt_or_ge (pcn (sFin W n).1 n) n with l | l
    · have cnt := a1.2.1
      have q := lw (sFin W n).2.2.2.2 le (by omega)
      have t : cw W (sFin W n).2.2.2.2 n ≤ pcn (sFin W n).1 n := cw_pcn (fun c hc hw => by
        cases z : isB (sFin W n).1 c
        · have := a3 c hc z
          have w := wb c hc
          have e : (s0 W).2.1 c = W c - 1 := rfl
          rw [c0, e] at this
          have this : (sFin W n).2.1 c + 1 + ((sFin W n).2.2.2.2 - 1) = W c - 1 := this
          omega
        · rfl)
      omega
    · exact l
  have full := pcn_full key
  have := pcn_le (sFin W n).1 n
  exact ⟨a1, by have := a1.2.1; omega, full⟩
/-- its tree -/
theorem s_DT {W : Nat → Nat} {n : Nat} (n8 : n ≤ 8) (wb : ∀ c, c < n → 1 ≤ W c ∧ W c ≤ n) (lw : ∀ q, 1 ≤ q → q ≤ n → q ≤ cw W q n) : DT n (sFin W n).2.2.1 ∧ ∀ i, i ≤ n → (sFin W n).2.2.2.1 i ≤ n := by
  obtain ⟨G, e, full⟩ := s_all n8 wb lw
  generalize sFin W n = s at G e full ⊢
  obtain ⟨g1, g2, g3, g4, g5⟩ := G
  have dp : ∀ i, i ≤ n → dep s.2.2.1 i (s.2.2.2.1 i) ∧ s.2.2.2.1 i ≤ n := by
    intro i
    induction i using Nat.strongRecOn with
    | _ i ih =>
      intro hi
      by_cases z : i = 0
      · rw [z, g3]; exact ⟨rfl, Nat.zero_le n⟩
      · obtain ⟨c, h1, h2, -, j, h4, h5⟩ := g4 i (by omega) (by omega)
        have dj := ih j h4 (by omega)
        obtain ⟨k, rfl⟩ : ∃ k, i = k + 1 := ⟨i - 1, by omega⟩
        refine ⟨?_, by omega⟩
        rw [h2]
        refine .inr ?_
        rw [h5]
        exact dep_le dj.1 (by omega)
  refine ⟨fun v v1 vn => ?_, fun i hi => (dp i hi).2⟩
  obtain ⟨i, i1, i2, i3⟩ := g5 (v - 1) (by omega) (full (v - 1) (by omega))
  rw [show v - 1 + 1 = v by omega] at i3
  have d := dp i (by omega)
  rw [i3] at d
  refine ⟨dep_le d.1 (by omega), ?_⟩
  obtain ⟨c, h1, h2, -, j, h4, h5⟩ := g4 i i1 i2
  rw [show c + 1 = v by omega] at h5
  rw [h5]
  exact (dp j (by omega)).2
/-! the reference -/
noncomputable def SI9 (n : Nat) (s : GST) (h : pm_H) : Prop := HH h ∧ gn h 84 3 = n ∧ gi h 77 35 = nJ s.1 ∧ gi h 77 36 = nJ s.2.2.2.2 ∧ (∀ c, c < n → isB s.1 c = false → gi h 97 c = nJ (s.2.1 c) ∧ s.2.1 c ≤ 8) ∧ (∀ i, i < s.2.2.2.2 → gi h 98 i = nJ (s.2.2.2.1 i)) ∧ ∀ c, c < n → isB s.1 c = true → gi h 92 (c + 1) = nJ (s.2.2.1 (c + 1))
section SRC
variable {d n : Nat}
theorem SI9_dec {k : Nat} {s : GST} {h : pm_H} (n8 : n ≤ 8) (hk : k < n) (b : isB s.1 k = false) (z : ¬ s.2.1 k = 0) (S : SI9 n s h) : SI9 n (gdec k s) (pt h 97 k (nJ (s.2.1 k - 1))) := by
  obtain ⟨hh, u3, m1, m2, m3, m4, m5⟩ := S
  have gb := (m3 k hk b).2
  have b97 : bd 97 k = some (-2147483648, 2147483647) := bd_u rfl (by omega)
  refine ⟨HH_ptn hh b97 (by omega) (by omega) (by omega), by rw [gn_ne (by first | exact gxx rfl | omega)]; exact u3, by rw [gi_ne (by first | exact gxx rfl | omega)]; exact m1, by rw [gi_ne (by first | exact gxx rfl | omega)]; exact m2, fun c hc q => ?_, fun i hi => by rw [gi_ne (by first | exact gxx rfl | omega)]; exact m4 i hi, fun c hc q => by rw [gi_ne (by first | exact gxx rfl | omega)]; exact m5 c hc q⟩
  show gi (pt h 97 k (nJ (s.2.1 k - 1))) 97 c = nJ (fup s.2.1 k (s.2.1 k - 1) c) ∧ fup s.2.1 k (s.2.1 k - 1) c ≤ 8
  by_cases e : c = k
  · rw [e, fup_s]
    exact ⟨gi_ptn hh b97 (by omega) (by omega) (by omega), by omega⟩
  · rw [fup_n e, gi_ne (fun _ => e)]
    exact m3 c hc q
/-- the reference's goesOn from a node, as far as its fuel goes -/
theorem go9_loop {u node : Nat} {h0 : pm_H} (n8 : n ≤ 8) (nd8 : node ≤ 8) (ihu : ∀ {h : pm_H} {nd : Nat} {s : GST}, nd ≤ 8 → SI9 n s h → GI n s → GNd nd s → n + 2 ≤ u + s.2.2.2.2 → Sp (d + u + 1) 256 h [.ref 77, .int (nJ nd)] (fun h' r => r = none ∧ fr_g GM h h' ∧ SI9 n (go n u nd s) h')) (k : Nat) : ∀ {h : pm_H} {s : GST} (lv : List (Nat × Value)), k ≤ n → SI9 n s h → GI n s → GNd node s → n + 2 ≤ u + 1 + s.2.2.2.2 → fr_g GM h0 h → pm_get lv 0 = some (.ref 77) → pm_get lv 1 = some (.int (nJ node)) → pm_get lv 2 = some (.int (pI k)) → Ends (pm_at tX9_goesOn) (pm_Rt pm_P (d + u + 1)) (7, lv, [], h, 0, 0) (fun h' r => r = none ∧ fr_g GM h0 h' ∧ SI9 n (glp (go n u) node k s) h') := by
  induction k with
  | zero =>
    intro h s lv kn S G g hu F L0 L1 L2
    refine E_il rfl L2 ?_
    refine E_ifT rfl (by decide) ?_
    exact E_ret rfl ⟨rfl, F, S⟩
  | succ k ih =>
    intro h s lv kn S G g hu F L0 L1 L2
    have S0 := S
    obtain ⟨hh, u3, m1, m2, m3, m4, m5⟩ := S
    have p2 : 2 ^ n ≤ 2 ^ 8 := Nat.pow_le_pow_right (by omega) n8
    have ml := G.1
    have hk : k < n := by omega
    obtain ⟨a1, a2⟩ := glp1_ok (node := node) n8 (go_ok n8 u) hk hu G g
    have le0 := a2.2.1
    have nx : ∀ (h' : pm_H) (lv : List (Nat × Value)), SI9 n (glp1 (go n u) node k s) h' → fr_g GM h0 h' → pm_get lv 0 = some (.ref 77) → pm_get lv 1 = some (.int (nJ node)) → pm_get lv 2 = some (.int (nJ k)) → Ends (pm_at tX9_goesOn) (pm_Rt pm_P (d + u + 1)) (97, lv, [], h', 0, 0) (fun h' r => r = none ∧ fr_g GM h0 h' ∧ SI9 n (glp (go n u) node (k + 1) s) h') := by
      intro h' lv S' F' N0 N1 N2
      refine E_inc rfl N2 (pI_dec _) (fun lv2 K2 kp2 => ?_)
      refine E_goto rfl ?_
      exact ih lv2 (by omega) S' a1 (GNd_E a2 g) (by omega) F' (kp2 0 _ (nbz rfl) rfl N0) (kp2 1 _ (nbz rfl) rfl N1) K2
    refine E_il rfl L2 ?_
    refine E_ifF rfl (decide_eq_false (nJ_lt0 (by omega))) ?_
    refine E_al rfl L0 ?_
    refine E_gf rfl hh rfl m1 ?_
    refine E_il rfl L2 ?_
    refine E_call rfl (Sp_le (by first | exact Nat.add_le_add_left (Nat.le_of_ble_eq_true rfl) _ | exact Nat.le_of_ble_eq_true rfl | omega) (sp_isBit (d := d) (m := s.1) (k := k) (by omega) (by omega))) (chkS rfl (by show 0 ≤ 8; decide)) (fun h1 r1 => ?_)
    rintro ⟨e1, f1⟩
    rw [e1, f1]
    by_cases b : isB s.1 k = true
    · rw [b]
      refine E_ifF rfl (by decide) ?_
      refine E_goto rfl ?_
      exact nx h lv (by unfold glp1; rw [if_pos b]; exact S0) F L0 L1 L2
    · rw [notb b]
      have bz := notb b
      obtain ⟨m6, m7⟩ := m3 k hk bz
      refine E_ifT rfl (by decide) ?_
      refine E_al rfl L0 ?_
      refine E_gr rfl hh (q := 97) rfl ?_
      refine E_il rfl L2 ?_
      refine E_ial rfl hh rfl (by omega) (by decide) m6 ?_
      by_cases z : s.2.1 k = 0
      · refine E_ifT rfl (decide_eq_true ((nJ_le0 (by omega)).mpr z)) ?_
        obtain ⟨c1, c2, c3⟩ := GI_add (node := node) n8 hk bz G g
        have cl : s.2.2.2.2 ≤ 8 := by
          have := c1.2.1
          have := pcn_le (gadd k node s).1 n
          have e : (gadd k node s).2.2.2.2 = s.2.2.2.2 + 1 := rfl
          omega
        refine E_al rfl L0 ?_
        refine E_dup rfl rfl ?_
        refine E_gf rfl hh rfl m1 ?_
        refine E_ci 1 rfl ci1 ?_
        refine E_il rfl L2 ?_
        refine E_bin rfl (show nJ 1 <<< (nJ k &&& 31) = nJ (2 ^ k) from shl_tab ⟨k, by omega⟩) ?_
        refine E_bin rfl (show nJ s.1 ||| nJ (2 ^ k) = nJ (s.1 + 2 ^ k) from or2_tab ⟨s.1, by omega⟩ ⟨k, by omega⟩ bz) ?_
        refine E_pf rfl hh rfl ?_
        have h1 : HH (pt h 77 35 (nJ (s.1 + 2 ^ k))) := HH_pt hh rfl (ai_lo _) (ai_hi _)
        have F1 : fr_g GM h0 (pt h 77 35 (nJ (s.1 + 2 ^ k))) := fr_ptr (l := 35) (u := 36) rfl (by omega) (by omega) F
        have q1 : gi (pt h 77 35 (nJ (s.1 + 2 ^ k))) 77 35 = nJ (s.1 + 2 ^ k) := gi_pt hh rfl (ai_lo _) (ai_hi _)
        have q2 : gi (pt h 77 35 (nJ (s.1 + 2 ^ k))) 77 36 = nJ s.2.2.2.2 := by rw [gi_ne (by first | exact gxx rfl | omega)]; exact m2
        have q3 : ∀ a i, a ≠ 77 → gi (pt h 77 35 (nJ (s.1 + 2 ^ k))) a i = gi h a i := fun a i ha => gi_ne (fun e => absurd e ha)
        generalize pt h 77 35 (nJ (s.1 + 2 ^ k)) = g1 at h1 F1 q1 q2 q3 ⊢
        refine E_al rfl L0 ?_
        refine E_gr rfl h1 (q := 92) rfl ?_
        refine E_il rfl L2 ?_
        refine E_ci 1 rfl ci1 ?_
        refine E_bin rfl (nJ_add _ _) ?_
        refine E_il rfl L1 ?_
        refine E_ias rfl h1 rfl (by omega) (by decide) ?_
        have b92 : bd 92 (k + 1) = some (0, 8) := bd_u rfl (by omega)
        have h2 : HH (pt g1 92 (k + 1) (nJ node)) := HH_ptn h1 b92 (by omega) (by omega) (by omega)
        have F2 : fr_g GM h0 (pt g1 92 (k + 1) (nJ node)) := fr_ptr (l := 0) (u := 8) rfl (by omega) (by omega) F1
        have r1 : gi (pt g1 92 (k + 1) (nJ node)) 77 35 = nJ (s.1 + 2 ^ k) := by rw [gi_ne (by first | exact gxx rfl | omega)]; exact q1
        have r2 : gi (pt g1 92 (k + 1) (nJ node)) 77 36 = nJ s.2.2.2.2 := by rw [gi_ne (by first | exact gxx rfl | omega)]; exact q2
        have r3 : gi (pt g1 92 (k + 1) (nJ node)) 92 (k + 1) = nJ node := gi_ptn h1 b92 (by omega) (by omega) (by omega)
        have r4 : ∀ i, i ≠ k + 1 → gi (pt g1 92 (k + 1) (nJ node)) 92 i = gi h 92 i := fun i hi => by rw [gi_ne (fun _ => hi)]; exact q3 92 i (by omega)
        have r5 : ∀ a i, a ≠ 77 → a ≠ 92 → gi (pt g1 92 (k + 1) (nJ node)) a i = gi h a i := fun a i ha hb => by rw [gi_ne (fun e => absurd e hb)]; exact q3 a i ha
        generalize pt g1 92 (k + 1) (nJ node) = g2 at h2 F2 r1 r2 r3 r4 r5 ⊢
        refine E_al rfl L0 ?_
        refine E_gr rfl h2 (q := 98) rfl ?_
        refine E_al rfl L0 ?_
        refine E_gf rfl h2 rfl r2 ?_
        refine E_il rfl L2 ?_
        refine E_ci 1 rfl ci1 ?_
        refine E_bin rfl (nJ_add _ _) ?_
        refine E_ias rfl h2 rfl (by omega) (by decide) ?_
        have b98 : bd 98 s.2.2.2.2 = some (0, 8) := bd_u rfl (by omega)
        have h3 : HH (pt g2 98 s.2.2.2.2 (nJ (k + 1))) := HH_ptn h2 b98 (by omega) (by omega) (by omega)
        have F3 : fr_g GM h0 (pt g2 98 s.2.2.2.2 (nJ (k + 1))) := fr_ptr (l := 0) (u := 8) rfl (by omega) (by omega) F2
        have t1 : gi (pt g2 98 s.2.2.2.2 (nJ (k + 1))) 77 35 = nJ (s.1 + 2 ^ k) := by rw [gi_ne (by first | exact gxx rfl | omega)]; exact r1
        have t2 : gi (pt g2 98 s.2.2.2.2 (nJ (k + 1))) 77 36 = nJ s.2.2.2.2 := by rw [gi_ne (by first | exact gxx rfl | omega)]; exact r2
        have t3 : gi (pt g2 98 s.2.2.2.2 (nJ (k + 1))) 98 s.2.2.2.2 = nJ (k + 1) := gi_ptn h2 b98 (by omega) (by omega) (by omega)
        have t4 : ∀ i, i ≠ s.2.2.2.2 → gi (pt g2 98 s.2.2.2.2 (nJ (k + 1))) 98 i = gi h 98 i := fun i hi => by rw [gi_ne (fun _ => hi)]; exact r5 98 i (by omega) (by omega)
        have t5 : ∀ i, gi (pt g2 98 s.2.2.2.2 (nJ (k + 1))) 92 i = gi g2 92 i := fun i => gi_ne (by first | exact gxx rfl | omega)
        have t6 : ∀ a i, a ≠ 77 → a ≠ 92 → a ≠ 98 → gi (pt g2 98 s.2.2.2.2 (nJ (k + 1))) a i = gi h a i := fun a i ha hb hc => by rw [gi_ne (fun e => absurd e hc)]; exact r5 a i ha hb
        generalize pt g2 98 s.2.2.2.2 (nJ (k + 1)) = g3 at h3 F3 t1 t2 t3 t4 t5 t6 ⊢
        refine E_al rfl L0 ?_
        refine E_dup rfl rfl ?_
        refine E_gf rfl h3 rfl t2 ?_
        refine E_ci 1 rfl ci1 ?_
        refine E_bin rfl (nJ_add _ _) ?_
        refine E_pf rfl h3 rfl ?_
        have S4 : SI9 n (gadd k node s) (pt g3 77 36 (nJ (s.2.2.2.2 + 1))) := by
          refine ⟨HH_ptn h3 rfl (by omega) (by omega) (by omega), ?_, by rw [gi_ne (by first | exact gxx rfl | omega)]; exact t1, gi_ptn h3 rfl (by omega) (by omega) (by omega), fun c hc q => ?_, fun i hi => ?_, fun c hc q => ?_⟩
          · rw [gn_ne (by first | exact gxx rfl | omega)]
            rw [← u3]
            unfold gn
            rw [t6 84 3 (by omega) (by omega) (by omega)]
          · have q : isB (s.1 + 2 ^ k) c = false := q
            rw [isB_add (by omega) (by omega) (by omega) bz, Bool.or_eq_false_iff] at q
            rw [gi_ne (by first | exact gxx rfl | omega), t6 97 c (by omega) (by omega) (by omega)]
            exact m3 c hc q.2
          · show gi (pt g3 77 36 (nJ (s.2.2.2.2 + 1))) 98 i = nJ (fup s.2.2.2.1 s.2.2.2.2 (k + 1) i)
            have hi : i < s.2.2.2.2 + 1 := hi
            rw [gi_ne (by first | exact gxx rfl | omega)]
            by_cases e : i = s.2.2.2.2
            · rw [e, fup_s]; exact t3
            · rw [fup_n e, t4 i e]; exact m4 i (by omega)
          · show gi (pt g3 77 36 (nJ (s.2.2.2.2 + 1))) 92 (c + 1) = nJ (fup s.2.2.1 (k + 1) node (c + 1))
            rw [gi_ne (by first | exact gxx rfl | omega), t5]
            by_cases e : c = k
            · rw [e, fup_s]; exact r3
            · have q : isB (s.1 + 2 ^ k) c = true := q
              rw [isB_add (by omega) (by omega) (by omega) bz, show (c == k) = false from beq_eq_false_iff_ne.mpr e, Bool.false_or] at q
              rw [fup_n (by omega), r4 _ (by omega)]
              exact m5 c hc q
        have F4 : fr_g GM h0 (pt g3 77 36 (nJ (s.2.2.2.2 + 1))) := fr_ptr (l := 35) (u := 36) rfl (by omega) (by omega) F3
        generalize pt g3 77 36 (nJ (s.2.2.2.2 + 1)) = g4 at S4 F4 ⊢
        refine E_al rfl L0 ?_
        refine E_il rfl L2 ?_
        refine E_ci 1 rfl ci1 ?_
        refine E_bin rfl (nJ_add _ _) ?_
        refine E_call rfl (ihu (nd := k + 1) (by omega) S4 c1 c3 (by show n + 2 ≤ u + (s.2.2.2.2 + 1); omega)) (chk77 S4.1 rfl rfl (by show 0 ≤ 8; decide)) (fun h5 r5 => ?_)
        rintro ⟨e5, f5, S5⟩
        rw [e5]
        exact nx h5 lv (by unfold glp1; rw [if_neg b, if_pos z]; exact S5) (fr_trans F4 f5) L0 L1 L2
      · refine E_ifF rfl (decide_eq_false (fun q => z ((nJ_le0 (by omega)).mp q))) ?_
        refine E_al rfl L0 ?_
        refine E_gr rfl hh (q := 97) rfl ?_
        refine E_il rfl L2 ?_
        refine E_dup2 rfl rfl rfl ?_
        refine E_ial rfl hh rfl (by omega) (by decide) m6 ?_
        refine E_ci 1 rfl ci1 ?_
        refine E_bin rfl (nJ_sub (by omega)) ?_
        refine E_ias rfl hh rfl (by omega) (by decide) ?_
        refine E_goto rfl ?_
        exact nx _ lv (by unfold glp1; rw [if_neg b, if_neg z]; exact SI9_dec n8 hk bz z S0) (fr_ptr (l := 0) (u := 7) rfl (by omega) (by omega) F) L0 L1 L2
theorem sp_goesOnX (n8 : n ≤ 8) : ∀ (u : Nat) {h : pm_H} {node : Nat} {s : GST}, node ≤ 8 → SI9 n s h → GI n s → GNd node s → n + 2 ≤ u + s.2.2.2.2 → Sp (d + u + 1) 256 h [.ref 77, .int (nJ node)] (fun h' r => r = none ∧ fr_g GM h h' ∧ SI9 n (go n u node s) h')
  | 0, h, node, s, nd8, S, G, g, hu => by
    have := pcn_le s.1 n
    have := G.2.1
    omega
  | u + 1, h, node, s, nd8, S, G, g, hu => by
    have hh := S.1
    refine Sp_of aiX9_goesOn rfl rfl rfl ?_
    have L0 : pm_get (lv_args 0 [.ref 77, .int (nJ node)]) 0 = some (.ref 77) := rfl
    have L1 : pm_get (lv_args 0 [.ref 77, .int (nJ node)]) 1 = some (.int (nJ node)) := rfl
    generalize lv_args 0 [.ref 77, .int (nJ node)] = lv at L0 L1 ⊢
    refine E_al rfl L0 ?_
    refine E_call rfl (Sp_le (by first | exact Nat.add_le_add_left (Nat.le_of_ble_eq_true rfl) _ | exact Nat.le_of_ble_eq_true rfl | omega) (sp_cars (d := d) hh)) (chk77 hh rfl rfl (by show 0 ≤ 8; decide)) (fun h1 r1 => ?_)
    rintro ⟨e1, f1, -⟩
    rw [e1, f1, S.2.1]
    refine E_ci 1 rfl ci1 ?_
    refine E_bin rfl (pI_of n) ?_
    refine E_is rfl (fun lv1 K2 kp => ?_)
    exact go9_loop n8 nd8 (fun a b c e f => sp_goesOnX n8 u a b c e f) n lv1 (Nat.le_refl n) S G g hu (fr_rf _ _) (kp 0 _ (nbz rfl) rfl L0) (kp 1 _ (nbz rfl) rfl L1) K2
theorem se9_loop {h0 : pm_H} {W : Nat → Nat} (n8 : n ≤ 8) (wb : ∀ c, c < n → 1 ≤ W c ∧ W c ≤ n) (h84 : ∀ h, fr_g GM h0 h → gn h 84 3 = n) (h89 : ∀ h, fr_g GM h0 h → ∀ c, c < n → gi h 89 c = nJ (W c)) (j : Nat) : ∀ {h : pm_H} {c : Nat} (lv : List (Nat × Value)), c + j = n → HH h → fr_g GM h0 h → (∀ i, i < c → gi h 97 i = nJ (W i - 1)) → pm_get lv 0 = some (.ref 77) → pm_get lv 1 = some (.int (nJ c)) → Ends (pm_at tX9_searches) (pm_Rt pm_P (d + n + 2)) (2, lv, [], h, 0, 0) (fun h' r => r = none ∧ HH h' ∧ fr_g GM h0 h' ∧ SI9 n (sFin W n) h') := by
  induction j with
  | zero =>
    intro h c lv hj hh F Z L0 L1
    have u3 := h84 h F
    refine E_il rfl L1 ?_
    refine E_al rfl L0 ?_
    refine E_call rfl (Sp_le (by first | exact Nat.add_le_add_left (Nat.le_of_ble_eq_true rfl) _ | exact Nat.le_of_ble_eq_true rfl | omega) (sp_cars (d := d) hh)) (chk77 hh rfl rfl (by show 1 ≤ 8; decide)) (fun h1 r1 => ?_)
    rintro ⟨e1, f1, -⟩
    rw [e1, f1, u3]
    refine E_icT rfl (decide_eq_true ((nJ_le (by omega) (by omega)).mpr (by omega))) ?_
    refine E_al rfl L0 ?_
    refine E_ci 0 rfl ci0 ?_
    refine E_pf rfl hh rfl ?_
    have h1 : HH (pt h 77 35 (nJ 0)) := HH_pt hh rfl (ai_lo _) (ai_hi _)
    have F1 : fr_g GM h0 (pt h 77 35 (nJ 0)) := fr_ptr (l := 35) (u := 36) rfl (by omega) (by omega) F
    have q1 : gi (pt h 77 35 (nJ 0)) 77 35 = nJ 0 := gi_pt hh rfl (ai_lo _) (ai_hi _)
    have q2 : ∀ i, gi (pt h 77 35 (nJ 0)) 97 i = gi h 97 i := fun i => gi_ne (by first | exact gxx rfl | omega)
    generalize pt h 77 35 (nJ 0) = g1 at h1 F1 q1 q2 ⊢
    refine E_al rfl L0 ?_
    refine E_ci 1 rfl ci1 ?_
    refine E_pf rfl h1 rfl ?_
    have h2 : HH (pt g1 77 36 (nJ 1)) := HH_ptn h1 rfl (by omega) (by omega) (by omega)
    have F2 : fr_g GM h0 (pt g1 77 36 (nJ 1)) := fr_ptr (l := 35) (u := 36) rfl (by omega) (by omega) F1
    have r1 : gi (pt g1 77 36 (nJ 1)) 77 35 = nJ 0 := by rw [gi_ne (by first | exact gxx rfl | omega)]; exact q1
    have r2 : gi (pt g1 77 36 (nJ 1)) 77 36 = nJ 1 := gi_ptn h1 rfl (by omega) (by omega) (by omega)
    have r3 : ∀ i, gi (pt g1 77 36 (nJ 1)) 97 i = gi h 97 i := fun i => by rw [gi_ne (by first | exact gxx rfl | omega)]; exact q2 i
    generalize pt g1 77 36 (nJ 1) = g2 at h2 F2 r1 r2 r3 ⊢
    refine E_al rfl L0 ?_
    refine E_gr rfl h2 (q := 98) rfl ?_
    refine E_ci 0 rfl ci0 ?_
    refine E_ci 0 rfl ci0 ?_
    refine E_ias rfl h2 rfl (by omega) (by decide) ?_
    have b98 : bd 98 0 = some (0, 8) := bd_u rfl (by omega)
    have F3 : fr_g GM h0 (pt g2 98 0 (nJ 0)) := fr_ptr (l := 0) (u := 8) rfl (by omega) (by omega) F2
    have S3 : SI9 n (s0 W) (pt g2 98 0 (nJ 0)) := by
      refine ⟨HH_ptn h2 b98 (by omega) (by omega) (by omega), h84 _ F3, by rw [gi_ne (by first | exact gxx rfl | omega)]; exact r1, by rw [gi_ne (by first | exact gxx rfl | omega)]; exact r2, fun c hc q => ?_, fun i hi => ?_, fun c hc q => ?_⟩
      · have w := wb c hc
        rw [gi_ne (by first | exact gxx rfl | omega), r3]
        exact ⟨Z c (by omega), by show W c - 1 ≤ 8; omega⟩
      · have hi : i < 1 := hi
        rw [show i = 0 by omega]
        exact gi_ptn h2 b98 (by omega) (by omega) (by omega)
      · have q : isB 0 c = true := q
        rw [isB_zero] at q
        cases q
    generalize pt g2 98 0 (nJ 0) = g3 at F3 S3 ⊢
    refine E_al rfl L0 ?_
    refine E_ci 0 rfl ci0 ?_
    refine E_call rfl (sp_goesOnX (d := d) n8 (n + 1) (node := 0) (by omega) S3 GI_0 GNd_0 (by show n + 2 ≤ n + 1 + 1; omega)) (chk77 S3.1 rfl rfl (by show 0 ≤ 8; decide)) (fun h5 r5 => ?_)
    rintro ⟨e5, f5, S5⟩
    rw [e5]
    exact E_ret rfl ⟨rfl, S5.1, fr_trans F3 f5, S5⟩
  | succ j ih =>
    intro h c lv hj hh F Z L0 L1
    have u3 := h84 h F
    have w := wb c (by omega)
    refine E_il rfl L1 ?_
    refine E_al rfl L0 ?_
    refine E_call rfl (Sp_le (by first | exact Nat.add_le_add_left (Nat.le_of_ble_eq_true rfl) _ | exact Nat.le_of_ble_eq_true rfl | omega) (sp_cars (d := d) hh)) (chk77 hh rfl rfl (by show 1 ≤ 8; decide)) (fun h1 r1 => ?_)
    rintro ⟨e1, f1, -⟩
    rw [e1, f1, u3]
    refine E_icF rfl (decide_eq_false (fun z => absurd ((nJ_le (by omega) (by omega)).mp z) (by omega))) ?_
    refine E_al rfl L0 ?_
    refine E_gr rfl hh (q := 97) rfl ?_
    refine E_il rfl L1 ?_
    refine E_al rfl L0 ?_
    refine E_gr rfl hh (q := 89) rfl ?_
    refine E_il rfl L1 ?_
    refine E_ial rfl hh rfl (by omega) (by decide) (h89 h F c (by omega)) ?_
    refine E_ci 1 rfl ci1 ?_
    refine E_bin rfl (nJ_sub (by omega)) ?_
    refine E_ias rfl hh rfl (by omega) (by decide) ?_
    have b97 : bd 97 c = some (-2147483648, 2147483647) := bd_u rfl (by omega)
    refine E_inc rfl L1 (nJ_inc _) (fun lv1 K1 kp => ?_)
    refine E_goto rfl ?_
    refine ih lv1 (by omega) (HH_ptn hh b97 (by omega) (by omega) (by omega)) (fr_ptr (l := 0) (u := 7) rfl (by omega) (by omega) F) (fun i hi => ?_) (kp 0 _ (nbz rfl) rfl L0) K1
    by_cases e : i = c
    · rw [e]; exact gi_ptn hh b97 (by omega) (by omega) (by omega)
    · rw [gi_ne (fun _ => e)]; exact Z i (by omega)
theorem sp_searchesX {h : pm_H} {W : Nat → Nat} (hh : HH h) (n8 : n ≤ 8) (wb : ∀ c, c < n → 1 ≤ W c ∧ W c ≤ n) (h84 : gn h 84 3 = n) (h89 : ∀ c, c < n → gi h 89 c = nJ (W c)) : Sp (d + n + 3) 342 h [.ref 77] (fun h' r => r = none ∧ HH h' ∧ fr_g GM h h' ∧ SI9 n (sFin W n) h') := by
  refine Sp_of aiX9_searches rfl rfl rfl ?_
  have L0 : pm_get (lv_args 0 [.ref 77]) 0 = some (.ref 77) := rfl
  generalize lv_args 0 [.ref 77] = lv at L0 ⊢
  refine E_ci 0 rfl ci0 ?_
  refine E_is rfl (fun lv1 K1 kp => ?_)
  exact se9_loop n8 wb (fun g f => by rw [fr_gn f (rg_no rfl _)]; exact h84) (fun g f c hc => by rw [fr_gi f (rg_no rfl _)]; exact h89 c hc) n (c := 0) lv1 (by omega) hh (fr_rf _ _) (fun i hi => absurd hi (Nat.not_lt_zero i)) (kp 0 _ (nbz rfl) rfl L0) K1
end SRC
end
section
/-! SEARCH of the class: it walks by the same law (wants u99.search, u96.hang) -/
theorem um_tab : ∀ m : Fin 512, ∀ v : Fin 9, isB m.val v.val = true → nJ m.val &&& (nJ (2 ^ v.val) ^^^ (-1)) = nJ (m.val - 2 ^ v.val) := by decide +kernel
theorem um_tab2 : ∀ m : Fin 512, ∀ v : Fin 9, isB m.val v.val = true → 2 ^ v.val ≤ m.val ∧ isB (m.val - 2 ^ v.val) v.val = false := by decide +kernel
theorem um_bit {m v j : Nat} (hm : m < 512) (hv : v < 9) (hj : j < 9) (b : isB m v = true) : isB (m - 2 ^ v) j = (!(j == v) && isB m j) := by
  obtain ⟨l, z⟩ := um_tab2 ⟨m, hm⟩ ⟨v, hv⟩ b
  dsimp only at l z
  have e := isB_add (m := m - 2 ^ v) (c := v) (j := j) (Nat.lt_of_le_of_lt (Nat.sub_le _ _) hm) hv hj z
  rw [show m - 2 ^ v + 2 ^ v = m by omega] at e
  rw [e]
  by_cases q : j = v
  · rw [q, z, show (v == v) = true from beq_self_eq_true _]; rfl
  · rw [show (j == v) = false from beq_eq_false_iff_ne.mpr q, Bool.false_or]; rfl
noncomputable def UMb (n m um : Nat) : Prop := um < 512 ∧ ∀ c, c < n → isB um (c + 1) = !(isB m c)
noncomputable def SI8 (n : Nat) (s : GST) (um : Nat) (h : pm_H) : Prop := HH h ∧ gi h 64 5 = nJ (n + 1) ∧ gi h 64 6 = nJ s.2.2.2.2 ∧ UMb n s.1 um ∧ (∀ c, c < n → isB s.1 c = false → gi h 67 (c + 1) = nJ (s.2.1 c) ∧ s.2.1 c ≤ 8) ∧ (∀ i, i < s.2.2.2.2 → gi h 66 i = nJ (s.2.2.2.1 i)) ∧ ∀ c, c < n → isB s.1 c = true → gi h 65 (c + 1) = nJ (s.2.2.1 (c + 1))
noncomputable def frs (n : Nat) (s : GST) (h : pm_H) : Prop := ∀ c, c < n → isB s.1 c = false → gi h 69 (c + 1) = nJ n
noncomputable def WF : List Rng := [(64, 5, 6), (65, 0, 8), (66, 0, 8), (67, 0, 8), (69, 0, 8)]
section WLK
variable {h0 : pm_H} {d n M : Nat} {Q : pm_H → Option Value → Prop}
/-- at the head of the walk -/
noncomputable def WK (d n M : Nat) (Q : pm_H → Option Value → Prop) (h : pm_H) (um node t : Nat) (lv : List (Nat × Value)) : Prop := pm_get lv 0 = some (.ref 64) ∧ pm_get lv 1 = some (.int (nJ 0)) ∧ pm_get lv 2 = some (.int (nJ um)) ∧ pm_get lv 3 = some (.int (nJ node)) ∧ pm_get lv 4 = some (.int (nJ M)) ∧ pm_get lv 5 = some (.int (nJ t)) → Ends (pm_at tX7_walk) (pm_Rt pm_P (d + 1)) (52, lv, [], h, 0, 0) Q
theorem wk_ul {s : GST} {um node k : Nat} {h : pm_H} (n8 : n ≤ 8) (nd : node ≤ n) (hk : k ≤ 8) (S : SI8 n s um h) : SI8 n s um (pt h 69 node (nJ k)) := by
  obtain ⟨hh, m1, m2, m3, m4, m5, m6⟩ := S
  have b69 : bd 69 node = some (0, 8) := bd_u rfl (by omega)
  exact ⟨HH_ptn hh b69 (by omega) (by omega) (by omega), by rw [gi_ne (by first | exact gxx rfl | omega)]; exact m1, by rw [gi_ne (by first | exact gxx rfl | omega)]; exact m2, m3, fun c hc q => by rw [gi_ne (by first | exact gxx rfl | omega)]; exact m4 c hc q, fun i hi => by rw [gi_ne (by first | exact gxx rfl | omega)]; exact m5 i hi, fun c hc q => by rw [gi_ne (by first | exact gxx rfl | omega)]; exact m6 c hc q⟩
theorem wk_dec {s : GST} {um k : Nat} {h : pm_H} (n8 : n ≤ 8) (hk : k < n) (b : isB s.1 k = false) (z : ¬ s.2.1 k = 0) (S : SI8 n s um h) : SI8 n (gdec k s) um (pt h 67 (k + 1) (nJ (s.2.1 k - 1))) := by
  obtain ⟨hh, m1, m2, m3, m4, m5, m6⟩ := S
  have gb := (m4 k hk b).2
  have b67 : bd 67 (k + 1) = some (-2147483648, 2147483647) := bd_u rfl (by omega)
  refine ⟨HH_ptn hh b67 (by omega) (by omega) (by omega), by rw [gi_ne (by first | exact gxx rfl | omega)]; exact m1, by rw [gi_ne (by first | exact gxx rfl | omega)]; exact m2, m3, fun c hc q => ?_, fun i hi => by rw [gi_ne (by first | exact gxx rfl | omega)]; exact m5 i hi, fun c hc q => by rw [gi_ne (by first | exact gxx rfl | omega)]; exact m6 c hc q⟩
  show gi (pt h 67 (k + 1) (nJ (s.2.1 k - 1))) 67 (c + 1) = nJ (fup s.2.1 k (s.2.1 k - 1) c) ∧ fup s.2.1 k (s.2.1 k - 1) c ≤ 8
  by_cases e : c = k
  · rw [e, fup_s]
    exact ⟨gi_ptn hh b67 (by omega) (by omega) (by omega), by omega⟩
  · rw [fup_n e, gi_ne (fun _ => by omega)]
    exact m4 c hc q
/-- the walk at a node, k of its looks still to come -/
theorem wk_in {u node : Nat} (n8 : n ≤ 8) (M8 : M ≤ 81) (nd : node ≤ n)
    (ihu : ∀ {h : pm_H} {nd um t : Nat} {s : GST} (lv : List (Nat × Value)), nd ≤ n → 1 ≤ nd → SI8 n s um h → GI n s → GNd nd s → n + 2 ≤ u + s.2.2.2.2 → fr_g WF h0 h → gi h 69 nd = nJ n → isB s.1 (nd - 1) = true → frs n s h → t + n + ((go n u nd s).2.2.2.2 - s.2.2.2.2) * (n + 1) < M → (∀ (h' : pm_H) (um' : Nat) (lv' : List (Nat × Value)), SI8 n (go n u nd s) um' h' → fr_g WF h0 h' → gi h' 69 nd = nJ 0 → frs n (go n u nd s) h' → (∀ v, v ≤ n → v ≠ nd → (v = 0 ∨ isB s.1 (v - 1) = true) → gi h' 69 v = gi h 69 v) → WK d n M Q h' um' nd (t + n + ((go n u nd s).2.2.2.2 - s.2.2.2.2) * (n + 1)) lv') → WK d n M Q h um nd t lv) (k : Nat) :
    ∀ {h : pm_H} {um t : Nat} {s : GST} (lv : List (Nat × Value)), k ≤ n → SI8 n s um h → GI n s → GNd node s → n + 2 ≤ u + 1 + s.2.2.2.2 → fr_g WF h0 h → gi h 69 node = nJ k → (node = 0 ∨ isB s.1 (node - 1) = true) → frs n s h → t + k + ((glp (go n u) node k s).2.2.2.2 - s.2.2.2.2) * (n + 1) ≤ M → (∀ (h' : pm_H) (um' : Nat) (lv' : List (Nat × Value)), SI8 n (glp (go n u) node k s) um' h' → fr_g WF h0 h' → gi h' 69 node = nJ 0 → frs n (glp (go n u) node k s) h' → (∀ v, v ≤ n → v ≠ node → (v = 0 ∨ isB s.1 (v - 1) = true) → gi h' 69 v = gi h 69 v) → WK d n M Q h' um' node (t + k + ((glp (go n u) node k s).2.2.2.2 - s.2.2.2.2) * (n + 1)) lv') → WK d n M Q h um node t lv := by
  induction k with
  | zero =>
    intro h um t s lv kn S G g hu F u0 come fr tM K
    have := K h um lv S F u0 fr (fun _ _ _ _ => rfl)
    rw [show (glp (go n u) node 0 s).2.2.2.2 - s.2.2.2.2 = 0 from Nat.sub_self _, Nat.zero_mul, Nat.add_zero] at this
    exact this
  | succ k ih =>
    intro h um t s lv kn S G g hu F u0 come fr tM K
    rintro ⟨L0, L1, L2, L3, L4, L5⟩
    have hk : k < n := by omega
    have p2 : 2 ^ n ≤ 2 ^ 8 := Nat.pow_le_pow_right (by omega) n8
    have ml := G.1
    obtain ⟨a1, a2⟩ := glp1_ok (node := node) n8 (go_ok n8 u) hk hu G g
    have le0 := a2.2.1
    obtain ⟨w1, w2, -⟩ := glp_ok (node := node) n8 (go_ok n8 u) (k := k) (by omega) (by omega) a1 (GNd_E a2 g)
    have le1 := w2.2.1
    have eG : glp (go n u) node (k + 1) s = glp (go n u) node k (glp1 (go n u) node k s) := rfl
    rw [eG] at tM K
    have hh := S.1
    have ub := S.2.2.2.1
    have tb := fr0_tab ⟨um, ub.1⟩ ⟨k + 1, by omega⟩
    dsimp only at tb
    have ubk := ub.2 k hk
    refine E_il rfl L5 ?_
    refine E_il rfl L4 ?_
    refine E_icF rfl (decide_eq_false (fun q => absurd ((nJ_le (by omega) (by omega)).mp q) (by omega))) ?_
    refine E_al rfl L0 ?_
    refine E_ogr (q := 69) rfl hh rfl rfl ?_
    refine E_il rfl L3 ?_
    refine E_ial rfl hh rfl (by omega) (by decide) u0 ?_
    refine E_is rfl (fun lv1 K6 kp => ?_)
    have A0 := kp 0 _ (nbz rfl) rfl L0
    have A1 := kp 1 _ (nbz rfl) rfl L1
    have A2 := kp 2 _ (nbz rfl) rfl L2
    have A3 := kp 3 _ (nbz rfl) rfl L3
    have A4 := kp 4 _ (nbz rfl) rfl L4
    have A5 := kp 5 _ (nbz rfl) rfl L5
    refine E_il rfl K6 ?_
    refine E_ifT rfl (decide_eq_true (fun q => absurd ((nJ_eq0 (by omega)).mp q) (by omega))) ?_
    refine E_al rfl A0 ?_
    refine E_ogr (q := 69) rfl hh rfl rfl ?_
    refine E_il rfl A3 ?_
    refine E_il rfl K6 ?_
    refine E_ci 1 rfl ci1 ?_
    refine E_bin rfl (show nJ (k + 1) - nJ 1 = nJ k from nJ_sub (by omega)) ?_
    refine E_ias rfl hh rfl (by omega) (by decide) ?_
    have b69 : bd 69 node = some (0, 8) := bd_u rfl (by omega)
    have S1 := wk_ul (node := node) (k := k) n8 nd (by omega) S
    have F1 : fr_g WF h0 (pt h 69 node (nJ k)) := fr_ptr (l := 0) (u := 8) rfl (by omega) (by omega) F
    have v1 : gi (pt h 69 node (nJ k)) 69 node = nJ k := gi_ptn hh b69 (by omega) (by omega) (by omega)
    have v2 : ∀ v, v ≠ node → gi (pt h 69 node (nJ k)) 69 v = gi h 69 v := fun v hv => gi_ne (fun _ => hv)
    have fr1 : frs n s (pt h 69 node (nJ k)) := fun c hc q => by
      rw [v2]
      · exact fr c hc q
      · intro e
        rcases come with z | z
        · omega
        · rw [← e, show c + 1 - 1 = c by omega, q] at z; cases z
    generalize pt h 69 node (nJ k) = h1 at S1 F1 v1 v2 fr1 ⊢
    -- on with the next look
    have nx : ∀ {h' : pm_H} {um' t' : Nat} (lv : List (Nat × Value)), SI8 n (glp1 (go n u) node k s) um' h' → fr_g WF h0 h' → gi h' 69 node = nJ k → frs n (glp1 (go n u) node k s) h' → (∀ v, v ≤ n → v ≠ node → (v = 0 ∨ isB s.1 (v - 1) = true) → gi h' 69 v = gi h 69 v) → t' + 1 = t + 1 + ((glp1 (go n u) node k s).2.2.2.2 - s.2.2.2.2) * (n + 1) → pm_get lv 0 = some (.ref 64) → pm_get lv 1 = some (.int (nJ 0)) → pm_get lv 2 = some (.int (nJ um')) → pm_get lv 3 = some (.int (nJ node)) → pm_get lv 4 = some (.int (nJ M)) → pm_get lv 5 = some (.int (nJ t')) → Ends (pm_at tX7_walk) (pm_Rt pm_P (d + 1)) (181, lv, [], h', 0, 0) Q := by
      intro h' um' t' lv S' F' u' fr' o' et N0 N1 N2 N3 N4 N5
      have es : ((glp (go n u) node k (glp1 (go n u) node k s)).2.2.2.2 - s.2.2.2.2) * (n + 1) = ((glp (go n u) node k (glp1 (go n u) node k s)).2.2.2.2 - (glp1 (go n u) node k s).2.2.2.2) * (n + 1) + ((glp1 (go n u) node k s).2.2.2.2 - s.2.2.2.2) * (n + 1) := by
        rw [← Nat.add_mul]
        congr 1
        omega
      rw [es] at tM K
      refine E_inc rfl N5 (nJ_inc _) (fun lv2 K5 kp2 => ?_)
      refine E_goto rfl ?_
      refine ih (t := t' + 1) lv2 (by omega) S' a1 (GNd_E a2 g) (by omega) F' u' ?_ fr' (by omega) (fun h'' um'' lv'' T1 T2 T3 T4 T5 => ?_) ⟨kp2 0 _ (nbz rfl) rfl N0, kp2 1 _ (nbz rfl) rfl N1, kp2 2 _ (nbz rfl) rfl N2, kp2 3 _ (nbz rfl) rfl N3, kp2 4 _ (nbz rfl) rfl N4, K5⟩
      · rcases come with z | z
        · exact .inl z
        · by_cases e : node = 0
          · exact .inl e
          · exact .inr (a2.1 (node - 1) (by omega) z).1
      · have := K h'' um'' lv'' T1 T2 T3 T4 (fun v vn ne cm => by
          rw [T5 v vn ne (by
            rcases cm with z | z
            · exact .inl z
            · by_cases e : v = 0
              · exact .inl e
              · exact .inr (a2.1 (v - 1) (by omega) z).1)]
          exact o' v vn ne cm)
        rw [show t' + 1 + k + ((glp (go n u) node k (glp1 (go n u) node k s)).2.2.2.2 - (glp1 (go n u) node k s).2.2.2.2) * (n + 1) = t + (k + 1) + (((glp (go n u) node k (glp1 (go n u) node k s)).2.2.2.2 - (glp1 (go n u) node k s).2.2.2.2) * (n + 1) + ((glp1 (go n u) node k s).2.2.2.2 - s.2.2.2.2) * (n + 1)) by omega]
        exact this
    refine E_il rfl A2 ?_
    refine E_il rfl K6 ?_
    refine E_bin rfl rfl ?_
    refine E_ci 1 rfl ci1 ?_
    refine E_bin rfl rfl ?_
    by_cases b : isB s.1 k = true
    · rw [b] at ubk
      refine E_ifF rfl (decide_eq_false (fun q => q (tb.mpr ubk))) ?_
      refine E_goto rfl ?_
      have e1 : glp1 (go n u) node k s = s := by unfold glp1; rw [if_pos b]
      rw [e1] at nx
      exact nx lv1 S1 F1 v1 fr1 (fun v _ ne _ => v2 v ne) (by rw [Nat.sub_self, Nat.zero_mul]) A0 A1 A2 A3 A4 A5
    · have bz := notb b
      rw [bz] at ubk
      refine E_ifT rfl (decide_eq_true (fun q => by have := tb.mp q; rw [ubk] at this; cases this)) ?_
      refine E_il rfl A1 ?_
      refine E_ifT rfl (by decide) ?_
      have hh1 := S1.1
      obtain ⟨m6, m7⟩ := S1.2.2.2.2.1 k hk bz
      refine E_al rfl A0 ?_
      refine E_ogr (q := 67) rfl hh1 rfl rfl ?_
      refine E_il rfl K6 ?_
      refine E_ial rfl hh1 rfl (by omega) (by decide) m6 ?_
      by_cases z : s.2.1 k = 0
      · refine E_ifF rfl (decide_eq_false (fun q => q ((nJ_eq0 (by omega)).mpr z))) ?_
        have e1 : glp1 (go n u) node k s = go n u (k + 1) (gadd k node s) := by unfold glp1; rw [if_neg b, if_pos z]
        obtain ⟨c1, c2, c3⟩ := GI_add (node := node) n8 hk bz G g
        have cl : s.2.2.2.2 ≤ n := by
          have := c1.2.1
          have := pcn_le (gadd k node s).1 n
          have e : (gadd k node s).2.2.2.2 = s.2.2.2.2 + 1 := rfl
          omega
        obtain ⟨r1, r2, -⟩ := go_ok n8 u (k + 1) (gadd k node s) c1 c3 (by show n + 2 ≤ u + (s.2.2.2.2 + 1); omega)
        have rl := r2.2.1
        have ec : (gadd k node s).2.2.2.2 = s.2.2.2.2 + 1 := rfl
        rw [ec] at rl
        have uk : isB um (k + 1) = true := ubk
        refine E_il rfl A2 ?_
        refine E_ci 1 rfl ci1 ?_
        refine E_il rfl K6 ?_
        refine E_bin rfl (show nJ 1 <<< (nJ (k + 1) &&& 31) = nJ (2 ^ (k + 1)) from shl_tab ⟨k + 1, by omega⟩) ?_
        refine E_c rfl ?_
        refine E_bin rfl rfl ?_
        refine E_bin rfl (show nJ um &&& (nJ (2 ^ (k + 1)) ^^^ (-1)) = nJ (um - 2 ^ (k + 1)) from um_tab ⟨um, ub.1⟩ ⟨k + 1, by omega⟩ uk) ?_
        refine E_is rfl (fun lv2 K2 kp2 => ?_)
        refine E_al rfl (kp2 0 _ (nbz rfl) rfl A0) ?_
        refine E_il rfl (kp2 6 _ (nbz rfl) rfl K6) ?_
        refine E_il rfl (kp2 3 _ (nbz rfl) rfl A3) ?_
        refine E_call rfl (sp_bringT (d := d) (m := s.2.2.2.2) hh1 n8 cl (show k + 1 ≤ 8 by omega) (show node ≤ 8 by omega) S1.2.1 S1.2.2.1) (chkO (a := 64) hh1 rfl rfl rfl rfl (by show 0 ≤ 8; decide)) (fun h3 r3 => ?_)
        rintro ⟨e3, hh3, f3, k5, k6, o1, o2, p1, p2'⟩
        rw [e3]
        have F3 : fr_g WF h0 h3 := fr_trans F1 (fr_wk rfl f3)
        have x69 : ∀ v, gi h3 69 v = gi h1 69 v := fun v => fr_gi f3 (rg_no rfl _)
        have bit : ∀ c, c < n → isB (s.1 + 2 ^ k) c = (c == k || isB s.1 c) := fun c hc => isB_add (by omega) (by omega) (by omega) bz
        have S3 : SI8 n (gadd k node s) (um - 2 ^ (k + 1)) h3 := by
          obtain ⟨-, -, -, -, m4, m5, m6⟩ := S1
          refine ⟨hh3, k5, k6, ⟨Nat.lt_of_le_of_lt (Nat.sub_le _ _) ub.1, fun c hc => ?_⟩, fun c hc q => ?_, fun i hi => ?_, fun c hc q => ?_⟩
          · show isB (um - 2 ^ (k + 1)) (c + 1) = !(isB (s.1 + 2 ^ k) c)
            rw [um_bit ub.1 (by omega) (by omega) uk, bit c hc, ub.2 c hc]
            by_cases e : c = k
            · rw [e, show (k + 1 == k + 1) = true from beq_self_eq_true _, show (k == k) = true from beq_self_eq_true _]; rfl
            · rw [show (c + 1 == k + 1) = false from beq_eq_false_iff_ne.mpr (by omega), show (c == k) = false from beq_eq_false_iff_ne.mpr e]; rfl
          · have q : isB (s.1 + 2 ^ k) c = false := q
            rw [bit c hc, Bool.or_eq_false_iff] at q
            rw [fr_gi f3 (rg_no rfl _)]
            exact m4 c hc q.2
          · show gi h3 66 i = nJ (fup s.2.2.2.1 s.2.2.2.2 (k + 1) i)
            have hi : i < s.2.2.2.2 + 1 := hi
            by_cases e : i = s.2.2.2.2
            · rw [e, fup_s]; exact o1
            · rw [fup_n e, o2 i e]; exact m5 i (by omega)
          · show gi h3 65 (c + 1) = nJ (fup s.2.2.1 (k + 1) node (c + 1))
            by_cases e : c = k
            · rw [e, fup_s]; exact p1
            · have q : isB (s.1 + 2 ^ k) c = true := q
              rw [bit c hc, show (c == k) = false from beq_eq_false_iff_ne.mpr e, Bool.false_or] at q
              rw [fup_n (by omega), p2' _ (by omega)]
              exact m6 c hc q
        refine E_il rfl (kp2 6 _ (nbz rfl) rfl K6) ?_
        refine E_is rfl (fun lv3 K3 kp3 => ?_)
        refine E_goto rfl ?_
        refine E_inc rfl (kp3 5 _ (nbz rfl) rfl (kp2 5 _ (nbz rfl) rfl A5)) (nJ_inc _) (fun lv4 K5 kp4 => ?_)
        refine E_goto rfl ?_
        have kk : isB (s.1 + 2 ^ k) k = true := by rw [bit k hk, show (k == k) = true from beq_self_eq_true _, Bool.true_or]
        rw [e1] at nx le1 le0 tM a2
        have es : ((glp (go n u) node k (go n u (k + 1) (gadd k node s))).2.2.2.2 - s.2.2.2.2) * (n + 1) = ((glp (go n u) node k (go n u (k + 1) (gadd k node s))).2.2.2.2 - (go n u (k + 1) (gadd k node s)).2.2.2.2) * (n + 1) + ((go n u (k + 1) (gadd k node s)).2.2.2.2 - (s.2.2.2.2 + 1)) * (n + 1) + (n + 1) := by
          rw [← Nat.add_mul]
          conv => rhs; rhs; rw [← Nat.one_mul (n + 1)]
          rw [← Nat.add_mul]
          congr 1
          omega
        have es2 : ((go n u (k + 1) (gadd k node s)).2.2.2.2 - s.2.2.2.2) * (n + 1) = ((go n u (k + 1) (gadd k node s)).2.2.2.2 - (s.2.2.2.2 + 1)) * (n + 1) + (n + 1) := by
          conv => rhs; rhs; rw [← Nat.one_mul (n + 1)]
          rw [← Nat.add_mul]
          congr 1
          omega
        rw [es] at tM
        refine ihu (nd := k + 1) (s := gadd k node s) (um := um - 2 ^ (k + 1)) (t := t + 1) lv4 (by omega) (by omega) S3 c1 c3 (by show n + 2 ≤ u + (s.2.2.2.2 + 1); omega) F3 ?_ ?_ (fun c hc q => ?_) ?_ (fun h5 um5 lv5 T1 T2 T3 T4 T5 => ?_) ⟨kp4 0 _ (nbz rfl) rfl (kp3 0 _ (nbz rfl) rfl (kp2 0 _ (nbz rfl) rfl A0)), kp4 1 _ (nbz rfl) rfl (kp3 1 _ (nbz rfl) rfl (kp2 1 _ (nbz rfl) rfl A1)), kp4 2 _ (nbz rfl) rfl (kp3 2 _ (nbz rfl) rfl K2), kp4 3 _ (nbz rfl) rfl K3, kp4 4 _ (nbz rfl) rfl (kp3 4 _ (nbz rfl) rfl (kp2 4 _ (nbz rfl) rfl A4)), K5⟩
        · rw [x69]; exact fr1 k hk bz
        · show isB (s.1 + 2 ^ k) (k + 1 - 1) = true
          exact kk
        · have q : isB (s.1 + 2 ^ k) c = false := q
          rw [bit c hc, Bool.or_eq_false_iff] at q
          rw [x69]; exact fr1 c hc q.2
        · rw [ec]; omega
        · -- back from the node, one more turn
          rintro ⟨N0, N1, N2, N3, N4, N5⟩
          rw [ec] at N5
          have hh5 := T1.1
          have pk : gi h5 65 (k + 1) = nJ node := by
            rw [T1.2.2.2.2.2.2 k hk (r2.1 k hk kk).1, (r2.1 k hk kk).2]
            exact congrArg nJ (fup_s _ _ _)
          refine E_il rfl N5 ?_
          refine E_il rfl N4 ?_
          refine E_icF rfl (decide_eq_false (fun q => absurd ((nJ_le (by omega) (by omega)).mp q) (by omega))) ?_
          refine E_al rfl N0 ?_
          refine E_ogr (q := 69) rfl hh5 rfl rfl ?_
          refine E_il rfl N3 ?_
          refine E_ial rfl hh5 rfl (by omega) (by decide) T3 ?_
          refine E_is rfl (fun lv6 J6 jp => ?_)
          refine E_il rfl J6 ?_
          refine E_ifF rfl (by decide) ?_
          refine E_il rfl (jp 3 _ (by decide) rfl N3) ?_
          refine E_ifT rfl (decide_eq_true (fun q => absurd ((nJ_eq0 (by omega)).mp q) (by omega))) ?_
          refine E_al rfl (jp 0 _ (by decide) rfl N0) ?_
          refine E_ogr (q := 65) rfl hh5 rfl rfl ?_
          refine E_il rfl (jp 3 _ (by decide) rfl N3) ?_
          refine E_ial rfl hh5 rfl (by omega) (by decide) pk ?_
          refine E_is rfl (fun lv7 J3 jp2 => ?_)
          refine E_goto rfl ?_
          have o5 : ∀ v, v ≤ n → v ≠ k + 1 → (v = 0 ∨ isB s.1 (v - 1) = true) → gi h5 69 v = gi h1 69 v := fun v vn ne cm => by
            rw [T5 v vn ne (by
              rcases cm with q | q
              · exact .inl q
              · by_cases e : v = 0
                · exact .inl e
                · refine .inr ?_
                  show isB (s.1 + 2 ^ k) (v - 1) = true
                  rw [bit (v - 1) (by omega), q, Bool.or_true]), x69]
          have nk : node ≠ k + 1 := fun e => by
            rcases come with q | q
            · omega
            · rw [e, show k + 1 - 1 = k by omega, bz] at q; cases q
          refine nx (t' := t + 1 + n + ((go n u (k + 1) (gadd k node s)).2.2.2.2 - (s.2.2.2.2 + 1)) * (n + 1)) lv7 T1 T2 ?_ T4 (fun v vn ne cm => ?_) ?_ (jp2 0 _ (by decide) rfl (jp 0 _ (by decide) rfl N0)) (jp2 1 _ (by decide) rfl (jp 1 _ (by decide) rfl N1)) (jp2 2 _ (by decide) rfl (jp 2 _ (by decide) rfl N2)) J3 (jp2 4 _ (by decide) rfl (jp 4 _ (by decide) rfl N4)) (jp2 5 _ (by decide) rfl (jp 5 _ (by decide) rfl N5))
          · rw [o5 node nd nk come]; exact v1
          · rw [o5 v vn (fun e => by
              rcases cm with q | q
              · omega
              · rw [e, show k + 1 - 1 = k by omega, bz] at q; cases q) cm]
            exact v2 v ne
          · rw [es2]; omega
      · refine E_ifT rfl (decide_eq_true (fun q => z ((nJ_eq0 (by omega)).mp q))) ?_
        have e1 : glp1 (go n u) node k s = gdec k s := by unfold glp1; rw [if_neg b, if_neg z]
        refine E_al rfl A0 ?_
        refine E_ogr (q := 67) rfl hh1 rfl rfl ?_
        refine E_il rfl K6 ?_
        refine E_dup2 rfl rfl rfl ?_
        refine E_ial rfl hh1 rfl (by omega) (by decide) m6 ?_
        refine E_il rfl A1 ?_
        refine E_ifT rfl (by decide) ?_
        refine E_c rfl ?_
        refine E_bin rfl (show nJ (s.2.1 k) + (-1) = nJ (s.2.1 k - 1) from by
          rw [pI_dec]
          obtain ⟨x, hx⟩ : ∃ x, s.2.1 k = x + 1 := ⟨s.2.1 k - 1, by omega⟩
          rw [hx]
          rfl) ?_
        refine E_ias rfl hh1 rfl (by omega) (by decide) ?_
        rw [e1] at nx
        exact nx lv1 (wk_dec n8 hk bz z S1) (fr_ptr (l := 0) (u := 8) rfl (by omega) (by omega) F1) (by rw [gi_ne (by first | exact gxx rfl | omega)]; exact v1) (fun c hc q => by rw [gi_ne (by first | exact gxx rfl | omega)]; exact fr1 c hc q) (fun v _ ne _ => by rw [gi_ne (by first | exact gxx rfl | omega)]; exact v2 v ne) (by rw [show (gdec k s).2.2.2.2 - s.2.2.2.2 = 0 from Nat.sub_self _, Nat.zero_mul]) A0 A1 A2 A3 A4 A5
theorem wk_go (n8 : n ≤ 8) (M8 : M ≤ 81) : ∀ (u : Nat) {h : pm_H} {nd um t : Nat} {s : GST} (lv : List (Nat × Value)), nd ≤ n → 1 ≤ nd → SI8 n s um h → GI n s → GNd nd s → n + 2 ≤ u + s.2.2.2.2 → fr_g WF h0 h → gi h 69 nd = nJ n → isB s.1 (nd - 1) = true → frs n s h → t + n + ((go n u nd s).2.2.2.2 - s.2.2.2.2) * (n + 1) < M → (∀ (h' : pm_H) (um' : Nat) (lv' : List (Nat × Value)), SI8 n (go n u nd s) um' h' → fr_g WF h0 h' → gi h' 69 nd = nJ 0 → frs n (go n u nd s) h' → (∀ v, v ≤ n → v ≠ nd → (v = 0 ∨ isB s.1 (v - 1) = true) → gi h' 69 v = gi h 69 v) → WK d n M Q h' um' nd (t + n + ((go n u nd s).2.2.2.2 - s.2.2.2.2) * (n + 1)) lv') → WK d n M Q h um nd t lv
  | 0, h, nd, um, t, s, lv, h1, h2, S, G, g, hu, _, _, _, _, _, _ => by
    have := pcn_le s.1 n
    have := G.2.1
    omega
  | u + 1, h, nd, um, t, s, lv, h1, h2, S, G, g, hu, F, u0, come, fr, tM, K =>
    wk_in (u := u) n8 M8 h1 (fun lv a b c e f g h i j k l m => wk_go n8 M8 u lv a b c e f g h i j k l m) n lv (Nat.le_refl n) S G g hu F u0 (.inr come) fr (Nat.le_of_lt tM) K
theorem wk_idle {h : pm_H} (hh : HH h) (M8 : M ≤ 81) (u0 : gi h 69 0 = nJ 0) (hq : Q h none) (j : Nat) : ∀ {t : Nat} (lv : List (Nat × Value)), t + j = M → pm_get lv 0 = some (.ref 64) → pm_get lv 3 = some (.int (nJ 0)) → pm_get lv 4 = some (.int (nJ M)) → pm_get lv 5 = some (.int (nJ t)) → Ends (pm_at tX7_walk) (pm_Rt pm_P (d + 1)) (52, lv, [], h, 0, 0) Q := by
  induction j with
  | zero =>
    intro t lv hj L0 L3 L4 L5
    refine E_il rfl L5 ?_
    refine E_il rfl L4 ?_
    refine E_icT rfl (decide_eq_true ((nJ_le (by omega) (by omega)).mpr (by omega))) ?_
    exact E_ret rfl hq
  | succ j ih =>
    intro t lv hj L0 L3 L4 L5
    refine E_il rfl L5 ?_
    refine E_il rfl L4 ?_
    refine E_icF rfl (decide_eq_false (fun q => absurd ((nJ_le (by omega) (by omega)).mp q) (by omega))) ?_
    refine E_al rfl L0 ?_
    refine E_ogr (q := 69) rfl hh rfl rfl ?_
    refine E_il rfl L3 ?_
    refine E_ial rfl hh rfl (by omega) (by decide) u0 ?_
    refine E_is rfl (fun lv1 K6 kp => ?_)
    refine E_il rfl K6 ?_
    refine E_ifF rfl (by decide) ?_
    refine E_il rfl (kp 3 _ (nbz rfl) rfl L3) ?_
    refine E_ifF rfl (by decide) ?_
    refine E_ci 0 rfl ci0 ?_
    refine E_goto rfl ?_
    refine E_is rfl (fun lv2 K3 kp2 => ?_)
    refine E_goto rfl ?_
    refine E_inc rfl (kp2 5 _ (nbz rfl) rfl (kp 5 _ (nbz rfl) rfl L5)) (nJ_inc _) (fun lv3 K5 kp3 => ?_)
    refine E_goto rfl ?_
    exact ih lv3 (by omega) (kp3 0 _ (nbz rfl) rfl (kp2 0 _ (nbz rfl) rfl (kp 0 _ (nbz rfl) rfl L0))) (kp3 3 _ (nbz rfl) rfl K3) (kp3 4 _ (nbz rfl) rfl (kp2 4 _ (nbz rfl) rfl (kp 4 _ (nbz rfl) rfl L4))) K5
/-- every node is unlooked at first -/
theorem wk_ini {x : Int32} (n8 : n ≤ 8) (j : Nat) : ∀ {h : pm_H} {v : Nat} (lv : List (Nat × Value)), v + j = n + 1 → HH h → fr_g WF h0 h → gi h 64 5 = nJ (n + 1) → (∀ i, i < v → gi h 69 i = nJ n) → (∀ a i, a ≠ 69 → gi h a i = gi h0 a i) → pm_get lv 0 = some (.ref 64) → pm_get lv 1 = some (.int x) → pm_get lv 2 = some (.int (nJ (2 ^ v - 1))) → pm_get lv 3 = some (.int (nJ v)) → (∀ (h' : pm_H) (lv' : List (Nat × Value)), HH h' → fr_g WF h0 h' → (∀ i, i ≤ n → gi h' 69 i = nJ n) → (∀ a i, a ≠ 69 → gi h' a i = gi h0 a i) → pm_get lv' 0 = some (.ref 64) → pm_get lv' 1 = some (.int x) → pm_get lv' 2 = some (.int (nJ (2 ^ (n + 1) - 1))) → Ends (pm_at tX7_walk) (pm_Rt pm_P d) (36, lv', [], h', 0, 0) Q) → Ends (pm_at tX7_walk) (pm_Rt pm_P d) (4, lv, [], h, 0, 0) Q := by
  induction j with
  | zero =>
    intro h v lv hj hh F g5 Z o L0 L1 L2 L3 K
    have e : v = n + 1 := by omega
    refine E_il rfl L3 ?_
    refine E_al rfl L0 ?_
    refine E_ogf (q := (0, 9)) rfl hh rfl rfl g5 ?_
    refine E_icT rfl (decide_eq_true ((nJ_le (by omega) (by omega)).mpr (by omega))) ?_
    exact K h lv hh F (fun i hi => Z i (by omega)) o L0 L1 (by rw [← e]; exact L2)
  | succ j ih =>
    intro h v lv hj hh F g5 Z o L0 L1 L2 L3 K
    have pv : 2 ^ v ≤ 2 ^ 8 := Nat.pow_le_pow_right (by omega) (by omega)
    have pp : 0 < 2 ^ v := Nat.pow_pos (by omega)
    refine E_il rfl L3 ?_
    refine E_al rfl L0 ?_
    refine E_ogf (q := (0, 9)) rfl hh rfl rfl g5 ?_
    refine E_icF rfl (decide_eq_false (fun q => absurd ((nJ_le (by omega) (by omega)).mp q) (by omega))) ?_
    refine E_al rfl L0 ?_
    refine E_ogr (q := 69) rfl hh rfl rfl ?_
    refine E_il rfl L3 ?_
    refine E_al rfl L0 ?_
    refine E_ogf (q := (0, 9)) rfl hh rfl rfl g5 ?_
    refine E_ci 1 rfl ci1 ?_
    refine E_bin rfl (show nJ (n + 1) - nJ 1 = nJ n from nJ_sub (by omega)) ?_
    refine E_ias rfl hh rfl (by omega) (by decide) ?_
    have b69 : bd 69 v = some (0, 8) := bd_u rfl (by omega)
    have h1 : HH (pt h 69 v (nJ n)) := HH_ptn hh b69 (by omega) (by omega) (by omega)
    have F1 : fr_g WF h0 (pt h 69 v (nJ n)) := fr_ptr (l := 0) (u := 8) rfl (by omega) (by omega) F
    have Z1 : ∀ i, i < v + 1 → gi (pt h 69 v (nJ n)) 69 i = nJ n := fun i hi => by
      by_cases e : i = v
      · rw [e]; exact gi_ptn hh b69 (by omega) (by omega) (by omega)
      · rw [gi_ne (fun _ => e)]; exact Z i (by omega)
    have o1 : ∀ a i, a ≠ 69 → gi (pt h 69 v (nJ n)) a i = gi h0 a i := fun a i ha => by rw [gi_ne (fun e => absurd e ha)]; exact o a i ha
    generalize pt h 69 v (nJ n) = g1 at h1 F1 Z1 o1 ⊢
    refine E_il rfl L2 ?_
    refine E_ci 1 rfl ci1 ?_
    refine E_il rfl L3 ?_
    refine E_bin rfl (show nJ 1 <<< (nJ v &&& 31) = nJ (2 ^ v) from shl_tab ⟨v, by omega⟩) ?_
    refine E_bin rfl (show nJ (2 ^ v - 1) ||| nJ (2 ^ v) = nJ (2 ^ (v + 1) - 1) from by
      have e := or2_tab ⟨2 ^ v - 1, by omega⟩ ⟨v, by omega⟩ (isB_hi (by show 2 ^ v - 1 < 2 ^ v; omega))
      dsimp only at e
      rw [e, Nat.pow_succ, show 2 ^ v - 1 + 2 ^ v = 2 ^ v * 2 - 1 by omega]) ?_
    refine E_is rfl (fun lv1 K2 kp => ?_)
    refine E_inc rfl (kp 3 _ (nbz rfl) rfl L3) (nJ_inc _) (fun lv2 K3 kp2 => ?_)
    refine E_goto rfl ?_
    exact ih lv2 (by omega) h1 F1 (by rw [o1 64 5 (by omega), ← o 64 5 (by omega)]; exact g5) Z1 o1 (kp2 0 _ (nbz rfl) rfl (kp 0 _ (nbz rfl) rfl L0)) (kp2 1 _ (nbz rfl) rfl (kp 1 _ (nbz rfl) rfl L1)) (kp2 2 _ (nbz rfl) rfl K2) K3 K
theorem sp_walkS {W : Nat → Nat} {h : pm_H} (hh : HH h) (n8 : n ≤ 8) (wb : ∀ c, c < n → 1 ≤ W c ∧ W c ≤ n) (g5 : gi h 64 5 = nJ (n + 1)) (g6 : gi h 64 6 = nJ 1) (g66 : gi h 66 0 = nJ 0) (g67 : ∀ c, c < n → gi h 67 (c + 1) = nJ (W c - 1)) : Sp (d + 2) 74 h [.ref 64, .int (nJ 0)] (fun h' r => r = none ∧ fr_g WF h h' ∧ ∃ um, SI8 n (sFin W n) um h') := by
  refine Sp_of aiX7_walk rfl rfl rfl ?_
  have L0 : pm_get (lv_args 0 [.ref 64, .int (nJ 0)]) 0 = some (.ref 64) := rfl
  have L1 : pm_get (lv_args 0 [.ref 64, .int (nJ 0)]) 1 = some (.int (nJ 0)) := rfl
  generalize lv_args 0 [.ref 64, .int (nJ 0)] = lv at L0 L1 ⊢
  have M1 : (n + 1) * (n + 1) ≤ 9 * 9 := Nat.mul_le_mul (by omega) (by omega)
  refine E_ci 0 rfl ci0 ?_
  refine E_is rfl (fun lv1 K2 kp => ?_)
  refine E_ci 0 rfl ci0 ?_
  refine E_is rfl (fun lv2 K3 kp2 => ?_)
  refine wk_ini (h0 := h) (d := d + 1) n8 (n + 1) (v := 0) lv2 (by omega) hh (fr_rf _ _) g5 (fun i hi => absurd hi (Nat.not_lt_zero i)) (fun _ _ _ => rfl) (kp2 0 _ (nbz rfl) rfl (kp 0 _ (nbz rfl) rfl L0)) (kp2 1 _ (nbz rfl) rfl (kp 1 _ (nbz rfl) rfl L1)) (kp2 2 _ (nbz rfl) rfl K2) K3 (fun h1 lv3 hh1 F1 Z1 o1 N0 N1 N2 => ?_)
  have g5' : gi h1 64 5 = nJ (n + 1) := by rw [o1 64 5 (by omega)]; exact g5
  refine E_ci 0 rfl ci0 ?_
  refine E_is rfl (fun lv4 K3 kp4 => ?_)
  refine E_al rfl (kp4 0 _ (nbz rfl) rfl N0) ?_
  refine E_ogf (q := (0, 9)) rfl hh1 rfl rfl g5' ?_
  refine E_al rfl (kp4 0 _ (nbz rfl) rfl N0) ?_
  refine E_ogf (q := (0, 9)) rfl hh1 rfl rfl g5' ?_
  refine E_bin rfl (nJ_mul _ _) ?_
  refine E_is rfl (fun lv5 K4 kp5 => ?_)
  refine E_ci 0 rfl ci0 ?_
  refine E_is rfl (fun lv6 K5 kp6 => ?_)
  have S1 : SI8 n (s0 W) (2 ^ (n + 1) - 1) h1 := by
    refine ⟨hh1, g5', by rw [o1 64 6 (by omega)]; exact g6, ⟨?_, fun c hc => ?_⟩, fun c hc q => ?_, fun i hi => ?_, fun c hc q => ?_⟩
    · have : 2 ^ (n + 1) ≤ 2 ^ 9 := Nat.pow_le_pow_right (by omega) (by omega)
      have : 0 < 2 ^ (n + 1) := Nat.pow_pos (by omega)
      omega
    · show isB (2 ^ (n + 1) - 1) (c + 1) = !(isB 0 c)
      rw [isB_zero]
      exact all_tab ⟨n + 1, by omega⟩ ⟨c + 1, by omega⟩ (by show c + 1 < n + 1; omega)
    · have w := wb c hc
      rw [o1 67 _ (by omega)]
      exact ⟨g67 c hc, by show W c - 1 ≤ 8; omega⟩
    · have hi : i < 1 := hi
      rw [show i = 0 by omega, o1 66 0 (by omega)]; exact g66
    · have q : isB 0 c = true := q
      rw [isB_zero] at q; cases q
  have G0 : GI n (s0 W) := GI_0
  obtain ⟨a1, -, -⟩ := go_ok n8 (n + 1) 0 (s0 W) G0 GNd_0 (by show n + 2 ≤ n + 1 + 1; omega)
  have c9 : (glp (go n n) 0 n (s0 W)).2.2.2.2 ≤ n + 1 := by
    have a1 : GI n (glp (go n n) 0 n (s0 W)) := a1
    have := a1.2.1
    have := pcn_le (glp (go n n) 0 n (s0 W)).1 n
    omega
  have c0 : (s0 W).2.2.2.2 = 1 := rfl
  have mm : ((glp (go n n) 0 n (s0 W)).2.2.2.2 - (s0 W).2.2.2.2) * (n + 1) ≤ n * (n + 1) := Nat.mul_le_mul_right _ (by omega)
  have ms : (n + 1) * (n + 1) = n * (n + 1) + (n + 1) := Nat.succ_mul n (n + 1)
  refine wk_in (h0 := h) (u := n) (node := 0) n8 M1 (Nat.zero_le n) (fun lv a b c e f g h i j k l m => wk_go n8 M1 n lv a b c e f g h i j k l m) n (t := 0) lv6 (Nat.le_refl n) S1 G0 GNd_0 (by show n + 2 ≤ n + 1 + 1; omega) F1 (Z1 0 (Nat.zero_le n)) (.inl rfl) (fun c hc _ => Z1 (c + 1) (by omega)) (by omega) (fun h2 um2 lv7 T1 T2 T3 T4 T5 => ?_) ⟨kp6 0 _ (nbz rfl) rfl (kp5 0 _ (nbz rfl) rfl (kp4 0 _ (nbz rfl) rfl N0)), kp6 1 _ (nbz rfl) rfl (kp5 1 _ (nbz rfl) rfl (kp4 1 _ (nbz rfl) rfl N1)), kp6 2 _ (nbz rfl) rfl (kp5 2 _ (nbz rfl) rfl (kp4 2 _ (nbz rfl) rfl N2)), kp6 3 _ (nbz rfl) rfl (kp5 3 _ (nbz rfl) rfl K3), kp6 4 _ (nbz rfl) rfl K4, K5⟩
  rintro ⟨R0, R1, R2, R3, R4, R5⟩
  exact wk_idle T1.1 M1 T3 ⟨rfl, T2, um2, T1⟩ ((n + 1) * (n + 1) - (0 + n + ((glp (go n n) 0 n (s0 W)).2.2.2.2 - (s0 W).2.2.2.2) * (n + 1))) lv7 (by omega) R0 R3 R4 R5
theorem se8_loop {W : Nat → Nat} (n8 : n ≤ 8) (wb : ∀ c, c < n → 1 ≤ W c ∧ W c ≤ n) (j : Nat) : ∀ {h : pm_H} {c : Nat} (lv : List (Nat × Value)), c + j = n → HH h → fr_g WF h0 h → gi h 64 5 = nJ (n + 1) → gi h 64 6 = nJ 1 → gi h 66 0 = nJ 0 → (∀ i, i < n → gi h 17 i = nJ (W i)) → (∀ i, i < c → gi h 67 (i + 1) = nJ (W i - 1)) → pm_get lv 0 = some (.ref 64) → pm_get lv 1 = some (.ref 17) → pm_get lv 3 = some (.int (nJ (c + 1))) → Ends (pm_at tX7_search) (pm_Rt pm_P (d + 2)) (7, lv, [], h, 0, 0) (fun h' r => r = none ∧ fr_g WF h0 h' ∧ ∃ um, SI8 n (sFin W n) um h') := by
  induction j with
  | zero =>
    intro h c lv hj hh F g5 g6 g66 g17 Z L0 L1 L3
    refine E_il rfl L3 ?_
    refine E_al rfl L0 ?_
    refine E_ogf (q := (0, 9)) rfl hh rfl rfl g5 ?_
    refine E_icT rfl (decide_eq_true ((nJ_le (by omega) (by omega)).mpr (by omega))) ?_
    refine E_al rfl L0 ?_
    refine E_ci 0 rfl ci0 ?_
    refine E_call rfl (sp_walkS (d := d) hh n8 wb g5 g6 g66 (fun c hc => Z c (by omega))) (chkO (a := 64) hh rfl rfl rfl rfl (by show 0 ≤ 8; decide)) (fun h1 r1 => ?_)
    rintro ⟨e1, f1, S⟩
    rw [e1]
    exact E_ret rfl ⟨rfl, fr_trans F f1, S⟩
  | succ j ih =>
    intro h c lv hj hh F g5 g6 g66 g17 Z L0 L1 L3
    have w := wb c (by omega)
    refine E_il rfl L3 ?_
    refine E_al rfl L0 ?_
    refine E_ogf (q := (0, 9)) rfl hh rfl rfl g5 ?_
    refine E_icF rfl (decide_eq_false (fun q => absurd ((nJ_le (by omega) (by omega)).mp q) (by omega))) ?_
    refine E_al rfl L0 ?_
    refine E_ogr (q := 67) rfl hh rfl rfl ?_
    refine E_il rfl L3 ?_
    refine E_al rfl L1 ?_
    refine E_il rfl L3 ?_
    refine E_ci 1 rfl ci1 ?_
    refine E_bin rfl (show nJ (c + 1) - nJ 1 = nJ c from nJ_sub (by omega)) ?_
    refine E_ial rfl hh rfl (by omega) (by decide) (g17 c (by omega)) ?_
    refine E_ci 1 rfl ci1 ?_
    refine E_bin rfl (nJ_sub (by omega)) ?_
    refine E_ias rfl hh rfl (by omega) (by decide) ?_
    have b67 : bd 67 (c + 1) = some (-2147483648, 2147483647) := bd_u rfl (by omega)
    have h1 : HH (pt h 67 (c + 1) (nJ (W c - 1))) := HH_ptn hh b67 (by omega) (by omega) (by omega)
    have F1 : fr_g WF h0 (pt h 67 (c + 1) (nJ (W c - 1))) := fr_ptr (l := 0) (u := 8) rfl (by omega) (by omega) F
    refine E_inc rfl L3 (nJ_inc _) (fun lv1 K3 kp => ?_)
    refine E_goto rfl ?_
    refine ih (c := c + 1) lv1 (by omega) h1 F1 (by rw [gi_ne (by first | exact gxx rfl | omega)]; exact g5) (by rw [gi_ne (by first | exact gxx rfl | omega)]; exact g6) (by rw [gi_ne (by first | exact gxx rfl | omega)]; exact g66) (fun i hi => by rw [gi_ne (by first | exact gxx rfl | omega)]; exact g17 i hi) (fun i hi => ?_) (kp 0 _ (nbz rfl) rfl L0) (kp 1 _ (nbz rfl) rfl L1) K3
    by_cases e : i = c
    · rw [e]; exact gi_ptn hh b67 (by omega) (by omega) (by omega)
    · rw [gi_ne (fun _ => by omega)]; exact Z i (by omega)
theorem sp_search8 {W : Nat → Nat} {h : pm_H} (hh : HH h) (n8 : n ≤ 8) (wb : ∀ c, c < n → 1 ≤ W c ∧ W c ≤ n) (lw : ∀ q, 1 ≤ q → q ≤ n → q ≤ cw W q n) (g17 : ∀ c, c < n → gi h 17 c = nJ (W c)) : Sp (d + 3) 72 h [.ref 64, .ref 17, .int (nJ n)] (fun h' r => r = none ∧ HH h' ∧ fr_g WF h h' ∧ TRX 65 66 n (sFin W n).2.2.2.1 (sFin W n).2.2.1 h' ∧ gi h' 64 5 = nJ (n + 1)) := by
  obtain ⟨s1, s2, s3⟩ := s_all n8 wb lw
  refine Sp_mono (Q := fun h' r => r = none ∧ fr_g WF h h' ∧ ∃ um, SI8 n (sFin W n) um h') ?_ ?_
  · rintro h' r ⟨e, f, um, t1, t2, t3, t4, t5, t6, t7⟩
    refine ⟨e, t1, f, ⟨fun i hi => t6 i (by omega), fun v v1 vn => ?_⟩, t2⟩
    have := t7 (v - 1) (by omega) (s3 (v - 1) (by omega))
    rw [show v - 1 + 1 = v by omega] at this
    exact this
  refine Sp_of aiX7_search rfl rfl rfl ?_
  have L0 : pm_get (lv_args 0 [.ref 64, .ref 17, .int (nJ n)]) 0 = some (.ref 64) := rfl
  have L1 : pm_get (lv_args 0 [.ref 64, .ref 17, .int (nJ n)]) 1 = some (.ref 17) := rfl
  have L2 : pm_get (lv_args 0 [.ref 64, .ref 17, .int (nJ n)]) 2 = some (.int (nJ n)) := rfl
  generalize lv_args 0 [.ref 64, .ref 17, .int (nJ n)] = lv at L0 L1 L2 ⊢
  refine E_al rfl L0 ?_
  refine E_il rfl L2 ?_
  refine E_call rfl (Sp_le (by first | exact Nat.add_le_add_left (Nat.le_of_ble_eq_true rfl) _ | exact Nat.le_of_ble_eq_true rfl | omega) (sp_beginT (d := d) hh n8)) (chkO (a := 64) hh rfl rfl rfl rfl (by show 0 ≤ 8; decide)) (fun h1 r1 => ?_)
  rintro ⟨e1, hh1, f1, k5, k6, b0, a0⟩
  rw [e1]
  refine E_ci 1 rfl ci1 ?_
  refine E_is rfl (fun lv1 K3 kp => ?_)
  exact se8_loop (h0 := h) n8 wb n (c := 0) lv1 (by omega) hh1 (fr_wk rfl f1) k5 k6 b0 (fun i hi => by rw [fr_gi f1 (rg_no rfl _)]; exact g17 i hi) (fun i hi => absurd hi (Nat.not_lt_zero i)) (kp 0 _ (nbz rfl) rfl L0) (kp 1 _ (nbz rfl) rfl L1) K3
end WLK
end
section
/-! SEARCH of the street's row, both (written by gen_u100.py; wants u97, u99, u99b) -/
section SEA
variable {h : pm_H} {d : Nat}
noncomputable def oS (h : pm_H) : Nat → Nat := (sFin (W9 h) (N9 h)).2.2.2.1
noncomputable def pS (h : pm_H) : Nat → Nat := (sFin (W9 h) (N9 h)).2.2.1
theorem oS_K {h h' : pm_H} (k : K9 h h') : oS h' = oS h := by unfold oS; rw [W9_K k, N9_K k]
theorem DT_S (n8 : N9 h ≤ 8) (L : LW9 h = true) (B : B9 h) : DT (N9 h) (pS h) := by
  obtain ⟨a, wb, lw⟩ := LW_wb L B
  exact (s_DT n8 wb lw).1
/-- the class searches -/
theorem sp_searchTree8 {s : Bool} (hh : HH h) (R : QRE h) : Sp (d + 5) 175 h [.ref 0, .int (zb (s = true))] (fun h' r => (¬ (s = true ∧ LW9 h = true) ∧ h' = h ∧ r = some (.int (if s = true then -1 else -2))) ∨ (s = true ∧ LW9 h = true ∧ r = some (.int (nJ 0)) ∧ HH h' ∧ fr_g WF h h' ∧ TRX 65 66 (N9 h) (oS h) (pS h) h' ∧ gi h' 64 5 = nJ (N9 h + 1))) := by
  obtain ⟨l3, p8, n8⟩ := g9s hh
  have F := CW8_of hh R
  have B := B9_of R
  refine Sp_of aiX8_searchTree rfl rfl rfl ?_
  have L0 : pm_get (lv_args 0 [.ref 0, .int (zb (s = true))]) 0 = some (.ref 0) := rfl
  have L1 : pm_get (lv_args 0 [.ref 0, .int (zb (s = true))]) 1 = some (.int (zb (s = true))) := rfl
  generalize lv_args 0 [.ref 0, .int (zb (s = true))] = lv at L0 L1 ⊢
  refine E_al rfl L0 ?_
  refine E_il rfl L1 ?_
  refine E_call rfl (Sp_le (by first | exact Nat.add_le_add_left (Nat.le_of_ble_eq_true rfl) _ | exact Nat.le_of_ble_eq_true rfl | omega) (sp_rowRefusal8 (d := d) (s := s) hh F B)) (chkO (a := 0) hh rfl rfl rfl rfl (by show 0 ≤ 8; decide)) (fun h1 r1 => ?_)
  rintro ⟨e1, f1⟩
  rw [e1, f1]
  refine E_is rfl (fun lv1 K2 kp => ?_)
  have A0 := kp 0 _ (nbz rfl) rfl L0
  refine E_il rfl K2 ?_
  by_cases b : s = true ∧ LW9 h = true
  · rw [if_pos b.1, if_pos b.2] at K2 ⊢
    obtain ⟨a, wb, lw⟩ := LW_wb b.2 B
    have f0 := F.2.1
    rw [← a] at f0
    refine E_ifF rfl (by decide) ?_
    refine E_al rfl A0 ?_
    refine E_ogr (q := 64) rfl hh rfl rfl ?_
    refine E_al rfl A0 ?_
    refine E_ogr (q := 15) rfl hh rfl rfl ?_
    refine E_ogr (q := 17) rfl hh rfl rfl ?_
    refine E_al rfl A0 ?_
    refine E_ogr (q := 15) rfl hh rfl rfl ?_
    refine E_ogf (q := (0, 8)) rfl hh rfl rfl f0 ?_
    refine E_call rfl (Sp_le (by first | exact Nat.add_le_add_left (Nat.le_of_ble_eq_true rfl) _ | exact Nat.le_of_ble_eq_true rfl | omega) (sp_search8 (d := d) hh n8 wb lw F.2.2)) (chkO (a := 64) hh rfl rfl rfl rfl (by show 0 ≤ 8; decide)) (fun h2 r2 => ?_)
    rintro ⟨e2, hh2, f2, T2, k5⟩
    rw [e2]
    refine E_il rfl K2 ?_
    exact E_rti rfl (.inr ⟨b.1, b.2, rfl, hh2, f2, T2, k5⟩)
  · have e : (if s = true then (if LW9 h = true then (0 : Int32) else -1) else -2) = if s = true then -1 else -2 := by
      by_cases c : s = true
      · rw [if_pos c, if_pos c, if_neg (fun q => b ⟨c, q⟩)]
      · rw [if_neg c, if_neg c]
    rw [e] at K2 ⊢
    refine E_ifT rfl (decide_eq_true (by split <;> decide)) ?_
    refine E_il rfl K2 ?_
    exact E_rti rfl (.inl ⟨b, rfl, rfl⟩)
theorem sp_searchesT {h0 : pm_H} (hh : HH h) (n8 : N9 h0 ≤ 8) (wb : ∀ c, c < N9 h0 → 1 ≤ W9 h0 c ∧ W9 h0 c ≤ N9 h0) (lw : ∀ q, 1 ≤ q → q ≤ N9 h0 → q ≤ cw (W9 h0) q (N9 h0)) (h84 : gn h 84 3 = N9 h0) (h89 : ∀ c, c < N9 h0 → gi h 89 c = nJ (W9 h0 c)) : Sp (d + 11) 342 h [.ref 77] (fun h' r => r = none ∧ HH h' ∧ fr_g GM h h' ∧ TRX 92 98 (N9 h0) (oS h0) (pS h0) h') := by
  obtain ⟨s1, s2, s3⟩ := s_all n8 wb lw
  refine Sp_le (show d + N9 h0 + 3 ≤ d + 11 by omega) (Sp_mono ?_ (sp_searchesX (d := d) hh n8 wb h84 h89))
  rintro h' r ⟨e, hh', f, -, -, -, -, -, t6, t7⟩
  refine ⟨e, hh', f, fun i hi => t6 i (by omega), fun v v1 vn => ?_⟩
  have := t7 (v - 1) (by omega) (s3 (v - 1) (by omega))
  rw [show v - 1 + 1 = v by omega] at this
  exact this
end SEA
end
section
/-! visit of both (written by gen_u100.py; wants u100.base) -/
section VIS
variable {h : pm_H} {d : Nat} {x : Int32}
theorem tq_no {p : Prop} [Decidable p] {v : Int32} (nb : ¬ (decide p = true ∧ LW9 h = true)) : tqv p h v = if decide p = true then -1 else -2 := by
  unfold tqv
  by_cases c : p
  · rw [if_pos c, if_pos (decide_eq_true c), if_neg (fun q => nb ⟨decide_eq_true c, q⟩)]
  · rw [if_neg c, if_neg (by rw [decide_eq_false c]; decide)]
theorem tq_yes {p : Prop} [Decidable p] {v : Int32} (c : p) (l : LW9 h = true) : tqv p h v = v := by
  unfold tqv
  rw [if_pos c, if_pos l]
theorem tq_nz {s : Bool} : ¬ (if s = true then (-1 : Int32) else -2) = 0 := by split <;> decide
noncomputable def viq (h : pm_H) (x : Int32) : Int32 := tqv (0 < (gi h 83 0).toInt ∧ 0 ≤ x.toInt ∧ x.toInt ≤ (P9 h : Int)) h (nJ (oS h x.toInt.toNat))
theorem viq_K {h h' : pm_H} {x : Int32} (k : K9 h h') : viq h' x = viq h x := by
  unfold viq tqv
  rw [k.2.2.2, P9_K k, LW9_K k, oS_K k]
theorem sp_isNode9 {g : pm_H} (hg : HH g) (k : K9 h g) : Sp (d + 2) 273 g [.ref 77, .int x] (fun h' r => h' = g ∧ r = some (.int (zb (0 < (gi h 83 0).toInt ∧ 0 ≤ x.toInt ∧ x.toInt ≤ (P9 h : Int))))) := by
  refine Sp_of aiX9_isNode rfl rfl rfl ?_
  have L0 : pm_get (lv_args 0 [.ref 77, .int x]) 0 = some (.ref 77) := rfl
  have L1 : pm_get (lv_args 0 [.ref 77, .int x]) 1 = some (.int x) := rfl
  generalize lv_args 0 [.ref 77, .int x] = lv at L0 L1 ⊢
  have p8 : gn g 84 0 ≤ 8 := gn_hi hg rfl (by decide)
  have no : ¬ (0 < (gi h 83 0).toInt ∧ 0 ≤ x.toInt ∧ x.toInt ≤ (P9 h : Int)) → Ends (pm_at tX9_isNode) (pm_Rt pm_P (d + 1)) (25, lv, [], g, 0, 0) (fun h' r => h' = g ∧ r = some (.int (zb (0 < (gi h 83 0).toInt ∧ 0 ≤ x.toInt ∧ x.toInt ≤ (P9 h : Int))))) := by
    intro q
    refine E_ci 0 rfl ci0 ?_
    exact E_rtz rfl (.inl rfl) ⟨rfl, by rw [zb_F q]⟩
  refine E_al rfl L0 ?_
  refine E_call rfl (sp_isStreet (d := d) hg) (chk77 hg rfl rfl (by show 0 ≤ 8; decide)) (fun h1 r1 => ?_)
  rintro ⟨e1, f1⟩
  rw [e1, f1, k.2.2.2]
  by_cases b : 0 < (gi h 83 0).toInt
  · refine E_ifF rfl (by rw [zb_T b]; rfl) ?_
    refine E_il rfl L1 ?_
    refine E_i2l rfl ?_
    refine E_c rfl ?_
    refine E_al rfl L0 ?_
    refine E_call rfl (sp_places (d := d) hg) (chk77 hg rfl rfl (by show 4 ≤ 8; decide)) (fun h2 r2 => ?_)
    rintro ⟨e2, f2, -⟩
    rw [e2, f2]
    refine E_i2l rfl ?_
    refine E_call rfl (sp_in (d := d) (a := x.toInt) (b := 0) (c := (P9 h : Int)) (i2l_toInt _) rfl (by rw [i2l_nJ (by omega), show gn g 84 0 = P9 h from P9_K k])) (chkS rfl (by show 0 ≤ 8; decide)) (fun h3 r3 => ?_)
    rintro ⟨e3, f3⟩
    rw [e3, f3]
    by_cases c : 0 ≤ x.toInt ∧ x.toInt ≤ (P9 h : Int)
    · refine E_ifF rfl (by rw [zb_T c]; rfl) ?_
      refine E_ci 1 rfl ci1 ?_
      refine E_goto rfl ?_
      exact E_rtz rfl (.inr rfl) ⟨rfl, by rw [zb_T ⟨b, c⟩]⟩
    · refine E_ifT rfl (by rw [zb_F c]; rfl) ?_
      exact no (fun q => c q.2)
  · refine E_ifT rfl (by rw [zb_F b]; rfl) ?_
    exact no (fun q => b q.1)
theorem sp_visit8 (hh : HH h) (R : QRE h) : Sp (d + 7) 197 h [.ref 0, .int x] (fun h' r => K9 h h' ∧ r = some (.int (viq h x))) := by
  refine Sp_of aiX8_visit rfl rfl rfl ?_
  have L0 : pm_get (lv_args 0 [.ref 0, .int x]) 0 = some (.ref 0) := rfl
  have L1 : pm_get (lv_args 0 [.ref 0, .int x]) 1 = some (.int x) := rfl
  generalize lv_args 0 [.ref 0, .int x] = lv at L0 L1 ⊢
  have k0 : K9 h h := ⟨fun _ => rfl, fun _ => rfl, fun _ => rfl, fun _ => rfl⟩
  obtain ⟨l3, p8, n8⟩ := g9s hh
  have B := B9_of R
  have e4 : gn h 15 4 = N9 h := gn_eq R.2.1.1.2.2.1
  have i0 : gi h 15 0 = nJ (P9 h) := (CW8_of hh R).2.1
  have z0 : (0 : Int32).toInt = 0 := rfl
  have zp := nJ_toInt (n := P9 h) (by omega)
  have go : ∀ lv' : List (Nat × Value), pm_get lv' 0 = some (.ref 0) → pm_get lv' 1 = some (.int x) → Ends (pm_at tX8_visit) (pm_Rt pm_P (d + 6)) (28, lv', [.int (zb (decide (0 < (gi h 83 0).toInt ∧ 0 ≤ x.toInt ∧ x.toInt ≤ (P9 h : Int)) = true)), .ref 0], h, 0, 0) (fun h' r => K9 h h' ∧ r = some (.int (viq h x))) := by
    clear L0 L1
    intro lv L0 L1
    refine E_call rfl (Sp_le (by first | exact Nat.add_le_add_left (Nat.le_of_ble_eq_true rfl) _ | exact Nat.le_of_ble_eq_true rfl | omega) (sp_searchTree8 (d := d) (s := decide (0 < (gi h 83 0).toInt ∧ 0 ≤ x.toInt ∧ x.toInt ≤ (P9 h : Int))) hh R)) (chkO (a := 0) hh rfl rfl rfl rfl (by show 0 ≤ 8; decide)) (fun h2 r2 => ?_)
    rintro (⟨nb, e2, f2⟩ | ⟨s1, lw, f2, hh2, F2, T2, k5⟩)
    · rw [e2, f2]
      refine E_is rfl (fun lv1 K2 kp => ?_)
      refine E_il rfl K2 ?_
      refine E_ifF rfl (decide_eq_false tq_nz) ?_
      refine E_il rfl K2 ?_
      refine E_goto rfl ?_
      exact E_rti rfl ⟨k0, by unfold viq; rw [tq_no nb]⟩
    · rw [f2]
      have c := of_decide_eq_true s1
      have k2 : K9 h h2 := K9_fr F2 rfl rfl rfl rfl
      have D := DT_S n8 lw B
      obtain ⟨a, wb, lq⟩ := LW_wb lw B
      refine E_is rfl (fun lv1 K2 kp => ?_)
      refine E_il rfl K2 ?_
      refine E_ifT rfl (by decide) ?_
      have A0 := kp 0 _ (nbz rfl) rfl L0
      rw [show viq h x = nJ (oS h x.toInt.toNat) from tq_yes c lw]
      obtain ⟨m, hm, rfl⟩ : ∃ m, m ≤ P9 h ∧ x = nJ m := ⟨x.toInt.toNat, by omega, nJ_of c.2.1⟩
      rw [show (nJ m).toInt.toNat = m by have := nJ_toInt (n := m) (by omega); omega]
      refine E_al rfl A0 ?_
      refine E_ogr (q := 64) rfl hh2 rfl rfl ?_
      refine E_ogr (q := 66) rfl hh2 rfl rfl ?_
      refine E_il rfl (kp 1 _ (nbz rfl) rfl L1) ?_
      refine E_ial rfl hh2 rfl (by omega) (by decide) (T2.1 m (by omega)) ?_
      exact E_rti rfl ⟨k2, rfl⟩
  have no : ¬ (0 < (gi h 83 0).toInt ∧ 0 ≤ x.toInt ∧ x.toInt ≤ (P9 h : Int)) → Ends (pm_at tX8_visit) (pm_Rt pm_P (d + 6)) (27, lv, [.ref 0], h, 0, 0) (fun h' r => K9 h h' ∧ r = some (.int (viq h x))) := by
    intro q
    refine E_ci 0 rfl ci0 ?_
    have := go lv L0 L1
    rw [← zb_dec, zb_F q] at this
    exact this
  refine E_al rfl L0 ?_
  refine E_al rfl L0 ?_
  refine E_call rfl (Sp_le (by first | exact Nat.add_le_add_left (Nat.le_of_ble_eq_true rfl) _ | exact Nat.le_of_ble_eq_true rfl | omega) (sp_hasStreet8 (d := d) hh)) (chkO (a := 0) hh rfl rfl rfl rfl (by show 1 ≤ 8; decide)) (fun h1 r1 => ?_)
  rintro ⟨e1, f1⟩
  rw [e1, f1]
  by_cases b : 0 < gn h 15 0
  · refine E_ifF rfl (by rw [zb_T b]; rfl) ?_
    refine E_il rfl L1 ?_
    by_cases c1 : 0 ≤ x.toInt
    · refine E_ifF rfl (decide_eq_false (fun q => by have := Int32.lt_iff_toInt_lt.mp q; omega)) ?_
      refine E_il rfl L1 ?_
      refine E_al rfl L0 ?_
      refine E_ogr (q := 15) rfl hh rfl rfl ?_
      refine E_ogf (q := (0, 8)) rfl hh rfl rfl i0 ?_
      by_cases c2 : x.toInt ≤ (P9 h : Int)
      · refine E_icF rfl (decide_eq_false (fun q => by have := Int32.lt_iff_toInt_lt.mp q; omega)) ?_
        refine E_ci 1 rfl ci1 ?_
        refine E_goto rfl ?_
        have := go lv L0 L1
        rw [← zb_dec, zb_T ⟨(st_eq R).mp b, c1, c2⟩] at this
        exact this
      · refine E_icT rfl (decide_eq_true (Int32.lt_iff_toInt_lt.mpr (by omega))) ?_
        exact no (fun q => c2 q.2.2)
    · refine E_ifT rfl (decide_eq_true (Int32.lt_iff_toInt_lt.mpr (by omega))) ?_
      exact no (fun q => c1 q.2.1)
  · refine E_ifT rfl (by rw [zb_F b]; rfl) ?_
    exact no (fun q => b ((st_eq R).mpr q.1))
theorem sp_visit9 (hh : HH h) (V : V9 h) (B : B9 h) : Sp (d + 13) 368 h [.ref 77, .int x] (fun h' r => r = some (.int (viq h x))) := by
  obtain ⟨l3, p8, n8⟩ := g9s hh
  refine Sp_of aiX9_visit rfl rfl rfl ?_
  have L0 : pm_get (lv_args 0 [.ref 77, .int x]) 0 = some (.ref 77) := rfl
  have L1 : pm_get (lv_args 0 [.ref 77, .int x]) 1 = some (.int x) := rfl
  generalize lv_args 0 [.ref 77, .int x] = lv at L0 L1 ⊢
  refine E_al rfl L0 ?_
  refine E_ci 0 rfl ci0 ?_
  refine E_pf rfl hh rfl ?_
  have hg : HH (pt h 77 0 (nJ 0)) := HH_ptn hh rfl (by omega) (by omega) (by omega)
  have k : K9 h (pt h 77 0 (nJ 0)) := K9_77
  generalize pt h 77 0 (nJ 0) = g at hg k ⊢
  refine E_al rfl L0 ?_
  refine E_il rfl L1 ?_
  refine E_call rfl (Sp_le (by first | exact Nat.add_le_add_left (Nat.le_of_ble_eq_true rfl) _ | exact Nat.le_of_ble_eq_true rfl | omega) (sp_isNode9 (d := d) hg k)) (chk77 hg rfl rfl (by show 0 ≤ 8; decide)) (fun h1 r1 => ?_)
  rintro ⟨e1, f1⟩
  rw [e1, f1]
  by_cases c : 0 < (gi h 83 0).toInt ∧ 0 ≤ x.toInt ∧ x.toInt ≤ (P9 h : Int)
  · refine E_ifT rfl (by rw [zb_T c]; rfl) ?_
    refine E_al rfl L0 ?_
    refine E_call rfl (Sp_le (by first | exact Nat.add_le_add_left (Nat.le_of_ble_eq_true rfl) _ | exact Nat.le_of_ble_eq_true rfl | omega) (sp_laysX (d := d) hg (V9_K k V))) (chk77 hg rfl rfl (by show 0 ≤ 8; decide)) (fun h2 r2 => ?_)
    rintro ⟨e2, hh2, f2, -, -, w2⟩
    rw [e2]
    have T := LY9_of k hh2 f2 w2
    refine E_al rfl L0 ?_
    refine E_call rfl (Sp_le (by first | exact Nat.add_le_add_left (Nat.le_of_ble_eq_true rfl) _ | exact Nat.le_of_ble_eq_true rfl | omega) (sp_isLawful9 (d := d) hh T)) (chk77 hh2 rfl rfl (by show 0 ≤ 8; decide)) (fun h3 r3 => ?_)
    rintro ⟨e3, f3⟩
    rw [e3, f3]
    by_cases lw : LW9 h = true
    · refine E_ifT rfl (by rw [zb_T lw]; rfl) ?_
      rw [show viq h x = nJ (oS h x.toInt.toNat) from tq_yes c lw]
      obtain ⟨a, wb, lq⟩ := LW_wb lw B
      have D := DT_S n8 lw B
      refine E_al rfl L0 ?_
      refine E_call rfl (Sp_le (by first | exact Nat.add_le_add_left (Nat.le_of_ble_eq_true rfl) _ | exact Nat.le_of_ble_eq_true rfl | omega) (sp_searchesT (d := d) hh2 n8 wb lq T.2.2.1 (fun c hc => by rw [gi_gn hh2 (q := (0, 8)) (bd_u rfl (by omega)) (by decide), T.2.2.2 c hc]))) (chk77 hh2 rfl rfl (by show 0 ≤ 8; decide)) (fun h4 r4 => ?_)
      rintro ⟨e4, hh4, f4, T4⟩
      rw [e4]
      have T4 : TRX 92 98 (N9 h) (oS h) (pS h) h4 := T4
      have u0 : gn h4 84 0 = N9 h := by rw [fr_gn f4 (rg_no rfl _), T.2.1, a]
      obtain ⟨m, hm, rfl⟩ : ∃ m, m ≤ P9 h ∧ x = nJ m := ⟨x.toInt.toNat, by omega, nJ_of c.2.1⟩
      rw [show (nJ m).toInt.toNat = m by have := nJ_toInt (n := m) (by omega); omega]
      refine E_al rfl L0 ?_
      refine E_gr rfl hh4 (q := 98) rfl ?_
      refine E_il rfl L1 ?_
      refine E_ial rfl hh4 rfl (by omega) (by decide) (T4.1 m (by omega)) ?_
      exact E_rti rfl rfl
    · refine E_ifF rfl (by rw [zb_F lw]; rfl) ?_
      refine E_c rfl ?_
      exact E_rti rfl (by unfold viq tqv; rw [if_pos c, if_neg lw])
  · refine E_ifF rfl (by rw [zb_F c]; rfl) ?_
    refine E_c rfl ?_
    exact E_rti rfl (by unfold viq tqv; rw [if_neg c])
end VIS
noncomputable def half_visit (h : pm_H) (r x : Int32) : Prop := QRE h ∧ r = viq h x
theorem g8_visit {h : pm_H} {x : Int32} (I : IVQ h) : Sp 100 197 h [.ref 0, .int x] (fun h' s => IVh h' ∧ ∃ r : Int32, s = some (.int r) ∧ half_visit h' r x) := by
  refine Sp_le (by first | exact Nat.add_le_add_left (Nat.le_of_ble_eq_true rfl) _ | exact Nat.le_of_ble_eq_true rfl | omega) (Sp_mono ?_ (Sp_and1 (top_all (as := [.ref 0, .int x]) q314 (by decide +kernel) I.1 ⟨rfl, aI _, trivial⟩) (sp_visit8 (d := 0) I.1.1 I.2)))
  rintro h' s ⟨⟨s1, s2, -⟩, k, rfl⟩
  exact ⟨s1, _, rfl, QRE_fr s2 rfl I.2, by rw [viq_K k]⟩
theorem g9_visit {h : pm_H} {r x : Int32} (I : IVh h) (J : half_visit h r x) : Sp 100 368 h [.ref 77, .int x] (fun h' s => IVQ h' ∧ s = some (.int r)) := by
  obtain ⟨J1, rfl⟩ := J
  have tr := (top_TQ (as := [.ref 77, .int x]) (d := 30) rfl I (tp_visit (d := 0) I.1 (I.2.2.1 0 (by omega))))
  refine Sp_mono ?_ (Sp_an (Sp_le (by first | exact Nat.add_le_add_left (Nat.le_of_ble_eq_true rfl) _ | exact Nat.le_of_ble_eq_true rfl | omega) tr) (Sp_le (by first | exact Nat.add_le_add_left (Nat.le_of_ble_eq_true rfl) _ | exact Nat.le_of_ble_eq_true rfl | omega) (sp_visit9 (d := 0) I.1 (V9_of J1) (B9_of J1))))
  rintro h' s ⟨⟨s1, s2, -⟩, rfl⟩
  exact ⟨⟨s1, QRE_fr s2 rfl J1⟩, rfl⟩
end
section
/-! the law's own run (written by gen_t21.py) -/
noncomputable def RQ1 (_ : pm_H) (r : Option Value) : Prop := r = some (.int 1)
section ENDW
variable {look : Nat → Option pm_I} {call : pm_Call} {Q : pm_H → Option Value → Prop} {pc n i t : Nat} {lv : List (Nat × Value)} {st : List Value} {w : pm_H × Nat × Nat} {h : pm_H} {z : Nat × Nat}
theorem E_alr {x : Nat} (h1 : look pc = some (.inl (s_al i n))) (e : pm_get lv i = some (.retAddr x)) (k : Ends look call (n, lv, .retAddr x :: st, w) Q) : Ends look call (pc, lv, st, w) Q := E_st h1 (by simp only [s_al, e]) k
theorem E_sld {L j : Nat} {xs : Nat → Int32} (h1 : look pc = some (.inl (s_sld L xs n))) (hj : j < L) (hL : L ≤ 3072) (k : Ends look call (n, lv, .int (xs j) :: st, w) Q) : Ends look call (pc, lv, .int (nJ j) :: .retAddr 0 :: st, w) Q := by
  have h2 := nJ_toInt (n := j) (by omega)
  have h3 : pm_ix (nJ j) L = true := ai_ix (by omega) (by omega)
  have h4 : (nJ j).toNatClampNeg = j := by show (nJ j).toInt.toNat = j; omega
  refine E_st h1 ?_ k
  simp only [s_sld, h3, h4, cond_true]
theorem E_slen {L : Nat} (h1 : look pc = some (.inl (s_slen L n))) (hL : L ≤ 3072) (k : Ends look call (n, lv, .int (nJ L) :: st, w) Q) : Ends look call (pc, lv, .retAddr 0 :: st, w) Q := by
  have e : Int32.ofNat L = nJ L := by
    apply Int32.toInt_inj.mp
    rw [nJ_toInt (by omega), Int32.toInt_ofNat_of_lt (by omega)]
  refine E_st h1 ?_ k
  simp only [s_slen, e]
theorem E_lsh {op : Int64 → Int32 → Int64} {x : Int64} {y : Int32} (h1 : look pc = some (.inl (s_lsh op n))) (k : Ends look call (n, lv, .long (op x y) :: st, w) Q) : Ends look call (pc, lv, .int y :: .long x :: st, w) Q := E_st h1 rfl k
theorem E_pop2 {x : Value} (h1 : look pc = some (.inl (s_pop2 n))) (e : x.category = 2) (k : Ends look call (n, lv, st, w) Q) : Ends look call (pc, lv, x :: st, w) Q := E_st h1 (by simp only [s_pop2, e]; rfl) k
theorem E_tsw {lo hi : Int} {ts : List Nat} {dd : Nat} {x : Int32} (h1 : look pc = some (.inl (s_tsw lo hi ts dd))) (hz : (decide (x.toInt < lo) || decide (hi < x.toInt)) = false) (ht : ts[(x.toInt - lo).toNat]? = some t) (k : Ends look call (t, lv, st, w) Q) : Ends look call (pc, lv, .int x :: st, w) Q := E_st h1 (by simp only [s_tsw, hz, cond_false, ht]) k
theorem E_tswD {lo hi : Int} {ts : List Nat} {dd : Nat} {x : Int32} (h1 : look pc = some (.inl (s_tsw lo hi ts dd))) (hz : (decide (x.toInt < lo) || decide (hi < x.toInt)) = true) (k : Ends look call (dd, lv, st, w) Q) : Ends look call (pc, lv, .int x :: st, w) Q := E_st h1 (by simp only [s_tsw, hz, cond_true]) k
theorem chkR {a ci k : Nat} {fs : List AF} {as : List Value} (hh : HH h) (hc : hs0[a]? = some (.inr (.inr (.inr (ci, fs))))) (h9 : Nat.blt ci 100 = true) (hl : Nat.ble k st.length = true) (e : (st.take k).reverse = .ref a :: as) (hs : pm_sz (st.drop k) ≤ 8) : pm_chk k (some ci) 0 0 st (h, z) := by
  obtain ⟨x, hx, hg⟩ := hs_at hh hc
  match x, hx, hg with
  | .inr (cq, vs), hx, hg =>
    obtain ⟨rfl, -, -⟩ := hg
    refine ⟨Nat.le_of_ble_eq_true hl, fun q hq => ?_, hs, Nat.zero_le _, Nat.zero_le _⟩
    cases hq
    exact ⟨fun _ => ⟨a, vs, as, e, hx⟩, fun h7 => absurd (Nat.le_of_ble_eq_true h9) (Nat.not_lt.mpr h7)⟩
end ENDW
theorem nJ_inc6 (a : Nat) : nJ a + 6 = nJ (a + 6) := nJ_add a 6
set_option maxRecDepth 20000 in
theorem bl_0 {L : Nat} {xs : Nat → Int32} (hL : L ≤ 3072) {h : pm_H} {i : Nat} (hi : i + 6 ≤ L) (lv : List (Nat × Value)) (I : IVQ h) (L0 : pm_get lv 0 = some (.retAddr 0)) (L1 : pm_get lv 1 = some (.ref 0)) (L2 : pm_get lv 2 = some (.ref 77)) (L3 : pm_get lv 3 = some (.int (nJ i))) (K : ∀ h', IVQ h' → Ends (pm_tr (lb_all L xs)) (pm_Rt pm_P 100) (2392, lv, [], h', 599897, 7298671) RQ1) : Ends (pm_tr (lb_all L xs)) (pm_Rt pm_P 100) (376, lv, [], h, 599897, 7298671) RQ1 := by
  refine E_al rfl L1 ?_
  refine E_alr rfl L0 ?_
  refine E_il rfl L3 ?_
  refine E_ci 1 rfl ci1 ?_
  refine E_bin rfl (nJ_add _ _) ?_
  refine E_sld rfl (by omega) hL ?_
  refine E_alr rfl L0 ?_
  refine E_il rfl L3 ?_
  refine E_ci 2 rfl ci2 ?_
  refine E_bin rfl (nJ_add _ _) ?_
  refine E_sld rfl (by omega) hL ?_
  refine E_alr rfl L0 ?_
  refine E_il rfl L3 ?_
  refine E_ci 3 rfl ci3 ?_
  refine E_bin rfl (nJ_add _ _) ?_
  refine E_sld rfl (by omega) hL ?_
  refine E_alr rfl L0 ?_
  refine E_il rfl L3 ?_
  refine E_ci 4 rfl ci4 ?_
  refine E_bin rfl (nJ_add _ _) ?_
  refine E_sld rfl (by omega) hL ?_
  refine E_alr rfl L0 ?_
  refine E_il rfl L3 ?_
  refine E_ci 5 rfl ci5 ?_
  refine E_bin rfl (nJ_add _ _) ?_
  refine E_sld rfl (by omega) hL ?_
  refine E_call rfl (g8_feed I) (chkR (a := 0) I.1.1 rfl rfl rfl rfl (by show 0 ≤ 8; decide)) (fun h1 r1 => ?_)
  rintro ⟨I1, x1, f1, J1⟩
  rw [f1]
  show Ends _ _ (405, lv, [.int x1], h1, 599897, 7298671) _
  refine E_pop rfl rfl ?_
  refine E_al rfl L2 ?_
  refine E_alr rfl L0 ?_
  refine E_il rfl L3 ?_
  refine E_ci 1 rfl ci1 ?_
  refine E_bin rfl (nJ_add _ _) ?_
  refine E_sld rfl (by omega) hL ?_
  refine E_alr rfl L0 ?_
  refine E_il rfl L3 ?_
  refine E_ci 2 rfl ci2 ?_
  refine E_bin rfl (nJ_add _ _) ?_
  refine E_sld rfl (by omega) hL ?_
  refine E_alr rfl L0 ?_
  refine E_il rfl L3 ?_
  refine E_ci 3 rfl ci3 ?_
  refine E_bin rfl (nJ_add _ _) ?_
  refine E_sld rfl (by omega) hL ?_
  refine E_alr rfl L0 ?_
  refine E_il rfl L3 ?_
  refine E_ci 4 rfl ci4 ?_
  refine E_bin rfl (nJ_add _ _) ?_
  refine E_sld rfl (by omega) hL ?_
  refine E_alr rfl L0 ?_
  refine E_il rfl L3 ?_
  refine E_ci 5 rfl ci5 ?_
  refine E_bin rfl (nJ_add _ _) ?_
  refine E_sld rfl (by omega) hL ?_
  refine E_call rfl (g9_feed I1 J1) (chkR (a := 77) I1.1 rfl rfl rfl rfl (by show 0 ≤ 8; decide)) (fun h2 r2 => ?_)
  rintro ⟨I2, f2⟩
  rw [f2]
  show Ends _ _ (435, lv, [.int x1], h2, 599897, 7298671) _
  refine E_pop rfl rfl ?_
  refine E_goto rfl ?_
  exact K _ I2
set_option maxRecDepth 20000 in
theorem bl_1 {L : Nat} {xs : Nat → Int32} (hL : L ≤ 3072) {h : pm_H} {i : Nat} (hi : i + 6 ≤ L) (lv : List (Nat × Value)) (I : IVQ h) (L0 : pm_get lv 0 = some (.retAddr 0)) (L1 : pm_get lv 1 = some (.ref 0)) (L2 : pm_get lv 2 = some (.ref 77)) (L3 : pm_get lv 3 = some (.int (nJ i))) (K : ∀ h', IVQ h' → Ends (pm_tr (lb_all L xs)) (pm_Rt pm_P 100) (2392, lv, [], h', 599897, 7298671) RQ1) : Ends (pm_tr (lb_all L xs)) (pm_Rt pm_P 100) (439, lv, [], h, 599897, 7298671) RQ1 := by
  refine E_al rfl L1 ?_
  refine E_alr rfl L0 ?_
  refine E_il rfl L3 ?_
  refine E_ci 1 rfl ci1 ?_
  refine E_bin rfl (nJ_add _ _) ?_
  refine E_sld rfl (by omega) hL ?_
  refine E_call rfl (g8_end I) (chkR (a := 0) I.1.1 rfl rfl rfl rfl (by show 0 ≤ 8; decide)) (fun h1 r1 => ?_)
  rintro ⟨I1, x1, f1, J1⟩
  rw [f1]
  show Ends _ _ (448, lv, [.int x1], h1, 599897, 7298671) _
  refine E_pop rfl rfl ?_
  refine E_al rfl L2 ?_
  refine E_alr rfl L0 ?_
  refine E_il rfl L3 ?_
  refine E_ci 1 rfl ci1 ?_
  refine E_bin rfl (nJ_add _ _) ?_
  refine E_sld rfl (by omega) hL ?_
  refine E_call rfl (g9_end I1 J1) (chkR (a := 77) I1.1 rfl rfl rfl rfl (by show 0 ≤ 8; decide)) (fun h2 r2 => ?_)
  rintro ⟨I2, f2⟩
  rw [f2]
  show Ends _ _ (458, lv, [.int x1], h2, 599897, 7298671) _
  refine E_pop rfl rfl ?_
  refine E_goto rfl ?_
  exact K _ I2
set_option maxRecDepth 20000 in
theorem bl_2 {L : Nat} {xs : Nat → Int32} (hL : L ≤ 3072) {h : pm_H} {i : Nat} (hi : i + 6 ≤ L) (lv : List (Nat × Value)) (I : IVQ h) (L0 : pm_get lv 0 = some (.retAddr 0)) (L1 : pm_get lv 1 = some (.ref 0)) (L2 : pm_get lv 2 = some (.ref 77)) (L3 : pm_get lv 3 = some (.int (nJ i))) (K : ∀ h', IVQ h' → Ends (pm_tr (lb_all L xs)) (pm_Rt pm_P 100) (2392, lv, [], h', 599897, 7298671) RQ1) : Ends (pm_tr (lb_all L xs)) (pm_Rt pm_P 100) (462, lv, [], h, 599897, 7298671) RQ1 := by
  refine E_al rfl L1 ?_
  refine E_call rfl (g8_street I) (chkR (a := 0) I.1.1 rfl rfl rfl rfl (by show 0 ≤ 8; decide)) (fun h1 r1 => ?_)
  rintro ⟨I1, x1, f1, J1⟩
  rw [f1]
  show Ends _ _ (466, lv, [.int x1], h1, 599897, 7298671) _
  refine E_pop rfl rfl ?_
  refine E_al rfl L2 ?_
  refine E_call rfl (g9_street I1 J1) (chkR (a := 77) I1.1 rfl rfl rfl rfl (by show 0 ≤ 8; decide)) (fun h2 r2 => ?_)
  rintro ⟨I2, f2⟩
  rw [f2]
  show Ends _ _ (471, lv, [.int x1], h2, 599897, 7298671) _
  refine E_pop rfl rfl ?_
  refine E_goto rfl ?_
  exact K _ I2
set_option maxRecDepth 20000 in
theorem bl_3 {L : Nat} {xs : Nat → Int32} (hL : L ≤ 3072) {h : pm_H} {i : Nat} (hi : i + 6 ≤ L) (lv : List (Nat × Value)) (I : IVQ h) (L0 : pm_get lv 0 = some (.retAddr 0)) (L1 : pm_get lv 1 = some (.ref 0)) (L2 : pm_get lv 2 = some (.ref 77)) (L3 : pm_get lv 3 = some (.int (nJ i))) (K : ∀ h', IVQ h' → Ends (pm_tr (lb_all L xs)) (pm_Rt pm_P 100) (2392, lv, [], h', 599897, 7298671) RQ1) : Ends (pm_tr (lb_all L xs)) (pm_Rt pm_P 100) (475, lv, [], h, 599897, 7298671) RQ1 := by
  refine E_al rfl L1 ?_
  refine E_alr rfl L0 ?_
  refine E_il rfl L3 ?_
  refine E_ci 1 rfl ci1 ?_
  refine E_bin rfl (nJ_add _ _) ?_
  refine E_sld rfl (by omega) hL ?_
  refine E_call rfl (tQ_int (by decide +kernel) (by decide +kernel) I.2 (top_int (as := [.ref 0, .int (xs ((i + 1)))]) q107 (by decide +kernel) (by decide +kernel) I.1 ⟨rfl, aI _, trivial⟩)) (chkR (a := 0) I.1.1 rfl rfl rfl rfl (by show 0 ≤ 8; decide)) (fun h1 r1 => ?_)
  rintro ⟨I1, x1, f1⟩
  rw [f1]
  show Ends _ _ (484, lv, [.int x1], h1, 599897, 7298671) _
  refine E_pop rfl rfl ?_
  refine E_al rfl L2 ?_
  refine E_alr rfl L0 ?_
  refine E_il rfl L3 ?_
  refine E_ci 1 rfl ci1 ?_
  refine E_bin rfl (nJ_add _ _) ?_
  refine E_sld rfl (by omega) hL ?_
  refine E_call rfl (tQ_int (by decide +kernel) (by decide +kernel) I1.2 (top_int (as := [.ref 77, .int (xs ((i + 1)))]) q108 (by decide +kernel) (by decide +kernel) I1.1 ⟨rfl, aI _, trivial⟩)) (chkR (a := 77) I1.1.1 rfl rfl rfl rfl (by show 0 ≤ 8; decide)) (fun h2 r2 => ?_)
  rintro ⟨I2, x2, f2⟩
  rw [f2]
  show Ends _ _ (494, lv, [.int x2], h2, 599897, 7298671) _
  refine E_pop rfl rfl ?_
  refine E_goto rfl ?_
  exact K _ I2
set_option maxRecDepth 20000 in
theorem bl_4 {L : Nat} {xs : Nat → Int32} (hL : L ≤ 3072) {h : pm_H} {i : Nat} (hi : i + 6 ≤ L) (lv : List (Nat × Value)) (I : IVQ h) (L0 : pm_get lv 0 = some (.retAddr 0)) (L1 : pm_get lv 1 = some (.ref 0)) (L2 : pm_get lv 2 = some (.ref 77)) (L3 : pm_get lv 3 = some (.int (nJ i))) (K : ∀ h', IVQ h' → Ends (pm_tr (lb_all L xs)) (pm_Rt pm_P 100) (2392, lv, [], h', 599897, 7298671) RQ1) : Ends (pm_tr (lb_all L xs)) (pm_Rt pm_P 100) (498, lv, [], h, 599897, 7298671) RQ1 := by
  refine E_al rfl L1 ?_
  refine E_alr rfl L0 ?_
  refine E_il rfl L3 ?_
  refine E_ci 1 rfl ci1 ?_
  refine E_bin rfl (nJ_add _ _) ?_
  refine E_sld rfl (by omega) hL ?_
  refine E_alr rfl L0 ?_
  refine E_il rfl L3 ?_
  refine E_ci 2 rfl ci2 ?_
  refine E_bin rfl (nJ_add _ _) ?_
  refine E_sld rfl (by omega) hL ?_
  refine E_call rfl (tQ_int (by decide +kernel) (by decide +kernel) I.2 (top_int (as := [.ref 0, .int (xs ((i + 1))), .int (xs ((i + 2)))]) q111 (by decide +kernel) (by decide +kernel) I.1 ⟨rfl, aI _, aI _, trivial⟩)) (chkR (a := 0) I.1.1 rfl rfl rfl rfl (by show 0 ≤ 8; decide)) (fun h1 r1 => ?_)
  rintro ⟨I1, x1, f1⟩
  rw [f1]
  show Ends _ _ (512, lv, [.int x1], h1, 599897, 7298671) _
  refine E_pop rfl rfl ?_
  refine E_al rfl L2 ?_
  refine E_alr rfl L0 ?_
  refine E_il rfl L3 ?_
  refine E_ci 1 rfl ci1 ?_
  refine E_bin rfl (nJ_add _ _) ?_
  refine E_sld rfl (by omega) hL ?_
  refine E_alr rfl L0 ?_
  refine E_il rfl L3 ?_
  refine E_ci 2 rfl ci2 ?_
  refine E_bin rfl (nJ_add _ _) ?_
  refine E_sld rfl (by omega) hL ?_
  refine E_call rfl (tQ_int (by decide +kernel) (by decide +kernel) I1.2 (top_int (as := [.ref 77, .int (xs ((i + 1))), .int (xs ((i + 2)))]) q119 (by decide +kernel) (by decide +kernel) I1.1 ⟨rfl, aI _, aI _, trivial⟩)) (chkR (a := 77) I1.1.1 rfl rfl rfl rfl (by show 0 ≤ 8; decide)) (fun h2 r2 => ?_)
  rintro ⟨I2, x2, f2⟩
  rw [f2]
  show Ends _ _ (527, lv, [.int x2], h2, 599897, 7298671) _
  refine E_pop rfl rfl ?_
  refine E_goto rfl ?_
  exact K _ I2
set_option maxRecDepth 20000 in
theorem bl_5 {L : Nat} {xs : Nat → Int32} (hL : L ≤ 3072) {h : pm_H} {i : Nat} (hi : i + 6 ≤ L) (lv : List (Nat × Value)) (I : IVQ h) (L0 : pm_get lv 0 = some (.retAddr 0)) (L1 : pm_get lv 1 = some (.ref 0)) (L2 : pm_get lv 2 = some (.ref 77)) (L3 : pm_get lv 3 = some (.int (nJ i))) (K : ∀ h', IVQ h' → Ends (pm_tr (lb_all L xs)) (pm_Rt pm_P 100) (2392, lv, [], h', 599897, 7298671) RQ1) : Ends (pm_tr (lb_all L xs)) (pm_Rt pm_P 100) (531, lv, [], h, 599897, 7298671) RQ1 := by
  refine E_al rfl L1 ?_
  refine E_alr rfl L0 ?_
  refine E_il rfl L3 ?_
  refine E_ci 1 rfl ci1 ?_
  refine E_bin rfl (nJ_add _ _) ?_
  refine E_sld rfl (by omega) hL ?_
  refine E_call rfl (tQ_int (by decide +kernel) (by decide +kernel) I.2 (top_int (as := [.ref 0, .int (xs ((i + 1)))]) q138 (by decide +kernel) (by decide +kernel) I.1 ⟨rfl, aI _, trivial⟩)) (chkR (a := 0) I.1.1 rfl rfl rfl rfl (by show 0 ≤ 8; decide)) (fun h1 r1 => ?_)
  rintro ⟨I1, x1, f1⟩
  rw [f1]
  show Ends _ _ (540, lv, [.int x1], h1, 599897, 7298671) _
  refine E_pop rfl rfl ?_
  refine E_al rfl L2 ?_
  refine E_alr rfl L0 ?_
  refine E_il rfl L3 ?_
  refine E_ci 1 rfl ci1 ?_
  refine E_bin rfl (nJ_add _ _) ?_
  refine E_sld rfl (by omega) hL ?_
  refine E_call rfl (tQ_int (by decide +kernel) (by decide +kernel) I1.2 (top_int (as := [.ref 77, .int (xs ((i + 1)))]) q151 (by decide +kernel) (by decide +kernel) I1.1 ⟨rfl, aI _, trivial⟩)) (chkR (a := 77) I1.1.1 rfl rfl rfl rfl (by show 0 ≤ 8; decide)) (fun h2 r2 => ?_)
  rintro ⟨I2, x2, f2⟩
  rw [f2]
  show Ends _ _ (550, lv, [.int x2], h2, 599897, 7298671) _
  refine E_pop rfl rfl ?_
  refine E_goto rfl ?_
  exact K _ I2
set_option maxRecDepth 20000 in
theorem bl_6 {L : Nat} {xs : Nat → Int32} (hL : L ≤ 3072) {h : pm_H} {i : Nat} (hi : i + 6 ≤ L) (lv : List (Nat × Value)) (I : IVQ h) (L0 : pm_get lv 0 = some (.retAddr 0)) (L1 : pm_get lv 1 = some (.ref 0)) (L2 : pm_get lv 2 = some (.ref 77)) (L3 : pm_get lv 3 = some (.int (nJ i))) (K : ∀ h', IVQ h' → Ends (pm_tr (lb_all L xs)) (pm_Rt pm_P 100) (2392, lv, [], h', 599897, 7298671) RQ1) : Ends (pm_tr (lb_all L xs)) (pm_Rt pm_P 100) (554, lv, [], h, 599897, 7298671) RQ1 := by
  refine E_al rfl L1 ?_
  refine E_alr rfl L0 ?_
  refine E_il rfl L3 ?_
  refine E_ci 1 rfl ci1 ?_
  refine E_bin rfl (nJ_add _ _) ?_
  refine E_sld rfl (by omega) hL ?_
  refine E_call rfl (tQ_int (by decide +kernel) (by decide +kernel) I.2 (top_int (as := [.ref 0, .int (xs ((i + 1)))]) q154 (by decide +kernel) (by decide +kernel) I.1 ⟨rfl, aI _, trivial⟩)) (chkR (a := 0) I.1.1 rfl rfl rfl rfl (by show 0 ≤ 8; decide)) (fun h1 r1 => ?_)
  rintro ⟨I1, x1, f1⟩
  rw [f1]
  show Ends _ _ (563, lv, [.int x1], h1, 599897, 7298671) _
  refine E_pop rfl rfl ?_
  refine E_al rfl L2 ?_
  refine E_alr rfl L0 ?_
  refine E_il rfl L3 ?_
  refine E_ci 1 rfl ci1 ?_
  refine E_bin rfl (nJ_add _ _) ?_
  refine E_sld rfl (by omega) hL ?_
  refine E_call rfl (tQ_int (by decide +kernel) (by decide +kernel) I1.2 (top_int (as := [.ref 77, .int (xs ((i + 1)))]) q157 (by decide +kernel) (by decide +kernel) I1.1 ⟨rfl, aI _, trivial⟩)) (chkR (a := 77) I1.1.1 rfl rfl rfl rfl (by show 0 ≤ 8; decide)) (fun h2 r2 => ?_)
  rintro ⟨I2, x2, f2⟩
  rw [f2]
  show Ends _ _ (573, lv, [.int x2], h2, 599897, 7298671) _
  refine E_pop rfl rfl ?_
  refine E_goto rfl ?_
  exact K _ I2
set_option maxRecDepth 20000 in
theorem bl_7 {L : Nat} {xs : Nat → Int32} (hL : L ≤ 3072) {h : pm_H} {i : Nat} (hi : i + 6 ≤ L) (lv : List (Nat × Value)) (I : IVQ h) (L0 : pm_get lv 0 = some (.retAddr 0)) (L1 : pm_get lv 1 = some (.ref 0)) (L2 : pm_get lv 2 = some (.ref 77)) (L3 : pm_get lv 3 = some (.int (nJ i))) (K : ∀ h', IVQ h' → Ends (pm_tr (lb_all L xs)) (pm_Rt pm_P 100) (2392, lv, [], h', 599897, 7298671) RQ1) : Ends (pm_tr (lb_all L xs)) (pm_Rt pm_P 100) (577, lv, [], h, 599897, 7298671) RQ1 := by
  refine E_al rfl L1 ?_
  refine E_call rfl (tQ_int (by decide +kernel) (by decide +kernel) I.2 (top_int (as := [.ref 0]) q159 (by decide +kernel) (by decide +kernel) I.1 ⟨rfl, trivial⟩)) (chkR (a := 0) I.1.1 rfl rfl rfl rfl (by show 0 ≤ 8; decide)) (fun h1 r1 => ?_)
  rintro ⟨I1, x1, f1⟩
  rw [f1]
  show Ends _ _ (581, lv, [.int x1], h1, 599897, 7298671) _
  refine E_pop rfl rfl ?_
  refine E_al rfl L2 ?_
  refine E_call rfl (tQ_int (by decide +kernel) (by decide +kernel) I1.2 (top_int (as := [.ref 77]) q161 (by decide +kernel) (by decide +kernel) I1.1 ⟨rfl, trivial⟩)) (chkR (a := 77) I1.1.1 rfl rfl rfl rfl (by show 0 ≤ 8; decide)) (fun h2 r2 => ?_)
  rintro ⟨I2, x2, f2⟩
  rw [f2]
  show Ends _ _ (586, lv, [.int x2], h2, 599897, 7298671) _
  refine E_pop rfl rfl ?_
  refine E_goto rfl ?_
  exact K _ I2
set_option maxRecDepth 20000 in
theorem bl_8 {L : Nat} {xs : Nat → Int32} (hL : L ≤ 3072) {h : pm_H} {i : Nat} (hi : i + 6 ≤ L) (lv : List (Nat × Value)) (I : IVQ h) (L0 : pm_get lv 0 = some (.retAddr 0)) (L1 : pm_get lv 1 = some (.ref 0)) (L2 : pm_get lv 2 = some (.ref 77)) (L3 : pm_get lv 3 = some (.int (nJ i))) (K : ∀ h', IVQ h' → Ends (pm_tr (lb_all L xs)) (pm_Rt pm_P 100) (2392, lv, [], h', 599897, 7298671) RQ1) : Ends (pm_tr (lb_all L xs)) (pm_Rt pm_P 100) (590, lv, [], h, 599897, 7298671) RQ1 := by
  refine E_al rfl L1 ?_
  refine E_call rfl (tQ_int (by decide +kernel) (by decide +kernel) I.2 (top_int (as := [.ref 0]) q162 (by decide +kernel) (by decide +kernel) I.1 ⟨rfl, trivial⟩)) (chkR (a := 0) I.1.1 rfl rfl rfl rfl (by show 0 ≤ 8; decide)) (fun h1 r1 => ?_)
  rintro ⟨I1, x1, f1⟩
  rw [f1]
  show Ends _ _ (594, lv, [.int x1], h1, 599897, 7298671) _
  refine E_pop rfl rfl ?_
  refine E_al rfl L2 ?_
  refine E_call rfl (tQ_int (by decide +kernel) (by decide +kernel) I1.2 (top_int (as := [.ref 77]) q163 (by decide +kernel) (by decide +kernel) I1.1 ⟨rfl, trivial⟩)) (chkR (a := 77) I1.1.1 rfl rfl rfl rfl (by show 0 ≤ 8; decide)) (fun h2 r2 => ?_)
  rintro ⟨I2, x2, f2⟩
  rw [f2]
  show Ends _ _ (599, lv, [.int x2], h2, 599897, 7298671) _
  refine E_pop rfl rfl ?_
  refine E_goto rfl ?_
  exact K _ I2
set_option maxRecDepth 20000 in
theorem bl_9 {L : Nat} {xs : Nat → Int32} (hL : L ≤ 3072) {h : pm_H} {i : Nat} (hi : i + 6 ≤ L) (lv : List (Nat × Value)) (I : IVQ h) (L0 : pm_get lv 0 = some (.retAddr 0)) (L1 : pm_get lv 1 = some (.ref 0)) (L2 : pm_get lv 2 = some (.ref 77)) (L3 : pm_get lv 3 = some (.int (nJ i))) (K : ∀ h', IVQ h' → Ends (pm_tr (lb_all L xs)) (pm_Rt pm_P 100) (2392, lv, [], h', 599897, 7298671) RQ1) : Ends (pm_tr (lb_all L xs)) (pm_Rt pm_P 100) (603, lv, [], h, 599897, 7298671) RQ1 := by
  refine E_al rfl L1 ?_
  refine E_alr rfl L0 ?_
  refine E_il rfl L3 ?_
  refine E_ci 1 rfl ci1 ?_
  refine E_bin rfl (nJ_add _ _) ?_
  refine E_sld rfl (by omega) hL ?_
  refine E_call rfl (tQ_int (by decide +kernel) (by decide +kernel) I.2 (top_int (as := [.ref 0, .int (xs ((i + 1)))]) q165 (by decide +kernel) (by decide +kernel) I.1 ⟨rfl, aI _, trivial⟩)) (chkR (a := 0) I.1.1 rfl rfl rfl rfl (by show 0 ≤ 8; decide)) (fun h1 r1 => ?_)
  rintro ⟨I1, x1, f1⟩
  rw [f1]
  show Ends _ _ (612, lv, [.int x1], h1, 599897, 7298671) _
  refine E_pop rfl rfl ?_
  refine E_al rfl L2 ?_
  refine E_alr rfl L0 ?_
  refine E_il rfl L3 ?_
  refine E_ci 1 rfl ci1 ?_
  refine E_bin rfl (nJ_add _ _) ?_
  refine E_sld rfl (by omega) hL ?_
  refine E_call rfl (tQ_int (by decide +kernel) (by decide +kernel) I1.2 (top_int (as := [.ref 77, .int (xs ((i + 1)))]) q168 (by decide +kernel) (by decide +kernel) I1.1 ⟨rfl, aI _, trivial⟩)) (chkR (a := 77) I1.1.1 rfl rfl rfl rfl (by show 0 ≤ 8; decide)) (fun h2 r2 => ?_)
  rintro ⟨I2, x2, f2⟩
  rw [f2]
  show Ends _ _ (622, lv, [.int x2], h2, 599897, 7298671) _
  refine E_pop rfl rfl ?_
  refine E_goto rfl ?_
  exact K _ I2
set_option maxRecDepth 20000 in
theorem bl_10 {L : Nat} {xs : Nat → Int32} (hL : L ≤ 3072) {h : pm_H} {i : Nat} (hi : i + 6 ≤ L) (lv : List (Nat × Value)) (I : IVQ h) (L0 : pm_get lv 0 = some (.retAddr 0)) (L1 : pm_get lv 1 = some (.ref 0)) (L2 : pm_get lv 2 = some (.ref 77)) (L3 : pm_get lv 3 = some (.int (nJ i))) (K : ∀ h', IVQ h' → Ends (pm_tr (lb_all L xs)) (pm_Rt pm_P 100) (2392, lv, [], h', 599897, 7298671) RQ1) : Ends (pm_tr (lb_all L xs)) (pm_Rt pm_P 100) (626, lv, [], h, 599897, 7298671) RQ1 := by
  refine E_al rfl L1 ?_
  refine E_call rfl (tQ_int (by decide +kernel) (by decide +kernel) I.2 (top_int (as := [.ref 0]) q169 (by decide +kernel) (by decide +kernel) I.1 ⟨rfl, trivial⟩)) (chkR (a := 0) I.1.1 rfl rfl rfl rfl (by show 0 ≤ 8; decide)) (fun h1 r1 => ?_)
  rintro ⟨I1, x1, f1⟩
  rw [f1]
  show Ends _ _ (630, lv, [.int x1], h1, 599897, 7298671) _
  refine E_pop rfl rfl ?_
  refine E_al rfl L2 ?_
  refine E_call rfl (tQ_int (by decide +kernel) (by decide +kernel) I1.2 (top_int (as := [.ref 77]) q170 (by decide +kernel) (by decide +kernel) I1.1 ⟨rfl, trivial⟩)) (chkR (a := 77) I1.1.1 rfl rfl rfl rfl (by show 0 ≤ 8; decide)) (fun h2 r2 => ?_)
  rintro ⟨I2, x2, f2⟩
  rw [f2]
  show Ends _ _ (635, lv, [.int x2], h2, 599897, 7298671) _
  refine E_pop rfl rfl ?_
  refine E_goto rfl ?_
  exact K _ I2
set_option maxRecDepth 20000 in
theorem bl_11 {L : Nat} {xs : Nat → Int32} (hL : L ≤ 3072) {h : pm_H} {i : Nat} (hi : i + 6 ≤ L) (lv : List (Nat × Value)) (I : IVQ h) (L0 : pm_get lv 0 = some (.retAddr 0)) (L1 : pm_get lv 1 = some (.ref 0)) (L2 : pm_get lv 2 = some (.ref 77)) (L3 : pm_get lv 3 = some (.int (nJ i))) (K : ∀ h', IVQ h' → Ends (pm_tr (lb_all L xs)) (pm_Rt pm_P 100) (2392, lv, [], h', 599897, 7298671) RQ1) : Ends (pm_tr (lb_all L xs)) (pm_Rt pm_P 100) (639, lv, [], h, 599897, 7298671) RQ1 := by
  refine E_al rfl L1 ?_
  refine E_call rfl (tQ_int (by decide +kernel) (by decide +kernel) I.2 (top_int (as := [.ref 0]) q171 (by decide +kernel) (by decide +kernel) I.1 ⟨rfl, trivial⟩)) (chkR (a := 0) I.1.1 rfl rfl rfl rfl (by show 0 ≤ 8; decide)) (fun h1 r1 => ?_)
  rintro ⟨I1, x1, f1⟩
  rw [f1]
  show Ends _ _ (643, lv, [.int x1], h1, 599897, 7298671) _
  refine E_pop rfl rfl ?_
  refine E_al rfl L2 ?_
  refine E_call rfl (tQ_int (by decide +kernel) (by decide +kernel) I1.2 (top_int (as := [.ref 77]) q173 (by decide +kernel) (by decide +kernel) I1.1 ⟨rfl, trivial⟩)) (chkR (a := 77) I1.1.1 rfl rfl rfl rfl (by show 0 ≤ 8; decide)) (fun h2 r2 => ?_)
  rintro ⟨I2, x2, f2⟩
  rw [f2]
  show Ends _ _ (648, lv, [.int x2], h2, 599897, 7298671) _
  refine E_pop rfl rfl ?_
  refine E_goto rfl ?_
  exact K _ I2
set_option maxRecDepth 20000 in
theorem bl_12 {L : Nat} {xs : Nat → Int32} (hL : L ≤ 3072) {h : pm_H} {i : Nat} (hi : i + 6 ≤ L) (lv : List (Nat × Value)) (I : IVQ h) (L0 : pm_get lv 0 = some (.retAddr 0)) (L1 : pm_get lv 1 = some (.ref 0)) (L2 : pm_get lv 2 = some (.ref 77)) (L3 : pm_get lv 3 = some (.int (nJ i))) (K : ∀ h', IVQ h' → Ends (pm_tr (lb_all L xs)) (pm_Rt pm_P 100) (2392, lv, [], h', 599897, 7298671) RQ1) : Ends (pm_tr (lb_all L xs)) (pm_Rt pm_P 100) (652, lv, [], h, 599897, 7298671) RQ1 := by
  refine E_al rfl L1 ?_
  refine E_call rfl (tQ_int (by decide +kernel) (by decide +kernel) I.2 (top_int (as := [.ref 0]) q174 (by decide +kernel) (by decide +kernel) I.1 ⟨rfl, trivial⟩)) (chkR (a := 0) I.1.1 rfl rfl rfl rfl (by show 0 ≤ 8; decide)) (fun h1 r1 => ?_)
  rintro ⟨I1, x1, f1⟩
  rw [f1]
  show Ends _ _ (656, lv, [.int x1], h1, 599897, 7298671) _
  refine E_pop rfl rfl ?_
  refine E_al rfl L2 ?_
  refine E_call rfl (tQ_int (by decide +kernel) (by decide +kernel) I1.2 (top_int (as := [.ref 77]) q175 (by decide +kernel) (by decide +kernel) I1.1 ⟨rfl, trivial⟩)) (chkR (a := 77) I1.1.1 rfl rfl rfl rfl (by show 0 ≤ 8; decide)) (fun h2 r2 => ?_)
  rintro ⟨I2, x2, f2⟩
  rw [f2]
  show Ends _ _ (661, lv, [.int x2], h2, 599897, 7298671) _
  refine E_pop rfl rfl ?_
  refine E_goto rfl ?_
  exact K _ I2
set_option maxRecDepth 20000 in
theorem bl_13 {L : Nat} {xs : Nat → Int32} (hL : L ≤ 3072) {h : pm_H} {i : Nat} (hi : i + 6 ≤ L) (lv : List (Nat × Value)) (I : IVQ h) (L0 : pm_get lv 0 = some (.retAddr 0)) (L1 : pm_get lv 1 = some (.ref 0)) (L2 : pm_get lv 2 = some (.ref 77)) (L3 : pm_get lv 3 = some (.int (nJ i))) (K : ∀ h', IVQ h' → Ends (pm_tr (lb_all L xs)) (pm_Rt pm_P 100) (2392, lv, [], h', 599897, 7298671) RQ1) : Ends (pm_tr (lb_all L xs)) (pm_Rt pm_P 100) (665, lv, [], h, 599897, 7298671) RQ1 := by
  refine E_al rfl L1 ?_
  refine E_call rfl (tQ_int (by decide +kernel) (by decide +kernel) I.2 (top_int (as := [.ref 0]) q177 (by decide +kernel) (by decide +kernel) I.1 ⟨rfl, trivial⟩)) (chkR (a := 0) I.1.1 rfl rfl rfl rfl (by show 0 ≤ 8; decide)) (fun h1 r1 => ?_)
  rintro ⟨I1, x1, f1⟩
  rw [f1]
  show Ends _ _ (669, lv, [.int x1], h1, 599897, 7298671) _
  refine E_pop rfl rfl ?_
  refine E_al rfl L2 ?_
  refine E_call rfl (tQ_int (by decide +kernel) (by decide +kernel) I1.2 (top_int (as := [.ref 77]) q178 (by decide +kernel) (by decide +kernel) I1.1 ⟨rfl, trivial⟩)) (chkR (a := 77) I1.1.1 rfl rfl rfl rfl (by show 0 ≤ 8; decide)) (fun h2 r2 => ?_)
  rintro ⟨I2, x2, f2⟩
  rw [f2]
  show Ends _ _ (674, lv, [.int x2], h2, 599897, 7298671) _
  refine E_pop rfl rfl ?_
  refine E_goto rfl ?_
  exact K _ I2
set_option maxRecDepth 20000 in
theorem bl_14 {L : Nat} {xs : Nat → Int32} (hL : L ≤ 3072) {h : pm_H} {i : Nat} (hi : i + 6 ≤ L) (lv : List (Nat × Value)) (I : IVQ h) (L0 : pm_get lv 0 = some (.retAddr 0)) (L1 : pm_get lv 1 = some (.ref 0)) (L2 : pm_get lv 2 = some (.ref 77)) (L3 : pm_get lv 3 = some (.int (nJ i))) (K : ∀ h', IVQ h' → Ends (pm_tr (lb_all L xs)) (pm_Rt pm_P 100) (2392, lv, [], h', 599897, 7298671) RQ1) : Ends (pm_tr (lb_all L xs)) (pm_Rt pm_P 100) (678, lv, [], h, 599897, 7298671) RQ1 := by
  refine E_al rfl L1 ?_
  refine E_alr rfl L0 ?_
  refine E_il rfl L3 ?_
  refine E_ci 1 rfl ci1 ?_
  refine E_bin rfl (nJ_add _ _) ?_
  refine E_sld rfl (by omega) hL ?_
  refine E_call rfl (tQ_int (by decide +kernel) (by decide +kernel) I.2 (top_int (as := [.ref 0, .int (xs ((i + 1)))]) q180 (by decide +kernel) (by decide +kernel) I.1 ⟨rfl, aI _, trivial⟩)) (chkR (a := 0) I.1.1 rfl rfl rfl rfl (by show 0 ≤ 8; decide)) (fun h1 r1 => ?_)
  rintro ⟨I1, x1, f1⟩
  rw [f1]
  show Ends _ _ (687, lv, [.int x1], h1, 599897, 7298671) _
  refine E_pop rfl rfl ?_
  refine E_al rfl L2 ?_
  refine E_alr rfl L0 ?_
  refine E_il rfl L3 ?_
  refine E_ci 1 rfl ci1 ?_
  refine E_bin rfl (nJ_add _ _) ?_
  refine E_sld rfl (by omega) hL ?_
  refine E_call rfl (tQ_int (by decide +kernel) (by decide +kernel) I1.2 (top_int (as := [.ref 77, .int (xs ((i + 1)))]) q245 (by decide +kernel) (by decide +kernel) I1.1 ⟨rfl, aI _, trivial⟩)) (chkR (a := 77) I1.1.1 rfl rfl rfl rfl (by show 0 ≤ 8; decide)) (fun h2 r2 => ?_)
  rintro ⟨I2, x2, f2⟩
  rw [f2]
  show Ends _ _ (697, lv, [.int x2], h2, 599897, 7298671) _
  refine E_pop rfl rfl ?_
  refine E_goto rfl ?_
  exact K _ I2
set_option maxRecDepth 20000 in
theorem bl_15 {L : Nat} {xs : Nat → Int32} (hL : L ≤ 3072) {h : pm_H} {i : Nat} (hi : i + 6 ≤ L) (lv : List (Nat × Value)) (I : IVQ h) (L0 : pm_get lv 0 = some (.retAddr 0)) (L1 : pm_get lv 1 = some (.ref 0)) (L2 : pm_get lv 2 = some (.ref 77)) (L3 : pm_get lv 3 = some (.int (nJ i))) (K : ∀ h', IVQ h' → Ends (pm_tr (lb_all L xs)) (pm_Rt pm_P 100) (2392, lv, [], h', 599897, 7298671) RQ1) : Ends (pm_tr (lb_all L xs)) (pm_Rt pm_P 100) (701, lv, [], h, 599897, 7298671) RQ1 := by
  refine E_al rfl L1 ?_
  refine E_call rfl (tQ_int (by decide +kernel) (by decide +kernel) I.2 (top_int (as := [.ref 0]) q247 (by decide +kernel) (by decide +kernel) I.1 ⟨rfl, trivial⟩)) (chkR (a := 0) I.1.1 rfl rfl rfl rfl (by show 0 ≤ 8; decide)) (fun h1 r1 => ?_)
  rintro ⟨I1, x1, f1⟩
  rw [f1]
  show Ends _ _ (705, lv, [.int x1], h1, 599897, 7298671) _
  refine E_pop rfl rfl ?_
  refine E_al rfl L2 ?_
  refine E_call rfl (tQ_int (by decide +kernel) (by decide +kernel) I1.2 (top_int (as := [.ref 77]) q250 (by decide +kernel) (by decide +kernel) I1.1 ⟨rfl, trivial⟩)) (chkR (a := 77) I1.1.1 rfl rfl rfl rfl (by show 0 ≤ 8; decide)) (fun h2 r2 => ?_)
  rintro ⟨I2, x2, f2⟩
  rw [f2]
  show Ends _ _ (710, lv, [.int x2], h2, 599897, 7298671) _
  refine E_pop rfl rfl ?_
  refine E_goto rfl ?_
  exact K _ I2
set_option maxRecDepth 20000 in
theorem bl_16 {L : Nat} {xs : Nat → Int32} (hL : L ≤ 3072) {h : pm_H} {i : Nat} (hi : i + 6 ≤ L) (lv : List (Nat × Value)) (I : IVQ h) (L0 : pm_get lv 0 = some (.retAddr 0)) (L1 : pm_get lv 1 = some (.ref 0)) (L2 : pm_get lv 2 = some (.ref 77)) (L3 : pm_get lv 3 = some (.int (nJ i))) (K : ∀ h', IVQ h' → Ends (pm_tr (lb_all L xs)) (pm_Rt pm_P 100) (2392, lv, [], h', 599897, 7298671) RQ1) : Ends (pm_tr (lb_all L xs)) (pm_Rt pm_P 100) (714, lv, [], h, 599897, 7298671) RQ1 := by
  refine E_al rfl L1 ?_
  refine E_call rfl (tQ_int (by decide +kernel) (by decide +kernel) I.2 (top_int (as := [.ref 0]) q252 (by decide +kernel) (by decide +kernel) I.1 ⟨rfl, trivial⟩)) (chkR (a := 0) I.1.1 rfl rfl rfl rfl (by show 0 ≤ 8; decide)) (fun h1 r1 => ?_)
  rintro ⟨I1, x1, f1⟩
  rw [f1]
  show Ends _ _ (718, lv, [.int x1], h1, 599897, 7298671) _
  refine E_pop rfl rfl ?_
  refine E_al rfl L2 ?_
  refine E_call rfl (tQ_int (by decide +kernel) (by decide +kernel) I1.2 (top_int (as := [.ref 77]) q254 (by decide +kernel) (by decide +kernel) I1.1 ⟨rfl, trivial⟩)) (chkR (a := 77) I1.1.1 rfl rfl rfl rfl (by show 0 ≤ 8; decide)) (fun h2 r2 => ?_)
  rintro ⟨I2, x2, f2⟩
  rw [f2]
  show Ends _ _ (723, lv, [.int x2], h2, 599897, 7298671) _
  refine E_pop rfl rfl ?_
  refine E_goto rfl ?_
  exact K _ I2
set_option maxRecDepth 20000 in
theorem bl_17 {L : Nat} {xs : Nat → Int32} (hL : L ≤ 3072) {h : pm_H} {i : Nat} (hi : i + 6 ≤ L) (lv : List (Nat × Value)) (I : IVQ h) (L0 : pm_get lv 0 = some (.retAddr 0)) (L1 : pm_get lv 1 = some (.ref 0)) (L2 : pm_get lv 2 = some (.ref 77)) (L3 : pm_get lv 3 = some (.int (nJ i))) (K : ∀ h', IVQ h' → Ends (pm_tr (lb_all L xs)) (pm_Rt pm_P 100) (2392, lv, [], h', 599897, 7298671) RQ1) : Ends (pm_tr (lb_all L xs)) (pm_Rt pm_P 100) (727, lv, [], h, 599897, 7298671) RQ1 := by
  refine E_al rfl L1 ?_
  refine E_call rfl (tQ_int (by decide +kernel) (by decide +kernel) I.2 (top_int (as := [.ref 0]) q257 (by decide +kernel) (by decide +kernel) I.1 ⟨rfl, trivial⟩)) (chkR (a := 0) I.1.1 rfl rfl rfl rfl (by show 0 ≤ 8; decide)) (fun h1 r1 => ?_)
  rintro ⟨I1, x1, f1⟩
  rw [f1]
  show Ends _ _ (731, lv, [.int x1], h1, 599897, 7298671) _
  refine E_pop rfl rfl ?_
  refine E_al rfl L2 ?_
  refine E_call rfl (tQ_int (by decide +kernel) (by decide +kernel) I1.2 (top_int (as := [.ref 77]) q258 (by decide +kernel) (by decide +kernel) I1.1 ⟨rfl, trivial⟩)) (chkR (a := 77) I1.1.1 rfl rfl rfl rfl (by show 0 ≤ 8; decide)) (fun h2 r2 => ?_)
  rintro ⟨I2, x2, f2⟩
  rw [f2]
  show Ends _ _ (736, lv, [.int x2], h2, 599897, 7298671) _
  refine E_pop rfl rfl ?_
  refine E_goto rfl ?_
  exact K _ I2
set_option maxRecDepth 20000 in
theorem bl_18 {L : Nat} {xs : Nat → Int32} (hL : L ≤ 3072) {h : pm_H} {i : Nat} (hi : i + 6 ≤ L) (lv : List (Nat × Value)) (I : IVQ h) (L0 : pm_get lv 0 = some (.retAddr 0)) (L1 : pm_get lv 1 = some (.ref 0)) (L2 : pm_get lv 2 = some (.ref 77)) (L3 : pm_get lv 3 = some (.int (nJ i))) (K : ∀ h', IVQ h' → Ends (pm_tr (lb_all L xs)) (pm_Rt pm_P 100) (2392, lv, [], h', 599897, 7298671) RQ1) : Ends (pm_tr (lb_all L xs)) (pm_Rt pm_P 100) (740, lv, [], h, 599897, 7298671) RQ1 := by
  refine E_al rfl L1 ?_
  refine E_call rfl (tQ_int (by decide +kernel) (by decide +kernel) I.2 (top_int (as := [.ref 0]) q264 (by decide +kernel) (by decide +kernel) I.1 ⟨rfl, trivial⟩)) (chkR (a := 0) I.1.1 rfl rfl rfl rfl (by show 0 ≤ 8; decide)) (fun h1 r1 => ?_)
  rintro ⟨I1, x1, f1⟩
  rw [f1]
  show Ends _ _ (744, lv, [.int x1], h1, 599897, 7298671) _
  refine E_pop rfl rfl ?_
  refine E_al rfl L2 ?_
  refine E_call rfl (tQ_int (by decide +kernel) (by decide +kernel) I1.2 (top_int (as := [.ref 77]) q267 (by decide +kernel) (by decide +kernel) I1.1 ⟨rfl, trivial⟩)) (chkR (a := 77) I1.1.1 rfl rfl rfl rfl (by show 0 ≤ 8; decide)) (fun h2 r2 => ?_)
  rintro ⟨I2, x2, f2⟩
  rw [f2]
  show Ends _ _ (749, lv, [.int x2], h2, 599897, 7298671) _
  refine E_pop rfl rfl ?_
  refine E_goto rfl ?_
  exact K _ I2
set_option maxRecDepth 20000 in
theorem bl_19 {L : Nat} {xs : Nat → Int32} (hL : L ≤ 3072) {h : pm_H} {i : Nat} (hi : i + 6 ≤ L) (lv : List (Nat × Value)) (I : IVQ h) (L0 : pm_get lv 0 = some (.retAddr 0)) (L1 : pm_get lv 1 = some (.ref 0)) (L2 : pm_get lv 2 = some (.ref 77)) (L3 : pm_get lv 3 = some (.int (nJ i))) (K : ∀ h', IVQ h' → Ends (pm_tr (lb_all L xs)) (pm_Rt pm_P 100) (2392, lv, [], h', 599897, 7298671) RQ1) : Ends (pm_tr (lb_all L xs)) (pm_Rt pm_P 100) (753, lv, [], h, 599897, 7298671) RQ1 := by
  refine E_al rfl L1 ?_
  refine E_alr rfl L0 ?_
  refine E_il rfl L3 ?_
  refine E_ci 1 rfl ci1 ?_
  refine E_bin rfl (nJ_add _ _) ?_
  refine E_sld rfl (by omega) hL ?_
  refine E_call rfl (tQ_int (by decide +kernel) (by decide +kernel) I.2 (top_int (as := [.ref 0, .int (xs ((i + 1)))]) q276 (by decide +kernel) (by decide +kernel) I.1 ⟨rfl, aI _, trivial⟩)) (chkR (a := 0) I.1.1 rfl rfl rfl rfl (by show 0 ≤ 8; decide)) (fun h1 r1 => ?_)
  rintro ⟨I1, x1, f1⟩
  rw [f1]
  show Ends _ _ (762, lv, [.int x1], h1, 599897, 7298671) _
  refine E_pop rfl rfl ?_
  refine E_al rfl L2 ?_
  refine E_alr rfl L0 ?_
  refine E_il rfl L3 ?_
  refine E_ci 1 rfl ci1 ?_
  refine E_bin rfl (nJ_add _ _) ?_
  refine E_sld rfl (by omega) hL ?_
  refine E_call rfl (tQ_int (by decide +kernel) (by decide +kernel) I1.2 (top_TQ (d := 30) rfl I1.1 (tp_ring (d := 0) I1.1.1 (I1.1.2.2.1 0 (by omega))))) (chkR (a := 77) I1.1.1 rfl rfl rfl rfl (by show 0 ≤ 8; decide)) (fun h2 r2 => ?_)
  rintro ⟨I2, x2, f2⟩
  rw [f2]
  show Ends _ _ (772, lv, [.int x2], h2, 599897, 7298671) _
  refine E_pop rfl rfl ?_
  refine E_goto rfl ?_
  exact K _ I2
set_option maxRecDepth 20000 in
theorem bl_20 {L : Nat} {xs : Nat → Int32} (hL : L ≤ 3072) {h : pm_H} {i : Nat} (hi : i + 6 ≤ L) (lv : List (Nat × Value)) (I : IVQ h) (L0 : pm_get lv 0 = some (.retAddr 0)) (L1 : pm_get lv 1 = some (.ref 0)) (L2 : pm_get lv 2 = some (.ref 77)) (L3 : pm_get lv 3 = some (.int (nJ i))) (K : ∀ h', IVQ h' → Ends (pm_tr (lb_all L xs)) (pm_Rt pm_P 100) (2392, lv, [], h', 599897, 7298671) RQ1) : Ends (pm_tr (lb_all L xs)) (pm_Rt pm_P 100) (776, lv, [], h, 599897, 7298671) RQ1 := by
  refine E_al rfl L1 ?_
  refine E_call rfl (tQ_int (by decide +kernel) (by decide +kernel) I.2 (top_int (as := [.ref 0]) q278 (by decide +kernel) (by decide +kernel) I.1 ⟨rfl, trivial⟩)) (chkR (a := 0) I.1.1 rfl rfl rfl rfl (by show 0 ≤ 8; decide)) (fun h1 r1 => ?_)
  rintro ⟨I1, x1, f1⟩
  rw [f1]
  show Ends _ _ (780, lv, [.int x1], h1, 599897, 7298671) _
  refine E_pop rfl rfl ?_
  refine E_al rfl L2 ?_
  refine E_call rfl (tQ_int (by decide +kernel) (by decide +kernel) I1.2 (top_TQ (d := 30) rfl I1.1 (tp_hole (d := 0) I1.1.1 (I1.1.2.2.1 0 (by omega))))) (chkR (a := 77) I1.1.1 rfl rfl rfl rfl (by show 0 ≤ 8; decide)) (fun h2 r2 => ?_)
  rintro ⟨I2, x2, f2⟩
  rw [f2]
  show Ends _ _ (785, lv, [.int x2], h2, 599897, 7298671) _
  refine E_pop rfl rfl ?_
  refine E_goto rfl ?_
  exact K _ I2
set_option maxRecDepth 20000 in
theorem bl_21 {L : Nat} {xs : Nat → Int32} (hL : L ≤ 3072) {h : pm_H} {i : Nat} (hi : i + 6 ≤ L) (lv : List (Nat × Value)) (I : IVQ h) (L0 : pm_get lv 0 = some (.retAddr 0)) (L1 : pm_get lv 1 = some (.ref 0)) (L2 : pm_get lv 2 = some (.ref 77)) (L3 : pm_get lv 3 = some (.int (nJ i))) (K : ∀ h', IVQ h' → Ends (pm_tr (lb_all L xs)) (pm_Rt pm_P 100) (2392, lv, [], h', 599897, 7298671) RQ1) : Ends (pm_tr (lb_all L xs)) (pm_Rt pm_P 100) (789, lv, [], h, 599897, 7298671) RQ1 := by
  refine E_al rfl L1 ?_
  refine E_call rfl (tQ_int (by decide +kernel) (by decide +kernel) I.2 (top_int (as := [.ref 0]) q279 (by decide +kernel) (by decide +kernel) I.1 ⟨rfl, trivial⟩)) (chkR (a := 0) I.1.1 rfl rfl rfl rfl (by show 0 ≤ 8; decide)) (fun h1 r1 => ?_)
  rintro ⟨I1, x1, f1⟩
  rw [f1]
  show Ends _ _ (793, lv, [.int x1], h1, 599897, 7298671) _
  refine E_pop rfl rfl ?_
  refine E_al rfl L2 ?_
  refine E_call rfl (tQ_int (by decide +kernel) (by decide +kernel) I1.2 (top_TQ (d := 30) rfl I1.1 (tp_shifts (d := 0) I1.1.1 (I1.1.2.2.1 0 (by omega))))) (chkR (a := 77) I1.1.1 rfl rfl rfl rfl (by show 0 ≤ 8; decide)) (fun h2 r2 => ?_)
  rintro ⟨I2, x2, f2⟩
  rw [f2]
  show Ends _ _ (798, lv, [.int x2], h2, 599897, 7298671) _
  refine E_pop rfl rfl ?_
  refine E_goto rfl ?_
  exact K _ I2
set_option maxRecDepth 20000 in
theorem bl_22 {L : Nat} {xs : Nat → Int32} (hL : L ≤ 3072) {h : pm_H} {i : Nat} (hi : i + 6 ≤ L) (lv : List (Nat × Value)) (I : IVQ h) (L0 : pm_get lv 0 = some (.retAddr 0)) (L1 : pm_get lv 1 = some (.ref 0)) (L2 : pm_get lv 2 = some (.ref 77)) (L3 : pm_get lv 3 = some (.int (nJ i))) (K : ∀ h', IVQ h' → Ends (pm_tr (lb_all L xs)) (pm_Rt pm_P 100) (2392, lv, [], h', 599897, 7298671) RQ1) : Ends (pm_tr (lb_all L xs)) (pm_Rt pm_P 100) (802, lv, [], h, 599897, 7298671) RQ1 := by
  refine E_al rfl L1 ?_
  refine E_alr rfl L0 ?_
  refine E_il rfl L3 ?_
  refine E_ci 1 rfl ci1 ?_
  refine E_bin rfl (nJ_add _ _) ?_
  refine E_sld rfl (by omega) hL ?_
  refine E_alr rfl L0 ?_
  refine E_il rfl L3 ?_
  refine E_ci 2 rfl ci2 ?_
  refine E_bin rfl (nJ_add _ _) ?_
  refine E_sld rfl (by omega) hL ?_
  refine E_call rfl (tQ_int (by decide +kernel) (by decide +kernel) I.2 (top_int (as := [.ref 0, .int (xs ((i + 1))), .int (xs ((i + 2)))]) q280 (by decide +kernel) (by decide +kernel) I.1 ⟨rfl, aI _, aI _, trivial⟩)) (chkR (a := 0) I.1.1 rfl rfl rfl rfl (by show 0 ≤ 8; decide)) (fun h1 r1 => ?_)
  rintro ⟨I1, x1, f1⟩
  rw [f1]
  show Ends _ _ (816, lv, [.int x1], h1, 599897, 7298671) _
  refine E_pop rfl rfl ?_
  refine E_al rfl L2 ?_
  refine E_alr rfl L0 ?_
  refine E_il rfl L3 ?_
  refine E_ci 1 rfl ci1 ?_
  refine E_bin rfl (nJ_add _ _) ?_
  refine E_sld rfl (by omega) hL ?_
  refine E_alr rfl L0 ?_
  refine E_il rfl L3 ?_
  refine E_ci 2 rfl ci2 ?_
  refine E_bin rfl (nJ_add _ _) ?_
  refine E_sld rfl (by omega) hL ?_
  refine E_call rfl (tQ_int (by decide +kernel) (by decide +kernel) I1.2 (top_int (as := [.ref 77, .int (xs ((i + 1))), .int (xs ((i + 2)))]) q283 (by decide +kernel) (by decide +kernel) I1.1 ⟨rfl, aI _, aI _, trivial⟩)) (chkR (a := 77) I1.1.1 rfl rfl rfl rfl (by show 0 ≤ 8; decide)) (fun h2 r2 => ?_)
  rintro ⟨I2, x2, f2⟩
  rw [f2]
  show Ends _ _ (831, lv, [.int x2], h2, 599897, 7298671) _
  refine E_pop rfl rfl ?_
  refine E_goto rfl ?_
  exact K _ I2
set_option maxRecDepth 20000 in
theorem bl_23 {L : Nat} {xs : Nat → Int32} (hL : L ≤ 3072) {h : pm_H} {i : Nat} (hi : i + 6 ≤ L) (lv : List (Nat × Value)) (I : IVQ h) (L0 : pm_get lv 0 = some (.retAddr 0)) (L1 : pm_get lv 1 = some (.ref 0)) (L2 : pm_get lv 2 = some (.ref 77)) (L3 : pm_get lv 3 = some (.int (nJ i))) (K : ∀ h', IVQ h' → Ends (pm_tr (lb_all L xs)) (pm_Rt pm_P 100) (2392, lv, [], h', 599897, 7298671) RQ1) : Ends (pm_tr (lb_all L xs)) (pm_Rt pm_P 100) (835, lv, [], h, 599897, 7298671) RQ1 := by
  refine E_al rfl L1 ?_
  refine E_alr rfl L0 ?_
  refine E_il rfl L3 ?_
  refine E_ci 1 rfl ci1 ?_
  refine E_bin rfl (nJ_add _ _) ?_
  refine E_sld rfl (by omega) hL ?_
  refine E_call rfl (tQ_int (by decide +kernel) (by decide +kernel) I.2 (top_int (as := [.ref 0, .int (xs ((i + 1)))]) q289 (by decide +kernel) (by decide +kernel) I.1 ⟨rfl, aI _, trivial⟩)) (chkR (a := 0) I.1.1 rfl rfl rfl rfl (by show 0 ≤ 8; decide)) (fun h1 r1 => ?_)
  rintro ⟨I1, x1, f1⟩
  rw [f1]
  show Ends _ _ (844, lv, [.int x1], h1, 599897, 7298671) _
  refine E_pop rfl rfl ?_
  refine E_al rfl L2 ?_
  refine E_alr rfl L0 ?_
  refine E_il rfl L3 ?_
  refine E_ci 1 rfl ci1 ?_
  refine E_bin rfl (nJ_add _ _) ?_
  refine E_sld rfl (by omega) hL ?_
  refine E_call rfl (tQ_int (by decide +kernel) (by decide +kernel) I1.2 (top_TQ (d := 30) rfl I1.1 (tp_parent (d := 0) I1.1.1 (I1.1.2.2.1 0 (by omega))))) (chkR (a := 77) I1.1.1 rfl rfl rfl rfl (by show 0 ≤ 8; decide)) (fun h2 r2 => ?_)
  rintro ⟨I2, x2, f2⟩
  rw [f2]
  show Ends _ _ (854, lv, [.int x2], h2, 599897, 7298671) _
  refine E_pop rfl rfl ?_
  refine E_goto rfl ?_
  exact K _ I2
set_option maxRecDepth 20000 in
theorem bl_24 {L : Nat} {xs : Nat → Int32} (hL : L ≤ 3072) {h : pm_H} {i : Nat} (hi : i + 6 ≤ L) (lv : List (Nat × Value)) (I : IVQ h) (L0 : pm_get lv 0 = some (.retAddr 0)) (L1 : pm_get lv 1 = some (.ref 0)) (L2 : pm_get lv 2 = some (.ref 77)) (L3 : pm_get lv 3 = some (.int (nJ i))) (K : ∀ h', IVQ h' → Ends (pm_tr (lb_all L xs)) (pm_Rt pm_P 100) (2392, lv, [], h', 599897, 7298671) RQ1) : Ends (pm_tr (lb_all L xs)) (pm_Rt pm_P 100) (858, lv, [], h, 599897, 7298671) RQ1 := by
  refine E_al rfl L1 ?_
  refine E_alr rfl L0 ?_
  refine E_il rfl L3 ?_
  refine E_ci 1 rfl ci1 ?_
  refine E_bin rfl (nJ_add _ _) ?_
  refine E_sld rfl (by omega) hL ?_
  refine E_call rfl (tQ_int (by decide +kernel) (by decide +kernel) I.2 (top_int (as := [.ref 0, .int (xs ((i + 1)))]) q291 (by decide +kernel) (by decide +kernel) I.1 ⟨rfl, aI _, trivial⟩)) (chkR (a := 0) I.1.1 rfl rfl rfl rfl (by show 0 ≤ 8; decide)) (fun h1 r1 => ?_)
  rintro ⟨I1, x1, f1⟩
  rw [f1]
  show Ends _ _ (867, lv, [.int x1], h1, 599897, 7298671) _
  refine E_pop rfl rfl ?_
  refine E_al rfl L2 ?_
  refine E_alr rfl L0 ?_
  refine E_il rfl L3 ?_
  refine E_ci 1 rfl ci1 ?_
  refine E_bin rfl (nJ_add _ _) ?_
  refine E_sld rfl (by omega) hL ?_
  refine E_call rfl (tQ_int (by decide +kernel) (by decide +kernel) I1.2 (top_TQ (d := 30) rfl I1.1 (tp_depth (d := 0) I1.1.1 (I1.1.2.2.1 0 (by omega))))) (chkR (a := 77) I1.1.1 rfl rfl rfl rfl (by show 0 ≤ 8; decide)) (fun h2 r2 => ?_)
  rintro ⟨I2, x2, f2⟩
  rw [f2]
  show Ends _ _ (877, lv, [.int x2], h2, 599897, 7298671) _
  refine E_pop rfl rfl ?_
  refine E_goto rfl ?_
  exact K _ I2
set_option maxRecDepth 20000 in
theorem bl_25 {L : Nat} {xs : Nat → Int32} (hL : L ≤ 3072) {h : pm_H} {i : Nat} (hi : i + 6 ≤ L) (lv : List (Nat × Value)) (I : IVQ h) (L0 : pm_get lv 0 = some (.retAddr 0)) (L1 : pm_get lv 1 = some (.ref 0)) (L2 : pm_get lv 2 = some (.ref 77)) (L3 : pm_get lv 3 = some (.int (nJ i))) (K : ∀ h', IVQ h' → Ends (pm_tr (lb_all L xs)) (pm_Rt pm_P 100) (2392, lv, [], h', 599897, 7298671) RQ1) : Ends (pm_tr (lb_all L xs)) (pm_Rt pm_P 100) (881, lv, [], h, 599897, 7298671) RQ1 := by
  refine E_al rfl L1 ?_
  refine E_alr rfl L0 ?_
  refine E_il rfl L3 ?_
  refine E_ci 1 rfl ci1 ?_
  refine E_bin rfl (nJ_add _ _) ?_
  refine E_sld rfl (by omega) hL ?_
  refine E_call rfl (tQ_int (by decide +kernel) (by decide +kernel) I.2 (top_int (as := [.ref 0, .int (xs ((i + 1)))]) q293 (by decide +kernel) (by decide +kernel) I.1 ⟨rfl, aI _, trivial⟩)) (chkR (a := 0) I.1.1 rfl rfl rfl rfl (by show 0 ≤ 8; decide)) (fun h1 r1 => ?_)
  rintro ⟨I1, x1, f1⟩
  rw [f1]
  show Ends _ _ (890, lv, [.int x1], h1, 599897, 7298671) _
  refine E_pop rfl rfl ?_
  refine E_al rfl L2 ?_
  refine E_alr rfl L0 ?_
  refine E_il rfl L3 ?_
  refine E_ci 1 rfl ci1 ?_
  refine E_bin rfl (nJ_add _ _) ?_
  refine E_sld rfl (by omega) hL ?_
  refine E_call rfl (tQ_int (by decide +kernel) (by decide +kernel) I1.2 (top_TQ (d := 30) rfl I1.1 (tp_kids (d := 0) I1.1.1 (I1.1.2.2.1 0 (by omega))))) (chkR (a := 77) I1.1.1 rfl rfl rfl rfl (by show 0 ≤ 8; decide)) (fun h2 r2 => ?_)
  rintro ⟨I2, x2, f2⟩
  rw [f2]
  show Ends _ _ (900, lv, [.int x2], h2, 599897, 7298671) _
  refine E_pop rfl rfl ?_
  refine E_goto rfl ?_
  exact K _ I2
set_option maxRecDepth 20000 in
theorem bl_26 {L : Nat} {xs : Nat → Int32} (hL : L ≤ 3072) {h : pm_H} {i : Nat} (hi : i + 6 ≤ L) (lv : List (Nat × Value)) (I : IVQ h) (L0 : pm_get lv 0 = some (.retAddr 0)) (L1 : pm_get lv 1 = some (.ref 0)) (L2 : pm_get lv 2 = some (.ref 77)) (L3 : pm_get lv 3 = some (.int (nJ i))) (K : ∀ h', IVQ h' → Ends (pm_tr (lb_all L xs)) (pm_Rt pm_P 100) (2392, lv, [], h', 599897, 7298671) RQ1) : Ends (pm_tr (lb_all L xs)) (pm_Rt pm_P 100) (904, lv, [], h, 599897, 7298671) RQ1 := by
  refine E_al rfl L1 ?_
  refine E_alr rfl L0 ?_
  refine E_il rfl L3 ?_
  refine E_ci 1 rfl ci1 ?_
  refine E_bin rfl (nJ_add _ _) ?_
  refine E_sld rfl (by omega) hL ?_
  refine E_call rfl (tQ_int (by decide +kernel) (by decide +kernel) I.2 (top_int (as := [.ref 0, .int (xs ((i + 1)))]) q296 (by decide +kernel) (by decide +kernel) I.1 ⟨rfl, aI _, trivial⟩)) (chkR (a := 0) I.1.1 rfl rfl rfl rfl (by show 0 ≤ 8; decide)) (fun h1 r1 => ?_)
  rintro ⟨I1, x1, f1⟩
  rw [f1]
  show Ends _ _ (913, lv, [.int x1], h1, 599897, 7298671) _
  refine E_pop rfl rfl ?_
  refine E_al rfl L2 ?_
  refine E_alr rfl L0 ?_
  refine E_il rfl L3 ?_
  refine E_ci 1 rfl ci1 ?_
  refine E_bin rfl (nJ_add _ _) ?_
  refine E_sld rfl (by omega) hL ?_
  refine E_call rfl (tQ_int (by decide +kernel) (by decide +kernel) I1.2 (top_TQ (d := 30) rfl I1.1 (tp_queue (d := 0) I1.1.1 (I1.1.2.2.1 0 (by omega))))) (chkR (a := 77) I1.1.1 rfl rfl rfl rfl (by show 0 ≤ 8; decide)) (fun h2 r2 => ?_)
  rintro ⟨I2, x2, f2⟩
  rw [f2]
  show Ends _ _ (923, lv, [.int x2], h2, 599897, 7298671) _
  refine E_pop rfl rfl ?_
  refine E_goto rfl ?_
  exact K _ I2
set_option maxRecDepth 20000 in
theorem bl_27 {L : Nat} {xs : Nat → Int32} (hL : L ≤ 3072) {h : pm_H} {i : Nat} (hi : i + 6 ≤ L) (lv : List (Nat × Value)) (I : IVQ h) (L0 : pm_get lv 0 = some (.retAddr 0)) (L1 : pm_get lv 1 = some (.ref 0)) (L2 : pm_get lv 2 = some (.ref 77)) (L3 : pm_get lv 3 = some (.int (nJ i))) (K : ∀ h', IVQ h' → Ends (pm_tr (lb_all L xs)) (pm_Rt pm_P 100) (2392, lv, [], h', 599897, 7298671) RQ1) : Ends (pm_tr (lb_all L xs)) (pm_Rt pm_P 100) (927, lv, [], h, 599897, 7298671) RQ1 := by
  refine E_al rfl L1 ?_
  refine E_call rfl (tQ_int (by decide +kernel) (by decide +kernel) I.2 (top_int (as := [.ref 0]) q298 (by decide +kernel) (by decide +kernel) I.1 ⟨rfl, trivial⟩)) (chkR (a := 0) I.1.1 rfl rfl rfl rfl (by show 0 ≤ 8; decide)) (fun h1 r1 => ?_)
  rintro ⟨I1, x1, f1⟩
  rw [f1]
  show Ends _ _ (931, lv, [.int x1], h1, 599897, 7298671) _
  refine E_pop rfl rfl ?_
  refine E_al rfl L2 ?_
  refine E_call rfl (tQ_int (by decide +kernel) (by decide +kernel) I1.2 (top_TQ (d := 30) rfl I1.1 (tp_leaves (d := 0) I1.1.1 (I1.1.2.2.1 0 (by omega))))) (chkR (a := 77) I1.1.1 rfl rfl rfl rfl (by show 0 ≤ 8; decide)) (fun h2 r2 => ?_)
  rintro ⟨I2, x2, f2⟩
  rw [f2]
  show Ends _ _ (936, lv, [.int x2], h2, 599897, 7298671) _
  refine E_pop rfl rfl ?_
  refine E_goto rfl ?_
  exact K _ I2
set_option maxRecDepth 20000 in
theorem bl_28 {L : Nat} {xs : Nat → Int32} (hL : L ≤ 3072) {h : pm_H} {i : Nat} (hi : i + 6 ≤ L) (lv : List (Nat × Value)) (I : IVQ h) (L0 : pm_get lv 0 = some (.retAddr 0)) (L1 : pm_get lv 1 = some (.ref 0)) (L2 : pm_get lv 2 = some (.ref 77)) (L3 : pm_get lv 3 = some (.int (nJ i))) (K : ∀ h', IVQ h' → Ends (pm_tr (lb_all L xs)) (pm_Rt pm_P 100) (2392, lv, [], h', 599897, 7298671) RQ1) : Ends (pm_tr (lb_all L xs)) (pm_Rt pm_P 100) (940, lv, [], h, 599897, 7298671) RQ1 := by
  refine E_al rfl L1 ?_
  refine E_call rfl (tQ_int (by decide +kernel) (by decide +kernel) I.2 (top_int (as := [.ref 0]) q301 (by decide +kernel) (by decide +kernel) I.1 ⟨rfl, trivial⟩)) (chkR (a := 0) I.1.1 rfl rfl rfl rfl (by show 0 ≤ 8; decide)) (fun h1 r1 => ?_)
  rintro ⟨I1, x1, f1⟩
  rw [f1]
  show Ends _ _ (944, lv, [.int x1], h1, 599897, 7298671) _
  refine E_pop rfl rfl ?_
  refine E_al rfl L2 ?_
  refine E_call rfl (tQ_int (by decide +kernel) (by decide +kernel) I1.2 (top_TQ (d := 30) rfl I1.1 (tp_inversions (d := 0) I1.1.1 (I1.1.2.2.1 0 (by omega))))) (chkR (a := 77) I1.1.1 rfl rfl rfl rfl (by show 0 ≤ 8; decide)) (fun h2 r2 => ?_)
  rintro ⟨I2, x2, f2⟩
  rw [f2]
  show Ends _ _ (949, lv, [.int x2], h2, 599897, 7298671) _
  refine E_pop rfl rfl ?_
  refine E_goto rfl ?_
  exact K _ I2
set_option maxRecDepth 20000 in
theorem bl_29 {L : Nat} {xs : Nat → Int32} (hL : L ≤ 3072) {h : pm_H} {i : Nat} (hi : i + 6 ≤ L) (lv : List (Nat × Value)) (I : IVQ h) (L0 : pm_get lv 0 = some (.retAddr 0)) (L1 : pm_get lv 1 = some (.ref 0)) (L2 : pm_get lv 2 = some (.ref 77)) (L3 : pm_get lv 3 = some (.int (nJ i))) (K : ∀ h', IVQ h' → Ends (pm_tr (lb_all L xs)) (pm_Rt pm_P 100) (2392, lv, [], h', 599897, 7298671) RQ1) : Ends (pm_tr (lb_all L xs)) (pm_Rt pm_P 100) (953, lv, [], h, 599897, 7298671) RQ1 := by
  refine E_al rfl L1 ?_
  refine E_alr rfl L0 ?_
  refine E_il rfl L3 ?_
  refine E_ci 1 rfl ci1 ?_
  refine E_bin rfl (nJ_add _ _) ?_
  refine E_sld rfl (by omega) hL ?_
  refine E_call rfl (tQ_int (by decide +kernel) (by decide +kernel) I.2 (top_int (as := [.ref 0, .int (xs ((i + 1)))]) q307 (by decide +kernel) (by decide +kernel) I.1 ⟨rfl, aI _, trivial⟩)) (chkR (a := 0) I.1.1 rfl rfl rfl rfl (by show 0 ≤ 8; decide)) (fun h1 r1 => ?_)
  rintro ⟨I1, x1, f1⟩
  rw [f1]
  show Ends _ _ (962, lv, [.int x1], h1, 599897, 7298671) _
  refine E_pop rfl rfl ?_
  refine E_al rfl L2 ?_
  refine E_alr rfl L0 ?_
  refine E_il rfl L3 ?_
  refine E_ci 1 rfl ci1 ?_
  refine E_bin rfl (nJ_add _ _) ?_
  refine E_sld rfl (by omega) hL ?_
  refine E_call rfl (tQ_int (by decide +kernel) (by decide +kernel) I1.2 (top_TQ (d := 30) rfl I1.1 (tp_code (d := 0) I1.1.1 (I1.1.2.2.1 0 (by omega))))) (chkR (a := 77) I1.1.1 rfl rfl rfl rfl (by show 0 ≤ 8; decide)) (fun h2 r2 => ?_)
  rintro ⟨I2, x2, f2⟩
  rw [f2]
  show Ends _ _ (972, lv, [.int x2], h2, 599897, 7298671) _
  refine E_pop rfl rfl ?_
  refine E_goto rfl ?_
  exact K _ I2
set_option maxRecDepth 20000 in
theorem bl_30 {L : Nat} {xs : Nat → Int32} (hL : L ≤ 3072) {h : pm_H} {i : Nat} (hi : i + 6 ≤ L) (lv : List (Nat × Value)) (I : IVQ h) (L0 : pm_get lv 0 = some (.retAddr 0)) (L1 : pm_get lv 1 = some (.ref 0)) (L2 : pm_get lv 2 = some (.ref 77)) (L3 : pm_get lv 3 = some (.int (nJ i))) (K : ∀ h', IVQ h' → Ends (pm_tr (lb_all L xs)) (pm_Rt pm_P 100) (2392, lv, [], h', 599897, 7298671) RQ1) : Ends (pm_tr (lb_all L xs)) (pm_Rt pm_P 100) (976, lv, [], h, 599897, 7298671) RQ1 := by
  refine E_al rfl L1 ?_
  refine E_alr rfl L0 ?_
  refine E_il rfl L3 ?_
  refine E_ci 1 rfl ci1 ?_
  refine E_bin rfl (nJ_add _ _) ?_
  refine E_sld rfl (by omega) hL ?_
  refine E_call rfl (tQ_int (by decide +kernel) (by decide +kernel) I.2 (top_int (as := [.ref 0, .int (xs ((i + 1)))]) q312 (by decide +kernel) (by decide +kernel) I.1 ⟨rfl, aI _, trivial⟩)) (chkR (a := 0) I.1.1 rfl rfl rfl rfl (by show 0 ≤ 8; decide)) (fun h1 r1 => ?_)
  rintro ⟨I1, x1, f1⟩
  rw [f1]
  show Ends _ _ (985, lv, [.int x1], h1, 599897, 7298671) _
  refine E_pop rfl rfl ?_
  refine E_al rfl L2 ?_
  refine E_alr rfl L0 ?_
  refine E_il rfl L3 ?_
  refine E_ci 1 rfl ci1 ?_
  refine E_bin rfl (nJ_add _ _) ?_
  refine E_sld rfl (by omega) hL ?_
  refine E_call rfl (tQ_int (by decide +kernel) (by decide +kernel) I1.2 (top_TQ (d := 30) rfl I1.1 (tp_burnt (d := 0) I1.1.1 (I1.1.2.2.1 0 (by omega))))) (chkR (a := 77) I1.1.1 rfl rfl rfl rfl (by show 0 ≤ 8; decide)) (fun h2 r2 => ?_)
  rintro ⟨I2, x2, f2⟩
  rw [f2]
  show Ends _ _ (995, lv, [.int x2], h2, 599897, 7298671) _
  refine E_pop rfl rfl ?_
  refine E_goto rfl ?_
  exact K _ I2
set_option maxRecDepth 20000 in
theorem bl_31 {L : Nat} {xs : Nat → Int32} (hL : L ≤ 3072) {h : pm_H} {i : Nat} (hi : i + 6 ≤ L) (lv : List (Nat × Value)) (I : IVQ h) (L0 : pm_get lv 0 = some (.retAddr 0)) (L1 : pm_get lv 1 = some (.ref 0)) (L2 : pm_get lv 2 = some (.ref 77)) (L3 : pm_get lv 3 = some (.int (nJ i))) (K : ∀ h', IVQ h' → Ends (pm_tr (lb_all L xs)) (pm_Rt pm_P 100) (2392, lv, [], h', 599897, 7298671) RQ1) : Ends (pm_tr (lb_all L xs)) (pm_Rt pm_P 100) (999, lv, [], h, 599897, 7298671) RQ1 := by
  refine E_al rfl L1 ?_
  refine E_call rfl (tQ_int (by decide +kernel) (by decide +kernel) I.2 (top_int (as := [.ref 0]) q313 (by decide +kernel) (by decide +kernel) I.1 ⟨rfl, trivial⟩)) (chkR (a := 0) I.1.1 rfl rfl rfl rfl (by show 0 ≤ 8; decide)) (fun h1 r1 => ?_)
  rintro ⟨I1, x1, f1⟩
  rw [f1]
  show Ends _ _ (1003, lv, [.int x1], h1, 599897, 7298671) _
  refine E_pop rfl rfl ?_
  refine E_al rfl L2 ?_
  refine E_call rfl (tQ_int (by decide +kernel) (by decide +kernel) I1.2 (top_TQ (d := 30) rfl I1.1 (tp_turned (d := 0) I1.1.1 (I1.1.2.2.1 0 (by omega))))) (chkR (a := 77) I1.1.1 rfl rfl rfl rfl (by show 0 ≤ 8; decide)) (fun h2 r2 => ?_)
  rintro ⟨I2, x2, f2⟩
  rw [f2]
  show Ends _ _ (1008, lv, [.int x2], h2, 599897, 7298671) _
  refine E_pop rfl rfl ?_
  refine E_goto rfl ?_
  exact K _ I2
set_option maxRecDepth 20000 in
theorem bl_32 {L : Nat} {xs : Nat → Int32} (hL : L ≤ 3072) {h : pm_H} {i : Nat} (hi : i + 6 ≤ L) (lv : List (Nat × Value)) (I : IVQ h) (L0 : pm_get lv 0 = some (.retAddr 0)) (L1 : pm_get lv 1 = some (.ref 0)) (L2 : pm_get lv 2 = some (.ref 77)) (L3 : pm_get lv 3 = some (.int (nJ i))) (K : ∀ h', IVQ h' → Ends (pm_tr (lb_all L xs)) (pm_Rt pm_P 100) (2392, lv, [], h', 599897, 7298671) RQ1) : Ends (pm_tr (lb_all L xs)) (pm_Rt pm_P 100) (1012, lv, [], h, 599897, 7298671) RQ1 := by
  refine E_al rfl L1 ?_
  refine E_alr rfl L0 ?_
  refine E_il rfl L3 ?_
  refine E_ci 1 rfl ci1 ?_
  refine E_bin rfl (nJ_add _ _) ?_
  refine E_sld rfl (by omega) hL ?_
  refine E_call rfl (g8_visit I) (chkR (a := 0) I.1.1 rfl rfl rfl rfl (by show 0 ≤ 8; decide)) (fun h1 r1 => ?_)
  rintro ⟨I1, x1, f1, J1⟩
  rw [f1]
  show Ends _ _ (1021, lv, [.int x1], h1, 599897, 7298671) _
  refine E_al rfl L2 ?_
  refine E_alr rfl L0 ?_
  refine E_il rfl L3 ?_
  refine E_ci 1 rfl ci1 ?_
  refine E_bin rfl (nJ_add _ _) ?_
  refine E_sld rfl (by omega) hL ?_
  refine E_call rfl (g9_visit I1 J1) (chkR (a := 77) I1.1 rfl rfl rfl rfl (by show 1 ≤ 8; decide)) (fun h2 r2 => ?_)
  rintro ⟨I2, f2⟩
  rw [f2]
  show Ends _ _ (1030, lv, [.int x1, .int x1], h2, 599897, 7298671) _
  refine E_icT rfl (decide_eq_true rfl) ?_
  exact K _ I2
set_option maxRecDepth 20000 in
theorem bl_33 {L : Nat} {xs : Nat → Int32} (hL : L ≤ 3072) {h : pm_H} {i : Nat} (hi : i + 6 ≤ L) (lv : List (Nat × Value)) (I : IVQ h) (L0 : pm_get lv 0 = some (.retAddr 0)) (L1 : pm_get lv 1 = some (.ref 0)) (L2 : pm_get lv 2 = some (.ref 77)) (L3 : pm_get lv 3 = some (.int (nJ i))) (K : ∀ h', IVQ h' → Ends (pm_tr (lb_all L xs)) (pm_Rt pm_P 100) (2392, lv, [], h', 599897, 7298671) RQ1) : Ends (pm_tr (lb_all L xs)) (pm_Rt pm_P 100) (1035, lv, [], h, 599897, 7298671) RQ1 := by
  refine E_al rfl L1 ?_
  refine E_alr rfl L0 ?_
  refine E_il rfl L3 ?_
  refine E_ci 1 rfl ci1 ?_
  refine E_bin rfl (nJ_add _ _) ?_
  refine E_sld rfl (by omega) hL ?_
  refine E_alr rfl L0 ?_
  refine E_il rfl L3 ?_
  refine E_ci 2 rfl ci2 ?_
  refine E_bin rfl (nJ_add _ _) ?_
  refine E_sld rfl (by omega) hL ?_
  refine E_call rfl (tQ_int (by decide +kernel) (by decide +kernel) I.2 (top_int (as := [.ref 0, .int (xs ((i + 1))), .int (xs ((i + 2)))]) q484 (by decide +kernel) (by decide +kernel) I.1 ⟨rfl, aI _, aI _, trivial⟩)) (chkR (a := 0) I.1.1 rfl rfl rfl rfl (by show 0 ≤ 8; decide)) (fun h1 r1 => ?_)
  rintro ⟨I1, x1, f1⟩
  rw [f1]
  show Ends _ _ (1049, lv, [.int x1], h1, 599897, 7298671) _
  refine E_pop rfl rfl ?_
  refine E_al rfl L2 ?_
  refine E_alr rfl L0 ?_
  refine E_il rfl L3 ?_
  refine E_ci 1 rfl ci1 ?_
  refine E_bin rfl (nJ_add _ _) ?_
  refine E_sld rfl (by omega) hL ?_
  refine E_alr rfl L0 ?_
  refine E_il rfl L3 ?_
  refine E_ci 2 rfl ci2 ?_
  refine E_bin rfl (nJ_add _ _) ?_
  refine E_sld rfl (by omega) hL ?_
  refine E_call rfl (tQ_int (by decide +kernel) (by decide +kernel) I1.2 (top_TQ (d := 30) rfl I1.1 (tp_above (d := 0) I1.1.1 (I1.1.2.2.1 0 (by omega))))) (chkR (a := 77) I1.1.1 rfl rfl rfl rfl (by show 0 ≤ 8; decide)) (fun h2 r2 => ?_)
  rintro ⟨I2, x2, f2⟩
  rw [f2]
  show Ends _ _ (1064, lv, [.int x2], h2, 599897, 7298671) _
  refine E_pop rfl rfl ?_
  refine E_goto rfl ?_
  exact K _ I2
set_option maxRecDepth 20000 in
theorem bl_34 {L : Nat} {xs : Nat → Int32} (hL : L ≤ 3072) {h : pm_H} {i : Nat} (hi : i + 6 ≤ L) (lv : List (Nat × Value)) (I : IVQ h) (L0 : pm_get lv 0 = some (.retAddr 0)) (L1 : pm_get lv 1 = some (.ref 0)) (L2 : pm_get lv 2 = some (.ref 77)) (L3 : pm_get lv 3 = some (.int (nJ i))) (K : ∀ h', IVQ h' → Ends (pm_tr (lb_all L xs)) (pm_Rt pm_P 100) (2392, lv, [], h', 599897, 7298671) RQ1) : Ends (pm_tr (lb_all L xs)) (pm_Rt pm_P 100) (1068, lv, [], h, 599897, 7298671) RQ1 := by
  refine E_al rfl L1 ?_
  refine E_alr rfl L0 ?_
  refine E_il rfl L3 ?_
  refine E_ci 1 rfl ci1 ?_
  refine E_bin rfl (nJ_add _ _) ?_
  refine E_sld rfl (by omega) hL ?_
  refine E_alr rfl L0 ?_
  refine E_il rfl L3 ?_
  refine E_ci 2 rfl ci2 ?_
  refine E_bin rfl (nJ_add _ _) ?_
  refine E_sld rfl (by omega) hL ?_
  refine E_call rfl (tQ_int (by decide +kernel) (by decide +kernel) I.2 (top_int (as := [.ref 0, .int (xs ((i + 1))), .int (xs ((i + 2)))]) q491 (by decide +kernel) (by decide +kernel) I.1 ⟨rfl, aI _, aI _, trivial⟩)) (chkR (a := 0) I.1.1 rfl rfl rfl rfl (by show 0 ≤ 8; decide)) (fun h1 r1 => ?_)
  rintro ⟨I1, x1, f1⟩
  rw [f1]
  show Ends _ _ (1082, lv, [.int x1], h1, 599897, 7298671) _
  refine E_pop rfl rfl ?_
  refine E_al rfl L2 ?_
  refine E_alr rfl L0 ?_
  refine E_il rfl L3 ?_
  refine E_ci 1 rfl ci1 ?_
  refine E_bin rfl (nJ_add _ _) ?_
  refine E_sld rfl (by omega) hL ?_
  refine E_alr rfl L0 ?_
  refine E_il rfl L3 ?_
  refine E_ci 2 rfl ci2 ?_
  refine E_bin rfl (nJ_add _ _) ?_
  refine E_sld rfl (by omega) hL ?_
  refine E_call rfl (tQ_int (by decide +kernel) (by decide +kernel) I1.2 (top_TQ (d := 30) rfl I1.1 (tp_wish (d := 0) I1.1.1 (I1.1.2.2.1 0 (by omega))))) (chkR (a := 77) I1.1.1 rfl rfl rfl rfl (by show 0 ≤ 8; decide)) (fun h2 r2 => ?_)
  rintro ⟨I2, x2, f2⟩
  rw [f2]
  show Ends _ _ (1097, lv, [.int x2], h2, 599897, 7298671) _
  refine E_pop rfl rfl ?_
  refine E_goto rfl ?_
  exact K _ I2
set_option maxRecDepth 20000 in
theorem bl_35 {L : Nat} {xs : Nat → Int32} (hL : L ≤ 3072) {h : pm_H} {i : Nat} (hi : i + 6 ≤ L) (lv : List (Nat × Value)) (I : IVQ h) (L0 : pm_get lv 0 = some (.retAddr 0)) (L1 : pm_get lv 1 = some (.ref 0)) (L2 : pm_get lv 2 = some (.ref 77)) (L3 : pm_get lv 3 = some (.int (nJ i))) (K : ∀ h', IVQ h' → Ends (pm_tr (lb_all L xs)) (pm_Rt pm_P 100) (2392, lv, [], h', 599897, 7298671) RQ1) : Ends (pm_tr (lb_all L xs)) (pm_Rt pm_P 100) (1101, lv, [], h, 599897, 7298671) RQ1 := by
  refine E_al rfl L1 ?_
  refine E_alr rfl L0 ?_
  refine E_il rfl L3 ?_
  refine E_ci 1 rfl ci1 ?_
  refine E_bin rfl (nJ_add _ _) ?_
  refine E_sld rfl (by omega) hL ?_
  refine E_alr rfl L0 ?_
  refine E_il rfl L3 ?_
  refine E_ci 2 rfl ci2 ?_
  refine E_bin rfl (nJ_add _ _) ?_
  refine E_sld rfl (by omega) hL ?_
  refine E_call rfl (tQ_int (by decide +kernel) (by decide +kernel) I.2 (top_int (as := [.ref 0, .int (xs ((i + 1))), .int (xs ((i + 2)))]) q495 (by decide +kernel) (by decide +kernel) I.1 ⟨rfl, aI _, aI _, trivial⟩)) (chkR (a := 0) I.1.1 rfl rfl rfl rfl (by show 0 ≤ 8; decide)) (fun h1 r1 => ?_)
  rintro ⟨I1, x1, f1⟩
  rw [f1]
  show Ends _ _ (1115, lv, [.int x1], h1, 599897, 7298671) _
  refine E_pop rfl rfl ?_
  refine E_al rfl L2 ?_
  refine E_alr rfl L0 ?_
  refine E_il rfl L3 ?_
  refine E_ci 1 rfl ci1 ?_
  refine E_bin rfl (nJ_add _ _) ?_
  refine E_sld rfl (by omega) hL ?_
  refine E_alr rfl L0 ?_
  refine E_il rfl L3 ?_
  refine E_ci 2 rfl ci2 ?_
  refine E_bin rfl (nJ_add _ _) ?_
  refine E_sld rfl (by omega) hL ?_
  refine E_call rfl (tQ_int (by decide +kernel) (by decide +kernel) I1.2 (top_TQ (d := 30) rfl I1.1 (tp_regain (d := 0) I1.1.1 (I1.1.2.2.1 0 (by omega))))) (chkR (a := 77) I1.1.1 rfl rfl rfl rfl (by show 0 ≤ 8; decide)) (fun h2 r2 => ?_)
  rintro ⟨I2, x2, f2⟩
  rw [f2]
  show Ends _ _ (1130, lv, [.int x2], h2, 599897, 7298671) _
  refine E_pop rfl rfl ?_
  refine E_goto rfl ?_
  exact K _ I2
set_option maxRecDepth 20000 in
theorem bl_36 {L : Nat} {xs : Nat → Int32} (hL : L ≤ 3072) {h : pm_H} {i : Nat} (hi : i + 6 ≤ L) (lv : List (Nat × Value)) (I : IVQ h) (L0 : pm_get lv 0 = some (.retAddr 0)) (L1 : pm_get lv 1 = some (.ref 0)) (L2 : pm_get lv 2 = some (.ref 77)) (L3 : pm_get lv 3 = some (.int (nJ i))) (K : ∀ h', IVQ h' → Ends (pm_tr (lb_all L xs)) (pm_Rt pm_P 100) (2392, lv, [], h', 599897, 7298671) RQ1) : Ends (pm_tr (lb_all L xs)) (pm_Rt pm_P 100) (1134, lv, [], h, 599897, 7298671) RQ1 := by
  refine E_al rfl L1 ?_
  refine E_alr rfl L0 ?_
  refine E_il rfl L3 ?_
  refine E_ci 1 rfl ci1 ?_
  refine E_bin rfl (nJ_add _ _) ?_
  refine E_sld rfl (by omega) hL ?_
  refine E_call rfl (tQ_int (by decide +kernel) (by decide +kernel) I.2 (top_int (as := [.ref 0, .int (xs ((i + 1)))]) q496 (by decide +kernel) (by decide +kernel) I.1 ⟨rfl, aI _, trivial⟩)) (chkR (a := 0) I.1.1 rfl rfl rfl rfl (by show 0 ≤ 8; decide)) (fun h1 r1 => ?_)
  rintro ⟨I1, x1, f1⟩
  rw [f1]
  show Ends _ _ (1143, lv, [.int x1], h1, 599897, 7298671) _
  refine E_pop rfl rfl ?_
  refine E_al rfl L2 ?_
  refine E_alr rfl L0 ?_
  refine E_il rfl L3 ?_
  refine E_ci 1 rfl ci1 ?_
  refine E_bin rfl (nJ_add _ _) ?_
  refine E_sld rfl (by omega) hL ?_
  refine E_call rfl (tQ_int (by decide +kernel) (by decide +kernel) I1.2 (top_TQ (d := 30) rfl I1.1 (tp_upset (d := 0) I1.1.1 (I1.1.2.2.1 0 (by omega))))) (chkR (a := 77) I1.1.1 rfl rfl rfl rfl (by show 0 ≤ 8; decide)) (fun h2 r2 => ?_)
  rintro ⟨I2, x2, f2⟩
  rw [f2]
  show Ends _ _ (1153, lv, [.int x2], h2, 599897, 7298671) _
  refine E_pop rfl rfl ?_
  refine E_goto rfl ?_
  exact K _ I2
set_option maxRecDepth 20000 in
theorem bl_37 {L : Nat} {xs : Nat → Int32} (hL : L ≤ 3072) {h : pm_H} {i : Nat} (hi : i + 6 ≤ L) (lv : List (Nat × Value)) (I : IVQ h) (L0 : pm_get lv 0 = some (.retAddr 0)) (L1 : pm_get lv 1 = some (.ref 0)) (L2 : pm_get lv 2 = some (.ref 77)) (L3 : pm_get lv 3 = some (.int (nJ i))) (K : ∀ h', IVQ h' → Ends (pm_tr (lb_all L xs)) (pm_Rt pm_P 100) (2392, lv, [], h', 599897, 7298671) RQ1) : Ends (pm_tr (lb_all L xs)) (pm_Rt pm_P 100) (1157, lv, [], h, 599897, 7298671) RQ1 := by
  refine E_al rfl L1 ?_
  refine E_alr rfl L0 ?_
  refine E_il rfl L3 ?_
  refine E_ci 1 rfl ci1 ?_
  refine E_bin rfl (nJ_add _ _) ?_
  refine E_sld rfl (by omega) hL ?_
  refine E_call rfl (tQ_int (by decide +kernel) (by decide +kernel) I.2 (top_int (as := [.ref 0, .int (xs ((i + 1)))]) q499 (by decide +kernel) (by decide +kernel) I.1 ⟨rfl, aI _, trivial⟩)) (chkR (a := 0) I.1.1 rfl rfl rfl rfl (by show 0 ≤ 8; decide)) (fun h1 r1 => ?_)
  rintro ⟨I1, x1, f1⟩
  rw [f1]
  show Ends _ _ (1166, lv, [.int x1], h1, 599897, 7298671) _
  refine E_pop rfl rfl ?_
  refine E_al rfl L2 ?_
  refine E_alr rfl L0 ?_
  refine E_il rfl L3 ?_
  refine E_ci 1 rfl ci1 ?_
  refine E_bin rfl (nJ_add _ _) ?_
  refine E_sld rfl (by omega) hL ?_
  refine E_call rfl (tQ_int (by decide +kernel) (by decide +kernel) I1.2 (top_int (as := [.ref 77, .int (xs ((i + 1)))]) q504 (by decide +kernel) (by decide +kernel) I1.1 ⟨rfl, aI _, trivial⟩)) (chkR (a := 77) I1.1.1 rfl rfl rfl rfl (by show 0 ≤ 8; decide)) (fun h2 r2 => ?_)
  rintro ⟨I2, x2, f2⟩
  rw [f2]
  show Ends _ _ (1176, lv, [.int x2], h2, 599897, 7298671) _
  refine E_pop rfl rfl ?_
  refine E_goto rfl ?_
  exact K _ I2
set_option maxRecDepth 20000 in
theorem bl_38 {L : Nat} {xs : Nat → Int32} (hL : L ≤ 3072) {h : pm_H} {i : Nat} (hi : i + 6 ≤ L) (lv : List (Nat × Value)) (I : IVQ h) (L0 : pm_get lv 0 = some (.retAddr 0)) (L1 : pm_get lv 1 = some (.ref 0)) (L2 : pm_get lv 2 = some (.ref 77)) (L3 : pm_get lv 3 = some (.int (nJ i))) (K : ∀ h', IVQ h' → Ends (pm_tr (lb_all L xs)) (pm_Rt pm_P 100) (2392, lv, [], h', 599897, 7298671) RQ1) : Ends (pm_tr (lb_all L xs)) (pm_Rt pm_P 100) (1180, lv, [], h, 599897, 7298671) RQ1 := by
  refine E_al rfl L1 ?_
  refine E_alr rfl L0 ?_
  refine E_il rfl L3 ?_
  refine E_ci 1 rfl ci1 ?_
  refine E_bin rfl (nJ_add _ _) ?_
  refine E_sld rfl (by omega) hL ?_
  refine E_alr rfl L0 ?_
  refine E_il rfl L3 ?_
  refine E_ci 2 rfl ci2 ?_
  refine E_bin rfl (nJ_add _ _) ?_
  refine E_sld rfl (by omega) hL ?_
  refine E_call rfl (tQ_int (by decide +kernel) (by decide +kernel) I.2 (top_int (as := [.ref 0, .int (xs ((i + 1))), .int (xs ((i + 2)))]) q506 (by decide +kernel) (by decide +kernel) I.1 ⟨rfl, aI _, aI _, trivial⟩)) (chkR (a := 0) I.1.1 rfl rfl rfl rfl (by show 0 ≤ 8; decide)) (fun h1 r1 => ?_)
  rintro ⟨I1, x1, f1⟩
  rw [f1]
  show Ends _ _ (1194, lv, [.int x1], h1, 599897, 7298671) _
  refine E_pop rfl rfl ?_
  refine E_al rfl L2 ?_
  refine E_alr rfl L0 ?_
  refine E_il rfl L3 ?_
  refine E_ci 1 rfl ci1 ?_
  refine E_bin rfl (nJ_add _ _) ?_
  refine E_sld rfl (by omega) hL ?_
  refine E_alr rfl L0 ?_
  refine E_il rfl L3 ?_
  refine E_ci 2 rfl ci2 ?_
  refine E_bin rfl (nJ_add _ _) ?_
  refine E_sld rfl (by omega) hL ?_
  refine E_call rfl (tQ_int (by decide +kernel) (by decide +kernel) I1.2 (top_int (as := [.ref 77, .int (xs ((i + 1))), .int (xs ((i + 2)))]) q509 (by decide +kernel) (by decide +kernel) I1.1 ⟨rfl, aI _, aI _, trivial⟩)) (chkR (a := 77) I1.1.1 rfl rfl rfl rfl (by show 0 ≤ 8; decide)) (fun h2 r2 => ?_)
  rintro ⟨I2, x2, f2⟩
  rw [f2]
  show Ends _ _ (1209, lv, [.int x2], h2, 599897, 7298671) _
  refine E_pop rfl rfl ?_
  refine E_goto rfl ?_
  exact K _ I2
set_option maxRecDepth 20000 in
theorem bl_39 {L : Nat} {xs : Nat → Int32} (hL : L ≤ 3072) {h : pm_H} {i : Nat} (hi : i + 6 ≤ L) (lv : List (Nat × Value)) (I : IVQ h) (L0 : pm_get lv 0 = some (.retAddr 0)) (L1 : pm_get lv 1 = some (.ref 0)) (L2 : pm_get lv 2 = some (.ref 77)) (L3 : pm_get lv 3 = some (.int (nJ i))) (K : ∀ h', IVQ h' → Ends (pm_tr (lb_all L xs)) (pm_Rt pm_P 100) (2392, lv, [], h', 599897, 7298671) RQ1) : Ends (pm_tr (lb_all L xs)) (pm_Rt pm_P 100) (1213, lv, [], h, 599897, 7298671) RQ1 := by
  refine E_al rfl L1 ?_
  refine E_alr rfl L0 ?_
  refine E_il rfl L3 ?_
  refine E_ci 1 rfl ci1 ?_
  refine E_bin rfl (nJ_add _ _) ?_
  refine E_sld rfl (by omega) hL ?_
  refine E_alr rfl L0 ?_
  refine E_il rfl L3 ?_
  refine E_ci 2 rfl ci2 ?_
  refine E_bin rfl (nJ_add _ _) ?_
  refine E_sld rfl (by omega) hL ?_
  refine E_call rfl (tQ_int (by decide +kernel) (by decide +kernel) I.2 (top_int (as := [.ref 0, .int (xs ((i + 1))), .int (xs ((i + 2)))]) q510 (by decide +kernel) (by decide +kernel) I.1 ⟨rfl, aI _, aI _, trivial⟩)) (chkR (a := 0) I.1.1 rfl rfl rfl rfl (by show 0 ≤ 8; decide)) (fun h1 r1 => ?_)
  rintro ⟨I1, x1, f1⟩
  rw [f1]
  show Ends _ _ (1227, lv, [.int x1], h1, 599897, 7298671) _
  refine E_pop rfl rfl ?_
  refine E_al rfl L2 ?_
  refine E_alr rfl L0 ?_
  refine E_il rfl L3 ?_
  refine E_ci 1 rfl ci1 ?_
  refine E_bin rfl (nJ_add _ _) ?_
  refine E_sld rfl (by omega) hL ?_
  refine E_alr rfl L0 ?_
  refine E_il rfl L3 ?_
  refine E_ci 2 rfl ci2 ?_
  refine E_bin rfl (nJ_add _ _) ?_
  refine E_sld rfl (by omega) hL ?_
  refine E_call rfl (tQ_int (by decide +kernel) (by decide +kernel) I1.2 (top_TQ (d := 30) rfl I1.1 (tp_trees (d := 0) I1.1.1 (I1.1.2.2.1 0 (by omega))))) (chkR (a := 77) I1.1.1 rfl rfl rfl rfl (by show 0 ≤ 8; decide)) (fun h2 r2 => ?_)
  rintro ⟨I2, x2, f2⟩
  rw [f2]
  show Ends _ _ (1242, lv, [.int x2], h2, 599897, 7298671) _
  refine E_pop rfl rfl ?_
  refine E_goto rfl ?_
  exact K _ I2
set_option maxRecDepth 20000 in
theorem bl_40 {L : Nat} {xs : Nat → Int32} (hL : L ≤ 3072) {h : pm_H} {i : Nat} (hi : i + 6 ≤ L) (lv : List (Nat × Value)) (I : IVQ h) (L0 : pm_get lv 0 = some (.retAddr 0)) (L1 : pm_get lv 1 = some (.ref 0)) (L2 : pm_get lv 2 = some (.ref 77)) (L3 : pm_get lv 3 = some (.int (nJ i))) (K : ∀ h', IVQ h' → Ends (pm_tr (lb_all L xs)) (pm_Rt pm_P 100) (2392, lv, [], h', 599897, 7298671) RQ1) : Ends (pm_tr (lb_all L xs)) (pm_Rt pm_P 100) (1246, lv, [], h, 599897, 7298671) RQ1 := by
  refine E_al rfl L1 ?_
  refine E_alr rfl L0 ?_
  refine E_il rfl L3 ?_
  refine E_ci 1 rfl ci1 ?_
  refine E_bin rfl (nJ_add _ _) ?_
  refine E_sld rfl (by omega) hL ?_
  refine E_alr rfl L0 ?_
  refine E_il rfl L3 ?_
  refine E_ci 2 rfl ci2 ?_
  refine E_bin rfl (nJ_add _ _) ?_
  refine E_sld rfl (by omega) hL ?_
  refine E_call rfl (tQ_int (by decide +kernel) (by decide +kernel) I.2 (top_int (as := [.ref 0, .int (xs ((i + 1))), .int (xs ((i + 2)))]) q512 (by decide +kernel) (by decide +kernel) I.1 ⟨rfl, aI _, aI _, trivial⟩)) (chkR (a := 0) I.1.1 rfl rfl rfl rfl (by show 0 ≤ 8; decide)) (fun h1 r1 => ?_)
  rintro ⟨I1, x1, f1⟩
  rw [f1]
  show Ends _ _ (1260, lv, [.int x1], h1, 599897, 7298671) _
  refine E_pop rfl rfl ?_
  refine E_al rfl L2 ?_
  refine E_alr rfl L0 ?_
  refine E_il rfl L3 ?_
  refine E_ci 1 rfl ci1 ?_
  refine E_bin rfl (nJ_add _ _) ?_
  refine E_sld rfl (by omega) hL ?_
  refine E_alr rfl L0 ?_
  refine E_il rfl L3 ?_
  refine E_ci 2 rfl ci2 ?_
  refine E_bin rfl (nJ_add _ _) ?_
  refine E_sld rfl (by omega) hL ?_
  refine E_call rfl (tQ_int (by decide +kernel) (by decide +kernel) I1.2 (top_int (as := [.ref 77, .int (xs ((i + 1))), .int (xs ((i + 2)))]) q515 (by decide +kernel) (by decide +kernel) I1.1 ⟨rfl, aI _, aI _, trivial⟩)) (chkR (a := 77) I1.1.1 rfl rfl rfl rfl (by show 0 ≤ 8; decide)) (fun h2 r2 => ?_)
  rintro ⟨I2, x2, f2⟩
  rw [f2]
  show Ends _ _ (1275, lv, [.int x2], h2, 599897, 7298671) _
  refine E_pop rfl rfl ?_
  refine E_goto rfl ?_
  exact K _ I2
set_option maxRecDepth 20000 in
theorem bl_41 {L : Nat} {xs : Nat → Int32} (hL : L ≤ 3072) {h : pm_H} {i : Nat} (hi : i + 6 ≤ L) (lv : List (Nat × Value)) (I : IVQ h) (L0 : pm_get lv 0 = some (.retAddr 0)) (L1 : pm_get lv 1 = some (.ref 0)) (L2 : pm_get lv 2 = some (.ref 77)) (L3 : pm_get lv 3 = some (.int (nJ i))) (K : ∀ h', IVQ h' → Ends (pm_tr (lb_all L xs)) (pm_Rt pm_P 100) (2392, lv, [], h', 599897, 7298671) RQ1) : Ends (pm_tr (lb_all L xs)) (pm_Rt pm_P 100) (1279, lv, [], h, 599897, 7298671) RQ1 := by
  refine E_al rfl L1 ?_
  refine E_alr rfl L0 ?_
  refine E_il rfl L3 ?_
  refine E_ci 1 rfl ci1 ?_
  refine E_bin rfl (nJ_add _ _) ?_
  refine E_sld rfl (by omega) hL ?_
  refine E_call rfl (tQ_int (by decide +kernel) (by decide +kernel) I.2 (top_int (as := [.ref 0, .int (xs ((i + 1)))]) q520 (by decide +kernel) (by decide +kernel) I.1 ⟨rfl, aI _, trivial⟩)) (chkR (a := 0) I.1.1 rfl rfl rfl rfl (by show 0 ≤ 8; decide)) (fun h1 r1 => ?_)
  rintro ⟨I1, x1, f1⟩
  rw [f1]
  show Ends _ _ (1288, lv, [.int x1], h1, 599897, 7298671) _
  refine E_pop rfl rfl ?_
  refine E_al rfl L2 ?_
  refine E_alr rfl L0 ?_
  refine E_il rfl L3 ?_
  refine E_ci 1 rfl ci1 ?_
  refine E_bin rfl (nJ_add _ _) ?_
  refine E_sld rfl (by omega) hL ?_
  refine E_call rfl (tQ_int (by decide +kernel) (by decide +kernel) I1.2 (top_int (as := [.ref 77, .int (xs ((i + 1)))]) q528 (by decide +kernel) (by decide +kernel) I1.1 ⟨rfl, aI _, trivial⟩)) (chkR (a := 77) I1.1.1 rfl rfl rfl rfl (by show 0 ≤ 8; decide)) (fun h2 r2 => ?_)
  rintro ⟨I2, x2, f2⟩
  rw [f2]
  show Ends _ _ (1298, lv, [.int x2], h2, 599897, 7298671) _
  refine E_pop rfl rfl ?_
  refine E_goto rfl ?_
  exact K _ I2
set_option maxRecDepth 20000 in
theorem bl_42 {L : Nat} {xs : Nat → Int32} (hL : L ≤ 3072) {h : pm_H} {i : Nat} (hi : i + 6 ≤ L) (lv : List (Nat × Value)) (I : IVQ h) (L0 : pm_get lv 0 = some (.retAddr 0)) (L1 : pm_get lv 1 = some (.ref 0)) (L2 : pm_get lv 2 = some (.ref 77)) (L3 : pm_get lv 3 = some (.int (nJ i))) (K : ∀ h', IVQ h' → Ends (pm_tr (lb_all L xs)) (pm_Rt pm_P 100) (2392, lv, [], h', 599897, 7298671) RQ1) : Ends (pm_tr (lb_all L xs)) (pm_Rt pm_P 100) (1302, lv, [], h, 599897, 7298671) RQ1 := by
  refine E_al rfl L1 ?_
  refine E_alr rfl L0 ?_
  refine E_il rfl L3 ?_
  refine E_ci 1 rfl ci1 ?_
  refine E_bin rfl (nJ_add _ _) ?_
  refine E_sld rfl (by omega) hL ?_
  refine E_call rfl (tQ_int (by decide +kernel) (by decide +kernel) I.2 (top_int (as := [.ref 0, .int (xs ((i + 1)))]) q530 (by decide +kernel) (by decide +kernel) I.1 ⟨rfl, aI _, trivial⟩)) (chkR (a := 0) I.1.1 rfl rfl rfl rfl (by show 0 ≤ 8; decide)) (fun h1 r1 => ?_)
  rintro ⟨I1, x1, f1⟩
  rw [f1]
  show Ends _ _ (1311, lv, [.int x1], h1, 599897, 7298671) _
  refine E_pop rfl rfl ?_
  refine E_al rfl L2 ?_
  refine E_alr rfl L0 ?_
  refine E_il rfl L3 ?_
  refine E_ci 1 rfl ci1 ?_
  refine E_bin rfl (nJ_add _ _) ?_
  refine E_sld rfl (by omega) hL ?_
  refine E_call rfl (tQ_int (by decide +kernel) (by decide +kernel) I1.2 (top_int (as := [.ref 77, .int (xs ((i + 1)))]) q533 (by decide +kernel) (by decide +kernel) I1.1 ⟨rfl, aI _, trivial⟩)) (chkR (a := 77) I1.1.1 rfl rfl rfl rfl (by show 0 ≤ 8; decide)) (fun h2 r2 => ?_)
  rintro ⟨I2, x2, f2⟩
  rw [f2]
  show Ends _ _ (1321, lv, [.int x2], h2, 599897, 7298671) _
  refine E_pop rfl rfl ?_
  refine E_goto rfl ?_
  exact K _ I2
set_option maxRecDepth 20000 in
theorem bl_43 {L : Nat} {xs : Nat → Int32} (hL : L ≤ 3072) {h : pm_H} {i : Nat} (hi : i + 6 ≤ L) (lv : List (Nat × Value)) (I : IVQ h) (L0 : pm_get lv 0 = some (.retAddr 0)) (L1 : pm_get lv 1 = some (.ref 0)) (L2 : pm_get lv 2 = some (.ref 77)) (L3 : pm_get lv 3 = some (.int (nJ i))) (K : ∀ h', IVQ h' → Ends (pm_tr (lb_all L xs)) (pm_Rt pm_P 100) (2392, lv, [], h', 599897, 7298671) RQ1) : Ends (pm_tr (lb_all L xs)) (pm_Rt pm_P 100) (1325, lv, [], h, 599897, 7298671) RQ1 := by
  refine E_al rfl L1 ?_
  refine E_call rfl (tQ_int (by decide +kernel) (by decide +kernel) I.2 (top_int (as := [.ref 0]) q534 (by decide +kernel) (by decide +kernel) I.1 ⟨rfl, trivial⟩)) (chkR (a := 0) I.1.1 rfl rfl rfl rfl (by show 0 ≤ 8; decide)) (fun h1 r1 => ?_)
  rintro ⟨I1, x1, f1⟩
  rw [f1]
  show Ends _ _ (1329, lv, [.int x1], h1, 599897, 7298671) _
  refine E_pop rfl rfl ?_
  refine E_al rfl L2 ?_
  refine E_call rfl (tQ_int (by decide +kernel) (by decide +kernel) I1.2 (top_int (as := [.ref 77]) q537 (by decide +kernel) (by decide +kernel) I1.1 ⟨rfl, trivial⟩)) (chkR (a := 77) I1.1.1 rfl rfl rfl rfl (by show 0 ≤ 8; decide)) (fun h2 r2 => ?_)
  rintro ⟨I2, x2, f2⟩
  rw [f2]
  show Ends _ _ (1334, lv, [.int x2], h2, 599897, 7298671) _
  refine E_pop rfl rfl ?_
  refine E_goto rfl ?_
  exact K _ I2
set_option maxRecDepth 20000 in
theorem bl_44 {L : Nat} {xs : Nat → Int32} (hL : L ≤ 3072) {h : pm_H} {i : Nat} (hi : i + 6 ≤ L) (lv : List (Nat × Value)) (I : IVQ h) (L0 : pm_get lv 0 = some (.retAddr 0)) (L1 : pm_get lv 1 = some (.ref 0)) (L2 : pm_get lv 2 = some (.ref 77)) (L3 : pm_get lv 3 = some (.int (nJ i))) (K : ∀ h', IVQ h' → Ends (pm_tr (lb_all L xs)) (pm_Rt pm_P 100) (2392, lv, [], h', 599897, 7298671) RQ1) : Ends (pm_tr (lb_all L xs)) (pm_Rt pm_P 100) (1338, lv, [], h, 599897, 7298671) RQ1 := by
  refine E_al rfl L1 ?_
  refine E_alr rfl L0 ?_
  refine E_il rfl L3 ?_
  refine E_ci 1 rfl ci1 ?_
  refine E_bin rfl (nJ_add _ _) ?_
  refine E_sld rfl (by omega) hL ?_
  refine E_call rfl (tQ_int (by decide +kernel) (by decide +kernel) I.2 (top_int (as := [.ref 0, .int (xs ((i + 1)))]) q540 (by decide +kernel) (by decide +kernel) I.1 ⟨rfl, aI _, trivial⟩)) (chkR (a := 0) I.1.1 rfl rfl rfl rfl (by show 0 ≤ 8; decide)) (fun h1 r1 => ?_)
  rintro ⟨I1, x1, f1⟩
  rw [f1]
  show Ends _ _ (1347, lv, [.int x1], h1, 599897, 7298671) _
  refine E_pop rfl rfl ?_
  refine E_al rfl L2 ?_
  refine E_alr rfl L0 ?_
  refine E_il rfl L3 ?_
  refine E_ci 1 rfl ci1 ?_
  refine E_bin rfl (nJ_add _ _) ?_
  refine E_sld rfl (by omega) hL ?_
  refine E_call rfl (tQ_int (by decide +kernel) (by decide +kernel) I1.2 (top_int (as := [.ref 77, .int (xs ((i + 1)))]) q544 (by decide +kernel) (by decide +kernel) I1.1 ⟨rfl, aI _, trivial⟩)) (chkR (a := 77) I1.1.1 rfl rfl rfl rfl (by show 0 ≤ 8; decide)) (fun h2 r2 => ?_)
  rintro ⟨I2, x2, f2⟩
  rw [f2]
  show Ends _ _ (1357, lv, [.int x2], h2, 599897, 7298671) _
  refine E_pop rfl rfl ?_
  refine E_goto rfl ?_
  exact K _ I2
set_option maxRecDepth 20000 in
theorem bl_45 {L : Nat} {xs : Nat → Int32} (hL : L ≤ 3072) {h : pm_H} {i : Nat} (hi : i + 6 ≤ L) (lv : List (Nat × Value)) (I : IVQ h) (L0 : pm_get lv 0 = some (.retAddr 0)) (L1 : pm_get lv 1 = some (.ref 0)) (L2 : pm_get lv 2 = some (.ref 77)) (L3 : pm_get lv 3 = some (.int (nJ i))) (K : ∀ h', IVQ h' → Ends (pm_tr (lb_all L xs)) (pm_Rt pm_P 100) (2392, lv, [], h', 599897, 7298671) RQ1) : Ends (pm_tr (lb_all L xs)) (pm_Rt pm_P 100) (1361, lv, [], h, 599897, 7298671) RQ1 := by
  refine E_al rfl L1 ?_
  refine E_call rfl (tQ_int (by decide +kernel) (by decide +kernel) I.2 (top_int (as := [.ref 0]) q550 (by decide +kernel) (by decide +kernel) I.1 ⟨rfl, trivial⟩)) (chkR (a := 0) I.1.1 rfl rfl rfl rfl (by show 0 ≤ 8; decide)) (fun h1 r1 => ?_)
  rintro ⟨I1, x1, f1⟩
  rw [f1]
  show Ends _ _ (1365, lv, [.int x1], h1, 599897, 7298671) _
  refine E_pop rfl rfl ?_
  refine E_al rfl L2 ?_
  refine E_call rfl (tQ_int (by decide +kernel) (by decide +kernel) I1.2 (top_int (as := [.ref 77]) q556 (by decide +kernel) (by decide +kernel) I1.1 ⟨rfl, trivial⟩)) (chkR (a := 77) I1.1.1 rfl rfl rfl rfl (by show 0 ≤ 8; decide)) (fun h2 r2 => ?_)
  rintro ⟨I2, x2, f2⟩
  rw [f2]
  show Ends _ _ (1370, lv, [.int x2], h2, 599897, 7298671) _
  refine E_pop rfl rfl ?_
  refine E_goto rfl ?_
  exact K _ I2
set_option maxRecDepth 20000 in
theorem bl_46 {L : Nat} {xs : Nat → Int32} (hL : L ≤ 3072) {h : pm_H} {i : Nat} (hi : i + 6 ≤ L) (lv : List (Nat × Value)) (I : IVQ h) (L0 : pm_get lv 0 = some (.retAddr 0)) (L1 : pm_get lv 1 = some (.ref 0)) (L2 : pm_get lv 2 = some (.ref 77)) (L3 : pm_get lv 3 = some (.int (nJ i))) (K : ∀ h', IVQ h' → Ends (pm_tr (lb_all L xs)) (pm_Rt pm_P 100) (2392, lv, [], h', 599897, 7298671) RQ1) : Ends (pm_tr (lb_all L xs)) (pm_Rt pm_P 100) (1374, lv, [], h, 599897, 7298671) RQ1 := by
  refine E_al rfl L1 ?_
  refine E_alr rfl L0 ?_
  refine E_il rfl L3 ?_
  refine E_ci 1 rfl ci1 ?_
  refine E_bin rfl (nJ_add _ _) ?_
  refine E_sld rfl (by omega) hL ?_
  refine E_alr rfl L0 ?_
  refine E_il rfl L3 ?_
  refine E_ci 2 rfl ci2 ?_
  refine E_bin rfl (nJ_add _ _) ?_
  refine E_sld rfl (by omega) hL ?_
  refine E_call rfl (tQ_int (by decide +kernel) (by decide +kernel) I.2 (top_int (as := [.ref 0, .int (xs ((i + 1))), .int (xs ((i + 2)))]) q558 (by decide +kernel) (by decide +kernel) I.1 ⟨rfl, aI _, aI _, trivial⟩)) (chkR (a := 0) I.1.1 rfl rfl rfl rfl (by show 0 ≤ 8; decide)) (fun h1 r1 => ?_)
  rintro ⟨I1, x1, f1⟩
  rw [f1]
  show Ends _ _ (1388, lv, [.int x1], h1, 599897, 7298671) _
  refine E_pop rfl rfl ?_
  refine E_al rfl L2 ?_
  refine E_alr rfl L0 ?_
  refine E_il rfl L3 ?_
  refine E_ci 1 rfl ci1 ?_
  refine E_bin rfl (nJ_add _ _) ?_
  refine E_sld rfl (by omega) hL ?_
  refine E_alr rfl L0 ?_
  refine E_il rfl L3 ?_
  refine E_ci 2 rfl ci2 ?_
  refine E_bin rfl (nJ_add _ _) ?_
  refine E_sld rfl (by omega) hL ?_
  refine E_call rfl (tQ_int (by decide +kernel) (by decide +kernel) I1.2 (top_int (as := [.ref 77, .int (xs ((i + 1))), .int (xs ((i + 2)))]) q564 (by decide +kernel) (by decide +kernel) I1.1 ⟨rfl, aI _, aI _, trivial⟩)) (chkR (a := 77) I1.1.1 rfl rfl rfl rfl (by show 0 ≤ 8; decide)) (fun h2 r2 => ?_)
  rintro ⟨I2, x2, f2⟩
  rw [f2]
  show Ends _ _ (1403, lv, [.int x2], h2, 599897, 7298671) _
  refine E_pop rfl rfl ?_
  refine E_goto rfl ?_
  exact K _ I2
set_option maxRecDepth 20000 in
theorem bl_47 {L : Nat} {xs : Nat → Int32} (hL : L ≤ 3072) {h : pm_H} {i : Nat} (hi : i + 6 ≤ L) (lv : List (Nat × Value)) (I : IVQ h) (L0 : pm_get lv 0 = some (.retAddr 0)) (L1 : pm_get lv 1 = some (.ref 0)) (L2 : pm_get lv 2 = some (.ref 77)) (L3 : pm_get lv 3 = some (.int (nJ i))) (K : ∀ h', IVQ h' → Ends (pm_tr (lb_all L xs)) (pm_Rt pm_P 100) (2392, lv, [], h', 599897, 7298671) RQ1) : Ends (pm_tr (lb_all L xs)) (pm_Rt pm_P 100) (1407, lv, [], h, 599897, 7298671) RQ1 := by
  refine E_al rfl L1 ?_
  refine E_alr rfl L0 ?_
  refine E_il rfl L3 ?_
  refine E_ci 1 rfl ci1 ?_
  refine E_bin rfl (nJ_add _ _) ?_
  refine E_sld rfl (by omega) hL ?_
  refine E_alr rfl L0 ?_
  refine E_il rfl L3 ?_
  refine E_ci 2 rfl ci2 ?_
  refine E_bin rfl (nJ_add _ _) ?_
  refine E_sld rfl (by omega) hL ?_
  refine E_call rfl (tQ_int (by decide +kernel) (by decide +kernel) I.2 (top_int (as := [.ref 0, .int (xs ((i + 1))), .int (xs ((i + 2)))]) q566 (by decide +kernel) (by decide +kernel) I.1 ⟨rfl, aI _, aI _, trivial⟩)) (chkR (a := 0) I.1.1 rfl rfl rfl rfl (by show 0 ≤ 8; decide)) (fun h1 r1 => ?_)
  rintro ⟨I1, x1, f1⟩
  rw [f1]
  show Ends _ _ (1421, lv, [.int x1], h1, 599897, 7298671) _
  refine E_pop rfl rfl ?_
  refine E_al rfl L2 ?_
  refine E_alr rfl L0 ?_
  refine E_il rfl L3 ?_
  refine E_ci 1 rfl ci1 ?_
  refine E_bin rfl (nJ_add _ _) ?_
  refine E_sld rfl (by omega) hL ?_
  refine E_alr rfl L0 ?_
  refine E_il rfl L3 ?_
  refine E_ci 2 rfl ci2 ?_
  refine E_bin rfl (nJ_add _ _) ?_
  refine E_sld rfl (by omega) hL ?_
  refine E_call rfl (tQ_int (by decide +kernel) (by decide +kernel) I1.2 (top_int (as := [.ref 77, .int (xs ((i + 1))), .int (xs ((i + 2)))]) q568 (by decide +kernel) (by decide +kernel) I1.1 ⟨rfl, aI _, aI _, trivial⟩)) (chkR (a := 77) I1.1.1 rfl rfl rfl rfl (by show 0 ≤ 8; decide)) (fun h2 r2 => ?_)
  rintro ⟨I2, x2, f2⟩
  rw [f2]
  show Ends _ _ (1436, lv, [.int x2], h2, 599897, 7298671) _
  refine E_pop rfl rfl ?_
  refine E_goto rfl ?_
  exact K _ I2
set_option maxRecDepth 20000 in
theorem bl_48 {L : Nat} {xs : Nat → Int32} (hL : L ≤ 3072) {h : pm_H} {i : Nat} (hi : i + 6 ≤ L) (lv : List (Nat × Value)) (I : IVQ h) (L0 : pm_get lv 0 = some (.retAddr 0)) (L1 : pm_get lv 1 = some (.ref 0)) (L2 : pm_get lv 2 = some (.ref 77)) (L3 : pm_get lv 3 = some (.int (nJ i))) (K : ∀ h', IVQ h' → Ends (pm_tr (lb_all L xs)) (pm_Rt pm_P 100) (2392, lv, [], h', 599897, 7298671) RQ1) : Ends (pm_tr (lb_all L xs)) (pm_Rt pm_P 100) (1440, lv, [], h, 599897, 7298671) RQ1 := by
  refine E_al rfl L1 ?_
  refine E_call rfl (tQ_int (by decide +kernel) (by decide +kernel) I.2 (top_int (as := [.ref 0]) q576 (by decide +kernel) (by decide +kernel) I.1 ⟨rfl, trivial⟩)) (chkR (a := 0) I.1.1 rfl rfl rfl rfl (by show 0 ≤ 8; decide)) (fun h1 r1 => ?_)
  rintro ⟨I1, x1, f1⟩
  rw [f1]
  show Ends _ _ (1444, lv, [.int x1], h1, 599897, 7298671) _
  refine E_pop rfl rfl ?_
  refine E_al rfl L2 ?_
  refine E_call rfl (tQ_int (by decide +kernel) (by decide +kernel) I1.2 (top_int (as := [.ref 77]) q577 (by decide +kernel) (by decide +kernel) I1.1 ⟨rfl, trivial⟩)) (chkR (a := 77) I1.1.1 rfl rfl rfl rfl (by show 0 ≤ 8; decide)) (fun h2 r2 => ?_)
  rintro ⟨I2, x2, f2⟩
  rw [f2]
  show Ends _ _ (1449, lv, [.int x2], h2, 599897, 7298671) _
  refine E_pop rfl rfl ?_
  refine E_goto rfl ?_
  exact K _ I2
set_option maxRecDepth 20000 in
theorem bl_49 {L : Nat} {xs : Nat → Int32} (hL : L ≤ 3072) {h : pm_H} {i : Nat} (hi : i + 6 ≤ L) (lv : List (Nat × Value)) (I : IVQ h) (L0 : pm_get lv 0 = some (.retAddr 0)) (L1 : pm_get lv 1 = some (.ref 0)) (L2 : pm_get lv 2 = some (.ref 77)) (L3 : pm_get lv 3 = some (.int (nJ i))) (K : ∀ h', IVQ h' → Ends (pm_tr (lb_all L xs)) (pm_Rt pm_P 100) (2392, lv, [], h', 599897, 7298671) RQ1) : Ends (pm_tr (lb_all L xs)) (pm_Rt pm_P 100) (1453, lv, [], h, 599897, 7298671) RQ1 := by
  refine E_al rfl L1 ?_
  refine E_alr rfl L0 ?_
  refine E_il rfl L3 ?_
  refine E_ci 1 rfl ci1 ?_
  refine E_bin rfl (nJ_add _ _) ?_
  refine E_sld rfl (by omega) hL ?_
  refine E_call rfl (tQ_int (by decide +kernel) (by decide +kernel) I.2 (top_int (as := [.ref 0, .int (xs ((i + 1)))]) q580 (by decide +kernel) (by decide +kernel) I.1 ⟨rfl, aI _, trivial⟩)) (chkR (a := 0) I.1.1 rfl rfl rfl rfl (by show 0 ≤ 8; decide)) (fun h1 r1 => ?_)
  rintro ⟨I1, x1, f1⟩
  rw [f1]
  show Ends _ _ (1462, lv, [.int x1], h1, 599897, 7298671) _
  refine E_pop rfl rfl ?_
  refine E_al rfl L2 ?_
  refine E_alr rfl L0 ?_
  refine E_il rfl L3 ?_
  refine E_ci 1 rfl ci1 ?_
  refine E_bin rfl (nJ_add _ _) ?_
  refine E_sld rfl (by omega) hL ?_
  refine E_call rfl (tQ_int (by decide +kernel) (by decide +kernel) I1.2 (top_int (as := [.ref 77, .int (xs ((i + 1)))]) q585 (by decide +kernel) (by decide +kernel) I1.1 ⟨rfl, aI _, trivial⟩)) (chkR (a := 77) I1.1.1 rfl rfl rfl rfl (by show 0 ≤ 8; decide)) (fun h2 r2 => ?_)
  rintro ⟨I2, x2, f2⟩
  rw [f2]
  show Ends _ _ (1472, lv, [.int x2], h2, 599897, 7298671) _
  refine E_pop rfl rfl ?_
  refine E_goto rfl ?_
  exact K _ I2
set_option maxRecDepth 20000 in
theorem bl_50 {L : Nat} {xs : Nat → Int32} (hL : L ≤ 3072) {h : pm_H} {i : Nat} (hi : i + 6 ≤ L) (lv : List (Nat × Value)) (I : IVQ h) (L0 : pm_get lv 0 = some (.retAddr 0)) (L1 : pm_get lv 1 = some (.ref 0)) (L2 : pm_get lv 2 = some (.ref 77)) (L3 : pm_get lv 3 = some (.int (nJ i))) (K : ∀ h', IVQ h' → Ends (pm_tr (lb_all L xs)) (pm_Rt pm_P 100) (2392, lv, [], h', 599897, 7298671) RQ1) : Ends (pm_tr (lb_all L xs)) (pm_Rt pm_P 100) (1476, lv, [], h, 599897, 7298671) RQ1 := by
  refine E_al rfl L1 ?_
  refine E_alr rfl L0 ?_
  refine E_il rfl L3 ?_
  refine E_ci 1 rfl ci1 ?_
  refine E_bin rfl (nJ_add _ _) ?_
  refine E_sld rfl (by omega) hL ?_
  refine E_alr rfl L0 ?_
  refine E_il rfl L3 ?_
  refine E_ci 2 rfl ci2 ?_
  refine E_bin rfl (nJ_add _ _) ?_
  refine E_sld rfl (by omega) hL ?_
  refine E_call rfl (tQ_int (by decide +kernel) (by decide +kernel) I.2 (top_int (as := [.ref 0, .int (xs ((i + 1))), .int (xs ((i + 2)))]) q593 (by decide +kernel) (by decide +kernel) I.1 ⟨rfl, aI _, aI _, trivial⟩)) (chkR (a := 0) I.1.1 rfl rfl rfl rfl (by show 0 ≤ 8; decide)) (fun h1 r1 => ?_)
  rintro ⟨I1, x1, f1⟩
  rw [f1]
  show Ends _ _ (1490, lv, [.int x1], h1, 599897, 7298671) _
  refine E_pop rfl rfl ?_
  refine E_al rfl L2 ?_
  refine E_alr rfl L0 ?_
  refine E_il rfl L3 ?_
  refine E_ci 1 rfl ci1 ?_
  refine E_bin rfl (nJ_add _ _) ?_
  refine E_sld rfl (by omega) hL ?_
  refine E_alr rfl L0 ?_
  refine E_il rfl L3 ?_
  refine E_ci 2 rfl ci2 ?_
  refine E_bin rfl (nJ_add _ _) ?_
  refine E_sld rfl (by omega) hL ?_
  refine E_call rfl (tQ_int (by decide +kernel) (by decide +kernel) I1.2 (top_int (as := [.ref 77, .int (xs ((i + 1))), .int (xs ((i + 2)))]) q595 (by decide +kernel) (by decide +kernel) I1.1 ⟨rfl, aI _, aI _, trivial⟩)) (chkR (a := 77) I1.1.1 rfl rfl rfl rfl (by show 0 ≤ 8; decide)) (fun h2 r2 => ?_)
  rintro ⟨I2, x2, f2⟩
  rw [f2]
  show Ends _ _ (1505, lv, [.int x2], h2, 599897, 7298671) _
  refine E_pop rfl rfl ?_
  refine E_goto rfl ?_
  exact K _ I2
set_option maxRecDepth 20000 in
theorem bl_51 {L : Nat} {xs : Nat → Int32} (hL : L ≤ 3072) {h : pm_H} {i : Nat} (hi : i + 6 ≤ L) (lv : List (Nat × Value)) (I : IVQ h) (L0 : pm_get lv 0 = some (.retAddr 0)) (L1 : pm_get lv 1 = some (.ref 0)) (L2 : pm_get lv 2 = some (.ref 77)) (L3 : pm_get lv 3 = some (.int (nJ i))) (K : ∀ h', IVQ h' → Ends (pm_tr (lb_all L xs)) (pm_Rt pm_P 100) (2392, lv, [], h', 599897, 7298671) RQ1) : Ends (pm_tr (lb_all L xs)) (pm_Rt pm_P 100) (1509, lv, [], h, 599897, 7298671) RQ1 := by
  refine E_al rfl L1 ?_
  refine E_call rfl (tQ_int (by decide +kernel) (by decide +kernel) I.2 (top_int (as := [.ref 0]) q599 (by decide +kernel) (by decide +kernel) I.1 ⟨rfl, trivial⟩)) (chkR (a := 0) I.1.1 rfl rfl rfl rfl (by show 0 ≤ 8; decide)) (fun h1 r1 => ?_)
  rintro ⟨I1, x1, f1⟩
  rw [f1]
  show Ends _ _ (1513, lv, [.int x1], h1, 599897, 7298671) _
  refine E_pop rfl rfl ?_
  refine E_al rfl L2 ?_
  refine E_call rfl (tQ_int (by decide +kernel) (by decide +kernel) I1.2 (top_int (as := [.ref 77]) q602 (by decide +kernel) (by decide +kernel) I1.1 ⟨rfl, trivial⟩)) (chkR (a := 77) I1.1.1 rfl rfl rfl rfl (by show 0 ≤ 8; decide)) (fun h2 r2 => ?_)
  rintro ⟨I2, x2, f2⟩
  rw [f2]
  show Ends _ _ (1518, lv, [.int x2], h2, 599897, 7298671) _
  refine E_pop rfl rfl ?_
  refine E_goto rfl ?_
  exact K _ I2
set_option maxRecDepth 20000 in
theorem bl_52 {L : Nat} {xs : Nat → Int32} (hL : L ≤ 3072) {h : pm_H} {i : Nat} (hi : i + 6 ≤ L) (lv : List (Nat × Value)) (I : IVQ h) (L0 : pm_get lv 0 = some (.retAddr 0)) (L1 : pm_get lv 1 = some (.ref 0)) (L2 : pm_get lv 2 = some (.ref 77)) (L3 : pm_get lv 3 = some (.int (nJ i))) (K : ∀ h', IVQ h' → Ends (pm_tr (lb_all L xs)) (pm_Rt pm_P 100) (2392, lv, [], h', 599897, 7298671) RQ1) : Ends (pm_tr (lb_all L xs)) (pm_Rt pm_P 100) (1522, lv, [], h, 599897, 7298671) RQ1 := by
  refine E_al rfl L1 ?_
  refine E_call rfl (tQ_int (by decide +kernel) (by decide +kernel) I.2 (top_int (as := [.ref 0]) q603 (by decide +kernel) (by decide +kernel) I.1 ⟨rfl, trivial⟩)) (chkR (a := 0) I.1.1 rfl rfl rfl rfl (by show 0 ≤ 8; decide)) (fun h1 r1 => ?_)
  rintro ⟨I1, x1, f1⟩
  rw [f1]
  show Ends _ _ (1526, lv, [.int x1], h1, 599897, 7298671) _
  refine E_pop rfl rfl ?_
  refine E_al rfl L2 ?_
  refine E_call rfl (tQ_int (by decide +kernel) (by decide +kernel) I1.2 (top_int (as := [.ref 77]) q604 (by decide +kernel) (by decide +kernel) I1.1 ⟨rfl, trivial⟩)) (chkR (a := 77) I1.1.1 rfl rfl rfl rfl (by show 0 ≤ 8; decide)) (fun h2 r2 => ?_)
  rintro ⟨I2, x2, f2⟩
  rw [f2]
  show Ends _ _ (1531, lv, [.int x2], h2, 599897, 7298671) _
  refine E_pop rfl rfl ?_
  refine E_goto rfl ?_
  exact K _ I2
set_option maxRecDepth 20000 in
theorem bl_53 {L : Nat} {xs : Nat → Int32} (hL : L ≤ 3072) {h : pm_H} {i : Nat} (hi : i + 6 ≤ L) (lv : List (Nat × Value)) (I : IVQ h) (L0 : pm_get lv 0 = some (.retAddr 0)) (L1 : pm_get lv 1 = some (.ref 0)) (L2 : pm_get lv 2 = some (.ref 77)) (L3 : pm_get lv 3 = some (.int (nJ i))) (K : ∀ h', IVQ h' → Ends (pm_tr (lb_all L xs)) (pm_Rt pm_P 100) (2392, lv, [], h', 599897, 7298671) RQ1) : Ends (pm_tr (lb_all L xs)) (pm_Rt pm_P 100) (1535, lv, [], h, 599897, 7298671) RQ1 := by
  refine E_al rfl L1 ?_
  refine E_call rfl (tQ_int (by decide +kernel) (by decide +kernel) I.2 (top_int (as := [.ref 0]) q605 (by decide +kernel) (by decide +kernel) I.1 ⟨rfl, trivial⟩)) (chkR (a := 0) I.1.1 rfl rfl rfl rfl (by show 0 ≤ 8; decide)) (fun h1 r1 => ?_)
  rintro ⟨I1, x1, f1⟩
  rw [f1]
  show Ends _ _ (1539, lv, [.int x1], h1, 599897, 7298671) _
  refine E_pop rfl rfl ?_
  refine E_al rfl L2 ?_
  refine E_call rfl (tQ_int (by decide +kernel) (by decide +kernel) I1.2 (top_int (as := [.ref 77]) q606 (by decide +kernel) (by decide +kernel) I1.1 ⟨rfl, trivial⟩)) (chkR (a := 77) I1.1.1 rfl rfl rfl rfl (by show 0 ≤ 8; decide)) (fun h2 r2 => ?_)
  rintro ⟨I2, x2, f2⟩
  rw [f2]
  show Ends _ _ (1544, lv, [.int x2], h2, 599897, 7298671) _
  refine E_pop rfl rfl ?_
  refine E_goto rfl ?_
  exact K _ I2
set_option maxRecDepth 20000 in
theorem bl_54 {L : Nat} {xs : Nat → Int32} (hL : L ≤ 3072) {h : pm_H} {i : Nat} (hi : i + 6 ≤ L) (lv : List (Nat × Value)) (I : IVQ h) (L0 : pm_get lv 0 = some (.retAddr 0)) (L1 : pm_get lv 1 = some (.ref 0)) (L2 : pm_get lv 2 = some (.ref 77)) (L3 : pm_get lv 3 = some (.int (nJ i))) (K : ∀ h', IVQ h' → Ends (pm_tr (lb_all L xs)) (pm_Rt pm_P 100) (2392, lv, [], h', 599897, 7298671) RQ1) : Ends (pm_tr (lb_all L xs)) (pm_Rt pm_P 100) (1548, lv, [], h, 599897, 7298671) RQ1 := by
  refine E_al rfl L1 ?_
  refine E_call rfl (tQ_int (by decide +kernel) (by decide +kernel) I.2 (top_int (as := [.ref 0]) q615 (by decide +kernel) (by decide +kernel) I.1 ⟨rfl, trivial⟩)) (chkR (a := 0) I.1.1 rfl rfl rfl rfl (by show 0 ≤ 8; decide)) (fun h1 r1 => ?_)
  rintro ⟨I1, x1, f1⟩
  rw [f1]
  show Ends _ _ (1552, lv, [.int x1], h1, 599897, 7298671) _
  refine E_pop rfl rfl ?_
  refine E_al rfl L2 ?_
  refine E_call rfl (tQ_int (by decide +kernel) (by decide +kernel) I1.2 (top_int (as := [.ref 77]) q619 (by decide +kernel) (by decide +kernel) I1.1 ⟨rfl, trivial⟩)) (chkR (a := 77) I1.1.1 rfl rfl rfl rfl (by show 0 ≤ 8; decide)) (fun h2 r2 => ?_)
  rintro ⟨I2, x2, f2⟩
  rw [f2]
  show Ends _ _ (1557, lv, [.int x2], h2, 599897, 7298671) _
  refine E_pop rfl rfl ?_
  refine E_goto rfl ?_
  exact K _ I2
set_option maxRecDepth 20000 in
theorem bl_55 {L : Nat} {xs : Nat → Int32} (hL : L ≤ 3072) {h : pm_H} {i : Nat} (hi : i + 6 ≤ L) (lv : List (Nat × Value)) (I : IVQ h) (L0 : pm_get lv 0 = some (.retAddr 0)) (L1 : pm_get lv 1 = some (.ref 0)) (L2 : pm_get lv 2 = some (.ref 77)) (L3 : pm_get lv 3 = some (.int (nJ i))) (K : ∀ h', IVQ h' → Ends (pm_tr (lb_all L xs)) (pm_Rt pm_P 100) (2392, lv, [], h', 599897, 7298671) RQ1) : Ends (pm_tr (lb_all L xs)) (pm_Rt pm_P 100) (1561, lv, [], h, 599897, 7298671) RQ1 := by
  refine E_al rfl L1 ?_
  refine E_call rfl (tQ_int (by decide +kernel) (by decide +kernel) I.2 (top_int (as := [.ref 0]) q621 (by decide +kernel) (by decide +kernel) I.1 ⟨rfl, trivial⟩)) (chkR (a := 0) I.1.1 rfl rfl rfl rfl (by show 0 ≤ 8; decide)) (fun h1 r1 => ?_)
  rintro ⟨I1, x1, f1⟩
  rw [f1]
  show Ends _ _ (1565, lv, [.int x1], h1, 599897, 7298671) _
  refine E_pop rfl rfl ?_
  refine E_al rfl L2 ?_
  refine E_call rfl (tQ_int (by decide +kernel) (by decide +kernel) I1.2 (top_int (as := [.ref 77]) q623 (by decide +kernel) (by decide +kernel) I1.1 ⟨rfl, trivial⟩)) (chkR (a := 77) I1.1.1 rfl rfl rfl rfl (by show 0 ≤ 8; decide)) (fun h2 r2 => ?_)
  rintro ⟨I2, x2, f2⟩
  rw [f2]
  show Ends _ _ (1570, lv, [.int x2], h2, 599897, 7298671) _
  refine E_pop rfl rfl ?_
  refine E_goto rfl ?_
  exact K _ I2
set_option maxRecDepth 20000 in
theorem bl_56 {L : Nat} {xs : Nat → Int32} (hL : L ≤ 3072) {h : pm_H} {i : Nat} (hi : i + 6 ≤ L) (lv : List (Nat × Value)) (I : IVQ h) (L0 : pm_get lv 0 = some (.retAddr 0)) (L1 : pm_get lv 1 = some (.ref 0)) (L2 : pm_get lv 2 = some (.ref 77)) (L3 : pm_get lv 3 = some (.int (nJ i))) (K : ∀ h', IVQ h' → Ends (pm_tr (lb_all L xs)) (pm_Rt pm_P 100) (2392, lv, [], h', 599897, 7298671) RQ1) : Ends (pm_tr (lb_all L xs)) (pm_Rt pm_P 100) (1574, lv, [], h, 599897, 7298671) RQ1 := by
  refine E_al rfl L1 ?_
  refine E_call rfl (tQ_int (by decide +kernel) (by decide +kernel) I.2 (top_int (as := [.ref 0]) q626 (by decide +kernel) (by decide +kernel) I.1 ⟨rfl, trivial⟩)) (chkR (a := 0) I.1.1 rfl rfl rfl rfl (by show 0 ≤ 8; decide)) (fun h1 r1 => ?_)
  rintro ⟨I1, x1, f1⟩
  rw [f1]
  show Ends _ _ (1578, lv, [.int x1], h1, 599897, 7298671) _
  refine E_pop rfl rfl ?_
  refine E_al rfl L2 ?_
  refine E_call rfl (tQ_int (by decide +kernel) (by decide +kernel) I1.2 (top_int (as := [.ref 77]) q627 (by decide +kernel) (by decide +kernel) I1.1 ⟨rfl, trivial⟩)) (chkR (a := 77) I1.1.1 rfl rfl rfl rfl (by show 0 ≤ 8; decide)) (fun h2 r2 => ?_)
  rintro ⟨I2, x2, f2⟩
  rw [f2]
  show Ends _ _ (1583, lv, [.int x2], h2, 599897, 7298671) _
  refine E_pop rfl rfl ?_
  refine E_goto rfl ?_
  exact K _ I2
set_option maxRecDepth 20000 in
theorem bl_57 {L : Nat} {xs : Nat → Int32} (hL : L ≤ 3072) {h : pm_H} {i : Nat} (hi : i + 6 ≤ L) (lv : List (Nat × Value)) (I : IVQ h) (L0 : pm_get lv 0 = some (.retAddr 0)) (L1 : pm_get lv 1 = some (.ref 0)) (L2 : pm_get lv 2 = some (.ref 77)) (L3 : pm_get lv 3 = some (.int (nJ i))) (K : ∀ h', IVQ h' → Ends (pm_tr (lb_all L xs)) (pm_Rt pm_P 100) (2392, lv, [], h', 599897, 7298671) RQ1) : Ends (pm_tr (lb_all L xs)) (pm_Rt pm_P 100) (1587, lv, [], h, 599897, 7298671) RQ1 := by
  refine E_al rfl L1 ?_
  refine E_alr rfl L0 ?_
  refine E_il rfl L3 ?_
  refine E_ci 1 rfl ci1 ?_
  refine E_bin rfl (nJ_add _ _) ?_
  refine E_sld rfl (by omega) hL ?_
  refine E_alr rfl L0 ?_
  refine E_il rfl L3 ?_
  refine E_ci 2 rfl ci2 ?_
  refine E_bin rfl (nJ_add _ _) ?_
  refine E_sld rfl (by omega) hL ?_
  refine E_call rfl (tQ_int (by decide +kernel) (by decide +kernel) I.2 (top_int (as := [.ref 0, .int (xs ((i + 1))), .int (xs ((i + 2)))]) q638 (by decide +kernel) (by decide +kernel) I.1 ⟨rfl, aI _, aI _, trivial⟩)) (chkR (a := 0) I.1.1 rfl rfl rfl rfl (by show 0 ≤ 8; decide)) (fun h1 r1 => ?_)
  rintro ⟨I1, x1, f1⟩
  rw [f1]
  show Ends _ _ (1601, lv, [.int x1], h1, 599897, 7298671) _
  refine E_pop rfl rfl ?_
  refine E_al rfl L2 ?_
  refine E_alr rfl L0 ?_
  refine E_il rfl L3 ?_
  refine E_ci 1 rfl ci1 ?_
  refine E_bin rfl (nJ_add _ _) ?_
  refine E_sld rfl (by omega) hL ?_
  refine E_alr rfl L0 ?_
  refine E_il rfl L3 ?_
  refine E_ci 2 rfl ci2 ?_
  refine E_bin rfl (nJ_add _ _) ?_
  refine E_sld rfl (by omega) hL ?_
  refine E_call rfl (tQ_int (by decide +kernel) (by decide +kernel) I1.2 (top_int (as := [.ref 77, .int (xs ((i + 1))), .int (xs ((i + 2)))]) q656 (by decide +kernel) (by decide +kernel) I1.1 ⟨rfl, aI _, aI _, trivial⟩)) (chkR (a := 77) I1.1.1 rfl rfl rfl rfl (by show 0 ≤ 8; decide)) (fun h2 r2 => ?_)
  rintro ⟨I2, x2, f2⟩
  rw [f2]
  show Ends _ _ (1616, lv, [.int x2], h2, 599897, 7298671) _
  refine E_pop rfl rfl ?_
  refine E_goto rfl ?_
  exact K _ I2
set_option maxRecDepth 20000 in
theorem bl_58 {L : Nat} {xs : Nat → Int32} (hL : L ≤ 3072) {h : pm_H} {i : Nat} (hi : i + 6 ≤ L) (lv : List (Nat × Value)) (I : IVQ h) (L0 : pm_get lv 0 = some (.retAddr 0)) (L1 : pm_get lv 1 = some (.ref 0)) (L2 : pm_get lv 2 = some (.ref 77)) (L3 : pm_get lv 3 = some (.int (nJ i))) (K : ∀ h', IVQ h' → Ends (pm_tr (lb_all L xs)) (pm_Rt pm_P 100) (2392, lv, [], h', 599897, 7298671) RQ1) : Ends (pm_tr (lb_all L xs)) (pm_Rt pm_P 100) (1620, lv, [], h, 599897, 7298671) RQ1 := by
  refine E_al rfl L1 ?_
  refine E_alr rfl L0 ?_
  refine E_il rfl L3 ?_
  refine E_ci 1 rfl ci1 ?_
  refine E_bin rfl (nJ_add _ _) ?_
  refine E_sld rfl (by omega) hL ?_
  refine E_alr rfl L0 ?_
  refine E_il rfl L3 ?_
  refine E_ci 2 rfl ci2 ?_
  refine E_bin rfl (nJ_add _ _) ?_
  refine E_sld rfl (by omega) hL ?_
  refine E_call rfl (tQ_int (by decide +kernel) (by decide +kernel) I.2 (top_int (as := [.ref 0, .int (xs ((i + 1))), .int (xs ((i + 2)))]) q661 (by decide +kernel) (by decide +kernel) I.1 ⟨rfl, aI _, aI _, trivial⟩)) (chkR (a := 0) I.1.1 rfl rfl rfl rfl (by show 0 ≤ 8; decide)) (fun h1 r1 => ?_)
  rintro ⟨I1, x1, f1⟩
  rw [f1]
  show Ends _ _ (1634, lv, [.int x1], h1, 599897, 7298671) _
  refine E_pop rfl rfl ?_
  refine E_al rfl L2 ?_
  refine E_alr rfl L0 ?_
  refine E_il rfl L3 ?_
  refine E_ci 1 rfl ci1 ?_
  refine E_bin rfl (nJ_add _ _) ?_
  refine E_sld rfl (by omega) hL ?_
  refine E_alr rfl L0 ?_
  refine E_il rfl L3 ?_
  refine E_ci 2 rfl ci2 ?_
  refine E_bin rfl (nJ_add _ _) ?_
  refine E_sld rfl (by omega) hL ?_
  refine E_call rfl (tQ_int (by decide +kernel) (by decide +kernel) I1.2 (top_int (as := [.ref 77, .int (xs ((i + 1))), .int (xs ((i + 2)))]) q662 (by decide +kernel) (by decide +kernel) I1.1 ⟨rfl, aI _, aI _, trivial⟩)) (chkR (a := 77) I1.1.1 rfl rfl rfl rfl (by show 0 ≤ 8; decide)) (fun h2 r2 => ?_)
  rintro ⟨I2, x2, f2⟩
  rw [f2]
  show Ends _ _ (1649, lv, [.int x2], h2, 599897, 7298671) _
  refine E_pop rfl rfl ?_
  refine E_goto rfl ?_
  exact K _ I2
set_option maxRecDepth 20000 in
theorem bl_59 {L : Nat} {xs : Nat → Int32} (hL : L ≤ 3072) {h : pm_H} {i : Nat} (hi : i + 6 ≤ L) (lv : List (Nat × Value)) (I : IVQ h) (L0 : pm_get lv 0 = some (.retAddr 0)) (L1 : pm_get lv 1 = some (.ref 0)) (L2 : pm_get lv 2 = some (.ref 77)) (L3 : pm_get lv 3 = some (.int (nJ i))) (K : ∀ h', IVQ h' → Ends (pm_tr (lb_all L xs)) (pm_Rt pm_P 100) (2392, lv, [], h', 599897, 7298671) RQ1) : Ends (pm_tr (lb_all L xs)) (pm_Rt pm_P 100) (1653, lv, [], h, 599897, 7298671) RQ1 := by
  refine E_al rfl L1 ?_
  refine E_alr rfl L0 ?_
  refine E_il rfl L3 ?_
  refine E_ci 1 rfl ci1 ?_
  refine E_bin rfl (nJ_add _ _) ?_
  refine E_sld rfl (by omega) hL ?_
  refine E_alr rfl L0 ?_
  refine E_il rfl L3 ?_
  refine E_ci 2 rfl ci2 ?_
  refine E_bin rfl (nJ_add _ _) ?_
  refine E_sld rfl (by omega) hL ?_
  refine E_call rfl (tQ_int (by decide +kernel) (by decide +kernel) I.2 (top_int (as := [.ref 0, .int (xs ((i + 1))), .int (xs ((i + 2)))]) q664 (by decide +kernel) (by decide +kernel) I.1 ⟨rfl, aI _, aI _, trivial⟩)) (chkR (a := 0) I.1.1 rfl rfl rfl rfl (by show 0 ≤ 8; decide)) (fun h1 r1 => ?_)
  rintro ⟨I1, x1, f1⟩
  rw [f1]
  show Ends _ _ (1667, lv, [.int x1], h1, 599897, 7298671) _
  refine E_pop rfl rfl ?_
  refine E_al rfl L2 ?_
  refine E_alr rfl L0 ?_
  refine E_il rfl L3 ?_
  refine E_ci 1 rfl ci1 ?_
  refine E_bin rfl (nJ_add _ _) ?_
  refine E_sld rfl (by omega) hL ?_
  refine E_alr rfl L0 ?_
  refine E_il rfl L3 ?_
  refine E_ci 2 rfl ci2 ?_
  refine E_bin rfl (nJ_add _ _) ?_
  refine E_sld rfl (by omega) hL ?_
  refine E_call rfl (tQ_int (by decide +kernel) (by decide +kernel) I1.2 (top_int (as := [.ref 77, .int (xs ((i + 1))), .int (xs ((i + 2)))]) q665 (by decide +kernel) (by decide +kernel) I1.1 ⟨rfl, aI _, aI _, trivial⟩)) (chkR (a := 77) I1.1.1 rfl rfl rfl rfl (by show 0 ≤ 8; decide)) (fun h2 r2 => ?_)
  rintro ⟨I2, x2, f2⟩
  rw [f2]
  show Ends _ _ (1682, lv, [.int x2], h2, 599897, 7298671) _
  refine E_pop rfl rfl ?_
  refine E_goto rfl ?_
  exact K _ I2
set_option maxRecDepth 20000 in
theorem bl_60 {L : Nat} {xs : Nat → Int32} (hL : L ≤ 3072) {h : pm_H} {i : Nat} (hi : i + 6 ≤ L) (lv : List (Nat × Value)) (I : IVQ h) (L0 : pm_get lv 0 = some (.retAddr 0)) (L1 : pm_get lv 1 = some (.ref 0)) (L2 : pm_get lv 2 = some (.ref 77)) (L3 : pm_get lv 3 = some (.int (nJ i))) (K : ∀ h', IVQ h' → Ends (pm_tr (lb_all L xs)) (pm_Rt pm_P 100) (2392, lv, [], h', 599897, 7298671) RQ1) : Ends (pm_tr (lb_all L xs)) (pm_Rt pm_P 100) (1686, lv, [], h, 599897, 7298671) RQ1 := by
  refine E_al rfl L1 ?_
  refine E_alr rfl L0 ?_
  refine E_il rfl L3 ?_
  refine E_ci 1 rfl ci1 ?_
  refine E_bin rfl (nJ_add _ _) ?_
  refine E_sld rfl (by omega) hL ?_
  refine E_call rfl (tQ_int (by decide +kernel) (by decide +kernel) I.2 (top_int (as := [.ref 0, .int (xs ((i + 1)))]) q667 (by decide +kernel) (by decide +kernel) I.1 ⟨rfl, aI _, trivial⟩)) (chkR (a := 0) I.1.1 rfl rfl rfl rfl (by show 0 ≤ 8; decide)) (fun h1 r1 => ?_)
  rintro ⟨I1, x1, f1⟩
  rw [f1]
  show Ends _ _ (1695, lv, [.int x1], h1, 599897, 7298671) _
  refine E_pop rfl rfl ?_
  refine E_al rfl L2 ?_
  refine E_alr rfl L0 ?_
  refine E_il rfl L3 ?_
  refine E_ci 1 rfl ci1 ?_
  refine E_bin rfl (nJ_add _ _) ?_
  refine E_sld rfl (by omega) hL ?_
  refine E_call rfl (tQ_int (by decide +kernel) (by decide +kernel) I1.2 (top_int (as := [.ref 77, .int (xs ((i + 1)))]) q669 (by decide +kernel) (by decide +kernel) I1.1 ⟨rfl, aI _, trivial⟩)) (chkR (a := 77) I1.1.1 rfl rfl rfl rfl (by show 0 ≤ 8; decide)) (fun h2 r2 => ?_)
  rintro ⟨I2, x2, f2⟩
  rw [f2]
  show Ends _ _ (1705, lv, [.int x2], h2, 599897, 7298671) _
  refine E_pop rfl rfl ?_
  refine E_goto rfl ?_
  exact K _ I2
set_option maxRecDepth 20000 in
theorem bl_61 {L : Nat} {xs : Nat → Int32} (hL : L ≤ 3072) {h : pm_H} {i : Nat} (hi : i + 6 ≤ L) (lv : List (Nat × Value)) (I : IVQ h) (L0 : pm_get lv 0 = some (.retAddr 0)) (L1 : pm_get lv 1 = some (.ref 0)) (L2 : pm_get lv 2 = some (.ref 77)) (L3 : pm_get lv 3 = some (.int (nJ i))) (K : ∀ h', IVQ h' → Ends (pm_tr (lb_all L xs)) (pm_Rt pm_P 100) (2392, lv, [], h', 599897, 7298671) RQ1) : Ends (pm_tr (lb_all L xs)) (pm_Rt pm_P 100) (1709, lv, [], h, 599897, 7298671) RQ1 := by
  refine E_al rfl L1 ?_
  refine E_alr rfl L0 ?_
  refine E_il rfl L3 ?_
  refine E_ci 1 rfl ci1 ?_
  refine E_bin rfl (nJ_add _ _) ?_
  refine E_sld rfl (by omega) hL ?_
  refine E_call rfl (tQ_int (by decide +kernel) (by decide +kernel) I.2 (top_int (as := [.ref 0, .int (xs ((i + 1)))]) q670 (by decide +kernel) (by decide +kernel) I.1 ⟨rfl, aI _, trivial⟩)) (chkR (a := 0) I.1.1 rfl rfl rfl rfl (by show 0 ≤ 8; decide)) (fun h1 r1 => ?_)
  rintro ⟨I1, x1, f1⟩
  rw [f1]
  show Ends _ _ (1718, lv, [.int x1], h1, 599897, 7298671) _
  refine E_pop rfl rfl ?_
  refine E_al rfl L2 ?_
  refine E_alr rfl L0 ?_
  refine E_il rfl L3 ?_
  refine E_ci 1 rfl ci1 ?_
  refine E_bin rfl (nJ_add _ _) ?_
  refine E_sld rfl (by omega) hL ?_
  refine E_call rfl (tQ_int (by decide +kernel) (by decide +kernel) I1.2 (top_int (as := [.ref 77, .int (xs ((i + 1)))]) q671 (by decide +kernel) (by decide +kernel) I1.1 ⟨rfl, aI _, trivial⟩)) (chkR (a := 77) I1.1.1 rfl rfl rfl rfl (by show 0 ≤ 8; decide)) (fun h2 r2 => ?_)
  rintro ⟨I2, x2, f2⟩
  rw [f2]
  show Ends _ _ (1728, lv, [.int x2], h2, 599897, 7298671) _
  refine E_pop rfl rfl ?_
  refine E_goto rfl ?_
  exact K _ I2
set_option maxRecDepth 20000 in
theorem bl_62 {L : Nat} {xs : Nat → Int32} (hL : L ≤ 3072) {h : pm_H} {i : Nat} (hi : i + 6 ≤ L) (lv : List (Nat × Value)) (I : IVQ h) (L0 : pm_get lv 0 = some (.retAddr 0)) (L1 : pm_get lv 1 = some (.ref 0)) (L2 : pm_get lv 2 = some (.ref 77)) (L3 : pm_get lv 3 = some (.int (nJ i))) (K : ∀ h', IVQ h' → Ends (pm_tr (lb_all L xs)) (pm_Rt pm_P 100) (2392, lv, [], h', 599897, 7298671) RQ1) : Ends (pm_tr (lb_all L xs)) (pm_Rt pm_P 100) (1732, lv, [], h, 599897, 7298671) RQ1 := by
  refine E_al rfl L1 ?_
  refine E_call rfl (tQ_int (by decide +kernel) (by decide +kernel) I.2 (top_int (as := [.ref 0]) q675 (by decide +kernel) (by decide +kernel) I.1 ⟨rfl, trivial⟩)) (chkR (a := 0) I.1.1 rfl rfl rfl rfl (by show 0 ≤ 8; decide)) (fun h1 r1 => ?_)
  rintro ⟨I1, x1, f1⟩
  rw [f1]
  show Ends _ _ (1736, lv, [.int x1], h1, 599897, 7298671) _
  refine E_pop rfl rfl ?_
  refine E_al rfl L2 ?_
  refine E_call rfl (tQ_int (by decide +kernel) (by decide +kernel) I1.2 (top_int (as := [.ref 77]) q676 (by decide +kernel) (by decide +kernel) I1.1 ⟨rfl, trivial⟩)) (chkR (a := 77) I1.1.1 rfl rfl rfl rfl (by show 0 ≤ 8; decide)) (fun h2 r2 => ?_)
  rintro ⟨I2, x2, f2⟩
  rw [f2]
  show Ends _ _ (1741, lv, [.int x2], h2, 599897, 7298671) _
  refine E_pop rfl rfl ?_
  refine E_goto rfl ?_
  exact K _ I2
set_option maxRecDepth 20000 in
theorem bl_63 {L : Nat} {xs : Nat → Int32} (hL : L ≤ 3072) {h : pm_H} {i : Nat} (hi : i + 6 ≤ L) (lv : List (Nat × Value)) (I : IVQ h) (L0 : pm_get lv 0 = some (.retAddr 0)) (L1 : pm_get lv 1 = some (.ref 0)) (L2 : pm_get lv 2 = some (.ref 77)) (L3 : pm_get lv 3 = some (.int (nJ i))) (K : ∀ h', IVQ h' → Ends (pm_tr (lb_all L xs)) (pm_Rt pm_P 100) (2392, lv, [], h', 599897, 7298671) RQ1) : Ends (pm_tr (lb_all L xs)) (pm_Rt pm_P 100) (1745, lv, [], h, 599897, 7298671) RQ1 := by
  refine E_al rfl L1 ?_
  refine E_alr rfl L0 ?_
  refine E_il rfl L3 ?_
  refine E_ci 1 rfl ci1 ?_
  refine E_bin rfl (nJ_add _ _) ?_
  refine E_sld rfl (by omega) hL ?_
  refine E_call rfl (tQ_int (by decide +kernel) (by decide +kernel) I.2 (top_int (as := [.ref 0, .int (xs ((i + 1)))]) q677 (by decide +kernel) (by decide +kernel) I.1 ⟨rfl, aI _, trivial⟩)) (chkR (a := 0) I.1.1 rfl rfl rfl rfl (by show 0 ≤ 8; decide)) (fun h1 r1 => ?_)
  rintro ⟨I1, x1, f1⟩
  rw [f1]
  show Ends _ _ (1754, lv, [.int x1], h1, 599897, 7298671) _
  refine E_pop rfl rfl ?_
  refine E_al rfl L2 ?_
  refine E_alr rfl L0 ?_
  refine E_il rfl L3 ?_
  refine E_ci 1 rfl ci1 ?_
  refine E_bin rfl (nJ_add _ _) ?_
  refine E_sld rfl (by omega) hL ?_
  refine E_call rfl (tQ_int (by decide +kernel) (by decide +kernel) I1.2 (top_int (as := [.ref 77, .int (xs ((i + 1)))]) q680 (by decide +kernel) (by decide +kernel) I1.1 ⟨rfl, aI _, trivial⟩)) (chkR (a := 77) I1.1.1 rfl rfl rfl rfl (by show 0 ≤ 8; decide)) (fun h2 r2 => ?_)
  rintro ⟨I2, x2, f2⟩
  rw [f2]
  show Ends _ _ (1764, lv, [.int x2], h2, 599897, 7298671) _
  refine E_pop rfl rfl ?_
  refine E_goto rfl ?_
  exact K _ I2
set_option maxRecDepth 20000 in
theorem bl_64 {L : Nat} {xs : Nat → Int32} (hL : L ≤ 3072) {h : pm_H} {i : Nat} (hi : i + 6 ≤ L) (lv : List (Nat × Value)) (I : IVQ h) (L0 : pm_get lv 0 = some (.retAddr 0)) (L1 : pm_get lv 1 = some (.ref 0)) (L2 : pm_get lv 2 = some (.ref 77)) (L3 : pm_get lv 3 = some (.int (nJ i))) (K : ∀ h', IVQ h' → Ends (pm_tr (lb_all L xs)) (pm_Rt pm_P 100) (2392, lv, [], h', 599897, 7298671) RQ1) : Ends (pm_tr (lb_all L xs)) (pm_Rt pm_P 100) (1768, lv, [], h, 599897, 7298671) RQ1 := by
  refine E_al rfl L1 ?_
  refine E_alr rfl L0 ?_
  refine E_il rfl L3 ?_
  refine E_ci 1 rfl ci1 ?_
  refine E_bin rfl (nJ_add _ _) ?_
  refine E_sld rfl (by omega) hL ?_
  refine E_alr rfl L0 ?_
  refine E_il rfl L3 ?_
  refine E_ci 2 rfl ci2 ?_
  refine E_bin rfl (nJ_add _ _) ?_
  refine E_sld rfl (by omega) hL ?_
  refine E_call rfl (tQ_int (by decide +kernel) (by decide +kernel) I.2 (top_int (as := [.ref 0, .int (xs ((i + 1))), .int (xs ((i + 2)))]) q730 (by decide +kernel) (by decide +kernel) I.1 ⟨rfl, aI _, aI _, trivial⟩)) (chkR (a := 0) I.1.1 rfl rfl rfl rfl (by show 0 ≤ 8; decide)) (fun h1 r1 => ?_)
  rintro ⟨I1, x1, f1⟩
  rw [f1]
  show Ends _ _ (1782, lv, [.int x1], h1, 599897, 7298671) _
  refine E_pop rfl rfl ?_
  refine E_al rfl L2 ?_
  refine E_alr rfl L0 ?_
  refine E_il rfl L3 ?_
  refine E_ci 1 rfl ci1 ?_
  refine E_bin rfl (nJ_add _ _) ?_
  refine E_sld rfl (by omega) hL ?_
  refine E_alr rfl L0 ?_
  refine E_il rfl L3 ?_
  refine E_ci 2 rfl ci2 ?_
  refine E_bin rfl (nJ_add _ _) ?_
  refine E_sld rfl (by omega) hL ?_
  refine E_call rfl (tQ_int (by decide +kernel) (by decide +kernel) I1.2 (top_int (as := [.ref 77, .int (xs ((i + 1))), .int (xs ((i + 2)))]) q964 (by decide +kernel) (by decide +kernel) I1.1 ⟨rfl, aI _, aI _, trivial⟩)) (chkR (a := 77) I1.1.1 rfl rfl rfl rfl (by show 0 ≤ 8; decide)) (fun h2 r2 => ?_)
  rintro ⟨I2, x2, f2⟩
  rw [f2]
  show Ends _ _ (1797, lv, [.int x2], h2, 599897, 7298671) _
  refine E_pop rfl rfl ?_
  refine E_goto rfl ?_
  exact K _ I2
set_option maxRecDepth 20000 in
theorem bl_65 {L : Nat} {xs : Nat → Int32} (hL : L ≤ 3072) {h : pm_H} {i : Nat} (hi : i + 6 ≤ L) (lv : List (Nat × Value)) (I : IVQ h) (L0 : pm_get lv 0 = some (.retAddr 0)) (L1 : pm_get lv 1 = some (.ref 0)) (L2 : pm_get lv 2 = some (.ref 77)) (L3 : pm_get lv 3 = some (.int (nJ i))) (K : ∀ h', IVQ h' → Ends (pm_tr (lb_all L xs)) (pm_Rt pm_P 100) (2392, lv, [], h', 599897, 7298671) RQ1) : Ends (pm_tr (lb_all L xs)) (pm_Rt pm_P 100) (1801, lv, [], h, 599897, 7298671) RQ1 := by
  refine E_al rfl L1 ?_
  refine E_alr rfl L0 ?_
  refine E_il rfl L3 ?_
  refine E_ci 1 rfl ci1 ?_
  refine E_bin rfl (nJ_add _ _) ?_
  refine E_sld rfl (by omega) hL ?_
  refine E_alr rfl L0 ?_
  refine E_il rfl L3 ?_
  refine E_ci 2 rfl ci2 ?_
  refine E_bin rfl (nJ_add _ _) ?_
  refine E_sld rfl (by omega) hL ?_
  refine E_call rfl (tQ_int (by decide +kernel) (by decide +kernel) I.2 (top_int (as := [.ref 0, .int (xs ((i + 1))), .int (xs ((i + 2)))]) q754 (by decide +kernel) (by decide +kernel) I.1 ⟨rfl, aI _, aI _, trivial⟩)) (chkR (a := 0) I.1.1 rfl rfl rfl rfl (by show 0 ≤ 8; decide)) (fun h1 r1 => ?_)
  rintro ⟨I1, x1, f1⟩
  rw [f1]
  show Ends _ _ (1815, lv, [.int x1], h1, 599897, 7298671) _
  refine E_pop rfl rfl ?_
  refine E_al rfl L2 ?_
  refine E_alr rfl L0 ?_
  refine E_il rfl L3 ?_
  refine E_ci 1 rfl ci1 ?_
  refine E_bin rfl (nJ_add _ _) ?_
  refine E_sld rfl (by omega) hL ?_
  refine E_alr rfl L0 ?_
  refine E_il rfl L3 ?_
  refine E_ci 2 rfl ci2 ?_
  refine E_bin rfl (nJ_add _ _) ?_
  refine E_sld rfl (by omega) hL ?_
  refine E_call rfl (tQ_int (by decide +kernel) (by decide +kernel) I1.2 (top_int (as := [.ref 77, .int (xs ((i + 1))), .int (xs ((i + 2)))]) q761 (by decide +kernel) (by decide +kernel) I1.1 ⟨rfl, aI _, aI _, trivial⟩)) (chkR (a := 77) I1.1.1 rfl rfl rfl rfl (by show 0 ≤ 8; decide)) (fun h2 r2 => ?_)
  rintro ⟨I2, x2, f2⟩
  rw [f2]
  show Ends _ _ (1830, lv, [.int x2], h2, 599897, 7298671) _
  refine E_pop rfl rfl ?_
  refine E_goto rfl ?_
  exact K _ I2
set_option maxRecDepth 20000 in
theorem bl_66 {L : Nat} {xs : Nat → Int32} (hL : L ≤ 3072) {h : pm_H} {i : Nat} (hi : i + 6 ≤ L) (lv : List (Nat × Value)) (I : IVQ h) (L0 : pm_get lv 0 = some (.retAddr 0)) (L1 : pm_get lv 1 = some (.ref 0)) (L2 : pm_get lv 2 = some (.ref 77)) (L3 : pm_get lv 3 = some (.int (nJ i))) (K : ∀ h', IVQ h' → Ends (pm_tr (lb_all L xs)) (pm_Rt pm_P 100) (2392, lv, [], h', 599897, 7298671) RQ1) : Ends (pm_tr (lb_all L xs)) (pm_Rt pm_P 100) (1834, lv, [], h, 599897, 7298671) RQ1 := by
  refine E_al rfl L1 ?_
  refine E_alr rfl L0 ?_
  refine E_il rfl L3 ?_
  refine E_ci 1 rfl ci1 ?_
  refine E_bin rfl (nJ_add _ _) ?_
  refine E_sld rfl (by omega) hL ?_
  refine E_alr rfl L0 ?_
  refine E_il rfl L3 ?_
  refine E_ci 2 rfl ci2 ?_
  refine E_bin rfl (nJ_add _ _) ?_
  refine E_sld rfl (by omega) hL ?_
  refine E_alr rfl L0 ?_
  refine E_il rfl L3 ?_
  refine E_ci 3 rfl ci3 ?_
  refine E_bin rfl (nJ_add _ _) ?_
  refine E_sld rfl (by omega) hL ?_
  refine E_alr rfl L0 ?_
  refine E_il rfl L3 ?_
  refine E_ci 4 rfl ci4 ?_
  refine E_bin rfl (nJ_add _ _) ?_
  refine E_sld rfl (by omega) hL ?_
  refine E_call rfl (tQ_int (by decide +kernel) (by decide +kernel) I.2 (top_int (as := [.ref 0, .int (xs ((i + 1))), .int (xs ((i + 2))), .int (xs ((i + 3))), .int (xs ((i + 4)))]) q764 (by decide +kernel) (by decide +kernel) I.1 ⟨rfl, aI _, aI _, aI _, aI _, trivial⟩)) (chkR (a := 0) I.1.1 rfl rfl rfl rfl (by show 0 ≤ 8; decide)) (fun h1 r1 => ?_)
  rintro ⟨I1, x1, f1⟩
  rw [f1]
  show Ends _ _ (1858, lv, [.int x1], h1, 599897, 7298671) _
  refine E_pop rfl rfl ?_
  refine E_al rfl L2 ?_
  refine E_alr rfl L0 ?_
  refine E_il rfl L3 ?_
  refine E_ci 1 rfl ci1 ?_
  refine E_bin rfl (nJ_add _ _) ?_
  refine E_sld rfl (by omega) hL ?_
  refine E_alr rfl L0 ?_
  refine E_il rfl L3 ?_
  refine E_ci 2 rfl ci2 ?_
  refine E_bin rfl (nJ_add _ _) ?_
  refine E_sld rfl (by omega) hL ?_
  refine E_alr rfl L0 ?_
  refine E_il rfl L3 ?_
  refine E_ci 3 rfl ci3 ?_
  refine E_bin rfl (nJ_add _ _) ?_
  refine E_sld rfl (by omega) hL ?_
  refine E_alr rfl L0 ?_
  refine E_il rfl L3 ?_
  refine E_ci 4 rfl ci4 ?_
  refine E_bin rfl (nJ_add _ _) ?_
  refine E_sld rfl (by omega) hL ?_
  refine E_call rfl (tQ_int (by decide +kernel) (by decide +kernel) I1.2 (top_int (as := [.ref 77, .int (xs ((i + 1))), .int (xs ((i + 2))), .int (xs ((i + 3))), .int (xs ((i + 4)))]) q767 (by decide +kernel) (by decide +kernel) I1.1 ⟨rfl, aI _, aI _, aI _, aI _, trivial⟩)) (chkR (a := 77) I1.1.1 rfl rfl rfl rfl (by show 0 ≤ 8; decide)) (fun h2 r2 => ?_)
  rintro ⟨I2, x2, f2⟩
  rw [f2]
  show Ends _ _ (1883, lv, [.int x2], h2, 599897, 7298671) _
  refine E_pop rfl rfl ?_
  refine E_goto rfl ?_
  exact K _ I2
set_option maxRecDepth 20000 in
theorem bl_67 {L : Nat} {xs : Nat → Int32} (hL : L ≤ 3072) {h : pm_H} {i : Nat} (hi : i + 6 ≤ L) (lv : List (Nat × Value)) (I : IVQ h) (L0 : pm_get lv 0 = some (.retAddr 0)) (L1 : pm_get lv 1 = some (.ref 0)) (L2 : pm_get lv 2 = some (.ref 77)) (L3 : pm_get lv 3 = some (.int (nJ i))) (K : ∀ h', IVQ h' → Ends (pm_tr (lb_all L xs)) (pm_Rt pm_P 100) (2392, lv, [], h', 599897, 7298671) RQ1) : Ends (pm_tr (lb_all L xs)) (pm_Rt pm_P 100) (1887, lv, [], h, 599897, 7298671) RQ1 := by
  refine E_al rfl L1 ?_
  refine E_alr rfl L0 ?_
  refine E_il rfl L3 ?_
  refine E_ci 1 rfl ci1 ?_
  refine E_bin rfl (nJ_add _ _) ?_
  refine E_sld rfl (by omega) hL ?_
  refine E_alr rfl L0 ?_
  refine E_il rfl L3 ?_
  refine E_ci 2 rfl ci2 ?_
  refine E_bin rfl (nJ_add _ _) ?_
  refine E_sld rfl (by omega) hL ?_
  refine E_call rfl (tQ_int (by decide +kernel) (by decide +kernel) I.2 (top_int (as := [.ref 0, .int (xs ((i + 1))), .int (xs ((i + 2)))]) q779 (by decide +kernel) (by decide +kernel) I.1 ⟨rfl, aI _, aI _, trivial⟩)) (chkR (a := 0) I.1.1 rfl rfl rfl rfl (by show 0 ≤ 8; decide)) (fun h1 r1 => ?_)
  rintro ⟨I1, x1, f1⟩
  rw [f1]
  show Ends _ _ (1901, lv, [.int x1], h1, 599897, 7298671) _
  refine E_pop rfl rfl ?_
  refine E_al rfl L2 ?_
  refine E_alr rfl L0 ?_
  refine E_il rfl L3 ?_
  refine E_ci 1 rfl ci1 ?_
  refine E_bin rfl (nJ_add _ _) ?_
  refine E_sld rfl (by omega) hL ?_
  refine E_alr rfl L0 ?_
  refine E_il rfl L3 ?_
  refine E_ci 2 rfl ci2 ?_
  refine E_bin rfl (nJ_add _ _) ?_
  refine E_sld rfl (by omega) hL ?_
  refine E_call rfl (tQ_int (by decide +kernel) (by decide +kernel) I1.2 (top_int (as := [.ref 77, .int (xs ((i + 1))), .int (xs ((i + 2)))]) q966 (by decide +kernel) (by decide +kernel) I1.1 ⟨rfl, aI _, aI _, trivial⟩)) (chkR (a := 77) I1.1.1 rfl rfl rfl rfl (by show 0 ≤ 8; decide)) (fun h2 r2 => ?_)
  rintro ⟨I2, x2, f2⟩
  rw [f2]
  show Ends _ _ (1916, lv, [.int x2], h2, 599897, 7298671) _
  refine E_pop rfl rfl ?_
  refine E_goto rfl ?_
  exact K _ I2
set_option maxRecDepth 20000 in
theorem bl_68 {L : Nat} {xs : Nat → Int32} (hL : L ≤ 3072) {h : pm_H} {i : Nat} (hi : i + 6 ≤ L) (lv : List (Nat × Value)) (I : IVQ h) (L0 : pm_get lv 0 = some (.retAddr 0)) (L1 : pm_get lv 1 = some (.ref 0)) (L2 : pm_get lv 2 = some (.ref 77)) (L3 : pm_get lv 3 = some (.int (nJ i))) (K : ∀ h', IVQ h' → Ends (pm_tr (lb_all L xs)) (pm_Rt pm_P 100) (2392, lv, [], h', 599897, 7298671) RQ1) : Ends (pm_tr (lb_all L xs)) (pm_Rt pm_P 100) (1920, lv, [], h, 599897, 7298671) RQ1 := by
  refine E_al rfl L1 ?_
  refine E_alr rfl L0 ?_
  refine E_il rfl L3 ?_
  refine E_ci 1 rfl ci1 ?_
  refine E_bin rfl (nJ_add _ _) ?_
  refine E_sld rfl (by omega) hL ?_
  refine E_call rfl (tQ_lng (by decide +kernel) (by decide +kernel) I.2 (top_lng (as := [.ref 0, .int (xs ((i + 1)))]) q844 (by decide +kernel) (by decide +kernel) I.1 ⟨rfl, aI _, trivial⟩)) (chkR (a := 0) I.1.1 rfl rfl rfl rfl (by show 0 ≤ 8; decide)) (fun h1 r1 => ?_)
  rintro ⟨I1, x1, f1⟩
  rw [f1]
  show Ends _ _ (1929, lv, [.long x1], h1, 599897, 7298671) _
  refine E_pop2 rfl rfl ?_
  refine E_al rfl L2 ?_
  refine E_alr rfl L0 ?_
  refine E_il rfl L3 ?_
  refine E_ci 1 rfl ci1 ?_
  refine E_bin rfl (nJ_add _ _) ?_
  refine E_sld rfl (by omega) hL ?_
  refine E_call rfl (tQ_lng (by decide +kernel) (by decide +kernel) I1.2 (top_lng (as := [.ref 77, .int (xs ((i + 1)))]) q967 (by decide +kernel) (by decide +kernel) I1.1 ⟨rfl, aI _, trivial⟩)) (chkR (a := 77) I1.1.1 rfl rfl rfl rfl (by show 0 ≤ 8; decide)) (fun h2 r2 => ?_)
  rintro ⟨I2, x2, f2⟩
  rw [f2]
  show Ends _ _ (1939, lv, [.long x2], h2, 599897, 7298671) _
  refine E_pop2 rfl rfl ?_
  refine E_goto rfl ?_
  exact K _ I2
set_option maxRecDepth 20000 in
theorem bl_69 {L : Nat} {xs : Nat → Int32} (hL : L ≤ 3072) {h : pm_H} {i : Nat} (hi : i + 6 ≤ L) (lv : List (Nat × Value)) (I : IVQ h) (L0 : pm_get lv 0 = some (.retAddr 0)) (L1 : pm_get lv 1 = some (.ref 0)) (L2 : pm_get lv 2 = some (.ref 77)) (L3 : pm_get lv 3 = some (.int (nJ i))) (K : ∀ h', IVQ h' → Ends (pm_tr (lb_all L xs)) (pm_Rt pm_P 100) (2392, lv, [], h', 599897, 7298671) RQ1) : Ends (pm_tr (lb_all L xs)) (pm_Rt pm_P 100) (1943, lv, [], h, 599897, 7298671) RQ1 := by
  refine E_al rfl L1 ?_
  refine E_alr rfl L0 ?_
  refine E_il rfl L3 ?_
  refine E_ci 1 rfl ci1 ?_
  refine E_bin rfl (nJ_add _ _) ?_
  refine E_sld rfl (by omega) hL ?_
  refine E_alr rfl L0 ?_
  refine E_il rfl L3 ?_
  refine E_ci 2 rfl ci2 ?_
  refine E_bin rfl (nJ_add _ _) ?_
  refine E_sld rfl (by omega) hL ?_
  refine E_call rfl (g8_wants I) (chkR (a := 0) I.1.1 rfl rfl rfl rfl (by show 0 ≤ 8; decide)) (fun h1 r1 => ?_)
  rintro ⟨I1, x1, f1, J1⟩
  rw [f1]
  show Ends _ _ (1957, lv, [.int x1], h1, 599897, 7298671) _
  refine E_pop rfl rfl ?_
  refine E_al rfl L2 ?_
  refine E_alr rfl L0 ?_
  refine E_il rfl L3 ?_
  refine E_ci 1 rfl ci1 ?_
  refine E_bin rfl (nJ_add _ _) ?_
  refine E_sld rfl (by omega) hL ?_
  refine E_alr rfl L0 ?_
  refine E_il rfl L3 ?_
  refine E_ci 2 rfl ci2 ?_
  refine E_bin rfl (nJ_add _ _) ?_
  refine E_sld rfl (by omega) hL ?_
  refine E_call rfl (g9_wants I1 J1) (chkR (a := 77) I1.1 rfl rfl rfl rfl (by show 0 ≤ 8; decide)) (fun h2 r2 => ?_)
  rintro ⟨I2, x2, f2⟩
  rw [f2]
  show Ends _ _ (1972, lv, [.int x2], h2, 599897, 7298671) _
  refine E_pop rfl rfl ?_
  refine E_goto rfl ?_
  exact K _ I2
set_option maxRecDepth 20000 in
theorem bl_70 {L : Nat} {xs : Nat → Int32} (hL : L ≤ 3072) {h : pm_H} {i : Nat} (hi : i + 6 ≤ L) (lv : List (Nat × Value)) (I : IVQ h) (L0 : pm_get lv 0 = some (.retAddr 0)) (L1 : pm_get lv 1 = some (.ref 0)) (L2 : pm_get lv 2 = some (.ref 77)) (L3 : pm_get lv 3 = some (.int (nJ i))) (K : ∀ h', IVQ h' → Ends (pm_tr (lb_all L xs)) (pm_Rt pm_P 100) (2392, lv, [], h', 599897, 7298671) RQ1) : Ends (pm_tr (lb_all L xs)) (pm_Rt pm_P 100) (1976, lv, [], h, 599897, 7298671) RQ1 := by
  refine E_al rfl L1 ?_
  refine E_alr rfl L0 ?_
  refine E_il rfl L3 ?_
  refine E_ci 1 rfl ci1 ?_
  refine E_bin rfl (nJ_add _ _) ?_
  refine E_sld rfl (by omega) hL ?_
  refine E_alr rfl L0 ?_
  refine E_il rfl L3 ?_
  refine E_ci 2 rfl ci2 ?_
  refine E_bin rfl (nJ_add _ _) ?_
  refine E_sld rfl (by omega) hL ?_
  refine E_call rfl (g8_trades I) (chkR (a := 0) I.1.1 rfl rfl rfl rfl (by show 0 ≤ 8; decide)) (fun h1 r1 => ?_)
  rintro ⟨I1, x1, f1, J1⟩
  rw [f1]
  show Ends _ _ (1990, lv, [.int x1], h1, 599897, 7298671) _
  refine E_pop rfl rfl ?_
  refine E_al rfl L2 ?_
  refine E_alr rfl L0 ?_
  refine E_il rfl L3 ?_
  refine E_ci 1 rfl ci1 ?_
  refine E_bin rfl (nJ_add _ _) ?_
  refine E_sld rfl (by omega) hL ?_
  refine E_alr rfl L0 ?_
  refine E_il rfl L3 ?_
  refine E_ci 2 rfl ci2 ?_
  refine E_bin rfl (nJ_add _ _) ?_
  refine E_sld rfl (by omega) hL ?_
  refine E_call rfl (g9_trades I1 J1) (chkR (a := 77) I1.1 rfl rfl rfl rfl (by show 0 ≤ 8; decide)) (fun h2 r2 => ?_)
  rintro ⟨I2, x2, f2⟩
  rw [f2]
  show Ends _ _ (2005, lv, [.int x2], h2, 599897, 7298671) _
  refine E_pop rfl rfl ?_
  refine E_goto rfl ?_
  exact K _ I2
set_option maxRecDepth 20000 in
theorem bl_71 {L : Nat} {xs : Nat → Int32} (hL : L ≤ 3072) {h : pm_H} {i : Nat} (hi : i + 6 ≤ L) (lv : List (Nat × Value)) (I : IVQ h) (L0 : pm_get lv 0 = some (.retAddr 0)) (L1 : pm_get lv 1 = some (.ref 0)) (L2 : pm_get lv 2 = some (.ref 77)) (L3 : pm_get lv 3 = some (.int (nJ i))) (K : ∀ h', IVQ h' → Ends (pm_tr (lb_all L xs)) (pm_Rt pm_P 100) (2392, lv, [], h', 599897, 7298671) RQ1) : Ends (pm_tr (lb_all L xs)) (pm_Rt pm_P 100) (2009, lv, [], h, 599897, 7298671) RQ1 := by
  refine E_al rfl L1 ?_
  refine E_call rfl (g8_undo I) (chkR (a := 0) I.1.1 rfl rfl rfl rfl (by show 0 ≤ 8; decide)) (fun h1 r1 => ?_)
  rintro ⟨I1, x1, f1, J1⟩
  rw [f1]
  show Ends _ _ (2013, lv, [.int x1], h1, 599897, 7298671) _
  refine E_pop rfl rfl ?_
  refine E_al rfl L2 ?_
  refine E_call rfl (g9_undo I1 J1) (chkR (a := 77) I1.1 rfl rfl rfl rfl (by show 0 ≤ 8; decide)) (fun h2 r2 => ?_)
  rintro ⟨I2, f2⟩
  rw [f2]
  show Ends _ _ (2018, lv, [.int x1], h2, 599897, 7298671) _
  refine E_pop rfl rfl ?_
  refine E_goto rfl ?_
  exact K _ I2
set_option maxRecDepth 20000 in
theorem bl_72 {L : Nat} {xs : Nat → Int32} (hL : L ≤ 3072) {h : pm_H} {i : Nat} (hi : i + 6 ≤ L) (lv : List (Nat × Value)) (I : IVQ h) (L0 : pm_get lv 0 = some (.retAddr 0)) (L1 : pm_get lv 1 = some (.ref 0)) (L2 : pm_get lv 2 = some (.ref 77)) (L3 : pm_get lv 3 = some (.int (nJ i))) (K : ∀ h', IVQ h' → Ends (pm_tr (lb_all L xs)) (pm_Rt pm_P 100) (2392, lv, [], h', 599897, 7298671) RQ1) : Ends (pm_tr (lb_all L xs)) (pm_Rt pm_P 100) (2022, lv, [], h, 599897, 7298671) RQ1 := by
  refine E_al rfl L1 ?_
  refine E_call rfl (g8_anew I) (chkR (a := 0) I.1.1 rfl rfl rfl rfl (by show 0 ≤ 8; decide)) (fun h1 r1 => ?_)
  rintro ⟨I1, x1, f1, J1⟩
  rw [f1]
  show Ends _ _ (2026, lv, [.int x1], h1, 599897, 7298671) _
  refine E_pop rfl rfl ?_
  refine E_al rfl L2 ?_
  refine E_call rfl (g9_anew I1 J1) (chkR (a := 77) I1.1 rfl rfl rfl rfl (by show 0 ≤ 8; decide)) (fun h2 r2 => ?_)
  rintro ⟨I2, f2⟩
  rw [f2]
  show Ends _ _ (2031, lv, [.int x1], h2, 599897, 7298671) _
  refine E_pop rfl rfl ?_
  refine E_goto rfl ?_
  exact K _ I2
set_option maxRecDepth 20000 in
theorem bl_73 {L : Nat} {xs : Nat → Int32} (hL : L ≤ 3072) {h : pm_H} {i : Nat} (hi : i + 6 ≤ L) (lv : List (Nat × Value)) (I : IVQ h) (L0 : pm_get lv 0 = some (.retAddr 0)) (L1 : pm_get lv 1 = some (.ref 0)) (L2 : pm_get lv 2 = some (.ref 77)) (L3 : pm_get lv 3 = some (.int (nJ i))) (K : ∀ h', IVQ h' → Ends (pm_tr (lb_all L xs)) (pm_Rt pm_P 100) (2392, lv, [], h', 599897, 7298671) RQ1) : Ends (pm_tr (lb_all L xs)) (pm_Rt pm_P 100) (2035, lv, [], h, 599897, 7298671) RQ1 := by
  refine E_al rfl L1 ?_
  refine E_alr rfl L0 ?_
  refine E_il rfl L3 ?_
  refine E_ci 1 rfl ci1 ?_
  refine E_bin rfl (nJ_add _ _) ?_
  refine E_sld rfl (by omega) hL ?_
  refine E_alr rfl L0 ?_
  refine E_il rfl L3 ?_
  refine E_ci 2 rfl ci2 ?_
  refine E_bin rfl (nJ_add _ _) ?_
  refine E_sld rfl (by omega) hL ?_
  refine E_call rfl (tQ_int (by decide +kernel) (by decide +kernel) I.2 (top_int (as := [.ref 0, .int (xs ((i + 1))), .int (xs ((i + 2)))]) q885 (by decide +kernel) (by decide +kernel) I.1 ⟨rfl, aI _, aI _, trivial⟩)) (chkR (a := 0) I.1.1 rfl rfl rfl rfl (by show 0 ≤ 8; decide)) (fun h1 r1 => ?_)
  rintro ⟨I1, x1, f1⟩
  rw [f1]
  show Ends _ _ (2049, lv, [.int x1], h1, 599897, 7298671) _
  refine E_pop rfl rfl ?_
  refine E_al rfl L2 ?_
  refine E_alr rfl L0 ?_
  refine E_il rfl L3 ?_
  refine E_ci 1 rfl ci1 ?_
  refine E_bin rfl (nJ_add _ _) ?_
  refine E_sld rfl (by omega) hL ?_
  refine E_alr rfl L0 ?_
  refine E_il rfl L3 ?_
  refine E_ci 2 rfl ci2 ?_
  refine E_bin rfl (nJ_add _ _) ?_
  refine E_sld rfl (by omega) hL ?_
  refine E_call rfl (tQ_int (by decide +kernel) (by decide +kernel) I1.2 (top_int (as := [.ref 77, .int (xs ((i + 1))), .int (xs ((i + 2)))]) q889 (by decide +kernel) (by decide +kernel) I1.1 ⟨rfl, aI _, aI _, trivial⟩)) (chkR (a := 77) I1.1.1 rfl rfl rfl rfl (by show 0 ≤ 8; decide)) (fun h2 r2 => ?_)
  rintro ⟨I2, x2, f2⟩
  rw [f2]
  show Ends _ _ (2064, lv, [.int x2], h2, 599897, 7298671) _
  refine E_pop rfl rfl ?_
  refine E_goto rfl ?_
  exact K _ I2
set_option maxRecDepth 20000 in
theorem bl_74 {L : Nat} {xs : Nat → Int32} (hL : L ≤ 3072) {h : pm_H} {i : Nat} (hi : i + 6 ≤ L) (lv : List (Nat × Value)) (I : IVQ h) (L0 : pm_get lv 0 = some (.retAddr 0)) (L1 : pm_get lv 1 = some (.ref 0)) (L2 : pm_get lv 2 = some (.ref 77)) (L3 : pm_get lv 3 = some (.int (nJ i))) (K : ∀ h', IVQ h' → Ends (pm_tr (lb_all L xs)) (pm_Rt pm_P 100) (2392, lv, [], h', 599897, 7298671) RQ1) : Ends (pm_tr (lb_all L xs)) (pm_Rt pm_P 100) (2068, lv, [], h, 599897, 7298671) RQ1 := by
  refine E_al rfl L1 ?_
  refine E_alr rfl L0 ?_
  refine E_il rfl L3 ?_
  refine E_ci 1 rfl ci1 ?_
  refine E_bin rfl (nJ_add _ _) ?_
  refine E_sld rfl (by omega) hL ?_
  refine E_alr rfl L0 ?_
  refine E_il rfl L3 ?_
  refine E_ci 2 rfl ci2 ?_
  refine E_bin rfl (nJ_add _ _) ?_
  refine E_sld rfl (by omega) hL ?_
  refine E_alr rfl L0 ?_
  refine E_il rfl L3 ?_
  refine E_ci 3 rfl ci3 ?_
  refine E_bin rfl (nJ_add _ _) ?_
  refine E_sld rfl (by omega) hL ?_
  refine E_call rfl (tQ_int (by decide +kernel) (by decide +kernel) I.2 (top_int (as := [.ref 0, .int (xs ((i + 1))), .int (xs ((i + 2))), .int (xs ((i + 3)))]) q891 (by decide +kernel) (by decide +kernel) I.1 ⟨rfl, aI _, aI _, aI _, trivial⟩)) (chkR (a := 0) I.1.1 rfl rfl rfl rfl (by show 0 ≤ 8; decide)) (fun h1 r1 => ?_)
  rintro ⟨I1, x1, f1⟩
  rw [f1]
  show Ends _ _ (2087, lv, [.int x1], h1, 599897, 7298671) _
  refine E_pop rfl rfl ?_
  refine E_al rfl L2 ?_
  refine E_alr rfl L0 ?_
  refine E_il rfl L3 ?_
  refine E_ci 1 rfl ci1 ?_
  refine E_bin rfl (nJ_add _ _) ?_
  refine E_sld rfl (by omega) hL ?_
  refine E_alr rfl L0 ?_
  refine E_il rfl L3 ?_
  refine E_ci 2 rfl ci2 ?_
  refine E_bin rfl (nJ_add _ _) ?_
  refine E_sld rfl (by omega) hL ?_
  refine E_alr rfl L0 ?_
  refine E_il rfl L3 ?_
  refine E_ci 3 rfl ci3 ?_
  refine E_bin rfl (nJ_add _ _) ?_
  refine E_sld rfl (by omega) hL ?_
  refine E_call rfl (tQ_int (by decide +kernel) (by decide +kernel) I1.2 (top_int (as := [.ref 77, .int (xs ((i + 1))), .int (xs ((i + 2))), .int (xs ((i + 3)))]) q894 (by decide +kernel) (by decide +kernel) I1.1 ⟨rfl, aI _, aI _, aI _, trivial⟩)) (chkR (a := 77) I1.1.1 rfl rfl rfl rfl (by show 0 ≤ 8; decide)) (fun h2 r2 => ?_)
  rintro ⟨I2, x2, f2⟩
  rw [f2]
  show Ends _ _ (2107, lv, [.int x2], h2, 599897, 7298671) _
  refine E_pop rfl rfl ?_
  refine E_goto rfl ?_
  exact K _ I2
set_option maxRecDepth 20000 in
theorem bl_75 {L : Nat} {xs : Nat → Int32} (hL : L ≤ 3072) {h : pm_H} {i : Nat} (hi : i + 6 ≤ L) (lv : List (Nat × Value)) (I : IVQ h) (L0 : pm_get lv 0 = some (.retAddr 0)) (L1 : pm_get lv 1 = some (.ref 0)) (L2 : pm_get lv 2 = some (.ref 77)) (L3 : pm_get lv 3 = some (.int (nJ i))) (K : ∀ h', IVQ h' → Ends (pm_tr (lb_all L xs)) (pm_Rt pm_P 100) (2392, lv, [], h', 599897, 7298671) RQ1) : Ends (pm_tr (lb_all L xs)) (pm_Rt pm_P 100) (2111, lv, [], h, 599897, 7298671) RQ1 := by
  refine E_al rfl L1 ?_
  refine E_alr rfl L0 ?_
  refine E_il rfl L3 ?_
  refine E_ci 1 rfl ci1 ?_
  refine E_bin rfl (nJ_add _ _) ?_
  refine E_sld rfl (by omega) hL ?_
  refine E_alr rfl L0 ?_
  refine E_il rfl L3 ?_
  refine E_ci 2 rfl ci2 ?_
  refine E_bin rfl (nJ_add _ _) ?_
  refine E_sld rfl (by omega) hL ?_
  refine E_call rfl (g8_rate I) (chkR (a := 0) I.1.1 rfl rfl rfl rfl (by show 0 ≤ 8; decide)) (fun h1 r1 => ?_)
  rintro ⟨I1, x1, f1, J1⟩
  rw [f1]
  show Ends _ _ (2125, lv, [.int x1], h1, 599897, 7298671) _
  refine E_pop rfl rfl ?_
  refine E_al rfl L2 ?_
  refine E_alr rfl L0 ?_
  refine E_il rfl L3 ?_
  refine E_ci 1 rfl ci1 ?_
  refine E_bin rfl (nJ_add _ _) ?_
  refine E_sld rfl (by omega) hL ?_
  refine E_alr rfl L0 ?_
  refine E_il rfl L3 ?_
  refine E_ci 2 rfl ci2 ?_
  refine E_bin rfl (nJ_add _ _) ?_
  refine E_sld rfl (by omega) hL ?_
  refine E_call rfl (g9_rate I1 J1) (chkR (a := 77) I1.1 rfl rfl rfl rfl (by show 0 ≤ 8; decide)) (fun h2 r2 => ?_)
  rintro ⟨I2, f2⟩
  rw [f2]
  show Ends _ _ (2140, lv, [.int x1], h2, 599897, 7298671) _
  refine E_pop rfl rfl ?_
  refine E_goto rfl ?_
  exact K _ I2
set_option maxRecDepth 20000 in
theorem bl_76 {L : Nat} {xs : Nat → Int32} (hL : L ≤ 3072) {h : pm_H} {i : Nat} (hi : i + 6 ≤ L) (lv : List (Nat × Value)) (I : IVQ h) (L0 : pm_get lv 0 = some (.retAddr 0)) (L1 : pm_get lv 1 = some (.ref 0)) (L2 : pm_get lv 2 = some (.ref 77)) (L3 : pm_get lv 3 = some (.int (nJ i))) (K : ∀ h', IVQ h' → Ends (pm_tr (lb_all L xs)) (pm_Rt pm_P 100) (2392, lv, [], h', 599897, 7298671) RQ1) : Ends (pm_tr (lb_all L xs)) (pm_Rt pm_P 100) (2144, lv, [], h, 599897, 7298671) RQ1 := by
  refine E_al rfl L1 ?_
  refine E_alr rfl L0 ?_
  refine E_il rfl L3 ?_
  refine E_ci 1 rfl ci1 ?_
  refine E_bin rfl (nJ_add _ _) ?_
  refine E_sld rfl (by omega) hL ?_
  refine E_call rfl (g8_count I) (chkR (a := 0) I.1.1 rfl rfl rfl rfl (by show 0 ≤ 8; decide)) (fun h1 r1 => ?_)
  rintro ⟨I1, x1, f1, J1⟩
  rw [f1]
  show Ends _ _ (2153, lv, [.int x1], h1, 599897, 7298671) _
  refine E_pop rfl rfl ?_
  refine E_al rfl L2 ?_
  refine E_alr rfl L0 ?_
  refine E_il rfl L3 ?_
  refine E_ci 1 rfl ci1 ?_
  refine E_bin rfl (nJ_add _ _) ?_
  refine E_sld rfl (by omega) hL ?_
  refine E_call rfl (g9_count I1 J1) (chkR (a := 77) I1.1 rfl rfl rfl rfl (by show 0 ≤ 8; decide)) (fun h2 r2 => ?_)
  rintro ⟨I2, f2⟩
  rw [f2]
  show Ends _ _ (2163, lv, [.int x1], h2, 599897, 7298671) _
  refine E_pop rfl rfl ?_
  refine E_goto rfl ?_
  exact K _ I2
set_option maxRecDepth 20000 in
theorem bl_77 {L : Nat} {xs : Nat → Int32} (hL : L ≤ 3072) {h : pm_H} {i : Nat} (hi : i + 6 ≤ L) (lv : List (Nat × Value)) (I : IVQ h) (L0 : pm_get lv 0 = some (.retAddr 0)) (L1 : pm_get lv 1 = some (.ref 0)) (L2 : pm_get lv 2 = some (.ref 77)) (L3 : pm_get lv 3 = some (.int (nJ i))) (K : ∀ h', IVQ h' → Ends (pm_tr (lb_all L xs)) (pm_Rt pm_P 100) (2392, lv, [], h', 599897, 7298671) RQ1) : Ends (pm_tr (lb_all L xs)) (pm_Rt pm_P 100) (2167, lv, [], h, 599897, 7298671) RQ1 := by
  refine E_al rfl L1 ?_
  refine E_alr rfl L0 ?_
  refine E_il rfl L3 ?_
  refine E_ci 1 rfl ci1 ?_
  refine E_bin rfl (nJ_add _ _) ?_
  refine E_sld rfl (by omega) hL ?_
  refine E_call rfl (g8_image I) (chkR (a := 0) I.1.1 rfl rfl rfl rfl (by show 0 ≤ 8; decide)) (fun h1 r1 => ?_)
  rintro ⟨I1, x1, f1, J1⟩
  rw [f1]
  show Ends _ _ (2176, lv, [.int x1], h1, 599897, 7298671) _
  refine E_pop rfl rfl ?_
  refine E_al rfl L2 ?_
  refine E_alr rfl L0 ?_
  refine E_il rfl L3 ?_
  refine E_ci 1 rfl ci1 ?_
  refine E_bin rfl (nJ_add _ _) ?_
  refine E_sld rfl (by omega) hL ?_
  refine E_call rfl (g9_image I1 J1) (chkR (a := 77) I1.1 rfl rfl rfl rfl (by show 0 ≤ 8; decide)) (fun h2 r2 => ?_)
  rintro ⟨I2, f2⟩
  rw [f2]
  show Ends _ _ (2186, lv, [.int x1], h2, 599897, 7298671) _
  refine E_pop rfl rfl ?_
  refine E_goto rfl ?_
  exact K _ I2
set_option maxRecDepth 20000 in
theorem bl_78 {L : Nat} {xs : Nat → Int32} (hL : L ≤ 3072) {h : pm_H} {i : Nat} (hi : i + 6 ≤ L) (lv : List (Nat × Value)) (I : IVQ h) (L0 : pm_get lv 0 = some (.retAddr 0)) (L1 : pm_get lv 1 = some (.ref 0)) (L2 : pm_get lv 2 = some (.ref 77)) (L3 : pm_get lv 3 = some (.int (nJ i))) (K : ∀ h', IVQ h' → Ends (pm_tr (lb_all L xs)) (pm_Rt pm_P 100) (2392, lv, [], h', 599897, 7298671) RQ1) : Ends (pm_tr (lb_all L xs)) (pm_Rt pm_P 100) (2190, lv, [], h, 599897, 7298671) RQ1 := by
  refine E_al rfl L1 ?_
  refine E_alr rfl L0 ?_
  refine E_il rfl L3 ?_
  refine E_ci 1 rfl ci1 ?_
  refine E_bin rfl (nJ_add _ _) ?_
  refine E_sld rfl (by omega) hL ?_
  refine E_call rfl (g8_back I) (chkR (a := 0) I.1.1 rfl rfl rfl rfl (by show 0 ≤ 8; decide)) (fun h1 r1 => ?_)
  rintro ⟨I1, x1, f1, J1⟩
  rw [f1]
  show Ends _ _ (2199, lv, [.int x1], h1, 599897, 7298671) _
  refine E_pop rfl rfl ?_
  refine E_al rfl L2 ?_
  refine E_alr rfl L0 ?_
  refine E_il rfl L3 ?_
  refine E_ci 1 rfl ci1 ?_
  refine E_bin rfl (nJ_add _ _) ?_
  refine E_sld rfl (by omega) hL ?_
  refine E_call rfl (g9_back I1 J1) (chkR (a := 77) I1.1 rfl rfl rfl rfl (by show 0 ≤ 8; decide)) (fun h2 r2 => ?_)
  rintro ⟨I2, f2⟩
  rw [f2]
  show Ends _ _ (2209, lv, [.int x1], h2, 599897, 7298671) _
  refine E_pop rfl rfl ?_
  refine E_goto rfl ?_
  exact K _ I2
set_option maxRecDepth 20000 in
theorem bl_79 {L : Nat} {xs : Nat → Int32} (hL : L ≤ 3072) {h : pm_H} {i : Nat} (hi : i + 6 ≤ L) (lv : List (Nat × Value)) (I : IVQ h) (L0 : pm_get lv 0 = some (.retAddr 0)) (L1 : pm_get lv 1 = some (.ref 0)) (L2 : pm_get lv 2 = some (.ref 77)) (L3 : pm_get lv 3 = some (.int (nJ i))) (K : ∀ h', IVQ h' → Ends (pm_tr (lb_all L xs)) (pm_Rt pm_P 100) (2392, lv, [], h', 599897, 7298671) RQ1) : Ends (pm_tr (lb_all L xs)) (pm_Rt pm_P 100) (2213, lv, [], h, 599897, 7298671) RQ1 := by
  refine E_al rfl L1 ?_
  refine E_alr rfl L0 ?_
  refine E_il rfl L3 ?_
  refine E_ci 1 rfl ci1 ?_
  refine E_bin rfl (nJ_add _ _) ?_
  refine E_sld rfl (by omega) hL ?_
  refine E_alr rfl L0 ?_
  refine E_il rfl L3 ?_
  refine E_ci 2 rfl ci2 ?_
  refine E_bin rfl (nJ_add _ _) ?_
  refine E_sld rfl (by omega) hL ?_
  refine E_alr rfl L0 ?_
  refine E_il rfl L3 ?_
  refine E_ci 3 rfl ci3 ?_
  refine E_bin rfl (nJ_add _ _) ?_
  refine E_sld rfl (by omega) hL ?_
  refine E_call rfl (g8_row I) (chkR (a := 0) I.1.1 rfl rfl rfl rfl (by show 0 ≤ 8; decide)) (fun h1 r1 => ?_)
  rintro ⟨I1, x1, f1, J1⟩
  rw [f1]
  show Ends _ _ (2232, lv, [.int x1], h1, 599897, 7298671) _
  refine E_pop rfl rfl ?_
  refine E_al rfl L2 ?_
  refine E_alr rfl L0 ?_
  refine E_il rfl L3 ?_
  refine E_ci 1 rfl ci1 ?_
  refine E_bin rfl (nJ_add _ _) ?_
  refine E_sld rfl (by omega) hL ?_
  refine E_alr rfl L0 ?_
  refine E_il rfl L3 ?_
  refine E_ci 2 rfl ci2 ?_
  refine E_bin rfl (nJ_add _ _) ?_
  refine E_sld rfl (by omega) hL ?_
  refine E_alr rfl L0 ?_
  refine E_il rfl L3 ?_
  refine E_ci 3 rfl ci3 ?_
  refine E_bin rfl (nJ_add _ _) ?_
  refine E_sld rfl (by omega) hL ?_
  refine E_call rfl (g9_row I1 J1) (chkR (a := 77) I1.1 rfl rfl rfl rfl (by show 0 ≤ 8; decide)) (fun h2 r2 => ?_)
  rintro ⟨I2, f2⟩
  rw [f2]
  show Ends _ _ (2252, lv, [.int x1], h2, 599897, 7298671) _
  refine E_pop rfl rfl ?_
  refine E_goto rfl ?_
  exact K _ I2
set_option maxRecDepth 20000 in
theorem bl_80 {L : Nat} {xs : Nat → Int32} (hL : L ≤ 3072) {h : pm_H} {i : Nat} (hi : i + 6 ≤ L) (lv : List (Nat × Value)) (I : IVQ h) (L0 : pm_get lv 0 = some (.retAddr 0)) (L1 : pm_get lv 1 = some (.ref 0)) (L2 : pm_get lv 2 = some (.ref 77)) (L3 : pm_get lv 3 = some (.int (nJ i))) (K : ∀ h', IVQ h' → Ends (pm_tr (lb_all L xs)) (pm_Rt pm_P 100) (2392, lv, [], h', 599897, 7298671) RQ1) : Ends (pm_tr (lb_all L xs)) (pm_Rt pm_P 100) (2256, lv, [], h, 599897, 7298671) RQ1 := by
  refine E_al rfl L1 ?_
  refine E_alr rfl L0 ?_
  refine E_il rfl L3 ?_
  refine E_ci 1 rfl ci1 ?_
  refine E_bin rfl (nJ_add _ _) ?_
  refine E_sld rfl (by omega) hL ?_
  refine E_alr rfl L0 ?_
  refine E_il rfl L3 ?_
  refine E_ci 2 rfl ci2 ?_
  refine E_bin rfl (nJ_add _ _) ?_
  refine E_sld rfl (by omega) hL ?_
  refine E_alr rfl L0 ?_
  refine E_il rfl L3 ?_
  refine E_ci 3 rfl ci3 ?_
  refine E_bin rfl (nJ_add _ _) ?_
  refine E_sld rfl (by omega) hL ?_
  refine E_i2l rfl ?_
  refine E_ci 32 rfl ci32 ?_
  refine E_lsh rfl ?_
  refine E_alr rfl L0 ?_
  refine E_il rfl L3 ?_
  refine E_ci 4 rfl ci4 ?_
  refine E_bin rfl (nJ_add _ _) ?_
  refine E_sld rfl (by omega) hL ?_
  refine E_i2l rfl ?_
  refine E_c rfl ?_
  refine E_lbin rfl ?_
  refine E_lbin rfl ?_
  refine E_call rfl (g8_write I) (chkR (a := 0) I.1.1 rfl rfl rfl rfl (by show 0 ≤ 8; decide)) (fun h1 r1 => ?_)
  rintro ⟨I1, x1, f1, J1⟩
  rw [f1]
  show Ends _ _ (2290, lv, [.int x1], h1, 599897, 7298671) _
  refine E_pop rfl rfl ?_
  refine E_al rfl L2 ?_
  refine E_alr rfl L0 ?_
  refine E_il rfl L3 ?_
  refine E_ci 1 rfl ci1 ?_
  refine E_bin rfl (nJ_add _ _) ?_
  refine E_sld rfl (by omega) hL ?_
  refine E_alr rfl L0 ?_
  refine E_il rfl L3 ?_
  refine E_ci 2 rfl ci2 ?_
  refine E_bin rfl (nJ_add _ _) ?_
  refine E_sld rfl (by omega) hL ?_
  refine E_alr rfl L0 ?_
  refine E_il rfl L3 ?_
  refine E_ci 3 rfl ci3 ?_
  refine E_bin rfl (nJ_add _ _) ?_
  refine E_sld rfl (by omega) hL ?_
  refine E_i2l rfl ?_
  refine E_ci 32 rfl ci32 ?_
  refine E_lsh rfl ?_
  refine E_alr rfl L0 ?_
  refine E_il rfl L3 ?_
  refine E_ci 4 rfl ci4 ?_
  refine E_bin rfl (nJ_add _ _) ?_
  refine E_sld rfl (by omega) hL ?_
  refine E_i2l rfl ?_
  refine E_c rfl ?_
  refine E_lbin rfl ?_
  refine E_lbin rfl ?_
  refine E_call rfl (g9_write I1 J1) (chkR (a := 77) I1.1 rfl rfl rfl rfl (by show 0 ≤ 8; decide)) (fun h2 r2 => ?_)
  rintro ⟨I2, f2⟩
  rw [f2]
  show Ends _ _ (2325, lv, [.int x1], h2, 599897, 7298671) _
  refine E_pop rfl rfl ?_
  refine E_goto rfl ?_
  exact K _ I2
set_option maxRecDepth 20000 in
theorem bl_81 {L : Nat} {xs : Nat → Int32} (hL : L ≤ 3072) {h : pm_H} {i : Nat} (hi : i + 6 ≤ L) (lv : List (Nat × Value)) (I : IVQ h) (L0 : pm_get lv 0 = some (.retAddr 0)) (L1 : pm_get lv 1 = some (.ref 0)) (L2 : pm_get lv 2 = some (.ref 77)) (L3 : pm_get lv 3 = some (.int (nJ i))) (K : ∀ h', IVQ h' → Ends (pm_tr (lb_all L xs)) (pm_Rt pm_P 100) (2392, lv, [], h', 599897, 7298671) RQ1) : Ends (pm_tr (lb_all L xs)) (pm_Rt pm_P 100) (2329, lv, [], h, 599897, 7298671) RQ1 := by
  refine E_al rfl L1 ?_
  refine E_alr rfl L0 ?_
  refine E_il rfl L3 ?_
  refine E_ci 1 rfl ci1 ?_
  refine E_bin rfl (nJ_add _ _) ?_
  refine E_sld rfl (by omega) hL ?_
  refine E_alr rfl L0 ?_
  refine E_il rfl L3 ?_
  refine E_ci 2 rfl ci2 ?_
  refine E_bin rfl (nJ_add _ _) ?_
  refine E_sld rfl (by omega) hL ?_
  refine E_alr rfl L0 ?_
  refine E_il rfl L3 ?_
  refine E_ci 3 rfl ci3 ?_
  refine E_bin rfl (nJ_add _ _) ?_
  refine E_sld rfl (by omega) hL ?_
  refine E_alr rfl L0 ?_
  refine E_il rfl L3 ?_
  refine E_ci 4 rfl ci4 ?_
  refine E_bin rfl (nJ_add _ _) ?_
  refine E_sld rfl (by omega) hL ?_
  refine E_alr rfl L0 ?_
  refine E_il rfl L3 ?_
  refine E_ci 5 rfl ci5 ?_
  refine E_bin rfl (nJ_add _ _) ?_
  refine E_sld rfl (by omega) hL ?_
  refine E_call rfl (g8_paste I) (chkR (a := 0) I.1.1 rfl rfl rfl rfl (by show 0 ≤ 8; decide)) (fun h1 r1 => ?_)
  rintro ⟨I1, x1, f1, J1⟩
  rw [f1]
  show Ends _ _ (2358, lv, [.int x1], h1, 599897, 7298671) _
  refine E_pop rfl rfl ?_
  refine E_al rfl L2 ?_
  refine E_alr rfl L0 ?_
  refine E_il rfl L3 ?_
  refine E_ci 1 rfl ci1 ?_
  refine E_bin rfl (nJ_add _ _) ?_
  refine E_sld rfl (by omega) hL ?_
  refine E_alr rfl L0 ?_
  refine E_il rfl L3 ?_
  refine E_ci 2 rfl ci2 ?_
  refine E_bin rfl (nJ_add _ _) ?_
  refine E_sld rfl (by omega) hL ?_
  refine E_alr rfl L0 ?_
  refine E_il rfl L3 ?_
  refine E_ci 3 rfl ci3 ?_
  refine E_bin rfl (nJ_add _ _) ?_
  refine E_sld rfl (by omega) hL ?_
  refine E_alr rfl L0 ?_
  refine E_il rfl L3 ?_
  refine E_ci 4 rfl ci4 ?_
  refine E_bin rfl (nJ_add _ _) ?_
  refine E_sld rfl (by omega) hL ?_
  refine E_alr rfl L0 ?_
  refine E_il rfl L3 ?_
  refine E_ci 5 rfl ci5 ?_
  refine E_bin rfl (nJ_add _ _) ?_
  refine E_sld rfl (by omega) hL ?_
  refine E_call rfl (g9_paste I1 J1) (chkR (a := 77) I1.1 rfl rfl rfl rfl (by show 0 ≤ 8; decide)) (fun h2 r2 => ?_)
  rintro ⟨I2, f2⟩
  rw [f2]
  show Ends _ _ (2388, lv, [.int x1], h2, 599897, 7298671) _
  refine E_pop rfl rfl ?_
  refine E_goto rfl ?_
  exact K _ I2
end
section
/-! the law on every script: a pure run (written by gen_t22.py) -/
set_option maxRecDepth 20000 in
theorem sw_0 {L : Nat} {xs : Nat → Int32} (hL : L ≤ 3072) {h : pm_H} {i : Nat} (hi : i + 6 ≤ L) (lv : List (Nat × Value)) (I : IVQ h) (L0 : pm_get lv 0 = some (.retAddr 0)) (L1 : pm_get lv 1 = some (.ref 0)) (L2 : pm_get lv 2 = some (.ref 77)) (L3 : pm_get lv 3 = some (.int (nJ i))) (K : ∀ h', IVQ h' → Ends (pm_tr (lb_all L xs)) (pm_Rt pm_P 100) (2392, lv, [], h', 599897, 7298671) RQ1) : Ends (pm_tr (lb_all L xs)) (pm_Rt pm_P 100) (33, lv, [.int (nI 0)], h, 599897, 7298671) RQ1 := E_tsw rfl (by decide +kernel) (by decide +kernel) (bl_0 hL hi lv I L0 L1 L2 L3 K)
set_option maxRecDepth 20000 in
theorem sw_1 {L : Nat} {xs : Nat → Int32} (hL : L ≤ 3072) {h : pm_H} {i : Nat} (hi : i + 6 ≤ L) (lv : List (Nat × Value)) (I : IVQ h) (L0 : pm_get lv 0 = some (.retAddr 0)) (L1 : pm_get lv 1 = some (.ref 0)) (L2 : pm_get lv 2 = some (.ref 77)) (L3 : pm_get lv 3 = some (.int (nJ i))) (K : ∀ h', IVQ h' → Ends (pm_tr (lb_all L xs)) (pm_Rt pm_P 100) (2392, lv, [], h', 599897, 7298671) RQ1) : Ends (pm_tr (lb_all L xs)) (pm_Rt pm_P 100) (33, lv, [.int (nI 1)], h, 599897, 7298671) RQ1 := E_tsw rfl (by decide +kernel) (by decide +kernel) (bl_1 hL hi lv I L0 L1 L2 L3 K)
set_option maxRecDepth 20000 in
theorem sw_2 {L : Nat} {xs : Nat → Int32} (hL : L ≤ 3072) {h : pm_H} {i : Nat} (hi : i + 6 ≤ L) (lv : List (Nat × Value)) (I : IVQ h) (L0 : pm_get lv 0 = some (.retAddr 0)) (L1 : pm_get lv 1 = some (.ref 0)) (L2 : pm_get lv 2 = some (.ref 77)) (L3 : pm_get lv 3 = some (.int (nJ i))) (K : ∀ h', IVQ h' → Ends (pm_tr (lb_all L xs)) (pm_Rt pm_P 100) (2392, lv, [], h', 599897, 7298671) RQ1) : Ends (pm_tr (lb_all L xs)) (pm_Rt pm_P 100) (33, lv, [.int (nI 2)], h, 599897, 7298671) RQ1 := E_tsw rfl (by decide +kernel) (by decide +kernel) (bl_2 hL hi lv I L0 L1 L2 L3 K)
set_option maxRecDepth 20000 in
theorem sw_3 {L : Nat} {xs : Nat → Int32} (hL : L ≤ 3072) {h : pm_H} {i : Nat} (hi : i + 6 ≤ L) (lv : List (Nat × Value)) (I : IVQ h) (L0 : pm_get lv 0 = some (.retAddr 0)) (L1 : pm_get lv 1 = some (.ref 0)) (L2 : pm_get lv 2 = some (.ref 77)) (L3 : pm_get lv 3 = some (.int (nJ i))) (K : ∀ h', IVQ h' → Ends (pm_tr (lb_all L xs)) (pm_Rt pm_P 100) (2392, lv, [], h', 599897, 7298671) RQ1) : Ends (pm_tr (lb_all L xs)) (pm_Rt pm_P 100) (33, lv, [.int (nI 3)], h, 599897, 7298671) RQ1 := E_tsw rfl (by decide +kernel) (by decide +kernel) (bl_3 hL hi lv I L0 L1 L2 L3 K)
set_option maxRecDepth 20000 in
theorem sw_4 {L : Nat} {xs : Nat → Int32} (hL : L ≤ 3072) {h : pm_H} {i : Nat} (hi : i + 6 ≤ L) (lv : List (Nat × Value)) (I : IVQ h) (L0 : pm_get lv 0 = some (.retAddr 0)) (L1 : pm_get lv 1 = some (.ref 0)) (L2 : pm_get lv 2 = some (.ref 77)) (L3 : pm_get lv 3 = some (.int (nJ i))) (K : ∀ h', IVQ h' → Ends (pm_tr (lb_all L xs)) (pm_Rt pm_P 100) (2392, lv, [], h', 599897, 7298671) RQ1) : Ends (pm_tr (lb_all L xs)) (pm_Rt pm_P 100) (33, lv, [.int (nI 4)], h, 599897, 7298671) RQ1 := E_tsw rfl (by decide +kernel) (by decide +kernel) (bl_4 hL hi lv I L0 L1 L2 L3 K)
set_option maxRecDepth 20000 in
theorem sw_5 {L : Nat} {xs : Nat → Int32} (hL : L ≤ 3072) {h : pm_H} {i : Nat} (hi : i + 6 ≤ L) (lv : List (Nat × Value)) (I : IVQ h) (L0 : pm_get lv 0 = some (.retAddr 0)) (L1 : pm_get lv 1 = some (.ref 0)) (L2 : pm_get lv 2 = some (.ref 77)) (L3 : pm_get lv 3 = some (.int (nJ i))) (K : ∀ h', IVQ h' → Ends (pm_tr (lb_all L xs)) (pm_Rt pm_P 100) (2392, lv, [], h', 599897, 7298671) RQ1) : Ends (pm_tr (lb_all L xs)) (pm_Rt pm_P 100) (33, lv, [.int (nI 5)], h, 599897, 7298671) RQ1 := E_tsw rfl (by decide +kernel) (by decide +kernel) (bl_5 hL hi lv I L0 L1 L2 L3 K)
set_option maxRecDepth 20000 in
theorem sw_6 {L : Nat} {xs : Nat → Int32} (hL : L ≤ 3072) {h : pm_H} {i : Nat} (hi : i + 6 ≤ L) (lv : List (Nat × Value)) (I : IVQ h) (L0 : pm_get lv 0 = some (.retAddr 0)) (L1 : pm_get lv 1 = some (.ref 0)) (L2 : pm_get lv 2 = some (.ref 77)) (L3 : pm_get lv 3 = some (.int (nJ i))) (K : ∀ h', IVQ h' → Ends (pm_tr (lb_all L xs)) (pm_Rt pm_P 100) (2392, lv, [], h', 599897, 7298671) RQ1) : Ends (pm_tr (lb_all L xs)) (pm_Rt pm_P 100) (33, lv, [.int (nI 6)], h, 599897, 7298671) RQ1 := E_tsw rfl (by decide +kernel) (by decide +kernel) (bl_6 hL hi lv I L0 L1 L2 L3 K)
set_option maxRecDepth 20000 in
theorem sw_7 {L : Nat} {xs : Nat → Int32} (hL : L ≤ 3072) {h : pm_H} {i : Nat} (hi : i + 6 ≤ L) (lv : List (Nat × Value)) (I : IVQ h) (L0 : pm_get lv 0 = some (.retAddr 0)) (L1 : pm_get lv 1 = some (.ref 0)) (L2 : pm_get lv 2 = some (.ref 77)) (L3 : pm_get lv 3 = some (.int (nJ i))) (K : ∀ h', IVQ h' → Ends (pm_tr (lb_all L xs)) (pm_Rt pm_P 100) (2392, lv, [], h', 599897, 7298671) RQ1) : Ends (pm_tr (lb_all L xs)) (pm_Rt pm_P 100) (33, lv, [.int (nI 7)], h, 599897, 7298671) RQ1 := E_tsw rfl (by decide +kernel) (by decide +kernel) (bl_7 hL hi lv I L0 L1 L2 L3 K)
set_option maxRecDepth 20000 in
theorem sw_8 {L : Nat} {xs : Nat → Int32} (hL : L ≤ 3072) {h : pm_H} {i : Nat} (hi : i + 6 ≤ L) (lv : List (Nat × Value)) (I : IVQ h) (L0 : pm_get lv 0 = some (.retAddr 0)) (L1 : pm_get lv 1 = some (.ref 0)) (L2 : pm_get lv 2 = some (.ref 77)) (L3 : pm_get lv 3 = some (.int (nJ i))) (K : ∀ h', IVQ h' → Ends (pm_tr (lb_all L xs)) (pm_Rt pm_P 100) (2392, lv, [], h', 599897, 7298671) RQ1) : Ends (pm_tr (lb_all L xs)) (pm_Rt pm_P 100) (33, lv, [.int (nI 8)], h, 599897, 7298671) RQ1 := E_tsw rfl (by decide +kernel) (by decide +kernel) (bl_8 hL hi lv I L0 L1 L2 L3 K)
set_option maxRecDepth 20000 in
theorem sw_9 {L : Nat} {xs : Nat → Int32} (hL : L ≤ 3072) {h : pm_H} {i : Nat} (hi : i + 6 ≤ L) (lv : List (Nat × Value)) (I : IVQ h) (L0 : pm_get lv 0 = some (.retAddr 0)) (L1 : pm_get lv 1 = some (.ref 0)) (L2 : pm_get lv 2 = some (.ref 77)) (L3 : pm_get lv 3 = some (.int (nJ i))) (K : ∀ h', IVQ h' → Ends (pm_tr (lb_all L xs)) (pm_Rt pm_P 100) (2392, lv, [], h', 599897, 7298671) RQ1) : Ends (pm_tr (lb_all L xs)) (pm_Rt pm_P 100) (33, lv, [.int (nI 9)], h, 599897, 7298671) RQ1 := E_tsw rfl (by decide +kernel) (by decide +kernel) (bl_9 hL hi lv I L0 L1 L2 L3 K)
set_option maxRecDepth 20000 in
theorem sw_10 {L : Nat} {xs : Nat → Int32} (hL : L ≤ 3072) {h : pm_H} {i : Nat} (hi : i + 6 ≤ L) (lv : List (Nat × Value)) (I : IVQ h) (L0 : pm_get lv 0 = some (.retAddr 0)) (L1 : pm_get lv 1 = some (.ref 0)) (L2 : pm_get lv 2 = some (.ref 77)) (L3 : pm_get lv 3 = some (.int (nJ i))) (K : ∀ h', IVQ h' → Ends (pm_tr (lb_all L xs)) (pm_Rt pm_P 100) (2392, lv, [], h', 599897, 7298671) RQ1) : Ends (pm_tr (lb_all L xs)) (pm_Rt pm_P 100) (33, lv, [.int (nI 10)], h, 599897, 7298671) RQ1 := E_tsw rfl (by decide +kernel) (by decide +kernel) (bl_10 hL hi lv I L0 L1 L2 L3 K)
set_option maxRecDepth 20000 in
theorem sw_11 {L : Nat} {xs : Nat → Int32} (hL : L ≤ 3072) {h : pm_H} {i : Nat} (hi : i + 6 ≤ L) (lv : List (Nat × Value)) (I : IVQ h) (L0 : pm_get lv 0 = some (.retAddr 0)) (L1 : pm_get lv 1 = some (.ref 0)) (L2 : pm_get lv 2 = some (.ref 77)) (L3 : pm_get lv 3 = some (.int (nJ i))) (K : ∀ h', IVQ h' → Ends (pm_tr (lb_all L xs)) (pm_Rt pm_P 100) (2392, lv, [], h', 599897, 7298671) RQ1) : Ends (pm_tr (lb_all L xs)) (pm_Rt pm_P 100) (33, lv, [.int (nI 11)], h, 599897, 7298671) RQ1 := E_tsw rfl (by decide +kernel) (by decide +kernel) (bl_11 hL hi lv I L0 L1 L2 L3 K)
set_option maxRecDepth 20000 in
theorem sw_12 {L : Nat} {xs : Nat → Int32} (hL : L ≤ 3072) {h : pm_H} {i : Nat} (hi : i + 6 ≤ L) (lv : List (Nat × Value)) (I : IVQ h) (L0 : pm_get lv 0 = some (.retAddr 0)) (L1 : pm_get lv 1 = some (.ref 0)) (L2 : pm_get lv 2 = some (.ref 77)) (L3 : pm_get lv 3 = some (.int (nJ i))) (K : ∀ h', IVQ h' → Ends (pm_tr (lb_all L xs)) (pm_Rt pm_P 100) (2392, lv, [], h', 599897, 7298671) RQ1) : Ends (pm_tr (lb_all L xs)) (pm_Rt pm_P 100) (33, lv, [.int (nI 12)], h, 599897, 7298671) RQ1 := E_tsw rfl (by decide +kernel) (by decide +kernel) (bl_12 hL hi lv I L0 L1 L2 L3 K)
set_option maxRecDepth 20000 in
theorem sw_13 {L : Nat} {xs : Nat → Int32} (hL : L ≤ 3072) {h : pm_H} {i : Nat} (hi : i + 6 ≤ L) (lv : List (Nat × Value)) (I : IVQ h) (L0 : pm_get lv 0 = some (.retAddr 0)) (L1 : pm_get lv 1 = some (.ref 0)) (L2 : pm_get lv 2 = some (.ref 77)) (L3 : pm_get lv 3 = some (.int (nJ i))) (K : ∀ h', IVQ h' → Ends (pm_tr (lb_all L xs)) (pm_Rt pm_P 100) (2392, lv, [], h', 599897, 7298671) RQ1) : Ends (pm_tr (lb_all L xs)) (pm_Rt pm_P 100) (33, lv, [.int (nI 13)], h, 599897, 7298671) RQ1 := E_tsw rfl (by decide +kernel) (by decide +kernel) (bl_13 hL hi lv I L0 L1 L2 L3 K)
set_option maxRecDepth 20000 in
theorem sw_14 {L : Nat} {xs : Nat → Int32} (hL : L ≤ 3072) {h : pm_H} {i : Nat} (hi : i + 6 ≤ L) (lv : List (Nat × Value)) (I : IVQ h) (L0 : pm_get lv 0 = some (.retAddr 0)) (L1 : pm_get lv 1 = some (.ref 0)) (L2 : pm_get lv 2 = some (.ref 77)) (L3 : pm_get lv 3 = some (.int (nJ i))) (K : ∀ h', IVQ h' → Ends (pm_tr (lb_all L xs)) (pm_Rt pm_P 100) (2392, lv, [], h', 599897, 7298671) RQ1) : Ends (pm_tr (lb_all L xs)) (pm_Rt pm_P 100) (33, lv, [.int (nI 14)], h, 599897, 7298671) RQ1 := E_tsw rfl (by decide +kernel) (by decide +kernel) (bl_14 hL hi lv I L0 L1 L2 L3 K)
set_option maxRecDepth 20000 in
theorem sw_15 {L : Nat} {xs : Nat → Int32} (hL : L ≤ 3072) {h : pm_H} {i : Nat} (hi : i + 6 ≤ L) (lv : List (Nat × Value)) (I : IVQ h) (L0 : pm_get lv 0 = some (.retAddr 0)) (L1 : pm_get lv 1 = some (.ref 0)) (L2 : pm_get lv 2 = some (.ref 77)) (L3 : pm_get lv 3 = some (.int (nJ i))) (K : ∀ h', IVQ h' → Ends (pm_tr (lb_all L xs)) (pm_Rt pm_P 100) (2392, lv, [], h', 599897, 7298671) RQ1) : Ends (pm_tr (lb_all L xs)) (pm_Rt pm_P 100) (33, lv, [.int (nI 15)], h, 599897, 7298671) RQ1 := E_tsw rfl (by decide +kernel) (by decide +kernel) (bl_15 hL hi lv I L0 L1 L2 L3 K)
set_option maxRecDepth 20000 in
theorem sw_16 {L : Nat} {xs : Nat → Int32} (hL : L ≤ 3072) {h : pm_H} {i : Nat} (hi : i + 6 ≤ L) (lv : List (Nat × Value)) (I : IVQ h) (L0 : pm_get lv 0 = some (.retAddr 0)) (L1 : pm_get lv 1 = some (.ref 0)) (L2 : pm_get lv 2 = some (.ref 77)) (L3 : pm_get lv 3 = some (.int (nJ i))) (K : ∀ h', IVQ h' → Ends (pm_tr (lb_all L xs)) (pm_Rt pm_P 100) (2392, lv, [], h', 599897, 7298671) RQ1) : Ends (pm_tr (lb_all L xs)) (pm_Rt pm_P 100) (33, lv, [.int (nI 16)], h, 599897, 7298671) RQ1 := E_tsw rfl (by decide +kernel) (by decide +kernel) (bl_16 hL hi lv I L0 L1 L2 L3 K)
set_option maxRecDepth 20000 in
theorem sw_17 {L : Nat} {xs : Nat → Int32} (hL : L ≤ 3072) {h : pm_H} {i : Nat} (hi : i + 6 ≤ L) (lv : List (Nat × Value)) (I : IVQ h) (L0 : pm_get lv 0 = some (.retAddr 0)) (L1 : pm_get lv 1 = some (.ref 0)) (L2 : pm_get lv 2 = some (.ref 77)) (L3 : pm_get lv 3 = some (.int (nJ i))) (K : ∀ h', IVQ h' → Ends (pm_tr (lb_all L xs)) (pm_Rt pm_P 100) (2392, lv, [], h', 599897, 7298671) RQ1) : Ends (pm_tr (lb_all L xs)) (pm_Rt pm_P 100) (33, lv, [.int (nI 17)], h, 599897, 7298671) RQ1 := E_tsw rfl (by decide +kernel) (by decide +kernel) (bl_17 hL hi lv I L0 L1 L2 L3 K)
set_option maxRecDepth 20000 in
theorem sw_18 {L : Nat} {xs : Nat → Int32} (hL : L ≤ 3072) {h : pm_H} {i : Nat} (hi : i + 6 ≤ L) (lv : List (Nat × Value)) (I : IVQ h) (L0 : pm_get lv 0 = some (.retAddr 0)) (L1 : pm_get lv 1 = some (.ref 0)) (L2 : pm_get lv 2 = some (.ref 77)) (L3 : pm_get lv 3 = some (.int (nJ i))) (K : ∀ h', IVQ h' → Ends (pm_tr (lb_all L xs)) (pm_Rt pm_P 100) (2392, lv, [], h', 599897, 7298671) RQ1) : Ends (pm_tr (lb_all L xs)) (pm_Rt pm_P 100) (33, lv, [.int (nI 18)], h, 599897, 7298671) RQ1 := E_tsw rfl (by decide +kernel) (by decide +kernel) (bl_18 hL hi lv I L0 L1 L2 L3 K)
set_option maxRecDepth 20000 in
theorem sw_19 {L : Nat} {xs : Nat → Int32} (hL : L ≤ 3072) {h : pm_H} {i : Nat} (hi : i + 6 ≤ L) (lv : List (Nat × Value)) (I : IVQ h) (L0 : pm_get lv 0 = some (.retAddr 0)) (L1 : pm_get lv 1 = some (.ref 0)) (L2 : pm_get lv 2 = some (.ref 77)) (L3 : pm_get lv 3 = some (.int (nJ i))) (K : ∀ h', IVQ h' → Ends (pm_tr (lb_all L xs)) (pm_Rt pm_P 100) (2392, lv, [], h', 599897, 7298671) RQ1) : Ends (pm_tr (lb_all L xs)) (pm_Rt pm_P 100) (33, lv, [.int (nI 19)], h, 599897, 7298671) RQ1 := E_tsw rfl (by decide +kernel) (by decide +kernel) (bl_19 hL hi lv I L0 L1 L2 L3 K)
set_option maxRecDepth 20000 in
theorem sw_20 {L : Nat} {xs : Nat → Int32} (hL : L ≤ 3072) {h : pm_H} {i : Nat} (hi : i + 6 ≤ L) (lv : List (Nat × Value)) (I : IVQ h) (L0 : pm_get lv 0 = some (.retAddr 0)) (L1 : pm_get lv 1 = some (.ref 0)) (L2 : pm_get lv 2 = some (.ref 77)) (L3 : pm_get lv 3 = some (.int (nJ i))) (K : ∀ h', IVQ h' → Ends (pm_tr (lb_all L xs)) (pm_Rt pm_P 100) (2392, lv, [], h', 599897, 7298671) RQ1) : Ends (pm_tr (lb_all L xs)) (pm_Rt pm_P 100) (33, lv, [.int (nI 20)], h, 599897, 7298671) RQ1 := E_tsw rfl (by decide +kernel) (by decide +kernel) (bl_20 hL hi lv I L0 L1 L2 L3 K)
set_option maxRecDepth 20000 in
theorem sw_21 {L : Nat} {xs : Nat → Int32} (hL : L ≤ 3072) {h : pm_H} {i : Nat} (hi : i + 6 ≤ L) (lv : List (Nat × Value)) (I : IVQ h) (L0 : pm_get lv 0 = some (.retAddr 0)) (L1 : pm_get lv 1 = some (.ref 0)) (L2 : pm_get lv 2 = some (.ref 77)) (L3 : pm_get lv 3 = some (.int (nJ i))) (K : ∀ h', IVQ h' → Ends (pm_tr (lb_all L xs)) (pm_Rt pm_P 100) (2392, lv, [], h', 599897, 7298671) RQ1) : Ends (pm_tr (lb_all L xs)) (pm_Rt pm_P 100) (33, lv, [.int (nI 21)], h, 599897, 7298671) RQ1 := E_tsw rfl (by decide +kernel) (by decide +kernel) (bl_21 hL hi lv I L0 L1 L2 L3 K)
set_option maxRecDepth 20000 in
theorem sw_22 {L : Nat} {xs : Nat → Int32} (hL : L ≤ 3072) {h : pm_H} {i : Nat} (hi : i + 6 ≤ L) (lv : List (Nat × Value)) (I : IVQ h) (L0 : pm_get lv 0 = some (.retAddr 0)) (L1 : pm_get lv 1 = some (.ref 0)) (L2 : pm_get lv 2 = some (.ref 77)) (L3 : pm_get lv 3 = some (.int (nJ i))) (K : ∀ h', IVQ h' → Ends (pm_tr (lb_all L xs)) (pm_Rt pm_P 100) (2392, lv, [], h', 599897, 7298671) RQ1) : Ends (pm_tr (lb_all L xs)) (pm_Rt pm_P 100) (33, lv, [.int (nI 22)], h, 599897, 7298671) RQ1 := E_tsw rfl (by decide +kernel) (by decide +kernel) (bl_22 hL hi lv I L0 L1 L2 L3 K)
set_option maxRecDepth 20000 in
theorem sw_23 {L : Nat} {xs : Nat → Int32} (hL : L ≤ 3072) {h : pm_H} {i : Nat} (hi : i + 6 ≤ L) (lv : List (Nat × Value)) (I : IVQ h) (L0 : pm_get lv 0 = some (.retAddr 0)) (L1 : pm_get lv 1 = some (.ref 0)) (L2 : pm_get lv 2 = some (.ref 77)) (L3 : pm_get lv 3 = some (.int (nJ i))) (K : ∀ h', IVQ h' → Ends (pm_tr (lb_all L xs)) (pm_Rt pm_P 100) (2392, lv, [], h', 599897, 7298671) RQ1) : Ends (pm_tr (lb_all L xs)) (pm_Rt pm_P 100) (33, lv, [.int (nI 23)], h, 599897, 7298671) RQ1 := E_tsw rfl (by decide +kernel) (by decide +kernel) (bl_23 hL hi lv I L0 L1 L2 L3 K)
set_option maxRecDepth 20000 in
theorem sw_24 {L : Nat} {xs : Nat → Int32} (hL : L ≤ 3072) {h : pm_H} {i : Nat} (hi : i + 6 ≤ L) (lv : List (Nat × Value)) (I : IVQ h) (L0 : pm_get lv 0 = some (.retAddr 0)) (L1 : pm_get lv 1 = some (.ref 0)) (L2 : pm_get lv 2 = some (.ref 77)) (L3 : pm_get lv 3 = some (.int (nJ i))) (K : ∀ h', IVQ h' → Ends (pm_tr (lb_all L xs)) (pm_Rt pm_P 100) (2392, lv, [], h', 599897, 7298671) RQ1) : Ends (pm_tr (lb_all L xs)) (pm_Rt pm_P 100) (33, lv, [.int (nI 24)], h, 599897, 7298671) RQ1 := E_tsw rfl (by decide +kernel) (by decide +kernel) (bl_24 hL hi lv I L0 L1 L2 L3 K)
set_option maxRecDepth 20000 in
theorem sw_25 {L : Nat} {xs : Nat → Int32} (hL : L ≤ 3072) {h : pm_H} {i : Nat} (hi : i + 6 ≤ L) (lv : List (Nat × Value)) (I : IVQ h) (L0 : pm_get lv 0 = some (.retAddr 0)) (L1 : pm_get lv 1 = some (.ref 0)) (L2 : pm_get lv 2 = some (.ref 77)) (L3 : pm_get lv 3 = some (.int (nJ i))) (K : ∀ h', IVQ h' → Ends (pm_tr (lb_all L xs)) (pm_Rt pm_P 100) (2392, lv, [], h', 599897, 7298671) RQ1) : Ends (pm_tr (lb_all L xs)) (pm_Rt pm_P 100) (33, lv, [.int (nI 25)], h, 599897, 7298671) RQ1 := E_tsw rfl (by decide +kernel) (by decide +kernel) (bl_25 hL hi lv I L0 L1 L2 L3 K)
set_option maxRecDepth 20000 in
theorem sw_26 {L : Nat} {xs : Nat → Int32} (hL : L ≤ 3072) {h : pm_H} {i : Nat} (hi : i + 6 ≤ L) (lv : List (Nat × Value)) (I : IVQ h) (L0 : pm_get lv 0 = some (.retAddr 0)) (L1 : pm_get lv 1 = some (.ref 0)) (L2 : pm_get lv 2 = some (.ref 77)) (L3 : pm_get lv 3 = some (.int (nJ i))) (K : ∀ h', IVQ h' → Ends (pm_tr (lb_all L xs)) (pm_Rt pm_P 100) (2392, lv, [], h', 599897, 7298671) RQ1) : Ends (pm_tr (lb_all L xs)) (pm_Rt pm_P 100) (33, lv, [.int (nI 26)], h, 599897, 7298671) RQ1 := E_tsw rfl (by decide +kernel) (by decide +kernel) (bl_26 hL hi lv I L0 L1 L2 L3 K)
set_option maxRecDepth 20000 in
theorem sw_27 {L : Nat} {xs : Nat → Int32} (hL : L ≤ 3072) {h : pm_H} {i : Nat} (hi : i + 6 ≤ L) (lv : List (Nat × Value)) (I : IVQ h) (L0 : pm_get lv 0 = some (.retAddr 0)) (L1 : pm_get lv 1 = some (.ref 0)) (L2 : pm_get lv 2 = some (.ref 77)) (L3 : pm_get lv 3 = some (.int (nJ i))) (K : ∀ h', IVQ h' → Ends (pm_tr (lb_all L xs)) (pm_Rt pm_P 100) (2392, lv, [], h', 599897, 7298671) RQ1) : Ends (pm_tr (lb_all L xs)) (pm_Rt pm_P 100) (33, lv, [.int (nI 27)], h, 599897, 7298671) RQ1 := E_tsw rfl (by decide +kernel) (by decide +kernel) (bl_27 hL hi lv I L0 L1 L2 L3 K)
set_option maxRecDepth 20000 in
theorem sw_28 {L : Nat} {xs : Nat → Int32} (hL : L ≤ 3072) {h : pm_H} {i : Nat} (hi : i + 6 ≤ L) (lv : List (Nat × Value)) (I : IVQ h) (L0 : pm_get lv 0 = some (.retAddr 0)) (L1 : pm_get lv 1 = some (.ref 0)) (L2 : pm_get lv 2 = some (.ref 77)) (L3 : pm_get lv 3 = some (.int (nJ i))) (K : ∀ h', IVQ h' → Ends (pm_tr (lb_all L xs)) (pm_Rt pm_P 100) (2392, lv, [], h', 599897, 7298671) RQ1) : Ends (pm_tr (lb_all L xs)) (pm_Rt pm_P 100) (33, lv, [.int (nI 28)], h, 599897, 7298671) RQ1 := E_tsw rfl (by decide +kernel) (by decide +kernel) (bl_28 hL hi lv I L0 L1 L2 L3 K)
set_option maxRecDepth 20000 in
theorem sw_29 {L : Nat} {xs : Nat → Int32} (hL : L ≤ 3072) {h : pm_H} {i : Nat} (hi : i + 6 ≤ L) (lv : List (Nat × Value)) (I : IVQ h) (L0 : pm_get lv 0 = some (.retAddr 0)) (L1 : pm_get lv 1 = some (.ref 0)) (L2 : pm_get lv 2 = some (.ref 77)) (L3 : pm_get lv 3 = some (.int (nJ i))) (K : ∀ h', IVQ h' → Ends (pm_tr (lb_all L xs)) (pm_Rt pm_P 100) (2392, lv, [], h', 599897, 7298671) RQ1) : Ends (pm_tr (lb_all L xs)) (pm_Rt pm_P 100) (33, lv, [.int (nI 29)], h, 599897, 7298671) RQ1 := E_tsw rfl (by decide +kernel) (by decide +kernel) (bl_29 hL hi lv I L0 L1 L2 L3 K)
set_option maxRecDepth 20000 in
theorem sw_30 {L : Nat} {xs : Nat → Int32} (hL : L ≤ 3072) {h : pm_H} {i : Nat} (hi : i + 6 ≤ L) (lv : List (Nat × Value)) (I : IVQ h) (L0 : pm_get lv 0 = some (.retAddr 0)) (L1 : pm_get lv 1 = some (.ref 0)) (L2 : pm_get lv 2 = some (.ref 77)) (L3 : pm_get lv 3 = some (.int (nJ i))) (K : ∀ h', IVQ h' → Ends (pm_tr (lb_all L xs)) (pm_Rt pm_P 100) (2392, lv, [], h', 599897, 7298671) RQ1) : Ends (pm_tr (lb_all L xs)) (pm_Rt pm_P 100) (33, lv, [.int (nI 30)], h, 599897, 7298671) RQ1 := E_tsw rfl (by decide +kernel) (by decide +kernel) (bl_30 hL hi lv I L0 L1 L2 L3 K)
set_option maxRecDepth 20000 in
theorem sw_31 {L : Nat} {xs : Nat → Int32} (hL : L ≤ 3072) {h : pm_H} {i : Nat} (hi : i + 6 ≤ L) (lv : List (Nat × Value)) (I : IVQ h) (L0 : pm_get lv 0 = some (.retAddr 0)) (L1 : pm_get lv 1 = some (.ref 0)) (L2 : pm_get lv 2 = some (.ref 77)) (L3 : pm_get lv 3 = some (.int (nJ i))) (K : ∀ h', IVQ h' → Ends (pm_tr (lb_all L xs)) (pm_Rt pm_P 100) (2392, lv, [], h', 599897, 7298671) RQ1) : Ends (pm_tr (lb_all L xs)) (pm_Rt pm_P 100) (33, lv, [.int (nI 31)], h, 599897, 7298671) RQ1 := E_tsw rfl (by decide +kernel) (by decide +kernel) (bl_31 hL hi lv I L0 L1 L2 L3 K)
set_option maxRecDepth 20000 in
theorem sw_32 {L : Nat} {xs : Nat → Int32} (hL : L ≤ 3072) {h : pm_H} {i : Nat} (hi : i + 6 ≤ L) (lv : List (Nat × Value)) (I : IVQ h) (L0 : pm_get lv 0 = some (.retAddr 0)) (L1 : pm_get lv 1 = some (.ref 0)) (L2 : pm_get lv 2 = some (.ref 77)) (L3 : pm_get lv 3 = some (.int (nJ i))) (K : ∀ h', IVQ h' → Ends (pm_tr (lb_all L xs)) (pm_Rt pm_P 100) (2392, lv, [], h', 599897, 7298671) RQ1) : Ends (pm_tr (lb_all L xs)) (pm_Rt pm_P 100) (33, lv, [.int (nI 32)], h, 599897, 7298671) RQ1 := E_tsw rfl (by decide +kernel) (by decide +kernel) (bl_32 hL hi lv I L0 L1 L2 L3 K)
set_option maxRecDepth 20000 in
theorem sw_33 {L : Nat} {xs : Nat → Int32} (hL : L ≤ 3072) {h : pm_H} {i : Nat} (hi : i + 6 ≤ L) (lv : List (Nat × Value)) (I : IVQ h) (L0 : pm_get lv 0 = some (.retAddr 0)) (L1 : pm_get lv 1 = some (.ref 0)) (L2 : pm_get lv 2 = some (.ref 77)) (L3 : pm_get lv 3 = some (.int (nJ i))) (K : ∀ h', IVQ h' → Ends (pm_tr (lb_all L xs)) (pm_Rt pm_P 100) (2392, lv, [], h', 599897, 7298671) RQ1) : Ends (pm_tr (lb_all L xs)) (pm_Rt pm_P 100) (33, lv, [.int (nI 33)], h, 599897, 7298671) RQ1 := E_tsw rfl (by decide +kernel) (by decide +kernel) (bl_33 hL hi lv I L0 L1 L2 L3 K)
set_option maxRecDepth 20000 in
theorem sw_34 {L : Nat} {xs : Nat → Int32} (hL : L ≤ 3072) {h : pm_H} {i : Nat} (hi : i + 6 ≤ L) (lv : List (Nat × Value)) (I : IVQ h) (L0 : pm_get lv 0 = some (.retAddr 0)) (L1 : pm_get lv 1 = some (.ref 0)) (L2 : pm_get lv 2 = some (.ref 77)) (L3 : pm_get lv 3 = some (.int (nJ i))) (K : ∀ h', IVQ h' → Ends (pm_tr (lb_all L xs)) (pm_Rt pm_P 100) (2392, lv, [], h', 599897, 7298671) RQ1) : Ends (pm_tr (lb_all L xs)) (pm_Rt pm_P 100) (33, lv, [.int (nI 34)], h, 599897, 7298671) RQ1 := E_tsw rfl (by decide +kernel) (by decide +kernel) (bl_34 hL hi lv I L0 L1 L2 L3 K)
set_option maxRecDepth 20000 in
theorem sw_35 {L : Nat} {xs : Nat → Int32} (hL : L ≤ 3072) {h : pm_H} {i : Nat} (hi : i + 6 ≤ L) (lv : List (Nat × Value)) (I : IVQ h) (L0 : pm_get lv 0 = some (.retAddr 0)) (L1 : pm_get lv 1 = some (.ref 0)) (L2 : pm_get lv 2 = some (.ref 77)) (L3 : pm_get lv 3 = some (.int (nJ i))) (K : ∀ h', IVQ h' → Ends (pm_tr (lb_all L xs)) (pm_Rt pm_P 100) (2392, lv, [], h', 599897, 7298671) RQ1) : Ends (pm_tr (lb_all L xs)) (pm_Rt pm_P 100) (33, lv, [.int (nI 35)], h, 599897, 7298671) RQ1 := E_tsw rfl (by decide +kernel) (by decide +kernel) (bl_35 hL hi lv I L0 L1 L2 L3 K)
set_option maxRecDepth 20000 in
theorem sw_36 {L : Nat} {xs : Nat → Int32} (hL : L ≤ 3072) {h : pm_H} {i : Nat} (hi : i + 6 ≤ L) (lv : List (Nat × Value)) (I : IVQ h) (L0 : pm_get lv 0 = some (.retAddr 0)) (L1 : pm_get lv 1 = some (.ref 0)) (L2 : pm_get lv 2 = some (.ref 77)) (L3 : pm_get lv 3 = some (.int (nJ i))) (K : ∀ h', IVQ h' → Ends (pm_tr (lb_all L xs)) (pm_Rt pm_P 100) (2392, lv, [], h', 599897, 7298671) RQ1) : Ends (pm_tr (lb_all L xs)) (pm_Rt pm_P 100) (33, lv, [.int (nI 36)], h, 599897, 7298671) RQ1 := E_tsw rfl (by decide +kernel) (by decide +kernel) (bl_36 hL hi lv I L0 L1 L2 L3 K)
set_option maxRecDepth 20000 in
theorem sw_37 {L : Nat} {xs : Nat → Int32} (hL : L ≤ 3072) {h : pm_H} {i : Nat} (hi : i + 6 ≤ L) (lv : List (Nat × Value)) (I : IVQ h) (L0 : pm_get lv 0 = some (.retAddr 0)) (L1 : pm_get lv 1 = some (.ref 0)) (L2 : pm_get lv 2 = some (.ref 77)) (L3 : pm_get lv 3 = some (.int (nJ i))) (K : ∀ h', IVQ h' → Ends (pm_tr (lb_all L xs)) (pm_Rt pm_P 100) (2392, lv, [], h', 599897, 7298671) RQ1) : Ends (pm_tr (lb_all L xs)) (pm_Rt pm_P 100) (33, lv, [.int (nI 37)], h, 599897, 7298671) RQ1 := E_tsw rfl (by decide +kernel) (by decide +kernel) (bl_37 hL hi lv I L0 L1 L2 L3 K)
set_option maxRecDepth 20000 in
theorem sw_38 {L : Nat} {xs : Nat → Int32} (hL : L ≤ 3072) {h : pm_H} {i : Nat} (hi : i + 6 ≤ L) (lv : List (Nat × Value)) (I : IVQ h) (L0 : pm_get lv 0 = some (.retAddr 0)) (L1 : pm_get lv 1 = some (.ref 0)) (L2 : pm_get lv 2 = some (.ref 77)) (L3 : pm_get lv 3 = some (.int (nJ i))) (K : ∀ h', IVQ h' → Ends (pm_tr (lb_all L xs)) (pm_Rt pm_P 100) (2392, lv, [], h', 599897, 7298671) RQ1) : Ends (pm_tr (lb_all L xs)) (pm_Rt pm_P 100) (33, lv, [.int (nI 38)], h, 599897, 7298671) RQ1 := E_tsw rfl (by decide +kernel) (by decide +kernel) (bl_38 hL hi lv I L0 L1 L2 L3 K)
set_option maxRecDepth 20000 in
theorem sw_39 {L : Nat} {xs : Nat → Int32} (hL : L ≤ 3072) {h : pm_H} {i : Nat} (hi : i + 6 ≤ L) (lv : List (Nat × Value)) (I : IVQ h) (L0 : pm_get lv 0 = some (.retAddr 0)) (L1 : pm_get lv 1 = some (.ref 0)) (L2 : pm_get lv 2 = some (.ref 77)) (L3 : pm_get lv 3 = some (.int (nJ i))) (K : ∀ h', IVQ h' → Ends (pm_tr (lb_all L xs)) (pm_Rt pm_P 100) (2392, lv, [], h', 599897, 7298671) RQ1) : Ends (pm_tr (lb_all L xs)) (pm_Rt pm_P 100) (33, lv, [.int (nI 39)], h, 599897, 7298671) RQ1 := E_tsw rfl (by decide +kernel) (by decide +kernel) (bl_39 hL hi lv I L0 L1 L2 L3 K)
set_option maxRecDepth 20000 in
theorem sw_40 {L : Nat} {xs : Nat → Int32} (hL : L ≤ 3072) {h : pm_H} {i : Nat} (hi : i + 6 ≤ L) (lv : List (Nat × Value)) (I : IVQ h) (L0 : pm_get lv 0 = some (.retAddr 0)) (L1 : pm_get lv 1 = some (.ref 0)) (L2 : pm_get lv 2 = some (.ref 77)) (L3 : pm_get lv 3 = some (.int (nJ i))) (K : ∀ h', IVQ h' → Ends (pm_tr (lb_all L xs)) (pm_Rt pm_P 100) (2392, lv, [], h', 599897, 7298671) RQ1) : Ends (pm_tr (lb_all L xs)) (pm_Rt pm_P 100) (33, lv, [.int (nI 40)], h, 599897, 7298671) RQ1 := E_tsw rfl (by decide +kernel) (by decide +kernel) (bl_40 hL hi lv I L0 L1 L2 L3 K)
set_option maxRecDepth 20000 in
theorem sw_41 {L : Nat} {xs : Nat → Int32} (hL : L ≤ 3072) {h : pm_H} {i : Nat} (hi : i + 6 ≤ L) (lv : List (Nat × Value)) (I : IVQ h) (L0 : pm_get lv 0 = some (.retAddr 0)) (L1 : pm_get lv 1 = some (.ref 0)) (L2 : pm_get lv 2 = some (.ref 77)) (L3 : pm_get lv 3 = some (.int (nJ i))) (K : ∀ h', IVQ h' → Ends (pm_tr (lb_all L xs)) (pm_Rt pm_P 100) (2392, lv, [], h', 599897, 7298671) RQ1) : Ends (pm_tr (lb_all L xs)) (pm_Rt pm_P 100) (33, lv, [.int (nI 41)], h, 599897, 7298671) RQ1 := E_tsw rfl (by decide +kernel) (by decide +kernel) (bl_41 hL hi lv I L0 L1 L2 L3 K)
set_option maxRecDepth 20000 in
theorem sw_42 {L : Nat} {xs : Nat → Int32} (hL : L ≤ 3072) {h : pm_H} {i : Nat} (hi : i + 6 ≤ L) (lv : List (Nat × Value)) (I : IVQ h) (L0 : pm_get lv 0 = some (.retAddr 0)) (L1 : pm_get lv 1 = some (.ref 0)) (L2 : pm_get lv 2 = some (.ref 77)) (L3 : pm_get lv 3 = some (.int (nJ i))) (K : ∀ h', IVQ h' → Ends (pm_tr (lb_all L xs)) (pm_Rt pm_P 100) (2392, lv, [], h', 599897, 7298671) RQ1) : Ends (pm_tr (lb_all L xs)) (pm_Rt pm_P 100) (33, lv, [.int (nI 42)], h, 599897, 7298671) RQ1 := E_tsw rfl (by decide +kernel) (by decide +kernel) (bl_42 hL hi lv I L0 L1 L2 L3 K)
set_option maxRecDepth 20000 in
theorem sw_43 {L : Nat} {xs : Nat → Int32} (hL : L ≤ 3072) {h : pm_H} {i : Nat} (hi : i + 6 ≤ L) (lv : List (Nat × Value)) (I : IVQ h) (L0 : pm_get lv 0 = some (.retAddr 0)) (L1 : pm_get lv 1 = some (.ref 0)) (L2 : pm_get lv 2 = some (.ref 77)) (L3 : pm_get lv 3 = some (.int (nJ i))) (K : ∀ h', IVQ h' → Ends (pm_tr (lb_all L xs)) (pm_Rt pm_P 100) (2392, lv, [], h', 599897, 7298671) RQ1) : Ends (pm_tr (lb_all L xs)) (pm_Rt pm_P 100) (33, lv, [.int (nI 43)], h, 599897, 7298671) RQ1 := E_tsw rfl (by decide +kernel) (by decide +kernel) (bl_43 hL hi lv I L0 L1 L2 L3 K)
set_option maxRecDepth 20000 in
theorem sw_44 {L : Nat} {xs : Nat → Int32} (hL : L ≤ 3072) {h : pm_H} {i : Nat} (hi : i + 6 ≤ L) (lv : List (Nat × Value)) (I : IVQ h) (L0 : pm_get lv 0 = some (.retAddr 0)) (L1 : pm_get lv 1 = some (.ref 0)) (L2 : pm_get lv 2 = some (.ref 77)) (L3 : pm_get lv 3 = some (.int (nJ i))) (K : ∀ h', IVQ h' → Ends (pm_tr (lb_all L xs)) (pm_Rt pm_P 100) (2392, lv, [], h', 599897, 7298671) RQ1) : Ends (pm_tr (lb_all L xs)) (pm_Rt pm_P 100) (33, lv, [.int (nI 44)], h, 599897, 7298671) RQ1 := E_tsw rfl (by decide +kernel) (by decide +kernel) (bl_44 hL hi lv I L0 L1 L2 L3 K)
set_option maxRecDepth 20000 in
theorem sw_45 {L : Nat} {xs : Nat → Int32} (hL : L ≤ 3072) {h : pm_H} {i : Nat} (hi : i + 6 ≤ L) (lv : List (Nat × Value)) (I : IVQ h) (L0 : pm_get lv 0 = some (.retAddr 0)) (L1 : pm_get lv 1 = some (.ref 0)) (L2 : pm_get lv 2 = some (.ref 77)) (L3 : pm_get lv 3 = some (.int (nJ i))) (K : ∀ h', IVQ h' → Ends (pm_tr (lb_all L xs)) (pm_Rt pm_P 100) (2392, lv, [], h', 599897, 7298671) RQ1) : Ends (pm_tr (lb_all L xs)) (pm_Rt pm_P 100) (33, lv, [.int (nI 45)], h, 599897, 7298671) RQ1 := E_tsw rfl (by decide +kernel) (by decide +kernel) (bl_45 hL hi lv I L0 L1 L2 L3 K)
set_option maxRecDepth 20000 in
theorem sw_46 {L : Nat} {xs : Nat → Int32} (hL : L ≤ 3072) {h : pm_H} {i : Nat} (hi : i + 6 ≤ L) (lv : List (Nat × Value)) (I : IVQ h) (L0 : pm_get lv 0 = some (.retAddr 0)) (L1 : pm_get lv 1 = some (.ref 0)) (L2 : pm_get lv 2 = some (.ref 77)) (L3 : pm_get lv 3 = some (.int (nJ i))) (K : ∀ h', IVQ h' → Ends (pm_tr (lb_all L xs)) (pm_Rt pm_P 100) (2392, lv, [], h', 599897, 7298671) RQ1) : Ends (pm_tr (lb_all L xs)) (pm_Rt pm_P 100) (33, lv, [.int (nI 46)], h, 599897, 7298671) RQ1 := E_tsw rfl (by decide +kernel) (by decide +kernel) (bl_46 hL hi lv I L0 L1 L2 L3 K)
set_option maxRecDepth 20000 in
theorem sw_47 {L : Nat} {xs : Nat → Int32} (hL : L ≤ 3072) {h : pm_H} {i : Nat} (hi : i + 6 ≤ L) (lv : List (Nat × Value)) (I : IVQ h) (L0 : pm_get lv 0 = some (.retAddr 0)) (L1 : pm_get lv 1 = some (.ref 0)) (L2 : pm_get lv 2 = some (.ref 77)) (L3 : pm_get lv 3 = some (.int (nJ i))) (K : ∀ h', IVQ h' → Ends (pm_tr (lb_all L xs)) (pm_Rt pm_P 100) (2392, lv, [], h', 599897, 7298671) RQ1) : Ends (pm_tr (lb_all L xs)) (pm_Rt pm_P 100) (33, lv, [.int (nI 47)], h, 599897, 7298671) RQ1 := E_tsw rfl (by decide +kernel) (by decide +kernel) (bl_47 hL hi lv I L0 L1 L2 L3 K)
set_option maxRecDepth 20000 in
theorem sw_48 {L : Nat} {xs : Nat → Int32} (hL : L ≤ 3072) {h : pm_H} {i : Nat} (hi : i + 6 ≤ L) (lv : List (Nat × Value)) (I : IVQ h) (L0 : pm_get lv 0 = some (.retAddr 0)) (L1 : pm_get lv 1 = some (.ref 0)) (L2 : pm_get lv 2 = some (.ref 77)) (L3 : pm_get lv 3 = some (.int (nJ i))) (K : ∀ h', IVQ h' → Ends (pm_tr (lb_all L xs)) (pm_Rt pm_P 100) (2392, lv, [], h', 599897, 7298671) RQ1) : Ends (pm_tr (lb_all L xs)) (pm_Rt pm_P 100) (33, lv, [.int (nI 48)], h, 599897, 7298671) RQ1 := E_tsw rfl (by decide +kernel) (by decide +kernel) (bl_48 hL hi lv I L0 L1 L2 L3 K)
set_option maxRecDepth 20000 in
theorem sw_49 {L : Nat} {xs : Nat → Int32} (hL : L ≤ 3072) {h : pm_H} {i : Nat} (hi : i + 6 ≤ L) (lv : List (Nat × Value)) (I : IVQ h) (L0 : pm_get lv 0 = some (.retAddr 0)) (L1 : pm_get lv 1 = some (.ref 0)) (L2 : pm_get lv 2 = some (.ref 77)) (L3 : pm_get lv 3 = some (.int (nJ i))) (K : ∀ h', IVQ h' → Ends (pm_tr (lb_all L xs)) (pm_Rt pm_P 100) (2392, lv, [], h', 599897, 7298671) RQ1) : Ends (pm_tr (lb_all L xs)) (pm_Rt pm_P 100) (33, lv, [.int (nI 49)], h, 599897, 7298671) RQ1 := E_tsw rfl (by decide +kernel) (by decide +kernel) (bl_49 hL hi lv I L0 L1 L2 L3 K)
set_option maxRecDepth 20000 in
theorem sw_50 {L : Nat} {xs : Nat → Int32} (hL : L ≤ 3072) {h : pm_H} {i : Nat} (hi : i + 6 ≤ L) (lv : List (Nat × Value)) (I : IVQ h) (L0 : pm_get lv 0 = some (.retAddr 0)) (L1 : pm_get lv 1 = some (.ref 0)) (L2 : pm_get lv 2 = some (.ref 77)) (L3 : pm_get lv 3 = some (.int (nJ i))) (K : ∀ h', IVQ h' → Ends (pm_tr (lb_all L xs)) (pm_Rt pm_P 100) (2392, lv, [], h', 599897, 7298671) RQ1) : Ends (pm_tr (lb_all L xs)) (pm_Rt pm_P 100) (33, lv, [.int (nI 50)], h, 599897, 7298671) RQ1 := E_tsw rfl (by decide +kernel) (by decide +kernel) (bl_50 hL hi lv I L0 L1 L2 L3 K)
set_option maxRecDepth 20000 in
theorem sw_51 {L : Nat} {xs : Nat → Int32} (hL : L ≤ 3072) {h : pm_H} {i : Nat} (hi : i + 6 ≤ L) (lv : List (Nat × Value)) (I : IVQ h) (L0 : pm_get lv 0 = some (.retAddr 0)) (L1 : pm_get lv 1 = some (.ref 0)) (L2 : pm_get lv 2 = some (.ref 77)) (L3 : pm_get lv 3 = some (.int (nJ i))) (K : ∀ h', IVQ h' → Ends (pm_tr (lb_all L xs)) (pm_Rt pm_P 100) (2392, lv, [], h', 599897, 7298671) RQ1) : Ends (pm_tr (lb_all L xs)) (pm_Rt pm_P 100) (33, lv, [.int (nI 51)], h, 599897, 7298671) RQ1 := E_tsw rfl (by decide +kernel) (by decide +kernel) (bl_51 hL hi lv I L0 L1 L2 L3 K)
set_option maxRecDepth 20000 in
theorem sw_52 {L : Nat} {xs : Nat → Int32} (hL : L ≤ 3072) {h : pm_H} {i : Nat} (hi : i + 6 ≤ L) (lv : List (Nat × Value)) (I : IVQ h) (L0 : pm_get lv 0 = some (.retAddr 0)) (L1 : pm_get lv 1 = some (.ref 0)) (L2 : pm_get lv 2 = some (.ref 77)) (L3 : pm_get lv 3 = some (.int (nJ i))) (K : ∀ h', IVQ h' → Ends (pm_tr (lb_all L xs)) (pm_Rt pm_P 100) (2392, lv, [], h', 599897, 7298671) RQ1) : Ends (pm_tr (lb_all L xs)) (pm_Rt pm_P 100) (33, lv, [.int (nI 52)], h, 599897, 7298671) RQ1 := E_tsw rfl (by decide +kernel) (by decide +kernel) (bl_52 hL hi lv I L0 L1 L2 L3 K)
set_option maxRecDepth 20000 in
theorem sw_53 {L : Nat} {xs : Nat → Int32} (hL : L ≤ 3072) {h : pm_H} {i : Nat} (hi : i + 6 ≤ L) (lv : List (Nat × Value)) (I : IVQ h) (L0 : pm_get lv 0 = some (.retAddr 0)) (L1 : pm_get lv 1 = some (.ref 0)) (L2 : pm_get lv 2 = some (.ref 77)) (L3 : pm_get lv 3 = some (.int (nJ i))) (K : ∀ h', IVQ h' → Ends (pm_tr (lb_all L xs)) (pm_Rt pm_P 100) (2392, lv, [], h', 599897, 7298671) RQ1) : Ends (pm_tr (lb_all L xs)) (pm_Rt pm_P 100) (33, lv, [.int (nI 53)], h, 599897, 7298671) RQ1 := E_tsw rfl (by decide +kernel) (by decide +kernel) (bl_53 hL hi lv I L0 L1 L2 L3 K)
set_option maxRecDepth 20000 in
theorem sw_54 {L : Nat} {xs : Nat → Int32} (hL : L ≤ 3072) {h : pm_H} {i : Nat} (hi : i + 6 ≤ L) (lv : List (Nat × Value)) (I : IVQ h) (L0 : pm_get lv 0 = some (.retAddr 0)) (L1 : pm_get lv 1 = some (.ref 0)) (L2 : pm_get lv 2 = some (.ref 77)) (L3 : pm_get lv 3 = some (.int (nJ i))) (K : ∀ h', IVQ h' → Ends (pm_tr (lb_all L xs)) (pm_Rt pm_P 100) (2392, lv, [], h', 599897, 7298671) RQ1) : Ends (pm_tr (lb_all L xs)) (pm_Rt pm_P 100) (33, lv, [.int (nI 54)], h, 599897, 7298671) RQ1 := E_tsw rfl (by decide +kernel) (by decide +kernel) (bl_54 hL hi lv I L0 L1 L2 L3 K)
set_option maxRecDepth 20000 in
theorem sw_55 {L : Nat} {xs : Nat → Int32} (hL : L ≤ 3072) {h : pm_H} {i : Nat} (hi : i + 6 ≤ L) (lv : List (Nat × Value)) (I : IVQ h) (L0 : pm_get lv 0 = some (.retAddr 0)) (L1 : pm_get lv 1 = some (.ref 0)) (L2 : pm_get lv 2 = some (.ref 77)) (L3 : pm_get lv 3 = some (.int (nJ i))) (K : ∀ h', IVQ h' → Ends (pm_tr (lb_all L xs)) (pm_Rt pm_P 100) (2392, lv, [], h', 599897, 7298671) RQ1) : Ends (pm_tr (lb_all L xs)) (pm_Rt pm_P 100) (33, lv, [.int (nI 55)], h, 599897, 7298671) RQ1 := E_tsw rfl (by decide +kernel) (by decide +kernel) (bl_55 hL hi lv I L0 L1 L2 L3 K)
set_option maxRecDepth 20000 in
theorem sw_56 {L : Nat} {xs : Nat → Int32} (hL : L ≤ 3072) {h : pm_H} {i : Nat} (hi : i + 6 ≤ L) (lv : List (Nat × Value)) (I : IVQ h) (L0 : pm_get lv 0 = some (.retAddr 0)) (L1 : pm_get lv 1 = some (.ref 0)) (L2 : pm_get lv 2 = some (.ref 77)) (L3 : pm_get lv 3 = some (.int (nJ i))) (K : ∀ h', IVQ h' → Ends (pm_tr (lb_all L xs)) (pm_Rt pm_P 100) (2392, lv, [], h', 599897, 7298671) RQ1) : Ends (pm_tr (lb_all L xs)) (pm_Rt pm_P 100) (33, lv, [.int (nI 56)], h, 599897, 7298671) RQ1 := E_tsw rfl (by decide +kernel) (by decide +kernel) (bl_56 hL hi lv I L0 L1 L2 L3 K)
set_option maxRecDepth 20000 in
theorem sw_57 {L : Nat} {xs : Nat → Int32} (hL : L ≤ 3072) {h : pm_H} {i : Nat} (hi : i + 6 ≤ L) (lv : List (Nat × Value)) (I : IVQ h) (L0 : pm_get lv 0 = some (.retAddr 0)) (L1 : pm_get lv 1 = some (.ref 0)) (L2 : pm_get lv 2 = some (.ref 77)) (L3 : pm_get lv 3 = some (.int (nJ i))) (K : ∀ h', IVQ h' → Ends (pm_tr (lb_all L xs)) (pm_Rt pm_P 100) (2392, lv, [], h', 599897, 7298671) RQ1) : Ends (pm_tr (lb_all L xs)) (pm_Rt pm_P 100) (33, lv, [.int (nI 57)], h, 599897, 7298671) RQ1 := E_tsw rfl (by decide +kernel) (by decide +kernel) (bl_57 hL hi lv I L0 L1 L2 L3 K)
set_option maxRecDepth 20000 in
theorem sw_58 {L : Nat} {xs : Nat → Int32} (hL : L ≤ 3072) {h : pm_H} {i : Nat} (hi : i + 6 ≤ L) (lv : List (Nat × Value)) (I : IVQ h) (L0 : pm_get lv 0 = some (.retAddr 0)) (L1 : pm_get lv 1 = some (.ref 0)) (L2 : pm_get lv 2 = some (.ref 77)) (L3 : pm_get lv 3 = some (.int (nJ i))) (K : ∀ h', IVQ h' → Ends (pm_tr (lb_all L xs)) (pm_Rt pm_P 100) (2392, lv, [], h', 599897, 7298671) RQ1) : Ends (pm_tr (lb_all L xs)) (pm_Rt pm_P 100) (33, lv, [.int (nI 58)], h, 599897, 7298671) RQ1 := E_tsw rfl (by decide +kernel) (by decide +kernel) (bl_58 hL hi lv I L0 L1 L2 L3 K)
set_option maxRecDepth 20000 in
theorem sw_59 {L : Nat} {xs : Nat → Int32} (hL : L ≤ 3072) {h : pm_H} {i : Nat} (hi : i + 6 ≤ L) (lv : List (Nat × Value)) (I : IVQ h) (L0 : pm_get lv 0 = some (.retAddr 0)) (L1 : pm_get lv 1 = some (.ref 0)) (L2 : pm_get lv 2 = some (.ref 77)) (L3 : pm_get lv 3 = some (.int (nJ i))) (K : ∀ h', IVQ h' → Ends (pm_tr (lb_all L xs)) (pm_Rt pm_P 100) (2392, lv, [], h', 599897, 7298671) RQ1) : Ends (pm_tr (lb_all L xs)) (pm_Rt pm_P 100) (33, lv, [.int (nI 59)], h, 599897, 7298671) RQ1 := E_tsw rfl (by decide +kernel) (by decide +kernel) (bl_59 hL hi lv I L0 L1 L2 L3 K)
set_option maxRecDepth 20000 in
theorem sw_60 {L : Nat} {xs : Nat → Int32} (hL : L ≤ 3072) {h : pm_H} {i : Nat} (hi : i + 6 ≤ L) (lv : List (Nat × Value)) (I : IVQ h) (L0 : pm_get lv 0 = some (.retAddr 0)) (L1 : pm_get lv 1 = some (.ref 0)) (L2 : pm_get lv 2 = some (.ref 77)) (L3 : pm_get lv 3 = some (.int (nJ i))) (K : ∀ h', IVQ h' → Ends (pm_tr (lb_all L xs)) (pm_Rt pm_P 100) (2392, lv, [], h', 599897, 7298671) RQ1) : Ends (pm_tr (lb_all L xs)) (pm_Rt pm_P 100) (33, lv, [.int (nI 60)], h, 599897, 7298671) RQ1 := E_tsw rfl (by decide +kernel) (by decide +kernel) (bl_60 hL hi lv I L0 L1 L2 L3 K)
set_option maxRecDepth 20000 in
theorem sw_61 {L : Nat} {xs : Nat → Int32} (hL : L ≤ 3072) {h : pm_H} {i : Nat} (hi : i + 6 ≤ L) (lv : List (Nat × Value)) (I : IVQ h) (L0 : pm_get lv 0 = some (.retAddr 0)) (L1 : pm_get lv 1 = some (.ref 0)) (L2 : pm_get lv 2 = some (.ref 77)) (L3 : pm_get lv 3 = some (.int (nJ i))) (K : ∀ h', IVQ h' → Ends (pm_tr (lb_all L xs)) (pm_Rt pm_P 100) (2392, lv, [], h', 599897, 7298671) RQ1) : Ends (pm_tr (lb_all L xs)) (pm_Rt pm_P 100) (33, lv, [.int (nI 61)], h, 599897, 7298671) RQ1 := E_tsw rfl (by decide +kernel) (by decide +kernel) (bl_61 hL hi lv I L0 L1 L2 L3 K)
set_option maxRecDepth 20000 in
theorem sw_62 {L : Nat} {xs : Nat → Int32} (hL : L ≤ 3072) {h : pm_H} {i : Nat} (hi : i + 6 ≤ L) (lv : List (Nat × Value)) (I : IVQ h) (L0 : pm_get lv 0 = some (.retAddr 0)) (L1 : pm_get lv 1 = some (.ref 0)) (L2 : pm_get lv 2 = some (.ref 77)) (L3 : pm_get lv 3 = some (.int (nJ i))) (K : ∀ h', IVQ h' → Ends (pm_tr (lb_all L xs)) (pm_Rt pm_P 100) (2392, lv, [], h', 599897, 7298671) RQ1) : Ends (pm_tr (lb_all L xs)) (pm_Rt pm_P 100) (33, lv, [.int (nI 62)], h, 599897, 7298671) RQ1 := E_tsw rfl (by decide +kernel) (by decide +kernel) (bl_62 hL hi lv I L0 L1 L2 L3 K)
set_option maxRecDepth 20000 in
theorem sw_63 {L : Nat} {xs : Nat → Int32} (hL : L ≤ 3072) {h : pm_H} {i : Nat} (hi : i + 6 ≤ L) (lv : List (Nat × Value)) (I : IVQ h) (L0 : pm_get lv 0 = some (.retAddr 0)) (L1 : pm_get lv 1 = some (.ref 0)) (L2 : pm_get lv 2 = some (.ref 77)) (L3 : pm_get lv 3 = some (.int (nJ i))) (K : ∀ h', IVQ h' → Ends (pm_tr (lb_all L xs)) (pm_Rt pm_P 100) (2392, lv, [], h', 599897, 7298671) RQ1) : Ends (pm_tr (lb_all L xs)) (pm_Rt pm_P 100) (33, lv, [.int (nI 63)], h, 599897, 7298671) RQ1 := E_tsw rfl (by decide +kernel) (by decide +kernel) (bl_63 hL hi lv I L0 L1 L2 L3 K)
set_option maxRecDepth 20000 in
theorem sw_64 {L : Nat} {xs : Nat → Int32} (hL : L ≤ 3072) {h : pm_H} {i : Nat} (hi : i + 6 ≤ L) (lv : List (Nat × Value)) (I : IVQ h) (L0 : pm_get lv 0 = some (.retAddr 0)) (L1 : pm_get lv 1 = some (.ref 0)) (L2 : pm_get lv 2 = some (.ref 77)) (L3 : pm_get lv 3 = some (.int (nJ i))) (K : ∀ h', IVQ h' → Ends (pm_tr (lb_all L xs)) (pm_Rt pm_P 100) (2392, lv, [], h', 599897, 7298671) RQ1) : Ends (pm_tr (lb_all L xs)) (pm_Rt pm_P 100) (33, lv, [.int (nI 64)], h, 599897, 7298671) RQ1 := E_tsw rfl (by decide +kernel) (by decide +kernel) (bl_64 hL hi lv I L0 L1 L2 L3 K)
set_option maxRecDepth 20000 in
theorem sw_65 {L : Nat} {xs : Nat → Int32} (hL : L ≤ 3072) {h : pm_H} {i : Nat} (hi : i + 6 ≤ L) (lv : List (Nat × Value)) (I : IVQ h) (L0 : pm_get lv 0 = some (.retAddr 0)) (L1 : pm_get lv 1 = some (.ref 0)) (L2 : pm_get lv 2 = some (.ref 77)) (L3 : pm_get lv 3 = some (.int (nJ i))) (K : ∀ h', IVQ h' → Ends (pm_tr (lb_all L xs)) (pm_Rt pm_P 100) (2392, lv, [], h', 599897, 7298671) RQ1) : Ends (pm_tr (lb_all L xs)) (pm_Rt pm_P 100) (33, lv, [.int (nI 65)], h, 599897, 7298671) RQ1 := E_tsw rfl (by decide +kernel) (by decide +kernel) (bl_65 hL hi lv I L0 L1 L2 L3 K)
set_option maxRecDepth 20000 in
theorem sw_66 {L : Nat} {xs : Nat → Int32} (hL : L ≤ 3072) {h : pm_H} {i : Nat} (hi : i + 6 ≤ L) (lv : List (Nat × Value)) (I : IVQ h) (L0 : pm_get lv 0 = some (.retAddr 0)) (L1 : pm_get lv 1 = some (.ref 0)) (L2 : pm_get lv 2 = some (.ref 77)) (L3 : pm_get lv 3 = some (.int (nJ i))) (K : ∀ h', IVQ h' → Ends (pm_tr (lb_all L xs)) (pm_Rt pm_P 100) (2392, lv, [], h', 599897, 7298671) RQ1) : Ends (pm_tr (lb_all L xs)) (pm_Rt pm_P 100) (33, lv, [.int (nI 66)], h, 599897, 7298671) RQ1 := E_tsw rfl (by decide +kernel) (by decide +kernel) (bl_66 hL hi lv I L0 L1 L2 L3 K)
set_option maxRecDepth 20000 in
theorem sw_67 {L : Nat} {xs : Nat → Int32} (hL : L ≤ 3072) {h : pm_H} {i : Nat} (hi : i + 6 ≤ L) (lv : List (Nat × Value)) (I : IVQ h) (L0 : pm_get lv 0 = some (.retAddr 0)) (L1 : pm_get lv 1 = some (.ref 0)) (L2 : pm_get lv 2 = some (.ref 77)) (L3 : pm_get lv 3 = some (.int (nJ i))) (K : ∀ h', IVQ h' → Ends (pm_tr (lb_all L xs)) (pm_Rt pm_P 100) (2392, lv, [], h', 599897, 7298671) RQ1) : Ends (pm_tr (lb_all L xs)) (pm_Rt pm_P 100) (33, lv, [.int (nI 67)], h, 599897, 7298671) RQ1 := E_tsw rfl (by decide +kernel) (by decide +kernel) (bl_67 hL hi lv I L0 L1 L2 L3 K)
set_option maxRecDepth 20000 in
theorem sw_68 {L : Nat} {xs : Nat → Int32} (hL : L ≤ 3072) {h : pm_H} {i : Nat} (hi : i + 6 ≤ L) (lv : List (Nat × Value)) (I : IVQ h) (L0 : pm_get lv 0 = some (.retAddr 0)) (L1 : pm_get lv 1 = some (.ref 0)) (L2 : pm_get lv 2 = some (.ref 77)) (L3 : pm_get lv 3 = some (.int (nJ i))) (K : ∀ h', IVQ h' → Ends (pm_tr (lb_all L xs)) (pm_Rt pm_P 100) (2392, lv, [], h', 599897, 7298671) RQ1) : Ends (pm_tr (lb_all L xs)) (pm_Rt pm_P 100) (33, lv, [.int (nI 68)], h, 599897, 7298671) RQ1 := E_tsw rfl (by decide +kernel) (by decide +kernel) (bl_68 hL hi lv I L0 L1 L2 L3 K)
set_option maxRecDepth 20000 in
theorem sw_69 {L : Nat} {xs : Nat → Int32} (hL : L ≤ 3072) {h : pm_H} {i : Nat} (hi : i + 6 ≤ L) (lv : List (Nat × Value)) (I : IVQ h) (L0 : pm_get lv 0 = some (.retAddr 0)) (L1 : pm_get lv 1 = some (.ref 0)) (L2 : pm_get lv 2 = some (.ref 77)) (L3 : pm_get lv 3 = some (.int (nJ i))) (K : ∀ h', IVQ h' → Ends (pm_tr (lb_all L xs)) (pm_Rt pm_P 100) (2392, lv, [], h', 599897, 7298671) RQ1) : Ends (pm_tr (lb_all L xs)) (pm_Rt pm_P 100) (33, lv, [.int (nI 69)], h, 599897, 7298671) RQ1 := E_tsw rfl (by decide +kernel) (by decide +kernel) (bl_69 hL hi lv I L0 L1 L2 L3 K)
set_option maxRecDepth 20000 in
theorem sw_70 {L : Nat} {xs : Nat → Int32} (hL : L ≤ 3072) {h : pm_H} {i : Nat} (hi : i + 6 ≤ L) (lv : List (Nat × Value)) (I : IVQ h) (L0 : pm_get lv 0 = some (.retAddr 0)) (L1 : pm_get lv 1 = some (.ref 0)) (L2 : pm_get lv 2 = some (.ref 77)) (L3 : pm_get lv 3 = some (.int (nJ i))) (K : ∀ h', IVQ h' → Ends (pm_tr (lb_all L xs)) (pm_Rt pm_P 100) (2392, lv, [], h', 599897, 7298671) RQ1) : Ends (pm_tr (lb_all L xs)) (pm_Rt pm_P 100) (33, lv, [.int (nI 70)], h, 599897, 7298671) RQ1 := E_tsw rfl (by decide +kernel) (by decide +kernel) (bl_70 hL hi lv I L0 L1 L2 L3 K)
set_option maxRecDepth 20000 in
theorem sw_71 {L : Nat} {xs : Nat → Int32} (hL : L ≤ 3072) {h : pm_H} {i : Nat} (hi : i + 6 ≤ L) (lv : List (Nat × Value)) (I : IVQ h) (L0 : pm_get lv 0 = some (.retAddr 0)) (L1 : pm_get lv 1 = some (.ref 0)) (L2 : pm_get lv 2 = some (.ref 77)) (L3 : pm_get lv 3 = some (.int (nJ i))) (K : ∀ h', IVQ h' → Ends (pm_tr (lb_all L xs)) (pm_Rt pm_P 100) (2392, lv, [], h', 599897, 7298671) RQ1) : Ends (pm_tr (lb_all L xs)) (pm_Rt pm_P 100) (33, lv, [.int (nI 71)], h, 599897, 7298671) RQ1 := E_tsw rfl (by decide +kernel) (by decide +kernel) (bl_71 hL hi lv I L0 L1 L2 L3 K)
set_option maxRecDepth 20000 in
theorem sw_72 {L : Nat} {xs : Nat → Int32} (hL : L ≤ 3072) {h : pm_H} {i : Nat} (hi : i + 6 ≤ L) (lv : List (Nat × Value)) (I : IVQ h) (L0 : pm_get lv 0 = some (.retAddr 0)) (L1 : pm_get lv 1 = some (.ref 0)) (L2 : pm_get lv 2 = some (.ref 77)) (L3 : pm_get lv 3 = some (.int (nJ i))) (K : ∀ h', IVQ h' → Ends (pm_tr (lb_all L xs)) (pm_Rt pm_P 100) (2392, lv, [], h', 599897, 7298671) RQ1) : Ends (pm_tr (lb_all L xs)) (pm_Rt pm_P 100) (33, lv, [.int (nI 72)], h, 599897, 7298671) RQ1 := E_tsw rfl (by decide +kernel) (by decide +kernel) (bl_72 hL hi lv I L0 L1 L2 L3 K)
set_option maxRecDepth 20000 in
theorem sw_73 {L : Nat} {xs : Nat → Int32} (hL : L ≤ 3072) {h : pm_H} {i : Nat} (hi : i + 6 ≤ L) (lv : List (Nat × Value)) (I : IVQ h) (L0 : pm_get lv 0 = some (.retAddr 0)) (L1 : pm_get lv 1 = some (.ref 0)) (L2 : pm_get lv 2 = some (.ref 77)) (L3 : pm_get lv 3 = some (.int (nJ i))) (K : ∀ h', IVQ h' → Ends (pm_tr (lb_all L xs)) (pm_Rt pm_P 100) (2392, lv, [], h', 599897, 7298671) RQ1) : Ends (pm_tr (lb_all L xs)) (pm_Rt pm_P 100) (33, lv, [.int (nI 73)], h, 599897, 7298671) RQ1 := E_tsw rfl (by decide +kernel) (by decide +kernel) (bl_73 hL hi lv I L0 L1 L2 L3 K)
set_option maxRecDepth 20000 in
theorem sw_74 {L : Nat} {xs : Nat → Int32} (hL : L ≤ 3072) {h : pm_H} {i : Nat} (hi : i + 6 ≤ L) (lv : List (Nat × Value)) (I : IVQ h) (L0 : pm_get lv 0 = some (.retAddr 0)) (L1 : pm_get lv 1 = some (.ref 0)) (L2 : pm_get lv 2 = some (.ref 77)) (L3 : pm_get lv 3 = some (.int (nJ i))) (K : ∀ h', IVQ h' → Ends (pm_tr (lb_all L xs)) (pm_Rt pm_P 100) (2392, lv, [], h', 599897, 7298671) RQ1) : Ends (pm_tr (lb_all L xs)) (pm_Rt pm_P 100) (33, lv, [.int (nI 74)], h, 599897, 7298671) RQ1 := E_tsw rfl (by decide +kernel) (by decide +kernel) (bl_74 hL hi lv I L0 L1 L2 L3 K)
set_option maxRecDepth 20000 in
theorem sw_75 {L : Nat} {xs : Nat → Int32} (hL : L ≤ 3072) {h : pm_H} {i : Nat} (hi : i + 6 ≤ L) (lv : List (Nat × Value)) (I : IVQ h) (L0 : pm_get lv 0 = some (.retAddr 0)) (L1 : pm_get lv 1 = some (.ref 0)) (L2 : pm_get lv 2 = some (.ref 77)) (L3 : pm_get lv 3 = some (.int (nJ i))) (K : ∀ h', IVQ h' → Ends (pm_tr (lb_all L xs)) (pm_Rt pm_P 100) (2392, lv, [], h', 599897, 7298671) RQ1) : Ends (pm_tr (lb_all L xs)) (pm_Rt pm_P 100) (33, lv, [.int (nI 75)], h, 599897, 7298671) RQ1 := E_tsw rfl (by decide +kernel) (by decide +kernel) (bl_75 hL hi lv I L0 L1 L2 L3 K)
set_option maxRecDepth 20000 in
theorem sw_76 {L : Nat} {xs : Nat → Int32} (hL : L ≤ 3072) {h : pm_H} {i : Nat} (hi : i + 6 ≤ L) (lv : List (Nat × Value)) (I : IVQ h) (L0 : pm_get lv 0 = some (.retAddr 0)) (L1 : pm_get lv 1 = some (.ref 0)) (L2 : pm_get lv 2 = some (.ref 77)) (L3 : pm_get lv 3 = some (.int (nJ i))) (K : ∀ h', IVQ h' → Ends (pm_tr (lb_all L xs)) (pm_Rt pm_P 100) (2392, lv, [], h', 599897, 7298671) RQ1) : Ends (pm_tr (lb_all L xs)) (pm_Rt pm_P 100) (33, lv, [.int (nI 76)], h, 599897, 7298671) RQ1 := E_tsw rfl (by decide +kernel) (by decide +kernel) (bl_76 hL hi lv I L0 L1 L2 L3 K)
set_option maxRecDepth 20000 in
theorem sw_77 {L : Nat} {xs : Nat → Int32} (hL : L ≤ 3072) {h : pm_H} {i : Nat} (hi : i + 6 ≤ L) (lv : List (Nat × Value)) (I : IVQ h) (L0 : pm_get lv 0 = some (.retAddr 0)) (L1 : pm_get lv 1 = some (.ref 0)) (L2 : pm_get lv 2 = some (.ref 77)) (L3 : pm_get lv 3 = some (.int (nJ i))) (K : ∀ h', IVQ h' → Ends (pm_tr (lb_all L xs)) (pm_Rt pm_P 100) (2392, lv, [], h', 599897, 7298671) RQ1) : Ends (pm_tr (lb_all L xs)) (pm_Rt pm_P 100) (33, lv, [.int (nI 77)], h, 599897, 7298671) RQ1 := E_tsw rfl (by decide +kernel) (by decide +kernel) (bl_77 hL hi lv I L0 L1 L2 L3 K)
set_option maxRecDepth 20000 in
theorem sw_78 {L : Nat} {xs : Nat → Int32} (hL : L ≤ 3072) {h : pm_H} {i : Nat} (hi : i + 6 ≤ L) (lv : List (Nat × Value)) (I : IVQ h) (L0 : pm_get lv 0 = some (.retAddr 0)) (L1 : pm_get lv 1 = some (.ref 0)) (L2 : pm_get lv 2 = some (.ref 77)) (L3 : pm_get lv 3 = some (.int (nJ i))) (K : ∀ h', IVQ h' → Ends (pm_tr (lb_all L xs)) (pm_Rt pm_P 100) (2392, lv, [], h', 599897, 7298671) RQ1) : Ends (pm_tr (lb_all L xs)) (pm_Rt pm_P 100) (33, lv, [.int (nI 78)], h, 599897, 7298671) RQ1 := E_tsw rfl (by decide +kernel) (by decide +kernel) (bl_78 hL hi lv I L0 L1 L2 L3 K)
set_option maxRecDepth 20000 in
theorem sw_79 {L : Nat} {xs : Nat → Int32} (hL : L ≤ 3072) {h : pm_H} {i : Nat} (hi : i + 6 ≤ L) (lv : List (Nat × Value)) (I : IVQ h) (L0 : pm_get lv 0 = some (.retAddr 0)) (L1 : pm_get lv 1 = some (.ref 0)) (L2 : pm_get lv 2 = some (.ref 77)) (L3 : pm_get lv 3 = some (.int (nJ i))) (K : ∀ h', IVQ h' → Ends (pm_tr (lb_all L xs)) (pm_Rt pm_P 100) (2392, lv, [], h', 599897, 7298671) RQ1) : Ends (pm_tr (lb_all L xs)) (pm_Rt pm_P 100) (33, lv, [.int (nI 79)], h, 599897, 7298671) RQ1 := E_tsw rfl (by decide +kernel) (by decide +kernel) (bl_79 hL hi lv I L0 L1 L2 L3 K)
set_option maxRecDepth 20000 in
theorem sw_80 {L : Nat} {xs : Nat → Int32} (hL : L ≤ 3072) {h : pm_H} {i : Nat} (hi : i + 6 ≤ L) (lv : List (Nat × Value)) (I : IVQ h) (L0 : pm_get lv 0 = some (.retAddr 0)) (L1 : pm_get lv 1 = some (.ref 0)) (L2 : pm_get lv 2 = some (.ref 77)) (L3 : pm_get lv 3 = some (.int (nJ i))) (K : ∀ h', IVQ h' → Ends (pm_tr (lb_all L xs)) (pm_Rt pm_P 100) (2392, lv, [], h', 599897, 7298671) RQ1) : Ends (pm_tr (lb_all L xs)) (pm_Rt pm_P 100) (33, lv, [.int (nI 80)], h, 599897, 7298671) RQ1 := E_tsw rfl (by decide +kernel) (by decide +kernel) (bl_80 hL hi lv I L0 L1 L2 L3 K)
set_option maxRecDepth 20000 in
theorem sw_81 {L : Nat} {xs : Nat → Int32} (hL : L ≤ 3072) {h : pm_H} {i : Nat} (hi : i + 6 ≤ L) (lv : List (Nat × Value)) (I : IVQ h) (L0 : pm_get lv 0 = some (.retAddr 0)) (L1 : pm_get lv 1 = some (.ref 0)) (L2 : pm_get lv 2 = some (.ref 77)) (L3 : pm_get lv 3 = some (.int (nJ i))) (K : ∀ h', IVQ h' → Ends (pm_tr (lb_all L xs)) (pm_Rt pm_P 100) (2392, lv, [], h', 599897, 7298671) RQ1) : Ends (pm_tr (lb_all L xs)) (pm_Rt pm_P 100) (33, lv, [.int (nI 81)], h, 599897, 7298671) RQ1 := E_tsw rfl (by decide +kernel) (by decide +kernel) (bl_81 hL hi lv I L0 L1 L2 L3 K)
set_option maxRecDepth 20000 in
theorem sw_all {L : Nat} {xs : Nat → Int32} (hL : L ≤ 3072) {h : pm_H} {i : Nat} (hi : i + 6 ≤ L) (lv : List (Nat × Value)) (I : IVQ h) (L0 : pm_get lv 0 = some (.retAddr 0)) (L1 : pm_get lv 1 = some (.ref 0)) (L2 : pm_get lv 2 = some (.ref 77)) (L3 : pm_get lv 3 = some (.int (nJ i))) (K : ∀ h', IVQ h' → Ends (pm_tr (lb_all L xs)) (pm_Rt pm_P 100) (2392, lv, [], h', 599897, 7298671) RQ1) (j : Nat) (hj : j < 128) : Ends (pm_tr (lb_all L xs)) (pm_Rt pm_P 100) (33, lv, [.int (nI j)], h, 599897, 7298671) RQ1 := by
  match j, hj with
  | 0, _ => exact sw_0 hL hi lv I L0 L1 L2 L3 K
  | 1, _ => exact sw_1 hL hi lv I L0 L1 L2 L3 K
  | 2, _ => exact sw_2 hL hi lv I L0 L1 L2 L3 K
  | 3, _ => exact sw_3 hL hi lv I L0 L1 L2 L3 K
  | 4, _ => exact sw_4 hL hi lv I L0 L1 L2 L3 K
  | 5, _ => exact sw_5 hL hi lv I L0 L1 L2 L3 K
  | 6, _ => exact sw_6 hL hi lv I L0 L1 L2 L3 K
  | 7, _ => exact sw_7 hL hi lv I L0 L1 L2 L3 K
  | 8, _ => exact sw_8 hL hi lv I L0 L1 L2 L3 K
  | 9, _ => exact sw_9 hL hi lv I L0 L1 L2 L3 K
  | 10, _ => exact sw_10 hL hi lv I L0 L1 L2 L3 K
  | 11, _ => exact sw_11 hL hi lv I L0 L1 L2 L3 K
  | 12, _ => exact sw_12 hL hi lv I L0 L1 L2 L3 K
  | 13, _ => exact sw_13 hL hi lv I L0 L1 L2 L3 K
  | 14, _ => exact sw_14 hL hi lv I L0 L1 L2 L3 K
  | 15, _ => exact sw_15 hL hi lv I L0 L1 L2 L3 K
  | 16, _ => exact sw_16 hL hi lv I L0 L1 L2 L3 K
  | 17, _ => exact sw_17 hL hi lv I L0 L1 L2 L3 K
  | 18, _ => exact sw_18 hL hi lv I L0 L1 L2 L3 K
  | 19, _ => exact sw_19 hL hi lv I L0 L1 L2 L3 K
  | 20, _ => exact sw_20 hL hi lv I L0 L1 L2 L3 K
  | 21, _ => exact sw_21 hL hi lv I L0 L1 L2 L3 K
  | 22, _ => exact sw_22 hL hi lv I L0 L1 L2 L3 K
  | 23, _ => exact sw_23 hL hi lv I L0 L1 L2 L3 K
  | 24, _ => exact sw_24 hL hi lv I L0 L1 L2 L3 K
  | 25, _ => exact sw_25 hL hi lv I L0 L1 L2 L3 K
  | 26, _ => exact sw_26 hL hi lv I L0 L1 L2 L3 K
  | 27, _ => exact sw_27 hL hi lv I L0 L1 L2 L3 K
  | 28, _ => exact sw_28 hL hi lv I L0 L1 L2 L3 K
  | 29, _ => exact sw_29 hL hi lv I L0 L1 L2 L3 K
  | 30, _ => exact sw_30 hL hi lv I L0 L1 L2 L3 K
  | 31, _ => exact sw_31 hL hi lv I L0 L1 L2 L3 K
  | 32, _ => exact sw_32 hL hi lv I L0 L1 L2 L3 K
  | 33, _ => exact sw_33 hL hi lv I L0 L1 L2 L3 K
  | 34, _ => exact sw_34 hL hi lv I L0 L1 L2 L3 K
  | 35, _ => exact sw_35 hL hi lv I L0 L1 L2 L3 K
  | 36, _ => exact sw_36 hL hi lv I L0 L1 L2 L3 K
  | 37, _ => exact sw_37 hL hi lv I L0 L1 L2 L3 K
  | 38, _ => exact sw_38 hL hi lv I L0 L1 L2 L3 K
  | 39, _ => exact sw_39 hL hi lv I L0 L1 L2 L3 K
  | 40, _ => exact sw_40 hL hi lv I L0 L1 L2 L3 K
  | 41, _ => exact sw_41 hL hi lv I L0 L1 L2 L3 K
  | 42, _ => exact sw_42 hL hi lv I L0 L1 L2 L3 K
  | 43, _ => exact sw_43 hL hi lv I L0 L1 L2 L3 K
  | 44, _ => exact sw_44 hL hi lv I L0 L1 L2 L3 K
  | 45, _ => exact sw_45 hL hi lv I L0 L1 L2 L3 K
  | 46, _ => exact sw_46 hL hi lv I L0 L1 L2 L3 K
  | 47, _ => exact sw_47 hL hi lv I L0 L1 L2 L3 K
  | 48, _ => exact sw_48 hL hi lv I L0 L1 L2 L3 K
  | 49, _ => exact sw_49 hL hi lv I L0 L1 L2 L3 K
  | 50, _ => exact sw_50 hL hi lv I L0 L1 L2 L3 K
  | 51, _ => exact sw_51 hL hi lv I L0 L1 L2 L3 K
  | 52, _ => exact sw_52 hL hi lv I L0 L1 L2 L3 K
  | 53, _ => exact sw_53 hL hi lv I L0 L1 L2 L3 K
  | 54, _ => exact sw_54 hL hi lv I L0 L1 L2 L3 K
  | 55, _ => exact sw_55 hL hi lv I L0 L1 L2 L3 K
  | 56, _ => exact sw_56 hL hi lv I L0 L1 L2 L3 K
  | 57, _ => exact sw_57 hL hi lv I L0 L1 L2 L3 K
  | 58, _ => exact sw_58 hL hi lv I L0 L1 L2 L3 K
  | 59, _ => exact sw_59 hL hi lv I L0 L1 L2 L3 K
  | 60, _ => exact sw_60 hL hi lv I L0 L1 L2 L3 K
  | 61, _ => exact sw_61 hL hi lv I L0 L1 L2 L3 K
  | 62, _ => exact sw_62 hL hi lv I L0 L1 L2 L3 K
  | 63, _ => exact sw_63 hL hi lv I L0 L1 L2 L3 K
  | 64, _ => exact sw_64 hL hi lv I L0 L1 L2 L3 K
  | 65, _ => exact sw_65 hL hi lv I L0 L1 L2 L3 K
  | 66, _ => exact sw_66 hL hi lv I L0 L1 L2 L3 K
  | 67, _ => exact sw_67 hL hi lv I L0 L1 L2 L3 K
  | 68, _ => exact sw_68 hL hi lv I L0 L1 L2 L3 K
  | 69, _ => exact sw_69 hL hi lv I L0 L1 L2 L3 K
  | 70, _ => exact sw_70 hL hi lv I L0 L1 L2 L3 K
  | 71, _ => exact sw_71 hL hi lv I L0 L1 L2 L3 K
  | 72, _ => exact sw_72 hL hi lv I L0 L1 L2 L3 K
  | 73, _ => exact sw_73 hL hi lv I L0 L1 L2 L3 K
  | 74, _ => exact sw_74 hL hi lv I L0 L1 L2 L3 K
  | 75, _ => exact sw_75 hL hi lv I L0 L1 L2 L3 K
  | 76, _ => exact sw_76 hL hi lv I L0 L1 L2 L3 K
  | 77, _ => exact sw_77 hL hi lv I L0 L1 L2 L3 K
  | 78, _ => exact sw_78 hL hi lv I L0 L1 L2 L3 K
  | 79, _ => exact sw_79 hL hi lv I L0 L1 L2 L3 K
  | 80, _ => exact sw_80 hL hi lv I L0 L1 L2 L3 K
  | 81, _ => exact sw_81 hL hi lv I L0 L1 L2 L3 K
  | j + 82, hj => exact E_tswD rfl (by rw [show ((nI (j + 82)).toInt) = ((j + 82 : Nat) : Int) from nI_toInt (by omega), Bool.or_eq_true]; exact .inr (decide_eq_true (by omega))) (K h I)
theorem ls_lt {L i : Nat} (hL : L ≤ 3072) (hi : i ≤ 4000) : nJ L - nJ 6 < nJ i ↔ L < i + 6 := by
  rw [Int32.lt_iff_toInt_lt, Int32.toInt_sub, nJ_toInt (by omega), nJ_toInt (by omega), nJ_toInt (by omega), Int.bmod_eq_of_le (by omega) (by omega)]
  omega
set_option maxRecDepth 20000 in
theorem law_loop {L : Nat} {xs : Nat → Int32} (hL : L ≤ 3072) (n : Nat) : ∀ {h : pm_H} {i : Nat} (lv : List (Nat × Value)), IVQ h → i ≤ 4000 → L < i + 6 * (n + 1) → pm_get lv 0 = some (.retAddr 0) → pm_get lv 1 = some (.ref 0) → pm_get lv 2 = some (.ref 77) → pm_get lv 3 = some (.int (nJ i)) → Ends (pm_tr (lb_all L xs)) (pm_Rt pm_P 100) (18, lv, [], h, 599897, 7298671) RQ1 := by
  have fin : ∀ {h : pm_H} {i : Nat} (lv : List (Nat × Value)), i ≤ 4000 → L < i + 6 → pm_get lv 0 = some (.retAddr 0) → pm_get lv 3 = some (.int (nJ i)) → Ends (pm_tr (lb_all L xs)) (pm_Rt pm_P 100) (18, lv, [], h, 599897, 7298671) RQ1 := by
    intro h i lv hi hlt L0 L3
    refine E_il rfl L3 ?_
    refine E_alr rfl L0 ?_
    refine E_slen rfl hL ?_
    refine E_ci 6 rfl ci6 ?_
    refine E_bin rfl rfl ?_
    refine E_icT rfl (decide_eq_true ((ls_lt hL hi).mpr hlt)) ?_
    refine E_ci 1 rfl ci1 ?_
    exact E_rtz rfl (.inr rfl) rfl
  induction n with
  | zero => intro h i lv I hi hn L0 L1 L2 L3; exact fin lv hi (by omega) L0 L3
  | succ n ih =>
    intro h i lv I hi hn L0 L1 L2 L3
    by_cases hlt : L < i + 6
    · exact fin lv hi hlt L0 L3
    · refine E_il rfl L3 ?_
      refine E_alr rfl L0 ?_
      refine E_slen rfl hL ?_
      refine E_ci 6 rfl ci6 ?_
      refine E_bin rfl rfl ?_
      refine E_icF rfl (decide_eq_false (fun q => hlt ((ls_lt hL hi).mp q))) ?_
      refine E_alr rfl L0 ?_
      refine E_il rfl L3 ?_
      refine E_sld rfl (by omega) hL ?_
      refine E_c rfl ?_
      obtain ⟨j, hj, e⟩ := pk_andE (xs i) (m := 127) 7 rfl
      refine E_bin rfl e ?_
      refine sw_all hL (by omega) lv I L0 L1 L2 L3 (fun h' I' => ?_) j hj
      refine E_inc rfl L3 (nJ_inc6 _) (fun lv1 K3 kp => ?_)
      refine E_goto rfl ?_
      have K0 : pm_get lv1 0 = some (.retAddr 0) := kp 0 _ (nbz rfl) rfl L0
      exact ih lv1 I' (by omega) (by omega) K0 (kp 1 _ (nbz rfl) rfl L1) (kp 2 _ (nbz rfl) rfl L2) K3
set_option maxRecDepth 20000 in
set_option maxHeartbeats 4000000 in
theorem law_pure (L : Nat) (hL : L ≤ 3072) (xs : Nat → Int32) : ∃ h2, pm_Go (pm_tr (lb_all L xs)) (pm_Rt pm_P 100) (0, [(0, .retAddr 0)], [], [], 600000, 7302250) (h2, some (.int 1)) := by
  obtain ⟨h2, r, hg, hr⟩ := law_loop (xs := xs) hL 600 (h := hp0) (i := 0) [(3, .int 0), (2, .ref 77), (1, .ref 0), (0, .retAddr 0)] IVQ_hp0 (by omega) (by omega) rfl rfl rfl rfl
  have hr : r = some (.int 1) := hr
  subst hr
  refine ⟨h2, ?_⟩
  refine Go_st rfl rfl ?_
  refine Go_st rfl rfl ?_
  refine Go_call rfl (rc_16 97) (chkV rfl rfl rfl rfl rfl rfl rfl) ?_
  refine Go_st rfl rfl ?_
  refine Go_st rfl rfl ?_
  refine Go_st rfl rfl ?_
  refine Go_call rfl (rc_17 99) (chkV rfl rfl rfl rfl rfl rfl rfl) ?_
  refine Go_st rfl rfl ?_
  refine Go_st rfl rfl ?_
  refine Go_st rfl rfl ?_
  exact hg
end
