section
noncomputable def TM : List Rng := [(77, 0, 0), (77, 22, 23), (77, 27, 27), (77, 35, 36), (77, 39, 39), (77, 41, 43), (89, 0, 7), (90, 0, 9), (91, 0, 7), (92, 0, 8), (93, 0, 8), (94, 0, 8), (95, 0, 7), (96, 0, 17), (97, 0, 7), (98, 0, 8), (99, 0, 4), (100, 0, 5), (101, 0, 9), (102, 0, 71)]
noncomputable def TQ (h0 h' : pm_H) (r : Option Value) : Prop := HH h' ∧ fr_g TM h0 h' ∧ ∃ x : Int32, r = some (.int x)
/-- of a row: no more cars than places, every car wants a place, acts speak of places and of cars -/
noncomputable def RI (r : Nat) (h : pm_H) : Prop := gn h 84 (6 * r + 3) ≤ gn h 84 (6 * r) ∧ (∀ c, c < gn h 84 (6 * r + 3) → 1 ≤ gn h 85 (16 * r + 2 * c)) ∧ ∀ k, k < gn h 84 (6 * r + 5) → (gn h 87 (60 * r + 3 * k) = 0 → 1 ≤ gn h 87 (60 * r + 3 * k + 2)) ∧ (¬ gn h 87 (60 * r + 3 * k) = 0 → gn h 87 (60 * r + 3 * k + 1) < gn h 84 (6 * r + 3) ∧ gn h 87 (60 * r + 3 * k + 2) < gn h 84 (6 * r + 3))
theorem RI_eq {r : Nat} {h h' : pm_H} (hR : RI r h) (h1 : ∀ k, gn h' 84 k = gn h 84 k) (h2 : ∀ c, gn h' 85 (16 * r + 2 * c) = gn h 85 (16 * r + 2 * c)) (h3 : ∀ k, gn h' 87 k = gn h 87 k) : RI r h' := by
  unfold RI at hR ⊢
  simp only [h1, h2, h3]
  exact hR
theorem RI_fr {r : Nat} {M : List Rng} {h h' : pm_H} (hR : RI r h) (hM : M.all (fun r => !(Nat.beq r.1 84) && (!(Nat.beq r.1 85) && !(Nat.beq r.1 87))) = true) (hf : fr_g M h h') : RI r h' := by
  have hm : ∀ a, (a = 84 ∨ a = 85 ∨ a = 87) → ∀ k, gn h' a k = gn h a k := fun a ha k => fr_gn hf (rg_no (List.all_eq_true.mpr fun q hq => by
    have := List.all_eq_true.mp hM q hq
    simp only [Bool.and_eq_true] at this
    rcases ha with rfl | rfl | rfl
    · exact this.1
    · exact this.2.1
    · exact this.2.2) k)
  exact RI_eq hR (hm 84 (.inl rfl)) (fun c => hm 85 (.inr (.inl rfl)) _) (hm 87 (.inr (.inr rfl)))
theorem nJ_in {a : Nat} {lo hi : Int} (h1 : lo ≤ (a : Int)) (h2 : (a : Int) ≤ hi ∧ a < 2147483648) : cv_g (cI lo hi) (.int (nJ a)) := by
  show lo ≤ (nJ a).toInt ∧ (nJ a).toInt ≤ hi
  rw [nJ_toInt h2.2]
  exact ⟨h1, h2.1⟩
theorem rv_int295 {C : Cs} {h : pm_H} {r : Option Value} (hC : C ∈ S295.2.2.2.2.2) (hv : rv_g h C.2.2.2 r) : ∃ x : Int32, r = some (.int x) := by
  have e := List.mem_singleton.mp hC
  subst e
  cases r with
  | none => exact hv.elim
  | some v => cases v with
    | int x => exact ⟨x, rfl⟩
    | _ => exact hv.elim
theorem bd_pat {a k len t : Nat} {p : List (Int × Int)} {q : Int × Int} (hc : hsF a = some (.inl (t, len, p))) (hk : k < len) (hp : p[k % p.length]? = some q) : bd a k = some q := by
  unfold bd
  rw [hc]
  dsimp only
  rw [show Nat.blt k len = true from Nat.ble_eq_true_of_le hk, cond_true]
  exact hp
theorem bd_85 {k : Nat} (hk : k < 80) (e : k % 2 = 0) : bd 85 k = some (0, 8) := bd_pat (p := [(0, 8), (0, 99)]) rfl hk (by show [(0, 8), (0, 99)][k % 2]? = _; rw [e]; rfl)
theorem bd_87a {k : Nat} (hk : k < 300) (e : k % 3 = 0) : bd 87 k = some (0, 1) := bd_pat (p := [(0, 1), (0, 7), (0, 8)]) rfl hk (by show [(0, 1), (0, 7), (0, 8)][k % 3]? = _; rw [e]; rfl)
theorem bd_87b {k : Nat} (hk : k < 300) (e : k % 3 = 1) : bd 87 k = some (0, 7) := bd_pat (p := [(0, 1), (0, 7), (0, 8)]) rfl hk (by show [(0, 1), (0, 7), (0, 8)][k % 3]? = _; rw [e]; rfl)
theorem bd_87c {k : Nat} (hk : k < 300) (e : k % 3 = 2) : bd 87 k = some (0, 8) := bd_pat (p := [(0, 1), (0, 7), (0, 8)]) rfl hk (by show [(0, 1), (0, 7), (0, 8)][k % 3]? = _; rw [e]; rfl)
theorem ti_in {h : pm_H} {d m k : Nat} (hh : HH h) (hm : m ≤ 8) (hk : k ≤ m) (K : ∀ {n : Int32} (lv : List (Nat × Value)), pm_get lv 0 = some (.ref 77) → pm_get lv 1 = some (.int (nJ m)) → pm_get lv 2 = some (.int n) → pm_get lv 3 = some (.int (nJ (k + 1))) → Ends (pm_at tX9_turnedIn) (pm_Rt pm_P d) (4, lv, [], h, 0, 0) (fun h' r => h' = h ∧ ∃ x : Int32, r = some (.int x))) (e : Nat) : ∀ {n : Int32} {u : Nat} (lv : List (Nat × Value)), u ≤ 8 → dep (gn h 92) e u → pm_get lv 0 = some (.ref 77) → pm_get lv 1 = some (.int (nJ m)) → pm_get lv 2 = some (.int n) → pm_get lv 3 = some (.int (nJ k)) → pm_get lv 4 = some (.int (nJ u)) → Ends (pm_at tX9_turnedIn) (pm_Rt pm_P d) (17, lv, [], h, 0, 0) (fun h' r => h' = h ∧ ∃ x : Int32, r = some (.int x)) := by
  induction e with
  | zero =>
    intro n u lv hu hd L0 L1 L2 L3 L4
    have hd : u = 0 := hd
    refine E_il rfl L4 ?_
    refine E_ifT rfl (decide_eq_true ((nJ_eq0 (by omega)).mpr hd)) ?_
    refine E_inc rfl L3 (nJ_inc _) (fun lv1 L1_3 kp1 => ?_)
    have L1_0 := kp1 0 _ (nbz rfl) rfl L0
    have L1_1 := kp1 1 _ (nbz rfl) rfl L1
    have L1_2 := kp1 2 _ (nbz rfl) rfl L2
    have L1_4 := kp1 4 _ (nbz rfl) rfl L4
    refine E_goto rfl ?_
    exact K lv1 L1_0 L1_1 L1_2 L1_3
  | succ e ih =>
    intro n u lv hu hd L0 L1 L2 L3 L4
    refine E_il rfl L4 ?_
    by_cases hb1 : u = 0
    · refine E_ifT rfl (decide_eq_true ((nJ_eq0 (by omega)).mpr hb1)) ?_
      refine E_inc rfl L3 (nJ_inc _) (fun lv2 L2_3 kp2 => ?_)
      have L2_0 := kp2 0 _ (nbz rfl) rfl L0
      have L2_1 := kp2 1 _ (nbz rfl) rfl L1
      have L2_2 := kp2 2 _ (nbz rfl) rfl L2
      have L2_4 := kp2 4 _ (nbz rfl) rfl L4
      refine E_goto rfl ?_
      exact K lv2 L2_0 L2_1 L2_2 L2_3
    · refine E_ifF rfl (decide_eq_false (fun q => hb1 ((nJ_eq0 (by omega)).mp q))) ?_
      refine E_il rfl L2 ?_
      refine E_il rfl L3 ?_
      refine E_il rfl L4 ?_
      by_cases hb3 : u ≤ k
      · refine E_icT rfl (decide_eq_true ((nJ_le (by omega) (by omega)).mpr hb3)) ?_
        refine E_ci 0 rfl ci0 ?_
        refine E_bin rfl rfl ?_
        refine E_is rfl (fun lv4 L4_2 kp4 => ?_)
        have L4_0 := kp4 0 _ (nbz rfl) rfl L0
        have L4_1 := kp4 1 _ (nbz rfl) rfl L1
        have L4_3 := kp4 3 _ (nbz rfl) rfl L3
        have L4_4 := kp4 4 _ (nbz rfl) rfl L4
        refine E_al rfl L4_0 ?_
        refine E_gr rfl hh (q := 92) rfl ?_
        refine E_il rfl L4_4 ?_
        have b5 : gn h 92 u ≤ 8 := gn_hi hh (bd_u rfl (by omega)) (by decide)
        refine E_ial rfl hh rfl (by omega) (by decide) (gi_gn hh (bd_u rfl (by omega)) (by decide)) ?_
        refine E_is rfl (fun lv6 L6_4 kp6 => ?_)
        have L6_0 := kp6 0 _ (nbz rfl) rfl L4_0
        have L6_1 := kp6 1 _ (nbz rfl) rfl L4_1
        have L6_2 := kp6 2 _ (nbz rfl) rfl L4_2
        have L6_3 := kp6 3 _ (nbz rfl) rfl L4_3
        refine E_goto rfl ?_
        refine ih lv6 (by omega) ?_ L6_0 L6_1 L6_2 L6_3 L6_4
        cases hd with
        | inl q => exact absurd q hb1
        | inr q => exact q
      · refine E_icF rfl (decide_eq_false (fun q => hb3 ((nJ_le (by omega) (by omega)).mp q))) ?_
        refine E_ci 1 rfl ci1 ?_
        refine E_goto rfl ?_
        refine E_bin rfl rfl ?_
        refine E_is rfl (fun lv7 L7_2 kp7 => ?_)
        have L7_0 := kp7 0 _ (nbz rfl) rfl L0
        have L7_1 := kp7 1 _ (nbz rfl) rfl L1
        have L7_3 := kp7 3 _ (nbz rfl) rfl L3
        have L7_4 := kp7 4 _ (nbz rfl) rfl L4
        refine E_al rfl L7_0 ?_
        refine E_gr rfl hh (q := 92) rfl ?_
        refine E_il rfl L7_4 ?_
        have b8 : gn h 92 u ≤ 8 := gn_hi hh (bd_u rfl (by omega)) (by decide)
        refine E_ial rfl hh rfl (by omega) (by decide) (gi_gn hh (bd_u rfl (by omega)) (by decide)) ?_
        refine E_is rfl (fun lv9 L9_4 kp9 => ?_)
        have L9_0 := kp9 0 _ (nbz rfl) rfl L7_0
        have L9_1 := kp9 1 _ (nbz rfl) rfl L7_1
        have L9_2 := kp9 2 _ (nbz rfl) rfl L7_2
        have L9_3 := kp9 3 _ (nbz rfl) rfl L7_3
        refine E_goto rfl ?_
        refine ih lv9 (by omega) ?_ L9_0 L9_1 L9_2 L9_3 L9_4
        cases hd with
        | inl q => exact absurd q hb1
        | inr q => exact q
theorem ti_out {h : pm_H} {d m : Nat} (hh : HH h) (hm : m ≤ 8) (hD : ∀ v, 1 ≤ v → v ≤ m → dep (hg h) 8 v) (j : Nat) : ∀ {n : Int32} {k : Nat} (lv : List (Nat × Value)), k + j = m + 1 → 1 ≤ k → pm_get lv 0 = some (.ref 77) → pm_get lv 1 = some (.int (nJ m)) → pm_get lv 2 = some (.int n) → pm_get lv 3 = some (.int (nJ k)) → Ends (pm_at tX9_turnedIn) (pm_Rt pm_P d) (4, lv, [], h, 0, 0) (fun h' r => h' = h ∧ ∃ x : Int32, r = some (.int x)) := by
  induction j with
  | zero =>
    intro n k lv hj hk L0 L1 L2 L3
    refine E_il rfl L3 ?_
    refine E_il rfl L1 ?_
    refine E_icT rfl (decide_eq_true ((nJ_lt (by omega) (by omega)).mpr (by omega))) ?_
    refine E_il rfl L2 ?_
    exact E_rti rfl ⟨rfl, _, rfl⟩
  | succ j ih =>
    intro n k lv hj hk L0 L1 L2 L3
    refine E_il rfl L3 ?_
    refine E_il rfl L1 ?_
    refine E_icF rfl (decide_eq_false (fun q => absurd ((nJ_lt (by omega) (by omega)).mp q) (by omega))) ?_
    refine E_al rfl L0 ?_
    refine E_gr rfl hh (q := 92) rfl ?_
    refine E_il rfl L3 ?_
    have b1 : gn h 92 k ≤ 8 := gn_hi hh (bd_u rfl (by omega)) (by decide)
    refine E_ial rfl hh rfl (by omega) (by decide) (gi_gn hh (bd_u rfl (by omega)) (by decide)) ?_
    refine E_is rfl (fun lv2 L2_4 kp2 => ?_)
    have L2_0 := kp2 0 _ (nbz rfl) rfl L0
    have L2_1 := kp2 1 _ (nbz rfl) rfl L1
    have L2_2 := kp2 2 _ (nbz rfl) rfl L2
    have L2_3 := kp2 3 _ (nbz rfl) rfl L3
    have hdk := hD k (by omega) (by omega)
    rw [hg_gn] at hdk
    refine ti_in hh hm (by omega) (fun lv' a b c e => ih lv' (by omega) (by omega) a b c e) 8 lv2 (by omega) ?_ L2_0 L2_1 L2_2 L2_3 L2_4
    cases hdk with
    | inl q => omega
    | inr q => exact dep_up1 q
theorem sp_turnedIn {h : pm_H} {d m : Nat} (hh : HH h) (hm : m ≤ 8) (hD : ∀ v, 1 ≤ v → v ≤ m → dep (hg h) 8 v) : Sp (d + 1) 365 h [.ref 77, .int (nJ m)] (fun h' r => h' = h ∧ ∃ x : Int32, r = some (.int x)) := by
  refine Sp_of aiX9_turnedIn rfl rfl rfl ?_
  refine E_ci 0 rfl ci0 ?_
  refine E_is rfl (fun lv1 L1_2 kp1 => ?_)
  have L1_0 := kp1 0 _ (nbz rfl) rfl (show pm_get (lv_args 0 [.ref 77, .int (nJ m)]) 0 = _ from rfl)
  have L1_1 := kp1 1 _ (nbz rfl) rfl (show pm_get (lv_args 0 [.ref 77, .int (nJ m)]) 1 = _ from rfl)
  refine E_ci 1 rfl ci1 ?_
  refine E_is rfl (fun lv2 L2_3 kp2 => ?_)
  have L2_0 := kp2 0 _ (nbz rfl) rfl L1_0
  have L2_1 := kp2 1 _ (nbz rfl) rfl L1_1
  have L2_2 := kp2 2 _ (nbz rfl) rfl L1_2
  exact ti_out hh hm hD m (k := 1) lv2 (by omega) (by omega) L2_0 L2_1 L2_2 L2_3
theorem sp_trade {h : pm_H} {d a b : Nat} (hh : HH h) (ha : a < 8) (hb : b < 8) : Sp (d + 1) 361 h [.ref 77, .int (nJ a), .int (nJ b)] (fun h' r => r = none ∧ HH h' ∧ h' = pt (pt h 89 a (nJ (gn h 89 b))) 89 b (nJ (gn h 89 a))) := by
  have hb8 : gn h 89 b ≤ 8 := gn_hi hh (bd_u rfl (by omega)) (by decide)
  refine Sp_of aiX9_trade rfl rfl rfl ?_
  refine E_al rfl (show pm_get (lv_args 0 [.ref 77, .int (nJ a), .int (nJ b)]) 0 = _ from rfl) ?_
  refine E_gr rfl hh (q := 89) rfl ?_
  refine E_il rfl (show pm_get (lv_args 0 [.ref 77, .int (nJ a), .int (nJ b)]) 1 = _ from rfl) ?_
  have b1 : gn h 89 a ≤ 8 := gn_hi hh (bd_u rfl (by omega)) (by decide)
  refine E_ial rfl hh rfl (by omega) (by decide) (gi_gn hh (bd_u rfl (by omega)) (by decide)) ?_
  refine E_is rfl (fun lv2 L2_3 kp2 => ?_)
  have L2_0 := kp2 0 _ (nbz rfl) rfl (show pm_get (lv_args 0 [.ref 77, .int (nJ a), .int (nJ b)]) 0 = _ from rfl)
  have L2_1 := kp2 1 _ (nbz rfl) rfl (show pm_get (lv_args 0 [.ref 77, .int (nJ a), .int (nJ b)]) 1 = _ from rfl)
  have L2_2 := kp2 2 _ (nbz rfl) rfl (show pm_get (lv_args 0 [.ref 77, .int (nJ a), .int (nJ b)]) 2 = _ from rfl)
  refine E_al rfl L2_0 ?_
  refine E_gr rfl hh (q := 89) rfl ?_
  refine E_il rfl L2_1 ?_
  refine E_al rfl L2_0 ?_
  refine E_gr rfl hh (q := 89) rfl ?_
  refine E_il rfl L2_2 ?_
  refine E_ial rfl hh rfl (by omega) (by decide) (show gi h 89 b = nJ ((gn h 89 b)) from gi_gn hh (bd_u rfl (by omega)) (by decide)) ?_
  refine E_ias rfl hh rfl (by omega) (by decide) ?_
  have hh3 : HH (pt h 89 a (nJ ((gn h 89 b)))) := HH_ptn hh (bd_u rfl (by omega)) (by omega) (by omega) (by omega)
  refine E_al rfl L2_0 ?_
  refine E_gr rfl hh3 (q := 89) rfl ?_
  refine E_il rfl L2_2 ?_
  refine E_il rfl L2_3 ?_
  refine E_ias rfl hh3 rfl (by omega) (by decide) ?_
  have hh4 : HH (pt (pt h 89 a (nJ ((gn h 89 b)))) 89 b (nJ ((gn h 89 a)))) := HH_ptn hh3 (bd_u rfl (by omega)) (by omega) (by omega) (by omega)
  exact E_ret rfl ⟨rfl, hh4, rfl⟩
noncomputable def YM : List Rng := [(77, 22, 23), (89, 0, 7)]
theorem ly_two {h0 : pm_H} {d : Nat} (hh0 : HH h0) (hR : RI 0 h0) (j : Nat) : ∀ {h : pm_H} {k : Nat} (lv : List (Nat × Value)), k + j = gn h0 84 5 → HH h → fr_g YM h0 h → (∀ c, c < gn h0 84 3 → 1 ≤ gn h 89 c) → pm_get lv 0 = some (.ref 77) → pm_get lv 1 = some (.int (nJ k)) → Ends (pm_at tX9_lays) (pm_Rt pm_P (d + 1)) (54, lv, [], h, 0, 0) (fun h' r => r = none ∧ HH h' ∧ fr_g YM h0 h' ∧ ∀ c, c < gn h' 84 3 → 1 ≤ gn h' 89 c) := by
  have hK : gn h0 84 5 ≤ 20 := gn_hi hh0 rfl (by decide)
  have hC : gn h0 84 3 ≤ 8 := gn_hi hh0 rfl (by decide)
  induction j with
  | zero =>
    intro h k lv hj hh hfr hw L0 L1
    have hce : gn h 84 3 = gn h0 84 3 := fr_gn hfr (rg_no rfl _)
    refine E_il rfl L1 ?_
    refine E_al rfl L0 ?_
    refine E_gr rfl hh (q := 84) rfl ?_
    refine E_ci 5 rfl ci5 ?_
    refine E_ial rfl hh rfl (by omega) (by decide) (show gi h 84 5 = nJ ((gn h0 84 5)) from by rw [fr_gi hfr (rg_no rfl _)]; exact gi_gn hh0 rfl (by decide)) ?_
    refine E_icT rfl (decide_eq_true ((nJ_le (by omega) (by omega)).mpr (by omega))) ?_
    exact E_ret rfl ⟨rfl, hh, hfr, fun c hc => hw c (by rw [← hce]; exact hc)⟩
  | succ j ih =>
    intro h k lv hj hh hfr hw L0 L1
    have hce : gn h 84 3 = gn h0 84 3 := fr_gn hfr (rg_no rfl _)
    refine E_il rfl L1 ?_
    refine E_al rfl L0 ?_
    refine E_gr rfl hh (q := 84) rfl ?_
    refine E_ci 5 rfl ci5 ?_
    refine E_ial rfl hh rfl (by omega) (by decide) (show gi h 84 5 = nJ ((gn h0 84 5)) from by rw [fr_gi hfr (rg_no rfl _)]; exact gi_gn hh0 rfl (by decide)) ?_
    refine E_icF rfl (decide_eq_false (fun q => absurd ((nJ_le (by omega) (by omega)).mp q) (by omega))) ?_
    have hact : (gn h0 87 (3 * k) = 0 → 1 ≤ gn h0 87 (3 * k + 2)) ∧ (¬ gn h0 87 (3 * k) = 0 → gn h0 87 (3 * k + 1) < gn h0 84 3 ∧ gn h0 87 (3 * k + 2) < gn h0 84 3) := by have := hR.2.2 k (show k < gn h0 84 5 by omega); simp only [Nat.mul_zero, Nat.zero_add] at this; exact this
    have ha1 : gn h0 87 (3 * k + 1) ≤ 7 := gn_hi hh0 (bd_87b (by omega) (by omega)) (by decide)
    have ha2 : gn h0 87 (3 * k + 2) ≤ 8 := gn_hi hh0 (bd_87c (by omega) (by omega)) (by decide)
    have ha0 : gn h0 87 (3 * k) ≤ 1 := gn_hi hh0 (bd_87a (by omega) (by omega)) (by decide)
    refine E_al rfl L0 ?_
    refine E_gr rfl hh (q := 87) rfl ?_
    refine E_ci 3 rfl ci3 ?_
    refine E_il rfl L1 ?_
    refine E_bin rfl (nJ_mul _ _) ?_
    refine E_ci 1 rfl ci1 ?_
    refine E_bin rfl (nJ_add _ _) ?_
    refine E_ial rfl hh rfl (by omega) (by decide) (show gi h 87 (((3 * k) + 1)) = nJ ((gn h0 87 (3 * k + 1))) from by rw [fr_gi hfr (rg_no rfl _)]; exact gi_gn hh0 (bd_87b (by omega) (by omega)) (by decide)) ?_
    refine E_is rfl (fun lv1 L1_2 kp1 => ?_)
    have L1_0 := kp1 0 _ (nbz rfl) rfl L0
    have L1_1 := kp1 1 _ (nbz rfl) rfl L1
    refine E_al rfl L1_0 ?_
    refine E_gr rfl hh (q := 87) rfl ?_
    refine E_ci 3 rfl ci3 ?_
    refine E_il rfl L1_1 ?_
    refine E_bin rfl (nJ_mul _ _) ?_
    refine E_ci 2 rfl ci2 ?_
    refine E_bin rfl (nJ_add _ _) ?_
    refine E_ial rfl hh rfl (by omega) (by decide) (show gi h 87 (((3 * k) + 2)) = nJ ((gn h0 87 (3 * k + 2))) from by rw [fr_gi hfr (rg_no rfl _)]; exact gi_gn hh0 (bd_87c (by omega) (by omega)) (by decide)) ?_
    refine E_is rfl (fun lv2 L2_3 kp2 => ?_)
    have L2_0 := kp2 0 _ (nbz rfl) rfl L1_0
    have L2_1 := kp2 1 _ (nbz rfl) rfl L1_1
    have L2_2 := kp2 2 _ (nbz rfl) rfl L1_2
    refine E_al rfl L2_0 ?_
    refine E_gr rfl hh (q := 87) rfl ?_
    refine E_ci 3 rfl ci3 ?_
    refine E_il rfl L2_1 ?_
    refine E_bin rfl (nJ_mul _ _) ?_
    refine E_ial rfl hh rfl (by omega) (by decide) (show gi h 87 ((3 * k)) = nJ ((gn h0 87 (3 * k))) from by rw [fr_gi hfr (rg_no rfl _)]; exact gi_gn hh0 (bd_87a (by omega) (by omega)) (by decide)) ?_
    by_cases hb3 : ¬ (gn h0 87 (3 * k)) = 0
    · refine E_ifT rfl (decide_eq_true (fun q => hb3 ((nJ_eq0 (by omega)).mp q))) ?_
      refine E_al rfl L2_0 ?_
      refine E_il rfl L2_2 ?_
      refine E_il rfl L2_3 ?_
      have hA := hact.2 (by omega)
      refine E_call rfl (sp_trade hh (by omega) (by omega)) (chk77 hh rfl rfl (by show 0 ≤ 8; decide)) (fun hq rq => ?_)
      rintro ⟨e9, hhq, he9⟩
      rw [e9]
      show Ends _ _ (113, lv2, [], hq, 0, 0) _
      refine E_inc rfl L2_1 (nJ_inc _) (fun lv4 L4_1 kp4 => ?_)
      have L4_0 := kp4 0 _ (nbz rfl) rfl L2_0
      have L4_2 := kp4 2 _ (nbz rfl) rfl L2_2
      have L4_3 := kp4 3 _ (nbz rfl) rfl L2_3
      refine E_goto rfl ?_
      refine ih lv4 (by omega) hhq (he9 ▸ fr_ptr (l := 0) (u := 7) rfl (by omega) (by omega) (fr_ptr (l := 0) (u := 7) rfl (by omega) (by omega) hfr)) (fun c hc => ?_) L4_0 L4_1
      have hx8 : gn h 89 (gn h0 87 (3 * k + 2)) ≤ 8 := gn_hi hh (bd_u rfl (by omega)) (by decide)
      have hy8 : gn h 89 (gn h0 87 (3 * k + 1)) ≤ 8 := gn_hi hh (bd_u rfl (by omega)) (by decide)
      have hh5 : HH (pt h 89 (gn h0 87 (3 * k + 1)) (nJ (gn h 89 (gn h0 87 (3 * k + 2))))) := HH_ptn hh (bd_u rfl (by omega)) (by omega) (by omega) (by omega)
      rw [he9]
      by_cases e : c = gn h0 87 (3 * k + 2)
      · rw [e, gn_ptn hh5 (bd_u rfl (by omega)) (by omega) (by omega) (by omega)]; exact hw _ (by omega)
      · rw [gn_ne (fun _ => e)]
        by_cases e2 : c = gn h0 87 (3 * k + 1)
        · rw [e2, gn_ptn hh (bd_u rfl (by omega)) (by omega) (by omega) (by omega)]; exact hw _ (by omega)
        · rw [gn_ne (fun _ => e2)]; exact hw c hc
    · refine E_ifF rfl (decide_eq_false (fun q => hb3 (fun z => q ((nJ_eq0 (by omega)).mpr z)))) ?_
      refine E_al rfl L2_0 ?_
      refine E_gr rfl hh (q := 89) rfl ?_
      refine E_il rfl L2_2 ?_
      refine E_il rfl L2_3 ?_
      refine E_ias rfl hh rfl (by omega) (by decide) ?_
      have hh5 : HH (pt h 89 ((gn h0 87 (3 * k + 1))) (nJ ((gn h0 87 (3 * k + 2))))) := HH_ptn hh (bd_u rfl (by omega)) (by omega) (by omega) (by omega)
      refine E_goto rfl ?_
      refine E_inc rfl L2_1 (nJ_inc _) (fun lv6 L6_1 kp6 => ?_)
      have L6_0 := kp6 0 _ (nbz rfl) rfl L2_0
      have L6_2 := kp6 2 _ (nbz rfl) rfl L2_2
      have L6_3 := kp6 3 _ (nbz rfl) rfl L2_3
      refine E_goto rfl ?_
      refine ih lv6 (by omega) hh5 (fr_ptr (l := 0) (u := 7) rfl (by omega) (by omega) hfr) (fun c hc => ?_) L6_0 L6_1
      by_cases e : c = gn h0 87 (3 * k + 1)
      · rw [e, gn_ptn hh (bd_u rfl (by omega)) (by omega) (by omega) (by omega)]; exact hact.1 (by omega)
      · rw [gn_ne (fun _ => e)]; exact hw c hc
theorem ly_one {h0 : pm_H} {d : Nat} (hh0 : HH h0) (hR : RI 0 h0) (j : Nat) : ∀ {h : pm_H} {c : Nat} (lv : List (Nat × Value)), c + j = gn h0 84 3 → HH h → fr_g YM h0 h → (∀ c1, c1 < c → 1 ≤ gn h 89 c1) → pm_get lv 0 = some (.ref 77) → pm_get lv 1 = some (.int (nJ c)) → Ends (pm_at tX9_lays) (pm_Rt pm_P (d + 1)) (24, lv, [], h, 0, 0) (fun h' r => r = none ∧ HH h' ∧ fr_g YM h0 h' ∧ ∀ c, c < gn h' 84 3 → 1 ≤ gn h' 89 c) := by
  have hC : gn h0 84 3 ≤ 8 := gn_hi hh0 rfl (by decide)
  induction j with
  | zero =>
    intro h c lv hj hh hfr hw L0 L1
    have hce : gn h 84 3 = gn h0 84 3 := fr_gn hfr (rg_no rfl _)
    refine E_il rfl L1 ?_
    refine E_al rfl L0 ?_
    refine E_call rfl (sp_cars hh) (chk77 hh rfl rfl (by show 1 ≤ 8; decide)) (fun h1 r1 => ?_)
    rintro ⟨e1, f1, c1⟩
    rw [e1, f1]
    show Ends _ _ (29, lv, [.int (nJ (gn h 84 3)), .int (nJ c)], h, 0, 0) _
    refine E_icT rfl (decide_eq_true ((nJ_le (by omega) (by omega)).mpr (by omega))) ?_
    refine E_ci 0 rfl ci0 ?_
    refine E_is rfl (fun lv2 L2_1 kp2 => ?_)
    have L2_0 := kp2 0 _ (nbz rfl) rfl L0
    exact ly_two hh0 hR (gn h0 84 5) (k := 0) lv2 (by omega) hh hfr (fun c1 hc1 => hw c1 (by omega)) L2_0 L2_1
  | succ j ih =>
    intro h c lv hj hh hfr hw L0 L1
    have hce : gn h 84 3 = gn h0 84 3 := fr_gn hfr (rg_no rfl _)
    refine E_il rfl L1 ?_
    refine E_al rfl L0 ?_
    refine E_call rfl (sp_cars hh) (chk77 hh rfl rfl (by show 1 ≤ 8; decide)) (fun h1 r1 => ?_)
    rintro ⟨e1, f1, c1⟩
    rw [e1, f1]
    show Ends _ _ (29, lv, [.int (nJ (gn h 84 3)), .int (nJ c)], h, 0, 0) _
    refine E_icF rfl (decide_eq_false (fun q => absurd ((nJ_le (by omega) (by omega)).mp q) (by omega))) ?_
    have ht8 : gn h0 85 (2 * c) ≤ 8 := gn_hi hh0 (bd_85 (by omega) (by omega)) (by decide)
    refine E_al rfl L0 ?_
    refine E_gr rfl hh (q := 89) rfl ?_
    refine E_il rfl L1 ?_
    refine E_al rfl L0 ?_
    refine E_gr rfl hh (q := 85) rfl ?_
    refine E_ci 2 rfl ci2 ?_
    refine E_il rfl L1 ?_
    refine E_bin rfl (nJ_mul _ _) ?_
    refine E_ial rfl hh rfl (by omega) (by decide) (show gi h 85 ((2 * c)) = nJ ((gn h0 85 (2 * c))) from by rw [fr_gi hfr (rg_no rfl _)]; exact gi_gn hh0 (bd_85 (by omega) (by omega)) (by decide)) ?_
    refine E_ias rfl hh rfl (by omega) (by decide) ?_
    have hh2 : HH (pt h 89 c (nJ ((gn h0 85 (2 * c))))) := HH_ptn hh (bd_u rfl (by omega)) (by omega) (by omega) (by omega)
    refine E_inc rfl L1 (nJ_inc _) (fun lv3 L3_1 kp3 => ?_)
    have L3_0 := kp3 0 _ (nbz rfl) rfl L0
    refine E_goto rfl ?_
    refine ih lv3 (by omega) hh2 (fr_ptr (l := 0) (u := 7) rfl (by omega) (by omega) hfr) (fun c1 hc1 => ?_) L3_0 L3_1
    by_cases e : c1 = c
    · rw [e, gn_ptn hh (bd_u rfl (by omega)) (by omega) (by omega) (by omega)]; have := hR.2.1 c (show c < gn h0 84 3 by omega); simp only [Nat.mul_zero, Nat.zero_add] at this; exact this
    · rw [gn_ne (fun _ => e)]; exact hw c1 (by omega)
end
