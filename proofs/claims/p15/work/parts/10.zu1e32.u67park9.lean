/-! the reference parks (wants u65, u63) -/
noncomputable def pO (q : Nat) : Int32 := if q = 0 then -1 else nJ q
/-- who holds a place, counted from 1; 0: none -/
noncomputable def hd (l p s : Nat) (W : Nat → Nat) : Nat → Nat → Nat
  | 0, _ => 0
  | n + 1, q => if spt l p s W n = q ∧ q ≠ 0 then n + 1 else hd l p s W n q
theorem hd_le {l p s : Nat} {W : Nat → Nat} {q : Nat} : ∀ (n : Nat), hd l p s W n q ≤ n
  | 0 => Nat.le_refl 0
  | n + 1 => by
    have := hd_le (l := l) (p := p) (s := s) (W := W) (q := q) n
    show (if spt l p s W n = q ∧ q ≠ 0 then n + 1 else hd l p s W n q) ≤ n + 1
    split <;> omega
theorem hd_z {l p s : Nat} {W : Nat → Nat} : ∀ (n : Nat), hd l p s W n 0 = 0
  | 0 => rfl
  | n + 1 => by
    show (if spt l p s W n = 0 ∧ (0 : Nat) ≠ 0 then n + 1 else hd l p s W n 0) = 0
    rw [if_neg (fun q => q.2 rfl)]
    exact hd_z n
theorem hd_free {l p s : Nat} {W : Nat → Nat} (p9 : p ≤ 9) : ∀ {n : Nat}, (∀ c, c < n → 1 ≤ W c ∧ W c ≤ p) → ∀ q, 1 ≤ q → q ≤ 9 → (hd l p s W n q = 0 ↔ isB (tk l p s W n) (q - 1) = false)
  | 0, _, q, _, _ => ⟨fun _ => isB_zero _, fun _ => rfl⟩
  | n + 1, V, q, q1, q9 => by
    have ih := hd_free (l := l) (s := s) p9 (n := n) (fun c hc => V c (by omega)) q q1 q9
    have tl : tk l p s W n < 512 := Nat.lt_of_lt_of_le (tk_lt p9 (fun i hi => V i (by omega))) (Nat.le_trans (Nat.pow_le_pow_right (n := 2) (by omega) p9) (by decide))
    have ok := spt_ok (l := l) (s := s) (W := W) (V n (by omega)).1 (V n (by omega)).2
    show (if spt l p s W n = q ∧ q ≠ 0 then n + 1 else hd l p s W n q) = 0 ↔ isB (tk l p s W (n + 1)) (q - 1) = false
    rw [tk_s]
    unfold ad
    rcases ok with z | ⟨a1, a2, a3⟩
    · rw [if_neg (by omega), if_pos z]; exact ih
    · rw [if_neg (show ¬ spt l p s W n = 0 by omega), isB_add tl (by omega) (by omega) a3]
      by_cases e : spt l p s W n = q
      · rw [if_pos ⟨e, by omega⟩, e, show (q - 1 == q - 1) = true from beq_self_eq_true _]
        constructor
        · intro k; omega
        · intro k; cases k
      · rw [if_neg (fun k => e k.1), show (q - 1 == spt l p s W n - 1) = false from beq_eq_false_iff_ne.mpr (by omega), Bool.false_or]
        exact ih
noncomputable def HLm (p m : Nat) (h : pm_H) : Prop := ∀ q, 1 ≤ q → q ≤ p → (gi h 90 q = -1 ↔ isB m (q - 1) = false)
section PK9
variable {h : pm_H} {d : Nat}
theorem sp_isFree9 {p m : Nat} {x : Int32} (hh : HH h) (p9 : p ≤ 9) (H : HLm p m h) : Sp (d + 1) 268 h [.ref 77, .int x, .int (nJ p)] (fun h' r => h' = h ∧ r = some (.int (zb (1 ≤ x.toInt ∧ x.toInt ≤ (p : Int) ∧ isB m (x.toInt.toNat - 1) = false)))) := by
  refine Sp_of aiX9_isFree rfl rfl rfl ?_
  have L0 : pm_get (lv_args 0 [.ref 77, .int x, .int (nJ p)]) 0 = some (.ref 77) := rfl
  have L1 : pm_get (lv_args 0 [.ref 77, .int x, .int (nJ p)]) 1 = some (.int x) := rfl
  have L2 : pm_get (lv_args 0 [.ref 77, .int x, .int (nJ p)]) 2 = some (.int (nJ p)) := rfl
  generalize lv_args 0 [.ref 77, .int x, .int (nJ p)] = lv at L0 L1 L2 ⊢
  have no : ¬ (1 ≤ x.toInt ∧ x.toInt ≤ (p : Int) ∧ isB m (x.toInt.toNat - 1) = false) → Ends (pm_at tX9_isFree) (pm_Rt pm_P d) (24, lv, [], h, 0, 0) (fun h' r => h' = h ∧ r = some (.int (zb (1 ≤ x.toInt ∧ x.toInt ≤ (p : Int) ∧ isB m (x.toInt.toNat - 1) = false)))) := by
    intro q
    refine E_ci 0 rfl (by decide) ?_
    exact E_rtz rfl (.inl rfl) ⟨rfl, by rw [zb_F q]⟩
  have z1 : (1 : Int32).toInt = 1 := rfl
  have zp := nJ_toInt (n := p) (by omega)
  refine E_il rfl L1 ?_
  refine E_c rfl ?_
  by_cases b1 : 1 ≤ x.toInt
  · refine E_icF rfl (decide_eq_false (fun q => by have := Int32.lt_iff_toInt_lt.mp q; omega)) ?_
    refine E_il rfl L1 ?_
    refine E_il rfl L2 ?_
    by_cases b2 : x.toInt ≤ (p : Int)
    · refine E_icF rfl (decide_eq_false (fun q => by have := Int32.lt_iff_toInt_lt.mp q; omega)) ?_
      obtain ⟨c, hc, rfl⟩ : ∃ c, c ≤ 9 ∧ x = nJ c := ⟨x.toInt.toNat, by omega, nJ_of (by omega)⟩
      have xc := nJ_toInt (n := c) (by omega)
      have hq := H c (by omega) (by omega)
      refine E_al rfl L0 ?_
      refine E_gr rfl hh (q := 90) rfl ?_
      refine E_il rfl L1 ?_
      refine E_ial rfl hh rfl (by omega) (by decide) rfl ?_
      refine E_c rfl ?_
      have ec : (nJ c).toInt.toNat = c := by omega
      by_cases b3 : isB m (c - 1) = false
      · refine E_icF rfl (decide_eq_false (fun q => q (hq.mpr b3))) ?_
        refine E_ci 1 rfl (by decide) ?_
        refine E_goto rfl ?_
        exact E_rtz rfl (.inr rfl) ⟨rfl, by rw [zb_T ⟨b1, b2, by rw [ec]; exact b3⟩]⟩
      · refine E_icT rfl (decide_eq_true (fun q => b3 (hq.mp q))) ?_
        exact no (fun q => b3 (by have := q.2.2; rw [ec] at this; exact this))
    · refine E_icT rfl (decide_eq_true (Int32.lt_iff_toInt_lt.mpr (by omega))) ?_
      exact no (fun q => b2 q.2.1)
  · refine E_icT rfl (decide_eq_true (Int32.lt_iff_toInt_lt.mpr (by omega))) ?_
    exact no (fun q => b1 q.1)
/-- the same of a number -/
theorem sp_isFree9n {p m q : Nat} (hh : HH h) (p9 : p ≤ 9) (q10 : q ≤ 100) (H : HLm p m h) : Sp (d + 1) 268 h [.ref 77, .int (nJ q), .int (nJ p)] (fun h' r => h' = h ∧ r = some (.int (zb (1 ≤ q ∧ q ≤ p ∧ isB m (q - 1) = false)))) := by
  refine Sp_mono ?_ (sp_isFree9 (x := nJ q) hh p9 H)
  rintro h' r ⟨rfl, rfl⟩
  have e := nJ_toInt (n := q) (by omega)
  refine ⟨rfl, ?_⟩
  by_cases b : 1 ≤ q ∧ q ≤ p ∧ isB m (q - 1) = false
  · rw [zb_T b, zb_T]
    rw [e]
    exact ⟨by omega, by omega, by rw [show ((q : Int).toNat) = q by omega]; exact b.2.2⟩
  · rw [zb_F b, zb_F]
    rw [e]
    rintro ⟨x1, x2, x3⟩
    rw [show ((q : Int).toNat) = q by omega] at x3
    exact b ⟨by omega, by omega, x3⟩
theorem ab_loop {p m : Nat} (hh : HH h) (p9 : p ≤ 9) (H : HLm p m h) (j : Nat) : ∀ {q : Nat} (lv : List (Nat × Value)), 1 ≤ q → q ≤ 10 → p < q + j → pm_get lv 0 = some (.ref 77) → pm_get lv 2 = some (.int (nJ p)) → pm_get lv 3 = some (.int (nJ q)) → Ends (pm_at tX9_above0) (pm_Rt pm_P (d + 1)) (4, lv, [], h, 0, 0) (fun h' r => h' = h ∧ r = some (.int (pO (ff m p j q)))) := by
  induction j with
  | zero =>
    intro q lv q1 q10 hj L0 L2 L3
    refine E_il rfl L3 ?_
    refine E_il rfl L2 ?_
    refine E_icT rfl (decide_eq_true ((nJ_lt (by omega) (by omega)).mpr (by omega))) ?_
    refine E_c rfl ?_
    exact E_rti rfl ⟨rfl, rfl⟩
  | succ j ih =>
    intro q lv q1 q10 hj L0 L2 L3
    unfold ff
    refine E_il rfl L3 ?_
    refine E_il rfl L2 ?_
    by_cases b : q ≤ p
    · refine E_icF rfl (decide_eq_false (fun z => absurd ((nJ_lt (by omega) (by omega)).mp z) (by omega))) ?_
      rw [if_pos b]
      refine E_al rfl L0 ?_
      refine E_il rfl L3 ?_
      refine E_il rfl L2 ?_
      refine E_call rfl (sp_isFree9n (d := d) hh p9 (by omega) H) (chk77 hh rfl rfl (by show 0 ≤ 8; decide)) (fun h1 r1 => ?_)
      rintro ⟨e1, f1⟩
      rw [e1, f1]
      by_cases c : isB m (q - 1) = false
      · refine E_ifF rfl (by rw [zb_T ⟨q1, b, c⟩]; rfl) ?_
        rw [if_pos c]
        refine E_il rfl L3 ?_
        exact E_rti rfl ⟨rfl, by unfold pO; rw [if_neg (by omega)]⟩
      · refine E_ifT rfl (by rw [zb_F (fun z => c z.2.2)]; rfl) ?_
        rw [if_neg c]
        refine E_inc rfl L3 (nJ_inc _) (fun lv1 K3 kp => ?_)
        refine E_goto rfl ?_
        exact ih lv1 (by omega) (by omega) (by omega) (kp 0 _ (by decide) rfl L0) (kp 2 _ (by decide) rfl L2) K3
    · refine E_icT rfl (decide_eq_true ((nJ_lt (by omega) (by omega)).mpr (by omega))) ?_
      rw [if_neg b]
      refine E_c rfl ?_
      exact E_rti rfl ⟨rfl, rfl⟩
theorem sp_above0 {p m a : Nat} (hh : HH h) (p9 : p ≤ 9) (a9 : a ≤ 9) (H : HLm p m h) : Sp (d + 2) 205 h [.ref 77, .int (nJ a), .int (nJ p)] (fun h' r => h' = h ∧ r = some (.int (pO (ff m p 10 (a + 1))))) := by
  refine Sp_of aiX9_above0 rfl rfl rfl ?_
  have L0 : pm_get (lv_args 0 [.ref 77, .int (nJ a), .int (nJ p)]) 0 = some (.ref 77) := rfl
  have L1 : pm_get (lv_args 0 [.ref 77, .int (nJ a), .int (nJ p)]) 1 = some (.int (nJ a)) := rfl
  have L2 : pm_get (lv_args 0 [.ref 77, .int (nJ a), .int (nJ p)]) 2 = some (.int (nJ p)) := rfl
  generalize lv_args 0 [.ref 77, .int (nJ a), .int (nJ p)] = lv at L0 L1 L2 ⊢
  refine E_il rfl L1 ?_
  refine E_ci 1 rfl (by decide) ?_
  refine E_bin rfl (nJ_add _ _) ?_
  refine E_is rfl (fun lv1 K3 kp => ?_)
  exact ab_loop hh p9 H 10 lv1 (by omega) (by omega) (by omega) (kp 0 _ (by decide) rfl L0) (kp 2 _ (by decide) rfl L2) K3
theorem pO_n1 {q : Nat} (h : q < 1000) : pO q = -1 ↔ q = 0 := by
  unfold pO
  by_cases z : q = 0
  · rw [if_pos z]; exact ⟨fun _ => z, fun _ => rfl⟩
  · rw [if_neg z]
    constructor
    · intro e
      have := congrArg Int32.toInt e
      rw [nJ_toInt (by omega)] at this
      have z1 : (-1 : Int32).toInt = -1 := rfl
      omega
    · intro e; exact absurd e z
theorem nf9_loop {p m w : Nat} (hh : HH h) (p9 : p ≤ 9) (w1 : 1 ≤ w) (wp : w ≤ p) (H : HLm p m h) (j : Nat) : ∀ {k : Nat} (lv : List (Nat × Value)), 1 ≤ k → k ≤ 10 → p ≤ k + j → pm_get lv 0 = some (.ref 77) → pm_get lv 1 = some (.int (nJ w)) → pm_get lv 3 = some (.int (nJ p)) → pm_get lv 4 = some (.int (nJ k)) → Ends (pm_at tX9_findsBy) (pm_Rt pm_P (d + 2)) (44, lv, [], h, 0, 0) (fun h' r => h' = h ∧ r = some (.int (pO (nf m p w j k)))) := by
  induction j with
  | zero =>
    intro k lv k1 k10 hj L0 L1 L3 L4
    refine E_il rfl L4 ?_
    refine E_il rfl L3 ?_
    refine E_icT rfl (decide_eq_true ((nJ_le (by omega) (by omega)).mpr (by omega))) ?_
    refine E_c rfl ?_
    exact E_rti rfl ⟨rfl, rfl⟩
  | succ j ih =>
    intro k lv k1 k10 hj L0 L1 L3 L4
    unfold nf
    refine E_il rfl L4 ?_
    refine E_il rfl L3 ?_
    by_cases b : k < p
    · refine E_icF rfl (decide_eq_false (fun z => absurd ((nJ_le (by omega) (by omega)).mp z) (by omega))) ?_
      rw [if_pos b]
      refine E_al rfl L0 ?_
      refine E_il rfl L1 ?_
      refine E_il rfl L4 ?_
      refine E_bin rfl (nJ_add _ _) ?_
      refine E_il rfl L3 ?_
      refine E_call rfl (Sp_le (by omega) (sp_isFree9n (d := d) (q := w + k) hh p9 (by omega) H)) (chk77 hh rfl rfl (by show 0 ≤ 8; decide)) (fun h1 r1 => ?_)
      rintro ⟨e1, f1⟩
      rw [e1, f1]
      by_cases c : w + k ≤ p ∧ isB m (w + k - 1) = false
      · refine E_ifF rfl (by rw [zb_T ⟨by omega, c.1, c.2⟩]; rfl) ?_
        rw [if_pos c]
        refine E_il rfl L1 ?_
        refine E_il rfl L4 ?_
        refine E_bin rfl (nJ_add _ _) ?_
        exact E_rti rfl ⟨rfl, by unfold pO; rw [if_neg (by omega)]⟩
      · refine E_ifT rfl (by rw [zb_F (fun z => c z.2)]; rfl) ?_
        rw [if_neg c]
        have ti : (nJ w - nJ k).toInt = (w : Int) - (k : Int) := by
          rw [Int32.toInt_sub, nJ_toInt (by omega), nJ_toInt (by omega)]
          exact Int.bmod_eq_of_le (by omega) (by omega)
        refine E_al rfl L0 ?_
        refine E_il rfl L1 ?_
        refine E_il rfl L4 ?_
        refine E_bin rfl rfl ?_
        refine E_il rfl L3 ?_
        refine E_call rfl (Sp_le (by omega) (sp_isFree9 (d := d) (x := nJ w - nJ k) hh p9 H)) (chk77 hh rfl rfl (by show 0 ≤ 8; decide)) (fun h2 r2 => ?_)
        rintro ⟨e2, f2⟩
        rw [e2, f2]
        have cn : (1 ≤ (nJ w - nJ k).toInt ∧ (nJ w - nJ k).toInt ≤ (p : Int) ∧ isB m ((nJ w - nJ k).toInt.toNat - 1) = false) ↔ (1 + k ≤ w ∧ isB m (w - k - 1) = false) := by
          rw [ti, show ((w : Int) - (k : Int)).toNat = w - k by omega]
          constructor
          · rintro ⟨x1, x2, x3⟩; exact ⟨by omega, x3⟩
          · rintro ⟨x1, x3⟩; exact ⟨by omega, by omega, x3⟩
        by_cases e : 1 + k ≤ w ∧ isB m (w - k - 1) = false
        · refine E_ifF rfl (by rw [zb_T (cn.mpr e)]; rfl) ?_
          rw [if_pos e]
          refine E_il rfl L1 ?_
          refine E_il rfl L4 ?_
          refine E_bin rfl (nJ_sub (by omega)) ?_
          exact E_rti rfl ⟨rfl, by unfold pO; rw [if_neg (by omega)]⟩
        · refine E_ifT rfl (by rw [zb_F (fun z => e (cn.mp z))]; rfl) ?_
          rw [if_neg e]
          refine E_inc rfl L4 (nJ_inc _) (fun lv1 K4 kp => ?_)
          refine E_goto rfl ?_
          exact ih lv1 (by omega) (by omega) (by omega) (kp 0 _ (by decide) rfl L0) (kp 1 _ (by decide) rfl L1) (kp 3 _ (by decide) rfl L3) K4
    · refine E_icT rfl (decide_eq_true ((nJ_le (by omega) (by omega)).mpr (by omega))) ?_
      rw [if_neg b]
      refine E_c rfl ?_
      exact E_rti rfl ⟨rfl, rfl⟩
theorem sp_findsBy {l m w : Nat} (hh : HH h) (hl : l ≤ 3) (w1 : 1 ≤ w) (wp : w ≤ gn h 84 0) (H : HLm (gn h 84 0) m h) : Sp (d + 3) 249 h [.ref 77, .int (nJ w), .int (nJ l)] (fun h' r => h' = h ∧ r = some (.int (pO (sf l (gn h 84 0) m w)))) := by
  have p8 : gn h 84 0 ≤ 8 := gn_hi hh rfl (by decide)
  refine Sp_of aiX9_findsBy rfl rfl rfl ?_
  have L0 : pm_get (lv_args 0 [.ref 77, .int (nJ w), .int (nJ l)]) 0 = some (.ref 77) := rfl
  have L1 : pm_get (lv_args 0 [.ref 77, .int (nJ w), .int (nJ l)]) 1 = some (.int (nJ w)) := rfl
  have L2 : pm_get (lv_args 0 [.ref 77, .int (nJ w), .int (nJ l)]) 2 = some (.int (nJ l)) := rfl
  generalize lv_args 0 [.ref 77, .int (nJ w), .int (nJ l)] = lv0 at L0 L1 L2 ⊢
  refine E_al rfl L0 ?_
  refine E_call rfl (Sp_le (by omega) (sp_places (d := d) hh)) (chk77 hh rfl rfl (by show 0 ≤ 8; decide)) (fun h1 r1 => ?_)
  rintro ⟨e1, f1, -⟩
  rw [e1, f1]
  generalize gn h 84 0 = p at wp H p8 ⊢
  refine E_is rfl (fun lv L3 kp => ?_)
  replace L0 := kp 0 _ (by decide) rfl L0
  replace L1 := kp 1 _ (by decide) rfl L1
  replace L2 := kp 2 _ (by decide) rfl L2
  unfold sf
  refine E_al rfl L0 ?_
  refine E_il rfl L1 ?_
  refine E_il rfl L3 ?_
  refine E_call rfl (Sp_le (by omega) (sp_isFree9n (d := d) (q := w) hh (by omega) (by omega) H)) (chk77 hh rfl rfl (by show 0 ≤ 8; decide)) (fun h2 r2 => ?_)
  rintro ⟨e2, f2⟩
  rw [e2, f2]
  by_cases a : isB m (w - 1) = false
  · refine E_ifF rfl (by rw [zb_T ⟨w1, wp, a⟩]; rfl) ?_
    rw [if_pos a]
    refine E_il rfl L1 ?_
    exact E_rti rfl ⟨rfl, by unfold pO; rw [if_neg (by omega)]⟩
  refine E_ifT rfl (by rw [zb_F (fun z => a z.2.2)]; rfl) ?_
  rw [if_neg a]
  have at36 : ¬ (l = 1 ∧ 2 ≤ w ∧ isB m (w - 2) = false) → Ends (pm_at tX9_findsBy) (pm_Rt pm_P (d + 2)) (36, lv, [], h, 0, 0) (fun h' r => h' = h ∧ r = some (.int (pO (if l = 1 ∧ 2 ≤ w ∧ isB m (w - 2) = false then w - 1 else if l = 2 then nf m p w 10 1 else if ff m p 10 (w + 1) = 0 ∧ l = 3 then ff m p 10 1 else ff m p 10 (w + 1))))) := by
    intro b
    rw [if_neg b]
    refine E_il rfl L2 ?_
    refine E_ci 2 rfl (by decide) ?_
    by_cases c : l = 2
    · refine E_icF rfl (decide_eq_false (fun z => z ((nJ_eq (by omega) (by omega)).mpr c))) ?_
      rw [if_pos c]
      refine E_ci 1 rfl (by decide) ?_
      refine E_is rfl (fun lv1 K4 kp => ?_)
      exact nf9_loop hh (by omega) w1 wp H 10 lv1 (by omega) (by omega) (by omega) (kp 0 _ (by decide) rfl L0) (kp 1 _ (by decide) rfl L1) (kp 3 _ (by decide) rfl L3) K4
    · refine E_icT rfl (decide_eq_true (fun z => c ((nJ_eq (by omega) (by omega)).mp z))) ?_
      rw [if_neg c]
      refine E_al rfl L0 ?_
      refine E_il rfl L1 ?_
      refine E_il rfl L3 ?_
      refine E_call rfl (sp_above0 (d := d) hh (by omega) (by omega) H) (chk77 hh rfl rfl (by show 0 ≤ 8; decide)) (fun h3 r3 => ?_)
      rintro ⟨e3, f3⟩
      rw [e3, f3]
      have fo := ff_ok (m := m) (p := p) (j := 10) (q := w + 1) (by omega)
      have f9 : ff m p 10 (w + 1) < 1000 := by rcases fo with q | ⟨_, q, _⟩ <;> omega
      refine E_is rfl (fun lv1 K4 kp => ?_)
      refine E_il rfl K4 ?_
      refine E_c rfl ?_
      by_cases z : ff m p 10 (w + 1) = 0
      · refine E_icF rfl (decide_eq_false (fun q => q ((pO_n1 f9).mpr z))) ?_
        refine E_il rfl (kp 2 _ (by decide) rfl L2) ?_
        refine E_ci 3 rfl (by decide) ?_
        by_cases l3 : l = 3
        · refine E_icF rfl (decide_eq_false (fun q => q ((nJ_eq (by omega) (by omega)).mpr l3))) ?_
          rw [if_pos ⟨z, l3⟩]
          refine E_al rfl (kp 0 _ (by decide) rfl L0) ?_
          refine E_ci 0 rfl (by decide) ?_
          refine E_il rfl (kp 3 _ (by decide) rfl L3) ?_
          refine E_call rfl (sp_above0 (d := d) (a := 0) hh (by omega) (by omega) H) (chk77 hh rfl rfl (by show 0 ≤ 8; decide)) (fun h4 r4 => ?_)
          rintro ⟨e4, f4⟩
          rw [e4, f4]
          refine E_goto rfl ?_
          exact E_rti rfl ⟨rfl, rfl⟩
        · refine E_icT rfl (decide_eq_true (fun q => l3 ((nJ_eq (by omega) (by omega)).mp q))) ?_
          rw [if_neg (fun q => l3 q.2)]
          refine E_il rfl K4 ?_
          exact E_rti rfl ⟨rfl, rfl⟩
      · refine E_icT rfl (decide_eq_true (fun q => z ((pO_n1 f9).mp q))) ?_
        rw [if_neg (fun q => z q.1)]
        refine E_il rfl K4 ?_
        exact E_rti rfl ⟨rfl, rfl⟩
  refine E_il rfl L2 ?_
  refine E_ci 1 rfl (by decide) ?_
  by_cases b1 : l = 1
  · refine E_icF rfl (decide_eq_false (fun z => z ((nJ_eq (by omega) (by omega)).mpr b1))) ?_
    refine E_al rfl L0 ?_
    refine E_il rfl L1 ?_
    refine E_ci 1 rfl (by decide) ?_
    refine E_bin rfl (nJ_sub (by omega)) ?_
    refine E_il rfl L3 ?_
    refine E_call rfl (Sp_le (by omega) (sp_isFree9n (d := d) (q := w - 1) hh (by omega) (by omega) H)) (chk77 hh rfl rfl (by show 0 ≤ 8; decide)) (fun h3 r3 => ?_)
    rintro ⟨e3, f3⟩
    rw [e3, f3, show w - 1 - 1 = w - 2 by omega]
    by_cases b3 : 2 ≤ w ∧ isB m (w - 2) = false
    · refine E_ifF rfl (by rw [zb_T ⟨by omega, by omega, b3.2⟩]; rfl) ?_
      rw [if_pos ⟨b1, b3⟩]
      refine E_il rfl L1 ?_
      refine E_ci 1 rfl (by decide) ?_
      refine E_bin rfl (nJ_sub (by omega)) ?_
      exact E_rti rfl ⟨rfl, by unfold pO; rw [if_neg (by omega)]⟩
    · refine E_ifT rfl (by rw [zb_F (fun z => b3 ⟨by omega, z.2.2⟩)]; rfl) ?_
      exact at36 (fun q => b3 q.2)
  · refine E_icT rfl (decide_eq_true (fun z => b1 ((nJ_eq (by omega) (by omega)).mp z))) ?_
    exact at36 (fun q => b1 q.1)
end PK9
