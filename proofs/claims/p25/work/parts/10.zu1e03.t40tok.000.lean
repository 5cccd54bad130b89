section
/-! the reading of a tape, told purely: tokens -/
noncomputable def upf (p : Nat → Bool) (L : Nat) : Nat → Nat → Nat
  | 0, i => i
  | n + 1, i => bif Nat.blt i L && p i then upf p L n (i + 1) else i
noncomputable def up (p : Nat → Bool) (L i : Nat) : Nat := upf p L (L - i) i
theorem up_no {p : Nat → Bool} {L i : Nat} (h : ¬ (i < L ∧ p i = true)) : up p L i = i := by
  unfold up
  cases hn : L - i with
  | zero => rfl
  | succ n =>
    show (bif Nat.blt i L && p i then upf p L n (i + 1) else i) = i
    cases hb : (Nat.blt i L && p i) with
    | false => rfl
    | true =>
      rw [Bool.and_eq_true] at hb
      exact absurd ⟨Nat.le_of_ble_eq_true hb.1, hb.2⟩ h
theorem up_go {p : Nat → Bool} {L i : Nat} (h : i < L) (hp : p i = true) : up p L i = up p L (i + 1) := by
  unfold up
  obtain ⟨n, hn⟩ : ∃ n, L - i = n + 1 := ⟨L - i - 1, by omega⟩
  rw [hn, show L - (i + 1) = n by omega]
  show (bif Nat.blt i L && p i then upf p L n (i + 1) else i) = _
  rw [show Nat.blt i L = true from Nat.ble_eq_true_of_le h, hp]
  rfl
theorem up_at {p : Nat → Bool} {L : Nat} (j : Nat) : ∀ {i : Nat}, i + j = L → i ≤ up p L i ∧ up p L i ≤ L ∧ (∀ m, i ≤ m → m < up p L i → p m = true) := by
  induction j with
  | zero =>
    intro i h
    rw [up_no (fun q => absurd q.1 (by omega))]
    exact ⟨Nat.le_refl _, by omega, fun m h1 h2 => absurd h2 (by omega)⟩
  | succ j ih =>
    intro i h
    by_cases hp : p i = true
    · rw [up_go (by omega) hp]
      obtain ⟨a, b, c⟩ := ih (i := i + 1) (by omega)
      refine ⟨by omega, b, fun m h1 h2 => ?_⟩
      by_cases e : m = i
      · rw [e]; exact hp
      · exact c m (by omega) h2
    · rw [up_no (fun q => hp q.2)]
      exact ⟨Nat.le_refl _, by omega, fun m h1 h2 => absurd h2 (by omega)⟩
theorem up_le {p : Nat → Bool} {L i : Nat} (h : i ≤ L) : i ≤ up p L i ∧ up p L i ≤ L ∧ (∀ m, i ≤ m → m < up p L i → p m = true) := up_at (L - i) (by omega)
theorem up_lt {p : Nat → Bool} {L i : Nat} (h : i < L) (hp : p i = true) : i < up p L i := by
  rw [up_go h hp]
  have := (up_le (p := p) (L := L) (i := i + 1) (by omega)).1
  omega
noncomputable def spb (b : Int32) : Bool := decide (b = 32) || decide (b = 10)
noncomputable def ltb (b : Int32) : Bool := !(decide (b < 97)) && !(decide (122 < b))
noncomputable def dgb (b : Int32) : Bool := !(decide (b < 48)) && !(decide (57 < b))
section TOK
variable (T : Nat → Int32) (L : Nat)
noncomputable def skp (i : Nat) : Nat := up (fun j => spb (T j)) L i
/-- a token's kind and end, by its start -/
noncomputable def tkk (s : Nat) : Nat := bif Nat.blt s L then (bif ltb (T s) then 1 else bif dgb (T s) then 2 else bif decide (T s = 59) then 3 else 4) else 0
noncomputable def tke (s : Nat) : Nat := bif Nat.blt s L then (bif ltb (T s) then up (fun j => ltb (T j)) L s else bif dgb (T s) then up (fun j => dgb (T j)) L s else s + 1) else s
noncomputable def nxt (s : Nat) : Nat := skp T L (tke T L s)
noncomputable def vfo (s : Nat) : Nat → Nat
  | 0 => 0
  | n + 1 => min 1000 (10 * vfo s n + ((T (s + n)).toInt.toNat - 48))
noncomputable def wfo (s : Nat) : Nat → Int
  | 0 => 0
  | n + 1 => 27 * wfo s n + ((T (s + n)).toInt - 96)
/-- a number's value, not above 1000 -/
noncomputable def tkv (s : Nat) : Nat := vfo T s (tke T L s - s)
noncomputable def wnm (s n : Nat) : Int := if n ≤ 12 then wfo T s n else -1
noncomputable def wIs (s : Nat) (W : List Int32) : Bool := decide (tkk T L s = 1) && (decide (tke T L s = s + W.length) && (List.range W.length).all (fun i => decide (T (s + i) = W.getD i 0)))
end TOK
section TOK2
variable {T : Nat → Int32} {L s : Nat}
theorem tk_0 (h : ¬ s < L) : tkk T L s = 0 ∧ tke T L s = s := by
  have e : Nat.blt s L = false := by
    cases hb : Nat.blt s L with
    | false => rfl
    | true => exact absurd (Nat.le_of_ble_eq_true hb) h
  unfold tkk tke
  rw [e]
  exact ⟨rfl, rfl⟩
theorem tk_1 (h : s < L) (h1 : ltb (T s) = true) : tkk T L s = 1 ∧ tke T L s = up (fun j => ltb (T j)) L s := by
  unfold tkk tke
  rw [show Nat.blt s L = true from Nat.ble_eq_true_of_le h, h1]
  exact ⟨rfl, rfl⟩
theorem tk_2 (h : s < L) (h1 : ltb (T s) = false) (h2 : dgb (T s) = true) : tkk T L s = 2 ∧ tke T L s = up (fun j => dgb (T j)) L s := by
  unfold tkk tke
  rw [show Nat.blt s L = true from Nat.ble_eq_true_of_le h, h1, h2]
  exact ⟨rfl, rfl⟩
theorem tk_3 (h : s < L) (h1 : ltb (T s) = false) (h2 : dgb (T s) = false) (h3 : T s = 59) : tkk T L s = 3 ∧ tke T L s = s + 1 := by
  unfold tkk tke
  rw [show Nat.blt s L = true from Nat.ble_eq_true_of_le h, h1, h2, decide_eq_true h3]
  exact ⟨rfl, rfl⟩
theorem tk_4 (h : s < L) (h1 : ltb (T s) = false) (h2 : dgb (T s) = false) (h3 : ¬ T s = 59) : tkk T L s = 4 ∧ tke T L s = s + 1 := by
  unfold tkk tke
  rw [show Nat.blt s L = true from Nat.ble_eq_true_of_le h, h1, h2, decide_eq_false h3]
  exact ⟨rfl, rfl⟩
theorem tke_le (h : s ≤ L) : s ≤ tke T L s ∧ tke T L s ≤ L ∧ (s < L → s < tke T L s) := by
  by_cases hs : s < L
  · cases h1 : ltb (T s) with
    | true =>
      rw [(tk_1 hs h1).2]
      have a := up_le (p := fun j => ltb (T j)) h
      exact ⟨a.1, a.2.1, fun _ => up_lt (p := fun j => ltb (T j)) hs h1⟩
    | false =>
      cases h2 : dgb (T s) with
      | true =>
        rw [(tk_2 hs h1 h2).2]
        have a := up_le (p := fun j => dgb (T j)) h
        exact ⟨a.1, a.2.1, fun _ => up_lt (p := fun j => dgb (T j)) hs h2⟩
      | false =>
        by_cases h3 : T s = 59
        · rw [(tk_3 hs h1 h2 h3).2]
          omega
        · rw [(tk_4 hs h1 h2 h3).2]
          omega
  · rw [(tk_0 hs).2]
    omega
theorem tkk_le : tkk T L s ≤ 4 := by
  by_cases hs : s < L
  · cases h1 : ltb (T s) with
    | true => rw [(tk_1 hs h1).1]; omega
    | false =>
      cases h2 : dgb (T s) with
      | true => rw [(tk_2 hs h1 h2).1]; omega
      | false =>
        by_cases h3 : T s = 59
        · rw [(tk_3 hs h1 h2 h3).1]; omega
        · rw [(tk_4 hs h1 h2 h3).1]; omega
  · rw [(tk_0 hs).1]; omega
theorem tkk_lt (h : tkk T L s ≠ 0) : s < L := Classical.byContradiction (fun q => h (tk_0 q).1)
theorem skp_le {i : Nat} (h : i ≤ L) : i ≤ skp T L i ∧ skp T L i ≤ L := ⟨(up_le h).1, (up_le h).2.1⟩
theorem nxt_le (h : s ≤ L) : s ≤ nxt T L s ∧ nxt T L s ≤ L ∧ (s < L → s < nxt T L s) := by
  have a := tke_le (T := T) h
  have b := skp_le (T := T) a.2.1
  unfold nxt
  exact ⟨by omega, b.2, fun q => by have := a.2.2 q; omega⟩
theorem ltb_iff {b : Int32} : ltb b = true ↔ 97 ≤ b.toInt ∧ b.toInt ≤ 122 := by
  have z1 : (97 : Int32).toInt = 97 := rfl
  have z2 : (122 : Int32).toInt = 122 := rfl
  unfold ltb
  rw [Bool.and_eq_true, Bool.not_eq_true', Bool.not_eq_true', decide_eq_false_iff_not, decide_eq_false_iff_not, Int32.lt_iff_toInt_lt, Int32.lt_iff_toInt_lt]
  omega
theorem dgb_iff {b : Int32} : dgb b = true ↔ 48 ≤ b.toInt ∧ b.toInt ≤ 57 := by
  have z1 : (48 : Int32).toInt = 48 := rfl
  have z2 : (57 : Int32).toInt = 57 := rfl
  unfold dgb
  rw [Bool.and_eq_true, Bool.not_eq_true', Bool.not_eq_true', decide_eq_false_iff_not, decide_eq_false_iff_not, Int32.lt_iff_toInt_lt, Int32.lt_iff_toInt_lt]
  omega
theorem tok1_all (h : tkk T L s = 1) : s < L ∧ ∀ m, s ≤ m → m < tke T L s → ltb (T m) = true := by
  have hs := tkk_lt (T := T) (L := L) (s := s) (by omega)
  refine ⟨hs, ?_⟩
  cases h1 : ltb (T s) with
  | true =>
    rw [(tk_1 hs h1).2]
    exact (up_le (p := fun j => ltb (T j)) (Nat.le_of_lt hs)).2.2
  | false =>
    cases h2 : dgb (T s) with
    | true => rw [(tk_2 hs h1 h2).1] at h; omega
    | false =>
      by_cases h3 : T s = 59
      · rw [(tk_3 hs h1 h2 h3).1] at h; omega
      · rw [(tk_4 hs h1 h2 h3).1] at h; omega
/-- what a reader keeps of a number -/
noncomputable def Vr (v c : Nat) : Prop := (v = c ∧ c < 1000) ∨ (1000 ≤ v ∧ c = 1000)
theorem Vr_bd {v c lo hi : Nat} (h : Vr v c) (hh : hi < 1000) : (lo ≤ v ∧ v ≤ hi) ↔ (lo ≤ c ∧ c ≤ hi) := by
  rcases h with ⟨h1, h2⟩ | ⟨h1, h2⟩ <;> omega
theorem Vr_eq {v c hi : Nat} (h : Vr v c) (hh : hi < 1000) (hc : c ≤ hi) : v = c := by
  rcases h with ⟨h1, h2⟩ | ⟨h1, h2⟩ <;> omega
theorem wfo_ge {s n : Nat} (h : ∀ i, i < n → ltb (T (s + i)) = true) : 0 ≤ wfo T s n := by
  induction n with
  | zero => exact Int.le_refl _
  | succ n ih =>
    have a := ih (fun i hi => h i (by omega))
    have b := ltb_iff.mp (h n (by omega))
    show 0 ≤ 27 * wfo T s n + ((T (s + n)).toInt - 96)
    omega
theorem wfo_inj {T' : Nat → Int32} {s' : Nat} : ∀ {n m : Nat}, (∀ i, i < n → ltb (T (s + i)) = true) → (∀ i, i < m → ltb (T' (s' + i)) = true) → wfo T s n = wfo T' s' m → n = m ∧ ∀ i, i < n → T (s + i) = T' (s' + i)
  | 0, 0, _, _, _ => ⟨rfl, fun i hi => absurd hi (Nat.not_lt_zero i)⟩
  | 0, m + 1, _, h2, e => by
    have a := wfo_ge (fun i hi => h2 i (Nat.lt_succ_of_lt hi))
    have b := ltb_iff.mp (h2 m (Nat.lt_succ_self m))
    have e : (0 : Int) = 27 * wfo T' s' m + ((T' (s' + m)).toInt - 96) := e
    omega
  | n + 1, 0, h1, _, e => by
    have a := wfo_ge (fun i hi => h1 i (Nat.lt_succ_of_lt hi))
    have b := ltb_iff.mp (h1 n (Nat.lt_succ_self n))
    have e : 27 * wfo T s n + ((T (s + n)).toInt - 96) = 0 := e
    omega
  | n + 1, m + 1, h1, h2, e => by
    have a := ltb_iff.mp (h1 n (Nat.lt_succ_self n))
    have b := ltb_iff.mp (h2 m (Nat.lt_succ_self m))
    have e : 27 * wfo T s n + ((T (s + n)).toInt - 96) = 27 * wfo T' s' m + ((T' (s' + m)).toInt - 96) := e
    have e1 : (T (s + n)).toInt = (T' (s' + m)).toInt := by omega
    obtain ⟨q1, q2⟩ := wfo_inj (n := n) (m := m) (fun i hi => h1 i (Nat.lt_succ_of_lt hi)) (fun i hi => h2 i (Nat.lt_succ_of_lt hi)) (by omega)
    subst q1
    refine ⟨rfl, fun i hi => ?_⟩
    by_cases z : i = n
    · subst z
      exact Int32.toInt_inj.mp e1
    · exact q2 i (by omega)
theorem wIs_iff {W : List Int32} : wIs T L s W = true ↔ tkk T L s = 1 ∧ tke T L s = s + W.length ∧ ∀ i, i < W.length → T (s + i) = W.getD i 0 := by
  unfold wIs
  rw [Bool.and_eq_true, Bool.and_eq_true, decide_eq_true_iff, decide_eq_true_iff, List.all_eq_true]
  constructor
  · rintro ⟨h1, h2, h3⟩
    exact ⟨h1, h2, fun i hi => of_decide_eq_true (h3 i (List.mem_range.mpr hi))⟩
  · rintro ⟨h1, h2, h3⟩
    exact ⟨h1, h2, fun i hi => decide_eq_true (h3 i (List.mem_range.mp hi))⟩
/-- a word is the word whose number it has -/
theorem wIs_num {W : List Int32} (h : tkk T L s = 1) (hW : ∀ i, i < W.length → ltb (W.getD i 0) = true) (h12 : W.length ≤ 12) : wIs T L s W = true ↔ wnm T s (tke T L s - s) = wfo (fun i => W.getD i 0) 0 W.length := by
  obtain ⟨hs, ha⟩ := tok1_all h
  have he := tke_le (T := T) (Nat.le_of_lt hs)
  have hA : ∀ i, i < tke T L s - s → ltb (T (s + i)) = true := fun i hi => ha _ (by omega) (by omega)
  have hB : ∀ i, i < W.length → ltb ((fun i => W.getD i 0) (0 + i)) = true := fun i hi => by
    show ltb (W.getD (0 + i) 0) = true
    rw [Nat.zero_add]
    exact hW i hi
  rw [wIs_iff]
  constructor
  · rintro ⟨-, h2, h3⟩
    have e : tke T L s - s = W.length := by omega
    rw [e]
    unfold wnm
    rw [if_pos h12]
    have : ∀ n, n ≤ W.length → wfo T s n = wfo (fun i => W.getD i 0) 0 n := by
      intro n
      induction n with
      | zero => intro _; rfl
      | succ n ih =>
        intro hn
        show 27 * wfo T s n + ((T (s + n)).toInt - 96) = 27 * wfo (fun i => W.getD i 0) 0 n + ((W.getD (0 + n) 0).toInt - 96)
        rw [ih (by omega), h3 n (by omega), Nat.zero_add]
    exact this _ (Nat.le_refl _)
  · intro e
    unfold wnm at e
    split at e
    · obtain ⟨q1, q2⟩ := wfo_inj (T := T) (s := s) (T' := fun i => W.getD i 0) (s' := 0) (n := tke T L s - s) (m := W.length) hA hB e
      refine ⟨h, by omega, fun i hi => ?_⟩
      have := q2 i (by omega)
      rw [Nat.zero_add] at this
      exact this
    · have := wfo_ge (T := fun i => W.getD i 0) (s := 0) hB
      omega
end TOK2
end
section
/-! the class's tokens (wants t40, t25, t29's obj lemmas, E_bal) -/
end
