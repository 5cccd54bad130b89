/-! runs on a fresh object: what is done by hand (written by gen_hand.py) -/
/-- a step that leaves the heap as it was -/
theorem Go_sm {look : Nat → Option pm_I} {call : pm_Call} {pc n : Nat} {lv lv' : List (Nat × Value)} {st st' : List Value} {h h' : pm_H} {z z' : Nat × Nat} {o : pm_H × Option Value} {f : pm_S → Option pm_S} (h1 : look pc = some (.inl f)) (h2 : f (pc, lv, st, h, z) = some (n, lv', st', h', z')) (he : h' = h) (k : pm_Go look call (n, lv', st', h, z') o) : pm_Go look call (pc, lv, st, h, z) o := by
  subst he
  exact Go_st h1 h2 k
theorem sm_f {h : pm_H} {a : Nat} {x : pm_E} (hk : h[a]? = some x) : h.set a x = h := by
  apply List.ext_getElem?
  intro i
  rw [List.getElem?_set]
  split
  · rename_i e
    subst e
    split
    · exact hk.symm
    · rename_i hl
      rw [List.getElem?_eq_none (Nat.le_of_not_lt hl)] at hk
      cases hk
  · rfl
theorem upd_0 (j : Nat) : upd (fun _ => (0 : Int32)) j 0 = fun _ => 0 := by
  funext q
  simp [upd]
theorem updL_0 (j : Nat) : vp_updL (fun _ => (0 : Int64)) j 0 = fun _ => 0 := by
  funext q
  simp [vp_updL]
theorem sm_i {h : pm_H} {a t n j : Nat} (hk : h[a]? = some (.inl (t, n, .inl (fun _ => 0)))) : h.set a (.inl (t, n, .inl (upd (fun _ => (0 : Int32)) j 0))) = h := by
  rw [upd_0]
  exact sm_f hk
theorem sm_l {h : pm_H} {a t n j : Nat} (hk : h[a]? = some (.inl (t, n, .inr (.inl (fun _ => 0))))) : h.set a (.inl (t, n, .inr (.inl (vp_updL (fun _ => (0 : Int64)) j 0)))) = h := by
  rw [updL_0]
  exact sm_f hk

theorem Go_inc {look : Nat → Option pm_I} {call : pm_Call} {pc n i : Nat} {d x v : Int32} {lv : List (Nat × Value)} {st : List Value} {w : pm_H × Nat × Nat} {o : pm_H × Option Value} (h1 : look pc = some (.inl (s_inc i d n))) (hg : pm_get lv i = some (.int x)) (hv : x + d = v) (k : pm_Go look call (n, pm_put1 i (.int v) lv, st, w) o) : pm_Go look call (pc, lv, st, w) o := by
  subst hv
  exact Go_st h1 (by simp only [s_inc, hg]) k
theorem Go_incL {look : Nat → Option pm_I} {call : pm_Call} {pc n i : Nat} {d x v : Int32} {lv lv' : List (Nat × Value)} {st : List Value} {w : pm_H × Nat × Nat} {o : pm_H × Option Value} (h1 : look pc = some (.inl (s_inc i d n))) (hg : pm_get lv i = some (.int x)) (hv : x + d = v) (hl : pm_put1 i (.int v) lv = lv') (k : pm_Go look call (n, lv', st, w) o) : pm_Go look call (pc, lv, st, w) o := by
  subst hl
  exact Go_inc h1 hg hv k
theorem Go_bin {look : Nat → Option pm_I} {call : pm_Call} {pc n : Nat} {op : Int32 → Int32 → Int32} {x y v : Int32} {lv : List (Nat × Value)} {st : List Value} {w : pm_H × Nat × Nat} {o : pm_H × Option Value} (h1 : look pc = some (.inl (s_bin op n))) (hv : op x y = v) (k : pm_Go look call (n, lv, .int v :: st, w) o) : pm_Go look call (pc, lv, .int y :: .int x :: st, w) o := by
  subst hv
  exact Go_st h1 rfl k
theorem Go_iald {look : Nat → Option pm_I} {call : pm_Call} {pc n a len : Nat} {i v : Int32} {f : Nat → Int32} {lv : List (Nat × Value)} {st : List Value} {h : pm_H} {z : Nat × Nat} {o : pm_H × Option Value} (h1 : look pc = some (.inl (s_iald n))) (hh : h[a]? = some (.inl (0, len, .inl f))) (hix : pm_ix i len = true) (hv : f i.toNatClampNeg = v) (k : pm_Go look call (n, lv, .int v :: st, h, z) o) : pm_Go look call (pc, lv, .int i :: .ref a :: st, h, z) o := by
  subst hv
  exact Go_st h1 (by simp only [s_iald, hh, hix, cond_true]) k
theorem Go_bald {look : Nat → Option pm_I} {call : pm_Call} {pc n a len : Nat} {i v : Int32} {f : Nat → Int32} {lv : List (Nat × Value)} {st : List Value} {h : pm_H} {z : Nat × Nat} {o : pm_H × Option Value} (h1 : look pc = some (.inl (s_bald n))) (hh : h[a]? = some (.inl (1, len, .inl f))) (hix : pm_ix i len = true) (hv : f i.toNatClampNeg = v) (k : pm_Go look call (n, lv, .int v :: st, h, z) o) : pm_Go look call (pc, lv, .int i :: .ref a :: st, h, z) o := by
  subst hv
  exact Go_st h1 (by simp only [s_bald, hh, hix, cond_true]) k
theorem Go_zald {look : Nat → Option pm_I} {call : pm_Call} {pc n a len : Nat} {i v : Int32} {f : Nat → Int32} {lv : List (Nat × Value)} {st : List Value} {h : pm_H} {z : Nat × Nat} {o : pm_H × Option Value} (h1 : look pc = some (.inl (s_zald n))) (hh : h[a]? = some (.inl (2, len, .inl f))) (hix : pm_ix i len = true) (hv : f i.toNatClampNeg = v) (k : pm_Go look call (n, lv, .int v :: st, h, z) o) : pm_Go look call (pc, lv, .int i :: .ref a :: st, h, z) o := by
  subst hv
  exact Go_st h1 (by simp only [s_zald, hh, hix, cond_true]) k
theorem Go_lald {look : Nat → Option pm_I} {call : pm_Call} {pc n a len : Nat} {i : Int32} {v : Int64} {f : Nat → Int64} {lv : List (Nat × Value)} {st : List Value} {h : pm_H} {z : Nat × Nat} {o : pm_H × Option Value} (h1 : look pc = some (.inl (s_lald n))) (hh : h[a]? = some (.inl (3, len, .inr (.inl f)))) (hix : pm_ix i len = true) (hv : f i.toNatClampNeg = v) (k : pm_Go look call (n, lv, .long v :: st, h, z) o) : pm_Go look call (pc, lv, .int i :: .ref a :: st, h, z) o := by
  subst hv
  exact Go_st h1 (by simp only [s_lald, hh, hix, cond_true]) k
theorem Go_aald {look : Nat → Option pm_I} {call : pm_Call} {pc n a len t t' k : Nat} {i : Int32} {f : Nat → Option Nat} {lv : List (Nat × Value)} {st : List Value} {h : pm_H} {z : Nat × Nat} {o : pm_H × Option Value} (h1 : look pc = some (.inl (s_aald t n))) (hh : h[a]? = some (.inl (t', len, .inr (.inr (.inr (.inr f)))))) (ht : Nat.beq t' t = true) (hix : pm_ix i len = true) (hv : f i.toNatClampNeg = some k) (kk : pm_Go look call (n, lv, .ref k :: st, h, z) o) : pm_Go look call (pc, lv, .int i :: .ref a :: st, h, z) o :=
  Go_st h1 (by simp only [s_aald, hh, ht, hix, Bool.and_self, cond_true, hv, pm_r]) kk
theorem Go_iast0 {look : Nat → Option pm_I} {call : pm_Call} {pc n a len : Nat} {i : Int32} {lv : List (Nat × Value)} {st : List Value} {h : pm_H} {z : Nat × Nat} {o : pm_H × Option Value} (h1 : look pc = some (.inl (s_iast n))) (hh : h[a]? = some (.inl (0, len, .inl (fun _ => 0)))) (hix : pm_ix i len = true) (k : pm_Go look call (n, lv, st, h, z) o) : pm_Go look call (pc, lv, .int 0 :: .int i :: .ref a :: st, h, z) o :=
  Go_sm (n := n) (lv' := lv) (st' := st) (z' := z) h1 (by simp only [s_iast, hh, hix, cond_true]) (sm_i (j := i.toNatClampNeg) hh) k
theorem Go_zast0 {look : Nat → Option pm_I} {call : pm_Call} {pc n a len : Nat} {i : Int32} {lv : List (Nat × Value)} {st : List Value} {h : pm_H} {z : Nat × Nat} {o : pm_H × Option Value} (h1 : look pc = some (.inl (s_zast n))) (hh : h[a]? = some (.inl (2, len, .inl (fun _ => 0)))) (hix : pm_ix i len = true) (k : pm_Go look call (n, lv, st, h, z) o) : pm_Go look call (pc, lv, .int 0 :: .int i :: .ref a :: st, h, z) o :=
  Go_sm (n := n) (lv' := lv) (st' := st) (z' := z) h1 (by simp only [s_zast, hh, hix, cond_true]; rfl) (sm_i (j := i.toNatClampNeg) hh) k
theorem Go_last0 {look : Nat → Option pm_I} {call : pm_Call} {pc n a len : Nat} {i : Int32} {lv : List (Nat × Value)} {st : List Value} {h : pm_H} {z : Nat × Nat} {o : pm_H × Option Value} (h1 : look pc = some (.inl (s_last n))) (hh : h[a]? = some (.inl (3, len, .inr (.inl (fun _ => 0))))) (hix : pm_ix i len = true) (k : pm_Go look call (n, lv, st, h, z) o) : pm_Go look call (pc, lv, .long 0 :: .int i :: .ref a :: st, h, z) o :=
  Go_sm (n := n) (lv' := lv) (st' := st) (z' := z) h1 (by simp only [s_last, hh, hix, cond_true]) (sm_l (j := i.toNatClampNeg) hh) k

def hpMl : pm_H := [.inr (9, [.int 0, .ref 78, .ref 79, .ref 80, .ref 81, .ref 82, .int 0, .int 0, .int 0, .int 0, .int 0, .long 0, .int 0, .int 0, .int 0, .int (-1), .ref 83, .ref 84, .ref 85, .ref 86, .ref 87, .ref 88, .int 0, .int 0, .ref 89, .ref 90, .ref 91, .int 0, .ref 92, .ref 93, .ref 94, .ref 95, .ref 96, .ref 97, .ref 98, .int 0, .int 0, .ref 99, .ref 100, .int 0, .ref 101, .int 0, .int 0, .int 0, .ref 102]), .inl (0, 4, .inl (upd (upd (upd (upd (fun _ => 0) 0 (-1)) 1 (-1)) 2 (-1)) 3 (-1))), .inl (0, 4, .inl (fun _ => 0)), .inl (3, 240, .inr (.inl (fun _ => 0))), .inl (3, 60, .inr (.inl (fun _ => 0))), .inl (1, 500, .inl (fun _ => 0)), .inl (0, 5, .inl (fun _ => 0)), .inl (0, 30, .inl (fun _ => 0)), .inl (0, 80, .inl (fun _ => 0)), .inl (0, 80, .inl (fun _ => 0)), .inl (0, 300, .inl (fun _ => 0)), .inl (2, 3, .inl (fun _ => 0)), .inl (0, 8, .inl (fun _ => 0)), .inl (0, 10, .inl (fun _ => 0)), .inl (0, 8, .inl (fun _ => 0)), .inl (0, 9, .inl (fun _ => 0)), .inl (0, 9, .inl (fun _ => 0)), .inl (0, 9, .inl (fun _ => 0)), .inl (0, 8, .inl (fun _ => 0)), .inl (0, 18, .inl (fun _ => 0)), .inl (0, 8, .inl (fun _ => 0)), .inl (0, 9, .inl (fun _ => 0)), .inl (0, 5, .inl (fun _ => 0)), .inl (0, 6, .inl (fun _ => 0)), .inl (0, 10, .inl (fun _ => 0)), .inl (0, 72, .inl (fun _ => 0))]
def hpm (c : Nat → pm_E) : pm_H := [c 0, c 1, c 2, c 3, c 4, c 5, c 6, c 7, c 8, c 9, c 10, c 11, c 12, c 13, c 14, c 15, c 16, c 17, c 18, c 19, c 20, c 21, c 22, c 23, c 24, c 25, c 26, c 27, c 28, c 29, c 30, c 31, c 32, c 33, c 34, c 35, c 36, c 37, c 38, c 39, c 40, c 41, c 42, c 43, c 44, c 45, c 46, c 47, c 48, c 49, c 50, c 51, c 52, c 53, c 54, c 55, c 56, c 57, c 58, c 59, c 60, c 61, c 62, c 63, c 64, c 65, c 66, c 67, c 68, c 69, c 70, c 71, c 72, c 73, c 74, c 75, c 76, .inr (9, [.int 0, .ref 78, .ref 79, .ref 80, .ref 81, .ref 82, .int 0, .int 0, .int 0, .int 0, .int 0, .long 0, .int 0, .int 0, .int 0, .int (-1), .ref 83, .ref 84, .ref 85, .ref 86, .ref 87, .ref 88, .int 0, .int 0, .ref 89, .ref 90, .ref 91, .int 0, .ref 92, .ref 93, .ref 94, .ref 95, .ref 96, .ref 97, .ref 98, .int 0, .int 0, .ref 99, .ref 100, .int 0, .ref 101, .int 0, .int 0, .int 0, .ref 102]), .inl (0, 4, .inl (upd (upd (upd (upd (fun _ => 0) 0 (-1)) 1 (-1)) 2 (-1)) 3 (-1))), .inl (0, 4, .inl (fun _ => 0)), .inl (3, 240, .inr (.inl (fun _ => 0))), .inl (3, 60, .inr (.inl (fun _ => 0))), .inl (1, 500, .inl (fun _ => 0)), .inl (0, 5, .inl (fun _ => 0)), .inl (0, 30, .inl (fun _ => 0)), .inl (0, 80, .inl (fun _ => 0)), .inl (0, 80, .inl (fun _ => 0)), .inl (0, 300, .inl (fun _ => 0)), .inl (2, 3, .inl (fun _ => 0)), .inl (0, 8, .inl (fun _ => 0)), .inl (0, 10, .inl (fun _ => 0)), .inl (0, 8, .inl (fun _ => 0)), .inl (0, 9, .inl (fun _ => 0)), .inl (0, 9, .inl (fun _ => 0)), .inl (0, 9, .inl (fun _ => 0)), .inl (0, 8, .inl (fun _ => 0)), .inl (0, 18, .inl (fun _ => 0)), .inl (0, 8, .inl (fun _ => 0)), .inl (0, 9, .inl (fun _ => 0)), .inl (0, 5, .inl (fun _ => 0)), .inl (0, 6, .inl (fun _ => 0)), .inl (0, 10, .inl (fun _ => 0)), .inl (0, 72, .inl (fun _ => 0))]
set_option maxRecDepth 20000 in
theorem hpm_of {h : pm_H} (hd : h.drop 77 = hpMl) : h = hpm (fun i => h.getD i (.inr (0, []))) := by
  have hl : h.length = 103 := by
    have e := congrArg List.length hd
    rw [List.length_drop] at e
    have e2 : hpMl.length = 26 := rfl
    omega
  apply List.ext_getElem?
  intro i
  by_cases hi : i < 77
  · rw [List.getElem?_eq_getElem (by omega)]
    have e : (hpm (fun i => h.getD i (.inr (0, []))))[i]? = some (h.getD i (.inr (0, []))) := by
      have : ∀ (g : Nat → pm_E) (i : Nat), i < 77 → (hpm g)[i]? = some (g i) := by
        intro g i hi
        have hx : (hpm g).take 77 = (List.range 77).map g := rfl
        have : (hpm g)[i]? = ((hpm g).take 77)[i]? := by rw [List.getElem?_take, if_pos hi]
        rw [this, hx, List.getElem?_map, List.getElem?_range hi]
        rfl
      exact this _ i hi
    rw [e, List.getD_eq_getElem?_getD, List.getElem?_eq_getElem (by omega)]
    rfl
  · have e1 : h[i]? = (h.drop 77)[i - 77]? := by rw [List.getElem?_drop]; congr 1; omega
    have e2 : (hpm (fun i => h.getD i (.inr (0, []))))[i]? = ((hpm (fun i => h.getD i (.inr (0, [])))).drop 77)[i - 77]? := by rw [List.getElem?_drop]; congr 1; omega
    rw [e1, e2, hd]
    rfl
theorem pm_no {v lo hi : Int64} (h : hi < lo) : ¬ (lo ≤ v ∧ v ≤ hi) := fun q => by
  have h1 := Int64.lt_iff_toInt_lt.mp h
  have h2 := Int64.le_iff_toInt_le.mp q.1
  have h3 := Int64.le_iff_toInt_le.mp q.2
  omega
theorem pm_no32 {x : Int32} (h1 : decide (x < 0) = false) (h2 : decide ((0 : Int32) ≤ x) = false) : False := by
  have a := of_decide_eq_false h1
  have b := of_decide_eq_false h2
  exact b (Int32.not_lt.mp a)
theorem pm_no1 {x : Int32} (h1 : decide (x < 1) = false) (h2 : decide ((0 : Int32) < x) = false) : False := by
  have a := of_decide_eq_false h1
  have b := of_decide_eq_false h2
  rw [Int32.lt_iff_toInt_lt] at a b
  have e1 : (1 : Int32).toInt = 1 := rfl
  have e0 : (0 : Int32).toInt = 0 := rfl
  omega
theorem pm_no2 {x : Int32} (h1 : decide (x < 0) = false) (h2 : decide (x < (0 : Int32)) = true) : False := by
  rw [h1] at h2
  cases h2

set_option maxRecDepth 20000 in
set_option maxHeartbeats 4000000 in
theorem rm_in0 (h : pm_H) (d : Nat) (v lo hi : Int64) (hn : ¬ (lo ≤ v ∧ v ≤ hi)) : pm_Rt pm_P (d + 1) 151 h [.long v, .long lo, .long hi] h (some (.int 0)) := by
  refine Rt_of aiX9_in (Nat.le_of_ble_eq_true rfl) ?_
  refine Go_st rfl rfl ?_
  refine Go_st rfl rfl ?_
  refine Go_st rfl rfl ?_
  refine Go_st rfl rfl ?_
  refine Go_if (fun z1 => ?_) (fun z1 => ?_)
  · refine Go_st rfl rfl ?_
    exact Go_ret rfl ⟨0, rfl, Or.inl rfl, rfl⟩
  · refine Go_st rfl rfl ?_
    refine Go_st rfl rfl ?_
    refine Go_st rfl rfl ?_
    refine Go_st rfl rfl ?_
    refine Go_if (fun z2 => ?_) (fun z2 => ?_)
    · refine Go_st rfl rfl ?_
      exact Go_ret rfl ⟨0, rfl, Or.inl rfl, rfl⟩
    · exact absurd ⟨Int64.not_lt.mp (fun q => of_decide_eq_false z1 ((lg_cmp_lt _ _).mpr q)), Int64.not_lt.mp (fun q => of_decide_eq_false z2 ((lg_cmp_gt _ _).mpr q))⟩ hn
set_option maxRecDepth 20000 in
set_option maxHeartbeats 4000000 in
theorem rm_in1 (h : pm_H) (d : Nat) (v lo hi : Int64) (hn : lo ≤ v ∧ v ≤ hi) : pm_Rt pm_P (d + 1) 151 h [.long v, .long lo, .long hi] h (some (.int 1)) := by
  refine Rt_of aiX9_in (Nat.le_of_ble_eq_true rfl) ?_
  refine Go_st rfl rfl ?_
  refine Go_st rfl rfl ?_
  refine Go_st rfl rfl ?_
  refine Go_st rfl rfl ?_
  refine Go_ifF (decide_eq_false (fun q => Int64.not_lt.mpr hn.1 ((lg_cmp_lt _ _).mp q))) ?_
  refine Go_st rfl rfl ?_
  refine Go_st rfl rfl ?_
  refine Go_st rfl rfl ?_
  refine Go_st rfl rfl ?_
  refine Go_ifF (decide_eq_false (fun q => Int64.not_lt.mpr hn.2 ((lg_cmp_gt _ _).mp q))) ?_
  refine Go_st rfl rfl ?_
  refine Go_st rfl rfl ?_
  exact Go_ret rfl ⟨1, rfl, Or.inr rfl, rfl⟩
theorem rm_in (h : pm_H) (d : Nat) (v lo hi : Int64) : ∃ r : Int32, (r = 0 ∨ r = 1) ∧ pm_Rt pm_P (d + 1) 151 h [.long v, .long lo, .long hi] h (some (.int r)) := by
  by_cases hn : lo ≤ v ∧ v ≤ hi
  · exact ⟨1, Or.inr rfl, rm_in1 h d v lo hi hn⟩
  · exact ⟨0, Or.inl rfl, rm_in0 h d v lo hi hn⟩
set_option maxRecDepth 20000 in
set_option maxHeartbeats 4000000 in
theorem rm_isSlot0 (h : pm_H) (d : Nat) (x : Int32) (hn : ¬ ((0 : Int64) ≤ x.toInt64 ∧ x.toInt64 ≤ 3)) : pm_Rt pm_P (d + 2) 163 h [.int x] h (some (.int 0)) := by
  refine Rt_of aiX9_isSlot (Nat.le_of_ble_eq_true rfl) ?_
  refine Go_st rfl rfl ?_
  refine Go_st rfl rfl ?_
  refine Go_st rfl rfl ?_
  refine Go_st rfl rfl ?_
  refine Go_call rfl (rm_in0 h d _ _ _ hn) (chkS rfl rfl rfl rfl) ?_
  exact Go_ret rfl ⟨0, rfl, Or.inl rfl, rfl⟩
set_option maxRecDepth 20000 in
set_option maxHeartbeats 4000000 in
theorem rm_isSlot1 (h : pm_H) (d : Nat) (x : Int32) (hn : (0 : Int64) ≤ x.toInt64 ∧ x.toInt64 ≤ 3) : pm_Rt pm_P (d + 2) 163 h [.int x] h (some (.int 1)) := by
  refine Rt_of aiX9_isSlot (Nat.le_of_ble_eq_true rfl) ?_
  refine Go_st rfl rfl ?_
  refine Go_st rfl rfl ?_
  refine Go_st rfl rfl ?_
  refine Go_st rfl rfl ?_
  refine Go_call rfl (rm_in1 h d _ _ _ hn) (chkS rfl rfl rfl rfl) ?_
  exact Go_ret rfl ⟨1, rfl, Or.inr rfl, rfl⟩
theorem rm_isSlot (h : pm_H) (d : Nat) (x : Int32) : ∃ r : Int32, (r = 0 ∨ r = 1) ∧ pm_Rt pm_P (d + 2) 163 h [.int x] h (some (.int r)) := by
  by_cases hn : (0 : Int64) ≤ x.toInt64 ∧ x.toInt64 ≤ 3
  · exact ⟨1, Or.inr rfl, rm_isSlot1 h d x hn⟩
  · exact ⟨0, Or.inl rfl, rm_isSlot0 h d x hn⟩
set_option maxRecDepth 20000 in
set_option maxHeartbeats 4000000 in
theorem rm_isSeed0 (h : pm_H) (d : Nat) (x : Int32) (hn : ¬ ((0 : Int64) ≤ x.toInt64 ∧ x.toInt64 ≤ 2000000000)) : pm_Rt pm_P (d + 2) 162 h [.int x] h (some (.int 0)) := by
  refine Rt_of aiX9_isSeed (Nat.le_of_ble_eq_true rfl) ?_
  refine Go_st rfl rfl ?_
  refine Go_st rfl rfl ?_
  refine Go_st rfl rfl ?_
  refine Go_st rfl rfl ?_
  refine Go_call rfl (rm_in0 h d _ _ _ hn) (chkS rfl rfl rfl rfl) ?_
  exact Go_ret rfl ⟨0, rfl, Or.inl rfl, rfl⟩
set_option maxRecDepth 20000 in
set_option maxHeartbeats 4000000 in
theorem rm_isSeed1 (h : pm_H) (d : Nat) (x : Int32) (hn : (0 : Int64) ≤ x.toInt64 ∧ x.toInt64 ≤ 2000000000) : pm_Rt pm_P (d + 2) 162 h [.int x] h (some (.int 1)) := by
  refine Rt_of aiX9_isSeed (Nat.le_of_ble_eq_true rfl) ?_
  refine Go_st rfl rfl ?_
  refine Go_st rfl rfl ?_
  refine Go_st rfl rfl ?_
  refine Go_st rfl rfl ?_
  refine Go_call rfl (rm_in1 h d _ _ _ hn) (chkS rfl rfl rfl rfl) ?_
  exact Go_ret rfl ⟨1, rfl, Or.inr rfl, rfl⟩
theorem rm_isSeed (h : pm_H) (d : Nat) (x : Int32) : ∃ r : Int32, (r = 0 ∨ r = 1) ∧ pm_Rt pm_P (d + 2) 162 h [.int x] h (some (.int r)) := by
  by_cases hn : (0 : Int64) ≤ x.toInt64 ∧ x.toInt64 ≤ 2000000000
  · exact ⟨1, Or.inr rfl, rm_isSeed1 h d x hn⟩
  · exact ⟨0, Or.inl rfl, rm_isSeed0 h d x hn⟩
set_option maxRecDepth 20000 in
set_option maxHeartbeats 4000000 in
theorem rx_isSlot0 (h : pm_H) (d : Nat) (x : Int32) (hn : x < 0 ∨ 4 ≤ x) : pm_Rt pm_P (d + 1) 53 h [.int x] h (some (.int 0)) := by
  refine Rt_of aiX8_isSlot (Nat.le_of_ble_eq_true rfl) ?_
  refine Go_st rfl rfl ?_
  refine Go_st rfl rfl ?_
  refine Go_if (fun z1 => ?_) (fun z1 => ?_)
  · refine Go_st rfl rfl ?_
    exact Go_ret rfl ⟨0, rfl, Or.inl rfl, rfl⟩
  · refine Go_st rfl rfl ?_
    refine Go_st rfl rfl ?_
    refine Go_st rfl rfl ?_
    refine Go_if (fun z2 => ?_) (fun z2 => ?_)
    · refine Go_st rfl rfl ?_
      exact Go_ret rfl ⟨0, rfl, Or.inl rfl, rfl⟩
    · exact absurd (hn.resolve_left (of_decide_eq_false z1)) (of_decide_eq_false z2)
set_option maxRecDepth 20000 in
set_option maxHeartbeats 4000000 in
theorem rx_isSlot1 (h : pm_H) (d : Nat) (x : Int32) (h1 : ¬ x < 0) (h2 : ¬ 4 ≤ x) : pm_Rt pm_P (d + 1) 53 h [.int x] h (some (.int 1)) := by
  refine Rt_of aiX8_isSlot (Nat.le_of_ble_eq_true rfl) ?_
  refine Go_st rfl rfl ?_
  refine Go_st rfl rfl ?_
  refine Go_ifF (decide_eq_false h1) ?_
  refine Go_st rfl rfl ?_
  refine Go_st rfl rfl ?_
  refine Go_st rfl rfl ?_
  refine Go_ifF (decide_eq_false h2) ?_
  refine Go_st rfl rfl ?_
  refine Go_st rfl rfl ?_
  exact Go_ret rfl ⟨1, rfl, Or.inr rfl, rfl⟩
theorem rx_isSlot (h : pm_H) (d : Nat) (x : Int32) : ∃ r : Int32, (r = 0 ∨ r = 1) ∧ pm_Rt pm_P (d + 1) 53 h [.int x] h (some (.int r)) := by
  by_cases h1 : x < 0
  · exact ⟨0, Or.inl rfl, rx_isSlot0 h d x (Or.inl h1)⟩
  · by_cases h2 : 4 ≤ x
    · exact ⟨0, Or.inl rfl, rx_isSlot0 h d x (Or.inr h2)⟩
    · exact ⟨1, Or.inr rfl, rx_isSlot1 h d x h1 h2⟩
set_option maxRecDepth 20000 in
set_option maxHeartbeats 4000000 in
theorem rx_X8_hasCar (d : Nat) (a1 : Int32) : pm_Rt pm_P (d + 1) 43 hp0 [.ref 0, .int a1] hp0 (some (.int 0)) := by
  refine Rt_of aiX8_hasCar (Nat.le_of_ble_eq_true rfl) ?_
  refine Go_st rfl rfl ?_
  refine Go_st rfl rfl ?_
  refine Go_if (fun z1 => ?_) (fun z1 => ?_)
  · refine Go_st rfl rfl ?_
    exact Go_ret rfl ⟨0, rfl, Or.inl rfl, rfl⟩
  · refine Go_st rfl rfl ?_
    refine Go_st rfl rfl ?_
    refine Go_st rfl rfl ?_
    refine Go_st rfl rfl ?_
    refine Go_st rfl rfl ?_
    refine Go_if (fun z2 => ?_) (fun z2 => ?_)
    · refine Go_st rfl rfl ?_
      exact Go_ret rfl ⟨0, rfl, Or.inl rfl, rfl⟩
    · exact (pm_no32 z1 z2).elim
set_option maxRecDepth 20000 in
set_option maxHeartbeats 4000000 in
theorem rx_X8_isTreeCar (d : Nat) (a1 : Int32) : pm_Rt pm_P (d + 1) 55 hp0 [.ref 0, .int a1] hp0 (some (.int 0)) := by
  refine Rt_of aiX8_isTreeCar (Nat.le_of_ble_eq_true rfl) ?_
  refine Go_st rfl rfl ?_
  refine Go_st rfl rfl ?_
  refine Go_if (fun z1 => ?_) (fun z1 => ?_)
  · refine Go_st rfl rfl ?_
    exact Go_ret rfl ⟨0, rfl, Or.inl rfl, rfl⟩
  · refine Go_st rfl rfl ?_
    refine Go_st rfl rfl ?_
    refine Go_st rfl rfl ?_
    refine Go_st rfl rfl ?_
    refine Go_st rfl rfl ?_
    refine Go_if (fun z2 => ?_) (fun z2 => ?_)
    · refine Go_st rfl rfl ?_
      exact Go_ret rfl ⟨0, rfl, Or.inl rfl, rfl⟩
    · exact (pm_no32 z1 z2).elim
set_option maxRecDepth 20000 in
set_option maxHeartbeats 4000000 in
theorem rx_X8_hasPlace (d : Nat) (a1 : Int32) : pm_Rt pm_P (d + 1) 46 hp0 [.ref 0, .int a1] hp0 (some (.int 0)) := by
  refine Rt_of aiX8_hasPlace (Nat.le_of_ble_eq_true rfl) ?_
  refine Go_st rfl rfl ?_
  refine Go_st rfl rfl ?_
  refine Go_st rfl rfl ?_
  refine Go_if (fun z1 => ?_) (fun z1 => ?_)
  · refine Go_st rfl rfl ?_
    exact Go_ret rfl ⟨0, rfl, Or.inl rfl, rfl⟩
  · refine Go_st rfl rfl ?_
    refine Go_st rfl rfl ?_
    refine Go_st rfl rfl ?_
    refine Go_st rfl rfl ?_
    refine Go_st rfl rfl ?_
    refine Go_if (fun z2 => ?_) (fun z2 => ?_)
    · refine Go_st rfl rfl ?_
      exact Go_ret rfl ⟨0, rfl, Or.inl rfl, rfl⟩
    · exact (pm_no1 z1 z2).elim
set_option maxRecDepth 20000 in
set_option maxHeartbeats 4000000 in
theorem rx_X8_label (d : Nat) (a1 : Int32) : pm_Rt pm_P (d + 1) 57 hp0 [.ref 0, .int a1] hp0 (some (.int (-2))) := by
  refine Rt_of aiX8_label (Nat.le_of_ble_eq_true rfl) ?_
  refine Go_st rfl rfl ?_
  refine Go_st rfl rfl ?_
  refine Go_if (fun z1 => ?_) (fun z1 => ?_)
  · refine Go_st rfl rfl ?_
    exact Go_ret rfl ⟨_, rfl, rfl⟩
  · refine Go_st rfl rfl ?_
    refine Go_st rfl rfl ?_
    refine Go_st rfl rfl ?_
    refine Go_st rfl rfl ?_
    refine Go_st rfl rfl ?_
    refine Go_if (fun z2 => ?_) (fun z2 => ?_)
    · exact (pm_no2 z1 z2).elim
    · refine Go_st rfl rfl ?_
      exact Go_ret rfl ⟨_, rfl, rfl⟩
set_option maxRecDepth 20000 in
set_option maxHeartbeats 4000000 in
theorem rx_X8_merged (d : Nat) (a1 : Int32) : pm_Rt pm_P (d + 1) 70 hp0 [.ref 0, .int a1] hp0 (some (.int (-2))) := by
  refine Rt_of aiX8_merged (Nat.le_of_ble_eq_true rfl) ?_
  refine Go_st rfl rfl ?_
  refine Go_st rfl rfl ?_
  refine Go_if (fun z1 => ?_) (fun z1 => ?_)
  · refine Go_st rfl rfl ?_
    exact Go_ret rfl ⟨_, rfl, rfl⟩
  · refine Go_st rfl rfl ?_
    refine Go_st rfl rfl ?_
    refine Go_st rfl rfl ?_
    refine Go_st rfl rfl ?_
    refine Go_st rfl rfl ?_
    refine Go_if (fun z2 => ?_) (fun z2 => ?_)
    · exact (pm_no2 z1 z2).elim
    · refine Go_st rfl rfl ?_
      exact Go_ret rfl ⟨_, rfl, rfl⟩
theorem pm_ixN {i n : Nat} (h : i < n) (hn : n < 2 ^ 31) : pm_ix (nI i) n = true := by
  have a := nI_pos (n := i) (by omega)
  have b := nI_clamp (n := i) (by omega)
  simp only [pm_ix, b, decide_eq_false a, Bool.not_false, Bool.true_and]
  exact Nat.ble_eq_true_of_le h
set_option maxRecDepth 20000 in
set_option maxHeartbeats 4000000 in
theorem lp_copyRow (h : pm_H) (d r len M A Bq : Nat) (hh : h[r]? = some (.inl (0, len, .inl (fun _ => 0)))) (hl : len < 2 ^ 31) (ha : M * A + M ≤ len) (hb : M * Bq + M ≤ len) : ∀ k i : Nat, i + k = M → pm_Go (pm_at tX9_copyRow) (pm_Rt pm_P d) (3, [(4, .int (nI i)), (0, .ref r), (1, .int (nI M)), (2, .int (nI A)), (3, .int (nI Bq))], [], h, 0, 0) (h, none) := by
  intro k
  induction k with
  | zero =>
    intro i hi
    obtain rfl : i = M := by omega
    refine Go_st rfl rfl ?_
    refine Go_st rfl rfl ?_
    refine Go_st rfl rfl ?_
    refine Go_ifT (decide_eq_true (nI_le (Nat.le_refl _) (by omega))) ?_
    exact Go_ret rfl ⟨rfl, rfl⟩
  | succ k ih =>
    intro i hi
    refine Go_st rfl rfl ?_
    refine Go_st rfl rfl ?_
    refine Go_st rfl rfl ?_
    refine Go_ifF (decide_eq_false (nI_ge (by omega) (by omega))) ?_
    refine Go_st rfl rfl ?_
    refine Go_st rfl rfl ?_
    refine Go_st rfl rfl ?_
    refine Go_bin (v := nI (M * Bq)) rfl (pk_mul M Bq) ?_
    refine Go_st rfl rfl ?_
    refine Go_bin (v := nI (M * Bq + i)) rfl (nI_add _ _) ?_
    refine Go_st rfl rfl ?_
    refine Go_st rfl rfl ?_
    refine Go_st rfl rfl ?_
    refine Go_bin (v := nI (M * A)) rfl (pk_mul M A) ?_
    refine Go_st rfl rfl ?_
    refine Go_bin (v := nI (M * A + i)) rfl (nI_add _ _) ?_
    refine Go_iald (v := 0) rfl hh (pm_ixN (by omega) hl) rfl ?_
    refine Go_iast0 rfl hh (pm_ixN (by omega) hl) ?_
    refine Go_inc (v := nI (i + 1)) rfl rfl (nI_1 i) ?_
    refine Go_st rfl rfl ?_
    exact ih (i + 1) (by omega)
set_option maxRecDepth 20000 in
theorem rm_copyRow (h : pm_H) (d r len M A Bq : Nat) (hh : h[r]? = some (.inl (0, len, .inl (fun _ => 0)))) (hl : len < 2 ^ 31) (ha : M * A + M ≤ len) (hb : M * Bq + M ≤ len) : pm_Rt pm_P (d + 1) 132 h [.ref r, .int (nI M), .int (nI A), .int (nI Bq)] h none := by
  refine Rt_of aiX9_copyRow (Nat.le_of_ble_eq_true rfl) ?_
  refine Go_st rfl rfl ?_
  refine Go_st rfl rfl ?_
  exact lp_copyRow h d r len M A Bq hh hl ha hb M 0 (by omega)
