/-! the pairs of runs, class and reference, on a fresh object (written by gen_law.py) -/
/-- both answer alike: the class from a fresh object, the reference behind it -/
def PairI (nx nm : Nat) (as : List Value) : Prop := ∃ (c : Nat → pm_E) (h2 : pm_H) (r : Int32), pm_Rt pm_P 8 nx hp0 (.ref 0 :: as) (hpm c) (some (.int r)) ∧ pm_Rt pm_P 8 nm (hpm c) (.ref 77 :: as) h2 (some (.int r))
def PairL (nx nm : Nat) (as : List Value) : Prop := ∃ (c : Nat → pm_E) (h2 : pm_H) (r : Int64), pm_Rt pm_P 8 nx hp0 (.ref 0 :: as) (hpm c) (some (.long r)) ∧ pm_Rt pm_P 8 nm (hpm c) (.ref 77 :: as) h2 (some (.long r))
theorem pairX {nx nm : Nat} {as : List Value} {r : Int32} {h1 : pm_H} (hx : pm_Rt pm_P 8 nx hp0 (.ref 0 :: as) h1 (some (.int r))) (hd : h1.drop 77 = hpMl) (hm : ∀ c, ∃ h2, pm_Rt pm_P 8 nm (hpm c) (.ref 77 :: as) h2 (some (.int r))) : PairI nx nm as := by
  obtain ⟨h2, h3⟩ := hm (fun i => h1.getD i (.inr (0, [])))
  have e := hpm_of hd
  rw [e] at hx
  exact ⟨_, h2, r, hx, h3⟩
theorem hp0_M : hp0.drop 77 = hpMl := rfl
theorem pairI {nx nm : Nat} {as : List Value} {r : Int32} {h2 : (Nat → pm_E) → pm_H} (hx : pm_Rt pm_P 8 nx hp0 (.ref 0 :: as) hp0 (some (.int r))) (hm : ∀ c, pm_Rt pm_P 8 nm (hpm c) (.ref 77 :: as) (h2 c) (some (.int r))) : PairI nx nm as := pairX hx hp0_M (fun c => ⟨_, hm c⟩)
theorem pairL {nx nm : Nat} {as : List Value} {r : Int64} {h2 : (Nat → pm_E) → pm_H} (hx : pm_Rt pm_P 8 nx hp0 (.ref 0 :: as) hp0 (some (.long r))) (hm : ∀ c, pm_Rt pm_P 8 nm (hpm c) (.ref 77 :: as) (h2 c) (some (.long r))) : PairL nx nm as := by
  have e := hpm_of hp0_M
  have hx2 := hx
  rw [show (pm_Rt pm_P 8 nx hp0 (.ref 0 :: as) hp0 (some (.long r))) = (pm_Rt pm_P 8 nx hp0 (.ref 0 :: as) (hpm (fun i => hp0.getD i (.inr (0, [])))) (some (.long r))) from congrArg (fun z => pm_Rt pm_P 8 nx hp0 (.ref 0 :: as) z (some (.long r))) e] at hx2
  exact ⟨_, _, r, hx2, hm _⟩
theorem Go_sld {look : Nat → Option pm_I} {call : pm_Call} {pc n L j a : Nat} {xs : Nat → Int32} {i : Int32} {lv : List (Nat × Value)} {st : List Value} {w : pm_H × Nat × Nat} {o : pm_H × Option Value} (h1 : look pc = some (.inl (s_sld L xs n))) (hix : pm_ix i L = true) (hj : i.toNatClampNeg = j) (k : pm_Go look call (n, lv, .int (xs j) :: st, w) o) : pm_Go look call (pc, lv, .int i :: .retAddr a :: st, w) o := by
  subst hj
  exact Go_st h1 (by simp only [s_sld, hix, cond_true]) k

set_option maxRecDepth 20000 in
set_option maxHeartbeats 4000000 in
theorem pair_0 (a1 : Int32) (a2 : Int32) (a3 : Int32) (a4 : Int32) (a5 : Int32) : PairI 37 141 [.int a1, .int a2, .int a3, .int a4, .int a5] := by
  obtain ⟨h1, e1, e2⟩ := rx_X8_feed 6 a1 a2 a3 a4 a5
  exact pairX e1 e2 (fun c => rm_X9_feed c 6 a1 a2 a3 a4 a5)
set_option maxRecDepth 20000 in
set_option maxHeartbeats 4000000 in
theorem pair_1 (a1 : Int32) : PairI 33 137 [.int a1] := by
  by_cases h : a1.toInt = 0
  · obtain rfl : a1 = 0 := pm_eqI h rfl
    exact pairI (rx_X8_end_0 7) (fun c => rm_X9_end_0 c 6)
  · exact pairI (rx_X8_end_n 7 a1 (by omega)) (fun c => rm_X9_end_n c 6 a1 (by omega))
set_option maxRecDepth 20000 in
set_option maxHeartbeats 4000000 in
theorem pair_2  : PairI 97 203 [] := pairI (rx_X8_street 5 ) (fun c => rm_X9_street c 4 )
set_option maxRecDepth 20000 in
set_option maxHeartbeats 4000000 in
theorem pair_3 (a1 : Int32) : PairI 36 140 [.int a1] := by
  by_cases h0 : a1 = 0
  · subst h0
    exact pairI (rx_X8_fault_0 7) (fun c => rm_X9_fault_0 c 7)
  · by_cases h1 : a1 = 1
    · subst h1
      exact pairI (rx_X8_fault_1 7) (fun c => rm_X9_fault_1 c 7)
    · exact pairI (rx_X8_fault_n 7 a1 h0 h1) (fun c => rm_X9_fault_n c 7 a1 h0 h1)
set_option maxRecDepth 20000 in
set_option maxHeartbeats 4000000 in
theorem pair_4 (a1 : Int32) (a2 : Int32) : PairI 26 126 [.int a1, .int a2] := pairI (rx_X8_car_v_v 6 a1 a2) (fun c => rm_X9_car_v_v c 5 a1 a2)
set_option maxRecDepth 20000 in
set_option maxHeartbeats 4000000 in
theorem pair_5 (a1 : Int32) : PairI 75 185 [.int a1] := pairI (rx_X8_place_v 6 a1) (fun c => rm_X9_place_v c 5 a1)
set_option maxRecDepth 20000 in
set_option maxHeartbeats 4000000 in
theorem pair_6 (a1 : Int32) : PairI 96 202 [.int a1] := pairI (rx_X8_steps_v 6 a1) (fun c => rm_X9_steps_v c 5 a1)
set_option maxRecDepth 20000 in
set_option maxHeartbeats 4000000 in
theorem pair_7  : PairI 64 174 [] := pairI (rx_X8_lost 6 ) (fun c => rm_X9_lost c 6 )
set_option maxRecDepth 20000 in
set_option maxHeartbeats 4000000 in
theorem pair_8  : PairI 40 146 [] := pairI (rx_X8_free 6 ) (fun c => rm_X9_free c 6 )
set_option maxRecDepth 20000 in
set_option maxHeartbeats 4000000 in
theorem pair_9 (a1 : Int32) : PairI 48 148 [.int a1] := pairI (rx_X8_holder_v 6 a1) (fun c => rm_X9_holder_v c 5 a1)
set_option maxRecDepth 20000 in
set_option maxHeartbeats 4000000 in
theorem pair_10  : PairI 66 176 [] := pairI (rx_X8_lucky 6 ) (fun c => rm_X9_lucky c 6 )
set_option maxRecDepth 20000 in
set_option maxHeartbeats 4000000 in
theorem pair_11  : PairI 98 204 [] := pairI (rx_X8_sum 6 ) (fun c => rm_X9_sum c 6 )
set_option maxRecDepth 20000 in
set_option maxHeartbeats 4000000 in
theorem pair_12  : PairI 109 217 [] := pairI (rx_X8_worst 6 ) (fun c => rm_X9_worst c 6 )
set_option maxRecDepth 20000 in
set_option maxHeartbeats 4000000 in
theorem pair_13  : PairI 88 197 [] := pairI (rx_X8_runs 6 ) (fun c => rm_X9_runs c 6 )
set_option maxRecDepth 20000 in
set_option maxHeartbeats 4000000 in
theorem pair_14 (a1 : Int32) : PairI 95 201 [.int a1] := pairI (rx_X8_sorted_v 6 a1) (fun c => rm_X9_sorted_v c 6 a1)
set_option maxRecDepth 20000 in
set_option maxHeartbeats 4000000 in
theorem pair_15  : PairI 60 170 [] := pairI (rx_X8_lawful 6 ) (fun c => rm_X9_lawful c 6 )
set_option maxRecDepth 20000 in
set_option maxHeartbeats 4000000 in
theorem pair_16  : PairI 76 187 [] := pairI (rx_X8_prime 6 ) (fun c => rm_X9_prime c 6 )
set_option maxRecDepth 20000 in
set_option maxHeartbeats 4000000 in
theorem pair_17  : PairI 23 123 [] := pairI (rx_X8_breaks 6 ) (fun c => rm_X9_breaks c 6 )
set_option maxRecDepth 20000 in
set_option maxHeartbeats 4000000 in
theorem pair_18  : PairI 63 173 [] := pairI (rx_X8_likes 6 ) (fun c => rm_X9_likes c 6 )
set_option maxRecDepth 20000 in
set_option maxHeartbeats 4000000 in
theorem pair_19 (a1 : Int32) : PairI 84 194 [.int a1] := pairI (rx_X8_ring_v 6 a1) (fun c => rm_X9_ring_v c 5 a1)
set_option maxRecDepth 20000 in
set_option maxHeartbeats 4000000 in
theorem pair_20  : PairI 49 149 [] := pairI (rx_X8_hole 6 ) (fun c => rm_X9_hole c 6 )
set_option maxRecDepth 20000 in
set_option maxHeartbeats 4000000 in
theorem pair_21  : PairI 92 200 [] := pairI (rx_X8_shifts 6 ) (fun c => rm_X9_shifts c 6 )
set_option maxRecDepth 20000 in
set_option maxHeartbeats 4000000 in
theorem pair_22 (a1 : Int32) (a2 : Int32) : PairI 91 199 [.int a1, .int a2] := pairI (rx_X8_shifted_v_v 6 a1 a2) (fun c => rm_X9_shifted_v_v c 5 a1 a2)
set_option maxRecDepth 20000 in
set_option maxHeartbeats 4000000 in
theorem pair_23 (a1 : Int32) : PairI 73 183 [.int a1] := pairI (rx_X8_parent_v 5 a1) (fun c => rm_X9_parent_v c 5 a1)
set_option maxRecDepth 20000 in
set_option maxHeartbeats 4000000 in
theorem pair_24 (a1 : Int32) : PairI 31 135 [.int a1] := pairI (rx_X8_depth_v 5 a1) (fun c => rm_X9_depth_v c 5 a1)
set_option maxRecDepth 20000 in
set_option maxHeartbeats 4000000 in
theorem pair_25 (a1 : Int32) : PairI 56 166 [.int a1] := pairI (rx_X8_kids_v 5 a1) (fun c => rm_X9_kids_v c 5 a1)
set_option maxRecDepth 20000 in
set_option maxHeartbeats 4000000 in
theorem pair_26 (a1 : Int32) : PairI 77 188 [.int a1] := pairI (rx_X8_queue_v 5 a1) (fun c => rm_X9_queue_v c 5 a1)
set_option maxRecDepth 20000 in
set_option maxHeartbeats 4000000 in
theorem pair_27  : PairI 62 172 [] := pairI (rx_X8_leaves 5 ) (fun c => rm_X9_leaves c 6 )
set_option maxRecDepth 20000 in
set_option maxHeartbeats 4000000 in
theorem pair_28  : PairI 52 153 [] := pairI (rx_X8_inversions 5 ) (fun c => rm_X9_inversions c 6 )
set_option maxRecDepth 20000 in
set_option maxHeartbeats 4000000 in
theorem pair_29 (a1 : Int32) : PairI 29 131 [.int a1] := pairI (rx_X8_code_v 5 a1) (fun c => rm_X9_code_v c 6 a1)
set_option maxRecDepth 20000 in
set_option maxHeartbeats 4000000 in
theorem pair_30 (a1 : Int32) : PairI 24 124 [.int a1] := pairI (rx_X8_burnt_v 5 a1) (fun c => rm_X9_burnt_v c 5 a1)
set_option maxRecDepth 20000 in
set_option maxHeartbeats 4000000 in
theorem pair_31  : PairI 103 209 [] := pairI (rx_X8_turned 5 ) (fun c => rm_X9_turned c 6 )
set_option maxRecDepth 20000 in
set_option maxHeartbeats 4000000 in
theorem pair_32 (a1 : Int32) : PairI 106 212 [.int a1] := pairI (rx_X8_visit_v 5 a1) (fun c => rm_X9_visit_v c 5 a1)
set_option maxRecDepth 20000 in
set_option maxHeartbeats 4000000 in
theorem pair_33 (a1 : Int32) (a2 : Int32) : PairI 14 112 [.int a1, .int a2] := pairI (rx_X8_above_v_v 5 a1 a2) (fun c => rm_X9_above_v_v c 4 a1 a2)
set_option maxRecDepth 20000 in
set_option maxHeartbeats 4000000 in
theorem pair_34 (a1 : Int32) (a2 : Int32) : PairI 108 216 [.int a1, .int a2] := pairI (rx_X8_wish_v_v 5 a1 a2) (fun c => rm_X9_wish_v_v c 4 a1 a2)
set_option maxRecDepth 20000 in
set_option maxHeartbeats 4000000 in
theorem pair_35 (a1 : Int32) (a2 : Int32) : PairI 80 190 [.int a1, .int a2] := pairI (rx_X8_regain_v_v 5 a1 a2) (fun c => rm_X9_regain_v_v c 4 a1 a2)
set_option maxRecDepth 20000 in
set_option maxHeartbeats 4000000 in
theorem pair_36 (a1 : Int32) : PairI 105 211 [.int a1] := pairI (rx_X8_upset_v 5 a1) (fun c => rm_X9_upset_v c 4 a1)
set_option maxRecDepth 20000 in
set_option maxHeartbeats 4000000 in
theorem pair_37 (a1 : Int32) : PairI 87 196 [.int a1] := pairI (rx_X8_rows_v 5 a1) (fun c => rm_X9_rows_v c 5 a1)
set_option maxRecDepth 20000 in
set_option maxHeartbeats 4000000 in
theorem pair_38 (a1 : Int32) (a2 : Int32) : PairI 71 181 [.int a1, .int a2] := pairI (rx_X8_moved_v_v 4 a1 a2) (fun c => rm_X9_moved_v_v c 5 a1 a2)
set_option maxRecDepth 20000 in
set_option maxHeartbeats 4000000 in
theorem pair_39 (a1 : Int32) (a2 : Int32) : PairI 102 208 [.int a1, .int a2] := pairI (rx_X8_trees_v_v 4 a1 a2) (fun c => rm_X9_trees_v_v c 5 a1 a2)
set_option maxRecDepth 20000 in
set_option maxHeartbeats 4000000 in
theorem pair_40 (a1 : Int32) (a2 : Int32) : PairI 34 138 [.int a1, .int a2] := pairI (rx_X8_ends_v_v 5 a1 a2) (fun c => rm_X9_ends_v_v c 5 a1 a2)
set_option maxRecDepth 20000 in
set_option maxHeartbeats 4000000 in
theorem pair_41 (a1 : Int32) : PairI 57 167 [.int a1] := pairI (rx_X8_label 7 a1) (fun c => rm_X9_label_v c 5 a1)
set_option maxRecDepth 20000 in
set_option maxHeartbeats 4000000 in
theorem pair_42 (a1 : Int32) : PairI 70 180 [.int a1] := pairI (rx_X8_merged 7 a1) (fun c => rm_X9_merged_v c 5 a1)
set_option maxRecDepth 20000 in
set_option maxHeartbeats 4000000 in
theorem pair_43  : PairI 22 122 [] := pairI (rx_X8_blocks 6 ) (fun c => rm_X9_blocks c 6 )
set_option maxRecDepth 20000 in
set_option maxHeartbeats 4000000 in
theorem pair_44 (a1 : Int32) : PairI 21 121 [.int a1] := pairI (rx_X8_block_v 5 a1) (fun c => rm_X9_block_v c 5 a1)
set_option maxRecDepth 20000 in
set_option maxHeartbeats 4000000 in
theorem pair_45  : PairI 72 182 [] := pairI (rx_X8_next 6 ) (fun c => rm_X9_next c 6 )
set_option maxRecDepth 20000 in
set_option maxHeartbeats 4000000 in
theorem pair_46 (a1 : Int32) (a2 : Int32) : PairI 67 177 [.int a1, .int a2] := pairI (rx_X8_may_v_v 5 a1 a2) (fun c => rm_X9_may_v_v c 5 a1 a2)
set_option maxRecDepth 20000 in
set_option maxHeartbeats 4000000 in
theorem pair_47 (a1 : Int32) (a2 : Int32) : PairI 58 168 [.int a1, .int a2] := pairI (rx_X8_labels_v_v 5 a1 a2) (fun c => rm_X9_labels_v_v c 5 a1 a2)
set_option maxRecDepth 20000 in
set_option maxHeartbeats 4000000 in
theorem pair_48  : PairI 27 128 [] := pairI (rx_X8_chain 6 ) (fun c => rm_X9_chain c 6 )
set_option maxRecDepth 20000 in
set_option maxHeartbeats 4000000 in
theorem pair_49 (a1 : Int32) : PairI 81 191 [.int a1] := pairI (rx_X8_region_v 6 a1) (fun c => rm_X9_region_v c 5 a1)
set_option maxRecDepth 20000 in
set_option maxHeartbeats 4000000 in
theorem pair_50 (a1 : Int32) (a2 : Int32) : PairI 15 113 [.int a1, .int a2] := pairI (rx_X8_across_v_v 5 a1 a2) (fun c => rm_X9_across_v_v c 4 a1 a2)
set_option maxRecDepth 20000 in
set_option maxHeartbeats 4000000 in
theorem pair_51  : PairI 38 142 [] := pairI (rx_X8_fences 6 ) (fun c => rm_X9_fences c 6 )
set_option maxRecDepth 20000 in
set_option maxHeartbeats 4000000 in
theorem pair_52  : PairI 35 139 [] := pairI (rx_X8_far 6 ) (fun c => rm_X9_far c 6 )
set_option maxRecDepth 20000 in
set_option maxHeartbeats 4000000 in
theorem pair_53  : PairI 18 117 [] := pairI (rx_X8_astride 6 ) (fun c => rm_X9_astride c 6 )
set_option maxRecDepth 20000 in
set_option maxHeartbeats 4000000 in
theorem pair_54  : PairI 69 179 [] := pairI (rx_X8_mend 6 ) (fun c => rm_X9_mend c 6 )
set_option maxRecDepth 20000 in
set_option maxHeartbeats 4000000 in
theorem pair_55  : PairI 99 205 [] := pairI (rx_X8_swap 6 ) (fun c => rm_X9_swap c 6 )
set_option maxRecDepth 20000 in
set_option maxHeartbeats 4000000 in
theorem pair_56  : PairI 20 120 [] := pairI (rx_X8_blame 6 ) (fun c => rm_X9_blame c 6 )
set_option maxRecDepth 20000 in
set_option maxHeartbeats 4000000 in
theorem pair_57 (a1 : Int32) (a2 : Int32) : PairI 39 143 [.int a1, .int a2] := pairI (rx_X8_fits_v_v 5 a1 a2) (fun c => rm_X9_fits_v_v c 4 a1 a2)
set_option maxRecDepth 20000 in
set_option maxHeartbeats 4000000 in
theorem pair_58 (a1 : Int32) (a2 : Int32) : PairI 17 116 [.int a1, .int a2] := pairI (rx_X8_ask_v_v 5 a1 a2) (fun c => rm_X9_ask_v_v c 4 a1 a2)
set_option maxRecDepth 20000 in
set_option maxHeartbeats 4000000 in
theorem pair_59 (a1 : Int32) (a2 : Int32) : PairI 82 192 [.int a1, .int a2] := pairI (rx_X8_remain_v_v 5 a1 a2) (fun c => rm_X9_remain_v_v c 4 a1 a2)
set_option maxRecDepth 20000 in
set_option maxHeartbeats 4000000 in
theorem pair_60 (a1 : Int32) : PairI 61 171 [.int a1] := pairI (rx_X8_laws_v 5 a1) (fun c => rm_X9_laws_v c 4 a1)
set_option maxRecDepth 20000 in
set_option maxHeartbeats 4000000 in
theorem pair_61 (a1 : Int32) : PairI 25 125 [.int a1] := pairI (rx_X8_by_v 6 a1) (fun c => rm_X9_by_v c 6 a1)
set_option maxRecDepth 20000 in
set_option maxHeartbeats 4000000 in
theorem pair_62  : PairI 59 169 [] := pairI (rx_X8_law 6 ) (fun c => rm_X9_law c 6 )
set_option maxRecDepth 20000 in
set_option maxHeartbeats 4000000 in
theorem pair_63 (a1 : Int32) : PairI 110 218 [.int a1] := pairI (rx_X8_worth_v 6 a1) (fun c => rm_X9_worth_v c 6 a1)
set_option maxRecDepth 20000 in
set_option maxHeartbeats 4000000 in
theorem pair_64 (a1 : Int32) (a2 : Int32) : PairI 90 198 [.int a1, .int a2] := pairI (rx_X8_share_v_v 6 a1 a2) (fun c => rm_X9_share_v_v c 5 a1 a2)
set_option maxRecDepth 20000 in
set_option maxHeartbeats 4000000 in
theorem pair_65 (a1 : Int32) (a2 : Int32) : PairI 83 193 [.int a1, .int a2] := pairI (rx_X8_rests_v_v 5 a1 a2) (fun c => rm_X9_rests_v_v c 4 a1 a2)
set_option maxRecDepth 20000 in
set_option maxHeartbeats 4000000 in
theorem pair_66 (a1 : Int32) (a2 : Int32) (a3 : Int32) (a4 : Int32) : PairI 41 147 [.int a1, .int a2, .int a3, .int a4] := pairI (rx_X8_gets_v_v_v_v 5 a1 a2 a3 a4) (fun c => rm_X9_gets_v_v_v_v c 4 a1 a2 a3 a4)
set_option maxRecDepth 20000 in
set_option maxHeartbeats 4000000 in
theorem pair_67 (a1 : Int32) (a2 : Int32) : PairI 28 129 [.int a1, .int a2] := pairI (rx_X8_chance_v_v 6 a1 a2) (fun c => rm_X9_chance_v_v c 5 a1 a2)
set_option maxRecDepth 20000 in
set_option maxHeartbeats 4000000 in
theorem pair_68 (a1 : Int32) : PairL 68 178 [.int a1] := pairL (rx_X8_mean_v 6 a1) (fun c => rm_X9_mean_v c 6 a1)
set_option maxRecDepth 20000 in
set_option maxHeartbeats 4000000 in
theorem pair_69 (a1 : Int32) (a2 : Int32) : PairI 107 213 [.int a1, .int a2] := pairI (rx_X8_wants_v_v 6 a1 a2) (fun c => rm_X9_wants_v_v c 5 a1 a2)
set_option maxRecDepth 20000 in
set_option maxHeartbeats 4000000 in
theorem pair_70 (a1 : Int32) (a2 : Int32) : PairI 101 207 [.int a1, .int a2] := pairI (rx_X8_trades_v_v 5 a1 a2) (fun c => rm_X9_trades_v_v c 4 a1 a2)
set_option maxRecDepth 20000 in
set_option maxHeartbeats 4000000 in
theorem pair_71  : PairI 104 210 [] := pairI (rx_X8_undo 6 ) (fun c => rm_X9_undo c 6 )
set_option maxRecDepth 20000 in
set_option maxHeartbeats 4000000 in
theorem pair_72  : PairI 16 114 [] := pairI (rx_X8_anew 6 ) (fun c => rm_X9_anew c 6 )
set_option maxRecDepth 20000 in
set_option maxHeartbeats 4000000 in
theorem pair_73 (a1 : Int32) (a2 : Int32) : PairI 32 136 [.int a1, .int a2] := pairI (rx_X8_drawn_v_v 6 a1 a2) (fun c => rm_X9_drawn_v_v c 6 a1 a2)
set_option maxRecDepth 20000 in
set_option maxHeartbeats 4000000 in
theorem pair_74 (a1 : Int32) (a2 : Int32) (a3 : Int32) : PairI 65 175 [.int a1, .int a2, .int a3] := pairI (rx_X8_luck_v_v_v 6 a1 a2 a3) (fun c => rm_X9_luck_v_v_v c 5 a1 a2 a3)
set_option maxRecDepth 20000 in
set_option maxHeartbeats 4000000 in
theorem pair_75 (a1 : Int32) (a2 : Int32) : PairI 78 189 [.int a1, .int a2] := pairI (rx_X8_rate_v_v 6 a1 a2) (fun c => rm_X9_rate_v_v c 5 a1 a2)
set_option maxRecDepth 20000 in
set_option maxHeartbeats 4000000 in
theorem pair_76 (a1 : Int32) : PairI 30 134 [.int a1] := by
  rcases pm_9 a1 with rfl | rfl | rfl | rfl | rfl | rfl | rfl | rfl | rfl | h
  · exact pairI (rx_X8_count_0 7) (fun c => rm_X9_count_0 c 6)
  · exact pairI (rx_X8_count_1 7) (fun c => rm_X9_count_1 c 6)
  · exact pairI (rx_X8_count_2 7) (fun c => rm_X9_count_2 c 6)
  · exact pairI (rx_X8_count_3 7) (fun c => rm_X9_count_3 c 6)
  · exact pairI (rx_X8_count_4 7) (fun c => rm_X9_count_4 c 6)
  · exact pairI (rx_X8_count_5 7) (fun c => rm_X9_count_5 c 6)
  · exact pairI (rx_X8_count_6 7) (fun c => rm_X9_count_6 c 6)
  · exact pairI (rx_X8_count_7 7) (fun c => rm_X9_count_7 c 6)
  · exact pairI (rx_X8_count_8 6) (fun c => rm_X9_count_8 c 6)
  · exact pairI (rx_X8_count_n 7 a1 h) (fun c => rm_X9_count_n c 6 a1 h)
set_option maxRecDepth 20000 in
set_option maxHeartbeats 4000000 in
theorem pair_77 (a1 : Int32) : PairI 50 150 [.int a1] := by
  rcases pm_3 a1 with rfl | rfl | rfl | h
  · obtain ⟨h1, e1, e2⟩ := rx_X8_image_0 6
    exact pairX e1 e2 (fun c => rm_X9_image_0 c 5)
  · obtain ⟨h1, e1, e2⟩ := rx_X8_image_1 6
    exact pairX e1 e2 (fun c => rm_X9_image_1 c 5)
  · obtain ⟨h1, e1, e2⟩ := rx_X8_image_2 6
    exact pairX e1 e2 (fun c => rm_X9_image_2 c 5)
  · exact pairI (rx_X8_image_n 7 a1 h) (fun c => rm_X9_image_n c 6 a1 h)
set_option maxRecDepth 20000 in
set_option maxHeartbeats 4000000 in
theorem pair_78 (a1 : Int32) : PairI 19 118 [.int a1] := by
  rcases pm_3 a1 with rfl | rfl | rfl | h
  · exact pairI (rx_X8_back_0 7) (fun c => rm_X9_back_0 c 6)
  · exact pairI (rx_X8_back_1 7) (fun c => rm_X9_back_1 c 6)
  · exact pairI (rx_X8_back_2 7) (fun c => rm_X9_back_2 c 6)
  · exact pairI (rx_X8_back_n 7 a1 h) (fun c => rm_X9_back_n c 6 a1 h)
set_option maxRecDepth 20000 in
set_option maxHeartbeats 4000000 in
theorem pair_79 (a1 : Int32) (a2 : Int32) (a3 : Int32) : PairI 85 195 [.int a1, .int a2, .int a3] := by
  by_cases h1 : a1.toInt < 0 ∨ 3 < a1.toInt
  · exact pairI (rx_X8_row_n 6 a1 a2 a3 h1) (fun c => rm_X9_row_n c 5 a1 a2 a3 h1)
  by_cases h2 : a2.toInt < 0 ∨ 3 < a2.toInt
  · exact pairI (rx_X8_row_w 6 a1 a2 a3 (by omega) h2) (fun c => rm_X9_row_w c 5 a1 a2 a3 (by omega) h2)
  by_cases h3 : 60 < a3.toInt
  · exact pairI (rx_X8_row_g 6 a1 a2 a3 (by omega) (by omega) h3) (fun c => rm_X9_row_g c 5 a1 a2 a3 (by omega) (by omega) h3)
  by_cases h4 : a3.toInt < 0
  · exact pairI (rx_X8_row_l 6 a1 a2 a3 (by omega) (by omega) h4) (fun c => rm_X9_row_l c 5 a1 a2 a3 (by omega) (by omega) h4)
  obtain ⟨N, hN, rfl⟩ : ∃ N : Nat, N ≤ 60 ∧ a3 = nI N := by
    refine ⟨a3.toInt.toNat, by omega, ?_⟩
    apply Int32.toInt_inj.mp
    rw [nI_toInt (by omega)]
    omega
  have hw : 0 ≤ a2.toInt ∧ a2.toInt ≤ 3 := by omega
  rcases pm_4 a1 with rfl | rfl | rfl | rfl | h
  · exact pairX (rx_X8_row_0 6 a2 N hN hw) rfl (fun c => rm_X9_row_0 c 5 a2 N hN hw)
  · exact pairX (rx_X8_row_1 6 a2 N hN hw) rfl (fun c => rm_X9_row_1 c 5 a2 N hN hw)
  · exact pairX (rx_X8_row_2 6 a2 N hN hw) rfl (fun c => rm_X9_row_2 c 5 a2 N hN hw)
  · exact pairX (rx_X8_row_3 6 a2 N hN hw) rfl (fun c => rm_X9_row_3 c 5 a2 N hN hw)
  · exact absurd h h1
set_option maxRecDepth 20000 in
set_option maxHeartbeats 4000000 in
theorem pair_80 (a1 : Int32) (a2 : Int32) (a3 : Int64) : PairI 111 219 [.int a1, .int a2, .long a3] := by
  rcases pm_4 a1 with rfl | rfl | rfl | rfl | h
  · exact pairI (rx_X8_write_0_v_v 6 a2 a3) (fun c => rm_X9_write_0_v_v c 5 a2 a3)
  · exact pairI (rx_X8_write_1_v_v 6 a2 a3) (fun c => rm_X9_write_1_v_v c 5 a2 a3)
  · exact pairI (rx_X8_write_2_v_v 6 a2 a3) (fun c => rm_X9_write_2_v_v c 5 a2 a3)
  · exact pairI (rx_X8_write_3_v_v 6 a2 a3) (fun c => rm_X9_write_3_v_v c 5 a2 a3)
  · exact pairI (rx_X8_write_n 6 a1 a2 a3 h) (fun c => rm_X9_write_n c 5 a1 a2 a3 h)
set_option maxRecDepth 20000 in
set_option maxHeartbeats 4000000 in
theorem pair_81 (a1 : Int32) (a2 : Int32) (a3 : Int32) (a4 : Int32) (a5 : Int32) : PairI 74 184 [.int a1, .int a2, .int a3, .int a4, .int a5] := by
  rcases pm_4 a1 with rfl | rfl | rfl | rfl | h
  · rcases pm_4 a3 with rfl | rfl | rfl | rfl | h
    · exact pairI (rx_X8_paste_0_v_0_v_v 6 a2 a4 a5) (fun c => rm_X9_paste_0_v_0_v_v c 5 a2 a4 a5)
    · exact pairI (rx_X8_paste_0_v_1_v_v 6 a2 a4 a5) (fun c => rm_X9_paste_0_v_1_v_v c 5 a2 a4 a5)
    · exact pairI (rx_X8_paste_0_v_2_v_v 6 a2 a4 a5) (fun c => rm_X9_paste_0_v_2_v_v c 5 a2 a4 a5)
    · exact pairI (rx_X8_paste_0_v_3_v_v 6 a2 a4 a5) (fun c => rm_X9_paste_0_v_3_v_v c 5 a2 a4 a5)
    · exact pairI (rx_X8_paste_m 6 0 a2 a3 a4 a5 (by decide +kernel) h) (fun c => rm_X9_paste_m c 5 0 a2 a3 a4 a5 (by decide +kernel) h)
  · rcases pm_4 a3 with rfl | rfl | rfl | rfl | h
    · exact pairI (rx_X8_paste_1_v_0_v_v 6 a2 a4 a5) (fun c => rm_X9_paste_1_v_0_v_v c 5 a2 a4 a5)
    · exact pairI (rx_X8_paste_1_v_1_v_v 6 a2 a4 a5) (fun c => rm_X9_paste_1_v_1_v_v c 5 a2 a4 a5)
    · exact pairI (rx_X8_paste_1_v_2_v_v 6 a2 a4 a5) (fun c => rm_X9_paste_1_v_2_v_v c 5 a2 a4 a5)
    · exact pairI (rx_X8_paste_1_v_3_v_v 6 a2 a4 a5) (fun c => rm_X9_paste_1_v_3_v_v c 5 a2 a4 a5)
    · exact pairI (rx_X8_paste_m 6 1 a2 a3 a4 a5 (by decide +kernel) h) (fun c => rm_X9_paste_m c 5 1 a2 a3 a4 a5 (by decide +kernel) h)
  · rcases pm_4 a3 with rfl | rfl | rfl | rfl | h
    · exact pairI (rx_X8_paste_2_v_0_v_v 6 a2 a4 a5) (fun c => rm_X9_paste_2_v_0_v_v c 5 a2 a4 a5)
    · exact pairI (rx_X8_paste_2_v_1_v_v 6 a2 a4 a5) (fun c => rm_X9_paste_2_v_1_v_v c 5 a2 a4 a5)
    · exact pairI (rx_X8_paste_2_v_2_v_v 6 a2 a4 a5) (fun c => rm_X9_paste_2_v_2_v_v c 5 a2 a4 a5)
    · exact pairI (rx_X8_paste_2_v_3_v_v 6 a2 a4 a5) (fun c => rm_X9_paste_2_v_3_v_v c 5 a2 a4 a5)
    · exact pairI (rx_X8_paste_m 6 2 a2 a3 a4 a5 (by decide +kernel) h) (fun c => rm_X9_paste_m c 5 2 a2 a3 a4 a5 (by decide +kernel) h)
  · rcases pm_4 a3 with rfl | rfl | rfl | rfl | h
    · exact pairI (rx_X8_paste_3_v_0_v_v 6 a2 a4 a5) (fun c => rm_X9_paste_3_v_0_v_v c 5 a2 a4 a5)
    · exact pairI (rx_X8_paste_3_v_1_v_v 6 a2 a4 a5) (fun c => rm_X9_paste_3_v_1_v_v c 5 a2 a4 a5)
    · exact pairI (rx_X8_paste_3_v_2_v_v 6 a2 a4 a5) (fun c => rm_X9_paste_3_v_2_v_v c 5 a2 a4 a5)
    · exact pairI (rx_X8_paste_3_v_3_v_v 6 a2 a4 a5) (fun c => rm_X9_paste_3_v_3_v_v c 5 a2 a4 a5)
    · exact pairI (rx_X8_paste_m 6 3 a2 a3 a4 a5 (by decide +kernel) h) (fun c => rm_X9_paste_m c 5 3 a2 a3 a4 a5 (by decide +kernel) h)
  · exact pairI (rx_X8_paste_n 6 a1 a2 a3 a4 a5 h) (fun c => rm_X9_paste_n c 5 a1 a2 a3 a4 a5 h)
