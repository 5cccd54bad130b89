section
set_option maxRecDepth 20000 in
theorem sw_68 {L : Nat} {xs : Nat → Int32} (hL : L ≤ 3072) {h : pm_H} {i : Nat} (hi : i + 6 ≤ L) (lv : List (Nat × Value)) (I : IVQ h) (L0 : pm_get lv 0 = some (.retAddr 0)) (L1 : pm_get lv 1 = some (.ref 0)) (L2 : pm_get lv 2 = some (.ref 77)) (L3 : pm_get lv 3 = some (.int (nJ i))) (K : ∀ h', IVQ h' → Ends (pm_tr (lb_all L xs)) (pm_Rt pm_P 100) (2392, lv, [], h', 599897, 7298671) RQ1) : Ends (pm_tr (lb_all L xs)) (pm_Rt pm_P 100) (33, lv, [.int (nI 68)], h, 599897, 7298671) RQ1 := E_tsw rfl (by decide +kernel) (by decide +kernel) (bl_68 hL hi lv I L0 L1 L2 L3 K)
set_option maxRecDepth 20000 in
theorem sw_69 {L : Nat} {xs : Nat → Int32} (hL : L ≤ 3072) {h : pm_H} {i : Nat} (hi : i + 6 ≤ L) (lv : List (Nat × Value)) (I : IVQ h) (L0 : pm_get lv 0 = some (.retAddr 0)) (L1 : pm_get lv 1 = some (.ref 0)) (L2 : pm_get lv 2 = some (.ref 77)) (L3 : pm_get lv 3 = some (.int (nJ i))) (K : ∀ h', IVQ h' → Ends (pm_tr (lb_all L xs)) (pm_Rt pm_P 100) (2392, lv, [], h', 599897, 7298671) RQ1) : Ends (pm_tr (lb_all L xs)) (pm_Rt pm_P 100) (33, lv, [.int (nI 69)], h, 599897, 7298671) RQ1 := E_tsw rfl (by decide +kernel) (by decide +kernel) (bl_69 hL hi lv I L0 L1 L2 L3 K)
set_option maxRecDepth 20000 in
theorem sw_70 {L : Nat} {xs : Nat → Int32} (hL : L ≤ 3072) {h : pm_H} {i : Nat} (hi : i + 6 ≤ L) (lv : List (Nat × Value)) (I : IVQ h) (L0 : pm_get lv 0 = some (.retAddr 0)) (L1 : pm_get lv 1 = some (.ref 0)) (L2 : pm_get lv 2 = some (.ref 77)) (L3 : pm_get lv 3 = some (.int (nJ i))) (K : ∀ h', IVQ h' → Ends (pm_tr (lb_all L xs)) (pm_Rt pm_P 100) (2392, lv, [], h', 599897, 7298671) RQ1) : Ends (pm_tr (lb_all L xs)) (pm_Rt pm_P 100) (33, lv, [.int (nI 70)], h, 599897, 7298671) RQ1 := E_tsw rfl (by decide +kernel) (by decide +kernel) (bl_70 hL hi lv I L0 L1 L2 L3 K)
set_option maxRecDepth 20000 in
theorem sw_71 {L : Nat} {xs : Nat → Int32} (hL : L ≤ 3072) {h : pm_H} {i : Nat} (hi : i + 6 ≤ L) (lv : List (Nat × Value)) (I : IVQ h) (L0 : pm_get lv 0 = some (.retAddr 0)) (L1 : pm_get lv 1 = some (.ref 0)) (L2 : pm_get lv 2 = some (.ref 77)) (L3 : pm_get lv 3 = some (.int (nJ i))) (K : ∀ h', IVQ h' → Ends (pm_tr (lb_all L xs)) (pm_Rt pm_P 100) (2392, lv, [], h', 599897, 7298671) RQ1) : Ends (pm_tr (lb_all L xs)) (pm_Rt pm_P 100) (33, lv, [.int (nI 71)], h, 599897, 7298671) RQ1 := E_tsw rfl (by decide +kernel) (by decide +kernel) (bl_71 hL hi lv I L0 L1 L2 L3 K)
set_option maxRecDepth 20000 in
theorem sw_72 {L : Nat} {xs : Nat → Int32} (hL : L ≤ 3072) {h : pm_H} {i : Nat} (hi : i + 6 ≤ L) (lv : List (Nat × Value)) (I : IVQ h) (L0 : pm_get lv 0 = some (.retAddr 0)) (L1 : pm_get lv 1 = some (.ref 0)) (L2 : pm_get lv 2 = some (.ref 77)) (L3 : pm_get lv 3 = some (.int (nJ i))) (K : ∀ h', IVQ h' → Ends (pm_tr (lb_all L xs)) (pm_Rt pm_P 100) (2392, lv, [], h', 599897, 7298671) RQ1) : Ends (pm_tr (lb_all L xs)) (pm_Rt pm_P 100) (33, lv, [.int (nI 72)], h, 599897, 7298671) RQ1 := E_tsw rfl (by decide +kernel) (by decide +kernel) (bl_72 hL hi lv I L0 L1 L2 L3 K)
set_option maxRecDepth 20000 in
theorem sw_73 {L : Nat} {xs : Nat → Int32} (hL : L ≤ 3072) {h : pm_H} {i : Nat} (hi : i + 6 ≤ L) (lv : List (Nat × Value)) (I : IVQ h) (L0 : pm_get lv 0 = some (.retAddr 0)) (L1 : pm_get lv 1 = some (.ref 0)) (L2 : pm_get lv 2 = some (.ref 77)) (L3 : pm_get lv 3 = some (.int (nJ i))) (K : ∀ h', IVQ h' → Ends (pm_tr (lb_all L xs)) (pm_Rt pm_P 100) (2392, lv, [], h', 599897, 7298671) RQ1) : Ends (pm_tr (lb_all L xs)) (pm_Rt pm_P 100) (33, lv, [.int (nI 73)], h, 599897, 7298671) RQ1 := E_tsw rfl (by decide +kernel) (by decide +kernel) (bl_73 hL hi lv I L0 L1 L2 L3 K)
set_option maxRecDepth 20000 in
theorem sw_74 {L : Nat} {xs : Nat → Int32} (hL : L ≤ 3072) {h : pm_H} {i : Nat} (hi : i + 6 ≤ L) (lv : List (Nat × Value)) (I : IVQ h) (L0 : pm_get lv 0 = some (.retAddr 0)) (L1 : pm_get lv 1 = some (.ref 0)) (L2 : pm_get lv 2 = some (.ref 77)) (L3 : pm_get lv 3 = some (.int (nJ i))) (K : ∀ h', IVQ h' → Ends (pm_tr (lb_all L xs)) (pm_Rt pm_P 100) (2392, lv, [], h', 599897, 7298671) RQ1) : Ends (pm_tr (lb_all L xs)) (pm_Rt pm_P 100) (33, lv, [.int (nI 74)], h, 599897, 7298671) RQ1 := E_tsw rfl (by decide +kernel) (by decide +kernel) (bl_74 hL hi lv I L0 L1 L2 L3 K)
set_option maxRecDepth 20000 in
theorem sw_75 {L : Nat} {xs : Nat → Int32} (hL : L ≤ 3072) {h : pm_H} {i : Nat} (hi : i + 6 ≤ L) (lv : List (Nat × Value)) (I : IVQ h) (L0 : pm_get lv 0 = some (.retAddr 0)) (L1 : pm_get lv 1 = some (.ref 0)) (L2 : pm_get lv 2 = some (.ref 77)) (L3 : pm_get lv 3 = some (.int (nJ i))) (K : ∀ h', IVQ h' → Ends (pm_tr (lb_all L xs)) (pm_Rt pm_P 100) (2392, lv, [], h', 599897, 7298671) RQ1) : Ends (pm_tr (lb_all L xs)) (pm_Rt pm_P 100) (33, lv, [.int (nI 75)], h, 599897, 7298671) RQ1 := E_tsw rfl (by decide +kernel) (by decide +kernel) (bl_75 hL hi lv I L0 L1 L2 L3 K)
set_option maxRecDepth 20000 in
theorem sw_76 {L : Nat} {xs : Nat → Int32} (hL : L ≤ 3072) {h : pm_H} {i : Nat} (hi : i + 6 ≤ L) (lv : List (Nat × Value)) (I : IVQ h) (L0 : pm_get lv 0 = some (.retAddr 0)) (L1 : pm_get lv 1 = some (.ref 0)) (L2 : pm_get lv 2 = some (.ref 77)) (L3 : pm_get lv 3 = some (.int (nJ i))) (K : ∀ h', IVQ h' → Ends (pm_tr (lb_all L xs)) (pm_Rt pm_P 100) (2392, lv, [], h', 599897, 7298671) RQ1) : Ends (pm_tr (lb_all L xs)) (pm_Rt pm_P 100) (33, lv, [.int (nI 76)], h, 599897, 7298671) RQ1 := E_tsw rfl (by decide +kernel) (by decide +kernel) (bl_76 hL hi lv I L0 L1 L2 L3 K)
set_option maxRecDepth 20000 in
theorem sw_77 {L : Nat} {xs : Nat → Int32} (hL : L ≤ 3072) {h : pm_H} {i : Nat} (hi : i + 6 ≤ L) (lv : List (Nat × Value)) (I : IVQ h) (L0 : pm_get lv 0 = some (.retAddr 0)) (L1 : pm_get lv 1 = some (.ref 0)) (L2 : pm_get lv 2 = some (.ref 77)) (L3 : pm_get lv 3 = some (.int (nJ i))) (K : ∀ h', IVQ h' → Ends (pm_tr (lb_all L xs)) (pm_Rt pm_P 100) (2392, lv, [], h', 599897, 7298671) RQ1) : Ends (pm_tr (lb_all L xs)) (pm_Rt pm_P 100) (33, lv, [.int (nI 77)], h, 599897, 7298671) RQ1 := E_tsw rfl (by decide +kernel) (by decide +kernel) (bl_77 hL hi lv I L0 L1 L2 L3 K)
set_option maxRecDepth 20000 in
theorem sw_78 {L : Nat} {xs : Nat → Int32} (hL : L ≤ 3072) {h : pm_H} {i : Nat} (hi : i + 6 ≤ L) (lv : List (Nat × Value)) (I : IVQ h) (L0 : pm_get lv 0 = some (.retAddr 0)) (L1 : pm_get lv 1 = some (.ref 0)) (L2 : pm_get lv 2 = some (.ref 77)) (L3 : pm_get lv 3 = some (.int (nJ i))) (K : ∀ h', IVQ h' → Ends (pm_tr (lb_all L xs)) (pm_Rt pm_P 100) (2392, lv, [], h', 599897, 7298671) RQ1) : Ends (pm_tr (lb_all L xs)) (pm_Rt pm_P 100) (33, lv, [.int (nI 78)], h, 599897, 7298671) RQ1 := E_tsw rfl (by decide +kernel) (by decide +kernel) (bl_78 hL hi lv I L0 L1 L2 L3 K)
set_option maxRecDepth 20000 in
theorem sw_79 {L : Nat} {xs : Nat → Int32} (hL : L ≤ 3072) {h : pm_H} {i : Nat} (hi : i + 6 ≤ L) (lv : List (Nat × Value)) (I : IVQ h) (L0 : pm_get lv 0 = some (.retAddr 0)) (L1 : pm_get lv 1 = some (.ref 0)) (L2 : pm_get lv 2 = some (.ref 77)) (L3 : pm_get lv 3 = some (.int (nJ i))) (K : ∀ h', IVQ h' → Ends (pm_tr (lb_all L xs)) (pm_Rt pm_P 100) (2392, lv, [], h', 599897, 7298671) RQ1) : Ends (pm_tr (lb_all L xs)) (pm_Rt pm_P 100) (33, lv, [.int (nI 79)], h, 599897, 7298671) RQ1 := E_tsw rfl (by decide +kernel) (by decide +kernel) (bl_79 hL hi lv I L0 L1 L2 L3 K)
set_option maxRecDepth 20000 in
theorem sw_80 {L : Nat} {xs : Nat → Int32} (hL : L ≤ 3072) {h : pm_H} {i : Nat} (hi : i + 6 ≤ L) (lv : List (Nat × Value)) (I : IVQ h) (L0 : pm_get lv 0 = some (.retAddr 0)) (L1 : pm_get lv 1 = some (.ref 0)) (L2 : pm_get lv 2 = some (.ref 77)) (L3 : pm_get lv 3 = some (.int (nJ i))) (K : ∀ h', IVQ h' → Ends (pm_tr (lb_all L xs)) (pm_Rt pm_P 100) (2392, lv, [], h', 599897, 7298671) RQ1) : Ends (pm_tr (lb_all L xs)) (pm_Rt pm_P 100) (33, lv, [.int (nI 80)], h, 599897, 7298671) RQ1 := E_tsw rfl (by decide +kernel) (by decide +kernel) (bl_80 hL hi lv I L0 L1 L2 L3 K)
set_option maxRecDepth 20000 in
theorem sw_81 {L : Nat} {xs : Nat → Int32} (hL : L ≤ 3072) {h : pm_H} {i : Nat} (hi : i + 6 ≤ L) (lv : List (Nat × Value)) (I : IVQ h) (L0 : pm_get lv 0 = some (.retAddr 0)) (L1 : pm_get lv 1 = some (.ref 0)) (L2 : pm_get lv 2 = some (.ref 77)) (L3 : pm_get lv 3 = some (.int (nJ i))) (K : ∀ h', IVQ h' → Ends (pm_tr (lb_all L xs)) (pm_Rt pm_P 100) (2392, lv, [], h', 599897, 7298671) RQ1) : Ends (pm_tr (lb_all L xs)) (pm_Rt pm_P 100) (33, lv, [.int (nI 81)], h, 599897, 7298671) RQ1 := E_tsw rfl (by decide +kernel) (by decide +kernel) (bl_81 hL hi lv I L0 L1 L2 L3 K)
set_option maxRecDepth 20000 in
theorem sw_all {L : Nat} {xs : Nat → Int32} (hL : L ≤ 3072) {h : pm_H} {i : Nat} (hi : i + 6 ≤ L) (lv : List (Nat × Value)) (I : IVQ h) (L0 : pm_get lv 0 = some (.retAddr 0)) (L1 : pm_get lv 1 = some (.ref 0)) (L2 : pm_get lv 2 = some (.ref 77)) (L3 : pm_get lv 3 = some (.int (nJ i))) (K : ∀ h', IVQ h' → Ends (pm_tr (lb_all L xs)) (pm_Rt pm_P 100) (2392, lv, [], h', 599897, 7298671) RQ1) (j : Nat) (hj : j < 128) : Ends (pm_tr (lb_all L xs)) (pm_Rt pm_P 100) (33, lv, [.int (nI j)], h, 599897, 7298671) RQ1 := by
  match j, hj with
  | 0, _ => exact sw_0 hL hi lv I L0 L1 L2 L3 K
  | 1, _ => exact sw_1 hL hi lv I L0 L1 L2 L3 K
  | 2, _ => exact sw_2 hL hi lv I L0 L1 L2 L3 K
  | 3, _ => exact sw_3 hL hi lv I L0 L1 L2 L3 K
  | 4, _ => exact sw_4 hL hi lv I L0 L1 L2 L3 K
  | 5, _ => exact sw_5 hL hi lv I L0 L1 L2 L3 K
  | 6, _ => exact sw_6 hL hi lv I L0 L1 L2 L3 K
  | 7, _ => exact sw_7 hL hi lv I L0 L1 L2 L3 K
  | 8, _ => exact sw_8 hL hi lv I L0 L1 L2 L3 K
  | 9, _ => exact sw_9 hL hi lv I L0 L1 L2 L3 K
  | 10, _ => exact sw_10 hL hi lv I L0 L1 L2 L3 K
  | 11, _ => exact sw_11 hL hi lv I L0 L1 L2 L3 K
  | 12, _ => exact sw_12 hL hi lv I L0 L1 L2 L3 K
  | 13, _ => exact sw_13 hL hi lv I L0 L1 L2 L3 K
  | 14, _ => exact sw_14 hL hi lv I L0 L1 L2 L3 K
  | 15, _ => exact sw_15 hL hi lv I L0 L1 L2 L3 K
  | 16, _ => exact sw_16 hL hi lv I L0 L1 L2 L3 K
  | 17, _ => exact sw_17 hL hi lv I L0 L1 L2 L3 K
  | 18, _ => exact sw_18 hL hi lv I L0 L1 L2 L3 K
  | 19, _ => exact sw_19 hL hi lv I L0 L1 L2 L3 K
  | 20, _ => exact sw_20 hL hi lv I L0 L1 L2 L3 K
  | 21, _ => exact sw_21 hL hi lv I L0 L1 L2 L3 K
  | 22, _ => exact sw_22 hL hi lv I L0 L1 L2 L3 K
  | 23, _ => exact sw_23 hL hi lv I L0 L1 L2 L3 K
  | 24, _ => exact sw_24 hL hi lv I L0 L1 L2 L3 K
  | 25, _ => exact sw_25 hL hi lv I L0 L1 L2 L3 K
  | 26, _ => exact sw_26 hL hi lv I L0 L1 L2 L3 K
  | 27, _ => exact sw_27 hL hi lv I L0 L1 L2 L3 K
  | 28, _ => exact sw_28 hL hi lv I L0 L1 L2 L3 K
  | 29, _ => exact sw_29 hL hi lv I L0 L1 L2 L3 K
  | 30, _ => exact sw_30 hL hi lv I L0 L1 L2 L3 K
  | 31, _ => exact sw_31 hL hi lv I L0 L1 L2 L3 K
  | 32, _ => exact sw_32 hL hi lv I L0 L1 L2 L3 K
  | 33, _ => exact sw_33 hL hi lv I L0 L1 L2 L3 K
  | 34, _ => exact sw_34 hL hi lv I L0 L1 L2 L3 K
  | 35, _ => exact sw_35 hL hi lv I L0 L1 L2 L3 K
  | 36, _ => exact sw_36 hL hi lv I L0 L1 L2 L3 K
  | 37, _ => exact sw_37 hL hi lv I L0 L1 L2 L3 K
  | 38, _ => exact sw_38 hL hi lv I L0 L1 L2 L3 K
  | 39, _ => exact sw_39 hL hi lv I L0 L1 L2 L3 K
  | 40, _ => exact sw_40 hL hi lv I L0 L1 L2 L3 K
  | 41, _ => exact sw_41 hL hi lv I L0 L1 L2 L3 K
  | 42, _ => exact sw_42 hL hi lv I L0 L1 L2 L3 K
  | 43, _ => exact sw_43 hL hi lv I L0 L1 L2 L3 K
  | 44, _ => exact sw_44 hL hi lv I L0 L1 L2 L3 K
  | 45, _ => exact sw_45 hL hi lv I L0 L1 L2 L3 K
  | 46, _ => exact sw_46 hL hi lv I L0 L1 L2 L3 K
  | 47, _ => exact sw_47 hL hi lv I L0 L1 L2 L3 K
  | 48, _ => exact sw_48 hL hi lv I L0 L1 L2 L3 K
  | 49, _ => exact sw_49 hL hi lv I L0 L1 L2 L3 K
  | 50, _ => exact sw_50 hL hi lv I L0 L1 L2 L3 K
  | 51, _ => exact sw_51 hL hi lv I L0 L1 L2 L3 K
  | 52, _ => exact sw_52 hL hi lv I L0 L1 L2 L3 K
  | 53, _ => exact sw_53 hL hi lv I L0 L1 L2 L3 K
  | 54, _ => exact sw_54 hL hi lv I L0 L1 L2 L3 K
  | 55, _ => exact sw_55 hL hi lv I L0 L1 L2 L3 K
  | 56, _ => exact sw_56 hL hi lv I L0 L1 L2 L3 K
  | 57, _ => exact sw_57 hL hi lv I L0 L1 L2 L3 K
  | 58, _ => exact sw_58 hL hi lv I L0 L1 L2 L3 K
  | 59, _ => exact sw_59 hL hi lv I L0 L1 L2 L3 K
  | 60, _ => exact sw_60 hL hi lv I L0 L1 L2 L3 K
  | 61, _ => exact sw_61 hL hi lv I L0 L1 L2 L3 K
  | 62, _ => exact sw_62 hL hi lv I L0 L1 L2 L3 K
  | 63, _ => exact sw_63 hL hi lv I L0 L1 L2 L3 K
  | 64, _ => exact sw_64 hL hi lv I L0 L1 L2 L3 K
  | 65, _ => exact sw_65 hL hi lv I L0 L1 L2 L3 K
  | 66, _ => exact sw_66 hL hi lv I L0 L1 L2 L3 K
  | 67, _ => exact sw_67 hL hi lv I L0 L1 L2 L3 K
  | 68, _ => exact sw_68 hL hi lv I L0 L1 L2 L3 K
  | 69, _ => exact sw_69 hL hi lv I L0 L1 L2 L3 K
  | 70, _ => exact sw_70 hL hi lv I L0 L1 L2 L3 K
  | 71, _ => exact sw_71 hL hi lv I L0 L1 L2 L3 K
  | 72, _ => exact sw_72 hL hi lv I L0 L1 L2 L3 K
  | 73, _ => exact sw_73 hL hi lv I L0 L1 L2 L3 K
  | 74, _ => exact sw_74 hL hi lv I L0 L1 L2 L3 K
  | 75, _ => exact sw_75 hL hi lv I L0 L1 L2 L3 K
  | 76, _ => exact sw_76 hL hi lv I L0 L1 L2 L3 K
  | 77, _ => exact sw_77 hL hi lv I L0 L1 L2 L3 K
  | 78, _ => exact sw_78 hL hi lv I L0 L1 L2 L3 K
  | 79, _ => exact sw_79 hL hi lv I L0 L1 L2 L3 K
  | 80, _ => exact sw_80 hL hi lv I L0 L1 L2 L3 K
  | 81, _ => exact sw_81 hL hi lv I L0 L1 L2 L3 K
  | j + 82, hj => exact E_tswD rfl (by rw [show ((nI (j + 82)).toInt) = ((j + 82 : Nat) : Int) from nI_toInt (by omega), Bool.or_eq_true]; exact .inr (decide_eq_true (by omega))) (K h I)
end
