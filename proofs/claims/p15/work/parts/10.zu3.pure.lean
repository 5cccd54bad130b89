/-! the law on every script: a pure run (written by gen_t22.py) -/
set_option maxRecDepth 20000 in
theorem sw_0 {L : Nat} {xs : Nat → Int32} (hL : L ≤ 3072) {h : pm_H} {i : Nat} (hi : i + 6 ≤ L) (lv : List (Nat × Value)) (I : IVQ h) (L0 : pm_get lv 0 = some (.retAddr 0)) (L1 : pm_get lv 1 = some (.ref 0)) (L2 : pm_get lv 2 = some (.ref 77)) (L3 : pm_get lv 3 = some (.int (nJ i))) (K : ∀ h', IVQ h' → Ends (pm_tr (lb_all L xs)) (pm_Rt pm_P 100) (2392, lv, [], h', 599897, 7298671) RQ1) : Ends (pm_tr (lb_all L xs)) (pm_Rt pm_P 100) (33, lv, [.int (nI 0)], h, 599897, 7298671) RQ1 := E_tsw rfl (by decide +kernel) (by decide +kernel) (bl_0 hL hi lv I L0 L1 L2 L3 K)
set_option maxRecDepth 20000 in
theorem sw_1 {L : Nat} {xs : Nat → Int32} (hL : L ≤ 3072) {h : pm_H} {i : Nat} (hi : i + 6 ≤ L) (lv : List (Nat × Value)) (I : IVQ h) (L0 : pm_get lv 0 = some (.retAddr 0)) (L1 : pm_get lv 1 = some (.ref 0)) (L2 : pm_get lv 2 = some (.ref 77)) (L3 : pm_get lv 3 = some (.int (nJ i))) (K : ∀ h', IVQ h' → Ends (pm_tr (lb_all L xs)) (pm_Rt pm_P 100) (2392, lv, [], h', 599897, 7298671) RQ1) : Ends (pm_tr (lb_all L xs)) (pm_Rt pm_P 100) (33, lv, [.int (nI 1)], h, 599897, 7298671) RQ1 := E_tsw rfl (by decide +kernel) (by decide +kernel) (bl_1 hL hi lv I L0 L1 L2 L3 K)
set_option maxRecDepth 20000 in
theorem sw_2 {L : Nat} {xs : Nat → Int32} (hL : L ≤ 3072) {h : pm_H} {i : Nat} (hi : i + 6 ≤ L) (lv : List (Nat × Value)) (I : IVQ h) (L0 : pm_get lv 0 = some (.retAddr 0)) (L1 : pm_get lv 1 = some (.ref 0)) (L2 : pm_get lv 2 = some (.ref 77)) (L3 : pm_get lv 3 = some (.int (nJ i))) (K : ∀ h', IVQ h' → Ends (pm_tr (lb_all L xs)) (pm_Rt pm_P 100) (2392, lv, [], h', 599897, 7298671) RQ1) : Ends (pm_tr (lb_all L xs)) (pm_Rt pm_P 100) (33, lv, [.int (nI 2)], h, 599897, 7298671) RQ1 := E_tsw rfl (by decide +kernel) (by decide +kernel) (bl_2 hL hi lv I L0 L1 L2 L3 K)
set_option maxRecDepth 20000 in
theorem sw_3 {L : Nat} {xs : Nat → Int32} (hL : L ≤ 3072) {h : pm_H} {i : Nat} (hi : i + 6 ≤ L) (lv : List (Nat × Value)) (I : IVQ h) (L0 : pm_get lv 0 = some (.retAddr 0)) (L1 : pm_get lv 1 = some (.ref 0)) (L2 : pm_get lv 2 = some (.ref 77)) (L3 : pm_get lv 3 = some (.int (nJ i))) (K : ∀ h', IVQ h' → Ends (pm_tr (lb_all L xs)) (pm_Rt pm_P 100) (2392, lv, [], h', 599897, 7298671) RQ1) : Ends (pm_tr (lb_all L xs)) (pm_Rt pm_P 100) (33, lv, [.int (nI 3)], h, 599897, 7298671) RQ1 := E_tsw rfl (by decide +kernel) (by decide +kernel) (bl_3 hL hi lv I L0 L1 L2 L3 K)
set_option maxRecDepth 20000 in
theorem sw_4 {L : Nat} {xs : Nat → Int32} (hL : L ≤ 3072) {h : pm_H} {i : Nat} (hi : i + 6 ≤ L) (lv : List (Nat × Value)) (I : IVQ h) (L0 : pm_get lv 0 = some (.retAddr 0)) (L1 : pm_get lv 1 = some (.ref 0)) (L2 : pm_get lv 2 = some (.ref 77)) (L3 : pm_get lv 3 = some (.int (nJ i))) (K : ∀ h', IVQ h' → Ends (pm_tr (lb_all L xs)) (pm_Rt pm_P 100) (2392, lv, [], h', 599897, 7298671) RQ1) : Ends (pm_tr (lb_all L xs)) (pm_Rt pm_P 100) (33, lv, [.int (nI 4)], h, 599897, 7298671) RQ1 := E_tsw rfl (by decide +kernel) (by decide +kernel) (bl_4 hL hi lv I L0 L1 L2 L3 K)
set_option maxRecDepth 20000 in
theorem sw_5 {L : Nat} {xs : Nat → Int32} (hL : L ≤ 3072) {h : pm_H} {i : Nat} (hi : i + 6 ≤ L) (lv : List (Nat × Value)) (I : IVQ h) (L0 : pm_get lv 0 = some (.retAddr 0)) (L1 : pm_get lv 1 = some (.ref 0)) (L2 : pm_get lv 2 = some (.ref 77)) (L3 : pm_get lv 3 = some (.int (nJ i))) (K : ∀ h', IVQ h' → Ends (pm_tr (lb_all L xs)) (pm_Rt pm_P 100) (2392, lv, [], h', 599897, 7298671) RQ1) : Ends (pm_tr (lb_all L xs)) (pm_Rt pm_P 100) (33, lv, [.int (nI 5)], h, 599897, 7298671) RQ1 := E_tsw rfl (by decide +kernel) (by decide +kernel) (bl_5 hL hi lv I L0 L1 L2 L3 K)
set_option maxRecDepth 20000 in
theorem sw_6 {L : Nat} {xs : Nat → Int32} (hL : L ≤ 3072) {h : pm_H} {i : Nat} (hi : i + 6 ≤ L) (lv : List (Nat × Value)) (I : IVQ h) (L0 : pm_get lv 0 = some (.retAddr 0)) (L1 : pm_get lv 1 = some (.ref 0)) (L2 : pm_get lv 2 = some (.ref 77)) (L3 : pm_get lv 3 = some (.int (nJ i))) (K : ∀ h', IVQ h' → Ends (pm_tr (lb_all L xs)) (pm_Rt pm_P 100) (2392, lv, [], h', 599897, 7298671) RQ1) : Ends (pm_tr (lb_all L xs)) (pm_Rt pm_P 100) (33, lv, [.int (nI 6)], h, 599897, 7298671) RQ1 := E_tsw rfl (by decide +kernel) (by decide +kernel) (bl_6 hL hi lv I L0 L1 L2 L3 K)
set_option maxRecDepth 20000 in
theorem sw_7 {L : Nat} {xs : Nat → Int32} (hL : L ≤ 3072) {h : pm_H} {i : Nat} (hi : i + 6 ≤ L) (lv : List (Nat × Value)) (I : IVQ h) (L0 : pm_get lv 0 = some (.retAddr 0)) (L1 : pm_get lv 1 = some (.ref 0)) (L2 : pm_get lv 2 = some (.ref 77)) (L3 : pm_get lv 3 = some (.int (nJ i))) (K : ∀ h', IVQ h' → Ends (pm_tr (lb_all L xs)) (pm_Rt pm_P 100) (2392, lv, [], h', 599897, 7298671) RQ1) : Ends (pm_tr (lb_all L xs)) (pm_Rt pm_P 100) (33, lv, [.int (nI 7)], h, 599897, 7298671) RQ1 := E_tsw rfl (by decide +kernel) (by decide +kernel) (bl_7 hL hi lv I L0 L1 L2 L3 K)
set_option maxRecDepth 20000 in
theorem sw_8 {L : Nat} {xs : Nat → Int32} (hL : L ≤ 3072) {h : pm_H} {i : Nat} (hi : i + 6 ≤ L) (lv : List (Nat × Value)) (I : IVQ h) (L0 : pm_get lv 0 = some (.retAddr 0)) (L1 : pm_get lv 1 = some (.ref 0)) (L2 : pm_get lv 2 = some (.ref 77)) (L3 : pm_get lv 3 = some (.int (nJ i))) (K : ∀ h', IVQ h' → Ends (pm_tr (lb_all L xs)) (pm_Rt pm_P 100) (2392, lv, [], h', 599897, 7298671) RQ1) : Ends (pm_tr (lb_all L xs)) (pm_Rt pm_P 100) (33, lv, [.int (nI 8)], h, 599897, 7298671) RQ1 := E_tsw rfl (by decide +kernel) (by decide +kernel) (bl_8 hL hi lv I L0 L1 L2 L3 K)
set_option maxRecDepth 20000 in
theorem sw_9 {L : Nat} {xs : Nat → Int32} (hL : L ≤ 3072) {h : pm_H} {i : Nat} (hi : i + 6 ≤ L) (lv : List (Nat × Value)) (I : IVQ h) (L0 : pm_get lv 0 = some (.retAddr 0)) (L1 : pm_get lv 1 = some (.ref 0)) (L2 : pm_get lv 2 = some (.ref 77)) (L3 : pm_get lv 3 = some (.int (nJ i))) (K : ∀ h', IVQ h' → Ends (pm_tr (lb_all L xs)) (pm_Rt pm_P 100) (2392, lv, [], h', 599897, 7298671) RQ1) : Ends (pm_tr (lb_all L xs)) (pm_Rt pm_P 100) (33, lv, [.int (nI 9)], h, 599897, 7298671) RQ1 := E_tsw rfl (by decide +kernel) (by decide +kernel) (bl_9 hL hi lv I L0 L1 L2 L3 K)
set_option maxRecDepth 20000 in
theorem sw_10 {L : Nat} {xs : Nat → Int32} (hL : L ≤ 3072) {h : pm_H} {i : Nat} (hi : i + 6 ≤ L) (lv : List (Nat × Value)) (I : IVQ h) (L0 : pm_get lv 0 = some (.retAddr 0)) (L1 : pm_get lv 1 = some (.ref 0)) (L2 : pm_get lv 2 = some (.ref 77)) (L3 : pm_get lv 3 = some (.int (nJ i))) (K : ∀ h', IVQ h' → Ends (pm_tr (lb_all L xs)) (pm_Rt pm_P 100) (2392, lv, [], h', 599897, 7298671) RQ1) : Ends (pm_tr (lb_all L xs)) (pm_Rt pm_P 100) (33, lv, [.int (nI 10)], h, 599897, 7298671) RQ1 := E_tsw rfl (by decide +kernel) (by decide +kernel) (bl_10 hL hi lv I L0 L1 L2 L3 K)
set_option maxRecDepth 20000 in
theorem sw_11 {L : Nat} {xs : Nat → Int32} (hL : L ≤ 3072) {h : pm_H} {i : Nat} (hi : i + 6 ≤ L) (lv : List (Nat × Value)) (I : IVQ h) (L0 : pm_get lv 0 = some (.retAddr 0)) (L1 : pm_get lv 1 = some (.ref 0)) (L2 : pm_get lv 2 = some (.ref 77)) (L3 : pm_get lv 3 = some (.int (nJ i))) (K : ∀ h', IVQ h' → Ends (pm_tr (lb_all L xs)) (pm_Rt pm_P 100) (2392, lv, [], h', 599897, 7298671) RQ1) : Ends (pm_tr (lb_all L xs)) (pm_Rt pm_P 100) (33, lv, [.int (nI 11)], h, 599897, 7298671) RQ1 := E_tsw rfl (by decide +kernel) (by decide +kernel) (bl_11 hL hi lv I L0 L1 L2 L3 K)
set_option maxRecDepth 20000 in
theorem sw_12 {L : Nat} {xs : Nat → Int32} (hL : L ≤ 3072) {h : pm_H} {i : Nat} (hi : i + 6 ≤ L) (lv : List (Nat × Value)) (I : IVQ h) (L0 : pm_get lv 0 = some (.retAddr 0)) (L1 : pm_get lv 1 = some (.ref 0)) (L2 : pm_get lv 2 = some (.ref 77)) (L3 : pm_get lv 3 = some (.int (nJ i))) (K : ∀ h', IVQ h' → Ends (pm_tr (lb_all L xs)) (pm_Rt pm_P 100) (2392, lv, [], h', 599897, 7298671) RQ1) : Ends (pm_tr (lb_all L xs)) (pm_Rt pm_P 100) (33, lv, [.int (nI 12)], h, 599897, 7298671) RQ1 := E_tsw rfl (by decide +kernel) (by decide +kernel) (bl_12 hL hi lv I L0 L1 L2 L3 K)
set_option maxRecDepth 20000 in
theorem sw_13 {L : Nat} {xs : Nat → Int32} (hL : L ≤ 3072) {h : pm_H} {i : Nat} (hi : i + 6 ≤ L) (lv : List (Nat × Value)) (I : IVQ h) (L0 : pm_get lv 0 = some (.retAddr 0)) (L1 : pm_get lv 1 = some (.ref 0)) (L2 : pm_get lv 2 = some (.ref 77)) (L3 : pm_get lv 3 = some (.int (nJ i))) (K : ∀ h', IVQ h' → Ends (pm_tr (lb_all L xs)) (pm_Rt pm_P 100) (2392, lv, [], h', 599897, 7298671) RQ1) : Ends (pm_tr (lb_all L xs)) (pm_Rt pm_P 100) (33, lv, [.int (nI 13)], h, 599897, 7298671) RQ1 := E_tsw rfl (by decide +kernel) (by decide +kernel) (bl_13 hL hi lv I L0 L1 L2 L3 K)
set_option maxRecDepth 20000 in
theorem sw_14 {L : Nat} {xs : Nat → Int32} (hL : L ≤ 3072) {h : pm_H} {i : Nat} (hi : i + 6 ≤ L) (lv : List (Nat × Value)) (I : IVQ h) (L0 : pm_get lv 0 = some (.retAddr 0)) (L1 : pm_get lv 1 = some (.ref 0)) (L2 : pm_get lv 2 = some (.ref 77)) (L3 : pm_get lv 3 = some (.int (nJ i))) (K : ∀ h', IVQ h' → Ends (pm_tr (lb_all L xs)) (pm_Rt pm_P 100) (2392, lv, [], h', 599897, 7298671) RQ1) : Ends (pm_tr (lb_all L xs)) (pm_Rt pm_P 100) (33, lv, [.int (nI 14)], h, 599897, 7298671) RQ1 := E_tsw rfl (by decide +kernel) (by decide +kernel) (bl_14 hL hi lv I L0 L1 L2 L3 K)
set_option maxRecDepth 20000 in
theorem sw_15 {L : Nat} {xs : Nat → Int32} (hL : L ≤ 3072) {h : pm_H} {i : Nat} (hi : i + 6 ≤ L) (lv : List (Nat × Value)) (I : IVQ h) (L0 : pm_get lv 0 = some (.retAddr 0)) (L1 : pm_get lv 1 = some (.ref 0)) (L2 : pm_get lv 2 = some (.ref 77)) (L3 : pm_get lv 3 = some (.int (nJ i))) (K : ∀ h', IVQ h' → Ends (pm_tr (lb_all L xs)) (pm_Rt pm_P 100) (2392, lv, [], h', 599897, 7298671) RQ1) : Ends (pm_tr (lb_all L xs)) (pm_Rt pm_P 100) (33, lv, [.int (nI 15)], h, 599897, 7298671) RQ1 := E_tsw rfl (by decide +kernel) (by decide +kernel) (bl_15 hL hi lv I L0 L1 L2 L3 K)
set_option maxRecDepth 20000 in
theorem sw_16 {L : Nat} {xs : Nat → Int32} (hL : L ≤ 3072) {h : pm_H} {i : Nat} (hi : i + 6 ≤ L) (lv : List (Nat × Value)) (I : IVQ h) (L0 : pm_get lv 0 = some (.retAddr 0)) (L1 : pm_get lv 1 = some (.ref 0)) (L2 : pm_get lv 2 = some (.ref 77)) (L3 : pm_get lv 3 = some (.int (nJ i))) (K : ∀ h', IVQ h' → Ends (pm_tr (lb_all L xs)) (pm_Rt pm_P 100) (2392, lv, [], h', 599897, 7298671) RQ1) : Ends (pm_tr (lb_all L xs)) (pm_Rt pm_P 100) (33, lv, [.int (nI 16)], h, 599897, 7298671) RQ1 := E_tsw rfl (by decide +kernel) (by decide +kernel) (bl_16 hL hi lv I L0 L1 L2 L3 K)
set_option maxRecDepth 20000 in
theorem sw_17 {L : Nat} {xs : Nat → Int32} (hL : L ≤ 3072) {h : pm_H} {i : Nat} (hi : i + 6 ≤ L) (lv : List (Nat × Value)) (I : IVQ h) (L0 : pm_get lv 0 = some (.retAddr 0)) (L1 : pm_get lv 1 = some (.ref 0)) (L2 : pm_get lv 2 = some (.ref 77)) (L3 : pm_get lv 3 = some (.int (nJ i))) (K : ∀ h', IVQ h' → Ends (pm_tr (lb_all L xs)) (pm_Rt pm_P 100) (2392, lv, [], h', 599897, 7298671) RQ1) : Ends (pm_tr (lb_all L xs)) (pm_Rt pm_P 100) (33, lv, [.int (nI 17)], h, 599897, 7298671) RQ1 := E_tsw rfl (by decide +kernel) (by decide +kernel) (bl_17 hL hi lv I L0 L1 L2 L3 K)
set_option maxRecDepth 20000 in
theorem sw_18 {L : Nat} {xs : Nat → Int32} (hL : L ≤ 3072) {h : pm_H} {i : Nat} (hi : i + 6 ≤ L) (lv : List (Nat × Value)) (I : IVQ h) (L0 : pm_get lv 0 = some (.retAddr 0)) (L1 : pm_get lv 1 = some (.ref 0)) (L2 : pm_get lv 2 = some (.ref 77)) (L3 : pm_get lv 3 = some (.int (nJ i))) (K : ∀ h', IVQ h' → Ends (pm_tr (lb_all L xs)) (pm_Rt pm_P 100) (2392, lv, [], h', 599897, 7298671) RQ1) : Ends (pm_tr (lb_all L xs)) (pm_Rt pm_P 100) (33, lv, [.int (nI 18)], h, 599897, 7298671) RQ1 := E_tsw rfl (by decide +kernel) (by decide +kernel) (bl_18 hL hi lv I L0 L1 L2 L3 K)
set_option maxRecDepth 20000 in
theorem sw_19 {L : Nat} {xs : Nat → Int32} (hL : L ≤ 3072) {h : pm_H} {i : Nat} (hi : i + 6 ≤ L) (lv : List (Nat × Value)) (I : IVQ h) (L0 : pm_get lv 0 = some (.retAddr 0)) (L1 : pm_get lv 1 = some (.ref 0)) (L2 : pm_get lv 2 = some (.ref 77)) (L3 : pm_get lv 3 = some (.int (nJ i))) (K : ∀ h', IVQ h' → Ends (pm_tr (lb_all L xs)) (pm_Rt pm_P 100) (2392, lv, [], h', 599897, 7298671) RQ1) : Ends (pm_tr (lb_all L xs)) (pm_Rt pm_P 100) (33, lv, [.int (nI 19)], h, 599897, 7298671) RQ1 := E_tsw rfl (by decide +kernel) (by decide +kernel) (bl_19 hL hi lv I L0 L1 L2 L3 K)
set_option maxRecDepth 20000 in
theorem sw_20 {L : Nat} {xs : Nat → Int32} (hL : L ≤ 3072) {h : pm_H} {i : Nat} (hi : i + 6 ≤ L) (lv : List (Nat × Value)) (I : IVQ h) (L0 : pm_get lv 0 = some (.retAddr 0)) (L1 : pm_get lv 1 = some (.ref 0)) (L2 : pm_get lv 2 = some (.ref 77)) (L3 : pm_get lv 3 = some (.int (nJ i))) (K : ∀ h', IVQ h' → Ends (pm_tr (lb_all L xs)) (pm_Rt pm_P 100) (2392, lv, [], h', 599897, 7298671) RQ1) : Ends (pm_tr (lb_all L xs)) (pm_Rt pm_P 100) (33, lv, [.int (nI 20)], h, 599897, 7298671) RQ1 := E_tsw rfl (by decide +kernel) (by decide +kernel) (bl_20 hL hi lv I L0 L1 L2 L3 K)
set_option maxRecDepth 20000 in
theorem sw_21 {L : Nat} {xs : Nat → Int32} (hL : L ≤ 3072) {h : pm_H} {i : Nat} (hi : i + 6 ≤ L) (lv : List (Nat × Value)) (I : IVQ h) (L0 : pm_get lv 0 = some (.retAddr 0)) (L1 : pm_get lv 1 = some (.ref 0)) (L2 : pm_get lv 2 = some (.ref 77)) (L3 : pm_get lv 3 = some (.int (nJ i))) (K : ∀ h', IVQ h' → Ends (pm_tr (lb_all L xs)) (pm_Rt pm_P 100) (2392, lv, [], h', 599897, 7298671) RQ1) : Ends (pm_tr (lb_all L xs)) (pm_Rt pm_P 100) (33, lv, [.int (nI 21)], h, 599897, 7298671) RQ1 := E_tsw rfl (by decide +kernel) (by decide +kernel) (bl_21 hL hi lv I L0 L1 L2 L3 K)
set_option maxRecDepth 20000 in
theorem sw_22 {L : Nat} {xs : Nat → Int32} (hL : L ≤ 3072) {h : pm_H} {i : Nat} (hi : i + 6 ≤ L) (lv : List (Nat × Value)) (I : IVQ h) (L0 : pm_get lv 0 = some (.retAddr 0)) (L1 : pm_get lv 1 = some (.ref 0)) (L2 : pm_get lv 2 = some (.ref 77)) (L3 : pm_get lv 3 = some (.int (nJ i))) (K : ∀ h', IVQ h' → Ends (pm_tr (lb_all L xs)) (pm_Rt pm_P 100) (2392, lv, [], h', 599897, 7298671) RQ1) : Ends (pm_tr (lb_all L xs)) (pm_Rt pm_P 100) (33, lv, [.int (nI 22)], h, 599897, 7298671) RQ1 := E_tsw rfl (by decide +kernel) (by decide +kernel) (bl_22 hL hi lv I L0 L1 L2 L3 K)
set_option maxRecDepth 20000 in
theorem sw_23 {L : Nat} {xs : Nat → Int32} (hL : L ≤ 3072) {h : pm_H} {i : Nat} (hi : i + 6 ≤ L) (lv : List (Nat × Value)) (I : IVQ h) (L0 : pm_get lv 0 = some (.retAddr 0)) (L1 : pm_get lv 1 = some (.ref 0)) (L2 : pm_get lv 2 = some (.ref 77)) (L3 : pm_get lv 3 = some (.int (nJ i))) (K : ∀ h', IVQ h' → Ends (pm_tr (lb_all L xs)) (pm_Rt pm_P 100) (2392, lv, [], h', 599897, 7298671) RQ1) : Ends (pm_tr (lb_all L xs)) (pm_Rt pm_P 100) (33, lv, [.int (nI 23)], h, 599897, 7298671) RQ1 := E_tsw rfl (by decide +kernel) (by decide +kernel) (bl_23 hL hi lv I L0 L1 L2 L3 K)
set_option maxRecDepth 20000 in
theorem sw_24 {L : Nat} {xs : Nat → Int32} (hL : L ≤ 3072) {h : pm_H} {i : Nat} (hi : i + 6 ≤ L) (lv : List (Nat × Value)) (I : IVQ h) (L0 : pm_get lv 0 = some (.retAddr 0)) (L1 : pm_get lv 1 = some (.ref 0)) (L2 : pm_get lv 2 = some (.ref 77)) (L3 : pm_get lv 3 = some (.int (nJ i))) (K : ∀ h', IVQ h' → Ends (pm_tr (lb_all L xs)) (pm_Rt pm_P 100) (2392, lv, [], h', 599897, 7298671) RQ1) : Ends (pm_tr (lb_all L xs)) (pm_Rt pm_P 100) (33, lv, [.int (nI 24)], h, 599897, 7298671) RQ1 := E_tsw rfl (by decide +kernel) (by decide +kernel) (bl_24 hL hi lv I L0 L1 L2 L3 K)
set_option maxRecDepth 20000 in
theorem sw_25 {L : Nat} {xs : Nat → Int32} (hL : L ≤ 3072) {h : pm_H} {i : Nat} (hi : i + 6 ≤ L) (lv : List (Nat × Value)) (I : IVQ h) (L0 : pm_get lv 0 = some (.retAddr 0)) (L1 : pm_get lv 1 = some (.ref 0)) (L2 : pm_get lv 2 = some (.ref 77)) (L3 : pm_get lv 3 = some (.int (nJ i))) (K : ∀ h', IVQ h' → Ends (pm_tr (lb_all L xs)) (pm_Rt pm_P 100) (2392, lv, [], h', 599897, 7298671) RQ1) : Ends (pm_tr (lb_all L xs)) (pm_Rt pm_P 100) (33, lv, [.int (nI 25)], h, 599897, 7298671) RQ1 := E_tsw rfl (by decide +kernel) (by decide +kernel) (bl_25 hL hi lv I L0 L1 L2 L3 K)
set_option maxRecDepth 20000 in
theorem sw_26 {L : Nat} {xs : Nat → Int32} (hL : L ≤ 3072) {h : pm_H} {i : Nat} (hi : i + 6 ≤ L) (lv : List (Nat × Value)) (I : IVQ h) (L0 : pm_get lv 0 = some (.retAddr 0)) (L1 : pm_get lv 1 = some (.ref 0)) (L2 : pm_get lv 2 = some (.ref 77)) (L3 : pm_get lv 3 = some (.int (nJ i))) (K : ∀ h', IVQ h' → Ends (pm_tr (lb_all L xs)) (pm_Rt pm_P 100) (2392, lv, [], h', 599897, 7298671) RQ1) : Ends (pm_tr (lb_all L xs)) (pm_Rt pm_P 100) (33, lv, [.int (nI 26)], h, 599897, 7298671) RQ1 := E_tsw rfl (by decide +kernel) (by decide +kernel) (bl_26 hL hi lv I L0 L1 L2 L3 K)
set_option maxRecDepth 20000 in
theorem sw_27 {L : Nat} {xs : Nat → Int32} (hL : L ≤ 3072) {h : pm_H} {i : Nat} (hi : i + 6 ≤ L) (lv : List (Nat × Value)) (I : IVQ h) (L0 : pm_get lv 0 = some (.retAddr 0)) (L1 : pm_get lv 1 = some (.ref 0)) (L2 : pm_get lv 2 = some (.ref 77)) (L3 : pm_get lv 3 = some (.int (nJ i))) (K : ∀ h', IVQ h' → Ends (pm_tr (lb_all L xs)) (pm_Rt pm_P 100) (2392, lv, [], h', 599897, 7298671) RQ1) : Ends (pm_tr (lb_all L xs)) (pm_Rt pm_P 100) (33, lv, [.int (nI 27)], h, 599897, 7298671) RQ1 := E_tsw rfl (by decide +kernel) (by decide +kernel) (bl_27 hL hi lv I L0 L1 L2 L3 K)
set_option maxRecDepth 20000 in
theorem sw_28 {L : Nat} {xs : Nat → Int32} (hL : L ≤ 3072) {h : pm_H} {i : Nat} (hi : i + 6 ≤ L) (lv : List (Nat × Value)) (I : IVQ h) (L0 : pm_get lv 0 = some (.retAddr 0)) (L1 : pm_get lv 1 = some (.ref 0)) (L2 : pm_get lv 2 = some (.ref 77)) (L3 : pm_get lv 3 = some (.int (nJ i))) (K : ∀ h', IVQ h' → Ends (pm_tr (lb_all L xs)) (pm_Rt pm_P 100) (2392, lv, [], h', 599897, 7298671) RQ1) : Ends (pm_tr (lb_all L xs)) (pm_Rt pm_P 100) (33, lv, [.int (nI 28)], h, 599897, 7298671) RQ1 := E_tsw rfl (by decide +kernel) (by decide +kernel) (bl_28 hL hi lv I L0 L1 L2 L3 K)
set_option maxRecDepth 20000 in
theorem sw_29 {L : Nat} {xs : Nat → Int32} (hL : L ≤ 3072) {h : pm_H} {i : Nat} (hi : i + 6 ≤ L) (lv : List (Nat × Value)) (I : IVQ h) (L0 : pm_get lv 0 = some (.retAddr 0)) (L1 : pm_get lv 1 = some (.ref 0)) (L2 : pm_get lv 2 = some (.ref 77)) (L3 : pm_get lv 3 = some (.int (nJ i))) (K : ∀ h', IVQ h' → Ends (pm_tr (lb_all L xs)) (pm_Rt pm_P 100) (2392, lv, [], h', 599897, 7298671) RQ1) : Ends (pm_tr (lb_all L xs)) (pm_Rt pm_P 100) (33, lv, [.int (nI 29)], h, 599897, 7298671) RQ1 := E_tsw rfl (by decide +kernel) (by decide +kernel) (bl_29 hL hi lv I L0 L1 L2 L3 K)
set_option maxRecDepth 20000 in
theorem sw_30 {L : Nat} {xs : Nat → Int32} (hL : L ≤ 3072) {h : pm_H} {i : Nat} (hi : i + 6 ≤ L) (lv : List (Nat × Value)) (I : IVQ h) (L0 : pm_get lv 0 = some (.retAddr 0)) (L1 : pm_get lv 1 = some (.ref 0)) (L2 : pm_get lv 2 = some (.ref 77)) (L3 : pm_get lv 3 = some (.int (nJ i))) (K : ∀ h', IVQ h' → Ends (pm_tr (lb_all L xs)) (pm_Rt pm_P 100) (2392, lv, [], h', 599897, 7298671) RQ1) : Ends (pm_tr (lb_all L xs)) (pm_Rt pm_P 100) (33, lv, [.int (nI 30)], h, 599897, 7298671) RQ1 := E_tsw rfl (by decide +kernel) (by decide +kernel) (bl_30 hL hi lv I L0 L1 L2 L3 K)
set_option maxRecDepth 20000 in
theorem sw_31 {L : Nat} {xs : Nat → Int32} (hL : L ≤ 3072) {h : pm_H} {i : Nat} (hi : i + 6 ≤ L) (lv : List (Nat × Value)) (I : IVQ h) (L0 : pm_get lv 0 = some (.retAddr 0)) (L1 : pm_get lv 1 = some (.ref 0)) (L2 : pm_get lv 2 = some (.ref 77)) (L3 : pm_get lv 3 = some (.int (nJ i))) (K : ∀ h', IVQ h' → Ends (pm_tr (lb_all L xs)) (pm_Rt pm_P 100) (2392, lv, [], h', 599897, 7298671) RQ1) : Ends (pm_tr (lb_all L xs)) (pm_Rt pm_P 100) (33, lv, [.int (nI 31)], h, 599897, 7298671) RQ1 := E_tsw rfl (by decide +kernel) (by decide +kernel) (bl_31 hL hi lv I L0 L1 L2 L3 K)
set_option maxRecDepth 20000 in
theorem sw_32 {L : Nat} {xs : Nat → Int32} (hL : L ≤ 3072) {h : pm_H} {i : Nat} (hi : i + 6 ≤ L) (lv : List (Nat × Value)) (I : IVQ h) (L0 : pm_get lv 0 = some (.retAddr 0)) (L1 : pm_get lv 1 = some (.ref 0)) (L2 : pm_get lv 2 = some (.ref 77)) (L3 : pm_get lv 3 = some (.int (nJ i))) (K : ∀ h', IVQ h' → Ends (pm_tr (lb_all L xs)) (pm_Rt pm_P 100) (2392, lv, [], h', 599897, 7298671) RQ1) : Ends (pm_tr (lb_all L xs)) (pm_Rt pm_P 100) (33, lv, [.int (nI 32)], h, 599897, 7298671) RQ1 := E_tsw rfl (by decide +kernel) (by decide +kernel) (bl_32 hL hi lv I L0 L1 L2 L3 K)
set_option maxRecDepth 20000 in
theorem sw_33 {L : Nat} {xs : Nat → Int32} (hL : L ≤ 3072) {h : pm_H} {i : Nat} (hi : i + 6 ≤ L) (lv : List (Nat × Value)) (I : IVQ h) (L0 : pm_get lv 0 = some (.retAddr 0)) (L1 : pm_get lv 1 = some (.ref 0)) (L2 : pm_get lv 2 = some (.ref 77)) (L3 : pm_get lv 3 = some (.int (nJ i))) (K : ∀ h', IVQ h' → Ends (pm_tr (lb_all L xs)) (pm_Rt pm_P 100) (2392, lv, [], h', 599897, 7298671) RQ1) : Ends (pm_tr (lb_all L xs)) (pm_Rt pm_P 100) (33, lv, [.int (nI 33)], h, 599897, 7298671) RQ1 := E_tsw rfl (by decide +kernel) (by decide +kernel) (bl_33 hL hi lv I L0 L1 L2 L3 K)
set_option maxRecDepth 20000 in
theorem sw_34 {L : Nat} {xs : Nat → Int32} (hL : L ≤ 3072) {h : pm_H} {i : Nat} (hi : i + 6 ≤ L) (lv : List (Nat × Value)) (I : IVQ h) (L0 : pm_get lv 0 = some (.retAddr 0)) (L1 : pm_get lv 1 = some (.ref 0)) (L2 : pm_get lv 2 = some (.ref 77)) (L3 : pm_get lv 3 = some (.int (nJ i))) (K : ∀ h', IVQ h' → Ends (pm_tr (lb_all L xs)) (pm_Rt pm_P 100) (2392, lv, [], h', 599897, 7298671) RQ1) : Ends (pm_tr (lb_all L xs)) (pm_Rt pm_P 100) (33, lv, [.int (nI 34)], h, 599897, 7298671) RQ1 := E_tsw rfl (by decide +kernel) (by decide +kernel) (bl_34 hL hi lv I L0 L1 L2 L3 K)
set_option maxRecDepth 20000 in
theorem sw_35 {L : Nat} {xs : Nat → Int32} (hL : L ≤ 3072) {h : pm_H} {i : Nat} (hi : i + 6 ≤ L) (lv : List (Nat × Value)) (I : IVQ h) (L0 : pm_get lv 0 = some (.retAddr 0)) (L1 : pm_get lv 1 = some (.ref 0)) (L2 : pm_get lv 2 = some (.ref 77)) (L3 : pm_get lv 3 = some (.int (nJ i))) (K : ∀ h', IVQ h' → Ends (pm_tr (lb_all L xs)) (pm_Rt pm_P 100) (2392, lv, [], h', 599897, 7298671) RQ1) : Ends (pm_tr (lb_all L xs)) (pm_Rt pm_P 100) (33, lv, [.int (nI 35)], h, 599897, 7298671) RQ1 := E_tsw rfl (by decide +kernel) (by decide +kernel) (bl_35 hL hi lv I L0 L1 L2 L3 K)
set_option maxRecDepth 20000 in
theorem sw_36 {L : Nat} {xs : Nat → Int32} (hL : L ≤ 3072) {h : pm_H} {i : Nat} (hi : i + 6 ≤ L) (lv : List (Nat × Value)) (I : IVQ h) (L0 : pm_get lv 0 = some (.retAddr 0)) (L1 : pm_get lv 1 = some (.ref 0)) (L2 : pm_get lv 2 = some (.ref 77)) (L3 : pm_get lv 3 = some (.int (nJ i))) (K : ∀ h', IVQ h' → Ends (pm_tr (lb_all L xs)) (pm_Rt pm_P 100) (2392, lv, [], h', 599897, 7298671) RQ1) : Ends (pm_tr (lb_all L xs)) (pm_Rt pm_P 100) (33, lv, [.int (nI 36)], h, 599897, 7298671) RQ1 := E_tsw rfl (by decide +kernel) (by decide +kernel) (bl_36 hL hi lv I L0 L1 L2 L3 K)
set_option maxRecDepth 20000 in
theorem sw_37 {L : Nat} {xs : Nat → Int32} (hL : L ≤ 3072) {h : pm_H} {i : Nat} (hi : i + 6 ≤ L) (lv : List (Nat × Value)) (I : IVQ h) (L0 : pm_get lv 0 = some (.retAddr 0)) (L1 : pm_get lv 1 = some (.ref 0)) (L2 : pm_get lv 2 = some (.ref 77)) (L3 : pm_get lv 3 = some (.int (nJ i))) (K : ∀ h', IVQ h' → Ends (pm_tr (lb_all L xs)) (pm_Rt pm_P 100) (2392, lv, [], h', 599897, 7298671) RQ1) : Ends (pm_tr (lb_all L xs)) (pm_Rt pm_P 100) (33, lv, [.int (nI 37)], h, 599897, 7298671) RQ1 := E_tsw rfl (by decide +kernel) (by decide +kernel) (bl_37 hL hi lv I L0 L1 L2 L3 K)
set_option maxRecDepth 20000 in
theorem sw_38 {L : Nat} {xs : Nat → Int32} (hL : L ≤ 3072) {h : pm_H} {i : Nat} (hi : i + 6 ≤ L) (lv : List (Nat × Value)) (I : IVQ h) (L0 : pm_get lv 0 = some (.retAddr 0)) (L1 : pm_get lv 1 = some (.ref 0)) (L2 : pm_get lv 2 = some (.ref 77)) (L3 : pm_get lv 3 = some (.int (nJ i))) (K : ∀ h', IVQ h' → Ends (pm_tr (lb_all L xs)) (pm_Rt pm_P 100) (2392, lv, [], h', 599897, 7298671) RQ1) : Ends (pm_tr (lb_all L xs)) (pm_Rt pm_P 100) (33, lv, [.int (nI 38)], h, 599897, 7298671) RQ1 := E_tsw rfl (by decide +kernel) (by decide +kernel) (bl_38 hL hi lv I L0 L1 L2 L3 K)
set_option maxRecDepth 20000 in
theorem sw_39 {L : Nat} {xs : Nat → Int32} (hL : L ≤ 3072) {h : pm_H} {i : Nat} (hi : i + 6 ≤ L) (lv : List (Nat × Value)) (I : IVQ h) (L0 : pm_get lv 0 = some (.retAddr 0)) (L1 : pm_get lv 1 = some (.ref 0)) (L2 : pm_get lv 2 = some (.ref 77)) (L3 : pm_get lv 3 = some (.int (nJ i))) (K : ∀ h', IVQ h' → Ends (pm_tr (lb_all L xs)) (pm_Rt pm_P 100) (2392, lv, [], h', 599897, 7298671) RQ1) : Ends (pm_tr (lb_all L xs)) (pm_Rt pm_P 100) (33, lv, [.int (nI 39)], h, 599897, 7298671) RQ1 := E_tsw rfl (by decide +kernel) (by decide +kernel) (bl_39 hL hi lv I L0 L1 L2 L3 K)
set_option maxRecDepth 20000 in
theorem sw_40 {L : Nat} {xs : Nat → Int32} (hL : L ≤ 3072) {h : pm_H} {i : Nat} (hi : i + 6 ≤ L) (lv : List (Nat × Value)) (I : IVQ h) (L0 : pm_get lv 0 = some (.retAddr 0)) (L1 : pm_get lv 1 = some (.ref 0)) (L2 : pm_get lv 2 = some (.ref 77)) (L3 : pm_get lv 3 = some (.int (nJ i))) (K : ∀ h', IVQ h' → Ends (pm_tr (lb_all L xs)) (pm_Rt pm_P 100) (2392, lv, [], h', 599897, 7298671) RQ1) : Ends (pm_tr (lb_all L xs)) (pm_Rt pm_P 100) (33, lv, [.int (nI 40)], h, 599897, 7298671) RQ1 := E_tsw rfl (by decide +kernel) (by decide +kernel) (bl_40 hL hi lv I L0 L1 L2 L3 K)
set_option maxRecDepth 20000 in
theorem sw_41 {L : Nat} {xs : Nat → Int32} (hL : L ≤ 3072) {h : pm_H} {i : Nat} (hi : i + 6 ≤ L) (lv : List (Nat × Value)) (I : IVQ h) (L0 : pm_get lv 0 = some (.retAddr 0)) (L1 : pm_get lv 1 = some (.ref 0)) (L2 : pm_get lv 2 = some (.ref 77)) (L3 : pm_get lv 3 = some (.int (nJ i))) (K : ∀ h', IVQ h' → Ends (pm_tr (lb_all L xs)) (pm_Rt pm_P 100) (2392, lv, [], h', 599897, 7298671) RQ1) : Ends (pm_tr (lb_all L xs)) (pm_Rt pm_P 100) (33, lv, [.int (nI 41)], h, 599897, 7298671) RQ1 := E_tsw rfl (by decide +kernel) (by decide +kernel) (bl_41 hL hi lv I L0 L1 L2 L3 K)
set_option maxRecDepth 20000 in
theorem sw_42 {L : Nat} {xs : Nat → Int32} (hL : L ≤ 3072) {h : pm_H} {i : Nat} (hi : i + 6 ≤ L) (lv : List (Nat × Value)) (I : IVQ h) (L0 : pm_get lv 0 = some (.retAddr 0)) (L1 : pm_get lv 1 = some (.ref 0)) (L2 : pm_get lv 2 = some (.ref 77)) (L3 : pm_get lv 3 = some (.int (nJ i))) (K : ∀ h', IVQ h' → Ends (pm_tr (lb_all L xs)) (pm_Rt pm_P 100) (2392, lv, [], h', 599897, 7298671) RQ1) : Ends (pm_tr (lb_all L xs)) (pm_Rt pm_P 100) (33, lv, [.int (nI 42)], h, 599897, 7298671) RQ1 := E_tsw rfl (by decide +kernel) (by decide +kernel) (bl_42 hL hi lv I L0 L1 L2 L3 K)
set_option maxRecDepth 20000 in
theorem sw_43 {L : Nat} {xs : Nat → Int32} (hL : L ≤ 3072) {h : pm_H} {i : Nat} (hi : i + 6 ≤ L) (lv : List (Nat × Value)) (I : IVQ h) (L0 : pm_get lv 0 = some (.retAddr 0)) (L1 : pm_get lv 1 = some (.ref 0)) (L2 : pm_get lv 2 = some (.ref 77)) (L3 : pm_get lv 3 = some (.int (nJ i))) (K : ∀ h', IVQ h' → Ends (pm_tr (lb_all L xs)) (pm_Rt pm_P 100) (2392, lv, [], h', 599897, 7298671) RQ1) : Ends (pm_tr (lb_all L xs)) (pm_Rt pm_P 100) (33, lv, [.int (nI 43)], h, 599897, 7298671) RQ1 := E_tsw rfl (by decide +kernel) (by decide +kernel) (bl_43 hL hi lv I L0 L1 L2 L3 K)
set_option maxRecDepth 20000 in
theorem sw_44 {L : Nat} {xs : Nat → Int32} (hL : L ≤ 3072) {h : pm_H} {i : Nat} (hi : i + 6 ≤ L) (lv : List (Nat × Value)) (I : IVQ h) (L0 : pm_get lv 0 = some (.retAddr 0)) (L1 : pm_get lv 1 = some (.ref 0)) (L2 : pm_get lv 2 = some (.ref 77)) (L3 : pm_get lv 3 = some (.int (nJ i))) (K : ∀ h', IVQ h' → Ends (pm_tr (lb_all L xs)) (pm_Rt pm_P 100) (2392, lv, [], h', 599897, 7298671) RQ1) : Ends (pm_tr (lb_all L xs)) (pm_Rt pm_P 100) (33, lv, [.int (nI 44)], h, 599897, 7298671) RQ1 := E_tsw rfl (by decide +kernel) (by decide +kernel) (bl_44 hL hi lv I L0 L1 L2 L3 K)
set_option maxRecDepth 20000 in
theorem sw_45 {L : Nat} {xs : Nat → Int32} (hL : L ≤ 3072) {h : pm_H} {i : Nat} (hi : i + 6 ≤ L) (lv : List (Nat × Value)) (I : IVQ h) (L0 : pm_get lv 0 = some (.retAddr 0)) (L1 : pm_get lv 1 = some (.ref 0)) (L2 : pm_get lv 2 = some (.ref 77)) (L3 : pm_get lv 3 = some (.int (nJ i))) (K : ∀ h', IVQ h' → Ends (pm_tr (lb_all L xs)) (pm_Rt pm_P 100) (2392, lv, [], h', 599897, 7298671) RQ1) : Ends (pm_tr (lb_all L xs)) (pm_Rt pm_P 100) (33, lv, [.int (nI 45)], h, 599897, 7298671) RQ1 := E_tsw rfl (by decide +kernel) (by decide +kernel) (bl_45 hL hi lv I L0 L1 L2 L3 K)
set_option maxRecDepth 20000 in
theorem sw_46 {L : Nat} {xs : Nat → Int32} (hL : L ≤ 3072) {h : pm_H} {i : Nat} (hi : i + 6 ≤ L) (lv : List (Nat × Value)) (I : IVQ h) (L0 : pm_get lv 0 = some (.retAddr 0)) (L1 : pm_get lv 1 = some (.ref 0)) (L2 : pm_get lv 2 = some (.ref 77)) (L3 : pm_get lv 3 = some (.int (nJ i))) (K : ∀ h', IVQ h' → Ends (pm_tr (lb_all L xs)) (pm_Rt pm_P 100) (2392, lv, [], h', 599897, 7298671) RQ1) : Ends (pm_tr (lb_all L xs)) (pm_Rt pm_P 100) (33, lv, [.int (nI 46)], h, 599897, 7298671) RQ1 := E_tsw rfl (by decide +kernel) (by decide +kernel) (bl_46 hL hi lv I L0 L1 L2 L3 K)
set_option maxRecDepth 20000 in
theorem sw_47 {L : Nat} {xs : Nat → Int32} (hL : L ≤ 3072) {h : pm_H} {i : Nat} (hi : i + 6 ≤ L) (lv : List (Nat × Value)) (I : IVQ h) (L0 : pm_get lv 0 = some (.retAddr 0)) (L1 : pm_get lv 1 = some (.ref 0)) (L2 : pm_get lv 2 = some (.ref 77)) (L3 : pm_get lv 3 = some (.int (nJ i))) (K : ∀ h', IVQ h' → Ends (pm_tr (lb_all L xs)) (pm_Rt pm_P 100) (2392, lv, [], h', 599897, 7298671) RQ1) : Ends (pm_tr (lb_all L xs)) (pm_Rt pm_P 100) (33, lv, [.int (nI 47)], h, 599897, 7298671) RQ1 := E_tsw rfl (by decide +kernel) (by decide +kernel) (bl_47 hL hi lv I L0 L1 L2 L3 K)
set_option maxRecDepth 20000 in
theorem sw_48 {L : Nat} {xs : Nat → Int32} (hL : L ≤ 3072) {h : pm_H} {i : Nat} (hi : i + 6 ≤ L) (lv : List (Nat × Value)) (I : IVQ h) (L0 : pm_get lv 0 = some (.retAddr 0)) (L1 : pm_get lv 1 = some (.ref 0)) (L2 : pm_get lv 2 = some (.ref 77)) (L3 : pm_get lv 3 = some (.int (nJ i))) (K : ∀ h', IVQ h' → Ends (pm_tr (lb_all L xs)) (pm_Rt pm_P 100) (2392, lv, [], h', 599897, 7298671) RQ1) : Ends (pm_tr (lb_all L xs)) (pm_Rt pm_P 100) (33, lv, [.int (nI 48)], h, 599897, 7298671) RQ1 := E_tsw rfl (by decide +kernel) (by decide +kernel) (bl_48 hL hi lv I L0 L1 L2 L3 K)
set_option maxRecDepth 20000 in
theorem sw_49 {L : Nat} {xs : Nat → Int32} (hL : L ≤ 3072) {h : pm_H} {i : Nat} (hi : i + 6 ≤ L) (lv : List (Nat × Value)) (I : IVQ h) (L0 : pm_get lv 0 = some (.retAddr 0)) (L1 : pm_get lv 1 = some (.ref 0)) (L2 : pm_get lv 2 = some (.ref 77)) (L3 : pm_get lv 3 = some (.int (nJ i))) (K : ∀ h', IVQ h' → Ends (pm_tr (lb_all L xs)) (pm_Rt pm_P 100) (2392, lv, [], h', 599897, 7298671) RQ1) : Ends (pm_tr (lb_all L xs)) (pm_Rt pm_P 100) (33, lv, [.int (nI 49)], h, 599897, 7298671) RQ1 := E_tsw rfl (by decide +kernel) (by decide +kernel) (bl_49 hL hi lv I L0 L1 L2 L3 K)
set_option maxRecDepth 20000 in
theorem sw_50 {L : Nat} {xs : Nat → Int32} (hL : L ≤ 3072) {h : pm_H} {i : Nat} (hi : i + 6 ≤ L) (lv : List (Nat × Value)) (I : IVQ h) (L0 : pm_get lv 0 = some (.retAddr 0)) (L1 : pm_get lv 1 = some (.ref 0)) (L2 : pm_get lv 2 = some (.ref 77)) (L3 : pm_get lv 3 = some (.int (nJ i))) (K : ∀ h', IVQ h' → Ends (pm_tr (lb_all L xs)) (pm_Rt pm_P 100) (2392, lv, [], h', 599897, 7298671) RQ1) : Ends (pm_tr (lb_all L xs)) (pm_Rt pm_P 100) (33, lv, [.int (nI 50)], h, 599897, 7298671) RQ1 := E_tsw rfl (by decide +kernel) (by decide +kernel) (bl_50 hL hi lv I L0 L1 L2 L3 K)
set_option maxRecDepth 20000 in
theorem sw_51 {L : Nat} {xs : Nat → Int32} (hL : L ≤ 3072) {h : pm_H} {i : Nat} (hi : i + 6 ≤ L) (lv : List (Nat × Value)) (I : IVQ h) (L0 : pm_get lv 0 = some (.retAddr 0)) (L1 : pm_get lv 1 = some (.ref 0)) (L2 : pm_get lv 2 = some (.ref 77)) (L3 : pm_get lv 3 = some (.int (nJ i))) (K : ∀ h', IVQ h' → Ends (pm_tr (lb_all L xs)) (pm_Rt pm_P 100) (2392, lv, [], h', 599897, 7298671) RQ1) : Ends (pm_tr (lb_all L xs)) (pm_Rt pm_P 100) (33, lv, [.int (nI 51)], h, 599897, 7298671) RQ1 := E_tsw rfl (by decide +kernel) (by decide +kernel) (bl_51 hL hi lv I L0 L1 L2 L3 K)
set_option maxRecDepth 20000 in
theorem sw_52 {L : Nat} {xs : Nat → Int32} (hL : L ≤ 3072) {h : pm_H} {i : Nat} (hi : i + 6 ≤ L) (lv : List (Nat × Value)) (I : IVQ h) (L0 : pm_get lv 0 = some (.retAddr 0)) (L1 : pm_get lv 1 = some (.ref 0)) (L2 : pm_get lv 2 = some (.ref 77)) (L3 : pm_get lv 3 = some (.int (nJ i))) (K : ∀ h', IVQ h' → Ends (pm_tr (lb_all L xs)) (pm_Rt pm_P 100) (2392, lv, [], h', 599897, 7298671) RQ1) : Ends (pm_tr (lb_all L xs)) (pm_Rt pm_P 100) (33, lv, [.int (nI 52)], h, 599897, 7298671) RQ1 := E_tsw rfl (by decide +kernel) (by decide +kernel) (bl_52 hL hi lv I L0 L1 L2 L3 K)
set_option maxRecDepth 20000 in
theorem sw_53 {L : Nat} {xs : Nat → Int32} (hL : L ≤ 3072) {h : pm_H} {i : Nat} (hi : i + 6 ≤ L) (lv : List (Nat × Value)) (I : IVQ h) (L0 : pm_get lv 0 = some (.retAddr 0)) (L1 : pm_get lv 1 = some (.ref 0)) (L2 : pm_get lv 2 = some (.ref 77)) (L3 : pm_get lv 3 = some (.int (nJ i))) (K : ∀ h', IVQ h' → Ends (pm_tr (lb_all L xs)) (pm_Rt pm_P 100) (2392, lv, [], h', 599897, 7298671) RQ1) : Ends (pm_tr (lb_all L xs)) (pm_Rt pm_P 100) (33, lv, [.int (nI 53)], h, 599897, 7298671) RQ1 := E_tsw rfl (by decide +kernel) (by decide +kernel) (bl_53 hL hi lv I L0 L1 L2 L3 K)
set_option maxRecDepth 20000 in
theorem sw_54 {L : Nat} {xs : Nat → Int32} (hL : L ≤ 3072) {h : pm_H} {i : Nat} (hi : i + 6 ≤ L) (lv : List (Nat × Value)) (I : IVQ h) (L0 : pm_get lv 0 = some (.retAddr 0)) (L1 : pm_get lv 1 = some (.ref 0)) (L2 : pm_get lv 2 = some (.ref 77)) (L3 : pm_get lv 3 = some (.int (nJ i))) (K : ∀ h', IVQ h' → Ends (pm_tr (lb_all L xs)) (pm_Rt pm_P 100) (2392, lv, [], h', 599897, 7298671) RQ1) : Ends (pm_tr (lb_all L xs)) (pm_Rt pm_P 100) (33, lv, [.int (nI 54)], h, 599897, 7298671) RQ1 := E_tsw rfl (by decide +kernel) (by decide +kernel) (bl_54 hL hi lv I L0 L1 L2 L3 K)
set_option maxRecDepth 20000 in
theorem sw_55 {L : Nat} {xs : Nat → Int32} (hL : L ≤ 3072) {h : pm_H} {i : Nat} (hi : i + 6 ≤ L) (lv : List (Nat × Value)) (I : IVQ h) (L0 : pm_get lv 0 = some (.retAddr 0)) (L1 : pm_get lv 1 = some (.ref 0)) (L2 : pm_get lv 2 = some (.ref 77)) (L3 : pm_get lv 3 = some (.int (nJ i))) (K : ∀ h', IVQ h' → Ends (pm_tr (lb_all L xs)) (pm_Rt pm_P 100) (2392, lv, [], h', 599897, 7298671) RQ1) : Ends (pm_tr (lb_all L xs)) (pm_Rt pm_P 100) (33, lv, [.int (nI 55)], h, 599897, 7298671) RQ1 := E_tsw rfl (by decide +kernel) (by decide +kernel) (bl_55 hL hi lv I L0 L1 L2 L3 K)
set_option maxRecDepth 20000 in
theorem sw_56 {L : Nat} {xs : Nat → Int32} (hL : L ≤ 3072) {h : pm_H} {i : Nat} (hi : i + 6 ≤ L) (lv : List (Nat × Value)) (I : IVQ h) (L0 : pm_get lv 0 = some (.retAddr 0)) (L1 : pm_get lv 1 = some (.ref 0)) (L2 : pm_get lv 2 = some (.ref 77)) (L3 : pm_get lv 3 = some (.int (nJ i))) (K : ∀ h', IVQ h' → Ends (pm_tr (lb_all L xs)) (pm_Rt pm_P 100) (2392, lv, [], h', 599897, 7298671) RQ1) : Ends (pm_tr (lb_all L xs)) (pm_Rt pm_P 100) (33, lv, [.int (nI 56)], h, 599897, 7298671) RQ1 := E_tsw rfl (by decide +kernel) (by decide +kernel) (bl_56 hL hi lv I L0 L1 L2 L3 K)
set_option maxRecDepth 20000 in
theorem sw_57 {L : Nat} {xs : Nat → Int32} (hL : L ≤ 3072) {h : pm_H} {i : Nat} (hi : i + 6 ≤ L) (lv : List (Nat × Value)) (I : IVQ h) (L0 : pm_get lv 0 = some (.retAddr 0)) (L1 : pm_get lv 1 = some (.ref 0)) (L2 : pm_get lv 2 = some (.ref 77)) (L3 : pm_get lv 3 = some (.int (nJ i))) (K : ∀ h', IVQ h' → Ends (pm_tr (lb_all L xs)) (pm_Rt pm_P 100) (2392, lv, [], h', 599897, 7298671) RQ1) : Ends (pm_tr (lb_all L xs)) (pm_Rt pm_P 100) (33, lv, [.int (nI 57)], h, 599897, 7298671) RQ1 := E_tsw rfl (by decide +kernel) (by decide +kernel) (bl_57 hL hi lv I L0 L1 L2 L3 K)
set_option maxRecDepth 20000 in
theorem sw_58 {L : Nat} {xs : Nat → Int32} (hL : L ≤ 3072) {h : pm_H} {i : Nat} (hi : i + 6 ≤ L) (lv : List (Nat × Value)) (I : IVQ h) (L0 : pm_get lv 0 = some (.retAddr 0)) (L1 : pm_get lv 1 = some (.ref 0)) (L2 : pm_get lv 2 = some (.ref 77)) (L3 : pm_get lv 3 = some (.int (nJ i))) (K : ∀ h', IVQ h' → Ends (pm_tr (lb_all L xs)) (pm_Rt pm_P 100) (2392, lv, [], h', 599897, 7298671) RQ1) : Ends (pm_tr (lb_all L xs)) (pm_Rt pm_P 100) (33, lv, [.int (nI 58)], h, 599897, 7298671) RQ1 := E_tsw rfl (by decide +kernel) (by decide +kernel) (bl_58 hL hi lv I L0 L1 L2 L3 K)
set_option maxRecDepth 20000 in
theorem sw_59 {L : Nat} {xs : Nat → Int32} (hL : L ≤ 3072) {h : pm_H} {i : Nat} (hi : i + 6 ≤ L) (lv : List (Nat × Value)) (I : IVQ h) (L0 : pm_get lv 0 = some (.retAddr 0)) (L1 : pm_get lv 1 = some (.ref 0)) (L2 : pm_get lv 2 = some (.ref 77)) (L3 : pm_get lv 3 = some (.int (nJ i))) (K : ∀ h', IVQ h' → Ends (pm_tr (lb_all L xs)) (pm_Rt pm_P 100) (2392, lv, [], h', 599897, 7298671) RQ1) : Ends (pm_tr (lb_all L xs)) (pm_Rt pm_P 100) (33, lv, [.int (nI 59)], h, 599897, 7298671) RQ1 := E_tsw rfl (by decide +kernel) (by decide +kernel) (bl_59 hL hi lv I L0 L1 L2 L3 K)
set_option maxRecDepth 20000 in
theorem sw_60 {L : Nat} {xs : Nat → Int32} (hL : L ≤ 3072) {h : pm_H} {i : Nat} (hi : i + 6 ≤ L) (lv : List (Nat × Value)) (I : IVQ h) (L0 : pm_get lv 0 = some (.retAddr 0)) (L1 : pm_get lv 1 = some (.ref 0)) (L2 : pm_get lv 2 = some (.ref 77)) (L3 : pm_get lv 3 = some (.int (nJ i))) (K : ∀ h', IVQ h' → Ends (pm_tr (lb_all L xs)) (pm_Rt pm_P 100) (2392, lv, [], h', 599897, 7298671) RQ1) : Ends (pm_tr (lb_all L xs)) (pm_Rt pm_P 100) (33, lv, [.int (nI 60)], h, 599897, 7298671) RQ1 := E_tsw rfl (by decide +kernel) (by decide +kernel) (bl_60 hL hi lv I L0 L1 L2 L3 K)
set_option maxRecDepth 20000 in
theorem sw_61 {L : Nat} {xs : Nat → Int32} (hL : L ≤ 3072) {h : pm_H} {i : Nat} (hi : i + 6 ≤ L) (lv : List (Nat × Value)) (I : IVQ h) (L0 : pm_get lv 0 = some (.retAddr 0)) (L1 : pm_get lv 1 = some (.ref 0)) (L2 : pm_get lv 2 = some (.ref 77)) (L3 : pm_get lv 3 = some (.int (nJ i))) (K : ∀ h', IVQ h' → Ends (pm_tr (lb_all L xs)) (pm_Rt pm_P 100) (2392, lv, [], h', 599897, 7298671) RQ1) : Ends (pm_tr (lb_all L xs)) (pm_Rt pm_P 100) (33, lv, [.int (nI 61)], h, 599897, 7298671) RQ1 := E_tsw rfl (by decide +kernel) (by decide +kernel) (bl_61 hL hi lv I L0 L1 L2 L3 K)
set_option maxRecDepth 20000 in
theorem sw_62 {L : Nat} {xs : Nat → Int32} (hL : L ≤ 3072) {h : pm_H} {i : Nat} (hi : i + 6 ≤ L) (lv : List (Nat × Value)) (I : IVQ h) (L0 : pm_get lv 0 = some (.retAddr 0)) (L1 : pm_get lv 1 = some (.ref 0)) (L2 : pm_get lv 2 = some (.ref 77)) (L3 : pm_get lv 3 = some (.int (nJ i))) (K : ∀ h', IVQ h' → Ends (pm_tr (lb_all L xs)) (pm_Rt pm_P 100) (2392, lv, [], h', 599897, 7298671) RQ1) : Ends (pm_tr (lb_all L xs)) (pm_Rt pm_P 100) (33, lv, [.int (nI 62)], h, 599897, 7298671) RQ1 := E_tsw rfl (by decide +kernel) (by decide +kernel) (bl_62 hL hi lv I L0 L1 L2 L3 K)
set_option maxRecDepth 20000 in
theorem sw_63 {L : Nat} {xs : Nat → Int32} (hL : L ≤ 3072) {h : pm_H} {i : Nat} (hi : i + 6 ≤ L) (lv : List (Nat × Value)) (I : IVQ h) (L0 : pm_get lv 0 = some (.retAddr 0)) (L1 : pm_get lv 1 = some (.ref 0)) (L2 : pm_get lv 2 = some (.ref 77)) (L3 : pm_get lv 3 = some (.int (nJ i))) (K : ∀ h', IVQ h' → Ends (pm_tr (lb_all L xs)) (pm_Rt pm_P 100) (2392, lv, [], h', 599897, 7298671) RQ1) : Ends (pm_tr (lb_all L xs)) (pm_Rt pm_P 100) (33, lv, [.int (nI 63)], h, 599897, 7298671) RQ1 := E_tsw rfl (by decide +kernel) (by decide +kernel) (bl_63 hL hi lv I L0 L1 L2 L3 K)
set_option maxRecDepth 20000 in
theorem sw_64 {L : Nat} {xs : Nat → Int32} (hL : L ≤ 3072) {h : pm_H} {i : Nat} (hi : i + 6 ≤ L) (lv : List (Nat × Value)) (I : IVQ h) (L0 : pm_get lv 0 = some (.retAddr 0)) (L1 : pm_get lv 1 = some (.ref 0)) (L2 : pm_get lv 2 = some (.ref 77)) (L3 : pm_get lv 3 = some (.int (nJ i))) (K : ∀ h', IVQ h' → Ends (pm_tr (lb_all L xs)) (pm_Rt pm_P 100) (2392, lv, [], h', 599897, 7298671) RQ1) : Ends (pm_tr (lb_all L xs)) (pm_Rt pm_P 100) (33, lv, [.int (nI 64)], h, 599897, 7298671) RQ1 := E_tsw rfl (by decide +kernel) (by decide +kernel) (bl_64 hL hi lv I L0 L1 L2 L3 K)
set_option maxRecDepth 20000 in
theorem sw_65 {L : Nat} {xs : Nat → Int32} (hL : L ≤ 3072) {h : pm_H} {i : Nat} (hi : i + 6 ≤ L) (lv : List (Nat × Value)) (I : IVQ h) (L0 : pm_get lv 0 = some (.retAddr 0)) (L1 : pm_get lv 1 = some (.ref 0)) (L2 : pm_get lv 2 = some (.ref 77)) (L3 : pm_get lv 3 = some (.int (nJ i))) (K : ∀ h', IVQ h' → Ends (pm_tr (lb_all L xs)) (pm_Rt pm_P 100) (2392, lv, [], h', 599897, 7298671) RQ1) : Ends (pm_tr (lb_all L xs)) (pm_Rt pm_P 100) (33, lv, [.int (nI 65)], h, 599897, 7298671) RQ1 := E_tsw rfl (by decide +kernel) (by decide +kernel) (bl_65 hL hi lv I L0 L1 L2 L3 K)
set_option maxRecDepth 20000 in
theorem sw_66 {L : Nat} {xs : Nat → Int32} (hL : L ≤ 3072) {h : pm_H} {i : Nat} (hi : i + 6 ≤ L) (lv : List (Nat × Value)) (I : IVQ h) (L0 : pm_get lv 0 = some (.retAddr 0)) (L1 : pm_get lv 1 = some (.ref 0)) (L2 : pm_get lv 2 = some (.ref 77)) (L3 : pm_get lv 3 = some (.int (nJ i))) (K : ∀ h', IVQ h' → Ends (pm_tr (lb_all L xs)) (pm_Rt pm_P 100) (2392, lv, [], h', 599897, 7298671) RQ1) : Ends (pm_tr (lb_all L xs)) (pm_Rt pm_P 100) (33, lv, [.int (nI 66)], h, 599897, 7298671) RQ1 := E_tsw rfl (by decide +kernel) (by decide +kernel) (bl_66 hL hi lv I L0 L1 L2 L3 K)
set_option maxRecDepth 20000 in
theorem sw_67 {L : Nat} {xs : Nat → Int32} (hL : L ≤ 3072) {h : pm_H} {i : Nat} (hi : i + 6 ≤ L) (lv : List (Nat × Value)) (I : IVQ h) (L0 : pm_get lv 0 = some (.retAddr 0)) (L1 : pm_get lv 1 = some (.ref 0)) (L2 : pm_get lv 2 = some (.ref 77)) (L3 : pm_get lv 3 = some (.int (nJ i))) (K : ∀ h', IVQ h' → Ends (pm_tr (lb_all L xs)) (pm_Rt pm_P 100) (2392, lv, [], h', 599897, 7298671) RQ1) : Ends (pm_tr (lb_all L xs)) (pm_Rt pm_P 100) (33, lv, [.int (nI 67)], h, 599897, 7298671) RQ1 := E_tsw rfl (by decide +kernel) (by decide +kernel) (bl_67 hL hi lv I L0 L1 L2 L3 K)
set_option maxRecDepth 20000 in
theorem sw_68 {L : Nat} {xs : Nat → Int32} (hL : L ≤ 3072) {h : pm_H} {i : Nat} (hi : i + 6 ≤ L) (lv : List (Nat × Value)) (I : IVQ h) (L0 : pm_get lv 0 = some (.retAddr 0)) (L1 : pm_get lv 1 = some (.ref 0)) (L2 : pm_get lv 2 = some (.ref 77)) (L3 : pm_get lv 3 = some (.int (nJ i))) (K : ∀ h', IVQ h' → Ends (pm_tr (lb_all L xs)) (pm_Rt pm_P 100) (2392, lv, [], h', 599897, 7298671) RQ1) : Ends (pm_tr (lb_all L xs)) (pm_Rt pm_P 100) (33, lv, [.int (nI 68)], h, 599897, 7298671) RQ1 := E_tsw rfl (by decide +kernel) (by decide +kernel) (bl_68 hL hi lv I L0 L1 L2 L3 K)
set_option maxRecDepth 20000 in
theorem sw_69 {L : Nat} {xs : Nat → Int32} (hL : L ≤ 3072) {h : pm_H} {i : Nat} (hi : i + 6 ≤ L) (lv : List (Nat × Value)) (I : IVQ h) (L0 : pm_get lv 0 = some (.retAddr 0)) (L1 : pm_get lv 1 = some (.ref 0)) (L2 : pm_get lv 2 = some (.ref 77)) (L3 : pm_get lv 3 = some (.int (nJ i))) (K : ∀ h', IVQ h' → Ends (pm_tr (lb_all L xs)) (pm_Rt pm_P 100) (2392, lv, [], h', 599897, 7298671) RQ1) : Ends (pm_tr (lb_all L xs)) (pm_Rt pm_P 100) (33, lv, [.int (nI 69)], h, 599897, 7298671) RQ1 := E_tsw rfl (by decide +kernel) (by decide +kernel) (bl_69 hL hi lv I L0 L1 L2 L3 K)
set_option maxRecDepth 20000 in
theorem sw_70 {L : Nat} {xs : Nat → Int32} (hL : L ≤ 3072) {h : pm_H} {i : Nat} (hi : i + 6 ≤ L) (lv : List (Nat × Value)) (I : IVQ h) (L0 : pm_get lv 0 = some (.retAddr 0)) (L1 : pm_get lv 1 = some (.ref 0)) (L2 : pm_get lv 2 = some (.ref 77)) (L3 : pm_get lv 3 = some (.int (nJ i))) (K : ∀ h', IVQ h' → Ends (pm_tr (lb_all L xs)) (pm_Rt pm_P 100) (2392, lv, [], h', 599897, 7298671) RQ1) : Ends (pm_tr (lb_all L xs)) (pm_Rt pm_P 100) (33, lv, [.int (nI 70)], h, 599897, 7298671) RQ1 := E_tsw rfl (by decide +kernel) (by decide +kernel) (bl_70 hL hi lv I L0 L1 L2 L3 K)
set_option maxRecDepth 20000 in
theorem sw_71 {L : Nat} {xs : Nat → Int32} (hL : L ≤ 3072) {h : pm_H} {i : Nat} (hi : i + 6 ≤ L) (lv : List (Nat × Value)) (I : IVQ h) (L0 : pm_get lv 0 = some (.retAddr 0)) (L1 : pm_get lv 1 = some (.ref 0)) (L2 : pm_get lv 2 = some (.ref 77)) (L3 : pm_get lv 3 = some (.int (nJ i))) (K : ∀ h', IVQ h' → Ends (pm_tr (lb_all L xs)) (pm_Rt pm_P 100) (2392, lv, [], h', 599897, 7298671) RQ1) : Ends (pm_tr (lb_all L xs)) (pm_Rt pm_P 100) (33, lv, [.int (nI 71)], h, 599897, 7298671) RQ1 := E_tsw rfl (by decide +kernel) (by decide +kernel) (bl_71 hL hi lv I L0 L1 L2 L3 K)
set_option maxRecDepth 20000 in
theorem sw_72 {L : Nat} {xs : Nat → Int32} (hL : L ≤ 3072) {h : pm_H} {i : Nat} (hi : i + 6 ≤ L) (lv : List (Nat × Value)) (I : IVQ h) (L0 : pm_get lv 0 = some (.retAddr 0)) (L1 : pm_get lv 1 = some (.ref 0)) (L2 : pm_get lv 2 = some (.ref 77)) (L3 : pm_get lv 3 = some (.int (nJ i))) (K : ∀ h', IVQ h' → Ends (pm_tr (lb_all L xs)) (pm_Rt pm_P 100) (2392, lv, [], h', 599897, 7298671) RQ1) : Ends (pm_tr (lb_all L xs)) (pm_Rt pm_P 100) (33, lv, [.int (nI 72)], h, 599897, 7298671) RQ1 := E_tsw rfl (by decide +kernel) (by decide +kernel) (bl_72 hL hi lv I L0 L1 L2 L3 K)
set_option maxRecDepth 20000 in
theorem sw_73 {L : Nat} {xs : Nat → Int32} (hL : L ≤ 3072) {h : pm_H} {i : Nat} (hi : i + 6 ≤ L) (lv : List (Nat × Value)) (I : IVQ h) (L0 : pm_get lv 0 = some (.retAddr 0)) (L1 : pm_get lv 1 = some (.ref 0)) (L2 : pm_get lv 2 = some (.ref 77)) (L3 : pm_get lv 3 = some (.int (nJ i))) (K : ∀ h', IVQ h' → Ends (pm_tr (lb_all L xs)) (pm_Rt pm_P 100) (2392, lv, [], h', 599897, 7298671) RQ1) : Ends (pm_tr (lb_all L xs)) (pm_Rt pm_P 100) (33, lv, [.int (nI 73)], h, 599897, 7298671) RQ1 := E_tsw rfl (by decide +kernel) (by decide +kernel) (bl_73 hL hi lv I L0 L1 L2 L3 K)
set_option maxRecDepth 20000 in
theorem sw_74 {L : Nat} {xs : Nat → Int32} (hL : L ≤ 3072) {h : pm_H} {i : Nat} (hi : i + 6 ≤ L) (lv : List (Nat × Value)) (I : IVQ h) (L0 : pm_get lv 0 = some (.retAddr 0)) (L1 : pm_get lv 1 = some (.ref 0)) (L2 : pm_get lv 2 = some (.ref 77)) (L3 : pm_get lv 3 = some (.int (nJ i))) (K : ∀ h', IVQ h' → Ends (pm_tr (lb_all L xs)) (pm_Rt pm_P 100) (2392, lv, [], h', 599897, 7298671) RQ1) : Ends (pm_tr (lb_all L xs)) (pm_Rt pm_P 100) (33, lv, [.int (nI 74)], h, 599897, 7298671) RQ1 := E_tsw rfl (by decide +kernel) (by decide +kernel) (bl_74 hL hi lv I L0 L1 L2 L3 K)
set_option maxRecDepth 20000 in
theorem sw_75 {L : Nat} {xs : Nat → Int32} (hL : L ≤ 3072) {h : pm_H} {i : Nat} (hi : i + 6 ≤ L) (lv : List (Nat × Value)) (I : IVQ h) (L0 : pm_get lv 0 = some (.retAddr 0)) (L1 : pm_get lv 1 = some (.ref 0)) (L2 : pm_get lv 2 = some (.ref 77)) (L3 : pm_get lv 3 = some (.int (nJ i))) (K : ∀ h', IVQ h' → Ends (pm_tr (lb_all L xs)) (pm_Rt pm_P 100) (2392, lv, [], h', 599897, 7298671) RQ1) : Ends (pm_tr (lb_all L xs)) (pm_Rt pm_P 100) (33, lv, [.int (nI 75)], h, 599897, 7298671) RQ1 := E_tsw rfl (by decide +kernel) (by decide +kernel) (bl_75 hL hi lv I L0 L1 L2 L3 K)
set_option maxRecDepth 20000 in
theorem sw_76 {L : Nat} {xs : Nat → Int32} (hL : L ≤ 3072) {h : pm_H} {i : Nat} (hi : i + 6 ≤ L) (lv : List (Nat × Value)) (I : IVQ h) (L0 : pm_get lv 0 = some (.retAddr 0)) (L1 : pm_get lv 1 = some (.ref 0)) (L2 : pm_get lv 2 = some (.ref 77)) (L3 : pm_get lv 3 = some (.int (nJ i))) (K : ∀ h', IVQ h' → Ends (pm_tr (lb_all L xs)) (pm_Rt pm_P 100) (2392, lv, [], h', 599897, 7298671) RQ1) : Ends (pm_tr (lb_all L xs)) (pm_Rt pm_P 100) (33, lv, [.int (nI 76)], h, 599897, 7298671) RQ1 := E_tsw rfl (by decide +kernel) (by decide +kernel) (bl_76 hL hi lv I L0 L1 L2 L3 K)
set_option maxRecDepth 20000 in
theorem sw_77 {L : Nat} {xs : Nat → Int32} (hL : L ≤ 3072) {h : pm_H} {i : Nat} (hi : i + 6 ≤ L) (lv : List (Nat × Value)) (I : IVQ h) (L0 : pm_get lv 0 = some (.retAddr 0)) (L1 : pm_get lv 1 = some (.ref 0)) (L2 : pm_get lv 2 = some (.ref 77)) (L3 : pm_get lv 3 = some (.int (nJ i))) (K : ∀ h', IVQ h' → Ends (pm_tr (lb_all L xs)) (pm_Rt pm_P 100) (2392, lv, [], h', 599897, 7298671) RQ1) : Ends (pm_tr (lb_all L xs)) (pm_Rt pm_P 100) (33, lv, [.int (nI 77)], h, 599897, 7298671) RQ1 := E_tsw rfl (by decide +kernel) (by decide +kernel) (bl_77 hL hi lv I L0 L1 L2 L3 K)
set_option maxRecDepth 20000 in
theorem sw_78 {L : Nat} {xs : Nat → Int32} (hL : L ≤ 3072) {h : pm_H} {i : Nat} (hi : i + 6 ≤ L) (lv : List (Nat × Value)) (I : IVQ h) (L0 : pm_get lv 0 = some (.retAddr 0)) (L1 : pm_get lv 1 = some (.ref 0)) (L2 : pm_get lv 2 = some (.ref 77)) (L3 : pm_get lv 3 = some (.int (nJ i))) (K : ∀ h', IVQ h' → Ends (pm_tr (lb_all L xs)) (pm_Rt pm_P 100) (2392, lv, [], h', 599897, 7298671) RQ1) : Ends (pm_tr (lb_all L xs)) (pm_Rt pm_P 100) (33, lv, [.int (nI 78)], h, 599897, 7298671) RQ1 := E_tsw rfl (by decide +kernel) (by decide +kernel) (bl_78 hL hi lv I L0 L1 L2 L3 K)
set_option maxRecDepth 20000 in
theorem sw_79 {L : Nat} {xs : Nat → Int32} (hL : L ≤ 3072) {h : pm_H} {i : Nat} (hi : i + 6 ≤ L) (lv : List (Nat × Value)) (I : IVQ h) (L0 : pm_get lv 0 = some (.retAddr 0)) (L1 : pm_get lv 1 = some (.ref 0)) (L2 : pm_get lv 2 = some (.ref 77)) (L3 : pm_get lv 3 = some (.int (nJ i))) (K : ∀ h', IVQ h' → Ends (pm_tr (lb_all L xs)) (pm_Rt pm_P 100) (2392, lv, [], h', 599897, 7298671) RQ1) : Ends (pm_tr (lb_all L xs)) (pm_Rt pm_P 100) (33, lv, [.int (nI 79)], h, 599897, 7298671) RQ1 := E_tsw rfl (by decide +kernel) (by decide +kernel) (bl_79 hL hi lv I L0 L1 L2 L3 K)
set_option maxRecDepth 20000 in
theorem sw_80 {L : Nat} {xs : Nat → Int32} (hL : L ≤ 3072) {h : pm_H} {i : Nat} (hi : i + 6 ≤ L) (lv : List (Nat × Value)) (I : IVQ h) (L0 : pm_get lv 0 = some (.retAddr 0)) (L1 : pm_get lv 1 = some (.ref 0)) (L2 : pm_get lv 2 = some (.ref 77)) (L3 : pm_get lv 3 = some (.int (nJ i))) (K : ∀ h', IVQ h' → Ends (pm_tr (lb_all L xs)) (pm_Rt pm_P 100) (2392, lv, [], h', 599897, 7298671) RQ1) : Ends (pm_tr (lb_all L xs)) (pm_Rt pm_P 100) (33, lv, [.int (nI 80)], h, 599897, 7298671) RQ1 := E_tsw rfl (by decide +kernel) (by decide +kernel) (bl_80 hL hi lv I L0 L1 L2 L3 K)
set_option maxRecDepth 20000 in
theorem sw_81 {L : Nat} {xs : Nat → Int32} (hL : L ≤ 3072) {h : pm_H} {i : Nat} (hi : i + 6 ≤ L) (lv : List (Nat × Value)) (I : IVQ h) (L0 : pm_get lv 0 = some (.retAddr 0)) (L1 : pm_get lv 1 = some (.ref 0)) (L2 : pm_get lv 2 = some (.ref 77)) (L3 : pm_get lv 3 = some (.int (nJ i))) (K : ∀ h', IVQ h' → Ends (pm_tr (lb_all L xs)) (pm_Rt pm_P 100) (2392, lv, [], h', 599897, 7298671) RQ1) : Ends (pm_tr (lb_all L xs)) (pm_Rt pm_P 100) (33, lv, [.int (nI 81)], h, 599897, 7298671) RQ1 := E_tsw rfl (by decide +kernel) (by decide +kernel) (bl_81 hL hi lv I L0 L1 L2 L3 K)
set_option maxRecDepth 20000 in
theorem sw_all {L : Nat} {xs : Nat → Int32} (hL : L ≤ 3072) {h : pm_H} {i : Nat} (hi : i + 6 ≤ L) (lv : List (Nat × Value)) (I : IVQ h) (L0 : pm_get lv 0 = some (.retAddr 0)) (L1 : pm_get lv 1 = some (.ref 0)) (L2 : pm_get lv 2 = some (.ref 77)) (L3 : pm_get lv 3 = some (.int (nJ i))) (K : ∀ h', IVQ h' → Ends (pm_tr (lb_all L xs)) (pm_Rt pm_P 100) (2392, lv, [], h', 599897, 7298671) RQ1) (j : Nat) (hj : j < 128) : Ends (pm_tr (lb_all L xs)) (pm_Rt pm_P 100) (33, lv, [.int (nI j)], h, 599897, 7298671) RQ1 := by
  match j, hj with
  | 0, _ => exact sw_0 hL hi lv I L0 L1 L2 L3 K
  | 1, _ => exact sw_1 hL hi lv I L0 L1 L2 L3 K
  | 2, _ => exact sw_2 hL hi lv I L0 L1 L2 L3 K
  | 3, _ => exact sw_3 hL hi lv I L0 L1 L2 L3 K
  | 4, _ => exact sw_4 hL hi lv I L0 L1 L2 L3 K
  | 5, _ => exact sw_5 hL hi lv I L0 L1 L2 L3 K
  | 6, _ => exact sw_6 hL hi lv I L0 L1 L2 L3 K
  | 7, _ => exact sw_7 hL hi lv I L0 L1 L2 L3 K
  | 8, _ => exact sw_8 hL hi lv I L0 L1 L2 L3 K
  | 9, _ => exact sw_9 hL hi lv I L0 L1 L2 L3 K
  | 10, _ => exact sw_10 hL hi lv I L0 L1 L2 L3 K
  | 11, _ => exact sw_11 hL hi lv I L0 L1 L2 L3 K
  | 12, _ => exact sw_12 hL hi lv I L0 L1 L2 L3 K
  | 13, _ => exact sw_13 hL hi lv I L0 L1 L2 L3 K
  | 14, _ => exact sw_14 hL hi lv I L0 L1 L2 L3 K
  | 15, _ => exact sw_15 hL hi lv I L0 L1 L2 L3 K
  | 16, _ => exact sw_16 hL hi lv I L0 L1 L2 L3 K
  | 17, _ => exact sw_17 hL hi lv I L0 L1 L2 L3 K
  | 18, _ => exact sw_18 hL hi lv I L0 L1 L2 L3 K
  | 19, _ => exact sw_19 hL hi lv I L0 L1 L2 L3 K
  | 20, _ => exact sw_20 hL hi lv I L0 L1 L2 L3 K
  | 21, _ => exact sw_21 hL hi lv I L0 L1 L2 L3 K
  | 22, _ => exact sw_22 hL hi lv I L0 L1 L2 L3 K
  | 23, _ => exact sw_23 hL hi lv I L0 L1 L2 L3 K
  | 24, _ => exact sw_24 hL hi lv I L0 L1 L2 L3 K
  | 25, _ => exact sw_25 hL hi lv I L0 L1 L2 L3 K
  | 26, _ => exact sw_26 hL hi lv I L0 L1 L2 L3 K
  | 27, _ => exact sw_27 hL hi lv I L0 L1 L2 L3 K
  | 28, _ => exact sw_28 hL hi lv I L0 L1 L2 L3 K
  | 29, _ => exact sw_29 hL hi lv I L0 L1 L2 L3 K
  | 30, _ => exact sw_30 hL hi lv I L0 L1 L2 L3 K
  | 31, _ => exact sw_31 hL hi lv I L0 L1 L2 L3 K
  | 32, _ => exact sw_32 hL hi lv I L0 L1 L2 L3 K
  | 33, _ => exact sw_33 hL hi lv I L0 L1 L2 L3 K
  | 34, _ => exact sw_34 hL hi lv I L0 L1 L2 L3 K
  | 35, _ => exact sw_35 hL hi lv I L0 L1 L2 L3 K
  | 36, _ => exact sw_36 hL hi lv I L0 L1 L2 L3 K
  | 37, _ => exact sw_37 hL hi lv I L0 L1 L2 L3 K
  | 38, _ => exact sw_38 hL hi lv I L0 L1 L2 L3 K
  | 39, _ => exact sw_39 hL hi lv I L0 L1 L2 L3 K
  | 40, _ => exact sw_40 hL hi lv I L0 L1 L2 L3 K
  | 41, _ => exact sw_41 hL hi lv I L0 L1 L2 L3 K
  | 42, _ => exact sw_42 hL hi lv I L0 L1 L2 L3 K
  | 43, _ => exact sw_43 hL hi lv I L0 L1 L2 L3 K
  | 44, _ => exact sw_44 hL hi lv I L0 L1 L2 L3 K
  | 45, _ => exact sw_45 hL hi lv I L0 L1 L2 L3 K
  | 46, _ => exact sw_46 hL hi lv I L0 L1 L2 L3 K
  | 47, _ => exact sw_47 hL hi lv I L0 L1 L2 L3 K
  | 48, _ => exact sw_48 hL hi lv I L0 L1 L2 L3 K
  | 49, _ => exact sw_49 hL hi lv I L0 L1 L2 L3 K
  | 50, _ => exact sw_50 hL hi lv I L0 L1 L2 L3 K
  | 51, _ => exact sw_51 hL hi lv I L0 L1 L2 L3 K
  | 52, _ => exact sw_52 hL hi lv I L0 L1 L2 L3 K
  | 53, _ => exact sw_53 hL hi lv I L0 L1 L2 L3 K
  | 54, _ => exact sw_54 hL hi lv I L0 L1 L2 L3 K
  | 55, _ => exact sw_55 hL hi lv I L0 L1 L2 L3 K
  | 56, _ => exact sw_56 hL hi lv I L0 L1 L2 L3 K
  | 57, _ => exact sw_57 hL hi lv I L0 L1 L2 L3 K
  | 58, _ => exact sw_58 hL hi lv I L0 L1 L2 L3 K
  | 59, _ => exact sw_59 hL hi lv I L0 L1 L2 L3 K
  | 60, _ => exact sw_60 hL hi lv I L0 L1 L2 L3 K
  | 61, _ => exact sw_61 hL hi lv I L0 L1 L2 L3 K
  | 62, _ => exact sw_62 hL hi lv I L0 L1 L2 L3 K
  | 63, _ => exact sw_63 hL hi lv I L0 L1 L2 L3 K
  | 64, _ => exact sw_64 hL hi lv I L0 L1 L2 L3 K
  | 65, _ => exact sw_65 hL hi lv I L0 L1 L2 L3 K
  | 66, _ => exact sw_66 hL hi lv I L0 L1 L2 L3 K
  | 67, _ => exact sw_67 hL hi lv I L0 L1 L2 L3 K
  | 68, _ => exact sw_68 hL hi lv I L0 L1 L2 L3 K
  | 69, _ => exact sw_69 hL hi lv I L0 L1 L2 L3 K
  | 70, _ => exact sw_70 hL hi lv I L0 L1 L2 L3 K
  | 71, _ => exact sw_71 hL hi lv I L0 L1 L2 L3 K
  | 72, _ => exact sw_72 hL hi lv I L0 L1 L2 L3 K
  | 73, _ => exact sw_73 hL hi lv I L0 L1 L2 L3 K
  | 74, _ => exact sw_74 hL hi lv I L0 L1 L2 L3 K
  | 75, _ => exact sw_75 hL hi lv I L0 L1 L2 L3 K
  | 76, _ => exact sw_76 hL hi lv I L0 L1 L2 L3 K
  | 77, _ => exact sw_77 hL hi lv I L0 L1 L2 L3 K
  | 78, _ => exact sw_78 hL hi lv I L0 L1 L2 L3 K
  | 79, _ => exact sw_79 hL hi lv I L0 L1 L2 L3 K
  | 80, _ => exact sw_80 hL hi lv I L0 L1 L2 L3 K
  | 81, _ => exact sw_81 hL hi lv I L0 L1 L2 L3 K
  | j + 82, hj => exact E_tswD rfl (by rw [show ((nI (j + 82)).toInt) = ((j + 82 : Nat) : Int) from nI_toInt (by omega), Bool.or_eq_true]; exact .inr (decide_eq_true (by omega))) (K h I)
theorem ls_lt {L i : Nat} (hL : L ≤ 3072) (hi : i ≤ 4000) : nJ L - nJ 6 < nJ i ↔ L < i + 6 := by
  rw [Int32.lt_iff_toInt_lt, Int32.toInt_sub, nJ_toInt (by omega), nJ_toInt (by omega), nJ_toInt (by omega), Int.bmod_eq_of_le (by omega) (by omega)]
  omega
set_option maxRecDepth 20000 in
theorem law_loop {L : Nat} {xs : Nat → Int32} (hL : L ≤ 3072) (n : Nat) : ∀ {h : pm_H} {i : Nat} (lv : List (Nat × Value)), IVQ h → i ≤ 4000 → L < i + 6 * (n + 1) → pm_get lv 0 = some (.retAddr 0) → pm_get lv 1 = some (.ref 0) → pm_get lv 2 = some (.ref 77) → pm_get lv 3 = some (.int (nJ i)) → Ends (pm_tr (lb_all L xs)) (pm_Rt pm_P 100) (18, lv, [], h, 599897, 7298671) RQ1 := by
  have fin : ∀ {h : pm_H} {i : Nat} (lv : List (Nat × Value)), i ≤ 4000 → L < i + 6 → pm_get lv 0 = some (.retAddr 0) → pm_get lv 3 = some (.int (nJ i)) → Ends (pm_tr (lb_all L xs)) (pm_Rt pm_P 100) (18, lv, [], h, 599897, 7298671) RQ1 := by
    intro h i lv hi hlt L0 L3
    refine E_il rfl L3 ?_
    refine E_alr rfl L0 ?_
    refine E_slen rfl hL ?_
    refine E_ci 6 rfl (by decide) ?_
    refine E_bin rfl rfl ?_
    refine E_icT rfl (decide_eq_true ((ls_lt hL hi).mpr hlt)) ?_
    refine E_ci 1 rfl (by decide) ?_
    exact E_rtz rfl (.inr rfl) rfl
  induction n with
  | zero => intro h i lv I hi hn L0 L1 L2 L3; exact fin lv hi (by omega) L0 L3
  | succ n ih =>
    intro h i lv I hi hn L0 L1 L2 L3
    by_cases hlt : L < i + 6
    · exact fin lv hi hlt L0 L3
    · refine E_il rfl L3 ?_
      refine E_alr rfl L0 ?_
      refine E_slen rfl hL ?_
      refine E_ci 6 rfl (by decide) ?_
      refine E_bin rfl rfl ?_
      refine E_icF rfl (decide_eq_false (fun q => hlt ((ls_lt hL hi).mp q))) ?_
      refine E_alr rfl L0 ?_
      refine E_il rfl L3 ?_
      refine E_sld rfl (by omega) hL ?_
      refine E_c rfl ?_
      obtain ⟨j, hj, e⟩ := pk_andE (xs i) (m := 127) 7 rfl
      refine E_bin rfl e ?_
      refine sw_all hL (by omega) lv I L0 L1 L2 L3 (fun h' I' => ?_) j hj
      refine E_inc rfl L3 (nJ_inc6 _) (fun lv1 K3 kp => ?_)
      refine E_goto rfl ?_
      have K0 : pm_get lv1 0 = some (.retAddr 0) := kp 0 _ (by decide) rfl L0
      exact ih lv1 I' (by omega) (by omega) K0 (kp 1 _ (by decide) rfl L1) (kp 2 _ (by decide) rfl L2) K3
set_option maxRecDepth 20000 in
set_option maxHeartbeats 4000000 in
theorem law_pure (L : Nat) (hL : L ≤ 3072) (xs : Nat → Int32) : ∃ h2, pm_Go (pm_tr (lb_all L xs)) (pm_Rt pm_P 100) (0, [(0, .retAddr 0)], [], [], 600000, 7302250) (h2, some (.int 1)) := by
  obtain ⟨h2, r, hg, hr⟩ := law_loop (xs := xs) hL 600 (h := hp0) (i := 0) [(3, .int 0), (2, .ref 77), (1, .ref 0), (0, .retAddr 0)] IVQ_hp0 (by omega) (by omega) rfl rfl rfl rfl
  have hr : r = some (.int 1) := hr
  subst hr
  refine ⟨h2, ?_⟩
  refine Go_st rfl rfl ?_
  refine Go_st rfl rfl ?_
  refine Go_call rfl (rc_16 97) (chkV rfl rfl rfl rfl rfl rfl rfl) ?_
  refine Go_st rfl rfl ?_
  refine Go_st rfl rfl ?_
  refine Go_st rfl rfl ?_
  refine Go_call rfl (rc_17 99) (chkV rfl rfl rfl rfl rfl rfl rfl) ?_
  refine Go_st rfl rfl ?_
  refine Go_st rfl rfl ?_
  refine Go_st rfl rfl ?_
  exact hg
