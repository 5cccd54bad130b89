/-! the words that the rows need, by their places in the tables (written by tab2.py) -/
theorem wk_t {a : Cond} {l : List Cond} (h : ∀ q ∈ a :: l, q ∈ pm_T) : ∀ q ∈ l, q ∈ pm_T := fun q hq => h q (List.mem_cons_of_mem _ hq)
theorem wk0 {a : Cond} {l : List Cond} (h : ∀ q ∈ a :: l, q ∈ pm_T) : a ∈ pm_T := h a List.mem_cons_self
theorem wk1 {a0 a1 : Cond} {l : List Cond} (h : ∀ q ∈ a0 :: a1 :: l, q ∈ pm_T) : a1 ∈ pm_T := wk0 (wk_t h)
theorem wk2 {a0 a1 a2 : Cond} {l : List Cond} (h : ∀ q ∈ a0 :: a1 :: a2 :: l, q ∈ pm_T) : a2 ∈ pm_T := wk1 (wk_t h)
theorem wk3 {a0 a1 a2 a3 : Cond} {l : List Cond} (h : ∀ q ∈ a0 :: a1 :: a2 :: a3 :: l, q ∈ pm_T) : a3 ∈ pm_T := wk2 (wk_t h)
theorem wk4 {a0 a1 a2 a3 a4 : Cond} {l : List Cond} (h : ∀ q ∈ a0 :: a1 :: a2 :: a3 :: a4 :: l, q ∈ pm_T) : a4 ∈ pm_T := wk3 (wk_t h)
theorem wk5 {a0 a1 a2 a3 a4 a5 : Cond} {l : List Cond} (h : ∀ q ∈ a0 :: a1 :: a2 :: a3 :: a4 :: a5 :: l, q ∈ pm_T) : a5 ∈ pm_T := wk4 (wk_t h)
theorem wk6 {a0 a1 a2 a3 a4 a5 a6 : Cond} {l : List Cond} (h : ∀ q ∈ a0 :: a1 :: a2 :: a3 :: a4 :: a5 :: a6 :: l, q ∈ pm_T) : a6 ∈ pm_T := wk5 (wk_t h)
theorem wk7 {a0 a1 a2 a3 a4 a5 a6 a7 : Cond} {l : List Cond} (h : ∀ q ∈ a0 :: a1 :: a2 :: a3 :: a4 :: a5 :: a6 :: a7 :: l, q ∈ pm_T) : a7 ∈ pm_T := wk6 (wk_t h)
theorem wk8 {a0 a1 a2 a3 a4 a5 a6 a7 a8 : Cond} {l : List Cond} (h : ∀ q ∈ a0 :: a1 :: a2 :: a3 :: a4 :: a5 :: a6 :: a7 :: a8 :: l, q ∈ pm_T) : a8 ∈ pm_T := wk7 (wk_t h)
theorem wk9 {a0 a1 a2 a3 a4 a5 a6 a7 a8 a9 : Cond} {l : List Cond} (h : ∀ q ∈ a0 :: a1 :: a2 :: a3 :: a4 :: a5 :: a6 :: a7 :: a8 :: a9 :: l, q ∈ pm_T) : a9 ∈ pm_T := wk8 (wk_t h)
theorem wk10 {a0 a1 a2 a3 a4 a5 a6 a7 a8 a9 a10 : Cond} {l : List Cond} (h : ∀ q ∈ a0 :: a1 :: a2 :: a3 :: a4 :: a5 :: a6 :: a7 :: a8 :: a9 :: a10 :: l, q ∈ pm_T) : a10 ∈ pm_T := wk9 (wk_t h)
theorem wk11 {a0 a1 a2 a3 a4 a5 a6 a7 a8 a9 a10 a11 : Cond} {l : List Cond} (h : ∀ q ∈ a0 :: a1 :: a2 :: a3 :: a4 :: a5 :: a6 :: a7 :: a8 :: a9 :: a10 :: a11 :: l, q ∈ pm_T) : a11 ∈ pm_T := wk10 (wk_t h)
theorem wk12 {a0 a1 a2 a3 a4 a5 a6 a7 a8 a9 a10 a11 a12 : Cond} {l : List Cond} (h : ∀ q ∈ a0 :: a1 :: a2 :: a3 :: a4 :: a5 :: a6 :: a7 :: a8 :: a9 :: a10 :: a11 :: a12 :: l, q ∈ pm_T) : a12 ∈ pm_T := wk11 (wk_t h)
theorem wk13 {a0 a1 a2 a3 a4 a5 a6 a7 a8 a9 a10 a11 a12 a13 : Cond} {l : List Cond} (h : ∀ q ∈ a0 :: a1 :: a2 :: a3 :: a4 :: a5 :: a6 :: a7 :: a8 :: a9 :: a10 :: a11 :: a12 :: a13 :: l, q ∈ pm_T) : a13 ∈ pm_T := wk12 (wk_t h)
theorem wk14 {a0 a1 a2 a3 a4 a5 a6 a7 a8 a9 a10 a11 a12 a13 a14 : Cond} {l : List Cond} (h : ∀ q ∈ a0 :: a1 :: a2 :: a3 :: a4 :: a5 :: a6 :: a7 :: a8 :: a9 :: a10 :: a11 :: a12 :: a13 :: a14 :: l, q ∈ pm_T) : a14 ∈ pm_T := wk13 (wk_t h)
theorem wk15 {a0 a1 a2 a3 a4 a5 a6 a7 a8 a9 a10 a11 a12 a13 a14 a15 : Cond} {l : List Cond} (h : ∀ q ∈ a0 :: a1 :: a2 :: a3 :: a4 :: a5 :: a6 :: a7 :: a8 :: a9 :: a10 :: a11 :: a12 :: a13 :: a14 :: a15 :: l, q ∈ pm_T) : a15 ∈ pm_T := wk14 (wk_t h)
theorem pm_c0 (k : Nat) {l : List Cond} (h : (((k2_sels lw_privs)).drop k).take l.length = l) (hg : l.all goodWord = true) : ∀ q ∈ l, q ∈ pm_T := by
  intro q hq
  have h1 : q ∈ ((k2_sels lw_privs)) := by rw [← h] at hq; exact List.mem_of_mem_drop (List.mem_of_mem_take hq)
  obtain ⟨i, hi⟩ := List.getElem?_of_mem h1
  exact pm_t0 i hi (List.all_eq_true.mp hg q hq)
theorem pm_c1 (k : Nat) {l : List Cond} (h : ((tables_1_1).drop k).take l.length = l) (hg : l.all goodWord = true) : ∀ q ∈ l, q ∈ pm_T := by
  intro q hq
  have h1 : q ∈ (tables_1_1) := by rw [← h] at hq; exact List.mem_of_mem_drop (List.mem_of_mem_take hq)
  obtain ⟨i, hi⟩ := List.getElem?_of_mem h1
  exact pm_t1 i hi (List.all_eq_true.mp hg q hq)
theorem pm_c2 (k : Nat) {l : List Cond} (h : ((tables_1_2).drop k).take l.length = l) (hg : l.all goodWord = true) : ∀ q ∈ l, q ∈ pm_T := by
  intro q hq
  have h1 : q ∈ (tables_1_2) := by rw [← h] at hq; exact List.mem_of_mem_drop (List.mem_of_mem_take hq)
  obtain ⟨i, hi⟩ := List.getElem?_of_mem h1
  exact pm_t2 i hi (List.all_eq_true.mp hg q hq)
theorem pm_c3 (k : Nat) {l : List Cond} (h : ((tables_1_3).drop k).take l.length = l) (hg : l.all goodWord = true) : ∀ q ∈ l, q ∈ pm_T := by
  intro q hq
  have h1 : q ∈ (tables_1_3) := by rw [← h] at hq; exact List.mem_of_mem_drop (List.mem_of_mem_take hq)
  obtain ⟨i, hi⟩ := List.getElem?_of_mem h1
  exact pm_t3 i hi (List.all_eq_true.mp hg q hq)
theorem pm_c4 (k : Nat) {l : List Cond} (h : ((tables_1_4).drop k).take l.length = l) (hg : l.all goodWord = true) : ∀ q ∈ l, q ∈ pm_T := by
  intro q hq
  have h1 : q ∈ (tables_1_4) := by rw [← h] at hq; exact List.mem_of_mem_drop (List.mem_of_mem_take hq)
  obtain ⟨i, hi⟩ := List.getElem?_of_mem h1
  exact pm_t4 i hi (List.all_eq_true.mp hg q hq)
theorem pm_c5 (k : Nat) {l : List Cond} (h : ((tables_1_5).drop k).take l.length = l) (hg : l.all goodWord = true) : ∀ q ∈ l, q ∈ pm_T := by
  intro q hq
  have h1 : q ∈ (tables_1_5) := by rw [← h] at hq; exact List.mem_of_mem_drop (List.mem_of_mem_take hq)
  obtain ⟨i, hi⟩ := List.getElem?_of_mem h1
  exact pm_t5 i hi (List.all_eq_true.mp hg q hq)
theorem pm_c6 (k : Nat) {l : List Cond} (h : ((tables_1_6).drop k).take l.length = l) (hg : l.all goodWord = true) : ∀ q ∈ l, q ∈ pm_T := by
  intro q hq
  have h1 : q ∈ (tables_1_6) := by rw [← h] at hq; exact List.mem_of_mem_drop (List.mem_of_mem_take hq)
  obtain ⟨i, hi⟩ := List.getElem?_of_mem h1
  exact pm_t6 i hi (List.all_eq_true.mp hg q hq)
theorem pm_c7 (k : Nat) {l : List Cond} (h : ((tables_1_7).drop k).take l.length = l) (hg : l.all goodWord = true) : ∀ q ∈ l, q ∈ pm_T := by
  intro q hq
  have h1 : q ∈ (tables_1_7) := by rw [← h] at hq; exact List.mem_of_mem_drop (List.mem_of_mem_take hq)
  obtain ⟨i, hi⟩ := List.getElem?_of_mem h1
  exact pm_t7 i hi (List.all_eq_true.mp hg q hq)
theorem pm_c8 (k : Nat) {l : List Cond} (h : ((tables_1_8).drop k).take l.length = l) (hg : l.all goodWord = true) : ∀ q ∈ l, q ∈ pm_T := by
  intro q hq
  have h1 : q ∈ (tables_1_8) := by rw [← h] at hq; exact List.mem_of_mem_drop (List.mem_of_mem_take hq)
  obtain ⟨i, hi⟩ := List.getElem?_of_mem h1
  exact pm_t8 i hi (List.all_eq_true.mp hg q hq)
theorem pm_c9 (k : Nat) {l : List Cond} (h : ((tables_1_9).drop k).take l.length = l) (hg : l.all goodWord = true) : ∀ q ∈ l, q ∈ pm_T := by
  intro q hq
  have h1 : q ∈ (tables_1_9) := by rw [← h] at hq; exact List.mem_of_mem_drop (List.mem_of_mem_take hq)
  obtain ⟨i, hi⟩ := List.getElem?_of_mem h1
  exact pm_t9 i hi (List.all_eq_true.mp hg q hq)
