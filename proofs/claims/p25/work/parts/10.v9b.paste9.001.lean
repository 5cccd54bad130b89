set_option maxRecDepth 20000 in
theorem paq : sum_g w0 (pm_Rt pm_P 3) (323, [cR 77, cI (-2147483648) 2147483647, cI (-2147483648) 2147483647, cI (-2147483648) 2147483647, cI (-2147483648) 2147483647, cI (-2147483648) 2147483647], [], [], [(77, 0, 0), (80, 0, 239), (81, 0, 59)], [([cR 77, cI (-2147483648) 2147483647, cI (-2147483648) 2147483647, cI (-2147483648) 2147483647, cI (-2147483648) 2147483647, cI (-2147483648) 2147483647], [], [], some (.inl (cI (-8) (-2)))), ([cR 77, cI 0 3, cI 0 60, cI 0 3, cI 0 60, cI 0 60], [], [], some (.inl (cI 0 0)))]) := by
  intro h as hh ha _ _
  match as, ha with
  | [.ref a, .int x, .int i, .int y, .int j, .int n], ⟨h1, _⟩ =>
    have h1 : a = 77 := h1
    subst h1
    obtain ⟨h', r, p1, hh', fr, p2⟩ := sp_paste9E (d := 0) (x := x) (i := i) (y := y) (j := j) (n := n) hh
    refine ⟨h', r, p1, hh', fr, ?_⟩
    rcases p2 with ⟨v, rfl, v1, v2⟩ | ⟨rfl, x1, x2, i1, i2, y1, y2, j1, j2, n1, n2⟩
    · exact ⟨_, List.mem_cons_self, ⟨rfl, ⟨ai_lo x, ai_hi x⟩, ⟨ai_lo i, ai_hi i⟩, ⟨ai_lo y, ai_hi y⟩, ⟨ai_lo j, ai_hi j⟩, ⟨ai_lo n, ai_hi n⟩, trivial⟩, fun _ hq => absurd hq List.not_mem_nil, fun _ hq => absurd hq List.not_mem_nil, ⟨v1, v2⟩⟩
    · exact ⟨_, List.mem_cons_of_mem _ List.mem_cons_self, ⟨rfl, ⟨x1, x2⟩, ⟨i1, i2⟩, ⟨y1, y2⟩, ⟨j1, j2⟩, ⟨n1, n2⟩, trivial⟩, fun _ hq => absurd hq List.not_mem_nil, fun _ hq => absurd hq List.not_mem_nil, ⟨by decide, by decide⟩⟩

