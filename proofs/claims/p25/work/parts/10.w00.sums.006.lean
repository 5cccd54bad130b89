section
noncomputable def S119 : Sum1 := (222, [cR 77, cI (-2147483648) 2147483647, cI (-2147483648) 2147483647], [], [125], [(77, 0, 0), (77, 22, 23), (89, 0, 7)], [([cR 77, cI (-2147483648) 2147483647, cI (-2147483648) 2147483647], [], [], some (.inl (cI (-2) 99)))])
theorem q119 : sum_g w0 (pm_Rt pm_P 3) S119 := meth_ok (d := 2) (cuts := []) (spl := []) (K := [0, 1, 2]) (N := 25) (sums := [S118, S114, S116]) aiX9_car (abX9_car w0) (by decide) (List.forall_mem_cons.mpr ⟨sum_up q118 0, List.forall_mem_cons.mpr ⟨sum_up q114 0, List.forall_mem_cons.mpr ⟨sum_up q116 0, fun _ h => absurd h List.not_mem_nil⟩⟩⟩) (by decide +kernel)
end

