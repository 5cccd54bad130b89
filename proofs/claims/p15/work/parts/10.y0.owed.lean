/-! what is proved by hand, as the checks use it (written by emit.py) -/
noncomputable def So0 : Sum1 := (230, [cL (-9223372036854775808) 9223372036854775807, cL 1 1], [], [], [], [([cL (-9223372036854775808) 9223372036854775807, cL 1 1], [], [], some (.inl (cL 1 9223372036854775807)))])
theorem qo0 : sum_g w0 (pm_Rt pm_P 56) So0 := common_sum (-9223372036854775808) 9223372036854775807 1 1 (by decide) (by decide)
noncomputable def So1 : Sum1 := (230, [cL (-9223372036854775808) 9223372036854775807, cL 1 100000000], [], [], [], [([cL (-9223372036854775808) 9223372036854775807, cL 1 100000000], [], [], some (.inl (cL 1 9223372036854775807)))])
theorem qo1 : sum_g w0 (pm_Rt pm_P 56) So1 := common_sum (-9223372036854775808) 9223372036854775807 1 100000000 (by decide) (by decide)
noncomputable def So2 : Sum1 := (230, [cL (-9223372036854775808) 9223372036854775807, cL 2 40320], [], [], [], [([cL (-9223372036854775808) 9223372036854775807, cL 2 40320], [], [], some (.inl (cL 1 9223372036854775807)))])
theorem qo2 : sum_g w0 (pm_Rt pm_P 56) So2 := common_sum (-9223372036854775808) 9223372036854775807 2 40320 (by decide) (by decide)
