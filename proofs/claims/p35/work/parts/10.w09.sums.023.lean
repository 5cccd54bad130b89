section
theorem q961 : sum_g w0 (pm_Rt pm_P 3) S961 := paq
end

