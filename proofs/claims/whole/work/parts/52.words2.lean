set_option maxRecDepth 100000 in
theorem wsU0_in : ∀ w ∈ wsX00, w ∈ lw_tbl := by decide +kernel
