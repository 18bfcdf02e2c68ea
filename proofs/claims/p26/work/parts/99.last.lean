theorem zz_in : ∀ w ∈ wsX00, w ∈ lw_tbl := by decide +kernel
