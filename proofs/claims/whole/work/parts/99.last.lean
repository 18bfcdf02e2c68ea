theorem zz_good : lw_tbl.all goodWord = true := by decide +kernel
theorem zz_in : ∀ w ∈ wsX00, w ∈ lw_tbl := by decide +kernel
