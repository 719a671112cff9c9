set_option maxRecDepth 20000 in
theorem zin_wsX00 : ∀ w ∈ wsX00, w ∈ lw_tbl := by decide +kernel
