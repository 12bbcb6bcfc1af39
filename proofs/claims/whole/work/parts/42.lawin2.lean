set_option maxRecDepth 20000 in
theorem wsI_wsL_law0_r15 : ∀ w ∈ wsL_law0_r15, w ∈ lw_tbl := by decide +kernel
set_option maxRecDepth 20000 in
theorem wsI_wsL_law0_r16 : ∀ w ∈ wsL_law0_r16, w ∈ lw_tbl := by decide +kernel
set_option maxRecDepth 20000 in
theorem wsI_wsL_law0_r17 : ∀ w ∈ wsL_law0_r17, w ∈ lw_tbl := by decide +kernel
set_option maxRecDepth 20000 in
theorem wsI_wsL_law0_r18 : ∀ w ∈ wsL_law0_r18, w ∈ lw_tbl := by decide +kernel
set_option maxRecDepth 20000 in
theorem wsI_wsL_law0_r19 : ∀ w ∈ wsL_law0_r19, w ∈ lw_tbl := by decide +kernel
set_option maxRecDepth 20000 in
theorem wsI_wsX50 : ∀ w ∈ wsX50, w ∈ lw_tbl := by decide +kernel
set_option maxRecDepth 20000 in
theorem wsI_wsX60 : ∀ w ∈ wsX60, w ∈ lw_tbl := by decide +kernel
