set_option maxRecDepth 100000 in
theorem inr_1 : ∀ w ∈ wsL_law_r1, w ∈ lw_tbl := by decide +kernel
set_option maxRecDepth 100000 in
theorem inr_2 : ∀ w ∈ wsL_law_r2, w ∈ lw_tbl := by decide +kernel
set_option maxRecDepth 100000 in
theorem inr_3 : ∀ w ∈ wsL_law_r3, w ∈ lw_tbl := by decide +kernel
set_option maxRecDepth 100000 in
theorem inr_4 : ∀ w ∈ wsL_law_r4, w ∈ lw_tbl := by decide +kernel
set_option maxRecDepth 100000 in
theorem inr_5 : ∀ w ∈ wsL_law_r5, w ∈ lw_tbl := by decide +kernel
set_option maxRecDepth 100000 in
theorem inr_6 : ∀ w ∈ wsL_law_r6, w ∈ lw_tbl := by decide +kernel
set_option maxRecDepth 100000 in
theorem inr_7 : ∀ w ∈ wsL_law_r7, w ∈ lw_tbl := by decide +kernel
set_option maxRecDepth 100000 in
theorem inr_8 : ∀ w ∈ wsL_law_r8, w ∈ lw_tbl := by decide +kernel
set_option maxRecDepth 100000 in
theorem inr_9 : ∀ w ∈ wsL_law_r9, w ∈ lw_tbl := by decide +kernel
set_option maxRecDepth 100000 in
theorem inr_10 : ∀ w ∈ wsL_law_r10, w ∈ lw_tbl := by decide +kernel
set_option maxRecDepth 100000 in
theorem inr_11 : ∀ w ∈ wsL_law_r11, w ∈ lw_tbl := by decide +kernel
set_option maxRecDepth 100000 in
theorem inr_12 : ∀ w ∈ wsL_law_r12, w ∈ lw_tbl := by decide +kernel
set_option maxRecDepth 100000 in
theorem inr_13 : ∀ w ∈ wsL_law_r13, w ∈ lw_tbl := by decide +kernel
set_option maxRecDepth 100000 in
theorem inr_14 : ∀ w ∈ wsL_law_r14, w ∈ lw_tbl := by decide +kernel
set_option maxRecDepth 100000 in
theorem inr_15 : ∀ w ∈ wsL_law_r15, w ∈ lw_tbl := by decide +kernel
set_option maxRecDepth 100000 in
theorem inr_16 : ∀ w ∈ wsL_law_r16, w ∈ lw_tbl := by decide +kernel
set_option maxRecDepth 100000 in
theorem inr_17 : ∀ w ∈ wsL_law_r17, w ∈ lw_tbl := by decide +kernel
set_option maxRecDepth 100000 in
theorem inr_18 : ∀ w ∈ wsL_law_r18, w ∈ lw_tbl := by decide +kernel
set_option maxRecDepth 100000 in
theorem inr_19 : ∀ w ∈ wsL_law_r19, w ∈ lw_tbl := by decide +kernel
