theorem wGt_wsL_law0_r23 : ∀ w ∈ wsL_law0_r23, w ∈ lw_tbl := show ∀ w ∈ wsH23_0 ++ (wsH23_1 ++ (wsH23_2 ++ (wsH23_3 ++ (wsH23_4 ++ (wsH23_5 ++ (wsH23_6 ++ (wsH23_7 ++ (wsH23_8)))))))), w ∈ lw_tbl from wG_app wGt_wsH23_0 (wG_app wGt_wsH23_1 (wG_app wGt_wsH23_2 (wG_app wGt_wsH23_3 (wG_app wGt_wsH23_4 (wG_app wGt_wsH23_5 (wG_app wGt_wsH23_6 (wG_app wGt_wsH23_7 (wGt_wsH23_8))))))))
set_option maxRecDepth 20000 in
theorem wGt_wsX50 : ∀ w ∈ wsX50, w ∈ lw_tbl := by decide +kernel
set_option maxRecDepth 20000 in
theorem wGt_wsX40 : ∀ w ∈ wsX40, w ∈ lw_tbl := by decide +kernel
