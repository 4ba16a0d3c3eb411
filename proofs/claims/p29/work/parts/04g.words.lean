def wsH22_3 : List Cond := [Cond.constantLong RX5 191 (100000), Cond.methodLink RX5 193 yX5_doesCommand, Cond.instanceMethod yX5_doesCommand, Cond.selects RX5 yX5_doesCommand yX5_doesCommand, Cond.code yX5_doesCommand cX5_doesCommand 8 (some .boolean), Cond.methodLink RX5 204 Lib.Math.min.name, Cond.methodLink RL 182 yL_doSimulate, Cond.static yL_doSimulate]
set_option maxRecDepth 20000 in
theorem wGt_wsH22_3 : ∀ w ∈ wsH22_3, w ∈ lw_tbl := fun w h => (goodIn_p wsH22_3 [736] (by decide +kernel) (by decide +kernel) w h).1
def wsH22_4 : List Cond := [Cond.codeWith yL_doSimulate cL_doSimulate 5 (some .int) [(0, 6, 7, 20)], Cond.methodLink RL 23 yX5_simulate]
set_option maxRecDepth 20000 in
theorem wGt_wsH22_4 : ∀ w ∈ wsH22_4, w ∈ lw_tbl := fun w h => (goodIn_p wsH22_4 [] (by decide +kernel) (by decide +kernel) w h).1
theorem wGt_wsL_law0_r22 : ∀ w ∈ wsL_law0_r22, w ∈ lw_tbl := show ∀ w ∈ wsH22_0 ++ (wsH22_1 ++ (wsH22_2 ++ (wsH22_3 ++ (wsH22_4)))), w ∈ lw_tbl from wG_app wGt_wsH22_0 (wG_app wGt_wsH22_1 (wG_app wGt_wsH22_2 (wG_app wGt_wsH22_3 (wGt_wsH22_4))))
