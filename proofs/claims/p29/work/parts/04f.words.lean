def wsH22_0 : List Cond := [Cond.instanceMethod yX5_hold, Cond.selects RX5 yX5_hold yX5_hold, Cond.code yX5_hold cX5_hold 3 (some .int), Cond.methodLink RL 195 yL_refuses, Cond.static yL_refuses]
set_option maxRecDepth 20000 in
theorem wGt_wsH22_0 : ∀ w ∈ wsH22_0, w ∈ lw_tbl := fun w h => (goodIn_p wsH22_0 [724] (by decide +kernel) (by decide +kernel) w h).1
def wsH22_1 : List Cond := [Cond.code yL_refuses cL_refuses 5 (some .boolean)]
set_option maxRecDepth 100000 in
set_option maxHeartbeats 4000000 in
theorem wGt_wsH22_1 : ∀ w ∈ wsH22_1, w ∈ lw_tbl := fun w h => List.mem_singleton.mp h ▸ List.mem_of_getElem? (i := 242) (by rfl)
def wsH22_2 : List Cond := [Cond.constantLong RL 180 (100000), Cond.methodLink RL 176 yL_doScript, Cond.static yL_doScript, Cond.codeWith yL_doScript cL_doScript 5 (some .int) [(0, 6, 7, 20)], Cond.methodLink RL 16 yX5_runScript, Cond.instanceMethod yX5_runScript, Cond.selects RX5 yX5_runScript yX5_runScript, Cond.code yX5_runScript cX5_runScript 7 (some .int)]
set_option maxRecDepth 20000 in
theorem wGt_wsH22_2 : ∀ w ∈ wsH22_2, w ∈ lw_tbl := fun w h => (goodIn_p wsH22_2 [731] (by decide +kernel) (by decide +kernel) w h).1
