def wsH23_0 : List Cond := [Cond.instanceMethod yX5_simulate, Cond.selects RX5 yX5_simulate yX5_simulate, Cond.code yX5_simulate cX5_simulate 8 (some .int), Cond.constantLong RX5 197 (6364136223846793005), Cond.constantLong RX5 199 (1442695040888963407), Cond.methodLink RX5 201 yX5_takeTurn, Cond.instanceMethod yX5_takeTurn, Cond.selects RX5 yX5_takeTurn yX5_takeTurn]
set_option maxRecDepth 20000 in
theorem wGt_wsH23_0 : ∀ w ∈ wsH23_0, w ∈ lw_tbl := fun w h => (goodIn_p wsH23_0 [745] (by decide +kernel) (by decide +kernel) w h).1
def wsH23_1 : List Cond := [Cond.code yX5_takeTurn cX5_takeTurn 4 none, Cond.methodLink RL 199 yL_alike, Cond.static yL_alike]
set_option maxRecDepth 20000 in
theorem wGt_wsH23_1 : ∀ w ∈ wsH23_1, w ∈ lw_tbl := fun w h => (goodIn_p wsH23_1 [751] (by decide +kernel) (by decide +kernel) w h).1
def wsH23_2 : List Cond := [Cond.code yL_alike cL_alike 5 (some .boolean)]
set_option maxRecDepth 100000 in
set_option maxHeartbeats 4000000 in
theorem wGt_wsH23_2 : ∀ w ∈ wsH23_2, w ∈ lw_tbl := fun w h => List.mem_singleton.mp h ▸ List.mem_of_getElem? (i := 760) (by rfl)
