def wsH23_6 : List Cond := [Cond.code yL_done cL_done 11 (some .boolean)]
set_option maxRecDepth 100000 in
set_option maxHeartbeats 4000000 in
theorem wGt_wsH23_6 : ∀ w ∈ wsH23_6, w ∈ lw_tbl := fun w h => List.mem_singleton.mp h ▸ List.mem_of_getElem? (i := 763) (by rfl)
def wsH23_7 : List Cond := [Cond.methodLink RL 213 yL_thrown, Cond.static yL_thrown, Cond.code yL_thrown cL_thrown 1 (some .boolean), Cond.methodLink RL 210 yL_there, Cond.static yL_there]
set_option maxRecDepth 20000 in
theorem wGt_wsH23_7 : ∀ w ∈ wsH23_7, w ∈ lw_tbl := fun w h => (goodIn_p wsH23_7 [766] (by decide +kernel) (by decide +kernel) w h).1
def wsH23_8 : List Cond := [Cond.code yL_there cL_there 10 (some .boolean)]
set_option maxRecDepth 100000 in
set_option maxHeartbeats 4000000 in
theorem wGt_wsH23_8 : ∀ w ∈ wsH23_8, w ∈ lw_tbl := fun w h => List.mem_singleton.mp h ▸ List.mem_of_getElem? (i := 769) (by rfl)
