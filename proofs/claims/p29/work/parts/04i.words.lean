def wsH23_3 : List Cond := [Cond.methodLink RL 203 yL_sound, Cond.static yL_sound]
set_option maxRecDepth 20000 in
theorem wGt_wsH23_3 : ∀ w ∈ wsH23_3, w ∈ lw_tbl := fun w h => (goodIn_p wsH23_3 [] (by decide +kernel) (by decide +kernel) w h).1
def wsH23_4 : List Cond := [Cond.code yL_sound cL_sound 15 (some .boolean)]
set_option maxRecDepth 100000 in
set_option maxHeartbeats 4000000 in
theorem wGt_wsH23_4 : ∀ w ∈ wsH23_4, w ∈ lw_tbl := fun w h => List.mem_singleton.mp h ▸ List.mem_of_getElem? (i := 754) (by rfl)
def wsH23_5 : List Cond := [Cond.methodLink RL 207 yL_done, Cond.static yL_done]
set_option maxRecDepth 20000 in
theorem wGt_wsH23_5 : ∀ w ∈ wsH23_5, w ∈ lw_tbl := fun w h => (goodIn_p wsH23_5 [] (by decide +kernel) (by decide +kernel) w h).1
