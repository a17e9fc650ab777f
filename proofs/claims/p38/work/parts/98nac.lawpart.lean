def wN_0 : List Cond := [Cond.methodLink RL 13 yX11_feed, Cond.instanceMethod yX11_feed, Cond.selects RX11 yX11_feed yX11_feed, Cond.methodLink RL 17 yX12_feed, Cond.instanceMethod yX12_feed, Cond.selects RX12 yX12_feed yX12_feed, Cond.methodLink RL 18 yX11_end, Cond.instanceMethod yX11_end, Cond.selects RX11 yX11_end yX11_end, Cond.methodLink RL 22 yX12_end, Cond.instanceMethod yX12_end, Cond.selects RX12 yX12_end yX12_end, Cond.methodLink RL 23 yX11_heap, Cond.instanceMethod yX11_heap, Cond.selects RX11 yX11_heap yX11_heap, Cond.methodLink RL 27 yX12_heap, Cond.instanceMethod yX12_heap, Cond.selects RX12 yX12_heap yX12_heap, Cond.methodLink RL 28 yX11_fault, Cond.instanceMethod yX11_fault, Cond.selects RX11 yX11_fault yX11_fault, Cond.methodLink RL 32 yX12_fault, Cond.instanceMethod yX12_fault, Cond.selects RX12 yX12_fault yX12_fault]
def wN_1 : List Cond := [Cond.methodLink RL 33 yX11_has, Cond.instanceMethod yX11_has, Cond.selects RX11 yX11_has yX11_has, Cond.methodLink RL 36 yX12_has, Cond.instanceMethod yX12_has, Cond.selects RX12 yX12_has yX12_has, Cond.methodLink RL 37 yX11_word, Cond.instanceMethod yX11_word, Cond.selects RX11 yX11_word yX11_word, Cond.methodLink RL 41 yX12_word, Cond.instanceMethod yX12_word, Cond.selects RX12 yX12_word yX12_word, Cond.methodLink RL 42 yX11_stage, Cond.instanceMethod yX11_stage, Cond.selects RX11 yX11_stage yX11_stage, Cond.methodLink RL 45 yX12_stage, Cond.instanceMethod yX12_stage, Cond.selects RX12 yX12_stage yX12_stage, Cond.methodLink RL 46 yX11_kept, Cond.instanceMethod yX11_kept, Cond.selects RX11 yX11_kept yX11_kept, Cond.methodLink RL 49 yX12_kept, Cond.instanceMethod yX12_kept, Cond.selects RX12 yX12_kept yX12_kept]
def wN_2 : List Cond := [Cond.methodLink RL 50 yX11_cell, Cond.instanceMethod yX11_cell, Cond.selects RX11 yX11_cell yX11_cell, Cond.methodLink RL 53 yX12_cell, Cond.instanceMethod yX12_cell, Cond.selects RX12 yX12_cell yX12_cell, Cond.methodLink RL 54 yX11_cellOf, Cond.instanceMethod yX11_cellOf, Cond.selects RX11 yX11_cellOf yX11_cellOf, Cond.methodLink RL 57 yX12_cellOf, Cond.instanceMethod yX12_cellOf, Cond.selects RX12 yX12_cellOf yX12_cellOf, Cond.methodLink RL 58 yX11_goes, Cond.instanceMethod yX11_goes, Cond.selects RX11 yX11_goes yX11_goes, Cond.methodLink RL 61 yX12_goes, Cond.instanceMethod yX12_goes, Cond.selects RX12 yX12_goes yX12_goes, Cond.methodLink RL 62 yX11_comes, Cond.instanceMethod yX11_comes, Cond.selects RX11 yX11_comes yX11_comes, Cond.methodLink RL 65 yX12_comes, Cond.instanceMethod yX12_comes, Cond.selects RX12 yX12_comes yX12_comes]
def wN_3 : List Cond := [Cond.methodLink RL 66 yX11_block, Cond.instanceMethod yX11_block, Cond.selects RX11 yX11_block yX11_block, Cond.methodLink RL 69 yX12_block, Cond.instanceMethod yX12_block, Cond.selects RX12 yX12_block yX12_block, Cond.methodLink RL 70 yX11_chain, Cond.instanceMethod yX11_chain, Cond.selects RX11 yX11_chain yX11_chain, Cond.methodLink RL 73 yX12_chain, Cond.instanceMethod yX12_chain, Cond.selects RX12 yX12_chain yX12_chain, Cond.methodLink RL 74 yX11_longest, Cond.instanceMethod yX11_longest, Cond.selects RX11 yX11_longest yX11_longest, Cond.methodLink RL 77 yX12_longest, Cond.instanceMethod yX12_longest, Cond.selects RX12 yX12_longest yX12_longest, Cond.methodLink RL 78 yX11_steps, Cond.instanceMethod yX11_steps, Cond.selects RX11 yX11_steps yX11_steps, Cond.methodLink RL 81 yX12_steps, Cond.instanceMethod yX12_steps, Cond.selects RX12 yX12_steps yX12_steps]
def wN_4 : List Cond := [Cond.methodLink RL 82 yX11_room, Cond.instanceMethod yX11_room, Cond.selects RX11 yX11_room yX11_room, Cond.methodLink RL 85 yX12_room, Cond.instanceMethod yX12_room, Cond.selects RX12 yX12_room yX12_room, Cond.methodLink RL 86 yX11_far, Cond.instanceMethod yX11_far, Cond.selects RX11 yX11_far yX11_far, Cond.methodLink RL 89 yX12_far, Cond.instanceMethod yX12_far, Cond.selects RX12 yX12_far yX12_far, Cond.methodLink RL 90 yX11_way, Cond.instanceMethod yX11_way, Cond.selects RX11 yX11_way yX11_way, Cond.methodLink RL 93 yX12_way, Cond.instanceMethod yX12_way, Cond.selects RX12 yX12_way yX12_way, Cond.methodLink RL 94 yX11_keeps, Cond.instanceMethod yX11_keeps, Cond.selects RX11 yX11_keeps yX11_keeps, Cond.methodLink RL 97 yX12_keeps, Cond.instanceMethod yX12_keeps, Cond.selects RX12 yX12_keeps yX12_keeps]
def wN_5 : List Cond := [Cond.methodLink RL 98 yX11_retains, Cond.instanceMethod yX11_retains, Cond.selects RX11 yX11_retains yX11_retains, Cond.methodLink RL 101 yX12_retains, Cond.instanceMethod yX12_retains, Cond.selects RX12 yX12_retains yX12_retains, Cond.methodLink RL 102 yX11_best, Cond.instanceMethod yX11_best, Cond.selects RX11 yX11_best yX11_best, Cond.methodLink RL 105 yX12_best, Cond.instanceMethod yX12_best, Cond.selects RX12 yX12_best yX12_best, Cond.methodLink RL 106 yX11_found, Cond.instanceMethod yX11_found, Cond.selects RX11 yX11_found yX11_found, Cond.methodLink RL 109 yX12_found, Cond.instanceMethod yX12_found, Cond.selects RX12 yX12_found yX12_found, Cond.methodLink RL 110 yX11_remember, Cond.instanceMethod yX11_remember, Cond.selects RX11 yX11_remember yX11_remember, Cond.methodLink RL 113 yX12_remember, Cond.instanceMethod yX12_remember, Cond.selects RX12 yX12_remember yX12_remember]
def wN_6 : List Cond := [Cond.methodLink RL 114 yX11_alike, Cond.instanceMethod yX11_alike, Cond.selects RX11 yX11_alike yX11_alike, Cond.methodLink RL 117 yX12_alike, Cond.instanceMethod yX12_alike, Cond.selects RX12 yX12_alike yX12_alike, Cond.methodLink RL 118 yX11_see, Cond.instanceMethod yX11_see, Cond.selects RX11 yX11_see yX11_see, Cond.methodLink RL 121 yX12_see, Cond.instanceMethod yX12_see, Cond.selects RX12 yX12_see yX12_see, Cond.methodLink RL 122 yX11_then, Cond.instanceMethod yX11_then, Cond.selects RX11 yX11_then yX11_then, Cond.methodLink RL 125 yX12_then, Cond.instanceMethod yX12_then, Cond.selects RX12 yX12_then yX12_then, Cond.methodLink RL 126 yX11_tells, Cond.instanceMethod yX11_tells, Cond.selects RX11 yX11_tells yX11_tells, Cond.methodLink RL 129 yX12_tells, Cond.instanceMethod yX12_tells, Cond.selects RX12 yX12_tells yX12_tells]
def wN_7 : List Cond := [Cond.methodLink RL 130 yX11_run, Cond.instanceMethod yX11_run, Cond.selects RX11 yX11_run yX11_run, Cond.methodLink RL 133 yX12_run, Cond.instanceMethod yX12_run, Cond.selects RX12 yX12_run yX12_run, Cond.methodLink RL 134 yX11_failed, Cond.instanceMethod yX11_failed, Cond.selects RX11 yX11_failed yX11_failed, Cond.methodLink RL 137 yX12_failed, Cond.instanceMethod yX12_failed, Cond.selects RX12 yX12_failed yX12_failed, Cond.methodLink RL 138 yX11_collect, Cond.instanceMethod yX11_collect, Cond.selects RX11 yX11_collect yX11_collect, Cond.methodLink RL 141 yX12_collect, Cond.instanceMethod yX12_collect, Cond.selects RX12 yX12_collect yX12_collect, Cond.methodLink RL 142 yX11_begin, Cond.instanceMethod yX11_begin, Cond.selects RX11 yX11_begin yX11_begin, Cond.methodLink RL 145 yX12_begin, Cond.instanceMethod yX12_begin, Cond.selects RX12 yX12_begin yX12_begin]
def wN_8 : List Cond := [Cond.methodLink RL 146 yX11_step, Cond.instanceMethod yX11_step, Cond.selects RX11 yX11_step yX11_step, Cond.methodLink RL 149 yX12_step, Cond.instanceMethod yX12_step, Cond.selects RX12 yX12_step yX12_step, Cond.methodLink RL 150 yX11_method, Cond.instanceMethod yX11_method, Cond.selects RX11 yX11_method yX11_method, Cond.methodLink RL 153 yX12_method, Cond.instanceMethod yX12_method, Cond.selects RX12 yX12_method yX12_method, Cond.methodLink RL 154 yX11_chance, Cond.instanceMethod yX11_chance, Cond.selects RX11 yX11_chance yX11_chance, Cond.methodLink RL 157 yX12_chance, Cond.instanceMethod yX12_chance, Cond.selects RX12 yX12_chance yX12_chance, Cond.methodLink RL 158 yX11_undo, Cond.instanceMethod yX11_undo, Cond.selects RX11 yX11_undo yX11_undo, Cond.methodLink RL 162 yX12_undo, Cond.instanceMethod yX12_undo, Cond.selects RX12 yX12_undo yX12_undo]
def wN_9 : List Cond := [Cond.methodLink RL 163 yX11_seed, Cond.instanceMethod yX11_seed, Cond.selects RX11 yX11_seed yX11_seed, Cond.methodLink RL 166 yX12_seed, Cond.instanceMethod yX12_seed, Cond.selects RX12 yX12_seed yX12_seed, Cond.methodLink RL 167 yX11_image, Cond.instanceMethod yX11_image, Cond.selects RX11 yX11_image yX11_image, Cond.methodLink RL 170 yX12_image, Cond.instanceMethod yX12_image, Cond.selects RX12 yX12_image yX12_image, Cond.methodLink RL 171 yX11_octet, Cond.instanceMethod yX11_octet, Cond.selects RX11 yX11_octet yX11_octet, Cond.methodLink RL 174 yX12_octet, Cond.instanceMethod yX12_octet, Cond.selects RX12 yX12_octet yX12_octet, Cond.methodLink RL 175 yX11_on, Cond.instanceMethod yX11_on, Cond.selects RX11 yX11_on yX11_on, Cond.methodLink RL 178 yX12_on, Cond.instanceMethod yX12_on, Cond.selects RX12 yX12_on yX12_on]
def wN_10 : List Cond := [Cond.methodLink RL 179 yX11_status, Cond.instanceMethod yX11_status, Cond.selects RX11 yX11_status yX11_status, Cond.methodLink RL 182 yX12_status, Cond.instanceMethod yX12_status, Cond.selects RX12 yX12_status yX12_status]
def wL : List Cond := wN_0 ++ (wN_1 ++ (wN_2 ++ (wN_3 ++ (wN_4 ++ (wN_5 ++ (wN_6 ++ (wN_7 ++ (wN_8 ++ (wN_9 ++ (wN_10))))))))))
theorem eN_0 : ∀ w ∈ wN_0, w ∈ wL := fun _ h => (List.mem_append_left _ h)
theorem eN_1 : ∀ w ∈ wN_1, w ∈ wL := fun _ h => (List.mem_append_right _ (List.mem_append_left _ h))
theorem eN_2 : ∀ w ∈ wN_2, w ∈ wL := fun _ h => (List.mem_append_right _ (List.mem_append_right _ (List.mem_append_left _ h)))
theorem eN_3 : ∀ w ∈ wN_3, w ∈ wL := fun _ h => (List.mem_append_right _ (List.mem_append_right _ (List.mem_append_right _ (List.mem_append_left _ h))))
theorem eN_4 : ∀ w ∈ wN_4, w ∈ wL := fun _ h => (List.mem_append_right _ (List.mem_append_right _ (List.mem_append_right _ (List.mem_append_right _ (List.mem_append_left _ h)))))
theorem eN_5 : ∀ w ∈ wN_5, w ∈ wL := fun _ h => (List.mem_append_right _ (List.mem_append_right _ (List.mem_append_right _ (List.mem_append_right _ (List.mem_append_right _ (List.mem_append_left _ h))))))
theorem eN_6 : ∀ w ∈ wN_6, w ∈ wL := fun _ h => (List.mem_append_right _ (List.mem_append_right _ (List.mem_append_right _ (List.mem_append_right _ (List.mem_append_right _ (List.mem_append_right _ (List.mem_append_left _ h)))))))
theorem eN_7 : ∀ w ∈ wN_7, w ∈ wL := fun _ h => (List.mem_append_right _ (List.mem_append_right _ (List.mem_append_right _ (List.mem_append_right _ (List.mem_append_right _ (List.mem_append_right _ (List.mem_append_right _ (List.mem_append_left _ h))))))))
theorem eN_8 : ∀ w ∈ wN_8, w ∈ wL := fun _ h => (List.mem_append_right _ (List.mem_append_right _ (List.mem_append_right _ (List.mem_append_right _ (List.mem_append_right _ (List.mem_append_right _ (List.mem_append_right _ (List.mem_append_right _ (List.mem_append_left _ h)))))))))
theorem eN_9 : ∀ w ∈ wN_9, w ∈ wL := fun _ h => (List.mem_append_right _ (List.mem_append_right _ (List.mem_append_right _ (List.mem_append_right _ (List.mem_append_right _ (List.mem_append_right _ (List.mem_append_right _ (List.mem_append_right _ (List.mem_append_right _ (List.mem_append_left _ h))))))))))
theorem eN_10 : ∀ w ∈ wN_10, w ∈ wL := fun _ h => (List.mem_append_right _ (List.mem_append_right _ (List.mem_append_right _ (List.mem_append_right _ (List.mem_append_right _ (List.mem_append_right _ (List.mem_append_right _ (List.mem_append_right _ (List.mem_append_right _ (List.mem_append_right _ h))))))))))
theorem q_1582 : Cond.methodLink RL 13 yX11_feed ∈ wL := eN_0 _ (List.mem_of_getElem? (i := 0) rfl)
theorem u_1582 : Cond.methodLink RL 13 yX11_feed ∈ lw_tbl := tin_3 _ (List.mem_of_getElem? (i := 25) rfl)
theorem q_1583 : Cond.instanceMethod yX11_feed ∈ wL := eN_0 _ (List.mem_of_getElem? (i := 1) rfl)
theorem u_1583 : Cond.instanceMethod yX11_feed ∈ lw_tbl := tin_3 _ (List.mem_of_getElem? (i := 26) rfl)
theorem q_1584 : Cond.selects RX11 yX11_feed yX11_feed ∈ wL := eN_0 _ (List.mem_of_getElem? (i := 2) rfl)
theorem u_1584 : Cond.selects RX11 yX11_feed yX11_feed ∈ lw_tbl := tin_3 _ (List.mem_of_getElem? (i := 27) rfl)
theorem q_1585 : Cond.methodLink RL 17 yX12_feed ∈ wL := eN_0 _ (List.mem_of_getElem? (i := 3) rfl)
theorem u_1585 : Cond.methodLink RL 17 yX12_feed ∈ lw_tbl := tin_7 _ (List.mem_of_getElem? (i := 130) rfl)
theorem q_1586 : Cond.instanceMethod yX12_feed ∈ wL := eN_0 _ (List.mem_of_getElem? (i := 4) rfl)
theorem u_1586 : Cond.instanceMethod yX12_feed ∈ lw_tbl := tin_7 _ (List.mem_of_getElem? (i := 131) rfl)
theorem q_1587 : Cond.selects RX12 yX12_feed yX12_feed ∈ wL := eN_0 _ (List.mem_of_getElem? (i := 5) rfl)
theorem u_1587 : Cond.selects RX12 yX12_feed yX12_feed ∈ lw_tbl := tin_7 _ (List.mem_of_getElem? (i := 132) rfl)
theorem q_1588 : Cond.methodLink RL 18 yX11_end ∈ wL := eN_0 _ (List.mem_of_getElem? (i := 6) rfl)
theorem u_1588 : Cond.methodLink RL 18 yX11_end ∈ lw_tbl := tin_3 _ (List.mem_of_getElem? (i := 37) rfl)
theorem q_1589 : Cond.instanceMethod yX11_end ∈ wL := eN_0 _ (List.mem_of_getElem? (i := 7) rfl)
theorem u_1589 : Cond.instanceMethod yX11_end ∈ lw_tbl := tin_3 _ (List.mem_of_getElem? (i := 38) rfl)
theorem q_1590 : Cond.selects RX11 yX11_end yX11_end ∈ wL := eN_0 _ (List.mem_of_getElem? (i := 8) rfl)
theorem u_1590 : Cond.selects RX11 yX11_end yX11_end ∈ lw_tbl := tin_3 _ (List.mem_of_getElem? (i := 39) rfl)
theorem q_1591 : Cond.methodLink RL 22 yX12_end ∈ wL := eN_0 _ (List.mem_of_getElem? (i := 9) rfl)
theorem u_1591 : Cond.methodLink RL 22 yX12_end ∈ lw_tbl := tin_7 _ (List.mem_of_getElem? (i := 138) rfl)
theorem q_1592 : Cond.instanceMethod yX12_end ∈ wL := eN_0 _ (List.mem_of_getElem? (i := 10) rfl)
theorem u_1592 : Cond.instanceMethod yX12_end ∈ lw_tbl := tin_7 _ (List.mem_of_getElem? (i := 139) rfl)
theorem q_1593 : Cond.selects RX12 yX12_end yX12_end ∈ wL := eN_0 _ (List.mem_of_getElem? (i := 11) rfl)
theorem u_1593 : Cond.selects RX12 yX12_end yX12_end ∈ lw_tbl := tin_7 _ (List.mem_of_getElem? (i := 140) rfl)
theorem q_1594 : Cond.methodLink RL 23 yX11_heap ∈ wL := eN_0 _ (List.mem_of_getElem? (i := 12) rfl)
theorem u_1594 : Cond.methodLink RL 23 yX11_heap ∈ lw_tbl := tin_3 _ (List.mem_of_getElem? (i := 45) rfl)
theorem q_1595 : Cond.instanceMethod yX11_heap ∈ wL := eN_0 _ (List.mem_of_getElem? (i := 13) rfl)
theorem u_1595 : Cond.instanceMethod yX11_heap ∈ lw_tbl := tin_3 _ (List.mem_of_getElem? (i := 46) rfl)
theorem q_1596 : Cond.selects RX11 yX11_heap yX11_heap ∈ wL := eN_0 _ (List.mem_of_getElem? (i := 14) rfl)
theorem u_1596 : Cond.selects RX11 yX11_heap yX11_heap ∈ lw_tbl := tin_3 _ (List.mem_of_getElem? (i := 47) rfl)
theorem q_1597 : Cond.methodLink RL 27 yX12_heap ∈ wL := eN_0 _ (List.mem_of_getElem? (i := 15) rfl)
theorem u_1597 : Cond.methodLink RL 27 yX12_heap ∈ lw_tbl := tin_7 _ (List.mem_of_getElem? (i := 158) rfl)
theorem q_1598 : Cond.instanceMethod yX12_heap ∈ wL := eN_0 _ (List.mem_of_getElem? (i := 16) rfl)
theorem u_1598 : Cond.instanceMethod yX12_heap ∈ lw_tbl := tin_7 _ (List.mem_of_getElem? (i := 159) rfl)
theorem q_1599 : Cond.selects RX12 yX12_heap yX12_heap ∈ wL := eN_0 _ (List.mem_of_getElem? (i := 17) rfl)
theorem u_1599 : Cond.selects RX12 yX12_heap yX12_heap ∈ lw_tbl := tin_7 _ (List.mem_of_getElem? (i := 160) rfl)
theorem q_1600 : Cond.methodLink RL 28 yX11_fault ∈ wL := eN_0 _ (List.mem_of_getElem? (i := 18) rfl)
theorem u_1600 : Cond.methodLink RL 28 yX11_fault ∈ lw_tbl := tin_4 _ (List.mem_of_getElem? (i := 8) rfl)
theorem q_1601 : Cond.instanceMethod yX11_fault ∈ wL := eN_0 _ (List.mem_of_getElem? (i := 19) rfl)
theorem u_1601 : Cond.instanceMethod yX11_fault ∈ lw_tbl := tin_4 _ (List.mem_of_getElem? (i := 9) rfl)
theorem q_1602 : Cond.selects RX11 yX11_fault yX11_fault ∈ wL := eN_0 _ (List.mem_of_getElem? (i := 20) rfl)
theorem u_1602 : Cond.selects RX11 yX11_fault yX11_fault ∈ lw_tbl := tin_4 _ (List.mem_of_getElem? (i := 10) rfl)
theorem q_1603 : Cond.methodLink RL 32 yX12_fault ∈ wL := eN_0 _ (List.mem_of_getElem? (i := 21) rfl)
theorem u_1603 : Cond.methodLink RL 32 yX12_fault ∈ lw_tbl := tin_7 _ (List.mem_of_getElem? (i := 154) rfl)
theorem q_1604 : Cond.instanceMethod yX12_fault ∈ wL := eN_0 _ (List.mem_of_getElem? (i := 22) rfl)
theorem u_1604 : Cond.instanceMethod yX12_fault ∈ lw_tbl := tin_7 _ (List.mem_of_getElem? (i := 155) rfl)
theorem q_1605 : Cond.selects RX12 yX12_fault yX12_fault ∈ wL := eN_0 _ (List.mem_of_getElem? (i := 23) rfl)
theorem u_1605 : Cond.selects RX12 yX12_fault yX12_fault ∈ lw_tbl := tin_7 _ (List.mem_of_getElem? (i := 156) rfl)
theorem q_1606 : Cond.methodLink RL 33 yX11_has ∈ wL := eN_1 _ (List.mem_of_getElem? (i := 0) rfl)
theorem u_1606 : Cond.methodLink RL 33 yX11_has ∈ lw_tbl := tin_4 _ (List.mem_of_getElem? (i := 12) rfl)
theorem q_1607 : Cond.instanceMethod yX11_has ∈ wL := eN_1 _ (List.mem_of_getElem? (i := 1) rfl)
theorem u_1607 : Cond.instanceMethod yX11_has ∈ lw_tbl := tin_4 _ (List.mem_of_getElem? (i := 13) rfl)
theorem q_1608 : Cond.selects RX11 yX11_has yX11_has ∈ wL := eN_1 _ (List.mem_of_getElem? (i := 2) rfl)
theorem u_1608 : Cond.selects RX11 yX11_has yX11_has ∈ lw_tbl := tin_4 _ (List.mem_of_getElem? (i := 14) rfl)
theorem q_1609 : Cond.methodLink RL 36 yX12_has ∈ wL := eN_1 _ (List.mem_of_getElem? (i := 3) rfl)
theorem u_1609 : Cond.methodLink RL 36 yX12_has ∈ lw_tbl := tin_8 _ (List.mem_of_getElem? (i := 36) rfl)
theorem q_1610 : Cond.instanceMethod yX12_has ∈ wL := eN_1 _ (List.mem_of_getElem? (i := 4) rfl)
theorem u_1610 : Cond.instanceMethod yX12_has ∈ lw_tbl := tin_8 _ (List.mem_of_getElem? (i := 37) rfl)
theorem q_1611 : Cond.selects RX12 yX12_has yX12_has ∈ wL := eN_1 _ (List.mem_of_getElem? (i := 5) rfl)
theorem u_1611 : Cond.selects RX12 yX12_has yX12_has ∈ lw_tbl := tin_8 _ (List.mem_of_getElem? (i := 38) rfl)
theorem q_1612 : Cond.methodLink RL 37 yX11_word ∈ wL := eN_1 _ (List.mem_of_getElem? (i := 6) rfl)
theorem u_1612 : Cond.methodLink RL 37 yX11_word ∈ lw_tbl := tin_4 _ (List.mem_of_getElem? (i := 22) rfl)
theorem q_1613 : Cond.instanceMethod yX11_word ∈ wL := eN_1 _ (List.mem_of_getElem? (i := 7) rfl)
theorem u_1613 : Cond.instanceMethod yX11_word ∈ lw_tbl := tin_4 _ (List.mem_of_getElem? (i := 23) rfl)
theorem q_1614 : Cond.selects RX11 yX11_word yX11_word ∈ wL := eN_1 _ (List.mem_of_getElem? (i := 8) rfl)
theorem u_1614 : Cond.selects RX11 yX11_word yX11_word ∈ lw_tbl := tin_4 _ (List.mem_of_getElem? (i := 24) rfl)
theorem q_1615 : Cond.methodLink RL 41 yX12_word ∈ wL := eN_1 _ (List.mem_of_getElem? (i := 9) rfl)
theorem u_1615 : Cond.methodLink RL 41 yX12_word ∈ lw_tbl := tin_8 _ (List.mem_of_getElem? (i := 52) rfl)
theorem q_1616 : Cond.instanceMethod yX12_word ∈ wL := eN_1 _ (List.mem_of_getElem? (i := 10) rfl)
theorem u_1616 : Cond.instanceMethod yX12_word ∈ lw_tbl := tin_8 _ (List.mem_of_getElem? (i := 53) rfl)
theorem q_1617 : Cond.selects RX12 yX12_word yX12_word ∈ wL := eN_1 _ (List.mem_of_getElem? (i := 11) rfl)
theorem u_1617 : Cond.selects RX12 yX12_word yX12_word ∈ lw_tbl := tin_8 _ (List.mem_of_getElem? (i := 54) rfl)
theorem q_1618 : Cond.methodLink RL 42 yX11_stage ∈ wL := eN_1 _ (List.mem_of_getElem? (i := 12) rfl)
theorem u_1618 : Cond.methodLink RL 42 yX11_stage ∈ lw_tbl := tin_4 _ (List.mem_of_getElem? (i := 34) rfl)
theorem q_1619 : Cond.instanceMethod yX11_stage ∈ wL := eN_1 _ (List.mem_of_getElem? (i := 13) rfl)
theorem u_1619 : Cond.instanceMethod yX11_stage ∈ lw_tbl := tin_4 _ (List.mem_of_getElem? (i := 35) rfl)
theorem q_1620 : Cond.selects RX11 yX11_stage yX11_stage ∈ wL := eN_1 _ (List.mem_of_getElem? (i := 14) rfl)
theorem u_1620 : Cond.selects RX11 yX11_stage yX11_stage ∈ lw_tbl := tin_4 _ (List.mem_of_getElem? (i := 36) rfl)
theorem q_1621 : Cond.methodLink RL 45 yX12_stage ∈ wL := eN_1 _ (List.mem_of_getElem? (i := 15) rfl)
theorem u_1621 : Cond.methodLink RL 45 yX12_stage ∈ lw_tbl := tin_8 _ (List.mem_of_getElem? (i := 167) rfl)
theorem q_1622 : Cond.instanceMethod yX12_stage ∈ wL := eN_1 _ (List.mem_of_getElem? (i := 16) rfl)
theorem u_1622 : Cond.instanceMethod yX12_stage ∈ lw_tbl := tin_8 _ (List.mem_of_getElem? (i := 168) rfl)
theorem q_1623 : Cond.selects RX12 yX12_stage yX12_stage ∈ wL := eN_1 _ (List.mem_of_getElem? (i := 17) rfl)
theorem u_1623 : Cond.selects RX12 yX12_stage yX12_stage ∈ lw_tbl := tin_8 _ (List.mem_of_getElem? (i := 169) rfl)
theorem q_1624 : Cond.methodLink RL 46 yX11_kept ∈ wL := eN_1 _ (List.mem_of_getElem? (i := 18) rfl)
theorem u_1624 : Cond.methodLink RL 46 yX11_kept ∈ lw_tbl := tin_4 _ (List.mem_of_getElem? (i := 60) rfl)
theorem q_1625 : Cond.instanceMethod yX11_kept ∈ wL := eN_1 _ (List.mem_of_getElem? (i := 19) rfl)
theorem u_1625 : Cond.instanceMethod yX11_kept ∈ lw_tbl := tin_4 _ (List.mem_of_getElem? (i := 61) rfl)
theorem q_1626 : Cond.selects RX11 yX11_kept yX11_kept ∈ wL := eN_1 _ (List.mem_of_getElem? (i := 20) rfl)
theorem u_1626 : Cond.selects RX11 yX11_kept yX11_kept ∈ lw_tbl := tin_4 _ (List.mem_of_getElem? (i := 62) rfl)
theorem q_1627 : Cond.methodLink RL 49 yX12_kept ∈ wL := eN_1 _ (List.mem_of_getElem? (i := 21) rfl)
theorem u_1627 : Cond.methodLink RL 49 yX12_kept ∈ lw_tbl := tin_8 _ (List.mem_of_getElem? (i := 172) rfl)
theorem q_1628 : Cond.instanceMethod yX12_kept ∈ wL := eN_1 _ (List.mem_of_getElem? (i := 22) rfl)
theorem u_1628 : Cond.instanceMethod yX12_kept ∈ lw_tbl := tin_8 _ (List.mem_of_getElem? (i := 173) rfl)
theorem q_1629 : Cond.selects RX12 yX12_kept yX12_kept ∈ wL := eN_1 _ (List.mem_of_getElem? (i := 23) rfl)
theorem u_1629 : Cond.selects RX12 yX12_kept yX12_kept ∈ lw_tbl := tin_8 _ (List.mem_of_getElem? (i := 174) rfl)
theorem q_1630 : Cond.methodLink RL 50 yX11_cell ∈ wL := eN_2 _ (List.mem_of_getElem? (i := 0) rfl)
theorem u_1630 : Cond.methodLink RL 50 yX11_cell ∈ lw_tbl := tin_4 _ (List.mem_of_getElem? (i := 64) rfl)
theorem q_1631 : Cond.instanceMethod yX11_cell ∈ wL := eN_2 _ (List.mem_of_getElem? (i := 1) rfl)
theorem u_1631 : Cond.instanceMethod yX11_cell ∈ lw_tbl := tin_4 _ (List.mem_of_getElem? (i := 65) rfl)
theorem q_1632 : Cond.selects RX11 yX11_cell yX11_cell ∈ wL := eN_2 _ (List.mem_of_getElem? (i := 2) rfl)
theorem u_1632 : Cond.selects RX11 yX11_cell yX11_cell ∈ lw_tbl := tin_4 _ (List.mem_of_getElem? (i := 66) rfl)
theorem q_1633 : Cond.methodLink RL 53 yX12_cell ∈ wL := eN_2 _ (List.mem_of_getElem? (i := 3) rfl)
theorem u_1633 : Cond.methodLink RL 53 yX12_cell ∈ lw_tbl := tin_8 _ (List.mem_of_getElem? (i := 176) rfl)
theorem q_1634 : Cond.instanceMethod yX12_cell ∈ wL := eN_2 _ (List.mem_of_getElem? (i := 4) rfl)
theorem u_1634 : Cond.instanceMethod yX12_cell ∈ lw_tbl := tin_8 _ (List.mem_of_getElem? (i := 177) rfl)
theorem q_1635 : Cond.selects RX12 yX12_cell yX12_cell ∈ wL := eN_2 _ (List.mem_of_getElem? (i := 5) rfl)
theorem u_1635 : Cond.selects RX12 yX12_cell yX12_cell ∈ lw_tbl := tin_8 _ (List.mem_of_getElem? (i := 178) rfl)
theorem q_1636 : Cond.methodLink RL 54 yX11_cellOf ∈ wL := eN_2 _ (List.mem_of_getElem? (i := 6) rfl)
theorem u_1636 : Cond.methodLink RL 54 yX11_cellOf ∈ lw_tbl := tin_4 _ (List.mem_of_getElem? (i := 110) rfl)
theorem q_1637 : Cond.instanceMethod yX11_cellOf ∈ wL := eN_2 _ (List.mem_of_getElem? (i := 7) rfl)
theorem u_1637 : Cond.instanceMethod yX11_cellOf ∈ lw_tbl := tin_4 _ (List.mem_of_getElem? (i := 111) rfl)
theorem q_1638 : Cond.selects RX11 yX11_cellOf yX11_cellOf ∈ wL := eN_2 _ (List.mem_of_getElem? (i := 8) rfl)
theorem u_1638 : Cond.selects RX11 yX11_cellOf yX11_cellOf ∈ lw_tbl := tin_4 _ (List.mem_of_getElem? (i := 112) rfl)
theorem q_1639 : Cond.methodLink RL 57 yX12_cellOf ∈ wL := eN_2 _ (List.mem_of_getElem? (i := 9) rfl)
theorem u_1639 : Cond.methodLink RL 57 yX12_cellOf ∈ lw_tbl := tin_8 _ (List.mem_of_getElem? (i := 184) rfl)
theorem q_1640 : Cond.instanceMethod yX12_cellOf ∈ wL := eN_2 _ (List.mem_of_getElem? (i := 10) rfl)
theorem u_1640 : Cond.instanceMethod yX12_cellOf ∈ lw_tbl := tin_8 _ (List.mem_of_getElem? (i := 185) rfl)
theorem q_1641 : Cond.selects RX12 yX12_cellOf yX12_cellOf ∈ wL := eN_2 _ (List.mem_of_getElem? (i := 11) rfl)
theorem u_1641 : Cond.selects RX12 yX12_cellOf yX12_cellOf ∈ lw_tbl := tin_8 _ (List.mem_of_getElem? (i := 186) rfl)
theorem q_1642 : Cond.methodLink RL 58 yX11_goes ∈ wL := eN_2 _ (List.mem_of_getElem? (i := 12) rfl)
theorem u_1642 : Cond.methodLink RL 58 yX11_goes ∈ lw_tbl := tin_4 _ (List.mem_of_getElem? (i := 118) rfl)
theorem q_1643 : Cond.instanceMethod yX11_goes ∈ wL := eN_2 _ (List.mem_of_getElem? (i := 13) rfl)
theorem u_1643 : Cond.instanceMethod yX11_goes ∈ lw_tbl := tin_4 _ (List.mem_of_getElem? (i := 119) rfl)
theorem q_1644 : Cond.selects RX11 yX11_goes yX11_goes ∈ wL := eN_2 _ (List.mem_of_getElem? (i := 14) rfl)
theorem u_1644 : Cond.selects RX11 yX11_goes yX11_goes ∈ lw_tbl := tin_4 _ (List.mem_of_getElem? (i := 120) rfl)
theorem q_1645 : Cond.methodLink RL 61 yX12_goes ∈ wL := eN_2 _ (List.mem_of_getElem? (i := 15) rfl)
theorem u_1645 : Cond.methodLink RL 61 yX12_goes ∈ lw_tbl := tin_8 _ (List.mem_of_getElem? (i := 192) rfl)
theorem q_1646 : Cond.instanceMethod yX12_goes ∈ wL := eN_2 _ (List.mem_of_getElem? (i := 16) rfl)
theorem u_1646 : Cond.instanceMethod yX12_goes ∈ lw_tbl := tin_8 _ (List.mem_of_getElem? (i := 193) rfl)
theorem q_1647 : Cond.selects RX12 yX12_goes yX12_goes ∈ wL := eN_2 _ (List.mem_of_getElem? (i := 17) rfl)
theorem u_1647 : Cond.selects RX12 yX12_goes yX12_goes ∈ lw_tbl := tin_8 _ (List.mem_of_getElem? (i := 194) rfl)
theorem q_1648 : Cond.methodLink RL 62 yX11_comes ∈ wL := eN_2 _ (List.mem_of_getElem? (i := 18) rfl)
theorem u_1648 : Cond.methodLink RL 62 yX11_comes ∈ lw_tbl := tin_4 _ (List.mem_of_getElem? (i := 132) rfl)
theorem q_1649 : Cond.instanceMethod yX11_comes ∈ wL := eN_2 _ (List.mem_of_getElem? (i := 19) rfl)
theorem u_1649 : Cond.instanceMethod yX11_comes ∈ lw_tbl := tin_4 _ (List.mem_of_getElem? (i := 133) rfl)
theorem q_1650 : Cond.selects RX11 yX11_comes yX11_comes ∈ wL := eN_2 _ (List.mem_of_getElem? (i := 20) rfl)
theorem u_1650 : Cond.selects RX11 yX11_comes yX11_comes ∈ lw_tbl := tin_4 _ (List.mem_of_getElem? (i := 134) rfl)
theorem q_1651 : Cond.methodLink RL 65 yX12_comes ∈ wL := eN_2 _ (List.mem_of_getElem? (i := 21) rfl)
theorem u_1651 : Cond.methodLink RL 65 yX12_comes ∈ lw_tbl := tin_8 _ (List.mem_of_getElem? (i := 196) rfl)
theorem q_1652 : Cond.instanceMethod yX12_comes ∈ wL := eN_2 _ (List.mem_of_getElem? (i := 22) rfl)
theorem u_1652 : Cond.instanceMethod yX12_comes ∈ lw_tbl := tin_8 _ (List.mem_of_getElem? (i := 197) rfl)
theorem q_1653 : Cond.selects RX12 yX12_comes yX12_comes ∈ wL := eN_2 _ (List.mem_of_getElem? (i := 23) rfl)
theorem u_1653 : Cond.selects RX12 yX12_comes yX12_comes ∈ lw_tbl := tin_8 _ (List.mem_of_getElem? (i := 198) rfl)
theorem q_1654 : Cond.methodLink RL 66 yX11_block ∈ wL := eN_3 _ (List.mem_of_getElem? (i := 0) rfl)
theorem u_1654 : Cond.methodLink RL 66 yX11_block ∈ lw_tbl := tin_4 _ (List.mem_of_getElem? (i := 136) rfl)
theorem q_1655 : Cond.instanceMethod yX11_block ∈ wL := eN_3 _ (List.mem_of_getElem? (i := 1) rfl)
theorem u_1655 : Cond.instanceMethod yX11_block ∈ lw_tbl := tin_4 _ (List.mem_of_getElem? (i := 137) rfl)
theorem q_1656 : Cond.selects RX11 yX11_block yX11_block ∈ wL := eN_3 _ (List.mem_of_getElem? (i := 2) rfl)
theorem u_1656 : Cond.selects RX11 yX11_block yX11_block ∈ lw_tbl := tin_4 _ (List.mem_of_getElem? (i := 138) rfl)
theorem q_1657 : Cond.methodLink RL 69 yX12_block ∈ wL := eN_3 _ (List.mem_of_getElem? (i := 3) rfl)
theorem u_1657 : Cond.methodLink RL 69 yX12_block ∈ lw_tbl := tin_8 _ (List.mem_of_getElem? (i := 200) rfl)
theorem q_1658 : Cond.instanceMethod yX12_block ∈ wL := eN_3 _ (List.mem_of_getElem? (i := 4) rfl)
theorem u_1658 : Cond.instanceMethod yX12_block ∈ lw_tbl := tin_8 _ (List.mem_of_getElem? (i := 201) rfl)
theorem q_1659 : Cond.selects RX12 yX12_block yX12_block ∈ wL := eN_3 _ (List.mem_of_getElem? (i := 5) rfl)
theorem u_1659 : Cond.selects RX12 yX12_block yX12_block ∈ lw_tbl := tin_8 _ (List.mem_of_getElem? (i := 202) rfl)
theorem q_1660 : Cond.methodLink RL 70 yX11_chain ∈ wL := eN_3 _ (List.mem_of_getElem? (i := 6) rfl)
theorem u_1660 : Cond.methodLink RL 70 yX11_chain ∈ lw_tbl := tin_4 _ (List.mem_of_getElem? (i := 149) rfl)
theorem q_1661 : Cond.instanceMethod yX11_chain ∈ wL := eN_3 _ (List.mem_of_getElem? (i := 7) rfl)
theorem u_1661 : Cond.instanceMethod yX11_chain ∈ lw_tbl := tin_4 _ (List.mem_of_getElem? (i := 150) rfl)
theorem q_1662 : Cond.selects RX11 yX11_chain yX11_chain ∈ wL := eN_3 _ (List.mem_of_getElem? (i := 8) rfl)
theorem u_1662 : Cond.selects RX11 yX11_chain yX11_chain ∈ lw_tbl := tin_4 _ (List.mem_of_getElem? (i := 151) rfl)
theorem q_1663 : Cond.methodLink RL 73 yX12_chain ∈ wL := eN_3 _ (List.mem_of_getElem? (i := 9) rfl)
theorem u_1663 : Cond.methodLink RL 73 yX12_chain ∈ lw_tbl := tin_8 _ (List.mem_of_getElem? (i := 204) rfl)
theorem q_1664 : Cond.instanceMethod yX12_chain ∈ wL := eN_3 _ (List.mem_of_getElem? (i := 10) rfl)
theorem u_1664 : Cond.instanceMethod yX12_chain ∈ lw_tbl := tin_8 _ (List.mem_of_getElem? (i := 205) rfl)
theorem q_1665 : Cond.selects RX12 yX12_chain yX12_chain ∈ wL := eN_3 _ (List.mem_of_getElem? (i := 11) rfl)
theorem u_1665 : Cond.selects RX12 yX12_chain yX12_chain ∈ lw_tbl := tin_8 _ (List.mem_of_getElem? (i := 206) rfl)
theorem q_1666 : Cond.methodLink RL 74 yX11_longest ∈ wL := eN_3 _ (List.mem_of_getElem? (i := 12) rfl)
theorem u_1666 : Cond.methodLink RL 74 yX11_longest ∈ lw_tbl := tin_4 _ (List.mem_of_getElem? (i := 159) rfl)
theorem q_1667 : Cond.instanceMethod yX11_longest ∈ wL := eN_3 _ (List.mem_of_getElem? (i := 13) rfl)
theorem u_1667 : Cond.instanceMethod yX11_longest ∈ lw_tbl := tin_4 _ (List.mem_of_getElem? (i := 160) rfl)
theorem q_1668 : Cond.selects RX11 yX11_longest yX11_longest ∈ wL := eN_3 _ (List.mem_of_getElem? (i := 14) rfl)
theorem u_1668 : Cond.selects RX11 yX11_longest yX11_longest ∈ lw_tbl := tin_4 _ (List.mem_of_getElem? (i := 161) rfl)
theorem q_1669 : Cond.methodLink RL 77 yX12_longest ∈ wL := eN_3 _ (List.mem_of_getElem? (i := 15) rfl)
theorem u_1669 : Cond.methodLink RL 77 yX12_longest ∈ lw_tbl := tin_8 _ (List.mem_of_getElem? (i := 212) rfl)
theorem q_1670 : Cond.instanceMethod yX12_longest ∈ wL := eN_3 _ (List.mem_of_getElem? (i := 16) rfl)
theorem u_1670 : Cond.instanceMethod yX12_longest ∈ lw_tbl := tin_8 _ (List.mem_of_getElem? (i := 213) rfl)
theorem q_1671 : Cond.selects RX12 yX12_longest yX12_longest ∈ wL := eN_3 _ (List.mem_of_getElem? (i := 17) rfl)
theorem u_1671 : Cond.selects RX12 yX12_longest yX12_longest ∈ lw_tbl := tin_8 _ (List.mem_of_getElem? (i := 214) rfl)
theorem q_1672 : Cond.methodLink RL 78 yX11_steps ∈ wL := eN_3 _ (List.mem_of_getElem? (i := 18) rfl)
theorem u_1672 : Cond.methodLink RL 78 yX11_steps ∈ lw_tbl := tin_4 _ (List.mem_of_getElem? (i := 166) rfl)
theorem q_1673 : Cond.instanceMethod yX11_steps ∈ wL := eN_3 _ (List.mem_of_getElem? (i := 19) rfl)
theorem u_1673 : Cond.instanceMethod yX11_steps ∈ lw_tbl := tin_4 _ (List.mem_of_getElem? (i := 167) rfl)
theorem q_1674 : Cond.selects RX11 yX11_steps yX11_steps ∈ wL := eN_3 _ (List.mem_of_getElem? (i := 20) rfl)
theorem u_1674 : Cond.selects RX11 yX11_steps yX11_steps ∈ lw_tbl := tin_4 _ (List.mem_of_getElem? (i := 168) rfl)
theorem q_1675 : Cond.methodLink RL 81 yX12_steps ∈ wL := eN_3 _ (List.mem_of_getElem? (i := 21) rfl)
theorem u_1675 : Cond.methodLink RL 81 yX12_steps ∈ lw_tbl := tin_8 _ (List.mem_of_getElem? (i := 216) rfl)
theorem q_1676 : Cond.instanceMethod yX12_steps ∈ wL := eN_3 _ (List.mem_of_getElem? (i := 22) rfl)
theorem u_1676 : Cond.instanceMethod yX12_steps ∈ lw_tbl := tin_8 _ (List.mem_of_getElem? (i := 217) rfl)
theorem q_1677 : Cond.selects RX12 yX12_steps yX12_steps ∈ wL := eN_3 _ (List.mem_of_getElem? (i := 23) rfl)
theorem u_1677 : Cond.selects RX12 yX12_steps yX12_steps ∈ lw_tbl := tin_8 _ (List.mem_of_getElem? (i := 218) rfl)
theorem q_1678 : Cond.methodLink RL 82 yX11_room ∈ wL := eN_4 _ (List.mem_of_getElem? (i := 0) rfl)
theorem u_1678 : Cond.methodLink RL 82 yX11_room ∈ lw_tbl := tin_4 _ (List.mem_of_getElem? (i := 171) rfl)
theorem q_1679 : Cond.instanceMethod yX11_room ∈ wL := eN_4 _ (List.mem_of_getElem? (i := 1) rfl)
theorem u_1679 : Cond.instanceMethod yX11_room ∈ lw_tbl := tin_4 _ (List.mem_of_getElem? (i := 172) rfl)
theorem q_1680 : Cond.selects RX11 yX11_room yX11_room ∈ wL := eN_4 _ (List.mem_of_getElem? (i := 2) rfl)
theorem u_1680 : Cond.selects RX11 yX11_room yX11_room ∈ lw_tbl := tin_4 _ (List.mem_of_getElem? (i := 173) rfl)
theorem q_1681 : Cond.methodLink RL 85 yX12_room ∈ wL := eN_4 _ (List.mem_of_getElem? (i := 3) rfl)
theorem u_1681 : Cond.methodLink RL 85 yX12_room ∈ lw_tbl := tin_8 _ (List.mem_of_getElem? (i := 220) rfl)
theorem q_1682 : Cond.instanceMethod yX12_room ∈ wL := eN_4 _ (List.mem_of_getElem? (i := 4) rfl)
theorem u_1682 : Cond.instanceMethod yX12_room ∈ lw_tbl := tin_8 _ (List.mem_of_getElem? (i := 221) rfl)
theorem q_1683 : Cond.selects RX12 yX12_room yX12_room ∈ wL := eN_4 _ (List.mem_of_getElem? (i := 5) rfl)
theorem u_1683 : Cond.selects RX12 yX12_room yX12_room ∈ lw_tbl := tin_8 _ (List.mem_of_getElem? (i := 222) rfl)
theorem q_1684 : Cond.methodLink RL 86 yX11_far ∈ wL := eN_4 _ (List.mem_of_getElem? (i := 6) rfl)
theorem u_1684 : Cond.methodLink RL 86 yX11_far ∈ lw_tbl := tin_4 _ (List.mem_of_getElem? (i := 175) rfl)
theorem q_1685 : Cond.instanceMethod yX11_far ∈ wL := eN_4 _ (List.mem_of_getElem? (i := 7) rfl)
theorem u_1685 : Cond.instanceMethod yX11_far ∈ lw_tbl := tin_4 _ (List.mem_of_getElem? (i := 176) rfl)
theorem q_1686 : Cond.selects RX11 yX11_far yX11_far ∈ wL := eN_4 _ (List.mem_of_getElem? (i := 8) rfl)
theorem u_1686 : Cond.selects RX11 yX11_far yX11_far ∈ lw_tbl := tin_4 _ (List.mem_of_getElem? (i := 177) rfl)
theorem q_1687 : Cond.methodLink RL 89 yX12_far ∈ wL := eN_4 _ (List.mem_of_getElem? (i := 9) rfl)
theorem u_1687 : Cond.methodLink RL 89 yX12_far ∈ lw_tbl := tin_8 _ (List.mem_of_getElem? (i := 224) rfl)
theorem q_1688 : Cond.instanceMethod yX12_far ∈ wL := eN_4 _ (List.mem_of_getElem? (i := 10) rfl)
theorem u_1688 : Cond.instanceMethod yX12_far ∈ lw_tbl := tin_8 _ (List.mem_of_getElem? (i := 225) rfl)
theorem q_1689 : Cond.selects RX12 yX12_far yX12_far ∈ wL := eN_4 _ (List.mem_of_getElem? (i := 11) rfl)
theorem u_1689 : Cond.selects RX12 yX12_far yX12_far ∈ lw_tbl := tin_8 _ (List.mem_of_getElem? (i := 226) rfl)
theorem q_1690 : Cond.methodLink RL 90 yX11_way ∈ wL := eN_4 _ (List.mem_of_getElem? (i := 12) rfl)
theorem u_1690 : Cond.methodLink RL 90 yX11_way ∈ lw_tbl := tin_4 _ (List.mem_of_getElem? (i := 183) rfl)
theorem q_1691 : Cond.instanceMethod yX11_way ∈ wL := eN_4 _ (List.mem_of_getElem? (i := 13) rfl)
theorem u_1691 : Cond.instanceMethod yX11_way ∈ lw_tbl := tin_4 _ (List.mem_of_getElem? (i := 184) rfl)
theorem q_1692 : Cond.selects RX11 yX11_way yX11_way ∈ wL := eN_4 _ (List.mem_of_getElem? (i := 14) rfl)
theorem u_1692 : Cond.selects RX11 yX11_way yX11_way ∈ lw_tbl := tin_4 _ (List.mem_of_getElem? (i := 185) rfl)
theorem q_1693 : Cond.methodLink RL 93 yX12_way ∈ wL := eN_4 _ (List.mem_of_getElem? (i := 15) rfl)
theorem u_1693 : Cond.methodLink RL 93 yX12_way ∈ lw_tbl := tin_8 _ (List.mem_of_getElem? (i := 236) rfl)
theorem q_1694 : Cond.instanceMethod yX12_way ∈ wL := eN_4 _ (List.mem_of_getElem? (i := 16) rfl)
theorem u_1694 : Cond.instanceMethod yX12_way ∈ lw_tbl := tin_8 _ (List.mem_of_getElem? (i := 237) rfl)
theorem q_1695 : Cond.selects RX12 yX12_way yX12_way ∈ wL := eN_4 _ (List.mem_of_getElem? (i := 17) rfl)
theorem u_1695 : Cond.selects RX12 yX12_way yX12_way ∈ lw_tbl := tin_8 _ (List.mem_of_getElem? (i := 238) rfl)
theorem q_1696 : Cond.methodLink RL 94 yX11_keeps ∈ wL := eN_4 _ (List.mem_of_getElem? (i := 18) rfl)
theorem u_1696 : Cond.methodLink RL 94 yX11_keeps ∈ lw_tbl := tin_4 _ (List.mem_of_getElem? (i := 191) rfl)
theorem q_1697 : Cond.instanceMethod yX11_keeps ∈ wL := eN_4 _ (List.mem_of_getElem? (i := 19) rfl)
theorem u_1697 : Cond.instanceMethod yX11_keeps ∈ lw_tbl := tin_4 _ (List.mem_of_getElem? (i := 192) rfl)
theorem q_1698 : Cond.selects RX11 yX11_keeps yX11_keeps ∈ wL := eN_4 _ (List.mem_of_getElem? (i := 20) rfl)
theorem u_1698 : Cond.selects RX11 yX11_keeps yX11_keeps ∈ lw_tbl := tin_4 _ (List.mem_of_getElem? (i := 193) rfl)
theorem q_1699 : Cond.methodLink RL 97 yX12_keeps ∈ wL := eN_4 _ (List.mem_of_getElem? (i := 21) rfl)
theorem u_1699 : Cond.methodLink RL 97 yX12_keeps ∈ lw_tbl := tin_9 _ (List.mem_of_getElem? (i := 12) rfl)
theorem q_1700 : Cond.instanceMethod yX12_keeps ∈ wL := eN_4 _ (List.mem_of_getElem? (i := 22) rfl)
theorem u_1700 : Cond.instanceMethod yX12_keeps ∈ lw_tbl := tin_9 _ (List.mem_of_getElem? (i := 13) rfl)
theorem q_1701 : Cond.selects RX12 yX12_keeps yX12_keeps ∈ wL := eN_4 _ (List.mem_of_getElem? (i := 23) rfl)
theorem u_1701 : Cond.selects RX12 yX12_keeps yX12_keeps ∈ lw_tbl := tin_9 _ (List.mem_of_getElem? (i := 14) rfl)
theorem q_1702 : Cond.methodLink RL 98 yX11_retains ∈ wL := eN_5 _ (List.mem_of_getElem? (i := 0) rfl)
theorem u_1702 : Cond.methodLink RL 98 yX11_retains ∈ lw_tbl := tin_4 _ (List.mem_of_getElem? (i := 200) rfl)
theorem q_1703 : Cond.instanceMethod yX11_retains ∈ wL := eN_5 _ (List.mem_of_getElem? (i := 1) rfl)
theorem u_1703 : Cond.instanceMethod yX11_retains ∈ lw_tbl := tin_4 _ (List.mem_of_getElem? (i := 201) rfl)
theorem q_1704 : Cond.selects RX11 yX11_retains yX11_retains ∈ wL := eN_5 _ (List.mem_of_getElem? (i := 2) rfl)
theorem u_1704 : Cond.selects RX11 yX11_retains yX11_retains ∈ lw_tbl := tin_4 _ (List.mem_of_getElem? (i := 202) rfl)
theorem q_1705 : Cond.methodLink RL 101 yX12_retains ∈ wL := eN_5 _ (List.mem_of_getElem? (i := 3) rfl)
theorem u_1705 : Cond.methodLink RL 101 yX12_retains ∈ lw_tbl := tin_9 _ (List.mem_of_getElem? (i := 25) rfl)
theorem q_1706 : Cond.instanceMethod yX12_retains ∈ wL := eN_5 _ (List.mem_of_getElem? (i := 4) rfl)
theorem u_1706 : Cond.instanceMethod yX12_retains ∈ lw_tbl := tin_9 _ (List.mem_of_getElem? (i := 26) rfl)
theorem q_1707 : Cond.selects RX12 yX12_retains yX12_retains ∈ wL := eN_5 _ (List.mem_of_getElem? (i := 5) rfl)
theorem u_1707 : Cond.selects RX12 yX12_retains yX12_retains ∈ lw_tbl := tin_9 _ (List.mem_of_getElem? (i := 27) rfl)
theorem q_1708 : Cond.methodLink RL 102 yX11_best ∈ wL := eN_5 _ (List.mem_of_getElem? (i := 6) rfl)
theorem u_1708 : Cond.methodLink RL 102 yX11_best ∈ lw_tbl := tin_4 _ (List.mem_of_getElem? (i := 204) rfl)
theorem q_1709 : Cond.instanceMethod yX11_best ∈ wL := eN_5 _ (List.mem_of_getElem? (i := 7) rfl)
theorem u_1709 : Cond.instanceMethod yX11_best ∈ lw_tbl := tin_4 _ (List.mem_of_getElem? (i := 205) rfl)
theorem q_1710 : Cond.selects RX11 yX11_best yX11_best ∈ wL := eN_5 _ (List.mem_of_getElem? (i := 8) rfl)
theorem u_1710 : Cond.selects RX11 yX11_best yX11_best ∈ lw_tbl := tin_4 _ (List.mem_of_getElem? (i := 206) rfl)
theorem q_1711 : Cond.methodLink RL 105 yX12_best ∈ wL := eN_5 _ (List.mem_of_getElem? (i := 9) rfl)
theorem u_1711 : Cond.methodLink RL 105 yX12_best ∈ lw_tbl := tin_9 _ (List.mem_of_getElem? (i := 29) rfl)
theorem q_1712 : Cond.instanceMethod yX12_best ∈ wL := eN_5 _ (List.mem_of_getElem? (i := 10) rfl)
theorem u_1712 : Cond.instanceMethod yX12_best ∈ lw_tbl := tin_9 _ (List.mem_of_getElem? (i := 30) rfl)
theorem q_1713 : Cond.selects RX12 yX12_best yX12_best ∈ wL := eN_5 _ (List.mem_of_getElem? (i := 11) rfl)
theorem u_1713 : Cond.selects RX12 yX12_best yX12_best ∈ lw_tbl := tin_9 _ (List.mem_of_getElem? (i := 31) rfl)
theorem q_1714 : Cond.methodLink RL 106 yX11_found ∈ wL := eN_5 _ (List.mem_of_getElem? (i := 12) rfl)
theorem u_1714 : Cond.methodLink RL 106 yX11_found ∈ lw_tbl := tin_4 _ (List.mem_of_getElem? (i := 208) rfl)
theorem q_1715 : Cond.instanceMethod yX11_found ∈ wL := eN_5 _ (List.mem_of_getElem? (i := 13) rfl)
theorem u_1715 : Cond.instanceMethod yX11_found ∈ lw_tbl := tin_4 _ (List.mem_of_getElem? (i := 209) rfl)
theorem q_1716 : Cond.selects RX11 yX11_found yX11_found ∈ wL := eN_5 _ (List.mem_of_getElem? (i := 14) rfl)
theorem u_1716 : Cond.selects RX11 yX11_found yX11_found ∈ lw_tbl := tin_4 _ (List.mem_of_getElem? (i := 210) rfl)
theorem q_1717 : Cond.methodLink RL 109 yX12_found ∈ wL := eN_5 _ (List.mem_of_getElem? (i := 15) rfl)
theorem u_1717 : Cond.methodLink RL 109 yX12_found ∈ lw_tbl := tin_9 _ (List.mem_of_getElem? (i := 33) rfl)
theorem q_1718 : Cond.instanceMethod yX12_found ∈ wL := eN_5 _ (List.mem_of_getElem? (i := 16) rfl)
theorem u_1718 : Cond.instanceMethod yX12_found ∈ lw_tbl := tin_9 _ (List.mem_of_getElem? (i := 34) rfl)
theorem q_1719 : Cond.selects RX12 yX12_found yX12_found ∈ wL := eN_5 _ (List.mem_of_getElem? (i := 17) rfl)
theorem u_1719 : Cond.selects RX12 yX12_found yX12_found ∈ lw_tbl := tin_9 _ (List.mem_of_getElem? (i := 35) rfl)
theorem q_1720 : Cond.methodLink RL 110 yX11_remember ∈ wL := eN_5 _ (List.mem_of_getElem? (i := 18) rfl)
theorem u_1720 : Cond.methodLink RL 110 yX11_remember ∈ lw_tbl := tin_4 _ (List.mem_of_getElem? (i := 212) rfl)
theorem q_1721 : Cond.instanceMethod yX11_remember ∈ wL := eN_5 _ (List.mem_of_getElem? (i := 19) rfl)
theorem u_1721 : Cond.instanceMethod yX11_remember ∈ lw_tbl := tin_4 _ (List.mem_of_getElem? (i := 213) rfl)
theorem q_1722 : Cond.selects RX11 yX11_remember yX11_remember ∈ wL := eN_5 _ (List.mem_of_getElem? (i := 20) rfl)
theorem u_1722 : Cond.selects RX11 yX11_remember yX11_remember ∈ lw_tbl := tin_4 _ (List.mem_of_getElem? (i := 214) rfl)
theorem q_1723 : Cond.methodLink RL 113 yX12_remember ∈ wL := eN_5 _ (List.mem_of_getElem? (i := 21) rfl)
theorem u_1723 : Cond.methodLink RL 113 yX12_remember ∈ lw_tbl := tin_9 _ (List.mem_of_getElem? (i := 45) rfl)
theorem q_1724 : Cond.instanceMethod yX12_remember ∈ wL := eN_5 _ (List.mem_of_getElem? (i := 22) rfl)
theorem u_1724 : Cond.instanceMethod yX12_remember ∈ lw_tbl := tin_9 _ (List.mem_of_getElem? (i := 46) rfl)
theorem q_1725 : Cond.selects RX12 yX12_remember yX12_remember ∈ wL := eN_5 _ (List.mem_of_getElem? (i := 23) rfl)
theorem u_1725 : Cond.selects RX12 yX12_remember yX12_remember ∈ lw_tbl := tin_9 _ (List.mem_of_getElem? (i := 47) rfl)
theorem q_1726 : Cond.methodLink RL 114 yX11_alike ∈ wL := eN_6 _ (List.mem_of_getElem? (i := 0) rfl)
theorem u_1726 : Cond.methodLink RL 114 yX11_alike ∈ lw_tbl := tin_4 _ (List.mem_of_getElem? (i := 226) rfl)
theorem q_1727 : Cond.instanceMethod yX11_alike ∈ wL := eN_6 _ (List.mem_of_getElem? (i := 1) rfl)
theorem u_1727 : Cond.instanceMethod yX11_alike ∈ lw_tbl := tin_4 _ (List.mem_of_getElem? (i := 227) rfl)
theorem q_1728 : Cond.selects RX11 yX11_alike yX11_alike ∈ wL := eN_6 _ (List.mem_of_getElem? (i := 2) rfl)
theorem u_1728 : Cond.selects RX11 yX11_alike yX11_alike ∈ lw_tbl := tin_4 _ (List.mem_of_getElem? (i := 228) rfl)
theorem q_1729 : Cond.methodLink RL 117 yX12_alike ∈ wL := eN_6 _ (List.mem_of_getElem? (i := 3) rfl)
theorem u_1729 : Cond.methodLink RL 117 yX12_alike ∈ lw_tbl := tin_9 _ (List.mem_of_getElem? (i := 61) rfl)
theorem q_1730 : Cond.instanceMethod yX12_alike ∈ wL := eN_6 _ (List.mem_of_getElem? (i := 4) rfl)
theorem u_1730 : Cond.instanceMethod yX12_alike ∈ lw_tbl := tin_9 _ (List.mem_of_getElem? (i := 62) rfl)
theorem q_1731 : Cond.selects RX12 yX12_alike yX12_alike ∈ wL := eN_6 _ (List.mem_of_getElem? (i := 5) rfl)
theorem u_1731 : Cond.selects RX12 yX12_alike yX12_alike ∈ lw_tbl := tin_9 _ (List.mem_of_getElem? (i := 63) rfl)
theorem q_1732 : Cond.methodLink RL 118 yX11_see ∈ wL := eN_6 _ (List.mem_of_getElem? (i := 6) rfl)
theorem u_1732 : Cond.methodLink RL 118 yX11_see ∈ lw_tbl := tin_4 _ (List.mem_of_getElem? (i := 230) rfl)
theorem q_1733 : Cond.instanceMethod yX11_see ∈ wL := eN_6 _ (List.mem_of_getElem? (i := 7) rfl)
theorem u_1733 : Cond.instanceMethod yX11_see ∈ lw_tbl := tin_4 _ (List.mem_of_getElem? (i := 231) rfl)
theorem q_1734 : Cond.selects RX11 yX11_see yX11_see ∈ wL := eN_6 _ (List.mem_of_getElem? (i := 8) rfl)
theorem u_1734 : Cond.selects RX11 yX11_see yX11_see ∈ lw_tbl := tin_4 _ (List.mem_of_getElem? (i := 232) rfl)
theorem q_1735 : Cond.methodLink RL 121 yX12_see ∈ wL := eN_6 _ (List.mem_of_getElem? (i := 9) rfl)
theorem u_1735 : Cond.methodLink RL 121 yX12_see ∈ lw_tbl := tin_9 _ (List.mem_of_getElem? (i := 65) rfl)
theorem q_1736 : Cond.instanceMethod yX12_see ∈ wL := eN_6 _ (List.mem_of_getElem? (i := 10) rfl)
theorem u_1736 : Cond.instanceMethod yX12_see ∈ lw_tbl := tin_9 _ (List.mem_of_getElem? (i := 66) rfl)
theorem q_1737 : Cond.selects RX12 yX12_see yX12_see ∈ wL := eN_6 _ (List.mem_of_getElem? (i := 11) rfl)
theorem u_1737 : Cond.selects RX12 yX12_see yX12_see ∈ lw_tbl := tin_9 _ (List.mem_of_getElem? (i := 67) rfl)
theorem q_1738 : Cond.methodLink RL 122 yX11_then ∈ wL := eN_6 _ (List.mem_of_getElem? (i := 12) rfl)
theorem u_1738 : Cond.methodLink RL 122 yX11_then ∈ lw_tbl := tin_5 _ (List.mem_of_getElem? (i := 7) rfl)
theorem q_1739 : Cond.instanceMethod yX11_then ∈ wL := eN_6 _ (List.mem_of_getElem? (i := 13) rfl)
theorem u_1739 : Cond.instanceMethod yX11_then ∈ lw_tbl := tin_5 _ (List.mem_of_getElem? (i := 8) rfl)
theorem q_1740 : Cond.selects RX11 yX11_then yX11_then ∈ wL := eN_6 _ (List.mem_of_getElem? (i := 14) rfl)
theorem u_1740 : Cond.selects RX11 yX11_then yX11_then ∈ lw_tbl := tin_5 _ (List.mem_of_getElem? (i := 9) rfl)
theorem q_1741 : Cond.methodLink RL 125 yX12_then ∈ wL := eN_6 _ (List.mem_of_getElem? (i := 15) rfl)
theorem u_1741 : Cond.methodLink RL 125 yX12_then ∈ lw_tbl := tin_9 _ (List.mem_of_getElem? (i := 84) rfl)
theorem q_1742 : Cond.instanceMethod yX12_then ∈ wL := eN_6 _ (List.mem_of_getElem? (i := 16) rfl)
theorem u_1742 : Cond.instanceMethod yX12_then ∈ lw_tbl := tin_9 _ (List.mem_of_getElem? (i := 85) rfl)
theorem q_1743 : Cond.selects RX12 yX12_then yX12_then ∈ wL := eN_6 _ (List.mem_of_getElem? (i := 17) rfl)
theorem u_1743 : Cond.selects RX12 yX12_then yX12_then ∈ lw_tbl := tin_9 _ (List.mem_of_getElem? (i := 86) rfl)
theorem q_1744 : Cond.methodLink RL 126 yX11_tells ∈ wL := eN_6 _ (List.mem_of_getElem? (i := 18) rfl)
theorem u_1744 : Cond.methodLink RL 126 yX11_tells ∈ lw_tbl := tin_5 _ (List.mem_of_getElem? (i := 69) rfl)
theorem q_1745 : Cond.instanceMethod yX11_tells ∈ wL := eN_6 _ (List.mem_of_getElem? (i := 19) rfl)
theorem u_1745 : Cond.instanceMethod yX11_tells ∈ lw_tbl := tin_5 _ (List.mem_of_getElem? (i := 70) rfl)
theorem q_1746 : Cond.selects RX11 yX11_tells yX11_tells ∈ wL := eN_6 _ (List.mem_of_getElem? (i := 20) rfl)
theorem u_1746 : Cond.selects RX11 yX11_tells yX11_tells ∈ lw_tbl := tin_5 _ (List.mem_of_getElem? (i := 71) rfl)
theorem q_1747 : Cond.methodLink RL 129 yX12_tells ∈ wL := eN_6 _ (List.mem_of_getElem? (i := 21) rfl)
theorem u_1747 : Cond.methodLink RL 129 yX12_tells ∈ lw_tbl := tin_9 _ (List.mem_of_getElem? (i := 100) rfl)
theorem q_1748 : Cond.instanceMethod yX12_tells ∈ wL := eN_6 _ (List.mem_of_getElem? (i := 22) rfl)
theorem u_1748 : Cond.instanceMethod yX12_tells ∈ lw_tbl := tin_9 _ (List.mem_of_getElem? (i := 101) rfl)
theorem q_1749 : Cond.selects RX12 yX12_tells yX12_tells ∈ wL := eN_6 _ (List.mem_of_getElem? (i := 23) rfl)
theorem u_1749 : Cond.selects RX12 yX12_tells yX12_tells ∈ lw_tbl := tin_9 _ (List.mem_of_getElem? (i := 102) rfl)
theorem q_1750 : Cond.methodLink RL 130 yX11_run ∈ wL := eN_7 _ (List.mem_of_getElem? (i := 0) rfl)
theorem u_1750 : Cond.methodLink RL 130 yX11_run ∈ lw_tbl := tin_5 _ (List.mem_of_getElem? (i := 82) rfl)
theorem q_1751 : Cond.instanceMethod yX11_run ∈ wL := eN_7 _ (List.mem_of_getElem? (i := 1) rfl)
theorem u_1751 : Cond.instanceMethod yX11_run ∈ lw_tbl := tin_5 _ (List.mem_of_getElem? (i := 83) rfl)
theorem q_1752 : Cond.selects RX11 yX11_run yX11_run ∈ wL := eN_7 _ (List.mem_of_getElem? (i := 2) rfl)
theorem u_1752 : Cond.selects RX11 yX11_run yX11_run ∈ lw_tbl := tin_5 _ (List.mem_of_getElem? (i := 84) rfl)
theorem q_1753 : Cond.methodLink RL 133 yX12_run ∈ wL := eN_7 _ (List.mem_of_getElem? (i := 3) rfl)
theorem u_1753 : Cond.methodLink RL 133 yX12_run ∈ lw_tbl := tin_9 _ (List.mem_of_getElem? (i := 178) rfl)
theorem q_1754 : Cond.instanceMethod yX12_run ∈ wL := eN_7 _ (List.mem_of_getElem? (i := 4) rfl)
theorem u_1754 : Cond.instanceMethod yX12_run ∈ lw_tbl := tin_9 _ (List.mem_of_getElem? (i := 179) rfl)
theorem q_1755 : Cond.selects RX12 yX12_run yX12_run ∈ wL := eN_7 _ (List.mem_of_getElem? (i := 5) rfl)
theorem u_1755 : Cond.selects RX12 yX12_run yX12_run ∈ lw_tbl := tin_9 _ (List.mem_of_getElem? (i := 180) rfl)
theorem q_1756 : Cond.methodLink RL 134 yX11_failed ∈ wL := eN_7 _ (List.mem_of_getElem? (i := 6) rfl)
theorem u_1756 : Cond.methodLink RL 134 yX11_failed ∈ lw_tbl := tin_5 _ (List.mem_of_getElem? (i := 232) rfl)
theorem q_1757 : Cond.instanceMethod yX11_failed ∈ wL := eN_7 _ (List.mem_of_getElem? (i := 7) rfl)
theorem u_1757 : Cond.instanceMethod yX11_failed ∈ lw_tbl := tin_5 _ (List.mem_of_getElem? (i := 233) rfl)
theorem q_1758 : Cond.selects RX11 yX11_failed yX11_failed ∈ wL := eN_7 _ (List.mem_of_getElem? (i := 8) rfl)
theorem u_1758 : Cond.selects RX11 yX11_failed yX11_failed ∈ lw_tbl := tin_5 _ (List.mem_of_getElem? (i := 234) rfl)
theorem q_1759 : Cond.methodLink RL 137 yX12_failed ∈ wL := eN_7 _ (List.mem_of_getElem? (i := 9) rfl)
theorem u_1759 : Cond.methodLink RL 137 yX12_failed ∈ lw_tbl := tin_10 _ (List.mem_of_getElem? (i := 42) rfl)
theorem q_1760 : Cond.instanceMethod yX12_failed ∈ wL := eN_7 _ (List.mem_of_getElem? (i := 10) rfl)
theorem u_1760 : Cond.instanceMethod yX12_failed ∈ lw_tbl := tin_10 _ (List.mem_of_getElem? (i := 43) rfl)
theorem q_1761 : Cond.selects RX12 yX12_failed yX12_failed ∈ wL := eN_7 _ (List.mem_of_getElem? (i := 11) rfl)
theorem u_1761 : Cond.selects RX12 yX12_failed yX12_failed ∈ lw_tbl := tin_10 _ (List.mem_of_getElem? (i := 44) rfl)
theorem q_1762 : Cond.methodLink RL 138 yX11_collect ∈ wL := eN_7 _ (List.mem_of_getElem? (i := 12) rfl)
theorem u_1762 : Cond.methodLink RL 138 yX11_collect ∈ lw_tbl := tin_5 _ (List.mem_of_getElem? (i := 236) rfl)
theorem q_1763 : Cond.instanceMethod yX11_collect ∈ wL := eN_7 _ (List.mem_of_getElem? (i := 13) rfl)
theorem u_1763 : Cond.instanceMethod yX11_collect ∈ lw_tbl := tin_5 _ (List.mem_of_getElem? (i := 237) rfl)
theorem q_1764 : Cond.selects RX11 yX11_collect yX11_collect ∈ wL := eN_7 _ (List.mem_of_getElem? (i := 14) rfl)
theorem u_1764 : Cond.selects RX11 yX11_collect yX11_collect ∈ lw_tbl := tin_5 _ (List.mem_of_getElem? (i := 238) rfl)
theorem q_1765 : Cond.methodLink RL 141 yX12_collect ∈ wL := eN_7 _ (List.mem_of_getElem? (i := 15) rfl)
theorem u_1765 : Cond.methodLink RL 141 yX12_collect ∈ lw_tbl := tin_9 _ (List.mem_of_getElem? (i := 112) rfl)
theorem q_1766 : Cond.instanceMethod yX12_collect ∈ wL := eN_7 _ (List.mem_of_getElem? (i := 16) rfl)
theorem u_1766 : Cond.instanceMethod yX12_collect ∈ lw_tbl := tin_9 _ (List.mem_of_getElem? (i := 113) rfl)
theorem q_1767 : Cond.selects RX12 yX12_collect yX12_collect ∈ wL := eN_7 _ (List.mem_of_getElem? (i := 17) rfl)
theorem u_1767 : Cond.selects RX12 yX12_collect yX12_collect ∈ lw_tbl := tin_9 _ (List.mem_of_getElem? (i := 114) rfl)
theorem q_1768 : Cond.methodLink RL 142 yX11_begin ∈ wL := eN_7 _ (List.mem_of_getElem? (i := 18) rfl)
theorem u_1768 : Cond.methodLink RL 142 yX11_begin ∈ lw_tbl := tin_6 _ (List.mem_of_getElem? (i := 1) rfl)
theorem q_1769 : Cond.instanceMethod yX11_begin ∈ wL := eN_7 _ (List.mem_of_getElem? (i := 19) rfl)
theorem u_1769 : Cond.instanceMethod yX11_begin ∈ lw_tbl := tin_6 _ (List.mem_of_getElem? (i := 2) rfl)
theorem q_1770 : Cond.selects RX11 yX11_begin yX11_begin ∈ wL := eN_7 _ (List.mem_of_getElem? (i := 20) rfl)
theorem u_1770 : Cond.selects RX11 yX11_begin yX11_begin ∈ lw_tbl := tin_6 _ (List.mem_of_getElem? (i := 3) rfl)
theorem q_1771 : Cond.methodLink RL 145 yX12_begin ∈ wL := eN_7 _ (List.mem_of_getElem? (i := 21) rfl)
theorem u_1771 : Cond.methodLink RL 145 yX12_begin ∈ lw_tbl := tin_9 _ (List.mem_of_getElem? (i := 132) rfl)
theorem q_1772 : Cond.instanceMethod yX12_begin ∈ wL := eN_7 _ (List.mem_of_getElem? (i := 22) rfl)
theorem u_1772 : Cond.instanceMethod yX12_begin ∈ lw_tbl := tin_9 _ (List.mem_of_getElem? (i := 133) rfl)
theorem q_1773 : Cond.selects RX12 yX12_begin yX12_begin ∈ wL := eN_7 _ (List.mem_of_getElem? (i := 23) rfl)
theorem u_1773 : Cond.selects RX12 yX12_begin yX12_begin ∈ lw_tbl := tin_9 _ (List.mem_of_getElem? (i := 134) rfl)
theorem q_1774 : Cond.methodLink RL 146 yX11_step ∈ wL := eN_8 _ (List.mem_of_getElem? (i := 0) rfl)
theorem u_1774 : Cond.methodLink RL 146 yX11_step ∈ lw_tbl := tin_6 _ (List.mem_of_getElem? (i := 5) rfl)
theorem q_1775 : Cond.instanceMethod yX11_step ∈ wL := eN_8 _ (List.mem_of_getElem? (i := 1) rfl)
theorem u_1775 : Cond.instanceMethod yX11_step ∈ lw_tbl := tin_6 _ (List.mem_of_getElem? (i := 6) rfl)
theorem q_1776 : Cond.selects RX11 yX11_step yX11_step ∈ wL := eN_8 _ (List.mem_of_getElem? (i := 2) rfl)
theorem u_1776 : Cond.selects RX11 yX11_step yX11_step ∈ lw_tbl := tin_6 _ (List.mem_of_getElem? (i := 7) rfl)
theorem q_1777 : Cond.methodLink RL 149 yX12_step ∈ wL := eN_8 _ (List.mem_of_getElem? (i := 3) rfl)
theorem u_1777 : Cond.methodLink RL 149 yX12_step ∈ lw_tbl := tin_9 _ (List.mem_of_getElem? (i := 136) rfl)
theorem q_1778 : Cond.instanceMethod yX12_step ∈ wL := eN_8 _ (List.mem_of_getElem? (i := 4) rfl)
theorem u_1778 : Cond.instanceMethod yX12_step ∈ lw_tbl := tin_9 _ (List.mem_of_getElem? (i := 137) rfl)
theorem q_1779 : Cond.selects RX12 yX12_step yX12_step ∈ wL := eN_8 _ (List.mem_of_getElem? (i := 5) rfl)
theorem u_1779 : Cond.selects RX12 yX12_step yX12_step ∈ lw_tbl := tin_9 _ (List.mem_of_getElem? (i := 138) rfl)
theorem q_1780 : Cond.methodLink RL 150 yX11_method ∈ wL := eN_8 _ (List.mem_of_getElem? (i := 6) rfl)
theorem u_1780 : Cond.methodLink RL 150 yX11_method ∈ lw_tbl := tin_6 _ (List.mem_of_getElem? (i := 10) rfl)
theorem q_1781 : Cond.instanceMethod yX11_method ∈ wL := eN_8 _ (List.mem_of_getElem? (i := 7) rfl)
theorem u_1781 : Cond.instanceMethod yX11_method ∈ lw_tbl := tin_6 _ (List.mem_of_getElem? (i := 11) rfl)
theorem q_1782 : Cond.selects RX11 yX11_method yX11_method ∈ wL := eN_8 _ (List.mem_of_getElem? (i := 8) rfl)
theorem u_1782 : Cond.selects RX11 yX11_method yX11_method ∈ lw_tbl := tin_6 _ (List.mem_of_getElem? (i := 12) rfl)
theorem q_1783 : Cond.methodLink RL 153 yX12_method ∈ wL := eN_8 _ (List.mem_of_getElem? (i := 9) rfl)
theorem u_1783 : Cond.methodLink RL 153 yX12_method ∈ lw_tbl := tin_9 _ (List.mem_of_getElem? (i := 141) rfl)
theorem q_1784 : Cond.instanceMethod yX12_method ∈ wL := eN_8 _ (List.mem_of_getElem? (i := 10) rfl)
theorem u_1784 : Cond.instanceMethod yX12_method ∈ lw_tbl := tin_9 _ (List.mem_of_getElem? (i := 142) rfl)
theorem q_1785 : Cond.selects RX12 yX12_method yX12_method ∈ wL := eN_8 _ (List.mem_of_getElem? (i := 11) rfl)
theorem u_1785 : Cond.selects RX12 yX12_method yX12_method ∈ lw_tbl := tin_9 _ (List.mem_of_getElem? (i := 143) rfl)
theorem q_1786 : Cond.methodLink RL 154 yX11_chance ∈ wL := eN_8 _ (List.mem_of_getElem? (i := 12) rfl)
theorem u_1786 : Cond.methodLink RL 154 yX11_chance ∈ lw_tbl := tin_6 _ (List.mem_of_getElem? (i := 14) rfl)
theorem q_1787 : Cond.instanceMethod yX11_chance ∈ wL := eN_8 _ (List.mem_of_getElem? (i := 13) rfl)
theorem u_1787 : Cond.instanceMethod yX11_chance ∈ lw_tbl := tin_6 _ (List.mem_of_getElem? (i := 15) rfl)
theorem q_1788 : Cond.selects RX11 yX11_chance yX11_chance ∈ wL := eN_8 _ (List.mem_of_getElem? (i := 14) rfl)
theorem u_1788 : Cond.selects RX11 yX11_chance yX11_chance ∈ lw_tbl := tin_6 _ (List.mem_of_getElem? (i := 16) rfl)
theorem q_1789 : Cond.methodLink RL 157 yX12_chance ∈ wL := eN_8 _ (List.mem_of_getElem? (i := 15) rfl)
theorem u_1789 : Cond.methodLink RL 157 yX12_chance ∈ lw_tbl := tin_9 _ (List.mem_of_getElem? (i := 149) rfl)
theorem q_1790 : Cond.instanceMethod yX12_chance ∈ wL := eN_8 _ (List.mem_of_getElem? (i := 16) rfl)
theorem u_1790 : Cond.instanceMethod yX12_chance ∈ lw_tbl := tin_9 _ (List.mem_of_getElem? (i := 150) rfl)
theorem q_1791 : Cond.selects RX12 yX12_chance yX12_chance ∈ wL := eN_8 _ (List.mem_of_getElem? (i := 17) rfl)
theorem u_1791 : Cond.selects RX12 yX12_chance yX12_chance ∈ lw_tbl := tin_9 _ (List.mem_of_getElem? (i := 151) rfl)
theorem q_1792 : Cond.methodLink RL 158 yX11_undo ∈ wL := eN_8 _ (List.mem_of_getElem? (i := 18) rfl)
theorem u_1792 : Cond.methodLink RL 158 yX11_undo ∈ lw_tbl := tin_6 _ (List.mem_of_getElem? (i := 50) rfl)
theorem q_1793 : Cond.instanceMethod yX11_undo ∈ wL := eN_8 _ (List.mem_of_getElem? (i := 19) rfl)
theorem u_1793 : Cond.instanceMethod yX11_undo ∈ lw_tbl := tin_6 _ (List.mem_of_getElem? (i := 51) rfl)
theorem q_1794 : Cond.selects RX11 yX11_undo yX11_undo ∈ wL := eN_8 _ (List.mem_of_getElem? (i := 20) rfl)
theorem u_1794 : Cond.selects RX11 yX11_undo yX11_undo ∈ lw_tbl := tin_6 _ (List.mem_of_getElem? (i := 52) rfl)
theorem q_1795 : Cond.methodLink RL 162 yX12_undo ∈ wL := eN_8 _ (List.mem_of_getElem? (i := 21) rfl)
theorem u_1795 : Cond.methodLink RL 162 yX12_undo ∈ lw_tbl := tin_9 _ (List.mem_of_getElem? (i := 108) rfl)
theorem q_1796 : Cond.instanceMethod yX12_undo ∈ wL := eN_8 _ (List.mem_of_getElem? (i := 22) rfl)
theorem u_1796 : Cond.instanceMethod yX12_undo ∈ lw_tbl := tin_9 _ (List.mem_of_getElem? (i := 109) rfl)
theorem q_1797 : Cond.selects RX12 yX12_undo yX12_undo ∈ wL := eN_8 _ (List.mem_of_getElem? (i := 23) rfl)
theorem u_1797 : Cond.selects RX12 yX12_undo yX12_undo ∈ lw_tbl := tin_9 _ (List.mem_of_getElem? (i := 110) rfl)
theorem q_1798 : Cond.methodLink RL 163 yX11_seed ∈ wL := eN_9 _ (List.mem_of_getElem? (i := 0) rfl)
theorem u_1798 : Cond.methodLink RL 163 yX11_seed ∈ lw_tbl := tin_6 _ (List.mem_of_getElem? (i := 54) rfl)
theorem q_1799 : Cond.instanceMethod yX11_seed ∈ wL := eN_9 _ (List.mem_of_getElem? (i := 1) rfl)
theorem u_1799 : Cond.instanceMethod yX11_seed ∈ lw_tbl := tin_6 _ (List.mem_of_getElem? (i := 55) rfl)
theorem q_1800 : Cond.selects RX11 yX11_seed yX11_seed ∈ wL := eN_9 _ (List.mem_of_getElem? (i := 2) rfl)
theorem u_1800 : Cond.selects RX11 yX11_seed yX11_seed ∈ lw_tbl := tin_6 _ (List.mem_of_getElem? (i := 56) rfl)
theorem q_1801 : Cond.methodLink RL 166 yX12_seed ∈ wL := eN_9 _ (List.mem_of_getElem? (i := 3) rfl)
theorem u_1801 : Cond.methodLink RL 166 yX12_seed ∈ lw_tbl := tin_9 _ (List.mem_of_getElem? (i := 145) rfl)
theorem q_1802 : Cond.instanceMethod yX12_seed ∈ wL := eN_9 _ (List.mem_of_getElem? (i := 4) rfl)
theorem u_1802 : Cond.instanceMethod yX12_seed ∈ lw_tbl := tin_9 _ (List.mem_of_getElem? (i := 146) rfl)
theorem q_1803 : Cond.selects RX12 yX12_seed yX12_seed ∈ wL := eN_9 _ (List.mem_of_getElem? (i := 5) rfl)
theorem u_1803 : Cond.selects RX12 yX12_seed yX12_seed ∈ lw_tbl := tin_9 _ (List.mem_of_getElem? (i := 147) rfl)
theorem q_1804 : Cond.methodLink RL 167 yX11_image ∈ wL := eN_9 _ (List.mem_of_getElem? (i := 6) rfl)
theorem u_1804 : Cond.methodLink RL 167 yX11_image ∈ lw_tbl := tin_6 _ (List.mem_of_getElem? (i := 58) rfl)
theorem q_1805 : Cond.instanceMethod yX11_image ∈ wL := eN_9 _ (List.mem_of_getElem? (i := 7) rfl)
theorem u_1805 : Cond.instanceMethod yX11_image ∈ lw_tbl := tin_6 _ (List.mem_of_getElem? (i := 59) rfl)
theorem q_1806 : Cond.selects RX11 yX11_image yX11_image ∈ wL := eN_9 _ (List.mem_of_getElem? (i := 8) rfl)
theorem u_1806 : Cond.selects RX11 yX11_image yX11_image ∈ lw_tbl := tin_6 _ (List.mem_of_getElem? (i := 60) rfl)
theorem q_1807 : Cond.methodLink RL 170 yX12_image ∈ wL := eN_9 _ (List.mem_of_getElem? (i := 9) rfl)
theorem u_1807 : Cond.methodLink RL 170 yX12_image ∈ lw_tbl := tin_10 _ (List.mem_of_getElem? (i := 46) rfl)
theorem q_1808 : Cond.instanceMethod yX12_image ∈ wL := eN_9 _ (List.mem_of_getElem? (i := 10) rfl)
theorem u_1808 : Cond.instanceMethod yX12_image ∈ lw_tbl := tin_10 _ (List.mem_of_getElem? (i := 47) rfl)
theorem q_1809 : Cond.selects RX12 yX12_image yX12_image ∈ wL := eN_9 _ (List.mem_of_getElem? (i := 11) rfl)
theorem u_1809 : Cond.selects RX12 yX12_image yX12_image ∈ lw_tbl := tin_10 _ (List.mem_of_getElem? (i := 48) rfl)
theorem q_1810 : Cond.methodLink RL 171 yX11_octet ∈ wL := eN_9 _ (List.mem_of_getElem? (i := 12) rfl)
theorem u_1810 : Cond.methodLink RL 171 yX11_octet ∈ lw_tbl := tin_6 _ (List.mem_of_getElem? (i := 75) rfl)
theorem q_1811 : Cond.instanceMethod yX11_octet ∈ wL := eN_9 _ (List.mem_of_getElem? (i := 13) rfl)
theorem u_1811 : Cond.instanceMethod yX11_octet ∈ lw_tbl := tin_6 _ (List.mem_of_getElem? (i := 76) rfl)
theorem q_1812 : Cond.selects RX11 yX11_octet yX11_octet ∈ wL := eN_9 _ (List.mem_of_getElem? (i := 14) rfl)
theorem u_1812 : Cond.selects RX11 yX11_octet yX11_octet ∈ lw_tbl := tin_6 _ (List.mem_of_getElem? (i := 77) rfl)
theorem q_1813 : Cond.methodLink RL 174 yX12_octet ∈ wL := eN_9 _ (List.mem_of_getElem? (i := 15) rfl)
theorem u_1813 : Cond.methodLink RL 174 yX12_octet ∈ lw_tbl := tin_10 _ (List.mem_of_getElem? (i := 61) rfl)
theorem q_1814 : Cond.instanceMethod yX12_octet ∈ wL := eN_9 _ (List.mem_of_getElem? (i := 16) rfl)
theorem u_1814 : Cond.instanceMethod yX12_octet ∈ lw_tbl := tin_10 _ (List.mem_of_getElem? (i := 62) rfl)
theorem q_1815 : Cond.selects RX12 yX12_octet yX12_octet ∈ wL := eN_9 _ (List.mem_of_getElem? (i := 17) rfl)
theorem u_1815 : Cond.selects RX12 yX12_octet yX12_octet ∈ lw_tbl := tin_10 _ (List.mem_of_getElem? (i := 63) rfl)
theorem q_1816 : Cond.methodLink RL 175 yX11_on ∈ wL := eN_9 _ (List.mem_of_getElem? (i := 18) rfl)
theorem u_1816 : Cond.methodLink RL 175 yX11_on ∈ lw_tbl := tin_6 _ (List.mem_of_getElem? (i := 79) rfl)
theorem q_1817 : Cond.instanceMethod yX11_on ∈ wL := eN_9 _ (List.mem_of_getElem? (i := 19) rfl)
theorem u_1817 : Cond.instanceMethod yX11_on ∈ lw_tbl := tin_6 _ (List.mem_of_getElem? (i := 80) rfl)
theorem q_1818 : Cond.selects RX11 yX11_on yX11_on ∈ wL := eN_9 _ (List.mem_of_getElem? (i := 20) rfl)
theorem u_1818 : Cond.selects RX11 yX11_on yX11_on ∈ lw_tbl := tin_6 _ (List.mem_of_getElem? (i := 81) rfl)
theorem q_1819 : Cond.methodLink RL 178 yX12_on ∈ wL := eN_9 _ (List.mem_of_getElem? (i := 21) rfl)
theorem u_1819 : Cond.methodLink RL 178 yX12_on ∈ lw_tbl := tin_10 _ (List.mem_of_getElem? (i := 65) rfl)
theorem q_1820 : Cond.instanceMethod yX12_on ∈ wL := eN_9 _ (List.mem_of_getElem? (i := 22) rfl)
theorem u_1820 : Cond.instanceMethod yX12_on ∈ lw_tbl := tin_10 _ (List.mem_of_getElem? (i := 66) rfl)
theorem q_1821 : Cond.selects RX12 yX12_on yX12_on ∈ wL := eN_9 _ (List.mem_of_getElem? (i := 23) rfl)
theorem u_1821 : Cond.selects RX12 yX12_on yX12_on ∈ lw_tbl := tin_10 _ (List.mem_of_getElem? (i := 67) rfl)
theorem q_1822 : Cond.methodLink RL 179 yX11_status ∈ wL := eN_10 _ (List.mem_of_getElem? (i := 0) rfl)
theorem u_1822 : Cond.methodLink RL 179 yX11_status ∈ lw_tbl := tin_6 _ (List.mem_of_getElem? (i := 104) rfl)
theorem q_1823 : Cond.instanceMethod yX11_status ∈ wL := eN_10 _ (List.mem_of_getElem? (i := 1) rfl)
theorem u_1823 : Cond.instanceMethod yX11_status ∈ lw_tbl := tin_6 _ (List.mem_of_getElem? (i := 105) rfl)
theorem q_1824 : Cond.selects RX11 yX11_status yX11_status ∈ wL := eN_10 _ (List.mem_of_getElem? (i := 2) rfl)
theorem u_1824 : Cond.selects RX11 yX11_status yX11_status ∈ lw_tbl := tin_6 _ (List.mem_of_getElem? (i := 106) rfl)
theorem q_1825 : Cond.methodLink RL 182 yX12_status ∈ wL := eN_10 _ (List.mem_of_getElem? (i := 3) rfl)
theorem u_1825 : Cond.methodLink RL 182 yX12_status ∈ lw_tbl := tin_7 _ (List.mem_of_getElem? (i := 146) rfl)
theorem q_1826 : Cond.instanceMethod yX12_status ∈ wL := eN_10 _ (List.mem_of_getElem? (i := 4) rfl)
theorem u_1826 : Cond.instanceMethod yX12_status ∈ lw_tbl := tin_7 _ (List.mem_of_getElem? (i := 147) rfl)
theorem q_1827 : Cond.selects RX12 yX12_status yX12_status ∈ wL := eN_10 _ (List.mem_of_getElem? (i := 5) rfl)
theorem u_1827 : Cond.selects RX12 yX12_status yX12_status ∈ lw_tbl := tin_7 _ (List.mem_of_getElem? (i := 148) rfl)
theorem elN_0 : ∀ w ∈ wN_0, w ∈ lw_tbl := (List.forall_mem_cons.mpr ⟨u_1582, (List.forall_mem_cons.mpr ⟨u_1583, (List.forall_mem_cons.mpr ⟨u_1584, (List.forall_mem_cons.mpr ⟨u_1585, (List.forall_mem_cons.mpr ⟨u_1586, (List.forall_mem_cons.mpr ⟨u_1587, (List.forall_mem_cons.mpr ⟨u_1588, (List.forall_mem_cons.mpr ⟨u_1589, (List.forall_mem_cons.mpr ⟨u_1590, (List.forall_mem_cons.mpr ⟨u_1591, (List.forall_mem_cons.mpr ⟨u_1592, (List.forall_mem_cons.mpr ⟨u_1593, (List.forall_mem_cons.mpr ⟨u_1594, (List.forall_mem_cons.mpr ⟨u_1595, (List.forall_mem_cons.mpr ⟨u_1596, (List.forall_mem_cons.mpr ⟨u_1597, (List.forall_mem_cons.mpr ⟨u_1598, (List.forall_mem_cons.mpr ⟨u_1599, (List.forall_mem_cons.mpr ⟨u_1600, (List.forall_mem_cons.mpr ⟨u_1601, (List.forall_mem_cons.mpr ⟨u_1602, (List.forall_mem_cons.mpr ⟨u_1603, (List.forall_mem_cons.mpr ⟨u_1604, (List.forall_mem_cons.mpr ⟨u_1605, (fun _ h => absurd h List.not_mem_nil)⟩)⟩)⟩)⟩)⟩)⟩)⟩)⟩)⟩)⟩)⟩)⟩)⟩)⟩)⟩)⟩)⟩)⟩)⟩)⟩)⟩)⟩)⟩)⟩)
theorem eiN_0 : GoodIn lw_tbl wN_0 := fun w h => ⟨elN_0 w h, good_of_word (List.all_eq_true.mp (by decide +kernel : wN_0.all goodWord = true) w h)⟩
theorem elN_1 : ∀ w ∈ wN_1, w ∈ lw_tbl := (List.forall_mem_cons.mpr ⟨u_1606, (List.forall_mem_cons.mpr ⟨u_1607, (List.forall_mem_cons.mpr ⟨u_1608, (List.forall_mem_cons.mpr ⟨u_1609, (List.forall_mem_cons.mpr ⟨u_1610, (List.forall_mem_cons.mpr ⟨u_1611, (List.forall_mem_cons.mpr ⟨u_1612, (List.forall_mem_cons.mpr ⟨u_1613, (List.forall_mem_cons.mpr ⟨u_1614, (List.forall_mem_cons.mpr ⟨u_1615, (List.forall_mem_cons.mpr ⟨u_1616, (List.forall_mem_cons.mpr ⟨u_1617, (List.forall_mem_cons.mpr ⟨u_1618, (List.forall_mem_cons.mpr ⟨u_1619, (List.forall_mem_cons.mpr ⟨u_1620, (List.forall_mem_cons.mpr ⟨u_1621, (List.forall_mem_cons.mpr ⟨u_1622, (List.forall_mem_cons.mpr ⟨u_1623, (List.forall_mem_cons.mpr ⟨u_1624, (List.forall_mem_cons.mpr ⟨u_1625, (List.forall_mem_cons.mpr ⟨u_1626, (List.forall_mem_cons.mpr ⟨u_1627, (List.forall_mem_cons.mpr ⟨u_1628, (List.forall_mem_cons.mpr ⟨u_1629, (fun _ h => absurd h List.not_mem_nil)⟩)⟩)⟩)⟩)⟩)⟩)⟩)⟩)⟩)⟩)⟩)⟩)⟩)⟩)⟩)⟩)⟩)⟩)⟩)⟩)⟩)⟩)⟩)⟩)
theorem eiN_1 : GoodIn lw_tbl wN_1 := fun w h => ⟨elN_1 w h, good_of_word (List.all_eq_true.mp (by decide +kernel : wN_1.all goodWord = true) w h)⟩
theorem elN_2 : ∀ w ∈ wN_2, w ∈ lw_tbl := (List.forall_mem_cons.mpr ⟨u_1630, (List.forall_mem_cons.mpr ⟨u_1631, (List.forall_mem_cons.mpr ⟨u_1632, (List.forall_mem_cons.mpr ⟨u_1633, (List.forall_mem_cons.mpr ⟨u_1634, (List.forall_mem_cons.mpr ⟨u_1635, (List.forall_mem_cons.mpr ⟨u_1636, (List.forall_mem_cons.mpr ⟨u_1637, (List.forall_mem_cons.mpr ⟨u_1638, (List.forall_mem_cons.mpr ⟨u_1639, (List.forall_mem_cons.mpr ⟨u_1640, (List.forall_mem_cons.mpr ⟨u_1641, (List.forall_mem_cons.mpr ⟨u_1642, (List.forall_mem_cons.mpr ⟨u_1643, (List.forall_mem_cons.mpr ⟨u_1644, (List.forall_mem_cons.mpr ⟨u_1645, (List.forall_mem_cons.mpr ⟨u_1646, (List.forall_mem_cons.mpr ⟨u_1647, (List.forall_mem_cons.mpr ⟨u_1648, (List.forall_mem_cons.mpr ⟨u_1649, (List.forall_mem_cons.mpr ⟨u_1650, (List.forall_mem_cons.mpr ⟨u_1651, (List.forall_mem_cons.mpr ⟨u_1652, (List.forall_mem_cons.mpr ⟨u_1653, (fun _ h => absurd h List.not_mem_nil)⟩)⟩)⟩)⟩)⟩)⟩)⟩)⟩)⟩)⟩)⟩)⟩)⟩)⟩)⟩)⟩)⟩)⟩)⟩)⟩)⟩)⟩)⟩)⟩)
theorem eiN_2 : GoodIn lw_tbl wN_2 := fun w h => ⟨elN_2 w h, good_of_word (List.all_eq_true.mp (by decide +kernel : wN_2.all goodWord = true) w h)⟩
theorem elN_3 : ∀ w ∈ wN_3, w ∈ lw_tbl := (List.forall_mem_cons.mpr ⟨u_1654, (List.forall_mem_cons.mpr ⟨u_1655, (List.forall_mem_cons.mpr ⟨u_1656, (List.forall_mem_cons.mpr ⟨u_1657, (List.forall_mem_cons.mpr ⟨u_1658, (List.forall_mem_cons.mpr ⟨u_1659, (List.forall_mem_cons.mpr ⟨u_1660, (List.forall_mem_cons.mpr ⟨u_1661, (List.forall_mem_cons.mpr ⟨u_1662, (List.forall_mem_cons.mpr ⟨u_1663, (List.forall_mem_cons.mpr ⟨u_1664, (List.forall_mem_cons.mpr ⟨u_1665, (List.forall_mem_cons.mpr ⟨u_1666, (List.forall_mem_cons.mpr ⟨u_1667, (List.forall_mem_cons.mpr ⟨u_1668, (List.forall_mem_cons.mpr ⟨u_1669, (List.forall_mem_cons.mpr ⟨u_1670, (List.forall_mem_cons.mpr ⟨u_1671, (List.forall_mem_cons.mpr ⟨u_1672, (List.forall_mem_cons.mpr ⟨u_1673, (List.forall_mem_cons.mpr ⟨u_1674, (List.forall_mem_cons.mpr ⟨u_1675, (List.forall_mem_cons.mpr ⟨u_1676, (List.forall_mem_cons.mpr ⟨u_1677, (fun _ h => absurd h List.not_mem_nil)⟩)⟩)⟩)⟩)⟩)⟩)⟩)⟩)⟩)⟩)⟩)⟩)⟩)⟩)⟩)⟩)⟩)⟩)⟩)⟩)⟩)⟩)⟩)⟩)
theorem eiN_3 : GoodIn lw_tbl wN_3 := fun w h => ⟨elN_3 w h, good_of_word (List.all_eq_true.mp (by decide +kernel : wN_3.all goodWord = true) w h)⟩
theorem elN_4 : ∀ w ∈ wN_4, w ∈ lw_tbl := (List.forall_mem_cons.mpr ⟨u_1678, (List.forall_mem_cons.mpr ⟨u_1679, (List.forall_mem_cons.mpr ⟨u_1680, (List.forall_mem_cons.mpr ⟨u_1681, (List.forall_mem_cons.mpr ⟨u_1682, (List.forall_mem_cons.mpr ⟨u_1683, (List.forall_mem_cons.mpr ⟨u_1684, (List.forall_mem_cons.mpr ⟨u_1685, (List.forall_mem_cons.mpr ⟨u_1686, (List.forall_mem_cons.mpr ⟨u_1687, (List.forall_mem_cons.mpr ⟨u_1688, (List.forall_mem_cons.mpr ⟨u_1689, (List.forall_mem_cons.mpr ⟨u_1690, (List.forall_mem_cons.mpr ⟨u_1691, (List.forall_mem_cons.mpr ⟨u_1692, (List.forall_mem_cons.mpr ⟨u_1693, (List.forall_mem_cons.mpr ⟨u_1694, (List.forall_mem_cons.mpr ⟨u_1695, (List.forall_mem_cons.mpr ⟨u_1696, (List.forall_mem_cons.mpr ⟨u_1697, (List.forall_mem_cons.mpr ⟨u_1698, (List.forall_mem_cons.mpr ⟨u_1699, (List.forall_mem_cons.mpr ⟨u_1700, (List.forall_mem_cons.mpr ⟨u_1701, (fun _ h => absurd h List.not_mem_nil)⟩)⟩)⟩)⟩)⟩)⟩)⟩)⟩)⟩)⟩)⟩)⟩)⟩)⟩)⟩)⟩)⟩)⟩)⟩)⟩)⟩)⟩)⟩)⟩)
theorem eiN_4 : GoodIn lw_tbl wN_4 := fun w h => ⟨elN_4 w h, good_of_word (List.all_eq_true.mp (by decide +kernel : wN_4.all goodWord = true) w h)⟩
theorem elN_5 : ∀ w ∈ wN_5, w ∈ lw_tbl := (List.forall_mem_cons.mpr ⟨u_1702, (List.forall_mem_cons.mpr ⟨u_1703, (List.forall_mem_cons.mpr ⟨u_1704, (List.forall_mem_cons.mpr ⟨u_1705, (List.forall_mem_cons.mpr ⟨u_1706, (List.forall_mem_cons.mpr ⟨u_1707, (List.forall_mem_cons.mpr ⟨u_1708, (List.forall_mem_cons.mpr ⟨u_1709, (List.forall_mem_cons.mpr ⟨u_1710, (List.forall_mem_cons.mpr ⟨u_1711, (List.forall_mem_cons.mpr ⟨u_1712, (List.forall_mem_cons.mpr ⟨u_1713, (List.forall_mem_cons.mpr ⟨u_1714, (List.forall_mem_cons.mpr ⟨u_1715, (List.forall_mem_cons.mpr ⟨u_1716, (List.forall_mem_cons.mpr ⟨u_1717, (List.forall_mem_cons.mpr ⟨u_1718, (List.forall_mem_cons.mpr ⟨u_1719, (List.forall_mem_cons.mpr ⟨u_1720, (List.forall_mem_cons.mpr ⟨u_1721, (List.forall_mem_cons.mpr ⟨u_1722, (List.forall_mem_cons.mpr ⟨u_1723, (List.forall_mem_cons.mpr ⟨u_1724, (List.forall_mem_cons.mpr ⟨u_1725, (fun _ h => absurd h List.not_mem_nil)⟩)⟩)⟩)⟩)⟩)⟩)⟩)⟩)⟩)⟩)⟩)⟩)⟩)⟩)⟩)⟩)⟩)⟩)⟩)⟩)⟩)⟩)⟩)⟩)
theorem eiN_5 : GoodIn lw_tbl wN_5 := fun w h => ⟨elN_5 w h, good_of_word (List.all_eq_true.mp (by decide +kernel : wN_5.all goodWord = true) w h)⟩
theorem elN_6 : ∀ w ∈ wN_6, w ∈ lw_tbl := (List.forall_mem_cons.mpr ⟨u_1726, (List.forall_mem_cons.mpr ⟨u_1727, (List.forall_mem_cons.mpr ⟨u_1728, (List.forall_mem_cons.mpr ⟨u_1729, (List.forall_mem_cons.mpr ⟨u_1730, (List.forall_mem_cons.mpr ⟨u_1731, (List.forall_mem_cons.mpr ⟨u_1732, (List.forall_mem_cons.mpr ⟨u_1733, (List.forall_mem_cons.mpr ⟨u_1734, (List.forall_mem_cons.mpr ⟨u_1735, (List.forall_mem_cons.mpr ⟨u_1736, (List.forall_mem_cons.mpr ⟨u_1737, (List.forall_mem_cons.mpr ⟨u_1738, (List.forall_mem_cons.mpr ⟨u_1739, (List.forall_mem_cons.mpr ⟨u_1740, (List.forall_mem_cons.mpr ⟨u_1741, (List.forall_mem_cons.mpr ⟨u_1742, (List.forall_mem_cons.mpr ⟨u_1743, (List.forall_mem_cons.mpr ⟨u_1744, (List.forall_mem_cons.mpr ⟨u_1745, (List.forall_mem_cons.mpr ⟨u_1746, (List.forall_mem_cons.mpr ⟨u_1747, (List.forall_mem_cons.mpr ⟨u_1748, (List.forall_mem_cons.mpr ⟨u_1749, (fun _ h => absurd h List.not_mem_nil)⟩)⟩)⟩)⟩)⟩)⟩)⟩)⟩)⟩)⟩)⟩)⟩)⟩)⟩)⟩)⟩)⟩)⟩)⟩)⟩)⟩)⟩)⟩)⟩)
theorem eiN_6 : GoodIn lw_tbl wN_6 := fun w h => ⟨elN_6 w h, good_of_word (List.all_eq_true.mp (by decide +kernel : wN_6.all goodWord = true) w h)⟩
theorem elN_7 : ∀ w ∈ wN_7, w ∈ lw_tbl := (List.forall_mem_cons.mpr ⟨u_1750, (List.forall_mem_cons.mpr ⟨u_1751, (List.forall_mem_cons.mpr ⟨u_1752, (List.forall_mem_cons.mpr ⟨u_1753, (List.forall_mem_cons.mpr ⟨u_1754, (List.forall_mem_cons.mpr ⟨u_1755, (List.forall_mem_cons.mpr ⟨u_1756, (List.forall_mem_cons.mpr ⟨u_1757, (List.forall_mem_cons.mpr ⟨u_1758, (List.forall_mem_cons.mpr ⟨u_1759, (List.forall_mem_cons.mpr ⟨u_1760, (List.forall_mem_cons.mpr ⟨u_1761, (List.forall_mem_cons.mpr ⟨u_1762, (List.forall_mem_cons.mpr ⟨u_1763, (List.forall_mem_cons.mpr ⟨u_1764, (List.forall_mem_cons.mpr ⟨u_1765, (List.forall_mem_cons.mpr ⟨u_1766, (List.forall_mem_cons.mpr ⟨u_1767, (List.forall_mem_cons.mpr ⟨u_1768, (List.forall_mem_cons.mpr ⟨u_1769, (List.forall_mem_cons.mpr ⟨u_1770, (List.forall_mem_cons.mpr ⟨u_1771, (List.forall_mem_cons.mpr ⟨u_1772, (List.forall_mem_cons.mpr ⟨u_1773, (fun _ h => absurd h List.not_mem_nil)⟩)⟩)⟩)⟩)⟩)⟩)⟩)⟩)⟩)⟩)⟩)⟩)⟩)⟩)⟩)⟩)⟩)⟩)⟩)⟩)⟩)⟩)⟩)⟩)
theorem eiN_7 : GoodIn lw_tbl wN_7 := fun w h => ⟨elN_7 w h, good_of_word (List.all_eq_true.mp (by decide +kernel : wN_7.all goodWord = true) w h)⟩
theorem elN_8 : ∀ w ∈ wN_8, w ∈ lw_tbl := (List.forall_mem_cons.mpr ⟨u_1774, (List.forall_mem_cons.mpr ⟨u_1775, (List.forall_mem_cons.mpr ⟨u_1776, (List.forall_mem_cons.mpr ⟨u_1777, (List.forall_mem_cons.mpr ⟨u_1778, (List.forall_mem_cons.mpr ⟨u_1779, (List.forall_mem_cons.mpr ⟨u_1780, (List.forall_mem_cons.mpr ⟨u_1781, (List.forall_mem_cons.mpr ⟨u_1782, (List.forall_mem_cons.mpr ⟨u_1783, (List.forall_mem_cons.mpr ⟨u_1784, (List.forall_mem_cons.mpr ⟨u_1785, (List.forall_mem_cons.mpr ⟨u_1786, (List.forall_mem_cons.mpr ⟨u_1787, (List.forall_mem_cons.mpr ⟨u_1788, (List.forall_mem_cons.mpr ⟨u_1789, (List.forall_mem_cons.mpr ⟨u_1790, (List.forall_mem_cons.mpr ⟨u_1791, (List.forall_mem_cons.mpr ⟨u_1792, (List.forall_mem_cons.mpr ⟨u_1793, (List.forall_mem_cons.mpr ⟨u_1794, (List.forall_mem_cons.mpr ⟨u_1795, (List.forall_mem_cons.mpr ⟨u_1796, (List.forall_mem_cons.mpr ⟨u_1797, (fun _ h => absurd h List.not_mem_nil)⟩)⟩)⟩)⟩)⟩)⟩)⟩)⟩)⟩)⟩)⟩)⟩)⟩)⟩)⟩)⟩)⟩)⟩)⟩)⟩)⟩)⟩)⟩)⟩)
theorem eiN_8 : GoodIn lw_tbl wN_8 := fun w h => ⟨elN_8 w h, good_of_word (List.all_eq_true.mp (by decide +kernel : wN_8.all goodWord = true) w h)⟩
theorem elN_9 : ∀ w ∈ wN_9, w ∈ lw_tbl := (List.forall_mem_cons.mpr ⟨u_1798, (List.forall_mem_cons.mpr ⟨u_1799, (List.forall_mem_cons.mpr ⟨u_1800, (List.forall_mem_cons.mpr ⟨u_1801, (List.forall_mem_cons.mpr ⟨u_1802, (List.forall_mem_cons.mpr ⟨u_1803, (List.forall_mem_cons.mpr ⟨u_1804, (List.forall_mem_cons.mpr ⟨u_1805, (List.forall_mem_cons.mpr ⟨u_1806, (List.forall_mem_cons.mpr ⟨u_1807, (List.forall_mem_cons.mpr ⟨u_1808, (List.forall_mem_cons.mpr ⟨u_1809, (List.forall_mem_cons.mpr ⟨u_1810, (List.forall_mem_cons.mpr ⟨u_1811, (List.forall_mem_cons.mpr ⟨u_1812, (List.forall_mem_cons.mpr ⟨u_1813, (List.forall_mem_cons.mpr ⟨u_1814, (List.forall_mem_cons.mpr ⟨u_1815, (List.forall_mem_cons.mpr ⟨u_1816, (List.forall_mem_cons.mpr ⟨u_1817, (List.forall_mem_cons.mpr ⟨u_1818, (List.forall_mem_cons.mpr ⟨u_1819, (List.forall_mem_cons.mpr ⟨u_1820, (List.forall_mem_cons.mpr ⟨u_1821, (fun _ h => absurd h List.not_mem_nil)⟩)⟩)⟩)⟩)⟩)⟩)⟩)⟩)⟩)⟩)⟩)⟩)⟩)⟩)⟩)⟩)⟩)⟩)⟩)⟩)⟩)⟩)⟩)⟩)
theorem eiN_9 : GoodIn lw_tbl wN_9 := fun w h => ⟨elN_9 w h, good_of_word (List.all_eq_true.mp (by decide +kernel : wN_9.all goodWord = true) w h)⟩
theorem elN_10 : ∀ w ∈ wN_10, w ∈ lw_tbl := (List.forall_mem_cons.mpr ⟨u_1822, (List.forall_mem_cons.mpr ⟨u_1823, (List.forall_mem_cons.mpr ⟨u_1824, (List.forall_mem_cons.mpr ⟨u_1825, (List.forall_mem_cons.mpr ⟨u_1826, (List.forall_mem_cons.mpr ⟨u_1827, (fun _ h => absurd h List.not_mem_nil)⟩)⟩)⟩)⟩)⟩)⟩)
theorem eiN_10 : GoodIn lw_tbl wN_10 := fun w h => ⟨elN_10 w h, good_of_word (List.all_eq_true.mp (by decide +kernel : wN_10.all goodWord = true) w h)⟩
theorem wL_in : GoodIn lw_tbl wL := goodIn_app eiN_0 (goodIn_app eiN_1 (goodIn_app eiN_2 (goodIn_app eiN_3 (goodIn_app eiN_4 (goodIn_app eiN_5 (goodIn_app eiN_6 (goodIn_app eiN_7 (goodIn_app eiN_8 (goodIn_app eiN_9 (eiN_10))))))))))
def wAL : List Cond := wL ++ wA
theorem wAL_in : GoodIn lw_tbl wAL := goodIn_app wL_in wA_in
theorem wAL_good : GoodIn wAL wAL := fun w h => ⟨h, (wAL_in w h).2⟩
theorem iA {w : Cond} (h : w ∈ wA) : w ∈ wAL := List.mem_append_right _ h
theorem iB {w : Cond} (h : w ∈ wL) : w ∈ wAL := List.mem_append_left _ h
theorem gVL {own C : String} {idx : Nat} {y : MethodName} {k : Cond} (h1 : Cond.methodLink own idx y ∈ wAL) (h2 : Cond.instanceMethod y ∈ wAL) (h3 : Cond.selects C y y ∈ wAL) (h4 : Cond.initialized C ∈ wAL) (hk : k ∈ wAL) : GoodIn wAL (wsV own idx C y (k :: wA)) := by
  intro w hw
  rcases List.mem_append.mp hw with h | h
  · simp only [List.mem_cons, List.not_mem_nil, or_false] at h
    rcases h with rfl | rfl | rfl | rfl
    · exact wAL_good _ h1
    · exact wAL_good _ h2
    · exact wAL_good _ h3
    · exact wAL_good _ h4
  · exact (List.mem_cons.mp h).elim (fun e => by rw [e]; exact wAL_good k hk) (fun h => wAL_good w (iA h))
theorem mdv_yX11_feed : yX11_feed.cls = RX11 ∧ yX11_feed.cls ≠ "java/lang/invoke/MethodHandle" ∧ yX11_feed.cls ≠ "java/lang/invoke/VarHandle" ∧ (parseMethodDescriptor yX11_feed.desc).map (fun d => d.parameters.length) = some 5 := by decide +kernel
theorem mdv_yX12_feed : yX12_feed.cls = RX12 ∧ yX12_feed.cls ≠ "java/lang/invoke/MethodHandle" ∧ yX12_feed.cls ≠ "java/lang/invoke/VarHandle" ∧ (parseMethodDescriptor yX12_feed.desc).map (fun d => d.parameters.length) = some 5 := by decide +kernel
theorem mdv_yX11_end : yX11_end.cls = RX11 ∧ yX11_end.cls ≠ "java/lang/invoke/MethodHandle" ∧ yX11_end.cls ≠ "java/lang/invoke/VarHandle" ∧ (parseMethodDescriptor yX11_end.desc).map (fun d => d.parameters.length) = some 1 := by decide +kernel
theorem mdv_yX12_end : yX12_end.cls = RX12 ∧ yX12_end.cls ≠ "java/lang/invoke/MethodHandle" ∧ yX12_end.cls ≠ "java/lang/invoke/VarHandle" ∧ (parseMethodDescriptor yX12_end.desc).map (fun d => d.parameters.length) = some 1 := by decide +kernel
theorem mdv_yX11_heap : yX11_heap.cls = RX11 ∧ yX11_heap.cls ≠ "java/lang/invoke/MethodHandle" ∧ yX11_heap.cls ≠ "java/lang/invoke/VarHandle" ∧ (parseMethodDescriptor yX11_heap.desc).map (fun d => d.parameters.length) = some 0 := by decide +kernel
theorem mdv_yX12_heap : yX12_heap.cls = RX12 ∧ yX12_heap.cls ≠ "java/lang/invoke/MethodHandle" ∧ yX12_heap.cls ≠ "java/lang/invoke/VarHandle" ∧ (parseMethodDescriptor yX12_heap.desc).map (fun d => d.parameters.length) = some 0 := by decide +kernel
theorem mdv_yX11_fault : yX11_fault.cls = RX11 ∧ yX11_fault.cls ≠ "java/lang/invoke/MethodHandle" ∧ yX11_fault.cls ≠ "java/lang/invoke/VarHandle" ∧ (parseMethodDescriptor yX11_fault.desc).map (fun d => d.parameters.length) = some 1 := by decide +kernel
theorem mdv_yX12_fault : yX12_fault.cls = RX12 ∧ yX12_fault.cls ≠ "java/lang/invoke/MethodHandle" ∧ yX12_fault.cls ≠ "java/lang/invoke/VarHandle" ∧ (parseMethodDescriptor yX12_fault.desc).map (fun d => d.parameters.length) = some 1 := by decide +kernel
theorem mdv_yX11_has : yX11_has.cls = RX11 ∧ yX11_has.cls ≠ "java/lang/invoke/MethodHandle" ∧ yX11_has.cls ≠ "java/lang/invoke/VarHandle" ∧ (parseMethodDescriptor yX11_has.desc).map (fun d => d.parameters.length) = some 1 := by decide +kernel
theorem mdv_yX12_has : yX12_has.cls = RX12 ∧ yX12_has.cls ≠ "java/lang/invoke/MethodHandle" ∧ yX12_has.cls ≠ "java/lang/invoke/VarHandle" ∧ (parseMethodDescriptor yX12_has.desc).map (fun d => d.parameters.length) = some 1 := by decide +kernel
theorem mdv_yX11_word : yX11_word.cls = RX11 ∧ yX11_word.cls ≠ "java/lang/invoke/MethodHandle" ∧ yX11_word.cls ≠ "java/lang/invoke/VarHandle" ∧ (parseMethodDescriptor yX11_word.desc).map (fun d => d.parameters.length) = some 2 := by decide +kernel
theorem mdv_yX12_word : yX12_word.cls = RX12 ∧ yX12_word.cls ≠ "java/lang/invoke/MethodHandle" ∧ yX12_word.cls ≠ "java/lang/invoke/VarHandle" ∧ (parseMethodDescriptor yX12_word.desc).map (fun d => d.parameters.length) = some 2 := by decide +kernel
theorem mdv_yX11_stage : yX11_stage.cls = RX11 ∧ yX11_stage.cls ≠ "java/lang/invoke/MethodHandle" ∧ yX11_stage.cls ≠ "java/lang/invoke/VarHandle" ∧ (parseMethodDescriptor yX11_stage.desc).map (fun d => d.parameters.length) = some 1 := by decide +kernel
theorem mdv_yX12_stage : yX12_stage.cls = RX12 ∧ yX12_stage.cls ≠ "java/lang/invoke/MethodHandle" ∧ yX12_stage.cls ≠ "java/lang/invoke/VarHandle" ∧ (parseMethodDescriptor yX12_stage.desc).map (fun d => d.parameters.length) = some 1 := by decide +kernel
theorem mdv_yX11_kept : yX11_kept.cls = RX11 ∧ yX11_kept.cls ≠ "java/lang/invoke/MethodHandle" ∧ yX11_kept.cls ≠ "java/lang/invoke/VarHandle" ∧ (parseMethodDescriptor yX11_kept.desc).map (fun d => d.parameters.length) = some 2 := by decide +kernel
theorem mdv_yX12_kept : yX12_kept.cls = RX12 ∧ yX12_kept.cls ≠ "java/lang/invoke/MethodHandle" ∧ yX12_kept.cls ≠ "java/lang/invoke/VarHandle" ∧ (parseMethodDescriptor yX12_kept.desc).map (fun d => d.parameters.length) = some 2 := by decide +kernel
theorem mdv_yX11_cell : yX11_cell.cls = RX11 ∧ yX11_cell.cls ≠ "java/lang/invoke/MethodHandle" ∧ yX11_cell.cls ≠ "java/lang/invoke/VarHandle" ∧ (parseMethodDescriptor yX11_cell.desc).map (fun d => d.parameters.length) = some 2 := by decide +kernel
theorem mdv_yX12_cell : yX12_cell.cls = RX12 ∧ yX12_cell.cls ≠ "java/lang/invoke/MethodHandle" ∧ yX12_cell.cls ≠ "java/lang/invoke/VarHandle" ∧ (parseMethodDescriptor yX12_cell.desc).map (fun d => d.parameters.length) = some 2 := by decide +kernel
theorem mdv_yX11_cellOf : yX11_cellOf.cls = RX11 ∧ yX11_cellOf.cls ≠ "java/lang/invoke/MethodHandle" ∧ yX11_cellOf.cls ≠ "java/lang/invoke/VarHandle" ∧ (parseMethodDescriptor yX11_cellOf.desc).map (fun d => d.parameters.length) = some 1 := by decide +kernel
theorem mdv_yX12_cellOf : yX12_cellOf.cls = RX12 ∧ yX12_cellOf.cls ≠ "java/lang/invoke/MethodHandle" ∧ yX12_cellOf.cls ≠ "java/lang/invoke/VarHandle" ∧ (parseMethodDescriptor yX12_cellOf.desc).map (fun d => d.parameters.length) = some 1 := by decide +kernel
theorem mdv_yX11_goes : yX11_goes.cls = RX11 ∧ yX11_goes.cls ≠ "java/lang/invoke/MethodHandle" ∧ yX11_goes.cls ≠ "java/lang/invoke/VarHandle" ∧ (parseMethodDescriptor yX11_goes.desc).map (fun d => d.parameters.length) = some 1 := by decide +kernel
theorem mdv_yX12_goes : yX12_goes.cls = RX12 ∧ yX12_goes.cls ≠ "java/lang/invoke/MethodHandle" ∧ yX12_goes.cls ≠ "java/lang/invoke/VarHandle" ∧ (parseMethodDescriptor yX12_goes.desc).map (fun d => d.parameters.length) = some 1 := by decide +kernel
theorem mdv_yX11_comes : yX11_comes.cls = RX11 ∧ yX11_comes.cls ≠ "java/lang/invoke/MethodHandle" ∧ yX11_comes.cls ≠ "java/lang/invoke/VarHandle" ∧ (parseMethodDescriptor yX11_comes.desc).map (fun d => d.parameters.length) = some 1 := by decide +kernel
theorem mdv_yX12_comes : yX12_comes.cls = RX12 ∧ yX12_comes.cls ≠ "java/lang/invoke/MethodHandle" ∧ yX12_comes.cls ≠ "java/lang/invoke/VarHandle" ∧ (parseMethodDescriptor yX12_comes.desc).map (fun d => d.parameters.length) = some 1 := by decide +kernel
theorem mdv_yX11_block : yX11_block.cls = RX11 ∧ yX11_block.cls ≠ "java/lang/invoke/MethodHandle" ∧ yX11_block.cls ≠ "java/lang/invoke/VarHandle" ∧ (parseMethodDescriptor yX11_block.desc).map (fun d => d.parameters.length) = some 2 := by decide +kernel
theorem mdv_yX12_block : yX12_block.cls = RX12 ∧ yX12_block.cls ≠ "java/lang/invoke/MethodHandle" ∧ yX12_block.cls ≠ "java/lang/invoke/VarHandle" ∧ (parseMethodDescriptor yX12_block.desc).map (fun d => d.parameters.length) = some 2 := by decide +kernel
theorem mdv_yX11_chain : yX11_chain.cls = RX11 ∧ yX11_chain.cls ≠ "java/lang/invoke/MethodHandle" ∧ yX11_chain.cls ≠ "java/lang/invoke/VarHandle" ∧ (parseMethodDescriptor yX11_chain.desc).map (fun d => d.parameters.length) = some 2 := by decide +kernel
theorem mdv_yX12_chain : yX12_chain.cls = RX12 ∧ yX12_chain.cls ≠ "java/lang/invoke/MethodHandle" ∧ yX12_chain.cls ≠ "java/lang/invoke/VarHandle" ∧ (parseMethodDescriptor yX12_chain.desc).map (fun d => d.parameters.length) = some 2 := by decide +kernel
theorem mdv_yX11_longest : yX11_longest.cls = RX11 ∧ yX11_longest.cls ≠ "java/lang/invoke/MethodHandle" ∧ yX11_longest.cls ≠ "java/lang/invoke/VarHandle" ∧ (parseMethodDescriptor yX11_longest.desc).map (fun d => d.parameters.length) = some 1 := by decide +kernel
theorem mdv_yX12_longest : yX12_longest.cls = RX12 ∧ yX12_longest.cls ≠ "java/lang/invoke/MethodHandle" ∧ yX12_longest.cls ≠ "java/lang/invoke/VarHandle" ∧ (parseMethodDescriptor yX12_longest.desc).map (fun d => d.parameters.length) = some 1 := by decide +kernel
theorem mdv_yX11_steps : yX11_steps.cls = RX11 ∧ yX11_steps.cls ≠ "java/lang/invoke/MethodHandle" ∧ yX11_steps.cls ≠ "java/lang/invoke/VarHandle" ∧ (parseMethodDescriptor yX11_steps.desc).map (fun d => d.parameters.length) = some 1 := by decide +kernel
theorem mdv_yX12_steps : yX12_steps.cls = RX12 ∧ yX12_steps.cls ≠ "java/lang/invoke/MethodHandle" ∧ yX12_steps.cls ≠ "java/lang/invoke/VarHandle" ∧ (parseMethodDescriptor yX12_steps.desc).map (fun d => d.parameters.length) = some 1 := by decide +kernel
theorem mdv_yX11_room : yX11_room.cls = RX11 ∧ yX11_room.cls ≠ "java/lang/invoke/MethodHandle" ∧ yX11_room.cls ≠ "java/lang/invoke/VarHandle" ∧ (parseMethodDescriptor yX11_room.desc).map (fun d => d.parameters.length) = some 2 := by decide +kernel
theorem mdv_yX12_room : yX12_room.cls = RX12 ∧ yX12_room.cls ≠ "java/lang/invoke/MethodHandle" ∧ yX12_room.cls ≠ "java/lang/invoke/VarHandle" ∧ (parseMethodDescriptor yX12_room.desc).map (fun d => d.parameters.length) = some 2 := by decide +kernel
theorem mdv_yX11_far : yX11_far.cls = RX11 ∧ yX11_far.cls ≠ "java/lang/invoke/MethodHandle" ∧ yX11_far.cls ≠ "java/lang/invoke/VarHandle" ∧ (parseMethodDescriptor yX11_far.desc).map (fun d => d.parameters.length) = some 1 := by decide +kernel
theorem mdv_yX12_far : yX12_far.cls = RX12 ∧ yX12_far.cls ≠ "java/lang/invoke/MethodHandle" ∧ yX12_far.cls ≠ "java/lang/invoke/VarHandle" ∧ (parseMethodDescriptor yX12_far.desc).map (fun d => d.parameters.length) = some 1 := by decide +kernel
theorem mdv_yX11_way : yX11_way.cls = RX11 ∧ yX11_way.cls ≠ "java/lang/invoke/MethodHandle" ∧ yX11_way.cls ≠ "java/lang/invoke/VarHandle" ∧ (parseMethodDescriptor yX11_way.desc).map (fun d => d.parameters.length) = some 2 := by decide +kernel
theorem mdv_yX12_way : yX12_way.cls = RX12 ∧ yX12_way.cls ≠ "java/lang/invoke/MethodHandle" ∧ yX12_way.cls ≠ "java/lang/invoke/VarHandle" ∧ (parseMethodDescriptor yX12_way.desc).map (fun d => d.parameters.length) = some 2 := by decide +kernel
theorem mdv_yX11_keeps : yX11_keeps.cls = RX11 ∧ yX11_keeps.cls ≠ "java/lang/invoke/MethodHandle" ∧ yX11_keeps.cls ≠ "java/lang/invoke/VarHandle" ∧ (parseMethodDescriptor yX11_keeps.desc).map (fun d => d.parameters.length) = some 1 := by decide +kernel
theorem mdv_yX12_keeps : yX12_keeps.cls = RX12 ∧ yX12_keeps.cls ≠ "java/lang/invoke/MethodHandle" ∧ yX12_keeps.cls ≠ "java/lang/invoke/VarHandle" ∧ (parseMethodDescriptor yX12_keeps.desc).map (fun d => d.parameters.length) = some 1 := by decide +kernel
theorem mdv_yX11_retains : yX11_retains.cls = RX11 ∧ yX11_retains.cls ≠ "java/lang/invoke/MethodHandle" ∧ yX11_retains.cls ≠ "java/lang/invoke/VarHandle" ∧ (parseMethodDescriptor yX11_retains.desc).map (fun d => d.parameters.length) = some 1 := by decide +kernel
theorem mdv_yX12_retains : yX12_retains.cls = RX12 ∧ yX12_retains.cls ≠ "java/lang/invoke/MethodHandle" ∧ yX12_retains.cls ≠ "java/lang/invoke/VarHandle" ∧ (parseMethodDescriptor yX12_retains.desc).map (fun d => d.parameters.length) = some 1 := by decide +kernel
theorem mdv_yX11_best : yX11_best.cls = RX11 ∧ yX11_best.cls ≠ "java/lang/invoke/MethodHandle" ∧ yX11_best.cls ≠ "java/lang/invoke/VarHandle" ∧ (parseMethodDescriptor yX11_best.desc).map (fun d => d.parameters.length) = some 1 := by decide +kernel
theorem mdv_yX12_best : yX12_best.cls = RX12 ∧ yX12_best.cls ≠ "java/lang/invoke/MethodHandle" ∧ yX12_best.cls ≠ "java/lang/invoke/VarHandle" ∧ (parseMethodDescriptor yX12_best.desc).map (fun d => d.parameters.length) = some 1 := by decide +kernel
theorem mdv_yX11_found : yX11_found.cls = RX11 ∧ yX11_found.cls ≠ "java/lang/invoke/MethodHandle" ∧ yX11_found.cls ≠ "java/lang/invoke/VarHandle" ∧ (parseMethodDescriptor yX11_found.desc).map (fun d => d.parameters.length) = some 1 := by decide +kernel
theorem mdv_yX12_found : yX12_found.cls = RX12 ∧ yX12_found.cls ≠ "java/lang/invoke/MethodHandle" ∧ yX12_found.cls ≠ "java/lang/invoke/VarHandle" ∧ (parseMethodDescriptor yX12_found.desc).map (fun d => d.parameters.length) = some 1 := by decide +kernel
theorem mdv_yX11_remember : yX11_remember.cls = RX11 ∧ yX11_remember.cls ≠ "java/lang/invoke/MethodHandle" ∧ yX11_remember.cls ≠ "java/lang/invoke/VarHandle" ∧ (parseMethodDescriptor yX11_remember.desc).map (fun d => d.parameters.length) = some 0 := by decide +kernel
theorem mdv_yX12_remember : yX12_remember.cls = RX12 ∧ yX12_remember.cls ≠ "java/lang/invoke/MethodHandle" ∧ yX12_remember.cls ≠ "java/lang/invoke/VarHandle" ∧ (parseMethodDescriptor yX12_remember.desc).map (fun d => d.parameters.length) = some 0 := by decide +kernel
theorem mdv_yX11_alike : yX11_alike.cls = RX11 ∧ yX11_alike.cls ≠ "java/lang/invoke/MethodHandle" ∧ yX11_alike.cls ≠ "java/lang/invoke/VarHandle" ∧ (parseMethodDescriptor yX11_alike.desc).map (fun d => d.parameters.length) = some 0 := by decide +kernel
theorem mdv_yX12_alike : yX12_alike.cls = RX12 ∧ yX12_alike.cls ≠ "java/lang/invoke/MethodHandle" ∧ yX12_alike.cls ≠ "java/lang/invoke/VarHandle" ∧ (parseMethodDescriptor yX12_alike.desc).map (fun d => d.parameters.length) = some 0 := by decide +kernel
theorem mdv_yX11_see : yX11_see.cls = RX11 ∧ yX11_see.cls ≠ "java/lang/invoke/MethodHandle" ∧ yX11_see.cls ≠ "java/lang/invoke/VarHandle" ∧ (parseMethodDescriptor yX11_see.desc).map (fun d => d.parameters.length) = some 0 := by decide +kernel
theorem mdv_yX12_see : yX12_see.cls = RX12 ∧ yX12_see.cls ≠ "java/lang/invoke/MethodHandle" ∧ yX12_see.cls ≠ "java/lang/invoke/VarHandle" ∧ (parseMethodDescriptor yX12_see.desc).map (fun d => d.parameters.length) = some 0 := by decide +kernel
theorem mdv_yX11_then : yX11_then.cls = RX11 ∧ yX11_then.cls ≠ "java/lang/invoke/MethodHandle" ∧ yX11_then.cls ≠ "java/lang/invoke/VarHandle" ∧ (parseMethodDescriptor yX11_then.desc).map (fun d => d.parameters.length) = some 1 := by decide +kernel
theorem mdv_yX12_then : yX12_then.cls = RX12 ∧ yX12_then.cls ≠ "java/lang/invoke/MethodHandle" ∧ yX12_then.cls ≠ "java/lang/invoke/VarHandle" ∧ (parseMethodDescriptor yX12_then.desc).map (fun d => d.parameters.length) = some 1 := by decide +kernel
theorem mdv_yX11_tells : yX11_tells.cls = RX11 ∧ yX11_tells.cls ≠ "java/lang/invoke/MethodHandle" ∧ yX11_tells.cls ≠ "java/lang/invoke/VarHandle" ∧ (parseMethodDescriptor yX11_tells.desc).map (fun d => d.parameters.length) = some 1 := by decide +kernel
theorem mdv_yX12_tells : yX12_tells.cls = RX12 ∧ yX12_tells.cls ≠ "java/lang/invoke/MethodHandle" ∧ yX12_tells.cls ≠ "java/lang/invoke/VarHandle" ∧ (parseMethodDescriptor yX12_tells.desc).map (fun d => d.parameters.length) = some 1 := by decide +kernel
theorem mdv_yX11_run : yX11_run.cls = RX11 ∧ yX11_run.cls ≠ "java/lang/invoke/MethodHandle" ∧ yX11_run.cls ≠ "java/lang/invoke/VarHandle" ∧ (parseMethodDescriptor yX11_run.desc).map (fun d => d.parameters.length) = some 0 := by decide +kernel
theorem mdv_yX12_run : yX12_run.cls = RX12 ∧ yX12_run.cls ≠ "java/lang/invoke/MethodHandle" ∧ yX12_run.cls ≠ "java/lang/invoke/VarHandle" ∧ (parseMethodDescriptor yX12_run.desc).map (fun d => d.parameters.length) = some 0 := by decide +kernel
theorem mdv_yX11_failed : yX11_failed.cls = RX11 ∧ yX11_failed.cls ≠ "java/lang/invoke/MethodHandle" ∧ yX11_failed.cls ≠ "java/lang/invoke/VarHandle" ∧ (parseMethodDescriptor yX11_failed.desc).map (fun d => d.parameters.length) = some 1 := by decide +kernel
theorem mdv_yX12_failed : yX12_failed.cls = RX12 ∧ yX12_failed.cls ≠ "java/lang/invoke/MethodHandle" ∧ yX12_failed.cls ≠ "java/lang/invoke/VarHandle" ∧ (parseMethodDescriptor yX12_failed.desc).map (fun d => d.parameters.length) = some 1 := by decide +kernel
theorem mdv_yX11_collect : yX11_collect.cls = RX11 ∧ yX11_collect.cls ≠ "java/lang/invoke/MethodHandle" ∧ yX11_collect.cls ≠ "java/lang/invoke/VarHandle" ∧ (parseMethodDescriptor yX11_collect.desc).map (fun d => d.parameters.length) = some 0 := by decide +kernel
theorem mdv_yX12_collect : yX12_collect.cls = RX12 ∧ yX12_collect.cls ≠ "java/lang/invoke/MethodHandle" ∧ yX12_collect.cls ≠ "java/lang/invoke/VarHandle" ∧ (parseMethodDescriptor yX12_collect.desc).map (fun d => d.parameters.length) = some 0 := by decide +kernel
theorem mdv_yX11_begin : yX11_begin.cls = RX11 ∧ yX11_begin.cls ≠ "java/lang/invoke/MethodHandle" ∧ yX11_begin.cls ≠ "java/lang/invoke/VarHandle" ∧ (parseMethodDescriptor yX11_begin.desc).map (fun d => d.parameters.length) = some 0 := by decide +kernel
theorem mdv_yX12_begin : yX12_begin.cls = RX12 ∧ yX12_begin.cls ≠ "java/lang/invoke/MethodHandle" ∧ yX12_begin.cls ≠ "java/lang/invoke/VarHandle" ∧ (parseMethodDescriptor yX12_begin.desc).map (fun d => d.parameters.length) = some 0 := by decide +kernel
theorem mdv_yX11_step : yX11_step.cls = RX11 ∧ yX11_step.cls ≠ "java/lang/invoke/MethodHandle" ∧ yX11_step.cls ≠ "java/lang/invoke/VarHandle" ∧ (parseMethodDescriptor yX11_step.desc).map (fun d => d.parameters.length) = some 1 := by decide +kernel
theorem mdv_yX12_step : yX12_step.cls = RX12 ∧ yX12_step.cls ≠ "java/lang/invoke/MethodHandle" ∧ yX12_step.cls ≠ "java/lang/invoke/VarHandle" ∧ (parseMethodDescriptor yX12_step.desc).map (fun d => d.parameters.length) = some 1 := by decide +kernel
theorem mdv_yX11_method : yX11_method.cls = RX11 ∧ yX11_method.cls ≠ "java/lang/invoke/MethodHandle" ∧ yX11_method.cls ≠ "java/lang/invoke/VarHandle" ∧ (parseMethodDescriptor yX11_method.desc).map (fun d => d.parameters.length) = some 1 := by decide +kernel
theorem mdv_yX12_method : yX12_method.cls = RX12 ∧ yX12_method.cls ≠ "java/lang/invoke/MethodHandle" ∧ yX12_method.cls ≠ "java/lang/invoke/VarHandle" ∧ (parseMethodDescriptor yX12_method.desc).map (fun d => d.parameters.length) = some 1 := by decide +kernel
theorem mdv_yX11_chance : yX11_chance.cls = RX11 ∧ yX11_chance.cls ≠ "java/lang/invoke/MethodHandle" ∧ yX11_chance.cls ≠ "java/lang/invoke/VarHandle" ∧ (parseMethodDescriptor yX11_chance.desc).map (fun d => d.parameters.length) = some 1 := by decide +kernel
theorem mdv_yX12_chance : yX12_chance.cls = RX12 ∧ yX12_chance.cls ≠ "java/lang/invoke/MethodHandle" ∧ yX12_chance.cls ≠ "java/lang/invoke/VarHandle" ∧ (parseMethodDescriptor yX12_chance.desc).map (fun d => d.parameters.length) = some 1 := by decide +kernel
theorem mdv_yX11_undo : yX11_undo.cls = RX11 ∧ yX11_undo.cls ≠ "java/lang/invoke/MethodHandle" ∧ yX11_undo.cls ≠ "java/lang/invoke/VarHandle" ∧ (parseMethodDescriptor yX11_undo.desc).map (fun d => d.parameters.length) = some 0 := by decide +kernel
theorem mdv_yX12_undo : yX12_undo.cls = RX12 ∧ yX12_undo.cls ≠ "java/lang/invoke/MethodHandle" ∧ yX12_undo.cls ≠ "java/lang/invoke/VarHandle" ∧ (parseMethodDescriptor yX12_undo.desc).map (fun d => d.parameters.length) = some 0 := by decide +kernel
theorem mdv_yX11_seed : yX11_seed.cls = RX11 ∧ yX11_seed.cls ≠ "java/lang/invoke/MethodHandle" ∧ yX11_seed.cls ≠ "java/lang/invoke/VarHandle" ∧ (parseMethodDescriptor yX11_seed.desc).map (fun d => d.parameters.length) = some 1 := by decide +kernel
theorem mdv_yX12_seed : yX12_seed.cls = RX12 ∧ yX12_seed.cls ≠ "java/lang/invoke/MethodHandle" ∧ yX12_seed.cls ≠ "java/lang/invoke/VarHandle" ∧ (parseMethodDescriptor yX12_seed.desc).map (fun d => d.parameters.length) = some 1 := by decide +kernel
theorem mdv_yX11_image : yX11_image.cls = RX11 ∧ yX11_image.cls ≠ "java/lang/invoke/MethodHandle" ∧ yX11_image.cls ≠ "java/lang/invoke/VarHandle" ∧ (parseMethodDescriptor yX11_image.desc).map (fun d => d.parameters.length) = some 0 := by decide +kernel
theorem mdv_yX12_image : yX12_image.cls = RX12 ∧ yX12_image.cls ≠ "java/lang/invoke/MethodHandle" ∧ yX12_image.cls ≠ "java/lang/invoke/VarHandle" ∧ (parseMethodDescriptor yX12_image.desc).map (fun d => d.parameters.length) = some 0 := by decide +kernel
theorem mdv_yX11_octet : yX11_octet.cls = RX11 ∧ yX11_octet.cls ≠ "java/lang/invoke/MethodHandle" ∧ yX11_octet.cls ≠ "java/lang/invoke/VarHandle" ∧ (parseMethodDescriptor yX11_octet.desc).map (fun d => d.parameters.length) = some 1 := by decide +kernel
theorem mdv_yX12_octet : yX12_octet.cls = RX12 ∧ yX12_octet.cls ≠ "java/lang/invoke/MethodHandle" ∧ yX12_octet.cls ≠ "java/lang/invoke/VarHandle" ∧ (parseMethodDescriptor yX12_octet.desc).map (fun d => d.parameters.length) = some 1 := by decide +kernel
theorem mdv_yX11_on : yX11_on.cls = RX11 ∧ yX11_on.cls ≠ "java/lang/invoke/MethodHandle" ∧ yX11_on.cls ≠ "java/lang/invoke/VarHandle" ∧ (parseMethodDescriptor yX11_on.desc).map (fun d => d.parameters.length) = some 0 := by decide +kernel
theorem mdv_yX12_on : yX12_on.cls = RX12 ∧ yX12_on.cls ≠ "java/lang/invoke/MethodHandle" ∧ yX12_on.cls ≠ "java/lang/invoke/VarHandle" ∧ (parseMethodDescriptor yX12_on.desc).map (fun d => d.parameters.length) = some 0 := by decide +kernel
theorem mdv_yX11_status : yX11_status.cls = RX11 ∧ yX11_status.cls ≠ "java/lang/invoke/MethodHandle" ∧ yX11_status.cls ≠ "java/lang/invoke/VarHandle" ∧ (parseMethodDescriptor yX11_status.desc).map (fun d => d.parameters.length) = some 1 := by decide +kernel
theorem mdv_yX12_status : yX12_status.cls = RX12 ∧ yX12_status.cls ≠ "java/lang/invoke/MethodHandle" ∧ yX12_status.cls ≠ "java/lang/invoke/VarHandle" ∧ (parseMethodDescriptor yX12_status.desc).map (fun d => d.parameters.length) = some 1 := by decide +kernel
theorem dL_law_0 : decode cL_law 0 = .ok (.new 7, 3) := by decide +kernel
theorem dL_law_3 : decode cL_law 3 = .ok (.dup, 1) := by decide +kernel
theorem dL_law_4 : decode cL_law 4 = .ok (.invokespecial 9, 3) := by decide +kernel
theorem dL_law_7 : decode cL_law 7 = .ok (.astore_n 1, 1) := by decide +kernel
theorem dL_law_8 : decode cL_law 8 = .ok (.new 10, 3) := by decide +kernel
theorem dL_law_11 : decode cL_law 11 = .ok (.dup, 1) := by decide +kernel
theorem dL_law_12 : decode cL_law 12 = .ok (.invokespecial 12, 3) := by decide +kernel
theorem dL_law_15 : decode cL_law 15 = .ok (.astore_n 2, 1) := by decide +kernel
theorem dL_law_16 : decode cL_law 16 = .ok (.iconst 0, 1) := by decide +kernel
theorem dL_law_17 : decode cL_law 17 = .ok (.istore_n 3, 1) := by decide +kernel
theorem dL_law_18 : decode cL_law 18 = .ok (.iload_n 3, 1) := by decide +kernel
theorem dL_law_19 : decode cL_law 19 = .ok (.aload_n 0, 1) := by decide +kernel
theorem dL_law_20 : decode cL_law 20 = .ok (.arraylength, 1) := by decide +kernel
theorem dL_law_21 : decode cL_law 21 = .ok (.bipush 6, 2) := by decide +kernel
theorem dL_law_23 : decode cL_law 23 = .ok (.isub, 1) := by decide +kernel
theorem dL_law_24 : decode cL_law 24 = .ok (.if_icmp .gt 1147, 3) := by decide +kernel
theorem dL_law_27 : decode cL_law 27 = .ok (.aload_n 0, 1) := by decide +kernel
theorem dL_law_28 : decode cL_law 28 = .ok (.iload_n 3, 1) := by decide +kernel
theorem dL_law_29 : decode cL_law 29 = .ok (.iaload, 1) := by decide +kernel
theorem dL_law_30 : decode cL_law 30 = .ok (.bipush 63, 2) := by decide +kernel
theorem dL_law_32 : decode cL_law 32 = .ok (.iand, 1) := by decide +kernel
theorem dL_law_33 : decode cL_law 33 = .ok (.tableswitch 1132 0 40 #[179, 242, 265, 278, 301, 324, 357, 380, 413, 446, 469, 492, 515, 548, 581, 604, 627, 660, 683, 716, 739, 762, 785, 808, 821, 834, 847, 870, 893, 906, 929, 942, 955, 978, 1001, 1024, 1037, 1060, 1073, 1096, 1109], 179) := by decide +kernel
theorem dL_law_212 : decode cL_law 212 = .ok (.aload_n 1, 1) := by decide +kernel
theorem dL_law_213 : decode cL_law 213 = .ok (.aload_n 0, 1) := by decide +kernel
theorem dL_law_214 : decode cL_law 214 = .ok (.iload_n 3, 1) := by decide +kernel
theorem dL_law_215 : decode cL_law 215 = .ok (.iconst 1, 1) := by decide +kernel
theorem dL_law_216 : decode cL_law 216 = .ok (.iadd, 1) := by decide +kernel
theorem dL_law_217 : decode cL_law 217 = .ok (.iaload, 1) := by decide +kernel
theorem dL_law_218 : decode cL_law 218 = .ok (.aload_n 0, 1) := by decide +kernel
theorem dL_law_219 : decode cL_law 219 = .ok (.iload_n 3, 1) := by decide +kernel
theorem dL_law_220 : decode cL_law 220 = .ok (.iconst 2, 1) := by decide +kernel
theorem dL_law_221 : decode cL_law 221 = .ok (.iadd, 1) := by decide +kernel
theorem dL_law_222 : decode cL_law 222 = .ok (.iaload, 1) := by decide +kernel
theorem dL_law_223 : decode cL_law 223 = .ok (.aload_n 0, 1) := by decide +kernel
theorem dL_law_224 : decode cL_law 224 = .ok (.iload_n 3, 1) := by decide +kernel
theorem dL_law_225 : decode cL_law 225 = .ok (.iconst 3, 1) := by decide +kernel
theorem dL_law_226 : decode cL_law 226 = .ok (.iadd, 1) := by decide +kernel
theorem dL_law_227 : decode cL_law 227 = .ok (.iaload, 1) := by decide +kernel
theorem dL_law_228 : decode cL_law 228 = .ok (.aload_n 0, 1) := by decide +kernel
theorem dL_law_229 : decode cL_law 229 = .ok (.iload_n 3, 1) := by decide +kernel
theorem dL_law_230 : decode cL_law 230 = .ok (.iconst 4, 1) := by decide +kernel
theorem dL_law_231 : decode cL_law 231 = .ok (.iadd, 1) := by decide +kernel
theorem dL_law_232 : decode cL_law 232 = .ok (.iaload, 1) := by decide +kernel
theorem dL_law_233 : decode cL_law 233 = .ok (.aload_n 0, 1) := by decide +kernel
theorem dL_law_234 : decode cL_law 234 = .ok (.iload_n 3, 1) := by decide +kernel
theorem dL_law_235 : decode cL_law 235 = .ok (.iconst 5, 1) := by decide +kernel
theorem dL_law_236 : decode cL_law 236 = .ok (.iadd, 1) := by decide +kernel
theorem dL_law_237 : decode cL_law 237 = .ok (.iaload, 1) := by decide +kernel
theorem dL_law_238 : decode cL_law 238 = .ok (.invokevirtual 13, 3) := by decide +kernel
theorem dL_law_241 : decode cL_law 241 = .ok (.pop, 1) := by decide +kernel
theorem dL_law_242 : decode cL_law 242 = .ok (.aload_n 2, 1) := by decide +kernel
theorem dL_law_243 : decode cL_law 243 = .ok (.aload_n 0, 1) := by decide +kernel
theorem dL_law_244 : decode cL_law 244 = .ok (.iload_n 3, 1) := by decide +kernel
theorem dL_law_245 : decode cL_law 245 = .ok (.iconst 1, 1) := by decide +kernel
theorem dL_law_246 : decode cL_law 246 = .ok (.iadd, 1) := by decide +kernel
theorem dL_law_247 : decode cL_law 247 = .ok (.iaload, 1) := by decide +kernel
theorem dL_law_248 : decode cL_law 248 = .ok (.aload_n 0, 1) := by decide +kernel
theorem dL_law_249 : decode cL_law 249 = .ok (.iload_n 3, 1) := by decide +kernel
theorem dL_law_250 : decode cL_law 250 = .ok (.iconst 2, 1) := by decide +kernel
theorem dL_law_251 : decode cL_law 251 = .ok (.iadd, 1) := by decide +kernel
theorem dL_law_252 : decode cL_law 252 = .ok (.iaload, 1) := by decide +kernel
theorem dL_law_253 : decode cL_law 253 = .ok (.aload_n 0, 1) := by decide +kernel
theorem dL_law_254 : decode cL_law 254 = .ok (.iload_n 3, 1) := by decide +kernel
theorem dL_law_255 : decode cL_law 255 = .ok (.iconst 3, 1) := by decide +kernel
theorem dL_law_256 : decode cL_law 256 = .ok (.iadd, 1) := by decide +kernel
theorem dL_law_257 : decode cL_law 257 = .ok (.iaload, 1) := by decide +kernel
theorem dL_law_258 : decode cL_law 258 = .ok (.aload_n 0, 1) := by decide +kernel
theorem dL_law_259 : decode cL_law 259 = .ok (.iload_n 3, 1) := by decide +kernel
theorem dL_law_260 : decode cL_law 260 = .ok (.iconst 4, 1) := by decide +kernel
theorem dL_law_261 : decode cL_law 261 = .ok (.iadd, 1) := by decide +kernel
theorem dL_law_262 : decode cL_law 262 = .ok (.iaload, 1) := by decide +kernel
theorem dL_law_263 : decode cL_law 263 = .ok (.aload_n 0, 1) := by decide +kernel
theorem dL_law_264 : decode cL_law 264 = .ok (.iload_n 3, 1) := by decide +kernel
theorem dL_law_265 : decode cL_law 265 = .ok (.iconst 5, 1) := by decide +kernel
theorem dL_law_266 : decode cL_law 266 = .ok (.iadd, 1) := by decide +kernel
theorem dL_law_267 : decode cL_law 267 = .ok (.iaload, 1) := by decide +kernel
theorem dL_law_268 : decode cL_law 268 = .ok (.invokevirtual 17, 3) := by decide +kernel
theorem dL_law_271 : decode cL_law 271 = .ok (.pop, 1) := by decide +kernel
theorem dL_law_272 : decode cL_law 272 = .ok (.goto 893, 3) := by decide +kernel
theorem dL_law_275 : decode cL_law 275 = .ok (.aload_n 1, 1) := by decide +kernel
theorem dL_law_276 : decode cL_law 276 = .ok (.aload_n 0, 1) := by decide +kernel
theorem dL_law_277 : decode cL_law 277 = .ok (.iload_n 3, 1) := by decide +kernel
theorem dL_law_278 : decode cL_law 278 = .ok (.iconst 1, 1) := by decide +kernel
theorem dL_law_279 : decode cL_law 279 = .ok (.iadd, 1) := by decide +kernel
theorem dL_law_280 : decode cL_law 280 = .ok (.iaload, 1) := by decide +kernel
theorem dL_law_281 : decode cL_law 281 = .ok (.invokevirtual 18, 3) := by decide +kernel
theorem dL_law_284 : decode cL_law 284 = .ok (.pop, 1) := by decide +kernel
theorem dL_law_285 : decode cL_law 285 = .ok (.aload_n 2, 1) := by decide +kernel
theorem dL_law_286 : decode cL_law 286 = .ok (.aload_n 0, 1) := by decide +kernel
theorem dL_law_287 : decode cL_law 287 = .ok (.iload_n 3, 1) := by decide +kernel
theorem dL_law_288 : decode cL_law 288 = .ok (.iconst 1, 1) := by decide +kernel
theorem dL_law_289 : decode cL_law 289 = .ok (.iadd, 1) := by decide +kernel
theorem dL_law_290 : decode cL_law 290 = .ok (.iaload, 1) := by decide +kernel
theorem dL_law_291 : decode cL_law 291 = .ok (.invokevirtual 22, 3) := by decide +kernel
theorem dL_law_294 : decode cL_law 294 = .ok (.pop, 1) := by decide +kernel
theorem dL_law_295 : decode cL_law 295 = .ok (.goto 870, 3) := by decide +kernel
theorem dL_law_298 : decode cL_law 298 = .ok (.aload_n 1, 1) := by decide +kernel
theorem dL_law_299 : decode cL_law 299 = .ok (.invokevirtual 23, 3) := by decide +kernel
theorem dL_law_302 : decode cL_law 302 = .ok (.pop, 1) := by decide +kernel
theorem dL_law_303 : decode cL_law 303 = .ok (.aload_n 2, 1) := by decide +kernel
theorem dL_law_304 : decode cL_law 304 = .ok (.invokevirtual 27, 3) := by decide +kernel
theorem dL_law_307 : decode cL_law 307 = .ok (.pop, 1) := by decide +kernel
theorem dL_law_308 : decode cL_law 308 = .ok (.goto 857, 3) := by decide +kernel
theorem dL_law_311 : decode cL_law 311 = .ok (.aload_n 1, 1) := by decide +kernel
theorem dL_law_312 : decode cL_law 312 = .ok (.aload_n 0, 1) := by decide +kernel
theorem dL_law_313 : decode cL_law 313 = .ok (.iload_n 3, 1) := by decide +kernel
theorem dL_law_314 : decode cL_law 314 = .ok (.iconst 1, 1) := by decide +kernel
theorem dL_law_315 : decode cL_law 315 = .ok (.iadd, 1) := by decide +kernel
theorem dL_law_316 : decode cL_law 316 = .ok (.iaload, 1) := by decide +kernel
theorem dL_law_317 : decode cL_law 317 = .ok (.invokevirtual 28, 3) := by decide +kernel
theorem dL_law_320 : decode cL_law 320 = .ok (.pop, 1) := by decide +kernel
theorem dL_law_321 : decode cL_law 321 = .ok (.aload_n 2, 1) := by decide +kernel
theorem dL_law_322 : decode cL_law 322 = .ok (.aload_n 0, 1) := by decide +kernel
theorem dL_law_323 : decode cL_law 323 = .ok (.iload_n 3, 1) := by decide +kernel
theorem dL_law_324 : decode cL_law 324 = .ok (.iconst 1, 1) := by decide +kernel
theorem dL_law_325 : decode cL_law 325 = .ok (.iadd, 1) := by decide +kernel
theorem dL_law_326 : decode cL_law 326 = .ok (.iaload, 1) := by decide +kernel
theorem dL_law_327 : decode cL_law 327 = .ok (.invokevirtual 32, 3) := by decide +kernel
theorem dL_law_330 : decode cL_law 330 = .ok (.pop, 1) := by decide +kernel
theorem dL_law_331 : decode cL_law 331 = .ok (.goto 834, 3) := by decide +kernel
theorem dL_law_334 : decode cL_law 334 = .ok (.aload_n 1, 1) := by decide +kernel
theorem dL_law_335 : decode cL_law 335 = .ok (.aload_n 0, 1) := by decide +kernel
theorem dL_law_336 : decode cL_law 336 = .ok (.iload_n 3, 1) := by decide +kernel
theorem dL_law_337 : decode cL_law 337 = .ok (.iconst 1, 1) := by decide +kernel
theorem dL_law_338 : decode cL_law 338 = .ok (.iadd, 1) := by decide +kernel
theorem dL_law_339 : decode cL_law 339 = .ok (.iaload, 1) := by decide +kernel
theorem dL_law_340 : decode cL_law 340 = .ok (.invokevirtual 33, 3) := by decide +kernel
theorem dL_law_343 : decode cL_law 343 = .ok (.pop, 1) := by decide +kernel
theorem dL_law_344 : decode cL_law 344 = .ok (.aload_n 2, 1) := by decide +kernel
theorem dL_law_345 : decode cL_law 345 = .ok (.aload_n 0, 1) := by decide +kernel
theorem dL_law_346 : decode cL_law 346 = .ok (.iload_n 3, 1) := by decide +kernel
theorem dL_law_347 : decode cL_law 347 = .ok (.iconst 1, 1) := by decide +kernel
theorem dL_law_348 : decode cL_law 348 = .ok (.iadd, 1) := by decide +kernel
theorem dL_law_349 : decode cL_law 349 = .ok (.iaload, 1) := by decide +kernel
theorem dL_law_350 : decode cL_law 350 = .ok (.invokevirtual 36, 3) := by decide +kernel
theorem dL_law_353 : decode cL_law 353 = .ok (.pop, 1) := by decide +kernel
theorem dL_law_354 : decode cL_law 354 = .ok (.goto 811, 3) := by decide +kernel
theorem dL_law_357 : decode cL_law 357 = .ok (.aload_n 1, 1) := by decide +kernel
theorem dL_law_358 : decode cL_law 358 = .ok (.aload_n 0, 1) := by decide +kernel
theorem dL_law_359 : decode cL_law 359 = .ok (.iload_n 3, 1) := by decide +kernel
theorem dL_law_360 : decode cL_law 360 = .ok (.iconst 1, 1) := by decide +kernel
theorem dL_law_361 : decode cL_law 361 = .ok (.iadd, 1) := by decide +kernel
theorem dL_law_362 : decode cL_law 362 = .ok (.iaload, 1) := by decide +kernel
theorem dL_law_363 : decode cL_law 363 = .ok (.aload_n 0, 1) := by decide +kernel
theorem dL_law_364 : decode cL_law 364 = .ok (.iload_n 3, 1) := by decide +kernel
theorem dL_law_365 : decode cL_law 365 = .ok (.iconst 2, 1) := by decide +kernel
theorem dL_law_366 : decode cL_law 366 = .ok (.iadd, 1) := by decide +kernel
theorem dL_law_367 : decode cL_law 367 = .ok (.iaload, 1) := by decide +kernel
theorem dL_law_368 : decode cL_law 368 = .ok (.invokevirtual 37, 3) := by decide +kernel
theorem dL_law_371 : decode cL_law 371 = .ok (.pop, 1) := by decide +kernel
theorem dL_law_372 : decode cL_law 372 = .ok (.aload_n 2, 1) := by decide +kernel
theorem dL_law_373 : decode cL_law 373 = .ok (.aload_n 0, 1) := by decide +kernel
theorem dL_law_374 : decode cL_law 374 = .ok (.iload_n 3, 1) := by decide +kernel
theorem dL_law_375 : decode cL_law 375 = .ok (.iconst 1, 1) := by decide +kernel
theorem dL_law_376 : decode cL_law 376 = .ok (.iadd, 1) := by decide +kernel
theorem dL_law_377 : decode cL_law 377 = .ok (.iaload, 1) := by decide +kernel
theorem dL_law_378 : decode cL_law 378 = .ok (.aload_n 0, 1) := by decide +kernel
theorem dL_law_379 : decode cL_law 379 = .ok (.iload_n 3, 1) := by decide +kernel
theorem dL_law_380 : decode cL_law 380 = .ok (.iconst 2, 1) := by decide +kernel
theorem dL_law_381 : decode cL_law 381 = .ok (.iadd, 1) := by decide +kernel
theorem dL_law_382 : decode cL_law 382 = .ok (.iaload, 1) := by decide +kernel
theorem dL_law_383 : decode cL_law 383 = .ok (.invokevirtual 41, 3) := by decide +kernel
theorem dL_law_386 : decode cL_law 386 = .ok (.pop, 1) := by decide +kernel
theorem dL_law_387 : decode cL_law 387 = .ok (.goto 778, 3) := by decide +kernel
theorem dL_law_390 : decode cL_law 390 = .ok (.aload_n 1, 1) := by decide +kernel
theorem dL_law_391 : decode cL_law 391 = .ok (.aload_n 0, 1) := by decide +kernel
theorem dL_law_392 : decode cL_law 392 = .ok (.iload_n 3, 1) := by decide +kernel
theorem dL_law_393 : decode cL_law 393 = .ok (.iconst 1, 1) := by decide +kernel
theorem dL_law_394 : decode cL_law 394 = .ok (.iadd, 1) := by decide +kernel
theorem dL_law_395 : decode cL_law 395 = .ok (.iaload, 1) := by decide +kernel
theorem dL_law_396 : decode cL_law 396 = .ok (.invokevirtual 42, 3) := by decide +kernel
theorem dL_law_399 : decode cL_law 399 = .ok (.pop, 1) := by decide +kernel
theorem dL_law_400 : decode cL_law 400 = .ok (.aload_n 2, 1) := by decide +kernel
theorem dL_law_401 : decode cL_law 401 = .ok (.aload_n 0, 1) := by decide +kernel
theorem dL_law_402 : decode cL_law 402 = .ok (.iload_n 3, 1) := by decide +kernel
theorem dL_law_403 : decode cL_law 403 = .ok (.iconst 1, 1) := by decide +kernel
theorem dL_law_404 : decode cL_law 404 = .ok (.iadd, 1) := by decide +kernel
theorem dL_law_405 : decode cL_law 405 = .ok (.iaload, 1) := by decide +kernel
theorem dL_law_406 : decode cL_law 406 = .ok (.invokevirtual 45, 3) := by decide +kernel
theorem dL_law_409 : decode cL_law 409 = .ok (.pop, 1) := by decide +kernel
theorem dL_law_410 : decode cL_law 410 = .ok (.goto 755, 3) := by decide +kernel
theorem dL_law_413 : decode cL_law 413 = .ok (.aload_n 1, 1) := by decide +kernel
theorem dL_law_414 : decode cL_law 414 = .ok (.aload_n 0, 1) := by decide +kernel
theorem dL_law_415 : decode cL_law 415 = .ok (.iload_n 3, 1) := by decide +kernel
theorem dL_law_416 : decode cL_law 416 = .ok (.iconst 1, 1) := by decide +kernel
theorem dL_law_417 : decode cL_law 417 = .ok (.iadd, 1) := by decide +kernel
theorem dL_law_418 : decode cL_law 418 = .ok (.iaload, 1) := by decide +kernel
theorem dL_law_419 : decode cL_law 419 = .ok (.aload_n 0, 1) := by decide +kernel
theorem dL_law_420 : decode cL_law 420 = .ok (.iload_n 3, 1) := by decide +kernel
theorem dL_law_421 : decode cL_law 421 = .ok (.iconst 2, 1) := by decide +kernel
theorem dL_law_422 : decode cL_law 422 = .ok (.iadd, 1) := by decide +kernel
theorem dL_law_423 : decode cL_law 423 = .ok (.iaload, 1) := by decide +kernel
theorem dL_law_424 : decode cL_law 424 = .ok (.invokevirtual 46, 3) := by decide +kernel
theorem dL_law_427 : decode cL_law 427 = .ok (.pop, 1) := by decide +kernel
theorem dL_law_428 : decode cL_law 428 = .ok (.aload_n 2, 1) := by decide +kernel
theorem dL_law_429 : decode cL_law 429 = .ok (.aload_n 0, 1) := by decide +kernel
theorem dL_law_430 : decode cL_law 430 = .ok (.iload_n 3, 1) := by decide +kernel
theorem dL_law_431 : decode cL_law 431 = .ok (.iconst 1, 1) := by decide +kernel
theorem dL_law_432 : decode cL_law 432 = .ok (.iadd, 1) := by decide +kernel
theorem dL_law_433 : decode cL_law 433 = .ok (.iaload, 1) := by decide +kernel
theorem dL_law_434 : decode cL_law 434 = .ok (.aload_n 0, 1) := by decide +kernel
theorem dL_law_435 : decode cL_law 435 = .ok (.iload_n 3, 1) := by decide +kernel
theorem dL_law_436 : decode cL_law 436 = .ok (.iconst 2, 1) := by decide +kernel
theorem dL_law_437 : decode cL_law 437 = .ok (.iadd, 1) := by decide +kernel
theorem dL_law_438 : decode cL_law 438 = .ok (.iaload, 1) := by decide +kernel
theorem dL_law_439 : decode cL_law 439 = .ok (.invokevirtual 49, 3) := by decide +kernel
theorem dL_law_442 : decode cL_law 442 = .ok (.pop, 1) := by decide +kernel
theorem dL_law_443 : decode cL_law 443 = .ok (.goto 722, 3) := by decide +kernel
theorem dL_law_446 : decode cL_law 446 = .ok (.aload_n 1, 1) := by decide +kernel
theorem dL_law_447 : decode cL_law 447 = .ok (.aload_n 0, 1) := by decide +kernel
theorem dL_law_448 : decode cL_law 448 = .ok (.iload_n 3, 1) := by decide +kernel
theorem dL_law_449 : decode cL_law 449 = .ok (.iconst 1, 1) := by decide +kernel
theorem dL_law_450 : decode cL_law 450 = .ok (.iadd, 1) := by decide +kernel
theorem dL_law_451 : decode cL_law 451 = .ok (.iaload, 1) := by decide +kernel
theorem dL_law_452 : decode cL_law 452 = .ok (.aload_n 0, 1) := by decide +kernel
theorem dL_law_453 : decode cL_law 453 = .ok (.iload_n 3, 1) := by decide +kernel
theorem dL_law_454 : decode cL_law 454 = .ok (.iconst 2, 1) := by decide +kernel
theorem dL_law_455 : decode cL_law 455 = .ok (.iadd, 1) := by decide +kernel
theorem dL_law_456 : decode cL_law 456 = .ok (.iaload, 1) := by decide +kernel
theorem dL_law_457 : decode cL_law 457 = .ok (.invokevirtual 50, 3) := by decide +kernel
theorem dL_law_460 : decode cL_law 460 = .ok (.pop, 1) := by decide +kernel
theorem dL_law_461 : decode cL_law 461 = .ok (.aload_n 2, 1) := by decide +kernel
theorem dL_law_462 : decode cL_law 462 = .ok (.aload_n 0, 1) := by decide +kernel
theorem dL_law_463 : decode cL_law 463 = .ok (.iload_n 3, 1) := by decide +kernel
theorem dL_law_464 : decode cL_law 464 = .ok (.iconst 1, 1) := by decide +kernel
theorem dL_law_465 : decode cL_law 465 = .ok (.iadd, 1) := by decide +kernel
theorem dL_law_466 : decode cL_law 466 = .ok (.iaload, 1) := by decide +kernel
theorem dL_law_467 : decode cL_law 467 = .ok (.aload_n 0, 1) := by decide +kernel
theorem dL_law_468 : decode cL_law 468 = .ok (.iload_n 3, 1) := by decide +kernel
theorem dL_law_469 : decode cL_law 469 = .ok (.iconst 2, 1) := by decide +kernel
theorem dL_law_470 : decode cL_law 470 = .ok (.iadd, 1) := by decide +kernel
theorem dL_law_471 : decode cL_law 471 = .ok (.iaload, 1) := by decide +kernel
theorem dL_law_472 : decode cL_law 472 = .ok (.invokevirtual 53, 3) := by decide +kernel
theorem dL_law_475 : decode cL_law 475 = .ok (.pop, 1) := by decide +kernel
theorem dL_law_476 : decode cL_law 476 = .ok (.goto 689, 3) := by decide +kernel
theorem dL_law_479 : decode cL_law 479 = .ok (.aload_n 1, 1) := by decide +kernel
theorem dL_law_480 : decode cL_law 480 = .ok (.aload_n 0, 1) := by decide +kernel
theorem dL_law_481 : decode cL_law 481 = .ok (.iload_n 3, 1) := by decide +kernel
theorem dL_law_482 : decode cL_law 482 = .ok (.iconst 1, 1) := by decide +kernel
theorem dL_law_483 : decode cL_law 483 = .ok (.iadd, 1) := by decide +kernel
theorem dL_law_484 : decode cL_law 484 = .ok (.iaload, 1) := by decide +kernel
theorem dL_law_485 : decode cL_law 485 = .ok (.invokevirtual 54, 3) := by decide +kernel
theorem dL_law_488 : decode cL_law 488 = .ok (.pop, 1) := by decide +kernel
theorem dL_law_489 : decode cL_law 489 = .ok (.aload_n 2, 1) := by decide +kernel
theorem dL_law_490 : decode cL_law 490 = .ok (.aload_n 0, 1) := by decide +kernel
theorem dL_law_491 : decode cL_law 491 = .ok (.iload_n 3, 1) := by decide +kernel
theorem dL_law_492 : decode cL_law 492 = .ok (.iconst 1, 1) := by decide +kernel
theorem dL_law_493 : decode cL_law 493 = .ok (.iadd, 1) := by decide +kernel
theorem dL_law_494 : decode cL_law 494 = .ok (.iaload, 1) := by decide +kernel
theorem dL_law_495 : decode cL_law 495 = .ok (.invokevirtual 57, 3) := by decide +kernel
theorem dL_law_498 : decode cL_law 498 = .ok (.pop, 1) := by decide +kernel
theorem dL_law_499 : decode cL_law 499 = .ok (.goto 666, 3) := by decide +kernel
theorem dL_law_502 : decode cL_law 502 = .ok (.aload_n 1, 1) := by decide +kernel
theorem dL_law_503 : decode cL_law 503 = .ok (.aload_n 0, 1) := by decide +kernel
theorem dL_law_504 : decode cL_law 504 = .ok (.iload_n 3, 1) := by decide +kernel
theorem dL_law_505 : decode cL_law 505 = .ok (.iconst 1, 1) := by decide +kernel
theorem dL_law_506 : decode cL_law 506 = .ok (.iadd, 1) := by decide +kernel
theorem dL_law_507 : decode cL_law 507 = .ok (.iaload, 1) := by decide +kernel
theorem dL_law_508 : decode cL_law 508 = .ok (.invokevirtual 58, 3) := by decide +kernel
theorem dL_law_511 : decode cL_law 511 = .ok (.pop, 1) := by decide +kernel
theorem dL_law_512 : decode cL_law 512 = .ok (.aload_n 2, 1) := by decide +kernel
theorem dL_law_513 : decode cL_law 513 = .ok (.aload_n 0, 1) := by decide +kernel
theorem dL_law_514 : decode cL_law 514 = .ok (.iload_n 3, 1) := by decide +kernel
theorem dL_law_515 : decode cL_law 515 = .ok (.iconst 1, 1) := by decide +kernel
theorem dL_law_516 : decode cL_law 516 = .ok (.iadd, 1) := by decide +kernel
theorem dL_law_517 : decode cL_law 517 = .ok (.iaload, 1) := by decide +kernel
theorem dL_law_518 : decode cL_law 518 = .ok (.invokevirtual 61, 3) := by decide +kernel
theorem dL_law_521 : decode cL_law 521 = .ok (.pop, 1) := by decide +kernel
theorem dL_law_522 : decode cL_law 522 = .ok (.goto 643, 3) := by decide +kernel
theorem dL_law_525 : decode cL_law 525 = .ok (.aload_n 1, 1) := by decide +kernel
theorem dL_law_526 : decode cL_law 526 = .ok (.aload_n 0, 1) := by decide +kernel
theorem dL_law_527 : decode cL_law 527 = .ok (.iload_n 3, 1) := by decide +kernel
theorem dL_law_528 : decode cL_law 528 = .ok (.iconst 1, 1) := by decide +kernel
theorem dL_law_529 : decode cL_law 529 = .ok (.iadd, 1) := by decide +kernel
theorem dL_law_530 : decode cL_law 530 = .ok (.iaload, 1) := by decide +kernel
theorem dL_law_531 : decode cL_law 531 = .ok (.invokevirtual 62, 3) := by decide +kernel
theorem dL_law_534 : decode cL_law 534 = .ok (.pop, 1) := by decide +kernel
theorem dL_law_535 : decode cL_law 535 = .ok (.aload_n 2, 1) := by decide +kernel
theorem dL_law_536 : decode cL_law 536 = .ok (.aload_n 0, 1) := by decide +kernel
theorem dL_law_537 : decode cL_law 537 = .ok (.iload_n 3, 1) := by decide +kernel
theorem dL_law_538 : decode cL_law 538 = .ok (.iconst 1, 1) := by decide +kernel
theorem dL_law_539 : decode cL_law 539 = .ok (.iadd, 1) := by decide +kernel
theorem dL_law_540 : decode cL_law 540 = .ok (.iaload, 1) := by decide +kernel
theorem dL_law_541 : decode cL_law 541 = .ok (.invokevirtual 65, 3) := by decide +kernel
theorem dL_law_544 : decode cL_law 544 = .ok (.pop, 1) := by decide +kernel
theorem dL_law_545 : decode cL_law 545 = .ok (.goto 620, 3) := by decide +kernel
theorem dL_law_548 : decode cL_law 548 = .ok (.aload_n 1, 1) := by decide +kernel
theorem dL_law_549 : decode cL_law 549 = .ok (.aload_n 0, 1) := by decide +kernel
theorem dL_law_550 : decode cL_law 550 = .ok (.iload_n 3, 1) := by decide +kernel
theorem dL_law_551 : decode cL_law 551 = .ok (.iconst 1, 1) := by decide +kernel
theorem dL_law_552 : decode cL_law 552 = .ok (.iadd, 1) := by decide +kernel
theorem dL_law_553 : decode cL_law 553 = .ok (.iaload, 1) := by decide +kernel
theorem dL_law_554 : decode cL_law 554 = .ok (.aload_n 0, 1) := by decide +kernel
theorem dL_law_555 : decode cL_law 555 = .ok (.iload_n 3, 1) := by decide +kernel
theorem dL_law_556 : decode cL_law 556 = .ok (.iconst 2, 1) := by decide +kernel
theorem dL_law_557 : decode cL_law 557 = .ok (.iadd, 1) := by decide +kernel
theorem dL_law_558 : decode cL_law 558 = .ok (.iaload, 1) := by decide +kernel
theorem dL_law_559 : decode cL_law 559 = .ok (.invokevirtual 66, 3) := by decide +kernel
theorem dL_law_562 : decode cL_law 562 = .ok (.pop, 1) := by decide +kernel
theorem dL_law_563 : decode cL_law 563 = .ok (.aload_n 2, 1) := by decide +kernel
theorem dL_law_564 : decode cL_law 564 = .ok (.aload_n 0, 1) := by decide +kernel
theorem dL_law_565 : decode cL_law 565 = .ok (.iload_n 3, 1) := by decide +kernel
theorem dL_law_566 : decode cL_law 566 = .ok (.iconst 1, 1) := by decide +kernel
theorem dL_law_567 : decode cL_law 567 = .ok (.iadd, 1) := by decide +kernel
theorem dL_law_568 : decode cL_law 568 = .ok (.iaload, 1) := by decide +kernel
theorem dL_law_569 : decode cL_law 569 = .ok (.aload_n 0, 1) := by decide +kernel
theorem dL_law_570 : decode cL_law 570 = .ok (.iload_n 3, 1) := by decide +kernel
theorem dL_law_571 : decode cL_law 571 = .ok (.iconst 2, 1) := by decide +kernel
theorem dL_law_572 : decode cL_law 572 = .ok (.iadd, 1) := by decide +kernel
theorem dL_law_573 : decode cL_law 573 = .ok (.iaload, 1) := by decide +kernel
theorem dL_law_574 : decode cL_law 574 = .ok (.invokevirtual 69, 3) := by decide +kernel
theorem dL_law_577 : decode cL_law 577 = .ok (.pop, 1) := by decide +kernel
theorem dL_law_578 : decode cL_law 578 = .ok (.goto 587, 3) := by decide +kernel
theorem dL_law_581 : decode cL_law 581 = .ok (.aload_n 1, 1) := by decide +kernel
theorem dL_law_582 : decode cL_law 582 = .ok (.aload_n 0, 1) := by decide +kernel
theorem dL_law_583 : decode cL_law 583 = .ok (.iload_n 3, 1) := by decide +kernel
theorem dL_law_584 : decode cL_law 584 = .ok (.iconst 1, 1) := by decide +kernel
theorem dL_law_585 : decode cL_law 585 = .ok (.iadd, 1) := by decide +kernel
theorem dL_law_586 : decode cL_law 586 = .ok (.iaload, 1) := by decide +kernel
theorem dL_law_587 : decode cL_law 587 = .ok (.aload_n 0, 1) := by decide +kernel
theorem dL_law_588 : decode cL_law 588 = .ok (.iload_n 3, 1) := by decide +kernel
theorem dL_law_589 : decode cL_law 589 = .ok (.iconst 2, 1) := by decide +kernel
theorem dL_law_590 : decode cL_law 590 = .ok (.iadd, 1) := by decide +kernel
theorem dL_law_591 : decode cL_law 591 = .ok (.iaload, 1) := by decide +kernel
theorem dL_law_592 : decode cL_law 592 = .ok (.invokevirtual 70, 3) := by decide +kernel
theorem dL_law_595 : decode cL_law 595 = .ok (.pop, 1) := by decide +kernel
theorem dL_law_596 : decode cL_law 596 = .ok (.aload_n 2, 1) := by decide +kernel
theorem dL_law_597 : decode cL_law 597 = .ok (.aload_n 0, 1) := by decide +kernel
theorem dL_law_598 : decode cL_law 598 = .ok (.iload_n 3, 1) := by decide +kernel
theorem dL_law_599 : decode cL_law 599 = .ok (.iconst 1, 1) := by decide +kernel
theorem dL_law_600 : decode cL_law 600 = .ok (.iadd, 1) := by decide +kernel
theorem dL_law_601 : decode cL_law 601 = .ok (.iaload, 1) := by decide +kernel
theorem dL_law_602 : decode cL_law 602 = .ok (.aload_n 0, 1) := by decide +kernel
theorem dL_law_603 : decode cL_law 603 = .ok (.iload_n 3, 1) := by decide +kernel
theorem dL_law_604 : decode cL_law 604 = .ok (.iconst 2, 1) := by decide +kernel
theorem dL_law_605 : decode cL_law 605 = .ok (.iadd, 1) := by decide +kernel
theorem dL_law_606 : decode cL_law 606 = .ok (.iaload, 1) := by decide +kernel
theorem dL_law_607 : decode cL_law 607 = .ok (.invokevirtual 73, 3) := by decide +kernel
theorem dL_law_610 : decode cL_law 610 = .ok (.pop, 1) := by decide +kernel
theorem dL_law_611 : decode cL_law 611 = .ok (.goto 554, 3) := by decide +kernel
theorem dL_law_614 : decode cL_law 614 = .ok (.aload_n 1, 1) := by decide +kernel
theorem dL_law_615 : decode cL_law 615 = .ok (.aload_n 0, 1) := by decide +kernel
theorem dL_law_616 : decode cL_law 616 = .ok (.iload_n 3, 1) := by decide +kernel
theorem dL_law_617 : decode cL_law 617 = .ok (.iconst 1, 1) := by decide +kernel
theorem dL_law_618 : decode cL_law 618 = .ok (.iadd, 1) := by decide +kernel
theorem dL_law_619 : decode cL_law 619 = .ok (.iaload, 1) := by decide +kernel
theorem dL_law_620 : decode cL_law 620 = .ok (.invokevirtual 74, 3) := by decide +kernel
theorem dL_law_623 : decode cL_law 623 = .ok (.pop, 1) := by decide +kernel
theorem dL_law_624 : decode cL_law 624 = .ok (.aload_n 2, 1) := by decide +kernel
theorem dL_law_625 : decode cL_law 625 = .ok (.aload_n 0, 1) := by decide +kernel
theorem dL_law_626 : decode cL_law 626 = .ok (.iload_n 3, 1) := by decide +kernel
theorem dL_law_627 : decode cL_law 627 = .ok (.iconst 1, 1) := by decide +kernel
theorem dL_law_628 : decode cL_law 628 = .ok (.iadd, 1) := by decide +kernel
theorem dL_law_629 : decode cL_law 629 = .ok (.iaload, 1) := by decide +kernel
theorem dL_law_630 : decode cL_law 630 = .ok (.invokevirtual 77, 3) := by decide +kernel
theorem dL_law_633 : decode cL_law 633 = .ok (.pop, 1) := by decide +kernel
theorem dL_law_634 : decode cL_law 634 = .ok (.goto 531, 3) := by decide +kernel
theorem dL_law_637 : decode cL_law 637 = .ok (.aload_n 1, 1) := by decide +kernel
theorem dL_law_638 : decode cL_law 638 = .ok (.aload_n 0, 1) := by decide +kernel
theorem dL_law_639 : decode cL_law 639 = .ok (.iload_n 3, 1) := by decide +kernel
theorem dL_law_640 : decode cL_law 640 = .ok (.iconst 1, 1) := by decide +kernel
theorem dL_law_641 : decode cL_law 641 = .ok (.iadd, 1) := by decide +kernel
theorem dL_law_642 : decode cL_law 642 = .ok (.iaload, 1) := by decide +kernel
theorem dL_law_643 : decode cL_law 643 = .ok (.invokevirtual 78, 3) := by decide +kernel
theorem dL_law_646 : decode cL_law 646 = .ok (.pop, 1) := by decide +kernel
theorem dL_law_647 : decode cL_law 647 = .ok (.aload_n 2, 1) := by decide +kernel
theorem dL_law_648 : decode cL_law 648 = .ok (.aload_n 0, 1) := by decide +kernel
theorem dL_law_649 : decode cL_law 649 = .ok (.iload_n 3, 1) := by decide +kernel
theorem dL_law_650 : decode cL_law 650 = .ok (.iconst 1, 1) := by decide +kernel
theorem dL_law_651 : decode cL_law 651 = .ok (.iadd, 1) := by decide +kernel
theorem dL_law_652 : decode cL_law 652 = .ok (.iaload, 1) := by decide +kernel
theorem dL_law_653 : decode cL_law 653 = .ok (.invokevirtual 81, 3) := by decide +kernel
theorem dL_law_656 : decode cL_law 656 = .ok (.pop, 1) := by decide +kernel
theorem dL_law_657 : decode cL_law 657 = .ok (.goto 508, 3) := by decide +kernel
theorem dL_law_660 : decode cL_law 660 = .ok (.aload_n 1, 1) := by decide +kernel
theorem dL_law_661 : decode cL_law 661 = .ok (.aload_n 0, 1) := by decide +kernel
theorem dL_law_662 : decode cL_law 662 = .ok (.iload_n 3, 1) := by decide +kernel
theorem dL_law_663 : decode cL_law 663 = .ok (.iconst 1, 1) := by decide +kernel
theorem dL_law_664 : decode cL_law 664 = .ok (.iadd, 1) := by decide +kernel
theorem dL_law_665 : decode cL_law 665 = .ok (.iaload, 1) := by decide +kernel
theorem dL_law_666 : decode cL_law 666 = .ok (.aload_n 0, 1) := by decide +kernel
theorem dL_law_667 : decode cL_law 667 = .ok (.iload_n 3, 1) := by decide +kernel
theorem dL_law_668 : decode cL_law 668 = .ok (.iconst 2, 1) := by decide +kernel
theorem dL_law_669 : decode cL_law 669 = .ok (.iadd, 1) := by decide +kernel
theorem dL_law_670 : decode cL_law 670 = .ok (.iaload, 1) := by decide +kernel
theorem dL_law_671 : decode cL_law 671 = .ok (.invokevirtual 82, 3) := by decide +kernel
theorem dL_law_674 : decode cL_law 674 = .ok (.pop, 1) := by decide +kernel
theorem dL_law_675 : decode cL_law 675 = .ok (.aload_n 2, 1) := by decide +kernel
theorem dL_law_676 : decode cL_law 676 = .ok (.aload_n 0, 1) := by decide +kernel
theorem dL_law_677 : decode cL_law 677 = .ok (.iload_n 3, 1) := by decide +kernel
theorem dL_law_678 : decode cL_law 678 = .ok (.iconst 1, 1) := by decide +kernel
theorem dL_law_679 : decode cL_law 679 = .ok (.iadd, 1) := by decide +kernel
theorem dL_law_680 : decode cL_law 680 = .ok (.iaload, 1) := by decide +kernel
theorem dL_law_681 : decode cL_law 681 = .ok (.aload_n 0, 1) := by decide +kernel
theorem dL_law_682 : decode cL_law 682 = .ok (.iload_n 3, 1) := by decide +kernel
theorem dL_law_683 : decode cL_law 683 = .ok (.iconst 2, 1) := by decide +kernel
theorem dL_law_684 : decode cL_law 684 = .ok (.iadd, 1) := by decide +kernel
theorem dL_law_685 : decode cL_law 685 = .ok (.iaload, 1) := by decide +kernel
theorem dL_law_686 : decode cL_law 686 = .ok (.invokevirtual 85, 3) := by decide +kernel
theorem dL_law_689 : decode cL_law 689 = .ok (.pop, 1) := by decide +kernel
theorem dL_law_690 : decode cL_law 690 = .ok (.goto 475, 3) := by decide +kernel
theorem dL_law_693 : decode cL_law 693 = .ok (.aload_n 1, 1) := by decide +kernel
theorem dL_law_694 : decode cL_law 694 = .ok (.aload_n 0, 1) := by decide +kernel
theorem dL_law_695 : decode cL_law 695 = .ok (.iload_n 3, 1) := by decide +kernel
theorem dL_law_696 : decode cL_law 696 = .ok (.iconst 1, 1) := by decide +kernel
theorem dL_law_697 : decode cL_law 697 = .ok (.iadd, 1) := by decide +kernel
theorem dL_law_698 : decode cL_law 698 = .ok (.iaload, 1) := by decide +kernel
theorem dL_law_699 : decode cL_law 699 = .ok (.invokevirtual 86, 3) := by decide +kernel
theorem dL_law_702 : decode cL_law 702 = .ok (.pop, 1) := by decide +kernel
theorem dL_law_703 : decode cL_law 703 = .ok (.aload_n 2, 1) := by decide +kernel
theorem dL_law_704 : decode cL_law 704 = .ok (.aload_n 0, 1) := by decide +kernel
theorem dL_law_705 : decode cL_law 705 = .ok (.iload_n 3, 1) := by decide +kernel
theorem dL_law_706 : decode cL_law 706 = .ok (.iconst 1, 1) := by decide +kernel
theorem dL_law_707 : decode cL_law 707 = .ok (.iadd, 1) := by decide +kernel
theorem dL_law_708 : decode cL_law 708 = .ok (.iaload, 1) := by decide +kernel
theorem dL_law_709 : decode cL_law 709 = .ok (.invokevirtual 89, 3) := by decide +kernel
theorem dL_law_712 : decode cL_law 712 = .ok (.pop, 1) := by decide +kernel
theorem dL_law_713 : decode cL_law 713 = .ok (.goto 452, 3) := by decide +kernel
theorem dL_law_716 : decode cL_law 716 = .ok (.aload_n 1, 1) := by decide +kernel
theorem dL_law_717 : decode cL_law 717 = .ok (.aload_n 0, 1) := by decide +kernel
theorem dL_law_718 : decode cL_law 718 = .ok (.iload_n 3, 1) := by decide +kernel
theorem dL_law_719 : decode cL_law 719 = .ok (.iconst 1, 1) := by decide +kernel
theorem dL_law_720 : decode cL_law 720 = .ok (.iadd, 1) := by decide +kernel
theorem dL_law_721 : decode cL_law 721 = .ok (.iaload, 1) := by decide +kernel
theorem dL_law_722 : decode cL_law 722 = .ok (.aload_n 0, 1) := by decide +kernel
theorem dL_law_723 : decode cL_law 723 = .ok (.iload_n 3, 1) := by decide +kernel
theorem dL_law_724 : decode cL_law 724 = .ok (.iconst 2, 1) := by decide +kernel
theorem dL_law_725 : decode cL_law 725 = .ok (.iadd, 1) := by decide +kernel
theorem dL_law_726 : decode cL_law 726 = .ok (.iaload, 1) := by decide +kernel
theorem dL_law_727 : decode cL_law 727 = .ok (.invokevirtual 90, 3) := by decide +kernel
theorem dL_law_730 : decode cL_law 730 = .ok (.pop, 1) := by decide +kernel
theorem dL_law_731 : decode cL_law 731 = .ok (.aload_n 2, 1) := by decide +kernel
theorem dL_law_732 : decode cL_law 732 = .ok (.aload_n 0, 1) := by decide +kernel
theorem dL_law_733 : decode cL_law 733 = .ok (.iload_n 3, 1) := by decide +kernel
theorem dL_law_734 : decode cL_law 734 = .ok (.iconst 1, 1) := by decide +kernel
theorem dL_law_735 : decode cL_law 735 = .ok (.iadd, 1) := by decide +kernel
theorem dL_law_736 : decode cL_law 736 = .ok (.iaload, 1) := by decide +kernel
theorem dL_law_737 : decode cL_law 737 = .ok (.aload_n 0, 1) := by decide +kernel
theorem dL_law_738 : decode cL_law 738 = .ok (.iload_n 3, 1) := by decide +kernel
theorem dL_law_739 : decode cL_law 739 = .ok (.iconst 2, 1) := by decide +kernel
theorem dL_law_740 : decode cL_law 740 = .ok (.iadd, 1) := by decide +kernel
theorem dL_law_741 : decode cL_law 741 = .ok (.iaload, 1) := by decide +kernel
theorem dL_law_742 : decode cL_law 742 = .ok (.invokevirtual 93, 3) := by decide +kernel
theorem dL_law_745 : decode cL_law 745 = .ok (.pop, 1) := by decide +kernel
theorem dL_law_746 : decode cL_law 746 = .ok (.goto 419, 3) := by decide +kernel
theorem dL_law_749 : decode cL_law 749 = .ok (.aload_n 1, 1) := by decide +kernel
theorem dL_law_750 : decode cL_law 750 = .ok (.aload_n 0, 1) := by decide +kernel
theorem dL_law_751 : decode cL_law 751 = .ok (.iload_n 3, 1) := by decide +kernel
theorem dL_law_752 : decode cL_law 752 = .ok (.iconst 1, 1) := by decide +kernel
theorem dL_law_753 : decode cL_law 753 = .ok (.iadd, 1) := by decide +kernel
theorem dL_law_754 : decode cL_law 754 = .ok (.iaload, 1) := by decide +kernel
theorem dL_law_755 : decode cL_law 755 = .ok (.invokevirtual 94, 3) := by decide +kernel
theorem dL_law_758 : decode cL_law 758 = .ok (.pop, 1) := by decide +kernel
theorem dL_law_759 : decode cL_law 759 = .ok (.aload_n 2, 1) := by decide +kernel
theorem dL_law_760 : decode cL_law 760 = .ok (.aload_n 0, 1) := by decide +kernel
theorem dL_law_761 : decode cL_law 761 = .ok (.iload_n 3, 1) := by decide +kernel
theorem dL_law_762 : decode cL_law 762 = .ok (.iconst 1, 1) := by decide +kernel
theorem dL_law_763 : decode cL_law 763 = .ok (.iadd, 1) := by decide +kernel
theorem dL_law_764 : decode cL_law 764 = .ok (.iaload, 1) := by decide +kernel
theorem dL_law_765 : decode cL_law 765 = .ok (.invokevirtual 97, 3) := by decide +kernel
theorem dL_law_768 : decode cL_law 768 = .ok (.pop, 1) := by decide +kernel
theorem dL_law_769 : decode cL_law 769 = .ok (.goto 396, 3) := by decide +kernel
theorem dL_law_772 : decode cL_law 772 = .ok (.aload_n 1, 1) := by decide +kernel
theorem dL_law_773 : decode cL_law 773 = .ok (.aload_n 0, 1) := by decide +kernel
theorem dL_law_774 : decode cL_law 774 = .ok (.iload_n 3, 1) := by decide +kernel
theorem dL_law_775 : decode cL_law 775 = .ok (.iconst 1, 1) := by decide +kernel
theorem dL_law_776 : decode cL_law 776 = .ok (.iadd, 1) := by decide +kernel
theorem dL_law_777 : decode cL_law 777 = .ok (.iaload, 1) := by decide +kernel
theorem dL_law_778 : decode cL_law 778 = .ok (.invokevirtual 98, 3) := by decide +kernel
theorem dL_law_781 : decode cL_law 781 = .ok (.pop, 1) := by decide +kernel
theorem dL_law_782 : decode cL_law 782 = .ok (.aload_n 2, 1) := by decide +kernel
theorem dL_law_783 : decode cL_law 783 = .ok (.aload_n 0, 1) := by decide +kernel
theorem dL_law_784 : decode cL_law 784 = .ok (.iload_n 3, 1) := by decide +kernel
theorem dL_law_785 : decode cL_law 785 = .ok (.iconst 1, 1) := by decide +kernel
theorem dL_law_786 : decode cL_law 786 = .ok (.iadd, 1) := by decide +kernel
theorem dL_law_787 : decode cL_law 787 = .ok (.iaload, 1) := by decide +kernel
theorem dL_law_788 : decode cL_law 788 = .ok (.invokevirtual 101, 3) := by decide +kernel
theorem dL_law_791 : decode cL_law 791 = .ok (.pop, 1) := by decide +kernel
theorem dL_law_792 : decode cL_law 792 = .ok (.goto 373, 3) := by decide +kernel
theorem dL_law_795 : decode cL_law 795 = .ok (.aload_n 1, 1) := by decide +kernel
theorem dL_law_796 : decode cL_law 796 = .ok (.aload_n 0, 1) := by decide +kernel
theorem dL_law_797 : decode cL_law 797 = .ok (.iload_n 3, 1) := by decide +kernel
theorem dL_law_798 : decode cL_law 798 = .ok (.iconst 1, 1) := by decide +kernel
theorem dL_law_799 : decode cL_law 799 = .ok (.iadd, 1) := by decide +kernel
theorem dL_law_800 : decode cL_law 800 = .ok (.iaload, 1) := by decide +kernel
theorem dL_law_801 : decode cL_law 801 = .ok (.invokevirtual 102, 3) := by decide +kernel
theorem dL_law_804 : decode cL_law 804 = .ok (.pop, 1) := by decide +kernel
theorem dL_law_805 : decode cL_law 805 = .ok (.aload_n 2, 1) := by decide +kernel
theorem dL_law_806 : decode cL_law 806 = .ok (.aload_n 0, 1) := by decide +kernel
theorem dL_law_807 : decode cL_law 807 = .ok (.iload_n 3, 1) := by decide +kernel
theorem dL_law_808 : decode cL_law 808 = .ok (.iconst 1, 1) := by decide +kernel
theorem dL_law_809 : decode cL_law 809 = .ok (.iadd, 1) := by decide +kernel
theorem dL_law_810 : decode cL_law 810 = .ok (.iaload, 1) := by decide +kernel
theorem dL_law_811 : decode cL_law 811 = .ok (.invokevirtual 105, 3) := by decide +kernel
theorem dL_law_814 : decode cL_law 814 = .ok (.pop, 1) := by decide +kernel
theorem dL_law_815 : decode cL_law 815 = .ok (.goto 350, 3) := by decide +kernel
theorem dL_law_818 : decode cL_law 818 = .ok (.aload_n 1, 1) := by decide +kernel
theorem dL_law_819 : decode cL_law 819 = .ok (.aload_n 0, 1) := by decide +kernel
theorem dL_law_820 : decode cL_law 820 = .ok (.iload_n 3, 1) := by decide +kernel
theorem dL_law_821 : decode cL_law 821 = .ok (.iconst 1, 1) := by decide +kernel
theorem dL_law_822 : decode cL_law 822 = .ok (.iadd, 1) := by decide +kernel
theorem dL_law_823 : decode cL_law 823 = .ok (.iaload, 1) := by decide +kernel
theorem dL_law_824 : decode cL_law 824 = .ok (.invokevirtual 106, 3) := by decide +kernel
theorem dL_law_827 : decode cL_law 827 = .ok (.pop, 1) := by decide +kernel
theorem dL_law_828 : decode cL_law 828 = .ok (.aload_n 2, 1) := by decide +kernel
theorem dL_law_829 : decode cL_law 829 = .ok (.aload_n 0, 1) := by decide +kernel
theorem dL_law_830 : decode cL_law 830 = .ok (.iload_n 3, 1) := by decide +kernel
theorem dL_law_831 : decode cL_law 831 = .ok (.iconst 1, 1) := by decide +kernel
theorem dL_law_832 : decode cL_law 832 = .ok (.iadd, 1) := by decide +kernel
theorem dL_law_833 : decode cL_law 833 = .ok (.iaload, 1) := by decide +kernel
theorem dL_law_834 : decode cL_law 834 = .ok (.invokevirtual 109, 3) := by decide +kernel
theorem dL_law_837 : decode cL_law 837 = .ok (.pop, 1) := by decide +kernel
theorem dL_law_838 : decode cL_law 838 = .ok (.goto 327, 3) := by decide +kernel
theorem dL_law_841 : decode cL_law 841 = .ok (.aload_n 1, 1) := by decide +kernel
theorem dL_law_842 : decode cL_law 842 = .ok (.invokevirtual 110, 3) := by decide +kernel
theorem dL_law_845 : decode cL_law 845 = .ok (.pop, 1) := by decide +kernel
theorem dL_law_846 : decode cL_law 846 = .ok (.aload_n 2, 1) := by decide +kernel
theorem dL_law_847 : decode cL_law 847 = .ok (.invokevirtual 113, 3) := by decide +kernel
theorem dL_law_850 : decode cL_law 850 = .ok (.pop, 1) := by decide +kernel
theorem dL_law_851 : decode cL_law 851 = .ok (.goto 314, 3) := by decide +kernel
theorem dL_law_854 : decode cL_law 854 = .ok (.aload_n 1, 1) := by decide +kernel
theorem dL_law_855 : decode cL_law 855 = .ok (.invokevirtual 114, 3) := by decide +kernel
theorem dL_law_858 : decode cL_law 858 = .ok (.pop, 1) := by decide +kernel
theorem dL_law_859 : decode cL_law 859 = .ok (.aload_n 2, 1) := by decide +kernel
theorem dL_law_860 : decode cL_law 860 = .ok (.invokevirtual 117, 3) := by decide +kernel
theorem dL_law_863 : decode cL_law 863 = .ok (.pop, 1) := by decide +kernel
theorem dL_law_864 : decode cL_law 864 = .ok (.goto 301, 3) := by decide +kernel
theorem dL_law_867 : decode cL_law 867 = .ok (.aload_n 1, 1) := by decide +kernel
theorem dL_law_868 : decode cL_law 868 = .ok (.invokevirtual 118, 3) := by decide +kernel
theorem dL_law_871 : decode cL_law 871 = .ok (.pop, 1) := by decide +kernel
theorem dL_law_872 : decode cL_law 872 = .ok (.aload_n 2, 1) := by decide +kernel
theorem dL_law_873 : decode cL_law 873 = .ok (.invokevirtual 121, 3) := by decide +kernel
theorem dL_law_876 : decode cL_law 876 = .ok (.pop, 1) := by decide +kernel
theorem dL_law_877 : decode cL_law 877 = .ok (.goto 288, 3) := by decide +kernel
theorem dL_law_880 : decode cL_law 880 = .ok (.aload_n 1, 1) := by decide +kernel
theorem dL_law_881 : decode cL_law 881 = .ok (.aload_n 0, 1) := by decide +kernel
theorem dL_law_882 : decode cL_law 882 = .ok (.iload_n 3, 1) := by decide +kernel
theorem dL_law_883 : decode cL_law 883 = .ok (.iconst 1, 1) := by decide +kernel
theorem dL_law_884 : decode cL_law 884 = .ok (.iadd, 1) := by decide +kernel
theorem dL_law_885 : decode cL_law 885 = .ok (.iaload, 1) := by decide +kernel
theorem dL_law_886 : decode cL_law 886 = .ok (.invokevirtual 122, 3) := by decide +kernel
theorem dL_law_889 : decode cL_law 889 = .ok (.pop, 1) := by decide +kernel
theorem dL_law_890 : decode cL_law 890 = .ok (.aload_n 2, 1) := by decide +kernel
theorem dL_law_891 : decode cL_law 891 = .ok (.aload_n 0, 1) := by decide +kernel
theorem dL_law_892 : decode cL_law 892 = .ok (.iload_n 3, 1) := by decide +kernel
theorem dL_law_893 : decode cL_law 893 = .ok (.iconst 1, 1) := by decide +kernel
theorem dL_law_894 : decode cL_law 894 = .ok (.iadd, 1) := by decide +kernel
theorem dL_law_895 : decode cL_law 895 = .ok (.iaload, 1) := by decide +kernel
theorem dL_law_896 : decode cL_law 896 = .ok (.invokevirtual 125, 3) := by decide +kernel
theorem dL_law_899 : decode cL_law 899 = .ok (.pop, 1) := by decide +kernel
theorem dL_law_900 : decode cL_law 900 = .ok (.goto 265, 3) := by decide +kernel
theorem dL_law_903 : decode cL_law 903 = .ok (.aload_n 1, 1) := by decide +kernel
theorem dL_law_904 : decode cL_law 904 = .ok (.aload_n 0, 1) := by decide +kernel
theorem dL_law_905 : decode cL_law 905 = .ok (.iload_n 3, 1) := by decide +kernel
theorem dL_law_906 : decode cL_law 906 = .ok (.iconst 1, 1) := by decide +kernel
theorem dL_law_907 : decode cL_law 907 = .ok (.iadd, 1) := by decide +kernel
theorem dL_law_908 : decode cL_law 908 = .ok (.iaload, 1) := by decide +kernel
theorem dL_law_909 : decode cL_law 909 = .ok (.invokevirtual 126, 3) := by decide +kernel
theorem dL_law_912 : decode cL_law 912 = .ok (.pop, 1) := by decide +kernel
theorem dL_law_913 : decode cL_law 913 = .ok (.aload_n 2, 1) := by decide +kernel
theorem dL_law_914 : decode cL_law 914 = .ok (.aload_n 0, 1) := by decide +kernel
theorem dL_law_915 : decode cL_law 915 = .ok (.iload_n 3, 1) := by decide +kernel
theorem dL_law_916 : decode cL_law 916 = .ok (.iconst 1, 1) := by decide +kernel
theorem dL_law_917 : decode cL_law 917 = .ok (.iadd, 1) := by decide +kernel
theorem dL_law_918 : decode cL_law 918 = .ok (.iaload, 1) := by decide +kernel
theorem dL_law_919 : decode cL_law 919 = .ok (.invokevirtual 129, 3) := by decide +kernel
theorem dL_law_922 : decode cL_law 922 = .ok (.pop, 1) := by decide +kernel
theorem dL_law_923 : decode cL_law 923 = .ok (.goto 242, 3) := by decide +kernel
theorem dL_law_926 : decode cL_law 926 = .ok (.aload_n 1, 1) := by decide +kernel
theorem dL_law_927 : decode cL_law 927 = .ok (.invokevirtual 130, 3) := by decide +kernel
theorem dL_law_930 : decode cL_law 930 = .ok (.pop, 1) := by decide +kernel
theorem dL_law_931 : decode cL_law 931 = .ok (.aload_n 2, 1) := by decide +kernel
theorem dL_law_932 : decode cL_law 932 = .ok (.invokevirtual 133, 3) := by decide +kernel
theorem dL_law_935 : decode cL_law 935 = .ok (.pop, 1) := by decide +kernel
theorem dL_law_936 : decode cL_law 936 = .ok (.goto 229, 3) := by decide +kernel
theorem dL_law_939 : decode cL_law 939 = .ok (.aload_n 1, 1) := by decide +kernel
theorem dL_law_940 : decode cL_law 940 = .ok (.aload_n 0, 1) := by decide +kernel
theorem dL_law_941 : decode cL_law 941 = .ok (.iload_n 3, 1) := by decide +kernel
theorem dL_law_942 : decode cL_law 942 = .ok (.iconst 1, 1) := by decide +kernel
theorem dL_law_943 : decode cL_law 943 = .ok (.iadd, 1) := by decide +kernel
theorem dL_law_944 : decode cL_law 944 = .ok (.iaload, 1) := by decide +kernel
theorem dL_law_945 : decode cL_law 945 = .ok (.invokevirtual 134, 3) := by decide +kernel
theorem dL_law_948 : decode cL_law 948 = .ok (.pop, 1) := by decide +kernel
theorem dL_law_949 : decode cL_law 949 = .ok (.aload_n 2, 1) := by decide +kernel
theorem dL_law_950 : decode cL_law 950 = .ok (.aload_n 0, 1) := by decide +kernel
theorem dL_law_951 : decode cL_law 951 = .ok (.iload_n 3, 1) := by decide +kernel
theorem dL_law_952 : decode cL_law 952 = .ok (.iconst 1, 1) := by decide +kernel
theorem dL_law_953 : decode cL_law 953 = .ok (.iadd, 1) := by decide +kernel
theorem dL_law_954 : decode cL_law 954 = .ok (.iaload, 1) := by decide +kernel
theorem dL_law_955 : decode cL_law 955 = .ok (.invokevirtual 137, 3) := by decide +kernel
theorem dL_law_958 : decode cL_law 958 = .ok (.pop, 1) := by decide +kernel
theorem dL_law_959 : decode cL_law 959 = .ok (.goto 206, 3) := by decide +kernel
theorem dL_law_962 : decode cL_law 962 = .ok (.aload_n 1, 1) := by decide +kernel
theorem dL_law_963 : decode cL_law 963 = .ok (.invokevirtual 138, 3) := by decide +kernel
theorem dL_law_966 : decode cL_law 966 = .ok (.pop, 1) := by decide +kernel
theorem dL_law_967 : decode cL_law 967 = .ok (.aload_n 2, 1) := by decide +kernel
theorem dL_law_968 : decode cL_law 968 = .ok (.invokevirtual 141, 3) := by decide +kernel
theorem dL_law_971 : decode cL_law 971 = .ok (.pop, 1) := by decide +kernel
theorem dL_law_972 : decode cL_law 972 = .ok (.goto 193, 3) := by decide +kernel
theorem dL_law_975 : decode cL_law 975 = .ok (.aload_n 1, 1) := by decide +kernel
theorem dL_law_976 : decode cL_law 976 = .ok (.invokevirtual 142, 3) := by decide +kernel
theorem dL_law_979 : decode cL_law 979 = .ok (.pop, 1) := by decide +kernel
theorem dL_law_980 : decode cL_law 980 = .ok (.aload_n 2, 1) := by decide +kernel
theorem dL_law_981 : decode cL_law 981 = .ok (.invokevirtual 145, 3) := by decide +kernel
theorem dL_law_984 : decode cL_law 984 = .ok (.pop, 1) := by decide +kernel
theorem dL_law_985 : decode cL_law 985 = .ok (.goto 180, 3) := by decide +kernel
theorem dL_law_988 : decode cL_law 988 = .ok (.aload_n 1, 1) := by decide +kernel
theorem dL_law_989 : decode cL_law 989 = .ok (.aload_n 0, 1) := by decide +kernel
theorem dL_law_990 : decode cL_law 990 = .ok (.iload_n 3, 1) := by decide +kernel
theorem dL_law_991 : decode cL_law 991 = .ok (.iconst 1, 1) := by decide +kernel
theorem dL_law_992 : decode cL_law 992 = .ok (.iadd, 1) := by decide +kernel
theorem dL_law_993 : decode cL_law 993 = .ok (.iaload, 1) := by decide +kernel
theorem dL_law_994 : decode cL_law 994 = .ok (.invokevirtual 146, 3) := by decide +kernel
theorem dL_law_997 : decode cL_law 997 = .ok (.pop, 1) := by decide +kernel
theorem dL_law_998 : decode cL_law 998 = .ok (.aload_n 2, 1) := by decide +kernel
theorem dL_law_999 : decode cL_law 999 = .ok (.aload_n 0, 1) := by decide +kernel
theorem dL_law_1000 : decode cL_law 1000 = .ok (.iload_n 3, 1) := by decide +kernel
theorem dL_law_1001 : decode cL_law 1001 = .ok (.iconst 1, 1) := by decide +kernel
theorem dL_law_1002 : decode cL_law 1002 = .ok (.iadd, 1) := by decide +kernel
theorem dL_law_1003 : decode cL_law 1003 = .ok (.iaload, 1) := by decide +kernel
theorem dL_law_1004 : decode cL_law 1004 = .ok (.invokevirtual 149, 3) := by decide +kernel
theorem dL_law_1007 : decode cL_law 1007 = .ok (.pop, 1) := by decide +kernel
theorem dL_law_1008 : decode cL_law 1008 = .ok (.goto 157, 3) := by decide +kernel
theorem dL_law_1011 : decode cL_law 1011 = .ok (.aload_n 1, 1) := by decide +kernel
theorem dL_law_1012 : decode cL_law 1012 = .ok (.aload_n 0, 1) := by decide +kernel
theorem dL_law_1013 : decode cL_law 1013 = .ok (.iload_n 3, 1) := by decide +kernel
theorem dL_law_1014 : decode cL_law 1014 = .ok (.iconst 1, 1) := by decide +kernel
theorem dL_law_1015 : decode cL_law 1015 = .ok (.iadd, 1) := by decide +kernel
theorem dL_law_1016 : decode cL_law 1016 = .ok (.iaload, 1) := by decide +kernel
theorem dL_law_1017 : decode cL_law 1017 = .ok (.invokevirtual 150, 3) := by decide +kernel
theorem dL_law_1020 : decode cL_law 1020 = .ok (.pop, 1) := by decide +kernel
theorem dL_law_1021 : decode cL_law 1021 = .ok (.aload_n 2, 1) := by decide +kernel
theorem dL_law_1022 : decode cL_law 1022 = .ok (.aload_n 0, 1) := by decide +kernel
theorem dL_law_1023 : decode cL_law 1023 = .ok (.iload_n 3, 1) := by decide +kernel
theorem dL_law_1024 : decode cL_law 1024 = .ok (.iconst 1, 1) := by decide +kernel
theorem dL_law_1025 : decode cL_law 1025 = .ok (.iadd, 1) := by decide +kernel
theorem dL_law_1026 : decode cL_law 1026 = .ok (.iaload, 1) := by decide +kernel
theorem dL_law_1027 : decode cL_law 1027 = .ok (.invokevirtual 153, 3) := by decide +kernel
theorem dL_law_1030 : decode cL_law 1030 = .ok (.pop, 1) := by decide +kernel
theorem dL_law_1031 : decode cL_law 1031 = .ok (.goto 134, 3) := by decide +kernel
theorem dL_law_1034 : decode cL_law 1034 = .ok (.aload_n 1, 1) := by decide +kernel
theorem dL_law_1035 : decode cL_law 1035 = .ok (.aload_n 0, 1) := by decide +kernel
theorem dL_law_1036 : decode cL_law 1036 = .ok (.iload_n 3, 1) := by decide +kernel
theorem dL_law_1037 : decode cL_law 1037 = .ok (.iconst 1, 1) := by decide +kernel
theorem dL_law_1038 : decode cL_law 1038 = .ok (.iadd, 1) := by decide +kernel
theorem dL_law_1039 : decode cL_law 1039 = .ok (.iaload, 1) := by decide +kernel
theorem dL_law_1040 : decode cL_law 1040 = .ok (.invokevirtual 154, 3) := by decide +kernel
theorem dL_law_1043 : decode cL_law 1043 = .ok (.pop, 1) := by decide +kernel
theorem dL_law_1044 : decode cL_law 1044 = .ok (.aload_n 2, 1) := by decide +kernel
theorem dL_law_1045 : decode cL_law 1045 = .ok (.aload_n 0, 1) := by decide +kernel
theorem dL_law_1046 : decode cL_law 1046 = .ok (.iload_n 3, 1) := by decide +kernel
theorem dL_law_1047 : decode cL_law 1047 = .ok (.iconst 1, 1) := by decide +kernel
theorem dL_law_1048 : decode cL_law 1048 = .ok (.iadd, 1) := by decide +kernel
theorem dL_law_1049 : decode cL_law 1049 = .ok (.iaload, 1) := by decide +kernel
theorem dL_law_1050 : decode cL_law 1050 = .ok (.invokevirtual 157, 3) := by decide +kernel
theorem dL_law_1053 : decode cL_law 1053 = .ok (.pop, 1) := by decide +kernel
theorem dL_law_1054 : decode cL_law 1054 = .ok (.goto 111, 3) := by decide +kernel
theorem dL_law_1057 : decode cL_law 1057 = .ok (.aload_n 1, 1) := by decide +kernel
theorem dL_law_1058 : decode cL_law 1058 = .ok (.invokevirtual 158, 3) := by decide +kernel
theorem dL_law_1061 : decode cL_law 1061 = .ok (.pop, 1) := by decide +kernel
theorem dL_law_1062 : decode cL_law 1062 = .ok (.aload_n 2, 1) := by decide +kernel
theorem dL_law_1063 : decode cL_law 1063 = .ok (.invokevirtual 162, 3) := by decide +kernel
theorem dL_law_1066 : decode cL_law 1066 = .ok (.pop, 1) := by decide +kernel
theorem dL_law_1067 : decode cL_law 1067 = .ok (.goto 98, 3) := by decide +kernel
theorem dL_law_1070 : decode cL_law 1070 = .ok (.aload_n 1, 1) := by decide +kernel
theorem dL_law_1071 : decode cL_law 1071 = .ok (.aload_n 0, 1) := by decide +kernel
theorem dL_law_1072 : decode cL_law 1072 = .ok (.iload_n 3, 1) := by decide +kernel
theorem dL_law_1073 : decode cL_law 1073 = .ok (.iconst 1, 1) := by decide +kernel
theorem dL_law_1074 : decode cL_law 1074 = .ok (.iadd, 1) := by decide +kernel
theorem dL_law_1075 : decode cL_law 1075 = .ok (.iaload, 1) := by decide +kernel
theorem dL_law_1076 : decode cL_law 1076 = .ok (.invokevirtual 163, 3) := by decide +kernel
theorem dL_law_1079 : decode cL_law 1079 = .ok (.aload_n 2, 1) := by decide +kernel
theorem dL_law_1080 : decode cL_law 1080 = .ok (.aload_n 0, 1) := by decide +kernel
theorem dL_law_1081 : decode cL_law 1081 = .ok (.iload_n 3, 1) := by decide +kernel
theorem dL_law_1082 : decode cL_law 1082 = .ok (.iconst 1, 1) := by decide +kernel
theorem dL_law_1083 : decode cL_law 1083 = .ok (.iadd, 1) := by decide +kernel
theorem dL_law_1084 : decode cL_law 1084 = .ok (.iaload, 1) := by decide +kernel
theorem dL_law_1085 : decode cL_law 1085 = .ok (.invokevirtual 166, 3) := by decide +kernel
theorem dL_law_1088 : decode cL_law 1088 = .ok (.if_icmp .eq 77, 3) := by decide +kernel
theorem dL_law_1091 : decode cL_law 1091 = .ok (.iconst 0, 1) := by decide +kernel
theorem dL_law_1092 : decode cL_law 1092 = .ok (.ireturn, 1) := by decide +kernel
theorem dL_law_1093 : decode cL_law 1093 = .ok (.aload_n 1, 1) := by decide +kernel
theorem dL_law_1094 : decode cL_law 1094 = .ok (.invokevirtual 167, 3) := by decide +kernel
theorem dL_law_1097 : decode cL_law 1097 = .ok (.pop, 1) := by decide +kernel
theorem dL_law_1098 : decode cL_law 1098 = .ok (.aload_n 2, 1) := by decide +kernel
theorem dL_law_1099 : decode cL_law 1099 = .ok (.invokevirtual 170, 3) := by decide +kernel
theorem dL_law_1102 : decode cL_law 1102 = .ok (.pop, 1) := by decide +kernel
theorem dL_law_1103 : decode cL_law 1103 = .ok (.goto 62, 3) := by decide +kernel
theorem dL_law_1106 : decode cL_law 1106 = .ok (.aload_n 1, 1) := by decide +kernel
theorem dL_law_1107 : decode cL_law 1107 = .ok (.aload_n 0, 1) := by decide +kernel
theorem dL_law_1108 : decode cL_law 1108 = .ok (.iload_n 3, 1) := by decide +kernel
theorem dL_law_1109 : decode cL_law 1109 = .ok (.iconst 1, 1) := by decide +kernel
theorem dL_law_1110 : decode cL_law 1110 = .ok (.iadd, 1) := by decide +kernel
theorem dL_law_1111 : decode cL_law 1111 = .ok (.iaload, 1) := by decide +kernel
theorem dL_law_1112 : decode cL_law 1112 = .ok (.invokevirtual 171, 3) := by decide +kernel
theorem dL_law_1115 : decode cL_law 1115 = .ok (.pop, 1) := by decide +kernel
theorem dL_law_1116 : decode cL_law 1116 = .ok (.aload_n 2, 1) := by decide +kernel
theorem dL_law_1117 : decode cL_law 1117 = .ok (.aload_n 0, 1) := by decide +kernel
theorem dL_law_1118 : decode cL_law 1118 = .ok (.iload_n 3, 1) := by decide +kernel
theorem dL_law_1119 : decode cL_law 1119 = .ok (.iconst 1, 1) := by decide +kernel
theorem dL_law_1120 : decode cL_law 1120 = .ok (.iadd, 1) := by decide +kernel
theorem dL_law_1121 : decode cL_law 1121 = .ok (.iaload, 1) := by decide +kernel
theorem dL_law_1122 : decode cL_law 1122 = .ok (.invokevirtual 174, 3) := by decide +kernel
theorem dL_law_1125 : decode cL_law 1125 = .ok (.pop, 1) := by decide +kernel
theorem dL_law_1126 : decode cL_law 1126 = .ok (.goto 39, 3) := by decide +kernel
theorem dL_law_1129 : decode cL_law 1129 = .ok (.aload_n 1, 1) := by decide +kernel
theorem dL_law_1130 : decode cL_law 1130 = .ok (.invokevirtual 175, 3) := by decide +kernel
theorem dL_law_1133 : decode cL_law 1133 = .ok (.pop, 1) := by decide +kernel
theorem dL_law_1134 : decode cL_law 1134 = .ok (.aload_n 2, 1) := by decide +kernel
theorem dL_law_1135 : decode cL_law 1135 = .ok (.invokevirtual 178, 3) := by decide +kernel
theorem dL_law_1138 : decode cL_law 1138 = .ok (.pop, 1) := by decide +kernel
theorem dL_law_1139 : decode cL_law 1139 = .ok (.goto 26, 3) := by decide +kernel
theorem dL_law_1142 : decode cL_law 1142 = .ok (.aload_n 1, 1) := by decide +kernel
theorem dL_law_1143 : decode cL_law 1143 = .ok (.aload_n 0, 1) := by decide +kernel
theorem dL_law_1144 : decode cL_law 1144 = .ok (.iload_n 3, 1) := by decide +kernel
theorem dL_law_1145 : decode cL_law 1145 = .ok (.iconst 1, 1) := by decide +kernel
theorem dL_law_1146 : decode cL_law 1146 = .ok (.iadd, 1) := by decide +kernel
theorem dL_law_1147 : decode cL_law 1147 = .ok (.iaload, 1) := by decide +kernel
theorem dL_law_1148 : decode cL_law 1148 = .ok (.invokevirtual 179, 3) := by decide +kernel
theorem dL_law_1151 : decode cL_law 1151 = .ok (.pop, 1) := by decide +kernel
theorem dL_law_1152 : decode cL_law 1152 = .ok (.aload_n 2, 1) := by decide +kernel
theorem dL_law_1153 : decode cL_law 1153 = .ok (.aload_n 0, 1) := by decide +kernel
theorem dL_law_1154 : decode cL_law 1154 = .ok (.iload_n 3, 1) := by decide +kernel
theorem dL_law_1155 : decode cL_law 1155 = .ok (.iconst 1, 1) := by decide +kernel
theorem dL_law_1156 : decode cL_law 1156 = .ok (.iadd, 1) := by decide +kernel
theorem dL_law_1157 : decode cL_law 1157 = .ok (.iaload, 1) := by decide +kernel
theorem dL_law_1158 : decode cL_law 1158 = .ok (.invokevirtual 182, 3) := by decide +kernel
theorem dL_law_1161 : decode cL_law 1161 = .ok (.pop, 1) := by decide +kernel
theorem dL_law_1162 : decode cL_law 1162 = .ok (.goto 3, 3) := by decide +kernel
theorem dL_law_1165 : decode cL_law 1165 = .ok (.iinc 3 6, 3) := by decide +kernel
theorem dL_law_1168 : decode cL_law 1168 = .ok (.goto (-1150), 3) := by decide +kernel
theorem dL_law_1171 : decode cL_law 1171 = .ok (.iconst 1, 1) := by decide +kernel
theorem dL_law_1172 : decode cL_law 1172 = .ok (.ireturn, 1) := by decide +kernel
/-! THE CLAIM OUT OF ONE WALK OF THE LAW'S BODY. Your part is whole_start (and what it stands on); all else here is the same for every law, but numbers. -/
def R_law : String := "CellSlideLaw"
def lw_P (b : Addr) (xs : List Int32) (args : Array Value) (s : State) : Prop := args = #[.ref b] ∧ s.IntsAt b xs ∧ xs.length ≤ 3072 ∧ (Jvm.Cond.and given_1 narrow_1).before args s = true
def lw_Q (_ : Array Value) (s : State) (o : Outcome) (t : State) : Prop := o = .returned (some (.int 1)) ∧ Framed s o t [] 600000 7302250
def lw_Z (below : List Frame) (a : Array Value) (s : State) : State → Prop := fun t => ∃ o, t.status = .running ∧ Ended t below o ∧ lw_Q a s o t
/-- the law's own end, with 1 on the stack, nothing written that was there before, its room as the claim has it -/
theorem lw_ret {p : Program} {l : Launch} {e : Env} {s : State} {m : MethodId} {below : List Frame} {meth : Method} {c : Code} {b : Nat} (hx : p.tables.exec = Jvm.exec) (hb : c.code = code) (hr : meth.sig.returnType = ret) (hlocks : meth.locks = false) {pc : Nat} {H : Heap} {ls : Array Slot} (hdg : decode code pc = .ok (.ireturn, 1)) : W p l e room_1 s m #[Value.ref b] below meth c H [] 600000 7302250 (lw_Z below #[Value.ref b] s) (F0 m pc ls [.int 1]) := by
  intro T hT X
  obtain ⟨fs, hret, hrun, hended, hW, hframe⟩ := X.leave (v := some (.int 1)) (hlocks := hlocks) (fun h => by rw [hr] at h; cases h)
  have hmeth' : T.vm.method? m = some meth := X.method'
  refine ⟨T.setFrames fs, ?_, .returned (some (.int 1)), hrun, hended, rfl, ⟨_, rfl⟩, hW, hframe⟩
  jvm_step X.here [X.here.top, hx, hb, hdg, hmeth', hr, ret, narrow_b1]
  (try refine ⟨rfl, ?_⟩); (try refine ⟨rfl, ?_⟩)
  first | (intro acts; rw [hret _ acts rfl rfl rfl]) | rw [hret _ _ rfl rfl rfl]
  exact Steps.refl _
/-- what holds at the law's entry: the machine, the code, the tables' words (any of lw_tbl by 'hts w (by decide +kernel)'), the script of L ints xs at the cell b, what the Statement gives of the start (any of its parts by flat_of_before) -/
def lw_At (p : Program) (s : State) (m : MethodId) (meth : Method) (c : Code) (b L : Nat) (xs : Nat → Int32) : Prop :=
  p.tables.exec = Jvm.exec ∧ c.code = code ∧ meth.sig.returnType = ret ∧ c.maxLocals = 4 ∧ s.vm.findClass R_law = some m.cls ∧ (∀ w ∈ lw_tbl, w.before #[Value.ref b] s = true) ∧ va_X b L xs s s.heap ∧ b < s.heap.size ∧ meth.locks = false ∧ (Jvm.Cond.and given_1 narrow_1).before #[Value.ref b] s = true
def lw_C (p : Program) (s : State) (m : MethodId) (meth : Method) (c : Code) (b L : Nat) (xs : Nat → Int32) (A : Nat → Prop) : Prop := p.tables.exec = Jvm.exec ∧ c.code = code ∧ meth.sig.returnType = ret ∧ c.maxLocals = 4 ∧ s.vm.findClass RL = some m.cls ∧ (∀ w ∈ wAL, w.before #[Value.ref b] s = true) ∧ meth.locks = false ∧ va_X b L xs s s.heap ∧ b < s.heap.size ∧ (∀ q : Nat, s.heap.size ≤ q → A q) ∧ (∀ q : Nat, A q → s.heap.size ≤ q) ∧ ¬ A b
