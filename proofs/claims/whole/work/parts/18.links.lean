theorem mem_t1 {w : Cond} (h : w ∈ tables_1_1) : w ∈ lw_tbl := List.mem_append_right _ (List.mem_append_left _ h)
theorem mem_t2 {w : Cond} (h : w ∈ tables_1_2) : w ∈ lw_tbl := List.mem_append_right _ (List.mem_append_right _ (List.mem_append_left _ h))
theorem mem_t3 {w : Cond} (h : w ∈ tables_1_3) : w ∈ lw_tbl := List.mem_append_right _ (List.mem_append_right _ (List.mem_append_right _ (List.mem_append_left _ h)))
theorem mem_t4 {w : Cond} (h : w ∈ tables_1_4) : w ∈ lw_tbl := List.mem_append_right _ (List.mem_append_right _ (List.mem_append_right _ (List.mem_append_right _ h)))
theorem ci_L : Cond.initialized RL ∈ lw_g := mem_g (List.mem_of_getElem? (i := 62) (by decide +kernel)) (by decide +kernel)
theorem ci_X6 : Cond.initialized RX6 ∈ lw_g := mem_g (List.mem_of_getElem? (i := 63) (by decide +kernel)) (by decide +kernel)
theorem ci_J9 : Cond.initialized RJ9 ∈ lw_g := mem_g (List.mem_of_getElem? (i := 64) (by decide +kernel)) (by decide +kernel)
theorem ci_X0 : Cond.initialized RX0 ∈ lw_g := mem_g (List.mem_of_getElem? (i := 65) (by decide +kernel)) (by decide +kernel)
theorem ci_X3 : Cond.initialized RX3 ∈ lw_g := mem_g (List.mem_of_getElem? (i := 66) (by decide +kernel)) (by decide +kernel)
theorem ci_X2 : Cond.initialized RX2 ∈ lw_g := mem_g (List.mem_of_getElem? (i := 67) (by decide +kernel)) (by decide +kernel)
theorem ci_X4 : Cond.initialized RX4 ∈ lw_g := mem_g (List.mem_of_getElem? (i := 68) (by decide +kernel)) (by decide +kernel)
theorem ci_X1 : Cond.initialized RX1 ∈ lw_g := mem_g (List.mem_of_getElem? (i := 69) (by decide +kernel)) (by decide +kernel)
theorem ci_X5 : Cond.initialized RX5 ∈ lw_g := mem_g (List.mem_of_getElem? (i := 70) (by decide +kernel)) (by decide +kernel)
theorem ci_X7 : Cond.initialized RX7 ∈ lw_g := mem_g (List.mem_of_getElem? (i := 71) (by decide +kernel)) (by decide +kernel)
theorem ci_J7 : Cond.initialized RJ7 ∈ lw_g := mem_g (List.mem_of_getElem? (i := 72) (by decide +kernel)) (by decide +kernel)
theorem ci_J10 : Cond.initialized RJ10 ∈ lw_g := mem_g (List.mem_of_getElem? (i := 73) (by decide +kernel)) (by decide +kernel)
abbrev mX6_init : MD := (yX6_init, cX6_init, 4, none)
theorem wX6_init : MW mX6_init 2 := ⟨mem_g (mem_t1 (List.mem_of_getElem? (i := 16) rfl)) rfl, ci_X6, by decide +kernel, ⟨by decide +kernel, by decide +kernel, by decide +kernel⟩, by decide⟩
theorem iX6_init : Cond.instanceMethod yX6_init ∈ lw_g := mem_g (List.mem_of_getElem? (i := 77) (by decide +kernel)) (by decide +kernel)
abbrev mX6_greatestPrime : MD := (yX6_greatestPrime, cX6_greatestPrime, 6, (some .int))
theorem wX6_greatestPrime : MW mX6_greatestPrime 1 := ⟨mem_g (mem_t1 (List.mem_of_getElem? (i := 22) rfl)) rfl, ci_X6, by decide +kernel, ⟨by decide +kernel, by decide +kernel, by decide +kernel⟩, by decide⟩
theorem sX6_greatestPrime : Cond.static yX6_greatestPrime ∈ lw_g := mem_g (List.mem_of_getElem? (i := 83) (by decide +kernel)) (by decide +kernel)
abbrev mJ9_min_7cf53 : MD := (yJ9_min_7cf53, cJ9_min_7cf53, 2, (some .int))
theorem wJ9_min_7cf53 : MW mJ9_min_7cf53 2 := ⟨mem_g (mem_t1 (List.mem_of_getElem? (i := 27) rfl)) rfl, ci_J9, by decide +kernel, ⟨by decide +kernel, by decide +kernel, by decide +kernel⟩, by decide⟩
theorem sJ9_min_7cf53 : Cond.static yJ9_min_7cf53 ∈ lw_g := mem_g (List.mem_of_getElem? (i := 88) (by decide +kernel)) (by decide +kernel)
abbrev mJ9_max_7cf53 : MD := (yJ9_max_7cf53, cJ9_max_7cf53, 2, (some .int))
theorem wJ9_max_7cf53 : MW mJ9_max_7cf53 2 := ⟨mem_g (mem_t1 (List.mem_of_getElem? (i := 30) rfl)) rfl, ci_J9, by decide +kernel, ⟨by decide +kernel, by decide +kernel, by decide +kernel⟩, by decide⟩
theorem sJ9_max_7cf53 : Cond.static yJ9_max_7cf53 ∈ lw_g := mem_g (List.mem_of_getElem? (i := 91) (by decide +kernel)) (by decide +kernel)
abbrev mX0_init : MD := (yX0_init, cX0_init, 1, none)
theorem wX0_init : MW mX0_init 0 := ⟨mem_g (mem_t1 (List.mem_of_getElem? (i := 36) rfl)) rfl, ci_X0, by decide +kernel, ⟨by decide +kernel, by decide +kernel, by decide +kernel⟩, by decide⟩
theorem iX0_init : Cond.instanceMethod yX0_init ∈ lw_g := mem_g (List.mem_of_getElem? (i := 97) (by decide +kernel)) (by decide +kernel)
abbrev mX3_init : MD := (yX3_init, cX3_init, 2, none)
theorem wX3_init : MW mX3_init 1 := ⟨mem_g (mem_t1 (List.mem_of_getElem? (i := 56) rfl)) rfl, ci_X3, by decide +kernel, ⟨by decide +kernel, by decide +kernel, by decide +kernel⟩, by decide⟩
theorem iX3_init : Cond.instanceMethod yX3_init ∈ lw_g := mem_g (List.mem_of_getElem? (i := 117) (by decide +kernel)) (by decide +kernel)
abbrev mX2_init : MD := (yX2_init, cX2_init, 3, none)
theorem wX2_init : MW mX2_init 2 := ⟨mem_g (mem_t1 (List.mem_of_getElem? (i := 83) rfl)) rfl, ci_X2, by decide +kernel, ⟨by decide +kernel, by decide +kernel, by decide +kernel⟩, by decide⟩
theorem iX2_init : Cond.instanceMethod yX2_init ∈ lw_g := mem_g (List.mem_of_getElem? (i := 144) (by decide +kernel)) (by decide +kernel)
abbrev mX4_init : MD := (yX4_init, cX4_init, 1, none)
theorem wX4_init : MW mX4_init 0 := ⟨mem_g (mem_t1 (List.mem_of_getElem? (i := 114) rfl)) rfl, ci_X4, by decide +kernel, ⟨by decide +kernel, by decide +kernel, by decide +kernel⟩, by decide⟩
theorem iX4_init : Cond.instanceMethod yX4_init ∈ lw_g := mem_g (List.mem_of_getElem? (i := 175) (by decide +kernel)) (by decide +kernel)
abbrev mX1_init : MD := (yX1_init, cX1_init, 1, none)
theorem wX1_init : MW mX1_init 0 := ⟨mem_g (mem_t1 (List.mem_of_getElem? (i := 136) rfl)) rfl, ci_X1, by decide +kernel, ⟨by decide +kernel, by decide +kernel, by decide +kernel⟩, by decide⟩
theorem iX1_init : Cond.instanceMethod yX1_init ∈ lw_g := mem_g (List.mem_of_getElem? (i := 197) (by decide +kernel)) (by decide +kernel)
abbrev mX5_init : MD := (yX5_init, cX5_init, 1, none)
theorem wX5_init : MW mX5_init 0 := ⟨mem_g (mem_t1 (List.mem_of_getElem? (i := 155) rfl)) rfl, ci_X5, by decide +kernel, ⟨by decide +kernel, by decide +kernel, by decide +kernel⟩, by decide⟩
theorem iX5_init : Cond.instanceMethod yX5_init ∈ lw_g := mem_g (List.mem_of_getElem? (i := 216) (by decide +kernel)) (by decide +kernel)
abbrev mX6_lay : MD := (yX6_lay, cX6_lay, 6, (some .boolean))
theorem wX6_lay : MW mX6_lay 3 := ⟨mem_g (mem_t1 (List.mem_of_getElem? (i := 207) rfl)) rfl, ci_X6, by decide +kernel, ⟨by decide +kernel, by decide +kernel, by decide +kernel⟩, by decide⟩
theorem iX6_lay : MI mX6_lay 6 := ⟨mem_g (List.mem_of_getElem? (i := 267) (by decide +kernel)) (by decide +kernel), mem_g (List.mem_of_getElem? (i := 268) (by decide +kernel)) (by decide +kernel), _, rfl, rfl⟩
abbrev mX6_isLaying : MD := (yX6_isLaying, cX6_isLaying, 2, (some .boolean))
theorem wX6_isLaying : MW mX6_isLaying 1 := ⟨mem_g (mem_t1 (List.mem_of_getElem? (i := 211) rfl)) rfl, ci_X6, by decide +kernel, ⟨by decide +kernel, by decide +kernel, by decide +kernel⟩, by decide⟩
theorem iX6_isLaying : MI mX6_isLaying 6 := ⟨mem_g (List.mem_of_getElem? (i := 272) (by decide +kernel)) (by decide +kernel), mem_g (List.mem_of_getElem? (i := 0) (by decide +kernel)) (by decide +kernel), _, rfl, rfl⟩
abbrev mX6_isBelow : MD := (yX6_isBelow, cX6_isBelow, 2, (some .boolean))
theorem wX6_isBelow : MW mX6_isBelow 2 := ⟨mem_g (mem_t1 (List.mem_of_getElem? (i := 214) rfl)) rfl, ci_X6, by decide +kernel, ⟨by decide +kernel, by decide +kernel, by decide +kernel⟩, by decide⟩
theorem sX6_isBelow : Cond.static yX6_isBelow ∈ lw_g := mem_g (List.mem_of_getElem? (i := 275) (by decide +kernel)) (by decide +kernel)
abbrev mX6_areWays : MD := (yX6_areWays, cX6_areWays, 2, (some .boolean))
theorem wX6_areWays : MW mX6_areWays 1 := ⟨mem_g (mem_t1 (List.mem_of_getElem? (i := 218) rfl)) rfl, ci_X6, by decide +kernel, ⟨by decide +kernel, by decide +kernel, by decide +kernel⟩, by decide⟩
theorem iX6_areWays : MI mX6_areWays 6 := ⟨mem_g (List.mem_of_getElem? (i := 279) (by decide +kernel)) (by decide +kernel), mem_g (List.mem_of_getElem? (i := 1) (by decide +kernel)) (by decide +kernel), _, rfl, rfl⟩
abbrev mX6_areSizes : MD := (yX6_areSizes, cX6_areSizes, 3, (some .boolean))
theorem wX6_areSizes : MW mX6_areSizes 1 := ⟨mem_g (mem_t1 (List.mem_of_getElem? (i := 222) rfl)) rfl, ci_X6, by decide +kernel, ⟨by decide +kernel, by decide +kernel, by decide +kernel⟩, by decide⟩
theorem iX6_areSizes : MI mX6_areSizes 6 := ⟨mem_g (List.mem_of_getElem? (i := 283) (by decide +kernel)) (by decide +kernel), mem_g (List.mem_of_getElem? (i := 2) (by decide +kernel)) (by decide +kernel), _, rfl, rfl⟩
abbrev mX6_sizeIn : MD := (yX6_sizeIn, cX6_sizeIn, 2, (some .int))
theorem wX6_sizeIn : MW mX6_sizeIn 2 := ⟨mem_g (mem_t1 (List.mem_of_getElem? (i := 225) rfl)) rfl, ci_X6, by decide +kernel, ⟨by decide +kernel, by decide +kernel, by decide +kernel⟩, by decide⟩
theorem sX6_sizeIn : Cond.static yX6_sizeIn ∈ lw_g := mem_g (List.mem_of_getElem? (i := 286) (by decide +kernel)) (by decide +kernel)
abbrev mX0_empty : MD := (yX0_empty, cX0_empty, 2, none)
theorem wX0_empty : MW mX0_empty 1 := ⟨mem_g (mem_t1 (List.mem_of_getElem? (i := 229) rfl)) rfl, ci_X0, by decide +kernel, ⟨by decide +kernel, by decide +kernel, by decide +kernel⟩, by decide⟩
theorem iX0_empty : MI mX0_empty 0 := ⟨mem_g (List.mem_of_getElem? (i := 289) (by decide +kernel)) (by decide +kernel), mem_g (List.mem_of_getElem? (i := 290) (by decide +kernel)) (by decide +kernel), _, rfl, rfl⟩
abbrev mJ7_fill_53178 : MD := (yJ7_fill_53178, cJ7_fill_53178, 4, none)
theorem wJ7_fill_53178 : MW mJ7_fill_53178 2 := ⟨mem_g (mem_t1 (List.mem_of_getElem? (i := 232) rfl)) rfl, ci_J7, by decide +kernel, ⟨by decide +kernel, by decide +kernel, by decide +kernel⟩, by decide⟩
theorem sJ7_fill_53178 : Cond.static yJ7_fill_53178 ∈ lw_g := mem_g (List.mem_of_getElem? (i := 293) (by decide +kernel)) (by decide +kernel)
abbrev mX6_set : MD := (yX6_set, cX6_set, 6, (some .boolean))
theorem wX6_set : MW mX6_set 5 := ⟨mem_g (mem_t1 (List.mem_of_getElem? (i := 236) rfl)) rfl, ci_X6, by decide +kernel, ⟨by decide +kernel, by decide +kernel, by decide +kernel⟩, by decide⟩
theorem iX6_set : MI mX6_set 6 := ⟨mem_g (List.mem_of_getElem? (i := 296) (by decide +kernel)) (by decide +kernel), mem_g (List.mem_of_getElem? (i := 297) (by decide +kernel)) (by decide +kernel), _, rfl, rfl⟩
abbrev mX6_isCell : MD := (yX6_isCell, cX6_isCell, 5, (some .boolean))
theorem wX6_isCell : MW mX6_isCell 4 := ⟨mem_g (mem_t2 (List.mem_of_getElem? (i := 0) rfl)) rfl, ci_X6, by decide +kernel, ⟨by decide +kernel, by decide +kernel, by decide +kernel⟩, by decide⟩
theorem iX6_isCell : MI mX6_isCell 6 := ⟨mem_g (List.mem_of_getElem? (i := 301) (by decide +kernel)) (by decide +kernel), mem_g (List.mem_of_getElem? (i := 3) (by decide +kernel)) (by decide +kernel), _, rfl, rfl⟩
abbrev mX6_isArrow : MD := (yX6_isArrow, cX6_isArrow, 2, (some .boolean))
theorem wX6_isArrow : MW mX6_isArrow 1 := ⟨mem_g (mem_t2 (List.mem_of_getElem? (i := 4) rfl)) rfl, ci_X6, by decide +kernel, ⟨by decide +kernel, by decide +kernel, by decide +kernel⟩, by decide⟩
theorem iX6_isArrow : MI mX6_isArrow 6 := ⟨mem_g (List.mem_of_getElem? (i := 305) (by decide +kernel)) (by decide +kernel), mem_g (List.mem_of_getElem? (i := 4) (by decide +kernel)) (by decide +kernel), _, rfl, rfl⟩
abbrev mX0_rowsOf : MD := (yX0_rowsOf, cX0_rowsOf, 2, (some .int))
theorem wX0_rowsOf : MW mX0_rowsOf 1 := ⟨mem_g (mem_t2 (List.mem_of_getElem? (i := 8) rfl)) rfl, ci_X0, by decide +kernel, ⟨by decide +kernel, by decide +kernel, by decide +kernel⟩, by decide⟩
theorem iX0_rowsOf : MI mX0_rowsOf 0 := ⟨mem_g (List.mem_of_getElem? (i := 308) (by decide +kernel)) (by decide +kernel), mem_g (List.mem_of_getElem? (i := 309) (by decide +kernel)) (by decide +kernel), _, rfl, rfl⟩
abbrev mX0_target : MD := (yX0_target, cX0_target, 2, (some .int))
theorem wX0_target : MW mX0_target 1 := ⟨mem_g (mem_t2 (List.mem_of_getElem? (i := 12) rfl)) rfl, ci_X0, by decide +kernel, ⟨by decide +kernel, by decide +kernel, by decide +kernel⟩, by decide⟩
theorem iX0_target : MI mX0_target 0 := ⟨mem_g (List.mem_of_getElem? (i := 312) (by decide +kernel)) (by decide +kernel), mem_g (List.mem_of_getElem? (i := 313) (by decide +kernel)) (by decide +kernel), _, rfl, rfl⟩
abbrev mX0_isLeft : MD := (yX0_isLeft, cX0_isLeft, 2, (some .boolean))
theorem wX0_isLeft : MW mX0_isLeft 1 := ⟨mem_g (mem_t2 (List.mem_of_getElem? (i := 16) rfl)) rfl, ci_X0, by decide +kernel, ⟨by decide +kernel, by decide +kernel, by decide +kernel⟩, by decide⟩
theorem iX0_isLeft : MI mX0_isLeft 0 := ⟨mem_g (List.mem_of_getElem? (i := 316) (by decide +kernel)) (by decide +kernel), mem_g (List.mem_of_getElem? (i := 317) (by decide +kernel)) (by decide +kernel), _, rfl, rfl⟩
abbrev mX0_columnsOf : MD := (yX0_columnsOf, cX0_columnsOf, 2, (some .int))
theorem wX0_columnsOf : MW mX0_columnsOf 1 := ⟨mem_g (mem_t2 (List.mem_of_getElem? (i := 20) rfl)) rfl, ci_X0, by decide +kernel, ⟨by decide +kernel, by decide +kernel, by decide +kernel⟩, by decide⟩
theorem iX0_columnsOf : MI mX0_columnsOf 0 := ⟨mem_g (List.mem_of_getElem? (i := 320) (by decide +kernel)) (by decide +kernel), mem_g (List.mem_of_getElem? (i := 321) (by decide +kernel)) (by decide +kernel), _, rfl, rfl⟩
abbrev mX0_source : MD := (yX0_source, cX0_source, 2, (some .int))
theorem wX0_source : MW mX0_source 1 := ⟨mem_g (mem_t2 (List.mem_of_getElem? (i := 24) rfl)) rfl, ci_X0, by decide +kernel, ⟨by decide +kernel, by decide +kernel, by decide +kernel⟩, by decide⟩
theorem iX0_source : MI mX0_source 0 := ⟨mem_g (List.mem_of_getElem? (i := 324) (by decide +kernel)) (by decide +kernel), mem_g (List.mem_of_getElem? (i := 325) (by decide +kernel)) (by decide +kernel), _, rfl, rfl⟩
abbrev mJ9_floorMod_7cf53 : MD := (yJ9_floorMod_7cf53, cJ9_floorMod_7cf53, 3, (some .int))
theorem wJ9_floorMod_7cf53 : MW mJ9_floorMod_7cf53 2 := ⟨mem_g (mem_t2 (List.mem_of_getElem? (i := 27) rfl)) rfl, ci_J9, by decide +kernel, ⟨by decide +kernel, by decide +kernel, by decide +kernel⟩, by decide⟩
theorem sJ9_floorMod_7cf53 : Cond.static yJ9_floorMod_7cf53 ∈ lw_g := mem_g (List.mem_of_getElem? (i := 328) (by decide +kernel)) (by decide +kernel)
abbrev mX0_put : MD := (yX0_put, cX0_put, 5, none)
theorem wX0_put : MW mX0_put 4 := ⟨mem_g (mem_t2 (List.mem_of_getElem? (i := 31) rfl)) rfl, ci_X0, by decide +kernel, ⟨by decide +kernel, by decide +kernel, by decide +kernel⟩, by decide⟩
theorem iX0_put : MI mX0_put 0 := ⟨mem_g (List.mem_of_getElem? (i := 331) (by decide +kernel)) (by decide +kernel), mem_g (List.mem_of_getElem? (i := 332) (by decide +kernel)) (by decide +kernel), _, rfl, rfl⟩
abbrev mX6_get : MD := (yX6_get, cX6_get, 5, (some .int))
theorem wX6_get : MW mX6_get 4 := ⟨mem_g (mem_t2 (List.mem_of_getElem? (i := 35) rfl)) rfl, ci_X6, by decide +kernel, ⟨by decide +kernel, by decide +kernel, by decide +kernel⟩, by decide⟩
theorem iX6_get : MI mX6_get 6 := ⟨mem_g (List.mem_of_getElem? (i := 335) (by decide +kernel)) (by decide +kernel), mem_g (List.mem_of_getElem? (i := 336) (by decide +kernel)) (by decide +kernel), _, rfl, rfl⟩
abbrev mX0_number : MD := (yX0_number, cX0_number, 4, (some .int))
theorem wX0_number : MW mX0_number 3 := ⟨mem_g (mem_t2 (List.mem_of_getElem? (i := 39) rfl)) rfl, ci_X0, by decide +kernel, ⟨by decide +kernel, by decide +kernel, by decide +kernel⟩, by decide⟩
theorem iX0_number : MI mX0_number 0 := ⟨mem_g (List.mem_of_getElem? (i := 339) (by decide +kernel)) (by decide +kernel), mem_g (List.mem_of_getElem? (i := 340) (by decide +kernel)) (by decide +kernel), _, rfl, rfl⟩
abbrev mX6_size : MD := (yX6_size, cX6_size, 3, (some .int))
theorem wX6_size : MW mX6_size 2 := ⟨mem_g (mem_t2 (List.mem_of_getElem? (i := 43) rfl)) rfl, ci_X6, by decide +kernel, ⟨by decide +kernel, by decide +kernel, by decide +kernel⟩, by decide⟩
theorem iX6_size : MI mX6_size 6 := ⟨mem_g (List.mem_of_getElem? (i := 343) (by decide +kernel)) (by decide +kernel), mem_g (List.mem_of_getElem? (i := 344) (by decide +kernel)) (by decide +kernel), _, rfl, rfl⟩
abbrev mX6_isPost : MD := (yX6_isPost, cX6_isPost, 2, (some .boolean))
theorem wX6_isPost : MW mX6_isPost 1 := ⟨mem_g (mem_t2 (List.mem_of_getElem? (i := 47) rfl)) rfl, ci_X6, by decide +kernel, ⟨by decide +kernel, by decide +kernel, by decide +kernel⟩, by decide⟩
theorem iX6_isPost : MI mX6_isPost 6 := ⟨mem_g (List.mem_of_getElem? (i := 348) (by decide +kernel)) (by decide +kernel), mem_g (List.mem_of_getElem? (i := 5) (by decide +kernel)) (by decide +kernel), _, rfl, rfl⟩
abbrev mX6_ways : MD := (yX6_ways, cX6_ways, 2, (some .int))
theorem wX6_ways : MW mX6_ways 1 := ⟨mem_g (mem_t2 (List.mem_of_getElem? (i := 51) rfl)) rfl, ci_X6, by decide +kernel, ⟨by decide +kernel, by decide +kernel, by decide +kernel⟩, by decide⟩
theorem iX6_ways : MI mX6_ways 6 := ⟨mem_g (List.mem_of_getElem? (i := 351) (by decide +kernel)) (by decide +kernel), mem_g (List.mem_of_getElem? (i := 352) (by decide +kernel)) (by decide +kernel), _, rfl, rfl⟩
abbrev mX6_span : MD := (yX6_span, cX6_span, 7, (some .boolean))
theorem wX6_span : MW mX6_span 4 := ⟨mem_g (mem_t2 (List.mem_of_getElem? (i := 55) rfl)) rfl, ci_X6, by decide +kernel, ⟨by decide +kernel, by decide +kernel, by decide +kernel⟩, by decide⟩
theorem iX6_span : MI mX6_span 6 := ⟨mem_g (List.mem_of_getElem? (i := 355) (by decide +kernel)) (by decide +kernel), mem_g (List.mem_of_getElem? (i := 356) (by decide +kernel)) (by decide +kernel), _, rfl, rfl⟩
abbrev mX6_isSpan : MD := (yX6_isSpan, cX6_isSpan, 3, (some .boolean))
theorem wX6_isSpan : MW mX6_isSpan 2 := ⟨mem_g (mem_t2 (List.mem_of_getElem? (i := 59) rfl)) rfl, ci_X6, by decide +kernel, ⟨by decide +kernel, by decide +kernel, by decide +kernel⟩, by decide⟩
theorem iX6_isSpan : MI mX6_isSpan 6 := ⟨mem_g (List.mem_of_getElem? (i := 360) (by decide +kernel)) (by decide +kernel), mem_g (List.mem_of_getElem? (i := 6) (by decide +kernel)) (by decide +kernel), _, rfl, rfl⟩
abbrev mX6_beside : MD := (yX6_beside, cX6_beside, 5, (some .boolean))
theorem wX6_beside : MW mX6_beside 3 := ⟨mem_g (mem_t2 (List.mem_of_getElem? (i := 63) rfl)) rfl, ci_X6, by decide +kernel, ⟨by decide +kernel, by decide +kernel, by decide +kernel⟩, by decide⟩
theorem iX6_beside : MI mX6_beside 6 := ⟨mem_g (List.mem_of_getElem? (i := 363) (by decide +kernel)) (by decide +kernel), mem_g (List.mem_of_getElem? (i := 364) (by decide +kernel)) (by decide +kernel), _, rfl, rfl⟩
abbrev mX6_haveSameWays : MD := (yX6_haveSameWays, cX6_haveSameWays, 3, (some .boolean))
theorem wX6_haveSameWays : MW mX6_haveSameWays 2 := ⟨mem_g (mem_t2 (List.mem_of_getElem? (i := 67) rfl)) rfl, ci_X6, by decide +kernel, ⟨by decide +kernel, by decide +kernel, by decide +kernel⟩, by decide⟩
theorem iX6_haveSameWays : MI mX6_haveSameWays 6 := ⟨mem_g (List.mem_of_getElem? (i := 368) (by decide +kernel)) (by decide +kernel), mem_g (List.mem_of_getElem? (i := 7) (by decide +kernel)) (by decide +kernel), _, rfl, rfl⟩
abbrev mX6_fitBeside : MD := (yX6_fitBeside, cX6_fitBeside, 4, (some .boolean))
theorem wX6_fitBeside : MW mX6_fitBeside 2 := ⟨mem_g (mem_t2 (List.mem_of_getElem? (i := 71) rfl)) rfl, ci_X6, by decide +kernel, ⟨by decide +kernel, by decide +kernel, by decide +kernel⟩, by decide⟩
theorem iX6_fitBeside : MI mX6_fitBeside 6 := ⟨mem_g (List.mem_of_getElem? (i := 372) (by decide +kernel)) (by decide +kernel), mem_g (List.mem_of_getElem? (i := 8) (by decide +kernel)) (by decide +kernel), _, rfl, rfl⟩
abbrev mX0_putTable : MD := (yX0_putTable, cX0_putTable, 9, none)
theorem wX0_putTable : MW mX0_putTable 4 := ⟨mem_g (mem_t2 (List.mem_of_getElem? (i := 75) rfl)) rfl, ci_X0, by decide +kernel, ⟨by decide +kernel, by decide +kernel, by decide +kernel⟩, by decide⟩
theorem iX0_putTable : MI mX0_putTable 0 := ⟨mem_g (List.mem_of_getElem? (i := 375) (by decide +kernel)) (by decide +kernel), mem_g (List.mem_of_getElem? (i := 376) (by decide +kernel)) (by decide +kernel), _, rfl, rfl⟩
abbrev mX0_copy : MD := (yX0_copy, cX0_copy, 2, none)
theorem wX0_copy : MW mX0_copy 1 := ⟨mem_g (mem_t2 (List.mem_of_getElem? (i := 83) rfl)) rfl, ci_X0, by decide +kernel, ⟨by decide +kernel, by decide +kernel, by decide +kernel⟩, by decide⟩
theorem iX0_copy : MI mX0_copy 0 := ⟨mem_g (List.mem_of_getElem? (i := 383) (by decide +kernel)) (by decide +kernel), mem_g (List.mem_of_getElem? (i := 384) (by decide +kernel)) (by decide +kernel), _, rfl, rfl⟩
abbrev mX6_mix : MD := (yX6_mix, cX6_mix, 8, (some .boolean))
theorem wX6_mix : MW mX6_mix 5 := ⟨mem_g (mem_t2 (List.mem_of_getElem? (i := 90) rfl)) rfl, ci_X6, by decide +kernel, ⟨by decide +kernel, by decide +kernel, by decide +kernel⟩, by decide⟩
theorem iX6_mix : MI mX6_mix 6 := ⟨mem_g (List.mem_of_getElem? (i := 390) (by decide +kernel)) (by decide +kernel), mem_g (List.mem_of_getElem? (i := 391) (by decide +kernel)) (by decide +kernel), _, rfl, rfl⟩
abbrev mX6_addRow : MD := (yX6_addRow, cX6_addRow, 9, none)
theorem wX6_addRow : MW mX6_addRow 5 := ⟨mem_g (mem_t2 (List.mem_of_getElem? (i := 95) rfl)) rfl, ci_X6, by decide +kernel, ⟨by decide +kernel, by decide +kernel, by decide +kernel⟩, by decide⟩
theorem iX6_addRow : MI mX6_addRow 6 := ⟨mem_g (List.mem_of_getElem? (i := 396) (by decide +kernel)) (by decide +kernel), mem_g (List.mem_of_getElem? (i := 9) (by decide +kernel)) (by decide +kernel), _, rfl, rfl⟩
abbrev mX6_addColumn : MD := (yX6_addColumn, cX6_addColumn, 9, none)
theorem wX6_addColumn : MW mX6_addColumn 5 := ⟨mem_g (mem_t2 (List.mem_of_getElem? (i := 99) rfl)) rfl, ci_X6, by decide +kernel, ⟨by decide +kernel, by decide +kernel, by decide +kernel⟩, by decide⟩
theorem iX6_addColumn : MI mX6_addColumn 6 := ⟨mem_g (List.mem_of_getElem? (i := 400) (by decide +kernel)) (by decide +kernel), mem_g (List.mem_of_getElem? (i := 10) (by decide +kernel)) (by decide +kernel), _, rfl, rfl⟩
abbrev mX6_turn : MD := (yX6_turn, cX6_turn, 8, (some .int))
theorem wX6_turn : MW mX6_turn 3 := ⟨mem_g (mem_t2 (List.mem_of_getElem? (i := 103) rfl)) rfl, ci_X6, by decide +kernel, ⟨by decide +kernel, by decide +kernel, by decide +kernel⟩, by decide⟩
theorem iX6_turn : MI mX6_turn 6 := ⟨mem_g (List.mem_of_getElem? (i := 403) (by decide +kernel)) (by decide +kernel), mem_g (List.mem_of_getElem? (i := 404) (by decide +kernel)) (by decide +kernel), _, rfl, rfl⟩
abbrev mX6_isTurning : MD := (yX6_isTurning, cX6_isTurning, 3, (some .boolean))
theorem wX6_isTurning : MW mX6_isTurning 2 := ⟨mem_g (mem_t2 (List.mem_of_getElem? (i := 107) rfl)) rfl, ci_X6, by decide +kernel, ⟨by decide +kernel, by decide +kernel, by decide +kernel⟩, by decide⟩
theorem iX6_isTurning : MI mX6_isTurning 6 := ⟨mem_g (List.mem_of_getElem? (i := 408) (by decide +kernel)) (by decide +kernel), mem_g (List.mem_of_getElem? (i := 11) (by decide +kernel)) (by decide +kernel), _, rfl, rfl⟩
abbrev mX6_gatherBeside : MD := (yX6_gatherBeside, cX6_gatherBeside, 8, none)
theorem wX6_gatherBeside : MW mX6_gatherBeside 3 := ⟨mem_g (mem_t2 (List.mem_of_getElem? (i := 112) rfl)) rfl, ci_X6, by decide +kernel, ⟨by decide +kernel, by decide +kernel, by decide +kernel⟩, by decide⟩
theorem iX6_gatherBeside : MI mX6_gatherBeside 6 := ⟨mem_g (List.mem_of_getElem? (i := 413) (by decide +kernel)) (by decide +kernel), mem_g (List.mem_of_getElem? (i := 12) (by decide +kernel)) (by decide +kernel), _, rfl, rfl⟩
abbrev mX3_start : MD := (yX3_start, cX3_start, 3, none)
theorem wX3_start : MW mX3_start 2 := ⟨mem_g (mem_t2 (List.mem_of_getElem? (i := 116) rfl)) rfl, ci_X3, by decide +kernel, ⟨by decide +kernel, by decide +kernel, by decide +kernel⟩, by decide⟩
theorem iX3_start : MI mX3_start 3 := ⟨mem_g (List.mem_of_getElem? (i := 416) (by decide +kernel)) (by decide +kernel), mem_g (List.mem_of_getElem? (i := 417) (by decide +kernel)) (by decide +kernel), _, rfl, rfl⟩
abbrev mX0_numberBeside : MD := (yX0_numberBeside, cX0_numberBeside, 5, (some .int))
theorem wX0_numberBeside : MW mX0_numberBeside 4 := ⟨mem_g (mem_t2 (List.mem_of_getElem? (i := 122) rfl)) rfl, ci_X0, by decide +kernel, ⟨by decide +kernel, by decide +kernel, by decide +kernel⟩, by decide⟩
theorem iX0_numberBeside : MI mX0_numberBeside 0 := ⟨mem_g (List.mem_of_getElem? (i := 422) (by decide +kernel)) (by decide +kernel), mem_g (List.mem_of_getElem? (i := 423) (by decide +kernel)) (by decide +kernel), _, rfl, rfl⟩
abbrev mX3_put : MD := (yX3_put, cX3_put, 4, none)
theorem wX3_put : MW mX3_put 3 := ⟨mem_g (mem_t2 (List.mem_of_getElem? (i := 126) rfl)) rfl, ci_X3, by decide +kernel, ⟨by decide +kernel, by decide +kernel, by decide +kernel⟩, by decide⟩
theorem iX3_put : MI mX3_put 3 := ⟨mem_g (List.mem_of_getElem? (i := 426) (by decide +kernel)) (by decide +kernel), mem_g (List.mem_of_getElem? (i := 427) (by decide +kernel)) (by decide +kernel), _, rfl, rfl⟩
abbrev mX3_bringToLeast : MD := (yX3_bringToLeast, cX3_bringToLeast, 4, none)
theorem wX3_bringToLeast : MW mX3_bringToLeast 0 := ⟨mem_g (mem_t2 (List.mem_of_getElem? (i := 130) rfl)) rfl, ci_X3, by decide +kernel, ⟨by decide +kernel, by decide +kernel, by decide +kernel⟩, by decide⟩
theorem iX3_bringToLeast : MI mX3_bringToLeast 3 := ⟨mem_g (List.mem_of_getElem? (i := 430) (by decide +kernel)) (by decide +kernel), mem_g (List.mem_of_getElem? (i := 431) (by decide +kernel)) (by decide +kernel), _, rfl, rfl⟩
abbrev mX3_rowWithNumber : MD := (yX3_rowWithNumber, cX3_rowWithNumber, 4, (some .int))
theorem wX3_rowWithNumber : MW mX3_rowWithNumber 2 := ⟨mem_g (mem_t2 (List.mem_of_getElem? (i := 134) rfl)) rfl, ci_X3, by decide +kernel, ⟨by decide +kernel, by decide +kernel, by decide +kernel⟩, by decide⟩
theorem iX3_rowWithNumber : MI mX3_rowWithNumber 3 := ⟨mem_g (List.mem_of_getElem? (i := 435) (by decide +kernel)) (by decide +kernel), mem_g (List.mem_of_getElem? (i := 13) (by decide +kernel)) (by decide +kernel), _, rfl, rfl⟩
abbrev mX3_swap : MD := (yX3_swap, cX3_swap, 4, none)
theorem wX3_swap : MW mX3_swap 2 := ⟨mem_g (mem_t2 (List.mem_of_getElem? (i := 138) rfl)) rfl, ci_X3, by decide +kernel, ⟨by decide +kernel, by decide +kernel, by decide +kernel⟩, by decide⟩
theorem iX3_swap : MI mX3_swap 3 := ⟨mem_g (List.mem_of_getElem? (i := 439) (by decide +kernel)) (by decide +kernel), mem_g (List.mem_of_getElem? (i := 14) (by decide +kernel)) (by decide +kernel), _, rfl, rfl⟩
abbrev mX3_inverse : MD := (yX3_inverse, cX3_inverse, 3, (some .int))
theorem wX3_inverse : MW mX3_inverse 1 := ⟨mem_g (mem_t2 (List.mem_of_getElem? (i := 142) rfl)) rfl, ci_X3, by decide +kernel, ⟨by decide +kernel, by decide +kernel, by decide +kernel⟩, by decide⟩
theorem iX3_inverse : MI mX3_inverse 3 := ⟨mem_g (List.mem_of_getElem? (i := 443) (by decide +kernel)) (by decide +kernel), mem_g (List.mem_of_getElem? (i := 15) (by decide +kernel)) (by decide +kernel), _, rfl, rfl⟩
abbrev mX3_scale : MD := (yX3_scale, cX3_scale, 6, none)
theorem wX3_scale : MW mX3_scale 3 := ⟨mem_g (mem_t2 (List.mem_of_getElem? (i := 146) rfl)) rfl, ci_X3, by decide +kernel, ⟨by decide +kernel, by decide +kernel, by decide +kernel⟩, by decide⟩
theorem iX3_scale : MI mX3_scale 3 := ⟨mem_g (List.mem_of_getElem? (i := 447) (by decide +kernel)) (by decide +kernel), mem_g (List.mem_of_getElem? (i := 16) (by decide +kernel)) (by decide +kernel), _, rfl, rfl⟩
abbrev mX3_clearElsewhere : MD := (yX3_clearElsewhere, cX3_clearElsewhere, 8, none)
theorem wX3_clearElsewhere : MW mX3_clearElsewhere 2 := ⟨mem_g (mem_t2 (List.mem_of_getElem? (i := 150) rfl)) rfl, ci_X3, by decide +kernel, ⟨by decide +kernel, by decide +kernel, by decide +kernel⟩, by decide⟩
theorem iX3_clearElsewhere : MI mX3_clearElsewhere 3 := ⟨mem_g (List.mem_of_getElem? (i := 451) (by decide +kernel)) (by decide +kernel), mem_g (List.mem_of_getElem? (i := 17) (by decide +kernel)) (by decide +kernel), _, rfl, rfl⟩
abbrev mX3_freeCount : MD := (yX3_freeCount, cX3_freeCount, 1, (some .int))
theorem wX3_freeCount : MW mX3_freeCount 0 := ⟨mem_g (mem_t2 (List.mem_of_getElem? (i := 154) rfl)) rfl, ci_X3, by decide +kernel, ⟨by decide +kernel, by decide +kernel, by decide +kernel⟩, by decide⟩
theorem iX3_freeCount : MI mX3_freeCount 3 := ⟨mem_g (List.mem_of_getElem? (i := 454) (by decide +kernel)) (by decide +kernel), mem_g (List.mem_of_getElem? (i := 455) (by decide +kernel)) (by decide +kernel), _, rfl, rfl⟩
abbrev mX6_putTurned : MD := (yX6_putTurned, cX6_putTurned, 9, none)
theorem wX6_putTurned : MW mX6_putTurned 4 := ⟨mem_g (mem_t2 (List.mem_of_getElem? (i := 158) rfl)) rfl, ci_X6, by decide +kernel, ⟨by decide +kernel, by decide +kernel, by decide +kernel⟩, by decide⟩
theorem iX6_putTurned : MI mX6_putTurned 6 := ⟨mem_g (List.mem_of_getElem? (i := 459) (by decide +kernel)) (by decide +kernel), mem_g (List.mem_of_getElem? (i := 18) (by decide +kernel)) (by decide +kernel), _, rfl, rfl⟩
abbrev mX0_reverse : MD := (yX0_reverse, cX0_reverse, 3, none)
theorem wX0_reverse : MW mX0_reverse 1 := ⟨mem_g (mem_t2 (List.mem_of_getElem? (i := 162) rfl)) rfl, ci_X0, by decide +kernel, ⟨by decide +kernel, by decide +kernel, by decide +kernel⟩, by decide⟩
theorem iX0_reverse : MI mX0_reverse 0 := ⟨mem_g (List.mem_of_getElem? (i := 462) (by decide +kernel)) (by decide +kernel), mem_g (List.mem_of_getElem? (i := 463) (by decide +kernel)) (by decide +kernel), _, rfl, rfl⟩
abbrev mX3_isFree : MD := (yX3_isFree, cX3_isFree, 2, (some .boolean))
theorem wX3_isFree : MW mX3_isFree 1 := ⟨mem_g (mem_t2 (List.mem_of_getElem? (i := 166) rfl)) rfl, ci_X3, by decide +kernel, ⟨by decide +kernel, by decide +kernel, by decide +kernel⟩, by decide⟩
theorem iX3_isFree : MI mX3_isFree 3 := ⟨mem_g (List.mem_of_getElem? (i := 466) (by decide +kernel)) (by decide +kernel), mem_g (List.mem_of_getElem? (i := 467) (by decide +kernel)) (by decide +kernel), _, rfl, rfl⟩
abbrev mX3_rest : MD := (yX3_rest, cX3_rest, 4, (some .int))
theorem wX3_rest : MW mX3_rest 2 := ⟨mem_g (mem_t2 (List.mem_of_getElem? (i := 170) rfl)) rfl, ci_X3, by decide +kernel, ⟨by decide +kernel, by decide +kernel, by decide +kernel⟩, by decide⟩
theorem iX3_rest : MI mX3_rest 3 := ⟨mem_g (List.mem_of_getElem? (i := 470) (by decide +kernel)) (by decide +kernel), mem_g (List.mem_of_getElem? (i := 471) (by decide +kernel)) (by decide +kernel), _, rfl, rfl⟩
abbrev mX6_maps : MD := (yX6_maps, cX6_maps, 3, (some .int))
theorem wX6_maps : MW mX6_maps 2 := ⟨mem_g (mem_t2 (List.mem_of_getElem? (i := 174) rfl)) rfl, ci_X6, by decide +kernel, ⟨by decide +kernel, by decide +kernel, by decide +kernel⟩, by decide⟩
theorem iX6_maps : MI mX6_maps 6 := ⟨mem_g (List.mem_of_getElem? (i := 474) (by decide +kernel)) (by decide +kernel), mem_g (List.mem_of_getElem? (i := 475) (by decide +kernel)) (by decide +kernel), _, rfl, rfl⟩
abbrev mX2_part : MD := (yX2_part, cX2_part, 7, none)
theorem wX2_part : MW mX2_part 2 := ⟨mem_g (mem_t2 (List.mem_of_getElem? (i := 178) rfl)) rfl, ci_X2, by decide +kernel, ⟨by decide +kernel, by decide +kernel, by decide +kernel⟩, by decide⟩
theorem iX2_part : MI mX2_part 2 := ⟨mem_g (List.mem_of_getElem? (i := 478) (by decide +kernel)) (by decide +kernel), mem_g (List.mem_of_getElem? (i := 479) (by decide +kernel)) (by decide +kernel), _, rfl, rfl⟩
abbrev mX2_coverFrom : MD := (yX2_coverFrom, cX2_coverFrom, 6, none)
theorem wX2_coverFrom : MW mX2_coverFrom 3 := ⟨mem_g (mem_t2 (List.mem_of_getElem? (i := 182) rfl)) rfl, ci_X2, by decide +kernel, ⟨by decide +kernel, by decide +kernel, by decide +kernel⟩, by decide⟩
theorem iX2_coverFrom : MI mX2_coverFrom 2 := ⟨mem_g (List.mem_of_getElem? (i := 483) (by decide +kernel)) (by decide +kernel), mem_g (List.mem_of_getElem? (i := 19) (by decide +kernel)) (by decide +kernel), _, rfl, rfl⟩
abbrev mX3_startWhole : MD := (yX3_startWhole, cX3_startWhole, 3, none)
theorem wX3_startWhole : MW mX3_startWhole 1 := ⟨mem_g (mem_t2 (List.mem_of_getElem? (i := 187) rfl)) rfl, ci_X3, by decide +kernel, ⟨by decide +kernel, by decide +kernel, by decide +kernel⟩, by decide⟩
theorem iX3_startWhole : MI mX3_startWhole 3 := ⟨mem_g (List.mem_of_getElem? (i := 487) (by decide +kernel)) (by decide +kernel), mem_g (List.mem_of_getElem? (i := 488) (by decide +kernel)) (by decide +kernel), _, rfl, rfl⟩
abbrev mX2_lead : MD := (yX2_lead, cX2_lead, 5, (some (.object "SpanLoom$Rows")))
theorem wX2_lead : MW mX2_lead 3 := ⟨mem_g (mem_t2 (List.mem_of_getElem? (i := 193) rfl)) rfl, ci_X2, by decide +kernel, ⟨by decide +kernel, by decide +kernel, by decide +kernel⟩, by decide⟩
theorem iX2_lead : MI mX2_lead 2 := ⟨mem_g (List.mem_of_getElem? (i := 494) (by decide +kernel)) (by decide +kernel), mem_g (List.mem_of_getElem? (i := 20) (by decide +kernel)) (by decide +kernel), _, rfl, rfl⟩
abbrev mX2_findConditions : MD := (yX2_findConditions, cX2_findConditions, 9, none)
theorem wX2_findConditions : MW mX2_findConditions 3 := ⟨mem_g (mem_t2 (List.mem_of_getElem? (i := 198) rfl)) rfl, ci_X2, by decide +kernel, ⟨by decide +kernel, by decide +kernel, by decide +kernel⟩, by decide⟩
theorem iX2_findConditions : MI mX2_findConditions 2 := ⟨mem_g (List.mem_of_getElem? (i := 499) (by decide +kernel)) (by decide +kernel), mem_g (List.mem_of_getElem? (i := 21) (by decide +kernel)) (by decide +kernel), _, rfl, rfl⟩
abbrev mX2_solveConditions : MD := (yX2_solveConditions, cX2_solveConditions, 5, none)
theorem wX2_solveConditions : MW mX2_solveConditions 1 := ⟨mem_g (mem_t2 (List.mem_of_getElem? (i := 208) rfl)) rfl, ci_X2, by decide +kernel, ⟨by decide +kernel, by decide +kernel, by decide +kernel⟩, by decide⟩
theorem iX2_solveConditions : MI mX2_solveConditions 2 := ⟨mem_g (List.mem_of_getElem? (i := 509) (by decide +kernel)) (by decide +kernel), mem_g (List.mem_of_getElem? (i := 22) (by decide +kernel)) (by decide +kernel), _, rfl, rfl⟩
abbrev mX2_leadAlong : MD := (yX2_leadAlong, cX2_leadAlong, 9, none)
theorem wX2_leadAlong : MW mX2_leadAlong 4 := ⟨mem_g (mem_t2 (List.mem_of_getElem? (i := 212) rfl)) rfl, ci_X2, by decide +kernel, ⟨by decide +kernel, by decide +kernel, by decide +kernel⟩, by decide⟩
theorem iX2_leadAlong : MI mX2_leadAlong 2 := ⟨mem_g (List.mem_of_getElem? (i := 513) (by decide +kernel)) (by decide +kernel), mem_g (List.mem_of_getElem? (i := 23) (by decide +kernel)) (by decide +kernel), _, rfl, rfl⟩
abbrev mX3_number : MD := (yX3_number, cX3_number, 3, (some .int))
theorem wX3_number : MW mX3_number 2 := ⟨mem_g (mem_t2 (List.mem_of_getElem? (i := 216) rfl)) rfl, ci_X3, by decide +kernel, ⟨by decide +kernel, by decide +kernel, by decide +kernel⟩, by decide⟩
theorem iX3_number : MI mX3_number 3 := ⟨mem_g (List.mem_of_getElem? (i := 516) (by decide +kernel)) (by decide +kernel), mem_g (List.mem_of_getElem? (i := 517) (by decide +kernel)) (by decide +kernel), _, rfl, rfl⟩
abbrev mX4_clear : MD := (yX4_clear, cX4_clear, 1, none)
theorem wX4_clear : MW mX4_clear 0 := ⟨mem_g (mem_t2 (List.mem_of_getElem? (i := 220) rfl)) rfl, ci_X4, by decide +kernel, ⟨by decide +kernel, by decide +kernel, by decide +kernel⟩, by decide⟩
theorem iX4_clear : MI mX4_clear 4 := ⟨mem_g (List.mem_of_getElem? (i := 520) (by decide +kernel)) (by decide +kernel), mem_g (List.mem_of_getElem? (i := 521) (by decide +kernel)) (by decide +kernel), _, rfl, rfl⟩
abbrev mX2_timesByCovers : MD := (yX2_timesByCovers, cX2_timesByCovers, 3, (some .int))
theorem wX2_timesByCovers : MW mX2_timesByCovers 2 := ⟨mem_g (mem_t2 (List.mem_of_getElem? (i := 224) rfl)) rfl, ci_X2, by decide +kernel, ⟨by decide +kernel, by decide +kernel, by decide +kernel⟩, by decide⟩
theorem iX2_timesByCovers : MI mX2_timesByCovers 2 := ⟨mem_g (List.mem_of_getElem? (i := 525) (by decide +kernel)) (by decide +kernel), mem_g (List.mem_of_getElem? (i := 24) (by decide +kernel)) (by decide +kernel), _, rfl, rfl⟩
abbrev mX4_add : MD := (yX4_add, cX4_add, 3, none)
theorem wX4_add : MW mX4_add 2 := ⟨mem_g (mem_t2 (List.mem_of_getElem? (i := 228) rfl)) rfl, ci_X4, by decide +kernel, ⟨by decide +kernel, by decide +kernel, by decide +kernel⟩, by decide⟩
theorem iX4_add : MI mX4_add 4 := ⟨mem_g (List.mem_of_getElem? (i := 528) (by decide +kernel)) (by decide +kernel), mem_g (List.mem_of_getElem? (i := 529) (by decide +kernel)) (by decide +kernel), _, rfl, rfl⟩
abbrev mX6_mapsOfSpans : MD := (yX6_mapsOfSpans, cX6_mapsOfSpans, 5, (some .int))
theorem wX6_mapsOfSpans : MW mX6_mapsOfSpans 1 := ⟨mem_g (mem_t2 (List.mem_of_getElem? (i := 232) rfl)) rfl, ci_X6, by decide +kernel, ⟨by decide +kernel, by decide +kernel, by decide +kernel⟩, by decide⟩
theorem iX6_mapsOfSpans : MI mX6_mapsOfSpans 6 := ⟨mem_g (List.mem_of_getElem? (i := 533) (by decide +kernel)) (by decide +kernel), mem_g (List.mem_of_getElem? (i := 25) (by decide +kernel)) (by decide +kernel), _, rfl, rfl⟩
abbrev mX6_isMapped : MD := (yX6_isMapped, cX6_isMapped, 10, (some .boolean))
theorem wX6_isMapped : MW mX6_isMapped 3 := ⟨mem_g (mem_t2 (List.mem_of_getElem? (i := 236) rfl)) rfl, ci_X6, by decide +kernel, ⟨by decide +kernel, by decide +kernel, by decide +kernel⟩, by decide⟩
theorem iX6_isMapped : MI mX6_isMapped 6 := ⟨mem_g (List.mem_of_getElem? (i := 537) (by decide +kernel)) (by decide +kernel), mem_g (List.mem_of_getElem? (i := 26) (by decide +kernel)) (by decide +kernel), _, rfl, rfl⟩
abbrev mX6_bends : MD := (yX6_bends, cX6_bends, 3, (some .int))
theorem wX6_bends : MW mX6_bends 2 := ⟨mem_g (mem_t3 (List.mem_of_getElem? (i := 0) rfl)) rfl, ci_X6, by decide +kernel, ⟨by decide +kernel, by decide +kernel, by decide +kernel⟩, by decide⟩
theorem iX6_bends : MI mX6_bends 6 := ⟨mem_g (List.mem_of_getElem? (i := 540) (by decide +kernel)) (by decide +kernel), mem_g (List.mem_of_getElem? (i := 541) (by decide +kernel)) (by decide +kernel), _, rfl, rfl⟩
abbrev mX6_form : MD := (yX6_form, cX6_form, 7, (some .int))
theorem wX6_form : MW mX6_form 2 := ⟨mem_g (mem_t3 (List.mem_of_getElem? (i := 4) rfl)) rfl, ci_X6, by decide +kernel, ⟨by decide +kernel, by decide +kernel, by decide +kernel⟩, by decide⟩
theorem iX6_form : MI mX6_form 6 := ⟨mem_g (List.mem_of_getElem? (i := 544) (by decide +kernel)) (by decide +kernel), mem_g (List.mem_of_getElem? (i := 545) (by decide +kernel)) (by decide +kernel), _, rfl, rfl⟩
abbrev mX6_spans : MD := (yX6_spans, cX6_spans, 4, (some .int))
theorem wX6_spans : MW mX6_spans 3 := ⟨mem_g (mem_t3 (List.mem_of_getElem? (i := 10) rfl)) rfl, ci_X6, by decide +kernel, ⟨by decide +kernel, by decide +kernel, by decide +kernel⟩, by decide⟩
theorem iX6_spans : MI mX6_spans 6 := ⟨mem_g (List.mem_of_getElem? (i := 550) (by decide +kernel)) (by decide +kernel), mem_g (List.mem_of_getElem? (i := 551) (by decide +kernel)) (by decide +kernel), _, rfl, rfl⟩
abbrev mX2_times : MD := (yX2_times, cX2_times, 5, (some .int))
theorem wX2_times : MW mX2_times 3 := ⟨mem_g (mem_t3 (List.mem_of_getElem? (i := 14) rfl)) rfl, ci_X2, by decide +kernel, ⟨by decide +kernel, by decide +kernel, by decide +kernel⟩, by decide⟩
theorem iX2_times : MI mX2_times 2 := ⟨mem_g (List.mem_of_getElem? (i := 554) (by decide +kernel)) (by decide +kernel), mem_g (List.mem_of_getElem? (i := 555) (by decide +kernel)) (by decide +kernel), _, rfl, rfl⟩
abbrev mX6_like : MD := (yX6_like, cX6_like, 3, (some .boolean))
theorem wX6_like : MW mX6_like 2 := ⟨mem_g (mem_t3 (List.mem_of_getElem? (i := 19) rfl)) rfl, ci_X6, by decide +kernel, ⟨by decide +kernel, by decide +kernel, by decide +kernel⟩, by decide⟩
theorem iX6_like : MI mX6_like 6 := ⟨mem_g (List.mem_of_getElem? (i := 559) (by decide +kernel)) (by decide +kernel), mem_g (List.mem_of_getElem? (i := 560) (by decide +kernel)) (by decide +kernel), _, rfl, rfl⟩
abbrev mX4_areSame : MD := (yX4_areSame, cX4_areSame, 3, (some .boolean))
theorem wX4_areSame : MW mX4_areSame 1 := ⟨mem_g (mem_t3 (List.mem_of_getElem? (i := 23) rfl)) rfl, ci_X4, by decide +kernel, ⟨by decide +kernel, by decide +kernel, by decide +kernel⟩, by decide⟩
theorem iX4_areSame : MI mX4_areSame 4 := ⟨mem_g (List.mem_of_getElem? (i := 563) (by decide +kernel)) (by decide +kernel), mem_g (List.mem_of_getElem? (i := 564) (by decide +kernel)) (by decide +kernel), _, rfl, rfl⟩
abbrev mX6_rank : MD := (yX6_rank, cX6_rank, 4, (some .int))
theorem wX6_rank : MW mX6_rank 3 := ⟨mem_g (mem_t3 (List.mem_of_getElem? (i := 27) rfl)) rfl, ci_X6, by decide +kernel, ⟨by decide +kernel, by decide +kernel, by decide +kernel⟩, by decide⟩
theorem iX6_rank : MI mX6_rank 6 := ⟨mem_g (List.mem_of_getElem? (i := 567) (by decide +kernel)) (by decide +kernel), mem_g (List.mem_of_getElem? (i := 568) (by decide +kernel)) (by decide +kernel), _, rfl, rfl⟩
abbrev mX6_isLed : MD := (yX6_isLed, cX6_isLed, 5, (some .boolean))
theorem wX6_isLed : MW mX6_isLed 3 := ⟨mem_g (mem_t3 (List.mem_of_getElem? (i := 30) rfl)) rfl, ci_X6, by decide +kernel, ⟨by decide +kernel, by decide +kernel, by decide +kernel⟩, by decide⟩
theorem sX6_isLed : Cond.static yX6_isLed ∈ lw_g := mem_g (List.mem_of_getElem? (i := 571) (by decide +kernel)) (by decide +kernel)
abbrev mX2_covering : MD := (yX2_covering, cX2_covering, 4, (some .int))
theorem wX2_covering : MW mX2_covering 3 := ⟨mem_g (mem_t3 (List.mem_of_getElem? (i := 34) rfl)) rfl, ci_X2, by decide +kernel, ⟨by decide +kernel, by decide +kernel, by decide +kernel⟩, by decide⟩
theorem iX2_covering : MI mX2_covering 2 := ⟨mem_g (List.mem_of_getElem? (i := 574) (by decide +kernel)) (by decide +kernel), mem_g (List.mem_of_getElem? (i := 575) (by decide +kernel)) (by decide +kernel), _, rfl, rfl⟩
abbrev mX6_far : MD := (yX6_far, cX6_far, 3, (some .int))
theorem wX6_far : MW mX6_far 2 := ⟨mem_g (mem_t3 (List.mem_of_getElem? (i := 38) rfl)) rfl, ci_X6, by decide +kernel, ⟨by decide +kernel, by decide +kernel, by decide +kernel⟩, by decide⟩
theorem iX6_far : MI mX6_far 6 := ⟨mem_g (List.mem_of_getElem? (i := 578) (by decide +kernel)) (by decide +kernel), mem_g (List.mem_of_getElem? (i := 579) (by decide +kernel)) (by decide +kernel), _, rfl, rfl⟩
abbrev mX1_leastCost : MD := (yX1_leastCost, cX1_leastCost, 5, (some .int))
theorem wX1_leastCost : MW mX1_leastCost 3 := ⟨mem_g (mem_t3 (List.mem_of_getElem? (i := 42) rfl)) rfl, ci_X1, by decide +kernel, ⟨by decide +kernel, by decide +kernel, by decide +kernel⟩, by decide⟩
theorem iX1_leastCost : MI mX1_leastCost 1 := ⟨mem_g (List.mem_of_getElem? (i := 582) (by decide +kernel)) (by decide +kernel), mem_g (List.mem_of_getElem? (i := 583) (by decide +kernel)) (by decide +kernel), _, rfl, rfl⟩
abbrev mX1_canPair : MD := (yX1_canPair, cX1_canPair, 6, (some .boolean))
theorem wX1_canPair : MW mX1_canPair 3 := ⟨mem_g (mem_t3 (List.mem_of_getElem? (i := 46) rfl)) rfl, ci_X1, by decide +kernel, ⟨by decide +kernel, by decide +kernel, by decide +kernel⟩, by decide⟩
theorem iX1_canPair : MI mX1_canPair 1 := ⟨mem_g (List.mem_of_getElem? (i := 587) (by decide +kernel)) (by decide +kernel), mem_g (List.mem_of_getElem? (i := 27) (by decide +kernel)) (by decide +kernel), _, rfl, rfl⟩
abbrev mX1_pair : MD := (yX1_pair, cX1_pair, 8, (some .boolean))
theorem wX1_pair : MW mX1_pair 4 := ⟨mem_g (mem_t3 (List.mem_of_getElem? (i := 51) rfl)) rfl, ci_X1, by decide +kernel, ⟨by decide +kernel, by decide +kernel, by decide +kernel⟩, by decide⟩
theorem iX1_pair : MI mX1_pair 1 := ⟨mem_g (List.mem_of_getElem? (i := 592) (by decide +kernel)) (by decide +kernel), mem_g (List.mem_of_getElem? (i := 28) (by decide +kernel)) (by decide +kernel), _, rfl, rfl⟩
abbrev mX1_cost : MD := (yX1_cost, cX1_cost, 6, (some .int))
theorem wX1_cost : MW mX1_cost 4 := ⟨mem_g (mem_t3 (List.mem_of_getElem? (i := 54) rfl)) rfl, ci_X1, by decide +kernel, ⟨by decide +kernel, by decide +kernel, by decide +kernel⟩, by decide⟩
theorem sX1_cost : Cond.static yX1_cost ∈ lw_g := mem_g (List.mem_of_getElem? (i := 595) (by decide +kernel)) (by decide +kernel)
abbrev mJ9_abs_0f7a4 : MD := (yJ9_abs_0f7a4, cJ9_abs_0f7a4, 1, (some .int))
theorem wJ9_abs_0f7a4 : MW mJ9_abs_0f7a4 1 := ⟨mem_g (mem_t3 (List.mem_of_getElem? (i := 57) rfl)) rfl, ci_J9, by decide +kernel, ⟨by decide +kernel, by decide +kernel, by decide +kernel⟩, by decide⟩
theorem sJ9_abs_0f7a4 : Cond.static yJ9_abs_0f7a4 ∈ lw_g := mem_g (List.mem_of_getElem? (i := 598) (by decide +kernel)) (by decide +kernel)
abbrev mX1_change : MD := (yX1_change, cX1_change, 6, none)
theorem wX1_change : MW mX1_change 1 := ⟨mem_g (mem_t3 (List.mem_of_getElem? (i := 62) rfl)) rfl, ci_X1, by decide +kernel, ⟨by decide +kernel, by decide +kernel, by decide +kernel⟩, by decide⟩
theorem iX1_change : MI mX1_change 1 := ⟨mem_g (List.mem_of_getElem? (i := 603) (by decide +kernel)) (by decide +kernel), mem_g (List.mem_of_getElem? (i := 29) (by decide +kernel)) (by decide +kernel), _, rfl, rfl⟩
abbrev mX6_kind : MD := (yX6_kind, cX6_kind, 3, (some .int))
theorem wX6_kind : MW mX6_kind 2 := ⟨mem_g (mem_t3 (List.mem_of_getElem? (i := 66) rfl)) rfl, ci_X6, by decide +kernel, ⟨by decide +kernel, by decide +kernel, by decide +kernel⟩, by decide⟩
theorem iX6_kind : MI mX6_kind 6 := ⟨mem_g (List.mem_of_getElem? (i := 606) (by decide +kernel)) (by decide +kernel), mem_g (List.mem_of_getElem? (i := 607) (by decide +kernel)) (by decide +kernel), _, rfl, rfl⟩
abbrev mX5_read : MD := (yX5_read, cX5_read, 5, (some .boolean))
theorem wX5_read : MW mX5_read 2 := ⟨mem_g (mem_t3 (List.mem_of_getElem? (i := 70) rfl)) rfl, ci_X5, by decide +kernel, ⟨by decide +kernel, by decide +kernel, by decide +kernel⟩, by decide⟩
theorem iX5_read : MI mX5_read 5 := ⟨mem_g (List.mem_of_getElem? (i := 610) (by decide +kernel)) (by decide +kernel), mem_g (List.mem_of_getElem? (i := 611) (by decide +kernel)) (by decide +kernel), _, rfl, rfl⟩
abbrev mX5_kindOf : MD := (yX5_kindOf, cX5_kindOf, 3, (some .int))
theorem wX5_kindOf : MW mX5_kindOf 0 := ⟨mem_g (mem_t3 (List.mem_of_getElem? (i := 74) rfl)) rfl, ci_X5, by decide +kernel, ⟨by decide +kernel, by decide +kernel, by decide +kernel⟩, by decide⟩
theorem iX5_kindOf : MI mX5_kindOf 5 := ⟨mem_g (List.mem_of_getElem? (i := 614) (by decide +kernel)) (by decide +kernel), mem_g (List.mem_of_getElem? (i := 615) (by decide +kernel)) (by decide +kernel), _, rfl, rfl⟩
abbrev mX6_roots : MD := (yX6_roots, cX6_roots, 3, (some .int))
theorem wX6_roots : MW mX6_roots 2 := ⟨mem_g (mem_t3 (List.mem_of_getElem? (i := 79) rfl)) rfl, ci_X6, by decide +kernel, ⟨by decide +kernel, by decide +kernel, by decide +kernel⟩, by decide⟩
theorem iX6_roots : MI mX6_roots 6 := ⟨mem_g (List.mem_of_getElem? (i := 619) (by decide +kernel)) (by decide +kernel), mem_g (List.mem_of_getElem? (i := 620) (by decide +kernel)) (by decide +kernel), _, rfl, rfl⟩
abbrev mX5_rootCount : MD := (yX5_rootCount, cX5_rootCount, 2, (some .int))
theorem wX5_rootCount : MW mX5_rootCount 0 := ⟨mem_g (mem_t3 (List.mem_of_getElem? (i := 83) rfl)) rfl, ci_X5, by decide +kernel, ⟨by decide +kernel, by decide +kernel, by decide +kernel⟩, by decide⟩
theorem iX5_rootCount : MI mX5_rootCount 5 := ⟨mem_g (List.mem_of_getElem? (i := 623) (by decide +kernel)) (by decide +kernel), mem_g (List.mem_of_getElem? (i := 624) (by decide +kernel)) (by decide +kernel), _, rfl, rfl⟩
abbrev mX5_countLines : MD := (yX5_countLines, cX5_countLines, 2, none)
theorem wX5_countLines : MW mX5_countLines 0 := ⟨mem_g (mem_t3 (List.mem_of_getElem? (i := 87) rfl)) rfl, ci_X5, by decide +kernel, ⟨by decide +kernel, by decide +kernel, by decide +kernel⟩, by decide⟩
theorem iX5_countLines : MI mX5_countLines 5 := ⟨mem_g (List.mem_of_getElem? (i := 628) (by decide +kernel)) (by decide +kernel), mem_g (List.mem_of_getElem? (i := 30) (by decide +kernel)) (by decide +kernel), _, rfl, rfl⟩
abbrev mX5_branchPost : MD := (yX5_branchPost, cX5_branchPost, 2, (some .int))
theorem wX5_branchPost : MW mX5_branchPost 0 := ⟨mem_g (mem_t3 (List.mem_of_getElem? (i := 91) rfl)) rfl, ci_X5, by decide +kernel, ⟨by decide +kernel, by decide +kernel, by decide +kernel⟩, by decide⟩
theorem iX5_branchPost : MI mX5_branchPost 5 := ⟨mem_g (List.mem_of_getElem? (i := 632) (by decide +kernel)) (by decide +kernel), mem_g (List.mem_of_getElem? (i := 31) (by decide +kernel)) (by decide +kernel), _, rfl, rfl⟩
abbrev mX5_endsBeside : MD := (yX5_endsBeside, cX5_endsBeside, 6, (some .int))
theorem wX5_endsBeside : MW mX5_endsBeside 1 := ⟨mem_g (mem_t3 (List.mem_of_getElem? (i := 95) rfl)) rfl, ci_X5, by decide +kernel, ⟨by decide +kernel, by decide +kernel, by decide +kernel⟩, by decide⟩
theorem iX5_endsBeside : MI mX5_endsBeside 5 := ⟨mem_g (List.mem_of_getElem? (i := 636) (by decide +kernel)) (by decide +kernel), mem_g (List.mem_of_getElem? (i := 32) (by decide +kernel)) (by decide +kernel), _, rfl, rfl⟩
abbrev mX6_count : MD := (yX6_count, cX6_count, 2, (some .int))
theorem wX6_count : MW mX6_count 1 := ⟨mem_g (mem_t3 (List.mem_of_getElem? (i := 99) rfl)) rfl, ci_X6, by decide +kernel, ⟨by decide +kernel, by decide +kernel, by decide +kernel⟩, by decide⟩
theorem iX6_count : MI mX6_count 6 := ⟨mem_g (List.mem_of_getElem? (i := 639) (by decide +kernel)) (by decide +kernel), mem_g (List.mem_of_getElem? (i := 640) (by decide +kernel)) (by decide +kernel), _, rfl, rfl⟩
abbrev mL_cell : MD := (yL_cell, cL_cell, 2, (some .int))
theorem wL_cell : MW mL_cell 2 := ⟨mem_g (mem_t3 (List.mem_of_getElem? (i := 102) rfl)) rfl, ci_L, by decide +kernel, ⟨by decide +kernel, by decide +kernel, by decide +kernel⟩, by decide⟩
theorem sL_cell : Cond.static yL_cell ∈ lw_g := mem_g (List.mem_of_getElem? (i := 643) (by decide +kernel)) (by decide +kernel)
abbrev mX7_init : MD := (yX7_init, cX7_init, 5, none)
theorem wX7_init : MW mX7_init 2 := ⟨mem_g (mem_t3 (List.mem_of_getElem? (i := 107) rfl)) rfl, ci_X7, by decide +kernel, ⟨by decide +kernel, by decide +kernel, by decide +kernel⟩, by decide⟩
theorem iX7_init : Cond.instanceMethod yX7_init ∈ lw_g := mem_g (List.mem_of_getElem? (i := 648) (by decide +kernel)) (by decide +kernel)
abbrev mX7_lay : MD := (yX7_lay, cX7_lay, 5, (some .boolean))
theorem wX7_lay : MW mX7_lay 3 := ⟨mem_g (mem_t3 (List.mem_of_getElem? (i := 197) rfl)) rfl, ci_X7, by decide +kernel, ⟨by decide +kernel, by decide +kernel, by decide +kernel⟩, by decide⟩
theorem iX7_lay : MI mX7_lay 7 := ⟨mem_g (List.mem_of_getElem? (i := 737) (by decide +kernel)) (by decide +kernel), mem_g (List.mem_of_getElem? (i := 738) (by decide +kernel)) (by decide +kernel), _, rfl, rfl⟩
abbrev mX7_isLaying : MD := (yX7_isLaying, cX7_isLaying, 1, (some .boolean))
theorem wX7_isLaying : MW mX7_isLaying 1 := ⟨mem_g (mem_t3 (List.mem_of_getElem? (i := 200) rfl)) rfl, ci_X7, by decide +kernel, ⟨by decide +kernel, by decide +kernel, by decide +kernel⟩, by decide⟩
theorem sX7_isLaying : Cond.static yX7_isLaying ∈ lw_g := mem_g (List.mem_of_getElem? (i := 741) (by decide +kernel)) (by decide +kernel)
abbrev mX7_in : MD := (yX7_in, cX7_in, 3, (some .boolean))
theorem wX7_in : MW mX7_in 3 := ⟨mem_g (mem_t3 (List.mem_of_getElem? (i := 203) rfl)) rfl, ci_X7, by decide +kernel, ⟨by decide +kernel, by decide +kernel, by decide +kernel⟩, by decide⟩
theorem sX7_in : Cond.static yX7_in ∈ lw_g := mem_g (List.mem_of_getElem? (i := 744) (by decide +kernel)) (by decide +kernel)
abbrev mX7_areWays : MD := (yX7_areWays, cX7_areWays, 2, (some .boolean))
theorem wX7_areWays : MW mX7_areWays 1 := ⟨mem_g (mem_t3 (List.mem_of_getElem? (i := 207) rfl)) rfl, ci_X7, by decide +kernel, ⟨by decide +kernel, by decide +kernel, by decide +kernel⟩, by decide⟩
theorem iX7_areWays : MI mX7_areWays 7 := ⟨mem_g (List.mem_of_getElem? (i := 748) (by decide +kernel)) (by decide +kernel), mem_g (List.mem_of_getElem? (i := 33) (by decide +kernel)) (by decide +kernel), _, rfl, rfl⟩
abbrev mX7_clear : MD := (yX7_clear, cX7_clear, 4, none)
theorem wX7_clear : MW mX7_clear 2 := ⟨mem_g (mem_t3 (List.mem_of_getElem? (i := 211) rfl)) rfl, ci_X7, by decide +kernel, ⟨by decide +kernel, by decide +kernel, by decide +kernel⟩, by decide⟩
theorem iX7_clear : MI mX7_clear 7 := ⟨mem_g (List.mem_of_getElem? (i := 752) (by decide +kernel)) (by decide +kernel), mem_g (List.mem_of_getElem? (i := 34) (by decide +kernel)) (by decide +kernel), _, rfl, rfl⟩
abbrev mX7_set : MD := (yX7_set, cX7_set, 6, (some .boolean))
theorem wX7_set : MW mX7_set 5 := ⟨mem_g (mem_t3 (List.mem_of_getElem? (i := 215) rfl)) rfl, ci_X7, by decide +kernel, ⟨by decide +kernel, by decide +kernel, by decide +kernel⟩, by decide⟩
theorem iX7_set : MI mX7_set 7 := ⟨mem_g (List.mem_of_getElem? (i := 755) (by decide +kernel)) (by decide +kernel), mem_g (List.mem_of_getElem? (i := 756) (by decide +kernel)) (by decide +kernel), _, rfl, rfl⟩
abbrev mX7_isCell : MD := (yX7_isCell, cX7_isCell, 5, (some .boolean))
theorem wX7_isCell : MW mX7_isCell 4 := ⟨mem_g (mem_t3 (List.mem_of_getElem? (i := 219) rfl)) rfl, ci_X7, by decide +kernel, ⟨by decide +kernel, by decide +kernel, by decide +kernel⟩, by decide⟩
theorem iX7_isCell : MI mX7_isCell 7 := ⟨mem_g (List.mem_of_getElem? (i := 760) (by decide +kernel)) (by decide +kernel), mem_g (List.mem_of_getElem? (i := 35) (by decide +kernel)) (by decide +kernel), _, rfl, rfl⟩
abbrev mX7_target : MD := (yX7_target, cX7_target, 3, (some .int))
theorem wX7_target : MW mX7_target 2 := ⟨mem_g (mem_t3 (List.mem_of_getElem? (i := 223) rfl)) rfl, ci_X7, by decide +kernel, ⟨by decide +kernel, by decide +kernel, by decide +kernel⟩, by decide⟩
theorem iX7_target : MI mX7_target 7 := ⟨mem_g (List.mem_of_getElem? (i := 764) (by decide +kernel)) (by decide +kernel), mem_g (List.mem_of_getElem? (i := 36) (by decide +kernel)) (by decide +kernel), _, rfl, rfl⟩
abbrev mX7_isLeft : MD := (yX7_isLeft, cX7_isLeft, 3, (some .boolean))
theorem wX7_isLeft : MW mX7_isLeft 2 := ⟨mem_g (mem_t3 (List.mem_of_getElem? (i := 227) rfl)) rfl, ci_X7, by decide +kernel, ⟨by decide +kernel, by decide +kernel, by decide +kernel⟩, by decide⟩
theorem iX7_isLeft : MI mX7_isLeft 7 := ⟨mem_g (List.mem_of_getElem? (i := 768) (by decide +kernel)) (by decide +kernel), mem_g (List.mem_of_getElem? (i := 37) (by decide +kernel)) (by decide +kernel), _, rfl, rfl⟩
abbrev mX7_at : MD := (yX7_at, cX7_at, 3, (some .int))
theorem wX7_at : MW mX7_at 2 := ⟨mem_g (mem_t3 (List.mem_of_getElem? (i := 231) rfl)) rfl, ci_X7, by decide +kernel, ⟨by decide +kernel, by decide +kernel, by decide +kernel⟩, by decide⟩
theorem iX7_at : MI mX7_at 7 := ⟨mem_g (List.mem_of_getElem? (i := 772) (by decide +kernel)) (by decide +kernel), mem_g (List.mem_of_getElem? (i := 38) (by decide +kernel)) (by decide +kernel), _, rfl, rfl⟩
abbrev mX7_source : MD := (yX7_source, cX7_source, 3, (some .int))
theorem wX7_source : MW mX7_source 2 := ⟨mem_g (mem_t3 (List.mem_of_getElem? (i := 235) rfl)) rfl, ci_X7, by decide +kernel, ⟨by decide +kernel, by decide +kernel, by decide +kernel⟩, by decide⟩
theorem iX7_source : MI mX7_source 7 := ⟨mem_g (List.mem_of_getElem? (i := 776) (by decide +kernel)) (by decide +kernel), mem_g (List.mem_of_getElem? (i := 39) (by decide +kernel)) (by decide +kernel), _, rfl, rfl⟩
abbrev mX7_cell : MD := (yX7_cell, cX7_cell, 4, (some .int))
theorem wX7_cell : MW mX7_cell 4 := ⟨mem_g (mem_t3 (List.mem_of_getElem? (i := 238) rfl)) rfl, ci_X7, by decide +kernel, ⟨by decide +kernel, by decide +kernel, by decide +kernel⟩, by decide⟩
theorem sX7_cell : Cond.static yX7_cell ∈ lw_g := mem_g (List.mem_of_getElem? (i := 779) (by decide +kernel)) (by decide +kernel)
abbrev mX7_rest : MD := (yX7_rest, cX7_rest, 3, (some .int))
theorem wX7_rest : MW mX7_rest 1 := ⟨mem_g (mem_t4 (List.mem_of_getElem? (i := 2) rfl)) rfl, ci_X7, by decide +kernel, ⟨by decide +kernel, by decide +kernel, by decide +kernel⟩, by decide⟩
theorem iX7_rest : MI mX7_rest 7 := ⟨mem_g (List.mem_of_getElem? (i := 783) (by decide +kernel)) (by decide +kernel), mem_g (List.mem_of_getElem? (i := 40) (by decide +kernel)) (by decide +kernel), _, rfl, rfl⟩
abbrev mX7_get : MD := (yX7_get, cX7_get, 5, (some .int))
theorem wX7_get : MW mX7_get 4 := ⟨mem_g (mem_t4 (List.mem_of_getElem? (i := 6) rfl)) rfl, ci_X7, by decide +kernel, ⟨by decide +kernel, by decide +kernel, by decide +kernel⟩, by decide⟩
theorem iX7_get : MI mX7_get 7 := ⟨mem_g (List.mem_of_getElem? (i := 786) (by decide +kernel)) (by decide +kernel), mem_g (List.mem_of_getElem? (i := 787) (by decide +kernel)) (by decide +kernel), _, rfl, rfl⟩
abbrev mX7_size : MD := (yX7_size, cX7_size, 3, (some .int))
theorem wX7_size : MW mX7_size 2 := ⟨mem_g (mem_t4 (List.mem_of_getElem? (i := 10) rfl)) rfl, ci_X7, by decide +kernel, ⟨by decide +kernel, by decide +kernel, by decide +kernel⟩, by decide⟩
theorem iX7_size : MI mX7_size 7 := ⟨mem_g (List.mem_of_getElem? (i := 790) (by decide +kernel)) (by decide +kernel), mem_g (List.mem_of_getElem? (i := 791) (by decide +kernel)) (by decide +kernel), _, rfl, rfl⟩
abbrev mX7_isPost : MD := (yX7_isPost, cX7_isPost, 2, (some .boolean))
theorem wX7_isPost : MW mX7_isPost 1 := ⟨mem_g (mem_t4 (List.mem_of_getElem? (i := 14) rfl)) rfl, ci_X7, by decide +kernel, ⟨by decide +kernel, by decide +kernel, by decide +kernel⟩, by decide⟩
theorem iX7_isPost : MI mX7_isPost 7 := ⟨mem_g (List.mem_of_getElem? (i := 795) (by decide +kernel)) (by decide +kernel), mem_g (List.mem_of_getElem? (i := 41) (by decide +kernel)) (by decide +kernel), _, rfl, rfl⟩
abbrev mX7_ways : MD := (yX7_ways, cX7_ways, 2, (some .int))
theorem wX7_ways : MW mX7_ways 1 := ⟨mem_g (mem_t4 (List.mem_of_getElem? (i := 18) rfl)) rfl, ci_X7, by decide +kernel, ⟨by decide +kernel, by decide +kernel, by decide +kernel⟩, by decide⟩
theorem iX7_ways : MI mX7_ways 7 := ⟨mem_g (List.mem_of_getElem? (i := 798) (by decide +kernel)) (by decide +kernel), mem_g (List.mem_of_getElem? (i := 799) (by decide +kernel)) (by decide +kernel), _, rfl, rfl⟩
abbrev mX7_span : MD := (yX7_span, cX7_span, 6, (some .boolean))
theorem wX7_span : MW mX7_span 4 := ⟨mem_g (mem_t4 (List.mem_of_getElem? (i := 22) rfl)) rfl, ci_X7, by decide +kernel, ⟨by decide +kernel, by decide +kernel, by decide +kernel⟩, by decide⟩
theorem iX7_span : MI mX7_span 7 := ⟨mem_g (List.mem_of_getElem? (i := 802) (by decide +kernel)) (by decide +kernel), mem_g (List.mem_of_getElem? (i := 803) (by decide +kernel)) (by decide +kernel), _, rfl, rfl⟩
abbrev mX7_beside : MD := (yX7_beside, cX7_beside, 9, (some .boolean))
theorem wX7_beside : MW mX7_beside 3 := ⟨mem_g (mem_t4 (List.mem_of_getElem? (i := 26) rfl)) rfl, ci_X7, by decide +kernel, ⟨by decide +kernel, by decide +kernel, by decide +kernel⟩, by decide⟩
theorem iX7_beside : MI mX7_beside 7 := ⟨mem_g (List.mem_of_getElem? (i := 806) (by decide +kernel)) (by decide +kernel), mem_g (List.mem_of_getElem? (i := 807) (by decide +kernel)) (by decide +kernel), _, rfl, rfl⟩
abbrev mX7_copies : MD := (yX7_copies, cX7_copies, 3, none)
theorem wX7_copies : MW mX7_copies 1 := ⟨mem_g (mem_t4 (List.mem_of_getElem? (i := 30) rfl)) rfl, ci_X7, by decide +kernel, ⟨by decide +kernel, by decide +kernel, by decide +kernel⟩, by decide⟩
theorem iX7_copies : MI mX7_copies 7 := ⟨mem_g (List.mem_of_getElem? (i := 811) (by decide +kernel)) (by decide +kernel), mem_g (List.mem_of_getElem? (i := 42) (by decide +kernel)) (by decide +kernel), _, rfl, rfl⟩
abbrev mX7_becomes : MD := (yX7_becomes, cX7_becomes, 4, none)
theorem wX7_becomes : MW mX7_becomes 2 := ⟨mem_g (mem_t4 (List.mem_of_getElem? (i := 34) rfl)) rfl, ci_X7, by decide +kernel, ⟨by decide +kernel, by decide +kernel, by decide +kernel⟩, by decide⟩
theorem iX7_becomes : MI mX7_becomes 7 := ⟨mem_g (List.mem_of_getElem? (i := 815) (by decide +kernel)) (by decide +kernel), mem_g (List.mem_of_getElem? (i := 43) (by decide +kernel)) (by decide +kernel), _, rfl, rfl⟩
abbrev mX7_mix : MD := (yX7_mix, cX7_mix, 8, (some .boolean))
theorem wX7_mix : MW mX7_mix 5 := ⟨mem_g (mem_t4 (List.mem_of_getElem? (i := 38) rfl)) rfl, ci_X7, by decide +kernel, ⟨by decide +kernel, by decide +kernel, by decide +kernel⟩, by decide⟩
theorem iX7_mix : MI mX7_mix 7 := ⟨mem_g (List.mem_of_getElem? (i := 818) (by decide +kernel)) (by decide +kernel), mem_g (List.mem_of_getElem? (i := 819) (by decide +kernel)) (by decide +kernel), _, rfl, rfl⟩
abbrev mX7_turn : MD := (yX7_turn, cX7_turn, 20, (some .int))
theorem wX7_turn : MW mX7_turn 3 := ⟨mem_g (mem_t4 (List.mem_of_getElem? (i := 42) rfl)) rfl, ci_X7, by decide +kernel, ⟨by decide +kernel, by decide +kernel, by decide +kernel⟩, by decide⟩
theorem iX7_turn : MI mX7_turn 7 := ⟨mem_g (List.mem_of_getElem? (i := 822) (by decide +kernel)) (by decide +kernel), mem_g (List.mem_of_getElem? (i := 823) (by decide +kernel)) (by decide +kernel), _, rfl, rfl⟩
abbrev mX7_begin : MD := (yX7_begin, cX7_begin, 2, none)
theorem wX7_begin : MW mX7_begin 1 := ⟨mem_g (mem_t4 (List.mem_of_getElem? (i := 46) rfl)) rfl, ci_X7, by decide +kernel, ⟨by decide +kernel, by decide +kernel, by decide +kernel⟩, by decide⟩
theorem iX7_begin : MI mX7_begin 7 := ⟨mem_g (List.mem_of_getElem? (i := 827) (by decide +kernel)) (by decide +kernel), mem_g (List.mem_of_getElem? (i := 44) (by decide +kernel)) (by decide +kernel), _, rfl, rfl⟩
abbrev mX7_newRow : MD := (yX7_newRow, cX7_newRow, 3, (some (.array .int)))
theorem wX7_newRow : MW mX7_newRow 0 := ⟨mem_g (mem_t4 (List.mem_of_getElem? (i := 50) rfl)) rfl, ci_X7, by decide +kernel, ⟨by decide +kernel, by decide +kernel, by decide +kernel⟩, by decide⟩
theorem iX7_newRow : MI mX7_newRow 7 := ⟨mem_g (List.mem_of_getElem? (i := 831) (by decide +kernel)) (by decide +kernel), mem_g (List.mem_of_getElem? (i := 45) (by decide +kernel)) (by decide +kernel), _, rfl, rfl⟩
abbrev mX7_reduce : MD := (yX7_reduce, cX7_reduce, 9, (some .int))
theorem wX7_reduce : MW mX7_reduce 0 := ⟨mem_g (mem_t4 (List.mem_of_getElem? (i := 54) rfl)) rfl, ci_X7, by decide +kernel, ⟨by decide +kernel, by decide +kernel, by decide +kernel⟩, by decide⟩
theorem iX7_reduce : MI mX7_reduce 7 := ⟨mem_g (List.mem_of_getElem? (i := 835) (by decide +kernel)) (by decide +kernel), mem_g (List.mem_of_getElem? (i := 46) (by decide +kernel)) (by decide +kernel), _, rfl, rfl⟩
abbrev mX7_inverse : MD := (yX7_inverse, cX7_inverse, 3, (some .int))
theorem wX7_inverse : MW mX7_inverse 1 := ⟨mem_g (mem_t4 (List.mem_of_getElem? (i := 58) rfl)) rfl, ci_X7, by decide +kernel, ⟨by decide +kernel, by decide +kernel, by decide +kernel⟩, by decide⟩
theorem iX7_inverse : MI mX7_inverse 7 := ⟨mem_g (List.mem_of_getElem? (i := 839) (by decide +kernel)) (by decide +kernel), mem_g (List.mem_of_getElem? (i := 47) (by decide +kernel)) (by decide +kernel), _, rfl, rfl⟩
abbrev mX7_isLead : MD := (yX7_isLead, cX7_isLead, 3, (some .boolean))
theorem wX7_isLead : MW mX7_isLead 1 := ⟨mem_g (mem_t4 (List.mem_of_getElem? (i := 62) rfl)) rfl, ci_X7, by decide +kernel, ⟨by decide +kernel, by decide +kernel, by decide +kernel⟩, by decide⟩
theorem iX7_isLead : MI mX7_isLead 7 := ⟨mem_g (List.mem_of_getElem? (i := 843) (by decide +kernel)) (by decide +kernel), mem_g (List.mem_of_getElem? (i := 48) (by decide +kernel)) (by decide +kernel), _, rfl, rfl⟩
abbrev mX7_maps : MD := (yX7_maps, cX7_maps, 11, (some .int))
theorem wX7_maps : MW mX7_maps 2 := ⟨mem_g (mem_t4 (List.mem_of_getElem? (i := 66) rfl)) rfl, ci_X7, by decide +kernel, ⟨by decide +kernel, by decide +kernel, by decide +kernel⟩, by decide⟩
theorem iX7_maps : MI mX7_maps 7 := ⟨mem_g (List.mem_of_getElem? (i := 846) (by decide +kernel)) (by decide +kernel), mem_g (List.mem_of_getElem? (i := 847) (by decide +kernel)) (by decide +kernel), _, rfl, rfl⟩
abbrev mX7_areAlong : MD := (yX7_areAlong, cX7_areAlong, 3, (some .boolean))
theorem wX7_areAlong : MW mX7_areAlong 2 := ⟨mem_g (mem_t4 (List.mem_of_getElem? (i := 70) rfl)) rfl, ci_X7, by decide +kernel, ⟨by decide +kernel, by decide +kernel, by decide +kernel⟩, by decide⟩
theorem iX7_areAlong : MI mX7_areAlong 7 := ⟨mem_g (List.mem_of_getElem? (i := 851) (by decide +kernel)) (by decide +kernel), mem_g (List.mem_of_getElem? (i := 49) (by decide +kernel)) (by decide +kernel), _, rfl, rfl⟩
abbrev mX7_form : MD := (yX7_form, cX7_form, 5, (some .int))
theorem wX7_form : MW mX7_form 2 := ⟨mem_g (mem_t4 (List.mem_of_getElem? (i := 74) rfl)) rfl, ci_X7, by decide +kernel, ⟨by decide +kernel, by decide +kernel, by decide +kernel⟩, by decide⟩
theorem iX7_form : MI mX7_form 7 := ⟨mem_g (List.mem_of_getElem? (i := 854) (by decide +kernel)) (by decide +kernel), mem_g (List.mem_of_getElem? (i := 855) (by decide +kernel)) (by decide +kernel), _, rfl, rfl⟩
abbrev mX7_bends : MD := (yX7_bends, cX7_bends, 3, (some .int))
theorem wX7_bends : MW mX7_bends 2 := ⟨mem_g (mem_t4 (List.mem_of_getElem? (i := 78) rfl)) rfl, ci_X7, by decide +kernel, ⟨by decide +kernel, by decide +kernel, by decide +kernel⟩, by decide⟩
theorem iX7_bends : MI mX7_bends 7 := ⟨mem_g (List.mem_of_getElem? (i := 858) (by decide +kernel)) (by decide +kernel), mem_g (List.mem_of_getElem? (i := 859) (by decide +kernel)) (by decide +kernel), _, rfl, rfl⟩
abbrev mX7_spans : MD := (yX7_spans, cX7_spans, 4, (some .int))
theorem wX7_spans : MW mX7_spans 3 := ⟨mem_g (mem_t4 (List.mem_of_getElem? (i := 84) rfl)) rfl, ci_X7, by decide +kernel, ⟨by decide +kernel, by decide +kernel, by decide +kernel⟩, by decide⟩
theorem iX7_spans : MI mX7_spans 7 := ⟨mem_g (List.mem_of_getElem? (i := 864) (by decide +kernel)) (by decide +kernel), mem_g (List.mem_of_getElem? (i := 865) (by decide +kernel)) (by decide +kernel), _, rfl, rfl⟩
abbrev mX7_times : MD := (yX7_times, cX7_times, 4, (some .int))
theorem wX7_times : MW mX7_times 3 := ⟨mem_g (mem_t4 (List.mem_of_getElem? (i := 88) rfl)) rfl, ci_X7, by decide +kernel, ⟨by decide +kernel, by decide +kernel, by decide +kernel⟩, by decide⟩
theorem iX7_times : MI mX7_times 7 := ⟨mem_g (List.mem_of_getElem? (i := 869) (by decide +kernel)) (by decide +kernel), mem_g (List.mem_of_getElem? (i := 50) (by decide +kernel)) (by decide +kernel), _, rfl, rfl⟩
abbrev mX7_through : MD := (yX7_through, cX7_through, 12, (some .int))
theorem wX7_through : MW mX7_through 3 := ⟨mem_g (mem_t4 (List.mem_of_getElem? (i := 92) rfl)) rfl, ci_X7, by decide +kernel, ⟨by decide +kernel, by decide +kernel, by decide +kernel⟩, by decide⟩
theorem iX7_through : MI mX7_through 7 := ⟨mem_g (List.mem_of_getElem? (i := 873) (by decide +kernel)) (by decide +kernel), mem_g (List.mem_of_getElem? (i := 51) (by decide +kernel)) (by decide +kernel), _, rfl, rfl⟩
abbrev mX7_same : MD := (yX7_same, cX7_same, 11, (some .int))
theorem wX7_same : MW mX7_same 3 := ⟨mem_g (mem_t4 (List.mem_of_getElem? (i := 96) rfl)) rfl, ci_X7, by decide +kernel, ⟨by decide +kernel, by decide +kernel, by decide +kernel⟩, by decide⟩
theorem iX7_same : MI mX7_same 7 := ⟨mem_g (List.mem_of_getElem? (i := 877) (by decide +kernel)) (by decide +kernel), mem_g (List.mem_of_getElem? (i := 52) (by decide +kernel)) (by decide +kernel), _, rfl, rfl⟩
abbrev mX7_like : MD := (yX7_like, cX7_like, 5, (some .boolean))
theorem wX7_like : MW mX7_like 2 := ⟨mem_g (mem_t4 (List.mem_of_getElem? (i := 100) rfl)) rfl, ci_X7, by decide +kernel, ⟨by decide +kernel, by decide +kernel, by decide +kernel⟩, by decide⟩
theorem iX7_like : MI mX7_like 7 := ⟨mem_g (List.mem_of_getElem? (i := 880) (by decide +kernel)) (by decide +kernel), mem_g (List.mem_of_getElem? (i := 881) (by decide +kernel)) (by decide +kernel), _, rfl, rfl⟩
abbrev mX7_rank : MD := (yX7_rank, cX7_rank, 10, (some .int))
theorem wX7_rank : MW mX7_rank 3 := ⟨mem_g (mem_t4 (List.mem_of_getElem? (i := 104) rfl)) rfl, ci_X7, by decide +kernel, ⟨by decide +kernel, by decide +kernel, by decide +kernel⟩, by decide⟩
theorem iX7_rank : MI mX7_rank 7 := ⟨mem_g (List.mem_of_getElem? (i := 884) (by decide +kernel)) (by decide +kernel), mem_g (List.mem_of_getElem? (i := 885) (by decide +kernel)) (by decide +kernel), _, rfl, rfl⟩
abbrev mX7_far : MD := (yX7_far, cX7_far, 4, (some .int))
theorem wX7_far : MW mX7_far 2 := ⟨mem_g (mem_t4 (List.mem_of_getElem? (i := 108) rfl)) rfl, ci_X7, by decide +kernel, ⟨by decide +kernel, by decide +kernel, by decide +kernel⟩, by decide⟩
theorem iX7_far : MI mX7_far 7 := ⟨mem_g (List.mem_of_getElem? (i := 888) (by decide +kernel)) (by decide +kernel), mem_g (List.mem_of_getElem? (i := 889) (by decide +kernel)) (by decide +kernel), _, rfl, rfl⟩
abbrev mX7_list : MD := (yX7_list, cX7_list, 8, none)
theorem wX7_list : MW mX7_list 2 := ⟨mem_g (mem_t4 (List.mem_of_getElem? (i := 112) rfl)) rfl, ci_X7, by decide +kernel, ⟨by decide +kernel, by decide +kernel, by decide +kernel⟩, by decide⟩
theorem iX7_list : MI mX7_list 7 := ⟨mem_g (List.mem_of_getElem? (i := 893) (by decide +kernel)) (by decide +kernel), mem_g (List.mem_of_getElem? (i := 53) (by decide +kernel)) (by decide +kernel), _, rfl, rfl⟩
abbrev mX7_isCovered : MD := (yX7_isCovered, cX7_isCovered, 5, (some .boolean))
theorem wX7_isCovered : MW mX7_isCovered 2 := ⟨mem_g (mem_t4 (List.mem_of_getElem? (i := 116) rfl)) rfl, ci_X7, by decide +kernel, ⟨by decide +kernel, by decide +kernel, by decide +kernel⟩, by decide⟩
theorem iX7_isCovered : MI mX7_isCovered 7 := ⟨mem_g (List.mem_of_getElem? (i := 897) (by decide +kernel)) (by decide +kernel), mem_g (List.mem_of_getElem? (i := 54) (by decide +kernel)) (by decide +kernel), _, rfl, rfl⟩
abbrev mX7_finds : MD := (yX7_finds, cX7_finds, 5, (some .boolean))
theorem wX7_finds : MW mX7_finds 3 := ⟨mem_g (mem_t4 (List.mem_of_getElem? (i := 120) rfl)) rfl, ci_X7, by decide +kernel, ⟨by decide +kernel, by decide +kernel, by decide +kernel⟩, by decide⟩
theorem iX7_finds : MI mX7_finds 7 := ⟨mem_g (List.mem_of_getElem? (i := 901) (by decide +kernel)) (by decide +kernel), mem_g (List.mem_of_getElem? (i := 55) (by decide +kernel)) (by decide +kernel), _, rfl, rfl⟩
abbrev mX7_cost : MD := (yX7_cost, cX7_cost, 6, (some .int))
theorem wX7_cost : MW mX7_cost 3 := ⟨mem_g (mem_t4 (List.mem_of_getElem? (i := 124) rfl)) rfl, ci_X7, by decide +kernel, ⟨by decide +kernel, by decide +kernel, by decide +kernel⟩, by decide⟩
theorem iX7_cost : MI mX7_cost 7 := ⟨mem_g (List.mem_of_getElem? (i := 905) (by decide +kernel)) (by decide +kernel), mem_g (List.mem_of_getElem? (i := 56) (by decide +kernel)) (by decide +kernel), _, rfl, rfl⟩
abbrev mX7_kind : MD := (yX7_kind, cX7_kind, 7, (some .int))
theorem wX7_kind : MW mX7_kind 2 := ⟨mem_g (mem_t4 (List.mem_of_getElem? (i := 129) rfl)) rfl, ci_X7, by decide +kernel, ⟨by decide +kernel, by decide +kernel, by decide +kernel⟩, by decide⟩
theorem iX7_kind : MI mX7_kind 7 := ⟨mem_g (List.mem_of_getElem? (i := 909) (by decide +kernel)) (by decide +kernel), mem_g (List.mem_of_getElem? (i := 910) (by decide +kernel)) (by decide +kernel), _, rfl, rfl⟩
abbrev mX7_isTree : MD := (yX7_isTree, cX7_isTree, 5, (some .boolean))
theorem wX7_isTree : MW mX7_isTree 2 := ⟨mem_g (mem_t4 (List.mem_of_getElem? (i := 133) rfl)) rfl, ci_X7, by decide +kernel, ⟨by decide +kernel, by decide +kernel, by decide +kernel⟩, by decide⟩
theorem iX7_isTree : MI mX7_isTree 7 := ⟨mem_g (List.mem_of_getElem? (i := 914) (by decide +kernel)) (by decide +kernel), mem_g (List.mem_of_getElem? (i := 57) (by decide +kernel)) (by decide +kernel), _, rfl, rfl⟩
abbrev mX7_determinant : MD := (yX7_determinant, cX7_determinant, 12, (some .long))
theorem wX7_determinant : MW mX7_determinant 2 := ⟨mem_g (mem_t4 (List.mem_of_getElem? (i := 137) rfl)) rfl, ci_X7, by decide +kernel, ⟨by decide +kernel, by decide +kernel, by decide +kernel⟩, by decide⟩
theorem iX7_determinant : MI mX7_determinant 7 := ⟨mem_g (List.mem_of_getElem? (i := 918) (by decide +kernel)) (by decide +kernel), mem_g (List.mem_of_getElem? (i := 58) (by decide +kernel)) (by decide +kernel), _, rfl, rfl⟩
abbrev mX7_twice : MD := (yX7_twice, cX7_twice, 4, (some .long))
theorem wX7_twice : MW mX7_twice 4 := ⟨mem_g (mem_t4 (List.mem_of_getElem? (i := 140) rfl)) rfl, ci_X7, by decide +kernel, ⟨by decide +kernel, by decide +kernel, by decide +kernel⟩, by decide⟩
theorem sX7_twice : Cond.static yX7_twice ∈ lw_g := mem_g (List.mem_of_getElem? (i := 921) (by decide +kernel)) (by decide +kernel)
abbrev mX7_roots : MD := (yX7_roots, cX7_roots, 8, (some .int))
theorem wX7_roots : MW mX7_roots 2 := ⟨mem_g (mem_t4 (List.mem_of_getElem? (i := 146) rfl)) rfl, ci_X7, by decide +kernel, ⟨by decide +kernel, by decide +kernel, by decide +kernel⟩, by decide⟩
theorem iX7_roots : MI mX7_roots 7 := ⟨mem_g (List.mem_of_getElem? (i := 926) (by decide +kernel)) (by decide +kernel), mem_g (List.mem_of_getElem? (i := 927) (by decide +kernel)) (by decide +kernel), _, rfl, rfl⟩
abbrev mX7_value : MD := (yX7_value, cX7_value, 5, (some .int))
theorem wX7_value : MW mX7_value 2 := ⟨mem_g (mem_t4 (List.mem_of_getElem? (i := 151) rfl)) rfl, ci_X7, by decide +kernel, ⟨by decide +kernel, by decide +kernel, by decide +kernel⟩, by decide⟩
theorem iX7_value : MI mX7_value 7 := ⟨mem_g (List.mem_of_getElem? (i := 932) (by decide +kernel)) (by decide +kernel), mem_g (List.mem_of_getElem? (i := 59) (by decide +kernel)) (by decide +kernel), _, rfl, rfl⟩
abbrev mX7_isFound : MD := (yX7_isFound, cX7_isFound, 7, (some .boolean))
theorem wX7_isFound : MW mX7_isFound 3 := ⟨mem_g (mem_t4 (List.mem_of_getElem? (i := 155) rfl)) rfl, ci_X7, by decide +kernel, ⟨by decide +kernel, by decide +kernel, by decide +kernel⟩, by decide⟩
theorem iX7_isFound : MI mX7_isFound 7 := ⟨mem_g (List.mem_of_getElem? (i := 936) (by decide +kernel)) (by decide +kernel), mem_g (List.mem_of_getElem? (i := 60) (by decide +kernel)) (by decide +kernel), _, rfl, rfl⟩
abbrev mX7_isBehind : MD := (yX7_isBehind, cX7_isBehind, 7, (some .boolean))
theorem wX7_isBehind : MW mX7_isBehind 3 := ⟨mem_g (mem_t4 (List.mem_of_getElem? (i := 159) rfl)) rfl, ci_X7, by decide +kernel, ⟨by decide +kernel, by decide +kernel, by decide +kernel⟩, by decide⟩
theorem iX7_isBehind : MI mX7_isBehind 7 := ⟨mem_g (List.mem_of_getElem? (i := 940) (by decide +kernel)) (by decide +kernel), mem_g (List.mem_of_getElem? (i := 61) (by decide +kernel)) (by decide +kernel), _, rfl, rfl⟩
abbrev mX7_count : MD := (yX7_count, cX7_count, 2, (some .int))
theorem wX7_count : MW mX7_count 1 := ⟨mem_g (mem_t4 (List.mem_of_getElem? (i := 163) rfl)) rfl, ci_X7, by decide +kernel, ⟨by decide +kernel, by decide +kernel, by decide +kernel⟩, by decide⟩
theorem iX7_count : MI mX7_count 7 := ⟨mem_g (List.mem_of_getElem? (i := 943) (by decide +kernel)) (by decide +kernel), mem_g (List.mem_of_getElem? (i := 944) (by decide +kernel)) (by decide +kernel), _, rfl, rfl⟩
theorem ac_int : Cond.arrayClass .int ∈ lw_g := mem_g (List.mem_of_getElem? (i := 113) (by decide +kernel)) (by decide +kernel)
theorem nat_copy : Cond.native arraycopyName ∈ lw_g := mem_g (List.mem_of_getElem? (i := 388) (by decide +kernel)) (by decide +kernel)
theorem ac_boolean : Cond.arrayClass .boolean ∈ lw_g := mem_g (List.mem_of_getElem? (i := 733) (by decide +kernel)) (by decide +kernel)
theorem ac_long : Cond.arrayClass .long ∈ lw_g := mem_g (List.mem_of_getElem? (i := 734) (by decide +kernel)) (by decide +kernel)
theorem ac_byte : Cond.arrayClass .byte ∈ lw_g := mem_g (List.mem_of_getElem? (i := 735) (by decide +kernel)) (by decide +kernel)
theorem oi_inst : Cond.instanceMethod Lib.objectInit ∈ lw_g := mem_g (List.mem_of_getElem? (i := 80) (by decide +kernel)) (by decide +kernel)
theorem oi_code : Cond.code Lib.objectInit ⟨#[0xb1]⟩ 1 none ∈ lw_g := mem_g (mem_t1 (List.mem_of_getElem? (i := 19) rfl)) rfl
theorem st_copy : Cond.static arraycopyName ∈ lw_g := mem_g (List.mem_of_getElem? (i := 387) (by decide +kernel)) (by decide +kernel)
theorem ci_sys : Cond.initialized "java/lang/System" ∈ lw_g := ci_J10
