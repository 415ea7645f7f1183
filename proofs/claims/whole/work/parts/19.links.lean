theorem kL_15 : Cond.methodLink RL 15 yX6_init ∈ lw_g := mem_g (List.mem_of_getElem? (i := 76) (by decide +kernel)) (by decide +kernel)
theorem kX6_3 : Cond.methodLink RX6 3 Lib.objectInit ∈ lw_g := mem_g (List.mem_of_getElem? (i := 79) (by decide +kernel)) (by decide +kernel)
theorem kX6_9 : Cond.methodLink RX6 9 yX6_greatestPrime ∈ lw_g := mem_g (List.mem_of_getElem? (i := 82) (by decide +kernel)) (by decide +kernel)
theorem fX6_225 : Cond.fieldLink RX6 225 "SpanLoom" "PRIMES" "[I" ∈ lw_g := mem_g (List.mem_of_getElem? (i := 85) (by decide +kernel)) (by decide +kernel)
theorem kX6_17 : Cond.methodLink RX6 17 yJ9_min_7cf53 ∈ lw_g := mem_g (List.mem_of_getElem? (i := 87) (by decide +kernel)) (by decide +kernel)
theorem kX6_23 : Cond.methodLink RX6 23 yJ9_max_7cf53 ∈ lw_g := mem_g (List.mem_of_getElem? (i := 90) (by decide +kernel)) (by decide +kernel)
theorem kX6_35 : Cond.methodLinkNest RX6 35 yX0_init "SpanLoom" ∈ lw_n := mem_n (List.mem_of_getElem? (i := 96) (by decide +kernel)) (by decide +kernel)
theorem kX0_3 : Cond.methodLink RX0 3 Lib.objectInit ∈ lw_g := mem_g (List.mem_of_getElem? (i := 99) (by decide +kernel)) (by decide +kernel)
theorem fX0_9 : FL RX0 9 0 0 := ⟨_, rfl, by decide, mem_g (List.mem_of_getElem? (i := 100) (by decide +kernel)) (by decide +kernel)⟩
theorem pX0_9 : FP RX0 9 0 0 true (.array .int) := ⟨_, rfl, by decide, mem_g (List.mem_of_getElem? (i := 100) (by decide +kernel)) (by decide +kernel), rfl, rfl, rfl⟩
theorem fX6_95 : FN RX6 95 0 0 := ⟨_, "SpanLoom", rfl, by decide, mem_n (List.mem_of_getElem? (i := 101) (by decide +kernel)) (by decide +kernel)⟩
theorem fX2_69 : FN RX2 69 0 0 := ⟨_, "SpanLoom", rfl, by decide, mem_n (List.mem_of_getElem? (i := 102) (by decide +kernel)) (by decide +kernel)⟩
theorem fX0_15 : FL RX0 15 0 1 := ⟨_, rfl, by decide, mem_g (List.mem_of_getElem? (i := 103) (by decide +kernel)) (by decide +kernel)⟩
theorem pX0_15 : FP RX0 15 0 1 true (.array .int) := ⟨_, rfl, by decide, mem_g (List.mem_of_getElem? (i := 103) (by decide +kernel)) (by decide +kernel), rfl, rfl, rfl⟩
theorem fX0_18 : FL RX0 18 0 2 := ⟨_, rfl, by decide, mem_g (List.mem_of_getElem? (i := 104) (by decide +kernel)) (by decide +kernel)⟩
theorem pX0_18 : FP RX0 18 0 2 false (.int) := ⟨_, rfl, by decide, mem_g (List.mem_of_getElem? (i := 104) (by decide +kernel)) (by decide +kernel), rfl, rfl, rfl⟩
theorem fX6_120 : FN RX6 120 0 2 := ⟨_, "SpanLoom", rfl, by decide, mem_n (List.mem_of_getElem? (i := 105) (by decide +kernel)) (by decide +kernel)⟩
theorem kX6_42 : Cond.methodLink RX6 42 yX3_init ∈ lw_g := mem_g (List.mem_of_getElem? (i := 116) (by decide +kernel)) (by decide +kernel)
theorem kX3_3 : Cond.methodLink RX3 3 Lib.objectInit ∈ lw_g := mem_g (List.mem_of_getElem? (i := 119) (by decide +kernel)) (by decide +kernel)
theorem fX3_20 : FL RX3 20 3 0 := ⟨_, rfl, by decide, mem_g (List.mem_of_getElem? (i := 122) (by decide +kernel)) (by decide +kernel)⟩
theorem pX3_20 : FP RX3 20 3 0 true (.int) := ⟨_, rfl, by decide, mem_g (List.mem_of_getElem? (i := 122) (by decide +kernel)) (by decide +kernel), rfl, rfl, rfl⟩
theorem fX3_11 : FL RX3 11 3 1 := ⟨_, rfl, by decide, mem_g (List.mem_of_getElem? (i := 123) (by decide +kernel)) (by decide +kernel)⟩
theorem pX3_11 : FP RX3 11 3 1 true (.array (.array .int)) := ⟨_, rfl, by decide, mem_g (List.mem_of_getElem? (i := 123) (by decide +kernel)) (by decide +kernel), rfl, rfl, rfl⟩
theorem fX3_16 : FL RX3 16 3 2 := ⟨_, rfl, by decide, mem_g (List.mem_of_getElem? (i := 124) (by decide +kernel)) (by decide +kernel)⟩
theorem pX3_16 : FP RX3 16 3 2 true (.array .int) := ⟨_, rfl, by decide, mem_g (List.mem_of_getElem? (i := 124) (by decide +kernel)) (by decide +kernel), rfl, rfl, rfl⟩
theorem fX3_30 : FL RX3 30 3 3 := ⟨_, rfl, by decide, mem_g (List.mem_of_getElem? (i := 125) (by decide +kernel)) (by decide +kernel)⟩
theorem pX3_30 : FP RX3 30 3 3 false (.int) := ⟨_, rfl, by decide, mem_g (List.mem_of_getElem? (i := 125) (by decide +kernel)) (by decide +kernel), rfl, rfl, rfl⟩
theorem fX2_81 : FN RX2 81 3 3 := ⟨_, "SpanLoom", rfl, by decide, mem_n (List.mem_of_getElem? (i := 126) (by decide +kernel)) (by decide +kernel)⟩
theorem fX3_33 : FL RX3 33 3 4 := ⟨_, rfl, by decide, mem_g (List.mem_of_getElem? (i := 127) (by decide +kernel)) (by decide +kernel)⟩
theorem pX3_33 : FP RX3 33 3 4 false (.int) := ⟨_, rfl, by decide, mem_g (List.mem_of_getElem? (i := 127) (by decide +kernel)) (by decide +kernel), rfl, rfl, rfl⟩
theorem fX2_107 : FN RX2 107 3 4 := ⟨_, "SpanLoom", rfl, by decide, mem_n (List.mem_of_getElem? (i := 128) (by decide +kernel)) (by decide +kernel)⟩
theorem fX6_244 : FN RX6 244 3 4 := ⟨_, "SpanLoom", rfl, by decide, mem_n (List.mem_of_getElem? (i := 129) (by decide +kernel)) (by decide +kernel)⟩
theorem kX6_51 : Cond.methodLink RX6 51 yX2_init ∈ lw_g := mem_g (List.mem_of_getElem? (i := 143) (by decide +kernel)) (by decide +kernel)
theorem kX2_3 : Cond.methodLink RX2 3 Lib.objectInit ∈ lw_g := mem_g (List.mem_of_getElem? (i := 146) (by decide +kernel)) (by decide +kernel)
theorem kX2_25 : Cond.methodLink RX2 25 yX3_init ∈ lw_g := mem_g (List.mem_of_getElem? (i := 149) (by decide +kernel)) (by decide +kernel)
theorem fX2_16 : FL RX2 16 2 0 := ⟨_, rfl, by decide, mem_g (List.mem_of_getElem? (i := 150) (by decide +kernel)) (by decide +kernel)⟩
theorem pX2_16 : FP RX2 16 2 0 true (.int) := ⟨_, rfl, by decide, mem_g (List.mem_of_getElem? (i := 150) (by decide +kernel)) (by decide +kernel), rfl, rfl, rfl⟩
theorem fX2_20 : FL RX2 20 2 1 := ⟨_, rfl, by decide, mem_g (List.mem_of_getElem? (i := 151) (by decide +kernel)) (by decide +kernel)⟩
theorem pX2_20 : FP RX2 20 2 1 true (.int) := ⟨_, rfl, by decide, mem_g (List.mem_of_getElem? (i := 151) (by decide +kernel)) (by decide +kernel), rfl, rfl, rfl⟩
theorem fX2_11 : FL RX2 11 2 2 := ⟨_, rfl, by decide, mem_g (List.mem_of_getElem? (i := 152) (by decide +kernel)) (by decide +kernel)⟩
theorem pX2_11 : FP RX2 11 2 2 true (.array (.array .int)) := ⟨_, rfl, by decide, mem_g (List.mem_of_getElem? (i := 152) (by decide +kernel)) (by decide +kernel), rfl, rfl, rfl⟩
theorem fX2_28 : FL RX2 28 2 3 := ⟨_, rfl, by decide, mem_g (List.mem_of_getElem? (i := 153) (by decide +kernel)) (by decide +kernel)⟩
theorem pX2_28 : FP RX2 28 2 3 true (.object "SpanLoom$Rows") := ⟨_, rfl, by decide, mem_g (List.mem_of_getElem? (i := 153) (by decide +kernel)) (by decide +kernel), rfl, rfl, rfl⟩
theorem fX2_32 : FL RX2 32 2 4 := ⟨_, rfl, by decide, mem_g (List.mem_of_getElem? (i := 154) (by decide +kernel)) (by decide +kernel)⟩
theorem pX2_32 : FP RX2 32 2 4 false (.object "SpanLoom$Rows") := ⟨_, rfl, by decide, mem_g (List.mem_of_getElem? (i := 154) (by decide +kernel)) (by decide +kernel), rfl, rfl, rfl⟩
theorem fX2_35 : FL RX2 35 2 5 := ⟨_, rfl, by decide, mem_g (List.mem_of_getElem? (i := 155) (by decide +kernel)) (by decide +kernel)⟩
theorem pX2_35 : FP RX2 35 2 5 false (.object "SpanLoom$Rows") := ⟨_, rfl, by decide, mem_g (List.mem_of_getElem? (i := 155) (by decide +kernel)) (by decide +kernel), rfl, rfl, rfl⟩
theorem fX2_38 : FL RX2 38 2 6 := ⟨_, rfl, by decide, mem_g (List.mem_of_getElem? (i := 156) (by decide +kernel)) (by decide +kernel)⟩
theorem pX2_38 : FP RX2 38 2 6 false (.object "SpanLoom$Rows") := ⟨_, rfl, by decide, mem_g (List.mem_of_getElem? (i := 156) (by decide +kernel)) (by decide +kernel), rfl, rfl, rfl⟩
theorem kX6_60 : Cond.methodLinkNest RX6 60 yX4_init "SpanLoom" ∈ lw_n := mem_n (List.mem_of_getElem? (i := 174) (by decide +kernel)) (by decide +kernel)
theorem kX4_3 : Cond.methodLink RX4 3 Lib.objectInit ∈ lw_g := mem_g (List.mem_of_getElem? (i := 177) (by decide +kernel)) (by decide +kernel)
theorem fX4_9 : FL RX4 9 4 0 := ⟨_, rfl, by decide, mem_g (List.mem_of_getElem? (i := 178) (by decide +kernel)) (by decide +kernel)⟩
theorem pX4_9 : FP RX4 9 4 0 true (.array .int) := ⟨_, rfl, by decide, mem_g (List.mem_of_getElem? (i := 178) (by decide +kernel)) (by decide +kernel), rfl, rfl, rfl⟩
theorem fX1_43 : FN RX1 43 4 0 := ⟨_, "SpanLoom", rfl, by decide, mem_n (List.mem_of_getElem? (i := 179) (by decide +kernel)) (by decide +kernel)⟩
theorem fX6_259 : FN RX6 259 4 0 := ⟨_, "SpanLoom", rfl, by decide, mem_n (List.mem_of_getElem? (i := 180) (by decide +kernel)) (by decide +kernel)⟩
theorem fX4_15 : FL RX4 15 4 1 := ⟨_, rfl, by decide, mem_g (List.mem_of_getElem? (i := 181) (by decide +kernel)) (by decide +kernel)⟩
theorem pX4_15 : FP RX4 15 4 1 true (.array .int) := ⟨_, rfl, by decide, mem_g (List.mem_of_getElem? (i := 181) (by decide +kernel)) (by decide +kernel), rfl, rfl, rfl⟩
theorem fX1_40 : FN RX1 40 4 1 := ⟨_, "SpanLoom", rfl, by decide, mem_n (List.mem_of_getElem? (i := 182) (by decide +kernel)) (by decide +kernel)⟩
theorem fX6_262 : FN RX6 262 4 1 := ⟨_, "SpanLoom", rfl, by decide, mem_n (List.mem_of_getElem? (i := 183) (by decide +kernel)) (by decide +kernel)⟩
theorem fX4_18 : FL RX4 18 4 2 := ⟨_, rfl, by decide, mem_g (List.mem_of_getElem? (i := 184) (by decide +kernel)) (by decide +kernel)⟩
theorem pX4_18 : FP RX4 18 4 2 false (.int) := ⟨_, rfl, by decide, mem_g (List.mem_of_getElem? (i := 184) (by decide +kernel)) (by decide +kernel), rfl, rfl, rfl⟩
theorem fX1_34 : FN RX1 34 4 2 := ⟨_, "SpanLoom", rfl, by decide, mem_n (List.mem_of_getElem? (i := 185) (by decide +kernel)) (by decide +kernel)⟩
theorem fX6_253 : FN RX6 253 4 2 := ⟨_, "SpanLoom", rfl, by decide, mem_n (List.mem_of_getElem? (i := 186) (by decide +kernel)) (by decide +kernel)⟩
theorem kX6_70 : Cond.methodLinkNest RX6 70 yX1_init "SpanLoom" ∈ lw_n := mem_n (List.mem_of_getElem? (i := 196) (by decide +kernel)) (by decide +kernel)
theorem kX1_3 : Cond.methodLink RX1 3 Lib.objectInit ∈ lw_g := mem_g (List.mem_of_getElem? (i := 199) (by decide +kernel)) (by decide +kernel)
theorem fX1_9 : FL RX1 9 1 0 := ⟨_, rfl, by decide, mem_g (List.mem_of_getElem? (i := 200) (by decide +kernel)) (by decide +kernel)⟩
theorem pX1_9 : FP RX1 9 1 0 true (.array .int) := ⟨_, rfl, by decide, mem_g (List.mem_of_getElem? (i := 200) (by decide +kernel)) (by decide +kernel), rfl, rfl, rfl⟩
theorem fX1_15 : FL RX1 15 1 1 := ⟨_, rfl, by decide, mem_g (List.mem_of_getElem? (i := 201) (by decide +kernel)) (by decide +kernel)⟩
theorem pX1_15 : FP RX1 15 1 1 true (.array .int) := ⟨_, rfl, by decide, mem_g (List.mem_of_getElem? (i := 201) (by decide +kernel)) (by decide +kernel), rfl, rfl, rfl⟩
theorem fX1_18 : FL RX1 18 1 2 := ⟨_, rfl, by decide, mem_g (List.mem_of_getElem? (i := 202) (by decide +kernel)) (by decide +kernel)⟩
theorem pX1_18 : FP RX1 18 1 2 true (.array .int) := ⟨_, rfl, by decide, mem_g (List.mem_of_getElem? (i := 202) (by decide +kernel)) (by decide +kernel), rfl, rfl, rfl⟩
theorem fX1_21 : FL RX1 21 1 3 := ⟨_, rfl, by decide, mem_g (List.mem_of_getElem? (i := 203) (by decide +kernel)) (by decide +kernel)⟩
theorem pX1_21 : FP RX1 21 1 3 true (.array .int) := ⟨_, rfl, by decide, mem_g (List.mem_of_getElem? (i := 203) (by decide +kernel)) (by decide +kernel), rfl, rfl, rfl⟩
theorem kX6_77 : Cond.methodLinkNest RX6 77 yX5_init "SpanLoom" ∈ lw_n := mem_n (List.mem_of_getElem? (i := 215) (by decide +kernel)) (by decide +kernel)
theorem kX5_3 : Cond.methodLink RX5 3 Lib.objectInit ∈ lw_g := mem_g (List.mem_of_getElem? (i := 218) (by decide +kernel)) (by decide +kernel)
theorem fX5_9 : FL RX5 9 5 0 := ⟨_, rfl, by decide, mem_g (List.mem_of_getElem? (i := 219) (by decide +kernel)) (by decide +kernel)⟩
theorem pX5_9 : FP RX5 9 5 0 true (.array .int) := ⟨_, rfl, by decide, mem_g (List.mem_of_getElem? (i := 219) (by decide +kernel)) (by decide +kernel), rfl, rfl, rfl⟩
theorem fX5_15 : FL RX5 15 5 1 := ⟨_, rfl, by decide, mem_g (List.mem_of_getElem? (i := 220) (by decide +kernel)) (by decide +kernel)⟩
theorem pX5_15 : FP RX5 15 5 1 true (.array .int) := ⟨_, rfl, by decide, mem_g (List.mem_of_getElem? (i := 220) (by decide +kernel)) (by decide +kernel), rfl, rfl, rfl⟩
theorem fX5_18 : FL RX5 18 5 2 := ⟨_, rfl, by decide, mem_g (List.mem_of_getElem? (i := 221) (by decide +kernel)) (by decide +kernel)⟩
theorem pX5_18 : FP RX5 18 5 2 true (.array .int) := ⟨_, rfl, by decide, mem_g (List.mem_of_getElem? (i := 221) (by decide +kernel)) (by decide +kernel), rfl, rfl, rfl⟩
theorem fX5_21 : FL RX5 21 5 3 := ⟨_, rfl, by decide, mem_g (List.mem_of_getElem? (i := 222) (by decide +kernel)) (by decide +kernel)⟩
theorem pX5_21 : FP RX5 21 5 3 true (.array .int) := ⟨_, rfl, by decide, mem_g (List.mem_of_getElem? (i := 222) (by decide +kernel)) (by decide +kernel), rfl, rfl, rfl⟩
theorem fX5_24 : FL RX5 24 5 4 := ⟨_, rfl, by decide, mem_g (List.mem_of_getElem? (i := 223) (by decide +kernel)) (by decide +kernel)⟩
theorem pX5_24 : FP RX5 24 5 4 false (.int) := ⟨_, rfl, by decide, mem_g (List.mem_of_getElem? (i := 223) (by decide +kernel)) (by decide +kernel), rfl, rfl, rfl⟩
theorem fX6_13 : FL RX6 13 6 0 := ⟨_, rfl, by decide, mem_g (List.mem_of_getElem? (i := 235) (by decide +kernel)) (by decide +kernel)⟩
theorem pX6_13 : FP RX6 13 6 0 true (.int) := ⟨_, rfl, by decide, mem_g (List.mem_of_getElem? (i := 235) (by decide +kernel)) (by decide +kernel), rfl, rfl, rfl⟩
theorem fX6_26 : FL RX6 26 6 1 := ⟨_, rfl, by decide, mem_g (List.mem_of_getElem? (i := 236) (by decide +kernel)) (by decide +kernel)⟩
theorem pX6_26 : FP RX6 26 6 1 true (.int) := ⟨_, rfl, by decide, mem_g (List.mem_of_getElem? (i := 236) (by decide +kernel)) (by decide +kernel), rfl, rfl, rfl⟩
theorem fX6_31 : FL RX6 31 6 2 := ⟨_, rfl, by decide, mem_g (List.mem_of_getElem? (i := 237) (by decide +kernel)) (by decide +kernel)⟩
theorem pX6_31 : FP RX6 31 6 2 true (.array (.object "SpanLoom$Laying")) := ⟨_, rfl, by decide, mem_g (List.mem_of_getElem? (i := 237) (by decide +kernel)) (by decide +kernel), rfl, rfl, rfl⟩
theorem fX6_36 : FL RX6 36 6 3 := ⟨_, rfl, by decide, mem_g (List.mem_of_getElem? (i := 238) (by decide +kernel)) (by decide +kernel)⟩
theorem pX6_36 : FP RX6 36 6 3 true (.object "SpanLoom$Laying") := ⟨_, rfl, by decide, mem_g (List.mem_of_getElem? (i := 238) (by decide +kernel)) (by decide +kernel), rfl, rfl, rfl⟩
theorem fX6_45 : FL RX6 45 6 4 := ⟨_, rfl, by decide, mem_g (List.mem_of_getElem? (i := 239) (by decide +kernel)) (by decide +kernel)⟩
theorem pX6_45 : FP RX6 45 6 4 true (.object "SpanLoom$Rows") := ⟨_, rfl, by decide, mem_g (List.mem_of_getElem? (i := 239) (by decide +kernel)) (by decide +kernel), rfl, rfl, rfl⟩
theorem fX6_54 : FL RX6 54 6 5 := ⟨_, rfl, by decide, mem_g (List.mem_of_getElem? (i := 240) (by decide +kernel)) (by decide +kernel)⟩
theorem pX6_54 : FP RX6 54 6 5 true (.object "SpanLoom$Parting") := ⟨_, rfl, by decide, mem_g (List.mem_of_getElem? (i := 240) (by decide +kernel)) (by decide +kernel), rfl, rfl, rfl⟩
theorem fX6_61 : FL RX6 61 6 6 := ⟨_, rfl, by decide, mem_g (List.mem_of_getElem? (i := 241) (by decide +kernel)) (by decide +kernel)⟩
theorem pX6_61 : FP RX6 61 6 6 true (.object "SpanLoom$Spans") := ⟨_, rfl, by decide, mem_g (List.mem_of_getElem? (i := 241) (by decide +kernel)) (by decide +kernel), rfl, rfl, rfl⟩
theorem fX6_65 : FL RX6 65 6 7 := ⟨_, rfl, by decide, mem_g (List.mem_of_getElem? (i := 242) (by decide +kernel)) (by decide +kernel)⟩
theorem pX6_65 : FP RX6 65 6 7 true (.object "SpanLoom$Spans") := ⟨_, rfl, by decide, mem_g (List.mem_of_getElem? (i := 242) (by decide +kernel)) (by decide +kernel), rfl, rfl, rfl⟩
theorem fX6_71 : FL RX6 71 6 8 := ⟨_, rfl, by decide, mem_g (List.mem_of_getElem? (i := 243) (by decide +kernel)) (by decide +kernel)⟩
theorem pX6_71 : FP RX6 71 6 8 true (.object "SpanLoom$Pairing") := ⟨_, rfl, by decide, mem_g (List.mem_of_getElem? (i := 243) (by decide +kernel)) (by decide +kernel), rfl, rfl, rfl⟩
theorem fX6_78 : FL RX6 78 6 9 := ⟨_, rfl, by decide, mem_g (List.mem_of_getElem? (i := 244) (by decide +kernel)) (by decide +kernel)⟩
theorem pX6_78 : FP RX6 78 6 9 true (.object "SpanLoom$Tree") := ⟨_, rfl, by decide, mem_g (List.mem_of_getElem? (i := 244) (by decide +kernel)) (by decide +kernel), rfl, rfl, rfl⟩
theorem kL_21 : Cond.methodLink RL 21 yX6_lay ∈ lw_g := mem_g (List.mem_of_getElem? (i := 266) (by decide +kernel)) (by decide +kernel)
theorem kX6_82 : Cond.methodLink RX6 82 yX6_isLaying ∈ lw_g := mem_g (List.mem_of_getElem? (i := 270) (by decide +kernel)) (by decide +kernel)
theorem kX6_148 : Cond.methodLink RX6 148 yX6_isBelow ∈ lw_g := mem_g (List.mem_of_getElem? (i := 274) (by decide +kernel)) (by decide +kernel)
theorem kX6_86 : Cond.methodLink RX6 86 yX6_areWays ∈ lw_g := mem_g (List.mem_of_getElem? (i := 277) (by decide +kernel)) (by decide +kernel)
theorem kX6_89 : Cond.methodLink RX6 89 yX6_areSizes ∈ lw_g := mem_g (List.mem_of_getElem? (i := 281) (by decide +kernel)) (by decide +kernel)
theorem kX6_99 : Cond.methodLink RX6 99 yX6_sizeIn ∈ lw_g := mem_g (List.mem_of_getElem? (i := 285) (by decide +kernel)) (by decide +kernel)
theorem kX6_92 : Cond.methodLink RX6 92 yX0_empty ∈ lw_g := mem_g (List.mem_of_getElem? (i := 288) (by decide +kernel)) (by decide +kernel)
theorem kX0_22 : Cond.methodLink RX0 22 yJ7_fill_53178 ∈ lw_g := mem_g (List.mem_of_getElem? (i := 292) (by decide +kernel)) (by decide +kernel)
theorem kL_26 : Cond.methodLink RL 26 yX6_set ∈ lw_g := mem_g (List.mem_of_getElem? (i := 295) (by decide +kernel)) (by decide +kernel)
theorem kX6_102 : Cond.methodLink RX6 102 yX6_isCell ∈ lw_g := mem_g (List.mem_of_getElem? (i := 299) (by decide +kernel)) (by decide +kernel)
theorem kX6_151 : Cond.methodLink RX6 151 yX6_isArrow ∈ lw_g := mem_g (List.mem_of_getElem? (i := 303) (by decide +kernel)) (by decide +kernel)
theorem kX6_138 : Cond.methodLink RX6 138 yX0_rowsOf ∈ lw_g := mem_g (List.mem_of_getElem? (i := 307) (by decide +kernel)) (by decide +kernel)
theorem kX0_38 : Cond.methodLink RX0 38 yX0_target ∈ lw_g := mem_g (List.mem_of_getElem? (i := 311) (by decide +kernel)) (by decide +kernel)
theorem kX0_34 : Cond.methodLink RX0 34 yX0_isLeft ∈ lw_g := mem_g (List.mem_of_getElem? (i := 315) (by decide +kernel)) (by decide +kernel)
theorem kX6_141 : Cond.methodLink RX6 141 yX0_columnsOf ∈ lw_g := mem_g (List.mem_of_getElem? (i := 319) (by decide +kernel)) (by decide +kernel)
theorem kX0_42 : Cond.methodLink RX0 42 yX0_source ∈ lw_g := mem_g (List.mem_of_getElem? (i := 323) (by decide +kernel)) (by decide +kernel)
theorem kX6_106 : Cond.methodLink RX6 106 yJ9_floorMod_7cf53 ∈ lw_g := mem_g (List.mem_of_getElem? (i := 327) (by decide +kernel)) (by decide +kernel)
theorem kX6_109 : Cond.methodLink RX6 109 yX0_put ∈ lw_g := mem_g (List.mem_of_getElem? (i := 330) (by decide +kernel)) (by decide +kernel)
theorem kL_31 : Cond.methodLink RL 31 yX6_get ∈ lw_g := mem_g (List.mem_of_getElem? (i := 334) (by decide +kernel)) (by decide +kernel)
theorem kX6_113 : Cond.methodLink RX6 113 yX0_number ∈ lw_g := mem_g (List.mem_of_getElem? (i := 338) (by decide +kernel)) (by decide +kernel)
theorem kL_36 : Cond.methodLink RL 36 yX6_size ∈ lw_g := mem_g (List.mem_of_getElem? (i := 342) (by decide +kernel)) (by decide +kernel)
theorem kX6_117 : Cond.methodLink RX6 117 yX6_isPost ∈ lw_g := mem_g (List.mem_of_getElem? (i := 346) (by decide +kernel)) (by decide +kernel)
theorem kL_41 : Cond.methodLink RL 41 yX6_ways ∈ lw_g := mem_g (List.mem_of_getElem? (i := 350) (by decide +kernel)) (by decide +kernel)
theorem kL_46 : Cond.methodLink RL 46 yX6_span ∈ lw_g := mem_g (List.mem_of_getElem? (i := 354) (by decide +kernel)) (by decide +kernel)
theorem kX6_123 : Cond.methodLink RX6 123 yX6_isSpan ∈ lw_g := mem_g (List.mem_of_getElem? (i := 358) (by decide +kernel)) (by decide +kernel)
theorem kL_51 : Cond.methodLink RL 51 yX6_beside ∈ lw_g := mem_g (List.mem_of_getElem? (i := 362) (by decide +kernel)) (by decide +kernel)
theorem kX6_127 : Cond.methodLink RX6 127 yX6_haveSameWays ∈ lw_g := mem_g (List.mem_of_getElem? (i := 366) (by decide +kernel)) (by decide +kernel)
theorem kX6_130 : Cond.methodLink RX6 130 yX6_fitBeside ∈ lw_g := mem_g (List.mem_of_getElem? (i := 370) (by decide +kernel)) (by decide +kernel)
theorem kX6_134 : Cond.methodLink RX6 134 yX0_putTable ∈ lw_g := mem_g (List.mem_of_getElem? (i := 374) (by decide +kernel)) (by decide +kernel)
theorem kX0_49 : Cond.methodLink RX0 49 yX0_rowsOf ∈ lw_g := mem_g (List.mem_of_getElem? (i := 378) (by decide +kernel)) (by decide +kernel)
theorem kX0_52 : Cond.methodLink RX0 52 yX0_columnsOf ∈ lw_g := mem_g (List.mem_of_getElem? (i := 379) (by decide +kernel)) (by decide +kernel)
theorem kX0_45 : Cond.methodLink RX0 45 yX0_number ∈ lw_g := mem_g (List.mem_of_getElem? (i := 380) (by decide +kernel)) (by decide +kernel)
theorem kX0_55 : Cond.methodLink RX0 55 yX0_put ∈ lw_g := mem_g (List.mem_of_getElem? (i := 381) (by decide +kernel)) (by decide +kernel)
theorem kX6_144 : Cond.methodLink RX6 144 yX0_copy ∈ lw_g := mem_g (List.mem_of_getElem? (i := 382) (by decide +kernel)) (by decide +kernel)
theorem kX0_28 : Cond.methodLink RX0 28 arraycopyName ∈ lw_g := mem_g (List.mem_of_getElem? (i := 386) (by decide +kernel)) (by decide +kernel)
theorem kL_55 : Cond.methodLink RL 55 yX6_mix ∈ lw_g := mem_g (List.mem_of_getElem? (i := 389) (by decide +kernel)) (by decide +kernel)
theorem kX6_154 : Cond.methodLink RX6 154 yX0_target ∈ lw_g := mem_g (List.mem_of_getElem? (i := 393) (by decide +kernel)) (by decide +kernel)
theorem kX6_157 : Cond.methodLink RX6 157 yX6_addRow ∈ lw_g := mem_g (List.mem_of_getElem? (i := 394) (by decide +kernel)) (by decide +kernel)
theorem kX6_161 : Cond.methodLink RX6 161 yX6_addColumn ∈ lw_g := mem_g (List.mem_of_getElem? (i := 398) (by decide +kernel)) (by decide +kernel)
theorem kL_59 : Cond.methodLink RL 59 yX6_turn ∈ lw_g := mem_g (List.mem_of_getElem? (i := 402) (by decide +kernel)) (by decide +kernel)
theorem kX6_164 : Cond.methodLink RX6 164 yX6_isTurning ∈ lw_g := mem_g (List.mem_of_getElem? (i := 406) (by decide +kernel)) (by decide +kernel)
theorem kX6_228 : Cond.methodLink RX6 228 yX0_isLeft ∈ lw_g := mem_g (List.mem_of_getElem? (i := 410) (by decide +kernel)) (by decide +kernel)
theorem kX6_168 : Cond.methodLink RX6 168 yX6_gatherBeside ∈ lw_g := mem_g (List.mem_of_getElem? (i := 411) (by decide +kernel)) (by decide +kernel)
theorem kX6_231 : Cond.methodLink RX6 231 yX3_start ∈ lw_g := mem_g (List.mem_of_getElem? (i := 415) (by decide +kernel)) (by decide +kernel)
theorem kX3_24 : Cond.methodLink RX3 24 yJ9_min_7cf53 ∈ lw_g := mem_g (List.mem_of_getElem? (i := 419) (by decide +kernel)) (by decide +kernel)
theorem kX3_36 : Cond.methodLink RX3 36 yJ7_fill_53178 ∈ lw_g := mem_g (List.mem_of_getElem? (i := 420) (by decide +kernel)) (by decide +kernel)
theorem kX6_234 : Cond.methodLink RX6 234 yX0_numberBeside ∈ lw_g := mem_g (List.mem_of_getElem? (i := 421) (by decide +kernel)) (by decide +kernel)
theorem kX6_238 : Cond.methodLink RX6 238 yX3_put ∈ lw_g := mem_g (List.mem_of_getElem? (i := 425) (by decide +kernel)) (by decide +kernel)
theorem kX6_172 : Cond.methodLink RX6 172 yX3_bringToLeast ∈ lw_g := mem_g (List.mem_of_getElem? (i := 429) (by decide +kernel)) (by decide +kernel)
theorem kX3_46 : Cond.methodLink RX3 46 yX3_rowWithNumber ∈ lw_g := mem_g (List.mem_of_getElem? (i := 433) (by decide +kernel)) (by decide +kernel)
theorem kX3_49 : Cond.methodLink RX3 49 yX3_swap ∈ lw_g := mem_g (List.mem_of_getElem? (i := 437) (by decide +kernel)) (by decide +kernel)
theorem kX3_52 : Cond.methodLink RX3 52 yX3_inverse ∈ lw_g := mem_g (List.mem_of_getElem? (i := 441) (by decide +kernel)) (by decide +kernel)
theorem kX3_56 : Cond.methodLink RX3 56 yX3_scale ∈ lw_g := mem_g (List.mem_of_getElem? (i := 445) (by decide +kernel)) (by decide +kernel)
theorem kX3_60 : Cond.methodLink RX3 60 yX3_clearElsewhere ∈ lw_g := mem_g (List.mem_of_getElem? (i := 449) (by decide +kernel)) (by decide +kernel)
theorem kX6_175 : Cond.methodLink RX6 175 yX3_freeCount ∈ lw_g := mem_g (List.mem_of_getElem? (i := 453) (by decide +kernel)) (by decide +kernel)
theorem kX6_179 : Cond.methodLink RX6 179 yX6_putTurned ∈ lw_g := mem_g (List.mem_of_getElem? (i := 457) (by decide +kernel)) (by decide +kernel)
theorem kX6_241 : Cond.methodLink RX6 241 yX0_reverse ∈ lw_g := mem_g (List.mem_of_getElem? (i := 461) (by decide +kernel)) (by decide +kernel)
theorem kX6_247 : Cond.methodLink RX6 247 yX3_isFree ∈ lw_g := mem_g (List.mem_of_getElem? (i := 465) (by decide +kernel)) (by decide +kernel)
theorem kX6_250 : Cond.methodLink RX6 250 yX3_rest ∈ lw_g := mem_g (List.mem_of_getElem? (i := 469) (by decide +kernel)) (by decide +kernel)
theorem kL_64 : Cond.methodLink RL 64 yX6_maps ∈ lw_g := mem_g (List.mem_of_getElem? (i := 473) (by decide +kernel)) (by decide +kernel)
theorem kX6_183 : Cond.methodLink RX6 183 yX2_part ∈ lw_g := mem_g (List.mem_of_getElem? (i := 477) (by decide +kernel)) (by decide +kernel)
theorem kX2_41 : Cond.methodLink RX2 41 yX2_coverFrom ∈ lw_g := mem_g (List.mem_of_getElem? (i := 481) (by decide +kernel)) (by decide +kernel)
theorem kX2_63 : Cond.methodLink RX2 63 yJ7_fill_53178 ∈ lw_g := mem_g (List.mem_of_getElem? (i := 485) (by decide +kernel)) (by decide +kernel)
theorem kX2_75 : Cond.methodLink RX2 75 yX3_startWhole ∈ lw_g := mem_g (List.mem_of_getElem? (i := 486) (by decide +kernel)) (by decide +kernel)
theorem kX3_42 : Cond.methodLink RX3 42 yX3_start ∈ lw_g := mem_g (List.mem_of_getElem? (i := 490) (by decide +kernel)) (by decide +kernel)
theorem kX2_78 : Cond.methodLink RX2 78 yX3_start ∈ lw_g := mem_g (List.mem_of_getElem? (i := 491) (by decide +kernel)) (by decide +kernel)
theorem kX2_84 : Cond.methodLink RX2 84 yX2_lead ∈ lw_g := mem_g (List.mem_of_getElem? (i := 492) (by decide +kernel)) (by decide +kernel)
theorem kX2_88 : Cond.methodLink RX2 88 yX0_isLeft ∈ lw_g := mem_g (List.mem_of_getElem? (i := 496) (by decide +kernel)) (by decide +kernel)
theorem kX2_92 : Cond.methodLink RX2 92 yX2_findConditions ∈ lw_g := mem_g (List.mem_of_getElem? (i := 497) (by decide +kernel)) (by decide +kernel)
theorem kX2_120 : Cond.methodLink RX2 120 yX3_freeCount ∈ lw_g := mem_g (List.mem_of_getElem? (i := 501) (by decide +kernel)) (by decide +kernel)
theorem kX2_124 : Cond.methodLink RX2 124 yX3_isFree ∈ lw_g := mem_g (List.mem_of_getElem? (i := 502) (by decide +kernel)) (by decide +kernel)
theorem kX2_127 : Cond.methodLink RX2 127 yX3_rest ∈ lw_g := mem_g (List.mem_of_getElem? (i := 503) (by decide +kernel)) (by decide +kernel)
theorem kX2_110 : Cond.methodLink RX2 110 yX0_number ∈ lw_g := mem_g (List.mem_of_getElem? (i := 504) (by decide +kernel)) (by decide +kernel)
theorem kX2_116 : Cond.methodLink RX2 116 yX3_put ∈ lw_g := mem_g (List.mem_of_getElem? (i := 505) (by decide +kernel)) (by decide +kernel)
theorem kX2_96 : Cond.methodLink RX2 96 yX3_bringToLeast ∈ lw_g := mem_g (List.mem_of_getElem? (i := 506) (by decide +kernel)) (by decide +kernel)
theorem kX2_99 : Cond.methodLink RX2 99 yX2_solveConditions ∈ lw_g := mem_g (List.mem_of_getElem? (i := 507) (by decide +kernel)) (by decide +kernel)
theorem kX2_103 : Cond.methodLink RX2 103 yX2_leadAlong ∈ lw_g := mem_g (List.mem_of_getElem? (i := 511) (by decide +kernel)) (by decide +kernel)
theorem kX2_114 : Cond.methodLink RX2 114 yX3_number ∈ lw_g := mem_g (List.mem_of_getElem? (i := 515) (by decide +kernel)) (by decide +kernel)
theorem kX2_45 : Cond.methodLink RX2 45 yX4_clear ∈ lw_g := mem_g (List.mem_of_getElem? (i := 519) (by decide +kernel)) (by decide +kernel)
theorem kX2_50 : Cond.methodLink RX2 50 yX2_timesByCovers ∈ lw_g := mem_g (List.mem_of_getElem? (i := 523) (by decide +kernel)) (by decide +kernel)
theorem kX2_54 : Cond.methodLink RX2 54 yX4_add ∈ lw_g := mem_g (List.mem_of_getElem? (i := 527) (by decide +kernel)) (by decide +kernel)
theorem kX6_187 : Cond.methodLink RX6 187 yX6_mapsOfSpans ∈ lw_g := mem_g (List.mem_of_getElem? (i := 531) (by decide +kernel)) (by decide +kernel)
theorem kX6_256 : Cond.methodLink RX6 256 yX6_isMapped ∈ lw_g := mem_g (List.mem_of_getElem? (i := 535) (by decide +kernel)) (by decide +kernel)
theorem kL_68 : Cond.methodLink RL 68 yX6_bends ∈ lw_g := mem_g (List.mem_of_getElem? (i := 539) (by decide +kernel)) (by decide +kernel)
theorem kX6_191 : Cond.methodLink RX6 191 yX6_form ∈ lw_g := mem_g (List.mem_of_getElem? (i := 543) (by decide +kernel)) (by decide +kernel)
theorem kX6_194 : Cond.methodLink RX6 194 yX0_source ∈ lw_g := mem_g (List.mem_of_getElem? (i := 547) (by decide +kernel)) (by decide +kernel)
theorem kL_72 : Cond.methodLink RL 72 yX6_form ∈ lw_g := mem_g (List.mem_of_getElem? (i := 548) (by decide +kernel)) (by decide +kernel)
theorem kL_76 : Cond.methodLink RL 76 yX6_spans ∈ lw_g := mem_g (List.mem_of_getElem? (i := 549) (by decide +kernel)) (by decide +kernel)
theorem kX6_197 : Cond.methodLink RX6 197 yX2_times ∈ lw_g := mem_g (List.mem_of_getElem? (i := 553) (by decide +kernel)) (by decide +kernel)
theorem kX2_58 : Cond.methodLink RX2 58 yJ9_min_7cf53 ∈ lw_g := mem_g (List.mem_of_getElem? (i := 557) (by decide +kernel)) (by decide +kernel)
theorem kL_80 : Cond.methodLink RL 80 yX6_like ∈ lw_g := mem_g (List.mem_of_getElem? (i := 558) (by decide +kernel)) (by decide +kernel)
theorem kX6_201 : Cond.methodLink RX6 201 yX4_areSame ∈ lw_g := mem_g (List.mem_of_getElem? (i := 562) (by decide +kernel)) (by decide +kernel)
theorem kL_85 : Cond.methodLink RL 85 yX6_rank ∈ lw_g := mem_g (List.mem_of_getElem? (i := 566) (by decide +kernel)) (by decide +kernel)
theorem kX6_205 : Cond.methodLink RX6 205 yX6_isLed ∈ lw_g := mem_g (List.mem_of_getElem? (i := 570) (by decide +kernel)) (by decide +kernel)
theorem kX6_209 : Cond.methodLink RX6 209 yX2_covering ∈ lw_g := mem_g (List.mem_of_getElem? (i := 573) (by decide +kernel)) (by decide +kernel)
theorem kL_89 : Cond.methodLink RL 89 yX6_far ∈ lw_g := mem_g (List.mem_of_getElem? (i := 577) (by decide +kernel)) (by decide +kernel)
theorem kX6_212 : Cond.methodLink RX6 212 yX1_leastCost ∈ lw_g := mem_g (List.mem_of_getElem? (i := 581) (by decide +kernel)) (by decide +kernel)
theorem kX1_24 : Cond.methodLink RX1 24 yX1_canPair ∈ lw_g := mem_g (List.mem_of_getElem? (i := 585) (by decide +kernel)) (by decide +kernel)
theorem kX1_28 : Cond.methodLink RX1 28 yJ7_fill_53178 ∈ lw_g := mem_g (List.mem_of_getElem? (i := 589) (by decide +kernel)) (by decide +kernel)
theorem kX1_46 : Cond.methodLink RX1 46 yX1_pair ∈ lw_g := mem_g (List.mem_of_getElem? (i := 590) (by decide +kernel)) (by decide +kernel)
theorem kX1_50 : Cond.methodLink RX1 50 yX1_cost ∈ lw_g := mem_g (List.mem_of_getElem? (i := 594) (by decide +kernel)) (by decide +kernel)
theorem kX1_58 : Cond.methodLink RX1 58 yJ9_abs_0f7a4 ∈ lw_g := mem_g (List.mem_of_getElem? (i := 597) (by decide +kernel)) (by decide +kernel)
theorem kX1_64 : Cond.methodLink RX1 64 yJ9_max_7cf53 ∈ lw_g := mem_g (List.mem_of_getElem? (i := 600) (by decide +kernel)) (by decide +kernel)
theorem kX1_54 : Cond.methodLink RX1 54 yX1_change ∈ lw_g := mem_g (List.mem_of_getElem? (i := 601) (by decide +kernel)) (by decide +kernel)
theorem kL_93 : Cond.methodLink RL 93 yX6_kind ∈ lw_g := mem_g (List.mem_of_getElem? (i := 605) (by decide +kernel)) (by decide +kernel)
theorem kX6_216 : Cond.methodLink RX6 216 yX5_read ∈ lw_g := mem_g (List.mem_of_getElem? (i := 609) (by decide +kernel)) (by decide +kernel)
theorem kX6_219 : Cond.methodLink RX6 219 yX5_kindOf ∈ lw_g := mem_g (List.mem_of_getElem? (i := 613) (by decide +kernel)) (by decide +kernel)
theorem kX5_28 : Cond.methodLink RX5 28 yJ7_fill_53178 ∈ lw_g := mem_g (List.mem_of_getElem? (i := 617) (by decide +kernel)) (by decide +kernel)
theorem kL_97 : Cond.methodLink RL 97 yX6_roots ∈ lw_g := mem_g (List.mem_of_getElem? (i := 618) (by decide +kernel)) (by decide +kernel)
theorem kX6_222 : Cond.methodLink RX6 222 yX5_rootCount ∈ lw_g := mem_g (List.mem_of_getElem? (i := 622) (by decide +kernel)) (by decide +kernel)
theorem kX5_34 : Cond.methodLink RX5 34 yX5_countLines ∈ lw_g := mem_g (List.mem_of_getElem? (i := 626) (by decide +kernel)) (by decide +kernel)
theorem kX5_37 : Cond.methodLink RX5 37 yX5_branchPost ∈ lw_g := mem_g (List.mem_of_getElem? (i := 630) (by decide +kernel)) (by decide +kernel)
theorem kX5_41 : Cond.methodLink RX5 41 yX5_endsBeside ∈ lw_g := mem_g (List.mem_of_getElem? (i := 634) (by decide +kernel)) (by decide +kernel)
theorem kL_101 : Cond.methodLink RL 101 yX6_count ∈ lw_g := mem_g (List.mem_of_getElem? (i := 638) (by decide +kernel)) (by decide +kernel)
theorem kL_9 : Cond.methodLink RL 9 yL_cell ∈ lw_g := mem_g (List.mem_of_getElem? (i := 642) (by decide +kernel)) (by decide +kernel)
theorem kL_20 : Cond.methodLink RL 20 yX7_init ∈ lw_g := mem_g (List.mem_of_getElem? (i := 647) (by decide +kernel)) (by decide +kernel)
theorem kX7_3 : Cond.methodLink RX7 3 Lib.objectInit ∈ lw_g := mem_g (List.mem_of_getElem? (i := 650) (by decide +kernel)) (by decide +kernel)
theorem fX7_77 : Cond.fieldLink RX7 77 "SpanLoomModel" "PRIMES" "[I" ∈ lw_g := mem_g (List.mem_of_getElem? (i := 656) (by decide +kernel)) (by decide +kernel)
theorem kX7_84 : Cond.methodLink RX7 84 yJ9_min_7cf53 ∈ lw_g := mem_g (List.mem_of_getElem? (i := 658) (by decide +kernel)) (by decide +kernel)
theorem kX7_90 : Cond.methodLink RX7 90 yJ9_max_7cf53 ∈ lw_g := mem_g (List.mem_of_getElem? (i := 659) (by decide +kernel)) (by decide +kernel)
theorem fX7_80 : FL RX7 80 7 0 := ⟨_, rfl, by decide, mem_g (List.mem_of_getElem? (i := 660) (by decide +kernel)) (by decide +kernel)⟩
theorem pX7_80 : FP RX7 80 7 0 true (.int) := ⟨_, rfl, by decide, mem_g (List.mem_of_getElem? (i := 660) (by decide +kernel)) (by decide +kernel), rfl, rfl, rfl⟩
theorem fX7_93 : FL RX7 93 7 1 := ⟨_, rfl, by decide, mem_g (List.mem_of_getElem? (i := 661) (by decide +kernel)) (by decide +kernel)⟩
theorem pX7_93 : FP RX7 93 7 1 true (.int) := ⟨_, rfl, by decide, mem_g (List.mem_of_getElem? (i := 661) (by decide +kernel)) (by decide +kernel), rfl, rfl, rfl⟩
theorem fX7_9 : FL RX7 9 7 2 := ⟨_, rfl, by decide, mem_g (List.mem_of_getElem? (i := 662) (by decide +kernel)) (by decide +kernel)⟩
theorem pX7_9 : FP RX7 9 7 2 true (.array .int) := ⟨_, rfl, by decide, mem_g (List.mem_of_getElem? (i := 662) (by decide +kernel)) (by decide +kernel), rfl, rfl, rfl⟩
theorem fX7_13 : FL RX7 13 7 3 := ⟨_, rfl, by decide, mem_g (List.mem_of_getElem? (i := 663) (by decide +kernel)) (by decide +kernel)⟩
theorem pX7_13 : FP RX7 13 7 3 true (.array .int) := ⟨_, rfl, by decide, mem_g (List.mem_of_getElem? (i := 663) (by decide +kernel)) (by decide +kernel), rfl, rfl, rfl⟩
theorem fX7_16 : FL RX7 16 7 4 := ⟨_, rfl, by decide, mem_g (List.mem_of_getElem? (i := 664) (by decide +kernel)) (by decide +kernel)⟩
theorem pX7_16 : FP RX7 16 7 4 true (.array .int) := ⟨_, rfl, by decide, mem_g (List.mem_of_getElem? (i := 664) (by decide +kernel)) (by decide +kernel), rfl, rfl, rfl⟩
theorem fX7_19 : FL RX7 19 7 5 := ⟨_, rfl, by decide, mem_g (List.mem_of_getElem? (i := 665) (by decide +kernel)) (by decide +kernel)⟩
theorem pX7_19 : FP RX7 19 7 5 true (.array .int) := ⟨_, rfl, by decide, mem_g (List.mem_of_getElem? (i := 665) (by decide +kernel)) (by decide +kernel), rfl, rfl, rfl⟩
theorem fX7_22 : FL RX7 22 7 6 := ⟨_, rfl, by decide, mem_g (List.mem_of_getElem? (i := 666) (by decide +kernel)) (by decide +kernel)⟩
theorem pX7_22 : FP RX7 22 7 6 true (.array .int) := ⟨_, rfl, by decide, mem_g (List.mem_of_getElem? (i := 666) (by decide +kernel)) (by decide +kernel), rfl, rfl, rfl⟩
theorem fX7_27 : FL RX7 27 7 7 := ⟨_, rfl, by decide, mem_g (List.mem_of_getElem? (i := 667) (by decide +kernel)) (by decide +kernel)⟩
theorem pX7_27 : FP RX7 27 7 7 true (.array (.array .int)) := ⟨_, rfl, by decide, mem_g (List.mem_of_getElem? (i := 667) (by decide +kernel)) (by decide +kernel), rfl, rfl, rfl⟩
theorem fX7_30 : FL RX7 30 7 8 := ⟨_, rfl, by decide, mem_g (List.mem_of_getElem? (i := 668) (by decide +kernel)) (by decide +kernel)⟩
theorem pX7_30 : FP RX7 30 7 8 true (.array .int) := ⟨_, rfl, by decide, mem_g (List.mem_of_getElem? (i := 668) (by decide +kernel)) (by decide +kernel), rfl, rfl, rfl⟩
theorem fX7_146 : FL RX7 146 7 9 := ⟨_, rfl, by decide, mem_g (List.mem_of_getElem? (i := 669) (by decide +kernel)) (by decide +kernel)⟩
theorem pX7_146 : FP RX7 146 7 9 false (.int) := ⟨_, rfl, by decide, mem_g (List.mem_of_getElem? (i := 669) (by decide +kernel)) (by decide +kernel), rfl, rfl, rfl⟩
theorem fX7_149 : FL RX7 149 7 10 := ⟨_, rfl, by decide, mem_g (List.mem_of_getElem? (i := 670) (by decide +kernel)) (by decide +kernel)⟩
theorem pX7_149 : FP RX7 149 7 10 false (.int) := ⟨_, rfl, by decide, mem_g (List.mem_of_getElem? (i := 670) (by decide +kernel)) (by decide +kernel), rfl, rfl, rfl⟩
theorem fX7_33 : FL RX7 33 7 11 := ⟨_, rfl, by decide, mem_g (List.mem_of_getElem? (i := 671) (by decide +kernel)) (by decide +kernel)⟩
theorem pX7_33 : FP RX7 33 7 11 true (.array .int) := ⟨_, rfl, by decide, mem_g (List.mem_of_getElem? (i := 671) (by decide +kernel)) (by decide +kernel), rfl, rfl, rfl⟩
theorem fX7_36 : FL RX7 36 7 12 := ⟨_, rfl, by decide, mem_g (List.mem_of_getElem? (i := 672) (by decide +kernel)) (by decide +kernel)⟩
theorem pX7_36 : FP RX7 36 7 12 true (.array .int) := ⟨_, rfl, by decide, mem_g (List.mem_of_getElem? (i := 672) (by decide +kernel)) (by decide +kernel), rfl, rfl, rfl⟩
theorem fX7_39 : FL RX7 39 7 13 := ⟨_, rfl, by decide, mem_g (List.mem_of_getElem? (i := 673) (by decide +kernel)) (by decide +kernel)⟩
theorem pX7_39 : FP RX7 39 7 13 true (.array (.array .int)) := ⟨_, rfl, by decide, mem_g (List.mem_of_getElem? (i := 673) (by decide +kernel)) (by decide +kernel), rfl, rfl, rfl⟩
theorem fX7_42 : FL RX7 42 7 14 := ⟨_, rfl, by decide, mem_g (List.mem_of_getElem? (i := 674) (by decide +kernel)) (by decide +kernel)⟩
theorem pX7_42 : FP RX7 42 7 14 true (.array .int) := ⟨_, rfl, by decide, mem_g (List.mem_of_getElem? (i := 674) (by decide +kernel)) (by decide +kernel), rfl, rfl, rfl⟩
theorem fX7_45 : FL RX7 45 7 15 := ⟨_, rfl, by decide, mem_g (List.mem_of_getElem? (i := 675) (by decide +kernel)) (by decide +kernel)⟩
theorem pX7_45 : FP RX7 45 7 15 true (.array .int) := ⟨_, rfl, by decide, mem_g (List.mem_of_getElem? (i := 675) (by decide +kernel)) (by decide +kernel), rfl, rfl, rfl⟩
theorem fX7_48 : FL RX7 48 7 16 := ⟨_, rfl, by decide, mem_g (List.mem_of_getElem? (i := 676) (by decide +kernel)) (by decide +kernel)⟩
theorem pX7_48 : FP RX7 48 7 16 true (.array .int) := ⟨_, rfl, by decide, mem_g (List.mem_of_getElem? (i := 676) (by decide +kernel)) (by decide +kernel), rfl, rfl, rfl⟩
theorem fX7_51 : FL RX7 51 7 17 := ⟨_, rfl, by decide, mem_g (List.mem_of_getElem? (i := 677) (by decide +kernel)) (by decide +kernel)⟩
theorem pX7_51 : FP RX7 51 7 17 true (.array .int) := ⟨_, rfl, by decide, mem_g (List.mem_of_getElem? (i := 677) (by decide +kernel)) (by decide +kernel), rfl, rfl, rfl⟩
theorem fX7_54 : FL RX7 54 7 18 := ⟨_, rfl, by decide, mem_g (List.mem_of_getElem? (i := 678) (by decide +kernel)) (by decide +kernel)⟩
theorem pX7_54 : FP RX7 54 7 18 true (.array .int) := ⟨_, rfl, by decide, mem_g (List.mem_of_getElem? (i := 678) (by decide +kernel)) (by decide +kernel), rfl, rfl, rfl⟩
theorem fX7_57 : FL RX7 57 7 19 := ⟨_, rfl, by decide, mem_g (List.mem_of_getElem? (i := 679) (by decide +kernel)) (by decide +kernel)⟩
theorem pX7_57 : FP RX7 57 7 19 true (.array .int) := ⟨_, rfl, by decide, mem_g (List.mem_of_getElem? (i := 679) (by decide +kernel)) (by decide +kernel), rfl, rfl, rfl⟩
theorem fX7_60 : FL RX7 60 7 20 := ⟨_, rfl, by decide, mem_g (List.mem_of_getElem? (i := 680) (by decide +kernel)) (by decide +kernel)⟩
theorem pX7_60 : FP RX7 60 7 20 true (.array .boolean) := ⟨_, rfl, by decide, mem_g (List.mem_of_getElem? (i := 680) (by decide +kernel)) (by decide +kernel), rfl, rfl, rfl⟩
theorem fX7_66 : FL RX7 66 7 21 := ⟨_, rfl, by decide, mem_g (List.mem_of_getElem? (i := 681) (by decide +kernel)) (by decide +kernel)⟩
theorem pX7_66 : FP RX7 66 7 21 true (.array (.array .long)) := ⟨_, rfl, by decide, mem_g (List.mem_of_getElem? (i := 681) (by decide +kernel)) (by decide +kernel), rfl, rfl, rfl⟩
theorem fX7_69 : FL RX7 69 7 22 := ⟨_, rfl, by decide, mem_g (List.mem_of_getElem? (i := 682) (by decide +kernel)) (by decide +kernel)⟩
theorem pX7_69 : FP RX7 69 7 22 true (.array .int) := ⟨_, rfl, by decide, mem_g (List.mem_of_getElem? (i := 682) (by decide +kernel)) (by decide +kernel), rfl, rfl, rfl⟩
theorem fX7_74 : FL RX7 74 7 23 := ⟨_, rfl, by decide, mem_g (List.mem_of_getElem? (i := 683) (by decide +kernel)) (by decide +kernel)⟩
theorem pX7_74 : FP RX7 74 7 23 true (.array (.array .byte)) := ⟨_, rfl, by decide, mem_g (List.mem_of_getElem? (i := 683) (by decide +kernel)) (by decide +kernel), rfl, rfl, rfl⟩
theorem kL_25 : Cond.methodLink RL 25 yX7_lay ∈ lw_g := mem_g (List.mem_of_getElem? (i := 736) (by decide +kernel)) (by decide +kernel)
theorem kX7_104 : Cond.methodLink RX7 104 yX7_isLaying ∈ lw_g := mem_g (List.mem_of_getElem? (i := 740) (by decide +kernel)) (by decide +kernel)
theorem kX7_96 : Cond.methodLink RX7 96 yX7_in ∈ lw_g := mem_g (List.mem_of_getElem? (i := 743) (by decide +kernel)) (by decide +kernel)
theorem kX7_108 : Cond.methodLink RX7 108 yX7_areWays ∈ lw_g := mem_g (List.mem_of_getElem? (i := 746) (by decide +kernel)) (by decide +kernel)
theorem kX7_111 : Cond.methodLink RX7 111 yX7_clear ∈ lw_g := mem_g (List.mem_of_getElem? (i := 750) (by decide +kernel)) (by decide +kernel)
theorem kL_30 : Cond.methodLink RL 30 yX7_set ∈ lw_g := mem_g (List.mem_of_getElem? (i := 754) (by decide +kernel)) (by decide +kernel)
theorem kX7_124 : Cond.methodLink RX7 124 yX7_isCell ∈ lw_g := mem_g (List.mem_of_getElem? (i := 758) (by decide +kernel)) (by decide +kernel)
theorem kX7_115 : Cond.methodLink RX7 115 yX7_target ∈ lw_g := mem_g (List.mem_of_getElem? (i := 762) (by decide +kernel)) (by decide +kernel)
theorem kX7_100 : Cond.methodLink RX7 100 yX7_isLeft ∈ lw_g := mem_g (List.mem_of_getElem? (i := 766) (by decide +kernel)) (by decide +kernel)
theorem kX7_118 : Cond.methodLink RX7 118 yX7_at ∈ lw_g := mem_g (List.mem_of_getElem? (i := 770) (by decide +kernel)) (by decide +kernel)
theorem kX7_121 : Cond.methodLink RX7 121 yX7_source ∈ lw_g := mem_g (List.mem_of_getElem? (i := 774) (by decide +kernel)) (by decide +kernel)
theorem kX7_128 : Cond.methodLink RX7 128 yX7_cell ∈ lw_g := mem_g (List.mem_of_getElem? (i := 778) (by decide +kernel)) (by decide +kernel)
theorem kX7_132 : Cond.methodLink RX7 132 yX7_rest ∈ lw_g := mem_g (List.mem_of_getElem? (i := 781) (by decide +kernel)) (by decide +kernel)
theorem kL_35 : Cond.methodLink RL 35 yX7_get ∈ lw_g := mem_g (List.mem_of_getElem? (i := 785) (by decide +kernel)) (by decide +kernel)
theorem kL_40 : Cond.methodLink RL 40 yX7_size ∈ lw_g := mem_g (List.mem_of_getElem? (i := 789) (by decide +kernel)) (by decide +kernel)
theorem kX7_136 : Cond.methodLink RX7 136 yX7_isPost ∈ lw_g := mem_g (List.mem_of_getElem? (i := 793) (by decide +kernel)) (by decide +kernel)
theorem kL_45 : Cond.methodLink RL 45 yX7_ways ∈ lw_g := mem_g (List.mem_of_getElem? (i := 797) (by decide +kernel)) (by decide +kernel)
theorem kL_50 : Cond.methodLink RL 50 yX7_span ∈ lw_g := mem_g (List.mem_of_getElem? (i := 801) (by decide +kernel)) (by decide +kernel)
theorem kL_54 : Cond.methodLink RL 54 yX7_beside ∈ lw_g := mem_g (List.mem_of_getElem? (i := 805) (by decide +kernel)) (by decide +kernel)
theorem kX7_139 : Cond.methodLink RX7 139 yX7_copies ∈ lw_g := mem_g (List.mem_of_getElem? (i := 809) (by decide +kernel)) (by decide +kernel)
theorem kX7_143 : Cond.methodLink RX7 143 yX7_becomes ∈ lw_g := mem_g (List.mem_of_getElem? (i := 813) (by decide +kernel)) (by decide +kernel)
theorem kL_58 : Cond.methodLink RL 58 yX7_mix ∈ lw_g := mem_g (List.mem_of_getElem? (i := 817) (by decide +kernel)) (by decide +kernel)
theorem kL_63 : Cond.methodLink RL 63 yX7_turn ∈ lw_g := mem_g (List.mem_of_getElem? (i := 821) (by decide +kernel)) (by decide +kernel)
theorem kX7_155 : Cond.methodLink RX7 155 yX7_begin ∈ lw_g := mem_g (List.mem_of_getElem? (i := 825) (by decide +kernel)) (by decide +kernel)
theorem kX7_158 : Cond.methodLink RX7 158 yX7_newRow ∈ lw_g := mem_g (List.mem_of_getElem? (i := 829) (by decide +kernel)) (by decide +kernel)
theorem kX7_162 : Cond.methodLink RX7 162 yX7_reduce ∈ lw_g := mem_g (List.mem_of_getElem? (i := 833) (by decide +kernel)) (by decide +kernel)
theorem kX7_152 : Cond.methodLink RX7 152 yX7_inverse ∈ lw_g := mem_g (List.mem_of_getElem? (i := 837) (by decide +kernel)) (by decide +kernel)
theorem kX7_166 : Cond.methodLink RX7 166 yX7_isLead ∈ lw_g := mem_g (List.mem_of_getElem? (i := 841) (by decide +kernel)) (by decide +kernel)
theorem kL_67 : Cond.methodLink RL 67 yX7_maps ∈ lw_g := mem_g (List.mem_of_getElem? (i := 845) (by decide +kernel)) (by decide +kernel)
theorem kX7_169 : Cond.methodLink RX7 169 yX7_areAlong ∈ lw_g := mem_g (List.mem_of_getElem? (i := 849) (by decide +kernel)) (by decide +kernel)
theorem kL_75 : Cond.methodLink RL 75 yX7_form ∈ lw_g := mem_g (List.mem_of_getElem? (i := 853) (by decide +kernel)) (by decide +kernel)
theorem kL_71 : Cond.methodLink RL 71 yX7_bends ∈ lw_g := mem_g (List.mem_of_getElem? (i := 857) (by decide +kernel)) (by decide +kernel)
theorem kX7_172 : Cond.methodLink RX7 172 yX7_maps ∈ lw_g := mem_g (List.mem_of_getElem? (i := 861) (by decide +kernel)) (by decide +kernel)
theorem kX7_175 : Cond.methodLink RX7 175 yX7_form ∈ lw_g := mem_g (List.mem_of_getElem? (i := 862) (by decide +kernel)) (by decide +kernel)
theorem kL_79 : Cond.methodLink RL 79 yX7_spans ∈ lw_g := mem_g (List.mem_of_getElem? (i := 863) (by decide +kernel)) (by decide +kernel)
theorem kX7_184 : Cond.methodLink RX7 184 yX7_times ∈ lw_g := mem_g (List.mem_of_getElem? (i := 867) (by decide +kernel)) (by decide +kernel)
theorem kX7_181 : Cond.methodLink RX7 181 yX7_through ∈ lw_g := mem_g (List.mem_of_getElem? (i := 871) (by decide +kernel)) (by decide +kernel)
theorem kX7_178 : Cond.methodLink RX7 178 yX7_same ∈ lw_g := mem_g (List.mem_of_getElem? (i := 875) (by decide +kernel)) (by decide +kernel)
theorem kL_84 : Cond.methodLink RL 84 yX7_like ∈ lw_g := mem_g (List.mem_of_getElem? (i := 879) (by decide +kernel)) (by decide +kernel)
theorem kL_88 : Cond.methodLink RL 88 yX7_rank ∈ lw_g := mem_g (List.mem_of_getElem? (i := 883) (by decide +kernel)) (by decide +kernel)
theorem kL_92 : Cond.methodLink RL 92 yX7_far ∈ lw_g := mem_g (List.mem_of_getElem? (i := 887) (by decide +kernel)) (by decide +kernel)
theorem kX7_196 : Cond.methodLink RX7 196 yX7_list ∈ lw_g := mem_g (List.mem_of_getElem? (i := 891) (by decide +kernel)) (by decide +kernel)
theorem kX7_199 : Cond.methodLink RX7 199 yX7_isCovered ∈ lw_g := mem_g (List.mem_of_getElem? (i := 895) (by decide +kernel)) (by decide +kernel)
theorem kX7_193 : Cond.methodLink RX7 193 yX7_finds ∈ lw_g := mem_g (List.mem_of_getElem? (i := 899) (by decide +kernel)) (by decide +kernel)
theorem kX7_190 : Cond.methodLink RX7 190 yX7_cost ∈ lw_g := mem_g (List.mem_of_getElem? (i := 903) (by decide +kernel)) (by decide +kernel)
theorem kX7_187 : Cond.methodLink RX7 187 yJ9_abs_0f7a4 ∈ lw_g := mem_g (List.mem_of_getElem? (i := 907) (by decide +kernel)) (by decide +kernel)
theorem kL_96 : Cond.methodLink RL 96 yX7_kind ∈ lw_g := mem_g (List.mem_of_getElem? (i := 908) (by decide +kernel)) (by decide +kernel)
theorem kX7_210 : Cond.methodLink RX7 210 yX7_isTree ∈ lw_g := mem_g (List.mem_of_getElem? (i := 912) (by decide +kernel)) (by decide +kernel)
theorem kX7_213 : Cond.methodLink RX7 213 yX7_determinant ∈ lw_g := mem_g (List.mem_of_getElem? (i := 916) (by decide +kernel)) (by decide +kernel)
theorem kX7_206 : Cond.methodLink RX7 206 yX7_twice ∈ lw_g := mem_g (List.mem_of_getElem? (i := 920) (by decide +kernel)) (by decide +kernel)
theorem kL_100 : Cond.methodLink RL 100 yX7_roots ∈ lw_g := mem_g (List.mem_of_getElem? (i := 925) (by decide +kernel)) (by decide +kernel)
theorem kX7_217 : Cond.methodLink RX7 217 yX7_kind ∈ lw_g := mem_g (List.mem_of_getElem? (i := 929) (by decide +kernel)) (by decide +kernel)
theorem kX7_220 : Cond.methodLink RX7 220 yX7_value ∈ lw_g := mem_g (List.mem_of_getElem? (i := 930) (by decide +kernel)) (by decide +kernel)
theorem kX7_224 : Cond.methodLink RX7 224 yX7_isFound ∈ lw_g := mem_g (List.mem_of_getElem? (i := 934) (by decide +kernel)) (by decide +kernel)
theorem kX7_228 : Cond.methodLink RX7 228 yX7_isBehind ∈ lw_g := mem_g (List.mem_of_getElem? (i := 938) (by decide +kernel)) (by decide +kernel)
theorem kL_104 : Cond.methodLink RL 104 yX7_count ∈ lw_g := mem_g (List.mem_of_getElem? (i := 942) (by decide +kernel)) (by decide +kernel)
theorem nL_7 : NW RL 7 6 10 := ⟨_, rfl, rfl, mem_g (List.mem_of_getElem? (i := 74) (by decide +kernel)) (by decide +kernel), mem_g (List.mem_of_getElem? (i := 75) (by decide +kernel)) (by decide +kernel), ci_X6⟩
theorem nX6_29 : NW RX6 29 0 3 := ⟨_, rfl, rfl, mem_g (List.mem_of_getElem? (i := 93) (by decide +kernel)) (by decide +kernel), mem_g (List.mem_of_getElem? (i := 95) (by decide +kernel)) (by decide +kernel), ci_X0⟩
theorem naX6_29 : Cond.classLink RX6 29 "SpanLoom$Laying" ∈ lw_g := mem_g (List.mem_of_getElem? (i := 93) (by decide +kernel)) (by decide +kernel)
theorem nX6_40 : NW RX6 40 3 5 := ⟨_, rfl, rfl, mem_g (List.mem_of_getElem? (i := 114) (by decide +kernel)) (by decide +kernel), mem_g (List.mem_of_getElem? (i := 115) (by decide +kernel)) (by decide +kernel), ci_X3⟩
theorem nX3_9 : Cond.classLink RX3 9 "[[I" ∈ lw_g := mem_g (List.mem_of_getElem? (i := 120) (by decide +kernel)) (by decide +kernel)
theorem nX6_49 : NW RX6 49 2 7 := ⟨_, rfl, rfl, mem_g (List.mem_of_getElem? (i := 141) (by decide +kernel)) (by decide +kernel), mem_g (List.mem_of_getElem? (i := 142) (by decide +kernel)) (by decide +kernel), ci_X2⟩
theorem nX2_9 : Cond.classLink RX2 9 "[[I" ∈ lw_g := mem_g (List.mem_of_getElem? (i := 147) (by decide +kernel)) (by decide +kernel)
theorem nX2_23 : NW RX2 23 3 5 := ⟨_, rfl, rfl, mem_g (List.mem_of_getElem? (i := 148) (by decide +kernel)) (by decide +kernel), mem_g (List.mem_of_getElem? (i := 115) (by decide +kernel)) (by decide +kernel), ci_X3⟩
theorem nX6_58 : NW RX6 58 4 3 := ⟨_, rfl, rfl, mem_g (List.mem_of_getElem? (i := 172) (by decide +kernel)) (by decide +kernel), mem_g (List.mem_of_getElem? (i := 173) (by decide +kernel)) (by decide +kernel), ci_X4⟩
theorem nX6_68 : NW RX6 68 1 4 := ⟨_, rfl, rfl, mem_g (List.mem_of_getElem? (i := 194) (by decide +kernel)) (by decide +kernel), mem_g (List.mem_of_getElem? (i := 195) (by decide +kernel)) (by decide +kernel), ci_X1⟩
theorem nX6_75 : NW RX6 75 5 5 := ⟨_, rfl, rfl, mem_g (List.mem_of_getElem? (i := 213) (by decide +kernel)) (by decide +kernel), mem_g (List.mem_of_getElem? (i := 214) (by decide +kernel)) (by decide +kernel), ci_X5⟩
theorem nL_18 : NW RL 18 7 24 := ⟨_, rfl, rfl, mem_g (List.mem_of_getElem? (i := 645) (by decide +kernel)) (by decide +kernel), mem_g (List.mem_of_getElem? (i := 646) (by decide +kernel)) (by decide +kernel), ci_X7⟩
theorem nX7_25 : Cond.classLink RX7 25 "[[I" ∈ lw_g := mem_g (List.mem_of_getElem? (i := 651) (by decide +kernel)) (by decide +kernel)
theorem nX7_64 : Cond.classLink RX7 64 "[[J" ∈ lw_g := mem_g (List.mem_of_getElem? (i := 652) (by decide +kernel)) (by decide +kernel)
theorem nX7_72 : Cond.classLink RX7 72 "[[B" ∈ lw_g := mem_g (List.mem_of_getElem? (i := 654) (by decide +kernel)) (by decide +kernel)
theorem lcX7_202 : Cond.constantLong RX7 202 (Int64.ofInt (2)) ∈ lw_g := mem_g (List.mem_of_getElem? (i := 923) (by decide +kernel)) (by decide +kernel)
theorem lcX7_204 : Cond.constantLong RX7 204 (Int64.ofInt (-1)) ∈ lw_g := mem_g (List.mem_of_getElem? (i := 924) (by decide +kernel)) (by decide +kernel)
