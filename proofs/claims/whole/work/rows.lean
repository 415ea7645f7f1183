section
/-- a private method of a class that the tables say can be made, by its rows of tables_1 -/
def lw_okq (q : MethodName × Nat) : Prop := (q.1.cls ≠ "java/lang/invoke/MethodHandle" ∧ q.1.cls ≠ "java/lang/invoke/VarHandle") ∧ Cond.instantiable q.1.cls q.2 ∈ tables_1 ∧ Cond.privateMethod q.1 ∈ tables_1 ∧ Cond.instanceMethod q.1 ∈ tables_1
theorem lw_p0 : lw_okq (⟨"SpanLoom", "isLaying", "(I)Z"⟩, 10) := ⟨⟨by decide +kernel, by decide +kernel⟩, List.mem_of_getElem? (i := 13) (by decide +kernel), List.mem_of_getElem? (i := 209) (by decide +kernel), List.mem_of_getElem? (i := 210) (by decide +kernel)⟩
theorem lw_p1 : lw_okq (⟨"SpanLoom", "areWays", "(I)Z"⟩, 10) := ⟨⟨by decide +kernel, by decide +kernel⟩, List.mem_of_getElem? (i := 13) (by decide +kernel), List.mem_of_getElem? (i := 216) (by decide +kernel), List.mem_of_getElem? (i := 217) (by decide +kernel)⟩
theorem lw_p2 : lw_okq (⟨"SpanLoom", "areSizes", "(I)Z"⟩, 10) := ⟨⟨by decide +kernel, by decide +kernel⟩, List.mem_of_getElem? (i := 13) (by decide +kernel), List.mem_of_getElem? (i := 220) (by decide +kernel), List.mem_of_getElem? (i := 221) (by decide +kernel)⟩
theorem lw_p3 : lw_okq (⟨"SpanLoom", "isCell", "(IIII)Z"⟩, 10) := ⟨⟨by decide +kernel, by decide +kernel⟩, List.mem_of_getElem? (i := 13) (by decide +kernel), List.mem_of_getElem? (i := 238) (by decide +kernel), List.mem_of_getElem? (i := 239) (by decide +kernel)⟩
theorem lw_p4 : lw_okq (⟨"SpanLoom", "isArrow", "(I)Z"⟩, 10) := ⟨⟨by decide +kernel, by decide +kernel⟩, List.mem_of_getElem? (i := 13) (by decide +kernel), List.mem_of_getElem? (i := 242) (by decide +kernel), List.mem_of_getElem? (i := 243) (by decide +kernel)⟩
theorem lw_p5 : lw_okq (⟨"SpanLoom", "isPost", "(I)Z"⟩, 10) := ⟨⟨by decide +kernel, by decide +kernel⟩, List.mem_of_getElem? (i := 13) (by decide +kernel), List.mem_of_getElem? (i := 285) (by decide +kernel), List.mem_of_getElem? (i := 286) (by decide +kernel)⟩
theorem lw_p6 : lw_okq (⟨"SpanLoom", "isSpan", "(II)Z"⟩, 10) := ⟨⟨by decide +kernel, by decide +kernel⟩, List.mem_of_getElem? (i := 13) (by decide +kernel), List.mem_of_getElem? (i := 297) (by decide +kernel), List.mem_of_getElem? (i := 298) (by decide +kernel)⟩
theorem lw_p7 : lw_okq (⟨"SpanLoom", "haveSameWays", "(II)Z"⟩, 10) := ⟨⟨by decide +kernel, by decide +kernel⟩, List.mem_of_getElem? (i := 13) (by decide +kernel), List.mem_of_getElem? (i := 305) (by decide +kernel), List.mem_of_getElem? (i := 306) (by decide +kernel)⟩
theorem lw_p8 : lw_okq (⟨"SpanLoom", "fitBeside", "(LSpanLoom$Laying;LSpanLoom$Laying;)Z"⟩, 10) := ⟨⟨by decide +kernel, by decide +kernel⟩, List.mem_of_getElem? (i := 13) (by decide +kernel), List.mem_of_getElem? (i := 309) (by decide +kernel), List.mem_of_getElem? (i := 310) (by decide +kernel)⟩
theorem lw_p9 : lw_okq (⟨"SpanLoom", "addRow", "(LSpanLoom$Laying;IIII)V"⟩, 10) := ⟨⟨by decide +kernel, by decide +kernel⟩, List.mem_of_getElem? (i := 13) (by decide +kernel), List.mem_of_getElem? (i := 333) (by decide +kernel), List.mem_of_getElem? (i := 334) (by decide +kernel)⟩
theorem lw_p10 : lw_okq (⟨"SpanLoom", "addColumn", "(LSpanLoom$Laying;IIII)V"⟩, 10) := ⟨⟨by decide +kernel, by decide +kernel⟩, List.mem_of_getElem? (i := 13) (by decide +kernel), List.mem_of_getElem? (i := 337) (by decide +kernel), List.mem_of_getElem? (i := 338) (by decide +kernel)⟩
theorem lw_p11 : lw_okq (⟨"SpanLoom", "isTurning", "(LSpanLoom$Laying;I)Z"⟩, 10) := ⟨⟨by decide +kernel, by decide +kernel⟩, List.mem_of_getElem? (i := 13) (by decide +kernel), List.mem_of_getElem? (i := 345) (by decide +kernel), List.mem_of_getElem? (i := 346) (by decide +kernel)⟩
theorem lw_p12 : lw_okq (⟨"SpanLoom", "gatherBeside", "(LSpanLoom$Laying;IZ)V"⟩, 10) := ⟨⟨by decide +kernel, by decide +kernel⟩, List.mem_of_getElem? (i := 13) (by decide +kernel), List.mem_of_getElem? (i := 350) (by decide +kernel), List.mem_of_getElem? (i := 351) (by decide +kernel)⟩
theorem lw_p13 : lw_okq (⟨"SpanLoom$Rows", "rowWithNumber", "(II)I"⟩, 5) := ⟨⟨by decide +kernel, by decide +kernel⟩, List.mem_of_getElem? (i := 53) (by decide +kernel), List.mem_of_getElem? (i := 372) (by decide +kernel), List.mem_of_getElem? (i := 373) (by decide +kernel)⟩
theorem lw_p14 : lw_okq (⟨"SpanLoom$Rows", "swap", "(II)V"⟩, 5) := ⟨⟨by decide +kernel, by decide +kernel⟩, List.mem_of_getElem? (i := 53) (by decide +kernel), List.mem_of_getElem? (i := 376) (by decide +kernel), List.mem_of_getElem? (i := 377) (by decide +kernel)⟩
theorem lw_p15 : lw_okq (⟨"SpanLoom$Rows", "inverse", "(I)I"⟩, 5) := ⟨⟨by decide +kernel, by decide +kernel⟩, List.mem_of_getElem? (i := 53) (by decide +kernel), List.mem_of_getElem? (i := 380) (by decide +kernel), List.mem_of_getElem? (i := 381) (by decide +kernel)⟩
def lw_privs_1 : List (MethodName × Nat) := [(⟨"SpanLoom", "isLaying", "(I)Z"⟩, 10), (⟨"SpanLoom", "areWays", "(I)Z"⟩, 10), (⟨"SpanLoom", "areSizes", "(I)Z"⟩, 10), (⟨"SpanLoom", "isCell", "(IIII)Z"⟩, 10), (⟨"SpanLoom", "isArrow", "(I)Z"⟩, 10), (⟨"SpanLoom", "isPost", "(I)Z"⟩, 10), (⟨"SpanLoom", "isSpan", "(II)Z"⟩, 10), (⟨"SpanLoom", "haveSameWays", "(II)Z"⟩, 10), (⟨"SpanLoom", "fitBeside", "(LSpanLoom$Laying;LSpanLoom$Laying;)Z"⟩, 10), (⟨"SpanLoom", "addRow", "(LSpanLoom$Laying;IIII)V"⟩, 10), (⟨"SpanLoom", "addColumn", "(LSpanLoom$Laying;IIII)V"⟩, 10), (⟨"SpanLoom", "isTurning", "(LSpanLoom$Laying;I)Z"⟩, 10), (⟨"SpanLoom", "gatherBeside", "(LSpanLoom$Laying;IZ)V"⟩, 10), (⟨"SpanLoom$Rows", "rowWithNumber", "(II)I"⟩, 5), (⟨"SpanLoom$Rows", "swap", "(II)V"⟩, 5), (⟨"SpanLoom$Rows", "inverse", "(I)I"⟩, 5)]
theorem lw_r1 : ∀ q ∈ lw_privs_1, lw_okq q := List.forall_mem_cons.mpr ⟨lw_p0, List.forall_mem_cons.mpr ⟨lw_p1, List.forall_mem_cons.mpr ⟨lw_p2, List.forall_mem_cons.mpr ⟨lw_p3, List.forall_mem_cons.mpr ⟨lw_p4, List.forall_mem_cons.mpr ⟨lw_p5, List.forall_mem_cons.mpr ⟨lw_p6, List.forall_mem_cons.mpr ⟨lw_p7, List.forall_mem_cons.mpr ⟨lw_p8, List.forall_mem_cons.mpr ⟨lw_p9, List.forall_mem_cons.mpr ⟨lw_p10, List.forall_mem_cons.mpr ⟨lw_p11, List.forall_mem_cons.mpr ⟨lw_p12, List.forall_mem_cons.mpr ⟨lw_p13, List.forall_mem_cons.mpr ⟨lw_p14, List.forall_mem_cons.mpr ⟨lw_p15, fun _ h => absurd h List.not_mem_nil⟩⟩⟩⟩⟩⟩⟩⟩⟩⟩⟩⟩⟩⟩⟩⟩
theorem lw_p16 : lw_okq (⟨"SpanLoom$Rows", "scale", "(III)V"⟩, 5) := ⟨⟨by decide +kernel, by decide +kernel⟩, List.mem_of_getElem? (i := 53) (by decide +kernel), List.mem_of_getElem? (i := 384) (by decide +kernel), List.mem_of_getElem? (i := 385) (by decide +kernel)⟩
theorem lw_p17 : lw_okq (⟨"SpanLoom$Rows", "clearElsewhere", "(II)V"⟩, 5) := ⟨⟨by decide +kernel, by decide +kernel⟩, List.mem_of_getElem? (i := 53) (by decide +kernel), List.mem_of_getElem? (i := 388) (by decide +kernel), List.mem_of_getElem? (i := 389) (by decide +kernel)⟩
theorem lw_p18 : lw_okq (⟨"SpanLoom", "putTurned", "(IZII)V"⟩, 10) := ⟨⟨by decide +kernel, by decide +kernel⟩, List.mem_of_getElem? (i := 13) (by decide +kernel), List.mem_of_getElem? (i := 396) (by decide +kernel), List.mem_of_getElem? (i := 397) (by decide +kernel)⟩
theorem lw_p19 : lw_okq (⟨"SpanLoom$Parting", "coverFrom", "(LSpanLoom$Laying;II)V"⟩, 7) := ⟨⟨by decide +kernel, by decide +kernel⟩, List.mem_of_getElem? (i := 80) (by decide +kernel), List.mem_of_getElem? (i := 420) (by decide +kernel), List.mem_of_getElem? (i := 421) (by decide +kernel)⟩
theorem lw_p20 : lw_okq (⟨"SpanLoom$Parting", "lead", "(LSpanLoom$Laying;ILSpanLoom$Rows;)LSpanLoom$Rows;"⟩, 7) := ⟨⟨by decide +kernel, by decide +kernel⟩, List.mem_of_getElem? (i := 80) (by decide +kernel), List.mem_of_getElem? (i := 431) (by decide +kernel), List.mem_of_getElem? (i := 432) (by decide +kernel)⟩
theorem lw_p21 : lw_okq (⟨"SpanLoom$Parting", "findConditions", "(LSpanLoom$Laying;ILSpanLoom$Rows;)V"⟩, 7) := ⟨⟨by decide +kernel, by decide +kernel⟩, List.mem_of_getElem? (i := 80) (by decide +kernel), List.mem_of_getElem? (i := 436) (by decide +kernel), List.mem_of_getElem? (i := 437) (by decide +kernel)⟩
theorem lw_p22 : lw_okq (⟨"SpanLoom$Parting", "solveConditions", "(LSpanLoom$Rows;)V"⟩, 7) := ⟨⟨by decide +kernel, by decide +kernel⟩, List.mem_of_getElem? (i := 80) (by decide +kernel), List.mem_of_getElem? (i := 446) (by decide +kernel), List.mem_of_getElem? (i := 447) (by decide +kernel)⟩
theorem lw_p23 : lw_okq (⟨"SpanLoom$Parting", "leadAlong", "(LSpanLoom$Laying;ILSpanLoom$Rows;LSpanLoom$Rows;)V"⟩, 7) := ⟨⟨by decide +kernel, by decide +kernel⟩, List.mem_of_getElem? (i := 80) (by decide +kernel), List.mem_of_getElem? (i := 450) (by decide +kernel), List.mem_of_getElem? (i := 451) (by decide +kernel)⟩
theorem lw_p24 : lw_okq (⟨"SpanLoom$Parting", "timesByCovers", "(II)I"⟩, 7) := ⟨⟨by decide +kernel, by decide +kernel⟩, List.mem_of_getElem? (i := 80) (by decide +kernel), List.mem_of_getElem? (i := 462) (by decide +kernel), List.mem_of_getElem? (i := 463) (by decide +kernel)⟩
theorem lw_p25 : lw_okq (⟨"SpanLoom", "mapsOfSpans", "(LSpanLoom$Laying;)I"⟩, 10) := ⟨⟨by decide +kernel, by decide +kernel⟩, List.mem_of_getElem? (i := 13) (by decide +kernel), List.mem_of_getElem? (i := 470) (by decide +kernel), List.mem_of_getElem? (i := 471) (by decide +kernel)⟩
theorem lw_p26 : lw_okq (⟨"SpanLoom", "isMapped", "(LSpanLoom$Laying;II)Z"⟩, 10) := ⟨⟨by decide +kernel, by decide +kernel⟩, List.mem_of_getElem? (i := 13) (by decide +kernel), List.mem_of_getElem? (i := 474) (by decide +kernel), List.mem_of_getElem? (i := 475) (by decide +kernel)⟩
theorem lw_p27 : lw_okq (⟨"SpanLoom$Pairing", "canPair", "(LSpanLoom$Spans;LSpanLoom$Spans;I)Z"⟩, 4) := ⟨⟨by decide +kernel, by decide +kernel⟩, List.mem_of_getElem? (i := 133) (by decide +kernel), List.mem_of_getElem? (i := 524) (by decide +kernel), List.mem_of_getElem? (i := 525) (by decide +kernel)⟩
theorem lw_p28 : lw_okq (⟨"SpanLoom$Pairing", "pair", "(LSpanLoom$Spans;LSpanLoom$Spans;II)Z"⟩, 4) := ⟨⟨by decide +kernel, by decide +kernel⟩, List.mem_of_getElem? (i := 133) (by decide +kernel), List.mem_of_getElem? (i := 529) (by decide +kernel), List.mem_of_getElem? (i := 530) (by decide +kernel)⟩
theorem lw_p29 : lw_okq (⟨"SpanLoom$Pairing", "change", "(I)V"⟩, 4) := ⟨⟨by decide +kernel, by decide +kernel⟩, List.mem_of_getElem? (i := 133) (by decide +kernel), List.mem_of_getElem? (i := 540) (by decide +kernel), List.mem_of_getElem? (i := 541) (by decide +kernel)⟩
theorem lw_p30 : lw_okq (⟨"SpanLoom$Tree", "countLines", "()V"⟩, 5) := ⟨⟨by decide +kernel, by decide +kernel⟩, List.mem_of_getElem? (i := 152) (by decide +kernel), List.mem_of_getElem? (i := 565) (by decide +kernel), List.mem_of_getElem? (i := 566) (by decide +kernel)⟩
theorem lw_p31 : lw_okq (⟨"SpanLoom$Tree", "branchPost", "()I"⟩, 5) := ⟨⟨by decide +kernel, by decide +kernel⟩, List.mem_of_getElem? (i := 152) (by decide +kernel), List.mem_of_getElem? (i := 569) (by decide +kernel), List.mem_of_getElem? (i := 570) (by decide +kernel)⟩
def lw_privs_2 : List (MethodName × Nat) := [(⟨"SpanLoom$Rows", "scale", "(III)V"⟩, 5), (⟨"SpanLoom$Rows", "clearElsewhere", "(II)V"⟩, 5), (⟨"SpanLoom", "putTurned", "(IZII)V"⟩, 10), (⟨"SpanLoom$Parting", "coverFrom", "(LSpanLoom$Laying;II)V"⟩, 7), (⟨"SpanLoom$Parting", "lead", "(LSpanLoom$Laying;ILSpanLoom$Rows;)LSpanLoom$Rows;"⟩, 7), (⟨"SpanLoom$Parting", "findConditions", "(LSpanLoom$Laying;ILSpanLoom$Rows;)V"⟩, 7), (⟨"SpanLoom$Parting", "solveConditions", "(LSpanLoom$Rows;)V"⟩, 7), (⟨"SpanLoom$Parting", "leadAlong", "(LSpanLoom$Laying;ILSpanLoom$Rows;LSpanLoom$Rows;)V"⟩, 7), (⟨"SpanLoom$Parting", "timesByCovers", "(II)I"⟩, 7), (⟨"SpanLoom", "mapsOfSpans", "(LSpanLoom$Laying;)I"⟩, 10), (⟨"SpanLoom", "isMapped", "(LSpanLoom$Laying;II)Z"⟩, 10), (⟨"SpanLoom$Pairing", "canPair", "(LSpanLoom$Spans;LSpanLoom$Spans;I)Z"⟩, 4), (⟨"SpanLoom$Pairing", "pair", "(LSpanLoom$Spans;LSpanLoom$Spans;II)Z"⟩, 4), (⟨"SpanLoom$Pairing", "change", "(I)V"⟩, 4), (⟨"SpanLoom$Tree", "countLines", "()V"⟩, 5), (⟨"SpanLoom$Tree", "branchPost", "()I"⟩, 5)]
theorem lw_r2 : ∀ q ∈ lw_privs_2, lw_okq q := List.forall_mem_cons.mpr ⟨lw_p16, List.forall_mem_cons.mpr ⟨lw_p17, List.forall_mem_cons.mpr ⟨lw_p18, List.forall_mem_cons.mpr ⟨lw_p19, List.forall_mem_cons.mpr ⟨lw_p20, List.forall_mem_cons.mpr ⟨lw_p21, List.forall_mem_cons.mpr ⟨lw_p22, List.forall_mem_cons.mpr ⟨lw_p23, List.forall_mem_cons.mpr ⟨lw_p24, List.forall_mem_cons.mpr ⟨lw_p25, List.forall_mem_cons.mpr ⟨lw_p26, List.forall_mem_cons.mpr ⟨lw_p27, List.forall_mem_cons.mpr ⟨lw_p28, List.forall_mem_cons.mpr ⟨lw_p29, List.forall_mem_cons.mpr ⟨lw_p30, List.forall_mem_cons.mpr ⟨lw_p31, fun _ h => absurd h List.not_mem_nil⟩⟩⟩⟩⟩⟩⟩⟩⟩⟩⟩⟩⟩⟩⟩⟩
theorem lw_p32 : lw_okq (⟨"SpanLoom$Tree", "endsBeside", "(I)I"⟩, 5) := ⟨⟨by decide +kernel, by decide +kernel⟩, List.mem_of_getElem? (i := 152) (by decide +kernel), List.mem_of_getElem? (i := 573) (by decide +kernel), List.mem_of_getElem? (i := 574) (by decide +kernel)⟩
theorem lw_p33 : lw_okq (⟨"SpanLoomModel", "areWays", "(I)Z"⟩, 24) := ⟨⟨by decide +kernel, by decide +kernel⟩, List.mem_of_getElem? (i := 584) (by decide +kernel), List.mem_of_getElem? (i := 685) (by decide +kernel), List.mem_of_getElem? (i := 686) (by decide +kernel)⟩
theorem lw_p34 : lw_okq (⟨"SpanLoomModel", "clear", "(II)V"⟩, 24) := ⟨⟨by decide +kernel, by decide +kernel⟩, List.mem_of_getElem? (i := 584) (by decide +kernel), List.mem_of_getElem? (i := 689) (by decide +kernel), List.mem_of_getElem? (i := 690) (by decide +kernel)⟩
theorem lw_p35 : lw_okq (⟨"SpanLoomModel", "isCell", "(IIII)Z"⟩, 24) := ⟨⟨by decide +kernel, by decide +kernel⟩, List.mem_of_getElem? (i := 584) (by decide +kernel), List.mem_of_getElem? (i := 697) (by decide +kernel), List.mem_of_getElem? (i := 698) (by decide +kernel)⟩
theorem lw_p36 : lw_okq (⟨"SpanLoomModel", "target", "(II)I"⟩, 24) := ⟨⟨by decide +kernel, by decide +kernel⟩, List.mem_of_getElem? (i := 584) (by decide +kernel), List.mem_of_getElem? (i := 701) (by decide +kernel), List.mem_of_getElem? (i := 702) (by decide +kernel)⟩
theorem lw_p37 : lw_okq (⟨"SpanLoomModel", "isLeft", "(II)Z"⟩, 24) := ⟨⟨by decide +kernel, by decide +kernel⟩, List.mem_of_getElem? (i := 584) (by decide +kernel), List.mem_of_getElem? (i := 705) (by decide +kernel), List.mem_of_getElem? (i := 706) (by decide +kernel)⟩
theorem lw_p38 : lw_okq (⟨"SpanLoomModel", "at", "(II)I"⟩, 24) := ⟨⟨by decide +kernel, by decide +kernel⟩, List.mem_of_getElem? (i := 584) (by decide +kernel), List.mem_of_getElem? (i := 709) (by decide +kernel), List.mem_of_getElem? (i := 710) (by decide +kernel)⟩
theorem lw_p39 : lw_okq (⟨"SpanLoomModel", "source", "(II)I"⟩, 24) := ⟨⟨by decide +kernel, by decide +kernel⟩, List.mem_of_getElem? (i := 584) (by decide +kernel), List.mem_of_getElem? (i := 713) (by decide +kernel), List.mem_of_getElem? (i := 714) (by decide +kernel)⟩
theorem lw_p40 : lw_okq (⟨"SpanLoomModel", "rest", "(I)I"⟩, 24) := ⟨⟨by decide +kernel, by decide +kernel⟩, List.mem_of_getElem? (i := 584) (by decide +kernel), List.mem_of_getElem? (i := 720) (by decide +kernel), List.mem_of_getElem? (i := 721) (by decide +kernel)⟩
theorem lw_p41 : lw_okq (⟨"SpanLoomModel", "isPost", "(I)Z"⟩, 24) := ⟨⟨by decide +kernel, by decide +kernel⟩, List.mem_of_getElem? (i := 584) (by decide +kernel), List.mem_of_getElem? (i := 732) (by decide +kernel), List.mem_of_getElem? (i := 733) (by decide +kernel)⟩
theorem lw_p42 : lw_okq (⟨"SpanLoomModel", "copies", "(I)V"⟩, 24) := ⟨⟨by decide +kernel, by decide +kernel⟩, List.mem_of_getElem? (i := 584) (by decide +kernel), List.mem_of_getElem? (i := 748) (by decide +kernel), List.mem_of_getElem? (i := 749) (by decide +kernel)⟩
theorem lw_p43 : lw_okq (⟨"SpanLoomModel", "becomes", "(II)V"⟩, 24) := ⟨⟨by decide +kernel, by decide +kernel⟩, List.mem_of_getElem? (i := 584) (by decide +kernel), List.mem_of_getElem? (i := 752) (by decide +kernel), List.mem_of_getElem? (i := 753) (by decide +kernel)⟩
theorem lw_p44 : lw_okq (⟨"SpanLoomModel", "begin", "(I)V"⟩, 24) := ⟨⟨by decide +kernel, by decide +kernel⟩, List.mem_of_getElem? (i := 584) (by decide +kernel), List.mem_of_getElem? (i := 764) (by decide +kernel), List.mem_of_getElem? (i := 765) (by decide +kernel)⟩
theorem lw_p45 : lw_okq (⟨"SpanLoomModel", "newRow", "()[I"⟩, 24) := ⟨⟨by decide +kernel, by decide +kernel⟩, List.mem_of_getElem? (i := 584) (by decide +kernel), List.mem_of_getElem? (i := 768) (by decide +kernel), List.mem_of_getElem? (i := 769) (by decide +kernel)⟩
theorem lw_p46 : lw_okq (⟨"SpanLoomModel", "reduce", "()I"⟩, 24) := ⟨⟨by decide +kernel, by decide +kernel⟩, List.mem_of_getElem? (i := 584) (by decide +kernel), List.mem_of_getElem? (i := 772) (by decide +kernel), List.mem_of_getElem? (i := 773) (by decide +kernel)⟩
theorem lw_p47 : lw_okq (⟨"SpanLoomModel", "inverse", "(I)I"⟩, 24) := ⟨⟨by decide +kernel, by decide +kernel⟩, List.mem_of_getElem? (i := 584) (by decide +kernel), List.mem_of_getElem? (i := 776) (by decide +kernel), List.mem_of_getElem? (i := 777) (by decide +kernel)⟩
def lw_privs_3 : List (MethodName × Nat) := [(⟨"SpanLoom$Tree", "endsBeside", "(I)I"⟩, 5), (⟨"SpanLoomModel", "areWays", "(I)Z"⟩, 24), (⟨"SpanLoomModel", "clear", "(II)V"⟩, 24), (⟨"SpanLoomModel", "isCell", "(IIII)Z"⟩, 24), (⟨"SpanLoomModel", "target", "(II)I"⟩, 24), (⟨"SpanLoomModel", "isLeft", "(II)Z"⟩, 24), (⟨"SpanLoomModel", "at", "(II)I"⟩, 24), (⟨"SpanLoomModel", "source", "(II)I"⟩, 24), (⟨"SpanLoomModel", "rest", "(I)I"⟩, 24), (⟨"SpanLoomModel", "isPost", "(I)Z"⟩, 24), (⟨"SpanLoomModel", "copies", "(I)V"⟩, 24), (⟨"SpanLoomModel", "becomes", "(II)V"⟩, 24), (⟨"SpanLoomModel", "begin", "(I)V"⟩, 24), (⟨"SpanLoomModel", "newRow", "()[I"⟩, 24), (⟨"SpanLoomModel", "reduce", "()I"⟩, 24), (⟨"SpanLoomModel", "inverse", "(I)I"⟩, 24)]
theorem lw_r3 : ∀ q ∈ lw_privs_3, lw_okq q := List.forall_mem_cons.mpr ⟨lw_p32, List.forall_mem_cons.mpr ⟨lw_p33, List.forall_mem_cons.mpr ⟨lw_p34, List.forall_mem_cons.mpr ⟨lw_p35, List.forall_mem_cons.mpr ⟨lw_p36, List.forall_mem_cons.mpr ⟨lw_p37, List.forall_mem_cons.mpr ⟨lw_p38, List.forall_mem_cons.mpr ⟨lw_p39, List.forall_mem_cons.mpr ⟨lw_p40, List.forall_mem_cons.mpr ⟨lw_p41, List.forall_mem_cons.mpr ⟨lw_p42, List.forall_mem_cons.mpr ⟨lw_p43, List.forall_mem_cons.mpr ⟨lw_p44, List.forall_mem_cons.mpr ⟨lw_p45, List.forall_mem_cons.mpr ⟨lw_p46, List.forall_mem_cons.mpr ⟨lw_p47, fun _ h => absurd h List.not_mem_nil⟩⟩⟩⟩⟩⟩⟩⟩⟩⟩⟩⟩⟩⟩⟩⟩
theorem lw_p48 : lw_okq (⟨"SpanLoomModel", "isLead", "(I)Z"⟩, 24) := ⟨⟨by decide +kernel, by decide +kernel⟩, List.mem_of_getElem? (i := 584) (by decide +kernel), List.mem_of_getElem? (i := 780) (by decide +kernel), List.mem_of_getElem? (i := 781) (by decide +kernel)⟩
theorem lw_p49 : lw_okq (⟨"SpanLoomModel", "areAlong", "(II)Z"⟩, 24) := ⟨⟨by decide +kernel, by decide +kernel⟩, List.mem_of_getElem? (i := 584) (by decide +kernel), List.mem_of_getElem? (i := 788) (by decide +kernel), List.mem_of_getElem? (i := 789) (by decide +kernel)⟩
theorem lw_p50 : lw_okq (⟨"SpanLoomModel", "times", "(III)I"⟩, 24) := ⟨⟨by decide +kernel, by decide +kernel⟩, List.mem_of_getElem? (i := 584) (by decide +kernel), List.mem_of_getElem? (i := 806) (by decide +kernel), List.mem_of_getElem? (i := 807) (by decide +kernel)⟩
theorem lw_p51 : lw_okq (⟨"SpanLoomModel", "through", "(III)I"⟩, 24) := ⟨⟨by decide +kernel, by decide +kernel⟩, List.mem_of_getElem? (i := 584) (by decide +kernel), List.mem_of_getElem? (i := 810) (by decide +kernel), List.mem_of_getElem? (i := 811) (by decide +kernel)⟩
theorem lw_p52 : lw_okq (⟨"SpanLoomModel", "same", "(III)I"⟩, 24) := ⟨⟨by decide +kernel, by decide +kernel⟩, List.mem_of_getElem? (i := 584) (by decide +kernel), List.mem_of_getElem? (i := 814) (by decide +kernel), List.mem_of_getElem? (i := 815) (by decide +kernel)⟩
theorem lw_p53 : lw_okq (⟨"SpanLoomModel", "list", "(II)V"⟩, 24) := ⟨⟨by decide +kernel, by decide +kernel⟩, List.mem_of_getElem? (i := 584) (by decide +kernel), List.mem_of_getElem? (i := 830) (by decide +kernel), List.mem_of_getElem? (i := 831) (by decide +kernel)⟩
theorem lw_p54 : lw_okq (⟨"SpanLoomModel", "isCovered", "(II)Z"⟩, 24) := ⟨⟨by decide +kernel, by decide +kernel⟩, List.mem_of_getElem? (i := 584) (by decide +kernel), List.mem_of_getElem? (i := 834) (by decide +kernel), List.mem_of_getElem? (i := 835) (by decide +kernel)⟩
theorem lw_p55 : lw_okq (⟨"SpanLoomModel", "finds", "(III)Z"⟩, 24) := ⟨⟨by decide +kernel, by decide +kernel⟩, List.mem_of_getElem? (i := 584) (by decide +kernel), List.mem_of_getElem? (i := 838) (by decide +kernel), List.mem_of_getElem? (i := 839) (by decide +kernel)⟩
theorem lw_p56 : lw_okq (⟨"SpanLoomModel", "cost", "(III)I"⟩, 24) := ⟨⟨by decide +kernel, by decide +kernel⟩, List.mem_of_getElem? (i := 584) (by decide +kernel), List.mem_of_getElem? (i := 842) (by decide +kernel), List.mem_of_getElem? (i := 843) (by decide +kernel)⟩
theorem lw_p57 : lw_okq (⟨"SpanLoomModel", "isTree", "(II)Z"⟩, 24) := ⟨⟨by decide +kernel, by decide +kernel⟩, List.mem_of_getElem? (i := 584) (by decide +kernel), List.mem_of_getElem? (i := 851) (by decide +kernel), List.mem_of_getElem? (i := 852) (by decide +kernel)⟩
theorem lw_p58 : lw_okq (⟨"SpanLoomModel", "determinant", "(II)J"⟩, 24) := ⟨⟨by decide +kernel, by decide +kernel⟩, List.mem_of_getElem? (i := 584) (by decide +kernel), List.mem_of_getElem? (i := 855) (by decide +kernel), List.mem_of_getElem? (i := 856) (by decide +kernel)⟩
theorem lw_p59 : lw_okq (⟨"SpanLoomModel", "value", "(I[B)I"⟩, 24) := ⟨⟨by decide +kernel, by decide +kernel⟩, List.mem_of_getElem? (i := 584) (by decide +kernel), List.mem_of_getElem? (i := 869) (by decide +kernel), List.mem_of_getElem? (i := 870) (by decide +kernel)⟩
theorem lw_p60 : lw_okq (⟨"SpanLoomModel", "isFound", "(II[B)Z"⟩, 24) := ⟨⟨by decide +kernel, by decide +kernel⟩, List.mem_of_getElem? (i := 584) (by decide +kernel), List.mem_of_getElem? (i := 873) (by decide +kernel), List.mem_of_getElem? (i := 874) (by decide +kernel)⟩
theorem lw_p61 : lw_okq (⟨"SpanLoomModel", "isBehind", "(III)Z"⟩, 24) := ⟨⟨by decide +kernel, by decide +kernel⟩, List.mem_of_getElem? (i := 584) (by decide +kernel), List.mem_of_getElem? (i := 877) (by decide +kernel), List.mem_of_getElem? (i := 878) (by decide +kernel)⟩
def lw_privs_4 : List (MethodName × Nat) := [(⟨"SpanLoomModel", "isLead", "(I)Z"⟩, 24), (⟨"SpanLoomModel", "areAlong", "(II)Z"⟩, 24), (⟨"SpanLoomModel", "times", "(III)I"⟩, 24), (⟨"SpanLoomModel", "through", "(III)I"⟩, 24), (⟨"SpanLoomModel", "same", "(III)I"⟩, 24), (⟨"SpanLoomModel", "list", "(II)V"⟩, 24), (⟨"SpanLoomModel", "isCovered", "(II)Z"⟩, 24), (⟨"SpanLoomModel", "finds", "(III)Z"⟩, 24), (⟨"SpanLoomModel", "cost", "(III)I"⟩, 24), (⟨"SpanLoomModel", "isTree", "(II)Z"⟩, 24), (⟨"SpanLoomModel", "determinant", "(II)J"⟩, 24), (⟨"SpanLoomModel", "value", "(I[B)I"⟩, 24), (⟨"SpanLoomModel", "isFound", "(II[B)Z"⟩, 24), (⟨"SpanLoomModel", "isBehind", "(III)Z"⟩, 24)]
theorem lw_r4 : ∀ q ∈ lw_privs_4, lw_okq q := List.forall_mem_cons.mpr ⟨lw_p48, List.forall_mem_cons.mpr ⟨lw_p49, List.forall_mem_cons.mpr ⟨lw_p50, List.forall_mem_cons.mpr ⟨lw_p51, List.forall_mem_cons.mpr ⟨lw_p52, List.forall_mem_cons.mpr ⟨lw_p53, List.forall_mem_cons.mpr ⟨lw_p54, List.forall_mem_cons.mpr ⟨lw_p55, List.forall_mem_cons.mpr ⟨lw_p56, List.forall_mem_cons.mpr ⟨lw_p57, List.forall_mem_cons.mpr ⟨lw_p58, List.forall_mem_cons.mpr ⟨lw_p59, List.forall_mem_cons.mpr ⟨lw_p60, List.forall_mem_cons.mpr ⟨lw_p61, fun _ h => absurd h List.not_mem_nil⟩⟩⟩⟩⟩⟩⟩⟩⟩⟩⟩⟩⟩⟩
def lw_privs : List (MethodName × Nat) := lw_privs_1 ++ (lw_privs_2 ++ (lw_privs_3 ++ (lw_privs_4)))
def lw_tbl : List Cond := k2_sels lw_privs ++ tables_1
theorem lw_privs_ok : ∀ q ∈ lw_privs, lw_okq q := by
  show ∀ q ∈ lw_privs_1 ++ (lw_privs_2 ++ (lw_privs_3 ++ (lw_privs_4))), lw_okq q
  exact List.forall_mem_append.mpr ⟨lw_r1, List.forall_mem_append.mpr ⟨lw_r2, List.forall_mem_append.mpr ⟨lw_r3, lw_r4⟩⟩⟩
end
section
def RX0 : String := "SpanLoom$Laying"
def TX0 : u_T := fun k => match k with
  | 0 => ("SpanLoom$Laying", "sizes", "[I", true)
  | 1 => ("SpanLoom$Laying", "numbers", "[I", true)
  | _ => ("SpanLoom$Laying", "lefts", "I", false)
def tyX0 : Nat → FieldType := fun k => match k with
  | 0 => .array .int
  | 1 => .array .int
  | _ => .int
abbrev wsX00 : List Cond := u_ws RX0 TX0 3
theorem nmX0 : ∀ a, a < 3 → ∀ b, b < 3 → a ≠ b → (TX0 a).2.1 ≠ (TX0 b).2.1 := by decide +kernel
theorem tyX0_ok : ∀ k, k < 3 → parseFieldDescriptor (TX0 k).2.2.1 = some (tyX0 k) := by decide +kernel
abbrev cX0_init : ByteArray := prog_2_method_1_code
def yX0_init : MethodName := ⟨RX0, "<init>", "()V"⟩
abbrev cX0_empty : ByteArray := prog_2_method_2_code
def yX0_empty : MethodName := ⟨RX0, "empty", "(I)V"⟩
abbrev cX0_copy : ByteArray := prog_2_method_3_code
def yX0_copy : MethodName := ⟨RX0, "copy", "(LSpanLoom$Laying;)V"⟩
abbrev cX0_isLeft : ByteArray := prog_2_method_4_code
def yX0_isLeft : MethodName := ⟨RX0, "isLeft", "(I)Z"⟩
abbrev cX0_source : ByteArray := prog_2_method_5_code
def yX0_source : MethodName := ⟨RX0, "source", "(I)I"⟩
abbrev cX0_target : ByteArray := prog_2_method_6_code
def yX0_target : MethodName := ⟨RX0, "target", "(I)I"⟩
abbrev cX0_rowsOf : ByteArray := prog_2_method_7_code
def yX0_rowsOf : MethodName := ⟨RX0, "rowsOf", "(I)I"⟩
abbrev cX0_columnsOf : ByteArray := prog_2_method_8_code
def yX0_columnsOf : MethodName := ⟨RX0, "columnsOf", "(I)I"⟩
abbrev cX0_number : ByteArray := prog_2_method_9_code
def yX0_number : MethodName := ⟨RX0, "number", "(III)I"⟩
abbrev cX0_numberBeside : ByteArray := prog_2_method_10_code
def yX0_numberBeside : MethodName := ⟨RX0, "numberBeside", "(IZII)I"⟩
abbrev cX0_put : ByteArray := prog_2_method_11_code
def yX0_put : MethodName := ⟨RX0, "put", "(IIII)V"⟩
abbrev cX0_putTable : ByteArray := prog_2_method_12_code
def yX0_putTable : MethodName := ⟨RX0, "putTable", "(LSpanLoom$Laying;III)V"⟩
abbrev cX0_reverse : ByteArray := prog_2_method_13_code
def yX0_reverse : MethodName := ⟨RX0, "reverse", "(I)V"⟩
def RX1 : String := "SpanLoom$Pairing"
def TX1 : u_T := fun k => match k with
  | 0 => ("SpanLoom$Pairing", "pairOfOne", "[I", true)
  | 1 => ("SpanLoom$Pairing", "pairOfOther", "[I", true)
  | 2 => ("SpanLoom$Pairing", "reachedFrom", "[I", true)
  | _ => ("SpanLoom$Pairing", "waiting", "[I", true)
def tyX1 : Nat → FieldType := fun k => match k with
  | 0 => .array .int
  | 1 => .array .int
  | 2 => .array .int
  | _ => .array .int
abbrev wsX10 : List Cond := u_ws RX1 TX1 4
theorem nmX1 : ∀ a, a < 4 → ∀ b, b < 4 → a ≠ b → (TX1 a).2.1 ≠ (TX1 b).2.1 := by decide +kernel
theorem tyX1_ok : ∀ k, k < 4 → parseFieldDescriptor (TX1 k).2.2.1 = some (tyX1 k) := by decide +kernel
abbrev cX1_init : ByteArray := prog_3_method_1_code
def yX1_init : MethodName := ⟨RX1, "<init>", "()V"⟩
abbrev cX1_leastCost : ByteArray := prog_3_method_2_code
def yX1_leastCost : MethodName := ⟨RX1, "leastCost", "(LSpanLoom$Spans;LSpanLoom$Spans;I)I"⟩
abbrev cX1_canPair : ByteArray := prog_3_method_3_code
def yX1_canPair : MethodName := ⟨RX1, "canPair", "(LSpanLoom$Spans;LSpanLoom$Spans;I)Z"⟩
abbrev cX1_pair : ByteArray := prog_3_method_4_code
def yX1_pair : MethodName := ⟨RX1, "pair", "(LSpanLoom$Spans;LSpanLoom$Spans;II)Z"⟩
abbrev cX1_cost : ByteArray := prog_3_method_5_code
def yX1_cost : MethodName := ⟨RX1, "cost", "(LSpanLoom$Spans;ILSpanLoom$Spans;I)I"⟩
abbrev cX1_change : ByteArray := prog_3_method_6_code
def yX1_change : MethodName := ⟨RX1, "change", "(I)V"⟩
def RX2 : String := "SpanLoom$Parting"
def TX2 : u_T := fun k => match k with
  | 0 => ("SpanLoom$Parting", "prime", "I", true)
  | 1 => ("SpanLoom$Parting", "posts", "I", true)
  | 2 => ("SpanLoom$Parting", "covers", "[[I", true)
  | 3 => ("SpanLoom$Parting", "conditions", "LSpanLoom$Rows;", true)
  | 4 => ("SpanLoom$Parting", "whole", "LSpanLoom$Rows;", false)
  | 5 => ("SpanLoom$Parting", "nothing", "LSpanLoom$Rows;", false)
  | _ => ("SpanLoom$Parting", "next", "LSpanLoom$Rows;", false)
def tyX2 : Nat → FieldType := fun k => match k with
  | 0 => .int
  | 1 => .int
  | 2 => .array (.array .int)
  | 3 => .object "SpanLoom$Rows"
  | 4 => .object "SpanLoom$Rows"
  | 5 => .object "SpanLoom$Rows"
  | _ => .object "SpanLoom$Rows"
abbrev wsX20 : List Cond := u_ws RX2 TX2 7
theorem nmX2 : ∀ a, a < 7 → ∀ b, b < 7 → a ≠ b → (TX2 a).2.1 ≠ (TX2 b).2.1 := by decide +kernel
theorem tyX2_ok : ∀ k, k < 7 → parseFieldDescriptor (TX2 k).2.2.1 = some (tyX2 k) := by decide +kernel
abbrev cX2_init : ByteArray := prog_4_method_1_code
def yX2_init : MethodName := ⟨RX2, "<init>", "(II)V"⟩
abbrev cX2_part : ByteArray := prog_4_method_2_code
def yX2_part : MethodName := ⟨RX2, "part", "(LSpanLoom$Laying;LSpanLoom$Spans;)V"⟩
abbrev cX2_times : ByteArray := prog_4_method_3_code
def yX2_times : MethodName := ⟨RX2, "times", "(LSpanLoom$Laying;II)I"⟩
abbrev cX2_covering : ByteArray := prog_4_method_4_code
def yX2_covering : MethodName := ⟨RX2, "covering", "(LSpanLoom$Laying;II)I"⟩
abbrev cX2_timesByCovers : ByteArray := prog_4_method_5_code
def yX2_timesByCovers : MethodName := ⟨RX2, "timesByCovers", "(II)I"⟩
abbrev cX2_coverFrom : ByteArray := prog_4_method_6_code
def yX2_coverFrom : MethodName := ⟨RX2, "coverFrom", "(LSpanLoom$Laying;II)V"⟩
abbrev cX2_lead : ByteArray := prog_4_method_7_code
def yX2_lead : MethodName := ⟨RX2, "lead", "(LSpanLoom$Laying;ILSpanLoom$Rows;)LSpanLoom$Rows;"⟩
abbrev cX2_leadAlong : ByteArray := prog_4_method_8_code
def yX2_leadAlong : MethodName := ⟨RX2, "leadAlong", "(LSpanLoom$Laying;ILSpanLoom$Rows;LSpanLoom$Rows;)V"⟩
abbrev cX2_findConditions : ByteArray := prog_4_method_9_code
def yX2_findConditions : MethodName := ⟨RX2, "findConditions", "(LSpanLoom$Laying;ILSpanLoom$Rows;)V"⟩
abbrev cX2_solveConditions : ByteArray := prog_4_method_10_code
def yX2_solveConditions : MethodName := ⟨RX2, "solveConditions", "(LSpanLoom$Rows;)V"⟩
def RX3 : String := "SpanLoom$Rows"
def TX3 : u_T := fun k => match k with
  | 0 => ("SpanLoom$Rows", "prime", "I", true)
  | 1 => ("SpanLoom$Rows", "cells", "[[I", true)
  | 2 => ("SpanLoom$Rows", "headRows", "[I", true)
  | 3 => ("SpanLoom$Rows", "count", "I", false)
  | _ => ("SpanLoom$Rows", "width", "I", false)
def tyX3 : Nat → FieldType := fun k => match k with
  | 0 => .int
  | 1 => .array (.array .int)
  | 2 => .array .int
  | 3 => .int
  | _ => .int
abbrev wsX30 : List Cond := u_ws RX3 TX3 5
theorem nmX3 : ∀ a, a < 5 → ∀ b, b < 5 → a ≠ b → (TX3 a).2.1 ≠ (TX3 b).2.1 := by decide +kernel
theorem tyX3_ok : ∀ k, k < 5 → parseFieldDescriptor (TX3 k).2.2.1 = some (tyX3 k) := by decide +kernel
abbrev cX3_init : ByteArray := prog_5_method_1_code
def yX3_init : MethodName := ⟨RX3, "<init>", "(I)V"⟩
abbrev cX3_start : ByteArray := prog_5_method_2_code
def yX3_start : MethodName := ⟨RX3, "start", "(II)V"⟩
abbrev cX3_startWhole : ByteArray := prog_5_method_3_code
def yX3_startWhole : MethodName := ⟨RX3, "startWhole", "(I)V"⟩
abbrev cX3_number : ByteArray := prog_5_method_4_code
def yX3_number : MethodName := ⟨RX3, "number", "(II)I"⟩
abbrev cX3_put : ByteArray := prog_5_method_5_code
def yX3_put : MethodName := ⟨RX3, "put", "(III)V"⟩
abbrev cX3_bringToLeast : ByteArray := prog_5_method_6_code
def yX3_bringToLeast : MethodName := ⟨RX3, "bringToLeast", "()V"⟩
abbrev cX3_rowWithNumber : ByteArray := prog_5_method_7_code
def yX3_rowWithNumber : MethodName := ⟨RX3, "rowWithNumber", "(II)I"⟩
abbrev cX3_swap : ByteArray := prog_5_method_8_code
def yX3_swap : MethodName := ⟨RX3, "swap", "(II)V"⟩
abbrev cX3_scale : ByteArray := prog_5_method_9_code
def yX3_scale : MethodName := ⟨RX3, "scale", "(III)V"⟩
abbrev cX3_inverse : ByteArray := prog_5_method_10_code
def yX3_inverse : MethodName := ⟨RX3, "inverse", "(I)I"⟩
abbrev cX3_clearElsewhere : ByteArray := prog_5_method_11_code
def yX3_clearElsewhere : MethodName := ⟨RX3, "clearElsewhere", "(II)V"⟩
abbrev cX3_isFree : ByteArray := prog_5_method_12_code
def yX3_isFree : MethodName := ⟨RX3, "isFree", "(I)Z"⟩
abbrev cX3_freeCount : ByteArray := prog_5_method_13_code
def yX3_freeCount : MethodName := ⟨RX3, "freeCount", "()I"⟩
abbrev cX3_rest : ByteArray := prog_5_method_14_code
def yX3_rest : MethodName := ⟨RX3, "rest", "(II)I"⟩
def RX4 : String := "SpanLoom$Spans"
def TX4 : u_T := fun k => match k with
  | 0 => ("SpanLoom$Spans", "starts", "[I", true)
  | 1 => ("SpanLoom$Spans", "ends", "[I", true)
  | _ => ("SpanLoom$Spans", "count", "I", false)
def tyX4 : Nat → FieldType := fun k => match k with
  | 0 => .array .int
  | 1 => .array .int
  | _ => .int
abbrev wsX40 : List Cond := u_ws RX4 TX4 3
theorem nmX4 : ∀ a, a < 3 → ∀ b, b < 3 → a ≠ b → (TX4 a).2.1 ≠ (TX4 b).2.1 := by decide +kernel
theorem tyX4_ok : ∀ k, k < 3 → parseFieldDescriptor (TX4 k).2.2.1 = some (tyX4 k) := by decide +kernel
abbrev cX4_init : ByteArray := prog_6_method_1_code
def yX4_init : MethodName := ⟨RX4, "<init>", "()V"⟩
abbrev cX4_clear : ByteArray := prog_6_method_2_code
def yX4_clear : MethodName := ⟨RX4, "clear", "()V"⟩
abbrev cX4_add : ByteArray := prog_6_method_3_code
def yX4_add : MethodName := ⟨RX4, "add", "(II)V"⟩
abbrev cX4_areSame : ByteArray := prog_6_method_4_code
def yX4_areSame : MethodName := ⟨RX4, "areSame", "(LSpanLoom$Spans;)Z"⟩
def RX5 : String := "SpanLoom$Tree"
def TX5 : u_T := fun k => match k with
  | 0 => ("SpanLoom$Tree", "parent", "[I", true)
  | 1 => ("SpanLoom$Tree", "lines", "[I", true)
  | 2 => ("SpanLoom$Tree", "above", "[I", true)
  | 3 => ("SpanLoom$Tree", "below", "[I", true)
  | _ => ("SpanLoom$Tree", "size", "I", false)
def tyX5 : Nat → FieldType := fun k => match k with
  | 0 => .array .int
  | 1 => .array .int
  | 2 => .array .int
  | 3 => .array .int
  | _ => .int
abbrev wsX50 : List Cond := u_ws RX5 TX5 5
theorem nmX5 : ∀ a, a < 5 → ∀ b, b < 5 → a ≠ b → (TX5 a).2.1 ≠ (TX5 b).2.1 := by decide +kernel
theorem tyX5_ok : ∀ k, k < 5 → parseFieldDescriptor (TX5 k).2.2.1 = some (tyX5 k) := by decide +kernel
abbrev cX5_init : ByteArray := prog_7_method_1_code
def yX5_init : MethodName := ⟨RX5, "<init>", "()V"⟩
abbrev cX5_read : ByteArray := prog_7_method_2_code
def yX5_read : MethodName := ⟨RX5, "read", "(II)Z"⟩
abbrev cX5_kindOf : ByteArray := prog_7_method_3_code
def yX5_kindOf : MethodName := ⟨RX5, "kindOf", "()I"⟩
abbrev cX5_rootCount : ByteArray := prog_7_method_4_code
def yX5_rootCount : MethodName := ⟨RX5, "rootCount", "()I"⟩
abbrev cX5_countLines : ByteArray := prog_7_method_5_code
def yX5_countLines : MethodName := ⟨RX5, "countLines", "()V"⟩
abbrev cX5_branchPost : ByteArray := prog_7_method_6_code
def yX5_branchPost : MethodName := ⟨RX5, "branchPost", "()I"⟩
abbrev cX5_endsBeside : ByteArray := prog_7_method_7_code
def yX5_endsBeside : MethodName := ⟨RX5, "endsBeside", "(I)I"⟩
def RX6 : String := "SpanLoom"
def TX6 : u_T := fun k => match k with
  | 0 => ("SpanLoom", "prime", "I", true)
  | 1 => ("SpanLoom", "posts", "I", true)
  | 2 => ("SpanLoom", "layings", "[LSpanLoom$Laying;", true)
  | 3 => ("SpanLoom", "spare", "LSpanLoom$Laying;", true)
  | 4 => ("SpanLoom", "rows", "LSpanLoom$Rows;", true)
  | 5 => ("SpanLoom", "parting", "LSpanLoom$Parting;", true)
  | 6 => ("SpanLoom", "ones", "LSpanLoom$Spans;", true)
  | 7 => ("SpanLoom", "others", "LSpanLoom$Spans;", true)
  | 8 => ("SpanLoom", "pairing", "LSpanLoom$Pairing;", true)
  | _ => ("SpanLoom", "tree", "LSpanLoom$Tree;", true)
def tyX6 : Nat → FieldType := fun k => match k with
  | 0 => .int
  | 1 => .int
  | 2 => .array (.object "SpanLoom$Laying")
  | 3 => .object "SpanLoom$Laying"
  | 4 => .object "SpanLoom$Rows"
  | 5 => .object "SpanLoom$Parting"
  | 6 => .object "SpanLoom$Spans"
  | 7 => .object "SpanLoom$Spans"
  | 8 => .object "SpanLoom$Pairing"
  | _ => .object "SpanLoom$Tree"
abbrev wsX60 : List Cond := u_ws RX6 TX6 10
theorem nmX6 : ∀ a, a < 10 → ∀ b, b < 10 → a ≠ b → (TX6 a).2.1 ≠ (TX6 b).2.1 := by decide +kernel
theorem tyX6_ok : ∀ k, k < 10 → parseFieldDescriptor (TX6 k).2.2.1 = some (tyX6 k) := by decide +kernel
abbrev cX6_init : ByteArray := prog_1_method_1_code
def yX6_init : MethodName := ⟨RX6, "<init>", "(II)V"⟩
abbrev cX6_lay : ByteArray := prog_1_method_2_code
def yX6_lay : MethodName := ⟨RX6, "lay", "(III)Z"⟩
abbrev cX6_set : ByteArray := prog_1_method_3_code
def yX6_set : MethodName := ⟨RX6, "set", "(IIIII)Z"⟩
abbrev cX6_get : ByteArray := prog_1_method_4_code
def yX6_get : MethodName := ⟨RX6, "get", "(IIII)I"⟩
abbrev cX6_size : ByteArray := prog_1_method_5_code
def yX6_size : MethodName := ⟨RX6, "size", "(II)I"⟩
abbrev cX6_ways : ByteArray := prog_1_method_6_code
def yX6_ways : MethodName := ⟨RX6, "ways", "(I)I"⟩
abbrev cX6_span : ByteArray := prog_1_method_7_code
def yX6_span : MethodName := ⟨RX6, "span", "(IIII)Z"⟩
abbrev cX6_beside : ByteArray := prog_1_method_8_code
def yX6_beside : MethodName := ⟨RX6, "beside", "(III)Z"⟩
abbrev cX6_mix : ByteArray := prog_1_method_9_code
def yX6_mix : MethodName := ⟨RX6, "mix", "(IIIII)Z"⟩
abbrev cX6_turn : ByteArray := prog_1_method_10_code
def yX6_turn : MethodName := ⟨RX6, "turn", "(III)I"⟩
abbrev cX6_maps : ByteArray := prog_1_method_11_code
def yX6_maps : MethodName := ⟨RX6, "maps", "(II)I"⟩
abbrev cX6_bends : ByteArray := prog_1_method_12_code
def yX6_bends : MethodName := ⟨RX6, "bends", "(II)I"⟩
abbrev cX6_form : ByteArray := prog_1_method_13_code
def yX6_form : MethodName := ⟨RX6, "form", "(II)I"⟩
abbrev cX6_spans : ByteArray := prog_1_method_14_code
def yX6_spans : MethodName := ⟨RX6, "spans", "(III)I"⟩
abbrev cX6_like : ByteArray := prog_1_method_15_code
def yX6_like : MethodName := ⟨RX6, "like", "(II)Z"⟩
abbrev cX6_rank : ByteArray := prog_1_method_16_code
def yX6_rank : MethodName := ⟨RX6, "rank", "(III)I"⟩
abbrev cX6_far : ByteArray := prog_1_method_17_code
def yX6_far : MethodName := ⟨RX6, "far", "(II)I"⟩
abbrev cX6_kind : ByteArray := prog_1_method_18_code
def yX6_kind : MethodName := ⟨RX6, "kind", "(II)I"⟩
abbrev cX6_roots : ByteArray := prog_1_method_19_code
def yX6_roots : MethodName := ⟨RX6, "roots", "(II)I"⟩
abbrev cX6_count : ByteArray := prog_1_method_20_code
def yX6_count : MethodName := ⟨RX6, "count", "(I)I"⟩
abbrev cX6_greatestPrime : ByteArray := prog_1_method_21_code
def yX6_greatestPrime : MethodName := ⟨RX6, "greatestPrime", "(I)I"⟩
abbrev cX6_isBelow : ByteArray := prog_1_method_22_code
def yX6_isBelow : MethodName := ⟨RX6, "isBelow", "(II)Z"⟩
abbrev cX6_isLaying : ByteArray := prog_1_method_23_code
def yX6_isLaying : MethodName := ⟨RX6, "isLaying", "(I)Z"⟩
abbrev cX6_isPost : ByteArray := prog_1_method_24_code
def yX6_isPost : MethodName := ⟨RX6, "isPost", "(I)Z"⟩
abbrev cX6_isArrow : ByteArray := prog_1_method_25_code
def yX6_isArrow : MethodName := ⟨RX6, "isArrow", "(I)Z"⟩
abbrev cX6_isSpan : ByteArray := prog_1_method_26_code
def yX6_isSpan : MethodName := ⟨RX6, "isSpan", "(II)Z"⟩
abbrev cX6_isCell : ByteArray := prog_1_method_27_code
def yX6_isCell : MethodName := ⟨RX6, "isCell", "(IIII)Z"⟩
abbrev cX6_areWays : ByteArray := prog_1_method_28_code
def yX6_areWays : MethodName := ⟨RX6, "areWays", "(I)Z"⟩
abbrev cX6_sizeIn : ByteArray := prog_1_method_29_code
def yX6_sizeIn : MethodName := ⟨RX6, "sizeIn", "(II)I"⟩
abbrev cX6_areSizes : ByteArray := prog_1_method_30_code
def yX6_areSizes : MethodName := ⟨RX6, "areSizes", "(I)Z"⟩
abbrev cX6_haveSameWays : ByteArray := prog_1_method_31_code
def yX6_haveSameWays : MethodName := ⟨RX6, "haveSameWays", "(II)Z"⟩
abbrev cX6_fitBeside : ByteArray := prog_1_method_32_code
def yX6_fitBeside : MethodName := ⟨RX6, "fitBeside", "(LSpanLoom$Laying;LSpanLoom$Laying;)Z"⟩
abbrev cX6_addRow : ByteArray := prog_1_method_33_code
def yX6_addRow : MethodName := ⟨RX6, "addRow", "(LSpanLoom$Laying;IIII)V"⟩
abbrev cX6_addColumn : ByteArray := prog_1_method_34_code
def yX6_addColumn : MethodName := ⟨RX6, "addColumn", "(LSpanLoom$Laying;IIII)V"⟩
abbrev cX6_isTurning : ByteArray := prog_1_method_35_code
def yX6_isTurning : MethodName := ⟨RX6, "isTurning", "(LSpanLoom$Laying;I)Z"⟩
abbrev cX6_gatherBeside : ByteArray := prog_1_method_36_code
def yX6_gatherBeside : MethodName := ⟨RX6, "gatherBeside", "(LSpanLoom$Laying;IZ)V"⟩
abbrev cX6_putTurned : ByteArray := prog_1_method_37_code
def yX6_putTurned : MethodName := ⟨RX6, "putTurned", "(IZII)V"⟩
abbrev cX6_mapsOfSpans : ByteArray := prog_1_method_38_code
def yX6_mapsOfSpans : MethodName := ⟨RX6, "mapsOfSpans", "(LSpanLoom$Laying;)I"⟩
abbrev cX6_isMapped : ByteArray := prog_1_method_39_code
def yX6_isMapped : MethodName := ⟨RX6, "isMapped", "(LSpanLoom$Laying;II)Z"⟩
abbrev cX6_isLed : ByteArray := prog_1_method_40_code
def yX6_isLed : MethodName := ⟨RX6, "isLed", "(LSpanLoom$Laying;II)Z"⟩
def RX7 : String := "SpanLoomModel"
def TX7 : u_T := fun k => match k with
  | 0 => ("SpanLoomModel", "prime", "I", true)
  | 1 => ("SpanLoomModel", "posts", "I", true)
  | 2 => ("SpanLoomModel", "ways", "[I", true)
  | 3 => ("SpanLoomModel", "sizes", "[I", true)
  | 4 => ("SpanLoomModel", "tables", "[I", true)
  | 5 => ("SpanLoomModel", "newSizes", "[I", true)
  | 6 => ("SpanLoomModel", "newTables", "[I", true)
  | 7 => ("SpanLoomModel", "rows", "[[I", true)
  | 8 => ("SpanLoomModel", "lead", "[I", true)
  | 9 => ("SpanLoomModel", "many", "I", false)
  | 10 => ("SpanLoomModel", "wide", "I", false)
  | 11 => ("SpanLoomModel", "free", "[I", true)
  | 12 => ("SpanLoomModel", "from", "[I", true)
  | 13 => ("SpanLoomModel", "same", "[[I", true)
  | 14 => ("SpanLoomModel", "column", "[I", true)
  | 15 => ("SpanLoomModel", "led", "[I", true)
  | 16 => ("SpanLoomModel", "begins", "[I", true)
  | 17 => ("SpanLoomModel", "ends", "[I", true)
  | 18 => ("SpanLoomModel", "count", "[I", true)
  | 19 => ("SpanLoomModel", "pair", "[I", true)
  | 20 => ("SpanLoomModel", "tried", "[Z", true)
  | 21 => ("SpanLoomModel", "square", "[[J", true)
  | 22 => ("SpanLoomModel", "up", "[I", true)
  | _ => ("SpanLoomModel", "found", "[[B", true)
def tyX7 : Nat → FieldType := fun k => match k with
  | 0 => .int
  | 1 => .int
  | 2 => .array .int
  | 3 => .array .int
  | 4 => .array .int
  | 5 => .array .int
  | 6 => .array .int
  | 7 => .array (.array .int)
  | 8 => .array .int
  | 9 => .int
  | 10 => .int
  | 11 => .array .int
  | 12 => .array .int
  | 13 => .array (.array .int)
  | 14 => .array .int
  | 15 => .array .int
  | 16 => .array .int
  | 17 => .array .int
  | 18 => .array .int
  | 19 => .array .int
  | 20 => .array .boolean
  | 21 => .array (.array .long)
  | 22 => .array .int
  | _ => .array (.array .byte)
abbrev wsX70 : List Cond := u_ws RX7 TX7 24
theorem nmX7 : ∀ a, a < 24 → ∀ b, b < 24 → a ≠ b → (TX7 a).2.1 ≠ (TX7 b).2.1 := by decide +kernel
theorem tyX7_ok : ∀ k, k < 24 → parseFieldDescriptor (TX7 k).2.2.1 = some (tyX7 k) := by decide +kernel
abbrev cX7_init : ByteArray := prog_9_method_1_code
def yX7_init : MethodName := ⟨RX7, "<init>", "(II)V"⟩
abbrev cX7_in : ByteArray := prog_9_method_2_code
def yX7_in : MethodName := ⟨RX7, "in", "(III)Z"⟩
abbrev cX7_isLaying : ByteArray := prog_9_method_3_code
def yX7_isLaying : MethodName := ⟨RX7, "isLaying", "(I)Z"⟩
abbrev cX7_isPost : ByteArray := prog_9_method_4_code
def yX7_isPost : MethodName := ⟨RX7, "isPost", "(I)Z"⟩
abbrev cX7_rest : ByteArray := prog_9_method_5_code
def yX7_rest : MethodName := ⟨RX7, "rest", "(I)I"⟩
abbrev cX7_inverse : ByteArray := prog_9_method_6_code
def yX7_inverse : MethodName := ⟨RX7, "inverse", "(I)I"⟩
abbrev cX7_cell : ByteArray := prog_9_method_7_code
def yX7_cell : MethodName := ⟨RX7, "cell", "(IIII)I"⟩
abbrev cX7_isLeft : ByteArray := prog_9_method_8_code
def yX7_isLeft : MethodName := ⟨RX7, "isLeft", "(II)Z"⟩
abbrev cX7_source : ByteArray := prog_9_method_9_code
def yX7_source : MethodName := ⟨RX7, "source", "(II)I"⟩
abbrev cX7_target : ByteArray := prog_9_method_10_code
def yX7_target : MethodName := ⟨RX7, "target", "(II)I"⟩
abbrev cX7_at : ByteArray := prog_9_method_11_code
def yX7_at : MethodName := ⟨RX7, "at", "(II)I"⟩
abbrev cX7_areWays : ByteArray := prog_9_method_12_code
def yX7_areWays : MethodName := ⟨RX7, "areWays", "(I)Z"⟩
abbrev cX7_clear : ByteArray := prog_9_method_13_code
def yX7_clear : MethodName := ⟨RX7, "clear", "(II)V"⟩
abbrev cX7_lay : ByteArray := prog_9_method_14_code
def yX7_lay : MethodName := ⟨RX7, "lay", "(III)Z"⟩
abbrev cX7_isCell : ByteArray := prog_9_method_15_code
def yX7_isCell : MethodName := ⟨RX7, "isCell", "(IIII)Z"⟩
abbrev cX7_set : ByteArray := prog_9_method_16_code
def yX7_set : MethodName := ⟨RX7, "set", "(IIIII)Z"⟩
abbrev cX7_get : ByteArray := prog_9_method_17_code
def yX7_get : MethodName := ⟨RX7, "get", "(IIII)I"⟩
abbrev cX7_size : ByteArray := prog_9_method_18_code
def yX7_size : MethodName := ⟨RX7, "size", "(II)I"⟩
abbrev cX7_ways : ByteArray := prog_9_method_19_code
def yX7_ways : MethodName := ⟨RX7, "ways", "(I)I"⟩
abbrev cX7_span : ByteArray := prog_9_method_20_code
def yX7_span : MethodName := ⟨RX7, "span", "(IIII)Z"⟩
abbrev cX7_becomes : ByteArray := prog_9_method_21_code
def yX7_becomes : MethodName := ⟨RX7, "becomes", "(II)V"⟩
abbrev cX7_copies : ByteArray := prog_9_method_22_code
def yX7_copies : MethodName := ⟨RX7, "copies", "(I)V"⟩
abbrev cX7_beside : ByteArray := prog_9_method_23_code
def yX7_beside : MethodName := ⟨RX7, "beside", "(III)Z"⟩
abbrev cX7_mix : ByteArray := prog_9_method_24_code
def yX7_mix : MethodName := ⟨RX7, "mix", "(IIIII)Z"⟩
abbrev cX7_begin : ByteArray := prog_9_method_25_code
def yX7_begin : MethodName := ⟨RX7, "begin", "(I)V"⟩
abbrev cX7_newRow : ByteArray := prog_9_method_26_code
def yX7_newRow : MethodName := ⟨RX7, "newRow", "()[I"⟩
abbrev cX7_reduce : ByteArray := prog_9_method_27_code
def yX7_reduce : MethodName := ⟨RX7, "reduce", "()I"⟩
abbrev cX7_isLead : ByteArray := prog_9_method_28_code
def yX7_isLead : MethodName := ⟨RX7, "isLead", "(I)Z"⟩
abbrev cX7_turn : ByteArray := prog_9_method_29_code
def yX7_turn : MethodName := ⟨RX7, "turn", "(III)I"⟩
abbrev cX7_areAlong : ByteArray := prog_9_method_30_code
def yX7_areAlong : MethodName := ⟨RX7, "areAlong", "(II)Z"⟩
abbrev cX7_maps : ByteArray := prog_9_method_31_code
def yX7_maps : MethodName := ⟨RX7, "maps", "(II)I"⟩
abbrev cX7_form : ByteArray := prog_9_method_32_code
def yX7_form : MethodName := ⟨RX7, "form", "(II)I"⟩
abbrev cX7_bends : ByteArray := prog_9_method_33_code
def yX7_bends : MethodName := ⟨RX7, "bends", "(II)I"⟩
abbrev cX7_same : ByteArray := prog_9_method_34_code
def yX7_same : MethodName := ⟨RX7, "same", "(III)I"⟩
abbrev cX7_through : ByteArray := prog_9_method_35_code
def yX7_through : MethodName := ⟨RX7, "through", "(III)I"⟩
abbrev cX7_times : ByteArray := prog_9_method_36_code
def yX7_times : MethodName := ⟨RX7, "times", "(III)I"⟩
abbrev cX7_spans : ByteArray := prog_9_method_37_code
def yX7_spans : MethodName := ⟨RX7, "spans", "(III)I"⟩
abbrev cX7_like : ByteArray := prog_9_method_38_code
def yX7_like : MethodName := ⟨RX7, "like", "(II)Z"⟩
abbrev cX7_rank : ByteArray := prog_9_method_39_code
def yX7_rank : MethodName := ⟨RX7, "rank", "(III)I"⟩
abbrev cX7_list : ByteArray := prog_9_method_40_code
def yX7_list : MethodName := ⟨RX7, "list", "(II)V"⟩
abbrev cX7_cost : ByteArray := prog_9_method_41_code
def yX7_cost : MethodName := ⟨RX7, "cost", "(III)I"⟩
abbrev cX7_finds : ByteArray := prog_9_method_42_code
def yX7_finds : MethodName := ⟨RX7, "finds", "(III)Z"⟩
abbrev cX7_isCovered : ByteArray := prog_9_method_43_code
def yX7_isCovered : MethodName := ⟨RX7, "isCovered", "(II)Z"⟩
abbrev cX7_far : ByteArray := prog_9_method_44_code
def yX7_far : MethodName := ⟨RX7, "far", "(II)I"⟩
abbrev cX7_isTree : ByteArray := prog_9_method_45_code
def yX7_isTree : MethodName := ⟨RX7, "isTree", "(II)Z"⟩
abbrev cX7_twice : ByteArray := prog_9_method_46_code
def yX7_twice : MethodName := ⟨RX7, "twice", "(I[III)J"⟩
abbrev cX7_determinant : ByteArray := prog_9_method_47_code
def yX7_determinant : MethodName := ⟨RX7, "determinant", "(II)J"⟩
abbrev cX7_kind : ByteArray := prog_9_method_48_code
def yX7_kind : MethodName := ⟨RX7, "kind", "(II)I"⟩
abbrev cX7_value : ByteArray := prog_9_method_49_code
def yX7_value : MethodName := ⟨RX7, "value", "(I[B)I"⟩
abbrev cX7_isFound : ByteArray := prog_9_method_50_code
def yX7_isFound : MethodName := ⟨RX7, "isFound", "(II[B)Z"⟩
abbrev cX7_roots : ByteArray := prog_9_method_51_code
def yX7_roots : MethodName := ⟨RX7, "roots", "(II)I"⟩
abbrev cX7_isBehind : ByteArray := prog_9_method_52_code
def yX7_isBehind : MethodName := ⟨RX7, "isBehind", "(III)Z"⟩
abbrev cX7_count : ByteArray := prog_9_method_53_code
def yX7_count : MethodName := ⟨RX7, "count", "(I)I"⟩
def RJ9 : String := "java/lang/Math"
def TJ9 : u_T := fun k => match k with
  | _ => ("", "", "", false)
def tyJ9 : Nat → FieldType := fun k => match k with
  | _ => .int
abbrev wsJ90 : List Cond := u_ws RJ9 TJ9 0
theorem nmJ9 : ∀ a, a < 0 → ∀ b, b < 0 → a ≠ b → (TJ9 a).2.1 ≠ (TJ9 b).2.1 := by decide +kernel
theorem tyJ9_ok : ∀ k, k < 0 → parseFieldDescriptor (TJ9 k).2.2.1 = some (tyJ9 k) := by decide +kernel
abbrev cJ9_floorMod_7cf53 : ByteArray := prog_10_method_50_code
def yJ9_floorMod_7cf53 : MethodName := ⟨RJ9, "floorMod", "(II)I"⟩
abbrev cJ9_abs_0f7a4 : ByteArray := prog_10_method_59_code
def yJ9_abs_0f7a4 : MethodName := ⟨RJ9, "abs", "(I)I"⟩
abbrev cJ9_max_7cf53 : ByteArray := prog_10_method_65_code
def yJ9_max_7cf53 : MethodName := ⟨RJ9, "max", "(II)I"⟩
abbrev cJ9_min_7cf53 : ByteArray := prog_10_method_69_code
def yJ9_min_7cf53 : MethodName := ⟨RJ9, "min", "(II)I"⟩
def RJ10 : String := "java/lang/System"
def TJ10 : u_T := fun k => match k with
  | _ => ("", "", "", false)
def tyJ10 : Nat → FieldType := fun k => match k with
  | _ => .int
abbrev wsJ100 : List Cond := u_ws RJ10 TJ10 0
theorem nmJ10 : ∀ a, a < 0 → ∀ b, b < 0 → a ≠ b → (TJ10 a).2.1 ≠ (TJ10 b).2.1 := by decide +kernel
theorem tyJ10_ok : ∀ k, k < 0 → parseFieldDescriptor (TJ10 k).2.2.1 = some (tyJ10 k) := by decide +kernel
def RJ7 : String := "java/util/Arrays"
def TJ7 : u_T := fun k => match k with
  | _ => ("", "", "", false)
def tyJ7 : Nat → FieldType := fun k => match k with
  | _ => .int
abbrev wsJ70 : List Cond := u_ws RJ7 TJ7 0
theorem nmJ7 : ∀ a, a < 0 → ∀ b, b < 0 → a ≠ b → (TJ7 a).2.1 ≠ (TJ7 b).2.1 := by decide +kernel
theorem tyJ7_ok : ∀ k, k < 0 → parseFieldDescriptor (TJ7 k).2.2.1 = some (tyJ7 k) := by decide +kernel
abbrev cJ7_fill_53178 : ByteArray := prog_12_method_103_code
def yJ7_fill_53178 : MethodName := ⟨RJ7, "fill", "([II)V"⟩
def RL : String := "SpanLoomLaw"
abbrev cL_cell : ByteArray := method_2_code
def yL_cell : MethodName := ⟨RL, "cell", "([II)I"⟩
abbrev cL_law : ByteArray := code
def yL_law : MethodName := ⟨RL, "law", "([I)Z"⟩
end
section
theorem dX0_init_0 : decode cX0_init 0 = .ok (.aload_n 0, 1) := by decide +kernel
theorem dX0_init_1 : decode cX0_init 1 = .ok (.invokespecial 3, 3) := by decide +kernel
theorem dX0_init_4 : decode cX0_init 4 = .ok (.aload_n 0, 1) := by decide +kernel
theorem dX0_init_5 : decode cX0_init 5 = .ok (.bipush 8, 2) := by decide +kernel
theorem dX0_init_7 : decode cX0_init 7 = .ok (.newarray .int, 2) := by decide +kernel
theorem dX0_init_9 : decode cX0_init 9 = .ok (.putfield 9, 3) := by decide +kernel
theorem dX0_init_12 : decode cX0_init 12 = .ok (.aload_n 0, 1) := by decide +kernel
theorem dX0_init_13 : decode cX0_init 13 = .ok (.bipush 112, 2) := by decide +kernel
theorem dX0_init_15 : decode cX0_init 15 = .ok (.newarray .int, 2) := by decide +kernel
theorem dX0_init_17 : decode cX0_init 17 = .ok (.putfield 15, 3) := by decide +kernel
theorem dX0_init_20 : decode cX0_init 20 = .ok (.return_, 1) := by decide +kernel
theorem dX0_empty_0 : decode cX0_empty 0 = .ok (.aload_n 0, 1) := by decide +kernel
theorem dX0_empty_1 : decode cX0_empty 1 = .ok (.iload_n 1, 1) := by decide +kernel
theorem dX0_empty_2 : decode cX0_empty 2 = .ok (.putfield 18, 3) := by decide +kernel
theorem dX0_empty_5 : decode cX0_empty 5 = .ok (.aload_n 0, 1) := by decide +kernel
theorem dX0_empty_6 : decode cX0_empty 6 = .ok (.getfield 9, 3) := by decide +kernel
theorem dX0_empty_9 : decode cX0_empty 9 = .ok (.iconst 0, 1) := by decide +kernel
theorem dX0_empty_10 : decode cX0_empty 10 = .ok (.invokestatic 22, 3) := by decide +kernel
theorem dX0_empty_13 : decode cX0_empty 13 = .ok (.aload_n 0, 1) := by decide +kernel
theorem dX0_empty_14 : decode cX0_empty 14 = .ok (.getfield 15, 3) := by decide +kernel
theorem dX0_empty_17 : decode cX0_empty 17 = .ok (.iconst 0, 1) := by decide +kernel
theorem dX0_empty_18 : decode cX0_empty 18 = .ok (.invokestatic 22, 3) := by decide +kernel
theorem dX0_empty_21 : decode cX0_empty 21 = .ok (.return_, 1) := by decide +kernel
theorem dX0_copy_0 : decode cX0_copy 0 = .ok (.aload_n 0, 1) := by decide +kernel
theorem dX0_copy_1 : decode cX0_copy 1 = .ok (.aload_n 1, 1) := by decide +kernel
theorem dX0_copy_2 : decode cX0_copy 2 = .ok (.getfield 18, 3) := by decide +kernel
theorem dX0_copy_5 : decode cX0_copy 5 = .ok (.putfield 18, 3) := by decide +kernel
theorem dX0_copy_8 : decode cX0_copy 8 = .ok (.aload_n 1, 1) := by decide +kernel
theorem dX0_copy_9 : decode cX0_copy 9 = .ok (.getfield 9, 3) := by decide +kernel
theorem dX0_copy_12 : decode cX0_copy 12 = .ok (.iconst 0, 1) := by decide +kernel
theorem dX0_copy_13 : decode cX0_copy 13 = .ok (.aload_n 0, 1) := by decide +kernel
theorem dX0_copy_14 : decode cX0_copy 14 = .ok (.getfield 9, 3) := by decide +kernel
theorem dX0_copy_17 : decode cX0_copy 17 = .ok (.iconst 0, 1) := by decide +kernel
theorem dX0_copy_18 : decode cX0_copy 18 = .ok (.bipush 8, 2) := by decide +kernel
theorem dX0_copy_20 : decode cX0_copy 20 = .ok (.invokestatic 28, 3) := by decide +kernel
theorem dX0_copy_23 : decode cX0_copy 23 = .ok (.aload_n 1, 1) := by decide +kernel
theorem dX0_copy_24 : decode cX0_copy 24 = .ok (.getfield 15, 3) := by decide +kernel
theorem dX0_copy_27 : decode cX0_copy 27 = .ok (.iconst 0, 1) := by decide +kernel
theorem dX0_copy_28 : decode cX0_copy 28 = .ok (.aload_n 0, 1) := by decide +kernel
theorem dX0_copy_29 : decode cX0_copy 29 = .ok (.getfield 15, 3) := by decide +kernel
theorem dX0_copy_32 : decode cX0_copy 32 = .ok (.iconst 0, 1) := by decide +kernel
theorem dX0_copy_33 : decode cX0_copy 33 = .ok (.bipush 112, 2) := by decide +kernel
theorem dX0_copy_35 : decode cX0_copy 35 = .ok (.invokestatic 28, 3) := by decide +kernel
theorem dX0_copy_38 : decode cX0_copy 38 = .ok (.return_, 1) := by decide +kernel
theorem dX0_isLeft_0 : decode cX0_isLeft 0 = .ok (.aload_n 0, 1) := by decide +kernel
theorem dX0_isLeft_1 : decode cX0_isLeft 1 = .ok (.getfield 18, 3) := by decide +kernel
theorem dX0_isLeft_4 : decode cX0_isLeft 4 = .ok (.iload_n 1, 1) := by decide +kernel
theorem dX0_isLeft_5 : decode cX0_isLeft 5 = .ok (.ishr, 1) := by decide +kernel
theorem dX0_isLeft_6 : decode cX0_isLeft 6 = .ok (.iconst 1, 1) := by decide +kernel
theorem dX0_isLeft_7 : decode cX0_isLeft 7 = .ok (.iand, 1) := by decide +kernel
theorem dX0_isLeft_8 : decode cX0_isLeft 8 = .ok (.iconst 1, 1) := by decide +kernel
theorem dX0_isLeft_9 : decode cX0_isLeft 9 = .ok (.if_icmp .ne 7, 3) := by decide +kernel
theorem dX0_isLeft_12 : decode cX0_isLeft 12 = .ok (.iconst 1, 1) := by decide +kernel
theorem dX0_isLeft_13 : decode cX0_isLeft 13 = .ok (.goto 4, 3) := by decide +kernel
theorem dX0_isLeft_16 : decode cX0_isLeft 16 = .ok (.iconst 0, 1) := by decide +kernel
theorem dX0_isLeft_17 : decode cX0_isLeft 17 = .ok (.ireturn, 1) := by decide +kernel
theorem dX0_source_0 : decode cX0_source 0 = .ok (.aload_n 0, 1) := by decide +kernel
theorem dX0_source_1 : decode cX0_source 1 = .ok (.iload_n 1, 1) := by decide +kernel
theorem dX0_source_2 : decode cX0_source 2 = .ok (.invokevirtual 34, 3) := by decide +kernel
theorem dX0_source_5 : decode cX0_source 5 = .ok (.ifCond .eq 9, 3) := by decide +kernel
theorem dX0_source_8 : decode cX0_source 8 = .ok (.iload_n 1, 1) := by decide +kernel
theorem dX0_source_9 : decode cX0_source 9 = .ok (.iconst 1, 1) := by decide +kernel
theorem dX0_source_10 : decode cX0_source 10 = .ok (.iadd, 1) := by decide +kernel
theorem dX0_source_11 : decode cX0_source 11 = .ok (.goto 4, 3) := by decide +kernel
theorem dX0_source_14 : decode cX0_source 14 = .ok (.iload_n 1, 1) := by decide +kernel
theorem dX0_source_15 : decode cX0_source 15 = .ok (.ireturn, 1) := by decide +kernel
theorem dX0_target_0 : decode cX0_target 0 = .ok (.aload_n 0, 1) := by decide +kernel
theorem dX0_target_1 : decode cX0_target 1 = .ok (.iload_n 1, 1) := by decide +kernel
theorem dX0_target_2 : decode cX0_target 2 = .ok (.invokevirtual 34, 3) := by decide +kernel
theorem dX0_target_5 : decode cX0_target 5 = .ok (.ifCond .eq 7, 3) := by decide +kernel
theorem dX0_target_8 : decode cX0_target 8 = .ok (.iload_n 1, 1) := by decide +kernel
theorem dX0_target_9 : decode cX0_target 9 = .ok (.goto 6, 3) := by decide +kernel
theorem dX0_target_12 : decode cX0_target 12 = .ok (.iload_n 1, 1) := by decide +kernel
theorem dX0_target_13 : decode cX0_target 13 = .ok (.iconst 1, 1) := by decide +kernel
theorem dX0_target_14 : decode cX0_target 14 = .ok (.iadd, 1) := by decide +kernel
theorem dX0_target_15 : decode cX0_target 15 = .ok (.ireturn, 1) := by decide +kernel
theorem dX0_rowsOf_0 : decode cX0_rowsOf 0 = .ok (.aload_n 0, 1) := by decide +kernel
theorem dX0_rowsOf_1 : decode cX0_rowsOf 1 = .ok (.getfield 9, 3) := by decide +kernel
theorem dX0_rowsOf_4 : decode cX0_rowsOf 4 = .ok (.aload_n 0, 1) := by decide +kernel
theorem dX0_rowsOf_5 : decode cX0_rowsOf 5 = .ok (.iload_n 1, 1) := by decide +kernel
theorem dX0_rowsOf_6 : decode cX0_rowsOf 6 = .ok (.invokevirtual 38, 3) := by decide +kernel
theorem dX0_rowsOf_9 : decode cX0_rowsOf 9 = .ok (.iaload, 1) := by decide +kernel
theorem dX0_rowsOf_10 : decode cX0_rowsOf 10 = .ok (.ireturn, 1) := by decide +kernel
theorem dX0_columnsOf_0 : decode cX0_columnsOf 0 = .ok (.aload_n 0, 1) := by decide +kernel
theorem dX0_columnsOf_1 : decode cX0_columnsOf 1 = .ok (.getfield 9, 3) := by decide +kernel
theorem dX0_columnsOf_4 : decode cX0_columnsOf 4 = .ok (.aload_n 0, 1) := by decide +kernel
theorem dX0_columnsOf_5 : decode cX0_columnsOf 5 = .ok (.iload_n 1, 1) := by decide +kernel
theorem dX0_columnsOf_6 : decode cX0_columnsOf 6 = .ok (.invokevirtual 42, 3) := by decide +kernel
theorem dX0_columnsOf_9 : decode cX0_columnsOf 9 = .ok (.iaload, 1) := by decide +kernel
theorem dX0_columnsOf_10 : decode cX0_columnsOf 10 = .ok (.ireturn, 1) := by decide +kernel
theorem dX0_number_0 : decode cX0_number 0 = .ok (.aload_n 0, 1) := by decide +kernel
theorem dX0_number_1 : decode cX0_number 1 = .ok (.getfield 15, 3) := by decide +kernel
theorem dX0_number_4 : decode cX0_number 4 = .ok (.iload_n 1, 1) := by decide +kernel
theorem dX0_number_5 : decode cX0_number 5 = .ok (.bipush 16, 2) := by decide +kernel
theorem dX0_number_7 : decode cX0_number 7 = .ok (.imul, 1) := by decide +kernel
theorem dX0_number_8 : decode cX0_number 8 = .ok (.iload_n 2, 1) := by decide +kernel
theorem dX0_number_9 : decode cX0_number 9 = .ok (.iconst 4, 1) := by decide +kernel
theorem dX0_number_10 : decode cX0_number 10 = .ok (.imul, 1) := by decide +kernel
theorem dX0_number_11 : decode cX0_number 11 = .ok (.iadd, 1) := by decide +kernel
theorem dX0_number_12 : decode cX0_number 12 = .ok (.iload_n 3, 1) := by decide +kernel
theorem dX0_number_13 : decode cX0_number 13 = .ok (.iadd, 1) := by decide +kernel
theorem dX0_number_14 : decode cX0_number 14 = .ok (.iaload, 1) := by decide +kernel
theorem dX0_number_15 : decode cX0_number 15 = .ok (.ireturn, 1) := by decide +kernel
theorem dX0_numberBeside_0 : decode cX0_numberBeside 0 = .ok (.iload_n 2, 1) := by decide +kernel
theorem dX0_numberBeside_1 : decode cX0_numberBeside 1 = .ok (.ifCond .eq 14, 3) := by decide +kernel
theorem dX0_numberBeside_4 : decode cX0_numberBeside 4 = .ok (.aload_n 0, 1) := by decide +kernel
theorem dX0_numberBeside_5 : decode cX0_numberBeside 5 = .ok (.iload_n 1, 1) := by decide +kernel
theorem dX0_numberBeside_6 : decode cX0_numberBeside 6 = .ok (.iload_n 3, 1) := by decide +kernel
theorem dX0_numberBeside_7 : decode cX0_numberBeside 7 = .ok (.iload 4, 2) := by decide +kernel
theorem dX0_numberBeside_9 : decode cX0_numberBeside 9 = .ok (.invokevirtual 45, 3) := by decide +kernel
theorem dX0_numberBeside_12 : decode cX0_numberBeside 12 = .ok (.goto 11, 3) := by decide +kernel
theorem dX0_numberBeside_15 : decode cX0_numberBeside 15 = .ok (.aload_n 0, 1) := by decide +kernel
theorem dX0_numberBeside_16 : decode cX0_numberBeside 16 = .ok (.iload_n 1, 1) := by decide +kernel
theorem dX0_numberBeside_17 : decode cX0_numberBeside 17 = .ok (.iload 4, 2) := by decide +kernel
theorem dX0_numberBeside_19 : decode cX0_numberBeside 19 = .ok (.iload_n 3, 1) := by decide +kernel
theorem dX0_numberBeside_20 : decode cX0_numberBeside 20 = .ok (.invokevirtual 45, 3) := by decide +kernel
theorem dX0_numberBeside_23 : decode cX0_numberBeside 23 = .ok (.ireturn, 1) := by decide +kernel
theorem dX0_put_0 : decode cX0_put 0 = .ok (.aload_n 0, 1) := by decide +kernel
theorem dX0_put_1 : decode cX0_put 1 = .ok (.getfield 15, 3) := by decide +kernel
theorem dX0_put_4 : decode cX0_put 4 = .ok (.iload_n 1, 1) := by decide +kernel
theorem dX0_put_5 : decode cX0_put 5 = .ok (.bipush 16, 2) := by decide +kernel
theorem dX0_put_7 : decode cX0_put 7 = .ok (.imul, 1) := by decide +kernel
theorem dX0_put_8 : decode cX0_put 8 = .ok (.iload_n 2, 1) := by decide +kernel
theorem dX0_put_9 : decode cX0_put 9 = .ok (.iconst 4, 1) := by decide +kernel
theorem dX0_put_10 : decode cX0_put 10 = .ok (.imul, 1) := by decide +kernel
theorem dX0_put_11 : decode cX0_put 11 = .ok (.iadd, 1) := by decide +kernel
theorem dX0_put_12 : decode cX0_put 12 = .ok (.iload_n 3, 1) := by decide +kernel
theorem dX0_put_13 : decode cX0_put 13 = .ok (.iadd, 1) := by decide +kernel
theorem dX0_put_14 : decode cX0_put 14 = .ok (.iload 4, 2) := by decide +kernel
theorem dX0_put_16 : decode cX0_put 16 = .ok (.iastore, 1) := by decide +kernel
theorem dX0_put_17 : decode cX0_put 17 = .ok (.return_, 1) := by decide +kernel
theorem dX0_putTable_0 : decode cX0_putTable 0 = .ok (.aload_n 1, 1) := by decide +kernel
theorem dX0_putTable_1 : decode cX0_putTable 1 = .ok (.iload_n 2, 1) := by decide +kernel
theorem dX0_putTable_2 : decode cX0_putTable 2 = .ok (.invokevirtual 49, 3) := by decide +kernel
theorem dX0_putTable_5 : decode cX0_putTable 5 = .ok (.istore 5, 2) := by decide +kernel
theorem dX0_putTable_7 : decode cX0_putTable 7 = .ok (.aload_n 1, 1) := by decide +kernel
theorem dX0_putTable_8 : decode cX0_putTable 8 = .ok (.iload_n 2, 1) := by decide +kernel
theorem dX0_putTable_9 : decode cX0_putTable 9 = .ok (.invokevirtual 52, 3) := by decide +kernel
theorem dX0_putTable_12 : decode cX0_putTable 12 = .ok (.istore 6, 2) := by decide +kernel
theorem dX0_putTable_14 : decode cX0_putTable 14 = .ok (.iconst 0, 1) := by decide +kernel
theorem dX0_putTable_15 : decode cX0_putTable 15 = .ok (.istore 7, 2) := by decide +kernel
theorem dX0_putTable_17 : decode cX0_putTable 17 = .ok (.iload 7, 2) := by decide +kernel
theorem dX0_putTable_19 : decode cX0_putTable 19 = .ok (.iload 5, 2) := by decide +kernel
theorem dX0_putTable_21 : decode cX0_putTable 21 = .ok (.if_icmp .ge 48, 3) := by decide +kernel
theorem dX0_putTable_24 : decode cX0_putTable 24 = .ok (.iconst 0, 1) := by decide +kernel
theorem dX0_putTable_25 : decode cX0_putTable 25 = .ok (.istore 8, 2) := by decide +kernel
theorem dX0_putTable_27 : decode cX0_putTable 27 = .ok (.iload 8, 2) := by decide +kernel
theorem dX0_putTable_29 : decode cX0_putTable 29 = .ok (.iload 6, 2) := by decide +kernel
theorem dX0_putTable_31 : decode cX0_putTable 31 = .ok (.if_icmp .ge 32, 3) := by decide +kernel
theorem dX0_putTable_34 : decode cX0_putTable 34 = .ok (.aload_n 0, 1) := by decide +kernel
theorem dX0_putTable_35 : decode cX0_putTable 35 = .ok (.iload_n 2, 1) := by decide +kernel
theorem dX0_putTable_36 : decode cX0_putTable 36 = .ok (.iload_n 3, 1) := by decide +kernel
theorem dX0_putTable_37 : decode cX0_putTable 37 = .ok (.iload 7, 2) := by decide +kernel
theorem dX0_putTable_39 : decode cX0_putTable 39 = .ok (.iadd, 1) := by decide +kernel
theorem dX0_putTable_40 : decode cX0_putTable 40 = .ok (.iload 4, 2) := by decide +kernel
theorem dX0_putTable_42 : decode cX0_putTable 42 = .ok (.iload 8, 2) := by decide +kernel
theorem dX0_putTable_44 : decode cX0_putTable 44 = .ok (.iadd, 1) := by decide +kernel
theorem dX0_putTable_45 : decode cX0_putTable 45 = .ok (.aload_n 1, 1) := by decide +kernel
theorem dX0_putTable_46 : decode cX0_putTable 46 = .ok (.iload_n 2, 1) := by decide +kernel
theorem dX0_putTable_47 : decode cX0_putTable 47 = .ok (.iload 7, 2) := by decide +kernel
theorem dX0_putTable_49 : decode cX0_putTable 49 = .ok (.iload 8, 2) := by decide +kernel
theorem dX0_putTable_51 : decode cX0_putTable 51 = .ok (.invokevirtual 45, 3) := by decide +kernel
theorem dX0_putTable_54 : decode cX0_putTable 54 = .ok (.invokevirtual 55, 3) := by decide +kernel
theorem dX0_putTable_57 : decode cX0_putTable 57 = .ok (.iinc 8 1, 3) := by decide +kernel
theorem dX0_putTable_60 : decode cX0_putTable 60 = .ok (.goto (-33), 3) := by decide +kernel
theorem dX0_putTable_63 : decode cX0_putTable 63 = .ok (.iinc 7 1, 3) := by decide +kernel
theorem dX0_putTable_66 : decode cX0_putTable 66 = .ok (.goto (-49), 3) := by decide +kernel
theorem dX0_putTable_69 : decode cX0_putTable 69 = .ok (.return_, 1) := by decide +kernel
theorem dX0_reverse_0 : decode cX0_reverse 0 = .ok (.aload_n 0, 1) := by decide +kernel
theorem dX0_reverse_1 : decode cX0_reverse 1 = .ok (.dup, 1) := by decide +kernel
theorem dX0_reverse_2 : decode cX0_reverse 2 = .ok (.getfield 18, 3) := by decide +kernel
theorem dX0_reverse_5 : decode cX0_reverse 5 = .ok (.iconst 1, 1) := by decide +kernel
theorem dX0_reverse_6 : decode cX0_reverse 6 = .ok (.iload_n 1, 1) := by decide +kernel
theorem dX0_reverse_7 : decode cX0_reverse 7 = .ok (.ishl, 1) := by decide +kernel
theorem dX0_reverse_8 : decode cX0_reverse 8 = .ok (.ixor, 1) := by decide +kernel
theorem dX0_reverse_9 : decode cX0_reverse 9 = .ok (.putfield 18, 3) := by decide +kernel
theorem dX0_reverse_12 : decode cX0_reverse 12 = .ok (.iconst 0, 1) := by decide +kernel
theorem dX0_reverse_13 : decode cX0_reverse 13 = .ok (.istore_n 2, 1) := by decide +kernel
theorem dX0_reverse_14 : decode cX0_reverse 14 = .ok (.iload_n 2, 1) := by decide +kernel
theorem dX0_reverse_15 : decode cX0_reverse 15 = .ok (.bipush 16, 2) := by decide +kernel
theorem dX0_reverse_17 : decode cX0_reverse 17 = .ok (.if_icmp .ge 21, 3) := by decide +kernel
theorem dX0_reverse_20 : decode cX0_reverse 20 = .ok (.aload_n 0, 1) := by decide +kernel
theorem dX0_reverse_21 : decode cX0_reverse 21 = .ok (.getfield 15, 3) := by decide +kernel
theorem dX0_reverse_24 : decode cX0_reverse 24 = .ok (.iload_n 1, 1) := by decide +kernel
theorem dX0_reverse_25 : decode cX0_reverse 25 = .ok (.bipush 16, 2) := by decide +kernel
theorem dX0_reverse_27 : decode cX0_reverse 27 = .ok (.imul, 1) := by decide +kernel
theorem dX0_reverse_28 : decode cX0_reverse 28 = .ok (.iload_n 2, 1) := by decide +kernel
theorem dX0_reverse_29 : decode cX0_reverse 29 = .ok (.iadd, 1) := by decide +kernel
theorem dX0_reverse_30 : decode cX0_reverse 30 = .ok (.iconst 0, 1) := by decide +kernel
theorem dX0_reverse_31 : decode cX0_reverse 31 = .ok (.iastore, 1) := by decide +kernel
theorem dX0_reverse_32 : decode cX0_reverse 32 = .ok (.iinc 2 1, 3) := by decide +kernel
theorem dX0_reverse_35 : decode cX0_reverse 35 = .ok (.goto (-21), 3) := by decide +kernel
theorem dX0_reverse_38 : decode cX0_reverse 38 = .ok (.return_, 1) := by decide +kernel
theorem dX1_init_0 : decode cX1_init 0 = .ok (.aload_n 0, 1) := by decide +kernel
theorem dX1_init_1 : decode cX1_init 1 = .ok (.invokespecial 3, 3) := by decide +kernel
theorem dX1_init_4 : decode cX1_init 4 = .ok (.aload_n 0, 1) := by decide +kernel
theorem dX1_init_5 : decode cX1_init 5 = .ok (.bipush 32, 2) := by decide +kernel
theorem dX1_init_7 : decode cX1_init 7 = .ok (.newarray .int, 2) := by decide +kernel
theorem dX1_init_9 : decode cX1_init 9 = .ok (.putfield 9, 3) := by decide +kernel
theorem dX1_init_12 : decode cX1_init 12 = .ok (.aload_n 0, 1) := by decide +kernel
theorem dX1_init_13 : decode cX1_init 13 = .ok (.bipush 32, 2) := by decide +kernel
theorem dX1_init_15 : decode cX1_init 15 = .ok (.newarray .int, 2) := by decide +kernel
theorem dX1_init_17 : decode cX1_init 17 = .ok (.putfield 15, 3) := by decide +kernel
theorem dX1_init_20 : decode cX1_init 20 = .ok (.aload_n 0, 1) := by decide +kernel
theorem dX1_init_21 : decode cX1_init 21 = .ok (.bipush 32, 2) := by decide +kernel
theorem dX1_init_23 : decode cX1_init 23 = .ok (.newarray .int, 2) := by decide +kernel
theorem dX1_init_25 : decode cX1_init 25 = .ok (.putfield 18, 3) := by decide +kernel
theorem dX1_init_28 : decode cX1_init 28 = .ok (.aload_n 0, 1) := by decide +kernel
theorem dX1_init_29 : decode cX1_init 29 = .ok (.bipush 32, 2) := by decide +kernel
theorem dX1_init_31 : decode cX1_init 31 = .ok (.newarray .int, 2) := by decide +kernel
theorem dX1_init_33 : decode cX1_init 33 = .ok (.putfield 21, 3) := by decide +kernel
theorem dX1_init_36 : decode cX1_init 36 = .ok (.return_, 1) := by decide +kernel
theorem dX1_leastCost_0 : decode cX1_leastCost 0 = .ok (.iconst 0, 1) := by decide +kernel
theorem dX1_leastCost_1 : decode cX1_leastCost 1 = .ok (.istore 4, 2) := by decide +kernel
theorem dX1_leastCost_3 : decode cX1_leastCost 3 = .ok (.iload 4, 2) := by decide +kernel
theorem dX1_leastCost_5 : decode cX1_leastCost 5 = .ok (.iload_n 3, 1) := by decide +kernel
theorem dX1_leastCost_6 : decode cX1_leastCost 6 = .ok (.if_icmp .ge 34, 3) := by decide +kernel
theorem dX1_leastCost_9 : decode cX1_leastCost 9 = .ok (.aload_n 0, 1) := by decide +kernel
theorem dX1_leastCost_10 : decode cX1_leastCost 10 = .ok (.aload_n 1, 1) := by decide +kernel
theorem dX1_leastCost_11 : decode cX1_leastCost 11 = .ok (.aload_n 2, 1) := by decide +kernel
theorem dX1_leastCost_12 : decode cX1_leastCost 12 = .ok (.iload 4, 2) := by decide +kernel
theorem dX1_leastCost_14 : decode cX1_leastCost 14 = .ok (.invokevirtual 24, 3) := by decide +kernel
theorem dX1_leastCost_17 : decode cX1_leastCost 17 = .ok (.ifCond .eq 17, 3) := by decide +kernel
theorem dX1_leastCost_20 : decode cX1_leastCost 20 = .ok (.aload_n 0, 1) := by decide +kernel
theorem dX1_leastCost_21 : decode cX1_leastCost 21 = .ok (.aload_n 2, 1) := by decide +kernel
theorem dX1_leastCost_22 : decode cX1_leastCost 22 = .ok (.aload_n 1, 1) := by decide +kernel
theorem dX1_leastCost_23 : decode cX1_leastCost 23 = .ok (.iload 4, 2) := by decide +kernel
theorem dX1_leastCost_25 : decode cX1_leastCost 25 = .ok (.invokevirtual 24, 3) := by decide +kernel
theorem dX1_leastCost_28 : decode cX1_leastCost 28 = .ok (.ifCond .eq 6, 3) := by decide +kernel
theorem dX1_leastCost_31 : decode cX1_leastCost 31 = .ok (.iload 4, 2) := by decide +kernel
theorem dX1_leastCost_33 : decode cX1_leastCost 33 = .ok (.ireturn, 1) := by decide +kernel
theorem dX1_leastCost_34 : decode cX1_leastCost 34 = .ok (.iinc 4 1, 3) := by decide +kernel
theorem dX1_leastCost_37 : decode cX1_leastCost 37 = .ok (.goto (-34), 3) := by decide +kernel
theorem dX1_leastCost_40 : decode cX1_leastCost 40 = .ok (.iload_n 3, 1) := by decide +kernel
theorem dX1_leastCost_41 : decode cX1_leastCost 41 = .ok (.ireturn, 1) := by decide +kernel
theorem dX1_canPair_0 : decode cX1_canPair 0 = .ok (.aload_n 0, 1) := by decide +kernel
theorem dX1_canPair_1 : decode cX1_canPair 1 = .ok (.getfield 9, 3) := by decide +kernel
theorem dX1_canPair_4 : decode cX1_canPair 4 = .ok (.iconst (-1), 1) := by decide +kernel
theorem dX1_canPair_5 : decode cX1_canPair 5 = .ok (.invokestatic 28, 3) := by decide +kernel
theorem dX1_canPair_8 : decode cX1_canPair 8 = .ok (.aload_n 0, 1) := by decide +kernel
theorem dX1_canPair_9 : decode cX1_canPair 9 = .ok (.getfield 15, 3) := by decide +kernel
theorem dX1_canPair_12 : decode cX1_canPair 12 = .ok (.iconst (-1), 1) := by decide +kernel
theorem dX1_canPair_13 : decode cX1_canPair 13 = .ok (.invokestatic 28, 3) := by decide +kernel
theorem dX1_canPair_16 : decode cX1_canPair 16 = .ok (.iconst 0, 1) := by decide +kernel
theorem dX1_canPair_17 : decode cX1_canPair 17 = .ok (.istore 4, 2) := by decide +kernel
theorem dX1_canPair_19 : decode cX1_canPair 19 = .ok (.iload 4, 2) := by decide +kernel
theorem dX1_canPair_21 : decode cX1_canPair 21 = .ok (.aload_n 1, 1) := by decide +kernel
theorem dX1_canPair_22 : decode cX1_canPair 22 = .ok (.getfield 34, 3) := by decide +kernel
theorem dX1_canPair_25 : decode cX1_canPair 25 = .ok (.if_icmp .ge 56, 3) := by decide +kernel
theorem dX1_canPair_28 : decode cX1_canPair 28 = .ok (.aload_n 1, 1) := by decide +kernel
theorem dX1_canPair_29 : decode cX1_canPair 29 = .ok (.getfield 40, 3) := by decide +kernel
theorem dX1_canPair_32 : decode cX1_canPair 32 = .ok (.iload 4, 2) := by decide +kernel
theorem dX1_canPair_34 : decode cX1_canPair 34 = .ok (.iaload, 1) := by decide +kernel
theorem dX1_canPair_35 : decode cX1_canPair 35 = .ok (.aload_n 1, 1) := by decide +kernel
theorem dX1_canPair_36 : decode cX1_canPair 36 = .ok (.getfield 43, 3) := by decide +kernel
theorem dX1_canPair_39 : decode cX1_canPair 39 = .ok (.iload 4, 2) := by decide +kernel
theorem dX1_canPair_41 : decode cX1_canPair 41 = .ok (.iaload, 1) := by decide +kernel
theorem dX1_canPair_42 : decode cX1_canPair 42 = .ok (.isub, 1) := by decide +kernel
theorem dX1_canPair_43 : decode cX1_canPair 43 = .ok (.iconst 1, 1) := by decide +kernel
theorem dX1_canPair_44 : decode cX1_canPair 44 = .ok (.iadd, 1) := by decide +kernel
theorem dX1_canPair_45 : decode cX1_canPair 45 = .ok (.iload_n 3, 1) := by decide +kernel
theorem dX1_canPair_46 : decode cX1_canPair 46 = .ok (.if_icmp .le 7, 3) := by decide +kernel
theorem dX1_canPair_49 : decode cX1_canPair 49 = .ok (.iconst 1, 1) := by decide +kernel
theorem dX1_canPair_50 : decode cX1_canPair 50 = .ok (.goto 4, 3) := by decide +kernel
theorem dX1_canPair_53 : decode cX1_canPair 53 = .ok (.iconst 0, 1) := by decide +kernel
theorem dX1_canPair_54 : decode cX1_canPair 54 = .ok (.istore 5, 2) := by decide +kernel
theorem dX1_canPair_56 : decode cX1_canPair 56 = .ok (.iload 5, 2) := by decide +kernel
theorem dX1_canPair_58 : decode cX1_canPair 58 = .ok (.ifCond .eq 17, 3) := by decide +kernel
theorem dX1_canPair_61 : decode cX1_canPair 61 = .ok (.aload_n 0, 1) := by decide +kernel
theorem dX1_canPair_62 : decode cX1_canPair 62 = .ok (.aload_n 1, 1) := by decide +kernel
theorem dX1_canPair_63 : decode cX1_canPair 63 = .ok (.aload_n 2, 1) := by decide +kernel
theorem dX1_canPair_64 : decode cX1_canPair 64 = .ok (.iload 4, 2) := by decide +kernel
theorem dX1_canPair_66 : decode cX1_canPair 66 = .ok (.iload_n 3, 1) := by decide +kernel
theorem dX1_canPair_67 : decode cX1_canPair 67 = .ok (.invokevirtual 46, 3) := by decide +kernel
theorem dX1_canPair_70 : decode cX1_canPair 70 = .ok (.ifCond .ne 5, 3) := by decide +kernel
theorem dX1_canPair_73 : decode cX1_canPair 73 = .ok (.iconst 0, 1) := by decide +kernel
theorem dX1_canPair_74 : decode cX1_canPair 74 = .ok (.ireturn, 1) := by decide +kernel
theorem dX1_canPair_75 : decode cX1_canPair 75 = .ok (.iinc 4 1, 3) := by decide +kernel
theorem dX1_canPair_78 : decode cX1_canPair 78 = .ok (.goto (-59), 3) := by decide +kernel
theorem dX1_canPair_81 : decode cX1_canPair 81 = .ok (.iconst 1, 1) := by decide +kernel
theorem dX1_canPair_82 : decode cX1_canPair 82 = .ok (.ireturn, 1) := by decide +kernel
theorem dX1_pair_0 : decode cX1_pair 0 = .ok (.aload_n 0, 1) := by decide +kernel
theorem dX1_pair_1 : decode cX1_pair 1 = .ok (.getfield 18, 3) := by decide +kernel
theorem dX1_pair_4 : decode cX1_pair 4 = .ok (.iconst (-1), 1) := by decide +kernel
theorem dX1_pair_5 : decode cX1_pair 5 = .ok (.invokestatic 28, 3) := by decide +kernel
theorem dX1_pair_8 : decode cX1_pair 8 = .ok (.aload_n 0, 1) := by decide +kernel
theorem dX1_pair_9 : decode cX1_pair 9 = .ok (.getfield 21, 3) := by decide +kernel
theorem dX1_pair_12 : decode cX1_pair 12 = .ok (.iconst 0, 1) := by decide +kernel
theorem dX1_pair_13 : decode cX1_pair 13 = .ok (.iload_n 3, 1) := by decide +kernel
theorem dX1_pair_14 : decode cX1_pair 14 = .ok (.iastore, 1) := by decide +kernel
theorem dX1_pair_15 : decode cX1_pair 15 = .ok (.iconst 1, 1) := by decide +kernel
theorem dX1_pair_16 : decode cX1_pair 16 = .ok (.istore 5, 2) := by decide +kernel
theorem dX1_pair_18 : decode cX1_pair 18 = .ok (.iconst 0, 1) := by decide +kernel
theorem dX1_pair_19 : decode cX1_pair 19 = .ok (.istore 6, 2) := by decide +kernel
theorem dX1_pair_21 : decode cX1_pair 21 = .ok (.iload 6, 2) := by decide +kernel
theorem dX1_pair_23 : decode cX1_pair 23 = .ok (.iload 5, 2) := by decide +kernel
theorem dX1_pair_25 : decode cX1_pair 25 = .ok (.if_icmp .ge 117, 3) := by decide +kernel
theorem dX1_pair_28 : decode cX1_pair 28 = .ok (.iconst 0, 1) := by decide +kernel
theorem dX1_pair_29 : decode cX1_pair 29 = .ok (.istore 7, 2) := by decide +kernel
theorem dX1_pair_31 : decode cX1_pair 31 = .ok (.iload 7, 2) := by decide +kernel
theorem dX1_pair_33 : decode cX1_pair 33 = .ok (.aload_n 2, 1) := by decide +kernel
theorem dX1_pair_34 : decode cX1_pair 34 = .ok (.getfield 34, 3) := by decide +kernel
theorem dX1_pair_37 : decode cX1_pair 37 = .ok (.if_icmp .ge 99, 3) := by decide +kernel
theorem dX1_pair_40 : decode cX1_pair 40 = .ok (.aload_n 0, 1) := by decide +kernel
theorem dX1_pair_41 : decode cX1_pair 41 = .ok (.getfield 18, 3) := by decide +kernel
theorem dX1_pair_44 : decode cX1_pair 44 = .ok (.iload 7, 2) := by decide +kernel
theorem dX1_pair_46 : decode cX1_pair 46 = .ok (.iaload, 1) := by decide +kernel
theorem dX1_pair_47 : decode cX1_pair 47 = .ok (.iconst (-1), 1) := by decide +kernel
theorem dX1_pair_48 : decode cX1_pair 48 = .ok (.if_icmp .ne 82, 3) := by decide +kernel
theorem dX1_pair_51 : decode cX1_pair 51 = .ok (.aload_n 1, 1) := by decide +kernel
theorem dX1_pair_52 : decode cX1_pair 52 = .ok (.aload_n 0, 1) := by decide +kernel
theorem dX1_pair_53 : decode cX1_pair 53 = .ok (.getfield 21, 3) := by decide +kernel
theorem dX1_pair_56 : decode cX1_pair 56 = .ok (.iload 6, 2) := by decide +kernel
theorem dX1_pair_58 : decode cX1_pair 58 = .ok (.iaload, 1) := by decide +kernel
theorem dX1_pair_59 : decode cX1_pair 59 = .ok (.aload_n 2, 1) := by decide +kernel
theorem dX1_pair_60 : decode cX1_pair 60 = .ok (.iload 7, 2) := by decide +kernel
theorem dX1_pair_62 : decode cX1_pair 62 = .ok (.invokestatic 50, 3) := by decide +kernel
theorem dX1_pair_65 : decode cX1_pair 65 = .ok (.iload 4, 2) := by decide +kernel
theorem dX1_pair_67 : decode cX1_pair 67 = .ok (.if_icmp .le 6, 3) := by decide +kernel
theorem dX1_pair_70 : decode cX1_pair 70 = .ok (.goto 60, 3) := by decide +kernel
theorem dX1_pair_73 : decode cX1_pair 73 = .ok (.aload_n 0, 1) := by decide +kernel
theorem dX1_pair_74 : decode cX1_pair 74 = .ok (.getfield 18, 3) := by decide +kernel
theorem dX1_pair_77 : decode cX1_pair 77 = .ok (.iload 7, 2) := by decide +kernel
theorem dX1_pair_79 : decode cX1_pair 79 = .ok (.aload_n 0, 1) := by decide +kernel
theorem dX1_pair_80 : decode cX1_pair 80 = .ok (.getfield 21, 3) := by decide +kernel
theorem dX1_pair_83 : decode cX1_pair 83 = .ok (.iload 6, 2) := by decide +kernel
theorem dX1_pair_85 : decode cX1_pair 85 = .ok (.iaload, 1) := by decide +kernel
theorem dX1_pair_86 : decode cX1_pair 86 = .ok (.iastore, 1) := by decide +kernel
theorem dX1_pair_87 : decode cX1_pair 87 = .ok (.aload_n 0, 1) := by decide +kernel
theorem dX1_pair_88 : decode cX1_pair 88 = .ok (.getfield 15, 3) := by decide +kernel
theorem dX1_pair_91 : decode cX1_pair 91 = .ok (.iload 7, 2) := by decide +kernel
theorem dX1_pair_93 : decode cX1_pair 93 = .ok (.iaload, 1) := by decide +kernel
theorem dX1_pair_94 : decode cX1_pair 94 = .ok (.iconst (-1), 1) := by decide +kernel
theorem dX1_pair_95 : decode cX1_pair 95 = .ok (.if_icmp .ne 11, 3) := by decide +kernel
theorem dX1_pair_98 : decode cX1_pair 98 = .ok (.aload_n 0, 1) := by decide +kernel
theorem dX1_pair_99 : decode cX1_pair 99 = .ok (.iload 7, 2) := by decide +kernel
theorem dX1_pair_101 : decode cX1_pair 101 = .ok (.invokevirtual 54, 3) := by decide +kernel
theorem dX1_pair_104 : decode cX1_pair 104 = .ok (.iconst 1, 1) := by decide +kernel
theorem dX1_pair_105 : decode cX1_pair 105 = .ok (.ireturn, 1) := by decide +kernel
theorem dX1_pair_106 : decode cX1_pair 106 = .ok (.iload 5, 2) := by decide +kernel
theorem dX1_pair_108 : decode cX1_pair 108 = .ok (.bipush 32, 2) := by decide +kernel
theorem dX1_pair_110 : decode cX1_pair 110 = .ok (.if_icmp .ge 20, 3) := by decide +kernel
theorem dX1_pair_113 : decode cX1_pair 113 = .ok (.aload_n 0, 1) := by decide +kernel
theorem dX1_pair_114 : decode cX1_pair 114 = .ok (.getfield 21, 3) := by decide +kernel
theorem dX1_pair_117 : decode cX1_pair 117 = .ok (.iload 5, 2) := by decide +kernel
theorem dX1_pair_119 : decode cX1_pair 119 = .ok (.aload_n 0, 1) := by decide +kernel
theorem dX1_pair_120 : decode cX1_pair 120 = .ok (.getfield 15, 3) := by decide +kernel
theorem dX1_pair_123 : decode cX1_pair 123 = .ok (.iload 7, 2) := by decide +kernel
theorem dX1_pair_125 : decode cX1_pair 125 = .ok (.iaload, 1) := by decide +kernel
theorem dX1_pair_126 : decode cX1_pair 126 = .ok (.iastore, 1) := by decide +kernel
theorem dX1_pair_127 : decode cX1_pair 127 = .ok (.iinc 5 1, 3) := by decide +kernel
theorem dX1_pair_130 : decode cX1_pair 130 = .ok (.iinc 7 1, 3) := by decide +kernel
theorem dX1_pair_133 : decode cX1_pair 133 = .ok (.goto (-102), 3) := by decide +kernel
theorem dX1_pair_136 : decode cX1_pair 136 = .ok (.iinc 6 1, 3) := by decide +kernel
theorem dX1_pair_139 : decode cX1_pair 139 = .ok (.goto (-118), 3) := by decide +kernel
theorem dX1_pair_142 : decode cX1_pair 142 = .ok (.iconst 0, 1) := by decide +kernel
theorem dX1_pair_143 : decode cX1_pair 143 = .ok (.ireturn, 1) := by decide +kernel
theorem dX1_cost_0 : decode cX1_cost 0 = .ok (.aload_n 0, 1) := by decide +kernel
theorem dX1_cost_1 : decode cX1_cost 1 = .ok (.getfield 43, 3) := by decide +kernel
theorem dX1_cost_4 : decode cX1_cost 4 = .ok (.iload_n 1, 1) := by decide +kernel
theorem dX1_cost_5 : decode cX1_cost 5 = .ok (.iaload, 1) := by decide +kernel
theorem dX1_cost_6 : decode cX1_cost 6 = .ok (.aload_n 2, 1) := by decide +kernel
theorem dX1_cost_7 : decode cX1_cost 7 = .ok (.getfield 43, 3) := by decide +kernel
theorem dX1_cost_10 : decode cX1_cost 10 = .ok (.iload_n 3, 1) := by decide +kernel
theorem dX1_cost_11 : decode cX1_cost 11 = .ok (.iaload, 1) := by decide +kernel
theorem dX1_cost_12 : decode cX1_cost 12 = .ok (.isub, 1) := by decide +kernel
theorem dX1_cost_13 : decode cX1_cost 13 = .ok (.invokestatic 58, 3) := by decide +kernel
theorem dX1_cost_16 : decode cX1_cost 16 = .ok (.istore 4, 2) := by decide +kernel
theorem dX1_cost_18 : decode cX1_cost 18 = .ok (.aload_n 0, 1) := by decide +kernel
theorem dX1_cost_19 : decode cX1_cost 19 = .ok (.getfield 40, 3) := by decide +kernel
theorem dX1_cost_22 : decode cX1_cost 22 = .ok (.iload_n 1, 1) := by decide +kernel
theorem dX1_cost_23 : decode cX1_cost 23 = .ok (.iaload, 1) := by decide +kernel
theorem dX1_cost_24 : decode cX1_cost 24 = .ok (.aload_n 2, 1) := by decide +kernel
theorem dX1_cost_25 : decode cX1_cost 25 = .ok (.getfield 40, 3) := by decide +kernel
theorem dX1_cost_28 : decode cX1_cost 28 = .ok (.iload_n 3, 1) := by decide +kernel
theorem dX1_cost_29 : decode cX1_cost 29 = .ok (.iaload, 1) := by decide +kernel
theorem dX1_cost_30 : decode cX1_cost 30 = .ok (.isub, 1) := by decide +kernel
theorem dX1_cost_31 : decode cX1_cost 31 = .ok (.invokestatic 58, 3) := by decide +kernel
theorem dX1_cost_34 : decode cX1_cost 34 = .ok (.istore 5, 2) := by decide +kernel
theorem dX1_cost_36 : decode cX1_cost 36 = .ok (.iconst 2, 1) := by decide +kernel
theorem dX1_cost_37 : decode cX1_cost 37 = .ok (.iload 4, 2) := by decide +kernel
theorem dX1_cost_39 : decode cX1_cost 39 = .ok (.iload 5, 2) := by decide +kernel
theorem dX1_cost_41 : decode cX1_cost 41 = .ok (.invokestatic 64, 3) := by decide +kernel
theorem dX1_cost_44 : decode cX1_cost 44 = .ok (.imul, 1) := by decide +kernel
theorem dX1_cost_45 : decode cX1_cost 45 = .ok (.ireturn, 1) := by decide +kernel
theorem dX1_change_0 : decode cX1_change 0 = .ok (.iload_n 1, 1) := by decide +kernel
theorem dX1_change_1 : decode cX1_change 1 = .ok (.istore_n 2, 1) := by decide +kernel
theorem dX1_change_2 : decode cX1_change 2 = .ok (.iconst 0, 1) := by decide +kernel
theorem dX1_change_3 : decode cX1_change 3 = .ok (.istore_n 3, 1) := by decide +kernel
theorem dX1_change_4 : decode cX1_change 4 = .ok (.iload_n 3, 1) := by decide +kernel
theorem dX1_change_5 : decode cX1_change 5 = .ok (.bipush 32, 2) := by decide +kernel
theorem dX1_change_7 : decode cX1_change 7 = .ok (.if_icmp .ge 50, 3) := by decide +kernel
theorem dX1_change_10 : decode cX1_change 10 = .ok (.iload_n 2, 1) := by decide +kernel
theorem dX1_change_11 : decode cX1_change 11 = .ok (.iconst (-1), 1) := by decide +kernel
theorem dX1_change_12 : decode cX1_change 12 = .ok (.if_icmp .eq 45, 3) := by decide +kernel
theorem dX1_change_15 : decode cX1_change 15 = .ok (.aload_n 0, 1) := by decide +kernel
theorem dX1_change_16 : decode cX1_change 16 = .ok (.getfield 18, 3) := by decide +kernel
theorem dX1_change_19 : decode cX1_change 19 = .ok (.iload_n 2, 1) := by decide +kernel
theorem dX1_change_20 : decode cX1_change 20 = .ok (.iaload, 1) := by decide +kernel
theorem dX1_change_21 : decode cX1_change 21 = .ok (.istore 4, 2) := by decide +kernel
theorem dX1_change_23 : decode cX1_change 23 = .ok (.aload_n 0, 1) := by decide +kernel
theorem dX1_change_24 : decode cX1_change 24 = .ok (.getfield 9, 3) := by decide +kernel
theorem dX1_change_27 : decode cX1_change 27 = .ok (.iload 4, 2) := by decide +kernel
theorem dX1_change_29 : decode cX1_change 29 = .ok (.iaload, 1) := by decide +kernel
theorem dX1_change_30 : decode cX1_change 30 = .ok (.istore 5, 2) := by decide +kernel
theorem dX1_change_32 : decode cX1_change 32 = .ok (.aload_n 0, 1) := by decide +kernel
theorem dX1_change_33 : decode cX1_change 33 = .ok (.getfield 9, 3) := by decide +kernel
theorem dX1_change_36 : decode cX1_change 36 = .ok (.iload 4, 2) := by decide +kernel
theorem dX1_change_38 : decode cX1_change 38 = .ok (.iload_n 2, 1) := by decide +kernel
theorem dX1_change_39 : decode cX1_change 39 = .ok (.iastore, 1) := by decide +kernel
theorem dX1_change_40 : decode cX1_change 40 = .ok (.aload_n 0, 1) := by decide +kernel
theorem dX1_change_41 : decode cX1_change 41 = .ok (.getfield 15, 3) := by decide +kernel
theorem dX1_change_44 : decode cX1_change 44 = .ok (.iload_n 2, 1) := by decide +kernel
theorem dX1_change_45 : decode cX1_change 45 = .ok (.iload 4, 2) := by decide +kernel
theorem dX1_change_47 : decode cX1_change 47 = .ok (.iastore, 1) := by decide +kernel
theorem dX1_change_48 : decode cX1_change 48 = .ok (.iload 5, 2) := by decide +kernel
theorem dX1_change_50 : decode cX1_change 50 = .ok (.istore_n 2, 1) := by decide +kernel
theorem dX1_change_51 : decode cX1_change 51 = .ok (.iinc 3 1, 3) := by decide +kernel
theorem dX1_change_54 : decode cX1_change 54 = .ok (.goto (-50), 3) := by decide +kernel
theorem dX1_change_57 : decode cX1_change 57 = .ok (.return_, 1) := by decide +kernel
theorem dX2_init_0 : decode cX2_init 0 = .ok (.aload_n 0, 1) := by decide +kernel
theorem dX2_init_1 : decode cX2_init 1 = .ok (.invokespecial 3, 3) := by decide +kernel
theorem dX2_init_4 : decode cX2_init 4 = .ok (.aload_n 0, 1) := by decide +kernel
theorem dX2_init_5 : decode cX2_init 5 = .ok (.bipush 10, 2) := by decide +kernel
theorem dX2_init_7 : decode cX2_init 7 = .ok (.bipush 10, 2) := by decide +kernel
theorem dX2_init_9 : decode cX2_init 9 = .ok (.multianewarray 9 2, 4) := by decide +kernel
theorem dX2_init_13 : decode cX2_init 13 = .ok (.putfield 11, 3) := by decide +kernel
theorem dX2_init_16 : decode cX2_init 16 = .ok (.aload_n 0, 1) := by decide +kernel
theorem dX2_init_17 : decode cX2_init 17 = .ok (.iload_n 1, 1) := by decide +kernel
theorem dX2_init_18 : decode cX2_init 18 = .ok (.putfield 16, 3) := by decide +kernel
theorem dX2_init_21 : decode cX2_init 21 = .ok (.aload_n 0, 1) := by decide +kernel
theorem dX2_init_22 : decode cX2_init 22 = .ok (.iload_n 2, 1) := by decide +kernel
theorem dX2_init_23 : decode cX2_init 23 = .ok (.putfield 20, 3) := by decide +kernel
theorem dX2_init_26 : decode cX2_init 26 = .ok (.aload_n 0, 1) := by decide +kernel
theorem dX2_init_27 : decode cX2_init 27 = .ok (.new 23, 3) := by decide +kernel
theorem dX2_init_30 : decode cX2_init 30 = .ok (.dup, 1) := by decide +kernel
theorem dX2_init_31 : decode cX2_init 31 = .ok (.iload_n 1, 1) := by decide +kernel
theorem dX2_init_32 : decode cX2_init 32 = .ok (.invokespecial 25, 3) := by decide +kernel
theorem dX2_init_35 : decode cX2_init 35 = .ok (.putfield 28, 3) := by decide +kernel
theorem dX2_init_38 : decode cX2_init 38 = .ok (.aload_n 0, 1) := by decide +kernel
theorem dX2_init_39 : decode cX2_init 39 = .ok (.new 23, 3) := by decide +kernel
theorem dX2_init_42 : decode cX2_init 42 = .ok (.dup, 1) := by decide +kernel
theorem dX2_init_43 : decode cX2_init 43 = .ok (.iload_n 1, 1) := by decide +kernel
theorem dX2_init_44 : decode cX2_init 44 = .ok (.invokespecial 25, 3) := by decide +kernel
theorem dX2_init_47 : decode cX2_init 47 = .ok (.putfield 32, 3) := by decide +kernel
theorem dX2_init_50 : decode cX2_init 50 = .ok (.aload_n 0, 1) := by decide +kernel
theorem dX2_init_51 : decode cX2_init 51 = .ok (.new 23, 3) := by decide +kernel
theorem dX2_init_54 : decode cX2_init 54 = .ok (.dup, 1) := by decide +kernel
theorem dX2_init_55 : decode cX2_init 55 = .ok (.iload_n 1, 1) := by decide +kernel
theorem dX2_init_56 : decode cX2_init 56 = .ok (.invokespecial 25, 3) := by decide +kernel
theorem dX2_init_59 : decode cX2_init 59 = .ok (.putfield 35, 3) := by decide +kernel
theorem dX2_init_62 : decode cX2_init 62 = .ok (.aload_n 0, 1) := by decide +kernel
theorem dX2_init_63 : decode cX2_init 63 = .ok (.new 23, 3) := by decide +kernel
theorem dX2_init_66 : decode cX2_init 66 = .ok (.dup, 1) := by decide +kernel
theorem dX2_init_67 : decode cX2_init 67 = .ok (.iload_n 1, 1) := by decide +kernel
theorem dX2_init_68 : decode cX2_init 68 = .ok (.invokespecial 25, 3) := by decide +kernel
theorem dX2_init_71 : decode cX2_init 71 = .ok (.putfield 38, 3) := by decide +kernel
theorem dX2_init_74 : decode cX2_init 74 = .ok (.return_, 1) := by decide +kernel
theorem dX2_part_0 : decode cX2_part 0 = .ok (.iconst 0, 1) := by decide +kernel
theorem dX2_part_1 : decode cX2_part 1 = .ok (.istore_n 3, 1) := by decide +kernel
theorem dX2_part_2 : decode cX2_part 2 = .ok (.iload_n 3, 1) := by decide +kernel
theorem dX2_part_3 : decode cX2_part 3 = .ok (.aload_n 0, 1) := by decide +kernel
theorem dX2_part_4 : decode cX2_part 4 = .ok (.getfield 20, 3) := by decide +kernel
theorem dX2_part_7 : decode cX2_part 7 = .ok (.if_icmp .ge 21, 3) := by decide +kernel
theorem dX2_part_10 : decode cX2_part 10 = .ok (.aload_n 0, 1) := by decide +kernel
theorem dX2_part_11 : decode cX2_part 11 = .ok (.aload_n 1, 1) := by decide +kernel
theorem dX2_part_12 : decode cX2_part 12 = .ok (.iload_n 3, 1) := by decide +kernel
theorem dX2_part_13 : decode cX2_part 13 = .ok (.aload_n 0, 1) := by decide +kernel
theorem dX2_part_14 : decode cX2_part 14 = .ok (.getfield 20, 3) := by decide +kernel
theorem dX2_part_17 : decode cX2_part 17 = .ok (.iconst 1, 1) := by decide +kernel
theorem dX2_part_18 : decode cX2_part 18 = .ok (.isub, 1) := by decide +kernel
theorem dX2_part_19 : decode cX2_part 19 = .ok (.invokevirtual 41, 3) := by decide +kernel
theorem dX2_part_22 : decode cX2_part 22 = .ok (.iinc 3 1, 3) := by decide +kernel
theorem dX2_part_25 : decode cX2_part 25 = .ok (.goto (-23), 3) := by decide +kernel
theorem dX2_part_28 : decode cX2_part 28 = .ok (.aload_n 2, 1) := by decide +kernel
theorem dX2_part_29 : decode cX2_part 29 = .ok (.invokevirtual 45, 3) := by decide +kernel
theorem dX2_part_32 : decode cX2_part 32 = .ok (.iconst 0, 1) := by decide +kernel
theorem dX2_part_33 : decode cX2_part 33 = .ok (.istore_n 3, 1) := by decide +kernel
theorem dX2_part_34 : decode cX2_part 34 = .ok (.iload_n 3, 1) := by decide +kernel
theorem dX2_part_35 : decode cX2_part 35 = .ok (.aload_n 0, 1) := by decide +kernel
theorem dX2_part_36 : decode cX2_part 36 = .ok (.getfield 20, 3) := by decide +kernel
theorem dX2_part_39 : decode cX2_part 39 = .ok (.if_icmp .ge 59, 3) := by decide +kernel
theorem dX2_part_42 : decode cX2_part 42 = .ok (.iload_n 3, 1) := by decide +kernel
theorem dX2_part_43 : decode cX2_part 43 = .ok (.istore 4, 2) := by decide +kernel
theorem dX2_part_45 : decode cX2_part 45 = .ok (.iload 4, 2) := by decide +kernel
theorem dX2_part_47 : decode cX2_part 47 = .ok (.aload_n 0, 1) := by decide +kernel
theorem dX2_part_48 : decode cX2_part 48 = .ok (.getfield 20, 3) := by decide +kernel
theorem dX2_part_51 : decode cX2_part 51 = .ok (.if_icmp .ge 41, 3) := by decide +kernel
theorem dX2_part_54 : decode cX2_part 54 = .ok (.aload_n 0, 1) := by decide +kernel
theorem dX2_part_55 : decode cX2_part 55 = .ok (.iload_n 3, 1) := by decide +kernel
theorem dX2_part_56 : decode cX2_part 56 = .ok (.iload 4, 2) := by decide +kernel
theorem dX2_part_58 : decode cX2_part 58 = .ok (.invokevirtual 50, 3) := by decide +kernel
theorem dX2_part_61 : decode cX2_part 61 = .ok (.istore 5, 2) := by decide +kernel
theorem dX2_part_63 : decode cX2_part 63 = .ok (.iconst 0, 1) := by decide +kernel
theorem dX2_part_64 : decode cX2_part 64 = .ok (.istore 6, 2) := by decide +kernel
theorem dX2_part_66 : decode cX2_part 66 = .ok (.iload 6, 2) := by decide +kernel
theorem dX2_part_68 : decode cX2_part 68 = .ok (.iload 5, 2) := by decide +kernel
theorem dX2_part_70 : decode cX2_part 70 = .ok (.if_icmp .ge 16, 3) := by decide +kernel
theorem dX2_part_73 : decode cX2_part 73 = .ok (.aload_n 2, 1) := by decide +kernel
theorem dX2_part_74 : decode cX2_part 74 = .ok (.iload_n 3, 1) := by decide +kernel
theorem dX2_part_75 : decode cX2_part 75 = .ok (.iload 4, 2) := by decide +kernel
theorem dX2_part_77 : decode cX2_part 77 = .ok (.invokevirtual 54, 3) := by decide +kernel
theorem dX2_part_80 : decode cX2_part 80 = .ok (.iinc 6 1, 3) := by decide +kernel
theorem dX2_part_83 : decode cX2_part 83 = .ok (.goto (-17), 3) := by decide +kernel
theorem dX2_part_86 : decode cX2_part 86 = .ok (.iinc 4 1, 3) := by decide +kernel
theorem dX2_part_89 : decode cX2_part 89 = .ok (.goto (-44), 3) := by decide +kernel
theorem dX2_part_92 : decode cX2_part 92 = .ok (.iinc 3 1, 3) := by decide +kernel
theorem dX2_part_95 : decode cX2_part 95 = .ok (.goto (-61), 3) := by decide +kernel
theorem dX2_part_98 : decode cX2_part 98 = .ok (.return_, 1) := by decide +kernel
theorem dX2_times_0 : decode cX2_times 0 = .ok (.iload_n 3, 1) := by decide +kernel
theorem dX2_times_1 : decode cX2_times 1 = .ok (.iconst 1, 1) := by decide +kernel
theorem dX2_times_2 : decode cX2_times 2 = .ok (.iadd, 1) := by decide +kernel
theorem dX2_times_3 : decode cX2_times 3 = .ok (.aload_n 0, 1) := by decide +kernel
theorem dX2_times_4 : decode cX2_times 4 = .ok (.getfield 20, 3) := by decide +kernel
theorem dX2_times_7 : decode cX2_times 7 = .ok (.iconst 1, 1) := by decide +kernel
theorem dX2_times_8 : decode cX2_times 8 = .ok (.isub, 1) := by decide +kernel
theorem dX2_times_9 : decode cX2_times 9 = .ok (.invokestatic 58, 3) := by decide +kernel
theorem dX2_times_12 : decode cX2_times 12 = .ok (.istore 4, 2) := by decide +kernel
theorem dX2_times_14 : decode cX2_times 14 = .ok (.iload_n 2, 1) := by decide +kernel
theorem dX2_times_15 : decode cX2_times 15 = .ok (.ifCond .le 13, 3) := by decide +kernel
theorem dX2_times_18 : decode cX2_times 18 = .ok (.aload_n 0, 1) := by decide +kernel
theorem dX2_times_19 : decode cX2_times 19 = .ok (.aload_n 1, 1) := by decide +kernel
theorem dX2_times_20 : decode cX2_times 20 = .ok (.iload_n 2, 1) := by decide +kernel
theorem dX2_times_21 : decode cX2_times 21 = .ok (.iconst 1, 1) := by decide +kernel
theorem dX2_times_22 : decode cX2_times 22 = .ok (.isub, 1) := by decide +kernel
theorem dX2_times_23 : decode cX2_times 23 = .ok (.iload 4, 2) := by decide +kernel
theorem dX2_times_25 : decode cX2_times 25 = .ok (.invokevirtual 41, 3) := by decide +kernel
theorem dX2_times_28 : decode cX2_times 28 = .ok (.aload_n 0, 1) := by decide +kernel
theorem dX2_times_29 : decode cX2_times 29 = .ok (.aload_n 1, 1) := by decide +kernel
theorem dX2_times_30 : decode cX2_times 30 = .ok (.iload_n 2, 1) := by decide +kernel
theorem dX2_times_31 : decode cX2_times 31 = .ok (.iload 4, 2) := by decide +kernel
theorem dX2_times_33 : decode cX2_times 33 = .ok (.invokevirtual 41, 3) := by decide +kernel
theorem dX2_times_36 : decode cX2_times 36 = .ok (.aload_n 0, 1) := by decide +kernel
theorem dX2_times_37 : decode cX2_times 37 = .ok (.iload_n 2, 1) := by decide +kernel
theorem dX2_times_38 : decode cX2_times 38 = .ok (.iload_n 3, 1) := by decide +kernel
theorem dX2_times_39 : decode cX2_times 39 = .ok (.invokevirtual 50, 3) := by decide +kernel
theorem dX2_times_42 : decode cX2_times 42 = .ok (.ireturn, 1) := by decide +kernel
theorem dX2_covering_0 : decode cX2_covering 0 = .ok (.aload_n 0, 1) := by decide +kernel
theorem dX2_covering_1 : decode cX2_covering 1 = .ok (.aload_n 1, 1) := by decide +kernel
theorem dX2_covering_2 : decode cX2_covering 2 = .ok (.iload_n 2, 1) := by decide +kernel
theorem dX2_covering_3 : decode cX2_covering 3 = .ok (.iload_n 3, 1) := by decide +kernel
theorem dX2_covering_4 : decode cX2_covering 4 = .ok (.invokevirtual 41, 3) := by decide +kernel
theorem dX2_covering_7 : decode cX2_covering 7 = .ok (.aload_n 0, 1) := by decide +kernel
theorem dX2_covering_8 : decode cX2_covering 8 = .ok (.getfield 11, 3) := by decide +kernel
theorem dX2_covering_11 : decode cX2_covering 11 = .ok (.iload_n 2, 1) := by decide +kernel
theorem dX2_covering_12 : decode cX2_covering 12 = .ok (.iconst 1, 1) := by decide +kernel
theorem dX2_covering_13 : decode cX2_covering 13 = .ok (.iadd, 1) := by decide +kernel
theorem dX2_covering_14 : decode cX2_covering 14 = .ok (.aaload, 1) := by decide +kernel
theorem dX2_covering_15 : decode cX2_covering 15 = .ok (.iload_n 3, 1) := by decide +kernel
theorem dX2_covering_16 : decode cX2_covering 16 = .ok (.iconst 1, 1) := by decide +kernel
theorem dX2_covering_17 : decode cX2_covering 17 = .ok (.iadd, 1) := by decide +kernel
theorem dX2_covering_18 : decode cX2_covering 18 = .ok (.iaload, 1) := by decide +kernel
theorem dX2_covering_19 : decode cX2_covering 19 = .ok (.ireturn, 1) := by decide +kernel
theorem dX2_timesByCovers_0 : decode cX2_timesByCovers 0 = .ok (.aload_n 0, 1) := by decide +kernel
theorem dX2_timesByCovers_1 : decode cX2_timesByCovers 1 = .ok (.getfield 11, 3) := by decide +kernel
theorem dX2_timesByCovers_4 : decode cX2_timesByCovers 4 = .ok (.iload_n 1, 1) := by decide +kernel
theorem dX2_timesByCovers_5 : decode cX2_timesByCovers 5 = .ok (.iconst 1, 1) := by decide +kernel
theorem dX2_timesByCovers_6 : decode cX2_timesByCovers 6 = .ok (.iadd, 1) := by decide +kernel
theorem dX2_timesByCovers_7 : decode cX2_timesByCovers 7 = .ok (.aaload, 1) := by decide +kernel
theorem dX2_timesByCovers_8 : decode cX2_timesByCovers 8 = .ok (.iload_n 2, 1) := by decide +kernel
theorem dX2_timesByCovers_9 : decode cX2_timesByCovers 9 = .ok (.iconst 1, 1) := by decide +kernel
theorem dX2_timesByCovers_10 : decode cX2_timesByCovers 10 = .ok (.iadd, 1) := by decide +kernel
theorem dX2_timesByCovers_11 : decode cX2_timesByCovers 11 = .ok (.iaload, 1) := by decide +kernel
theorem dX2_timesByCovers_12 : decode cX2_timesByCovers 12 = .ok (.aload_n 0, 1) := by decide +kernel
theorem dX2_timesByCovers_13 : decode cX2_timesByCovers 13 = .ok (.getfield 11, 3) := by decide +kernel
theorem dX2_timesByCovers_16 : decode cX2_timesByCovers 16 = .ok (.iload_n 1, 1) := by decide +kernel
theorem dX2_timesByCovers_17 : decode cX2_timesByCovers 17 = .ok (.aaload, 1) := by decide +kernel
theorem dX2_timesByCovers_18 : decode cX2_timesByCovers 18 = .ok (.iload_n 2, 1) := by decide +kernel
theorem dX2_timesByCovers_19 : decode cX2_timesByCovers 19 = .ok (.iconst 1, 1) := by decide +kernel
theorem dX2_timesByCovers_20 : decode cX2_timesByCovers 20 = .ok (.iadd, 1) := by decide +kernel
theorem dX2_timesByCovers_21 : decode cX2_timesByCovers 21 = .ok (.iaload, 1) := by decide +kernel
theorem dX2_timesByCovers_22 : decode cX2_timesByCovers 22 = .ok (.isub, 1) := by decide +kernel
theorem dX2_timesByCovers_23 : decode cX2_timesByCovers 23 = .ok (.aload_n 0, 1) := by decide +kernel
theorem dX2_timesByCovers_24 : decode cX2_timesByCovers 24 = .ok (.getfield 11, 3) := by decide +kernel
theorem dX2_timesByCovers_27 : decode cX2_timesByCovers 27 = .ok (.iload_n 1, 1) := by decide +kernel
theorem dX2_timesByCovers_28 : decode cX2_timesByCovers 28 = .ok (.iconst 1, 1) := by decide +kernel
theorem dX2_timesByCovers_29 : decode cX2_timesByCovers 29 = .ok (.iadd, 1) := by decide +kernel
theorem dX2_timesByCovers_30 : decode cX2_timesByCovers 30 = .ok (.aaload, 1) := by decide +kernel
theorem dX2_timesByCovers_31 : decode cX2_timesByCovers 31 = .ok (.iload_n 2, 1) := by decide +kernel
theorem dX2_timesByCovers_32 : decode cX2_timesByCovers 32 = .ok (.iconst 2, 1) := by decide +kernel
theorem dX2_timesByCovers_33 : decode cX2_timesByCovers 33 = .ok (.iadd, 1) := by decide +kernel
theorem dX2_timesByCovers_34 : decode cX2_timesByCovers 34 = .ok (.iaload, 1) := by decide +kernel
theorem dX2_timesByCovers_35 : decode cX2_timesByCovers 35 = .ok (.isub, 1) := by decide +kernel
theorem dX2_timesByCovers_36 : decode cX2_timesByCovers 36 = .ok (.aload_n 0, 1) := by decide +kernel
theorem dX2_timesByCovers_37 : decode cX2_timesByCovers 37 = .ok (.getfield 11, 3) := by decide +kernel
theorem dX2_timesByCovers_40 : decode cX2_timesByCovers 40 = .ok (.iload_n 1, 1) := by decide +kernel
theorem dX2_timesByCovers_41 : decode cX2_timesByCovers 41 = .ok (.aaload, 1) := by decide +kernel
theorem dX2_timesByCovers_42 : decode cX2_timesByCovers 42 = .ok (.iload_n 2, 1) := by decide +kernel
theorem dX2_timesByCovers_43 : decode cX2_timesByCovers 43 = .ok (.iconst 2, 1) := by decide +kernel
theorem dX2_timesByCovers_44 : decode cX2_timesByCovers 44 = .ok (.iadd, 1) := by decide +kernel
theorem dX2_timesByCovers_45 : decode cX2_timesByCovers 45 = .ok (.iaload, 1) := by decide +kernel
theorem dX2_timesByCovers_46 : decode cX2_timesByCovers 46 = .ok (.iadd, 1) := by decide +kernel
theorem dX2_timesByCovers_47 : decode cX2_timesByCovers 47 = .ok (.ireturn, 1) := by decide +kernel
theorem dX2_coverFrom_0 : decode cX2_coverFrom 0 = .ok (.aload_n 0, 1) := by decide +kernel
theorem dX2_coverFrom_1 : decode cX2_coverFrom 1 = .ok (.getfield 11, 3) := by decide +kernel
theorem dX2_coverFrom_4 : decode cX2_coverFrom 4 = .ok (.iload_n 2, 1) := by decide +kernel
theorem dX2_coverFrom_5 : decode cX2_coverFrom 5 = .ok (.iconst 1, 1) := by decide +kernel
theorem dX2_coverFrom_6 : decode cX2_coverFrom 6 = .ok (.iadd, 1) := by decide +kernel
theorem dX2_coverFrom_7 : decode cX2_coverFrom 7 = .ok (.aaload, 1) := by decide +kernel
theorem dX2_coverFrom_8 : decode cX2_coverFrom 8 = .ok (.astore 4, 2) := by decide +kernel
theorem dX2_coverFrom_10 : decode cX2_coverFrom 10 = .ok (.aload 4, 2) := by decide +kernel
theorem dX2_coverFrom_12 : decode cX2_coverFrom 12 = .ok (.iconst 0, 1) := by decide +kernel
theorem dX2_coverFrom_13 : decode cX2_coverFrom 13 = .ok (.invokestatic 63, 3) := by decide +kernel
theorem dX2_coverFrom_16 : decode cX2_coverFrom 16 = .ok (.aload_n 0, 1) := by decide +kernel
theorem dX2_coverFrom_17 : decode cX2_coverFrom 17 = .ok (.getfield 32, 3) := by decide +kernel
theorem dX2_coverFrom_20 : decode cX2_coverFrom 20 = .ok (.aload_n 1, 1) := by decide +kernel
theorem dX2_coverFrom_21 : decode cX2_coverFrom 21 = .ok (.getfield 69, 3) := by decide +kernel
theorem dX2_coverFrom_24 : decode cX2_coverFrom 24 = .ok (.iload_n 2, 1) := by decide +kernel
theorem dX2_coverFrom_25 : decode cX2_coverFrom 25 = .ok (.iaload, 1) := by decide +kernel
theorem dX2_coverFrom_26 : decode cX2_coverFrom 26 = .ok (.invokevirtual 75, 3) := by decide +kernel
theorem dX2_coverFrom_29 : decode cX2_coverFrom 29 = .ok (.aload_n 0, 1) := by decide +kernel
theorem dX2_coverFrom_30 : decode cX2_coverFrom 30 = .ok (.getfield 35, 3) := by decide +kernel
theorem dX2_coverFrom_33 : decode cX2_coverFrom 33 = .ok (.iconst 0, 1) := by decide +kernel
theorem dX2_coverFrom_34 : decode cX2_coverFrom 34 = .ok (.aload_n 1, 1) := by decide +kernel
theorem dX2_coverFrom_35 : decode cX2_coverFrom 35 = .ok (.getfield 69, 3) := by decide +kernel
theorem dX2_coverFrom_38 : decode cX2_coverFrom 38 = .ok (.iload_n 2, 1) := by decide +kernel
theorem dX2_coverFrom_39 : decode cX2_coverFrom 39 = .ok (.iaload, 1) := by decide +kernel
theorem dX2_coverFrom_40 : decode cX2_coverFrom 40 = .ok (.invokevirtual 78, 3) := by decide +kernel
theorem dX2_coverFrom_43 : decode cX2_coverFrom 43 = .ok (.aload 4, 2) := by decide +kernel
theorem dX2_coverFrom_45 : decode cX2_coverFrom 45 = .ok (.iload_n 2, 1) := by decide +kernel
theorem dX2_coverFrom_46 : decode cX2_coverFrom 46 = .ok (.iconst 1, 1) := by decide +kernel
theorem dX2_coverFrom_47 : decode cX2_coverFrom 47 = .ok (.iadd, 1) := by decide +kernel
theorem dX2_coverFrom_48 : decode cX2_coverFrom 48 = .ok (.aload_n 0, 1) := by decide +kernel
theorem dX2_coverFrom_49 : decode cX2_coverFrom 49 = .ok (.getfield 32, 3) := by decide +kernel
theorem dX2_coverFrom_52 : decode cX2_coverFrom 52 = .ok (.getfield 81, 3) := by decide +kernel
theorem dX2_coverFrom_55 : decode cX2_coverFrom 55 = .ok (.iastore, 1) := by decide +kernel
theorem dX2_coverFrom_56 : decode cX2_coverFrom 56 = .ok (.iload_n 2, 1) := by decide +kernel
theorem dX2_coverFrom_57 : decode cX2_coverFrom 57 = .ok (.istore 5, 2) := by decide +kernel
theorem dX2_coverFrom_59 : decode cX2_coverFrom 59 = .ok (.iload 5, 2) := by decide +kernel
theorem dX2_coverFrom_61 : decode cX2_coverFrom 61 = .ok (.iload_n 3, 1) := by decide +kernel
theorem dX2_coverFrom_62 : decode cX2_coverFrom 62 = .ok (.if_icmp .ge 71, 3) := by decide +kernel
theorem dX2_coverFrom_65 : decode cX2_coverFrom 65 = .ok (.aload 4, 2) := by decide +kernel
theorem dX2_coverFrom_67 : decode cX2_coverFrom 67 = .ok (.iload 5, 2) := by decide +kernel
theorem dX2_coverFrom_69 : decode cX2_coverFrom 69 = .ok (.iconst 1, 1) := by decide +kernel
theorem dX2_coverFrom_70 : decode cX2_coverFrom 70 = .ok (.iadd, 1) := by decide +kernel
theorem dX2_coverFrom_71 : decode cX2_coverFrom 71 = .ok (.iaload, 1) := by decide +kernel
theorem dX2_coverFrom_72 : decode cX2_coverFrom 72 = .ok (.ifCond .le 61, 3) := by decide +kernel
theorem dX2_coverFrom_75 : decode cX2_coverFrom 75 = .ok (.aload_n 0, 1) := by decide +kernel
theorem dX2_coverFrom_76 : decode cX2_coverFrom 76 = .ok (.aload_n 0, 1) := by decide +kernel
theorem dX2_coverFrom_77 : decode cX2_coverFrom 77 = .ok (.aload_n 1, 1) := by decide +kernel
theorem dX2_coverFrom_78 : decode cX2_coverFrom 78 = .ok (.iload 5, 2) := by decide +kernel
theorem dX2_coverFrom_80 : decode cX2_coverFrom 80 = .ok (.aload_n 0, 1) := by decide +kernel
theorem dX2_coverFrom_81 : decode cX2_coverFrom 81 = .ok (.getfield 32, 3) := by decide +kernel
theorem dX2_coverFrom_84 : decode cX2_coverFrom 84 = .ok (.invokevirtual 84, 3) := by decide +kernel
theorem dX2_coverFrom_87 : decode cX2_coverFrom 87 = .ok (.putfield 32, 3) := by decide +kernel
theorem dX2_coverFrom_90 : decode cX2_coverFrom 90 = .ok (.aload_n 0, 1) := by decide +kernel
theorem dX2_coverFrom_91 : decode cX2_coverFrom 91 = .ok (.aload_n 0, 1) := by decide +kernel
theorem dX2_coverFrom_92 : decode cX2_coverFrom 92 = .ok (.aload_n 1, 1) := by decide +kernel
theorem dX2_coverFrom_93 : decode cX2_coverFrom 93 = .ok (.iload 5, 2) := by decide +kernel
theorem dX2_coverFrom_95 : decode cX2_coverFrom 95 = .ok (.aload_n 0, 1) := by decide +kernel
theorem dX2_coverFrom_96 : decode cX2_coverFrom 96 = .ok (.getfield 35, 3) := by decide +kernel
theorem dX2_coverFrom_99 : decode cX2_coverFrom 99 = .ok (.invokevirtual 84, 3) := by decide +kernel
theorem dX2_coverFrom_102 : decode cX2_coverFrom 102 = .ok (.putfield 35, 3) := by decide +kernel
theorem dX2_coverFrom_105 : decode cX2_coverFrom 105 = .ok (.aload 4, 2) := by decide +kernel
theorem dX2_coverFrom_107 : decode cX2_coverFrom 107 = .ok (.iload 5, 2) := by decide +kernel
theorem dX2_coverFrom_109 : decode cX2_coverFrom 109 = .ok (.iconst 2, 1) := by decide +kernel
theorem dX2_coverFrom_110 : decode cX2_coverFrom 110 = .ok (.iadd, 1) := by decide +kernel
theorem dX2_coverFrom_111 : decode cX2_coverFrom 111 = .ok (.aload_n 0, 1) := by decide +kernel
theorem dX2_coverFrom_112 : decode cX2_coverFrom 112 = .ok (.getfield 32, 3) := by decide +kernel
theorem dX2_coverFrom_115 : decode cX2_coverFrom 115 = .ok (.getfield 81, 3) := by decide +kernel
theorem dX2_coverFrom_118 : decode cX2_coverFrom 118 = .ok (.aload_n 0, 1) := by decide +kernel
theorem dX2_coverFrom_119 : decode cX2_coverFrom 119 = .ok (.getfield 35, 3) := by decide +kernel
theorem dX2_coverFrom_122 : decode cX2_coverFrom 122 = .ok (.getfield 81, 3) := by decide +kernel
theorem dX2_coverFrom_125 : decode cX2_coverFrom 125 = .ok (.isub, 1) := by decide +kernel
theorem dX2_coverFrom_126 : decode cX2_coverFrom 126 = .ok (.iastore, 1) := by decide +kernel
theorem dX2_coverFrom_127 : decode cX2_coverFrom 127 = .ok (.iinc 5 1, 3) := by decide +kernel
theorem dX2_coverFrom_130 : decode cX2_coverFrom 130 = .ok (.goto (-71), 3) := by decide +kernel
theorem dX2_coverFrom_133 : decode cX2_coverFrom 133 = .ok (.return_, 1) := by decide +kernel
theorem dX2_lead_0 : decode cX2_lead 0 = .ok (.aload_n 0, 1) := by decide +kernel
theorem dX2_lead_1 : decode cX2_lead 1 = .ok (.getfield 38, 3) := by decide +kernel
theorem dX2_lead_4 : decode cX2_lead 4 = .ok (.astore 4, 2) := by decide +kernel
theorem dX2_lead_6 : decode cX2_lead 6 = .ok (.aload_n 1, 1) := by decide +kernel
theorem dX2_lead_7 : decode cX2_lead 7 = .ok (.iload_n 2, 1) := by decide +kernel
theorem dX2_lead_8 : decode cX2_lead 8 = .ok (.invokevirtual 88, 3) := by decide +kernel
theorem dX2_lead_11 : decode cX2_lead 11 = .ok (.ifCond .eq 26, 3) := by decide +kernel
theorem dX2_lead_14 : decode cX2_lead 14 = .ok (.aload_n 0, 1) := by decide +kernel
theorem dX2_lead_15 : decode cX2_lead 15 = .ok (.aload_n 1, 1) := by decide +kernel
theorem dX2_lead_16 : decode cX2_lead 16 = .ok (.iload_n 2, 1) := by decide +kernel
theorem dX2_lead_17 : decode cX2_lead 17 = .ok (.aload_n 3, 1) := by decide +kernel
theorem dX2_lead_18 : decode cX2_lead 18 = .ok (.invokevirtual 92, 3) := by decide +kernel
theorem dX2_lead_21 : decode cX2_lead 21 = .ok (.aload_n 0, 1) := by decide +kernel
theorem dX2_lead_22 : decode cX2_lead 22 = .ok (.getfield 28, 3) := by decide +kernel
theorem dX2_lead_25 : decode cX2_lead 25 = .ok (.invokevirtual 96, 3) := by decide +kernel
theorem dX2_lead_28 : decode cX2_lead 28 = .ok (.aload_n 0, 1) := by decide +kernel
theorem dX2_lead_29 : decode cX2_lead 29 = .ok (.aload 4, 2) := by decide +kernel
theorem dX2_lead_31 : decode cX2_lead 31 = .ok (.invokevirtual 99, 3) := by decide +kernel
theorem dX2_lead_34 : decode cX2_lead 34 = .ok (.goto 12, 3) := by decide +kernel
theorem dX2_lead_37 : decode cX2_lead 37 = .ok (.aload_n 0, 1) := by decide +kernel
theorem dX2_lead_38 : decode cX2_lead 38 = .ok (.aload_n 1, 1) := by decide +kernel
theorem dX2_lead_39 : decode cX2_lead 39 = .ok (.iload_n 2, 1) := by decide +kernel
theorem dX2_lead_40 : decode cX2_lead 40 = .ok (.aload_n 3, 1) := by decide +kernel
theorem dX2_lead_41 : decode cX2_lead 41 = .ok (.aload 4, 2) := by decide +kernel
theorem dX2_lead_43 : decode cX2_lead 43 = .ok (.invokevirtual 103, 3) := by decide +kernel
theorem dX2_lead_46 : decode cX2_lead 46 = .ok (.aload 4, 2) := by decide +kernel
theorem dX2_lead_48 : decode cX2_lead 48 = .ok (.invokevirtual 96, 3) := by decide +kernel
theorem dX2_lead_51 : decode cX2_lead 51 = .ok (.aload_n 0, 1) := by decide +kernel
theorem dX2_lead_52 : decode cX2_lead 52 = .ok (.aload_n 3, 1) := by decide +kernel
theorem dX2_lead_53 : decode cX2_lead 53 = .ok (.putfield 38, 3) := by decide +kernel
theorem dX2_lead_56 : decode cX2_lead 56 = .ok (.aload 4, 2) := by decide +kernel
theorem dX2_lead_58 : decode cX2_lead 58 = .ok (.areturn, 1) := by decide +kernel
theorem dX2_leadAlong_0 : decode cX2_leadAlong 0 = .ok (.aload 4, 2) := by decide +kernel
theorem dX2_leadAlong_2 : decode cX2_leadAlong 2 = .ok (.aload_n 3, 1) := by decide +kernel
theorem dX2_leadAlong_3 : decode cX2_leadAlong 3 = .ok (.getfield 81, 3) := by decide +kernel
theorem dX2_leadAlong_6 : decode cX2_leadAlong 6 = .ok (.aload_n 1, 1) := by decide +kernel
theorem dX2_leadAlong_7 : decode cX2_leadAlong 7 = .ok (.getfield 69, 3) := by decide +kernel
theorem dX2_leadAlong_10 : decode cX2_leadAlong 10 = .ok (.iload_n 2, 1) := by decide +kernel
theorem dX2_leadAlong_11 : decode cX2_leadAlong 11 = .ok (.iconst 1, 1) := by decide +kernel
theorem dX2_leadAlong_12 : decode cX2_leadAlong 12 = .ok (.iadd, 1) := by decide +kernel
theorem dX2_leadAlong_13 : decode cX2_leadAlong 13 = .ok (.iaload, 1) := by decide +kernel
theorem dX2_leadAlong_14 : decode cX2_leadAlong 14 = .ok (.invokevirtual 78, 3) := by decide +kernel
theorem dX2_leadAlong_17 : decode cX2_leadAlong 17 = .ok (.iconst 0, 1) := by decide +kernel
theorem dX2_leadAlong_18 : decode cX2_leadAlong 18 = .ok (.istore 5, 2) := by decide +kernel
theorem dX2_leadAlong_20 : decode cX2_leadAlong 20 = .ok (.iload 5, 2) := by decide +kernel
theorem dX2_leadAlong_22 : decode cX2_leadAlong 22 = .ok (.aload 4, 2) := by decide +kernel
theorem dX2_leadAlong_24 : decode cX2_leadAlong 24 = .ok (.getfield 81, 3) := by decide +kernel
theorem dX2_leadAlong_27 : decode cX2_leadAlong 27 = .ok (.if_icmp .ge 88, 3) := by decide +kernel
theorem dX2_leadAlong_30 : decode cX2_leadAlong 30 = .ok (.iconst 0, 1) := by decide +kernel
theorem dX2_leadAlong_31 : decode cX2_leadAlong 31 = .ok (.istore 6, 2) := by decide +kernel
theorem dX2_leadAlong_33 : decode cX2_leadAlong 33 = .ok (.iload 6, 2) := by decide +kernel
theorem dX2_leadAlong_35 : decode cX2_leadAlong 35 = .ok (.aload 4, 2) := by decide +kernel
theorem dX2_leadAlong_37 : decode cX2_leadAlong 37 = .ok (.getfield 107, 3) := by decide +kernel
theorem dX2_leadAlong_40 : decode cX2_leadAlong 40 = .ok (.if_icmp .ge 69, 3) := by decide +kernel
theorem dX2_leadAlong_43 : decode cX2_leadAlong 43 = .ok (.iconst 0, 1) := by decide +kernel
theorem dX2_leadAlong_44 : decode cX2_leadAlong 44 = .ok (.istore 7, 2) := by decide +kernel
theorem dX2_leadAlong_46 : decode cX2_leadAlong 46 = .ok (.iconst 0, 1) := by decide +kernel
theorem dX2_leadAlong_47 : decode cX2_leadAlong 47 = .ok (.istore 8, 2) := by decide +kernel
theorem dX2_leadAlong_49 : decode cX2_leadAlong 49 = .ok (.iload 8, 2) := by decide +kernel
theorem dX2_leadAlong_51 : decode cX2_leadAlong 51 = .ok (.aload_n 3, 1) := by decide +kernel
theorem dX2_leadAlong_52 : decode cX2_leadAlong 52 = .ok (.getfield 107, 3) := by decide +kernel
theorem dX2_leadAlong_55 : decode cX2_leadAlong 55 = .ok (.if_icmp .ge 32, 3) := by decide +kernel
theorem dX2_leadAlong_58 : decode cX2_leadAlong 58 = .ok (.iload 7, 2) := by decide +kernel
theorem dX2_leadAlong_60 : decode cX2_leadAlong 60 = .ok (.aload_n 1, 1) := by decide +kernel
theorem dX2_leadAlong_61 : decode cX2_leadAlong 61 = .ok (.iload_n 2, 1) := by decide +kernel
theorem dX2_leadAlong_62 : decode cX2_leadAlong 62 = .ok (.iload 6, 2) := by decide +kernel
theorem dX2_leadAlong_64 : decode cX2_leadAlong 64 = .ok (.iload 8, 2) := by decide +kernel
theorem dX2_leadAlong_66 : decode cX2_leadAlong 66 = .ok (.invokevirtual 110, 3) := by decide +kernel
theorem dX2_leadAlong_69 : decode cX2_leadAlong 69 = .ok (.aload_n 3, 1) := by decide +kernel
theorem dX2_leadAlong_70 : decode cX2_leadAlong 70 = .ok (.iload 5, 2) := by decide +kernel
theorem dX2_leadAlong_72 : decode cX2_leadAlong 72 = .ok (.iload 8, 2) := by decide +kernel
theorem dX2_leadAlong_74 : decode cX2_leadAlong 74 = .ok (.invokevirtual 114, 3) := by decide +kernel
theorem dX2_leadAlong_77 : decode cX2_leadAlong 77 = .ok (.imul, 1) := by decide +kernel
theorem dX2_leadAlong_78 : decode cX2_leadAlong 78 = .ok (.iadd, 1) := by decide +kernel
theorem dX2_leadAlong_79 : decode cX2_leadAlong 79 = .ok (.istore 7, 2) := by decide +kernel
theorem dX2_leadAlong_81 : decode cX2_leadAlong 81 = .ok (.iinc 8 1, 3) := by decide +kernel
theorem dX2_leadAlong_84 : decode cX2_leadAlong 84 = .ok (.goto (-35), 3) := by decide +kernel
theorem dX2_leadAlong_87 : decode cX2_leadAlong 87 = .ok (.aload 4, 2) := by decide +kernel
theorem dX2_leadAlong_89 : decode cX2_leadAlong 89 = .ok (.iload 5, 2) := by decide +kernel
theorem dX2_leadAlong_91 : decode cX2_leadAlong 91 = .ok (.iload 6, 2) := by decide +kernel
theorem dX2_leadAlong_93 : decode cX2_leadAlong 93 = .ok (.iload 7, 2) := by decide +kernel
theorem dX2_leadAlong_95 : decode cX2_leadAlong 95 = .ok (.aload_n 0, 1) := by decide +kernel
theorem dX2_leadAlong_96 : decode cX2_leadAlong 96 = .ok (.getfield 16, 3) := by decide +kernel
theorem dX2_leadAlong_99 : decode cX2_leadAlong 99 = .ok (.irem, 1) := by decide +kernel
theorem dX2_leadAlong_100 : decode cX2_leadAlong 100 = .ok (.invokevirtual 116, 3) := by decide +kernel
theorem dX2_leadAlong_103 : decode cX2_leadAlong 103 = .ok (.iinc 6 1, 3) := by decide +kernel
theorem dX2_leadAlong_106 : decode cX2_leadAlong 106 = .ok (.goto (-73), 3) := by decide +kernel
theorem dX2_leadAlong_109 : decode cX2_leadAlong 109 = .ok (.iinc 5 1, 3) := by decide +kernel
theorem dX2_leadAlong_112 : decode cX2_leadAlong 112 = .ok (.goto (-92), 3) := by decide +kernel
theorem dX2_leadAlong_115 : decode cX2_leadAlong 115 = .ok (.return_, 1) := by decide +kernel
theorem dX2_findConditions_0 : decode cX2_findConditions 0 = .ok (.aload_n 0, 1) := by decide +kernel
theorem dX2_findConditions_1 : decode cX2_findConditions 1 = .ok (.getfield 28, 3) := by decide +kernel
theorem dX2_findConditions_4 : decode cX2_findConditions 4 = .ok (.aload_n 3, 1) := by decide +kernel
theorem dX2_findConditions_5 : decode cX2_findConditions 5 = .ok (.invokevirtual 120, 3) := by decide +kernel
theorem dX2_findConditions_8 : decode cX2_findConditions 8 = .ok (.aload_n 1, 1) := by decide +kernel
theorem dX2_findConditions_9 : decode cX2_findConditions 9 = .ok (.getfield 69, 3) := by decide +kernel
theorem dX2_findConditions_12 : decode cX2_findConditions 12 = .ok (.iload_n 2, 1) := by decide +kernel
theorem dX2_findConditions_13 : decode cX2_findConditions 13 = .ok (.iconst 1, 1) := by decide +kernel
theorem dX2_findConditions_14 : decode cX2_findConditions 14 = .ok (.iadd, 1) := by decide +kernel
theorem dX2_findConditions_15 : decode cX2_findConditions 15 = .ok (.iaload, 1) := by decide +kernel
theorem dX2_findConditions_16 : decode cX2_findConditions 16 = .ok (.invokevirtual 78, 3) := by decide +kernel
theorem dX2_findConditions_19 : decode cX2_findConditions 19 = .ok (.iconst 0, 1) := by decide +kernel
theorem dX2_findConditions_20 : decode cX2_findConditions 20 = .ok (.istore 4, 2) := by decide +kernel
theorem dX2_findConditions_22 : decode cX2_findConditions 22 = .ok (.iconst 0, 1) := by decide +kernel
theorem dX2_findConditions_23 : decode cX2_findConditions 23 = .ok (.istore 5, 2) := by decide +kernel
theorem dX2_findConditions_25 : decode cX2_findConditions 25 = .ok (.iload 5, 2) := by decide +kernel
theorem dX2_findConditions_27 : decode cX2_findConditions 27 = .ok (.aload_n 3, 1) := by decide +kernel
theorem dX2_findConditions_28 : decode cX2_findConditions 28 = .ok (.getfield 107, 3) := by decide +kernel
theorem dX2_findConditions_31 : decode cX2_findConditions 31 = .ok (.if_icmp .ge 107, 3) := by decide +kernel
theorem dX2_findConditions_34 : decode cX2_findConditions 34 = .ok (.aload_n 3, 1) := by decide +kernel
theorem dX2_findConditions_35 : decode cX2_findConditions 35 = .ok (.iload 5, 2) := by decide +kernel
theorem dX2_findConditions_37 : decode cX2_findConditions 37 = .ok (.invokevirtual 124, 3) := by decide +kernel
theorem dX2_findConditions_40 : decode cX2_findConditions 40 = .ok (.ifCond .ne 6, 3) := by decide +kernel
theorem dX2_findConditions_43 : decode cX2_findConditions 43 = .ok (.goto 89, 3) := by decide +kernel
theorem dX2_findConditions_46 : decode cX2_findConditions 46 = .ok (.iconst 0, 1) := by decide +kernel
theorem dX2_findConditions_47 : decode cX2_findConditions 47 = .ok (.istore 6, 2) := by decide +kernel
theorem dX2_findConditions_49 : decode cX2_findConditions 49 = .ok (.iload 6, 2) := by decide +kernel
theorem dX2_findConditions_51 : decode cX2_findConditions 51 = .ok (.aload_n 0, 1) := by decide +kernel
theorem dX2_findConditions_52 : decode cX2_findConditions 52 = .ok (.getfield 28, 3) := by decide +kernel
theorem dX2_findConditions_55 : decode cX2_findConditions 55 = .ok (.getfield 107, 3) := by decide +kernel
theorem dX2_findConditions_58 : decode cX2_findConditions 58 = .ok (.if_icmp .ge 71, 3) := by decide +kernel
theorem dX2_findConditions_61 : decode cX2_findConditions 61 = .ok (.iconst 0, 1) := by decide +kernel
theorem dX2_findConditions_62 : decode cX2_findConditions 62 = .ok (.istore 7, 2) := by decide +kernel
theorem dX2_findConditions_64 : decode cX2_findConditions 64 = .ok (.iconst 0, 1) := by decide +kernel
theorem dX2_findConditions_65 : decode cX2_findConditions 65 = .ok (.istore 8, 2) := by decide +kernel
theorem dX2_findConditions_67 : decode cX2_findConditions 67 = .ok (.iload 8, 2) := by decide +kernel
theorem dX2_findConditions_69 : decode cX2_findConditions 69 = .ok (.aload_n 3, 1) := by decide +kernel
theorem dX2_findConditions_70 : decode cX2_findConditions 70 = .ok (.getfield 107, 3) := by decide +kernel
theorem dX2_findConditions_73 : decode cX2_findConditions 73 = .ok (.if_icmp .ge 32, 3) := by decide +kernel
theorem dX2_findConditions_76 : decode cX2_findConditions 76 = .ok (.iload 7, 2) := by decide +kernel
theorem dX2_findConditions_78 : decode cX2_findConditions 78 = .ok (.aload_n 3, 1) := by decide +kernel
theorem dX2_findConditions_79 : decode cX2_findConditions 79 = .ok (.iload 8, 2) := by decide +kernel
theorem dX2_findConditions_81 : decode cX2_findConditions 81 = .ok (.iload 5, 2) := by decide +kernel
theorem dX2_findConditions_83 : decode cX2_findConditions 83 = .ok (.invokevirtual 127, 3) := by decide +kernel
theorem dX2_findConditions_86 : decode cX2_findConditions 86 = .ok (.aload_n 1, 1) := by decide +kernel
theorem dX2_findConditions_87 : decode cX2_findConditions 87 = .ok (.iload_n 2, 1) := by decide +kernel
theorem dX2_findConditions_88 : decode cX2_findConditions 88 = .ok (.iload 8, 2) := by decide +kernel
theorem dX2_findConditions_90 : decode cX2_findConditions 90 = .ok (.iload 6, 2) := by decide +kernel
theorem dX2_findConditions_92 : decode cX2_findConditions 92 = .ok (.invokevirtual 110, 3) := by decide +kernel
theorem dX2_findConditions_95 : decode cX2_findConditions 95 = .ok (.imul, 1) := by decide +kernel
theorem dX2_findConditions_96 : decode cX2_findConditions 96 = .ok (.iadd, 1) := by decide +kernel
theorem dX2_findConditions_97 : decode cX2_findConditions 97 = .ok (.istore 7, 2) := by decide +kernel
theorem dX2_findConditions_99 : decode cX2_findConditions 99 = .ok (.iinc 8 1, 3) := by decide +kernel
theorem dX2_findConditions_102 : decode cX2_findConditions 102 = .ok (.goto (-35), 3) := by decide +kernel
theorem dX2_findConditions_105 : decode cX2_findConditions 105 = .ok (.aload_n 0, 1) := by decide +kernel
theorem dX2_findConditions_106 : decode cX2_findConditions 106 = .ok (.getfield 28, 3) := by decide +kernel
theorem dX2_findConditions_109 : decode cX2_findConditions 109 = .ok (.iload 4, 2) := by decide +kernel
theorem dX2_findConditions_111 : decode cX2_findConditions 111 = .ok (.iload 6, 2) := by decide +kernel
theorem dX2_findConditions_113 : decode cX2_findConditions 113 = .ok (.iload 7, 2) := by decide +kernel
theorem dX2_findConditions_115 : decode cX2_findConditions 115 = .ok (.aload_n 0, 1) := by decide +kernel
theorem dX2_findConditions_116 : decode cX2_findConditions 116 = .ok (.getfield 16, 3) := by decide +kernel
theorem dX2_findConditions_119 : decode cX2_findConditions 119 = .ok (.irem, 1) := by decide +kernel
theorem dX2_findConditions_120 : decode cX2_findConditions 120 = .ok (.invokevirtual 116, 3) := by decide +kernel
theorem dX2_findConditions_123 : decode cX2_findConditions 123 = .ok (.iinc 6 1, 3) := by decide +kernel
theorem dX2_findConditions_126 : decode cX2_findConditions 126 = .ok (.goto (-77), 3) := by decide +kernel
theorem dX2_findConditions_129 : decode cX2_findConditions 129 = .ok (.iinc 4 1, 3) := by decide +kernel
theorem dX2_findConditions_132 : decode cX2_findConditions 132 = .ok (.iinc 5 1, 3) := by decide +kernel
theorem dX2_findConditions_135 : decode cX2_findConditions 135 = .ok (.goto (-110), 3) := by decide +kernel
theorem dX2_findConditions_138 : decode cX2_findConditions 138 = .ok (.return_, 1) := by decide +kernel
theorem dX2_solveConditions_0 : decode cX2_solveConditions 0 = .ok (.aload_n 1, 1) := by decide +kernel
theorem dX2_solveConditions_1 : decode cX2_solveConditions 1 = .ok (.aload_n 0, 1) := by decide +kernel
theorem dX2_solveConditions_2 : decode cX2_solveConditions 2 = .ok (.getfield 28, 3) := by decide +kernel
theorem dX2_solveConditions_5 : decode cX2_solveConditions 5 = .ok (.invokevirtual 120, 3) := by decide +kernel
theorem dX2_solveConditions_8 : decode cX2_solveConditions 8 = .ok (.aload_n 0, 1) := by decide +kernel
theorem dX2_solveConditions_9 : decode cX2_solveConditions 9 = .ok (.getfield 28, 3) := by decide +kernel
theorem dX2_solveConditions_12 : decode cX2_solveConditions 12 = .ok (.getfield 107, 3) := by decide +kernel
theorem dX2_solveConditions_15 : decode cX2_solveConditions 15 = .ok (.invokevirtual 78, 3) := by decide +kernel
theorem dX2_solveConditions_18 : decode cX2_solveConditions 18 = .ok (.iconst 0, 1) := by decide +kernel
theorem dX2_solveConditions_19 : decode cX2_solveConditions 19 = .ok (.istore_n 2, 1) := by decide +kernel
theorem dX2_solveConditions_20 : decode cX2_solveConditions 20 = .ok (.iconst 0, 1) := by decide +kernel
theorem dX2_solveConditions_21 : decode cX2_solveConditions 21 = .ok (.istore_n 3, 1) := by decide +kernel
theorem dX2_solveConditions_22 : decode cX2_solveConditions 22 = .ok (.iload_n 3, 1) := by decide +kernel
theorem dX2_solveConditions_23 : decode cX2_solveConditions 23 = .ok (.aload_n 0, 1) := by decide +kernel
theorem dX2_solveConditions_24 : decode cX2_solveConditions 24 = .ok (.getfield 28, 3) := by decide +kernel
theorem dX2_solveConditions_27 : decode cX2_solveConditions 27 = .ok (.getfield 107, 3) := by decide +kernel
theorem dX2_solveConditions_30 : decode cX2_solveConditions 30 = .ok (.if_icmp .ge 58, 3) := by decide +kernel
theorem dX2_solveConditions_33 : decode cX2_solveConditions 33 = .ok (.aload_n 0, 1) := by decide +kernel
theorem dX2_solveConditions_34 : decode cX2_solveConditions 34 = .ok (.getfield 28, 3) := by decide +kernel
theorem dX2_solveConditions_37 : decode cX2_solveConditions 37 = .ok (.iload_n 3, 1) := by decide +kernel
theorem dX2_solveConditions_38 : decode cX2_solveConditions 38 = .ok (.invokevirtual 124, 3) := by decide +kernel
theorem dX2_solveConditions_41 : decode cX2_solveConditions 41 = .ok (.ifCond .eq 41, 3) := by decide +kernel
theorem dX2_solveConditions_44 : decode cX2_solveConditions 44 = .ok (.iconst 0, 1) := by decide +kernel
theorem dX2_solveConditions_45 : decode cX2_solveConditions 45 = .ok (.istore 4, 2) := by decide +kernel
theorem dX2_solveConditions_47 : decode cX2_solveConditions 47 = .ok (.iload 4, 2) := by decide +kernel
theorem dX2_solveConditions_49 : decode cX2_solveConditions 49 = .ok (.aload_n 1, 1) := by decide +kernel
theorem dX2_solveConditions_50 : decode cX2_solveConditions 50 = .ok (.getfield 107, 3) := by decide +kernel
theorem dX2_solveConditions_53 : decode cX2_solveConditions 53 = .ok (.if_icmp .ge 26, 3) := by decide +kernel
theorem dX2_solveConditions_56 : decode cX2_solveConditions 56 = .ok (.aload_n 1, 1) := by decide +kernel
theorem dX2_solveConditions_57 : decode cX2_solveConditions 57 = .ok (.iload_n 2, 1) := by decide +kernel
theorem dX2_solveConditions_58 : decode cX2_solveConditions 58 = .ok (.iload 4, 2) := by decide +kernel
theorem dX2_solveConditions_60 : decode cX2_solveConditions 60 = .ok (.aload_n 0, 1) := by decide +kernel
theorem dX2_solveConditions_61 : decode cX2_solveConditions 61 = .ok (.getfield 28, 3) := by decide +kernel
theorem dX2_solveConditions_64 : decode cX2_solveConditions 64 = .ok (.iload 4, 2) := by decide +kernel
theorem dX2_solveConditions_66 : decode cX2_solveConditions 66 = .ok (.iload_n 3, 1) := by decide +kernel
theorem dX2_solveConditions_67 : decode cX2_solveConditions 67 = .ok (.invokevirtual 127, 3) := by decide +kernel
theorem dX2_solveConditions_70 : decode cX2_solveConditions 70 = .ok (.invokevirtual 116, 3) := by decide +kernel
theorem dX2_solveConditions_73 : decode cX2_solveConditions 73 = .ok (.iinc 4 1, 3) := by decide +kernel
theorem dX2_solveConditions_76 : decode cX2_solveConditions 76 = .ok (.goto (-29), 3) := by decide +kernel
theorem dX2_solveConditions_79 : decode cX2_solveConditions 79 = .ok (.iinc 2 1, 3) := by decide +kernel
theorem dX2_solveConditions_82 : decode cX2_solveConditions 82 = .ok (.iinc 3 1, 3) := by decide +kernel
theorem dX2_solveConditions_85 : decode cX2_solveConditions 85 = .ok (.goto (-63), 3) := by decide +kernel
theorem dX2_solveConditions_88 : decode cX2_solveConditions 88 = .ok (.return_, 1) := by decide +kernel
theorem dX3_init_0 : decode cX3_init 0 = .ok (.aload_n 0, 1) := by decide +kernel
theorem dX3_init_1 : decode cX3_init 1 = .ok (.invokespecial 3, 3) := by decide +kernel
theorem dX3_init_4 : decode cX3_init 4 = .ok (.aload_n 0, 1) := by decide +kernel
theorem dX3_init_5 : decode cX3_init 5 = .ok (.iconst 4, 1) := by decide +kernel
theorem dX3_init_6 : decode cX3_init 6 = .ok (.bipush 8, 2) := by decide +kernel
theorem dX3_init_8 : decode cX3_init 8 = .ok (.multianewarray 9 2, 4) := by decide +kernel
theorem dX3_init_12 : decode cX3_init 12 = .ok (.putfield 11, 3) := by decide +kernel
theorem dX3_init_15 : decode cX3_init 15 = .ok (.aload_n 0, 1) := by decide +kernel
theorem dX3_init_16 : decode cX3_init 16 = .ok (.bipush 8, 2) := by decide +kernel
theorem dX3_init_18 : decode cX3_init 18 = .ok (.newarray .int, 2) := by decide +kernel
theorem dX3_init_20 : decode cX3_init 20 = .ok (.putfield 16, 3) := by decide +kernel
theorem dX3_init_23 : decode cX3_init 23 = .ok (.aload_n 0, 1) := by decide +kernel
theorem dX3_init_24 : decode cX3_init 24 = .ok (.iload_n 1, 1) := by decide +kernel
theorem dX3_init_25 : decode cX3_init 25 = .ok (.putfield 20, 3) := by decide +kernel
theorem dX3_init_28 : decode cX3_init 28 = .ok (.return_, 1) := by decide +kernel
theorem dX3_start_0 : decode cX3_start 0 = .ok (.aload_n 0, 1) := by decide +kernel
theorem dX3_start_1 : decode cX3_start 1 = .ok (.iload_n 1, 1) := by decide +kernel
theorem dX3_start_2 : decode cX3_start 2 = .ok (.iconst 4, 1) := by decide +kernel
theorem dX3_start_3 : decode cX3_start 3 = .ok (.invokestatic 24, 3) := by decide +kernel
theorem dX3_start_6 : decode cX3_start 6 = .ok (.putfield 30, 3) := by decide +kernel
theorem dX3_start_9 : decode cX3_start 9 = .ok (.aload_n 0, 1) := by decide +kernel
theorem dX3_start_10 : decode cX3_start 10 = .ok (.iload_n 2, 1) := by decide +kernel
theorem dX3_start_11 : decode cX3_start 11 = .ok (.bipush 8, 2) := by decide +kernel
theorem dX3_start_13 : decode cX3_start 13 = .ok (.invokestatic 24, 3) := by decide +kernel
theorem dX3_start_16 : decode cX3_start 16 = .ok (.putfield 33, 3) := by decide +kernel
theorem dX3_start_19 : decode cX3_start 19 = .ok (.aload_n 0, 1) := by decide +kernel
theorem dX3_start_20 : decode cX3_start 20 = .ok (.getfield 16, 3) := by decide +kernel
theorem dX3_start_23 : decode cX3_start 23 = .ok (.iconst (-1), 1) := by decide +kernel
theorem dX3_start_24 : decode cX3_start 24 = .ok (.invokestatic 36, 3) := by decide +kernel
theorem dX3_start_27 : decode cX3_start 27 = .ok (.return_, 1) := by decide +kernel
theorem dX3_startWhole_0 : decode cX3_startWhole 0 = .ok (.aload_n 0, 1) := by decide +kernel
theorem dX3_startWhole_1 : decode cX3_startWhole 1 = .ok (.iload_n 1, 1) := by decide +kernel
theorem dX3_startWhole_2 : decode cX3_startWhole 2 = .ok (.iload_n 1, 1) := by decide +kernel
theorem dX3_startWhole_3 : decode cX3_startWhole 3 = .ok (.invokevirtual 42, 3) := by decide +kernel
theorem dX3_startWhole_6 : decode cX3_startWhole 6 = .ok (.iconst 0, 1) := by decide +kernel
theorem dX3_startWhole_7 : decode cX3_startWhole 7 = .ok (.istore_n 2, 1) := by decide +kernel
theorem dX3_startWhole_8 : decode cX3_startWhole 8 = .ok (.iload_n 2, 1) := by decide +kernel
theorem dX3_startWhole_9 : decode cX3_startWhole 9 = .ok (.aload_n 0, 1) := by decide +kernel
theorem dX3_startWhole_10 : decode cX3_startWhole 10 = .ok (.getfield 30, 3) := by decide +kernel
theorem dX3_startWhole_13 : decode cX3_startWhole 13 = .ok (.if_icmp .ge 35, 3) := by decide +kernel
theorem dX3_startWhole_16 : decode cX3_startWhole 16 = .ok (.aload_n 0, 1) := by decide +kernel
theorem dX3_startWhole_17 : decode cX3_startWhole 17 = .ok (.getfield 11, 3) := by decide +kernel
theorem dX3_startWhole_20 : decode cX3_startWhole 20 = .ok (.iload_n 2, 1) := by decide +kernel
theorem dX3_startWhole_21 : decode cX3_startWhole 21 = .ok (.aaload, 1) := by decide +kernel
theorem dX3_startWhole_22 : decode cX3_startWhole 22 = .ok (.iconst 0, 1) := by decide +kernel
theorem dX3_startWhole_23 : decode cX3_startWhole 23 = .ok (.invokestatic 36, 3) := by decide +kernel
theorem dX3_startWhole_26 : decode cX3_startWhole 26 = .ok (.aload_n 0, 1) := by decide +kernel
theorem dX3_startWhole_27 : decode cX3_startWhole 27 = .ok (.getfield 11, 3) := by decide +kernel
theorem dX3_startWhole_30 : decode cX3_startWhole 30 = .ok (.iload_n 2, 1) := by decide +kernel
theorem dX3_startWhole_31 : decode cX3_startWhole 31 = .ok (.aaload, 1) := by decide +kernel
theorem dX3_startWhole_32 : decode cX3_startWhole 32 = .ok (.iload_n 2, 1) := by decide +kernel
theorem dX3_startWhole_33 : decode cX3_startWhole 33 = .ok (.iconst 1, 1) := by decide +kernel
theorem dX3_startWhole_34 : decode cX3_startWhole 34 = .ok (.iastore, 1) := by decide +kernel
theorem dX3_startWhole_35 : decode cX3_startWhole 35 = .ok (.aload_n 0, 1) := by decide +kernel
theorem dX3_startWhole_36 : decode cX3_startWhole 36 = .ok (.getfield 16, 3) := by decide +kernel
theorem dX3_startWhole_39 : decode cX3_startWhole 39 = .ok (.iload_n 2, 1) := by decide +kernel
theorem dX3_startWhole_40 : decode cX3_startWhole 40 = .ok (.iload_n 2, 1) := by decide +kernel
theorem dX3_startWhole_41 : decode cX3_startWhole 41 = .ok (.iastore, 1) := by decide +kernel
theorem dX3_startWhole_42 : decode cX3_startWhole 42 = .ok (.iinc 2 1, 3) := by decide +kernel
theorem dX3_startWhole_45 : decode cX3_startWhole 45 = .ok (.goto (-37), 3) := by decide +kernel
theorem dX3_startWhole_48 : decode cX3_startWhole 48 = .ok (.return_, 1) := by decide +kernel
theorem dX3_number_0 : decode cX3_number 0 = .ok (.aload_n 0, 1) := by decide +kernel
theorem dX3_number_1 : decode cX3_number 1 = .ok (.getfield 11, 3) := by decide +kernel
theorem dX3_number_4 : decode cX3_number 4 = .ok (.iload_n 1, 1) := by decide +kernel
theorem dX3_number_5 : decode cX3_number 5 = .ok (.aaload, 1) := by decide +kernel
theorem dX3_number_6 : decode cX3_number 6 = .ok (.iload_n 2, 1) := by decide +kernel
theorem dX3_number_7 : decode cX3_number 7 = .ok (.iaload, 1) := by decide +kernel
theorem dX3_number_8 : decode cX3_number 8 = .ok (.ireturn, 1) := by decide +kernel
theorem dX3_put_0 : decode cX3_put 0 = .ok (.aload_n 0, 1) := by decide +kernel
theorem dX3_put_1 : decode cX3_put 1 = .ok (.getfield 11, 3) := by decide +kernel
theorem dX3_put_4 : decode cX3_put 4 = .ok (.iload_n 1, 1) := by decide +kernel
theorem dX3_put_5 : decode cX3_put 5 = .ok (.aaload, 1) := by decide +kernel
theorem dX3_put_6 : decode cX3_put 6 = .ok (.iload_n 2, 1) := by decide +kernel
theorem dX3_put_7 : decode cX3_put 7 = .ok (.iload_n 3, 1) := by decide +kernel
theorem dX3_put_8 : decode cX3_put 8 = .ok (.iastore, 1) := by decide +kernel
theorem dX3_put_9 : decode cX3_put 9 = .ok (.return_, 1) := by decide +kernel
theorem dX3_bringToLeast_0 : decode cX3_bringToLeast 0 = .ok (.iconst 0, 1) := by decide +kernel
theorem dX3_bringToLeast_1 : decode cX3_bringToLeast 1 = .ok (.istore_n 1, 1) := by decide +kernel
theorem dX3_bringToLeast_2 : decode cX3_bringToLeast 2 = .ok (.iconst 0, 1) := by decide +kernel
theorem dX3_bringToLeast_3 : decode cX3_bringToLeast 3 = .ok (.istore_n 2, 1) := by decide +kernel
theorem dX3_bringToLeast_4 : decode cX3_bringToLeast 4 = .ok (.iload_n 2, 1) := by decide +kernel
theorem dX3_bringToLeast_5 : decode cX3_bringToLeast 5 = .ok (.aload_n 0, 1) := by decide +kernel
theorem dX3_bringToLeast_6 : decode cX3_bringToLeast 6 = .ok (.getfield 33, 3) := by decide +kernel
theorem dX3_bringToLeast_9 : decode cX3_bringToLeast 9 = .ok (.if_icmp .ge 69, 3) := by decide +kernel
theorem dX3_bringToLeast_12 : decode cX3_bringToLeast 12 = .ok (.iload_n 1, 1) := by decide +kernel
theorem dX3_bringToLeast_13 : decode cX3_bringToLeast 13 = .ok (.aload_n 0, 1) := by decide +kernel
theorem dX3_bringToLeast_14 : decode cX3_bringToLeast 14 = .ok (.getfield 30, 3) := by decide +kernel
theorem dX3_bringToLeast_17 : decode cX3_bringToLeast 17 = .ok (.if_icmp .ge 61, 3) := by decide +kernel
theorem dX3_bringToLeast_20 : decode cX3_bringToLeast 20 = .ok (.aload_n 0, 1) := by decide +kernel
theorem dX3_bringToLeast_21 : decode cX3_bringToLeast 21 = .ok (.iload_n 2, 1) := by decide +kernel
theorem dX3_bringToLeast_22 : decode cX3_bringToLeast 22 = .ok (.iload_n 1, 1) := by decide +kernel
theorem dX3_bringToLeast_23 : decode cX3_bringToLeast 23 = .ok (.invokevirtual 46, 3) := by decide +kernel
theorem dX3_bringToLeast_26 : decode cX3_bringToLeast 26 = .ok (.istore_n 3, 1) := by decide +kernel
theorem dX3_bringToLeast_27 : decode cX3_bringToLeast 27 = .ok (.iload_n 3, 1) := by decide +kernel
theorem dX3_bringToLeast_28 : decode cX3_bringToLeast 28 = .ok (.iconst (-1), 1) := by decide +kernel
theorem dX3_bringToLeast_29 : decode cX3_bringToLeast 29 = .ok (.if_icmp .eq 43, 3) := by decide +kernel
theorem dX3_bringToLeast_32 : decode cX3_bringToLeast 32 = .ok (.aload_n 0, 1) := by decide +kernel
theorem dX3_bringToLeast_33 : decode cX3_bringToLeast 33 = .ok (.iload_n 3, 1) := by decide +kernel
theorem dX3_bringToLeast_34 : decode cX3_bringToLeast 34 = .ok (.iload_n 1, 1) := by decide +kernel
theorem dX3_bringToLeast_35 : decode cX3_bringToLeast 35 = .ok (.invokevirtual 49, 3) := by decide +kernel
theorem dX3_bringToLeast_38 : decode cX3_bringToLeast 38 = .ok (.aload_n 0, 1) := by decide +kernel
theorem dX3_bringToLeast_39 : decode cX3_bringToLeast 39 = .ok (.iload_n 1, 1) := by decide +kernel
theorem dX3_bringToLeast_40 : decode cX3_bringToLeast 40 = .ok (.aload_n 0, 1) := by decide +kernel
theorem dX3_bringToLeast_41 : decode cX3_bringToLeast 41 = .ok (.aload_n 0, 1) := by decide +kernel
theorem dX3_bringToLeast_42 : decode cX3_bringToLeast 42 = .ok (.getfield 11, 3) := by decide +kernel
theorem dX3_bringToLeast_45 : decode cX3_bringToLeast 45 = .ok (.iload_n 1, 1) := by decide +kernel
theorem dX3_bringToLeast_46 : decode cX3_bringToLeast 46 = .ok (.aaload, 1) := by decide +kernel
theorem dX3_bringToLeast_47 : decode cX3_bringToLeast 47 = .ok (.iload_n 2, 1) := by decide +kernel
theorem dX3_bringToLeast_48 : decode cX3_bringToLeast 48 = .ok (.iaload, 1) := by decide +kernel
theorem dX3_bringToLeast_49 : decode cX3_bringToLeast 49 = .ok (.invokevirtual 52, 3) := by decide +kernel
theorem dX3_bringToLeast_52 : decode cX3_bringToLeast 52 = .ok (.iload_n 2, 1) := by decide +kernel
theorem dX3_bringToLeast_53 : decode cX3_bringToLeast 53 = .ok (.invokevirtual 56, 3) := by decide +kernel
theorem dX3_bringToLeast_56 : decode cX3_bringToLeast 56 = .ok (.aload_n 0, 1) := by decide +kernel
theorem dX3_bringToLeast_57 : decode cX3_bringToLeast 57 = .ok (.iload_n 1, 1) := by decide +kernel
theorem dX3_bringToLeast_58 : decode cX3_bringToLeast 58 = .ok (.iload_n 2, 1) := by decide +kernel
theorem dX3_bringToLeast_59 : decode cX3_bringToLeast 59 = .ok (.invokevirtual 60, 3) := by decide +kernel
theorem dX3_bringToLeast_62 : decode cX3_bringToLeast 62 = .ok (.aload_n 0, 1) := by decide +kernel
theorem dX3_bringToLeast_63 : decode cX3_bringToLeast 63 = .ok (.getfield 16, 3) := by decide +kernel
theorem dX3_bringToLeast_66 : decode cX3_bringToLeast 66 = .ok (.iload_n 2, 1) := by decide +kernel
theorem dX3_bringToLeast_67 : decode cX3_bringToLeast 67 = .ok (.iload_n 1, 1) := by decide +kernel
theorem dX3_bringToLeast_68 : decode cX3_bringToLeast 68 = .ok (.iastore, 1) := by decide +kernel
theorem dX3_bringToLeast_69 : decode cX3_bringToLeast 69 = .ok (.iinc 1 1, 3) := by decide +kernel
theorem dX3_bringToLeast_72 : decode cX3_bringToLeast 72 = .ok (.iinc 2 1, 3) := by decide +kernel
theorem dX3_bringToLeast_75 : decode cX3_bringToLeast 75 = .ok (.goto (-71), 3) := by decide +kernel
theorem dX3_bringToLeast_78 : decode cX3_bringToLeast 78 = .ok (.aload_n 0, 1) := by decide +kernel
theorem dX3_bringToLeast_79 : decode cX3_bringToLeast 79 = .ok (.iload_n 1, 1) := by decide +kernel
theorem dX3_bringToLeast_80 : decode cX3_bringToLeast 80 = .ok (.putfield 30, 3) := by decide +kernel
theorem dX3_bringToLeast_83 : decode cX3_bringToLeast 83 = .ok (.return_, 1) := by decide +kernel
theorem dX3_rowWithNumber_0 : decode cX3_rowWithNumber 0 = .ok (.iload_n 2, 1) := by decide +kernel
theorem dX3_rowWithNumber_1 : decode cX3_rowWithNumber 1 = .ok (.istore_n 3, 1) := by decide +kernel
theorem dX3_rowWithNumber_2 : decode cX3_rowWithNumber 2 = .ok (.iload_n 3, 1) := by decide +kernel
theorem dX3_rowWithNumber_3 : decode cX3_rowWithNumber 3 = .ok (.aload_n 0, 1) := by decide +kernel
theorem dX3_rowWithNumber_4 : decode cX3_rowWithNumber 4 = .ok (.getfield 30, 3) := by decide +kernel
theorem dX3_rowWithNumber_7 : decode cX3_rowWithNumber 7 = .ok (.if_icmp .ge 22, 3) := by decide +kernel
theorem dX3_rowWithNumber_10 : decode cX3_rowWithNumber 10 = .ok (.aload_n 0, 1) := by decide +kernel
theorem dX3_rowWithNumber_11 : decode cX3_rowWithNumber 11 = .ok (.getfield 11, 3) := by decide +kernel
theorem dX3_rowWithNumber_14 : decode cX3_rowWithNumber 14 = .ok (.iload_n 3, 1) := by decide +kernel
theorem dX3_rowWithNumber_15 : decode cX3_rowWithNumber 15 = .ok (.aaload, 1) := by decide +kernel
theorem dX3_rowWithNumber_16 : decode cX3_rowWithNumber 16 = .ok (.iload_n 1, 1) := by decide +kernel
theorem dX3_rowWithNumber_17 : decode cX3_rowWithNumber 17 = .ok (.iaload, 1) := by decide +kernel
theorem dX3_rowWithNumber_18 : decode cX3_rowWithNumber 18 = .ok (.ifCond .eq 5, 3) := by decide +kernel
theorem dX3_rowWithNumber_21 : decode cX3_rowWithNumber 21 = .ok (.iload_n 3, 1) := by decide +kernel
theorem dX3_rowWithNumber_22 : decode cX3_rowWithNumber 22 = .ok (.ireturn, 1) := by decide +kernel
theorem dX3_rowWithNumber_23 : decode cX3_rowWithNumber 23 = .ok (.iinc 3 1, 3) := by decide +kernel
theorem dX3_rowWithNumber_26 : decode cX3_rowWithNumber 26 = .ok (.goto (-24), 3) := by decide +kernel
theorem dX3_rowWithNumber_29 : decode cX3_rowWithNumber 29 = .ok (.iconst (-1), 1) := by decide +kernel
theorem dX3_rowWithNumber_30 : decode cX3_rowWithNumber 30 = .ok (.ireturn, 1) := by decide +kernel
theorem dX3_swap_0 : decode cX3_swap 0 = .ok (.aload_n 0, 1) := by decide +kernel
theorem dX3_swap_1 : decode cX3_swap 1 = .ok (.getfield 11, 3) := by decide +kernel
theorem dX3_swap_4 : decode cX3_swap 4 = .ok (.iload_n 1, 1) := by decide +kernel
theorem dX3_swap_5 : decode cX3_swap 5 = .ok (.aaload, 1) := by decide +kernel
theorem dX3_swap_6 : decode cX3_swap 6 = .ok (.astore_n 3, 1) := by decide +kernel
theorem dX3_swap_7 : decode cX3_swap 7 = .ok (.aload_n 0, 1) := by decide +kernel
theorem dX3_swap_8 : decode cX3_swap 8 = .ok (.getfield 11, 3) := by decide +kernel
theorem dX3_swap_11 : decode cX3_swap 11 = .ok (.iload_n 1, 1) := by decide +kernel
theorem dX3_swap_12 : decode cX3_swap 12 = .ok (.aload_n 0, 1) := by decide +kernel
theorem dX3_swap_13 : decode cX3_swap 13 = .ok (.getfield 11, 3) := by decide +kernel
theorem dX3_swap_16 : decode cX3_swap 16 = .ok (.iload_n 2, 1) := by decide +kernel
theorem dX3_swap_17 : decode cX3_swap 17 = .ok (.aaload, 1) := by decide +kernel
theorem dX3_swap_18 : decode cX3_swap 18 = .ok (.aastore, 1) := by decide +kernel
theorem dX3_swap_19 : decode cX3_swap 19 = .ok (.aload_n 0, 1) := by decide +kernel
theorem dX3_swap_20 : decode cX3_swap 20 = .ok (.getfield 11, 3) := by decide +kernel
theorem dX3_swap_23 : decode cX3_swap 23 = .ok (.iload_n 2, 1) := by decide +kernel
theorem dX3_swap_24 : decode cX3_swap 24 = .ok (.aload_n 3, 1) := by decide +kernel
theorem dX3_swap_25 : decode cX3_swap 25 = .ok (.aastore, 1) := by decide +kernel
theorem dX3_swap_26 : decode cX3_swap 26 = .ok (.return_, 1) := by decide +kernel
theorem dX3_scale_0 : decode cX3_scale 0 = .ok (.iload_n 2, 1) := by decide +kernel
theorem dX3_scale_1 : decode cX3_scale 1 = .ok (.iconst 1, 1) := by decide +kernel
theorem dX3_scale_2 : decode cX3_scale 2 = .ok (.if_icmp .ne 4, 3) := by decide +kernel
theorem dX3_scale_5 : decode cX3_scale 5 = .ok (.return_, 1) := by decide +kernel
theorem dX3_scale_6 : decode cX3_scale 6 = .ok (.aload_n 0, 1) := by decide +kernel
theorem dX3_scale_7 : decode cX3_scale 7 = .ok (.getfield 11, 3) := by decide +kernel
theorem dX3_scale_10 : decode cX3_scale 10 = .ok (.iload_n 1, 1) := by decide +kernel
theorem dX3_scale_11 : decode cX3_scale 11 = .ok (.aaload, 1) := by decide +kernel
theorem dX3_scale_12 : decode cX3_scale 12 = .ok (.astore 4, 2) := by decide +kernel
theorem dX3_scale_14 : decode cX3_scale 14 = .ok (.iload_n 3, 1) := by decide +kernel
theorem dX3_scale_15 : decode cX3_scale 15 = .ok (.istore 5, 2) := by decide +kernel
theorem dX3_scale_17 : decode cX3_scale 17 = .ok (.iload 5, 2) := by decide +kernel
theorem dX3_scale_19 : decode cX3_scale 19 = .ok (.aload_n 0, 1) := by decide +kernel
theorem dX3_scale_20 : decode cX3_scale 20 = .ok (.getfield 33, 3) := by decide +kernel
theorem dX3_scale_23 : decode cX3_scale 23 = .ok (.if_icmp .ge 26, 3) := by decide +kernel
theorem dX3_scale_26 : decode cX3_scale 26 = .ok (.aload 4, 2) := by decide +kernel
theorem dX3_scale_28 : decode cX3_scale 28 = .ok (.iload 5, 2) := by decide +kernel
theorem dX3_scale_30 : decode cX3_scale 30 = .ok (.aload 4, 2) := by decide +kernel
theorem dX3_scale_32 : decode cX3_scale 32 = .ok (.iload 5, 2) := by decide +kernel
theorem dX3_scale_34 : decode cX3_scale 34 = .ok (.iaload, 1) := by decide +kernel
theorem dX3_scale_35 : decode cX3_scale 35 = .ok (.iload_n 2, 1) := by decide +kernel
theorem dX3_scale_36 : decode cX3_scale 36 = .ok (.imul, 1) := by decide +kernel
theorem dX3_scale_37 : decode cX3_scale 37 = .ok (.aload_n 0, 1) := by decide +kernel
theorem dX3_scale_38 : decode cX3_scale 38 = .ok (.getfield 20, 3) := by decide +kernel
theorem dX3_scale_41 : decode cX3_scale 41 = .ok (.irem, 1) := by decide +kernel
theorem dX3_scale_42 : decode cX3_scale 42 = .ok (.iastore, 1) := by decide +kernel
theorem dX3_scale_43 : decode cX3_scale 43 = .ok (.iinc 5 1, 3) := by decide +kernel
theorem dX3_scale_46 : decode cX3_scale 46 = .ok (.goto (-29), 3) := by decide +kernel
theorem dX3_scale_49 : decode cX3_scale 49 = .ok (.return_, 1) := by decide +kernel
theorem dX3_inverse_0 : decode cX3_inverse 0 = .ok (.iconst 1, 1) := by decide +kernel
theorem dX3_inverse_1 : decode cX3_inverse 1 = .ok (.istore_n 2, 1) := by decide +kernel
theorem dX3_inverse_2 : decode cX3_inverse 2 = .ok (.iload_n 2, 1) := by decide +kernel
theorem dX3_inverse_3 : decode cX3_inverse 3 = .ok (.aload_n 0, 1) := by decide +kernel
theorem dX3_inverse_4 : decode cX3_inverse 4 = .ok (.getfield 20, 3) := by decide +kernel
theorem dX3_inverse_7 : decode cX3_inverse 7 = .ok (.if_icmp .ge 23, 3) := by decide +kernel
theorem dX3_inverse_10 : decode cX3_inverse 10 = .ok (.iload_n 2, 1) := by decide +kernel
theorem dX3_inverse_11 : decode cX3_inverse 11 = .ok (.iload_n 1, 1) := by decide +kernel
theorem dX3_inverse_12 : decode cX3_inverse 12 = .ok (.imul, 1) := by decide +kernel
theorem dX3_inverse_13 : decode cX3_inverse 13 = .ok (.aload_n 0, 1) := by decide +kernel
theorem dX3_inverse_14 : decode cX3_inverse 14 = .ok (.getfield 20, 3) := by decide +kernel
theorem dX3_inverse_17 : decode cX3_inverse 17 = .ok (.irem, 1) := by decide +kernel
theorem dX3_inverse_18 : decode cX3_inverse 18 = .ok (.iconst 1, 1) := by decide +kernel
theorem dX3_inverse_19 : decode cX3_inverse 19 = .ok (.if_icmp .ne 5, 3) := by decide +kernel
theorem dX3_inverse_22 : decode cX3_inverse 22 = .ok (.iload_n 2, 1) := by decide +kernel
theorem dX3_inverse_23 : decode cX3_inverse 23 = .ok (.ireturn, 1) := by decide +kernel
theorem dX3_inverse_24 : decode cX3_inverse 24 = .ok (.iinc 2 1, 3) := by decide +kernel
theorem dX3_inverse_27 : decode cX3_inverse 27 = .ok (.goto (-25), 3) := by decide +kernel
theorem dX3_inverse_30 : decode cX3_inverse 30 = .ok (.iconst 1, 1) := by decide +kernel
theorem dX3_inverse_31 : decode cX3_inverse 31 = .ok (.ireturn, 1) := by decide +kernel
theorem dX3_clearElsewhere_0 : decode cX3_clearElsewhere 0 = .ok (.aload_n 0, 1) := by decide +kernel
theorem dX3_clearElsewhere_1 : decode cX3_clearElsewhere 1 = .ok (.getfield 11, 3) := by decide +kernel
theorem dX3_clearElsewhere_4 : decode cX3_clearElsewhere 4 = .ok (.iload_n 1, 1) := by decide +kernel
theorem dX3_clearElsewhere_5 : decode cX3_clearElsewhere 5 = .ok (.aaload, 1) := by decide +kernel
theorem dX3_clearElsewhere_6 : decode cX3_clearElsewhere 6 = .ok (.astore_n 3, 1) := by decide +kernel
theorem dX3_clearElsewhere_7 : decode cX3_clearElsewhere 7 = .ok (.iconst 0, 1) := by decide +kernel
theorem dX3_clearElsewhere_8 : decode cX3_clearElsewhere 8 = .ok (.istore 4, 2) := by decide +kernel
theorem dX3_clearElsewhere_10 : decode cX3_clearElsewhere 10 = .ok (.iload 4, 2) := by decide +kernel
theorem dX3_clearElsewhere_12 : decode cX3_clearElsewhere 12 = .ok (.aload_n 0, 1) := by decide +kernel
theorem dX3_clearElsewhere_13 : decode cX3_clearElsewhere 13 = .ok (.getfield 30, 3) := by decide +kernel
theorem dX3_clearElsewhere_16 : decode cX3_clearElsewhere 16 = .ok (.if_icmp .ge 86, 3) := by decide +kernel
theorem dX3_clearElsewhere_19 : decode cX3_clearElsewhere 19 = .ok (.aload_n 0, 1) := by decide +kernel
theorem dX3_clearElsewhere_20 : decode cX3_clearElsewhere 20 = .ok (.getfield 11, 3) := by decide +kernel
theorem dX3_clearElsewhere_23 : decode cX3_clearElsewhere 23 = .ok (.iload 4, 2) := by decide +kernel
theorem dX3_clearElsewhere_25 : decode cX3_clearElsewhere 25 = .ok (.aaload, 1) := by decide +kernel
theorem dX3_clearElsewhere_26 : decode cX3_clearElsewhere 26 = .ok (.astore 5, 2) := by decide +kernel
theorem dX3_clearElsewhere_28 : decode cX3_clearElsewhere 28 = .ok (.iload 4, 2) := by decide +kernel
theorem dX3_clearElsewhere_30 : decode cX3_clearElsewhere 30 = .ok (.iload_n 1, 1) := by decide +kernel
theorem dX3_clearElsewhere_31 : decode cX3_clearElsewhere 31 = .ok (.if_icmp .eq 65, 3) := by decide +kernel
theorem dX3_clearElsewhere_34 : decode cX3_clearElsewhere 34 = .ok (.aload 5, 2) := by decide +kernel
theorem dX3_clearElsewhere_36 : decode cX3_clearElsewhere 36 = .ok (.iload_n 2, 1) := by decide +kernel
theorem dX3_clearElsewhere_37 : decode cX3_clearElsewhere 37 = .ok (.iaload, 1) := by decide +kernel
theorem dX3_clearElsewhere_38 : decode cX3_clearElsewhere 38 = .ok (.ifCond .ne 6, 3) := by decide +kernel
theorem dX3_clearElsewhere_41 : decode cX3_clearElsewhere 41 = .ok (.goto 55, 3) := by decide +kernel
theorem dX3_clearElsewhere_44 : decode cX3_clearElsewhere 44 = .ok (.aload_n 0, 1) := by decide +kernel
theorem dX3_clearElsewhere_45 : decode cX3_clearElsewhere 45 = .ok (.getfield 20, 3) := by decide +kernel
theorem dX3_clearElsewhere_48 : decode cX3_clearElsewhere 48 = .ok (.aload 5, 2) := by decide +kernel
theorem dX3_clearElsewhere_50 : decode cX3_clearElsewhere 50 = .ok (.iload_n 2, 1) := by decide +kernel
theorem dX3_clearElsewhere_51 : decode cX3_clearElsewhere 51 = .ok (.iaload, 1) := by decide +kernel
theorem dX3_clearElsewhere_52 : decode cX3_clearElsewhere 52 = .ok (.isub, 1) := by decide +kernel
theorem dX3_clearElsewhere_53 : decode cX3_clearElsewhere 53 = .ok (.istore 6, 2) := by decide +kernel
theorem dX3_clearElsewhere_55 : decode cX3_clearElsewhere 55 = .ok (.iload_n 2, 1) := by decide +kernel
theorem dX3_clearElsewhere_56 : decode cX3_clearElsewhere 56 = .ok (.istore 7, 2) := by decide +kernel
theorem dX3_clearElsewhere_58 : decode cX3_clearElsewhere 58 = .ok (.iload 7, 2) := by decide +kernel
theorem dX3_clearElsewhere_60 : decode cX3_clearElsewhere 60 = .ok (.aload_n 0, 1) := by decide +kernel
theorem dX3_clearElsewhere_61 : decode cX3_clearElsewhere 61 = .ok (.getfield 33, 3) := by decide +kernel
theorem dX3_clearElsewhere_64 : decode cX3_clearElsewhere 64 = .ok (.if_icmp .ge 32, 3) := by decide +kernel
theorem dX3_clearElsewhere_67 : decode cX3_clearElsewhere 67 = .ok (.aload 5, 2) := by decide +kernel
theorem dX3_clearElsewhere_69 : decode cX3_clearElsewhere 69 = .ok (.iload 7, 2) := by decide +kernel
theorem dX3_clearElsewhere_71 : decode cX3_clearElsewhere 71 = .ok (.aload 5, 2) := by decide +kernel
theorem dX3_clearElsewhere_73 : decode cX3_clearElsewhere 73 = .ok (.iload 7, 2) := by decide +kernel
theorem dX3_clearElsewhere_75 : decode cX3_clearElsewhere 75 = .ok (.iaload, 1) := by decide +kernel
theorem dX3_clearElsewhere_76 : decode cX3_clearElsewhere 76 = .ok (.iload 6, 2) := by decide +kernel
theorem dX3_clearElsewhere_78 : decode cX3_clearElsewhere 78 = .ok (.aload_n 3, 1) := by decide +kernel
theorem dX3_clearElsewhere_79 : decode cX3_clearElsewhere 79 = .ok (.iload 7, 2) := by decide +kernel
theorem dX3_clearElsewhere_81 : decode cX3_clearElsewhere 81 = .ok (.iaload, 1) := by decide +kernel
theorem dX3_clearElsewhere_82 : decode cX3_clearElsewhere 82 = .ok (.imul, 1) := by decide +kernel
theorem dX3_clearElsewhere_83 : decode cX3_clearElsewhere 83 = .ok (.iadd, 1) := by decide +kernel
theorem dX3_clearElsewhere_84 : decode cX3_clearElsewhere 84 = .ok (.aload_n 0, 1) := by decide +kernel
theorem dX3_clearElsewhere_85 : decode cX3_clearElsewhere 85 = .ok (.getfield 20, 3) := by decide +kernel
theorem dX3_clearElsewhere_88 : decode cX3_clearElsewhere 88 = .ok (.irem, 1) := by decide +kernel
theorem dX3_clearElsewhere_89 : decode cX3_clearElsewhere 89 = .ok (.iastore, 1) := by decide +kernel
theorem dX3_clearElsewhere_90 : decode cX3_clearElsewhere 90 = .ok (.iinc 7 1, 3) := by decide +kernel
theorem dX3_clearElsewhere_93 : decode cX3_clearElsewhere 93 = .ok (.goto (-35), 3) := by decide +kernel
theorem dX3_clearElsewhere_96 : decode cX3_clearElsewhere 96 = .ok (.iinc 4 1, 3) := by decide +kernel
theorem dX3_clearElsewhere_99 : decode cX3_clearElsewhere 99 = .ok (.goto (-89), 3) := by decide +kernel
theorem dX3_clearElsewhere_102 : decode cX3_clearElsewhere 102 = .ok (.return_, 1) := by decide +kernel
theorem dX3_isFree_0 : decode cX3_isFree 0 = .ok (.aload_n 0, 1) := by decide +kernel
theorem dX3_isFree_1 : decode cX3_isFree 1 = .ok (.getfield 16, 3) := by decide +kernel
theorem dX3_isFree_4 : decode cX3_isFree 4 = .ok (.iload_n 1, 1) := by decide +kernel
theorem dX3_isFree_5 : decode cX3_isFree 5 = .ok (.iaload, 1) := by decide +kernel
theorem dX3_isFree_6 : decode cX3_isFree 6 = .ok (.iconst (-1), 1) := by decide +kernel
theorem dX3_isFree_7 : decode cX3_isFree 7 = .ok (.if_icmp .ne 7, 3) := by decide +kernel
theorem dX3_isFree_10 : decode cX3_isFree 10 = .ok (.iconst 1, 1) := by decide +kernel
theorem dX3_isFree_11 : decode cX3_isFree 11 = .ok (.goto 4, 3) := by decide +kernel
theorem dX3_isFree_14 : decode cX3_isFree 14 = .ok (.iconst 0, 1) := by decide +kernel
theorem dX3_isFree_15 : decode cX3_isFree 15 = .ok (.ireturn, 1) := by decide +kernel
theorem dX3_freeCount_0 : decode cX3_freeCount 0 = .ok (.aload_n 0, 1) := by decide +kernel
theorem dX3_freeCount_1 : decode cX3_freeCount 1 = .ok (.getfield 33, 3) := by decide +kernel
theorem dX3_freeCount_4 : decode cX3_freeCount 4 = .ok (.aload_n 0, 1) := by decide +kernel
theorem dX3_freeCount_5 : decode cX3_freeCount 5 = .ok (.getfield 30, 3) := by decide +kernel
theorem dX3_freeCount_8 : decode cX3_freeCount 8 = .ok (.isub, 1) := by decide +kernel
theorem dX3_freeCount_9 : decode cX3_freeCount 9 = .ok (.ireturn, 1) := by decide +kernel
theorem dX3_rest_0 : decode cX3_rest 0 = .ok (.iload_n 1, 1) := by decide +kernel
theorem dX3_rest_1 : decode cX3_rest 1 = .ok (.iload_n 2, 1) := by decide +kernel
theorem dX3_rest_2 : decode cX3_rest 2 = .ok (.if_icmp .ne 5, 3) := by decide +kernel
theorem dX3_rest_5 : decode cX3_rest 5 = .ok (.iconst 1, 1) := by decide +kernel
theorem dX3_rest_6 : decode cX3_rest 6 = .ok (.ireturn, 1) := by decide +kernel
theorem dX3_rest_7 : decode cX3_rest 7 = .ok (.aload_n 0, 1) := by decide +kernel
theorem dX3_rest_8 : decode cX3_rest 8 = .ok (.getfield 16, 3) := by decide +kernel
theorem dX3_rest_11 : decode cX3_rest 11 = .ok (.iload_n 1, 1) := by decide +kernel
theorem dX3_rest_12 : decode cX3_rest 12 = .ok (.iaload, 1) := by decide +kernel
theorem dX3_rest_13 : decode cX3_rest 13 = .ok (.istore_n 3, 1) := by decide +kernel
theorem dX3_rest_14 : decode cX3_rest 14 = .ok (.iload_n 3, 1) := by decide +kernel
theorem dX3_rest_15 : decode cX3_rest 15 = .ok (.iconst (-1), 1) := by decide +kernel
theorem dX3_rest_16 : decode cX3_rest 16 = .ok (.if_icmp .eq 14, 3) := by decide +kernel
theorem dX3_rest_19 : decode cX3_rest 19 = .ok (.aload_n 0, 1) := by decide +kernel
theorem dX3_rest_20 : decode cX3_rest 20 = .ok (.getfield 11, 3) := by decide +kernel
theorem dX3_rest_23 : decode cX3_rest 23 = .ok (.iload_n 3, 1) := by decide +kernel
theorem dX3_rest_24 : decode cX3_rest 24 = .ok (.aaload, 1) := by decide +kernel
theorem dX3_rest_25 : decode cX3_rest 25 = .ok (.iload_n 2, 1) := by decide +kernel
theorem dX3_rest_26 : decode cX3_rest 26 = .ok (.iaload, 1) := by decide +kernel
theorem dX3_rest_27 : decode cX3_rest 27 = .ok (.ifCond .ne 7, 3) := by decide +kernel
theorem dX3_rest_30 : decode cX3_rest 30 = .ok (.iconst 0, 1) := by decide +kernel
theorem dX3_rest_31 : decode cX3_rest 31 = .ok (.goto 16, 3) := by decide +kernel
theorem dX3_rest_34 : decode cX3_rest 34 = .ok (.aload_n 0, 1) := by decide +kernel
theorem dX3_rest_35 : decode cX3_rest 35 = .ok (.getfield 20, 3) := by decide +kernel
theorem dX3_rest_38 : decode cX3_rest 38 = .ok (.aload_n 0, 1) := by decide +kernel
theorem dX3_rest_39 : decode cX3_rest 39 = .ok (.getfield 11, 3) := by decide +kernel
theorem dX3_rest_42 : decode cX3_rest 42 = .ok (.iload_n 3, 1) := by decide +kernel
theorem dX3_rest_43 : decode cX3_rest 43 = .ok (.aaload, 1) := by decide +kernel
theorem dX3_rest_44 : decode cX3_rest 44 = .ok (.iload_n 2, 1) := by decide +kernel
theorem dX3_rest_45 : decode cX3_rest 45 = .ok (.iaload, 1) := by decide +kernel
theorem dX3_rest_46 : decode cX3_rest 46 = .ok (.isub, 1) := by decide +kernel
theorem dX3_rest_47 : decode cX3_rest 47 = .ok (.ireturn, 1) := by decide +kernel
theorem dX4_init_0 : decode cX4_init 0 = .ok (.aload_n 0, 1) := by decide +kernel
theorem dX4_init_1 : decode cX4_init 1 = .ok (.invokespecial 3, 3) := by decide +kernel
theorem dX4_init_4 : decode cX4_init 4 = .ok (.aload_n 0, 1) := by decide +kernel
theorem dX4_init_5 : decode cX4_init 5 = .ok (.bipush 32, 2) := by decide +kernel
theorem dX4_init_7 : decode cX4_init 7 = .ok (.newarray .int, 2) := by decide +kernel
theorem dX4_init_9 : decode cX4_init 9 = .ok (.putfield 9, 3) := by decide +kernel
theorem dX4_init_12 : decode cX4_init 12 = .ok (.aload_n 0, 1) := by decide +kernel
theorem dX4_init_13 : decode cX4_init 13 = .ok (.bipush 32, 2) := by decide +kernel
theorem dX4_init_15 : decode cX4_init 15 = .ok (.newarray .int, 2) := by decide +kernel
theorem dX4_init_17 : decode cX4_init 17 = .ok (.putfield 15, 3) := by decide +kernel
theorem dX4_init_20 : decode cX4_init 20 = .ok (.return_, 1) := by decide +kernel
theorem dX4_clear_0 : decode cX4_clear 0 = .ok (.aload_n 0, 1) := by decide +kernel
theorem dX4_clear_1 : decode cX4_clear 1 = .ok (.iconst 0, 1) := by decide +kernel
theorem dX4_clear_2 : decode cX4_clear 2 = .ok (.putfield 18, 3) := by decide +kernel
theorem dX4_clear_5 : decode cX4_clear 5 = .ok (.return_, 1) := by decide +kernel
theorem dX4_add_0 : decode cX4_add 0 = .ok (.aload_n 0, 1) := by decide +kernel
theorem dX4_add_1 : decode cX4_add 1 = .ok (.getfield 18, 3) := by decide +kernel
theorem dX4_add_4 : decode cX4_add 4 = .ok (.bipush 32, 2) := by decide +kernel
theorem dX4_add_6 : decode cX4_add 6 = .ok (.if_icmp .ge 33, 3) := by decide +kernel
theorem dX4_add_9 : decode cX4_add 9 = .ok (.aload_n 0, 1) := by decide +kernel
theorem dX4_add_10 : decode cX4_add 10 = .ok (.getfield 9, 3) := by decide +kernel
theorem dX4_add_13 : decode cX4_add 13 = .ok (.aload_n 0, 1) := by decide +kernel
theorem dX4_add_14 : decode cX4_add 14 = .ok (.getfield 18, 3) := by decide +kernel
theorem dX4_add_17 : decode cX4_add 17 = .ok (.iload_n 1, 1) := by decide +kernel
theorem dX4_add_18 : decode cX4_add 18 = .ok (.iastore, 1) := by decide +kernel
theorem dX4_add_19 : decode cX4_add 19 = .ok (.aload_n 0, 1) := by decide +kernel
theorem dX4_add_20 : decode cX4_add 20 = .ok (.getfield 15, 3) := by decide +kernel
theorem dX4_add_23 : decode cX4_add 23 = .ok (.aload_n 0, 1) := by decide +kernel
theorem dX4_add_24 : decode cX4_add 24 = .ok (.getfield 18, 3) := by decide +kernel
theorem dX4_add_27 : decode cX4_add 27 = .ok (.iload_n 2, 1) := by decide +kernel
theorem dX4_add_28 : decode cX4_add 28 = .ok (.iastore, 1) := by decide +kernel
theorem dX4_add_29 : decode cX4_add 29 = .ok (.aload_n 0, 1) := by decide +kernel
theorem dX4_add_30 : decode cX4_add 30 = .ok (.dup, 1) := by decide +kernel
theorem dX4_add_31 : decode cX4_add 31 = .ok (.getfield 18, 3) := by decide +kernel
theorem dX4_add_34 : decode cX4_add 34 = .ok (.iconst 1, 1) := by decide +kernel
theorem dX4_add_35 : decode cX4_add 35 = .ok (.iadd, 1) := by decide +kernel
theorem dX4_add_36 : decode cX4_add 36 = .ok (.putfield 18, 3) := by decide +kernel
theorem dX4_add_39 : decode cX4_add 39 = .ok (.return_, 1) := by decide +kernel
theorem dX4_areSame_0 : decode cX4_areSame 0 = .ok (.aload_n 0, 1) := by decide +kernel
theorem dX4_areSame_1 : decode cX4_areSame 1 = .ok (.getfield 18, 3) := by decide +kernel
theorem dX4_areSame_4 : decode cX4_areSame 4 = .ok (.aload_n 1, 1) := by decide +kernel
theorem dX4_areSame_5 : decode cX4_areSame 5 = .ok (.getfield 18, 3) := by decide +kernel
theorem dX4_areSame_8 : decode cX4_areSame 8 = .ok (.if_icmp .eq 5, 3) := by decide +kernel
theorem dX4_areSame_11 : decode cX4_areSame 11 = .ok (.iconst 0, 1) := by decide +kernel
theorem dX4_areSame_12 : decode cX4_areSame 12 = .ok (.ireturn, 1) := by decide +kernel
theorem dX4_areSame_13 : decode cX4_areSame 13 = .ok (.iconst 0, 1) := by decide +kernel
theorem dX4_areSame_14 : decode cX4_areSame 14 = .ok (.istore_n 2, 1) := by decide +kernel
theorem dX4_areSame_15 : decode cX4_areSame 15 = .ok (.iload_n 2, 1) := by decide +kernel
theorem dX4_areSame_16 : decode cX4_areSame 16 = .ok (.aload_n 0, 1) := by decide +kernel
theorem dX4_areSame_17 : decode cX4_areSame 17 = .ok (.getfield 18, 3) := by decide +kernel
theorem dX4_areSame_20 : decode cX4_areSame 20 = .ok (.if_icmp .ge 41, 3) := by decide +kernel
theorem dX4_areSame_23 : decode cX4_areSame 23 = .ok (.aload_n 0, 1) := by decide +kernel
theorem dX4_areSame_24 : decode cX4_areSame 24 = .ok (.getfield 9, 3) := by decide +kernel
theorem dX4_areSame_27 : decode cX4_areSame 27 = .ok (.iload_n 2, 1) := by decide +kernel
theorem dX4_areSame_28 : decode cX4_areSame 28 = .ok (.iaload, 1) := by decide +kernel
theorem dX4_areSame_29 : decode cX4_areSame 29 = .ok (.aload_n 1, 1) := by decide +kernel
theorem dX4_areSame_30 : decode cX4_areSame 30 = .ok (.getfield 9, 3) := by decide +kernel
theorem dX4_areSame_33 : decode cX4_areSame 33 = .ok (.iload_n 2, 1) := by decide +kernel
theorem dX4_areSame_34 : decode cX4_areSame 34 = .ok (.iaload, 1) := by decide +kernel
theorem dX4_areSame_35 : decode cX4_areSame 35 = .ok (.if_icmp .ne 18, 3) := by decide +kernel
theorem dX4_areSame_38 : decode cX4_areSame 38 = .ok (.aload_n 0, 1) := by decide +kernel
theorem dX4_areSame_39 : decode cX4_areSame 39 = .ok (.getfield 15, 3) := by decide +kernel
theorem dX4_areSame_42 : decode cX4_areSame 42 = .ok (.iload_n 2, 1) := by decide +kernel
theorem dX4_areSame_43 : decode cX4_areSame 43 = .ok (.iaload, 1) := by decide +kernel
theorem dX4_areSame_44 : decode cX4_areSame 44 = .ok (.aload_n 1, 1) := by decide +kernel
theorem dX4_areSame_45 : decode cX4_areSame 45 = .ok (.getfield 15, 3) := by decide +kernel
theorem dX4_areSame_48 : decode cX4_areSame 48 = .ok (.iload_n 2, 1) := by decide +kernel
theorem dX4_areSame_49 : decode cX4_areSame 49 = .ok (.iaload, 1) := by decide +kernel
theorem dX4_areSame_50 : decode cX4_areSame 50 = .ok (.if_icmp .eq 5, 3) := by decide +kernel
theorem dX4_areSame_53 : decode cX4_areSame 53 = .ok (.iconst 0, 1) := by decide +kernel
theorem dX4_areSame_54 : decode cX4_areSame 54 = .ok (.ireturn, 1) := by decide +kernel
theorem dX4_areSame_55 : decode cX4_areSame 55 = .ok (.iinc 2 1, 3) := by decide +kernel
theorem dX4_areSame_58 : decode cX4_areSame 58 = .ok (.goto (-43), 3) := by decide +kernel
theorem dX4_areSame_61 : decode cX4_areSame 61 = .ok (.iconst 1, 1) := by decide +kernel
theorem dX4_areSame_62 : decode cX4_areSame 62 = .ok (.ireturn, 1) := by decide +kernel
theorem dX5_init_0 : decode cX5_init 0 = .ok (.aload_n 0, 1) := by decide +kernel
theorem dX5_init_1 : decode cX5_init 1 = .ok (.invokespecial 3, 3) := by decide +kernel
theorem dX5_init_4 : decode cX5_init 4 = .ok (.aload_n 0, 1) := by decide +kernel
theorem dX5_init_5 : decode cX5_init 5 = .ok (.bipush 9, 2) := by decide +kernel
theorem dX5_init_7 : decode cX5_init 7 = .ok (.newarray .int, 2) := by decide +kernel
theorem dX5_init_9 : decode cX5_init 9 = .ok (.putfield 9, 3) := by decide +kernel
theorem dX5_init_12 : decode cX5_init 12 = .ok (.aload_n 0, 1) := by decide +kernel
theorem dX5_init_13 : decode cX5_init 13 = .ok (.bipush 9, 2) := by decide +kernel
theorem dX5_init_15 : decode cX5_init 15 = .ok (.newarray .int, 2) := by decide +kernel
theorem dX5_init_17 : decode cX5_init 17 = .ok (.putfield 15, 3) := by decide +kernel
theorem dX5_init_20 : decode cX5_init 20 = .ok (.aload_n 0, 1) := by decide +kernel
theorem dX5_init_21 : decode cX5_init 21 = .ok (.bipush 9, 2) := by decide +kernel
theorem dX5_init_23 : decode cX5_init 23 = .ok (.newarray .int, 2) := by decide +kernel
theorem dX5_init_25 : decode cX5_init 25 = .ok (.putfield 18, 3) := by decide +kernel
theorem dX5_init_28 : decode cX5_init 28 = .ok (.aload_n 0, 1) := by decide +kernel
theorem dX5_init_29 : decode cX5_init 29 = .ok (.bipush 9, 2) := by decide +kernel
theorem dX5_init_31 : decode cX5_init 31 = .ok (.newarray .int, 2) := by decide +kernel
theorem dX5_init_33 : decode cX5_init 33 = .ok (.putfield 21, 3) := by decide +kernel
theorem dX5_init_36 : decode cX5_init 36 = .ok (.return_, 1) := by decide +kernel
theorem dX5_read_0 : decode cX5_read 0 = .ok (.iload_n 1, 1) := by decide +kernel
theorem dX5_read_1 : decode cX5_read 1 = .ok (.iconst 1, 1) := by decide +kernel
theorem dX5_read_2 : decode cX5_read 2 = .ok (.if_icmp .lt 13, 3) := by decide +kernel
theorem dX5_read_5 : decode cX5_read 5 = .ok (.iload_n 1, 1) := by decide +kernel
theorem dX5_read_6 : decode cX5_read 6 = .ok (.bipush 9, 2) := by decide +kernel
theorem dX5_read_8 : decode cX5_read 8 = .ok (.if_icmp .gt 7, 3) := by decide +kernel
theorem dX5_read_11 : decode cX5_read 11 = .ok (.iload_n 2, 1) := by decide +kernel
theorem dX5_read_12 : decode cX5_read 12 = .ok (.ifCond .ge 5, 3) := by decide +kernel
theorem dX5_read_15 : decode cX5_read 15 = .ok (.iconst 0, 1) := by decide +kernel
theorem dX5_read_16 : decode cX5_read 16 = .ok (.ireturn, 1) := by decide +kernel
theorem dX5_read_17 : decode cX5_read 17 = .ok (.aload_n 0, 1) := by decide +kernel
theorem dX5_read_18 : decode cX5_read 18 = .ok (.iload_n 1, 1) := by decide +kernel
theorem dX5_read_19 : decode cX5_read 19 = .ok (.putfield 24, 3) := by decide +kernel
theorem dX5_read_22 : decode cX5_read 22 = .ok (.iload_n 2, 1) := by decide +kernel
theorem dX5_read_23 : decode cX5_read 23 = .ok (.istore_n 3, 1) := by decide +kernel
theorem dX5_read_24 : decode cX5_read 24 = .ok (.iconst 1, 1) := by decide +kernel
theorem dX5_read_25 : decode cX5_read 25 = .ok (.istore 4, 2) := by decide +kernel
theorem dX5_read_27 : decode cX5_read 27 = .ok (.iload 4, 2) := by decide +kernel
theorem dX5_read_29 : decode cX5_read 29 = .ok (.iload_n 1, 1) := by decide +kernel
theorem dX5_read_30 : decode cX5_read 30 = .ok (.if_icmp .ge 39, 3) := by decide +kernel
theorem dX5_read_33 : decode cX5_read 33 = .ok (.aload_n 0, 1) := by decide +kernel
theorem dX5_read_34 : decode cX5_read 34 = .ok (.getfield 9, 3) := by decide +kernel
theorem dX5_read_37 : decode cX5_read 37 = .ok (.iload 4, 2) := by decide +kernel
theorem dX5_read_39 : decode cX5_read 39 = .ok (.iload_n 3, 1) := by decide +kernel
theorem dX5_read_40 : decode cX5_read 40 = .ok (.bipush 10, 2) := by decide +kernel
theorem dX5_read_42 : decode cX5_read 42 = .ok (.irem, 1) := by decide +kernel
theorem dX5_read_43 : decode cX5_read 43 = .ok (.iastore, 1) := by decide +kernel
theorem dX5_read_44 : decode cX5_read 44 = .ok (.aload_n 0, 1) := by decide +kernel
theorem dX5_read_45 : decode cX5_read 45 = .ok (.getfield 9, 3) := by decide +kernel
theorem dX5_read_48 : decode cX5_read 48 = .ok (.iload 4, 2) := by decide +kernel
theorem dX5_read_50 : decode cX5_read 50 = .ok (.iaload, 1) := by decide +kernel
theorem dX5_read_51 : decode cX5_read 51 = .ok (.iload 4, 2) := by decide +kernel
theorem dX5_read_53 : decode cX5_read 53 = .ok (.if_icmp .lt 5, 3) := by decide +kernel
theorem dX5_read_56 : decode cX5_read 56 = .ok (.iconst 0, 1) := by decide +kernel
theorem dX5_read_57 : decode cX5_read 57 = .ok (.ireturn, 1) := by decide +kernel
theorem dX5_read_58 : decode cX5_read 58 = .ok (.iload_n 3, 1) := by decide +kernel
theorem dX5_read_59 : decode cX5_read 59 = .ok (.bipush 10, 2) := by decide +kernel
theorem dX5_read_61 : decode cX5_read 61 = .ok (.idiv, 1) := by decide +kernel
theorem dX5_read_62 : decode cX5_read 62 = .ok (.istore_n 3, 1) := by decide +kernel
theorem dX5_read_63 : decode cX5_read 63 = .ok (.iinc 4 1, 3) := by decide +kernel
theorem dX5_read_66 : decode cX5_read 66 = .ok (.goto (-39), 3) := by decide +kernel
theorem dX5_read_69 : decode cX5_read 69 = .ok (.iload_n 3, 1) := by decide +kernel
theorem dX5_read_70 : decode cX5_read 70 = .ok (.ifCond .ne 7, 3) := by decide +kernel
theorem dX5_read_73 : decode cX5_read 73 = .ok (.iconst 1, 1) := by decide +kernel
theorem dX5_read_74 : decode cX5_read 74 = .ok (.goto 4, 3) := by decide +kernel
theorem dX5_read_77 : decode cX5_read 77 = .ok (.iconst 0, 1) := by decide +kernel
theorem dX5_read_78 : decode cX5_read 78 = .ok (.ireturn, 1) := by decide +kernel
theorem dX5_kindOf_0 : decode cX5_kindOf 0 = .ok (.aload_n 0, 1) := by decide +kernel
theorem dX5_kindOf_1 : decode cX5_kindOf 1 = .ok (.getfield 18, 3) := by decide +kernel
theorem dX5_kindOf_4 : decode cX5_kindOf 4 = .ok (.iconst 2, 1) := by decide +kernel
theorem dX5_kindOf_5 : decode cX5_kindOf 5 = .ok (.invokestatic 28, 3) := by decide +kernel
theorem dX5_kindOf_8 : decode cX5_kindOf 8 = .ok (.aload_n 0, 1) := by decide +kernel
theorem dX5_kindOf_9 : decode cX5_kindOf 9 = .ok (.getfield 21, 3) := by decide +kernel
theorem dX5_kindOf_12 : decode cX5_kindOf 12 = .ok (.iconst 1, 1) := by decide +kernel
theorem dX5_kindOf_13 : decode cX5_kindOf 13 = .ok (.invokestatic 28, 3) := by decide +kernel
theorem dX5_kindOf_16 : decode cX5_kindOf 16 = .ok (.aload_n 0, 1) := by decide +kernel
theorem dX5_kindOf_17 : decode cX5_kindOf 17 = .ok (.getfield 24, 3) := by decide +kernel
theorem dX5_kindOf_20 : decode cX5_kindOf 20 = .ok (.iconst 1, 1) := by decide +kernel
theorem dX5_kindOf_21 : decode cX5_kindOf 21 = .ok (.isub, 1) := by decide +kernel
theorem dX5_kindOf_22 : decode cX5_kindOf 22 = .ok (.istore_n 1, 1) := by decide +kernel
theorem dX5_kindOf_23 : decode cX5_kindOf 23 = .ok (.iload_n 1, 1) := by decide +kernel
theorem dX5_kindOf_24 : decode cX5_kindOf 24 = .ok (.ifCond .le 75, 3) := by decide +kernel
theorem dX5_kindOf_27 : decode cX5_kindOf 27 = .ok (.aload_n 0, 1) := by decide +kernel
theorem dX5_kindOf_28 : decode cX5_kindOf 28 = .ok (.getfield 18, 3) := by decide +kernel
theorem dX5_kindOf_31 : decode cX5_kindOf 31 = .ok (.iload_n 1, 1) := by decide +kernel
theorem dX5_kindOf_32 : decode cX5_kindOf 32 = .ok (.iaload, 1) := by decide +kernel
theorem dX5_kindOf_33 : decode cX5_kindOf 33 = .ok (.ifCond .gt 5, 3) := by decide +kernel
theorem dX5_kindOf_36 : decode cX5_kindOf 36 = .ok (.iconst 3, 1) := by decide +kernel
theorem dX5_kindOf_37 : decode cX5_kindOf 37 = .ok (.ireturn, 1) := by decide +kernel
theorem dX5_kindOf_38 : decode cX5_kindOf 38 = .ok (.aload_n 0, 1) := by decide +kernel
theorem dX5_kindOf_39 : decode cX5_kindOf 39 = .ok (.getfield 9, 3) := by decide +kernel
theorem dX5_kindOf_42 : decode cX5_kindOf 42 = .ok (.iload_n 1, 1) := by decide +kernel
theorem dX5_kindOf_43 : decode cX5_kindOf 43 = .ok (.iaload, 1) := by decide +kernel
theorem dX5_kindOf_44 : decode cX5_kindOf 44 = .ok (.istore_n 2, 1) := by decide +kernel
theorem dX5_kindOf_45 : decode cX5_kindOf 45 = .ok (.aload_n 0, 1) := by decide +kernel
theorem dX5_kindOf_46 : decode cX5_kindOf 46 = .ok (.getfield 18, 3) := by decide +kernel
theorem dX5_kindOf_49 : decode cX5_kindOf 49 = .ok (.iload_n 2, 1) := by decide +kernel
theorem dX5_kindOf_50 : decode cX5_kindOf 50 = .ok (.aload_n 0, 1) := by decide +kernel
theorem dX5_kindOf_51 : decode cX5_kindOf 51 = .ok (.getfield 18, 3) := by decide +kernel
theorem dX5_kindOf_54 : decode cX5_kindOf 54 = .ok (.iload_n 2, 1) := by decide +kernel
theorem dX5_kindOf_55 : decode cX5_kindOf 55 = .ok (.iaload, 1) := by decide +kernel
theorem dX5_kindOf_56 : decode cX5_kindOf 56 = .ok (.aload_n 0, 1) := by decide +kernel
theorem dX5_kindOf_57 : decode cX5_kindOf 57 = .ok (.getfield 18, 3) := by decide +kernel
theorem dX5_kindOf_60 : decode cX5_kindOf 60 = .ok (.iload_n 1, 1) := by decide +kernel
theorem dX5_kindOf_61 : decode cX5_kindOf 61 = .ok (.iaload, 1) := by decide +kernel
theorem dX5_kindOf_62 : decode cX5_kindOf 62 = .ok (.imul, 1) := by decide +kernel
theorem dX5_kindOf_63 : decode cX5_kindOf 63 = .ok (.aload_n 0, 1) := by decide +kernel
theorem dX5_kindOf_64 : decode cX5_kindOf 64 = .ok (.getfield 21, 3) := by decide +kernel
theorem dX5_kindOf_67 : decode cX5_kindOf 67 = .ok (.iload_n 2, 1) := by decide +kernel
theorem dX5_kindOf_68 : decode cX5_kindOf 68 = .ok (.iaload, 1) := by decide +kernel
theorem dX5_kindOf_69 : decode cX5_kindOf 69 = .ok (.aload_n 0, 1) := by decide +kernel
theorem dX5_kindOf_70 : decode cX5_kindOf 70 = .ok (.getfield 21, 3) := by decide +kernel
theorem dX5_kindOf_73 : decode cX5_kindOf 73 = .ok (.iload_n 1, 1) := by decide +kernel
theorem dX5_kindOf_74 : decode cX5_kindOf 74 = .ok (.iaload, 1) := by decide +kernel
theorem dX5_kindOf_75 : decode cX5_kindOf 75 = .ok (.imul, 1) := by decide +kernel
theorem dX5_kindOf_76 : decode cX5_kindOf 76 = .ok (.isub, 1) := by decide +kernel
theorem dX5_kindOf_77 : decode cX5_kindOf 77 = .ok (.iastore, 1) := by decide +kernel
theorem dX5_kindOf_78 : decode cX5_kindOf 78 = .ok (.aload_n 0, 1) := by decide +kernel
theorem dX5_kindOf_79 : decode cX5_kindOf 79 = .ok (.getfield 21, 3) := by decide +kernel
theorem dX5_kindOf_82 : decode cX5_kindOf 82 = .ok (.iload_n 2, 1) := by decide +kernel
theorem dX5_kindOf_83 : decode cX5_kindOf 83 = .ok (.dup2, 1) := by decide +kernel
theorem dX5_kindOf_84 : decode cX5_kindOf 84 = .ok (.iaload, 1) := by decide +kernel
theorem dX5_kindOf_85 : decode cX5_kindOf 85 = .ok (.aload_n 0, 1) := by decide +kernel
theorem dX5_kindOf_86 : decode cX5_kindOf 86 = .ok (.getfield 18, 3) := by decide +kernel
theorem dX5_kindOf_89 : decode cX5_kindOf 89 = .ok (.iload_n 1, 1) := by decide +kernel
theorem dX5_kindOf_90 : decode cX5_kindOf 90 = .ok (.iaload, 1) := by decide +kernel
theorem dX5_kindOf_91 : decode cX5_kindOf 91 = .ok (.imul, 1) := by decide +kernel
theorem dX5_kindOf_92 : decode cX5_kindOf 92 = .ok (.iastore, 1) := by decide +kernel
theorem dX5_kindOf_93 : decode cX5_kindOf 93 = .ok (.iinc 1 (-1), 3) := by decide +kernel
theorem dX5_kindOf_96 : decode cX5_kindOf 96 = .ok (.goto (-73), 3) := by decide +kernel
theorem dX5_kindOf_99 : decode cX5_kindOf 99 = .ok (.aload_n 0, 1) := by decide +kernel
theorem dX5_kindOf_100 : decode cX5_kindOf 100 = .ok (.getfield 18, 3) := by decide +kernel
theorem dX5_kindOf_103 : decode cX5_kindOf 103 = .ok (.iconst 0, 1) := by decide +kernel
theorem dX5_kindOf_104 : decode cX5_kindOf 104 = .ok (.iaload, 1) := by decide +kernel
theorem dX5_kindOf_105 : decode cX5_kindOf 105 = .ok (.ifCond .le 5, 3) := by decide +kernel
theorem dX5_kindOf_108 : decode cX5_kindOf 108 = .ok (.iconst 1, 1) := by decide +kernel
theorem dX5_kindOf_109 : decode cX5_kindOf 109 = .ok (.ireturn, 1) := by decide +kernel
theorem dX5_kindOf_110 : decode cX5_kindOf 110 = .ok (.aload_n 0, 1) := by decide +kernel
theorem dX5_kindOf_111 : decode cX5_kindOf 111 = .ok (.getfield 18, 3) := by decide +kernel
theorem dX5_kindOf_114 : decode cX5_kindOf 114 = .ok (.iconst 0, 1) := by decide +kernel
theorem dX5_kindOf_115 : decode cX5_kindOf 115 = .ok (.iaload, 1) := by decide +kernel
theorem dX5_kindOf_116 : decode cX5_kindOf 116 = .ok (.ifCond .ne 7, 3) := by decide +kernel
theorem dX5_kindOf_119 : decode cX5_kindOf 119 = .ok (.iconst 2, 1) := by decide +kernel
theorem dX5_kindOf_120 : decode cX5_kindOf 120 = .ok (.goto 4, 3) := by decide +kernel
theorem dX5_kindOf_123 : decode cX5_kindOf 123 = .ok (.iconst 3, 1) := by decide +kernel
theorem dX5_kindOf_124 : decode cX5_kindOf 124 = .ok (.ireturn, 1) := by decide +kernel
theorem dX5_rootCount_0 : decode cX5_rootCount 0 = .ok (.aload_n 0, 1) := by decide +kernel
theorem dX5_rootCount_1 : decode cX5_rootCount 1 = .ok (.invokevirtual 34, 3) := by decide +kernel
theorem dX5_rootCount_4 : decode cX5_rootCount 4 = .ok (.aload_n 0, 1) := by decide +kernel
theorem dX5_rootCount_5 : decode cX5_rootCount 5 = .ok (.invokevirtual 37, 3) := by decide +kernel
theorem dX5_rootCount_8 : decode cX5_rootCount 8 = .ok (.istore_n 1, 1) := by decide +kernel
theorem dX5_rootCount_9 : decode cX5_rootCount 9 = .ok (.iload_n 1, 1) := by decide +kernel
theorem dX5_rootCount_10 : decode cX5_rootCount 10 = .ok (.iconst (-1), 1) := by decide +kernel
theorem dX5_rootCount_11 : decode cX5_rootCount 11 = .ok (.if_icmp .ne 17, 3) := by decide +kernel
theorem dX5_rootCount_14 : decode cX5_rootCount 14 = .ok (.aload_n 0, 1) := by decide +kernel
theorem dX5_rootCount_15 : decode cX5_rootCount 15 = .ok (.getfield 24, 3) := by decide +kernel
theorem dX5_rootCount_18 : decode cX5_rootCount 18 = .ok (.aload_n 0, 1) := by decide +kernel
theorem dX5_rootCount_19 : decode cX5_rootCount 19 = .ok (.getfield 24, 3) := by decide +kernel
theorem dX5_rootCount_22 : decode cX5_rootCount 22 = .ok (.iconst 1, 1) := by decide +kernel
theorem dX5_rootCount_23 : decode cX5_rootCount 23 = .ok (.iadd, 1) := by decide +kernel
theorem dX5_rootCount_24 : decode cX5_rootCount 24 = .ok (.imul, 1) := by decide +kernel
theorem dX5_rootCount_25 : decode cX5_rootCount 25 = .ok (.iconst 2, 1) := by decide +kernel
theorem dX5_rootCount_26 : decode cX5_rootCount 26 = .ok (.idiv, 1) := by decide +kernel
theorem dX5_rootCount_27 : decode cX5_rootCount 27 = .ok (.ireturn, 1) := by decide +kernel
theorem dX5_rootCount_28 : decode cX5_rootCount 28 = .ok (.aload_n 0, 1) := by decide +kernel
theorem dX5_rootCount_29 : decode cX5_rootCount 29 = .ok (.iload_n 1, 1) := by decide +kernel
theorem dX5_rootCount_30 : decode cX5_rootCount 30 = .ok (.invokevirtual 41, 3) := by decide +kernel
theorem dX5_rootCount_33 : decode cX5_rootCount 33 = .ok (.iconst 2, 1) := by decide +kernel
theorem dX5_rootCount_34 : decode cX5_rootCount 34 = .ok (.if_icmp .lt 15, 3) := by decide +kernel
theorem dX5_rootCount_37 : decode cX5_rootCount 37 = .ok (.aload_n 0, 1) := by decide +kernel
theorem dX5_rootCount_38 : decode cX5_rootCount 38 = .ok (.getfield 24, 3) := by decide +kernel
theorem dX5_rootCount_41 : decode cX5_rootCount 41 = .ok (.aload_n 0, 1) := by decide +kernel
theorem dX5_rootCount_42 : decode cX5_rootCount 42 = .ok (.getfield 24, 3) := by decide +kernel
theorem dX5_rootCount_45 : decode cX5_rootCount 45 = .ok (.iconst 1, 1) := by decide +kernel
theorem dX5_rootCount_46 : decode cX5_rootCount 46 = .ok (.isub, 1) := by decide +kernel
theorem dX5_rootCount_47 : decode cX5_rootCount 47 = .ok (.imul, 1) := by decide +kernel
theorem dX5_rootCount_48 : decode cX5_rootCount 48 = .ok (.ireturn, 1) := by decide +kernel
theorem dX5_rootCount_49 : decode cX5_rootCount 49 = .ok (.aload_n 0, 1) := by decide +kernel
theorem dX5_rootCount_50 : decode cX5_rootCount 50 = .ok (.getfield 24, 3) := by decide +kernel
theorem dX5_rootCount_53 : decode cX5_rootCount 53 = .ok (.lookupswitch 33 #[(6, 27), (7, 30)], 27) := by decide +kernel
theorem dX5_rootCount_80 : decode cX5_rootCount 80 = .ok (.bipush 36, 2) := by decide +kernel
theorem dX5_rootCount_82 : decode cX5_rootCount 82 = .ok (.ireturn, 1) := by decide +kernel
theorem dX5_rootCount_83 : decode cX5_rootCount 83 = .ok (.bipush 63, 2) := by decide +kernel
theorem dX5_rootCount_85 : decode cX5_rootCount 85 = .ok (.ireturn, 1) := by decide +kernel
theorem dX5_rootCount_86 : decode cX5_rootCount 86 = .ok (.bipush 120, 2) := by decide +kernel
theorem dX5_rootCount_88 : decode cX5_rootCount 88 = .ok (.ireturn, 1) := by decide +kernel
theorem dX5_countLines_0 : decode cX5_countLines 0 = .ok (.aload_n 0, 1) := by decide +kernel
theorem dX5_countLines_1 : decode cX5_countLines 1 = .ok (.getfield 15, 3) := by decide +kernel
theorem dX5_countLines_4 : decode cX5_countLines 4 = .ok (.iconst 0, 1) := by decide +kernel
theorem dX5_countLines_5 : decode cX5_countLines 5 = .ok (.invokestatic 28, 3) := by decide +kernel
theorem dX5_countLines_8 : decode cX5_countLines 8 = .ok (.iconst 1, 1) := by decide +kernel
theorem dX5_countLines_9 : decode cX5_countLines 9 = .ok (.istore_n 1, 1) := by decide +kernel
theorem dX5_countLines_10 : decode cX5_countLines 10 = .ok (.iload_n 1, 1) := by decide +kernel
theorem dX5_countLines_11 : decode cX5_countLines 11 = .ok (.aload_n 0, 1) := by decide +kernel
theorem dX5_countLines_12 : decode cX5_countLines 12 = .ok (.getfield 24, 3) := by decide +kernel
theorem dX5_countLines_15 : decode cX5_countLines 15 = .ok (.if_icmp .ge 34, 3) := by decide +kernel
theorem dX5_countLines_18 : decode cX5_countLines 18 = .ok (.aload_n 0, 1) := by decide +kernel
theorem dX5_countLines_19 : decode cX5_countLines 19 = .ok (.getfield 15, 3) := by decide +kernel
theorem dX5_countLines_22 : decode cX5_countLines 22 = .ok (.iload_n 1, 1) := by decide +kernel
theorem dX5_countLines_23 : decode cX5_countLines 23 = .ok (.dup2, 1) := by decide +kernel
theorem dX5_countLines_24 : decode cX5_countLines 24 = .ok (.iaload, 1) := by decide +kernel
theorem dX5_countLines_25 : decode cX5_countLines 25 = .ok (.iconst 1, 1) := by decide +kernel
theorem dX5_countLines_26 : decode cX5_countLines 26 = .ok (.iadd, 1) := by decide +kernel
theorem dX5_countLines_27 : decode cX5_countLines 27 = .ok (.iastore, 1) := by decide +kernel
theorem dX5_countLines_28 : decode cX5_countLines 28 = .ok (.aload_n 0, 1) := by decide +kernel
theorem dX5_countLines_29 : decode cX5_countLines 29 = .ok (.getfield 15, 3) := by decide +kernel
theorem dX5_countLines_32 : decode cX5_countLines 32 = .ok (.aload_n 0, 1) := by decide +kernel
theorem dX5_countLines_33 : decode cX5_countLines 33 = .ok (.getfield 9, 3) := by decide +kernel
theorem dX5_countLines_36 : decode cX5_countLines 36 = .ok (.iload_n 1, 1) := by decide +kernel
theorem dX5_countLines_37 : decode cX5_countLines 37 = .ok (.iaload, 1) := by decide +kernel
theorem dX5_countLines_38 : decode cX5_countLines 38 = .ok (.dup2, 1) := by decide +kernel
theorem dX5_countLines_39 : decode cX5_countLines 39 = .ok (.iaload, 1) := by decide +kernel
theorem dX5_countLines_40 : decode cX5_countLines 40 = .ok (.iconst 1, 1) := by decide +kernel
theorem dX5_countLines_41 : decode cX5_countLines 41 = .ok (.iadd, 1) := by decide +kernel
theorem dX5_countLines_42 : decode cX5_countLines 42 = .ok (.iastore, 1) := by decide +kernel
theorem dX5_countLines_43 : decode cX5_countLines 43 = .ok (.iinc 1 1, 3) := by decide +kernel
theorem dX5_countLines_46 : decode cX5_countLines 46 = .ok (.goto (-36), 3) := by decide +kernel
theorem dX5_countLines_49 : decode cX5_countLines 49 = .ok (.return_, 1) := by decide +kernel
theorem dX5_branchPost_0 : decode cX5_branchPost 0 = .ok (.iconst 0, 1) := by decide +kernel
theorem dX5_branchPost_1 : decode cX5_branchPost 1 = .ok (.istore_n 1, 1) := by decide +kernel
theorem dX5_branchPost_2 : decode cX5_branchPost 2 = .ok (.iload_n 1, 1) := by decide +kernel
theorem dX5_branchPost_3 : decode cX5_branchPost 3 = .ok (.aload_n 0, 1) := by decide +kernel
theorem dX5_branchPost_4 : decode cX5_branchPost 4 = .ok (.getfield 24, 3) := by decide +kernel
theorem dX5_branchPost_7 : decode cX5_branchPost 7 = .ok (.if_icmp .ge 21, 3) := by decide +kernel
theorem dX5_branchPost_10 : decode cX5_branchPost 10 = .ok (.aload_n 0, 1) := by decide +kernel
theorem dX5_branchPost_11 : decode cX5_branchPost 11 = .ok (.getfield 15, 3) := by decide +kernel
theorem dX5_branchPost_14 : decode cX5_branchPost 14 = .ok (.iload_n 1, 1) := by decide +kernel
theorem dX5_branchPost_15 : decode cX5_branchPost 15 = .ok (.iaload, 1) := by decide +kernel
theorem dX5_branchPost_16 : decode cX5_branchPost 16 = .ok (.iconst 2, 1) := by decide +kernel
theorem dX5_branchPost_17 : decode cX5_branchPost 17 = .ok (.if_icmp .le 5, 3) := by decide +kernel
theorem dX5_branchPost_20 : decode cX5_branchPost 20 = .ok (.iload_n 1, 1) := by decide +kernel
theorem dX5_branchPost_21 : decode cX5_branchPost 21 = .ok (.ireturn, 1) := by decide +kernel
theorem dX5_branchPost_22 : decode cX5_branchPost 22 = .ok (.iinc 1 1, 3) := by decide +kernel
theorem dX5_branchPost_25 : decode cX5_branchPost 25 = .ok (.goto (-23), 3) := by decide +kernel
theorem dX5_branchPost_28 : decode cX5_branchPost 28 = .ok (.iconst (-1), 1) := by decide +kernel
theorem dX5_branchPost_29 : decode cX5_branchPost 29 = .ok (.ireturn, 1) := by decide +kernel
theorem dX5_endsBeside_0 : decode cX5_endsBeside 0 = .ok (.iconst 0, 1) := by decide +kernel
theorem dX5_endsBeside_1 : decode cX5_endsBeside 1 = .ok (.istore_n 2, 1) := by decide +kernel
theorem dX5_endsBeside_2 : decode cX5_endsBeside 2 = .ok (.iconst 1, 1) := by decide +kernel
theorem dX5_endsBeside_3 : decode cX5_endsBeside 3 = .ok (.istore_n 3, 1) := by decide +kernel
theorem dX5_endsBeside_4 : decode cX5_endsBeside 4 = .ok (.iload_n 3, 1) := by decide +kernel
theorem dX5_endsBeside_5 : decode cX5_endsBeside 5 = .ok (.aload_n 0, 1) := by decide +kernel
theorem dX5_endsBeside_6 : decode cX5_endsBeside 6 = .ok (.getfield 24, 3) := by decide +kernel
theorem dX5_endsBeside_9 : decode cX5_endsBeside 9 = .ok (.if_icmp .ge 76, 3) := by decide +kernel
theorem dX5_endsBeside_12 : decode cX5_endsBeside 12 = .ok (.aload_n 0, 1) := by decide +kernel
theorem dX5_endsBeside_13 : decode cX5_endsBeside 13 = .ok (.getfield 9, 3) := by decide +kernel
theorem dX5_endsBeside_16 : decode cX5_endsBeside 16 = .ok (.iload_n 3, 1) := by decide +kernel
theorem dX5_endsBeside_17 : decode cX5_endsBeside 17 = .ok (.iaload, 1) := by decide +kernel
theorem dX5_endsBeside_18 : decode cX5_endsBeside 18 = .ok (.iload_n 1, 1) := by decide +kernel
theorem dX5_endsBeside_19 : decode cX5_endsBeside 19 = .ok (.if_icmp .ne 17, 3) := by decide +kernel
theorem dX5_endsBeside_22 : decode cX5_endsBeside 22 = .ok (.aload_n 0, 1) := by decide +kernel
theorem dX5_endsBeside_23 : decode cX5_endsBeside 23 = .ok (.getfield 15, 3) := by decide +kernel
theorem dX5_endsBeside_26 : decode cX5_endsBeside 26 = .ok (.iload_n 3, 1) := by decide +kernel
theorem dX5_endsBeside_27 : decode cX5_endsBeside 27 = .ok (.iaload, 1) := by decide +kernel
theorem dX5_endsBeside_28 : decode cX5_endsBeside 28 = .ok (.iconst 1, 1) := by decide +kernel
theorem dX5_endsBeside_29 : decode cX5_endsBeside 29 = .ok (.if_icmp .ne 7, 3) := by decide +kernel
theorem dX5_endsBeside_32 : decode cX5_endsBeside 32 = .ok (.iconst 1, 1) := by decide +kernel
theorem dX5_endsBeside_33 : decode cX5_endsBeside 33 = .ok (.goto 4, 3) := by decide +kernel
theorem dX5_endsBeside_36 : decode cX5_endsBeside 36 = .ok (.iconst 0, 1) := by decide +kernel
theorem dX5_endsBeside_37 : decode cX5_endsBeside 37 = .ok (.istore 4, 2) := by decide +kernel
theorem dX5_endsBeside_39 : decode cX5_endsBeside 39 = .ok (.iload_n 3, 1) := by decide +kernel
theorem dX5_endsBeside_40 : decode cX5_endsBeside 40 = .ok (.iload_n 1, 1) := by decide +kernel
theorem dX5_endsBeside_41 : decode cX5_endsBeside 41 = .ok (.if_icmp .ne 22, 3) := by decide +kernel
theorem dX5_endsBeside_44 : decode cX5_endsBeside 44 = .ok (.aload_n 0, 1) := by decide +kernel
theorem dX5_endsBeside_45 : decode cX5_endsBeside 45 = .ok (.getfield 15, 3) := by decide +kernel
theorem dX5_endsBeside_48 : decode cX5_endsBeside 48 = .ok (.aload_n 0, 1) := by decide +kernel
theorem dX5_endsBeside_49 : decode cX5_endsBeside 49 = .ok (.getfield 9, 3) := by decide +kernel
theorem dX5_endsBeside_52 : decode cX5_endsBeside 52 = .ok (.iload_n 3, 1) := by decide +kernel
theorem dX5_endsBeside_53 : decode cX5_endsBeside 53 = .ok (.iaload, 1) := by decide +kernel
theorem dX5_endsBeside_54 : decode cX5_endsBeside 54 = .ok (.iaload, 1) := by decide +kernel
theorem dX5_endsBeside_55 : decode cX5_endsBeside 55 = .ok (.iconst 1, 1) := by decide +kernel
theorem dX5_endsBeside_56 : decode cX5_endsBeside 56 = .ok (.if_icmp .ne 7, 3) := by decide +kernel
theorem dX5_endsBeside_59 : decode cX5_endsBeside 59 = .ok (.iconst 1, 1) := by decide +kernel
theorem dX5_endsBeside_60 : decode cX5_endsBeside 60 = .ok (.goto 4, 3) := by decide +kernel
theorem dX5_endsBeside_63 : decode cX5_endsBeside 63 = .ok (.iconst 0, 1) := by decide +kernel
theorem dX5_endsBeside_64 : decode cX5_endsBeside 64 = .ok (.istore 5, 2) := by decide +kernel
theorem dX5_endsBeside_66 : decode cX5_endsBeside 66 = .ok (.iload 4, 2) := by decide +kernel
theorem dX5_endsBeside_68 : decode cX5_endsBeside 68 = .ok (.ifCond .ne 8, 3) := by decide +kernel
theorem dX5_endsBeside_71 : decode cX5_endsBeside 71 = .ok (.iload 5, 2) := by decide +kernel
theorem dX5_endsBeside_73 : decode cX5_endsBeside 73 = .ok (.ifCond .eq 6, 3) := by decide +kernel
theorem dX5_endsBeside_76 : decode cX5_endsBeside 76 = .ok (.iinc 2 1, 3) := by decide +kernel
theorem dX5_endsBeside_79 : decode cX5_endsBeside 79 = .ok (.iinc 3 1, 3) := by decide +kernel
theorem dX5_endsBeside_82 : decode cX5_endsBeside 82 = .ok (.goto (-78), 3) := by decide +kernel
theorem dX5_endsBeside_85 : decode cX5_endsBeside 85 = .ok (.iload_n 2, 1) := by decide +kernel
theorem dX5_endsBeside_86 : decode cX5_endsBeside 86 = .ok (.ireturn, 1) := by decide +kernel
theorem dJ9_floorMod_7cf53_0 : decode cJ9_floorMod_7cf53 0 = .ok (.iload_n 0, 1) := by decide +kernel
theorem dJ9_floorMod_7cf53_1 : decode cJ9_floorMod_7cf53 1 = .ok (.iload_n 1, 1) := by decide +kernel
theorem dJ9_floorMod_7cf53_2 : decode cJ9_floorMod_7cf53 2 = .ok (.irem, 1) := by decide +kernel
theorem dJ9_floorMod_7cf53_3 : decode cJ9_floorMod_7cf53 3 = .ok (.istore_n 2, 1) := by decide +kernel
theorem dJ9_floorMod_7cf53_4 : decode cJ9_floorMod_7cf53 4 = .ok (.iload_n 0, 1) := by decide +kernel
theorem dJ9_floorMod_7cf53_5 : decode cJ9_floorMod_7cf53 5 = .ok (.iload_n 1, 1) := by decide +kernel
theorem dJ9_floorMod_7cf53_6 : decode cJ9_floorMod_7cf53 6 = .ok (.ixor, 1) := by decide +kernel
theorem dJ9_floorMod_7cf53_7 : decode cJ9_floorMod_7cf53 7 = .ok (.ifCond .ge 11, 3) := by decide +kernel
theorem dJ9_floorMod_7cf53_10 : decode cJ9_floorMod_7cf53 10 = .ok (.iload_n 2, 1) := by decide +kernel
theorem dJ9_floorMod_7cf53_11 : decode cJ9_floorMod_7cf53 11 = .ok (.ifCond .eq 7, 3) := by decide +kernel
theorem dJ9_floorMod_7cf53_14 : decode cJ9_floorMod_7cf53 14 = .ok (.iload_n 2, 1) := by decide +kernel
theorem dJ9_floorMod_7cf53_15 : decode cJ9_floorMod_7cf53 15 = .ok (.iload_n 1, 1) := by decide +kernel
theorem dJ9_floorMod_7cf53_16 : decode cJ9_floorMod_7cf53 16 = .ok (.iadd, 1) := by decide +kernel
theorem dJ9_floorMod_7cf53_17 : decode cJ9_floorMod_7cf53 17 = .ok (.ireturn, 1) := by decide +kernel
theorem dJ9_floorMod_7cf53_18 : decode cJ9_floorMod_7cf53 18 = .ok (.iload_n 2, 1) := by decide +kernel
theorem dJ9_floorMod_7cf53_19 : decode cJ9_floorMod_7cf53 19 = .ok (.ireturn, 1) := by decide +kernel
theorem dJ9_abs_0f7a4_0 : decode cJ9_abs_0f7a4 0 = .ok (.iload_n 0, 1) := by decide +kernel
theorem dJ9_abs_0f7a4_1 : decode cJ9_abs_0f7a4 1 = .ok (.ifCond .ge 8, 3) := by decide +kernel
theorem dJ9_abs_0f7a4_4 : decode cJ9_abs_0f7a4 4 = .ok (.iload_n 0, 1) := by decide +kernel
theorem dJ9_abs_0f7a4_5 : decode cJ9_abs_0f7a4 5 = .ok (.ineg, 1) := by decide +kernel
theorem dJ9_abs_0f7a4_6 : decode cJ9_abs_0f7a4 6 = .ok (.goto 4, 3) := by decide +kernel
theorem dJ9_abs_0f7a4_9 : decode cJ9_abs_0f7a4 9 = .ok (.iload_n 0, 1) := by decide +kernel
theorem dJ9_abs_0f7a4_10 : decode cJ9_abs_0f7a4 10 = .ok (.ireturn, 1) := by decide +kernel
theorem dJ9_max_7cf53_0 : decode cJ9_max_7cf53 0 = .ok (.iload_n 0, 1) := by decide +kernel
theorem dJ9_max_7cf53_1 : decode cJ9_max_7cf53 1 = .ok (.iload_n 1, 1) := by decide +kernel
theorem dJ9_max_7cf53_2 : decode cJ9_max_7cf53 2 = .ok (.if_icmp .lt 7, 3) := by decide +kernel
theorem dJ9_max_7cf53_5 : decode cJ9_max_7cf53 5 = .ok (.iload_n 0, 1) := by decide +kernel
theorem dJ9_max_7cf53_6 : decode cJ9_max_7cf53 6 = .ok (.goto 4, 3) := by decide +kernel
theorem dJ9_max_7cf53_9 : decode cJ9_max_7cf53 9 = .ok (.iload_n 1, 1) := by decide +kernel
theorem dJ9_max_7cf53_10 : decode cJ9_max_7cf53 10 = .ok (.ireturn, 1) := by decide +kernel
theorem dJ9_min_7cf53_0 : decode cJ9_min_7cf53 0 = .ok (.iload_n 0, 1) := by decide +kernel
theorem dJ9_min_7cf53_1 : decode cJ9_min_7cf53 1 = .ok (.iload_n 1, 1) := by decide +kernel
theorem dJ9_min_7cf53_2 : decode cJ9_min_7cf53 2 = .ok (.if_icmp .gt 7, 3) := by decide +kernel
theorem dJ9_min_7cf53_5 : decode cJ9_min_7cf53 5 = .ok (.iload_n 0, 1) := by decide +kernel
theorem dJ9_min_7cf53_6 : decode cJ9_min_7cf53 6 = .ok (.goto 4, 3) := by decide +kernel
theorem dJ9_min_7cf53_9 : decode cJ9_min_7cf53 9 = .ok (.iload_n 1, 1) := by decide +kernel
theorem dJ9_min_7cf53_10 : decode cJ9_min_7cf53 10 = .ok (.ireturn, 1) := by decide +kernel
theorem dJ7_fill_53178_0 : decode cJ7_fill_53178 0 = .ok (.iconst 0, 1) := by decide +kernel
theorem dJ7_fill_53178_1 : decode cJ7_fill_53178 1 = .ok (.istore_n 2, 1) := by decide +kernel
theorem dJ7_fill_53178_2 : decode cJ7_fill_53178 2 = .ok (.aload_n 0, 1) := by decide +kernel
theorem dJ7_fill_53178_3 : decode cJ7_fill_53178 3 = .ok (.arraylength, 1) := by decide +kernel
theorem dJ7_fill_53178_4 : decode cJ7_fill_53178 4 = .ok (.istore_n 3, 1) := by decide +kernel
theorem dJ7_fill_53178_5 : decode cJ7_fill_53178 5 = .ok (.iload_n 2, 1) := by decide +kernel
theorem dJ7_fill_53178_6 : decode cJ7_fill_53178 6 = .ok (.iload_n 3, 1) := by decide +kernel
theorem dJ7_fill_53178_7 : decode cJ7_fill_53178 7 = .ok (.if_icmp .ge 13, 3) := by decide +kernel
theorem dJ7_fill_53178_10 : decode cJ7_fill_53178 10 = .ok (.aload_n 0, 1) := by decide +kernel
theorem dJ7_fill_53178_11 : decode cJ7_fill_53178 11 = .ok (.iload_n 2, 1) := by decide +kernel
theorem dJ7_fill_53178_12 : decode cJ7_fill_53178 12 = .ok (.iload_n 1, 1) := by decide +kernel
theorem dJ7_fill_53178_13 : decode cJ7_fill_53178 13 = .ok (.iastore, 1) := by decide +kernel
theorem dJ7_fill_53178_14 : decode cJ7_fill_53178 14 = .ok (.iinc 2 1, 3) := by decide +kernel
theorem dJ7_fill_53178_17 : decode cJ7_fill_53178 17 = .ok (.goto (-12), 3) := by decide +kernel
theorem dJ7_fill_53178_20 : decode cJ7_fill_53178 20 = .ok (.return_, 1) := by decide +kernel
end
section
theorem dX6_init_0 : decode cX6_init 0 = .ok (.aload_n 0, 1) := by decide +kernel
theorem dX6_init_1 : decode cX6_init 1 = .ok (.invokespecial 3, 3) := by decide +kernel
theorem dX6_init_4 : decode cX6_init 4 = .ok (.aload_n 0, 1) := by decide +kernel
theorem dX6_init_5 : decode cX6_init 5 = .ok (.iload_n 1, 1) := by decide +kernel
theorem dX6_init_6 : decode cX6_init 6 = .ok (.invokestatic 9, 3) := by decide +kernel
theorem dX6_init_9 : decode cX6_init 9 = .ok (.putfield 13, 3) := by decide +kernel
theorem dX6_init_12 : decode cX6_init 12 = .ok (.aload_n 0, 1) := by decide +kernel
theorem dX6_init_13 : decode cX6_init 13 = .ok (.iconst 1, 1) := by decide +kernel
theorem dX6_init_14 : decode cX6_init 14 = .ok (.bipush 8, 2) := by decide +kernel
theorem dX6_init_16 : decode cX6_init 16 = .ok (.iload_n 2, 1) := by decide +kernel
theorem dX6_init_17 : decode cX6_init 17 = .ok (.invokestatic 17, 3) := by decide +kernel
theorem dX6_init_20 : decode cX6_init 20 = .ok (.invokestatic 23, 3) := by decide +kernel
theorem dX6_init_23 : decode cX6_init 23 = .ok (.putfield 26, 3) := by decide +kernel
theorem dX6_init_26 : decode cX6_init 26 = .ok (.aload_n 0, 1) := by decide +kernel
theorem dX6_init_27 : decode cX6_init 27 = .ok (.bipush 8, 2) := by decide +kernel
theorem dX6_init_29 : decode cX6_init 29 = .ok (.anewarray 29, 3) := by decide +kernel
theorem dX6_init_32 : decode cX6_init 32 = .ok (.putfield 31, 3) := by decide +kernel
theorem dX6_init_35 : decode cX6_init 35 = .ok (.iconst 0, 1) := by decide +kernel
theorem dX6_init_36 : decode cX6_init 36 = .ok (.istore_n 3, 1) := by decide +kernel
theorem dX6_init_37 : decode cX6_init 37 = .ok (.iload_n 3, 1) := by decide +kernel
theorem dX6_init_38 : decode cX6_init 38 = .ok (.bipush 8, 2) := by decide +kernel
theorem dX6_init_40 : decode cX6_init 40 = .ok (.if_icmp .ge 22, 3) := by decide +kernel
theorem dX6_init_43 : decode cX6_init 43 = .ok (.aload_n 0, 1) := by decide +kernel
theorem dX6_init_44 : decode cX6_init 44 = .ok (.getfield 31, 3) := by decide +kernel
theorem dX6_init_47 : decode cX6_init 47 = .ok (.iload_n 3, 1) := by decide +kernel
theorem dX6_init_48 : decode cX6_init 48 = .ok (.new 29, 3) := by decide +kernel
theorem dX6_init_51 : decode cX6_init 51 = .ok (.dup, 1) := by decide +kernel
theorem dX6_init_52 : decode cX6_init 52 = .ok (.invokespecial 35, 3) := by decide +kernel
theorem dX6_init_55 : decode cX6_init 55 = .ok (.aastore, 1) := by decide +kernel
theorem dX6_init_56 : decode cX6_init 56 = .ok (.iinc 3 1, 3) := by decide +kernel
theorem dX6_init_59 : decode cX6_init 59 = .ok (.goto (-22), 3) := by decide +kernel
theorem dX6_init_62 : decode cX6_init 62 = .ok (.aload_n 0, 1) := by decide +kernel
theorem dX6_init_63 : decode cX6_init 63 = .ok (.new 29, 3) := by decide +kernel
theorem dX6_init_66 : decode cX6_init 66 = .ok (.dup, 1) := by decide +kernel
theorem dX6_init_67 : decode cX6_init 67 = .ok (.invokespecial 35, 3) := by decide +kernel
theorem dX6_init_70 : decode cX6_init 70 = .ok (.putfield 36, 3) := by decide +kernel
theorem dX6_init_73 : decode cX6_init 73 = .ok (.aload_n 0, 1) := by decide +kernel
theorem dX6_init_74 : decode cX6_init 74 = .ok (.new 40, 3) := by decide +kernel
theorem dX6_init_77 : decode cX6_init 77 = .ok (.dup, 1) := by decide +kernel
theorem dX6_init_78 : decode cX6_init 78 = .ok (.aload_n 0, 1) := by decide +kernel
theorem dX6_init_79 : decode cX6_init 79 = .ok (.getfield 13, 3) := by decide +kernel
theorem dX6_init_82 : decode cX6_init 82 = .ok (.invokespecial 42, 3) := by decide +kernel
theorem dX6_init_85 : decode cX6_init 85 = .ok (.putfield 45, 3) := by decide +kernel
theorem dX6_init_88 : decode cX6_init 88 = .ok (.aload_n 0, 1) := by decide +kernel
theorem dX6_init_89 : decode cX6_init 89 = .ok (.new 49, 3) := by decide +kernel
theorem dX6_init_92 : decode cX6_init 92 = .ok (.dup, 1) := by decide +kernel
theorem dX6_init_93 : decode cX6_init 93 = .ok (.aload_n 0, 1) := by decide +kernel
theorem dX6_init_94 : decode cX6_init 94 = .ok (.getfield 13, 3) := by decide +kernel
theorem dX6_init_97 : decode cX6_init 97 = .ok (.aload_n 0, 1) := by decide +kernel
theorem dX6_init_98 : decode cX6_init 98 = .ok (.getfield 26, 3) := by decide +kernel
theorem dX6_init_101 : decode cX6_init 101 = .ok (.invokespecial 51, 3) := by decide +kernel
theorem dX6_init_104 : decode cX6_init 104 = .ok (.putfield 54, 3) := by decide +kernel
theorem dX6_init_107 : decode cX6_init 107 = .ok (.aload_n 0, 1) := by decide +kernel
theorem dX6_init_108 : decode cX6_init 108 = .ok (.new 58, 3) := by decide +kernel
theorem dX6_init_111 : decode cX6_init 111 = .ok (.dup, 1) := by decide +kernel
theorem dX6_init_112 : decode cX6_init 112 = .ok (.invokespecial 60, 3) := by decide +kernel
theorem dX6_init_115 : decode cX6_init 115 = .ok (.putfield 61, 3) := by decide +kernel
theorem dX6_init_118 : decode cX6_init 118 = .ok (.aload_n 0, 1) := by decide +kernel
theorem dX6_init_119 : decode cX6_init 119 = .ok (.new 58, 3) := by decide +kernel
theorem dX6_init_122 : decode cX6_init 122 = .ok (.dup, 1) := by decide +kernel
theorem dX6_init_123 : decode cX6_init 123 = .ok (.invokespecial 60, 3) := by decide +kernel
theorem dX6_init_126 : decode cX6_init 126 = .ok (.putfield 65, 3) := by decide +kernel
theorem dX6_init_129 : decode cX6_init 129 = .ok (.aload_n 0, 1) := by decide +kernel
theorem dX6_init_130 : decode cX6_init 130 = .ok (.new 68, 3) := by decide +kernel
theorem dX6_init_133 : decode cX6_init 133 = .ok (.dup, 1) := by decide +kernel
theorem dX6_init_134 : decode cX6_init 134 = .ok (.invokespecial 70, 3) := by decide +kernel
theorem dX6_init_137 : decode cX6_init 137 = .ok (.putfield 71, 3) := by decide +kernel
theorem dX6_init_140 : decode cX6_init 140 = .ok (.aload_n 0, 1) := by decide +kernel
theorem dX6_init_141 : decode cX6_init 141 = .ok (.new 75, 3) := by decide +kernel
theorem dX6_init_144 : decode cX6_init 144 = .ok (.dup, 1) := by decide +kernel
theorem dX6_init_145 : decode cX6_init 145 = .ok (.invokespecial 77, 3) := by decide +kernel
theorem dX6_init_148 : decode cX6_init 148 = .ok (.putfield 78, 3) := by decide +kernel
theorem dX6_init_151 : decode cX6_init 151 = .ok (.return_, 1) := by decide +kernel
theorem dX6_lay_0 : decode cX6_lay 0 = .ok (.aload_n 0, 1) := by decide +kernel
theorem dX6_lay_1 : decode cX6_lay 1 = .ok (.iload_n 1, 1) := by decide +kernel
theorem dX6_lay_2 : decode cX6_lay 2 = .ok (.invokevirtual 82, 3) := by decide +kernel
theorem dX6_lay_5 : decode cX6_lay 5 = .ok (.ifCond .eq 19, 3) := by decide +kernel
theorem dX6_lay_8 : decode cX6_lay 8 = .ok (.aload_n 0, 1) := by decide +kernel
theorem dX6_lay_9 : decode cX6_lay 9 = .ok (.iload_n 2, 1) := by decide +kernel
theorem dX6_lay_10 : decode cX6_lay 10 = .ok (.invokevirtual 86, 3) := by decide +kernel
theorem dX6_lay_13 : decode cX6_lay 13 = .ok (.ifCond .eq 11, 3) := by decide +kernel
theorem dX6_lay_16 : decode cX6_lay 16 = .ok (.aload_n 0, 1) := by decide +kernel
theorem dX6_lay_17 : decode cX6_lay 17 = .ok (.iload_n 3, 1) := by decide +kernel
theorem dX6_lay_18 : decode cX6_lay 18 = .ok (.invokevirtual 89, 3) := by decide +kernel
theorem dX6_lay_21 : decode cX6_lay 21 = .ok (.ifCond .ne 5, 3) := by decide +kernel
theorem dX6_lay_24 : decode cX6_lay 24 = .ok (.iconst 0, 1) := by decide +kernel
theorem dX6_lay_25 : decode cX6_lay 25 = .ok (.ireturn, 1) := by decide +kernel
theorem dX6_lay_26 : decode cX6_lay 26 = .ok (.aload_n 0, 1) := by decide +kernel
theorem dX6_lay_27 : decode cX6_lay 27 = .ok (.getfield 31, 3) := by decide +kernel
theorem dX6_lay_30 : decode cX6_lay 30 = .ok (.iload_n 1, 1) := by decide +kernel
theorem dX6_lay_31 : decode cX6_lay 31 = .ok (.aaload, 1) := by decide +kernel
theorem dX6_lay_32 : decode cX6_lay 32 = .ok (.astore 4, 2) := by decide +kernel
theorem dX6_lay_34 : decode cX6_lay 34 = .ok (.aload 4, 2) := by decide +kernel
theorem dX6_lay_36 : decode cX6_lay 36 = .ok (.iload_n 2, 1) := by decide +kernel
theorem dX6_lay_37 : decode cX6_lay 37 = .ok (.invokevirtual 92, 3) := by decide +kernel
theorem dX6_lay_40 : decode cX6_lay 40 = .ok (.iconst 0, 1) := by decide +kernel
theorem dX6_lay_41 : decode cX6_lay 41 = .ok (.istore 5, 2) := by decide +kernel
theorem dX6_lay_43 : decode cX6_lay 43 = .ok (.iload 5, 2) := by decide +kernel
theorem dX6_lay_45 : decode cX6_lay 45 = .ok (.aload_n 0, 1) := by decide +kernel
theorem dX6_lay_46 : decode cX6_lay 46 = .ok (.getfield 26, 3) := by decide +kernel
theorem dX6_lay_49 : decode cX6_lay 49 = .ok (.if_icmp .ge 23, 3) := by decide +kernel
theorem dX6_lay_52 : decode cX6_lay 52 = .ok (.aload 4, 2) := by decide +kernel
theorem dX6_lay_54 : decode cX6_lay 54 = .ok (.getfield 95, 3) := by decide +kernel
theorem dX6_lay_57 : decode cX6_lay 57 = .ok (.iload 5, 2) := by decide +kernel
theorem dX6_lay_59 : decode cX6_lay 59 = .ok (.iload_n 3, 1) := by decide +kernel
theorem dX6_lay_60 : decode cX6_lay 60 = .ok (.iload 5, 2) := by decide +kernel
theorem dX6_lay_62 : decode cX6_lay 62 = .ok (.invokestatic 99, 3) := by decide +kernel
theorem dX6_lay_65 : decode cX6_lay 65 = .ok (.iastore, 1) := by decide +kernel
theorem dX6_lay_66 : decode cX6_lay 66 = .ok (.iinc 5 1, 3) := by decide +kernel
theorem dX6_lay_69 : decode cX6_lay 69 = .ok (.goto (-26), 3) := by decide +kernel
theorem dX6_lay_72 : decode cX6_lay 72 = .ok (.iconst 1, 1) := by decide +kernel
theorem dX6_lay_73 : decode cX6_lay 73 = .ok (.ireturn, 1) := by decide +kernel
theorem dX6_set_0 : decode cX6_set 0 = .ok (.aload_n 0, 1) := by decide +kernel
theorem dX6_set_1 : decode cX6_set 1 = .ok (.iload_n 1, 1) := by decide +kernel
theorem dX6_set_2 : decode cX6_set 2 = .ok (.iload_n 2, 1) := by decide +kernel
theorem dX6_set_3 : decode cX6_set 3 = .ok (.iload_n 3, 1) := by decide +kernel
theorem dX6_set_4 : decode cX6_set 4 = .ok (.iload 4, 2) := by decide +kernel
theorem dX6_set_6 : decode cX6_set 6 = .ok (.invokevirtual 102, 3) := by decide +kernel
theorem dX6_set_9 : decode cX6_set 9 = .ok (.ifCond .ne 5, 3) := by decide +kernel
theorem dX6_set_12 : decode cX6_set 12 = .ok (.iconst 0, 1) := by decide +kernel
theorem dX6_set_13 : decode cX6_set 13 = .ok (.ireturn, 1) := by decide +kernel
theorem dX6_set_14 : decode cX6_set 14 = .ok (.aload_n 0, 1) := by decide +kernel
theorem dX6_set_15 : decode cX6_set 15 = .ok (.getfield 31, 3) := by decide +kernel
theorem dX6_set_18 : decode cX6_set 18 = .ok (.iload_n 1, 1) := by decide +kernel
theorem dX6_set_19 : decode cX6_set 19 = .ok (.aaload, 1) := by decide +kernel
theorem dX6_set_20 : decode cX6_set 20 = .ok (.iload_n 2, 1) := by decide +kernel
theorem dX6_set_21 : decode cX6_set 21 = .ok (.iload_n 3, 1) := by decide +kernel
theorem dX6_set_22 : decode cX6_set 22 = .ok (.iload 4, 2) := by decide +kernel
theorem dX6_set_24 : decode cX6_set 24 = .ok (.iload 5, 2) := by decide +kernel
theorem dX6_set_26 : decode cX6_set 26 = .ok (.aload_n 0, 1) := by decide +kernel
theorem dX6_set_27 : decode cX6_set 27 = .ok (.getfield 13, 3) := by decide +kernel
theorem dX6_set_30 : decode cX6_set 30 = .ok (.invokestatic 106, 3) := by decide +kernel
theorem dX6_set_33 : decode cX6_set 33 = .ok (.invokevirtual 109, 3) := by decide +kernel
theorem dX6_set_36 : decode cX6_set 36 = .ok (.iconst 1, 1) := by decide +kernel
theorem dX6_set_37 : decode cX6_set 37 = .ok (.ireturn, 1) := by decide +kernel
theorem dX6_get_0 : decode cX6_get 0 = .ok (.aload_n 0, 1) := by decide +kernel
theorem dX6_get_1 : decode cX6_get 1 = .ok (.iload_n 1, 1) := by decide +kernel
theorem dX6_get_2 : decode cX6_get 2 = .ok (.iload_n 2, 1) := by decide +kernel
theorem dX6_get_3 : decode cX6_get 3 = .ok (.iload_n 3, 1) := by decide +kernel
theorem dX6_get_4 : decode cX6_get 4 = .ok (.iload 4, 2) := by decide +kernel
theorem dX6_get_6 : decode cX6_get 6 = .ok (.invokevirtual 102, 3) := by decide +kernel
theorem dX6_get_9 : decode cX6_get 9 = .ok (.ifCond .eq 19, 3) := by decide +kernel
theorem dX6_get_12 : decode cX6_get 12 = .ok (.aload_n 0, 1) := by decide +kernel
theorem dX6_get_13 : decode cX6_get 13 = .ok (.getfield 31, 3) := by decide +kernel
theorem dX6_get_16 : decode cX6_get 16 = .ok (.iload_n 1, 1) := by decide +kernel
theorem dX6_get_17 : decode cX6_get 17 = .ok (.aaload, 1) := by decide +kernel
theorem dX6_get_18 : decode cX6_get 18 = .ok (.iload_n 2, 1) := by decide +kernel
theorem dX6_get_19 : decode cX6_get 19 = .ok (.iload_n 3, 1) := by decide +kernel
theorem dX6_get_20 : decode cX6_get 20 = .ok (.iload 4, 2) := by decide +kernel
theorem dX6_get_22 : decode cX6_get 22 = .ok (.invokevirtual 113, 3) := by decide +kernel
theorem dX6_get_25 : decode cX6_get 25 = .ok (.goto 4, 3) := by decide +kernel
theorem dX6_get_28 : decode cX6_get 28 = .ok (.iconst (-1), 1) := by decide +kernel
theorem dX6_get_29 : decode cX6_get 29 = .ok (.ireturn, 1) := by decide +kernel
theorem dX6_size_0 : decode cX6_size 0 = .ok (.aload_n 0, 1) := by decide +kernel
theorem dX6_size_1 : decode cX6_size 1 = .ok (.iload_n 1, 1) := by decide +kernel
theorem dX6_size_2 : decode cX6_size 2 = .ok (.invokevirtual 82, 3) := by decide +kernel
theorem dX6_size_5 : decode cX6_size 5 = .ok (.ifCond .eq 25, 3) := by decide +kernel
theorem dX6_size_8 : decode cX6_size 8 = .ok (.aload_n 0, 1) := by decide +kernel
theorem dX6_size_9 : decode cX6_size 9 = .ok (.iload_n 2, 1) := by decide +kernel
theorem dX6_size_10 : decode cX6_size 10 = .ok (.invokevirtual 117, 3) := by decide +kernel
theorem dX6_size_13 : decode cX6_size 13 = .ok (.ifCond .eq 17, 3) := by decide +kernel
theorem dX6_size_16 : decode cX6_size 16 = .ok (.aload_n 0, 1) := by decide +kernel
theorem dX6_size_17 : decode cX6_size 17 = .ok (.getfield 31, 3) := by decide +kernel
theorem dX6_size_20 : decode cX6_size 20 = .ok (.iload_n 1, 1) := by decide +kernel
theorem dX6_size_21 : decode cX6_size 21 = .ok (.aaload, 1) := by decide +kernel
theorem dX6_size_22 : decode cX6_size 22 = .ok (.getfield 95, 3) := by decide +kernel
theorem dX6_size_25 : decode cX6_size 25 = .ok (.iload_n 2, 1) := by decide +kernel
theorem dX6_size_26 : decode cX6_size 26 = .ok (.iaload, 1) := by decide +kernel
theorem dX6_size_27 : decode cX6_size 27 = .ok (.goto 4, 3) := by decide +kernel
theorem dX6_size_30 : decode cX6_size 30 = .ok (.iconst (-1), 1) := by decide +kernel
theorem dX6_size_31 : decode cX6_size 31 = .ok (.ireturn, 1) := by decide +kernel
theorem dX6_ways_0 : decode cX6_ways 0 = .ok (.aload_n 0, 1) := by decide +kernel
theorem dX6_ways_1 : decode cX6_ways 1 = .ok (.iload_n 1, 1) := by decide +kernel
theorem dX6_ways_2 : decode cX6_ways 2 = .ok (.invokevirtual 82, 3) := by decide +kernel
theorem dX6_ways_5 : decode cX6_ways 5 = .ok (.ifCond .eq 15, 3) := by decide +kernel
theorem dX6_ways_8 : decode cX6_ways 8 = .ok (.aload_n 0, 1) := by decide +kernel
theorem dX6_ways_9 : decode cX6_ways 9 = .ok (.getfield 31, 3) := by decide +kernel
theorem dX6_ways_12 : decode cX6_ways 12 = .ok (.iload_n 1, 1) := by decide +kernel
theorem dX6_ways_13 : decode cX6_ways 13 = .ok (.aaload, 1) := by decide +kernel
theorem dX6_ways_14 : decode cX6_ways 14 = .ok (.getfield 120, 3) := by decide +kernel
theorem dX6_ways_17 : decode cX6_ways 17 = .ok (.goto 4, 3) := by decide +kernel
theorem dX6_ways_20 : decode cX6_ways 20 = .ok (.iconst (-1), 1) := by decide +kernel
theorem dX6_ways_21 : decode cX6_ways 21 = .ok (.ireturn, 1) := by decide +kernel
theorem dX6_span_0 : decode cX6_span 0 = .ok (.aload_n 0, 1) := by decide +kernel
theorem dX6_span_1 : decode cX6_span 1 = .ok (.iload_n 1, 1) := by decide +kernel
theorem dX6_span_2 : decode cX6_span 2 = .ok (.invokevirtual 82, 3) := by decide +kernel
theorem dX6_span_5 : decode cX6_span 5 = .ok (.ifCond .eq 21, 3) := by decide +kernel
theorem dX6_span_8 : decode cX6_span 8 = .ok (.aload_n 0, 1) := by decide +kernel
theorem dX6_span_9 : decode cX6_span 9 = .ok (.iload_n 2, 1) := by decide +kernel
theorem dX6_span_10 : decode cX6_span 10 = .ok (.invokevirtual 86, 3) := by decide +kernel
theorem dX6_span_13 : decode cX6_span 13 = .ok (.ifCond .eq 13, 3) := by decide +kernel
theorem dX6_span_16 : decode cX6_span 16 = .ok (.aload_n 0, 1) := by decide +kernel
theorem dX6_span_17 : decode cX6_span 17 = .ok (.iload_n 3, 1) := by decide +kernel
theorem dX6_span_18 : decode cX6_span 18 = .ok (.iload 4, 2) := by decide +kernel
theorem dX6_span_20 : decode cX6_span 20 = .ok (.invokevirtual 123, 3) := by decide +kernel
theorem dX6_span_23 : decode cX6_span 23 = .ok (.ifCond .ne 5, 3) := by decide +kernel
theorem dX6_span_26 : decode cX6_span 26 = .ok (.iconst 0, 1) := by decide +kernel
theorem dX6_span_27 : decode cX6_span 27 = .ok (.ireturn, 1) := by decide +kernel
theorem dX6_span_28 : decode cX6_span 28 = .ok (.aload_n 0, 1) := by decide +kernel
theorem dX6_span_29 : decode cX6_span 29 = .ok (.getfield 31, 3) := by decide +kernel
theorem dX6_span_32 : decode cX6_span 32 = .ok (.iload_n 1, 1) := by decide +kernel
theorem dX6_span_33 : decode cX6_span 33 = .ok (.aaload, 1) := by decide +kernel
theorem dX6_span_34 : decode cX6_span 34 = .ok (.astore 5, 2) := by decide +kernel
theorem dX6_span_36 : decode cX6_span 36 = .ok (.aload 5, 2) := by decide +kernel
theorem dX6_span_38 : decode cX6_span 38 = .ok (.iload_n 2, 1) := by decide +kernel
theorem dX6_span_39 : decode cX6_span 39 = .ok (.invokevirtual 92, 3) := by decide +kernel
theorem dX6_span_42 : decode cX6_span 42 = .ok (.iload_n 3, 1) := by decide +kernel
theorem dX6_span_43 : decode cX6_span 43 = .ok (.istore 6, 2) := by decide +kernel
theorem dX6_span_45 : decode cX6_span 45 = .ok (.iload 6, 2) := by decide +kernel
theorem dX6_span_47 : decode cX6_span 47 = .ok (.iload 4, 2) := by decide +kernel
theorem dX6_span_49 : decode cX6_span 49 = .ok (.if_icmp .gt 18, 3) := by decide +kernel
theorem dX6_span_52 : decode cX6_span 52 = .ok (.aload 5, 2) := by decide +kernel
theorem dX6_span_54 : decode cX6_span 54 = .ok (.getfield 95, 3) := by decide +kernel
theorem dX6_span_57 : decode cX6_span 57 = .ok (.iload 6, 2) := by decide +kernel
theorem dX6_span_59 : decode cX6_span 59 = .ok (.iconst 1, 1) := by decide +kernel
theorem dX6_span_60 : decode cX6_span 60 = .ok (.iastore, 1) := by decide +kernel
theorem dX6_span_61 : decode cX6_span 61 = .ok (.iinc 6 1, 3) := by decide +kernel
theorem dX6_span_64 : decode cX6_span 64 = .ok (.goto (-19), 3) := by decide +kernel
theorem dX6_span_67 : decode cX6_span 67 = .ok (.iload_n 3, 1) := by decide +kernel
theorem dX6_span_68 : decode cX6_span 68 = .ok (.istore 6, 2) := by decide +kernel
theorem dX6_span_70 : decode cX6_span 70 = .ok (.iload 6, 2) := by decide +kernel
theorem dX6_span_72 : decode cX6_span 72 = .ok (.iload 4, 2) := by decide +kernel
theorem dX6_span_74 : decode cX6_span 74 = .ok (.if_icmp .ge 19, 3) := by decide +kernel
theorem dX6_span_77 : decode cX6_span 77 = .ok (.aload 5, 2) := by decide +kernel
theorem dX6_span_79 : decode cX6_span 79 = .ok (.iload 6, 2) := by decide +kernel
theorem dX6_span_81 : decode cX6_span 81 = .ok (.iconst 0, 1) := by decide +kernel
theorem dX6_span_82 : decode cX6_span 82 = .ok (.iconst 0, 1) := by decide +kernel
theorem dX6_span_83 : decode cX6_span 83 = .ok (.iconst 1, 1) := by decide +kernel
theorem dX6_span_84 : decode cX6_span 84 = .ok (.invokevirtual 109, 3) := by decide +kernel
theorem dX6_span_87 : decode cX6_span 87 = .ok (.iinc 6 1, 3) := by decide +kernel
theorem dX6_span_90 : decode cX6_span 90 = .ok (.goto (-20), 3) := by decide +kernel
theorem dX6_span_93 : decode cX6_span 93 = .ok (.iconst 1, 1) := by decide +kernel
theorem dX6_span_94 : decode cX6_span 94 = .ok (.ireturn, 1) := by decide +kernel
theorem dX6_beside_0 : decode cX6_beside 0 = .ok (.aload_n 0, 1) := by decide +kernel
theorem dX6_beside_1 : decode cX6_beside 1 = .ok (.iload_n 3, 1) := by decide +kernel
theorem dX6_beside_2 : decode cX6_beside 2 = .ok (.invokevirtual 82, 3) := by decide +kernel
theorem dX6_beside_5 : decode cX6_beside 5 = .ok (.ifCond .eq 31, 3) := by decide +kernel
theorem dX6_beside_8 : decode cX6_beside 8 = .ok (.aload_n 0, 1) := by decide +kernel
theorem dX6_beside_9 : decode cX6_beside 9 = .ok (.iload_n 1, 1) := by decide +kernel
theorem dX6_beside_10 : decode cX6_beside 10 = .ok (.iload_n 2, 1) := by decide +kernel
theorem dX6_beside_11 : decode cX6_beside 11 = .ok (.invokevirtual 127, 3) := by decide +kernel
theorem dX6_beside_14 : decode cX6_beside 14 = .ok (.ifCond .eq 22, 3) := by decide +kernel
theorem dX6_beside_17 : decode cX6_beside 17 = .ok (.aload_n 0, 1) := by decide +kernel
theorem dX6_beside_18 : decode cX6_beside 18 = .ok (.aload_n 0, 1) := by decide +kernel
theorem dX6_beside_19 : decode cX6_beside 19 = .ok (.getfield 31, 3) := by decide +kernel
theorem dX6_beside_22 : decode cX6_beside 22 = .ok (.iload_n 1, 1) := by decide +kernel
theorem dX6_beside_23 : decode cX6_beside 23 = .ok (.aaload, 1) := by decide +kernel
theorem dX6_beside_24 : decode cX6_beside 24 = .ok (.aload_n 0, 1) := by decide +kernel
theorem dX6_beside_25 : decode cX6_beside 25 = .ok (.getfield 31, 3) := by decide +kernel
theorem dX6_beside_28 : decode cX6_beside 28 = .ok (.iload_n 2, 1) := by decide +kernel
theorem dX6_beside_29 : decode cX6_beside 29 = .ok (.aaload, 1) := by decide +kernel
theorem dX6_beside_30 : decode cX6_beside 30 = .ok (.invokevirtual 130, 3) := by decide +kernel
theorem dX6_beside_33 : decode cX6_beside 33 = .ok (.ifCond .ne 5, 3) := by decide +kernel
theorem dX6_beside_36 : decode cX6_beside 36 = .ok (.iconst 0, 1) := by decide +kernel
theorem dX6_beside_37 : decode cX6_beside 37 = .ok (.ireturn, 1) := by decide +kernel
theorem dX6_beside_38 : decode cX6_beside 38 = .ok (.aload_n 0, 1) := by decide +kernel
theorem dX6_beside_39 : decode cX6_beside 39 = .ok (.getfield 36, 3) := by decide +kernel
theorem dX6_beside_42 : decode cX6_beside 42 = .ok (.aload_n 0, 1) := by decide +kernel
theorem dX6_beside_43 : decode cX6_beside 43 = .ok (.getfield 31, 3) := by decide +kernel
theorem dX6_beside_46 : decode cX6_beside 46 = .ok (.iload_n 1, 1) := by decide +kernel
theorem dX6_beside_47 : decode cX6_beside 47 = .ok (.aaload, 1) := by decide +kernel
theorem dX6_beside_48 : decode cX6_beside 48 = .ok (.getfield 120, 3) := by decide +kernel
theorem dX6_beside_51 : decode cX6_beside 51 = .ok (.invokevirtual 92, 3) := by decide +kernel
theorem dX6_beside_54 : decode cX6_beside 54 = .ok (.iconst 0, 1) := by decide +kernel
theorem dX6_beside_55 : decode cX6_beside 55 = .ok (.istore 4, 2) := by decide +kernel
theorem dX6_beside_57 : decode cX6_beside 57 = .ok (.iload 4, 2) := by decide +kernel
theorem dX6_beside_59 : decode cX6_beside 59 = .ok (.aload_n 0, 1) := by decide +kernel
theorem dX6_beside_60 : decode cX6_beside 60 = .ok (.getfield 26, 3) := by decide +kernel
theorem dX6_beside_63 : decode cX6_beside 63 = .ok (.if_icmp .ge 44, 3) := by decide +kernel
theorem dX6_beside_66 : decode cX6_beside 66 = .ok (.aload_n 0, 1) := by decide +kernel
theorem dX6_beside_67 : decode cX6_beside 67 = .ok (.getfield 36, 3) := by decide +kernel
theorem dX6_beside_70 : decode cX6_beside 70 = .ok (.getfield 95, 3) := by decide +kernel
theorem dX6_beside_73 : decode cX6_beside 73 = .ok (.iload 4, 2) := by decide +kernel
theorem dX6_beside_75 : decode cX6_beside 75 = .ok (.aload_n 0, 1) := by decide +kernel
theorem dX6_beside_76 : decode cX6_beside 76 = .ok (.getfield 31, 3) := by decide +kernel
theorem dX6_beside_79 : decode cX6_beside 79 = .ok (.iload_n 1, 1) := by decide +kernel
theorem dX6_beside_80 : decode cX6_beside 80 = .ok (.aaload, 1) := by decide +kernel
theorem dX6_beside_81 : decode cX6_beside 81 = .ok (.getfield 95, 3) := by decide +kernel
theorem dX6_beside_84 : decode cX6_beside 84 = .ok (.iload 4, 2) := by decide +kernel
theorem dX6_beside_86 : decode cX6_beside 86 = .ok (.iaload, 1) := by decide +kernel
theorem dX6_beside_87 : decode cX6_beside 87 = .ok (.aload_n 0, 1) := by decide +kernel
theorem dX6_beside_88 : decode cX6_beside 88 = .ok (.getfield 31, 3) := by decide +kernel
theorem dX6_beside_91 : decode cX6_beside 91 = .ok (.iload_n 2, 1) := by decide +kernel
theorem dX6_beside_92 : decode cX6_beside 92 = .ok (.aaload, 1) := by decide +kernel
theorem dX6_beside_93 : decode cX6_beside 93 = .ok (.getfield 95, 3) := by decide +kernel
theorem dX6_beside_96 : decode cX6_beside 96 = .ok (.iload 4, 2) := by decide +kernel
theorem dX6_beside_98 : decode cX6_beside 98 = .ok (.iaload, 1) := by decide +kernel
theorem dX6_beside_99 : decode cX6_beside 99 = .ok (.iadd, 1) := by decide +kernel
theorem dX6_beside_100 : decode cX6_beside 100 = .ok (.iastore, 1) := by decide +kernel
theorem dX6_beside_101 : decode cX6_beside 101 = .ok (.iinc 4 1, 3) := by decide +kernel
theorem dX6_beside_104 : decode cX6_beside 104 = .ok (.goto (-47), 3) := by decide +kernel
theorem dX6_beside_107 : decode cX6_beside 107 = .ok (.iconst 0, 1) := by decide +kernel
theorem dX6_beside_108 : decode cX6_beside 108 = .ok (.istore 4, 2) := by decide +kernel
theorem dX6_beside_110 : decode cX6_beside 110 = .ok (.iload 4, 2) := by decide +kernel
theorem dX6_beside_112 : decode cX6_beside 112 = .ok (.aload_n 0, 1) := by decide +kernel
theorem dX6_beside_113 : decode cX6_beside 113 = .ok (.getfield 26, 3) := by decide +kernel
theorem dX6_beside_116 : decode cX6_beside 116 = .ok (.iconst 1, 1) := by decide +kernel
theorem dX6_beside_117 : decode cX6_beside 117 = .ok (.isub, 1) := by decide +kernel
theorem dX6_beside_118 : decode cX6_beside 118 = .ok (.if_icmp .ge 63, 3) := by decide +kernel
theorem dX6_beside_121 : decode cX6_beside 121 = .ok (.aload_n 0, 1) := by decide +kernel
theorem dX6_beside_122 : decode cX6_beside 122 = .ok (.getfield 36, 3) := by decide +kernel
theorem dX6_beside_125 : decode cX6_beside 125 = .ok (.aload_n 0, 1) := by decide +kernel
theorem dX6_beside_126 : decode cX6_beside 126 = .ok (.getfield 31, 3) := by decide +kernel
theorem dX6_beside_129 : decode cX6_beside 129 = .ok (.iload_n 1, 1) := by decide +kernel
theorem dX6_beside_130 : decode cX6_beside 130 = .ok (.aaload, 1) := by decide +kernel
theorem dX6_beside_131 : decode cX6_beside 131 = .ok (.iload 4, 2) := by decide +kernel
theorem dX6_beside_133 : decode cX6_beside 133 = .ok (.iconst 0, 1) := by decide +kernel
theorem dX6_beside_134 : decode cX6_beside 134 = .ok (.iconst 0, 1) := by decide +kernel
theorem dX6_beside_135 : decode cX6_beside 135 = .ok (.invokevirtual 134, 3) := by decide +kernel
theorem dX6_beside_138 : decode cX6_beside 138 = .ok (.aload_n 0, 1) := by decide +kernel
theorem dX6_beside_139 : decode cX6_beside 139 = .ok (.getfield 36, 3) := by decide +kernel
theorem dX6_beside_142 : decode cX6_beside 142 = .ok (.aload_n 0, 1) := by decide +kernel
theorem dX6_beside_143 : decode cX6_beside 143 = .ok (.getfield 31, 3) := by decide +kernel
theorem dX6_beside_146 : decode cX6_beside 146 = .ok (.iload_n 2, 1) := by decide +kernel
theorem dX6_beside_147 : decode cX6_beside 147 = .ok (.aaload, 1) := by decide +kernel
theorem dX6_beside_148 : decode cX6_beside 148 = .ok (.iload 4, 2) := by decide +kernel
theorem dX6_beside_150 : decode cX6_beside 150 = .ok (.aload_n 0, 1) := by decide +kernel
theorem dX6_beside_151 : decode cX6_beside 151 = .ok (.getfield 31, 3) := by decide +kernel
theorem dX6_beside_154 : decode cX6_beside 154 = .ok (.iload_n 1, 1) := by decide +kernel
theorem dX6_beside_155 : decode cX6_beside 155 = .ok (.aaload, 1) := by decide +kernel
theorem dX6_beside_156 : decode cX6_beside 156 = .ok (.iload 4, 2) := by decide +kernel
theorem dX6_beside_158 : decode cX6_beside 158 = .ok (.invokevirtual 138, 3) := by decide +kernel
theorem dX6_beside_161 : decode cX6_beside 161 = .ok (.aload_n 0, 1) := by decide +kernel
theorem dX6_beside_162 : decode cX6_beside 162 = .ok (.getfield 31, 3) := by decide +kernel
theorem dX6_beside_165 : decode cX6_beside 165 = .ok (.iload_n 1, 1) := by decide +kernel
theorem dX6_beside_166 : decode cX6_beside 166 = .ok (.aaload, 1) := by decide +kernel
theorem dX6_beside_167 : decode cX6_beside 167 = .ok (.iload 4, 2) := by decide +kernel
theorem dX6_beside_169 : decode cX6_beside 169 = .ok (.invokevirtual 141, 3) := by decide +kernel
theorem dX6_beside_172 : decode cX6_beside 172 = .ok (.invokevirtual 134, 3) := by decide +kernel
theorem dX6_beside_175 : decode cX6_beside 175 = .ok (.iinc 4 1, 3) := by decide +kernel
theorem dX6_beside_178 : decode cX6_beside 178 = .ok (.goto (-68), 3) := by decide +kernel
theorem dX6_beside_181 : decode cX6_beside 181 = .ok (.aload_n 0, 1) := by decide +kernel
theorem dX6_beside_182 : decode cX6_beside 182 = .ok (.getfield 31, 3) := by decide +kernel
theorem dX6_beside_185 : decode cX6_beside 185 = .ok (.iload_n 3, 1) := by decide +kernel
theorem dX6_beside_186 : decode cX6_beside 186 = .ok (.aaload, 1) := by decide +kernel
theorem dX6_beside_187 : decode cX6_beside 187 = .ok (.aload_n 0, 1) := by decide +kernel
theorem dX6_beside_188 : decode cX6_beside 188 = .ok (.getfield 36, 3) := by decide +kernel
theorem dX6_beside_191 : decode cX6_beside 191 = .ok (.invokevirtual 144, 3) := by decide +kernel
theorem dX6_beside_194 : decode cX6_beside 194 = .ok (.iconst 1, 1) := by decide +kernel
theorem dX6_beside_195 : decode cX6_beside 195 = .ok (.ireturn, 1) := by decide +kernel
theorem dX6_mix_0 : decode cX6_mix 0 = .ok (.aload_n 0, 1) := by decide +kernel
theorem dX6_mix_1 : decode cX6_mix 1 = .ok (.iload_n 1, 1) := by decide +kernel
theorem dX6_mix_2 : decode cX6_mix 2 = .ok (.invokevirtual 82, 3) := by decide +kernel
theorem dX6_mix_5 : decode cX6_mix 5 = .ok (.ifCond .eq 31, 3) := by decide +kernel
theorem dX6_mix_8 : decode cX6_mix 8 = .ok (.aload_n 0, 1) := by decide +kernel
theorem dX6_mix_9 : decode cX6_mix 9 = .ok (.iload_n 2, 1) := by decide +kernel
theorem dX6_mix_10 : decode cX6_mix 10 = .ok (.invokevirtual 117, 3) := by decide +kernel
theorem dX6_mix_13 : decode cX6_mix 13 = .ok (.ifCond .eq 23, 3) := by decide +kernel
theorem dX6_mix_16 : decode cX6_mix 16 = .ok (.iload_n 3, 1) := by decide +kernel
theorem dX6_mix_17 : decode cX6_mix 17 = .ok (.iload 4, 2) := by decide +kernel
theorem dX6_mix_19 : decode cX6_mix 19 = .ok (.if_icmp .eq 17, 3) := by decide +kernel
theorem dX6_mix_22 : decode cX6_mix 22 = .ok (.iload 5, 2) := by decide +kernel
theorem dX6_mix_24 : decode cX6_mix 24 = .ok (.ifCond .lt 12, 3) := by decide +kernel
theorem dX6_mix_27 : decode cX6_mix 27 = .ok (.iload 5, 2) := by decide +kernel
theorem dX6_mix_29 : decode cX6_mix 29 = .ok (.aload_n 0, 1) := by decide +kernel
theorem dX6_mix_30 : decode cX6_mix 30 = .ok (.getfield 13, 3) := by decide +kernel
theorem dX6_mix_33 : decode cX6_mix 33 = .ok (.if_icmp .lt 5, 3) := by decide +kernel
theorem dX6_mix_36 : decode cX6_mix 36 = .ok (.iconst 0, 1) := by decide +kernel
theorem dX6_mix_37 : decode cX6_mix 37 = .ok (.ireturn, 1) := by decide +kernel
theorem dX6_mix_38 : decode cX6_mix 38 = .ok (.aload_n 0, 1) := by decide +kernel
theorem dX6_mix_39 : decode cX6_mix 39 = .ok (.getfield 31, 3) := by decide +kernel
theorem dX6_mix_42 : decode cX6_mix 42 = .ok (.iload_n 1, 1) := by decide +kernel
theorem dX6_mix_43 : decode cX6_mix 43 = .ok (.aaload, 1) := by decide +kernel
theorem dX6_mix_44 : decode cX6_mix 44 = .ok (.astore 6, 2) := by decide +kernel
theorem dX6_mix_46 : decode cX6_mix 46 = .ok (.iload_n 3, 1) := by decide +kernel
theorem dX6_mix_47 : decode cX6_mix 47 = .ok (.aload 6, 2) := by decide +kernel
theorem dX6_mix_49 : decode cX6_mix 49 = .ok (.getfield 95, 3) := by decide +kernel
theorem dX6_mix_52 : decode cX6_mix 52 = .ok (.iload_n 2, 1) := by decide +kernel
theorem dX6_mix_53 : decode cX6_mix 53 = .ok (.iaload, 1) := by decide +kernel
theorem dX6_mix_54 : decode cX6_mix 54 = .ok (.invokestatic 148, 3) := by decide +kernel
theorem dX6_mix_57 : decode cX6_mix 57 = .ok (.ifCond .eq 18, 3) := by decide +kernel
theorem dX6_mix_60 : decode cX6_mix 60 = .ok (.iload 4, 2) := by decide +kernel
theorem dX6_mix_62 : decode cX6_mix 62 = .ok (.aload 6, 2) := by decide +kernel
theorem dX6_mix_64 : decode cX6_mix 64 = .ok (.getfield 95, 3) := by decide +kernel
theorem dX6_mix_67 : decode cX6_mix 67 = .ok (.iload_n 2, 1) := by decide +kernel
theorem dX6_mix_68 : decode cX6_mix 68 = .ok (.iaload, 1) := by decide +kernel
theorem dX6_mix_69 : decode cX6_mix 69 = .ok (.invokestatic 148, 3) := by decide +kernel
theorem dX6_mix_72 : decode cX6_mix 72 = .ok (.ifCond .ne 5, 3) := by decide +kernel
theorem dX6_mix_75 : decode cX6_mix 75 = .ok (.iconst 0, 1) := by decide +kernel
theorem dX6_mix_76 : decode cX6_mix 76 = .ok (.ireturn, 1) := by decide +kernel
theorem dX6_mix_77 : decode cX6_mix 77 = .ok (.iload_n 2, 1) := by decide +kernel
theorem dX6_mix_78 : decode cX6_mix 78 = .ok (.iconst 1, 1) := by decide +kernel
theorem dX6_mix_79 : decode cX6_mix 79 = .ok (.isub, 1) := by decide +kernel
theorem dX6_mix_80 : decode cX6_mix 80 = .ok (.istore 7, 2) := by decide +kernel
theorem dX6_mix_82 : decode cX6_mix 82 = .ok (.iload 7, 2) := by decide +kernel
theorem dX6_mix_84 : decode cX6_mix 84 = .ok (.iload_n 2, 1) := by decide +kernel
theorem dX6_mix_85 : decode cX6_mix 85 = .ok (.if_icmp .gt 72, 3) := by decide +kernel
theorem dX6_mix_88 : decode cX6_mix 88 = .ok (.aload_n 0, 1) := by decide +kernel
theorem dX6_mix_89 : decode cX6_mix 89 = .ok (.iload 7, 2) := by decide +kernel
theorem dX6_mix_91 : decode cX6_mix 91 = .ok (.invokevirtual 151, 3) := by decide +kernel
theorem dX6_mix_94 : decode cX6_mix 94 = .ok (.ifCond .eq 30, 3) := by decide +kernel
theorem dX6_mix_97 : decode cX6_mix 97 = .ok (.aload 6, 2) := by decide +kernel
theorem dX6_mix_99 : decode cX6_mix 99 = .ok (.iload 7, 2) := by decide +kernel
theorem dX6_mix_101 : decode cX6_mix 101 = .ok (.invokevirtual 154, 3) := by decide +kernel
theorem dX6_mix_104 : decode cX6_mix 104 = .ok (.iload_n 2, 1) := by decide +kernel
theorem dX6_mix_105 : decode cX6_mix 105 = .ok (.if_icmp .ne 19, 3) := by decide +kernel
theorem dX6_mix_108 : decode cX6_mix 108 = .ok (.aload_n 0, 1) := by decide +kernel
theorem dX6_mix_109 : decode cX6_mix 109 = .ok (.aload 6, 2) := by decide +kernel
theorem dX6_mix_111 : decode cX6_mix 111 = .ok (.iload 7, 2) := by decide +kernel
theorem dX6_mix_113 : decode cX6_mix 113 = .ok (.iload_n 3, 1) := by decide +kernel
theorem dX6_mix_114 : decode cX6_mix 114 = .ok (.iload 4, 2) := by decide +kernel
theorem dX6_mix_116 : decode cX6_mix 116 = .ok (.iload 5, 2) := by decide +kernel
theorem dX6_mix_118 : decode cX6_mix 118 = .ok (.invokevirtual 157, 3) := by decide +kernel
theorem dX6_mix_121 : decode cX6_mix 121 = .ok (.goto 30, 3) := by decide +kernel
theorem dX6_mix_124 : decode cX6_mix 124 = .ok (.aload_n 0, 1) := by decide +kernel
theorem dX6_mix_125 : decode cX6_mix 125 = .ok (.iload 7, 2) := by decide +kernel
theorem dX6_mix_127 : decode cX6_mix 127 = .ok (.invokevirtual 151, 3) := by decide +kernel
theorem dX6_mix_130 : decode cX6_mix 130 = .ok (.ifCond .eq 21, 3) := by decide +kernel
theorem dX6_mix_133 : decode cX6_mix 133 = .ok (.aload_n 0, 1) := by decide +kernel
theorem dX6_mix_134 : decode cX6_mix 134 = .ok (.aload 6, 2) := by decide +kernel
theorem dX6_mix_136 : decode cX6_mix 136 = .ok (.iload 7, 2) := by decide +kernel
theorem dX6_mix_138 : decode cX6_mix 138 = .ok (.iload 4, 2) := by decide +kernel
theorem dX6_mix_140 : decode cX6_mix 140 = .ok (.iload_n 3, 1) := by decide +kernel
theorem dX6_mix_141 : decode cX6_mix 141 = .ok (.aload_n 0, 1) := by decide +kernel
theorem dX6_mix_142 : decode cX6_mix 142 = .ok (.getfield 13, 3) := by decide +kernel
theorem dX6_mix_145 : decode cX6_mix 145 = .ok (.iload 5, 2) := by decide +kernel
theorem dX6_mix_147 : decode cX6_mix 147 = .ok (.isub, 1) := by decide +kernel
theorem dX6_mix_148 : decode cX6_mix 148 = .ok (.invokevirtual 161, 3) := by decide +kernel
theorem dX6_mix_151 : decode cX6_mix 151 = .ok (.iinc 7 1, 3) := by decide +kernel
theorem dX6_mix_154 : decode cX6_mix 154 = .ok (.goto (-72), 3) := by decide +kernel
theorem dX6_mix_157 : decode cX6_mix 157 = .ok (.iconst 1, 1) := by decide +kernel
theorem dX6_mix_158 : decode cX6_mix 158 = .ok (.ireturn, 1) := by decide +kernel
theorem dX6_turn_0 : decode cX6_turn 0 = .ok (.aload_n 0, 1) := by decide +kernel
theorem dX6_turn_1 : decode cX6_turn 1 = .ok (.iload_n 1, 1) := by decide +kernel
theorem dX6_turn_2 : decode cX6_turn 2 = .ok (.invokevirtual 82, 3) := by decide +kernel
theorem dX6_turn_5 : decode cX6_turn 5 = .ok (.ifCond .eq 33, 3) := by decide +kernel
theorem dX6_turn_8 : decode cX6_turn 8 = .ok (.aload_n 0, 1) := by decide +kernel
theorem dX6_turn_9 : decode cX6_turn 9 = .ok (.iload_n 3, 1) := by decide +kernel
theorem dX6_turn_10 : decode cX6_turn 10 = .ok (.invokevirtual 82, 3) := by decide +kernel
theorem dX6_turn_13 : decode cX6_turn 13 = .ok (.ifCond .eq 25, 3) := by decide +kernel
theorem dX6_turn_16 : decode cX6_turn 16 = .ok (.aload_n 0, 1) := by decide +kernel
theorem dX6_turn_17 : decode cX6_turn 17 = .ok (.iload_n 2, 1) := by decide +kernel
theorem dX6_turn_18 : decode cX6_turn 18 = .ok (.invokevirtual 117, 3) := by decide +kernel
theorem dX6_turn_21 : decode cX6_turn 21 = .ok (.ifCond .eq 17, 3) := by decide +kernel
theorem dX6_turn_24 : decode cX6_turn 24 = .ok (.aload_n 0, 1) := by decide +kernel
theorem dX6_turn_25 : decode cX6_turn 25 = .ok (.aload_n 0, 1) := by decide +kernel
theorem dX6_turn_26 : decode cX6_turn 26 = .ok (.getfield 31, 3) := by decide +kernel
theorem dX6_turn_29 : decode cX6_turn 29 = .ok (.iload_n 1, 1) := by decide +kernel
theorem dX6_turn_30 : decode cX6_turn 30 = .ok (.aaload, 1) := by decide +kernel
theorem dX6_turn_31 : decode cX6_turn 31 = .ok (.iload_n 2, 1) := by decide +kernel
theorem dX6_turn_32 : decode cX6_turn 32 = .ok (.invokevirtual 164, 3) := by decide +kernel
theorem dX6_turn_35 : decode cX6_turn 35 = .ok (.ifCond .ne 5, 3) := by decide +kernel
theorem dX6_turn_38 : decode cX6_turn 38 = .ok (.iconst (-1), 1) := by decide +kernel
theorem dX6_turn_39 : decode cX6_turn 39 = .ok (.ireturn, 1) := by decide +kernel
theorem dX6_turn_40 : decode cX6_turn 40 = .ok (.aload_n 0, 1) := by decide +kernel
theorem dX6_turn_41 : decode cX6_turn 41 = .ok (.getfield 31, 3) := by decide +kernel
theorem dX6_turn_44 : decode cX6_turn 44 = .ok (.iload_n 1, 1) := by decide +kernel
theorem dX6_turn_45 : decode cX6_turn 45 = .ok (.aaload, 1) := by decide +kernel
theorem dX6_turn_46 : decode cX6_turn 46 = .ok (.astore 4, 2) := by decide +kernel
theorem dX6_turn_48 : decode cX6_turn 48 = .ok (.aload 4, 2) := by decide +kernel
theorem dX6_turn_50 : decode cX6_turn 50 = .ok (.iload_n 2, 1) := by decide +kernel
theorem dX6_turn_51 : decode cX6_turn 51 = .ok (.ifCond .le 9, 3) := by decide +kernel
theorem dX6_turn_54 : decode cX6_turn 54 = .ok (.iload_n 2, 1) := by decide +kernel
theorem dX6_turn_55 : decode cX6_turn 55 = .ok (.iconst 1, 1) := by decide +kernel
theorem dX6_turn_56 : decode cX6_turn 56 = .ok (.isub, 1) := by decide +kernel
theorem dX6_turn_57 : decode cX6_turn 57 = .ok (.goto 4, 3) := by decide +kernel
theorem dX6_turn_60 : decode cX6_turn 60 = .ok (.iload_n 2, 1) := by decide +kernel
theorem dX6_turn_61 : decode cX6_turn 61 = .ok (.invokevirtual 154, 3) := by decide +kernel
theorem dX6_turn_64 : decode cX6_turn 64 = .ok (.iload_n 2, 1) := by decide +kernel
theorem dX6_turn_65 : decode cX6_turn 65 = .ok (.if_icmp .ne 7, 3) := by decide +kernel
theorem dX6_turn_68 : decode cX6_turn 68 = .ok (.iconst 1, 1) := by decide +kernel
theorem dX6_turn_69 : decode cX6_turn 69 = .ok (.goto 4, 3) := by decide +kernel
theorem dX6_turn_72 : decode cX6_turn 72 = .ok (.iconst 0, 1) := by decide +kernel
theorem dX6_turn_73 : decode cX6_turn 73 = .ok (.istore 5, 2) := by decide +kernel
theorem dX6_turn_75 : decode cX6_turn 75 = .ok (.aload_n 0, 1) := by decide +kernel
theorem dX6_turn_76 : decode cX6_turn 76 = .ok (.aload 4, 2) := by decide +kernel
theorem dX6_turn_78 : decode cX6_turn 78 = .ok (.iload_n 2, 1) := by decide +kernel
theorem dX6_turn_79 : decode cX6_turn 79 = .ok (.iload 5, 2) := by decide +kernel
theorem dX6_turn_81 : decode cX6_turn 81 = .ok (.invokevirtual 168, 3) := by decide +kernel
theorem dX6_turn_84 : decode cX6_turn 84 = .ok (.aload_n 0, 1) := by decide +kernel
theorem dX6_turn_85 : decode cX6_turn 85 = .ok (.getfield 45, 3) := by decide +kernel
theorem dX6_turn_88 : decode cX6_turn 88 = .ok (.invokevirtual 172, 3) := by decide +kernel
theorem dX6_turn_91 : decode cX6_turn 91 = .ok (.aload_n 0, 1) := by decide +kernel
theorem dX6_turn_92 : decode cX6_turn 92 = .ok (.getfield 45, 3) := by decide +kernel
theorem dX6_turn_95 : decode cX6_turn 95 = .ok (.invokevirtual 175, 3) := by decide +kernel
theorem dX6_turn_98 : decode cX6_turn 98 = .ok (.istore 6, 2) := by decide +kernel
theorem dX6_turn_100 : decode cX6_turn 100 = .ok (.iload 6, 2) := by decide +kernel
theorem dX6_turn_102 : decode cX6_turn 102 = .ok (.iconst 4, 1) := by decide +kernel
theorem dX6_turn_103 : decode cX6_turn 103 = .ok (.if_icmp .le 5, 3) := by decide +kernel
theorem dX6_turn_106 : decode cX6_turn 106 = .ok (.iconst (-1), 1) := by decide +kernel
theorem dX6_turn_107 : decode cX6_turn 107 = .ok (.ireturn, 1) := by decide +kernel
theorem dX6_turn_108 : decode cX6_turn 108 = .ok (.aload_n 0, 1) := by decide +kernel
theorem dX6_turn_109 : decode cX6_turn 109 = .ok (.getfield 36, 3) := by decide +kernel
theorem dX6_turn_112 : decode cX6_turn 112 = .ok (.aload 4, 2) := by decide +kernel
theorem dX6_turn_114 : decode cX6_turn 114 = .ok (.invokevirtual 144, 3) := by decide +kernel
theorem dX6_turn_117 : decode cX6_turn 117 = .ok (.aload_n 0, 1) := by decide +kernel
theorem dX6_turn_118 : decode cX6_turn 118 = .ok (.getfield 36, 3) := by decide +kernel
theorem dX6_turn_121 : decode cX6_turn 121 = .ok (.getfield 95, 3) := by decide +kernel
theorem dX6_turn_124 : decode cX6_turn 124 = .ok (.iload_n 2, 1) := by decide +kernel
theorem dX6_turn_125 : decode cX6_turn 125 = .ok (.iload 6, 2) := by decide +kernel
theorem dX6_turn_127 : decode cX6_turn 127 = .ok (.iastore, 1) := by decide +kernel
theorem dX6_turn_128 : decode cX6_turn 128 = .ok (.iload_n 2, 1) := by decide +kernel
theorem dX6_turn_129 : decode cX6_turn 129 = .ok (.ifCond .le 15, 3) := by decide +kernel
theorem dX6_turn_132 : decode cX6_turn 132 = .ok (.aload 4, 2) := by decide +kernel
theorem dX6_turn_134 : decode cX6_turn 134 = .ok (.getfield 95, 3) := by decide +kernel
theorem dX6_turn_137 : decode cX6_turn 137 = .ok (.iload_n 2, 1) := by decide +kernel
theorem dX6_turn_138 : decode cX6_turn 138 = .ok (.iconst 1, 1) := by decide +kernel
theorem dX6_turn_139 : decode cX6_turn 139 = .ok (.isub, 1) := by decide +kernel
theorem dX6_turn_140 : decode cX6_turn 140 = .ok (.iaload, 1) := by decide +kernel
theorem dX6_turn_141 : decode cX6_turn 141 = .ok (.goto 4, 3) := by decide +kernel
theorem dX6_turn_144 : decode cX6_turn 144 = .ok (.iconst 0, 1) := by decide +kernel
theorem dX6_turn_145 : decode cX6_turn 145 = .ok (.istore 7, 2) := by decide +kernel
theorem dX6_turn_147 : decode cX6_turn 147 = .ok (.aload_n 0, 1) := by decide +kernel
theorem dX6_turn_148 : decode cX6_turn 148 = .ok (.iload_n 2, 1) := by decide +kernel
theorem dX6_turn_149 : decode cX6_turn 149 = .ok (.iconst 1, 1) := by decide +kernel
theorem dX6_turn_150 : decode cX6_turn 150 = .ok (.isub, 1) := by decide +kernel
theorem dX6_turn_151 : decode cX6_turn 151 = .ok (.invokevirtual 151, 3) := by decide +kernel
theorem dX6_turn_154 : decode cX6_turn 154 = .ok (.ifCond .eq 15, 3) := by decide +kernel
theorem dX6_turn_157 : decode cX6_turn 157 = .ok (.aload_n 0, 1) := by decide +kernel
theorem dX6_turn_158 : decode cX6_turn 158 = .ok (.iload_n 2, 1) := by decide +kernel
theorem dX6_turn_159 : decode cX6_turn 159 = .ok (.iconst 1, 1) := by decide +kernel
theorem dX6_turn_160 : decode cX6_turn 160 = .ok (.isub, 1) := by decide +kernel
theorem dX6_turn_161 : decode cX6_turn 161 = .ok (.iload 5, 2) := by decide +kernel
theorem dX6_turn_163 : decode cX6_turn 163 = .ok (.iconst 0, 1) := by decide +kernel
theorem dX6_turn_164 : decode cX6_turn 164 = .ok (.iload 7, 2) := by decide +kernel
theorem dX6_turn_166 : decode cX6_turn 166 = .ok (.invokevirtual 179, 3) := by decide +kernel
theorem dX6_turn_169 : decode cX6_turn 169 = .ok (.aload_n 0, 1) := by decide +kernel
theorem dX6_turn_170 : decode cX6_turn 170 = .ok (.iload_n 2, 1) := by decide +kernel
theorem dX6_turn_171 : decode cX6_turn 171 = .ok (.invokevirtual 151, 3) := by decide +kernel
theorem dX6_turn_174 : decode cX6_turn 174 = .ok (.ifCond .eq 21, 3) := by decide +kernel
theorem dX6_turn_177 : decode cX6_turn 177 = .ok (.aload_n 0, 1) := by decide +kernel
theorem dX6_turn_178 : decode cX6_turn 178 = .ok (.iload_n 2, 1) := by decide +kernel
theorem dX6_turn_179 : decode cX6_turn 179 = .ok (.iload 5, 2) := by decide +kernel
theorem dX6_turn_181 : decode cX6_turn 181 = .ok (.iload 7, 2) := by decide +kernel
theorem dX6_turn_183 : decode cX6_turn 183 = .ok (.aload 4, 2) := by decide +kernel
theorem dX6_turn_185 : decode cX6_turn 185 = .ok (.getfield 95, 3) := by decide +kernel
theorem dX6_turn_188 : decode cX6_turn 188 = .ok (.iload_n 2, 1) := by decide +kernel
theorem dX6_turn_189 : decode cX6_turn 189 = .ok (.iconst 1, 1) := by decide +kernel
theorem dX6_turn_190 : decode cX6_turn 190 = .ok (.iadd, 1) := by decide +kernel
theorem dX6_turn_191 : decode cX6_turn 191 = .ok (.iaload, 1) := by decide +kernel
theorem dX6_turn_192 : decode cX6_turn 192 = .ok (.invokevirtual 179, 3) := by decide +kernel
theorem dX6_turn_195 : decode cX6_turn 195 = .ok (.aload_n 0, 1) := by decide +kernel
theorem dX6_turn_196 : decode cX6_turn 196 = .ok (.getfield 31, 3) := by decide +kernel
theorem dX6_turn_199 : decode cX6_turn 199 = .ok (.iload_n 3, 1) := by decide +kernel
theorem dX6_turn_200 : decode cX6_turn 200 = .ok (.aaload, 1) := by decide +kernel
theorem dX6_turn_201 : decode cX6_turn 201 = .ok (.aload_n 0, 1) := by decide +kernel
theorem dX6_turn_202 : decode cX6_turn 202 = .ok (.getfield 36, 3) := by decide +kernel
theorem dX6_turn_205 : decode cX6_turn 205 = .ok (.invokevirtual 144, 3) := by decide +kernel
theorem dX6_turn_208 : decode cX6_turn 208 = .ok (.iload 6, 2) := by decide +kernel
theorem dX6_turn_210 : decode cX6_turn 210 = .ok (.ireturn, 1) := by decide +kernel
theorem dX6_maps_0 : decode cX6_maps 0 = .ok (.aload_n 0, 1) := by decide +kernel
theorem dX6_maps_1 : decode cX6_maps 1 = .ok (.iload_n 1, 1) := by decide +kernel
theorem dX6_maps_2 : decode cX6_maps 2 = .ok (.iload_n 2, 1) := by decide +kernel
theorem dX6_maps_3 : decode cX6_maps 3 = .ok (.invokevirtual 127, 3) := by decide +kernel
theorem dX6_maps_6 : decode cX6_maps 6 = .ok (.ifCond .ne 5, 3) := by decide +kernel
theorem dX6_maps_9 : decode cX6_maps 9 = .ok (.iconst (-1), 1) := by decide +kernel
theorem dX6_maps_10 : decode cX6_maps 10 = .ok (.ireturn, 1) := by decide +kernel
theorem dX6_maps_11 : decode cX6_maps 11 = .ok (.aload_n 0, 1) := by decide +kernel
theorem dX6_maps_12 : decode cX6_maps 12 = .ok (.getfield 54, 3) := by decide +kernel
theorem dX6_maps_15 : decode cX6_maps 15 = .ok (.aload_n 0, 1) := by decide +kernel
theorem dX6_maps_16 : decode cX6_maps 16 = .ok (.getfield 31, 3) := by decide +kernel
theorem dX6_maps_19 : decode cX6_maps 19 = .ok (.iload_n 1, 1) := by decide +kernel
theorem dX6_maps_20 : decode cX6_maps 20 = .ok (.aaload, 1) := by decide +kernel
theorem dX6_maps_21 : decode cX6_maps 21 = .ok (.aload_n 0, 1) := by decide +kernel
theorem dX6_maps_22 : decode cX6_maps 22 = .ok (.getfield 61, 3) := by decide +kernel
theorem dX6_maps_25 : decode cX6_maps 25 = .ok (.invokevirtual 183, 3) := by decide +kernel
theorem dX6_maps_28 : decode cX6_maps 28 = .ok (.aload_n 0, 1) := by decide +kernel
theorem dX6_maps_29 : decode cX6_maps 29 = .ok (.getfield 54, 3) := by decide +kernel
theorem dX6_maps_32 : decode cX6_maps 32 = .ok (.aload_n 0, 1) := by decide +kernel
theorem dX6_maps_33 : decode cX6_maps 33 = .ok (.getfield 31, 3) := by decide +kernel
theorem dX6_maps_36 : decode cX6_maps 36 = .ok (.iload_n 2, 1) := by decide +kernel
theorem dX6_maps_37 : decode cX6_maps 37 = .ok (.aaload, 1) := by decide +kernel
theorem dX6_maps_38 : decode cX6_maps 38 = .ok (.aload_n 0, 1) := by decide +kernel
theorem dX6_maps_39 : decode cX6_maps 39 = .ok (.getfield 65, 3) := by decide +kernel
theorem dX6_maps_42 : decode cX6_maps 42 = .ok (.invokevirtual 183, 3) := by decide +kernel
theorem dX6_maps_45 : decode cX6_maps 45 = .ok (.aload_n 0, 1) := by decide +kernel
theorem dX6_maps_46 : decode cX6_maps 46 = .ok (.aload_n 0, 1) := by decide +kernel
theorem dX6_maps_47 : decode cX6_maps 47 = .ok (.getfield 31, 3) := by decide +kernel
theorem dX6_maps_50 : decode cX6_maps 50 = .ok (.iload_n 1, 1) := by decide +kernel
theorem dX6_maps_51 : decode cX6_maps 51 = .ok (.aaload, 1) := by decide +kernel
theorem dX6_maps_52 : decode cX6_maps 52 = .ok (.invokevirtual 187, 3) := by decide +kernel
theorem dX6_maps_55 : decode cX6_maps 55 = .ok (.ireturn, 1) := by decide +kernel
theorem dX6_bends_0 : decode cX6_bends 0 = .ok (.aload_n 0, 1) := by decide +kernel
theorem dX6_bends_1 : decode cX6_bends 1 = .ok (.iload_n 1, 1) := by decide +kernel
theorem dX6_bends_2 : decode cX6_bends 2 = .ok (.iload_n 2, 1) := by decide +kernel
theorem dX6_bends_3 : decode cX6_bends 3 = .ok (.invokevirtual 127, 3) := by decide +kernel
theorem dX6_bends_6 : decode cX6_bends 6 = .ok (.ifCond .ne 5, 3) := by decide +kernel
theorem dX6_bends_9 : decode cX6_bends 9 = .ok (.iconst (-1), 1) := by decide +kernel
theorem dX6_bends_10 : decode cX6_bends 10 = .ok (.ireturn, 1) := by decide +kernel
theorem dX6_bends_11 : decode cX6_bends 11 = .ok (.aload_n 0, 1) := by decide +kernel
theorem dX6_bends_12 : decode cX6_bends 12 = .ok (.getfield 54, 3) := by decide +kernel
theorem dX6_bends_15 : decode cX6_bends 15 = .ok (.aload_n 0, 1) := by decide +kernel
theorem dX6_bends_16 : decode cX6_bends 16 = .ok (.getfield 31, 3) := by decide +kernel
theorem dX6_bends_19 : decode cX6_bends 19 = .ok (.iload_n 1, 1) := by decide +kernel
theorem dX6_bends_20 : decode cX6_bends 20 = .ok (.aaload, 1) := by decide +kernel
theorem dX6_bends_21 : decode cX6_bends 21 = .ok (.aload_n 0, 1) := by decide +kernel
theorem dX6_bends_22 : decode cX6_bends 22 = .ok (.getfield 61, 3) := by decide +kernel
theorem dX6_bends_25 : decode cX6_bends 25 = .ok (.invokevirtual 183, 3) := by decide +kernel
theorem dX6_bends_28 : decode cX6_bends 28 = .ok (.aload_n 0, 1) := by decide +kernel
theorem dX6_bends_29 : decode cX6_bends 29 = .ok (.getfield 54, 3) := by decide +kernel
theorem dX6_bends_32 : decode cX6_bends 32 = .ok (.aload_n 0, 1) := by decide +kernel
theorem dX6_bends_33 : decode cX6_bends 33 = .ok (.getfield 31, 3) := by decide +kernel
theorem dX6_bends_36 : decode cX6_bends 36 = .ok (.iload_n 2, 1) := by decide +kernel
theorem dX6_bends_37 : decode cX6_bends 37 = .ok (.aaload, 1) := by decide +kernel
theorem dX6_bends_38 : decode cX6_bends 38 = .ok (.aload_n 0, 1) := by decide +kernel
theorem dX6_bends_39 : decode cX6_bends 39 = .ok (.getfield 65, 3) := by decide +kernel
theorem dX6_bends_42 : decode cX6_bends 42 = .ok (.invokevirtual 183, 3) := by decide +kernel
theorem dX6_bends_45 : decode cX6_bends 45 = .ok (.aload_n 0, 1) := by decide +kernel
theorem dX6_bends_46 : decode cX6_bends 46 = .ok (.aload_n 0, 1) := by decide +kernel
theorem dX6_bends_47 : decode cX6_bends 47 = .ok (.getfield 31, 3) := by decide +kernel
theorem dX6_bends_50 : decode cX6_bends 50 = .ok (.iload_n 1, 1) := by decide +kernel
theorem dX6_bends_51 : decode cX6_bends 51 = .ok (.aaload, 1) := by decide +kernel
theorem dX6_bends_52 : decode cX6_bends 52 = .ok (.invokevirtual 187, 3) := by decide +kernel
theorem dX6_bends_55 : decode cX6_bends 55 = .ok (.aload_n 0, 1) := by decide +kernel
theorem dX6_bends_56 : decode cX6_bends 56 = .ok (.iload_n 1, 1) := by decide +kernel
theorem dX6_bends_57 : decode cX6_bends 57 = .ok (.iload_n 2, 1) := by decide +kernel
theorem dX6_bends_58 : decode cX6_bends 58 = .ok (.invokevirtual 191, 3) := by decide +kernel
theorem dX6_bends_61 : decode cX6_bends 61 = .ok (.isub, 1) := by decide +kernel
theorem dX6_bends_62 : decode cX6_bends 62 = .ok (.ireturn, 1) := by decide +kernel
theorem dX6_form_0 : decode cX6_form 0 = .ok (.aload_n 0, 1) := by decide +kernel
theorem dX6_form_1 : decode cX6_form 1 = .ok (.iload_n 1, 1) := by decide +kernel
theorem dX6_form_2 : decode cX6_form 2 = .ok (.invokevirtual 82, 3) := by decide +kernel
theorem dX6_form_5 : decode cX6_form 5 = .ok (.ifCond .eq 11, 3) := by decide +kernel
theorem dX6_form_8 : decode cX6_form 8 = .ok (.aload_n 0, 1) := by decide +kernel
theorem dX6_form_9 : decode cX6_form 9 = .ok (.iload_n 2, 1) := by decide +kernel
theorem dX6_form_10 : decode cX6_form 10 = .ok (.invokevirtual 82, 3) := by decide +kernel
theorem dX6_form_13 : decode cX6_form 13 = .ok (.ifCond .ne 5, 3) := by decide +kernel
theorem dX6_form_16 : decode cX6_form 16 = .ok (.iconst 0, 1) := by decide +kernel
theorem dX6_form_17 : decode cX6_form 17 = .ok (.ireturn, 1) := by decide +kernel
theorem dX6_form_18 : decode cX6_form 18 = .ok (.aload_n 0, 1) := by decide +kernel
theorem dX6_form_19 : decode cX6_form 19 = .ok (.getfield 31, 3) := by decide +kernel
theorem dX6_form_22 : decode cX6_form 22 = .ok (.iload_n 1, 1) := by decide +kernel
theorem dX6_form_23 : decode cX6_form 23 = .ok (.aaload, 1) := by decide +kernel
theorem dX6_form_24 : decode cX6_form 24 = .ok (.getfield 95, 3) := by decide +kernel
theorem dX6_form_27 : decode cX6_form 27 = .ok (.astore_n 3, 1) := by decide +kernel
theorem dX6_form_28 : decode cX6_form 28 = .ok (.aload_n 0, 1) := by decide +kernel
theorem dX6_form_29 : decode cX6_form 29 = .ok (.getfield 31, 3) := by decide +kernel
theorem dX6_form_32 : decode cX6_form 32 = .ok (.iload_n 2, 1) := by decide +kernel
theorem dX6_form_33 : decode cX6_form 33 = .ok (.aaload, 1) := by decide +kernel
theorem dX6_form_34 : decode cX6_form 34 = .ok (.getfield 95, 3) := by decide +kernel
theorem dX6_form_37 : decode cX6_form 37 = .ok (.astore 4, 2) := by decide +kernel
theorem dX6_form_39 : decode cX6_form 39 = .ok (.iconst 0, 1) := by decide +kernel
theorem dX6_form_40 : decode cX6_form 40 = .ok (.istore 5, 2) := by decide +kernel
theorem dX6_form_42 : decode cX6_form 42 = .ok (.iconst 0, 1) := by decide +kernel
theorem dX6_form_43 : decode cX6_form 43 = .ok (.istore 6, 2) := by decide +kernel
theorem dX6_form_45 : decode cX6_form 45 = .ok (.iload 6, 2) := by decide +kernel
theorem dX6_form_47 : decode cX6_form 47 = .ok (.aload_n 0, 1) := by decide +kernel
theorem dX6_form_48 : decode cX6_form 48 = .ok (.getfield 26, 3) := by decide +kernel
theorem dX6_form_51 : decode cX6_form 51 = .ok (.if_icmp .ge 24, 3) := by decide +kernel
theorem dX6_form_54 : decode cX6_form 54 = .ok (.iload 5, 2) := by decide +kernel
theorem dX6_form_56 : decode cX6_form 56 = .ok (.aload_n 3, 1) := by decide +kernel
theorem dX6_form_57 : decode cX6_form 57 = .ok (.iload 6, 2) := by decide +kernel
theorem dX6_form_59 : decode cX6_form 59 = .ok (.iaload, 1) := by decide +kernel
theorem dX6_form_60 : decode cX6_form 60 = .ok (.aload 4, 2) := by decide +kernel
theorem dX6_form_62 : decode cX6_form 62 = .ok (.iload 6, 2) := by decide +kernel
theorem dX6_form_64 : decode cX6_form 64 = .ok (.iaload, 1) := by decide +kernel
theorem dX6_form_65 : decode cX6_form 65 = .ok (.imul, 1) := by decide +kernel
theorem dX6_form_66 : decode cX6_form 66 = .ok (.iadd, 1) := by decide +kernel
theorem dX6_form_67 : decode cX6_form 67 = .ok (.istore 5, 2) := by decide +kernel
theorem dX6_form_69 : decode cX6_form 69 = .ok (.iinc 6 1, 3) := by decide +kernel
theorem dX6_form_72 : decode cX6_form 72 = .ok (.goto (-27), 3) := by decide +kernel
theorem dX6_form_75 : decode cX6_form 75 = .ok (.iconst 0, 1) := by decide +kernel
theorem dX6_form_76 : decode cX6_form 76 = .ok (.istore 6, 2) := by decide +kernel
theorem dX6_form_78 : decode cX6_form 78 = .ok (.iload 6, 2) := by decide +kernel
theorem dX6_form_80 : decode cX6_form 80 = .ok (.aload_n 0, 1) := by decide +kernel
theorem dX6_form_81 : decode cX6_form 81 = .ok (.getfield 26, 3) := by decide +kernel
theorem dX6_form_84 : decode cX6_form 84 = .ok (.iconst 1, 1) := by decide +kernel
theorem dX6_form_85 : decode cX6_form 85 = .ok (.isub, 1) := by decide +kernel
theorem dX6_form_86 : decode cX6_form 86 = .ok (.if_icmp .ge 42, 3) := by decide +kernel
theorem dX6_form_89 : decode cX6_form 89 = .ok (.iload 5, 2) := by decide +kernel
theorem dX6_form_91 : decode cX6_form 91 = .ok (.aload_n 3, 1) := by decide +kernel
theorem dX6_form_92 : decode cX6_form 92 = .ok (.aload_n 0, 1) := by decide +kernel
theorem dX6_form_93 : decode cX6_form 93 = .ok (.getfield 31, 3) := by decide +kernel
theorem dX6_form_96 : decode cX6_form 96 = .ok (.iload_n 1, 1) := by decide +kernel
theorem dX6_form_97 : decode cX6_form 97 = .ok (.aaload, 1) := by decide +kernel
theorem dX6_form_98 : decode cX6_form 98 = .ok (.iload 6, 2) := by decide +kernel
theorem dX6_form_100 : decode cX6_form 100 = .ok (.invokevirtual 194, 3) := by decide +kernel
theorem dX6_form_103 : decode cX6_form 103 = .ok (.iaload, 1) := by decide +kernel
theorem dX6_form_104 : decode cX6_form 104 = .ok (.aload 4, 2) := by decide +kernel
theorem dX6_form_106 : decode cX6_form 106 = .ok (.aload_n 0, 1) := by decide +kernel
theorem dX6_form_107 : decode cX6_form 107 = .ok (.getfield 31, 3) := by decide +kernel
theorem dX6_form_110 : decode cX6_form 110 = .ok (.iload_n 1, 1) := by decide +kernel
theorem dX6_form_111 : decode cX6_form 111 = .ok (.aaload, 1) := by decide +kernel
theorem dX6_form_112 : decode cX6_form 112 = .ok (.iload 6, 2) := by decide +kernel
theorem dX6_form_114 : decode cX6_form 114 = .ok (.invokevirtual 154, 3) := by decide +kernel
theorem dX6_form_117 : decode cX6_form 117 = .ok (.iaload, 1) := by decide +kernel
theorem dX6_form_118 : decode cX6_form 118 = .ok (.imul, 1) := by decide +kernel
theorem dX6_form_119 : decode cX6_form 119 = .ok (.isub, 1) := by decide +kernel
theorem dX6_form_120 : decode cX6_form 120 = .ok (.istore 5, 2) := by decide +kernel
theorem dX6_form_122 : decode cX6_form 122 = .ok (.iinc 6 1, 3) := by decide +kernel
theorem dX6_form_125 : decode cX6_form 125 = .ok (.goto (-47), 3) := by decide +kernel
theorem dX6_form_128 : decode cX6_form 128 = .ok (.iload 5, 2) := by decide +kernel
theorem dX6_form_130 : decode cX6_form 130 = .ok (.ireturn, 1) := by decide +kernel
theorem dX6_spans_0 : decode cX6_spans 0 = .ok (.aload_n 0, 1) := by decide +kernel
theorem dX6_spans_1 : decode cX6_spans 1 = .ok (.iload_n 1, 1) := by decide +kernel
theorem dX6_spans_2 : decode cX6_spans 2 = .ok (.invokevirtual 82, 3) := by decide +kernel
theorem dX6_spans_5 : decode cX6_spans 5 = .ok (.ifCond .eq 12, 3) := by decide +kernel
theorem dX6_spans_8 : decode cX6_spans 8 = .ok (.aload_n 0, 1) := by decide +kernel
theorem dX6_spans_9 : decode cX6_spans 9 = .ok (.iload_n 2, 1) := by decide +kernel
theorem dX6_spans_10 : decode cX6_spans 10 = .ok (.iload_n 3, 1) := by decide +kernel
theorem dX6_spans_11 : decode cX6_spans 11 = .ok (.invokevirtual 123, 3) := by decide +kernel
theorem dX6_spans_14 : decode cX6_spans 14 = .ok (.ifCond .ne 5, 3) := by decide +kernel
theorem dX6_spans_17 : decode cX6_spans 17 = .ok (.iconst (-1), 1) := by decide +kernel
theorem dX6_spans_18 : decode cX6_spans 18 = .ok (.ireturn, 1) := by decide +kernel
theorem dX6_spans_19 : decode cX6_spans 19 = .ok (.aload_n 0, 1) := by decide +kernel
theorem dX6_spans_20 : decode cX6_spans 20 = .ok (.getfield 54, 3) := by decide +kernel
theorem dX6_spans_23 : decode cX6_spans 23 = .ok (.aload_n 0, 1) := by decide +kernel
theorem dX6_spans_24 : decode cX6_spans 24 = .ok (.getfield 31, 3) := by decide +kernel
theorem dX6_spans_27 : decode cX6_spans 27 = .ok (.iload_n 1, 1) := by decide +kernel
theorem dX6_spans_28 : decode cX6_spans 28 = .ok (.aaload, 1) := by decide +kernel
theorem dX6_spans_29 : decode cX6_spans 29 = .ok (.iload_n 2, 1) := by decide +kernel
theorem dX6_spans_30 : decode cX6_spans 30 = .ok (.iload_n 3, 1) := by decide +kernel
theorem dX6_spans_31 : decode cX6_spans 31 = .ok (.invokevirtual 197, 3) := by decide +kernel
theorem dX6_spans_34 : decode cX6_spans 34 = .ok (.ireturn, 1) := by decide +kernel
theorem dX6_like_0 : decode cX6_like 0 = .ok (.aload_n 0, 1) := by decide +kernel
theorem dX6_like_1 : decode cX6_like 1 = .ok (.iload_n 1, 1) := by decide +kernel
theorem dX6_like_2 : decode cX6_like 2 = .ok (.iload_n 2, 1) := by decide +kernel
theorem dX6_like_3 : decode cX6_like 3 = .ok (.invokevirtual 127, 3) := by decide +kernel
theorem dX6_like_6 : decode cX6_like 6 = .ok (.ifCond .ne 5, 3) := by decide +kernel
theorem dX6_like_9 : decode cX6_like 9 = .ok (.iconst 0, 1) := by decide +kernel
theorem dX6_like_10 : decode cX6_like 10 = .ok (.ireturn, 1) := by decide +kernel
theorem dX6_like_11 : decode cX6_like 11 = .ok (.aload_n 0, 1) := by decide +kernel
theorem dX6_like_12 : decode cX6_like 12 = .ok (.getfield 54, 3) := by decide +kernel
theorem dX6_like_15 : decode cX6_like 15 = .ok (.aload_n 0, 1) := by decide +kernel
theorem dX6_like_16 : decode cX6_like 16 = .ok (.getfield 31, 3) := by decide +kernel
theorem dX6_like_19 : decode cX6_like 19 = .ok (.iload_n 1, 1) := by decide +kernel
theorem dX6_like_20 : decode cX6_like 20 = .ok (.aaload, 1) := by decide +kernel
theorem dX6_like_21 : decode cX6_like 21 = .ok (.aload_n 0, 1) := by decide +kernel
theorem dX6_like_22 : decode cX6_like 22 = .ok (.getfield 61, 3) := by decide +kernel
theorem dX6_like_25 : decode cX6_like 25 = .ok (.invokevirtual 183, 3) := by decide +kernel
theorem dX6_like_28 : decode cX6_like 28 = .ok (.aload_n 0, 1) := by decide +kernel
theorem dX6_like_29 : decode cX6_like 29 = .ok (.getfield 54, 3) := by decide +kernel
theorem dX6_like_32 : decode cX6_like 32 = .ok (.aload_n 0, 1) := by decide +kernel
theorem dX6_like_33 : decode cX6_like 33 = .ok (.getfield 31, 3) := by decide +kernel
theorem dX6_like_36 : decode cX6_like 36 = .ok (.iload_n 2, 1) := by decide +kernel
theorem dX6_like_37 : decode cX6_like 37 = .ok (.aaload, 1) := by decide +kernel
theorem dX6_like_38 : decode cX6_like 38 = .ok (.aload_n 0, 1) := by decide +kernel
theorem dX6_like_39 : decode cX6_like 39 = .ok (.getfield 65, 3) := by decide +kernel
theorem dX6_like_42 : decode cX6_like 42 = .ok (.invokevirtual 183, 3) := by decide +kernel
theorem dX6_like_45 : decode cX6_like 45 = .ok (.aload_n 0, 1) := by decide +kernel
theorem dX6_like_46 : decode cX6_like 46 = .ok (.getfield 61, 3) := by decide +kernel
theorem dX6_like_49 : decode cX6_like 49 = .ok (.aload_n 0, 1) := by decide +kernel
theorem dX6_like_50 : decode cX6_like 50 = .ok (.getfield 65, 3) := by decide +kernel
theorem dX6_like_53 : decode cX6_like 53 = .ok (.invokevirtual 201, 3) := by decide +kernel
theorem dX6_like_56 : decode cX6_like 56 = .ok (.ireturn, 1) := by decide +kernel
theorem dX6_rank_0 : decode cX6_rank 0 = .ok (.aload_n 0, 1) := by decide +kernel
theorem dX6_rank_1 : decode cX6_rank 1 = .ok (.iload_n 1, 1) := by decide +kernel
theorem dX6_rank_2 : decode cX6_rank 2 = .ok (.invokevirtual 82, 3) := by decide +kernel
theorem dX6_rank_5 : decode cX6_rank 5 = .ok (.ifCond .eq 33, 3) := by decide +kernel
theorem dX6_rank_8 : decode cX6_rank 8 = .ok (.aload_n 0, 1) := by decide +kernel
theorem dX6_rank_9 : decode cX6_rank 9 = .ok (.iload_n 2, 1) := by decide +kernel
theorem dX6_rank_10 : decode cX6_rank 10 = .ok (.invokevirtual 117, 3) := by decide +kernel
theorem dX6_rank_13 : decode cX6_rank 13 = .ok (.ifCond .eq 25, 3) := by decide +kernel
theorem dX6_rank_16 : decode cX6_rank 16 = .ok (.aload_n 0, 1) := by decide +kernel
theorem dX6_rank_17 : decode cX6_rank 17 = .ok (.iload_n 3, 1) := by decide +kernel
theorem dX6_rank_18 : decode cX6_rank 18 = .ok (.invokevirtual 117, 3) := by decide +kernel
theorem dX6_rank_21 : decode cX6_rank 21 = .ok (.ifCond .eq 17, 3) := by decide +kernel
theorem dX6_rank_24 : decode cX6_rank 24 = .ok (.aload_n 0, 1) := by decide +kernel
theorem dX6_rank_25 : decode cX6_rank 25 = .ok (.getfield 31, 3) := by decide +kernel
theorem dX6_rank_28 : decode cX6_rank 28 = .ok (.iload_n 1, 1) := by decide +kernel
theorem dX6_rank_29 : decode cX6_rank 29 = .ok (.aaload, 1) := by decide +kernel
theorem dX6_rank_30 : decode cX6_rank 30 = .ok (.iload_n 2, 1) := by decide +kernel
theorem dX6_rank_31 : decode cX6_rank 31 = .ok (.iload_n 3, 1) := by decide +kernel
theorem dX6_rank_32 : decode cX6_rank 32 = .ok (.invokestatic 205, 3) := by decide +kernel
theorem dX6_rank_35 : decode cX6_rank 35 = .ok (.ifCond .ne 5, 3) := by decide +kernel
theorem dX6_rank_38 : decode cX6_rank 38 = .ok (.iconst (-1), 1) := by decide +kernel
theorem dX6_rank_39 : decode cX6_rank 39 = .ok (.ireturn, 1) := by decide +kernel
theorem dX6_rank_40 : decode cX6_rank 40 = .ok (.aload_n 0, 1) := by decide +kernel
theorem dX6_rank_41 : decode cX6_rank 41 = .ok (.getfield 54, 3) := by decide +kernel
theorem dX6_rank_44 : decode cX6_rank 44 = .ok (.aload_n 0, 1) := by decide +kernel
theorem dX6_rank_45 : decode cX6_rank 45 = .ok (.getfield 31, 3) := by decide +kernel
theorem dX6_rank_48 : decode cX6_rank 48 = .ok (.iload_n 1, 1) := by decide +kernel
theorem dX6_rank_49 : decode cX6_rank 49 = .ok (.aaload, 1) := by decide +kernel
theorem dX6_rank_50 : decode cX6_rank 50 = .ok (.iload_n 2, 1) := by decide +kernel
theorem dX6_rank_51 : decode cX6_rank 51 = .ok (.iload_n 3, 1) := by decide +kernel
theorem dX6_rank_52 : decode cX6_rank 52 = .ok (.invokestatic 17, 3) := by decide +kernel
theorem dX6_rank_55 : decode cX6_rank 55 = .ok (.iload_n 2, 1) := by decide +kernel
theorem dX6_rank_56 : decode cX6_rank 56 = .ok (.iload_n 3, 1) := by decide +kernel
theorem dX6_rank_57 : decode cX6_rank 57 = .ok (.invokestatic 23, 3) := by decide +kernel
theorem dX6_rank_60 : decode cX6_rank 60 = .ok (.invokevirtual 209, 3) := by decide +kernel
theorem dX6_rank_63 : decode cX6_rank 63 = .ok (.ireturn, 1) := by decide +kernel
theorem dX6_far_0 : decode cX6_far 0 = .ok (.aload_n 0, 1) := by decide +kernel
theorem dX6_far_1 : decode cX6_far 1 = .ok (.iload_n 1, 1) := by decide +kernel
theorem dX6_far_2 : decode cX6_far 2 = .ok (.iload_n 2, 1) := by decide +kernel
theorem dX6_far_3 : decode cX6_far 3 = .ok (.invokevirtual 127, 3) := by decide +kernel
theorem dX6_far_6 : decode cX6_far 6 = .ok (.ifCond .eq 15, 3) := by decide +kernel
theorem dX6_far_9 : decode cX6_far 9 = .ok (.aload_n 0, 1) := by decide +kernel
theorem dX6_far_10 : decode cX6_far 10 = .ok (.getfield 31, 3) := by decide +kernel
theorem dX6_far_13 : decode cX6_far 13 = .ok (.iload_n 1, 1) := by decide +kernel
theorem dX6_far_14 : decode cX6_far 14 = .ok (.aaload, 1) := by decide +kernel
theorem dX6_far_15 : decode cX6_far 15 = .ok (.getfield 120, 3) := by decide +kernel
theorem dX6_far_18 : decode cX6_far 18 = .ok (.ifCond .eq 5, 3) := by decide +kernel
theorem dX6_far_21 : decode cX6_far 21 = .ok (.iconst (-1), 1) := by decide +kernel
theorem dX6_far_22 : decode cX6_far 22 = .ok (.ireturn, 1) := by decide +kernel
theorem dX6_far_23 : decode cX6_far 23 = .ok (.aload_n 0, 1) := by decide +kernel
theorem dX6_far_24 : decode cX6_far 24 = .ok (.getfield 54, 3) := by decide +kernel
theorem dX6_far_27 : decode cX6_far 27 = .ok (.aload_n 0, 1) := by decide +kernel
theorem dX6_far_28 : decode cX6_far 28 = .ok (.getfield 31, 3) := by decide +kernel
theorem dX6_far_31 : decode cX6_far 31 = .ok (.iload_n 1, 1) := by decide +kernel
theorem dX6_far_32 : decode cX6_far 32 = .ok (.aaload, 1) := by decide +kernel
theorem dX6_far_33 : decode cX6_far 33 = .ok (.aload_n 0, 1) := by decide +kernel
theorem dX6_far_34 : decode cX6_far 34 = .ok (.getfield 61, 3) := by decide +kernel
theorem dX6_far_37 : decode cX6_far 37 = .ok (.invokevirtual 183, 3) := by decide +kernel
theorem dX6_far_40 : decode cX6_far 40 = .ok (.aload_n 0, 1) := by decide +kernel
theorem dX6_far_41 : decode cX6_far 41 = .ok (.getfield 54, 3) := by decide +kernel
theorem dX6_far_44 : decode cX6_far 44 = .ok (.aload_n 0, 1) := by decide +kernel
theorem dX6_far_45 : decode cX6_far 45 = .ok (.getfield 31, 3) := by decide +kernel
theorem dX6_far_48 : decode cX6_far 48 = .ok (.iload_n 2, 1) := by decide +kernel
theorem dX6_far_49 : decode cX6_far 49 = .ok (.aaload, 1) := by decide +kernel
theorem dX6_far_50 : decode cX6_far 50 = .ok (.aload_n 0, 1) := by decide +kernel
theorem dX6_far_51 : decode cX6_far 51 = .ok (.getfield 65, 3) := by decide +kernel
theorem dX6_far_54 : decode cX6_far 54 = .ok (.invokevirtual 183, 3) := by decide +kernel
theorem dX6_far_57 : decode cX6_far 57 = .ok (.aload_n 0, 1) := by decide +kernel
theorem dX6_far_58 : decode cX6_far 58 = .ok (.getfield 71, 3) := by decide +kernel
theorem dX6_far_61 : decode cX6_far 61 = .ok (.aload_n 0, 1) := by decide +kernel
theorem dX6_far_62 : decode cX6_far 62 = .ok (.getfield 61, 3) := by decide +kernel
theorem dX6_far_65 : decode cX6_far 65 = .ok (.aload_n 0, 1) := by decide +kernel
theorem dX6_far_66 : decode cX6_far 66 = .ok (.getfield 65, 3) := by decide +kernel
theorem dX6_far_69 : decode cX6_far 69 = .ok (.aload_n 0, 1) := by decide +kernel
theorem dX6_far_70 : decode cX6_far 70 = .ok (.getfield 26, 3) := by decide +kernel
theorem dX6_far_73 : decode cX6_far 73 = .ok (.invokevirtual 212, 3) := by decide +kernel
theorem dX6_far_76 : decode cX6_far 76 = .ok (.ireturn, 1) := by decide +kernel
theorem dX6_kind_0 : decode cX6_kind 0 = .ok (.aload_n 0, 1) := by decide +kernel
theorem dX6_kind_1 : decode cX6_kind 1 = .ok (.getfield 78, 3) := by decide +kernel
theorem dX6_kind_4 : decode cX6_kind 4 = .ok (.iload_n 1, 1) := by decide +kernel
theorem dX6_kind_5 : decode cX6_kind 5 = .ok (.iload_n 2, 1) := by decide +kernel
theorem dX6_kind_6 : decode cX6_kind 6 = .ok (.invokevirtual 216, 3) := by decide +kernel
theorem dX6_kind_9 : decode cX6_kind 9 = .ok (.ifCond .eq 13, 3) := by decide +kernel
theorem dX6_kind_12 : decode cX6_kind 12 = .ok (.aload_n 0, 1) := by decide +kernel
theorem dX6_kind_13 : decode cX6_kind 13 = .ok (.getfield 78, 3) := by decide +kernel
theorem dX6_kind_16 : decode cX6_kind 16 = .ok (.invokevirtual 219, 3) := by decide +kernel
theorem dX6_kind_19 : decode cX6_kind 19 = .ok (.goto 4, 3) := by decide +kernel
theorem dX6_kind_22 : decode cX6_kind 22 = .ok (.iconst (-1), 1) := by decide +kernel
theorem dX6_kind_23 : decode cX6_kind 23 = .ok (.ireturn, 1) := by decide +kernel
theorem dX6_roots_0 : decode cX6_roots 0 = .ok (.aload_n 0, 1) := by decide +kernel
theorem dX6_roots_1 : decode cX6_roots 1 = .ok (.getfield 78, 3) := by decide +kernel
theorem dX6_roots_4 : decode cX6_roots 4 = .ok (.iload_n 1, 1) := by decide +kernel
theorem dX6_roots_5 : decode cX6_roots 5 = .ok (.iload_n 2, 1) := by decide +kernel
theorem dX6_roots_6 : decode cX6_roots 6 = .ok (.invokevirtual 216, 3) := by decide +kernel
theorem dX6_roots_9 : decode cX6_roots 9 = .ok (.ifCond .ne 5, 3) := by decide +kernel
theorem dX6_roots_12 : decode cX6_roots 12 = .ok (.iconst (-1), 1) := by decide +kernel
theorem dX6_roots_13 : decode cX6_roots 13 = .ok (.ireturn, 1) := by decide +kernel
theorem dX6_roots_14 : decode cX6_roots 14 = .ok (.aload_n 0, 1) := by decide +kernel
theorem dX6_roots_15 : decode cX6_roots 15 = .ok (.getfield 78, 3) := by decide +kernel
theorem dX6_roots_18 : decode cX6_roots 18 = .ok (.invokevirtual 219, 3) := by decide +kernel
theorem dX6_roots_21 : decode cX6_roots 21 = .ok (.iconst 1, 1) := by decide +kernel
theorem dX6_roots_22 : decode cX6_roots 22 = .ok (.if_icmp .ne 13, 3) := by decide +kernel
theorem dX6_roots_25 : decode cX6_roots 25 = .ok (.aload_n 0, 1) := by decide +kernel
theorem dX6_roots_26 : decode cX6_roots 26 = .ok (.getfield 78, 3) := by decide +kernel
theorem dX6_roots_29 : decode cX6_roots 29 = .ok (.invokevirtual 222, 3) := by decide +kernel
theorem dX6_roots_32 : decode cX6_roots 32 = .ok (.goto 4, 3) := by decide +kernel
theorem dX6_roots_35 : decode cX6_roots 35 = .ok (.iconst 0, 1) := by decide +kernel
theorem dX6_roots_36 : decode cX6_roots 36 = .ok (.ireturn, 1) := by decide +kernel
theorem dX6_count_0 : decode cX6_count 0 = .ok (.iload_n 1, 1) := by decide +kernel
theorem dX6_count_1 : decode cX6_count 1 = .ok (.lookupswitch 37 #[(0, 27), (1, 32)], 27) := by decide +kernel
theorem dX6_count_28 : decode cX6_count 28 = .ok (.aload_n 0, 1) := by decide +kernel
theorem dX6_count_29 : decode cX6_count 29 = .ok (.getfield 13, 3) := by decide +kernel
theorem dX6_count_32 : decode cX6_count 32 = .ok (.ireturn, 1) := by decide +kernel
theorem dX6_count_33 : decode cX6_count 33 = .ok (.aload_n 0, 1) := by decide +kernel
theorem dX6_count_34 : decode cX6_count 34 = .ok (.getfield 26, 3) := by decide +kernel
theorem dX6_count_37 : decode cX6_count 37 = .ok (.ireturn, 1) := by decide +kernel
theorem dX6_count_38 : decode cX6_count 38 = .ok (.iconst (-1), 1) := by decide +kernel
theorem dX6_count_39 : decode cX6_count 39 = .ok (.ireturn, 1) := by decide +kernel
theorem dX6_greatestPrime_0 : decode cX6_greatestPrime 0 = .ok (.getstatic 225, 3) := by decide +kernel
theorem dX6_greatestPrime_3 : decode cX6_greatestPrime 3 = .ok (.iconst 0, 1) := by decide +kernel
theorem dX6_greatestPrime_4 : decode cX6_greatestPrime 4 = .ok (.iaload, 1) := by decide +kernel
theorem dX6_greatestPrime_5 : decode cX6_greatestPrime 5 = .ok (.istore_n 1, 1) := by decide +kernel
theorem dX6_greatestPrime_6 : decode cX6_greatestPrime 6 = .ok (.getstatic 225, 3) := by decide +kernel
theorem dX6_greatestPrime_9 : decode cX6_greatestPrime 9 = .ok (.astore_n 2, 1) := by decide +kernel
theorem dX6_greatestPrime_10 : decode cX6_greatestPrime 10 = .ok (.aload_n 2, 1) := by decide +kernel
theorem dX6_greatestPrime_11 : decode cX6_greatestPrime 11 = .ok (.arraylength, 1) := by decide +kernel
theorem dX6_greatestPrime_12 : decode cX6_greatestPrime 12 = .ok (.istore_n 3, 1) := by decide +kernel
theorem dX6_greatestPrime_13 : decode cX6_greatestPrime 13 = .ok (.iconst 0, 1) := by decide +kernel
theorem dX6_greatestPrime_14 : decode cX6_greatestPrime 14 = .ok (.istore 4, 2) := by decide +kernel
theorem dX6_greatestPrime_16 : decode cX6_greatestPrime 16 = .ok (.iload 4, 2) := by decide +kernel
theorem dX6_greatestPrime_18 : decode cX6_greatestPrime 18 = .ok (.iload_n 3, 1) := by decide +kernel
theorem dX6_greatestPrime_19 : decode cX6_greatestPrime 19 = .ok (.if_icmp .ge 24, 3) := by decide +kernel
theorem dX6_greatestPrime_22 : decode cX6_greatestPrime 22 = .ok (.aload_n 2, 1) := by decide +kernel
theorem dX6_greatestPrime_23 : decode cX6_greatestPrime 23 = .ok (.iload 4, 2) := by decide +kernel
theorem dX6_greatestPrime_25 : decode cX6_greatestPrime 25 = .ok (.iaload, 1) := by decide +kernel
theorem dX6_greatestPrime_26 : decode cX6_greatestPrime 26 = .ok (.istore 5, 2) := by decide +kernel
theorem dX6_greatestPrime_28 : decode cX6_greatestPrime 28 = .ok (.iload 5, 2) := by decide +kernel
theorem dX6_greatestPrime_30 : decode cX6_greatestPrime 30 = .ok (.iload_n 0, 1) := by decide +kernel
theorem dX6_greatestPrime_31 : decode cX6_greatestPrime 31 = .ok (.if_icmp .gt 6, 3) := by decide +kernel
theorem dX6_greatestPrime_34 : decode cX6_greatestPrime 34 = .ok (.iload 5, 2) := by decide +kernel
theorem dX6_greatestPrime_36 : decode cX6_greatestPrime 36 = .ok (.istore_n 1, 1) := by decide +kernel
theorem dX6_greatestPrime_37 : decode cX6_greatestPrime 37 = .ok (.iinc 4 1, 3) := by decide +kernel
theorem dX6_greatestPrime_40 : decode cX6_greatestPrime 40 = .ok (.goto (-24), 3) := by decide +kernel
theorem dX6_greatestPrime_43 : decode cX6_greatestPrime 43 = .ok (.iload_n 1, 1) := by decide +kernel
theorem dX6_greatestPrime_44 : decode cX6_greatestPrime 44 = .ok (.ireturn, 1) := by decide +kernel
theorem dX6_isBelow_0 : decode cX6_isBelow 0 = .ok (.iload_n 0, 1) := by decide +kernel
theorem dX6_isBelow_1 : decode cX6_isBelow 1 = .ok (.ifCond .lt 12, 3) := by decide +kernel
theorem dX6_isBelow_4 : decode cX6_isBelow 4 = .ok (.iload_n 0, 1) := by decide +kernel
theorem dX6_isBelow_5 : decode cX6_isBelow 5 = .ok (.iload_n 1, 1) := by decide +kernel
theorem dX6_isBelow_6 : decode cX6_isBelow 6 = .ok (.if_icmp .ge 7, 3) := by decide +kernel
theorem dX6_isBelow_9 : decode cX6_isBelow 9 = .ok (.iconst 1, 1) := by decide +kernel
theorem dX6_isBelow_10 : decode cX6_isBelow 10 = .ok (.goto 4, 3) := by decide +kernel
theorem dX6_isBelow_13 : decode cX6_isBelow 13 = .ok (.iconst 0, 1) := by decide +kernel
theorem dX6_isBelow_14 : decode cX6_isBelow 14 = .ok (.ireturn, 1) := by decide +kernel
theorem dX6_isLaying_0 : decode cX6_isLaying 0 = .ok (.iload_n 1, 1) := by decide +kernel
theorem dX6_isLaying_1 : decode cX6_isLaying 1 = .ok (.bipush 8, 2) := by decide +kernel
theorem dX6_isLaying_3 : decode cX6_isLaying 3 = .ok (.invokestatic 148, 3) := by decide +kernel
theorem dX6_isLaying_6 : decode cX6_isLaying 6 = .ok (.ireturn, 1) := by decide +kernel
theorem dX6_isPost_0 : decode cX6_isPost 0 = .ok (.iload_n 1, 1) := by decide +kernel
theorem dX6_isPost_1 : decode cX6_isPost 1 = .ok (.aload_n 0, 1) := by decide +kernel
theorem dX6_isPost_2 : decode cX6_isPost 2 = .ok (.getfield 26, 3) := by decide +kernel
theorem dX6_isPost_5 : decode cX6_isPost 5 = .ok (.invokestatic 148, 3) := by decide +kernel
theorem dX6_isPost_8 : decode cX6_isPost 8 = .ok (.ireturn, 1) := by decide +kernel
theorem dX6_isArrow_0 : decode cX6_isArrow 0 = .ok (.iload_n 1, 1) := by decide +kernel
theorem dX6_isArrow_1 : decode cX6_isArrow 1 = .ok (.aload_n 0, 1) := by decide +kernel
theorem dX6_isArrow_2 : decode cX6_isArrow 2 = .ok (.getfield 26, 3) := by decide +kernel
theorem dX6_isArrow_5 : decode cX6_isArrow 5 = .ok (.iconst 1, 1) := by decide +kernel
theorem dX6_isArrow_6 : decode cX6_isArrow 6 = .ok (.isub, 1) := by decide +kernel
theorem dX6_isArrow_7 : decode cX6_isArrow 7 = .ok (.invokestatic 148, 3) := by decide +kernel
theorem dX6_isArrow_10 : decode cX6_isArrow 10 = .ok (.ireturn, 1) := by decide +kernel
theorem dX6_isSpan_0 : decode cX6_isSpan 0 = .ok (.aload_n 0, 1) := by decide +kernel
theorem dX6_isSpan_1 : decode cX6_isSpan 1 = .ok (.iload_n 1, 1) := by decide +kernel
theorem dX6_isSpan_2 : decode cX6_isSpan 2 = .ok (.invokevirtual 117, 3) := by decide +kernel
theorem dX6_isSpan_5 : decode cX6_isSpan 5 = .ok (.ifCond .eq 20, 3) := by decide +kernel
theorem dX6_isSpan_8 : decode cX6_isSpan 8 = .ok (.aload_n 0, 1) := by decide +kernel
theorem dX6_isSpan_9 : decode cX6_isSpan 9 = .ok (.iload_n 2, 1) := by decide +kernel
theorem dX6_isSpan_10 : decode cX6_isSpan 10 = .ok (.invokevirtual 117, 3) := by decide +kernel
theorem dX6_isSpan_13 : decode cX6_isSpan 13 = .ok (.ifCond .eq 12, 3) := by decide +kernel
theorem dX6_isSpan_16 : decode cX6_isSpan 16 = .ok (.iload_n 1, 1) := by decide +kernel
theorem dX6_isSpan_17 : decode cX6_isSpan 17 = .ok (.iload_n 2, 1) := by decide +kernel
theorem dX6_isSpan_18 : decode cX6_isSpan 18 = .ok (.if_icmp .gt 7, 3) := by decide +kernel
theorem dX6_isSpan_21 : decode cX6_isSpan 21 = .ok (.iconst 1, 1) := by decide +kernel
theorem dX6_isSpan_22 : decode cX6_isSpan 22 = .ok (.goto 4, 3) := by decide +kernel
theorem dX6_isSpan_25 : decode cX6_isSpan 25 = .ok (.iconst 0, 1) := by decide +kernel
theorem dX6_isSpan_26 : decode cX6_isSpan 26 = .ok (.ireturn, 1) := by decide +kernel
theorem dX6_isCell_0 : decode cX6_isCell 0 = .ok (.aload_n 0, 1) := by decide +kernel
theorem dX6_isCell_1 : decode cX6_isCell 1 = .ok (.iload_n 1, 1) := by decide +kernel
theorem dX6_isCell_2 : decode cX6_isCell 2 = .ok (.invokevirtual 82, 3) := by decide +kernel
theorem dX6_isCell_5 : decode cX6_isCell 5 = .ok (.ifCond .eq 50, 3) := by decide +kernel
theorem dX6_isCell_8 : decode cX6_isCell 8 = .ok (.aload_n 0, 1) := by decide +kernel
theorem dX6_isCell_9 : decode cX6_isCell 9 = .ok (.iload_n 2, 1) := by decide +kernel
theorem dX6_isCell_10 : decode cX6_isCell 10 = .ok (.invokevirtual 151, 3) := by decide +kernel
theorem dX6_isCell_13 : decode cX6_isCell 13 = .ok (.ifCond .eq 42, 3) := by decide +kernel
theorem dX6_isCell_16 : decode cX6_isCell 16 = .ok (.iload_n 3, 1) := by decide +kernel
theorem dX6_isCell_17 : decode cX6_isCell 17 = .ok (.aload_n 0, 1) := by decide +kernel
theorem dX6_isCell_18 : decode cX6_isCell 18 = .ok (.getfield 31, 3) := by decide +kernel
theorem dX6_isCell_21 : decode cX6_isCell 21 = .ok (.iload_n 1, 1) := by decide +kernel
theorem dX6_isCell_22 : decode cX6_isCell 22 = .ok (.aaload, 1) := by decide +kernel
theorem dX6_isCell_23 : decode cX6_isCell 23 = .ok (.iload_n 2, 1) := by decide +kernel
theorem dX6_isCell_24 : decode cX6_isCell 24 = .ok (.invokevirtual 138, 3) := by decide +kernel
theorem dX6_isCell_27 : decode cX6_isCell 27 = .ok (.invokestatic 148, 3) := by decide +kernel
theorem dX6_isCell_30 : decode cX6_isCell 30 = .ok (.ifCond .eq 25, 3) := by decide +kernel
theorem dX6_isCell_33 : decode cX6_isCell 33 = .ok (.iload 4, 2) := by decide +kernel
theorem dX6_isCell_35 : decode cX6_isCell 35 = .ok (.aload_n 0, 1) := by decide +kernel
theorem dX6_isCell_36 : decode cX6_isCell 36 = .ok (.getfield 31, 3) := by decide +kernel
theorem dX6_isCell_39 : decode cX6_isCell 39 = .ok (.iload_n 1, 1) := by decide +kernel
theorem dX6_isCell_40 : decode cX6_isCell 40 = .ok (.aaload, 1) := by decide +kernel
theorem dX6_isCell_41 : decode cX6_isCell 41 = .ok (.iload_n 2, 1) := by decide +kernel
theorem dX6_isCell_42 : decode cX6_isCell 42 = .ok (.invokevirtual 141, 3) := by decide +kernel
theorem dX6_isCell_45 : decode cX6_isCell 45 = .ok (.invokestatic 148, 3) := by decide +kernel
theorem dX6_isCell_48 : decode cX6_isCell 48 = .ok (.ifCond .eq 7, 3) := by decide +kernel
theorem dX6_isCell_51 : decode cX6_isCell 51 = .ok (.iconst 1, 1) := by decide +kernel
theorem dX6_isCell_52 : decode cX6_isCell 52 = .ok (.goto 4, 3) := by decide +kernel
theorem dX6_isCell_55 : decode cX6_isCell 55 = .ok (.iconst 0, 1) := by decide +kernel
theorem dX6_isCell_56 : decode cX6_isCell 56 = .ok (.ireturn, 1) := by decide +kernel
theorem dX6_areWays_0 : decode cX6_areWays 0 = .ok (.iload_n 1, 1) := by decide +kernel
theorem dX6_areWays_1 : decode cX6_areWays 1 = .ok (.ifCond .lt 18, 3) := by decide +kernel
theorem dX6_areWays_4 : decode cX6_areWays 4 = .ok (.iload_n 1, 1) := by decide +kernel
theorem dX6_areWays_5 : decode cX6_areWays 5 = .ok (.aload_n 0, 1) := by decide +kernel
theorem dX6_areWays_6 : decode cX6_areWays 6 = .ok (.getfield 26, 3) := by decide +kernel
theorem dX6_areWays_9 : decode cX6_areWays 9 = .ok (.iconst 1, 1) := by decide +kernel
theorem dX6_areWays_10 : decode cX6_areWays 10 = .ok (.isub, 1) := by decide +kernel
theorem dX6_areWays_11 : decode cX6_areWays 11 = .ok (.ishr, 1) := by decide +kernel
theorem dX6_areWays_12 : decode cX6_areWays 12 = .ok (.ifCond .ne 7, 3) := by decide +kernel
theorem dX6_areWays_15 : decode cX6_areWays 15 = .ok (.iconst 1, 1) := by decide +kernel
theorem dX6_areWays_16 : decode cX6_areWays 16 = .ok (.goto 4, 3) := by decide +kernel
theorem dX6_areWays_19 : decode cX6_areWays 19 = .ok (.iconst 0, 1) := by decide +kernel
theorem dX6_areWays_20 : decode cX6_areWays 20 = .ok (.ireturn, 1) := by decide +kernel
theorem dX6_sizeIn_0 : decode cX6_sizeIn 0 = .ok (.iload_n 0, 1) := by decide +kernel
theorem dX6_sizeIn_1 : decode cX6_sizeIn 1 = .ok (.iconst 3, 1) := by decide +kernel
theorem dX6_sizeIn_2 : decode cX6_sizeIn 2 = .ok (.iload_n 1, 1) := by decide +kernel
theorem dX6_sizeIn_3 : decode cX6_sizeIn 3 = .ok (.imul, 1) := by decide +kernel
theorem dX6_sizeIn_4 : decode cX6_sizeIn 4 = .ok (.ishr, 1) := by decide +kernel
theorem dX6_sizeIn_5 : decode cX6_sizeIn 5 = .ok (.bipush 7, 2) := by decide +kernel
theorem dX6_sizeIn_7 : decode cX6_sizeIn 7 = .ok (.iand, 1) := by decide +kernel
theorem dX6_sizeIn_8 : decode cX6_sizeIn 8 = .ok (.ireturn, 1) := by decide +kernel
theorem dX6_areSizes_0 : decode cX6_areSizes 0 = .ok (.iload_n 1, 1) := by decide +kernel
theorem dX6_areSizes_1 : decode cX6_areSizes 1 = .ok (.ifCond .lt 14, 3) := by decide +kernel
theorem dX6_areSizes_4 : decode cX6_areSizes 4 = .ok (.iload_n 1, 1) := by decide +kernel
theorem dX6_areSizes_5 : decode cX6_areSizes 5 = .ok (.iconst 3, 1) := by decide +kernel
theorem dX6_areSizes_6 : decode cX6_areSizes 6 = .ok (.aload_n 0, 1) := by decide +kernel
theorem dX6_areSizes_7 : decode cX6_areSizes 7 = .ok (.getfield 26, 3) := by decide +kernel
theorem dX6_areSizes_10 : decode cX6_areSizes 10 = .ok (.imul, 1) := by decide +kernel
theorem dX6_areSizes_11 : decode cX6_areSizes 11 = .ok (.ishr, 1) := by decide +kernel
theorem dX6_areSizes_12 : decode cX6_areSizes 12 = .ok (.ifCond .eq 5, 3) := by decide +kernel
theorem dX6_areSizes_15 : decode cX6_areSizes 15 = .ok (.iconst 0, 1) := by decide +kernel
theorem dX6_areSizes_16 : decode cX6_areSizes 16 = .ok (.ireturn, 1) := by decide +kernel
theorem dX6_areSizes_17 : decode cX6_areSizes 17 = .ok (.iconst 0, 1) := by decide +kernel
theorem dX6_areSizes_18 : decode cX6_areSizes 18 = .ok (.istore_n 2, 1) := by decide +kernel
theorem dX6_areSizes_19 : decode cX6_areSizes 19 = .ok (.iload_n 2, 1) := by decide +kernel
theorem dX6_areSizes_20 : decode cX6_areSizes 20 = .ok (.aload_n 0, 1) := by decide +kernel
theorem dX6_areSizes_21 : decode cX6_areSizes 21 = .ok (.getfield 26, 3) := by decide +kernel
theorem dX6_areSizes_24 : decode cX6_areSizes 24 = .ok (.if_icmp .ge 20, 3) := by decide +kernel
theorem dX6_areSizes_27 : decode cX6_areSizes 27 = .ok (.iload_n 1, 1) := by decide +kernel
theorem dX6_areSizes_28 : decode cX6_areSizes 28 = .ok (.iload_n 2, 1) := by decide +kernel
theorem dX6_areSizes_29 : decode cX6_areSizes 29 = .ok (.invokestatic 99, 3) := by decide +kernel
theorem dX6_areSizes_32 : decode cX6_areSizes 32 = .ok (.iconst 4, 1) := by decide +kernel
theorem dX6_areSizes_33 : decode cX6_areSizes 33 = .ok (.if_icmp .le 5, 3) := by decide +kernel
theorem dX6_areSizes_36 : decode cX6_areSizes 36 = .ok (.iconst 0, 1) := by decide +kernel
theorem dX6_areSizes_37 : decode cX6_areSizes 37 = .ok (.ireturn, 1) := by decide +kernel
theorem dX6_areSizes_38 : decode cX6_areSizes 38 = .ok (.iinc 2 1, 3) := by decide +kernel
theorem dX6_areSizes_41 : decode cX6_areSizes 41 = .ok (.goto (-22), 3) := by decide +kernel
theorem dX6_areSizes_44 : decode cX6_areSizes 44 = .ok (.iconst 1, 1) := by decide +kernel
theorem dX6_areSizes_45 : decode cX6_areSizes 45 = .ok (.ireturn, 1) := by decide +kernel
theorem dX6_haveSameWays_0 : decode cX6_haveSameWays 0 = .ok (.aload_n 0, 1) := by decide +kernel
theorem dX6_haveSameWays_1 : decode cX6_haveSameWays 1 = .ok (.iload_n 1, 1) := by decide +kernel
theorem dX6_haveSameWays_2 : decode cX6_haveSameWays 2 = .ok (.invokevirtual 82, 3) := by decide +kernel
theorem dX6_haveSameWays_5 : decode cX6_haveSameWays 5 = .ok (.ifCond .eq 36, 3) := by decide +kernel
theorem dX6_haveSameWays_8 : decode cX6_haveSameWays 8 = .ok (.aload_n 0, 1) := by decide +kernel
theorem dX6_haveSameWays_9 : decode cX6_haveSameWays 9 = .ok (.iload_n 2, 1) := by decide +kernel
theorem dX6_haveSameWays_10 : decode cX6_haveSameWays 10 = .ok (.invokevirtual 82, 3) := by decide +kernel
theorem dX6_haveSameWays_13 : decode cX6_haveSameWays 13 = .ok (.ifCond .eq 28, 3) := by decide +kernel
theorem dX6_haveSameWays_16 : decode cX6_haveSameWays 16 = .ok (.aload_n 0, 1) := by decide +kernel
theorem dX6_haveSameWays_17 : decode cX6_haveSameWays 17 = .ok (.getfield 31, 3) := by decide +kernel
theorem dX6_haveSameWays_20 : decode cX6_haveSameWays 20 = .ok (.iload_n 1, 1) := by decide +kernel
theorem dX6_haveSameWays_21 : decode cX6_haveSameWays 21 = .ok (.aaload, 1) := by decide +kernel
theorem dX6_haveSameWays_22 : decode cX6_haveSameWays 22 = .ok (.getfield 120, 3) := by decide +kernel
theorem dX6_haveSameWays_25 : decode cX6_haveSameWays 25 = .ok (.aload_n 0, 1) := by decide +kernel
theorem dX6_haveSameWays_26 : decode cX6_haveSameWays 26 = .ok (.getfield 31, 3) := by decide +kernel
theorem dX6_haveSameWays_29 : decode cX6_haveSameWays 29 = .ok (.iload_n 2, 1) := by decide +kernel
theorem dX6_haveSameWays_30 : decode cX6_haveSameWays 30 = .ok (.aaload, 1) := by decide +kernel
theorem dX6_haveSameWays_31 : decode cX6_haveSameWays 31 = .ok (.getfield 120, 3) := by decide +kernel
theorem dX6_haveSameWays_34 : decode cX6_haveSameWays 34 = .ok (.if_icmp .ne 7, 3) := by decide +kernel
theorem dX6_haveSameWays_37 : decode cX6_haveSameWays 37 = .ok (.iconst 1, 1) := by decide +kernel
theorem dX6_haveSameWays_38 : decode cX6_haveSameWays 38 = .ok (.goto 4, 3) := by decide +kernel
theorem dX6_haveSameWays_41 : decode cX6_haveSameWays 41 = .ok (.iconst 0, 1) := by decide +kernel
theorem dX6_haveSameWays_42 : decode cX6_haveSameWays 42 = .ok (.ireturn, 1) := by decide +kernel
theorem dX6_fitBeside_0 : decode cX6_fitBeside 0 = .ok (.iconst 0, 1) := by decide +kernel
theorem dX6_fitBeside_1 : decode cX6_fitBeside 1 = .ok (.istore_n 3, 1) := by decide +kernel
theorem dX6_fitBeside_2 : decode cX6_fitBeside 2 = .ok (.iload_n 3, 1) := by decide +kernel
theorem dX6_fitBeside_3 : decode cX6_fitBeside 3 = .ok (.aload_n 0, 1) := by decide +kernel
theorem dX6_fitBeside_4 : decode cX6_fitBeside 4 = .ok (.getfield 26, 3) := by decide +kernel
theorem dX6_fitBeside_7 : decode cX6_fitBeside 7 = .ok (.if_icmp .ge 28, 3) := by decide +kernel
theorem dX6_fitBeside_10 : decode cX6_fitBeside 10 = .ok (.aload_n 1, 1) := by decide +kernel
theorem dX6_fitBeside_11 : decode cX6_fitBeside 11 = .ok (.getfield 95, 3) := by decide +kernel
theorem dX6_fitBeside_14 : decode cX6_fitBeside 14 = .ok (.iload_n 3, 1) := by decide +kernel
theorem dX6_fitBeside_15 : decode cX6_fitBeside 15 = .ok (.iaload, 1) := by decide +kernel
theorem dX6_fitBeside_16 : decode cX6_fitBeside 16 = .ok (.aload_n 2, 1) := by decide +kernel
theorem dX6_fitBeside_17 : decode cX6_fitBeside 17 = .ok (.getfield 95, 3) := by decide +kernel
theorem dX6_fitBeside_20 : decode cX6_fitBeside 20 = .ok (.iload_n 3, 1) := by decide +kernel
theorem dX6_fitBeside_21 : decode cX6_fitBeside 21 = .ok (.iaload, 1) := by decide +kernel
theorem dX6_fitBeside_22 : decode cX6_fitBeside 22 = .ok (.iadd, 1) := by decide +kernel
theorem dX6_fitBeside_23 : decode cX6_fitBeside 23 = .ok (.iconst 4, 1) := by decide +kernel
theorem dX6_fitBeside_24 : decode cX6_fitBeside 24 = .ok (.if_icmp .le 5, 3) := by decide +kernel
theorem dX6_fitBeside_27 : decode cX6_fitBeside 27 = .ok (.iconst 0, 1) := by decide +kernel
theorem dX6_fitBeside_28 : decode cX6_fitBeside 28 = .ok (.ireturn, 1) := by decide +kernel
theorem dX6_fitBeside_29 : decode cX6_fitBeside 29 = .ok (.iinc 3 1, 3) := by decide +kernel
theorem dX6_fitBeside_32 : decode cX6_fitBeside 32 = .ok (.goto (-30), 3) := by decide +kernel
theorem dX6_fitBeside_35 : decode cX6_fitBeside 35 = .ok (.iconst 1, 1) := by decide +kernel
theorem dX6_fitBeside_36 : decode cX6_fitBeside 36 = .ok (.ireturn, 1) := by decide +kernel
theorem dX6_addRow_0 : decode cX6_addRow 0 = .ok (.aload_n 1, 1) := by decide +kernel
theorem dX6_addRow_1 : decode cX6_addRow 1 = .ok (.iload_n 2, 1) := by decide +kernel
theorem dX6_addRow_2 : decode cX6_addRow 2 = .ok (.invokevirtual 141, 3) := by decide +kernel
theorem dX6_addRow_5 : decode cX6_addRow 5 = .ok (.istore 6, 2) := by decide +kernel
theorem dX6_addRow_7 : decode cX6_addRow 7 = .ok (.iconst 0, 1) := by decide +kernel
theorem dX6_addRow_8 : decode cX6_addRow 8 = .ok (.istore 7, 2) := by decide +kernel
theorem dX6_addRow_10 : decode cX6_addRow 10 = .ok (.iload 7, 2) := by decide +kernel
theorem dX6_addRow_12 : decode cX6_addRow 12 = .ok (.iload 6, 2) := by decide +kernel
theorem dX6_addRow_14 : decode cX6_addRow 14 = .ok (.if_icmp .ge 47, 3) := by decide +kernel
theorem dX6_addRow_17 : decode cX6_addRow 17 = .ok (.aload_n 1, 1) := by decide +kernel
theorem dX6_addRow_18 : decode cX6_addRow 18 = .ok (.iload_n 2, 1) := by decide +kernel
theorem dX6_addRow_19 : decode cX6_addRow 19 = .ok (.iload_n 3, 1) := by decide +kernel
theorem dX6_addRow_20 : decode cX6_addRow 20 = .ok (.iload 7, 2) := by decide +kernel
theorem dX6_addRow_22 : decode cX6_addRow 22 = .ok (.invokevirtual 113, 3) := by decide +kernel
theorem dX6_addRow_25 : decode cX6_addRow 25 = .ok (.iload 5, 2) := by decide +kernel
theorem dX6_addRow_27 : decode cX6_addRow 27 = .ok (.aload_n 1, 1) := by decide +kernel
theorem dX6_addRow_28 : decode cX6_addRow 28 = .ok (.iload_n 2, 1) := by decide +kernel
theorem dX6_addRow_29 : decode cX6_addRow 29 = .ok (.iload 4, 2) := by decide +kernel
theorem dX6_addRow_31 : decode cX6_addRow 31 = .ok (.iload 7, 2) := by decide +kernel
theorem dX6_addRow_33 : decode cX6_addRow 33 = .ok (.invokevirtual 113, 3) := by decide +kernel
theorem dX6_addRow_36 : decode cX6_addRow 36 = .ok (.imul, 1) := by decide +kernel
theorem dX6_addRow_37 : decode cX6_addRow 37 = .ok (.iadd, 1) := by decide +kernel
theorem dX6_addRow_38 : decode cX6_addRow 38 = .ok (.istore 8, 2) := by decide +kernel
theorem dX6_addRow_40 : decode cX6_addRow 40 = .ok (.aload_n 1, 1) := by decide +kernel
theorem dX6_addRow_41 : decode cX6_addRow 41 = .ok (.iload_n 2, 1) := by decide +kernel
theorem dX6_addRow_42 : decode cX6_addRow 42 = .ok (.iload_n 3, 1) := by decide +kernel
theorem dX6_addRow_43 : decode cX6_addRow 43 = .ok (.iload 7, 2) := by decide +kernel
theorem dX6_addRow_45 : decode cX6_addRow 45 = .ok (.iload 8, 2) := by decide +kernel
theorem dX6_addRow_47 : decode cX6_addRow 47 = .ok (.aload_n 0, 1) := by decide +kernel
theorem dX6_addRow_48 : decode cX6_addRow 48 = .ok (.getfield 13, 3) := by decide +kernel
theorem dX6_addRow_51 : decode cX6_addRow 51 = .ok (.irem, 1) := by decide +kernel
theorem dX6_addRow_52 : decode cX6_addRow 52 = .ok (.invokevirtual 109, 3) := by decide +kernel
theorem dX6_addRow_55 : decode cX6_addRow 55 = .ok (.iinc 7 1, 3) := by decide +kernel
theorem dX6_addRow_58 : decode cX6_addRow 58 = .ok (.goto (-48), 3) := by decide +kernel
theorem dX6_addRow_61 : decode cX6_addRow 61 = .ok (.return_, 1) := by decide +kernel
theorem dX6_addColumn_0 : decode cX6_addColumn 0 = .ok (.aload_n 1, 1) := by decide +kernel
theorem dX6_addColumn_1 : decode cX6_addColumn 1 = .ok (.iload_n 2, 1) := by decide +kernel
theorem dX6_addColumn_2 : decode cX6_addColumn 2 = .ok (.invokevirtual 138, 3) := by decide +kernel
theorem dX6_addColumn_5 : decode cX6_addColumn 5 = .ok (.istore 6, 2) := by decide +kernel
theorem dX6_addColumn_7 : decode cX6_addColumn 7 = .ok (.iconst 0, 1) := by decide +kernel
theorem dX6_addColumn_8 : decode cX6_addColumn 8 = .ok (.istore 7, 2) := by decide +kernel
theorem dX6_addColumn_10 : decode cX6_addColumn 10 = .ok (.iload 7, 2) := by decide +kernel
theorem dX6_addColumn_12 : decode cX6_addColumn 12 = .ok (.iload 6, 2) := by decide +kernel
theorem dX6_addColumn_14 : decode cX6_addColumn 14 = .ok (.if_icmp .ge 47, 3) := by decide +kernel
theorem dX6_addColumn_17 : decode cX6_addColumn 17 = .ok (.aload_n 1, 1) := by decide +kernel
theorem dX6_addColumn_18 : decode cX6_addColumn 18 = .ok (.iload_n 2, 1) := by decide +kernel
theorem dX6_addColumn_19 : decode cX6_addColumn 19 = .ok (.iload 7, 2) := by decide +kernel
theorem dX6_addColumn_21 : decode cX6_addColumn 21 = .ok (.iload_n 3, 1) := by decide +kernel
theorem dX6_addColumn_22 : decode cX6_addColumn 22 = .ok (.invokevirtual 113, 3) := by decide +kernel
theorem dX6_addColumn_25 : decode cX6_addColumn 25 = .ok (.iload 5, 2) := by decide +kernel
theorem dX6_addColumn_27 : decode cX6_addColumn 27 = .ok (.aload_n 1, 1) := by decide +kernel
theorem dX6_addColumn_28 : decode cX6_addColumn 28 = .ok (.iload_n 2, 1) := by decide +kernel
theorem dX6_addColumn_29 : decode cX6_addColumn 29 = .ok (.iload 7, 2) := by decide +kernel
theorem dX6_addColumn_31 : decode cX6_addColumn 31 = .ok (.iload 4, 2) := by decide +kernel
theorem dX6_addColumn_33 : decode cX6_addColumn 33 = .ok (.invokevirtual 113, 3) := by decide +kernel
theorem dX6_addColumn_36 : decode cX6_addColumn 36 = .ok (.imul, 1) := by decide +kernel
theorem dX6_addColumn_37 : decode cX6_addColumn 37 = .ok (.iadd, 1) := by decide +kernel
theorem dX6_addColumn_38 : decode cX6_addColumn 38 = .ok (.istore 8, 2) := by decide +kernel
theorem dX6_addColumn_40 : decode cX6_addColumn 40 = .ok (.aload_n 1, 1) := by decide +kernel
theorem dX6_addColumn_41 : decode cX6_addColumn 41 = .ok (.iload_n 2, 1) := by decide +kernel
theorem dX6_addColumn_42 : decode cX6_addColumn 42 = .ok (.iload 7, 2) := by decide +kernel
theorem dX6_addColumn_44 : decode cX6_addColumn 44 = .ok (.iload_n 3, 1) := by decide +kernel
theorem dX6_addColumn_45 : decode cX6_addColumn 45 = .ok (.iload 8, 2) := by decide +kernel
theorem dX6_addColumn_47 : decode cX6_addColumn 47 = .ok (.aload_n 0, 1) := by decide +kernel
theorem dX6_addColumn_48 : decode cX6_addColumn 48 = .ok (.getfield 13, 3) := by decide +kernel
theorem dX6_addColumn_51 : decode cX6_addColumn 51 = .ok (.irem, 1) := by decide +kernel
theorem dX6_addColumn_52 : decode cX6_addColumn 52 = .ok (.invokevirtual 109, 3) := by decide +kernel
theorem dX6_addColumn_55 : decode cX6_addColumn 55 = .ok (.iinc 7 1, 3) := by decide +kernel
theorem dX6_addColumn_58 : decode cX6_addColumn 58 = .ok (.goto (-48), 3) := by decide +kernel
theorem dX6_addColumn_61 : decode cX6_addColumn 61 = .ok (.return_, 1) := by decide +kernel
theorem dX6_isTurning_0 : decode cX6_isTurning 0 = .ok (.aload_n 0, 1) := by decide +kernel
theorem dX6_isTurning_1 : decode cX6_isTurning 1 = .ok (.getfield 26, 3) := by decide +kernel
theorem dX6_isTurning_4 : decode cX6_isTurning 4 = .ok (.iconst 1, 1) := by decide +kernel
theorem dX6_isTurning_5 : decode cX6_isTurning 5 = .ok (.if_icmp .ne 5, 3) := by decide +kernel
theorem dX6_isTurning_8 : decode cX6_isTurning 8 = .ok (.iconst 0, 1) := by decide +kernel
theorem dX6_isTurning_9 : decode cX6_isTurning 9 = .ok (.ireturn, 1) := by decide +kernel
theorem dX6_isTurning_10 : decode cX6_isTurning 10 = .ok (.aload_n 0, 1) := by decide +kernel
theorem dX6_isTurning_11 : decode cX6_isTurning 11 = .ok (.iload_n 2, 1) := by decide +kernel
theorem dX6_isTurning_12 : decode cX6_isTurning 12 = .ok (.iconst 1, 1) := by decide +kernel
theorem dX6_isTurning_13 : decode cX6_isTurning 13 = .ok (.isub, 1) := by decide +kernel
theorem dX6_isTurning_14 : decode cX6_isTurning 14 = .ok (.invokevirtual 151, 3) := by decide +kernel
theorem dX6_isTurning_17 : decode cX6_isTurning 17 = .ok (.ifCond .eq 11, 3) := by decide +kernel
theorem dX6_isTurning_20 : decode cX6_isTurning 20 = .ok (.aload_n 0, 1) := by decide +kernel
theorem dX6_isTurning_21 : decode cX6_isTurning 21 = .ok (.iload_n 2, 1) := by decide +kernel
theorem dX6_isTurning_22 : decode cX6_isTurning 22 = .ok (.invokevirtual 151, 3) := by decide +kernel
theorem dX6_isTurning_25 : decode cX6_isTurning 25 = .ok (.ifCond .ne 5, 3) := by decide +kernel
theorem dX6_isTurning_28 : decode cX6_isTurning 28 = .ok (.iconst 1, 1) := by decide +kernel
theorem dX6_isTurning_29 : decode cX6_isTurning 29 = .ok (.ireturn, 1) := by decide +kernel
theorem dX6_isTurning_30 : decode cX6_isTurning 30 = .ok (.aload_n 1, 1) := by decide +kernel
theorem dX6_isTurning_31 : decode cX6_isTurning 31 = .ok (.iload_n 2, 1) := by decide +kernel
theorem dX6_isTurning_32 : decode cX6_isTurning 32 = .ok (.iconst 1, 1) := by decide +kernel
theorem dX6_isTurning_33 : decode cX6_isTurning 33 = .ok (.isub, 1) := by decide +kernel
theorem dX6_isTurning_34 : decode cX6_isTurning 34 = .ok (.invokevirtual 228, 3) := by decide +kernel
theorem dX6_isTurning_37 : decode cX6_isTurning 37 = .ok (.aload_n 1, 1) := by decide +kernel
theorem dX6_isTurning_38 : decode cX6_isTurning 38 = .ok (.iload_n 2, 1) := by decide +kernel
theorem dX6_isTurning_39 : decode cX6_isTurning 39 = .ok (.invokevirtual 228, 3) := by decide +kernel
theorem dX6_isTurning_42 : decode cX6_isTurning 42 = .ok (.if_icmp .eq 7, 3) := by decide +kernel
theorem dX6_isTurning_45 : decode cX6_isTurning 45 = .ok (.iconst 1, 1) := by decide +kernel
theorem dX6_isTurning_46 : decode cX6_isTurning 46 = .ok (.goto 4, 3) := by decide +kernel
theorem dX6_isTurning_49 : decode cX6_isTurning 49 = .ok (.iconst 0, 1) := by decide +kernel
theorem dX6_isTurning_50 : decode cX6_isTurning 50 = .ok (.ireturn, 1) := by decide +kernel
theorem dX6_gatherBeside_0 : decode cX6_gatherBeside 0 = .ok (.aload_n 0, 1) := by decide +kernel
theorem dX6_gatherBeside_1 : decode cX6_gatherBeside 1 = .ok (.iload_n 2, 1) := by decide +kernel
theorem dX6_gatherBeside_2 : decode cX6_gatherBeside 2 = .ok (.iconst 1, 1) := by decide +kernel
theorem dX6_gatherBeside_3 : decode cX6_gatherBeside 3 = .ok (.isub, 1) := by decide +kernel
theorem dX6_gatherBeside_4 : decode cX6_gatherBeside 4 = .ok (.invokevirtual 151, 3) := by decide +kernel
theorem dX6_gatherBeside_7 : decode cX6_gatherBeside 7 = .ok (.ifCond .eq 14, 3) := by decide +kernel
theorem dX6_gatherBeside_10 : decode cX6_gatherBeside 10 = .ok (.aload_n 1, 1) := by decide +kernel
theorem dX6_gatherBeside_11 : decode cX6_gatherBeside 11 = .ok (.getfield 95, 3) := by decide +kernel
theorem dX6_gatherBeside_14 : decode cX6_gatherBeside 14 = .ok (.iload_n 2, 1) := by decide +kernel
theorem dX6_gatherBeside_15 : decode cX6_gatherBeside 15 = .ok (.iconst 1, 1) := by decide +kernel
theorem dX6_gatherBeside_16 : decode cX6_gatherBeside 16 = .ok (.isub, 1) := by decide +kernel
theorem dX6_gatherBeside_17 : decode cX6_gatherBeside 17 = .ok (.iaload, 1) := by decide +kernel
theorem dX6_gatherBeside_18 : decode cX6_gatherBeside 18 = .ok (.goto 4, 3) := by decide +kernel
theorem dX6_gatherBeside_21 : decode cX6_gatherBeside 21 = .ok (.iconst 0, 1) := by decide +kernel
theorem dX6_gatherBeside_22 : decode cX6_gatherBeside 22 = .ok (.istore 4, 2) := by decide +kernel
theorem dX6_gatherBeside_24 : decode cX6_gatherBeside 24 = .ok (.aload_n 0, 1) := by decide +kernel
theorem dX6_gatherBeside_25 : decode cX6_gatherBeside 25 = .ok (.iload_n 2, 1) := by decide +kernel
theorem dX6_gatherBeside_26 : decode cX6_gatherBeside 26 = .ok (.invokevirtual 151, 3) := by decide +kernel
theorem dX6_gatherBeside_29 : decode cX6_gatherBeside 29 = .ok (.ifCond .eq 14, 3) := by decide +kernel
theorem dX6_gatherBeside_32 : decode cX6_gatherBeside 32 = .ok (.aload_n 1, 1) := by decide +kernel
theorem dX6_gatherBeside_33 : decode cX6_gatherBeside 33 = .ok (.getfield 95, 3) := by decide +kernel
theorem dX6_gatherBeside_36 : decode cX6_gatherBeside 36 = .ok (.iload_n 2, 1) := by decide +kernel
theorem dX6_gatherBeside_37 : decode cX6_gatherBeside 37 = .ok (.iconst 1, 1) := by decide +kernel
theorem dX6_gatherBeside_38 : decode cX6_gatherBeside 38 = .ok (.iadd, 1) := by decide +kernel
theorem dX6_gatherBeside_39 : decode cX6_gatherBeside 39 = .ok (.iaload, 1) := by decide +kernel
theorem dX6_gatherBeside_40 : decode cX6_gatherBeside 40 = .ok (.goto 4, 3) := by decide +kernel
theorem dX6_gatherBeside_43 : decode cX6_gatherBeside 43 = .ok (.iconst 0, 1) := by decide +kernel
theorem dX6_gatherBeside_44 : decode cX6_gatherBeside 44 = .ok (.istore 5, 2) := by decide +kernel
theorem dX6_gatherBeside_46 : decode cX6_gatherBeside 46 = .ok (.aload_n 0, 1) := by decide +kernel
theorem dX6_gatherBeside_47 : decode cX6_gatherBeside 47 = .ok (.getfield 45, 3) := by decide +kernel
theorem dX6_gatherBeside_50 : decode cX6_gatherBeside 50 = .ok (.aload_n 1, 1) := by decide +kernel
theorem dX6_gatherBeside_51 : decode cX6_gatherBeside 51 = .ok (.getfield 95, 3) := by decide +kernel
theorem dX6_gatherBeside_54 : decode cX6_gatherBeside 54 = .ok (.iload_n 2, 1) := by decide +kernel
theorem dX6_gatherBeside_55 : decode cX6_gatherBeside 55 = .ok (.iaload, 1) := by decide +kernel
theorem dX6_gatherBeside_56 : decode cX6_gatherBeside 56 = .ok (.iload 4, 2) := by decide +kernel
theorem dX6_gatherBeside_58 : decode cX6_gatherBeside 58 = .ok (.iload 5, 2) := by decide +kernel
theorem dX6_gatherBeside_60 : decode cX6_gatherBeside 60 = .ok (.iadd, 1) := by decide +kernel
theorem dX6_gatherBeside_61 : decode cX6_gatherBeside 61 = .ok (.invokevirtual 231, 3) := by decide +kernel
theorem dX6_gatherBeside_64 : decode cX6_gatherBeside 64 = .ok (.iconst 0, 1) := by decide +kernel
theorem dX6_gatherBeside_65 : decode cX6_gatherBeside 65 = .ok (.istore 6, 2) := by decide +kernel
theorem dX6_gatherBeside_67 : decode cX6_gatherBeside 67 = .ok (.iload 6, 2) := by decide +kernel
theorem dX6_gatherBeside_69 : decode cX6_gatherBeside 69 = .ok (.aload_n 1, 1) := by decide +kernel
theorem dX6_gatherBeside_70 : decode cX6_gatherBeside 70 = .ok (.getfield 95, 3) := by decide +kernel
theorem dX6_gatherBeside_73 : decode cX6_gatherBeside 73 = .ok (.iload_n 2, 1) := by decide +kernel
theorem dX6_gatherBeside_74 : decode cX6_gatherBeside 74 = .ok (.iaload, 1) := by decide +kernel
theorem dX6_gatherBeside_75 : decode cX6_gatherBeside 75 = .ok (.if_icmp .ge 88, 3) := by decide +kernel
theorem dX6_gatherBeside_78 : decode cX6_gatherBeside 78 = .ok (.iconst 0, 1) := by decide +kernel
theorem dX6_gatherBeside_79 : decode cX6_gatherBeside 79 = .ok (.istore 7, 2) := by decide +kernel
theorem dX6_gatherBeside_81 : decode cX6_gatherBeside 81 = .ok (.iload 7, 2) := by decide +kernel
theorem dX6_gatherBeside_83 : decode cX6_gatherBeside 83 = .ok (.iload 4, 2) := by decide +kernel
theorem dX6_gatherBeside_85 : decode cX6_gatherBeside 85 = .ok (.if_icmp .ge 32, 3) := by decide +kernel
theorem dX6_gatherBeside_88 : decode cX6_gatherBeside 88 = .ok (.aload_n 0, 1) := by decide +kernel
theorem dX6_gatherBeside_89 : decode cX6_gatherBeside 89 = .ok (.getfield 45, 3) := by decide +kernel
theorem dX6_gatherBeside_92 : decode cX6_gatherBeside 92 = .ok (.iload 6, 2) := by decide +kernel
theorem dX6_gatherBeside_94 : decode cX6_gatherBeside 94 = .ok (.iload 7, 2) := by decide +kernel
theorem dX6_gatherBeside_96 : decode cX6_gatherBeside 96 = .ok (.aload_n 1, 1) := by decide +kernel
theorem dX6_gatherBeside_97 : decode cX6_gatherBeside 97 = .ok (.iload_n 2, 1) := by decide +kernel
theorem dX6_gatherBeside_98 : decode cX6_gatherBeside 98 = .ok (.iconst 1, 1) := by decide +kernel
theorem dX6_gatherBeside_99 : decode cX6_gatherBeside 99 = .ok (.isub, 1) := by decide +kernel
theorem dX6_gatherBeside_100 : decode cX6_gatherBeside 100 = .ok (.iload_n 3, 1) := by decide +kernel
theorem dX6_gatherBeside_101 : decode cX6_gatherBeside 101 = .ok (.iload 6, 2) := by decide +kernel
theorem dX6_gatherBeside_103 : decode cX6_gatherBeside 103 = .ok (.iload 7, 2) := by decide +kernel
theorem dX6_gatherBeside_105 : decode cX6_gatherBeside 105 = .ok (.invokevirtual 234, 3) := by decide +kernel
theorem dX6_gatherBeside_108 : decode cX6_gatherBeside 108 = .ok (.invokevirtual 238, 3) := by decide +kernel
theorem dX6_gatherBeside_111 : decode cX6_gatherBeside 111 = .ok (.iinc 7 1, 3) := by decide +kernel
theorem dX6_gatherBeside_114 : decode cX6_gatherBeside 114 = .ok (.goto (-33), 3) := by decide +kernel
theorem dX6_gatherBeside_117 : decode cX6_gatherBeside 117 = .ok (.iconst 0, 1) := by decide +kernel
theorem dX6_gatherBeside_118 : decode cX6_gatherBeside 118 = .ok (.istore 7, 2) := by decide +kernel
theorem dX6_gatherBeside_120 : decode cX6_gatherBeside 120 = .ok (.iload 7, 2) := by decide +kernel
theorem dX6_gatherBeside_122 : decode cX6_gatherBeside 122 = .ok (.iload 5, 2) := by decide +kernel
theorem dX6_gatherBeside_124 : decode cX6_gatherBeside 124 = .ok (.if_icmp .ge 33, 3) := by decide +kernel
theorem dX6_gatherBeside_127 : decode cX6_gatherBeside 127 = .ok (.aload_n 0, 1) := by decide +kernel
theorem dX6_gatherBeside_128 : decode cX6_gatherBeside 128 = .ok (.getfield 45, 3) := by decide +kernel
theorem dX6_gatherBeside_131 : decode cX6_gatherBeside 131 = .ok (.iload 6, 2) := by decide +kernel
theorem dX6_gatherBeside_133 : decode cX6_gatherBeside 133 = .ok (.iload 4, 2) := by decide +kernel
theorem dX6_gatherBeside_135 : decode cX6_gatherBeside 135 = .ok (.iload 7, 2) := by decide +kernel
theorem dX6_gatherBeside_137 : decode cX6_gatherBeside 137 = .ok (.iadd, 1) := by decide +kernel
theorem dX6_gatherBeside_138 : decode cX6_gatherBeside 138 = .ok (.aload_n 1, 1) := by decide +kernel
theorem dX6_gatherBeside_139 : decode cX6_gatherBeside 139 = .ok (.iload_n 2, 1) := by decide +kernel
theorem dX6_gatherBeside_140 : decode cX6_gatherBeside 140 = .ok (.iload_n 3, 1) := by decide +kernel
theorem dX6_gatherBeside_141 : decode cX6_gatherBeside 141 = .ok (.iload 6, 2) := by decide +kernel
theorem dX6_gatherBeside_143 : decode cX6_gatherBeside 143 = .ok (.iload 7, 2) := by decide +kernel
theorem dX6_gatherBeside_145 : decode cX6_gatherBeside 145 = .ok (.invokevirtual 234, 3) := by decide +kernel
theorem dX6_gatherBeside_148 : decode cX6_gatherBeside 148 = .ok (.invokevirtual 238, 3) := by decide +kernel
theorem dX6_gatherBeside_151 : decode cX6_gatherBeside 151 = .ok (.iinc 7 1, 3) := by decide +kernel
theorem dX6_gatherBeside_154 : decode cX6_gatherBeside 154 = .ok (.goto (-34), 3) := by decide +kernel
theorem dX6_gatherBeside_157 : decode cX6_gatherBeside 157 = .ok (.iinc 6 1, 3) := by decide +kernel
theorem dX6_gatherBeside_160 : decode cX6_gatherBeside 160 = .ok (.goto (-93), 3) := by decide +kernel
theorem dX6_gatherBeside_163 : decode cX6_gatherBeside 163 = .ok (.return_, 1) := by decide +kernel
theorem dX6_putTurned_0 : decode cX6_putTurned 0 = .ok (.aload_n 0, 1) := by decide +kernel
theorem dX6_putTurned_1 : decode cX6_putTurned 1 = .ok (.getfield 36, 3) := by decide +kernel
theorem dX6_putTurned_4 : decode cX6_putTurned 4 = .ok (.iload_n 1, 1) := by decide +kernel
theorem dX6_putTurned_5 : decode cX6_putTurned 5 = .ok (.invokevirtual 241, 3) := by decide +kernel
theorem dX6_putTurned_8 : decode cX6_putTurned 8 = .ok (.iconst 0, 1) := by decide +kernel
theorem dX6_putTurned_9 : decode cX6_putTurned 9 = .ok (.istore 5, 2) := by decide +kernel
theorem dX6_putTurned_11 : decode cX6_putTurned 11 = .ok (.iconst 0, 1) := by decide +kernel
theorem dX6_putTurned_12 : decode cX6_putTurned 12 = .ok (.istore 6, 2) := by decide +kernel
theorem dX6_putTurned_14 : decode cX6_putTurned 14 = .ok (.iload 6, 2) := by decide +kernel
theorem dX6_putTurned_16 : decode cX6_putTurned 16 = .ok (.aload_n 0, 1) := by decide +kernel
theorem dX6_putTurned_17 : decode cX6_putTurned 17 = .ok (.getfield 45, 3) := by decide +kernel
theorem dX6_putTurned_20 : decode cX6_putTurned 20 = .ok (.getfield 244, 3) := by decide +kernel
theorem dX6_putTurned_23 : decode cX6_putTurned 23 = .ok (.if_icmp .ge 93, 3) := by decide +kernel
theorem dX6_putTurned_26 : decode cX6_putTurned 26 = .ok (.aload_n 0, 1) := by decide +kernel
theorem dX6_putTurned_27 : decode cX6_putTurned 27 = .ok (.getfield 45, 3) := by decide +kernel
theorem dX6_putTurned_30 : decode cX6_putTurned 30 = .ok (.iload 6, 2) := by decide +kernel
theorem dX6_putTurned_32 : decode cX6_putTurned 32 = .ok (.invokevirtual 247, 3) := by decide +kernel
theorem dX6_putTurned_35 : decode cX6_putTurned 35 = .ok (.ifCond .ne 6, 3) := by decide +kernel
theorem dX6_putTurned_38 : decode cX6_putTurned 38 = .ok (.goto 72, 3) := by decide +kernel
theorem dX6_putTurned_41 : decode cX6_putTurned 41 = .ok (.iconst 0, 1) := by decide +kernel
theorem dX6_putTurned_42 : decode cX6_putTurned 42 = .ok (.istore 7, 2) := by decide +kernel
theorem dX6_putTurned_44 : decode cX6_putTurned 44 = .ok (.iload 7, 2) := by decide +kernel
theorem dX6_putTurned_46 : decode cX6_putTurned 46 = .ok (.iload 4, 2) := by decide +kernel
theorem dX6_putTurned_48 : decode cX6_putTurned 48 = .ok (.if_icmp .ge 59, 3) := by decide +kernel
theorem dX6_putTurned_51 : decode cX6_putTurned 51 = .ok (.aload_n 0, 1) := by decide +kernel
theorem dX6_putTurned_52 : decode cX6_putTurned 52 = .ok (.getfield 45, 3) := by decide +kernel
theorem dX6_putTurned_55 : decode cX6_putTurned 55 = .ok (.iload_n 3, 1) := by decide +kernel
theorem dX6_putTurned_56 : decode cX6_putTurned 56 = .ok (.iload 7, 2) := by decide +kernel
theorem dX6_putTurned_58 : decode cX6_putTurned 58 = .ok (.iadd, 1) := by decide +kernel
theorem dX6_putTurned_59 : decode cX6_putTurned 59 = .ok (.iload 6, 2) := by decide +kernel
theorem dX6_putTurned_61 : decode cX6_putTurned 61 = .ok (.invokevirtual 250, 3) := by decide +kernel
theorem dX6_putTurned_64 : decode cX6_putTurned 64 = .ok (.istore 8, 2) := by decide +kernel
theorem dX6_putTurned_66 : decode cX6_putTurned 66 = .ok (.iload_n 2, 1) := by decide +kernel
theorem dX6_putTurned_67 : decode cX6_putTurned 67 = .ok (.ifCond .eq 20, 3) := by decide +kernel
theorem dX6_putTurned_70 : decode cX6_putTurned 70 = .ok (.aload_n 0, 1) := by decide +kernel
theorem dX6_putTurned_71 : decode cX6_putTurned 71 = .ok (.getfield 36, 3) := by decide +kernel
theorem dX6_putTurned_74 : decode cX6_putTurned 74 = .ok (.iload_n 1, 1) := by decide +kernel
theorem dX6_putTurned_75 : decode cX6_putTurned 75 = .ok (.iload 7, 2) := by decide +kernel
theorem dX6_putTurned_77 : decode cX6_putTurned 77 = .ok (.iload 5, 2) := by decide +kernel
theorem dX6_putTurned_79 : decode cX6_putTurned 79 = .ok (.iload 8, 2) := by decide +kernel
theorem dX6_putTurned_81 : decode cX6_putTurned 81 = .ok (.invokevirtual 109, 3) := by decide +kernel
theorem dX6_putTurned_84 : decode cX6_putTurned 84 = .ok (.goto 17, 3) := by decide +kernel
theorem dX6_putTurned_87 : decode cX6_putTurned 87 = .ok (.aload_n 0, 1) := by decide +kernel
theorem dX6_putTurned_88 : decode cX6_putTurned 88 = .ok (.getfield 36, 3) := by decide +kernel
theorem dX6_putTurned_91 : decode cX6_putTurned 91 = .ok (.iload_n 1, 1) := by decide +kernel
theorem dX6_putTurned_92 : decode cX6_putTurned 92 = .ok (.iload 5, 2) := by decide +kernel
theorem dX6_putTurned_94 : decode cX6_putTurned 94 = .ok (.iload 7, 2) := by decide +kernel
theorem dX6_putTurned_96 : decode cX6_putTurned 96 = .ok (.iload 8, 2) := by decide +kernel
theorem dX6_putTurned_98 : decode cX6_putTurned 98 = .ok (.invokevirtual 109, 3) := by decide +kernel
theorem dX6_putTurned_101 : decode cX6_putTurned 101 = .ok (.iinc 7 1, 3) := by decide +kernel
theorem dX6_putTurned_104 : decode cX6_putTurned 104 = .ok (.goto (-60), 3) := by decide +kernel
theorem dX6_putTurned_107 : decode cX6_putTurned 107 = .ok (.iinc 5 1, 3) := by decide +kernel
theorem dX6_putTurned_110 : decode cX6_putTurned 110 = .ok (.iinc 6 1, 3) := by decide +kernel
theorem dX6_putTurned_113 : decode cX6_putTurned 113 = .ok (.goto (-99), 3) := by decide +kernel
theorem dX6_putTurned_116 : decode cX6_putTurned 116 = .ok (.return_, 1) := by decide +kernel
theorem dX6_mapsOfSpans_0 : decode cX6_mapsOfSpans 0 = .ok (.iconst 0, 1) := by decide +kernel
theorem dX6_mapsOfSpans_1 : decode cX6_mapsOfSpans 1 = .ok (.istore_n 2, 1) := by decide +kernel
theorem dX6_mapsOfSpans_2 : decode cX6_mapsOfSpans 2 = .ok (.iconst 0, 1) := by decide +kernel
theorem dX6_mapsOfSpans_3 : decode cX6_mapsOfSpans 3 = .ok (.istore_n 3, 1) := by decide +kernel
theorem dX6_mapsOfSpans_4 : decode cX6_mapsOfSpans 4 = .ok (.iload_n 3, 1) := by decide +kernel
theorem dX6_mapsOfSpans_5 : decode cX6_mapsOfSpans 5 = .ok (.aload_n 0, 1) := by decide +kernel
theorem dX6_mapsOfSpans_6 : decode cX6_mapsOfSpans 6 = .ok (.getfield 61, 3) := by decide +kernel
theorem dX6_mapsOfSpans_9 : decode cX6_mapsOfSpans 9 = .ok (.getfield 253, 3) := by decide +kernel
theorem dX6_mapsOfSpans_12 : decode cX6_mapsOfSpans 12 = .ok (.if_icmp .ge 44, 3) := by decide +kernel
theorem dX6_mapsOfSpans_15 : decode cX6_mapsOfSpans 15 = .ok (.iconst 0, 1) := by decide +kernel
theorem dX6_mapsOfSpans_16 : decode cX6_mapsOfSpans 16 = .ok (.istore 4, 2) := by decide +kernel
theorem dX6_mapsOfSpans_18 : decode cX6_mapsOfSpans 18 = .ok (.iload 4, 2) := by decide +kernel
theorem dX6_mapsOfSpans_20 : decode cX6_mapsOfSpans 20 = .ok (.aload_n 0, 1) := by decide +kernel
theorem dX6_mapsOfSpans_21 : decode cX6_mapsOfSpans 21 = .ok (.getfield 65, 3) := by decide +kernel
theorem dX6_mapsOfSpans_24 : decode cX6_mapsOfSpans 24 = .ok (.getfield 253, 3) := by decide +kernel
theorem dX6_mapsOfSpans_27 : decode cX6_mapsOfSpans 27 = .ok (.if_icmp .ge 23, 3) := by decide +kernel
theorem dX6_mapsOfSpans_30 : decode cX6_mapsOfSpans 30 = .ok (.aload_n 0, 1) := by decide +kernel
theorem dX6_mapsOfSpans_31 : decode cX6_mapsOfSpans 31 = .ok (.aload_n 1, 1) := by decide +kernel
theorem dX6_mapsOfSpans_32 : decode cX6_mapsOfSpans 32 = .ok (.iload_n 3, 1) := by decide +kernel
theorem dX6_mapsOfSpans_33 : decode cX6_mapsOfSpans 33 = .ok (.iload 4, 2) := by decide +kernel
theorem dX6_mapsOfSpans_35 : decode cX6_mapsOfSpans 35 = .ok (.invokevirtual 256, 3) := by decide +kernel
theorem dX6_mapsOfSpans_38 : decode cX6_mapsOfSpans 38 = .ok (.ifCond .eq 6, 3) := by decide +kernel
theorem dX6_mapsOfSpans_41 : decode cX6_mapsOfSpans 41 = .ok (.iinc 2 1, 3) := by decide +kernel
theorem dX6_mapsOfSpans_44 : decode cX6_mapsOfSpans 44 = .ok (.iinc 4 1, 3) := by decide +kernel
theorem dX6_mapsOfSpans_47 : decode cX6_mapsOfSpans 47 = .ok (.goto (-29), 3) := by decide +kernel
theorem dX6_mapsOfSpans_50 : decode cX6_mapsOfSpans 50 = .ok (.iinc 3 1, 3) := by decide +kernel
theorem dX6_mapsOfSpans_53 : decode cX6_mapsOfSpans 53 = .ok (.goto (-49), 3) := by decide +kernel
theorem dX6_mapsOfSpans_56 : decode cX6_mapsOfSpans 56 = .ok (.iload_n 2, 1) := by decide +kernel
theorem dX6_mapsOfSpans_57 : decode cX6_mapsOfSpans 57 = .ok (.ireturn, 1) := by decide +kernel
theorem dX6_isMapped_0 : decode cX6_isMapped 0 = .ok (.aload_n 0, 1) := by decide +kernel
theorem dX6_isMapped_1 : decode cX6_isMapped 1 = .ok (.getfield 61, 3) := by decide +kernel
theorem dX6_isMapped_4 : decode cX6_isMapped 4 = .ok (.getfield 259, 3) := by decide +kernel
theorem dX6_isMapped_7 : decode cX6_isMapped 7 = .ok (.iload_n 2, 1) := by decide +kernel
theorem dX6_isMapped_8 : decode cX6_isMapped 8 = .ok (.iaload, 1) := by decide +kernel
theorem dX6_isMapped_9 : decode cX6_isMapped 9 = .ok (.istore 4, 2) := by decide +kernel
theorem dX6_isMapped_11 : decode cX6_isMapped 11 = .ok (.aload_n 0, 1) := by decide +kernel
theorem dX6_isMapped_12 : decode cX6_isMapped 12 = .ok (.getfield 61, 3) := by decide +kernel
theorem dX6_isMapped_15 : decode cX6_isMapped 15 = .ok (.getfield 262, 3) := by decide +kernel
theorem dX6_isMapped_18 : decode cX6_isMapped 18 = .ok (.iload_n 2, 1) := by decide +kernel
theorem dX6_isMapped_19 : decode cX6_isMapped 19 = .ok (.iaload, 1) := by decide +kernel
theorem dX6_isMapped_20 : decode cX6_isMapped 20 = .ok (.istore 5, 2) := by decide +kernel
theorem dX6_isMapped_22 : decode cX6_isMapped 22 = .ok (.aload_n 0, 1) := by decide +kernel
theorem dX6_isMapped_23 : decode cX6_isMapped 23 = .ok (.getfield 65, 3) := by decide +kernel
theorem dX6_isMapped_26 : decode cX6_isMapped 26 = .ok (.getfield 259, 3) := by decide +kernel
theorem dX6_isMapped_29 : decode cX6_isMapped 29 = .ok (.iload_n 3, 1) := by decide +kernel
theorem dX6_isMapped_30 : decode cX6_isMapped 30 = .ok (.iaload, 1) := by decide +kernel
theorem dX6_isMapped_31 : decode cX6_isMapped 31 = .ok (.istore 6, 2) := by decide +kernel
theorem dX6_isMapped_33 : decode cX6_isMapped 33 = .ok (.aload_n 0, 1) := by decide +kernel
theorem dX6_isMapped_34 : decode cX6_isMapped 34 = .ok (.getfield 65, 3) := by decide +kernel
theorem dX6_isMapped_37 : decode cX6_isMapped 37 = .ok (.getfield 262, 3) := by decide +kernel
theorem dX6_isMapped_40 : decode cX6_isMapped 40 = .ok (.iload_n 3, 1) := by decide +kernel
theorem dX6_isMapped_41 : decode cX6_isMapped 41 = .ok (.iaload, 1) := by decide +kernel
theorem dX6_isMapped_42 : decode cX6_isMapped 42 = .ok (.istore 7, 2) := by decide +kernel
theorem dX6_isMapped_44 : decode cX6_isMapped 44 = .ok (.iload 4, 2) := by decide +kernel
theorem dX6_isMapped_46 : decode cX6_isMapped 46 = .ok (.iload 6, 2) := by decide +kernel
theorem dX6_isMapped_48 : decode cX6_isMapped 48 = .ok (.invokestatic 23, 3) := by decide +kernel
theorem dX6_isMapped_51 : decode cX6_isMapped 51 = .ok (.istore 8, 2) := by decide +kernel
theorem dX6_isMapped_53 : decode cX6_isMapped 53 = .ok (.iload 5, 2) := by decide +kernel
theorem dX6_isMapped_55 : decode cX6_isMapped 55 = .ok (.iload 7, 2) := by decide +kernel
theorem dX6_isMapped_57 : decode cX6_isMapped 57 = .ok (.invokestatic 17, 3) := by decide +kernel
theorem dX6_isMapped_60 : decode cX6_isMapped 60 = .ok (.istore 9, 2) := by decide +kernel
theorem dX6_isMapped_62 : decode cX6_isMapped 62 = .ok (.iload 8, 2) := by decide +kernel
theorem dX6_isMapped_64 : decode cX6_isMapped 64 = .ok (.iload 9, 2) := by decide +kernel
theorem dX6_isMapped_66 : decode cX6_isMapped 66 = .ok (.if_icmp .le 5, 3) := by decide +kernel
theorem dX6_isMapped_69 : decode cX6_isMapped 69 = .ok (.iconst 0, 1) := by decide +kernel
theorem dX6_isMapped_70 : decode cX6_isMapped 70 = .ok (.ireturn, 1) := by decide +kernel
theorem dX6_isMapped_71 : decode cX6_isMapped 71 = .ok (.iload 4, 2) := by decide +kernel
theorem dX6_isMapped_73 : decode cX6_isMapped 73 = .ok (.iload 6, 2) := by decide +kernel
theorem dX6_isMapped_75 : decode cX6_isMapped 75 = .ok (.if_icmp .eq 28, 3) := by decide +kernel
theorem dX6_isMapped_78 : decode cX6_isMapped 78 = .ok (.aload_n 1, 1) := by decide +kernel
theorem dX6_isMapped_79 : decode cX6_isMapped 79 = .ok (.iload 8, 2) := by decide +kernel
theorem dX6_isMapped_81 : decode cX6_isMapped 81 = .ok (.iconst 1, 1) := by decide +kernel
theorem dX6_isMapped_82 : decode cX6_isMapped 82 = .ok (.isub, 1) := by decide +kernel
theorem dX6_isMapped_83 : decode cX6_isMapped 83 = .ok (.invokevirtual 228, 3) := by decide +kernel
theorem dX6_isMapped_86 : decode cX6_isMapped 86 = .ok (.iload 4, 2) := by decide +kernel
theorem dX6_isMapped_88 : decode cX6_isMapped 88 = .ok (.iload 6, 2) := by decide +kernel
theorem dX6_isMapped_90 : decode cX6_isMapped 90 = .ok (.if_icmp .ge 7, 3) := by decide +kernel
theorem dX6_isMapped_93 : decode cX6_isMapped 93 = .ok (.iconst 1, 1) := by decide +kernel
theorem dX6_isMapped_94 : decode cX6_isMapped 94 = .ok (.goto 4, 3) := by decide +kernel
theorem dX6_isMapped_97 : decode cX6_isMapped 97 = .ok (.iconst 0, 1) := by decide +kernel
theorem dX6_isMapped_98 : decode cX6_isMapped 98 = .ok (.if_icmp .eq 5, 3) := by decide +kernel
theorem dX6_isMapped_101 : decode cX6_isMapped 101 = .ok (.iconst 0, 1) := by decide +kernel
theorem dX6_isMapped_102 : decode cX6_isMapped 102 = .ok (.ireturn, 1) := by decide +kernel
theorem dX6_isMapped_103 : decode cX6_isMapped 103 = .ok (.iload 5, 2) := by decide +kernel
theorem dX6_isMapped_105 : decode cX6_isMapped 105 = .ok (.iload 7, 2) := by decide +kernel
theorem dX6_isMapped_107 : decode cX6_isMapped 107 = .ok (.if_icmp .eq 24, 3) := by decide +kernel
theorem dX6_isMapped_110 : decode cX6_isMapped 110 = .ok (.aload_n 1, 1) := by decide +kernel
theorem dX6_isMapped_111 : decode cX6_isMapped 111 = .ok (.iload 9, 2) := by decide +kernel
theorem dX6_isMapped_113 : decode cX6_isMapped 113 = .ok (.invokevirtual 228, 3) := by decide +kernel
theorem dX6_isMapped_116 : decode cX6_isMapped 116 = .ok (.iload 5, 2) := by decide +kernel
theorem dX6_isMapped_118 : decode cX6_isMapped 118 = .ok (.iload 7, 2) := by decide +kernel
theorem dX6_isMapped_120 : decode cX6_isMapped 120 = .ok (.if_icmp .ge 7, 3) := by decide +kernel
theorem dX6_isMapped_123 : decode cX6_isMapped 123 = .ok (.iconst 1, 1) := by decide +kernel
theorem dX6_isMapped_124 : decode cX6_isMapped 124 = .ok (.goto 4, 3) := by decide +kernel
theorem dX6_isMapped_127 : decode cX6_isMapped 127 = .ok (.iconst 0, 1) := by decide +kernel
theorem dX6_isMapped_128 : decode cX6_isMapped 128 = .ok (.if_icmp .ne 7, 3) := by decide +kernel
theorem dX6_isMapped_131 : decode cX6_isMapped 131 = .ok (.iconst 1, 1) := by decide +kernel
theorem dX6_isMapped_132 : decode cX6_isMapped 132 = .ok (.goto 4, 3) := by decide +kernel
theorem dX6_isMapped_135 : decode cX6_isMapped 135 = .ok (.iconst 0, 1) := by decide +kernel
theorem dX6_isMapped_136 : decode cX6_isMapped 136 = .ok (.ireturn, 1) := by decide +kernel
theorem dX6_isLed_0 : decode cX6_isLed 0 = .ok (.iload_n 1, 1) := by decide +kernel
theorem dX6_isLed_1 : decode cX6_isLed 1 = .ok (.iload_n 2, 1) := by decide +kernel
theorem dX6_isLed_2 : decode cX6_isLed 2 = .ok (.invokestatic 23, 3) := by decide +kernel
theorem dX6_isLed_5 : decode cX6_isLed 5 = .ok (.istore_n 3, 1) := by decide +kernel
theorem dX6_isLed_6 : decode cX6_isLed 6 = .ok (.iload_n 1, 1) := by decide +kernel
theorem dX6_isLed_7 : decode cX6_isLed 7 = .ok (.iload_n 2, 1) := by decide +kernel
theorem dX6_isLed_8 : decode cX6_isLed 8 = .ok (.invokestatic 17, 3) := by decide +kernel
theorem dX6_isLed_11 : decode cX6_isLed 11 = .ok (.istore 4, 2) := by decide +kernel
theorem dX6_isLed_13 : decode cX6_isLed 13 = .ok (.iload 4, 2) := by decide +kernel
theorem dX6_isLed_15 : decode cX6_isLed 15 = .ok (.iload_n 3, 1) := by decide +kernel
theorem dX6_isLed_16 : decode cX6_isLed 16 = .ok (.if_icmp .ge 30, 3) := by decide +kernel
theorem dX6_isLed_19 : decode cX6_isLed 19 = .ok (.aload_n 0, 1) := by decide +kernel
theorem dX6_isLed_20 : decode cX6_isLed 20 = .ok (.iload 4, 2) := by decide +kernel
theorem dX6_isLed_22 : decode cX6_isLed 22 = .ok (.invokevirtual 228, 3) := by decide +kernel
theorem dX6_isLed_25 : decode cX6_isLed 25 = .ok (.iload_n 1, 1) := by decide +kernel
theorem dX6_isLed_26 : decode cX6_isLed 26 = .ok (.iload_n 2, 1) := by decide +kernel
theorem dX6_isLed_27 : decode cX6_isLed 27 = .ok (.if_icmp .le 7, 3) := by decide +kernel
theorem dX6_isLed_30 : decode cX6_isLed 30 = .ok (.iconst 1, 1) := by decide +kernel
theorem dX6_isLed_31 : decode cX6_isLed 31 = .ok (.goto 4, 3) := by decide +kernel
theorem dX6_isLed_34 : decode cX6_isLed 34 = .ok (.iconst 0, 1) := by decide +kernel
theorem dX6_isLed_35 : decode cX6_isLed 35 = .ok (.if_icmp .eq 5, 3) := by decide +kernel
theorem dX6_isLed_38 : decode cX6_isLed 38 = .ok (.iconst 0, 1) := by decide +kernel
theorem dX6_isLed_39 : decode cX6_isLed 39 = .ok (.ireturn, 1) := by decide +kernel
theorem dX6_isLed_40 : decode cX6_isLed 40 = .ok (.iinc 4 1, 3) := by decide +kernel
theorem dX6_isLed_43 : decode cX6_isLed 43 = .ok (.goto (-30), 3) := by decide +kernel
theorem dX6_isLed_46 : decode cX6_isLed 46 = .ok (.iconst 1, 1) := by decide +kernel
theorem dX6_isLed_47 : decode cX6_isLed 47 = .ok (.ireturn, 1) := by decide +kernel
end
section
theorem dX7_init_0 : decode cX7_init 0 = .ok (.aload_n 0, 1) := by decide +kernel
theorem dX7_init_1 : decode cX7_init 1 = .ok (.invokespecial 3, 3) := by decide +kernel
theorem dX7_init_4 : decode cX7_init 4 = .ok (.aload_n 0, 1) := by decide +kernel
theorem dX7_init_5 : decode cX7_init 5 = .ok (.bipush 8, 2) := by decide +kernel
theorem dX7_init_7 : decode cX7_init 7 = .ok (.newarray .int, 2) := by decide +kernel
theorem dX7_init_9 : decode cX7_init 9 = .ok (.putfield 9, 3) := by decide +kernel
theorem dX7_init_12 : decode cX7_init 12 = .ok (.aload_n 0, 1) := by decide +kernel
theorem dX7_init_13 : decode cX7_init 13 = .ok (.bipush 64, 2) := by decide +kernel
theorem dX7_init_15 : decode cX7_init 15 = .ok (.newarray .int, 2) := by decide +kernel
theorem dX7_init_17 : decode cX7_init 17 = .ok (.putfield 13, 3) := by decide +kernel
theorem dX7_init_20 : decode cX7_init 20 = .ok (.aload_n 0, 1) := by decide +kernel
theorem dX7_init_21 : decode cX7_init 21 = .ok (.sipush 1024, 3) := by decide +kernel
theorem dX7_init_24 : decode cX7_init 24 = .ok (.newarray .int, 2) := by decide +kernel
theorem dX7_init_26 : decode cX7_init 26 = .ok (.putfield 16, 3) := by decide +kernel
theorem dX7_init_29 : decode cX7_init 29 = .ok (.aload_n 0, 1) := by decide +kernel
theorem dX7_init_30 : decode cX7_init 30 = .ok (.bipush 8, 2) := by decide +kernel
theorem dX7_init_32 : decode cX7_init 32 = .ok (.newarray .int, 2) := by decide +kernel
theorem dX7_init_34 : decode cX7_init 34 = .ok (.putfield 19, 3) := by decide +kernel
theorem dX7_init_37 : decode cX7_init 37 = .ok (.aload_n 0, 1) := by decide +kernel
theorem dX7_init_38 : decode cX7_init 38 = .ok (.sipush 128, 3) := by decide +kernel
theorem dX7_init_41 : decode cX7_init 41 = .ok (.newarray .int, 2) := by decide +kernel
theorem dX7_init_43 : decode cX7_init 43 = .ok (.putfield 22, 3) := by decide +kernel
theorem dX7_init_46 : decode cX7_init 46 = .ok (.aload_n 0, 1) := by decide +kernel
theorem dX7_init_47 : decode cX7_init 47 = .ok (.sipush 260, 3) := by decide +kernel
theorem dX7_init_50 : decode cX7_init 50 = .ok (.sipush 130, 3) := by decide +kernel
theorem dX7_init_53 : decode cX7_init 53 = .ok (.multianewarray 25 2, 4) := by decide +kernel
theorem dX7_init_57 : decode cX7_init 57 = .ok (.putfield 27, 3) := by decide +kernel
theorem dX7_init_60 : decode cX7_init 60 = .ok (.aload_n 0, 1) := by decide +kernel
theorem dX7_init_61 : decode cX7_init 61 = .ok (.sipush 260, 3) := by decide +kernel
theorem dX7_init_64 : decode cX7_init 64 = .ok (.newarray .int, 2) := by decide +kernel
theorem dX7_init_66 : decode cX7_init 66 = .ok (.putfield 30, 3) := by decide +kernel
theorem dX7_init_69 : decode cX7_init 69 = .ok (.aload_n 0, 1) := by decide +kernel
theorem dX7_init_70 : decode cX7_init 70 = .ok (.bipush 9, 2) := by decide +kernel
theorem dX7_init_72 : decode cX7_init 72 = .ok (.newarray .int, 2) := by decide +kernel
theorem dX7_init_74 : decode cX7_init 74 = .ok (.putfield 33, 3) := by decide +kernel
theorem dX7_init_77 : decode cX7_init 77 = .ok (.aload_n 0, 1) := by decide +kernel
theorem dX7_init_78 : decode cX7_init 78 = .ok (.bipush 9, 2) := by decide +kernel
theorem dX7_init_80 : decode cX7_init 80 = .ok (.newarray .int, 2) := by decide +kernel
theorem dX7_init_82 : decode cX7_init 82 = .ok (.putfield 36, 3) := by decide +kernel
theorem dX7_init_85 : decode cX7_init 85 = .ok (.aload_n 0, 1) := by decide +kernel
theorem dX7_init_86 : decode cX7_init 86 = .ok (.bipush 33, 2) := by decide +kernel
theorem dX7_init_88 : decode cX7_init 88 = .ok (.iconst 4, 1) := by decide +kernel
theorem dX7_init_89 : decode cX7_init 89 = .ok (.multianewarray 25 2, 4) := by decide +kernel
theorem dX7_init_93 : decode cX7_init 93 = .ok (.putfield 39, 3) := by decide +kernel
theorem dX7_init_96 : decode cX7_init 96 = .ok (.aload_n 0, 1) := by decide +kernel
theorem dX7_init_97 : decode cX7_init 97 = .ok (.iconst 4, 1) := by decide +kernel
theorem dX7_init_98 : decode cX7_init 98 = .ok (.newarray .int, 2) := by decide +kernel
theorem dX7_init_100 : decode cX7_init 100 = .ok (.putfield 42, 3) := by decide +kernel
theorem dX7_init_103 : decode cX7_init 103 = .ok (.aload_n 0, 1) := by decide +kernel
theorem dX7_init_104 : decode cX7_init 104 = .ok (.iconst 4, 1) := by decide +kernel
theorem dX7_init_105 : decode cX7_init 105 = .ok (.newarray .int, 2) := by decide +kernel
theorem dX7_init_107 : decode cX7_init 107 = .ok (.putfield 45, 3) := by decide +kernel
theorem dX7_init_110 : decode cX7_init 110 = .ok (.aload_n 0, 1) := by decide +kernel
theorem dX7_init_111 : decode cX7_init 111 = .ok (.bipush 64, 2) := by decide +kernel
theorem dX7_init_113 : decode cX7_init 113 = .ok (.newarray .int, 2) := by decide +kernel
theorem dX7_init_115 : decode cX7_init 115 = .ok (.putfield 48, 3) := by decide +kernel
theorem dX7_init_118 : decode cX7_init 118 = .ok (.aload_n 0, 1) := by decide +kernel
theorem dX7_init_119 : decode cX7_init 119 = .ok (.bipush 64, 2) := by decide +kernel
theorem dX7_init_121 : decode cX7_init 121 = .ok (.newarray .int, 2) := by decide +kernel
theorem dX7_init_123 : decode cX7_init 123 = .ok (.putfield 51, 3) := by decide +kernel
theorem dX7_init_126 : decode cX7_init 126 = .ok (.aload_n 0, 1) := by decide +kernel
theorem dX7_init_127 : decode cX7_init 127 = .ok (.iconst 2, 1) := by decide +kernel
theorem dX7_init_128 : decode cX7_init 128 = .ok (.newarray .int, 2) := by decide +kernel
theorem dX7_init_130 : decode cX7_init 130 = .ok (.putfield 54, 3) := by decide +kernel
theorem dX7_init_133 : decode cX7_init 133 = .ok (.aload_n 0, 1) := by decide +kernel
theorem dX7_init_134 : decode cX7_init 134 = .ok (.bipush 32, 2) := by decide +kernel
theorem dX7_init_136 : decode cX7_init 136 = .ok (.newarray .int, 2) := by decide +kernel
theorem dX7_init_138 : decode cX7_init 138 = .ok (.putfield 57, 3) := by decide +kernel
theorem dX7_init_141 : decode cX7_init 141 = .ok (.aload_n 0, 1) := by decide +kernel
theorem dX7_init_142 : decode cX7_init 142 = .ok (.bipush 32, 2) := by decide +kernel
theorem dX7_init_144 : decode cX7_init 144 = .ok (.newarray .boolean, 2) := by decide +kernel
theorem dX7_init_146 : decode cX7_init 146 = .ok (.putfield 60, 3) := by decide +kernel
theorem dX7_init_149 : decode cX7_init 149 = .ok (.aload_n 0, 1) := by decide +kernel
theorem dX7_init_150 : decode cX7_init 150 = .ok (.bipush 9, 2) := by decide +kernel
theorem dX7_init_152 : decode cX7_init 152 = .ok (.bipush 9, 2) := by decide +kernel
theorem dX7_init_154 : decode cX7_init 154 = .ok (.multianewarray 64 2, 4) := by decide +kernel
theorem dX7_init_158 : decode cX7_init 158 = .ok (.putfield 66, 3) := by decide +kernel
theorem dX7_init_161 : decode cX7_init 161 = .ok (.aload_n 0, 1) := by decide +kernel
theorem dX7_init_162 : decode cX7_init 162 = .ok (.bipush 9, 2) := by decide +kernel
theorem dX7_init_164 : decode cX7_init 164 = .ok (.newarray .int, 2) := by decide +kernel
theorem dX7_init_166 : decode cX7_init 166 = .ok (.putfield 69, 3) := by decide +kernel
theorem dX7_init_169 : decode cX7_init 169 = .ok (.aload_n 0, 1) := by decide +kernel
theorem dX7_init_170 : decode cX7_init 170 = .ok (.sipush 200, 3) := by decide +kernel
theorem dX7_init_173 : decode cX7_init 173 = .ok (.bipush 9, 2) := by decide +kernel
theorem dX7_init_175 : decode cX7_init 175 = .ok (.multianewarray 72 2, 4) := by decide +kernel
theorem dX7_init_179 : decode cX7_init 179 = .ok (.putfield 74, 3) := by decide +kernel
theorem dX7_init_182 : decode cX7_init 182 = .ok (.iconst 2, 1) := by decide +kernel
theorem dX7_init_183 : decode cX7_init 183 = .ok (.istore_n 3, 1) := by decide +kernel
theorem dX7_init_184 : decode cX7_init 184 = .ok (.iconst 0, 1) := by decide +kernel
theorem dX7_init_185 : decode cX7_init 185 = .ok (.istore 4, 2) := by decide +kernel
theorem dX7_init_187 : decode cX7_init 187 = .ok (.iload 4, 2) := by decide +kernel
theorem dX7_init_189 : decode cX7_init 189 = .ok (.getstatic 77, 3) := by decide +kernel
theorem dX7_init_192 : decode cX7_init 192 = .ok (.arraylength, 1) := by decide +kernel
theorem dX7_init_193 : decode cX7_init 193 = .ok (.if_icmp .ge 26, 3) := by decide +kernel
theorem dX7_init_196 : decode cX7_init 196 = .ok (.getstatic 77, 3) := by decide +kernel
theorem dX7_init_199 : decode cX7_init 199 = .ok (.iload 4, 2) := by decide +kernel
theorem dX7_init_201 : decode cX7_init 201 = .ok (.iaload, 1) := by decide +kernel
theorem dX7_init_202 : decode cX7_init 202 = .ok (.iload_n 1, 1) := by decide +kernel
theorem dX7_init_203 : decode cX7_init 203 = .ok (.if_icmp .gt 10, 3) := by decide +kernel
theorem dX7_init_206 : decode cX7_init 206 = .ok (.getstatic 77, 3) := by decide +kernel
theorem dX7_init_209 : decode cX7_init 209 = .ok (.iload 4, 2) := by decide +kernel
theorem dX7_init_211 : decode cX7_init 211 = .ok (.iaload, 1) := by decide +kernel
theorem dX7_init_212 : decode cX7_init 212 = .ok (.istore_n 3, 1) := by decide +kernel
theorem dX7_init_213 : decode cX7_init 213 = .ok (.iinc 4 1, 3) := by decide +kernel
theorem dX7_init_216 : decode cX7_init 216 = .ok (.goto (-29), 3) := by decide +kernel
theorem dX7_init_219 : decode cX7_init 219 = .ok (.aload_n 0, 1) := by decide +kernel
theorem dX7_init_220 : decode cX7_init 220 = .ok (.iload_n 3, 1) := by decide +kernel
theorem dX7_init_221 : decode cX7_init 221 = .ok (.putfield 80, 3) := by decide +kernel
theorem dX7_init_224 : decode cX7_init 224 = .ok (.aload_n 0, 1) := by decide +kernel
theorem dX7_init_225 : decode cX7_init 225 = .ok (.iconst 1, 1) := by decide +kernel
theorem dX7_init_226 : decode cX7_init 226 = .ok (.bipush 8, 2) := by decide +kernel
theorem dX7_init_228 : decode cX7_init 228 = .ok (.iload_n 2, 1) := by decide +kernel
theorem dX7_init_229 : decode cX7_init 229 = .ok (.invokestatic 84, 3) := by decide +kernel
theorem dX7_init_232 : decode cX7_init 232 = .ok (.invokestatic 90, 3) := by decide +kernel
theorem dX7_init_235 : decode cX7_init 235 = .ok (.putfield 93, 3) := by decide +kernel
theorem dX7_init_238 : decode cX7_init 238 = .ok (.return_, 1) := by decide +kernel
theorem dX7_in_0 : decode cX7_in 0 = .ok (.iload_n 0, 1) := by decide +kernel
theorem dX7_in_1 : decode cX7_in 1 = .ok (.iload_n 1, 1) := by decide +kernel
theorem dX7_in_2 : decode cX7_in 2 = .ok (.if_icmp .lt 12, 3) := by decide +kernel
theorem dX7_in_5 : decode cX7_in 5 = .ok (.iload_n 0, 1) := by decide +kernel
theorem dX7_in_6 : decode cX7_in 6 = .ok (.iload_n 2, 1) := by decide +kernel
theorem dX7_in_7 : decode cX7_in 7 = .ok (.if_icmp .gt 7, 3) := by decide +kernel
theorem dX7_in_10 : decode cX7_in 10 = .ok (.iconst 1, 1) := by decide +kernel
theorem dX7_in_11 : decode cX7_in 11 = .ok (.goto 4, 3) := by decide +kernel
theorem dX7_in_14 : decode cX7_in 14 = .ok (.iconst 0, 1) := by decide +kernel
theorem dX7_in_15 : decode cX7_in 15 = .ok (.ireturn, 1) := by decide +kernel
theorem dX7_isLaying_0 : decode cX7_isLaying 0 = .ok (.iload_n 0, 1) := by decide +kernel
theorem dX7_isLaying_1 : decode cX7_isLaying 1 = .ok (.iconst 0, 1) := by decide +kernel
theorem dX7_isLaying_2 : decode cX7_isLaying 2 = .ok (.bipush 7, 2) := by decide +kernel
theorem dX7_isLaying_4 : decode cX7_isLaying 4 = .ok (.invokestatic 96, 3) := by decide +kernel
theorem dX7_isLaying_7 : decode cX7_isLaying 7 = .ok (.ireturn, 1) := by decide +kernel
theorem dX7_isPost_0 : decode cX7_isPost 0 = .ok (.iload_n 1, 1) := by decide +kernel
theorem dX7_isPost_1 : decode cX7_isPost 1 = .ok (.iconst 0, 1) := by decide +kernel
theorem dX7_isPost_2 : decode cX7_isPost 2 = .ok (.aload_n 0, 1) := by decide +kernel
theorem dX7_isPost_3 : decode cX7_isPost 3 = .ok (.getfield 93, 3) := by decide +kernel
theorem dX7_isPost_6 : decode cX7_isPost 6 = .ok (.iconst 1, 1) := by decide +kernel
theorem dX7_isPost_7 : decode cX7_isPost 7 = .ok (.isub, 1) := by decide +kernel
theorem dX7_isPost_8 : decode cX7_isPost 8 = .ok (.invokestatic 96, 3) := by decide +kernel
theorem dX7_isPost_11 : decode cX7_isPost 11 = .ok (.ireturn, 1) := by decide +kernel
theorem dX7_rest_0 : decode cX7_rest 0 = .ok (.iload_n 1, 1) := by decide +kernel
theorem dX7_rest_1 : decode cX7_rest 1 = .ok (.aload_n 0, 1) := by decide +kernel
theorem dX7_rest_2 : decode cX7_rest 2 = .ok (.getfield 80, 3) := by decide +kernel
theorem dX7_rest_5 : decode cX7_rest 5 = .ok (.irem, 1) := by decide +kernel
theorem dX7_rest_6 : decode cX7_rest 6 = .ok (.istore_n 2, 1) := by decide +kernel
theorem dX7_rest_7 : decode cX7_rest 7 = .ok (.iload_n 2, 1) := by decide +kernel
theorem dX7_rest_8 : decode cX7_rest 8 = .ok (.ifCond .ge 12, 3) := by decide +kernel
theorem dX7_rest_11 : decode cX7_rest 11 = .ok (.iload_n 2, 1) := by decide +kernel
theorem dX7_rest_12 : decode cX7_rest 12 = .ok (.aload_n 0, 1) := by decide +kernel
theorem dX7_rest_13 : decode cX7_rest 13 = .ok (.getfield 80, 3) := by decide +kernel
theorem dX7_rest_16 : decode cX7_rest 16 = .ok (.iadd, 1) := by decide +kernel
theorem dX7_rest_17 : decode cX7_rest 17 = .ok (.goto 4, 3) := by decide +kernel
theorem dX7_rest_20 : decode cX7_rest 20 = .ok (.iload_n 2, 1) := by decide +kernel
theorem dX7_rest_21 : decode cX7_rest 21 = .ok (.ireturn, 1) := by decide +kernel
theorem dX7_inverse_0 : decode cX7_inverse 0 = .ok (.iconst 1, 1) := by decide +kernel
theorem dX7_inverse_1 : decode cX7_inverse 1 = .ok (.istore_n 2, 1) := by decide +kernel
theorem dX7_inverse_2 : decode cX7_inverse 2 = .ok (.iload_n 2, 1) := by decide +kernel
theorem dX7_inverse_3 : decode cX7_inverse 3 = .ok (.iload_n 1, 1) := by decide +kernel
theorem dX7_inverse_4 : decode cX7_inverse 4 = .ok (.imul, 1) := by decide +kernel
theorem dX7_inverse_5 : decode cX7_inverse 5 = .ok (.aload_n 0, 1) := by decide +kernel
theorem dX7_inverse_6 : decode cX7_inverse 6 = .ok (.getfield 80, 3) := by decide +kernel
theorem dX7_inverse_9 : decode cX7_inverse 9 = .ok (.irem, 1) := by decide +kernel
theorem dX7_inverse_10 : decode cX7_inverse 10 = .ok (.iconst 1, 1) := by decide +kernel
theorem dX7_inverse_11 : decode cX7_inverse 11 = .ok (.if_icmp .eq 9, 3) := by decide +kernel
theorem dX7_inverse_14 : decode cX7_inverse 14 = .ok (.iinc 2 1, 3) := by decide +kernel
theorem dX7_inverse_17 : decode cX7_inverse 17 = .ok (.goto (-15), 3) := by decide +kernel
theorem dX7_inverse_20 : decode cX7_inverse 20 = .ok (.iload_n 2, 1) := by decide +kernel
theorem dX7_inverse_21 : decode cX7_inverse 21 = .ok (.ireturn, 1) := by decide +kernel
theorem dX7_cell_0 : decode cX7_cell 0 = .ok (.iload_n 0, 1) := by decide +kernel
theorem dX7_cell_1 : decode cX7_cell 1 = .ok (.bipush 8, 2) := by decide +kernel
theorem dX7_cell_3 : decode cX7_cell 3 = .ok (.imul, 1) := by decide +kernel
theorem dX7_cell_4 : decode cX7_cell 4 = .ok (.iload_n 1, 1) := by decide +kernel
theorem dX7_cell_5 : decode cX7_cell 5 = .ok (.iadd, 1) := by decide +kernel
theorem dX7_cell_6 : decode cX7_cell 6 = .ok (.iconst 4, 1) := by decide +kernel
theorem dX7_cell_7 : decode cX7_cell 7 = .ok (.imul, 1) := by decide +kernel
theorem dX7_cell_8 : decode cX7_cell 8 = .ok (.iload_n 2, 1) := by decide +kernel
theorem dX7_cell_9 : decode cX7_cell 9 = .ok (.iadd, 1) := by decide +kernel
theorem dX7_cell_10 : decode cX7_cell 10 = .ok (.iconst 4, 1) := by decide +kernel
theorem dX7_cell_11 : decode cX7_cell 11 = .ok (.imul, 1) := by decide +kernel
theorem dX7_cell_12 : decode cX7_cell 12 = .ok (.iload_n 3, 1) := by decide +kernel
theorem dX7_cell_13 : decode cX7_cell 13 = .ok (.iadd, 1) := by decide +kernel
theorem dX7_cell_14 : decode cX7_cell 14 = .ok (.ireturn, 1) := by decide +kernel
theorem dX7_isLeft_0 : decode cX7_isLeft 0 = .ok (.aload_n 0, 1) := by decide +kernel
theorem dX7_isLeft_1 : decode cX7_isLeft 1 = .ok (.getfield 9, 3) := by decide +kernel
theorem dX7_isLeft_4 : decode cX7_isLeft 4 = .ok (.iload_n 1, 1) := by decide +kernel
theorem dX7_isLeft_5 : decode cX7_isLeft 5 = .ok (.iaload, 1) := by decide +kernel
theorem dX7_isLeft_6 : decode cX7_isLeft 6 = .ok (.iload_n 2, 1) := by decide +kernel
theorem dX7_isLeft_7 : decode cX7_isLeft 7 = .ok (.ishr, 1) := by decide +kernel
theorem dX7_isLeft_8 : decode cX7_isLeft 8 = .ok (.iconst 1, 1) := by decide +kernel
theorem dX7_isLeft_9 : decode cX7_isLeft 9 = .ok (.iand, 1) := by decide +kernel
theorem dX7_isLeft_10 : decode cX7_isLeft 10 = .ok (.iconst 1, 1) := by decide +kernel
theorem dX7_isLeft_11 : decode cX7_isLeft 11 = .ok (.if_icmp .ne 7, 3) := by decide +kernel
theorem dX7_isLeft_14 : decode cX7_isLeft 14 = .ok (.iconst 1, 1) := by decide +kernel
theorem dX7_isLeft_15 : decode cX7_isLeft 15 = .ok (.goto 4, 3) := by decide +kernel
theorem dX7_isLeft_18 : decode cX7_isLeft 18 = .ok (.iconst 0, 1) := by decide +kernel
theorem dX7_isLeft_19 : decode cX7_isLeft 19 = .ok (.ireturn, 1) := by decide +kernel
theorem dX7_source_0 : decode cX7_source 0 = .ok (.aload_n 0, 1) := by decide +kernel
theorem dX7_source_1 : decode cX7_source 1 = .ok (.iload_n 1, 1) := by decide +kernel
theorem dX7_source_2 : decode cX7_source 2 = .ok (.iload_n 2, 1) := by decide +kernel
theorem dX7_source_3 : decode cX7_source 3 = .ok (.invokevirtual 100, 3) := by decide +kernel
theorem dX7_source_6 : decode cX7_source 6 = .ok (.ifCond .eq 9, 3) := by decide +kernel
theorem dX7_source_9 : decode cX7_source 9 = .ok (.iload_n 2, 1) := by decide +kernel
theorem dX7_source_10 : decode cX7_source 10 = .ok (.iconst 1, 1) := by decide +kernel
theorem dX7_source_11 : decode cX7_source 11 = .ok (.iadd, 1) := by decide +kernel
theorem dX7_source_12 : decode cX7_source 12 = .ok (.goto 4, 3) := by decide +kernel
theorem dX7_source_15 : decode cX7_source 15 = .ok (.iload_n 2, 1) := by decide +kernel
theorem dX7_source_16 : decode cX7_source 16 = .ok (.ireturn, 1) := by decide +kernel
theorem dX7_target_0 : decode cX7_target 0 = .ok (.aload_n 0, 1) := by decide +kernel
theorem dX7_target_1 : decode cX7_target 1 = .ok (.iload_n 1, 1) := by decide +kernel
theorem dX7_target_2 : decode cX7_target 2 = .ok (.iload_n 2, 1) := by decide +kernel
theorem dX7_target_3 : decode cX7_target 3 = .ok (.invokevirtual 100, 3) := by decide +kernel
theorem dX7_target_6 : decode cX7_target 6 = .ok (.ifCond .eq 7, 3) := by decide +kernel
theorem dX7_target_9 : decode cX7_target 9 = .ok (.iload_n 2, 1) := by decide +kernel
theorem dX7_target_10 : decode cX7_target 10 = .ok (.goto 6, 3) := by decide +kernel
theorem dX7_target_13 : decode cX7_target 13 = .ok (.iload_n 2, 1) := by decide +kernel
theorem dX7_target_14 : decode cX7_target 14 = .ok (.iconst 1, 1) := by decide +kernel
theorem dX7_target_15 : decode cX7_target 15 = .ok (.iadd, 1) := by decide +kernel
theorem dX7_target_16 : decode cX7_target 16 = .ok (.ireturn, 1) := by decide +kernel
theorem dX7_at_0 : decode cX7_at 0 = .ok (.aload_n 0, 1) := by decide +kernel
theorem dX7_at_1 : decode cX7_at 1 = .ok (.getfield 13, 3) := by decide +kernel
theorem dX7_at_4 : decode cX7_at 4 = .ok (.bipush 8, 2) := by decide +kernel
theorem dX7_at_6 : decode cX7_at 6 = .ok (.iload_n 1, 1) := by decide +kernel
theorem dX7_at_7 : decode cX7_at 7 = .ok (.imul, 1) := by decide +kernel
theorem dX7_at_8 : decode cX7_at 8 = .ok (.iload_n 2, 1) := by decide +kernel
theorem dX7_at_9 : decode cX7_at 9 = .ok (.iadd, 1) := by decide +kernel
theorem dX7_at_10 : decode cX7_at 10 = .ok (.iaload, 1) := by decide +kernel
theorem dX7_at_11 : decode cX7_at 11 = .ok (.ireturn, 1) := by decide +kernel
theorem dX7_areWays_0 : decode cX7_areWays 0 = .ok (.iload_n 1, 1) := by decide +kernel
theorem dX7_areWays_1 : decode cX7_areWays 1 = .ok (.iconst 0, 1) := by decide +kernel
theorem dX7_areWays_2 : decode cX7_areWays 2 = .ok (.iconst 1, 1) := by decide +kernel
theorem dX7_areWays_3 : decode cX7_areWays 3 = .ok (.aload_n 0, 1) := by decide +kernel
theorem dX7_areWays_4 : decode cX7_areWays 4 = .ok (.getfield 93, 3) := by decide +kernel
theorem dX7_areWays_7 : decode cX7_areWays 7 = .ok (.iconst 1, 1) := by decide +kernel
theorem dX7_areWays_8 : decode cX7_areWays 8 = .ok (.isub, 1) := by decide +kernel
theorem dX7_areWays_9 : decode cX7_areWays 9 = .ok (.ishl, 1) := by decide +kernel
theorem dX7_areWays_10 : decode cX7_areWays 10 = .ok (.iconst 1, 1) := by decide +kernel
theorem dX7_areWays_11 : decode cX7_areWays 11 = .ok (.isub, 1) := by decide +kernel
theorem dX7_areWays_12 : decode cX7_areWays 12 = .ok (.invokestatic 96, 3) := by decide +kernel
theorem dX7_areWays_15 : decode cX7_areWays 15 = .ok (.ireturn, 1) := by decide +kernel
theorem dX7_clear_0 : decode cX7_clear 0 = .ok (.aload_n 0, 1) := by decide +kernel
theorem dX7_clear_1 : decode cX7_clear 1 = .ok (.getfield 9, 3) := by decide +kernel
theorem dX7_clear_4 : decode cX7_clear 4 = .ok (.iload_n 1, 1) := by decide +kernel
theorem dX7_clear_5 : decode cX7_clear 5 = .ok (.iload_n 2, 1) := by decide +kernel
theorem dX7_clear_6 : decode cX7_clear 6 = .ok (.iastore, 1) := by decide +kernel
theorem dX7_clear_7 : decode cX7_clear 7 = .ok (.iconst 0, 1) := by decide +kernel
theorem dX7_clear_8 : decode cX7_clear 8 = .ok (.istore_n 3, 1) := by decide +kernel
theorem dX7_clear_9 : decode cX7_clear 9 = .ok (.iload_n 3, 1) := by decide +kernel
theorem dX7_clear_10 : decode cX7_clear 10 = .ok (.bipush 8, 2) := by decide +kernel
theorem dX7_clear_12 : decode cX7_clear 12 = .ok (.if_icmp .ge 21, 3) := by decide +kernel
theorem dX7_clear_15 : decode cX7_clear 15 = .ok (.aload_n 0, 1) := by decide +kernel
theorem dX7_clear_16 : decode cX7_clear 16 = .ok (.getfield 13, 3) := by decide +kernel
theorem dX7_clear_19 : decode cX7_clear 19 = .ok (.bipush 8, 2) := by decide +kernel
theorem dX7_clear_21 : decode cX7_clear 21 = .ok (.iload_n 1, 1) := by decide +kernel
theorem dX7_clear_22 : decode cX7_clear 22 = .ok (.imul, 1) := by decide +kernel
theorem dX7_clear_23 : decode cX7_clear 23 = .ok (.iload_n 3, 1) := by decide +kernel
theorem dX7_clear_24 : decode cX7_clear 24 = .ok (.iadd, 1) := by decide +kernel
theorem dX7_clear_25 : decode cX7_clear 25 = .ok (.iconst 0, 1) := by decide +kernel
theorem dX7_clear_26 : decode cX7_clear 26 = .ok (.iastore, 1) := by decide +kernel
theorem dX7_clear_27 : decode cX7_clear 27 = .ok (.iinc 3 1, 3) := by decide +kernel
theorem dX7_clear_30 : decode cX7_clear 30 = .ok (.goto (-21), 3) := by decide +kernel
theorem dX7_clear_33 : decode cX7_clear 33 = .ok (.iconst 0, 1) := by decide +kernel
theorem dX7_clear_34 : decode cX7_clear 34 = .ok (.istore_n 3, 1) := by decide +kernel
theorem dX7_clear_35 : decode cX7_clear 35 = .ok (.iload_n 3, 1) := by decide +kernel
theorem dX7_clear_36 : decode cX7_clear 36 = .ok (.sipush 128, 3) := by decide +kernel
theorem dX7_clear_39 : decode cX7_clear 39 = .ok (.if_icmp .ge 22, 3) := by decide +kernel
theorem dX7_clear_42 : decode cX7_clear 42 = .ok (.aload_n 0, 1) := by decide +kernel
theorem dX7_clear_43 : decode cX7_clear 43 = .ok (.getfield 16, 3) := by decide +kernel
theorem dX7_clear_46 : decode cX7_clear 46 = .ok (.sipush 128, 3) := by decide +kernel
theorem dX7_clear_49 : decode cX7_clear 49 = .ok (.iload_n 1, 1) := by decide +kernel
theorem dX7_clear_50 : decode cX7_clear 50 = .ok (.imul, 1) := by decide +kernel
theorem dX7_clear_51 : decode cX7_clear 51 = .ok (.iload_n 3, 1) := by decide +kernel
theorem dX7_clear_52 : decode cX7_clear 52 = .ok (.iadd, 1) := by decide +kernel
theorem dX7_clear_53 : decode cX7_clear 53 = .ok (.iconst 0, 1) := by decide +kernel
theorem dX7_clear_54 : decode cX7_clear 54 = .ok (.iastore, 1) := by decide +kernel
theorem dX7_clear_55 : decode cX7_clear 55 = .ok (.iinc 3 1, 3) := by decide +kernel
theorem dX7_clear_58 : decode cX7_clear 58 = .ok (.goto (-23), 3) := by decide +kernel
theorem dX7_clear_61 : decode cX7_clear 61 = .ok (.return_, 1) := by decide +kernel
theorem dX7_lay_0 : decode cX7_lay 0 = .ok (.iload_n 1, 1) := by decide +kernel
theorem dX7_lay_1 : decode cX7_lay 1 = .ok (.invokestatic 104, 3) := by decide +kernel
theorem dX7_lay_4 : decode cX7_lay 4 = .ok (.ifCond .eq 27, 3) := by decide +kernel
theorem dX7_lay_7 : decode cX7_lay 7 = .ok (.aload_n 0, 1) := by decide +kernel
theorem dX7_lay_8 : decode cX7_lay 8 = .ok (.iload_n 2, 1) := by decide +kernel
theorem dX7_lay_9 : decode cX7_lay 9 = .ok (.invokevirtual 108, 3) := by decide +kernel
theorem dX7_lay_12 : decode cX7_lay 12 = .ok (.ifCond .eq 19, 3) := by decide +kernel
theorem dX7_lay_15 : decode cX7_lay 15 = .ok (.iload_n 3, 1) := by decide +kernel
theorem dX7_lay_16 : decode cX7_lay 16 = .ok (.ifCond .lt 15, 3) := by decide +kernel
theorem dX7_lay_19 : decode cX7_lay 19 = .ok (.iload_n 3, 1) := by decide +kernel
theorem dX7_lay_20 : decode cX7_lay 20 = .ok (.iconst 1, 1) := by decide +kernel
theorem dX7_lay_21 : decode cX7_lay 21 = .ok (.iconst 3, 1) := by decide +kernel
theorem dX7_lay_22 : decode cX7_lay 22 = .ok (.aload_n 0, 1) := by decide +kernel
theorem dX7_lay_23 : decode cX7_lay 23 = .ok (.getfield 93, 3) := by decide +kernel
theorem dX7_lay_26 : decode cX7_lay 26 = .ok (.imul, 1) := by decide +kernel
theorem dX7_lay_27 : decode cX7_lay 27 = .ok (.ishl, 1) := by decide +kernel
theorem dX7_lay_28 : decode cX7_lay 28 = .ok (.if_icmp .lt 5, 3) := by decide +kernel
theorem dX7_lay_31 : decode cX7_lay 31 = .ok (.iconst 0, 1) := by decide +kernel
theorem dX7_lay_32 : decode cX7_lay 32 = .ok (.ireturn, 1) := by decide +kernel
theorem dX7_lay_33 : decode cX7_lay 33 = .ok (.iconst 0, 1) := by decide +kernel
theorem dX7_lay_34 : decode cX7_lay 34 = .ok (.istore 4, 2) := by decide +kernel
theorem dX7_lay_36 : decode cX7_lay 36 = .ok (.iload 4, 2) := by decide +kernel
theorem dX7_lay_38 : decode cX7_lay 38 = .ok (.aload_n 0, 1) := by decide +kernel
theorem dX7_lay_39 : decode cX7_lay 39 = .ok (.getfield 93, 3) := by decide +kernel
theorem dX7_lay_42 : decode cX7_lay 42 = .ok (.if_icmp .ge 24, 3) := by decide +kernel
theorem dX7_lay_45 : decode cX7_lay 45 = .ok (.iload_n 3, 1) := by decide +kernel
theorem dX7_lay_46 : decode cX7_lay 46 = .ok (.iconst 3, 1) := by decide +kernel
theorem dX7_lay_47 : decode cX7_lay 47 = .ok (.iload 4, 2) := by decide +kernel
theorem dX7_lay_49 : decode cX7_lay 49 = .ok (.imul, 1) := by decide +kernel
theorem dX7_lay_50 : decode cX7_lay 50 = .ok (.ishr, 1) := by decide +kernel
theorem dX7_lay_51 : decode cX7_lay 51 = .ok (.bipush 7, 2) := by decide +kernel
theorem dX7_lay_53 : decode cX7_lay 53 = .ok (.iand, 1) := by decide +kernel
theorem dX7_lay_54 : decode cX7_lay 54 = .ok (.iconst 4, 1) := by decide +kernel
theorem dX7_lay_55 : decode cX7_lay 55 = .ok (.if_icmp .le 5, 3) := by decide +kernel
theorem dX7_lay_58 : decode cX7_lay 58 = .ok (.iconst 0, 1) := by decide +kernel
theorem dX7_lay_59 : decode cX7_lay 59 = .ok (.ireturn, 1) := by decide +kernel
theorem dX7_lay_60 : decode cX7_lay 60 = .ok (.iinc 4 1, 3) := by decide +kernel
theorem dX7_lay_63 : decode cX7_lay 63 = .ok (.goto (-27), 3) := by decide +kernel
theorem dX7_lay_66 : decode cX7_lay 66 = .ok (.aload_n 0, 1) := by decide +kernel
theorem dX7_lay_67 : decode cX7_lay 67 = .ok (.iload_n 1, 1) := by decide +kernel
theorem dX7_lay_68 : decode cX7_lay 68 = .ok (.iload_n 2, 1) := by decide +kernel
theorem dX7_lay_69 : decode cX7_lay 69 = .ok (.invokevirtual 111, 3) := by decide +kernel
theorem dX7_lay_72 : decode cX7_lay 72 = .ok (.iconst 0, 1) := by decide +kernel
theorem dX7_lay_73 : decode cX7_lay 73 = .ok (.istore 4, 2) := by decide +kernel
theorem dX7_lay_75 : decode cX7_lay 75 = .ok (.iload 4, 2) := by decide +kernel
theorem dX7_lay_77 : decode cX7_lay 77 = .ok (.aload_n 0, 1) := by decide +kernel
theorem dX7_lay_78 : decode cX7_lay 78 = .ok (.getfield 93, 3) := by decide +kernel
theorem dX7_lay_81 : decode cX7_lay 81 = .ok (.if_icmp .ge 30, 3) := by decide +kernel
theorem dX7_lay_84 : decode cX7_lay 84 = .ok (.aload_n 0, 1) := by decide +kernel
theorem dX7_lay_85 : decode cX7_lay 85 = .ok (.getfield 13, 3) := by decide +kernel
theorem dX7_lay_88 : decode cX7_lay 88 = .ok (.bipush 8, 2) := by decide +kernel
theorem dX7_lay_90 : decode cX7_lay 90 = .ok (.iload_n 1, 1) := by decide +kernel
theorem dX7_lay_91 : decode cX7_lay 91 = .ok (.imul, 1) := by decide +kernel
theorem dX7_lay_92 : decode cX7_lay 92 = .ok (.iload 4, 2) := by decide +kernel
theorem dX7_lay_94 : decode cX7_lay 94 = .ok (.iadd, 1) := by decide +kernel
theorem dX7_lay_95 : decode cX7_lay 95 = .ok (.iload_n 3, 1) := by decide +kernel
theorem dX7_lay_96 : decode cX7_lay 96 = .ok (.iconst 3, 1) := by decide +kernel
theorem dX7_lay_97 : decode cX7_lay 97 = .ok (.iload 4, 2) := by decide +kernel
theorem dX7_lay_99 : decode cX7_lay 99 = .ok (.imul, 1) := by decide +kernel
theorem dX7_lay_100 : decode cX7_lay 100 = .ok (.ishr, 1) := by decide +kernel
theorem dX7_lay_101 : decode cX7_lay 101 = .ok (.bipush 7, 2) := by decide +kernel
theorem dX7_lay_103 : decode cX7_lay 103 = .ok (.iand, 1) := by decide +kernel
theorem dX7_lay_104 : decode cX7_lay 104 = .ok (.iastore, 1) := by decide +kernel
theorem dX7_lay_105 : decode cX7_lay 105 = .ok (.iinc 4 1, 3) := by decide +kernel
theorem dX7_lay_108 : decode cX7_lay 108 = .ok (.goto (-33), 3) := by decide +kernel
theorem dX7_lay_111 : decode cX7_lay 111 = .ok (.iconst 1, 1) := by decide +kernel
theorem dX7_lay_112 : decode cX7_lay 112 = .ok (.ireturn, 1) := by decide +kernel
theorem dX7_isCell_0 : decode cX7_isCell 0 = .ok (.iload_n 1, 1) := by decide +kernel
theorem dX7_isCell_1 : decode cX7_isCell 1 = .ok (.invokestatic 104, 3) := by decide +kernel
theorem dX7_isCell_4 : decode cX7_isCell 4 = .ok (.ifCond .eq 64, 3) := by decide +kernel
theorem dX7_isCell_7 : decode cX7_isCell 7 = .ok (.iload_n 2, 1) := by decide +kernel
theorem dX7_isCell_8 : decode cX7_isCell 8 = .ok (.iconst 0, 1) := by decide +kernel
theorem dX7_isCell_9 : decode cX7_isCell 9 = .ok (.aload_n 0, 1) := by decide +kernel
theorem dX7_isCell_10 : decode cX7_isCell 10 = .ok (.getfield 93, 3) := by decide +kernel
theorem dX7_isCell_13 : decode cX7_isCell 13 = .ok (.iconst 2, 1) := by decide +kernel
theorem dX7_isCell_14 : decode cX7_isCell 14 = .ok (.isub, 1) := by decide +kernel
theorem dX7_isCell_15 : decode cX7_isCell 15 = .ok (.invokestatic 96, 3) := by decide +kernel
theorem dX7_isCell_18 : decode cX7_isCell 18 = .ok (.ifCond .eq 50, 3) := by decide +kernel
theorem dX7_isCell_21 : decode cX7_isCell 21 = .ok (.iload_n 3, 1) := by decide +kernel
theorem dX7_isCell_22 : decode cX7_isCell 22 = .ok (.iconst 0, 1) := by decide +kernel
theorem dX7_isCell_23 : decode cX7_isCell 23 = .ok (.aload_n 0, 1) := by decide +kernel
theorem dX7_isCell_24 : decode cX7_isCell 24 = .ok (.iload_n 1, 1) := by decide +kernel
theorem dX7_isCell_25 : decode cX7_isCell 25 = .ok (.aload_n 0, 1) := by decide +kernel
theorem dX7_isCell_26 : decode cX7_isCell 26 = .ok (.iload_n 1, 1) := by decide +kernel
theorem dX7_isCell_27 : decode cX7_isCell 27 = .ok (.iload_n 2, 1) := by decide +kernel
theorem dX7_isCell_28 : decode cX7_isCell 28 = .ok (.invokevirtual 115, 3) := by decide +kernel
theorem dX7_isCell_31 : decode cX7_isCell 31 = .ok (.invokevirtual 118, 3) := by decide +kernel
theorem dX7_isCell_34 : decode cX7_isCell 34 = .ok (.iconst 1, 1) := by decide +kernel
theorem dX7_isCell_35 : decode cX7_isCell 35 = .ok (.isub, 1) := by decide +kernel
theorem dX7_isCell_36 : decode cX7_isCell 36 = .ok (.invokestatic 96, 3) := by decide +kernel
theorem dX7_isCell_39 : decode cX7_isCell 39 = .ok (.ifCond .eq 29, 3) := by decide +kernel
theorem dX7_isCell_42 : decode cX7_isCell 42 = .ok (.iload 4, 2) := by decide +kernel
theorem dX7_isCell_44 : decode cX7_isCell 44 = .ok (.iconst 0, 1) := by decide +kernel
theorem dX7_isCell_45 : decode cX7_isCell 45 = .ok (.aload_n 0, 1) := by decide +kernel
theorem dX7_isCell_46 : decode cX7_isCell 46 = .ok (.iload_n 1, 1) := by decide +kernel
theorem dX7_isCell_47 : decode cX7_isCell 47 = .ok (.aload_n 0, 1) := by decide +kernel
theorem dX7_isCell_48 : decode cX7_isCell 48 = .ok (.iload_n 1, 1) := by decide +kernel
theorem dX7_isCell_49 : decode cX7_isCell 49 = .ok (.iload_n 2, 1) := by decide +kernel
theorem dX7_isCell_50 : decode cX7_isCell 50 = .ok (.invokevirtual 121, 3) := by decide +kernel
theorem dX7_isCell_53 : decode cX7_isCell 53 = .ok (.invokevirtual 118, 3) := by decide +kernel
theorem dX7_isCell_56 : decode cX7_isCell 56 = .ok (.iconst 1, 1) := by decide +kernel
theorem dX7_isCell_57 : decode cX7_isCell 57 = .ok (.isub, 1) := by decide +kernel
theorem dX7_isCell_58 : decode cX7_isCell 58 = .ok (.invokestatic 96, 3) := by decide +kernel
theorem dX7_isCell_61 : decode cX7_isCell 61 = .ok (.ifCond .eq 7, 3) := by decide +kernel
theorem dX7_isCell_64 : decode cX7_isCell 64 = .ok (.iconst 1, 1) := by decide +kernel
theorem dX7_isCell_65 : decode cX7_isCell 65 = .ok (.goto 4, 3) := by decide +kernel
theorem dX7_isCell_68 : decode cX7_isCell 68 = .ok (.iconst 0, 1) := by decide +kernel
theorem dX7_isCell_69 : decode cX7_isCell 69 = .ok (.ireturn, 1) := by decide +kernel
theorem dX7_set_0 : decode cX7_set 0 = .ok (.aload_n 0, 1) := by decide +kernel
theorem dX7_set_1 : decode cX7_set 1 = .ok (.iload_n 1, 1) := by decide +kernel
theorem dX7_set_2 : decode cX7_set 2 = .ok (.iload_n 2, 1) := by decide +kernel
theorem dX7_set_3 : decode cX7_set 3 = .ok (.iload_n 3, 1) := by decide +kernel
theorem dX7_set_4 : decode cX7_set 4 = .ok (.iload 4, 2) := by decide +kernel
theorem dX7_set_6 : decode cX7_set 6 = .ok (.invokevirtual 124, 3) := by decide +kernel
theorem dX7_set_9 : decode cX7_set 9 = .ok (.ifCond .ne 5, 3) := by decide +kernel
theorem dX7_set_12 : decode cX7_set 12 = .ok (.iconst 0, 1) := by decide +kernel
theorem dX7_set_13 : decode cX7_set 13 = .ok (.ireturn, 1) := by decide +kernel
theorem dX7_set_14 : decode cX7_set 14 = .ok (.aload_n 0, 1) := by decide +kernel
theorem dX7_set_15 : decode cX7_set 15 = .ok (.getfield 16, 3) := by decide +kernel
theorem dX7_set_18 : decode cX7_set 18 = .ok (.iload_n 1, 1) := by decide +kernel
theorem dX7_set_19 : decode cX7_set 19 = .ok (.iload_n 2, 1) := by decide +kernel
theorem dX7_set_20 : decode cX7_set 20 = .ok (.iload_n 3, 1) := by decide +kernel
theorem dX7_set_21 : decode cX7_set 21 = .ok (.iload 4, 2) := by decide +kernel
theorem dX7_set_23 : decode cX7_set 23 = .ok (.invokestatic 128, 3) := by decide +kernel
theorem dX7_set_26 : decode cX7_set 26 = .ok (.aload_n 0, 1) := by decide +kernel
theorem dX7_set_27 : decode cX7_set 27 = .ok (.iload 5, 2) := by decide +kernel
theorem dX7_set_29 : decode cX7_set 29 = .ok (.invokevirtual 132, 3) := by decide +kernel
theorem dX7_set_32 : decode cX7_set 32 = .ok (.iastore, 1) := by decide +kernel
theorem dX7_set_33 : decode cX7_set 33 = .ok (.iconst 1, 1) := by decide +kernel
theorem dX7_set_34 : decode cX7_set 34 = .ok (.ireturn, 1) := by decide +kernel
theorem dX7_get_0 : decode cX7_get 0 = .ok (.aload_n 0, 1) := by decide +kernel
theorem dX7_get_1 : decode cX7_get 1 = .ok (.iload_n 1, 1) := by decide +kernel
theorem dX7_get_2 : decode cX7_get 2 = .ok (.iload_n 2, 1) := by decide +kernel
theorem dX7_get_3 : decode cX7_get 3 = .ok (.iload_n 3, 1) := by decide +kernel
theorem dX7_get_4 : decode cX7_get 4 = .ok (.iload 4, 2) := by decide +kernel
theorem dX7_get_6 : decode cX7_get 6 = .ok (.invokevirtual 124, 3) := by decide +kernel
theorem dX7_get_9 : decode cX7_get 9 = .ok (.ifCond .eq 19, 3) := by decide +kernel
theorem dX7_get_12 : decode cX7_get 12 = .ok (.aload_n 0, 1) := by decide +kernel
theorem dX7_get_13 : decode cX7_get 13 = .ok (.getfield 16, 3) := by decide +kernel
theorem dX7_get_16 : decode cX7_get 16 = .ok (.iload_n 1, 1) := by decide +kernel
theorem dX7_get_17 : decode cX7_get 17 = .ok (.iload_n 2, 1) := by decide +kernel
theorem dX7_get_18 : decode cX7_get 18 = .ok (.iload_n 3, 1) := by decide +kernel
theorem dX7_get_19 : decode cX7_get 19 = .ok (.iload 4, 2) := by decide +kernel
theorem dX7_get_21 : decode cX7_get 21 = .ok (.invokestatic 128, 3) := by decide +kernel
theorem dX7_get_24 : decode cX7_get 24 = .ok (.iaload, 1) := by decide +kernel
theorem dX7_get_25 : decode cX7_get 25 = .ok (.goto 4, 3) := by decide +kernel
theorem dX7_get_28 : decode cX7_get 28 = .ok (.iconst (-1), 1) := by decide +kernel
theorem dX7_get_29 : decode cX7_get 29 = .ok (.ireturn, 1) := by decide +kernel
theorem dX7_size_0 : decode cX7_size 0 = .ok (.iload_n 1, 1) := by decide +kernel
theorem dX7_size_1 : decode cX7_size 1 = .ok (.invokestatic 104, 3) := by decide +kernel
theorem dX7_size_4 : decode cX7_size 4 = .ok (.ifCond .eq 20, 3) := by decide +kernel
theorem dX7_size_7 : decode cX7_size 7 = .ok (.aload_n 0, 1) := by decide +kernel
theorem dX7_size_8 : decode cX7_size 8 = .ok (.iload_n 2, 1) := by decide +kernel
theorem dX7_size_9 : decode cX7_size 9 = .ok (.invokevirtual 136, 3) := by decide +kernel
theorem dX7_size_12 : decode cX7_size 12 = .ok (.ifCond .eq 12, 3) := by decide +kernel
theorem dX7_size_15 : decode cX7_size 15 = .ok (.aload_n 0, 1) := by decide +kernel
theorem dX7_size_16 : decode cX7_size 16 = .ok (.iload_n 1, 1) := by decide +kernel
theorem dX7_size_17 : decode cX7_size 17 = .ok (.iload_n 2, 1) := by decide +kernel
theorem dX7_size_18 : decode cX7_size 18 = .ok (.invokevirtual 118, 3) := by decide +kernel
theorem dX7_size_21 : decode cX7_size 21 = .ok (.goto 4, 3) := by decide +kernel
theorem dX7_size_24 : decode cX7_size 24 = .ok (.iconst (-1), 1) := by decide +kernel
theorem dX7_size_25 : decode cX7_size 25 = .ok (.ireturn, 1) := by decide +kernel
theorem dX7_ways_0 : decode cX7_ways 0 = .ok (.iload_n 1, 1) := by decide +kernel
theorem dX7_ways_1 : decode cX7_ways 1 = .ok (.invokestatic 104, 3) := by decide +kernel
theorem dX7_ways_4 : decode cX7_ways 4 = .ok (.ifCond .eq 12, 3) := by decide +kernel
theorem dX7_ways_7 : decode cX7_ways 7 = .ok (.aload_n 0, 1) := by decide +kernel
theorem dX7_ways_8 : decode cX7_ways 8 = .ok (.getfield 9, 3) := by decide +kernel
theorem dX7_ways_11 : decode cX7_ways 11 = .ok (.iload_n 1, 1) := by decide +kernel
theorem dX7_ways_12 : decode cX7_ways 12 = .ok (.iaload, 1) := by decide +kernel
theorem dX7_ways_13 : decode cX7_ways 13 = .ok (.goto 4, 3) := by decide +kernel
theorem dX7_ways_16 : decode cX7_ways 16 = .ok (.iconst (-1), 1) := by decide +kernel
theorem dX7_ways_17 : decode cX7_ways 17 = .ok (.ireturn, 1) := by decide +kernel
theorem dX7_span_0 : decode cX7_span 0 = .ok (.iload_n 1, 1) := by decide +kernel
theorem dX7_span_1 : decode cX7_span 1 = .ok (.invokestatic 104, 3) := by decide +kernel
theorem dX7_span_4 : decode cX7_span 4 = .ok (.ifCond .eq 34, 3) := by decide +kernel
theorem dX7_span_7 : decode cX7_span 7 = .ok (.aload_n 0, 1) := by decide +kernel
theorem dX7_span_8 : decode cX7_span 8 = .ok (.iload_n 2, 1) := by decide +kernel
theorem dX7_span_9 : decode cX7_span 9 = .ok (.invokevirtual 108, 3) := by decide +kernel
theorem dX7_span_12 : decode cX7_span 12 = .ok (.ifCond .eq 26, 3) := by decide +kernel
theorem dX7_span_15 : decode cX7_span 15 = .ok (.aload_n 0, 1) := by decide +kernel
theorem dX7_span_16 : decode cX7_span 16 = .ok (.iload_n 3, 1) := by decide +kernel
theorem dX7_span_17 : decode cX7_span 17 = .ok (.invokevirtual 136, 3) := by decide +kernel
theorem dX7_span_20 : decode cX7_span 20 = .ok (.ifCond .eq 18, 3) := by decide +kernel
theorem dX7_span_23 : decode cX7_span 23 = .ok (.aload_n 0, 1) := by decide +kernel
theorem dX7_span_24 : decode cX7_span 24 = .ok (.iload 4, 2) := by decide +kernel
theorem dX7_span_26 : decode cX7_span 26 = .ok (.invokevirtual 136, 3) := by decide +kernel
theorem dX7_span_29 : decode cX7_span 29 = .ok (.ifCond .eq 9, 3) := by decide +kernel
theorem dX7_span_32 : decode cX7_span 32 = .ok (.iload_n 3, 1) := by decide +kernel
theorem dX7_span_33 : decode cX7_span 33 = .ok (.iload 4, 2) := by decide +kernel
theorem dX7_span_35 : decode cX7_span 35 = .ok (.if_icmp .le 5, 3) := by decide +kernel
theorem dX7_span_38 : decode cX7_span 38 = .ok (.iconst 0, 1) := by decide +kernel
theorem dX7_span_39 : decode cX7_span 39 = .ok (.ireturn, 1) := by decide +kernel
theorem dX7_span_40 : decode cX7_span 40 = .ok (.aload_n 0, 1) := by decide +kernel
theorem dX7_span_41 : decode cX7_span 41 = .ok (.iload_n 1, 1) := by decide +kernel
theorem dX7_span_42 : decode cX7_span 42 = .ok (.iload_n 2, 1) := by decide +kernel
theorem dX7_span_43 : decode cX7_span 43 = .ok (.invokevirtual 111, 3) := by decide +kernel
theorem dX7_span_46 : decode cX7_span 46 = .ok (.iload_n 3, 1) := by decide +kernel
theorem dX7_span_47 : decode cX7_span 47 = .ok (.istore 5, 2) := by decide +kernel
theorem dX7_span_49 : decode cX7_span 49 = .ok (.iload 5, 2) := by decide +kernel
theorem dX7_span_51 : decode cX7_span 51 = .ok (.iload 4, 2) := by decide +kernel
theorem dX7_span_53 : decode cX7_span 53 = .ok (.if_icmp .gt 43, 3) := by decide +kernel
theorem dX7_span_56 : decode cX7_span 56 = .ok (.aload_n 0, 1) := by decide +kernel
theorem dX7_span_57 : decode cX7_span 57 = .ok (.getfield 13, 3) := by decide +kernel
theorem dX7_span_60 : decode cX7_span 60 = .ok (.bipush 8, 2) := by decide +kernel
theorem dX7_span_62 : decode cX7_span 62 = .ok (.iload_n 1, 1) := by decide +kernel
theorem dX7_span_63 : decode cX7_span 63 = .ok (.imul, 1) := by decide +kernel
theorem dX7_span_64 : decode cX7_span 64 = .ok (.iload 5, 2) := by decide +kernel
theorem dX7_span_66 : decode cX7_span 66 = .ok (.iadd, 1) := by decide +kernel
theorem dX7_span_67 : decode cX7_span 67 = .ok (.iconst 1, 1) := by decide +kernel
theorem dX7_span_68 : decode cX7_span 68 = .ok (.iastore, 1) := by decide +kernel
theorem dX7_span_69 : decode cX7_span 69 = .ok (.iload 5, 2) := by decide +kernel
theorem dX7_span_71 : decode cX7_span 71 = .ok (.iload 4, 2) := by decide +kernel
theorem dX7_span_73 : decode cX7_span 73 = .ok (.if_icmp .ge 17, 3) := by decide +kernel
theorem dX7_span_76 : decode cX7_span 76 = .ok (.aload_n 0, 1) := by decide +kernel
theorem dX7_span_77 : decode cX7_span 77 = .ok (.getfield 16, 3) := by decide +kernel
theorem dX7_span_80 : decode cX7_span 80 = .ok (.iload_n 1, 1) := by decide +kernel
theorem dX7_span_81 : decode cX7_span 81 = .ok (.iload 5, 2) := by decide +kernel
theorem dX7_span_83 : decode cX7_span 83 = .ok (.iconst 0, 1) := by decide +kernel
theorem dX7_span_84 : decode cX7_span 84 = .ok (.iconst 0, 1) := by decide +kernel
theorem dX7_span_85 : decode cX7_span 85 = .ok (.invokestatic 128, 3) := by decide +kernel
theorem dX7_span_88 : decode cX7_span 88 = .ok (.iconst 1, 1) := by decide +kernel
theorem dX7_span_89 : decode cX7_span 89 = .ok (.iastore, 1) := by decide +kernel
theorem dX7_span_90 : decode cX7_span 90 = .ok (.iinc 5 1, 3) := by decide +kernel
theorem dX7_span_93 : decode cX7_span 93 = .ok (.goto (-44), 3) := by decide +kernel
theorem dX7_span_96 : decode cX7_span 96 = .ok (.iconst 1, 1) := by decide +kernel
theorem dX7_span_97 : decode cX7_span 97 = .ok (.ireturn, 1) := by decide +kernel
theorem dX7_becomes_0 : decode cX7_becomes 0 = .ok (.aload_n 0, 1) := by decide +kernel
theorem dX7_becomes_1 : decode cX7_becomes 1 = .ok (.getfield 9, 3) := by decide +kernel
theorem dX7_becomes_4 : decode cX7_becomes 4 = .ok (.iload_n 1, 1) := by decide +kernel
theorem dX7_becomes_5 : decode cX7_becomes 5 = .ok (.iload_n 2, 1) := by decide +kernel
theorem dX7_becomes_6 : decode cX7_becomes 6 = .ok (.iastore, 1) := by decide +kernel
theorem dX7_becomes_7 : decode cX7_becomes 7 = .ok (.iconst 0, 1) := by decide +kernel
theorem dX7_becomes_8 : decode cX7_becomes 8 = .ok (.istore_n 3, 1) := by decide +kernel
theorem dX7_becomes_9 : decode cX7_becomes 9 = .ok (.iload_n 3, 1) := by decide +kernel
theorem dX7_becomes_10 : decode cX7_becomes 10 = .ok (.bipush 8, 2) := by decide +kernel
theorem dX7_becomes_12 : decode cX7_becomes 12 = .ok (.if_icmp .ge 26, 3) := by decide +kernel
theorem dX7_becomes_15 : decode cX7_becomes 15 = .ok (.aload_n 0, 1) := by decide +kernel
theorem dX7_becomes_16 : decode cX7_becomes 16 = .ok (.getfield 13, 3) := by decide +kernel
theorem dX7_becomes_19 : decode cX7_becomes 19 = .ok (.bipush 8, 2) := by decide +kernel
theorem dX7_becomes_21 : decode cX7_becomes 21 = .ok (.iload_n 1, 1) := by decide +kernel
theorem dX7_becomes_22 : decode cX7_becomes 22 = .ok (.imul, 1) := by decide +kernel
theorem dX7_becomes_23 : decode cX7_becomes 23 = .ok (.iload_n 3, 1) := by decide +kernel
theorem dX7_becomes_24 : decode cX7_becomes 24 = .ok (.iadd, 1) := by decide +kernel
theorem dX7_becomes_25 : decode cX7_becomes 25 = .ok (.aload_n 0, 1) := by decide +kernel
theorem dX7_becomes_26 : decode cX7_becomes 26 = .ok (.getfield 19, 3) := by decide +kernel
theorem dX7_becomes_29 : decode cX7_becomes 29 = .ok (.iload_n 3, 1) := by decide +kernel
theorem dX7_becomes_30 : decode cX7_becomes 30 = .ok (.iaload, 1) := by decide +kernel
theorem dX7_becomes_31 : decode cX7_becomes 31 = .ok (.iastore, 1) := by decide +kernel
theorem dX7_becomes_32 : decode cX7_becomes 32 = .ok (.iinc 3 1, 3) := by decide +kernel
theorem dX7_becomes_35 : decode cX7_becomes 35 = .ok (.goto (-26), 3) := by decide +kernel
theorem dX7_becomes_38 : decode cX7_becomes 38 = .ok (.iconst 0, 1) := by decide +kernel
theorem dX7_becomes_39 : decode cX7_becomes 39 = .ok (.istore_n 3, 1) := by decide +kernel
theorem dX7_becomes_40 : decode cX7_becomes 40 = .ok (.iload_n 3, 1) := by decide +kernel
theorem dX7_becomes_41 : decode cX7_becomes 41 = .ok (.sipush 128, 3) := by decide +kernel
theorem dX7_becomes_44 : decode cX7_becomes 44 = .ok (.if_icmp .ge 27, 3) := by decide +kernel
theorem dX7_becomes_47 : decode cX7_becomes 47 = .ok (.aload_n 0, 1) := by decide +kernel
theorem dX7_becomes_48 : decode cX7_becomes 48 = .ok (.getfield 16, 3) := by decide +kernel
theorem dX7_becomes_51 : decode cX7_becomes 51 = .ok (.sipush 128, 3) := by decide +kernel
theorem dX7_becomes_54 : decode cX7_becomes 54 = .ok (.iload_n 1, 1) := by decide +kernel
theorem dX7_becomes_55 : decode cX7_becomes 55 = .ok (.imul, 1) := by decide +kernel
theorem dX7_becomes_56 : decode cX7_becomes 56 = .ok (.iload_n 3, 1) := by decide +kernel
theorem dX7_becomes_57 : decode cX7_becomes 57 = .ok (.iadd, 1) := by decide +kernel
theorem dX7_becomes_58 : decode cX7_becomes 58 = .ok (.aload_n 0, 1) := by decide +kernel
theorem dX7_becomes_59 : decode cX7_becomes 59 = .ok (.getfield 22, 3) := by decide +kernel
theorem dX7_becomes_62 : decode cX7_becomes 62 = .ok (.iload_n 3, 1) := by decide +kernel
theorem dX7_becomes_63 : decode cX7_becomes 63 = .ok (.iaload, 1) := by decide +kernel
theorem dX7_becomes_64 : decode cX7_becomes 64 = .ok (.iastore, 1) := by decide +kernel
theorem dX7_becomes_65 : decode cX7_becomes 65 = .ok (.iinc 3 1, 3) := by decide +kernel
theorem dX7_becomes_68 : decode cX7_becomes 68 = .ok (.goto (-28), 3) := by decide +kernel
theorem dX7_becomes_71 : decode cX7_becomes 71 = .ok (.return_, 1) := by decide +kernel
theorem dX7_copies_0 : decode cX7_copies 0 = .ok (.iconst 0, 1) := by decide +kernel
theorem dX7_copies_1 : decode cX7_copies 1 = .ok (.istore_n 2, 1) := by decide +kernel
theorem dX7_copies_2 : decode cX7_copies 2 = .ok (.iload_n 2, 1) := by decide +kernel
theorem dX7_copies_3 : decode cX7_copies 3 = .ok (.bipush 8, 2) := by decide +kernel
theorem dX7_copies_5 : decode cX7_copies 5 = .ok (.if_icmp .ge 26, 3) := by decide +kernel
theorem dX7_copies_8 : decode cX7_copies 8 = .ok (.aload_n 0, 1) := by decide +kernel
theorem dX7_copies_9 : decode cX7_copies 9 = .ok (.getfield 19, 3) := by decide +kernel
theorem dX7_copies_12 : decode cX7_copies 12 = .ok (.iload_n 2, 1) := by decide +kernel
theorem dX7_copies_13 : decode cX7_copies 13 = .ok (.aload_n 0, 1) := by decide +kernel
theorem dX7_copies_14 : decode cX7_copies 14 = .ok (.getfield 13, 3) := by decide +kernel
theorem dX7_copies_17 : decode cX7_copies 17 = .ok (.bipush 8, 2) := by decide +kernel
theorem dX7_copies_19 : decode cX7_copies 19 = .ok (.iload_n 1, 1) := by decide +kernel
theorem dX7_copies_20 : decode cX7_copies 20 = .ok (.imul, 1) := by decide +kernel
theorem dX7_copies_21 : decode cX7_copies 21 = .ok (.iload_n 2, 1) := by decide +kernel
theorem dX7_copies_22 : decode cX7_copies 22 = .ok (.iadd, 1) := by decide +kernel
theorem dX7_copies_23 : decode cX7_copies 23 = .ok (.iaload, 1) := by decide +kernel
theorem dX7_copies_24 : decode cX7_copies 24 = .ok (.iastore, 1) := by decide +kernel
theorem dX7_copies_25 : decode cX7_copies 25 = .ok (.iinc 2 1, 3) := by decide +kernel
theorem dX7_copies_28 : decode cX7_copies 28 = .ok (.goto (-26), 3) := by decide +kernel
theorem dX7_copies_31 : decode cX7_copies 31 = .ok (.iconst 0, 1) := by decide +kernel
theorem dX7_copies_32 : decode cX7_copies 32 = .ok (.istore_n 2, 1) := by decide +kernel
theorem dX7_copies_33 : decode cX7_copies 33 = .ok (.iload_n 2, 1) := by decide +kernel
theorem dX7_copies_34 : decode cX7_copies 34 = .ok (.sipush 128, 3) := by decide +kernel
theorem dX7_copies_37 : decode cX7_copies 37 = .ok (.if_icmp .ge 27, 3) := by decide +kernel
theorem dX7_copies_40 : decode cX7_copies 40 = .ok (.aload_n 0, 1) := by decide +kernel
theorem dX7_copies_41 : decode cX7_copies 41 = .ok (.getfield 22, 3) := by decide +kernel
theorem dX7_copies_44 : decode cX7_copies 44 = .ok (.iload_n 2, 1) := by decide +kernel
theorem dX7_copies_45 : decode cX7_copies 45 = .ok (.aload_n 0, 1) := by decide +kernel
theorem dX7_copies_46 : decode cX7_copies 46 = .ok (.getfield 16, 3) := by decide +kernel
theorem dX7_copies_49 : decode cX7_copies 49 = .ok (.sipush 128, 3) := by decide +kernel
theorem dX7_copies_52 : decode cX7_copies 52 = .ok (.iload_n 1, 1) := by decide +kernel
theorem dX7_copies_53 : decode cX7_copies 53 = .ok (.imul, 1) := by decide +kernel
theorem dX7_copies_54 : decode cX7_copies 54 = .ok (.iload_n 2, 1) := by decide +kernel
theorem dX7_copies_55 : decode cX7_copies 55 = .ok (.iadd, 1) := by decide +kernel
theorem dX7_copies_56 : decode cX7_copies 56 = .ok (.iaload, 1) := by decide +kernel
theorem dX7_copies_57 : decode cX7_copies 57 = .ok (.iastore, 1) := by decide +kernel
theorem dX7_copies_58 : decode cX7_copies 58 = .ok (.iinc 2 1, 3) := by decide +kernel
theorem dX7_copies_61 : decode cX7_copies 61 = .ok (.goto (-28), 3) := by decide +kernel
theorem dX7_copies_64 : decode cX7_copies 64 = .ok (.return_, 1) := by decide +kernel
theorem dX7_beside_0 : decode cX7_beside 0 = .ok (.iload_n 1, 1) := by decide +kernel
theorem dX7_beside_1 : decode cX7_beside 1 = .ok (.invokestatic 104, 3) := by decide +kernel
theorem dX7_beside_4 : decode cX7_beside 4 = .ok (.ifCond .eq 32, 3) := by decide +kernel
theorem dX7_beside_7 : decode cX7_beside 7 = .ok (.iload_n 2, 1) := by decide +kernel
theorem dX7_beside_8 : decode cX7_beside 8 = .ok (.invokestatic 104, 3) := by decide +kernel
theorem dX7_beside_11 : decode cX7_beside 11 = .ok (.ifCond .eq 25, 3) := by decide +kernel
theorem dX7_beside_14 : decode cX7_beside 14 = .ok (.iload_n 3, 1) := by decide +kernel
theorem dX7_beside_15 : decode cX7_beside 15 = .ok (.invokestatic 104, 3) := by decide +kernel
theorem dX7_beside_18 : decode cX7_beside 18 = .ok (.ifCond .eq 18, 3) := by decide +kernel
theorem dX7_beside_21 : decode cX7_beside 21 = .ok (.aload_n 0, 1) := by decide +kernel
theorem dX7_beside_22 : decode cX7_beside 22 = .ok (.getfield 9, 3) := by decide +kernel
theorem dX7_beside_25 : decode cX7_beside 25 = .ok (.iload_n 1, 1) := by decide +kernel
theorem dX7_beside_26 : decode cX7_beside 26 = .ok (.iaload, 1) := by decide +kernel
theorem dX7_beside_27 : decode cX7_beside 27 = .ok (.aload_n 0, 1) := by decide +kernel
theorem dX7_beside_28 : decode cX7_beside 28 = .ok (.getfield 9, 3) := by decide +kernel
theorem dX7_beside_31 : decode cX7_beside 31 = .ok (.iload_n 2, 1) := by decide +kernel
theorem dX7_beside_32 : decode cX7_beside 32 = .ok (.iaload, 1) := by decide +kernel
theorem dX7_beside_33 : decode cX7_beside 33 = .ok (.if_icmp .eq 5, 3) := by decide +kernel
theorem dX7_beside_36 : decode cX7_beside 36 = .ok (.iconst 0, 1) := by decide +kernel
theorem dX7_beside_37 : decode cX7_beside 37 = .ok (.ireturn, 1) := by decide +kernel
theorem dX7_beside_38 : decode cX7_beside 38 = .ok (.iconst 0, 1) := by decide +kernel
theorem dX7_beside_39 : decode cX7_beside 39 = .ok (.istore 4, 2) := by decide +kernel
theorem dX7_beside_41 : decode cX7_beside 41 = .ok (.iload 4, 2) := by decide +kernel
theorem dX7_beside_43 : decode cX7_beside 43 = .ok (.aload_n 0, 1) := by decide +kernel
theorem dX7_beside_44 : decode cX7_beside 44 = .ok (.getfield 93, 3) := by decide +kernel
theorem dX7_beside_47 : decode cX7_beside 47 = .ok (.if_icmp .ge 30, 3) := by decide +kernel
theorem dX7_beside_50 : decode cX7_beside 50 = .ok (.aload_n 0, 1) := by decide +kernel
theorem dX7_beside_51 : decode cX7_beside 51 = .ok (.iload_n 1, 1) := by decide +kernel
theorem dX7_beside_52 : decode cX7_beside 52 = .ok (.iload 4, 2) := by decide +kernel
theorem dX7_beside_54 : decode cX7_beside 54 = .ok (.invokevirtual 118, 3) := by decide +kernel
theorem dX7_beside_57 : decode cX7_beside 57 = .ok (.aload_n 0, 1) := by decide +kernel
theorem dX7_beside_58 : decode cX7_beside 58 = .ok (.iload_n 2, 1) := by decide +kernel
theorem dX7_beside_59 : decode cX7_beside 59 = .ok (.iload 4, 2) := by decide +kernel
theorem dX7_beside_61 : decode cX7_beside 61 = .ok (.invokevirtual 118, 3) := by decide +kernel
theorem dX7_beside_64 : decode cX7_beside 64 = .ok (.iadd, 1) := by decide +kernel
theorem dX7_beside_65 : decode cX7_beside 65 = .ok (.iconst 4, 1) := by decide +kernel
theorem dX7_beside_66 : decode cX7_beside 66 = .ok (.if_icmp .le 5, 3) := by decide +kernel
theorem dX7_beside_69 : decode cX7_beside 69 = .ok (.iconst 0, 1) := by decide +kernel
theorem dX7_beside_70 : decode cX7_beside 70 = .ok (.ireturn, 1) := by decide +kernel
theorem dX7_beside_71 : decode cX7_beside 71 = .ok (.iinc 4 1, 3) := by decide +kernel
theorem dX7_beside_74 : decode cX7_beside 74 = .ok (.goto (-33), 3) := by decide +kernel
theorem dX7_beside_77 : decode cX7_beside 77 = .ok (.aload_n 0, 1) := by decide +kernel
theorem dX7_beside_78 : decode cX7_beside 78 = .ok (.iload_n 1, 1) := by decide +kernel
theorem dX7_beside_79 : decode cX7_beside 79 = .ok (.invokevirtual 139, 3) := by decide +kernel
theorem dX7_beside_82 : decode cX7_beside 82 = .ok (.iconst 0, 1) := by decide +kernel
theorem dX7_beside_83 : decode cX7_beside 83 = .ok (.istore 4, 2) := by decide +kernel
theorem dX7_beside_85 : decode cX7_beside 85 = .ok (.iload 4, 2) := by decide +kernel
theorem dX7_beside_87 : decode cX7_beside 87 = .ok (.aload_n 0, 1) := by decide +kernel
theorem dX7_beside_88 : decode cX7_beside 88 = .ok (.getfield 93, 3) := by decide +kernel
theorem dX7_beside_91 : decode cX7_beside 91 = .ok (.if_icmp .ge 26, 3) := by decide +kernel
theorem dX7_beside_94 : decode cX7_beside 94 = .ok (.aload_n 0, 1) := by decide +kernel
theorem dX7_beside_95 : decode cX7_beside 95 = .ok (.getfield 19, 3) := by decide +kernel
theorem dX7_beside_98 : decode cX7_beside 98 = .ok (.iload 4, 2) := by decide +kernel
theorem dX7_beside_100 : decode cX7_beside 100 = .ok (.dup2, 1) := by decide +kernel
theorem dX7_beside_101 : decode cX7_beside 101 = .ok (.iaload, 1) := by decide +kernel
theorem dX7_beside_102 : decode cX7_beside 102 = .ok (.aload_n 0, 1) := by decide +kernel
theorem dX7_beside_103 : decode cX7_beside 103 = .ok (.iload_n 2, 1) := by decide +kernel
theorem dX7_beside_104 : decode cX7_beside 104 = .ok (.iload 4, 2) := by decide +kernel
theorem dX7_beside_106 : decode cX7_beside 106 = .ok (.invokevirtual 118, 3) := by decide +kernel
theorem dX7_beside_109 : decode cX7_beside 109 = .ok (.iadd, 1) := by decide +kernel
theorem dX7_beside_110 : decode cX7_beside 110 = .ok (.iastore, 1) := by decide +kernel
theorem dX7_beside_111 : decode cX7_beside 111 = .ok (.iinc 4 1, 3) := by decide +kernel
theorem dX7_beside_114 : decode cX7_beside 114 = .ok (.goto (-29), 3) := by decide +kernel
theorem dX7_beside_117 : decode cX7_beside 117 = .ok (.iconst 0, 1) := by decide +kernel
theorem dX7_beside_118 : decode cX7_beside 118 = .ok (.istore 4, 2) := by decide +kernel
theorem dX7_beside_120 : decode cX7_beside 120 = .ok (.iload 4, 2) := by decide +kernel
theorem dX7_beside_122 : decode cX7_beside 122 = .ok (.aload_n 0, 1) := by decide +kernel
theorem dX7_beside_123 : decode cX7_beside 123 = .ok (.getfield 93, 3) := by decide +kernel
theorem dX7_beside_126 : decode cX7_beside 126 = .ok (.iconst 1, 1) := by decide +kernel
theorem dX7_beside_127 : decode cX7_beside 127 = .ok (.isub, 1) := by decide +kernel
theorem dX7_beside_128 : decode cX7_beside 128 = .ok (.if_icmp .ge 115, 3) := by decide +kernel
theorem dX7_beside_131 : decode cX7_beside 131 = .ok (.aload_n 0, 1) := by decide +kernel
theorem dX7_beside_132 : decode cX7_beside 132 = .ok (.iload_n 1, 1) := by decide +kernel
theorem dX7_beside_133 : decode cX7_beside 133 = .ok (.iload 4, 2) := by decide +kernel
theorem dX7_beside_135 : decode cX7_beside 135 = .ok (.invokevirtual 121, 3) := by decide +kernel
theorem dX7_beside_138 : decode cX7_beside 138 = .ok (.istore 5, 2) := by decide +kernel
theorem dX7_beside_140 : decode cX7_beside 140 = .ok (.aload_n 0, 1) := by decide +kernel
theorem dX7_beside_141 : decode cX7_beside 141 = .ok (.iload_n 1, 1) := by decide +kernel
theorem dX7_beside_142 : decode cX7_beside 142 = .ok (.iload 4, 2) := by decide +kernel
theorem dX7_beside_144 : decode cX7_beside 144 = .ok (.invokevirtual 115, 3) := by decide +kernel
theorem dX7_beside_147 : decode cX7_beside 147 = .ok (.istore 6, 2) := by decide +kernel
theorem dX7_beside_149 : decode cX7_beside 149 = .ok (.iconst 0, 1) := by decide +kernel
theorem dX7_beside_150 : decode cX7_beside 150 = .ok (.istore 7, 2) := by decide +kernel
theorem dX7_beside_152 : decode cX7_beside 152 = .ok (.iload 7, 2) := by decide +kernel
theorem dX7_beside_154 : decode cX7_beside 154 = .ok (.aload_n 0, 1) := by decide +kernel
theorem dX7_beside_155 : decode cX7_beside 155 = .ok (.iload_n 2, 1) := by decide +kernel
theorem dX7_beside_156 : decode cX7_beside 156 = .ok (.iload 6, 2) := by decide +kernel
theorem dX7_beside_158 : decode cX7_beside 158 = .ok (.invokevirtual 118, 3) := by decide +kernel
theorem dX7_beside_161 : decode cX7_beside 161 = .ok (.if_icmp .ge 76, 3) := by decide +kernel
theorem dX7_beside_164 : decode cX7_beside 164 = .ok (.iconst 0, 1) := by decide +kernel
theorem dX7_beside_165 : decode cX7_beside 165 = .ok (.istore 8, 2) := by decide +kernel
theorem dX7_beside_167 : decode cX7_beside 167 = .ok (.iload 8, 2) := by decide +kernel
theorem dX7_beside_169 : decode cX7_beside 169 = .ok (.aload_n 0, 1) := by decide +kernel
theorem dX7_beside_170 : decode cX7_beside 170 = .ok (.iload_n 2, 1) := by decide +kernel
theorem dX7_beside_171 : decode cX7_beside 171 = .ok (.iload 5, 2) := by decide +kernel
theorem dX7_beside_173 : decode cX7_beside 173 = .ok (.invokevirtual 118, 3) := by decide +kernel
theorem dX7_beside_176 : decode cX7_beside 176 = .ok (.if_icmp .ge 55, 3) := by decide +kernel
theorem dX7_beside_179 : decode cX7_beside 179 = .ok (.aload_n 0, 1) := by decide +kernel
theorem dX7_beside_180 : decode cX7_beside 180 = .ok (.getfield 22, 3) := by decide +kernel
theorem dX7_beside_183 : decode cX7_beside 183 = .ok (.iconst 0, 1) := by decide +kernel
theorem dX7_beside_184 : decode cX7_beside 184 = .ok (.iload 4, 2) := by decide +kernel
theorem dX7_beside_186 : decode cX7_beside 186 = .ok (.aload_n 0, 1) := by decide +kernel
theorem dX7_beside_187 : decode cX7_beside 187 = .ok (.iload_n 1, 1) := by decide +kernel
theorem dX7_beside_188 : decode cX7_beside 188 = .ok (.iload 6, 2) := by decide +kernel
theorem dX7_beside_190 : decode cX7_beside 190 = .ok (.invokevirtual 118, 3) := by decide +kernel
theorem dX7_beside_193 : decode cX7_beside 193 = .ok (.iload 7, 2) := by decide +kernel
theorem dX7_beside_195 : decode cX7_beside 195 = .ok (.iadd, 1) := by decide +kernel
theorem dX7_beside_196 : decode cX7_beside 196 = .ok (.aload_n 0, 1) := by decide +kernel
theorem dX7_beside_197 : decode cX7_beside 197 = .ok (.iload_n 1, 1) := by decide +kernel
theorem dX7_beside_198 : decode cX7_beside 198 = .ok (.iload 5, 2) := by decide +kernel
theorem dX7_beside_200 : decode cX7_beside 200 = .ok (.invokevirtual 118, 3) := by decide +kernel
theorem dX7_beside_203 : decode cX7_beside 203 = .ok (.iload 8, 2) := by decide +kernel
theorem dX7_beside_205 : decode cX7_beside 205 = .ok (.iadd, 1) := by decide +kernel
theorem dX7_beside_206 : decode cX7_beside 206 = .ok (.invokestatic 128, 3) := by decide +kernel
theorem dX7_beside_209 : decode cX7_beside 209 = .ok (.aload_n 0, 1) := by decide +kernel
theorem dX7_beside_210 : decode cX7_beside 210 = .ok (.getfield 16, 3) := by decide +kernel
theorem dX7_beside_213 : decode cX7_beside 213 = .ok (.iload_n 2, 1) := by decide +kernel
theorem dX7_beside_214 : decode cX7_beside 214 = .ok (.iload 4, 2) := by decide +kernel
theorem dX7_beside_216 : decode cX7_beside 216 = .ok (.iload 7, 2) := by decide +kernel
theorem dX7_beside_218 : decode cX7_beside 218 = .ok (.iload 8, 2) := by decide +kernel
theorem dX7_beside_220 : decode cX7_beside 220 = .ok (.invokestatic 128, 3) := by decide +kernel
theorem dX7_beside_223 : decode cX7_beside 223 = .ok (.iaload, 1) := by decide +kernel
theorem dX7_beside_224 : decode cX7_beside 224 = .ok (.iastore, 1) := by decide +kernel
theorem dX7_beside_225 : decode cX7_beside 225 = .ok (.iinc 8 1, 3) := by decide +kernel
theorem dX7_beside_228 : decode cX7_beside 228 = .ok (.goto (-61), 3) := by decide +kernel
theorem dX7_beside_231 : decode cX7_beside 231 = .ok (.iinc 7 1, 3) := by decide +kernel
theorem dX7_beside_234 : decode cX7_beside 234 = .ok (.goto (-82), 3) := by decide +kernel
theorem dX7_beside_237 : decode cX7_beside 237 = .ok (.iinc 4 1, 3) := by decide +kernel
theorem dX7_beside_240 : decode cX7_beside 240 = .ok (.goto (-120), 3) := by decide +kernel
theorem dX7_beside_243 : decode cX7_beside 243 = .ok (.aload_n 0, 1) := by decide +kernel
theorem dX7_beside_244 : decode cX7_beside 244 = .ok (.iload_n 3, 1) := by decide +kernel
theorem dX7_beside_245 : decode cX7_beside 245 = .ok (.aload_n 0, 1) := by decide +kernel
theorem dX7_beside_246 : decode cX7_beside 246 = .ok (.getfield 9, 3) := by decide +kernel
theorem dX7_beside_249 : decode cX7_beside 249 = .ok (.iload_n 1, 1) := by decide +kernel
theorem dX7_beside_250 : decode cX7_beside 250 = .ok (.iaload, 1) := by decide +kernel
theorem dX7_beside_251 : decode cX7_beside 251 = .ok (.invokevirtual 143, 3) := by decide +kernel
theorem dX7_beside_254 : decode cX7_beside 254 = .ok (.iconst 1, 1) := by decide +kernel
theorem dX7_beside_255 : decode cX7_beside 255 = .ok (.ireturn, 1) := by decide +kernel
theorem dX7_mix_0 : decode cX7_mix 0 = .ok (.iload_n 1, 1) := by decide +kernel
theorem dX7_mix_1 : decode cX7_mix 1 = .ok (.invokestatic 104, 3) := by decide +kernel
theorem dX7_mix_4 : decode cX7_mix 4 = .ok (.ifCond .eq 65, 3) := by decide +kernel
theorem dX7_mix_7 : decode cX7_mix 7 = .ok (.aload_n 0, 1) := by decide +kernel
theorem dX7_mix_8 : decode cX7_mix 8 = .ok (.iload_n 2, 1) := by decide +kernel
theorem dX7_mix_9 : decode cX7_mix 9 = .ok (.invokevirtual 136, 3) := by decide +kernel
theorem dX7_mix_12 : decode cX7_mix 12 = .ok (.ifCond .eq 57, 3) := by decide +kernel
theorem dX7_mix_15 : decode cX7_mix 15 = .ok (.iload_n 3, 1) := by decide +kernel
theorem dX7_mix_16 : decode cX7_mix 16 = .ok (.iconst 0, 1) := by decide +kernel
theorem dX7_mix_17 : decode cX7_mix 17 = .ok (.aload_n 0, 1) := by decide +kernel
theorem dX7_mix_18 : decode cX7_mix 18 = .ok (.iload_n 1, 1) := by decide +kernel
theorem dX7_mix_19 : decode cX7_mix 19 = .ok (.iload_n 2, 1) := by decide +kernel
theorem dX7_mix_20 : decode cX7_mix 20 = .ok (.invokevirtual 118, 3) := by decide +kernel
theorem dX7_mix_23 : decode cX7_mix 23 = .ok (.iconst 1, 1) := by decide +kernel
theorem dX7_mix_24 : decode cX7_mix 24 = .ok (.isub, 1) := by decide +kernel
theorem dX7_mix_25 : decode cX7_mix 25 = .ok (.invokestatic 96, 3) := by decide +kernel
theorem dX7_mix_28 : decode cX7_mix 28 = .ok (.ifCond .eq 41, 3) := by decide +kernel
theorem dX7_mix_31 : decode cX7_mix 31 = .ok (.iload 4, 2) := by decide +kernel
theorem dX7_mix_33 : decode cX7_mix 33 = .ok (.iconst 0, 1) := by decide +kernel
theorem dX7_mix_34 : decode cX7_mix 34 = .ok (.aload_n 0, 1) := by decide +kernel
theorem dX7_mix_35 : decode cX7_mix 35 = .ok (.iload_n 1, 1) := by decide +kernel
theorem dX7_mix_36 : decode cX7_mix 36 = .ok (.iload_n 2, 1) := by decide +kernel
theorem dX7_mix_37 : decode cX7_mix 37 = .ok (.invokevirtual 118, 3) := by decide +kernel
theorem dX7_mix_40 : decode cX7_mix 40 = .ok (.iconst 1, 1) := by decide +kernel
theorem dX7_mix_41 : decode cX7_mix 41 = .ok (.isub, 1) := by decide +kernel
theorem dX7_mix_42 : decode cX7_mix 42 = .ok (.invokestatic 96, 3) := by decide +kernel
theorem dX7_mix_45 : decode cX7_mix 45 = .ok (.ifCond .eq 24, 3) := by decide +kernel
theorem dX7_mix_48 : decode cX7_mix 48 = .ok (.iload_n 3, 1) := by decide +kernel
theorem dX7_mix_49 : decode cX7_mix 49 = .ok (.iload 4, 2) := by decide +kernel
theorem dX7_mix_51 : decode cX7_mix 51 = .ok (.if_icmp .eq 18, 3) := by decide +kernel
theorem dX7_mix_54 : decode cX7_mix 54 = .ok (.iload 5, 2) := by decide +kernel
theorem dX7_mix_56 : decode cX7_mix 56 = .ok (.iconst 0, 1) := by decide +kernel
theorem dX7_mix_57 : decode cX7_mix 57 = .ok (.aload_n 0, 1) := by decide +kernel
theorem dX7_mix_58 : decode cX7_mix 58 = .ok (.getfield 80, 3) := by decide +kernel
theorem dX7_mix_61 : decode cX7_mix 61 = .ok (.iconst 1, 1) := by decide +kernel
theorem dX7_mix_62 : decode cX7_mix 62 = .ok (.isub, 1) := by decide +kernel
theorem dX7_mix_63 : decode cX7_mix 63 = .ok (.invokestatic 96, 3) := by decide +kernel
theorem dX7_mix_66 : decode cX7_mix 66 = .ok (.ifCond .ne 5, 3) := by decide +kernel
theorem dX7_mix_69 : decode cX7_mix 69 = .ok (.iconst 0, 1) := by decide +kernel
theorem dX7_mix_70 : decode cX7_mix 70 = .ok (.ireturn, 1) := by decide +kernel
theorem dX7_mix_71 : decode cX7_mix 71 = .ok (.iload_n 2, 1) := by decide +kernel
theorem dX7_mix_72 : decode cX7_mix 72 = .ok (.iconst 1, 1) := by decide +kernel
theorem dX7_mix_73 : decode cX7_mix 73 = .ok (.isub, 1) := by decide +kernel
theorem dX7_mix_74 : decode cX7_mix 74 = .ok (.istore 6, 2) := by decide +kernel
theorem dX7_mix_76 : decode cX7_mix 76 = .ok (.iload 6, 2) := by decide +kernel
theorem dX7_mix_78 : decode cX7_mix 78 = .ok (.iload_n 2, 1) := by decide +kernel
theorem dX7_mix_79 : decode cX7_mix 79 = .ok (.if_icmp .gt 197, 3) := by decide +kernel
theorem dX7_mix_82 : decode cX7_mix 82 = .ok (.iload 6, 2) := by decide +kernel
theorem dX7_mix_84 : decode cX7_mix 84 = .ok (.ifCond .lt 186, 3) := by decide +kernel
theorem dX7_mix_87 : decode cX7_mix 87 = .ok (.iload 6, 2) := by decide +kernel
theorem dX7_mix_89 : decode cX7_mix 89 = .ok (.aload_n 0, 1) := by decide +kernel
theorem dX7_mix_90 : decode cX7_mix 90 = .ok (.getfield 93, 3) := by decide +kernel
theorem dX7_mix_93 : decode cX7_mix 93 = .ok (.iconst 2, 1) := by decide +kernel
theorem dX7_mix_94 : decode cX7_mix 94 = .ok (.isub, 1) := by decide +kernel
theorem dX7_mix_95 : decode cX7_mix 95 = .ok (.if_icmp .le 6, 3) := by decide +kernel
theorem dX7_mix_98 : decode cX7_mix 98 = .ok (.goto 172, 3) := by decide +kernel
theorem dX7_mix_101 : decode cX7_mix 101 = .ok (.aload_n 0, 1) := by decide +kernel
theorem dX7_mix_102 : decode cX7_mix 102 = .ok (.iload_n 1, 1) := by decide +kernel
theorem dX7_mix_103 : decode cX7_mix 103 = .ok (.iload 6, 2) := by decide +kernel
theorem dX7_mix_105 : decode cX7_mix 105 = .ok (.invokevirtual 115, 3) := by decide +kernel
theorem dX7_mix_108 : decode cX7_mix 108 = .ok (.iload_n 2, 1) := by decide +kernel
theorem dX7_mix_109 : decode cX7_mix 109 = .ok (.if_icmp .ne 83, 3) := by decide +kernel
theorem dX7_mix_112 : decode cX7_mix 112 = .ok (.iconst 0, 1) := by decide +kernel
theorem dX7_mix_113 : decode cX7_mix 113 = .ok (.istore 7, 2) := by decide +kernel
theorem dX7_mix_115 : decode cX7_mix 115 = .ok (.iload 7, 2) := by decide +kernel
theorem dX7_mix_117 : decode cX7_mix 117 = .ok (.aload_n 0, 1) := by decide +kernel
theorem dX7_mix_118 : decode cX7_mix 118 = .ok (.iload_n 1, 1) := by decide +kernel
theorem dX7_mix_119 : decode cX7_mix 119 = .ok (.aload_n 0, 1) := by decide +kernel
theorem dX7_mix_120 : decode cX7_mix 120 = .ok (.iload_n 1, 1) := by decide +kernel
theorem dX7_mix_121 : decode cX7_mix 121 = .ok (.iload 6, 2) := by decide +kernel
theorem dX7_mix_123 : decode cX7_mix 123 = .ok (.invokevirtual 121, 3) := by decide +kernel
theorem dX7_mix_126 : decode cX7_mix 126 = .ok (.invokevirtual 118, 3) := by decide +kernel
theorem dX7_mix_129 : decode cX7_mix 129 = .ok (.if_icmp .ge 60, 3) := by decide +kernel
theorem dX7_mix_132 : decode cX7_mix 132 = .ok (.aload_n 0, 1) := by decide +kernel
theorem dX7_mix_133 : decode cX7_mix 133 = .ok (.getfield 16, 3) := by decide +kernel
theorem dX7_mix_136 : decode cX7_mix 136 = .ok (.iload_n 1, 1) := by decide +kernel
theorem dX7_mix_137 : decode cX7_mix 137 = .ok (.iload 6, 2) := by decide +kernel
theorem dX7_mix_139 : decode cX7_mix 139 = .ok (.iload_n 3, 1) := by decide +kernel
theorem dX7_mix_140 : decode cX7_mix 140 = .ok (.iload 7, 2) := by decide +kernel
theorem dX7_mix_142 : decode cX7_mix 142 = .ok (.invokestatic 128, 3) := by decide +kernel
theorem dX7_mix_145 : decode cX7_mix 145 = .ok (.aload_n 0, 1) := by decide +kernel
theorem dX7_mix_146 : decode cX7_mix 146 = .ok (.aload_n 0, 1) := by decide +kernel
theorem dX7_mix_147 : decode cX7_mix 147 = .ok (.getfield 16, 3) := by decide +kernel
theorem dX7_mix_150 : decode cX7_mix 150 = .ok (.iload_n 1, 1) := by decide +kernel
theorem dX7_mix_151 : decode cX7_mix 151 = .ok (.iload 6, 2) := by decide +kernel
theorem dX7_mix_153 : decode cX7_mix 153 = .ok (.iload_n 3, 1) := by decide +kernel
theorem dX7_mix_154 : decode cX7_mix 154 = .ok (.iload 7, 2) := by decide +kernel
theorem dX7_mix_156 : decode cX7_mix 156 = .ok (.invokestatic 128, 3) := by decide +kernel
theorem dX7_mix_159 : decode cX7_mix 159 = .ok (.iaload, 1) := by decide +kernel
theorem dX7_mix_160 : decode cX7_mix 160 = .ok (.iload 5, 2) := by decide +kernel
theorem dX7_mix_162 : decode cX7_mix 162 = .ok (.aload_n 0, 1) := by decide +kernel
theorem dX7_mix_163 : decode cX7_mix 163 = .ok (.getfield 16, 3) := by decide +kernel
theorem dX7_mix_166 : decode cX7_mix 166 = .ok (.iload_n 1, 1) := by decide +kernel
theorem dX7_mix_167 : decode cX7_mix 167 = .ok (.iload 6, 2) := by decide +kernel
theorem dX7_mix_169 : decode cX7_mix 169 = .ok (.iload 4, 2) := by decide +kernel
theorem dX7_mix_171 : decode cX7_mix 171 = .ok (.iload 7, 2) := by decide +kernel
theorem dX7_mix_173 : decode cX7_mix 173 = .ok (.invokestatic 128, 3) := by decide +kernel
theorem dX7_mix_176 : decode cX7_mix 176 = .ok (.iaload, 1) := by decide +kernel
theorem dX7_mix_177 : decode cX7_mix 177 = .ok (.imul, 1) := by decide +kernel
theorem dX7_mix_178 : decode cX7_mix 178 = .ok (.iadd, 1) := by decide +kernel
theorem dX7_mix_179 : decode cX7_mix 179 = .ok (.invokevirtual 132, 3) := by decide +kernel
theorem dX7_mix_182 : decode cX7_mix 182 = .ok (.iastore, 1) := by decide +kernel
theorem dX7_mix_183 : decode cX7_mix 183 = .ok (.iinc 7 1, 3) := by decide +kernel
theorem dX7_mix_186 : decode cX7_mix 186 = .ok (.goto (-71), 3) := by decide +kernel
theorem dX7_mix_189 : decode cX7_mix 189 = .ok (.goto 81, 3) := by decide +kernel
theorem dX7_mix_192 : decode cX7_mix 192 = .ok (.iconst 0, 1) := by decide +kernel
theorem dX7_mix_193 : decode cX7_mix 193 = .ok (.istore 7, 2) := by decide +kernel
theorem dX7_mix_195 : decode cX7_mix 195 = .ok (.iload 7, 2) := by decide +kernel
theorem dX7_mix_197 : decode cX7_mix 197 = .ok (.aload_n 0, 1) := by decide +kernel
theorem dX7_mix_198 : decode cX7_mix 198 = .ok (.iload_n 1, 1) := by decide +kernel
theorem dX7_mix_199 : decode cX7_mix 199 = .ok (.aload_n 0, 1) := by decide +kernel
theorem dX7_mix_200 : decode cX7_mix 200 = .ok (.iload_n 1, 1) := by decide +kernel
theorem dX7_mix_201 : decode cX7_mix 201 = .ok (.iload 6, 2) := by decide +kernel
theorem dX7_mix_203 : decode cX7_mix 203 = .ok (.invokevirtual 115, 3) := by decide +kernel
theorem dX7_mix_206 : decode cX7_mix 206 = .ok (.invokevirtual 118, 3) := by decide +kernel
theorem dX7_mix_209 : decode cX7_mix 209 = .ok (.if_icmp .ge 61, 3) := by decide +kernel
theorem dX7_mix_212 : decode cX7_mix 212 = .ok (.aload_n 0, 1) := by decide +kernel
theorem dX7_mix_213 : decode cX7_mix 213 = .ok (.getfield 16, 3) := by decide +kernel
theorem dX7_mix_216 : decode cX7_mix 216 = .ok (.iload_n 1, 1) := by decide +kernel
theorem dX7_mix_217 : decode cX7_mix 217 = .ok (.iload 6, 2) := by decide +kernel
theorem dX7_mix_219 : decode cX7_mix 219 = .ok (.iload 7, 2) := by decide +kernel
theorem dX7_mix_221 : decode cX7_mix 221 = .ok (.iload 4, 2) := by decide +kernel
theorem dX7_mix_223 : decode cX7_mix 223 = .ok (.invokestatic 128, 3) := by decide +kernel
theorem dX7_mix_226 : decode cX7_mix 226 = .ok (.aload_n 0, 1) := by decide +kernel
theorem dX7_mix_227 : decode cX7_mix 227 = .ok (.aload_n 0, 1) := by decide +kernel
theorem dX7_mix_228 : decode cX7_mix 228 = .ok (.getfield 16, 3) := by decide +kernel
theorem dX7_mix_231 : decode cX7_mix 231 = .ok (.iload_n 1, 1) := by decide +kernel
theorem dX7_mix_232 : decode cX7_mix 232 = .ok (.iload 6, 2) := by decide +kernel
theorem dX7_mix_234 : decode cX7_mix 234 = .ok (.iload 7, 2) := by decide +kernel
theorem dX7_mix_236 : decode cX7_mix 236 = .ok (.iload 4, 2) := by decide +kernel
theorem dX7_mix_238 : decode cX7_mix 238 = .ok (.invokestatic 128, 3) := by decide +kernel
theorem dX7_mix_241 : decode cX7_mix 241 = .ok (.iaload, 1) := by decide +kernel
theorem dX7_mix_242 : decode cX7_mix 242 = .ok (.iload 5, 2) := by decide +kernel
theorem dX7_mix_244 : decode cX7_mix 244 = .ok (.aload_n 0, 1) := by decide +kernel
theorem dX7_mix_245 : decode cX7_mix 245 = .ok (.getfield 16, 3) := by decide +kernel
theorem dX7_mix_248 : decode cX7_mix 248 = .ok (.iload_n 1, 1) := by decide +kernel
theorem dX7_mix_249 : decode cX7_mix 249 = .ok (.iload 6, 2) := by decide +kernel
theorem dX7_mix_251 : decode cX7_mix 251 = .ok (.iload 7, 2) := by decide +kernel
theorem dX7_mix_253 : decode cX7_mix 253 = .ok (.iload_n 3, 1) := by decide +kernel
theorem dX7_mix_254 : decode cX7_mix 254 = .ok (.invokestatic 128, 3) := by decide +kernel
theorem dX7_mix_257 : decode cX7_mix 257 = .ok (.iaload, 1) := by decide +kernel
theorem dX7_mix_258 : decode cX7_mix 258 = .ok (.imul, 1) := by decide +kernel
theorem dX7_mix_259 : decode cX7_mix 259 = .ok (.isub, 1) := by decide +kernel
theorem dX7_mix_260 : decode cX7_mix 260 = .ok (.invokevirtual 132, 3) := by decide +kernel
theorem dX7_mix_263 : decode cX7_mix 263 = .ok (.iastore, 1) := by decide +kernel
theorem dX7_mix_264 : decode cX7_mix 264 = .ok (.iinc 7 1, 3) := by decide +kernel
theorem dX7_mix_267 : decode cX7_mix 267 = .ok (.goto (-72), 3) := by decide +kernel
theorem dX7_mix_270 : decode cX7_mix 270 = .ok (.iinc 6 1, 3) := by decide +kernel
theorem dX7_mix_273 : decode cX7_mix 273 = .ok (.goto (-197), 3) := by decide +kernel
theorem dX7_mix_276 : decode cX7_mix 276 = .ok (.iconst 1, 1) := by decide +kernel
theorem dX7_mix_277 : decode cX7_mix 277 = .ok (.ireturn, 1) := by decide +kernel
theorem dX7_begin_0 : decode cX7_begin 0 = .ok (.aload_n 0, 1) := by decide +kernel
theorem dX7_begin_1 : decode cX7_begin 1 = .ok (.iconst 0, 1) := by decide +kernel
theorem dX7_begin_2 : decode cX7_begin 2 = .ok (.putfield 146, 3) := by decide +kernel
theorem dX7_begin_5 : decode cX7_begin 5 = .ok (.aload_n 0, 1) := by decide +kernel
theorem dX7_begin_6 : decode cX7_begin 6 = .ok (.iload_n 1, 1) := by decide +kernel
theorem dX7_begin_7 : decode cX7_begin 7 = .ok (.putfield 149, 3) := by decide +kernel
theorem dX7_begin_10 : decode cX7_begin 10 = .ok (.return_, 1) := by decide +kernel
theorem dX7_newRow_0 : decode cX7_newRow 0 = .ok (.aload_n 0, 1) := by decide +kernel
theorem dX7_newRow_1 : decode cX7_newRow 1 = .ok (.getfield 27, 3) := by decide +kernel
theorem dX7_newRow_4 : decode cX7_newRow 4 = .ok (.aload_n 0, 1) := by decide +kernel
theorem dX7_newRow_5 : decode cX7_newRow 5 = .ok (.getfield 146, 3) := by decide +kernel
theorem dX7_newRow_8 : decode cX7_newRow 8 = .ok (.aaload, 1) := by decide +kernel
theorem dX7_newRow_9 : decode cX7_newRow 9 = .ok (.astore_n 1, 1) := by decide +kernel
theorem dX7_newRow_10 : decode cX7_newRow 10 = .ok (.iconst 0, 1) := by decide +kernel
theorem dX7_newRow_11 : decode cX7_newRow 11 = .ok (.istore_n 2, 1) := by decide +kernel
theorem dX7_newRow_12 : decode cX7_newRow 12 = .ok (.iload_n 2, 1) := by decide +kernel
theorem dX7_newRow_13 : decode cX7_newRow 13 = .ok (.aload_n 0, 1) := by decide +kernel
theorem dX7_newRow_14 : decode cX7_newRow 14 = .ok (.getfield 149, 3) := by decide +kernel
theorem dX7_newRow_17 : decode cX7_newRow 17 = .ok (.if_icmp .ge 13, 3) := by decide +kernel
theorem dX7_newRow_20 : decode cX7_newRow 20 = .ok (.aload_n 1, 1) := by decide +kernel
theorem dX7_newRow_21 : decode cX7_newRow 21 = .ok (.iload_n 2, 1) := by decide +kernel
theorem dX7_newRow_22 : decode cX7_newRow 22 = .ok (.iconst 0, 1) := by decide +kernel
theorem dX7_newRow_23 : decode cX7_newRow 23 = .ok (.iastore, 1) := by decide +kernel
theorem dX7_newRow_24 : decode cX7_newRow 24 = .ok (.iinc 2 1, 3) := by decide +kernel
theorem dX7_newRow_27 : decode cX7_newRow 27 = .ok (.goto (-15), 3) := by decide +kernel
theorem dX7_newRow_30 : decode cX7_newRow 30 = .ok (.aload_n 0, 1) := by decide +kernel
theorem dX7_newRow_31 : decode cX7_newRow 31 = .ok (.dup, 1) := by decide +kernel
theorem dX7_newRow_32 : decode cX7_newRow 32 = .ok (.getfield 146, 3) := by decide +kernel
theorem dX7_newRow_35 : decode cX7_newRow 35 = .ok (.iconst 1, 1) := by decide +kernel
theorem dX7_newRow_36 : decode cX7_newRow 36 = .ok (.iadd, 1) := by decide +kernel
theorem dX7_newRow_37 : decode cX7_newRow 37 = .ok (.putfield 146, 3) := by decide +kernel
theorem dX7_newRow_40 : decode cX7_newRow 40 = .ok (.aload_n 1, 1) := by decide +kernel
theorem dX7_newRow_41 : decode cX7_newRow 41 = .ok (.areturn, 1) := by decide +kernel
theorem dX7_reduce_0 : decode cX7_reduce 0 = .ok (.iconst 0, 1) := by decide +kernel
theorem dX7_reduce_1 : decode cX7_reduce 1 = .ok (.istore_n 1, 1) := by decide +kernel
theorem dX7_reduce_2 : decode cX7_reduce 2 = .ok (.iconst 0, 1) := by decide +kernel
theorem dX7_reduce_3 : decode cX7_reduce 3 = .ok (.istore_n 2, 1) := by decide +kernel
theorem dX7_reduce_4 : decode cX7_reduce 4 = .ok (.iload_n 2, 1) := by decide +kernel
theorem dX7_reduce_5 : decode cX7_reduce 5 = .ok (.aload_n 0, 1) := by decide +kernel
theorem dX7_reduce_6 : decode cX7_reduce 6 = .ok (.getfield 149, 3) := by decide +kernel
theorem dX7_reduce_9 : decode cX7_reduce 9 = .ok (.if_icmp .ge 240, 3) := by decide +kernel
theorem dX7_reduce_12 : decode cX7_reduce 12 = .ok (.iload_n 1, 1) := by decide +kernel
theorem dX7_reduce_13 : decode cX7_reduce 13 = .ok (.aload_n 0, 1) := by decide +kernel
theorem dX7_reduce_14 : decode cX7_reduce 14 = .ok (.getfield 146, 3) := by decide +kernel
theorem dX7_reduce_17 : decode cX7_reduce 17 = .ok (.if_icmp .ge 232, 3) := by decide +kernel
theorem dX7_reduce_20 : decode cX7_reduce 20 = .ok (.iload_n 1, 1) := by decide +kernel
theorem dX7_reduce_21 : decode cX7_reduce 21 = .ok (.istore_n 3, 1) := by decide +kernel
theorem dX7_reduce_22 : decode cX7_reduce 22 = .ok (.iload_n 3, 1) := by decide +kernel
theorem dX7_reduce_23 : decode cX7_reduce 23 = .ok (.aload_n 0, 1) := by decide +kernel
theorem dX7_reduce_24 : decode cX7_reduce 24 = .ok (.getfield 146, 3) := by decide +kernel
theorem dX7_reduce_27 : decode cX7_reduce 27 = .ok (.if_icmp .ge 20, 3) := by decide +kernel
theorem dX7_reduce_30 : decode cX7_reduce 30 = .ok (.aload_n 0, 1) := by decide +kernel
theorem dX7_reduce_31 : decode cX7_reduce 31 = .ok (.getfield 27, 3) := by decide +kernel
theorem dX7_reduce_34 : decode cX7_reduce 34 = .ok (.iload_n 3, 1) := by decide +kernel
theorem dX7_reduce_35 : decode cX7_reduce 35 = .ok (.aaload, 1) := by decide +kernel
theorem dX7_reduce_36 : decode cX7_reduce 36 = .ok (.iload_n 2, 1) := by decide +kernel
theorem dX7_reduce_37 : decode cX7_reduce 37 = .ok (.iaload, 1) := by decide +kernel
theorem dX7_reduce_38 : decode cX7_reduce 38 = .ok (.ifCond .ne 9, 3) := by decide +kernel
theorem dX7_reduce_41 : decode cX7_reduce 41 = .ok (.iinc 3 1, 3) := by decide +kernel
theorem dX7_reduce_44 : decode cX7_reduce 44 = .ok (.goto (-22), 3) := by decide +kernel
theorem dX7_reduce_47 : decode cX7_reduce 47 = .ok (.iload_n 3, 1) := by decide +kernel
theorem dX7_reduce_48 : decode cX7_reduce 48 = .ok (.aload_n 0, 1) := by decide +kernel
theorem dX7_reduce_49 : decode cX7_reduce 49 = .ok (.getfield 146, 3) := by decide +kernel
theorem dX7_reduce_52 : decode cX7_reduce 52 = .ok (.if_icmp .ne 6, 3) := by decide +kernel
theorem dX7_reduce_55 : decode cX7_reduce 55 = .ok (.goto 188, 3) := by decide +kernel
theorem dX7_reduce_58 : decode cX7_reduce 58 = .ok (.aload_n 0, 1) := by decide +kernel
theorem dX7_reduce_59 : decode cX7_reduce 59 = .ok (.getfield 27, 3) := by decide +kernel
theorem dX7_reduce_62 : decode cX7_reduce 62 = .ok (.iload_n 3, 1) := by decide +kernel
theorem dX7_reduce_63 : decode cX7_reduce 63 = .ok (.aaload, 1) := by decide +kernel
theorem dX7_reduce_64 : decode cX7_reduce 64 = .ok (.astore 4, 2) := by decide +kernel
theorem dX7_reduce_66 : decode cX7_reduce 66 = .ok (.aload_n 0, 1) := by decide +kernel
theorem dX7_reduce_67 : decode cX7_reduce 67 = .ok (.getfield 27, 3) := by decide +kernel
theorem dX7_reduce_70 : decode cX7_reduce 70 = .ok (.iload_n 3, 1) := by decide +kernel
theorem dX7_reduce_71 : decode cX7_reduce 71 = .ok (.aload_n 0, 1) := by decide +kernel
theorem dX7_reduce_72 : decode cX7_reduce 72 = .ok (.getfield 27, 3) := by decide +kernel
theorem dX7_reduce_75 : decode cX7_reduce 75 = .ok (.iload_n 1, 1) := by decide +kernel
theorem dX7_reduce_76 : decode cX7_reduce 76 = .ok (.aaload, 1) := by decide +kernel
theorem dX7_reduce_77 : decode cX7_reduce 77 = .ok (.aastore, 1) := by decide +kernel
theorem dX7_reduce_78 : decode cX7_reduce 78 = .ok (.aload_n 0, 1) := by decide +kernel
theorem dX7_reduce_79 : decode cX7_reduce 79 = .ok (.getfield 27, 3) := by decide +kernel
theorem dX7_reduce_82 : decode cX7_reduce 82 = .ok (.iload_n 1, 1) := by decide +kernel
theorem dX7_reduce_83 : decode cX7_reduce 83 = .ok (.aload 4, 2) := by decide +kernel
theorem dX7_reduce_85 : decode cX7_reduce 85 = .ok (.aastore, 1) := by decide +kernel
theorem dX7_reduce_86 : decode cX7_reduce 86 = .ok (.aload_n 0, 1) := by decide +kernel
theorem dX7_reduce_87 : decode cX7_reduce 87 = .ok (.aload 4, 2) := by decide +kernel
theorem dX7_reduce_89 : decode cX7_reduce 89 = .ok (.iload_n 2, 1) := by decide +kernel
theorem dX7_reduce_90 : decode cX7_reduce 90 = .ok (.iaload, 1) := by decide +kernel
theorem dX7_reduce_91 : decode cX7_reduce 91 = .ok (.invokevirtual 152, 3) := by decide +kernel
theorem dX7_reduce_94 : decode cX7_reduce 94 = .ok (.istore 5, 2) := by decide +kernel
theorem dX7_reduce_96 : decode cX7_reduce 96 = .ok (.iconst 0, 1) := by decide +kernel
theorem dX7_reduce_97 : decode cX7_reduce 97 = .ok (.istore 6, 2) := by decide +kernel
theorem dX7_reduce_99 : decode cX7_reduce 99 = .ok (.iload 6, 2) := by decide +kernel
theorem dX7_reduce_101 : decode cX7_reduce 101 = .ok (.aload_n 0, 1) := by decide +kernel
theorem dX7_reduce_102 : decode cX7_reduce 102 = .ok (.getfield 149, 3) := by decide +kernel
theorem dX7_reduce_105 : decode cX7_reduce 105 = .ok (.if_icmp .ge 27, 3) := by decide +kernel
theorem dX7_reduce_108 : decode cX7_reduce 108 = .ok (.aload 4, 2) := by decide +kernel
theorem dX7_reduce_110 : decode cX7_reduce 110 = .ok (.iload 6, 2) := by decide +kernel
theorem dX7_reduce_112 : decode cX7_reduce 112 = .ok (.aload 4, 2) := by decide +kernel
theorem dX7_reduce_114 : decode cX7_reduce 114 = .ok (.iload 6, 2) := by decide +kernel
theorem dX7_reduce_116 : decode cX7_reduce 116 = .ok (.iaload, 1) := by decide +kernel
theorem dX7_reduce_117 : decode cX7_reduce 117 = .ok (.iload 5, 2) := by decide +kernel
theorem dX7_reduce_119 : decode cX7_reduce 119 = .ok (.imul, 1) := by decide +kernel
theorem dX7_reduce_120 : decode cX7_reduce 120 = .ok (.aload_n 0, 1) := by decide +kernel
theorem dX7_reduce_121 : decode cX7_reduce 121 = .ok (.getfield 80, 3) := by decide +kernel
theorem dX7_reduce_124 : decode cX7_reduce 124 = .ok (.irem, 1) := by decide +kernel
theorem dX7_reduce_125 : decode cX7_reduce 125 = .ok (.iastore, 1) := by decide +kernel
theorem dX7_reduce_126 : decode cX7_reduce 126 = .ok (.iinc 6 1, 3) := by decide +kernel
theorem dX7_reduce_129 : decode cX7_reduce 129 = .ok (.goto (-30), 3) := by decide +kernel
theorem dX7_reduce_132 : decode cX7_reduce 132 = .ok (.iconst 0, 1) := by decide +kernel
theorem dX7_reduce_133 : decode cX7_reduce 133 = .ok (.istore 6, 2) := by decide +kernel
theorem dX7_reduce_135 : decode cX7_reduce 135 = .ok (.iload 6, 2) := by decide +kernel
theorem dX7_reduce_137 : decode cX7_reduce 137 = .ok (.aload_n 0, 1) := by decide +kernel
theorem dX7_reduce_138 : decode cX7_reduce 138 = .ok (.getfield 146, 3) := by decide +kernel
theorem dX7_reduce_141 : decode cX7_reduce 141 = .ok (.if_icmp .ge 92, 3) := by decide +kernel
theorem dX7_reduce_144 : decode cX7_reduce 144 = .ok (.iload 6, 2) := by decide +kernel
theorem dX7_reduce_146 : decode cX7_reduce 146 = .ok (.iload_n 1, 1) := by decide +kernel
theorem dX7_reduce_147 : decode cX7_reduce 147 = .ok (.if_icmp .eq 80, 3) := by decide +kernel
theorem dX7_reduce_150 : decode cX7_reduce 150 = .ok (.aload_n 0, 1) := by decide +kernel
theorem dX7_reduce_151 : decode cX7_reduce 151 = .ok (.getfield 27, 3) := by decide +kernel
theorem dX7_reduce_154 : decode cX7_reduce 154 = .ok (.iload 6, 2) := by decide +kernel
theorem dX7_reduce_156 : decode cX7_reduce 156 = .ok (.aaload, 1) := by decide +kernel
theorem dX7_reduce_157 : decode cX7_reduce 157 = .ok (.iload_n 2, 1) := by decide +kernel
theorem dX7_reduce_158 : decode cX7_reduce 158 = .ok (.iaload, 1) := by decide +kernel
theorem dX7_reduce_159 : decode cX7_reduce 159 = .ok (.ifCond .ne 6, 3) := by decide +kernel
theorem dX7_reduce_162 : decode cX7_reduce 162 = .ok (.goto 65, 3) := by decide +kernel
theorem dX7_reduce_165 : decode cX7_reduce 165 = .ok (.aload_n 0, 1) := by decide +kernel
theorem dX7_reduce_166 : decode cX7_reduce 166 = .ok (.getfield 27, 3) := by decide +kernel
theorem dX7_reduce_169 : decode cX7_reduce 169 = .ok (.iload 6, 2) := by decide +kernel
theorem dX7_reduce_171 : decode cX7_reduce 171 = .ok (.aaload, 1) := by decide +kernel
theorem dX7_reduce_172 : decode cX7_reduce 172 = .ok (.iload_n 2, 1) := by decide +kernel
theorem dX7_reduce_173 : decode cX7_reduce 173 = .ok (.iaload, 1) := by decide +kernel
theorem dX7_reduce_174 : decode cX7_reduce 174 = .ok (.istore 7, 2) := by decide +kernel
theorem dX7_reduce_176 : decode cX7_reduce 176 = .ok (.iconst 0, 1) := by decide +kernel
theorem dX7_reduce_177 : decode cX7_reduce 177 = .ok (.istore 8, 2) := by decide +kernel
theorem dX7_reduce_179 : decode cX7_reduce 179 = .ok (.iload 8, 2) := by decide +kernel
theorem dX7_reduce_181 : decode cX7_reduce 181 = .ok (.aload_n 0, 1) := by decide +kernel
theorem dX7_reduce_182 : decode cX7_reduce 182 = .ok (.getfield 149, 3) := by decide +kernel
theorem dX7_reduce_185 : decode cX7_reduce 185 = .ok (.if_icmp .ge 42, 3) := by decide +kernel
theorem dX7_reduce_188 : decode cX7_reduce 188 = .ok (.aload_n 0, 1) := by decide +kernel
theorem dX7_reduce_189 : decode cX7_reduce 189 = .ok (.getfield 27, 3) := by decide +kernel
theorem dX7_reduce_192 : decode cX7_reduce 192 = .ok (.iload 6, 2) := by decide +kernel
theorem dX7_reduce_194 : decode cX7_reduce 194 = .ok (.aaload, 1) := by decide +kernel
theorem dX7_reduce_195 : decode cX7_reduce 195 = .ok (.iload 8, 2) := by decide +kernel
theorem dX7_reduce_197 : decode cX7_reduce 197 = .ok (.aload_n 0, 1) := by decide +kernel
theorem dX7_reduce_198 : decode cX7_reduce 198 = .ok (.aload_n 0, 1) := by decide +kernel
theorem dX7_reduce_199 : decode cX7_reduce 199 = .ok (.getfield 27, 3) := by decide +kernel
theorem dX7_reduce_202 : decode cX7_reduce 202 = .ok (.iload 6, 2) := by decide +kernel
theorem dX7_reduce_204 : decode cX7_reduce 204 = .ok (.aaload, 1) := by decide +kernel
theorem dX7_reduce_205 : decode cX7_reduce 205 = .ok (.iload 8, 2) := by decide +kernel
theorem dX7_reduce_207 : decode cX7_reduce 207 = .ok (.iaload, 1) := by decide +kernel
theorem dX7_reduce_208 : decode cX7_reduce 208 = .ok (.iload 7, 2) := by decide +kernel
theorem dX7_reduce_210 : decode cX7_reduce 210 = .ok (.aload 4, 2) := by decide +kernel
theorem dX7_reduce_212 : decode cX7_reduce 212 = .ok (.iload 8, 2) := by decide +kernel
theorem dX7_reduce_214 : decode cX7_reduce 214 = .ok (.iaload, 1) := by decide +kernel
theorem dX7_reduce_215 : decode cX7_reduce 215 = .ok (.imul, 1) := by decide +kernel
theorem dX7_reduce_216 : decode cX7_reduce 216 = .ok (.isub, 1) := by decide +kernel
theorem dX7_reduce_217 : decode cX7_reduce 217 = .ok (.invokevirtual 132, 3) := by decide +kernel
theorem dX7_reduce_220 : decode cX7_reduce 220 = .ok (.iastore, 1) := by decide +kernel
theorem dX7_reduce_221 : decode cX7_reduce 221 = .ok (.iinc 8 1, 3) := by decide +kernel
theorem dX7_reduce_224 : decode cX7_reduce 224 = .ok (.goto (-45), 3) := by decide +kernel
theorem dX7_reduce_227 : decode cX7_reduce 227 = .ok (.iinc 6 1, 3) := by decide +kernel
theorem dX7_reduce_230 : decode cX7_reduce 230 = .ok (.goto (-95), 3) := by decide +kernel
theorem dX7_reduce_233 : decode cX7_reduce 233 = .ok (.aload_n 0, 1) := by decide +kernel
theorem dX7_reduce_234 : decode cX7_reduce 234 = .ok (.getfield 30, 3) := by decide +kernel
theorem dX7_reduce_237 : decode cX7_reduce 237 = .ok (.iload_n 1, 1) := by decide +kernel
theorem dX7_reduce_238 : decode cX7_reduce 238 = .ok (.iload_n 2, 1) := by decide +kernel
theorem dX7_reduce_239 : decode cX7_reduce 239 = .ok (.iastore, 1) := by decide +kernel
theorem dX7_reduce_240 : decode cX7_reduce 240 = .ok (.iinc 1 1, 3) := by decide +kernel
theorem dX7_reduce_243 : decode cX7_reduce 243 = .ok (.iinc 2 1, 3) := by decide +kernel
theorem dX7_reduce_246 : decode cX7_reduce 246 = .ok (.goto (-242), 3) := by decide +kernel
theorem dX7_reduce_249 : decode cX7_reduce 249 = .ok (.aload_n 0, 1) := by decide +kernel
theorem dX7_reduce_250 : decode cX7_reduce 250 = .ok (.iload_n 1, 1) := by decide +kernel
theorem dX7_reduce_251 : decode cX7_reduce 251 = .ok (.putfield 146, 3) := by decide +kernel
theorem dX7_reduce_254 : decode cX7_reduce 254 = .ok (.iload_n 1, 1) := by decide +kernel
theorem dX7_reduce_255 : decode cX7_reduce 255 = .ok (.ireturn, 1) := by decide +kernel
theorem dX7_isLead_0 : decode cX7_isLead 0 = .ok (.iconst 0, 1) := by decide +kernel
theorem dX7_isLead_1 : decode cX7_isLead 1 = .ok (.istore_n 2, 1) := by decide +kernel
theorem dX7_isLead_2 : decode cX7_isLead 2 = .ok (.iload_n 2, 1) := by decide +kernel
theorem dX7_isLead_3 : decode cX7_isLead 3 = .ok (.aload_n 0, 1) := by decide +kernel
theorem dX7_isLead_4 : decode cX7_isLead 4 = .ok (.getfield 146, 3) := by decide +kernel
theorem dX7_isLead_7 : decode cX7_isLead 7 = .ok (.if_icmp .ge 21, 3) := by decide +kernel
theorem dX7_isLead_10 : decode cX7_isLead 10 = .ok (.aload_n 0, 1) := by decide +kernel
theorem dX7_isLead_11 : decode cX7_isLead 11 = .ok (.getfield 30, 3) := by decide +kernel
theorem dX7_isLead_14 : decode cX7_isLead 14 = .ok (.iload_n 2, 1) := by decide +kernel
theorem dX7_isLead_15 : decode cX7_isLead 15 = .ok (.iaload, 1) := by decide +kernel
theorem dX7_isLead_16 : decode cX7_isLead 16 = .ok (.iload_n 1, 1) := by decide +kernel
theorem dX7_isLead_17 : decode cX7_isLead 17 = .ok (.if_icmp .ne 5, 3) := by decide +kernel
theorem dX7_isLead_20 : decode cX7_isLead 20 = .ok (.iconst 1, 1) := by decide +kernel
theorem dX7_isLead_21 : decode cX7_isLead 21 = .ok (.ireturn, 1) := by decide +kernel
theorem dX7_isLead_22 : decode cX7_isLead 22 = .ok (.iinc 2 1, 3) := by decide +kernel
theorem dX7_isLead_25 : decode cX7_isLead 25 = .ok (.goto (-23), 3) := by decide +kernel
theorem dX7_isLead_28 : decode cX7_isLead 28 = .ok (.iconst 0, 1) := by decide +kernel
theorem dX7_isLead_29 : decode cX7_isLead 29 = .ok (.ireturn, 1) := by decide +kernel
theorem dX7_turn_0 : decode cX7_turn 0 = .ok (.iload_n 1, 1) := by decide +kernel
theorem dX7_turn_1 : decode cX7_turn 1 = .ok (.invokestatic 104, 3) := by decide +kernel
theorem dX7_turn_4 : decode cX7_turn 4 = .ok (.ifCond .eq 26, 3) := by decide +kernel
theorem dX7_turn_7 : decode cX7_turn 7 = .ok (.iload_n 3, 1) := by decide +kernel
theorem dX7_turn_8 : decode cX7_turn 8 = .ok (.invokestatic 104, 3) := by decide +kernel
theorem dX7_turn_11 : decode cX7_turn 11 = .ok (.ifCond .eq 19, 3) := by decide +kernel
theorem dX7_turn_14 : decode cX7_turn 14 = .ok (.aload_n 0, 1) := by decide +kernel
theorem dX7_turn_15 : decode cX7_turn 15 = .ok (.iload_n 2, 1) := by decide +kernel
theorem dX7_turn_16 : decode cX7_turn 16 = .ok (.invokevirtual 136, 3) := by decide +kernel
theorem dX7_turn_19 : decode cX7_turn 19 = .ok (.ifCond .eq 11, 3) := by decide +kernel
theorem dX7_turn_22 : decode cX7_turn 22 = .ok (.aload_n 0, 1) := by decide +kernel
theorem dX7_turn_23 : decode cX7_turn 23 = .ok (.getfield 93, 3) := by decide +kernel
theorem dX7_turn_26 : decode cX7_turn 26 = .ok (.iconst 1, 1) := by decide +kernel
theorem dX7_turn_27 : decode cX7_turn 27 = .ok (.if_icmp .ne 5, 3) := by decide +kernel
theorem dX7_turn_30 : decode cX7_turn 30 = .ok (.iconst (-1), 1) := by decide +kernel
theorem dX7_turn_31 : decode cX7_turn 31 = .ok (.ireturn, 1) := by decide +kernel
theorem dX7_turn_32 : decode cX7_turn 32 = .ok (.iload_n 2, 1) := by decide +kernel
theorem dX7_turn_33 : decode cX7_turn 33 = .ok (.ifCond .le 7, 3) := by decide +kernel
theorem dX7_turn_36 : decode cX7_turn 36 = .ok (.iconst 1, 1) := by decide +kernel
theorem dX7_turn_37 : decode cX7_turn 37 = .ok (.goto 4, 3) := by decide +kernel
theorem dX7_turn_40 : decode cX7_turn 40 = .ok (.iconst 0, 1) := by decide +kernel
theorem dX7_turn_41 : decode cX7_turn 41 = .ok (.istore 4, 2) := by decide +kernel
theorem dX7_turn_43 : decode cX7_turn 43 = .ok (.iload_n 2, 1) := by decide +kernel
theorem dX7_turn_44 : decode cX7_turn 44 = .ok (.aload_n 0, 1) := by decide +kernel
theorem dX7_turn_45 : decode cX7_turn 45 = .ok (.getfield 93, 3) := by decide +kernel
theorem dX7_turn_48 : decode cX7_turn 48 = .ok (.iconst 1, 1) := by decide +kernel
theorem dX7_turn_49 : decode cX7_turn 49 = .ok (.isub, 1) := by decide +kernel
theorem dX7_turn_50 : decode cX7_turn 50 = .ok (.if_icmp .ge 7, 3) := by decide +kernel
theorem dX7_turn_53 : decode cX7_turn 53 = .ok (.iconst 1, 1) := by decide +kernel
theorem dX7_turn_54 : decode cX7_turn 54 = .ok (.goto 4, 3) := by decide +kernel
theorem dX7_turn_57 : decode cX7_turn 57 = .ok (.iconst 0, 1) := by decide +kernel
theorem dX7_turn_58 : decode cX7_turn 58 = .ok (.istore 5, 2) := by decide +kernel
theorem dX7_turn_60 : decode cX7_turn 60 = .ok (.iload 4, 2) := by decide +kernel
theorem dX7_turn_62 : decode cX7_turn 62 = .ok (.ifCond .eq 19, 3) := by decide +kernel
theorem dX7_turn_65 : decode cX7_turn 65 = .ok (.aload_n 0, 1) := by decide +kernel
theorem dX7_turn_66 : decode cX7_turn 66 = .ok (.iload_n 1, 1) := by decide +kernel
theorem dX7_turn_67 : decode cX7_turn 67 = .ok (.iload_n 2, 1) := by decide +kernel
theorem dX7_turn_68 : decode cX7_turn 68 = .ok (.iconst 1, 1) := by decide +kernel
theorem dX7_turn_69 : decode cX7_turn 69 = .ok (.isub, 1) := by decide +kernel
theorem dX7_turn_70 : decode cX7_turn 70 = .ok (.invokevirtual 115, 3) := by decide +kernel
theorem dX7_turn_73 : decode cX7_turn 73 = .ok (.iload_n 2, 1) := by decide +kernel
theorem dX7_turn_74 : decode cX7_turn 74 = .ok (.if_icmp .ne 7, 3) := by decide +kernel
theorem dX7_turn_77 : decode cX7_turn 77 = .ok (.iconst 1, 1) := by decide +kernel
theorem dX7_turn_78 : decode cX7_turn 78 = .ok (.goto 4, 3) := by decide +kernel
theorem dX7_turn_81 : decode cX7_turn 81 = .ok (.iconst 0, 1) := by decide +kernel
theorem dX7_turn_82 : decode cX7_turn 82 = .ok (.istore 6, 2) := by decide +kernel
theorem dX7_turn_84 : decode cX7_turn 84 = .ok (.iload 5, 2) := by decide +kernel
theorem dX7_turn_86 : decode cX7_turn 86 = .ok (.ifCond .eq 17, 3) := by decide +kernel
theorem dX7_turn_89 : decode cX7_turn 89 = .ok (.aload_n 0, 1) := by decide +kernel
theorem dX7_turn_90 : decode cX7_turn 90 = .ok (.iload_n 1, 1) := by decide +kernel
theorem dX7_turn_91 : decode cX7_turn 91 = .ok (.iload_n 2, 1) := by decide +kernel
theorem dX7_turn_92 : decode cX7_turn 92 = .ok (.invokevirtual 115, 3) := by decide +kernel
theorem dX7_turn_95 : decode cX7_turn 95 = .ok (.iload_n 2, 1) := by decide +kernel
theorem dX7_turn_96 : decode cX7_turn 96 = .ok (.if_icmp .ne 7, 3) := by decide +kernel
theorem dX7_turn_99 : decode cX7_turn 99 = .ok (.iconst 1, 1) := by decide +kernel
theorem dX7_turn_100 : decode cX7_turn 100 = .ok (.goto 4, 3) := by decide +kernel
theorem dX7_turn_103 : decode cX7_turn 103 = .ok (.iconst 0, 1) := by decide +kernel
theorem dX7_turn_104 : decode cX7_turn 104 = .ok (.istore 7, 2) := by decide +kernel
theorem dX7_turn_106 : decode cX7_turn 106 = .ok (.iload 4, 2) := by decide +kernel
theorem dX7_turn_108 : decode cX7_turn 108 = .ok (.ifCond .eq 8, 3) := by decide +kernel
theorem dX7_turn_111 : decode cX7_turn 111 = .ok (.iload 6, 2) := by decide +kernel
theorem dX7_turn_113 : decode cX7_turn 113 = .ok (.goto 5, 3) := by decide +kernel
theorem dX7_turn_116 : decode cX7_turn 116 = .ok (.iload 7, 2) := by decide +kernel
theorem dX7_turn_118 : decode cX7_turn 118 = .ok (.istore 8, 2) := by decide +kernel
theorem dX7_turn_120 : decode cX7_turn 120 = .ok (.iload 4, 2) := by decide +kernel
theorem dX7_turn_122 : decode cX7_turn 122 = .ok (.ifCond .eq 17, 3) := by decide +kernel
theorem dX7_turn_125 : decode cX7_turn 125 = .ok (.iload 5, 2) := by decide +kernel
theorem dX7_turn_127 : decode cX7_turn 127 = .ok (.ifCond .eq 12, 3) := by decide +kernel
theorem dX7_turn_130 : decode cX7_turn 130 = .ok (.iload 6, 2) := by decide +kernel
theorem dX7_turn_132 : decode cX7_turn 132 = .ok (.iload 7, 2) := by decide +kernel
theorem dX7_turn_134 : decode cX7_turn 134 = .ok (.if_icmp .eq 5, 3) := by decide +kernel
theorem dX7_turn_137 : decode cX7_turn 137 = .ok (.iconst (-1), 1) := by decide +kernel
theorem dX7_turn_138 : decode cX7_turn 138 = .ok (.ireturn, 1) := by decide +kernel
theorem dX7_turn_139 : decode cX7_turn 139 = .ok (.iload 4, 2) := by decide +kernel
theorem dX7_turn_141 : decode cX7_turn 141 = .ok (.ifCond .eq 14, 3) := by decide +kernel
theorem dX7_turn_144 : decode cX7_turn 144 = .ok (.aload_n 0, 1) := by decide +kernel
theorem dX7_turn_145 : decode cX7_turn 145 = .ok (.iload_n 1, 1) := by decide +kernel
theorem dX7_turn_146 : decode cX7_turn 146 = .ok (.iload_n 2, 1) := by decide +kernel
theorem dX7_turn_147 : decode cX7_turn 147 = .ok (.iconst 1, 1) := by decide +kernel
theorem dX7_turn_148 : decode cX7_turn 148 = .ok (.isub, 1) := by decide +kernel
theorem dX7_turn_149 : decode cX7_turn 149 = .ok (.invokevirtual 118, 3) := by decide +kernel
theorem dX7_turn_152 : decode cX7_turn 152 = .ok (.goto 4, 3) := by decide +kernel
theorem dX7_turn_155 : decode cX7_turn 155 = .ok (.iconst 0, 1) := by decide +kernel
theorem dX7_turn_156 : decode cX7_turn 156 = .ok (.istore 9, 2) := by decide +kernel
theorem dX7_turn_158 : decode cX7_turn 158 = .ok (.iload 5, 2) := by decide +kernel
theorem dX7_turn_160 : decode cX7_turn 160 = .ok (.ifCond .eq 14, 3) := by decide +kernel
theorem dX7_turn_163 : decode cX7_turn 163 = .ok (.aload_n 0, 1) := by decide +kernel
theorem dX7_turn_164 : decode cX7_turn 164 = .ok (.iload_n 1, 1) := by decide +kernel
theorem dX7_turn_165 : decode cX7_turn 165 = .ok (.iload_n 2, 1) := by decide +kernel
theorem dX7_turn_166 : decode cX7_turn 166 = .ok (.iconst 1, 1) := by decide +kernel
theorem dX7_turn_167 : decode cX7_turn 167 = .ok (.iadd, 1) := by decide +kernel
theorem dX7_turn_168 : decode cX7_turn 168 = .ok (.invokevirtual 118, 3) := by decide +kernel
theorem dX7_turn_171 : decode cX7_turn 171 = .ok (.goto 4, 3) := by decide +kernel
theorem dX7_turn_174 : decode cX7_turn 174 = .ok (.iconst 0, 1) := by decide +kernel
theorem dX7_turn_175 : decode cX7_turn 175 = .ok (.istore 10, 2) := by decide +kernel
theorem dX7_turn_177 : decode cX7_turn 177 = .ok (.aload_n 0, 1) := by decide +kernel
theorem dX7_turn_178 : decode cX7_turn 178 = .ok (.iload_n 1, 1) := by decide +kernel
theorem dX7_turn_179 : decode cX7_turn 179 = .ok (.iload_n 2, 1) := by decide +kernel
theorem dX7_turn_180 : decode cX7_turn 180 = .ok (.invokevirtual 118, 3) := by decide +kernel
theorem dX7_turn_183 : decode cX7_turn 183 = .ok (.istore 11, 2) := by decide +kernel
theorem dX7_turn_185 : decode cX7_turn 185 = .ok (.aload_n 0, 1) := by decide +kernel
theorem dX7_turn_186 : decode cX7_turn 186 = .ok (.iload 9, 2) := by decide +kernel
theorem dX7_turn_188 : decode cX7_turn 188 = .ok (.iload 10, 2) := by decide +kernel
theorem dX7_turn_190 : decode cX7_turn 190 = .ok (.iadd, 1) := by decide +kernel
theorem dX7_turn_191 : decode cX7_turn 191 = .ok (.invokevirtual 155, 3) := by decide +kernel
theorem dX7_turn_194 : decode cX7_turn 194 = .ok (.iconst 0, 1) := by decide +kernel
theorem dX7_turn_195 : decode cX7_turn 195 = .ok (.istore 12, 2) := by decide +kernel
theorem dX7_turn_197 : decode cX7_turn 197 = .ok (.iload 12, 2) := by decide +kernel
theorem dX7_turn_199 : decode cX7_turn 199 = .ok (.iload 11, 2) := by decide +kernel
theorem dX7_turn_201 : decode cX7_turn 201 = .ok (.if_icmp .ge 136, 3) := by decide +kernel
theorem dX7_turn_204 : decode cX7_turn 204 = .ok (.aload_n 0, 1) := by decide +kernel
theorem dX7_turn_205 : decode cX7_turn 205 = .ok (.invokevirtual 158, 3) := by decide +kernel
theorem dX7_turn_208 : decode cX7_turn 208 = .ok (.astore 13, 2) := by decide +kernel
theorem dX7_turn_210 : decode cX7_turn 210 = .ok (.iconst 0, 1) := by decide +kernel
theorem dX7_turn_211 : decode cX7_turn 211 = .ok (.istore 14, 2) := by decide +kernel
theorem dX7_turn_213 : decode cX7_turn 213 = .ok (.iload 14, 2) := by decide +kernel
theorem dX7_turn_215 : decode cX7_turn 215 = .ok (.iload 9, 2) := by decide +kernel
theorem dX7_turn_217 : decode cX7_turn 217 = .ok (.if_icmp .ge 54, 3) := by decide +kernel
theorem dX7_turn_220 : decode cX7_turn 220 = .ok (.aload 13, 2) := by decide +kernel
theorem dX7_turn_222 : decode cX7_turn 222 = .ok (.iload 14, 2) := by decide +kernel
theorem dX7_turn_224 : decode cX7_turn 224 = .ok (.iload 8, 2) := by decide +kernel
theorem dX7_turn_226 : decode cX7_turn 226 = .ok (.ifCond .eq 22, 3) := by decide +kernel
theorem dX7_turn_229 : decode cX7_turn 229 = .ok (.aload_n 0, 1) := by decide +kernel
theorem dX7_turn_230 : decode cX7_turn 230 = .ok (.getfield 16, 3) := by decide +kernel
theorem dX7_turn_233 : decode cX7_turn 233 = .ok (.iload_n 1, 1) := by decide +kernel
theorem dX7_turn_234 : decode cX7_turn 234 = .ok (.iload_n 2, 1) := by decide +kernel
theorem dX7_turn_235 : decode cX7_turn 235 = .ok (.iconst 1, 1) := by decide +kernel
theorem dX7_turn_236 : decode cX7_turn 236 = .ok (.isub, 1) := by decide +kernel
theorem dX7_turn_237 : decode cX7_turn 237 = .ok (.iload 12, 2) := by decide +kernel
theorem dX7_turn_239 : decode cX7_turn 239 = .ok (.iload 14, 2) := by decide +kernel
theorem dX7_turn_241 : decode cX7_turn 241 = .ok (.invokestatic 128, 3) := by decide +kernel
theorem dX7_turn_244 : decode cX7_turn 244 = .ok (.iaload, 1) := by decide +kernel
theorem dX7_turn_245 : decode cX7_turn 245 = .ok (.goto 19, 3) := by decide +kernel
theorem dX7_turn_248 : decode cX7_turn 248 = .ok (.aload_n 0, 1) := by decide +kernel
theorem dX7_turn_249 : decode cX7_turn 249 = .ok (.getfield 16, 3) := by decide +kernel
theorem dX7_turn_252 : decode cX7_turn 252 = .ok (.iload_n 1, 1) := by decide +kernel
theorem dX7_turn_253 : decode cX7_turn 253 = .ok (.iload_n 2, 1) := by decide +kernel
theorem dX7_turn_254 : decode cX7_turn 254 = .ok (.iconst 1, 1) := by decide +kernel
theorem dX7_turn_255 : decode cX7_turn 255 = .ok (.isub, 1) := by decide +kernel
theorem dX7_turn_256 : decode cX7_turn 256 = .ok (.iload 14, 2) := by decide +kernel
theorem dX7_turn_258 : decode cX7_turn 258 = .ok (.iload 12, 2) := by decide +kernel
theorem dX7_turn_260 : decode cX7_turn 260 = .ok (.invokestatic 128, 3) := by decide +kernel
theorem dX7_turn_263 : decode cX7_turn 263 = .ok (.iaload, 1) := by decide +kernel
theorem dX7_turn_264 : decode cX7_turn 264 = .ok (.iastore, 1) := by decide +kernel
theorem dX7_turn_265 : decode cX7_turn 265 = .ok (.iinc 14 1, 3) := by decide +kernel
theorem dX7_turn_268 : decode cX7_turn 268 = .ok (.goto (-55), 3) := by decide +kernel
theorem dX7_turn_271 : decode cX7_turn 271 = .ok (.iconst 0, 1) := by decide +kernel
theorem dX7_turn_272 : decode cX7_turn 272 = .ok (.istore 14, 2) := by decide +kernel
theorem dX7_turn_274 : decode cX7_turn 274 = .ok (.iload 14, 2) := by decide +kernel
theorem dX7_turn_276 : decode cX7_turn 276 = .ok (.iload 10, 2) := by decide +kernel
theorem dX7_turn_278 : decode cX7_turn 278 = .ok (.if_icmp .ge 53, 3) := by decide +kernel
theorem dX7_turn_281 : decode cX7_turn 281 = .ok (.aload 13, 2) := by decide +kernel
theorem dX7_turn_283 : decode cX7_turn 283 = .ok (.iload 9, 2) := by decide +kernel
theorem dX7_turn_285 : decode cX7_turn 285 = .ok (.iload 14, 2) := by decide +kernel
theorem dX7_turn_287 : decode cX7_turn 287 = .ok (.iadd, 1) := by decide +kernel
theorem dX7_turn_288 : decode cX7_turn 288 = .ok (.iload 8, 2) := by decide +kernel
theorem dX7_turn_290 : decode cX7_turn 290 = .ok (.ifCond .eq 20, 3) := by decide +kernel
theorem dX7_turn_293 : decode cX7_turn 293 = .ok (.aload_n 0, 1) := by decide +kernel
theorem dX7_turn_294 : decode cX7_turn 294 = .ok (.getfield 16, 3) := by decide +kernel
theorem dX7_turn_297 : decode cX7_turn 297 = .ok (.iload_n 1, 1) := by decide +kernel
theorem dX7_turn_298 : decode cX7_turn 298 = .ok (.iload_n 2, 1) := by decide +kernel
theorem dX7_turn_299 : decode cX7_turn 299 = .ok (.iload 12, 2) := by decide +kernel
theorem dX7_turn_301 : decode cX7_turn 301 = .ok (.iload 14, 2) := by decide +kernel
theorem dX7_turn_303 : decode cX7_turn 303 = .ok (.invokestatic 128, 3) := by decide +kernel
theorem dX7_turn_306 : decode cX7_turn 306 = .ok (.iaload, 1) := by decide +kernel
theorem dX7_turn_307 : decode cX7_turn 307 = .ok (.goto 17, 3) := by decide +kernel
theorem dX7_turn_310 : decode cX7_turn 310 = .ok (.aload_n 0, 1) := by decide +kernel
theorem dX7_turn_311 : decode cX7_turn 311 = .ok (.getfield 16, 3) := by decide +kernel
theorem dX7_turn_314 : decode cX7_turn 314 = .ok (.iload_n 1, 1) := by decide +kernel
theorem dX7_turn_315 : decode cX7_turn 315 = .ok (.iload_n 2, 1) := by decide +kernel
theorem dX7_turn_316 : decode cX7_turn 316 = .ok (.iload 14, 2) := by decide +kernel
theorem dX7_turn_318 : decode cX7_turn 318 = .ok (.iload 12, 2) := by decide +kernel
theorem dX7_turn_320 : decode cX7_turn 320 = .ok (.invokestatic 128, 3) := by decide +kernel
theorem dX7_turn_323 : decode cX7_turn 323 = .ok (.iaload, 1) := by decide +kernel
theorem dX7_turn_324 : decode cX7_turn 324 = .ok (.iastore, 1) := by decide +kernel
theorem dX7_turn_325 : decode cX7_turn 325 = .ok (.iinc 14 1, 3) := by decide +kernel
theorem dX7_turn_328 : decode cX7_turn 328 = .ok (.goto (-54), 3) := by decide +kernel
theorem dX7_turn_331 : decode cX7_turn 331 = .ok (.iinc 12 1, 3) := by decide +kernel
theorem dX7_turn_334 : decode cX7_turn 334 = .ok (.goto (-137), 3) := by decide +kernel
theorem dX7_turn_337 : decode cX7_turn 337 = .ok (.aload_n 0, 1) := by decide +kernel
theorem dX7_turn_338 : decode cX7_turn 338 = .ok (.invokevirtual 162, 3) := by decide +kernel
theorem dX7_turn_341 : decode cX7_turn 341 = .ok (.istore 12, 2) := by decide +kernel
theorem dX7_turn_343 : decode cX7_turn 343 = .ok (.iconst 0, 1) := by decide +kernel
theorem dX7_turn_344 : decode cX7_turn 344 = .ok (.istore 13, 2) := by decide +kernel
theorem dX7_turn_346 : decode cX7_turn 346 = .ok (.iconst 0, 1) := by decide +kernel
theorem dX7_turn_347 : decode cX7_turn 347 = .ok (.istore 14, 2) := by decide +kernel
theorem dX7_turn_349 : decode cX7_turn 349 = .ok (.iload 14, 2) := by decide +kernel
theorem dX7_turn_351 : decode cX7_turn 351 = .ok (.iload 9, 2) := by decide +kernel
theorem dX7_turn_353 : decode cX7_turn 353 = .ok (.iload 10, 2) := by decide +kernel
theorem dX7_turn_355 : decode cX7_turn 355 = .ok (.iadd, 1) := by decide +kernel
theorem dX7_turn_356 : decode cX7_turn 356 = .ok (.if_icmp .ge 33, 3) := by decide +kernel
theorem dX7_turn_359 : decode cX7_turn 359 = .ok (.aload_n 0, 1) := by decide +kernel
theorem dX7_turn_360 : decode cX7_turn 360 = .ok (.iload 14, 2) := by decide +kernel
theorem dX7_turn_362 : decode cX7_turn 362 = .ok (.invokevirtual 166, 3) := by decide +kernel
theorem dX7_turn_365 : decode cX7_turn 365 = .ok (.ifCond .eq 6, 3) := by decide +kernel
theorem dX7_turn_368 : decode cX7_turn 368 = .ok (.goto 15, 3) := by decide +kernel
theorem dX7_turn_371 : decode cX7_turn 371 = .ok (.aload_n 0, 1) := by decide +kernel
theorem dX7_turn_372 : decode cX7_turn 372 = .ok (.getfield 33, 3) := by decide +kernel
theorem dX7_turn_375 : decode cX7_turn 375 = .ok (.iload 13, 2) := by decide +kernel
theorem dX7_turn_377 : decode cX7_turn 377 = .ok (.iload 14, 2) := by decide +kernel
theorem dX7_turn_379 : decode cX7_turn 379 = .ok (.iastore, 1) := by decide +kernel
theorem dX7_turn_380 : decode cX7_turn 380 = .ok (.iinc 13 1, 3) := by decide +kernel
theorem dX7_turn_383 : decode cX7_turn 383 = .ok (.iinc 14 1, 3) := by decide +kernel
theorem dX7_turn_386 : decode cX7_turn 386 = .ok (.goto (-37), 3) := by decide +kernel
theorem dX7_turn_389 : decode cX7_turn 389 = .ok (.iload 13, 2) := by decide +kernel
theorem dX7_turn_391 : decode cX7_turn 391 = .ok (.iconst 4, 1) := by decide +kernel
theorem dX7_turn_392 : decode cX7_turn 392 = .ok (.if_icmp .le 5, 3) := by decide +kernel
theorem dX7_turn_395 : decode cX7_turn 395 = .ok (.iconst (-1), 1) := by decide +kernel
theorem dX7_turn_396 : decode cX7_turn 396 = .ok (.ireturn, 1) := by decide +kernel
theorem dX7_turn_397 : decode cX7_turn 397 = .ok (.aload_n 0, 1) := by decide +kernel
theorem dX7_turn_398 : decode cX7_turn 398 = .ok (.iload_n 1, 1) := by decide +kernel
theorem dX7_turn_399 : decode cX7_turn 399 = .ok (.invokevirtual 139, 3) := by decide +kernel
theorem dX7_turn_402 : decode cX7_turn 402 = .ok (.aload_n 0, 1) := by decide +kernel
theorem dX7_turn_403 : decode cX7_turn 403 = .ok (.getfield 19, 3) := by decide +kernel
theorem dX7_turn_406 : decode cX7_turn 406 = .ok (.iload_n 2, 1) := by decide +kernel
theorem dX7_turn_407 : decode cX7_turn 407 = .ok (.iload 13, 2) := by decide +kernel
theorem dX7_turn_409 : decode cX7_turn 409 = .ok (.iastore, 1) := by decide +kernel
theorem dX7_turn_410 : decode cX7_turn 410 = .ok (.aload_n 0, 1) := by decide +kernel
theorem dX7_turn_411 : decode cX7_turn 411 = .ok (.getfield 9, 3) := by decide +kernel
theorem dX7_turn_414 : decode cX7_turn 414 = .ok (.iload_n 1, 1) := by decide +kernel
theorem dX7_turn_415 : decode cX7_turn 415 = .ok (.iaload, 1) := by decide +kernel
theorem dX7_turn_416 : decode cX7_turn 416 = .ok (.istore 14, 2) := by decide +kernel
theorem dX7_turn_418 : decode cX7_turn 418 = .ok (.iload 4, 2) := by decide +kernel
theorem dX7_turn_420 : decode cX7_turn 420 = .ok (.ifCond .eq 13, 3) := by decide +kernel
theorem dX7_turn_423 : decode cX7_turn 423 = .ok (.iload 14, 2) := by decide +kernel
theorem dX7_turn_425 : decode cX7_turn 425 = .ok (.iconst 1, 1) := by decide +kernel
theorem dX7_turn_426 : decode cX7_turn 426 = .ok (.iload_n 2, 1) := by decide +kernel
theorem dX7_turn_427 : decode cX7_turn 427 = .ok (.iconst 1, 1) := by decide +kernel
theorem dX7_turn_428 : decode cX7_turn 428 = .ok (.isub, 1) := by decide +kernel
theorem dX7_turn_429 : decode cX7_turn 429 = .ok (.ishl, 1) := by decide +kernel
theorem dX7_turn_430 : decode cX7_turn 430 = .ok (.ixor, 1) := by decide +kernel
theorem dX7_turn_431 : decode cX7_turn 431 = .ok (.istore 14, 2) := by decide +kernel
theorem dX7_turn_433 : decode cX7_turn 433 = .ok (.iload 5, 2) := by decide +kernel
theorem dX7_turn_435 : decode cX7_turn 435 = .ok (.ifCond .eq 11, 3) := by decide +kernel
theorem dX7_turn_438 : decode cX7_turn 438 = .ok (.iload 14, 2) := by decide +kernel
theorem dX7_turn_440 : decode cX7_turn 440 = .ok (.iconst 1, 1) := by decide +kernel
theorem dX7_turn_441 : decode cX7_turn 441 = .ok (.iload_n 2, 1) := by decide +kernel
theorem dX7_turn_442 : decode cX7_turn 442 = .ok (.ishl, 1) := by decide +kernel
theorem dX7_turn_443 : decode cX7_turn 443 = .ok (.ixor, 1) := by decide +kernel
theorem dX7_turn_444 : decode cX7_turn 444 = .ok (.istore 14, 2) := by decide +kernel
theorem dX7_turn_446 : decode cX7_turn 446 = .ok (.iconst 0, 1) := by decide +kernel
theorem dX7_turn_447 : decode cX7_turn 447 = .ok (.istore 15, 2) := by decide +kernel
theorem dX7_turn_449 : decode cX7_turn 449 = .ok (.iload 15, 2) := by decide +kernel
theorem dX7_turn_451 : decode cX7_turn 451 = .ok (.iconst 4, 1) := by decide +kernel
theorem dX7_turn_452 : decode cX7_turn 452 = .ok (.if_icmp .ge 66, 3) := by decide +kernel
theorem dX7_turn_455 : decode cX7_turn 455 = .ok (.iconst 0, 1) := by decide +kernel
theorem dX7_turn_456 : decode cX7_turn 456 = .ok (.istore 16, 2) := by decide +kernel
theorem dX7_turn_458 : decode cX7_turn 458 = .ok (.iload 16, 2) := by decide +kernel
theorem dX7_turn_460 : decode cX7_turn 460 = .ok (.iconst 4, 1) := by decide +kernel
theorem dX7_turn_461 : decode cX7_turn 461 = .ok (.if_icmp .ge 51, 3) := by decide +kernel
theorem dX7_turn_464 : decode cX7_turn 464 = .ok (.iload 4, 2) := by decide +kernel
theorem dX7_turn_466 : decode cX7_turn 466 = .ok (.ifCond .eq 20, 3) := by decide +kernel
theorem dX7_turn_469 : decode cX7_turn 469 = .ok (.aload_n 0, 1) := by decide +kernel
theorem dX7_turn_470 : decode cX7_turn 470 = .ok (.getfield 22, 3) := by decide +kernel
theorem dX7_turn_473 : decode cX7_turn 473 = .ok (.iconst 0, 1) := by decide +kernel
theorem dX7_turn_474 : decode cX7_turn 474 = .ok (.iload_n 2, 1) := by decide +kernel
theorem dX7_turn_475 : decode cX7_turn 475 = .ok (.iconst 1, 1) := by decide +kernel
theorem dX7_turn_476 : decode cX7_turn 476 = .ok (.isub, 1) := by decide +kernel
theorem dX7_turn_477 : decode cX7_turn 477 = .ok (.iload 16, 2) := by decide +kernel
theorem dX7_turn_479 : decode cX7_turn 479 = .ok (.iload 15, 2) := by decide +kernel
theorem dX7_turn_481 : decode cX7_turn 481 = .ok (.invokestatic 128, 3) := by decide +kernel
theorem dX7_turn_484 : decode cX7_turn 484 = .ok (.iconst 0, 1) := by decide +kernel
theorem dX7_turn_485 : decode cX7_turn 485 = .ok (.iastore, 1) := by decide +kernel
theorem dX7_turn_486 : decode cX7_turn 486 = .ok (.iload 5, 2) := by decide +kernel
theorem dX7_turn_488 : decode cX7_turn 488 = .ok (.ifCond .eq 18, 3) := by decide +kernel
theorem dX7_turn_491 : decode cX7_turn 491 = .ok (.aload_n 0, 1) := by decide +kernel
theorem dX7_turn_492 : decode cX7_turn 492 = .ok (.getfield 22, 3) := by decide +kernel
theorem dX7_turn_495 : decode cX7_turn 495 = .ok (.iconst 0, 1) := by decide +kernel
theorem dX7_turn_496 : decode cX7_turn 496 = .ok (.iload_n 2, 1) := by decide +kernel
theorem dX7_turn_497 : decode cX7_turn 497 = .ok (.iload 16, 2) := by decide +kernel
theorem dX7_turn_499 : decode cX7_turn 499 = .ok (.iload 15, 2) := by decide +kernel
theorem dX7_turn_501 : decode cX7_turn 501 = .ok (.invokestatic 128, 3) := by decide +kernel
theorem dX7_turn_504 : decode cX7_turn 504 = .ok (.iconst 0, 1) := by decide +kernel
theorem dX7_turn_505 : decode cX7_turn 505 = .ok (.iastore, 1) := by decide +kernel
theorem dX7_turn_506 : decode cX7_turn 506 = .ok (.iinc 16 1, 3) := by decide +kernel
theorem dX7_turn_509 : decode cX7_turn 509 = .ok (.goto (-51), 3) := by decide +kernel
theorem dX7_turn_512 : decode cX7_turn 512 = .ok (.iinc 15 1, 3) := by decide +kernel
theorem dX7_turn_515 : decode cX7_turn 515 = .ok (.goto (-66), 3) := by decide +kernel
theorem dX7_turn_518 : decode cX7_turn 518 = .ok (.iconst 0, 1) := by decide +kernel
theorem dX7_turn_519 : decode cX7_turn 519 = .ok (.istore 15, 2) := by decide +kernel
theorem dX7_turn_521 : decode cX7_turn 521 = .ok (.iload 15, 2) := by decide +kernel
theorem dX7_turn_523 : decode cX7_turn 523 = .ok (.iload 9, 2) := by decide +kernel
theorem dX7_turn_525 : decode cX7_turn 525 = .ok (.iload 10, 2) := by decide +kernel
theorem dX7_turn_527 : decode cX7_turn 527 = .ok (.iadd, 1) := by decide +kernel
theorem dX7_turn_528 : decode cX7_turn 528 = .ok (.if_icmp .ge 166, 3) := by decide +kernel
theorem dX7_turn_531 : decode cX7_turn 531 = .ok (.iconst 0, 1) := by decide +kernel
theorem dX7_turn_532 : decode cX7_turn 532 = .ok (.istore 16, 2) := by decide +kernel
theorem dX7_turn_534 : decode cX7_turn 534 = .ok (.iload 16, 2) := by decide +kernel
theorem dX7_turn_536 : decode cX7_turn 536 = .ok (.iload 13, 2) := by decide +kernel
theorem dX7_turn_538 : decode cX7_turn 538 = .ok (.if_icmp .ge 150, 3) := by decide +kernel
theorem dX7_turn_541 : decode cX7_turn 541 = .ok (.iload 15, 2) := by decide +kernel
theorem dX7_turn_543 : decode cX7_turn 543 = .ok (.aload_n 0, 1) := by decide +kernel
theorem dX7_turn_544 : decode cX7_turn 544 = .ok (.getfield 33, 3) := by decide +kernel
theorem dX7_turn_547 : decode cX7_turn 547 = .ok (.iload 16, 2) := by decide +kernel
theorem dX7_turn_549 : decode cX7_turn 549 = .ok (.iaload, 1) := by decide +kernel
theorem dX7_turn_550 : decode cX7_turn 550 = .ok (.if_icmp .ne 7, 3) := by decide +kernel
theorem dX7_turn_553 : decode cX7_turn 553 = .ok (.iconst 1, 1) := by decide +kernel
theorem dX7_turn_554 : decode cX7_turn 554 = .ok (.goto 4, 3) := by decide +kernel
theorem dX7_turn_557 : decode cX7_turn 557 = .ok (.iconst 0, 1) := by decide +kernel
theorem dX7_turn_558 : decode cX7_turn 558 = .ok (.istore 17, 2) := by decide +kernel
theorem dX7_turn_560 : decode cX7_turn 560 = .ok (.iconst 0, 1) := by decide +kernel
theorem dX7_turn_561 : decode cX7_turn 561 = .ok (.istore 18, 2) := by decide +kernel
theorem dX7_turn_563 : decode cX7_turn 563 = .ok (.iload 18, 2) := by decide +kernel
theorem dX7_turn_565 : decode cX7_turn 565 = .ok (.aload_n 0, 1) := by decide +kernel
theorem dX7_turn_566 : decode cX7_turn 566 = .ok (.getfield 146, 3) := by decide +kernel
theorem dX7_turn_569 : decode cX7_turn 569 = .ok (.if_icmp .ge 43, 3) := by decide +kernel
theorem dX7_turn_572 : decode cX7_turn 572 = .ok (.aload_n 0, 1) := by decide +kernel
theorem dX7_turn_573 : decode cX7_turn 573 = .ok (.getfield 30, 3) := by decide +kernel
theorem dX7_turn_576 : decode cX7_turn 576 = .ok (.iload 18, 2) := by decide +kernel
theorem dX7_turn_578 : decode cX7_turn 578 = .ok (.iaload, 1) := by decide +kernel
theorem dX7_turn_579 : decode cX7_turn 579 = .ok (.iload 15, 2) := by decide +kernel
theorem dX7_turn_581 : decode cX7_turn 581 = .ok (.if_icmp .ne 25, 3) := by decide +kernel
theorem dX7_turn_584 : decode cX7_turn 584 = .ok (.aload_n 0, 1) := by decide +kernel
theorem dX7_turn_585 : decode cX7_turn 585 = .ok (.aload_n 0, 1) := by decide +kernel
theorem dX7_turn_586 : decode cX7_turn 586 = .ok (.getfield 27, 3) := by decide +kernel
theorem dX7_turn_589 : decode cX7_turn 589 = .ok (.iload 18, 2) := by decide +kernel
theorem dX7_turn_591 : decode cX7_turn 591 = .ok (.aaload, 1) := by decide +kernel
theorem dX7_turn_592 : decode cX7_turn 592 = .ok (.aload_n 0, 1) := by decide +kernel
theorem dX7_turn_593 : decode cX7_turn 593 = .ok (.getfield 33, 3) := by decide +kernel
theorem dX7_turn_596 : decode cX7_turn 596 = .ok (.iload 16, 2) := by decide +kernel
theorem dX7_turn_598 : decode cX7_turn 598 = .ok (.iaload, 1) := by decide +kernel
theorem dX7_turn_599 : decode cX7_turn 599 = .ok (.iaload, 1) := by decide +kernel
theorem dX7_turn_600 : decode cX7_turn 600 = .ok (.ineg, 1) := by decide +kernel
theorem dX7_turn_601 : decode cX7_turn 601 = .ok (.invokevirtual 132, 3) := by decide +kernel
theorem dX7_turn_604 : decode cX7_turn 604 = .ok (.istore 17, 2) := by decide +kernel
theorem dX7_turn_606 : decode cX7_turn 606 = .ok (.iinc 18 1, 3) := by decide +kernel
theorem dX7_turn_609 : decode cX7_turn 609 = .ok (.goto (-46), 3) := by decide +kernel
theorem dX7_turn_612 : decode cX7_turn 612 = .ok (.iload 15, 2) := by decide +kernel
theorem dX7_turn_614 : decode cX7_turn 614 = .ok (.iload 9, 2) := by decide +kernel
theorem dX7_turn_616 : decode cX7_turn 616 = .ok (.if_icmp .ge 9, 3) := by decide +kernel
theorem dX7_turn_619 : decode cX7_turn 619 = .ok (.iload_n 2, 1) := by decide +kernel
theorem dX7_turn_620 : decode cX7_turn 620 = .ok (.iconst 1, 1) := by decide +kernel
theorem dX7_turn_621 : decode cX7_turn 621 = .ok (.isub, 1) := by decide +kernel
theorem dX7_turn_622 : decode cX7_turn 622 = .ok (.goto 4, 3) := by decide +kernel
theorem dX7_turn_625 : decode cX7_turn 625 = .ok (.iload_n 2, 1) := by decide +kernel
theorem dX7_turn_626 : decode cX7_turn 626 = .ok (.istore 18, 2) := by decide +kernel
theorem dX7_turn_628 : decode cX7_turn 628 = .ok (.iload 15, 2) := by decide +kernel
theorem dX7_turn_630 : decode cX7_turn 630 = .ok (.iload 9, 2) := by decide +kernel
theorem dX7_turn_632 : decode cX7_turn 632 = .ok (.if_icmp .ge 8, 3) := by decide +kernel
theorem dX7_turn_635 : decode cX7_turn 635 = .ok (.iload 15, 2) := by decide +kernel
theorem dX7_turn_637 : decode cX7_turn 637 = .ok (.goto 8, 3) := by decide +kernel
theorem dX7_turn_640 : decode cX7_turn 640 = .ok (.iload 15, 2) := by decide +kernel
theorem dX7_turn_642 : decode cX7_turn 642 = .ok (.iload 9, 2) := by decide +kernel
theorem dX7_turn_644 : decode cX7_turn 644 = .ok (.isub, 1) := by decide +kernel
theorem dX7_turn_645 : decode cX7_turn 645 = .ok (.istore 19, 2) := by decide +kernel
theorem dX7_turn_647 : decode cX7_turn 647 = .ok (.aload_n 0, 1) := by decide +kernel
theorem dX7_turn_648 : decode cX7_turn 648 = .ok (.getfield 22, 3) := by decide +kernel
theorem dX7_turn_651 : decode cX7_turn 651 = .ok (.iload 8, 2) := by decide +kernel
theorem dX7_turn_653 : decode cX7_turn 653 = .ok (.ifCond .eq 16, 3) := by decide +kernel
theorem dX7_turn_656 : decode cX7_turn 656 = .ok (.iconst 0, 1) := by decide +kernel
theorem dX7_turn_657 : decode cX7_turn 657 = .ok (.iload 18, 2) := by decide +kernel
theorem dX7_turn_659 : decode cX7_turn 659 = .ok (.iload 19, 2) := by decide +kernel
theorem dX7_turn_661 : decode cX7_turn 661 = .ok (.iload 16, 2) := by decide +kernel
theorem dX7_turn_663 : decode cX7_turn 663 = .ok (.invokestatic 128, 3) := by decide +kernel
theorem dX7_turn_666 : decode cX7_turn 666 = .ok (.goto 13, 3) := by decide +kernel
theorem dX7_turn_669 : decode cX7_turn 669 = .ok (.iconst 0, 1) := by decide +kernel
theorem dX7_turn_670 : decode cX7_turn 670 = .ok (.iload 18, 2) := by decide +kernel
theorem dX7_turn_672 : decode cX7_turn 672 = .ok (.iload 16, 2) := by decide +kernel
theorem dX7_turn_674 : decode cX7_turn 674 = .ok (.iload 19, 2) := by decide +kernel
theorem dX7_turn_676 : decode cX7_turn 676 = .ok (.invokestatic 128, 3) := by decide +kernel
theorem dX7_turn_679 : decode cX7_turn 679 = .ok (.iload 17, 2) := by decide +kernel
theorem dX7_turn_681 : decode cX7_turn 681 = .ok (.iastore, 1) := by decide +kernel
theorem dX7_turn_682 : decode cX7_turn 682 = .ok (.iinc 16 1, 3) := by decide +kernel
theorem dX7_turn_685 : decode cX7_turn 685 = .ok (.goto (-151), 3) := by decide +kernel
theorem dX7_turn_688 : decode cX7_turn 688 = .ok (.iinc 15 1, 3) := by decide +kernel
theorem dX7_turn_691 : decode cX7_turn 691 = .ok (.goto (-170), 3) := by decide +kernel
theorem dX7_turn_694 : decode cX7_turn 694 = .ok (.aload_n 0, 1) := by decide +kernel
theorem dX7_turn_695 : decode cX7_turn 695 = .ok (.iload_n 3, 1) := by decide +kernel
theorem dX7_turn_696 : decode cX7_turn 696 = .ok (.iload 14, 2) := by decide +kernel
theorem dX7_turn_698 : decode cX7_turn 698 = .ok (.invokevirtual 143, 3) := by decide +kernel
theorem dX7_turn_701 : decode cX7_turn 701 = .ok (.iload 13, 2) := by decide +kernel
theorem dX7_turn_703 : decode cX7_turn 703 = .ok (.ireturn, 1) := by decide +kernel
theorem dX7_areAlong_0 : decode cX7_areAlong 0 = .ok (.iload_n 1, 1) := by decide +kernel
theorem dX7_areAlong_1 : decode cX7_areAlong 1 = .ok (.invokestatic 104, 3) := by decide +kernel
theorem dX7_areAlong_4 : decode cX7_areAlong 4 = .ok (.ifCond .eq 29, 3) := by decide +kernel
theorem dX7_areAlong_7 : decode cX7_areAlong 7 = .ok (.iload_n 2, 1) := by decide +kernel
theorem dX7_areAlong_8 : decode cX7_areAlong 8 = .ok (.invokestatic 104, 3) := by decide +kernel
theorem dX7_areAlong_11 : decode cX7_areAlong 11 = .ok (.ifCond .eq 22, 3) := by decide +kernel
theorem dX7_areAlong_14 : decode cX7_areAlong 14 = .ok (.aload_n 0, 1) := by decide +kernel
theorem dX7_areAlong_15 : decode cX7_areAlong 15 = .ok (.getfield 9, 3) := by decide +kernel
theorem dX7_areAlong_18 : decode cX7_areAlong 18 = .ok (.iload_n 1, 1) := by decide +kernel
theorem dX7_areAlong_19 : decode cX7_areAlong 19 = .ok (.iaload, 1) := by decide +kernel
theorem dX7_areAlong_20 : decode cX7_areAlong 20 = .ok (.aload_n 0, 1) := by decide +kernel
theorem dX7_areAlong_21 : decode cX7_areAlong 21 = .ok (.getfield 9, 3) := by decide +kernel
theorem dX7_areAlong_24 : decode cX7_areAlong 24 = .ok (.iload_n 2, 1) := by decide +kernel
theorem dX7_areAlong_25 : decode cX7_areAlong 25 = .ok (.iaload, 1) := by decide +kernel
theorem dX7_areAlong_26 : decode cX7_areAlong 26 = .ok (.if_icmp .ne 7, 3) := by decide +kernel
theorem dX7_areAlong_29 : decode cX7_areAlong 29 = .ok (.iconst 1, 1) := by decide +kernel
theorem dX7_areAlong_30 : decode cX7_areAlong 30 = .ok (.goto 4, 3) := by decide +kernel
theorem dX7_areAlong_33 : decode cX7_areAlong 33 = .ok (.iconst 0, 1) := by decide +kernel
theorem dX7_areAlong_34 : decode cX7_areAlong 34 = .ok (.ireturn, 1) := by decide +kernel
theorem dX7_maps_0 : decode cX7_maps 0 = .ok (.aload_n 0, 1) := by decide +kernel
theorem dX7_maps_1 : decode cX7_maps 1 = .ok (.iload_n 1, 1) := by decide +kernel
theorem dX7_maps_2 : decode cX7_maps 2 = .ok (.iload_n 2, 1) := by decide +kernel
theorem dX7_maps_3 : decode cX7_maps 3 = .ok (.invokevirtual 169, 3) := by decide +kernel
theorem dX7_maps_6 : decode cX7_maps 6 = .ok (.ifCond .ne 5, 3) := by decide +kernel
theorem dX7_maps_9 : decode cX7_maps 9 = .ok (.iconst (-1), 1) := by decide +kernel
theorem dX7_maps_10 : decode cX7_maps 10 = .ok (.ireturn, 1) := by decide +kernel
theorem dX7_maps_11 : decode cX7_maps 11 = .ok (.aload_n 0, 1) := by decide +kernel
theorem dX7_maps_12 : decode cX7_maps 12 = .ok (.getfield 36, 3) := by decide +kernel
theorem dX7_maps_15 : decode cX7_maps 15 = .ok (.iconst 0, 1) := by decide +kernel
theorem dX7_maps_16 : decode cX7_maps 16 = .ok (.iconst 0, 1) := by decide +kernel
theorem dX7_maps_17 : decode cX7_maps 17 = .ok (.iastore, 1) := by decide +kernel
theorem dX7_maps_18 : decode cX7_maps 18 = .ok (.iconst 0, 1) := by decide +kernel
theorem dX7_maps_19 : decode cX7_maps 19 = .ok (.istore_n 3, 1) := by decide +kernel
theorem dX7_maps_20 : decode cX7_maps 20 = .ok (.iload_n 3, 1) := by decide +kernel
theorem dX7_maps_21 : decode cX7_maps 21 = .ok (.aload_n 0, 1) := by decide +kernel
theorem dX7_maps_22 : decode cX7_maps 22 = .ok (.getfield 93, 3) := by decide +kernel
theorem dX7_maps_25 : decode cX7_maps 25 = .ok (.if_icmp .ge 37, 3) := by decide +kernel
theorem dX7_maps_28 : decode cX7_maps 28 = .ok (.aload_n 0, 1) := by decide +kernel
theorem dX7_maps_29 : decode cX7_maps 29 = .ok (.getfield 36, 3) := by decide +kernel
theorem dX7_maps_32 : decode cX7_maps 32 = .ok (.iload_n 3, 1) := by decide +kernel
theorem dX7_maps_33 : decode cX7_maps 33 = .ok (.iconst 1, 1) := by decide +kernel
theorem dX7_maps_34 : decode cX7_maps 34 = .ok (.iadd, 1) := by decide +kernel
theorem dX7_maps_35 : decode cX7_maps 35 = .ok (.aload_n 0, 1) := by decide +kernel
theorem dX7_maps_36 : decode cX7_maps 36 = .ok (.getfield 36, 3) := by decide +kernel
theorem dX7_maps_39 : decode cX7_maps 39 = .ok (.iload_n 3, 1) := by decide +kernel
theorem dX7_maps_40 : decode cX7_maps 40 = .ok (.iaload, 1) := by decide +kernel
theorem dX7_maps_41 : decode cX7_maps 41 = .ok (.aload_n 0, 1) := by decide +kernel
theorem dX7_maps_42 : decode cX7_maps 42 = .ok (.iload_n 1, 1) := by decide +kernel
theorem dX7_maps_43 : decode cX7_maps 43 = .ok (.iload_n 3, 1) := by decide +kernel
theorem dX7_maps_44 : decode cX7_maps 44 = .ok (.invokevirtual 118, 3) := by decide +kernel
theorem dX7_maps_47 : decode cX7_maps 47 = .ok (.aload_n 0, 1) := by decide +kernel
theorem dX7_maps_48 : decode cX7_maps 48 = .ok (.iload_n 2, 1) := by decide +kernel
theorem dX7_maps_49 : decode cX7_maps 49 = .ok (.iload_n 3, 1) := by decide +kernel
theorem dX7_maps_50 : decode cX7_maps 50 = .ok (.invokevirtual 118, 3) := by decide +kernel
theorem dX7_maps_53 : decode cX7_maps 53 = .ok (.imul, 1) := by decide +kernel
theorem dX7_maps_54 : decode cX7_maps 54 = .ok (.iadd, 1) := by decide +kernel
theorem dX7_maps_55 : decode cX7_maps 55 = .ok (.iastore, 1) := by decide +kernel
theorem dX7_maps_56 : decode cX7_maps 56 = .ok (.iinc 3 1, 3) := by decide +kernel
theorem dX7_maps_59 : decode cX7_maps 59 = .ok (.goto (-39), 3) := by decide +kernel
theorem dX7_maps_62 : decode cX7_maps 62 = .ok (.aload_n 0, 1) := by decide +kernel
theorem dX7_maps_63 : decode cX7_maps 63 = .ok (.aload_n 0, 1) := by decide +kernel
theorem dX7_maps_64 : decode cX7_maps 64 = .ok (.getfield 36, 3) := by decide +kernel
theorem dX7_maps_67 : decode cX7_maps 67 = .ok (.aload_n 0, 1) := by decide +kernel
theorem dX7_maps_68 : decode cX7_maps 68 = .ok (.getfield 93, 3) := by decide +kernel
theorem dX7_maps_71 : decode cX7_maps 71 = .ok (.iaload, 1) := by decide +kernel
theorem dX7_maps_72 : decode cX7_maps 72 = .ok (.invokevirtual 155, 3) := by decide +kernel
theorem dX7_maps_75 : decode cX7_maps 75 = .ok (.iconst 0, 1) := by decide +kernel
theorem dX7_maps_76 : decode cX7_maps 76 = .ok (.istore_n 3, 1) := by decide +kernel
theorem dX7_maps_77 : decode cX7_maps 77 = .ok (.iload_n 3, 1) := by decide +kernel
theorem dX7_maps_78 : decode cX7_maps 78 = .ok (.aload_n 0, 1) := by decide +kernel
theorem dX7_maps_79 : decode cX7_maps 79 = .ok (.getfield 93, 3) := by decide +kernel
theorem dX7_maps_82 : decode cX7_maps 82 = .ok (.iconst 1, 1) := by decide +kernel
theorem dX7_maps_83 : decode cX7_maps 83 = .ok (.isub, 1) := by decide +kernel
theorem dX7_maps_84 : decode cX7_maps 84 = .ok (.if_icmp .ge 205, 3) := by decide +kernel
theorem dX7_maps_87 : decode cX7_maps 87 = .ok (.aload_n 0, 1) := by decide +kernel
theorem dX7_maps_88 : decode cX7_maps 88 = .ok (.iload_n 1, 1) := by decide +kernel
theorem dX7_maps_89 : decode cX7_maps 89 = .ok (.iload_n 3, 1) := by decide +kernel
theorem dX7_maps_90 : decode cX7_maps 90 = .ok (.invokevirtual 121, 3) := by decide +kernel
theorem dX7_maps_93 : decode cX7_maps 93 = .ok (.istore 4, 2) := by decide +kernel
theorem dX7_maps_95 : decode cX7_maps 95 = .ok (.aload_n 0, 1) := by decide +kernel
theorem dX7_maps_96 : decode cX7_maps 96 = .ok (.iload_n 1, 1) := by decide +kernel
theorem dX7_maps_97 : decode cX7_maps 97 = .ok (.iload_n 3, 1) := by decide +kernel
theorem dX7_maps_98 : decode cX7_maps 98 = .ok (.invokevirtual 115, 3) := by decide +kernel
theorem dX7_maps_101 : decode cX7_maps 101 = .ok (.istore 5, 2) := by decide +kernel
theorem dX7_maps_103 : decode cX7_maps 103 = .ok (.iconst 0, 1) := by decide +kernel
theorem dX7_maps_104 : decode cX7_maps 104 = .ok (.istore 6, 2) := by decide +kernel
theorem dX7_maps_106 : decode cX7_maps 106 = .ok (.iload 6, 2) := by decide +kernel
theorem dX7_maps_108 : decode cX7_maps 108 = .ok (.aload_n 0, 1) := by decide +kernel
theorem dX7_maps_109 : decode cX7_maps 109 = .ok (.iload_n 2, 1) := by decide +kernel
theorem dX7_maps_110 : decode cX7_maps 110 = .ok (.iload 5, 2) := by decide +kernel
theorem dX7_maps_112 : decode cX7_maps 112 = .ok (.invokevirtual 118, 3) := by decide +kernel
theorem dX7_maps_115 : decode cX7_maps 115 = .ok (.if_icmp .ge 168, 3) := by decide +kernel
theorem dX7_maps_118 : decode cX7_maps 118 = .ok (.iconst 0, 1) := by decide +kernel
theorem dX7_maps_119 : decode cX7_maps 119 = .ok (.istore 7, 2) := by decide +kernel
theorem dX7_maps_121 : decode cX7_maps 121 = .ok (.iload 7, 2) := by decide +kernel
theorem dX7_maps_123 : decode cX7_maps 123 = .ok (.aload_n 0, 1) := by decide +kernel
theorem dX7_maps_124 : decode cX7_maps 124 = .ok (.iload_n 1, 1) := by decide +kernel
theorem dX7_maps_125 : decode cX7_maps 125 = .ok (.iload 4, 2) := by decide +kernel
theorem dX7_maps_127 : decode cX7_maps 127 = .ok (.invokevirtual 118, 3) := by decide +kernel
theorem dX7_maps_130 : decode cX7_maps 130 = .ok (.if_icmp .ge 147, 3) := by decide +kernel
theorem dX7_maps_133 : decode cX7_maps 133 = .ok (.aload_n 0, 1) := by decide +kernel
theorem dX7_maps_134 : decode cX7_maps 134 = .ok (.invokevirtual 158, 3) := by decide +kernel
theorem dX7_maps_137 : decode cX7_maps 137 = .ok (.astore 8, 2) := by decide +kernel
theorem dX7_maps_139 : decode cX7_maps 139 = .ok (.iconst 0, 1) := by decide +kernel
theorem dX7_maps_140 : decode cX7_maps 140 = .ok (.istore 9, 2) := by decide +kernel
theorem dX7_maps_142 : decode cX7_maps 142 = .ok (.iload 9, 2) := by decide +kernel
theorem dX7_maps_144 : decode cX7_maps 144 = .ok (.aload_n 0, 1) := by decide +kernel
theorem dX7_maps_145 : decode cX7_maps 145 = .ok (.iload_n 1, 1) := by decide +kernel
theorem dX7_maps_146 : decode cX7_maps 146 = .ok (.iload 5, 2) := by decide +kernel
theorem dX7_maps_148 : decode cX7_maps 148 = .ok (.invokevirtual 118, 3) := by decide +kernel
theorem dX7_maps_151 : decode cX7_maps 151 = .ok (.if_icmp .ge 47, 3) := by decide +kernel
theorem dX7_maps_154 : decode cX7_maps 154 = .ok (.aload 8, 2) := by decide +kernel
theorem dX7_maps_156 : decode cX7_maps 156 = .ok (.aload_n 0, 1) := by decide +kernel
theorem dX7_maps_157 : decode cX7_maps 157 = .ok (.getfield 36, 3) := by decide +kernel
theorem dX7_maps_160 : decode cX7_maps 160 = .ok (.iload 5, 2) := by decide +kernel
theorem dX7_maps_162 : decode cX7_maps 162 = .ok (.iaload, 1) := by decide +kernel
theorem dX7_maps_163 : decode cX7_maps 163 = .ok (.iload 6, 2) := by decide +kernel
theorem dX7_maps_165 : decode cX7_maps 165 = .ok (.aload_n 0, 1) := by decide +kernel
theorem dX7_maps_166 : decode cX7_maps 166 = .ok (.iload_n 1, 1) := by decide +kernel
theorem dX7_maps_167 : decode cX7_maps 167 = .ok (.iload 5, 2) := by decide +kernel
theorem dX7_maps_169 : decode cX7_maps 169 = .ok (.invokevirtual 118, 3) := by decide +kernel
theorem dX7_maps_172 : decode cX7_maps 172 = .ok (.imul, 1) := by decide +kernel
theorem dX7_maps_173 : decode cX7_maps 173 = .ok (.iadd, 1) := by decide +kernel
theorem dX7_maps_174 : decode cX7_maps 174 = .ok (.iload 9, 2) := by decide +kernel
theorem dX7_maps_176 : decode cX7_maps 176 = .ok (.iadd, 1) := by decide +kernel
theorem dX7_maps_177 : decode cX7_maps 177 = .ok (.aload_n 0, 1) := by decide +kernel
theorem dX7_maps_178 : decode cX7_maps 178 = .ok (.getfield 16, 3) := by decide +kernel
theorem dX7_maps_181 : decode cX7_maps 181 = .ok (.iload_n 1, 1) := by decide +kernel
theorem dX7_maps_182 : decode cX7_maps 182 = .ok (.iload_n 3, 1) := by decide +kernel
theorem dX7_maps_183 : decode cX7_maps 183 = .ok (.iload 9, 2) := by decide +kernel
theorem dX7_maps_185 : decode cX7_maps 185 = .ok (.iload 7, 2) := by decide +kernel
theorem dX7_maps_187 : decode cX7_maps 187 = .ok (.invokestatic 128, 3) := by decide +kernel
theorem dX7_maps_190 : decode cX7_maps 190 = .ok (.iaload, 1) := by decide +kernel
theorem dX7_maps_191 : decode cX7_maps 191 = .ok (.iastore, 1) := by decide +kernel
theorem dX7_maps_192 : decode cX7_maps 192 = .ok (.iinc 9 1, 3) := by decide +kernel
theorem dX7_maps_195 : decode cX7_maps 195 = .ok (.goto (-53), 3) := by decide +kernel
theorem dX7_maps_198 : decode cX7_maps 198 = .ok (.iconst 0, 1) := by decide +kernel
theorem dX7_maps_199 : decode cX7_maps 199 = .ok (.istore 9, 2) := by decide +kernel
theorem dX7_maps_201 : decode cX7_maps 201 = .ok (.iload 9, 2) := by decide +kernel
theorem dX7_maps_203 : decode cX7_maps 203 = .ok (.aload_n 0, 1) := by decide +kernel
theorem dX7_maps_204 : decode cX7_maps 204 = .ok (.iload_n 2, 1) := by decide +kernel
theorem dX7_maps_205 : decode cX7_maps 205 = .ok (.iload 4, 2) := by decide +kernel
theorem dX7_maps_207 : decode cX7_maps 207 = .ok (.invokevirtual 118, 3) := by decide +kernel
theorem dX7_maps_210 : decode cX7_maps 210 = .ok (.if_icmp .ge 61, 3) := by decide +kernel
theorem dX7_maps_213 : decode cX7_maps 213 = .ok (.aload_n 0, 1) := by decide +kernel
theorem dX7_maps_214 : decode cX7_maps 214 = .ok (.getfield 36, 3) := by decide +kernel
theorem dX7_maps_217 : decode cX7_maps 217 = .ok (.iload 4, 2) := by decide +kernel
theorem dX7_maps_219 : decode cX7_maps 219 = .ok (.iaload, 1) := by decide +kernel
theorem dX7_maps_220 : decode cX7_maps 220 = .ok (.iload 9, 2) := by decide +kernel
theorem dX7_maps_222 : decode cX7_maps 222 = .ok (.aload_n 0, 1) := by decide +kernel
theorem dX7_maps_223 : decode cX7_maps 223 = .ok (.iload_n 1, 1) := by decide +kernel
theorem dX7_maps_224 : decode cX7_maps 224 = .ok (.iload 4, 2) := by decide +kernel
theorem dX7_maps_226 : decode cX7_maps 226 = .ok (.invokevirtual 118, 3) := by decide +kernel
theorem dX7_maps_229 : decode cX7_maps 229 = .ok (.imul, 1) := by decide +kernel
theorem dX7_maps_230 : decode cX7_maps 230 = .ok (.iadd, 1) := by decide +kernel
theorem dX7_maps_231 : decode cX7_maps 231 = .ok (.iload 7, 2) := by decide +kernel
theorem dX7_maps_233 : decode cX7_maps 233 = .ok (.iadd, 1) := by decide +kernel
theorem dX7_maps_234 : decode cX7_maps 234 = .ok (.istore 10, 2) := by decide +kernel
theorem dX7_maps_236 : decode cX7_maps 236 = .ok (.aload 8, 2) := by decide +kernel
theorem dX7_maps_238 : decode cX7_maps 238 = .ok (.iload 10, 2) := by decide +kernel
theorem dX7_maps_240 : decode cX7_maps 240 = .ok (.aload_n 0, 1) := by decide +kernel
end
section
theorem dX7_maps_241 : decode cX7_maps 241 = .ok (.aload 8, 2) := by decide +kernel
theorem dX7_maps_243 : decode cX7_maps 243 = .ok (.iload 10, 2) := by decide +kernel
theorem dX7_maps_245 : decode cX7_maps 245 = .ok (.iaload, 1) := by decide +kernel
theorem dX7_maps_246 : decode cX7_maps 246 = .ok (.aload_n 0, 1) := by decide +kernel
theorem dX7_maps_247 : decode cX7_maps 247 = .ok (.getfield 16, 3) := by decide +kernel
theorem dX7_maps_250 : decode cX7_maps 250 = .ok (.iload_n 2, 1) := by decide +kernel
theorem dX7_maps_251 : decode cX7_maps 251 = .ok (.iload_n 3, 1) := by decide +kernel
theorem dX7_maps_252 : decode cX7_maps 252 = .ok (.iload 6, 2) := by decide +kernel
theorem dX7_maps_254 : decode cX7_maps 254 = .ok (.iload 9, 2) := by decide +kernel
theorem dX7_maps_256 : decode cX7_maps 256 = .ok (.invokestatic 128, 3) := by decide +kernel
theorem dX7_maps_259 : decode cX7_maps 259 = .ok (.iaload, 1) := by decide +kernel
theorem dX7_maps_260 : decode cX7_maps 260 = .ok (.isub, 1) := by decide +kernel
theorem dX7_maps_261 : decode cX7_maps 261 = .ok (.invokevirtual 132, 3) := by decide +kernel
theorem dX7_maps_264 : decode cX7_maps 264 = .ok (.iastore, 1) := by decide +kernel
theorem dX7_maps_265 : decode cX7_maps 265 = .ok (.iinc 9 1, 3) := by decide +kernel
theorem dX7_maps_268 : decode cX7_maps 268 = .ok (.goto (-67), 3) := by decide +kernel
theorem dX7_maps_271 : decode cX7_maps 271 = .ok (.iinc 7 1, 3) := by decide +kernel
theorem dX7_maps_274 : decode cX7_maps 274 = .ok (.goto (-153), 3) := by decide +kernel
theorem dX7_maps_277 : decode cX7_maps 277 = .ok (.iinc 6 1, 3) := by decide +kernel
theorem dX7_maps_280 : decode cX7_maps 280 = .ok (.goto (-174), 3) := by decide +kernel
theorem dX7_maps_283 : decode cX7_maps 283 = .ok (.iinc 3 1, 3) := by decide +kernel
theorem dX7_maps_286 : decode cX7_maps 286 = .ok (.goto (-209), 3) := by decide +kernel
theorem dX7_maps_289 : decode cX7_maps 289 = .ok (.aload_n 0, 1) := by decide +kernel
theorem dX7_maps_290 : decode cX7_maps 290 = .ok (.getfield 36, 3) := by decide +kernel
theorem dX7_maps_293 : decode cX7_maps 293 = .ok (.aload_n 0, 1) := by decide +kernel
theorem dX7_maps_294 : decode cX7_maps 294 = .ok (.getfield 93, 3) := by decide +kernel
theorem dX7_maps_297 : decode cX7_maps 297 = .ok (.iaload, 1) := by decide +kernel
theorem dX7_maps_298 : decode cX7_maps 298 = .ok (.aload_n 0, 1) := by decide +kernel
theorem dX7_maps_299 : decode cX7_maps 299 = .ok (.invokevirtual 162, 3) := by decide +kernel
theorem dX7_maps_302 : decode cX7_maps 302 = .ok (.isub, 1) := by decide +kernel
theorem dX7_maps_303 : decode cX7_maps 303 = .ok (.ireturn, 1) := by decide +kernel
theorem dX7_form_0 : decode cX7_form 0 = .ok (.iload_n 1, 1) := by decide +kernel
theorem dX7_form_1 : decode cX7_form 1 = .ok (.invokestatic 104, 3) := by decide +kernel
theorem dX7_form_4 : decode cX7_form 4 = .ok (.ifCond .eq 10, 3) := by decide +kernel
theorem dX7_form_7 : decode cX7_form 7 = .ok (.iload_n 2, 1) := by decide +kernel
theorem dX7_form_8 : decode cX7_form 8 = .ok (.invokestatic 104, 3) := by decide +kernel
theorem dX7_form_11 : decode cX7_form 11 = .ok (.ifCond .ne 5, 3) := by decide +kernel
theorem dX7_form_14 : decode cX7_form 14 = .ok (.iconst 0, 1) := by decide +kernel
theorem dX7_form_15 : decode cX7_form 15 = .ok (.ireturn, 1) := by decide +kernel
theorem dX7_form_16 : decode cX7_form 16 = .ok (.iconst 0, 1) := by decide +kernel
theorem dX7_form_17 : decode cX7_form 17 = .ok (.istore_n 3, 1) := by decide +kernel
theorem dX7_form_18 : decode cX7_form 18 = .ok (.iconst 0, 1) := by decide +kernel
theorem dX7_form_19 : decode cX7_form 19 = .ok (.istore 4, 2) := by decide +kernel
theorem dX7_form_21 : decode cX7_form 21 = .ok (.iload 4, 2) := by decide +kernel
theorem dX7_form_23 : decode cX7_form 23 = .ok (.aload_n 0, 1) := by decide +kernel
theorem dX7_form_24 : decode cX7_form 24 = .ok (.getfield 93, 3) := by decide +kernel
theorem dX7_form_27 : decode cX7_form 27 = .ok (.if_icmp .ge 27, 3) := by decide +kernel
theorem dX7_form_30 : decode cX7_form 30 = .ok (.iload_n 3, 1) := by decide +kernel
theorem dX7_form_31 : decode cX7_form 31 = .ok (.aload_n 0, 1) := by decide +kernel
theorem dX7_form_32 : decode cX7_form 32 = .ok (.iload_n 1, 1) := by decide +kernel
theorem dX7_form_33 : decode cX7_form 33 = .ok (.iload 4, 2) := by decide +kernel
theorem dX7_form_35 : decode cX7_form 35 = .ok (.invokevirtual 118, 3) := by decide +kernel
theorem dX7_form_38 : decode cX7_form 38 = .ok (.aload_n 0, 1) := by decide +kernel
theorem dX7_form_39 : decode cX7_form 39 = .ok (.iload_n 2, 1) := by decide +kernel
theorem dX7_form_40 : decode cX7_form 40 = .ok (.iload 4, 2) := by decide +kernel
theorem dX7_form_42 : decode cX7_form 42 = .ok (.invokevirtual 118, 3) := by decide +kernel
theorem dX7_form_45 : decode cX7_form 45 = .ok (.imul, 1) := by decide +kernel
theorem dX7_form_46 : decode cX7_form 46 = .ok (.iadd, 1) := by decide +kernel
theorem dX7_form_47 : decode cX7_form 47 = .ok (.istore_n 3, 1) := by decide +kernel
theorem dX7_form_48 : decode cX7_form 48 = .ok (.iinc 4 1, 3) := by decide +kernel
theorem dX7_form_51 : decode cX7_form 51 = .ok (.goto (-30), 3) := by decide +kernel
theorem dX7_form_54 : decode cX7_form 54 = .ok (.iconst 0, 1) := by decide +kernel
theorem dX7_form_55 : decode cX7_form 55 = .ok (.istore 4, 2) := by decide +kernel
theorem dX7_form_57 : decode cX7_form 57 = .ok (.iload 4, 2) := by decide +kernel
theorem dX7_form_59 : decode cX7_form 59 = .ok (.aload_n 0, 1) := by decide +kernel
theorem dX7_form_60 : decode cX7_form 60 = .ok (.getfield 93, 3) := by decide +kernel
theorem dX7_form_63 : decode cX7_form 63 = .ok (.iconst 1, 1) := by decide +kernel
theorem dX7_form_64 : decode cX7_form 64 = .ok (.isub, 1) := by decide +kernel
theorem dX7_form_65 : decode cX7_form 65 = .ok (.if_icmp .ge 37, 3) := by decide +kernel
theorem dX7_form_68 : decode cX7_form 68 = .ok (.iload_n 3, 1) := by decide +kernel
theorem dX7_form_69 : decode cX7_form 69 = .ok (.aload_n 0, 1) := by decide +kernel
theorem dX7_form_70 : decode cX7_form 70 = .ok (.iload_n 1, 1) := by decide +kernel
theorem dX7_form_71 : decode cX7_form 71 = .ok (.aload_n 0, 1) := by decide +kernel
theorem dX7_form_72 : decode cX7_form 72 = .ok (.iload_n 1, 1) := by decide +kernel
theorem dX7_form_73 : decode cX7_form 73 = .ok (.iload 4, 2) := by decide +kernel
theorem dX7_form_75 : decode cX7_form 75 = .ok (.invokevirtual 121, 3) := by decide +kernel
theorem dX7_form_78 : decode cX7_form 78 = .ok (.invokevirtual 118, 3) := by decide +kernel
theorem dX7_form_81 : decode cX7_form 81 = .ok (.aload_n 0, 1) := by decide +kernel
theorem dX7_form_82 : decode cX7_form 82 = .ok (.iload_n 2, 1) := by decide +kernel
theorem dX7_form_83 : decode cX7_form 83 = .ok (.aload_n 0, 1) := by decide +kernel
theorem dX7_form_84 : decode cX7_form 84 = .ok (.iload_n 1, 1) := by decide +kernel
theorem dX7_form_85 : decode cX7_form 85 = .ok (.iload 4, 2) := by decide +kernel
theorem dX7_form_87 : decode cX7_form 87 = .ok (.invokevirtual 115, 3) := by decide +kernel
theorem dX7_form_90 : decode cX7_form 90 = .ok (.invokevirtual 118, 3) := by decide +kernel
theorem dX7_form_93 : decode cX7_form 93 = .ok (.imul, 1) := by decide +kernel
theorem dX7_form_94 : decode cX7_form 94 = .ok (.isub, 1) := by decide +kernel
theorem dX7_form_95 : decode cX7_form 95 = .ok (.istore_n 3, 1) := by decide +kernel
theorem dX7_form_96 : decode cX7_form 96 = .ok (.iinc 4 1, 3) := by decide +kernel
theorem dX7_form_99 : decode cX7_form 99 = .ok (.goto (-42), 3) := by decide +kernel
theorem dX7_form_102 : decode cX7_form 102 = .ok (.iload_n 3, 1) := by decide +kernel
theorem dX7_form_103 : decode cX7_form 103 = .ok (.ireturn, 1) := by decide +kernel
theorem dX7_bends_0 : decode cX7_bends 0 = .ok (.aload_n 0, 1) := by decide +kernel
theorem dX7_bends_1 : decode cX7_bends 1 = .ok (.iload_n 1, 1) := by decide +kernel
theorem dX7_bends_2 : decode cX7_bends 2 = .ok (.iload_n 2, 1) := by decide +kernel
theorem dX7_bends_3 : decode cX7_bends 3 = .ok (.invokevirtual 169, 3) := by decide +kernel
theorem dX7_bends_6 : decode cX7_bends 6 = .ok (.ifCond .eq 19, 3) := by decide +kernel
theorem dX7_bends_9 : decode cX7_bends 9 = .ok (.aload_n 0, 1) := by decide +kernel
theorem dX7_bends_10 : decode cX7_bends 10 = .ok (.iload_n 1, 1) := by decide +kernel
theorem dX7_bends_11 : decode cX7_bends 11 = .ok (.iload_n 2, 1) := by decide +kernel
theorem dX7_bends_12 : decode cX7_bends 12 = .ok (.invokevirtual 172, 3) := by decide +kernel
theorem dX7_bends_15 : decode cX7_bends 15 = .ok (.aload_n 0, 1) := by decide +kernel
theorem dX7_bends_16 : decode cX7_bends 16 = .ok (.iload_n 1, 1) := by decide +kernel
theorem dX7_bends_17 : decode cX7_bends 17 = .ok (.iload_n 2, 1) := by decide +kernel
theorem dX7_bends_18 : decode cX7_bends 18 = .ok (.invokevirtual 175, 3) := by decide +kernel
theorem dX7_bends_21 : decode cX7_bends 21 = .ok (.isub, 1) := by decide +kernel
theorem dX7_bends_22 : decode cX7_bends 22 = .ok (.goto 4, 3) := by decide +kernel
theorem dX7_bends_25 : decode cX7_bends 25 = .ok (.iconst (-1), 1) := by decide +kernel
theorem dX7_bends_26 : decode cX7_bends 26 = .ok (.ireturn, 1) := by decide +kernel
theorem dX7_same_0 : decode cX7_same 0 = .ok (.aload_n 0, 1) := by decide +kernel
theorem dX7_same_1 : decode cX7_same 1 = .ok (.getfield 36, 3) := by decide +kernel
theorem dX7_same_4 : decode cX7_same 4 = .ok (.iload_n 2, 1) := by decide +kernel
theorem dX7_same_5 : decode cX7_same 5 = .ok (.iconst 0, 1) := by decide +kernel
theorem dX7_same_6 : decode cX7_same 6 = .ok (.iastore, 1) := by decide +kernel
theorem dX7_same_7 : decode cX7_same 7 = .ok (.iload_n 2, 1) := by decide +kernel
theorem dX7_same_8 : decode cX7_same 8 = .ok (.istore 4, 2) := by decide +kernel
theorem dX7_same_10 : decode cX7_same 10 = .ok (.iload 4, 2) := by decide +kernel
theorem dX7_same_12 : decode cX7_same 12 = .ok (.iload_n 3, 1) := by decide +kernel
theorem dX7_same_13 : decode cX7_same 13 = .ok (.if_icmp .gt 33, 3) := by decide +kernel
theorem dX7_same_16 : decode cX7_same 16 = .ok (.aload_n 0, 1) := by decide +kernel
theorem dX7_same_17 : decode cX7_same 17 = .ok (.getfield 36, 3) := by decide +kernel
theorem dX7_same_20 : decode cX7_same 20 = .ok (.iload 4, 2) := by decide +kernel
theorem dX7_same_22 : decode cX7_same 22 = .ok (.iconst 1, 1) := by decide +kernel
theorem dX7_same_23 : decode cX7_same 23 = .ok (.iadd, 1) := by decide +kernel
theorem dX7_same_24 : decode cX7_same 24 = .ok (.aload_n 0, 1) := by decide +kernel
theorem dX7_same_25 : decode cX7_same 25 = .ok (.getfield 36, 3) := by decide +kernel
theorem dX7_same_28 : decode cX7_same 28 = .ok (.iload 4, 2) := by decide +kernel
theorem dX7_same_30 : decode cX7_same 30 = .ok (.iaload, 1) := by decide +kernel
theorem dX7_same_31 : decode cX7_same 31 = .ok (.aload_n 0, 1) := by decide +kernel
theorem dX7_same_32 : decode cX7_same 32 = .ok (.iload_n 1, 1) := by decide +kernel
theorem dX7_same_33 : decode cX7_same 33 = .ok (.iload 4, 2) := by decide +kernel
theorem dX7_same_35 : decode cX7_same 35 = .ok (.invokevirtual 118, 3) := by decide +kernel
theorem dX7_same_38 : decode cX7_same 38 = .ok (.iadd, 1) := by decide +kernel
theorem dX7_same_39 : decode cX7_same 39 = .ok (.iastore, 1) := by decide +kernel
theorem dX7_same_40 : decode cX7_same 40 = .ok (.iinc 4 1, 3) := by decide +kernel
theorem dX7_same_43 : decode cX7_same 43 = .ok (.goto (-33), 3) := by decide +kernel
theorem dX7_same_46 : decode cX7_same 46 = .ok (.aload_n 0, 1) := by decide +kernel
theorem dX7_same_47 : decode cX7_same 47 = .ok (.getfield 36, 3) := by decide +kernel
theorem dX7_same_50 : decode cX7_same 50 = .ok (.iload_n 3, 1) := by decide +kernel
theorem dX7_same_51 : decode cX7_same 51 = .ok (.iconst 1, 1) := by decide +kernel
theorem dX7_same_52 : decode cX7_same 52 = .ok (.iadd, 1) := by decide +kernel
theorem dX7_same_53 : decode cX7_same 53 = .ok (.iaload, 1) := by decide +kernel
theorem dX7_same_54 : decode cX7_same 54 = .ok (.istore 4, 2) := by decide +kernel
theorem dX7_same_56 : decode cX7_same 56 = .ok (.aload_n 0, 1) := by decide +kernel
theorem dX7_same_57 : decode cX7_same 57 = .ok (.iload 4, 2) := by decide +kernel
theorem dX7_same_59 : decode cX7_same 59 = .ok (.invokevirtual 155, 3) := by decide +kernel
theorem dX7_same_62 : decode cX7_same 62 = .ok (.iload_n 2, 1) := by decide +kernel
theorem dX7_same_63 : decode cX7_same 63 = .ok (.istore 5, 2) := by decide +kernel
theorem dX7_same_65 : decode cX7_same 65 = .ok (.iload 5, 2) := by decide +kernel
theorem dX7_same_67 : decode cX7_same 67 = .ok (.iload_n 3, 1) := by decide +kernel
theorem dX7_same_68 : decode cX7_same 68 = .ok (.if_icmp .ge 135, 3) := by decide +kernel
theorem dX7_same_71 : decode cX7_same 71 = .ok (.aload_n 0, 1) := by decide +kernel
theorem dX7_same_72 : decode cX7_same 72 = .ok (.iload_n 1, 1) := by decide +kernel
theorem dX7_same_73 : decode cX7_same 73 = .ok (.iload 5, 2) := by decide +kernel
theorem dX7_same_75 : decode cX7_same 75 = .ok (.invokevirtual 121, 3) := by decide +kernel
theorem dX7_same_78 : decode cX7_same 78 = .ok (.istore 6, 2) := by decide +kernel
theorem dX7_same_80 : decode cX7_same 80 = .ok (.aload_n 0, 1) := by decide +kernel
theorem dX7_same_81 : decode cX7_same 81 = .ok (.iload_n 1, 1) := by decide +kernel
theorem dX7_same_82 : decode cX7_same 82 = .ok (.iload 5, 2) := by decide +kernel
theorem dX7_same_84 : decode cX7_same 84 = .ok (.invokevirtual 115, 3) := by decide +kernel
theorem dX7_same_87 : decode cX7_same 87 = .ok (.istore 7, 2) := by decide +kernel
theorem dX7_same_89 : decode cX7_same 89 = .ok (.iconst 0, 1) := by decide +kernel
theorem dX7_same_90 : decode cX7_same 90 = .ok (.istore 8, 2) := by decide +kernel
theorem dX7_same_92 : decode cX7_same 92 = .ok (.iload 8, 2) := by decide +kernel
theorem dX7_same_94 : decode cX7_same 94 = .ok (.aload_n 0, 1) := by decide +kernel
theorem dX7_same_95 : decode cX7_same 95 = .ok (.iload_n 1, 1) := by decide +kernel
theorem dX7_same_96 : decode cX7_same 96 = .ok (.iload 7, 2) := by decide +kernel
theorem dX7_same_98 : decode cX7_same 98 = .ok (.invokevirtual 118, 3) := by decide +kernel
theorem dX7_same_101 : decode cX7_same 101 = .ok (.if_icmp .ge 96, 3) := by decide +kernel
theorem dX7_same_104 : decode cX7_same 104 = .ok (.aload_n 0, 1) := by decide +kernel
theorem dX7_same_105 : decode cX7_same 105 = .ok (.invokevirtual 158, 3) := by decide +kernel
theorem dX7_same_108 : decode cX7_same 108 = .ok (.astore 9, 2) := by decide +kernel
theorem dX7_same_110 : decode cX7_same 110 = .ok (.iconst 0, 1) := by decide +kernel
theorem dX7_same_111 : decode cX7_same 111 = .ok (.istore 10, 2) := by decide +kernel
theorem dX7_same_113 : decode cX7_same 113 = .ok (.iload 10, 2) := by decide +kernel
theorem dX7_same_115 : decode cX7_same 115 = .ok (.aload_n 0, 1) := by decide +kernel
theorem dX7_same_116 : decode cX7_same 116 = .ok (.iload_n 1, 1) := by decide +kernel
theorem dX7_same_117 : decode cX7_same 117 = .ok (.iload 6, 2) := by decide +kernel
theorem dX7_same_119 : decode cX7_same 119 = .ok (.invokevirtual 118, 3) := by decide +kernel
theorem dX7_same_122 : decode cX7_same 122 = .ok (.if_icmp .ge 37, 3) := by decide +kernel
theorem dX7_same_125 : decode cX7_same 125 = .ok (.aload 9, 2) := by decide +kernel
theorem dX7_same_127 : decode cX7_same 127 = .ok (.aload_n 0, 1) := by decide +kernel
theorem dX7_same_128 : decode cX7_same 128 = .ok (.getfield 36, 3) := by decide +kernel
theorem dX7_same_131 : decode cX7_same 131 = .ok (.iload 6, 2) := by decide +kernel
theorem dX7_same_133 : decode cX7_same 133 = .ok (.iaload, 1) := by decide +kernel
theorem dX7_same_134 : decode cX7_same 134 = .ok (.iload 10, 2) := by decide +kernel
theorem dX7_same_136 : decode cX7_same 136 = .ok (.iadd, 1) := by decide +kernel
theorem dX7_same_137 : decode cX7_same 137 = .ok (.aload_n 0, 1) := by decide +kernel
theorem dX7_same_138 : decode cX7_same 138 = .ok (.getfield 16, 3) := by decide +kernel
theorem dX7_same_141 : decode cX7_same 141 = .ok (.iload_n 1, 1) := by decide +kernel
theorem dX7_same_142 : decode cX7_same 142 = .ok (.iload 5, 2) := by decide +kernel
theorem dX7_same_144 : decode cX7_same 144 = .ok (.iload 8, 2) := by decide +kernel
theorem dX7_same_146 : decode cX7_same 146 = .ok (.iload 10, 2) := by decide +kernel
theorem dX7_same_148 : decode cX7_same 148 = .ok (.invokestatic 128, 3) := by decide +kernel
theorem dX7_same_151 : decode cX7_same 151 = .ok (.iaload, 1) := by decide +kernel
theorem dX7_same_152 : decode cX7_same 152 = .ok (.iastore, 1) := by decide +kernel
theorem dX7_same_153 : decode cX7_same 153 = .ok (.iinc 10 1, 3) := by decide +kernel
theorem dX7_same_156 : decode cX7_same 156 = .ok (.goto (-43), 3) := by decide +kernel
theorem dX7_same_159 : decode cX7_same 159 = .ok (.aload 9, 2) := by decide +kernel
theorem dX7_same_161 : decode cX7_same 161 = .ok (.aload_n 0, 1) := by decide +kernel
theorem dX7_same_162 : decode cX7_same 162 = .ok (.getfield 36, 3) := by decide +kernel
theorem dX7_same_165 : decode cX7_same 165 = .ok (.iload 7, 2) := by decide +kernel
theorem dX7_same_167 : decode cX7_same 167 = .ok (.iaload, 1) := by decide +kernel
theorem dX7_same_168 : decode cX7_same 168 = .ok (.iload 8, 2) := by decide +kernel
theorem dX7_same_170 : decode cX7_same 170 = .ok (.iadd, 1) := by decide +kernel
theorem dX7_same_171 : decode cX7_same 171 = .ok (.aload_n 0, 1) := by decide +kernel
theorem dX7_same_172 : decode cX7_same 172 = .ok (.aload 9, 2) := by decide +kernel
theorem dX7_same_174 : decode cX7_same 174 = .ok (.aload_n 0, 1) := by decide +kernel
theorem dX7_same_175 : decode cX7_same 175 = .ok (.getfield 36, 3) := by decide +kernel
theorem dX7_same_178 : decode cX7_same 178 = .ok (.iload 7, 2) := by decide +kernel
theorem dX7_same_180 : decode cX7_same 180 = .ok (.iaload, 1) := by decide +kernel
theorem dX7_same_181 : decode cX7_same 181 = .ok (.iload 8, 2) := by decide +kernel
theorem dX7_same_183 : decode cX7_same 183 = .ok (.iadd, 1) := by decide +kernel
theorem dX7_same_184 : decode cX7_same 184 = .ok (.iaload, 1) := by decide +kernel
theorem dX7_same_185 : decode cX7_same 185 = .ok (.iconst 1, 1) := by decide +kernel
theorem dX7_same_186 : decode cX7_same 186 = .ok (.isub, 1) := by decide +kernel
theorem dX7_same_187 : decode cX7_same 187 = .ok (.invokevirtual 132, 3) := by decide +kernel
theorem dX7_same_190 : decode cX7_same 190 = .ok (.iastore, 1) := by decide +kernel
theorem dX7_same_191 : decode cX7_same 191 = .ok (.iinc 8 1, 3) := by decide +kernel
theorem dX7_same_194 : decode cX7_same 194 = .ok (.goto (-102), 3) := by decide +kernel
theorem dX7_same_197 : decode cX7_same 197 = .ok (.iinc 5 1, 3) := by decide +kernel
theorem dX7_same_200 : decode cX7_same 200 = .ok (.goto (-135), 3) := by decide +kernel
theorem dX7_same_203 : decode cX7_same 203 = .ok (.aload_n 0, 1) := by decide +kernel
theorem dX7_same_204 : decode cX7_same 204 = .ok (.invokevirtual 162, 3) := by decide +kernel
theorem dX7_same_207 : decode cX7_same 207 = .ok (.istore 5, 2) := by decide +kernel
theorem dX7_same_209 : decode cX7_same 209 = .ok (.iconst 0, 1) := by decide +kernel
theorem dX7_same_210 : decode cX7_same 210 = .ok (.istore 6, 2) := by decide +kernel
theorem dX7_same_212 : decode cX7_same 212 = .ok (.iconst 0, 1) := by decide +kernel
theorem dX7_same_213 : decode cX7_same 213 = .ok (.istore 7, 2) := by decide +kernel
theorem dX7_same_215 : decode cX7_same 215 = .ok (.iload 7, 2) := by decide +kernel
theorem dX7_same_217 : decode cX7_same 217 = .ok (.iload 4, 2) := by decide +kernel
theorem dX7_same_219 : decode cX7_same 219 = .ok (.if_icmp .ge 117, 3) := by decide +kernel
theorem dX7_same_222 : decode cX7_same 222 = .ok (.aload_n 0, 1) := by decide +kernel
theorem dX7_same_223 : decode cX7_same 223 = .ok (.iload 7, 2) := by decide +kernel
theorem dX7_same_225 : decode cX7_same 225 = .ok (.invokevirtual 166, 3) := by decide +kernel
theorem dX7_same_228 : decode cX7_same 228 = .ok (.ifCond .eq 6, 3) := by decide +kernel
theorem dX7_same_231 : decode cX7_same 231 = .ok (.goto 99, 3) := by decide +kernel
theorem dX7_same_234 : decode cX7_same 234 = .ok (.iconst 0, 1) := by decide +kernel
theorem dX7_same_235 : decode cX7_same 235 = .ok (.istore 8, 2) := by decide +kernel
theorem dX7_same_237 : decode cX7_same 237 = .ok (.iload 8, 2) := by decide +kernel
theorem dX7_same_239 : decode cX7_same 239 = .ok (.aload_n 0, 1) := by decide +kernel
theorem dX7_same_240 : decode cX7_same 240 = .ok (.iload_n 1, 1) := by decide +kernel
theorem dX7_same_241 : decode cX7_same 241 = .ok (.iload_n 2, 1) := by decide +kernel
theorem dX7_same_242 : decode cX7_same 242 = .ok (.invokevirtual 118, 3) := by decide +kernel
theorem dX7_same_245 : decode cX7_same 245 = .ok (.if_icmp .ge 82, 3) := by decide +kernel
theorem dX7_same_248 : decode cX7_same 248 = .ok (.iload 8, 2) := by decide +kernel
theorem dX7_same_250 : decode cX7_same 250 = .ok (.iload 7, 2) := by decide +kernel
theorem dX7_same_252 : decode cX7_same 252 = .ok (.if_icmp .ne 7, 3) := by decide +kernel
theorem dX7_same_255 : decode cX7_same 255 = .ok (.iconst 1, 1) := by decide +kernel
theorem dX7_same_256 : decode cX7_same 256 = .ok (.goto 4, 3) := by decide +kernel
theorem dX7_same_259 : decode cX7_same 259 = .ok (.iconst 0, 1) := by decide +kernel
theorem dX7_same_260 : decode cX7_same 260 = .ok (.istore 9, 2) := by decide +kernel
theorem dX7_same_262 : decode cX7_same 262 = .ok (.iconst 0, 1) := by decide +kernel
theorem dX7_same_263 : decode cX7_same 263 = .ok (.istore 10, 2) := by decide +kernel
theorem dX7_same_265 : decode cX7_same 265 = .ok (.iload 10, 2) := by decide +kernel
theorem dX7_same_267 : decode cX7_same 267 = .ok (.aload_n 0, 1) := by decide +kernel
theorem dX7_same_268 : decode cX7_same 268 = .ok (.getfield 146, 3) := by decide +kernel
theorem dX7_same_271 : decode cX7_same 271 = .ok (.if_icmp .ge 38, 3) := by decide +kernel
theorem dX7_same_274 : decode cX7_same 274 = .ok (.aload_n 0, 1) := by decide +kernel
theorem dX7_same_275 : decode cX7_same 275 = .ok (.getfield 30, 3) := by decide +kernel
theorem dX7_same_278 : decode cX7_same 278 = .ok (.iload 10, 2) := by decide +kernel
theorem dX7_same_280 : decode cX7_same 280 = .ok (.iaload, 1) := by decide +kernel
theorem dX7_same_281 : decode cX7_same 281 = .ok (.iload 8, 2) := by decide +kernel
theorem dX7_same_283 : decode cX7_same 283 = .ok (.if_icmp .ne 20, 3) := by decide +kernel
theorem dX7_same_286 : decode cX7_same 286 = .ok (.aload_n 0, 1) := by decide +kernel
theorem dX7_same_287 : decode cX7_same 287 = .ok (.aload_n 0, 1) := by decide +kernel
theorem dX7_same_288 : decode cX7_same 288 = .ok (.getfield 27, 3) := by decide +kernel
theorem dX7_same_291 : decode cX7_same 291 = .ok (.iload 10, 2) := by decide +kernel
theorem dX7_same_293 : decode cX7_same 293 = .ok (.aaload, 1) := by decide +kernel
theorem dX7_same_294 : decode cX7_same 294 = .ok (.iload 7, 2) := by decide +kernel
theorem dX7_same_296 : decode cX7_same 296 = .ok (.iaload, 1) := by decide +kernel
theorem dX7_same_297 : decode cX7_same 297 = .ok (.ineg, 1) := by decide +kernel
theorem dX7_same_298 : decode cX7_same 298 = .ok (.invokevirtual 132, 3) := by decide +kernel
theorem dX7_same_301 : decode cX7_same 301 = .ok (.istore 9, 2) := by decide +kernel
theorem dX7_same_303 : decode cX7_same 303 = .ok (.iinc 10 1, 3) := by decide +kernel
theorem dX7_same_306 : decode cX7_same 306 = .ok (.goto (-41), 3) := by decide +kernel
theorem dX7_same_309 : decode cX7_same 309 = .ok (.aload_n 0, 1) := by decide +kernel
theorem dX7_same_310 : decode cX7_same 310 = .ok (.getfield 39, 3) := by decide +kernel
theorem dX7_same_313 : decode cX7_same 313 = .ok (.iload 6, 2) := by decide +kernel
theorem dX7_same_315 : decode cX7_same 315 = .ok (.aaload, 1) := by decide +kernel
theorem dX7_same_316 : decode cX7_same 316 = .ok (.iload 8, 2) := by decide +kernel
theorem dX7_same_318 : decode cX7_same 318 = .ok (.iload 9, 2) := by decide +kernel
theorem dX7_same_320 : decode cX7_same 320 = .ok (.iastore, 1) := by decide +kernel
theorem dX7_same_321 : decode cX7_same 321 = .ok (.iinc 8 1, 3) := by decide +kernel
theorem dX7_same_324 : decode cX7_same 324 = .ok (.goto (-87), 3) := by decide +kernel
theorem dX7_same_327 : decode cX7_same 327 = .ok (.iinc 6 1, 3) := by decide +kernel
theorem dX7_same_330 : decode cX7_same 330 = .ok (.iinc 7 1, 3) := by decide +kernel
theorem dX7_same_333 : decode cX7_same 333 = .ok (.goto (-118), 3) := by decide +kernel
theorem dX7_same_336 : decode cX7_same 336 = .ok (.iload 6, 2) := by decide +kernel
theorem dX7_same_338 : decode cX7_same 338 = .ok (.ireturn, 1) := by decide +kernel
theorem dX7_through_0 : decode cX7_through 0 = .ok (.iload_n 2, 1) := by decide +kernel
theorem dX7_through_1 : decode cX7_through 1 = .ok (.ifCond .lt 11, 3) := by decide +kernel
theorem dX7_through_4 : decode cX7_through 4 = .ok (.iload_n 3, 1) := by decide +kernel
theorem dX7_through_5 : decode cX7_through 5 = .ok (.aload_n 0, 1) := by decide +kernel
theorem dX7_through_6 : decode cX7_through 6 = .ok (.getfield 93, 3) := by decide +kernel
theorem dX7_through_9 : decode cX7_through 9 = .ok (.if_icmp .lt 5, 3) := by decide +kernel
theorem dX7_through_12 : decode cX7_through 12 = .ok (.iconst 0, 1) := by decide +kernel
theorem dX7_through_13 : decode cX7_through 13 = .ok (.ireturn, 1) := by decide +kernel
theorem dX7_through_14 : decode cX7_through 14 = .ok (.aload_n 0, 1) := by decide +kernel
theorem dX7_through_15 : decode cX7_through 15 = .ok (.iload_n 1, 1) := by decide +kernel
theorem dX7_through_16 : decode cX7_through 16 = .ok (.iload_n 2, 1) := by decide +kernel
theorem dX7_through_17 : decode cX7_through 17 = .ok (.iload_n 3, 1) := by decide +kernel
theorem dX7_through_18 : decode cX7_through 18 = .ok (.invokevirtual 178, 3) := by decide +kernel
theorem dX7_through_21 : decode cX7_through 21 = .ok (.istore 4, 2) := by decide +kernel
theorem dX7_through_23 : decode cX7_through 23 = .ok (.aload_n 0, 1) := by decide +kernel
theorem dX7_through_24 : decode cX7_through 24 = .ok (.getfield 36, 3) := by decide +kernel
theorem dX7_through_27 : decode cX7_through 27 = .ok (.iload_n 3, 1) := by decide +kernel
theorem dX7_through_28 : decode cX7_through 28 = .ok (.iconst 1, 1) := by decide +kernel
theorem dX7_through_29 : decode cX7_through 29 = .ok (.iadd, 1) := by decide +kernel
theorem dX7_through_30 : decode cX7_through 30 = .ok (.iaload, 1) := by decide +kernel
theorem dX7_through_31 : decode cX7_through 31 = .ok (.istore 5, 2) := by decide +kernel
theorem dX7_through_33 : decode cX7_through 33 = .ok (.aload_n 0, 1) := by decide +kernel
theorem dX7_through_34 : decode cX7_through 34 = .ok (.iload 5, 2) := by decide +kernel
theorem dX7_through_36 : decode cX7_through 36 = .ok (.invokevirtual 155, 3) := by decide +kernel
theorem dX7_through_39 : decode cX7_through 39 = .ok (.iload_n 2, 1) := by decide +kernel
theorem dX7_through_40 : decode cX7_through 40 = .ok (.istore 6, 2) := by decide +kernel
theorem dX7_through_42 : decode cX7_through 42 = .ok (.iload 6, 2) := by decide +kernel
theorem dX7_through_44 : decode cX7_through 44 = .ok (.iload_n 3, 1) := by decide +kernel
theorem dX7_through_45 : decode cX7_through 45 = .ok (.if_icmp .ge 122, 3) := by decide +kernel
theorem dX7_through_48 : decode cX7_through 48 = .ok (.aload_n 0, 1) := by decide +kernel
theorem dX7_through_49 : decode cX7_through 49 = .ok (.iload_n 1, 1) := by decide +kernel
theorem dX7_through_50 : decode cX7_through 50 = .ok (.iload 6, 2) := by decide +kernel
theorem dX7_through_52 : decode cX7_through 52 = .ok (.invokevirtual 121, 3) := by decide +kernel
theorem dX7_through_55 : decode cX7_through 55 = .ok (.istore 7, 2) := by decide +kernel
theorem dX7_through_57 : decode cX7_through 57 = .ok (.aload_n 0, 1) := by decide +kernel
theorem dX7_through_58 : decode cX7_through 58 = .ok (.iload_n 1, 1) := by decide +kernel
theorem dX7_through_59 : decode cX7_through 59 = .ok (.iload 6, 2) := by decide +kernel
theorem dX7_through_61 : decode cX7_through 61 = .ok (.invokevirtual 115, 3) := by decide +kernel
theorem dX7_through_64 : decode cX7_through 64 = .ok (.istore 8, 2) := by decide +kernel
theorem dX7_through_66 : decode cX7_through 66 = .ok (.iconst 0, 1) := by decide +kernel
theorem dX7_through_67 : decode cX7_through 67 = .ok (.istore 9, 2) := by decide +kernel
theorem dX7_through_69 : decode cX7_through 69 = .ok (.iload 9, 2) := by decide +kernel
theorem dX7_through_71 : decode cX7_through 71 = .ok (.aload_n 0, 1) := by decide +kernel
theorem dX7_through_72 : decode cX7_through 72 = .ok (.iload_n 1, 1) := by decide +kernel
theorem dX7_through_73 : decode cX7_through 73 = .ok (.iload 7, 2) := by decide +kernel
theorem dX7_through_75 : decode cX7_through 75 = .ok (.invokevirtual 118, 3) := by decide +kernel
theorem dX7_through_78 : decode cX7_through 78 = .ok (.if_icmp .ge 83, 3) := by decide +kernel
theorem dX7_through_81 : decode cX7_through 81 = .ok (.aload_n 0, 1) := by decide +kernel
theorem dX7_through_82 : decode cX7_through 82 = .ok (.invokevirtual 158, 3) := by decide +kernel
theorem dX7_through_85 : decode cX7_through 85 = .ok (.astore 10, 2) := by decide +kernel
theorem dX7_through_87 : decode cX7_through 87 = .ok (.aload 10, 2) := by decide +kernel
theorem dX7_through_89 : decode cX7_through 89 = .ok (.aload_n 0, 1) := by decide +kernel
theorem dX7_through_90 : decode cX7_through 90 = .ok (.getfield 36, 3) := by decide +kernel
theorem dX7_through_93 : decode cX7_through 93 = .ok (.iload 7, 2) := by decide +kernel
theorem dX7_through_95 : decode cX7_through 95 = .ok (.iaload, 1) := by decide +kernel
theorem dX7_through_96 : decode cX7_through 96 = .ok (.iload 9, 2) := by decide +kernel
theorem dX7_through_98 : decode cX7_through 98 = .ok (.iadd, 1) := by decide +kernel
theorem dX7_through_99 : decode cX7_through 99 = .ok (.iconst 1, 1) := by decide +kernel
theorem dX7_through_100 : decode cX7_through 100 = .ok (.iastore, 1) := by decide +kernel
theorem dX7_through_101 : decode cX7_through 101 = .ok (.iconst 0, 1) := by decide +kernel
theorem dX7_through_102 : decode cX7_through 102 = .ok (.istore 11, 2) := by decide +kernel
theorem dX7_through_104 : decode cX7_through 104 = .ok (.iload 11, 2) := by decide +kernel
theorem dX7_through_106 : decode cX7_through 106 = .ok (.aload_n 0, 1) := by decide +kernel
theorem dX7_through_107 : decode cX7_through 107 = .ok (.iload_n 1, 1) := by decide +kernel
theorem dX7_through_108 : decode cX7_through 108 = .ok (.iload 8, 2) := by decide +kernel
theorem dX7_through_110 : decode cX7_through 110 = .ok (.invokevirtual 118, 3) := by decide +kernel
theorem dX7_through_113 : decode cX7_through 113 = .ok (.if_icmp .ge 42, 3) := by decide +kernel
theorem dX7_through_116 : decode cX7_through 116 = .ok (.aload 10, 2) := by decide +kernel
theorem dX7_through_118 : decode cX7_through 118 = .ok (.aload_n 0, 1) := by decide +kernel
theorem dX7_through_119 : decode cX7_through 119 = .ok (.getfield 36, 3) := by decide +kernel
theorem dX7_through_122 : decode cX7_through 122 = .ok (.iload 8, 2) := by decide +kernel
theorem dX7_through_124 : decode cX7_through 124 = .ok (.iaload, 1) := by decide +kernel
theorem dX7_through_125 : decode cX7_through 125 = .ok (.iload 11, 2) := by decide +kernel
theorem dX7_through_127 : decode cX7_through 127 = .ok (.iadd, 1) := by decide +kernel
theorem dX7_through_128 : decode cX7_through 128 = .ok (.aload_n 0, 1) := by decide +kernel
theorem dX7_through_129 : decode cX7_through 129 = .ok (.aload_n 0, 1) := by decide +kernel
theorem dX7_through_130 : decode cX7_through 130 = .ok (.getfield 16, 3) := by decide +kernel
theorem dX7_through_133 : decode cX7_through 133 = .ok (.iload_n 1, 1) := by decide +kernel
theorem dX7_through_134 : decode cX7_through 134 = .ok (.iload 6, 2) := by decide +kernel
theorem dX7_through_136 : decode cX7_through 136 = .ok (.iload 11, 2) := by decide +kernel
theorem dX7_through_138 : decode cX7_through 138 = .ok (.iload 9, 2) := by decide +kernel
theorem dX7_through_140 : decode cX7_through 140 = .ok (.invokestatic 128, 3) := by decide +kernel
theorem dX7_through_143 : decode cX7_through 143 = .ok (.iaload, 1) := by decide +kernel
theorem dX7_through_144 : decode cX7_through 144 = .ok (.ineg, 1) := by decide +kernel
theorem dX7_through_145 : decode cX7_through 145 = .ok (.invokevirtual 132, 3) := by decide +kernel
theorem dX7_through_148 : decode cX7_through 148 = .ok (.iastore, 1) := by decide +kernel
theorem dX7_through_149 : decode cX7_through 149 = .ok (.iinc 11 1, 3) := by decide +kernel
theorem dX7_through_152 : decode cX7_through 152 = .ok (.goto (-48), 3) := by decide +kernel
theorem dX7_through_155 : decode cX7_through 155 = .ok (.iinc 9 1, 3) := by decide +kernel
theorem dX7_through_158 : decode cX7_through 158 = .ok (.goto (-89), 3) := by decide +kernel
theorem dX7_through_161 : decode cX7_through 161 = .ok (.iinc 6 1, 3) := by decide +kernel
theorem dX7_through_164 : decode cX7_through 164 = .ok (.goto (-122), 3) := by decide +kernel
theorem dX7_through_167 : decode cX7_through 167 = .ok (.aload_n 0, 1) := by decide +kernel
theorem dX7_through_168 : decode cX7_through 168 = .ok (.invokevirtual 162, 3) := by decide +kernel
theorem dX7_through_171 : decode cX7_through 171 = .ok (.istore 6, 2) := by decide +kernel
theorem dX7_through_173 : decode cX7_through 173 = .ok (.iconst 0, 1) := by decide +kernel
theorem dX7_through_174 : decode cX7_through 174 = .ok (.istore 7, 2) := by decide +kernel
theorem dX7_through_176 : decode cX7_through 176 = .ok (.iload 7, 2) := by decide +kernel
theorem dX7_through_178 : decode cX7_through 178 = .ok (.iload 4, 2) := by decide +kernel
theorem dX7_through_180 : decode cX7_through 180 = .ok (.if_icmp .ge 50, 3) := by decide +kernel
theorem dX7_through_183 : decode cX7_through 183 = .ok (.aload_n 0, 1) := by decide +kernel
theorem dX7_through_184 : decode cX7_through 184 = .ok (.invokevirtual 158, 3) := by decide +kernel
theorem dX7_through_187 : decode cX7_through 187 = .ok (.astore 8, 2) := by decide +kernel
theorem dX7_through_189 : decode cX7_through 189 = .ok (.iconst 0, 1) := by decide +kernel
theorem dX7_through_190 : decode cX7_through 190 = .ok (.istore 9, 2) := by decide +kernel
theorem dX7_through_192 : decode cX7_through 192 = .ok (.iload 9, 2) := by decide +kernel
theorem dX7_through_194 : decode cX7_through 194 = .ok (.aload_n 0, 1) := by decide +kernel
theorem dX7_through_195 : decode cX7_through 195 = .ok (.iload_n 1, 1) := by decide +kernel
theorem dX7_through_196 : decode cX7_through 196 = .ok (.iload_n 2, 1) := by decide +kernel
theorem dX7_through_197 : decode cX7_through 197 = .ok (.invokevirtual 118, 3) := by decide +kernel
theorem dX7_through_200 : decode cX7_through 200 = .ok (.if_icmp .ge 24, 3) := by decide +kernel
theorem dX7_through_203 : decode cX7_through 203 = .ok (.aload 8, 2) := by decide +kernel
theorem dX7_through_205 : decode cX7_through 205 = .ok (.iload 9, 2) := by decide +kernel
theorem dX7_through_207 : decode cX7_through 207 = .ok (.aload_n 0, 1) := by decide +kernel
theorem dX7_through_208 : decode cX7_through 208 = .ok (.getfield 39, 3) := by decide +kernel
theorem dX7_through_211 : decode cX7_through 211 = .ok (.iload 7, 2) := by decide +kernel
theorem dX7_through_213 : decode cX7_through 213 = .ok (.aaload, 1) := by decide +kernel
theorem dX7_through_214 : decode cX7_through 214 = .ok (.iload 9, 2) := by decide +kernel
theorem dX7_through_216 : decode cX7_through 216 = .ok (.iaload, 1) := by decide +kernel
theorem dX7_through_217 : decode cX7_through 217 = .ok (.iastore, 1) := by decide +kernel
theorem dX7_through_218 : decode cX7_through 218 = .ok (.iinc 9 1, 3) := by decide +kernel
theorem dX7_through_221 : decode cX7_through 221 = .ok (.goto (-29), 3) := by decide +kernel
theorem dX7_through_224 : decode cX7_through 224 = .ok (.iinc 7 1, 3) := by decide +kernel
theorem dX7_through_227 : decode cX7_through 227 = .ok (.goto (-51), 3) := by decide +kernel
theorem dX7_through_230 : decode cX7_through 230 = .ok (.aload_n 0, 1) := by decide +kernel
theorem dX7_through_231 : decode cX7_through 231 = .ok (.invokevirtual 162, 3) := by decide +kernel
theorem dX7_through_234 : decode cX7_through 234 = .ok (.iload 6, 2) := by decide +kernel
theorem dX7_through_236 : decode cX7_through 236 = .ok (.isub, 1) := by decide +kernel
theorem dX7_through_237 : decode cX7_through 237 = .ok (.ireturn, 1) := by decide +kernel
theorem dX7_times_0 : decode cX7_times 0 = .ok (.aload_n 0, 1) := by decide +kernel
theorem dX7_times_1 : decode cX7_times 1 = .ok (.iload_n 1, 1) := by decide +kernel
theorem dX7_times_2 : decode cX7_times 2 = .ok (.iload_n 2, 1) := by decide +kernel
theorem dX7_times_3 : decode cX7_times 3 = .ok (.iload_n 3, 1) := by decide +kernel
theorem dX7_times_4 : decode cX7_times 4 = .ok (.invokevirtual 181, 3) := by decide +kernel
theorem dX7_times_7 : decode cX7_times 7 = .ok (.aload_n 0, 1) := by decide +kernel
theorem dX7_times_8 : decode cX7_times 8 = .ok (.iload_n 1, 1) := by decide +kernel
theorem dX7_times_9 : decode cX7_times 9 = .ok (.iload_n 2, 1) := by decide +kernel
theorem dX7_times_10 : decode cX7_times 10 = .ok (.iconst 1, 1) := by decide +kernel
theorem dX7_times_11 : decode cX7_times 11 = .ok (.isub, 1) := by decide +kernel
theorem dX7_times_12 : decode cX7_times 12 = .ok (.iload_n 3, 1) := by decide +kernel
theorem dX7_times_13 : decode cX7_times 13 = .ok (.invokevirtual 181, 3) := by decide +kernel
theorem dX7_times_16 : decode cX7_times 16 = .ok (.isub, 1) := by decide +kernel
theorem dX7_times_17 : decode cX7_times 17 = .ok (.aload_n 0, 1) := by decide +kernel
theorem dX7_times_18 : decode cX7_times 18 = .ok (.iload_n 1, 1) := by decide +kernel
theorem dX7_times_19 : decode cX7_times 19 = .ok (.iload_n 2, 1) := by decide +kernel
theorem dX7_times_20 : decode cX7_times 20 = .ok (.iload_n 3, 1) := by decide +kernel
theorem dX7_times_21 : decode cX7_times 21 = .ok (.iconst 1, 1) := by decide +kernel
theorem dX7_times_22 : decode cX7_times 22 = .ok (.iadd, 1) := by decide +kernel
theorem dX7_times_23 : decode cX7_times 23 = .ok (.invokevirtual 181, 3) := by decide +kernel
theorem dX7_times_26 : decode cX7_times 26 = .ok (.isub, 1) := by decide +kernel
theorem dX7_times_27 : decode cX7_times 27 = .ok (.aload_n 0, 1) := by decide +kernel
theorem dX7_times_28 : decode cX7_times 28 = .ok (.iload_n 1, 1) := by decide +kernel
theorem dX7_times_29 : decode cX7_times 29 = .ok (.iload_n 2, 1) := by decide +kernel
theorem dX7_times_30 : decode cX7_times 30 = .ok (.iconst 1, 1) := by decide +kernel
theorem dX7_times_31 : decode cX7_times 31 = .ok (.isub, 1) := by decide +kernel
theorem dX7_times_32 : decode cX7_times 32 = .ok (.iload_n 3, 1) := by decide +kernel
theorem dX7_times_33 : decode cX7_times 33 = .ok (.iconst 1, 1) := by decide +kernel
theorem dX7_times_34 : decode cX7_times 34 = .ok (.iadd, 1) := by decide +kernel
theorem dX7_times_35 : decode cX7_times 35 = .ok (.invokevirtual 181, 3) := by decide +kernel
theorem dX7_times_38 : decode cX7_times 38 = .ok (.iadd, 1) := by decide +kernel
theorem dX7_times_39 : decode cX7_times 39 = .ok (.ireturn, 1) := by decide +kernel
theorem dX7_spans_0 : decode cX7_spans 0 = .ok (.iload_n 1, 1) := by decide +kernel
theorem dX7_spans_1 : decode cX7_spans 1 = .ok (.invokestatic 104, 3) := by decide +kernel
theorem dX7_spans_4 : decode cX7_spans 4 = .ok (.ifCond .eq 34, 3) := by decide +kernel
theorem dX7_spans_7 : decode cX7_spans 7 = .ok (.aload_n 0, 1) := by decide +kernel
theorem dX7_spans_8 : decode cX7_spans 8 = .ok (.iload_n 2, 1) := by decide +kernel
theorem dX7_spans_9 : decode cX7_spans 9 = .ok (.invokevirtual 136, 3) := by decide +kernel
theorem dX7_spans_12 : decode cX7_spans 12 = .ok (.ifCond .eq 26, 3) := by decide +kernel
theorem dX7_spans_15 : decode cX7_spans 15 = .ok (.aload_n 0, 1) := by decide +kernel
theorem dX7_spans_16 : decode cX7_spans 16 = .ok (.iload_n 3, 1) := by decide +kernel
theorem dX7_spans_17 : decode cX7_spans 17 = .ok (.invokevirtual 136, 3) := by decide +kernel
theorem dX7_spans_20 : decode cX7_spans 20 = .ok (.ifCond .eq 18, 3) := by decide +kernel
theorem dX7_spans_23 : decode cX7_spans 23 = .ok (.iload_n 2, 1) := by decide +kernel
theorem dX7_spans_24 : decode cX7_spans 24 = .ok (.iload_n 3, 1) := by decide +kernel
theorem dX7_spans_25 : decode cX7_spans 25 = .ok (.if_icmp .gt 13, 3) := by decide +kernel
theorem dX7_spans_28 : decode cX7_spans 28 = .ok (.aload_n 0, 1) := by decide +kernel
theorem dX7_spans_29 : decode cX7_spans 29 = .ok (.iload_n 1, 1) := by decide +kernel
theorem dX7_spans_30 : decode cX7_spans 30 = .ok (.iload_n 2, 1) := by decide +kernel
theorem dX7_spans_31 : decode cX7_spans 31 = .ok (.iload_n 3, 1) := by decide +kernel
theorem dX7_spans_32 : decode cX7_spans 32 = .ok (.invokevirtual 184, 3) := by decide +kernel
theorem dX7_spans_35 : decode cX7_spans 35 = .ok (.goto 4, 3) := by decide +kernel
theorem dX7_spans_38 : decode cX7_spans 38 = .ok (.iconst (-1), 1) := by decide +kernel
theorem dX7_spans_39 : decode cX7_spans 39 = .ok (.ireturn, 1) := by decide +kernel
theorem dX7_like_0 : decode cX7_like 0 = .ok (.aload_n 0, 1) := by decide +kernel
theorem dX7_like_1 : decode cX7_like 1 = .ok (.iload_n 1, 1) := by decide +kernel
theorem dX7_like_2 : decode cX7_like 2 = .ok (.iload_n 2, 1) := by decide +kernel
theorem dX7_like_3 : decode cX7_like 3 = .ok (.invokevirtual 169, 3) := by decide +kernel
theorem dX7_like_6 : decode cX7_like 6 = .ok (.ifCond .ne 5, 3) := by decide +kernel
theorem dX7_like_9 : decode cX7_like 9 = .ok (.iconst 0, 1) := by decide +kernel
theorem dX7_like_10 : decode cX7_like 10 = .ok (.ireturn, 1) := by decide +kernel
theorem dX7_like_11 : decode cX7_like 11 = .ok (.iconst 0, 1) := by decide +kernel
theorem dX7_like_12 : decode cX7_like 12 = .ok (.istore_n 3, 1) := by decide +kernel
theorem dX7_like_13 : decode cX7_like 13 = .ok (.iload_n 3, 1) := by decide +kernel
theorem dX7_like_14 : decode cX7_like 14 = .ok (.aload_n 0, 1) := by decide +kernel
theorem dX7_like_15 : decode cX7_like 15 = .ok (.getfield 93, 3) := by decide +kernel
theorem dX7_like_18 : decode cX7_like 18 = .ok (.if_icmp .ge 48, 3) := by decide +kernel
theorem dX7_like_21 : decode cX7_like 21 = .ok (.iload_n 3, 1) := by decide +kernel
theorem dX7_like_22 : decode cX7_like 22 = .ok (.istore 4, 2) := by decide +kernel
theorem dX7_like_24 : decode cX7_like 24 = .ok (.iload 4, 2) := by decide +kernel
theorem dX7_like_26 : decode cX7_like 26 = .ok (.aload_n 0, 1) := by decide +kernel
theorem dX7_like_27 : decode cX7_like 27 = .ok (.getfield 93, 3) := by decide +kernel
theorem dX7_like_30 : decode cX7_like 30 = .ok (.if_icmp .ge 30, 3) := by decide +kernel
theorem dX7_like_33 : decode cX7_like 33 = .ok (.aload_n 0, 1) := by decide +kernel
theorem dX7_like_34 : decode cX7_like 34 = .ok (.iload_n 1, 1) := by decide +kernel
theorem dX7_like_35 : decode cX7_like 35 = .ok (.iload_n 3, 1) := by decide +kernel
theorem dX7_like_36 : decode cX7_like 36 = .ok (.iload 4, 2) := by decide +kernel
theorem dX7_like_38 : decode cX7_like 38 = .ok (.invokevirtual 184, 3) := by decide +kernel
theorem dX7_like_41 : decode cX7_like 41 = .ok (.aload_n 0, 1) := by decide +kernel
theorem dX7_like_42 : decode cX7_like 42 = .ok (.iload_n 2, 1) := by decide +kernel
theorem dX7_like_43 : decode cX7_like 43 = .ok (.iload_n 3, 1) := by decide +kernel
theorem dX7_like_44 : decode cX7_like 44 = .ok (.iload 4, 2) := by decide +kernel
theorem dX7_like_46 : decode cX7_like 46 = .ok (.invokevirtual 184, 3) := by decide +kernel
theorem dX7_like_49 : decode cX7_like 49 = .ok (.if_icmp .eq 5, 3) := by decide +kernel
theorem dX7_like_52 : decode cX7_like 52 = .ok (.iconst 0, 1) := by decide +kernel
theorem dX7_like_53 : decode cX7_like 53 = .ok (.ireturn, 1) := by decide +kernel
theorem dX7_like_54 : decode cX7_like 54 = .ok (.iinc 4 1, 3) := by decide +kernel
theorem dX7_like_57 : decode cX7_like 57 = .ok (.goto (-33), 3) := by decide +kernel
theorem dX7_like_60 : decode cX7_like 60 = .ok (.iinc 3 1, 3) := by decide +kernel
theorem dX7_like_63 : decode cX7_like 63 = .ok (.goto (-50), 3) := by decide +kernel
theorem dX7_like_66 : decode cX7_like 66 = .ok (.iconst 1, 1) := by decide +kernel
theorem dX7_like_67 : decode cX7_like 67 = .ok (.ireturn, 1) := by decide +kernel
theorem dX7_rank_0 : decode cX7_rank 0 = .ok (.iload_n 1, 1) := by decide +kernel
theorem dX7_rank_1 : decode cX7_rank 1 = .ok (.invokestatic 104, 3) := by decide +kernel
theorem dX7_rank_4 : decode cX7_rank 4 = .ok (.ifCond .eq 19, 3) := by decide +kernel
theorem dX7_rank_7 : decode cX7_rank 7 = .ok (.aload_n 0, 1) := by decide +kernel
theorem dX7_rank_8 : decode cX7_rank 8 = .ok (.iload_n 2, 1) := by decide +kernel
theorem dX7_rank_9 : decode cX7_rank 9 = .ok (.invokevirtual 136, 3) := by decide +kernel
theorem dX7_rank_12 : decode cX7_rank 12 = .ok (.ifCond .eq 11, 3) := by decide +kernel
theorem dX7_rank_15 : decode cX7_rank 15 = .ok (.aload_n 0, 1) := by decide +kernel
theorem dX7_rank_16 : decode cX7_rank 16 = .ok (.iload_n 3, 1) := by decide +kernel
theorem dX7_rank_17 : decode cX7_rank 17 = .ok (.invokevirtual 136, 3) := by decide +kernel
theorem dX7_rank_20 : decode cX7_rank 20 = .ok (.ifCond .ne 5, 3) := by decide +kernel
theorem dX7_rank_23 : decode cX7_rank 23 = .ok (.iconst (-1), 1) := by decide +kernel
theorem dX7_rank_24 : decode cX7_rank 24 = .ok (.ireturn, 1) := by decide +kernel
theorem dX7_rank_25 : decode cX7_rank 25 = .ok (.iload_n 2, 1) := by decide +kernel
theorem dX7_rank_26 : decode cX7_rank 26 = .ok (.iload_n 3, 1) := by decide +kernel
theorem dX7_rank_27 : decode cX7_rank 27 = .ok (.invokestatic 84, 3) := by decide +kernel
theorem dX7_rank_30 : decode cX7_rank 30 = .ok (.istore 4, 2) := by decide +kernel
theorem dX7_rank_32 : decode cX7_rank 32 = .ok (.iload 4, 2) := by decide +kernel
theorem dX7_rank_34 : decode cX7_rank 34 = .ok (.iload_n 2, 1) := by decide +kernel
theorem dX7_rank_35 : decode cX7_rank 35 = .ok (.iload_n 3, 1) := by decide +kernel
theorem dX7_rank_36 : decode cX7_rank 36 = .ok (.invokestatic 90, 3) := by decide +kernel
theorem dX7_rank_39 : decode cX7_rank 39 = .ok (.if_icmp .ge 31, 3) := by decide +kernel
theorem dX7_rank_42 : decode cX7_rank 42 = .ok (.aload_n 0, 1) := by decide +kernel
theorem dX7_rank_43 : decode cX7_rank 43 = .ok (.iload_n 1, 1) := by decide +kernel
theorem dX7_rank_44 : decode cX7_rank 44 = .ok (.iload 4, 2) := by decide +kernel
theorem dX7_rank_46 : decode cX7_rank 46 = .ok (.invokevirtual 100, 3) := by decide +kernel
theorem dX7_rank_49 : decode cX7_rank 49 = .ok (.iload_n 2, 1) := by decide +kernel
theorem dX7_rank_50 : decode cX7_rank 50 = .ok (.iload_n 3, 1) := by decide +kernel
theorem dX7_rank_51 : decode cX7_rank 51 = .ok (.if_icmp .le 7, 3) := by decide +kernel
theorem dX7_rank_54 : decode cX7_rank 54 = .ok (.iconst 1, 1) := by decide +kernel
theorem dX7_rank_55 : decode cX7_rank 55 = .ok (.goto 4, 3) := by decide +kernel
theorem dX7_rank_58 : decode cX7_rank 58 = .ok (.iconst 0, 1) := by decide +kernel
theorem dX7_rank_59 : decode cX7_rank 59 = .ok (.if_icmp .eq 5, 3) := by decide +kernel
theorem dX7_rank_62 : decode cX7_rank 62 = .ok (.iconst (-1), 1) := by decide +kernel
theorem dX7_rank_63 : decode cX7_rank 63 = .ok (.ireturn, 1) := by decide +kernel
theorem dX7_rank_64 : decode cX7_rank 64 = .ok (.iinc 4 1, 3) := by decide +kernel
theorem dX7_rank_67 : decode cX7_rank 67 = .ok (.goto (-35), 3) := by decide +kernel
theorem dX7_rank_70 : decode cX7_rank 70 = .ok (.aload_n 0, 1) := by decide +kernel
theorem dX7_rank_71 : decode cX7_rank 71 = .ok (.aload_n 0, 1) := by decide +kernel
theorem dX7_rank_72 : decode cX7_rank 72 = .ok (.iload_n 1, 1) := by decide +kernel
theorem dX7_rank_73 : decode cX7_rank 73 = .ok (.iload_n 3, 1) := by decide +kernel
theorem dX7_rank_74 : decode cX7_rank 74 = .ok (.invokevirtual 118, 3) := by decide +kernel
theorem dX7_rank_77 : decode cX7_rank 77 = .ok (.invokevirtual 155, 3) := by decide +kernel
theorem dX7_rank_80 : decode cX7_rank 80 = .ok (.iconst 0, 1) := by decide +kernel
theorem dX7_rank_81 : decode cX7_rank 81 = .ok (.istore 4, 2) := by decide +kernel
theorem dX7_rank_83 : decode cX7_rank 83 = .ok (.iload 4, 2) := by decide +kernel
theorem dX7_rank_85 : decode cX7_rank 85 = .ok (.aload_n 0, 1) := by decide +kernel
theorem dX7_rank_86 : decode cX7_rank 86 = .ok (.iload_n 1, 1) := by decide +kernel
theorem dX7_rank_87 : decode cX7_rank 87 = .ok (.iload_n 2, 1) := by decide +kernel
theorem dX7_rank_88 : decode cX7_rank 88 = .ok (.invokevirtual 118, 3) := by decide +kernel
theorem dX7_rank_91 : decode cX7_rank 91 = .ok (.if_icmp .ge 268, 3) := by decide +kernel
theorem dX7_rank_94 : decode cX7_rank 94 = .ok (.iconst 0, 1) := by decide +kernel
theorem dX7_rank_95 : decode cX7_rank 95 = .ok (.istore 5, 2) := by decide +kernel
theorem dX7_rank_97 : decode cX7_rank 97 = .ok (.iload 5, 2) := by decide +kernel
theorem dX7_rank_99 : decode cX7_rank 99 = .ok (.iconst 4, 1) := by decide +kernel
theorem dX7_rank_100 : decode cX7_rank 100 = .ok (.if_icmp .ge 28, 3) := by decide +kernel
theorem dX7_rank_103 : decode cX7_rank 103 = .ok (.aload_n 0, 1) := by decide +kernel
theorem dX7_rank_104 : decode cX7_rank 104 = .ok (.getfield 42, 3) := by decide +kernel
theorem dX7_rank_107 : decode cX7_rank 107 = .ok (.iload 5, 2) := by decide +kernel
theorem dX7_rank_109 : decode cX7_rank 109 = .ok (.iload 5, 2) := by decide +kernel
theorem dX7_rank_111 : decode cX7_rank 111 = .ok (.iload 4, 2) := by decide +kernel
theorem dX7_rank_113 : decode cX7_rank 113 = .ok (.if_icmp .ne 7, 3) := by decide +kernel
theorem dX7_rank_116 : decode cX7_rank 116 = .ok (.iconst 1, 1) := by decide +kernel
theorem dX7_rank_117 : decode cX7_rank 117 = .ok (.goto 4, 3) := by decide +kernel
theorem dX7_rank_120 : decode cX7_rank 120 = .ok (.iconst 0, 1) := by decide +kernel
theorem dX7_rank_121 : decode cX7_rank 121 = .ok (.iastore, 1) := by decide +kernel
theorem dX7_rank_122 : decode cX7_rank 122 = .ok (.iinc 5 1, 3) := by decide +kernel
theorem dX7_rank_125 : decode cX7_rank 125 = .ok (.goto (-28), 3) := by decide +kernel
theorem dX7_rank_128 : decode cX7_rank 128 = .ok (.iload_n 2, 1) := by decide +kernel
theorem dX7_rank_129 : decode cX7_rank 129 = .ok (.istore 5, 2) := by decide +kernel
theorem dX7_rank_131 : decode cX7_rank 131 = .ok (.iload 5, 2) := by decide +kernel
theorem dX7_rank_133 : decode cX7_rank 133 = .ok (.iload_n 3, 1) := by decide +kernel
theorem dX7_rank_134 : decode cX7_rank 134 = .ok (.if_icmp .eq 181, 3) := by decide +kernel
theorem dX7_rank_137 : decode cX7_rank 137 = .ok (.iload_n 2, 1) := by decide +kernel
theorem dX7_rank_138 : decode cX7_rank 138 = .ok (.iload_n 3, 1) := by decide +kernel
theorem dX7_rank_139 : decode cX7_rank 139 = .ok (.if_icmp .ge 8, 3) := by decide +kernel
theorem dX7_rank_142 : decode cX7_rank 142 = .ok (.iload 5, 2) := by decide +kernel
theorem dX7_rank_144 : decode cX7_rank 144 = .ok (.goto 7, 3) := by decide +kernel
theorem dX7_rank_147 : decode cX7_rank 147 = .ok (.iload 5, 2) := by decide +kernel
theorem dX7_rank_149 : decode cX7_rank 149 = .ok (.iconst 1, 1) := by decide +kernel
theorem dX7_rank_150 : decode cX7_rank 150 = .ok (.isub, 1) := by decide +kernel
theorem dX7_rank_151 : decode cX7_rank 151 = .ok (.istore 6, 2) := by decide +kernel
theorem dX7_rank_153 : decode cX7_rank 153 = .ok (.iload_n 2, 1) := by decide +kernel
theorem dX7_rank_154 : decode cX7_rank 154 = .ok (.iload_n 3, 1) := by decide +kernel
theorem dX7_rank_155 : decode cX7_rank 155 = .ok (.if_icmp .ge 10, 3) := by decide +kernel
theorem dX7_rank_158 : decode cX7_rank 158 = .ok (.iload 5, 2) := by decide +kernel
theorem dX7_rank_160 : decode cX7_rank 160 = .ok (.iconst 1, 1) := by decide +kernel
theorem dX7_rank_161 : decode cX7_rank 161 = .ok (.iadd, 1) := by decide +kernel
theorem dX7_rank_162 : decode cX7_rank 162 = .ok (.goto 7, 3) := by decide +kernel
theorem dX7_rank_165 : decode cX7_rank 165 = .ok (.iload 5, 2) := by decide +kernel
theorem dX7_rank_167 : decode cX7_rank 167 = .ok (.iconst 1, 1) := by decide +kernel
theorem dX7_rank_168 : decode cX7_rank 168 = .ok (.isub, 1) := by decide +kernel
theorem dX7_rank_169 : decode cX7_rank 169 = .ok (.istore 7, 2) := by decide +kernel
theorem dX7_rank_171 : decode cX7_rank 171 = .ok (.iconst 0, 1) := by decide +kernel
theorem dX7_rank_172 : decode cX7_rank 172 = .ok (.istore 8, 2) := by decide +kernel
theorem dX7_rank_174 : decode cX7_rank 174 = .ok (.iload 8, 2) := by decide +kernel
theorem dX7_rank_176 : decode cX7_rank 176 = .ok (.aload_n 0, 1) := by decide +kernel
theorem dX7_rank_177 : decode cX7_rank 177 = .ok (.iload_n 1, 1) := by decide +kernel
theorem dX7_rank_178 : decode cX7_rank 178 = .ok (.iload 7, 2) := by decide +kernel
theorem dX7_rank_180 : decode cX7_rank 180 = .ok (.invokevirtual 118, 3) := by decide +kernel
theorem dX7_rank_183 : decode cX7_rank 183 = .ok (.if_icmp .ge 80, 3) := by decide +kernel
theorem dX7_rank_186 : decode cX7_rank 186 = .ok (.aload_n 0, 1) := by decide +kernel
theorem dX7_rank_187 : decode cX7_rank 187 = .ok (.getfield 45, 3) := by decide +kernel
theorem dX7_rank_190 : decode cX7_rank 190 = .ok (.iload 8, 2) := by decide +kernel
theorem dX7_rank_192 : decode cX7_rank 192 = .ok (.iconst 0, 1) := by decide +kernel
theorem dX7_rank_193 : decode cX7_rank 193 = .ok (.iastore, 1) := by decide +kernel
theorem dX7_rank_194 : decode cX7_rank 194 = .ok (.iconst 0, 1) := by decide +kernel
theorem dX7_rank_195 : decode cX7_rank 195 = .ok (.istore 9, 2) := by decide +kernel
theorem dX7_rank_197 : decode cX7_rank 197 = .ok (.iload 9, 2) := by decide +kernel
theorem dX7_rank_199 : decode cX7_rank 199 = .ok (.aload_n 0, 1) := by decide +kernel
theorem dX7_rank_200 : decode cX7_rank 200 = .ok (.iload_n 1, 1) := by decide +kernel
theorem dX7_rank_201 : decode cX7_rank 201 = .ok (.iload 5, 2) := by decide +kernel
theorem dX7_rank_203 : decode cX7_rank 203 = .ok (.invokevirtual 118, 3) := by decide +kernel
theorem dX7_rank_206 : decode cX7_rank 206 = .ok (.if_icmp .ge 51, 3) := by decide +kernel
theorem dX7_rank_209 : decode cX7_rank 209 = .ok (.aload_n 0, 1) := by decide +kernel
theorem dX7_rank_210 : decode cX7_rank 210 = .ok (.getfield 45, 3) := by decide +kernel
theorem dX7_rank_213 : decode cX7_rank 213 = .ok (.iload 8, 2) := by decide +kernel
theorem dX7_rank_215 : decode cX7_rank 215 = .ok (.aload_n 0, 1) := by decide +kernel
theorem dX7_rank_216 : decode cX7_rank 216 = .ok (.aload_n 0, 1) := by decide +kernel
theorem dX7_rank_217 : decode cX7_rank 217 = .ok (.getfield 45, 3) := by decide +kernel
theorem dX7_rank_220 : decode cX7_rank 220 = .ok (.iload 8, 2) := by decide +kernel
theorem dX7_rank_222 : decode cX7_rank 222 = .ok (.iaload, 1) := by decide +kernel
theorem dX7_rank_223 : decode cX7_rank 223 = .ok (.aload_n 0, 1) := by decide +kernel
theorem dX7_rank_224 : decode cX7_rank 224 = .ok (.getfield 16, 3) := by decide +kernel
theorem dX7_rank_227 : decode cX7_rank 227 = .ok (.iload_n 1, 1) := by decide +kernel
theorem dX7_rank_228 : decode cX7_rank 228 = .ok (.iload 6, 2) := by decide +kernel
theorem dX7_rank_230 : decode cX7_rank 230 = .ok (.iload 8, 2) := by decide +kernel
theorem dX7_rank_232 : decode cX7_rank 232 = .ok (.iload 9, 2) := by decide +kernel
theorem dX7_rank_234 : decode cX7_rank 234 = .ok (.invokestatic 128, 3) := by decide +kernel
theorem dX7_rank_237 : decode cX7_rank 237 = .ok (.iaload, 1) := by decide +kernel
theorem dX7_rank_238 : decode cX7_rank 238 = .ok (.aload_n 0, 1) := by decide +kernel
theorem dX7_rank_239 : decode cX7_rank 239 = .ok (.getfield 42, 3) := by decide +kernel
theorem dX7_rank_242 : decode cX7_rank 242 = .ok (.iload 9, 2) := by decide +kernel
theorem dX7_rank_244 : decode cX7_rank 244 = .ok (.iaload, 1) := by decide +kernel
theorem dX7_rank_245 : decode cX7_rank 245 = .ok (.imul, 1) := by decide +kernel
theorem dX7_rank_246 : decode cX7_rank 246 = .ok (.iadd, 1) := by decide +kernel
theorem dX7_rank_247 : decode cX7_rank 247 = .ok (.invokevirtual 132, 3) := by decide +kernel
theorem dX7_rank_250 : decode cX7_rank 250 = .ok (.iastore, 1) := by decide +kernel
theorem dX7_rank_251 : decode cX7_rank 251 = .ok (.iinc 9 1, 3) := by decide +kernel
theorem dX7_rank_254 : decode cX7_rank 254 = .ok (.goto (-57), 3) := by decide +kernel
theorem dX7_rank_257 : decode cX7_rank 257 = .ok (.iinc 8 1, 3) := by decide +kernel
theorem dX7_rank_260 : decode cX7_rank 260 = .ok (.goto (-86), 3) := by decide +kernel
theorem dX7_rank_263 : decode cX7_rank 263 = .ok (.iconst 0, 1) := by decide +kernel
theorem dX7_rank_264 : decode cX7_rank 264 = .ok (.istore 8, 2) := by decide +kernel
theorem dX7_rank_266 : decode cX7_rank 266 = .ok (.iload 8, 2) := by decide +kernel
theorem dX7_rank_268 : decode cX7_rank 268 = .ok (.iconst 4, 1) := by decide +kernel
theorem dX7_rank_269 : decode cX7_rank 269 = .ok (.if_icmp .ge 39, 3) := by decide +kernel
theorem dX7_rank_272 : decode cX7_rank 272 = .ok (.aload_n 0, 1) := by decide +kernel
theorem dX7_rank_273 : decode cX7_rank 273 = .ok (.getfield 42, 3) := by decide +kernel
theorem dX7_rank_276 : decode cX7_rank 276 = .ok (.iload 8, 2) := by decide +kernel
theorem dX7_rank_278 : decode cX7_rank 278 = .ok (.iload 8, 2) := by decide +kernel
theorem dX7_rank_280 : decode cX7_rank 280 = .ok (.aload_n 0, 1) := by decide +kernel
theorem dX7_rank_281 : decode cX7_rank 281 = .ok (.iload_n 1, 1) := by decide +kernel
theorem dX7_rank_282 : decode cX7_rank 282 = .ok (.iload 7, 2) := by decide +kernel
theorem dX7_rank_284 : decode cX7_rank 284 = .ok (.invokevirtual 118, 3) := by decide +kernel
theorem dX7_rank_287 : decode cX7_rank 287 = .ok (.if_icmp .ge 13, 3) := by decide +kernel
theorem dX7_rank_290 : decode cX7_rank 290 = .ok (.aload_n 0, 1) := by decide +kernel
theorem dX7_rank_291 : decode cX7_rank 291 = .ok (.getfield 45, 3) := by decide +kernel
theorem dX7_rank_294 : decode cX7_rank 294 = .ok (.iload 8, 2) := by decide +kernel
theorem dX7_rank_296 : decode cX7_rank 296 = .ok (.iaload, 1) := by decide +kernel
theorem dX7_rank_297 : decode cX7_rank 297 = .ok (.goto 4, 3) := by decide +kernel
theorem dX7_rank_300 : decode cX7_rank 300 = .ok (.iconst 0, 1) := by decide +kernel
theorem dX7_rank_301 : decode cX7_rank 301 = .ok (.iastore, 1) := by decide +kernel
theorem dX7_rank_302 : decode cX7_rank 302 = .ok (.iinc 8 1, 3) := by decide +kernel
theorem dX7_rank_305 : decode cX7_rank 305 = .ok (.goto (-39), 3) := by decide +kernel
theorem dX7_rank_308 : decode cX7_rank 308 = .ok (.iload 7, 2) := by decide +kernel
theorem dX7_rank_310 : decode cX7_rank 310 = .ok (.istore 5, 2) := by decide +kernel
theorem dX7_rank_312 : decode cX7_rank 312 = .ok (.goto (-181), 3) := by decide +kernel
theorem dX7_rank_315 : decode cX7_rank 315 = .ok (.aload_n 0, 1) := by decide +kernel
theorem dX7_rank_316 : decode cX7_rank 316 = .ok (.invokevirtual 158, 3) := by decide +kernel
theorem dX7_rank_319 : decode cX7_rank 319 = .ok (.astore 5, 2) := by decide +kernel
theorem dX7_rank_321 : decode cX7_rank 321 = .ok (.iconst 0, 1) := by decide +kernel
theorem dX7_rank_322 : decode cX7_rank 322 = .ok (.istore 6, 2) := by decide +kernel
theorem dX7_rank_324 : decode cX7_rank 324 = .ok (.iload 6, 2) := by decide +kernel
theorem dX7_rank_326 : decode cX7_rank 326 = .ok (.aload_n 0, 1) := by decide +kernel
theorem dX7_rank_327 : decode cX7_rank 327 = .ok (.iload_n 1, 1) := by decide +kernel
theorem dX7_rank_328 : decode cX7_rank 328 = .ok (.iload_n 3, 1) := by decide +kernel
theorem dX7_rank_329 : decode cX7_rank 329 = .ok (.invokevirtual 118, 3) := by decide +kernel
theorem dX7_rank_332 : decode cX7_rank 332 = .ok (.if_icmp .ge 21, 3) := by decide +kernel
theorem dX7_rank_335 : decode cX7_rank 335 = .ok (.aload 5, 2) := by decide +kernel
theorem dX7_rank_337 : decode cX7_rank 337 = .ok (.iload 6, 2) := by decide +kernel
theorem dX7_rank_339 : decode cX7_rank 339 = .ok (.aload_n 0, 1) := by decide +kernel
theorem dX7_rank_340 : decode cX7_rank 340 = .ok (.getfield 42, 3) := by decide +kernel
theorem dX7_rank_343 : decode cX7_rank 343 = .ok (.iload 6, 2) := by decide +kernel
theorem dX7_rank_345 : decode cX7_rank 345 = .ok (.iaload, 1) := by decide +kernel
theorem dX7_rank_346 : decode cX7_rank 346 = .ok (.iastore, 1) := by decide +kernel
theorem dX7_rank_347 : decode cX7_rank 347 = .ok (.iinc 6 1, 3) := by decide +kernel
theorem dX7_rank_350 : decode cX7_rank 350 = .ok (.goto (-26), 3) := by decide +kernel
theorem dX7_rank_353 : decode cX7_rank 353 = .ok (.iinc 4 1, 3) := by decide +kernel
theorem dX7_rank_356 : decode cX7_rank 356 = .ok (.goto (-273), 3) := by decide +kernel
theorem dX7_rank_359 : decode cX7_rank 359 = .ok (.aload_n 0, 1) := by decide +kernel
theorem dX7_rank_360 : decode cX7_rank 360 = .ok (.invokevirtual 162, 3) := by decide +kernel
theorem dX7_rank_363 : decode cX7_rank 363 = .ok (.ireturn, 1) := by decide +kernel
theorem dX7_list_0 : decode cX7_list 0 = .ok (.iconst 0, 1) := by decide +kernel
theorem dX7_list_1 : decode cX7_list 1 = .ok (.istore_n 3, 1) := by decide +kernel
theorem dX7_list_2 : decode cX7_list 2 = .ok (.iconst 0, 1) := by decide +kernel
theorem dX7_list_3 : decode cX7_list 3 = .ok (.istore 4, 2) := by decide +kernel
theorem dX7_list_5 : decode cX7_list 5 = .ok (.iload 4, 2) := by decide +kernel
theorem dX7_list_7 : decode cX7_list 7 = .ok (.aload_n 0, 1) := by decide +kernel
theorem dX7_list_8 : decode cX7_list 8 = .ok (.getfield 93, 3) := by decide +kernel
theorem dX7_list_11 : decode cX7_list 11 = .ok (.if_icmp .ge 84, 3) := by decide +kernel
theorem dX7_list_14 : decode cX7_list 14 = .ok (.iload 4, 2) := by decide +kernel
theorem dX7_list_16 : decode cX7_list 16 = .ok (.istore 5, 2) := by decide +kernel
theorem dX7_list_18 : decode cX7_list 18 = .ok (.iload 5, 2) := by decide +kernel
theorem dX7_list_20 : decode cX7_list 20 = .ok (.aload_n 0, 1) := by decide +kernel
theorem dX7_list_21 : decode cX7_list 21 = .ok (.getfield 93, 3) := by decide +kernel
theorem dX7_list_24 : decode cX7_list 24 = .ok (.if_icmp .ge 65, 3) := by decide +kernel
theorem dX7_list_27 : decode cX7_list 27 = .ok (.aload_n 0, 1) := by decide +kernel
theorem dX7_list_28 : decode cX7_list 28 = .ok (.iload_n 1, 1) := by decide +kernel
theorem dX7_list_29 : decode cX7_list 29 = .ok (.iload 4, 2) := by decide +kernel
theorem dX7_list_31 : decode cX7_list 31 = .ok (.iload 5, 2) := by decide +kernel
theorem dX7_list_33 : decode cX7_list 33 = .ok (.invokevirtual 184, 3) := by decide +kernel
theorem dX7_list_36 : decode cX7_list 36 = .ok (.istore 6, 2) := by decide +kernel
theorem dX7_list_38 : decode cX7_list 38 = .ok (.iconst 0, 1) := by decide +kernel
theorem dX7_list_39 : decode cX7_list 39 = .ok (.istore 7, 2) := by decide +kernel
theorem dX7_list_41 : decode cX7_list 41 = .ok (.iload 7, 2) := by decide +kernel
theorem dX7_list_43 : decode cX7_list 43 = .ok (.iload 6, 2) := by decide +kernel
theorem dX7_list_45 : decode cX7_list 45 = .ok (.if_icmp .ge 38, 3) := by decide +kernel
theorem dX7_list_48 : decode cX7_list 48 = .ok (.aload_n 0, 1) := by decide +kernel
theorem dX7_list_49 : decode cX7_list 49 = .ok (.getfield 48, 3) := by decide +kernel
theorem dX7_list_52 : decode cX7_list 52 = .ok (.bipush 32, 2) := by decide +kernel
theorem dX7_list_54 : decode cX7_list 54 = .ok (.iload_n 2, 1) := by decide +kernel
theorem dX7_list_55 : decode cX7_list 55 = .ok (.imul, 1) := by decide +kernel
theorem dX7_list_56 : decode cX7_list 56 = .ok (.iload_n 3, 1) := by decide +kernel
theorem dX7_list_57 : decode cX7_list 57 = .ok (.iadd, 1) := by decide +kernel
theorem dX7_list_58 : decode cX7_list 58 = .ok (.iload 4, 2) := by decide +kernel
theorem dX7_list_60 : decode cX7_list 60 = .ok (.iastore, 1) := by decide +kernel
theorem dX7_list_61 : decode cX7_list 61 = .ok (.aload_n 0, 1) := by decide +kernel
theorem dX7_list_62 : decode cX7_list 62 = .ok (.getfield 51, 3) := by decide +kernel
theorem dX7_list_65 : decode cX7_list 65 = .ok (.bipush 32, 2) := by decide +kernel
theorem dX7_list_67 : decode cX7_list 67 = .ok (.iload_n 2, 1) := by decide +kernel
theorem dX7_list_68 : decode cX7_list 68 = .ok (.imul, 1) := by decide +kernel
theorem dX7_list_69 : decode cX7_list 69 = .ok (.iload_n 3, 1) := by decide +kernel
theorem dX7_list_70 : decode cX7_list 70 = .ok (.iadd, 1) := by decide +kernel
theorem dX7_list_71 : decode cX7_list 71 = .ok (.iload 5, 2) := by decide +kernel
theorem dX7_list_73 : decode cX7_list 73 = .ok (.iastore, 1) := by decide +kernel
theorem dX7_list_74 : decode cX7_list 74 = .ok (.iinc 3 1, 3) := by decide +kernel
theorem dX7_list_77 : decode cX7_list 77 = .ok (.iinc 7 1, 3) := by decide +kernel
theorem dX7_list_80 : decode cX7_list 80 = .ok (.goto (-39), 3) := by decide +kernel
theorem dX7_list_83 : decode cX7_list 83 = .ok (.iinc 5 1, 3) := by decide +kernel
theorem dX7_list_86 : decode cX7_list 86 = .ok (.goto (-68), 3) := by decide +kernel
theorem dX7_list_89 : decode cX7_list 89 = .ok (.iinc 4 1, 3) := by decide +kernel
theorem dX7_list_92 : decode cX7_list 92 = .ok (.goto (-87), 3) := by decide +kernel
theorem dX7_list_95 : decode cX7_list 95 = .ok (.aload_n 0, 1) := by decide +kernel
theorem dX7_list_96 : decode cX7_list 96 = .ok (.getfield 54, 3) := by decide +kernel
theorem dX7_list_99 : decode cX7_list 99 = .ok (.iload_n 2, 1) := by decide +kernel
theorem dX7_list_100 : decode cX7_list 100 = .ok (.iload_n 3, 1) := by decide +kernel
theorem dX7_list_101 : decode cX7_list 101 = .ok (.iastore, 1) := by decide +kernel
theorem dX7_list_102 : decode cX7_list 102 = .ok (.return_, 1) := by decide +kernel
theorem dX7_cost_0 : decode cX7_cost 0 = .ok (.bipush 32, 2) := by decide +kernel
theorem dX7_cost_2 : decode cX7_cost 2 = .ok (.iload_n 1, 1) := by decide +kernel
theorem dX7_cost_3 : decode cX7_cost 3 = .ok (.imul, 1) := by decide +kernel
theorem dX7_cost_4 : decode cX7_cost 4 = .ok (.iload_n 2, 1) := by decide +kernel
theorem dX7_cost_5 : decode cX7_cost 5 = .ok (.iadd, 1) := by decide +kernel
theorem dX7_cost_6 : decode cX7_cost 6 = .ok (.istore 4, 2) := by decide +kernel
theorem dX7_cost_8 : decode cX7_cost 8 = .ok (.bipush 32, 2) := by decide +kernel
theorem dX7_cost_10 : decode cX7_cost 10 = .ok (.iconst 1, 1) := by decide +kernel
theorem dX7_cost_11 : decode cX7_cost 11 = .ok (.iload_n 1, 1) := by decide +kernel
theorem dX7_cost_12 : decode cX7_cost 12 = .ok (.isub, 1) := by decide +kernel
theorem dX7_cost_13 : decode cX7_cost 13 = .ok (.imul, 1) := by decide +kernel
theorem dX7_cost_14 : decode cX7_cost 14 = .ok (.iload_n 3, 1) := by decide +kernel
theorem dX7_cost_15 : decode cX7_cost 15 = .ok (.iadd, 1) := by decide +kernel
theorem dX7_cost_16 : decode cX7_cost 16 = .ok (.istore 5, 2) := by decide +kernel
theorem dX7_cost_18 : decode cX7_cost 18 = .ok (.iconst 2, 1) := by decide +kernel
theorem dX7_cost_19 : decode cX7_cost 19 = .ok (.aload_n 0, 1) := by decide +kernel
theorem dX7_cost_20 : decode cX7_cost 20 = .ok (.getfield 48, 3) := by decide +kernel
theorem dX7_cost_23 : decode cX7_cost 23 = .ok (.iload 4, 2) := by decide +kernel
theorem dX7_cost_25 : decode cX7_cost 25 = .ok (.iaload, 1) := by decide +kernel
theorem dX7_cost_26 : decode cX7_cost 26 = .ok (.aload_n 0, 1) := by decide +kernel
theorem dX7_cost_27 : decode cX7_cost 27 = .ok (.getfield 48, 3) := by decide +kernel
theorem dX7_cost_30 : decode cX7_cost 30 = .ok (.iload 5, 2) := by decide +kernel
theorem dX7_cost_32 : decode cX7_cost 32 = .ok (.iaload, 1) := by decide +kernel
theorem dX7_cost_33 : decode cX7_cost 33 = .ok (.isub, 1) := by decide +kernel
theorem dX7_cost_34 : decode cX7_cost 34 = .ok (.invokestatic 187, 3) := by decide +kernel
theorem dX7_cost_37 : decode cX7_cost 37 = .ok (.aload_n 0, 1) := by decide +kernel
theorem dX7_cost_38 : decode cX7_cost 38 = .ok (.getfield 51, 3) := by decide +kernel
theorem dX7_cost_41 : decode cX7_cost 41 = .ok (.iload 4, 2) := by decide +kernel
theorem dX7_cost_43 : decode cX7_cost 43 = .ok (.iaload, 1) := by decide +kernel
theorem dX7_cost_44 : decode cX7_cost 44 = .ok (.aload_n 0, 1) := by decide +kernel
theorem dX7_cost_45 : decode cX7_cost 45 = .ok (.getfield 51, 3) := by decide +kernel
theorem dX7_cost_48 : decode cX7_cost 48 = .ok (.iload 5, 2) := by decide +kernel
theorem dX7_cost_50 : decode cX7_cost 50 = .ok (.iaload, 1) := by decide +kernel
theorem dX7_cost_51 : decode cX7_cost 51 = .ok (.isub, 1) := by decide +kernel
theorem dX7_cost_52 : decode cX7_cost 52 = .ok (.invokestatic 187, 3) := by decide +kernel
theorem dX7_cost_55 : decode cX7_cost 55 = .ok (.invokestatic 90, 3) := by decide +kernel
theorem dX7_cost_58 : decode cX7_cost 58 = .ok (.imul, 1) := by decide +kernel
theorem dX7_cost_59 : decode cX7_cost 59 = .ok (.ireturn, 1) := by decide +kernel
theorem dX7_finds_0 : decode cX7_finds 0 = .ok (.iconst 0, 1) := by decide +kernel
theorem dX7_finds_1 : decode cX7_finds 1 = .ok (.istore 4, 2) := by decide +kernel
theorem dX7_finds_3 : decode cX7_finds 3 = .ok (.iload 4, 2) := by decide +kernel
theorem dX7_finds_5 : decode cX7_finds 5 = .ok (.aload_n 0, 1) := by decide +kernel
theorem dX7_finds_6 : decode cX7_finds 6 = .ok (.getfield 54, 3) := by decide +kernel
theorem dX7_finds_9 : decode cX7_finds 9 = .ok (.iconst 1, 1) := by decide +kernel
theorem dX7_finds_10 : decode cX7_finds 10 = .ok (.iload_n 1, 1) := by decide +kernel
theorem dX7_finds_11 : decode cX7_finds 11 = .ok (.isub, 1) := by decide +kernel
theorem dX7_finds_12 : decode cX7_finds 12 = .ok (.iaload, 1) := by decide +kernel
theorem dX7_finds_13 : decode cX7_finds 13 = .ok (.if_icmp .ge 82, 3) := by decide +kernel
theorem dX7_finds_16 : decode cX7_finds 16 = .ok (.aload_n 0, 1) := by decide +kernel
theorem dX7_finds_17 : decode cX7_finds 17 = .ok (.getfield 60, 3) := by decide +kernel
theorem dX7_finds_20 : decode cX7_finds 20 = .ok (.iload 4, 2) := by decide +kernel
theorem dX7_finds_22 : decode cX7_finds 22 = .ok (.baload, 1) := by decide +kernel
theorem dX7_finds_23 : decode cX7_finds 23 = .ok (.ifCond .ne 66, 3) := by decide +kernel
theorem dX7_finds_26 : decode cX7_finds 26 = .ok (.aload_n 0, 1) := by decide +kernel
theorem dX7_finds_27 : decode cX7_finds 27 = .ok (.iload_n 1, 1) := by decide +kernel
theorem dX7_finds_28 : decode cX7_finds 28 = .ok (.iload_n 2, 1) := by decide +kernel
theorem dX7_finds_29 : decode cX7_finds 29 = .ok (.iload 4, 2) := by decide +kernel
theorem dX7_finds_31 : decode cX7_finds 31 = .ok (.invokevirtual 190, 3) := by decide +kernel
theorem dX7_finds_34 : decode cX7_finds 34 = .ok (.iload_n 3, 1) := by decide +kernel
theorem dX7_finds_35 : decode cX7_finds 35 = .ok (.if_icmp .le 6, 3) := by decide +kernel
theorem dX7_finds_38 : decode cX7_finds 38 = .ok (.goto 51, 3) := by decide +kernel
theorem dX7_finds_41 : decode cX7_finds 41 = .ok (.aload_n 0, 1) := by decide +kernel
theorem dX7_finds_42 : decode cX7_finds 42 = .ok (.getfield 60, 3) := by decide +kernel
theorem dX7_finds_45 : decode cX7_finds 45 = .ok (.iload 4, 2) := by decide +kernel
theorem dX7_finds_47 : decode cX7_finds 47 = .ok (.iconst 1, 1) := by decide +kernel
theorem dX7_finds_48 : decode cX7_finds 48 = .ok (.bastore, 1) := by decide +kernel
theorem dX7_finds_49 : decode cX7_finds 49 = .ok (.aload_n 0, 1) := by decide +kernel
theorem dX7_finds_50 : decode cX7_finds 50 = .ok (.getfield 57, 3) := by decide +kernel
theorem dX7_finds_53 : decode cX7_finds 53 = .ok (.iload 4, 2) := by decide +kernel
theorem dX7_finds_55 : decode cX7_finds 55 = .ok (.iaload, 1) := by decide +kernel
theorem dX7_finds_56 : decode cX7_finds 56 = .ok (.iconst (-1), 1) := by decide +kernel
theorem dX7_finds_57 : decode cX7_finds 57 = .ok (.if_icmp .eq 22, 3) := by decide +kernel
theorem dX7_finds_60 : decode cX7_finds 60 = .ok (.aload_n 0, 1) := by decide +kernel
theorem dX7_finds_61 : decode cX7_finds 61 = .ok (.iload_n 1, 1) := by decide +kernel
theorem dX7_finds_62 : decode cX7_finds 62 = .ok (.aload_n 0, 1) := by decide +kernel
theorem dX7_finds_63 : decode cX7_finds 63 = .ok (.getfield 57, 3) := by decide +kernel
theorem dX7_finds_66 : decode cX7_finds 66 = .ok (.iload 4, 2) := by decide +kernel
theorem dX7_finds_68 : decode cX7_finds 68 = .ok (.iaload, 1) := by decide +kernel
theorem dX7_finds_69 : decode cX7_finds 69 = .ok (.iload_n 3, 1) := by decide +kernel
theorem dX7_finds_70 : decode cX7_finds 70 = .ok (.invokevirtual 193, 3) := by decide +kernel
theorem dX7_finds_73 : decode cX7_finds 73 = .ok (.ifCond .ne 6, 3) := by decide +kernel
theorem dX7_finds_76 : decode cX7_finds 76 = .ok (.goto 13, 3) := by decide +kernel
theorem dX7_finds_79 : decode cX7_finds 79 = .ok (.aload_n 0, 1) := by decide +kernel
theorem dX7_finds_80 : decode cX7_finds 80 = .ok (.getfield 57, 3) := by decide +kernel
theorem dX7_finds_83 : decode cX7_finds 83 = .ok (.iload 4, 2) := by decide +kernel
theorem dX7_finds_85 : decode cX7_finds 85 = .ok (.iload_n 2, 1) := by decide +kernel
theorem dX7_finds_86 : decode cX7_finds 86 = .ok (.iastore, 1) := by decide +kernel
theorem dX7_finds_87 : decode cX7_finds 87 = .ok (.iconst 1, 1) := by decide +kernel
theorem dX7_finds_88 : decode cX7_finds 88 = .ok (.ireturn, 1) := by decide +kernel
theorem dX7_finds_89 : decode cX7_finds 89 = .ok (.iinc 4 1, 3) := by decide +kernel
theorem dX7_finds_92 : decode cX7_finds 92 = .ok (.goto (-89), 3) := by decide +kernel
theorem dX7_finds_95 : decode cX7_finds 95 = .ok (.iconst 0, 1) := by decide +kernel
theorem dX7_finds_96 : decode cX7_finds 96 = .ok (.ireturn, 1) := by decide +kernel
theorem dX7_isCovered_0 : decode cX7_isCovered 0 = .ok (.iconst 0, 1) := by decide +kernel
theorem dX7_isCovered_1 : decode cX7_isCovered 1 = .ok (.istore_n 3, 1) := by decide +kernel
theorem dX7_isCovered_2 : decode cX7_isCovered 2 = .ok (.iload_n 3, 1) := by decide +kernel
theorem dX7_isCovered_3 : decode cX7_isCovered 3 = .ok (.bipush 32, 2) := by decide +kernel
theorem dX7_isCovered_5 : decode cX7_isCovered 5 = .ok (.if_icmp .ge 16, 3) := by decide +kernel
theorem dX7_isCovered_8 : decode cX7_isCovered 8 = .ok (.aload_n 0, 1) := by decide +kernel
theorem dX7_isCovered_9 : decode cX7_isCovered 9 = .ok (.getfield 57, 3) := by decide +kernel
theorem dX7_isCovered_12 : decode cX7_isCovered 12 = .ok (.iload_n 3, 1) := by decide +kernel
theorem dX7_isCovered_13 : decode cX7_isCovered 13 = .ok (.iconst (-1), 1) := by decide +kernel
theorem dX7_isCovered_14 : decode cX7_isCovered 14 = .ok (.iastore, 1) := by decide +kernel
theorem dX7_isCovered_15 : decode cX7_isCovered 15 = .ok (.iinc 3 1, 3) := by decide +kernel
theorem dX7_isCovered_18 : decode cX7_isCovered 18 = .ok (.goto (-16), 3) := by decide +kernel
theorem dX7_isCovered_21 : decode cX7_isCovered 21 = .ok (.iconst 0, 1) := by decide +kernel
theorem dX7_isCovered_22 : decode cX7_isCovered 22 = .ok (.istore_n 3, 1) := by decide +kernel
theorem dX7_isCovered_23 : decode cX7_isCovered 23 = .ok (.iload_n 3, 1) := by decide +kernel
theorem dX7_isCovered_24 : decode cX7_isCovered 24 = .ok (.aload_n 0, 1) := by decide +kernel
theorem dX7_isCovered_25 : decode cX7_isCovered 25 = .ok (.getfield 54, 3) := by decide +kernel
theorem dX7_isCovered_28 : decode cX7_isCovered 28 = .ok (.iload_n 1, 1) := by decide +kernel
theorem dX7_isCovered_29 : decode cX7_isCovered 29 = .ok (.iaload, 1) := by decide +kernel
theorem dX7_isCovered_30 : decode cX7_isCovered 30 = .ok (.if_icmp .ge 77, 3) := by decide +kernel
theorem dX7_isCovered_33 : decode cX7_isCovered 33 = .ok (.aload_n 0, 1) := by decide +kernel
theorem dX7_isCovered_34 : decode cX7_isCovered 34 = .ok (.getfield 51, 3) := by decide +kernel
theorem dX7_isCovered_37 : decode cX7_isCovered 37 = .ok (.bipush 32, 2) := by decide +kernel
theorem dX7_isCovered_39 : decode cX7_isCovered 39 = .ok (.iload_n 1, 1) := by decide +kernel
theorem dX7_isCovered_40 : decode cX7_isCovered 40 = .ok (.imul, 1) := by decide +kernel
theorem dX7_isCovered_41 : decode cX7_isCovered 41 = .ok (.iload_n 3, 1) := by decide +kernel
theorem dX7_isCovered_42 : decode cX7_isCovered 42 = .ok (.iadd, 1) := by decide +kernel
theorem dX7_isCovered_43 : decode cX7_isCovered 43 = .ok (.iaload, 1) := by decide +kernel
theorem dX7_isCovered_44 : decode cX7_isCovered 44 = .ok (.aload_n 0, 1) := by decide +kernel
theorem dX7_isCovered_45 : decode cX7_isCovered 45 = .ok (.getfield 48, 3) := by decide +kernel
theorem dX7_isCovered_48 : decode cX7_isCovered 48 = .ok (.bipush 32, 2) := by decide +kernel
theorem dX7_isCovered_50 : decode cX7_isCovered 50 = .ok (.iload_n 1, 1) := by decide +kernel
theorem dX7_isCovered_51 : decode cX7_isCovered 51 = .ok (.imul, 1) := by decide +kernel
theorem dX7_isCovered_52 : decode cX7_isCovered 52 = .ok (.iload_n 3, 1) := by decide +kernel
theorem dX7_isCovered_53 : decode cX7_isCovered 53 = .ok (.iadd, 1) := by decide +kernel
theorem dX7_isCovered_54 : decode cX7_isCovered 54 = .ok (.iaload, 1) := by decide +kernel
theorem dX7_isCovered_55 : decode cX7_isCovered 55 = .ok (.isub, 1) := by decide +kernel
theorem dX7_isCovered_56 : decode cX7_isCovered 56 = .ok (.iconst 1, 1) := by decide +kernel
theorem dX7_isCovered_57 : decode cX7_isCovered 57 = .ok (.iadd, 1) := by decide +kernel
theorem dX7_isCovered_58 : decode cX7_isCovered 58 = .ok (.iload_n 2, 1) := by decide +kernel
theorem dX7_isCovered_59 : decode cX7_isCovered 59 = .ok (.if_icmp .gt 6, 3) := by decide +kernel
theorem dX7_isCovered_62 : decode cX7_isCovered 62 = .ok (.goto 39, 3) := by decide +kernel
theorem dX7_isCovered_65 : decode cX7_isCovered 65 = .ok (.iconst 0, 1) := by decide +kernel
theorem dX7_isCovered_66 : decode cX7_isCovered 66 = .ok (.istore 4, 2) := by decide +kernel
theorem dX7_isCovered_68 : decode cX7_isCovered 68 = .ok (.iload 4, 2) := by decide +kernel
theorem dX7_isCovered_70 : decode cX7_isCovered 70 = .ok (.bipush 32, 2) := by decide +kernel
theorem dX7_isCovered_72 : decode cX7_isCovered 72 = .ok (.if_icmp .ge 17, 3) := by decide +kernel
theorem dX7_isCovered_75 : decode cX7_isCovered 75 = .ok (.aload_n 0, 1) := by decide +kernel
theorem dX7_isCovered_76 : decode cX7_isCovered 76 = .ok (.getfield 60, 3) := by decide +kernel
theorem dX7_isCovered_79 : decode cX7_isCovered 79 = .ok (.iload 4, 2) := by decide +kernel
theorem dX7_isCovered_81 : decode cX7_isCovered 81 = .ok (.iconst 0, 1) := by decide +kernel
theorem dX7_isCovered_82 : decode cX7_isCovered 82 = .ok (.bastore, 1) := by decide +kernel
theorem dX7_isCovered_83 : decode cX7_isCovered 83 = .ok (.iinc 4 1, 3) := by decide +kernel
theorem dX7_isCovered_86 : decode cX7_isCovered 86 = .ok (.goto (-18), 3) := by decide +kernel
theorem dX7_isCovered_89 : decode cX7_isCovered 89 = .ok (.aload_n 0, 1) := by decide +kernel
theorem dX7_isCovered_90 : decode cX7_isCovered 90 = .ok (.iload_n 1, 1) := by decide +kernel
theorem dX7_isCovered_91 : decode cX7_isCovered 91 = .ok (.iload_n 3, 1) := by decide +kernel
theorem dX7_isCovered_92 : decode cX7_isCovered 92 = .ok (.iload_n 2, 1) := by decide +kernel
theorem dX7_isCovered_93 : decode cX7_isCovered 93 = .ok (.invokevirtual 193, 3) := by decide +kernel
theorem dX7_isCovered_96 : decode cX7_isCovered 96 = .ok (.ifCond .ne 5, 3) := by decide +kernel
theorem dX7_isCovered_99 : decode cX7_isCovered 99 = .ok (.iconst 0, 1) := by decide +kernel
theorem dX7_isCovered_100 : decode cX7_isCovered 100 = .ok (.ireturn, 1) := by decide +kernel
theorem dX7_isCovered_101 : decode cX7_isCovered 101 = .ok (.iinc 3 1, 3) := by decide +kernel
theorem dX7_isCovered_104 : decode cX7_isCovered 104 = .ok (.goto (-81), 3) := by decide +kernel
theorem dX7_isCovered_107 : decode cX7_isCovered 107 = .ok (.iconst 1, 1) := by decide +kernel
theorem dX7_isCovered_108 : decode cX7_isCovered 108 = .ok (.ireturn, 1) := by decide +kernel
theorem dX7_far_0 : decode cX7_far 0 = .ok (.iload_n 1, 1) := by decide +kernel
theorem dX7_far_1 : decode cX7_far 1 = .ok (.invokestatic 104, 3) := by decide +kernel
theorem dX7_far_4 : decode cX7_far 4 = .ok (.ifCond .eq 28, 3) := by decide +kernel
theorem dX7_far_7 : decode cX7_far 7 = .ok (.iload_n 2, 1) := by decide +kernel
theorem dX7_far_8 : decode cX7_far 8 = .ok (.invokestatic 104, 3) := by decide +kernel
theorem dX7_far_11 : decode cX7_far 11 = .ok (.ifCond .eq 21, 3) := by decide +kernel
theorem dX7_far_14 : decode cX7_far 14 = .ok (.aload_n 0, 1) := by decide +kernel
theorem dX7_far_15 : decode cX7_far 15 = .ok (.getfield 9, 3) := by decide +kernel
theorem dX7_far_18 : decode cX7_far 18 = .ok (.iload_n 1, 1) := by decide +kernel
theorem dX7_far_19 : decode cX7_far 19 = .ok (.iaload, 1) := by decide +kernel
theorem dX7_far_20 : decode cX7_far 20 = .ok (.ifCond .ne 12, 3) := by decide +kernel
theorem dX7_far_23 : decode cX7_far 23 = .ok (.aload_n 0, 1) := by decide +kernel
theorem dX7_far_24 : decode cX7_far 24 = .ok (.getfield 9, 3) := by decide +kernel
theorem dX7_far_27 : decode cX7_far 27 = .ok (.iload_n 2, 1) := by decide +kernel
theorem dX7_far_28 : decode cX7_far 28 = .ok (.iaload, 1) := by decide +kernel
theorem dX7_far_29 : decode cX7_far 29 = .ok (.ifCond .eq 5, 3) := by decide +kernel
theorem dX7_far_32 : decode cX7_far 32 = .ok (.iconst (-1), 1) := by decide +kernel
theorem dX7_far_33 : decode cX7_far 33 = .ok (.ireturn, 1) := by decide +kernel
theorem dX7_far_34 : decode cX7_far 34 = .ok (.aload_n 0, 1) := by decide +kernel
theorem dX7_far_35 : decode cX7_far 35 = .ok (.iload_n 1, 1) := by decide +kernel
theorem dX7_far_36 : decode cX7_far 36 = .ok (.iconst 0, 1) := by decide +kernel
theorem dX7_far_37 : decode cX7_far 37 = .ok (.invokevirtual 196, 3) := by decide +kernel
theorem dX7_far_40 : decode cX7_far 40 = .ok (.aload_n 0, 1) := by decide +kernel
theorem dX7_far_41 : decode cX7_far 41 = .ok (.iload_n 2, 1) := by decide +kernel
theorem dX7_far_42 : decode cX7_far 42 = .ok (.iconst 1, 1) := by decide +kernel
theorem dX7_far_43 : decode cX7_far 43 = .ok (.invokevirtual 196, 3) := by decide +kernel
theorem dX7_far_46 : decode cX7_far 46 = .ok (.iconst 0, 1) := by decide +kernel
theorem dX7_far_47 : decode cX7_far 47 = .ok (.istore_n 3, 1) := by decide +kernel
theorem dX7_far_48 : decode cX7_far 48 = .ok (.iload_n 3, 1) := by decide +kernel
theorem dX7_far_49 : decode cX7_far 49 = .ok (.aload_n 0, 1) := by decide +kernel
theorem dX7_far_50 : decode cX7_far 50 = .ok (.getfield 93, 3) := by decide +kernel
theorem dX7_far_53 : decode cX7_far 53 = .ok (.if_icmp .ge 27, 3) := by decide +kernel
theorem dX7_far_56 : decode cX7_far 56 = .ok (.aload_n 0, 1) := by decide +kernel
theorem dX7_far_57 : decode cX7_far 57 = .ok (.iconst 0, 1) := by decide +kernel
theorem dX7_far_58 : decode cX7_far 58 = .ok (.iload_n 3, 1) := by decide +kernel
theorem dX7_far_59 : decode cX7_far 59 = .ok (.invokevirtual 199, 3) := by decide +kernel
theorem dX7_far_62 : decode cX7_far 62 = .ok (.ifCond .eq 12, 3) := by decide +kernel
theorem dX7_far_65 : decode cX7_far 65 = .ok (.aload_n 0, 1) := by decide +kernel
theorem dX7_far_66 : decode cX7_far 66 = .ok (.iconst 1, 1) := by decide +kernel
theorem dX7_far_67 : decode cX7_far 67 = .ok (.iload_n 3, 1) := by decide +kernel
theorem dX7_far_68 : decode cX7_far 68 = .ok (.invokevirtual 199, 3) := by decide +kernel
theorem dX7_far_71 : decode cX7_far 71 = .ok (.ifCond .ne 9, 3) := by decide +kernel
theorem dX7_far_74 : decode cX7_far 74 = .ok (.iinc 3 1, 3) := by decide +kernel
theorem dX7_far_77 : decode cX7_far 77 = .ok (.goto (-29), 3) := by decide +kernel
theorem dX7_far_80 : decode cX7_far 80 = .ok (.iload_n 3, 1) := by decide +kernel
theorem dX7_far_81 : decode cX7_far 81 = .ok (.ireturn, 1) := by decide +kernel
theorem dX7_isTree_0 : decode cX7_isTree 0 = .ok (.iload_n 1, 1) := by decide +kernel
theorem dX7_isTree_1 : decode cX7_isTree 1 = .ok (.iconst 1, 1) := by decide +kernel
theorem dX7_isTree_2 : decode cX7_isTree 2 = .ok (.bipush 9, 2) := by decide +kernel
theorem dX7_isTree_4 : decode cX7_isTree 4 = .ok (.invokestatic 96, 3) := by decide +kernel
theorem dX7_isTree_7 : decode cX7_isTree 7 = .ok (.ifCond .eq 7, 3) := by decide +kernel
theorem dX7_isTree_10 : decode cX7_isTree 10 = .ok (.iload_n 2, 1) := by decide +kernel
theorem dX7_isTree_11 : decode cX7_isTree 11 = .ok (.ifCond .ge 5, 3) := by decide +kernel
theorem dX7_isTree_14 : decode cX7_isTree 14 = .ok (.iconst 0, 1) := by decide +kernel
theorem dX7_isTree_15 : decode cX7_isTree 15 = .ok (.ireturn, 1) := by decide +kernel
theorem dX7_isTree_16 : decode cX7_isTree 16 = .ok (.iload_n 2, 1) := by decide +kernel
theorem dX7_isTree_17 : decode cX7_isTree 17 = .ok (.istore_n 3, 1) := by decide +kernel
theorem dX7_isTree_18 : decode cX7_isTree 18 = .ok (.iconst 1, 1) := by decide +kernel
theorem dX7_isTree_19 : decode cX7_isTree 19 = .ok (.istore 4, 2) := by decide +kernel
theorem dX7_isTree_21 : decode cX7_isTree 21 = .ok (.iload 4, 2) := by decide +kernel
theorem dX7_isTree_23 : decode cX7_isTree 23 = .ok (.iload_n 1, 1) := by decide +kernel
theorem dX7_isTree_24 : decode cX7_isTree 24 = .ok (.if_icmp .ge 39, 3) := by decide +kernel
theorem dX7_isTree_27 : decode cX7_isTree 27 = .ok (.aload_n 0, 1) := by decide +kernel
theorem dX7_isTree_28 : decode cX7_isTree 28 = .ok (.getfield 69, 3) := by decide +kernel
theorem dX7_isTree_31 : decode cX7_isTree 31 = .ok (.iload 4, 2) := by decide +kernel
theorem dX7_isTree_33 : decode cX7_isTree 33 = .ok (.iload_n 3, 1) := by decide +kernel
theorem dX7_isTree_34 : decode cX7_isTree 34 = .ok (.bipush 10, 2) := by decide +kernel
theorem dX7_isTree_36 : decode cX7_isTree 36 = .ok (.irem, 1) := by decide +kernel
theorem dX7_isTree_37 : decode cX7_isTree 37 = .ok (.iastore, 1) := by decide +kernel
theorem dX7_isTree_38 : decode cX7_isTree 38 = .ok (.iload_n 3, 1) := by decide +kernel
theorem dX7_isTree_39 : decode cX7_isTree 39 = .ok (.bipush 10, 2) := by decide +kernel
theorem dX7_isTree_41 : decode cX7_isTree 41 = .ok (.idiv, 1) := by decide +kernel
theorem dX7_isTree_42 : decode cX7_isTree 42 = .ok (.istore_n 3, 1) := by decide +kernel
theorem dX7_isTree_43 : decode cX7_isTree 43 = .ok (.aload_n 0, 1) := by decide +kernel
theorem dX7_isTree_44 : decode cX7_isTree 44 = .ok (.getfield 69, 3) := by decide +kernel
theorem dX7_isTree_47 : decode cX7_isTree 47 = .ok (.iload 4, 2) := by decide +kernel
theorem dX7_isTree_49 : decode cX7_isTree 49 = .ok (.iaload, 1) := by decide +kernel
theorem dX7_isTree_50 : decode cX7_isTree 50 = .ok (.iload 4, 2) := by decide +kernel
theorem dX7_isTree_52 : decode cX7_isTree 52 = .ok (.if_icmp .lt 5, 3) := by decide +kernel
theorem dX7_isTree_55 : decode cX7_isTree 55 = .ok (.iconst 0, 1) := by decide +kernel
theorem dX7_isTree_56 : decode cX7_isTree 56 = .ok (.ireturn, 1) := by decide +kernel
theorem dX7_isTree_57 : decode cX7_isTree 57 = .ok (.iinc 4 1, 3) := by decide +kernel
theorem dX7_isTree_60 : decode cX7_isTree 60 = .ok (.goto (-39), 3) := by decide +kernel
theorem dX7_isTree_63 : decode cX7_isTree 63 = .ok (.iload_n 3, 1) := by decide +kernel
theorem dX7_isTree_64 : decode cX7_isTree 64 = .ok (.ifCond .ne 7, 3) := by decide +kernel
theorem dX7_isTree_67 : decode cX7_isTree 67 = .ok (.iconst 1, 1) := by decide +kernel
theorem dX7_isTree_68 : decode cX7_isTree 68 = .ok (.goto 4, 3) := by decide +kernel
theorem dX7_isTree_71 : decode cX7_isTree 71 = .ok (.iconst 0, 1) := by decide +kernel
theorem dX7_isTree_72 : decode cX7_isTree 72 = .ok (.ireturn, 1) := by decide +kernel
theorem dX7_twice_0 : decode cX7_twice 0 = .ok (.iload_n 2, 1) := by decide +kernel
theorem dX7_twice_1 : decode cX7_twice 1 = .ok (.iload_n 3, 1) := by decide +kernel
theorem dX7_twice_2 : decode cX7_twice 2 = .ok (.if_icmp .ne 7, 3) := by decide +kernel
theorem dX7_twice_5 : decode cX7_twice 5 = .ok (.ldc2_w 202, 3) := by decide +kernel
theorem dX7_twice_8 : decode cX7_twice 8 = .ok (.lreturn, 1) := by decide +kernel
theorem dX7_twice_9 : decode cX7_twice 9 = .ok (.iload_n 2, 1) := by decide +kernel
theorem dX7_twice_10 : decode cX7_twice 10 = .ok (.ifCond .le 10, 3) := by decide +kernel
theorem dX7_twice_13 : decode cX7_twice 13 = .ok (.aload_n 1, 1) := by decide +kernel
theorem dX7_twice_14 : decode cX7_twice 14 = .ok (.iload_n 2, 1) := by decide +kernel
theorem dX7_twice_15 : decode cX7_twice 15 = .ok (.iaload, 1) := by decide +kernel
theorem dX7_twice_16 : decode cX7_twice 16 = .ok (.iload_n 3, 1) := by decide +kernel
theorem dX7_twice_17 : decode cX7_twice 17 = .ok (.if_icmp .eq 14, 3) := by decide +kernel
theorem dX7_twice_20 : decode cX7_twice 20 = .ok (.iload_n 3, 1) := by decide +kernel
theorem dX7_twice_21 : decode cX7_twice 21 = .ok (.ifCond .le 16, 3) := by decide +kernel
theorem dX7_twice_24 : decode cX7_twice 24 = .ok (.aload_n 1, 1) := by decide +kernel
theorem dX7_twice_25 : decode cX7_twice 25 = .ok (.iload_n 3, 1) := by decide +kernel
theorem dX7_twice_26 : decode cX7_twice 26 = .ok (.iaload, 1) := by decide +kernel
theorem dX7_twice_27 : decode cX7_twice 27 = .ok (.iload_n 2, 1) := by decide +kernel
theorem dX7_twice_28 : decode cX7_twice 28 = .ok (.if_icmp .ne 9, 3) := by decide +kernel
theorem dX7_twice_31 : decode cX7_twice 31 = .ok (.ldc2_w 204, 3) := by decide +kernel
theorem dX7_twice_34 : decode cX7_twice 34 = .ok (.goto 4, 3) := by decide +kernel
theorem dX7_twice_37 : decode cX7_twice 37 = .ok (.lconst 0, 1) := by decide +kernel
theorem dX7_twice_38 : decode cX7_twice 38 = .ok (.lreturn, 1) := by decide +kernel
theorem dX7_determinant_0 : decode cX7_determinant 0 = .ok (.iconst 0, 1) := by decide +kernel
theorem dX7_determinant_1 : decode cX7_determinant 1 = .ok (.istore_n 3, 1) := by decide +kernel
theorem dX7_determinant_2 : decode cX7_determinant 2 = .ok (.iconst 0, 1) := by decide +kernel
theorem dX7_determinant_3 : decode cX7_determinant 3 = .ok (.istore 4, 2) := by decide +kernel
theorem dX7_determinant_5 : decode cX7_determinant 5 = .ok (.iload 4, 2) := by decide +kernel
theorem dX7_determinant_7 : decode cX7_determinant 7 = .ok (.iload_n 1, 1) := by decide +kernel
theorem dX7_determinant_8 : decode cX7_determinant 8 = .ok (.if_icmp .ge 78, 3) := by decide +kernel
theorem dX7_determinant_11 : decode cX7_determinant 11 = .ok (.iload_n 2, 1) := by decide +kernel
theorem dX7_determinant_12 : decode cX7_determinant 12 = .ok (.iload 4, 2) := by decide +kernel
theorem dX7_determinant_14 : decode cX7_determinant 14 = .ok (.ishr, 1) := by decide +kernel
theorem dX7_determinant_15 : decode cX7_determinant 15 = .ok (.iconst 1, 1) := by decide +kernel
theorem dX7_determinant_16 : decode cX7_determinant 16 = .ok (.iand, 1) := by decide +kernel
theorem dX7_determinant_17 : decode cX7_determinant 17 = .ok (.ifCond .ne 6, 3) := by decide +kernel
theorem dX7_determinant_20 : decode cX7_determinant 20 = .ok (.goto 60, 3) := by decide +kernel
theorem dX7_determinant_23 : decode cX7_determinant 23 = .ok (.iconst 0, 1) := by decide +kernel
theorem dX7_determinant_24 : decode cX7_determinant 24 = .ok (.istore 5, 2) := by decide +kernel
theorem dX7_determinant_26 : decode cX7_determinant 26 = .ok (.iconst 0, 1) := by decide +kernel
theorem dX7_determinant_27 : decode cX7_determinant 27 = .ok (.istore 6, 2) := by decide +kernel
theorem dX7_determinant_29 : decode cX7_determinant 29 = .ok (.iload 6, 2) := by decide +kernel
theorem dX7_determinant_31 : decode cX7_determinant 31 = .ok (.iload_n 1, 1) := by decide +kernel
theorem dX7_determinant_32 : decode cX7_determinant 32 = .ok (.if_icmp .ge 45, 3) := by decide +kernel
theorem dX7_determinant_35 : decode cX7_determinant 35 = .ok (.iload_n 2, 1) := by decide +kernel
theorem dX7_determinant_36 : decode cX7_determinant 36 = .ok (.iload 6, 2) := by decide +kernel
theorem dX7_determinant_38 : decode cX7_determinant 38 = .ok (.ishr, 1) := by decide +kernel
theorem dX7_determinant_39 : decode cX7_determinant 39 = .ok (.iconst 1, 1) := by decide +kernel
theorem dX7_determinant_40 : decode cX7_determinant 40 = .ok (.iand, 1) := by decide +kernel
theorem dX7_determinant_41 : decode cX7_determinant 41 = .ok (.ifCond .ne 6, 3) := by decide +kernel
theorem dX7_determinant_44 : decode cX7_determinant 44 = .ok (.goto 27, 3) := by decide +kernel
theorem dX7_determinant_47 : decode cX7_determinant 47 = .ok (.aload_n 0, 1) := by decide +kernel
theorem dX7_determinant_48 : decode cX7_determinant 48 = .ok (.getfield 66, 3) := by decide +kernel
theorem dX7_determinant_51 : decode cX7_determinant 51 = .ok (.iload_n 3, 1) := by decide +kernel
theorem dX7_determinant_52 : decode cX7_determinant 52 = .ok (.aaload, 1) := by decide +kernel
theorem dX7_determinant_53 : decode cX7_determinant 53 = .ok (.iload 5, 2) := by decide +kernel
theorem dX7_determinant_55 : decode cX7_determinant 55 = .ok (.iload_n 1, 1) := by decide +kernel
theorem dX7_determinant_56 : decode cX7_determinant 56 = .ok (.aload_n 0, 1) := by decide +kernel
theorem dX7_determinant_57 : decode cX7_determinant 57 = .ok (.getfield 69, 3) := by decide +kernel
theorem dX7_determinant_60 : decode cX7_determinant 60 = .ok (.iload 4, 2) := by decide +kernel
theorem dX7_determinant_62 : decode cX7_determinant 62 = .ok (.iload 6, 2) := by decide +kernel
theorem dX7_determinant_64 : decode cX7_determinant 64 = .ok (.invokestatic 206, 3) := by decide +kernel
theorem dX7_determinant_67 : decode cX7_determinant 67 = .ok (.lastore, 1) := by decide +kernel
theorem dX7_determinant_68 : decode cX7_determinant 68 = .ok (.iinc 5 1, 3) := by decide +kernel
theorem dX7_determinant_71 : decode cX7_determinant 71 = .ok (.iinc 6 1, 3) := by decide +kernel
theorem dX7_determinant_74 : decode cX7_determinant 74 = .ok (.goto (-45), 3) := by decide +kernel
theorem dX7_determinant_77 : decode cX7_determinant 77 = .ok (.iinc 3 1, 3) := by decide +kernel
theorem dX7_determinant_80 : decode cX7_determinant 80 = .ok (.iinc 4 1, 3) := by decide +kernel
theorem dX7_determinant_83 : decode cX7_determinant 83 = .ok (.goto (-78), 3) := by decide +kernel
theorem dX7_determinant_86 : decode cX7_determinant 86 = .ok (.lconst 1, 1) := by decide +kernel
theorem dX7_determinant_87 : decode cX7_determinant 87 = .ok (.lstore 4, 2) := by decide +kernel
theorem dX7_determinant_89 : decode cX7_determinant 89 = .ok (.lconst 1, 1) := by decide +kernel
theorem dX7_determinant_90 : decode cX7_determinant 90 = .ok (.lstore 6, 2) := by decide +kernel
theorem dX7_determinant_92 : decode cX7_determinant 92 = .ok (.iconst 0, 1) := by decide +kernel
theorem dX7_determinant_93 : decode cX7_determinant 93 = .ok (.istore 8, 2) := by decide +kernel
theorem dX7_determinant_95 : decode cX7_determinant 95 = .ok (.iload 8, 2) := by decide +kernel
theorem dX7_determinant_97 : decode cX7_determinant 97 = .ok (.iload_n 3, 1) := by decide +kernel
theorem dX7_determinant_98 : decode cX7_determinant 98 = .ok (.iconst 1, 1) := by decide +kernel
theorem dX7_determinant_99 : decode cX7_determinant 99 = .ok (.isub, 1) := by decide +kernel
theorem dX7_determinant_100 : decode cX7_determinant 100 = .ok (.if_icmp .ge 196, 3) := by decide +kernel
theorem dX7_determinant_103 : decode cX7_determinant 103 = .ok (.iload 8, 2) := by decide +kernel
theorem dX7_determinant_105 : decode cX7_determinant 105 = .ok (.istore 9, 2) := by decide +kernel
theorem dX7_determinant_107 : decode cX7_determinant 107 = .ok (.iload 9, 2) := by decide +kernel
theorem dX7_determinant_109 : decode cX7_determinant 109 = .ok (.iload_n 3, 1) := by decide +kernel
theorem dX7_determinant_110 : decode cX7_determinant 110 = .ok (.if_icmp .ge 24, 3) := by decide +kernel
theorem dX7_determinant_113 : decode cX7_determinant 113 = .ok (.aload_n 0, 1) := by decide +kernel
theorem dX7_determinant_114 : decode cX7_determinant 114 = .ok (.getfield 66, 3) := by decide +kernel
theorem dX7_determinant_117 : decode cX7_determinant 117 = .ok (.iload 9, 2) := by decide +kernel
theorem dX7_determinant_119 : decode cX7_determinant 119 = .ok (.aaload, 1) := by decide +kernel
theorem dX7_determinant_120 : decode cX7_determinant 120 = .ok (.iload 8, 2) := by decide +kernel
theorem dX7_determinant_122 : decode cX7_determinant 122 = .ok (.laload, 1) := by decide +kernel
theorem dX7_determinant_123 : decode cX7_determinant 123 = .ok (.lconst 0, 1) := by decide +kernel
theorem dX7_determinant_124 : decode cX7_determinant 124 = .ok (.lcmp, 1) := by decide +kernel
theorem dX7_determinant_125 : decode cX7_determinant 125 = .ok (.ifCond .ne 9, 3) := by decide +kernel
theorem dX7_determinant_128 : decode cX7_determinant 128 = .ok (.iinc 9 1, 3) := by decide +kernel
theorem dX7_determinant_131 : decode cX7_determinant 131 = .ok (.goto (-24), 3) := by decide +kernel
theorem dX7_determinant_134 : decode cX7_determinant 134 = .ok (.iload 9, 2) := by decide +kernel
theorem dX7_determinant_136 : decode cX7_determinant 136 = .ok (.iload_n 3, 1) := by decide +kernel
theorem dX7_determinant_137 : decode cX7_determinant 137 = .ok (.if_icmp .ne 5, 3) := by decide +kernel
theorem dX7_determinant_140 : decode cX7_determinant 140 = .ok (.lconst 0, 1) := by decide +kernel
theorem dX7_determinant_141 : decode cX7_determinant 141 = .ok (.lreturn, 1) := by decide +kernel
theorem dX7_determinant_142 : decode cX7_determinant 142 = .ok (.iload 9, 2) := by decide +kernel
theorem dX7_determinant_144 : decode cX7_determinant 144 = .ok (.iload 8, 2) := by decide +kernel
theorem dX7_determinant_146 : decode cX7_determinant 146 = .ok (.if_icmp .eq 40, 3) := by decide +kernel
theorem dX7_determinant_149 : decode cX7_determinant 149 = .ok (.aload_n 0, 1) := by decide +kernel
theorem dX7_determinant_150 : decode cX7_determinant 150 = .ok (.getfield 66, 3) := by decide +kernel
theorem dX7_determinant_153 : decode cX7_determinant 153 = .ok (.iload 9, 2) := by decide +kernel
theorem dX7_determinant_155 : decode cX7_determinant 155 = .ok (.aaload, 1) := by decide +kernel
theorem dX7_determinant_156 : decode cX7_determinant 156 = .ok (.astore 10, 2) := by decide +kernel
theorem dX7_determinant_158 : decode cX7_determinant 158 = .ok (.aload_n 0, 1) := by decide +kernel
theorem dX7_determinant_159 : decode cX7_determinant 159 = .ok (.getfield 66, 3) := by decide +kernel
theorem dX7_determinant_162 : decode cX7_determinant 162 = .ok (.iload 9, 2) := by decide +kernel
theorem dX7_determinant_164 : decode cX7_determinant 164 = .ok (.aload_n 0, 1) := by decide +kernel
theorem dX7_determinant_165 : decode cX7_determinant 165 = .ok (.getfield 66, 3) := by decide +kernel
theorem dX7_determinant_168 : decode cX7_determinant 168 = .ok (.iload 8, 2) := by decide +kernel
theorem dX7_determinant_170 : decode cX7_determinant 170 = .ok (.aaload, 1) := by decide +kernel
theorem dX7_determinant_171 : decode cX7_determinant 171 = .ok (.aastore, 1) := by decide +kernel
theorem dX7_determinant_172 : decode cX7_determinant 172 = .ok (.aload_n 0, 1) := by decide +kernel
theorem dX7_determinant_173 : decode cX7_determinant 173 = .ok (.getfield 66, 3) := by decide +kernel
theorem dX7_determinant_176 : decode cX7_determinant 176 = .ok (.iload 8, 2) := by decide +kernel
theorem dX7_determinant_178 : decode cX7_determinant 178 = .ok (.aload 10, 2) := by decide +kernel
theorem dX7_determinant_180 : decode cX7_determinant 180 = .ok (.aastore, 1) := by decide +kernel
theorem dX7_determinant_181 : decode cX7_determinant 181 = .ok (.lload 6, 2) := by decide +kernel
theorem dX7_determinant_183 : decode cX7_determinant 183 = .ok (.lneg, 1) := by decide +kernel
theorem dX7_determinant_184 : decode cX7_determinant 184 = .ok (.lstore 6, 2) := by decide +kernel
theorem dX7_determinant_186 : decode cX7_determinant 186 = .ok (.iload 8, 2) := by decide +kernel
theorem dX7_determinant_188 : decode cX7_determinant 188 = .ok (.iconst 1, 1) := by decide +kernel
theorem dX7_determinant_189 : decode cX7_determinant 189 = .ok (.iadd, 1) := by decide +kernel
theorem dX7_determinant_190 : decode cX7_determinant 190 = .ok (.istore 10, 2) := by decide +kernel
theorem dX7_determinant_192 : decode cX7_determinant 192 = .ok (.iload 10, 2) := by decide +kernel
theorem dX7_determinant_194 : decode cX7_determinant 194 = .ok (.iload_n 3, 1) := by decide +kernel
theorem dX7_determinant_195 : decode cX7_determinant 195 = .ok (.if_icmp .ge 83, 3) := by decide +kernel
theorem dX7_determinant_198 : decode cX7_determinant 198 = .ok (.iload 8, 2) := by decide +kernel
theorem dX7_determinant_200 : decode cX7_determinant 200 = .ok (.iconst 1, 1) := by decide +kernel
theorem dX7_determinant_201 : decode cX7_determinant 201 = .ok (.iadd, 1) := by decide +kernel
theorem dX7_determinant_202 : decode cX7_determinant 202 = .ok (.istore 11, 2) := by decide +kernel
theorem dX7_determinant_204 : decode cX7_determinant 204 = .ok (.iload 11, 2) := by decide +kernel
theorem dX7_determinant_206 : decode cX7_determinant 206 = .ok (.iload_n 3, 1) := by decide +kernel
theorem dX7_determinant_207 : decode cX7_determinant 207 = .ok (.if_icmp .ge 65, 3) := by decide +kernel
theorem dX7_determinant_210 : decode cX7_determinant 210 = .ok (.aload_n 0, 1) := by decide +kernel
theorem dX7_determinant_211 : decode cX7_determinant 211 = .ok (.getfield 66, 3) := by decide +kernel
theorem dX7_determinant_214 : decode cX7_determinant 214 = .ok (.iload 10, 2) := by decide +kernel
theorem dX7_determinant_216 : decode cX7_determinant 216 = .ok (.aaload, 1) := by decide +kernel
theorem dX7_determinant_217 : decode cX7_determinant 217 = .ok (.iload 11, 2) := by decide +kernel
theorem dX7_determinant_219 : decode cX7_determinant 219 = .ok (.aload_n 0, 1) := by decide +kernel
theorem dX7_determinant_220 : decode cX7_determinant 220 = .ok (.getfield 66, 3) := by decide +kernel
theorem dX7_determinant_223 : decode cX7_determinant 223 = .ok (.iload 10, 2) := by decide +kernel
theorem dX7_determinant_225 : decode cX7_determinant 225 = .ok (.aaload, 1) := by decide +kernel
theorem dX7_determinant_226 : decode cX7_determinant 226 = .ok (.iload 11, 2) := by decide +kernel
theorem dX7_determinant_228 : decode cX7_determinant 228 = .ok (.laload, 1) := by decide +kernel
theorem dX7_determinant_229 : decode cX7_determinant 229 = .ok (.aload_n 0, 1) := by decide +kernel
theorem dX7_determinant_230 : decode cX7_determinant 230 = .ok (.getfield 66, 3) := by decide +kernel
theorem dX7_determinant_233 : decode cX7_determinant 233 = .ok (.iload 8, 2) := by decide +kernel
theorem dX7_determinant_235 : decode cX7_determinant 235 = .ok (.aaload, 1) := by decide +kernel
theorem dX7_determinant_236 : decode cX7_determinant 236 = .ok (.iload 8, 2) := by decide +kernel
theorem dX7_determinant_238 : decode cX7_determinant 238 = .ok (.laload, 1) := by decide +kernel
theorem dX7_determinant_239 : decode cX7_determinant 239 = .ok (.lmul, 1) := by decide +kernel
theorem dX7_determinant_240 : decode cX7_determinant 240 = .ok (.aload_n 0, 1) := by decide +kernel
theorem dX7_determinant_241 : decode cX7_determinant 241 = .ok (.getfield 66, 3) := by decide +kernel
theorem dX7_determinant_244 : decode cX7_determinant 244 = .ok (.iload 10, 2) := by decide +kernel
theorem dX7_determinant_246 : decode cX7_determinant 246 = .ok (.aaload, 1) := by decide +kernel
theorem dX7_determinant_247 : decode cX7_determinant 247 = .ok (.iload 8, 2) := by decide +kernel
theorem dX7_determinant_249 : decode cX7_determinant 249 = .ok (.laload, 1) := by decide +kernel
theorem dX7_determinant_250 : decode cX7_determinant 250 = .ok (.aload_n 0, 1) := by decide +kernel
theorem dX7_determinant_251 : decode cX7_determinant 251 = .ok (.getfield 66, 3) := by decide +kernel
theorem dX7_determinant_254 : decode cX7_determinant 254 = .ok (.iload 8, 2) := by decide +kernel
theorem dX7_determinant_256 : decode cX7_determinant 256 = .ok (.aaload, 1) := by decide +kernel
theorem dX7_determinant_257 : decode cX7_determinant 257 = .ok (.iload 11, 2) := by decide +kernel
theorem dX7_determinant_259 : decode cX7_determinant 259 = .ok (.laload, 1) := by decide +kernel
theorem dX7_determinant_260 : decode cX7_determinant 260 = .ok (.lmul, 1) := by decide +kernel
theorem dX7_determinant_261 : decode cX7_determinant 261 = .ok (.lsub, 1) := by decide +kernel
theorem dX7_determinant_262 : decode cX7_determinant 262 = .ok (.lload 4, 2) := by decide +kernel
theorem dX7_determinant_264 : decode cX7_determinant 264 = .ok (.ldiv, 1) := by decide +kernel
theorem dX7_determinant_265 : decode cX7_determinant 265 = .ok (.lastore, 1) := by decide +kernel
theorem dX7_determinant_266 : decode cX7_determinant 266 = .ok (.iinc 11 1, 3) := by decide +kernel
theorem dX7_determinant_269 : decode cX7_determinant 269 = .ok (.goto (-65), 3) := by decide +kernel
theorem dX7_determinant_272 : decode cX7_determinant 272 = .ok (.iinc 10 1, 3) := by decide +kernel
theorem dX7_determinant_275 : decode cX7_determinant 275 = .ok (.goto (-83), 3) := by decide +kernel
theorem dX7_determinant_278 : decode cX7_determinant 278 = .ok (.aload_n 0, 1) := by decide +kernel
theorem dX7_determinant_279 : decode cX7_determinant 279 = .ok (.getfield 66, 3) := by decide +kernel
theorem dX7_determinant_282 : decode cX7_determinant 282 = .ok (.iload 8, 2) := by decide +kernel
theorem dX7_determinant_284 : decode cX7_determinant 284 = .ok (.aaload, 1) := by decide +kernel
theorem dX7_determinant_285 : decode cX7_determinant 285 = .ok (.iload 8, 2) := by decide +kernel
theorem dX7_determinant_287 : decode cX7_determinant 287 = .ok (.laload, 1) := by decide +kernel
theorem dX7_determinant_288 : decode cX7_determinant 288 = .ok (.lstore 4, 2) := by decide +kernel
theorem dX7_determinant_290 : decode cX7_determinant 290 = .ok (.iinc 8 1, 3) := by decide +kernel
theorem dX7_determinant_293 : decode cX7_determinant 293 = .ok (.goto (-198), 3) := by decide +kernel
theorem dX7_determinant_296 : decode cX7_determinant 296 = .ok (.iload_n 3, 1) := by decide +kernel
theorem dX7_determinant_297 : decode cX7_determinant 297 = .ok (.ifCond .ne 7, 3) := by decide +kernel
theorem dX7_determinant_300 : decode cX7_determinant 300 = .ok (.lconst 1, 1) := by decide +kernel
theorem dX7_determinant_301 : decode cX7_determinant 301 = .ok (.goto 18, 3) := by decide +kernel
theorem dX7_determinant_304 : decode cX7_determinant 304 = .ok (.lload 6, 2) := by decide +kernel
theorem dX7_determinant_306 : decode cX7_determinant 306 = .ok (.aload_n 0, 1) := by decide +kernel
theorem dX7_determinant_307 : decode cX7_determinant 307 = .ok (.getfield 66, 3) := by decide +kernel
theorem dX7_determinant_310 : decode cX7_determinant 310 = .ok (.iload_n 3, 1) := by decide +kernel
theorem dX7_determinant_311 : decode cX7_determinant 311 = .ok (.iconst 1, 1) := by decide +kernel
theorem dX7_determinant_312 : decode cX7_determinant 312 = .ok (.isub, 1) := by decide +kernel
theorem dX7_determinant_313 : decode cX7_determinant 313 = .ok (.aaload, 1) := by decide +kernel
theorem dX7_determinant_314 : decode cX7_determinant 314 = .ok (.iload_n 3, 1) := by decide +kernel
theorem dX7_determinant_315 : decode cX7_determinant 315 = .ok (.iconst 1, 1) := by decide +kernel
theorem dX7_determinant_316 : decode cX7_determinant 316 = .ok (.isub, 1) := by decide +kernel
theorem dX7_determinant_317 : decode cX7_determinant 317 = .ok (.laload, 1) := by decide +kernel
theorem dX7_determinant_318 : decode cX7_determinant 318 = .ok (.lmul, 1) := by decide +kernel
theorem dX7_determinant_319 : decode cX7_determinant 319 = .ok (.lreturn, 1) := by decide +kernel
theorem dX7_kind_0 : decode cX7_kind 0 = .ok (.aload_n 0, 1) := by decide +kernel
theorem dX7_kind_1 : decode cX7_kind 1 = .ok (.iload_n 1, 1) := by decide +kernel
theorem dX7_kind_2 : decode cX7_kind 2 = .ok (.iload_n 2, 1) := by decide +kernel
theorem dX7_kind_3 : decode cX7_kind 3 = .ok (.invokevirtual 210, 3) := by decide +kernel
theorem dX7_kind_6 : decode cX7_kind 6 = .ok (.ifCond .ne 5, 3) := by decide +kernel
theorem dX7_kind_9 : decode cX7_kind 9 = .ok (.iconst (-1), 1) := by decide +kernel
theorem dX7_kind_10 : decode cX7_kind 10 = .ok (.ireturn, 1) := by decide +kernel
theorem dX7_kind_11 : decode cX7_kind 11 = .ok (.iconst 1, 1) := by decide +kernel
theorem dX7_kind_12 : decode cX7_kind 12 = .ok (.istore_n 3, 1) := by decide +kernel
theorem dX7_kind_13 : decode cX7_kind 13 = .ok (.iconst 1, 1) := by decide +kernel
theorem dX7_kind_14 : decode cX7_kind 14 = .ok (.istore 4, 2) := by decide +kernel
theorem dX7_kind_16 : decode cX7_kind 16 = .ok (.iload 4, 2) := by decide +kernel
theorem dX7_kind_18 : decode cX7_kind 18 = .ok (.iconst 1, 1) := by decide +kernel
theorem dX7_kind_19 : decode cX7_kind 19 = .ok (.iload_n 1, 1) := by decide +kernel
theorem dX7_kind_20 : decode cX7_kind 20 = .ok (.ishl, 1) := by decide +kernel
theorem dX7_kind_21 : decode cX7_kind 21 = .ok (.if_icmp .ge 44, 3) := by decide +kernel
theorem dX7_kind_24 : decode cX7_kind 24 = .ok (.aload_n 0, 1) := by decide +kernel
theorem dX7_kind_25 : decode cX7_kind 25 = .ok (.iload_n 1, 1) := by decide +kernel
theorem dX7_kind_26 : decode cX7_kind 26 = .ok (.iload 4, 2) := by decide +kernel
theorem dX7_kind_28 : decode cX7_kind 28 = .ok (.invokevirtual 213, 3) := by decide +kernel
theorem dX7_kind_31 : decode cX7_kind 31 = .ok (.lstore 5, 2) := by decide +kernel
theorem dX7_kind_33 : decode cX7_kind 33 = .ok (.lload 5, 2) := by decide +kernel
theorem dX7_kind_35 : decode cX7_kind 35 = .ok (.lconst 0, 1) := by decide +kernel
theorem dX7_kind_36 : decode cX7_kind 36 = .ok (.lcmp, 1) := by decide +kernel
theorem dX7_kind_37 : decode cX7_kind 37 = .ok (.ifCond .ge 5, 3) := by decide +kernel
theorem dX7_kind_40 : decode cX7_kind 40 = .ok (.iconst 3, 1) := by decide +kernel
theorem dX7_kind_41 : decode cX7_kind 41 = .ok (.ireturn, 1) := by decide +kernel
theorem dX7_kind_42 : decode cX7_kind 42 = .ok (.iload_n 3, 1) := by decide +kernel
theorem dX7_kind_43 : decode cX7_kind 43 = .ok (.ifCond .eq 14, 3) := by decide +kernel
theorem dX7_kind_46 : decode cX7_kind 46 = .ok (.lload 5, 2) := by decide +kernel
theorem dX7_kind_48 : decode cX7_kind 48 = .ok (.lconst 0, 1) := by decide +kernel
theorem dX7_kind_49 : decode cX7_kind 49 = .ok (.lcmp, 1) := by decide +kernel
theorem dX7_kind_50 : decode cX7_kind 50 = .ok (.ifCond .le 7, 3) := by decide +kernel
theorem dX7_kind_53 : decode cX7_kind 53 = .ok (.iconst 1, 1) := by decide +kernel
theorem dX7_kind_54 : decode cX7_kind 54 = .ok (.goto 4, 3) := by decide +kernel
theorem dX7_kind_57 : decode cX7_kind 57 = .ok (.iconst 0, 1) := by decide +kernel
theorem dX7_kind_58 : decode cX7_kind 58 = .ok (.istore_n 3, 1) := by decide +kernel
theorem dX7_kind_59 : decode cX7_kind 59 = .ok (.iinc 4 1, 3) := by decide +kernel
theorem dX7_kind_62 : decode cX7_kind 62 = .ok (.goto (-46), 3) := by decide +kernel
theorem dX7_kind_65 : decode cX7_kind 65 = .ok (.iload_n 3, 1) := by decide +kernel
theorem dX7_kind_66 : decode cX7_kind 66 = .ok (.ifCond .eq 7, 3) := by decide +kernel
theorem dX7_kind_69 : decode cX7_kind 69 = .ok (.iconst 1, 1) := by decide +kernel
theorem dX7_kind_70 : decode cX7_kind 70 = .ok (.goto 4, 3) := by decide +kernel
theorem dX7_kind_73 : decode cX7_kind 73 = .ok (.iconst 2, 1) := by decide +kernel
theorem dX7_kind_74 : decode cX7_kind 74 = .ok (.ireturn, 1) := by decide +kernel
theorem dX7_value_0 : decode cX7_value 0 = .ok (.iconst 0, 1) := by decide +kernel
theorem dX7_value_1 : decode cX7_value 1 = .ok (.istore_n 3, 1) := by decide +kernel
theorem dX7_value_2 : decode cX7_value 2 = .ok (.iconst 0, 1) := by decide +kernel
theorem dX7_value_3 : decode cX7_value 3 = .ok (.istore 4, 2) := by decide +kernel
theorem dX7_value_5 : decode cX7_value 5 = .ok (.iload 4, 2) := by decide +kernel
theorem dX7_value_7 : decode cX7_value 7 = .ok (.iload_n 1, 1) := by decide +kernel
theorem dX7_value_8 : decode cX7_value 8 = .ok (.if_icmp .ge 43, 3) := by decide +kernel
theorem dX7_value_11 : decode cX7_value 11 = .ok (.iload_n 3, 1) := by decide +kernel
theorem dX7_value_12 : decode cX7_value 12 = .ok (.aload_n 2, 1) := by decide +kernel
theorem dX7_value_13 : decode cX7_value 13 = .ok (.iload 4, 2) := by decide +kernel
theorem dX7_value_15 : decode cX7_value 15 = .ok (.baload, 1) := by decide +kernel
theorem dX7_value_16 : decode cX7_value 16 = .ok (.aload_n 2, 1) := by decide +kernel
theorem dX7_value_17 : decode cX7_value 17 = .ok (.iload 4, 2) := by decide +kernel
theorem dX7_value_19 : decode cX7_value 19 = .ok (.baload, 1) := by decide +kernel
theorem dX7_value_20 : decode cX7_value 20 = .ok (.imul, 1) := by decide +kernel
theorem dX7_value_21 : decode cX7_value 21 = .ok (.iadd, 1) := by decide +kernel
theorem dX7_value_22 : decode cX7_value 22 = .ok (.istore_n 3, 1) := by decide +kernel
theorem dX7_value_23 : decode cX7_value 23 = .ok (.iload 4, 2) := by decide +kernel
theorem dX7_value_25 : decode cX7_value 25 = .ok (.ifCond .le 20, 3) := by decide +kernel
theorem dX7_value_28 : decode cX7_value 28 = .ok (.iload_n 3, 1) := by decide +kernel
theorem dX7_value_29 : decode cX7_value 29 = .ok (.aload_n 2, 1) := by decide +kernel
theorem dX7_value_30 : decode cX7_value 30 = .ok (.iload 4, 2) := by decide +kernel
theorem dX7_value_32 : decode cX7_value 32 = .ok (.baload, 1) := by decide +kernel
theorem dX7_value_33 : decode cX7_value 33 = .ok (.aload_n 2, 1) := by decide +kernel
theorem dX7_value_34 : decode cX7_value 34 = .ok (.aload_n 0, 1) := by decide +kernel
theorem dX7_value_35 : decode cX7_value 35 = .ok (.getfield 69, 3) := by decide +kernel
theorem dX7_value_38 : decode cX7_value 38 = .ok (.iload 4, 2) := by decide +kernel
theorem dX7_value_40 : decode cX7_value 40 = .ok (.iaload, 1) := by decide +kernel
theorem dX7_value_41 : decode cX7_value 41 = .ok (.baload, 1) := by decide +kernel
theorem dX7_value_42 : decode cX7_value 42 = .ok (.imul, 1) := by decide +kernel
theorem dX7_value_43 : decode cX7_value 43 = .ok (.isub, 1) := by decide +kernel
theorem dX7_value_44 : decode cX7_value 44 = .ok (.istore_n 3, 1) := by decide +kernel
theorem dX7_value_45 : decode cX7_value 45 = .ok (.iinc 4 1, 3) := by decide +kernel
theorem dX7_value_48 : decode cX7_value 48 = .ok (.goto (-43), 3) := by decide +kernel
theorem dX7_value_51 : decode cX7_value 51 = .ok (.iload_n 3, 1) := by decide +kernel
theorem dX7_value_52 : decode cX7_value 52 = .ok (.ireturn, 1) := by decide +kernel
theorem dX7_isFound_0 : decode cX7_isFound 0 = .ok (.iconst 0, 1) := by decide +kernel
theorem dX7_isFound_1 : decode cX7_isFound 1 = .ok (.istore 4, 2) := by decide +kernel
theorem dX7_isFound_3 : decode cX7_isFound 3 = .ok (.iload 4, 2) := by decide +kernel
theorem dX7_isFound_5 : decode cX7_isFound 5 = .ok (.iload_n 2, 1) := by decide +kernel
theorem dX7_isFound_6 : decode cX7_isFound 6 = .ok (.if_icmp .ge 63, 3) := by decide +kernel
theorem dX7_isFound_9 : decode cX7_isFound 9 = .ok (.iconst 1, 1) := by decide +kernel
theorem dX7_isFound_10 : decode cX7_isFound 10 = .ok (.istore 5, 2) := by decide +kernel
theorem dX7_isFound_12 : decode cX7_isFound 12 = .ok (.iconst 0, 1) := by decide +kernel
theorem dX7_isFound_13 : decode cX7_isFound 13 = .ok (.istore 6, 2) := by decide +kernel
theorem dX7_isFound_15 : decode cX7_isFound 15 = .ok (.iload 6, 2) := by decide +kernel
theorem dX7_isFound_17 : decode cX7_isFound 17 = .ok (.iload_n 1, 1) := by decide +kernel
theorem dX7_isFound_18 : decode cX7_isFound 18 = .ok (.if_icmp .ge 38, 3) := by decide +kernel
theorem dX7_isFound_21 : decode cX7_isFound 21 = .ok (.iload 5, 2) := by decide +kernel
theorem dX7_isFound_23 : decode cX7_isFound 23 = .ok (.ifCond .eq 33, 3) := by decide +kernel
theorem dX7_isFound_26 : decode cX7_isFound 26 = .ok (.aload_n 0, 1) := by decide +kernel
theorem dX7_isFound_27 : decode cX7_isFound 27 = .ok (.getfield 74, 3) := by decide +kernel
theorem dX7_isFound_30 : decode cX7_isFound 30 = .ok (.iload 4, 2) := by decide +kernel
theorem dX7_isFound_32 : decode cX7_isFound 32 = .ok (.aaload, 1) := by decide +kernel
theorem dX7_isFound_33 : decode cX7_isFound 33 = .ok (.iload 6, 2) := by decide +kernel
theorem dX7_isFound_35 : decode cX7_isFound 35 = .ok (.baload, 1) := by decide +kernel
theorem dX7_isFound_36 : decode cX7_isFound 36 = .ok (.aload_n 3, 1) := by decide +kernel
theorem dX7_isFound_37 : decode cX7_isFound 37 = .ok (.iload 6, 2) := by decide +kernel
theorem dX7_isFound_39 : decode cX7_isFound 39 = .ok (.baload, 1) := by decide +kernel
theorem dX7_isFound_40 : decode cX7_isFound 40 = .ok (.if_icmp .ne 7, 3) := by decide +kernel
theorem dX7_isFound_43 : decode cX7_isFound 43 = .ok (.iconst 1, 1) := by decide +kernel
theorem dX7_isFound_44 : decode cX7_isFound 44 = .ok (.goto 4, 3) := by decide +kernel
theorem dX7_isFound_47 : decode cX7_isFound 47 = .ok (.iconst 0, 1) := by decide +kernel
theorem dX7_isFound_48 : decode cX7_isFound 48 = .ok (.istore 5, 2) := by decide +kernel
theorem dX7_isFound_50 : decode cX7_isFound 50 = .ok (.iinc 6 1, 3) := by decide +kernel
theorem dX7_isFound_53 : decode cX7_isFound 53 = .ok (.goto (-38), 3) := by decide +kernel
theorem dX7_isFound_56 : decode cX7_isFound 56 = .ok (.iload 5, 2) := by decide +kernel
theorem dX7_isFound_58 : decode cX7_isFound 58 = .ok (.ifCond .eq 5, 3) := by decide +kernel
theorem dX7_isFound_61 : decode cX7_isFound 61 = .ok (.iconst 1, 1) := by decide +kernel
theorem dX7_isFound_62 : decode cX7_isFound 62 = .ok (.ireturn, 1) := by decide +kernel
theorem dX7_isFound_63 : decode cX7_isFound 63 = .ok (.iinc 4 1, 3) := by decide +kernel
theorem dX7_isFound_66 : decode cX7_isFound 66 = .ok (.goto (-63), 3) := by decide +kernel
theorem dX7_isFound_69 : decode cX7_isFound 69 = .ok (.iconst 0, 1) := by decide +kernel
theorem dX7_isFound_70 : decode cX7_isFound 70 = .ok (.ireturn, 1) := by decide +kernel
theorem dX7_roots_0 : decode cX7_roots 0 = .ok (.aload_n 0, 1) := by decide +kernel
theorem dX7_roots_1 : decode cX7_roots 1 = .ok (.iload_n 1, 1) := by decide +kernel
theorem dX7_roots_2 : decode cX7_roots 2 = .ok (.iload_n 2, 1) := by decide +kernel
theorem dX7_roots_3 : decode cX7_roots 3 = .ok (.invokevirtual 217, 3) := by decide +kernel
theorem dX7_roots_6 : decode cX7_roots 6 = .ok (.istore_n 3, 1) := by decide +kernel
theorem dX7_roots_7 : decode cX7_roots 7 = .ok (.iload_n 3, 1) := by decide +kernel
theorem dX7_roots_8 : decode cX7_roots 8 = .ok (.iconst 1, 1) := by decide +kernel
theorem dX7_roots_9 : decode cX7_roots 9 = .ok (.if_icmp .eq 14, 3) := by decide +kernel
theorem dX7_roots_12 : decode cX7_roots 12 = .ok (.iload_n 3, 1) := by decide +kernel
theorem dX7_roots_13 : decode cX7_roots 13 = .ok (.iconst (-1), 1) := by decide +kernel
theorem dX7_roots_14 : decode cX7_roots 14 = .ok (.if_icmp .ne 7, 3) := by decide +kernel
theorem dX7_roots_17 : decode cX7_roots 17 = .ok (.iconst (-1), 1) := by decide +kernel
theorem dX7_roots_18 : decode cX7_roots 18 = .ok (.goto 4, 3) := by decide +kernel
theorem dX7_roots_21 : decode cX7_roots 21 = .ok (.iconst 0, 1) := by decide +kernel
theorem dX7_roots_22 : decode cX7_roots 22 = .ok (.ireturn, 1) := by decide +kernel
theorem dX7_roots_23 : decode cX7_roots 23 = .ok (.iconst 0, 1) := by decide +kernel
theorem dX7_roots_24 : decode cX7_roots 24 = .ok (.istore 4, 2) := by decide +kernel
theorem dX7_roots_26 : decode cX7_roots 26 = .ok (.iconst 0, 1) := by decide +kernel
theorem dX7_roots_27 : decode cX7_roots 27 = .ok (.istore 5, 2) := by decide +kernel
theorem dX7_roots_29 : decode cX7_roots 29 = .ok (.iload 5, 2) := by decide +kernel
theorem dX7_roots_31 : decode cX7_roots 31 = .ok (.iload_n 1, 1) := by decide +kernel
theorem dX7_roots_32 : decode cX7_roots 32 = .ok (.if_icmp .ge 50, 3) := by decide +kernel
theorem dX7_roots_35 : decode cX7_roots 35 = .ok (.iconst 0, 1) := by decide +kernel
theorem dX7_roots_36 : decode cX7_roots 36 = .ok (.istore 6, 2) := by decide +kernel
theorem dX7_roots_38 : decode cX7_roots 38 = .ok (.iload 6, 2) := by decide +kernel
theorem dX7_roots_40 : decode cX7_roots 40 = .ok (.iload_n 1, 1) := by decide +kernel
theorem dX7_roots_41 : decode cX7_roots 41 = .ok (.if_icmp .ge 32, 3) := by decide +kernel
theorem dX7_roots_44 : decode cX7_roots 44 = .ok (.aload_n 0, 1) := by decide +kernel
theorem dX7_roots_45 : decode cX7_roots 45 = .ok (.getfield 74, 3) := by decide +kernel
theorem dX7_roots_48 : decode cX7_roots 48 = .ok (.iload 4, 2) := by decide +kernel
theorem dX7_roots_50 : decode cX7_roots 50 = .ok (.aaload, 1) := by decide +kernel
theorem dX7_roots_51 : decode cX7_roots 51 = .ok (.iload 6, 2) := by decide +kernel
theorem dX7_roots_53 : decode cX7_roots 53 = .ok (.iload 6, 2) := by decide +kernel
theorem dX7_roots_55 : decode cX7_roots 55 = .ok (.iload 5, 2) := by decide +kernel
theorem dX7_roots_57 : decode cX7_roots 57 = .ok (.if_icmp .ne 7, 3) := by decide +kernel
theorem dX7_roots_60 : decode cX7_roots 60 = .ok (.iconst 1, 1) := by decide +kernel
theorem dX7_roots_61 : decode cX7_roots 61 = .ok (.goto 4, 3) := by decide +kernel
theorem dX7_roots_64 : decode cX7_roots 64 = .ok (.iconst 0, 1) := by decide +kernel
theorem dX7_roots_65 : decode cX7_roots 65 = .ok (.i2b, 1) := by decide +kernel
theorem dX7_roots_66 : decode cX7_roots 66 = .ok (.bastore, 1) := by decide +kernel
theorem dX7_roots_67 : decode cX7_roots 67 = .ok (.iinc 6 1, 3) := by decide +kernel
theorem dX7_roots_70 : decode cX7_roots 70 = .ok (.goto (-32), 3) := by decide +kernel
theorem dX7_roots_73 : decode cX7_roots 73 = .ok (.iinc 4 1, 3) := by decide +kernel
theorem dX7_roots_76 : decode cX7_roots 76 = .ok (.iinc 5 1, 3) := by decide +kernel
theorem dX7_roots_79 : decode cX7_roots 79 = .ok (.goto (-50), 3) := by decide +kernel
theorem dX7_roots_82 : decode cX7_roots 82 = .ok (.iconst 0, 1) := by decide +kernel
theorem dX7_roots_83 : decode cX7_roots 83 = .ok (.istore 5, 2) := by decide +kernel
theorem dX7_roots_85 : decode cX7_roots 85 = .ok (.iload 5, 2) := by decide +kernel
theorem dX7_roots_87 : decode cX7_roots 87 = .ok (.iload 4, 2) := by decide +kernel
theorem dX7_roots_89 : decode cX7_roots 89 = .ok (.if_icmp .ge 137, 3) := by decide +kernel
theorem dX7_roots_92 : decode cX7_roots 92 = .ok (.iconst 0, 1) := by decide +kernel
theorem dX7_roots_93 : decode cX7_roots 93 = .ok (.istore 6, 2) := by decide +kernel
theorem dX7_roots_95 : decode cX7_roots 95 = .ok (.iload 6, 2) := by decide +kernel
theorem dX7_roots_97 : decode cX7_roots 97 = .ok (.iload_n 1, 1) := by decide +kernel
theorem dX7_roots_98 : decode cX7_roots 98 = .ok (.if_icmp .ge 122, 3) := by decide +kernel
theorem dX7_roots_101 : decode cX7_roots 101 = .ok (.aload_n 0, 1) := by decide +kernel
theorem dX7_roots_102 : decode cX7_roots 102 = .ok (.getfield 74, 3) := by decide +kernel
theorem dX7_roots_105 : decode cX7_roots 105 = .ok (.iload 5, 2) := by decide +kernel
theorem dX7_roots_107 : decode cX7_roots 107 = .ok (.aaload, 1) := by decide +kernel
theorem dX7_roots_108 : decode cX7_roots 108 = .ok (.iload 6, 2) := by decide +kernel
theorem dX7_roots_110 : decode cX7_roots 110 = .ok (.dup2, 1) := by decide +kernel
theorem dX7_roots_111 : decode cX7_roots 111 = .ok (.baload, 1) := by decide +kernel
theorem dX7_roots_112 : decode cX7_roots 112 = .ok (.iconst 1, 1) := by decide +kernel
theorem dX7_roots_113 : decode cX7_roots 113 = .ok (.iadd, 1) := by decide +kernel
theorem dX7_roots_114 : decode cX7_roots 114 = .ok (.i2b, 1) := by decide +kernel
theorem dX7_roots_115 : decode cX7_roots 115 = .ok (.bastore, 1) := by decide +kernel
theorem dX7_roots_116 : decode cX7_roots 116 = .ok (.aload_n 0, 1) := by decide +kernel
theorem dX7_roots_117 : decode cX7_roots 117 = .ok (.iload_n 1, 1) := by decide +kernel
theorem dX7_roots_118 : decode cX7_roots 118 = .ok (.aload_n 0, 1) := by decide +kernel
theorem dX7_roots_119 : decode cX7_roots 119 = .ok (.getfield 74, 3) := by decide +kernel
theorem dX7_roots_122 : decode cX7_roots 122 = .ok (.iload 5, 2) := by decide +kernel
theorem dX7_roots_124 : decode cX7_roots 124 = .ok (.aaload, 1) := by decide +kernel
theorem dX7_roots_125 : decode cX7_roots 125 = .ok (.invokevirtual 220, 3) := by decide +kernel
theorem dX7_roots_128 : decode cX7_roots 128 = .ok (.iconst 1, 1) := by decide +kernel
theorem dX7_roots_129 : decode cX7_roots 129 = .ok (.if_icmp .ne 70, 3) := by decide +kernel
theorem dX7_roots_132 : decode cX7_roots 132 = .ok (.aload_n 0, 1) := by decide +kernel
theorem dX7_roots_133 : decode cX7_roots 133 = .ok (.iload_n 1, 1) := by decide +kernel
theorem dX7_roots_134 : decode cX7_roots 134 = .ok (.iload 5, 2) := by decide +kernel
theorem dX7_roots_136 : decode cX7_roots 136 = .ok (.aload_n 0, 1) := by decide +kernel
theorem dX7_roots_137 : decode cX7_roots 137 = .ok (.getfield 74, 3) := by decide +kernel
theorem dX7_roots_140 : decode cX7_roots 140 = .ok (.iload 5, 2) := by decide +kernel
theorem dX7_roots_142 : decode cX7_roots 142 = .ok (.aaload, 1) := by decide +kernel
theorem dX7_roots_143 : decode cX7_roots 143 = .ok (.invokevirtual 224, 3) := by decide +kernel
theorem dX7_roots_146 : decode cX7_roots 146 = .ok (.ifCond .ne 53, 3) := by decide +kernel
theorem dX7_roots_149 : decode cX7_roots 149 = .ok (.aload_n 0, 1) := by decide +kernel
theorem dX7_roots_150 : decode cX7_roots 150 = .ok (.iload_n 1, 1) := by decide +kernel
theorem dX7_roots_151 : decode cX7_roots 151 = .ok (.iload 5, 2) := by decide +kernel
theorem dX7_roots_153 : decode cX7_roots 153 = .ok (.iload 4, 2) := by decide +kernel
theorem dX7_roots_155 : decode cX7_roots 155 = .ok (.invokevirtual 228, 3) := by decide +kernel
theorem dX7_roots_158 : decode cX7_roots 158 = .ok (.ifCond .ne 41, 3) := by decide +kernel
theorem dX7_roots_161 : decode cX7_roots 161 = .ok (.iconst 0, 1) := by decide +kernel
theorem dX7_roots_162 : decode cX7_roots 162 = .ok (.istore 7, 2) := by decide +kernel
theorem dX7_roots_164 : decode cX7_roots 164 = .ok (.iload 7, 2) := by decide +kernel
theorem dX7_roots_166 : decode cX7_roots 166 = .ok (.iload_n 1, 1) := by decide +kernel
theorem dX7_roots_167 : decode cX7_roots 167 = .ok (.if_icmp .ge 29, 3) := by decide +kernel
theorem dX7_roots_170 : decode cX7_roots 170 = .ok (.aload_n 0, 1) := by decide +kernel
theorem dX7_roots_171 : decode cX7_roots 171 = .ok (.getfield 74, 3) := by decide +kernel
theorem dX7_roots_174 : decode cX7_roots 174 = .ok (.iload 4, 2) := by decide +kernel
theorem dX7_roots_176 : decode cX7_roots 176 = .ok (.aaload, 1) := by decide +kernel
theorem dX7_roots_177 : decode cX7_roots 177 = .ok (.iload 7, 2) := by decide +kernel
theorem dX7_roots_179 : decode cX7_roots 179 = .ok (.aload_n 0, 1) := by decide +kernel
theorem dX7_roots_180 : decode cX7_roots 180 = .ok (.getfield 74, 3) := by decide +kernel
theorem dX7_roots_183 : decode cX7_roots 183 = .ok (.iload 5, 2) := by decide +kernel
theorem dX7_roots_185 : decode cX7_roots 185 = .ok (.aaload, 1) := by decide +kernel
theorem dX7_roots_186 : decode cX7_roots 186 = .ok (.iload 7, 2) := by decide +kernel
theorem dX7_roots_188 : decode cX7_roots 188 = .ok (.baload, 1) := by decide +kernel
theorem dX7_roots_189 : decode cX7_roots 189 = .ok (.bastore, 1) := by decide +kernel
theorem dX7_roots_190 : decode cX7_roots 190 = .ok (.iinc 7 1, 3) := by decide +kernel
theorem dX7_roots_193 : decode cX7_roots 193 = .ok (.goto (-29), 3) := by decide +kernel
theorem dX7_roots_196 : decode cX7_roots 196 = .ok (.iinc 4 1, 3) := by decide +kernel
theorem dX7_roots_199 : decode cX7_roots 199 = .ok (.aload_n 0, 1) := by decide +kernel
theorem dX7_roots_200 : decode cX7_roots 200 = .ok (.getfield 74, 3) := by decide +kernel
theorem dX7_roots_203 : decode cX7_roots 203 = .ok (.iload 5, 2) := by decide +kernel
theorem dX7_roots_205 : decode cX7_roots 205 = .ok (.aaload, 1) := by decide +kernel
theorem dX7_roots_206 : decode cX7_roots 206 = .ok (.iload 6, 2) := by decide +kernel
theorem dX7_roots_208 : decode cX7_roots 208 = .ok (.dup2, 1) := by decide +kernel
theorem dX7_roots_209 : decode cX7_roots 209 = .ok (.baload, 1) := by decide +kernel
theorem dX7_roots_210 : decode cX7_roots 210 = .ok (.iconst 1, 1) := by decide +kernel
theorem dX7_roots_211 : decode cX7_roots 211 = .ok (.isub, 1) := by decide +kernel
theorem dX7_roots_212 : decode cX7_roots 212 = .ok (.i2b, 1) := by decide +kernel
theorem dX7_roots_213 : decode cX7_roots 213 = .ok (.bastore, 1) := by decide +kernel
theorem dX7_roots_214 : decode cX7_roots 214 = .ok (.iinc 6 1, 3) := by decide +kernel
theorem dX7_roots_217 : decode cX7_roots 217 = .ok (.goto (-122), 3) := by decide +kernel
theorem dX7_roots_220 : decode cX7_roots 220 = .ok (.iinc 5 1, 3) := by decide +kernel
theorem dX7_roots_223 : decode cX7_roots 223 = .ok (.goto (-138), 3) := by decide +kernel
theorem dX7_roots_226 : decode cX7_roots 226 = .ok (.iload 4, 2) := by decide +kernel
theorem dX7_roots_228 : decode cX7_roots 228 = .ok (.ireturn, 1) := by decide +kernel
theorem dX7_isBehind_0 : decode cX7_isBehind 0 = .ok (.iload_n 2, 1) := by decide +kernel
theorem dX7_isBehind_1 : decode cX7_isBehind 1 = .ok (.iconst 1, 1) := by decide +kernel
theorem dX7_isBehind_2 : decode cX7_isBehind 2 = .ok (.iadd, 1) := by decide +kernel
theorem dX7_isBehind_3 : decode cX7_isBehind 3 = .ok (.istore 4, 2) := by decide +kernel
theorem dX7_isBehind_5 : decode cX7_isBehind 5 = .ok (.iload 4, 2) := by decide +kernel
theorem dX7_isBehind_7 : decode cX7_isBehind 7 = .ok (.iload_n 3, 1) := by decide +kernel
theorem dX7_isBehind_8 : decode cX7_isBehind 8 = .ok (.if_icmp .ge 68, 3) := by decide +kernel
theorem dX7_isBehind_11 : decode cX7_isBehind 11 = .ok (.iconst 1, 1) := by decide +kernel
theorem dX7_isBehind_12 : decode cX7_isBehind 12 = .ok (.istore 5, 2) := by decide +kernel
theorem dX7_isBehind_14 : decode cX7_isBehind 14 = .ok (.iconst 0, 1) := by decide +kernel
theorem dX7_isBehind_15 : decode cX7_isBehind 15 = .ok (.istore 6, 2) := by decide +kernel
theorem dX7_isBehind_17 : decode cX7_isBehind 17 = .ok (.iload 6, 2) := by decide +kernel
theorem dX7_isBehind_19 : decode cX7_isBehind 19 = .ok (.iload_n 1, 1) := by decide +kernel
theorem dX7_isBehind_20 : decode cX7_isBehind 20 = .ok (.if_icmp .ge 43, 3) := by decide +kernel
theorem dX7_isBehind_23 : decode cX7_isBehind 23 = .ok (.iload 5, 2) := by decide +kernel
theorem dX7_isBehind_25 : decode cX7_isBehind 25 = .ok (.ifCond .eq 38, 3) := by decide +kernel
theorem dX7_isBehind_28 : decode cX7_isBehind 28 = .ok (.aload_n 0, 1) := by decide +kernel
theorem dX7_isBehind_29 : decode cX7_isBehind 29 = .ok (.getfield 74, 3) := by decide +kernel
theorem dX7_isBehind_32 : decode cX7_isBehind 32 = .ok (.iload 4, 2) := by decide +kernel
theorem dX7_isBehind_34 : decode cX7_isBehind 34 = .ok (.aaload, 1) := by decide +kernel
theorem dX7_isBehind_35 : decode cX7_isBehind 35 = .ok (.iload 6, 2) := by decide +kernel
theorem dX7_isBehind_37 : decode cX7_isBehind 37 = .ok (.baload, 1) := by decide +kernel
theorem dX7_isBehind_38 : decode cX7_isBehind 38 = .ok (.aload_n 0, 1) := by decide +kernel
theorem dX7_isBehind_39 : decode cX7_isBehind 39 = .ok (.getfield 74, 3) := by decide +kernel
theorem dX7_isBehind_42 : decode cX7_isBehind 42 = .ok (.iload_n 2, 1) := by decide +kernel
theorem dX7_isBehind_43 : decode cX7_isBehind 43 = .ok (.aaload, 1) := by decide +kernel
theorem dX7_isBehind_44 : decode cX7_isBehind 44 = .ok (.iload 6, 2) := by decide +kernel
theorem dX7_isBehind_46 : decode cX7_isBehind 46 = .ok (.baload, 1) := by decide +kernel
theorem dX7_isBehind_47 : decode cX7_isBehind 47 = .ok (.if_icmp .ne 7, 3) := by decide +kernel
theorem dX7_isBehind_50 : decode cX7_isBehind 50 = .ok (.iconst 1, 1) := by decide +kernel
theorem dX7_isBehind_51 : decode cX7_isBehind 51 = .ok (.goto 4, 3) := by decide +kernel
theorem dX7_isBehind_54 : decode cX7_isBehind 54 = .ok (.iconst 0, 1) := by decide +kernel
theorem dX7_isBehind_55 : decode cX7_isBehind 55 = .ok (.istore 5, 2) := by decide +kernel
theorem dX7_isBehind_57 : decode cX7_isBehind 57 = .ok (.iinc 6 1, 3) := by decide +kernel
theorem dX7_isBehind_60 : decode cX7_isBehind 60 = .ok (.goto (-43), 3) := by decide +kernel
theorem dX7_isBehind_63 : decode cX7_isBehind 63 = .ok (.iload 5, 2) := by decide +kernel
theorem dX7_isBehind_65 : decode cX7_isBehind 65 = .ok (.ifCond .eq 5, 3) := by decide +kernel
theorem dX7_isBehind_68 : decode cX7_isBehind 68 = .ok (.iconst 1, 1) := by decide +kernel
theorem dX7_isBehind_69 : decode cX7_isBehind 69 = .ok (.ireturn, 1) := by decide +kernel
theorem dX7_isBehind_70 : decode cX7_isBehind 70 = .ok (.iinc 4 1, 3) := by decide +kernel
theorem dX7_isBehind_73 : decode cX7_isBehind 73 = .ok (.goto (-68), 3) := by decide +kernel
theorem dX7_isBehind_76 : decode cX7_isBehind 76 = .ok (.iconst 0, 1) := by decide +kernel
theorem dX7_isBehind_77 : decode cX7_isBehind 77 = .ok (.ireturn, 1) := by decide +kernel
theorem dX7_count_0 : decode cX7_count 0 = .ok (.iload_n 1, 1) := by decide +kernel
theorem dX7_count_1 : decode cX7_count 1 = .ok (.ifCond .ne 10, 3) := by decide +kernel
theorem dX7_count_4 : decode cX7_count 4 = .ok (.aload_n 0, 1) := by decide +kernel
theorem dX7_count_5 : decode cX7_count 5 = .ok (.getfield 80, 3) := by decide +kernel
theorem dX7_count_8 : decode cX7_count 8 = .ok (.goto 16, 3) := by decide +kernel
theorem dX7_count_11 : decode cX7_count 11 = .ok (.iload_n 1, 1) := by decide +kernel
theorem dX7_count_12 : decode cX7_count 12 = .ok (.iconst 1, 1) := by decide +kernel
theorem dX7_count_13 : decode cX7_count 13 = .ok (.if_icmp .ne 10, 3) := by decide +kernel
theorem dX7_count_16 : decode cX7_count 16 = .ok (.aload_n 0, 1) := by decide +kernel
theorem dX7_count_17 : decode cX7_count 17 = .ok (.getfield 93, 3) := by decide +kernel
theorem dX7_count_20 : decode cX7_count 20 = .ok (.goto 4, 3) := by decide +kernel
theorem dX7_count_23 : decode cX7_count 23 = .ok (.iconst (-1), 1) := by decide +kernel
theorem dX7_count_24 : decode cX7_count 24 = .ok (.ireturn, 1) := by decide +kernel
end
section
theorem dL_cell_0 : decode cL_cell 0 = .ok (.iload_n 1, 1) := by decide +kernel
theorem dL_cell_1 : decode cL_cell 1 = .ok (.aload_n 0, 1) := by decide +kernel
theorem dL_cell_2 : decode cL_cell 2 = .ok (.arraylength, 1) := by decide +kernel
theorem dL_cell_3 : decode cL_cell 3 = .ok (.if_icmp .ge 9, 3) := by decide +kernel
theorem dL_cell_6 : decode cL_cell 6 = .ok (.aload_n 0, 1) := by decide +kernel
theorem dL_cell_7 : decode cL_cell 7 = .ok (.iload_n 1, 1) := by decide +kernel
theorem dL_cell_8 : decode cL_cell 8 = .ok (.iaload, 1) := by decide +kernel
theorem dL_cell_9 : decode cL_cell 9 = .ok (.goto 4, 3) := by decide +kernel
theorem dL_cell_12 : decode cL_cell 12 = .ok (.iconst 0, 1) := by decide +kernel
theorem dL_cell_13 : decode cL_cell 13 = .ok (.ireturn, 1) := by decide +kernel
theorem dL_law_0 : decode cL_law 0 = .ok (.new 7, 3) := by decide +kernel
theorem dL_law_3 : decode cL_law 3 = .ok (.dup, 1) := by decide +kernel
theorem dL_law_4 : decode cL_law 4 = .ok (.aload_n 0, 1) := by decide +kernel
theorem dL_law_5 : decode cL_law 5 = .ok (.iconst 0, 1) := by decide +kernel
theorem dL_law_6 : decode cL_law 6 = .ok (.invokestatic 9, 3) := by decide +kernel
theorem dL_law_9 : decode cL_law 9 = .ok (.aload_n 0, 1) := by decide +kernel
theorem dL_law_10 : decode cL_law 10 = .ok (.iconst 1, 1) := by decide +kernel
theorem dL_law_11 : decode cL_law 11 = .ok (.invokestatic 9, 3) := by decide +kernel
theorem dL_law_14 : decode cL_law 14 = .ok (.invokespecial 15, 3) := by decide +kernel
theorem dL_law_17 : decode cL_law 17 = .ok (.astore_n 1, 1) := by decide +kernel
theorem dL_law_18 : decode cL_law 18 = .ok (.new 18, 3) := by decide +kernel
theorem dL_law_21 : decode cL_law 21 = .ok (.dup, 1) := by decide +kernel
theorem dL_law_22 : decode cL_law 22 = .ok (.aload_n 0, 1) := by decide +kernel
theorem dL_law_23 : decode cL_law 23 = .ok (.iconst 0, 1) := by decide +kernel
theorem dL_law_24 : decode cL_law 24 = .ok (.invokestatic 9, 3) := by decide +kernel
theorem dL_law_27 : decode cL_law 27 = .ok (.aload_n 0, 1) := by decide +kernel
theorem dL_law_28 : decode cL_law 28 = .ok (.iconst 1, 1) := by decide +kernel
theorem dL_law_29 : decode cL_law 29 = .ok (.invokestatic 9, 3) := by decide +kernel
theorem dL_law_32 : decode cL_law 32 = .ok (.invokespecial 20, 3) := by decide +kernel
theorem dL_law_35 : decode cL_law 35 = .ok (.astore_n 2, 1) := by decide +kernel
theorem dL_law_36 : decode cL_law 36 = .ok (.iconst 2, 1) := by decide +kernel
theorem dL_law_37 : decode cL_law 37 = .ok (.istore_n 3, 1) := by decide +kernel
theorem dL_law_38 : decode cL_law 38 = .ok (.iload_n 3, 1) := by decide +kernel
theorem dL_law_39 : decode cL_law 39 = .ok (.aload_n 0, 1) := by decide +kernel
theorem dL_law_40 : decode cL_law 40 = .ok (.arraylength, 1) := by decide +kernel
theorem dL_law_41 : decode cL_law 41 = .ok (.bipush 6, 2) := by decide +kernel
theorem dL_law_43 : decode cL_law 43 = .ok (.isub, 1) := by decide +kernel
theorem dL_law_44 : decode cL_law 44 = .ok (.if_icmp .gt 863, 3) := by decide +kernel
theorem dL_law_47 : decode cL_law 47 = .ok (.aload_n 0, 1) := by decide +kernel
theorem dL_law_48 : decode cL_law 48 = .ok (.iload_n 3, 1) := by decide +kernel
theorem dL_law_49 : decode cL_law 49 = .ok (.iaload, 1) := by decide +kernel
theorem dL_law_50 : decode cL_law 50 = .ok (.bipush 31, 2) := by decide +kernel
theorem dL_law_52 : decode cL_law 52 = .ok (.iand, 1) := by decide +kernel
theorem dL_law_53 : decode cL_law 53 = .ok (.tableswitch 848 0 18 #[91, 134, 197, 250, 283, 306, 359, 402, 465, 508, 541, 574, 607, 650, 683, 726, 759, 792, 825], 91) := by decide +kernel
theorem dL_law_144 : decode cL_law 144 = .ok (.aload_n 1, 1) := by decide +kernel
theorem dL_law_145 : decode cL_law 145 = .ok (.aload_n 0, 1) := by decide +kernel
theorem dL_law_146 : decode cL_law 146 = .ok (.iload_n 3, 1) := by decide +kernel
theorem dL_law_147 : decode cL_law 147 = .ok (.iconst 1, 1) := by decide +kernel
theorem dL_law_148 : decode cL_law 148 = .ok (.iadd, 1) := by decide +kernel
theorem dL_law_149 : decode cL_law 149 = .ok (.iaload, 1) := by decide +kernel
theorem dL_law_150 : decode cL_law 150 = .ok (.aload_n 0, 1) := by decide +kernel
theorem dL_law_151 : decode cL_law 151 = .ok (.iload_n 3, 1) := by decide +kernel
theorem dL_law_152 : decode cL_law 152 = .ok (.iconst 2, 1) := by decide +kernel
theorem dL_law_153 : decode cL_law 153 = .ok (.iadd, 1) := by decide +kernel
theorem dL_law_154 : decode cL_law 154 = .ok (.iaload, 1) := by decide +kernel
theorem dL_law_155 : decode cL_law 155 = .ok (.aload_n 0, 1) := by decide +kernel
theorem dL_law_156 : decode cL_law 156 = .ok (.iload_n 3, 1) := by decide +kernel
theorem dL_law_157 : decode cL_law 157 = .ok (.iconst 3, 1) := by decide +kernel
theorem dL_law_158 : decode cL_law 158 = .ok (.iadd, 1) := by decide +kernel
theorem dL_law_159 : decode cL_law 159 = .ok (.iaload, 1) := by decide +kernel
theorem dL_law_160 : decode cL_law 160 = .ok (.invokevirtual 21, 3) := by decide +kernel
theorem dL_law_163 : decode cL_law 163 = .ok (.aload_n 2, 1) := by decide +kernel
theorem dL_law_164 : decode cL_law 164 = .ok (.aload_n 0, 1) := by decide +kernel
theorem dL_law_165 : decode cL_law 165 = .ok (.iload_n 3, 1) := by decide +kernel
theorem dL_law_166 : decode cL_law 166 = .ok (.iconst 1, 1) := by decide +kernel
theorem dL_law_167 : decode cL_law 167 = .ok (.iadd, 1) := by decide +kernel
theorem dL_law_168 : decode cL_law 168 = .ok (.iaload, 1) := by decide +kernel
theorem dL_law_169 : decode cL_law 169 = .ok (.aload_n 0, 1) := by decide +kernel
theorem dL_law_170 : decode cL_law 170 = .ok (.iload_n 3, 1) := by decide +kernel
theorem dL_law_171 : decode cL_law 171 = .ok (.iconst 2, 1) := by decide +kernel
theorem dL_law_172 : decode cL_law 172 = .ok (.iadd, 1) := by decide +kernel
theorem dL_law_173 : decode cL_law 173 = .ok (.iaload, 1) := by decide +kernel
theorem dL_law_174 : decode cL_law 174 = .ok (.aload_n 0, 1) := by decide +kernel
theorem dL_law_175 : decode cL_law 175 = .ok (.iload_n 3, 1) := by decide +kernel
theorem dL_law_176 : decode cL_law 176 = .ok (.iconst 3, 1) := by decide +kernel
theorem dL_law_177 : decode cL_law 177 = .ok (.iadd, 1) := by decide +kernel
theorem dL_law_178 : decode cL_law 178 = .ok (.iaload, 1) := by decide +kernel
theorem dL_law_179 : decode cL_law 179 = .ok (.invokevirtual 25, 3) := by decide +kernel
theorem dL_law_182 : decode cL_law 182 = .ok (.if_icmp .eq 719, 3) := by decide +kernel
theorem dL_law_185 : decode cL_law 185 = .ok (.iconst 0, 1) := by decide +kernel
theorem dL_law_186 : decode cL_law 186 = .ok (.ireturn, 1) := by decide +kernel
theorem dL_law_187 : decode cL_law 187 = .ok (.aload_n 1, 1) := by decide +kernel
theorem dL_law_188 : decode cL_law 188 = .ok (.aload_n 0, 1) := by decide +kernel
theorem dL_law_189 : decode cL_law 189 = .ok (.iload_n 3, 1) := by decide +kernel
theorem dL_law_190 : decode cL_law 190 = .ok (.iconst 1, 1) := by decide +kernel
theorem dL_law_191 : decode cL_law 191 = .ok (.iadd, 1) := by decide +kernel
theorem dL_law_192 : decode cL_law 192 = .ok (.iaload, 1) := by decide +kernel
theorem dL_law_193 : decode cL_law 193 = .ok (.aload_n 0, 1) := by decide +kernel
theorem dL_law_194 : decode cL_law 194 = .ok (.iload_n 3, 1) := by decide +kernel
theorem dL_law_195 : decode cL_law 195 = .ok (.iconst 2, 1) := by decide +kernel
theorem dL_law_196 : decode cL_law 196 = .ok (.iadd, 1) := by decide +kernel
theorem dL_law_197 : decode cL_law 197 = .ok (.iaload, 1) := by decide +kernel
theorem dL_law_198 : decode cL_law 198 = .ok (.aload_n 0, 1) := by decide +kernel
theorem dL_law_199 : decode cL_law 199 = .ok (.iload_n 3, 1) := by decide +kernel
theorem dL_law_200 : decode cL_law 200 = .ok (.iconst 3, 1) := by decide +kernel
theorem dL_law_201 : decode cL_law 201 = .ok (.iadd, 1) := by decide +kernel
theorem dL_law_202 : decode cL_law 202 = .ok (.iaload, 1) := by decide +kernel
theorem dL_law_203 : decode cL_law 203 = .ok (.aload_n 0, 1) := by decide +kernel
theorem dL_law_204 : decode cL_law 204 = .ok (.iload_n 3, 1) := by decide +kernel
theorem dL_law_205 : decode cL_law 205 = .ok (.iconst 4, 1) := by decide +kernel
theorem dL_law_206 : decode cL_law 206 = .ok (.iadd, 1) := by decide +kernel
theorem dL_law_207 : decode cL_law 207 = .ok (.iaload, 1) := by decide +kernel
theorem dL_law_208 : decode cL_law 208 = .ok (.aload_n 0, 1) := by decide +kernel
theorem dL_law_209 : decode cL_law 209 = .ok (.iload_n 3, 1) := by decide +kernel
theorem dL_law_210 : decode cL_law 210 = .ok (.iconst 5, 1) := by decide +kernel
theorem dL_law_211 : decode cL_law 211 = .ok (.iadd, 1) := by decide +kernel
theorem dL_law_212 : decode cL_law 212 = .ok (.iaload, 1) := by decide +kernel
theorem dL_law_213 : decode cL_law 213 = .ok (.invokevirtual 26, 3) := by decide +kernel
theorem dL_law_216 : decode cL_law 216 = .ok (.aload_n 2, 1) := by decide +kernel
theorem dL_law_217 : decode cL_law 217 = .ok (.aload_n 0, 1) := by decide +kernel
theorem dL_law_218 : decode cL_law 218 = .ok (.iload_n 3, 1) := by decide +kernel
theorem dL_law_219 : decode cL_law 219 = .ok (.iconst 1, 1) := by decide +kernel
theorem dL_law_220 : decode cL_law 220 = .ok (.iadd, 1) := by decide +kernel
theorem dL_law_221 : decode cL_law 221 = .ok (.iaload, 1) := by decide +kernel
theorem dL_law_222 : decode cL_law 222 = .ok (.aload_n 0, 1) := by decide +kernel
theorem dL_law_223 : decode cL_law 223 = .ok (.iload_n 3, 1) := by decide +kernel
theorem dL_law_224 : decode cL_law 224 = .ok (.iconst 2, 1) := by decide +kernel
theorem dL_law_225 : decode cL_law 225 = .ok (.iadd, 1) := by decide +kernel
theorem dL_law_226 : decode cL_law 226 = .ok (.iaload, 1) := by decide +kernel
theorem dL_law_227 : decode cL_law 227 = .ok (.aload_n 0, 1) := by decide +kernel
theorem dL_law_228 : decode cL_law 228 = .ok (.iload_n 3, 1) := by decide +kernel
theorem dL_law_229 : decode cL_law 229 = .ok (.iconst 3, 1) := by decide +kernel
theorem dL_law_230 : decode cL_law 230 = .ok (.iadd, 1) := by decide +kernel
theorem dL_law_231 : decode cL_law 231 = .ok (.iaload, 1) := by decide +kernel
theorem dL_law_232 : decode cL_law 232 = .ok (.aload_n 0, 1) := by decide +kernel
theorem dL_law_233 : decode cL_law 233 = .ok (.iload_n 3, 1) := by decide +kernel
theorem dL_law_234 : decode cL_law 234 = .ok (.iconst 4, 1) := by decide +kernel
theorem dL_law_235 : decode cL_law 235 = .ok (.iadd, 1) := by decide +kernel
theorem dL_law_236 : decode cL_law 236 = .ok (.iaload, 1) := by decide +kernel
theorem dL_law_237 : decode cL_law 237 = .ok (.aload_n 0, 1) := by decide +kernel
theorem dL_law_238 : decode cL_law 238 = .ok (.iload_n 3, 1) := by decide +kernel
theorem dL_law_239 : decode cL_law 239 = .ok (.iconst 5, 1) := by decide +kernel
theorem dL_law_240 : decode cL_law 240 = .ok (.iadd, 1) := by decide +kernel
theorem dL_law_241 : decode cL_law 241 = .ok (.iaload, 1) := by decide +kernel
theorem dL_law_242 : decode cL_law 242 = .ok (.invokevirtual 30, 3) := by decide +kernel
theorem dL_law_245 : decode cL_law 245 = .ok (.if_icmp .eq 656, 3) := by decide +kernel
theorem dL_law_248 : decode cL_law 248 = .ok (.iconst 0, 1) := by decide +kernel
theorem dL_law_249 : decode cL_law 249 = .ok (.ireturn, 1) := by decide +kernel
theorem dL_law_250 : decode cL_law 250 = .ok (.aload_n 1, 1) := by decide +kernel
theorem dL_law_251 : decode cL_law 251 = .ok (.aload_n 0, 1) := by decide +kernel
theorem dL_law_252 : decode cL_law 252 = .ok (.iload_n 3, 1) := by decide +kernel
theorem dL_law_253 : decode cL_law 253 = .ok (.iconst 1, 1) := by decide +kernel
theorem dL_law_254 : decode cL_law 254 = .ok (.iadd, 1) := by decide +kernel
theorem dL_law_255 : decode cL_law 255 = .ok (.iaload, 1) := by decide +kernel
theorem dL_law_256 : decode cL_law 256 = .ok (.aload_n 0, 1) := by decide +kernel
theorem dL_law_257 : decode cL_law 257 = .ok (.iload_n 3, 1) := by decide +kernel
theorem dL_law_258 : decode cL_law 258 = .ok (.iconst 2, 1) := by decide +kernel
theorem dL_law_259 : decode cL_law 259 = .ok (.iadd, 1) := by decide +kernel
theorem dL_law_260 : decode cL_law 260 = .ok (.iaload, 1) := by decide +kernel
theorem dL_law_261 : decode cL_law 261 = .ok (.aload_n 0, 1) := by decide +kernel
theorem dL_law_262 : decode cL_law 262 = .ok (.iload_n 3, 1) := by decide +kernel
theorem dL_law_263 : decode cL_law 263 = .ok (.iconst 3, 1) := by decide +kernel
theorem dL_law_264 : decode cL_law 264 = .ok (.iadd, 1) := by decide +kernel
theorem dL_law_265 : decode cL_law 265 = .ok (.iaload, 1) := by decide +kernel
theorem dL_law_266 : decode cL_law 266 = .ok (.aload_n 0, 1) := by decide +kernel
theorem dL_law_267 : decode cL_law 267 = .ok (.iload_n 3, 1) := by decide +kernel
theorem dL_law_268 : decode cL_law 268 = .ok (.iconst 4, 1) := by decide +kernel
theorem dL_law_269 : decode cL_law 269 = .ok (.iadd, 1) := by decide +kernel
theorem dL_law_270 : decode cL_law 270 = .ok (.iaload, 1) := by decide +kernel
theorem dL_law_271 : decode cL_law 271 = .ok (.invokevirtual 31, 3) := by decide +kernel
theorem dL_law_274 : decode cL_law 274 = .ok (.aload_n 2, 1) := by decide +kernel
theorem dL_law_275 : decode cL_law 275 = .ok (.aload_n 0, 1) := by decide +kernel
theorem dL_law_276 : decode cL_law 276 = .ok (.iload_n 3, 1) := by decide +kernel
theorem dL_law_277 : decode cL_law 277 = .ok (.iconst 1, 1) := by decide +kernel
theorem dL_law_278 : decode cL_law 278 = .ok (.iadd, 1) := by decide +kernel
theorem dL_law_279 : decode cL_law 279 = .ok (.iaload, 1) := by decide +kernel
theorem dL_law_280 : decode cL_law 280 = .ok (.aload_n 0, 1) := by decide +kernel
theorem dL_law_281 : decode cL_law 281 = .ok (.iload_n 3, 1) := by decide +kernel
theorem dL_law_282 : decode cL_law 282 = .ok (.iconst 2, 1) := by decide +kernel
theorem dL_law_283 : decode cL_law 283 = .ok (.iadd, 1) := by decide +kernel
theorem dL_law_284 : decode cL_law 284 = .ok (.iaload, 1) := by decide +kernel
theorem dL_law_285 : decode cL_law 285 = .ok (.aload_n 0, 1) := by decide +kernel
theorem dL_law_286 : decode cL_law 286 = .ok (.iload_n 3, 1) := by decide +kernel
theorem dL_law_287 : decode cL_law 287 = .ok (.iconst 3, 1) := by decide +kernel
theorem dL_law_288 : decode cL_law 288 = .ok (.iadd, 1) := by decide +kernel
theorem dL_law_289 : decode cL_law 289 = .ok (.iaload, 1) := by decide +kernel
theorem dL_law_290 : decode cL_law 290 = .ok (.aload_n 0, 1) := by decide +kernel
theorem dL_law_291 : decode cL_law 291 = .ok (.iload_n 3, 1) := by decide +kernel
theorem dL_law_292 : decode cL_law 292 = .ok (.iconst 4, 1) := by decide +kernel
theorem dL_law_293 : decode cL_law 293 = .ok (.iadd, 1) := by decide +kernel
theorem dL_law_294 : decode cL_law 294 = .ok (.iaload, 1) := by decide +kernel
theorem dL_law_295 : decode cL_law 295 = .ok (.invokevirtual 35, 3) := by decide +kernel
theorem dL_law_298 : decode cL_law 298 = .ok (.if_icmp .eq 603, 3) := by decide +kernel
theorem dL_law_301 : decode cL_law 301 = .ok (.iconst 0, 1) := by decide +kernel
theorem dL_law_302 : decode cL_law 302 = .ok (.ireturn, 1) := by decide +kernel
theorem dL_law_303 : decode cL_law 303 = .ok (.aload_n 1, 1) := by decide +kernel
theorem dL_law_304 : decode cL_law 304 = .ok (.aload_n 0, 1) := by decide +kernel
theorem dL_law_305 : decode cL_law 305 = .ok (.iload_n 3, 1) := by decide +kernel
theorem dL_law_306 : decode cL_law 306 = .ok (.iconst 1, 1) := by decide +kernel
theorem dL_law_307 : decode cL_law 307 = .ok (.iadd, 1) := by decide +kernel
theorem dL_law_308 : decode cL_law 308 = .ok (.iaload, 1) := by decide +kernel
theorem dL_law_309 : decode cL_law 309 = .ok (.aload_n 0, 1) := by decide +kernel
theorem dL_law_310 : decode cL_law 310 = .ok (.iload_n 3, 1) := by decide +kernel
theorem dL_law_311 : decode cL_law 311 = .ok (.iconst 2, 1) := by decide +kernel
theorem dL_law_312 : decode cL_law 312 = .ok (.iadd, 1) := by decide +kernel
theorem dL_law_313 : decode cL_law 313 = .ok (.iaload, 1) := by decide +kernel
theorem dL_law_314 : decode cL_law 314 = .ok (.invokevirtual 36, 3) := by decide +kernel
theorem dL_law_317 : decode cL_law 317 = .ok (.aload_n 2, 1) := by decide +kernel
theorem dL_law_318 : decode cL_law 318 = .ok (.aload_n 0, 1) := by decide +kernel
theorem dL_law_319 : decode cL_law 319 = .ok (.iload_n 3, 1) := by decide +kernel
theorem dL_law_320 : decode cL_law 320 = .ok (.iconst 1, 1) := by decide +kernel
theorem dL_law_321 : decode cL_law 321 = .ok (.iadd, 1) := by decide +kernel
theorem dL_law_322 : decode cL_law 322 = .ok (.iaload, 1) := by decide +kernel
theorem dL_law_323 : decode cL_law 323 = .ok (.aload_n 0, 1) := by decide +kernel
theorem dL_law_324 : decode cL_law 324 = .ok (.iload_n 3, 1) := by decide +kernel
theorem dL_law_325 : decode cL_law 325 = .ok (.iconst 2, 1) := by decide +kernel
theorem dL_law_326 : decode cL_law 326 = .ok (.iadd, 1) := by decide +kernel
theorem dL_law_327 : decode cL_law 327 = .ok (.iaload, 1) := by decide +kernel
theorem dL_law_328 : decode cL_law 328 = .ok (.invokevirtual 40, 3) := by decide +kernel
theorem dL_law_331 : decode cL_law 331 = .ok (.if_icmp .eq 570, 3) := by decide +kernel
theorem dL_law_334 : decode cL_law 334 = .ok (.iconst 0, 1) := by decide +kernel
theorem dL_law_335 : decode cL_law 335 = .ok (.ireturn, 1) := by decide +kernel
theorem dL_law_336 : decode cL_law 336 = .ok (.aload_n 1, 1) := by decide +kernel
theorem dL_law_337 : decode cL_law 337 = .ok (.aload_n 0, 1) := by decide +kernel
theorem dL_law_338 : decode cL_law 338 = .ok (.iload_n 3, 1) := by decide +kernel
theorem dL_law_339 : decode cL_law 339 = .ok (.iconst 1, 1) := by decide +kernel
theorem dL_law_340 : decode cL_law 340 = .ok (.iadd, 1) := by decide +kernel
theorem dL_law_341 : decode cL_law 341 = .ok (.iaload, 1) := by decide +kernel
theorem dL_law_342 : decode cL_law 342 = .ok (.invokevirtual 41, 3) := by decide +kernel
theorem dL_law_345 : decode cL_law 345 = .ok (.aload_n 2, 1) := by decide +kernel
theorem dL_law_346 : decode cL_law 346 = .ok (.aload_n 0, 1) := by decide +kernel
theorem dL_law_347 : decode cL_law 347 = .ok (.iload_n 3, 1) := by decide +kernel
theorem dL_law_348 : decode cL_law 348 = .ok (.iconst 1, 1) := by decide +kernel
theorem dL_law_349 : decode cL_law 349 = .ok (.iadd, 1) := by decide +kernel
theorem dL_law_350 : decode cL_law 350 = .ok (.iaload, 1) := by decide +kernel
theorem dL_law_351 : decode cL_law 351 = .ok (.invokevirtual 45, 3) := by decide +kernel
theorem dL_law_354 : decode cL_law 354 = .ok (.if_icmp .eq 547, 3) := by decide +kernel
theorem dL_law_357 : decode cL_law 357 = .ok (.iconst 0, 1) := by decide +kernel
theorem dL_law_358 : decode cL_law 358 = .ok (.ireturn, 1) := by decide +kernel
theorem dL_law_359 : decode cL_law 359 = .ok (.aload_n 1, 1) := by decide +kernel
theorem dL_law_360 : decode cL_law 360 = .ok (.aload_n 0, 1) := by decide +kernel
theorem dL_law_361 : decode cL_law 361 = .ok (.iload_n 3, 1) := by decide +kernel
theorem dL_law_362 : decode cL_law 362 = .ok (.iconst 1, 1) := by decide +kernel
theorem dL_law_363 : decode cL_law 363 = .ok (.iadd, 1) := by decide +kernel
theorem dL_law_364 : decode cL_law 364 = .ok (.iaload, 1) := by decide +kernel
theorem dL_law_365 : decode cL_law 365 = .ok (.aload_n 0, 1) := by decide +kernel
theorem dL_law_366 : decode cL_law 366 = .ok (.iload_n 3, 1) := by decide +kernel
theorem dL_law_367 : decode cL_law 367 = .ok (.iconst 2, 1) := by decide +kernel
theorem dL_law_368 : decode cL_law 368 = .ok (.iadd, 1) := by decide +kernel
theorem dL_law_369 : decode cL_law 369 = .ok (.iaload, 1) := by decide +kernel
theorem dL_law_370 : decode cL_law 370 = .ok (.aload_n 0, 1) := by decide +kernel
theorem dL_law_371 : decode cL_law 371 = .ok (.iload_n 3, 1) := by decide +kernel
theorem dL_law_372 : decode cL_law 372 = .ok (.iconst 3, 1) := by decide +kernel
theorem dL_law_373 : decode cL_law 373 = .ok (.iadd, 1) := by decide +kernel
theorem dL_law_374 : decode cL_law 374 = .ok (.iaload, 1) := by decide +kernel
theorem dL_law_375 : decode cL_law 375 = .ok (.aload_n 0, 1) := by decide +kernel
theorem dL_law_376 : decode cL_law 376 = .ok (.iload_n 3, 1) := by decide +kernel
theorem dL_law_377 : decode cL_law 377 = .ok (.iconst 4, 1) := by decide +kernel
theorem dL_law_378 : decode cL_law 378 = .ok (.iadd, 1) := by decide +kernel
theorem dL_law_379 : decode cL_law 379 = .ok (.iaload, 1) := by decide +kernel
theorem dL_law_380 : decode cL_law 380 = .ok (.invokevirtual 46, 3) := by decide +kernel
theorem dL_law_383 : decode cL_law 383 = .ok (.aload_n 2, 1) := by decide +kernel
theorem dL_law_384 : decode cL_law 384 = .ok (.aload_n 0, 1) := by decide +kernel
theorem dL_law_385 : decode cL_law 385 = .ok (.iload_n 3, 1) := by decide +kernel
theorem dL_law_386 : decode cL_law 386 = .ok (.iconst 1, 1) := by decide +kernel
theorem dL_law_387 : decode cL_law 387 = .ok (.iadd, 1) := by decide +kernel
theorem dL_law_388 : decode cL_law 388 = .ok (.iaload, 1) := by decide +kernel
theorem dL_law_389 : decode cL_law 389 = .ok (.aload_n 0, 1) := by decide +kernel
theorem dL_law_390 : decode cL_law 390 = .ok (.iload_n 3, 1) := by decide +kernel
theorem dL_law_391 : decode cL_law 391 = .ok (.iconst 2, 1) := by decide +kernel
theorem dL_law_392 : decode cL_law 392 = .ok (.iadd, 1) := by decide +kernel
theorem dL_law_393 : decode cL_law 393 = .ok (.iaload, 1) := by decide +kernel
theorem dL_law_394 : decode cL_law 394 = .ok (.aload_n 0, 1) := by decide +kernel
theorem dL_law_395 : decode cL_law 395 = .ok (.iload_n 3, 1) := by decide +kernel
theorem dL_law_396 : decode cL_law 396 = .ok (.iconst 3, 1) := by decide +kernel
theorem dL_law_397 : decode cL_law 397 = .ok (.iadd, 1) := by decide +kernel
theorem dL_law_398 : decode cL_law 398 = .ok (.iaload, 1) := by decide +kernel
theorem dL_law_399 : decode cL_law 399 = .ok (.aload_n 0, 1) := by decide +kernel
theorem dL_law_400 : decode cL_law 400 = .ok (.iload_n 3, 1) := by decide +kernel
theorem dL_law_401 : decode cL_law 401 = .ok (.iconst 4, 1) := by decide +kernel
theorem dL_law_402 : decode cL_law 402 = .ok (.iadd, 1) := by decide +kernel
theorem dL_law_403 : decode cL_law 403 = .ok (.iaload, 1) := by decide +kernel
theorem dL_law_404 : decode cL_law 404 = .ok (.invokevirtual 50, 3) := by decide +kernel
theorem dL_law_407 : decode cL_law 407 = .ok (.if_icmp .eq 494, 3) := by decide +kernel
theorem dL_law_410 : decode cL_law 410 = .ok (.iconst 0, 1) := by decide +kernel
theorem dL_law_411 : decode cL_law 411 = .ok (.ireturn, 1) := by decide +kernel
theorem dL_law_412 : decode cL_law 412 = .ok (.aload_n 1, 1) := by decide +kernel
theorem dL_law_413 : decode cL_law 413 = .ok (.aload_n 0, 1) := by decide +kernel
theorem dL_law_414 : decode cL_law 414 = .ok (.iload_n 3, 1) := by decide +kernel
theorem dL_law_415 : decode cL_law 415 = .ok (.iconst 1, 1) := by decide +kernel
theorem dL_law_416 : decode cL_law 416 = .ok (.iadd, 1) := by decide +kernel
theorem dL_law_417 : decode cL_law 417 = .ok (.iaload, 1) := by decide +kernel
theorem dL_law_418 : decode cL_law 418 = .ok (.aload_n 0, 1) := by decide +kernel
theorem dL_law_419 : decode cL_law 419 = .ok (.iload_n 3, 1) := by decide +kernel
theorem dL_law_420 : decode cL_law 420 = .ok (.iconst 2, 1) := by decide +kernel
theorem dL_law_421 : decode cL_law 421 = .ok (.iadd, 1) := by decide +kernel
theorem dL_law_422 : decode cL_law 422 = .ok (.iaload, 1) := by decide +kernel
theorem dL_law_423 : decode cL_law 423 = .ok (.aload_n 0, 1) := by decide +kernel
theorem dL_law_424 : decode cL_law 424 = .ok (.iload_n 3, 1) := by decide +kernel
theorem dL_law_425 : decode cL_law 425 = .ok (.iconst 3, 1) := by decide +kernel
theorem dL_law_426 : decode cL_law 426 = .ok (.iadd, 1) := by decide +kernel
theorem dL_law_427 : decode cL_law 427 = .ok (.iaload, 1) := by decide +kernel
theorem dL_law_428 : decode cL_law 428 = .ok (.invokevirtual 51, 3) := by decide +kernel
theorem dL_law_431 : decode cL_law 431 = .ok (.aload_n 2, 1) := by decide +kernel
theorem dL_law_432 : decode cL_law 432 = .ok (.aload_n 0, 1) := by decide +kernel
theorem dL_law_433 : decode cL_law 433 = .ok (.iload_n 3, 1) := by decide +kernel
theorem dL_law_434 : decode cL_law 434 = .ok (.iconst 1, 1) := by decide +kernel
theorem dL_law_435 : decode cL_law 435 = .ok (.iadd, 1) := by decide +kernel
theorem dL_law_436 : decode cL_law 436 = .ok (.iaload, 1) := by decide +kernel
theorem dL_law_437 : decode cL_law 437 = .ok (.aload_n 0, 1) := by decide +kernel
theorem dL_law_438 : decode cL_law 438 = .ok (.iload_n 3, 1) := by decide +kernel
theorem dL_law_439 : decode cL_law 439 = .ok (.iconst 2, 1) := by decide +kernel
theorem dL_law_440 : decode cL_law 440 = .ok (.iadd, 1) := by decide +kernel
theorem dL_law_441 : decode cL_law 441 = .ok (.iaload, 1) := by decide +kernel
theorem dL_law_442 : decode cL_law 442 = .ok (.aload_n 0, 1) := by decide +kernel
theorem dL_law_443 : decode cL_law 443 = .ok (.iload_n 3, 1) := by decide +kernel
theorem dL_law_444 : decode cL_law 444 = .ok (.iconst 3, 1) := by decide +kernel
theorem dL_law_445 : decode cL_law 445 = .ok (.iadd, 1) := by decide +kernel
theorem dL_law_446 : decode cL_law 446 = .ok (.iaload, 1) := by decide +kernel
theorem dL_law_447 : decode cL_law 447 = .ok (.invokevirtual 54, 3) := by decide +kernel
theorem dL_law_450 : decode cL_law 450 = .ok (.if_icmp .eq 451, 3) := by decide +kernel
theorem dL_law_453 : decode cL_law 453 = .ok (.iconst 0, 1) := by decide +kernel
theorem dL_law_454 : decode cL_law 454 = .ok (.ireturn, 1) := by decide +kernel
theorem dL_law_455 : decode cL_law 455 = .ok (.aload_n 1, 1) := by decide +kernel
theorem dL_law_456 : decode cL_law 456 = .ok (.aload_n 0, 1) := by decide +kernel
theorem dL_law_457 : decode cL_law 457 = .ok (.iload_n 3, 1) := by decide +kernel
theorem dL_law_458 : decode cL_law 458 = .ok (.iconst 1, 1) := by decide +kernel
theorem dL_law_459 : decode cL_law 459 = .ok (.iadd, 1) := by decide +kernel
theorem dL_law_460 : decode cL_law 460 = .ok (.iaload, 1) := by decide +kernel
theorem dL_law_461 : decode cL_law 461 = .ok (.aload_n 0, 1) := by decide +kernel
theorem dL_law_462 : decode cL_law 462 = .ok (.iload_n 3, 1) := by decide +kernel
theorem dL_law_463 : decode cL_law 463 = .ok (.iconst 2, 1) := by decide +kernel
theorem dL_law_464 : decode cL_law 464 = .ok (.iadd, 1) := by decide +kernel
theorem dL_law_465 : decode cL_law 465 = .ok (.iaload, 1) := by decide +kernel
theorem dL_law_466 : decode cL_law 466 = .ok (.aload_n 0, 1) := by decide +kernel
theorem dL_law_467 : decode cL_law 467 = .ok (.iload_n 3, 1) := by decide +kernel
theorem dL_law_468 : decode cL_law 468 = .ok (.iconst 3, 1) := by decide +kernel
theorem dL_law_469 : decode cL_law 469 = .ok (.iadd, 1) := by decide +kernel
theorem dL_law_470 : decode cL_law 470 = .ok (.iaload, 1) := by decide +kernel
theorem dL_law_471 : decode cL_law 471 = .ok (.aload_n 0, 1) := by decide +kernel
theorem dL_law_472 : decode cL_law 472 = .ok (.iload_n 3, 1) := by decide +kernel
theorem dL_law_473 : decode cL_law 473 = .ok (.iconst 4, 1) := by decide +kernel
theorem dL_law_474 : decode cL_law 474 = .ok (.iadd, 1) := by decide +kernel
theorem dL_law_475 : decode cL_law 475 = .ok (.iaload, 1) := by decide +kernel
theorem dL_law_476 : decode cL_law 476 = .ok (.aload_n 0, 1) := by decide +kernel
theorem dL_law_477 : decode cL_law 477 = .ok (.iload_n 3, 1) := by decide +kernel
theorem dL_law_478 : decode cL_law 478 = .ok (.iconst 5, 1) := by decide +kernel
theorem dL_law_479 : decode cL_law 479 = .ok (.iadd, 1) := by decide +kernel
theorem dL_law_480 : decode cL_law 480 = .ok (.iaload, 1) := by decide +kernel
theorem dL_law_481 : decode cL_law 481 = .ok (.invokevirtual 55, 3) := by decide +kernel
theorem dL_law_484 : decode cL_law 484 = .ok (.aload_n 2, 1) := by decide +kernel
theorem dL_law_485 : decode cL_law 485 = .ok (.aload_n 0, 1) := by decide +kernel
theorem dL_law_486 : decode cL_law 486 = .ok (.iload_n 3, 1) := by decide +kernel
theorem dL_law_487 : decode cL_law 487 = .ok (.iconst 1, 1) := by decide +kernel
theorem dL_law_488 : decode cL_law 488 = .ok (.iadd, 1) := by decide +kernel
theorem dL_law_489 : decode cL_law 489 = .ok (.iaload, 1) := by decide +kernel
theorem dL_law_490 : decode cL_law 490 = .ok (.aload_n 0, 1) := by decide +kernel
theorem dL_law_491 : decode cL_law 491 = .ok (.iload_n 3, 1) := by decide +kernel
theorem dL_law_492 : decode cL_law 492 = .ok (.iconst 2, 1) := by decide +kernel
theorem dL_law_493 : decode cL_law 493 = .ok (.iadd, 1) := by decide +kernel
theorem dL_law_494 : decode cL_law 494 = .ok (.iaload, 1) := by decide +kernel
theorem dL_law_495 : decode cL_law 495 = .ok (.aload_n 0, 1) := by decide +kernel
theorem dL_law_496 : decode cL_law 496 = .ok (.iload_n 3, 1) := by decide +kernel
theorem dL_law_497 : decode cL_law 497 = .ok (.iconst 3, 1) := by decide +kernel
theorem dL_law_498 : decode cL_law 498 = .ok (.iadd, 1) := by decide +kernel
theorem dL_law_499 : decode cL_law 499 = .ok (.iaload, 1) := by decide +kernel
theorem dL_law_500 : decode cL_law 500 = .ok (.aload_n 0, 1) := by decide +kernel
theorem dL_law_501 : decode cL_law 501 = .ok (.iload_n 3, 1) := by decide +kernel
theorem dL_law_502 : decode cL_law 502 = .ok (.iconst 4, 1) := by decide +kernel
theorem dL_law_503 : decode cL_law 503 = .ok (.iadd, 1) := by decide +kernel
theorem dL_law_504 : decode cL_law 504 = .ok (.iaload, 1) := by decide +kernel
theorem dL_law_505 : decode cL_law 505 = .ok (.aload_n 0, 1) := by decide +kernel
theorem dL_law_506 : decode cL_law 506 = .ok (.iload_n 3, 1) := by decide +kernel
theorem dL_law_507 : decode cL_law 507 = .ok (.iconst 5, 1) := by decide +kernel
theorem dL_law_508 : decode cL_law 508 = .ok (.iadd, 1) := by decide +kernel
theorem dL_law_509 : decode cL_law 509 = .ok (.iaload, 1) := by decide +kernel
theorem dL_law_510 : decode cL_law 510 = .ok (.invokevirtual 58, 3) := by decide +kernel
theorem dL_law_513 : decode cL_law 513 = .ok (.if_icmp .eq 388, 3) := by decide +kernel
theorem dL_law_516 : decode cL_law 516 = .ok (.iconst 0, 1) := by decide +kernel
theorem dL_law_517 : decode cL_law 517 = .ok (.ireturn, 1) := by decide +kernel
theorem dL_law_518 : decode cL_law 518 = .ok (.aload_n 1, 1) := by decide +kernel
theorem dL_law_519 : decode cL_law 519 = .ok (.aload_n 0, 1) := by decide +kernel
theorem dL_law_520 : decode cL_law 520 = .ok (.iload_n 3, 1) := by decide +kernel
theorem dL_law_521 : decode cL_law 521 = .ok (.iconst 1, 1) := by decide +kernel
theorem dL_law_522 : decode cL_law 522 = .ok (.iadd, 1) := by decide +kernel
theorem dL_law_523 : decode cL_law 523 = .ok (.iaload, 1) := by decide +kernel
theorem dL_law_524 : decode cL_law 524 = .ok (.aload_n 0, 1) := by decide +kernel
theorem dL_law_525 : decode cL_law 525 = .ok (.iload_n 3, 1) := by decide +kernel
theorem dL_law_526 : decode cL_law 526 = .ok (.iconst 2, 1) := by decide +kernel
theorem dL_law_527 : decode cL_law 527 = .ok (.iadd, 1) := by decide +kernel
theorem dL_law_528 : decode cL_law 528 = .ok (.iaload, 1) := by decide +kernel
theorem dL_law_529 : decode cL_law 529 = .ok (.aload_n 0, 1) := by decide +kernel
theorem dL_law_530 : decode cL_law 530 = .ok (.iload_n 3, 1) := by decide +kernel
theorem dL_law_531 : decode cL_law 531 = .ok (.iconst 3, 1) := by decide +kernel
theorem dL_law_532 : decode cL_law 532 = .ok (.iadd, 1) := by decide +kernel
theorem dL_law_533 : decode cL_law 533 = .ok (.iaload, 1) := by decide +kernel
theorem dL_law_534 : decode cL_law 534 = .ok (.invokevirtual 59, 3) := by decide +kernel
theorem dL_law_537 : decode cL_law 537 = .ok (.aload_n 2, 1) := by decide +kernel
theorem dL_law_538 : decode cL_law 538 = .ok (.aload_n 0, 1) := by decide +kernel
theorem dL_law_539 : decode cL_law 539 = .ok (.iload_n 3, 1) := by decide +kernel
theorem dL_law_540 : decode cL_law 540 = .ok (.iconst 1, 1) := by decide +kernel
theorem dL_law_541 : decode cL_law 541 = .ok (.iadd, 1) := by decide +kernel
theorem dL_law_542 : decode cL_law 542 = .ok (.iaload, 1) := by decide +kernel
theorem dL_law_543 : decode cL_law 543 = .ok (.aload_n 0, 1) := by decide +kernel
theorem dL_law_544 : decode cL_law 544 = .ok (.iload_n 3, 1) := by decide +kernel
theorem dL_law_545 : decode cL_law 545 = .ok (.iconst 2, 1) := by decide +kernel
theorem dL_law_546 : decode cL_law 546 = .ok (.iadd, 1) := by decide +kernel
theorem dL_law_547 : decode cL_law 547 = .ok (.iaload, 1) := by decide +kernel
theorem dL_law_548 : decode cL_law 548 = .ok (.aload_n 0, 1) := by decide +kernel
theorem dL_law_549 : decode cL_law 549 = .ok (.iload_n 3, 1) := by decide +kernel
theorem dL_law_550 : decode cL_law 550 = .ok (.iconst 3, 1) := by decide +kernel
theorem dL_law_551 : decode cL_law 551 = .ok (.iadd, 1) := by decide +kernel
theorem dL_law_552 : decode cL_law 552 = .ok (.iaload, 1) := by decide +kernel
theorem dL_law_553 : decode cL_law 553 = .ok (.invokevirtual 63, 3) := by decide +kernel
theorem dL_law_556 : decode cL_law 556 = .ok (.if_icmp .eq 345, 3) := by decide +kernel
theorem dL_law_559 : decode cL_law 559 = .ok (.iconst 0, 1) := by decide +kernel
theorem dL_law_560 : decode cL_law 560 = .ok (.ireturn, 1) := by decide +kernel
theorem dL_law_561 : decode cL_law 561 = .ok (.aload_n 1, 1) := by decide +kernel
theorem dL_law_562 : decode cL_law 562 = .ok (.aload_n 0, 1) := by decide +kernel
theorem dL_law_563 : decode cL_law 563 = .ok (.iload_n 3, 1) := by decide +kernel
theorem dL_law_564 : decode cL_law 564 = .ok (.iconst 1, 1) := by decide +kernel
theorem dL_law_565 : decode cL_law 565 = .ok (.iadd, 1) := by decide +kernel
theorem dL_law_566 : decode cL_law 566 = .ok (.iaload, 1) := by decide +kernel
theorem dL_law_567 : decode cL_law 567 = .ok (.aload_n 0, 1) := by decide +kernel
theorem dL_law_568 : decode cL_law 568 = .ok (.iload_n 3, 1) := by decide +kernel
theorem dL_law_569 : decode cL_law 569 = .ok (.iconst 2, 1) := by decide +kernel
theorem dL_law_570 : decode cL_law 570 = .ok (.iadd, 1) := by decide +kernel
theorem dL_law_571 : decode cL_law 571 = .ok (.iaload, 1) := by decide +kernel
theorem dL_law_572 : decode cL_law 572 = .ok (.invokevirtual 64, 3) := by decide +kernel
theorem dL_law_575 : decode cL_law 575 = .ok (.aload_n 2, 1) := by decide +kernel
theorem dL_law_576 : decode cL_law 576 = .ok (.aload_n 0, 1) := by decide +kernel
theorem dL_law_577 : decode cL_law 577 = .ok (.iload_n 3, 1) := by decide +kernel
theorem dL_law_578 : decode cL_law 578 = .ok (.iconst 1, 1) := by decide +kernel
theorem dL_law_579 : decode cL_law 579 = .ok (.iadd, 1) := by decide +kernel
theorem dL_law_580 : decode cL_law 580 = .ok (.iaload, 1) := by decide +kernel
theorem dL_law_581 : decode cL_law 581 = .ok (.aload_n 0, 1) := by decide +kernel
theorem dL_law_582 : decode cL_law 582 = .ok (.iload_n 3, 1) := by decide +kernel
theorem dL_law_583 : decode cL_law 583 = .ok (.iconst 2, 1) := by decide +kernel
theorem dL_law_584 : decode cL_law 584 = .ok (.iadd, 1) := by decide +kernel
theorem dL_law_585 : decode cL_law 585 = .ok (.iaload, 1) := by decide +kernel
theorem dL_law_586 : decode cL_law 586 = .ok (.invokevirtual 67, 3) := by decide +kernel
theorem dL_law_589 : decode cL_law 589 = .ok (.if_icmp .eq 312, 3) := by decide +kernel
theorem dL_law_592 : decode cL_law 592 = .ok (.iconst 0, 1) := by decide +kernel
theorem dL_law_593 : decode cL_law 593 = .ok (.ireturn, 1) := by decide +kernel
theorem dL_law_594 : decode cL_law 594 = .ok (.aload_n 1, 1) := by decide +kernel
theorem dL_law_595 : decode cL_law 595 = .ok (.aload_n 0, 1) := by decide +kernel
theorem dL_law_596 : decode cL_law 596 = .ok (.iload_n 3, 1) := by decide +kernel
theorem dL_law_597 : decode cL_law 597 = .ok (.iconst 1, 1) := by decide +kernel
theorem dL_law_598 : decode cL_law 598 = .ok (.iadd, 1) := by decide +kernel
theorem dL_law_599 : decode cL_law 599 = .ok (.iaload, 1) := by decide +kernel
theorem dL_law_600 : decode cL_law 600 = .ok (.aload_n 0, 1) := by decide +kernel
theorem dL_law_601 : decode cL_law 601 = .ok (.iload_n 3, 1) := by decide +kernel
theorem dL_law_602 : decode cL_law 602 = .ok (.iconst 2, 1) := by decide +kernel
theorem dL_law_603 : decode cL_law 603 = .ok (.iadd, 1) := by decide +kernel
theorem dL_law_604 : decode cL_law 604 = .ok (.iaload, 1) := by decide +kernel
theorem dL_law_605 : decode cL_law 605 = .ok (.invokevirtual 68, 3) := by decide +kernel
theorem dL_law_608 : decode cL_law 608 = .ok (.aload_n 2, 1) := by decide +kernel
theorem dL_law_609 : decode cL_law 609 = .ok (.aload_n 0, 1) := by decide +kernel
theorem dL_law_610 : decode cL_law 610 = .ok (.iload_n 3, 1) := by decide +kernel
theorem dL_law_611 : decode cL_law 611 = .ok (.iconst 1, 1) := by decide +kernel
theorem dL_law_612 : decode cL_law 612 = .ok (.iadd, 1) := by decide +kernel
theorem dL_law_613 : decode cL_law 613 = .ok (.iaload, 1) := by decide +kernel
theorem dL_law_614 : decode cL_law 614 = .ok (.aload_n 0, 1) := by decide +kernel
theorem dL_law_615 : decode cL_law 615 = .ok (.iload_n 3, 1) := by decide +kernel
theorem dL_law_616 : decode cL_law 616 = .ok (.iconst 2, 1) := by decide +kernel
theorem dL_law_617 : decode cL_law 617 = .ok (.iadd, 1) := by decide +kernel
theorem dL_law_618 : decode cL_law 618 = .ok (.iaload, 1) := by decide +kernel
theorem dL_law_619 : decode cL_law 619 = .ok (.invokevirtual 71, 3) := by decide +kernel
theorem dL_law_622 : decode cL_law 622 = .ok (.if_icmp .eq 279, 3) := by decide +kernel
theorem dL_law_625 : decode cL_law 625 = .ok (.iconst 0, 1) := by decide +kernel
theorem dL_law_626 : decode cL_law 626 = .ok (.ireturn, 1) := by decide +kernel
theorem dL_law_627 : decode cL_law 627 = .ok (.aload_n 1, 1) := by decide +kernel
theorem dL_law_628 : decode cL_law 628 = .ok (.aload_n 0, 1) := by decide +kernel
theorem dL_law_629 : decode cL_law 629 = .ok (.iload_n 3, 1) := by decide +kernel
theorem dL_law_630 : decode cL_law 630 = .ok (.iconst 1, 1) := by decide +kernel
theorem dL_law_631 : decode cL_law 631 = .ok (.iadd, 1) := by decide +kernel
theorem dL_law_632 : decode cL_law 632 = .ok (.iaload, 1) := by decide +kernel
theorem dL_law_633 : decode cL_law 633 = .ok (.aload_n 0, 1) := by decide +kernel
theorem dL_law_634 : decode cL_law 634 = .ok (.iload_n 3, 1) := by decide +kernel
theorem dL_law_635 : decode cL_law 635 = .ok (.iconst 2, 1) := by decide +kernel
theorem dL_law_636 : decode cL_law 636 = .ok (.iadd, 1) := by decide +kernel
theorem dL_law_637 : decode cL_law 637 = .ok (.iaload, 1) := by decide +kernel
theorem dL_law_638 : decode cL_law 638 = .ok (.invokevirtual 72, 3) := by decide +kernel
theorem dL_law_641 : decode cL_law 641 = .ok (.aload_n 2, 1) := by decide +kernel
theorem dL_law_642 : decode cL_law 642 = .ok (.aload_n 0, 1) := by decide +kernel
theorem dL_law_643 : decode cL_law 643 = .ok (.iload_n 3, 1) := by decide +kernel
theorem dL_law_644 : decode cL_law 644 = .ok (.iconst 1, 1) := by decide +kernel
theorem dL_law_645 : decode cL_law 645 = .ok (.iadd, 1) := by decide +kernel
theorem dL_law_646 : decode cL_law 646 = .ok (.iaload, 1) := by decide +kernel
theorem dL_law_647 : decode cL_law 647 = .ok (.aload_n 0, 1) := by decide +kernel
theorem dL_law_648 : decode cL_law 648 = .ok (.iload_n 3, 1) := by decide +kernel
theorem dL_law_649 : decode cL_law 649 = .ok (.iconst 2, 1) := by decide +kernel
theorem dL_law_650 : decode cL_law 650 = .ok (.iadd, 1) := by decide +kernel
theorem dL_law_651 : decode cL_law 651 = .ok (.iaload, 1) := by decide +kernel
theorem dL_law_652 : decode cL_law 652 = .ok (.invokevirtual 75, 3) := by decide +kernel
theorem dL_law_655 : decode cL_law 655 = .ok (.if_icmp .eq 246, 3) := by decide +kernel
theorem dL_law_658 : decode cL_law 658 = .ok (.iconst 0, 1) := by decide +kernel
theorem dL_law_659 : decode cL_law 659 = .ok (.ireturn, 1) := by decide +kernel
theorem dL_law_660 : decode cL_law 660 = .ok (.aload_n 1, 1) := by decide +kernel
theorem dL_law_661 : decode cL_law 661 = .ok (.aload_n 0, 1) := by decide +kernel
theorem dL_law_662 : decode cL_law 662 = .ok (.iload_n 3, 1) := by decide +kernel
theorem dL_law_663 : decode cL_law 663 = .ok (.iconst 1, 1) := by decide +kernel
theorem dL_law_664 : decode cL_law 664 = .ok (.iadd, 1) := by decide +kernel
theorem dL_law_665 : decode cL_law 665 = .ok (.iaload, 1) := by decide +kernel
theorem dL_law_666 : decode cL_law 666 = .ok (.aload_n 0, 1) := by decide +kernel
theorem dL_law_667 : decode cL_law 667 = .ok (.iload_n 3, 1) := by decide +kernel
theorem dL_law_668 : decode cL_law 668 = .ok (.iconst 2, 1) := by decide +kernel
theorem dL_law_669 : decode cL_law 669 = .ok (.iadd, 1) := by decide +kernel
theorem dL_law_670 : decode cL_law 670 = .ok (.iaload, 1) := by decide +kernel
theorem dL_law_671 : decode cL_law 671 = .ok (.aload_n 0, 1) := by decide +kernel
theorem dL_law_672 : decode cL_law 672 = .ok (.iload_n 3, 1) := by decide +kernel
theorem dL_law_673 : decode cL_law 673 = .ok (.iconst 3, 1) := by decide +kernel
theorem dL_law_674 : decode cL_law 674 = .ok (.iadd, 1) := by decide +kernel
theorem dL_law_675 : decode cL_law 675 = .ok (.iaload, 1) := by decide +kernel
theorem dL_law_676 : decode cL_law 676 = .ok (.invokevirtual 76, 3) := by decide +kernel
theorem dL_law_679 : decode cL_law 679 = .ok (.aload_n 2, 1) := by decide +kernel
theorem dL_law_680 : decode cL_law 680 = .ok (.aload_n 0, 1) := by decide +kernel
theorem dL_law_681 : decode cL_law 681 = .ok (.iload_n 3, 1) := by decide +kernel
theorem dL_law_682 : decode cL_law 682 = .ok (.iconst 1, 1) := by decide +kernel
theorem dL_law_683 : decode cL_law 683 = .ok (.iadd, 1) := by decide +kernel
theorem dL_law_684 : decode cL_law 684 = .ok (.iaload, 1) := by decide +kernel
theorem dL_law_685 : decode cL_law 685 = .ok (.aload_n 0, 1) := by decide +kernel
theorem dL_law_686 : decode cL_law 686 = .ok (.iload_n 3, 1) := by decide +kernel
theorem dL_law_687 : decode cL_law 687 = .ok (.iconst 2, 1) := by decide +kernel
theorem dL_law_688 : decode cL_law 688 = .ok (.iadd, 1) := by decide +kernel
theorem dL_law_689 : decode cL_law 689 = .ok (.iaload, 1) := by decide +kernel
theorem dL_law_690 : decode cL_law 690 = .ok (.aload_n 0, 1) := by decide +kernel
theorem dL_law_691 : decode cL_law 691 = .ok (.iload_n 3, 1) := by decide +kernel
theorem dL_law_692 : decode cL_law 692 = .ok (.iconst 3, 1) := by decide +kernel
theorem dL_law_693 : decode cL_law 693 = .ok (.iadd, 1) := by decide +kernel
theorem dL_law_694 : decode cL_law 694 = .ok (.iaload, 1) := by decide +kernel
theorem dL_law_695 : decode cL_law 695 = .ok (.invokevirtual 79, 3) := by decide +kernel
theorem dL_law_698 : decode cL_law 698 = .ok (.if_icmp .eq 203, 3) := by decide +kernel
theorem dL_law_701 : decode cL_law 701 = .ok (.iconst 0, 1) := by decide +kernel
theorem dL_law_702 : decode cL_law 702 = .ok (.ireturn, 1) := by decide +kernel
theorem dL_law_703 : decode cL_law 703 = .ok (.aload_n 1, 1) := by decide +kernel
theorem dL_law_704 : decode cL_law 704 = .ok (.aload_n 0, 1) := by decide +kernel
theorem dL_law_705 : decode cL_law 705 = .ok (.iload_n 3, 1) := by decide +kernel
theorem dL_law_706 : decode cL_law 706 = .ok (.iconst 1, 1) := by decide +kernel
theorem dL_law_707 : decode cL_law 707 = .ok (.iadd, 1) := by decide +kernel
theorem dL_law_708 : decode cL_law 708 = .ok (.iaload, 1) := by decide +kernel
theorem dL_law_709 : decode cL_law 709 = .ok (.aload_n 0, 1) := by decide +kernel
theorem dL_law_710 : decode cL_law 710 = .ok (.iload_n 3, 1) := by decide +kernel
theorem dL_law_711 : decode cL_law 711 = .ok (.iconst 2, 1) := by decide +kernel
theorem dL_law_712 : decode cL_law 712 = .ok (.iadd, 1) := by decide +kernel
theorem dL_law_713 : decode cL_law 713 = .ok (.iaload, 1) := by decide +kernel
theorem dL_law_714 : decode cL_law 714 = .ok (.invokevirtual 80, 3) := by decide +kernel
theorem dL_law_717 : decode cL_law 717 = .ok (.aload_n 2, 1) := by decide +kernel
theorem dL_law_718 : decode cL_law 718 = .ok (.aload_n 0, 1) := by decide +kernel
theorem dL_law_719 : decode cL_law 719 = .ok (.iload_n 3, 1) := by decide +kernel
theorem dL_law_720 : decode cL_law 720 = .ok (.iconst 1, 1) := by decide +kernel
theorem dL_law_721 : decode cL_law 721 = .ok (.iadd, 1) := by decide +kernel
theorem dL_law_722 : decode cL_law 722 = .ok (.iaload, 1) := by decide +kernel
theorem dL_law_723 : decode cL_law 723 = .ok (.aload_n 0, 1) := by decide +kernel
theorem dL_law_724 : decode cL_law 724 = .ok (.iload_n 3, 1) := by decide +kernel
theorem dL_law_725 : decode cL_law 725 = .ok (.iconst 2, 1) := by decide +kernel
theorem dL_law_726 : decode cL_law 726 = .ok (.iadd, 1) := by decide +kernel
theorem dL_law_727 : decode cL_law 727 = .ok (.iaload, 1) := by decide +kernel
theorem dL_law_728 : decode cL_law 728 = .ok (.invokevirtual 84, 3) := by decide +kernel
theorem dL_law_731 : decode cL_law 731 = .ok (.if_icmp .eq 170, 3) := by decide +kernel
theorem dL_law_734 : decode cL_law 734 = .ok (.iconst 0, 1) := by decide +kernel
theorem dL_law_735 : decode cL_law 735 = .ok (.ireturn, 1) := by decide +kernel
theorem dL_law_736 : decode cL_law 736 = .ok (.aload_n 1, 1) := by decide +kernel
theorem dL_law_737 : decode cL_law 737 = .ok (.aload_n 0, 1) := by decide +kernel
theorem dL_law_738 : decode cL_law 738 = .ok (.iload_n 3, 1) := by decide +kernel
theorem dL_law_739 : decode cL_law 739 = .ok (.iconst 1, 1) := by decide +kernel
theorem dL_law_740 : decode cL_law 740 = .ok (.iadd, 1) := by decide +kernel
theorem dL_law_741 : decode cL_law 741 = .ok (.iaload, 1) := by decide +kernel
theorem dL_law_742 : decode cL_law 742 = .ok (.aload_n 0, 1) := by decide +kernel
theorem dL_law_743 : decode cL_law 743 = .ok (.iload_n 3, 1) := by decide +kernel
theorem dL_law_744 : decode cL_law 744 = .ok (.iconst 2, 1) := by decide +kernel
theorem dL_law_745 : decode cL_law 745 = .ok (.iadd, 1) := by decide +kernel
theorem dL_law_746 : decode cL_law 746 = .ok (.iaload, 1) := by decide +kernel
theorem dL_law_747 : decode cL_law 747 = .ok (.aload_n 0, 1) := by decide +kernel
theorem dL_law_748 : decode cL_law 748 = .ok (.iload_n 3, 1) := by decide +kernel
theorem dL_law_749 : decode cL_law 749 = .ok (.iconst 3, 1) := by decide +kernel
theorem dL_law_750 : decode cL_law 750 = .ok (.iadd, 1) := by decide +kernel
theorem dL_law_751 : decode cL_law 751 = .ok (.iaload, 1) := by decide +kernel
theorem dL_law_752 : decode cL_law 752 = .ok (.invokevirtual 85, 3) := by decide +kernel
theorem dL_law_755 : decode cL_law 755 = .ok (.aload_n 2, 1) := by decide +kernel
theorem dL_law_756 : decode cL_law 756 = .ok (.aload_n 0, 1) := by decide +kernel
theorem dL_law_757 : decode cL_law 757 = .ok (.iload_n 3, 1) := by decide +kernel
theorem dL_law_758 : decode cL_law 758 = .ok (.iconst 1, 1) := by decide +kernel
theorem dL_law_759 : decode cL_law 759 = .ok (.iadd, 1) := by decide +kernel
theorem dL_law_760 : decode cL_law 760 = .ok (.iaload, 1) := by decide +kernel
theorem dL_law_761 : decode cL_law 761 = .ok (.aload_n 0, 1) := by decide +kernel
theorem dL_law_762 : decode cL_law 762 = .ok (.iload_n 3, 1) := by decide +kernel
theorem dL_law_763 : decode cL_law 763 = .ok (.iconst 2, 1) := by decide +kernel
theorem dL_law_764 : decode cL_law 764 = .ok (.iadd, 1) := by decide +kernel
theorem dL_law_765 : decode cL_law 765 = .ok (.iaload, 1) := by decide +kernel
theorem dL_law_766 : decode cL_law 766 = .ok (.aload_n 0, 1) := by decide +kernel
theorem dL_law_767 : decode cL_law 767 = .ok (.iload_n 3, 1) := by decide +kernel
theorem dL_law_768 : decode cL_law 768 = .ok (.iconst 3, 1) := by decide +kernel
theorem dL_law_769 : decode cL_law 769 = .ok (.iadd, 1) := by decide +kernel
theorem dL_law_770 : decode cL_law 770 = .ok (.iaload, 1) := by decide +kernel
theorem dL_law_771 : decode cL_law 771 = .ok (.invokevirtual 88, 3) := by decide +kernel
theorem dL_law_774 : decode cL_law 774 = .ok (.if_icmp .eq 127, 3) := by decide +kernel
theorem dL_law_777 : decode cL_law 777 = .ok (.iconst 0, 1) := by decide +kernel
theorem dL_law_778 : decode cL_law 778 = .ok (.ireturn, 1) := by decide +kernel
theorem dL_law_779 : decode cL_law 779 = .ok (.aload_n 1, 1) := by decide +kernel
theorem dL_law_780 : decode cL_law 780 = .ok (.aload_n 0, 1) := by decide +kernel
theorem dL_law_781 : decode cL_law 781 = .ok (.iload_n 3, 1) := by decide +kernel
theorem dL_law_782 : decode cL_law 782 = .ok (.iconst 1, 1) := by decide +kernel
theorem dL_law_783 : decode cL_law 783 = .ok (.iadd, 1) := by decide +kernel
theorem dL_law_784 : decode cL_law 784 = .ok (.iaload, 1) := by decide +kernel
theorem dL_law_785 : decode cL_law 785 = .ok (.aload_n 0, 1) := by decide +kernel
theorem dL_law_786 : decode cL_law 786 = .ok (.iload_n 3, 1) := by decide +kernel
theorem dL_law_787 : decode cL_law 787 = .ok (.iconst 2, 1) := by decide +kernel
theorem dL_law_788 : decode cL_law 788 = .ok (.iadd, 1) := by decide +kernel
theorem dL_law_789 : decode cL_law 789 = .ok (.iaload, 1) := by decide +kernel
theorem dL_law_790 : decode cL_law 790 = .ok (.invokevirtual 89, 3) := by decide +kernel
theorem dL_law_793 : decode cL_law 793 = .ok (.aload_n 2, 1) := by decide +kernel
theorem dL_law_794 : decode cL_law 794 = .ok (.aload_n 0, 1) := by decide +kernel
theorem dL_law_795 : decode cL_law 795 = .ok (.iload_n 3, 1) := by decide +kernel
theorem dL_law_796 : decode cL_law 796 = .ok (.iconst 1, 1) := by decide +kernel
theorem dL_law_797 : decode cL_law 797 = .ok (.iadd, 1) := by decide +kernel
theorem dL_law_798 : decode cL_law 798 = .ok (.iaload, 1) := by decide +kernel
theorem dL_law_799 : decode cL_law 799 = .ok (.aload_n 0, 1) := by decide +kernel
theorem dL_law_800 : decode cL_law 800 = .ok (.iload_n 3, 1) := by decide +kernel
theorem dL_law_801 : decode cL_law 801 = .ok (.iconst 2, 1) := by decide +kernel
theorem dL_law_802 : decode cL_law 802 = .ok (.iadd, 1) := by decide +kernel
theorem dL_law_803 : decode cL_law 803 = .ok (.iaload, 1) := by decide +kernel
theorem dL_law_804 : decode cL_law 804 = .ok (.invokevirtual 92, 3) := by decide +kernel
theorem dL_law_807 : decode cL_law 807 = .ok (.if_icmp .eq 94, 3) := by decide +kernel
theorem dL_law_810 : decode cL_law 810 = .ok (.iconst 0, 1) := by decide +kernel
theorem dL_law_811 : decode cL_law 811 = .ok (.ireturn, 1) := by decide +kernel
theorem dL_law_812 : decode cL_law 812 = .ok (.aload_n 1, 1) := by decide +kernel
theorem dL_law_813 : decode cL_law 813 = .ok (.aload_n 0, 1) := by decide +kernel
theorem dL_law_814 : decode cL_law 814 = .ok (.iload_n 3, 1) := by decide +kernel
theorem dL_law_815 : decode cL_law 815 = .ok (.iconst 1, 1) := by decide +kernel
theorem dL_law_816 : decode cL_law 816 = .ok (.iadd, 1) := by decide +kernel
theorem dL_law_817 : decode cL_law 817 = .ok (.iaload, 1) := by decide +kernel
theorem dL_law_818 : decode cL_law 818 = .ok (.aload_n 0, 1) := by decide +kernel
theorem dL_law_819 : decode cL_law 819 = .ok (.iload_n 3, 1) := by decide +kernel
theorem dL_law_820 : decode cL_law 820 = .ok (.iconst 2, 1) := by decide +kernel
theorem dL_law_821 : decode cL_law 821 = .ok (.iadd, 1) := by decide +kernel
theorem dL_law_822 : decode cL_law 822 = .ok (.iaload, 1) := by decide +kernel
theorem dL_law_823 : decode cL_law 823 = .ok (.invokevirtual 93, 3) := by decide +kernel
theorem dL_law_826 : decode cL_law 826 = .ok (.aload_n 2, 1) := by decide +kernel
theorem dL_law_827 : decode cL_law 827 = .ok (.aload_n 0, 1) := by decide +kernel
theorem dL_law_828 : decode cL_law 828 = .ok (.iload_n 3, 1) := by decide +kernel
theorem dL_law_829 : decode cL_law 829 = .ok (.iconst 1, 1) := by decide +kernel
theorem dL_law_830 : decode cL_law 830 = .ok (.iadd, 1) := by decide +kernel
theorem dL_law_831 : decode cL_law 831 = .ok (.iaload, 1) := by decide +kernel
theorem dL_law_832 : decode cL_law 832 = .ok (.aload_n 0, 1) := by decide +kernel
theorem dL_law_833 : decode cL_law 833 = .ok (.iload_n 3, 1) := by decide +kernel
theorem dL_law_834 : decode cL_law 834 = .ok (.iconst 2, 1) := by decide +kernel
theorem dL_law_835 : decode cL_law 835 = .ok (.iadd, 1) := by decide +kernel
theorem dL_law_836 : decode cL_law 836 = .ok (.iaload, 1) := by decide +kernel
theorem dL_law_837 : decode cL_law 837 = .ok (.invokevirtual 96, 3) := by decide +kernel
theorem dL_law_840 : decode cL_law 840 = .ok (.if_icmp .eq 61, 3) := by decide +kernel
theorem dL_law_843 : decode cL_law 843 = .ok (.iconst 0, 1) := by decide +kernel
theorem dL_law_844 : decode cL_law 844 = .ok (.ireturn, 1) := by decide +kernel
theorem dL_law_845 : decode cL_law 845 = .ok (.aload_n 1, 1) := by decide +kernel
theorem dL_law_846 : decode cL_law 846 = .ok (.aload_n 0, 1) := by decide +kernel
theorem dL_law_847 : decode cL_law 847 = .ok (.iload_n 3, 1) := by decide +kernel
theorem dL_law_848 : decode cL_law 848 = .ok (.iconst 1, 1) := by decide +kernel
theorem dL_law_849 : decode cL_law 849 = .ok (.iadd, 1) := by decide +kernel
theorem dL_law_850 : decode cL_law 850 = .ok (.iaload, 1) := by decide +kernel
theorem dL_law_851 : decode cL_law 851 = .ok (.aload_n 0, 1) := by decide +kernel
theorem dL_law_852 : decode cL_law 852 = .ok (.iload_n 3, 1) := by decide +kernel
theorem dL_law_853 : decode cL_law 853 = .ok (.iconst 2, 1) := by decide +kernel
theorem dL_law_854 : decode cL_law 854 = .ok (.iadd, 1) := by decide +kernel
theorem dL_law_855 : decode cL_law 855 = .ok (.iaload, 1) := by decide +kernel
theorem dL_law_856 : decode cL_law 856 = .ok (.invokevirtual 97, 3) := by decide +kernel
theorem dL_law_859 : decode cL_law 859 = .ok (.aload_n 2, 1) := by decide +kernel
theorem dL_law_860 : decode cL_law 860 = .ok (.aload_n 0, 1) := by decide +kernel
theorem dL_law_861 : decode cL_law 861 = .ok (.iload_n 3, 1) := by decide +kernel
theorem dL_law_862 : decode cL_law 862 = .ok (.iconst 1, 1) := by decide +kernel
theorem dL_law_863 : decode cL_law 863 = .ok (.iadd, 1) := by decide +kernel
theorem dL_law_864 : decode cL_law 864 = .ok (.iaload, 1) := by decide +kernel
theorem dL_law_865 : decode cL_law 865 = .ok (.aload_n 0, 1) := by decide +kernel
theorem dL_law_866 : decode cL_law 866 = .ok (.iload_n 3, 1) := by decide +kernel
theorem dL_law_867 : decode cL_law 867 = .ok (.iconst 2, 1) := by decide +kernel
theorem dL_law_868 : decode cL_law 868 = .ok (.iadd, 1) := by decide +kernel
theorem dL_law_869 : decode cL_law 869 = .ok (.iaload, 1) := by decide +kernel
theorem dL_law_870 : decode cL_law 870 = .ok (.invokevirtual 100, 3) := by decide +kernel
theorem dL_law_873 : decode cL_law 873 = .ok (.if_icmp .eq 28, 3) := by decide +kernel
theorem dL_law_876 : decode cL_law 876 = .ok (.iconst 0, 1) := by decide +kernel
theorem dL_law_877 : decode cL_law 877 = .ok (.ireturn, 1) := by decide +kernel
theorem dL_law_878 : decode cL_law 878 = .ok (.aload_n 1, 1) := by decide +kernel
theorem dL_law_879 : decode cL_law 879 = .ok (.aload_n 0, 1) := by decide +kernel
theorem dL_law_880 : decode cL_law 880 = .ok (.iload_n 3, 1) := by decide +kernel
theorem dL_law_881 : decode cL_law 881 = .ok (.iconst 1, 1) := by decide +kernel
theorem dL_law_882 : decode cL_law 882 = .ok (.iadd, 1) := by decide +kernel
theorem dL_law_883 : decode cL_law 883 = .ok (.iaload, 1) := by decide +kernel
theorem dL_law_884 : decode cL_law 884 = .ok (.invokevirtual 101, 3) := by decide +kernel
theorem dL_law_887 : decode cL_law 887 = .ok (.aload_n 2, 1) := by decide +kernel
theorem dL_law_888 : decode cL_law 888 = .ok (.aload_n 0, 1) := by decide +kernel
theorem dL_law_889 : decode cL_law 889 = .ok (.iload_n 3, 1) := by decide +kernel
theorem dL_law_890 : decode cL_law 890 = .ok (.iconst 1, 1) := by decide +kernel
theorem dL_law_891 : decode cL_law 891 = .ok (.iadd, 1) := by decide +kernel
theorem dL_law_892 : decode cL_law 892 = .ok (.iaload, 1) := by decide +kernel
theorem dL_law_893 : decode cL_law 893 = .ok (.invokevirtual 104, 3) := by decide +kernel
theorem dL_law_896 : decode cL_law 896 = .ok (.if_icmp .eq 5, 3) := by decide +kernel
theorem dL_law_899 : decode cL_law 899 = .ok (.iconst 0, 1) := by decide +kernel
theorem dL_law_900 : decode cL_law 900 = .ok (.ireturn, 1) := by decide +kernel
theorem dL_law_901 : decode cL_law 901 = .ok (.iinc 3 6, 3) := by decide +kernel
theorem dL_law_904 : decode cL_law 904 = .ok (.goto (-866), 3) := by decide +kernel
theorem dL_law_907 : decode cL_law 907 = .ok (.iconst 1, 1) := by decide +kernel
theorem dL_law_908 : decode cL_law 908 = .ok (.ireturn, 1) := by decide +kernel
end
section
/-! values and cells of the pure picture -/
abbrev AV : Type := Int ⊕ (Int ⊕ Option (Option Nat))
abbrev vi (x : Int) : AV := .inl x
abbrev vl (x : Int) : AV := .inr (.inl x)
abbrev vr (a : Nat) : AV := .inr (.inr (some (some a)))
abbrev vz : AV := .inr (.inr (some none))
abbrev vu : AV := .inr (.inr none)
abbrev AC : Type := (Nat × (Nat → AV)) ⊕ ((Nat × Nat × (Nat → Int)) ⊕ (Nat × Nat × (Nat → Option Nat)))
abbrev HP : Type := Nat → AC
abbrev MD : Type := MethodName × ByteArray × Nat × Option FieldType
abbrev ob (c : Nat) (fs : Nat → AV) : AC := .inl (c, fs)
abbrev ar (k n : Nat) (f : Nat → Int) : AC := .inr (.inl (k, n, f))
abbrev rr (k n : Nat) (f : Nat → Option Nat) : AC := .inr (.inr (k, n, f))
def up {α : Type} (f : Nat → α) (a : Nat) (x : α) : Nat → α := fun b => if b = a then x else f b
theorem up_s {α : Type} (f : Nat → α) (a : Nat) (x : α) : up f a x a = x := if_pos rfl
theorem up_n {α : Type} (f : Nat → α) {a b : Nat} (x : α) (h : b ≠ a) : up f a x b = f b := if_neg h
def jk : AV → Bool
  | .inr (.inr none) => true
  | _ => false
def classesX : List vw_C := [(RX0, TX0, 3), (RX1, TX1, 4), (RX2, TX2, 7), (RX3, TX3, 5), (RX4, TX4, 3), (RX5, TX5, 5), (RX6, TX6, 10), (RX7, TX7, 24)]
def akinds : List FieldType := [.int, .long, .byte, .boolean, .object "SpanLoom$Laying", .array .int, .array .long, .array .byte]
def tyOf (c : Nat) : Nat → FieldType := match c with
  | 0 => tyX0
  | 1 => tyX1
  | 2 => tyX2
  | 3 => tyX3
  | 4 => tyX4
  | 5 => tyX5
  | 6 => tyX6
  | _ => tyX7
def isNest : Cond → Bool
  | .fieldLinkNest .. => true
  | .methodLinkNest .. => true
  | _ => false
def lw_g : List Cond := lw_tbl.filter goodWord
def lw_n : List Cond := lw_tbl.filter isNest
theorem mem_g {w : Cond} (h : w ∈ lw_tbl) (hg : goodWord w = true) : w ∈ lw_g := List.mem_filter.mpr ⟨h, hg⟩
theorem mem_n {w : Cond} (h : w ∈ lw_tbl) (hg : isNest w = true) : w ∈ lw_n := List.mem_filter.mpr ⟨h, hg⟩
theorem good_g : ∀ w ∈ lw_g, goodWord w = true := fun _ h => (List.mem_filter.mp h).2
/-- what is the same through a whole run: class numbers, slots, array classes, the heap at the law's entry, the three outer arrays -/
abbrev GL : Type := (Nat → ClassId) × (Nat → Nat → Nat) × (Nat → ClassId) × Heap × (Nat → Nat) × (Nat → Nat × (Nat → Int))
abbrev gH (G : GL) : Heap := G.2.2.2.1
def ad (G : GL) (a : Nat) : Nat := if a < 1000000 then (gH G).size + a else G.2.2.2.2.1 (a - 1000000)
def cv (G : GL) : AV → Value
  | .inl x => .int (Int32.ofInt x)
  | .inr (.inl x) => .long (Int64.ofInt x)
  | .inr (.inr (some (some a))) => .ref (ad G a)
  | .inr (.inr _) => .null
def el (k : Nat) (x : Int) : Value := if k = 1 then .long (Int64.ofInt x) else .int (Int32.ofInt x)
def cA (G : GL) (q : Nat) (c : AC) (H : Heap) : Prop := match c with
  | .inl o => ∃ r : vw_C, classesX[o.1]? = some r ∧ t_OB q (G.1 o.1) r.2.2 (G.2.1 o.1) H (fun j => cv G (o.2 j))
  | .inr (.inl x) => x.2.1 < 2147483648 ∧ x.1 < 4 ∧ H[q]? = some (arrV (G.2.2.1 x.1) x.2.1 (fun j => el x.1 (x.2.2 j)))
  | .inr (.inr x) => x.2.1 < 2147483648 ∧ 4 ≤ x.1 ∧ x.1 < 8 ∧ H[q]? = some (arrV (G.2.2.1 x.1) x.2.1 (fun j => va_rf ((x.2.2 j).map (ad G))))
theorem cA.kept {G : GL} {q : Nat} {c : AC} {H H1 : Heap} (h : cA G q c H) (e : H1[q]? = H[q]?) : cA G q c H1 := by
  rcases c with o | x | x
  · obtain ⟨r, h1, h2⟩ := h
    exact ⟨r, h1, h2.kept e⟩
  · exact ⟨h.1, h.2.1, e.trans h.2.2⟩
  · exact ⟨h.1, h.2.1, h.2.2.1, e.trans h.2.2.2⟩
def Rl (G : GL) (hp : HP) (sz : Nat) (H : Heap) : Prop :=
  H.size = (gH G).size + sz ∧ sz ≤ 700000 ∧ (∀ a, a < sz → cA G ((gH G).size + a) (hp a) H) ∧ (∀ q : Nat, q < (gH G).size → H[q]? = (gH G)[q]?) ∧ ∀ i, i < 3 → hp (1000000 + i) = ar 0 (G.2.2.2.2.2 i).1 (G.2.2.2.2.2 i).2
theorem ad_lt {G : GL} {a sz : Nat} (h : a < sz) (hs : sz ≤ 700000) : ad G a = (gH G).size + a := if_pos (by omega)
theorem Rl.at {G : GL} {hp : HP} {sz : Nat} {H : Heap} (h : Rl G hp sz H) {a : Nat} (ha : a < sz) : cA G (ad G a) (hp a) H := by
  rw [ad_lt ha h.2.1]
  exact h.2.2.1 a ha
theorem Rl.set {G : GL} {hp : HP} {sz : Nat} {H H1 : Heap} (h : Rl G hp sz H) {a : Nat} {c : AC} (ha : a < sz) (hc : cA G (ad G a) c H1) (z : H1.size = H.size) (o : ∀ q : Nat, q ≠ ad G a → H1[q]? = H[q]?) : Rl G (up hp a c) sz H1 := by
  obtain ⟨h1, h2, h3, h4, h5⟩ := h
  have e := ad_lt (G := G) ha h2
  rw [e] at hc o
  refine ⟨z.trans h1, h2, fun b hb => ?_, fun q hq => (o q (by omega)).trans (h4 q hq), fun i hi => ?_⟩
  · by_cases hab : b = a
    · subst hab
      rw [up_s]
      exact hc
    · rw [up_n _ _ hab]
      exact (h3 b hb).kept (o _ (by omega))
  · rw [up_n _ _ (by omega)]
    exact h5 i hi
theorem Rl.push {G : GL} {hp : HP} {sz : Nat} {H H1 : Heap} (h : Rl G hp sz H) {c : AC} (hs : sz < 700000) (hc : cA G H.size c H1) (z : H1.size = H.size + 1) (o : ∀ q : Nat, q < H.size → H1[q]? = H[q]?) : Rl G (up hp sz c) (sz + 1) H1 := by
  obtain ⟨h1, h2, h3, h4, h5⟩ := h
  refine ⟨by omega, by omega, fun b hb => ?_, fun q hq => (o q (by omega)).trans (h4 q hq), fun i hi => ?_⟩
  · by_cases hab : b = sz
    · subst hab
      rw [up_s, ← h1]
      exact hc
    · rw [up_n _ _ hab]
      exact (h3 b (by omega)).kept (o _ (by omega))
  · rw [up_n _ _ (by omega)]
    exact h5 i hi
/-! what the tables say, for every state of the run -/
def AOs : List FieldType := [.object "SpanLoom$Laying", .array .int, .array .long, .array .byte]
def AOv (ty : FieldType) (U : State) : Prop := (Cond.arrayOver ty).before #[] U = true
def KK (G : GL) (s : State) : Prop :=
  (∀ (c : Nat) (q : vw_C), classesX[c]? = some q → u_Kn s q.1 q.2.1 q.2.2 (G.1 c) (G.2.1 c)) ∧
  (∀ (k : Nat) (ty : FieldType), akinds[k]? = some ty → ArrOfT s (G.2.2.1 k) ty ∧ s.vm.findClass ("[" ++ ty.toString) = some (G.2.2.1 k)) ∧
  (∀ (k : Nat) (ty : FieldType), 4 ≤ k → akinds[k]? = some ty → ∃ kA : Class, s.vm.classes[G.2.2.1 k]? = some kA ∧ kA.kind = .array (if k = 4 then G.1 0 else G.2.2.1 (k - 5)) ty) ∧
  (∀ i, i < 3 → va_X (G.2.2.2.2.1 i) (G.2.2.2.2.2 i).1 (fun j => Int32.ofInt ((G.2.2.2.2.2 i).2 j)) s (gH G) ∧ G.2.2.2.2.1 i < (gH G).size ∧ (G.2.2.2.2.2 i).1 < 2147483648) ∧
  va_Z "SpanLoom" "PRIMES" "[I" (.ref (G.2.2.2.2.1 1)) (fun a => (gH G).size ≤ a) s (gH G) ∧ va_Z "SpanLoomModel" "PRIMES" "[I" (.ref (G.2.2.2.2.1 2)) (fun a => (gH G).size ≤ a) s (gH G) ∧
  (∀ w ∈ lw_n, va_Nw w s) ∧ ∀ ty ∈ AOs, AOv ty s
theorem AOv.movedA {t : FieldType} {u U : State} (hvm : u.vm.Alike U.vm) (h : AOv (.array t) u) : AOv (.array t) U := by
  unfold AOv Cond.before Cond.holds at h ⊢
  simp only [Cond.value, beq_iff_eq] at h ⊢
  cases hc : u.vm.findClass (FieldType.array t).toString with
  | none => simp [hc] at h
  | some comp =>
    simp only [hc, Option.bind_some, Option.bind_eq_some_iff, Option.map_eq_some_iff] at h
    obtain ⟨c, hi, k, hk, hb⟩ := h
    obtain ⟨k', hk', he⟩ := hvm.2.2 _ _ hk
    have e0 := va_idx_bare U.vm comp
    have e1 := va_idx_bare u.vm comp
    have eb : U.vm.bare = u.vm.bare := by first | exact hvm.bare_eq | exact hvm.bare_eq.symm
    rw [eb] at e0
    have hi2 := e0.symm.trans (e1.trans hi)
    rw [hvm.findClass, hc]
    simp only [Option.bind_some, Option.bind_eq_some_iff, Option.map_eq_some_iff]
    refine ⟨c, hi2, k', hk', ?_⟩
    rw [hvm.findClass, he]
    exact hb
theorem AOv.moved {ty : FieldType} (hty : ty ∈ AOs) {u U : State} (hvm : u.vm.Alike U.vm) (h : AOv ty u) : AOv ty U := by
  simp only [AOs, List.mem_cons, List.not_mem_nil, or_false] at hty
  rcases hty with rfl | rfl | rfl | rfl
  · exact va_AO.moved (C := "SpanLoom$Laying") hvm h
  · exact AOv.movedA hvm h
  · exact AOv.movedA hvm h
  · exact AOv.movedA hvm h
theorem isNest_warm {w : Cond} (hn : isNest w = true) {s U : State} (hW : s.WarmedH U.vm) (h : va_Nw w s) : va_Nw w U := by
  cases w <;> first | (simp [isNest] at hn; done) | exact va_Nw.warmF hW h | exact va_Nw.warmM hW h
theorem isNest_tab {w : Cond} (hn : isNest w = true) : w.onTables = true := by
  cases w <;> first | (simp [isNest] at hn; done) | rfl
theorem KK.alike {G : GL} {s U : State} (ha : s.vm.Alike U.vm) (hn : ∀ w ∈ lw_n, va_Nw w U) (h : KK G s) : KK G U := by
  obtain ⟨h1, h2, h3, h4, h5, h6, h7, h8⟩ := h
  refine ⟨fun c q hq => u_Kn_moved ha (h1 c q hq), fun k ty hk => ⟨arrOfT_moved ha (h2 k ty hk).1, by rw [ha.findClass]; exact (h2 k ty hk).2⟩, fun k ty h4 hk => ?_, fun i hi => ⟨(h4 i hi).1.moved ha, (h4 i hi).2⟩, h5.moved ha, h6.moved ha, hn, fun ty hty => (h8 ty hty).moved hty ha⟩
  obtain ⟨kA, g1, g2⟩ := h3 k ty h4 hk
  obtain ⟨k', hk', he⟩ := ha.2.2 _ _ g1
  exact ⟨k', hk', by rw [he]; exact g2⟩
theorem KK.moved {G : GL} {s U : State} (hW : s.WarmedH U.vm) (h : KK G s) : KK G U :=
  h.alike hW.alike (fun w hw => isNest_warm (List.mem_filter.mp hw).2 hW (h.2.2.2.2.2.2.1 w hw))
theorem KK.same {G : GL} {s U : State} (hv : s.vm = U.vm) (h : KK G s) : KK G U :=
  h.alike (by rw [hv]; exact Vm.Alike.refl _) (fun w hw => va_tabs (isNest_tab (List.mem_filter.mp hw).2) hv (h.2.2.2.2.2.2.1 w hw))
/-! the locals -/
def prs (G : GL) : Nat → List AV → List (Nat × Value)
  | _, [] => []
  | i, v :: vs => if jk v = true then prs G (i + 1) vs else (i, cv G v) :: prs G (i + 1) vs
theorem prs_mem {G : GL} : ∀ (ls : List AV) (i : Nat) (q : Nat × Value), q ∈ prs G i ls ↔ ∃ v, i ≤ q.1 ∧ ls[q.1 - i]? = some v ∧ jk v = false ∧ q.2 = cv G v
  | [], i, q => by simp [prs]
  | v :: vs, i, q => by
    have ih := prs_mem (G := G) vs (i + 1) q
    by_cases hj : jk v = true
    · rw [prs, if_pos hj, ih]
      constructor
      · rintro ⟨w, h1, h2, h3, h4⟩
        refine ⟨w, by omega, ?_, h3, h4⟩
        rw [show q.1 - i = (q.1 - (i + 1)) + 1 by omega, List.getElem?_cons_succ]
        exact h2
      · rintro ⟨w, h1, h2, h3, h4⟩
        by_cases he : q.1 = i
        · rw [he, Nat.sub_self, List.getElem?_cons_zero] at h2
          cases h2
          rw [hj] at h3
          cases h3
        · rw [show q.1 - i = (q.1 - (i + 1)) + 1 by omega, List.getElem?_cons_succ] at h2
          exact ⟨w, by omega, h2, h3, h4⟩
    · rw [prs, if_neg hj, List.mem_cons, ih]
      constructor
      · rintro (h | ⟨w, h1, h2, h3, h4⟩)
        · subst h
          exact ⟨v, Nat.le_refl _, by simp, by simpa using hj, rfl⟩
        · refine ⟨w, by omega, ?_, h3, h4⟩
          rw [show q.1 - i = (q.1 - (i + 1)) + 1 by omega, List.getElem?_cons_succ]
          exact h2
      · rintro ⟨w, h1, h2, h3, h4⟩
        by_cases he : q.1 = i
        · rw [he, Nat.sub_self, List.getElem?_cons_zero] at h2
          cases h2
          exact Or.inl (Prod.ext he h4)
        · rw [show q.1 - i = (q.1 - (i + 1)) + 1 by omega, List.getElem?_cons_succ] at h2
          exact Or.inr ⟨w, by omega, h2, h3, h4⟩
def lh (G : GL) (lsR : Array Slot) (nL : Nat) (ls : List AV) : Prop := lv_has lsR nL (prs G 0 ls)
theorem lh.at {G : GL} {lsR : Array Slot} {nL : Nat} {ls : List AV} (h : lh G lsR nL ls) {i : Nat} {v : AV} (hi : ls[i]? = some v) (hj : jk v = false) : lsR[i]? = some (.val (cv G v)) :=
  h.2.2 (i, cv G v) ((prs_mem ls 0 (i, cv G v)).mpr ⟨v, Nat.zero_le _, hi, hj, rfl⟩)
/-- place i isn't the second half of a long -/
def noL (ls : List AV) (i : Nat) : Bool := match i with
  | 0 => true
  | j + 1 => match ls[j]? with
    | some (.inr (.inl _)) => false
    | _ => true
theorem cat_cv {G : GL} {v : AV} (h : (cv G v).category = 2) : ∃ x, v = vl x := by
  rcases v with x | x | (_ | _ | x)
  · simp [cv, Value.category] at h
  · exact ⟨x, rfl⟩
  · simp [cv, Value.category] at h
  · simp [cv, Value.category] at h
  · simp [cv, Value.category] at h
theorem lh_set {G : GL} {lsR : Array Slot} {nL : Nat} {ls : List AV} {i : Nat} {v : AV} (hno : noL ls i = true)
    (h : lv_has lsR nL ((i, cv G v) :: (prs G 0 ls).filter (fun q => !(q.1 == i) && !(q.1 + 1 == i && q.2.category == 2)))) : lh G lsR nL (ls.set i v) := by
  refine ⟨h.1, h.2.1, fun q hq => ?_⟩
  obtain ⟨w, h1, h2, h3, h4⟩ := (prs_mem _ 0 q).mp hq
  rw [Nat.sub_zero] at h2
  by_cases hi : q.1 = i
  · rw [hi] at h2
    have hl := (List.getElem?_eq_some_iff.mp h2).1
    rw [List.length_set] at hl
    rw [List.getElem?_set_self hl] at h2
    cases h2
    have := h.2.2 (i, cv G v) List.mem_cons_self
    rw [hi, h4]
    exact this
  · rw [List.getElem?_set_ne (fun e => hi e.symm)] at h2
    refine h.2.2 q (List.mem_cons_of_mem _ (List.mem_filter.mpr ⟨(prs_mem ls 0 q).mpr ⟨w, h1, by rw [Nat.sub_zero]; exact h2, h3, h4⟩, ?_⟩))
    simp only [Bool.and_eq_true, Bool.not_eq_true', beq_eq_false_iff_ne, ne_eq, Bool.and_eq_false_iff]
    refine ⟨hi, ?_⟩
    by_cases hs : q.1 + 1 = i
    · right
      intro hc
      rw [h4] at hc
      obtain ⟨x, rfl⟩ := cat_cv hc
      rw [← hs] at hno
      simp [noL, h2] at hno
    · left
      exact hs
/-- a long at i and i + 1 -/
theorem lh_setl {G : GL} {lsR : Array Slot} {nL : Nat} {ls : List AV} {i : Nat} {x : Int} (hno : noL ls i = true)
    (h : lv_has lsR nL ((i, cv G (vl x)) :: (prs G 0 ls).filter (fun q => !(q.1 == i) && (!(q.1 == i + 1) && !(q.1 + 1 == i && q.2.category == 2))))) : lh G lsR nL ((ls.set i (vl x)).set (i + 1) vu) := by
  refine ⟨h.1, h.2.1, fun q hq => ?_⟩
  obtain ⟨w, h1, h2, h3, h4⟩ := (prs_mem _ 0 q).mp hq
  rw [Nat.sub_zero] at h2
  by_cases hi1 : q.1 = i + 1
  · rw [hi1] at h2
    have hl := (List.getElem?_eq_some_iff.mp h2).1
    rw [List.length_set] at hl
    rw [List.getElem?_set_self hl] at h2
    cases h2
    simp [jk] at h3
  rw [List.getElem?_set_ne (fun e => hi1 e.symm)] at h2
  by_cases hi : q.1 = i
  · rw [hi] at h2
    have hl := (List.getElem?_eq_some_iff.mp h2).1
    rw [List.length_set] at hl
    rw [List.getElem?_set_self hl] at h2
    cases h2
    have := h.2.2 (i, cv G (vl x)) List.mem_cons_self
    rw [hi, h4]
    exact this
  · rw [List.getElem?_set_ne (fun e => hi e.symm)] at h2
    refine h.2.2 q (List.mem_cons_of_mem _ (List.mem_filter.mpr ⟨(prs_mem ls 0 q).mpr ⟨w, h1, by rw [Nat.sub_zero]; exact h2, h3, h4⟩, ?_⟩))
    simp only [Bool.and_eq_true, Bool.not_eq_true', beq_eq_false_iff_ne, ne_eq, Bool.and_eq_false_iff]
    refine ⟨hi, hi1, ?_⟩
    by_cases hs : q.1 + 1 = i
    · right
      intro hc
      rw [h4] at hc
      obtain ⟨y, rfl⟩ := cat_cv hc
      rw [← hs] at hno
      simp [noL, h2] at hno
    · left
      exact hs
/-! THE JUDGEMENT: the method M, at pc, with these locals, stack and picture, returns, and Q holds of the answer and the picture then; d: frames left; rc, rs: cells and slots that it may still make -/
def Cx (G : GL) (d : Nat) (M : MD) (p : Program) (s : State) (m : MethodId) (args : Array Value) (meth : Method) (c : Code) (R : Room) : Prop :=
  p.tables.exec = Jvm.exec ∧ c.code = M.2.1 ∧ meth.sig.returnType = M.2.2.2 ∧ meth.locks = false ∧ c.maxLocals = M.2.2.1 ∧ s.vm.findClass M.1.cls = some m.cls ∧ meth.name = M.1.name ∧ (∀ w ∈ lw_g, w.before args s = true) ∧ KK G s ∧ d ≤ R.frames ∧ 60 * d ≤ R.locals
def Qx (G : GL) (Q : Option AV → HP → Nat → Prop) : Array Value → State → Outcome → State → Prop := fun _ _ o t => ∃ (r : Option AV) (hp : HP) (sz : Nat), o = .returned (r.map (cv G)) ∧ Rl G hp sz t.heap ∧ Q r hp sz
def Ex (G : GL) (d rc rs : Nat) (M : MD) (pc : Nat) (ls st : List AV) (hp : HP) (sz : Nat) (Q : Option AV → HP → Nat → Prop) : Prop :=
  ∀ (p : Program) (l : Launch) (e : Env) (R : Room) (s : State) (m : MethodId) (args : Array Value) (below : List Frame) (meth : Method) (c : Code) (H : Heap) (locs : List Loc) (cells slots : Nat) (lsR : Array Slot),
    Cx G d M p s m args meth c R → cells + rc ≤ R.cells → slots + rs ≤ R.slots → Rl G hp sz H → (∀ q ∈ locs, (gH G).size ≤ q.base) → lh G lsR M.2.2.1 ls →
    W p l e R s m args below meth c H locs cells slots (MQ below (Qx G Q) args s (cells + rc) (slots + rs) (fun q => (gH G).size ≤ q)) (F0 m pc lsR (st.map (cv G)))
def Ct (G : GL) (d rc rs : Nat) (M : MD) (as : List AV) (hp : HP) (sz : Nat) (Q : Option AV → HP → Nat → Prop) : Prop :=
  Ex G d rc rs M 0 (as ++ List.replicate (M.2.2.1 - as.length) vu) [] hp sz Q
theorem MQ_mono {below : List Frame} {Qc Qd : Array Value → State → Outcome → State → Prop} {a : Array Value} {s : State} {mc ms : Nat} {free : Addr → Prop} (h : ∀ o t, Qc a s o t → Qd a s o t) : ∀ t, MQ below Qc a s mc ms free t → MQ below Qd a s mc ms free t := by
  rintro t ⟨o, h1, h2, h3, h4⟩
  exact ⟨o, h1, h2, h _ _ h3, h4⟩
theorem W_mono {p : Program} {l : Launch} {e : Env} {R : Room} {s : State} {m : MethodId} {args : Array Value} {below : List Frame} {meth : Method} {c : Code} {H : Heap} {locs : List Loc} {cells slots : Nat} {Q Q' : State → Prop} {g : JFrame} (h : ∀ t, Q t → Q' t) (k : W p l e R s m args below meth c H locs cells slots Q g) : W p l e R s m args below meth c H locs cells slots Q' g := by
  intro T hT X
  obtain ⟨t, a, b⟩ := k T hT X
  exact ⟨t, a, h t b⟩
theorem Ex.mono {G : GL} {d rc rs : Nat} {M : MD} {pc : Nat} {ls st : List AV} {hp : HP} {sz : Nat} {Q Q' : Option AV → HP → Nat → Prop} (h : ∀ r hp sz, Q r hp sz → Q' r hp sz) (k : Ex G d rc rs M pc ls st hp sz Q) : Ex G d rc rs M pc ls st hp sz Q' := by
  intro p l e R s m args below meth c H locs cells slots lsR C h1 h2 h3 h4 h5
  refine W_mono (MQ_mono ?_) (k p l e R s m args below meth c H locs cells slots lsR C h1 h2 h3 h4 h5)
  rintro o t ⟨r, hp, sz, a1, a2, a3⟩
  exact ⟨r, hp, sz, a1, a2, h _ _ _ a3⟩
theorem Ct.mono {G : GL} {d rc rs : Nat} {M : MD} {as : List AV} {hp : HP} {sz : Nat} {Q Q' : Option AV → HP → Nat → Prop} (k : Ct G d rc rs M as hp sz Q) (h : ∀ r hp sz, Q r hp sz → Q' r hp sz) : Ct G d rc rs M as hp sz Q' := Ex.mono h k
/-- more frames do no harm -/
theorem Ex.deep {G : GL} {d d' rc rs : Nat} {M : MD} {pc : Nat} {ls st : List AV} {hp : HP} {sz : Nat} {Q : Option AV → HP → Nat → Prop} (h : d ≤ d') (k : Ex G d rc rs M pc ls st hp sz Q) : Ex G d' rc rs M pc ls st hp sz Q := by
  intro p l e R s m args below meth c H locs cells slots lsR C h1 h2 h3 h4 h5
  obtain ⟨c1, c2, c3, c4, c5, c6, c7, c8, c9, c10, c11⟩ := C
  exact k p l e R s m args below meth c H locs cells slots lsR ⟨c1, c2, c3, c4, c5, c6, c7, c8, c9, by omega, by omega⟩ h1 h2 h3 h4 h5
theorem Ct.deep {G : GL} {d d' rc rs : Nat} {M : MD} {as : List AV} {hp : HP} {sz : Nat} {Q : Option AV → HP → Nat → Prop} (k : Ct G d rc rs M as hp sz Q) (h : d ≤ d') : Ct G d' rc rs M as hp sz Q := Ex.deep h k
end
section
/-! numbers: Int32.ofInt, in its range, keeps what a comparison asks -/
theorem oi {x : Int} (h : -2147483648 ≤ x ∧ x < 2147483648) : (Int32.ofInt x).toInt = x := by
  rw [Int32.toInt_ofInt]
  have h1 := h.1
  have h2 := h.2
  rw [Int.bmod_eq_of_le] <;> simp [Int32.size] <;> omega
theorem ol {x : Int} (h : -9223372036854775808 ≤ x ∧ x < 9223372036854775808) : (Int64.ofInt x).toInt = x := by
  rw [Int64.toInt_ofInt]
  have h1 := h.1
  have h2 := h.2
  rw [Int.bmod_eq_of_le] <;> simp [Int64.size] <;> omega
theorem oi_le {x y : Int} (hx : -2147483648 ≤ x ∧ x < 2147483648) (hy : -2147483648 ≤ y ∧ y < 2147483648) : Int32.ofInt x ≤ Int32.ofInt y ↔ x ≤ y := by
  rw [Int32.le_iff_toInt_le, oi hx, oi hy]
theorem oi_lt {x y : Int} (hx : -2147483648 ≤ x ∧ x < 2147483648) (hy : -2147483648 ≤ y ∧ y < 2147483648) : Int32.ofInt x < Int32.ofInt y ↔ x < y := by
  rw [Int32.lt_iff_toInt_lt, oi hx, oi hy]
theorem oi_eq {x y : Int} (hx : -2147483648 ≤ x ∧ x < 2147483648) (hy : -2147483648 ≤ y ∧ y < 2147483648) : Int32.ofInt x = Int32.ofInt y ↔ x = y :=
  ⟨fun h => by rw [← oi hx, ← oi hy, h], fun h => by rw [h]⟩
theorem oi_0 : Int32.ofInt 0 = 0 := by decide +kernel
theorem oi_cl {x : Int} {n : Nat} (h0 : 0 ≤ x) (h1 : x < n) (hn : n < 2147483648) : (Int32.ofInt x).toNatClampNeg = x.toNat := by
  have h := oi (x := x) (by omega)
  show (Int32.ofInt x).toInt.toNat = x.toNat
  rw [h]
theorem oi_in {x : Int} {n : Nat} (h0 : 0 ≤ x) (h1 : x < n) (hn : n < 2147483648) : ¬ (Int32.ofInt x < 0 ∨ n ≤ (Int32.ofInt x).toNatClampNeg) := by
  rw [oi_cl h0 h1 hn, ← oi_0, oi_lt (by omega) (by omega)]
  omega
theorem oi_nat (n : Nat) : Int32.ofNat n = Int32.ofInt n := by
  first | rfl | exact Int32.ofNat_eq_ofInt | exact (Int32.ofInt_eq_ofNat).symm | simp
theorem oi_div {x y : Int} (hx : -2147483648 ≤ x ∧ x < 2147483648) (hy : 0 < y ∧ y < 2147483648) : Int32.ofInt x / Int32.ofInt y = Int32.ofInt (x.tdiv y) := by
  have h1 : -2147483648 ≤ x.tdiv y ∧ x.tdiv y < 2147483648 := by
    have hb : (x.tdiv y).natAbs = x.natAbs / y.natAbs := Int.natAbs_tdiv x y
    have hc : (x.natAbs / y.natAbs) ≤ x.natAbs := Nat.div_le_self _ _
    rcases Int.le_total 0 x with h0 | h0
    · have := Int.tdiv_nonneg h0 (Int.le_of_lt hy.1)
      omega
    · have h9 := Int.tdiv_nonneg (a := -x) (b := y) (by omega) (Int.le_of_lt hy.1)
      rw [Int.neg_tdiv] at h9
      omega
  apply Int32.toInt_inj.mp
  rw [Int32.toInt_div, oi hx, oi (by omega), oi h1]
  rw [Int.bmod_eq_of_le] <;> omega
theorem oi_rem {x y : Int} (hx : -2147483648 ≤ x ∧ x < 2147483648) (hy : 0 < y ∧ y < 2147483648) : Int32.ofInt x - Int32.ofInt x / Int32.ofInt y * Int32.ofInt y = Int32.ofInt (x.tmod y) := by
  rw [oi_div hx hy, ← Int32.ofInt_mul, ← Int32.ofInt_sub]
  congr 1
  have := Int.mul_tdiv_add_tmod x y
  rw [Int.mul_comm] at this
  omega
theorem oi_8 {n : Int} (h : -128 ≤ n ∧ n < 128) : (Int8.ofInt n).toInt32 = Int32.ofInt n := by
  apply Int32.toInt_inj.mp
  rw [Int8.toInt_toInt32, Int8.toInt_ofInt, oi (by omega)]
  rw [Int.bmod_eq_of_le] <;> simp [Int8.size] <;> omega
theorem oi_16 {n : Int} (h : -32768 ≤ n ∧ n < 32768) : (Int16.ofInt n).toInt32 = Int32.ofInt n := by
  apply Int32.toInt_inj.mp
  rw [Int16.toInt_toInt32, Int16.toInt_ofInt, oi (by omega)]
  rw [Int.bmod_eq_of_le] <;> simp [Int16.size] <;> omega
theorem oi_b {x : Int} (h : -128 ≤ x ∧ x < 128) : (Int32.ofInt x).toInt8.toInt32 = Int32.ofInt x := by
  apply Int32.toInt_inj.mp
  rw [Int8.toInt_toInt32, Int32.toInt_toInt8, oi (by omega)]
  rw [Int.bmod_eq_of_le] <;> simp <;> omega
theorem oi_sm : ∀ k, k < 32 → ((Int32.ofInt (k : Nat) &&& 31).toBitVec.smod 32).toNat = k := by decide +kernel
theorem oi_shr {x y : Int} (hx : -2147483648 ≤ x ∧ x < 2147483648) (h0 : 0 ≤ y) (h1 : y < 32) : Int32.ofInt x >>> (Int32.ofInt y &&& 31) = Int32.ofInt (x / 2 ^ y.toNat) := by
  have hk : y.toNat < 32 := by omega
  have hy : y = (y.toNat : Int) := by omega
  have hs := oi_sm y.toNat hk
  rw [← hy] at hs
  have h2 : -2147483648 ≤ x / 2 ^ y.toNat ∧ x / 2 ^ y.toNat < 2147483648 := by
    have hp : (0 : Int) < 2 ^ y.toNat := Int.pow_pos (by decide)
    have hp1 : (1 : Int) ≤ 2 ^ y.toNat := hp
    rcases Int.le_total 0 x with hz | hz
    · have a1 := Int.ediv_nonneg hz (Int.le_of_lt hp)
      have a2 := Int.ediv_le_self (2 ^ y.toNat) hz
      omega
    · have a1 : -2147483648 ≤ x / 2 ^ y.toNat := by
        rw [Int.le_ediv_iff_mul_le hp]
        have : (2147483648 : Int) * 1 ≤ 2147483648 * 2 ^ y.toNat := Int.mul_le_mul_of_nonneg_left hp1 (by decide)
        omega
      have a2 : x / 2 ^ y.toNat ≤ 0 := Int.ediv_nonpos_of_nonpos_of_neg hz hp1 |> fun h => h
      omega
  apply Int32.toInt_inj.mp
  rw [pk_shr _ _ _ hs, oi hx, oi h2, Int.shiftRight_eq_div_pow]
  simp
theorem oi_shl1 : ∀ k, k < 31 → (1 : Int32) <<< (Int32.ofInt (k : Nat) &&& 31) = Int32.ofInt (2 ^ k) := by decide +kernel
theorem oi_tn (x : Int) : ((Int32.ofInt x).toBitVec.toNat : Int) = x % 4294967296 := by
  show ((BitVec.ofInt 32 x).toNat : Int) = _
  rw [BitVec.toNat_ofInt]
  have := Int.emod_nonneg x (b := 4294967296) (by decide)
  simp
  omega
theorem oi_and {x y : Int} (k : Nat) (hk : k ≤ 31) (hy : (Int32.ofInt y).toBitVec.toNat = 2 ^ k - 1) : Int32.ofInt x &&& Int32.ofInt y = Int32.ofInt (x % 2 ^ k) := by
  rw [pk_and _ k hy]
  have h := oi_tn x
  show Int32.ofNat _ = _
  rw [oi_nat]
  congr 1
  rw [Int.natCast_emod, h]
  have hd : ((2 : Int) ^ k) ∣ 4294967296 := by
    have : (4294967296 : Int) = 2 ^ k * 2 ^ (32 - k) := by
      rw [← Int.pow_add, show k + (32 - k) = 32 by omega]
      decide
    exact ⟨_, this⟩
  have := Int.emod_emod_of_dvd x hd
  simpa using this
def xr (x y : Int) : Int := (Int32.ofInt x ^^^ Int32.ofInt y).toInt
theorem oi_xr (x y : Int) : Int32.ofInt x ^^^ Int32.ofInt y = Int32.ofInt (xr x y) := by
  rw [xr, Int32.ofInt_toInt]
theorem xr_rg (x y : Int) : -2147483648 ≤ xr x y ∧ xr x y < 2147483648 := by
  have h1 := Int32.le_toInt (Int32.ofInt x ^^^ Int32.ofInt y)
  have h2 := Int32.toInt_lt (Int32.ofInt x ^^^ Int32.ofInt y)
  unfold xr
  omega
theorem ol_div {x y : Int} (hx : -9223372036854775808 < x ∧ x < 9223372036854775808) (hy : -9223372036854775808 ≤ y ∧ y < 9223372036854775808) (h0 : y ≠ 0) : Int64.ofInt x / Int64.ofInt y = Int64.ofInt (x.tdiv y) := by
  have h1 : -9223372036854775808 ≤ x.tdiv y ∧ x.tdiv y < 9223372036854775808 := by
    have hb : (x.tdiv y).natAbs = x.natAbs / y.natAbs := Int.natAbs_tdiv x y
    have hc : (x.natAbs / y.natAbs) ≤ x.natAbs := Nat.div_le_self _ _
    omega
  apply Int64.toInt_inj.mp
  rw [Int64.toInt_div, ol (by omega), ol hy, ol h1]
  rw [Int.bmod_eq_of_le] <;> omega
theorem ol_eq {x y : Int} (hx : -9223372036854775808 ≤ x ∧ x < 9223372036854775808) (hy : -9223372036854775808 ≤ y ∧ y < 9223372036854775808) : Int64.ofInt x = Int64.ofInt y ↔ x = y :=
  ⟨fun h => by rw [← ol hx, ← ol hy, h], fun h => by rw [h]⟩
def lc (x y : Int) : Int := if x < y then -1 else if x = y then 0 else 1
theorem lc_cmp {x y : Int} (hx : -9223372036854775808 ≤ x ∧ x < 9223372036854775808) (hy : -9223372036854775808 ≤ y ∧ y < 9223372036854775808) : lg_cmp (Int64.ofInt x) (Int64.ofInt y) = Int32.ofInt (lc x y) := by
  unfold lg_cmp lc
  by_cases h1 : x < y
  · rw [if_pos h1, if_neg (by rw [gt_iff_lt, Int64.lt_iff_toInt_lt, ol hx, ol hy]; omega), if_neg (by rw [ol_eq hx hy]; omega)]
    decide +kernel
  · rw [if_neg h1]
    by_cases h2 : x = y
    · rw [if_pos h2, if_neg (by rw [gt_iff_lt, Int64.lt_iff_toInt_lt, ol hx, ol hy]; omega), if_pos (by rw [ol_eq hx hy]; exact h2)]
      decide +kernel
    · rw [if_neg h2, if_pos (by rw [gt_iff_lt, Int64.lt_iff_toInt_lt, ol hx, ol hy]; omega)]
      decide +kernel
end
section
section XR
variable {G : GL} {d rc rs : Nat} {M : MD} {pc : Nat} {ls st : List AV} {hp : HP} {sz : Nat} {Q : Option AV → HP → Nat → Prop}
theorem x_iload {i : Nat} {x : Int} (hd : decode M.2.1 pc = .ok (.iload i, 2)) (hl : ls[i]? = some (vi x)) (k : Ex G d rc rs M (pc + 2) ls (vi x :: st) hp sz Q) : Ex G d rc rs M pc ls st hp sz Q := by
  intro p l e R s m args below meth c H locs cells slots lsR C h1 h2 h3 h4 h5
  exact lv_iload C.1 C.2.1 hd (h5.at hl rfl) (k p l e R s m args below meth c H locs cells slots lsR C h1 h2 h3 h4 h5)
theorem x_iload_n {n : Fin 4} {x : Int} (hd : decode M.2.1 pc = .ok (.iload_n n, 1)) (hl : ls[(n : Nat)]? = some (vi x)) (k : Ex G d rc rs M (pc + 1) ls (vi x :: st) hp sz Q) : Ex G d rc rs M pc ls st hp sz Q := by
  intro p l e R s m args below meth c H locs cells slots lsR C h1 h2 h3 h4 h5
  exact lv_iload_n C.1 C.2.1 hd rfl (h5.at hl rfl) (k p l e R s m args below meth c H locs cells slots lsR C h1 h2 h3 h4 h5)
theorem x_aload {i : Nat} {x : Nat} (hd : decode M.2.1 pc = .ok (.aload i, 2)) (hl : ls[i]? = some (vr x)) (k : Ex G d rc rs M (pc + 2) ls (vr x :: st) hp sz Q) : Ex G d rc rs M pc ls st hp sz Q := by
  intro p l e R s m args below meth c H locs cells slots lsR C h1 h2 h3 h4 h5
  exact lv_aload C.1 C.2.1 hd (h5.at hl rfl) (k p l e R s m args below meth c H locs cells slots lsR C h1 h2 h3 h4 h5)
theorem x_aload_n {n : Fin 4} {x : Nat} (hd : decode M.2.1 pc = .ok (.aload_n n, 1)) (hl : ls[(n : Nat)]? = some (vr x)) (k : Ex G d rc rs M (pc + 1) ls (vr x :: st) hp sz Q) : Ex G d rc rs M pc ls st hp sz Q := by
  intro p l e R s m args below meth c H locs cells slots lsR C h1 h2 h3 h4 h5
  exact lv_aload_n C.1 C.2.1 hd rfl (h5.at hl rfl) (k p l e R s m args below meth c H locs cells slots lsR C h1 h2 h3 h4 h5)
theorem x_lload {i : Nat} {x : Int} (hd : decode M.2.1 pc = .ok (.lload i, 2)) (hl : ls[i]? = some (vl x)) (k : Ex G d rc rs M (pc + 2) ls (vl x :: st) hp sz Q) : Ex G d rc rs M pc ls st hp sz Q := by
  intro p l e R s m args below meth c H locs cells slots lsR C h1 h2 h3 h4 h5
  exact lv_lload C.1 C.2.1 hd (h5.at hl rfl) (k p l e R s m args below meth c H locs cells slots lsR C h1 h2 h3 h4 h5)
theorem x_lload_n {n : Fin 4} {x : Int} (hd : decode M.2.1 pc = .ok (.lload_n n, 1)) (hl : ls[(n : Nat)]? = some (vl x)) (k : Ex G d rc rs M (pc + 1) ls (vl x :: st) hp sz Q) : Ex G d rc rs M pc ls st hp sz Q := by
  intro p l e R s m args below meth c H locs cells slots lsR C h1 h2 h3 h4 h5
  exact lv_lload_n C.1 C.2.1 hd rfl (h5.at hl rfl) (k p l e R s m args below meth c H locs cells slots lsR C h1 h2 h3 h4 h5)
theorem x_istore {i : Nat} {x : Int} (hd : decode M.2.1 pc = .ok (.istore i, 2)) (hn : i < M.2.2.1) (hno : noL ls i = true) (k : Ex G d rc rs M (pc + 2) (ls.set i (vi x)) st hp sz Q) : Ex G d rc rs M pc ls (vi x :: st) hp sz Q := by
  intro p l e R s m args below meth c H locs cells slots lsR C h1 h2 h3 h4 h5
  exact lv_istore C.1 C.2.1 hd h5 hn rfl (fun ls' h' => k p l e R s m args below meth c H locs cells slots ls' C h1 h2 h3 h4 (lh_set hno h'))
theorem x_istore_n {n : Fin 4} {x : Int} (hd : decode M.2.1 pc = .ok (.istore_n n, 1)) (hn : (n : Nat) < M.2.2.1) (hno : noL ls (n : Nat) = true) (k : Ex G d rc rs M (pc + 1) (ls.set (n : Nat) (vi x)) st hp sz Q) : Ex G d rc rs M pc ls (vi x :: st) hp sz Q := by
  intro p l e R s m args below meth c H locs cells slots lsR C h1 h2 h3 h4 h5
  exact lv_istore_n C.1 C.2.1 hd rfl h5 hn rfl (fun ls' h' => k p l e R s m args below meth c H locs cells slots ls' C h1 h2 h3 h4 (lh_set hno h'))
theorem x_astore {i : Nat} {x : Nat} (hd : decode M.2.1 pc = .ok (.astore i, 2)) (hn : i < M.2.2.1) (hno : noL ls i = true) (k : Ex G d rc rs M (pc + 2) (ls.set i (vr x)) st hp sz Q) : Ex G d rc rs M pc ls (vr x :: st) hp sz Q := by
  intro p l e R s m args below meth c H locs cells slots lsR C h1 h2 h3 h4 h5
  exact lv_astore C.1 C.2.1 hd h5 hn rfl (fun ls' h' => k p l e R s m args below meth c H locs cells slots ls' C h1 h2 h3 h4 (lh_set hno h'))
theorem x_astore_n {n : Fin 4} {x : Nat} (hd : decode M.2.1 pc = .ok (.astore_n n, 1)) (hn : (n : Nat) < M.2.2.1) (hno : noL ls (n : Nat) = true) (k : Ex G d rc rs M (pc + 1) (ls.set (n : Nat) (vr x)) st hp sz Q) : Ex G d rc rs M pc ls (vr x :: st) hp sz Q := by
  intro p l e R s m args below meth c H locs cells slots lsR C h1 h2 h3 h4 h5
  exact lv_astore_n C.1 C.2.1 hd rfl h5 hn rfl (fun ls' h' => k p l e R s m args below meth c H locs cells slots ls' C h1 h2 h3 h4 (lh_set hno h'))
theorem x_lstore {i : Nat} {x : Int} (hd : decode M.2.1 pc = .ok (.lstore i, 2)) (hn : i + 1 < M.2.2.1) (hno : noL ls i = true) (k : Ex G d rc rs M (pc + 2) ((ls.set i (vl x)).set (i + 1) vu) st hp sz Q) : Ex G d rc rs M pc ls (vl x :: st) hp sz Q := by
  intro p l e R s m args below meth c H locs cells slots lsR C h1 h2 h3 h4 h5
  exact lv_lstore C.1 C.2.1 hd h5 hn rfl (fun ls' h' => k p l e R s m args below meth c H locs cells slots ls' C h1 h2 h3 h4 (lh_setl hno h'))
theorem x_iinc {i : Nat} {n x : Int} (hd : decode M.2.1 pc = .ok (.iinc i n, 3)) (hl : ls[i]? = some (vi x)) (hn : i < M.2.2.1) (hno : noL ls i = true) (k : Ex G d rc rs M (pc + 3) (ls.set i (vi (x + n))) st hp sz Q) : Ex G d rc rs M pc ls st hp sz Q := by
  intro p l e R s m args below meth c H locs cells slots lsR C h1 h2 h3 h4 h5
  have hm : (i, cv G (vi x)) ∈ prs G 0 ls := (prs_mem ls 0 (i, cv G (vi x))).mpr ⟨vi x, Nat.zero_le _, hl, rfl, rfl⟩
  obtain ⟨j, hj⟩ := List.getElem?_of_mem hm
  exact lv_iinc C.1 C.2.1 hd h5 hj (v := Int32.ofInt (x + n)) (by rw [Int32.ofInt_add]) hn rfl (fun ls' h' => k p l e R s m args below meth c H locs cells slots ls' C h1 h2 h3 h4 (lh_set (v := vi (x + n)) hno h'))
theorem x_iconst {n : Int} (hd : decode M.2.1 pc = .ok (.iconst n, 1)) (k : Ex G d rc rs M (pc + 1) ls (vi n :: st) hp sz Q) : Ex G d rc rs M pc ls st hp sz Q := by
  intro p l e R s m args below meth c H locs cells slots lsR C h1 h2 h3 h4 h5
  exact lv_iconst C.1 C.2.1 hd rfl (k p l e R s m args below meth c H locs cells slots lsR C h1 h2 h3 h4 h5)
theorem x_bipush {n : Int} (hd : decode M.2.1 pc = .ok (.bipush n, 2)) (hn : -128 ≤ n ∧ n < 128) (k : Ex G d rc rs M (pc + 2) ls (vi n :: st) hp sz Q) : Ex G d rc rs M pc ls st hp sz Q := by
  intro p l e R s m args below meth c H locs cells slots lsR C h1 h2 h3 h4 h5
  exact lv_bipush C.1 C.2.1 hd (oi_8 hn) (k p l e R s m args below meth c H locs cells slots lsR C h1 h2 h3 h4 h5)
theorem x_sipush {n : Int} (hd : decode M.2.1 pc = .ok (.sipush n, 3)) (hn : -32768 ≤ n ∧ n < 32768) (k : Ex G d rc rs M (pc + 3) ls (vi n :: st) hp sz Q) : Ex G d rc rs M pc ls st hp sz Q := by
  intro p l e R s m args below meth c H locs cells slots lsR C h1 h2 h3 h4 h5
  exact lv_sipush C.1 C.2.1 hd (oi_16 hn) (k p l e R s m args below meth c H locs cells slots lsR C h1 h2 h3 h4 h5)
theorem x_lconst {n : Fin 2} (hd : decode M.2.1 pc = .ok (.lconst n, 1)) (k : Ex G d rc rs M (pc + 1) ls (vl ((n : Nat) : Int) :: st) hp sz Q) : Ex G d rc rs M pc ls st hp sz Q := by
  intro p l e R s m args below meth c H locs cells slots lsR C h1 h2 h3 h4 h5
  exact lv_lconst C.1 C.2.1 hd (by first | rfl | (match n with | 0 => decide +kernel | 1 => decide +kernel)) (k p l e R s m args below meth c H locs cells slots lsR C h1 h2 h3 h4 h5)
theorem x_goto {off : Int} {tgt : Nat} (hd : decode M.2.1 pc = .ok (.goto off, 3)) (ht : (pc : Int) + off = (tgt : Int)) (k : Ex G d rc rs M tgt ls st hp sz Q) : Ex G d rc rs M pc ls st hp sz Q := by
  intro p l e R s m args below meth c H locs cells slots lsR C h1 h2 h3 h4 h5
  exact lv_goto C.1 C.2.1 hd ht (k p l e R s m args below meth c H locs cells slots lsR C h1 h2 h3 h4 h5)
theorem x_dupi {x : Int} (hd : decode M.2.1 pc = .ok (.dup, 1)) (k : Ex G d rc rs M (pc + 1) ls (vi x :: vi x :: st) hp sz Q) : Ex G d rc rs M pc ls (vi x :: st) hp sz Q := by
  intro p l e R s m args below meth c H locs cells slots lsR C h1 h2 h3 h4 h5
  exact lv_dup C.1 C.2.1 hd rfl (k p l e R s m args below meth c H locs cells slots lsR C h1 h2 h3 h4 h5)
theorem x_dupr {x : Nat} (hd : decode M.2.1 pc = .ok (.dup, 1)) (k : Ex G d rc rs M (pc + 1) ls (vr x :: vr x :: st) hp sz Q) : Ex G d rc rs M pc ls (vr x :: st) hp sz Q := by
  intro p l e R s m args below meth c H locs cells slots lsR C h1 h2 h3 h4 h5
  exact lv_dup C.1 C.2.1 hd rfl (k p l e R s m args below meth c H locs cells slots lsR C h1 h2 h3 h4 h5)
theorem x_popi {x : Int} (hd : decode M.2.1 pc = .ok (.pop, 1)) (k : Ex G d rc rs M (pc + 1) ls st hp sz Q) : Ex G d rc rs M pc ls (vi x :: st) hp sz Q := by
  intro p l e R s m args below meth c H locs cells slots lsR C h1 h2 h3 h4 h5
  exact lv_pop C.1 C.2.1 hd rfl (k p l e R s m args below meth c H locs cells slots lsR C h1 h2 h3 h4 h5)
theorem x_iadd {x y : Int} (hd : decode M.2.1 pc = .ok (.iadd, 1)) (k : Ex G d rc rs M (pc + 1) ls (vi (x + y) :: st) hp sz Q) : Ex G d rc rs M pc ls (vi y :: vi x :: st) hp sz Q := by
  intro p l e R s m args below meth c H locs cells slots lsR C h1 h2 h3 h4 h5
  refine lv_iadd C.1 C.2.1 hd ?_
  rw [← Int32.ofInt_add]
  exact k p l e R s m args below meth c H locs cells slots lsR C h1 h2 h3 h4 h5
theorem x_isub {x y : Int} (hd : decode M.2.1 pc = .ok (.isub, 1)) (k : Ex G d rc rs M (pc + 1) ls (vi (x - y) :: st) hp sz Q) : Ex G d rc rs M pc ls (vi y :: vi x :: st) hp sz Q := by
  intro p l e R s m args below meth c H locs cells slots lsR C h1 h2 h3 h4 h5
  refine lv_isub C.1 C.2.1 hd ?_
  rw [← Int32.ofInt_sub]
  exact k p l e R s m args below meth c H locs cells slots lsR C h1 h2 h3 h4 h5
theorem x_imul {x y : Int} (hd : decode M.2.1 pc = .ok (.imul, 1)) (k : Ex G d rc rs M (pc + 1) ls (vi (x * y) :: st) hp sz Q) : Ex G d rc rs M pc ls (vi y :: vi x :: st) hp sz Q := by
  intro p l e R s m args below meth c H locs cells slots lsR C h1 h2 h3 h4 h5
  refine lv_imul C.1 C.2.1 hd ?_
  rw [← Int32.ofInt_mul]
  exact k p l e R s m args below meth c H locs cells slots lsR C h1 h2 h3 h4 h5
theorem x_lsub {x y : Int} (hd : decode M.2.1 pc = .ok (.lsub, 1)) (k : Ex G d rc rs M (pc + 1) ls (vl (x - y) :: st) hp sz Q) : Ex G d rc rs M pc ls (vl y :: vl x :: st) hp sz Q := by
  intro p l e R s m args below meth c H locs cells slots lsR C h1 h2 h3 h4 h5
  refine lv_lsub C.1 C.2.1 hd ?_
  rw [← Int64.ofInt_sub]
  exact k p l e R s m args below meth c H locs cells slots lsR C h1 h2 h3 h4 h5
theorem x_lmul {x y : Int} (hd : decode M.2.1 pc = .ok (.lmul, 1)) (k : Ex G d rc rs M (pc + 1) ls (vl (x * y) :: st) hp sz Q) : Ex G d rc rs M pc ls (vl y :: vl x :: st) hp sz Q := by
  intro p l e R s m args below meth c H locs cells slots lsR C h1 h2 h3 h4 h5
  refine lv_lmul C.1 C.2.1 hd ?_
  rw [← Int64.ofInt_mul]
  exact k p l e R s m args below meth c H locs cells slots lsR C h1 h2 h3 h4 h5
theorem x_ineg {x : Int} (hd : decode M.2.1 pc = .ok (.ineg, 1)) (k : Ex G d rc rs M (pc + 1) ls (vi (-x) :: st) hp sz Q) : Ex G d rc rs M pc ls (vi x :: st) hp sz Q := by
  intro p l e R s m args below meth c H locs cells slots lsR C h1 h2 h3 h4 h5
  refine lv_ineg C.1 C.2.1 hd ?_
  rw [← Int32.ofInt_neg]
  exact k p l e R s m args below meth c H locs cells slots lsR C h1 h2 h3 h4 h5
theorem x_lneg {x : Int} (hd : decode M.2.1 pc = .ok (.lneg, 1)) (k : Ex G d rc rs M (pc + 1) ls (vl (-x) :: st) hp sz Q) : Ex G d rc rs M pc ls (vl x :: st) hp sz Q := by
  intro p l e R s m args below meth c H locs cells slots lsR C h1 h2 h3 h4 h5
  refine lv_lneg C.1 C.2.1 hd ?_
  rw [← Int64.ofInt_neg]
  exact k p l e R s m args below meth c H locs cells slots lsR C h1 h2 h3 h4 h5
theorem x_idiv {x y : Int} (hd : decode M.2.1 pc = .ok (.idiv, 1)) (hx : -2147483648 ≤ x ∧ x < 2147483648) (hy : 0 < y ∧ y < 2147483648) (k : Ex G d rc rs M (pc + 1) ls (vi (x.tdiv y) :: st) hp sz Q) : Ex G d rc rs M pc ls (vi y :: vi x :: st) hp sz Q := by
  intro p l e R s m args below meth c H locs cells slots lsR C h1 h2 h3 h4 h5
  refine lv_idiv C.1 C.2.1 hd (fun h => ?_) ?_
  · rw [← oi_0, oi_eq (by omega) (by omega)] at h
    omega
  · rw [oi_div hx hy]
    exact k p l e R s m args below meth c H locs cells slots lsR C h1 h2 h3 h4 h5
theorem x_irem {x y : Int} (hd : decode M.2.1 pc = .ok (.irem, 1)) (hx : -2147483648 ≤ x ∧ x < 2147483648) (hy : 0 < y ∧ y < 2147483648) (k : Ex G d rc rs M (pc + 1) ls (vi (x.tmod y) :: st) hp sz Q) : Ex G d rc rs M pc ls (vi y :: vi x :: st) hp sz Q := by
  intro p l e R s m args below meth c H locs cells slots lsR C h1 h2 h3 h4 h5
  refine lv_irem C.1 C.2.1 hd (fun h => ?_) ?_
  · rw [← oi_0, oi_eq (by omega) (by omega)] at h
    omega
  · rw [oi_rem hx hy]
    exact k p l e R s m args below meth c H locs cells slots lsR C h1 h2 h3 h4 h5
theorem x_ldiv {x y : Int} (hd : decode M.2.1 pc = .ok (.ldiv, 1)) (hx : -9223372036854775808 < x ∧ x < 9223372036854775808) (hy : -9223372036854775808 ≤ y ∧ y < 9223372036854775808) (h0 : y ≠ 0) (k : Ex G d rc rs M (pc + 1) ls (vl (x.tdiv y) :: st) hp sz Q) : Ex G d rc rs M pc ls (vl y :: vl x :: st) hp sz Q := by
  intro p l e R s m args below meth c H locs cells slots lsR C h1 h2 h3 h4 h5
  refine lv_ldiv C.1 C.2.1 hd (fun h => ?_) ?_
  · rw [show (0 : Int64) = Int64.ofInt 0 by decide +kernel, ol_eq (by omega) (by omega)] at h
    omega
  · rw [ol_div hx hy h0]
    exact k p l e R s m args below meth c H locs cells slots lsR C h1 h2 h3 h4 h5
theorem x_lcmp {x y : Int} (hd : decode M.2.1 pc = .ok (.lcmp, 1)) (hx : -9223372036854775808 ≤ x ∧ x < 9223372036854775808) (hy : -9223372036854775808 ≤ y ∧ y < 9223372036854775808) (k : Ex G d rc rs M (pc + 1) ls (vi (lc x y) :: st) hp sz Q) : Ex G d rc rs M pc ls (vl y :: vl x :: st) hp sz Q := by
  intro p l e R s m args below meth c H locs cells slots lsR C h1 h2 h3 h4 h5
  refine W.lcmp C.1 C.2.1 hd ?_
  rw [lc_cmp hx hy]
  exact k p l e R s m args below meth c H locs cells slots lsR C h1 h2 h3 h4 h5
theorem x_ishr {x y : Int} (hd : decode M.2.1 pc = .ok (.ishr, 1)) (hx : -2147483648 ≤ x ∧ x < 2147483648) (hy : 0 ≤ y ∧ y < 32) (k : Ex G d rc rs M (pc + 1) ls (vi (x / 2 ^ y.toNat) :: st) hp sz Q) : Ex G d rc rs M pc ls (vi y :: vi x :: st) hp sz Q := by
  intro p l e R s m args below meth c H locs cells slots lsR C h1 h2 h3 h4 h5
  refine lv_ishr C.1 C.2.1 hd ?_
  rw [oi_shr hx hy.1 hy.2]
  exact k p l e R s m args below meth c H locs cells slots lsR C h1 h2 h3 h4 h5
theorem x_ishl1 {y : Int} (hd : decode M.2.1 pc = .ok (.ishl, 1)) (hy : 0 ≤ y ∧ y < 31) (k : Ex G d rc rs M (pc + 1) ls (vi (2 ^ y.toNat) :: st) hp sz Q) : Ex G d rc rs M pc ls (vi y :: vi 1 :: st) hp sz Q := by
  intro p l e R s m args below meth c H locs cells slots lsR C h1 h2 h3 h4 h5
  refine lv_ishl C.1 C.2.1 hd ?_
  have h9 := oi_shl1 y.toNat (by omega)
  rw [show ((y.toNat : Nat) : Int) = y by omega] at h9
  rw [show Int32.ofInt 1 = 1 by decide +kernel, h9]
  exact k p l e R s m args below meth c H locs cells slots lsR C h1 h2 h3 h4 h5
theorem x_iand {x y : Int} (j : Nat) (hd : decode M.2.1 pc = .ok (.iand, 1)) (hj : j ≤ 31) (hy : (Int32.ofInt y).toBitVec.toNat = 2 ^ j - 1) (k : Ex G d rc rs M (pc + 1) ls (vi (x % 2 ^ j) :: st) hp sz Q) : Ex G d rc rs M pc ls (vi y :: vi x :: st) hp sz Q := by
  intro p l e R s m args below meth c H locs cells slots lsR C h1 h2 h3 h4 h5
  refine lv_iand C.1 C.2.1 hd ?_
  rw [oi_and j hj hy]
  exact k p l e R s m args below meth c H locs cells slots lsR C h1 h2 h3 h4 h5
theorem x_ixor {x y : Int} (hd : decode M.2.1 pc = .ok (.ixor, 1)) (k : Ex G d rc rs M (pc + 1) ls (vi (xr x y) :: st) hp sz Q) : Ex G d rc rs M pc ls (vi y :: vi x :: st) hp sz Q := by
  intro p l e R s m args below meth c H locs cells slots lsR C h1 h2 h3 h4 h5
  refine lv_ixor C.1 C.2.1 hd ?_
  rw [oi_xr]
  exact k p l e R s m args below meth c H locs cells slots lsR C h1 h2 h3 h4 h5
theorem x_i2b {x : Int} (hd : decode M.2.1 pc = .ok (.i2b, 1)) (hx : -128 ≤ x ∧ x < 128) (k : Ex G d rc rs M (pc + 1) ls (vi x :: st) hp sz Q) : Ex G d rc rs M pc ls (vi x :: st) hp sz Q := by
  intro p l e R s m args below meth c H locs cells slots lsR C h1 h2 h3 h4 h5
  exact lv_i2b C.1 C.2.1 hd (oi_b hx) (k p l e R s m args below meth c H locs cells slots lsR C h1 h2 h3 h4 h5)
theorem x_icmp_ge {x y : Int} {off : Int} {tgt : Nat} (hd : decode M.2.1 pc = .ok (.if_icmp .ge off, 3)) (ht : (pc : Int) + off = (tgt : Int)) (hx : -2147483648 ≤ x ∧ x < 2147483648) (hy : -2147483648 ≤ y ∧ y < 2147483648) (kt : y ≤ x → Ex G d rc rs M tgt ls st hp sz Q) (kf : x < y → Ex G d rc rs M (pc + 3) ls st hp sz Q) : Ex G d rc rs M pc ls (vi y :: vi x :: st) hp sz Q := by
  intro p l e R s m args below meth c H locs cells slots lsR C h1 h2 h3 h4 h5
  refine lv_icmp_ge C.1 C.2.1 hd ht (fun h => kt ((oi_le hy hx).mp h) p l e R s m args below meth c H locs cells slots lsR C h1 h2 h3 h4 h5) (fun h => kf (by have h9 := h; rw [oi_le hy hx] at h9; omega) p l e R s m args below meth c H locs cells slots lsR C h1 h2 h3 h4 h5)
theorem x_if_ge {x : Int} {off : Int} {tgt : Nat} (hd : decode M.2.1 pc = .ok (.ifCond .ge off, 3)) (ht : (pc : Int) + off = (tgt : Int)) (hx : -2147483648 ≤ x ∧ x < 2147483648) (kt : 0 ≤ x → Ex G d rc rs M tgt ls st hp sz Q) (kf : x < 0 → Ex G d rc rs M (pc + 3) ls st hp sz Q) : Ex G d rc rs M pc ls (vi x :: st) hp sz Q := by
  intro p l e R s m args below meth c H locs cells slots lsR C h1 h2 h3 h4 h5
  have h0 : -2147483648 ≤ (0 : Int) ∧ (0 : Int) < 2147483648 := by omega
  refine lv_if_ge C.1 C.2.1 hd ht (fun h => kt (by have h9 := h; rw [← oi_0] at h9; exact (oi_le h0 hx).mp h9) p l e R s m args below meth c H locs cells slots lsR C h1 h2 h3 h4 h5) (fun h => kf (by have h9 := h; rw [← oi_0, oi_le h0 hx] at h9; omega) p l e R s m args below meth c H locs cells slots lsR C h1 h2 h3 h4 h5)
theorem x_icmp_lt {x y : Int} {off : Int} {tgt : Nat} (hd : decode M.2.1 pc = .ok (.if_icmp .lt off, 3)) (ht : (pc : Int) + off = (tgt : Int)) (hx : -2147483648 ≤ x ∧ x < 2147483648) (hy : -2147483648 ≤ y ∧ y < 2147483648) (kt : x < y → Ex G d rc rs M tgt ls st hp sz Q) (kf : y ≤ x → Ex G d rc rs M (pc + 3) ls st hp sz Q) : Ex G d rc rs M pc ls (vi y :: vi x :: st) hp sz Q := by
  intro p l e R s m args below meth c H locs cells slots lsR C h1 h2 h3 h4 h5
  refine lv_icmp_lt C.1 C.2.1 hd ht (fun h => kt ((oi_lt hx hy).mp h) p l e R s m args below meth c H locs cells slots lsR C h1 h2 h3 h4 h5) (fun h => kf (by have h9 := h; rw [oi_lt hx hy] at h9; omega) p l e R s m args below meth c H locs cells slots lsR C h1 h2 h3 h4 h5)
theorem x_if_lt {x : Int} {off : Int} {tgt : Nat} (hd : decode M.2.1 pc = .ok (.ifCond .lt off, 3)) (ht : (pc : Int) + off = (tgt : Int)) (hx : -2147483648 ≤ x ∧ x < 2147483648) (kt : x < 0 → Ex G d rc rs M tgt ls st hp sz Q) (kf : 0 ≤ x → Ex G d rc rs M (pc + 3) ls st hp sz Q) : Ex G d rc rs M pc ls (vi x :: st) hp sz Q := by
  intro p l e R s m args below meth c H locs cells slots lsR C h1 h2 h3 h4 h5
  have h0 : -2147483648 ≤ (0 : Int) ∧ (0 : Int) < 2147483648 := by omega
  refine lv_if_lt C.1 C.2.1 hd ht (fun h => kt (by have h9 := h; rw [← oi_0] at h9; exact (oi_lt hx h0).mp h9) p l e R s m args below meth c H locs cells slots lsR C h1 h2 h3 h4 h5) (fun h => kf (by have h9 := h; rw [← oi_0, oi_lt hx h0] at h9; omega) p l e R s m args below meth c H locs cells slots lsR C h1 h2 h3 h4 h5)
theorem x_icmp_le {x y : Int} {off : Int} {tgt : Nat} (hd : decode M.2.1 pc = .ok (.if_icmp .le off, 3)) (ht : (pc : Int) + off = (tgt : Int)) (hx : -2147483648 ≤ x ∧ x < 2147483648) (hy : -2147483648 ≤ y ∧ y < 2147483648) (kt : x ≤ y → Ex G d rc rs M tgt ls st hp sz Q) (kf : y < x → Ex G d rc rs M (pc + 3) ls st hp sz Q) : Ex G d rc rs M pc ls (vi y :: vi x :: st) hp sz Q := by
  intro p l e R s m args below meth c H locs cells slots lsR C h1 h2 h3 h4 h5
  refine lv_icmp_le C.1 C.2.1 hd ht (fun h => kt ((oi_le hx hy).mp h) p l e R s m args below meth c H locs cells slots lsR C h1 h2 h3 h4 h5) (fun h => kf (by have h9 := h; rw [oi_le hx hy] at h9; omega) p l e R s m args below meth c H locs cells slots lsR C h1 h2 h3 h4 h5)
theorem x_if_le {x : Int} {off : Int} {tgt : Nat} (hd : decode M.2.1 pc = .ok (.ifCond .le off, 3)) (ht : (pc : Int) + off = (tgt : Int)) (hx : -2147483648 ≤ x ∧ x < 2147483648) (kt : x ≤ 0 → Ex G d rc rs M tgt ls st hp sz Q) (kf : 0 < x → Ex G d rc rs M (pc + 3) ls st hp sz Q) : Ex G d rc rs M pc ls (vi x :: st) hp sz Q := by
  intro p l e R s m args below meth c H locs cells slots lsR C h1 h2 h3 h4 h5
  have h0 : -2147483648 ≤ (0 : Int) ∧ (0 : Int) < 2147483648 := by omega
  refine lv_if_le C.1 C.2.1 hd ht (fun h => kt (by have h9 := h; rw [← oi_0] at h9; exact (oi_le hx h0).mp h9) p l e R s m args below meth c H locs cells slots lsR C h1 h2 h3 h4 h5) (fun h => kf (by have h9 := h; rw [← oi_0, oi_le hx h0] at h9; omega) p l e R s m args below meth c H locs cells slots lsR C h1 h2 h3 h4 h5)
theorem x_icmp_gt {x y : Int} {off : Int} {tgt : Nat} (hd : decode M.2.1 pc = .ok (.if_icmp .gt off, 3)) (ht : (pc : Int) + off = (tgt : Int)) (hx : -2147483648 ≤ x ∧ x < 2147483648) (hy : -2147483648 ≤ y ∧ y < 2147483648) (kt : y < x → Ex G d rc rs M tgt ls st hp sz Q) (kf : x ≤ y → Ex G d rc rs M (pc + 3) ls st hp sz Q) : Ex G d rc rs M pc ls (vi y :: vi x :: st) hp sz Q := by
  intro p l e R s m args below meth c H locs cells slots lsR C h1 h2 h3 h4 h5
  refine lv_icmp_gt C.1 C.2.1 hd ht (fun h => kt ((oi_lt hy hx).mp h) p l e R s m args below meth c H locs cells slots lsR C h1 h2 h3 h4 h5) (fun h => kf (by have h9 := h; rw [oi_lt hy hx] at h9; omega) p l e R s m args below meth c H locs cells slots lsR C h1 h2 h3 h4 h5)
theorem x_if_gt {x : Int} {off : Int} {tgt : Nat} (hd : decode M.2.1 pc = .ok (.ifCond .gt off, 3)) (ht : (pc : Int) + off = (tgt : Int)) (hx : -2147483648 ≤ x ∧ x < 2147483648) (kt : 0 < x → Ex G d rc rs M tgt ls st hp sz Q) (kf : x ≤ 0 → Ex G d rc rs M (pc + 3) ls st hp sz Q) : Ex G d rc rs M pc ls (vi x :: st) hp sz Q := by
  intro p l e R s m args below meth c H locs cells slots lsR C h1 h2 h3 h4 h5
  have h0 : -2147483648 ≤ (0 : Int) ∧ (0 : Int) < 2147483648 := by omega
  refine lv_if_gt C.1 C.2.1 hd ht (fun h => kt (by have h9 := h; rw [← oi_0] at h9; exact (oi_lt h0 hx).mp h9) p l e R s m args below meth c H locs cells slots lsR C h1 h2 h3 h4 h5) (fun h => kf (by have h9 := h; rw [← oi_0, oi_lt h0 hx] at h9; omega) p l e R s m args below meth c H locs cells slots lsR C h1 h2 h3 h4 h5)
theorem x_icmp_eq {x y : Int} {off : Int} {tgt : Nat} (hd : decode M.2.1 pc = .ok (.if_icmp .eq off, 3)) (ht : (pc : Int) + off = (tgt : Int)) (hx : -2147483648 ≤ x ∧ x < 2147483648) (hy : -2147483648 ≤ y ∧ y < 2147483648) (kt : x = y → Ex G d rc rs M tgt ls st hp sz Q) (kf : x ≠ y → Ex G d rc rs M (pc + 3) ls st hp sz Q) : Ex G d rc rs M pc ls (vi y :: vi x :: st) hp sz Q := by
  intro p l e R s m args below meth c H locs cells slots lsR C h1 h2 h3 h4 h5
  refine lv_icmp_eq C.1 C.2.1 hd ht (fun h => kt ((oi_eq hx hy).mp h) p l e R s m args below meth c H locs cells slots lsR C h1 h2 h3 h4 h5) (fun h => kf (fun z => h ((oi_eq hx hy).mpr z)) p l e R s m args below meth c H locs cells slots lsR C h1 h2 h3 h4 h5)
theorem x_if_eq {x : Int} {off : Int} {tgt : Nat} (hd : decode M.2.1 pc = .ok (.ifCond .eq off, 3)) (ht : (pc : Int) + off = (tgt : Int)) (hx : -2147483648 ≤ x ∧ x < 2147483648) (kt : x = 0 → Ex G d rc rs M tgt ls st hp sz Q) (kf : x ≠ 0 → Ex G d rc rs M (pc + 3) ls st hp sz Q) : Ex G d rc rs M pc ls (vi x :: st) hp sz Q := by
  intro p l e R s m args below meth c H locs cells slots lsR C h1 h2 h3 h4 h5
  have h0 : -2147483648 ≤ (0 : Int) ∧ (0 : Int) < 2147483648 := by omega
  refine lv_if_eq C.1 C.2.1 hd ht (fun h => kt (by have h9 := h; rw [← oi_0] at h9; exact (oi_eq hx h0).mp h9) p l e R s m args below meth c H locs cells slots lsR C h1 h2 h3 h4 h5) (fun h => kf (fun z => h (by rw [z]; exact oi_0)) p l e R s m args below meth c H locs cells slots lsR C h1 h2 h3 h4 h5)
theorem x_icmp_ne {x y : Int} {off : Int} {tgt : Nat} (hd : decode M.2.1 pc = .ok (.if_icmp .ne off, 3)) (ht : (pc : Int) + off = (tgt : Int)) (hx : -2147483648 ≤ x ∧ x < 2147483648) (hy : -2147483648 ≤ y ∧ y < 2147483648) (kt : x ≠ y → Ex G d rc rs M tgt ls st hp sz Q) (kf : x = y → Ex G d rc rs M (pc + 3) ls st hp sz Q) : Ex G d rc rs M pc ls (vi y :: vi x :: st) hp sz Q := by
  intro p l e R s m args below meth c H locs cells slots lsR C h1 h2 h3 h4 h5
  refine lv_icmp_ne C.1 C.2.1 hd ht (fun h => kt (fun z => h ((oi_eq hx hy).mpr z)) p l e R s m args below meth c H locs cells slots lsR C h1 h2 h3 h4 h5) (fun h => kf ((oi_eq hx hy).mp h) p l e R s m args below meth c H locs cells slots lsR C h1 h2 h3 h4 h5)
theorem x_if_ne {x : Int} {off : Int} {tgt : Nat} (hd : decode M.2.1 pc = .ok (.ifCond .ne off, 3)) (ht : (pc : Int) + off = (tgt : Int)) (hx : -2147483648 ≤ x ∧ x < 2147483648) (kt : x ≠ 0 → Ex G d rc rs M tgt ls st hp sz Q) (kf : x = 0 → Ex G d rc rs M (pc + 3) ls st hp sz Q) : Ex G d rc rs M pc ls (vi x :: st) hp sz Q := by
  intro p l e R s m args below meth c H locs cells slots lsR C h1 h2 h3 h4 h5
  have h0 : -2147483648 ≤ (0 : Int) ∧ (0 : Int) < 2147483648 := by omega
  refine lv_if_ne C.1 C.2.1 hd ht (fun h => kt (fun z => h (by rw [z]; exact oi_0)) p l e R s m args below meth c H locs cells slots lsR C h1 h2 h3 h4 h5) (fun h => kf ((oi_eq hx h0).mp (h.trans oi_0.symm)) p l e R s m args below meth c H locs cells slots lsR C h1 h2 h3 h4 h5)
theorem x_tableIn {dflt lo hi : Int} {offs : Array Int} {len : Nat} {x off : Int} {tgt : Nat} (hd : decode M.2.1 pc = .ok (.tableswitch dflt lo hi offs, len)) (hx : -2147483648 ≤ x ∧ x < 2147483648) (g1 : lo ≤ x) (g2 : x ≤ hi) (ho : offs[(x - lo).toNat]? = some off) (ht : (pc : Int) + off = (tgt : Int)) (k : Ex G d rc rs M tgt ls st hp sz Q) : Ex G d rc rs M pc ls (vi x :: st) hp sz Q := by
  intro p l e R s m args below meth c H locs cells slots lsR C h1 h2 h3 h4 h5
  exact lv_tableIn C.1 C.2.1 hd (by rw [oi hx]; omega) (by rw [oi hx]; omega) (by rw [oi hx]; exact ho) ht (k p l e R s m args below meth c H locs cells slots lsR C h1 h2 h3 h4 h5)
theorem x_tableOut {dflt lo hi : Int} {offs : Array Int} {len : Nat} {x : Int} {tgt : Nat} (hd : decode M.2.1 pc = .ok (.tableswitch dflt lo hi offs, len)) (hx : -2147483648 ≤ x ∧ x < 2147483648) (g : x < lo ∨ hi < x) (ht : (pc : Int) + dflt = (tgt : Int)) (k : Ex G d rc rs M tgt ls st hp sz Q) : Ex G d rc rs M pc ls (vi x :: st) hp sz Q := by
  intro p l e R s m args below meth c H locs cells slots lsR C h1 h2 h3 h4 h5
  exact lv_tableOut C.1 C.2.1 hd (by rw [oi hx]; exact g) ht (k p l e R s m args below meth c H locs cells slots lsR C h1 h2 h3 h4 h5)
theorem x_lookup {dflt : Int} {ps : Array (Int × Int)} {len : Nat} {x off : Int} {tgt : Nat} (hd : decode M.2.1 pc = .ok (.lookupswitch dflt ps, len)) (hp' : (ps.toList.zip (ps.toList.drop 1)).all (fun (a, next) => a.1 < next.1) = true) (hx : -2147483648 ≤ x ∧ x < 2147483648) (ho : Op.lookupswitch.offset ps.toList dflt x = off) (ht : (pc : Int) + off = (tgt : Int)) (k : Ex G d rc rs M tgt ls st hp sz Q) : Ex G d rc rs M pc ls (vi x :: st) hp sz Q := by
  intro p l e R s m args below meth c H locs cells slots lsR C h1 h2 h3 h4 h5
  exact lv_lookup C.1 C.2.1 hd hp' (by rw [oi hx]; exact ho) ht (k p l e R s m args below meth c H locs cells slots lsR C h1 h2 h3 h4 h5)
theorem x_dup2 {x : Int} {a : Nat} (hd : decode M.2.1 pc = .ok (.dup2, 1)) (k : Ex G d rc rs M (pc + 1) ls (vi x :: vr a :: vi x :: vr a :: st) hp sz Q) : Ex G d rc rs M pc ls (vi x :: vr a :: st) hp sz Q := by
  intro p l e R s m args below meth c H locs cells slots lsR C h1 h2 h3 h4 h5
  exact lv_dup2_11 C.1 C.2.1 hd rfl rfl (k p l e R s m args below meth c H locs cells slots lsR C h1 h2 h3 h4 h5)
end XR
end
section
section XH
variable {G : GL} {d rc rs : Nat} {M : MD} {pc : Nat} {ls st : List AV} {hp : HP} {sz : Nat} {Q : Option AV → HP → Nat → Prop}
theorem KK.arr {s : State} (h : KK G s) {k : Nat} {ty : FieldType} (hk : akinds[k]? = some ty) (n : Nat) (z : Nat → Value) : s.isArrayOf (arrV (G.2.2.1 k) n z) ty := (h.2.1 k ty hk).1 n z
theorem Cx.kk {p : Program} {s : State} {m : MethodId} {args : Array Value} {meth : Method} {c : Code} {R : Room} (C : Cx G d M p s m args meth c R) : KK G s := C.2.2.2.2.2.2.2.2.1
theorem Cx.own {p : Program} {s : State} {m : MethodId} {args : Array Value} {meth : Method} {c : Code} {R : Room} (C : Cx G d M p s m args meth c R) : s.vm.findClass M.1.cls = some m.cls := C.2.2.2.2.2.1
theorem Cx.word {p : Program} {s : State} {m : MethodId} {args : Array Value} {meth : Method} {c : Code} {R : Room} (C : Cx G d M p s m args meth c R) {w : Cond} (h : w ∈ lw_g) : w.before args s = true := C.2.2.2.2.2.2.2.1 w h
theorem ar_at {a k n : Nat} {f : Nat → Int} {H : Heap} (h : Rl G hp sz H) (hc : hp a = ar k n f) (ha : a < sz) : n < 2147483648 ∧ k < 4 ∧ H[ad G a]? = some (arrV (G.2.2.1 k) n (fun j => el k (f j))) := by
  have := h.at ha
  rw [hc] at this
  exact this
theorem rr_at {a k n : Nat} {f : Nat → Option Nat} {H : Heap} (h : Rl G hp sz H) (hc : hp a = rr k n f) (ha : a < sz) : n < 2147483648 ∧ 4 ≤ k ∧ k < 8 ∧ H[ad G a]? = some (arrV (G.2.2.1 k) n (fun j => va_rf ((f j).map (ad G)))) := by
  have := h.at ha
  rw [hc] at this
  exact this
theorem ad_ge {a : Nat} (h : a < sz) (hs : sz ≤ 700000) : (gH G).size ≤ ad G a := by rw [ad_lt h hs]; omega
theorem lo_add {locs : List Loc} {x i B : Nat} (h : ∀ q ∈ locs, B ≤ q.base) (hx : B ≤ x) : ∀ q ∈ locs ++ [⟨x, i⟩], B ≤ q.base := by
  intro q hq
  rcases List.mem_append.mp hq with h1 | h1
  · exact h q h1
  · rw [List.mem_singleton.mp h1]
    exact hx
theorem lo_app {locs L : List Loc} {B : Nat} (h : ∀ q ∈ locs, B ≤ q.base) (hx : ∀ q ∈ L, B ≤ q.base) : ∀ q ∈ locs ++ L, B ≤ q.base := by
  intro q hq
  rcases List.mem_append.mp hq with h1 | h1
  · exact h q h1
  · exact hx q h1
theorem x_iald {a n : Nat} {f : Nat → Int} {i : Int} (hd : decode M.2.1 pc = .ok (.iaload, 1)) (hc : hp a = ar 0 n f) (ha : a < sz) (i0 : 0 ≤ i) (i1 : i < n) (k : Ex G d rc rs M (pc + 1) ls (vi (f i.toNat) :: st) hp sz Q) : Ex G d rc rs M pc ls (vi i :: vr a :: st) hp sz Q := by
  intro p l e R s m args below meth c H locs cells slots lsR C h1 h2 h3 h4 h5
  obtain ⟨g1, -, g2⟩ := ar_at h3 hc ha
  exact W.iald (v := .int (Int32.ofInt (f i.toNat))) C.1 C.2.1 g2 (C.kk.arr rfl _ _) (fun q => by cases q) (by rw [arrV_size]; exact oi_in i0 i1 g1) (by rw [oi_cl i0 i1 g1, arrV_read _ _ (by omega)]; rfl) rfl rfl hd (k p l e R s m args below meth c H locs cells slots lsR C h1 h2 h3 h4 h5)
theorem x_lald {a n : Nat} {f : Nat → Int} {i : Int} (hd : decode M.2.1 pc = .ok (.laload, 1)) (hc : hp a = ar 1 n f) (ha : a < sz) (i0 : 0 ≤ i) (i1 : i < n) (k : Ex G d rc rs M (pc + 1) ls (vl (f i.toNat) :: st) hp sz Q) : Ex G d rc rs M pc ls (vi i :: vr a :: st) hp sz Q := by
  intro p l e R s m args below meth c H locs cells slots lsR C h1 h2 h3 h4 h5
  obtain ⟨g1, -, g2⟩ := ar_at h3 hc ha
  exact W.lald (v := .long (Int64.ofInt (f i.toNat))) C.1 C.2.1 g2 (C.kk.arr rfl _ _) (fun q => by cases q) (by rw [arrV_size]; exact oi_in i0 i1 g1) (by rw [oi_cl i0 i1 g1, arrV_read _ _ (by omega)]; rfl) rfl rfl hd (k p l e R s m args below meth c H locs cells slots lsR C h1 h2 h3 h4 h5)
theorem x_bald {a n : Nat} {f : Nat → Int} {i : Int} (hd : decode M.2.1 pc = .ok (.baload, 1)) (hc : hp a = ar 2 n f) (ha : a < sz) (i0 : 0 ≤ i) (i1 : i < n) (k : Ex G d rc rs M (pc + 1) ls (vi (f i.toNat) :: st) hp sz Q) : Ex G d rc rs M pc ls (vi i :: vr a :: st) hp sz Q := by
  intro p l e R s m args below meth c H locs cells slots lsR C h1 h2 h3 h4 h5
  obtain ⟨g1, -, g2⟩ := ar_at h3 hc ha
  exact W.bald (v := .int (Int32.ofInt (f i.toNat))) C.1 C.2.1 g2 (C.kk.arr rfl _ _) (fun q => by cases q) (by rw [arrV_size]; exact oi_in i0 i1 g1) (by rw [oi_cl i0 i1 g1, arrV_read _ _ (by omega)]; rfl) rfl rfl hd (k p l e R s m args below meth c H locs cells slots lsR C h1 h2 h3 h4 h5)
theorem x_zald {a n : Nat} {f : Nat → Int} {i : Int} (hd : decode M.2.1 pc = .ok (.baload, 1)) (hc : hp a = ar 3 n f) (ha : a < sz) (i0 : 0 ≤ i) (i1 : i < n) (k : Ex G d rc rs M (pc + 1) ls (vi (f i.toNat) :: st) hp sz Q) : Ex G d rc rs M pc ls (vi i :: vr a :: st) hp sz Q := by
  intro p l e R s m args below meth c H locs cells slots lsR C h1 h2 h3 h4 h5
  obtain ⟨g1, -, g2⟩ := ar_at h3 hc ha
  exact W.zald (v := .int (Int32.ofInt (f i.toNat))) C.1 C.2.1 g2 (C.kk.arr rfl _ _) (fun q => by cases q) (by rw [arrV_size]; exact oi_in i0 i1 g1) (by rw [oi_cl i0 i1 g1, arrV_read _ _ (by omega)]; rfl) rfl rfl hd (k p l e R s m args below meth c H locs cells slots lsR C h1 h2 h3 h4 h5)
theorem x_aald {a kk n b : Nat} {f : Nat → Option Nat} {i : Int} (hd : decode M.2.1 pc = .ok (.aaload, 1)) (hc : hp a = rr kk n f) (ha : a < sz) (i0 : 0 ≤ i) (i1 : i < n) (hb : f i.toNat = some b) (k : Ex G d rc rs M (pc + 1) ls (vr b :: st) hp sz Q) : Ex G d rc rs M pc ls (vi i :: vr a :: st) hp sz Q := by
  intro p l e R s m args below meth c H locs cells slots lsR C h1 h2 h3 h4 h5
  obtain ⟨g1, g4, g8, g2⟩ := rr_at h3 hc ha
  obtain ⟨ty, ht, hr⟩ : ∃ ty, akinds[kk]? = some ty ∧ ty.isReference = true := by
    rcases (show kk = 4 ∨ kk = 5 ∨ kk = 6 ∨ kk = 7 by omega) with rfl | rfl | rfl | rfl <;> exact ⟨_, rfl, rfl⟩
  exact W.aald (v := .ref (ad G b)) C.1 C.2.1 g2 (C.kk.arr ht _ _) hr (fun q => by cases q) (by rw [arrV_size]; exact oi_in i0 i1 g1) (by rw [oi_cl i0 i1 g1, arrV_read _ _ (by omega), hb]; rfl) rfl rfl hd (k p l e R s m args below meth c H locs cells slots lsR C h1 h2 h3 h4 h5)
theorem upd_el {n kk j : Nat} {f : Nat → Int} {x : Int} {cI : ClassId} : (arrV cI n (fun j => el kk (f j))).setSlot j (el kk x) = arrV cI n (fun q => el kk (up f j x q)) := by
  rw [arrV_store]
  congr 1
  funext q
  by_cases hq : q = j
  · subst hq
    simp [updV, up]
  · simp [updV, up, hq]
theorem x_iast {a n : Nat} {f : Nat → Int} {i x : Int} (hd : decode M.2.1 pc = .ok (.iastore, 1)) (hc : hp a = ar 0 n f) (ha : a < sz) (i0 : 0 ≤ i) (i1 : i < n) (k : Ex G d rc rs M (pc + 1) ls st (up hp a (ar 0 n (up f i.toNat x))) sz Q) : Ex G d rc rs M pc ls (vi x :: vi i :: vr a :: st) hp sz Q := by
  intro p l e R s m args below meth c H locs cells slots lsR C h1 h2 h3 h4 h5
  obtain ⟨g1, -, g2⟩ := ar_at h3 hc ha
  refine W.iast C.1 C.2.1 g2 (C.kk.arr rfl _ _) (fun q => by cases q) (by rw [arrV_size]; exact oi_in i0 i1 g1) rfl rfl hd (fun H' e1 z oq => ?_)
  refine k p l e R s m args below meth c H' _ cells slots lsR C h1 h2 (h3.set ha ⟨g1, (by dsimp only; decide), ?_⟩ z oq) (lo_add h4 (ad_ge ha h3.2.1)) h5
  rw [e1, oi_cl i0 i1 g1]
  exact congrArg some upd_el
theorem x_last {a n : Nat} {f : Nat → Int} {i x : Int} (hd : decode M.2.1 pc = .ok (.lastore, 1)) (hc : hp a = ar 1 n f) (ha : a < sz) (i0 : 0 ≤ i) (i1 : i < n) (k : Ex G d rc rs M (pc + 1) ls st (up hp a (ar 1 n (up f i.toNat x))) sz Q) : Ex G d rc rs M pc ls (vl x :: vi i :: vr a :: st) hp sz Q := by
  intro p l e R s m args below meth c H locs cells slots lsR C h1 h2 h3 h4 h5
  obtain ⟨g1, -, g2⟩ := ar_at h3 hc ha
  refine W.last C.1 C.2.1 g2 (C.kk.arr rfl _ _) (fun q => by cases q) (by rw [arrV_size]; exact oi_in i0 i1 g1) rfl rfl hd (fun H' e1 z oq => ?_)
  refine k p l e R s m args below meth c H' _ cells slots lsR C h1 h2 (h3.set ha ⟨g1, (by dsimp only; decide), ?_⟩ z oq) (lo_add h4 (ad_ge ha h3.2.1)) h5
  rw [e1, oi_cl i0 i1 g1]
  exact congrArg some upd_el
theorem x_bast {a n : Nat} {f : Nat → Int} {i x : Int} (hd : decode M.2.1 pc = .ok (.bastore, 1)) (hc : hp a = ar 2 n f) (ha : a < sz) (i0 : 0 ≤ i) (i1 : i < n) (hx : -128 ≤ x ∧ x < 128) (k : Ex G d rc rs M (pc + 1) ls st (up hp a (ar 2 n (up f i.toNat x))) sz Q) : Ex G d rc rs M pc ls (vi x :: vi i :: vr a :: st) hp sz Q := by
  intro p l e R s m args below meth c H locs cells slots lsR C h1 h2 h3 h4 h5
  obtain ⟨g1, -, g2⟩ := ar_at h3 hc ha
  refine W.bast C.1 C.2.1 g2 (C.kk.arr rfl _ _) (fun q => by cases q) (by rw [arrV_size]; exact oi_in i0 i1 g1) rfl rfl hd (fun H' e1 z oq => ?_)
  refine k p l e R s m args below meth c H' _ cells slots lsR C h1 h2 (h3.set ha ⟨g1, (by dsimp only; decide), ?_⟩ z oq) (lo_add h4 (ad_ge ha h3.2.1)) h5
  rw [e1, oi_cl i0 i1 g1, show narrow .byte (.int (Int32.ofInt x)) = el 2 x by rw [← oi_b hx, pk_nb, oi_b hx]; rfl]
  exact congrArg some upd_el
theorem x_zast {a n : Nat} {f : Nat → Int} {i x : Int} (hd : decode M.2.1 pc = .ok (.bastore, 1)) (hc : hp a = ar 3 n f) (ha : a < sz) (i0 : 0 ≤ i) (i1 : i < n) (hx : x = 0 ∨ x = 1) (k : Ex G d rc rs M (pc + 1) ls st (up hp a (ar 3 n (up f i.toNat x))) sz Q) : Ex G d rc rs M pc ls (vi x :: vi i :: vr a :: st) hp sz Q := by
  intro p l e R s m args below meth c H locs cells slots lsR C h1 h2 h3 h4 h5
  obtain ⟨g1, -, g2⟩ := ar_at h3 hc ha
  refine W.zast C.1 C.2.1 g2 (C.kk.arr rfl _ _) (fun q => by cases q) (by rw [arrV_size]; exact oi_in i0 i1 g1) rfl rfl hd (fun H' e1 z oq => ?_)
  refine k p l e R s m args below meth c H' _ cells slots lsR C h1 h2 (h3.set ha ⟨g1, (by dsimp only; decide), ?_⟩ z oq) (lo_add h4 (ad_ge ha h3.2.1)) h5
  rw [e1, oi_cl i0 i1 g1, show narrow .boolean (.int (Int32.ofInt x)) = el 3 x by rcases hx with rfl | rfl <;> decide +kernel]
  exact congrArg some upd_el
/-- a cell that an array of references of kind kk may hold -/
def asg (kk : Nat) (c : AC) : Prop := match c with
  | .inl o => kk = 4 ∧ o.1 = 0
  | .inr (.inl x) => kk = 5 + x.1
  | .inr (.inr _) => False
theorem assign_arr {s : State} {cA : ClassId} {k : Class} {comp : ClassId} {ty : FieldType} (hk : s.vm.classes[cA]? = some k) (hkind : k.kind = .array comp ty) : s.vm.assignable cA cA = true := by
  show Vm.assignableAux s.vm (255 + 1) cA cA = true
  rw [Vm.assignableAux]
  simp only [beq_self_eq_true, Bool.true_or]
theorem x_aast {a kk n b : Nat} {f : Nat → Option Nat} {i : Int} (hd : decode M.2.1 pc = .ok (.aastore, 1)) (hc : hp a = rr kk n f) (ha : a < sz) (i0 : 0 ≤ i) (i1 : i < n) (hb : b < sz) (hk : asg kk (hp b)) (k : Ex G d rc rs M (pc + 1) ls st (up hp a (rr kk n (up f i.toNat (some b)))) sz Q) : Ex G d rc rs M pc ls (vr b :: vi i :: vr a :: st) hp sz Q := by
  intro p l e R s m args below meth c H locs cells slots lsR C h1 h2 h3 h4 h5
  obtain ⟨g1, g4, g8, g2⟩ := rr_at h3 hc ha
  obtain ⟨ty, ht, hr⟩ : ∃ ty, akinds[kk]? = some ty ∧ ty.isReference = true := by
    rcases (show kk = 4 ∨ kk = 5 ∨ kk = 6 ∨ kk = 7 by omega) with rfl | rfl | rfl | rfl <;> exact ⟨_, rfl, rfl⟩
  obtain ⟨kA, a1, a2⟩ := C.kk.2.2.1 kk ty g4 ht
  have hbb := h3.at hb
  obtain ⟨cell, kC, b1, b2, b3, b4⟩ : ∃ (cell : Cell) (kC : Class), H[ad G b]? = some cell ∧ cell.vm = .none ∧ s.vm.classes[cell.cls]? = some kC ∧ cell.cls = (if kk = 4 then G.1 0 else G.2.2.1 (kk - 5)) ∧ s.vm.assignable cell.cls cell.cls = true := by
    rcases hx : hp b with o | x | x
    · rw [hx] at hk hbb
      obtain ⟨r, r1, cell, q1, q2, q3, -⟩ := hbb
      have hkn := (C.kk.1 o.1 r r1).2
      obtain ⟨kC, z1, -⟩ := hkn.2
      refine ⟨cell, kC, q1, q3, by rw [q2]; exact z1, by rw [q2, if_pos hk.1, hk.2], by rw [q2]; exact va_assign hkn⟩
    · rw [hx] at hk hbb
      obtain ⟨q0, q9, q1⟩ := hbb
      have hkk : kk = 5 + x.1 := hk
      obtain ⟨ty2, ht2⟩ : ∃ ty, akinds[x.1]? = some ty := by
        rcases (show x.1 = 0 ∨ x.1 = 1 ∨ x.1 = 2 ∨ x.1 = 3 by omega) with h | h | h | h <;> rw [h] <;> exact ⟨_, rfl⟩
      obtain ⟨-, kC, z1, cm, z2⟩ := C.kk.arr ht2 0 (fun _ => .null)
      have z1 : s.vm.classes[G.2.2.1 x.1]? = some kC := z1
      exact ⟨_, kC, q1, rfl, z1, by rw [if_neg (by omega), show kk - 5 = x.1 by omega]; rfl, assign_arr z1 z2⟩
    · rw [hx] at hk
      exact hk.elim
  refine W.aast C.1 C.2.1 g2 (fun q h => by cases h) (fun h => by cases h) a1 a2 hr (by rw [← b4.1]; exact b3) ⟨fun q => oi_in i0 i1 g1 (Or.inl q), by rw [arrV_size, oi_cl i0 i1 g1]; omega⟩ b1 (fun q h => by rw [b2] at h; cases h) b3 (by rw [← b4.1]; exact b4.2) rfl rfl hd (fun H' e1 z oq => ?_)
  refine k p l e R s m args below meth c H' _ cells slots lsR C h1 h2 (h3.set ha ⟨g1, g4, g8, ?_⟩ z oq) (lo_add h4 (ad_ge ha h3.2.1)) h5
  rw [e1, oi_cl i0 i1 g1, arrV_store]
  refine congrArg some (congrArg _ ?_)
  funext q
  by_cases hq : q = i.toNat
  · subst hq
    simp [updV, up, va_rf]
  · simp [updV, up, hq]
theorem x_alen {a kk n : Nat} {f : Nat → Int} (hd : decode M.2.1 pc = .ok (.arraylength, 1)) (hc : hp a = ar kk n f) (ha : a < sz) (k : Ex G d rc rs M (pc + 1) ls (vi n :: st) hp sz Q) : Ex G d rc rs M pc ls (vr a :: st) hp sz Q := by
  intro p l e R s m args below meth c H locs cells slots lsR C h1 h2 h3 h4 h5
  obtain ⟨g1, g4, g2⟩ := ar_at h3 hc ha
  obtain ⟨ty2, ht2⟩ : ∃ ty, akinds[kk]? = some ty := by
    rcases (show kk = 0 ∨ kk = 1 ∨ kk = 2 ∨ kk = 3 by omega) with rfl | rfl | rfl | rfl <;> exact ⟨_, rfl⟩
  exact W.alen (n := Int32.ofInt n) C.1 C.2.1 g2 (C.kk.arr ht2 _ _) (by rw [arrV_size, ← oi_nat] <;> rfl) rfl rfl hd (k p l e R s m args below meth c H locs cells slots lsR C h1 h2 h3 h4 h5)
/-- the outer arrays: the script (0) and the two rows of primes (1, 2) -/
theorem ad_ext {i : Nat} : ad G (1000000 + i) = G.2.2.2.2.1 i := by
  unfold ad
  rw [if_neg (by omega), Nat.add_sub_cancel_left]
theorem x_ialdX {j n : Nat} {f : Nat → Int} {i : Int} (hd : decode M.2.1 pc = .ok (.iaload, 1)) (hj : j < 3) (hc : hp (1000000 + j) = ar 0 n f) (i0 : 0 ≤ i) (i1 : i < n) (k : Ex G d rc rs M (pc + 1) ls (vi (f i.toNat) :: st) hp sz Q) : Ex G d rc rs M pc ls (vi i :: vr (1000000 + j) :: st) hp sz Q := by
  intro p l e R s m args below meth c H locs cells slots lsR C h1 h2 h3 h4 h5
  have he := h3.2.2.2.2 j hj
  rw [hc] at he
  obtain ⟨⟨scr, z1, z2, z3, z4, z5⟩, z6, z7⟩ := C.kk.2.2.2.1 j hj
  obtain ⟨e1, e2⟩ : n = (G.2.2.2.2.2 j).1 ∧ f = (G.2.2.2.2.2 j).2 := by
    have := Sum.inl.inj (Sum.inr.inj he)
    exact ⟨congrArg (fun q => q.2.1) this, congrArg (fun q => q.2.2) this⟩
  rw [← e1] at z4 z5 z7
  rw [← e2] at z5
  refine W.iald (v := .int (Int32.ofInt (f i.toNat))) C.1 C.2.1 (a := G.2.2.2.2.1 j) (by rw [h3.2.2.2.1 _ z6]; exact z1) z2 z3 (by rw [z4]; exact oi_in i0 i1 z7) (by rw [oi_cl i0 i1 z7]; exact z5 _ (by omega)) rfl (by show Value.int _ :: Value.ref (ad G (1000000 + j)) :: _ = _; rw [ad_ext]) hd ?_
  exact k p l e R s m args below meth c H locs cells slots lsR C h1 h2 h3 h4 h5
theorem x_alenX {j n : Nat} {f : Nat → Int} (hd : decode M.2.1 pc = .ok (.arraylength, 1)) (hj : j < 3) (hc : hp (1000000 + j) = ar 0 n f) (k : Ex G d rc rs M (pc + 1) ls (vi n :: st) hp sz Q) : Ex G d rc rs M pc ls (vr (1000000 + j) :: st) hp sz Q := by
  intro p l e R s m args below meth c H locs cells slots lsR C h1 h2 h3 h4 h5
  have he := h3.2.2.2.2 j hj
  rw [hc] at he
  obtain ⟨⟨scr, z1, z2, z3, z4, z5⟩, z6, z7⟩ := C.kk.2.2.2.1 j hj
  have e1 : n = (G.2.2.2.2.2 j).1 := congrArg (fun q => q.2.1) (Sum.inl.inj (Sum.inr.inj he))
  rw [← e1] at z4
  refine W.alen (n := Int32.ofInt n) C.1 C.2.1 (a := G.2.2.2.2.1 j) (by rw [h3.2.2.2.1 _ z6]; exact z1) z2 (by rw [z4, ← oi_nat] <;> rfl) rfl (by show Value.ref (ad G (1000000 + j)) :: _ = _; rw [ad_ext]) hd ?_
  exact k p l e R s m args below meth c H locs cells slots lsR C h1 h2 h3 h4 h5
end XH
end
section
theorem in_cls : ∀ (c : Nat) (q : vw_C), classesX[c]? = some q → ∀ w ∈ u_ws q.1 q.2.1 q.2.2, w ∈ lw_g := by
  intro c q h
  match c, h with
  | 0, h => cases h; exact fun w hw => mem_g ((show ∀ w ∈ u_ws RX0 TX0 3, w ∈ lw_tbl by decide +kernel) w hw) ((show ∀ w ∈ u_ws RX0 TX0 3, goodWord w = true by decide +kernel) w hw)
  | 1, h => cases h; exact fun w hw => mem_g ((show ∀ w ∈ u_ws RX1 TX1 4, w ∈ lw_tbl by decide +kernel) w hw) ((show ∀ w ∈ u_ws RX1 TX1 4, goodWord w = true by decide +kernel) w hw)
  | 2, h => cases h; exact fun w hw => mem_g ((show ∀ w ∈ u_ws RX2 TX2 7, w ∈ lw_tbl by decide +kernel) w hw) ((show ∀ w ∈ u_ws RX2 TX2 7, goodWord w = true by decide +kernel) w hw)
  | 3, h => cases h; exact fun w hw => mem_g ((show ∀ w ∈ u_ws RX3 TX3 5, w ∈ lw_tbl by decide +kernel) w hw) ((show ∀ w ∈ u_ws RX3 TX3 5, goodWord w = true by decide +kernel) w hw)
  | 4, h => cases h; exact fun w hw => mem_g ((show ∀ w ∈ u_ws RX4 TX4 3, w ∈ lw_tbl by decide +kernel) w hw) ((show ∀ w ∈ u_ws RX4 TX4 3, goodWord w = true by decide +kernel) w hw)
  | 5, h => cases h; exact fun w hw => mem_g ((show ∀ w ∈ u_ws RX5 TX5 5, w ∈ lw_tbl by decide +kernel) w hw) ((show ∀ w ∈ u_ws RX5 TX5 5, goodWord w = true by decide +kernel) w hw)
  | 6, h => cases h; exact fun w hw => mem_g ((show ∀ w ∈ u_ws RX6 TX6 10, w ∈ lw_tbl by decide +kernel) w hw) ((show ∀ w ∈ u_ws RX6 TX6 10, goodWord w = true by decide +kernel) w hw)
  | 7, h => cases h; exact fun w hw => mem_g ((show ∀ w ∈ u_ws RX7 TX7 24, w ∈ lw_tbl by decide +kernel) w hw) ((show ∀ w ∈ u_ws RX7 TX7 24, goodWord w = true by decide +kernel) w hw)
  | c + 8, h => simp [classesX] at h
theorem cls_ty : ∀ (c : Nat) (q : vw_C), classesX[c]? = some q → ∀ k, k < q.2.2 → parseFieldDescriptor (q.2.1 k).2.2.1 = some (tyOf c k) := by
  intro c q h
  match c, h with
  | 0, h => cases h; exact tyX0_ok
  | 1, h => cases h; exact tyX1_ok
  | 2, h => cases h; exact tyX2_ok
  | 3, h => cases h; exact tyX3_ok
  | 4, h => cases h; exact tyX4_ok
  | 5, h => cases h; exact tyX5_ok
  | 6, h => cases h; exact tyX6_ok
  | 7, h => cases h; exact tyX7_ok
  | c + 8, h => simp [classesX] at h
theorem cls_nm : ∀ (c : Nat) (q : vw_C), classesX[c]? = some q → ∀ a, a < q.2.2 → ∀ b, b < q.2.2 → a ≠ b → (q.2.1 a).2.1 ≠ (q.2.1 b).2.1 := by
  intro c q h
  match c, h with
  | 0, h => cases h; exact nmX0
  | 1, h => cases h; exact nmX1
  | 2, h => cases h; exact nmX2
  | 3, h => cases h; exact nmX3
  | 4, h => cases h; exact nmX4
  | 5, h => cases h; exact nmX5
  | 6, h => cases h; exact nmX6
  | 7, h => cases h; exact nmX7
  | c + 8, h => simp [classesX] at h
/-- the constant pool's entry idx of the class own is field k of class c -/
def FL (own : String) (idx c k : Nat) : Prop := ∃ q : vw_C, classesX[c]? = some q ∧ k < q.2.2 ∧ Cond.fieldLink own idx (q.2.1 k).1 (q.2.1 k).2.1 (q.2.1 k).2.2.1 ∈ lw_g
def FN (own : String) (idx c k : Nat) : Prop := ∃ (q : vw_C) (host : String), classesX[c]? = some q ∧ k < q.2.2 ∧ Cond.fieldLinkNest own idx (q.2.1 k).1 (q.2.1 k).2.1 (q.2.1 k).2.2.1 host ∈ lw_n
def FP (own : String) (idx c k : Nat) (fin : Bool) (ty : FieldType) : Prop := ∃ q : vw_C, classesX[c]? = some q ∧ k < q.2.2 ∧ Cond.fieldLink own idx (q.2.1 k).1 (q.2.1 k).2.1 (q.2.1 k).2.2.1 ∈ lw_g ∧ (q.2.1 k).2.2.2 = fin ∧ (q.2.1 k).1 = own ∧ tyOf c k = ty
section XO
variable {G : GL} {d rc rs : Nat} {M : MD} {pc : Nat} {ls st : List AV} {hp : HP} {sz : Nat} {Q : Option AV → HP → Nat → Prop}
theorem ob_at {a c : Nat} {fs : Nat → AV} {H : Heap} (h : Rl G hp sz H) (hc : hp a = ob c fs) (ha : a < sz) : ∃ r : vw_C, classesX[c]? = some r ∧ t_OB (ad G a) (G.1 c) r.2.2 (G.2.1 c) H (fun j => cv G (fs j)) := by
  have := h.at ha
  rw [hc] at this
  exact this
theorem x_get {a c j idx : Nat} {fs : Nat → AV} (hd : decode M.2.1 pc = .ok (.getfield idx, 3)) (hF : FL M.1.cls idx c j) (hc : hp a = ob c fs) (ha : a < sz) (k : Ex G d rc rs M (pc + 3) ls (fs j :: st) hp sz Q) : Ex G d rc rs M pc ls (vr a :: st) hp sz Q := by
  intro p l e R s m args below meth c H locs cells slots lsR C h1 h2 h3 h4 h5
  obtain ⟨q, f1, f2, f3⟩ := hF
  obtain ⟨r, r1, cell, q1, q2, q3, q4⟩ := ob_at h3 hc ha
  have hr : r = q := Option.some.inj (r1.symm.trans f1)
  subst hr
  obtain ⟨hS, hfc, kC, hkC, hkind⟩ := C.kk.1 _ _ f1
  obtain ⟨cf, kf, fi, f, hi, hsl⟩ := hS j f2
  refine W.getf C.1 C.2.1 C.own (C.word f3) hi (u_facts hfc hkC (u_lays (fun w hw => C.word hw) (in_cls _ _ f1) f2) hi).1 q1 (by rw [q3]; exact fun h => by cases h) (v := cv G (fs j)) ?_ rfl rfl hd (k p l e R s m args below meth c H locs cells slots lsR C h1 h2 h3 h4 h5)
  rw [hsl, q4 j f2]
theorem x_getN {a c j idx : Nat} {fs : Nat → AV} (hd : decode M.2.1 pc = .ok (.getfield idx, 3)) (hF : FN M.1.cls idx c j) (hc : hp a = ob c fs) (ha : a < sz) (k : Ex G d rc rs M (pc + 3) ls (fs j :: st) hp sz Q) : Ex G d rc rs M pc ls (vr a :: st) hp sz Q := by
  intro p l e R s m args below meth c H locs cells slots lsR C h1 h2 h3 h4 h5
  obtain ⟨q, host, f1, f2, f3⟩ := hF
  obtain ⟨r, r1, cell, q1, q2, q3, q4⟩ := ob_at h3 hc ha
  have hr : r = q := Option.some.inj (r1.symm.trans f1)
  subst hr
  obtain ⟨hS, hfc, kC, hkC, hkind⟩ := C.kk.1 _ _ f1
  obtain ⟨cf, kf, fi, f, hi, hsl⟩ := hS j f2
  refine va_Wgetf C.1 C.2.1 C.own (va_Nw.use rfl (C.kk.2.2.2.2.2.2.1 _ f3)) hi (u_facts hfc hkC (u_lays (fun w hw => C.word hw) (in_cls _ _ f1) f2) hi).1 q1 (by rw [q3]; exact fun h => by cases h) (v := cv G (fs j)) ?_ rfl rfl hd (k p l e R s m args below meth c H locs cells slots lsR C h1 h2 h3 h4 h5)
  rw [hsl, q4 j f2]
theorem fit_int (x : Int) : narrow .int (cv G (vi x)) = cv G (vi x) ∧ fits .int (cv G (vi x)) = true := ⟨rfl, rfl⟩
theorem fit_obj (C : String) (x : Nat) : narrow (.object C) (cv G (vr x)) = cv G (vr x) ∧ fits (.object C) (cv G (vr x)) = true := ⟨rfl, rfl⟩
theorem fit_arr (ty : FieldType) (x : Nat) : narrow (.array ty) (cv G (vr x)) = cv G (vr x) ∧ fits (.array ty) (cv G (vr x)) = true := ⟨rfl, rfl⟩
theorem x_put {a c j idx : Nat} {fs : Nat → AV} {v : AV} {ty : FieldType} (hd : decode M.2.1 pc = .ok (.putfield idx, 3)) (hF : FP M.1.cls idx c j false ty) (hv : narrow ty (cv G v) = cv G v ∧ fits ty (cv G v) = true) (hc : hp a = ob c fs) (ha : a < sz) (k : Ex G d rc rs M (pc + 3) ls st (up hp a (ob c (up fs j v))) sz Q) : Ex G d rc rs M pc ls (v :: vr a :: st) hp sz Q := by
  intro p l e R s m args below meth c' H locs cells slots lsR C h1 h2 h3 h4 h5
  obtain ⟨q, f1, f2, f3, f4, f5, f6⟩ := hF
  obtain ⟨r, r1, cell, q1, q2, q3, q4⟩ := ob_at h3 hc ha
  have hr : r = q := Option.some.inj (r1.symm.trans f1)
  subst hr
  have hts : ∀ w ∈ lw_g, w.before args s = true := fun w hw => C.word hw
  have hap := va_apart (D := (G.1, G.2.1)) (cl := classesX) (tys := []) (own := M.1.cls) hts (in_cls _ _ f1) (tyOf c) (cls_ty _ _ f1) (cls_nm _ _ f1) ⟨C.kk.1, fun k q h => by simp at h⟩ f1
  obtain ⟨hS, hfc, kC, hkC, hkind⟩ := C.kk.1 _ _ f1
  obtain ⟨cf, kf, fi, f, hi, hsl⟩ := hS j f2
  have hlay := hts _ (in_cls _ _ f1 _ (u_in_lay f2))
  unfold u_lay at hlay
  rw [if_neg (by rw [f4]; decide)] at hlay
  have hst := (u_facts hfc hkC (u_lays hts (in_cls _ _ f1) f2) hi).1
  have hpd := cls_ty _ _ f1 j f2
  rw [f6] at hpd
  have h6 := u_store hfc hkC hkind hlay hi hpd hv.1 hv.2
  refine W.putK C.1 C.2.1 (f := f) ⟨C.own, C.word f3, ⟨_, _, _, hi⟩, hst⟩ (by rw [q2]; exact h6) q1 q3 (by rw [hsl]; exact k2_hasslot (q4 j f2)) rfl rfl hd fun H' e1 e2 e3 => ?_
  rw [hsl] at e1 ⊢
  refine k p l e R s m args below meth c' H' _ cells slots lsR C h1 h2 (h3.set ha ⟨r, f1, t_OB.to (V := updV (fun x => cv G (fs x)) j (cv G v)) ⟨_, e1, q2, q3, t_set q4 hap f2 _⟩ (fun i _ => ?_)⟩ e2 e3) (lo_add h4 (ad_ge ha h3.2.1)) h5
  by_cases hij : i = j
  · subst hij
    simp [updV, up]
  · simp [updV, up, hij]
theorem x_putF {a c j idx : Nat} {fs : Nat → AV} {v : AV} {ty : FieldType} (hd : decode M.2.1 pc = .ok (.putfield idx, 3)) (hF : FP M.1.cls idx c j true ty) (hin : M.1.name = "<init>") (hv : narrow ty (cv G v) = cv G v ∧ fits ty (cv G v) = true) (hc : hp a = ob c fs) (ha : a < sz) (k : Ex G d rc rs M (pc + 3) ls st (up hp a (ob c (up fs j v))) sz Q) : Ex G d rc rs M pc ls (v :: vr a :: st) hp sz Q := by
  intro p l e R s m args below meth c' H locs cells slots lsR C h1 h2 h3 h4 h5
  obtain ⟨q, f1, f2, f3, f4, f5, f6⟩ := hF
  obtain ⟨r, r1, cell, q1, q2, q3, q4⟩ := ob_at h3 hc ha
  have hr : r = q := Option.some.inj (r1.symm.trans f1)
  subst hr
  have hts : ∀ w ∈ lw_g, w.before args s = true := fun w hw => C.word hw
  have hap := va_apart (D := (G.1, G.2.1)) (cl := classesX) (tys := []) (own := M.1.cls) hts (in_cls _ _ f1) (tyOf c) (cls_ty _ _ f1) (cls_nm _ _ f1) ⟨C.kk.1, fun k q h => by simp at h⟩ f1
  obtain ⟨hS, hfc, kC, hkC, hkind⟩ := C.kk.1 _ _ f1
  obtain ⟨cf, kf, fi, f, hi, hsl⟩ := hS j f2
  have hlay := hts _ (in_cls _ _ f1 _ (u_in_lay f2))
  unfold u_lay at hlay
  rw [if_pos f4] at hlay
  have hst := (u_facts hfc hkC (u_lays hts (in_cls _ _ f1) f2) hi).1
  have hcf : m.cls = cf := by
    obtain ⟨_, _, c2, _, _, _, -, -, hf', -, -, -, hown2, -⟩ := Cond.laysFinal_spec hlay
    have e1 : c2 = cf := by have := hi.symm.trans hf'; simp at this; exact this.1.symm
    rw [f5] at hown2
    rw [← e1]; exact Option.some.inj (C.own.symm.trans hown2)
  have hpd := cls_ty _ _ f1 j f2
  rw [f6] at hpd
  have h6 := u_fits hfc hkC hkind (Or.inr hlay) hi hpd hv.1 hv.2
  refine W.putFinK C.1 C.2.1 C.own (C.word f3) hi hst hcf (C.2.2.2.2.2.2.1.trans hin) (by rw [q2]; exact h6) q1 q3 (by rw [hsl]; exact k2_hasslot (q4 j f2)) rfl rfl hd fun H' e1 e2 e3 => ?_
  rw [hsl] at e1 ⊢
  refine k p l e R s m args below meth c' H' _ cells slots lsR C h1 h2 (h3.set ha ⟨r, f1, t_OB.to (V := updV (fun x => cv G (fs x)) j (cv G v)) ⟨_, e1, q2, q3, t_set q4 hap f2 _⟩ (fun i _ => ?_)⟩ e2 e3) (lo_add h4 (ad_ge ha h3.2.1)) h5
  by_cases hij : i = j
  · subst hij
    simp [updV, up]
  · simp [updV, up, hij]
/-! returns -/
theorem x_iret {x : Int} (hd : decode M.2.1 pc = .ok (.ireturn, 1)) (hr : M.2.2.2 = some .int) (hq : Q (some (vi x)) hp sz) : Ex G d rc rs M pc ls [vi x] hp sz Q := by
  intro p l e R s m args below meth c H locs cells slots lsR C h1 h2 h3 h4 h5
  refine W.widen (k := cells + rc) (n := slots + rs) (by omega) (by omega) ?_
  exact W.iret C.1 C.2.1 (C.2.2.1.trans hr) (fun t ht _ => ⟨some (vi x), hp, sz, rfl, by rw [ht]; exact h3, hq⟩) h4 hd C.2.2.2.1
theorem x_zret {x : Int} (hd : decode M.2.1 pc = .ok (.ireturn, 1)) (hr : M.2.2.2 = some .boolean) (hx : x = 0 ∨ x = 1) (hq : Q (some (vi x)) hp sz) : Ex G d rc rs M pc ls [vi x] hp sz Q := by
  intro p l e R s m args below meth c H locs cells slots lsR C h1 h2 h3 h4 h5
  refine W.widen (k := cells + rc) (n := slots + rs) (by omega) (by omega) ?_
  exact W.zret C.1 C.2.1 (C.2.2.1.trans hr) (by rcases hx with rfl | rfl <;> decide +kernel) (fun t ht _ => ⟨some (vi x), hp, sz, rfl, by rw [ht]; exact h3, hq⟩) h4 hd C.2.2.2.1
theorem x_lret {x : Int} (hd : decode M.2.1 pc = .ok (.lreturn, 1)) (hr : M.2.2.2 = some .long) (hq : Q (some (vl x)) hp sz) : Ex G d rc rs M pc ls [vl x] hp sz Q := by
  intro p l e R s m args below meth c H locs cells slots lsR C h1 h2 h3 h4 h5
  refine W.widen (k := cells + rc) (n := slots + rs) (by omega) (by omega) ?_
  exact W.lret C.1 C.2.1 (C.2.2.1.trans hr) (fun t ht _ => ⟨some (vl x), hp, sz, rfl, by rw [ht]; exact h3, hq⟩) h4 hd C.2.2.2.1
theorem x_aret {x : Nat} {rt : FieldType} (hd : decode M.2.1 pc = .ok (.areturn, 1)) (hr : M.2.2.2 = some rt) (hrt : (∃ n, rt = .object n) ∨ ∃ t, rt = .array t) (hq : Q (some (vr x)) hp sz) : Ex G d rc rs M pc ls [vr x] hp sz Q := by
  intro p l e R s m args below meth c H locs cells slots lsR C h1 h2 h3 h4 h5
  refine W.widen (k := cells + rc) (n := slots + rs) (by omega) (by omega) ?_
  exact W.aret C.1 C.2.1 (C.2.2.1.trans hr) hrt (Or.inr ⟨_, rfl⟩) (fun t ht _ => ⟨some (vr x), hp, sz, rfl, by rw [ht]; exact h3, hq⟩) h4 hd C.2.2.2.1
theorem x_vret (hd : decode M.2.1 pc = .ok (.return_, 1)) (hr : M.2.2.2 = none) (hq : Q none hp sz) : Ex G d rc rs M pc ls [] hp sz Q := by
  intro p l e R s m args below meth c H locs cells slots lsR C h1 h2 h3 h4 h5
  refine W.widen (k := cells + rc) (n := slots + rs) (by omega) (by omega) ?_
  exact W.vret C.1 C.2.1 (C.2.2.1.trans hr) (fun t ht _ => ⟨none, hp, sz, rfl, by rw [ht]; exact h3, hq⟩) h4 hd C.2.2.2.1
end XO
end
section
/-! the contract of a method, and calls -/
theorem Met_ofWF {l : Launch} {y : MethodName} {ws ws' : List Cond} {rm : Room} {Pc : Array Value → State → Prop} {Qc : Array Value → State → Outcome → State → Prop} {mc ms : Nat} {free : Addr → Prop} {cc : ByteArray} {maxL : Nat} {ret : Option FieldType}
    (hy : plainFor y = true) (hw : ws = Cond.code y cc maxL ret :: ws')
    (body : ∀ p e s m args below meth c s₁, BodyLoose p l y (headSpec ws rm) cc maxL ret e s m args below meth c s₁ → c.maxLocals = maxL → Pc args s →
      W p l e (headSpec ws rm).room s m args below meth c s.heap [] 0 0 (MQ below Qc args s mc ms free) (entryFrame m args maxL)) : Met l y ws rm Pc Qc mc ms free := by
  refine MetFree.of_bodySF (code := cc) (maxLocals := maxL) (ret := ret) hy ?_ ?_
  · intro args s m h hn
    obtain ⟨meth, c, h1, h2, h3, h4, h5, h6, -, -⟩ := Cond.code_spec hn (atoms_spec (ws := ws) h _ (by rw [hw]; exact List.mem_cons_self))
    exact ⟨meth, c, h1, h2, h3, h4, h5, h6⟩
  · intro p e s m args below meth c s₁ B hml hP _
    have hh0 : s₁.heap = s.heap := by rw [B.state]; rfl
    obtain ⟨t, a1, o, b1, b2, b3⟩ := body p e s m args below meth c s₁ B hml hP s₁ hh0 (Stand.of_body B)
    exact ⟨t, o, a1, b1, b2, ⟨b3.1, b3.2⟩⟩
def MW (M : MD) (n : Nat) : Prop := Cond.code M.1 M.2.1 M.2.2.1 M.2.2.2 ∈ lw_g ∧ Cond.initialized M.1.cls ∈ lw_g ∧ plainFor M.1 = true ∧ (M.1.cls ≠ "java/lang/invoke/MethodHandle" ∧ M.1.cls ≠ "java/lang/invoke/VarHandle" ∧ (parseMethodDescriptor M.1.desc).map (fun d => d.parameters.length) = some n) ∧ M.2.2.1 ≤ 40
def MI (M : MD) (c : Nat) : Prop := Cond.instanceMethod M.1 ∈ lw_g ∧ Cond.selects M.1.cls M.1 M.1 ∈ lw_g ∧ ∃ q : vw_C, classesX[c]? = some q ∧ q.1 = M.1.cls
def wsM (M : MD) : List Cond := Cond.code M.1 M.2.1 M.2.2.1 M.2.2.2 :: lw_g
abbrev rmM (d rc rs : Nat) : Room := { frames := d, cells := rc, slots := rs, locals := 60 * d }
def Pcx (G : GL) (as : List AV) (hp : HP) (sz : Nat) : Array Value → State → Prop := fun a U => a = (as.map (cv G)).toArray ∧ Rl G hp sz U.heap ∧ KK G U
theorem Pcx.blind {G : GL} {as : List AV} {hp : HP} {sz : Nat} : FrameBlind (Pcx G as hp sz) := fun a U g mk h => ⟨h.1, h.2.1, KK.same (s := U) (U := U.calling g mk a) rfl h.2.2⟩
theorem goodM {M : MD} {n : Nat} (h : MW M n) : GoodIn lw_g (wsM M) := by
  intro w hw
  rcases List.mem_cons.mp hw with e | e
  · rw [e]
    exact ⟨h.1, good_of_word (good_g _ h.1)⟩
  · exact ⟨e, good_of_word (good_g _ e)⟩
theorem args_lv {G : GL} : ∀ (as : List AV) (i : Nat), (∀ v ∈ as, (cv G v).category = 1) → lv_args i (as.map (cv G)) = (List.range as.length).map (fun j => (i + j, (as.map (cv G)).getD j .null))
  | [], i, h => rfl
  | a :: as, i, h => by
    rw [List.map_cons, lv_args, if_neg (by rw [h a List.mem_cons_self]; decide), args_lv as (i + 1) (fun v hv => h v (List.mem_cons_of_mem _ hv)), List.length_cons, List.range_succ_eq_map, List.map_cons, List.map_map]
    refine congr (congrArg List.cons ?_) (List.map_congr_left fun j _ => ?_)
    · simp
    · simp
      omega
theorem Ct.met {G : GL} {d rc rs n : Nat} {M : MD} {as : List AV} {hp : HP} {sz : Nat} {Q : Option AV → HP → Nat → Prop} {l : Launch} (hM : MW M n) (hlen : as.length ≤ M.2.2.1) (hcat : ∀ v ∈ as, (cv G v).category = 1) (k : Ct G d rc rs M as hp sz Q) :
    Met l M.1 (wsM M) (rmM d rc rs) (Pcx G as hp sz) (Qx G Q) rc rs (fun q => (gH G).size ≤ q) := by
  refine Met_ofWF (cc := M.2.1) (maxL := M.2.2.1) (ret := M.2.2.2) hM.2.2.1 rfl ?_
  intro p e s m args below meth c s₁ B hml hP
  obtain ⟨rfl, hRl, hKK⟩ := hP
  have hts := atoms_spec (ws := wsM M) B.pre
  have hown : s.vm.findClass M.1.cls = some m.cls := findClass_of_methodNamed B.named
  have hsl : (lg_sl (as.map (cv G))).length = as.length := by
    have : ∀ bs : List AV, (∀ v ∈ bs, (cv G v).category = 1) → (lg_sl (bs.map (cv G))).length = bs.length := by
      intro bs
      induction bs with
      | nil => intro _; rfl
      | cons b bs ih =>
        intro h
        have h1 := ih (fun v hv => h v (List.mem_cons_of_mem _ hv))
        have h2 := h b List.mem_cons_self
        rw [List.map_cons]
        simp only [lg_sl, h2, List.length_cons] at h1 ⊢
        first | omega | simp_all
    exact this as hcat
  have hl := lv_entry (as.map (cv G)) (n := M.2.2.1) (by rw [hsl]; exact hlen)
  rw [lg_entry_eq]
  generalize (lg_sl (as.map (cv G)) ++ List.replicate (M.2.2.1 - (lg_sl (as.map (cv G))).length) Slot.unset).toArray = lsR at hl ⊢
  have hlh : lh G lsR M.2.2.1 (as ++ List.replicate (M.2.2.1 - as.length) vu) := by
    refine ⟨hl.1, hl.2.1, fun q hq => ?_⟩
    obtain ⟨v, -, h2, h3, h4⟩ := (prs_mem _ 0 q).mp hq
    rw [Nat.sub_zero] at h2
    by_cases hlt : q.1 < as.length
    · rw [List.getElem?_append_left hlt] at h2
      refine hl.2.2 q ?_
      rw [args_lv as 0 hcat]
      refine List.mem_map.mpr ⟨q.1, List.mem_range.mpr hlt, ?_⟩
      refine Prod.ext (by simp) ?_
      simp [h2, h4]
    · rw [List.getElem?_append_right (by omega), List.getElem?_replicate] at h2
      split at h2
      · cases h2
        simp [jk] at h3
      · cases h2
  have hk := k p l e (headSpec (wsM M) (rmM d rc rs)).room s m (as.map (cv G)).toArray below meth c s.heap [] 0 0 lsR ⟨B.exec, B.bytes, B.returns, B.notSynchronized, hml, hown, (name_of_methodNamed B.named B.method).1, fun w hw => hts w (List.mem_cons_of_mem _ hw), hKK, Nat.le_refl _, Nat.le_refl _⟩ (by rw [Nat.zero_add]; exact Nat.le_refl _) (by rw [Nat.zero_add]; exact Nat.le_refl _) hRl (fun q h => by cases h) hlh
  rw [Nat.zero_add, Nat.zero_add] at hk
  exact hk
section XC
variable {G : GL} {d rc rs : Nat} {M : MD} {pc : Nat} {ls st : List AV} {hp : HP} {sz : Nat} {Q : Option AV → HP → Nat → Prop}
/-- behind a call -/
theorem x_back {p : Program} {l : Launch} {e : Env} {R : Room} {s : State} {m : MethodId} {args : Array Value} {below : List Frame} {meth : Method} {c : Code} {H : Heap} {locs : List Loc} {cells slots mc ms : Nat} {lsR : Array Slot} {st0 : List Value} {a : Array Value} {Q' : Option AV → HP → Nat → Prop}
    (hr : va_Run p l e R s m args below meth c H locs cells slots mc ms (F0 m pc lsR st0) (st.map (cv G)) (Qx G Q' a) (fun q => (gH G).size ≤ q)) (C : Cx G d M p s m args meth c R) (h1 : cells + (mc + rc) ≤ R.cells) (h2 : slots + (ms + rs) ≤ R.slots) (h4 : ∀ q ∈ locs, (gH G).size ≤ q.base) (h5 : lh G lsR M.2.2.1 ls)
    (k : ∀ (r : Option AV) (hp' : HP) (sz' : Nat), Q' r hp' sz' → Ex G d rc rs M (pc + 3) ls (r.toList ++ st) hp' sz' Q) : W p l e R s m args below meth c H locs cells slots (MQ below (Qx G Q) args s (cells + (mc + rc)) (slots + (ms + rs)) (fun q => (gH G).size ≤ q)) (F0 m pc lsR st0) := by
  intro T hT X
  obtain ⟨v, st₀, t, T', L, h0, X', hL, e1, e2, ⟨r, hp', sz', hv, hR, hq⟩, stp⟩ := hr T hT X
  have hv : v = r.map (cv G) := Outcome.returned.inj hv
  subst hv
  obtain ⟨t2, a1, b1⟩ := k r hp' sz' hq p l e R s m args below meth c T'.heap (locs ++ L) (cells + mc) (slots + ms) lsR C (by omega) (by omega) (by rw [e1]; exact hR) (lo_app h4 hL) h5 T' rfl X'
  refine ⟨t2, stp t2 ?_, by rw [← Nat.add_assoc, ← Nat.add_assoc]; exact b1⟩
  have : (r.toList ++ st).map (cv G) = (r.map (cv G)).toList ++ st.map (cv G) := by
    cases r <;> simp
  rw [← this]
  exact a1
theorem x_callV {d' mc ms n idx ci a : Nat} {N : MD} {as : List AV} {fs : Nat → AV} {Q' : Option AV → HP → Nat → Prop} (hd : decode M.2.1 pc = .ok (.invokevirtual idx, 3)) (hN : MW N n) (hI : MI N ci) (hlk : Cond.methodLink M.1.cls idx N.1 ∈ lw_g) (hn : as.length = n) (hlen : n + 1 ≤ N.2.2.1) (hcat : as.all (fun v => (cv G v).category == 1) = true) (hst : (st.map fun v => (cv G v).category).sum ≤ 8) (hdd : d' + 1 ≤ d)
    (hc : hp a = ob ci fs) (ha : a < sz) (ct : Ct G d' mc ms N (vr a :: as) hp sz Q') (k : ∀ (r : Option AV) (hp' : HP) (sz' : Nat), Q' r hp' sz' → Ex G d rc rs M (pc + 3) ls (r.toList ++ st) hp' sz' Q) : Ex G d (mc + rc) (ms + rs) M pc ls (as.reverse ++ vr a :: st) hp sz Q := by
  intro p l e R s m args below meth c H locs cells slots lsR C h1 h2 h3 h4 h5
  have hca : ∀ v ∈ as, (cv G v).category = 1 := fun v hv => by simpa using List.all_eq_true.mp hcat v hv
  have hmet := ct.met (l := l) hN (by simp; omega) (by intro v hv; rcases List.mem_cons.mp hv with rfl | hv; exact rfl; exact hca v hv)
  have hts : ∀ w ∈ lw_g, w.before args s = true := fun w hw => C.word hw
  obtain ⟨i1, i2, q, i3, i4⟩ := hI
  obtain ⟨c1, c2, c3, c4, c5, c6, c7, c8, c9, c10, c11⟩ := id C
  have hB : CallB R s args M.1.cls idx N.1 N.2.1 N.2.2.1 N.2.2.2 (wsM N) (rmM d' mc ms) mc ms n := callB_of n hts (goodM hN) rfl rfl rfl (hts _ hN.2.1) (hts _ hlk) hN.2.2.2.1 ⟨by show d' + 1 ≤ _; omega, by show 8 + (N.2.2.1 + 11) + 60 * d' ≤ _; have := hN.2.2.2.2; omega⟩
  obtain ⟨r, r1, cell, q1, q2, q3, -⟩ := ob_at h3 hc ha
  have hr : r = q := Option.some.inj (r1.symm.trans i3)
  subst hr
  refine x_back (a := (Value.ref (ad G a) :: as.map (cv G)).toArray) (va_runV (As := as.map (cv G)) (rest := st.map (cv G)) (b := ad G a) ⟨c1, c2, c5, c6, hts⟩ hmet ⟨hB, hts _ i1, hts _ i2⟩ ⟨Pcx.blind, ⟨cell, q1, by rw [q3]; rfl, by rw [← i4, q2]; exact (C.kk.1 _ _ r1).2.1⟩, fun U hU hW => ⟨rfl, by rw [hU]; exact h3, C.kk.moved hW⟩⟩ rfl (by simpa using hn) h5.1 (by simp [cv]) (lv_room (by rw [List.map_map]; exact hst)) hd ⟨by omega, by omega⟩) C h1 h2 h4 h5 k
theorem x_callS {d' mc ms n idx : Nat} {N : MD} {as : List AV} {Q' : Option AV → HP → Nat → Prop} (hd : decode M.2.1 pc = .ok (.invokestatic idx, 3)) (hN : MW N n) (hI : Cond.static N.1 ∈ lw_g) (hlk : Cond.methodLink M.1.cls idx N.1 ∈ lw_g) (hn : as.length = n) (hlen : n ≤ N.2.2.1) (hcat : as.all (fun v => (cv G v).category == 1) = true) (hst : (st.map fun v => (cv G v).category).sum ≤ 8) (hdd : d' + 1 ≤ d)
    (ct : Ct G d' mc ms N as hp sz Q') (k : ∀ (r : Option AV) (hp' : HP) (sz' : Nat), Q' r hp' sz' → Ex G d rc rs M (pc + 3) ls (r.toList ++ st) hp' sz' Q) : Ex G d (mc + rc) (ms + rs) M pc ls (as.reverse ++ st) hp sz Q := by
  intro p l e R s m args below meth c H locs cells slots lsR C h1 h2 h3 h4 h5
  have hca : ∀ v ∈ as, (cv G v).category = 1 := fun v hv => by simpa using List.all_eq_true.mp hcat v hv
  have hmet := ct.met (l := l) hN (by omega) hca
  have hts : ∀ w ∈ lw_g, w.before args s = true := fun w hw => C.word hw
  obtain ⟨c1, c2, c3, c4, c5, c6, c7, c8, c9, c10, c11⟩ := id C
  have hB : CallB R s args M.1.cls idx N.1 N.2.1 N.2.2.1 N.2.2.2 (wsM N) (rmM d' mc ms) mc ms n := callB_of n hts (goodM hN) rfl rfl rfl (hts _ hN.2.1) (hts _ hlk) hN.2.2.2.1 ⟨by show d' + 1 ≤ _; omega, by show 8 + (N.2.2.1 + 11) + 60 * d' ≤ _; have := hN.2.2.2.2; omega⟩
  exact x_back (a := (as.map (cv G)).toArray) (va_runS (As := as.map (cv G)) (rest := st.map (cv G)) ⟨c1, c2, c5, c6, hts⟩ hmet ⟨hB, hts _ hI⟩ ⟨Pcx.blind, fun U hU hW => ⟨rfl, by rw [hU]; exact h3, C.kk.moved hW⟩⟩ rfl (by simpa using hn) h5.1 (by simp) (lv_room (by rw [List.map_map]; exact hst)) hd ⟨by omega, by omega⟩) C h1 h2 h4 h5 k
theorem x_callI {d' mc ms n idx a : Nat} {N : MD} {as : List AV} {Q' : Option AV → HP → Nat → Prop} (hd : decode M.2.1 pc = .ok (.invokespecial idx, 3)) (hN : MW N n) (hret : N.2.2.2 = none) (hnm : N.1.name = "<init>") (hI : Cond.instanceMethod N.1 ∈ lw_g) (hlk : Cond.methodLink M.1.cls idx N.1 ∈ lw_g) (hn : as.length = n) (hlen : n + 1 ≤ N.2.2.1) (hcat : as.all (fun v => (cv G v).category == 1) = true) (hst : (st.map fun v => (cv G v).category).sum ≤ 8) (hdd : d' + 1 ≤ d)
    (ct : Ct G d' mc ms N (vr a :: as) hp sz Q') (k : ∀ (r : Option AV) (hp' : HP) (sz' : Nat), Q' r hp' sz' → Ex G d rc rs M (pc + 3) ls (r.toList ++ st) hp' sz' Q) : Ex G d (mc + rc) (ms + rs) M pc ls (as.reverse ++ vr a :: st) hp sz Q := by
  intro p l e R s m args below meth c H locs cells slots lsR C h1 h2 h3 h4 h5
  have hca : ∀ v ∈ as, (cv G v).category = 1 := fun v hv => by simpa using List.all_eq_true.mp hcat v hv
  have hmet := ct.met (l := l) hN (by simp; omega) (by intro v hv; rcases List.mem_cons.mp hv with rfl | hv; exact rfl; exact hca v hv)
  have hts : ∀ w ∈ lw_g, w.before args s = true := fun w hw => C.word hw
  obtain ⟨c1, c2, c3, c4, c5, c6, c7, c8, c9, c10, c11⟩ := id C
  have hB : CallB R s args M.1.cls idx N.1 N.2.1 N.2.2.1 none (wsM N) (rmM d' mc ms) mc ms n := callB_of n hts (goodM hN) (by rw [wsM, hret]) rfl rfl (hts _ hN.2.1) (hts _ hlk) hN.2.2.2.1 ⟨by show d' + 1 ≤ _; omega, by show 8 + (N.2.2.1 + 11) + 60 * d' ≤ _; have := hN.2.2.2.2; omega⟩
  exact x_back (a := (Value.ref (ad G a) :: as.map (cv G)).toArray) (va_runI (As := as.map (cv G)) (rest := st.map (cv G)) (b := ad G a) ⟨c1, c2, c5, c6, hts⟩ hmet ⟨hB, hnm, hts _ hI⟩ ⟨Pcx.blind, fun U hU hW => ⟨rfl, by rw [hU]; exact h3, C.kk.moved hW⟩⟩ rfl (by simpa using hn) h5.1 (by simp [cv]) (lv_room (by rw [List.map_map]; exact hst)) hd ⟨by omega, by omega⟩) C h1 h2 h4 h5 k
theorem x_callIN {d' mc ms n idx a : Nat} {N : MD} {host : String} {as : List AV} {Q' : Option AV → HP → Nat → Prop} (hd : decode M.2.1 pc = .ok (.invokespecial idx, 3)) (hN : MW N n) (hret : N.2.2.2 = none) (hnm : N.1.name = "<init>") (hI : Cond.instanceMethod N.1 ∈ lw_g) (hlk : Cond.methodLinkNest M.1.cls idx N.1 host ∈ lw_n) (hn : as.length = n) (hlen : n + 1 ≤ N.2.2.1) (hcat : as.all (fun v => (cv G v).category == 1) = true) (hst : (st.map fun v => (cv G v).category).sum ≤ 8) (hdd : d' + 1 ≤ d)
    (ct : Ct G d' mc ms N (vr a :: as) hp sz Q') (k : ∀ (r : Option AV) (hp' : HP) (sz' : Nat), Q' r hp' sz' → Ex G d rc rs M (pc + 3) ls (r.toList ++ st) hp' sz' Q) : Ex G d (mc + rc) (ms + rs) M pc ls (as.reverse ++ vr a :: st) hp sz Q := by
  intro p l e R s m args below meth c H locs cells slots lsR C h1 h2 h3 h4 h5
  have hca : ∀ v ∈ as, (cv G v).category = 1 := fun v hv => by simpa using List.all_eq_true.mp hcat v hv
  have hmet := ct.met (l := l) hN (by simp; omega) (by intro v hv; rcases List.mem_cons.mp hv with rfl | hv; exact rfl; exact hca v hv)
  have hts : ∀ w ∈ lw_g, w.before args s = true := fun w hw => C.word hw
  obtain ⟨c1, c2, c3, c4, c5, c6, c7, c8, c9, c10, c11⟩ := id C
  have hB : va_CN R s args M.1.cls idx N.1 host N.2.1 N.2.2.1 none (wsM N) (rmM d' mc ms) mc ms n := va_cnB n hts (goodM hN) (by rw [wsM, hret]) rfl rfl (C.kk.2.2.2.2.2.2.1 _ hlk) (hts _ hN.2.1) hN.2.2.2.1 ⟨by show d' + 1 ≤ _; omega, by show 8 + (N.2.2.1 + 11) + 60 * d' ≤ _; have := hN.2.2.2.2; omega⟩
  exact x_back (a := (Value.ref (ad G a) :: as.map (cv G)).toArray) (va_runIN (As := as.map (cv G)) (rest := st.map (cv G)) (b := ad G a) ⟨c1, c2, c5, c6, hts⟩ hmet ⟨hB, hnm, hts _ hI⟩ ⟨Pcx.blind, fun U hU hW => ⟨rfl, by rw [hU]; exact h3, C.kk.moved hW⟩⟩ rfl (by simpa using hn) h5.1 (by simp [cv]) (lv_room (by rw [List.map_map]; exact hst)) hd ⟨by omega, by omega⟩) C h1 h2 h4 h5 k
end XC
end
section
theorem AOv.use {ty : FieldType} {A : Array Value} {U : State} (h : AOv ty U) : (Cond.arrayOver ty).before A U = true := h
def dfv : FieldType → AV
  | .object _ => vz
  | .array _ => vz
  | .long => vl 0
  | _ => vi 0
def okty : FieldType → Bool
  | .object _ => true
  | .array _ => true
  | .int => true
  | _ => false
theorem dfv_ok {G : GL} {ty : FieldType} (h : okty ty = true) : defaultValue ty = cv G (dfv ty) := by
  cases ty <;> first | (simp [okty] at h; done) | rfl
theorem cls_ok : ∀ (c : Nat) (q : vw_C), classesX[c]? = some q → ∀ k, k < q.2.2 → okty (tyOf c k) = true := by
  intro c q h
  match c, h with
  | 0, h => cases h; decide +kernel
  | 1, h => cases h; decide +kernel
  | 2, h => cases h; decide +kernel
  | 3, h => cases h; decide +kernel
  | 4, h => cases h; decide +kernel
  | 5, h => cases h; decide +kernel
  | 6, h => cases h; decide +kernel
  | 7, h => cases h; decide +kernel
  | c + 8, h => simp [classesX] at h
def NW (own : String) (idx c n : Nat) : Prop := ∃ q : vw_C, classesX[c]? = some q ∧ q.2.2 = n ∧ Cond.classLink own idx q.1 ∈ lw_g ∧ Cond.instantiable q.1 n ∈ lw_g ∧ Cond.initialized q.1 ∈ lw_g
section XN
variable {G : GL} {d rc rs : Nat} {M : MD} {pc : Nat} {ls st : List AV} {hp : HP} {sz : Nat} {Q : Option AV → HP → Nat → Prop}
theorem ad_new {H : Heap} (h : Rl G hp sz H) : ad G sz = H.size := by
  unfold ad
  rw [if_pos (by have := h.2.1; omega), h.1]
theorem x_new {c idx n : Nat} (hd : decode M.2.1 pc = .ok (.new idx, 3)) (hw : NW M.1.cls idx c n) (hs : sz < 700000) (k : Ex G d rc rs M (pc + 3) ls (vr sz :: st) (up hp sz (ob c (fun j => dfv (tyOf c j)))) (sz + 1) Q) : Ex G d (1 + rc) (n + rs) M pc ls st hp sz Q := by
  intro p l e R s m args below meth c' H locs cells slots lsR C h1 h2 h3 h4 h5
  obtain ⟨q, w1, w2, w3, w4, w5⟩ := hw
  have hKn := C.kk.1 _ _ w1
  refine W.newcK C.1 C.2.1 C.own (C.word w3) (C.word w4) (C.word w5) rfl hd (by omega) (by omega) hKn.2.1 rfl fun H' kC hkC e1 z o => ?_
  have hk := k p l e R s m args below meth c' H' locs (cells + 1) (slots + n) lsR C (by omega) (by omega) (h3.push hs ⟨q, w1, (u_born (tyOf c) (fun w hw => C.word hw) (in_cls _ _ w1) hKn hkC e1 (cls_ty _ _ w1)).to (fun j hj => dfv_ok (cls_ok _ _ w1 j hj))⟩ z o) h4 h5
  rw [Nat.add_assoc, Nat.add_assoc] at hk
  rw [← ad_new h3]
  exact hk
theorem x_newarr {at0 : ArrayType} {kk : Nat} {n : Int} (hd : decode M.2.1 pc = .ok (.newarray at0, 2)) (hk : akinds[kk]? = some (newarray.typeOf at0)) (h4' : kk < 4) (hdf : defaultValue (newarray.typeOf at0) = el kk 0) (hcb : componentBytes (newarray.typeOf at0) ≤ 8) (hw : Cond.arrayClass (newarray.typeOf at0) ∈ lw_g) (hn : 0 ≤ n ∧ n ≤ 10000) (hs : sz < 700000) (k : Ex G d rc rs M (pc + 2) ls (vr sz :: st) (up hp sz (ar kk n.toNat (fun _ => 0))) (sz + 1) Q) : Ex G d (1 + rc) (n.toNat + rs) M pc ls (vi n :: st) hp sz Q := by
  intro p l e R s m args below meth c' H locs cells slots lsR C h1 h2 h3 h4 h5
  have hcl : (Int32.ofInt n).toNatClampNeg = n.toNat := oi_cl (n := 10001) hn.1 (by omega) (by omega)
  have hle : n.toNat * componentBytes (newarray.typeOf at0) ≤ 10000 * 8 := Nat.mul_le_mul (by omega) hcb
  refine va_newaK C.1 C.2.1 (C.word hw) rfl hd rfl (by rw [← oi_0, oi_lt (by omega) (by omega)]; omega) hcl (by omega) (by omega) (by omega) rfl fun H' cA e1 z o hAr hf => ?_
  have e9 : cA = G.2.2.1 kk := Option.some.inj (hf.symm.trans (C.kk.2.1 kk _ hk).2)
  have hk2 := k p l e R s m args below meth c' H' locs (cells + 1) (slots + n.toNat) lsR C (by omega) (by omega) (h3.push hs ⟨by dsimp only; omega, h4', by rw [e1, e9, hdf]⟩ z o) h4 h5
  rw [Nat.add_assoc, Nat.add_assoc] at hk2
  rw [← ad_new h3]
  exact hk2
theorem x_anew {idx : Nat} {n : Int} (hd : decode M.2.1 pc = .ok (.anewarray idx, 3)) (hw : Cond.classLink M.1.cls idx "SpanLoom$Laying" ∈ lw_g) (hn : 0 ≤ n ∧ n ≤ 10000) (hs : sz < 700000) (k : Ex G d rc rs M (pc + 3) ls (vr sz :: st) (up hp sz (rr 4 n.toNat (fun _ => none))) (sz + 1) Q) : Ex G d (1 + rc) (n.toNat + rs) M pc ls (vi n :: st) hp sz Q := by
  intro p l e R s m args below meth c' H locs cells slots lsR C h1 h2 h3 h4 h5
  have hcl : (Int32.ofInt n).toNatClampNeg = n.toNat := oi_cl (n := 10001) hn.1 (by omega) (by omega)
  refine W.anew C.1 C.2.1 C.own (C.word hw) (AOv.use (C.kk.2.2.2.2.2.2.2 (.object "SpanLoom$Laying") (by simp [AOs]))) rfl hd rfl (by rw [← oi_0, oi_lt (by omega) (by omega)]; omega) (by rw [hcl]; omega) (by omega) (by rw [hcl]; omega) fun cA kA comp hf _ _ _ => ?_
  rw [hcl]
  have e9 : cA = G.2.2.1 4 := Option.some.inj (hf.symm.trans (C.kk.2.1 4 _ rfl).2)
  have hk2 := k p l e R s m args below meth c' (H.push { cls := cA, slots := Array.replicate n.toNat .null, vm := .none }) locs (cells + 1) (slots + n.toNat) lsR C (by omega) (by omega) (h3.push hs ⟨by dsimp only; omega, Nat.le_refl 4, (by dsimp only; decide), by rw [arrV_new, e9]; simp; rfl⟩ (by simp) (fun q hq => by rw [Array.getElem?_push, if_neg (Nat.ne_of_lt hq)])) h4 h5
  rw [Nat.add_assoc, Nat.add_assoc] at hk2
  rw [← ad_new h3]
  exact hk2
theorem x_ldc2 {idx : Nat} {v : Int} (hd : decode M.2.1 pc = .ok (.ldc2_w idx, 3)) (hw : Cond.constantLong M.1.cls idx (Int64.ofInt v) ∈ lw_g) (k : Ex G d rc rs M (pc + 3) ls (vl v :: st) hp sz Q) : Ex G d rc rs M pc ls st hp sz Q := by
  intro p l e R s m args below meth c H locs cells slots lsR C h1 h2 h3 h4 h5
  exact W.ldc2 C.1 C.2.1 C.own (C.word hw) rfl hd (k p l e R s m args below meth c H locs cells slots lsR C h1 h2 h3 h4 h5)
theorem x_gets {idx j : Nat} {cn : String} (hd : decode M.2.1 pc = .ok (.getstatic idx, 3)) (hc : (cn = "SpanLoom" ∧ j = 1) ∨ (cn = "SpanLoomModel" ∧ j = 2)) (hw : Cond.fieldLink M.1.cls idx cn "PRIMES" "[I" ∈ lw_g) (k : Ex G d rc rs M (pc + 3) ls (vr (1000000 + j) :: st) hp sz Q) : Ex G d rc rs M pc ls st hp sz Q := by
  intro p l e R s m args below meth c H locs cells slots lsR C h1 h2 h3 h4 h5
  have hZ : va_Z cn "PRIMES" "[I" (.ref (G.2.2.2.2.1 j)) (fun a => (gH G).size ≤ a) s (gH G) := by
    rcases hc with ⟨rfl, rfl⟩ | ⟨rfl, rfl⟩
    · exact C.kk.2.2.2.2.1
    · exact C.kk.2.2.2.2.2.1
  obtain ⟨cf, kf, fi, f, a, cell, z1, z2, z3, z4, z5, z6, z7, z8⟩ := hZ
  have hk := k p l e R s m args below meth c H locs cells slots lsR C h1 h2 h3 h4 h5
  have hcv : (vr (1000000 + j) :: st).map (cv G) = Value.ref (G.2.2.2.2.1 j) :: st.map (cv G) := by
    show Value.ref (ad G (1000000 + j)) :: _ = _
    rw [ad_ext]
  rw [hcv] at hk
  exact W.gets C.1 C.2.1 C.own (C.word hw) z1 z2 z3 z4 (by rw [h3.2.2.2.1 a (Nat.not_le.mp z8)]; exact z5) (fun e => by rw [e] at z6; cases z6) z7 rfl hd hk
theorem x_objInit {idx a : Nat} (hd : decode M.2.1 pc = .ok (.invokespecial idx, 3)) (hw : Cond.methodLink M.1.cls idx Lib.objectInit ∈ lw_g) (hw2 : Cond.instanceMethod Lib.objectInit ∈ lw_g) (hw3 : Cond.code Lib.objectInit ⟨#[0xb1]⟩ 1 none ∈ lw_g) (hdd : 1 ≤ d) (hst : (st.map fun v => (cv G v).category).sum ≤ 8) (k : Ex G d rc rs M (pc + 3) ls st hp sz Q) : Ex G d rc rs M pc ls (vr a :: st) hp sz Q := by
  intro p l e R s m args below meth c H locs cells slots lsR C h1 h2 h3 h4 h5
  obtain ⟨c1, c2, c3, c4, c5, c6, c7, c8, c9, c10, c11⟩ := id C
  refine W.objInit c1 c2 c6 (C.word hw) (C.word hw2) (C.word hw3) rfl (h5.1.trans c5.symm) rfl hd (by omega) ?_ (k p l e R s m args below meth c H locs cells slots lsR C h1 h2 h3 h4 h5)
  have : ((st.map (cv G)).map fun v => v.category).sum ≤ 8 := by rw [List.map_map]; exact hst
  show 2 * 0 + ((st.map (cv G)).map fun v => v.category).sum + 12 ≤ _
  omega
/-- System.arraycopy of the first n places, between two different int arrays -/
theorem x_copy {idx a b n0 n1 : Nat} {f g : Nat → Int} {n : Int} (hd : decode M.2.1 pc = .ok (.invokestatic idx, 3)) (hw : Cond.methodLink M.1.cls idx arraycopyName ∈ lw_g) (hw2 : Cond.native arraycopyName ∈ lw_g) (hw3 : Cond.static arraycopyName ∈ lw_g) (hw4 : Cond.initialized "java/lang/System" ∈ lw_g) (hdd : 2 ≤ d) (hst : (st.map fun v => (cv G v).category).sum ≤ 8)
    (hab : a ≠ b) (ha : a < sz) (hb : b < sz) (ca : hp a = ar 0 n0 f) (cb : hp b = ar 0 n1 g) (hn : 0 ≤ n) (hn0 : n ≤ n0) (hn1 : n ≤ n1) (k : Ex G d rc rs M (pc + 3) ls st (up hp b (ar 0 n1 (fun j => if j < n.toNat then f j else g j))) sz Q) : Ex G d rc rs M pc ls (vi n :: vi 0 :: vr b :: vi 0 :: vr a :: st) hp sz Q := by
  intro p l e R s m args below meth c H locs cells slots lsR C h1 h2 h3 h4 h5
  obtain ⟨c1, c2, c3, c4, c5, c6, c7, c8, c9, c10, c11⟩ := id C
  obtain ⟨ga, -, ga2⟩ := ar_at h3 ca ha
  obtain ⟨gb, -, gb2⟩ := ar_at h3 cb hb
  have hsz := h3.2.1
  have hea := ad_lt (G := G) ha hsz
  have heb := ad_lt (G := G) hb hsz
  have hcl : (Int32.ofInt n).toNatClampNeg = n.toNat := by
    have h := oi (x := n) (by omega)
    show (Int32.ofInt n).toInt.toNat = n.toNat
    rw [h]
  have hc0 : (Int32.ofInt 0).toNatClampNeg = 0 := by decide +kernel
  have hnn : ¬ Int32.ofInt n < 0 := by rw [← oi_0, oi_lt (by omega) (by omega)]; omega
  have hn00 : ¬ Int32.ofInt 0 < 0 := by decide +kernel
  intro T hT X
  have hc0' : H[ad G a]? = some (arrV (G.2.2.1 0) n0 (fun j => .int (Int32.ofInt (f j)))) := ga2
  have hc1' : H[ad G b]? = some (arrV (G.2.2.1 0) n1 (fun j => .int (Int32.ofInt (g j)))) := gb2
  obtain ⟨-, k0, hk0, cm0, hkk0⟩ := c9.arr (k := 0) rfl n0 (fun j => .int (Int32.ofInt (f j)))
  obtain ⟨-, k1, hk1, cm1, hkk1⟩ := c9.arr (k := 0) rfl n1 (fun j => .int (Int32.ofInt (g j)))
  have ho0 : (Int32.ofInt 0).toInt = 0 := by decide +kernel
  have hoN : (Int32.ofInt n).toInt = n := oi (by omega)
  have h9 : nativeFrameWords "java/lang/System" "arraycopy" 5 + 11 ≤ 100 := by decide +kernel
  have hsum : ((st.map (cv G)).map fun v => v.category).sum ≤ 8 := by rw [List.map_map]; exact hst
  obtain ⟨vm', X', step⟩ := X.arraycopy c1 c6 (C.word hw) (C.word hw2) (C.word hw3) (C.word hw4) (src := ad G a) (dst := ad G b) (cs := arrV (G.2.2.1 0) n0 (fun j => .int (Int32.ofInt (f j)))) (cd := arrV (G.2.2.1 0) n1 (fun j => .int (Int32.ofInt (g j)))) (srcPos := Int32.ofInt 0) (destPos := Int32.ofInt 0) (n := Int32.ofInt n) (by rw [hT]; exact hc0') (by rw [hT]; exact hc1')
    (fun _ h => by cases h) (fun _ h => by cases h) (fun h => by cases h) (fun h => by cases h) hk0 hk1 hkk0 hkk1 (by simp [refKind]) hn00 hn00 hnn
    (by rw [ho0, hoN, arrV_size]; omega) (by rw [ho0, hoN, arrV_size]; omega)
    (fun vm₁ _ i hi => by
      have e : (arrV (G.2.2.1 0) n0 (fun j => .int (Int32.ofInt (f j)))).slots.getD ((Int32.ofInt 0).toNatClampNeg + i) .null = .int (Int32.ofInt (f i)) := by
        rw [hcl] at hi
        rw [hc0, Nat.zero_add, Array.getD_eq_getD_getElem?, arrV_read _ _ (by omega)]
        rfl
      refine ⟨?_, ?_⟩
      · rw [e]
        rfl
      · rw [e]
        exact trivial)
    (g := F0 m pc lsR ((vi n :: vi 0 :: vr b :: vi 0 :: vr a :: st).map (cv G))) rfl (h5.1.trans c5.symm) (rest := st.map (cv G)) rfl (by rw [c2]; exact hd) (by omega) (by show 2 * 0 + _ + _ ≤ _; omega)
  have e1 : copied (arrV (G.2.2.1 0) n0 (fun j => .int (Int32.ofInt (f j)))) (arrV (G.2.2.1 0) n1 (fun j => .int (Int32.ofInt (g j)))) (Int32.ofInt 0) (Int32.ofInt 0) (Int32.ofInt n) = arrV (G.2.2.1 0) n1 (fun j => el 0 (if j < n.toNat then f j else g j)) := by
    refine (va_copied (fun z => .int z) (G.2.2.1 0) (G.2.2.1 0) (fun j => Int32.ofInt (f j)) (fun j => Int32.ofInt (g j)) (n0 := n0) (n1 := n1) (sp := (Int32.ofInt 0).toNatClampNeg) (dp := (Int32.ofInt 0).toNatClampNeg) (n := (Int32.ofInt n).toNatClampNeg) (by rw [hc0, hcl]; omega)).trans ?_
    rw [hc0, hcl]
    refine congrArg _ ?_
    funext j
    simp only [va_cpy, Nat.zero_le, true_and, Nat.zero_add, Nat.sub_zero]
    by_cases hj : j < n.toNat
    · simp [hj, el]
    · simp [hj, el]
  rw [e1] at X' step
  have hl : ad G b < H.size := (Array.getElem?_eq_some_iff.mp hc1').1
  have hheap : ((T.setVm vm').setCell (ad G b) (arrV (G.2.2.1 0) n1 (fun j => el 0 (if j < n.toNat then f j else g j)))).heap = H.setIfInBounds (ad G b) (arrV (G.2.2.1 0) n1 (fun j => el 0 (if j < n.toNat then f j else g j))) := by rw [← hT]; rfl
  obtain ⟨t, a1, b1⟩ := k p l e R s m args below meth c _ _ cells slots lsR C h1 h2 (h3.set (H1 := H.setIfInBounds (ad G b) (arrV (G.2.2.1 0) n1 (fun j => el 0 (if j < n.toNat then f j else g j)))) hb ⟨gb, by dsimp only; decide, by simp [Array.getElem?_setIfInBounds, hl]⟩ (by simp) (fun q hq => by simp [Array.getElem?_setIfInBounds, Ne.symm hq])) (lo_app h4 (fun q hq => by
      obtain ⟨z, -, hz⟩ := List.mem_map.mp hq
      rw [← hz]
      show (gH G).size ≤ ad G b
      omega)) h5 _ hheap X'
  exact ⟨t, step t a1, b1⟩
end XN
end
section
theorem vr_outer (c : ClassId) (N h0 : Nat) : ∀ i : Nat, Jvm.Free.Multi.outerC c N h0 i = arrV c N (fun j => va_rf (if j < i then some (h0 + 1 + j) else none))
  | 0 => by
    show ({ cls := c, slots := Array.replicate N .null, vm := .none } : Cell) = _
    rw [arrV_new]
    refine congrArg (arrV c N) (funext fun j => ?_)
    simp [va_rf]
  | i + 1 => by
    show (Jvm.Free.Multi.outerC c N h0 i).setSlot i (.ref (h0 + 1 + i)) = _
    rw [vr_outer c N h0 i, arrV_store]
    refine congrArg (arrV c N) (funext fun j => ?_)
    by_cases e : j = i
    · subst e
      simp [updV, va_rf]
    · by_cases h : j < i
      · simp [updV, e, h, Nat.lt_succ_of_lt h]
      · simp [updV, e, h, show ¬ j < i + 1 by omega]
/-- a grid: the outer array at sz, its n rows behind it -/
def grid (hp : HP) (sz kk n m : Nat) : HP := fun b => if b = sz then rr (5 + kk) n (fun i => if i < n then some (sz + 1 + i) else none) else if sz < b ∧ b ≤ sz + n then ar kk m (fun _ => 0) else hp b
theorem x_multi {G : GL} {d rc rs : Nat} {M : MD} {pc : Nat} {ls st : List AV} {hp : HP} {sz : Nat} {Q : Option AV → HP → Nat → Prop} {idx kk : Nat} {ty : FieldType} {n m : Int} (hd : decode M.2.1 pc = .ok (.multianewarray idx 2, 4)) (hk3 : kk < 3) (hk : akinds[kk]? = some ty) (hk5 : akinds[5 + kk]? = some (.array ty)) (hts : "[" ++ ty.toString = (FieldType.array ty).toString) (hdf : defaultValue ty = el kk 0) (hfit : fits ty (defaultValue ty) = true) (hdd : (defaultValue ty).isDefault = true) (hcb : componentBytes ty ≤ 8)
    (hw1 : Cond.classLink M.1.cls idx ("[" ++ (FieldType.array ty).toString) ∈ lw_g) (hw2 : FieldType.array ty ∈ AOs) (hw3 : Cond.arrayClass ty ∈ lw_g) (hn : 0 ≤ n ∧ n ≤ 1000) (hm : 0 ≤ m ∧ m ≤ 1000) (hs : sz + 1 + n.toNat ≤ 700000)
    (k : Ex G d rc rs M (pc + 4) ls (vr sz :: st) (grid hp sz kk n.toNat m.toNat) (sz + 1 + n.toNat) Q) : Ex G d (1 + n.toNat + rc) (n.toNat + n.toNat * m.toNat + rs) M pc ls (vi m :: vi n :: st) hp sz Q := by
  intro p l e R s m0 args below meth c' H locs cells slots lsR C h1 h2 h3 h4 h5
  have hcn : (Int32.ofInt n).toNatClampNeg = n.toNat := oi_cl (n := 1001) hn.1 (by omega) (by omega)
  have hcm : (Int32.ofInt m).toNatClampNeg = m.toNat := oi_cl (n := 1001) hm.1 (by omega) (by omega)
  have hle : m.toNat * componentBytes ty ≤ 1000 * 8 := Nat.mul_le_mul (by omega) hcb
  intro T hT Xs
  obtain ⟨vm₁, cA, comp, -, fA, fC, -, -, X', step⟩ := Jvm.Stand.multianewarray2F Xs C.1 C.own (C.word hw1) (AOv.use (C.kk.2.2.2.2.2.2.2 _ hw2)) (C.word hw3) (g := F0 m0 pc lsR ((vi m :: vi n :: st).map (cv G))) rfl (by rw [C.2.1]; exact hd) (n := Int32.ofInt n) (k := Int32.ofInt m) (rest := st.map (cv G)) rfl (by rw [← oi_0, oi_lt (by omega) (by omega)]; omega) (by rw [← oi_0, oi_lt (by omega) (by omega)]; omega) (by rw [hcn]; omega) (by rw [hcm]; omega) (by rw [hcm]; omega) hfit hdd (by rw [hcn]; omega) (by rw [hcn, hcm]; omega)
  rw [hcn, hcm] at X' step
  have e5 : cA = G.2.2.1 (5 + kk) := Option.some.inj (fA.symm.trans (C.kk.2.1 _ _ hk5).2)
  have e0 : comp = G.2.2.1 kk := by
    have h := (C.kk.2.1 kk _ hk).2
    rw [hts] at h
    exact Option.some.inj (fC.symm.trans h)
  subst e5
  subst e0
  generalize hF : Jvm.Free.Multi.fill (T.setVm vm₁) (G.2.2.1 (5 + kk)) (G.2.2.1 kk) n.toNat m.toNat (defaultValue ty) n.toNat = F at X' step
  have hTh : (T.setVm vm₁).heap = H := hT
  obtain ⟨f1, f2, -, -⟩ := Jvm.Free.Multi.fill_facts (T.setVm vm₁) (G.2.2.1 (5 + kk)) (G.2.2.1 kk) n.toNat m.toNat (defaultValue ty) n.toNat
  rw [hF, hTh] at f1 f2
  have hold : ∀ x : Nat, x < H.size → F.heap[x]? = H[x]? := fun x hx => by
    have := Jvm.Free.Multi.fill_old (T.setVm vm₁) (G.2.2.1 (5 + kk)) (G.2.2.1 kk) n.toNat m.toNat (defaultValue ty) (a := x) (by rw [hTh]; exact hx) n.toNat
    rw [hF, hTh] at this
    exact this
  have hrow : ∀ j : Nat, j < n.toNat → F.heap[H.size + 1 + j]? = some (arrV (G.2.2.1 kk) m.toNat (fun _ => el kk 0)) := fun j hj => by
    have := Jvm.Free.Multi.fill_inner (T.setVm vm₁) (G.2.2.1 (5 + kk)) (G.2.2.1 kk) n.toNat m.toNat (defaultValue ty) n.toNat j hj
    rw [hF, hTh, hdf] at this
    rw [this]
    exact congrArg some (arrV_new _ _ _)
  rw [vr_outer] at f2
  obtain ⟨r1, r2, r3, r4, r5⟩ := id h3
  have hRl : Rl G (grid hp sz kk n.toNat m.toNat) (sz + 1 + n.toNat) F.heap := by
    refine ⟨by omega, hs, fun a ha => ?_, fun q hq => (hold q (by omega)).trans (r4 q hq), fun i hi => ?_⟩
    · unfold grid
      by_cases c1 : a = sz
      · rw [if_pos c1]
        refine ⟨by dsimp only; omega, by dsimp only; omega, by dsimp only; omega, ?_⟩
        rw [c1, ← r1, f2]
        refine congrArg some (congrArg _ (funext fun j => ?_))
        by_cases hj : j < n.toNat
        · simp only [if_pos hj, Option.map_some]
          rw [show ad G (sz + 1 + j) = H.size + 1 + j by rw [ad, if_pos (by omega)]; omega]
        · simp only [if_neg hj, Option.map_none]
      · rw [if_neg c1]
        by_cases c2 : sz < a ∧ a ≤ sz + n.toNat
        · rw [if_pos c2]
          refine ⟨by dsimp only; omega, by dsimp only; omega, ?_⟩
          have := hrow (a - sz - 1) (by omega)
          rw [show H.size + 1 + (a - sz - 1) = (gH G).size + a by omega] at this
          exact this
        · rw [if_neg c2]
          exact (r3 a (by omega)).kept (hold _ (by omega))
    · unfold grid
      rw [if_neg (by omega), if_neg (by omega)]
      exact r5 i hi
  obtain ⟨t, a1, b1⟩ := k p l e R s m0 args below meth c' F.heap locs (cells + 1 + n.toNat) (slots + n.toNat + n.toNat * m.toNat) lsR C (by omega) (by omega) hRl h4 h5 F rfl X'
  refine ⟨t, step t ?_, ?_⟩
  · have e : T.heap.size = ad G sz := by rw [hT, ad_new h3]
    rw [e]
    exact a1
  · rw [show cells + (1 + n.toNat + rc) = cells + 1 + n.toNat + rc by omega, show slots + (n.toNat + n.toNat * m.toNat + rs) = slots + n.toNat + n.toNat * m.toNat + rs by omega]
    exact b1
end
section
theorem mem_t1 {w : Cond} (h : w ∈ tables_1_1) : w ∈ lw_tbl := List.mem_append_right _ (List.mem_append_left _ h)
theorem mem_t2 {w : Cond} (h : w ∈ tables_1_2) : w ∈ lw_tbl := List.mem_append_right _ (List.mem_append_right _ (List.mem_append_left _ h))
theorem mem_t3 {w : Cond} (h : w ∈ tables_1_3) : w ∈ lw_tbl := List.mem_append_right _ (List.mem_append_right _ (List.mem_append_right _ (List.mem_append_left _ h)))
theorem mem_t4 {w : Cond} (h : w ∈ tables_1_4) : w ∈ lw_tbl := List.mem_append_right _ (List.mem_append_right _ (List.mem_append_right _ (List.mem_append_right _ h)))
theorem ci_L : Cond.initialized RL ∈ lw_g := mem_g (List.mem_of_getElem? (i := 62) (by decide +kernel)) (by decide +kernel)
theorem ci_X6 : Cond.initialized RX6 ∈ lw_g := mem_g (List.mem_of_getElem? (i := 63) (by decide +kernel)) (by decide +kernel)
theorem ci_J9 : Cond.initialized RJ9 ∈ lw_g := mem_g (List.mem_of_getElem? (i := 64) (by decide +kernel)) (by decide +kernel)
theorem ci_X0 : Cond.initialized RX0 ∈ lw_g := mem_g (List.mem_of_getElem? (i := 65) (by decide +kernel)) (by decide +kernel)
theorem ci_X3 : Cond.initialized RX3 ∈ lw_g := mem_g (List.mem_of_getElem? (i := 66) (by decide +kernel)) (by decide +kernel)
theorem ci_X2 : Cond.initialized RX2 ∈ lw_g := mem_g (List.mem_of_getElem? (i := 67) (by decide +kernel)) (by decide +kernel)
theorem ci_X4 : Cond.initialized RX4 ∈ lw_g := mem_g (List.mem_of_getElem? (i := 68) (by decide +kernel)) (by decide +kernel)
theorem ci_X1 : Cond.initialized RX1 ∈ lw_g := mem_g (List.mem_of_getElem? (i := 69) (by decide +kernel)) (by decide +kernel)
theorem ci_X5 : Cond.initialized RX5 ∈ lw_g := mem_g (List.mem_of_getElem? (i := 70) (by decide +kernel)) (by decide +kernel)
theorem ci_X7 : Cond.initialized RX7 ∈ lw_g := mem_g (List.mem_of_getElem? (i := 71) (by decide +kernel)) (by decide +kernel)
theorem ci_J7 : Cond.initialized RJ7 ∈ lw_g := mem_g (List.mem_of_getElem? (i := 72) (by decide +kernel)) (by decide +kernel)
theorem ci_J10 : Cond.initialized RJ10 ∈ lw_g := mem_g (List.mem_of_getElem? (i := 73) (by decide +kernel)) (by decide +kernel)
abbrev mX6_init : MD := (yX6_init, cX6_init, 4, none)
theorem wX6_init : MW mX6_init 2 := ⟨mem_g (mem_t1 (List.mem_of_getElem? (i := 16) rfl)) rfl, ci_X6, by decide +kernel, ⟨by decide +kernel, by decide +kernel, by decide +kernel⟩, by decide⟩
theorem iX6_init : Cond.instanceMethod yX6_init ∈ lw_g := mem_g (List.mem_of_getElem? (i := 77) (by decide +kernel)) (by decide +kernel)
abbrev mX6_greatestPrime : MD := (yX6_greatestPrime, cX6_greatestPrime, 6, (some .int))
theorem wX6_greatestPrime : MW mX6_greatestPrime 1 := ⟨mem_g (mem_t1 (List.mem_of_getElem? (i := 22) rfl)) rfl, ci_X6, by decide +kernel, ⟨by decide +kernel, by decide +kernel, by decide +kernel⟩, by decide⟩
theorem sX6_greatestPrime : Cond.static yX6_greatestPrime ∈ lw_g := mem_g (List.mem_of_getElem? (i := 83) (by decide +kernel)) (by decide +kernel)
abbrev mJ9_min_7cf53 : MD := (yJ9_min_7cf53, cJ9_min_7cf53, 2, (some .int))
theorem wJ9_min_7cf53 : MW mJ9_min_7cf53 2 := ⟨mem_g (mem_t1 (List.mem_of_getElem? (i := 27) rfl)) rfl, ci_J9, by decide +kernel, ⟨by decide +kernel, by decide +kernel, by decide +kernel⟩, by decide⟩
theorem sJ9_min_7cf53 : Cond.static yJ9_min_7cf53 ∈ lw_g := mem_g (List.mem_of_getElem? (i := 88) (by decide +kernel)) (by decide +kernel)
abbrev mJ9_max_7cf53 : MD := (yJ9_max_7cf53, cJ9_max_7cf53, 2, (some .int))
theorem wJ9_max_7cf53 : MW mJ9_max_7cf53 2 := ⟨mem_g (mem_t1 (List.mem_of_getElem? (i := 30) rfl)) rfl, ci_J9, by decide +kernel, ⟨by decide +kernel, by decide +kernel, by decide +kernel⟩, by decide⟩
theorem sJ9_max_7cf53 : Cond.static yJ9_max_7cf53 ∈ lw_g := mem_g (List.mem_of_getElem? (i := 91) (by decide +kernel)) (by decide +kernel)
abbrev mX0_init : MD := (yX0_init, cX0_init, 1, none)
theorem wX0_init : MW mX0_init 0 := ⟨mem_g (mem_t1 (List.mem_of_getElem? (i := 36) rfl)) rfl, ci_X0, by decide +kernel, ⟨by decide +kernel, by decide +kernel, by decide +kernel⟩, by decide⟩
theorem iX0_init : Cond.instanceMethod yX0_init ∈ lw_g := mem_g (List.mem_of_getElem? (i := 97) (by decide +kernel)) (by decide +kernel)
abbrev mX3_init : MD := (yX3_init, cX3_init, 2, none)
theorem wX3_init : MW mX3_init 1 := ⟨mem_g (mem_t1 (List.mem_of_getElem? (i := 56) rfl)) rfl, ci_X3, by decide +kernel, ⟨by decide +kernel, by decide +kernel, by decide +kernel⟩, by decide⟩
theorem iX3_init : Cond.instanceMethod yX3_init ∈ lw_g := mem_g (List.mem_of_getElem? (i := 117) (by decide +kernel)) (by decide +kernel)
abbrev mX2_init : MD := (yX2_init, cX2_init, 3, none)
theorem wX2_init : MW mX2_init 2 := ⟨mem_g (mem_t1 (List.mem_of_getElem? (i := 83) rfl)) rfl, ci_X2, by decide +kernel, ⟨by decide +kernel, by decide +kernel, by decide +kernel⟩, by decide⟩
theorem iX2_init : Cond.instanceMethod yX2_init ∈ lw_g := mem_g (List.mem_of_getElem? (i := 144) (by decide +kernel)) (by decide +kernel)
abbrev mX4_init : MD := (yX4_init, cX4_init, 1, none)
theorem wX4_init : MW mX4_init 0 := ⟨mem_g (mem_t1 (List.mem_of_getElem? (i := 114) rfl)) rfl, ci_X4, by decide +kernel, ⟨by decide +kernel, by decide +kernel, by decide +kernel⟩, by decide⟩
theorem iX4_init : Cond.instanceMethod yX4_init ∈ lw_g := mem_g (List.mem_of_getElem? (i := 175) (by decide +kernel)) (by decide +kernel)
abbrev mX1_init : MD := (yX1_init, cX1_init, 1, none)
theorem wX1_init : MW mX1_init 0 := ⟨mem_g (mem_t1 (List.mem_of_getElem? (i := 136) rfl)) rfl, ci_X1, by decide +kernel, ⟨by decide +kernel, by decide +kernel, by decide +kernel⟩, by decide⟩
theorem iX1_init : Cond.instanceMethod yX1_init ∈ lw_g := mem_g (List.mem_of_getElem? (i := 197) (by decide +kernel)) (by decide +kernel)
abbrev mX5_init : MD := (yX5_init, cX5_init, 1, none)
theorem wX5_init : MW mX5_init 0 := ⟨mem_g (mem_t1 (List.mem_of_getElem? (i := 155) rfl)) rfl, ci_X5, by decide +kernel, ⟨by decide +kernel, by decide +kernel, by decide +kernel⟩, by decide⟩
theorem iX5_init : Cond.instanceMethod yX5_init ∈ lw_g := mem_g (List.mem_of_getElem? (i := 216) (by decide +kernel)) (by decide +kernel)
abbrev mX6_lay : MD := (yX6_lay, cX6_lay, 6, (some .boolean))
theorem wX6_lay : MW mX6_lay 3 := ⟨mem_g (mem_t1 (List.mem_of_getElem? (i := 207) rfl)) rfl, ci_X6, by decide +kernel, ⟨by decide +kernel, by decide +kernel, by decide +kernel⟩, by decide⟩
theorem iX6_lay : MI mX6_lay 6 := ⟨mem_g (List.mem_of_getElem? (i := 267) (by decide +kernel)) (by decide +kernel), mem_g (List.mem_of_getElem? (i := 268) (by decide +kernel)) (by decide +kernel), _, rfl, rfl⟩
abbrev mX6_isLaying : MD := (yX6_isLaying, cX6_isLaying, 2, (some .boolean))
theorem wX6_isLaying : MW mX6_isLaying 1 := ⟨mem_g (mem_t1 (List.mem_of_getElem? (i := 211) rfl)) rfl, ci_X6, by decide +kernel, ⟨by decide +kernel, by decide +kernel, by decide +kernel⟩, by decide⟩
theorem iX6_isLaying : MI mX6_isLaying 6 := ⟨mem_g (List.mem_of_getElem? (i := 272) (by decide +kernel)) (by decide +kernel), mem_g (List.mem_of_getElem? (i := 0) (by decide +kernel)) (by decide +kernel), _, rfl, rfl⟩
abbrev mX6_isBelow : MD := (yX6_isBelow, cX6_isBelow, 2, (some .boolean))
theorem wX6_isBelow : MW mX6_isBelow 2 := ⟨mem_g (mem_t1 (List.mem_of_getElem? (i := 214) rfl)) rfl, ci_X6, by decide +kernel, ⟨by decide +kernel, by decide +kernel, by decide +kernel⟩, by decide⟩
theorem sX6_isBelow : Cond.static yX6_isBelow ∈ lw_g := mem_g (List.mem_of_getElem? (i := 275) (by decide +kernel)) (by decide +kernel)
abbrev mX6_areWays : MD := (yX6_areWays, cX6_areWays, 2, (some .boolean))
theorem wX6_areWays : MW mX6_areWays 1 := ⟨mem_g (mem_t1 (List.mem_of_getElem? (i := 218) rfl)) rfl, ci_X6, by decide +kernel, ⟨by decide +kernel, by decide +kernel, by decide +kernel⟩, by decide⟩
theorem iX6_areWays : MI mX6_areWays 6 := ⟨mem_g (List.mem_of_getElem? (i := 279) (by decide +kernel)) (by decide +kernel), mem_g (List.mem_of_getElem? (i := 1) (by decide +kernel)) (by decide +kernel), _, rfl, rfl⟩
abbrev mX6_areSizes : MD := (yX6_areSizes, cX6_areSizes, 3, (some .boolean))
theorem wX6_areSizes : MW mX6_areSizes 1 := ⟨mem_g (mem_t1 (List.mem_of_getElem? (i := 222) rfl)) rfl, ci_X6, by decide +kernel, ⟨by decide +kernel, by decide +kernel, by decide +kernel⟩, by decide⟩
theorem iX6_areSizes : MI mX6_areSizes 6 := ⟨mem_g (List.mem_of_getElem? (i := 283) (by decide +kernel)) (by decide +kernel), mem_g (List.mem_of_getElem? (i := 2) (by decide +kernel)) (by decide +kernel), _, rfl, rfl⟩
abbrev mX6_sizeIn : MD := (yX6_sizeIn, cX6_sizeIn, 2, (some .int))
theorem wX6_sizeIn : MW mX6_sizeIn 2 := ⟨mem_g (mem_t1 (List.mem_of_getElem? (i := 225) rfl)) rfl, ci_X6, by decide +kernel, ⟨by decide +kernel, by decide +kernel, by decide +kernel⟩, by decide⟩
theorem sX6_sizeIn : Cond.static yX6_sizeIn ∈ lw_g := mem_g (List.mem_of_getElem? (i := 286) (by decide +kernel)) (by decide +kernel)
abbrev mX0_empty : MD := (yX0_empty, cX0_empty, 2, none)
theorem wX0_empty : MW mX0_empty 1 := ⟨mem_g (mem_t1 (List.mem_of_getElem? (i := 229) rfl)) rfl, ci_X0, by decide +kernel, ⟨by decide +kernel, by decide +kernel, by decide +kernel⟩, by decide⟩
theorem iX0_empty : MI mX0_empty 0 := ⟨mem_g (List.mem_of_getElem? (i := 289) (by decide +kernel)) (by decide +kernel), mem_g (List.mem_of_getElem? (i := 290) (by decide +kernel)) (by decide +kernel), _, rfl, rfl⟩
abbrev mJ7_fill_53178 : MD := (yJ7_fill_53178, cJ7_fill_53178, 4, none)
theorem wJ7_fill_53178 : MW mJ7_fill_53178 2 := ⟨mem_g (mem_t1 (List.mem_of_getElem? (i := 232) rfl)) rfl, ci_J7, by decide +kernel, ⟨by decide +kernel, by decide +kernel, by decide +kernel⟩, by decide⟩
theorem sJ7_fill_53178 : Cond.static yJ7_fill_53178 ∈ lw_g := mem_g (List.mem_of_getElem? (i := 293) (by decide +kernel)) (by decide +kernel)
abbrev mX6_set : MD := (yX6_set, cX6_set, 6, (some .boolean))
theorem wX6_set : MW mX6_set 5 := ⟨mem_g (mem_t1 (List.mem_of_getElem? (i := 236) rfl)) rfl, ci_X6, by decide +kernel, ⟨by decide +kernel, by decide +kernel, by decide +kernel⟩, by decide⟩
theorem iX6_set : MI mX6_set 6 := ⟨mem_g (List.mem_of_getElem? (i := 296) (by decide +kernel)) (by decide +kernel), mem_g (List.mem_of_getElem? (i := 297) (by decide +kernel)) (by decide +kernel), _, rfl, rfl⟩
abbrev mX6_isCell : MD := (yX6_isCell, cX6_isCell, 5, (some .boolean))
theorem wX6_isCell : MW mX6_isCell 4 := ⟨mem_g (mem_t2 (List.mem_of_getElem? (i := 0) rfl)) rfl, ci_X6, by decide +kernel, ⟨by decide +kernel, by decide +kernel, by decide +kernel⟩, by decide⟩
theorem iX6_isCell : MI mX6_isCell 6 := ⟨mem_g (List.mem_of_getElem? (i := 301) (by decide +kernel)) (by decide +kernel), mem_g (List.mem_of_getElem? (i := 3) (by decide +kernel)) (by decide +kernel), _, rfl, rfl⟩
abbrev mX6_isArrow : MD := (yX6_isArrow, cX6_isArrow, 2, (some .boolean))
theorem wX6_isArrow : MW mX6_isArrow 1 := ⟨mem_g (mem_t2 (List.mem_of_getElem? (i := 4) rfl)) rfl, ci_X6, by decide +kernel, ⟨by decide +kernel, by decide +kernel, by decide +kernel⟩, by decide⟩
theorem iX6_isArrow : MI mX6_isArrow 6 := ⟨mem_g (List.mem_of_getElem? (i := 305) (by decide +kernel)) (by decide +kernel), mem_g (List.mem_of_getElem? (i := 4) (by decide +kernel)) (by decide +kernel), _, rfl, rfl⟩
abbrev mX0_rowsOf : MD := (yX0_rowsOf, cX0_rowsOf, 2, (some .int))
theorem wX0_rowsOf : MW mX0_rowsOf 1 := ⟨mem_g (mem_t2 (List.mem_of_getElem? (i := 8) rfl)) rfl, ci_X0, by decide +kernel, ⟨by decide +kernel, by decide +kernel, by decide +kernel⟩, by decide⟩
theorem iX0_rowsOf : MI mX0_rowsOf 0 := ⟨mem_g (List.mem_of_getElem? (i := 308) (by decide +kernel)) (by decide +kernel), mem_g (List.mem_of_getElem? (i := 309) (by decide +kernel)) (by decide +kernel), _, rfl, rfl⟩
abbrev mX0_target : MD := (yX0_target, cX0_target, 2, (some .int))
theorem wX0_target : MW mX0_target 1 := ⟨mem_g (mem_t2 (List.mem_of_getElem? (i := 12) rfl)) rfl, ci_X0, by decide +kernel, ⟨by decide +kernel, by decide +kernel, by decide +kernel⟩, by decide⟩
theorem iX0_target : MI mX0_target 0 := ⟨mem_g (List.mem_of_getElem? (i := 312) (by decide +kernel)) (by decide +kernel), mem_g (List.mem_of_getElem? (i := 313) (by decide +kernel)) (by decide +kernel), _, rfl, rfl⟩
abbrev mX0_isLeft : MD := (yX0_isLeft, cX0_isLeft, 2, (some .boolean))
theorem wX0_isLeft : MW mX0_isLeft 1 := ⟨mem_g (mem_t2 (List.mem_of_getElem? (i := 16) rfl)) rfl, ci_X0, by decide +kernel, ⟨by decide +kernel, by decide +kernel, by decide +kernel⟩, by decide⟩
theorem iX0_isLeft : MI mX0_isLeft 0 := ⟨mem_g (List.mem_of_getElem? (i := 316) (by decide +kernel)) (by decide +kernel), mem_g (List.mem_of_getElem? (i := 317) (by decide +kernel)) (by decide +kernel), _, rfl, rfl⟩
abbrev mX0_columnsOf : MD := (yX0_columnsOf, cX0_columnsOf, 2, (some .int))
theorem wX0_columnsOf : MW mX0_columnsOf 1 := ⟨mem_g (mem_t2 (List.mem_of_getElem? (i := 20) rfl)) rfl, ci_X0, by decide +kernel, ⟨by decide +kernel, by decide +kernel, by decide +kernel⟩, by decide⟩
theorem iX0_columnsOf : MI mX0_columnsOf 0 := ⟨mem_g (List.mem_of_getElem? (i := 320) (by decide +kernel)) (by decide +kernel), mem_g (List.mem_of_getElem? (i := 321) (by decide +kernel)) (by decide +kernel), _, rfl, rfl⟩
abbrev mX0_source : MD := (yX0_source, cX0_source, 2, (some .int))
theorem wX0_source : MW mX0_source 1 := ⟨mem_g (mem_t2 (List.mem_of_getElem? (i := 24) rfl)) rfl, ci_X0, by decide +kernel, ⟨by decide +kernel, by decide +kernel, by decide +kernel⟩, by decide⟩
theorem iX0_source : MI mX0_source 0 := ⟨mem_g (List.mem_of_getElem? (i := 324) (by decide +kernel)) (by decide +kernel), mem_g (List.mem_of_getElem? (i := 325) (by decide +kernel)) (by decide +kernel), _, rfl, rfl⟩
abbrev mJ9_floorMod_7cf53 : MD := (yJ9_floorMod_7cf53, cJ9_floorMod_7cf53, 3, (some .int))
theorem wJ9_floorMod_7cf53 : MW mJ9_floorMod_7cf53 2 := ⟨mem_g (mem_t2 (List.mem_of_getElem? (i := 27) rfl)) rfl, ci_J9, by decide +kernel, ⟨by decide +kernel, by decide +kernel, by decide +kernel⟩, by decide⟩
theorem sJ9_floorMod_7cf53 : Cond.static yJ9_floorMod_7cf53 ∈ lw_g := mem_g (List.mem_of_getElem? (i := 328) (by decide +kernel)) (by decide +kernel)
abbrev mX0_put : MD := (yX0_put, cX0_put, 5, none)
theorem wX0_put : MW mX0_put 4 := ⟨mem_g (mem_t2 (List.mem_of_getElem? (i := 31) rfl)) rfl, ci_X0, by decide +kernel, ⟨by decide +kernel, by decide +kernel, by decide +kernel⟩, by decide⟩
theorem iX0_put : MI mX0_put 0 := ⟨mem_g (List.mem_of_getElem? (i := 331) (by decide +kernel)) (by decide +kernel), mem_g (List.mem_of_getElem? (i := 332) (by decide +kernel)) (by decide +kernel), _, rfl, rfl⟩
abbrev mX6_get : MD := (yX6_get, cX6_get, 5, (some .int))
theorem wX6_get : MW mX6_get 4 := ⟨mem_g (mem_t2 (List.mem_of_getElem? (i := 35) rfl)) rfl, ci_X6, by decide +kernel, ⟨by decide +kernel, by decide +kernel, by decide +kernel⟩, by decide⟩
theorem iX6_get : MI mX6_get 6 := ⟨mem_g (List.mem_of_getElem? (i := 335) (by decide +kernel)) (by decide +kernel), mem_g (List.mem_of_getElem? (i := 336) (by decide +kernel)) (by decide +kernel), _, rfl, rfl⟩
abbrev mX0_number : MD := (yX0_number, cX0_number, 4, (some .int))
theorem wX0_number : MW mX0_number 3 := ⟨mem_g (mem_t2 (List.mem_of_getElem? (i := 39) rfl)) rfl, ci_X0, by decide +kernel, ⟨by decide +kernel, by decide +kernel, by decide +kernel⟩, by decide⟩
theorem iX0_number : MI mX0_number 0 := ⟨mem_g (List.mem_of_getElem? (i := 339) (by decide +kernel)) (by decide +kernel), mem_g (List.mem_of_getElem? (i := 340) (by decide +kernel)) (by decide +kernel), _, rfl, rfl⟩
abbrev mX6_size : MD := (yX6_size, cX6_size, 3, (some .int))
theorem wX6_size : MW mX6_size 2 := ⟨mem_g (mem_t2 (List.mem_of_getElem? (i := 43) rfl)) rfl, ci_X6, by decide +kernel, ⟨by decide +kernel, by decide +kernel, by decide +kernel⟩, by decide⟩
theorem iX6_size : MI mX6_size 6 := ⟨mem_g (List.mem_of_getElem? (i := 343) (by decide +kernel)) (by decide +kernel), mem_g (List.mem_of_getElem? (i := 344) (by decide +kernel)) (by decide +kernel), _, rfl, rfl⟩
abbrev mX6_isPost : MD := (yX6_isPost, cX6_isPost, 2, (some .boolean))
theorem wX6_isPost : MW mX6_isPost 1 := ⟨mem_g (mem_t2 (List.mem_of_getElem? (i := 47) rfl)) rfl, ci_X6, by decide +kernel, ⟨by decide +kernel, by decide +kernel, by decide +kernel⟩, by decide⟩
theorem iX6_isPost : MI mX6_isPost 6 := ⟨mem_g (List.mem_of_getElem? (i := 348) (by decide +kernel)) (by decide +kernel), mem_g (List.mem_of_getElem? (i := 5) (by decide +kernel)) (by decide +kernel), _, rfl, rfl⟩
abbrev mX6_ways : MD := (yX6_ways, cX6_ways, 2, (some .int))
theorem wX6_ways : MW mX6_ways 1 := ⟨mem_g (mem_t2 (List.mem_of_getElem? (i := 51) rfl)) rfl, ci_X6, by decide +kernel, ⟨by decide +kernel, by decide +kernel, by decide +kernel⟩, by decide⟩
theorem iX6_ways : MI mX6_ways 6 := ⟨mem_g (List.mem_of_getElem? (i := 351) (by decide +kernel)) (by decide +kernel), mem_g (List.mem_of_getElem? (i := 352) (by decide +kernel)) (by decide +kernel), _, rfl, rfl⟩
abbrev mX6_span : MD := (yX6_span, cX6_span, 7, (some .boolean))
theorem wX6_span : MW mX6_span 4 := ⟨mem_g (mem_t2 (List.mem_of_getElem? (i := 55) rfl)) rfl, ci_X6, by decide +kernel, ⟨by decide +kernel, by decide +kernel, by decide +kernel⟩, by decide⟩
theorem iX6_span : MI mX6_span 6 := ⟨mem_g (List.mem_of_getElem? (i := 355) (by decide +kernel)) (by decide +kernel), mem_g (List.mem_of_getElem? (i := 356) (by decide +kernel)) (by decide +kernel), _, rfl, rfl⟩
abbrev mX6_isSpan : MD := (yX6_isSpan, cX6_isSpan, 3, (some .boolean))
theorem wX6_isSpan : MW mX6_isSpan 2 := ⟨mem_g (mem_t2 (List.mem_of_getElem? (i := 59) rfl)) rfl, ci_X6, by decide +kernel, ⟨by decide +kernel, by decide +kernel, by decide +kernel⟩, by decide⟩
theorem iX6_isSpan : MI mX6_isSpan 6 := ⟨mem_g (List.mem_of_getElem? (i := 360) (by decide +kernel)) (by decide +kernel), mem_g (List.mem_of_getElem? (i := 6) (by decide +kernel)) (by decide +kernel), _, rfl, rfl⟩
abbrev mX6_beside : MD := (yX6_beside, cX6_beside, 5, (some .boolean))
theorem wX6_beside : MW mX6_beside 3 := ⟨mem_g (mem_t2 (List.mem_of_getElem? (i := 63) rfl)) rfl, ci_X6, by decide +kernel, ⟨by decide +kernel, by decide +kernel, by decide +kernel⟩, by decide⟩
theorem iX6_beside : MI mX6_beside 6 := ⟨mem_g (List.mem_of_getElem? (i := 363) (by decide +kernel)) (by decide +kernel), mem_g (List.mem_of_getElem? (i := 364) (by decide +kernel)) (by decide +kernel), _, rfl, rfl⟩
abbrev mX6_haveSameWays : MD := (yX6_haveSameWays, cX6_haveSameWays, 3, (some .boolean))
theorem wX6_haveSameWays : MW mX6_haveSameWays 2 := ⟨mem_g (mem_t2 (List.mem_of_getElem? (i := 67) rfl)) rfl, ci_X6, by decide +kernel, ⟨by decide +kernel, by decide +kernel, by decide +kernel⟩, by decide⟩
theorem iX6_haveSameWays : MI mX6_haveSameWays 6 := ⟨mem_g (List.mem_of_getElem? (i := 368) (by decide +kernel)) (by decide +kernel), mem_g (List.mem_of_getElem? (i := 7) (by decide +kernel)) (by decide +kernel), _, rfl, rfl⟩
abbrev mX6_fitBeside : MD := (yX6_fitBeside, cX6_fitBeside, 4, (some .boolean))
theorem wX6_fitBeside : MW mX6_fitBeside 2 := ⟨mem_g (mem_t2 (List.mem_of_getElem? (i := 71) rfl)) rfl, ci_X6, by decide +kernel, ⟨by decide +kernel, by decide +kernel, by decide +kernel⟩, by decide⟩
theorem iX6_fitBeside : MI mX6_fitBeside 6 := ⟨mem_g (List.mem_of_getElem? (i := 372) (by decide +kernel)) (by decide +kernel), mem_g (List.mem_of_getElem? (i := 8) (by decide +kernel)) (by decide +kernel), _, rfl, rfl⟩
abbrev mX0_putTable : MD := (yX0_putTable, cX0_putTable, 9, none)
theorem wX0_putTable : MW mX0_putTable 4 := ⟨mem_g (mem_t2 (List.mem_of_getElem? (i := 75) rfl)) rfl, ci_X0, by decide +kernel, ⟨by decide +kernel, by decide +kernel, by decide +kernel⟩, by decide⟩
theorem iX0_putTable : MI mX0_putTable 0 := ⟨mem_g (List.mem_of_getElem? (i := 375) (by decide +kernel)) (by decide +kernel), mem_g (List.mem_of_getElem? (i := 376) (by decide +kernel)) (by decide +kernel), _, rfl, rfl⟩
abbrev mX0_copy : MD := (yX0_copy, cX0_copy, 2, none)
theorem wX0_copy : MW mX0_copy 1 := ⟨mem_g (mem_t2 (List.mem_of_getElem? (i := 83) rfl)) rfl, ci_X0, by decide +kernel, ⟨by decide +kernel, by decide +kernel, by decide +kernel⟩, by decide⟩
theorem iX0_copy : MI mX0_copy 0 := ⟨mem_g (List.mem_of_getElem? (i := 383) (by decide +kernel)) (by decide +kernel), mem_g (List.mem_of_getElem? (i := 384) (by decide +kernel)) (by decide +kernel), _, rfl, rfl⟩
abbrev mX6_mix : MD := (yX6_mix, cX6_mix, 8, (some .boolean))
theorem wX6_mix : MW mX6_mix 5 := ⟨mem_g (mem_t2 (List.mem_of_getElem? (i := 90) rfl)) rfl, ci_X6, by decide +kernel, ⟨by decide +kernel, by decide +kernel, by decide +kernel⟩, by decide⟩
theorem iX6_mix : MI mX6_mix 6 := ⟨mem_g (List.mem_of_getElem? (i := 390) (by decide +kernel)) (by decide +kernel), mem_g (List.mem_of_getElem? (i := 391) (by decide +kernel)) (by decide +kernel), _, rfl, rfl⟩
abbrev mX6_addRow : MD := (yX6_addRow, cX6_addRow, 9, none)
theorem wX6_addRow : MW mX6_addRow 5 := ⟨mem_g (mem_t2 (List.mem_of_getElem? (i := 95) rfl)) rfl, ci_X6, by decide +kernel, ⟨by decide +kernel, by decide +kernel, by decide +kernel⟩, by decide⟩
theorem iX6_addRow : MI mX6_addRow 6 := ⟨mem_g (List.mem_of_getElem? (i := 396) (by decide +kernel)) (by decide +kernel), mem_g (List.mem_of_getElem? (i := 9) (by decide +kernel)) (by decide +kernel), _, rfl, rfl⟩
abbrev mX6_addColumn : MD := (yX6_addColumn, cX6_addColumn, 9, none)
theorem wX6_addColumn : MW mX6_addColumn 5 := ⟨mem_g (mem_t2 (List.mem_of_getElem? (i := 99) rfl)) rfl, ci_X6, by decide +kernel, ⟨by decide +kernel, by decide +kernel, by decide +kernel⟩, by decide⟩
theorem iX6_addColumn : MI mX6_addColumn 6 := ⟨mem_g (List.mem_of_getElem? (i := 400) (by decide +kernel)) (by decide +kernel), mem_g (List.mem_of_getElem? (i := 10) (by decide +kernel)) (by decide +kernel), _, rfl, rfl⟩
abbrev mX6_turn : MD := (yX6_turn, cX6_turn, 8, (some .int))
theorem wX6_turn : MW mX6_turn 3 := ⟨mem_g (mem_t2 (List.mem_of_getElem? (i := 103) rfl)) rfl, ci_X6, by decide +kernel, ⟨by decide +kernel, by decide +kernel, by decide +kernel⟩, by decide⟩
theorem iX6_turn : MI mX6_turn 6 := ⟨mem_g (List.mem_of_getElem? (i := 403) (by decide +kernel)) (by decide +kernel), mem_g (List.mem_of_getElem? (i := 404) (by decide +kernel)) (by decide +kernel), _, rfl, rfl⟩
abbrev mX6_isTurning : MD := (yX6_isTurning, cX6_isTurning, 3, (some .boolean))
theorem wX6_isTurning : MW mX6_isTurning 2 := ⟨mem_g (mem_t2 (List.mem_of_getElem? (i := 107) rfl)) rfl, ci_X6, by decide +kernel, ⟨by decide +kernel, by decide +kernel, by decide +kernel⟩, by decide⟩
theorem iX6_isTurning : MI mX6_isTurning 6 := ⟨mem_g (List.mem_of_getElem? (i := 408) (by decide +kernel)) (by decide +kernel), mem_g (List.mem_of_getElem? (i := 11) (by decide +kernel)) (by decide +kernel), _, rfl, rfl⟩
abbrev mX6_gatherBeside : MD := (yX6_gatherBeside, cX6_gatherBeside, 8, none)
theorem wX6_gatherBeside : MW mX6_gatherBeside 3 := ⟨mem_g (mem_t2 (List.mem_of_getElem? (i := 112) rfl)) rfl, ci_X6, by decide +kernel, ⟨by decide +kernel, by decide +kernel, by decide +kernel⟩, by decide⟩
theorem iX6_gatherBeside : MI mX6_gatherBeside 6 := ⟨mem_g (List.mem_of_getElem? (i := 413) (by decide +kernel)) (by decide +kernel), mem_g (List.mem_of_getElem? (i := 12) (by decide +kernel)) (by decide +kernel), _, rfl, rfl⟩
abbrev mX3_start : MD := (yX3_start, cX3_start, 3, none)
theorem wX3_start : MW mX3_start 2 := ⟨mem_g (mem_t2 (List.mem_of_getElem? (i := 116) rfl)) rfl, ci_X3, by decide +kernel, ⟨by decide +kernel, by decide +kernel, by decide +kernel⟩, by decide⟩
theorem iX3_start : MI mX3_start 3 := ⟨mem_g (List.mem_of_getElem? (i := 416) (by decide +kernel)) (by decide +kernel), mem_g (List.mem_of_getElem? (i := 417) (by decide +kernel)) (by decide +kernel), _, rfl, rfl⟩
abbrev mX0_numberBeside : MD := (yX0_numberBeside, cX0_numberBeside, 5, (some .int))
theorem wX0_numberBeside : MW mX0_numberBeside 4 := ⟨mem_g (mem_t2 (List.mem_of_getElem? (i := 122) rfl)) rfl, ci_X0, by decide +kernel, ⟨by decide +kernel, by decide +kernel, by decide +kernel⟩, by decide⟩
theorem iX0_numberBeside : MI mX0_numberBeside 0 := ⟨mem_g (List.mem_of_getElem? (i := 422) (by decide +kernel)) (by decide +kernel), mem_g (List.mem_of_getElem? (i := 423) (by decide +kernel)) (by decide +kernel), _, rfl, rfl⟩
abbrev mX3_put : MD := (yX3_put, cX3_put, 4, none)
theorem wX3_put : MW mX3_put 3 := ⟨mem_g (mem_t2 (List.mem_of_getElem? (i := 126) rfl)) rfl, ci_X3, by decide +kernel, ⟨by decide +kernel, by decide +kernel, by decide +kernel⟩, by decide⟩
theorem iX3_put : MI mX3_put 3 := ⟨mem_g (List.mem_of_getElem? (i := 426) (by decide +kernel)) (by decide +kernel), mem_g (List.mem_of_getElem? (i := 427) (by decide +kernel)) (by decide +kernel), _, rfl, rfl⟩
abbrev mX3_bringToLeast : MD := (yX3_bringToLeast, cX3_bringToLeast, 4, none)
theorem wX3_bringToLeast : MW mX3_bringToLeast 0 := ⟨mem_g (mem_t2 (List.mem_of_getElem? (i := 130) rfl)) rfl, ci_X3, by decide +kernel, ⟨by decide +kernel, by decide +kernel, by decide +kernel⟩, by decide⟩
theorem iX3_bringToLeast : MI mX3_bringToLeast 3 := ⟨mem_g (List.mem_of_getElem? (i := 430) (by decide +kernel)) (by decide +kernel), mem_g (List.mem_of_getElem? (i := 431) (by decide +kernel)) (by decide +kernel), _, rfl, rfl⟩
abbrev mX3_rowWithNumber : MD := (yX3_rowWithNumber, cX3_rowWithNumber, 4, (some .int))
theorem wX3_rowWithNumber : MW mX3_rowWithNumber 2 := ⟨mem_g (mem_t2 (List.mem_of_getElem? (i := 134) rfl)) rfl, ci_X3, by decide +kernel, ⟨by decide +kernel, by decide +kernel, by decide +kernel⟩, by decide⟩
theorem iX3_rowWithNumber : MI mX3_rowWithNumber 3 := ⟨mem_g (List.mem_of_getElem? (i := 435) (by decide +kernel)) (by decide +kernel), mem_g (List.mem_of_getElem? (i := 13) (by decide +kernel)) (by decide +kernel), _, rfl, rfl⟩
abbrev mX3_swap : MD := (yX3_swap, cX3_swap, 4, none)
theorem wX3_swap : MW mX3_swap 2 := ⟨mem_g (mem_t2 (List.mem_of_getElem? (i := 138) rfl)) rfl, ci_X3, by decide +kernel, ⟨by decide +kernel, by decide +kernel, by decide +kernel⟩, by decide⟩
theorem iX3_swap : MI mX3_swap 3 := ⟨mem_g (List.mem_of_getElem? (i := 439) (by decide +kernel)) (by decide +kernel), mem_g (List.mem_of_getElem? (i := 14) (by decide +kernel)) (by decide +kernel), _, rfl, rfl⟩
abbrev mX3_inverse : MD := (yX3_inverse, cX3_inverse, 3, (some .int))
theorem wX3_inverse : MW mX3_inverse 1 := ⟨mem_g (mem_t2 (List.mem_of_getElem? (i := 142) rfl)) rfl, ci_X3, by decide +kernel, ⟨by decide +kernel, by decide +kernel, by decide +kernel⟩, by decide⟩
theorem iX3_inverse : MI mX3_inverse 3 := ⟨mem_g (List.mem_of_getElem? (i := 443) (by decide +kernel)) (by decide +kernel), mem_g (List.mem_of_getElem? (i := 15) (by decide +kernel)) (by decide +kernel), _, rfl, rfl⟩
abbrev mX3_scale : MD := (yX3_scale, cX3_scale, 6, none)
theorem wX3_scale : MW mX3_scale 3 := ⟨mem_g (mem_t2 (List.mem_of_getElem? (i := 146) rfl)) rfl, ci_X3, by decide +kernel, ⟨by decide +kernel, by decide +kernel, by decide +kernel⟩, by decide⟩
theorem iX3_scale : MI mX3_scale 3 := ⟨mem_g (List.mem_of_getElem? (i := 447) (by decide +kernel)) (by decide +kernel), mem_g (List.mem_of_getElem? (i := 16) (by decide +kernel)) (by decide +kernel), _, rfl, rfl⟩
abbrev mX3_clearElsewhere : MD := (yX3_clearElsewhere, cX3_clearElsewhere, 8, none)
theorem wX3_clearElsewhere : MW mX3_clearElsewhere 2 := ⟨mem_g (mem_t2 (List.mem_of_getElem? (i := 150) rfl)) rfl, ci_X3, by decide +kernel, ⟨by decide +kernel, by decide +kernel, by decide +kernel⟩, by decide⟩
theorem iX3_clearElsewhere : MI mX3_clearElsewhere 3 := ⟨mem_g (List.mem_of_getElem? (i := 451) (by decide +kernel)) (by decide +kernel), mem_g (List.mem_of_getElem? (i := 17) (by decide +kernel)) (by decide +kernel), _, rfl, rfl⟩
abbrev mX3_freeCount : MD := (yX3_freeCount, cX3_freeCount, 1, (some .int))
theorem wX3_freeCount : MW mX3_freeCount 0 := ⟨mem_g (mem_t2 (List.mem_of_getElem? (i := 154) rfl)) rfl, ci_X3, by decide +kernel, ⟨by decide +kernel, by decide +kernel, by decide +kernel⟩, by decide⟩
theorem iX3_freeCount : MI mX3_freeCount 3 := ⟨mem_g (List.mem_of_getElem? (i := 454) (by decide +kernel)) (by decide +kernel), mem_g (List.mem_of_getElem? (i := 455) (by decide +kernel)) (by decide +kernel), _, rfl, rfl⟩
abbrev mX6_putTurned : MD := (yX6_putTurned, cX6_putTurned, 9, none)
theorem wX6_putTurned : MW mX6_putTurned 4 := ⟨mem_g (mem_t2 (List.mem_of_getElem? (i := 158) rfl)) rfl, ci_X6, by decide +kernel, ⟨by decide +kernel, by decide +kernel, by decide +kernel⟩, by decide⟩
theorem iX6_putTurned : MI mX6_putTurned 6 := ⟨mem_g (List.mem_of_getElem? (i := 459) (by decide +kernel)) (by decide +kernel), mem_g (List.mem_of_getElem? (i := 18) (by decide +kernel)) (by decide +kernel), _, rfl, rfl⟩
abbrev mX0_reverse : MD := (yX0_reverse, cX0_reverse, 3, none)
theorem wX0_reverse : MW mX0_reverse 1 := ⟨mem_g (mem_t2 (List.mem_of_getElem? (i := 162) rfl)) rfl, ci_X0, by decide +kernel, ⟨by decide +kernel, by decide +kernel, by decide +kernel⟩, by decide⟩
theorem iX0_reverse : MI mX0_reverse 0 := ⟨mem_g (List.mem_of_getElem? (i := 462) (by decide +kernel)) (by decide +kernel), mem_g (List.mem_of_getElem? (i := 463) (by decide +kernel)) (by decide +kernel), _, rfl, rfl⟩
abbrev mX3_isFree : MD := (yX3_isFree, cX3_isFree, 2, (some .boolean))
theorem wX3_isFree : MW mX3_isFree 1 := ⟨mem_g (mem_t2 (List.mem_of_getElem? (i := 166) rfl)) rfl, ci_X3, by decide +kernel, ⟨by decide +kernel, by decide +kernel, by decide +kernel⟩, by decide⟩
theorem iX3_isFree : MI mX3_isFree 3 := ⟨mem_g (List.mem_of_getElem? (i := 466) (by decide +kernel)) (by decide +kernel), mem_g (List.mem_of_getElem? (i := 467) (by decide +kernel)) (by decide +kernel), _, rfl, rfl⟩
abbrev mX3_rest : MD := (yX3_rest, cX3_rest, 4, (some .int))
theorem wX3_rest : MW mX3_rest 2 := ⟨mem_g (mem_t2 (List.mem_of_getElem? (i := 170) rfl)) rfl, ci_X3, by decide +kernel, ⟨by decide +kernel, by decide +kernel, by decide +kernel⟩, by decide⟩
theorem iX3_rest : MI mX3_rest 3 := ⟨mem_g (List.mem_of_getElem? (i := 470) (by decide +kernel)) (by decide +kernel), mem_g (List.mem_of_getElem? (i := 471) (by decide +kernel)) (by decide +kernel), _, rfl, rfl⟩
abbrev mX6_maps : MD := (yX6_maps, cX6_maps, 3, (some .int))
theorem wX6_maps : MW mX6_maps 2 := ⟨mem_g (mem_t2 (List.mem_of_getElem? (i := 174) rfl)) rfl, ci_X6, by decide +kernel, ⟨by decide +kernel, by decide +kernel, by decide +kernel⟩, by decide⟩
theorem iX6_maps : MI mX6_maps 6 := ⟨mem_g (List.mem_of_getElem? (i := 474) (by decide +kernel)) (by decide +kernel), mem_g (List.mem_of_getElem? (i := 475) (by decide +kernel)) (by decide +kernel), _, rfl, rfl⟩
abbrev mX2_part : MD := (yX2_part, cX2_part, 7, none)
theorem wX2_part : MW mX2_part 2 := ⟨mem_g (mem_t2 (List.mem_of_getElem? (i := 178) rfl)) rfl, ci_X2, by decide +kernel, ⟨by decide +kernel, by decide +kernel, by decide +kernel⟩, by decide⟩
theorem iX2_part : MI mX2_part 2 := ⟨mem_g (List.mem_of_getElem? (i := 478) (by decide +kernel)) (by decide +kernel), mem_g (List.mem_of_getElem? (i := 479) (by decide +kernel)) (by decide +kernel), _, rfl, rfl⟩
abbrev mX2_coverFrom : MD := (yX2_coverFrom, cX2_coverFrom, 6, none)
theorem wX2_coverFrom : MW mX2_coverFrom 3 := ⟨mem_g (mem_t2 (List.mem_of_getElem? (i := 182) rfl)) rfl, ci_X2, by decide +kernel, ⟨by decide +kernel, by decide +kernel, by decide +kernel⟩, by decide⟩
theorem iX2_coverFrom : MI mX2_coverFrom 2 := ⟨mem_g (List.mem_of_getElem? (i := 483) (by decide +kernel)) (by decide +kernel), mem_g (List.mem_of_getElem? (i := 19) (by decide +kernel)) (by decide +kernel), _, rfl, rfl⟩
abbrev mX3_startWhole : MD := (yX3_startWhole, cX3_startWhole, 3, none)
theorem wX3_startWhole : MW mX3_startWhole 1 := ⟨mem_g (mem_t2 (List.mem_of_getElem? (i := 187) rfl)) rfl, ci_X3, by decide +kernel, ⟨by decide +kernel, by decide +kernel, by decide +kernel⟩, by decide⟩
theorem iX3_startWhole : MI mX3_startWhole 3 := ⟨mem_g (List.mem_of_getElem? (i := 487) (by decide +kernel)) (by decide +kernel), mem_g (List.mem_of_getElem? (i := 488) (by decide +kernel)) (by decide +kernel), _, rfl, rfl⟩
abbrev mX2_lead : MD := (yX2_lead, cX2_lead, 5, (some (.object "SpanLoom$Rows")))
theorem wX2_lead : MW mX2_lead 3 := ⟨mem_g (mem_t2 (List.mem_of_getElem? (i := 193) rfl)) rfl, ci_X2, by decide +kernel, ⟨by decide +kernel, by decide +kernel, by decide +kernel⟩, by decide⟩
theorem iX2_lead : MI mX2_lead 2 := ⟨mem_g (List.mem_of_getElem? (i := 494) (by decide +kernel)) (by decide +kernel), mem_g (List.mem_of_getElem? (i := 20) (by decide +kernel)) (by decide +kernel), _, rfl, rfl⟩
abbrev mX2_findConditions : MD := (yX2_findConditions, cX2_findConditions, 9, none)
theorem wX2_findConditions : MW mX2_findConditions 3 := ⟨mem_g (mem_t2 (List.mem_of_getElem? (i := 198) rfl)) rfl, ci_X2, by decide +kernel, ⟨by decide +kernel, by decide +kernel, by decide +kernel⟩, by decide⟩
theorem iX2_findConditions : MI mX2_findConditions 2 := ⟨mem_g (List.mem_of_getElem? (i := 499) (by decide +kernel)) (by decide +kernel), mem_g (List.mem_of_getElem? (i := 21) (by decide +kernel)) (by decide +kernel), _, rfl, rfl⟩
abbrev mX2_solveConditions : MD := (yX2_solveConditions, cX2_solveConditions, 5, none)
theorem wX2_solveConditions : MW mX2_solveConditions 1 := ⟨mem_g (mem_t2 (List.mem_of_getElem? (i := 208) rfl)) rfl, ci_X2, by decide +kernel, ⟨by decide +kernel, by decide +kernel, by decide +kernel⟩, by decide⟩
theorem iX2_solveConditions : MI mX2_solveConditions 2 := ⟨mem_g (List.mem_of_getElem? (i := 509) (by decide +kernel)) (by decide +kernel), mem_g (List.mem_of_getElem? (i := 22) (by decide +kernel)) (by decide +kernel), _, rfl, rfl⟩
abbrev mX2_leadAlong : MD := (yX2_leadAlong, cX2_leadAlong, 9, none)
theorem wX2_leadAlong : MW mX2_leadAlong 4 := ⟨mem_g (mem_t2 (List.mem_of_getElem? (i := 212) rfl)) rfl, ci_X2, by decide +kernel, ⟨by decide +kernel, by decide +kernel, by decide +kernel⟩, by decide⟩
theorem iX2_leadAlong : MI mX2_leadAlong 2 := ⟨mem_g (List.mem_of_getElem? (i := 513) (by decide +kernel)) (by decide +kernel), mem_g (List.mem_of_getElem? (i := 23) (by decide +kernel)) (by decide +kernel), _, rfl, rfl⟩
abbrev mX3_number : MD := (yX3_number, cX3_number, 3, (some .int))
theorem wX3_number : MW mX3_number 2 := ⟨mem_g (mem_t2 (List.mem_of_getElem? (i := 216) rfl)) rfl, ci_X3, by decide +kernel, ⟨by decide +kernel, by decide +kernel, by decide +kernel⟩, by decide⟩
theorem iX3_number : MI mX3_number 3 := ⟨mem_g (List.mem_of_getElem? (i := 516) (by decide +kernel)) (by decide +kernel), mem_g (List.mem_of_getElem? (i := 517) (by decide +kernel)) (by decide +kernel), _, rfl, rfl⟩
abbrev mX4_clear : MD := (yX4_clear, cX4_clear, 1, none)
theorem wX4_clear : MW mX4_clear 0 := ⟨mem_g (mem_t2 (List.mem_of_getElem? (i := 220) rfl)) rfl, ci_X4, by decide +kernel, ⟨by decide +kernel, by decide +kernel, by decide +kernel⟩, by decide⟩
theorem iX4_clear : MI mX4_clear 4 := ⟨mem_g (List.mem_of_getElem? (i := 520) (by decide +kernel)) (by decide +kernel), mem_g (List.mem_of_getElem? (i := 521) (by decide +kernel)) (by decide +kernel), _, rfl, rfl⟩
abbrev mX2_timesByCovers : MD := (yX2_timesByCovers, cX2_timesByCovers, 3, (some .int))
theorem wX2_timesByCovers : MW mX2_timesByCovers 2 := ⟨mem_g (mem_t2 (List.mem_of_getElem? (i := 224) rfl)) rfl, ci_X2, by decide +kernel, ⟨by decide +kernel, by decide +kernel, by decide +kernel⟩, by decide⟩
theorem iX2_timesByCovers : MI mX2_timesByCovers 2 := ⟨mem_g (List.mem_of_getElem? (i := 525) (by decide +kernel)) (by decide +kernel), mem_g (List.mem_of_getElem? (i := 24) (by decide +kernel)) (by decide +kernel), _, rfl, rfl⟩
abbrev mX4_add : MD := (yX4_add, cX4_add, 3, none)
theorem wX4_add : MW mX4_add 2 := ⟨mem_g (mem_t2 (List.mem_of_getElem? (i := 228) rfl)) rfl, ci_X4, by decide +kernel, ⟨by decide +kernel, by decide +kernel, by decide +kernel⟩, by decide⟩
theorem iX4_add : MI mX4_add 4 := ⟨mem_g (List.mem_of_getElem? (i := 528) (by decide +kernel)) (by decide +kernel), mem_g (List.mem_of_getElem? (i := 529) (by decide +kernel)) (by decide +kernel), _, rfl, rfl⟩
abbrev mX6_mapsOfSpans : MD := (yX6_mapsOfSpans, cX6_mapsOfSpans, 5, (some .int))
theorem wX6_mapsOfSpans : MW mX6_mapsOfSpans 1 := ⟨mem_g (mem_t2 (List.mem_of_getElem? (i := 232) rfl)) rfl, ci_X6, by decide +kernel, ⟨by decide +kernel, by decide +kernel, by decide +kernel⟩, by decide⟩
theorem iX6_mapsOfSpans : MI mX6_mapsOfSpans 6 := ⟨mem_g (List.mem_of_getElem? (i := 533) (by decide +kernel)) (by decide +kernel), mem_g (List.mem_of_getElem? (i := 25) (by decide +kernel)) (by decide +kernel), _, rfl, rfl⟩
abbrev mX6_isMapped : MD := (yX6_isMapped, cX6_isMapped, 10, (some .boolean))
theorem wX6_isMapped : MW mX6_isMapped 3 := ⟨mem_g (mem_t2 (List.mem_of_getElem? (i := 236) rfl)) rfl, ci_X6, by decide +kernel, ⟨by decide +kernel, by decide +kernel, by decide +kernel⟩, by decide⟩
theorem iX6_isMapped : MI mX6_isMapped 6 := ⟨mem_g (List.mem_of_getElem? (i := 537) (by decide +kernel)) (by decide +kernel), mem_g (List.mem_of_getElem? (i := 26) (by decide +kernel)) (by decide +kernel), _, rfl, rfl⟩
abbrev mX6_bends : MD := (yX6_bends, cX6_bends, 3, (some .int))
theorem wX6_bends : MW mX6_bends 2 := ⟨mem_g (mem_t3 (List.mem_of_getElem? (i := 0) rfl)) rfl, ci_X6, by decide +kernel, ⟨by decide +kernel, by decide +kernel, by decide +kernel⟩, by decide⟩
theorem iX6_bends : MI mX6_bends 6 := ⟨mem_g (List.mem_of_getElem? (i := 540) (by decide +kernel)) (by decide +kernel), mem_g (List.mem_of_getElem? (i := 541) (by decide +kernel)) (by decide +kernel), _, rfl, rfl⟩
abbrev mX6_form : MD := (yX6_form, cX6_form, 7, (some .int))
theorem wX6_form : MW mX6_form 2 := ⟨mem_g (mem_t3 (List.mem_of_getElem? (i := 4) rfl)) rfl, ci_X6, by decide +kernel, ⟨by decide +kernel, by decide +kernel, by decide +kernel⟩, by decide⟩
theorem iX6_form : MI mX6_form 6 := ⟨mem_g (List.mem_of_getElem? (i := 544) (by decide +kernel)) (by decide +kernel), mem_g (List.mem_of_getElem? (i := 545) (by decide +kernel)) (by decide +kernel), _, rfl, rfl⟩
abbrev mX6_spans : MD := (yX6_spans, cX6_spans, 4, (some .int))
theorem wX6_spans : MW mX6_spans 3 := ⟨mem_g (mem_t3 (List.mem_of_getElem? (i := 10) rfl)) rfl, ci_X6, by decide +kernel, ⟨by decide +kernel, by decide +kernel, by decide +kernel⟩, by decide⟩
theorem iX6_spans : MI mX6_spans 6 := ⟨mem_g (List.mem_of_getElem? (i := 550) (by decide +kernel)) (by decide +kernel), mem_g (List.mem_of_getElem? (i := 551) (by decide +kernel)) (by decide +kernel), _, rfl, rfl⟩
abbrev mX2_times : MD := (yX2_times, cX2_times, 5, (some .int))
theorem wX2_times : MW mX2_times 3 := ⟨mem_g (mem_t3 (List.mem_of_getElem? (i := 14) rfl)) rfl, ci_X2, by decide +kernel, ⟨by decide +kernel, by decide +kernel, by decide +kernel⟩, by decide⟩
theorem iX2_times : MI mX2_times 2 := ⟨mem_g (List.mem_of_getElem? (i := 554) (by decide +kernel)) (by decide +kernel), mem_g (List.mem_of_getElem? (i := 555) (by decide +kernel)) (by decide +kernel), _, rfl, rfl⟩
abbrev mX6_like : MD := (yX6_like, cX6_like, 3, (some .boolean))
theorem wX6_like : MW mX6_like 2 := ⟨mem_g (mem_t3 (List.mem_of_getElem? (i := 19) rfl)) rfl, ci_X6, by decide +kernel, ⟨by decide +kernel, by decide +kernel, by decide +kernel⟩, by decide⟩
theorem iX6_like : MI mX6_like 6 := ⟨mem_g (List.mem_of_getElem? (i := 559) (by decide +kernel)) (by decide +kernel), mem_g (List.mem_of_getElem? (i := 560) (by decide +kernel)) (by decide +kernel), _, rfl, rfl⟩
abbrev mX4_areSame : MD := (yX4_areSame, cX4_areSame, 3, (some .boolean))
theorem wX4_areSame : MW mX4_areSame 1 := ⟨mem_g (mem_t3 (List.mem_of_getElem? (i := 23) rfl)) rfl, ci_X4, by decide +kernel, ⟨by decide +kernel, by decide +kernel, by decide +kernel⟩, by decide⟩
theorem iX4_areSame : MI mX4_areSame 4 := ⟨mem_g (List.mem_of_getElem? (i := 563) (by decide +kernel)) (by decide +kernel), mem_g (List.mem_of_getElem? (i := 564) (by decide +kernel)) (by decide +kernel), _, rfl, rfl⟩
abbrev mX6_rank : MD := (yX6_rank, cX6_rank, 4, (some .int))
theorem wX6_rank : MW mX6_rank 3 := ⟨mem_g (mem_t3 (List.mem_of_getElem? (i := 27) rfl)) rfl, ci_X6, by decide +kernel, ⟨by decide +kernel, by decide +kernel, by decide +kernel⟩, by decide⟩
theorem iX6_rank : MI mX6_rank 6 := ⟨mem_g (List.mem_of_getElem? (i := 567) (by decide +kernel)) (by decide +kernel), mem_g (List.mem_of_getElem? (i := 568) (by decide +kernel)) (by decide +kernel), _, rfl, rfl⟩
abbrev mX6_isLed : MD := (yX6_isLed, cX6_isLed, 5, (some .boolean))
theorem wX6_isLed : MW mX6_isLed 3 := ⟨mem_g (mem_t3 (List.mem_of_getElem? (i := 30) rfl)) rfl, ci_X6, by decide +kernel, ⟨by decide +kernel, by decide +kernel, by decide +kernel⟩, by decide⟩
theorem sX6_isLed : Cond.static yX6_isLed ∈ lw_g := mem_g (List.mem_of_getElem? (i := 571) (by decide +kernel)) (by decide +kernel)
abbrev mX2_covering : MD := (yX2_covering, cX2_covering, 4, (some .int))
theorem wX2_covering : MW mX2_covering 3 := ⟨mem_g (mem_t3 (List.mem_of_getElem? (i := 34) rfl)) rfl, ci_X2, by decide +kernel, ⟨by decide +kernel, by decide +kernel, by decide +kernel⟩, by decide⟩
theorem iX2_covering : MI mX2_covering 2 := ⟨mem_g (List.mem_of_getElem? (i := 574) (by decide +kernel)) (by decide +kernel), mem_g (List.mem_of_getElem? (i := 575) (by decide +kernel)) (by decide +kernel), _, rfl, rfl⟩
abbrev mX6_far : MD := (yX6_far, cX6_far, 3, (some .int))
theorem wX6_far : MW mX6_far 2 := ⟨mem_g (mem_t3 (List.mem_of_getElem? (i := 38) rfl)) rfl, ci_X6, by decide +kernel, ⟨by decide +kernel, by decide +kernel, by decide +kernel⟩, by decide⟩
theorem iX6_far : MI mX6_far 6 := ⟨mem_g (List.mem_of_getElem? (i := 578) (by decide +kernel)) (by decide +kernel), mem_g (List.mem_of_getElem? (i := 579) (by decide +kernel)) (by decide +kernel), _, rfl, rfl⟩
abbrev mX1_leastCost : MD := (yX1_leastCost, cX1_leastCost, 5, (some .int))
theorem wX1_leastCost : MW mX1_leastCost 3 := ⟨mem_g (mem_t3 (List.mem_of_getElem? (i := 42) rfl)) rfl, ci_X1, by decide +kernel, ⟨by decide +kernel, by decide +kernel, by decide +kernel⟩, by decide⟩
theorem iX1_leastCost : MI mX1_leastCost 1 := ⟨mem_g (List.mem_of_getElem? (i := 582) (by decide +kernel)) (by decide +kernel), mem_g (List.mem_of_getElem? (i := 583) (by decide +kernel)) (by decide +kernel), _, rfl, rfl⟩
abbrev mX1_canPair : MD := (yX1_canPair, cX1_canPair, 6, (some .boolean))
theorem wX1_canPair : MW mX1_canPair 3 := ⟨mem_g (mem_t3 (List.mem_of_getElem? (i := 46) rfl)) rfl, ci_X1, by decide +kernel, ⟨by decide +kernel, by decide +kernel, by decide +kernel⟩, by decide⟩
theorem iX1_canPair : MI mX1_canPair 1 := ⟨mem_g (List.mem_of_getElem? (i := 587) (by decide +kernel)) (by decide +kernel), mem_g (List.mem_of_getElem? (i := 27) (by decide +kernel)) (by decide +kernel), _, rfl, rfl⟩
abbrev mX1_pair : MD := (yX1_pair, cX1_pair, 8, (some .boolean))
theorem wX1_pair : MW mX1_pair 4 := ⟨mem_g (mem_t3 (List.mem_of_getElem? (i := 51) rfl)) rfl, ci_X1, by decide +kernel, ⟨by decide +kernel, by decide +kernel, by decide +kernel⟩, by decide⟩
theorem iX1_pair : MI mX1_pair 1 := ⟨mem_g (List.mem_of_getElem? (i := 592) (by decide +kernel)) (by decide +kernel), mem_g (List.mem_of_getElem? (i := 28) (by decide +kernel)) (by decide +kernel), _, rfl, rfl⟩
abbrev mX1_cost : MD := (yX1_cost, cX1_cost, 6, (some .int))
theorem wX1_cost : MW mX1_cost 4 := ⟨mem_g (mem_t3 (List.mem_of_getElem? (i := 54) rfl)) rfl, ci_X1, by decide +kernel, ⟨by decide +kernel, by decide +kernel, by decide +kernel⟩, by decide⟩
theorem sX1_cost : Cond.static yX1_cost ∈ lw_g := mem_g (List.mem_of_getElem? (i := 595) (by decide +kernel)) (by decide +kernel)
abbrev mJ9_abs_0f7a4 : MD := (yJ9_abs_0f7a4, cJ9_abs_0f7a4, 1, (some .int))
theorem wJ9_abs_0f7a4 : MW mJ9_abs_0f7a4 1 := ⟨mem_g (mem_t3 (List.mem_of_getElem? (i := 57) rfl)) rfl, ci_J9, by decide +kernel, ⟨by decide +kernel, by decide +kernel, by decide +kernel⟩, by decide⟩
theorem sJ9_abs_0f7a4 : Cond.static yJ9_abs_0f7a4 ∈ lw_g := mem_g (List.mem_of_getElem? (i := 598) (by decide +kernel)) (by decide +kernel)
abbrev mX1_change : MD := (yX1_change, cX1_change, 6, none)
theorem wX1_change : MW mX1_change 1 := ⟨mem_g (mem_t3 (List.mem_of_getElem? (i := 62) rfl)) rfl, ci_X1, by decide +kernel, ⟨by decide +kernel, by decide +kernel, by decide +kernel⟩, by decide⟩
theorem iX1_change : MI mX1_change 1 := ⟨mem_g (List.mem_of_getElem? (i := 603) (by decide +kernel)) (by decide +kernel), mem_g (List.mem_of_getElem? (i := 29) (by decide +kernel)) (by decide +kernel), _, rfl, rfl⟩
abbrev mX6_kind : MD := (yX6_kind, cX6_kind, 3, (some .int))
theorem wX6_kind : MW mX6_kind 2 := ⟨mem_g (mem_t3 (List.mem_of_getElem? (i := 66) rfl)) rfl, ci_X6, by decide +kernel, ⟨by decide +kernel, by decide +kernel, by decide +kernel⟩, by decide⟩
theorem iX6_kind : MI mX6_kind 6 := ⟨mem_g (List.mem_of_getElem? (i := 606) (by decide +kernel)) (by decide +kernel), mem_g (List.mem_of_getElem? (i := 607) (by decide +kernel)) (by decide +kernel), _, rfl, rfl⟩
abbrev mX5_read : MD := (yX5_read, cX5_read, 5, (some .boolean))
theorem wX5_read : MW mX5_read 2 := ⟨mem_g (mem_t3 (List.mem_of_getElem? (i := 70) rfl)) rfl, ci_X5, by decide +kernel, ⟨by decide +kernel, by decide +kernel, by decide +kernel⟩, by decide⟩
theorem iX5_read : MI mX5_read 5 := ⟨mem_g (List.mem_of_getElem? (i := 610) (by decide +kernel)) (by decide +kernel), mem_g (List.mem_of_getElem? (i := 611) (by decide +kernel)) (by decide +kernel), _, rfl, rfl⟩
abbrev mX5_kindOf : MD := (yX5_kindOf, cX5_kindOf, 3, (some .int))
theorem wX5_kindOf : MW mX5_kindOf 0 := ⟨mem_g (mem_t3 (List.mem_of_getElem? (i := 74) rfl)) rfl, ci_X5, by decide +kernel, ⟨by decide +kernel, by decide +kernel, by decide +kernel⟩, by decide⟩
theorem iX5_kindOf : MI mX5_kindOf 5 := ⟨mem_g (List.mem_of_getElem? (i := 614) (by decide +kernel)) (by decide +kernel), mem_g (List.mem_of_getElem? (i := 615) (by decide +kernel)) (by decide +kernel), _, rfl, rfl⟩
abbrev mX6_roots : MD := (yX6_roots, cX6_roots, 3, (some .int))
theorem wX6_roots : MW mX6_roots 2 := ⟨mem_g (mem_t3 (List.mem_of_getElem? (i := 79) rfl)) rfl, ci_X6, by decide +kernel, ⟨by decide +kernel, by decide +kernel, by decide +kernel⟩, by decide⟩
theorem iX6_roots : MI mX6_roots 6 := ⟨mem_g (List.mem_of_getElem? (i := 619) (by decide +kernel)) (by decide +kernel), mem_g (List.mem_of_getElem? (i := 620) (by decide +kernel)) (by decide +kernel), _, rfl, rfl⟩
abbrev mX5_rootCount : MD := (yX5_rootCount, cX5_rootCount, 2, (some .int))
theorem wX5_rootCount : MW mX5_rootCount 0 := ⟨mem_g (mem_t3 (List.mem_of_getElem? (i := 83) rfl)) rfl, ci_X5, by decide +kernel, ⟨by decide +kernel, by decide +kernel, by decide +kernel⟩, by decide⟩
theorem iX5_rootCount : MI mX5_rootCount 5 := ⟨mem_g (List.mem_of_getElem? (i := 623) (by decide +kernel)) (by decide +kernel), mem_g (List.mem_of_getElem? (i := 624) (by decide +kernel)) (by decide +kernel), _, rfl, rfl⟩
abbrev mX5_countLines : MD := (yX5_countLines, cX5_countLines, 2, none)
theorem wX5_countLines : MW mX5_countLines 0 := ⟨mem_g (mem_t3 (List.mem_of_getElem? (i := 87) rfl)) rfl, ci_X5, by decide +kernel, ⟨by decide +kernel, by decide +kernel, by decide +kernel⟩, by decide⟩
theorem iX5_countLines : MI mX5_countLines 5 := ⟨mem_g (List.mem_of_getElem? (i := 628) (by decide +kernel)) (by decide +kernel), mem_g (List.mem_of_getElem? (i := 30) (by decide +kernel)) (by decide +kernel), _, rfl, rfl⟩
abbrev mX5_branchPost : MD := (yX5_branchPost, cX5_branchPost, 2, (some .int))
theorem wX5_branchPost : MW mX5_branchPost 0 := ⟨mem_g (mem_t3 (List.mem_of_getElem? (i := 91) rfl)) rfl, ci_X5, by decide +kernel, ⟨by decide +kernel, by decide +kernel, by decide +kernel⟩, by decide⟩
theorem iX5_branchPost : MI mX5_branchPost 5 := ⟨mem_g (List.mem_of_getElem? (i := 632) (by decide +kernel)) (by decide +kernel), mem_g (List.mem_of_getElem? (i := 31) (by decide +kernel)) (by decide +kernel), _, rfl, rfl⟩
abbrev mX5_endsBeside : MD := (yX5_endsBeside, cX5_endsBeside, 6, (some .int))
theorem wX5_endsBeside : MW mX5_endsBeside 1 := ⟨mem_g (mem_t3 (List.mem_of_getElem? (i := 95) rfl)) rfl, ci_X5, by decide +kernel, ⟨by decide +kernel, by decide +kernel, by decide +kernel⟩, by decide⟩
theorem iX5_endsBeside : MI mX5_endsBeside 5 := ⟨mem_g (List.mem_of_getElem? (i := 636) (by decide +kernel)) (by decide +kernel), mem_g (List.mem_of_getElem? (i := 32) (by decide +kernel)) (by decide +kernel), _, rfl, rfl⟩
abbrev mX6_count : MD := (yX6_count, cX6_count, 2, (some .int))
theorem wX6_count : MW mX6_count 1 := ⟨mem_g (mem_t3 (List.mem_of_getElem? (i := 99) rfl)) rfl, ci_X6, by decide +kernel, ⟨by decide +kernel, by decide +kernel, by decide +kernel⟩, by decide⟩
theorem iX6_count : MI mX6_count 6 := ⟨mem_g (List.mem_of_getElem? (i := 639) (by decide +kernel)) (by decide +kernel), mem_g (List.mem_of_getElem? (i := 640) (by decide +kernel)) (by decide +kernel), _, rfl, rfl⟩
abbrev mL_cell : MD := (yL_cell, cL_cell, 2, (some .int))
theorem wL_cell : MW mL_cell 2 := ⟨mem_g (mem_t3 (List.mem_of_getElem? (i := 102) rfl)) rfl, ci_L, by decide +kernel, ⟨by decide +kernel, by decide +kernel, by decide +kernel⟩, by decide⟩
theorem sL_cell : Cond.static yL_cell ∈ lw_g := mem_g (List.mem_of_getElem? (i := 643) (by decide +kernel)) (by decide +kernel)
abbrev mX7_init : MD := (yX7_init, cX7_init, 5, none)
theorem wX7_init : MW mX7_init 2 := ⟨mem_g (mem_t3 (List.mem_of_getElem? (i := 107) rfl)) rfl, ci_X7, by decide +kernel, ⟨by decide +kernel, by decide +kernel, by decide +kernel⟩, by decide⟩
theorem iX7_init : Cond.instanceMethod yX7_init ∈ lw_g := mem_g (List.mem_of_getElem? (i := 648) (by decide +kernel)) (by decide +kernel)
abbrev mX7_lay : MD := (yX7_lay, cX7_lay, 5, (some .boolean))
theorem wX7_lay : MW mX7_lay 3 := ⟨mem_g (mem_t3 (List.mem_of_getElem? (i := 197) rfl)) rfl, ci_X7, by decide +kernel, ⟨by decide +kernel, by decide +kernel, by decide +kernel⟩, by decide⟩
theorem iX7_lay : MI mX7_lay 7 := ⟨mem_g (List.mem_of_getElem? (i := 737) (by decide +kernel)) (by decide +kernel), mem_g (List.mem_of_getElem? (i := 738) (by decide +kernel)) (by decide +kernel), _, rfl, rfl⟩
abbrev mX7_isLaying : MD := (yX7_isLaying, cX7_isLaying, 1, (some .boolean))
theorem wX7_isLaying : MW mX7_isLaying 1 := ⟨mem_g (mem_t3 (List.mem_of_getElem? (i := 200) rfl)) rfl, ci_X7, by decide +kernel, ⟨by decide +kernel, by decide +kernel, by decide +kernel⟩, by decide⟩
theorem sX7_isLaying : Cond.static yX7_isLaying ∈ lw_g := mem_g (List.mem_of_getElem? (i := 741) (by decide +kernel)) (by decide +kernel)
abbrev mX7_in : MD := (yX7_in, cX7_in, 3, (some .boolean))
theorem wX7_in : MW mX7_in 3 := ⟨mem_g (mem_t3 (List.mem_of_getElem? (i := 203) rfl)) rfl, ci_X7, by decide +kernel, ⟨by decide +kernel, by decide +kernel, by decide +kernel⟩, by decide⟩
theorem sX7_in : Cond.static yX7_in ∈ lw_g := mem_g (List.mem_of_getElem? (i := 744) (by decide +kernel)) (by decide +kernel)
abbrev mX7_areWays : MD := (yX7_areWays, cX7_areWays, 2, (some .boolean))
theorem wX7_areWays : MW mX7_areWays 1 := ⟨mem_g (mem_t3 (List.mem_of_getElem? (i := 207) rfl)) rfl, ci_X7, by decide +kernel, ⟨by decide +kernel, by decide +kernel, by decide +kernel⟩, by decide⟩
theorem iX7_areWays : MI mX7_areWays 7 := ⟨mem_g (List.mem_of_getElem? (i := 748) (by decide +kernel)) (by decide +kernel), mem_g (List.mem_of_getElem? (i := 33) (by decide +kernel)) (by decide +kernel), _, rfl, rfl⟩
abbrev mX7_clear : MD := (yX7_clear, cX7_clear, 4, none)
theorem wX7_clear : MW mX7_clear 2 := ⟨mem_g (mem_t3 (List.mem_of_getElem? (i := 211) rfl)) rfl, ci_X7, by decide +kernel, ⟨by decide +kernel, by decide +kernel, by decide +kernel⟩, by decide⟩
theorem iX7_clear : MI mX7_clear 7 := ⟨mem_g (List.mem_of_getElem? (i := 752) (by decide +kernel)) (by decide +kernel), mem_g (List.mem_of_getElem? (i := 34) (by decide +kernel)) (by decide +kernel), _, rfl, rfl⟩
abbrev mX7_set : MD := (yX7_set, cX7_set, 6, (some .boolean))
theorem wX7_set : MW mX7_set 5 := ⟨mem_g (mem_t3 (List.mem_of_getElem? (i := 215) rfl)) rfl, ci_X7, by decide +kernel, ⟨by decide +kernel, by decide +kernel, by decide +kernel⟩, by decide⟩
theorem iX7_set : MI mX7_set 7 := ⟨mem_g (List.mem_of_getElem? (i := 755) (by decide +kernel)) (by decide +kernel), mem_g (List.mem_of_getElem? (i := 756) (by decide +kernel)) (by decide +kernel), _, rfl, rfl⟩
abbrev mX7_isCell : MD := (yX7_isCell, cX7_isCell, 5, (some .boolean))
theorem wX7_isCell : MW mX7_isCell 4 := ⟨mem_g (mem_t3 (List.mem_of_getElem? (i := 219) rfl)) rfl, ci_X7, by decide +kernel, ⟨by decide +kernel, by decide +kernel, by decide +kernel⟩, by decide⟩
theorem iX7_isCell : MI mX7_isCell 7 := ⟨mem_g (List.mem_of_getElem? (i := 760) (by decide +kernel)) (by decide +kernel), mem_g (List.mem_of_getElem? (i := 35) (by decide +kernel)) (by decide +kernel), _, rfl, rfl⟩
abbrev mX7_target : MD := (yX7_target, cX7_target, 3, (some .int))
theorem wX7_target : MW mX7_target 2 := ⟨mem_g (mem_t3 (List.mem_of_getElem? (i := 223) rfl)) rfl, ci_X7, by decide +kernel, ⟨by decide +kernel, by decide +kernel, by decide +kernel⟩, by decide⟩
theorem iX7_target : MI mX7_target 7 := ⟨mem_g (List.mem_of_getElem? (i := 764) (by decide +kernel)) (by decide +kernel), mem_g (List.mem_of_getElem? (i := 36) (by decide +kernel)) (by decide +kernel), _, rfl, rfl⟩
abbrev mX7_isLeft : MD := (yX7_isLeft, cX7_isLeft, 3, (some .boolean))
theorem wX7_isLeft : MW mX7_isLeft 2 := ⟨mem_g (mem_t3 (List.mem_of_getElem? (i := 227) rfl)) rfl, ci_X7, by decide +kernel, ⟨by decide +kernel, by decide +kernel, by decide +kernel⟩, by decide⟩
theorem iX7_isLeft : MI mX7_isLeft 7 := ⟨mem_g (List.mem_of_getElem? (i := 768) (by decide +kernel)) (by decide +kernel), mem_g (List.mem_of_getElem? (i := 37) (by decide +kernel)) (by decide +kernel), _, rfl, rfl⟩
abbrev mX7_at : MD := (yX7_at, cX7_at, 3, (some .int))
theorem wX7_at : MW mX7_at 2 := ⟨mem_g (mem_t3 (List.mem_of_getElem? (i := 231) rfl)) rfl, ci_X7, by decide +kernel, ⟨by decide +kernel, by decide +kernel, by decide +kernel⟩, by decide⟩
theorem iX7_at : MI mX7_at 7 := ⟨mem_g (List.mem_of_getElem? (i := 772) (by decide +kernel)) (by decide +kernel), mem_g (List.mem_of_getElem? (i := 38) (by decide +kernel)) (by decide +kernel), _, rfl, rfl⟩
abbrev mX7_source : MD := (yX7_source, cX7_source, 3, (some .int))
theorem wX7_source : MW mX7_source 2 := ⟨mem_g (mem_t3 (List.mem_of_getElem? (i := 235) rfl)) rfl, ci_X7, by decide +kernel, ⟨by decide +kernel, by decide +kernel, by decide +kernel⟩, by decide⟩
theorem iX7_source : MI mX7_source 7 := ⟨mem_g (List.mem_of_getElem? (i := 776) (by decide +kernel)) (by decide +kernel), mem_g (List.mem_of_getElem? (i := 39) (by decide +kernel)) (by decide +kernel), _, rfl, rfl⟩
abbrev mX7_cell : MD := (yX7_cell, cX7_cell, 4, (some .int))
theorem wX7_cell : MW mX7_cell 4 := ⟨mem_g (mem_t3 (List.mem_of_getElem? (i := 238) rfl)) rfl, ci_X7, by decide +kernel, ⟨by decide +kernel, by decide +kernel, by decide +kernel⟩, by decide⟩
theorem sX7_cell : Cond.static yX7_cell ∈ lw_g := mem_g (List.mem_of_getElem? (i := 779) (by decide +kernel)) (by decide +kernel)
abbrev mX7_rest : MD := (yX7_rest, cX7_rest, 3, (some .int))
theorem wX7_rest : MW mX7_rest 1 := ⟨mem_g (mem_t4 (List.mem_of_getElem? (i := 2) rfl)) rfl, ci_X7, by decide +kernel, ⟨by decide +kernel, by decide +kernel, by decide +kernel⟩, by decide⟩
theorem iX7_rest : MI mX7_rest 7 := ⟨mem_g (List.mem_of_getElem? (i := 783) (by decide +kernel)) (by decide +kernel), mem_g (List.mem_of_getElem? (i := 40) (by decide +kernel)) (by decide +kernel), _, rfl, rfl⟩
abbrev mX7_get : MD := (yX7_get, cX7_get, 5, (some .int))
theorem wX7_get : MW mX7_get 4 := ⟨mem_g (mem_t4 (List.mem_of_getElem? (i := 6) rfl)) rfl, ci_X7, by decide +kernel, ⟨by decide +kernel, by decide +kernel, by decide +kernel⟩, by decide⟩
theorem iX7_get : MI mX7_get 7 := ⟨mem_g (List.mem_of_getElem? (i := 786) (by decide +kernel)) (by decide +kernel), mem_g (List.mem_of_getElem? (i := 787) (by decide +kernel)) (by decide +kernel), _, rfl, rfl⟩
abbrev mX7_size : MD := (yX7_size, cX7_size, 3, (some .int))
theorem wX7_size : MW mX7_size 2 := ⟨mem_g (mem_t4 (List.mem_of_getElem? (i := 10) rfl)) rfl, ci_X7, by decide +kernel, ⟨by decide +kernel, by decide +kernel, by decide +kernel⟩, by decide⟩
theorem iX7_size : MI mX7_size 7 := ⟨mem_g (List.mem_of_getElem? (i := 790) (by decide +kernel)) (by decide +kernel), mem_g (List.mem_of_getElem? (i := 791) (by decide +kernel)) (by decide +kernel), _, rfl, rfl⟩
abbrev mX7_isPost : MD := (yX7_isPost, cX7_isPost, 2, (some .boolean))
theorem wX7_isPost : MW mX7_isPost 1 := ⟨mem_g (mem_t4 (List.mem_of_getElem? (i := 14) rfl)) rfl, ci_X7, by decide +kernel, ⟨by decide +kernel, by decide +kernel, by decide +kernel⟩, by decide⟩
theorem iX7_isPost : MI mX7_isPost 7 := ⟨mem_g (List.mem_of_getElem? (i := 795) (by decide +kernel)) (by decide +kernel), mem_g (List.mem_of_getElem? (i := 41) (by decide +kernel)) (by decide +kernel), _, rfl, rfl⟩
abbrev mX7_ways : MD := (yX7_ways, cX7_ways, 2, (some .int))
theorem wX7_ways : MW mX7_ways 1 := ⟨mem_g (mem_t4 (List.mem_of_getElem? (i := 18) rfl)) rfl, ci_X7, by decide +kernel, ⟨by decide +kernel, by decide +kernel, by decide +kernel⟩, by decide⟩
theorem iX7_ways : MI mX7_ways 7 := ⟨mem_g (List.mem_of_getElem? (i := 798) (by decide +kernel)) (by decide +kernel), mem_g (List.mem_of_getElem? (i := 799) (by decide +kernel)) (by decide +kernel), _, rfl, rfl⟩
abbrev mX7_span : MD := (yX7_span, cX7_span, 6, (some .boolean))
theorem wX7_span : MW mX7_span 4 := ⟨mem_g (mem_t4 (List.mem_of_getElem? (i := 22) rfl)) rfl, ci_X7, by decide +kernel, ⟨by decide +kernel, by decide +kernel, by decide +kernel⟩, by decide⟩
theorem iX7_span : MI mX7_span 7 := ⟨mem_g (List.mem_of_getElem? (i := 802) (by decide +kernel)) (by decide +kernel), mem_g (List.mem_of_getElem? (i := 803) (by decide +kernel)) (by decide +kernel), _, rfl, rfl⟩
abbrev mX7_beside : MD := (yX7_beside, cX7_beside, 9, (some .boolean))
theorem wX7_beside : MW mX7_beside 3 := ⟨mem_g (mem_t4 (List.mem_of_getElem? (i := 26) rfl)) rfl, ci_X7, by decide +kernel, ⟨by decide +kernel, by decide +kernel, by decide +kernel⟩, by decide⟩
theorem iX7_beside : MI mX7_beside 7 := ⟨mem_g (List.mem_of_getElem? (i := 806) (by decide +kernel)) (by decide +kernel), mem_g (List.mem_of_getElem? (i := 807) (by decide +kernel)) (by decide +kernel), _, rfl, rfl⟩
abbrev mX7_copies : MD := (yX7_copies, cX7_copies, 3, none)
theorem wX7_copies : MW mX7_copies 1 := ⟨mem_g (mem_t4 (List.mem_of_getElem? (i := 30) rfl)) rfl, ci_X7, by decide +kernel, ⟨by decide +kernel, by decide +kernel, by decide +kernel⟩, by decide⟩
theorem iX7_copies : MI mX7_copies 7 := ⟨mem_g (List.mem_of_getElem? (i := 811) (by decide +kernel)) (by decide +kernel), mem_g (List.mem_of_getElem? (i := 42) (by decide +kernel)) (by decide +kernel), _, rfl, rfl⟩
abbrev mX7_becomes : MD := (yX7_becomes, cX7_becomes, 4, none)
theorem wX7_becomes : MW mX7_becomes 2 := ⟨mem_g (mem_t4 (List.mem_of_getElem? (i := 34) rfl)) rfl, ci_X7, by decide +kernel, ⟨by decide +kernel, by decide +kernel, by decide +kernel⟩, by decide⟩
theorem iX7_becomes : MI mX7_becomes 7 := ⟨mem_g (List.mem_of_getElem? (i := 815) (by decide +kernel)) (by decide +kernel), mem_g (List.mem_of_getElem? (i := 43) (by decide +kernel)) (by decide +kernel), _, rfl, rfl⟩
abbrev mX7_mix : MD := (yX7_mix, cX7_mix, 8, (some .boolean))
theorem wX7_mix : MW mX7_mix 5 := ⟨mem_g (mem_t4 (List.mem_of_getElem? (i := 38) rfl)) rfl, ci_X7, by decide +kernel, ⟨by decide +kernel, by decide +kernel, by decide +kernel⟩, by decide⟩
theorem iX7_mix : MI mX7_mix 7 := ⟨mem_g (List.mem_of_getElem? (i := 818) (by decide +kernel)) (by decide +kernel), mem_g (List.mem_of_getElem? (i := 819) (by decide +kernel)) (by decide +kernel), _, rfl, rfl⟩
abbrev mX7_turn : MD := (yX7_turn, cX7_turn, 20, (some .int))
theorem wX7_turn : MW mX7_turn 3 := ⟨mem_g (mem_t4 (List.mem_of_getElem? (i := 42) rfl)) rfl, ci_X7, by decide +kernel, ⟨by decide +kernel, by decide +kernel, by decide +kernel⟩, by decide⟩
theorem iX7_turn : MI mX7_turn 7 := ⟨mem_g (List.mem_of_getElem? (i := 822) (by decide +kernel)) (by decide +kernel), mem_g (List.mem_of_getElem? (i := 823) (by decide +kernel)) (by decide +kernel), _, rfl, rfl⟩
abbrev mX7_begin : MD := (yX7_begin, cX7_begin, 2, none)
theorem wX7_begin : MW mX7_begin 1 := ⟨mem_g (mem_t4 (List.mem_of_getElem? (i := 46) rfl)) rfl, ci_X7, by decide +kernel, ⟨by decide +kernel, by decide +kernel, by decide +kernel⟩, by decide⟩
theorem iX7_begin : MI mX7_begin 7 := ⟨mem_g (List.mem_of_getElem? (i := 827) (by decide +kernel)) (by decide +kernel), mem_g (List.mem_of_getElem? (i := 44) (by decide +kernel)) (by decide +kernel), _, rfl, rfl⟩
abbrev mX7_newRow : MD := (yX7_newRow, cX7_newRow, 3, (some (.array .int)))
theorem wX7_newRow : MW mX7_newRow 0 := ⟨mem_g (mem_t4 (List.mem_of_getElem? (i := 50) rfl)) rfl, ci_X7, by decide +kernel, ⟨by decide +kernel, by decide +kernel, by decide +kernel⟩, by decide⟩
theorem iX7_newRow : MI mX7_newRow 7 := ⟨mem_g (List.mem_of_getElem? (i := 831) (by decide +kernel)) (by decide +kernel), mem_g (List.mem_of_getElem? (i := 45) (by decide +kernel)) (by decide +kernel), _, rfl, rfl⟩
abbrev mX7_reduce : MD := (yX7_reduce, cX7_reduce, 9, (some .int))
theorem wX7_reduce : MW mX7_reduce 0 := ⟨mem_g (mem_t4 (List.mem_of_getElem? (i := 54) rfl)) rfl, ci_X7, by decide +kernel, ⟨by decide +kernel, by decide +kernel, by decide +kernel⟩, by decide⟩
theorem iX7_reduce : MI mX7_reduce 7 := ⟨mem_g (List.mem_of_getElem? (i := 835) (by decide +kernel)) (by decide +kernel), mem_g (List.mem_of_getElem? (i := 46) (by decide +kernel)) (by decide +kernel), _, rfl, rfl⟩
abbrev mX7_inverse : MD := (yX7_inverse, cX7_inverse, 3, (some .int))
theorem wX7_inverse : MW mX7_inverse 1 := ⟨mem_g (mem_t4 (List.mem_of_getElem? (i := 58) rfl)) rfl, ci_X7, by decide +kernel, ⟨by decide +kernel, by decide +kernel, by decide +kernel⟩, by decide⟩
theorem iX7_inverse : MI mX7_inverse 7 := ⟨mem_g (List.mem_of_getElem? (i := 839) (by decide +kernel)) (by decide +kernel), mem_g (List.mem_of_getElem? (i := 47) (by decide +kernel)) (by decide +kernel), _, rfl, rfl⟩
abbrev mX7_isLead : MD := (yX7_isLead, cX7_isLead, 3, (some .boolean))
theorem wX7_isLead : MW mX7_isLead 1 := ⟨mem_g (mem_t4 (List.mem_of_getElem? (i := 62) rfl)) rfl, ci_X7, by decide +kernel, ⟨by decide +kernel, by decide +kernel, by decide +kernel⟩, by decide⟩
theorem iX7_isLead : MI mX7_isLead 7 := ⟨mem_g (List.mem_of_getElem? (i := 843) (by decide +kernel)) (by decide +kernel), mem_g (List.mem_of_getElem? (i := 48) (by decide +kernel)) (by decide +kernel), _, rfl, rfl⟩
abbrev mX7_maps : MD := (yX7_maps, cX7_maps, 11, (some .int))
theorem wX7_maps : MW mX7_maps 2 := ⟨mem_g (mem_t4 (List.mem_of_getElem? (i := 66) rfl)) rfl, ci_X7, by decide +kernel, ⟨by decide +kernel, by decide +kernel, by decide +kernel⟩, by decide⟩
theorem iX7_maps : MI mX7_maps 7 := ⟨mem_g (List.mem_of_getElem? (i := 846) (by decide +kernel)) (by decide +kernel), mem_g (List.mem_of_getElem? (i := 847) (by decide +kernel)) (by decide +kernel), _, rfl, rfl⟩
abbrev mX7_areAlong : MD := (yX7_areAlong, cX7_areAlong, 3, (some .boolean))
theorem wX7_areAlong : MW mX7_areAlong 2 := ⟨mem_g (mem_t4 (List.mem_of_getElem? (i := 70) rfl)) rfl, ci_X7, by decide +kernel, ⟨by decide +kernel, by decide +kernel, by decide +kernel⟩, by decide⟩
theorem iX7_areAlong : MI mX7_areAlong 7 := ⟨mem_g (List.mem_of_getElem? (i := 851) (by decide +kernel)) (by decide +kernel), mem_g (List.mem_of_getElem? (i := 49) (by decide +kernel)) (by decide +kernel), _, rfl, rfl⟩
abbrev mX7_form : MD := (yX7_form, cX7_form, 5, (some .int))
theorem wX7_form : MW mX7_form 2 := ⟨mem_g (mem_t4 (List.mem_of_getElem? (i := 74) rfl)) rfl, ci_X7, by decide +kernel, ⟨by decide +kernel, by decide +kernel, by decide +kernel⟩, by decide⟩
theorem iX7_form : MI mX7_form 7 := ⟨mem_g (List.mem_of_getElem? (i := 854) (by decide +kernel)) (by decide +kernel), mem_g (List.mem_of_getElem? (i := 855) (by decide +kernel)) (by decide +kernel), _, rfl, rfl⟩
abbrev mX7_bends : MD := (yX7_bends, cX7_bends, 3, (some .int))
theorem wX7_bends : MW mX7_bends 2 := ⟨mem_g (mem_t4 (List.mem_of_getElem? (i := 78) rfl)) rfl, ci_X7, by decide +kernel, ⟨by decide +kernel, by decide +kernel, by decide +kernel⟩, by decide⟩
theorem iX7_bends : MI mX7_bends 7 := ⟨mem_g (List.mem_of_getElem? (i := 858) (by decide +kernel)) (by decide +kernel), mem_g (List.mem_of_getElem? (i := 859) (by decide +kernel)) (by decide +kernel), _, rfl, rfl⟩
abbrev mX7_spans : MD := (yX7_spans, cX7_spans, 4, (some .int))
theorem wX7_spans : MW mX7_spans 3 := ⟨mem_g (mem_t4 (List.mem_of_getElem? (i := 84) rfl)) rfl, ci_X7, by decide +kernel, ⟨by decide +kernel, by decide +kernel, by decide +kernel⟩, by decide⟩
theorem iX7_spans : MI mX7_spans 7 := ⟨mem_g (List.mem_of_getElem? (i := 864) (by decide +kernel)) (by decide +kernel), mem_g (List.mem_of_getElem? (i := 865) (by decide +kernel)) (by decide +kernel), _, rfl, rfl⟩
abbrev mX7_times : MD := (yX7_times, cX7_times, 4, (some .int))
theorem wX7_times : MW mX7_times 3 := ⟨mem_g (mem_t4 (List.mem_of_getElem? (i := 88) rfl)) rfl, ci_X7, by decide +kernel, ⟨by decide +kernel, by decide +kernel, by decide +kernel⟩, by decide⟩
theorem iX7_times : MI mX7_times 7 := ⟨mem_g (List.mem_of_getElem? (i := 869) (by decide +kernel)) (by decide +kernel), mem_g (List.mem_of_getElem? (i := 50) (by decide +kernel)) (by decide +kernel), _, rfl, rfl⟩
abbrev mX7_through : MD := (yX7_through, cX7_through, 12, (some .int))
theorem wX7_through : MW mX7_through 3 := ⟨mem_g (mem_t4 (List.mem_of_getElem? (i := 92) rfl)) rfl, ci_X7, by decide +kernel, ⟨by decide +kernel, by decide +kernel, by decide +kernel⟩, by decide⟩
theorem iX7_through : MI mX7_through 7 := ⟨mem_g (List.mem_of_getElem? (i := 873) (by decide +kernel)) (by decide +kernel), mem_g (List.mem_of_getElem? (i := 51) (by decide +kernel)) (by decide +kernel), _, rfl, rfl⟩
abbrev mX7_same : MD := (yX7_same, cX7_same, 11, (some .int))
theorem wX7_same : MW mX7_same 3 := ⟨mem_g (mem_t4 (List.mem_of_getElem? (i := 96) rfl)) rfl, ci_X7, by decide +kernel, ⟨by decide +kernel, by decide +kernel, by decide +kernel⟩, by decide⟩
theorem iX7_same : MI mX7_same 7 := ⟨mem_g (List.mem_of_getElem? (i := 877) (by decide +kernel)) (by decide +kernel), mem_g (List.mem_of_getElem? (i := 52) (by decide +kernel)) (by decide +kernel), _, rfl, rfl⟩
abbrev mX7_like : MD := (yX7_like, cX7_like, 5, (some .boolean))
theorem wX7_like : MW mX7_like 2 := ⟨mem_g (mem_t4 (List.mem_of_getElem? (i := 100) rfl)) rfl, ci_X7, by decide +kernel, ⟨by decide +kernel, by decide +kernel, by decide +kernel⟩, by decide⟩
theorem iX7_like : MI mX7_like 7 := ⟨mem_g (List.mem_of_getElem? (i := 880) (by decide +kernel)) (by decide +kernel), mem_g (List.mem_of_getElem? (i := 881) (by decide +kernel)) (by decide +kernel), _, rfl, rfl⟩
abbrev mX7_rank : MD := (yX7_rank, cX7_rank, 10, (some .int))
theorem wX7_rank : MW mX7_rank 3 := ⟨mem_g (mem_t4 (List.mem_of_getElem? (i := 104) rfl)) rfl, ci_X7, by decide +kernel, ⟨by decide +kernel, by decide +kernel, by decide +kernel⟩, by decide⟩
theorem iX7_rank : MI mX7_rank 7 := ⟨mem_g (List.mem_of_getElem? (i := 884) (by decide +kernel)) (by decide +kernel), mem_g (List.mem_of_getElem? (i := 885) (by decide +kernel)) (by decide +kernel), _, rfl, rfl⟩
abbrev mX7_far : MD := (yX7_far, cX7_far, 4, (some .int))
theorem wX7_far : MW mX7_far 2 := ⟨mem_g (mem_t4 (List.mem_of_getElem? (i := 108) rfl)) rfl, ci_X7, by decide +kernel, ⟨by decide +kernel, by decide +kernel, by decide +kernel⟩, by decide⟩
theorem iX7_far : MI mX7_far 7 := ⟨mem_g (List.mem_of_getElem? (i := 888) (by decide +kernel)) (by decide +kernel), mem_g (List.mem_of_getElem? (i := 889) (by decide +kernel)) (by decide +kernel), _, rfl, rfl⟩
abbrev mX7_list : MD := (yX7_list, cX7_list, 8, none)
theorem wX7_list : MW mX7_list 2 := ⟨mem_g (mem_t4 (List.mem_of_getElem? (i := 112) rfl)) rfl, ci_X7, by decide +kernel, ⟨by decide +kernel, by decide +kernel, by decide +kernel⟩, by decide⟩
theorem iX7_list : MI mX7_list 7 := ⟨mem_g (List.mem_of_getElem? (i := 893) (by decide +kernel)) (by decide +kernel), mem_g (List.mem_of_getElem? (i := 53) (by decide +kernel)) (by decide +kernel), _, rfl, rfl⟩
abbrev mX7_isCovered : MD := (yX7_isCovered, cX7_isCovered, 5, (some .boolean))
theorem wX7_isCovered : MW mX7_isCovered 2 := ⟨mem_g (mem_t4 (List.mem_of_getElem? (i := 116) rfl)) rfl, ci_X7, by decide +kernel, ⟨by decide +kernel, by decide +kernel, by decide +kernel⟩, by decide⟩
theorem iX7_isCovered : MI mX7_isCovered 7 := ⟨mem_g (List.mem_of_getElem? (i := 897) (by decide +kernel)) (by decide +kernel), mem_g (List.mem_of_getElem? (i := 54) (by decide +kernel)) (by decide +kernel), _, rfl, rfl⟩
abbrev mX7_finds : MD := (yX7_finds, cX7_finds, 5, (some .boolean))
theorem wX7_finds : MW mX7_finds 3 := ⟨mem_g (mem_t4 (List.mem_of_getElem? (i := 120) rfl)) rfl, ci_X7, by decide +kernel, ⟨by decide +kernel, by decide +kernel, by decide +kernel⟩, by decide⟩
theorem iX7_finds : MI mX7_finds 7 := ⟨mem_g (List.mem_of_getElem? (i := 901) (by decide +kernel)) (by decide +kernel), mem_g (List.mem_of_getElem? (i := 55) (by decide +kernel)) (by decide +kernel), _, rfl, rfl⟩
abbrev mX7_cost : MD := (yX7_cost, cX7_cost, 6, (some .int))
theorem wX7_cost : MW mX7_cost 3 := ⟨mem_g (mem_t4 (List.mem_of_getElem? (i := 124) rfl)) rfl, ci_X7, by decide +kernel, ⟨by decide +kernel, by decide +kernel, by decide +kernel⟩, by decide⟩
theorem iX7_cost : MI mX7_cost 7 := ⟨mem_g (List.mem_of_getElem? (i := 905) (by decide +kernel)) (by decide +kernel), mem_g (List.mem_of_getElem? (i := 56) (by decide +kernel)) (by decide +kernel), _, rfl, rfl⟩
abbrev mX7_kind : MD := (yX7_kind, cX7_kind, 7, (some .int))
theorem wX7_kind : MW mX7_kind 2 := ⟨mem_g (mem_t4 (List.mem_of_getElem? (i := 129) rfl)) rfl, ci_X7, by decide +kernel, ⟨by decide +kernel, by decide +kernel, by decide +kernel⟩, by decide⟩
theorem iX7_kind : MI mX7_kind 7 := ⟨mem_g (List.mem_of_getElem? (i := 909) (by decide +kernel)) (by decide +kernel), mem_g (List.mem_of_getElem? (i := 910) (by decide +kernel)) (by decide +kernel), _, rfl, rfl⟩
abbrev mX7_isTree : MD := (yX7_isTree, cX7_isTree, 5, (some .boolean))
theorem wX7_isTree : MW mX7_isTree 2 := ⟨mem_g (mem_t4 (List.mem_of_getElem? (i := 133) rfl)) rfl, ci_X7, by decide +kernel, ⟨by decide +kernel, by decide +kernel, by decide +kernel⟩, by decide⟩
theorem iX7_isTree : MI mX7_isTree 7 := ⟨mem_g (List.mem_of_getElem? (i := 914) (by decide +kernel)) (by decide +kernel), mem_g (List.mem_of_getElem? (i := 57) (by decide +kernel)) (by decide +kernel), _, rfl, rfl⟩
abbrev mX7_determinant : MD := (yX7_determinant, cX7_determinant, 12, (some .long))
theorem wX7_determinant : MW mX7_determinant 2 := ⟨mem_g (mem_t4 (List.mem_of_getElem? (i := 137) rfl)) rfl, ci_X7, by decide +kernel, ⟨by decide +kernel, by decide +kernel, by decide +kernel⟩, by decide⟩
theorem iX7_determinant : MI mX7_determinant 7 := ⟨mem_g (List.mem_of_getElem? (i := 918) (by decide +kernel)) (by decide +kernel), mem_g (List.mem_of_getElem? (i := 58) (by decide +kernel)) (by decide +kernel), _, rfl, rfl⟩
abbrev mX7_twice : MD := (yX7_twice, cX7_twice, 4, (some .long))
theorem wX7_twice : MW mX7_twice 4 := ⟨mem_g (mem_t4 (List.mem_of_getElem? (i := 140) rfl)) rfl, ci_X7, by decide +kernel, ⟨by decide +kernel, by decide +kernel, by decide +kernel⟩, by decide⟩
theorem sX7_twice : Cond.static yX7_twice ∈ lw_g := mem_g (List.mem_of_getElem? (i := 921) (by decide +kernel)) (by decide +kernel)
abbrev mX7_roots : MD := (yX7_roots, cX7_roots, 8, (some .int))
theorem wX7_roots : MW mX7_roots 2 := ⟨mem_g (mem_t4 (List.mem_of_getElem? (i := 146) rfl)) rfl, ci_X7, by decide +kernel, ⟨by decide +kernel, by decide +kernel, by decide +kernel⟩, by decide⟩
theorem iX7_roots : MI mX7_roots 7 := ⟨mem_g (List.mem_of_getElem? (i := 926) (by decide +kernel)) (by decide +kernel), mem_g (List.mem_of_getElem? (i := 927) (by decide +kernel)) (by decide +kernel), _, rfl, rfl⟩
abbrev mX7_value : MD := (yX7_value, cX7_value, 5, (some .int))
theorem wX7_value : MW mX7_value 2 := ⟨mem_g (mem_t4 (List.mem_of_getElem? (i := 151) rfl)) rfl, ci_X7, by decide +kernel, ⟨by decide +kernel, by decide +kernel, by decide +kernel⟩, by decide⟩
theorem iX7_value : MI mX7_value 7 := ⟨mem_g (List.mem_of_getElem? (i := 932) (by decide +kernel)) (by decide +kernel), mem_g (List.mem_of_getElem? (i := 59) (by decide +kernel)) (by decide +kernel), _, rfl, rfl⟩
abbrev mX7_isFound : MD := (yX7_isFound, cX7_isFound, 7, (some .boolean))
theorem wX7_isFound : MW mX7_isFound 3 := ⟨mem_g (mem_t4 (List.mem_of_getElem? (i := 155) rfl)) rfl, ci_X7, by decide +kernel, ⟨by decide +kernel, by decide +kernel, by decide +kernel⟩, by decide⟩
theorem iX7_isFound : MI mX7_isFound 7 := ⟨mem_g (List.mem_of_getElem? (i := 936) (by decide +kernel)) (by decide +kernel), mem_g (List.mem_of_getElem? (i := 60) (by decide +kernel)) (by decide +kernel), _, rfl, rfl⟩
abbrev mX7_isBehind : MD := (yX7_isBehind, cX7_isBehind, 7, (some .boolean))
theorem wX7_isBehind : MW mX7_isBehind 3 := ⟨mem_g (mem_t4 (List.mem_of_getElem? (i := 159) rfl)) rfl, ci_X7, by decide +kernel, ⟨by decide +kernel, by decide +kernel, by decide +kernel⟩, by decide⟩
theorem iX7_isBehind : MI mX7_isBehind 7 := ⟨mem_g (List.mem_of_getElem? (i := 940) (by decide +kernel)) (by decide +kernel), mem_g (List.mem_of_getElem? (i := 61) (by decide +kernel)) (by decide +kernel), _, rfl, rfl⟩
abbrev mX7_count : MD := (yX7_count, cX7_count, 2, (some .int))
theorem wX7_count : MW mX7_count 1 := ⟨mem_g (mem_t4 (List.mem_of_getElem? (i := 163) rfl)) rfl, ci_X7, by decide +kernel, ⟨by decide +kernel, by decide +kernel, by decide +kernel⟩, by decide⟩
theorem iX7_count : MI mX7_count 7 := ⟨mem_g (List.mem_of_getElem? (i := 943) (by decide +kernel)) (by decide +kernel), mem_g (List.mem_of_getElem? (i := 944) (by decide +kernel)) (by decide +kernel), _, rfl, rfl⟩
theorem ac_int : Cond.arrayClass .int ∈ lw_g := mem_g (List.mem_of_getElem? (i := 113) (by decide +kernel)) (by decide +kernel)
theorem nat_copy : Cond.native arraycopyName ∈ lw_g := mem_g (List.mem_of_getElem? (i := 388) (by decide +kernel)) (by decide +kernel)
theorem ac_boolean : Cond.arrayClass .boolean ∈ lw_g := mem_g (List.mem_of_getElem? (i := 733) (by decide +kernel)) (by decide +kernel)
theorem ac_long : Cond.arrayClass .long ∈ lw_g := mem_g (List.mem_of_getElem? (i := 734) (by decide +kernel)) (by decide +kernel)
theorem ac_byte : Cond.arrayClass .byte ∈ lw_g := mem_g (List.mem_of_getElem? (i := 735) (by decide +kernel)) (by decide +kernel)
theorem oi_inst : Cond.instanceMethod Lib.objectInit ∈ lw_g := mem_g (List.mem_of_getElem? (i := 80) (by decide +kernel)) (by decide +kernel)
theorem oi_code : Cond.code Lib.objectInit ⟨#[0xb1]⟩ 1 none ∈ lw_g := mem_g (mem_t1 (List.mem_of_getElem? (i := 19) rfl)) rfl
theorem st_copy : Cond.static arraycopyName ∈ lw_g := mem_g (List.mem_of_getElem? (i := 387) (by decide +kernel)) (by decide +kernel)
theorem ci_sys : Cond.initialized "java/lang/System" ∈ lw_g := ci_J10
end
section
theorem kL_15 : Cond.methodLink RL 15 yX6_init ∈ lw_g := mem_g (List.mem_of_getElem? (i := 76) (by decide +kernel)) (by decide +kernel)
theorem kX6_3 : Cond.methodLink RX6 3 Lib.objectInit ∈ lw_g := mem_g (List.mem_of_getElem? (i := 79) (by decide +kernel)) (by decide +kernel)
theorem kX6_9 : Cond.methodLink RX6 9 yX6_greatestPrime ∈ lw_g := mem_g (List.mem_of_getElem? (i := 82) (by decide +kernel)) (by decide +kernel)
theorem fX6_225 : Cond.fieldLink RX6 225 "SpanLoom" "PRIMES" "[I" ∈ lw_g := mem_g (List.mem_of_getElem? (i := 85) (by decide +kernel)) (by decide +kernel)
theorem kX6_17 : Cond.methodLink RX6 17 yJ9_min_7cf53 ∈ lw_g := mem_g (List.mem_of_getElem? (i := 87) (by decide +kernel)) (by decide +kernel)
theorem kX6_23 : Cond.methodLink RX6 23 yJ9_max_7cf53 ∈ lw_g := mem_g (List.mem_of_getElem? (i := 90) (by decide +kernel)) (by decide +kernel)
theorem kX6_35 : Cond.methodLinkNest RX6 35 yX0_init "SpanLoom" ∈ lw_n := mem_n (List.mem_of_getElem? (i := 96) (by decide +kernel)) (by decide +kernel)
theorem kX0_3 : Cond.methodLink RX0 3 Lib.objectInit ∈ lw_g := mem_g (List.mem_of_getElem? (i := 99) (by decide +kernel)) (by decide +kernel)
theorem fX0_9 : FL RX0 9 0 0 := ⟨_, rfl, by decide, mem_g (List.mem_of_getElem? (i := 100) (by decide +kernel)) (by decide +kernel)⟩
theorem pX0_9 : FP RX0 9 0 0 true (.array .int) := ⟨_, rfl, by decide, mem_g (List.mem_of_getElem? (i := 100) (by decide +kernel)) (by decide +kernel), rfl, rfl, rfl⟩
theorem fX6_95 : FN RX6 95 0 0 := ⟨_, "SpanLoom", rfl, by decide, mem_n (List.mem_of_getElem? (i := 101) (by decide +kernel)) (by decide +kernel)⟩
theorem fX2_69 : FN RX2 69 0 0 := ⟨_, "SpanLoom", rfl, by decide, mem_n (List.mem_of_getElem? (i := 102) (by decide +kernel)) (by decide +kernel)⟩
theorem fX0_15 : FL RX0 15 0 1 := ⟨_, rfl, by decide, mem_g (List.mem_of_getElem? (i := 103) (by decide +kernel)) (by decide +kernel)⟩
theorem pX0_15 : FP RX0 15 0 1 true (.array .int) := ⟨_, rfl, by decide, mem_g (List.mem_of_getElem? (i := 103) (by decide +kernel)) (by decide +kernel), rfl, rfl, rfl⟩
theorem fX0_18 : FL RX0 18 0 2 := ⟨_, rfl, by decide, mem_g (List.mem_of_getElem? (i := 104) (by decide +kernel)) (by decide +kernel)⟩
theorem pX0_18 : FP RX0 18 0 2 false (.int) := ⟨_, rfl, by decide, mem_g (List.mem_of_getElem? (i := 104) (by decide +kernel)) (by decide +kernel), rfl, rfl, rfl⟩
theorem fX6_120 : FN RX6 120 0 2 := ⟨_, "SpanLoom", rfl, by decide, mem_n (List.mem_of_getElem? (i := 105) (by decide +kernel)) (by decide +kernel)⟩
theorem kX6_42 : Cond.methodLink RX6 42 yX3_init ∈ lw_g := mem_g (List.mem_of_getElem? (i := 116) (by decide +kernel)) (by decide +kernel)
theorem kX3_3 : Cond.methodLink RX3 3 Lib.objectInit ∈ lw_g := mem_g (List.mem_of_getElem? (i := 119) (by decide +kernel)) (by decide +kernel)
theorem fX3_20 : FL RX3 20 3 0 := ⟨_, rfl, by decide, mem_g (List.mem_of_getElem? (i := 122) (by decide +kernel)) (by decide +kernel)⟩
theorem pX3_20 : FP RX3 20 3 0 true (.int) := ⟨_, rfl, by decide, mem_g (List.mem_of_getElem? (i := 122) (by decide +kernel)) (by decide +kernel), rfl, rfl, rfl⟩
theorem fX3_11 : FL RX3 11 3 1 := ⟨_, rfl, by decide, mem_g (List.mem_of_getElem? (i := 123) (by decide +kernel)) (by decide +kernel)⟩
theorem pX3_11 : FP RX3 11 3 1 true (.array (.array .int)) := ⟨_, rfl, by decide, mem_g (List.mem_of_getElem? (i := 123) (by decide +kernel)) (by decide +kernel), rfl, rfl, rfl⟩
theorem fX3_16 : FL RX3 16 3 2 := ⟨_, rfl, by decide, mem_g (List.mem_of_getElem? (i := 124) (by decide +kernel)) (by decide +kernel)⟩
theorem pX3_16 : FP RX3 16 3 2 true (.array .int) := ⟨_, rfl, by decide, mem_g (List.mem_of_getElem? (i := 124) (by decide +kernel)) (by decide +kernel), rfl, rfl, rfl⟩
theorem fX3_30 : FL RX3 30 3 3 := ⟨_, rfl, by decide, mem_g (List.mem_of_getElem? (i := 125) (by decide +kernel)) (by decide +kernel)⟩
theorem pX3_30 : FP RX3 30 3 3 false (.int) := ⟨_, rfl, by decide, mem_g (List.mem_of_getElem? (i := 125) (by decide +kernel)) (by decide +kernel), rfl, rfl, rfl⟩
theorem fX2_81 : FN RX2 81 3 3 := ⟨_, "SpanLoom", rfl, by decide, mem_n (List.mem_of_getElem? (i := 126) (by decide +kernel)) (by decide +kernel)⟩
theorem fX3_33 : FL RX3 33 3 4 := ⟨_, rfl, by decide, mem_g (List.mem_of_getElem? (i := 127) (by decide +kernel)) (by decide +kernel)⟩
theorem pX3_33 : FP RX3 33 3 4 false (.int) := ⟨_, rfl, by decide, mem_g (List.mem_of_getElem? (i := 127) (by decide +kernel)) (by decide +kernel), rfl, rfl, rfl⟩
theorem fX2_107 : FN RX2 107 3 4 := ⟨_, "SpanLoom", rfl, by decide, mem_n (List.mem_of_getElem? (i := 128) (by decide +kernel)) (by decide +kernel)⟩
theorem fX6_244 : FN RX6 244 3 4 := ⟨_, "SpanLoom", rfl, by decide, mem_n (List.mem_of_getElem? (i := 129) (by decide +kernel)) (by decide +kernel)⟩
theorem kX6_51 : Cond.methodLink RX6 51 yX2_init ∈ lw_g := mem_g (List.mem_of_getElem? (i := 143) (by decide +kernel)) (by decide +kernel)
theorem kX2_3 : Cond.methodLink RX2 3 Lib.objectInit ∈ lw_g := mem_g (List.mem_of_getElem? (i := 146) (by decide +kernel)) (by decide +kernel)
theorem kX2_25 : Cond.methodLink RX2 25 yX3_init ∈ lw_g := mem_g (List.mem_of_getElem? (i := 149) (by decide +kernel)) (by decide +kernel)
theorem fX2_16 : FL RX2 16 2 0 := ⟨_, rfl, by decide, mem_g (List.mem_of_getElem? (i := 150) (by decide +kernel)) (by decide +kernel)⟩
theorem pX2_16 : FP RX2 16 2 0 true (.int) := ⟨_, rfl, by decide, mem_g (List.mem_of_getElem? (i := 150) (by decide +kernel)) (by decide +kernel), rfl, rfl, rfl⟩
theorem fX2_20 : FL RX2 20 2 1 := ⟨_, rfl, by decide, mem_g (List.mem_of_getElem? (i := 151) (by decide +kernel)) (by decide +kernel)⟩
theorem pX2_20 : FP RX2 20 2 1 true (.int) := ⟨_, rfl, by decide, mem_g (List.mem_of_getElem? (i := 151) (by decide +kernel)) (by decide +kernel), rfl, rfl, rfl⟩
theorem fX2_11 : FL RX2 11 2 2 := ⟨_, rfl, by decide, mem_g (List.mem_of_getElem? (i := 152) (by decide +kernel)) (by decide +kernel)⟩
theorem pX2_11 : FP RX2 11 2 2 true (.array (.array .int)) := ⟨_, rfl, by decide, mem_g (List.mem_of_getElem? (i := 152) (by decide +kernel)) (by decide +kernel), rfl, rfl, rfl⟩
theorem fX2_28 : FL RX2 28 2 3 := ⟨_, rfl, by decide, mem_g (List.mem_of_getElem? (i := 153) (by decide +kernel)) (by decide +kernel)⟩
theorem pX2_28 : FP RX2 28 2 3 true (.object "SpanLoom$Rows") := ⟨_, rfl, by decide, mem_g (List.mem_of_getElem? (i := 153) (by decide +kernel)) (by decide +kernel), rfl, rfl, rfl⟩
theorem fX2_32 : FL RX2 32 2 4 := ⟨_, rfl, by decide, mem_g (List.mem_of_getElem? (i := 154) (by decide +kernel)) (by decide +kernel)⟩
theorem pX2_32 : FP RX2 32 2 4 false (.object "SpanLoom$Rows") := ⟨_, rfl, by decide, mem_g (List.mem_of_getElem? (i := 154) (by decide +kernel)) (by decide +kernel), rfl, rfl, rfl⟩
theorem fX2_35 : FL RX2 35 2 5 := ⟨_, rfl, by decide, mem_g (List.mem_of_getElem? (i := 155) (by decide +kernel)) (by decide +kernel)⟩
theorem pX2_35 : FP RX2 35 2 5 false (.object "SpanLoom$Rows") := ⟨_, rfl, by decide, mem_g (List.mem_of_getElem? (i := 155) (by decide +kernel)) (by decide +kernel), rfl, rfl, rfl⟩
theorem fX2_38 : FL RX2 38 2 6 := ⟨_, rfl, by decide, mem_g (List.mem_of_getElem? (i := 156) (by decide +kernel)) (by decide +kernel)⟩
theorem pX2_38 : FP RX2 38 2 6 false (.object "SpanLoom$Rows") := ⟨_, rfl, by decide, mem_g (List.mem_of_getElem? (i := 156) (by decide +kernel)) (by decide +kernel), rfl, rfl, rfl⟩
theorem kX6_60 : Cond.methodLinkNest RX6 60 yX4_init "SpanLoom" ∈ lw_n := mem_n (List.mem_of_getElem? (i := 174) (by decide +kernel)) (by decide +kernel)
theorem kX4_3 : Cond.methodLink RX4 3 Lib.objectInit ∈ lw_g := mem_g (List.mem_of_getElem? (i := 177) (by decide +kernel)) (by decide +kernel)
theorem fX4_9 : FL RX4 9 4 0 := ⟨_, rfl, by decide, mem_g (List.mem_of_getElem? (i := 178) (by decide +kernel)) (by decide +kernel)⟩
theorem pX4_9 : FP RX4 9 4 0 true (.array .int) := ⟨_, rfl, by decide, mem_g (List.mem_of_getElem? (i := 178) (by decide +kernel)) (by decide +kernel), rfl, rfl, rfl⟩
theorem fX1_43 : FN RX1 43 4 0 := ⟨_, "SpanLoom", rfl, by decide, mem_n (List.mem_of_getElem? (i := 179) (by decide +kernel)) (by decide +kernel)⟩
theorem fX6_259 : FN RX6 259 4 0 := ⟨_, "SpanLoom", rfl, by decide, mem_n (List.mem_of_getElem? (i := 180) (by decide +kernel)) (by decide +kernel)⟩
theorem fX4_15 : FL RX4 15 4 1 := ⟨_, rfl, by decide, mem_g (List.mem_of_getElem? (i := 181) (by decide +kernel)) (by decide +kernel)⟩
theorem pX4_15 : FP RX4 15 4 1 true (.array .int) := ⟨_, rfl, by decide, mem_g (List.mem_of_getElem? (i := 181) (by decide +kernel)) (by decide +kernel), rfl, rfl, rfl⟩
theorem fX1_40 : FN RX1 40 4 1 := ⟨_, "SpanLoom", rfl, by decide, mem_n (List.mem_of_getElem? (i := 182) (by decide +kernel)) (by decide +kernel)⟩
theorem fX6_262 : FN RX6 262 4 1 := ⟨_, "SpanLoom", rfl, by decide, mem_n (List.mem_of_getElem? (i := 183) (by decide +kernel)) (by decide +kernel)⟩
theorem fX4_18 : FL RX4 18 4 2 := ⟨_, rfl, by decide, mem_g (List.mem_of_getElem? (i := 184) (by decide +kernel)) (by decide +kernel)⟩
theorem pX4_18 : FP RX4 18 4 2 false (.int) := ⟨_, rfl, by decide, mem_g (List.mem_of_getElem? (i := 184) (by decide +kernel)) (by decide +kernel), rfl, rfl, rfl⟩
theorem fX1_34 : FN RX1 34 4 2 := ⟨_, "SpanLoom", rfl, by decide, mem_n (List.mem_of_getElem? (i := 185) (by decide +kernel)) (by decide +kernel)⟩
theorem fX6_253 : FN RX6 253 4 2 := ⟨_, "SpanLoom", rfl, by decide, mem_n (List.mem_of_getElem? (i := 186) (by decide +kernel)) (by decide +kernel)⟩
theorem kX6_70 : Cond.methodLinkNest RX6 70 yX1_init "SpanLoom" ∈ lw_n := mem_n (List.mem_of_getElem? (i := 196) (by decide +kernel)) (by decide +kernel)
theorem kX1_3 : Cond.methodLink RX1 3 Lib.objectInit ∈ lw_g := mem_g (List.mem_of_getElem? (i := 199) (by decide +kernel)) (by decide +kernel)
theorem fX1_9 : FL RX1 9 1 0 := ⟨_, rfl, by decide, mem_g (List.mem_of_getElem? (i := 200) (by decide +kernel)) (by decide +kernel)⟩
theorem pX1_9 : FP RX1 9 1 0 true (.array .int) := ⟨_, rfl, by decide, mem_g (List.mem_of_getElem? (i := 200) (by decide +kernel)) (by decide +kernel), rfl, rfl, rfl⟩
theorem fX1_15 : FL RX1 15 1 1 := ⟨_, rfl, by decide, mem_g (List.mem_of_getElem? (i := 201) (by decide +kernel)) (by decide +kernel)⟩
theorem pX1_15 : FP RX1 15 1 1 true (.array .int) := ⟨_, rfl, by decide, mem_g (List.mem_of_getElem? (i := 201) (by decide +kernel)) (by decide +kernel), rfl, rfl, rfl⟩
theorem fX1_18 : FL RX1 18 1 2 := ⟨_, rfl, by decide, mem_g (List.mem_of_getElem? (i := 202) (by decide +kernel)) (by decide +kernel)⟩
theorem pX1_18 : FP RX1 18 1 2 true (.array .int) := ⟨_, rfl, by decide, mem_g (List.mem_of_getElem? (i := 202) (by decide +kernel)) (by decide +kernel), rfl, rfl, rfl⟩
theorem fX1_21 : FL RX1 21 1 3 := ⟨_, rfl, by decide, mem_g (List.mem_of_getElem? (i := 203) (by decide +kernel)) (by decide +kernel)⟩
theorem pX1_21 : FP RX1 21 1 3 true (.array .int) := ⟨_, rfl, by decide, mem_g (List.mem_of_getElem? (i := 203) (by decide +kernel)) (by decide +kernel), rfl, rfl, rfl⟩
theorem kX6_77 : Cond.methodLinkNest RX6 77 yX5_init "SpanLoom" ∈ lw_n := mem_n (List.mem_of_getElem? (i := 215) (by decide +kernel)) (by decide +kernel)
theorem kX5_3 : Cond.methodLink RX5 3 Lib.objectInit ∈ lw_g := mem_g (List.mem_of_getElem? (i := 218) (by decide +kernel)) (by decide +kernel)
theorem fX5_9 : FL RX5 9 5 0 := ⟨_, rfl, by decide, mem_g (List.mem_of_getElem? (i := 219) (by decide +kernel)) (by decide +kernel)⟩
theorem pX5_9 : FP RX5 9 5 0 true (.array .int) := ⟨_, rfl, by decide, mem_g (List.mem_of_getElem? (i := 219) (by decide +kernel)) (by decide +kernel), rfl, rfl, rfl⟩
theorem fX5_15 : FL RX5 15 5 1 := ⟨_, rfl, by decide, mem_g (List.mem_of_getElem? (i := 220) (by decide +kernel)) (by decide +kernel)⟩
theorem pX5_15 : FP RX5 15 5 1 true (.array .int) := ⟨_, rfl, by decide, mem_g (List.mem_of_getElem? (i := 220) (by decide +kernel)) (by decide +kernel), rfl, rfl, rfl⟩
theorem fX5_18 : FL RX5 18 5 2 := ⟨_, rfl, by decide, mem_g (List.mem_of_getElem? (i := 221) (by decide +kernel)) (by decide +kernel)⟩
theorem pX5_18 : FP RX5 18 5 2 true (.array .int) := ⟨_, rfl, by decide, mem_g (List.mem_of_getElem? (i := 221) (by decide +kernel)) (by decide +kernel), rfl, rfl, rfl⟩
theorem fX5_21 : FL RX5 21 5 3 := ⟨_, rfl, by decide, mem_g (List.mem_of_getElem? (i := 222) (by decide +kernel)) (by decide +kernel)⟩
theorem pX5_21 : FP RX5 21 5 3 true (.array .int) := ⟨_, rfl, by decide, mem_g (List.mem_of_getElem? (i := 222) (by decide +kernel)) (by decide +kernel), rfl, rfl, rfl⟩
theorem fX5_24 : FL RX5 24 5 4 := ⟨_, rfl, by decide, mem_g (List.mem_of_getElem? (i := 223) (by decide +kernel)) (by decide +kernel)⟩
theorem pX5_24 : FP RX5 24 5 4 false (.int) := ⟨_, rfl, by decide, mem_g (List.mem_of_getElem? (i := 223) (by decide +kernel)) (by decide +kernel), rfl, rfl, rfl⟩
theorem fX6_13 : FL RX6 13 6 0 := ⟨_, rfl, by decide, mem_g (List.mem_of_getElem? (i := 235) (by decide +kernel)) (by decide +kernel)⟩
theorem pX6_13 : FP RX6 13 6 0 true (.int) := ⟨_, rfl, by decide, mem_g (List.mem_of_getElem? (i := 235) (by decide +kernel)) (by decide +kernel), rfl, rfl, rfl⟩
theorem fX6_26 : FL RX6 26 6 1 := ⟨_, rfl, by decide, mem_g (List.mem_of_getElem? (i := 236) (by decide +kernel)) (by decide +kernel)⟩
theorem pX6_26 : FP RX6 26 6 1 true (.int) := ⟨_, rfl, by decide, mem_g (List.mem_of_getElem? (i := 236) (by decide +kernel)) (by decide +kernel), rfl, rfl, rfl⟩
theorem fX6_31 : FL RX6 31 6 2 := ⟨_, rfl, by decide, mem_g (List.mem_of_getElem? (i := 237) (by decide +kernel)) (by decide +kernel)⟩
theorem pX6_31 : FP RX6 31 6 2 true (.array (.object "SpanLoom$Laying")) := ⟨_, rfl, by decide, mem_g (List.mem_of_getElem? (i := 237) (by decide +kernel)) (by decide +kernel), rfl, rfl, rfl⟩
theorem fX6_36 : FL RX6 36 6 3 := ⟨_, rfl, by decide, mem_g (List.mem_of_getElem? (i := 238) (by decide +kernel)) (by decide +kernel)⟩
theorem pX6_36 : FP RX6 36 6 3 true (.object "SpanLoom$Laying") := ⟨_, rfl, by decide, mem_g (List.mem_of_getElem? (i := 238) (by decide +kernel)) (by decide +kernel), rfl, rfl, rfl⟩
theorem fX6_45 : FL RX6 45 6 4 := ⟨_, rfl, by decide, mem_g (List.mem_of_getElem? (i := 239) (by decide +kernel)) (by decide +kernel)⟩
theorem pX6_45 : FP RX6 45 6 4 true (.object "SpanLoom$Rows") := ⟨_, rfl, by decide, mem_g (List.mem_of_getElem? (i := 239) (by decide +kernel)) (by decide +kernel), rfl, rfl, rfl⟩
theorem fX6_54 : FL RX6 54 6 5 := ⟨_, rfl, by decide, mem_g (List.mem_of_getElem? (i := 240) (by decide +kernel)) (by decide +kernel)⟩
theorem pX6_54 : FP RX6 54 6 5 true (.object "SpanLoom$Parting") := ⟨_, rfl, by decide, mem_g (List.mem_of_getElem? (i := 240) (by decide +kernel)) (by decide +kernel), rfl, rfl, rfl⟩
theorem fX6_61 : FL RX6 61 6 6 := ⟨_, rfl, by decide, mem_g (List.mem_of_getElem? (i := 241) (by decide +kernel)) (by decide +kernel)⟩
theorem pX6_61 : FP RX6 61 6 6 true (.object "SpanLoom$Spans") := ⟨_, rfl, by decide, mem_g (List.mem_of_getElem? (i := 241) (by decide +kernel)) (by decide +kernel), rfl, rfl, rfl⟩
theorem fX6_65 : FL RX6 65 6 7 := ⟨_, rfl, by decide, mem_g (List.mem_of_getElem? (i := 242) (by decide +kernel)) (by decide +kernel)⟩
theorem pX6_65 : FP RX6 65 6 7 true (.object "SpanLoom$Spans") := ⟨_, rfl, by decide, mem_g (List.mem_of_getElem? (i := 242) (by decide +kernel)) (by decide +kernel), rfl, rfl, rfl⟩
theorem fX6_71 : FL RX6 71 6 8 := ⟨_, rfl, by decide, mem_g (List.mem_of_getElem? (i := 243) (by decide +kernel)) (by decide +kernel)⟩
theorem pX6_71 : FP RX6 71 6 8 true (.object "SpanLoom$Pairing") := ⟨_, rfl, by decide, mem_g (List.mem_of_getElem? (i := 243) (by decide +kernel)) (by decide +kernel), rfl, rfl, rfl⟩
theorem fX6_78 : FL RX6 78 6 9 := ⟨_, rfl, by decide, mem_g (List.mem_of_getElem? (i := 244) (by decide +kernel)) (by decide +kernel)⟩
theorem pX6_78 : FP RX6 78 6 9 true (.object "SpanLoom$Tree") := ⟨_, rfl, by decide, mem_g (List.mem_of_getElem? (i := 244) (by decide +kernel)) (by decide +kernel), rfl, rfl, rfl⟩
theorem kL_21 : Cond.methodLink RL 21 yX6_lay ∈ lw_g := mem_g (List.mem_of_getElem? (i := 266) (by decide +kernel)) (by decide +kernel)
theorem kX6_82 : Cond.methodLink RX6 82 yX6_isLaying ∈ lw_g := mem_g (List.mem_of_getElem? (i := 270) (by decide +kernel)) (by decide +kernel)
theorem kX6_148 : Cond.methodLink RX6 148 yX6_isBelow ∈ lw_g := mem_g (List.mem_of_getElem? (i := 274) (by decide +kernel)) (by decide +kernel)
theorem kX6_86 : Cond.methodLink RX6 86 yX6_areWays ∈ lw_g := mem_g (List.mem_of_getElem? (i := 277) (by decide +kernel)) (by decide +kernel)
theorem kX6_89 : Cond.methodLink RX6 89 yX6_areSizes ∈ lw_g := mem_g (List.mem_of_getElem? (i := 281) (by decide +kernel)) (by decide +kernel)
theorem kX6_99 : Cond.methodLink RX6 99 yX6_sizeIn ∈ lw_g := mem_g (List.mem_of_getElem? (i := 285) (by decide +kernel)) (by decide +kernel)
theorem kX6_92 : Cond.methodLink RX6 92 yX0_empty ∈ lw_g := mem_g (List.mem_of_getElem? (i := 288) (by decide +kernel)) (by decide +kernel)
theorem kX0_22 : Cond.methodLink RX0 22 yJ7_fill_53178 ∈ lw_g := mem_g (List.mem_of_getElem? (i := 292) (by decide +kernel)) (by decide +kernel)
theorem kL_26 : Cond.methodLink RL 26 yX6_set ∈ lw_g := mem_g (List.mem_of_getElem? (i := 295) (by decide +kernel)) (by decide +kernel)
theorem kX6_102 : Cond.methodLink RX6 102 yX6_isCell ∈ lw_g := mem_g (List.mem_of_getElem? (i := 299) (by decide +kernel)) (by decide +kernel)
theorem kX6_151 : Cond.methodLink RX6 151 yX6_isArrow ∈ lw_g := mem_g (List.mem_of_getElem? (i := 303) (by decide +kernel)) (by decide +kernel)
theorem kX6_138 : Cond.methodLink RX6 138 yX0_rowsOf ∈ lw_g := mem_g (List.mem_of_getElem? (i := 307) (by decide +kernel)) (by decide +kernel)
theorem kX0_38 : Cond.methodLink RX0 38 yX0_target ∈ lw_g := mem_g (List.mem_of_getElem? (i := 311) (by decide +kernel)) (by decide +kernel)
theorem kX0_34 : Cond.methodLink RX0 34 yX0_isLeft ∈ lw_g := mem_g (List.mem_of_getElem? (i := 315) (by decide +kernel)) (by decide +kernel)
theorem kX6_141 : Cond.methodLink RX6 141 yX0_columnsOf ∈ lw_g := mem_g (List.mem_of_getElem? (i := 319) (by decide +kernel)) (by decide +kernel)
theorem kX0_42 : Cond.methodLink RX0 42 yX0_source ∈ lw_g := mem_g (List.mem_of_getElem? (i := 323) (by decide +kernel)) (by decide +kernel)
theorem kX6_106 : Cond.methodLink RX6 106 yJ9_floorMod_7cf53 ∈ lw_g := mem_g (List.mem_of_getElem? (i := 327) (by decide +kernel)) (by decide +kernel)
theorem kX6_109 : Cond.methodLink RX6 109 yX0_put ∈ lw_g := mem_g (List.mem_of_getElem? (i := 330) (by decide +kernel)) (by decide +kernel)
theorem kL_31 : Cond.methodLink RL 31 yX6_get ∈ lw_g := mem_g (List.mem_of_getElem? (i := 334) (by decide +kernel)) (by decide +kernel)
theorem kX6_113 : Cond.methodLink RX6 113 yX0_number ∈ lw_g := mem_g (List.mem_of_getElem? (i := 338) (by decide +kernel)) (by decide +kernel)
theorem kL_36 : Cond.methodLink RL 36 yX6_size ∈ lw_g := mem_g (List.mem_of_getElem? (i := 342) (by decide +kernel)) (by decide +kernel)
theorem kX6_117 : Cond.methodLink RX6 117 yX6_isPost ∈ lw_g := mem_g (List.mem_of_getElem? (i := 346) (by decide +kernel)) (by decide +kernel)
theorem kL_41 : Cond.methodLink RL 41 yX6_ways ∈ lw_g := mem_g (List.mem_of_getElem? (i := 350) (by decide +kernel)) (by decide +kernel)
theorem kL_46 : Cond.methodLink RL 46 yX6_span ∈ lw_g := mem_g (List.mem_of_getElem? (i := 354) (by decide +kernel)) (by decide +kernel)
theorem kX6_123 : Cond.methodLink RX6 123 yX6_isSpan ∈ lw_g := mem_g (List.mem_of_getElem? (i := 358) (by decide +kernel)) (by decide +kernel)
theorem kL_51 : Cond.methodLink RL 51 yX6_beside ∈ lw_g := mem_g (List.mem_of_getElem? (i := 362) (by decide +kernel)) (by decide +kernel)
theorem kX6_127 : Cond.methodLink RX6 127 yX6_haveSameWays ∈ lw_g := mem_g (List.mem_of_getElem? (i := 366) (by decide +kernel)) (by decide +kernel)
theorem kX6_130 : Cond.methodLink RX6 130 yX6_fitBeside ∈ lw_g := mem_g (List.mem_of_getElem? (i := 370) (by decide +kernel)) (by decide +kernel)
theorem kX6_134 : Cond.methodLink RX6 134 yX0_putTable ∈ lw_g := mem_g (List.mem_of_getElem? (i := 374) (by decide +kernel)) (by decide +kernel)
theorem kX0_49 : Cond.methodLink RX0 49 yX0_rowsOf ∈ lw_g := mem_g (List.mem_of_getElem? (i := 378) (by decide +kernel)) (by decide +kernel)
theorem kX0_52 : Cond.methodLink RX0 52 yX0_columnsOf ∈ lw_g := mem_g (List.mem_of_getElem? (i := 379) (by decide +kernel)) (by decide +kernel)
theorem kX0_45 : Cond.methodLink RX0 45 yX0_number ∈ lw_g := mem_g (List.mem_of_getElem? (i := 380) (by decide +kernel)) (by decide +kernel)
theorem kX0_55 : Cond.methodLink RX0 55 yX0_put ∈ lw_g := mem_g (List.mem_of_getElem? (i := 381) (by decide +kernel)) (by decide +kernel)
theorem kX6_144 : Cond.methodLink RX6 144 yX0_copy ∈ lw_g := mem_g (List.mem_of_getElem? (i := 382) (by decide +kernel)) (by decide +kernel)
theorem kX0_28 : Cond.methodLink RX0 28 arraycopyName ∈ lw_g := mem_g (List.mem_of_getElem? (i := 386) (by decide +kernel)) (by decide +kernel)
theorem kL_55 : Cond.methodLink RL 55 yX6_mix ∈ lw_g := mem_g (List.mem_of_getElem? (i := 389) (by decide +kernel)) (by decide +kernel)
theorem kX6_154 : Cond.methodLink RX6 154 yX0_target ∈ lw_g := mem_g (List.mem_of_getElem? (i := 393) (by decide +kernel)) (by decide +kernel)
theorem kX6_157 : Cond.methodLink RX6 157 yX6_addRow ∈ lw_g := mem_g (List.mem_of_getElem? (i := 394) (by decide +kernel)) (by decide +kernel)
theorem kX6_161 : Cond.methodLink RX6 161 yX6_addColumn ∈ lw_g := mem_g (List.mem_of_getElem? (i := 398) (by decide +kernel)) (by decide +kernel)
theorem kL_59 : Cond.methodLink RL 59 yX6_turn ∈ lw_g := mem_g (List.mem_of_getElem? (i := 402) (by decide +kernel)) (by decide +kernel)
theorem kX6_164 : Cond.methodLink RX6 164 yX6_isTurning ∈ lw_g := mem_g (List.mem_of_getElem? (i := 406) (by decide +kernel)) (by decide +kernel)
theorem kX6_228 : Cond.methodLink RX6 228 yX0_isLeft ∈ lw_g := mem_g (List.mem_of_getElem? (i := 410) (by decide +kernel)) (by decide +kernel)
theorem kX6_168 : Cond.methodLink RX6 168 yX6_gatherBeside ∈ lw_g := mem_g (List.mem_of_getElem? (i := 411) (by decide +kernel)) (by decide +kernel)
theorem kX6_231 : Cond.methodLink RX6 231 yX3_start ∈ lw_g := mem_g (List.mem_of_getElem? (i := 415) (by decide +kernel)) (by decide +kernel)
theorem kX3_24 : Cond.methodLink RX3 24 yJ9_min_7cf53 ∈ lw_g := mem_g (List.mem_of_getElem? (i := 419) (by decide +kernel)) (by decide +kernel)
theorem kX3_36 : Cond.methodLink RX3 36 yJ7_fill_53178 ∈ lw_g := mem_g (List.mem_of_getElem? (i := 420) (by decide +kernel)) (by decide +kernel)
theorem kX6_234 : Cond.methodLink RX6 234 yX0_numberBeside ∈ lw_g := mem_g (List.mem_of_getElem? (i := 421) (by decide +kernel)) (by decide +kernel)
theorem kX6_238 : Cond.methodLink RX6 238 yX3_put ∈ lw_g := mem_g (List.mem_of_getElem? (i := 425) (by decide +kernel)) (by decide +kernel)
theorem kX6_172 : Cond.methodLink RX6 172 yX3_bringToLeast ∈ lw_g := mem_g (List.mem_of_getElem? (i := 429) (by decide +kernel)) (by decide +kernel)
theorem kX3_46 : Cond.methodLink RX3 46 yX3_rowWithNumber ∈ lw_g := mem_g (List.mem_of_getElem? (i := 433) (by decide +kernel)) (by decide +kernel)
theorem kX3_49 : Cond.methodLink RX3 49 yX3_swap ∈ lw_g := mem_g (List.mem_of_getElem? (i := 437) (by decide +kernel)) (by decide +kernel)
theorem kX3_52 : Cond.methodLink RX3 52 yX3_inverse ∈ lw_g := mem_g (List.mem_of_getElem? (i := 441) (by decide +kernel)) (by decide +kernel)
theorem kX3_56 : Cond.methodLink RX3 56 yX3_scale ∈ lw_g := mem_g (List.mem_of_getElem? (i := 445) (by decide +kernel)) (by decide +kernel)
theorem kX3_60 : Cond.methodLink RX3 60 yX3_clearElsewhere ∈ lw_g := mem_g (List.mem_of_getElem? (i := 449) (by decide +kernel)) (by decide +kernel)
theorem kX6_175 : Cond.methodLink RX6 175 yX3_freeCount ∈ lw_g := mem_g (List.mem_of_getElem? (i := 453) (by decide +kernel)) (by decide +kernel)
theorem kX6_179 : Cond.methodLink RX6 179 yX6_putTurned ∈ lw_g := mem_g (List.mem_of_getElem? (i := 457) (by decide +kernel)) (by decide +kernel)
theorem kX6_241 : Cond.methodLink RX6 241 yX0_reverse ∈ lw_g := mem_g (List.mem_of_getElem? (i := 461) (by decide +kernel)) (by decide +kernel)
theorem kX6_247 : Cond.methodLink RX6 247 yX3_isFree ∈ lw_g := mem_g (List.mem_of_getElem? (i := 465) (by decide +kernel)) (by decide +kernel)
theorem kX6_250 : Cond.methodLink RX6 250 yX3_rest ∈ lw_g := mem_g (List.mem_of_getElem? (i := 469) (by decide +kernel)) (by decide +kernel)
theorem kL_64 : Cond.methodLink RL 64 yX6_maps ∈ lw_g := mem_g (List.mem_of_getElem? (i := 473) (by decide +kernel)) (by decide +kernel)
theorem kX6_183 : Cond.methodLink RX6 183 yX2_part ∈ lw_g := mem_g (List.mem_of_getElem? (i := 477) (by decide +kernel)) (by decide +kernel)
theorem kX2_41 : Cond.methodLink RX2 41 yX2_coverFrom ∈ lw_g := mem_g (List.mem_of_getElem? (i := 481) (by decide +kernel)) (by decide +kernel)
theorem kX2_63 : Cond.methodLink RX2 63 yJ7_fill_53178 ∈ lw_g := mem_g (List.mem_of_getElem? (i := 485) (by decide +kernel)) (by decide +kernel)
theorem kX2_75 : Cond.methodLink RX2 75 yX3_startWhole ∈ lw_g := mem_g (List.mem_of_getElem? (i := 486) (by decide +kernel)) (by decide +kernel)
theorem kX3_42 : Cond.methodLink RX3 42 yX3_start ∈ lw_g := mem_g (List.mem_of_getElem? (i := 490) (by decide +kernel)) (by decide +kernel)
theorem kX2_78 : Cond.methodLink RX2 78 yX3_start ∈ lw_g := mem_g (List.mem_of_getElem? (i := 491) (by decide +kernel)) (by decide +kernel)
theorem kX2_84 : Cond.methodLink RX2 84 yX2_lead ∈ lw_g := mem_g (List.mem_of_getElem? (i := 492) (by decide +kernel)) (by decide +kernel)
theorem kX2_88 : Cond.methodLink RX2 88 yX0_isLeft ∈ lw_g := mem_g (List.mem_of_getElem? (i := 496) (by decide +kernel)) (by decide +kernel)
theorem kX2_92 : Cond.methodLink RX2 92 yX2_findConditions ∈ lw_g := mem_g (List.mem_of_getElem? (i := 497) (by decide +kernel)) (by decide +kernel)
theorem kX2_120 : Cond.methodLink RX2 120 yX3_freeCount ∈ lw_g := mem_g (List.mem_of_getElem? (i := 501) (by decide +kernel)) (by decide +kernel)
theorem kX2_124 : Cond.methodLink RX2 124 yX3_isFree ∈ lw_g := mem_g (List.mem_of_getElem? (i := 502) (by decide +kernel)) (by decide +kernel)
theorem kX2_127 : Cond.methodLink RX2 127 yX3_rest ∈ lw_g := mem_g (List.mem_of_getElem? (i := 503) (by decide +kernel)) (by decide +kernel)
theorem kX2_110 : Cond.methodLink RX2 110 yX0_number ∈ lw_g := mem_g (List.mem_of_getElem? (i := 504) (by decide +kernel)) (by decide +kernel)
theorem kX2_116 : Cond.methodLink RX2 116 yX3_put ∈ lw_g := mem_g (List.mem_of_getElem? (i := 505) (by decide +kernel)) (by decide +kernel)
theorem kX2_96 : Cond.methodLink RX2 96 yX3_bringToLeast ∈ lw_g := mem_g (List.mem_of_getElem? (i := 506) (by decide +kernel)) (by decide +kernel)
theorem kX2_99 : Cond.methodLink RX2 99 yX2_solveConditions ∈ lw_g := mem_g (List.mem_of_getElem? (i := 507) (by decide +kernel)) (by decide +kernel)
theorem kX2_103 : Cond.methodLink RX2 103 yX2_leadAlong ∈ lw_g := mem_g (List.mem_of_getElem? (i := 511) (by decide +kernel)) (by decide +kernel)
theorem kX2_114 : Cond.methodLink RX2 114 yX3_number ∈ lw_g := mem_g (List.mem_of_getElem? (i := 515) (by decide +kernel)) (by decide +kernel)
theorem kX2_45 : Cond.methodLink RX2 45 yX4_clear ∈ lw_g := mem_g (List.mem_of_getElem? (i := 519) (by decide +kernel)) (by decide +kernel)
theorem kX2_50 : Cond.methodLink RX2 50 yX2_timesByCovers ∈ lw_g := mem_g (List.mem_of_getElem? (i := 523) (by decide +kernel)) (by decide +kernel)
theorem kX2_54 : Cond.methodLink RX2 54 yX4_add ∈ lw_g := mem_g (List.mem_of_getElem? (i := 527) (by decide +kernel)) (by decide +kernel)
theorem kX6_187 : Cond.methodLink RX6 187 yX6_mapsOfSpans ∈ lw_g := mem_g (List.mem_of_getElem? (i := 531) (by decide +kernel)) (by decide +kernel)
theorem kX6_256 : Cond.methodLink RX6 256 yX6_isMapped ∈ lw_g := mem_g (List.mem_of_getElem? (i := 535) (by decide +kernel)) (by decide +kernel)
theorem kL_68 : Cond.methodLink RL 68 yX6_bends ∈ lw_g := mem_g (List.mem_of_getElem? (i := 539) (by decide +kernel)) (by decide +kernel)
theorem kX6_191 : Cond.methodLink RX6 191 yX6_form ∈ lw_g := mem_g (List.mem_of_getElem? (i := 543) (by decide +kernel)) (by decide +kernel)
theorem kX6_194 : Cond.methodLink RX6 194 yX0_source ∈ lw_g := mem_g (List.mem_of_getElem? (i := 547) (by decide +kernel)) (by decide +kernel)
theorem kL_72 : Cond.methodLink RL 72 yX6_form ∈ lw_g := mem_g (List.mem_of_getElem? (i := 548) (by decide +kernel)) (by decide +kernel)
theorem kL_76 : Cond.methodLink RL 76 yX6_spans ∈ lw_g := mem_g (List.mem_of_getElem? (i := 549) (by decide +kernel)) (by decide +kernel)
theorem kX6_197 : Cond.methodLink RX6 197 yX2_times ∈ lw_g := mem_g (List.mem_of_getElem? (i := 553) (by decide +kernel)) (by decide +kernel)
theorem kX2_58 : Cond.methodLink RX2 58 yJ9_min_7cf53 ∈ lw_g := mem_g (List.mem_of_getElem? (i := 557) (by decide +kernel)) (by decide +kernel)
theorem kL_80 : Cond.methodLink RL 80 yX6_like ∈ lw_g := mem_g (List.mem_of_getElem? (i := 558) (by decide +kernel)) (by decide +kernel)
theorem kX6_201 : Cond.methodLink RX6 201 yX4_areSame ∈ lw_g := mem_g (List.mem_of_getElem? (i := 562) (by decide +kernel)) (by decide +kernel)
theorem kL_85 : Cond.methodLink RL 85 yX6_rank ∈ lw_g := mem_g (List.mem_of_getElem? (i := 566) (by decide +kernel)) (by decide +kernel)
theorem kX6_205 : Cond.methodLink RX6 205 yX6_isLed ∈ lw_g := mem_g (List.mem_of_getElem? (i := 570) (by decide +kernel)) (by decide +kernel)
theorem kX6_209 : Cond.methodLink RX6 209 yX2_covering ∈ lw_g := mem_g (List.mem_of_getElem? (i := 573) (by decide +kernel)) (by decide +kernel)
theorem kL_89 : Cond.methodLink RL 89 yX6_far ∈ lw_g := mem_g (List.mem_of_getElem? (i := 577) (by decide +kernel)) (by decide +kernel)
theorem kX6_212 : Cond.methodLink RX6 212 yX1_leastCost ∈ lw_g := mem_g (List.mem_of_getElem? (i := 581) (by decide +kernel)) (by decide +kernel)
theorem kX1_24 : Cond.methodLink RX1 24 yX1_canPair ∈ lw_g := mem_g (List.mem_of_getElem? (i := 585) (by decide +kernel)) (by decide +kernel)
theorem kX1_28 : Cond.methodLink RX1 28 yJ7_fill_53178 ∈ lw_g := mem_g (List.mem_of_getElem? (i := 589) (by decide +kernel)) (by decide +kernel)
theorem kX1_46 : Cond.methodLink RX1 46 yX1_pair ∈ lw_g := mem_g (List.mem_of_getElem? (i := 590) (by decide +kernel)) (by decide +kernel)
theorem kX1_50 : Cond.methodLink RX1 50 yX1_cost ∈ lw_g := mem_g (List.mem_of_getElem? (i := 594) (by decide +kernel)) (by decide +kernel)
theorem kX1_58 : Cond.methodLink RX1 58 yJ9_abs_0f7a4 ∈ lw_g := mem_g (List.mem_of_getElem? (i := 597) (by decide +kernel)) (by decide +kernel)
theorem kX1_64 : Cond.methodLink RX1 64 yJ9_max_7cf53 ∈ lw_g := mem_g (List.mem_of_getElem? (i := 600) (by decide +kernel)) (by decide +kernel)
theorem kX1_54 : Cond.methodLink RX1 54 yX1_change ∈ lw_g := mem_g (List.mem_of_getElem? (i := 601) (by decide +kernel)) (by decide +kernel)
theorem kL_93 : Cond.methodLink RL 93 yX6_kind ∈ lw_g := mem_g (List.mem_of_getElem? (i := 605) (by decide +kernel)) (by decide +kernel)
theorem kX6_216 : Cond.methodLink RX6 216 yX5_read ∈ lw_g := mem_g (List.mem_of_getElem? (i := 609) (by decide +kernel)) (by decide +kernel)
theorem kX6_219 : Cond.methodLink RX6 219 yX5_kindOf ∈ lw_g := mem_g (List.mem_of_getElem? (i := 613) (by decide +kernel)) (by decide +kernel)
theorem kX5_28 : Cond.methodLink RX5 28 yJ7_fill_53178 ∈ lw_g := mem_g (List.mem_of_getElem? (i := 617) (by decide +kernel)) (by decide +kernel)
theorem kL_97 : Cond.methodLink RL 97 yX6_roots ∈ lw_g := mem_g (List.mem_of_getElem? (i := 618) (by decide +kernel)) (by decide +kernel)
theorem kX6_222 : Cond.methodLink RX6 222 yX5_rootCount ∈ lw_g := mem_g (List.mem_of_getElem? (i := 622) (by decide +kernel)) (by decide +kernel)
theorem kX5_34 : Cond.methodLink RX5 34 yX5_countLines ∈ lw_g := mem_g (List.mem_of_getElem? (i := 626) (by decide +kernel)) (by decide +kernel)
theorem kX5_37 : Cond.methodLink RX5 37 yX5_branchPost ∈ lw_g := mem_g (List.mem_of_getElem? (i := 630) (by decide +kernel)) (by decide +kernel)
theorem kX5_41 : Cond.methodLink RX5 41 yX5_endsBeside ∈ lw_g := mem_g (List.mem_of_getElem? (i := 634) (by decide +kernel)) (by decide +kernel)
theorem kL_101 : Cond.methodLink RL 101 yX6_count ∈ lw_g := mem_g (List.mem_of_getElem? (i := 638) (by decide +kernel)) (by decide +kernel)
theorem kL_9 : Cond.methodLink RL 9 yL_cell ∈ lw_g := mem_g (List.mem_of_getElem? (i := 642) (by decide +kernel)) (by decide +kernel)
theorem kL_20 : Cond.methodLink RL 20 yX7_init ∈ lw_g := mem_g (List.mem_of_getElem? (i := 647) (by decide +kernel)) (by decide +kernel)
theorem kX7_3 : Cond.methodLink RX7 3 Lib.objectInit ∈ lw_g := mem_g (List.mem_of_getElem? (i := 650) (by decide +kernel)) (by decide +kernel)
theorem fX7_77 : Cond.fieldLink RX7 77 "SpanLoomModel" "PRIMES" "[I" ∈ lw_g := mem_g (List.mem_of_getElem? (i := 656) (by decide +kernel)) (by decide +kernel)
theorem kX7_84 : Cond.methodLink RX7 84 yJ9_min_7cf53 ∈ lw_g := mem_g (List.mem_of_getElem? (i := 658) (by decide +kernel)) (by decide +kernel)
theorem kX7_90 : Cond.methodLink RX7 90 yJ9_max_7cf53 ∈ lw_g := mem_g (List.mem_of_getElem? (i := 659) (by decide +kernel)) (by decide +kernel)
theorem fX7_80 : FL RX7 80 7 0 := ⟨_, rfl, by decide, mem_g (List.mem_of_getElem? (i := 660) (by decide +kernel)) (by decide +kernel)⟩
theorem pX7_80 : FP RX7 80 7 0 true (.int) := ⟨_, rfl, by decide, mem_g (List.mem_of_getElem? (i := 660) (by decide +kernel)) (by decide +kernel), rfl, rfl, rfl⟩
theorem fX7_93 : FL RX7 93 7 1 := ⟨_, rfl, by decide, mem_g (List.mem_of_getElem? (i := 661) (by decide +kernel)) (by decide +kernel)⟩
theorem pX7_93 : FP RX7 93 7 1 true (.int) := ⟨_, rfl, by decide, mem_g (List.mem_of_getElem? (i := 661) (by decide +kernel)) (by decide +kernel), rfl, rfl, rfl⟩
theorem fX7_9 : FL RX7 9 7 2 := ⟨_, rfl, by decide, mem_g (List.mem_of_getElem? (i := 662) (by decide +kernel)) (by decide +kernel)⟩
theorem pX7_9 : FP RX7 9 7 2 true (.array .int) := ⟨_, rfl, by decide, mem_g (List.mem_of_getElem? (i := 662) (by decide +kernel)) (by decide +kernel), rfl, rfl, rfl⟩
theorem fX7_13 : FL RX7 13 7 3 := ⟨_, rfl, by decide, mem_g (List.mem_of_getElem? (i := 663) (by decide +kernel)) (by decide +kernel)⟩
theorem pX7_13 : FP RX7 13 7 3 true (.array .int) := ⟨_, rfl, by decide, mem_g (List.mem_of_getElem? (i := 663) (by decide +kernel)) (by decide +kernel), rfl, rfl, rfl⟩
theorem fX7_16 : FL RX7 16 7 4 := ⟨_, rfl, by decide, mem_g (List.mem_of_getElem? (i := 664) (by decide +kernel)) (by decide +kernel)⟩
theorem pX7_16 : FP RX7 16 7 4 true (.array .int) := ⟨_, rfl, by decide, mem_g (List.mem_of_getElem? (i := 664) (by decide +kernel)) (by decide +kernel), rfl, rfl, rfl⟩
theorem fX7_19 : FL RX7 19 7 5 := ⟨_, rfl, by decide, mem_g (List.mem_of_getElem? (i := 665) (by decide +kernel)) (by decide +kernel)⟩
theorem pX7_19 : FP RX7 19 7 5 true (.array .int) := ⟨_, rfl, by decide, mem_g (List.mem_of_getElem? (i := 665) (by decide +kernel)) (by decide +kernel), rfl, rfl, rfl⟩
theorem fX7_22 : FL RX7 22 7 6 := ⟨_, rfl, by decide, mem_g (List.mem_of_getElem? (i := 666) (by decide +kernel)) (by decide +kernel)⟩
theorem pX7_22 : FP RX7 22 7 6 true (.array .int) := ⟨_, rfl, by decide, mem_g (List.mem_of_getElem? (i := 666) (by decide +kernel)) (by decide +kernel), rfl, rfl, rfl⟩
theorem fX7_27 : FL RX7 27 7 7 := ⟨_, rfl, by decide, mem_g (List.mem_of_getElem? (i := 667) (by decide +kernel)) (by decide +kernel)⟩
theorem pX7_27 : FP RX7 27 7 7 true (.array (.array .int)) := ⟨_, rfl, by decide, mem_g (List.mem_of_getElem? (i := 667) (by decide +kernel)) (by decide +kernel), rfl, rfl, rfl⟩
theorem fX7_30 : FL RX7 30 7 8 := ⟨_, rfl, by decide, mem_g (List.mem_of_getElem? (i := 668) (by decide +kernel)) (by decide +kernel)⟩
theorem pX7_30 : FP RX7 30 7 8 true (.array .int) := ⟨_, rfl, by decide, mem_g (List.mem_of_getElem? (i := 668) (by decide +kernel)) (by decide +kernel), rfl, rfl, rfl⟩
theorem fX7_146 : FL RX7 146 7 9 := ⟨_, rfl, by decide, mem_g (List.mem_of_getElem? (i := 669) (by decide +kernel)) (by decide +kernel)⟩
theorem pX7_146 : FP RX7 146 7 9 false (.int) := ⟨_, rfl, by decide, mem_g (List.mem_of_getElem? (i := 669) (by decide +kernel)) (by decide +kernel), rfl, rfl, rfl⟩
theorem fX7_149 : FL RX7 149 7 10 := ⟨_, rfl, by decide, mem_g (List.mem_of_getElem? (i := 670) (by decide +kernel)) (by decide +kernel)⟩
theorem pX7_149 : FP RX7 149 7 10 false (.int) := ⟨_, rfl, by decide, mem_g (List.mem_of_getElem? (i := 670) (by decide +kernel)) (by decide +kernel), rfl, rfl, rfl⟩
theorem fX7_33 : FL RX7 33 7 11 := ⟨_, rfl, by decide, mem_g (List.mem_of_getElem? (i := 671) (by decide +kernel)) (by decide +kernel)⟩
theorem pX7_33 : FP RX7 33 7 11 true (.array .int) := ⟨_, rfl, by decide, mem_g (List.mem_of_getElem? (i := 671) (by decide +kernel)) (by decide +kernel), rfl, rfl, rfl⟩
theorem fX7_36 : FL RX7 36 7 12 := ⟨_, rfl, by decide, mem_g (List.mem_of_getElem? (i := 672) (by decide +kernel)) (by decide +kernel)⟩
theorem pX7_36 : FP RX7 36 7 12 true (.array .int) := ⟨_, rfl, by decide, mem_g (List.mem_of_getElem? (i := 672) (by decide +kernel)) (by decide +kernel), rfl, rfl, rfl⟩
theorem fX7_39 : FL RX7 39 7 13 := ⟨_, rfl, by decide, mem_g (List.mem_of_getElem? (i := 673) (by decide +kernel)) (by decide +kernel)⟩
theorem pX7_39 : FP RX7 39 7 13 true (.array (.array .int)) := ⟨_, rfl, by decide, mem_g (List.mem_of_getElem? (i := 673) (by decide +kernel)) (by decide +kernel), rfl, rfl, rfl⟩
theorem fX7_42 : FL RX7 42 7 14 := ⟨_, rfl, by decide, mem_g (List.mem_of_getElem? (i := 674) (by decide +kernel)) (by decide +kernel)⟩
theorem pX7_42 : FP RX7 42 7 14 true (.array .int) := ⟨_, rfl, by decide, mem_g (List.mem_of_getElem? (i := 674) (by decide +kernel)) (by decide +kernel), rfl, rfl, rfl⟩
theorem fX7_45 : FL RX7 45 7 15 := ⟨_, rfl, by decide, mem_g (List.mem_of_getElem? (i := 675) (by decide +kernel)) (by decide +kernel)⟩
theorem pX7_45 : FP RX7 45 7 15 true (.array .int) := ⟨_, rfl, by decide, mem_g (List.mem_of_getElem? (i := 675) (by decide +kernel)) (by decide +kernel), rfl, rfl, rfl⟩
theorem fX7_48 : FL RX7 48 7 16 := ⟨_, rfl, by decide, mem_g (List.mem_of_getElem? (i := 676) (by decide +kernel)) (by decide +kernel)⟩
theorem pX7_48 : FP RX7 48 7 16 true (.array .int) := ⟨_, rfl, by decide, mem_g (List.mem_of_getElem? (i := 676) (by decide +kernel)) (by decide +kernel), rfl, rfl, rfl⟩
theorem fX7_51 : FL RX7 51 7 17 := ⟨_, rfl, by decide, mem_g (List.mem_of_getElem? (i := 677) (by decide +kernel)) (by decide +kernel)⟩
theorem pX7_51 : FP RX7 51 7 17 true (.array .int) := ⟨_, rfl, by decide, mem_g (List.mem_of_getElem? (i := 677) (by decide +kernel)) (by decide +kernel), rfl, rfl, rfl⟩
theorem fX7_54 : FL RX7 54 7 18 := ⟨_, rfl, by decide, mem_g (List.mem_of_getElem? (i := 678) (by decide +kernel)) (by decide +kernel)⟩
theorem pX7_54 : FP RX7 54 7 18 true (.array .int) := ⟨_, rfl, by decide, mem_g (List.mem_of_getElem? (i := 678) (by decide +kernel)) (by decide +kernel), rfl, rfl, rfl⟩
theorem fX7_57 : FL RX7 57 7 19 := ⟨_, rfl, by decide, mem_g (List.mem_of_getElem? (i := 679) (by decide +kernel)) (by decide +kernel)⟩
theorem pX7_57 : FP RX7 57 7 19 true (.array .int) := ⟨_, rfl, by decide, mem_g (List.mem_of_getElem? (i := 679) (by decide +kernel)) (by decide +kernel), rfl, rfl, rfl⟩
theorem fX7_60 : FL RX7 60 7 20 := ⟨_, rfl, by decide, mem_g (List.mem_of_getElem? (i := 680) (by decide +kernel)) (by decide +kernel)⟩
theorem pX7_60 : FP RX7 60 7 20 true (.array .boolean) := ⟨_, rfl, by decide, mem_g (List.mem_of_getElem? (i := 680) (by decide +kernel)) (by decide +kernel), rfl, rfl, rfl⟩
theorem fX7_66 : FL RX7 66 7 21 := ⟨_, rfl, by decide, mem_g (List.mem_of_getElem? (i := 681) (by decide +kernel)) (by decide +kernel)⟩
theorem pX7_66 : FP RX7 66 7 21 true (.array (.array .long)) := ⟨_, rfl, by decide, mem_g (List.mem_of_getElem? (i := 681) (by decide +kernel)) (by decide +kernel), rfl, rfl, rfl⟩
theorem fX7_69 : FL RX7 69 7 22 := ⟨_, rfl, by decide, mem_g (List.mem_of_getElem? (i := 682) (by decide +kernel)) (by decide +kernel)⟩
theorem pX7_69 : FP RX7 69 7 22 true (.array .int) := ⟨_, rfl, by decide, mem_g (List.mem_of_getElem? (i := 682) (by decide +kernel)) (by decide +kernel), rfl, rfl, rfl⟩
theorem fX7_74 : FL RX7 74 7 23 := ⟨_, rfl, by decide, mem_g (List.mem_of_getElem? (i := 683) (by decide +kernel)) (by decide +kernel)⟩
theorem pX7_74 : FP RX7 74 7 23 true (.array (.array .byte)) := ⟨_, rfl, by decide, mem_g (List.mem_of_getElem? (i := 683) (by decide +kernel)) (by decide +kernel), rfl, rfl, rfl⟩
theorem kL_25 : Cond.methodLink RL 25 yX7_lay ∈ lw_g := mem_g (List.mem_of_getElem? (i := 736) (by decide +kernel)) (by decide +kernel)
theorem kX7_104 : Cond.methodLink RX7 104 yX7_isLaying ∈ lw_g := mem_g (List.mem_of_getElem? (i := 740) (by decide +kernel)) (by decide +kernel)
theorem kX7_96 : Cond.methodLink RX7 96 yX7_in ∈ lw_g := mem_g (List.mem_of_getElem? (i := 743) (by decide +kernel)) (by decide +kernel)
theorem kX7_108 : Cond.methodLink RX7 108 yX7_areWays ∈ lw_g := mem_g (List.mem_of_getElem? (i := 746) (by decide +kernel)) (by decide +kernel)
theorem kX7_111 : Cond.methodLink RX7 111 yX7_clear ∈ lw_g := mem_g (List.mem_of_getElem? (i := 750) (by decide +kernel)) (by decide +kernel)
theorem kL_30 : Cond.methodLink RL 30 yX7_set ∈ lw_g := mem_g (List.mem_of_getElem? (i := 754) (by decide +kernel)) (by decide +kernel)
theorem kX7_124 : Cond.methodLink RX7 124 yX7_isCell ∈ lw_g := mem_g (List.mem_of_getElem? (i := 758) (by decide +kernel)) (by decide +kernel)
theorem kX7_115 : Cond.methodLink RX7 115 yX7_target ∈ lw_g := mem_g (List.mem_of_getElem? (i := 762) (by decide +kernel)) (by decide +kernel)
theorem kX7_100 : Cond.methodLink RX7 100 yX7_isLeft ∈ lw_g := mem_g (List.mem_of_getElem? (i := 766) (by decide +kernel)) (by decide +kernel)
theorem kX7_118 : Cond.methodLink RX7 118 yX7_at ∈ lw_g := mem_g (List.mem_of_getElem? (i := 770) (by decide +kernel)) (by decide +kernel)
theorem kX7_121 : Cond.methodLink RX7 121 yX7_source ∈ lw_g := mem_g (List.mem_of_getElem? (i := 774) (by decide +kernel)) (by decide +kernel)
theorem kX7_128 : Cond.methodLink RX7 128 yX7_cell ∈ lw_g := mem_g (List.mem_of_getElem? (i := 778) (by decide +kernel)) (by decide +kernel)
theorem kX7_132 : Cond.methodLink RX7 132 yX7_rest ∈ lw_g := mem_g (List.mem_of_getElem? (i := 781) (by decide +kernel)) (by decide +kernel)
theorem kL_35 : Cond.methodLink RL 35 yX7_get ∈ lw_g := mem_g (List.mem_of_getElem? (i := 785) (by decide +kernel)) (by decide +kernel)
theorem kL_40 : Cond.methodLink RL 40 yX7_size ∈ lw_g := mem_g (List.mem_of_getElem? (i := 789) (by decide +kernel)) (by decide +kernel)
theorem kX7_136 : Cond.methodLink RX7 136 yX7_isPost ∈ lw_g := mem_g (List.mem_of_getElem? (i := 793) (by decide +kernel)) (by decide +kernel)
theorem kL_45 : Cond.methodLink RL 45 yX7_ways ∈ lw_g := mem_g (List.mem_of_getElem? (i := 797) (by decide +kernel)) (by decide +kernel)
theorem kL_50 : Cond.methodLink RL 50 yX7_span ∈ lw_g := mem_g (List.mem_of_getElem? (i := 801) (by decide +kernel)) (by decide +kernel)
theorem kL_54 : Cond.methodLink RL 54 yX7_beside ∈ lw_g := mem_g (List.mem_of_getElem? (i := 805) (by decide +kernel)) (by decide +kernel)
theorem kX7_139 : Cond.methodLink RX7 139 yX7_copies ∈ lw_g := mem_g (List.mem_of_getElem? (i := 809) (by decide +kernel)) (by decide +kernel)
theorem kX7_143 : Cond.methodLink RX7 143 yX7_becomes ∈ lw_g := mem_g (List.mem_of_getElem? (i := 813) (by decide +kernel)) (by decide +kernel)
theorem kL_58 : Cond.methodLink RL 58 yX7_mix ∈ lw_g := mem_g (List.mem_of_getElem? (i := 817) (by decide +kernel)) (by decide +kernel)
theorem kL_63 : Cond.methodLink RL 63 yX7_turn ∈ lw_g := mem_g (List.mem_of_getElem? (i := 821) (by decide +kernel)) (by decide +kernel)
theorem kX7_155 : Cond.methodLink RX7 155 yX7_begin ∈ lw_g := mem_g (List.mem_of_getElem? (i := 825) (by decide +kernel)) (by decide +kernel)
theorem kX7_158 : Cond.methodLink RX7 158 yX7_newRow ∈ lw_g := mem_g (List.mem_of_getElem? (i := 829) (by decide +kernel)) (by decide +kernel)
theorem kX7_162 : Cond.methodLink RX7 162 yX7_reduce ∈ lw_g := mem_g (List.mem_of_getElem? (i := 833) (by decide +kernel)) (by decide +kernel)
theorem kX7_152 : Cond.methodLink RX7 152 yX7_inverse ∈ lw_g := mem_g (List.mem_of_getElem? (i := 837) (by decide +kernel)) (by decide +kernel)
theorem kX7_166 : Cond.methodLink RX7 166 yX7_isLead ∈ lw_g := mem_g (List.mem_of_getElem? (i := 841) (by decide +kernel)) (by decide +kernel)
theorem kL_67 : Cond.methodLink RL 67 yX7_maps ∈ lw_g := mem_g (List.mem_of_getElem? (i := 845) (by decide +kernel)) (by decide +kernel)
theorem kX7_169 : Cond.methodLink RX7 169 yX7_areAlong ∈ lw_g := mem_g (List.mem_of_getElem? (i := 849) (by decide +kernel)) (by decide +kernel)
theorem kL_75 : Cond.methodLink RL 75 yX7_form ∈ lw_g := mem_g (List.mem_of_getElem? (i := 853) (by decide +kernel)) (by decide +kernel)
theorem kL_71 : Cond.methodLink RL 71 yX7_bends ∈ lw_g := mem_g (List.mem_of_getElem? (i := 857) (by decide +kernel)) (by decide +kernel)
theorem kX7_172 : Cond.methodLink RX7 172 yX7_maps ∈ lw_g := mem_g (List.mem_of_getElem? (i := 861) (by decide +kernel)) (by decide +kernel)
theorem kX7_175 : Cond.methodLink RX7 175 yX7_form ∈ lw_g := mem_g (List.mem_of_getElem? (i := 862) (by decide +kernel)) (by decide +kernel)
theorem kL_79 : Cond.methodLink RL 79 yX7_spans ∈ lw_g := mem_g (List.mem_of_getElem? (i := 863) (by decide +kernel)) (by decide +kernel)
theorem kX7_184 : Cond.methodLink RX7 184 yX7_times ∈ lw_g := mem_g (List.mem_of_getElem? (i := 867) (by decide +kernel)) (by decide +kernel)
theorem kX7_181 : Cond.methodLink RX7 181 yX7_through ∈ lw_g := mem_g (List.mem_of_getElem? (i := 871) (by decide +kernel)) (by decide +kernel)
theorem kX7_178 : Cond.methodLink RX7 178 yX7_same ∈ lw_g := mem_g (List.mem_of_getElem? (i := 875) (by decide +kernel)) (by decide +kernel)
theorem kL_84 : Cond.methodLink RL 84 yX7_like ∈ lw_g := mem_g (List.mem_of_getElem? (i := 879) (by decide +kernel)) (by decide +kernel)
theorem kL_88 : Cond.methodLink RL 88 yX7_rank ∈ lw_g := mem_g (List.mem_of_getElem? (i := 883) (by decide +kernel)) (by decide +kernel)
theorem kL_92 : Cond.methodLink RL 92 yX7_far ∈ lw_g := mem_g (List.mem_of_getElem? (i := 887) (by decide +kernel)) (by decide +kernel)
theorem kX7_196 : Cond.methodLink RX7 196 yX7_list ∈ lw_g := mem_g (List.mem_of_getElem? (i := 891) (by decide +kernel)) (by decide +kernel)
theorem kX7_199 : Cond.methodLink RX7 199 yX7_isCovered ∈ lw_g := mem_g (List.mem_of_getElem? (i := 895) (by decide +kernel)) (by decide +kernel)
theorem kX7_193 : Cond.methodLink RX7 193 yX7_finds ∈ lw_g := mem_g (List.mem_of_getElem? (i := 899) (by decide +kernel)) (by decide +kernel)
theorem kX7_190 : Cond.methodLink RX7 190 yX7_cost ∈ lw_g := mem_g (List.mem_of_getElem? (i := 903) (by decide +kernel)) (by decide +kernel)
theorem kX7_187 : Cond.methodLink RX7 187 yJ9_abs_0f7a4 ∈ lw_g := mem_g (List.mem_of_getElem? (i := 907) (by decide +kernel)) (by decide +kernel)
theorem kL_96 : Cond.methodLink RL 96 yX7_kind ∈ lw_g := mem_g (List.mem_of_getElem? (i := 908) (by decide +kernel)) (by decide +kernel)
theorem kX7_210 : Cond.methodLink RX7 210 yX7_isTree ∈ lw_g := mem_g (List.mem_of_getElem? (i := 912) (by decide +kernel)) (by decide +kernel)
theorem kX7_213 : Cond.methodLink RX7 213 yX7_determinant ∈ lw_g := mem_g (List.mem_of_getElem? (i := 916) (by decide +kernel)) (by decide +kernel)
theorem kX7_206 : Cond.methodLink RX7 206 yX7_twice ∈ lw_g := mem_g (List.mem_of_getElem? (i := 920) (by decide +kernel)) (by decide +kernel)
theorem kL_100 : Cond.methodLink RL 100 yX7_roots ∈ lw_g := mem_g (List.mem_of_getElem? (i := 925) (by decide +kernel)) (by decide +kernel)
theorem kX7_217 : Cond.methodLink RX7 217 yX7_kind ∈ lw_g := mem_g (List.mem_of_getElem? (i := 929) (by decide +kernel)) (by decide +kernel)
theorem kX7_220 : Cond.methodLink RX7 220 yX7_value ∈ lw_g := mem_g (List.mem_of_getElem? (i := 930) (by decide +kernel)) (by decide +kernel)
theorem kX7_224 : Cond.methodLink RX7 224 yX7_isFound ∈ lw_g := mem_g (List.mem_of_getElem? (i := 934) (by decide +kernel)) (by decide +kernel)
theorem kX7_228 : Cond.methodLink RX7 228 yX7_isBehind ∈ lw_g := mem_g (List.mem_of_getElem? (i := 938) (by decide +kernel)) (by decide +kernel)
theorem kL_104 : Cond.methodLink RL 104 yX7_count ∈ lw_g := mem_g (List.mem_of_getElem? (i := 942) (by decide +kernel)) (by decide +kernel)
theorem nL_7 : NW RL 7 6 10 := ⟨_, rfl, rfl, mem_g (List.mem_of_getElem? (i := 74) (by decide +kernel)) (by decide +kernel), mem_g (List.mem_of_getElem? (i := 75) (by decide +kernel)) (by decide +kernel), ci_X6⟩
theorem nX6_29 : NW RX6 29 0 3 := ⟨_, rfl, rfl, mem_g (List.mem_of_getElem? (i := 93) (by decide +kernel)) (by decide +kernel), mem_g (List.mem_of_getElem? (i := 95) (by decide +kernel)) (by decide +kernel), ci_X0⟩
theorem naX6_29 : Cond.classLink RX6 29 "SpanLoom$Laying" ∈ lw_g := mem_g (List.mem_of_getElem? (i := 93) (by decide +kernel)) (by decide +kernel)
theorem nX6_40 : NW RX6 40 3 5 := ⟨_, rfl, rfl, mem_g (List.mem_of_getElem? (i := 114) (by decide +kernel)) (by decide +kernel), mem_g (List.mem_of_getElem? (i := 115) (by decide +kernel)) (by decide +kernel), ci_X3⟩
theorem nX3_9 : Cond.classLink RX3 9 "[[I" ∈ lw_g := mem_g (List.mem_of_getElem? (i := 120) (by decide +kernel)) (by decide +kernel)
theorem nX6_49 : NW RX6 49 2 7 := ⟨_, rfl, rfl, mem_g (List.mem_of_getElem? (i := 141) (by decide +kernel)) (by decide +kernel), mem_g (List.mem_of_getElem? (i := 142) (by decide +kernel)) (by decide +kernel), ci_X2⟩
theorem nX2_9 : Cond.classLink RX2 9 "[[I" ∈ lw_g := mem_g (List.mem_of_getElem? (i := 147) (by decide +kernel)) (by decide +kernel)
theorem nX2_23 : NW RX2 23 3 5 := ⟨_, rfl, rfl, mem_g (List.mem_of_getElem? (i := 148) (by decide +kernel)) (by decide +kernel), mem_g (List.mem_of_getElem? (i := 115) (by decide +kernel)) (by decide +kernel), ci_X3⟩
theorem nX6_58 : NW RX6 58 4 3 := ⟨_, rfl, rfl, mem_g (List.mem_of_getElem? (i := 172) (by decide +kernel)) (by decide +kernel), mem_g (List.mem_of_getElem? (i := 173) (by decide +kernel)) (by decide +kernel), ci_X4⟩
theorem nX6_68 : NW RX6 68 1 4 := ⟨_, rfl, rfl, mem_g (List.mem_of_getElem? (i := 194) (by decide +kernel)) (by decide +kernel), mem_g (List.mem_of_getElem? (i := 195) (by decide +kernel)) (by decide +kernel), ci_X1⟩
theorem nX6_75 : NW RX6 75 5 5 := ⟨_, rfl, rfl, mem_g (List.mem_of_getElem? (i := 213) (by decide +kernel)) (by decide +kernel), mem_g (List.mem_of_getElem? (i := 214) (by decide +kernel)) (by decide +kernel), ci_X5⟩
theorem nL_18 : NW RL 18 7 24 := ⟨_, rfl, rfl, mem_g (List.mem_of_getElem? (i := 645) (by decide +kernel)) (by decide +kernel), mem_g (List.mem_of_getElem? (i := 646) (by decide +kernel)) (by decide +kernel), ci_X7⟩
theorem nX7_25 : Cond.classLink RX7 25 "[[I" ∈ lw_g := mem_g (List.mem_of_getElem? (i := 651) (by decide +kernel)) (by decide +kernel)
theorem nX7_64 : Cond.classLink RX7 64 "[[J" ∈ lw_g := mem_g (List.mem_of_getElem? (i := 652) (by decide +kernel)) (by decide +kernel)
theorem nX7_72 : Cond.classLink RX7 72 "[[B" ∈ lw_g := mem_g (List.mem_of_getElem? (i := 654) (by decide +kernel)) (by decide +kernel)
theorem lcX7_202 : Cond.constantLong RX7 202 (Int64.ofInt (2)) ∈ lw_g := mem_g (List.mem_of_getElem? (i := 923) (by decide +kernel)) (by decide +kernel)
theorem lcX7_204 : Cond.constantLong RX7 204 (Int64.ofInt (-1)) ∈ lw_g := mem_g (List.mem_of_getElem? (i := 924) (by decide +kernel)) (by decide +kernel)
end
section
/-! shorter rows -/
def fld (hp : HP) (a c j : Nat) (v : AV) : Prop := ∃ fs, hp a = ob c fs ∧ fs j = v
def isob (hp : HP) (a c : Nat) : Prop := ∃ fs, hp a = ob c fs
theorem fld.ob {hp : HP} {a c j : Nat} {v : AV} (h : fld hp a c j v) : isob hp a c := ⟨_, h.choose_spec.1⟩
theorem fld.keep {hp hp' : HP} {a c j : Nat} {v : AV} (h : fld hp a c j v) (e : hp' a = hp a) : fld hp' a c j v := by
  obtain ⟨fs, h1, h2⟩ := h
  exact ⟨fs, e.trans h1, h2⟩
theorem fld.up {hp : HP} {a b c j : Nat} {v : AV} {x : AC} (h : fld hp a c j v) (e : a ≠ b) : fld (up hp b x) a c j v := h.keep (up_n _ _ e)
def Rd (v : Option AV) (hp : HP) (sz : Nat) : Option AV → HP → Nat → Prop := fun r h z => r = v ∧ h = hp ∧ z = sz
def Vd (P : HP → Prop) (sz : Nat) : Option AV → HP → Nat → Prop := fun r h z => r = none ∧ z = sz ∧ P h
def Vs (P : AV → HP → Prop) (sz : Nat) : Option AV → HP → Nat → Prop := fun r h z => ∃ v, r = some v ∧ z = sz ∧ P v h
section XS
variable {G : GL} {d rc rs : Nat} {M : MD} {pc : Nat} {ls st : List AV} {hp : HP} {sz : Nat} {Q : Option AV → HP → Nat → Prop}
theorem x_gf {a c j idx : Nat} {v : AV} (hd : decode M.2.1 pc = .ok (.getfield idx, 3)) (hF : FL M.1.cls idx c j) (h : fld hp a c j v) (ha : a < sz) (k : Ex G d rc rs M (pc + 3) ls (v :: st) hp sz Q) : Ex G d rc rs M pc ls (vr a :: st) hp sz Q := by
  obtain ⟨fs, h1, h2⟩ := h
  subst h2
  exact x_get hd hF h1 ha k
theorem x_gn {a c j idx : Nat} {v : AV} (hd : decode M.2.1 pc = .ok (.getfield idx, 3)) (hF : FN M.1.cls idx c j) (h : fld hp a c j v) (ha : a < sz) (k : Ex G d rc rs M (pc + 3) ls (v :: st) hp sz Q) : Ex G d rc rs M pc ls (vr a :: st) hp sz Q := by
  obtain ⟨fs, h1, h2⟩ := h
  subst h2
  exact x_getN hd hF h1 ha k
/-- what putting v into field j of the object at a makes of the picture -/
def pf (hp : HP) (a c j : Nat) (v : AV) (hp' : HP) : Prop := (∀ b, b ≠ a → hp' b = hp b) ∧ fld hp' a c j v ∧ ∀ i w, i ≠ j → fld hp a c i w → fld hp' a c i w
theorem x_pfi {a c j idx : Nat} {x : Int} (hd : decode M.2.1 pc = .ok (.putfield idx, 3)) (hF : FP M.1.cls idx c j false .int) (h : isob hp a c) (ha : a < sz) (k : ∀ hp', pf hp a c j (vi x) hp' → Ex G d rc rs M (pc + 3) ls st hp' sz Q) : Ex G d rc rs M pc ls (vi x :: vr a :: st) hp sz Q := by
  obtain ⟨fs, h1⟩ := h
  refine x_put hd hF (fit_int x) h1 ha (k _ ⟨fun b hb => up_n _ _ hb, ⟨_, up_s _ _ _, up_s _ _ _⟩, fun i w hi hw => ?_⟩)
  obtain ⟨fs', g1, g2⟩ := hw
  have e : fs' = fs := congrArg Prod.snd (Sum.inl.inj (g1.symm.trans h1))
  subst e
  exact ⟨_, up_s _ _ _, (up_n _ _ hi).trans g2⟩
theorem x_pfo {a c j idx b : Nat} {C : String} (hd : decode M.2.1 pc = .ok (.putfield idx, 3)) (hF : FP M.1.cls idx c j false (.object C)) (h : isob hp a c) (ha : a < sz) (k : ∀ hp', pf hp a c j (vr b) hp' → Ex G d rc rs M (pc + 3) ls st hp' sz Q) : Ex G d rc rs M pc ls (vr b :: vr a :: st) hp sz Q := by
  obtain ⟨fs, h1⟩ := h
  refine x_put hd hF (fit_obj C b) h1 ha (k _ ⟨fun b hb => up_n _ _ hb, ⟨_, up_s _ _ _, up_s _ _ _⟩, fun i w hi hw => ?_⟩)
  obtain ⟨fs', g1, g2⟩ := hw
  have e : fs' = fs := congrArg Prod.snd (Sum.inl.inj (g1.symm.trans h1))
  subst e
  exact ⟨_, up_s _ _ _, (up_n _ _ hi).trans g2⟩
theorem x_pFv {a c j idx : Nat} {v : AV} {ty : FieldType} (hd : decode M.2.1 pc = .ok (.putfield idx, 3)) (hF : FP M.1.cls idx c j true ty) (hin : M.1.name = "<init>") (hv : narrow ty (cv G v) = cv G v ∧ fits ty (cv G v) = true) (h : isob hp a c) (ha : a < sz) (k : ∀ hp', pf hp a c j v hp' → Ex G d rc rs M (pc + 3) ls st hp' sz Q) : Ex G d rc rs M pc ls (v :: vr a :: st) hp sz Q := by
  obtain ⟨fs, h1⟩ := h
  refine x_putF hd hF hin hv h1 ha (k _ ⟨fun b hb => up_n _ _ hb, ⟨_, up_s _ _ _, up_s _ _ _⟩, fun i w hi hw => ?_⟩)
  obtain ⟨fs', g1, g2⟩ := hw
  have e : fs' = fs := congrArg Prod.snd (Sum.inl.inj (g1.symm.trans h1))
  subst e
  exact ⟨_, up_s _ _ _, (up_n _ _ hi).trans g2⟩
theorem x_v0 {idx ci a : Nat} {N : MD} {Q' : Option AV → HP → Nat → Prop} (hd : decode M.2.1 pc = .ok (.invokevirtual idx, 3)) (hN : MW N 0) (hI : MI N ci) (hlk : Cond.methodLink M.1.cls idx N.1 ∈ lw_g) (hlen : 0 + 1 ≤ N.2.2.1) (hcat : (([] : List AV).all fun v => (cv G v).category == 1) = true) (hst : (st.map fun v => (cv G v).category).sum ≤ 8) (hc : isob hp a ci) (ha : a < sz) (ct : Ct G d 0 0 N (vr a :: []) hp sz Q') (k : ∀ (r : Option AV) (hp' : HP) (sz' : Nat), Q' r hp' sz' → Ex G (d + 1) rc rs M (pc + 3) ls (r.toList ++ st) hp' sz' Q) : Ex G (d + 1) rc rs M pc ls (vr a :: st) hp sz Q := by
  obtain ⟨fs, h1⟩ := hc
  have h := x_callV (as := []) (mc := 0) (ms := 0) (rc := rc) (rs := rs) hd hN hI hlk rfl hlen hcat hst (Nat.le_refl (d + 1)) h1 ha ct k
  rw [Nat.zero_add, Nat.zero_add] at h
  exact h
theorem x_w0 {idx ci a : Nat} {N : MD} {v : AV} (hd : decode M.2.1 pc = .ok (.invokevirtual idx, 3)) (hN : MW N 0) (hI : MI N ci) (hlk : Cond.methodLink M.1.cls idx N.1 ∈ lw_g) (hlen : 0 + 1 ≤ N.2.2.1) (hcat : (([] : List AV).all fun v => (cv G v).category == 1) = true) (hst : (st.map fun v => (cv G v).category).sum ≤ 8) (hc : isob hp a ci) (ha : a < sz) (ct : Ct G d 0 0 N (vr a :: []) hp sz (Rd (some v) hp sz)) (k : Ex G (d + 1) rc rs M (pc + 3) ls (v :: st) hp sz Q) : Ex G (d + 1) rc rs M pc ls (vr a :: st) hp sz Q :=
  x_v0 hd hN hI hlk hlen hcat hst hc ha ct (by rintro _ _ _ ⟨rfl, rfl, rfl⟩; exact k)
theorem x_p0 {idx ci a : Nat} {N : MD} {P : HP → Prop} (hd : decode M.2.1 pc = .ok (.invokevirtual idx, 3)) (hN : MW N 0) (hI : MI N ci) (hlk : Cond.methodLink M.1.cls idx N.1 ∈ lw_g) (hlen : 0 + 1 ≤ N.2.2.1) (hcat : (([] : List AV).all fun v => (cv G v).category == 1) = true) (hst : (st.map fun v => (cv G v).category).sum ≤ 8) (hc : isob hp a ci) (ha : a < sz) (ct : Ct G d 0 0 N (vr a :: []) hp sz (Vd P sz)) (k : ∀ h, P h → Ex G (d + 1) rc rs M (pc + 3) ls st h sz Q) : Ex G (d + 1) rc rs M pc ls (vr a :: st) hp sz Q :=
  x_v0 hd hN hI hlk hlen hcat hst hc ha ct (by rintro _ h _ ⟨rfl, rfl, hP⟩; exact k h hP)
theorem x_y0 {idx ci a : Nat} {N : MD} {P : AV → HP → Prop} (hd : decode M.2.1 pc = .ok (.invokevirtual idx, 3)) (hN : MW N 0) (hI : MI N ci) (hlk : Cond.methodLink M.1.cls idx N.1 ∈ lw_g) (hlen : 0 + 1 ≤ N.2.2.1) (hcat : (([] : List AV).all fun v => (cv G v).category == 1) = true) (hst : (st.map fun v => (cv G v).category).sum ≤ 8) (hc : isob hp a ci) (ha : a < sz) (ct : Ct G d 0 0 N (vr a :: []) hp sz (Vs P sz)) (k : ∀ v h, P v h → Ex G (d + 1) rc rs M (pc + 3) ls (v :: st) h sz Q) : Ex G (d + 1) rc rs M pc ls (vr a :: st) hp sz Q :=
  x_v0 hd hN hI hlk hlen hcat hst hc ha ct (by rintro _ h _ ⟨v, rfl, rfl, hP⟩; exact k v h hP)
theorem x_v1 {idx ci a : Nat} {N : MD} {v1 : AV} {Q' : Option AV → HP → Nat → Prop} (hd : decode M.2.1 pc = .ok (.invokevirtual idx, 3)) (hN : MW N 1) (hI : MI N ci) (hlk : Cond.methodLink M.1.cls idx N.1 ∈ lw_g) (hlen : 1 + 1 ≤ N.2.2.1) (hcat : (([v1] : List AV).all fun v => (cv G v).category == 1) = true) (hst : (st.map fun v => (cv G v).category).sum ≤ 8) (hc : isob hp a ci) (ha : a < sz) (ct : Ct G d 0 0 N (vr a :: [v1]) hp sz Q') (k : ∀ (r : Option AV) (hp' : HP) (sz' : Nat), Q' r hp' sz' → Ex G (d + 1) rc rs M (pc + 3) ls (r.toList ++ st) hp' sz' Q) : Ex G (d + 1) rc rs M pc ls (v1 :: vr a :: st) hp sz Q := by
  obtain ⟨fs, h1⟩ := hc
  have h := x_callV (as := [v1]) (mc := 0) (ms := 0) (rc := rc) (rs := rs) hd hN hI hlk rfl hlen hcat hst (Nat.le_refl (d + 1)) h1 ha ct k
  rw [Nat.zero_add, Nat.zero_add] at h
  exact h
theorem x_w1 {idx ci a : Nat} {N : MD} {v1 : AV} {v : AV} (hd : decode M.2.1 pc = .ok (.invokevirtual idx, 3)) (hN : MW N 1) (hI : MI N ci) (hlk : Cond.methodLink M.1.cls idx N.1 ∈ lw_g) (hlen : 1 + 1 ≤ N.2.2.1) (hcat : (([v1] : List AV).all fun v => (cv G v).category == 1) = true) (hst : (st.map fun v => (cv G v).category).sum ≤ 8) (hc : isob hp a ci) (ha : a < sz) (ct : Ct G d 0 0 N (vr a :: [v1]) hp sz (Rd (some v) hp sz)) (k : Ex G (d + 1) rc rs M (pc + 3) ls (v :: st) hp sz Q) : Ex G (d + 1) rc rs M pc ls (v1 :: vr a :: st) hp sz Q :=
  x_v1 hd hN hI hlk hlen hcat hst hc ha ct (by rintro _ _ _ ⟨rfl, rfl, rfl⟩; exact k)
theorem x_s1 {idx : Nat} {N : MD} {v1 : AV} {Q' : Option AV → HP → Nat → Prop} (hd : decode M.2.1 pc = .ok (.invokestatic idx, 3)) (hN : MW N 1) (hI : Cond.static N.1 ∈ lw_g) (hlk : Cond.methodLink M.1.cls idx N.1 ∈ lw_g) (hlen : 1 ≤ N.2.2.1) (hcat : (([v1] : List AV).all fun v => (cv G v).category == 1) = true) (hst : (st.map fun v => (cv G v).category).sum ≤ 8) (ct : Ct G d 0 0 N [v1] hp sz Q') (k : ∀ (r : Option AV) (hp' : HP) (sz' : Nat), Q' r hp' sz' → Ex G (d + 1) rc rs M (pc + 3) ls (r.toList ++ st) hp' sz' Q) : Ex G (d + 1) rc rs M pc ls (v1 :: st) hp sz Q := by
  have h := x_callS (as := [v1]) (mc := 0) (ms := 0) (rc := rc) (rs := rs) hd hN hI hlk rfl hlen hcat hst (Nat.le_refl (d + 1)) ct k
  rw [Nat.zero_add, Nat.zero_add] at h
  exact h
theorem x_t1 {idx : Nat} {N : MD} {v1 : AV} {v : AV} (hd : decode M.2.1 pc = .ok (.invokestatic idx, 3)) (hN : MW N 1) (hI : Cond.static N.1 ∈ lw_g) (hlk : Cond.methodLink M.1.cls idx N.1 ∈ lw_g) (hlen : 1 ≤ N.2.2.1) (hcat : (([v1] : List AV).all fun v => (cv G v).category == 1) = true) (hst : (st.map fun v => (cv G v).category).sum ≤ 8) (ct : Ct G d 0 0 N [v1] hp sz (Rd (some v) hp sz)) (k : Ex G (d + 1) rc rs M (pc + 3) ls (v :: st) hp sz Q) : Ex G (d + 1) rc rs M pc ls (v1 :: st) hp sz Q :=
  x_s1 hd hN hI hlk hlen hcat hst ct (by rintro _ _ _ ⟨rfl, rfl, rfl⟩; exact k)
theorem x_p1 {idx ci a : Nat} {N : MD} {v1 : AV} {P : HP → Prop} (hd : decode M.2.1 pc = .ok (.invokevirtual idx, 3)) (hN : MW N 1) (hI : MI N ci) (hlk : Cond.methodLink M.1.cls idx N.1 ∈ lw_g) (hlen : 1 + 1 ≤ N.2.2.1) (hcat : (([v1] : List AV).all fun v => (cv G v).category == 1) = true) (hst : (st.map fun v => (cv G v).category).sum ≤ 8) (hc : isob hp a ci) (ha : a < sz) (ct : Ct G d 0 0 N (vr a :: [v1]) hp sz (Vd P sz)) (k : ∀ h, P h → Ex G (d + 1) rc rs M (pc + 3) ls st h sz Q) : Ex G (d + 1) rc rs M pc ls (v1 :: vr a :: st) hp sz Q :=
  x_v1 hd hN hI hlk hlen hcat hst hc ha ct (by rintro _ h _ ⟨rfl, rfl, hP⟩; exact k h hP)
theorem x_q1 {idx : Nat} {N : MD} {v1 : AV} {P : HP → Prop} (hd : decode M.2.1 pc = .ok (.invokestatic idx, 3)) (hN : MW N 1) (hI : Cond.static N.1 ∈ lw_g) (hlk : Cond.methodLink M.1.cls idx N.1 ∈ lw_g) (hlen : 1 ≤ N.2.2.1) (hcat : (([v1] : List AV).all fun v => (cv G v).category == 1) = true) (hst : (st.map fun v => (cv G v).category).sum ≤ 8) (ct : Ct G d 0 0 N [v1] hp sz (Vd P sz)) (k : ∀ h, P h → Ex G (d + 1) rc rs M (pc + 3) ls st h sz Q) : Ex G (d + 1) rc rs M pc ls (v1 :: st) hp sz Q :=
  x_s1 hd hN hI hlk hlen hcat hst ct (by rintro _ h _ ⟨rfl, rfl, hP⟩; exact k h hP)
theorem x_y1 {idx ci a : Nat} {N : MD} {v1 : AV} {P : AV → HP → Prop} (hd : decode M.2.1 pc = .ok (.invokevirtual idx, 3)) (hN : MW N 1) (hI : MI N ci) (hlk : Cond.methodLink M.1.cls idx N.1 ∈ lw_g) (hlen : 1 + 1 ≤ N.2.2.1) (hcat : (([v1] : List AV).all fun v => (cv G v).category == 1) = true) (hst : (st.map fun v => (cv G v).category).sum ≤ 8) (hc : isob hp a ci) (ha : a < sz) (ct : Ct G d 0 0 N (vr a :: [v1]) hp sz (Vs P sz)) (k : ∀ v h, P v h → Ex G (d + 1) rc rs M (pc + 3) ls (v :: st) h sz Q) : Ex G (d + 1) rc rs M pc ls (v1 :: vr a :: st) hp sz Q :=
  x_v1 hd hN hI hlk hlen hcat hst hc ha ct (by rintro _ h _ ⟨v, rfl, rfl, hP⟩; exact k v h hP)
theorem x_z1 {idx : Nat} {N : MD} {v1 : AV} {P : AV → HP → Prop} (hd : decode M.2.1 pc = .ok (.invokestatic idx, 3)) (hN : MW N 1) (hI : Cond.static N.1 ∈ lw_g) (hlk : Cond.methodLink M.1.cls idx N.1 ∈ lw_g) (hlen : 1 ≤ N.2.2.1) (hcat : (([v1] : List AV).all fun v => (cv G v).category == 1) = true) (hst : (st.map fun v => (cv G v).category).sum ≤ 8) (ct : Ct G d 0 0 N [v1] hp sz (Vs P sz)) (k : ∀ v h, P v h → Ex G (d + 1) rc rs M (pc + 3) ls (v :: st) h sz Q) : Ex G (d + 1) rc rs M pc ls (v1 :: st) hp sz Q :=
  x_s1 hd hN hI hlk hlen hcat hst ct (by rintro _ h _ ⟨v, rfl, rfl, hP⟩; exact k v h hP)
theorem x_v2 {idx ci a : Nat} {N : MD} {v1 v2 : AV} {Q' : Option AV → HP → Nat → Prop} (hd : decode M.2.1 pc = .ok (.invokevirtual idx, 3)) (hN : MW N 2) (hI : MI N ci) (hlk : Cond.methodLink M.1.cls idx N.1 ∈ lw_g) (hlen : 2 + 1 ≤ N.2.2.1) (hcat : (([v1, v2] : List AV).all fun v => (cv G v).category == 1) = true) (hst : (st.map fun v => (cv G v).category).sum ≤ 8) (hc : isob hp a ci) (ha : a < sz) (ct : Ct G d 0 0 N (vr a :: [v1, v2]) hp sz Q') (k : ∀ (r : Option AV) (hp' : HP) (sz' : Nat), Q' r hp' sz' → Ex G (d + 1) rc rs M (pc + 3) ls (r.toList ++ st) hp' sz' Q) : Ex G (d + 1) rc rs M pc ls (v2 :: v1 :: vr a :: st) hp sz Q := by
  obtain ⟨fs, h1⟩ := hc
  have h := x_callV (as := [v1, v2]) (mc := 0) (ms := 0) (rc := rc) (rs := rs) hd hN hI hlk rfl hlen hcat hst (Nat.le_refl (d + 1)) h1 ha ct k
  rw [Nat.zero_add, Nat.zero_add] at h
  exact h
theorem x_w2 {idx ci a : Nat} {N : MD} {v1 v2 : AV} {v : AV} (hd : decode M.2.1 pc = .ok (.invokevirtual idx, 3)) (hN : MW N 2) (hI : MI N ci) (hlk : Cond.methodLink M.1.cls idx N.1 ∈ lw_g) (hlen : 2 + 1 ≤ N.2.2.1) (hcat : (([v1, v2] : List AV).all fun v => (cv G v).category == 1) = true) (hst : (st.map fun v => (cv G v).category).sum ≤ 8) (hc : isob hp a ci) (ha : a < sz) (ct : Ct G d 0 0 N (vr a :: [v1, v2]) hp sz (Rd (some v) hp sz)) (k : Ex G (d + 1) rc rs M (pc + 3) ls (v :: st) hp sz Q) : Ex G (d + 1) rc rs M pc ls (v2 :: v1 :: vr a :: st) hp sz Q :=
  x_v2 hd hN hI hlk hlen hcat hst hc ha ct (by rintro _ _ _ ⟨rfl, rfl, rfl⟩; exact k)
theorem x_s2 {idx : Nat} {N : MD} {v1 v2 : AV} {Q' : Option AV → HP → Nat → Prop} (hd : decode M.2.1 pc = .ok (.invokestatic idx, 3)) (hN : MW N 2) (hI : Cond.static N.1 ∈ lw_g) (hlk : Cond.methodLink M.1.cls idx N.1 ∈ lw_g) (hlen : 2 ≤ N.2.2.1) (hcat : (([v1, v2] : List AV).all fun v => (cv G v).category == 1) = true) (hst : (st.map fun v => (cv G v).category).sum ≤ 8) (ct : Ct G d 0 0 N [v1, v2] hp sz Q') (k : ∀ (r : Option AV) (hp' : HP) (sz' : Nat), Q' r hp' sz' → Ex G (d + 1) rc rs M (pc + 3) ls (r.toList ++ st) hp' sz' Q) : Ex G (d + 1) rc rs M pc ls (v2 :: v1 :: st) hp sz Q := by
  have h := x_callS (as := [v1, v2]) (mc := 0) (ms := 0) (rc := rc) (rs := rs) hd hN hI hlk rfl hlen hcat hst (Nat.le_refl (d + 1)) ct k
  rw [Nat.zero_add, Nat.zero_add] at h
  exact h
theorem x_t2 {idx : Nat} {N : MD} {v1 v2 : AV} {v : AV} (hd : decode M.2.1 pc = .ok (.invokestatic idx, 3)) (hN : MW N 2) (hI : Cond.static N.1 ∈ lw_g) (hlk : Cond.methodLink M.1.cls idx N.1 ∈ lw_g) (hlen : 2 ≤ N.2.2.1) (hcat : (([v1, v2] : List AV).all fun v => (cv G v).category == 1) = true) (hst : (st.map fun v => (cv G v).category).sum ≤ 8) (ct : Ct G d 0 0 N [v1, v2] hp sz (Rd (some v) hp sz)) (k : Ex G (d + 1) rc rs M (pc + 3) ls (v :: st) hp sz Q) : Ex G (d + 1) rc rs M pc ls (v2 :: v1 :: st) hp sz Q :=
  x_s2 hd hN hI hlk hlen hcat hst ct (by rintro _ _ _ ⟨rfl, rfl, rfl⟩; exact k)
theorem x_p2 {idx ci a : Nat} {N : MD} {v1 v2 : AV} {P : HP → Prop} (hd : decode M.2.1 pc = .ok (.invokevirtual idx, 3)) (hN : MW N 2) (hI : MI N ci) (hlk : Cond.methodLink M.1.cls idx N.1 ∈ lw_g) (hlen : 2 + 1 ≤ N.2.2.1) (hcat : (([v1, v2] : List AV).all fun v => (cv G v).category == 1) = true) (hst : (st.map fun v => (cv G v).category).sum ≤ 8) (hc : isob hp a ci) (ha : a < sz) (ct : Ct G d 0 0 N (vr a :: [v1, v2]) hp sz (Vd P sz)) (k : ∀ h, P h → Ex G (d + 1) rc rs M (pc + 3) ls st h sz Q) : Ex G (d + 1) rc rs M pc ls (v2 :: v1 :: vr a :: st) hp sz Q :=
  x_v2 hd hN hI hlk hlen hcat hst hc ha ct (by rintro _ h _ ⟨rfl, rfl, hP⟩; exact k h hP)
theorem x_q2 {idx : Nat} {N : MD} {v1 v2 : AV} {P : HP → Prop} (hd : decode M.2.1 pc = .ok (.invokestatic idx, 3)) (hN : MW N 2) (hI : Cond.static N.1 ∈ lw_g) (hlk : Cond.methodLink M.1.cls idx N.1 ∈ lw_g) (hlen : 2 ≤ N.2.2.1) (hcat : (([v1, v2] : List AV).all fun v => (cv G v).category == 1) = true) (hst : (st.map fun v => (cv G v).category).sum ≤ 8) (ct : Ct G d 0 0 N [v1, v2] hp sz (Vd P sz)) (k : ∀ h, P h → Ex G (d + 1) rc rs M (pc + 3) ls st h sz Q) : Ex G (d + 1) rc rs M pc ls (v2 :: v1 :: st) hp sz Q :=
  x_s2 hd hN hI hlk hlen hcat hst ct (by rintro _ h _ ⟨rfl, rfl, hP⟩; exact k h hP)
theorem x_y2 {idx ci a : Nat} {N : MD} {v1 v2 : AV} {P : AV → HP → Prop} (hd : decode M.2.1 pc = .ok (.invokevirtual idx, 3)) (hN : MW N 2) (hI : MI N ci) (hlk : Cond.methodLink M.1.cls idx N.1 ∈ lw_g) (hlen : 2 + 1 ≤ N.2.2.1) (hcat : (([v1, v2] : List AV).all fun v => (cv G v).category == 1) = true) (hst : (st.map fun v => (cv G v).category).sum ≤ 8) (hc : isob hp a ci) (ha : a < sz) (ct : Ct G d 0 0 N (vr a :: [v1, v2]) hp sz (Vs P sz)) (k : ∀ v h, P v h → Ex G (d + 1) rc rs M (pc + 3) ls (v :: st) h sz Q) : Ex G (d + 1) rc rs M pc ls (v2 :: v1 :: vr a :: st) hp sz Q :=
  x_v2 hd hN hI hlk hlen hcat hst hc ha ct (by rintro _ h _ ⟨v, rfl, rfl, hP⟩; exact k v h hP)
theorem x_z2 {idx : Nat} {N : MD} {v1 v2 : AV} {P : AV → HP → Prop} (hd : decode M.2.1 pc = .ok (.invokestatic idx, 3)) (hN : MW N 2) (hI : Cond.static N.1 ∈ lw_g) (hlk : Cond.methodLink M.1.cls idx N.1 ∈ lw_g) (hlen : 2 ≤ N.2.2.1) (hcat : (([v1, v2] : List AV).all fun v => (cv G v).category == 1) = true) (hst : (st.map fun v => (cv G v).category).sum ≤ 8) (ct : Ct G d 0 0 N [v1, v2] hp sz (Vs P sz)) (k : ∀ v h, P v h → Ex G (d + 1) rc rs M (pc + 3) ls (v :: st) h sz Q) : Ex G (d + 1) rc rs M pc ls (v2 :: v1 :: st) hp sz Q :=
  x_s2 hd hN hI hlk hlen hcat hst ct (by rintro _ h _ ⟨v, rfl, rfl, hP⟩; exact k v h hP)
theorem x_v3 {idx ci a : Nat} {N : MD} {v1 v2 v3 : AV} {Q' : Option AV → HP → Nat → Prop} (hd : decode M.2.1 pc = .ok (.invokevirtual idx, 3)) (hN : MW N 3) (hI : MI N ci) (hlk : Cond.methodLink M.1.cls idx N.1 ∈ lw_g) (hlen : 3 + 1 ≤ N.2.2.1) (hcat : (([v1, v2, v3] : List AV).all fun v => (cv G v).category == 1) = true) (hst : (st.map fun v => (cv G v).category).sum ≤ 8) (hc : isob hp a ci) (ha : a < sz) (ct : Ct G d 0 0 N (vr a :: [v1, v2, v3]) hp sz Q') (k : ∀ (r : Option AV) (hp' : HP) (sz' : Nat), Q' r hp' sz' → Ex G (d + 1) rc rs M (pc + 3) ls (r.toList ++ st) hp' sz' Q) : Ex G (d + 1) rc rs M pc ls (v3 :: v2 :: v1 :: vr a :: st) hp sz Q := by
  obtain ⟨fs, h1⟩ := hc
  have h := x_callV (as := [v1, v2, v3]) (mc := 0) (ms := 0) (rc := rc) (rs := rs) hd hN hI hlk rfl hlen hcat hst (Nat.le_refl (d + 1)) h1 ha ct k
  rw [Nat.zero_add, Nat.zero_add] at h
  exact h
theorem x_w3 {idx ci a : Nat} {N : MD} {v1 v2 v3 : AV} {v : AV} (hd : decode M.2.1 pc = .ok (.invokevirtual idx, 3)) (hN : MW N 3) (hI : MI N ci) (hlk : Cond.methodLink M.1.cls idx N.1 ∈ lw_g) (hlen : 3 + 1 ≤ N.2.2.1) (hcat : (([v1, v2, v3] : List AV).all fun v => (cv G v).category == 1) = true) (hst : (st.map fun v => (cv G v).category).sum ≤ 8) (hc : isob hp a ci) (ha : a < sz) (ct : Ct G d 0 0 N (vr a :: [v1, v2, v3]) hp sz (Rd (some v) hp sz)) (k : Ex G (d + 1) rc rs M (pc + 3) ls (v :: st) hp sz Q) : Ex G (d + 1) rc rs M pc ls (v3 :: v2 :: v1 :: vr a :: st) hp sz Q :=
  x_v3 hd hN hI hlk hlen hcat hst hc ha ct (by rintro _ _ _ ⟨rfl, rfl, rfl⟩; exact k)
theorem x_s3 {idx : Nat} {N : MD} {v1 v2 v3 : AV} {Q' : Option AV → HP → Nat → Prop} (hd : decode M.2.1 pc = .ok (.invokestatic idx, 3)) (hN : MW N 3) (hI : Cond.static N.1 ∈ lw_g) (hlk : Cond.methodLink M.1.cls idx N.1 ∈ lw_g) (hlen : 3 ≤ N.2.2.1) (hcat : (([v1, v2, v3] : List AV).all fun v => (cv G v).category == 1) = true) (hst : (st.map fun v => (cv G v).category).sum ≤ 8) (ct : Ct G d 0 0 N [v1, v2, v3] hp sz Q') (k : ∀ (r : Option AV) (hp' : HP) (sz' : Nat), Q' r hp' sz' → Ex G (d + 1) rc rs M (pc + 3) ls (r.toList ++ st) hp' sz' Q) : Ex G (d + 1) rc rs M pc ls (v3 :: v2 :: v1 :: st) hp sz Q := by
  have h := x_callS (as := [v1, v2, v3]) (mc := 0) (ms := 0) (rc := rc) (rs := rs) hd hN hI hlk rfl hlen hcat hst (Nat.le_refl (d + 1)) ct k
  rw [Nat.zero_add, Nat.zero_add] at h
  exact h
theorem x_t3 {idx : Nat} {N : MD} {v1 v2 v3 : AV} {v : AV} (hd : decode M.2.1 pc = .ok (.invokestatic idx, 3)) (hN : MW N 3) (hI : Cond.static N.1 ∈ lw_g) (hlk : Cond.methodLink M.1.cls idx N.1 ∈ lw_g) (hlen : 3 ≤ N.2.2.1) (hcat : (([v1, v2, v3] : List AV).all fun v => (cv G v).category == 1) = true) (hst : (st.map fun v => (cv G v).category).sum ≤ 8) (ct : Ct G d 0 0 N [v1, v2, v3] hp sz (Rd (some v) hp sz)) (k : Ex G (d + 1) rc rs M (pc + 3) ls (v :: st) hp sz Q) : Ex G (d + 1) rc rs M pc ls (v3 :: v2 :: v1 :: st) hp sz Q :=
  x_s3 hd hN hI hlk hlen hcat hst ct (by rintro _ _ _ ⟨rfl, rfl, rfl⟩; exact k)
theorem x_p3 {idx ci a : Nat} {N : MD} {v1 v2 v3 : AV} {P : HP → Prop} (hd : decode M.2.1 pc = .ok (.invokevirtual idx, 3)) (hN : MW N 3) (hI : MI N ci) (hlk : Cond.methodLink M.1.cls idx N.1 ∈ lw_g) (hlen : 3 + 1 ≤ N.2.2.1) (hcat : (([v1, v2, v3] : List AV).all fun v => (cv G v).category == 1) = true) (hst : (st.map fun v => (cv G v).category).sum ≤ 8) (hc : isob hp a ci) (ha : a < sz) (ct : Ct G d 0 0 N (vr a :: [v1, v2, v3]) hp sz (Vd P sz)) (k : ∀ h, P h → Ex G (d + 1) rc rs M (pc + 3) ls st h sz Q) : Ex G (d + 1) rc rs M pc ls (v3 :: v2 :: v1 :: vr a :: st) hp sz Q :=
  x_v3 hd hN hI hlk hlen hcat hst hc ha ct (by rintro _ h _ ⟨rfl, rfl, hP⟩; exact k h hP)
theorem x_q3 {idx : Nat} {N : MD} {v1 v2 v3 : AV} {P : HP → Prop} (hd : decode M.2.1 pc = .ok (.invokestatic idx, 3)) (hN : MW N 3) (hI : Cond.static N.1 ∈ lw_g) (hlk : Cond.methodLink M.1.cls idx N.1 ∈ lw_g) (hlen : 3 ≤ N.2.2.1) (hcat : (([v1, v2, v3] : List AV).all fun v => (cv G v).category == 1) = true) (hst : (st.map fun v => (cv G v).category).sum ≤ 8) (ct : Ct G d 0 0 N [v1, v2, v3] hp sz (Vd P sz)) (k : ∀ h, P h → Ex G (d + 1) rc rs M (pc + 3) ls st h sz Q) : Ex G (d + 1) rc rs M pc ls (v3 :: v2 :: v1 :: st) hp sz Q :=
  x_s3 hd hN hI hlk hlen hcat hst ct (by rintro _ h _ ⟨rfl, rfl, hP⟩; exact k h hP)
theorem x_y3 {idx ci a : Nat} {N : MD} {v1 v2 v3 : AV} {P : AV → HP → Prop} (hd : decode M.2.1 pc = .ok (.invokevirtual idx, 3)) (hN : MW N 3) (hI : MI N ci) (hlk : Cond.methodLink M.1.cls idx N.1 ∈ lw_g) (hlen : 3 + 1 ≤ N.2.2.1) (hcat : (([v1, v2, v3] : List AV).all fun v => (cv G v).category == 1) = true) (hst : (st.map fun v => (cv G v).category).sum ≤ 8) (hc : isob hp a ci) (ha : a < sz) (ct : Ct G d 0 0 N (vr a :: [v1, v2, v3]) hp sz (Vs P sz)) (k : ∀ v h, P v h → Ex G (d + 1) rc rs M (pc + 3) ls (v :: st) h sz Q) : Ex G (d + 1) rc rs M pc ls (v3 :: v2 :: v1 :: vr a :: st) hp sz Q :=
  x_v3 hd hN hI hlk hlen hcat hst hc ha ct (by rintro _ h _ ⟨v, rfl, rfl, hP⟩; exact k v h hP)
theorem x_z3 {idx : Nat} {N : MD} {v1 v2 v3 : AV} {P : AV → HP → Prop} (hd : decode M.2.1 pc = .ok (.invokestatic idx, 3)) (hN : MW N 3) (hI : Cond.static N.1 ∈ lw_g) (hlk : Cond.methodLink M.1.cls idx N.1 ∈ lw_g) (hlen : 3 ≤ N.2.2.1) (hcat : (([v1, v2, v3] : List AV).all fun v => (cv G v).category == 1) = true) (hst : (st.map fun v => (cv G v).category).sum ≤ 8) (ct : Ct G d 0 0 N [v1, v2, v3] hp sz (Vs P sz)) (k : ∀ v h, P v h → Ex G (d + 1) rc rs M (pc + 3) ls (v :: st) h sz Q) : Ex G (d + 1) rc rs M pc ls (v3 :: v2 :: v1 :: st) hp sz Q :=
  x_s3 hd hN hI hlk hlen hcat hst ct (by rintro _ h _ ⟨v, rfl, rfl, hP⟩; exact k v h hP)
theorem x_v4 {idx ci a : Nat} {N : MD} {v1 v2 v3 v4 : AV} {Q' : Option AV → HP → Nat → Prop} (hd : decode M.2.1 pc = .ok (.invokevirtual idx, 3)) (hN : MW N 4) (hI : MI N ci) (hlk : Cond.methodLink M.1.cls idx N.1 ∈ lw_g) (hlen : 4 + 1 ≤ N.2.2.1) (hcat : (([v1, v2, v3, v4] : List AV).all fun v => (cv G v).category == 1) = true) (hst : (st.map fun v => (cv G v).category).sum ≤ 8) (hc : isob hp a ci) (ha : a < sz) (ct : Ct G d 0 0 N (vr a :: [v1, v2, v3, v4]) hp sz Q') (k : ∀ (r : Option AV) (hp' : HP) (sz' : Nat), Q' r hp' sz' → Ex G (d + 1) rc rs M (pc + 3) ls (r.toList ++ st) hp' sz' Q) : Ex G (d + 1) rc rs M pc ls (v4 :: v3 :: v2 :: v1 :: vr a :: st) hp sz Q := by
  obtain ⟨fs, h1⟩ := hc
  have h := x_callV (as := [v1, v2, v3, v4]) (mc := 0) (ms := 0) (rc := rc) (rs := rs) hd hN hI hlk rfl hlen hcat hst (Nat.le_refl (d + 1)) h1 ha ct k
  rw [Nat.zero_add, Nat.zero_add] at h
  exact h
theorem x_w4 {idx ci a : Nat} {N : MD} {v1 v2 v3 v4 : AV} {v : AV} (hd : decode M.2.1 pc = .ok (.invokevirtual idx, 3)) (hN : MW N 4) (hI : MI N ci) (hlk : Cond.methodLink M.1.cls idx N.1 ∈ lw_g) (hlen : 4 + 1 ≤ N.2.2.1) (hcat : (([v1, v2, v3, v4] : List AV).all fun v => (cv G v).category == 1) = true) (hst : (st.map fun v => (cv G v).category).sum ≤ 8) (hc : isob hp a ci) (ha : a < sz) (ct : Ct G d 0 0 N (vr a :: [v1, v2, v3, v4]) hp sz (Rd (some v) hp sz)) (k : Ex G (d + 1) rc rs M (pc + 3) ls (v :: st) hp sz Q) : Ex G (d + 1) rc rs M pc ls (v4 :: v3 :: v2 :: v1 :: vr a :: st) hp sz Q :=
  x_v4 hd hN hI hlk hlen hcat hst hc ha ct (by rintro _ _ _ ⟨rfl, rfl, rfl⟩; exact k)
theorem x_s4 {idx : Nat} {N : MD} {v1 v2 v3 v4 : AV} {Q' : Option AV → HP → Nat → Prop} (hd : decode M.2.1 pc = .ok (.invokestatic idx, 3)) (hN : MW N 4) (hI : Cond.static N.1 ∈ lw_g) (hlk : Cond.methodLink M.1.cls idx N.1 ∈ lw_g) (hlen : 4 ≤ N.2.2.1) (hcat : (([v1, v2, v3, v4] : List AV).all fun v => (cv G v).category == 1) = true) (hst : (st.map fun v => (cv G v).category).sum ≤ 8) (ct : Ct G d 0 0 N [v1, v2, v3, v4] hp sz Q') (k : ∀ (r : Option AV) (hp' : HP) (sz' : Nat), Q' r hp' sz' → Ex G (d + 1) rc rs M (pc + 3) ls (r.toList ++ st) hp' sz' Q) : Ex G (d + 1) rc rs M pc ls (v4 :: v3 :: v2 :: v1 :: st) hp sz Q := by
  have h := x_callS (as := [v1, v2, v3, v4]) (mc := 0) (ms := 0) (rc := rc) (rs := rs) hd hN hI hlk rfl hlen hcat hst (Nat.le_refl (d + 1)) ct k
  rw [Nat.zero_add, Nat.zero_add] at h
  exact h
theorem x_t4 {idx : Nat} {N : MD} {v1 v2 v3 v4 : AV} {v : AV} (hd : decode M.2.1 pc = .ok (.invokestatic idx, 3)) (hN : MW N 4) (hI : Cond.static N.1 ∈ lw_g) (hlk : Cond.methodLink M.1.cls idx N.1 ∈ lw_g) (hlen : 4 ≤ N.2.2.1) (hcat : (([v1, v2, v3, v4] : List AV).all fun v => (cv G v).category == 1) = true) (hst : (st.map fun v => (cv G v).category).sum ≤ 8) (ct : Ct G d 0 0 N [v1, v2, v3, v4] hp sz (Rd (some v) hp sz)) (k : Ex G (d + 1) rc rs M (pc + 3) ls (v :: st) hp sz Q) : Ex G (d + 1) rc rs M pc ls (v4 :: v3 :: v2 :: v1 :: st) hp sz Q :=
  x_s4 hd hN hI hlk hlen hcat hst ct (by rintro _ _ _ ⟨rfl, rfl, rfl⟩; exact k)
theorem x_p4 {idx ci a : Nat} {N : MD} {v1 v2 v3 v4 : AV} {P : HP → Prop} (hd : decode M.2.1 pc = .ok (.invokevirtual idx, 3)) (hN : MW N 4) (hI : MI N ci) (hlk : Cond.methodLink M.1.cls idx N.1 ∈ lw_g) (hlen : 4 + 1 ≤ N.2.2.1) (hcat : (([v1, v2, v3, v4] : List AV).all fun v => (cv G v).category == 1) = true) (hst : (st.map fun v => (cv G v).category).sum ≤ 8) (hc : isob hp a ci) (ha : a < sz) (ct : Ct G d 0 0 N (vr a :: [v1, v2, v3, v4]) hp sz (Vd P sz)) (k : ∀ h, P h → Ex G (d + 1) rc rs M (pc + 3) ls st h sz Q) : Ex G (d + 1) rc rs M pc ls (v4 :: v3 :: v2 :: v1 :: vr a :: st) hp sz Q :=
  x_v4 hd hN hI hlk hlen hcat hst hc ha ct (by rintro _ h _ ⟨rfl, rfl, hP⟩; exact k h hP)
theorem x_q4 {idx : Nat} {N : MD} {v1 v2 v3 v4 : AV} {P : HP → Prop} (hd : decode M.2.1 pc = .ok (.invokestatic idx, 3)) (hN : MW N 4) (hI : Cond.static N.1 ∈ lw_g) (hlk : Cond.methodLink M.1.cls idx N.1 ∈ lw_g) (hlen : 4 ≤ N.2.2.1) (hcat : (([v1, v2, v3, v4] : List AV).all fun v => (cv G v).category == 1) = true) (hst : (st.map fun v => (cv G v).category).sum ≤ 8) (ct : Ct G d 0 0 N [v1, v2, v3, v4] hp sz (Vd P sz)) (k : ∀ h, P h → Ex G (d + 1) rc rs M (pc + 3) ls st h sz Q) : Ex G (d + 1) rc rs M pc ls (v4 :: v3 :: v2 :: v1 :: st) hp sz Q :=
  x_s4 hd hN hI hlk hlen hcat hst ct (by rintro _ h _ ⟨rfl, rfl, hP⟩; exact k h hP)
theorem x_y4 {idx ci a : Nat} {N : MD} {v1 v2 v3 v4 : AV} {P : AV → HP → Prop} (hd : decode M.2.1 pc = .ok (.invokevirtual idx, 3)) (hN : MW N 4) (hI : MI N ci) (hlk : Cond.methodLink M.1.cls idx N.1 ∈ lw_g) (hlen : 4 + 1 ≤ N.2.2.1) (hcat : (([v1, v2, v3, v4] : List AV).all fun v => (cv G v).category == 1) = true) (hst : (st.map fun v => (cv G v).category).sum ≤ 8) (hc : isob hp a ci) (ha : a < sz) (ct : Ct G d 0 0 N (vr a :: [v1, v2, v3, v4]) hp sz (Vs P sz)) (k : ∀ v h, P v h → Ex G (d + 1) rc rs M (pc + 3) ls (v :: st) h sz Q) : Ex G (d + 1) rc rs M pc ls (v4 :: v3 :: v2 :: v1 :: vr a :: st) hp sz Q :=
  x_v4 hd hN hI hlk hlen hcat hst hc ha ct (by rintro _ h _ ⟨v, rfl, rfl, hP⟩; exact k v h hP)
theorem x_z4 {idx : Nat} {N : MD} {v1 v2 v3 v4 : AV} {P : AV → HP → Prop} (hd : decode M.2.1 pc = .ok (.invokestatic idx, 3)) (hN : MW N 4) (hI : Cond.static N.1 ∈ lw_g) (hlk : Cond.methodLink M.1.cls idx N.1 ∈ lw_g) (hlen : 4 ≤ N.2.2.1) (hcat : (([v1, v2, v3, v4] : List AV).all fun v => (cv G v).category == 1) = true) (hst : (st.map fun v => (cv G v).category).sum ≤ 8) (ct : Ct G d 0 0 N [v1, v2, v3, v4] hp sz (Vs P sz)) (k : ∀ v h, P v h → Ex G (d + 1) rc rs M (pc + 3) ls (v :: st) h sz Q) : Ex G (d + 1) rc rs M pc ls (v4 :: v3 :: v2 :: v1 :: st) hp sz Q :=
  x_s4 hd hN hI hlk hlen hcat hst ct (by rintro _ h _ ⟨v, rfl, rfl, hP⟩; exact k v h hP)
theorem x_v5 {idx ci a : Nat} {N : MD} {v1 v2 v3 v4 v5 : AV} {Q' : Option AV → HP → Nat → Prop} (hd : decode M.2.1 pc = .ok (.invokevirtual idx, 3)) (hN : MW N 5) (hI : MI N ci) (hlk : Cond.methodLink M.1.cls idx N.1 ∈ lw_g) (hlen : 5 + 1 ≤ N.2.2.1) (hcat : (([v1, v2, v3, v4, v5] : List AV).all fun v => (cv G v).category == 1) = true) (hst : (st.map fun v => (cv G v).category).sum ≤ 8) (hc : isob hp a ci) (ha : a < sz) (ct : Ct G d 0 0 N (vr a :: [v1, v2, v3, v4, v5]) hp sz Q') (k : ∀ (r : Option AV) (hp' : HP) (sz' : Nat), Q' r hp' sz' → Ex G (d + 1) rc rs M (pc + 3) ls (r.toList ++ st) hp' sz' Q) : Ex G (d + 1) rc rs M pc ls (v5 :: v4 :: v3 :: v2 :: v1 :: vr a :: st) hp sz Q := by
  obtain ⟨fs, h1⟩ := hc
  have h := x_callV (as := [v1, v2, v3, v4, v5]) (mc := 0) (ms := 0) (rc := rc) (rs := rs) hd hN hI hlk rfl hlen hcat hst (Nat.le_refl (d + 1)) h1 ha ct k
  rw [Nat.zero_add, Nat.zero_add] at h
  exact h
theorem x_w5 {idx ci a : Nat} {N : MD} {v1 v2 v3 v4 v5 : AV} {v : AV} (hd : decode M.2.1 pc = .ok (.invokevirtual idx, 3)) (hN : MW N 5) (hI : MI N ci) (hlk : Cond.methodLink M.1.cls idx N.1 ∈ lw_g) (hlen : 5 + 1 ≤ N.2.2.1) (hcat : (([v1, v2, v3, v4, v5] : List AV).all fun v => (cv G v).category == 1) = true) (hst : (st.map fun v => (cv G v).category).sum ≤ 8) (hc : isob hp a ci) (ha : a < sz) (ct : Ct G d 0 0 N (vr a :: [v1, v2, v3, v4, v5]) hp sz (Rd (some v) hp sz)) (k : Ex G (d + 1) rc rs M (pc + 3) ls (v :: st) hp sz Q) : Ex G (d + 1) rc rs M pc ls (v5 :: v4 :: v3 :: v2 :: v1 :: vr a :: st) hp sz Q :=
  x_v5 hd hN hI hlk hlen hcat hst hc ha ct (by rintro _ _ _ ⟨rfl, rfl, rfl⟩; exact k)
theorem x_s5 {idx : Nat} {N : MD} {v1 v2 v3 v4 v5 : AV} {Q' : Option AV → HP → Nat → Prop} (hd : decode M.2.1 pc = .ok (.invokestatic idx, 3)) (hN : MW N 5) (hI : Cond.static N.1 ∈ lw_g) (hlk : Cond.methodLink M.1.cls idx N.1 ∈ lw_g) (hlen : 5 ≤ N.2.2.1) (hcat : (([v1, v2, v3, v4, v5] : List AV).all fun v => (cv G v).category == 1) = true) (hst : (st.map fun v => (cv G v).category).sum ≤ 8) (ct : Ct G d 0 0 N [v1, v2, v3, v4, v5] hp sz Q') (k : ∀ (r : Option AV) (hp' : HP) (sz' : Nat), Q' r hp' sz' → Ex G (d + 1) rc rs M (pc + 3) ls (r.toList ++ st) hp' sz' Q) : Ex G (d + 1) rc rs M pc ls (v5 :: v4 :: v3 :: v2 :: v1 :: st) hp sz Q := by
  have h := x_callS (as := [v1, v2, v3, v4, v5]) (mc := 0) (ms := 0) (rc := rc) (rs := rs) hd hN hI hlk rfl hlen hcat hst (Nat.le_refl (d + 1)) ct k
  rw [Nat.zero_add, Nat.zero_add] at h
  exact h
theorem x_t5 {idx : Nat} {N : MD} {v1 v2 v3 v4 v5 : AV} {v : AV} (hd : decode M.2.1 pc = .ok (.invokestatic idx, 3)) (hN : MW N 5) (hI : Cond.static N.1 ∈ lw_g) (hlk : Cond.methodLink M.1.cls idx N.1 ∈ lw_g) (hlen : 5 ≤ N.2.2.1) (hcat : (([v1, v2, v3, v4, v5] : List AV).all fun v => (cv G v).category == 1) = true) (hst : (st.map fun v => (cv G v).category).sum ≤ 8) (ct : Ct G d 0 0 N [v1, v2, v3, v4, v5] hp sz (Rd (some v) hp sz)) (k : Ex G (d + 1) rc rs M (pc + 3) ls (v :: st) hp sz Q) : Ex G (d + 1) rc rs M pc ls (v5 :: v4 :: v3 :: v2 :: v1 :: st) hp sz Q :=
  x_s5 hd hN hI hlk hlen hcat hst ct (by rintro _ _ _ ⟨rfl, rfl, rfl⟩; exact k)
theorem x_p5 {idx ci a : Nat} {N : MD} {v1 v2 v3 v4 v5 : AV} {P : HP → Prop} (hd : decode M.2.1 pc = .ok (.invokevirtual idx, 3)) (hN : MW N 5) (hI : MI N ci) (hlk : Cond.methodLink M.1.cls idx N.1 ∈ lw_g) (hlen : 5 + 1 ≤ N.2.2.1) (hcat : (([v1, v2, v3, v4, v5] : List AV).all fun v => (cv G v).category == 1) = true) (hst : (st.map fun v => (cv G v).category).sum ≤ 8) (hc : isob hp a ci) (ha : a < sz) (ct : Ct G d 0 0 N (vr a :: [v1, v2, v3, v4, v5]) hp sz (Vd P sz)) (k : ∀ h, P h → Ex G (d + 1) rc rs M (pc + 3) ls st h sz Q) : Ex G (d + 1) rc rs M pc ls (v5 :: v4 :: v3 :: v2 :: v1 :: vr a :: st) hp sz Q :=
  x_v5 hd hN hI hlk hlen hcat hst hc ha ct (by rintro _ h _ ⟨rfl, rfl, hP⟩; exact k h hP)
theorem x_q5 {idx : Nat} {N : MD} {v1 v2 v3 v4 v5 : AV} {P : HP → Prop} (hd : decode M.2.1 pc = .ok (.invokestatic idx, 3)) (hN : MW N 5) (hI : Cond.static N.1 ∈ lw_g) (hlk : Cond.methodLink M.1.cls idx N.1 ∈ lw_g) (hlen : 5 ≤ N.2.2.1) (hcat : (([v1, v2, v3, v4, v5] : List AV).all fun v => (cv G v).category == 1) = true) (hst : (st.map fun v => (cv G v).category).sum ≤ 8) (ct : Ct G d 0 0 N [v1, v2, v3, v4, v5] hp sz (Vd P sz)) (k : ∀ h, P h → Ex G (d + 1) rc rs M (pc + 3) ls st h sz Q) : Ex G (d + 1) rc rs M pc ls (v5 :: v4 :: v3 :: v2 :: v1 :: st) hp sz Q :=
  x_s5 hd hN hI hlk hlen hcat hst ct (by rintro _ h _ ⟨rfl, rfl, hP⟩; exact k h hP)
theorem x_y5 {idx ci a : Nat} {N : MD} {v1 v2 v3 v4 v5 : AV} {P : AV → HP → Prop} (hd : decode M.2.1 pc = .ok (.invokevirtual idx, 3)) (hN : MW N 5) (hI : MI N ci) (hlk : Cond.methodLink M.1.cls idx N.1 ∈ lw_g) (hlen : 5 + 1 ≤ N.2.2.1) (hcat : (([v1, v2, v3, v4, v5] : List AV).all fun v => (cv G v).category == 1) = true) (hst : (st.map fun v => (cv G v).category).sum ≤ 8) (hc : isob hp a ci) (ha : a < sz) (ct : Ct G d 0 0 N (vr a :: [v1, v2, v3, v4, v5]) hp sz (Vs P sz)) (k : ∀ v h, P v h → Ex G (d + 1) rc rs M (pc + 3) ls (v :: st) h sz Q) : Ex G (d + 1) rc rs M pc ls (v5 :: v4 :: v3 :: v2 :: v1 :: vr a :: st) hp sz Q :=
  x_v5 hd hN hI hlk hlen hcat hst hc ha ct (by rintro _ h _ ⟨v, rfl, rfl, hP⟩; exact k v h hP)
theorem x_z5 {idx : Nat} {N : MD} {v1 v2 v3 v4 v5 : AV} {P : AV → HP → Prop} (hd : decode M.2.1 pc = .ok (.invokestatic idx, 3)) (hN : MW N 5) (hI : Cond.static N.1 ∈ lw_g) (hlk : Cond.methodLink M.1.cls idx N.1 ∈ lw_g) (hlen : 5 ≤ N.2.2.1) (hcat : (([v1, v2, v3, v4, v5] : List AV).all fun v => (cv G v).category == 1) = true) (hst : (st.map fun v => (cv G v).category).sum ≤ 8) (ct : Ct G d 0 0 N [v1, v2, v3, v4, v5] hp sz (Vs P sz)) (k : ∀ v h, P v h → Ex G (d + 1) rc rs M (pc + 3) ls (v :: st) h sz Q) : Ex G (d + 1) rc rs M pc ls (v5 :: v4 :: v3 :: v2 :: v1 :: st) hp sz Q :=
  x_s5 hd hN hI hlk hlen hcat hst ct (by rintro _ h _ ⟨v, rfl, rfl, hP⟩; exact k v h hP)
end XS
end
section
section XI
variable {G : GL} {d rc rs : Nat} {M : MD} {pc : Nat} {ls st : List AV} {hp : HP} {sz : Nat} {Q : Option AV → HP → Nat → Prop}
theorem x_il {a n j : Nat} {f : Nat → Int} {i : Int} (hd : decode M.2.1 pc = .ok (.iaload, 1)) (hc : hp a = ar 0 n f) (ha : a < sz) (hj : i = (j : Int)) (h1 : j < n) (k : Ex G d rc rs M (pc + 1) ls (vi (f j) :: st) hp sz Q) : Ex G d rc rs M pc ls (vi i :: vr a :: st) hp sz Q := by
  subst hj
  refine x_iald hd hc ha (by omega) (by omega) ?_
  rw [Int.toNat_natCast]
  exact k
theorem x_ll {a n j : Nat} {f : Nat → Int} {i : Int} (hd : decode M.2.1 pc = .ok (.laload, 1)) (hc : hp a = ar 1 n f) (ha : a < sz) (hj : i = (j : Int)) (h1 : j < n) (k : Ex G d rc rs M (pc + 1) ls (vl (f j) :: st) hp sz Q) : Ex G d rc rs M pc ls (vi i :: vr a :: st) hp sz Q := by
  subst hj
  refine x_lald hd hc ha (by omega) (by omega) ?_
  rw [Int.toNat_natCast]
  exact k
theorem x_bl {a n j : Nat} {f : Nat → Int} {i : Int} (hd : decode M.2.1 pc = .ok (.baload, 1)) (hc : hp a = ar 2 n f) (ha : a < sz) (hj : i = (j : Int)) (h1 : j < n) (k : Ex G d rc rs M (pc + 1) ls (vi (f j) :: st) hp sz Q) : Ex G d rc rs M pc ls (vi i :: vr a :: st) hp sz Q := by
  subst hj
  refine x_bald hd hc ha (by omega) (by omega) ?_
  rw [Int.toNat_natCast]
  exact k
theorem x_zl {a n j : Nat} {f : Nat → Int} {i : Int} (hd : decode M.2.1 pc = .ok (.baload, 1)) (hc : hp a = ar 3 n f) (ha : a < sz) (hj : i = (j : Int)) (h1 : j < n) (k : Ex G d rc rs M (pc + 1) ls (vi (f j) :: st) hp sz Q) : Ex G d rc rs M pc ls (vi i :: vr a :: st) hp sz Q := by
  subst hj
  refine x_zald hd hc ha (by omega) (by omega) ?_
  rw [Int.toNat_natCast]
  exact k
theorem x_al {a kk n b j : Nat} {f : Nat → Option Nat} {i : Int} (hd : decode M.2.1 pc = .ok (.aaload, 1)) (hc : hp a = rr kk n f) (ha : a < sz) (hj : i = (j : Int)) (h1 : j < n) (hb : f j = some b) (k : Ex G d rc rs M (pc + 1) ls (vr b :: st) hp sz Q) : Ex G d rc rs M pc ls (vi i :: vr a :: st) hp sz Q := by
  subst hj
  exact x_aald hd hc ha (by omega) (by omega) (by rw [Int.toNat_natCast]; exact hb) k
theorem x_is {a n j : Nat} {f : Nat → Int} {i x : Int} (hd : decode M.2.1 pc = .ok (.iastore, 1)) (hc : hp a = ar 0 n f) (ha : a < sz) (hj : i = (j : Int)) (h1 : j < n) (k : Ex G d rc rs M (pc + 1) ls st (up hp a (ar 0 n (up f j x))) sz Q) : Ex G d rc rs M pc ls (vi x :: vi i :: vr a :: st) hp sz Q := by
  subst hj
  refine x_iast hd hc ha (by omega) (by omega) ?_
  rw [Int.toNat_natCast]
  exact k
theorem x_ls {a n j : Nat} {f : Nat → Int} {i x : Int} (hd : decode M.2.1 pc = .ok (.lastore, 1)) (hc : hp a = ar 1 n f) (ha : a < sz) (hj : i = (j : Int)) (h1 : j < n) (k : Ex G d rc rs M (pc + 1) ls st (up hp a (ar 1 n (up f j x))) sz Q) : Ex G d rc rs M pc ls (vl x :: vi i :: vr a :: st) hp sz Q := by
  subst hj
  refine x_last hd hc ha (by omega) (by omega) ?_
  rw [Int.toNat_natCast]
  exact k
theorem x_bs {a n j : Nat} {f : Nat → Int} {i x : Int} (hd : decode M.2.1 pc = .ok (.bastore, 1)) (hc : hp a = ar 2 n f) (ha : a < sz) (hj : i = (j : Int)) (h1 : j < n) (hx : -128 ≤ x ∧ x < 128) (k : Ex G d rc rs M (pc + 1) ls st (up hp a (ar 2 n (up f j x))) sz Q) : Ex G d rc rs M pc ls (vi x :: vi i :: vr a :: st) hp sz Q := by
  subst hj
  refine x_bast hd hc ha (by omega) (by omega) hx ?_
  rw [Int.toNat_natCast]
  exact k
theorem x_zs {a n j : Nat} {f : Nat → Int} {i x : Int} (hd : decode M.2.1 pc = .ok (.bastore, 1)) (hc : hp a = ar 3 n f) (ha : a < sz) (hj : i = (j : Int)) (h1 : j < n) (hx : x = 0 ∨ x = 1) (k : Ex G d rc rs M (pc + 1) ls st (up hp a (ar 3 n (up f j x))) sz Q) : Ex G d rc rs M pc ls (vi x :: vi i :: vr a :: st) hp sz Q := by
  subst hj
  refine x_zast hd hc ha (by omega) (by omega) hx ?_
  rw [Int.toNat_natCast]
  exact k
theorem x_as {a kk n b j : Nat} {f : Nat → Option Nat} {i : Int} (hd : decode M.2.1 pc = .ok (.aastore, 1)) (hc : hp a = rr kk n f) (ha : a < sz) (hj : i = (j : Int)) (h1 : j < n) (hb : b < sz) (hk : asg kk (hp b)) (k : Ex G d rc rs M (pc + 1) ls st (up hp a (rr kk n (up f j (some b)))) sz Q) : Ex G d rc rs M pc ls (vr b :: vi i :: vr a :: st) hp sz Q := by
  subst hj
  refine x_aast hd hc ha (by omega) (by omega) hb hk ?_
  rw [Int.toNat_natCast]
  exact k
end XI
/-! small numbers of the program -/
def bz (b : Bool) : Int := if b then 1 else 0
theorem bz_t : bz true = 1 := rfl
theorem bz_f : bz false = 0 := rfl
theorem bz_01 (b : Bool) : bz b = 0 ∨ bz b = 1 := by cases b <;> simp [bz]
theorem lb_eq (w k : Nat) : ((w : Int) / 2 ^ ((k : Int)).toNat) % 2 ^ 1 = bz (w.testBit k) := by
  rw [Int.toNat_natCast, Nat.testBit_eq_decide_div_mod_eq]
  have h : ((w : Int) / 2 ^ k) % 2 ^ 1 = ((w / 2 ^ k % 2 : Nat) : Int) := by
    simp
  rw [h]
  unfold bz
  have := Nat.mod_two_eq_zero_or_one (w / 2 ^ k)
  rcases this with h | h <;> simp [h]
/-- Laying at a: sizes at a + 1, numbers at a + 2 -/
def Lay (hp : HP) (a : Nat) (s n : Nat → Int) (w : Nat) : Prop := fld hp a 0 0 (vr (a + 1)) ∧ fld hp a 0 1 (vr (a + 2)) ∧ fld hp a 0 2 (vi w) ∧ hp (a + 1) = ar 0 8 s ∧ hp (a + 2) = ar 0 112 n
theorem Lay.ob {hp : HP} {a : Nat} {s n : Nat → Int} {w : Nat} (h : Lay hp a s n w) : isob hp a 0 := h.1.ob
theorem Lay.keep {hp hp' : HP} {a : Nat} {s n : Nat → Int} {w : Nat} (h : Lay hp a s n w) (e : ∀ b, a ≤ b → b ≤ a + 2 → hp' b = hp b) : Lay hp' a s n w := by
  obtain ⟨h1, h2, h3, h4, h5⟩ := h
  exact ⟨h1.keep (e _ (by omega) (by omega)), h2.keep (e _ (by omega) (by omega)), h3.keep (e _ (by omega) (by omega)), (e _ (by omega) (by omega)).trans h4, (e _ (by omega) (by omega)).trans h5⟩
end
section
set_option maxRecDepth 4000 in
theorem t_max {G : GL} {d : Nat} {hp : HP} {sz : Nat} {x y : Int} (hx : -2147483648 ≤ x ∧ x < 2147483648) (hy : -2147483648 ≤ y ∧ y < 2147483648) : Ct G d 0 0 mJ9_max_7cf53 [vi x, vi y] hp sz (Rd (some (vi (max x y))) hp sz) := by
  show Ex _ _ _ _ _ _ [vi x, vi y] _ _ _ _
  refine x_iload_n (pc := 0) dJ9_max_7cf53_0 rfl ?_
  refine x_iload_n (pc := 1) dJ9_max_7cf53_1 rfl ?_
  refine x_icmp_lt (pc := 2) (tgt := 9) dJ9_max_7cf53_2 (by decide) (by omega) (by omega) (fun c2 => ?_) (fun c2 => ?_)
  · refine x_iload_n (pc := 9) dJ9_max_7cf53_9 rfl ?_
    refine x_iret (pc := 10) dJ9_max_7cf53_10 rfl ⟨by first | rw [Int.max_eq_right (by omega)] | rw [Int.max_eq_left (by omega)], rfl, rfl⟩
  · refine x_iload_n (pc := 5) dJ9_max_7cf53_5 rfl ?_
    refine x_goto (pc := 6) (tgt := 10) dJ9_max_7cf53_6 (by decide) ?_
    refine x_iret (pc := 10) dJ9_max_7cf53_10 rfl ⟨by first | rw [Int.max_eq_right (by omega)] | rw [Int.max_eq_left (by omega)], rfl, rfl⟩

set_option maxRecDepth 4000 in
theorem t_min {G : GL} {d : Nat} {hp : HP} {sz : Nat} {x y : Int} (hx : -2147483648 ≤ x ∧ x < 2147483648) (hy : -2147483648 ≤ y ∧ y < 2147483648) : Ct G d 0 0 mJ9_min_7cf53 [vi x, vi y] hp sz (Rd (some (vi (min x y))) hp sz) := by
  show Ex _ _ _ _ _ _ [vi x, vi y] _ _ _ _
  refine x_iload_n (pc := 0) dJ9_min_7cf53_0 rfl ?_
  refine x_iload_n (pc := 1) dJ9_min_7cf53_1 rfl ?_
  refine x_icmp_gt (pc := 2) (tgt := 9) dJ9_min_7cf53_2 (by decide) (by omega) (by omega) (fun c2 => ?_) (fun c2 => ?_)
  · refine x_iload_n (pc := 9) dJ9_min_7cf53_9 rfl ?_
    refine x_iret (pc := 10) dJ9_min_7cf53_10 rfl ⟨by first | rw [Int.min_eq_right (by omega)] | rw [Int.min_eq_left (by omega)], rfl, rfl⟩
  · refine x_iload_n (pc := 5) dJ9_min_7cf53_5 rfl ?_
    refine x_goto (pc := 6) (tgt := 10) dJ9_min_7cf53_6 (by decide) ?_
    refine x_iret (pc := 10) dJ9_min_7cf53_10 rfl ⟨by first | rw [Int.min_eq_right (by omega)] | rw [Int.min_eq_left (by omega)], rfl, rfl⟩

set_option maxRecDepth 4000 in
theorem t_abs {G : GL} {d : Nat} {hp : HP} {sz : Nat} {x : Int} (hx : -2147483648 < x ∧ x < 2147483648) : Ct G d 0 0 mJ9_abs_0f7a4 [vi x] hp sz (Rd (some (vi (x.natAbs : Int))) hp sz) := by
  show Ex _ _ _ _ _ _ [vi x] _ _ _ _
  refine x_iload_n (pc := 0) dJ9_abs_0f7a4_0 rfl ?_
  refine x_if_ge (pc := 1) (tgt := 9) dJ9_abs_0f7a4_1 (by decide) (by omega) (fun c1 => ?_) (fun c1 => ?_)
  · refine x_iload_n (pc := 9) dJ9_abs_0f7a4_9 rfl ?_
    refine x_iret (pc := 10) dJ9_abs_0f7a4_10 rfl ⟨by first | rw [show ((x.natAbs : Nat) : Int) = x by omega] | rw [show ((x.natAbs : Nat) : Int) = -x by omega], rfl, rfl⟩
  · refine x_iload_n (pc := 4) dJ9_abs_0f7a4_4 rfl ?_
    refine x_ineg (pc := 5) dJ9_abs_0f7a4_5 ?_
    refine x_goto (pc := 6) (tgt := 10) dJ9_abs_0f7a4_6 (by decide) ?_
    refine x_iret (pc := 10) dJ9_abs_0f7a4_10 rfl ⟨by first | rw [show ((x.natAbs : Nat) : Int) = x by omega] | rw [show ((x.natAbs : Nat) : Int) = -x by omega], rfl, rfl⟩

set_option maxRecDepth 4000 in
theorem t_isLeft {G : GL} {d : Nat} {hp : HP} {sz : Nat} {a : Nat} {s n : Nat → Int} {w : Nat} (L : Lay hp a s n w) (hz : a + 2 < sz) {k : Nat} (hk : k < 8) (hw : w < 128) : Ct G d 0 0 mX0_isLeft [vr a, vi k] hp sz (Rd (some (vi (bz (w.testBit k)))) hp sz) := by
  show Ex _ _ _ _ _ _ [vr a, vi k] _ _ _ _
  obtain ⟨L1, L2, L3, L4, L5⟩ := id L
  refine x_aload_n (pc := 0) dX0_isLeft_0 rfl ?_
  refine x_gf (pc := 1) dX0_isLeft_1 fX0_18 (by assumption) (by omega) ?_
  refine x_iload_n (pc := 4) dX0_isLeft_4 rfl ?_
  refine x_ishr (pc := 5) dX0_isLeft_5 (by omega) (by omega) ?_
  refine x_iconst (pc := 6) dX0_isLeft_6 ?_
  refine x_iand 1 (pc := 7) dX0_isLeft_7 (by decide) (by decide +kernel) ?_
  rw [lb_eq]
  refine x_iconst (pc := 8) dX0_isLeft_8 ?_
  refine x_icmp_ne (pc := 9) (tgt := 16) dX0_isLeft_9 (by decide) (by rcases bz_01 (w.testBit k) with h | h <;> rw [h] <;> decide) (by omega) (fun c9 => ?_) (fun c9 => ?_)
  · have h9 : w.testBit k = false := by cases hh : w.testBit k <;> simp_all [bz]
    refine x_iconst (pc := 16) dX0_isLeft_16 ?_
    refine x_zret (pc := 17) dX0_isLeft_17 rfl (by omega) ⟨by rw [h9]; rfl, rfl, rfl⟩
  · have h9 : w.testBit k = true := by cases hh : w.testBit k <;> simp_all [bz]
    refine x_iconst (pc := 12) dX0_isLeft_12 ?_
    refine x_goto (pc := 13) (tgt := 17) dX0_isLeft_13 (by decide) ?_
    refine x_zret (pc := 17) dX0_isLeft_17 rfl (by omega) ⟨by rw [h9]; rfl, rfl, rfl⟩

set_option maxRecDepth 4000 in
theorem t_source {G : GL} {d : Nat} {hp : HP} {sz : Nat} {a : Nat} {s n : Nat → Int} {w : Nat} (L : Lay hp a s n w) (hz : a + 2 < sz) {k : Nat} (hk : k < 7) (hw : w < 128) : Ct G (d + 1) 0 0 mX0_source [vr a, vi k] hp sz (Rd (some (vi ((if w.testBit k then k + 1 else k : Nat) : Int))) hp sz) := by
  show Ex _ _ _ _ _ _ [vr a, vi k] _ _ _ _
  obtain ⟨L1, L2, L3, L4, L5⟩ := id L
  refine x_aload_n (pc := 0) dX0_source_0 rfl ?_
  refine x_iload_n (pc := 1) dX0_source_1 rfl ?_
  refine x_w1 (pc := 2) dX0_source_2 wX0_isLeft iX0_isLeft kX0_34 (by decide) rfl (Nat.le_of_ble_eq_true rfl) L.ob (by omega) (t_isLeft L hz (by omega) hw) ?_
  refine x_if_eq (pc := 5) (tgt := 14) dX0_source_5 (by decide) (by rcases bz_01 (w.testBit k) with h | h <;> rw [h] <;> decide) (fun c5 => ?_) (fun c5 => ?_)
  · have h9 : w.testBit k = false := by cases hh : w.testBit k <;> simp_all [bz]
    refine x_iload_n (pc := 14) dX0_source_14 rfl ?_
    refine x_iret (pc := 15) dX0_source_15 rfl ⟨by rw [h9]; rfl, rfl, rfl⟩
  · have h9 : w.testBit k = true := by cases hh : w.testBit k <;> simp_all [bz]
    refine x_iload_n (pc := 8) dX0_source_8 rfl ?_
    refine x_iconst (pc := 9) dX0_source_9 ?_
    refine x_iadd (pc := 10) dX0_source_10 ?_
    refine x_goto (pc := 11) (tgt := 15) dX0_source_11 (by decide) ?_
    refine x_iret (pc := 15) dX0_source_15 rfl ⟨by rw [h9]; rfl, rfl, rfl⟩

set_option maxRecDepth 4000 in
theorem t_target {G : GL} {d : Nat} {hp : HP} {sz : Nat} {a : Nat} {s n : Nat → Int} {w : Nat} (L : Lay hp a s n w) (hz : a + 2 < sz) {k : Nat} (hk : k < 7) (hw : w < 128) : Ct G (d + 1) 0 0 mX0_target [vr a, vi k] hp sz (Rd (some (vi ((if w.testBit k then k else k + 1 : Nat) : Int))) hp sz) := by
  show Ex _ _ _ _ _ _ [vr a, vi k] _ _ _ _
  obtain ⟨L1, L2, L3, L4, L5⟩ := id L
  refine x_aload_n (pc := 0) dX0_target_0 rfl ?_
  refine x_iload_n (pc := 1) dX0_target_1 rfl ?_
  refine x_w1 (pc := 2) dX0_target_2 wX0_isLeft iX0_isLeft kX0_34 (by decide) rfl (Nat.le_of_ble_eq_true rfl) L.ob (by omega) (t_isLeft L hz (by omega) hw) ?_
  refine x_if_eq (pc := 5) (tgt := 12) dX0_target_5 (by decide) (by rcases bz_01 (w.testBit k) with h | h <;> rw [h] <;> decide) (fun c5 => ?_) (fun c5 => ?_)
  · have h9 : w.testBit k = false := by cases hh : w.testBit k <;> simp_all [bz]
    refine x_iload_n (pc := 12) dX0_target_12 rfl ?_
    refine x_iconst (pc := 13) dX0_target_13 ?_
    refine x_iadd (pc := 14) dX0_target_14 ?_
    refine x_iret (pc := 15) dX0_target_15 rfl ⟨by rw [h9]; rfl, rfl, rfl⟩
  · have h9 : w.testBit k = true := by cases hh : w.testBit k <;> simp_all [bz]
    refine x_iload_n (pc := 8) dX0_target_8 rfl ?_
    refine x_goto (pc := 9) (tgt := 15) dX0_target_9 (by decide) ?_
    refine x_iret (pc := 15) dX0_target_15 rfl ⟨by rw [h9]; rfl, rfl, rfl⟩

set_option maxRecDepth 4000 in
theorem t_rowsOf {G : GL} {d : Nat} {hp : HP} {sz : Nat} {a : Nat} {s n : Nat → Int} {w : Nat} (L : Lay hp a s n w) (hz : a + 2 < sz) {k : Nat} (hk : k < 7) (hw : w < 128) : Ct G (d + 2) 0 0 mX0_rowsOf [vr a, vi k] hp sz (Rd (some (vi (s (if w.testBit k then k else k + 1)))) hp sz) := by
  show Ex _ _ _ _ _ _ [vr a, vi k] _ _ _ _
  obtain ⟨L1, L2, L3, L4, L5⟩ := id L
  refine x_aload_n (pc := 0) dX0_rowsOf_0 rfl ?_
  refine x_gf (pc := 1) dX0_rowsOf_1 fX0_9 (by assumption) (by omega) ?_
  refine x_aload_n (pc := 4) dX0_rowsOf_4 rfl ?_
  refine x_iload_n (pc := 5) dX0_rowsOf_5 rfl ?_
  refine x_w1 (pc := 6) dX0_rowsOf_6 wX0_target iX0_target kX0_38 (by decide) rfl (Nat.le_of_ble_eq_true rfl) L.ob (by omega) (t_target L hz hk hw) ?_
  refine x_il (pc := 9) dX0_rowsOf_9 (by assumption) (by omega) rfl (by split <;> omega) ?_
  refine x_iret (pc := 10) dX0_rowsOf_10 rfl ⟨rfl, rfl, rfl⟩

set_option maxRecDepth 4000 in
theorem t_columnsOf {G : GL} {d : Nat} {hp : HP} {sz : Nat} {a : Nat} {s n : Nat → Int} {w : Nat} (L : Lay hp a s n w) (hz : a + 2 < sz) {k : Nat} (hk : k < 7) (hw : w < 128) : Ct G (d + 2) 0 0 mX0_columnsOf [vr a, vi k] hp sz (Rd (some (vi (s (if w.testBit k then k + 1 else k)))) hp sz) := by
  show Ex _ _ _ _ _ _ [vr a, vi k] _ _ _ _
  obtain ⟨L1, L2, L3, L4, L5⟩ := id L
  refine x_aload_n (pc := 0) dX0_columnsOf_0 rfl ?_
  refine x_gf (pc := 1) dX0_columnsOf_1 fX0_9 (by assumption) (by omega) ?_
  refine x_aload_n (pc := 4) dX0_columnsOf_4 rfl ?_
  refine x_iload_n (pc := 5) dX0_columnsOf_5 rfl ?_
  refine x_w1 (pc := 6) dX0_columnsOf_6 wX0_source iX0_source kX0_42 (by decide) rfl (Nat.le_of_ble_eq_true rfl) L.ob (by omega) (t_source L hz hk hw) ?_
  refine x_il (pc := 9) dX0_columnsOf_9 (by assumption) (by omega) rfl (by split <;> omega) ?_
  refine x_iret (pc := 10) dX0_columnsOf_10 rfl ⟨rfl, rfl, rfl⟩

set_option maxRecDepth 4000 in
theorem t_number {G : GL} {d : Nat} {hp : HP} {sz : Nat} {a : Nat} {s n : Nat → Int} {w : Nat} (L : Lay hp a s n w) (hz : a + 2 < sz) {k r c : Nat} (hk : k < 7) (hr : r < 4) (hc : c < 4) : Ct G d 0 0 mX0_number [vr a, vi k, vi r, vi c] hp sz (Rd (some (vi (n (k * 16 + r * 4 + c)))) hp sz) := by
  show Ex _ _ _ _ _ _ [vr a, vi k, vi r, vi c] _ _ _ _
  obtain ⟨L1, L2, L3, L4, L5⟩ := id L
  refine x_aload_n (pc := 0) dX0_number_0 rfl ?_
  refine x_gf (pc := 1) dX0_number_1 fX0_15 (by assumption) (by omega) ?_
  refine x_iload_n (pc := 4) dX0_number_4 rfl ?_
  refine x_bipush (pc := 5) dX0_number_5 (by decide) ?_
  refine x_imul (pc := 7) dX0_number_7 ?_
  refine x_iload_n (pc := 8) dX0_number_8 rfl ?_
  refine x_iconst (pc := 9) dX0_number_9 ?_
  refine x_imul (pc := 10) dX0_number_10 ?_
  refine x_iadd (pc := 11) dX0_number_11 ?_
  refine x_iload_n (pc := 12) dX0_number_12 rfl ?_
  refine x_iadd (pc := 13) dX0_number_13 ?_
  refine x_il (pc := 14) (j := k * 16 + r * 4 + c) dX0_number_14 (by assumption) (by omega) (by omega) (by omega) ?_
  refine x_iret (pc := 15) dX0_number_15 rfl ⟨rfl, rfl, rfl⟩

set_option maxRecDepth 4000 in
theorem t_put {G : GL} {d : Nat} {hp : HP} {sz : Nat} {a : Nat} {s n : Nat → Int} {w : Nat} (L : Lay hp a s n w) (hz : a + 2 < sz) {k r c : Nat} {x : Int} (hk : k < 7) (hr : r < 4) (hc : c < 4) : Ct G d 0 0 mX0_put [vr a, vi k, vi r, vi c, vi x] hp sz (Vd (fun h => h = up hp (a + 2) (ar 0 112 (up n (k * 16 + r * 4 + c) x))) sz) := by
  show Ex _ _ _ _ _ _ [vr a, vi k, vi r, vi c, vi x] _ _ _ _
  obtain ⟨L1, L2, L3, L4, L5⟩ := id L
  refine x_aload_n (pc := 0) dX0_put_0 rfl ?_
  refine x_gf (pc := 1) dX0_put_1 fX0_15 (by assumption) (by omega) ?_
  refine x_iload_n (pc := 4) dX0_put_4 rfl ?_
  refine x_bipush (pc := 5) dX0_put_5 (by decide) ?_
  refine x_imul (pc := 7) dX0_put_7 ?_
  refine x_iload_n (pc := 8) dX0_put_8 rfl ?_
  refine x_iconst (pc := 9) dX0_put_9 ?_
  refine x_imul (pc := 10) dX0_put_10 ?_
  refine x_iadd (pc := 11) dX0_put_11 ?_
  refine x_iload_n (pc := 12) dX0_put_12 rfl ?_
  refine x_iadd (pc := 13) dX0_put_13 ?_
  refine x_iload (pc := 14) dX0_put_14 rfl ?_
  refine x_is (pc := 16) (j := k * 16 + r * 4 + c) dX0_put_16 (by assumption) (by omega) (by omega) (by omega) ?_
  refine x_vret (pc := 17) dX0_put_17 rfl ⟨rfl, rfl, rfl⟩
end
section
/-! loops, frames -/
theorem down {P : Nat → Prop} {n : Nat} (hn : P n) (hs : ∀ i, i < n → P (i + 1) → P i) : ∀ i, i ≤ n → P i := by
  intro i hi
  obtain ⟨k, rfl⟩ := Nat.exists_eq_add_of_le hi
  clear hi
  induction k generalizing i with
  | zero => exact hn
  | succ k ih => exact hs i (by omega) (ih (i + 1) (by rw [show i + 1 + k = i + (k + 1) by omega]; exact hn) (fun j hj => hs j (by omega)))
theorem up_up {α : Type} (f : Nat → α) (a : Nat) (x y : α) : up (up f a x) a y = up f a y := by
  funext b
  by_cases h : b = a <;> simp [up, h]
def Fr (hp hp' : HP) (lo hi : Nat) : Prop := ∀ x, (x < lo ∨ hi < x) → hp' x = hp x
theorem Fr.rf {hp : HP} {lo hi : Nat} : Fr hp hp lo hi := fun _ _ => rfl
theorem Fr.tr {h1 h2 h3 : HP} {lo hi : Nat} (a : Fr h1 h2 lo hi) (b : Fr h2 h3 lo hi) : Fr h1 h3 lo hi := fun x hx => (b x hx).trans (a x hx)
theorem Fr.up {hp hp' : HP} {lo hi a : Nat} {c : AC} (h : Fr hp hp' lo hi) (h1 : lo ≤ a) (h2 : a ≤ hi) : Fr hp (up hp' a c) lo hi := fun x hx => (up_n _ _ (by omega)).trans (h x hx)
theorem Fr.pf {hp h1 h2 : HP} {lo hi a c j : Nat} {v : AV} (h : Fr hp h1 lo hi) (e : pf h1 a c j v h2) (g1 : lo ≤ a) (g2 : a ≤ hi) : Fr hp h2 lo hi := fun x hx => (e.1 x (by omega)).trans (h x hx)
theorem Fr.wide {hp hp' : HP} {lo hi lo' hi' : Nat} (h : Fr hp hp' lo hi) (a : lo' ≤ lo) (b : hi ≤ hi') : Fr hp hp' lo' hi' := fun x hx => h x (by omega)

theorem l_fill {G : GL} {d : Nat} {sz a n : Nat} {v : Int} {Q : Option AV → HP → Nat → Prop} (ha : a < sz) (hn : n < 100000) : ∀ i, i ≤ n → ∀ (hp : HP) (f : Nat → Int), hp a = ar 0 n f → Q none (up hp a (ar 0 n (fun j => if i ≤ j ∧ j < n then v else f j))) sz → Ex G d 0 0 mJ7_fill_53178 5 [vr a, vi v, vi i, vi n] [] hp sz Q := by
  refine down (fun hp f hf hq => ?_) (fun i hi ih hp f hf hq => ?_)
  · refine x_iload_n (pc := 5) dJ7_fill_53178_5 rfl ?_
    refine x_iload_n (pc := 6) dJ7_fill_53178_6 rfl ?_
    refine x_icmp_ge (pc := 7) (tgt := 20) dJ7_fill_53178_7 (by decide) (by omega) (by omega) (fun c7 => ?_) (fun c7 => ?_)
    · refine x_vret (pc := 20) dJ7_fill_53178_20 rfl (by
        refine (congrArg (fun g => Q none g sz) ?_).mp hq
        funext b
        by_cases h : b = a
        · subst h
          rw [up_s, hf]
          refine congrArg _ (funext fun j => ?_)
          simp [show ¬ (n ≤ j ∧ j < n) by omega]
        · rw [up_n _ _ h])
    · exact absurd c7 (by omega)
  · refine x_iload_n (pc := 5) dJ7_fill_53178_5 rfl ?_
    refine x_iload_n (pc := 6) dJ7_fill_53178_6 rfl ?_
    refine x_icmp_ge (pc := 7) (tgt := 20) dJ7_fill_53178_7 (by decide) (by omega) (by omega) (fun c7 => ?_) (fun c7 => ?_)
    · exact absurd c7 (by omega)
    · refine x_aload_n (pc := 10) dJ7_fill_53178_10 rfl ?_
      refine x_iload_n (pc := 11) dJ7_fill_53178_11 rfl ?_
      refine x_iload_n (pc := 12) dJ7_fill_53178_12 rfl ?_
      refine x_is (pc := 13) dJ7_fill_53178_13 (by assumption) (by omega) rfl (by omega) ?_
      refine x_iinc (pc := 14) dJ7_fill_53178_14 rfl (by decide) rfl ?_
      show Ex _ _ _ _ _ _ [_, _, _, _] _ _ _ _
      refine x_goto (pc := 17) (tgt := 5) dJ7_fill_53178_17 (by decide) ?_
      exact ih (up hp a (ar 0 n (up f i v))) (up f i v) (up_s _ _ _) (by
        rw [up_up]
        refine (congrArg (fun g => Q none (up hp a (ar 0 n g)) sz) (funext fun j => ?_)).mp hq
        by_cases h1 : j = i
        · subst h1; simp [up, hi]
        · by_cases h2 : i + 1 ≤ j
          · simp [up, h1, h2, show i ≤ j by omega]
          · simp [up, h1, h2, show ¬ i ≤ j by omega])
theorem t_fill {G : GL} {d : Nat} {hp : HP} {sz a n : Nat} {f : Nat → Int} {v : Int} (hf : hp a = ar 0 n f) (ha : a < sz) (hn : n < 100000) : Ct G d 0 0 mJ7_fill_53178 [vr a, vi v] hp sz (Vd (fun h => h = up hp a (ar 0 n (fun j => if j < n then v else f j))) sz) := by
  show Ex _ _ _ _ _ _ [vr a, vi v, vu, vu] _ _ _ _
  refine x_iconst (pc := 0) dJ7_fill_53178_0 ?_
  refine x_istore_n (pc := 1) dJ7_fill_53178_1 (by decide) rfl ?_
  show Ex _ _ _ _ _ _ [_, _, _, _] _ _ _ _
  refine x_aload_n (pc := 2) dJ7_fill_53178_2 rfl ?_
  refine x_alen (pc := 3) dJ7_fill_53178_3 (by assumption) (by omega) ?_
  refine x_istore_n (pc := 4) dJ7_fill_53178_4 (by decide) rfl ?_
  show Ex _ _ _ _ _ _ [_, _, _, _] _ _ _ _
  exact l_fill ha hn 0 (by omega) hp f hf ⟨rfl, rfl, by simp⟩
end
section
theorem Lay.pfw {hp hp' : HP} {a : Nat} {s n : Nat → Int} {w x : Nat} (h : Lay hp a s n w) (e : pf hp a 0 2 (vi x) hp') : Lay hp' a s n x := by
  obtain ⟨h1, h2, h3, h4, h5⟩ := h
  exact ⟨e.2.2 0 _ (by decide) h1, e.2.2 1 _ (by decide) h2, e.2.1, (e.1 _ (by omega)).trans h4, (e.1 _ (by omega)).trans h5⟩
theorem Lay.ups {hp : HP} {a : Nat} {s n s' : Nat → Int} {w : Nat} (h : Lay hp a s n w) : Lay (up hp (a + 1) (ar 0 8 s')) a s' n w := by
  obtain ⟨h1, h2, h3, h4, h5⟩ := h
  exact ⟨h1.up (by omega), h2.up (by omega), h3.up (by omega), up_s _ _ _, (up_n _ _ (by omega)).trans h5⟩
theorem Lay.upn {hp : HP} {a : Nat} {s n n' : Nat → Int} {w : Nat} (h : Lay hp a s n w) : Lay (up hp (a + 2) (ar 0 112 n')) a s n' w := by
  obtain ⟨h1, h2, h3, h4, h5⟩ := h
  exact ⟨h1.up (by omega), h2.up (by omega), h3.up (by omega), (up_n _ _ (by omega)).trans h4, up_s _ _ _⟩

set_option maxRecDepth 4000 in
theorem t_empty {G : GL} {d : Nat} {hp : HP} {sz : Nat} {a : Nat} {s n : Nat → Int} {w : Nat} (L : Lay hp a s n w) (hz : a + 2 < sz) {x : Nat} : Ct G (d + 1) 0 0 mX0_empty [vr a, vi x] hp sz (Vd (fun h => Fr hp h a (a + 2) ∧ ∃ s' n', Lay h a s' n' x ∧ (∀ j, j < 8 → s' j = 0) ∧ ∀ j, j < 112 → n' j = 0) sz) := by
  show Ex _ _ _ _ _ _ [vr a, vi x] _ _ _ _
  obtain ⟨L1, L2, L3, L4, L5⟩ := id L
  have hob := L.ob
  refine x_aload_n (pc := 0) dX0_empty_0 rfl ?_
  refine x_iload_n (pc := 1) dX0_empty_1 rfl ?_
  refine x_pfi (pc := 2) dX0_empty_2 pX0_18 (by assumption) (by omega) (fun hp2 hf2 => ?_)
  have La := L.pfw hf2
  obtain ⟨L1, L2, L3, L4, L5⟩ := id La
  refine x_aload_n (pc := 5) dX0_empty_5 rfl ?_
  refine x_gf (pc := 6) dX0_empty_6 fX0_9 (by assumption) (by omega) ?_
  refine x_iconst (pc := 9) dX0_empty_9 ?_
  refine x_q2 (pc := 10) dX0_empty_10 wJ7_fill_53178 sJ7_fill_53178 kX0_22 (by decide) rfl (Nat.le_of_ble_eq_true rfl) (t_fill L4 (by omega) (by omega)) (fun h10 e10 => ?_)
  subst e10
  have Lb := La.ups (s' := fun j => if j < 8 then 0 else s j)
  obtain ⟨L1, L2, L3, L4, L5⟩ := id Lb
  refine x_aload_n (pc := 13) dX0_empty_13 rfl ?_
  refine x_gf (pc := 14) dX0_empty_14 fX0_15 (by assumption) (by omega) ?_
  refine x_iconst (pc := 17) dX0_empty_17 ?_
  refine x_q2 (pc := 18) dX0_empty_18 wJ7_fill_53178 sJ7_fill_53178 kX0_22 (by decide) rfl (Nat.le_of_ble_eq_true rfl) (t_fill L5 (by omega) (by omega)) (fun h18 e18 => ?_)
  subst e18
  have Lc := Lb.upn (n' := fun j => if j < 112 then 0 else n j)
  refine x_vret (pc := 21) dX0_empty_21 rfl ⟨rfl, rfl, ((Fr.rf.pf hf2 (by omega) (by omega)).up (by omega) (by omega)).up (by omega) (by omega), _, _, Lc, fun j hj => if_pos hj, fun j hj => if_pos hj⟩

set_option maxRecDepth 4000 in
theorem t_copy {G : GL} {d : Nat} {hp : HP} {sz : Nat} {a : Nat} {s n : Nat → Int} {w : Nat} (L : Lay hp a s n w) (hz : a + 2 < sz) {b : Nat} {s' n' : Nat → Int} {w' : Nat} (K : Lay hp b s' n' w') (hy : b + 2 < sz) (hab : b + 2 < a ∨ a + 2 < b) : Ct G (d + 2) 0 0 mX0_copy [vr a, vr b] hp sz (Vd (fun h => Fr hp h a (a + 2) ∧ ∃ s1 n1, Lay h a s1 n1 w' ∧ (∀ j, j < 8 → s1 j = s' j) ∧ ∀ j, j < 112 → n1 j = n' j) sz) := by
  show Ex _ _ _ _ _ _ [vr a, vr b] _ _ _ _
  obtain ⟨L1, L2, L3, L4, L5⟩ := id L
  have hob := L.ob
  obtain ⟨K1, K2, K3, K4, K5⟩ := id K
  refine x_aload_n (pc := 0) dX0_copy_0 rfl ?_
  refine x_aload_n (pc := 1) dX0_copy_1 rfl ?_
  refine x_gf (pc := 2) dX0_copy_2 fX0_18 (by assumption) (by omega) ?_
  refine x_pfi (pc := 5) dX0_copy_5 pX0_18 (by assumption) (by omega) (fun hp5 hf5 => ?_)
  have La := L.pfw hf5
  have Ka := K.keep (hp' := hp5) (fun x h1 h2 => hf5.1 x (by omega))
  obtain ⟨L1, L2, L3, L4, L5⟩ := id La
  obtain ⟨K1, K2, K3, K4, K5⟩ := id Ka
  refine x_aload_n (pc := 8) dX0_copy_8 rfl ?_
  refine x_gf (pc := 9) dX0_copy_9 fX0_9 (by assumption) (by omega) ?_
  refine x_iconst (pc := 12) dX0_copy_12 ?_
  refine x_aload_n (pc := 13) dX0_copy_13 rfl ?_
  refine x_gf (pc := 14) dX0_copy_14 fX0_9 (by assumption) (by omega) ?_
  refine x_iconst (pc := 17) dX0_copy_17 ?_
  refine x_bipush (pc := 18) dX0_copy_18 (by decide) ?_
  refine x_copy (pc := 20) dX0_copy_20 kX0_28 nat_copy st_copy ci_sys (by omega) (Nat.le_of_ble_eq_true rfl) (by omega) (by omega) (by omega) K4 L4 (by omega) (by omega) (by omega) ?_
  have Lb := La.ups (s' := fun j => if j < (8 : Int).toNat then s' j else s j)
  have Kb := Ka.keep (hp' := up hp5 (a + 1) (ar 0 8 (fun j => if j < (8 : Int).toNat then s' j else s j))) (fun x h1 h2 => up_n _ _ (by omega))
  obtain ⟨L1, L2, L3, L4, L5⟩ := id Lb
  obtain ⟨K1, K2, K3, K4, K5⟩ := id Kb
  refine x_aload_n (pc := 23) dX0_copy_23 rfl ?_
  refine x_gf (pc := 24) dX0_copy_24 fX0_15 (by assumption) (by omega) ?_
  refine x_iconst (pc := 27) dX0_copy_27 ?_
  refine x_aload_n (pc := 28) dX0_copy_28 rfl ?_
  refine x_gf (pc := 29) dX0_copy_29 fX0_15 (by assumption) (by omega) ?_
  refine x_iconst (pc := 32) dX0_copy_32 ?_
  refine x_bipush (pc := 33) dX0_copy_33 (by decide) ?_
  refine x_copy (pc := 35) dX0_copy_35 kX0_28 nat_copy st_copy ci_sys (by omega) (Nat.le_of_ble_eq_true rfl) (by omega) (by omega) (by omega) K5 L5 (by omega) (by omega) (by omega) ?_
  have Lc := Lb.upn (n' := fun j => if j < (112 : Int).toNat then n' j else n j)
  refine x_vret (pc := 38) dX0_copy_38 rfl ⟨rfl, rfl, ((Fr.rf.pf hf5 (by omega) (by omega)).up (by omega) (by omega)).up (by omega) (by omega), _, _, Lc, fun j hj => if_pos hj, fun j hj => if_pos hj⟩

set_option maxRecDepth 4000 in
theorem t_numberBeside {G : GL} {d : Nat} {hp : HP} {sz : Nat} {a : Nat} {s n : Nat → Int} {w : Nat} (L : Lay hp a s n w) (hz : a + 2 < sz) {k r c : Nat} (b : Bool) (hk : k < 7) (hr : r < 4) (hc : c < 4) : Ct G (d + 1) 0 0 mX0_numberBeside [vr a, vi k, vi (bz b), vi r, vi c] hp sz (Rd (some (vi (if b then n (k * 16 + r * 4 + c) else n (k * 16 + c * 4 + r)))) hp sz) := by
  show Ex _ _ _ _ _ _ [vr a, vi k, vi (bz b), vi r, vi c] _ _ _ _
  obtain ⟨L1, L2, L3, L4, L5⟩ := id L
  have hob := L.ob
  refine x_iload_n (pc := 0) dX0_numberBeside_0 rfl ?_
  refine x_if_eq (pc := 1) (tgt := 15) dX0_numberBeside_1 (by decide) (by rcases bz_01 b with h | h <;> rw [h] <;> decide) (fun c1 => ?_) (fun c1 => ?_)
  · have h9 : b = false := by cases hh : b <;> simp_all [bz]
    subst h9
    refine x_aload_n (pc := 15) dX0_numberBeside_15 rfl ?_
    refine x_iload_n (pc := 16) dX0_numberBeside_16 rfl ?_
    refine x_iload (pc := 17) dX0_numberBeside_17 rfl ?_
    refine x_iload_n (pc := 19) dX0_numberBeside_19 rfl ?_
    refine x_w3 (pc := 20) dX0_numberBeside_20 wX0_number iX0_number kX0_45 (by decide) rfl (Nat.le_of_ble_eq_true rfl) (by assumption) (by omega) (t_number L hz hk hc hr) ?_
    refine x_iret (pc := 23) dX0_numberBeside_23 rfl ⟨rfl, rfl, rfl⟩
  · have h9 : b = true := by cases hh : b <;> simp_all [bz]
    subst h9
    refine x_aload_n (pc := 4) dX0_numberBeside_4 rfl ?_
    refine x_iload_n (pc := 5) dX0_numberBeside_5 rfl ?_
    refine x_iload_n (pc := 6) dX0_numberBeside_6 rfl ?_
    refine x_iload (pc := 7) dX0_numberBeside_7 rfl ?_
    refine x_w3 (pc := 9) dX0_numberBeside_9 wX0_number iX0_number kX0_45 (by decide) rfl (Nat.le_of_ble_eq_true rfl) (by assumption) (by omega) (t_number L hz hk hr hc) ?_
    refine x_goto (pc := 12) (tgt := 23) dX0_numberBeside_12 (by decide) ?_
    refine x_iret (pc := 23) dX0_numberBeside_23 rfl ⟨rfl, rfl, rfl⟩

theorem l_reverse {G : GL} {d : Nat} {sz a k w : Nat} {s : Nat → Int} {Q : Option AV → HP → Nat → Prop} (hz : a + 2 < sz) (hk : k < 7) : ∀ i, i ≤ 16 → ∀ (hp : HP) (n : Nat → Int), Lay hp a s n w → (∀ h n1, Fr hp h a (a + 2) → Lay h a s n1 w → (∀ j, n1 j = if k * 16 + i ≤ j ∧ j < k * 16 + 16 then 0 else n j) → Q none h sz) → Ex G d 0 0 mX0_reverse 14 [vr a, vi k, vi i] [] hp sz Q := by
  refine down (fun hp n L hq => ?_) (fun i hi ih hp n L hq => ?_)
  · refine x_iload_n (pc := 14) dX0_reverse_14 rfl ?_
    refine x_bipush (pc := 15) dX0_reverse_15 (by decide) ?_
    refine x_icmp_ge (pc := 17) (tgt := 38) dX0_reverse_17 (by decide) (by omega) (by omega) (fun c17 => ?_) (fun c17 => ?_)
    · refine x_vret (pc := 38) dX0_reverse_38 rfl (hq hp n Fr.rf L (fun j => by rw [if_neg (by omega)]))
    · exact absurd c17 (by omega)
  · obtain ⟨L1, L2, L3, L4, L5⟩ := id L
    refine x_iload_n (pc := 14) dX0_reverse_14 rfl ?_
    refine x_bipush (pc := 15) dX0_reverse_15 (by decide) ?_
    refine x_icmp_ge (pc := 17) (tgt := 38) dX0_reverse_17 (by decide) (by omega) (by omega) (fun c17 => ?_) (fun c17 => ?_)
    · exact absurd c17 (by omega)
    · refine x_aload_n (pc := 20) dX0_reverse_20 rfl ?_
      refine x_gf (pc := 21) dX0_reverse_21 fX0_15 (by assumption) (by omega) ?_
      refine x_iload_n (pc := 24) dX0_reverse_24 rfl ?_
      refine x_bipush (pc := 25) dX0_reverse_25 (by decide) ?_
      refine x_imul (pc := 27) dX0_reverse_27 ?_
      refine x_iload_n (pc := 28) dX0_reverse_28 rfl ?_
      refine x_iadd (pc := 29) dX0_reverse_29 ?_
      refine x_iconst (pc := 30) dX0_reverse_30 ?_
      refine x_is (pc := 31) (j := k * 16 + i) dX0_reverse_31 (by assumption) (by omega) (by omega) (by omega) ?_
      refine x_iinc (pc := 32) dX0_reverse_32 rfl (by decide) rfl ?_
      show Ex _ _ _ _ _ _ [_, _, _] _ _ _ _
      refine x_goto (pc := 35) (tgt := 14) dX0_reverse_35 (by decide) ?_
      exact ih _ _ (L.upn (n' := up n (k * 16 + i) 0)) (fun h n1 f1 l1 e1 => hq h n1 ((Fr.rf.up (by omega) (by omega)).tr f1) l1 (fun j => by
        rw [e1 j]
        by_cases h1 : j = k * 16 + i
        · subst h1; rw [if_neg (by omega), up_s, if_pos (by omega)]
        · rw [up_n _ _ h1]
          by_cases h2 : k * 16 + (i + 1) ≤ j ∧ j < k * 16 + 16
          · rw [if_pos h2, if_pos (by omega)]
          · rw [if_neg h2, if_neg (by omega)]))

theorem xr_nat {w k : Nat} (hw : w < 128) (hk : k < 7) : xr (w : Int) (2 ^ ((k : Int)).toNat) = ((w ^^^ 2 ^ k : Nat) : Int) := by
  rw [Int.toNat_natCast]
  have key : ∀ w : Nat, w < 128 → ∀ k : Nat, k < 7 → xr (w : Int) (2 ^ k) = ((w ^^^ 2 ^ k : Nat) : Int) := by decide +kernel
  exact key w hw k hk

set_option maxRecDepth 4000 in
theorem t_reverse {G : GL} {d : Nat} {hp : HP} {sz : Nat} {a : Nat} {s n : Nat → Int} {w : Nat} (L : Lay hp a s n w) (hz : a + 2 < sz) {k : Nat} (hk : k < 7) (hw : w < 128) : Ct G d 0 0 mX0_reverse [vr a, vi k] hp sz (Vd (fun h => Fr hp h a (a + 2) ∧ ∃ n1 w1, Lay h a s n1 w1 ∧ w1 = w ^^^ 2 ^ k ∧ ∀ j, n1 j = if k * 16 ≤ j ∧ j < k * 16 + 16 then 0 else n j) sz) := by
  show Ex _ _ _ _ _ _ [vr a, vi k, vu] _ _ _ _
  obtain ⟨L1, L2, L3, L4, L5⟩ := id L
  have hob := L.ob
  refine x_aload_n (pc := 0) dX0_reverse_0 rfl ?_
  refine x_dupr (pc := 1) dX0_reverse_1 ?_
  refine x_gf (pc := 2) dX0_reverse_2 fX0_18 (by assumption) (by omega) ?_
  refine x_iconst (pc := 5) dX0_reverse_5 ?_
  refine x_iload_n (pc := 6) dX0_reverse_6 rfl ?_
  refine x_ishl1 (pc := 7) dX0_reverse_7 (by omega) ?_
  refine x_ixor (pc := 8) dX0_reverse_8 ?_
  rw [xr_nat hw hk]
  refine x_pfi (pc := 9) dX0_reverse_9 pX0_18 (by assumption) (by omega) (fun hp9 hf9 => ?_)
  have La := L.pfw hf9
  obtain ⟨L1, L2, L3, L4, L5⟩ := id La
  refine x_iconst (pc := 12) dX0_reverse_12 ?_
  refine x_istore_n (pc := 13) dX0_reverse_13 (by decide) rfl ?_
  show Ex _ _ _ _ _ _ [_, _, _] _ _ _ _
  exact l_reverse hz hk 0 (by omega) _ _ La (fun h n1 f1 l1 e1 => ⟨rfl, rfl, (Fr.rf.pf hf9 (by omega) (by omega)).tr f1, n1, _, l1, rfl, e1⟩)
end
section
theorem l_pt2 {G : GL} {d : Nat} {sz a b k top left R C w w' : Nat} {s s' n' : Nat → Int} {Q : Option AV → HP → Nat → Prop} (hz : a + 2 < sz) (hy : b + 2 < sz) (hab : b + 2 < a ∨ a + 2 < b) (hk : k < 7) (hR : top + R ≤ 4) (hC : left + C ≤ 4) {i : Nat} (hi : i < R) : ∀ j, j ≤ C → ∀ (hp : HP) (n : Nat → Int), Lay hp a s n w → Lay hp b s' n' w' → (∀ h n1, Fr hp h a (a + 2) → Lay h a s n1 w → (∀ c, j ≤ c → c < C → n1 (k * 16 + (top + i) * 4 + (left + c)) = n' (k * 16 + i * 4 + c)) → (∀ x, (∀ c, j ≤ c → c < C → x ≠ k * 16 + (top + i) * 4 + (left + c)) → n1 x = n x) → Ex G (d + 1) 0 0 mX0_putTable 63 [vr a, vr b, vi k, vi top, vi left, vi R, vi C, vi i, vi C] [] h sz Q) → Ex G (d + 1) 0 0 mX0_putTable 27 [vr a, vr b, vi k, vi top, vi left, vi R, vi C, vi i, vi j] [] hp sz Q := by
  refine down (fun hp n L K hq => ?_) (fun j hj ih hp n L K hq => ?_)
  · refine x_iload (pc := 27) dX0_putTable_27 rfl ?_
    refine x_iload (pc := 29) dX0_putTable_29 rfl ?_
    refine x_icmp_ge (pc := 31) (tgt := 63) dX0_putTable_31 (by decide) (by omega) (by omega) (fun c31 => ?_) (fun c31 => ?_)
    · exact hq hp n Fr.rf L (fun c h1 h2 => absurd h2 (by omega)) (fun x _ => rfl)
    · exact absurd c31 (by omega)
  · have hob := L.ob
    have hkb := K.ob
    refine x_iload (pc := 27) dX0_putTable_27 rfl ?_
    refine x_iload (pc := 29) dX0_putTable_29 rfl ?_
    refine x_icmp_ge (pc := 31) (tgt := 63) dX0_putTable_31 (by decide) (by omega) (by omega) (fun c31 => ?_) (fun c31 => ?_)
    · exact absurd c31 (by omega)
    · refine x_aload_n (pc := 34) dX0_putTable_34 rfl ?_
      refine x_iload_n (pc := 35) dX0_putTable_35 rfl ?_
      refine x_iload_n (pc := 36) dX0_putTable_36 rfl ?_
      refine x_iload (pc := 37) dX0_putTable_37 rfl ?_
      refine x_iadd (pc := 39) dX0_putTable_39 ?_
      refine x_iload (pc := 40) dX0_putTable_40 rfl ?_
      refine x_iload (pc := 42) dX0_putTable_42 rfl ?_
      refine x_iadd (pc := 44) dX0_putTable_44 ?_
      refine x_aload_n (pc := 45) dX0_putTable_45 rfl ?_
      refine x_iload_n (pc := 46) dX0_putTable_46 rfl ?_
      refine x_iload (pc := 47) dX0_putTable_47 rfl ?_
      refine x_iload (pc := 49) dX0_putTable_49 rfl ?_
      refine x_w3 (pc := 51) dX0_putTable_51 wX0_number iX0_number kX0_45 (by decide) rfl (Nat.le_of_ble_eq_true rfl) (by assumption) (by omega) (t_number K hy hk (by omega) (by omega)) ?_
      refine x_p4 (pc := 54) dX0_putTable_54 wX0_put iX0_put kX0_55 (by decide) rfl (Nat.le_of_ble_eq_true rfl) (by assumption) (by omega) (t_put (r := top + i) (c := left + j) L hz hk (by omega) (by omega)) (fun h54 e54 => ?_)
      subst e54
      refine x_iinc (pc := 57) dX0_putTable_57 rfl (by decide) rfl ?_
      show Ex _ _ _ _ _ _ [_, _, _, _, _, _, _, _, _] _ _ _ _
      refine x_goto (pc := 60) (tgt := 27) dX0_putTable_60 (by decide) ?_
      exact ih _ _ L.upn (K.keep (fun x h1 h2 => up_n _ _ (by omega))) (fun h n1 f1 l1 e1 e2 => hq h n1 ((Fr.rf.up (by omega) (by omega)).tr f1) l1 (fun c h1 h2 => by
        by_cases hc : c = j
        · subst hc
          rw [e2 _ (fun c' h3 h4 => by omega), up_s]
        · exact e1 c (by omega) h2) (fun x hx => by
        rw [e2 x (fun c h3 h4 => hx c (by omega) h4), up_n _ _ (hx j (by omega) hj)]))
theorem l_pt1 {G : GL} {d : Nat} {sz a b k top left R C w w' : Nat} {s s' n' : Nat → Int} {Q : Option AV → HP → Nat → Prop} (hz : a + 2 < sz) (hy : b + 2 < sz) (hab : b + 2 < a ∨ a + 2 < b) (hk : k < 7) (hR : top + R ≤ 4) (hC : left + C ≤ 4) : ∀ i, i ≤ R → ∀ (hp : HP) (n : Nat → Int) (v8 : AV), Lay hp a s n w → Lay hp b s' n' w' → (∀ h n1, Fr hp h a (a + 2) → Lay h a s n1 w → (∀ r c, i ≤ r → r < R → c < C → n1 (k * 16 + (top + r) * 4 + (left + c)) = n' (k * 16 + r * 4 + c)) → (∀ x, (∀ r c, i ≤ r → r < R → c < C → x ≠ k * 16 + (top + r) * 4 + (left + c)) → n1 x = n x) → Q none h sz) → Ex G (d + 1) 0 0 mX0_putTable 17 [vr a, vr b, vi k, vi top, vi left, vi R, vi C, vi i, v8] [] hp sz Q := by
  refine down (fun hp n v8 L K hq => ?_) (fun i hi ih hp n v8 L K hq => ?_)
  · refine x_iload (pc := 17) dX0_putTable_17 rfl ?_
    refine x_iload (pc := 19) dX0_putTable_19 rfl ?_
    refine x_icmp_ge (pc := 21) (tgt := 69) dX0_putTable_21 (by decide) (by omega) (by omega) (fun c21 => ?_) (fun c21 => ?_)
    · refine x_vret (pc := 69) dX0_putTable_69 rfl (hq hp n Fr.rf L (fun r c h1 h2 => absurd h2 (by omega)) (fun x _ => rfl))
    · exact absurd c21 (by omega)
  · refine x_iload (pc := 17) dX0_putTable_17 rfl ?_
    refine x_iload (pc := 19) dX0_putTable_19 rfl ?_
    refine x_icmp_ge (pc := 21) (tgt := 69) dX0_putTable_21 (by decide) (by omega) (by omega) (fun c21 => ?_) (fun c21 => ?_)
    · exact absurd c21 (by omega)
    · refine x_iconst (pc := 24) dX0_putTable_24 ?_
      refine x_istore (pc := 25) dX0_putTable_25 (by decide) rfl ?_
      show Ex _ _ _ _ _ _ [_, _, _, _, _, _, _, _, _] _ _ _ _
      refine l_pt2 hz hy hab hk hR hC hi 0 (by omega) hp n L K (fun h n1 f1 l1 e1 e2 => ?_)
      have K1 := K.keep (hp' := h) (fun x h1 h2 => f1 x (by omega))
      refine x_iinc (pc := 63) dX0_putTable_63 rfl (by decide) rfl ?_
      show Ex _ _ _ _ _ _ [_, _, _, _, _, _, _, _, _] _ _ _ _
      refine x_goto (pc := 66) (tgt := 17) dX0_putTable_66 (by decide) ?_
      exact ih h n1 _ l1 K1 (fun h2 n2 f2 l2 g1 g2 => hq h2 n2 (f1.tr f2) l2 (fun r c h3 h4 h5 => by
        by_cases hr : r = i
        · subst hr
          rw [g2 _ (fun r' c' h6 h7 h8 => by omega)]
          exact e1 c (by omega) h5
        · exact g1 r c (by omega) h4 h5) (fun x hx => by
        rw [g2 x (fun r c h3 h4 h5 => hx r c (by omega) h4 h5), e2 x (fun c h3 h4 => hx i c (by omega) hi h4)]))

set_option maxRecDepth 4000 in
theorem t_putTable {G : GL} {d : Nat} {hp : HP} {sz : Nat} {a : Nat} {s n : Nat → Int} {w : Nat} (L : Lay hp a s n w) (hz : a + 2 < sz) {b k top left w' R C : Nat} {s' n' : Nat → Int} (K : Lay hp b s' n' w') (hy : b + 2 < sz) (hab : b + 2 < a ∨ a + 2 < b) (hk : k < 7) (hw : w' < 128) (eR : s' (if w'.testBit k then k else k + 1) = R) (eC : s' (if w'.testBit k then k + 1 else k) = C) (hR : top + R ≤ 4) (hC : left + C ≤ 4) : Ct G (d + 3) 0 0 mX0_putTable [vr a, vr b, vi k, vi top, vi left] hp sz (Vd (fun h => Fr hp h a (a + 2) ∧ ∃ n1, Lay h a s n1 w ∧ (∀ r c, r < R → c < C → n1 (k * 16 + (top + r) * 4 + (left + c)) = n' (k * 16 + r * 4 + c)) ∧ (∀ x, (∀ r c, r < R → c < C → x ≠ k * 16 + (top + r) * 4 + (left + c)) → n1 x = n x)) sz) := by
  show Ex _ _ _ _ _ _ [vr a, vr b, vi k, vi top, vi left, vu, vu, vu, vu] _ _ _ _
  have hob := L.ob
  have hkb := K.ob
  refine x_aload_n (pc := 0) dX0_putTable_0 rfl ?_
  refine x_iload_n (pc := 1) dX0_putTable_1 rfl ?_
  refine x_w1 (pc := 2) dX0_putTable_2 wX0_rowsOf iX0_rowsOf kX0_49 (by decide) rfl (Nat.le_of_ble_eq_true rfl) (by assumption) (by omega) (t_rowsOf K hy hk hw) ?_
  rw [eR]
  refine x_istore (pc := 5) dX0_putTable_5 (by decide) rfl ?_
  show Ex _ _ _ _ _ _ [_, _, _, _, _, _, _, _, _] _ _ _ _
  refine x_aload_n (pc := 7) dX0_putTable_7 rfl ?_
  refine x_iload_n (pc := 8) dX0_putTable_8 rfl ?_
  refine x_w1 (pc := 9) dX0_putTable_9 wX0_columnsOf iX0_columnsOf kX0_52 (by decide) rfl (Nat.le_of_ble_eq_true rfl) (by assumption) (by omega) (t_columnsOf K hy hk hw) ?_
  rw [eC]
  refine x_istore (pc := 12) dX0_putTable_12 (by decide) rfl ?_
  show Ex _ _ _ _ _ _ [_, _, _, _, _, _, _, _, _] _ _ _ _
  refine x_iconst (pc := 14) dX0_putTable_14 ?_
  refine x_istore (pc := 15) dX0_putTable_15 (by decide) rfl ?_
  show Ex _ _ _ _ _ _ [_, _, _, _, _, _, _, _, _] _ _ _ _
  exact l_pt1 hz hy hab hk hR hC 0 (by omega) hp n _ L K (fun h n1 f1 l1 e1 e2 => ⟨rfl, rfl, f1, n1, l1, fun r c h1 h2 => e1 r c (by omega) h1 h2, fun x hx => e2 x (fun r c _ h1 h2 => hx r c h1 h2)⟩)
end
section
/-! Rows at b: the outer array at b + 1, four rows at b + 2 .. b + 5 in some order, headRows at b + 6 -/
def RowsB (hp : HP) (b p : Nat) (M : Nat → Nat → Int) (hd : Nat → Int) (c w : Nat) (g : Nat → Option Nat) (σ : Nat → Nat) : Prop :=
  fld hp b 3 0 (vi p) ∧ fld hp b 3 1 (vr (b + 1)) ∧ fld hp b 3 2 (vr (b + 6)) ∧ fld hp b 3 3 (vi c) ∧ fld hp b 3 4 (vi w) ∧ hp (b + 6) = ar 0 8 hd ∧ hp (b + 1) = rr 5 4 g ∧
  (∀ i, i < 4 → g i = some (σ i) ∧ b + 2 ≤ σ i ∧ σ i ≤ b + 5 ∧ hp (σ i) = ar 0 8 (M i)) ∧ ∀ i j, i < 4 → j < 4 → σ i = σ j → i = j
def RowsA (hp : HP) (b p : Nat) (M : Nat → Nat → Int) (hd : Nat → Int) (c w : Nat) : Prop := ∃ g σ, RowsB hp b p M hd c w g σ
theorem RowsB.keep {hp hp' : HP} {b p c w : Nat} {M : Nat → Nat → Int} {hd : Nat → Int} {g : Nat → Option Nat} {σ : Nat → Nat} (h : RowsB hp b p M hd c w g σ) (e : ∀ x, b ≤ x → x ≤ b + 6 → hp' x = hp x) : RowsB hp' b p M hd c w g σ := by
  obtain ⟨h1, h2, h3, h4, h5, h6, h7, h8, h9⟩ := h
  have e0 := e b (by omega) (by omega)
  refine ⟨h1.keep e0, h2.keep e0, h3.keep e0, h4.keep e0, h5.keep e0, (e _ (by omega) (by omega)).trans h6, (e _ (by omega) (by omega)).trans h7, fun i hi => ?_, h9⟩
  obtain ⟨a1, a2, a3, a4⟩ := h8 i hi
  exact ⟨a1, a2, a3, (e _ (by omega) (by omega)).trans a4⟩
theorem RowsA.keep {hp hp' : HP} {b p c w : Nat} {M : Nat → Nat → Int} {hd : Nat → Int} (h : RowsA hp b p M hd c w) (e : ∀ x, b ≤ x → x ≤ b + 6 → hp' x = hp x) : RowsA hp' b p M hd c w := by
  obtain ⟨g, σ, h⟩ := h
  exact ⟨g, σ, h.keep e⟩
theorem RowsB.row {hp : HP} {b p c w i : Nat} {M : Nat → Nat → Int} {hd f : Nat → Int} {g : Nat → Option Nat} {σ : Nat → Nat} (h : RowsB hp b p M hd c w g σ) (hi : i < 4) : RowsB (up hp (σ i) (ar 0 8 f)) b p (up M i f) hd c w g σ := by
  obtain ⟨h1, h2, h3, h4, h5, h6, h7, h8, h9⟩ := h
  obtain ⟨a1, a2, a3, a4⟩ := h8 i hi
  refine ⟨h1.up (by omega), h2.up (by omega), h3.up (by omega), h4.up (by omega), h5.up (by omega), (up_n _ _ (by omega)).trans h6, (up_n _ _ (by omega)).trans h7, fun j hj => ?_, h9⟩
  obtain ⟨b1, b2, b3, b4⟩ := h8 j hj
  refine ⟨b1, b2, b3, ?_⟩
  by_cases e : j = i
  · subst e
    rw [up_s, up_s]
  · rw [up_n _ _ e, up_n _ _ (fun z => e (h9 j i hj hi z))]
    exact b4
theorem RowsB.hds {hp : HP} {b p c w : Nat} {M : Nat → Nat → Int} {hd f : Nat → Int} {g : Nat → Option Nat} {σ : Nat → Nat} (h : RowsB hp b p M hd c w g σ) : RowsB (up hp (b + 6) (ar 0 8 f)) b p M f c w g σ := by
  obtain ⟨h1, h2, h3, h4, h5, h6, h7, h8, h9⟩ := h
  refine ⟨h1.up (by omega), h2.up (by omega), h3.up (by omega), h4.up (by omega), h5.up (by omega), up_s _ _ _, (up_n _ _ (by omega)).trans h7, fun j hj => ?_, h9⟩
  obtain ⟨b1, b2, b3, b4⟩ := h8 j hj
  exact ⟨b1, b2, b3, (up_n _ _ (by omega)).trans b4⟩
theorem RowsB.pfc {hp hp' : HP} {b p c w c' : Nat} {M : Nat → Nat → Int} {hd : Nat → Int} {g : Nat → Option Nat} {σ : Nat → Nat} (h : RowsB hp b p M hd c w g σ) (e : pf hp b 3 3 (vi c') hp') : RowsB hp' b p M hd c' w g σ := by
  obtain ⟨h1, h2, h3, h4, h5, h6, h7, h8, h9⟩ := h
  refine ⟨e.2.2 _ _ (by decide) h1, e.2.2 _ _ (by decide) h2, e.2.2 _ _ (by decide) h3, e.2.1, e.2.2 _ _ (by decide) h5, (e.1 _ (by omega)).trans h6, (e.1 _ (by omega)).trans h7, fun j hj => ?_, h9⟩
  obtain ⟨b1, b2, b3, b4⟩ := h8 j hj
  exact ⟨b1, b2, b3, (e.1 _ (by omega)).trans b4⟩
theorem RowsB.pfw {hp hp' : HP} {b p c w c' : Nat} {M : Nat → Nat → Int} {hd : Nat → Int} {g : Nat → Option Nat} {σ : Nat → Nat} (h : RowsB hp b p M hd c w g σ) (e : pf hp b 3 4 (vi c') hp') : RowsB hp' b p M hd c c' g σ := by
  obtain ⟨h1, h2, h3, h4, h5, h6, h7, h8, h9⟩ := h
  refine ⟨e.2.2 _ _ (by decide) h1, e.2.2 _ _ (by decide) h2, e.2.2 _ _ (by decide) h3, e.2.2 _ _ (by decide) h4, e.2.1, (e.1 _ (by omega)).trans h6, (e.1 _ (by omega)).trans h7, fun j hj => ?_, h9⟩
  obtain ⟨b1, b2, b3, b4⟩ := h8 j hj
  exact ⟨b1, b2, b3, (e.1 _ (by omega)).trans b4⟩
theorem RowsB.lt {hp : HP} {b p c w i : Nat} {M : Nat → Nat → Int} {hd : Nat → Int} {g : Nat → Option Nat} {σ : Nat → Nat} (h : RowsB hp b p M hd c w g σ) (hi : i < 4) : g i = some (σ i) ∧ b + 2 ≤ σ i ∧ σ i ≤ b + 5 ∧ hp (σ i) = ar 0 8 (M i) := h.2.2.2.2.2.2.2.1 i hi
theorem RowsA.ob {hp : HP} {b p c w : Nat} {M : Nat → Nat → Int} {hd : Nat → Int} (h : RowsA hp b p M hd c w) : isob hp b 3 := by
  obtain ⟨g, σ, h⟩ := h
  exact h.1.ob

set_option maxRecDepth 4000 in
theorem t_Rnumber {G : GL} {d : Nat} {hp : HP} {sz : Nat} {b p c w : Nat} {M : Nat → Nat → Int} {hd : Nat → Int} (R : RowsA hp b p M hd c w) (hz : b + 6 < sz) {i j : Nat} (hi : i < 4) (hj : j < 8) : Ct G d 0 0 mX3_number [vr b, vi i, vi j] hp sz (Rd (some (vi (M i j))) hp sz) := by
  show Ex _ _ _ _ _ _ [vr b, vi i, vi j] _ _ _ _
  have hob := R.ob
  obtain ⟨g, σ, R⟩ := R
  obtain ⟨R1, R2, R3, R4, R5, R6, R7, R8, R9⟩ := id R
  obtain ⟨a1, a2, a3, a4⟩ := R.lt (i := i) (by omega)
  refine x_aload_n (pc := 0) dX3_number_0 rfl ?_
  refine x_gf (pc := 1) dX3_number_1 fX3_11 (by assumption) (by omega) ?_
  refine x_iload_n (pc := 4) dX3_number_4 rfl ?_
  refine x_al (pc := 5) dX3_number_5 (by assumption) (by omega) rfl (by omega) (by assumption) ?_
  refine x_iload_n (pc := 6) dX3_number_6 rfl ?_
  refine x_il (pc := 7) dX3_number_7 (by assumption) (by omega) rfl (by omega) ?_
  refine x_iret (pc := 8) dX3_number_8 rfl ⟨rfl, rfl, rfl⟩

set_option maxRecDepth 4000 in
theorem t_Rput {G : GL} {d : Nat} {hp : HP} {sz : Nat} {b p c w : Nat} {M : Nat → Nat → Int} {hd : Nat → Int} (R : RowsA hp b p M hd c w) (hz : b + 6 < sz) {i j : Nat} {x : Int} (hi : i < 4) (hj : j < 8) : Ct G d 0 0 mX3_put [vr b, vi i, vi j, vi x] hp sz (Vd (fun h => Fr hp h b (b + 6) ∧ RowsA h b p (up M i (up (M i) j x)) hd c w) sz) := by
  show Ex _ _ _ _ _ _ [vr b, vi i, vi j, vi x] _ _ _ _
  have hob := R.ob
  obtain ⟨g, σ, R⟩ := R
  obtain ⟨R1, R2, R3, R4, R5, R6, R7, R8, R9⟩ := id R
  obtain ⟨a1, a2, a3, a4⟩ := R.lt (i := i) (by omega)
  refine x_aload_n (pc := 0) dX3_put_0 rfl ?_
  refine x_gf (pc := 1) dX3_put_1 fX3_11 (by assumption) (by omega) ?_
  refine x_iload_n (pc := 4) dX3_put_4 rfl ?_
  refine x_al (pc := 5) dX3_put_5 (by assumption) (by omega) rfl (by omega) (by assumption) ?_
  refine x_iload_n (pc := 6) dX3_put_6 rfl ?_
  refine x_iload_n (pc := 7) dX3_put_7 rfl ?_
  refine x_is (pc := 8) dX3_put_8 (by assumption) (by omega) rfl (by omega) ?_
  refine x_vret (pc := 9) dX3_put_9 rfl ⟨rfl, rfl, Fr.rf.up (by omega) (by omega), _, _, R.row hi⟩

set_option maxRecDepth 4000 in
theorem t_isFree {G : GL} {d : Nat} {hp : HP} {sz : Nat} {b p c w : Nat} {M : Nat → Nat → Int} {hd : Nat → Int} (R : RowsA hp b p M hd c w) (hz : b + 6 < sz) {j : Nat} (hj : j < 8) (hr : -1 ≤ hd j ∧ hd j < 4) : Ct G d 0 0 mX3_isFree [vr b, vi j] hp sz (Rd (some (vi (bz (decide (hd j = -1))))) hp sz) := by
  show Ex _ _ _ _ _ _ [vr b, vi j] _ _ _ _
  have hob := R.ob
  obtain ⟨g, σ, R⟩ := R
  obtain ⟨R1, R2, R3, R4, R5, R6, R7, R8, R9⟩ := id R
  refine x_aload_n (pc := 0) dX3_isFree_0 rfl ?_
  refine x_gf (pc := 1) dX3_isFree_1 fX3_16 (by assumption) (by omega) ?_
  refine x_iload_n (pc := 4) dX3_isFree_4 rfl ?_
  refine x_il (pc := 5) dX3_isFree_5 (by assumption) (by omega) rfl (by omega) ?_
  refine x_iconst (pc := 6) dX3_isFree_6 ?_
  refine x_icmp_ne (pc := 7) (tgt := 14) dX3_isFree_7 (by decide) (by omega) (by omega) (fun c7 => ?_) (fun c7 => ?_)
  · refine x_iconst (pc := 14) dX3_isFree_14 ?_
    refine x_zret (pc := 15) dX3_isFree_15 rfl (by omega) ⟨by simp [bz, c7], rfl, rfl⟩
  · refine x_iconst (pc := 10) dX3_isFree_10 ?_
    refine x_goto (pc := 11) (tgt := 15) dX3_isFree_11 (by decide) ?_
    refine x_zret (pc := 15) dX3_isFree_15 rfl (by omega) ⟨by simp [bz, c7], rfl, rfl⟩

set_option maxRecDepth 4000 in
theorem t_freeCount {G : GL} {d : Nat} {hp : HP} {sz : Nat} {b p c w : Nat} {M : Nat → Nat → Int} {hd : Nat → Int} (R : RowsA hp b p M hd c w) (hz : b + 6 < sz) : Ct G d 0 0 mX3_freeCount [vr b] hp sz (Rd (some (vi ((w : Int) - c))) hp sz) := by
  show Ex _ _ _ _ _ _ [vr b] _ _ _ _
  have hob := R.ob
  obtain ⟨g, σ, R⟩ := R
  obtain ⟨R1, R2, R3, R4, R5, R6, R7, R8, R9⟩ := id R
  refine x_aload_n (pc := 0) dX3_freeCount_0 rfl ?_
  refine x_gf (pc := 1) dX3_freeCount_1 fX3_33 (by assumption) (by omega) ?_
  refine x_aload_n (pc := 4) dX3_freeCount_4 rfl ?_
  refine x_gf (pc := 5) dX3_freeCount_5 fX3_30 (by assumption) (by omega) ?_
  refine x_isub (pc := 8) dX3_freeCount_8 ?_
  refine x_iret (pc := 9) dX3_freeCount_9 rfl ⟨rfl, rfl, rfl⟩

set_option maxRecDepth 4000 in
theorem t_rest {G : GL} {d : Nat} {hp : HP} {sz : Nat} {b p c w : Nat} {M : Nat → Nat → Int} {hd : Nat → Int} (R : RowsA hp b p M hd c w) (hz : b + 6 < sz) {i j : Nat} (hi : i < 8) (hj : j < 8) (hr : -1 ≤ hd i ∧ hd i < 4) (hm : ∀ r : Nat, r < 4 → hd i = (r : Int) → 0 ≤ M r j ∧ M r j < p) (hp13 : p ≤ 13) : Ct G d 0 0 mX3_rest [vr b, vi i, vi j] hp sz (Rd (some (vi (if i = j then 1 else if hd i = -1 then 0 else if M (hd i).toNat j = 0 then 0 else p - M (hd i).toNat j))) hp sz) := by
  show Ex _ _ _ _ _ _ [vr b, vi i, vi j, vu] _ _ _ _
  have hob := R.ob
  obtain ⟨g, σ, R⟩ := R
  obtain ⟨R1, R2, R3, R4, R5, R6, R7, R8, R9⟩ := id R
  refine x_iload_n (pc := 0) dX3_rest_0 rfl ?_
  refine x_iload_n (pc := 1) dX3_rest_1 rfl ?_
  refine x_icmp_ne (pc := 2) (tgt := 7) dX3_rest_2 (by decide) (by omega) (by omega) (fun c2 => ?_) (fun c2 => ?_)
  · refine x_aload_n (pc := 7) dX3_rest_7 rfl ?_
    refine x_gf (pc := 8) dX3_rest_8 fX3_16 (by assumption) (by omega) ?_
    refine x_iload_n (pc := 11) dX3_rest_11 rfl ?_
    refine x_il (pc := 12) dX3_rest_12 (by assumption) (by omega) rfl (by omega) ?_
    refine x_istore_n (pc := 13) dX3_rest_13 (by decide) rfl ?_
    show Ex _ _ _ _ _ _ [_, _, _, _] _ _ _ _
    refine x_iload_n (pc := 14) dX3_rest_14 rfl ?_
    refine x_iconst (pc := 15) dX3_rest_15 ?_
    refine x_icmp_eq (pc := 16) (tgt := 30) dX3_rest_16 (by decide) (by omega) (by omega) (fun c16 => ?_) (fun c16 => ?_)
    · first | (have h8 : hd i = -1 := by omega) | (have h8 : hd i ≠ -1 := by omega)
      refine x_iconst (pc := 30) dX3_rest_30 ?_
      refine x_goto (pc := 31) (tgt := 47) dX3_rest_31 (by decide) ?_
      refine x_iret (pc := 47) dX3_rest_47 rfl (by first | (refine ⟨?_, rfl, rfl⟩; rw [if_neg (by omega), if_pos (by omega)]) | (refine ⟨?_, rfl, rfl⟩; rw [if_neg (by omega), if_neg (by omega), if_pos (by omega)]) | (refine ⟨?_, rfl, rfl⟩; rw [if_neg (by omega), if_neg (by omega), if_neg (by omega)]))
    · have hh : hd i = (((hd i).toNat : Nat) : Int) := by omega
      obtain ⟨a1, a2, a3, a4⟩ := R.lt (i := (hd i).toNat) (by omega)
      have hm9 := hm (hd i).toNat (by omega) hh
      refine x_aload_n (pc := 19) dX3_rest_19 rfl ?_
      refine x_gf (pc := 20) dX3_rest_20 fX3_11 (by assumption) (by omega) ?_
      refine x_iload_n (pc := 23) dX3_rest_23 rfl ?_
      refine x_al (pc := 24) (j := (hd i).toNat) dX3_rest_24 (by assumption) (by omega) (by omega) (by omega) (by assumption) ?_
      refine x_iload_n (pc := 25) dX3_rest_25 rfl ?_
      refine x_il (pc := 26) dX3_rest_26 (by assumption) (by omega) rfl (by omega) ?_
      refine x_if_ne (pc := 27) (tgt := 34) dX3_rest_27 (by decide) (by omega) (fun c27 => ?_) (fun c27 => ?_)
      · refine x_aload_n (pc := 34) dX3_rest_34 rfl ?_
        refine x_gf (pc := 35) dX3_rest_35 fX3_20 (by assumption) (by omega) ?_
        refine x_aload_n (pc := 38) dX3_rest_38 rfl ?_
        refine x_gf (pc := 39) dX3_rest_39 fX3_11 (by assumption) (by omega) ?_
        refine x_iload_n (pc := 42) dX3_rest_42 rfl ?_
        refine x_al (pc := 43) (j := (hd i).toNat) dX3_rest_43 (by assumption) (by omega) (by omega) (by omega) (by assumption) ?_
        refine x_iload_n (pc := 44) dX3_rest_44 rfl ?_
        refine x_il (pc := 45) dX3_rest_45 (by assumption) (by omega) rfl (by omega) ?_
        refine x_isub (pc := 46) dX3_rest_46 ?_
        refine x_iret (pc := 47) dX3_rest_47 rfl (by first | (refine ⟨?_, rfl, rfl⟩; rw [if_neg (by omega), if_pos (by omega)]) | (refine ⟨?_, rfl, rfl⟩; rw [if_neg (by omega), if_neg (by omega), if_pos (by omega)]) | (refine ⟨?_, rfl, rfl⟩; rw [if_neg (by omega), if_neg (by omega), if_neg (by omega)]))
      · first | (have h8 : hd i = -1 := by omega) | (have h8 : hd i ≠ -1 := by omega)
        refine x_iconst (pc := 30) dX3_rest_30 ?_
        refine x_goto (pc := 31) (tgt := 47) dX3_rest_31 (by decide) ?_
        refine x_iret (pc := 47) dX3_rest_47 rfl (by first | (refine ⟨?_, rfl, rfl⟩; rw [if_neg (by omega), if_pos (by omega)]) | (refine ⟨?_, rfl, rfl⟩; rw [if_neg (by omega), if_neg (by omega), if_pos (by omega)]) | (refine ⟨?_, rfl, rfl⟩; rw [if_neg (by omega), if_neg (by omega), if_neg (by omega)]))
  · refine x_iconst (pc := 5) dX3_rest_5 ?_
    refine x_iret (pc := 6) dX3_rest_6 rfl ⟨by rw [if_pos (by omega)], rfl, rfl⟩

set_option maxRecDepth 4000 in
theorem t_start {G : GL} {d : Nat} {hp : HP} {sz : Nat} {b p c w : Nat} {M : Nat → Nat → Int} {hd : Nat → Int} (R : RowsA hp b p M hd c w) (hz : b + 6 < sz) {x y : Nat} (hx : x < 1000) (hy : y < 1000) : Ct G (d + 1) 0 0 mX3_start [vr b, vi x, vi y] hp sz (Vd (fun h => Fr hp h b (b + 6) ∧ ∃ hd1, RowsA h b p M hd1 (min x 4) (min y 8) ∧ ∀ j, j < 8 → hd1 j = -1) sz) := by
  show Ex _ _ _ _ _ _ [vr b, vi x, vi y] _ _ _ _
  have hob := R.ob
  obtain ⟨g, σ, R⟩ := R
  obtain ⟨R1, R2, R3, R4, R5, R6, R7, R8, R9⟩ := id R
  refine x_aload_n (pc := 0) dX3_start_0 rfl ?_
  refine x_iload_n (pc := 1) dX3_start_1 rfl ?_
  refine x_iconst (pc := 2) dX3_start_2 ?_
  refine x_t2 (pc := 3) dX3_start_3 wJ9_min_7cf53 sJ9_min_7cf53 kX3_24 (by decide) rfl (Nat.le_of_ble_eq_true rfl) (t_min (by omega) (by omega)) ?_
  rw [show min (x : Int) 4 = ((min x 4 : Nat) : Int) by omega]
  refine x_pfi (pc := 6) dX3_start_6 pX3_30 hob (by omega) (fun hp6 hf6 => ?_)
  have Ra := R.pfc hf6
  have hob2 := (hf6.2.1).ob
  refine x_aload_n (pc := 9) dX3_start_9 rfl ?_
  refine x_iload_n (pc := 10) dX3_start_10 rfl ?_
  refine x_bipush (pc := 11) dX3_start_11 (by decide) ?_
  refine x_t2 (pc := 13) dX3_start_13 wJ9_min_7cf53 sJ9_min_7cf53 kX3_24 (by decide) rfl (Nat.le_of_ble_eq_true rfl) (t_min (by omega) (by omega)) ?_
  rw [show min (y : Int) 8 = ((min y 8 : Nat) : Int) by omega]
  refine x_pfi (pc := 16) dX3_start_16 pX3_33 hob2 (by omega) (fun hp16 hf16 => ?_)
  have Rb := Ra.pfw hf16
  obtain ⟨R1, R2, R3, R4, R5, R6, R7, R8, R9⟩ := id Rb
  refine x_aload_n (pc := 19) dX3_start_19 rfl ?_
  refine x_gf (pc := 20) dX3_start_20 fX3_16 (by assumption) (by omega) ?_
  refine x_iconst (pc := 23) dX3_start_23 ?_
  refine x_q2 (pc := 24) dX3_start_24 wJ7_fill_53178 sJ7_fill_53178 kX3_36 (by decide) rfl (Nat.le_of_ble_eq_true rfl) (t_fill R6 (by omega) (by omega)) (fun h24 e24 => ?_)
  subst e24
  refine x_vret (pc := 27) dX3_start_27 rfl ⟨rfl, rfl, ((Fr.rf.pf hf6 (by omega) (by omega)).pf hf16 (by omega) (by omega)).up (by omega) (by omega), _, ⟨_, _, Rb.hds⟩, fun j hj => if_pos hj⟩
end
section
def isP (p : Nat) : Prop := p = 2 ∨ p = 3 ∨ p = 5 ∨ p = 7 ∨ p = 11 ∨ p = 13
def inP (M : Nat → Nat → Int) (p : Nat) : Prop := ∀ i j, i < 4 → j < 8 → 0 ≤ M i j ∧ M i j < p
theorem isP.le {p : Nat} (h : isP p) : 2 ≤ p ∧ p ≤ 13 := by
  rcases h with rfl | rfl | rfl | rfl | rfl | rfl <;> decide
theorem RowsB.cg {hp : HP} {b p c w : Nat} {M M' : Nat → Nat → Int} {hd : Nat → Int} {g : Nat → Option Nat} {σ : Nat → Nat} (h : RowsB hp b p M hd c w g σ) (e : ∀ i, i < 4 → M i = M' i) : RowsB hp b p M' hd c w g σ := by
  obtain ⟨h1, h2, h3, h4, h5, h6, h7, h8, h9⟩ := h
  refine ⟨h1, h2, h3, h4, h5, h6, h7, fun i hi => ?_, h9⟩
  obtain ⟨a1, a2, a3, a4⟩ := h8 i hi
  exact ⟨a1, a2, a3, by rw [a4, e i hi]⟩
def swp (M : Nat → Nat → Int) (r k : Nat) : Nat → Nat → Int := fun i => if i = r then M k else if i = k then M r else M i
def scl (p w : Nat) (M : Nat → Nat → Int) (k : Nat) (x : Int) (pl : Nat) : Nat → Nat → Int := fun i j => if i = k ∧ pl ≤ j ∧ j < w then (M i j * x) % p else M i j
def clr (p w c : Nat) (M : Nat → Nat → Int) (k pl : Nat) : Nat → Nat → Int := fun i j => if i < c ∧ i ≠ k ∧ M i pl ≠ 0 ∧ pl ≤ j ∧ j < w then (M i j + (p - M i pl) * M k j) % p else M i j
theorem tm {x : Int} {p : Nat} (h : 0 ≤ x) : x.tmod p = x % p := Int.tmod_eq_emod_of_nonneg h
theorem mul13 {x y : Int} {p : Nat} (hp : p ≤ 13) (hx : 0 ≤ x ∧ x < p) (hy : 0 ≤ y ∧ y ≤ p) : 0 ≤ x * y ∧ x * y ≤ 169 := by
  refine ⟨Int.mul_nonneg hx.1 hy.1, ?_⟩
  have h1 : x * y ≤ 13 * y := Int.mul_le_mul_of_nonneg_right (by omega) hy.1
  omega
theorem emod_rg {x : Int} {p : Nat} (hp : 0 < p) : 0 ≤ x % p ∧ x % p < p := ⟨Int.emod_nonneg _ (by omega), Int.emod_lt_of_pos _ (by omega)⟩

theorem l_rwn {G : GL} {d : Nat} {hp : HP} {sz : Nat} {b p c w : Nat} {hd : Nat → Int} {g : Nat → Option Nat} {σ : Nat → Nat} {M : Nat → Nat → Int} {pl f0 : Nat} {Q : Option AV → HP → Nat → Prop} (R : RowsB hp b p M hd c w g σ) (hz : b + 6 < sz) (hc : c ≤ 4) (hpl : pl < 8) (hM : inP M p) (hp13 : p ≤ 13) : ∀ r, r ≤ c → (∀ v : Int, (∃ k : Nat, v = (k : Int) ∧ r ≤ k ∧ k < c ∧ M k pl ≠ 0 ∧ ∀ i, r ≤ i → i < k → M i pl = 0) ∨ (v = -1 ∧ ∀ i, r ≤ i → i < c → M i pl = 0) → Q (some (vi v)) hp sz) → Ex G d 0 0 mX3_rowWithNumber 2 [vr b, vi pl, vi f0, vi r] [] hp sz Q := by
  obtain ⟨R1, R2, R3, R4, R5, R6, R7, R8, R9⟩ := id R
  refine down (fun hq => ?_) (fun r hr ih hq => ?_)
  · refine x_iload_n (pc := 2) dX3_rowWithNumber_2 rfl ?_
    refine x_aload_n (pc := 3) dX3_rowWithNumber_3 rfl ?_
    refine x_gf (pc := 4) dX3_rowWithNumber_4 fX3_30 (by assumption) (by omega) ?_
    refine x_icmp_ge (pc := 7) (tgt := 29) dX3_rowWithNumber_7 (by decide) (by omega) (by omega) (fun c7 => ?_) (fun c7 => ?_)
    · refine x_iconst (pc := 29) dX3_rowWithNumber_29 ?_
      refine x_iret (pc := 30) dX3_rowWithNumber_30 rfl (hq (-1) (Or.inr ⟨rfl, fun i h1 h2 => absurd h2 (by omega)⟩))
    · exact absurd c7 (by omega)
  · obtain ⟨a1, a2, a3, a4⟩ := R.lt (i := r) (by omega)
    refine x_iload_n (pc := 2) dX3_rowWithNumber_2 rfl ?_
    refine x_aload_n (pc := 3) dX3_rowWithNumber_3 rfl ?_
    refine x_gf (pc := 4) dX3_rowWithNumber_4 fX3_30 (by assumption) (by omega) ?_
    refine x_icmp_ge (pc := 7) (tgt := 29) dX3_rowWithNumber_7 (by decide) (by omega) (by omega) (fun c7 => ?_) (fun c7 => ?_)
    · exact absurd c7 (by omega)
    · refine x_aload_n (pc := 10) dX3_rowWithNumber_10 rfl ?_
      refine x_gf (pc := 11) dX3_rowWithNumber_11 fX3_11 (by assumption) (by omega) ?_
      refine x_iload_n (pc := 14) dX3_rowWithNumber_14 rfl ?_
      refine x_al (pc := 15) dX3_rowWithNumber_15 (by assumption) (by omega) rfl (by omega) (by assumption) ?_
      refine x_iload_n (pc := 16) dX3_rowWithNumber_16 rfl ?_
      refine x_il (pc := 17) dX3_rowWithNumber_17 (by assumption) (by omega) rfl (by omega) ?_
      refine x_if_eq (pc := 18) (tgt := 23) dX3_rowWithNumber_18 (by decide) (by have := hM r pl (by omega) hpl; omega) (fun c18 => ?_) (fun c18 => ?_)
      · refine x_iinc (pc := 23) dX3_rowWithNumber_23 rfl (by decide) rfl ?_
        show Ex _ _ _ _ _ _ [_, _, _, _] _ _ _ _
        refine x_goto (pc := 26) (tgt := 2) dX3_rowWithNumber_26 (by decide) ?_
        exact ih (fun v hv => hq v (by
          rcases hv with ⟨k, e1, e2, e3, e4, e5⟩ | ⟨e1, e2⟩
          · refine Or.inl ⟨k, e1, by omega, e3, e4, fun i h1 h2 => ?_⟩
            by_cases hh : i = r
            · rw [hh]; exact c18
            · exact e5 i (by omega) h2
          · refine Or.inr ⟨e1, fun i h1 h2 => ?_⟩
            by_cases hh : i = r
            · rw [hh]; exact c18
            · exact e2 i (by omega) h2))
      · refine x_iload_n (pc := 21) dX3_rowWithNumber_21 rfl ?_
        refine x_iret (pc := 22) dX3_rowWithNumber_22 rfl (hq r (Or.inl ⟨r, rfl, Nat.le_refl _, hr, c18, fun i h1 h2 => absurd h2 (by omega)⟩))

set_option maxRecDepth 4000 in
theorem t_rwn {G : GL} {d : Nat} {hp : HP} {sz : Nat} {b p c w : Nat} {M : Nat → Nat → Int} {hd : Nat → Int} (R : RowsA hp b p M hd c w) (hz : b + 6 < sz) {pl f0 : Nat} (hc : c ≤ 4) (hpl : pl < 8) (hM : inP M p) (hp13 : p ≤ 13) (hf : f0 ≤ c) : Ct G d 0 0 mX3_rowWithNumber [vr b, vi pl, vi f0] hp sz (Vs (fun v h => h = hp ∧ ∃ x : Int, v = vi x ∧ (let v := x; (∃ k : Nat, v = (k : Int) ∧ f0 ≤ k ∧ k < c ∧ M k pl ≠ 0 ∧ ∀ i, f0 ≤ i → i < k → M i pl = 0) ∨ (v = -1 ∧ ∀ i, f0 ≤ i → i < c → M i pl = 0))) sz) := by
  show Ex _ _ _ _ _ _ [vr b, vi pl, vi f0, vu] _ _ _ _
  obtain ⟨g, σ, R⟩ := R
  refine x_iload_n (pc := 0) dX3_rowWithNumber_0 rfl ?_
  refine x_istore_n (pc := 1) dX3_rowWithNumber_1 (by decide) rfl ?_
  show Ex _ _ _ _ _ _ [_, _, _, _] _ _ _ _
  exact l_rwn R hz hc hpl hM hp13 f0 hf (fun v hv => ⟨_, rfl, rfl, rfl, v, rfl, hv⟩)

theorem RowsB.swap {hp : HP} {b p c w i k : Nat} {M : Nat → Nat → Int} {hd : Nat → Int} {g : Nat → Option Nat} {σ : Nat → Nat} (h : RowsB hp b p M hd c w g σ) (hi : i < 4) (hk : k < 4) : RowsA (up (up hp (b + 1) (rr 5 4 (up g i (some (σ k))))) (b + 1) (rr 5 4 (up (up g i (some (σ k))) k (some (σ i))))) b p (swp M i k) hd c w := by
  obtain ⟨h1, h2, h3, h4, h5, h6, h7, h8, h9⟩ := h
  rw [up_up]
  refine ⟨_, fun j => if j = k then σ i else if j = i then σ k else σ j, h1.up (by omega), h2.up (by omega), h3.up (by omega), h4.up (by omega), h5.up (by omega), (up_n _ _ (by omega)).trans h6, up_s _ _ _, fun j hj => ?_, fun x y hx hy hxy => ?_⟩
  · obtain ⟨a1, a2, a3, a4⟩ := h8 i hi
    obtain ⟨b1, b2, b3, b4⟩ := h8 k hk
    obtain ⟨c1, c2, c3, c4⟩ := h8 j hj
    by_cases e1 : j = k
    · subst e1
      refine ⟨by simp [up], by simp only [if_true]; omega, by simp only [if_true]; omega, ?_⟩
      simp only [if_true]
      rw [up_n _ _ (by omega), a4]
      by_cases e2 : j = i
      · subst e2
        simp [swp]
      · simp [swp, e2]
    · by_cases e2 : j = i
      · subst e2
        refine ⟨by simp [up, e1], by simp only [if_neg e1, if_true]; omega, by simp only [if_neg e1, if_true]; omega, ?_⟩
        simp only [if_neg e1, if_true]
        rw [up_n _ _ (by omega), b4]
        simp [swp]
      · refine ⟨by simp [up, e1, e2, c1], by simp only [if_neg e1, if_neg e2]; omega, by simp only [if_neg e1, if_neg e2]; omega, ?_⟩
        simp only [if_neg e1, if_neg e2]
        rw [up_n _ _ (by omega), c4]
        simp [swp, e1, e2]
  · have e : ∀ j, (if j = k then σ i else if j = i then σ k else σ j) = σ (if j = k then i else if j = i then k else j) := fun j => by
      by_cases e1 : j = k
      · simp only [if_pos e1]
      · by_cases e2 : j = i
        · simp only [if_neg e1, if_pos e2]
        · simp only [if_neg e1, if_neg e2]
    have hlt : ∀ j, j < 4 → (if j = k then i else if j = i then k else j) < 4 := fun j hj => by
      split
      · exact hi
      · split
        · exact hk
        · exact hj
    have hxy' : σ (if x = k then i else if x = i then k else x) = σ (if y = k then i else if y = i then k else y) := by
      rw [← e, ← e]
      exact hxy
    have h := h9 _ _ (hlt x hx) (hlt y hy) hxy'
    split at h <;> split at h <;> (try split at h) <;> (try split at h) <;> omega

set_option maxRecDepth 4000 in
theorem t_swap {G : GL} {d : Nat} {hp : HP} {sz : Nat} {b p c w : Nat} {M : Nat → Nat → Int} {hd : Nat → Int} (R : RowsA hp b p M hd c w) (hz : b + 6 < sz) {i k : Nat} (hi : i < 4) (hk : k < 4) : Ct G d 0 0 mX3_swap [vr b, vi i, vi k] hp sz (Vd (fun h => Fr hp h b (b + 6) ∧ RowsA h b p (swp M i k) hd c w) sz) := by
  show Ex _ _ _ _ _ _ [vr b, vi i, vi k, vu] _ _ _ _
  have hob := R.ob
  obtain ⟨g, σ, R⟩ := R
  obtain ⟨R1, R2, R3, R4, R5, R6, R7, R8, R9⟩ := id R
  obtain ⟨a1, a2, a3, a4⟩ := R.lt (i := i) (by omega)
  obtain ⟨a1', a2', a3', a4'⟩ := R.lt (i := k) (by omega)
  refine x_aload_n (pc := 0) dX3_swap_0 rfl ?_
  refine x_gf (pc := 1) dX3_swap_1 fX3_11 (by assumption) (by omega) ?_
  refine x_iload_n (pc := 4) dX3_swap_4 rfl ?_
  refine x_al (pc := 5) dX3_swap_5 (by assumption) (by omega) rfl (by omega) (by assumption) ?_
  refine x_astore_n (pc := 6) dX3_swap_6 (by decide) rfl ?_
  show Ex _ _ _ _ _ _ [_, _, _, _] _ _ _ _
  refine x_aload_n (pc := 7) dX3_swap_7 rfl ?_
  refine x_gf (pc := 8) dX3_swap_8 fX3_11 (by assumption) (by omega) ?_
  refine x_iload_n (pc := 11) dX3_swap_11 rfl ?_
  refine x_aload_n (pc := 12) dX3_swap_12 rfl ?_
  refine x_gf (pc := 13) dX3_swap_13 fX3_11 (by assumption) (by omega) ?_
  refine x_iload_n (pc := 16) dX3_swap_16 rfl ?_
  refine x_al (pc := 17) dX3_swap_17 (by assumption) (by omega) rfl (by omega) (by assumption) ?_
  refine x_as (pc := 18) dX3_swap_18 (by assumption) (by omega) rfl (by omega) (by omega) (by rw [a4']; exact rfl) ?_
  have R2' := R2.up (b := b + 1) (x := rr 5 4 (up g i (some (σ k)))) (by omega)
  have R7' := up_s hp (b + 1) (rr 5 4 (up g i (some (σ k))))
  refine x_aload_n (pc := 19) dX3_swap_19 rfl ?_
  refine x_gf (pc := 20) dX3_swap_20 fX3_11 (by assumption) (by omega) ?_
  refine x_iload_n (pc := 23) dX3_swap_23 rfl ?_
  refine x_aload_n (pc := 24) dX3_swap_24 rfl ?_
  refine x_as (pc := 25) dX3_swap_25 (by assumption) (by omega) rfl (by omega) (by omega) (by rw [up_n _ _ (by omega), a4]; exact rfl) ?_
  refine x_vret (pc := 26) dX3_swap_26 rfl ⟨rfl, rfl, (Fr.rf.up (by omega) (by omega)).up (by omega) (by omega), R.swap hi hk⟩

theorem l_inv {G : GL} {d : Nat} {hp : HP} {sz : Nat} {b p c w : Nat} {hd : Nat → Int} {g : Nat → Option Nat} {σ : Nat → Nat} {M : Nat → Nat → Int} {v : Int} {Q : Option AV → HP → Nat → Prop} (R : RowsB hp b p M hd c w g σ) (hz : b + 6 < sz) (hp13 : p ≤ 13) (hv : 0 ≤ v ∧ v < p) (hq : ∀ x : Nat, (x : Int) < p → ((x : Int) * v) % p = 1 → Q (some (vi x)) hp sz) : ∀ k, k ≤ p → (∃ x : Nat, k ≤ x ∧ x < p ∧ ((x : Int) * v) % p = 1) → Ex G d 0 0 mX3_inverse 2 [vr b, vi v, vi k] [] hp sz Q := by
  obtain ⟨R1, R2, R3, R4, R5, R6, R7, R8, R9⟩ := id R
  refine down (fun hex => ?_) (fun k hk ih hex => ?_)
  · refine x_iload_n (pc := 2) dX3_inverse_2 rfl ?_
    refine x_aload_n (pc := 3) dX3_inverse_3 rfl ?_
    refine x_gf (pc := 4) dX3_inverse_4 fX3_20 (by assumption) (by omega) ?_
    refine x_icmp_ge (pc := 7) (tgt := 30) dX3_inverse_7 (by decide) (by omega) (by omega) (fun c7 => ?_) (fun c7 => ?_)
    · refine x_iconst (pc := 30) dX3_inverse_30 ?_
      refine x_iret (pc := 31) dX3_inverse_31 rfl (absurd hex (by rintro ⟨x, h1, h2, h3⟩; omega))
    · exact absurd c7 (by omega)
  · refine x_iload_n (pc := 2) dX3_inverse_2 rfl ?_
    refine x_aload_n (pc := 3) dX3_inverse_3 rfl ?_
    refine x_gf (pc := 4) dX3_inverse_4 fX3_20 (by assumption) (by omega) ?_
    refine x_icmp_ge (pc := 7) (tgt := 30) dX3_inverse_7 (by decide) (by omega) (by omega) (fun c7 => ?_) (fun c7 => ?_)
    · exact absurd c7 (by omega)
    · refine x_iload_n (pc := 10) dX3_inverse_10 rfl ?_
      refine x_iload_n (pc := 11) dX3_inverse_11 rfl ?_
      refine x_imul (pc := 12) dX3_inverse_12 ?_
      refine x_aload_n (pc := 13) dX3_inverse_13 rfl ?_
      refine x_gf (pc := 14) dX3_inverse_14 fX3_20 (by assumption) (by omega) ?_
      have hm9 := mul13 hp13 (x := (k : Int)) (y := v) ⟨by omega, by omega⟩ ⟨by omega, by omega⟩
      refine x_irem (pc := 17) dX3_inverse_17 (by omega) (by omega) ?_
      rw [tm hm9.1]
      have hr9 := emod_rg (x := (k : Int) * v) (p := p) (by omega)
      refine x_iconst (pc := 18) dX3_inverse_18 ?_
      refine x_icmp_ne (pc := 19) (tgt := 24) dX3_inverse_19 (by decide) (by omega) (by omega) (fun c19 => ?_) (fun c19 => ?_)
      · refine x_iinc (pc := 24) dX3_inverse_24 rfl (by decide) rfl ?_
        show Ex _ _ _ _ _ _ [_, _, _] _ _ _ _
        refine x_goto (pc := 27) (tgt := 2) dX3_inverse_27 (by decide) ?_
        exact ih (by obtain ⟨x, h1, h2, h3⟩ := hex; refine ⟨x, ?_, h2, h3⟩; by_cases e : x = k; (subst e; exact absurd h3 c19); omega)
      · refine x_iload_n (pc := 22) dX3_inverse_22 rfl ?_
        refine x_iret (pc := 23) dX3_inverse_23 rfl (hq k c7 c19)
theorem inv_ex : ∀ p, p < 14 → isP p → ∀ v : Nat, v < p → 0 < v → ∃ x : Nat, x < p ∧ 1 ≤ x ∧ (x * v) % p = 1 := by
  have key : ∀ p ∈ [2, 3, 5, 7, 11, 13], ∀ v, v < p → 0 < v → ∃ x, x < p ∧ 1 ≤ x ∧ (x * v) % p = 1 := by decide +kernel
  intro p _ hp
  exact key p (by rcases hp with rfl | rfl | rfl | rfl | rfl | rfl <;> simp)
theorem inv_exI {p : Nat} (hp : isP p) {v : Int} (h0 : 0 < v) (h1 : v < p) : ∃ x : Nat, 1 ≤ x ∧ x < p ∧ ((x : Int) * v) % p = 1 := by
  obtain ⟨x, a1, a2, a3⟩ := inv_ex p (by have := hp.le; omega) hp v.toNat (by omega) (by omega)
  refine ⟨x, a2, a1, ?_⟩
  have : ((x * v.toNat % p : Nat) : Int) = 1 := by rw [a3]; rfl
  rw [Int.natCast_emod, Int.natCast_mul, show ((v.toNat : Nat) : Int) = v by omega] at this
  exact this

set_option maxRecDepth 4000 in
theorem t_inv {G : GL} {d : Nat} {hp : HP} {sz : Nat} {b p c w : Nat} {M : Nat → Nat → Int} {hd : Nat → Int} (R : RowsA hp b p M hd c w) (hz : b + 6 < sz) {v : Int} (hP : isP p) (hv : 0 < v ∧ v < p) : Ct G d 0 0 mX3_inverse [vr b, vi v] hp sz (Vs (fun r h => h = hp ∧ ∃ x : Nat, r = vi x ∧ (x : Int) < p ∧ ((x : Int) * v) % p = 1) sz) := by
  show Ex _ _ _ _ _ _ [vr b, vi v, vu] _ _ _ _
  obtain ⟨g, σ, R⟩ := R
  refine x_iconst (pc := 0) dX3_inverse_0 ?_
  refine x_istore_n (pc := 1) dX3_inverse_1 (by decide) rfl ?_
  show Ex _ _ _ _ _ _ [_, _, _] _ _ _ _
  exact l_inv R hz hP.le.2 ⟨by omega, hv.2⟩ (fun x h1 h2 => ⟨_, rfl, rfl, rfl, x, rfl, h1, h2⟩) 1 (by have := hP.le; omega) (inv_exI hP hv.1 hv.2)

theorem l_scale {G : GL} {d : Nat} {sz : Nat} {b p c w : Nat} {hd : Nat → Int} {g : Nat → Option Nat} {σ : Nat → Nat} {r f0 : Nat} {f : Int} {Q : Option AV → HP → Nat → Prop} (hz : b + 6 < sz) (hr : r < 4) (hw : w ≤ 8) (hp13 : p ≤ 13) (hp0 : 0 < p) (hf : 0 ≤ f ∧ f < p) : ∀ i, i ≤ w → ∀ (hp : HP) (M : Nat → Nat → Int), RowsB hp b p M hd c w g σ → inP M p → (∀ h M1, Fr hp h b (b + 6) → RowsB h b p M1 hd c w g σ → (∀ x j, M1 x j = scl p w M r f i x j) → Q none h sz) → Ex G d 0 0 mX3_scale 17 [vr b, vi r, vi f, vi f0, vr (σ r), vi i] [] hp sz Q := by
  refine down (fun hp M R hM hq => ?_) (fun i hi ih hp M R hM hq => ?_)
  · obtain ⟨R1, R2, R3, R4, R5, R6, R7, R8, R9⟩ := id R
    obtain ⟨a1, a2, a3, a4⟩ := R.lt (i := r) hr
    refine x_iload (pc := 17) dX3_scale_17 rfl ?_
    refine x_aload_n (pc := 19) dX3_scale_19 rfl ?_
    refine x_gf (pc := 20) dX3_scale_20 fX3_33 (by assumption) (by omega) ?_
    refine x_icmp_ge (pc := 23) (tgt := 49) dX3_scale_23 (by decide) (by omega) (by omega) (fun c23 => ?_) (fun c23 => ?_)
    · refine x_vret (pc := 49) dX3_scale_49 rfl (hq hp M Fr.rf R (fun x j => by rw [scl, if_neg (by omega)]))
    · exact absurd c23 (by omega)
  · obtain ⟨R1, R2, R3, R4, R5, R6, R7, R8, R9⟩ := id R
    obtain ⟨a1, a2, a3, a4⟩ := R.lt (i := r) hr
    refine x_iload (pc := 17) dX3_scale_17 rfl ?_
    refine x_aload_n (pc := 19) dX3_scale_19 rfl ?_
    refine x_gf (pc := 20) dX3_scale_20 fX3_33 (by assumption) (by omega) ?_
    refine x_icmp_ge (pc := 23) (tgt := 49) dX3_scale_23 (by decide) (by omega) (by omega) (fun c23 => ?_) (fun c23 => ?_)
    · exact absurd c23 (by omega)
    · refine x_aload (pc := 26) dX3_scale_26 rfl ?_
      refine x_iload (pc := 28) dX3_scale_28 rfl ?_
      refine x_aload (pc := 30) dX3_scale_30 rfl ?_
      refine x_iload (pc := 32) dX3_scale_32 rfl ?_
      refine x_il (pc := 34) dX3_scale_34 (by assumption) (by omega) rfl (by omega) ?_
      refine x_iload_n (pc := 35) dX3_scale_35 rfl ?_
      refine x_imul (pc := 36) dX3_scale_36 ?_
      refine x_aload_n (pc := 37) dX3_scale_37 rfl ?_
      refine x_gf (pc := 38) dX3_scale_38 fX3_20 (by assumption) (by omega) ?_
      have hm9 := mul13 hp13 (hM r i hr (by omega)) ⟨hf.1, by omega⟩
      refine x_irem (pc := 41) dX3_scale_41 (by omega) (by omega) ?_
      rw [tm hm9.1]
      refine x_is (pc := 42) dX3_scale_42 (by assumption) (by omega) rfl (by omega) ?_
      refine x_iinc (pc := 43) dX3_scale_43 rfl (by decide) rfl ?_
      show Ex _ _ _ _ _ _ [_, _, _, _, _, _] _ _ _ _
      refine x_goto (pc := 46) (tgt := 17) dX3_scale_46 (by decide) ?_
      exact ih _ _ (R.row (f := up (M r) i ((M r i * f) % p)) hr) (fun x j hx hj => by
        by_cases e : x = r
        · subst e
          rw [up_s]
          by_cases e2 : j = i
          · subst e2; rw [up_s]; exact emod_rg (by omega)
          · rw [up_n _ _ e2]; exact hM x j hx hj
        · rw [up_n _ _ e]; exact hM x j hx hj) (fun h M1 f1 r1 e1 => hq h M1 ((Fr.rf.up (by omega) (by omega)).tr f1) r1 (fun x j => by
        rw [e1 x j]
        by_cases e : x = r
        · subst e
          unfold scl
          rw [up_s]
          by_cases e2 : j = i
          · subst e2
            rw [up_s, if_neg (by omega), if_pos ⟨rfl, by omega, by omega⟩]
          · rw [up_n _ _ e2]
            by_cases e3 : i + 1 ≤ j ∧ j < w
            · rw [if_pos ⟨rfl, e3⟩, if_pos ⟨rfl, by omega, by omega⟩]
            · rw [if_neg (by omega), if_neg (by omega)]
        · simp only [scl, up_n _ _ e, if_neg (show ¬ (x = r ∧ _) from fun z => e z.1)]))

set_option maxRecDepth 4000 in
theorem t_scale {G : GL} {d : Nat} {hp : HP} {sz : Nat} {b p c w : Nat} {M : Nat → Nat → Int} {hd : Nat → Int} (R : RowsA hp b p M hd c w) (hz : b + 6 < sz) {r f0 : Nat} {f : Int} (hr : r < 4) (hw : w ≤ 8) (hP : isP p) (hM : inP M p) (hf : 0 ≤ f ∧ f < p) (hf0 : f0 ≤ w) : Ct G d 0 0 mX3_scale [vr b, vi r, vi f, vi f0] hp sz (Vd (fun h => Fr hp h b (b + 6) ∧ RowsA h b p (scl p w M r f f0) hd c w) sz) := by
  show Ex _ _ _ _ _ _ [vr b, vi r, vi f, vi f0, vu, vu] _ _ _ _
  have hp13 := hP.le
  have hob := R.ob
  obtain ⟨g, σ, R⟩ := R
  obtain ⟨R1, R2, R3, R4, R5, R6, R7, R8, R9⟩ := id R
  obtain ⟨a1, a2, a3, a4⟩ := R.lt (i := r) (by omega)
  refine x_iload_n (pc := 0) dX3_scale_0 rfl ?_
  refine x_iconst (pc := 1) dX3_scale_1 ?_
  refine x_icmp_ne (pc := 2) (tgt := 6) dX3_scale_2 (by decide) (by omega) (by omega) (fun c2 => ?_) (fun c2 => ?_)
  · refine x_aload_n (pc := 6) dX3_scale_6 rfl ?_
    refine x_gf (pc := 7) dX3_scale_7 fX3_11 (by assumption) (by omega) ?_
    refine x_iload_n (pc := 10) dX3_scale_10 rfl ?_
    refine x_al (pc := 11) dX3_scale_11 (by assumption) (by omega) rfl (by omega) (by assumption) ?_
    refine x_astore (pc := 12) dX3_scale_12 (by decide) rfl ?_
    show Ex _ _ _ _ _ _ [_, _, _, _, _, _] _ _ _ _
    refine x_iload_n (pc := 14) dX3_scale_14 rfl ?_
    refine x_istore (pc := 15) dX3_scale_15 (by decide) rfl ?_
    show Ex _ _ _ _ _ _ [_, _, _, _, _, _] _ _ _ _
    exact l_scale hz hr hw hp13.2 (by omega) hf f0 hf0 hp M R hM (fun h M1 f1 r1 e1 => ⟨rfl, rfl, f1, g, σ, r1.cg (fun i _ => funext fun j => e1 i j)⟩)
  · refine x_vret (pc := 5) dX3_scale_5 rfl ⟨rfl, rfl, Fr.rf, g, σ, R.cg (fun i hi => funext fun j => by
      unfold scl
      by_cases e : i = r ∧ f0 ≤ j ∧ j < w
      · rw [if_pos e, c2, Int.mul_one, Int.emod_eq_of_lt (hM i j hi (by omega)).1 (hM i j hi (by omega)).2]
      · rw [if_neg e])⟩
end
