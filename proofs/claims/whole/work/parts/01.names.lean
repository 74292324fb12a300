-- ===== PART A: goes FIRST, ahead of the names: the tables' words, and 'selects' of the private methods out of them =====
/-- a private method of a class that the tables say can be made, by its rows of tables_1 -/
def lw_okq (q : MethodName × Nat) : Prop := (q.1.cls ≠ "java/lang/invoke/MethodHandle" ∧ q.1.cls ≠ "java/lang/invoke/VarHandle") ∧ Cond.instantiable q.1.cls q.2 ∈ tables_1 ∧ Cond.privateMethod q.1 ∈ tables_1 ∧ Cond.instanceMethod q.1 ∈ tables_1
theorem lw_p0 : lw_okq (⟨"ExactEstimates", "latest", "()I"⟩, 14) := ⟨⟨by decide +kernel, by decide +kernel⟩, List.mem_of_getElem? (i := 9) (by decide +kernel), List.mem_of_getElem? (i := 225) (by decide +kernel), List.mem_of_getElem? (i := 226) (by decide +kernel)⟩
theorem lw_p1 : lw_okq (⟨"ExactEstimates$Belief", "turn", "(LExactEstimates$Belief;IIII)V"⟩, 9) := ⟨⟨by decide +kernel, by decide +kernel⟩, List.mem_of_getElem? (i := 57) (by decide +kernel), List.mem_of_getElem? (i := 280) (by decide +kernel), List.mem_of_getElem? (i := 281) (by decide +kernel)⟩
theorem lw_p2 : lw_okq (⟨"ExactEstimates$Belief", "moveScales", "(LExactEstimates$Belief;II)V"⟩, 9) := ⟨⟨by decide +kernel, by decide +kernel⟩, List.mem_of_getElem? (i := 57) (by decide +kernel), List.mem_of_getElem? (i := 293) (by decide +kernel), List.mem_of_getElem? (i := 294) (by decide +kernel)⟩
theorem lw_p3 : lw_okq (⟨"ExactEstimates", "find", "(III)Z"⟩, 14) := ⟨⟨by decide +kernel, by decide +kernel⟩, List.mem_of_getElem? (i := 9) (by decide +kernel), List.mem_of_getElem? (i := 317) (by decide +kernel), List.mem_of_getElem? (i := 318) (by decide +kernel)⟩
theorem lw_p4 : lw_okq (⟨"ExactEstimates", "findOfObservation", "(II)Z"⟩, 14) := ⟨⟨by decide +kernel, by decide +kernel⟩, List.mem_of_getElem? (i := 9) (by decide +kernel), List.mem_of_getElem? (i := 321) (by decide +kernel), List.mem_of_getElem? (i := 322) (by decide +kernel)⟩
theorem lw_p5 : lw_okq (⟨"ExactEstimates", "beliefOf", "(II)LExactEstimates$Belief;"⟩, 14) := ⟨⟨by decide +kernel, by decide +kernel⟩, List.mem_of_getElem? (i := 9) (by decide +kernel), List.mem_of_getElem? (i := 327) (by decide +kernel), List.mem_of_getElem? (i := 328) (by decide +kernel)⟩
theorem lw_p6 : lw_okq (⟨"ExactEstimates", "lookBackTo", "(I)V"⟩, 14) := ⟨⟨by decide +kernel, by decide +kernel⟩, List.mem_of_getElem? (i := 9) (by decide +kernel), List.mem_of_getElem? (i := 331) (by decide +kernel), List.mem_of_getElem? (i := 332) (by decide +kernel)⟩
theorem lw_p7 : lw_okq (⟨"ExactEstimates$Whole", "addProduct", "(LExactEstimates$Whole;LExactEstimates$Whole;)V"⟩, 1) := ⟨⟨by decide +kernel, by decide +kernel⟩, List.mem_of_getElem? (i := 63) (by decide +kernel), List.mem_of_getElem? (i := 356) (by decide +kernel), List.mem_of_getElem? (i := 357) (by decide +kernel)⟩
theorem lw_p8 : lw_okq (⟨"ExactEstimates", "reduce", "()V"⟩, 14) := ⟨⟨by decide +kernel, by decide +kernel⟩, List.mem_of_getElem? (i := 9) (by decide +kernel), List.mem_of_getElem? (i := 374) (by decide +kernel), List.mem_of_getElem? (i := 375) (by decide +kernel)⟩
theorem lw_p9 : lw_okq (⟨"ExactEstimates", "dropCommonTwos", "()V"⟩, 14) := ⟨⟨by decide +kernel, by decide +kernel⟩, List.mem_of_getElem? (i := 9) (by decide +kernel), List.mem_of_getElem? (i := 380) (by decide +kernel), List.mem_of_getElem? (i := 381) (by decide +kernel)⟩
theorem lw_p10 : lw_okq (⟨"ExactEstimates", "oddCommonDivisor", "()LExactEstimates$Whole;"⟩, 14) := ⟨⟨by decide +kernel, by decide +kernel⟩, List.mem_of_getElem? (i := 9) (by decide +kernel), List.mem_of_getElem? (i := 395) (by decide +kernel), List.mem_of_getElem? (i := 396) (by decide +kernel)⟩
theorem lw_p11 : lw_okq (⟨"ExactEstimates$Whole", "takeTimes", "(LExactEstimates$Whole;JI)V"⟩, 1) := ⟨⟨by decide +kernel, by decide +kernel⟩, List.mem_of_getElem? (i := 63) (by decide +kernel), List.mem_of_getElem? (i := 418) (by decide +kernel), List.mem_of_getElem? (i := 419) (by decide +kernel)⟩
theorem lw_p12 : lw_okq (⟨"ExactEstimates$Whole", "hasBit", "(I)Z"⟩, 1) := ⟨⟨by decide +kernel, by decide +kernel⟩, List.mem_of_getElem? (i := 63) (by decide +kernel), List.mem_of_getElem? (i := 426) (by decide +kernel), List.mem_of_getElem? (i := 427) (by decide +kernel)⟩
theorem lw_p13 : lw_okq (⟨"ExactEstimatesModel", "begin", "(IIIII)V"⟩, 11) := ⟨⟨by decide +kernel, by decide +kernel⟩, List.mem_of_getElem? (i := 445) (by decide +kernel), List.mem_of_getElem? (i := 451) (by decide +kernel), List.mem_of_getElem? (i := 452) (by decide +kernel)⟩
theorem lw_p14 : lw_okq (⟨"ExactEstimatesModel", "put", "(II)V"⟩, 11) := ⟨⟨by decide +kernel, by decide +kernel⟩, List.mem_of_getElem? (i := 445) (by decide +kernel), List.mem_of_getElem? (i := 455) (by decide +kernel), List.mem_of_getElem? (i := 456) (by decide +kernel)⟩
theorem lw_p15 : lw_okq (⟨"ExactEstimatesModel", "keep", "(II)V"⟩, 11) := ⟨⟨by decide +kernel, by decide +kernel⟩, List.mem_of_getElem? (i := 445) (by decide +kernel), List.mem_of_getElem? (i := 460) (by decide +kernel), List.mem_of_getElem? (i := 461) (by decide +kernel)⟩
def lw_privs_1 : List (MethodName × Nat) := [(⟨"ExactEstimates", "latest", "()I"⟩, 14), (⟨"ExactEstimates$Belief", "turn", "(LExactEstimates$Belief;IIII)V"⟩, 9), (⟨"ExactEstimates$Belief", "moveScales", "(LExactEstimates$Belief;II)V"⟩, 9), (⟨"ExactEstimates", "find", "(III)Z"⟩, 14), (⟨"ExactEstimates", "findOfObservation", "(II)Z"⟩, 14), (⟨"ExactEstimates", "beliefOf", "(II)LExactEstimates$Belief;"⟩, 14), (⟨"ExactEstimates", "lookBackTo", "(I)V"⟩, 14), (⟨"ExactEstimates$Whole", "addProduct", "(LExactEstimates$Whole;LExactEstimates$Whole;)V"⟩, 1), (⟨"ExactEstimates", "reduce", "()V"⟩, 14), (⟨"ExactEstimates", "dropCommonTwos", "()V"⟩, 14), (⟨"ExactEstimates", "oddCommonDivisor", "()LExactEstimates$Whole;"⟩, 14), (⟨"ExactEstimates$Whole", "takeTimes", "(LExactEstimates$Whole;JI)V"⟩, 1), (⟨"ExactEstimates$Whole", "hasBit", "(I)Z"⟩, 1), (⟨"ExactEstimatesModel", "begin", "(IIIII)V"⟩, 11), (⟨"ExactEstimatesModel", "put", "(II)V"⟩, 11), (⟨"ExactEstimatesModel", "keep", "(II)V"⟩, 11)]
theorem lw_r1 : ∀ q ∈ lw_privs_1, lw_okq q := List.forall_mem_cons.mpr ⟨lw_p0, List.forall_mem_cons.mpr ⟨lw_p1, List.forall_mem_cons.mpr ⟨lw_p2, List.forall_mem_cons.mpr ⟨lw_p3, List.forall_mem_cons.mpr ⟨lw_p4, List.forall_mem_cons.mpr ⟨lw_p5, List.forall_mem_cons.mpr ⟨lw_p6, List.forall_mem_cons.mpr ⟨lw_p7, List.forall_mem_cons.mpr ⟨lw_p8, List.forall_mem_cons.mpr ⟨lw_p9, List.forall_mem_cons.mpr ⟨lw_p10, List.forall_mem_cons.mpr ⟨lw_p11, List.forall_mem_cons.mpr ⟨lw_p12, List.forall_mem_cons.mpr ⟨lw_p13, List.forall_mem_cons.mpr ⟨lw_p14, List.forall_mem_cons.mpr ⟨lw_p15, fun _ h => absurd h List.not_mem_nil⟩⟩⟩⟩⟩⟩⟩⟩⟩⟩⟩⟩⟩⟩⟩⟩
theorem lw_p16 : lw_okq (⟨"ExactEstimatesModel", "copy", "(II)V"⟩, 11) := ⟨⟨by decide +kernel, by decide +kernel⟩, List.mem_of_getElem? (i := 445) (by decide +kernel), List.mem_of_getElem? (i := 464) (by decide +kernel), List.mem_of_getElem? (i := 465) (by decide +kernel)⟩
theorem lw_p17 : lw_okq (⟨"ExactEstimatesModel", "gains", "(IIII)V"⟩, 11) := ⟨⟨by decide +kernel, by decide +kernel⟩, List.mem_of_getElem? (i := 445) (by decide +kernel), List.mem_of_getElem? (i := 524) (by decide +kernel), List.mem_of_getElem? (i := 525) (by decide +kernel)⟩
theorem lw_p18 : lw_okq (⟨"ExactEstimatesModel", "scale", "(III)V"⟩, 11) := ⟨⟨by decide +kernel, by decide +kernel⟩, List.mem_of_getElem? (i := 445) (by decide +kernel), List.mem_of_getElem? (i := 528) (by decide +kernel), List.mem_of_getElem? (i := 529) (by decide +kernel)⟩
theorem lw_p19 : lw_okq (⟨"ExactEstimatesModel", "digitOf", "(II)I"⟩, 11) := ⟨⟨by decide +kernel, by decide +kernel⟩, List.mem_of_getElem? (i := 445) (by decide +kernel), List.mem_of_getElem? (i := 532) (by decide +kernel), List.mem_of_getElem? (i := 533) (by decide +kernel)⟩
theorem lw_p20 : lw_okq (⟨"ExactEstimatesModel", "store", "(III)V"⟩, 11) := ⟨⟨by decide +kernel, by decide +kernel⟩, List.mem_of_getElem? (i := 445) (by decide +kernel), List.mem_of_getElem? (i := 536) (by decide +kernel), List.mem_of_getElem? (i := 537) (by decide +kernel)⟩
theorem lw_p21 : lw_okq (⟨"ExactEstimatesModel", "gain", "(IIII)V"⟩, 11) := ⟨⟨by decide +kernel, by decide +kernel⟩, List.mem_of_getElem? (i := 445) (by decide +kernel), List.mem_of_getElem? (i := 540) (by decide +kernel), List.mem_of_getElem? (i := 541) (by decide +kernel)⟩
theorem lw_p22 : lw_okq (⟨"ExactEstimatesModel", "sum", "(IIII)V"⟩, 11) := ⟨⟨by decide +kernel, by decide +kernel⟩, List.mem_of_getElem? (i := 445) (by decide +kernel), List.mem_of_getElem? (i := 544) (by decide +kernel), List.mem_of_getElem? (i := 545) (by decide +kernel)⟩
theorem lw_p23 : lw_okq (⟨"ExactEstimatesModel", "against", "(II)I"⟩, 11) := ⟨⟨by decide +kernel, by decide +kernel⟩, List.mem_of_getElem? (i := 445) (by decide +kernel), List.mem_of_getElem? (i := 549) (by decide +kernel), List.mem_of_getElem? (i := 550) (by decide +kernel)⟩
theorem lw_p24 : lw_okq (⟨"ExactEstimatesModel", "times", "(III)V"⟩, 11) := ⟨⟨by decide +kernel, by decide +kernel⟩, List.mem_of_getElem? (i := 445) (by decide +kernel), List.mem_of_getElem? (i := 553) (by decide +kernel), List.mem_of_getElem? (i := 554) (by decide +kernel)⟩
theorem lw_p25 : lw_okq (⟨"ExactEstimatesModel", "join", "(IIIII)V"⟩, 11) := ⟨⟨by decide +kernel, by decide +kernel⟩, List.mem_of_getElem? (i := 445) (by decide +kernel), List.mem_of_getElem? (i := 557) (by decide +kernel), List.mem_of_getElem? (i := 558) (by decide +kernel)⟩
theorem lw_p26 : lw_okq (⟨"ExactEstimatesModel", "shrink", "(II)V"⟩, 11) := ⟨⟨by decide +kernel, by decide +kernel⟩, List.mem_of_getElem? (i := 445) (by decide +kernel), List.mem_of_getElem? (i := 561) (by decide +kernel), List.mem_of_getElem? (i := 562) (by decide +kernel)⟩
theorem lw_p27 : lw_okq (⟨"ExactEstimatesModel", "common", "(IIII)V"⟩, 11) := ⟨⟨by decide +kernel, by decide +kernel⟩, List.mem_of_getElem? (i := 445) (by decide +kernel), List.mem_of_getElem? (i := 565) (by decide +kernel), List.mem_of_getElem? (i := 566) (by decide +kernel)⟩
theorem lw_p28 : lw_okq (⟨"ExactEstimatesModel", "remainder", "(III)V"⟩, 11) := ⟨⟨by decide +kernel, by decide +kernel⟩, List.mem_of_getElem? (i := 445) (by decide +kernel), List.mem_of_getElem? (i := 569) (by decide +kernel), List.mem_of_getElem? (i := 570) (by decide +kernel)⟩
theorem lw_p29 : lw_okq (⟨"ExactEstimatesModel", "split", "(II)V"⟩, 11) := ⟨⟨by decide +kernel, by decide +kernel⟩, List.mem_of_getElem? (i := 445) (by decide +kernel), List.mem_of_getElem? (i := 573) (by decide +kernel), List.mem_of_getElem? (i := 574) (by decide +kernel)⟩
theorem lw_p30 : lw_okq (⟨"ExactEstimatesModel", "fits", "(II)Z"⟩, 11) := ⟨⟨by decide +kernel, by decide +kernel⟩, List.mem_of_getElem? (i := 445) (by decide +kernel), List.mem_of_getElem? (i := 578) (by decide +kernel), List.mem_of_getElem? (i := 579) (by decide +kernel)⟩
theorem lw_p31 : lw_okq (⟨"ExactEstimatesModel", "takeOff", "(IIJ)V"⟩, 11) := ⟨⟨by decide +kernel, by decide +kernel⟩, List.mem_of_getElem? (i := 445) (by decide +kernel), List.mem_of_getElem? (i := 583) (by decide +kernel), List.mem_of_getElem? (i := 584) (by decide +kernel)⟩
def lw_privs_2 : List (MethodName × Nat) := [(⟨"ExactEstimatesModel", "copy", "(II)V"⟩, 11), (⟨"ExactEstimatesModel", "gains", "(IIII)V"⟩, 11), (⟨"ExactEstimatesModel", "scale", "(III)V"⟩, 11), (⟨"ExactEstimatesModel", "digitOf", "(II)I"⟩, 11), (⟨"ExactEstimatesModel", "store", "(III)V"⟩, 11), (⟨"ExactEstimatesModel", "gain", "(IIII)V"⟩, 11), (⟨"ExactEstimatesModel", "sum", "(IIII)V"⟩, 11), (⟨"ExactEstimatesModel", "against", "(II)I"⟩, 11), (⟨"ExactEstimatesModel", "times", "(III)V"⟩, 11), (⟨"ExactEstimatesModel", "join", "(IIIII)V"⟩, 11), (⟨"ExactEstimatesModel", "shrink", "(II)V"⟩, 11), (⟨"ExactEstimatesModel", "common", "(IIII)V"⟩, 11), (⟨"ExactEstimatesModel", "remainder", "(III)V"⟩, 11), (⟨"ExactEstimatesModel", "split", "(II)V"⟩, 11), (⟨"ExactEstimatesModel", "fits", "(II)Z"⟩, 11), (⟨"ExactEstimatesModel", "takeOff", "(IIJ)V"⟩, 11)]
theorem lw_r2 : ∀ q ∈ lw_privs_2, lw_okq q := List.forall_mem_cons.mpr ⟨lw_p16, List.forall_mem_cons.mpr ⟨lw_p17, List.forall_mem_cons.mpr ⟨lw_p18, List.forall_mem_cons.mpr ⟨lw_p19, List.forall_mem_cons.mpr ⟨lw_p20, List.forall_mem_cons.mpr ⟨lw_p21, List.forall_mem_cons.mpr ⟨lw_p22, List.forall_mem_cons.mpr ⟨lw_p23, List.forall_mem_cons.mpr ⟨lw_p24, List.forall_mem_cons.mpr ⟨lw_p25, List.forall_mem_cons.mpr ⟨lw_p26, List.forall_mem_cons.mpr ⟨lw_p27, List.forall_mem_cons.mpr ⟨lw_p28, List.forall_mem_cons.mpr ⟨lw_p29, List.forall_mem_cons.mpr ⟨lw_p30, List.forall_mem_cons.mpr ⟨lw_p31, fun _ h => absurd h List.not_mem_nil⟩⟩⟩⟩⟩⟩⟩⟩⟩⟩⟩⟩⟩⟩⟩⟩
theorem lw_p32 : lw_okq (⟨"ExactEstimatesModel", "part", "(III)V"⟩, 11) := ⟨⟨by decide +kernel, by decide +kernel⟩, List.mem_of_getElem? (i := 445) (by decide +kernel), List.mem_of_getElem? (i := 587) (by decide +kernel), List.mem_of_getElem? (i := 588) (by decide +kernel)⟩
theorem lw_p33 : lw_okq (⟨"ExactEstimatesModel", "pair", "(IIIIII)V"⟩, 11) := ⟨⟨by decide +kernel, by decide +kernel⟩, List.mem_of_getElem? (i := 445) (by decide +kernel), List.mem_of_getElem? (i := 595) (by decide +kernel), List.mem_of_getElem? (i := 596) (by decide +kernel)⟩
theorem lw_p34 : lw_okq (⟨"ExactEstimatesModel", "none", "(III)Z"⟩, 11) := ⟨⟨by decide +kernel, by decide +kernel⟩, List.mem_of_getElem? (i := 445) (by decide +kernel), List.mem_of_getElem? (i := 611) (by decide +kernel), List.mem_of_getElem? (i := 612) (by decide +kernel)⟩
theorem lw_p35 : lw_okq (⟨"ExactEstimatesModel", "upper", "(III)I"⟩, 11) := ⟨⟨by decide +kernel, by decide +kernel⟩, List.mem_of_getElem? (i := 445) (by decide +kernel), List.mem_of_getElem? (i := 615) (by decide +kernel), List.mem_of_getElem? (i := 616) (by decide +kernel)⟩
theorem lw_p36 : lw_okq (⟨"ExactEstimatesModel", "smoothAll", "()V"⟩, 11) := ⟨⟨by decide +kernel, by decide +kernel⟩, List.mem_of_getElem? (i := 445) (by decide +kernel), List.mem_of_getElem? (i := 619) (by decide +kernel), List.mem_of_getElem? (i := 620) (by decide +kernel)⟩
theorem lw_p37 : lw_okq (⟨"ExactEstimatesModel", "smoothAt", "(I)V"⟩, 11) := ⟨⟨by decide +kernel, by decide +kernel⟩, List.mem_of_getElem? (i := 445) (by decide +kernel), List.mem_of_getElem? (i := 623) (by decide +kernel), List.mem_of_getElem? (i := 624) (by decide +kernel)⟩
theorem lw_p38 : lw_okq (⟨"ExactEstimatesModel", "matrix", "(III)V"⟩, 11) := ⟨⟨by decide +kernel, by decide +kernel⟩, List.mem_of_getElem? (i := 445) (by decide +kernel), List.mem_of_getElem? (i := 627) (by decide +kernel), List.mem_of_getElem? (i := 628) (by decide +kernel)⟩
theorem lw_p39 : lw_okq (⟨"ExactEstimatesModel", "crossed", "(IIIIIII)V"⟩, 11) := ⟨⟨by decide +kernel, by decide +kernel⟩, List.mem_of_getElem? (i := 445) (by decide +kernel), List.mem_of_getElem? (i := 631) (by decide +kernel), List.mem_of_getElem? (i := 632) (by decide +kernel)⟩
theorem lw_p40 : lw_okq (⟨"ExactEstimatesModel", "lowest", "(IIIZ)I"⟩, 11) := ⟨⟨by decide +kernel, by decide +kernel⟩, List.mem_of_getElem? (i := 445) (by decide +kernel), List.mem_of_getElem? (i := 639) (by decide +kernel), List.mem_of_getElem? (i := 640) (by decide +kernel)⟩
theorem lw_p41 : lw_okq (⟨"ExactEstimatesModel", "lowerOf", "(III)I"⟩, 11) := ⟨⟨by decide +kernel, by decide +kernel⟩, List.mem_of_getElem? (i := 445) (by decide +kernel), List.mem_of_getElem? (i := 643) (by decide +kernel), List.mem_of_getElem? (i := 644) (by decide +kernel)⟩
def lw_privs_3 : List (MethodName × Nat) := [(⟨"ExactEstimatesModel", "part", "(III)V"⟩, 11), (⟨"ExactEstimatesModel", "pair", "(IIIIII)V"⟩, 11), (⟨"ExactEstimatesModel", "none", "(III)Z"⟩, 11), (⟨"ExactEstimatesModel", "upper", "(III)I"⟩, 11), (⟨"ExactEstimatesModel", "smoothAll", "()V"⟩, 11), (⟨"ExactEstimatesModel", "smoothAt", "(I)V"⟩, 11), (⟨"ExactEstimatesModel", "matrix", "(III)V"⟩, 11), (⟨"ExactEstimatesModel", "crossed", "(IIIIIII)V"⟩, 11), (⟨"ExactEstimatesModel", "lowest", "(IIIZ)I"⟩, 11), (⟨"ExactEstimatesModel", "lowerOf", "(III)I"⟩, 11)]
theorem lw_r3 : ∀ q ∈ lw_privs_3, lw_okq q := List.forall_mem_cons.mpr ⟨lw_p32, List.forall_mem_cons.mpr ⟨lw_p33, List.forall_mem_cons.mpr ⟨lw_p34, List.forall_mem_cons.mpr ⟨lw_p35, List.forall_mem_cons.mpr ⟨lw_p36, List.forall_mem_cons.mpr ⟨lw_p37, List.forall_mem_cons.mpr ⟨lw_p38, List.forall_mem_cons.mpr ⟨lw_p39, List.forall_mem_cons.mpr ⟨lw_p40, List.forall_mem_cons.mpr ⟨lw_p41, fun _ h => absurd h List.not_mem_nil⟩⟩⟩⟩⟩⟩⟩⟩⟩⟩
def lw_privs : List (MethodName × Nat) := lw_privs_1 ++ (lw_privs_2 ++ (lw_privs_3))
def lw_tbl : List Cond := k2_sels lw_privs ++ tables_1
theorem lw_privs_ok : ∀ q ∈ lw_privs, lw_okq q := by
  show ∀ q ∈ lw_privs_1 ++ (lw_privs_2 ++ (lw_privs_3)), lw_okq q
  exact List.forall_mem_append.mpr ⟨lw_r1, List.forall_mem_append.mpr ⟨lw_r2, lw_r3⟩⟩
/-! names -/
def R_B : String := "ExactEstimates$Belief"
def R_O : String := "ExactEstimates$Observation"
def R_Q : String := "ExactEstimates$Passage"
def R_W : String := "ExactEstimates$Whole"
def R_E : String := "ExactEstimates"
def R_M : String := "ExactEstimatesModel"
def R_L : String := "ExactEstimatesLaw"
def R_K : String := "java/lang/Math"
def F_B : u_T := fun k => match k with
  | 0 => ("ExactEstimates$Belief", "unit", "LExactEstimates$Whole;", true)
  | 1 => ("ExactEstimates$Belief", "l00", "LExactEstimates$Whole;", true)
  | 2 => ("ExactEstimates$Belief", "l01", "LExactEstimates$Whole;", true)
  | 3 => ("ExactEstimates$Belief", "l11", "LExactEstimates$Whole;", true)
  | 4 => ("ExactEstimates$Belief", "det", "LExactEstimates$Whole;", true)
  | 5 => ("ExactEstimates$Belief", "v0", "LExactEstimates$Whole;", true)
  | 6 => ("ExactEstimates$Belief", "v1", "LExactEstimates$Whole;", true)
  | 7 => ("ExactEstimates$Belief", "c0", "LExactEstimates$Whole;", true)
  | _ => ("ExactEstimates$Belief", "c1", "LExactEstimates$Whole;", true)
def t_B : Nat → FieldType := fun k => match k with
  | 0 => .object "ExactEstimates$Whole"
  | 1 => .object "ExactEstimates$Whole"
  | 2 => .object "ExactEstimates$Whole"
  | 3 => .object "ExactEstimates$Whole"
  | 4 => .object "ExactEstimates$Whole"
  | 5 => .object "ExactEstimates$Whole"
  | 6 => .object "ExactEstimates$Whole"
  | 7 => .object "ExactEstimates$Whole"
  | _ => .object "ExactEstimates$Whole"
theorem n_B : ∀ a, a < 9 → ∀ b, b < 9 → a ≠ b → (F_B a).2.1 ≠ (F_B b).2.1 := by decide +kernel
theorem t_B_ok : ∀ k, k < 9 → parseFieldDescriptor (F_B k).2.2.1 = some (t_B k) := by decide +kernel
theorem i_B : ∀ w ∈ u_ws R_B F_B 9, w ∈ lw_tbl := by decide +kernel
def F_O : u_T := fun k => match k with
  | 0 => ("ExactEstimates$Observation", "h0", "I", false)
  | 1 => ("ExactEstimates$Observation", "h1", "I", false)
  | 2 => ("ExactEstimates$Observation", "\x72", "I", false)
  | 3 => ("ExactEstimates$Observation", "z", "I", false)
  | 4 => ("ExactEstimates$Observation", "at", "I", false)
  | _ => ("ExactEstimates$Observation", "before", "I", false)
def t_O : Nat → FieldType := fun k => match k with
  | 0 => .int
  | 1 => .int
  | 2 => .int
  | 3 => .int
  | 4 => .int
  | _ => .int
theorem n_O : ∀ a, a < 6 → ∀ b, b < 6 → a ≠ b → (F_O a).2.1 ≠ (F_O b).2.1 := by decide +kernel
theorem t_O_ok : ∀ k, k < 6 → parseFieldDescriptor (F_O k).2.2.1 = some (t_O k) := by decide +kernel
theorem i_O : ∀ w ∈ u_ws R_O F_O 6, w ∈ lw_tbl := by decide +kernel
def F_Q : u_T := fun k => match k with
  | 0 => ("ExactEstimates$Passage", "f00", "I", false)
  | 1 => ("ExactEstimates$Passage", "f01", "I", false)
  | 2 => ("ExactEstimates$Passage", "f10", "I", false)
  | 3 => ("ExactEstimates$Passage", "f11", "I", false)
  | 4 => ("ExactEstimates$Passage", "q00", "I", false)
  | 5 => ("ExactEstimates$Passage", "q01", "I", false)
  | _ => ("ExactEstimates$Passage", "q11", "I", false)
def t_Q : Nat → FieldType := fun k => match k with
  | 0 => .int
  | 1 => .int
  | 2 => .int
  | 3 => .int
  | 4 => .int
  | 5 => .int
  | _ => .int
theorem n_Q : ∀ a, a < 7 → ∀ b, b < 7 → a ≠ b → (F_Q a).2.1 ≠ (F_Q b).2.1 := by decide +kernel
theorem t_Q_ok : ∀ k, k < 7 → parseFieldDescriptor (F_Q k).2.2.1 = some (t_Q k) := by decide +kernel
theorem i_Q : ∀ w ∈ u_ws R_Q F_Q 7, w ∈ lw_tbl := by decide +kernel
def F_W : u_T := fun k => match k with
  | _ => ("ExactEstimates$Whole", "limbs", "[J", true)
def t_W : Nat → FieldType := fun k => match k with
  | _ => .array .long
theorem n_W : ∀ a, a < 1 → ∀ b, b < 1 → a ≠ b → (F_W a).2.1 ≠ (F_W b).2.1 := by decide +kernel
theorem t_W_ok : ∀ k, k < 1 → parseFieldDescriptor (F_W k).2.2.1 = some (t_W k) := by decide +kernel
theorem i_W : ∀ w ∈ u_ws R_W F_W 1, w ∈ lw_tbl := by decide +kernel
def F_E : u_T := fun k => match k with
  | 0 => ("ExactEstimates", "beliefs", "[LExactEstimates$Belief;", true)
  | 1 => ("ExactEstimates", "predictedAt", "[I", true)
  | 2 => ("ExactEstimates", "seen", "[LExactEstimates$Observation;", true)
  | 3 => ("ExactEstimates", "passages", "[LExactEstimates$Passage;", true)
  | 4 => ("ExactEstimates", "coming", "LExactEstimates$Passage;", true)
  | 5 => ("ExactEstimates", "now", "I", false)
  | 6 => ("ExactEstimates", "seenCount", "I", false)
  | 7 => ("ExactEstimates", "hindsight", "LExactEstimates$Belief;", true)
  | 8 => ("ExactEstimates", "spare", "LExactEstimates$Belief;", true)
  | 9 => ("ExactEstimates", "joined", "LExactEstimates$Belief;", true)
  | 10 => ("ExactEstimates", "top", "LExactEstimates$Whole;", true)
  | 11 => ("ExactEstimates", "bottom", "LExactEstimates$Whole;", true)
  | 12 => ("ExactEstimates", "left", "LExactEstimates$Whole;", true)
  | _ => ("ExactEstimates", "right", "LExactEstimates$Whole;", true)
def t_E : Nat → FieldType := fun k => match k with
  | 0 => .array (.object "ExactEstimates$Belief")
  | 1 => .array .int
  | 2 => .array (.object "ExactEstimates$Observation")
  | 3 => .array (.object "ExactEstimates$Passage")
  | 4 => .object "ExactEstimates$Passage"
  | 5 => .int
  | 6 => .int
  | 7 => .object "ExactEstimates$Belief"
  | 8 => .object "ExactEstimates$Belief"
  | 9 => .object "ExactEstimates$Belief"
  | 10 => .object "ExactEstimates$Whole"
  | 11 => .object "ExactEstimates$Whole"
  | 12 => .object "ExactEstimates$Whole"
  | _ => .object "ExactEstimates$Whole"
theorem n_E : ∀ a, a < 14 → ∀ b, b < 14 → a ≠ b → (F_E a).2.1 ≠ (F_E b).2.1 := by decide +kernel
theorem t_E_ok : ∀ k, k < 14 → parseFieldDescriptor (F_E k).2.2.1 = some (t_E k) := by decide +kernel
theorem i_E : ∀ w ∈ u_ws R_E F_E 14, w ∈ lw_tbl := by decide +kernel
def F_M : u_T := fun k => match k with
  | 0 => ("ExactEstimatesModel", "digit", "[I", true)
  | 1 => ("ExactEstimatesModel", "used", "[I", true)
  | 2 => ("ExactEstimatesModel", "sign", "[I", true)
  | 3 => ("ExactEstimatesModel", "row", "[I", true)
  | 4 => ("ExactEstimatesModel", "quotient", "[I", true)
  | 5 => ("ExactEstimatesModel", "now", "I", false)
  | 6 => ("ExactEstimatesModel", "count", "I", false)
  | 7 => ("ExactEstimatesModel", "smooth", "Z", false)
  | 8 => ("ExactEstimatesModel", "move", "[I", true)
  | 9 => ("ExactEstimatesModel", "shake", "[I", true)
  | _ => ("ExactEstimatesModel", "moves", "[I", true)
def t_M : Nat → FieldType := fun k => match k with
  | 0 => .array .int
  | 1 => .array .int
  | 2 => .array .int
  | 3 => .array .int
  | 4 => .array .int
  | 5 => .int
  | 6 => .int
  | 7 => .boolean
  | 8 => .array .int
  | 9 => .array .int
  | _ => .array .int
theorem n_M : ∀ a, a < 11 → ∀ b, b < 11 → a ≠ b → (F_M a).2.1 ≠ (F_M b).2.1 := by decide +kernel
theorem t_M_ok : ∀ k, k < 11 → parseFieldDescriptor (F_M k).2.2.1 = some (t_M k) := by decide +kernel
theorem i_M : ∀ w ∈ u_ws R_M F_M 11, w ∈ lw_tbl := by decide +kernel
abbrev classes : List vw_C := [(R_B, F_B, 9), (R_O, F_O, 6), (R_Q, F_Q, 7), (R_W, F_W, 1), (R_E, F_E, 14), (R_M, F_M, 11)]
abbrev b_E_init : ByteArray := prog_1_method_1_code
def y_E_init : MethodName := ⟨R_E, "<init>", "()V"⟩
abbrev b_Q_init : ByteArray := prog_4_method_1_code
def y_Q_init : MethodName := ⟨R_Q, "<init>", "()V"⟩
abbrev b_B_init : ByteArray := prog_2_method_1_code
def y_B_init : MethodName := ⟨R_B, "<init>", "()V"⟩
abbrev b_W_init : ByteArray := prog_5_method_1_code
def y_W_init : MethodName := ⟨R_W, "<init>", "()V"⟩
abbrev b_O_init : ByteArray := prog_3_method_1_code
def y_O_init : MethodName := ⟨R_O, "<init>", "()V"⟩
abbrev b_Q_setStep : ByteArray := prog_4_method_2_code
def y_Q_setStep : MethodName := ⟨R_Q, "setStep", "(IIII)V"⟩
abbrev b_Q_setNoise : ByteArray := prog_4_method_3_code
def y_Q_setNoise : MethodName := ⟨R_Q, "setNoise", "(III)V"⟩
abbrev b_B_setEstimate : ByteArray := prog_2_method_3_code
def y_B_setEstimate : MethodName := ⟨R_B, "setEstimate", "(IIIII)V"⟩
abbrev b_W_set : ByteArray := prog_5_method_2_code
def y_W_set : MethodName := ⟨R_W, "set", "(I)V"⟩
abbrev b_E_initial : ByteArray := prog_1_method_2_code
def y_E_initial : MethodName := ⟨R_E, "initial", "(IIIII)I"⟩
abbrev b_E_within : ByteArray := prog_1_method_13_code
def y_E_within : MethodName := ⟨R_E, "within", "(II)Z"⟩
abbrev b_E_fitsCovariance : ByteArray := prog_1_method_14_code
def y_E_fitsCovariance : MethodName := ⟨R_E, "fitsCovariance", "(III)Z"⟩
abbrev b_E_isPositive : ByteArray := prog_1_method_15_code
def y_E_isPositive : MethodName := ⟨R_E, "isPositive", "(III)Z"⟩
abbrev b_E_step : ByteArray := prog_1_method_3_code
def y_E_step : MethodName := ⟨R_E, "step", "(IIII)Z"⟩
abbrev b_E_noise : ByteArray := prog_1_method_4_code
def y_E_noise : MethodName := ⟨R_E, "noise", "(III)I"⟩
abbrev b_E_observe : ByteArray := prog_1_method_5_code
def y_E_observe : MethodName := ⟨R_E, "observe", "(IIII)I"⟩
abbrev b_E_latest : ByteArray := prog_1_method_16_code
def y_E_latest : MethodName := ⟨R_E, "latest", "()I"⟩
abbrev b_O_set : ByteArray := prog_3_method_2_code
def y_O_set : MethodName := ⟨R_O, "set", "(IIII)V"⟩
abbrev b_O_place : ByteArray := prog_3_method_3_code
def y_O_place : MethodName := ⟨R_O, "place", "(II)V"⟩
abbrev b_B_copy : ByteArray := prog_2_method_4_code
def y_B_copy : MethodName := ⟨R_B, "copy", "(LExactEstimates$Belief;)V"⟩
abbrev b_W_copy : ByteArray := prog_5_method_3_code
def y_W_copy : MethodName := ⟨R_W, "copy", "(LExactEstimates$Whole;)V"⟩
abbrev b_B_learn : ByteArray := prog_2_method_5_code
def y_B_learn : MethodName := ⟨R_B, "learn", "(LExactEstimates$Observation;)V"⟩
abbrev b_W_scale : ByteArray := prog_5_method_4_code
def y_W_scale : MethodName := ⟨R_W, "scale", "(I)V"⟩
abbrev b_W_setTimes : ByteArray := prog_5_method_5_code
def y_W_setTimes : MethodName := ⟨R_W, "setTimes", "(LExactEstimates$Whole;I)V"⟩
abbrev b_W_addSum : ByteArray := prog_5_method_7_code
def y_W_addSum : MethodName := ⟨R_W, "addSum", "(LExactEstimates$Whole;ILExactEstimates$Whole;I)V"⟩
abbrev b_W_addTimes : ByteArray := prog_5_method_6_code
def y_W_addTimes : MethodName := ⟨R_W, "addTimes", "(LExactEstimates$Whole;I)V"⟩
abbrev b_E_advance : ByteArray := prog_1_method_6_code
def y_E_advance : MethodName := ⟨R_E, "advance", "()I"⟩
abbrev b_Q_copy : ByteArray := prog_4_method_4_code
def y_Q_copy : MethodName := ⟨R_Q, "copy", "(LExactEstimates$Passage;)V"⟩
abbrev b_B_moveOn : ByteArray := prog_2_method_7_code
def y_B_moveOn : MethodName := ⟨R_B, "moveOn", "(LExactEstimates$Belief;LExactEstimates$Passage;)V"⟩
abbrev b_B_turn : ByteArray := prog_2_method_9_code
def y_B_turn : MethodName := ⟨R_B, "turn", "(LExactEstimates$Belief;IIII)V"⟩
abbrev b_W_setSum : ByteArray := prog_5_method_8_code
def y_W_setSum : MethodName := ⟨R_W, "setSum", "(LExactEstimates$Whole;ILExactEstimates$Whole;ILExactEstimates$Whole;I)V"⟩
abbrev b_Q_stepDeterminant : ByteArray := prog_4_method_5_code
def y_Q_stepDeterminant : MethodName := ⟨R_Q, "stepDeterminant", "()I"⟩
abbrev b_B_moveScales : ByteArray := prog_2_method_10_code
def y_B_moveScales : MethodName := ⟨R_B, "moveScales", "(LExactEstimates$Belief;II)V"⟩
abbrev b_B_addNoise : ByteArray := prog_2_method_6_code
def y_B_addNoise : MethodName := ⟨R_B, "addNoise", "(LExactEstimates$Passage;)V"⟩
abbrev b_Q_noiseDeterminant : ByteArray := prog_4_method_6_code
def y_Q_noiseDeterminant : MethodName := ⟨R_Q, "noiseDeterminant", "()I"⟩
abbrev b_E_time : ByteArray := prog_1_method_7_code
def y_E_time : MethodName := ⟨R_E, "time", "()I"⟩
abbrev b_E_observations : ByteArray := prog_1_method_8_code
def y_E_observations : MethodName := ⟨R_E, "observations", "()I"⟩
abbrev b_E_sign : ByteArray := prog_1_method_9_code
def y_E_sign : MethodName := ⟨R_E, "sign", "(III)I"⟩
abbrev b_E_find : ByteArray := prog_1_method_17_code
def y_E_find : MethodName := ⟨R_E, "find", "(III)Z"⟩
abbrev b_E_findOfObservation : ByteArray := prog_1_method_18_code
def y_E_findOfObservation : MethodName := ⟨R_E, "findOfObservation", "(II)Z"⟩
abbrev b_E_beliefOf : ByteArray := prog_1_method_19_code
def y_E_beliefOf : MethodName := ⟨R_E, "beliefOf", "(II)LExactEstimates$Belief;"⟩
abbrev b_E_lookBackTo : ByteArray := prog_1_method_20_code
def y_E_lookBackTo : MethodName := ⟨R_E, "lookBackTo", "(I)V"⟩
abbrev b_B_setBlank : ByteArray := prog_2_method_2_code
def y_B_setBlank : MethodName := ⟨R_B, "setBlank", "()V"⟩
abbrev b_B_moveBack : ByteArray := prog_2_method_8_code
def y_B_moveBack : MethodName := ⟨R_B, "moveBack", "(LExactEstimates$Belief;LExactEstimates$Passage;)V"⟩
abbrev b_B_join : ByteArray := prog_2_method_11_code
def y_B_join : MethodName := ⟨R_B, "join", "(LExactEstimates$Belief;LExactEstimates$Belief;)V"⟩
abbrev b_W_setProducts : ByteArray := prog_5_method_9_code
def y_W_setProducts : MethodName := ⟨R_W, "setProducts", "(LExactEstimates$Whole;LExactEstimates$Whole;LExactEstimates$Whole;LExactEstimates$Whole;)V"⟩
abbrev b_W_addProducts : ByteArray := prog_5_method_10_code
def y_W_addProducts : MethodName := ⟨R_W, "addProducts", "(LExactEstimates$Whole;LExactEstimates$Whole;LExactEstimates$Whole;LExactEstimates$Whole;)V"⟩
abbrev b_W_addProduct : ByteArray := prog_5_method_11_code
def y_W_addProduct : MethodName := ⟨R_W, "addProduct", "(LExactEstimates$Whole;LExactEstimates$Whole;)V"⟩
abbrev b_B_tell : ByteArray := prog_2_method_12_code
def y_B_tell : MethodName := ⟨R_B, "tell", "(ILExactEstimates$Whole;LExactEstimates$Whole;)V"⟩
abbrev b_W_side : ByteArray := prog_5_method_12_code
def y_W_side : MethodName := ⟨R_W, "side", "()I"⟩
abbrev b_E_bits : ByteArray := prog_1_method_10_code
def y_E_bits : MethodName := ⟨R_E, "bits", "(IIIZ)I"⟩
abbrev b_E_reduce : ByteArray := prog_1_method_21_code
def y_E_reduce : MethodName := ⟨R_E, "reduce", "()V"⟩
abbrev b_E_dropCommonTwos : ByteArray := prog_1_method_22_code
def y_E_dropCommonTwos : MethodName := ⟨R_E, "dropCommonTwos", "()V"⟩
abbrev b_W_lowZeros : ByteArray := prog_5_method_17_code
def y_W_lowZeros : MethodName := ⟨R_W, "lowZeros", "()I"⟩
abbrev b_K_min : ByteArray := prog_8_method_69_code
def y_K_min : MethodName := ⟨R_K, "min", "(II)I"⟩
abbrev b_W_shiftRight : ByteArray := prog_5_method_18_code
def y_W_shiftRight : MethodName := ⟨R_W, "shiftRight", "(I)V"⟩
abbrev b_E_oddCommonDivisor : ByteArray := prog_1_method_23_code
def y_E_oddCommonDivisor : MethodName := ⟨R_E, "oddCommonDivisor", "()LExactEstimates$Whole;"⟩
abbrev b_W_dropTwos : ByteArray := prog_5_method_19_code
def y_W_dropTwos : MethodName := ⟨R_W, "dropTwos", "()V"⟩
abbrev b_W_order : ByteArray := prog_5_method_13_code
def y_W_order : MethodName := ⟨R_W, "order", "(LExactEstimates$Whole;)I"⟩
abbrev b_W_divideByOdd : ByteArray := prog_5_method_20_code
def y_W_divideByOdd : MethodName := ⟨R_W, "divideByOdd", "(LExactEstimates$Whole;)V"⟩
abbrev b_W_inverseOfLimb : ByteArray := prog_5_method_22_code
def y_W_inverseOfLimb : MethodName := ⟨R_W, "inverseOfLimb", "(J)J"⟩
abbrev b_W_takeTimes : ByteArray := prog_5_method_21_code
def y_W_takeTimes : MethodName := ⟨R_W, "takeTimes", "(LExactEstimates$Whole;JI)V"⟩
abbrev b_W_length : ByteArray := prog_5_method_14_code
def y_W_length : MethodName := ⟨R_W, "length", "()I"⟩
abbrev b_W_hasBit : ByteArray := prog_5_method_15_code
def y_W_hasBit : MethodName := ⟨R_W, "hasBit", "(I)Z"⟩
abbrev b_E_word : ByteArray := prog_1_method_11_code
def y_E_word : MethodName := ⟨R_E, "word", "(IIIZI)J"⟩
abbrev b_W_limb : ByteArray := prog_5_method_16_code
def y_W_limb : MethodName := ⟨R_W, "limb", "(I)J"⟩
abbrev b_E_compare : ByteArray := prog_1_method_12_code
def y_E_compare : MethodName := ⟨R_E, "compare", "(IIIII)I"⟩
abbrev b_M_init : ByteArray := prog_7_method_1_code
def y_M_init : MethodName := ⟨R_M, "<init>", "()V"⟩
abbrev b_M_begin : ByteArray := prog_7_method_19_code
def y_M_begin : MethodName := ⟨R_M, "begin", "(IIIII)V"⟩
abbrev b_M_put : ByteArray := prog_7_method_2_code
def y_M_put : MethodName := ⟨R_M, "put", "(II)V"⟩
abbrev b_M_keep : ByteArray := prog_7_method_20_code
def y_M_keep : MethodName := ⟨R_M, "keep", "(II)V"⟩
abbrev b_M_copy : ByteArray := prog_7_method_3_code
def y_M_copy : MethodName := ⟨R_M, "copy", "(II)V"⟩
abbrev b_M_initial : ByteArray := prog_7_method_23_code
def y_M_initial : MethodName := ⟨R_M, "initial", "(IIIII)I"⟩
abbrev b_M_bound : ByteArray := prog_7_method_21_code
def y_M_bound : MethodName := ⟨R_M, "bound", "(II)Z"⟩
abbrev b_M_positive : ByteArray := prog_7_method_22_code
def y_M_positive : MethodName := ⟨R_M, "positive", "(III)Z"⟩
abbrev b_M_step : ByteArray := prog_7_method_24_code
def y_M_step : MethodName := ⟨R_M, "step", "(IIII)Z"⟩
abbrev b_M_noise : ByteArray := prog_7_method_25_code
def y_M_noise : MethodName := ⟨R_M, "noise", "(III)I"⟩
abbrev b_M_observe : ByteArray := prog_7_method_27_code
def y_M_observe : MethodName := ⟨R_M, "observe", "(IIII)I"⟩
abbrev b_M_gains : ByteArray := prog_7_method_26_code
def y_M_gains : MethodName := ⟨R_M, "gains", "(IIII)V"⟩
abbrev b_M_scale : ByteArray := prog_7_method_9_code
def y_M_scale : MethodName := ⟨R_M, "scale", "(III)V"⟩
abbrev b_M_digitOf : ByteArray := prog_7_method_5_code
def y_M_digitOf : MethodName := ⟨R_M, "digitOf", "(II)I"⟩
abbrev b_M_store : ByteArray := prog_7_method_4_code
def y_M_store : MethodName := ⟨R_M, "store", "(III)V"⟩
abbrev b_M_gain : ByteArray := prog_7_method_10_code
def y_M_gain : MethodName := ⟨R_M, "gain", "(IIII)V"⟩
abbrev b_M_sum : ByteArray := prog_7_method_7_code
def y_M_sum : MethodName := ⟨R_M, "sum", "(IIII)V"⟩
abbrev b_M_against : ByteArray := prog_7_method_6_code
def y_M_against : MethodName := ⟨R_M, "against", "(II)I"⟩
abbrev b_M_times : ByteArray := prog_7_method_8_code
def y_M_times : MethodName := ⟨R_M, "times", "(III)V"⟩
abbrev b_M_join : ByteArray := prog_7_method_11_code
def y_M_join : MethodName := ⟨R_M, "join", "(IIIII)V"⟩
abbrev b_M_shrink : ByteArray := prog_7_method_18_code
def y_M_shrink : MethodName := ⟨R_M, "shrink", "(II)V"⟩
abbrev b_M_common : ByteArray := prog_7_method_17_code
def y_M_common : MethodName := ⟨R_M, "common", "(IIII)V"⟩
abbrev b_M_remainder : ByteArray := prog_7_method_15_code
def y_M_remainder : MethodName := ⟨R_M, "remainder", "(III)V"⟩
abbrev b_M_split : ByteArray := prog_7_method_14_code
def y_M_split : MethodName := ⟨R_M, "split", "(II)V"⟩
abbrev b_M_fits : ByteArray := prog_7_method_13_code
def y_M_fits : MethodName := ⟨R_M, "fits", "(II)Z"⟩
abbrev b_M_takeOff : ByteArray := prog_7_method_12_code
def y_M_takeOff : MethodName := ⟨R_M, "takeOff", "(IIJ)V"⟩
abbrev b_M_part : ByteArray := prog_7_method_16_code
def y_M_part : MethodName := ⟨R_M, "part", "(III)V"⟩
abbrev b_M_advance : ByteArray := prog_7_method_29_code
def y_M_advance : MethodName := ⟨R_M, "advance", "()I"⟩
abbrev b_M_pair : ByteArray := prog_7_method_28_code
def y_M_pair : MethodName := ⟨R_M, "pair", "(IIIIII)V"⟩
abbrev b_M_time : ByteArray := prog_7_method_34_code
def y_M_time : MethodName := ⟨R_M, "time", "()I"⟩
abbrev b_M_observations : ByteArray := prog_7_method_35_code
def y_M_observations : MethodName := ⟨R_M, "observations", "()I"⟩
abbrev b_M_sign : ByteArray := prog_7_method_39_code
def y_M_sign : MethodName := ⟨R_M, "sign", "(III)I"⟩
abbrev b_M_none : ByteArray := prog_7_method_36_code
def y_M_none : MethodName := ⟨R_M, "none", "(III)Z"⟩
abbrev b_M_upper : ByteArray := prog_7_method_37_code
def y_M_upper : MethodName := ⟨R_M, "upper", "(III)I"⟩
abbrev b_M_smoothAll : ByteArray := prog_7_method_33_code
def y_M_smoothAll : MethodName := ⟨R_M, "smoothAll", "()V"⟩
abbrev b_M_smoothAt : ByteArray := prog_7_method_32_code
def y_M_smoothAt : MethodName := ⟨R_M, "smoothAt", "(I)V"⟩
abbrev b_M_matrix : ByteArray := prog_7_method_31_code
def y_M_matrix : MethodName := ⟨R_M, "matrix", "(III)V"⟩
abbrev b_M_crossed : ByteArray := prog_7_method_30_code
def y_M_crossed : MethodName := ⟨R_M, "crossed", "(IIIIIII)V"⟩
abbrev b_M_bits : ByteArray := prog_7_method_41_code
def y_M_bits : MethodName := ⟨R_M, "bits", "(IIIZ)I"⟩
abbrev b_M_lowest : ByteArray := prog_7_method_40_code
def y_M_lowest : MethodName := ⟨R_M, "lowest", "(IIIZ)I"⟩
abbrev b_M_lowerOf : ByteArray := prog_7_method_38_code
def y_M_lowerOf : MethodName := ⟨R_M, "lowerOf", "(III)I"⟩
abbrev b_M_word : ByteArray := prog_7_method_42_code
def y_M_word : MethodName := ⟨R_M, "word", "(IIIZI)J"⟩
abbrev b_M_compare : ByteArray := prog_7_method_43_code
def y_M_compare : MethodName := ⟨R_M, "compare", "(IIIII)I"⟩
/-! the words of the tables, each by its place -/
theorem k0 : Cond.selects R_E y_E_latest y_E_latest ∈ lw_tbl := List.mem_of_getElem? (i := 0) (by decide +kernel)
theorem k1 : Cond.selects R_B y_B_turn y_B_turn ∈ lw_tbl := List.mem_of_getElem? (i := 1) (by decide +kernel)
theorem k2 : Cond.selects R_B y_B_moveScales y_B_moveScales ∈ lw_tbl := List.mem_of_getElem? (i := 2) (by decide +kernel)
theorem k3 : Cond.selects R_E y_E_find y_E_find ∈ lw_tbl := List.mem_of_getElem? (i := 3) (by decide +kernel)
theorem k4 : Cond.selects R_E y_E_findOfObservation y_E_findOfObservation ∈ lw_tbl := List.mem_of_getElem? (i := 4) (by decide +kernel)
theorem k5 : Cond.selects R_E y_E_beliefOf y_E_beliefOf ∈ lw_tbl := List.mem_of_getElem? (i := 5) (by decide +kernel)
theorem k6 : Cond.selects R_E y_E_lookBackTo y_E_lookBackTo ∈ lw_tbl := List.mem_of_getElem? (i := 6) (by decide +kernel)
theorem k7 : Cond.selects R_W y_W_addProduct y_W_addProduct ∈ lw_tbl := List.mem_of_getElem? (i := 7) (by decide +kernel)
theorem k8 : Cond.selects R_E y_E_reduce y_E_reduce ∈ lw_tbl := List.mem_of_getElem? (i := 8) (by decide +kernel)
theorem k9 : Cond.selects R_E y_E_dropCommonTwos y_E_dropCommonTwos ∈ lw_tbl := List.mem_of_getElem? (i := 9) (by decide +kernel)
theorem k10 : Cond.selects R_E y_E_oddCommonDivisor y_E_oddCommonDivisor ∈ lw_tbl := List.mem_of_getElem? (i := 10) (by decide +kernel)
theorem k11 : Cond.selects R_W y_W_takeTimes y_W_takeTimes ∈ lw_tbl := List.mem_of_getElem? (i := 11) (by decide +kernel)
theorem k12 : Cond.selects R_W y_W_hasBit y_W_hasBit ∈ lw_tbl := List.mem_of_getElem? (i := 12) (by decide +kernel)
theorem k13 : Cond.selects R_M y_M_begin y_M_begin ∈ lw_tbl := List.mem_of_getElem? (i := 13) (by decide +kernel)
theorem k14 : Cond.selects R_M y_M_put y_M_put ∈ lw_tbl := List.mem_of_getElem? (i := 14) (by decide +kernel)
theorem k15 : Cond.selects R_M y_M_keep y_M_keep ∈ lw_tbl := List.mem_of_getElem? (i := 15) (by decide +kernel)
theorem k16 : Cond.selects R_M y_M_copy y_M_copy ∈ lw_tbl := List.mem_of_getElem? (i := 16) (by decide +kernel)
theorem k17 : Cond.selects R_M y_M_gains y_M_gains ∈ lw_tbl := List.mem_of_getElem? (i := 17) (by decide +kernel)
theorem k18 : Cond.selects R_M y_M_scale y_M_scale ∈ lw_tbl := List.mem_of_getElem? (i := 18) (by decide +kernel)
theorem k19 : Cond.selects R_M y_M_digitOf y_M_digitOf ∈ lw_tbl := List.mem_of_getElem? (i := 19) (by decide +kernel)
theorem k20 : Cond.selects R_M y_M_store y_M_store ∈ lw_tbl := List.mem_of_getElem? (i := 20) (by decide +kernel)
theorem k21 : Cond.selects R_M y_M_gain y_M_gain ∈ lw_tbl := List.mem_of_getElem? (i := 21) (by decide +kernel)
theorem k22 : Cond.selects R_M y_M_sum y_M_sum ∈ lw_tbl := List.mem_of_getElem? (i := 22) (by decide +kernel)
theorem k23 : Cond.selects R_M y_M_against y_M_against ∈ lw_tbl := List.mem_of_getElem? (i := 23) (by decide +kernel)
theorem k24 : Cond.selects R_M y_M_times y_M_times ∈ lw_tbl := List.mem_of_getElem? (i := 24) (by decide +kernel)
theorem k25 : Cond.selects R_M y_M_join y_M_join ∈ lw_tbl := List.mem_of_getElem? (i := 25) (by decide +kernel)
theorem k26 : Cond.selects R_M y_M_shrink y_M_shrink ∈ lw_tbl := List.mem_of_getElem? (i := 26) (by decide +kernel)
theorem k27 : Cond.selects R_M y_M_common y_M_common ∈ lw_tbl := List.mem_of_getElem? (i := 27) (by decide +kernel)
theorem k28 : Cond.selects R_M y_M_remainder y_M_remainder ∈ lw_tbl := List.mem_of_getElem? (i := 28) (by decide +kernel)
theorem k29 : Cond.selects R_M y_M_split y_M_split ∈ lw_tbl := List.mem_of_getElem? (i := 29) (by decide +kernel)
theorem k30 : Cond.selects R_M y_M_fits y_M_fits ∈ lw_tbl := List.mem_of_getElem? (i := 30) (by decide +kernel)
theorem k31 : Cond.selects R_M y_M_takeOff y_M_takeOff ∈ lw_tbl := List.mem_of_getElem? (i := 31) (by decide +kernel)
theorem k32 : Cond.selects R_M y_M_part y_M_part ∈ lw_tbl := List.mem_of_getElem? (i := 32) (by decide +kernel)
theorem k33 : Cond.selects R_M y_M_pair y_M_pair ∈ lw_tbl := List.mem_of_getElem? (i := 33) (by decide +kernel)
theorem k34 : Cond.selects R_M y_M_none y_M_none ∈ lw_tbl := List.mem_of_getElem? (i := 34) (by decide +kernel)
theorem k35 : Cond.selects R_M y_M_upper y_M_upper ∈ lw_tbl := List.mem_of_getElem? (i := 35) (by decide +kernel)
theorem k36 : Cond.selects R_M y_M_smoothAll y_M_smoothAll ∈ lw_tbl := List.mem_of_getElem? (i := 36) (by decide +kernel)
theorem k37 : Cond.selects R_M y_M_smoothAt y_M_smoothAt ∈ lw_tbl := List.mem_of_getElem? (i := 37) (by decide +kernel)
theorem k38 : Cond.selects R_M y_M_matrix y_M_matrix ∈ lw_tbl := List.mem_of_getElem? (i := 38) (by decide +kernel)
theorem k39 : Cond.selects R_M y_M_crossed y_M_crossed ∈ lw_tbl := List.mem_of_getElem? (i := 39) (by decide +kernel)
theorem k40 : Cond.selects R_M y_M_lowest y_M_lowest ∈ lw_tbl := List.mem_of_getElem? (i := 40) (by decide +kernel)
theorem k41 : Cond.selects R_M y_M_lowerOf y_M_lowerOf ∈ lw_tbl := List.mem_of_getElem? (i := 41) (by decide +kernel)
theorem k42 : Cond.initialized R_L ∈ lw_tbl := List.mem_of_getElem? (i := 42) (by decide +kernel)
theorem k43 : Cond.initialized R_E ∈ lw_tbl := List.mem_of_getElem? (i := 43) (by decide +kernel)
theorem k44 : Cond.initialized R_Q ∈ lw_tbl := List.mem_of_getElem? (i := 44) (by decide +kernel)
theorem k45 : Cond.initialized R_B ∈ lw_tbl := List.mem_of_getElem? (i := 45) (by decide +kernel)
theorem k46 : Cond.initialized R_W ∈ lw_tbl := List.mem_of_getElem? (i := 46) (by decide +kernel)
theorem k47 : Cond.initialized R_O ∈ lw_tbl := List.mem_of_getElem? (i := 47) (by decide +kernel)
theorem k48 : Cond.initialized R_M ∈ lw_tbl := List.mem_of_getElem? (i := 48) (by decide +kernel)
theorem k49 : Cond.initialized R_K ∈ lw_tbl := List.mem_of_getElem? (i := 49) (by decide +kernel)
theorem k50 : Cond.classLink R_L 7 R_E ∈ lw_tbl := List.mem_of_getElem? (i := 50) (by decide +kernel)
theorem k51 : Cond.instantiable R_E (14 : Nat) ∈ lw_tbl := List.mem_of_getElem? (i := 51) (by decide +kernel)
theorem k52 : Cond.methodLink R_L 9 y_E_init ∈ lw_tbl := List.mem_of_getElem? (i := 52) (by decide +kernel)
theorem k53 : Cond.instanceMethod y_E_init ∈ lw_tbl := List.mem_of_getElem? (i := 53) (by decide +kernel)
theorem k54 : Cond.code y_E_init b_E_init 2 none ∈ lw_tbl := List.mem_of_getElem? (i := 54) (by decide +kernel)
theorem k55 : Cond.methodLink R_E 3 objectInit ∈ lw_tbl := List.mem_of_getElem? (i := 55) (by decide +kernel)
theorem k56 : Cond.instanceMethod objectInit ∈ lw_tbl := List.mem_of_getElem? (i := 56) (by decide +kernel)
theorem k57 : Cond.code objectInit ⟨#[0xb1]⟩ 1 none ∈ lw_tbl := List.mem_of_getElem? (i := 57) (by decide +kernel)
theorem k58 : Cond.classLink R_E 9 R_B ∈ lw_tbl := List.mem_of_getElem? (i := 58) (by decide +kernel)
theorem k59 : Cond.arrayOver (.object "ExactEstimates$Belief") ∈ lw_tbl := List.mem_of_getElem? (i := 59) (by decide +kernel)
theorem k60 : Cond.classLink R_E 19 R_O ∈ lw_tbl := List.mem_of_getElem? (i := 60) (by decide +kernel)
theorem k61 : Cond.arrayOver (.object "ExactEstimates$Observation") ∈ lw_tbl := List.mem_of_getElem? (i := 61) (by decide +kernel)
theorem k62 : Cond.classLink R_E 25 R_Q ∈ lw_tbl := List.mem_of_getElem? (i := 62) (by decide +kernel)
theorem k63 : Cond.arrayOver (.object "ExactEstimates$Passage") ∈ lw_tbl := List.mem_of_getElem? (i := 63) (by decide +kernel)
theorem k64 : Cond.instantiable R_Q (7 : Nat) ∈ lw_tbl := List.mem_of_getElem? (i := 64) (by decide +kernel)
theorem k65 : Cond.methodLinkNest R_E 31 y_Q_init "ExactEstimates" ∈ lw_tbl := List.mem_of_getElem? (i := 65) (by decide +kernel)
theorem k66 : Cond.instanceMethod y_Q_init ∈ lw_tbl := List.mem_of_getElem? (i := 66) (by decide +kernel)
theorem k67 : Cond.code y_Q_init b_Q_init 1 none ∈ lw_tbl := List.mem_of_getElem? (i := 67) (by decide +kernel)
theorem k68 : Cond.methodLink R_Q 1 objectInit ∈ lw_tbl := List.mem_of_getElem? (i := 68) (by decide +kernel)
theorem k69 : Cond.fieldLink R_Q 7 "ExactEstimates$Passage" "f00" "I" ∈ lw_tbl := List.mem_of_getElem? (i := 69) (by decide +kernel)
theorem k70 : Cond.fieldLink R_B 98 "ExactEstimates$Passage" "f00" "I" ∈ lw_tbl := List.mem_of_getElem? (i := 70) (by decide +kernel)
theorem k71 : Cond.fieldLink R_Q 13 "ExactEstimates$Passage" "f01" "I" ∈ lw_tbl := List.mem_of_getElem? (i := 71) (by decide +kernel)
theorem k72 : Cond.fieldLink R_B 92 "ExactEstimates$Passage" "f01" "I" ∈ lw_tbl := List.mem_of_getElem? (i := 72) (by decide +kernel)
theorem k73 : Cond.fieldLink R_Q 16 "ExactEstimates$Passage" "f10" "I" ∈ lw_tbl := List.mem_of_getElem? (i := 73) (by decide +kernel)
theorem k74 : Cond.fieldLink R_B 95 "ExactEstimates$Passage" "f10" "I" ∈ lw_tbl := List.mem_of_getElem? (i := 74) (by decide +kernel)
theorem k75 : Cond.fieldLink R_Q 19 "ExactEstimates$Passage" "f11" "I" ∈ lw_tbl := List.mem_of_getElem? (i := 75) (by decide +kernel)
theorem k76 : Cond.fieldLink R_B 89 "ExactEstimates$Passage" "f11" "I" ∈ lw_tbl := List.mem_of_getElem? (i := 76) (by decide +kernel)
theorem k77 : Cond.fieldLink R_Q 22 "ExactEstimates$Passage" "q00" "I" ∈ lw_tbl := List.mem_of_getElem? (i := 77) (by decide +kernel)
theorem k78 : Cond.fieldLink R_B 74 "ExactEstimates$Passage" "q00" "I" ∈ lw_tbl := List.mem_of_getElem? (i := 78) (by decide +kernel)
theorem k79 : Cond.fieldLink R_Q 25 "ExactEstimates$Passage" "q01" "I" ∈ lw_tbl := List.mem_of_getElem? (i := 79) (by decide +kernel)
theorem k80 : Cond.fieldLink R_B 82 "ExactEstimates$Passage" "q01" "I" ∈ lw_tbl := List.mem_of_getElem? (i := 80) (by decide +kernel)
theorem k81 : Cond.fieldLink R_Q 28 "ExactEstimates$Passage" "q11" "I" ∈ lw_tbl := List.mem_of_getElem? (i := 81) (by decide +kernel)
theorem k82 : Cond.fieldLink R_B 79 "ExactEstimates$Passage" "q11" "I" ∈ lw_tbl := List.mem_of_getElem? (i := 82) (by decide +kernel)
theorem k98 : Cond.arrayClass .int ∈ lw_tbl := List.mem_of_getElem? (i := 98) (by decide +kernel)
theorem k99 : Cond.instantiable R_B (9 : Nat) ∈ lw_tbl := List.mem_of_getElem? (i := 99) (by decide +kernel)
theorem k100 : Cond.methodLinkNest R_E 36 y_B_init "ExactEstimates" ∈ lw_tbl := List.mem_of_getElem? (i := 100) (by decide +kernel)
theorem k101 : Cond.instanceMethod y_B_init ∈ lw_tbl := List.mem_of_getElem? (i := 101) (by decide +kernel)
theorem k102 : Cond.code y_B_init b_B_init 1 none ∈ lw_tbl := List.mem_of_getElem? (i := 102) (by decide +kernel)
theorem k103 : Cond.methodLink R_B 1 objectInit ∈ lw_tbl := List.mem_of_getElem? (i := 103) (by decide +kernel)
theorem k104 : Cond.classLink R_B 7 R_W ∈ lw_tbl := List.mem_of_getElem? (i := 104) (by decide +kernel)
theorem k105 : Cond.instantiable R_W (1 : Nat) ∈ lw_tbl := List.mem_of_getElem? (i := 105) (by decide +kernel)
theorem k106 : Cond.methodLinkNest R_B 9 y_W_init "ExactEstimates" ∈ lw_tbl := List.mem_of_getElem? (i := 106) (by decide +kernel)
theorem k107 : Cond.instanceMethod y_W_init ∈ lw_tbl := List.mem_of_getElem? (i := 107) (by decide +kernel)
theorem k108 : Cond.code y_W_init b_W_init 1 none ∈ lw_tbl := List.mem_of_getElem? (i := 108) (by decide +kernel)
theorem k109 : Cond.methodLink R_W 3 objectInit ∈ lw_tbl := List.mem_of_getElem? (i := 109) (by decide +kernel)
theorem k110 : Cond.fieldLink R_W 9 "ExactEstimates$Whole" "limbs" "[J" ∈ lw_tbl := List.mem_of_getElem? (i := 110) (by decide +kernel)
theorem k114 : Cond.arrayClass .long ∈ lw_tbl := List.mem_of_getElem? (i := 114) (by decide +kernel)
theorem k115 : Cond.fieldLink R_B 10 "ExactEstimates$Belief" "unit" "LExactEstimates$Whole;" ∈ lw_tbl := List.mem_of_getElem? (i := 115) (by decide +kernel)
theorem k116 : Cond.fieldLink R_B 16 "ExactEstimates$Belief" "l00" "LExactEstimates$Whole;" ∈ lw_tbl := List.mem_of_getElem? (i := 116) (by decide +kernel)
theorem k117 : Cond.fieldLink R_B 19 "ExactEstimates$Belief" "l01" "LExactEstimates$Whole;" ∈ lw_tbl := List.mem_of_getElem? (i := 117) (by decide +kernel)
theorem k118 : Cond.fieldLink R_B 22 "ExactEstimates$Belief" "l11" "LExactEstimates$Whole;" ∈ lw_tbl := List.mem_of_getElem? (i := 118) (by decide +kernel)
theorem k119 : Cond.fieldLink R_B 25 "ExactEstimates$Belief" "det" "LExactEstimates$Whole;" ∈ lw_tbl := List.mem_of_getElem? (i := 119) (by decide +kernel)
theorem k120 : Cond.fieldLink R_E 164 "ExactEstimates$Belief" "det" "LExactEstimates$Whole;" ∈ lw_tbl := List.mem_of_getElem? (i := 120) (by decide +kernel)
theorem k121 : Cond.fieldLink R_B 28 "ExactEstimates$Belief" "v0" "LExactEstimates$Whole;" ∈ lw_tbl := List.mem_of_getElem? (i := 121) (by decide +kernel)
theorem k122 : Cond.fieldLink R_B 31 "ExactEstimates$Belief" "v1" "LExactEstimates$Whole;" ∈ lw_tbl := List.mem_of_getElem? (i := 122) (by decide +kernel)
theorem k123 : Cond.fieldLink R_B 34 "ExactEstimates$Belief" "c0" "LExactEstimates$Whole;" ∈ lw_tbl := List.mem_of_getElem? (i := 123) (by decide +kernel)
theorem k124 : Cond.fieldLink R_E 173 "ExactEstimates$Belief" "c0" "LExactEstimates$Whole;" ∈ lw_tbl := List.mem_of_getElem? (i := 124) (by decide +kernel)
theorem k125 : Cond.fieldLink R_B 37 "ExactEstimates$Belief" "c1" "LExactEstimates$Whole;" ∈ lw_tbl := List.mem_of_getElem? (i := 125) (by decide +kernel)
theorem k126 : Cond.fieldLink R_E 179 "ExactEstimates$Belief" "c1" "LExactEstimates$Whole;" ∈ lw_tbl := List.mem_of_getElem? (i := 126) (by decide +kernel)
theorem k146 : Cond.classLink R_E 47 R_W ∈ lw_tbl := List.mem_of_getElem? (i := 146) (by decide +kernel)
theorem k147 : Cond.methodLinkNest R_E 49 y_W_init "ExactEstimates" ∈ lw_tbl := List.mem_of_getElem? (i := 147) (by decide +kernel)
theorem k148 : Cond.instantiable R_O (6 : Nat) ∈ lw_tbl := List.mem_of_getElem? (i := 148) (by decide +kernel)
theorem k149 : Cond.methodLinkNest R_E 63 y_O_init "ExactEstimates" ∈ lw_tbl := List.mem_of_getElem? (i := 149) (by decide +kernel)
theorem k150 : Cond.instanceMethod y_O_init ∈ lw_tbl := List.mem_of_getElem? (i := 150) (by decide +kernel)
theorem k151 : Cond.code y_O_init b_O_init 1 none ∈ lw_tbl := List.mem_of_getElem? (i := 151) (by decide +kernel)
theorem k152 : Cond.methodLink R_O 1 objectInit ∈ lw_tbl := List.mem_of_getElem? (i := 152) (by decide +kernel)
theorem k153 : Cond.fieldLink R_O 7 "ExactEstimates$Observation" "h0" "I" ∈ lw_tbl := List.mem_of_getElem? (i := 153) (by decide +kernel)
theorem k154 : Cond.fieldLink R_B 48 "ExactEstimates$Observation" "h0" "I" ∈ lw_tbl := List.mem_of_getElem? (i := 154) (by decide +kernel)
theorem k155 : Cond.fieldLink R_E 176 "ExactEstimates$Observation" "h0" "I" ∈ lw_tbl := List.mem_of_getElem? (i := 155) (by decide +kernel)
theorem k156 : Cond.fieldLink R_O 13 "ExactEstimates$Observation" "h1" "I" ∈ lw_tbl := List.mem_of_getElem? (i := 156) (by decide +kernel)
theorem k157 : Cond.fieldLink R_B 54 "ExactEstimates$Observation" "h1" "I" ∈ lw_tbl := List.mem_of_getElem? (i := 157) (by decide +kernel)
theorem k158 : Cond.fieldLink R_E 182 "ExactEstimates$Observation" "h1" "I" ∈ lw_tbl := List.mem_of_getElem? (i := 158) (by decide +kernel)
theorem k159 : Cond.fieldLink R_O 16 "ExactEstimates$Observation" "\x72" "I" ∈ lw_tbl := List.mem_of_getElem? (i := 159) (by decide +kernel)
theorem k160 : Cond.fieldLink R_B 57 "ExactEstimates$Observation" "\x72" "I" ∈ lw_tbl := List.mem_of_getElem? (i := 160) (by decide +kernel)
theorem k161 : Cond.fieldLink R_O 19 "ExactEstimates$Observation" "z" "I" ∈ lw_tbl := List.mem_of_getElem? (i := 161) (by decide +kernel)
theorem k162 : Cond.fieldLink R_B 60 "ExactEstimates$Observation" "z" "I" ∈ lw_tbl := List.mem_of_getElem? (i := 162) (by decide +kernel)
theorem k163 : Cond.fieldLink R_E 170 "ExactEstimates$Observation" "z" "I" ∈ lw_tbl := List.mem_of_getElem? (i := 163) (by decide +kernel)
theorem k164 : Cond.fieldLink R_O 22 "ExactEstimates$Observation" "at" "I" ∈ lw_tbl := List.mem_of_getElem? (i := 164) (by decide +kernel)
theorem k165 : Cond.fieldLink R_E 200 "ExactEstimates$Observation" "at" "I" ∈ lw_tbl := List.mem_of_getElem? (i := 165) (by decide +kernel)
theorem k166 : Cond.fieldLink R_O 25 "ExactEstimates$Observation" "before" "I" ∈ lw_tbl := List.mem_of_getElem? (i := 166) (by decide +kernel)
theorem k167 : Cond.fieldLink R_E 161 "ExactEstimates$Observation" "before" "I" ∈ lw_tbl := List.mem_of_getElem? (i := 167) (by decide +kernel)
theorem k181 : Cond.methodLink R_E 64 y_Q_setStep ∈ lw_tbl := List.mem_of_getElem? (i := 181) (by decide +kernel)
theorem k182 : Cond.instanceMethod y_Q_setStep ∈ lw_tbl := List.mem_of_getElem? (i := 182) (by decide +kernel)
theorem k183 : Cond.selects R_Q y_Q_setStep y_Q_setStep ∈ lw_tbl := List.mem_of_getElem? (i := 183) (by decide +kernel)
theorem k184 : Cond.code y_Q_setStep b_Q_setStep 5 none ∈ lw_tbl := List.mem_of_getElem? (i := 184) (by decide +kernel)
theorem k185 : Cond.methodLink R_E 68 y_Q_setNoise ∈ lw_tbl := List.mem_of_getElem? (i := 185) (by decide +kernel)
theorem k186 : Cond.instanceMethod y_Q_setNoise ∈ lw_tbl := List.mem_of_getElem? (i := 186) (by decide +kernel)
theorem k187 : Cond.selects R_Q y_Q_setNoise y_Q_setNoise ∈ lw_tbl := List.mem_of_getElem? (i := 187) (by decide +kernel)
theorem k188 : Cond.code y_Q_setNoise b_Q_setNoise 4 none ∈ lw_tbl := List.mem_of_getElem? (i := 188) (by decide +kernel)
theorem k189 : Cond.methodLink R_E 72 y_B_setEstimate ∈ lw_tbl := List.mem_of_getElem? (i := 189) (by decide +kernel)
theorem k190 : Cond.instanceMethod y_B_setEstimate ∈ lw_tbl := List.mem_of_getElem? (i := 190) (by decide +kernel)
theorem k191 : Cond.selects R_B y_B_setEstimate y_B_setEstimate ∈ lw_tbl := List.mem_of_getElem? (i := 191) (by decide +kernel)
theorem k192 : Cond.code y_B_setEstimate b_B_setEstimate 6 none ∈ lw_tbl := List.mem_of_getElem? (i := 192) (by decide +kernel)
theorem k193 : Cond.methodLink R_B 40 y_W_set ∈ lw_tbl := List.mem_of_getElem? (i := 193) (by decide +kernel)
theorem k194 : Cond.instanceMethod y_W_set ∈ lw_tbl := List.mem_of_getElem? (i := 194) (by decide +kernel)
theorem k195 : Cond.selects R_W y_W_set y_W_set ∈ lw_tbl := List.mem_of_getElem? (i := 195) (by decide +kernel)
theorem k196 : Cond.code y_W_set b_W_set 5 none ∈ lw_tbl := List.mem_of_getElem? (i := 196) (by decide +kernel)
theorem k197 : Cond.constantLong R_W 13 (4294967295) ∈ lw_tbl := List.mem_of_getElem? (i := 197) (by decide +kernel)
theorem k198 : Cond.fieldLink R_E 11 "ExactEstimates" "beliefs" "[LExactEstimates$Belief;" ∈ lw_tbl := List.mem_of_getElem? (i := 198) (by decide +kernel)
theorem k199 : Cond.fieldLink R_E 15 "ExactEstimates" "predictedAt" "[I" ∈ lw_tbl := List.mem_of_getElem? (i := 199) (by decide +kernel)
theorem k200 : Cond.fieldLink R_E 21 "ExactEstimates" "seen" "[LExactEstimates$Observation;" ∈ lw_tbl := List.mem_of_getElem? (i := 200) (by decide +kernel)
theorem k201 : Cond.fieldLink R_E 27 "ExactEstimates" "passages" "[LExactEstimates$Passage;" ∈ lw_tbl := List.mem_of_getElem? (i := 201) (by decide +kernel)
theorem k202 : Cond.fieldLink R_E 32 "ExactEstimates" "coming" "LExactEstimates$Passage;" ∈ lw_tbl := List.mem_of_getElem? (i := 202) (by decide +kernel)
theorem k203 : Cond.fieldLink R_E 87 "ExactEstimates" "now" "I" ∈ lw_tbl := List.mem_of_getElem? (i := 203) (by decide +kernel)
theorem k204 : Cond.fieldLink R_E 91 "ExactEstimates" "seenCount" "I" ∈ lw_tbl := List.mem_of_getElem? (i := 204) (by decide +kernel)
theorem k205 : Cond.fieldLink R_E 37 "ExactEstimates" "hindsight" "LExactEstimates$Belief;" ∈ lw_tbl := List.mem_of_getElem? (i := 205) (by decide +kernel)
theorem k206 : Cond.fieldLink R_E 41 "ExactEstimates" "spare" "LExactEstimates$Belief;" ∈ lw_tbl := List.mem_of_getElem? (i := 206) (by decide +kernel)
theorem k207 : Cond.fieldLink R_E 44 "ExactEstimates" "joined" "LExactEstimates$Belief;" ∈ lw_tbl := List.mem_of_getElem? (i := 207) (by decide +kernel)
theorem k208 : Cond.fieldLink R_E 50 "ExactEstimates" "top" "LExactEstimates$Whole;" ∈ lw_tbl := List.mem_of_getElem? (i := 208) (by decide +kernel)
theorem k209 : Cond.fieldLink R_E 54 "ExactEstimates" "bottom" "LExactEstimates$Whole;" ∈ lw_tbl := List.mem_of_getElem? (i := 209) (by decide +kernel)
theorem k210 : Cond.fieldLink R_E 57 "ExactEstimates" "left" "LExactEstimates$Whole;" ∈ lw_tbl := List.mem_of_getElem? (i := 210) (by decide +kernel)
theorem k211 : Cond.fieldLink R_E 60 "ExactEstimates" "right" "LExactEstimates$Whole;" ∈ lw_tbl := List.mem_of_getElem? (i := 211) (by decide +kernel)
theorem k241 : Cond.methodLink R_L 13 y_E_initial ∈ lw_tbl := List.mem_of_getElem? (i := 241) (by decide +kernel)
theorem k242 : Cond.instanceMethod y_E_initial ∈ lw_tbl := List.mem_of_getElem? (i := 242) (by decide +kernel)
theorem k243 : Cond.selects R_E y_E_initial y_E_initial ∈ lw_tbl := List.mem_of_getElem? (i := 243) (by decide +kernel)
theorem k244 : Cond.code y_E_initial b_E_initial 6 (some .int) ∈ lw_tbl := List.mem_of_getElem? (i := 244) (by decide +kernel)
theorem k245 : Cond.methodLink R_E 76 y_E_within ∈ lw_tbl := List.mem_of_getElem? (i := 245) (by decide +kernel)
theorem k246 : Cond.static y_E_within ∈ lw_tbl := List.mem_of_getElem? (i := 246) (by decide +kernel)
theorem k247 : Cond.code y_E_within b_E_within 2 (some .boolean) ∈ lw_tbl := List.mem_of_getElem? (i := 247) (by decide +kernel)
theorem k248 : Cond.methodLink R_E 80 y_E_fitsCovariance ∈ lw_tbl := List.mem_of_getElem? (i := 248) (by decide +kernel)
theorem k249 : Cond.static y_E_fitsCovariance ∈ lw_tbl := List.mem_of_getElem? (i := 249) (by decide +kernel)
theorem k250 : Cond.code y_E_fitsCovariance b_E_fitsCovariance 3 (some .boolean) ∈ lw_tbl := List.mem_of_getElem? (i := 250) (by decide +kernel)
theorem k251 : Cond.methodLink R_E 84 y_E_isPositive ∈ lw_tbl := List.mem_of_getElem? (i := 251) (by decide +kernel)
theorem k252 : Cond.static y_E_isPositive ∈ lw_tbl := List.mem_of_getElem? (i := 252) (by decide +kernel)
theorem k253 : Cond.code y_E_isPositive b_E_isPositive 3 (some .boolean) ∈ lw_tbl := List.mem_of_getElem? (i := 253) (by decide +kernel)
theorem k254 : Cond.methodLink R_L 18 y_E_step ∈ lw_tbl := List.mem_of_getElem? (i := 254) (by decide +kernel)
theorem k255 : Cond.instanceMethod y_E_step ∈ lw_tbl := List.mem_of_getElem? (i := 255) (by decide +kernel)
theorem k256 : Cond.selects R_E y_E_step y_E_step ∈ lw_tbl := List.mem_of_getElem? (i := 256) (by decide +kernel)
theorem k257 : Cond.code y_E_step b_E_step 5 (some .boolean) ∈ lw_tbl := List.mem_of_getElem? (i := 257) (by decide +kernel)
theorem k258 : Cond.methodLink R_L 23 y_E_noise ∈ lw_tbl := List.mem_of_getElem? (i := 258) (by decide +kernel)
theorem k259 : Cond.instanceMethod y_E_noise ∈ lw_tbl := List.mem_of_getElem? (i := 259) (by decide +kernel)
theorem k260 : Cond.selects R_E y_E_noise y_E_noise ∈ lw_tbl := List.mem_of_getElem? (i := 260) (by decide +kernel)
theorem k261 : Cond.code y_E_noise b_E_noise 4 (some .int) ∈ lw_tbl := List.mem_of_getElem? (i := 261) (by decide +kernel)
theorem k262 : Cond.methodLink R_L 28 y_E_observe ∈ lw_tbl := List.mem_of_getElem? (i := 262) (by decide +kernel)
theorem k263 : Cond.instanceMethod y_E_observe ∈ lw_tbl := List.mem_of_getElem? (i := 263) (by decide +kernel)
theorem k264 : Cond.selects R_E y_E_observe y_E_observe ∈ lw_tbl := List.mem_of_getElem? (i := 264) (by decide +kernel)
theorem k265 : Cond.code y_E_observe b_E_observe 7 (some .int) ∈ lw_tbl := List.mem_of_getElem? (i := 265) (by decide +kernel)
theorem k266 : Cond.methodLink R_E 94 y_E_latest ∈ lw_tbl := List.mem_of_getElem? (i := 266) (by decide +kernel)
theorem k268 : Cond.instanceMethod y_E_latest ∈ lw_tbl := List.mem_of_getElem? (i := 268) (by decide +kernel)
theorem k269 : Cond.code y_E_latest b_E_latest 1 (some .int) ∈ lw_tbl := List.mem_of_getElem? (i := 269) (by decide +kernel)
theorem k270 : Cond.methodLink R_E 98 y_O_set ∈ lw_tbl := List.mem_of_getElem? (i := 270) (by decide +kernel)
theorem k271 : Cond.instanceMethod y_O_set ∈ lw_tbl := List.mem_of_getElem? (i := 271) (by decide +kernel)
theorem k272 : Cond.selects R_O y_O_set y_O_set ∈ lw_tbl := List.mem_of_getElem? (i := 272) (by decide +kernel)
theorem k273 : Cond.code y_O_set b_O_set 5 none ∈ lw_tbl := List.mem_of_getElem? (i := 273) (by decide +kernel)
theorem k274 : Cond.methodLink R_E 101 y_O_place ∈ lw_tbl := List.mem_of_getElem? (i := 274) (by decide +kernel)
theorem k275 : Cond.instanceMethod y_O_place ∈ lw_tbl := List.mem_of_getElem? (i := 275) (by decide +kernel)
theorem k276 : Cond.selects R_O y_O_place y_O_place ∈ lw_tbl := List.mem_of_getElem? (i := 276) (by decide +kernel)
theorem k277 : Cond.code y_O_place b_O_place 3 none ∈ lw_tbl := List.mem_of_getElem? (i := 277) (by decide +kernel)
theorem k278 : Cond.methodLink R_E 105 y_B_copy ∈ lw_tbl := List.mem_of_getElem? (i := 278) (by decide +kernel)
theorem k279 : Cond.instanceMethod y_B_copy ∈ lw_tbl := List.mem_of_getElem? (i := 279) (by decide +kernel)
theorem k280 : Cond.selects R_B y_B_copy y_B_copy ∈ lw_tbl := List.mem_of_getElem? (i := 280) (by decide +kernel)
theorem k281 : Cond.code y_B_copy b_B_copy 2 none ∈ lw_tbl := List.mem_of_getElem? (i := 281) (by decide +kernel)
theorem k282 : Cond.methodLink R_B 44 y_W_copy ∈ lw_tbl := List.mem_of_getElem? (i := 282) (by decide +kernel)
theorem k283 : Cond.instanceMethod y_W_copy ∈ lw_tbl := List.mem_of_getElem? (i := 283) (by decide +kernel)
theorem k284 : Cond.selects R_W y_W_copy y_W_copy ∈ lw_tbl := List.mem_of_getElem? (i := 284) (by decide +kernel)
theorem k285 : Cond.code y_W_copy b_W_copy 3 none ∈ lw_tbl := List.mem_of_getElem? (i := 285) (by decide +kernel)
theorem k286 : Cond.methodLink R_E 109 y_B_learn ∈ lw_tbl := List.mem_of_getElem? (i := 286) (by decide +kernel)
theorem k287 : Cond.instanceMethod y_B_learn ∈ lw_tbl := List.mem_of_getElem? (i := 287) (by decide +kernel)
theorem k288 : Cond.selects R_B y_B_learn y_B_learn ∈ lw_tbl := List.mem_of_getElem? (i := 288) (by decide +kernel)
theorem k289 : Cond.code y_B_learn b_B_learn 6 none ∈ lw_tbl := List.mem_of_getElem? (i := 289) (by decide +kernel)
theorem k290 : Cond.methodLink R_B 63 y_W_scale ∈ lw_tbl := List.mem_of_getElem? (i := 290) (by decide +kernel)
theorem k291 : Cond.instanceMethod y_W_scale ∈ lw_tbl := List.mem_of_getElem? (i := 291) (by decide +kernel)
theorem k292 : Cond.selects R_W y_W_scale y_W_scale ∈ lw_tbl := List.mem_of_getElem? (i := 292) (by decide +kernel)
theorem k293 : Cond.code y_W_scale b_W_scale 2 none ∈ lw_tbl := List.mem_of_getElem? (i := 293) (by decide +kernel)
theorem k294 : Cond.methodLink R_W 15 y_W_setTimes ∈ lw_tbl := List.mem_of_getElem? (i := 294) (by decide +kernel)
theorem k295 : Cond.instanceMethod y_W_setTimes ∈ lw_tbl := List.mem_of_getElem? (i := 295) (by decide +kernel)
theorem k296 : Cond.selects R_W y_W_setTimes y_W_setTimes ∈ lw_tbl := List.mem_of_getElem? (i := 296) (by decide +kernel)
theorem k297 : Cond.code y_W_setTimes b_W_setTimes 8 none ∈ lw_tbl := List.mem_of_getElem? (i := 297) (by decide +kernel)
theorem k298 : Cond.methodLink R_B 66 y_W_addSum ∈ lw_tbl := List.mem_of_getElem? (i := 298) (by decide +kernel)
theorem k299 : Cond.instanceMethod y_W_addSum ∈ lw_tbl := List.mem_of_getElem? (i := 299) (by decide +kernel)
theorem k300 : Cond.selects R_W y_W_addSum y_W_addSum ∈ lw_tbl := List.mem_of_getElem? (i := 300) (by decide +kernel)
theorem k301 : Cond.code y_W_addSum b_W_addSum 5 none ∈ lw_tbl := List.mem_of_getElem? (i := 301) (by decide +kernel)
theorem k302 : Cond.methodLink R_W 19 y_W_addTimes ∈ lw_tbl := List.mem_of_getElem? (i := 302) (by decide +kernel)
theorem k303 : Cond.instanceMethod y_W_addTimes ∈ lw_tbl := List.mem_of_getElem? (i := 303) (by decide +kernel)
theorem k304 : Cond.selects R_W y_W_addTimes y_W_addTimes ∈ lw_tbl := List.mem_of_getElem? (i := 304) (by decide +kernel)
theorem k305 : Cond.code y_W_addTimes b_W_addTimes 8 none ∈ lw_tbl := List.mem_of_getElem? (i := 305) (by decide +kernel)
theorem k306 : Cond.methodLink R_B 70 y_W_addTimes ∈ lw_tbl := List.mem_of_getElem? (i := 306) (by decide +kernel)
theorem k307 : Cond.methodLink R_L 33 y_E_advance ∈ lw_tbl := List.mem_of_getElem? (i := 307) (by decide +kernel)
theorem k308 : Cond.instanceMethod y_E_advance ∈ lw_tbl := List.mem_of_getElem? (i := 308) (by decide +kernel)
theorem k309 : Cond.selects R_E y_E_advance y_E_advance ∈ lw_tbl := List.mem_of_getElem? (i := 309) (by decide +kernel)
theorem k310 : Cond.code y_E_advance b_E_advance 3 (some .int) ∈ lw_tbl := List.mem_of_getElem? (i := 310) (by decide +kernel)
theorem k311 : Cond.methodLink R_E 113 y_Q_copy ∈ lw_tbl := List.mem_of_getElem? (i := 311) (by decide +kernel)
theorem k312 : Cond.instanceMethod y_Q_copy ∈ lw_tbl := List.mem_of_getElem? (i := 312) (by decide +kernel)
theorem k313 : Cond.selects R_Q y_Q_copy y_Q_copy ∈ lw_tbl := List.mem_of_getElem? (i := 313) (by decide +kernel)
theorem k314 : Cond.code y_Q_copy b_Q_copy 2 none ∈ lw_tbl := List.mem_of_getElem? (i := 314) (by decide +kernel)
theorem k315 : Cond.methodLink R_Q 31 y_Q_setStep ∈ lw_tbl := List.mem_of_getElem? (i := 315) (by decide +kernel)
theorem k316 : Cond.methodLink R_Q 35 y_Q_setNoise ∈ lw_tbl := List.mem_of_getElem? (i := 316) (by decide +kernel)
theorem k317 : Cond.methodLink R_E 116 y_B_moveOn ∈ lw_tbl := List.mem_of_getElem? (i := 317) (by decide +kernel)
theorem k318 : Cond.instanceMethod y_B_moveOn ∈ lw_tbl := List.mem_of_getElem? (i := 318) (by decide +kernel)
theorem k319 : Cond.selects R_B y_B_moveOn y_B_moveOn ∈ lw_tbl := List.mem_of_getElem? (i := 319) (by decide +kernel)
theorem k320 : Cond.code y_B_moveOn b_B_moveOn 3 none ∈ lw_tbl := List.mem_of_getElem? (i := 320) (by decide +kernel)
theorem k321 : Cond.methodLink R_B 101 y_B_turn ∈ lw_tbl := List.mem_of_getElem? (i := 321) (by decide +kernel)
theorem k323 : Cond.instanceMethod y_B_turn ∈ lw_tbl := List.mem_of_getElem? (i := 323) (by decide +kernel)
theorem k324 : Cond.code y_B_turn b_B_turn 6 none ∈ lw_tbl := List.mem_of_getElem? (i := 324) (by decide +kernel)
theorem k325 : Cond.methodLink R_B 112 y_W_setSum ∈ lw_tbl := List.mem_of_getElem? (i := 325) (by decide +kernel)
theorem k326 : Cond.instanceMethod y_W_setSum ∈ lw_tbl := List.mem_of_getElem? (i := 326) (by decide +kernel)
theorem k327 : Cond.selects R_W y_W_setSum y_W_setSum ∈ lw_tbl := List.mem_of_getElem? (i := 327) (by decide +kernel)
theorem k328 : Cond.code y_W_setSum b_W_setSum 7 none ∈ lw_tbl := List.mem_of_getElem? (i := 328) (by decide +kernel)
theorem k329 : Cond.methodLink R_B 116 y_W_setTimes ∈ lw_tbl := List.mem_of_getElem? (i := 329) (by decide +kernel)
theorem k330 : Cond.methodLink R_B 105 y_Q_stepDeterminant ∈ lw_tbl := List.mem_of_getElem? (i := 330) (by decide +kernel)
theorem k331 : Cond.instanceMethod y_Q_stepDeterminant ∈ lw_tbl := List.mem_of_getElem? (i := 331) (by decide +kernel)
theorem k332 : Cond.selects R_Q y_Q_stepDeterminant y_Q_stepDeterminant ∈ lw_tbl := List.mem_of_getElem? (i := 332) (by decide +kernel)
theorem k333 : Cond.code y_Q_stepDeterminant b_Q_stepDeterminant 1 (some .int) ∈ lw_tbl := List.mem_of_getElem? (i := 333) (by decide +kernel)
theorem k334 : Cond.methodLink R_B 108 y_B_moveScales ∈ lw_tbl := List.mem_of_getElem? (i := 334) (by decide +kernel)
theorem k336 : Cond.instanceMethod y_B_moveScales ∈ lw_tbl := List.mem_of_getElem? (i := 336) (by decide +kernel)
theorem k337 : Cond.code y_B_moveScales b_B_moveScales 4 none ∈ lw_tbl := List.mem_of_getElem? (i := 337) (by decide +kernel)
theorem k338 : Cond.methodLink R_E 120 y_B_addNoise ∈ lw_tbl := List.mem_of_getElem? (i := 338) (by decide +kernel)
theorem k339 : Cond.instanceMethod y_B_addNoise ∈ lw_tbl := List.mem_of_getElem? (i := 339) (by decide +kernel)
theorem k340 : Cond.selects R_B y_B_addNoise y_B_addNoise ∈ lw_tbl := List.mem_of_getElem? (i := 340) (by decide +kernel)
theorem k341 : Cond.code y_B_addNoise b_B_addNoise 2 none ∈ lw_tbl := List.mem_of_getElem? (i := 341) (by decide +kernel)
theorem k342 : Cond.methodLink R_B 85 y_Q_noiseDeterminant ∈ lw_tbl := List.mem_of_getElem? (i := 342) (by decide +kernel)
theorem k343 : Cond.instanceMethod y_Q_noiseDeterminant ∈ lw_tbl := List.mem_of_getElem? (i := 343) (by decide +kernel)
theorem k344 : Cond.selects R_Q y_Q_noiseDeterminant y_Q_noiseDeterminant ∈ lw_tbl := List.mem_of_getElem? (i := 344) (by decide +kernel)
theorem k345 : Cond.code y_Q_noiseDeterminant b_Q_noiseDeterminant 1 (some .int) ∈ lw_tbl := List.mem_of_getElem? (i := 345) (by decide +kernel)
theorem k346 : Cond.methodLink R_L 38 y_E_time ∈ lw_tbl := List.mem_of_getElem? (i := 346) (by decide +kernel)
theorem k347 : Cond.instanceMethod y_E_time ∈ lw_tbl := List.mem_of_getElem? (i := 347) (by decide +kernel)
theorem k348 : Cond.selects R_E y_E_time y_E_time ∈ lw_tbl := List.mem_of_getElem? (i := 348) (by decide +kernel)
theorem k349 : Cond.code y_E_time b_E_time 1 (some .int) ∈ lw_tbl := List.mem_of_getElem? (i := 349) (by decide +kernel)
theorem k350 : Cond.methodLink R_L 42 y_E_observations ∈ lw_tbl := List.mem_of_getElem? (i := 350) (by decide +kernel)
theorem k351 : Cond.instanceMethod y_E_observations ∈ lw_tbl := List.mem_of_getElem? (i := 351) (by decide +kernel)
theorem k352 : Cond.selects R_E y_E_observations y_E_observations ∈ lw_tbl := List.mem_of_getElem? (i := 352) (by decide +kernel)
theorem k353 : Cond.code y_E_observations b_E_observations 1 (some .int) ∈ lw_tbl := List.mem_of_getElem? (i := 353) (by decide +kernel)
theorem k354 : Cond.methodLink R_L 46 y_E_sign ∈ lw_tbl := List.mem_of_getElem? (i := 354) (by decide +kernel)
theorem k355 : Cond.instanceMethod y_E_sign ∈ lw_tbl := List.mem_of_getElem? (i := 355) (by decide +kernel)
theorem k356 : Cond.selects R_E y_E_sign y_E_sign ∈ lw_tbl := List.mem_of_getElem? (i := 356) (by decide +kernel)
theorem k357 : Cond.code y_E_sign b_E_sign 4 (some .int) ∈ lw_tbl := List.mem_of_getElem? (i := 357) (by decide +kernel)
theorem k358 : Cond.methodLink R_E 123 y_E_find ∈ lw_tbl := List.mem_of_getElem? (i := 358) (by decide +kernel)
theorem k360 : Cond.instanceMethod y_E_find ∈ lw_tbl := List.mem_of_getElem? (i := 360) (by decide +kernel)
theorem k361 : Cond.code y_E_find b_E_find 4 (some .boolean) ∈ lw_tbl := List.mem_of_getElem? (i := 361) (by decide +kernel)
theorem k362 : Cond.methodLink R_E 150 y_E_findOfObservation ∈ lw_tbl := List.mem_of_getElem? (i := 362) (by decide +kernel)
theorem k364 : Cond.instanceMethod y_E_findOfObservation ∈ lw_tbl := List.mem_of_getElem? (i := 364) (by decide +kernel)
theorem k365 : Cond.code y_E_findOfObservation b_E_findOfObservation 5 (some .boolean) ∈ lw_tbl := List.mem_of_getElem? (i := 365) (by decide +kernel)
theorem k366 : Cond.methodLink R_E 167 y_W_copy ∈ lw_tbl := List.mem_of_getElem? (i := 366) (by decide +kernel)
theorem k367 : Cond.methodLink R_E 185 y_W_setSum ∈ lw_tbl := List.mem_of_getElem? (i := 367) (by decide +kernel)
theorem k368 : Cond.methodLink R_E 153 y_E_beliefOf ∈ lw_tbl := List.mem_of_getElem? (i := 368) (by decide +kernel)
theorem k370 : Cond.instanceMethod y_E_beliefOf ∈ lw_tbl := List.mem_of_getElem? (i := 370) (by decide +kernel)
theorem k371 : Cond.code y_E_beliefOf b_E_beliefOf 4 (some (.object "ExactEstimates$Belief")) ∈ lw_tbl := List.mem_of_getElem? (i := 371) (by decide +kernel)
theorem k372 : Cond.methodLink R_E 189 y_E_lookBackTo ∈ lw_tbl := List.mem_of_getElem? (i := 372) (by decide +kernel)
theorem k374 : Cond.instanceMethod y_E_lookBackTo ∈ lw_tbl := List.mem_of_getElem? (i := 374) (by decide +kernel)
theorem k375 : Cond.code y_E_lookBackTo b_E_lookBackTo 4 none ∈ lw_tbl := List.mem_of_getElem? (i := 375) (by decide +kernel)
theorem k376 : Cond.methodLink R_E 197 y_B_setBlank ∈ lw_tbl := List.mem_of_getElem? (i := 376) (by decide +kernel)
theorem k377 : Cond.instanceMethod y_B_setBlank ∈ lw_tbl := List.mem_of_getElem? (i := 377) (by decide +kernel)
theorem k378 : Cond.selects R_B y_B_setBlank y_B_setBlank ∈ lw_tbl := List.mem_of_getElem? (i := 378) (by decide +kernel)
theorem k379 : Cond.code y_B_setBlank b_B_setBlank 1 none ∈ lw_tbl := List.mem_of_getElem? (i := 379) (by decide +kernel)
theorem k380 : Cond.methodLink R_E 203 y_B_moveBack ∈ lw_tbl := List.mem_of_getElem? (i := 380) (by decide +kernel)
theorem k381 : Cond.instanceMethod y_B_moveBack ∈ lw_tbl := List.mem_of_getElem? (i := 381) (by decide +kernel)
theorem k382 : Cond.selects R_B y_B_moveBack y_B_moveBack ∈ lw_tbl := List.mem_of_getElem? (i := 382) (by decide +kernel)
theorem k383 : Cond.code y_B_moveBack b_B_moveBack 3 none ∈ lw_tbl := List.mem_of_getElem? (i := 383) (by decide +kernel)
theorem k384 : Cond.methodLink R_E 193 y_B_join ∈ lw_tbl := List.mem_of_getElem? (i := 384) (by decide +kernel)
theorem k385 : Cond.instanceMethod y_B_join ∈ lw_tbl := List.mem_of_getElem? (i := 385) (by decide +kernel)
theorem k386 : Cond.selects R_B y_B_join y_B_join ∈ lw_tbl := List.mem_of_getElem? (i := 386) (by decide +kernel)
theorem k387 : Cond.code y_B_join b_B_join 3 none ∈ lw_tbl := List.mem_of_getElem? (i := 387) (by decide +kernel)
theorem k388 : Cond.methodLink R_B 119 y_W_setProducts ∈ lw_tbl := List.mem_of_getElem? (i := 388) (by decide +kernel)
theorem k389 : Cond.instanceMethod y_W_setProducts ∈ lw_tbl := List.mem_of_getElem? (i := 389) (by decide +kernel)
theorem k390 : Cond.selects R_W y_W_setProducts y_W_setProducts ∈ lw_tbl := List.mem_of_getElem? (i := 390) (by decide +kernel)
theorem k391 : Cond.code y_W_setProducts b_W_setProducts 5 none ∈ lw_tbl := List.mem_of_getElem? (i := 391) (by decide +kernel)
theorem k392 : Cond.methodLink R_W 22 y_W_set ∈ lw_tbl := List.mem_of_getElem? (i := 392) (by decide +kernel)
theorem k393 : Cond.methodLink R_W 26 y_W_addProducts ∈ lw_tbl := List.mem_of_getElem? (i := 393) (by decide +kernel)
theorem k394 : Cond.instanceMethod y_W_addProducts ∈ lw_tbl := List.mem_of_getElem? (i := 394) (by decide +kernel)
theorem k395 : Cond.selects R_W y_W_addProducts y_W_addProducts ∈ lw_tbl := List.mem_of_getElem? (i := 395) (by decide +kernel)
theorem k396 : Cond.code y_W_addProducts b_W_addProducts 5 none ∈ lw_tbl := List.mem_of_getElem? (i := 396) (by decide +kernel)
theorem k397 : Cond.methodLink R_W 30 y_W_addProduct ∈ lw_tbl := List.mem_of_getElem? (i := 397) (by decide +kernel)
theorem k399 : Cond.instanceMethod y_W_addProduct ∈ lw_tbl := List.mem_of_getElem? (i := 399) (by decide +kernel)
theorem k400 : Cond.code y_W_addProduct b_W_addProduct 9 none ∈ lw_tbl := List.mem_of_getElem? (i := 400) (by decide +kernel)
theorem k401 : Cond.methodLink R_B 123 y_W_addProducts ∈ lw_tbl := List.mem_of_getElem? (i := 401) (by decide +kernel)
theorem k402 : Cond.methodLink R_E 157 y_B_tell ∈ lw_tbl := List.mem_of_getElem? (i := 402) (by decide +kernel)
theorem k403 : Cond.instanceMethod y_B_tell ∈ lw_tbl := List.mem_of_getElem? (i := 403) (by decide +kernel)
theorem k404 : Cond.selects R_B y_B_tell y_B_tell ∈ lw_tbl := List.mem_of_getElem? (i := 404) (by decide +kernel)
theorem k405 : Cond.code y_B_tell b_B_tell 4 none ∈ lw_tbl := List.mem_of_getElem? (i := 405) (by decide +kernel)
theorem k406 : Cond.methodLink R_E 126 y_W_side ∈ lw_tbl := List.mem_of_getElem? (i := 406) (by decide +kernel)
theorem k407 : Cond.instanceMethod y_W_side ∈ lw_tbl := List.mem_of_getElem? (i := 407) (by decide +kernel)
theorem k408 : Cond.selects R_W y_W_side y_W_side ∈ lw_tbl := List.mem_of_getElem? (i := 408) (by decide +kernel)
theorem k409 : Cond.code y_W_side b_W_side 2 (some .int) ∈ lw_tbl := List.mem_of_getElem? (i := 409) (by decide +kernel)
theorem k410 : Cond.constantLong R_W 34 (2147483648) ∈ lw_tbl := List.mem_of_getElem? (i := 410) (by decide +kernel)
theorem k411 : Cond.methodLink R_L 50 y_E_bits ∈ lw_tbl := List.mem_of_getElem? (i := 411) (by decide +kernel)
theorem k412 : Cond.instanceMethod y_E_bits ∈ lw_tbl := List.mem_of_getElem? (i := 412) (by decide +kernel)
theorem k413 : Cond.selects R_E y_E_bits y_E_bits ∈ lw_tbl := List.mem_of_getElem? (i := 413) (by decide +kernel)
theorem k414 : Cond.code y_E_bits b_E_bits 5 (some .int) ∈ lw_tbl := List.mem_of_getElem? (i := 414) (by decide +kernel)
theorem k415 : Cond.methodLink R_E 129 y_E_reduce ∈ lw_tbl := List.mem_of_getElem? (i := 415) (by decide +kernel)
theorem k417 : Cond.instanceMethod y_E_reduce ∈ lw_tbl := List.mem_of_getElem? (i := 417) (by decide +kernel)
theorem k418 : Cond.code y_E_reduce b_E_reduce 3 none ∈ lw_tbl := List.mem_of_getElem? (i := 418) (by decide +kernel)
theorem k419 : Cond.methodLink R_E 206 y_W_set ∈ lw_tbl := List.mem_of_getElem? (i := 419) (by decide +kernel)
theorem k420 : Cond.methodLink R_E 208 y_W_scale ∈ lw_tbl := List.mem_of_getElem? (i := 420) (by decide +kernel)
theorem k421 : Cond.methodLink R_E 211 y_E_dropCommonTwos ∈ lw_tbl := List.mem_of_getElem? (i := 421) (by decide +kernel)
theorem k423 : Cond.instanceMethod y_E_dropCommonTwos ∈ lw_tbl := List.mem_of_getElem? (i := 423) (by decide +kernel)
theorem k424 : Cond.code y_E_dropCommonTwos b_E_dropCommonTwos 3 none ∈ lw_tbl := List.mem_of_getElem? (i := 424) (by decide +kernel)
theorem k425 : Cond.methodLink R_E 221 y_W_lowZeros ∈ lw_tbl := List.mem_of_getElem? (i := 425) (by decide +kernel)
theorem k426 : Cond.instanceMethod y_W_lowZeros ∈ lw_tbl := List.mem_of_getElem? (i := 426) (by decide +kernel)
theorem k427 : Cond.selects R_W y_W_lowZeros y_W_lowZeros ∈ lw_tbl := List.mem_of_getElem? (i := 427) (by decide +kernel)
theorem k428 : Cond.code y_W_lowZeros b_W_lowZeros 2 (some .int) ∈ lw_tbl := List.mem_of_getElem? (i := 428) (by decide +kernel)
theorem k429 : Cond.methodLink R_E 224 y_K_min ∈ lw_tbl := List.mem_of_getElem? (i := 429) (by decide +kernel)
theorem k430 : Cond.static y_K_min ∈ lw_tbl := List.mem_of_getElem? (i := 430) (by decide +kernel)
theorem k431 : Cond.code y_K_min b_K_min 2 (some .int) ∈ lw_tbl := List.mem_of_getElem? (i := 431) (by decide +kernel)
theorem k432 : Cond.methodLink R_E 230 y_W_shiftRight ∈ lw_tbl := List.mem_of_getElem? (i := 432) (by decide +kernel)
theorem k433 : Cond.instanceMethod y_W_shiftRight ∈ lw_tbl := List.mem_of_getElem? (i := 433) (by decide +kernel)
theorem k434 : Cond.selects R_W y_W_shiftRight y_W_shiftRight ∈ lw_tbl := List.mem_of_getElem? (i := 434) (by decide +kernel)
theorem k435 : Cond.code y_W_shiftRight b_W_shiftRight 5 none ∈ lw_tbl := List.mem_of_getElem? (i := 435) (by decide +kernel)
theorem k436 : Cond.methodLink R_E 214 y_E_oddCommonDivisor ∈ lw_tbl := List.mem_of_getElem? (i := 436) (by decide +kernel)
theorem k438 : Cond.instanceMethod y_E_oddCommonDivisor ∈ lw_tbl := List.mem_of_getElem? (i := 438) (by decide +kernel)
theorem k439 : Cond.code y_E_oddCommonDivisor b_E_oddCommonDivisor 6 (some (.object "ExactEstimates$Whole")) ∈ lw_tbl := List.mem_of_getElem? (i := 439) (by decide +kernel)
theorem k440 : Cond.methodLink R_E 233 y_W_dropTwos ∈ lw_tbl := List.mem_of_getElem? (i := 440) (by decide +kernel)
theorem k441 : Cond.instanceMethod y_W_dropTwos ∈ lw_tbl := List.mem_of_getElem? (i := 441) (by decide +kernel)
theorem k442 : Cond.selects R_W y_W_dropTwos y_W_dropTwos ∈ lw_tbl := List.mem_of_getElem? (i := 442) (by decide +kernel)
theorem k443 : Cond.code y_W_dropTwos b_W_dropTwos 3 none ∈ lw_tbl := List.mem_of_getElem? (i := 443) (by decide +kernel)
theorem k444 : Cond.methodLink R_W 40 y_W_lowZeros ∈ lw_tbl := List.mem_of_getElem? (i := 444) (by decide +kernel)
theorem k445 : Cond.methodLink R_W 44 y_W_shiftRight ∈ lw_tbl := List.mem_of_getElem? (i := 445) (by decide +kernel)
theorem k446 : Cond.methodLink R_E 236 y_W_order ∈ lw_tbl := List.mem_of_getElem? (i := 446) (by decide +kernel)
theorem k447 : Cond.instanceMethod y_W_order ∈ lw_tbl := List.mem_of_getElem? (i := 447) (by decide +kernel)
theorem k448 : Cond.selects R_W y_W_order y_W_order ∈ lw_tbl := List.mem_of_getElem? (i := 448) (by decide +kernel)
theorem k449 : Cond.code y_W_order b_W_order 3 (some .int) ∈ lw_tbl := List.mem_of_getElem? (i := 449) (by decide +kernel)
theorem k450 : Cond.methodLink R_E 147 y_W_addTimes ∈ lw_tbl := List.mem_of_getElem? (i := 450) (by decide +kernel)
theorem k451 : Cond.methodLink R_E 218 y_W_divideByOdd ∈ lw_tbl := List.mem_of_getElem? (i := 451) (by decide +kernel)
theorem k452 : Cond.instanceMethod y_W_divideByOdd ∈ lw_tbl := List.mem_of_getElem? (i := 452) (by decide +kernel)
theorem k453 : Cond.selects R_W y_W_divideByOdd y_W_divideByOdd ∈ lw_tbl := List.mem_of_getElem? (i := 453) (by decide +kernel)
theorem k454 : Cond.code y_W_divideByOdd b_W_divideByOdd 7 none ∈ lw_tbl := List.mem_of_getElem? (i := 454) (by decide +kernel)
theorem k455 : Cond.methodLink R_W 47 y_W_inverseOfLimb ∈ lw_tbl := List.mem_of_getElem? (i := 455) (by decide +kernel)
theorem k456 : Cond.static y_W_inverseOfLimb ∈ lw_tbl := List.mem_of_getElem? (i := 456) (by decide +kernel)
theorem k457 : Cond.code y_W_inverseOfLimb b_W_inverseOfLimb 5 (some .long) ∈ lw_tbl := List.mem_of_getElem? (i := 457) (by decide +kernel)
theorem k458 : Cond.constantLong R_W 55 (2) ∈ lw_tbl := List.mem_of_getElem? (i := 458) (by decide +kernel)
theorem k459 : Cond.methodLink R_W 51 y_W_takeTimes ∈ lw_tbl := List.mem_of_getElem? (i := 459) (by decide +kernel)
theorem k461 : Cond.instanceMethod y_W_takeTimes ∈ lw_tbl := List.mem_of_getElem? (i := 461) (by decide +kernel)
theorem k462 : Cond.code y_W_takeTimes b_W_takeTimes 12 none ∈ lw_tbl := List.mem_of_getElem? (i := 462) (by decide +kernel)
theorem k463 : Cond.methodLink R_E 132 y_W_length ∈ lw_tbl := List.mem_of_getElem? (i := 463) (by decide +kernel)
theorem k464 : Cond.instanceMethod y_W_length ∈ lw_tbl := List.mem_of_getElem? (i := 464) (by decide +kernel)
theorem k465 : Cond.selects R_W y_W_length y_W_length ∈ lw_tbl := List.mem_of_getElem? (i := 465) (by decide +kernel)
theorem k466 : Cond.code y_W_length b_W_length 2 (some .int) ∈ lw_tbl := List.mem_of_getElem? (i := 466) (by decide +kernel)
theorem k467 : Cond.methodLink R_W 36 y_W_hasBit ∈ lw_tbl := List.mem_of_getElem? (i := 467) (by decide +kernel)
theorem k469 : Cond.instanceMethod y_W_hasBit ∈ lw_tbl := List.mem_of_getElem? (i := 469) (by decide +kernel)
theorem k470 : Cond.code y_W_hasBit b_W_hasBit 2 (some .boolean) ∈ lw_tbl := List.mem_of_getElem? (i := 470) (by decide +kernel)
theorem k471 : Cond.methodLink R_L 55 y_E_word ∈ lw_tbl := List.mem_of_getElem? (i := 471) (by decide +kernel)
theorem k472 : Cond.instanceMethod y_E_word ∈ lw_tbl := List.mem_of_getElem? (i := 472) (by decide +kernel)
theorem k473 : Cond.selects R_E y_E_word y_E_word ∈ lw_tbl := List.mem_of_getElem? (i := 473) (by decide +kernel)
theorem k474 : Cond.code y_E_word b_E_word 6 (some .long) ∈ lw_tbl := List.mem_of_getElem? (i := 474) (by decide +kernel)
theorem k475 : Cond.constantLong R_E 135 (-2) ∈ lw_tbl := List.mem_of_getElem? (i := 475) (by decide +kernel)
theorem k476 : Cond.constantLong R_E 137 (-3) ∈ lw_tbl := List.mem_of_getElem? (i := 476) (by decide +kernel)
theorem k477 : Cond.methodLink R_E 139 y_W_limb ∈ lw_tbl := List.mem_of_getElem? (i := 477) (by decide +kernel)
theorem k478 : Cond.instanceMethod y_W_limb ∈ lw_tbl := List.mem_of_getElem? (i := 478) (by decide +kernel)
theorem k479 : Cond.selects R_W y_W_limb y_W_limb ∈ lw_tbl := List.mem_of_getElem? (i := 479) (by decide +kernel)
theorem k480 : Cond.code y_W_limb b_W_limb 2 (some .long) ∈ lw_tbl := List.mem_of_getElem? (i := 480) (by decide +kernel)
theorem k481 : Cond.methodLink R_L 60 y_E_compare ∈ lw_tbl := List.mem_of_getElem? (i := 481) (by decide +kernel)
theorem k482 : Cond.instanceMethod y_E_compare ∈ lw_tbl := List.mem_of_getElem? (i := 482) (by decide +kernel)
theorem k483 : Cond.selects R_E y_E_compare y_E_compare ∈ lw_tbl := List.mem_of_getElem? (i := 483) (by decide +kernel)
theorem k484 : Cond.code y_E_compare b_E_compare 6 (some .int) ∈ lw_tbl := List.mem_of_getElem? (i := 484) (by decide +kernel)
theorem k485 : Cond.methodLink R_E 143 y_W_setTimes ∈ lw_tbl := List.mem_of_getElem? (i := 485) (by decide +kernel)
theorem k486 : Cond.classLink R_L 10 R_M ∈ lw_tbl := List.mem_of_getElem? (i := 486) (by decide +kernel)
theorem k487 : Cond.instantiable R_M (11 : Nat) ∈ lw_tbl := List.mem_of_getElem? (i := 487) (by decide +kernel)
theorem k488 : Cond.methodLink R_L 12 y_M_init ∈ lw_tbl := List.mem_of_getElem? (i := 488) (by decide +kernel)
theorem k489 : Cond.instanceMethod y_M_init ∈ lw_tbl := List.mem_of_getElem? (i := 489) (by decide +kernel)
theorem k490 : Cond.code y_M_init b_M_init 1 none ∈ lw_tbl := List.mem_of_getElem? (i := 490) (by decide +kernel)
theorem k491 : Cond.methodLink R_M 1 objectInit ∈ lw_tbl := List.mem_of_getElem? (i := 491) (by decide +kernel)
theorem k492 : Cond.methodLink R_M 34 y_M_begin ∈ lw_tbl := List.mem_of_getElem? (i := 492) (by decide +kernel)
theorem k494 : Cond.instanceMethod y_M_begin ∈ lw_tbl := List.mem_of_getElem? (i := 494) (by decide +kernel)
theorem k495 : Cond.code y_M_begin b_M_begin 6 none ∈ lw_tbl := List.mem_of_getElem? (i := 495) (by decide +kernel)
theorem k496 : Cond.methodLink R_M 101 y_M_put ∈ lw_tbl := List.mem_of_getElem? (i := 496) (by decide +kernel)
theorem k498 : Cond.instanceMethod y_M_put ∈ lw_tbl := List.mem_of_getElem? (i := 498) (by decide +kernel)
theorem k499 : Cond.code y_M_put b_M_put 5 none ∈ lw_tbl := List.mem_of_getElem? (i := 499) (by decide +kernel)
theorem k500 : Cond.constantLong R_M 38 (65535) ∈ lw_tbl := List.mem_of_getElem? (i := 500) (by decide +kernel)
theorem k501 : Cond.methodLink R_M 104 y_M_keep ∈ lw_tbl := List.mem_of_getElem? (i := 501) (by decide +kernel)
theorem k503 : Cond.instanceMethod y_M_keep ∈ lw_tbl := List.mem_of_getElem? (i := 503) (by decide +kernel)
theorem k504 : Cond.code y_M_keep b_M_keep 4 none ∈ lw_tbl := List.mem_of_getElem? (i := 504) (by decide +kernel)
theorem k505 : Cond.methodLink R_M 78 y_M_copy ∈ lw_tbl := List.mem_of_getElem? (i := 505) (by decide +kernel)
theorem k507 : Cond.instanceMethod y_M_copy ∈ lw_tbl := List.mem_of_getElem? (i := 507) (by decide +kernel)
theorem k508 : Cond.code y_M_copy b_M_copy 4 none ∈ lw_tbl := List.mem_of_getElem? (i := 508) (by decide +kernel)
theorem k509 : Cond.fieldLink R_M 7 "ExactEstimatesModel" "digit" "[I" ∈ lw_tbl := List.mem_of_getElem? (i := 509) (by decide +kernel)
theorem k510 : Cond.fieldLink R_M 13 "ExactEstimatesModel" "used" "[I" ∈ lw_tbl := List.mem_of_getElem? (i := 510) (by decide +kernel)
theorem k511 : Cond.fieldLink R_M 16 "ExactEstimatesModel" "sign" "[I" ∈ lw_tbl := List.mem_of_getElem? (i := 511) (by decide +kernel)
theorem k512 : Cond.fieldLink R_M 19 "ExactEstimatesModel" "row" "[I" ∈ lw_tbl := List.mem_of_getElem? (i := 512) (by decide +kernel)
theorem k513 : Cond.fieldLink R_M 22 "ExactEstimatesModel" "quotient" "[I" ∈ lw_tbl := List.mem_of_getElem? (i := 513) (by decide +kernel)
theorem k514 : Cond.fieldLink R_M 90 "ExactEstimatesModel" "now" "I" ∈ lw_tbl := List.mem_of_getElem? (i := 514) (by decide +kernel)
theorem k515 : Cond.fieldLink R_M 94 "ExactEstimatesModel" "count" "I" ∈ lw_tbl := List.mem_of_getElem? (i := 515) (by decide +kernel)
theorem k516 : Cond.fieldLink R_M 97 "ExactEstimatesModel" "smooth" "Z" ∈ lw_tbl := List.mem_of_getElem? (i := 516) (by decide +kernel)
theorem k517 : Cond.fieldLink R_M 25 "ExactEstimatesModel" "move" "[I" ∈ lw_tbl := List.mem_of_getElem? (i := 517) (by decide +kernel)
theorem k518 : Cond.fieldLink R_M 28 "ExactEstimatesModel" "shake" "[I" ∈ lw_tbl := List.mem_of_getElem? (i := 518) (by decide +kernel)
theorem k519 : Cond.fieldLink R_M 31 "ExactEstimatesModel" "moves" "[I" ∈ lw_tbl := List.mem_of_getElem? (i := 519) (by decide +kernel)
theorem k543 : Cond.methodLink R_L 17 y_M_initial ∈ lw_tbl := List.mem_of_getElem? (i := 543) (by decide +kernel)
theorem k544 : Cond.instanceMethod y_M_initial ∈ lw_tbl := List.mem_of_getElem? (i := 544) (by decide +kernel)
theorem k545 : Cond.selects R_M y_M_initial y_M_initial ∈ lw_tbl := List.mem_of_getElem? (i := 545) (by decide +kernel)
theorem k546 : Cond.code y_M_initial b_M_initial 6 (some .int) ∈ lw_tbl := List.mem_of_getElem? (i := 546) (by decide +kernel)
theorem k547 : Cond.methodLink R_M 107 y_M_bound ∈ lw_tbl := List.mem_of_getElem? (i := 547) (by decide +kernel)
theorem k548 : Cond.static y_M_bound ∈ lw_tbl := List.mem_of_getElem? (i := 548) (by decide +kernel)
theorem k549 : Cond.code y_M_bound b_M_bound 2 (some .boolean) ∈ lw_tbl := List.mem_of_getElem? (i := 549) (by decide +kernel)
theorem k550 : Cond.methodLink R_M 110 y_M_positive ∈ lw_tbl := List.mem_of_getElem? (i := 550) (by decide +kernel)
theorem k551 : Cond.static y_M_positive ∈ lw_tbl := List.mem_of_getElem? (i := 551) (by decide +kernel)
theorem k552 : Cond.code y_M_positive b_M_positive 3 (some .boolean) ∈ lw_tbl := List.mem_of_getElem? (i := 552) (by decide +kernel)
theorem k553 : Cond.methodLink R_L 22 y_M_step ∈ lw_tbl := List.mem_of_getElem? (i := 553) (by decide +kernel)
theorem k554 : Cond.instanceMethod y_M_step ∈ lw_tbl := List.mem_of_getElem? (i := 554) (by decide +kernel)
theorem k555 : Cond.selects R_M y_M_step y_M_step ∈ lw_tbl := List.mem_of_getElem? (i := 555) (by decide +kernel)
theorem k556 : Cond.code y_M_step b_M_step 5 (some .boolean) ∈ lw_tbl := List.mem_of_getElem? (i := 556) (by decide +kernel)
theorem k557 : Cond.methodLink R_L 27 y_M_noise ∈ lw_tbl := List.mem_of_getElem? (i := 557) (by decide +kernel)
theorem k558 : Cond.instanceMethod y_M_noise ∈ lw_tbl := List.mem_of_getElem? (i := 558) (by decide +kernel)
theorem k559 : Cond.selects R_M y_M_noise y_M_noise ∈ lw_tbl := List.mem_of_getElem? (i := 559) (by decide +kernel)
theorem k560 : Cond.code y_M_noise b_M_noise 4 (some .int) ∈ lw_tbl := List.mem_of_getElem? (i := 560) (by decide +kernel)
theorem k561 : Cond.methodLink R_L 32 y_M_observe ∈ lw_tbl := List.mem_of_getElem? (i := 561) (by decide +kernel)
theorem k562 : Cond.instanceMethod y_M_observe ∈ lw_tbl := List.mem_of_getElem? (i := 562) (by decide +kernel)
theorem k563 : Cond.selects R_M y_M_observe y_M_observe ∈ lw_tbl := List.mem_of_getElem? (i := 563) (by decide +kernel)
theorem k564 : Cond.code y_M_observe b_M_observe 11 (some .int) ∈ lw_tbl := List.mem_of_getElem? (i := 564) (by decide +kernel)
theorem k565 : Cond.methodLink R_M 117 y_M_gains ∈ lw_tbl := List.mem_of_getElem? (i := 565) (by decide +kernel)
theorem k567 : Cond.instanceMethod y_M_gains ∈ lw_tbl := List.mem_of_getElem? (i := 567) (by decide +kernel)
theorem k568 : Cond.code y_M_gains b_M_gains 6 none ∈ lw_tbl := List.mem_of_getElem? (i := 568) (by decide +kernel)
theorem k569 : Cond.methodLink R_M 52 y_M_scale ∈ lw_tbl := List.mem_of_getElem? (i := 569) (by decide +kernel)
theorem k571 : Cond.instanceMethod y_M_scale ∈ lw_tbl := List.mem_of_getElem? (i := 571) (by decide +kernel)
theorem k572 : Cond.code y_M_scale b_M_scale 11 none ∈ lw_tbl := List.mem_of_getElem? (i := 572) (by decide +kernel)
theorem k573 : Cond.methodLink R_M 40 y_M_digitOf ∈ lw_tbl := List.mem_of_getElem? (i := 573) (by decide +kernel)
theorem k575 : Cond.instanceMethod y_M_digitOf ∈ lw_tbl := List.mem_of_getElem? (i := 575) (by decide +kernel)
theorem k576 : Cond.code y_M_digitOf b_M_digitOf 3 (some .int) ∈ lw_tbl := List.mem_of_getElem? (i := 576) (by decide +kernel)
theorem k577 : Cond.methodLink R_M 45 y_M_store ∈ lw_tbl := List.mem_of_getElem? (i := 577) (by decide +kernel)
theorem k579 : Cond.instanceMethod y_M_store ∈ lw_tbl := List.mem_of_getElem? (i := 579) (by decide +kernel)
theorem k580 : Cond.code y_M_store b_M_store 6 none ∈ lw_tbl := List.mem_of_getElem? (i := 580) (by decide +kernel)
theorem k581 : Cond.methodLink R_M 114 y_M_gain ∈ lw_tbl := List.mem_of_getElem? (i := 581) (by decide +kernel)
theorem k583 : Cond.instanceMethod y_M_gain ∈ lw_tbl := List.mem_of_getElem? (i := 583) (by decide +kernel)
theorem k584 : Cond.code y_M_gain b_M_gain 5 none ∈ lw_tbl := List.mem_of_getElem? (i := 584) (by decide +kernel)
theorem k585 : Cond.methodLink R_M 55 y_M_sum ∈ lw_tbl := List.mem_of_getElem? (i := 585) (by decide +kernel)
theorem k587 : Cond.instanceMethod y_M_sum ∈ lw_tbl := List.mem_of_getElem? (i := 587) (by decide +kernel)
theorem k588 : Cond.code y_M_sum b_M_sum 13 none ∈ lw_tbl := List.mem_of_getElem? (i := 588) (by decide +kernel)
theorem k589 : Cond.constant R_M 44 (65535) ∈ lw_tbl := List.mem_of_getElem? (i := 589) (by decide +kernel)
theorem k590 : Cond.methodLink R_M 49 y_M_against ∈ lw_tbl := List.mem_of_getElem? (i := 590) (by decide +kernel)
theorem k592 : Cond.instanceMethod y_M_against ∈ lw_tbl := List.mem_of_getElem? (i := 592) (by decide +kernel)
theorem k593 : Cond.code y_M_against b_M_against 6 (some .int) ∈ lw_tbl := List.mem_of_getElem? (i := 593) (by decide +kernel)
theorem k594 : Cond.methodLink R_M 59 y_M_times ∈ lw_tbl := List.mem_of_getElem? (i := 594) (by decide +kernel)
theorem k596 : Cond.instanceMethod y_M_times ∈ lw_tbl := List.mem_of_getElem? (i := 596) (by decide +kernel)
theorem k597 : Cond.code y_M_times b_M_times 9 none ∈ lw_tbl := List.mem_of_getElem? (i := 597) (by decide +kernel)
theorem k598 : Cond.methodLink R_M 120 y_M_join ∈ lw_tbl := List.mem_of_getElem? (i := 598) (by decide +kernel)
theorem k600 : Cond.instanceMethod y_M_join ∈ lw_tbl := List.mem_of_getElem? (i := 600) (by decide +kernel)
theorem k601 : Cond.code y_M_join b_M_join 6 none ∈ lw_tbl := List.mem_of_getElem? (i := 601) (by decide +kernel)
theorem k602 : Cond.methodLink R_M 123 y_M_shrink ∈ lw_tbl := List.mem_of_getElem? (i := 602) (by decide +kernel)
theorem k604 : Cond.instanceMethod y_M_shrink ∈ lw_tbl := List.mem_of_getElem? (i := 604) (by decide +kernel)
theorem k605 : Cond.code y_M_shrink b_M_shrink 5 none ∈ lw_tbl := List.mem_of_getElem? (i := 605) (by decide +kernel)
theorem k606 : Cond.methodLink R_M 84 y_M_common ∈ lw_tbl := List.mem_of_getElem? (i := 606) (by decide +kernel)
theorem k608 : Cond.instanceMethod y_M_common ∈ lw_tbl := List.mem_of_getElem? (i := 608) (by decide +kernel)
theorem k609 : Cond.code y_M_common b_M_common 5 none ∈ lw_tbl := List.mem_of_getElem? (i := 609) (by decide +kernel)
theorem k610 : Cond.methodLink R_M 81 y_M_remainder ∈ lw_tbl := List.mem_of_getElem? (i := 610) (by decide +kernel)
theorem k612 : Cond.instanceMethod y_M_remainder ∈ lw_tbl := List.mem_of_getElem? (i := 612) (by decide +kernel)
theorem k613 : Cond.code y_M_remainder b_M_remainder 4 none ∈ lw_tbl := List.mem_of_getElem? (i := 613) (by decide +kernel)
theorem k614 : Cond.methodLink R_M 74 y_M_split ∈ lw_tbl := List.mem_of_getElem? (i := 614) (by decide +kernel)
theorem k616 : Cond.instanceMethod y_M_split ∈ lw_tbl := List.mem_of_getElem? (i := 616) (by decide +kernel)
theorem k617 : Cond.code y_M_split b_M_split 12 none ∈ lw_tbl := List.mem_of_getElem? (i := 617) (by decide +kernel)
theorem k618 : Cond.constantLong R_M 62 (65536) ∈ lw_tbl := List.mem_of_getElem? (i := 618) (by decide +kernel)
theorem k619 : Cond.methodLink R_M 64 y_M_fits ∈ lw_tbl := List.mem_of_getElem? (i := 619) (by decide +kernel)
theorem k621 : Cond.instanceMethod y_M_fits ∈ lw_tbl := List.mem_of_getElem? (i := 621) (by decide +kernel)
theorem k622 : Cond.code y_M_fits b_M_fits 6 (some .boolean) ∈ lw_tbl := List.mem_of_getElem? (i := 622) (by decide +kernel)
theorem k623 : Cond.constantLong R_M 68 (4294967296) ∈ lw_tbl := List.mem_of_getElem? (i := 623) (by decide +kernel)
theorem k624 : Cond.methodLink R_M 70 y_M_takeOff ∈ lw_tbl := List.mem_of_getElem? (i := 624) (by decide +kernel)
theorem k626 : Cond.instanceMethod y_M_takeOff ∈ lw_tbl := List.mem_of_getElem? (i := 626) (by decide +kernel)
theorem k627 : Cond.code y_M_takeOff b_M_takeOff 10 none ∈ lw_tbl := List.mem_of_getElem? (i := 627) (by decide +kernel)
theorem k628 : Cond.methodLink R_M 87 y_M_part ∈ lw_tbl := List.mem_of_getElem? (i := 628) (by decide +kernel)
theorem k630 : Cond.instanceMethod y_M_part ∈ lw_tbl := List.mem_of_getElem? (i := 630) (by decide +kernel)
theorem k631 : Cond.code y_M_part b_M_part 7 none ∈ lw_tbl := List.mem_of_getElem? (i := 631) (by decide +kernel)
theorem k632 : Cond.methodLink R_L 37 y_M_advance ∈ lw_tbl := List.mem_of_getElem? (i := 632) (by decide +kernel)
theorem k633 : Cond.instanceMethod y_M_advance ∈ lw_tbl := List.mem_of_getElem? (i := 633) (by decide +kernel)
theorem k634 : Cond.selects R_M y_M_advance y_M_advance ∈ lw_tbl := List.mem_of_getElem? (i := 634) (by decide +kernel)
theorem k635 : Cond.code y_M_advance b_M_advance 5 (some .int) ∈ lw_tbl := List.mem_of_getElem? (i := 635) (by decide +kernel)
theorem k636 : Cond.methodLink R_M 126 y_M_pair ∈ lw_tbl := List.mem_of_getElem? (i := 636) (by decide +kernel)
theorem k638 : Cond.instanceMethod y_M_pair ∈ lw_tbl := List.mem_of_getElem? (i := 638) (by decide +kernel)
theorem k639 : Cond.code y_M_pair b_M_pair 7 none ∈ lw_tbl := List.mem_of_getElem? (i := 639) (by decide +kernel)
theorem k640 : Cond.methodLink R_L 41 y_M_time ∈ lw_tbl := List.mem_of_getElem? (i := 640) (by decide +kernel)
theorem k641 : Cond.instanceMethod y_M_time ∈ lw_tbl := List.mem_of_getElem? (i := 641) (by decide +kernel)
theorem k642 : Cond.selects R_M y_M_time y_M_time ∈ lw_tbl := List.mem_of_getElem? (i := 642) (by decide +kernel)
theorem k643 : Cond.code y_M_time b_M_time 1 (some .int) ∈ lw_tbl := List.mem_of_getElem? (i := 643) (by decide +kernel)
theorem k644 : Cond.methodLink R_L 45 y_M_observations ∈ lw_tbl := List.mem_of_getElem? (i := 644) (by decide +kernel)
theorem k645 : Cond.instanceMethod y_M_observations ∈ lw_tbl := List.mem_of_getElem? (i := 645) (by decide +kernel)
theorem k646 : Cond.selects R_M y_M_observations y_M_observations ∈ lw_tbl := List.mem_of_getElem? (i := 646) (by decide +kernel)
theorem k647 : Cond.code y_M_observations b_M_observations 1 (some .int) ∈ lw_tbl := List.mem_of_getElem? (i := 647) (by decide +kernel)
theorem k648 : Cond.methodLink R_L 49 y_M_sign ∈ lw_tbl := List.mem_of_getElem? (i := 648) (by decide +kernel)
theorem k649 : Cond.instanceMethod y_M_sign ∈ lw_tbl := List.mem_of_getElem? (i := 649) (by decide +kernel)
theorem k650 : Cond.selects R_M y_M_sign y_M_sign ∈ lw_tbl := List.mem_of_getElem? (i := 650) (by decide +kernel)
theorem k651 : Cond.code y_M_sign b_M_sign 4 (some .int) ∈ lw_tbl := List.mem_of_getElem? (i := 651) (by decide +kernel)
theorem k652 : Cond.methodLink R_M 144 y_M_none ∈ lw_tbl := List.mem_of_getElem? (i := 652) (by decide +kernel)
theorem k654 : Cond.instanceMethod y_M_none ∈ lw_tbl := List.mem_of_getElem? (i := 654) (by decide +kernel)
theorem k655 : Cond.code y_M_none b_M_none 4 (some .boolean) ∈ lw_tbl := List.mem_of_getElem? (i := 655) (by decide +kernel)
theorem k656 : Cond.methodLink R_M 147 y_M_upper ∈ lw_tbl := List.mem_of_getElem? (i := 656) (by decide +kernel)
theorem k658 : Cond.instanceMethod y_M_upper ∈ lw_tbl := List.mem_of_getElem? (i := 658) (by decide +kernel)
theorem k659 : Cond.code y_M_upper b_M_upper 4 (some .int) ∈ lw_tbl := List.mem_of_getElem? (i := 659) (by decide +kernel)
theorem k660 : Cond.methodLink R_M 141 y_M_smoothAll ∈ lw_tbl := List.mem_of_getElem? (i := 660) (by decide +kernel)
theorem k662 : Cond.instanceMethod y_M_smoothAll ∈ lw_tbl := List.mem_of_getElem? (i := 662) (by decide +kernel)
theorem k663 : Cond.code y_M_smoothAll b_M_smoothAll 2 none ∈ lw_tbl := List.mem_of_getElem? (i := 663) (by decide +kernel)
theorem k664 : Cond.methodLink R_M 137 y_M_smoothAt ∈ lw_tbl := List.mem_of_getElem? (i := 664) (by decide +kernel)
theorem k666 : Cond.instanceMethod y_M_smoothAt ∈ lw_tbl := List.mem_of_getElem? (i := 666) (by decide +kernel)
theorem k667 : Cond.code y_M_smoothAt b_M_smoothAt 10 none ∈ lw_tbl := List.mem_of_getElem? (i := 667) (by decide +kernel)
theorem k668 : Cond.methodLink R_M 134 y_M_matrix ∈ lw_tbl := List.mem_of_getElem? (i := 668) (by decide +kernel)
theorem k670 : Cond.instanceMethod y_M_matrix ∈ lw_tbl := List.mem_of_getElem? (i := 670) (by decide +kernel)
theorem k671 : Cond.code y_M_matrix b_M_matrix 6 none ∈ lw_tbl := List.mem_of_getElem? (i := 671) (by decide +kernel)
theorem k672 : Cond.methodLink R_M 130 y_M_crossed ∈ lw_tbl := List.mem_of_getElem? (i := 672) (by decide +kernel)
theorem k674 : Cond.instanceMethod y_M_crossed ∈ lw_tbl := List.mem_of_getElem? (i := 674) (by decide +kernel)
theorem k675 : Cond.code y_M_crossed b_M_crossed 8 none ∈ lw_tbl := List.mem_of_getElem? (i := 675) (by decide +kernel)
theorem k676 : Cond.methodLink R_L 54 y_M_bits ∈ lw_tbl := List.mem_of_getElem? (i := 676) (by decide +kernel)
theorem k677 : Cond.instanceMethod y_M_bits ∈ lw_tbl := List.mem_of_getElem? (i := 677) (by decide +kernel)
theorem k678 : Cond.selects R_M y_M_bits y_M_bits ∈ lw_tbl := List.mem_of_getElem? (i := 678) (by decide +kernel)
theorem k679 : Cond.code y_M_bits b_M_bits 7 (some .int) ∈ lw_tbl := List.mem_of_getElem? (i := 679) (by decide +kernel)
theorem k680 : Cond.methodLink R_M 154 y_M_lowest ∈ lw_tbl := List.mem_of_getElem? (i := 680) (by decide +kernel)
theorem k682 : Cond.instanceMethod y_M_lowest ∈ lw_tbl := List.mem_of_getElem? (i := 682) (by decide +kernel)
theorem k683 : Cond.code y_M_lowest b_M_lowest 5 (some .int) ∈ lw_tbl := List.mem_of_getElem? (i := 683) (by decide +kernel)
theorem k684 : Cond.methodLink R_M 151 y_M_lowerOf ∈ lw_tbl := List.mem_of_getElem? (i := 684) (by decide +kernel)
theorem k686 : Cond.instanceMethod y_M_lowerOf ∈ lw_tbl := List.mem_of_getElem? (i := 686) (by decide +kernel)
theorem k687 : Cond.code y_M_lowerOf b_M_lowerOf 4 (some .int) ∈ lw_tbl := List.mem_of_getElem? (i := 687) (by decide +kernel)
theorem k688 : Cond.methodLink R_L 59 y_M_word ∈ lw_tbl := List.mem_of_getElem? (i := 688) (by decide +kernel)
theorem k689 : Cond.instanceMethod y_M_word ∈ lw_tbl := List.mem_of_getElem? (i := 689) (by decide +kernel)
theorem k690 : Cond.selects R_M y_M_word y_M_word ∈ lw_tbl := List.mem_of_getElem? (i := 690) (by decide +kernel)
theorem k691 : Cond.code y_M_word b_M_word 7 (some .long) ∈ lw_tbl := List.mem_of_getElem? (i := 691) (by decide +kernel)
theorem k692 : Cond.constantLong R_M 158 (-2) ∈ lw_tbl := List.mem_of_getElem? (i := 692) (by decide +kernel)
theorem k693 : Cond.constantLong R_M 160 (-3) ∈ lw_tbl := List.mem_of_getElem? (i := 693) (by decide +kernel)
theorem k694 : Cond.methodLink R_L 63 y_M_compare ∈ lw_tbl := List.mem_of_getElem? (i := 694) (by decide +kernel)
theorem k695 : Cond.instanceMethod y_M_compare ∈ lw_tbl := List.mem_of_getElem? (i := 695) (by decide +kernel)
theorem k696 : Cond.selects R_M y_M_compare y_M_compare ∈ lw_tbl := List.mem_of_getElem? (i := 696) (by decide +kernel)
theorem k697 : Cond.code y_M_compare b_M_compare 6 (some .int) ∈ lw_tbl := List.mem_of_getElem? (i := 697) (by decide +kernel)
