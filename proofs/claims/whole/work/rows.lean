section
-- ===== PART A: goes FIRST, ahead of the names: the tables' words, and 'selects' of the private methods out of them =====
/-- a private method of a class that the tables say can be made, by its rows of tables_1 -/
def lw_okq (q : MethodName × Nat) : Prop := (q.1.cls ≠ "java/lang/invoke/MethodHandle" ∧ q.1.cls ≠ "java/lang/invoke/VarHandle") ∧ Cond.instantiable q.1.cls q.2 ∈ tables_1 ∧ Cond.privateMethod q.1 ∈ tables_1 ∧ Cond.instanceMethod q.1 ∈ tables_1
theorem lw_p0 : lw_okq (⟨"ExactEstimates", "latest", "()I"⟩, 14) := ⟨⟨by decide +kernel, by decide +kernel⟩, List.mem_of_getElem? (i := 9) (by decide +kernel), List.mem_of_getElem? (i := 225) (by decide +kernel), List.mem_of_getElem? (i := 226) (by decide +kernel)⟩
theorem lw_p1 : lw_okq (⟨"ExactEstimates$Belief", "turn", "(LExactEstimates$Belief;IIII)V"⟩, 9) := ⟨⟨by decide +kernel, by decide +kernel⟩, List.mem_of_getElem? (i := 57) (by decide +kernel), List.mem_of_getElem? (i := 280) (by decide +kernel), List.mem_of_getElem? (i := 281) (by decide +kernel)⟩
theorem lw_p2 : lw_okq (⟨"ExactEstimates$Belief", "moveScales", "(LExactEstimates$Belief;II)V"⟩, 9) := ⟨⟨by decide +kernel, by decide +kernel⟩, List.mem_of_getElem? (i := 57) (by decide +kernel), List.mem_of_getElem? (i := 293) (by decide +kernel), List.mem_of_getElem? (i := 294) (by decide +kernel)⟩
theorem lw_p3 : lw_okq (⟨"ExactEstimates", "find", "(III)Z"⟩, 14) := ⟨⟨by decide +kernel, by decide +kernel⟩, List.mem_of_getElem? (i := 9) (by decide +kernel), List.mem_of_getElem? (i := 317) (by decide +kernel), List.mem_of_getElem? (i := 318) (by decide +kernel)⟩
theorem lw_p4 : lw_okq (⟨"ExactEstimates", "findOfObservation", "(II)Z"⟩, 14) := ⟨⟨by decide +kernel, by decide +kernel⟩, List.mem_of_getElem? (i := 9) (by decide +kernel), List.mem_of_getElem? (i := 321) (by decide +kernel), List.mem_of_getElem? (i := 322) (by decide +kernel)⟩
theorem lw_p5 : lw_okq (⟨"ExactEstimates", "beliefOf", "(II)LExactEstimates$Belief;"⟩, 14) := ⟨⟨by decide +kernel, by decide +kernel⟩, List.mem_of_getElem? (i := 9) (by decide +kernel), List.mem_of_getElem? (i := 327) (by decide +kernel), List.mem_of_getElem? (i := 328) (by decide +kernel)⟩
theorem lw_p6 : lw_okq (⟨"ExactEstimates", "lookBackTo", "(I)V"⟩, 14) := ⟨⟨by decide +kernel, by decide +kernel⟩, List.mem_of_getElem? (i := 9) (by decide +kernel), List.mem_of_getElem? (i := 331) (by decide +kernel), List.mem_of_getElem? (i := 332) (by decide +kernel)⟩
theorem lw_p7 : lw_okq (⟨"ExactEstimates$Whole", "addProduct", "(LExactEstimates$Whole;LExactEstimates$Whole;)V"⟩, 1) := ⟨⟨by decide +kernel, by decide +kernel⟩, List.mem_of_getElem? (i := 63) (by decide +kernel), List.mem_of_getElem? (i := 356) (by decide +kernel), List.mem_of_getElem? (i := 357) (by decide +kernel)⟩
theorem lw_p8 : lw_okq (⟨"ExactEstimates", "reduce", "()V"⟩, 14) := ⟨⟨by decide +kernel, by decide +kernel⟩, List.mem_of_getElem? (i := 9) (by decide +kernel), List.mem_of_getElem? (i := 374) (by decide +kernel), List.mem_of_getElem? (i := 375) (by decide +kernel)⟩
theorem lw_p9 : lw_okq (⟨"ExactEstimates", "dropCommonTwos", "()V"⟩, 14) := ⟨⟨by decide +kernel, by decide +kernel⟩, List.mem_of_getElem? (i := 9) (by decide +kernel), List.mem_of_getElem? (i := 380) (by decide +kernel), List.mem_of_getElem? (i := 381) (by decide +kernel)⟩
theorem lw_p10 : lw_okq (⟨"ExactEstimates", "oddCommonDivisor", "()LExactEstimates$Whole;"⟩, 14) := ⟨⟨by decide +kernel, by decide +kernel⟩, List.mem_of_getElem? (i := 9) (by decide +kernel), List.mem_of_getElem? (i := 395) (by decide +kernel), List.mem_of_getElem? (i := 396) (by decide +kernel)⟩
theorem lw_p11 : lw_okq (⟨"ExactEstimates$Whole", "takeTimes", "(LExactEstimates$Whole;JI)V"⟩, 1) := ⟨⟨by decide +kernel, by decide +kernel⟩, List.mem_of_getElem? (i := 63) (by decide +kernel), List.mem_of_getElem? (i := 418) (by decide +kernel), List.mem_of_getElem? (i := 419) (by decide +kernel)⟩
theorem lw_p12 : lw_okq (⟨"ExactEstimates$Whole", "hasBit", "(I)Z"⟩, 1) := ⟨⟨by decide +kernel, by decide +kernel⟩, List.mem_of_getElem? (i := 63) (by decide +kernel), List.mem_of_getElem? (i := 426) (by decide +kernel), List.mem_of_getElem? (i := 427) (by decide +kernel)⟩
theorem lw_p13 : lw_okq (⟨"ExactEstimatesModel", "begin", "(IIIII)V"⟩, 11) := ⟨⟨by decide +kernel, by decide +kernel⟩, List.mem_of_getElem? (i := 445) (by decide +kernel), List.mem_of_getElem? (i := 451) (by decide +kernel), List.mem_of_getElem? (i := 452) (by decide +kernel)⟩
theorem lw_p14 : lw_okq (⟨"ExactEstimatesModel", "put", "(II)V"⟩, 11) := ⟨⟨by decide +kernel, by decide +kernel⟩, List.mem_of_getElem? (i := 445) (by decide +kernel), List.mem_of_getElem? (i := 455) (by decide +kernel), List.mem_of_getElem? (i := 456) (by decide +kernel)⟩
theorem lw_p15 : lw_okq (⟨"ExactEstimatesModel", "keep", "(II)V"⟩, 11) := ⟨⟨by decide +kernel, by decide +kernel⟩, List.mem_of_getElem? (i := 445) (by decide +kernel), List.mem_of_getElem? (i := 460) (by decide +kernel), List.mem_of_getElem? (i := 461) (by decide +kernel)⟩
def lw_privs_1 : List (MethodName × Nat) := [(⟨"ExactEstimates", "latest", "()I"⟩, 14), (⟨"ExactEstimates$Belief", "turn", "(LExactEstimates$Belief;IIII)V"⟩, 9), (⟨"ExactEstimates$Belief", "moveScales", "(LExactEstimates$Belief;II)V"⟩, 9), (⟨"ExactEstimates", "find", "(III)Z"⟩, 14), (⟨"ExactEstimates", "findOfObservation", "(II)Z"⟩, 14), (⟨"ExactEstimates", "beliefOf", "(II)LExactEstimates$Belief;"⟩, 14), (⟨"ExactEstimates", "lookBackTo", "(I)V"⟩, 14), (⟨"ExactEstimates$Whole", "addProduct", "(LExactEstimates$Whole;LExactEstimates$Whole;)V"⟩, 1), (⟨"ExactEstimates", "reduce", "()V"⟩, 14), (⟨"ExactEstimates", "dropCommonTwos", "()V"⟩, 14), (⟨"ExactEstimates", "oddCommonDivisor", "()LExactEstimates$Whole;"⟩, 14), (⟨"ExactEstimates$Whole", "takeTimes", "(LExactEstimates$Whole;JI)V"⟩, 1), (⟨"ExactEstimates$Whole", "hasBit", "(I)Z"⟩, 1), (⟨"ExactEstimatesModel", "begin", "(IIIII)V"⟩, 11), (⟨"ExactEstimatesModel", "put", "(II)V"⟩, 11), (⟨"ExactEstimatesModel", "keep", "(II)V"⟩, 11)]
theorem lw_r1 : ∀ q ∈ lw_privs_1, lw_okq q := List.forall_mem_cons.mpr ⟨lw_p0, List.forall_mem_cons.mpr ⟨lw_p1, List.forall_mem_cons.mpr ⟨lw_p2, List.forall_mem_cons.mpr ⟨lw_p3, List.forall_mem_cons.mpr ⟨lw_p4, List.forall_mem_cons.mpr ⟨lw_p5, List.forall_mem_cons.mpr ⟨lw_p6, List.forall_mem_cons.mpr ⟨lw_p7, List.forall_mem_cons.mpr ⟨lw_p8, List.forall_mem_cons.mpr ⟨lw_p9, List.forall_mem_cons.mpr ⟨lw_p10, List.forall_mem_cons.mpr ⟨lw_p11, List.forall_mem_cons.mpr ⟨lw_p12, List.forall_mem_cons.mpr ⟨lw_p13, List.forall_mem_cons.mpr ⟨lw_p14, List.forall_mem_cons.mpr ⟨lw_p15, fun _ h => absurd h List.not_mem_nil⟩⟩⟩⟩⟩⟩⟩⟩⟩⟩⟩⟩⟩⟩⟩⟩
theorem lw_p16 : lw_okq (⟨"ExactEstimatesModel", "copy", "(II)V"⟩, 11) := ⟨⟨by decide +kernel, by decide +kernel⟩, List.mem_of_getElem? (i := 445) (by decide +kernel), List.mem_of_getElem? (i := 464) (by decide +kernel), List.mem_of_getElem? (i := 465) (by decide +kernel)⟩
theorem lw_p17 : lw_okq (⟨"ExactEstimatesModel", "gains", "(IIII)V"⟩, 11) := ⟨⟨by decide +kernel, by decide +kernel⟩, List.mem_of_getElem? (i := 445) (by decide +kernel), List.mem_of_getElem? (i := 524) (by decide +kernel), List.mem_of_getElem? (i := 525) (by decide +kernel)⟩
theorem lw_p18 : lw_okq (⟨"ExactEstimatesModel", "scale", "(III)V"⟩, 11) := ⟨⟨by decide +kernel, by decide +kernel⟩, List.mem_of_getElem? (i := 445) (by decide +kernel), List.mem_of_getElem? (i := 528) (by decide +kernel), List.mem_of_getElem? (i := 529) (by decide +kernel)⟩
theorem lw_p19 : lw_okq (⟨"ExactEstimatesModel", "digitOf", "(II)I"⟩, 11) := ⟨⟨by decide +kernel, by decide +kernel⟩, List.mem_of_getElem? (i := 445) (by decide +kernel), List.mem_of_getElem? (i := 532) (by decide +kernel), List.mem_of_getElem? (i := 533) (by decide +kernel)⟩
theorem lw_p20 : lw_okq (⟨"ExactEstimatesModel", "store", "(III)V"⟩, 11) := ⟨⟨by decide +kernel, by decide +kernel⟩, List.mem_of_getElem? (i := 445) (by decide +kernel), List.mem_of_getElem? (i := 536) (by decide +kernel), List.mem_of_getElem? (i := 537) (by decide +kernel)⟩
theorem lw_p21 : lw_okq (⟨"ExactEstimatesModel", "gain", "(IIII)V"⟩, 11) := ⟨⟨by decide +kernel, by decide +kernel⟩, List.mem_of_getElem? (i := 445) (by decide +kernel), List.mem_of_getElem? (i := 540) (by decide +kernel), List.mem_of_getElem? (i := 541) (by decide +kernel)⟩
theorem lw_p22 : lw_okq (⟨"ExactEstimatesModel", "sum", "(IIII)V"⟩, 11) := ⟨⟨by decide +kernel, by decide +kernel⟩, List.mem_of_getElem? (i := 445) (by decide +kernel), List.mem_of_getElem? (i := 544) (by decide +kernel), List.mem_of_getElem? (i := 545) (by decide +kernel)⟩
theorem lw_p23 : lw_okq (⟨"ExactEstimatesModel", "against", "(II)I"⟩, 11) := ⟨⟨by decide +kernel, by decide +kernel⟩, List.mem_of_getElem? (i := 445) (by decide +kernel), List.mem_of_getElem? (i := 549) (by decide +kernel), List.mem_of_getElem? (i := 550) (by decide +kernel)⟩
theorem lw_p24 : lw_okq (⟨"ExactEstimatesModel", "times", "(III)V"⟩, 11) := ⟨⟨by decide +kernel, by decide +kernel⟩, List.mem_of_getElem? (i := 445) (by decide +kernel), List.mem_of_getElem? (i := 553) (by decide +kernel), List.mem_of_getElem? (i := 554) (by decide +kernel)⟩
theorem lw_p25 : lw_okq (⟨"ExactEstimatesModel", "join", "(IIIII)V"⟩, 11) := ⟨⟨by decide +kernel, by decide +kernel⟩, List.mem_of_getElem? (i := 445) (by decide +kernel), List.mem_of_getElem? (i := 557) (by decide +kernel), List.mem_of_getElem? (i := 558) (by decide +kernel)⟩
theorem lw_p26 : lw_okq (⟨"ExactEstimatesModel", "shrink", "(II)V"⟩, 11) := ⟨⟨by decide +kernel, by decide +kernel⟩, List.mem_of_getElem? (i := 445) (by decide +kernel), List.mem_of_getElem? (i := 561) (by decide +kernel), List.mem_of_getElem? (i := 562) (by decide +kernel)⟩
theorem lw_p27 : lw_okq (⟨"ExactEstimatesModel", "common", "(IIII)V"⟩, 11) := ⟨⟨by decide +kernel, by decide +kernel⟩, List.mem_of_getElem? (i := 445) (by decide +kernel), List.mem_of_getElem? (i := 565) (by decide +kernel), List.mem_of_getElem? (i := 566) (by decide +kernel)⟩
theorem lw_p28 : lw_okq (⟨"ExactEstimatesModel", "remainder", "(III)V"⟩, 11) := ⟨⟨by decide +kernel, by decide +kernel⟩, List.mem_of_getElem? (i := 445) (by decide +kernel), List.mem_of_getElem? (i := 569) (by decide +kernel), List.mem_of_getElem? (i := 570) (by decide +kernel)⟩
theorem lw_p29 : lw_okq (⟨"ExactEstimatesModel", "split", "(II)V"⟩, 11) := ⟨⟨by decide +kernel, by decide +kernel⟩, List.mem_of_getElem? (i := 445) (by decide +kernel), List.mem_of_getElem? (i := 573) (by decide +kernel), List.mem_of_getElem? (i := 574) (by decide +kernel)⟩
theorem lw_p30 : lw_okq (⟨"ExactEstimatesModel", "fits", "(II)Z"⟩, 11) := ⟨⟨by decide +kernel, by decide +kernel⟩, List.mem_of_getElem? (i := 445) (by decide +kernel), List.mem_of_getElem? (i := 578) (by decide +kernel), List.mem_of_getElem? (i := 579) (by decide +kernel)⟩
theorem lw_p31 : lw_okq (⟨"ExactEstimatesModel", "takeOff", "(IIJ)V"⟩, 11) := ⟨⟨by decide +kernel, by decide +kernel⟩, List.mem_of_getElem? (i := 445) (by decide +kernel), List.mem_of_getElem? (i := 583) (by decide +kernel), List.mem_of_getElem? (i := 584) (by decide +kernel)⟩
def lw_privs_2 : List (MethodName × Nat) := [(⟨"ExactEstimatesModel", "copy", "(II)V"⟩, 11), (⟨"ExactEstimatesModel", "gains", "(IIII)V"⟩, 11), (⟨"ExactEstimatesModel", "scale", "(III)V"⟩, 11), (⟨"ExactEstimatesModel", "digitOf", "(II)I"⟩, 11), (⟨"ExactEstimatesModel", "store", "(III)V"⟩, 11), (⟨"ExactEstimatesModel", "gain", "(IIII)V"⟩, 11), (⟨"ExactEstimatesModel", "sum", "(IIII)V"⟩, 11), (⟨"ExactEstimatesModel", "against", "(II)I"⟩, 11), (⟨"ExactEstimatesModel", "times", "(III)V"⟩, 11), (⟨"ExactEstimatesModel", "join", "(IIIII)V"⟩, 11), (⟨"ExactEstimatesModel", "shrink", "(II)V"⟩, 11), (⟨"ExactEstimatesModel", "common", "(IIII)V"⟩, 11), (⟨"ExactEstimatesModel", "remainder", "(III)V"⟩, 11), (⟨"ExactEstimatesModel", "split", "(II)V"⟩, 11), (⟨"ExactEstimatesModel", "fits", "(II)Z"⟩, 11), (⟨"ExactEstimatesModel", "takeOff", "(IIJ)V"⟩, 11)]
theorem lw_r2 : ∀ q ∈ lw_privs_2, lw_okq q := List.forall_mem_cons.mpr ⟨lw_p16, List.forall_mem_cons.mpr ⟨lw_p17, List.forall_mem_cons.mpr ⟨lw_p18, List.forall_mem_cons.mpr ⟨lw_p19, List.forall_mem_cons.mpr ⟨lw_p20, List.forall_mem_cons.mpr ⟨lw_p21, List.forall_mem_cons.mpr ⟨lw_p22, List.forall_mem_cons.mpr ⟨lw_p23, List.forall_mem_cons.mpr ⟨lw_p24, List.forall_mem_cons.mpr ⟨lw_p25, List.forall_mem_cons.mpr ⟨lw_p26, List.forall_mem_cons.mpr ⟨lw_p27, List.forall_mem_cons.mpr ⟨lw_p28, List.forall_mem_cons.mpr ⟨lw_p29, List.forall_mem_cons.mpr ⟨lw_p30, List.forall_mem_cons.mpr ⟨lw_p31, fun _ h => absurd h List.not_mem_nil⟩⟩⟩⟩⟩⟩⟩⟩⟩⟩⟩⟩⟩⟩⟩⟩
theorem lw_p32 : lw_okq (⟨"ExactEstimatesModel", "part", "(III)V"⟩, 11) := ⟨⟨by decide +kernel, by decide +kernel⟩, List.mem_of_getElem? (i := 445) (by decide +kernel), List.mem_of_getElem? (i := 587) (by decide +kernel), List.mem_of_getElem? (i := 588) (by decide +kernel)⟩
theorem lw_p33 : lw_okq (⟨"ExactEstimatesModel", "pair", "(IIIIII)V"⟩, 11) := ⟨⟨by decide +kernel, by decide +kernel⟩, List.mem_of_getElem? (i := 445) (by decide +kernel), List.mem_of_getElem? (i := 595) (by decide +kernel), List.mem_of_getElem? (i := 596) (by decide +kernel)⟩
theorem lw_p34 : lw_okq (⟨"ExactEstimatesModel", "none", "(III)Z"⟩, 11) := ⟨⟨by decide +kernel, by decide +kernel⟩, List.mem_of_getElem? (i := 445) (by decide +kernel), List.mem_of_getElem? (i := 611) (by decide +kernel), List.mem_of_getElem? (i := 612) (by decide +kernel)⟩
theorem lw_p35 : lw_okq (⟨"ExactEstimatesModel", "upper", "(III)I"⟩, 11) := ⟨⟨by decide +kernel, by decide +kernel⟩, List.mem_of_getElem? (i := 445) (by decide +kernel), List.mem_of_getElem? (i := 615) (by decide +kernel), List.mem_of_getElem? (i := 616) (by decide +kernel)⟩
theorem lw_p36 : lw_okq (⟨"ExactEstimatesModel", "smoothAll", "()V"⟩, 11) := ⟨⟨by decide +kernel, by decide +kernel⟩, List.mem_of_getElem? (i := 445) (by decide +kernel), List.mem_of_getElem? (i := 619) (by decide +kernel), List.mem_of_getElem? (i := 620) (by decide +kernel)⟩
theorem lw_p37 : lw_okq (⟨"ExactEstimatesModel", "smoothAt", "(I)V"⟩, 11) := ⟨⟨by decide +kernel, by decide +kernel⟩, List.mem_of_getElem? (i := 445) (by decide +kernel), List.mem_of_getElem? (i := 623) (by decide +kernel), List.mem_of_getElem? (i := 624) (by decide +kernel)⟩
theorem lw_p38 : lw_okq (⟨"ExactEstimatesModel", "matrix", "(III)V"⟩, 11) := ⟨⟨by decide +kernel, by decide +kernel⟩, List.mem_of_getElem? (i := 445) (by decide +kernel), List.mem_of_getElem? (i := 627) (by decide +kernel), List.mem_of_getElem? (i := 628) (by decide +kernel)⟩
theorem lw_p39 : lw_okq (⟨"ExactEstimatesModel", "crossed", "(IIIIIII)V"⟩, 11) := ⟨⟨by decide +kernel, by decide +kernel⟩, List.mem_of_getElem? (i := 445) (by decide +kernel), List.mem_of_getElem? (i := 631) (by decide +kernel), List.mem_of_getElem? (i := 632) (by decide +kernel)⟩
theorem lw_p40 : lw_okq (⟨"ExactEstimatesModel", "lowest", "(IIIZ)I"⟩, 11) := ⟨⟨by decide +kernel, by decide +kernel⟩, List.mem_of_getElem? (i := 445) (by decide +kernel), List.mem_of_getElem? (i := 639) (by decide +kernel), List.mem_of_getElem? (i := 640) (by decide +kernel)⟩
theorem lw_p41 : lw_okq (⟨"ExactEstimatesModel", "lowerOf", "(III)I"⟩, 11) := ⟨⟨by decide +kernel, by decide +kernel⟩, List.mem_of_getElem? (i := 445) (by decide +kernel), List.mem_of_getElem? (i := 643) (by decide +kernel), List.mem_of_getElem? (i := 644) (by decide +kernel)⟩
def lw_privs_3 : List (MethodName × Nat) := [(⟨"ExactEstimatesModel", "part", "(III)V"⟩, 11), (⟨"ExactEstimatesModel", "pair", "(IIIIII)V"⟩, 11), (⟨"ExactEstimatesModel", "none", "(III)Z"⟩, 11), (⟨"ExactEstimatesModel", "upper", "(III)I"⟩, 11), (⟨"ExactEstimatesModel", "smoothAll", "()V"⟩, 11), (⟨"ExactEstimatesModel", "smoothAt", "(I)V"⟩, 11), (⟨"ExactEstimatesModel", "matrix", "(III)V"⟩, 11), (⟨"ExactEstimatesModel", "crossed", "(IIIIIII)V"⟩, 11), (⟨"ExactEstimatesModel", "lowest", "(IIIZ)I"⟩, 11), (⟨"ExactEstimatesModel", "lowerOf", "(III)I"⟩, 11)]
theorem lw_r3 : ∀ q ∈ lw_privs_3, lw_okq q := List.forall_mem_cons.mpr ⟨lw_p32, List.forall_mem_cons.mpr ⟨lw_p33, List.forall_mem_cons.mpr ⟨lw_p34, List.forall_mem_cons.mpr ⟨lw_p35, List.forall_mem_cons.mpr ⟨lw_p36, List.forall_mem_cons.mpr ⟨lw_p37, List.forall_mem_cons.mpr ⟨lw_p38, List.forall_mem_cons.mpr ⟨lw_p39, List.forall_mem_cons.mpr ⟨lw_p40, List.forall_mem_cons.mpr ⟨lw_p41, fun _ h => absurd h List.not_mem_nil⟩⟩⟩⟩⟩⟩⟩⟩⟩⟩
def lw_privs : List (MethodName × Nat) := lw_privs_1 ++ (lw_privs_2 ++ (lw_privs_3))
def lw_tbl : List Cond := k2_sels lw_privs ++ tables_1
theorem lw_privs_ok : ∀ q ∈ lw_privs, lw_okq q := by
  show ∀ q ∈ lw_privs_1 ++ (lw_privs_2 ++ (lw_privs_3)), lw_okq q
  exact List.forall_mem_append.mpr ⟨lw_r1, List.forall_mem_append.mpr ⟨lw_r2, lw_r3⟩⟩
/-! names -/
def R_B : String := "ExactEstimates$Belief"
def R_O : String := "ExactEstimates$Observation"
def R_Q : String := "ExactEstimates$Passage"
def R_W : String := "ExactEstimates$Whole"
def R_E : String := "ExactEstimates"
def R_M : String := "ExactEstimatesModel"
def R_L : String := "ExactEstimatesLaw"
def R_K : String := "java/lang/Math"
def F_B : u_T := fun k => match k with
  | 0 => ("ExactEstimates$Belief", "unit", "LExactEstimates$Whole;", true)
  | 1 => ("ExactEstimates$Belief", "l00", "LExactEstimates$Whole;", true)
  | 2 => ("ExactEstimates$Belief", "l01", "LExactEstimates$Whole;", true)
  | 3 => ("ExactEstimates$Belief", "l11", "LExactEstimates$Whole;", true)
  | 4 => ("ExactEstimates$Belief", "det", "LExactEstimates$Whole;", true)
  | 5 => ("ExactEstimates$Belief", "v0", "LExactEstimates$Whole;", true)
  | 6 => ("ExactEstimates$Belief", "v1", "LExactEstimates$Whole;", true)
  | 7 => ("ExactEstimates$Belief", "c0", "LExactEstimates$Whole;", true)
  | _ => ("ExactEstimates$Belief", "c1", "LExactEstimates$Whole;", true)
def t_B : Nat → FieldType := fun k => match k with
  | 0 => .object "ExactEstimates$Whole"
  | 1 => .object "ExactEstimates$Whole"
  | 2 => .object "ExactEstimates$Whole"
  | 3 => .object "ExactEstimates$Whole"
  | 4 => .object "ExactEstimates$Whole"
  | 5 => .object "ExactEstimates$Whole"
  | 6 => .object "ExactEstimates$Whole"
  | 7 => .object "ExactEstimates$Whole"
  | _ => .object "ExactEstimates$Whole"
theorem n_B : ∀ a, a < 9 → ∀ b, b < 9 → a ≠ b → (F_B a).2.1 ≠ (F_B b).2.1 := by decide +kernel
theorem t_B_ok : ∀ k, k < 9 → parseFieldDescriptor (F_B k).2.2.1 = some (t_B k) := by decide +kernel
theorem i_B : ∀ w ∈ u_ws R_B F_B 9, w ∈ lw_tbl := by decide +kernel
def F_O : u_T := fun k => match k with
  | 0 => ("ExactEstimates$Observation", "h0", "I", false)
  | 1 => ("ExactEstimates$Observation", "h1", "I", false)
  | 2 => ("ExactEstimates$Observation", "\x72", "I", false)
  | 3 => ("ExactEstimates$Observation", "z", "I", false)
  | 4 => ("ExactEstimates$Observation", "at", "I", false)
  | _ => ("ExactEstimates$Observation", "before", "I", false)
def t_O : Nat → FieldType := fun k => match k with
  | 0 => .int
  | 1 => .int
  | 2 => .int
  | 3 => .int
  | 4 => .int
  | _ => .int
theorem n_O : ∀ a, a < 6 → ∀ b, b < 6 → a ≠ b → (F_O a).2.1 ≠ (F_O b).2.1 := by decide +kernel
theorem t_O_ok : ∀ k, k < 6 → parseFieldDescriptor (F_O k).2.2.1 = some (t_O k) := by decide +kernel
theorem i_O : ∀ w ∈ u_ws R_O F_O 6, w ∈ lw_tbl := by decide +kernel
def F_Q : u_T := fun k => match k with
  | 0 => ("ExactEstimates$Passage", "f00", "I", false)
  | 1 => ("ExactEstimates$Passage", "f01", "I", false)
  | 2 => ("ExactEstimates$Passage", "f10", "I", false)
  | 3 => ("ExactEstimates$Passage", "f11", "I", false)
  | 4 => ("ExactEstimates$Passage", "q00", "I", false)
  | 5 => ("ExactEstimates$Passage", "q01", "I", false)
  | _ => ("ExactEstimates$Passage", "q11", "I", false)
def t_Q : Nat → FieldType := fun k => match k with
  | 0 => .int
  | 1 => .int
  | 2 => .int
  | 3 => .int
  | 4 => .int
  | 5 => .int
  | _ => .int
theorem n_Q : ∀ a, a < 7 → ∀ b, b < 7 → a ≠ b → (F_Q a).2.1 ≠ (F_Q b).2.1 := by decide +kernel
theorem t_Q_ok : ∀ k, k < 7 → parseFieldDescriptor (F_Q k).2.2.1 = some (t_Q k) := by decide +kernel
theorem i_Q : ∀ w ∈ u_ws R_Q F_Q 7, w ∈ lw_tbl := by decide +kernel
def F_W : u_T := fun k => match k with
  | _ => ("ExactEstimates$Whole", "limbs", "[J", true)
def t_W : Nat → FieldType := fun k => match k with
  | _ => .array .long
theorem n_W : ∀ a, a < 1 → ∀ b, b < 1 → a ≠ b → (F_W a).2.1 ≠ (F_W b).2.1 := by decide +kernel
theorem t_W_ok : ∀ k, k < 1 → parseFieldDescriptor (F_W k).2.2.1 = some (t_W k) := by decide +kernel
theorem i_W : ∀ w ∈ u_ws R_W F_W 1, w ∈ lw_tbl := by decide +kernel
def F_E : u_T := fun k => match k with
  | 0 => ("ExactEstimates", "beliefs", "[LExactEstimates$Belief;", true)
  | 1 => ("ExactEstimates", "predictedAt", "[I", true)
  | 2 => ("ExactEstimates", "seen", "[LExactEstimates$Observation;", true)
  | 3 => ("ExactEstimates", "passages", "[LExactEstimates$Passage;", true)
  | 4 => ("ExactEstimates", "coming", "LExactEstimates$Passage;", true)
  | 5 => ("ExactEstimates", "now", "I", false)
  | 6 => ("ExactEstimates", "seenCount", "I", false)
  | 7 => ("ExactEstimates", "hindsight", "LExactEstimates$Belief;", true)
  | 8 => ("ExactEstimates", "spare", "LExactEstimates$Belief;", true)
  | 9 => ("ExactEstimates", "joined", "LExactEstimates$Belief;", true)
  | 10 => ("ExactEstimates", "top", "LExactEstimates$Whole;", true)
  | 11 => ("ExactEstimates", "bottom", "LExactEstimates$Whole;", true)
  | 12 => ("ExactEstimates", "left", "LExactEstimates$Whole;", true)
  | _ => ("ExactEstimates", "right", "LExactEstimates$Whole;", true)
def t_E : Nat → FieldType := fun k => match k with
  | 0 => .array (.object "ExactEstimates$Belief")
  | 1 => .array .int
  | 2 => .array (.object "ExactEstimates$Observation")
  | 3 => .array (.object "ExactEstimates$Passage")
  | 4 => .object "ExactEstimates$Passage"
  | 5 => .int
  | 6 => .int
  | 7 => .object "ExactEstimates$Belief"
  | 8 => .object "ExactEstimates$Belief"
  | 9 => .object "ExactEstimates$Belief"
  | 10 => .object "ExactEstimates$Whole"
  | 11 => .object "ExactEstimates$Whole"
  | 12 => .object "ExactEstimates$Whole"
  | _ => .object "ExactEstimates$Whole"
theorem n_E : ∀ a, a < 14 → ∀ b, b < 14 → a ≠ b → (F_E a).2.1 ≠ (F_E b).2.1 := by decide +kernel
theorem t_E_ok : ∀ k, k < 14 → parseFieldDescriptor (F_E k).2.2.1 = some (t_E k) := by decide +kernel
theorem i_E : ∀ w ∈ u_ws R_E F_E 14, w ∈ lw_tbl := by decide +kernel
def F_M : u_T := fun k => match k with
  | 0 => ("ExactEstimatesModel", "digit", "[I", true)
  | 1 => ("ExactEstimatesModel", "used", "[I", true)
  | 2 => ("ExactEstimatesModel", "sign", "[I", true)
  | 3 => ("ExactEstimatesModel", "row", "[I", true)
  | 4 => ("ExactEstimatesModel", "quotient", "[I", true)
  | 5 => ("ExactEstimatesModel", "now", "I", false)
  | 6 => ("ExactEstimatesModel", "count", "I", false)
  | 7 => ("ExactEstimatesModel", "smooth", "Z", false)
  | 8 => ("ExactEstimatesModel", "move", "[I", true)
  | 9 => ("ExactEstimatesModel", "shake", "[I", true)
  | _ => ("ExactEstimatesModel", "moves", "[I", true)
def t_M : Nat → FieldType := fun k => match k with
  | 0 => .array .int
  | 1 => .array .int
  | 2 => .array .int
  | 3 => .array .int
  | 4 => .array .int
  | 5 => .int
  | 6 => .int
  | 7 => .boolean
  | 8 => .array .int
  | 9 => .array .int
  | _ => .array .int
theorem n_M : ∀ a, a < 11 → ∀ b, b < 11 → a ≠ b → (F_M a).2.1 ≠ (F_M b).2.1 := by decide +kernel
theorem t_M_ok : ∀ k, k < 11 → parseFieldDescriptor (F_M k).2.2.1 = some (t_M k) := by decide +kernel
theorem i_M : ∀ w ∈ u_ws R_M F_M 11, w ∈ lw_tbl := by decide +kernel
abbrev classes : List vw_C := [(R_B, F_B, 9), (R_O, F_O, 6), (R_Q, F_Q, 7), (R_W, F_W, 1), (R_E, F_E, 14), (R_M, F_M, 11)]
abbrev b_E_init : ByteArray := prog_1_method_1_code
def y_E_init : MethodName := ⟨R_E, "<init>", "()V"⟩
abbrev b_Q_init : ByteArray := prog_4_method_1_code
def y_Q_init : MethodName := ⟨R_Q, "<init>", "()V"⟩
abbrev b_B_init : ByteArray := prog_2_method_1_code
def y_B_init : MethodName := ⟨R_B, "<init>", "()V"⟩
abbrev b_W_init : ByteArray := prog_5_method_1_code
def y_W_init : MethodName := ⟨R_W, "<init>", "()V"⟩
abbrev b_O_init : ByteArray := prog_3_method_1_code
def y_O_init : MethodName := ⟨R_O, "<init>", "()V"⟩
abbrev b_Q_setStep : ByteArray := prog_4_method_2_code
def y_Q_setStep : MethodName := ⟨R_Q, "setStep", "(IIII)V"⟩
abbrev b_Q_setNoise : ByteArray := prog_4_method_3_code
def y_Q_setNoise : MethodName := ⟨R_Q, "setNoise", "(III)V"⟩
abbrev b_B_setEstimate : ByteArray := prog_2_method_3_code
def y_B_setEstimate : MethodName := ⟨R_B, "setEstimate", "(IIIII)V"⟩
abbrev b_W_set : ByteArray := prog_5_method_2_code
def y_W_set : MethodName := ⟨R_W, "set", "(I)V"⟩
abbrev b_E_initial : ByteArray := prog_1_method_2_code
def y_E_initial : MethodName := ⟨R_E, "initial", "(IIIII)I"⟩
abbrev b_E_within : ByteArray := prog_1_method_13_code
def y_E_within : MethodName := ⟨R_E, "within", "(II)Z"⟩
abbrev b_E_fitsCovariance : ByteArray := prog_1_method_14_code
def y_E_fitsCovariance : MethodName := ⟨R_E, "fitsCovariance", "(III)Z"⟩
abbrev b_E_isPositive : ByteArray := prog_1_method_15_code
def y_E_isPositive : MethodName := ⟨R_E, "isPositive", "(III)Z"⟩
abbrev b_E_step : ByteArray := prog_1_method_3_code
def y_E_step : MethodName := ⟨R_E, "step", "(IIII)Z"⟩
abbrev b_E_noise : ByteArray := prog_1_method_4_code
def y_E_noise : MethodName := ⟨R_E, "noise", "(III)I"⟩
abbrev b_E_observe : ByteArray := prog_1_method_5_code
def y_E_observe : MethodName := ⟨R_E, "observe", "(IIII)I"⟩
abbrev b_E_latest : ByteArray := prog_1_method_16_code
def y_E_latest : MethodName := ⟨R_E, "latest", "()I"⟩
abbrev b_O_set : ByteArray := prog_3_method_2_code
def y_O_set : MethodName := ⟨R_O, "set", "(IIII)V"⟩
abbrev b_O_place : ByteArray := prog_3_method_3_code
def y_O_place : MethodName := ⟨R_O, "place", "(II)V"⟩
abbrev b_B_copy : ByteArray := prog_2_method_4_code
def y_B_copy : MethodName := ⟨R_B, "copy", "(LExactEstimates$Belief;)V"⟩
abbrev b_W_copy : ByteArray := prog_5_method_3_code
def y_W_copy : MethodName := ⟨R_W, "copy", "(LExactEstimates$Whole;)V"⟩
abbrev b_B_learn : ByteArray := prog_2_method_5_code
def y_B_learn : MethodName := ⟨R_B, "learn", "(LExactEstimates$Observation;)V"⟩
abbrev b_W_scale : ByteArray := prog_5_method_4_code
def y_W_scale : MethodName := ⟨R_W, "scale", "(I)V"⟩
abbrev b_W_setTimes : ByteArray := prog_5_method_5_code
def y_W_setTimes : MethodName := ⟨R_W, "setTimes", "(LExactEstimates$Whole;I)V"⟩
abbrev b_W_addSum : ByteArray := prog_5_method_7_code
def y_W_addSum : MethodName := ⟨R_W, "addSum", "(LExactEstimates$Whole;ILExactEstimates$Whole;I)V"⟩
abbrev b_W_addTimes : ByteArray := prog_5_method_6_code
def y_W_addTimes : MethodName := ⟨R_W, "addTimes", "(LExactEstimates$Whole;I)V"⟩
abbrev b_E_advance : ByteArray := prog_1_method_6_code
def y_E_advance : MethodName := ⟨R_E, "advance", "()I"⟩
abbrev b_Q_copy : ByteArray := prog_4_method_4_code
def y_Q_copy : MethodName := ⟨R_Q, "copy", "(LExactEstimates$Passage;)V"⟩
abbrev b_B_moveOn : ByteArray := prog_2_method_7_code
def y_B_moveOn : MethodName := ⟨R_B, "moveOn", "(LExactEstimates$Belief;LExactEstimates$Passage;)V"⟩
abbrev b_B_turn : ByteArray := prog_2_method_9_code
def y_B_turn : MethodName := ⟨R_B, "turn", "(LExactEstimates$Belief;IIII)V"⟩
abbrev b_W_setSum : ByteArray := prog_5_method_8_code
def y_W_setSum : MethodName := ⟨R_W, "setSum", "(LExactEstimates$Whole;ILExactEstimates$Whole;ILExactEstimates$Whole;I)V"⟩
abbrev b_Q_stepDeterminant : ByteArray := prog_4_method_5_code
def y_Q_stepDeterminant : MethodName := ⟨R_Q, "stepDeterminant", "()I"⟩
abbrev b_B_moveScales : ByteArray := prog_2_method_10_code
def y_B_moveScales : MethodName := ⟨R_B, "moveScales", "(LExactEstimates$Belief;II)V"⟩
abbrev b_B_addNoise : ByteArray := prog_2_method_6_code
def y_B_addNoise : MethodName := ⟨R_B, "addNoise", "(LExactEstimates$Passage;)V"⟩
abbrev b_Q_noiseDeterminant : ByteArray := prog_4_method_6_code
def y_Q_noiseDeterminant : MethodName := ⟨R_Q, "noiseDeterminant", "()I"⟩
abbrev b_E_time : ByteArray := prog_1_method_7_code
def y_E_time : MethodName := ⟨R_E, "time", "()I"⟩
abbrev b_E_observations : ByteArray := prog_1_method_8_code
def y_E_observations : MethodName := ⟨R_E, "observations", "()I"⟩
abbrev b_E_sign : ByteArray := prog_1_method_9_code
def y_E_sign : MethodName := ⟨R_E, "sign", "(III)I"⟩
abbrev b_E_find : ByteArray := prog_1_method_17_code
def y_E_find : MethodName := ⟨R_E, "find", "(III)Z"⟩
abbrev b_E_findOfObservation : ByteArray := prog_1_method_18_code
def y_E_findOfObservation : MethodName := ⟨R_E, "findOfObservation", "(II)Z"⟩
abbrev b_E_beliefOf : ByteArray := prog_1_method_19_code
def y_E_beliefOf : MethodName := ⟨R_E, "beliefOf", "(II)LExactEstimates$Belief;"⟩
abbrev b_E_lookBackTo : ByteArray := prog_1_method_20_code
def y_E_lookBackTo : MethodName := ⟨R_E, "lookBackTo", "(I)V"⟩
abbrev b_B_setBlank : ByteArray := prog_2_method_2_code
def y_B_setBlank : MethodName := ⟨R_B, "setBlank", "()V"⟩
abbrev b_B_moveBack : ByteArray := prog_2_method_8_code
def y_B_moveBack : MethodName := ⟨R_B, "moveBack", "(LExactEstimates$Belief;LExactEstimates$Passage;)V"⟩
abbrev b_B_join : ByteArray := prog_2_method_11_code
def y_B_join : MethodName := ⟨R_B, "join", "(LExactEstimates$Belief;LExactEstimates$Belief;)V"⟩
abbrev b_W_setProducts : ByteArray := prog_5_method_9_code
def y_W_setProducts : MethodName := ⟨R_W, "setProducts", "(LExactEstimates$Whole;LExactEstimates$Whole;LExactEstimates$Whole;LExactEstimates$Whole;)V"⟩
abbrev b_W_addProducts : ByteArray := prog_5_method_10_code
def y_W_addProducts : MethodName := ⟨R_W, "addProducts", "(LExactEstimates$Whole;LExactEstimates$Whole;LExactEstimates$Whole;LExactEstimates$Whole;)V"⟩
abbrev b_W_addProduct : ByteArray := prog_5_method_11_code
def y_W_addProduct : MethodName := ⟨R_W, "addProduct", "(LExactEstimates$Whole;LExactEstimates$Whole;)V"⟩
abbrev b_B_tell : ByteArray := prog_2_method_12_code
def y_B_tell : MethodName := ⟨R_B, "tell", "(ILExactEstimates$Whole;LExactEstimates$Whole;)V"⟩
abbrev b_W_side : ByteArray := prog_5_method_12_code
def y_W_side : MethodName := ⟨R_W, "side", "()I"⟩
abbrev b_E_bits : ByteArray := prog_1_method_10_code
def y_E_bits : MethodName := ⟨R_E, "bits", "(IIIZ)I"⟩
abbrev b_E_reduce : ByteArray := prog_1_method_21_code
def y_E_reduce : MethodName := ⟨R_E, "reduce", "()V"⟩
abbrev b_E_dropCommonTwos : ByteArray := prog_1_method_22_code
def y_E_dropCommonTwos : MethodName := ⟨R_E, "dropCommonTwos", "()V"⟩
abbrev b_W_lowZeros : ByteArray := prog_5_method_17_code
def y_W_lowZeros : MethodName := ⟨R_W, "lowZeros", "()I"⟩
abbrev b_K_min : ByteArray := prog_8_method_69_code
def y_K_min : MethodName := ⟨R_K, "min", "(II)I"⟩
abbrev b_W_shiftRight : ByteArray := prog_5_method_18_code
def y_W_shiftRight : MethodName := ⟨R_W, "shiftRight", "(I)V"⟩
abbrev b_E_oddCommonDivisor : ByteArray := prog_1_method_23_code
def y_E_oddCommonDivisor : MethodName := ⟨R_E, "oddCommonDivisor", "()LExactEstimates$Whole;"⟩
abbrev b_W_dropTwos : ByteArray := prog_5_method_19_code
def y_W_dropTwos : MethodName := ⟨R_W, "dropTwos", "()V"⟩
abbrev b_W_order : ByteArray := prog_5_method_13_code
def y_W_order : MethodName := ⟨R_W, "order", "(LExactEstimates$Whole;)I"⟩
abbrev b_W_divideByOdd : ByteArray := prog_5_method_20_code
def y_W_divideByOdd : MethodName := ⟨R_W, "divideByOdd", "(LExactEstimates$Whole;)V"⟩
abbrev b_W_inverseOfLimb : ByteArray := prog_5_method_22_code
def y_W_inverseOfLimb : MethodName := ⟨R_W, "inverseOfLimb", "(J)J"⟩
abbrev b_W_takeTimes : ByteArray := prog_5_method_21_code
def y_W_takeTimes : MethodName := ⟨R_W, "takeTimes", "(LExactEstimates$Whole;JI)V"⟩
abbrev b_W_length : ByteArray := prog_5_method_14_code
def y_W_length : MethodName := ⟨R_W, "length", "()I"⟩
abbrev b_W_hasBit : ByteArray := prog_5_method_15_code
def y_W_hasBit : MethodName := ⟨R_W, "hasBit", "(I)Z"⟩
abbrev b_E_word : ByteArray := prog_1_method_11_code
def y_E_word : MethodName := ⟨R_E, "word", "(IIIZI)J"⟩
abbrev b_W_limb : ByteArray := prog_5_method_16_code
def y_W_limb : MethodName := ⟨R_W, "limb", "(I)J"⟩
abbrev b_E_compare : ByteArray := prog_1_method_12_code
def y_E_compare : MethodName := ⟨R_E, "compare", "(IIIII)I"⟩
abbrev b_M_init : ByteArray := prog_7_method_1_code
def y_M_init : MethodName := ⟨R_M, "<init>", "()V"⟩
abbrev b_M_begin : ByteArray := prog_7_method_19_code
def y_M_begin : MethodName := ⟨R_M, "begin", "(IIIII)V"⟩
abbrev b_M_put : ByteArray := prog_7_method_2_code
def y_M_put : MethodName := ⟨R_M, "put", "(II)V"⟩
abbrev b_M_keep : ByteArray := prog_7_method_20_code
def y_M_keep : MethodName := ⟨R_M, "keep", "(II)V"⟩
abbrev b_M_copy : ByteArray := prog_7_method_3_code
def y_M_copy : MethodName := ⟨R_M, "copy", "(II)V"⟩
abbrev b_M_initial : ByteArray := prog_7_method_23_code
def y_M_initial : MethodName := ⟨R_M, "initial", "(IIIII)I"⟩
abbrev b_M_bound : ByteArray := prog_7_method_21_code
def y_M_bound : MethodName := ⟨R_M, "bound", "(II)Z"⟩
abbrev b_M_positive : ByteArray := prog_7_method_22_code
def y_M_positive : MethodName := ⟨R_M, "positive", "(III)Z"⟩
abbrev b_M_step : ByteArray := prog_7_method_24_code
def y_M_step : MethodName := ⟨R_M, "step", "(IIII)Z"⟩
abbrev b_M_noise : ByteArray := prog_7_method_25_code
def y_M_noise : MethodName := ⟨R_M, "noise", "(III)I"⟩
abbrev b_M_observe : ByteArray := prog_7_method_27_code
def y_M_observe : MethodName := ⟨R_M, "observe", "(IIII)I"⟩
abbrev b_M_gains : ByteArray := prog_7_method_26_code
def y_M_gains : MethodName := ⟨R_M, "gains", "(IIII)V"⟩
abbrev b_M_scale : ByteArray := prog_7_method_9_code
def y_M_scale : MethodName := ⟨R_M, "scale", "(III)V"⟩
abbrev b_M_digitOf : ByteArray := prog_7_method_5_code
def y_M_digitOf : MethodName := ⟨R_M, "digitOf", "(II)I"⟩
abbrev b_M_store : ByteArray := prog_7_method_4_code
def y_M_store : MethodName := ⟨R_M, "store", "(III)V"⟩
abbrev b_M_gain : ByteArray := prog_7_method_10_code
def y_M_gain : MethodName := ⟨R_M, "gain", "(IIII)V"⟩
abbrev b_M_sum : ByteArray := prog_7_method_7_code
def y_M_sum : MethodName := ⟨R_M, "sum", "(IIII)V"⟩
abbrev b_M_against : ByteArray := prog_7_method_6_code
def y_M_against : MethodName := ⟨R_M, "against", "(II)I"⟩
abbrev b_M_times : ByteArray := prog_7_method_8_code
def y_M_times : MethodName := ⟨R_M, "times", "(III)V"⟩
abbrev b_M_join : ByteArray := prog_7_method_11_code
def y_M_join : MethodName := ⟨R_M, "join", "(IIIII)V"⟩
abbrev b_M_shrink : ByteArray := prog_7_method_18_code
def y_M_shrink : MethodName := ⟨R_M, "shrink", "(II)V"⟩
abbrev b_M_common : ByteArray := prog_7_method_17_code
def y_M_common : MethodName := ⟨R_M, "common", "(IIII)V"⟩
abbrev b_M_remainder : ByteArray := prog_7_method_15_code
def y_M_remainder : MethodName := ⟨R_M, "remainder", "(III)V"⟩
abbrev b_M_split : ByteArray := prog_7_method_14_code
def y_M_split : MethodName := ⟨R_M, "split", "(II)V"⟩
abbrev b_M_fits : ByteArray := prog_7_method_13_code
def y_M_fits : MethodName := ⟨R_M, "fits", "(II)Z"⟩
abbrev b_M_takeOff : ByteArray := prog_7_method_12_code
def y_M_takeOff : MethodName := ⟨R_M, "takeOff", "(IIJ)V"⟩
abbrev b_M_part : ByteArray := prog_7_method_16_code
def y_M_part : MethodName := ⟨R_M, "part", "(III)V"⟩
abbrev b_M_advance : ByteArray := prog_7_method_29_code
def y_M_advance : MethodName := ⟨R_M, "advance", "()I"⟩
abbrev b_M_pair : ByteArray := prog_7_method_28_code
def y_M_pair : MethodName := ⟨R_M, "pair", "(IIIIII)V"⟩
abbrev b_M_time : ByteArray := prog_7_method_34_code
def y_M_time : MethodName := ⟨R_M, "time", "()I"⟩
abbrev b_M_observations : ByteArray := prog_7_method_35_code
def y_M_observations : MethodName := ⟨R_M, "observations", "()I"⟩
abbrev b_M_sign : ByteArray := prog_7_method_39_code
def y_M_sign : MethodName := ⟨R_M, "sign", "(III)I"⟩
abbrev b_M_none : ByteArray := prog_7_method_36_code
def y_M_none : MethodName := ⟨R_M, "none", "(III)Z"⟩
abbrev b_M_upper : ByteArray := prog_7_method_37_code
def y_M_upper : MethodName := ⟨R_M, "upper", "(III)I"⟩
abbrev b_M_smoothAll : ByteArray := prog_7_method_33_code
def y_M_smoothAll : MethodName := ⟨R_M, "smoothAll", "()V"⟩
abbrev b_M_smoothAt : ByteArray := prog_7_method_32_code
def y_M_smoothAt : MethodName := ⟨R_M, "smoothAt", "(I)V"⟩
abbrev b_M_matrix : ByteArray := prog_7_method_31_code
def y_M_matrix : MethodName := ⟨R_M, "matrix", "(III)V"⟩
abbrev b_M_crossed : ByteArray := prog_7_method_30_code
def y_M_crossed : MethodName := ⟨R_M, "crossed", "(IIIIIII)V"⟩
abbrev b_M_bits : ByteArray := prog_7_method_41_code
def y_M_bits : MethodName := ⟨R_M, "bits", "(IIIZ)I"⟩
abbrev b_M_lowest : ByteArray := prog_7_method_40_code
def y_M_lowest : MethodName := ⟨R_M, "lowest", "(IIIZ)I"⟩
abbrev b_M_lowerOf : ByteArray := prog_7_method_38_code
def y_M_lowerOf : MethodName := ⟨R_M, "lowerOf", "(III)I"⟩
abbrev b_M_word : ByteArray := prog_7_method_42_code
def y_M_word : MethodName := ⟨R_M, "word", "(IIIZI)J"⟩
abbrev b_M_compare : ByteArray := prog_7_method_43_code
def y_M_compare : MethodName := ⟨R_M, "compare", "(IIIII)I"⟩
/-! the words of the tables, each by its place -/
theorem k0 : Cond.selects R_E y_E_latest y_E_latest ∈ lw_tbl := List.mem_of_getElem? (i := 0) (by decide +kernel)
theorem k1 : Cond.selects R_B y_B_turn y_B_turn ∈ lw_tbl := List.mem_of_getElem? (i := 1) (by decide +kernel)
theorem k2 : Cond.selects R_B y_B_moveScales y_B_moveScales ∈ lw_tbl := List.mem_of_getElem? (i := 2) (by decide +kernel)
theorem k3 : Cond.selects R_E y_E_find y_E_find ∈ lw_tbl := List.mem_of_getElem? (i := 3) (by decide +kernel)
theorem k4 : Cond.selects R_E y_E_findOfObservation y_E_findOfObservation ∈ lw_tbl := List.mem_of_getElem? (i := 4) (by decide +kernel)
theorem k5 : Cond.selects R_E y_E_beliefOf y_E_beliefOf ∈ lw_tbl := List.mem_of_getElem? (i := 5) (by decide +kernel)
theorem k6 : Cond.selects R_E y_E_lookBackTo y_E_lookBackTo ∈ lw_tbl := List.mem_of_getElem? (i := 6) (by decide +kernel)
theorem k7 : Cond.selects R_W y_W_addProduct y_W_addProduct ∈ lw_tbl := List.mem_of_getElem? (i := 7) (by decide +kernel)
theorem k8 : Cond.selects R_E y_E_reduce y_E_reduce ∈ lw_tbl := List.mem_of_getElem? (i := 8) (by decide +kernel)
theorem k9 : Cond.selects R_E y_E_dropCommonTwos y_E_dropCommonTwos ∈ lw_tbl := List.mem_of_getElem? (i := 9) (by decide +kernel)
theorem k10 : Cond.selects R_E y_E_oddCommonDivisor y_E_oddCommonDivisor ∈ lw_tbl := List.mem_of_getElem? (i := 10) (by decide +kernel)
theorem k11 : Cond.selects R_W y_W_takeTimes y_W_takeTimes ∈ lw_tbl := List.mem_of_getElem? (i := 11) (by decide +kernel)
theorem k12 : Cond.selects R_W y_W_hasBit y_W_hasBit ∈ lw_tbl := List.mem_of_getElem? (i := 12) (by decide +kernel)
theorem k13 : Cond.selects R_M y_M_begin y_M_begin ∈ lw_tbl := List.mem_of_getElem? (i := 13) (by decide +kernel)
theorem k14 : Cond.selects R_M y_M_put y_M_put ∈ lw_tbl := List.mem_of_getElem? (i := 14) (by decide +kernel)
theorem k15 : Cond.selects R_M y_M_keep y_M_keep ∈ lw_tbl := List.mem_of_getElem? (i := 15) (by decide +kernel)
theorem k16 : Cond.selects R_M y_M_copy y_M_copy ∈ lw_tbl := List.mem_of_getElem? (i := 16) (by decide +kernel)
theorem k17 : Cond.selects R_M y_M_gains y_M_gains ∈ lw_tbl := List.mem_of_getElem? (i := 17) (by decide +kernel)
theorem k18 : Cond.selects R_M y_M_scale y_M_scale ∈ lw_tbl := List.mem_of_getElem? (i := 18) (by decide +kernel)
theorem k19 : Cond.selects R_M y_M_digitOf y_M_digitOf ∈ lw_tbl := List.mem_of_getElem? (i := 19) (by decide +kernel)
theorem k20 : Cond.selects R_M y_M_store y_M_store ∈ lw_tbl := List.mem_of_getElem? (i := 20) (by decide +kernel)
theorem k21 : Cond.selects R_M y_M_gain y_M_gain ∈ lw_tbl := List.mem_of_getElem? (i := 21) (by decide +kernel)
theorem k22 : Cond.selects R_M y_M_sum y_M_sum ∈ lw_tbl := List.mem_of_getElem? (i := 22) (by decide +kernel)
theorem k23 : Cond.selects R_M y_M_against y_M_against ∈ lw_tbl := List.mem_of_getElem? (i := 23) (by decide +kernel)
theorem k24 : Cond.selects R_M y_M_times y_M_times ∈ lw_tbl := List.mem_of_getElem? (i := 24) (by decide +kernel)
theorem k25 : Cond.selects R_M y_M_join y_M_join ∈ lw_tbl := List.mem_of_getElem? (i := 25) (by decide +kernel)
theorem k26 : Cond.selects R_M y_M_shrink y_M_shrink ∈ lw_tbl := List.mem_of_getElem? (i := 26) (by decide +kernel)
theorem k27 : Cond.selects R_M y_M_common y_M_common ∈ lw_tbl := List.mem_of_getElem? (i := 27) (by decide +kernel)
theorem k28 : Cond.selects R_M y_M_remainder y_M_remainder ∈ lw_tbl := List.mem_of_getElem? (i := 28) (by decide +kernel)
theorem k29 : Cond.selects R_M y_M_split y_M_split ∈ lw_tbl := List.mem_of_getElem? (i := 29) (by decide +kernel)
theorem k30 : Cond.selects R_M y_M_fits y_M_fits ∈ lw_tbl := List.mem_of_getElem? (i := 30) (by decide +kernel)
theorem k31 : Cond.selects R_M y_M_takeOff y_M_takeOff ∈ lw_tbl := List.mem_of_getElem? (i := 31) (by decide +kernel)
theorem k32 : Cond.selects R_M y_M_part y_M_part ∈ lw_tbl := List.mem_of_getElem? (i := 32) (by decide +kernel)
theorem k33 : Cond.selects R_M y_M_pair y_M_pair ∈ lw_tbl := List.mem_of_getElem? (i := 33) (by decide +kernel)
theorem k34 : Cond.selects R_M y_M_none y_M_none ∈ lw_tbl := List.mem_of_getElem? (i := 34) (by decide +kernel)
theorem k35 : Cond.selects R_M y_M_upper y_M_upper ∈ lw_tbl := List.mem_of_getElem? (i := 35) (by decide +kernel)
theorem k36 : Cond.selects R_M y_M_smoothAll y_M_smoothAll ∈ lw_tbl := List.mem_of_getElem? (i := 36) (by decide +kernel)
theorem k37 : Cond.selects R_M y_M_smoothAt y_M_smoothAt ∈ lw_tbl := List.mem_of_getElem? (i := 37) (by decide +kernel)
theorem k38 : Cond.selects R_M y_M_matrix y_M_matrix ∈ lw_tbl := List.mem_of_getElem? (i := 38) (by decide +kernel)
theorem k39 : Cond.selects R_M y_M_crossed y_M_crossed ∈ lw_tbl := List.mem_of_getElem? (i := 39) (by decide +kernel)
theorem k40 : Cond.selects R_M y_M_lowest y_M_lowest ∈ lw_tbl := List.mem_of_getElem? (i := 40) (by decide +kernel)
theorem k41 : Cond.selects R_M y_M_lowerOf y_M_lowerOf ∈ lw_tbl := List.mem_of_getElem? (i := 41) (by decide +kernel)
theorem k42 : Cond.initialized R_L ∈ lw_tbl := List.mem_of_getElem? (i := 42) (by decide +kernel)
theorem k43 : Cond.initialized R_E ∈ lw_tbl := List.mem_of_getElem? (i := 43) (by decide +kernel)
theorem k44 : Cond.initialized R_Q ∈ lw_tbl := List.mem_of_getElem? (i := 44) (by decide +kernel)
theorem k45 : Cond.initialized R_B ∈ lw_tbl := List.mem_of_getElem? (i := 45) (by decide +kernel)
theorem k46 : Cond.initialized R_W ∈ lw_tbl := List.mem_of_getElem? (i := 46) (by decide +kernel)
theorem k47 : Cond.initialized R_O ∈ lw_tbl := List.mem_of_getElem? (i := 47) (by decide +kernel)
theorem k48 : Cond.initialized R_M ∈ lw_tbl := List.mem_of_getElem? (i := 48) (by decide +kernel)
theorem k49 : Cond.initialized R_K ∈ lw_tbl := List.mem_of_getElem? (i := 49) (by decide +kernel)
theorem k50 : Cond.classLink R_L 7 R_E ∈ lw_tbl := List.mem_of_getElem? (i := 50) (by decide +kernel)
theorem k51 : Cond.instantiable R_E (14 : Nat) ∈ lw_tbl := List.mem_of_getElem? (i := 51) (by decide +kernel)
theorem k52 : Cond.methodLink R_L 9 y_E_init ∈ lw_tbl := List.mem_of_getElem? (i := 52) (by decide +kernel)
theorem k53 : Cond.instanceMethod y_E_init ∈ lw_tbl := List.mem_of_getElem? (i := 53) (by decide +kernel)
theorem k54 : Cond.code y_E_init b_E_init 2 none ∈ lw_tbl := List.mem_of_getElem? (i := 54) (by decide +kernel)
theorem k55 : Cond.methodLink R_E 3 objectInit ∈ lw_tbl := List.mem_of_getElem? (i := 55) (by decide +kernel)
theorem k56 : Cond.instanceMethod objectInit ∈ lw_tbl := List.mem_of_getElem? (i := 56) (by decide +kernel)
theorem k57 : Cond.code objectInit ⟨#[0xb1]⟩ 1 none ∈ lw_tbl := List.mem_of_getElem? (i := 57) (by decide +kernel)
theorem k58 : Cond.classLink R_E 9 R_B ∈ lw_tbl := List.mem_of_getElem? (i := 58) (by decide +kernel)
theorem k59 : Cond.arrayOver (.object "ExactEstimates$Belief") ∈ lw_tbl := List.mem_of_getElem? (i := 59) (by decide +kernel)
theorem k60 : Cond.classLink R_E 19 R_O ∈ lw_tbl := List.mem_of_getElem? (i := 60) (by decide +kernel)
theorem k61 : Cond.arrayOver (.object "ExactEstimates$Observation") ∈ lw_tbl := List.mem_of_getElem? (i := 61) (by decide +kernel)
theorem k62 : Cond.classLink R_E 25 R_Q ∈ lw_tbl := List.mem_of_getElem? (i := 62) (by decide +kernel)
theorem k63 : Cond.arrayOver (.object "ExactEstimates$Passage") ∈ lw_tbl := List.mem_of_getElem? (i := 63) (by decide +kernel)
theorem k64 : Cond.instantiable R_Q (7 : Nat) ∈ lw_tbl := List.mem_of_getElem? (i := 64) (by decide +kernel)
theorem k65 : Cond.methodLinkNest R_E 31 y_Q_init "ExactEstimates" ∈ lw_tbl := List.mem_of_getElem? (i := 65) (by decide +kernel)
theorem k66 : Cond.instanceMethod y_Q_init ∈ lw_tbl := List.mem_of_getElem? (i := 66) (by decide +kernel)
theorem k67 : Cond.code y_Q_init b_Q_init 1 none ∈ lw_tbl := List.mem_of_getElem? (i := 67) (by decide +kernel)
theorem k68 : Cond.methodLink R_Q 1 objectInit ∈ lw_tbl := List.mem_of_getElem? (i := 68) (by decide +kernel)
theorem k69 : Cond.fieldLink R_Q 7 "ExactEstimates$Passage" "f00" "I" ∈ lw_tbl := List.mem_of_getElem? (i := 69) (by decide +kernel)
theorem k70 : Cond.fieldLink R_B 98 "ExactEstimates$Passage" "f00" "I" ∈ lw_tbl := List.mem_of_getElem? (i := 70) (by decide +kernel)
theorem k71 : Cond.fieldLink R_Q 13 "ExactEstimates$Passage" "f01" "I" ∈ lw_tbl := List.mem_of_getElem? (i := 71) (by decide +kernel)
theorem k72 : Cond.fieldLink R_B 92 "ExactEstimates$Passage" "f01" "I" ∈ lw_tbl := List.mem_of_getElem? (i := 72) (by decide +kernel)
theorem k73 : Cond.fieldLink R_Q 16 "ExactEstimates$Passage" "f10" "I" ∈ lw_tbl := List.mem_of_getElem? (i := 73) (by decide +kernel)
theorem k74 : Cond.fieldLink R_B 95 "ExactEstimates$Passage" "f10" "I" ∈ lw_tbl := List.mem_of_getElem? (i := 74) (by decide +kernel)
theorem k75 : Cond.fieldLink R_Q 19 "ExactEstimates$Passage" "f11" "I" ∈ lw_tbl := List.mem_of_getElem? (i := 75) (by decide +kernel)
theorem k76 : Cond.fieldLink R_B 89 "ExactEstimates$Passage" "f11" "I" ∈ lw_tbl := List.mem_of_getElem? (i := 76) (by decide +kernel)
theorem k77 : Cond.fieldLink R_Q 22 "ExactEstimates$Passage" "q00" "I" ∈ lw_tbl := List.mem_of_getElem? (i := 77) (by decide +kernel)
theorem k78 : Cond.fieldLink R_B 74 "ExactEstimates$Passage" "q00" "I" ∈ lw_tbl := List.mem_of_getElem? (i := 78) (by decide +kernel)
theorem k79 : Cond.fieldLink R_Q 25 "ExactEstimates$Passage" "q01" "I" ∈ lw_tbl := List.mem_of_getElem? (i := 79) (by decide +kernel)
theorem k80 : Cond.fieldLink R_B 82 "ExactEstimates$Passage" "q01" "I" ∈ lw_tbl := List.mem_of_getElem? (i := 80) (by decide +kernel)
theorem k81 : Cond.fieldLink R_Q 28 "ExactEstimates$Passage" "q11" "I" ∈ lw_tbl := List.mem_of_getElem? (i := 81) (by decide +kernel)
theorem k82 : Cond.fieldLink R_B 79 "ExactEstimates$Passage" "q11" "I" ∈ lw_tbl := List.mem_of_getElem? (i := 82) (by decide +kernel)
theorem k98 : Cond.arrayClass .int ∈ lw_tbl := List.mem_of_getElem? (i := 98) (by decide +kernel)
theorem k99 : Cond.instantiable R_B (9 : Nat) ∈ lw_tbl := List.mem_of_getElem? (i := 99) (by decide +kernel)
theorem k100 : Cond.methodLinkNest R_E 36 y_B_init "ExactEstimates" ∈ lw_tbl := List.mem_of_getElem? (i := 100) (by decide +kernel)
theorem k101 : Cond.instanceMethod y_B_init ∈ lw_tbl := List.mem_of_getElem? (i := 101) (by decide +kernel)
theorem k102 : Cond.code y_B_init b_B_init 1 none ∈ lw_tbl := List.mem_of_getElem? (i := 102) (by decide +kernel)
theorem k103 : Cond.methodLink R_B 1 objectInit ∈ lw_tbl := List.mem_of_getElem? (i := 103) (by decide +kernel)
theorem k104 : Cond.classLink R_B 7 R_W ∈ lw_tbl := List.mem_of_getElem? (i := 104) (by decide +kernel)
theorem k105 : Cond.instantiable R_W (1 : Nat) ∈ lw_tbl := List.mem_of_getElem? (i := 105) (by decide +kernel)
theorem k106 : Cond.methodLinkNest R_B 9 y_W_init "ExactEstimates" ∈ lw_tbl := List.mem_of_getElem? (i := 106) (by decide +kernel)
theorem k107 : Cond.instanceMethod y_W_init ∈ lw_tbl := List.mem_of_getElem? (i := 107) (by decide +kernel)
theorem k108 : Cond.code y_W_init b_W_init 1 none ∈ lw_tbl := List.mem_of_getElem? (i := 108) (by decide +kernel)
theorem k109 : Cond.methodLink R_W 3 objectInit ∈ lw_tbl := List.mem_of_getElem? (i := 109) (by decide +kernel)
theorem k110 : Cond.fieldLink R_W 9 "ExactEstimates$Whole" "limbs" "[J" ∈ lw_tbl := List.mem_of_getElem? (i := 110) (by decide +kernel)
theorem k114 : Cond.arrayClass .long ∈ lw_tbl := List.mem_of_getElem? (i := 114) (by decide +kernel)
theorem k115 : Cond.fieldLink R_B 10 "ExactEstimates$Belief" "unit" "LExactEstimates$Whole;" ∈ lw_tbl := List.mem_of_getElem? (i := 115) (by decide +kernel)
theorem k116 : Cond.fieldLink R_B 16 "ExactEstimates$Belief" "l00" "LExactEstimates$Whole;" ∈ lw_tbl := List.mem_of_getElem? (i := 116) (by decide +kernel)
theorem k117 : Cond.fieldLink R_B 19 "ExactEstimates$Belief" "l01" "LExactEstimates$Whole;" ∈ lw_tbl := List.mem_of_getElem? (i := 117) (by decide +kernel)
theorem k118 : Cond.fieldLink R_B 22 "ExactEstimates$Belief" "l11" "LExactEstimates$Whole;" ∈ lw_tbl := List.mem_of_getElem? (i := 118) (by decide +kernel)
theorem k119 : Cond.fieldLink R_B 25 "ExactEstimates$Belief" "det" "LExactEstimates$Whole;" ∈ lw_tbl := List.mem_of_getElem? (i := 119) (by decide +kernel)
theorem k120 : Cond.fieldLink R_E 164 "ExactEstimates$Belief" "det" "LExactEstimates$Whole;" ∈ lw_tbl := List.mem_of_getElem? (i := 120) (by decide +kernel)
theorem k121 : Cond.fieldLink R_B 28 "ExactEstimates$Belief" "v0" "LExactEstimates$Whole;" ∈ lw_tbl := List.mem_of_getElem? (i := 121) (by decide +kernel)
theorem k122 : Cond.fieldLink R_B 31 "ExactEstimates$Belief" "v1" "LExactEstimates$Whole;" ∈ lw_tbl := List.mem_of_getElem? (i := 122) (by decide +kernel)
theorem k123 : Cond.fieldLink R_B 34 "ExactEstimates$Belief" "c0" "LExactEstimates$Whole;" ∈ lw_tbl := List.mem_of_getElem? (i := 123) (by decide +kernel)
theorem k124 : Cond.fieldLink R_E 173 "ExactEstimates$Belief" "c0" "LExactEstimates$Whole;" ∈ lw_tbl := List.mem_of_getElem? (i := 124) (by decide +kernel)
theorem k125 : Cond.fieldLink R_B 37 "ExactEstimates$Belief" "c1" "LExactEstimates$Whole;" ∈ lw_tbl := List.mem_of_getElem? (i := 125) (by decide +kernel)
theorem k126 : Cond.fieldLink R_E 179 "ExactEstimates$Belief" "c1" "LExactEstimates$Whole;" ∈ lw_tbl := List.mem_of_getElem? (i := 126) (by decide +kernel)
theorem k146 : Cond.classLink R_E 47 R_W ∈ lw_tbl := List.mem_of_getElem? (i := 146) (by decide +kernel)
theorem k147 : Cond.methodLinkNest R_E 49 y_W_init "ExactEstimates" ∈ lw_tbl := List.mem_of_getElem? (i := 147) (by decide +kernel)
theorem k148 : Cond.instantiable R_O (6 : Nat) ∈ lw_tbl := List.mem_of_getElem? (i := 148) (by decide +kernel)
theorem k149 : Cond.methodLinkNest R_E 63 y_O_init "ExactEstimates" ∈ lw_tbl := List.mem_of_getElem? (i := 149) (by decide +kernel)
theorem k150 : Cond.instanceMethod y_O_init ∈ lw_tbl := List.mem_of_getElem? (i := 150) (by decide +kernel)
theorem k151 : Cond.code y_O_init b_O_init 1 none ∈ lw_tbl := List.mem_of_getElem? (i := 151) (by decide +kernel)
theorem k152 : Cond.methodLink R_O 1 objectInit ∈ lw_tbl := List.mem_of_getElem? (i := 152) (by decide +kernel)
theorem k153 : Cond.fieldLink R_O 7 "ExactEstimates$Observation" "h0" "I" ∈ lw_tbl := List.mem_of_getElem? (i := 153) (by decide +kernel)
theorem k154 : Cond.fieldLink R_B 48 "ExactEstimates$Observation" "h0" "I" ∈ lw_tbl := List.mem_of_getElem? (i := 154) (by decide +kernel)
theorem k155 : Cond.fieldLink R_E 176 "ExactEstimates$Observation" "h0" "I" ∈ lw_tbl := List.mem_of_getElem? (i := 155) (by decide +kernel)
theorem k156 : Cond.fieldLink R_O 13 "ExactEstimates$Observation" "h1" "I" ∈ lw_tbl := List.mem_of_getElem? (i := 156) (by decide +kernel)
theorem k157 : Cond.fieldLink R_B 54 "ExactEstimates$Observation" "h1" "I" ∈ lw_tbl := List.mem_of_getElem? (i := 157) (by decide +kernel)
theorem k158 : Cond.fieldLink R_E 182 "ExactEstimates$Observation" "h1" "I" ∈ lw_tbl := List.mem_of_getElem? (i := 158) (by decide +kernel)
theorem k159 : Cond.fieldLink R_O 16 "ExactEstimates$Observation" "\x72" "I" ∈ lw_tbl := List.mem_of_getElem? (i := 159) (by decide +kernel)
theorem k160 : Cond.fieldLink R_B 57 "ExactEstimates$Observation" "\x72" "I" ∈ lw_tbl := List.mem_of_getElem? (i := 160) (by decide +kernel)
theorem k161 : Cond.fieldLink R_O 19 "ExactEstimates$Observation" "z" "I" ∈ lw_tbl := List.mem_of_getElem? (i := 161) (by decide +kernel)
theorem k162 : Cond.fieldLink R_B 60 "ExactEstimates$Observation" "z" "I" ∈ lw_tbl := List.mem_of_getElem? (i := 162) (by decide +kernel)
theorem k163 : Cond.fieldLink R_E 170 "ExactEstimates$Observation" "z" "I" ∈ lw_tbl := List.mem_of_getElem? (i := 163) (by decide +kernel)
theorem k164 : Cond.fieldLink R_O 22 "ExactEstimates$Observation" "at" "I" ∈ lw_tbl := List.mem_of_getElem? (i := 164) (by decide +kernel)
theorem k165 : Cond.fieldLink R_E 200 "ExactEstimates$Observation" "at" "I" ∈ lw_tbl := List.mem_of_getElem? (i := 165) (by decide +kernel)
theorem k166 : Cond.fieldLink R_O 25 "ExactEstimates$Observation" "before" "I" ∈ lw_tbl := List.mem_of_getElem? (i := 166) (by decide +kernel)
theorem k167 : Cond.fieldLink R_E 161 "ExactEstimates$Observation" "before" "I" ∈ lw_tbl := List.mem_of_getElem? (i := 167) (by decide +kernel)
theorem k181 : Cond.methodLink R_E 64 y_Q_setStep ∈ lw_tbl := List.mem_of_getElem? (i := 181) (by decide +kernel)
theorem k182 : Cond.instanceMethod y_Q_setStep ∈ lw_tbl := List.mem_of_getElem? (i := 182) (by decide +kernel)
theorem k183 : Cond.selects R_Q y_Q_setStep y_Q_setStep ∈ lw_tbl := List.mem_of_getElem? (i := 183) (by decide +kernel)
theorem k184 : Cond.code y_Q_setStep b_Q_setStep 5 none ∈ lw_tbl := List.mem_of_getElem? (i := 184) (by decide +kernel)
theorem k185 : Cond.methodLink R_E 68 y_Q_setNoise ∈ lw_tbl := List.mem_of_getElem? (i := 185) (by decide +kernel)
theorem k186 : Cond.instanceMethod y_Q_setNoise ∈ lw_tbl := List.mem_of_getElem? (i := 186) (by decide +kernel)
theorem k187 : Cond.selects R_Q y_Q_setNoise y_Q_setNoise ∈ lw_tbl := List.mem_of_getElem? (i := 187) (by decide +kernel)
theorem k188 : Cond.code y_Q_setNoise b_Q_setNoise 4 none ∈ lw_tbl := List.mem_of_getElem? (i := 188) (by decide +kernel)
theorem k189 : Cond.methodLink R_E 72 y_B_setEstimate ∈ lw_tbl := List.mem_of_getElem? (i := 189) (by decide +kernel)
theorem k190 : Cond.instanceMethod y_B_setEstimate ∈ lw_tbl := List.mem_of_getElem? (i := 190) (by decide +kernel)
theorem k191 : Cond.selects R_B y_B_setEstimate y_B_setEstimate ∈ lw_tbl := List.mem_of_getElem? (i := 191) (by decide +kernel)
theorem k192 : Cond.code y_B_setEstimate b_B_setEstimate 6 none ∈ lw_tbl := List.mem_of_getElem? (i := 192) (by decide +kernel)
theorem k193 : Cond.methodLink R_B 40 y_W_set ∈ lw_tbl := List.mem_of_getElem? (i := 193) (by decide +kernel)
theorem k194 : Cond.instanceMethod y_W_set ∈ lw_tbl := List.mem_of_getElem? (i := 194) (by decide +kernel)
theorem k195 : Cond.selects R_W y_W_set y_W_set ∈ lw_tbl := List.mem_of_getElem? (i := 195) (by decide +kernel)
theorem k196 : Cond.code y_W_set b_W_set 5 none ∈ lw_tbl := List.mem_of_getElem? (i := 196) (by decide +kernel)
theorem k197 : Cond.constantLong R_W 13 (4294967295) ∈ lw_tbl := List.mem_of_getElem? (i := 197) (by decide +kernel)
theorem k198 : Cond.fieldLink R_E 11 "ExactEstimates" "beliefs" "[LExactEstimates$Belief;" ∈ lw_tbl := List.mem_of_getElem? (i := 198) (by decide +kernel)
theorem k199 : Cond.fieldLink R_E 15 "ExactEstimates" "predictedAt" "[I" ∈ lw_tbl := List.mem_of_getElem? (i := 199) (by decide +kernel)
theorem k200 : Cond.fieldLink R_E 21 "ExactEstimates" "seen" "[LExactEstimates$Observation;" ∈ lw_tbl := List.mem_of_getElem? (i := 200) (by decide +kernel)
theorem k201 : Cond.fieldLink R_E 27 "ExactEstimates" "passages" "[LExactEstimates$Passage;" ∈ lw_tbl := List.mem_of_getElem? (i := 201) (by decide +kernel)
theorem k202 : Cond.fieldLink R_E 32 "ExactEstimates" "coming" "LExactEstimates$Passage;" ∈ lw_tbl := List.mem_of_getElem? (i := 202) (by decide +kernel)
theorem k203 : Cond.fieldLink R_E 87 "ExactEstimates" "now" "I" ∈ lw_tbl := List.mem_of_getElem? (i := 203) (by decide +kernel)
theorem k204 : Cond.fieldLink R_E 91 "ExactEstimates" "seenCount" "I" ∈ lw_tbl := List.mem_of_getElem? (i := 204) (by decide +kernel)
theorem k205 : Cond.fieldLink R_E 37 "ExactEstimates" "hindsight" "LExactEstimates$Belief;" ∈ lw_tbl := List.mem_of_getElem? (i := 205) (by decide +kernel)
theorem k206 : Cond.fieldLink R_E 41 "ExactEstimates" "spare" "LExactEstimates$Belief;" ∈ lw_tbl := List.mem_of_getElem? (i := 206) (by decide +kernel)
theorem k207 : Cond.fieldLink R_E 44 "ExactEstimates" "joined" "LExactEstimates$Belief;" ∈ lw_tbl := List.mem_of_getElem? (i := 207) (by decide +kernel)
theorem k208 : Cond.fieldLink R_E 50 "ExactEstimates" "top" "LExactEstimates$Whole;" ∈ lw_tbl := List.mem_of_getElem? (i := 208) (by decide +kernel)
theorem k209 : Cond.fieldLink R_E 54 "ExactEstimates" "bottom" "LExactEstimates$Whole;" ∈ lw_tbl := List.mem_of_getElem? (i := 209) (by decide +kernel)
theorem k210 : Cond.fieldLink R_E 57 "ExactEstimates" "left" "LExactEstimates$Whole;" ∈ lw_tbl := List.mem_of_getElem? (i := 210) (by decide +kernel)
theorem k211 : Cond.fieldLink R_E 60 "ExactEstimates" "right" "LExactEstimates$Whole;" ∈ lw_tbl := List.mem_of_getElem? (i := 211) (by decide +kernel)
theorem k241 : Cond.methodLink R_L 13 y_E_initial ∈ lw_tbl := List.mem_of_getElem? (i := 241) (by decide +kernel)
theorem k242 : Cond.instanceMethod y_E_initial ∈ lw_tbl := List.mem_of_getElem? (i := 242) (by decide +kernel)
theorem k243 : Cond.selects R_E y_E_initial y_E_initial ∈ lw_tbl := List.mem_of_getElem? (i := 243) (by decide +kernel)
theorem k244 : Cond.code y_E_initial b_E_initial 6 (some .int) ∈ lw_tbl := List.mem_of_getElem? (i := 244) (by decide +kernel)
theorem k245 : Cond.methodLink R_E 76 y_E_within ∈ lw_tbl := List.mem_of_getElem? (i := 245) (by decide +kernel)
theorem k246 : Cond.static y_E_within ∈ lw_tbl := List.mem_of_getElem? (i := 246) (by decide +kernel)
theorem k247 : Cond.code y_E_within b_E_within 2 (some .boolean) ∈ lw_tbl := List.mem_of_getElem? (i := 247) (by decide +kernel)
theorem k248 : Cond.methodLink R_E 80 y_E_fitsCovariance ∈ lw_tbl := List.mem_of_getElem? (i := 248) (by decide +kernel)
theorem k249 : Cond.static y_E_fitsCovariance ∈ lw_tbl := List.mem_of_getElem? (i := 249) (by decide +kernel)
theorem k250 : Cond.code y_E_fitsCovariance b_E_fitsCovariance 3 (some .boolean) ∈ lw_tbl := List.mem_of_getElem? (i := 250) (by decide +kernel)
theorem k251 : Cond.methodLink R_E 84 y_E_isPositive ∈ lw_tbl := List.mem_of_getElem? (i := 251) (by decide +kernel)
theorem k252 : Cond.static y_E_isPositive ∈ lw_tbl := List.mem_of_getElem? (i := 252) (by decide +kernel)
theorem k253 : Cond.code y_E_isPositive b_E_isPositive 3 (some .boolean) ∈ lw_tbl := List.mem_of_getElem? (i := 253) (by decide +kernel)
theorem k254 : Cond.methodLink R_L 18 y_E_step ∈ lw_tbl := List.mem_of_getElem? (i := 254) (by decide +kernel)
theorem k255 : Cond.instanceMethod y_E_step ∈ lw_tbl := List.mem_of_getElem? (i := 255) (by decide +kernel)
theorem k256 : Cond.selects R_E y_E_step y_E_step ∈ lw_tbl := List.mem_of_getElem? (i := 256) (by decide +kernel)
theorem k257 : Cond.code y_E_step b_E_step 5 (some .boolean) ∈ lw_tbl := List.mem_of_getElem? (i := 257) (by decide +kernel)
theorem k258 : Cond.methodLink R_L 23 y_E_noise ∈ lw_tbl := List.mem_of_getElem? (i := 258) (by decide +kernel)
theorem k259 : Cond.instanceMethod y_E_noise ∈ lw_tbl := List.mem_of_getElem? (i := 259) (by decide +kernel)
theorem k260 : Cond.selects R_E y_E_noise y_E_noise ∈ lw_tbl := List.mem_of_getElem? (i := 260) (by decide +kernel)
theorem k261 : Cond.code y_E_noise b_E_noise 4 (some .int) ∈ lw_tbl := List.mem_of_getElem? (i := 261) (by decide +kernel)
theorem k262 : Cond.methodLink R_L 28 y_E_observe ∈ lw_tbl := List.mem_of_getElem? (i := 262) (by decide +kernel)
theorem k263 : Cond.instanceMethod y_E_observe ∈ lw_tbl := List.mem_of_getElem? (i := 263) (by decide +kernel)
theorem k264 : Cond.selects R_E y_E_observe y_E_observe ∈ lw_tbl := List.mem_of_getElem? (i := 264) (by decide +kernel)
theorem k265 : Cond.code y_E_observe b_E_observe 7 (some .int) ∈ lw_tbl := List.mem_of_getElem? (i := 265) (by decide +kernel)
theorem k266 : Cond.methodLink R_E 94 y_E_latest ∈ lw_tbl := List.mem_of_getElem? (i := 266) (by decide +kernel)
theorem k268 : Cond.instanceMethod y_E_latest ∈ lw_tbl := List.mem_of_getElem? (i := 268) (by decide +kernel)
theorem k269 : Cond.code y_E_latest b_E_latest 1 (some .int) ∈ lw_tbl := List.mem_of_getElem? (i := 269) (by decide +kernel)
theorem k270 : Cond.methodLink R_E 98 y_O_set ∈ lw_tbl := List.mem_of_getElem? (i := 270) (by decide +kernel)
theorem k271 : Cond.instanceMethod y_O_set ∈ lw_tbl := List.mem_of_getElem? (i := 271) (by decide +kernel)
theorem k272 : Cond.selects R_O y_O_set y_O_set ∈ lw_tbl := List.mem_of_getElem? (i := 272) (by decide +kernel)
theorem k273 : Cond.code y_O_set b_O_set 5 none ∈ lw_tbl := List.mem_of_getElem? (i := 273) (by decide +kernel)
theorem k274 : Cond.methodLink R_E 101 y_O_place ∈ lw_tbl := List.mem_of_getElem? (i := 274) (by decide +kernel)
theorem k275 : Cond.instanceMethod y_O_place ∈ lw_tbl := List.mem_of_getElem? (i := 275) (by decide +kernel)
theorem k276 : Cond.selects R_O y_O_place y_O_place ∈ lw_tbl := List.mem_of_getElem? (i := 276) (by decide +kernel)
theorem k277 : Cond.code y_O_place b_O_place 3 none ∈ lw_tbl := List.mem_of_getElem? (i := 277) (by decide +kernel)
theorem k278 : Cond.methodLink R_E 105 y_B_copy ∈ lw_tbl := List.mem_of_getElem? (i := 278) (by decide +kernel)
theorem k279 : Cond.instanceMethod y_B_copy ∈ lw_tbl := List.mem_of_getElem? (i := 279) (by decide +kernel)
theorem k280 : Cond.selects R_B y_B_copy y_B_copy ∈ lw_tbl := List.mem_of_getElem? (i := 280) (by decide +kernel)
theorem k281 : Cond.code y_B_copy b_B_copy 2 none ∈ lw_tbl := List.mem_of_getElem? (i := 281) (by decide +kernel)
theorem k282 : Cond.methodLink R_B 44 y_W_copy ∈ lw_tbl := List.mem_of_getElem? (i := 282) (by decide +kernel)
theorem k283 : Cond.instanceMethod y_W_copy ∈ lw_tbl := List.mem_of_getElem? (i := 283) (by decide +kernel)
theorem k284 : Cond.selects R_W y_W_copy y_W_copy ∈ lw_tbl := List.mem_of_getElem? (i := 284) (by decide +kernel)
theorem k285 : Cond.code y_W_copy b_W_copy 3 none ∈ lw_tbl := List.mem_of_getElem? (i := 285) (by decide +kernel)
theorem k286 : Cond.methodLink R_E 109 y_B_learn ∈ lw_tbl := List.mem_of_getElem? (i := 286) (by decide +kernel)
theorem k287 : Cond.instanceMethod y_B_learn ∈ lw_tbl := List.mem_of_getElem? (i := 287) (by decide +kernel)
theorem k288 : Cond.selects R_B y_B_learn y_B_learn ∈ lw_tbl := List.mem_of_getElem? (i := 288) (by decide +kernel)
theorem k289 : Cond.code y_B_learn b_B_learn 6 none ∈ lw_tbl := List.mem_of_getElem? (i := 289) (by decide +kernel)
theorem k290 : Cond.methodLink R_B 63 y_W_scale ∈ lw_tbl := List.mem_of_getElem? (i := 290) (by decide +kernel)
theorem k291 : Cond.instanceMethod y_W_scale ∈ lw_tbl := List.mem_of_getElem? (i := 291) (by decide +kernel)
theorem k292 : Cond.selects R_W y_W_scale y_W_scale ∈ lw_tbl := List.mem_of_getElem? (i := 292) (by decide +kernel)
theorem k293 : Cond.code y_W_scale b_W_scale 2 none ∈ lw_tbl := List.mem_of_getElem? (i := 293) (by decide +kernel)
theorem k294 : Cond.methodLink R_W 15 y_W_setTimes ∈ lw_tbl := List.mem_of_getElem? (i := 294) (by decide +kernel)
theorem k295 : Cond.instanceMethod y_W_setTimes ∈ lw_tbl := List.mem_of_getElem? (i := 295) (by decide +kernel)
theorem k296 : Cond.selects R_W y_W_setTimes y_W_setTimes ∈ lw_tbl := List.mem_of_getElem? (i := 296) (by decide +kernel)
theorem k297 : Cond.code y_W_setTimes b_W_setTimes 8 none ∈ lw_tbl := List.mem_of_getElem? (i := 297) (by decide +kernel)
theorem k298 : Cond.methodLink R_B 66 y_W_addSum ∈ lw_tbl := List.mem_of_getElem? (i := 298) (by decide +kernel)
theorem k299 : Cond.instanceMethod y_W_addSum ∈ lw_tbl := List.mem_of_getElem? (i := 299) (by decide +kernel)
theorem k300 : Cond.selects R_W y_W_addSum y_W_addSum ∈ lw_tbl := List.mem_of_getElem? (i := 300) (by decide +kernel)
theorem k301 : Cond.code y_W_addSum b_W_addSum 5 none ∈ lw_tbl := List.mem_of_getElem? (i := 301) (by decide +kernel)
theorem k302 : Cond.methodLink R_W 19 y_W_addTimes ∈ lw_tbl := List.mem_of_getElem? (i := 302) (by decide +kernel)
theorem k303 : Cond.instanceMethod y_W_addTimes ∈ lw_tbl := List.mem_of_getElem? (i := 303) (by decide +kernel)
theorem k304 : Cond.selects R_W y_W_addTimes y_W_addTimes ∈ lw_tbl := List.mem_of_getElem? (i := 304) (by decide +kernel)
theorem k305 : Cond.code y_W_addTimes b_W_addTimes 8 none ∈ lw_tbl := List.mem_of_getElem? (i := 305) (by decide +kernel)
theorem k306 : Cond.methodLink R_B 70 y_W_addTimes ∈ lw_tbl := List.mem_of_getElem? (i := 306) (by decide +kernel)
theorem k307 : Cond.methodLink R_L 33 y_E_advance ∈ lw_tbl := List.mem_of_getElem? (i := 307) (by decide +kernel)
theorem k308 : Cond.instanceMethod y_E_advance ∈ lw_tbl := List.mem_of_getElem? (i := 308) (by decide +kernel)
theorem k309 : Cond.selects R_E y_E_advance y_E_advance ∈ lw_tbl := List.mem_of_getElem? (i := 309) (by decide +kernel)
theorem k310 : Cond.code y_E_advance b_E_advance 3 (some .int) ∈ lw_tbl := List.mem_of_getElem? (i := 310) (by decide +kernel)
theorem k311 : Cond.methodLink R_E 113 y_Q_copy ∈ lw_tbl := List.mem_of_getElem? (i := 311) (by decide +kernel)
theorem k312 : Cond.instanceMethod y_Q_copy ∈ lw_tbl := List.mem_of_getElem? (i := 312) (by decide +kernel)
theorem k313 : Cond.selects R_Q y_Q_copy y_Q_copy ∈ lw_tbl := List.mem_of_getElem? (i := 313) (by decide +kernel)
theorem k314 : Cond.code y_Q_copy b_Q_copy 2 none ∈ lw_tbl := List.mem_of_getElem? (i := 314) (by decide +kernel)
theorem k315 : Cond.methodLink R_Q 31 y_Q_setStep ∈ lw_tbl := List.mem_of_getElem? (i := 315) (by decide +kernel)
theorem k316 : Cond.methodLink R_Q 35 y_Q_setNoise ∈ lw_tbl := List.mem_of_getElem? (i := 316) (by decide +kernel)
theorem k317 : Cond.methodLink R_E 116 y_B_moveOn ∈ lw_tbl := List.mem_of_getElem? (i := 317) (by decide +kernel)
theorem k318 : Cond.instanceMethod y_B_moveOn ∈ lw_tbl := List.mem_of_getElem? (i := 318) (by decide +kernel)
theorem k319 : Cond.selects R_B y_B_moveOn y_B_moveOn ∈ lw_tbl := List.mem_of_getElem? (i := 319) (by decide +kernel)
theorem k320 : Cond.code y_B_moveOn b_B_moveOn 3 none ∈ lw_tbl := List.mem_of_getElem? (i := 320) (by decide +kernel)
theorem k321 : Cond.methodLink R_B 101 y_B_turn ∈ lw_tbl := List.mem_of_getElem? (i := 321) (by decide +kernel)
theorem k323 : Cond.instanceMethod y_B_turn ∈ lw_tbl := List.mem_of_getElem? (i := 323) (by decide +kernel)
theorem k324 : Cond.code y_B_turn b_B_turn 6 none ∈ lw_tbl := List.mem_of_getElem? (i := 324) (by decide +kernel)
theorem k325 : Cond.methodLink R_B 112 y_W_setSum ∈ lw_tbl := List.mem_of_getElem? (i := 325) (by decide +kernel)
theorem k326 : Cond.instanceMethod y_W_setSum ∈ lw_tbl := List.mem_of_getElem? (i := 326) (by decide +kernel)
theorem k327 : Cond.selects R_W y_W_setSum y_W_setSum ∈ lw_tbl := List.mem_of_getElem? (i := 327) (by decide +kernel)
theorem k328 : Cond.code y_W_setSum b_W_setSum 7 none ∈ lw_tbl := List.mem_of_getElem? (i := 328) (by decide +kernel)
theorem k329 : Cond.methodLink R_B 116 y_W_setTimes ∈ lw_tbl := List.mem_of_getElem? (i := 329) (by decide +kernel)
theorem k330 : Cond.methodLink R_B 105 y_Q_stepDeterminant ∈ lw_tbl := List.mem_of_getElem? (i := 330) (by decide +kernel)
theorem k331 : Cond.instanceMethod y_Q_stepDeterminant ∈ lw_tbl := List.mem_of_getElem? (i := 331) (by decide +kernel)
theorem k332 : Cond.selects R_Q y_Q_stepDeterminant y_Q_stepDeterminant ∈ lw_tbl := List.mem_of_getElem? (i := 332) (by decide +kernel)
theorem k333 : Cond.code y_Q_stepDeterminant b_Q_stepDeterminant 1 (some .int) ∈ lw_tbl := List.mem_of_getElem? (i := 333) (by decide +kernel)
theorem k334 : Cond.methodLink R_B 108 y_B_moveScales ∈ lw_tbl := List.mem_of_getElem? (i := 334) (by decide +kernel)
theorem k336 : Cond.instanceMethod y_B_moveScales ∈ lw_tbl := List.mem_of_getElem? (i := 336) (by decide +kernel)
theorem k337 : Cond.code y_B_moveScales b_B_moveScales 4 none ∈ lw_tbl := List.mem_of_getElem? (i := 337) (by decide +kernel)
theorem k338 : Cond.methodLink R_E 120 y_B_addNoise ∈ lw_tbl := List.mem_of_getElem? (i := 338) (by decide +kernel)
theorem k339 : Cond.instanceMethod y_B_addNoise ∈ lw_tbl := List.mem_of_getElem? (i := 339) (by decide +kernel)
theorem k340 : Cond.selects R_B y_B_addNoise y_B_addNoise ∈ lw_tbl := List.mem_of_getElem? (i := 340) (by decide +kernel)
theorem k341 : Cond.code y_B_addNoise b_B_addNoise 2 none ∈ lw_tbl := List.mem_of_getElem? (i := 341) (by decide +kernel)
theorem k342 : Cond.methodLink R_B 85 y_Q_noiseDeterminant ∈ lw_tbl := List.mem_of_getElem? (i := 342) (by decide +kernel)
theorem k343 : Cond.instanceMethod y_Q_noiseDeterminant ∈ lw_tbl := List.mem_of_getElem? (i := 343) (by decide +kernel)
theorem k344 : Cond.selects R_Q y_Q_noiseDeterminant y_Q_noiseDeterminant ∈ lw_tbl := List.mem_of_getElem? (i := 344) (by decide +kernel)
theorem k345 : Cond.code y_Q_noiseDeterminant b_Q_noiseDeterminant 1 (some .int) ∈ lw_tbl := List.mem_of_getElem? (i := 345) (by decide +kernel)
theorem k346 : Cond.methodLink R_L 38 y_E_time ∈ lw_tbl := List.mem_of_getElem? (i := 346) (by decide +kernel)
theorem k347 : Cond.instanceMethod y_E_time ∈ lw_tbl := List.mem_of_getElem? (i := 347) (by decide +kernel)
theorem k348 : Cond.selects R_E y_E_time y_E_time ∈ lw_tbl := List.mem_of_getElem? (i := 348) (by decide +kernel)
theorem k349 : Cond.code y_E_time b_E_time 1 (some .int) ∈ lw_tbl := List.mem_of_getElem? (i := 349) (by decide +kernel)
theorem k350 : Cond.methodLink R_L 42 y_E_observations ∈ lw_tbl := List.mem_of_getElem? (i := 350) (by decide +kernel)
theorem k351 : Cond.instanceMethod y_E_observations ∈ lw_tbl := List.mem_of_getElem? (i := 351) (by decide +kernel)
theorem k352 : Cond.selects R_E y_E_observations y_E_observations ∈ lw_tbl := List.mem_of_getElem? (i := 352) (by decide +kernel)
theorem k353 : Cond.code y_E_observations b_E_observations 1 (some .int) ∈ lw_tbl := List.mem_of_getElem? (i := 353) (by decide +kernel)
theorem k354 : Cond.methodLink R_L 46 y_E_sign ∈ lw_tbl := List.mem_of_getElem? (i := 354) (by decide +kernel)
theorem k355 : Cond.instanceMethod y_E_sign ∈ lw_tbl := List.mem_of_getElem? (i := 355) (by decide +kernel)
theorem k356 : Cond.selects R_E y_E_sign y_E_sign ∈ lw_tbl := List.mem_of_getElem? (i := 356) (by decide +kernel)
theorem k357 : Cond.code y_E_sign b_E_sign 4 (some .int) ∈ lw_tbl := List.mem_of_getElem? (i := 357) (by decide +kernel)
theorem k358 : Cond.methodLink R_E 123 y_E_find ∈ lw_tbl := List.mem_of_getElem? (i := 358) (by decide +kernel)
theorem k360 : Cond.instanceMethod y_E_find ∈ lw_tbl := List.mem_of_getElem? (i := 360) (by decide +kernel)
theorem k361 : Cond.code y_E_find b_E_find 4 (some .boolean) ∈ lw_tbl := List.mem_of_getElem? (i := 361) (by decide +kernel)
theorem k362 : Cond.methodLink R_E 150 y_E_findOfObservation ∈ lw_tbl := List.mem_of_getElem? (i := 362) (by decide +kernel)
theorem k364 : Cond.instanceMethod y_E_findOfObservation ∈ lw_tbl := List.mem_of_getElem? (i := 364) (by decide +kernel)
theorem k365 : Cond.code y_E_findOfObservation b_E_findOfObservation 5 (some .boolean) ∈ lw_tbl := List.mem_of_getElem? (i := 365) (by decide +kernel)
theorem k366 : Cond.methodLink R_E 167 y_W_copy ∈ lw_tbl := List.mem_of_getElem? (i := 366) (by decide +kernel)
theorem k367 : Cond.methodLink R_E 185 y_W_setSum ∈ lw_tbl := List.mem_of_getElem? (i := 367) (by decide +kernel)
theorem k368 : Cond.methodLink R_E 153 y_E_beliefOf ∈ lw_tbl := List.mem_of_getElem? (i := 368) (by decide +kernel)
theorem k370 : Cond.instanceMethod y_E_beliefOf ∈ lw_tbl := List.mem_of_getElem? (i := 370) (by decide +kernel)
theorem k371 : Cond.code y_E_beliefOf b_E_beliefOf 4 (some (.object "ExactEstimates$Belief")) ∈ lw_tbl := List.mem_of_getElem? (i := 371) (by decide +kernel)
theorem k372 : Cond.methodLink R_E 189 y_E_lookBackTo ∈ lw_tbl := List.mem_of_getElem? (i := 372) (by decide +kernel)
theorem k374 : Cond.instanceMethod y_E_lookBackTo ∈ lw_tbl := List.mem_of_getElem? (i := 374) (by decide +kernel)
theorem k375 : Cond.code y_E_lookBackTo b_E_lookBackTo 4 none ∈ lw_tbl := List.mem_of_getElem? (i := 375) (by decide +kernel)
theorem k376 : Cond.methodLink R_E 197 y_B_setBlank ∈ lw_tbl := List.mem_of_getElem? (i := 376) (by decide +kernel)
theorem k377 : Cond.instanceMethod y_B_setBlank ∈ lw_tbl := List.mem_of_getElem? (i := 377) (by decide +kernel)
theorem k378 : Cond.selects R_B y_B_setBlank y_B_setBlank ∈ lw_tbl := List.mem_of_getElem? (i := 378) (by decide +kernel)
theorem k379 : Cond.code y_B_setBlank b_B_setBlank 1 none ∈ lw_tbl := List.mem_of_getElem? (i := 379) (by decide +kernel)
theorem k380 : Cond.methodLink R_E 203 y_B_moveBack ∈ lw_tbl := List.mem_of_getElem? (i := 380) (by decide +kernel)
theorem k381 : Cond.instanceMethod y_B_moveBack ∈ lw_tbl := List.mem_of_getElem? (i := 381) (by decide +kernel)
theorem k382 : Cond.selects R_B y_B_moveBack y_B_moveBack ∈ lw_tbl := List.mem_of_getElem? (i := 382) (by decide +kernel)
theorem k383 : Cond.code y_B_moveBack b_B_moveBack 3 none ∈ lw_tbl := List.mem_of_getElem? (i := 383) (by decide +kernel)
theorem k384 : Cond.methodLink R_E 193 y_B_join ∈ lw_tbl := List.mem_of_getElem? (i := 384) (by decide +kernel)
theorem k385 : Cond.instanceMethod y_B_join ∈ lw_tbl := List.mem_of_getElem? (i := 385) (by decide +kernel)
theorem k386 : Cond.selects R_B y_B_join y_B_join ∈ lw_tbl := List.mem_of_getElem? (i := 386) (by decide +kernel)
theorem k387 : Cond.code y_B_join b_B_join 3 none ∈ lw_tbl := List.mem_of_getElem? (i := 387) (by decide +kernel)
theorem k388 : Cond.methodLink R_B 119 y_W_setProducts ∈ lw_tbl := List.mem_of_getElem? (i := 388) (by decide +kernel)
theorem k389 : Cond.instanceMethod y_W_setProducts ∈ lw_tbl := List.mem_of_getElem? (i := 389) (by decide +kernel)
theorem k390 : Cond.selects R_W y_W_setProducts y_W_setProducts ∈ lw_tbl := List.mem_of_getElem? (i := 390) (by decide +kernel)
theorem k391 : Cond.code y_W_setProducts b_W_setProducts 5 none ∈ lw_tbl := List.mem_of_getElem? (i := 391) (by decide +kernel)
theorem k392 : Cond.methodLink R_W 22 y_W_set ∈ lw_tbl := List.mem_of_getElem? (i := 392) (by decide +kernel)
theorem k393 : Cond.methodLink R_W 26 y_W_addProducts ∈ lw_tbl := List.mem_of_getElem? (i := 393) (by decide +kernel)
theorem k394 : Cond.instanceMethod y_W_addProducts ∈ lw_tbl := List.mem_of_getElem? (i := 394) (by decide +kernel)
theorem k395 : Cond.selects R_W y_W_addProducts y_W_addProducts ∈ lw_tbl := List.mem_of_getElem? (i := 395) (by decide +kernel)
theorem k396 : Cond.code y_W_addProducts b_W_addProducts 5 none ∈ lw_tbl := List.mem_of_getElem? (i := 396) (by decide +kernel)
theorem k397 : Cond.methodLink R_W 30 y_W_addProduct ∈ lw_tbl := List.mem_of_getElem? (i := 397) (by decide +kernel)
theorem k399 : Cond.instanceMethod y_W_addProduct ∈ lw_tbl := List.mem_of_getElem? (i := 399) (by decide +kernel)
theorem k400 : Cond.code y_W_addProduct b_W_addProduct 9 none ∈ lw_tbl := List.mem_of_getElem? (i := 400) (by decide +kernel)
theorem k401 : Cond.methodLink R_B 123 y_W_addProducts ∈ lw_tbl := List.mem_of_getElem? (i := 401) (by decide +kernel)
theorem k402 : Cond.methodLink R_E 157 y_B_tell ∈ lw_tbl := List.mem_of_getElem? (i := 402) (by decide +kernel)
theorem k403 : Cond.instanceMethod y_B_tell ∈ lw_tbl := List.mem_of_getElem? (i := 403) (by decide +kernel)
theorem k404 : Cond.selects R_B y_B_tell y_B_tell ∈ lw_tbl := List.mem_of_getElem? (i := 404) (by decide +kernel)
theorem k405 : Cond.code y_B_tell b_B_tell 4 none ∈ lw_tbl := List.mem_of_getElem? (i := 405) (by decide +kernel)
theorem k406 : Cond.methodLink R_E 126 y_W_side ∈ lw_tbl := List.mem_of_getElem? (i := 406) (by decide +kernel)
theorem k407 : Cond.instanceMethod y_W_side ∈ lw_tbl := List.mem_of_getElem? (i := 407) (by decide +kernel)
theorem k408 : Cond.selects R_W y_W_side y_W_side ∈ lw_tbl := List.mem_of_getElem? (i := 408) (by decide +kernel)
theorem k409 : Cond.code y_W_side b_W_side 2 (some .int) ∈ lw_tbl := List.mem_of_getElem? (i := 409) (by decide +kernel)
theorem k410 : Cond.constantLong R_W 34 (2147483648) ∈ lw_tbl := List.mem_of_getElem? (i := 410) (by decide +kernel)
theorem k411 : Cond.methodLink R_L 50 y_E_bits ∈ lw_tbl := List.mem_of_getElem? (i := 411) (by decide +kernel)
theorem k412 : Cond.instanceMethod y_E_bits ∈ lw_tbl := List.mem_of_getElem? (i := 412) (by decide +kernel)
theorem k413 : Cond.selects R_E y_E_bits y_E_bits ∈ lw_tbl := List.mem_of_getElem? (i := 413) (by decide +kernel)
theorem k414 : Cond.code y_E_bits b_E_bits 5 (some .int) ∈ lw_tbl := List.mem_of_getElem? (i := 414) (by decide +kernel)
theorem k415 : Cond.methodLink R_E 129 y_E_reduce ∈ lw_tbl := List.mem_of_getElem? (i := 415) (by decide +kernel)
theorem k417 : Cond.instanceMethod y_E_reduce ∈ lw_tbl := List.mem_of_getElem? (i := 417) (by decide +kernel)
theorem k418 : Cond.code y_E_reduce b_E_reduce 3 none ∈ lw_tbl := List.mem_of_getElem? (i := 418) (by decide +kernel)
theorem k419 : Cond.methodLink R_E 206 y_W_set ∈ lw_tbl := List.mem_of_getElem? (i := 419) (by decide +kernel)
theorem k420 : Cond.methodLink R_E 208 y_W_scale ∈ lw_tbl := List.mem_of_getElem? (i := 420) (by decide +kernel)
theorem k421 : Cond.methodLink R_E 211 y_E_dropCommonTwos ∈ lw_tbl := List.mem_of_getElem? (i := 421) (by decide +kernel)
theorem k423 : Cond.instanceMethod y_E_dropCommonTwos ∈ lw_tbl := List.mem_of_getElem? (i := 423) (by decide +kernel)
theorem k424 : Cond.code y_E_dropCommonTwos b_E_dropCommonTwos 3 none ∈ lw_tbl := List.mem_of_getElem? (i := 424) (by decide +kernel)
theorem k425 : Cond.methodLink R_E 221 y_W_lowZeros ∈ lw_tbl := List.mem_of_getElem? (i := 425) (by decide +kernel)
theorem k426 : Cond.instanceMethod y_W_lowZeros ∈ lw_tbl := List.mem_of_getElem? (i := 426) (by decide +kernel)
theorem k427 : Cond.selects R_W y_W_lowZeros y_W_lowZeros ∈ lw_tbl := List.mem_of_getElem? (i := 427) (by decide +kernel)
theorem k428 : Cond.code y_W_lowZeros b_W_lowZeros 2 (some .int) ∈ lw_tbl := List.mem_of_getElem? (i := 428) (by decide +kernel)
theorem k429 : Cond.methodLink R_E 224 y_K_min ∈ lw_tbl := List.mem_of_getElem? (i := 429) (by decide +kernel)
theorem k430 : Cond.static y_K_min ∈ lw_tbl := List.mem_of_getElem? (i := 430) (by decide +kernel)
theorem k431 : Cond.code y_K_min b_K_min 2 (some .int) ∈ lw_tbl := List.mem_of_getElem? (i := 431) (by decide +kernel)
theorem k432 : Cond.methodLink R_E 230 y_W_shiftRight ∈ lw_tbl := List.mem_of_getElem? (i := 432) (by decide +kernel)
theorem k433 : Cond.instanceMethod y_W_shiftRight ∈ lw_tbl := List.mem_of_getElem? (i := 433) (by decide +kernel)
theorem k434 : Cond.selects R_W y_W_shiftRight y_W_shiftRight ∈ lw_tbl := List.mem_of_getElem? (i := 434) (by decide +kernel)
theorem k435 : Cond.code y_W_shiftRight b_W_shiftRight 5 none ∈ lw_tbl := List.mem_of_getElem? (i := 435) (by decide +kernel)
theorem k436 : Cond.methodLink R_E 214 y_E_oddCommonDivisor ∈ lw_tbl := List.mem_of_getElem? (i := 436) (by decide +kernel)
theorem k438 : Cond.instanceMethod y_E_oddCommonDivisor ∈ lw_tbl := List.mem_of_getElem? (i := 438) (by decide +kernel)
theorem k439 : Cond.code y_E_oddCommonDivisor b_E_oddCommonDivisor 6 (some (.object "ExactEstimates$Whole")) ∈ lw_tbl := List.mem_of_getElem? (i := 439) (by decide +kernel)
theorem k440 : Cond.methodLink R_E 233 y_W_dropTwos ∈ lw_tbl := List.mem_of_getElem? (i := 440) (by decide +kernel)
theorem k441 : Cond.instanceMethod y_W_dropTwos ∈ lw_tbl := List.mem_of_getElem? (i := 441) (by decide +kernel)
theorem k442 : Cond.selects R_W y_W_dropTwos y_W_dropTwos ∈ lw_tbl := List.mem_of_getElem? (i := 442) (by decide +kernel)
theorem k443 : Cond.code y_W_dropTwos b_W_dropTwos 3 none ∈ lw_tbl := List.mem_of_getElem? (i := 443) (by decide +kernel)
theorem k444 : Cond.methodLink R_W 40 y_W_lowZeros ∈ lw_tbl := List.mem_of_getElem? (i := 444) (by decide +kernel)
theorem k445 : Cond.methodLink R_W 44 y_W_shiftRight ∈ lw_tbl := List.mem_of_getElem? (i := 445) (by decide +kernel)
theorem k446 : Cond.methodLink R_E 236 y_W_order ∈ lw_tbl := List.mem_of_getElem? (i := 446) (by decide +kernel)
theorem k447 : Cond.instanceMethod y_W_order ∈ lw_tbl := List.mem_of_getElem? (i := 447) (by decide +kernel)
theorem k448 : Cond.selects R_W y_W_order y_W_order ∈ lw_tbl := List.mem_of_getElem? (i := 448) (by decide +kernel)
theorem k449 : Cond.code y_W_order b_W_order 3 (some .int) ∈ lw_tbl := List.mem_of_getElem? (i := 449) (by decide +kernel)
theorem k450 : Cond.methodLink R_E 147 y_W_addTimes ∈ lw_tbl := List.mem_of_getElem? (i := 450) (by decide +kernel)
theorem k451 : Cond.methodLink R_E 218 y_W_divideByOdd ∈ lw_tbl := List.mem_of_getElem? (i := 451) (by decide +kernel)
theorem k452 : Cond.instanceMethod y_W_divideByOdd ∈ lw_tbl := List.mem_of_getElem? (i := 452) (by decide +kernel)
theorem k453 : Cond.selects R_W y_W_divideByOdd y_W_divideByOdd ∈ lw_tbl := List.mem_of_getElem? (i := 453) (by decide +kernel)
theorem k454 : Cond.code y_W_divideByOdd b_W_divideByOdd 7 none ∈ lw_tbl := List.mem_of_getElem? (i := 454) (by decide +kernel)
theorem k455 : Cond.methodLink R_W 47 y_W_inverseOfLimb ∈ lw_tbl := List.mem_of_getElem? (i := 455) (by decide +kernel)
theorem k456 : Cond.static y_W_inverseOfLimb ∈ lw_tbl := List.mem_of_getElem? (i := 456) (by decide +kernel)
theorem k457 : Cond.code y_W_inverseOfLimb b_W_inverseOfLimb 5 (some .long) ∈ lw_tbl := List.mem_of_getElem? (i := 457) (by decide +kernel)
theorem k458 : Cond.constantLong R_W 55 (2) ∈ lw_tbl := List.mem_of_getElem? (i := 458) (by decide +kernel)
theorem k459 : Cond.methodLink R_W 51 y_W_takeTimes ∈ lw_tbl := List.mem_of_getElem? (i := 459) (by decide +kernel)
theorem k461 : Cond.instanceMethod y_W_takeTimes ∈ lw_tbl := List.mem_of_getElem? (i := 461) (by decide +kernel)
theorem k462 : Cond.code y_W_takeTimes b_W_takeTimes 12 none ∈ lw_tbl := List.mem_of_getElem? (i := 462) (by decide +kernel)
theorem k463 : Cond.methodLink R_E 132 y_W_length ∈ lw_tbl := List.mem_of_getElem? (i := 463) (by decide +kernel)
theorem k464 : Cond.instanceMethod y_W_length ∈ lw_tbl := List.mem_of_getElem? (i := 464) (by decide +kernel)
theorem k465 : Cond.selects R_W y_W_length y_W_length ∈ lw_tbl := List.mem_of_getElem? (i := 465) (by decide +kernel)
theorem k466 : Cond.code y_W_length b_W_length 2 (some .int) ∈ lw_tbl := List.mem_of_getElem? (i := 466) (by decide +kernel)
theorem k467 : Cond.methodLink R_W 36 y_W_hasBit ∈ lw_tbl := List.mem_of_getElem? (i := 467) (by decide +kernel)
theorem k469 : Cond.instanceMethod y_W_hasBit ∈ lw_tbl := List.mem_of_getElem? (i := 469) (by decide +kernel)
theorem k470 : Cond.code y_W_hasBit b_W_hasBit 2 (some .boolean) ∈ lw_tbl := List.mem_of_getElem? (i := 470) (by decide +kernel)
theorem k471 : Cond.methodLink R_L 55 y_E_word ∈ lw_tbl := List.mem_of_getElem? (i := 471) (by decide +kernel)
theorem k472 : Cond.instanceMethod y_E_word ∈ lw_tbl := List.mem_of_getElem? (i := 472) (by decide +kernel)
theorem k473 : Cond.selects R_E y_E_word y_E_word ∈ lw_tbl := List.mem_of_getElem? (i := 473) (by decide +kernel)
theorem k474 : Cond.code y_E_word b_E_word 6 (some .long) ∈ lw_tbl := List.mem_of_getElem? (i := 474) (by decide +kernel)
theorem k475 : Cond.constantLong R_E 135 (-2) ∈ lw_tbl := List.mem_of_getElem? (i := 475) (by decide +kernel)
theorem k476 : Cond.constantLong R_E 137 (-3) ∈ lw_tbl := List.mem_of_getElem? (i := 476) (by decide +kernel)
theorem k477 : Cond.methodLink R_E 139 y_W_limb ∈ lw_tbl := List.mem_of_getElem? (i := 477) (by decide +kernel)
theorem k478 : Cond.instanceMethod y_W_limb ∈ lw_tbl := List.mem_of_getElem? (i := 478) (by decide +kernel)
theorem k479 : Cond.selects R_W y_W_limb y_W_limb ∈ lw_tbl := List.mem_of_getElem? (i := 479) (by decide +kernel)
theorem k480 : Cond.code y_W_limb b_W_limb 2 (some .long) ∈ lw_tbl := List.mem_of_getElem? (i := 480) (by decide +kernel)
theorem k481 : Cond.methodLink R_L 60 y_E_compare ∈ lw_tbl := List.mem_of_getElem? (i := 481) (by decide +kernel)
theorem k482 : Cond.instanceMethod y_E_compare ∈ lw_tbl := List.mem_of_getElem? (i := 482) (by decide +kernel)
theorem k483 : Cond.selects R_E y_E_compare y_E_compare ∈ lw_tbl := List.mem_of_getElem? (i := 483) (by decide +kernel)
theorem k484 : Cond.code y_E_compare b_E_compare 6 (some .int) ∈ lw_tbl := List.mem_of_getElem? (i := 484) (by decide +kernel)
theorem k485 : Cond.methodLink R_E 143 y_W_setTimes ∈ lw_tbl := List.mem_of_getElem? (i := 485) (by decide +kernel)
theorem k486 : Cond.classLink R_L 10 R_M ∈ lw_tbl := List.mem_of_getElem? (i := 486) (by decide +kernel)
theorem k487 : Cond.instantiable R_M (11 : Nat) ∈ lw_tbl := List.mem_of_getElem? (i := 487) (by decide +kernel)
theorem k488 : Cond.methodLink R_L 12 y_M_init ∈ lw_tbl := List.mem_of_getElem? (i := 488) (by decide +kernel)
theorem k489 : Cond.instanceMethod y_M_init ∈ lw_tbl := List.mem_of_getElem? (i := 489) (by decide +kernel)
theorem k490 : Cond.code y_M_init b_M_init 1 none ∈ lw_tbl := List.mem_of_getElem? (i := 490) (by decide +kernel)
theorem k491 : Cond.methodLink R_M 1 objectInit ∈ lw_tbl := List.mem_of_getElem? (i := 491) (by decide +kernel)
theorem k492 : Cond.methodLink R_M 34 y_M_begin ∈ lw_tbl := List.mem_of_getElem? (i := 492) (by decide +kernel)
theorem k494 : Cond.instanceMethod y_M_begin ∈ lw_tbl := List.mem_of_getElem? (i := 494) (by decide +kernel)
theorem k495 : Cond.code y_M_begin b_M_begin 6 none ∈ lw_tbl := List.mem_of_getElem? (i := 495) (by decide +kernel)
theorem k496 : Cond.methodLink R_M 101 y_M_put ∈ lw_tbl := List.mem_of_getElem? (i := 496) (by decide +kernel)
theorem k498 : Cond.instanceMethod y_M_put ∈ lw_tbl := List.mem_of_getElem? (i := 498) (by decide +kernel)
theorem k499 : Cond.code y_M_put b_M_put 5 none ∈ lw_tbl := List.mem_of_getElem? (i := 499) (by decide +kernel)
theorem k500 : Cond.constantLong R_M 38 (65535) ∈ lw_tbl := List.mem_of_getElem? (i := 500) (by decide +kernel)
theorem k501 : Cond.methodLink R_M 104 y_M_keep ∈ lw_tbl := List.mem_of_getElem? (i := 501) (by decide +kernel)
theorem k503 : Cond.instanceMethod y_M_keep ∈ lw_tbl := List.mem_of_getElem? (i := 503) (by decide +kernel)
theorem k504 : Cond.code y_M_keep b_M_keep 4 none ∈ lw_tbl := List.mem_of_getElem? (i := 504) (by decide +kernel)
theorem k505 : Cond.methodLink R_M 78 y_M_copy ∈ lw_tbl := List.mem_of_getElem? (i := 505) (by decide +kernel)
theorem k507 : Cond.instanceMethod y_M_copy ∈ lw_tbl := List.mem_of_getElem? (i := 507) (by decide +kernel)
theorem k508 : Cond.code y_M_copy b_M_copy 4 none ∈ lw_tbl := List.mem_of_getElem? (i := 508) (by decide +kernel)
theorem k509 : Cond.fieldLink R_M 7 "ExactEstimatesModel" "digit" "[I" ∈ lw_tbl := List.mem_of_getElem? (i := 509) (by decide +kernel)
theorem k510 : Cond.fieldLink R_M 13 "ExactEstimatesModel" "used" "[I" ∈ lw_tbl := List.mem_of_getElem? (i := 510) (by decide +kernel)
theorem k511 : Cond.fieldLink R_M 16 "ExactEstimatesModel" "sign" "[I" ∈ lw_tbl := List.mem_of_getElem? (i := 511) (by decide +kernel)
theorem k512 : Cond.fieldLink R_M 19 "ExactEstimatesModel" "row" "[I" ∈ lw_tbl := List.mem_of_getElem? (i := 512) (by decide +kernel)
theorem k513 : Cond.fieldLink R_M 22 "ExactEstimatesModel" "quotient" "[I" ∈ lw_tbl := List.mem_of_getElem? (i := 513) (by decide +kernel)
theorem k514 : Cond.fieldLink R_M 90 "ExactEstimatesModel" "now" "I" ∈ lw_tbl := List.mem_of_getElem? (i := 514) (by decide +kernel)
theorem k515 : Cond.fieldLink R_M 94 "ExactEstimatesModel" "count" "I" ∈ lw_tbl := List.mem_of_getElem? (i := 515) (by decide +kernel)
theorem k516 : Cond.fieldLink R_M 97 "ExactEstimatesModel" "smooth" "Z" ∈ lw_tbl := List.mem_of_getElem? (i := 516) (by decide +kernel)
theorem k517 : Cond.fieldLink R_M 25 "ExactEstimatesModel" "move" "[I" ∈ lw_tbl := List.mem_of_getElem? (i := 517) (by decide +kernel)
theorem k518 : Cond.fieldLink R_M 28 "ExactEstimatesModel" "shake" "[I" ∈ lw_tbl := List.mem_of_getElem? (i := 518) (by decide +kernel)
theorem k519 : Cond.fieldLink R_M 31 "ExactEstimatesModel" "moves" "[I" ∈ lw_tbl := List.mem_of_getElem? (i := 519) (by decide +kernel)
theorem k543 : Cond.methodLink R_L 17 y_M_initial ∈ lw_tbl := List.mem_of_getElem? (i := 543) (by decide +kernel)
theorem k544 : Cond.instanceMethod y_M_initial ∈ lw_tbl := List.mem_of_getElem? (i := 544) (by decide +kernel)
theorem k545 : Cond.selects R_M y_M_initial y_M_initial ∈ lw_tbl := List.mem_of_getElem? (i := 545) (by decide +kernel)
theorem k546 : Cond.code y_M_initial b_M_initial 6 (some .int) ∈ lw_tbl := List.mem_of_getElem? (i := 546) (by decide +kernel)
theorem k547 : Cond.methodLink R_M 107 y_M_bound ∈ lw_tbl := List.mem_of_getElem? (i := 547) (by decide +kernel)
theorem k548 : Cond.static y_M_bound ∈ lw_tbl := List.mem_of_getElem? (i := 548) (by decide +kernel)
theorem k549 : Cond.code y_M_bound b_M_bound 2 (some .boolean) ∈ lw_tbl := List.mem_of_getElem? (i := 549) (by decide +kernel)
theorem k550 : Cond.methodLink R_M 110 y_M_positive ∈ lw_tbl := List.mem_of_getElem? (i := 550) (by decide +kernel)
theorem k551 : Cond.static y_M_positive ∈ lw_tbl := List.mem_of_getElem? (i := 551) (by decide +kernel)
theorem k552 : Cond.code y_M_positive b_M_positive 3 (some .boolean) ∈ lw_tbl := List.mem_of_getElem? (i := 552) (by decide +kernel)
theorem k553 : Cond.methodLink R_L 22 y_M_step ∈ lw_tbl := List.mem_of_getElem? (i := 553) (by decide +kernel)
theorem k554 : Cond.instanceMethod y_M_step ∈ lw_tbl := List.mem_of_getElem? (i := 554) (by decide +kernel)
theorem k555 : Cond.selects R_M y_M_step y_M_step ∈ lw_tbl := List.mem_of_getElem? (i := 555) (by decide +kernel)
theorem k556 : Cond.code y_M_step b_M_step 5 (some .boolean) ∈ lw_tbl := List.mem_of_getElem? (i := 556) (by decide +kernel)
theorem k557 : Cond.methodLink R_L 27 y_M_noise ∈ lw_tbl := List.mem_of_getElem? (i := 557) (by decide +kernel)
theorem k558 : Cond.instanceMethod y_M_noise ∈ lw_tbl := List.mem_of_getElem? (i := 558) (by decide +kernel)
theorem k559 : Cond.selects R_M y_M_noise y_M_noise ∈ lw_tbl := List.mem_of_getElem? (i := 559) (by decide +kernel)
theorem k560 : Cond.code y_M_noise b_M_noise 4 (some .int) ∈ lw_tbl := List.mem_of_getElem? (i := 560) (by decide +kernel)
theorem k561 : Cond.methodLink R_L 32 y_M_observe ∈ lw_tbl := List.mem_of_getElem? (i := 561) (by decide +kernel)
theorem k562 : Cond.instanceMethod y_M_observe ∈ lw_tbl := List.mem_of_getElem? (i := 562) (by decide +kernel)
theorem k563 : Cond.selects R_M y_M_observe y_M_observe ∈ lw_tbl := List.mem_of_getElem? (i := 563) (by decide +kernel)
theorem k564 : Cond.code y_M_observe b_M_observe 11 (some .int) ∈ lw_tbl := List.mem_of_getElem? (i := 564) (by decide +kernel)
theorem k565 : Cond.methodLink R_M 117 y_M_gains ∈ lw_tbl := List.mem_of_getElem? (i := 565) (by decide +kernel)
theorem k567 : Cond.instanceMethod y_M_gains ∈ lw_tbl := List.mem_of_getElem? (i := 567) (by decide +kernel)
theorem k568 : Cond.code y_M_gains b_M_gains 6 none ∈ lw_tbl := List.mem_of_getElem? (i := 568) (by decide +kernel)
theorem k569 : Cond.methodLink R_M 52 y_M_scale ∈ lw_tbl := List.mem_of_getElem? (i := 569) (by decide +kernel)
theorem k571 : Cond.instanceMethod y_M_scale ∈ lw_tbl := List.mem_of_getElem? (i := 571) (by decide +kernel)
theorem k572 : Cond.code y_M_scale b_M_scale 11 none ∈ lw_tbl := List.mem_of_getElem? (i := 572) (by decide +kernel)
theorem k573 : Cond.methodLink R_M 40 y_M_digitOf ∈ lw_tbl := List.mem_of_getElem? (i := 573) (by decide +kernel)
theorem k575 : Cond.instanceMethod y_M_digitOf ∈ lw_tbl := List.mem_of_getElem? (i := 575) (by decide +kernel)
theorem k576 : Cond.code y_M_digitOf b_M_digitOf 3 (some .int) ∈ lw_tbl := List.mem_of_getElem? (i := 576) (by decide +kernel)
theorem k577 : Cond.methodLink R_M 45 y_M_store ∈ lw_tbl := List.mem_of_getElem? (i := 577) (by decide +kernel)
theorem k579 : Cond.instanceMethod y_M_store ∈ lw_tbl := List.mem_of_getElem? (i := 579) (by decide +kernel)
theorem k580 : Cond.code y_M_store b_M_store 6 none ∈ lw_tbl := List.mem_of_getElem? (i := 580) (by decide +kernel)
theorem k581 : Cond.methodLink R_M 114 y_M_gain ∈ lw_tbl := List.mem_of_getElem? (i := 581) (by decide +kernel)
theorem k583 : Cond.instanceMethod y_M_gain ∈ lw_tbl := List.mem_of_getElem? (i := 583) (by decide +kernel)
theorem k584 : Cond.code y_M_gain b_M_gain 5 none ∈ lw_tbl := List.mem_of_getElem? (i := 584) (by decide +kernel)
theorem k585 : Cond.methodLink R_M 55 y_M_sum ∈ lw_tbl := List.mem_of_getElem? (i := 585) (by decide +kernel)
theorem k587 : Cond.instanceMethod y_M_sum ∈ lw_tbl := List.mem_of_getElem? (i := 587) (by decide +kernel)
theorem k588 : Cond.code y_M_sum b_M_sum 13 none ∈ lw_tbl := List.mem_of_getElem? (i := 588) (by decide +kernel)
theorem k589 : Cond.constant R_M 44 (65535) ∈ lw_tbl := List.mem_of_getElem? (i := 589) (by decide +kernel)
theorem k590 : Cond.methodLink R_M 49 y_M_against ∈ lw_tbl := List.mem_of_getElem? (i := 590) (by decide +kernel)
theorem k592 : Cond.instanceMethod y_M_against ∈ lw_tbl := List.mem_of_getElem? (i := 592) (by decide +kernel)
theorem k593 : Cond.code y_M_against b_M_against 6 (some .int) ∈ lw_tbl := List.mem_of_getElem? (i := 593) (by decide +kernel)
theorem k594 : Cond.methodLink R_M 59 y_M_times ∈ lw_tbl := List.mem_of_getElem? (i := 594) (by decide +kernel)
theorem k596 : Cond.instanceMethod y_M_times ∈ lw_tbl := List.mem_of_getElem? (i := 596) (by decide +kernel)
theorem k597 : Cond.code y_M_times b_M_times 9 none ∈ lw_tbl := List.mem_of_getElem? (i := 597) (by decide +kernel)
theorem k598 : Cond.methodLink R_M 120 y_M_join ∈ lw_tbl := List.mem_of_getElem? (i := 598) (by decide +kernel)
theorem k600 : Cond.instanceMethod y_M_join ∈ lw_tbl := List.mem_of_getElem? (i := 600) (by decide +kernel)
theorem k601 : Cond.code y_M_join b_M_join 6 none ∈ lw_tbl := List.mem_of_getElem? (i := 601) (by decide +kernel)
theorem k602 : Cond.methodLink R_M 123 y_M_shrink ∈ lw_tbl := List.mem_of_getElem? (i := 602) (by decide +kernel)
theorem k604 : Cond.instanceMethod y_M_shrink ∈ lw_tbl := List.mem_of_getElem? (i := 604) (by decide +kernel)
theorem k605 : Cond.code y_M_shrink b_M_shrink 5 none ∈ lw_tbl := List.mem_of_getElem? (i := 605) (by decide +kernel)
theorem k606 : Cond.methodLink R_M 84 y_M_common ∈ lw_tbl := List.mem_of_getElem? (i := 606) (by decide +kernel)
theorem k608 : Cond.instanceMethod y_M_common ∈ lw_tbl := List.mem_of_getElem? (i := 608) (by decide +kernel)
theorem k609 : Cond.code y_M_common b_M_common 5 none ∈ lw_tbl := List.mem_of_getElem? (i := 609) (by decide +kernel)
theorem k610 : Cond.methodLink R_M 81 y_M_remainder ∈ lw_tbl := List.mem_of_getElem? (i := 610) (by decide +kernel)
theorem k612 : Cond.instanceMethod y_M_remainder ∈ lw_tbl := List.mem_of_getElem? (i := 612) (by decide +kernel)
theorem k613 : Cond.code y_M_remainder b_M_remainder 4 none ∈ lw_tbl := List.mem_of_getElem? (i := 613) (by decide +kernel)
theorem k614 : Cond.methodLink R_M 74 y_M_split ∈ lw_tbl := List.mem_of_getElem? (i := 614) (by decide +kernel)
theorem k616 : Cond.instanceMethod y_M_split ∈ lw_tbl := List.mem_of_getElem? (i := 616) (by decide +kernel)
theorem k617 : Cond.code y_M_split b_M_split 12 none ∈ lw_tbl := List.mem_of_getElem? (i := 617) (by decide +kernel)
theorem k618 : Cond.constantLong R_M 62 (65536) ∈ lw_tbl := List.mem_of_getElem? (i := 618) (by decide +kernel)
theorem k619 : Cond.methodLink R_M 64 y_M_fits ∈ lw_tbl := List.mem_of_getElem? (i := 619) (by decide +kernel)
theorem k621 : Cond.instanceMethod y_M_fits ∈ lw_tbl := List.mem_of_getElem? (i := 621) (by decide +kernel)
theorem k622 : Cond.code y_M_fits b_M_fits 6 (some .boolean) ∈ lw_tbl := List.mem_of_getElem? (i := 622) (by decide +kernel)
theorem k623 : Cond.constantLong R_M 68 (4294967296) ∈ lw_tbl := List.mem_of_getElem? (i := 623) (by decide +kernel)
theorem k624 : Cond.methodLink R_M 70 y_M_takeOff ∈ lw_tbl := List.mem_of_getElem? (i := 624) (by decide +kernel)
theorem k626 : Cond.instanceMethod y_M_takeOff ∈ lw_tbl := List.mem_of_getElem? (i := 626) (by decide +kernel)
theorem k627 : Cond.code y_M_takeOff b_M_takeOff 10 none ∈ lw_tbl := List.mem_of_getElem? (i := 627) (by decide +kernel)
theorem k628 : Cond.methodLink R_M 87 y_M_part ∈ lw_tbl := List.mem_of_getElem? (i := 628) (by decide +kernel)
theorem k630 : Cond.instanceMethod y_M_part ∈ lw_tbl := List.mem_of_getElem? (i := 630) (by decide +kernel)
theorem k631 : Cond.code y_M_part b_M_part 7 none ∈ lw_tbl := List.mem_of_getElem? (i := 631) (by decide +kernel)
theorem k632 : Cond.methodLink R_L 37 y_M_advance ∈ lw_tbl := List.mem_of_getElem? (i := 632) (by decide +kernel)
theorem k633 : Cond.instanceMethod y_M_advance ∈ lw_tbl := List.mem_of_getElem? (i := 633) (by decide +kernel)
theorem k634 : Cond.selects R_M y_M_advance y_M_advance ∈ lw_tbl := List.mem_of_getElem? (i := 634) (by decide +kernel)
theorem k635 : Cond.code y_M_advance b_M_advance 5 (some .int) ∈ lw_tbl := List.mem_of_getElem? (i := 635) (by decide +kernel)
theorem k636 : Cond.methodLink R_M 126 y_M_pair ∈ lw_tbl := List.mem_of_getElem? (i := 636) (by decide +kernel)
theorem k638 : Cond.instanceMethod y_M_pair ∈ lw_tbl := List.mem_of_getElem? (i := 638) (by decide +kernel)
theorem k639 : Cond.code y_M_pair b_M_pair 7 none ∈ lw_tbl := List.mem_of_getElem? (i := 639) (by decide +kernel)
theorem k640 : Cond.methodLink R_L 41 y_M_time ∈ lw_tbl := List.mem_of_getElem? (i := 640) (by decide +kernel)
theorem k641 : Cond.instanceMethod y_M_time ∈ lw_tbl := List.mem_of_getElem? (i := 641) (by decide +kernel)
theorem k642 : Cond.selects R_M y_M_time y_M_time ∈ lw_tbl := List.mem_of_getElem? (i := 642) (by decide +kernel)
theorem k643 : Cond.code y_M_time b_M_time 1 (some .int) ∈ lw_tbl := List.mem_of_getElem? (i := 643) (by decide +kernel)
theorem k644 : Cond.methodLink R_L 45 y_M_observations ∈ lw_tbl := List.mem_of_getElem? (i := 644) (by decide +kernel)
theorem k645 : Cond.instanceMethod y_M_observations ∈ lw_tbl := List.mem_of_getElem? (i := 645) (by decide +kernel)
theorem k646 : Cond.selects R_M y_M_observations y_M_observations ∈ lw_tbl := List.mem_of_getElem? (i := 646) (by decide +kernel)
theorem k647 : Cond.code y_M_observations b_M_observations 1 (some .int) ∈ lw_tbl := List.mem_of_getElem? (i := 647) (by decide +kernel)
theorem k648 : Cond.methodLink R_L 49 y_M_sign ∈ lw_tbl := List.mem_of_getElem? (i := 648) (by decide +kernel)
theorem k649 : Cond.instanceMethod y_M_sign ∈ lw_tbl := List.mem_of_getElem? (i := 649) (by decide +kernel)
theorem k650 : Cond.selects R_M y_M_sign y_M_sign ∈ lw_tbl := List.mem_of_getElem? (i := 650) (by decide +kernel)
theorem k651 : Cond.code y_M_sign b_M_sign 4 (some .int) ∈ lw_tbl := List.mem_of_getElem? (i := 651) (by decide +kernel)
theorem k652 : Cond.methodLink R_M 144 y_M_none ∈ lw_tbl := List.mem_of_getElem? (i := 652) (by decide +kernel)
theorem k654 : Cond.instanceMethod y_M_none ∈ lw_tbl := List.mem_of_getElem? (i := 654) (by decide +kernel)
theorem k655 : Cond.code y_M_none b_M_none 4 (some .boolean) ∈ lw_tbl := List.mem_of_getElem? (i := 655) (by decide +kernel)
theorem k656 : Cond.methodLink R_M 147 y_M_upper ∈ lw_tbl := List.mem_of_getElem? (i := 656) (by decide +kernel)
theorem k658 : Cond.instanceMethod y_M_upper ∈ lw_tbl := List.mem_of_getElem? (i := 658) (by decide +kernel)
theorem k659 : Cond.code y_M_upper b_M_upper 4 (some .int) ∈ lw_tbl := List.mem_of_getElem? (i := 659) (by decide +kernel)
theorem k660 : Cond.methodLink R_M 141 y_M_smoothAll ∈ lw_tbl := List.mem_of_getElem? (i := 660) (by decide +kernel)
theorem k662 : Cond.instanceMethod y_M_smoothAll ∈ lw_tbl := List.mem_of_getElem? (i := 662) (by decide +kernel)
theorem k663 : Cond.code y_M_smoothAll b_M_smoothAll 2 none ∈ lw_tbl := List.mem_of_getElem? (i := 663) (by decide +kernel)
theorem k664 : Cond.methodLink R_M 137 y_M_smoothAt ∈ lw_tbl := List.mem_of_getElem? (i := 664) (by decide +kernel)
theorem k666 : Cond.instanceMethod y_M_smoothAt ∈ lw_tbl := List.mem_of_getElem? (i := 666) (by decide +kernel)
theorem k667 : Cond.code y_M_smoothAt b_M_smoothAt 10 none ∈ lw_tbl := List.mem_of_getElem? (i := 667) (by decide +kernel)
theorem k668 : Cond.methodLink R_M 134 y_M_matrix ∈ lw_tbl := List.mem_of_getElem? (i := 668) (by decide +kernel)
theorem k670 : Cond.instanceMethod y_M_matrix ∈ lw_tbl := List.mem_of_getElem? (i := 670) (by decide +kernel)
theorem k671 : Cond.code y_M_matrix b_M_matrix 6 none ∈ lw_tbl := List.mem_of_getElem? (i := 671) (by decide +kernel)
theorem k672 : Cond.methodLink R_M 130 y_M_crossed ∈ lw_tbl := List.mem_of_getElem? (i := 672) (by decide +kernel)
theorem k674 : Cond.instanceMethod y_M_crossed ∈ lw_tbl := List.mem_of_getElem? (i := 674) (by decide +kernel)
theorem k675 : Cond.code y_M_crossed b_M_crossed 8 none ∈ lw_tbl := List.mem_of_getElem? (i := 675) (by decide +kernel)
theorem k676 : Cond.methodLink R_L 54 y_M_bits ∈ lw_tbl := List.mem_of_getElem? (i := 676) (by decide +kernel)
theorem k677 : Cond.instanceMethod y_M_bits ∈ lw_tbl := List.mem_of_getElem? (i := 677) (by decide +kernel)
theorem k678 : Cond.selects R_M y_M_bits y_M_bits ∈ lw_tbl := List.mem_of_getElem? (i := 678) (by decide +kernel)
theorem k679 : Cond.code y_M_bits b_M_bits 7 (some .int) ∈ lw_tbl := List.mem_of_getElem? (i := 679) (by decide +kernel)
theorem k680 : Cond.methodLink R_M 154 y_M_lowest ∈ lw_tbl := List.mem_of_getElem? (i := 680) (by decide +kernel)
theorem k682 : Cond.instanceMethod y_M_lowest ∈ lw_tbl := List.mem_of_getElem? (i := 682) (by decide +kernel)
theorem k683 : Cond.code y_M_lowest b_M_lowest 5 (some .int) ∈ lw_tbl := List.mem_of_getElem? (i := 683) (by decide +kernel)
theorem k684 : Cond.methodLink R_M 151 y_M_lowerOf ∈ lw_tbl := List.mem_of_getElem? (i := 684) (by decide +kernel)
theorem k686 : Cond.instanceMethod y_M_lowerOf ∈ lw_tbl := List.mem_of_getElem? (i := 686) (by decide +kernel)
theorem k687 : Cond.code y_M_lowerOf b_M_lowerOf 4 (some .int) ∈ lw_tbl := List.mem_of_getElem? (i := 687) (by decide +kernel)
theorem k688 : Cond.methodLink R_L 59 y_M_word ∈ lw_tbl := List.mem_of_getElem? (i := 688) (by decide +kernel)
theorem k689 : Cond.instanceMethod y_M_word ∈ lw_tbl := List.mem_of_getElem? (i := 689) (by decide +kernel)
theorem k690 : Cond.selects R_M y_M_word y_M_word ∈ lw_tbl := List.mem_of_getElem? (i := 690) (by decide +kernel)
theorem k691 : Cond.code y_M_word b_M_word 7 (some .long) ∈ lw_tbl := List.mem_of_getElem? (i := 691) (by decide +kernel)
theorem k692 : Cond.constantLong R_M 158 (-2) ∈ lw_tbl := List.mem_of_getElem? (i := 692) (by decide +kernel)
theorem k693 : Cond.constantLong R_M 160 (-3) ∈ lw_tbl := List.mem_of_getElem? (i := 693) (by decide +kernel)
theorem k694 : Cond.methodLink R_L 63 y_M_compare ∈ lw_tbl := List.mem_of_getElem? (i := 694) (by decide +kernel)
theorem k695 : Cond.instanceMethod y_M_compare ∈ lw_tbl := List.mem_of_getElem? (i := 695) (by decide +kernel)
theorem k696 : Cond.selects R_M y_M_compare y_M_compare ∈ lw_tbl := List.mem_of_getElem? (i := 696) (by decide +kernel)
theorem k697 : Cond.code y_M_compare b_M_compare 6 (some .int) ∈ lw_tbl := List.mem_of_getElem? (i := 697) (by decide +kernel)
end
section
theorem d_E_init_0 : decode b_E_init 0 = .ok (.aload_n 0, 1) := by decide +kernel
theorem d_E_init_1 : decode b_E_init 1 = .ok (.invokespecial 3, 3) := by decide +kernel
theorem d_E_init_4 : decode b_E_init 4 = .ok (.aload_n 0, 1) := by decide +kernel
theorem d_E_init_5 : decode b_E_init 5 = .ok (.bipush 10, 2) := by decide +kernel
theorem d_E_init_7 : decode b_E_init 7 = .ok (.anewarray 9, 3) := by decide +kernel
theorem d_E_init_10 : decode b_E_init 10 = .ok (.putfield 11, 3) := by decide +kernel
theorem d_E_init_13 : decode b_E_init 13 = .ok (.aload_n 0, 1) := by decide +kernel
theorem d_E_init_14 : decode b_E_init 14 = .ok (.iconst 4, 1) := by decide +kernel
theorem d_E_init_15 : decode b_E_init 15 = .ok (.newarray .int, 2) := by decide +kernel
theorem d_E_init_17 : decode b_E_init 17 = .ok (.putfield 15, 3) := by decide +kernel
theorem d_E_init_20 : decode b_E_init 20 = .ok (.aload_n 0, 1) := by decide +kernel
theorem d_E_init_21 : decode b_E_init 21 = .ok (.bipush 6, 2) := by decide +kernel
theorem d_E_init_23 : decode b_E_init 23 = .ok (.anewarray 19, 3) := by decide +kernel
theorem d_E_init_26 : decode b_E_init 26 = .ok (.putfield 21, 3) := by decide +kernel
theorem d_E_init_29 : decode b_E_init 29 = .ok (.aload_n 0, 1) := by decide +kernel
theorem d_E_init_30 : decode b_E_init 30 = .ok (.iconst 3, 1) := by decide +kernel
theorem d_E_init_31 : decode b_E_init 31 = .ok (.anewarray 25, 3) := by decide +kernel
theorem d_E_init_34 : decode b_E_init 34 = .ok (.putfield 27, 3) := by decide +kernel
theorem d_E_init_37 : decode b_E_init 37 = .ok (.aload_n 0, 1) := by decide +kernel
theorem d_E_init_38 : decode b_E_init 38 = .ok (.new 25, 3) := by decide +kernel
theorem d_E_init_41 : decode b_E_init 41 = .ok (.dup, 1) := by decide +kernel
theorem d_E_init_42 : decode b_E_init 42 = .ok (.invokespecial 31, 3) := by decide +kernel
theorem d_E_init_45 : decode b_E_init 45 = .ok (.putfield 32, 3) := by decide +kernel
theorem d_E_init_48 : decode b_E_init 48 = .ok (.aload_n 0, 1) := by decide +kernel
theorem d_E_init_49 : decode b_E_init 49 = .ok (.new 9, 3) := by decide +kernel
theorem d_E_init_52 : decode b_E_init 52 = .ok (.dup, 1) := by decide +kernel
theorem d_E_init_53 : decode b_E_init 53 = .ok (.invokespecial 36, 3) := by decide +kernel
theorem d_E_init_56 : decode b_E_init 56 = .ok (.putfield 37, 3) := by decide +kernel
theorem d_E_init_59 : decode b_E_init 59 = .ok (.aload_n 0, 1) := by decide +kernel
theorem d_E_init_60 : decode b_E_init 60 = .ok (.new 9, 3) := by decide +kernel
theorem d_E_init_63 : decode b_E_init 63 = .ok (.dup, 1) := by decide +kernel
theorem d_E_init_64 : decode b_E_init 64 = .ok (.invokespecial 36, 3) := by decide +kernel
theorem d_E_init_67 : decode b_E_init 67 = .ok (.putfield 41, 3) := by decide +kernel
theorem d_E_init_70 : decode b_E_init 70 = .ok (.aload_n 0, 1) := by decide +kernel
theorem d_E_init_71 : decode b_E_init 71 = .ok (.new 9, 3) := by decide +kernel
theorem d_E_init_74 : decode b_E_init 74 = .ok (.dup, 1) := by decide +kernel
theorem d_E_init_75 : decode b_E_init 75 = .ok (.invokespecial 36, 3) := by decide +kernel
theorem d_E_init_78 : decode b_E_init 78 = .ok (.putfield 44, 3) := by decide +kernel
theorem d_E_init_81 : decode b_E_init 81 = .ok (.aload_n 0, 1) := by decide +kernel
theorem d_E_init_82 : decode b_E_init 82 = .ok (.new 47, 3) := by decide +kernel
theorem d_E_init_85 : decode b_E_init 85 = .ok (.dup, 1) := by decide +kernel
theorem d_E_init_86 : decode b_E_init 86 = .ok (.invokespecial 49, 3) := by decide +kernel
theorem d_E_init_89 : decode b_E_init 89 = .ok (.putfield 50, 3) := by decide +kernel
theorem d_E_init_92 : decode b_E_init 92 = .ok (.aload_n 0, 1) := by decide +kernel
theorem d_E_init_93 : decode b_E_init 93 = .ok (.new 47, 3) := by decide +kernel
theorem d_E_init_96 : decode b_E_init 96 = .ok (.dup, 1) := by decide +kernel
theorem d_E_init_97 : decode b_E_init 97 = .ok (.invokespecial 49, 3) := by decide +kernel
theorem d_E_init_100 : decode b_E_init 100 = .ok (.putfield 54, 3) := by decide +kernel
theorem d_E_init_103 : decode b_E_init 103 = .ok (.aload_n 0, 1) := by decide +kernel
theorem d_E_init_104 : decode b_E_init 104 = .ok (.new 47, 3) := by decide +kernel
theorem d_E_init_107 : decode b_E_init 107 = .ok (.dup, 1) := by decide +kernel
theorem d_E_init_108 : decode b_E_init 108 = .ok (.invokespecial 49, 3) := by decide +kernel
theorem d_E_init_111 : decode b_E_init 111 = .ok (.putfield 57, 3) := by decide +kernel
theorem d_E_init_114 : decode b_E_init 114 = .ok (.aload_n 0, 1) := by decide +kernel
theorem d_E_init_115 : decode b_E_init 115 = .ok (.new 47, 3) := by decide +kernel
theorem d_E_init_118 : decode b_E_init 118 = .ok (.dup, 1) := by decide +kernel
theorem d_E_init_119 : decode b_E_init 119 = .ok (.invokespecial 49, 3) := by decide +kernel
theorem d_E_init_122 : decode b_E_init 122 = .ok (.putfield 60, 3) := by decide +kernel
theorem d_E_init_125 : decode b_E_init 125 = .ok (.iconst 0, 1) := by decide +kernel
theorem d_E_init_126 : decode b_E_init 126 = .ok (.istore_n 1, 1) := by decide +kernel
theorem d_E_init_127 : decode b_E_init 127 = .ok (.iload_n 1, 1) := by decide +kernel
theorem d_E_init_128 : decode b_E_init 128 = .ok (.bipush 10, 2) := by decide +kernel
theorem d_E_init_130 : decode b_E_init 130 = .ok (.if_icmp .ge 22, 3) := by decide +kernel
theorem d_E_init_133 : decode b_E_init 133 = .ok (.aload_n 0, 1) := by decide +kernel
theorem d_E_init_134 : decode b_E_init 134 = .ok (.getfield 11, 3) := by decide +kernel
theorem d_E_init_137 : decode b_E_init 137 = .ok (.iload_n 1, 1) := by decide +kernel
theorem d_E_init_138 : decode b_E_init 138 = .ok (.new 9, 3) := by decide +kernel
theorem d_E_init_141 : decode b_E_init 141 = .ok (.dup, 1) := by decide +kernel
theorem d_E_init_142 : decode b_E_init 142 = .ok (.invokespecial 36, 3) := by decide +kernel
theorem d_E_init_145 : decode b_E_init 145 = .ok (.aastore, 1) := by decide +kernel
theorem d_E_init_146 : decode b_E_init 146 = .ok (.iinc 1 1, 3) := by decide +kernel
theorem d_E_init_149 : decode b_E_init 149 = .ok (.goto (-22), 3) := by decide +kernel
theorem d_E_init_152 : decode b_E_init 152 = .ok (.iconst 0, 1) := by decide +kernel
theorem d_E_init_153 : decode b_E_init 153 = .ok (.istore_n 1, 1) := by decide +kernel
theorem d_E_init_154 : decode b_E_init 154 = .ok (.iload_n 1, 1) := by decide +kernel
theorem d_E_init_155 : decode b_E_init 155 = .ok (.bipush 6, 2) := by decide +kernel
theorem d_E_init_157 : decode b_E_init 157 = .ok (.if_icmp .ge 22, 3) := by decide +kernel
theorem d_E_init_160 : decode b_E_init 160 = .ok (.aload_n 0, 1) := by decide +kernel
theorem d_E_init_161 : decode b_E_init 161 = .ok (.getfield 21, 3) := by decide +kernel
theorem d_E_init_164 : decode b_E_init 164 = .ok (.iload_n 1, 1) := by decide +kernel
theorem d_E_init_165 : decode b_E_init 165 = .ok (.new 19, 3) := by decide +kernel
theorem d_E_init_168 : decode b_E_init 168 = .ok (.dup, 1) := by decide +kernel
theorem d_E_init_169 : decode b_E_init 169 = .ok (.invokespecial 63, 3) := by decide +kernel
theorem d_E_init_172 : decode b_E_init 172 = .ok (.aastore, 1) := by decide +kernel
theorem d_E_init_173 : decode b_E_init 173 = .ok (.iinc 1 1, 3) := by decide +kernel
theorem d_E_init_176 : decode b_E_init 176 = .ok (.goto (-22), 3) := by decide +kernel
theorem d_E_init_179 : decode b_E_init 179 = .ok (.iconst 0, 1) := by decide +kernel
theorem d_E_init_180 : decode b_E_init 180 = .ok (.istore_n 1, 1) := by decide +kernel
theorem d_E_init_181 : decode b_E_init 181 = .ok (.iload_n 1, 1) := by decide +kernel
theorem d_E_init_182 : decode b_E_init 182 = .ok (.iconst 3, 1) := by decide +kernel
theorem d_E_init_183 : decode b_E_init 183 = .ok (.if_icmp .ge 22, 3) := by decide +kernel
theorem d_E_init_186 : decode b_E_init 186 = .ok (.aload_n 0, 1) := by decide +kernel
theorem d_E_init_187 : decode b_E_init 187 = .ok (.getfield 27, 3) := by decide +kernel
theorem d_E_init_190 : decode b_E_init 190 = .ok (.iload_n 1, 1) := by decide +kernel
theorem d_E_init_191 : decode b_E_init 191 = .ok (.new 25, 3) := by decide +kernel
theorem d_E_init_194 : decode b_E_init 194 = .ok (.dup, 1) := by decide +kernel
theorem d_E_init_195 : decode b_E_init 195 = .ok (.invokespecial 31, 3) := by decide +kernel
theorem d_E_init_198 : decode b_E_init 198 = .ok (.aastore, 1) := by decide +kernel
theorem d_E_init_199 : decode b_E_init 199 = .ok (.iinc 1 1, 3) := by decide +kernel
theorem d_E_init_202 : decode b_E_init 202 = .ok (.goto (-21), 3) := by decide +kernel
theorem d_E_init_205 : decode b_E_init 205 = .ok (.aload_n 0, 1) := by decide +kernel
theorem d_E_init_206 : decode b_E_init 206 = .ok (.getfield 32, 3) := by decide +kernel
theorem d_E_init_209 : decode b_E_init 209 = .ok (.iconst 1, 1) := by decide +kernel
theorem d_E_init_210 : decode b_E_init 210 = .ok (.iconst 0, 1) := by decide +kernel
theorem d_E_init_211 : decode b_E_init 211 = .ok (.iconst 0, 1) := by decide +kernel
theorem d_E_init_212 : decode b_E_init 212 = .ok (.iconst 1, 1) := by decide +kernel
theorem d_E_init_213 : decode b_E_init 213 = .ok (.invokevirtual 64, 3) := by decide +kernel
theorem d_E_init_216 : decode b_E_init 216 = .ok (.aload_n 0, 1) := by decide +kernel
theorem d_E_init_217 : decode b_E_init 217 = .ok (.getfield 32, 3) := by decide +kernel
theorem d_E_init_220 : decode b_E_init 220 = .ok (.iconst 1, 1) := by decide +kernel
theorem d_E_init_221 : decode b_E_init 221 = .ok (.iconst 0, 1) := by decide +kernel
theorem d_E_init_222 : decode b_E_init 222 = .ok (.iconst 1, 1) := by decide +kernel
theorem d_E_init_223 : decode b_E_init 223 = .ok (.invokevirtual 68, 3) := by decide +kernel
theorem d_E_init_226 : decode b_E_init 226 = .ok (.aload_n 0, 1) := by decide +kernel
theorem d_E_init_227 : decode b_E_init 227 = .ok (.getfield 11, 3) := by decide +kernel
theorem d_E_init_230 : decode b_E_init 230 = .ok (.iconst 0, 1) := by decide +kernel
theorem d_E_init_231 : decode b_E_init 231 = .ok (.aaload, 1) := by decide +kernel
theorem d_E_init_232 : decode b_E_init 232 = .ok (.iconst 0, 1) := by decide +kernel
theorem d_E_init_233 : decode b_E_init 233 = .ok (.iconst 0, 1) := by decide +kernel
theorem d_E_init_234 : decode b_E_init 234 = .ok (.iconst 1, 1) := by decide +kernel
theorem d_E_init_235 : decode b_E_init 235 = .ok (.iconst 0, 1) := by decide +kernel
theorem d_E_init_236 : decode b_E_init 236 = .ok (.iconst 1, 1) := by decide +kernel
theorem d_E_init_237 : decode b_E_init 237 = .ok (.invokevirtual 72, 3) := by decide +kernel
theorem d_E_init_240 : decode b_E_init 240 = .ok (.return_, 1) := by decide +kernel
theorem d_E_initial_0 : decode b_E_initial 0 = .ok (.iload_n 1, 1) := by decide +kernel
theorem d_E_initial_1 : decode b_E_initial 1 = .ok (.bipush 99, 2) := by decide +kernel
theorem d_E_initial_3 : decode b_E_initial 3 = .ok (.invokestatic 76, 3) := by decide +kernel
theorem d_E_initial_6 : decode b_E_initial 6 = .ok (.ifCond .eq 23, 3) := by decide +kernel
theorem d_E_initial_9 : decode b_E_initial 9 = .ok (.iload_n 2, 1) := by decide +kernel
theorem d_E_initial_10 : decode b_E_initial 10 = .ok (.bipush 99, 2) := by decide +kernel
theorem d_E_initial_12 : decode b_E_initial 12 = .ok (.invokestatic 76, 3) := by decide +kernel
theorem d_E_initial_15 : decode b_E_initial 15 = .ok (.ifCond .eq 14, 3) := by decide +kernel
theorem d_E_initial_18 : decode b_E_initial 18 = .ok (.iload_n 3, 1) := by decide +kernel
theorem d_E_initial_19 : decode b_E_initial 19 = .ok (.iload 4, 2) := by decide +kernel
theorem d_E_initial_21 : decode b_E_initial 21 = .ok (.iload 5, 2) := by decide +kernel
theorem d_E_initial_23 : decode b_E_initial 23 = .ok (.invokestatic 80, 3) := by decide +kernel
theorem d_E_initial_26 : decode b_E_initial 26 = .ok (.ifCond .ne 6, 3) := by decide +kernel
theorem d_E_initial_29 : decode b_E_initial 29 = .ok (.bipush (-3), 2) := by decide +kernel
theorem d_E_initial_31 : decode b_E_initial 31 = .ok (.ireturn, 1) := by decide +kernel
theorem d_E_initial_32 : decode b_E_initial 32 = .ok (.iload_n 3, 1) := by decide +kernel
theorem d_E_initial_33 : decode b_E_initial 33 = .ok (.iload 4, 2) := by decide +kernel
theorem d_E_initial_35 : decode b_E_initial 35 = .ok (.iload 5, 2) := by decide +kernel
theorem d_E_initial_37 : decode b_E_initial 37 = .ok (.invokestatic 84, 3) := by decide +kernel
theorem d_E_initial_40 : decode b_E_initial 40 = .ok (.ifCond .ne 6, 3) := by decide +kernel
theorem d_E_initial_43 : decode b_E_initial 43 = .ok (.bipush (-4), 2) := by decide +kernel
theorem d_E_initial_45 : decode b_E_initial 45 = .ok (.ireturn, 1) := by decide +kernel
theorem d_E_initial_46 : decode b_E_initial 46 = .ok (.aload_n 0, 1) := by decide +kernel
theorem d_E_initial_47 : decode b_E_initial 47 = .ok (.iconst 0, 1) := by decide +kernel
theorem d_E_initial_48 : decode b_E_initial 48 = .ok (.putfield 87, 3) := by decide +kernel
theorem d_E_initial_51 : decode b_E_initial 51 = .ok (.aload_n 0, 1) := by decide +kernel
theorem d_E_initial_52 : decode b_E_initial 52 = .ok (.iconst 0, 1) := by decide +kernel
theorem d_E_initial_53 : decode b_E_initial 53 = .ok (.putfield 91, 3) := by decide +kernel
theorem d_E_initial_56 : decode b_E_initial 56 = .ok (.aload_n 0, 1) := by decide +kernel
theorem d_E_initial_57 : decode b_E_initial 57 = .ok (.getfield 11, 3) := by decide +kernel
theorem d_E_initial_60 : decode b_E_initial 60 = .ok (.iconst 0, 1) := by decide +kernel
theorem d_E_initial_61 : decode b_E_initial 61 = .ok (.aaload, 1) := by decide +kernel
theorem d_E_initial_62 : decode b_E_initial 62 = .ok (.iload_n 1, 1) := by decide +kernel
theorem d_E_initial_63 : decode b_E_initial 63 = .ok (.iload_n 2, 1) := by decide +kernel
theorem d_E_initial_64 : decode b_E_initial 64 = .ok (.iload_n 3, 1) := by decide +kernel
theorem d_E_initial_65 : decode b_E_initial 65 = .ok (.iload 4, 2) := by decide +kernel
theorem d_E_initial_67 : decode b_E_initial 67 = .ok (.iload 5, 2) := by decide +kernel
theorem d_E_initial_69 : decode b_E_initial 69 = .ok (.invokevirtual 72, 3) := by decide +kernel
theorem d_E_initial_72 : decode b_E_initial 72 = .ok (.iconst 0, 1) := by decide +kernel
theorem d_E_initial_73 : decode b_E_initial 73 = .ok (.ireturn, 1) := by decide +kernel
theorem d_E_step_0 : decode b_E_step 0 = .ok (.iload_n 1, 1) := by decide +kernel
theorem d_E_step_1 : decode b_E_step 1 = .ok (.iconst 3, 1) := by decide +kernel
theorem d_E_step_2 : decode b_E_step 2 = .ok (.invokestatic 76, 3) := by decide +kernel
theorem d_E_step_5 : decode b_E_step 5 = .ok (.ifCond .eq 28, 3) := by decide +kernel
theorem d_E_step_8 : decode b_E_step 8 = .ok (.iload_n 2, 1) := by decide +kernel
theorem d_E_step_9 : decode b_E_step 9 = .ok (.iconst 3, 1) := by decide +kernel
theorem d_E_step_10 : decode b_E_step 10 = .ok (.invokestatic 76, 3) := by decide +kernel
theorem d_E_step_13 : decode b_E_step 13 = .ok (.ifCond .eq 20, 3) := by decide +kernel
theorem d_E_step_16 : decode b_E_step 16 = .ok (.iload_n 3, 1) := by decide +kernel
theorem d_E_step_17 : decode b_E_step 17 = .ok (.iconst 3, 1) := by decide +kernel
theorem d_E_step_18 : decode b_E_step 18 = .ok (.invokestatic 76, 3) := by decide +kernel
theorem d_E_step_21 : decode b_E_step 21 = .ok (.ifCond .eq 12, 3) := by decide +kernel
theorem d_E_step_24 : decode b_E_step 24 = .ok (.iload 4, 2) := by decide +kernel
theorem d_E_step_26 : decode b_E_step 26 = .ok (.iconst 3, 1) := by decide +kernel
theorem d_E_step_27 : decode b_E_step 27 = .ok (.invokestatic 76, 3) := by decide +kernel
theorem d_E_step_30 : decode b_E_step 30 = .ok (.ifCond .ne 5, 3) := by decide +kernel
theorem d_E_step_33 : decode b_E_step 33 = .ok (.iconst 0, 1) := by decide +kernel
theorem d_E_step_34 : decode b_E_step 34 = .ok (.ireturn, 1) := by decide +kernel
theorem d_E_step_35 : decode b_E_step 35 = .ok (.aload_n 0, 1) := by decide +kernel
theorem d_E_step_36 : decode b_E_step 36 = .ok (.getfield 32, 3) := by decide +kernel
theorem d_E_step_39 : decode b_E_step 39 = .ok (.iload_n 1, 1) := by decide +kernel
theorem d_E_step_40 : decode b_E_step 40 = .ok (.iload_n 2, 1) := by decide +kernel
theorem d_E_step_41 : decode b_E_step 41 = .ok (.iload_n 3, 1) := by decide +kernel
theorem d_E_step_42 : decode b_E_step 42 = .ok (.iload 4, 2) := by decide +kernel
theorem d_E_step_44 : decode b_E_step 44 = .ok (.invokevirtual 64, 3) := by decide +kernel
theorem d_E_step_47 : decode b_E_step 47 = .ok (.iconst 1, 1) := by decide +kernel
theorem d_E_step_48 : decode b_E_step 48 = .ok (.ireturn, 1) := by decide +kernel
theorem d_E_noise_0 : decode b_E_noise 0 = .ok (.iload_n 1, 1) := by decide +kernel
theorem d_E_noise_1 : decode b_E_noise 1 = .ok (.iload_n 2, 1) := by decide +kernel
theorem d_E_noise_2 : decode b_E_noise 2 = .ok (.iload_n 3, 1) := by decide +kernel
theorem d_E_noise_3 : decode b_E_noise 3 = .ok (.invokestatic 80, 3) := by decide +kernel
theorem d_E_noise_6 : decode b_E_noise 6 = .ok (.ifCond .ne 6, 3) := by decide +kernel
theorem d_E_noise_9 : decode b_E_noise 9 = .ok (.bipush (-3), 2) := by decide +kernel
theorem d_E_noise_11 : decode b_E_noise 11 = .ok (.ireturn, 1) := by decide +kernel
theorem d_E_noise_12 : decode b_E_noise 12 = .ok (.iload_n 1, 1) := by decide +kernel
theorem d_E_noise_13 : decode b_E_noise 13 = .ok (.iload_n 2, 1) := by decide +kernel
theorem d_E_noise_14 : decode b_E_noise 14 = .ok (.iload_n 3, 1) := by decide +kernel
theorem d_E_noise_15 : decode b_E_noise 15 = .ok (.invokestatic 84, 3) := by decide +kernel
theorem d_E_noise_18 : decode b_E_noise 18 = .ok (.ifCond .ne 6, 3) := by decide +kernel
theorem d_E_noise_21 : decode b_E_noise 21 = .ok (.bipush (-4), 2) := by decide +kernel
theorem d_E_noise_23 : decode b_E_noise 23 = .ok (.ireturn, 1) := by decide +kernel
theorem d_E_noise_24 : decode b_E_noise 24 = .ok (.aload_n 0, 1) := by decide +kernel
theorem d_E_noise_25 : decode b_E_noise 25 = .ok (.getfield 32, 3) := by decide +kernel
theorem d_E_noise_28 : decode b_E_noise 28 = .ok (.iload_n 1, 1) := by decide +kernel
theorem d_E_noise_29 : decode b_E_noise 29 = .ok (.iload_n 2, 1) := by decide +kernel
theorem d_E_noise_30 : decode b_E_noise 30 = .ok (.iload_n 3, 1) := by decide +kernel
theorem d_E_noise_31 : decode b_E_noise 31 = .ok (.invokevirtual 68, 3) := by decide +kernel
theorem d_E_noise_34 : decode b_E_noise 34 = .ok (.iconst 0, 1) := by decide +kernel
theorem d_E_noise_35 : decode b_E_noise 35 = .ok (.ireturn, 1) := by decide +kernel
theorem d_E_observe_0 : decode b_E_observe 0 = .ok (.iload_n 1, 1) := by decide +kernel
theorem d_E_observe_1 : decode b_E_observe 1 = .ok (.bipush 9, 2) := by decide +kernel
theorem d_E_observe_3 : decode b_E_observe 3 = .ok (.invokestatic 76, 3) := by decide +kernel
theorem d_E_observe_6 : decode b_E_observe 6 = .ok (.ifCond .eq 34, 3) := by decide +kernel
theorem d_E_observe_9 : decode b_E_observe 9 = .ok (.iload_n 2, 1) := by decide +kernel
theorem d_E_observe_10 : decode b_E_observe 10 = .ok (.bipush 9, 2) := by decide +kernel
theorem d_E_observe_12 : decode b_E_observe 12 = .ok (.invokestatic 76, 3) := by decide +kernel
theorem d_E_observe_15 : decode b_E_observe 15 = .ok (.ifCond .eq 25, 3) := by decide +kernel
theorem d_E_observe_18 : decode b_E_observe 18 = .ok (.iload_n 3, 1) := by decide +kernel
theorem d_E_observe_19 : decode b_E_observe 19 = .ok (.iconst 1, 1) := by decide +kernel
theorem d_E_observe_20 : decode b_E_observe 20 = .ok (.if_icmp .lt 20, 3) := by decide +kernel
theorem d_E_observe_23 : decode b_E_observe 23 = .ok (.iload_n 3, 1) := by decide +kernel
theorem d_E_observe_24 : decode b_E_observe 24 = .ok (.bipush 99, 2) := by decide +kernel
theorem d_E_observe_26 : decode b_E_observe 26 = .ok (.if_icmp .gt 14, 3) := by decide +kernel
theorem d_E_observe_29 : decode b_E_observe 29 = .ok (.iload 4, 2) := by decide +kernel
theorem d_E_observe_31 : decode b_E_observe 31 = .ok (.sipush 999, 3) := by decide +kernel
theorem d_E_observe_34 : decode b_E_observe 34 = .ok (.invokestatic 76, 3) := by decide +kernel
theorem d_E_observe_37 : decode b_E_observe 37 = .ok (.ifCond .ne 6, 3) := by decide +kernel
theorem d_E_observe_40 : decode b_E_observe 40 = .ok (.bipush (-3), 2) := by decide +kernel
theorem d_E_observe_42 : decode b_E_observe 42 = .ok (.ireturn, 1) := by decide +kernel
theorem d_E_observe_43 : decode b_E_observe 43 = .ok (.aload_n 0, 1) := by decide +kernel
theorem d_E_observe_44 : decode b_E_observe 44 = .ok (.getfield 91, 3) := by decide +kernel
theorem d_E_observe_47 : decode b_E_observe 47 = .ok (.bipush 6, 2) := by decide +kernel
theorem d_E_observe_49 : decode b_E_observe 49 = .ok (.if_icmp .lt 6, 3) := by decide +kernel
theorem d_E_observe_52 : decode b_E_observe 52 = .ok (.bipush (-5), 2) := by decide +kernel
theorem d_E_observe_54 : decode b_E_observe 54 = .ok (.ireturn, 1) := by decide +kernel
theorem d_E_observe_55 : decode b_E_observe 55 = .ok (.aload_n 0, 1) := by decide +kernel
theorem d_E_observe_56 : decode b_E_observe 56 = .ok (.invokevirtual 94, 3) := by decide +kernel
theorem d_E_observe_59 : decode b_E_observe 59 = .ok (.istore 5, 2) := by decide +kernel
theorem d_E_observe_61 : decode b_E_observe 61 = .ok (.aload_n 0, 1) := by decide +kernel
theorem d_E_observe_62 : decode b_E_observe 62 = .ok (.getfield 21, 3) := by decide +kernel
theorem d_E_observe_65 : decode b_E_observe 65 = .ok (.aload_n 0, 1) := by decide +kernel
theorem d_E_observe_66 : decode b_E_observe 66 = .ok (.getfield 91, 3) := by decide +kernel
theorem d_E_observe_69 : decode b_E_observe 69 = .ok (.aaload, 1) := by decide +kernel
theorem d_E_observe_70 : decode b_E_observe 70 = .ok (.astore 6, 2) := by decide +kernel
theorem d_E_observe_72 : decode b_E_observe 72 = .ok (.aload 6, 2) := by decide +kernel
theorem d_E_observe_74 : decode b_E_observe 74 = .ok (.iload_n 1, 1) := by decide +kernel
theorem d_E_observe_75 : decode b_E_observe 75 = .ok (.iload_n 2, 1) := by decide +kernel
theorem d_E_observe_76 : decode b_E_observe 76 = .ok (.iload_n 3, 1) := by decide +kernel
theorem d_E_observe_77 : decode b_E_observe 77 = .ok (.iload 4, 2) := by decide +kernel
theorem d_E_observe_79 : decode b_E_observe 79 = .ok (.invokevirtual 98, 3) := by decide +kernel
theorem d_E_observe_82 : decode b_E_observe 82 = .ok (.aload 6, 2) := by decide +kernel
theorem d_E_observe_84 : decode b_E_observe 84 = .ok (.aload_n 0, 1) := by decide +kernel
theorem d_E_observe_85 : decode b_E_observe 85 = .ok (.getfield 87, 3) := by decide +kernel
theorem d_E_observe_88 : decode b_E_observe 88 = .ok (.iload 5, 2) := by decide +kernel
theorem d_E_observe_90 : decode b_E_observe 90 = .ok (.invokevirtual 101, 3) := by decide +kernel
theorem d_E_observe_93 : decode b_E_observe 93 = .ok (.aload_n 0, 1) := by decide +kernel
theorem d_E_observe_94 : decode b_E_observe 94 = .ok (.getfield 11, 3) := by decide +kernel
theorem d_E_observe_97 : decode b_E_observe 97 = .ok (.iload 5, 2) := by decide +kernel
theorem d_E_observe_99 : decode b_E_observe 99 = .ok (.iconst 1, 1) := by decide +kernel
theorem d_E_observe_100 : decode b_E_observe 100 = .ok (.iadd, 1) := by decide +kernel
theorem d_E_observe_101 : decode b_E_observe 101 = .ok (.aaload, 1) := by decide +kernel
theorem d_E_observe_102 : decode b_E_observe 102 = .ok (.aload_n 0, 1) := by decide +kernel
theorem d_E_observe_103 : decode b_E_observe 103 = .ok (.getfield 11, 3) := by decide +kernel
theorem d_E_observe_106 : decode b_E_observe 106 = .ok (.iload 5, 2) := by decide +kernel
theorem d_E_observe_108 : decode b_E_observe 108 = .ok (.aaload, 1) := by decide +kernel
theorem d_E_observe_109 : decode b_E_observe 109 = .ok (.invokevirtual 105, 3) := by decide +kernel
theorem d_E_observe_112 : decode b_E_observe 112 = .ok (.aload_n 0, 1) := by decide +kernel
theorem d_E_observe_113 : decode b_E_observe 113 = .ok (.getfield 11, 3) := by decide +kernel
theorem d_E_observe_116 : decode b_E_observe 116 = .ok (.iload 5, 2) := by decide +kernel
theorem d_E_observe_118 : decode b_E_observe 118 = .ok (.iconst 1, 1) := by decide +kernel
theorem d_E_observe_119 : decode b_E_observe 119 = .ok (.iadd, 1) := by decide +kernel
theorem d_E_observe_120 : decode b_E_observe 120 = .ok (.aaload, 1) := by decide +kernel
theorem d_E_observe_121 : decode b_E_observe 121 = .ok (.aload 6, 2) := by decide +kernel
theorem d_E_observe_123 : decode b_E_observe 123 = .ok (.invokevirtual 109, 3) := by decide +kernel
theorem d_E_observe_126 : decode b_E_observe 126 = .ok (.aload_n 0, 1) := by decide +kernel
theorem d_E_observe_127 : decode b_E_observe 127 = .ok (.dup, 1) := by decide +kernel
theorem d_E_observe_128 : decode b_E_observe 128 = .ok (.getfield 91, 3) := by decide +kernel
theorem d_E_observe_131 : decode b_E_observe 131 = .ok (.iconst 1, 1) := by decide +kernel
theorem d_E_observe_132 : decode b_E_observe 132 = .ok (.iadd, 1) := by decide +kernel
theorem d_E_observe_133 : decode b_E_observe 133 = .ok (.putfield 91, 3) := by decide +kernel
theorem d_E_observe_136 : decode b_E_observe 136 = .ok (.aload_n 0, 1) := by decide +kernel
theorem d_E_observe_137 : decode b_E_observe 137 = .ok (.getfield 91, 3) := by decide +kernel
theorem d_E_observe_140 : decode b_E_observe 140 = .ok (.iconst 1, 1) := by decide +kernel
theorem d_E_observe_141 : decode b_E_observe 141 = .ok (.isub, 1) := by decide +kernel
theorem d_E_observe_142 : decode b_E_observe 142 = .ok (.ireturn, 1) := by decide +kernel
theorem d_E_advance_0 : decode b_E_advance 0 = .ok (.aload_n 0, 1) := by decide +kernel
theorem d_E_advance_1 : decode b_E_advance 1 = .ok (.getfield 87, 3) := by decide +kernel
theorem d_E_advance_4 : decode b_E_advance 4 = .ok (.iconst 3, 1) := by decide +kernel
theorem d_E_advance_5 : decode b_E_advance 5 = .ok (.if_icmp .lt 6, 3) := by decide +kernel
theorem d_E_advance_8 : decode b_E_advance 8 = .ok (.bipush (-5), 2) := by decide +kernel
theorem d_E_advance_10 : decode b_E_advance 10 = .ok (.ireturn, 1) := by decide +kernel
theorem d_E_advance_11 : decode b_E_advance 11 = .ok (.aload_n 0, 1) := by decide +kernel
theorem d_E_advance_12 : decode b_E_advance 12 = .ok (.invokevirtual 94, 3) := by decide +kernel
theorem d_E_advance_15 : decode b_E_advance 15 = .ok (.istore_n 1, 1) := by decide +kernel
theorem d_E_advance_16 : decode b_E_advance 16 = .ok (.aload_n 0, 1) := by decide +kernel
theorem d_E_advance_17 : decode b_E_advance 17 = .ok (.getfield 27, 3) := by decide +kernel
theorem d_E_advance_20 : decode b_E_advance 20 = .ok (.aload_n 0, 1) := by decide +kernel
theorem d_E_advance_21 : decode b_E_advance 21 = .ok (.getfield 87, 3) := by decide +kernel
theorem d_E_advance_24 : decode b_E_advance 24 = .ok (.aaload, 1) := by decide +kernel
theorem d_E_advance_25 : decode b_E_advance 25 = .ok (.astore_n 2, 1) := by decide +kernel
theorem d_E_advance_26 : decode b_E_advance 26 = .ok (.aload_n 2, 1) := by decide +kernel
theorem d_E_advance_27 : decode b_E_advance 27 = .ok (.aload_n 0, 1) := by decide +kernel
theorem d_E_advance_28 : decode b_E_advance 28 = .ok (.getfield 32, 3) := by decide +kernel
theorem d_E_advance_31 : decode b_E_advance 31 = .ok (.invokevirtual 113, 3) := by decide +kernel
theorem d_E_advance_34 : decode b_E_advance 34 = .ok (.aload_n 0, 1) := by decide +kernel
theorem d_E_advance_35 : decode b_E_advance 35 = .ok (.getfield 11, 3) := by decide +kernel
theorem d_E_advance_38 : decode b_E_advance 38 = .ok (.iload_n 1, 1) := by decide +kernel
theorem d_E_advance_39 : decode b_E_advance 39 = .ok (.iconst 1, 1) := by decide +kernel
theorem d_E_advance_40 : decode b_E_advance 40 = .ok (.iadd, 1) := by decide +kernel
theorem d_E_advance_41 : decode b_E_advance 41 = .ok (.aaload, 1) := by decide +kernel
theorem d_E_advance_42 : decode b_E_advance 42 = .ok (.aload_n 0, 1) := by decide +kernel
theorem d_E_advance_43 : decode b_E_advance 43 = .ok (.getfield 11, 3) := by decide +kernel
theorem d_E_advance_46 : decode b_E_advance 46 = .ok (.iload_n 1, 1) := by decide +kernel
theorem d_E_advance_47 : decode b_E_advance 47 = .ok (.aaload, 1) := by decide +kernel
theorem d_E_advance_48 : decode b_E_advance 48 = .ok (.aload_n 2, 1) := by decide +kernel
theorem d_E_advance_49 : decode b_E_advance 49 = .ok (.invokevirtual 116, 3) := by decide +kernel
theorem d_E_advance_52 : decode b_E_advance 52 = .ok (.aload_n 0, 1) := by decide +kernel
theorem d_E_advance_53 : decode b_E_advance 53 = .ok (.getfield 11, 3) := by decide +kernel
theorem d_E_advance_56 : decode b_E_advance 56 = .ok (.iload_n 1, 1) := by decide +kernel
theorem d_E_advance_57 : decode b_E_advance 57 = .ok (.iconst 1, 1) := by decide +kernel
theorem d_E_advance_58 : decode b_E_advance 58 = .ok (.iadd, 1) := by decide +kernel
theorem d_E_advance_59 : decode b_E_advance 59 = .ok (.aaload, 1) := by decide +kernel
theorem d_E_advance_60 : decode b_E_advance 60 = .ok (.aload_n 2, 1) := by decide +kernel
theorem d_E_advance_61 : decode b_E_advance 61 = .ok (.invokevirtual 120, 3) := by decide +kernel
theorem d_E_advance_64 : decode b_E_advance 64 = .ok (.aload_n 0, 1) := by decide +kernel
theorem d_E_advance_65 : decode b_E_advance 65 = .ok (.dup, 1) := by decide +kernel
theorem d_E_advance_66 : decode b_E_advance 66 = .ok (.getfield 87, 3) := by decide +kernel
theorem d_E_advance_69 : decode b_E_advance 69 = .ok (.iconst 1, 1) := by decide +kernel
theorem d_E_advance_70 : decode b_E_advance 70 = .ok (.iadd, 1) := by decide +kernel
theorem d_E_advance_71 : decode b_E_advance 71 = .ok (.putfield 87, 3) := by decide +kernel
theorem d_E_advance_74 : decode b_E_advance 74 = .ok (.aload_n 0, 1) := by decide +kernel
theorem d_E_advance_75 : decode b_E_advance 75 = .ok (.getfield 15, 3) := by decide +kernel
theorem d_E_advance_78 : decode b_E_advance 78 = .ok (.aload_n 0, 1) := by decide +kernel
theorem d_E_advance_79 : decode b_E_advance 79 = .ok (.getfield 87, 3) := by decide +kernel
theorem d_E_advance_82 : decode b_E_advance 82 = .ok (.iload_n 1, 1) := by decide +kernel
theorem d_E_advance_83 : decode b_E_advance 83 = .ok (.iconst 1, 1) := by decide +kernel
theorem d_E_advance_84 : decode b_E_advance 84 = .ok (.iadd, 1) := by decide +kernel
theorem d_E_advance_85 : decode b_E_advance 85 = .ok (.iastore, 1) := by decide +kernel
theorem d_E_advance_86 : decode b_E_advance 86 = .ok (.aload_n 0, 1) := by decide +kernel
theorem d_E_advance_87 : decode b_E_advance 87 = .ok (.getfield 87, 3) := by decide +kernel
theorem d_E_advance_90 : decode b_E_advance 90 = .ok (.ireturn, 1) := by decide +kernel
theorem d_E_time_0 : decode b_E_time 0 = .ok (.aload_n 0, 1) := by decide +kernel
theorem d_E_time_1 : decode b_E_time 1 = .ok (.getfield 87, 3) := by decide +kernel
theorem d_E_time_4 : decode b_E_time 4 = .ok (.ireturn, 1) := by decide +kernel
theorem d_E_observations_0 : decode b_E_observations 0 = .ok (.aload_n 0, 1) := by decide +kernel
theorem d_E_observations_1 : decode b_E_observations 1 = .ok (.getfield 91, 3) := by decide +kernel
theorem d_E_observations_4 : decode b_E_observations 4 = .ok (.ireturn, 1) := by decide +kernel
theorem d_E_sign_0 : decode b_E_sign 0 = .ok (.aload_n 0, 1) := by decide +kernel
theorem d_E_sign_1 : decode b_E_sign 1 = .ok (.iload_n 1, 1) := by decide +kernel
theorem d_E_sign_2 : decode b_E_sign 2 = .ok (.iload_n 2, 1) := by decide +kernel
theorem d_E_sign_3 : decode b_E_sign 3 = .ok (.iload_n 3, 1) := by decide +kernel
theorem d_E_sign_4 : decode b_E_sign 4 = .ok (.invokevirtual 123, 3) := by decide +kernel
theorem d_E_sign_7 : decode b_E_sign 7 = .ok (.ifCond .eq 13, 3) := by decide +kernel
theorem d_E_sign_10 : decode b_E_sign 10 = .ok (.aload_n 0, 1) := by decide +kernel
theorem d_E_sign_11 : decode b_E_sign 11 = .ok (.getfield 50, 3) := by decide +kernel
theorem d_E_sign_14 : decode b_E_sign 14 = .ok (.invokevirtual 126, 3) := by decide +kernel
theorem d_E_sign_17 : decode b_E_sign 17 = .ok (.goto 5, 3) := by decide +kernel
theorem d_E_sign_20 : decode b_E_sign 20 = .ok (.bipush (-2), 2) := by decide +kernel
theorem d_E_sign_22 : decode b_E_sign 22 = .ok (.ireturn, 1) := by decide +kernel
theorem d_E_bits_0 : decode b_E_bits 0 = .ok (.aload_n 0, 1) := by decide +kernel
theorem d_E_bits_1 : decode b_E_bits 1 = .ok (.iload_n 1, 1) := by decide +kernel
theorem d_E_bits_2 : decode b_E_bits 2 = .ok (.iload_n 2, 1) := by decide +kernel
theorem d_E_bits_3 : decode b_E_bits 3 = .ok (.iload_n 3, 1) := by decide +kernel
theorem d_E_bits_4 : decode b_E_bits 4 = .ok (.invokevirtual 123, 3) := by decide +kernel
theorem d_E_bits_7 : decode b_E_bits 7 = .ok (.ifCond .ne 6, 3) := by decide +kernel
theorem d_E_bits_10 : decode b_E_bits 10 = .ok (.bipush (-2), 2) := by decide +kernel
theorem d_E_bits_12 : decode b_E_bits 12 = .ok (.ireturn, 1) := by decide +kernel
theorem d_E_bits_13 : decode b_E_bits 13 = .ok (.aload_n 0, 1) := by decide +kernel
theorem d_E_bits_14 : decode b_E_bits 14 = .ok (.invokevirtual 129, 3) := by decide +kernel
theorem d_E_bits_17 : decode b_E_bits 17 = .ok (.iload 4, 2) := by decide +kernel
theorem d_E_bits_19 : decode b_E_bits 19 = .ok (.ifCond .eq 13, 3) := by decide +kernel
theorem d_E_bits_22 : decode b_E_bits 22 = .ok (.aload_n 0, 1) := by decide +kernel
theorem d_E_bits_23 : decode b_E_bits 23 = .ok (.getfield 54, 3) := by decide +kernel
theorem d_E_bits_26 : decode b_E_bits 26 = .ok (.invokevirtual 132, 3) := by decide +kernel
theorem d_E_bits_29 : decode b_E_bits 29 = .ok (.goto 10, 3) := by decide +kernel
theorem d_E_bits_32 : decode b_E_bits 32 = .ok (.aload_n 0, 1) := by decide +kernel
theorem d_E_bits_33 : decode b_E_bits 33 = .ok (.getfield 50, 3) := by decide +kernel
theorem d_E_bits_36 : decode b_E_bits 36 = .ok (.invokevirtual 132, 3) := by decide +kernel
theorem d_E_bits_39 : decode b_E_bits 39 = .ok (.ireturn, 1) := by decide +kernel
theorem d_E_word_0 : decode b_E_word 0 = .ok (.aload_n 0, 1) := by decide +kernel
theorem d_E_word_1 : decode b_E_word 1 = .ok (.iload_n 1, 1) := by decide +kernel
theorem d_E_word_2 : decode b_E_word 2 = .ok (.iload_n 2, 1) := by decide +kernel
theorem d_E_word_3 : decode b_E_word 3 = .ok (.iload_n 3, 1) := by decide +kernel
theorem d_E_word_4 : decode b_E_word 4 = .ok (.invokevirtual 123, 3) := by decide +kernel
theorem d_E_word_7 : decode b_E_word 7 = .ok (.ifCond .ne 7, 3) := by decide +kernel
theorem d_E_word_10 : decode b_E_word 10 = .ok (.ldc2_w 135, 3) := by decide +kernel
theorem d_E_word_13 : decode b_E_word 13 = .ok (.lreturn, 1) := by decide +kernel
theorem d_E_word_14 : decode b_E_word 14 = .ok (.iload 5, 2) := by decide +kernel
theorem d_E_word_16 : decode b_E_word 16 = .ok (.ifCond .lt 10, 3) := by decide +kernel
theorem d_E_word_19 : decode b_E_word 19 = .ok (.iload 5, 2) := by decide +kernel
theorem d_E_word_21 : decode b_E_word 21 = .ok (.bipush 31, 2) := by decide +kernel
theorem d_E_word_23 : decode b_E_word 23 = .ok (.if_icmp .le 7, 3) := by decide +kernel
theorem d_E_word_26 : decode b_E_word 26 = .ok (.ldc2_w 137, 3) := by decide +kernel
theorem d_E_word_29 : decode b_E_word 29 = .ok (.lreturn, 1) := by decide +kernel
theorem d_E_word_30 : decode b_E_word 30 = .ok (.aload_n 0, 1) := by decide +kernel
theorem d_E_word_31 : decode b_E_word 31 = .ok (.invokevirtual 129, 3) := by decide +kernel
theorem d_E_word_34 : decode b_E_word 34 = .ok (.iload 4, 2) := by decide +kernel
theorem d_E_word_36 : decode b_E_word 36 = .ok (.ifCond .eq 15, 3) := by decide +kernel
theorem d_E_word_39 : decode b_E_word 39 = .ok (.aload_n 0, 1) := by decide +kernel
theorem d_E_word_40 : decode b_E_word 40 = .ok (.getfield 54, 3) := by decide +kernel
theorem d_E_word_43 : decode b_E_word 43 = .ok (.iload 5, 2) := by decide +kernel
theorem d_E_word_45 : decode b_E_word 45 = .ok (.invokevirtual 139, 3) := by decide +kernel
theorem d_E_word_48 : decode b_E_word 48 = .ok (.goto 12, 3) := by decide +kernel
theorem d_E_word_51 : decode b_E_word 51 = .ok (.aload_n 0, 1) := by decide +kernel
theorem d_E_word_52 : decode b_E_word 52 = .ok (.getfield 50, 3) := by decide +kernel
theorem d_E_word_55 : decode b_E_word 55 = .ok (.iload 5, 2) := by decide +kernel
theorem d_E_word_57 : decode b_E_word 57 = .ok (.invokevirtual 139, 3) := by decide +kernel
theorem d_E_word_60 : decode b_E_word 60 = .ok (.lreturn, 1) := by decide +kernel
theorem d_E_compare_0 : decode b_E_compare 0 = .ok (.aload_n 0, 1) := by decide +kernel
theorem d_E_compare_1 : decode b_E_compare 1 = .ok (.iload_n 1, 1) := by decide +kernel
theorem d_E_compare_2 : decode b_E_compare 2 = .ok (.iload_n 2, 1) := by decide +kernel
theorem d_E_compare_3 : decode b_E_compare 3 = .ok (.iload_n 3, 1) := by decide +kernel
theorem d_E_compare_4 : decode b_E_compare 4 = .ok (.invokevirtual 123, 3) := by decide +kernel
theorem d_E_compare_7 : decode b_E_compare 7 = .ok (.ifCond .ne 6, 3) := by decide +kernel
theorem d_E_compare_10 : decode b_E_compare 10 = .ok (.bipush (-2), 2) := by decide +kernel
theorem d_E_compare_12 : decode b_E_compare 12 = .ok (.ireturn, 1) := by decide +kernel
theorem d_E_compare_13 : decode b_E_compare 13 = .ok (.iload 5, 2) := by decide +kernel
theorem d_E_compare_15 : decode b_E_compare 15 = .ok (.iconst 1, 1) := by decide +kernel
theorem d_E_compare_16 : decode b_E_compare 16 = .ok (.if_icmp .ge 6, 3) := by decide +kernel
theorem d_E_compare_19 : decode b_E_compare 19 = .ok (.bipush (-3), 2) := by decide +kernel
theorem d_E_compare_21 : decode b_E_compare 21 = .ok (.ireturn, 1) := by decide +kernel
theorem d_E_compare_22 : decode b_E_compare 22 = .ok (.aload_n 0, 1) := by decide +kernel
theorem d_E_compare_23 : decode b_E_compare 23 = .ok (.getfield 57, 3) := by decide +kernel
theorem d_E_compare_26 : decode b_E_compare 26 = .ok (.aload_n 0, 1) := by decide +kernel
theorem d_E_compare_27 : decode b_E_compare 27 = .ok (.getfield 50, 3) := by decide +kernel
theorem d_E_compare_30 : decode b_E_compare 30 = .ok (.iload 5, 2) := by decide +kernel
theorem d_E_compare_32 : decode b_E_compare 32 = .ok (.invokevirtual 143, 3) := by decide +kernel
theorem d_E_compare_35 : decode b_E_compare 35 = .ok (.aload_n 0, 1) := by decide +kernel
theorem d_E_compare_36 : decode b_E_compare 36 = .ok (.getfield 60, 3) := by decide +kernel
theorem d_E_compare_39 : decode b_E_compare 39 = .ok (.aload_n 0, 1) := by decide +kernel
theorem d_E_compare_40 : decode b_E_compare 40 = .ok (.getfield 54, 3) := by decide +kernel
theorem d_E_compare_43 : decode b_E_compare 43 = .ok (.iload 4, 2) := by decide +kernel
theorem d_E_compare_45 : decode b_E_compare 45 = .ok (.invokevirtual 143, 3) := by decide +kernel
theorem d_E_compare_48 : decode b_E_compare 48 = .ok (.aload_n 0, 1) := by decide +kernel
theorem d_E_compare_49 : decode b_E_compare 49 = .ok (.getfield 57, 3) := by decide +kernel
theorem d_E_compare_52 : decode b_E_compare 52 = .ok (.aload_n 0, 1) := by decide +kernel
theorem d_E_compare_53 : decode b_E_compare 53 = .ok (.getfield 60, 3) := by decide +kernel
theorem d_E_compare_56 : decode b_E_compare 56 = .ok (.iconst (-1), 1) := by decide +kernel
theorem d_E_compare_57 : decode b_E_compare 57 = .ok (.invokevirtual 147, 3) := by decide +kernel
theorem d_E_compare_60 : decode b_E_compare 60 = .ok (.aload_n 0, 1) := by decide +kernel
theorem d_E_compare_61 : decode b_E_compare 61 = .ok (.getfield 57, 3) := by decide +kernel
theorem d_E_compare_64 : decode b_E_compare 64 = .ok (.invokevirtual 126, 3) := by decide +kernel
theorem d_E_compare_67 : decode b_E_compare 67 = .ok (.ireturn, 1) := by decide +kernel
theorem d_E_within_0 : decode b_E_within 0 = .ok (.iload_n 0, 1) := by decide +kernel
theorem d_E_within_1 : decode b_E_within 1 = .ok (.iload_n 1, 1) := by decide +kernel
theorem d_E_within_2 : decode b_E_within 2 = .ok (.ineg, 1) := by decide +kernel
theorem d_E_within_3 : decode b_E_within 3 = .ok (.if_icmp .lt 12, 3) := by decide +kernel
theorem d_E_within_6 : decode b_E_within 6 = .ok (.iload_n 0, 1) := by decide +kernel
theorem d_E_within_7 : decode b_E_within 7 = .ok (.iload_n 1, 1) := by decide +kernel
theorem d_E_within_8 : decode b_E_within 8 = .ok (.if_icmp .gt 7, 3) := by decide +kernel
theorem d_E_within_11 : decode b_E_within 11 = .ok (.iconst 1, 1) := by decide +kernel
theorem d_E_within_12 : decode b_E_within 12 = .ok (.goto 4, 3) := by decide +kernel
theorem d_E_within_15 : decode b_E_within 15 = .ok (.iconst 0, 1) := by decide +kernel
theorem d_E_within_16 : decode b_E_within 16 = .ok (.ireturn, 1) := by decide +kernel
theorem d_E_fitsCovariance_0 : decode b_E_fitsCovariance 0 = .ok (.iload_n 0, 1) := by decide +kernel
theorem d_E_fitsCovariance_1 : decode b_E_fitsCovariance 1 = .ok (.bipush 99, 2) := by decide +kernel
theorem d_E_fitsCovariance_3 : decode b_E_fitsCovariance 3 = .ok (.invokestatic 76, 3) := by decide +kernel
theorem d_E_fitsCovariance_6 : decode b_E_fitsCovariance 6 = .ok (.ifCond .eq 25, 3) := by decide +kernel
theorem d_E_fitsCovariance_9 : decode b_E_fitsCovariance 9 = .ok (.iload_n 1, 1) := by decide +kernel
theorem d_E_fitsCovariance_10 : decode b_E_fitsCovariance 10 = .ok (.bipush 99, 2) := by decide +kernel
theorem d_E_fitsCovariance_12 : decode b_E_fitsCovariance 12 = .ok (.invokestatic 76, 3) := by decide +kernel
theorem d_E_fitsCovariance_15 : decode b_E_fitsCovariance 15 = .ok (.ifCond .eq 16, 3) := by decide +kernel
theorem d_E_fitsCovariance_18 : decode b_E_fitsCovariance 18 = .ok (.iload_n 2, 1) := by decide +kernel
theorem d_E_fitsCovariance_19 : decode b_E_fitsCovariance 19 = .ok (.bipush 99, 2) := by decide +kernel
theorem d_E_fitsCovariance_21 : decode b_E_fitsCovariance 21 = .ok (.invokestatic 76, 3) := by decide +kernel
theorem d_E_fitsCovariance_24 : decode b_E_fitsCovariance 24 = .ok (.ifCond .eq 7, 3) := by decide +kernel
theorem d_E_fitsCovariance_27 : decode b_E_fitsCovariance 27 = .ok (.iconst 1, 1) := by decide +kernel
theorem d_E_fitsCovariance_28 : decode b_E_fitsCovariance 28 = .ok (.goto 4, 3) := by decide +kernel
theorem d_E_fitsCovariance_31 : decode b_E_fitsCovariance 31 = .ok (.iconst 0, 1) := by decide +kernel
theorem d_E_fitsCovariance_32 : decode b_E_fitsCovariance 32 = .ok (.ireturn, 1) := by decide +kernel
theorem d_E_isPositive_0 : decode b_E_isPositive 0 = .ok (.iload_n 0, 1) := by decide +kernel
theorem d_E_isPositive_1 : decode b_E_isPositive 1 = .ok (.ifCond .le 16, 3) := by decide +kernel
theorem d_E_isPositive_4 : decode b_E_isPositive 4 = .ok (.iload_n 0, 1) := by decide +kernel
theorem d_E_isPositive_5 : decode b_E_isPositive 5 = .ok (.iload_n 2, 1) := by decide +kernel
theorem d_E_isPositive_6 : decode b_E_isPositive 6 = .ok (.imul, 1) := by decide +kernel
theorem d_E_isPositive_7 : decode b_E_isPositive 7 = .ok (.iload_n 1, 1) := by decide +kernel
theorem d_E_isPositive_8 : decode b_E_isPositive 8 = .ok (.iload_n 1, 1) := by decide +kernel
theorem d_E_isPositive_9 : decode b_E_isPositive 9 = .ok (.imul, 1) := by decide +kernel
theorem d_E_isPositive_10 : decode b_E_isPositive 10 = .ok (.if_icmp .le 7, 3) := by decide +kernel
theorem d_E_isPositive_13 : decode b_E_isPositive 13 = .ok (.iconst 1, 1) := by decide +kernel
theorem d_E_isPositive_14 : decode b_E_isPositive 14 = .ok (.goto 4, 3) := by decide +kernel
theorem d_E_isPositive_17 : decode b_E_isPositive 17 = .ok (.iconst 0, 1) := by decide +kernel
theorem d_E_isPositive_18 : decode b_E_isPositive 18 = .ok (.ireturn, 1) := by decide +kernel
theorem d_E_latest_0 : decode b_E_latest 0 = .ok (.aload_n 0, 1) := by decide +kernel
theorem d_E_latest_1 : decode b_E_latest 1 = .ok (.getfield 87, 3) := by decide +kernel
theorem d_E_latest_4 : decode b_E_latest 4 = .ok (.aload_n 0, 1) := by decide +kernel
theorem d_E_latest_5 : decode b_E_latest 5 = .ok (.getfield 91, 3) := by decide +kernel
theorem d_E_latest_8 : decode b_E_latest 8 = .ok (.iadd, 1) := by decide +kernel
theorem d_E_latest_9 : decode b_E_latest 9 = .ok (.ireturn, 1) := by decide +kernel
theorem d_E_find_0 : decode b_E_find 0 = .ok (.iload_n 1, 1) := by decide +kernel
theorem d_E_find_1 : decode b_E_find 1 = .ok (.iconst 3, 1) := by decide +kernel
theorem d_E_find_2 : decode b_E_find 2 = .ok (.if_icmp .ne 10, 3) := by decide +kernel
theorem d_E_find_5 : decode b_E_find 5 = .ok (.aload_n 0, 1) := by decide +kernel
theorem d_E_find_6 : decode b_E_find 6 = .ok (.iload_n 2, 1) := by decide +kernel
theorem d_E_find_7 : decode b_E_find 7 = .ok (.iload_n 3, 1) := by decide +kernel
theorem d_E_find_8 : decode b_E_find 8 = .ok (.invokevirtual 150, 3) := by decide +kernel
theorem d_E_find_11 : decode b_E_find 11 = .ok (.ireturn, 1) := by decide +kernel
theorem d_E_find_12 : decode b_E_find 12 = .ok (.iload_n 1, 1) := by decide +kernel
theorem d_E_find_13 : decode b_E_find 13 = .ok (.ifCond .lt 29, 3) := by decide +kernel
theorem d_E_find_16 : decode b_E_find 16 = .ok (.iload_n 1, 1) := by decide +kernel
theorem d_E_find_17 : decode b_E_find 17 = .ok (.iconst 2, 1) := by decide +kernel
theorem d_E_find_18 : decode b_E_find 18 = .ok (.if_icmp .gt 24, 3) := by decide +kernel
theorem d_E_find_21 : decode b_E_find 21 = .ok (.iload_n 2, 1) := by decide +kernel
theorem d_E_find_22 : decode b_E_find 22 = .ok (.ifCond .lt 20, 3) := by decide +kernel
theorem d_E_find_25 : decode b_E_find 25 = .ok (.iload_n 2, 1) := by decide +kernel
theorem d_E_find_26 : decode b_E_find 26 = .ok (.aload_n 0, 1) := by decide +kernel
theorem d_E_find_27 : decode b_E_find 27 = .ok (.getfield 87, 3) := by decide +kernel
theorem d_E_find_30 : decode b_E_find 30 = .ok (.if_icmp .gt 12, 3) := by decide +kernel
theorem d_E_find_33 : decode b_E_find 33 = .ok (.iload_n 3, 1) := by decide +kernel
theorem d_E_find_34 : decode b_E_find 34 = .ok (.ifCond .lt 8, 3) := by decide +kernel
theorem d_E_find_37 : decode b_E_find 37 = .ok (.iload_n 3, 1) := by decide +kernel
theorem d_E_find_38 : decode b_E_find 38 = .ok (.iconst 4, 1) := by decide +kernel
theorem d_E_find_39 : decode b_E_find 39 = .ok (.if_icmp .le 5, 3) := by decide +kernel
theorem d_E_find_42 : decode b_E_find 42 = .ok (.iconst 0, 1) := by decide +kernel
theorem d_E_find_43 : decode b_E_find 43 = .ok (.ireturn, 1) := by decide +kernel
theorem d_E_find_44 : decode b_E_find 44 = .ok (.aload_n 0, 1) := by decide +kernel
theorem d_E_find_45 : decode b_E_find 45 = .ok (.iload_n 1, 1) := by decide +kernel
theorem d_E_find_46 : decode b_E_find 46 = .ok (.iload_n 2, 1) := by decide +kernel
theorem d_E_find_47 : decode b_E_find 47 = .ok (.invokevirtual 153, 3) := by decide +kernel
theorem d_E_find_50 : decode b_E_find 50 = .ok (.iload_n 3, 1) := by decide +kernel
theorem d_E_find_51 : decode b_E_find 51 = .ok (.aload_n 0, 1) := by decide +kernel
theorem d_E_find_52 : decode b_E_find 52 = .ok (.getfield 50, 3) := by decide +kernel
theorem d_E_find_55 : decode b_E_find 55 = .ok (.aload_n 0, 1) := by decide +kernel
theorem d_E_find_56 : decode b_E_find 56 = .ok (.getfield 54, 3) := by decide +kernel
theorem d_E_find_59 : decode b_E_find 59 = .ok (.invokevirtual 157, 3) := by decide +kernel
theorem d_E_find_62 : decode b_E_find 62 = .ok (.iconst 1, 1) := by decide +kernel
theorem d_E_find_63 : decode b_E_find 63 = .ok (.ireturn, 1) := by decide +kernel
theorem d_E_findOfObservation_0 : decode b_E_findOfObservation 0 = .ok (.iload_n 1, 1) := by decide +kernel
theorem d_E_findOfObservation_1 : decode b_E_findOfObservation 1 = .ok (.ifCond .lt 20, 3) := by decide +kernel
theorem d_E_findOfObservation_4 : decode b_E_findOfObservation 4 = .ok (.iload_n 1, 1) := by decide +kernel
theorem d_E_findOfObservation_5 : decode b_E_findOfObservation 5 = .ok (.aload_n 0, 1) := by decide +kernel
theorem d_E_findOfObservation_6 : decode b_E_findOfObservation 6 = .ok (.getfield 91, 3) := by decide +kernel
theorem d_E_findOfObservation_9 : decode b_E_findOfObservation 9 = .ok (.if_icmp .ge 12, 3) := by decide +kernel
theorem d_E_findOfObservation_12 : decode b_E_findOfObservation 12 = .ok (.iload_n 2, 1) := by decide +kernel
theorem d_E_findOfObservation_13 : decode b_E_findOfObservation 13 = .ok (.ifCond .lt 8, 3) := by decide +kernel
theorem d_E_findOfObservation_16 : decode b_E_findOfObservation 16 = .ok (.iload_n 2, 1) := by decide +kernel
theorem d_E_findOfObservation_17 : decode b_E_findOfObservation 17 = .ok (.iconst 1, 1) := by decide +kernel
theorem d_E_findOfObservation_18 : decode b_E_findOfObservation 18 = .ok (.if_icmp .le 5, 3) := by decide +kernel
theorem d_E_findOfObservation_21 : decode b_E_findOfObservation 21 = .ok (.iconst 0, 1) := by decide +kernel
theorem d_E_findOfObservation_22 : decode b_E_findOfObservation 22 = .ok (.ireturn, 1) := by decide +kernel
theorem d_E_findOfObservation_23 : decode b_E_findOfObservation 23 = .ok (.aload_n 0, 1) := by decide +kernel
theorem d_E_findOfObservation_24 : decode b_E_findOfObservation 24 = .ok (.getfield 21, 3) := by decide +kernel
theorem d_E_findOfObservation_27 : decode b_E_findOfObservation 27 = .ok (.iload_n 1, 1) := by decide +kernel
theorem d_E_findOfObservation_28 : decode b_E_findOfObservation 28 = .ok (.aaload, 1) := by decide +kernel
theorem d_E_findOfObservation_29 : decode b_E_findOfObservation 29 = .ok (.astore_n 3, 1) := by decide +kernel
theorem d_E_findOfObservation_30 : decode b_E_findOfObservation 30 = .ok (.aload_n 0, 1) := by decide +kernel
theorem d_E_findOfObservation_31 : decode b_E_findOfObservation 31 = .ok (.getfield 11, 3) := by decide +kernel
theorem d_E_findOfObservation_34 : decode b_E_findOfObservation 34 = .ok (.aload_n 3, 1) := by decide +kernel
theorem d_E_findOfObservation_35 : decode b_E_findOfObservation 35 = .ok (.getfield 161, 3) := by decide +kernel
theorem d_E_findOfObservation_38 : decode b_E_findOfObservation 38 = .ok (.aaload, 1) := by decide +kernel
theorem d_E_findOfObservation_39 : decode b_E_findOfObservation 39 = .ok (.astore 4, 2) := by decide +kernel
theorem d_E_findOfObservation_41 : decode b_E_findOfObservation 41 = .ok (.aload_n 0, 1) := by decide +kernel
theorem d_E_findOfObservation_42 : decode b_E_findOfObservation 42 = .ok (.getfield 54, 3) := by decide +kernel
theorem d_E_findOfObservation_45 : decode b_E_findOfObservation 45 = .ok (.aload 4, 2) := by decide +kernel
theorem d_E_findOfObservation_47 : decode b_E_findOfObservation 47 = .ok (.getfield 164, 3) := by decide +kernel
theorem d_E_findOfObservation_50 : decode b_E_findOfObservation 50 = .ok (.invokevirtual 167, 3) := by decide +kernel
theorem d_E_findOfObservation_53 : decode b_E_findOfObservation 53 = .ok (.iload_n 2, 1) := by decide +kernel
theorem d_E_findOfObservation_54 : decode b_E_findOfObservation 54 = .ok (.ifCond .ne 42, 3) := by decide +kernel
theorem d_E_findOfObservation_57 : decode b_E_findOfObservation 57 = .ok (.aload_n 0, 1) := by decide +kernel
theorem d_E_findOfObservation_58 : decode b_E_findOfObservation 58 = .ok (.getfield 50, 3) := by decide +kernel
theorem d_E_findOfObservation_61 : decode b_E_findOfObservation 61 = .ok (.aload 4, 2) := by decide +kernel
theorem d_E_findOfObservation_63 : decode b_E_findOfObservation 63 = .ok (.getfield 164, 3) := by decide +kernel
theorem d_E_findOfObservation_66 : decode b_E_findOfObservation 66 = .ok (.aload_n 3, 1) := by decide +kernel
theorem d_E_findOfObservation_67 : decode b_E_findOfObservation 67 = .ok (.getfield 170, 3) := by decide +kernel
theorem d_E_findOfObservation_70 : decode b_E_findOfObservation 70 = .ok (.aload 4, 2) := by decide +kernel
theorem d_E_findOfObservation_72 : decode b_E_findOfObservation 72 = .ok (.getfield 173, 3) := by decide +kernel
theorem d_E_findOfObservation_75 : decode b_E_findOfObservation 75 = .ok (.aload_n 3, 1) := by decide +kernel
theorem d_E_findOfObservation_76 : decode b_E_findOfObservation 76 = .ok (.getfield 176, 3) := by decide +kernel
theorem d_E_findOfObservation_79 : decode b_E_findOfObservation 79 = .ok (.ineg, 1) := by decide +kernel
theorem d_E_findOfObservation_80 : decode b_E_findOfObservation 80 = .ok (.aload 4, 2) := by decide +kernel
theorem d_E_findOfObservation_82 : decode b_E_findOfObservation 82 = .ok (.getfield 179, 3) := by decide +kernel
theorem d_E_findOfObservation_85 : decode b_E_findOfObservation 85 = .ok (.aload_n 3, 1) := by decide +kernel
theorem d_E_findOfObservation_86 : decode b_E_findOfObservation 86 = .ok (.getfield 182, 3) := by decide +kernel
theorem d_E_findOfObservation_89 : decode b_E_findOfObservation 89 = .ok (.ineg, 1) := by decide +kernel
theorem d_E_findOfObservation_90 : decode b_E_findOfObservation 90 = .ok (.invokevirtual 185, 3) := by decide +kernel
theorem d_E_findOfObservation_93 : decode b_E_findOfObservation 93 = .ok (.goto 24, 3) := by decide +kernel
theorem d_E_findOfObservation_96 : decode b_E_findOfObservation 96 = .ok (.aload_n 0, 1) := by decide +kernel
theorem d_E_findOfObservation_97 : decode b_E_findOfObservation 97 = .ok (.getfield 50, 3) := by decide +kernel
theorem d_E_findOfObservation_100 : decode b_E_findOfObservation 100 = .ok (.aload_n 0, 1) := by decide +kernel
theorem d_E_findOfObservation_101 : decode b_E_findOfObservation 101 = .ok (.getfield 11, 3) := by decide +kernel
theorem d_E_findOfObservation_104 : decode b_E_findOfObservation 104 = .ok (.aload_n 3, 1) := by decide +kernel
theorem d_E_findOfObservation_105 : decode b_E_findOfObservation 105 = .ok (.getfield 161, 3) := by decide +kernel
theorem d_E_findOfObservation_108 : decode b_E_findOfObservation 108 = .ok (.iconst 1, 1) := by decide +kernel
theorem d_E_findOfObservation_109 : decode b_E_findOfObservation 109 = .ok (.iadd, 1) := by decide +kernel
theorem d_E_findOfObservation_110 : decode b_E_findOfObservation 110 = .ok (.aaload, 1) := by decide +kernel
theorem d_E_findOfObservation_111 : decode b_E_findOfObservation 111 = .ok (.getfield 164, 3) := by decide +kernel
theorem d_E_findOfObservation_114 : decode b_E_findOfObservation 114 = .ok (.invokevirtual 167, 3) := by decide +kernel
theorem d_E_findOfObservation_117 : decode b_E_findOfObservation 117 = .ok (.iconst 1, 1) := by decide +kernel
theorem d_E_findOfObservation_118 : decode b_E_findOfObservation 118 = .ok (.ireturn, 1) := by decide +kernel
theorem d_E_beliefOf_0 : decode b_E_beliefOf 0 = .ok (.iload_n 1, 1) := by decide +kernel
theorem d_E_beliefOf_1 : decode b_E_beliefOf 1 = .ok (.ifCond .ne 15, 3) := by decide +kernel
theorem d_E_beliefOf_4 : decode b_E_beliefOf 4 = .ok (.aload_n 0, 1) := by decide +kernel
theorem d_E_beliefOf_5 : decode b_E_beliefOf 5 = .ok (.getfield 11, 3) := by decide +kernel
theorem d_E_beliefOf_8 : decode b_E_beliefOf 8 = .ok (.aload_n 0, 1) := by decide +kernel
theorem d_E_beliefOf_9 : decode b_E_beliefOf 9 = .ok (.getfield 15, 3) := by decide +kernel
theorem d_E_beliefOf_12 : decode b_E_beliefOf 12 = .ok (.iload_n 2, 1) := by decide +kernel
theorem d_E_beliefOf_13 : decode b_E_beliefOf 13 = .ok (.iaload, 1) := by decide +kernel
theorem d_E_beliefOf_14 : decode b_E_beliefOf 14 = .ok (.aaload, 1) := by decide +kernel
theorem d_E_beliefOf_15 : decode b_E_beliefOf 15 = .ok (.areturn, 1) := by decide +kernel
theorem d_E_beliefOf_16 : decode b_E_beliefOf 16 = .ok (.aload_n 0, 1) := by decide +kernel
theorem d_E_beliefOf_17 : decode b_E_beliefOf 17 = .ok (.getfield 11, 3) := by decide +kernel
theorem d_E_beliefOf_20 : decode b_E_beliefOf 20 = .ok (.iload_n 2, 1) := by decide +kernel
theorem d_E_beliefOf_21 : decode b_E_beliefOf 21 = .ok (.aload_n 0, 1) := by decide +kernel
theorem d_E_beliefOf_22 : decode b_E_beliefOf 22 = .ok (.getfield 87, 3) := by decide +kernel
theorem d_E_beliefOf_25 : decode b_E_beliefOf 25 = .ok (.if_icmp .ge 16, 3) := by decide +kernel
theorem d_E_beliefOf_28 : decode b_E_beliefOf 28 = .ok (.aload_n 0, 1) := by decide +kernel
theorem d_E_beliefOf_29 : decode b_E_beliefOf 29 = .ok (.getfield 15, 3) := by decide +kernel
theorem d_E_beliefOf_32 : decode b_E_beliefOf 32 = .ok (.iload_n 2, 1) := by decide +kernel
theorem d_E_beliefOf_33 : decode b_E_beliefOf 33 = .ok (.iconst 1, 1) := by decide +kernel
theorem d_E_beliefOf_34 : decode b_E_beliefOf 34 = .ok (.iadd, 1) := by decide +kernel
theorem d_E_beliefOf_35 : decode b_E_beliefOf 35 = .ok (.iaload, 1) := by decide +kernel
theorem d_E_beliefOf_36 : decode b_E_beliefOf 36 = .ok (.iconst 1, 1) := by decide +kernel
theorem d_E_beliefOf_37 : decode b_E_beliefOf 37 = .ok (.isub, 1) := by decide +kernel
theorem d_E_beliefOf_38 : decode b_E_beliefOf 38 = .ok (.goto 7, 3) := by decide +kernel
theorem d_E_beliefOf_41 : decode b_E_beliefOf 41 = .ok (.aload_n 0, 1) := by decide +kernel
theorem d_E_beliefOf_42 : decode b_E_beliefOf 42 = .ok (.invokevirtual 94, 3) := by decide +kernel
theorem d_E_beliefOf_45 : decode b_E_beliefOf 45 = .ok (.aaload, 1) := by decide +kernel
theorem d_E_beliefOf_46 : decode b_E_beliefOf 46 = .ok (.astore_n 3, 1) := by decide +kernel
theorem d_E_beliefOf_47 : decode b_E_beliefOf 47 = .ok (.iload_n 1, 1) := by decide +kernel
theorem d_E_beliefOf_48 : decode b_E_beliefOf 48 = .ok (.iconst 1, 1) := by decide +kernel
theorem d_E_beliefOf_49 : decode b_E_beliefOf 49 = .ok (.if_icmp .ne 5, 3) := by decide +kernel
theorem d_E_beliefOf_52 : decode b_E_beliefOf 52 = .ok (.aload_n 3, 1) := by decide +kernel
theorem d_E_beliefOf_53 : decode b_E_beliefOf 53 = .ok (.areturn, 1) := by decide +kernel
theorem d_E_beliefOf_54 : decode b_E_beliefOf 54 = .ok (.aload_n 0, 1) := by decide +kernel
theorem d_E_beliefOf_55 : decode b_E_beliefOf 55 = .ok (.iload_n 2, 1) := by decide +kernel
theorem d_E_beliefOf_56 : decode b_E_beliefOf 56 = .ok (.invokevirtual 189, 3) := by decide +kernel
theorem d_E_beliefOf_59 : decode b_E_beliefOf 59 = .ok (.aload_n 0, 1) := by decide +kernel
theorem d_E_beliefOf_60 : decode b_E_beliefOf 60 = .ok (.getfield 44, 3) := by decide +kernel
theorem d_E_beliefOf_63 : decode b_E_beliefOf 63 = .ok (.aload_n 3, 1) := by decide +kernel
theorem d_E_beliefOf_64 : decode b_E_beliefOf 64 = .ok (.aload_n 0, 1) := by decide +kernel
theorem d_E_beliefOf_65 : decode b_E_beliefOf 65 = .ok (.getfield 37, 3) := by decide +kernel
theorem d_E_beliefOf_68 : decode b_E_beliefOf 68 = .ok (.invokevirtual 193, 3) := by decide +kernel
theorem d_E_beliefOf_71 : decode b_E_beliefOf 71 = .ok (.aload_n 0, 1) := by decide +kernel
theorem d_E_beliefOf_72 : decode b_E_beliefOf 72 = .ok (.getfield 44, 3) := by decide +kernel
theorem d_E_beliefOf_75 : decode b_E_beliefOf 75 = .ok (.areturn, 1) := by decide +kernel
theorem d_E_lookBackTo_0 : decode b_E_lookBackTo 0 = .ok (.aload_n 0, 1) := by decide +kernel
theorem d_E_lookBackTo_1 : decode b_E_lookBackTo 1 = .ok (.getfield 37, 3) := by decide +kernel
theorem d_E_lookBackTo_4 : decode b_E_lookBackTo 4 = .ok (.invokevirtual 197, 3) := by decide +kernel
theorem d_E_lookBackTo_7 : decode b_E_lookBackTo 7 = .ok (.aload_n 0, 1) := by decide +kernel
theorem d_E_lookBackTo_8 : decode b_E_lookBackTo 8 = .ok (.getfield 87, 3) := by decide +kernel
theorem d_E_lookBackTo_11 : decode b_E_lookBackTo 11 = .ok (.istore_n 2, 1) := by decide +kernel
theorem d_E_lookBackTo_12 : decode b_E_lookBackTo 12 = .ok (.iload_n 2, 1) := by decide +kernel
theorem d_E_lookBackTo_13 : decode b_E_lookBackTo 13 = .ok (.iload_n 1, 1) := by decide +kernel
theorem d_E_lookBackTo_14 : decode b_E_lookBackTo 14 = .ok (.if_icmp .le 91, 3) := by decide +kernel
theorem d_E_lookBackTo_17 : decode b_E_lookBackTo 17 = .ok (.iconst 0, 1) := by decide +kernel
theorem d_E_lookBackTo_18 : decode b_E_lookBackTo 18 = .ok (.istore_n 3, 1) := by decide +kernel
theorem d_E_lookBackTo_19 : decode b_E_lookBackTo 19 = .ok (.iload_n 3, 1) := by decide +kernel
theorem d_E_lookBackTo_20 : decode b_E_lookBackTo 20 = .ok (.aload_n 0, 1) := by decide +kernel
theorem d_E_lookBackTo_21 : decode b_E_lookBackTo 21 = .ok (.getfield 91, 3) := by decide +kernel
theorem d_E_lookBackTo_24 : decode b_E_lookBackTo 24 = .ok (.if_icmp .ge 35, 3) := by decide +kernel
theorem d_E_lookBackTo_27 : decode b_E_lookBackTo 27 = .ok (.aload_n 0, 1) := by decide +kernel
theorem d_E_lookBackTo_28 : decode b_E_lookBackTo 28 = .ok (.getfield 21, 3) := by decide +kernel
theorem d_E_lookBackTo_31 : decode b_E_lookBackTo 31 = .ok (.iload_n 3, 1) := by decide +kernel
theorem d_E_lookBackTo_32 : decode b_E_lookBackTo 32 = .ok (.aaload, 1) := by decide +kernel
theorem d_E_lookBackTo_33 : decode b_E_lookBackTo 33 = .ok (.getfield 200, 3) := by decide +kernel
theorem d_E_lookBackTo_36 : decode b_E_lookBackTo 36 = .ok (.iload_n 2, 1) := by decide +kernel
theorem d_E_lookBackTo_37 : decode b_E_lookBackTo 37 = .ok (.if_icmp .ne 16, 3) := by decide +kernel
theorem d_E_lookBackTo_40 : decode b_E_lookBackTo 40 = .ok (.aload_n 0, 1) := by decide +kernel
theorem d_E_lookBackTo_41 : decode b_E_lookBackTo 41 = .ok (.getfield 37, 3) := by decide +kernel
theorem d_E_lookBackTo_44 : decode b_E_lookBackTo 44 = .ok (.aload_n 0, 1) := by decide +kernel
theorem d_E_lookBackTo_45 : decode b_E_lookBackTo 45 = .ok (.getfield 21, 3) := by decide +kernel
theorem d_E_lookBackTo_48 : decode b_E_lookBackTo 48 = .ok (.iload_n 3, 1) := by decide +kernel
theorem d_E_lookBackTo_49 : decode b_E_lookBackTo 49 = .ok (.aaload, 1) := by decide +kernel
theorem d_E_lookBackTo_50 : decode b_E_lookBackTo 50 = .ok (.invokevirtual 109, 3) := by decide +kernel
theorem d_E_lookBackTo_53 : decode b_E_lookBackTo 53 = .ok (.iinc 3 1, 3) := by decide +kernel
theorem d_E_lookBackTo_56 : decode b_E_lookBackTo 56 = .ok (.goto (-37), 3) := by decide +kernel
theorem d_E_lookBackTo_59 : decode b_E_lookBackTo 59 = .ok (.aload_n 0, 1) := by decide +kernel
theorem d_E_lookBackTo_60 : decode b_E_lookBackTo 60 = .ok (.getfield 27, 3) := by decide +kernel
theorem d_E_lookBackTo_63 : decode b_E_lookBackTo 63 = .ok (.iload_n 2, 1) := by decide +kernel
theorem d_E_lookBackTo_64 : decode b_E_lookBackTo 64 = .ok (.iconst 1, 1) := by decide +kernel
theorem d_E_lookBackTo_65 : decode b_E_lookBackTo 65 = .ok (.isub, 1) := by decide +kernel
theorem d_E_lookBackTo_66 : decode b_E_lookBackTo 66 = .ok (.aaload, 1) := by decide +kernel
theorem d_E_lookBackTo_67 : decode b_E_lookBackTo 67 = .ok (.astore_n 3, 1) := by decide +kernel
theorem d_E_lookBackTo_68 : decode b_E_lookBackTo 68 = .ok (.aload_n 0, 1) := by decide +kernel
theorem d_E_lookBackTo_69 : decode b_E_lookBackTo 69 = .ok (.getfield 37, 3) := by decide +kernel
theorem d_E_lookBackTo_72 : decode b_E_lookBackTo 72 = .ok (.aload_n 3, 1) := by decide +kernel
theorem d_E_lookBackTo_73 : decode b_E_lookBackTo 73 = .ok (.invokevirtual 120, 3) := by decide +kernel
theorem d_E_lookBackTo_76 : decode b_E_lookBackTo 76 = .ok (.aload_n 0, 1) := by decide +kernel
theorem d_E_lookBackTo_77 : decode b_E_lookBackTo 77 = .ok (.getfield 41, 3) := by decide +kernel
theorem d_E_lookBackTo_80 : decode b_E_lookBackTo 80 = .ok (.aload_n 0, 1) := by decide +kernel
theorem d_E_lookBackTo_81 : decode b_E_lookBackTo 81 = .ok (.getfield 37, 3) := by decide +kernel
theorem d_E_lookBackTo_84 : decode b_E_lookBackTo 84 = .ok (.aload_n 3, 1) := by decide +kernel
theorem d_E_lookBackTo_85 : decode b_E_lookBackTo 85 = .ok (.invokevirtual 203, 3) := by decide +kernel
theorem d_E_lookBackTo_88 : decode b_E_lookBackTo 88 = .ok (.aload_n 0, 1) := by decide +kernel
theorem d_E_lookBackTo_89 : decode b_E_lookBackTo 89 = .ok (.getfield 37, 3) := by decide +kernel
theorem d_E_lookBackTo_92 : decode b_E_lookBackTo 92 = .ok (.aload_n 0, 1) := by decide +kernel
theorem d_E_lookBackTo_93 : decode b_E_lookBackTo 93 = .ok (.getfield 41, 3) := by decide +kernel
theorem d_E_lookBackTo_96 : decode b_E_lookBackTo 96 = .ok (.invokevirtual 105, 3) := by decide +kernel
theorem d_E_lookBackTo_99 : decode b_E_lookBackTo 99 = .ok (.iinc 2 (-1), 3) := by decide +kernel
theorem d_E_lookBackTo_102 : decode b_E_lookBackTo 102 = .ok (.goto (-90), 3) := by decide +kernel
theorem d_E_lookBackTo_105 : decode b_E_lookBackTo 105 = .ok (.return_, 1) := by decide +kernel
theorem d_E_reduce_0 : decode b_E_reduce 0 = .ok (.aload_n 0, 1) := by decide +kernel
theorem d_E_reduce_1 : decode b_E_reduce 1 = .ok (.getfield 50, 3) := by decide +kernel
theorem d_E_reduce_4 : decode b_E_reduce 4 = .ok (.invokevirtual 126, 3) := by decide +kernel
theorem d_E_reduce_7 : decode b_E_reduce 7 = .ok (.istore_n 1, 1) := by decide +kernel
theorem d_E_reduce_8 : decode b_E_reduce 8 = .ok (.iload_n 1, 1) := by decide +kernel
theorem d_E_reduce_9 : decode b_E_reduce 9 = .ok (.ifCond .ne 12, 3) := by decide +kernel
theorem d_E_reduce_12 : decode b_E_reduce 12 = .ok (.aload_n 0, 1) := by decide +kernel
theorem d_E_reduce_13 : decode b_E_reduce 13 = .ok (.getfield 54, 3) := by decide +kernel
theorem d_E_reduce_16 : decode b_E_reduce 16 = .ok (.iconst 1, 1) := by decide +kernel
theorem d_E_reduce_17 : decode b_E_reduce 17 = .ok (.invokevirtual 206, 3) := by decide +kernel
theorem d_E_reduce_20 : decode b_E_reduce 20 = .ok (.return_, 1) := by decide +kernel
theorem d_E_reduce_21 : decode b_E_reduce 21 = .ok (.iload_n 1, 1) := by decide +kernel
theorem d_E_reduce_22 : decode b_E_reduce 22 = .ok (.ifCond .ge 11, 3) := by decide +kernel
theorem d_E_reduce_25 : decode b_E_reduce 25 = .ok (.aload_n 0, 1) := by decide +kernel
theorem d_E_reduce_26 : decode b_E_reduce 26 = .ok (.getfield 50, 3) := by decide +kernel
theorem d_E_reduce_29 : decode b_E_reduce 29 = .ok (.iconst (-1), 1) := by decide +kernel
theorem d_E_reduce_30 : decode b_E_reduce 30 = .ok (.invokevirtual 208, 3) := by decide +kernel
theorem d_E_reduce_33 : decode b_E_reduce 33 = .ok (.aload_n 0, 1) := by decide +kernel
theorem d_E_reduce_34 : decode b_E_reduce 34 = .ok (.invokevirtual 211, 3) := by decide +kernel
theorem d_E_reduce_37 : decode b_E_reduce 37 = .ok (.aload_n 0, 1) := by decide +kernel
theorem d_E_reduce_38 : decode b_E_reduce 38 = .ok (.invokevirtual 214, 3) := by decide +kernel
theorem d_E_reduce_41 : decode b_E_reduce 41 = .ok (.astore_n 2, 1) := by decide +kernel
theorem d_E_reduce_42 : decode b_E_reduce 42 = .ok (.aload_n 0, 1) := by decide +kernel
theorem d_E_reduce_43 : decode b_E_reduce 43 = .ok (.getfield 50, 3) := by decide +kernel
theorem d_E_reduce_46 : decode b_E_reduce 46 = .ok (.aload_n 2, 1) := by decide +kernel
theorem d_E_reduce_47 : decode b_E_reduce 47 = .ok (.invokevirtual 218, 3) := by decide +kernel
theorem d_E_reduce_50 : decode b_E_reduce 50 = .ok (.aload_n 0, 1) := by decide +kernel
theorem d_E_reduce_51 : decode b_E_reduce 51 = .ok (.getfield 54, 3) := by decide +kernel
theorem d_E_reduce_54 : decode b_E_reduce 54 = .ok (.aload_n 2, 1) := by decide +kernel
theorem d_E_reduce_55 : decode b_E_reduce 55 = .ok (.invokevirtual 218, 3) := by decide +kernel
theorem d_E_reduce_58 : decode b_E_reduce 58 = .ok (.return_, 1) := by decide +kernel
theorem d_E_dropCommonTwos_0 : decode b_E_dropCommonTwos 0 = .ok (.iconst 0, 1) := by decide +kernel
theorem d_E_dropCommonTwos_1 : decode b_E_dropCommonTwos 1 = .ok (.istore_n 1, 1) := by decide +kernel
theorem d_E_dropCommonTwos_2 : decode b_E_dropCommonTwos 2 = .ok (.iload_n 1, 1) := by decide +kernel
theorem d_E_dropCommonTwos_3 : decode b_E_dropCommonTwos 3 = .ok (.iconst 5, 1) := by decide +kernel
theorem d_E_dropCommonTwos_4 : decode b_E_dropCommonTwos 4 = .ok (.if_icmp .gt 43, 3) := by decide +kernel
theorem d_E_dropCommonTwos_7 : decode b_E_dropCommonTwos 7 = .ok (.aload_n 0, 1) := by decide +kernel
theorem d_E_dropCommonTwos_8 : decode b_E_dropCommonTwos 8 = .ok (.getfield 50, 3) := by decide +kernel
theorem d_E_dropCommonTwos_11 : decode b_E_dropCommonTwos 11 = .ok (.invokevirtual 221, 3) := by decide +kernel
theorem d_E_dropCommonTwos_14 : decode b_E_dropCommonTwos 14 = .ok (.aload_n 0, 1) := by decide +kernel
theorem d_E_dropCommonTwos_15 : decode b_E_dropCommonTwos 15 = .ok (.getfield 54, 3) := by decide +kernel
theorem d_E_dropCommonTwos_18 : decode b_E_dropCommonTwos 18 = .ok (.invokevirtual 221, 3) := by decide +kernel
theorem d_E_dropCommonTwos_21 : decode b_E_dropCommonTwos 21 = .ok (.invokestatic 224, 3) := by decide +kernel
theorem d_E_dropCommonTwos_24 : decode b_E_dropCommonTwos 24 = .ok (.istore_n 2, 1) := by decide +kernel
theorem d_E_dropCommonTwos_25 : decode b_E_dropCommonTwos 25 = .ok (.aload_n 0, 1) := by decide +kernel
theorem d_E_dropCommonTwos_26 : decode b_E_dropCommonTwos 26 = .ok (.getfield 50, 3) := by decide +kernel
theorem d_E_dropCommonTwos_29 : decode b_E_dropCommonTwos 29 = .ok (.iload_n 2, 1) := by decide +kernel
theorem d_E_dropCommonTwos_30 : decode b_E_dropCommonTwos 30 = .ok (.invokevirtual 230, 3) := by decide +kernel
theorem d_E_dropCommonTwos_33 : decode b_E_dropCommonTwos 33 = .ok (.aload_n 0, 1) := by decide +kernel
theorem d_E_dropCommonTwos_34 : decode b_E_dropCommonTwos 34 = .ok (.getfield 54, 3) := by decide +kernel
theorem d_E_dropCommonTwos_37 : decode b_E_dropCommonTwos 37 = .ok (.iload_n 2, 1) := by decide +kernel
theorem d_E_dropCommonTwos_38 : decode b_E_dropCommonTwos 38 = .ok (.invokevirtual 230, 3) := by decide +kernel
theorem d_E_dropCommonTwos_41 : decode b_E_dropCommonTwos 41 = .ok (.iinc 1 1, 3) := by decide +kernel
theorem d_E_dropCommonTwos_44 : decode b_E_dropCommonTwos 44 = .ok (.goto (-42), 3) := by decide +kernel
theorem d_E_dropCommonTwos_47 : decode b_E_dropCommonTwos 47 = .ok (.return_, 1) := by decide +kernel
theorem d_E_oddCommonDivisor_0 : decode b_E_oddCommonDivisor 0 = .ok (.aload_n 0, 1) := by decide +kernel
theorem d_E_oddCommonDivisor_1 : decode b_E_oddCommonDivisor 1 = .ok (.getfield 57, 3) := by decide +kernel
theorem d_E_oddCommonDivisor_4 : decode b_E_oddCommonDivisor 4 = .ok (.astore_n 1, 1) := by decide +kernel
theorem d_E_oddCommonDivisor_5 : decode b_E_oddCommonDivisor 5 = .ok (.aload_n 0, 1) := by decide +kernel
theorem d_E_oddCommonDivisor_6 : decode b_E_oddCommonDivisor 6 = .ok (.getfield 60, 3) := by decide +kernel
theorem d_E_oddCommonDivisor_9 : decode b_E_oddCommonDivisor 9 = .ok (.astore_n 2, 1) := by decide +kernel
theorem d_E_oddCommonDivisor_10 : decode b_E_oddCommonDivisor 10 = .ok (.aload_n 1, 1) := by decide +kernel
theorem d_E_oddCommonDivisor_11 : decode b_E_oddCommonDivisor 11 = .ok (.aload_n 0, 1) := by decide +kernel
theorem d_E_oddCommonDivisor_12 : decode b_E_oddCommonDivisor 12 = .ok (.getfield 50, 3) := by decide +kernel
theorem d_E_oddCommonDivisor_15 : decode b_E_oddCommonDivisor 15 = .ok (.invokevirtual 167, 3) := by decide +kernel
theorem d_E_oddCommonDivisor_18 : decode b_E_oddCommonDivisor 18 = .ok (.aload_n 1, 1) := by decide +kernel
theorem d_E_oddCommonDivisor_19 : decode b_E_oddCommonDivisor 19 = .ok (.invokevirtual 233, 3) := by decide +kernel
theorem d_E_oddCommonDivisor_22 : decode b_E_oddCommonDivisor 22 = .ok (.aload_n 2, 1) := by decide +kernel
theorem d_E_oddCommonDivisor_23 : decode b_E_oddCommonDivisor 23 = .ok (.aload_n 0, 1) := by decide +kernel
theorem d_E_oddCommonDivisor_24 : decode b_E_oddCommonDivisor 24 = .ok (.getfield 54, 3) := by decide +kernel
theorem d_E_oddCommonDivisor_27 : decode b_E_oddCommonDivisor 27 = .ok (.invokevirtual 167, 3) := by decide +kernel
theorem d_E_oddCommonDivisor_30 : decode b_E_oddCommonDivisor 30 = .ok (.aload_n 2, 1) := by decide +kernel
theorem d_E_oddCommonDivisor_31 : decode b_E_oddCommonDivisor 31 = .ok (.invokevirtual 233, 3) := by decide +kernel
theorem d_E_oddCommonDivisor_34 : decode b_E_oddCommonDivisor 34 = .ok (.iconst 0, 1) := by decide +kernel
theorem d_E_oddCommonDivisor_35 : decode b_E_oddCommonDivisor 35 = .ok (.istore_n 3, 1) := by decide +kernel
theorem d_E_oddCommonDivisor_36 : decode b_E_oddCommonDivisor 36 = .ok (.iload_n 3, 1) := by decide +kernel
theorem d_E_oddCommonDivisor_37 : decode b_E_oddCommonDivisor 37 = .ok (.sipush 320, 3) := by decide +kernel
theorem d_E_oddCommonDivisor_40 : decode b_E_oddCommonDivisor 40 = .ok (.if_icmp .ge 47, 3) := by decide +kernel
theorem d_E_oddCommonDivisor_43 : decode b_E_oddCommonDivisor 43 = .ok (.aload_n 1, 1) := by decide +kernel
theorem d_E_oddCommonDivisor_44 : decode b_E_oddCommonDivisor 44 = .ok (.aload_n 2, 1) := by decide +kernel
theorem d_E_oddCommonDivisor_45 : decode b_E_oddCommonDivisor 45 = .ok (.invokevirtual 236, 3) := by decide +kernel
theorem d_E_oddCommonDivisor_48 : decode b_E_oddCommonDivisor 48 = .ok (.istore 4, 2) := by decide +kernel
theorem d_E_oddCommonDivisor_50 : decode b_E_oddCommonDivisor 50 = .ok (.iload 4, 2) := by decide +kernel
theorem d_E_oddCommonDivisor_52 : decode b_E_oddCommonDivisor 52 = .ok (.ifCond .ne 6, 3) := by decide +kernel
theorem d_E_oddCommonDivisor_55 : decode b_E_oddCommonDivisor 55 = .ok (.goto 32, 3) := by decide +kernel
theorem d_E_oddCommonDivisor_58 : decode b_E_oddCommonDivisor 58 = .ok (.iload 4, 2) := by decide +kernel
theorem d_E_oddCommonDivisor_60 : decode b_E_oddCommonDivisor 60 = .ok (.ifCond .ge 11, 3) := by decide +kernel
theorem d_E_oddCommonDivisor_63 : decode b_E_oddCommonDivisor 63 = .ok (.aload_n 1, 1) := by decide +kernel
theorem d_E_oddCommonDivisor_64 : decode b_E_oddCommonDivisor 64 = .ok (.astore 5, 2) := by decide +kernel
theorem d_E_oddCommonDivisor_66 : decode b_E_oddCommonDivisor 66 = .ok (.aload_n 2, 1) := by decide +kernel
theorem d_E_oddCommonDivisor_67 : decode b_E_oddCommonDivisor 67 = .ok (.astore_n 1, 1) := by decide +kernel
theorem d_E_oddCommonDivisor_68 : decode b_E_oddCommonDivisor 68 = .ok (.aload 5, 2) := by decide +kernel
theorem d_E_oddCommonDivisor_70 : decode b_E_oddCommonDivisor 70 = .ok (.astore_n 2, 1) := by decide +kernel
theorem d_E_oddCommonDivisor_71 : decode b_E_oddCommonDivisor 71 = .ok (.aload_n 1, 1) := by decide +kernel
theorem d_E_oddCommonDivisor_72 : decode b_E_oddCommonDivisor 72 = .ok (.aload_n 2, 1) := by decide +kernel
theorem d_E_oddCommonDivisor_73 : decode b_E_oddCommonDivisor 73 = .ok (.iconst (-1), 1) := by decide +kernel
theorem d_E_oddCommonDivisor_74 : decode b_E_oddCommonDivisor 74 = .ok (.invokevirtual 147, 3) := by decide +kernel
theorem d_E_oddCommonDivisor_77 : decode b_E_oddCommonDivisor 77 = .ok (.aload_n 1, 1) := by decide +kernel
theorem d_E_oddCommonDivisor_78 : decode b_E_oddCommonDivisor 78 = .ok (.invokevirtual 233, 3) := by decide +kernel
theorem d_E_oddCommonDivisor_81 : decode b_E_oddCommonDivisor 81 = .ok (.iinc 3 1, 3) := by decide +kernel
theorem d_E_oddCommonDivisor_84 : decode b_E_oddCommonDivisor 84 = .ok (.goto (-48), 3) := by decide +kernel
theorem d_E_oddCommonDivisor_87 : decode b_E_oddCommonDivisor 87 = .ok (.aload_n 2, 1) := by decide +kernel
theorem d_E_oddCommonDivisor_88 : decode b_E_oddCommonDivisor 88 = .ok (.areturn, 1) := by decide +kernel
theorem d_M_init_0 : decode b_M_init 0 = .ok (.aload_n 0, 1) := by decide +kernel
theorem d_M_init_1 : decode b_M_init 1 = .ok (.invokespecial 1, 3) := by decide +kernel
theorem d_M_init_4 : decode b_M_init 4 = .ok (.aload_n 0, 1) := by decide +kernel
theorem d_M_init_5 : decode b_M_init 5 = .ok (.sipush 13200, 3) := by decide +kernel
theorem d_M_init_8 : decode b_M_init 8 = .ok (.newarray .int, 2) := by decide +kernel
theorem d_M_init_10 : decode b_M_init 10 = .ok (.putfield 7, 3) := by decide +kernel
theorem d_M_init_13 : decode b_M_init 13 = .ok (.aload_n 0, 1) := by decide +kernel
theorem d_M_init_14 : decode b_M_init 14 = .ok (.bipush 120, 2) := by decide +kernel
theorem d_M_init_16 : decode b_M_init 16 = .ok (.newarray .int, 2) := by decide +kernel
theorem d_M_init_18 : decode b_M_init 18 = .ok (.putfield 13, 3) := by decide +kernel
theorem d_M_init_21 : decode b_M_init 21 = .ok (.aload_n 0, 1) := by decide +kernel
theorem d_M_init_22 : decode b_M_init 22 = .ok (.bipush 120, 2) := by decide +kernel
theorem d_M_init_24 : decode b_M_init 24 = .ok (.newarray .int, 2) := by decide +kernel
theorem d_M_init_26 : decode b_M_init 26 = .ok (.putfield 16, 3) := by decide +kernel
theorem d_M_init_29 : decode b_M_init 29 = .ok (.aload_n 0, 1) := by decide +kernel
theorem d_M_init_30 : decode b_M_init 30 = .ok (.sipush 224, 3) := by decide +kernel
theorem d_M_init_33 : decode b_M_init 33 = .ok (.newarray .int, 2) := by decide +kernel
theorem d_M_init_35 : decode b_M_init 35 = .ok (.putfield 19, 3) := by decide +kernel
theorem d_M_init_38 : decode b_M_init 38 = .ok (.aload_n 0, 1) := by decide +kernel
theorem d_M_init_39 : decode b_M_init 39 = .ok (.sipush 224, 3) := by decide +kernel
theorem d_M_init_42 : decode b_M_init 42 = .ok (.newarray .int, 2) := by decide +kernel
theorem d_M_init_44 : decode b_M_init 44 = .ok (.putfield 22, 3) := by decide +kernel
theorem d_M_init_47 : decode b_M_init 47 = .ok (.aload_n 0, 1) := by decide +kernel
theorem d_M_init_48 : decode b_M_init 48 = .ok (.iconst 4, 1) := by decide +kernel
theorem d_M_init_49 : decode b_M_init 49 = .ok (.newarray .int, 2) := by decide +kernel
theorem d_M_init_51 : decode b_M_init 51 = .ok (.putfield 25, 3) := by decide +kernel
theorem d_M_init_54 : decode b_M_init 54 = .ok (.aload_n 0, 1) := by decide +kernel
theorem d_M_init_55 : decode b_M_init 55 = .ok (.iconst 3, 1) := by decide +kernel
theorem d_M_init_56 : decode b_M_init 56 = .ok (.newarray .int, 2) := by decide +kernel
theorem d_M_init_58 : decode b_M_init 58 = .ok (.putfield 28, 3) := by decide +kernel
theorem d_M_init_61 : decode b_M_init 61 = .ok (.aload_n 0, 1) := by decide +kernel
theorem d_M_init_62 : decode b_M_init 62 = .ok (.bipush 12, 2) := by decide +kernel
theorem d_M_init_64 : decode b_M_init 64 = .ok (.newarray .int, 2) := by decide +kernel
theorem d_M_init_66 : decode b_M_init 66 = .ok (.putfield 31, 3) := by decide +kernel
theorem d_M_init_69 : decode b_M_init 69 = .ok (.aload_n 0, 1) := by decide +kernel
theorem d_M_init_70 : decode b_M_init 70 = .ok (.getfield 25, 3) := by decide +kernel
theorem d_M_init_73 : decode b_M_init 73 = .ok (.iconst 0, 1) := by decide +kernel
theorem d_M_init_74 : decode b_M_init 74 = .ok (.iconst 1, 1) := by decide +kernel
theorem d_M_init_75 : decode b_M_init 75 = .ok (.iastore, 1) := by decide +kernel
theorem d_M_init_76 : decode b_M_init 76 = .ok (.aload_n 0, 1) := by decide +kernel
theorem d_M_init_77 : decode b_M_init 77 = .ok (.getfield 25, 3) := by decide +kernel
theorem d_M_init_80 : decode b_M_init 80 = .ok (.iconst 3, 1) := by decide +kernel
theorem d_M_init_81 : decode b_M_init 81 = .ok (.iconst 1, 1) := by decide +kernel
theorem d_M_init_82 : decode b_M_init 82 = .ok (.iastore, 1) := by decide +kernel
theorem d_M_init_83 : decode b_M_init 83 = .ok (.aload_n 0, 1) := by decide +kernel
theorem d_M_init_84 : decode b_M_init 84 = .ok (.getfield 28, 3) := by decide +kernel
theorem d_M_init_87 : decode b_M_init 87 = .ok (.iconst 0, 1) := by decide +kernel
theorem d_M_init_88 : decode b_M_init 88 = .ok (.iconst 1, 1) := by decide +kernel
theorem d_M_init_89 : decode b_M_init 89 = .ok (.iastore, 1) := by decide +kernel
theorem d_M_init_90 : decode b_M_init 90 = .ok (.aload_n 0, 1) := by decide +kernel
theorem d_M_init_91 : decode b_M_init 91 = .ok (.getfield 28, 3) := by decide +kernel
theorem d_M_init_94 : decode b_M_init 94 = .ok (.iconst 2, 1) := by decide +kernel
theorem d_M_init_95 : decode b_M_init 95 = .ok (.iconst 1, 1) := by decide +kernel
theorem d_M_init_96 : decode b_M_init 96 = .ok (.iastore, 1) := by decide +kernel
theorem d_M_init_97 : decode b_M_init 97 = .ok (.aload_n 0, 1) := by decide +kernel
theorem d_M_init_98 : decode b_M_init 98 = .ok (.iconst 0, 1) := by decide +kernel
theorem d_M_init_99 : decode b_M_init 99 = .ok (.iconst 0, 1) := by decide +kernel
theorem d_M_init_100 : decode b_M_init 100 = .ok (.iconst 1, 1) := by decide +kernel
theorem d_M_init_101 : decode b_M_init 101 = .ok (.iconst 0, 1) := by decide +kernel
theorem d_M_init_102 : decode b_M_init 102 = .ok (.iconst 1, 1) := by decide +kernel
theorem d_M_init_103 : decode b_M_init 103 = .ok (.invokevirtual 34, 3) := by decide +kernel
theorem d_M_init_106 : decode b_M_init 106 = .ok (.return_, 1) := by decide +kernel
theorem d_M_put_0 : decode b_M_put 0 = .ok (.iload_n 2, 1) := by decide +kernel
theorem d_M_put_1 : decode b_M_put 1 = .ok (.ifCond .ge 9, 3) := by decide +kernel
theorem d_M_put_4 : decode b_M_put 4 = .ok (.iload_n 2, 1) := by decide +kernel
theorem d_M_put_5 : decode b_M_put 5 = .ok (.i2l, 1) := by decide +kernel
theorem d_M_put_6 : decode b_M_put 6 = .ok (.lneg, 1) := by decide +kernel
theorem d_M_put_7 : decode b_M_put 7 = .ok (.goto 5, 3) := by decide +kernel
theorem d_M_put_10 : decode b_M_put 10 = .ok (.iload_n 2, 1) := by decide +kernel
theorem d_M_put_11 : decode b_M_put 11 = .ok (.i2l, 1) := by decide +kernel
theorem d_M_put_12 : decode b_M_put 12 = .ok (.lstore_n 3, 1) := by decide +kernel
theorem d_M_put_13 : decode b_M_put 13 = .ok (.aload_n 0, 1) := by decide +kernel
theorem d_M_put_14 : decode b_M_put 14 = .ok (.getfield 16, 3) := by decide +kernel
theorem d_M_put_17 : decode b_M_put 17 = .ok (.iload_n 1, 1) := by decide +kernel
theorem d_M_put_18 : decode b_M_put 18 = .ok (.iload_n 2, 1) := by decide +kernel
theorem d_M_put_19 : decode b_M_put 19 = .ok (.ifCond .ge 7, 3) := by decide +kernel
theorem d_M_put_22 : decode b_M_put 22 = .ok (.iconst (-1), 1) := by decide +kernel
theorem d_M_put_23 : decode b_M_put 23 = .ok (.goto 12, 3) := by decide +kernel
theorem d_M_put_26 : decode b_M_put 26 = .ok (.iload_n 2, 1) := by decide +kernel
theorem d_M_put_27 : decode b_M_put 27 = .ok (.ifCond .le 7, 3) := by decide +kernel
theorem d_M_put_30 : decode b_M_put 30 = .ok (.iconst 1, 1) := by decide +kernel
theorem d_M_put_31 : decode b_M_put 31 = .ok (.goto 4, 3) := by decide +kernel
theorem d_M_put_34 : decode b_M_put 34 = .ok (.iconst 0, 1) := by decide +kernel
theorem d_M_put_35 : decode b_M_put 35 = .ok (.iastore, 1) := by decide +kernel
theorem d_M_put_36 : decode b_M_put 36 = .ok (.aload_n 0, 1) := by decide +kernel
theorem d_M_put_37 : decode b_M_put 37 = .ok (.getfield 13, 3) := by decide +kernel
theorem d_M_put_40 : decode b_M_put 40 = .ok (.iload_n 1, 1) := by decide +kernel
theorem d_M_put_41 : decode b_M_put 41 = .ok (.iconst 0, 1) := by decide +kernel
theorem d_M_put_42 : decode b_M_put 42 = .ok (.iastore, 1) := by decide +kernel
theorem d_M_put_43 : decode b_M_put 43 = .ok (.lload_n 3, 1) := by decide +kernel
theorem d_M_put_44 : decode b_M_put 44 = .ok (.lconst 0, 1) := by decide +kernel
theorem d_M_put_45 : decode b_M_put 45 = .ok (.lcmp, 1) := by decide +kernel
theorem d_M_put_46 : decode b_M_put 46 = .ok (.ifCond .le 43, 3) := by decide +kernel
theorem d_M_put_49 : decode b_M_put 49 = .ok (.aload_n 0, 1) := by decide +kernel
theorem d_M_put_50 : decode b_M_put 50 = .ok (.getfield 7, 3) := by decide +kernel
theorem d_M_put_53 : decode b_M_put 53 = .ok (.bipush 110, 2) := by decide +kernel
theorem d_M_put_55 : decode b_M_put 55 = .ok (.iload_n 1, 1) := by decide +kernel
theorem d_M_put_56 : decode b_M_put 56 = .ok (.imul, 1) := by decide +kernel
theorem d_M_put_57 : decode b_M_put 57 = .ok (.aload_n 0, 1) := by decide +kernel
theorem d_M_put_58 : decode b_M_put 58 = .ok (.getfield 13, 3) := by decide +kernel
theorem d_M_put_61 : decode b_M_put 61 = .ok (.iload_n 1, 1) := by decide +kernel
theorem d_M_put_62 : decode b_M_put 62 = .ok (.iaload, 1) := by decide +kernel
end
section
theorem d_M_put_63 : decode b_M_put 63 = .ok (.iadd, 1) := by decide +kernel
theorem d_M_put_64 : decode b_M_put 64 = .ok (.lload_n 3, 1) := by decide +kernel
theorem d_M_put_65 : decode b_M_put 65 = .ok (.ldc2_w 38, 3) := by decide +kernel
theorem d_M_put_68 : decode b_M_put 68 = .ok (.land, 1) := by decide +kernel
theorem d_M_put_69 : decode b_M_put 69 = .ok (.l2i, 1) := by decide +kernel
theorem d_M_put_70 : decode b_M_put 70 = .ok (.iastore, 1) := by decide +kernel
theorem d_M_put_71 : decode b_M_put 71 = .ok (.aload_n 0, 1) := by decide +kernel
theorem d_M_put_72 : decode b_M_put 72 = .ok (.getfield 13, 3) := by decide +kernel
theorem d_M_put_75 : decode b_M_put 75 = .ok (.iload_n 1, 1) := by decide +kernel
theorem d_M_put_76 : decode b_M_put 76 = .ok (.dup2, 1) := by decide +kernel
theorem d_M_put_77 : decode b_M_put 77 = .ok (.iaload, 1) := by decide +kernel
theorem d_M_put_78 : decode b_M_put 78 = .ok (.iconst 1, 1) := by decide +kernel
theorem d_M_put_79 : decode b_M_put 79 = .ok (.iadd, 1) := by decide +kernel
theorem d_M_put_80 : decode b_M_put 80 = .ok (.iastore, 1) := by decide +kernel
theorem d_M_put_81 : decode b_M_put 81 = .ok (.lload_n 3, 1) := by decide +kernel
theorem d_M_put_82 : decode b_M_put 82 = .ok (.bipush 16, 2) := by decide +kernel
theorem d_M_put_84 : decode b_M_put 84 = .ok (.lshr, 1) := by decide +kernel
theorem d_M_put_85 : decode b_M_put 85 = .ok (.lstore_n 3, 1) := by decide +kernel
theorem d_M_put_86 : decode b_M_put 86 = .ok (.goto (-43), 3) := by decide +kernel
theorem d_M_put_89 : decode b_M_put 89 = .ok (.return_, 1) := by decide +kernel
theorem d_M_copy_0 : decode b_M_copy 0 = .ok (.aload_n 0, 1) := by decide +kernel
theorem d_M_copy_1 : decode b_M_copy 1 = .ok (.getfield 13, 3) := by decide +kernel
theorem d_M_copy_4 : decode b_M_copy 4 = .ok (.iload_n 1, 1) := by decide +kernel
theorem d_M_copy_5 : decode b_M_copy 5 = .ok (.aload_n 0, 1) := by decide +kernel
theorem d_M_copy_6 : decode b_M_copy 6 = .ok (.getfield 13, 3) := by decide +kernel
theorem d_M_copy_9 : decode b_M_copy 9 = .ok (.iload_n 2, 1) := by decide +kernel
theorem d_M_copy_10 : decode b_M_copy 10 = .ok (.iaload, 1) := by decide +kernel
theorem d_M_copy_11 : decode b_M_copy 11 = .ok (.iastore, 1) := by decide +kernel
theorem d_M_copy_12 : decode b_M_copy 12 = .ok (.aload_n 0, 1) := by decide +kernel
theorem d_M_copy_13 : decode b_M_copy 13 = .ok (.getfield 16, 3) := by decide +kernel
theorem d_M_copy_16 : decode b_M_copy 16 = .ok (.iload_n 1, 1) := by decide +kernel
theorem d_M_copy_17 : decode b_M_copy 17 = .ok (.aload_n 0, 1) := by decide +kernel
theorem d_M_copy_18 : decode b_M_copy 18 = .ok (.getfield 16, 3) := by decide +kernel
theorem d_M_copy_21 : decode b_M_copy 21 = .ok (.iload_n 2, 1) := by decide +kernel
theorem d_M_copy_22 : decode b_M_copy 22 = .ok (.iaload, 1) := by decide +kernel
theorem d_M_copy_23 : decode b_M_copy 23 = .ok (.iastore, 1) := by decide +kernel
theorem d_M_copy_24 : decode b_M_copy 24 = .ok (.iconst 0, 1) := by decide +kernel
theorem d_M_copy_25 : decode b_M_copy 25 = .ok (.istore_n 3, 1) := by decide +kernel
theorem d_M_copy_26 : decode b_M_copy 26 = .ok (.iload_n 3, 1) := by decide +kernel
theorem d_M_copy_27 : decode b_M_copy 27 = .ok (.aload_n 0, 1) := by decide +kernel
theorem d_M_copy_28 : decode b_M_copy 28 = .ok (.getfield 13, 3) := by decide +kernel
theorem d_M_copy_31 : decode b_M_copy 31 = .ok (.iload_n 2, 1) := by decide +kernel
theorem d_M_copy_32 : decode b_M_copy 32 = .ok (.iaload, 1) := by decide +kernel
theorem d_M_copy_33 : decode b_M_copy 33 = .ok (.if_icmp .ge 31, 3) := by decide +kernel
theorem d_M_copy_36 : decode b_M_copy 36 = .ok (.aload_n 0, 1) := by decide +kernel
theorem d_M_copy_37 : decode b_M_copy 37 = .ok (.getfield 7, 3) := by decide +kernel
theorem d_M_copy_40 : decode b_M_copy 40 = .ok (.bipush 110, 2) := by decide +kernel
theorem d_M_copy_42 : decode b_M_copy 42 = .ok (.iload_n 1, 1) := by decide +kernel
theorem d_M_copy_43 : decode b_M_copy 43 = .ok (.imul, 1) := by decide +kernel
theorem d_M_copy_44 : decode b_M_copy 44 = .ok (.iload_n 3, 1) := by decide +kernel
theorem d_M_copy_45 : decode b_M_copy 45 = .ok (.iadd, 1) := by decide +kernel
theorem d_M_copy_46 : decode b_M_copy 46 = .ok (.aload_n 0, 1) := by decide +kernel
theorem d_M_copy_47 : decode b_M_copy 47 = .ok (.getfield 7, 3) := by decide +kernel
theorem d_M_copy_50 : decode b_M_copy 50 = .ok (.bipush 110, 2) := by decide +kernel
theorem d_M_copy_52 : decode b_M_copy 52 = .ok (.iload_n 2, 1) := by decide +kernel
theorem d_M_copy_53 : decode b_M_copy 53 = .ok (.imul, 1) := by decide +kernel
theorem d_M_copy_54 : decode b_M_copy 54 = .ok (.iload_n 3, 1) := by decide +kernel
theorem d_M_copy_55 : decode b_M_copy 55 = .ok (.iadd, 1) := by decide +kernel
theorem d_M_copy_56 : decode b_M_copy 56 = .ok (.iaload, 1) := by decide +kernel
theorem d_M_copy_57 : decode b_M_copy 57 = .ok (.iastore, 1) := by decide +kernel
theorem d_M_copy_58 : decode b_M_copy 58 = .ok (.iinc 3 1, 3) := by decide +kernel
theorem d_M_copy_61 : decode b_M_copy 61 = .ok (.goto (-35), 3) := by decide +kernel
theorem d_M_copy_64 : decode b_M_copy 64 = .ok (.return_, 1) := by decide +kernel
theorem d_M_store_0 : decode b_M_store 0 = .ok (.iload_n 2, 1) := by decide +kernel
theorem d_M_store_1 : decode b_M_store 1 = .ok (.istore 4, 2) := by decide +kernel
theorem d_M_store_3 : decode b_M_store 3 = .ok (.iload 4, 2) := by decide +kernel
theorem d_M_store_5 : decode b_M_store 5 = .ok (.ifCond .le 21, 3) := by decide +kernel
theorem d_M_store_8 : decode b_M_store 8 = .ok (.aload_n 0, 1) := by decide +kernel
theorem d_M_store_9 : decode b_M_store 9 = .ok (.getfield 19, 3) := by decide +kernel
theorem d_M_store_12 : decode b_M_store 12 = .ok (.iload 4, 2) := by decide +kernel
theorem d_M_store_14 : decode b_M_store 14 = .ok (.iconst 1, 1) := by decide +kernel
theorem d_M_store_15 : decode b_M_store 15 = .ok (.isub, 1) := by decide +kernel
theorem d_M_store_16 : decode b_M_store 16 = .ok (.iaload, 1) := by decide +kernel
theorem d_M_store_17 : decode b_M_store 17 = .ok (.ifCond .ne 9, 3) := by decide +kernel
theorem d_M_store_20 : decode b_M_store 20 = .ok (.iinc 4 (-1), 3) := by decide +kernel
theorem d_M_store_23 : decode b_M_store 23 = .ok (.goto (-20), 3) := by decide +kernel
theorem d_M_store_26 : decode b_M_store 26 = .ok (.aload_n 0, 1) := by decide +kernel
theorem d_M_store_27 : decode b_M_store 27 = .ok (.getfield 13, 3) := by decide +kernel
theorem d_M_store_30 : decode b_M_store 30 = .ok (.iload_n 1, 1) := by decide +kernel
theorem d_M_store_31 : decode b_M_store 31 = .ok (.iload 4, 2) := by decide +kernel
theorem d_M_store_33 : decode b_M_store 33 = .ok (.iastore, 1) := by decide +kernel
theorem d_M_store_34 : decode b_M_store 34 = .ok (.aload_n 0, 1) := by decide +kernel
theorem d_M_store_35 : decode b_M_store 35 = .ok (.getfield 16, 3) := by decide +kernel
theorem d_M_store_38 : decode b_M_store 38 = .ok (.iload_n 1, 1) := by decide +kernel
theorem d_M_store_39 : decode b_M_store 39 = .ok (.iload 4, 2) := by decide +kernel
theorem d_M_store_41 : decode b_M_store 41 = .ok (.ifCond .ne 7, 3) := by decide +kernel
theorem d_M_store_44 : decode b_M_store 44 = .ok (.iconst 0, 1) := by decide +kernel
theorem d_M_store_45 : decode b_M_store 45 = .ok (.goto 4, 3) := by decide +kernel
theorem d_M_store_48 : decode b_M_store 48 = .ok (.iload_n 3, 1) := by decide +kernel
theorem d_M_store_49 : decode b_M_store 49 = .ok (.iastore, 1) := by decide +kernel
theorem d_M_store_50 : decode b_M_store 50 = .ok (.iconst 0, 1) := by decide +kernel
theorem d_M_store_51 : decode b_M_store 51 = .ok (.istore 5, 2) := by decide +kernel
theorem d_M_store_53 : decode b_M_store 53 = .ok (.iload 5, 2) := by decide +kernel
theorem d_M_store_55 : decode b_M_store 55 = .ok (.iload 4, 2) := by decide +kernel
theorem d_M_store_57 : decode b_M_store 57 = .ok (.if_icmp .ge 28, 3) := by decide +kernel
theorem d_M_store_60 : decode b_M_store 60 = .ok (.aload_n 0, 1) := by decide +kernel
theorem d_M_store_61 : decode b_M_store 61 = .ok (.getfield 7, 3) := by decide +kernel
theorem d_M_store_64 : decode b_M_store 64 = .ok (.bipush 110, 2) := by decide +kernel
theorem d_M_store_66 : decode b_M_store 66 = .ok (.iload_n 1, 1) := by decide +kernel
theorem d_M_store_67 : decode b_M_store 67 = .ok (.imul, 1) := by decide +kernel
theorem d_M_store_68 : decode b_M_store 68 = .ok (.iload 5, 2) := by decide +kernel
theorem d_M_store_70 : decode b_M_store 70 = .ok (.iadd, 1) := by decide +kernel
theorem d_M_store_71 : decode b_M_store 71 = .ok (.aload_n 0, 1) := by decide +kernel
theorem d_M_store_72 : decode b_M_store 72 = .ok (.getfield 19, 3) := by decide +kernel
theorem d_M_store_75 : decode b_M_store 75 = .ok (.iload 5, 2) := by decide +kernel
theorem d_M_store_77 : decode b_M_store 77 = .ok (.iaload, 1) := by decide +kernel
theorem d_M_store_78 : decode b_M_store 78 = .ok (.iastore, 1) := by decide +kernel
theorem d_M_store_79 : decode b_M_store 79 = .ok (.iinc 5 1, 3) := by decide +kernel
theorem d_M_store_82 : decode b_M_store 82 = .ok (.goto (-29), 3) := by decide +kernel
theorem d_M_store_85 : decode b_M_store 85 = .ok (.return_, 1) := by decide +kernel
theorem d_M_digitOf_0 : decode b_M_digitOf 0 = .ok (.iload_n 2, 1) := by decide +kernel
theorem d_M_digitOf_1 : decode b_M_digitOf 1 = .ok (.aload_n 0, 1) := by decide +kernel
theorem d_M_digitOf_2 : decode b_M_digitOf 2 = .ok (.getfield 13, 3) := by decide +kernel
theorem d_M_digitOf_5 : decode b_M_digitOf 5 = .ok (.iload_n 1, 1) := by decide +kernel
theorem d_M_digitOf_6 : decode b_M_digitOf 6 = .ok (.iaload, 1) := by decide +kernel
theorem d_M_digitOf_7 : decode b_M_digitOf 7 = .ok (.if_icmp .ge 17, 3) := by decide +kernel
theorem d_M_digitOf_10 : decode b_M_digitOf 10 = .ok (.aload_n 0, 1) := by decide +kernel
theorem d_M_digitOf_11 : decode b_M_digitOf 11 = .ok (.getfield 7, 3) := by decide +kernel
theorem d_M_digitOf_14 : decode b_M_digitOf 14 = .ok (.bipush 110, 2) := by decide +kernel
theorem d_M_digitOf_16 : decode b_M_digitOf 16 = .ok (.iload_n 1, 1) := by decide +kernel
theorem d_M_digitOf_17 : decode b_M_digitOf 17 = .ok (.imul, 1) := by decide +kernel
theorem d_M_digitOf_18 : decode b_M_digitOf 18 = .ok (.iload_n 2, 1) := by decide +kernel
theorem d_M_digitOf_19 : decode b_M_digitOf 19 = .ok (.iadd, 1) := by decide +kernel
theorem d_M_digitOf_20 : decode b_M_digitOf 20 = .ok (.iaload, 1) := by decide +kernel
theorem d_M_digitOf_21 : decode b_M_digitOf 21 = .ok (.goto 4, 3) := by decide +kernel
theorem d_M_digitOf_24 : decode b_M_digitOf 24 = .ok (.iconst 0, 1) := by decide +kernel
theorem d_M_digitOf_25 : decode b_M_digitOf 25 = .ok (.ireturn, 1) := by decide +kernel
theorem d_M_against_0 : decode b_M_against 0 = .ok (.aload_n 0, 1) := by decide +kernel
theorem d_M_against_1 : decode b_M_against 1 = .ok (.getfield 13, 3) := by decide +kernel
theorem d_M_against_4 : decode b_M_against 4 = .ok (.iload_n 1, 1) := by decide +kernel
theorem d_M_against_5 : decode b_M_against 5 = .ok (.iaload, 1) := by decide +kernel
theorem d_M_against_6 : decode b_M_against 6 = .ok (.aload_n 0, 1) := by decide +kernel
theorem d_M_against_7 : decode b_M_against 7 = .ok (.getfield 13, 3) := by decide +kernel
theorem d_M_against_10 : decode b_M_against 10 = .ok (.iload_n 2, 1) := by decide +kernel
theorem d_M_against_11 : decode b_M_against 11 = .ok (.iaload, 1) := by decide +kernel
theorem d_M_against_12 : decode b_M_against 12 = .ok (.if_icmp .le 12, 3) := by decide +kernel
theorem d_M_against_15 : decode b_M_against 15 = .ok (.aload_n 0, 1) := by decide +kernel
theorem d_M_against_16 : decode b_M_against 16 = .ok (.getfield 13, 3) := by decide +kernel
theorem d_M_against_19 : decode b_M_against 19 = .ok (.iload_n 1, 1) := by decide +kernel
theorem d_M_against_20 : decode b_M_against 20 = .ok (.iaload, 1) := by decide +kernel
theorem d_M_against_21 : decode b_M_against 21 = .ok (.goto 9, 3) := by decide +kernel
theorem d_M_against_24 : decode b_M_against 24 = .ok (.aload_n 0, 1) := by decide +kernel
theorem d_M_against_25 : decode b_M_against 25 = .ok (.getfield 13, 3) := by decide +kernel
theorem d_M_against_28 : decode b_M_against 28 = .ok (.iload_n 2, 1) := by decide +kernel
theorem d_M_against_29 : decode b_M_against 29 = .ok (.iaload, 1) := by decide +kernel
theorem d_M_against_30 : decode b_M_against 30 = .ok (.istore_n 3, 1) := by decide +kernel
theorem d_M_against_31 : decode b_M_against 31 = .ok (.iload_n 3, 1) := by decide +kernel
theorem d_M_against_32 : decode b_M_against 32 = .ok (.iconst 1, 1) := by decide +kernel
theorem d_M_against_33 : decode b_M_against 33 = .ok (.isub, 1) := by decide +kernel
theorem d_M_against_34 : decode b_M_against 34 = .ok (.istore 4, 2) := by decide +kernel
theorem d_M_against_36 : decode b_M_against 36 = .ok (.iload 4, 2) := by decide +kernel
theorem d_M_against_38 : decode b_M_against 38 = .ok (.ifCond .lt 42, 3) := by decide +kernel
theorem d_M_against_41 : decode b_M_against 41 = .ok (.aload_n 0, 1) := by decide +kernel
theorem d_M_against_42 : decode b_M_against 42 = .ok (.iload_n 1, 1) := by decide +kernel
theorem d_M_against_43 : decode b_M_against 43 = .ok (.iload 4, 2) := by decide +kernel
theorem d_M_against_45 : decode b_M_against 45 = .ok (.invokevirtual 40, 3) := by decide +kernel
theorem d_M_against_48 : decode b_M_against 48 = .ok (.aload_n 0, 1) := by decide +kernel
theorem d_M_against_49 : decode b_M_against 49 = .ok (.iload_n 2, 1) := by decide +kernel
theorem d_M_against_50 : decode b_M_against 50 = .ok (.iload 4, 2) := by decide +kernel
theorem d_M_against_52 : decode b_M_against 52 = .ok (.invokevirtual 40, 3) := by decide +kernel
theorem d_M_against_55 : decode b_M_against 55 = .ok (.isub, 1) := by decide +kernel
theorem d_M_against_56 : decode b_M_against 56 = .ok (.istore 5, 2) := by decide +kernel
theorem d_M_against_58 : decode b_M_against 58 = .ok (.iload 5, 2) := by decide +kernel
theorem d_M_against_60 : decode b_M_against 60 = .ok (.ifCond .eq 14, 3) := by decide +kernel
theorem d_M_against_63 : decode b_M_against 63 = .ok (.iload 5, 2) := by decide +kernel
theorem d_M_against_65 : decode b_M_against 65 = .ok (.ifCond .ge 7, 3) := by decide +kernel
theorem d_M_against_68 : decode b_M_against 68 = .ok (.iconst (-1), 1) := by decide +kernel
theorem d_M_against_69 : decode b_M_against 69 = .ok (.goto 4, 3) := by decide +kernel
theorem d_M_against_72 : decode b_M_against 72 = .ok (.iconst 1, 1) := by decide +kernel
theorem d_M_against_73 : decode b_M_against 73 = .ok (.ireturn, 1) := by decide +kernel
theorem d_M_against_74 : decode b_M_against 74 = .ok (.iinc 4 (-1), 3) := by decide +kernel
theorem d_M_against_77 : decode b_M_against 77 = .ok (.goto (-41), 3) := by decide +kernel
theorem d_M_against_80 : decode b_M_against 80 = .ok (.iconst 0, 1) := by decide +kernel
theorem d_M_against_81 : decode b_M_against 81 = .ok (.ireturn, 1) := by decide +kernel
theorem d_M_sum_0 : decode b_M_sum 0 = .ok (.aload_n 0, 1) := by decide +kernel
theorem d_M_sum_1 : decode b_M_sum 1 = .ok (.getfield 13, 3) := by decide +kernel
theorem d_M_sum_4 : decode b_M_sum 4 = .ok (.iload_n 2, 1) := by decide +kernel
theorem d_M_sum_5 : decode b_M_sum 5 = .ok (.iaload, 1) := by decide +kernel
theorem d_M_sum_6 : decode b_M_sum 6 = .ok (.aload_n 0, 1) := by decide +kernel
theorem d_M_sum_7 : decode b_M_sum 7 = .ok (.getfield 13, 3) := by decide +kernel
theorem d_M_sum_10 : decode b_M_sum 10 = .ok (.iload_n 3, 1) := by decide +kernel
theorem d_M_sum_11 : decode b_M_sum 11 = .ok (.iaload, 1) := by decide +kernel
theorem d_M_sum_12 : decode b_M_sum 12 = .ok (.if_icmp .le 12, 3) := by decide +kernel
theorem d_M_sum_15 : decode b_M_sum 15 = .ok (.aload_n 0, 1) := by decide +kernel
theorem d_M_sum_16 : decode b_M_sum 16 = .ok (.getfield 13, 3) := by decide +kernel
theorem d_M_sum_19 : decode b_M_sum 19 = .ok (.iload_n 2, 1) := by decide +kernel
theorem d_M_sum_20 : decode b_M_sum 20 = .ok (.iaload, 1) := by decide +kernel
theorem d_M_sum_21 : decode b_M_sum 21 = .ok (.goto 9, 3) := by decide +kernel
theorem d_M_sum_24 : decode b_M_sum 24 = .ok (.aload_n 0, 1) := by decide +kernel
theorem d_M_sum_25 : decode b_M_sum 25 = .ok (.getfield 13, 3) := by decide +kernel
theorem d_M_sum_28 : decode b_M_sum 28 = .ok (.iload_n 3, 1) := by decide +kernel
theorem d_M_sum_29 : decode b_M_sum 29 = .ok (.iaload, 1) := by decide +kernel
theorem d_M_sum_30 : decode b_M_sum 30 = .ok (.istore 5, 2) := by decide +kernel
theorem d_M_sum_32 : decode b_M_sum 32 = .ok (.iload 4, 2) := by decide +kernel
theorem d_M_sum_34 : decode b_M_sum 34 = .ok (.aload_n 0, 1) := by decide +kernel
theorem d_M_sum_35 : decode b_M_sum 35 = .ok (.getfield 16, 3) := by decide +kernel
theorem d_M_sum_38 : decode b_M_sum 38 = .ok (.iload_n 3, 1) := by decide +kernel
theorem d_M_sum_39 : decode b_M_sum 39 = .ok (.iaload, 1) := by decide +kernel
theorem d_M_sum_40 : decode b_M_sum 40 = .ok (.imul, 1) := by decide +kernel
theorem d_M_sum_41 : decode b_M_sum 41 = .ok (.istore 6, 2) := by decide +kernel
theorem d_M_sum_43 : decode b_M_sum 43 = .ok (.iconst 0, 1) := by decide +kernel
theorem d_M_sum_44 : decode b_M_sum 44 = .ok (.istore 7, 2) := by decide +kernel
theorem d_M_sum_46 : decode b_M_sum 46 = .ok (.aload_n 0, 1) := by decide +kernel
theorem d_M_sum_47 : decode b_M_sum 47 = .ok (.getfield 16, 3) := by decide +kernel
theorem d_M_sum_50 : decode b_M_sum 50 = .ok (.iload_n 2, 1) := by decide +kernel
theorem d_M_sum_51 : decode b_M_sum 51 = .ok (.iaload, 1) := by decide +kernel
theorem d_M_sum_52 : decode b_M_sum 52 = .ok (.iload 6, 2) := by decide +kernel
theorem d_M_sum_54 : decode b_M_sum 54 = .ok (.imul, 1) := by decide +kernel
theorem d_M_sum_55 : decode b_M_sum 55 = .ok (.ifCond .lt 97, 3) := by decide +kernel
theorem d_M_sum_58 : decode b_M_sum 58 = .ok (.iconst 0, 1) := by decide +kernel
theorem d_M_sum_59 : decode b_M_sum 59 = .ok (.istore 8, 2) := by decide +kernel
theorem d_M_sum_61 : decode b_M_sum 61 = .ok (.iload 8, 2) := by decide +kernel
theorem d_M_sum_63 : decode b_M_sum 63 = .ok (.iload 5, 2) := by decide +kernel
theorem d_M_sum_65 : decode b_M_sum 65 = .ok (.if_icmp .ge 48, 3) := by decide +kernel
theorem d_M_sum_68 : decode b_M_sum 68 = .ok (.iload 7, 2) := by decide +kernel
theorem d_M_sum_70 : decode b_M_sum 70 = .ok (.aload_n 0, 1) := by decide +kernel
theorem d_M_sum_71 : decode b_M_sum 71 = .ok (.iload_n 2, 1) := by decide +kernel
theorem d_M_sum_72 : decode b_M_sum 72 = .ok (.iload 8, 2) := by decide +kernel
theorem d_M_sum_74 : decode b_M_sum 74 = .ok (.invokevirtual 40, 3) := by decide +kernel
theorem d_M_sum_77 : decode b_M_sum 77 = .ok (.iadd, 1) := by decide +kernel
theorem d_M_sum_78 : decode b_M_sum 78 = .ok (.aload_n 0, 1) := by decide +kernel
theorem d_M_sum_79 : decode b_M_sum 79 = .ok (.iload_n 3, 1) := by decide +kernel
theorem d_M_sum_80 : decode b_M_sum 80 = .ok (.iload 8, 2) := by decide +kernel
theorem d_M_sum_82 : decode b_M_sum 82 = .ok (.invokevirtual 40, 3) := by decide +kernel
theorem d_M_sum_85 : decode b_M_sum 85 = .ok (.iadd, 1) := by decide +kernel
theorem d_M_sum_86 : decode b_M_sum 86 = .ok (.istore 7, 2) := by decide +kernel
theorem d_M_sum_88 : decode b_M_sum 88 = .ok (.aload_n 0, 1) := by decide +kernel
theorem d_M_sum_89 : decode b_M_sum 89 = .ok (.getfield 19, 3) := by decide +kernel
theorem d_M_sum_92 : decode b_M_sum 92 = .ok (.iload 8, 2) := by decide +kernel
theorem d_M_sum_94 : decode b_M_sum 94 = .ok (.iload 7, 2) := by decide +kernel
theorem d_M_sum_96 : decode b_M_sum 96 = .ok (.ldc 44, 2) := by decide +kernel
theorem d_M_sum_98 : decode b_M_sum 98 = .ok (.iand, 1) := by decide +kernel
theorem d_M_sum_99 : decode b_M_sum 99 = .ok (.iastore, 1) := by decide +kernel
theorem d_M_sum_100 : decode b_M_sum 100 = .ok (.iload 7, 2) := by decide +kernel
theorem d_M_sum_102 : decode b_M_sum 102 = .ok (.bipush 16, 2) := by decide +kernel
theorem d_M_sum_104 : decode b_M_sum 104 = .ok (.ishr, 1) := by decide +kernel
theorem d_M_sum_105 : decode b_M_sum 105 = .ok (.istore 7, 2) := by decide +kernel
theorem d_M_sum_107 : decode b_M_sum 107 = .ok (.iinc 8 1, 3) := by decide +kernel
theorem d_M_sum_110 : decode b_M_sum 110 = .ok (.goto (-49), 3) := by decide +kernel
theorem d_M_sum_113 : decode b_M_sum 113 = .ok (.aload_n 0, 1) := by decide +kernel
theorem d_M_sum_114 : decode b_M_sum 114 = .ok (.getfield 19, 3) := by decide +kernel
theorem d_M_sum_117 : decode b_M_sum 117 = .ok (.iload 5, 2) := by decide +kernel
theorem d_M_sum_119 : decode b_M_sum 119 = .ok (.iload 7, 2) := by decide +kernel
theorem d_M_sum_121 : decode b_M_sum 121 = .ok (.iastore, 1) := by decide +kernel
theorem d_M_sum_122 : decode b_M_sum 122 = .ok (.aload_n 0, 1) := by decide +kernel
theorem d_M_sum_123 : decode b_M_sum 123 = .ok (.iload_n 1, 1) := by decide +kernel
theorem d_M_sum_124 : decode b_M_sum 124 = .ok (.iload 5, 2) := by decide +kernel
theorem d_M_sum_126 : decode b_M_sum 126 = .ok (.iconst 1, 1) := by decide +kernel
theorem d_M_sum_127 : decode b_M_sum 127 = .ok (.iadd, 1) := by decide +kernel
theorem d_M_sum_128 : decode b_M_sum 128 = .ok (.aload_n 0, 1) := by decide +kernel
theorem d_M_sum_129 : decode b_M_sum 129 = .ok (.getfield 16, 3) := by decide +kernel
theorem d_M_sum_132 : decode b_M_sum 132 = .ok (.iload_n 2, 1) := by decide +kernel
theorem d_M_sum_133 : decode b_M_sum 133 = .ok (.iaload, 1) := by decide +kernel
theorem d_M_sum_134 : decode b_M_sum 134 = .ok (.ifCond .ne 8, 3) := by decide +kernel
theorem d_M_sum_137 : decode b_M_sum 137 = .ok (.iload 6, 2) := by decide +kernel
theorem d_M_sum_139 : decode b_M_sum 139 = .ok (.goto 9, 3) := by decide +kernel
theorem d_M_sum_142 : decode b_M_sum 142 = .ok (.aload_n 0, 1) := by decide +kernel
theorem d_M_sum_143 : decode b_M_sum 143 = .ok (.getfield 16, 3) := by decide +kernel
theorem d_M_sum_146 : decode b_M_sum 146 = .ok (.iload_n 2, 1) := by decide +kernel
theorem d_M_sum_147 : decode b_M_sum 147 = .ok (.iaload, 1) := by decide +kernel
theorem d_M_sum_148 : decode b_M_sum 148 = .ok (.invokevirtual 45, 3) := by decide +kernel
theorem d_M_sum_151 : decode b_M_sum 151 = .ok (.return_, 1) := by decide +kernel
theorem d_M_sum_152 : decode b_M_sum 152 = .ok (.aload_n 0, 1) := by decide +kernel
theorem d_M_sum_153 : decode b_M_sum 153 = .ok (.iload_n 2, 1) := by decide +kernel
theorem d_M_sum_154 : decode b_M_sum 154 = .ok (.iload_n 3, 1) := by decide +kernel
theorem d_M_sum_155 : decode b_M_sum 155 = .ok (.invokevirtual 49, 3) := by decide +kernel
theorem d_M_sum_158 : decode b_M_sum 158 = .ok (.ifCond .lt 7, 3) := by decide +kernel
theorem d_M_sum_161 : decode b_M_sum 161 = .ok (.iconst 1, 1) := by decide +kernel
theorem d_M_sum_162 : decode b_M_sum 162 = .ok (.goto 4, 3) := by decide +kernel
theorem d_M_sum_165 : decode b_M_sum 165 = .ok (.iconst 0, 1) := by decide +kernel
theorem d_M_sum_166 : decode b_M_sum 166 = .ok (.istore 8, 2) := by decide +kernel
theorem d_M_sum_168 : decode b_M_sum 168 = .ok (.iload 8, 2) := by decide +kernel
theorem d_M_sum_170 : decode b_M_sum 170 = .ok (.ifCond .eq 7, 3) := by decide +kernel
theorem d_M_sum_173 : decode b_M_sum 173 = .ok (.iload_n 2, 1) := by decide +kernel
theorem d_M_sum_174 : decode b_M_sum 174 = .ok (.goto 4, 3) := by decide +kernel
theorem d_M_sum_177 : decode b_M_sum 177 = .ok (.iload_n 3, 1) := by decide +kernel
theorem d_M_sum_178 : decode b_M_sum 178 = .ok (.istore 9, 2) := by decide +kernel
theorem d_M_sum_180 : decode b_M_sum 180 = .ok (.iload 8, 2) := by decide +kernel
theorem d_M_sum_182 : decode b_M_sum 182 = .ok (.ifCond .eq 7, 3) := by decide +kernel
theorem d_M_sum_185 : decode b_M_sum 185 = .ok (.iload_n 3, 1) := by decide +kernel
theorem d_M_sum_186 : decode b_M_sum 186 = .ok (.goto 4, 3) := by decide +kernel
theorem d_M_sum_189 : decode b_M_sum 189 = .ok (.iload_n 2, 1) := by decide +kernel
theorem d_M_sum_190 : decode b_M_sum 190 = .ok (.istore 10, 2) := by decide +kernel
theorem d_M_sum_192 : decode b_M_sum 192 = .ok (.iconst 0, 1) := by decide +kernel
theorem d_M_sum_193 : decode b_M_sum 193 = .ok (.istore 11, 2) := by decide +kernel
theorem d_M_sum_195 : decode b_M_sum 195 = .ok (.iload 11, 2) := by decide +kernel
theorem d_M_sum_197 : decode b_M_sum 197 = .ok (.iload 5, 2) := by decide +kernel
theorem d_M_sum_199 : decode b_M_sum 199 = .ok (.if_icmp .ge 55, 3) := by decide +kernel
theorem d_M_sum_202 : decode b_M_sum 202 = .ok (.aload_n 0, 1) := by decide +kernel
theorem d_M_sum_203 : decode b_M_sum 203 = .ok (.iload 9, 2) := by decide +kernel
theorem d_M_sum_205 : decode b_M_sum 205 = .ok (.iload 11, 2) := by decide +kernel
theorem d_M_sum_207 : decode b_M_sum 207 = .ok (.invokevirtual 40, 3) := by decide +kernel
theorem d_M_sum_210 : decode b_M_sum 210 = .ok (.aload_n 0, 1) := by decide +kernel
theorem d_M_sum_211 : decode b_M_sum 211 = .ok (.iload 10, 2) := by decide +kernel
theorem d_M_sum_213 : decode b_M_sum 213 = .ok (.iload 11, 2) := by decide +kernel
theorem d_M_sum_215 : decode b_M_sum 215 = .ok (.invokevirtual 40, 3) := by decide +kernel
theorem d_M_sum_218 : decode b_M_sum 218 = .ok (.isub, 1) := by decide +kernel
theorem d_M_sum_219 : decode b_M_sum 219 = .ok (.iload 7, 2) := by decide +kernel
theorem d_M_sum_221 : decode b_M_sum 221 = .ok (.iadd, 1) := by decide +kernel
theorem d_M_sum_222 : decode b_M_sum 222 = .ok (.istore 12, 2) := by decide +kernel
theorem d_M_sum_224 : decode b_M_sum 224 = .ok (.aload_n 0, 1) := by decide +kernel
theorem d_M_sum_225 : decode b_M_sum 225 = .ok (.getfield 19, 3) := by decide +kernel
theorem d_M_sum_228 : decode b_M_sum 228 = .ok (.iload 11, 2) := by decide +kernel
theorem d_M_sum_230 : decode b_M_sum 230 = .ok (.iload 12, 2) := by decide +kernel
theorem d_M_sum_232 : decode b_M_sum 232 = .ok (.ldc 44, 2) := by decide +kernel
theorem d_M_sum_234 : decode b_M_sum 234 = .ok (.iand, 1) := by decide +kernel
theorem d_M_sum_235 : decode b_M_sum 235 = .ok (.iastore, 1) := by decide +kernel
theorem d_M_sum_236 : decode b_M_sum 236 = .ok (.iload 12, 2) := by decide +kernel
theorem d_M_sum_238 : decode b_M_sum 238 = .ok (.ifCond .ge 7, 3) := by decide +kernel
theorem d_M_sum_241 : decode b_M_sum 241 = .ok (.iconst (-1), 1) := by decide +kernel
theorem d_M_sum_242 : decode b_M_sum 242 = .ok (.goto 4, 3) := by decide +kernel
theorem d_M_sum_245 : decode b_M_sum 245 = .ok (.iconst 0, 1) := by decide +kernel
theorem d_M_sum_246 : decode b_M_sum 246 = .ok (.istore 7, 2) := by decide +kernel
theorem d_M_sum_248 : decode b_M_sum 248 = .ok (.iinc 11 1, 3) := by decide +kernel
theorem d_M_sum_251 : decode b_M_sum 251 = .ok (.goto (-56), 3) := by decide +kernel
theorem d_M_sum_254 : decode b_M_sum 254 = .ok (.aload_n 0, 1) := by decide +kernel
theorem d_M_sum_255 : decode b_M_sum 255 = .ok (.iload_n 1, 1) := by decide +kernel
theorem d_M_sum_256 : decode b_M_sum 256 = .ok (.iload 5, 2) := by decide +kernel
theorem d_M_sum_258 : decode b_M_sum 258 = .ok (.iload 8, 2) := by decide +kernel
theorem d_M_sum_260 : decode b_M_sum 260 = .ok (.ifCond .eq 12, 3) := by decide +kernel
theorem d_M_sum_263 : decode b_M_sum 263 = .ok (.aload_n 0, 1) := by decide +kernel
theorem d_M_sum_264 : decode b_M_sum 264 = .ok (.getfield 16, 3) := by decide +kernel
theorem d_M_sum_267 : decode b_M_sum 267 = .ok (.iload_n 2, 1) := by decide +kernel
theorem d_M_sum_268 : decode b_M_sum 268 = .ok (.iaload, 1) := by decide +kernel
theorem d_M_sum_269 : decode b_M_sum 269 = .ok (.goto 5, 3) := by decide +kernel
theorem d_M_sum_272 : decode b_M_sum 272 = .ok (.iload 6, 2) := by decide +kernel
theorem d_M_sum_274 : decode b_M_sum 274 = .ok (.invokevirtual 45, 3) := by decide +kernel
theorem d_M_sum_277 : decode b_M_sum 277 = .ok (.return_, 1) := by decide +kernel
theorem d_M_times_0 : decode b_M_times 0 = .ok (.aload_n 0, 1) := by decide +kernel
theorem d_M_times_1 : decode b_M_times 1 = .ok (.getfield 13, 3) := by decide +kernel
theorem d_M_times_4 : decode b_M_times 4 = .ok (.iload_n 2, 1) := by decide +kernel
theorem d_M_times_5 : decode b_M_times 5 = .ok (.iaload, 1) := by decide +kernel
theorem d_M_times_6 : decode b_M_times 6 = .ok (.aload_n 0, 1) := by decide +kernel
theorem d_M_times_7 : decode b_M_times 7 = .ok (.getfield 13, 3) := by decide +kernel
theorem d_M_times_10 : decode b_M_times 10 = .ok (.iload_n 3, 1) := by decide +kernel
theorem d_M_times_11 : decode b_M_times 11 = .ok (.iaload, 1) := by decide +kernel
theorem d_M_times_12 : decode b_M_times 12 = .ok (.iadd, 1) := by decide +kernel
theorem d_M_times_13 : decode b_M_times 13 = .ok (.istore 4, 2) := by decide +kernel
theorem d_M_times_15 : decode b_M_times 15 = .ok (.iconst 0, 1) := by decide +kernel
theorem d_M_times_16 : decode b_M_times 16 = .ok (.istore 5, 2) := by decide +kernel
theorem d_M_times_18 : decode b_M_times 18 = .ok (.iload 5, 2) := by decide +kernel
theorem d_M_times_20 : decode b_M_times 20 = .ok (.iload 4, 2) := by decide +kernel
theorem d_M_times_22 : decode b_M_times 22 = .ok (.if_icmp .ge 17, 3) := by decide +kernel
theorem d_M_times_25 : decode b_M_times 25 = .ok (.aload_n 0, 1) := by decide +kernel
theorem d_M_times_26 : decode b_M_times 26 = .ok (.getfield 19, 3) := by decide +kernel
theorem d_M_times_29 : decode b_M_times 29 = .ok (.iload 5, 2) := by decide +kernel
theorem d_M_times_31 : decode b_M_times 31 = .ok (.iconst 0, 1) := by decide +kernel
theorem d_M_times_32 : decode b_M_times 32 = .ok (.iastore, 1) := by decide +kernel
theorem d_M_times_33 : decode b_M_times 33 = .ok (.iinc 5 1, 3) := by decide +kernel
theorem d_M_times_36 : decode b_M_times 36 = .ok (.goto (-18), 3) := by decide +kernel
theorem d_M_times_39 : decode b_M_times 39 = .ok (.iconst 0, 1) := by decide +kernel
theorem d_M_times_40 : decode b_M_times 40 = .ok (.istore 5, 2) := by decide +kernel
theorem d_M_times_42 : decode b_M_times 42 = .ok (.iload 5, 2) := by decide +kernel
theorem d_M_times_44 : decode b_M_times 44 = .ok (.aload_n 0, 1) := by decide +kernel
theorem d_M_times_45 : decode b_M_times 45 = .ok (.getfield 13, 3) := by decide +kernel
theorem d_M_times_48 : decode b_M_times 48 = .ok (.iload_n 2, 1) := by decide +kernel
theorem d_M_times_49 : decode b_M_times 49 = .ok (.iaload, 1) := by decide +kernel
theorem d_M_times_50 : decode b_M_times 50 = .ok (.if_icmp .ge 107, 3) := by decide +kernel
theorem d_M_times_53 : decode b_M_times 53 = .ok (.lconst 0, 1) := by decide +kernel
theorem d_M_times_54 : decode b_M_times 54 = .ok (.lstore 6, 2) := by decide +kernel
theorem d_M_times_56 : decode b_M_times 56 = .ok (.iconst 0, 1) := by decide +kernel
theorem d_M_times_57 : decode b_M_times 57 = .ok (.istore 8, 2) := by decide +kernel
theorem d_M_times_59 : decode b_M_times 59 = .ok (.iload 8, 2) := by decide +kernel
theorem d_M_times_61 : decode b_M_times 61 = .ok (.aload_n 0, 1) := by decide +kernel
theorem d_M_times_62 : decode b_M_times 62 = .ok (.getfield 13, 3) := by decide +kernel
theorem d_M_times_65 : decode b_M_times 65 = .ok (.iload_n 3, 1) := by decide +kernel
theorem d_M_times_66 : decode b_M_times 66 = .ok (.iaload, 1) := by decide +kernel
theorem d_M_times_67 : decode b_M_times 67 = .ok (.if_icmp .ge 67, 3) := by decide +kernel
theorem d_M_times_70 : decode b_M_times 70 = .ok (.lload 6, 2) := by decide +kernel
theorem d_M_times_72 : decode b_M_times 72 = .ok (.aload_n 0, 1) := by decide +kernel
theorem d_M_times_73 : decode b_M_times 73 = .ok (.getfield 19, 3) := by decide +kernel
theorem d_M_times_76 : decode b_M_times 76 = .ok (.iload 5, 2) := by decide +kernel
theorem d_M_times_78 : decode b_M_times 78 = .ok (.iload 8, 2) := by decide +kernel
theorem d_M_times_80 : decode b_M_times 80 = .ok (.iadd, 1) := by decide +kernel
theorem d_M_times_81 : decode b_M_times 81 = .ok (.iaload, 1) := by decide +kernel
theorem d_M_times_82 : decode b_M_times 82 = .ok (.i2l, 1) := by decide +kernel
theorem d_M_times_83 : decode b_M_times 83 = .ok (.ladd, 1) := by decide +kernel
theorem d_M_times_84 : decode b_M_times 84 = .ok (.aload_n 0, 1) := by decide +kernel
theorem d_M_times_85 : decode b_M_times 85 = .ok (.iload_n 2, 1) := by decide +kernel
theorem d_M_times_86 : decode b_M_times 86 = .ok (.iload 5, 2) := by decide +kernel
theorem d_M_times_88 : decode b_M_times 88 = .ok (.invokevirtual 40, 3) := by decide +kernel
theorem d_M_times_91 : decode b_M_times 91 = .ok (.i2l, 1) := by decide +kernel
theorem d_M_times_92 : decode b_M_times 92 = .ok (.aload_n 0, 1) := by decide +kernel
theorem d_M_times_93 : decode b_M_times 93 = .ok (.iload_n 3, 1) := by decide +kernel
theorem d_M_times_94 : decode b_M_times 94 = .ok (.iload 8, 2) := by decide +kernel
theorem d_M_times_96 : decode b_M_times 96 = .ok (.invokevirtual 40, 3) := by decide +kernel
theorem d_M_times_99 : decode b_M_times 99 = .ok (.i2l, 1) := by decide +kernel
theorem d_M_times_100 : decode b_M_times 100 = .ok (.lmul, 1) := by decide +kernel
theorem d_M_times_101 : decode b_M_times 101 = .ok (.ladd, 1) := by decide +kernel
theorem d_M_times_102 : decode b_M_times 102 = .ok (.lstore 6, 2) := by decide +kernel
theorem d_M_times_104 : decode b_M_times 104 = .ok (.aload_n 0, 1) := by decide +kernel
theorem d_M_times_105 : decode b_M_times 105 = .ok (.getfield 19, 3) := by decide +kernel
theorem d_M_times_108 : decode b_M_times 108 = .ok (.iload 5, 2) := by decide +kernel
theorem d_M_times_110 : decode b_M_times 110 = .ok (.iload 8, 2) := by decide +kernel
theorem d_M_times_112 : decode b_M_times 112 = .ok (.iadd, 1) := by decide +kernel
theorem d_M_times_113 : decode b_M_times 113 = .ok (.lload 6, 2) := by decide +kernel
theorem d_M_times_115 : decode b_M_times 115 = .ok (.ldc2_w 38, 3) := by decide +kernel
theorem d_M_times_118 : decode b_M_times 118 = .ok (.land, 1) := by decide +kernel
theorem d_M_times_119 : decode b_M_times 119 = .ok (.l2i, 1) := by decide +kernel
theorem d_M_times_120 : decode b_M_times 120 = .ok (.iastore, 1) := by decide +kernel
theorem d_M_times_121 : decode b_M_times 121 = .ok (.lload 6, 2) := by decide +kernel
theorem d_M_times_123 : decode b_M_times 123 = .ok (.bipush 16, 2) := by decide +kernel
theorem d_M_times_125 : decode b_M_times 125 = .ok (.lshr, 1) := by decide +kernel
theorem d_M_times_126 : decode b_M_times 126 = .ok (.lstore 6, 2) := by decide +kernel
theorem d_M_times_128 : decode b_M_times 128 = .ok (.iinc 8 1, 3) := by decide +kernel
theorem d_M_times_131 : decode b_M_times 131 = .ok (.goto (-72), 3) := by decide +kernel
theorem d_M_times_134 : decode b_M_times 134 = .ok (.aload_n 0, 1) := by decide +kernel
theorem d_M_times_135 : decode b_M_times 135 = .ok (.getfield 19, 3) := by decide +kernel
theorem d_M_times_138 : decode b_M_times 138 = .ok (.iload 5, 2) := by decide +kernel
theorem d_M_times_140 : decode b_M_times 140 = .ok (.aload_n 0, 1) := by decide +kernel
theorem d_M_times_141 : decode b_M_times 141 = .ok (.getfield 13, 3) := by decide +kernel
theorem d_M_times_144 : decode b_M_times 144 = .ok (.iload_n 3, 1) := by decide +kernel
theorem d_M_times_145 : decode b_M_times 145 = .ok (.iaload, 1) := by decide +kernel
theorem d_M_times_146 : decode b_M_times 146 = .ok (.iadd, 1) := by decide +kernel
theorem d_M_times_147 : decode b_M_times 147 = .ok (.lload 6, 2) := by decide +kernel
theorem d_M_times_149 : decode b_M_times 149 = .ok (.l2i, 1) := by decide +kernel
theorem d_M_times_150 : decode b_M_times 150 = .ok (.iastore, 1) := by decide +kernel
theorem d_M_times_151 : decode b_M_times 151 = .ok (.iinc 5 1, 3) := by decide +kernel
theorem d_M_times_154 : decode b_M_times 154 = .ok (.goto (-112), 3) := by decide +kernel
theorem d_M_times_157 : decode b_M_times 157 = .ok (.aload_n 0, 1) := by decide +kernel
theorem d_M_times_158 : decode b_M_times 158 = .ok (.iload_n 1, 1) := by decide +kernel
theorem d_M_times_159 : decode b_M_times 159 = .ok (.iload 4, 2) := by decide +kernel
theorem d_M_times_161 : decode b_M_times 161 = .ok (.aload_n 0, 1) := by decide +kernel
theorem d_M_times_162 : decode b_M_times 162 = .ok (.getfield 16, 3) := by decide +kernel
theorem d_M_times_165 : decode b_M_times 165 = .ok (.iload_n 2, 1) := by decide +kernel
theorem d_M_times_166 : decode b_M_times 166 = .ok (.iaload, 1) := by decide +kernel
theorem d_M_times_167 : decode b_M_times 167 = .ok (.aload_n 0, 1) := by decide +kernel
theorem d_M_times_168 : decode b_M_times 168 = .ok (.getfield 16, 3) := by decide +kernel
theorem d_M_times_171 : decode b_M_times 171 = .ok (.iload_n 3, 1) := by decide +kernel
theorem d_M_times_172 : decode b_M_times 172 = .ok (.iaload, 1) := by decide +kernel
theorem d_M_times_173 : decode b_M_times 173 = .ok (.imul, 1) := by decide +kernel
theorem d_M_times_174 : decode b_M_times 174 = .ok (.invokevirtual 45, 3) := by decide +kernel
theorem d_M_times_177 : decode b_M_times 177 = .ok (.return_, 1) := by decide +kernel
theorem d_M_scale_0 : decode b_M_scale 0 = .ok (.iload_n 3, 1) := by decide +kernel
theorem d_M_scale_1 : decode b_M_scale 1 = .ok (.ifCond .ge 9, 3) := by decide +kernel
theorem d_M_scale_4 : decode b_M_scale 4 = .ok (.iload_n 3, 1) := by decide +kernel
theorem d_M_scale_5 : decode b_M_scale 5 = .ok (.i2l, 1) := by decide +kernel
theorem d_M_scale_6 : decode b_M_scale 6 = .ok (.lneg, 1) := by decide +kernel
theorem d_M_scale_7 : decode b_M_scale 7 = .ok (.goto 5, 3) := by decide +kernel
theorem d_M_scale_10 : decode b_M_scale 10 = .ok (.iload_n 3, 1) := by decide +kernel
theorem d_M_scale_11 : decode b_M_scale 11 = .ok (.i2l, 1) := by decide +kernel
theorem d_M_scale_12 : decode b_M_scale 12 = .ok (.lstore 4, 2) := by decide +kernel
theorem d_M_scale_14 : decode b_M_scale 14 = .ok (.iload_n 3, 1) := by decide +kernel
theorem d_M_scale_15 : decode b_M_scale 15 = .ok (.ifCond .ge 13, 3) := by decide +kernel
theorem d_M_scale_18 : decode b_M_scale 18 = .ok (.aload_n 0, 1) := by decide +kernel
theorem d_M_scale_19 : decode b_M_scale 19 = .ok (.getfield 16, 3) := by decide +kernel
theorem d_M_scale_22 : decode b_M_scale 22 = .ok (.iload_n 2, 1) := by decide +kernel
theorem d_M_scale_23 : decode b_M_scale 23 = .ok (.iaload, 1) := by decide +kernel
theorem d_M_scale_24 : decode b_M_scale 24 = .ok (.ineg, 1) := by decide +kernel
theorem d_M_scale_25 : decode b_M_scale 25 = .ok (.goto 17, 3) := by decide +kernel
theorem d_M_scale_28 : decode b_M_scale 28 = .ok (.iload_n 3, 1) := by decide +kernel
theorem d_M_scale_29 : decode b_M_scale 29 = .ok (.ifCond .le 12, 3) := by decide +kernel
theorem d_M_scale_32 : decode b_M_scale 32 = .ok (.aload_n 0, 1) := by decide +kernel
theorem d_M_scale_33 : decode b_M_scale 33 = .ok (.getfield 16, 3) := by decide +kernel
theorem d_M_scale_36 : decode b_M_scale 36 = .ok (.iload_n 2, 1) := by decide +kernel
theorem d_M_scale_37 : decode b_M_scale 37 = .ok (.iaload, 1) := by decide +kernel
theorem d_M_scale_38 : decode b_M_scale 38 = .ok (.goto 4, 3) := by decide +kernel
theorem d_M_scale_41 : decode b_M_scale 41 = .ok (.iconst 0, 1) := by decide +kernel
theorem d_M_scale_42 : decode b_M_scale 42 = .ok (.istore 6, 2) := by decide +kernel
theorem d_M_scale_44 : decode b_M_scale 44 = .ok (.aload_n 0, 1) := by decide +kernel
theorem d_M_scale_45 : decode b_M_scale 45 = .ok (.getfield 13, 3) := by decide +kernel
theorem d_M_scale_48 : decode b_M_scale 48 = .ok (.iload_n 2, 1) := by decide +kernel
theorem d_M_scale_49 : decode b_M_scale 49 = .ok (.iaload, 1) := by decide +kernel
theorem d_M_scale_50 : decode b_M_scale 50 = .ok (.istore 7, 2) := by decide +kernel
theorem d_M_scale_52 : decode b_M_scale 52 = .ok (.lconst 0, 1) := by decide +kernel
theorem d_M_scale_53 : decode b_M_scale 53 = .ok (.lstore 8, 2) := by decide +kernel
theorem d_M_scale_55 : decode b_M_scale 55 = .ok (.iconst 0, 1) := by decide +kernel
theorem d_M_scale_56 : decode b_M_scale 56 = .ok (.istore 10, 2) := by decide +kernel
theorem d_M_scale_58 : decode b_M_scale 58 = .ok (.iload 10, 2) := by decide +kernel
theorem d_M_scale_60 : decode b_M_scale 60 = .ok (.iload 7, 2) := by decide +kernel
theorem d_M_scale_62 : decode b_M_scale 62 = .ok (.if_icmp .ge 46, 3) := by decide +kernel
theorem d_M_scale_65 : decode b_M_scale 65 = .ok (.lload 8, 2) := by decide +kernel
theorem d_M_scale_67 : decode b_M_scale 67 = .ok (.lload 4, 2) := by decide +kernel
theorem d_M_scale_69 : decode b_M_scale 69 = .ok (.aload_n 0, 1) := by decide +kernel
theorem d_M_scale_70 : decode b_M_scale 70 = .ok (.iload_n 2, 1) := by decide +kernel
theorem d_M_scale_71 : decode b_M_scale 71 = .ok (.iload 10, 2) := by decide +kernel
theorem d_M_scale_73 : decode b_M_scale 73 = .ok (.invokevirtual 40, 3) := by decide +kernel
theorem d_M_scale_76 : decode b_M_scale 76 = .ok (.i2l, 1) := by decide +kernel
theorem d_M_scale_77 : decode b_M_scale 77 = .ok (.lmul, 1) := by decide +kernel
theorem d_M_scale_78 : decode b_M_scale 78 = .ok (.ladd, 1) := by decide +kernel
theorem d_M_scale_79 : decode b_M_scale 79 = .ok (.lstore 8, 2) := by decide +kernel
theorem d_M_scale_81 : decode b_M_scale 81 = .ok (.aload_n 0, 1) := by decide +kernel
theorem d_M_scale_82 : decode b_M_scale 82 = .ok (.getfield 19, 3) := by decide +kernel
theorem d_M_scale_85 : decode b_M_scale 85 = .ok (.iload 10, 2) := by decide +kernel
theorem d_M_scale_87 : decode b_M_scale 87 = .ok (.lload 8, 2) := by decide +kernel
theorem d_M_scale_89 : decode b_M_scale 89 = .ok (.ldc2_w 38, 3) := by decide +kernel
theorem d_M_scale_92 : decode b_M_scale 92 = .ok (.land, 1) := by decide +kernel
theorem d_M_scale_93 : decode b_M_scale 93 = .ok (.l2i, 1) := by decide +kernel
theorem d_M_scale_94 : decode b_M_scale 94 = .ok (.iastore, 1) := by decide +kernel
theorem d_M_scale_95 : decode b_M_scale 95 = .ok (.lload 8, 2) := by decide +kernel
theorem d_M_scale_97 : decode b_M_scale 97 = .ok (.bipush 16, 2) := by decide +kernel
theorem d_M_scale_99 : decode b_M_scale 99 = .ok (.lshr, 1) := by decide +kernel
theorem d_M_scale_100 : decode b_M_scale 100 = .ok (.lstore 8, 2) := by decide +kernel
theorem d_M_scale_102 : decode b_M_scale 102 = .ok (.iinc 10 1, 3) := by decide +kernel
theorem d_M_scale_105 : decode b_M_scale 105 = .ok (.goto (-47), 3) := by decide +kernel
theorem d_M_scale_108 : decode b_M_scale 108 = .ok (.aload_n 0, 1) := by decide +kernel
theorem d_M_scale_109 : decode b_M_scale 109 = .ok (.getfield 19, 3) := by decide +kernel
theorem d_M_scale_112 : decode b_M_scale 112 = .ok (.iload 7, 2) := by decide +kernel
theorem d_M_scale_114 : decode b_M_scale 114 = .ok (.lload 8, 2) := by decide +kernel
theorem d_M_scale_116 : decode b_M_scale 116 = .ok (.ldc2_w 38, 3) := by decide +kernel
theorem d_M_scale_119 : decode b_M_scale 119 = .ok (.land, 1) := by decide +kernel
theorem d_M_scale_120 : decode b_M_scale 120 = .ok (.l2i, 1) := by decide +kernel
theorem d_M_scale_121 : decode b_M_scale 121 = .ok (.iastore, 1) := by decide +kernel
theorem d_M_scale_122 : decode b_M_scale 122 = .ok (.aload_n 0, 1) := by decide +kernel
theorem d_M_scale_123 : decode b_M_scale 123 = .ok (.getfield 19, 3) := by decide +kernel
theorem d_M_scale_126 : decode b_M_scale 126 = .ok (.iload 7, 2) := by decide +kernel
theorem d_M_scale_128 : decode b_M_scale 128 = .ok (.iconst 1, 1) := by decide +kernel
theorem d_M_scale_129 : decode b_M_scale 129 = .ok (.iadd, 1) := by decide +kernel
theorem d_M_scale_130 : decode b_M_scale 130 = .ok (.lload 8, 2) := by decide +kernel
theorem d_M_scale_132 : decode b_M_scale 132 = .ok (.bipush 16, 2) := by decide +kernel
theorem d_M_scale_134 : decode b_M_scale 134 = .ok (.lshr, 1) := by decide +kernel
theorem d_M_scale_135 : decode b_M_scale 135 = .ok (.l2i, 1) := by decide +kernel
theorem d_M_scale_136 : decode b_M_scale 136 = .ok (.iastore, 1) := by decide +kernel
theorem d_M_scale_137 : decode b_M_scale 137 = .ok (.aload_n 0, 1) := by decide +kernel
theorem d_M_scale_138 : decode b_M_scale 138 = .ok (.iload_n 1, 1) := by decide +kernel
theorem d_M_scale_139 : decode b_M_scale 139 = .ok (.iload 6, 2) := by decide +kernel
theorem d_M_scale_141 : decode b_M_scale 141 = .ok (.ifCond .ne 7, 3) := by decide +kernel
theorem d_M_scale_144 : decode b_M_scale 144 = .ok (.iconst 0, 1) := by decide +kernel
theorem d_M_scale_145 : decode b_M_scale 145 = .ok (.goto 7, 3) := by decide +kernel
theorem d_M_scale_148 : decode b_M_scale 148 = .ok (.iload 7, 2) := by decide +kernel
theorem d_M_scale_150 : decode b_M_scale 150 = .ok (.iconst 2, 1) := by decide +kernel
theorem d_M_scale_151 : decode b_M_scale 151 = .ok (.iadd, 1) := by decide +kernel
theorem d_M_scale_152 : decode b_M_scale 152 = .ok (.iload 6, 2) := by decide +kernel
theorem d_M_scale_154 : decode b_M_scale 154 = .ok (.invokevirtual 45, 3) := by decide +kernel
theorem d_M_scale_157 : decode b_M_scale 157 = .ok (.return_, 1) := by decide +kernel
theorem d_M_gain_0 : decode b_M_gain 0 = .ok (.aload_n 0, 1) := by decide +kernel
theorem d_M_gain_1 : decode b_M_gain 1 = .ok (.iload 4, 2) := by decide +kernel
theorem d_M_gain_3 : decode b_M_gain 3 = .ok (.iload_n 2, 1) := by decide +kernel
theorem d_M_gain_4 : decode b_M_gain 4 = .ok (.iload_n 3, 1) := by decide +kernel
theorem d_M_gain_5 : decode b_M_gain 5 = .ok (.invokevirtual 52, 3) := by decide +kernel
theorem d_M_gain_8 : decode b_M_gain 8 = .ok (.aload_n 0, 1) := by decide +kernel
theorem d_M_gain_9 : decode b_M_gain 9 = .ok (.iload_n 1, 1) := by decide +kernel
theorem d_M_gain_10 : decode b_M_gain 10 = .ok (.iload_n 1, 1) := by decide +kernel
theorem d_M_gain_11 : decode b_M_gain 11 = .ok (.iload 4, 2) := by decide +kernel
theorem d_M_gain_13 : decode b_M_gain 13 = .ok (.iconst 1, 1) := by decide +kernel
theorem d_M_gain_14 : decode b_M_gain 14 = .ok (.invokevirtual 55, 3) := by decide +kernel
theorem d_M_gain_17 : decode b_M_gain 17 = .ok (.return_, 1) := by decide +kernel
theorem d_M_join_0 : decode b_M_join 0 = .ok (.aload_n 0, 1) := by decide +kernel
theorem d_M_join_1 : decode b_M_join 1 = .ok (.iload 5, 2) := by decide +kernel
theorem d_M_join_3 : decode b_M_join 3 = .ok (.iload_n 2, 1) := by decide +kernel
theorem d_M_join_4 : decode b_M_join 4 = .ok (.iload_n 3, 1) := by decide +kernel
theorem d_M_join_5 : decode b_M_join 5 = .ok (.invokevirtual 59, 3) := by decide +kernel
theorem d_M_join_8 : decode b_M_join 8 = .ok (.aload_n 0, 1) := by decide +kernel
theorem d_M_join_9 : decode b_M_join 9 = .ok (.iload_n 1, 1) := by decide +kernel
theorem d_M_join_10 : decode b_M_join 10 = .ok (.iload_n 1, 1) := by decide +kernel
theorem d_M_join_11 : decode b_M_join 11 = .ok (.iload 5, 2) := by decide +kernel
theorem d_M_join_13 : decode b_M_join 13 = .ok (.iload 4, 2) := by decide +kernel
theorem d_M_join_15 : decode b_M_join 15 = .ok (.invokevirtual 55, 3) := by decide +kernel
theorem d_M_join_18 : decode b_M_join 18 = .ok (.return_, 1) := by decide +kernel
theorem d_M_takeOff_0 : decode b_M_takeOff 0 = .ok (.lconst 0, 1) := by decide +kernel
theorem d_M_takeOff_1 : decode b_M_takeOff 1 = .ok (.lstore 5, 2) := by decide +kernel
theorem d_M_takeOff_3 : decode b_M_takeOff 3 = .ok (.iconst 0, 1) := by decide +kernel
theorem d_M_takeOff_4 : decode b_M_takeOff 4 = .ok (.istore 7, 2) := by decide +kernel
theorem d_M_takeOff_6 : decode b_M_takeOff 6 = .ok (.iload 7, 2) := by decide +kernel
theorem d_M_takeOff_8 : decode b_M_takeOff 8 = .ok (.aload_n 0, 1) := by decide +kernel
theorem d_M_takeOff_9 : decode b_M_takeOff 9 = .ok (.getfield 13, 3) := by decide +kernel
theorem d_M_takeOff_12 : decode b_M_takeOff 12 = .ok (.iload_n 1, 1) := by decide +kernel
theorem d_M_takeOff_13 : decode b_M_takeOff 13 = .ok (.iaload, 1) := by decide +kernel
theorem d_M_takeOff_14 : decode b_M_takeOff 14 = .ok (.if_icmp .gt 58, 3) := by decide +kernel
theorem d_M_takeOff_17 : decode b_M_takeOff 17 = .ok (.aload_n 0, 1) := by decide +kernel
theorem d_M_takeOff_18 : decode b_M_takeOff 18 = .ok (.getfield 19, 3) := by decide +kernel
theorem d_M_takeOff_21 : decode b_M_takeOff 21 = .ok (.iload_n 2, 1) := by decide +kernel
theorem d_M_takeOff_22 : decode b_M_takeOff 22 = .ok (.iload 7, 2) := by decide +kernel
theorem d_M_takeOff_24 : decode b_M_takeOff 24 = .ok (.iadd, 1) := by decide +kernel
theorem d_M_takeOff_25 : decode b_M_takeOff 25 = .ok (.iaload, 1) := by decide +kernel
theorem d_M_takeOff_26 : decode b_M_takeOff 26 = .ok (.i2l, 1) := by decide +kernel
theorem d_M_takeOff_27 : decode b_M_takeOff 27 = .ok (.lload_n 3, 1) := by decide +kernel
theorem d_M_takeOff_28 : decode b_M_takeOff 28 = .ok (.aload_n 0, 1) := by decide +kernel
theorem d_M_takeOff_29 : decode b_M_takeOff 29 = .ok (.iload_n 1, 1) := by decide +kernel
theorem d_M_takeOff_30 : decode b_M_takeOff 30 = .ok (.iload 7, 2) := by decide +kernel
theorem d_M_takeOff_32 : decode b_M_takeOff 32 = .ok (.invokevirtual 40, 3) := by decide +kernel
theorem d_M_takeOff_35 : decode b_M_takeOff 35 = .ok (.i2l, 1) := by decide +kernel
theorem d_M_takeOff_36 : decode b_M_takeOff 36 = .ok (.lmul, 1) := by decide +kernel
theorem d_M_takeOff_37 : decode b_M_takeOff 37 = .ok (.lsub, 1) := by decide +kernel
theorem d_M_takeOff_38 : decode b_M_takeOff 38 = .ok (.lload 5, 2) := by decide +kernel
theorem d_M_takeOff_40 : decode b_M_takeOff 40 = .ok (.ladd, 1) := by decide +kernel
theorem d_M_takeOff_41 : decode b_M_takeOff 41 = .ok (.lstore 8, 2) := by decide +kernel
theorem d_M_takeOff_43 : decode b_M_takeOff 43 = .ok (.aload_n 0, 1) := by decide +kernel
theorem d_M_takeOff_44 : decode b_M_takeOff 44 = .ok (.getfield 19, 3) := by decide +kernel
theorem d_M_takeOff_47 : decode b_M_takeOff 47 = .ok (.iload_n 2, 1) := by decide +kernel
theorem d_M_takeOff_48 : decode b_M_takeOff 48 = .ok (.iload 7, 2) := by decide +kernel
theorem d_M_takeOff_50 : decode b_M_takeOff 50 = .ok (.iadd, 1) := by decide +kernel
theorem d_M_takeOff_51 : decode b_M_takeOff 51 = .ok (.lload 8, 2) := by decide +kernel
theorem d_M_takeOff_53 : decode b_M_takeOff 53 = .ok (.ldc2_w 38, 3) := by decide +kernel
theorem d_M_takeOff_56 : decode b_M_takeOff 56 = .ok (.land, 1) := by decide +kernel
theorem d_M_takeOff_57 : decode b_M_takeOff 57 = .ok (.l2i, 1) := by decide +kernel
theorem d_M_takeOff_58 : decode b_M_takeOff 58 = .ok (.iastore, 1) := by decide +kernel
theorem d_M_takeOff_59 : decode b_M_takeOff 59 = .ok (.lload 8, 2) := by decide +kernel
theorem d_M_takeOff_61 : decode b_M_takeOff 61 = .ok (.bipush 16, 2) := by decide +kernel
theorem d_M_takeOff_63 : decode b_M_takeOff 63 = .ok (.lshr, 1) := by decide +kernel
theorem d_M_takeOff_64 : decode b_M_takeOff 64 = .ok (.lstore 5, 2) := by decide +kernel
theorem d_M_takeOff_66 : decode b_M_takeOff 66 = .ok (.iinc 7 1, 3) := by decide +kernel
theorem d_M_takeOff_69 : decode b_M_takeOff 69 = .ok (.goto (-63), 3) := by decide +kernel
theorem d_M_takeOff_72 : decode b_M_takeOff 72 = .ok (.return_, 1) := by decide +kernel
theorem d_M_fits_0 : decode b_M_fits 0 = .ok (.aload_n 0, 1) := by decide +kernel
theorem d_M_fits_1 : decode b_M_fits 1 = .ok (.getfield 13, 3) := by decide +kernel
theorem d_M_fits_4 : decode b_M_fits 4 = .ok (.iload_n 1, 1) := by decide +kernel
theorem d_M_fits_5 : decode b_M_fits 5 = .ok (.iaload, 1) := by decide +kernel
theorem d_M_fits_6 : decode b_M_fits 6 = .ok (.istore_n 3, 1) := by decide +kernel
theorem d_M_fits_7 : decode b_M_fits 7 = .ok (.aload_n 0, 1) := by decide +kernel
theorem d_M_fits_8 : decode b_M_fits 8 = .ok (.getfield 19, 3) := by decide +kernel
theorem d_M_fits_11 : decode b_M_fits 11 = .ok (.iload_n 2, 1) := by decide +kernel
theorem d_M_fits_12 : decode b_M_fits 12 = .ok (.iload_n 3, 1) := by decide +kernel
theorem d_M_fits_13 : decode b_M_fits 13 = .ok (.iadd, 1) := by decide +kernel
theorem d_M_fits_14 : decode b_M_fits 14 = .ok (.iaload, 1) := by decide +kernel
theorem d_M_fits_15 : decode b_M_fits 15 = .ok (.ifCond .le 5, 3) := by decide +kernel
theorem d_M_fits_18 : decode b_M_fits 18 = .ok (.iconst 1, 1) := by decide +kernel
theorem d_M_fits_19 : decode b_M_fits 19 = .ok (.ireturn, 1) := by decide +kernel
theorem d_M_fits_20 : decode b_M_fits 20 = .ok (.iload_n 3, 1) := by decide +kernel
theorem d_M_fits_21 : decode b_M_fits 21 = .ok (.iconst 1, 1) := by decide +kernel
theorem d_M_fits_22 : decode b_M_fits 22 = .ok (.isub, 1) := by decide +kernel
theorem d_M_fits_23 : decode b_M_fits 23 = .ok (.istore 4, 2) := by decide +kernel
theorem d_M_fits_25 : decode b_M_fits 25 = .ok (.iload 4, 2) := by decide +kernel
theorem d_M_fits_27 : decode b_M_fits 27 = .ok (.ifCond .lt 44, 3) := by decide +kernel
theorem d_M_fits_30 : decode b_M_fits 30 = .ok (.aload_n 0, 1) := by decide +kernel
theorem d_M_fits_31 : decode b_M_fits 31 = .ok (.getfield 19, 3) := by decide +kernel
theorem d_M_fits_34 : decode b_M_fits 34 = .ok (.iload_n 2, 1) := by decide +kernel
theorem d_M_fits_35 : decode b_M_fits 35 = .ok (.iload 4, 2) := by decide +kernel
theorem d_M_fits_37 : decode b_M_fits 37 = .ok (.iadd, 1) := by decide +kernel
theorem d_M_fits_38 : decode b_M_fits 38 = .ok (.iaload, 1) := by decide +kernel
theorem d_M_fits_39 : decode b_M_fits 39 = .ok (.aload_n 0, 1) := by decide +kernel
theorem d_M_fits_40 : decode b_M_fits 40 = .ok (.iload_n 1, 1) := by decide +kernel
theorem d_M_fits_41 : decode b_M_fits 41 = .ok (.iload 4, 2) := by decide +kernel
theorem d_M_fits_43 : decode b_M_fits 43 = .ok (.invokevirtual 40, 3) := by decide +kernel
theorem d_M_fits_46 : decode b_M_fits 46 = .ok (.isub, 1) := by decide +kernel
theorem d_M_fits_47 : decode b_M_fits 47 = .ok (.istore 5, 2) := by decide +kernel
theorem d_M_fits_49 : decode b_M_fits 49 = .ok (.iload 5, 2) := by decide +kernel
theorem d_M_fits_51 : decode b_M_fits 51 = .ok (.ifCond .eq 14, 3) := by decide +kernel
theorem d_M_fits_54 : decode b_M_fits 54 = .ok (.iload 5, 2) := by decide +kernel
theorem d_M_fits_56 : decode b_M_fits 56 = .ok (.ifCond .le 7, 3) := by decide +kernel
theorem d_M_fits_59 : decode b_M_fits 59 = .ok (.iconst 1, 1) := by decide +kernel
theorem d_M_fits_60 : decode b_M_fits 60 = .ok (.goto 4, 3) := by decide +kernel
theorem d_M_fits_63 : decode b_M_fits 63 = .ok (.iconst 0, 1) := by decide +kernel
theorem d_M_fits_64 : decode b_M_fits 64 = .ok (.ireturn, 1) := by decide +kernel
theorem d_M_fits_65 : decode b_M_fits 65 = .ok (.iinc 4 (-1), 3) := by decide +kernel
theorem d_M_fits_68 : decode b_M_fits 68 = .ok (.goto (-43), 3) := by decide +kernel
theorem d_M_fits_71 : decode b_M_fits 71 = .ok (.iconst 1, 1) := by decide +kernel
theorem d_M_fits_72 : decode b_M_fits 72 = .ok (.ireturn, 1) := by decide +kernel
theorem d_M_split_0 : decode b_M_split 0 = .ok (.aload_n 0, 1) := by decide +kernel
theorem d_M_split_1 : decode b_M_split 1 = .ok (.getfield 13, 3) := by decide +kernel
theorem d_M_split_4 : decode b_M_split 4 = .ok (.iload_n 1, 1) := by decide +kernel
theorem d_M_split_5 : decode b_M_split 5 = .ok (.iaload, 1) := by decide +kernel
theorem d_M_split_6 : decode b_M_split 6 = .ok (.istore_n 3, 1) := by decide +kernel
theorem d_M_split_7 : decode b_M_split 7 = .ok (.aload_n 0, 1) := by decide +kernel
theorem d_M_split_8 : decode b_M_split 8 = .ok (.getfield 13, 3) := by decide +kernel
theorem d_M_split_11 : decode b_M_split 11 = .ok (.iload_n 2, 1) := by decide +kernel
theorem d_M_split_12 : decode b_M_split 12 = .ok (.iaload, 1) := by decide +kernel
theorem d_M_split_13 : decode b_M_split 13 = .ok (.istore 4, 2) := by decide +kernel
theorem d_M_split_15 : decode b_M_split 15 = .ok (.iconst 0, 1) := by decide +kernel
theorem d_M_split_16 : decode b_M_split 16 = .ok (.istore 5, 2) := by decide +kernel
theorem d_M_split_18 : decode b_M_split 18 = .ok (.iload 5, 2) := by decide +kernel
theorem d_M_split_20 : decode b_M_split 20 = .ok (.iload_n 3, 1) := by decide +kernel
theorem d_M_split_21 : decode b_M_split 21 = .ok (.iconst 3, 1) := by decide +kernel
theorem d_M_split_22 : decode b_M_split 22 = .ok (.iadd, 1) := by decide +kernel
theorem d_M_split_23 : decode b_M_split 23 = .ok (.if_icmp .ge 31, 3) := by decide +kernel
theorem d_M_split_26 : decode b_M_split 26 = .ok (.aload_n 0, 1) := by decide +kernel
theorem d_M_split_27 : decode b_M_split 27 = .ok (.getfield 19, 3) := by decide +kernel
theorem d_M_split_30 : decode b_M_split 30 = .ok (.iload 5, 2) := by decide +kernel
theorem d_M_split_32 : decode b_M_split 32 = .ok (.aload_n 0, 1) := by decide +kernel
theorem d_M_split_33 : decode b_M_split 33 = .ok (.iload_n 1, 1) := by decide +kernel
theorem d_M_split_34 : decode b_M_split 34 = .ok (.iload 5, 2) := by decide +kernel
theorem d_M_split_36 : decode b_M_split 36 = .ok (.invokevirtual 40, 3) := by decide +kernel
theorem d_M_split_39 : decode b_M_split 39 = .ok (.iastore, 1) := by decide +kernel
theorem d_M_split_40 : decode b_M_split 40 = .ok (.aload_n 0, 1) := by decide +kernel
theorem d_M_split_41 : decode b_M_split 41 = .ok (.getfield 22, 3) := by decide +kernel
theorem d_M_split_44 : decode b_M_split 44 = .ok (.iload 5, 2) := by decide +kernel
theorem d_M_split_46 : decode b_M_split 46 = .ok (.iconst 0, 1) := by decide +kernel
theorem d_M_split_47 : decode b_M_split 47 = .ok (.iastore, 1) := by decide +kernel
theorem d_M_split_48 : decode b_M_split 48 = .ok (.iinc 5 1, 3) := by decide +kernel
theorem d_M_split_51 : decode b_M_split 51 = .ok (.goto (-33), 3) := by decide +kernel
theorem d_M_split_54 : decode b_M_split 54 = .ok (.aload_n 0, 1) := by decide +kernel
theorem d_M_split_55 : decode b_M_split 55 = .ok (.iload_n 2, 1) := by decide +kernel
theorem d_M_split_56 : decode b_M_split 56 = .ok (.iload 4, 2) := by decide +kernel
theorem d_M_split_58 : decode b_M_split 58 = .ok (.iconst 1, 1) := by decide +kernel
theorem d_M_split_59 : decode b_M_split 59 = .ok (.isub, 1) := by decide +kernel
theorem d_M_split_60 : decode b_M_split 60 = .ok (.invokevirtual 40, 3) := by decide +kernel
theorem d_M_split_63 : decode b_M_split 63 = .ok (.i2l, 1) := by decide +kernel
theorem d_M_split_64 : decode b_M_split 64 = .ok (.ldc2_w 62, 3) := by decide +kernel
theorem d_M_split_67 : decode b_M_split 67 = .ok (.lmul, 1) := by decide +kernel
theorem d_M_split_68 : decode b_M_split 68 = .ok (.iload 4, 2) := by decide +kernel
theorem d_M_split_70 : decode b_M_split 70 = .ok (.iconst 1, 1) := by decide +kernel
theorem d_M_split_71 : decode b_M_split 71 = .ok (.if_icmp .le 15, 3) := by decide +kernel
theorem d_M_split_74 : decode b_M_split 74 = .ok (.aload_n 0, 1) := by decide +kernel
theorem d_M_split_75 : decode b_M_split 75 = .ok (.iload_n 2, 1) := by decide +kernel
theorem d_M_split_76 : decode b_M_split 76 = .ok (.iload 4, 2) := by decide +kernel
theorem d_M_split_78 : decode b_M_split 78 = .ok (.iconst 2, 1) := by decide +kernel
theorem d_M_split_79 : decode b_M_split 79 = .ok (.isub, 1) := by decide +kernel
theorem d_M_split_80 : decode b_M_split 80 = .ok (.invokevirtual 40, 3) := by decide +kernel
theorem d_M_split_83 : decode b_M_split 83 = .ok (.goto 4, 3) := by decide +kernel
theorem d_M_split_86 : decode b_M_split 86 = .ok (.iconst 0, 1) := by decide +kernel
theorem d_M_split_87 : decode b_M_split 87 = .ok (.i2l, 1) := by decide +kernel
theorem d_M_split_88 : decode b_M_split 88 = .ok (.ladd, 1) := by decide +kernel
theorem d_M_split_89 : decode b_M_split 89 = .ok (.lstore 5, 2) := by decide +kernel
theorem d_M_split_91 : decode b_M_split 91 = .ok (.iload_n 3, 1) := by decide +kernel
theorem d_M_split_92 : decode b_M_split 92 = .ok (.iload 4, 2) := by decide +kernel
theorem d_M_split_94 : decode b_M_split 94 = .ok (.isub, 1) := by decide +kernel
theorem d_M_split_95 : decode b_M_split 95 = .ok (.istore 7, 2) := by decide +kernel
theorem d_M_split_97 : decode b_M_split 97 = .ok (.iload 7, 2) := by decide +kernel
theorem d_M_split_99 : decode b_M_split 99 = .ok (.ifCond .lt 135, 3) := by decide +kernel
theorem d_M_split_102 : decode b_M_split 102 = .ok (.aload_n 0, 1) := by decide +kernel
theorem d_M_split_103 : decode b_M_split 103 = .ok (.iload_n 2, 1) := by decide +kernel
theorem d_M_split_104 : decode b_M_split 104 = .ok (.iload 7, 2) := by decide +kernel
theorem d_M_split_106 : decode b_M_split 106 = .ok (.invokevirtual 64, 3) := by decide +kernel
theorem d_M_split_109 : decode b_M_split 109 = .ok (.ifCond .eq 119, 3) := by decide +kernel
theorem d_M_split_112 : decode b_M_split 112 = .ok (.aload_n 0, 1) := by decide +kernel
theorem d_M_split_113 : decode b_M_split 113 = .ok (.getfield 19, 3) := by decide +kernel
theorem d_M_split_116 : decode b_M_split 116 = .ok (.iload 7, 2) := by decide +kernel
theorem d_M_split_118 : decode b_M_split 118 = .ok (.iload 4, 2) := by decide +kernel
theorem d_M_split_120 : decode b_M_split 120 = .ok (.iadd, 1) := by decide +kernel
theorem d_M_split_121 : decode b_M_split 121 = .ok (.iaload, 1) := by decide +kernel
theorem d_M_split_122 : decode b_M_split 122 = .ok (.i2l, 1) := by decide +kernel
theorem d_M_split_123 : decode b_M_split 123 = .ok (.ldc2_w 68, 3) := by decide +kernel
theorem d_M_split_126 : decode b_M_split 126 = .ok (.lmul, 1) := by decide +kernel
theorem d_M_split_127 : decode b_M_split 127 = .ok (.aload_n 0, 1) := by decide +kernel
theorem d_M_split_128 : decode b_M_split 128 = .ok (.getfield 19, 3) := by decide +kernel
theorem d_M_split_131 : decode b_M_split 131 = .ok (.iload 7, 2) := by decide +kernel
theorem d_M_split_133 : decode b_M_split 133 = .ok (.iload 4, 2) := by decide +kernel
theorem d_M_split_135 : decode b_M_split 135 = .ok (.iadd, 1) := by decide +kernel
theorem d_M_split_136 : decode b_M_split 136 = .ok (.iconst 1, 1) := by decide +kernel
theorem d_M_split_137 : decode b_M_split 137 = .ok (.isub, 1) := by decide +kernel
theorem d_M_split_138 : decode b_M_split 138 = .ok (.iaload, 1) := by decide +kernel
theorem d_M_split_139 : decode b_M_split 139 = .ok (.i2l, 1) := by decide +kernel
theorem d_M_split_140 : decode b_M_split 140 = .ok (.ldc2_w 62, 3) := by decide +kernel
theorem d_M_split_143 : decode b_M_split 143 = .ok (.lmul, 1) := by decide +kernel
theorem d_M_split_144 : decode b_M_split 144 = .ok (.ladd, 1) := by decide +kernel
theorem d_M_split_145 : decode b_M_split 145 = .ok (.iload 7, 2) := by decide +kernel
theorem d_M_split_147 : decode b_M_split 147 = .ok (.iload 4, 2) := by decide +kernel
theorem d_M_split_149 : decode b_M_split 149 = .ok (.iadd, 1) := by decide +kernel
theorem d_M_split_150 : decode b_M_split 150 = .ok (.iconst 1, 1) := by decide +kernel
theorem d_M_split_151 : decode b_M_split 151 = .ok (.if_icmp .le 18, 3) := by decide +kernel
theorem d_M_split_154 : decode b_M_split 154 = .ok (.aload_n 0, 1) := by decide +kernel
theorem d_M_split_155 : decode b_M_split 155 = .ok (.getfield 19, 3) := by decide +kernel
theorem d_M_split_158 : decode b_M_split 158 = .ok (.iload 7, 2) := by decide +kernel
theorem d_M_split_160 : decode b_M_split 160 = .ok (.iload 4, 2) := by decide +kernel
theorem d_M_split_162 : decode b_M_split 162 = .ok (.iadd, 1) := by decide +kernel
theorem d_M_split_163 : decode b_M_split 163 = .ok (.iconst 2, 1) := by decide +kernel
theorem d_M_split_164 : decode b_M_split 164 = .ok (.isub, 1) := by decide +kernel
theorem d_M_split_165 : decode b_M_split 165 = .ok (.iaload, 1) := by decide +kernel
theorem d_M_split_166 : decode b_M_split 166 = .ok (.goto 4, 3) := by decide +kernel
theorem d_M_split_169 : decode b_M_split 169 = .ok (.iconst 0, 1) := by decide +kernel
theorem d_M_split_170 : decode b_M_split 170 = .ok (.i2l, 1) := by decide +kernel
theorem d_M_split_171 : decode b_M_split 171 = .ok (.ladd, 1) := by decide +kernel
theorem d_M_split_172 : decode b_M_split 172 = .ok (.lstore 8, 2) := by decide +kernel
theorem d_M_split_174 : decode b_M_split 174 = .ok (.lload 8, 2) := by decide +kernel
theorem d_M_split_176 : decode b_M_split 176 = .ok (.lload 5, 2) := by decide +kernel
theorem d_M_split_178 : decode b_M_split 178 = .ok (.lconst 1, 1) := by decide +kernel
theorem d_M_split_179 : decode b_M_split 179 = .ok (.ladd, 1) := by decide +kernel
theorem d_M_split_180 : decode b_M_split 180 = .ok (.ldiv, 1) := by decide +kernel
theorem d_M_split_181 : decode b_M_split 181 = .ok (.lstore 10, 2) := by decide +kernel
theorem d_M_split_183 : decode b_M_split 183 = .ok (.lload 10, 2) := by decide +kernel
theorem d_M_split_185 : decode b_M_split 185 = .ok (.lconst 1, 1) := by decide +kernel
theorem d_M_split_186 : decode b_M_split 186 = .ok (.lcmp, 1) := by decide +kernel
theorem d_M_split_187 : decode b_M_split 187 = .ok (.ifCond .ge 7, 3) := by decide +kernel
theorem d_M_split_190 : decode b_M_split 190 = .ok (.lconst 1, 1) := by decide +kernel
theorem d_M_split_191 : decode b_M_split 191 = .ok (.goto 5, 3) := by decide +kernel
theorem d_M_split_194 : decode b_M_split 194 = .ok (.lload 10, 2) := by decide +kernel
theorem d_M_split_196 : decode b_M_split 196 = .ok (.lstore 10, 2) := by decide +kernel
theorem d_M_split_198 : decode b_M_split 198 = .ok (.aload_n 0, 1) := by decide +kernel
theorem d_M_split_199 : decode b_M_split 199 = .ok (.iload_n 2, 1) := by decide +kernel
theorem d_M_split_200 : decode b_M_split 200 = .ok (.iload 7, 2) := by decide +kernel
theorem d_M_split_202 : decode b_M_split 202 = .ok (.lload 10, 2) := by decide +kernel
theorem d_M_split_204 : decode b_M_split 204 = .ok (.invokevirtual 70, 3) := by decide +kernel
theorem d_M_split_207 : decode b_M_split 207 = .ok (.aload_n 0, 1) := by decide +kernel
theorem d_M_split_208 : decode b_M_split 208 = .ok (.getfield 22, 3) := by decide +kernel
theorem d_M_split_211 : decode b_M_split 211 = .ok (.iload 7, 2) := by decide +kernel
theorem d_M_split_213 : decode b_M_split 213 = .ok (.aload_n 0, 1) := by decide +kernel
theorem d_M_split_214 : decode b_M_split 214 = .ok (.getfield 22, 3) := by decide +kernel
theorem d_M_split_217 : decode b_M_split 217 = .ok (.iload 7, 2) := by decide +kernel
theorem d_M_split_219 : decode b_M_split 219 = .ok (.iaload, 1) := by decide +kernel
theorem d_M_split_220 : decode b_M_split 220 = .ok (.lload 10, 2) := by decide +kernel
theorem d_M_split_222 : decode b_M_split 222 = .ok (.l2i, 1) := by decide +kernel
theorem d_M_split_223 : decode b_M_split 223 = .ok (.iadd, 1) := by decide +kernel
theorem d_M_split_224 : decode b_M_split 224 = .ok (.iastore, 1) := by decide +kernel
theorem d_M_split_225 : decode b_M_split 225 = .ok (.goto (-123), 3) := by decide +kernel
theorem d_M_split_228 : decode b_M_split 228 = .ok (.iinc 7 (-1), 3) := by decide +kernel
theorem d_M_split_231 : decode b_M_split 231 = .ok (.goto (-134), 3) := by decide +kernel
theorem d_M_split_234 : decode b_M_split 234 = .ok (.return_, 1) := by decide +kernel
theorem d_M_remainder_0 : decode b_M_remainder 0 = .ok (.aload_n 0, 1) := by decide +kernel
theorem d_M_remainder_1 : decode b_M_remainder 1 = .ok (.iload_n 2, 1) := by decide +kernel
theorem d_M_remainder_2 : decode b_M_remainder 2 = .ok (.iload_n 3, 1) := by decide +kernel
theorem d_M_remainder_3 : decode b_M_remainder 3 = .ok (.invokevirtual 74, 3) := by decide +kernel
theorem d_M_remainder_6 : decode b_M_remainder 6 = .ok (.aload_n 0, 1) := by decide +kernel
theorem d_M_remainder_7 : decode b_M_remainder 7 = .ok (.iload_n 1, 1) := by decide +kernel
theorem d_M_remainder_8 : decode b_M_remainder 8 = .ok (.aload_n 0, 1) := by decide +kernel
theorem d_M_remainder_9 : decode b_M_remainder 9 = .ok (.getfield 13, 3) := by decide +kernel
theorem d_M_remainder_12 : decode b_M_remainder 12 = .ok (.iload_n 3, 1) := by decide +kernel
theorem d_M_remainder_13 : decode b_M_remainder 13 = .ok (.iaload, 1) := by decide +kernel
theorem d_M_remainder_14 : decode b_M_remainder 14 = .ok (.iconst 1, 1) := by decide +kernel
theorem d_M_remainder_15 : decode b_M_remainder 15 = .ok (.invokevirtual 45, 3) := by decide +kernel
theorem d_M_remainder_18 : decode b_M_remainder 18 = .ok (.return_, 1) := by decide +kernel
theorem d_M_part_0 : decode b_M_part 0 = .ok (.aload_n 0, 1) := by decide +kernel
theorem d_M_part_1 : decode b_M_part 1 = .ok (.iload_n 2, 1) := by decide +kernel
theorem d_M_part_2 : decode b_M_part 2 = .ok (.iload_n 3, 1) := by decide +kernel
theorem d_M_part_3 : decode b_M_part 3 = .ok (.invokevirtual 74, 3) := by decide +kernel
theorem d_M_part_6 : decode b_M_part 6 = .ok (.aload_n 0, 1) := by decide +kernel
theorem d_M_part_7 : decode b_M_part 7 = .ok (.getfield 13, 3) := by decide +kernel
theorem d_M_part_10 : decode b_M_part 10 = .ok (.iload_n 2, 1) := by decide +kernel
theorem d_M_part_11 : decode b_M_part 11 = .ok (.iaload, 1) := by decide +kernel
theorem d_M_part_12 : decode b_M_part 12 = .ok (.istore 4, 2) := by decide +kernel
theorem d_M_part_14 : decode b_M_part 14 = .ok (.aload_n 0, 1) := by decide +kernel
theorem d_M_part_15 : decode b_M_part 15 = .ok (.getfield 16, 3) := by decide +kernel
theorem d_M_part_18 : decode b_M_part 18 = .ok (.iload_n 2, 1) := by decide +kernel
theorem d_M_part_19 : decode b_M_part 19 = .ok (.iaload, 1) := by decide +kernel
theorem d_M_part_20 : decode b_M_part 20 = .ok (.aload_n 0, 1) := by decide +kernel
theorem d_M_part_21 : decode b_M_part 21 = .ok (.getfield 16, 3) := by decide +kernel
theorem d_M_part_24 : decode b_M_part 24 = .ok (.iload_n 3, 1) := by decide +kernel
theorem d_M_part_25 : decode b_M_part 25 = .ok (.iaload, 1) := by decide +kernel
theorem d_M_part_26 : decode b_M_part 26 = .ok (.imul, 1) := by decide +kernel
theorem d_M_part_27 : decode b_M_part 27 = .ok (.istore 5, 2) := by decide +kernel
theorem d_M_part_29 : decode b_M_part 29 = .ok (.iconst 0, 1) := by decide +kernel
theorem d_M_part_30 : decode b_M_part 30 = .ok (.istore 6, 2) := by decide +kernel
theorem d_M_part_32 : decode b_M_part 32 = .ok (.iload 6, 2) := by decide +kernel
theorem d_M_part_34 : decode b_M_part 34 = .ok (.iload 4, 2) := by decide +kernel
theorem d_M_part_36 : decode b_M_part 36 = .ok (.if_icmp .ge 23, 3) := by decide +kernel
theorem d_M_part_39 : decode b_M_part 39 = .ok (.aload_n 0, 1) := by decide +kernel
theorem d_M_part_40 : decode b_M_part 40 = .ok (.getfield 19, 3) := by decide +kernel
theorem d_M_part_43 : decode b_M_part 43 = .ok (.iload 6, 2) := by decide +kernel
theorem d_M_part_45 : decode b_M_part 45 = .ok (.aload_n 0, 1) := by decide +kernel
theorem d_M_part_46 : decode b_M_part 46 = .ok (.getfield 22, 3) := by decide +kernel
theorem d_M_part_49 : decode b_M_part 49 = .ok (.iload 6, 2) := by decide +kernel
theorem d_M_part_51 : decode b_M_part 51 = .ok (.iaload, 1) := by decide +kernel
theorem d_M_part_52 : decode b_M_part 52 = .ok (.iastore, 1) := by decide +kernel
theorem d_M_part_53 : decode b_M_part 53 = .ok (.iinc 6 1, 3) := by decide +kernel
theorem d_M_part_56 : decode b_M_part 56 = .ok (.goto (-24), 3) := by decide +kernel
theorem d_M_part_59 : decode b_M_part 59 = .ok (.aload_n 0, 1) := by decide +kernel
theorem d_M_part_60 : decode b_M_part 60 = .ok (.iload_n 1, 1) := by decide +kernel
theorem d_M_part_61 : decode b_M_part 61 = .ok (.iload 4, 2) := by decide +kernel
theorem d_M_part_63 : decode b_M_part 63 = .ok (.iload 5, 2) := by decide +kernel
theorem d_M_part_65 : decode b_M_part 65 = .ok (.invokevirtual 45, 3) := by decide +kernel
theorem d_M_part_68 : decode b_M_part 68 = .ok (.return_, 1) := by decide +kernel
theorem d_M_common_0 : decode b_M_common 0 = .ok (.aload_n 0, 1) := by decide +kernel
theorem d_M_common_1 : decode b_M_common 1 = .ok (.iload_n 3, 1) := by decide +kernel
theorem d_M_common_2 : decode b_M_common 2 = .ok (.iload_n 1, 1) := by decide +kernel
theorem d_M_common_3 : decode b_M_common 3 = .ok (.invokevirtual 78, 3) := by decide +kernel
theorem d_M_common_6 : decode b_M_common 6 = .ok (.aload_n 0, 1) := by decide +kernel
theorem d_M_common_7 : decode b_M_common 7 = .ok (.iload 4, 2) := by decide +kernel
theorem d_M_common_9 : decode b_M_common 9 = .ok (.iload_n 2, 1) := by decide +kernel
theorem d_M_common_10 : decode b_M_common 10 = .ok (.invokevirtual 78, 3) := by decide +kernel
theorem d_M_common_13 : decode b_M_common 13 = .ok (.aload_n 0, 1) := by decide +kernel
theorem d_M_common_14 : decode b_M_common 14 = .ok (.getfield 16, 3) := by decide +kernel
theorem d_M_common_17 : decode b_M_common 17 = .ok (.iload_n 3, 1) := by decide +kernel
theorem d_M_common_18 : decode b_M_common 18 = .ok (.aload_n 0, 1) := by decide +kernel
theorem d_M_common_19 : decode b_M_common 19 = .ok (.getfield 16, 3) := by decide +kernel
theorem d_M_common_22 : decode b_M_common 22 = .ok (.iload_n 3, 1) := by decide +kernel
theorem d_M_common_23 : decode b_M_common 23 = .ok (.iaload, 1) := by decide +kernel
theorem d_M_common_24 : decode b_M_common 24 = .ok (.aload_n 0, 1) := by decide +kernel
theorem d_M_common_25 : decode b_M_common 25 = .ok (.getfield 16, 3) := by decide +kernel
theorem d_M_common_28 : decode b_M_common 28 = .ok (.iload_n 3, 1) := by decide +kernel
theorem d_M_common_29 : decode b_M_common 29 = .ok (.iaload, 1) := by decide +kernel
theorem d_M_common_30 : decode b_M_common 30 = .ok (.imul, 1) := by decide +kernel
theorem d_M_common_31 : decode b_M_common 31 = .ok (.iastore, 1) := by decide +kernel
theorem d_M_common_32 : decode b_M_common 32 = .ok (.aload_n 0, 1) := by decide +kernel
theorem d_M_common_33 : decode b_M_common 33 = .ok (.getfield 16, 3) := by decide +kernel
theorem d_M_common_36 : decode b_M_common 36 = .ok (.iload 4, 2) := by decide +kernel
theorem d_M_common_38 : decode b_M_common 38 = .ok (.aload_n 0, 1) := by decide +kernel
theorem d_M_common_39 : decode b_M_common 39 = .ok (.getfield 16, 3) := by decide +kernel
theorem d_M_common_42 : decode b_M_common 42 = .ok (.iload 4, 2) := by decide +kernel
theorem d_M_common_44 : decode b_M_common 44 = .ok (.iaload, 1) := by decide +kernel
theorem d_M_common_45 : decode b_M_common 45 = .ok (.aload_n 0, 1) := by decide +kernel
theorem d_M_common_46 : decode b_M_common 46 = .ok (.getfield 16, 3) := by decide +kernel
theorem d_M_common_49 : decode b_M_common 49 = .ok (.iload 4, 2) := by decide +kernel
theorem d_M_common_51 : decode b_M_common 51 = .ok (.iaload, 1) := by decide +kernel
theorem d_M_common_52 : decode b_M_common 52 = .ok (.imul, 1) := by decide +kernel
theorem d_M_common_53 : decode b_M_common 53 = .ok (.iastore, 1) := by decide +kernel
theorem d_M_common_54 : decode b_M_common 54 = .ok (.aload_n 0, 1) := by decide +kernel
theorem d_M_common_55 : decode b_M_common 55 = .ok (.getfield 13, 3) := by decide +kernel
theorem d_M_common_58 : decode b_M_common 58 = .ok (.iload 4, 2) := by decide +kernel
theorem d_M_common_60 : decode b_M_common 60 = .ok (.iaload, 1) := by decide +kernel
theorem d_M_common_61 : decode b_M_common 61 = .ok (.ifCond .le 54, 3) := by decide +kernel
theorem d_M_common_64 : decode b_M_common 64 = .ok (.aload_n 0, 1) := by decide +kernel
theorem d_M_common_65 : decode b_M_common 65 = .ok (.iload_n 1, 1) := by decide +kernel
theorem d_M_common_66 : decode b_M_common 66 = .ok (.iload 4, 2) := by decide +kernel
theorem d_M_common_68 : decode b_M_common 68 = .ok (.invokevirtual 78, 3) := by decide +kernel
theorem d_M_common_71 : decode b_M_common 71 = .ok (.aload_n 0, 1) := by decide +kernel
theorem d_M_common_72 : decode b_M_common 72 = .ok (.getfield 13, 3) := by decide +kernel
theorem d_M_common_75 : decode b_M_common 75 = .ok (.iload_n 3, 1) := by decide +kernel
theorem d_M_common_76 : decode b_M_common 76 = .ok (.iaload, 1) := by decide +kernel
theorem d_M_common_77 : decode b_M_common 77 = .ok (.aload_n 0, 1) := by decide +kernel
theorem d_M_common_78 : decode b_M_common 78 = .ok (.getfield 13, 3) := by decide +kernel
theorem d_M_common_81 : decode b_M_common 81 = .ok (.iload 4, 2) := by decide +kernel
theorem d_M_common_83 : decode b_M_common 83 = .ok (.iaload, 1) := by decide +kernel
theorem d_M_common_84 : decode b_M_common 84 = .ok (.if_icmp .ge 13, 3) := by decide +kernel
theorem d_M_common_87 : decode b_M_common 87 = .ok (.aload_n 0, 1) := by decide +kernel
theorem d_M_common_88 : decode b_M_common 88 = .ok (.iload 4, 2) := by decide +kernel
theorem d_M_common_90 : decode b_M_common 90 = .ok (.iload_n 3, 1) := by decide +kernel
theorem d_M_common_91 : decode b_M_common 91 = .ok (.invokevirtual 78, 3) := by decide +kernel
theorem d_M_common_94 : decode b_M_common 94 = .ok (.goto 12, 3) := by decide +kernel
theorem d_M_common_97 : decode b_M_common 97 = .ok (.aload_n 0, 1) := by decide +kernel
theorem d_M_common_98 : decode b_M_common 98 = .ok (.iload 4, 2) := by decide +kernel
theorem d_M_common_100 : decode b_M_common 100 = .ok (.iload_n 3, 1) := by decide +kernel
theorem d_M_common_101 : decode b_M_common 101 = .ok (.iload 4, 2) := by decide +kernel
theorem d_M_common_103 : decode b_M_common 103 = .ok (.invokevirtual 81, 3) := by decide +kernel
theorem d_M_common_106 : decode b_M_common 106 = .ok (.aload_n 0, 1) := by decide +kernel
theorem d_M_common_107 : decode b_M_common 107 = .ok (.iload_n 3, 1) := by decide +kernel
theorem d_M_common_108 : decode b_M_common 108 = .ok (.iload_n 1, 1) := by decide +kernel
theorem d_M_common_109 : decode b_M_common 109 = .ok (.invokevirtual 78, 3) := by decide +kernel
theorem d_M_common_112 : decode b_M_common 112 = .ok (.goto (-58), 3) := by decide +kernel
theorem d_M_common_115 : decode b_M_common 115 = .ok (.aload_n 0, 1) := by decide +kernel
theorem d_M_common_116 : decode b_M_common 116 = .ok (.iload_n 1, 1) := by decide +kernel
theorem d_M_common_117 : decode b_M_common 117 = .ok (.iload_n 3, 1) := by decide +kernel
end
section
theorem d_M_common_118 : decode b_M_common 118 = .ok (.invokevirtual 78, 3) := by decide +kernel
theorem d_M_common_121 : decode b_M_common 121 = .ok (.return_, 1) := by decide +kernel
theorem d_M_shrink_0 : decode b_M_shrink 0 = .ok (.bipush 119, 2) := by decide +kernel
theorem d_M_shrink_2 : decode b_M_shrink 2 = .ok (.istore_n 3, 1) := by decide +kernel
theorem d_M_shrink_3 : decode b_M_shrink 3 = .ok (.aload_n 0, 1) := by decide +kernel
theorem d_M_shrink_4 : decode b_M_shrink 4 = .ok (.iload_n 3, 1) := by decide +kernel
theorem d_M_shrink_5 : decode b_M_shrink 5 = .ok (.iload_n 1, 1) := by decide +kernel
theorem d_M_shrink_6 : decode b_M_shrink 6 = .ok (.iload_n 2, 1) := by decide +kernel
theorem d_M_shrink_7 : decode b_M_shrink 7 = .ok (.iadd, 1) := by decide +kernel
theorem d_M_shrink_8 : decode b_M_shrink 8 = .ok (.iconst 1, 1) := by decide +kernel
theorem d_M_shrink_9 : decode b_M_shrink 9 = .ok (.isub, 1) := by decide +kernel
theorem d_M_shrink_10 : decode b_M_shrink 10 = .ok (.invokevirtual 78, 3) := by decide +kernel
theorem d_M_shrink_13 : decode b_M_shrink 13 = .ok (.iconst 0, 1) := by decide +kernel
theorem d_M_shrink_14 : decode b_M_shrink 14 = .ok (.istore 4, 2) := by decide +kernel
theorem d_M_shrink_16 : decode b_M_shrink 16 = .ok (.iload 4, 2) := by decide +kernel
theorem d_M_shrink_18 : decode b_M_shrink 18 = .ok (.iload_n 2, 1) := by decide +kernel
theorem d_M_shrink_19 : decode b_M_shrink 19 = .ok (.iconst 1, 1) := by decide +kernel
theorem d_M_shrink_20 : decode b_M_shrink 20 = .ok (.isub, 1) := by decide +kernel
theorem d_M_shrink_21 : decode b_M_shrink 21 = .ok (.if_icmp .ge 22, 3) := by decide +kernel
theorem d_M_shrink_24 : decode b_M_shrink 24 = .ok (.aload_n 0, 1) := by decide +kernel
theorem d_M_shrink_25 : decode b_M_shrink 25 = .ok (.iload_n 3, 1) := by decide +kernel
theorem d_M_shrink_26 : decode b_M_shrink 26 = .ok (.iload_n 1, 1) := by decide +kernel
theorem d_M_shrink_27 : decode b_M_shrink 27 = .ok (.iload 4, 2) := by decide +kernel
theorem d_M_shrink_29 : decode b_M_shrink 29 = .ok (.iadd, 1) := by decide +kernel
theorem d_M_shrink_30 : decode b_M_shrink 30 = .ok (.bipush 118, 2) := by decide +kernel
theorem d_M_shrink_32 : decode b_M_shrink 32 = .ok (.bipush 117, 2) := by decide +kernel
theorem d_M_shrink_34 : decode b_M_shrink 34 = .ok (.invokevirtual 84, 3) := by decide +kernel
theorem d_M_shrink_37 : decode b_M_shrink 37 = .ok (.iinc 4 1, 3) := by decide +kernel
theorem d_M_shrink_40 : decode b_M_shrink 40 = .ok (.goto (-24), 3) := by decide +kernel
theorem d_M_shrink_43 : decode b_M_shrink 43 = .ok (.iconst 0, 1) := by decide +kernel
theorem d_M_shrink_44 : decode b_M_shrink 44 = .ok (.istore 4, 2) := by decide +kernel
theorem d_M_shrink_46 : decode b_M_shrink 46 = .ok (.iload 4, 2) := by decide +kernel
theorem d_M_shrink_48 : decode b_M_shrink 48 = .ok (.iload_n 2, 1) := by decide +kernel
theorem d_M_shrink_49 : decode b_M_shrink 49 = .ok (.if_icmp .ge 22, 3) := by decide +kernel
theorem d_M_shrink_52 : decode b_M_shrink 52 = .ok (.aload_n 0, 1) := by decide +kernel
theorem d_M_shrink_53 : decode b_M_shrink 53 = .ok (.iload_n 1, 1) := by decide +kernel
theorem d_M_shrink_54 : decode b_M_shrink 54 = .ok (.iload 4, 2) := by decide +kernel
theorem d_M_shrink_56 : decode b_M_shrink 56 = .ok (.iadd, 1) := by decide +kernel
theorem d_M_shrink_57 : decode b_M_shrink 57 = .ok (.iload_n 1, 1) := by decide +kernel
theorem d_M_shrink_58 : decode b_M_shrink 58 = .ok (.iload 4, 2) := by decide +kernel
theorem d_M_shrink_60 : decode b_M_shrink 60 = .ok (.iadd, 1) := by decide +kernel
theorem d_M_shrink_61 : decode b_M_shrink 61 = .ok (.iload_n 3, 1) := by decide +kernel
theorem d_M_shrink_62 : decode b_M_shrink 62 = .ok (.invokevirtual 87, 3) := by decide +kernel
theorem d_M_shrink_65 : decode b_M_shrink 65 = .ok (.iinc 4 1, 3) := by decide +kernel
theorem d_M_shrink_68 : decode b_M_shrink 68 = .ok (.goto (-22), 3) := by decide +kernel
theorem d_M_shrink_71 : decode b_M_shrink 71 = .ok (.return_, 1) := by decide +kernel
theorem d_M_begin_0 : decode b_M_begin 0 = .ok (.aload_n 0, 1) := by decide +kernel
theorem d_M_begin_1 : decode b_M_begin 1 = .ok (.iconst 0, 1) := by decide +kernel
theorem d_M_begin_2 : decode b_M_begin 2 = .ok (.putfield 90, 3) := by decide +kernel
theorem d_M_begin_5 : decode b_M_begin 5 = .ok (.aload_n 0, 1) := by decide +kernel
theorem d_M_begin_6 : decode b_M_begin 6 = .ok (.iconst 0, 1) := by decide +kernel
theorem d_M_begin_7 : decode b_M_begin 7 = .ok (.putfield 94, 3) := by decide +kernel
theorem d_M_begin_10 : decode b_M_begin 10 = .ok (.aload_n 0, 1) := by decide +kernel
theorem d_M_begin_11 : decode b_M_begin 11 = .ok (.iconst 0, 1) := by decide +kernel
theorem d_M_begin_12 : decode b_M_begin 12 = .ok (.putfield 97, 3) := by decide +kernel
theorem d_M_begin_15 : decode b_M_begin 15 = .ok (.aload_n 0, 1) := by decide +kernel
theorem d_M_begin_16 : decode b_M_begin 16 = .ok (.iconst 0, 1) := by decide +kernel
theorem d_M_begin_17 : decode b_M_begin 17 = .ok (.iload_n 1, 1) := by decide +kernel
theorem d_M_begin_18 : decode b_M_begin 18 = .ok (.invokevirtual 101, 3) := by decide +kernel
theorem d_M_begin_21 : decode b_M_begin 21 = .ok (.aload_n 0, 1) := by decide +kernel
theorem d_M_begin_22 : decode b_M_begin 22 = .ok (.iconst 1, 1) := by decide +kernel
theorem d_M_begin_23 : decode b_M_begin 23 = .ok (.iload_n 2, 1) := by decide +kernel
theorem d_M_begin_24 : decode b_M_begin 24 = .ok (.invokevirtual 101, 3) := by decide +kernel
theorem d_M_begin_27 : decode b_M_begin 27 = .ok (.aload_n 0, 1) := by decide +kernel
theorem d_M_begin_28 : decode b_M_begin 28 = .ok (.iconst 2, 1) := by decide +kernel
theorem d_M_begin_29 : decode b_M_begin 29 = .ok (.iload_n 3, 1) := by decide +kernel
theorem d_M_begin_30 : decode b_M_begin 30 = .ok (.invokevirtual 101, 3) := by decide +kernel
theorem d_M_begin_33 : decode b_M_begin 33 = .ok (.aload_n 0, 1) := by decide +kernel
theorem d_M_begin_34 : decode b_M_begin 34 = .ok (.iconst 3, 1) := by decide +kernel
theorem d_M_begin_35 : decode b_M_begin 35 = .ok (.iload 4, 2) := by decide +kernel
theorem d_M_begin_37 : decode b_M_begin 37 = .ok (.invokevirtual 101, 3) := by decide +kernel
theorem d_M_begin_40 : decode b_M_begin 40 = .ok (.aload_n 0, 1) := by decide +kernel
theorem d_M_begin_41 : decode b_M_begin 41 = .ok (.iconst 4, 1) := by decide +kernel
theorem d_M_begin_42 : decode b_M_begin 42 = .ok (.iload 5, 2) := by decide +kernel
theorem d_M_begin_44 : decode b_M_begin 44 = .ok (.invokevirtual 101, 3) := by decide +kernel
theorem d_M_begin_47 : decode b_M_begin 47 = .ok (.aload_n 0, 1) := by decide +kernel
theorem d_M_begin_48 : decode b_M_begin 48 = .ok (.iconst 5, 1) := by decide +kernel
theorem d_M_begin_49 : decode b_M_begin 49 = .ok (.iconst 1, 1) := by decide +kernel
theorem d_M_begin_50 : decode b_M_begin 50 = .ok (.invokevirtual 101, 3) := by decide +kernel
theorem d_M_begin_53 : decode b_M_begin 53 = .ok (.aload_n 0, 1) := by decide +kernel
theorem d_M_begin_54 : decode b_M_begin 54 = .ok (.bipush 24, 2) := by decide +kernel
theorem d_M_begin_56 : decode b_M_begin 56 = .ok (.iconst 0, 1) := by decide +kernel
theorem d_M_begin_57 : decode b_M_begin 57 = .ok (.invokevirtual 104, 3) := by decide +kernel
theorem d_M_begin_60 : decode b_M_begin 60 = .ok (.return_, 1) := by decide +kernel
theorem d_M_keep_0 : decode b_M_keep 0 = .ok (.iconst 0, 1) := by decide +kernel
theorem d_M_keep_1 : decode b_M_keep 1 = .ok (.istore_n 3, 1) := by decide +kernel
theorem d_M_keep_2 : decode b_M_keep 2 = .ok (.iload_n 3, 1) := by decide +kernel
theorem d_M_keep_3 : decode b_M_keep 3 = .ok (.bipush 6, 2) := by decide +kernel
theorem d_M_keep_5 : decode b_M_keep 5 = .ok (.if_icmp .ge 19, 3) := by decide +kernel
theorem d_M_keep_8 : decode b_M_keep 8 = .ok (.aload_n 0, 1) := by decide +kernel
theorem d_M_keep_9 : decode b_M_keep 9 = .ok (.iload_n 1, 1) := by decide +kernel
theorem d_M_keep_10 : decode b_M_keep 10 = .ok (.iload_n 3, 1) := by decide +kernel
theorem d_M_keep_11 : decode b_M_keep 11 = .ok (.iadd, 1) := by decide +kernel
theorem d_M_keep_12 : decode b_M_keep 12 = .ok (.iload_n 2, 1) := by decide +kernel
theorem d_M_keep_13 : decode b_M_keep 13 = .ok (.iload_n 3, 1) := by decide +kernel
theorem d_M_keep_14 : decode b_M_keep 14 = .ok (.iadd, 1) := by decide +kernel
theorem d_M_keep_15 : decode b_M_keep 15 = .ok (.invokevirtual 78, 3) := by decide +kernel
theorem d_M_keep_18 : decode b_M_keep 18 = .ok (.iinc 3 1, 3) := by decide +kernel
theorem d_M_keep_21 : decode b_M_keep 21 = .ok (.goto (-19), 3) := by decide +kernel
theorem d_M_keep_24 : decode b_M_keep 24 = .ok (.return_, 1) := by decide +kernel
theorem d_M_bound_0 : decode b_M_bound 0 = .ok (.iload_n 0, 1) := by decide +kernel
theorem d_M_bound_1 : decode b_M_bound 1 = .ok (.iload_n 1, 1) := by decide +kernel
theorem d_M_bound_2 : decode b_M_bound 2 = .ok (.ineg, 1) := by decide +kernel
theorem d_M_bound_3 : decode b_M_bound 3 = .ok (.if_icmp .lt 12, 3) := by decide +kernel
theorem d_M_bound_6 : decode b_M_bound 6 = .ok (.iload_n 0, 1) := by decide +kernel
theorem d_M_bound_7 : decode b_M_bound 7 = .ok (.iload_n 1, 1) := by decide +kernel
theorem d_M_bound_8 : decode b_M_bound 8 = .ok (.if_icmp .gt 7, 3) := by decide +kernel
theorem d_M_bound_11 : decode b_M_bound 11 = .ok (.iconst 1, 1) := by decide +kernel
theorem d_M_bound_12 : decode b_M_bound 12 = .ok (.goto 4, 3) := by decide +kernel
theorem d_M_bound_15 : decode b_M_bound 15 = .ok (.iconst 0, 1) := by decide +kernel
theorem d_M_bound_16 : decode b_M_bound 16 = .ok (.ireturn, 1) := by decide +kernel
theorem d_M_positive_0 : decode b_M_positive 0 = .ok (.iload_n 0, 1) := by decide +kernel
theorem d_M_positive_1 : decode b_M_positive 1 = .ok (.ifCond .le 16, 3) := by decide +kernel
theorem d_M_positive_4 : decode b_M_positive 4 = .ok (.iload_n 0, 1) := by decide +kernel
theorem d_M_positive_5 : decode b_M_positive 5 = .ok (.iload_n 2, 1) := by decide +kernel
theorem d_M_positive_6 : decode b_M_positive 6 = .ok (.imul, 1) := by decide +kernel
theorem d_M_positive_7 : decode b_M_positive 7 = .ok (.iload_n 1, 1) := by decide +kernel
theorem d_M_positive_8 : decode b_M_positive 8 = .ok (.iload_n 1, 1) := by decide +kernel
theorem d_M_positive_9 : decode b_M_positive 9 = .ok (.imul, 1) := by decide +kernel
theorem d_M_positive_10 : decode b_M_positive 10 = .ok (.if_icmp .le 7, 3) := by decide +kernel
theorem d_M_positive_13 : decode b_M_positive 13 = .ok (.iconst 1, 1) := by decide +kernel
theorem d_M_positive_14 : decode b_M_positive 14 = .ok (.goto 4, 3) := by decide +kernel
theorem d_M_positive_17 : decode b_M_positive 17 = .ok (.iconst 0, 1) := by decide +kernel
theorem d_M_positive_18 : decode b_M_positive 18 = .ok (.ireturn, 1) := by decide +kernel
theorem d_M_initial_0 : decode b_M_initial 0 = .ok (.iload_n 1, 1) := by decide +kernel
theorem d_M_initial_1 : decode b_M_initial 1 = .ok (.bipush 99, 2) := by decide +kernel
theorem d_M_initial_3 : decode b_M_initial 3 = .ok (.invokestatic 107, 3) := by decide +kernel
theorem d_M_initial_6 : decode b_M_initial 6 = .ok (.ifCond .eq 41, 3) := by decide +kernel
theorem d_M_initial_9 : decode b_M_initial 9 = .ok (.iload_n 2, 1) := by decide +kernel
theorem d_M_initial_10 : decode b_M_initial 10 = .ok (.bipush 99, 2) := by decide +kernel
theorem d_M_initial_12 : decode b_M_initial 12 = .ok (.invokestatic 107, 3) := by decide +kernel
theorem d_M_initial_15 : decode b_M_initial 15 = .ok (.ifCond .eq 32, 3) := by decide +kernel
theorem d_M_initial_18 : decode b_M_initial 18 = .ok (.iload_n 3, 1) := by decide +kernel
theorem d_M_initial_19 : decode b_M_initial 19 = .ok (.bipush 99, 2) := by decide +kernel
theorem d_M_initial_21 : decode b_M_initial 21 = .ok (.invokestatic 107, 3) := by decide +kernel
theorem d_M_initial_24 : decode b_M_initial 24 = .ok (.ifCond .eq 23, 3) := by decide +kernel
theorem d_M_initial_27 : decode b_M_initial 27 = .ok (.iload 4, 2) := by decide +kernel
theorem d_M_initial_29 : decode b_M_initial 29 = .ok (.bipush 99, 2) := by decide +kernel
theorem d_M_initial_31 : decode b_M_initial 31 = .ok (.invokestatic 107, 3) := by decide +kernel
theorem d_M_initial_34 : decode b_M_initial 34 = .ok (.ifCond .eq 13, 3) := by decide +kernel
theorem d_M_initial_37 : decode b_M_initial 37 = .ok (.iload 5, 2) := by decide +kernel
theorem d_M_initial_39 : decode b_M_initial 39 = .ok (.bipush 99, 2) := by decide +kernel
theorem d_M_initial_41 : decode b_M_initial 41 = .ok (.invokestatic 107, 3) := by decide +kernel
theorem d_M_initial_44 : decode b_M_initial 44 = .ok (.ifCond .ne 6, 3) := by decide +kernel
theorem d_M_initial_47 : decode b_M_initial 47 = .ok (.bipush (-3), 2) := by decide +kernel
theorem d_M_initial_49 : decode b_M_initial 49 = .ok (.ireturn, 1) := by decide +kernel
theorem d_M_initial_50 : decode b_M_initial 50 = .ok (.iload_n 3, 1) := by decide +kernel
theorem d_M_initial_51 : decode b_M_initial 51 = .ok (.iload 4, 2) := by decide +kernel
theorem d_M_initial_53 : decode b_M_initial 53 = .ok (.iload 5, 2) := by decide +kernel
theorem d_M_initial_55 : decode b_M_initial 55 = .ok (.invokestatic 110, 3) := by decide +kernel
theorem d_M_initial_58 : decode b_M_initial 58 = .ok (.ifCond .ne 6, 3) := by decide +kernel
theorem d_M_initial_61 : decode b_M_initial 61 = .ok (.bipush (-4), 2) := by decide +kernel
theorem d_M_initial_63 : decode b_M_initial 63 = .ok (.ireturn, 1) := by decide +kernel
theorem d_M_initial_64 : decode b_M_initial 64 = .ok (.aload_n 0, 1) := by decide +kernel
theorem d_M_initial_65 : decode b_M_initial 65 = .ok (.iload_n 1, 1) := by decide +kernel
theorem d_M_initial_66 : decode b_M_initial 66 = .ok (.iload_n 2, 1) := by decide +kernel
theorem d_M_initial_67 : decode b_M_initial 67 = .ok (.iload_n 3, 1) := by decide +kernel
theorem d_M_initial_68 : decode b_M_initial 68 = .ok (.iload 4, 2) := by decide +kernel
theorem d_M_initial_70 : decode b_M_initial 70 = .ok (.iload 5, 2) := by decide +kernel
theorem d_M_initial_72 : decode b_M_initial 72 = .ok (.invokevirtual 34, 3) := by decide +kernel
theorem d_M_initial_75 : decode b_M_initial 75 = .ok (.iconst 0, 1) := by decide +kernel
theorem d_M_initial_76 : decode b_M_initial 76 = .ok (.ireturn, 1) := by decide +kernel
theorem d_M_step_0 : decode b_M_step 0 = .ok (.iload_n 1, 1) := by decide +kernel
theorem d_M_step_1 : decode b_M_step 1 = .ok (.iconst 3, 1) := by decide +kernel
theorem d_M_step_2 : decode b_M_step 2 = .ok (.invokestatic 107, 3) := by decide +kernel
theorem d_M_step_5 : decode b_M_step 5 = .ok (.ifCond .eq 28, 3) := by decide +kernel
theorem d_M_step_8 : decode b_M_step 8 = .ok (.iload_n 2, 1) := by decide +kernel
theorem d_M_step_9 : decode b_M_step 9 = .ok (.iconst 3, 1) := by decide +kernel
theorem d_M_step_10 : decode b_M_step 10 = .ok (.invokestatic 107, 3) := by decide +kernel
theorem d_M_step_13 : decode b_M_step 13 = .ok (.ifCond .eq 20, 3) := by decide +kernel
theorem d_M_step_16 : decode b_M_step 16 = .ok (.iload_n 3, 1) := by decide +kernel
theorem d_M_step_17 : decode b_M_step 17 = .ok (.iconst 3, 1) := by decide +kernel
theorem d_M_step_18 : decode b_M_step 18 = .ok (.invokestatic 107, 3) := by decide +kernel
theorem d_M_step_21 : decode b_M_step 21 = .ok (.ifCond .eq 12, 3) := by decide +kernel
theorem d_M_step_24 : decode b_M_step 24 = .ok (.iload 4, 2) := by decide +kernel
theorem d_M_step_26 : decode b_M_step 26 = .ok (.iconst 3, 1) := by decide +kernel
theorem d_M_step_27 : decode b_M_step 27 = .ok (.invokestatic 107, 3) := by decide +kernel
theorem d_M_step_30 : decode b_M_step 30 = .ok (.ifCond .ne 5, 3) := by decide +kernel
theorem d_M_step_33 : decode b_M_step 33 = .ok (.iconst 0, 1) := by decide +kernel
theorem d_M_step_34 : decode b_M_step 34 = .ok (.ireturn, 1) := by decide +kernel
theorem d_M_step_35 : decode b_M_step 35 = .ok (.aload_n 0, 1) := by decide +kernel
theorem d_M_step_36 : decode b_M_step 36 = .ok (.getfield 25, 3) := by decide +kernel
theorem d_M_step_39 : decode b_M_step 39 = .ok (.iconst 0, 1) := by decide +kernel
theorem d_M_step_40 : decode b_M_step 40 = .ok (.iload_n 1, 1) := by decide +kernel
theorem d_M_step_41 : decode b_M_step 41 = .ok (.iastore, 1) := by decide +kernel
theorem d_M_step_42 : decode b_M_step 42 = .ok (.aload_n 0, 1) := by decide +kernel
theorem d_M_step_43 : decode b_M_step 43 = .ok (.getfield 25, 3) := by decide +kernel
theorem d_M_step_46 : decode b_M_step 46 = .ok (.iconst 1, 1) := by decide +kernel
theorem d_M_step_47 : decode b_M_step 47 = .ok (.iload_n 2, 1) := by decide +kernel
theorem d_M_step_48 : decode b_M_step 48 = .ok (.iastore, 1) := by decide +kernel
theorem d_M_step_49 : decode b_M_step 49 = .ok (.aload_n 0, 1) := by decide +kernel
theorem d_M_step_50 : decode b_M_step 50 = .ok (.getfield 25, 3) := by decide +kernel
theorem d_M_step_53 : decode b_M_step 53 = .ok (.iconst 2, 1) := by decide +kernel
theorem d_M_step_54 : decode b_M_step 54 = .ok (.iload_n 3, 1) := by decide +kernel
theorem d_M_step_55 : decode b_M_step 55 = .ok (.iastore, 1) := by decide +kernel
theorem d_M_step_56 : decode b_M_step 56 = .ok (.aload_n 0, 1) := by decide +kernel
theorem d_M_step_57 : decode b_M_step 57 = .ok (.getfield 25, 3) := by decide +kernel
theorem d_M_step_60 : decode b_M_step 60 = .ok (.iconst 3, 1) := by decide +kernel
theorem d_M_step_61 : decode b_M_step 61 = .ok (.iload 4, 2) := by decide +kernel
theorem d_M_step_63 : decode b_M_step 63 = .ok (.iastore, 1) := by decide +kernel
theorem d_M_step_64 : decode b_M_step 64 = .ok (.iconst 1, 1) := by decide +kernel
theorem d_M_step_65 : decode b_M_step 65 = .ok (.ireturn, 1) := by decide +kernel
theorem d_M_noise_0 : decode b_M_noise 0 = .ok (.iload_n 1, 1) := by decide +kernel
theorem d_M_noise_1 : decode b_M_noise 1 = .ok (.bipush 99, 2) := by decide +kernel
theorem d_M_noise_3 : decode b_M_noise 3 = .ok (.invokestatic 107, 3) := by decide +kernel
theorem d_M_noise_6 : decode b_M_noise 6 = .ok (.ifCond .eq 21, 3) := by decide +kernel
theorem d_M_noise_9 : decode b_M_noise 9 = .ok (.iload_n 2, 1) := by decide +kernel
theorem d_M_noise_10 : decode b_M_noise 10 = .ok (.bipush 99, 2) := by decide +kernel
theorem d_M_noise_12 : decode b_M_noise 12 = .ok (.invokestatic 107, 3) := by decide +kernel
theorem d_M_noise_15 : decode b_M_noise 15 = .ok (.ifCond .eq 12, 3) := by decide +kernel
theorem d_M_noise_18 : decode b_M_noise 18 = .ok (.iload_n 3, 1) := by decide +kernel
theorem d_M_noise_19 : decode b_M_noise 19 = .ok (.bipush 99, 2) := by decide +kernel
theorem d_M_noise_21 : decode b_M_noise 21 = .ok (.invokestatic 107, 3) := by decide +kernel
theorem d_M_noise_24 : decode b_M_noise 24 = .ok (.ifCond .ne 6, 3) := by decide +kernel
theorem d_M_noise_27 : decode b_M_noise 27 = .ok (.bipush (-3), 2) := by decide +kernel
theorem d_M_noise_29 : decode b_M_noise 29 = .ok (.ireturn, 1) := by decide +kernel
theorem d_M_noise_30 : decode b_M_noise 30 = .ok (.iload_n 1, 1) := by decide +kernel
theorem d_M_noise_31 : decode b_M_noise 31 = .ok (.iload_n 2, 1) := by decide +kernel
theorem d_M_noise_32 : decode b_M_noise 32 = .ok (.iload_n 3, 1) := by decide +kernel
theorem d_M_noise_33 : decode b_M_noise 33 = .ok (.invokestatic 110, 3) := by decide +kernel
theorem d_M_noise_36 : decode b_M_noise 36 = .ok (.ifCond .ne 6, 3) := by decide +kernel
theorem d_M_noise_39 : decode b_M_noise 39 = .ok (.bipush (-4), 2) := by decide +kernel
theorem d_M_noise_41 : decode b_M_noise 41 = .ok (.ireturn, 1) := by decide +kernel
theorem d_M_noise_42 : decode b_M_noise 42 = .ok (.aload_n 0, 1) := by decide +kernel
theorem d_M_noise_43 : decode b_M_noise 43 = .ok (.getfield 28, 3) := by decide +kernel
theorem d_M_noise_46 : decode b_M_noise 46 = .ok (.iconst 0, 1) := by decide +kernel
theorem d_M_noise_47 : decode b_M_noise 47 = .ok (.iload_n 1, 1) := by decide +kernel
theorem d_M_noise_48 : decode b_M_noise 48 = .ok (.iastore, 1) := by decide +kernel
theorem d_M_noise_49 : decode b_M_noise 49 = .ok (.aload_n 0, 1) := by decide +kernel
theorem d_M_noise_50 : decode b_M_noise 50 = .ok (.getfield 28, 3) := by decide +kernel
theorem d_M_noise_53 : decode b_M_noise 53 = .ok (.iconst 1, 1) := by decide +kernel
theorem d_M_noise_54 : decode b_M_noise 54 = .ok (.iload_n 2, 1) := by decide +kernel
theorem d_M_noise_55 : decode b_M_noise 55 = .ok (.iastore, 1) := by decide +kernel
theorem d_M_noise_56 : decode b_M_noise 56 = .ok (.aload_n 0, 1) := by decide +kernel
theorem d_M_noise_57 : decode b_M_noise 57 = .ok (.getfield 28, 3) := by decide +kernel
theorem d_M_noise_60 : decode b_M_noise 60 = .ok (.iconst 2, 1) := by decide +kernel
theorem d_M_noise_61 : decode b_M_noise 61 = .ok (.iload_n 3, 1) := by decide +kernel
theorem d_M_noise_62 : decode b_M_noise 62 = .ok (.iastore, 1) := by decide +kernel
theorem d_M_noise_63 : decode b_M_noise 63 = .ok (.iconst 0, 1) := by decide +kernel
theorem d_M_noise_64 : decode b_M_noise 64 = .ok (.ireturn, 1) := by decide +kernel
theorem d_M_gains_0 : decode b_M_gains 0 = .ok (.bipush 100, 2) := by decide +kernel
theorem d_M_gains_2 : decode b_M_gains 2 = .ok (.istore 5, 2) := by decide +kernel
theorem d_M_gains_4 : decode b_M_gains 4 = .ok (.aload_n 0, 1) := by decide +kernel
theorem d_M_gains_5 : decode b_M_gains 5 = .ok (.bipush 96, 2) := by decide +kernel
theorem d_M_gains_7 : decode b_M_gains 7 = .ok (.iload_n 1, 1) := by decide +kernel
theorem d_M_gains_8 : decode b_M_gains 8 = .ok (.iconst 2, 1) := by decide +kernel
theorem d_M_gains_9 : decode b_M_gains 9 = .ok (.iadd, 1) := by decide +kernel
theorem d_M_gains_10 : decode b_M_gains 10 = .ok (.iload_n 2, 1) := by decide +kernel
theorem d_M_gains_11 : decode b_M_gains 11 = .ok (.invokevirtual 52, 3) := by decide +kernel
theorem d_M_gains_14 : decode b_M_gains 14 = .ok (.aload_n 0, 1) := by decide +kernel
theorem d_M_gains_15 : decode b_M_gains 15 = .ok (.bipush 96, 2) := by decide +kernel
theorem d_M_gains_17 : decode b_M_gains 17 = .ok (.iload_n 1, 1) := by decide +kernel
theorem d_M_gains_18 : decode b_M_gains 18 = .ok (.iconst 3, 1) := by decide +kernel
theorem d_M_gains_19 : decode b_M_gains 19 = .ok (.iadd, 1) := by decide +kernel
theorem d_M_gains_20 : decode b_M_gains 20 = .ok (.iload_n 3, 1) := by decide +kernel
theorem d_M_gains_21 : decode b_M_gains 21 = .ok (.iload 5, 2) := by decide +kernel
theorem d_M_gains_23 : decode b_M_gains 23 = .ok (.invokevirtual 114, 3) := by decide +kernel
theorem d_M_gains_26 : decode b_M_gains 26 = .ok (.aload_n 0, 1) := by decide +kernel
theorem d_M_gains_27 : decode b_M_gains 27 = .ok (.bipush 97, 2) := by decide +kernel
theorem d_M_gains_29 : decode b_M_gains 29 = .ok (.iload_n 1, 1) := by decide +kernel
theorem d_M_gains_30 : decode b_M_gains 30 = .ok (.iconst 3, 1) := by decide +kernel
theorem d_M_gains_31 : decode b_M_gains 31 = .ok (.iadd, 1) := by decide +kernel
theorem d_M_gains_32 : decode b_M_gains 32 = .ok (.iload_n 2, 1) := by decide +kernel
theorem d_M_gains_33 : decode b_M_gains 33 = .ok (.invokevirtual 52, 3) := by decide +kernel
theorem d_M_gains_36 : decode b_M_gains 36 = .ok (.aload_n 0, 1) := by decide +kernel
theorem d_M_gains_37 : decode b_M_gains 37 = .ok (.bipush 97, 2) := by decide +kernel
theorem d_M_gains_39 : decode b_M_gains 39 = .ok (.iload_n 1, 1) := by decide +kernel
theorem d_M_gains_40 : decode b_M_gains 40 = .ok (.iconst 4, 1) := by decide +kernel
theorem d_M_gains_41 : decode b_M_gains 41 = .ok (.iadd, 1) := by decide +kernel
theorem d_M_gains_42 : decode b_M_gains 42 = .ok (.iload_n 3, 1) := by decide +kernel
theorem d_M_gains_43 : decode b_M_gains 43 = .ok (.iload 5, 2) := by decide +kernel
theorem d_M_gains_45 : decode b_M_gains 45 = .ok (.invokevirtual 114, 3) := by decide +kernel
theorem d_M_gains_48 : decode b_M_gains 48 = .ok (.aload_n 0, 1) := by decide +kernel
theorem d_M_gains_49 : decode b_M_gains 49 = .ok (.bipush 98, 2) := by decide +kernel
theorem d_M_gains_51 : decode b_M_gains 51 = .ok (.bipush 96, 2) := by decide +kernel
theorem d_M_gains_53 : decode b_M_gains 53 = .ok (.iload_n 2, 1) := by decide +kernel
theorem d_M_gains_54 : decode b_M_gains 54 = .ok (.invokevirtual 52, 3) := by decide +kernel
theorem d_M_gains_57 : decode b_M_gains 57 = .ok (.aload_n 0, 1) := by decide +kernel
theorem d_M_gains_58 : decode b_M_gains 58 = .ok (.bipush 98, 2) := by decide +kernel
theorem d_M_gains_60 : decode b_M_gains 60 = .ok (.bipush 97, 2) := by decide +kernel
theorem d_M_gains_62 : decode b_M_gains 62 = .ok (.iload_n 3, 1) := by decide +kernel
theorem d_M_gains_63 : decode b_M_gains 63 = .ok (.iload 5, 2) := by decide +kernel
theorem d_M_gains_65 : decode b_M_gains 65 = .ok (.invokevirtual 114, 3) := by decide +kernel
theorem d_M_gains_68 : decode b_M_gains 68 = .ok (.aload_n 0, 1) := by decide +kernel
theorem d_M_gains_69 : decode b_M_gains 69 = .ok (.bipush 98, 2) := by decide +kernel
theorem d_M_gains_71 : decode b_M_gains 71 = .ok (.iload_n 1, 1) := by decide +kernel
theorem d_M_gains_72 : decode b_M_gains 72 = .ok (.iconst 5, 1) := by decide +kernel
theorem d_M_gains_73 : decode b_M_gains 73 = .ok (.iadd, 1) := by decide +kernel
theorem d_M_gains_74 : decode b_M_gains 74 = .ok (.iload 4, 2) := by decide +kernel
theorem d_M_gains_76 : decode b_M_gains 76 = .ok (.iload 5, 2) := by decide +kernel
theorem d_M_gains_78 : decode b_M_gains 78 = .ok (.invokevirtual 114, 3) := by decide +kernel
theorem d_M_gains_81 : decode b_M_gains 81 = .ok (.return_, 1) := by decide +kernel
theorem d_M_observe_0 : decode b_M_observe 0 = .ok (.iload_n 1, 1) := by decide +kernel
theorem d_M_observe_1 : decode b_M_observe 1 = .ok (.bipush 9, 2) := by decide +kernel
theorem d_M_observe_3 : decode b_M_observe 3 = .ok (.invokestatic 107, 3) := by decide +kernel
theorem d_M_observe_6 : decode b_M_observe 6 = .ok (.ifCond .eq 34, 3) := by decide +kernel
theorem d_M_observe_9 : decode b_M_observe 9 = .ok (.iload_n 2, 1) := by decide +kernel
theorem d_M_observe_10 : decode b_M_observe 10 = .ok (.bipush 9, 2) := by decide +kernel
theorem d_M_observe_12 : decode b_M_observe 12 = .ok (.invokestatic 107, 3) := by decide +kernel
theorem d_M_observe_15 : decode b_M_observe 15 = .ok (.ifCond .eq 25, 3) := by decide +kernel
theorem d_M_observe_18 : decode b_M_observe 18 = .ok (.iload_n 3, 1) := by decide +kernel
theorem d_M_observe_19 : decode b_M_observe 19 = .ok (.iconst 1, 1) := by decide +kernel
theorem d_M_observe_20 : decode b_M_observe 20 = .ok (.if_icmp .lt 20, 3) := by decide +kernel
theorem d_M_observe_23 : decode b_M_observe 23 = .ok (.iload_n 3, 1) := by decide +kernel
theorem d_M_observe_24 : decode b_M_observe 24 = .ok (.bipush 99, 2) := by decide +kernel
theorem d_M_observe_26 : decode b_M_observe 26 = .ok (.if_icmp .gt 14, 3) := by decide +kernel
theorem d_M_observe_29 : decode b_M_observe 29 = .ok (.iload 4, 2) := by decide +kernel
theorem d_M_observe_31 : decode b_M_observe 31 = .ok (.sipush 999, 3) := by decide +kernel
theorem d_M_observe_34 : decode b_M_observe 34 = .ok (.invokestatic 107, 3) := by decide +kernel
theorem d_M_observe_37 : decode b_M_observe 37 = .ok (.ifCond .ne 6, 3) := by decide +kernel
theorem d_M_observe_40 : decode b_M_observe 40 = .ok (.bipush (-3), 2) := by decide +kernel
theorem d_M_observe_42 : decode b_M_observe 42 = .ok (.ireturn, 1) := by decide +kernel
theorem d_M_observe_43 : decode b_M_observe 43 = .ok (.aload_n 0, 1) := by decide +kernel
theorem d_M_observe_44 : decode b_M_observe 44 = .ok (.getfield 94, 3) := by decide +kernel
theorem d_M_observe_47 : decode b_M_observe 47 = .ok (.bipush 6, 2) := by decide +kernel
theorem d_M_observe_49 : decode b_M_observe 49 = .ok (.if_icmp .ne 6, 3) := by decide +kernel
theorem d_M_observe_52 : decode b_M_observe 52 = .ok (.bipush (-5), 2) := by decide +kernel
theorem d_M_observe_54 : decode b_M_observe 54 = .ok (.ireturn, 1) := by decide +kernel
theorem d_M_observe_55 : decode b_M_observe 55 = .ok (.bipush 24, 2) := by decide +kernel
theorem d_M_observe_57 : decode b_M_observe 57 = .ok (.bipush 6, 2) := by decide +kernel
theorem d_M_observe_59 : decode b_M_observe 59 = .ok (.aload_n 0, 1) := by decide +kernel
theorem d_M_observe_60 : decode b_M_observe 60 = .ok (.getfield 90, 3) := by decide +kernel
theorem d_M_observe_63 : decode b_M_observe 63 = .ok (.imul, 1) := by decide +kernel
theorem d_M_observe_64 : decode b_M_observe 64 = .ok (.iadd, 1) := by decide +kernel
theorem d_M_observe_65 : decode b_M_observe 65 = .ok (.istore 5, 2) := by decide +kernel
theorem d_M_observe_67 : decode b_M_observe 67 = .ok (.bipush 100, 2) := by decide +kernel
theorem d_M_observe_69 : decode b_M_observe 69 = .ok (.istore 6, 2) := by decide +kernel
theorem d_M_observe_71 : decode b_M_observe 71 = .ok (.bipush 72, 2) := by decide +kernel
theorem d_M_observe_73 : decode b_M_observe 73 = .ok (.iconst 4, 1) := by decide +kernel
theorem d_M_observe_74 : decode b_M_observe 74 = .ok (.aload_n 0, 1) := by decide +kernel
theorem d_M_observe_75 : decode b_M_observe 75 = .ok (.getfield 94, 3) := by decide +kernel
theorem d_M_observe_78 : decode b_M_observe 78 = .ok (.imul, 1) := by decide +kernel
theorem d_M_observe_79 : decode b_M_observe 79 = .ok (.iadd, 1) := by decide +kernel
theorem d_M_observe_80 : decode b_M_observe 80 = .ok (.istore 7, 2) := by decide +kernel
theorem d_M_observe_82 : decode b_M_observe 82 = .ok (.aload_n 0, 1) := by decide +kernel
theorem d_M_observe_83 : decode b_M_observe 83 = .ok (.iload 5, 2) := by decide +kernel
theorem d_M_observe_85 : decode b_M_observe 85 = .ok (.iload_n 1, 1) := by decide +kernel
theorem d_M_observe_86 : decode b_M_observe 86 = .ok (.iload_n 2, 1) := by decide +kernel
theorem d_M_observe_87 : decode b_M_observe 87 = .ok (.iload_n 3, 1) := by decide +kernel
theorem d_M_observe_88 : decode b_M_observe 88 = .ok (.invokevirtual 117, 3) := by decide +kernel
theorem d_M_observe_91 : decode b_M_observe 91 = .ok (.bipush 98, 2) := by decide +kernel
theorem d_M_observe_93 : decode b_M_observe 93 = .ok (.istore 8, 2) := by decide +kernel
theorem d_M_observe_95 : decode b_M_observe 95 = .ok (.bipush 99, 2) := by decide +kernel
theorem d_M_observe_97 : decode b_M_observe 97 = .ok (.istore 9, 2) := by decide +kernel
theorem d_M_observe_99 : decode b_M_observe 99 = .ok (.aload_n 0, 1) := by decide +kernel
theorem d_M_observe_100 : decode b_M_observe 100 = .ok (.iload 9, 2) := by decide +kernel
theorem d_M_observe_102 : decode b_M_observe 102 = .ok (.iload 5, 2) := by decide +kernel
theorem d_M_observe_104 : decode b_M_observe 104 = .ok (.iconst 5, 1) := by decide +kernel
theorem d_M_observe_105 : decode b_M_observe 105 = .ok (.iadd, 1) := by decide +kernel
theorem d_M_observe_106 : decode b_M_observe 106 = .ok (.iload 4, 2) := by decide +kernel
theorem d_M_observe_108 : decode b_M_observe 108 = .ok (.invokevirtual 52, 3) := by decide +kernel
theorem d_M_observe_111 : decode b_M_observe 111 = .ok (.aload_n 0, 1) := by decide +kernel
theorem d_M_observe_112 : decode b_M_observe 112 = .ok (.iload 9, 2) := by decide +kernel
theorem d_M_observe_114 : decode b_M_observe 114 = .ok (.iload 5, 2) := by decide +kernel
theorem d_M_observe_116 : decode b_M_observe 116 = .ok (.iload_n 1, 1) := by decide +kernel
theorem d_M_observe_117 : decode b_M_observe 117 = .ok (.ineg, 1) := by decide +kernel
theorem d_M_observe_118 : decode b_M_observe 118 = .ok (.iload 6, 2) := by decide +kernel
theorem d_M_observe_120 : decode b_M_observe 120 = .ok (.invokevirtual 114, 3) := by decide +kernel
theorem d_M_observe_123 : decode b_M_observe 123 = .ok (.aload_n 0, 1) := by decide +kernel
theorem d_M_observe_124 : decode b_M_observe 124 = .ok (.iload 9, 2) := by decide +kernel
theorem d_M_observe_126 : decode b_M_observe 126 = .ok (.iload 5, 2) := by decide +kernel
theorem d_M_observe_128 : decode b_M_observe 128 = .ok (.iconst 1, 1) := by decide +kernel
theorem d_M_observe_129 : decode b_M_observe 129 = .ok (.iadd, 1) := by decide +kernel
theorem d_M_observe_130 : decode b_M_observe 130 = .ok (.iload_n 2, 1) := by decide +kernel
theorem d_M_observe_131 : decode b_M_observe 131 = .ok (.ineg, 1) := by decide +kernel
theorem d_M_observe_132 : decode b_M_observe 132 = .ok (.iload 6, 2) := by decide +kernel
theorem d_M_observe_134 : decode b_M_observe 134 = .ok (.invokevirtual 114, 3) := by decide +kernel
theorem d_M_observe_137 : decode b_M_observe 137 = .ok (.aload_n 0, 1) := by decide +kernel
theorem d_M_observe_138 : decode b_M_observe 138 = .ok (.iload 7, 2) := by decide +kernel
theorem d_M_observe_140 : decode b_M_observe 140 = .ok (.iload 9, 2) := by decide +kernel
theorem d_M_observe_142 : decode b_M_observe 142 = .ok (.invokevirtual 78, 3) := by decide +kernel
theorem d_M_observe_145 : decode b_M_observe 145 = .ok (.aload_n 0, 1) := by decide +kernel
theorem d_M_observe_146 : decode b_M_observe 146 = .ok (.iload 7, 2) := by decide +kernel
theorem d_M_observe_148 : decode b_M_observe 148 = .ok (.iconst 1, 1) := by decide +kernel
theorem d_M_observe_149 : decode b_M_observe 149 = .ok (.iadd, 1) := by decide +kernel
theorem d_M_observe_150 : decode b_M_observe 150 = .ok (.iload 5, 2) := by decide +kernel
theorem d_M_observe_152 : decode b_M_observe 152 = .ok (.iconst 5, 1) := by decide +kernel
theorem d_M_observe_153 : decode b_M_observe 153 = .ok (.iadd, 1) := by decide +kernel
theorem d_M_observe_154 : decode b_M_observe 154 = .ok (.invokevirtual 78, 3) := by decide +kernel
theorem d_M_observe_157 : decode b_M_observe 157 = .ok (.aload_n 0, 1) := by decide +kernel
theorem d_M_observe_158 : decode b_M_observe 158 = .ok (.iload 7, 2) := by decide +kernel
theorem d_M_observe_160 : decode b_M_observe 160 = .ok (.iconst 2, 1) := by decide +kernel
theorem d_M_observe_161 : decode b_M_observe 161 = .ok (.iadd, 1) := by decide +kernel
theorem d_M_observe_162 : decode b_M_observe 162 = .ok (.iload 8, 2) := by decide +kernel
theorem d_M_observe_164 : decode b_M_observe 164 = .ok (.invokevirtual 78, 3) := by decide +kernel
theorem d_M_observe_167 : decode b_M_observe 167 = .ok (.aload_n 0, 1) := by decide +kernel
theorem d_M_observe_168 : decode b_M_observe 168 = .ok (.iload 7, 2) := by decide +kernel
theorem d_M_observe_170 : decode b_M_observe 170 = .ok (.iconst 3, 1) := by decide +kernel
theorem d_M_observe_171 : decode b_M_observe 171 = .ok (.iadd, 1) := by decide +kernel
theorem d_M_observe_172 : decode b_M_observe 172 = .ok (.iload 5, 2) := by decide +kernel
theorem d_M_observe_174 : decode b_M_observe 174 = .ok (.iconst 5, 1) := by decide +kernel
theorem d_M_observe_175 : decode b_M_observe 175 = .ok (.iadd, 1) := by decide +kernel
theorem d_M_observe_176 : decode b_M_observe 176 = .ok (.invokevirtual 78, 3) := by decide +kernel
theorem d_M_observe_179 : decode b_M_observe 179 = .ok (.iconst 0, 1) := by decide +kernel
theorem d_M_observe_180 : decode b_M_observe 180 = .ok (.istore 10, 2) := by decide +kernel
theorem d_M_observe_182 : decode b_M_observe 182 = .ok (.iload 10, 2) := by decide +kernel
theorem d_M_observe_184 : decode b_M_observe 184 = .ok (.iconst 2, 1) := by decide +kernel
theorem d_M_observe_185 : decode b_M_observe 185 = .ok (.if_icmp .ge 44, 3) := by decide +kernel
theorem d_M_observe_188 : decode b_M_observe 188 = .ok (.aload_n 0, 1) := by decide +kernel
theorem d_M_observe_189 : decode b_M_observe 189 = .ok (.iload 5, 2) := by decide +kernel
theorem d_M_observe_191 : decode b_M_observe 191 = .ok (.iload 10, 2) := by decide +kernel
theorem d_M_observe_193 : decode b_M_observe 193 = .ok (.iadd, 1) := by decide +kernel
theorem d_M_observe_194 : decode b_M_observe 194 = .ok (.iload 5, 2) := by decide +kernel
theorem d_M_observe_196 : decode b_M_observe 196 = .ok (.iload 10, 2) := by decide +kernel
theorem d_M_observe_198 : decode b_M_observe 198 = .ok (.iadd, 1) := by decide +kernel
theorem d_M_observe_199 : decode b_M_observe 199 = .ok (.iload 8, 2) := by decide +kernel
theorem d_M_observe_201 : decode b_M_observe 201 = .ok (.invokevirtual 59, 3) := by decide +kernel
theorem d_M_observe_204 : decode b_M_observe 204 = .ok (.aload_n 0, 1) := by decide +kernel
theorem d_M_observe_205 : decode b_M_observe 205 = .ok (.iload 5, 2) := by decide +kernel
theorem d_M_observe_207 : decode b_M_observe 207 = .ok (.iload 10, 2) := by decide +kernel
theorem d_M_observe_209 : decode b_M_observe 209 = .ok (.iadd, 1) := by decide +kernel
theorem d_M_observe_210 : decode b_M_observe 210 = .ok (.bipush 96, 2) := by decide +kernel
theorem d_M_observe_212 : decode b_M_observe 212 = .ok (.iload 10, 2) := by decide +kernel
theorem d_M_observe_214 : decode b_M_observe 214 = .ok (.iadd, 1) := by decide +kernel
theorem d_M_observe_215 : decode b_M_observe 215 = .ok (.iload 9, 2) := by decide +kernel
theorem d_M_observe_217 : decode b_M_observe 217 = .ok (.iconst 1, 1) := by decide +kernel
theorem d_M_observe_218 : decode b_M_observe 218 = .ok (.iload 6, 2) := by decide +kernel
theorem d_M_observe_220 : decode b_M_observe 220 = .ok (.invokevirtual 120, 3) := by decide +kernel
theorem d_M_observe_223 : decode b_M_observe 223 = .ok (.iinc 10 1, 3) := by decide +kernel
theorem d_M_observe_226 : decode b_M_observe 226 = .ok (.goto (-44), 3) := by decide +kernel
theorem d_M_observe_229 : decode b_M_observe 229 = .ok (.iconst 0, 1) := by decide +kernel
theorem d_M_observe_230 : decode b_M_observe 230 = .ok (.istore 10, 2) := by decide +kernel
theorem d_M_observe_232 : decode b_M_observe 232 = .ok (.iload 10, 2) := by decide +kernel
theorem d_M_observe_234 : decode b_M_observe 234 = .ok (.iconst 3, 1) := by decide +kernel
theorem d_M_observe_235 : decode b_M_observe 235 = .ok (.if_icmp .ge 59, 3) := by decide +kernel
theorem d_M_observe_238 : decode b_M_observe 238 = .ok (.aload_n 0, 1) := by decide +kernel
theorem d_M_observe_239 : decode b_M_observe 239 = .ok (.iload 5, 2) := by decide +kernel
theorem d_M_observe_241 : decode b_M_observe 241 = .ok (.iconst 2, 1) := by decide +kernel
theorem d_M_observe_242 : decode b_M_observe 242 = .ok (.iadd, 1) := by decide +kernel
theorem d_M_observe_243 : decode b_M_observe 243 = .ok (.iload 10, 2) := by decide +kernel
theorem d_M_observe_245 : decode b_M_observe 245 = .ok (.iadd, 1) := by decide +kernel
theorem d_M_observe_246 : decode b_M_observe 246 = .ok (.iload 5, 2) := by decide +kernel
theorem d_M_observe_248 : decode b_M_observe 248 = .ok (.iconst 2, 1) := by decide +kernel
theorem d_M_observe_249 : decode b_M_observe 249 = .ok (.iadd, 1) := by decide +kernel
theorem d_M_observe_250 : decode b_M_observe 250 = .ok (.iload 10, 2) := by decide +kernel
theorem d_M_observe_252 : decode b_M_observe 252 = .ok (.iadd, 1) := by decide +kernel
theorem d_M_observe_253 : decode b_M_observe 253 = .ok (.iload 8, 2) := by decide +kernel
theorem d_M_observe_255 : decode b_M_observe 255 = .ok (.invokevirtual 59, 3) := by decide +kernel
theorem d_M_observe_258 : decode b_M_observe 258 = .ok (.aload_n 0, 1) := by decide +kernel
theorem d_M_observe_259 : decode b_M_observe 259 = .ok (.iload 5, 2) := by decide +kernel
theorem d_M_observe_261 : decode b_M_observe 261 = .ok (.iconst 2, 1) := by decide +kernel
theorem d_M_observe_262 : decode b_M_observe 262 = .ok (.iadd, 1) := by decide +kernel
theorem d_M_observe_263 : decode b_M_observe 263 = .ok (.iload 10, 2) := by decide +kernel
theorem d_M_observe_265 : decode b_M_observe 265 = .ok (.iadd, 1) := by decide +kernel
theorem d_M_observe_266 : decode b_M_observe 266 = .ok (.bipush 96, 2) := by decide +kernel
theorem d_M_observe_268 : decode b_M_observe 268 = .ok (.iload 10, 2) := by decide +kernel
theorem d_M_observe_270 : decode b_M_observe 270 = .ok (.iconst 2, 1) := by decide +kernel
theorem d_M_observe_271 : decode b_M_observe 271 = .ok (.idiv, 1) := by decide +kernel
theorem d_M_observe_272 : decode b_M_observe 272 = .ok (.iadd, 1) := by decide +kernel
theorem d_M_observe_273 : decode b_M_observe 273 = .ok (.bipush 96, 2) := by decide +kernel
theorem d_M_observe_275 : decode b_M_observe 275 = .ok (.iload 10, 2) := by decide +kernel
theorem d_M_observe_277 : decode b_M_observe 277 = .ok (.iconst 1, 1) := by decide +kernel
theorem d_M_observe_278 : decode b_M_observe 278 = .ok (.iadd, 1) := by decide +kernel
theorem d_M_observe_279 : decode b_M_observe 279 = .ok (.iconst 2, 1) := by decide +kernel
theorem d_M_observe_280 : decode b_M_observe 280 = .ok (.idiv, 1) := by decide +kernel
theorem d_M_observe_281 : decode b_M_observe 281 = .ok (.iadd, 1) := by decide +kernel
theorem d_M_observe_282 : decode b_M_observe 282 = .ok (.iconst (-1), 1) := by decide +kernel
theorem d_M_observe_283 : decode b_M_observe 283 = .ok (.iload 6, 2) := by decide +kernel
theorem d_M_observe_285 : decode b_M_observe 285 = .ok (.invokevirtual 120, 3) := by decide +kernel
theorem d_M_observe_288 : decode b_M_observe 288 = .ok (.iinc 10 1, 3) := by decide +kernel
theorem d_M_observe_291 : decode b_M_observe 291 = .ok (.goto (-59), 3) := by decide +kernel
theorem d_M_observe_294 : decode b_M_observe 294 = .ok (.aload_n 0, 1) := by decide +kernel
theorem d_M_observe_295 : decode b_M_observe 295 = .ok (.iload 5, 2) := by decide +kernel
theorem d_M_observe_297 : decode b_M_observe 297 = .ok (.iconst 5, 1) := by decide +kernel
theorem d_M_observe_298 : decode b_M_observe 298 = .ok (.iadd, 1) := by decide +kernel
theorem d_M_observe_299 : decode b_M_observe 299 = .ok (.iload 5, 2) := by decide +kernel
theorem d_M_observe_301 : decode b_M_observe 301 = .ok (.iconst 5, 1) := by decide +kernel
theorem d_M_observe_302 : decode b_M_observe 302 = .ok (.iadd, 1) := by decide +kernel
theorem d_M_observe_303 : decode b_M_observe 303 = .ok (.iload 8, 2) := by decide +kernel
theorem d_M_observe_305 : decode b_M_observe 305 = .ok (.invokevirtual 59, 3) := by decide +kernel
theorem d_M_observe_308 : decode b_M_observe 308 = .ok (.aload_n 0, 1) := by decide +kernel
theorem d_M_observe_309 : decode b_M_observe 309 = .ok (.iload 5, 2) := by decide +kernel
theorem d_M_observe_311 : decode b_M_observe 311 = .ok (.bipush 6, 2) := by decide +kernel
theorem d_M_observe_313 : decode b_M_observe 313 = .ok (.invokevirtual 123, 3) := by decide +kernel
theorem d_M_observe_316 : decode b_M_observe 316 = .ok (.aload_n 0, 1) := by decide +kernel
theorem d_M_observe_317 : decode b_M_observe 317 = .ok (.iconst 0, 1) := by decide +kernel
theorem d_M_observe_318 : decode b_M_observe 318 = .ok (.putfield 97, 3) := by decide +kernel
theorem d_M_observe_321 : decode b_M_observe 321 = .ok (.aload_n 0, 1) := by decide +kernel
theorem d_M_observe_322 : decode b_M_observe 322 = .ok (.dup, 1) := by decide +kernel
theorem d_M_observe_323 : decode b_M_observe 323 = .ok (.getfield 94, 3) := by decide +kernel
theorem d_M_observe_326 : decode b_M_observe 326 = .ok (.iconst 1, 1) := by decide +kernel
theorem d_M_observe_327 : decode b_M_observe 327 = .ok (.iadd, 1) := by decide +kernel
theorem d_M_observe_328 : decode b_M_observe 328 = .ok (.putfield 94, 3) := by decide +kernel
theorem d_M_observe_331 : decode b_M_observe 331 = .ok (.aload_n 0, 1) := by decide +kernel
theorem d_M_observe_332 : decode b_M_observe 332 = .ok (.getfield 94, 3) := by decide +kernel
theorem d_M_observe_335 : decode b_M_observe 335 = .ok (.iconst 1, 1) := by decide +kernel
theorem d_M_observe_336 : decode b_M_observe 336 = .ok (.isub, 1) := by decide +kernel
theorem d_M_observe_337 : decode b_M_observe 337 = .ok (.ireturn, 1) := by decide +kernel
theorem d_M_pair_0 : decode b_M_pair 0 = .ok (.aload_n 0, 1) := by decide +kernel
theorem d_M_pair_1 : decode b_M_pair 1 = .ok (.iload_n 1, 1) := by decide +kernel
theorem d_M_pair_2 : decode b_M_pair 2 = .ok (.iload_n 2, 1) := by decide +kernel
theorem d_M_pair_3 : decode b_M_pair 3 = .ok (.iload_n 3, 1) := by decide +kernel
theorem d_M_pair_4 : decode b_M_pair 4 = .ok (.invokevirtual 52, 3) := by decide +kernel
theorem d_M_pair_7 : decode b_M_pair 7 = .ok (.aload_n 0, 1) := by decide +kernel
theorem d_M_pair_8 : decode b_M_pair 8 = .ok (.iload_n 1, 1) := by decide +kernel
theorem d_M_pair_9 : decode b_M_pair 9 = .ok (.iload 4, 2) := by decide +kernel
theorem d_M_pair_11 : decode b_M_pair 11 = .ok (.iload 5, 2) := by decide +kernel
theorem d_M_pair_13 : decode b_M_pair 13 = .ok (.iload 6, 2) := by decide +kernel
theorem d_M_pair_15 : decode b_M_pair 15 = .ok (.invokevirtual 114, 3) := by decide +kernel
theorem d_M_pair_18 : decode b_M_pair 18 = .ok (.return_, 1) := by decide +kernel
theorem d_M_advance_0 : decode b_M_advance 0 = .ok (.aload_n 0, 1) := by decide +kernel
theorem d_M_advance_1 : decode b_M_advance 1 = .ok (.getfield 90, 3) := by decide +kernel
theorem d_M_advance_4 : decode b_M_advance 4 = .ok (.iconst 3, 1) := by decide +kernel
theorem d_M_advance_5 : decode b_M_advance 5 = .ok (.if_icmp .ne 6, 3) := by decide +kernel
theorem d_M_advance_8 : decode b_M_advance 8 = .ok (.bipush (-5), 2) := by decide +kernel
theorem d_M_advance_10 : decode b_M_advance 10 = .ok (.ireturn, 1) := by decide +kernel
theorem d_M_advance_11 : decode b_M_advance 11 = .ok (.bipush 24, 2) := by decide +kernel
theorem d_M_advance_13 : decode b_M_advance 13 = .ok (.bipush 6, 2) := by decide +kernel
theorem d_M_advance_15 : decode b_M_advance 15 = .ok (.aload_n 0, 1) := by decide +kernel
theorem d_M_advance_16 : decode b_M_advance 16 = .ok (.getfield 90, 3) := by decide +kernel
theorem d_M_advance_19 : decode b_M_advance 19 = .ok (.imul, 1) := by decide +kernel
theorem d_M_advance_20 : decode b_M_advance 20 = .ok (.iadd, 1) := by decide +kernel
theorem d_M_advance_21 : decode b_M_advance 21 = .ok (.istore_n 1, 1) := by decide +kernel
theorem d_M_advance_22 : decode b_M_advance 22 = .ok (.iconst 0, 1) := by decide +kernel
theorem d_M_advance_23 : decode b_M_advance 23 = .ok (.bipush 6, 2) := by decide +kernel
theorem d_M_advance_25 : decode b_M_advance 25 = .ok (.aload_n 0, 1) := by decide +kernel
theorem d_M_advance_26 : decode b_M_advance 26 = .ok (.getfield 90, 3) := by decide +kernel
theorem d_M_advance_29 : decode b_M_advance 29 = .ok (.imul, 1) := by decide +kernel
theorem d_M_advance_30 : decode b_M_advance 30 = .ok (.iadd, 1) := by decide +kernel
theorem d_M_advance_31 : decode b_M_advance 31 = .ok (.bipush 6, 2) := by decide +kernel
theorem d_M_advance_33 : decode b_M_advance 33 = .ok (.iadd, 1) := by decide +kernel
theorem d_M_advance_34 : decode b_M_advance 34 = .ok (.istore_n 2, 1) := by decide +kernel
theorem d_M_advance_35 : decode b_M_advance 35 = .ok (.bipush 100, 2) := by decide +kernel
theorem d_M_advance_37 : decode b_M_advance 37 = .ok (.istore_n 3, 1) := by decide +kernel
theorem d_M_advance_38 : decode b_M_advance 38 = .ok (.iconst 0, 1) := by decide +kernel
theorem d_M_advance_39 : decode b_M_advance 39 = .ok (.istore 4, 2) := by decide +kernel
theorem d_M_advance_41 : decode b_M_advance 41 = .ok (.iload 4, 2) := by decide +kernel
theorem d_M_advance_43 : decode b_M_advance 43 = .ok (.iconst 4, 1) := by decide +kernel
theorem d_M_advance_44 : decode b_M_advance 44 = .ok (.if_icmp .ge 30, 3) := by decide +kernel
theorem d_M_advance_47 : decode b_M_advance 47 = .ok (.aload_n 0, 1) := by decide +kernel
theorem d_M_advance_48 : decode b_M_advance 48 = .ok (.getfield 31, 3) := by decide +kernel
theorem d_M_advance_51 : decode b_M_advance 51 = .ok (.iconst 4, 1) := by decide +kernel
theorem d_M_advance_52 : decode b_M_advance 52 = .ok (.aload_n 0, 1) := by decide +kernel
theorem d_M_advance_53 : decode b_M_advance 53 = .ok (.getfield 90, 3) := by decide +kernel
theorem d_M_advance_56 : decode b_M_advance 56 = .ok (.imul, 1) := by decide +kernel
theorem d_M_advance_57 : decode b_M_advance 57 = .ok (.iload 4, 2) := by decide +kernel
theorem d_M_advance_59 : decode b_M_advance 59 = .ok (.iadd, 1) := by decide +kernel
theorem d_M_advance_60 : decode b_M_advance 60 = .ok (.aload_n 0, 1) := by decide +kernel
theorem d_M_advance_61 : decode b_M_advance 61 = .ok (.getfield 25, 3) := by decide +kernel
theorem d_M_advance_64 : decode b_M_advance 64 = .ok (.iload 4, 2) := by decide +kernel
theorem d_M_advance_66 : decode b_M_advance 66 = .ok (.iaload, 1) := by decide +kernel
theorem d_M_advance_67 : decode b_M_advance 67 = .ok (.iastore, 1) := by decide +kernel
theorem d_M_advance_68 : decode b_M_advance 68 = .ok (.iinc 4 1, 3) := by decide +kernel
theorem d_M_advance_71 : decode b_M_advance 71 = .ok (.goto (-30), 3) := by decide +kernel
theorem d_M_advance_74 : decode b_M_advance 74 = .ok (.aload_n 0, 1) := by decide +kernel
theorem d_M_advance_75 : decode b_M_advance 75 = .ok (.iload_n 2, 1) := by decide +kernel
theorem d_M_advance_76 : decode b_M_advance 76 = .ok (.iload_n 1, 1) := by decide +kernel
theorem d_M_advance_77 : decode b_M_advance 77 = .ok (.aload_n 0, 1) := by decide +kernel
theorem d_M_advance_78 : decode b_M_advance 78 = .ok (.getfield 25, 3) := by decide +kernel
theorem d_M_advance_81 : decode b_M_advance 81 = .ok (.iconst 0, 1) := by decide +kernel
theorem d_M_advance_82 : decode b_M_advance 82 = .ok (.iaload, 1) := by decide +kernel
theorem d_M_advance_83 : decode b_M_advance 83 = .ok (.iload_n 1, 1) := by decide +kernel
theorem d_M_advance_84 : decode b_M_advance 84 = .ok (.iconst 1, 1) := by decide +kernel
theorem d_M_advance_85 : decode b_M_advance 85 = .ok (.iadd, 1) := by decide +kernel
theorem d_M_advance_86 : decode b_M_advance 86 = .ok (.aload_n 0, 1) := by decide +kernel
theorem d_M_advance_87 : decode b_M_advance 87 = .ok (.getfield 25, 3) := by decide +kernel
theorem d_M_advance_90 : decode b_M_advance 90 = .ok (.iconst 1, 1) := by decide +kernel
theorem d_M_advance_91 : decode b_M_advance 91 = .ok (.iaload, 1) := by decide +kernel
theorem d_M_advance_92 : decode b_M_advance 92 = .ok (.iload_n 3, 1) := by decide +kernel
theorem d_M_advance_93 : decode b_M_advance 93 = .ok (.invokevirtual 126, 3) := by decide +kernel
theorem d_M_advance_96 : decode b_M_advance 96 = .ok (.aload_n 0, 1) := by decide +kernel
theorem d_M_advance_97 : decode b_M_advance 97 = .ok (.iload_n 2, 1) := by decide +kernel
theorem d_M_advance_98 : decode b_M_advance 98 = .ok (.iconst 1, 1) := by decide +kernel
theorem d_M_advance_99 : decode b_M_advance 99 = .ok (.iadd, 1) := by decide +kernel
theorem d_M_advance_100 : decode b_M_advance 100 = .ok (.iload_n 1, 1) := by decide +kernel
theorem d_M_advance_101 : decode b_M_advance 101 = .ok (.aload_n 0, 1) := by decide +kernel
theorem d_M_advance_102 : decode b_M_advance 102 = .ok (.getfield 25, 3) := by decide +kernel
theorem d_M_advance_105 : decode b_M_advance 105 = .ok (.iconst 2, 1) := by decide +kernel
theorem d_M_advance_106 : decode b_M_advance 106 = .ok (.iaload, 1) := by decide +kernel
theorem d_M_advance_107 : decode b_M_advance 107 = .ok (.iload_n 1, 1) := by decide +kernel
theorem d_M_advance_108 : decode b_M_advance 108 = .ok (.iconst 1, 1) := by decide +kernel
theorem d_M_advance_109 : decode b_M_advance 109 = .ok (.iadd, 1) := by decide +kernel
theorem d_M_advance_110 : decode b_M_advance 110 = .ok (.aload_n 0, 1) := by decide +kernel
theorem d_M_advance_111 : decode b_M_advance 111 = .ok (.getfield 25, 3) := by decide +kernel
theorem d_M_advance_114 : decode b_M_advance 114 = .ok (.iconst 3, 1) := by decide +kernel
theorem d_M_advance_115 : decode b_M_advance 115 = .ok (.iaload, 1) := by decide +kernel
theorem d_M_advance_116 : decode b_M_advance 116 = .ok (.iload_n 3, 1) := by decide +kernel
theorem d_M_advance_117 : decode b_M_advance 117 = .ok (.invokevirtual 126, 3) := by decide +kernel
theorem d_M_advance_120 : decode b_M_advance 120 = .ok (.iconst 0, 1) := by decide +kernel
theorem d_M_advance_121 : decode b_M_advance 121 = .ok (.istore 4, 2) := by decide +kernel
theorem d_M_advance_123 : decode b_M_advance 123 = .ok (.iload 4, 2) := by decide +kernel
theorem d_M_advance_125 : decode b_M_advance 125 = .ok (.iconst 2, 1) := by decide +kernel
theorem d_M_advance_126 : decode b_M_advance 126 = .ok (.if_icmp .ge 87, 3) := by decide +kernel
theorem d_M_advance_129 : decode b_M_advance 129 = .ok (.aload_n 0, 1) := by decide +kernel
theorem d_M_advance_130 : decode b_M_advance 130 = .ok (.bipush 96, 2) := by decide +kernel
theorem d_M_advance_132 : decode b_M_advance 132 = .ok (.iconst 2, 1) := by decide +kernel
theorem d_M_advance_133 : decode b_M_advance 133 = .ok (.iload 4, 2) := by decide +kernel
theorem d_M_advance_135 : decode b_M_advance 135 = .ok (.imul, 1) := by decide +kernel
theorem d_M_advance_136 : decode b_M_advance 136 = .ok (.iadd, 1) := by decide +kernel
theorem d_M_advance_137 : decode b_M_advance 137 = .ok (.iload_n 1, 1) := by decide +kernel
theorem d_M_advance_138 : decode b_M_advance 138 = .ok (.iconst 2, 1) := by decide +kernel
theorem d_M_advance_139 : decode b_M_advance 139 = .ok (.iadd, 1) := by decide +kernel
theorem d_M_advance_140 : decode b_M_advance 140 = .ok (.aload_n 0, 1) := by decide +kernel
theorem d_M_advance_141 : decode b_M_advance 141 = .ok (.getfield 25, 3) := by decide +kernel
theorem d_M_advance_144 : decode b_M_advance 144 = .ok (.iconst 2, 1) := by decide +kernel
theorem d_M_advance_145 : decode b_M_advance 145 = .ok (.iload 4, 2) := by decide +kernel
theorem d_M_advance_147 : decode b_M_advance 147 = .ok (.imul, 1) := by decide +kernel
theorem d_M_advance_148 : decode b_M_advance 148 = .ok (.iaload, 1) := by decide +kernel
theorem d_M_advance_149 : decode b_M_advance 149 = .ok (.iload_n 1, 1) := by decide +kernel
theorem d_M_advance_150 : decode b_M_advance 150 = .ok (.iconst 3, 1) := by decide +kernel
theorem d_M_advance_151 : decode b_M_advance 151 = .ok (.iadd, 1) := by decide +kernel
theorem d_M_advance_152 : decode b_M_advance 152 = .ok (.aload_n 0, 1) := by decide +kernel
theorem d_M_advance_153 : decode b_M_advance 153 = .ok (.getfield 25, 3) := by decide +kernel
theorem d_M_advance_156 : decode b_M_advance 156 = .ok (.iconst 2, 1) := by decide +kernel
theorem d_M_advance_157 : decode b_M_advance 157 = .ok (.iload 4, 2) := by decide +kernel
theorem d_M_advance_159 : decode b_M_advance 159 = .ok (.imul, 1) := by decide +kernel
theorem d_M_advance_160 : decode b_M_advance 160 = .ok (.iconst 1, 1) := by decide +kernel
theorem d_M_advance_161 : decode b_M_advance 161 = .ok (.iadd, 1) := by decide +kernel
theorem d_M_advance_162 : decode b_M_advance 162 = .ok (.iaload, 1) := by decide +kernel
theorem d_M_advance_163 : decode b_M_advance 163 = .ok (.iload_n 3, 1) := by decide +kernel
theorem d_M_advance_164 : decode b_M_advance 164 = .ok (.invokevirtual 126, 3) := by decide +kernel
theorem d_M_advance_167 : decode b_M_advance 167 = .ok (.aload_n 0, 1) := by decide +kernel
theorem d_M_advance_168 : decode b_M_advance 168 = .ok (.bipush 96, 2) := by decide +kernel
theorem d_M_advance_170 : decode b_M_advance 170 = .ok (.iconst 2, 1) := by decide +kernel
theorem d_M_advance_171 : decode b_M_advance 171 = .ok (.iload 4, 2) := by decide +kernel
theorem d_M_advance_173 : decode b_M_advance 173 = .ok (.imul, 1) := by decide +kernel
theorem d_M_advance_174 : decode b_M_advance 174 = .ok (.iadd, 1) := by decide +kernel
theorem d_M_advance_175 : decode b_M_advance 175 = .ok (.iconst 1, 1) := by decide +kernel
theorem d_M_advance_176 : decode b_M_advance 176 = .ok (.iadd, 1) := by decide +kernel
theorem d_M_advance_177 : decode b_M_advance 177 = .ok (.iload_n 1, 1) := by decide +kernel
theorem d_M_advance_178 : decode b_M_advance 178 = .ok (.iconst 3, 1) := by decide +kernel
theorem d_M_advance_179 : decode b_M_advance 179 = .ok (.iadd, 1) := by decide +kernel
theorem d_M_advance_180 : decode b_M_advance 180 = .ok (.aload_n 0, 1) := by decide +kernel
theorem d_M_advance_181 : decode b_M_advance 181 = .ok (.getfield 25, 3) := by decide +kernel
theorem d_M_advance_184 : decode b_M_advance 184 = .ok (.iconst 2, 1) := by decide +kernel
theorem d_M_advance_185 : decode b_M_advance 185 = .ok (.iload 4, 2) := by decide +kernel
theorem d_M_advance_187 : decode b_M_advance 187 = .ok (.imul, 1) := by decide +kernel
theorem d_M_advance_188 : decode b_M_advance 188 = .ok (.iaload, 1) := by decide +kernel
theorem d_M_advance_189 : decode b_M_advance 189 = .ok (.iload_n 1, 1) := by decide +kernel
theorem d_M_advance_190 : decode b_M_advance 190 = .ok (.iconst 4, 1) := by decide +kernel
theorem d_M_advance_191 : decode b_M_advance 191 = .ok (.iadd, 1) := by decide +kernel
theorem d_M_advance_192 : decode b_M_advance 192 = .ok (.aload_n 0, 1) := by decide +kernel
theorem d_M_advance_193 : decode b_M_advance 193 = .ok (.getfield 25, 3) := by decide +kernel
theorem d_M_advance_196 : decode b_M_advance 196 = .ok (.iconst 2, 1) := by decide +kernel
theorem d_M_advance_197 : decode b_M_advance 197 = .ok (.iload 4, 2) := by decide +kernel
theorem d_M_advance_199 : decode b_M_advance 199 = .ok (.imul, 1) := by decide +kernel
theorem d_M_advance_200 : decode b_M_advance 200 = .ok (.iconst 1, 1) := by decide +kernel
theorem d_M_advance_201 : decode b_M_advance 201 = .ok (.iadd, 1) := by decide +kernel
theorem d_M_advance_202 : decode b_M_advance 202 = .ok (.iaload, 1) := by decide +kernel
theorem d_M_advance_203 : decode b_M_advance 203 = .ok (.iload_n 3, 1) := by decide +kernel
theorem d_M_advance_204 : decode b_M_advance 204 = .ok (.invokevirtual 126, 3) := by decide +kernel
theorem d_M_advance_207 : decode b_M_advance 207 = .ok (.iinc 4 1, 3) := by decide +kernel
theorem d_M_advance_210 : decode b_M_advance 210 = .ok (.goto (-87), 3) := by decide +kernel
theorem d_M_advance_213 : decode b_M_advance 213 = .ok (.aload_n 0, 1) := by decide +kernel
theorem d_M_advance_214 : decode b_M_advance 214 = .ok (.iload_n 2, 1) := by decide +kernel
theorem d_M_advance_215 : decode b_M_advance 215 = .ok (.iconst 2, 1) := by decide +kernel
theorem d_M_advance_216 : decode b_M_advance 216 = .ok (.iadd, 1) := by decide +kernel
theorem d_M_advance_217 : decode b_M_advance 217 = .ok (.bipush 96, 2) := by decide +kernel
theorem d_M_advance_219 : decode b_M_advance 219 = .ok (.aload_n 0, 1) := by decide +kernel
theorem d_M_advance_220 : decode b_M_advance 220 = .ok (.getfield 25, 3) := by decide +kernel
theorem d_M_advance_223 : decode b_M_advance 223 = .ok (.iconst 0, 1) := by decide +kernel
theorem d_M_advance_224 : decode b_M_advance 224 = .ok (.iaload, 1) := by decide +kernel
theorem d_M_advance_225 : decode b_M_advance 225 = .ok (.bipush 97, 2) := by decide +kernel
theorem d_M_advance_227 : decode b_M_advance 227 = .ok (.aload_n 0, 1) := by decide +kernel
theorem d_M_advance_228 : decode b_M_advance 228 = .ok (.getfield 25, 3) := by decide +kernel
theorem d_M_advance_231 : decode b_M_advance 231 = .ok (.iconst 1, 1) := by decide +kernel
theorem d_M_advance_232 : decode b_M_advance 232 = .ok (.iaload, 1) := by decide +kernel
theorem d_M_advance_233 : decode b_M_advance 233 = .ok (.iload_n 3, 1) := by decide +kernel
theorem d_M_advance_234 : decode b_M_advance 234 = .ok (.invokevirtual 126, 3) := by decide +kernel
theorem d_M_advance_237 : decode b_M_advance 237 = .ok (.aload_n 0, 1) := by decide +kernel
theorem d_M_advance_238 : decode b_M_advance 238 = .ok (.iload_n 2, 1) := by decide +kernel
theorem d_M_advance_239 : decode b_M_advance 239 = .ok (.iconst 3, 1) := by decide +kernel
theorem d_M_advance_240 : decode b_M_advance 240 = .ok (.iadd, 1) := by decide +kernel
theorem d_M_advance_241 : decode b_M_advance 241 = .ok (.bipush 96, 2) := by decide +kernel
theorem d_M_advance_243 : decode b_M_advance 243 = .ok (.aload_n 0, 1) := by decide +kernel
theorem d_M_advance_244 : decode b_M_advance 244 = .ok (.getfield 25, 3) := by decide +kernel
theorem d_M_advance_247 : decode b_M_advance 247 = .ok (.iconst 2, 1) := by decide +kernel
theorem d_M_advance_248 : decode b_M_advance 248 = .ok (.iaload, 1) := by decide +kernel
theorem d_M_advance_249 : decode b_M_advance 249 = .ok (.bipush 97, 2) := by decide +kernel
theorem d_M_advance_251 : decode b_M_advance 251 = .ok (.aload_n 0, 1) := by decide +kernel
theorem d_M_advance_252 : decode b_M_advance 252 = .ok (.getfield 25, 3) := by decide +kernel
theorem d_M_advance_255 : decode b_M_advance 255 = .ok (.iconst 3, 1) := by decide +kernel
theorem d_M_advance_256 : decode b_M_advance 256 = .ok (.iaload, 1) := by decide +kernel
theorem d_M_advance_257 : decode b_M_advance 257 = .ok (.iload_n 3, 1) := by decide +kernel
theorem d_M_advance_258 : decode b_M_advance 258 = .ok (.invokevirtual 126, 3) := by decide +kernel
theorem d_M_advance_261 : decode b_M_advance 261 = .ok (.aload_n 0, 1) := by decide +kernel
theorem d_M_advance_262 : decode b_M_advance 262 = .ok (.iload_n 2, 1) := by decide +kernel
theorem d_M_advance_263 : decode b_M_advance 263 = .ok (.iconst 4, 1) := by decide +kernel
theorem d_M_advance_264 : decode b_M_advance 264 = .ok (.iadd, 1) := by decide +kernel
theorem d_M_advance_265 : decode b_M_advance 265 = .ok (.bipush 98, 2) := by decide +kernel
theorem d_M_advance_267 : decode b_M_advance 267 = .ok (.aload_n 0, 1) := by decide +kernel
theorem d_M_advance_268 : decode b_M_advance 268 = .ok (.getfield 25, 3) := by decide +kernel
theorem d_M_advance_271 : decode b_M_advance 271 = .ok (.iconst 2, 1) := by decide +kernel
theorem d_M_advance_272 : decode b_M_advance 272 = .ok (.iaload, 1) := by decide +kernel
theorem d_M_advance_273 : decode b_M_advance 273 = .ok (.bipush 99, 2) := by decide +kernel
theorem d_M_advance_275 : decode b_M_advance 275 = .ok (.aload_n 0, 1) := by decide +kernel
theorem d_M_advance_276 : decode b_M_advance 276 = .ok (.getfield 25, 3) := by decide +kernel
theorem d_M_advance_279 : decode b_M_advance 279 = .ok (.iconst 3, 1) := by decide +kernel
theorem d_M_advance_280 : decode b_M_advance 280 = .ok (.iaload, 1) := by decide +kernel
theorem d_M_advance_281 : decode b_M_advance 281 = .ok (.iload_n 3, 1) := by decide +kernel
theorem d_M_advance_282 : decode b_M_advance 282 = .ok (.invokevirtual 126, 3) := by decide +kernel
theorem d_M_advance_285 : decode b_M_advance 285 = .ok (.iconst 0, 1) := by decide +kernel
theorem d_M_advance_286 : decode b_M_advance 286 = .ok (.istore 4, 2) := by decide +kernel
theorem d_M_advance_288 : decode b_M_advance 288 = .ok (.iload 4, 2) := by decide +kernel
theorem d_M_advance_290 : decode b_M_advance 290 = .ok (.iconst 3, 1) := by decide +kernel
theorem d_M_advance_291 : decode b_M_advance 291 = .ok (.if_icmp .ge 30, 3) := by decide +kernel
theorem d_M_advance_294 : decode b_M_advance 294 = .ok (.aload_n 0, 1) := by decide +kernel
theorem d_M_advance_295 : decode b_M_advance 295 = .ok (.iload_n 2, 1) := by decide +kernel
theorem d_M_advance_296 : decode b_M_advance 296 = .ok (.iconst 2, 1) := by decide +kernel
theorem d_M_advance_297 : decode b_M_advance 297 = .ok (.iadd, 1) := by decide +kernel
theorem d_M_advance_298 : decode b_M_advance 298 = .ok (.iload 4, 2) := by decide +kernel
theorem d_M_advance_300 : decode b_M_advance 300 = .ok (.iadd, 1) := by decide +kernel
theorem d_M_advance_301 : decode b_M_advance 301 = .ok (.iload_n 1, 1) := by decide +kernel
theorem d_M_advance_302 : decode b_M_advance 302 = .ok (.iconst 5, 1) := by decide +kernel
theorem d_M_advance_303 : decode b_M_advance 303 = .ok (.iadd, 1) := by decide +kernel
theorem d_M_advance_304 : decode b_M_advance 304 = .ok (.aload_n 0, 1) := by decide +kernel
theorem d_M_advance_305 : decode b_M_advance 305 = .ok (.getfield 28, 3) := by decide +kernel
theorem d_M_advance_308 : decode b_M_advance 308 = .ok (.iload 4, 2) := by decide +kernel
theorem d_M_advance_310 : decode b_M_advance 310 = .ok (.iaload, 1) := by decide +kernel
theorem d_M_advance_311 : decode b_M_advance 311 = .ok (.iload_n 3, 1) := by decide +kernel
theorem d_M_advance_312 : decode b_M_advance 312 = .ok (.invokevirtual 114, 3) := by decide +kernel
theorem d_M_advance_315 : decode b_M_advance 315 = .ok (.iinc 4 1, 3) := by decide +kernel
theorem d_M_advance_318 : decode b_M_advance 318 = .ok (.goto (-30), 3) := by decide +kernel
theorem d_M_advance_321 : decode b_M_advance 321 = .ok (.aload_n 0, 1) := by decide +kernel
theorem d_M_advance_322 : decode b_M_advance 322 = .ok (.iload_n 2, 1) := by decide +kernel
theorem d_M_advance_323 : decode b_M_advance 323 = .ok (.iconst 5, 1) := by decide +kernel
theorem d_M_advance_324 : decode b_M_advance 324 = .ok (.iadd, 1) := by decide +kernel
theorem d_M_advance_325 : decode b_M_advance 325 = .ok (.iload_n 1, 1) := by decide +kernel
theorem d_M_advance_326 : decode b_M_advance 326 = .ok (.iconst 5, 1) := by decide +kernel
theorem d_M_advance_327 : decode b_M_advance 327 = .ok (.iadd, 1) := by decide +kernel
theorem d_M_advance_328 : decode b_M_advance 328 = .ok (.invokevirtual 78, 3) := by decide +kernel
theorem d_M_advance_331 : decode b_M_advance 331 = .ok (.aload_n 0, 1) := by decide +kernel
theorem d_M_advance_332 : decode b_M_advance 332 = .ok (.dup, 1) := by decide +kernel
theorem d_M_advance_333 : decode b_M_advance 333 = .ok (.getfield 90, 3) := by decide +kernel
theorem d_M_advance_336 : decode b_M_advance 336 = .ok (.iconst 1, 1) := by decide +kernel
theorem d_M_advance_337 : decode b_M_advance 337 = .ok (.iadd, 1) := by decide +kernel
theorem d_M_advance_338 : decode b_M_advance 338 = .ok (.putfield 90, 3) := by decide +kernel
theorem d_M_advance_341 : decode b_M_advance 341 = .ok (.aload_n 0, 1) := by decide +kernel
theorem d_M_advance_342 : decode b_M_advance 342 = .ok (.bipush 24, 2) := by decide +kernel
theorem d_M_advance_344 : decode b_M_advance 344 = .ok (.bipush 6, 2) := by decide +kernel
theorem d_M_advance_346 : decode b_M_advance 346 = .ok (.aload_n 0, 1) := by decide +kernel
theorem d_M_advance_347 : decode b_M_advance 347 = .ok (.getfield 90, 3) := by decide +kernel
theorem d_M_advance_350 : decode b_M_advance 350 = .ok (.imul, 1) := by decide +kernel
theorem d_M_advance_351 : decode b_M_advance 351 = .ok (.iadd, 1) := by decide +kernel
theorem d_M_advance_352 : decode b_M_advance 352 = .ok (.iload_n 2, 1) := by decide +kernel
theorem d_M_advance_353 : decode b_M_advance 353 = .ok (.invokevirtual 104, 3) := by decide +kernel
theorem d_M_advance_356 : decode b_M_advance 356 = .ok (.aload_n 0, 1) := by decide +kernel
theorem d_M_advance_357 : decode b_M_advance 357 = .ok (.iconst 0, 1) := by decide +kernel
theorem d_M_advance_358 : decode b_M_advance 358 = .ok (.putfield 97, 3) := by decide +kernel
theorem d_M_advance_361 : decode b_M_advance 361 = .ok (.aload_n 0, 1) := by decide +kernel
theorem d_M_advance_362 : decode b_M_advance 362 = .ok (.getfield 90, 3) := by decide +kernel
theorem d_M_advance_365 : decode b_M_advance 365 = .ok (.ireturn, 1) := by decide +kernel
theorem d_M_crossed_0 : decode b_M_crossed 0 = .ok (.aload_n 0, 1) := by decide +kernel
theorem d_M_crossed_1 : decode b_M_crossed 1 = .ok (.iload_n 1, 1) := by decide +kernel
theorem d_M_crossed_2 : decode b_M_crossed 2 = .ok (.iload_n 2, 1) := by decide +kernel
theorem d_M_crossed_3 : decode b_M_crossed 3 = .ok (.iload_n 3, 1) := by decide +kernel
theorem d_M_crossed_4 : decode b_M_crossed 4 = .ok (.invokevirtual 59, 3) := by decide +kernel
theorem d_M_crossed_7 : decode b_M_crossed 7 = .ok (.aload_n 0, 1) := by decide +kernel
theorem d_M_crossed_8 : decode b_M_crossed 8 = .ok (.iload_n 1, 1) := by decide +kernel
theorem d_M_crossed_9 : decode b_M_crossed 9 = .ok (.iload 4, 2) := by decide +kernel
theorem d_M_crossed_11 : decode b_M_crossed 11 = .ok (.iload 5, 2) := by decide +kernel
theorem d_M_crossed_13 : decode b_M_crossed 13 = .ok (.iload 6, 2) := by decide +kernel
theorem d_M_crossed_15 : decode b_M_crossed 15 = .ok (.iload 7, 2) := by decide +kernel
theorem d_M_crossed_17 : decode b_M_crossed 17 = .ok (.invokevirtual 120, 3) := by decide +kernel
theorem d_M_crossed_20 : decode b_M_crossed 20 = .ok (.return_, 1) := by decide +kernel
theorem d_M_matrix_0 : decode b_M_matrix 0 = .ok (.bipush 110, 2) := by decide +kernel
theorem d_M_matrix_2 : decode b_M_matrix 2 = .ok (.istore 4, 2) := by decide +kernel
theorem d_M_matrix_4 : decode b_M_matrix 4 = .ok (.iconst 0, 1) := by decide +kernel
theorem d_M_matrix_5 : decode b_M_matrix 5 = .ok (.istore 5, 2) := by decide +kernel
theorem d_M_matrix_7 : decode b_M_matrix 7 = .ok (.iload 5, 2) := by decide +kernel
theorem d_M_matrix_9 : decode b_M_matrix 9 = .ok (.iconst 2, 1) := by decide +kernel
theorem d_M_matrix_10 : decode b_M_matrix 10 = .ok (.if_icmp .ge 91, 3) := by decide +kernel
theorem d_M_matrix_13 : decode b_M_matrix 13 = .ok (.aload_n 0, 1) := by decide +kernel
theorem d_M_matrix_14 : decode b_M_matrix 14 = .ok (.bipush 106, 2) := by decide +kernel
theorem d_M_matrix_16 : decode b_M_matrix 16 = .ok (.iload 5, 2) := by decide +kernel
theorem d_M_matrix_18 : decode b_M_matrix 18 = .ok (.iadd, 1) := by decide +kernel
theorem d_M_matrix_19 : decode b_M_matrix 19 = .ok (.iload_n 1, 1) := by decide +kernel
theorem d_M_matrix_20 : decode b_M_matrix 20 = .ok (.iconst 2, 1) := by decide +kernel
theorem d_M_matrix_21 : decode b_M_matrix 21 = .ok (.iadd, 1) := by decide +kernel
theorem d_M_matrix_22 : decode b_M_matrix 22 = .ok (.aload_n 0, 1) := by decide +kernel
theorem d_M_matrix_23 : decode b_M_matrix 23 = .ok (.getfield 31, 3) := by decide +kernel
theorem d_M_matrix_26 : decode b_M_matrix 26 = .ok (.iload_n 3, 1) := by decide +kernel
theorem d_M_matrix_27 : decode b_M_matrix 27 = .ok (.iconst 2, 1) := by decide +kernel
theorem d_M_matrix_28 : decode b_M_matrix 28 = .ok (.iload 5, 2) := by decide +kernel
theorem d_M_matrix_30 : decode b_M_matrix 30 = .ok (.imul, 1) := by decide +kernel
theorem d_M_matrix_31 : decode b_M_matrix 31 = .ok (.iadd, 1) := by decide +kernel
theorem d_M_matrix_32 : decode b_M_matrix 32 = .ok (.iaload, 1) := by decide +kernel
theorem d_M_matrix_33 : decode b_M_matrix 33 = .ok (.iload_n 1, 1) := by decide +kernel
theorem d_M_matrix_34 : decode b_M_matrix 34 = .ok (.iconst 3, 1) := by decide +kernel
theorem d_M_matrix_35 : decode b_M_matrix 35 = .ok (.iadd, 1) := by decide +kernel
theorem d_M_matrix_36 : decode b_M_matrix 36 = .ok (.aload_n 0, 1) := by decide +kernel
theorem d_M_matrix_37 : decode b_M_matrix 37 = .ok (.getfield 31, 3) := by decide +kernel
theorem d_M_matrix_40 : decode b_M_matrix 40 = .ok (.iload_n 3, 1) := by decide +kernel
theorem d_M_matrix_41 : decode b_M_matrix 41 = .ok (.iconst 2, 1) := by decide +kernel
theorem d_M_matrix_42 : decode b_M_matrix 42 = .ok (.iload 5, 2) := by decide +kernel
theorem d_M_matrix_44 : decode b_M_matrix 44 = .ok (.imul, 1) := by decide +kernel
theorem d_M_matrix_45 : decode b_M_matrix 45 = .ok (.iadd, 1) := by decide +kernel
theorem d_M_matrix_46 : decode b_M_matrix 46 = .ok (.iconst 1, 1) := by decide +kernel
theorem d_M_matrix_47 : decode b_M_matrix 47 = .ok (.iadd, 1) := by decide +kernel
theorem d_M_matrix_48 : decode b_M_matrix 48 = .ok (.iaload, 1) := by decide +kernel
theorem d_M_matrix_49 : decode b_M_matrix 49 = .ok (.iload 4, 2) := by decide +kernel
theorem d_M_matrix_51 : decode b_M_matrix 51 = .ok (.invokevirtual 126, 3) := by decide +kernel
theorem d_M_matrix_54 : decode b_M_matrix 54 = .ok (.aload_n 0, 1) := by decide +kernel
theorem d_M_matrix_55 : decode b_M_matrix 55 = .ok (.bipush 108, 2) := by decide +kernel
theorem d_M_matrix_57 : decode b_M_matrix 57 = .ok (.iload 5, 2) := by decide +kernel
theorem d_M_matrix_59 : decode b_M_matrix 59 = .ok (.iadd, 1) := by decide +kernel
theorem d_M_matrix_60 : decode b_M_matrix 60 = .ok (.iload_n 1, 1) := by decide +kernel
theorem d_M_matrix_61 : decode b_M_matrix 61 = .ok (.iconst 3, 1) := by decide +kernel
theorem d_M_matrix_62 : decode b_M_matrix 62 = .ok (.iadd, 1) := by decide +kernel
theorem d_M_matrix_63 : decode b_M_matrix 63 = .ok (.aload_n 0, 1) := by decide +kernel
theorem d_M_matrix_64 : decode b_M_matrix 64 = .ok (.getfield 31, 3) := by decide +kernel
theorem d_M_matrix_67 : decode b_M_matrix 67 = .ok (.iload_n 3, 1) := by decide +kernel
theorem d_M_matrix_68 : decode b_M_matrix 68 = .ok (.iconst 2, 1) := by decide +kernel
theorem d_M_matrix_69 : decode b_M_matrix 69 = .ok (.iload 5, 2) := by decide +kernel
theorem d_M_matrix_71 : decode b_M_matrix 71 = .ok (.imul, 1) := by decide +kernel
theorem d_M_matrix_72 : decode b_M_matrix 72 = .ok (.iadd, 1) := by decide +kernel
theorem d_M_matrix_73 : decode b_M_matrix 73 = .ok (.iaload, 1) := by decide +kernel
theorem d_M_matrix_74 : decode b_M_matrix 74 = .ok (.iload_n 1, 1) := by decide +kernel
theorem d_M_matrix_75 : decode b_M_matrix 75 = .ok (.iconst 4, 1) := by decide +kernel
theorem d_M_matrix_76 : decode b_M_matrix 76 = .ok (.iadd, 1) := by decide +kernel
theorem d_M_matrix_77 : decode b_M_matrix 77 = .ok (.aload_n 0, 1) := by decide +kernel
theorem d_M_matrix_78 : decode b_M_matrix 78 = .ok (.getfield 31, 3) := by decide +kernel
theorem d_M_matrix_81 : decode b_M_matrix 81 = .ok (.iload_n 3, 1) := by decide +kernel
theorem d_M_matrix_82 : decode b_M_matrix 82 = .ok (.iconst 2, 1) := by decide +kernel
theorem d_M_matrix_83 : decode b_M_matrix 83 = .ok (.iload 5, 2) := by decide +kernel
theorem d_M_matrix_85 : decode b_M_matrix 85 = .ok (.imul, 1) := by decide +kernel
theorem d_M_matrix_86 : decode b_M_matrix 86 = .ok (.iadd, 1) := by decide +kernel
theorem d_M_matrix_87 : decode b_M_matrix 87 = .ok (.iconst 1, 1) := by decide +kernel
theorem d_M_matrix_88 : decode b_M_matrix 88 = .ok (.iadd, 1) := by decide +kernel
theorem d_M_matrix_89 : decode b_M_matrix 89 = .ok (.iaload, 1) := by decide +kernel
theorem d_M_matrix_90 : decode b_M_matrix 90 = .ok (.iload 4, 2) := by decide +kernel
theorem d_M_matrix_92 : decode b_M_matrix 92 = .ok (.invokevirtual 126, 3) := by decide +kernel
theorem d_M_matrix_95 : decode b_M_matrix 95 = .ok (.iinc 5 1, 3) := by decide +kernel
theorem d_M_matrix_98 : decode b_M_matrix 98 = .ok (.goto (-91), 3) := by decide +kernel
theorem d_M_matrix_101 : decode b_M_matrix 101 = .ok (.iconst 0, 1) := by decide +kernel
theorem d_M_matrix_102 : decode b_M_matrix 102 = .ok (.istore 5, 2) := by decide +kernel
theorem d_M_matrix_104 : decode b_M_matrix 104 = .ok (.iload 5, 2) := by decide +kernel
theorem d_M_matrix_106 : decode b_M_matrix 106 = .ok (.iconst 2, 1) := by decide +kernel
theorem d_M_matrix_107 : decode b_M_matrix 107 = .ok (.if_icmp .ge 79, 3) := by decide +kernel
theorem d_M_matrix_110 : decode b_M_matrix 110 = .ok (.aload_n 0, 1) := by decide +kernel
theorem d_M_matrix_111 : decode b_M_matrix 111 = .ok (.bipush 96, 2) := by decide +kernel
theorem d_M_matrix_113 : decode b_M_matrix 113 = .ok (.iconst 2, 1) := by decide +kernel
theorem d_M_matrix_114 : decode b_M_matrix 114 = .ok (.iload 5, 2) := by decide +kernel
theorem d_M_matrix_116 : decode b_M_matrix 116 = .ok (.imul, 1) := by decide +kernel
theorem d_M_matrix_117 : decode b_M_matrix 117 = .ok (.iadd, 1) := by decide +kernel
theorem d_M_matrix_118 : decode b_M_matrix 118 = .ok (.bipush 106, 2) := by decide +kernel
theorem d_M_matrix_120 : decode b_M_matrix 120 = .ok (.iconst 2, 1) := by decide +kernel
theorem d_M_matrix_121 : decode b_M_matrix 121 = .ok (.iload 5, 2) := by decide +kernel
theorem d_M_matrix_123 : decode b_M_matrix 123 = .ok (.imul, 1) := by decide +kernel
theorem d_M_matrix_124 : decode b_M_matrix 124 = .ok (.iadd, 1) := by decide +kernel
theorem d_M_matrix_125 : decode b_M_matrix 125 = .ok (.iload_n 2, 1) := by decide +kernel
theorem d_M_matrix_126 : decode b_M_matrix 126 = .ok (.iconst 4, 1) := by decide +kernel
theorem d_M_matrix_127 : decode b_M_matrix 127 = .ok (.iadd, 1) := by decide +kernel
theorem d_M_matrix_128 : decode b_M_matrix 128 = .ok (.bipush 107, 2) := by decide +kernel
theorem d_M_matrix_130 : decode b_M_matrix 130 = .ok (.iconst 2, 1) := by decide +kernel
theorem d_M_matrix_131 : decode b_M_matrix 131 = .ok (.iload 5, 2) := by decide +kernel
theorem d_M_matrix_133 : decode b_M_matrix 133 = .ok (.imul, 1) := by decide +kernel
theorem d_M_matrix_134 : decode b_M_matrix 134 = .ok (.iadd, 1) := by decide +kernel
theorem d_M_matrix_135 : decode b_M_matrix 135 = .ok (.iload_n 2, 1) := by decide +kernel
theorem d_M_matrix_136 : decode b_M_matrix 136 = .ok (.iconst 3, 1) := by decide +kernel
theorem d_M_matrix_137 : decode b_M_matrix 137 = .ok (.iadd, 1) := by decide +kernel
theorem d_M_matrix_138 : decode b_M_matrix 138 = .ok (.iconst (-1), 1) := by decide +kernel
theorem d_M_matrix_139 : decode b_M_matrix 139 = .ok (.iload 4, 2) := by decide +kernel
theorem d_M_matrix_141 : decode b_M_matrix 141 = .ok (.invokevirtual 130, 3) := by decide +kernel
theorem d_M_matrix_144 : decode b_M_matrix 144 = .ok (.aload_n 0, 1) := by decide +kernel
theorem d_M_matrix_145 : decode b_M_matrix 145 = .ok (.bipush 96, 2) := by decide +kernel
theorem d_M_matrix_147 : decode b_M_matrix 147 = .ok (.iconst 2, 1) := by decide +kernel
theorem d_M_matrix_148 : decode b_M_matrix 148 = .ok (.iload 5, 2) := by decide +kernel
theorem d_M_matrix_150 : decode b_M_matrix 150 = .ok (.imul, 1) := by decide +kernel
theorem d_M_matrix_151 : decode b_M_matrix 151 = .ok (.iadd, 1) := by decide +kernel
theorem d_M_matrix_152 : decode b_M_matrix 152 = .ok (.iconst 1, 1) := by decide +kernel
theorem d_M_matrix_153 : decode b_M_matrix 153 = .ok (.iadd, 1) := by decide +kernel
theorem d_M_matrix_154 : decode b_M_matrix 154 = .ok (.bipush 107, 2) := by decide +kernel
theorem d_M_matrix_156 : decode b_M_matrix 156 = .ok (.iconst 2, 1) := by decide +kernel
theorem d_M_matrix_157 : decode b_M_matrix 157 = .ok (.iload 5, 2) := by decide +kernel
theorem d_M_matrix_159 : decode b_M_matrix 159 = .ok (.imul, 1) := by decide +kernel
theorem d_M_matrix_160 : decode b_M_matrix 160 = .ok (.iadd, 1) := by decide +kernel
theorem d_M_matrix_161 : decode b_M_matrix 161 = .ok (.iload_n 2, 1) := by decide +kernel
theorem d_M_matrix_162 : decode b_M_matrix 162 = .ok (.iconst 2, 1) := by decide +kernel
theorem d_M_matrix_163 : decode b_M_matrix 163 = .ok (.iadd, 1) := by decide +kernel
theorem d_M_matrix_164 : decode b_M_matrix 164 = .ok (.bipush 106, 2) := by decide +kernel
theorem d_M_matrix_166 : decode b_M_matrix 166 = .ok (.iconst 2, 1) := by decide +kernel
theorem d_M_matrix_167 : decode b_M_matrix 167 = .ok (.iload 5, 2) := by decide +kernel
theorem d_M_matrix_169 : decode b_M_matrix 169 = .ok (.imul, 1) := by decide +kernel
theorem d_M_matrix_170 : decode b_M_matrix 170 = .ok (.iadd, 1) := by decide +kernel
theorem d_M_matrix_171 : decode b_M_matrix 171 = .ok (.iload_n 2, 1) := by decide +kernel
theorem d_M_matrix_172 : decode b_M_matrix 172 = .ok (.iconst 3, 1) := by decide +kernel
theorem d_M_matrix_173 : decode b_M_matrix 173 = .ok (.iadd, 1) := by decide +kernel
theorem d_M_matrix_174 : decode b_M_matrix 174 = .ok (.iconst (-1), 1) := by decide +kernel
theorem d_M_matrix_175 : decode b_M_matrix 175 = .ok (.iload 4, 2) := by decide +kernel
theorem d_M_matrix_177 : decode b_M_matrix 177 = .ok (.invokevirtual 130, 3) := by decide +kernel
theorem d_M_matrix_180 : decode b_M_matrix 180 = .ok (.iinc 5 1, 3) := by decide +kernel
theorem d_M_matrix_183 : decode b_M_matrix 183 = .ok (.goto (-79), 3) := by decide +kernel
theorem d_M_matrix_186 : decode b_M_matrix 186 = .ok (.aload_n 0, 1) := by decide +kernel
theorem d_M_matrix_187 : decode b_M_matrix 187 = .ok (.bipush 100, 2) := by decide +kernel
theorem d_M_matrix_189 : decode b_M_matrix 189 = .ok (.iload_n 2, 1) := by decide +kernel
theorem d_M_matrix_190 : decode b_M_matrix 190 = .ok (.iconst 2, 1) := by decide +kernel
theorem d_M_matrix_191 : decode b_M_matrix 191 = .ok (.iadd, 1) := by decide +kernel
theorem d_M_matrix_192 : decode b_M_matrix 192 = .ok (.iload_n 2, 1) := by decide +kernel
theorem d_M_matrix_193 : decode b_M_matrix 193 = .ok (.iconst 4, 1) := by decide +kernel
theorem d_M_matrix_194 : decode b_M_matrix 194 = .ok (.iadd, 1) := by decide +kernel
theorem d_M_matrix_195 : decode b_M_matrix 195 = .ok (.iload_n 2, 1) := by decide +kernel
theorem d_M_matrix_196 : decode b_M_matrix 196 = .ok (.iconst 3, 1) := by decide +kernel
theorem d_M_matrix_197 : decode b_M_matrix 197 = .ok (.iadd, 1) := by decide +kernel
theorem d_M_matrix_198 : decode b_M_matrix 198 = .ok (.iload_n 2, 1) := by decide +kernel
theorem d_M_matrix_199 : decode b_M_matrix 199 = .ok (.iconst 3, 1) := by decide +kernel
theorem d_M_matrix_200 : decode b_M_matrix 200 = .ok (.iadd, 1) := by decide +kernel
theorem d_M_matrix_201 : decode b_M_matrix 201 = .ok (.iconst (-1), 1) := by decide +kernel
theorem d_M_matrix_202 : decode b_M_matrix 202 = .ok (.iload 4, 2) := by decide +kernel
theorem d_M_matrix_204 : decode b_M_matrix 204 = .ok (.invokevirtual 130, 3) := by decide +kernel
end
section
theorem d_M_matrix_207 : decode b_M_matrix 207 = .ok (.aload_n 0, 1) := by decide +kernel
theorem d_M_matrix_208 : decode b_M_matrix 208 = .ok (.bipush 96, 2) := by decide +kernel
theorem d_M_matrix_210 : decode b_M_matrix 210 = .ok (.iconst 5, 1) := by decide +kernel
theorem d_M_matrix_211 : decode b_M_matrix 211 = .ok (.invokevirtual 123, 3) := by decide +kernel
theorem d_M_matrix_214 : decode b_M_matrix 214 = .ok (.return_, 1) := by decide +kernel
theorem d_M_smoothAt_0 : decode b_M_smoothAt 0 = .ok (.bipush 24, 2) := by decide +kernel
theorem d_M_smoothAt_2 : decode b_M_smoothAt 2 = .ok (.bipush 6, 2) := by decide +kernel
theorem d_M_smoothAt_4 : decode b_M_smoothAt 4 = .ok (.iload_n 1, 1) := by decide +kernel
theorem d_M_smoothAt_5 : decode b_M_smoothAt 5 = .ok (.imul, 1) := by decide +kernel
theorem d_M_smoothAt_6 : decode b_M_smoothAt 6 = .ok (.iadd, 1) := by decide +kernel
theorem d_M_smoothAt_7 : decode b_M_smoothAt 7 = .ok (.istore_n 2, 1) := by decide +kernel
theorem d_M_smoothAt_8 : decode b_M_smoothAt 8 = .ok (.iconst 0, 1) := by decide +kernel
theorem d_M_smoothAt_9 : decode b_M_smoothAt 9 = .ok (.bipush 6, 2) := by decide +kernel
theorem d_M_smoothAt_11 : decode b_M_smoothAt 11 = .ok (.iload_n 1, 1) := by decide +kernel
theorem d_M_smoothAt_12 : decode b_M_smoothAt 12 = .ok (.imul, 1) := by decide +kernel
theorem d_M_smoothAt_13 : decode b_M_smoothAt 13 = .ok (.iadd, 1) := by decide +kernel
theorem d_M_smoothAt_14 : decode b_M_smoothAt 14 = .ok (.bipush 6, 2) := by decide +kernel
theorem d_M_smoothAt_16 : decode b_M_smoothAt 16 = .ok (.iadd, 1) := by decide +kernel
theorem d_M_smoothAt_17 : decode b_M_smoothAt 17 = .ok (.istore_n 3, 1) := by decide +kernel
theorem d_M_smoothAt_18 : decode b_M_smoothAt 18 = .ok (.bipush 48, 2) := by decide +kernel
theorem d_M_smoothAt_20 : decode b_M_smoothAt 20 = .ok (.bipush 6, 2) := by decide +kernel
theorem d_M_smoothAt_22 : decode b_M_smoothAt 22 = .ok (.iload_n 1, 1) := by decide +kernel
theorem d_M_smoothAt_23 : decode b_M_smoothAt 23 = .ok (.imul, 1) := by decide +kernel
theorem d_M_smoothAt_24 : decode b_M_smoothAt 24 = .ok (.iadd, 1) := by decide +kernel
theorem d_M_smoothAt_25 : decode b_M_smoothAt 25 = .ok (.bipush 6, 2) := by decide +kernel
theorem d_M_smoothAt_27 : decode b_M_smoothAt 27 = .ok (.iadd, 1) := by decide +kernel
theorem d_M_smoothAt_28 : decode b_M_smoothAt 28 = .ok (.istore 4, 2) := by decide +kernel
theorem d_M_smoothAt_30 : decode b_M_smoothAt 30 = .ok (.bipush 48, 2) := by decide +kernel
theorem d_M_smoothAt_32 : decode b_M_smoothAt 32 = .ok (.bipush 6, 2) := by decide +kernel
theorem d_M_smoothAt_34 : decode b_M_smoothAt 34 = .ok (.iload_n 1, 1) := by decide +kernel
theorem d_M_smoothAt_35 : decode b_M_smoothAt 35 = .ok (.imul, 1) := by decide +kernel
theorem d_M_smoothAt_36 : decode b_M_smoothAt 36 = .ok (.iadd, 1) := by decide +kernel
theorem d_M_smoothAt_37 : decode b_M_smoothAt 37 = .ok (.istore 5, 2) := by decide +kernel
theorem d_M_smoothAt_39 : decode b_M_smoothAt 39 = .ok (.bipush 110, 2) := by decide +kernel
theorem d_M_smoothAt_41 : decode b_M_smoothAt 41 = .ok (.istore 6, 2) := by decide +kernel
theorem d_M_smoothAt_43 : decode b_M_smoothAt 43 = .ok (.aload_n 0, 1) := by decide +kernel
theorem d_M_smoothAt_44 : decode b_M_smoothAt 44 = .ok (.iload_n 2, 1) := by decide +kernel
theorem d_M_smoothAt_45 : decode b_M_smoothAt 45 = .ok (.iload_n 3, 1) := by decide +kernel
theorem d_M_smoothAt_46 : decode b_M_smoothAt 46 = .ok (.iconst 4, 1) := by decide +kernel
theorem d_M_smoothAt_47 : decode b_M_smoothAt 47 = .ok (.iload_n 1, 1) := by decide +kernel
theorem d_M_smoothAt_48 : decode b_M_smoothAt 48 = .ok (.imul, 1) := by decide +kernel
theorem d_M_smoothAt_49 : decode b_M_smoothAt 49 = .ok (.invokevirtual 134, 3) := by decide +kernel
theorem d_M_smoothAt_52 : decode b_M_smoothAt 52 = .ok (.iconst 0, 1) := by decide +kernel
theorem d_M_smoothAt_53 : decode b_M_smoothAt 53 = .ok (.istore 7, 2) := by decide +kernel
theorem d_M_smoothAt_55 : decode b_M_smoothAt 55 = .ok (.iload 7, 2) := by decide +kernel
theorem d_M_smoothAt_57 : decode b_M_smoothAt 57 = .ok (.iconst 5, 1) := by decide +kernel
theorem d_M_smoothAt_58 : decode b_M_smoothAt 58 = .ok (.if_icmp .ge 37, 3) := by decide +kernel
theorem d_M_smoothAt_61 : decode b_M_smoothAt 61 = .ok (.aload_n 0, 1) := by decide +kernel
theorem d_M_smoothAt_62 : decode b_M_smoothAt 62 = .ok (.bipush 101, 2) := by decide +kernel
theorem d_M_smoothAt_64 : decode b_M_smoothAt 64 = .ok (.iload 7, 2) := by decide +kernel
theorem d_M_smoothAt_66 : decode b_M_smoothAt 66 = .ok (.iadd, 1) := by decide +kernel
theorem d_M_smoothAt_67 : decode b_M_smoothAt 67 = .ok (.iload 4, 2) := by decide +kernel
theorem d_M_smoothAt_69 : decode b_M_smoothAt 69 = .ok (.iload 7, 2) := by decide +kernel
theorem d_M_smoothAt_71 : decode b_M_smoothAt 71 = .ok (.iadd, 1) := by decide +kernel
theorem d_M_smoothAt_72 : decode b_M_smoothAt 72 = .ok (.iload_n 3, 1) := by decide +kernel
theorem d_M_smoothAt_73 : decode b_M_smoothAt 73 = .ok (.iconst 5, 1) := by decide +kernel
theorem d_M_smoothAt_74 : decode b_M_smoothAt 74 = .ok (.iadd, 1) := by decide +kernel
theorem d_M_smoothAt_75 : decode b_M_smoothAt 75 = .ok (.iload_n 3, 1) := by decide +kernel
theorem d_M_smoothAt_76 : decode b_M_smoothAt 76 = .ok (.iload 7, 2) := by decide +kernel
theorem d_M_smoothAt_78 : decode b_M_smoothAt 78 = .ok (.iadd, 1) := by decide +kernel
theorem d_M_smoothAt_79 : decode b_M_smoothAt 79 = .ok (.iload 4, 2) := by decide +kernel
theorem d_M_smoothAt_81 : decode b_M_smoothAt 81 = .ok (.iconst 5, 1) := by decide +kernel
theorem d_M_smoothAt_82 : decode b_M_smoothAt 82 = .ok (.iadd, 1) := by decide +kernel
theorem d_M_smoothAt_83 : decode b_M_smoothAt 83 = .ok (.iconst (-1), 1) := by decide +kernel
theorem d_M_smoothAt_84 : decode b_M_smoothAt 84 = .ok (.iload 6, 2) := by decide +kernel
theorem d_M_smoothAt_86 : decode b_M_smoothAt 86 = .ok (.invokevirtual 130, 3) := by decide +kernel
theorem d_M_smoothAt_89 : decode b_M_smoothAt 89 = .ok (.iinc 7 1, 3) := by decide +kernel
theorem d_M_smoothAt_92 : decode b_M_smoothAt 92 = .ok (.goto (-37), 3) := by decide +kernel
theorem d_M_smoothAt_95 : decode b_M_smoothAt 95 = .ok (.iconst 0, 1) := by decide +kernel
theorem d_M_smoothAt_96 : decode b_M_smoothAt 96 = .ok (.istore 7, 2) := by decide +kernel
theorem d_M_smoothAt_98 : decode b_M_smoothAt 98 = .ok (.iload 7, 2) := by decide +kernel
theorem d_M_smoothAt_100 : decode b_M_smoothAt 100 = .ok (.iconst 2, 1) := by decide +kernel
theorem d_M_smoothAt_101 : decode b_M_smoothAt 101 = .ok (.if_icmp .ge 77, 3) := by decide +kernel
theorem d_M_smoothAt_104 : decode b_M_smoothAt 104 = .ok (.aload_n 0, 1) := by decide +kernel
theorem d_M_smoothAt_105 : decode b_M_smoothAt 105 = .ok (.bipush 106, 2) := by decide +kernel
theorem d_M_smoothAt_107 : decode b_M_smoothAt 107 = .ok (.iconst 2, 1) := by decide +kernel
theorem d_M_smoothAt_108 : decode b_M_smoothAt 108 = .ok (.iload 7, 2) := by decide +kernel
theorem d_M_smoothAt_110 : decode b_M_smoothAt 110 = .ok (.imul, 1) := by decide +kernel
theorem d_M_smoothAt_111 : decode b_M_smoothAt 111 = .ok (.iadd, 1) := by decide +kernel
theorem d_M_smoothAt_112 : decode b_M_smoothAt 112 = .ok (.bipush 96, 2) := by decide +kernel
theorem d_M_smoothAt_114 : decode b_M_smoothAt 114 = .ok (.iconst 2, 1) := by decide +kernel
theorem d_M_smoothAt_115 : decode b_M_smoothAt 115 = .ok (.iload 7, 2) := by decide +kernel
theorem d_M_smoothAt_117 : decode b_M_smoothAt 117 = .ok (.imul, 1) := by decide +kernel
theorem d_M_smoothAt_118 : decode b_M_smoothAt 118 = .ok (.iadd, 1) := by decide +kernel
theorem d_M_smoothAt_119 : decode b_M_smoothAt 119 = .ok (.bipush 103, 2) := by decide +kernel
theorem d_M_smoothAt_121 : decode b_M_smoothAt 121 = .ok (.bipush 96, 2) := by decide +kernel
theorem d_M_smoothAt_123 : decode b_M_smoothAt 123 = .ok (.iconst 2, 1) := by decide +kernel
theorem d_M_smoothAt_124 : decode b_M_smoothAt 124 = .ok (.iload 7, 2) := by decide +kernel
theorem d_M_smoothAt_126 : decode b_M_smoothAt 126 = .ok (.imul, 1) := by decide +kernel
theorem d_M_smoothAt_127 : decode b_M_smoothAt 127 = .ok (.iadd, 1) := by decide +kernel
theorem d_M_smoothAt_128 : decode b_M_smoothAt 128 = .ok (.iconst 1, 1) := by decide +kernel
theorem d_M_smoothAt_129 : decode b_M_smoothAt 129 = .ok (.iadd, 1) := by decide +kernel
theorem d_M_smoothAt_130 : decode b_M_smoothAt 130 = .ok (.bipush 104, 2) := by decide +kernel
theorem d_M_smoothAt_132 : decode b_M_smoothAt 132 = .ok (.iconst 1, 1) := by decide +kernel
theorem d_M_smoothAt_133 : decode b_M_smoothAt 133 = .ok (.iload 6, 2) := by decide +kernel
theorem d_M_smoothAt_135 : decode b_M_smoothAt 135 = .ok (.invokevirtual 130, 3) := by decide +kernel
theorem d_M_smoothAt_138 : decode b_M_smoothAt 138 = .ok (.aload_n 0, 1) := by decide +kernel
theorem d_M_smoothAt_139 : decode b_M_smoothAt 139 = .ok (.bipush 107, 2) := by decide +kernel
theorem d_M_smoothAt_141 : decode b_M_smoothAt 141 = .ok (.iconst 2, 1) := by decide +kernel
theorem d_M_smoothAt_142 : decode b_M_smoothAt 142 = .ok (.iload 7, 2) := by decide +kernel
theorem d_M_smoothAt_144 : decode b_M_smoothAt 144 = .ok (.imul, 1) := by decide +kernel
theorem d_M_smoothAt_145 : decode b_M_smoothAt 145 = .ok (.iadd, 1) := by decide +kernel
theorem d_M_smoothAt_146 : decode b_M_smoothAt 146 = .ok (.bipush 96, 2) := by decide +kernel
theorem d_M_smoothAt_148 : decode b_M_smoothAt 148 = .ok (.iconst 2, 1) := by decide +kernel
theorem d_M_smoothAt_149 : decode b_M_smoothAt 149 = .ok (.iload 7, 2) := by decide +kernel
theorem d_M_smoothAt_151 : decode b_M_smoothAt 151 = .ok (.imul, 1) := by decide +kernel
theorem d_M_smoothAt_152 : decode b_M_smoothAt 152 = .ok (.iadd, 1) := by decide +kernel
theorem d_M_smoothAt_153 : decode b_M_smoothAt 153 = .ok (.bipush 104, 2) := by decide +kernel
theorem d_M_smoothAt_155 : decode b_M_smoothAt 155 = .ok (.bipush 96, 2) := by decide +kernel
theorem d_M_smoothAt_157 : decode b_M_smoothAt 157 = .ok (.iconst 2, 1) := by decide +kernel
theorem d_M_smoothAt_158 : decode b_M_smoothAt 158 = .ok (.iload 7, 2) := by decide +kernel
theorem d_M_smoothAt_160 : decode b_M_smoothAt 160 = .ok (.imul, 1) := by decide +kernel
theorem d_M_smoothAt_161 : decode b_M_smoothAt 161 = .ok (.iadd, 1) := by decide +kernel
theorem d_M_smoothAt_162 : decode b_M_smoothAt 162 = .ok (.iconst 1, 1) := by decide +kernel
theorem d_M_smoothAt_163 : decode b_M_smoothAt 163 = .ok (.iadd, 1) := by decide +kernel
theorem d_M_smoothAt_164 : decode b_M_smoothAt 164 = .ok (.bipush 105, 2) := by decide +kernel
theorem d_M_smoothAt_166 : decode b_M_smoothAt 166 = .ok (.iconst 1, 1) := by decide +kernel
theorem d_M_smoothAt_167 : decode b_M_smoothAt 167 = .ok (.iload 6, 2) := by decide +kernel
theorem d_M_smoothAt_169 : decode b_M_smoothAt 169 = .ok (.invokevirtual 130, 3) := by decide +kernel
theorem d_M_smoothAt_172 : decode b_M_smoothAt 172 = .ok (.iinc 7 1, 3) := by decide +kernel
theorem d_M_smoothAt_175 : decode b_M_smoothAt 175 = .ok (.goto (-77), 3) := by decide +kernel
theorem d_M_smoothAt_178 : decode b_M_smoothAt 178 = .ok (.bipush 100, 2) := by decide +kernel
theorem d_M_smoothAt_180 : decode b_M_smoothAt 180 = .ok (.istore 7, 2) := by decide +kernel
theorem d_M_smoothAt_182 : decode b_M_smoothAt 182 = .ok (.bipush 111, 2) := by decide +kernel
theorem d_M_smoothAt_184 : decode b_M_smoothAt 184 = .ok (.istore 8, 2) := by decide +kernel
theorem d_M_smoothAt_186 : decode b_M_smoothAt 186 = .ok (.aload_n 0, 1) := by decide +kernel
theorem d_M_smoothAt_187 : decode b_M_smoothAt 187 = .ok (.iload 8, 2) := by decide +kernel
theorem d_M_smoothAt_189 : decode b_M_smoothAt 189 = .ok (.iload 7, 2) := by decide +kernel
theorem d_M_smoothAt_191 : decode b_M_smoothAt 191 = .ok (.iload 7, 2) := by decide +kernel
theorem d_M_smoothAt_193 : decode b_M_smoothAt 193 = .ok (.invokevirtual 59, 3) := by decide +kernel
theorem d_M_smoothAt_196 : decode b_M_smoothAt 196 = .ok (.aload_n 0, 1) := by decide +kernel
theorem d_M_smoothAt_197 : decode b_M_smoothAt 197 = .ok (.iload 8, 2) := by decide +kernel
theorem d_M_smoothAt_199 : decode b_M_smoothAt 199 = .ok (.iload 8, 2) := by decide +kernel
theorem d_M_smoothAt_201 : decode b_M_smoothAt 201 = .ok (.iload 4, 2) := by decide +kernel
theorem d_M_smoothAt_203 : decode b_M_smoothAt 203 = .ok (.iconst 5, 1) := by decide +kernel
theorem d_M_smoothAt_204 : decode b_M_smoothAt 204 = .ok (.iadd, 1) := by decide +kernel
theorem d_M_smoothAt_205 : decode b_M_smoothAt 205 = .ok (.invokevirtual 59, 3) := by decide +kernel
theorem d_M_smoothAt_208 : decode b_M_smoothAt 208 = .ok (.iconst 0, 1) := by decide +kernel
theorem d_M_smoothAt_209 : decode b_M_smoothAt 209 = .ok (.istore 9, 2) := by decide +kernel
theorem d_M_smoothAt_211 : decode b_M_smoothAt 211 = .ok (.iload 9, 2) := by decide +kernel
theorem d_M_smoothAt_213 : decode b_M_smoothAt 213 = .ok (.iconst 2, 1) := by decide +kernel
theorem d_M_smoothAt_214 : decode b_M_smoothAt 214 = .ok (.if_icmp .ge 75, 3) := by decide +kernel
theorem d_M_smoothAt_217 : decode b_M_smoothAt 217 = .ok (.aload_n 0, 1) := by decide +kernel
theorem d_M_smoothAt_218 : decode b_M_smoothAt 218 = .ok (.iload 5, 2) := by decide +kernel
theorem d_M_smoothAt_220 : decode b_M_smoothAt 220 = .ok (.iload 9, 2) := by decide +kernel
theorem d_M_smoothAt_222 : decode b_M_smoothAt 222 = .ok (.iadd, 1) := by decide +kernel
theorem d_M_smoothAt_223 : decode b_M_smoothAt 223 = .ok (.bipush 96, 2) := by decide +kernel
theorem d_M_smoothAt_225 : decode b_M_smoothAt 225 = .ok (.iconst 2, 1) := by decide +kernel
theorem d_M_smoothAt_226 : decode b_M_smoothAt 226 = .ok (.iload 9, 2) := by decide +kernel
theorem d_M_smoothAt_228 : decode b_M_smoothAt 228 = .ok (.imul, 1) := by decide +kernel
theorem d_M_smoothAt_229 : decode b_M_smoothAt 229 = .ok (.iadd, 1) := by decide +kernel
theorem d_M_smoothAt_230 : decode b_M_smoothAt 230 = .ok (.bipush 101, 2) := by decide +kernel
theorem d_M_smoothAt_232 : decode b_M_smoothAt 232 = .ok (.bipush 96, 2) := by decide +kernel
theorem d_M_smoothAt_234 : decode b_M_smoothAt 234 = .ok (.iconst 2, 1) := by decide +kernel
theorem d_M_smoothAt_235 : decode b_M_smoothAt 235 = .ok (.iload 9, 2) := by decide +kernel
theorem d_M_smoothAt_237 : decode b_M_smoothAt 237 = .ok (.imul, 1) := by decide +kernel
theorem d_M_smoothAt_238 : decode b_M_smoothAt 238 = .ok (.iadd, 1) := by decide +kernel
theorem d_M_smoothAt_239 : decode b_M_smoothAt 239 = .ok (.iconst 1, 1) := by decide +kernel
theorem d_M_smoothAt_240 : decode b_M_smoothAt 240 = .ok (.iadd, 1) := by decide +kernel
theorem d_M_smoothAt_241 : decode b_M_smoothAt 241 = .ok (.bipush 102, 2) := by decide +kernel
theorem d_M_smoothAt_243 : decode b_M_smoothAt 243 = .ok (.iconst 1, 1) := by decide +kernel
theorem d_M_smoothAt_244 : decode b_M_smoothAt 244 = .ok (.iload 6, 2) := by decide +kernel
theorem d_M_smoothAt_246 : decode b_M_smoothAt 246 = .ok (.invokevirtual 130, 3) := by decide +kernel
theorem d_M_smoothAt_249 : decode b_M_smoothAt 249 = .ok (.aload_n 0, 1) := by decide +kernel
theorem d_M_smoothAt_250 : decode b_M_smoothAt 250 = .ok (.iload 5, 2) := by decide +kernel
theorem d_M_smoothAt_252 : decode b_M_smoothAt 252 = .ok (.iload 9, 2) := by decide +kernel
theorem d_M_smoothAt_254 : decode b_M_smoothAt 254 = .ok (.iadd, 1) := by decide +kernel
theorem d_M_smoothAt_255 : decode b_M_smoothAt 255 = .ok (.iload 5, 2) := by decide +kernel
theorem d_M_smoothAt_257 : decode b_M_smoothAt 257 = .ok (.iload 9, 2) := by decide +kernel
theorem d_M_smoothAt_259 : decode b_M_smoothAt 259 = .ok (.iadd, 1) := by decide +kernel
theorem d_M_smoothAt_260 : decode b_M_smoothAt 260 = .ok (.iload 7, 2) := by decide +kernel
theorem d_M_smoothAt_262 : decode b_M_smoothAt 262 = .ok (.invokevirtual 59, 3) := by decide +kernel
theorem d_M_smoothAt_265 : decode b_M_smoothAt 265 = .ok (.aload_n 0, 1) := by decide +kernel
theorem d_M_smoothAt_266 : decode b_M_smoothAt 266 = .ok (.iload 5, 2) := by decide +kernel
theorem d_M_smoothAt_268 : decode b_M_smoothAt 268 = .ok (.iload 9, 2) := by decide +kernel
theorem d_M_smoothAt_270 : decode b_M_smoothAt 270 = .ok (.iadd, 1) := by decide +kernel
theorem d_M_smoothAt_271 : decode b_M_smoothAt 271 = .ok (.iload_n 2, 1) := by decide +kernel
theorem d_M_smoothAt_272 : decode b_M_smoothAt 272 = .ok (.iload 9, 2) := by decide +kernel
theorem d_M_smoothAt_274 : decode b_M_smoothAt 274 = .ok (.iadd, 1) := by decide +kernel
theorem d_M_smoothAt_275 : decode b_M_smoothAt 275 = .ok (.iload 8, 2) := by decide +kernel
theorem d_M_smoothAt_277 : decode b_M_smoothAt 277 = .ok (.iconst 1, 1) := by decide +kernel
theorem d_M_smoothAt_278 : decode b_M_smoothAt 278 = .ok (.iload 6, 2) := by decide +kernel
theorem d_M_smoothAt_280 : decode b_M_smoothAt 280 = .ok (.invokevirtual 120, 3) := by decide +kernel
theorem d_M_smoothAt_283 : decode b_M_smoothAt 283 = .ok (.iinc 9 1, 3) := by decide +kernel
theorem d_M_smoothAt_286 : decode b_M_smoothAt 286 = .ok (.goto (-75), 3) := by decide +kernel
theorem d_M_smoothAt_289 : decode b_M_smoothAt 289 = .ok (.aload_n 0, 1) := by decide +kernel
theorem d_M_smoothAt_290 : decode b_M_smoothAt 290 = .ok (.iload 5, 2) := by decide +kernel
theorem d_M_smoothAt_292 : decode b_M_smoothAt 292 = .ok (.iconst 2, 1) := by decide +kernel
theorem d_M_smoothAt_293 : decode b_M_smoothAt 293 = .ok (.iadd, 1) := by decide +kernel
theorem d_M_smoothAt_294 : decode b_M_smoothAt 294 = .ok (.bipush 106, 2) := by decide +kernel
theorem d_M_smoothAt_296 : decode b_M_smoothAt 296 = .ok (.bipush 96, 2) := by decide +kernel
theorem d_M_smoothAt_298 : decode b_M_smoothAt 298 = .ok (.bipush 107, 2) := by decide +kernel
theorem d_M_smoothAt_300 : decode b_M_smoothAt 300 = .ok (.bipush 97, 2) := by decide +kernel
theorem d_M_smoothAt_302 : decode b_M_smoothAt 302 = .ok (.iconst 1, 1) := by decide +kernel
theorem d_M_smoothAt_303 : decode b_M_smoothAt 303 = .ok (.iload 6, 2) := by decide +kernel
theorem d_M_smoothAt_305 : decode b_M_smoothAt 305 = .ok (.invokevirtual 130, 3) := by decide +kernel
theorem d_M_smoothAt_308 : decode b_M_smoothAt 308 = .ok (.aload_n 0, 1) := by decide +kernel
theorem d_M_smoothAt_309 : decode b_M_smoothAt 309 = .ok (.iload 5, 2) := by decide +kernel
theorem d_M_smoothAt_311 : decode b_M_smoothAt 311 = .ok (.iconst 3, 1) := by decide +kernel
theorem d_M_smoothAt_312 : decode b_M_smoothAt 312 = .ok (.iadd, 1) := by decide +kernel
theorem d_M_smoothAt_313 : decode b_M_smoothAt 313 = .ok (.bipush 106, 2) := by decide +kernel
theorem d_M_smoothAt_315 : decode b_M_smoothAt 315 = .ok (.bipush 98, 2) := by decide +kernel
theorem d_M_smoothAt_317 : decode b_M_smoothAt 317 = .ok (.bipush 107, 2) := by decide +kernel
theorem d_M_smoothAt_319 : decode b_M_smoothAt 319 = .ok (.bipush 99, 2) := by decide +kernel
theorem d_M_smoothAt_321 : decode b_M_smoothAt 321 = .ok (.iconst 1, 1) := by decide +kernel
theorem d_M_smoothAt_322 : decode b_M_smoothAt 322 = .ok (.iload 6, 2) := by decide +kernel
theorem d_M_smoothAt_324 : decode b_M_smoothAt 324 = .ok (.invokevirtual 130, 3) := by decide +kernel
theorem d_M_smoothAt_327 : decode b_M_smoothAt 327 = .ok (.aload_n 0, 1) := by decide +kernel
theorem d_M_smoothAt_328 : decode b_M_smoothAt 328 = .ok (.iload 5, 2) := by decide +kernel
theorem d_M_smoothAt_330 : decode b_M_smoothAt 330 = .ok (.iconst 4, 1) := by decide +kernel
theorem d_M_smoothAt_331 : decode b_M_smoothAt 331 = .ok (.iadd, 1) := by decide +kernel
theorem d_M_smoothAt_332 : decode b_M_smoothAt 332 = .ok (.bipush 108, 2) := by decide +kernel
theorem d_M_smoothAt_334 : decode b_M_smoothAt 334 = .ok (.bipush 98, 2) := by decide +kernel
theorem d_M_smoothAt_336 : decode b_M_smoothAt 336 = .ok (.bipush 109, 2) := by decide +kernel
theorem d_M_smoothAt_338 : decode b_M_smoothAt 338 = .ok (.bipush 99, 2) := by decide +kernel
theorem d_M_smoothAt_340 : decode b_M_smoothAt 340 = .ok (.iconst 1, 1) := by decide +kernel
theorem d_M_smoothAt_341 : decode b_M_smoothAt 341 = .ok (.iload 6, 2) := by decide +kernel
theorem d_M_smoothAt_343 : decode b_M_smoothAt 343 = .ok (.invokevirtual 130, 3) := by decide +kernel
theorem d_M_smoothAt_346 : decode b_M_smoothAt 346 = .ok (.iconst 2, 1) := by decide +kernel
theorem d_M_smoothAt_347 : decode b_M_smoothAt 347 = .ok (.istore 9, 2) := by decide +kernel
theorem d_M_smoothAt_349 : decode b_M_smoothAt 349 = .ok (.iload 9, 2) := by decide +kernel
theorem d_M_smoothAt_351 : decode b_M_smoothAt 351 = .ok (.iconst 5, 1) := by decide +kernel
theorem d_M_smoothAt_352 : decode b_M_smoothAt 352 = .ok (.if_icmp .ge 27, 3) := by decide +kernel
theorem d_M_smoothAt_355 : decode b_M_smoothAt 355 = .ok (.aload_n 0, 1) := by decide +kernel
theorem d_M_smoothAt_356 : decode b_M_smoothAt 356 = .ok (.iload 5, 2) := by decide +kernel
theorem d_M_smoothAt_358 : decode b_M_smoothAt 358 = .ok (.iload 9, 2) := by decide +kernel
theorem d_M_smoothAt_360 : decode b_M_smoothAt 360 = .ok (.iadd, 1) := by decide +kernel
theorem d_M_smoothAt_361 : decode b_M_smoothAt 361 = .ok (.iload_n 2, 1) := by decide +kernel
theorem d_M_smoothAt_362 : decode b_M_smoothAt 362 = .ok (.iload 9, 2) := by decide +kernel
theorem d_M_smoothAt_364 : decode b_M_smoothAt 364 = .ok (.iadd, 1) := by decide +kernel
theorem d_M_smoothAt_365 : decode b_M_smoothAt 365 = .ok (.iload 8, 2) := by decide +kernel
theorem d_M_smoothAt_367 : decode b_M_smoothAt 367 = .ok (.iconst 1, 1) := by decide +kernel
theorem d_M_smoothAt_368 : decode b_M_smoothAt 368 = .ok (.iload 6, 2) := by decide +kernel
theorem d_M_smoothAt_370 : decode b_M_smoothAt 370 = .ok (.invokevirtual 120, 3) := by decide +kernel
theorem d_M_smoothAt_373 : decode b_M_smoothAt 373 = .ok (.iinc 9 1, 3) := by decide +kernel
theorem d_M_smoothAt_376 : decode b_M_smoothAt 376 = .ok (.goto (-27), 3) := by decide +kernel
theorem d_M_smoothAt_379 : decode b_M_smoothAt 379 = .ok (.aload_n 0, 1) := by decide +kernel
theorem d_M_smoothAt_380 : decode b_M_smoothAt 380 = .ok (.iload 5, 2) := by decide +kernel
theorem d_M_smoothAt_382 : decode b_M_smoothAt 382 = .ok (.iconst 5, 1) := by decide +kernel
theorem d_M_smoothAt_383 : decode b_M_smoothAt 383 = .ok (.iadd, 1) := by decide +kernel
theorem d_M_smoothAt_384 : decode b_M_smoothAt 384 = .ok (.iload 8, 2) := by decide +kernel
theorem d_M_smoothAt_386 : decode b_M_smoothAt 386 = .ok (.iload_n 2, 1) := by decide +kernel
theorem d_M_smoothAt_387 : decode b_M_smoothAt 387 = .ok (.iconst 5, 1) := by decide +kernel
theorem d_M_smoothAt_388 : decode b_M_smoothAt 388 = .ok (.iadd, 1) := by decide +kernel
theorem d_M_smoothAt_389 : decode b_M_smoothAt 389 = .ok (.invokevirtual 59, 3) := by decide +kernel
theorem d_M_smoothAt_392 : decode b_M_smoothAt 392 = .ok (.aload_n 0, 1) := by decide +kernel
theorem d_M_smoothAt_393 : decode b_M_smoothAt 393 = .ok (.iload 5, 2) := by decide +kernel
theorem d_M_smoothAt_395 : decode b_M_smoothAt 395 = .ok (.bipush 6, 2) := by decide +kernel
theorem d_M_smoothAt_397 : decode b_M_smoothAt 397 = .ok (.invokevirtual 123, 3) := by decide +kernel
theorem d_M_smoothAt_400 : decode b_M_smoothAt 400 = .ok (.return_, 1) := by decide +kernel
theorem d_M_smoothAll_0 : decode b_M_smoothAll 0 = .ok (.aload_n 0, 1) := by decide +kernel
theorem d_M_smoothAll_1 : decode b_M_smoothAll 1 = .ok (.getfield 97, 3) := by decide +kernel
theorem d_M_smoothAll_4 : decode b_M_smoothAll 4 = .ok (.ifCond .ne 54, 3) := by decide +kernel
theorem d_M_smoothAll_7 : decode b_M_smoothAll 7 = .ok (.aload_n 0, 1) := by decide +kernel
theorem d_M_smoothAll_8 : decode b_M_smoothAll 8 = .ok (.bipush 48, 2) := by decide +kernel
theorem d_M_smoothAll_10 : decode b_M_smoothAll 10 = .ok (.bipush 6, 2) := by decide +kernel
theorem d_M_smoothAll_12 : decode b_M_smoothAll 12 = .ok (.aload_n 0, 1) := by decide +kernel
theorem d_M_smoothAll_13 : decode b_M_smoothAll 13 = .ok (.getfield 90, 3) := by decide +kernel
theorem d_M_smoothAll_16 : decode b_M_smoothAll 16 = .ok (.imul, 1) := by decide +kernel
theorem d_M_smoothAll_17 : decode b_M_smoothAll 17 = .ok (.iadd, 1) := by decide +kernel
theorem d_M_smoothAll_18 : decode b_M_smoothAll 18 = .ok (.bipush 24, 2) := by decide +kernel
theorem d_M_smoothAll_20 : decode b_M_smoothAll 20 = .ok (.bipush 6, 2) := by decide +kernel
theorem d_M_smoothAll_22 : decode b_M_smoothAll 22 = .ok (.aload_n 0, 1) := by decide +kernel
theorem d_M_smoothAll_23 : decode b_M_smoothAll 23 = .ok (.getfield 90, 3) := by decide +kernel
theorem d_M_smoothAll_26 : decode b_M_smoothAll 26 = .ok (.imul, 1) := by decide +kernel
theorem d_M_smoothAll_27 : decode b_M_smoothAll 27 = .ok (.iadd, 1) := by decide +kernel
theorem d_M_smoothAll_28 : decode b_M_smoothAll 28 = .ok (.invokevirtual 104, 3) := by decide +kernel
theorem d_M_smoothAll_31 : decode b_M_smoothAll 31 = .ok (.aload_n 0, 1) := by decide +kernel
theorem d_M_smoothAll_32 : decode b_M_smoothAll 32 = .ok (.getfield 90, 3) := by decide +kernel
theorem d_M_smoothAll_35 : decode b_M_smoothAll 35 = .ok (.iconst 1, 1) := by decide +kernel
theorem d_M_smoothAll_36 : decode b_M_smoothAll 36 = .ok (.isub, 1) := by decide +kernel
theorem d_M_smoothAll_37 : decode b_M_smoothAll 37 = .ok (.istore_n 1, 1) := by decide +kernel
theorem d_M_smoothAll_38 : decode b_M_smoothAll 38 = .ok (.iload_n 1, 1) := by decide +kernel
theorem d_M_smoothAll_39 : decode b_M_smoothAll 39 = .ok (.ifCond .lt 14, 3) := by decide +kernel
theorem d_M_smoothAll_42 : decode b_M_smoothAll 42 = .ok (.aload_n 0, 1) := by decide +kernel
theorem d_M_smoothAll_43 : decode b_M_smoothAll 43 = .ok (.iload_n 1, 1) := by decide +kernel
theorem d_M_smoothAll_44 : decode b_M_smoothAll 44 = .ok (.invokevirtual 137, 3) := by decide +kernel
theorem d_M_smoothAll_47 : decode b_M_smoothAll 47 = .ok (.iinc 1 (-1), 3) := by decide +kernel
theorem d_M_smoothAll_50 : decode b_M_smoothAll 50 = .ok (.goto (-12), 3) := by decide +kernel
theorem d_M_smoothAll_53 : decode b_M_smoothAll 53 = .ok (.aload_n 0, 1) := by decide +kernel
theorem d_M_smoothAll_54 : decode b_M_smoothAll 54 = .ok (.iconst 1, 1) := by decide +kernel
theorem d_M_smoothAll_55 : decode b_M_smoothAll 55 = .ok (.putfield 97, 3) := by decide +kernel
theorem d_M_smoothAll_58 : decode b_M_smoothAll 58 = .ok (.return_, 1) := by decide +kernel
theorem d_M_time_0 : decode b_M_time 0 = .ok (.aload_n 0, 1) := by decide +kernel
theorem d_M_time_1 : decode b_M_time 1 = .ok (.getfield 90, 3) := by decide +kernel
theorem d_M_time_4 : decode b_M_time 4 = .ok (.ireturn, 1) := by decide +kernel
theorem d_M_observations_0 : decode b_M_observations 0 = .ok (.aload_n 0, 1) := by decide +kernel
theorem d_M_observations_1 : decode b_M_observations 1 = .ok (.getfield 94, 3) := by decide +kernel
theorem d_M_observations_4 : decode b_M_observations 4 = .ok (.ireturn, 1) := by decide +kernel
theorem d_M_none_0 : decode b_M_none 0 = .ok (.iload_n 1, 1) := by decide +kernel
theorem d_M_none_1 : decode b_M_none 1 = .ok (.iconst 3, 1) := by decide +kernel
theorem d_M_none_2 : decode b_M_none 2 = .ok (.if_icmp .ne 30, 3) := by decide +kernel
theorem d_M_none_5 : decode b_M_none 5 = .ok (.iload_n 2, 1) := by decide +kernel
theorem d_M_none_6 : decode b_M_none 6 = .ok (.ifCond .lt 20, 3) := by decide +kernel
theorem d_M_none_9 : decode b_M_none 9 = .ok (.iload_n 2, 1) := by decide +kernel
theorem d_M_none_10 : decode b_M_none 10 = .ok (.aload_n 0, 1) := by decide +kernel
theorem d_M_none_11 : decode b_M_none 11 = .ok (.getfield 94, 3) := by decide +kernel
theorem d_M_none_14 : decode b_M_none 14 = .ok (.if_icmp .ge 12, 3) := by decide +kernel
theorem d_M_none_17 : decode b_M_none 17 = .ok (.iload_n 3, 1) := by decide +kernel
theorem d_M_none_18 : decode b_M_none 18 = .ok (.ifCond .lt 8, 3) := by decide +kernel
theorem d_M_none_21 : decode b_M_none 21 = .ok (.iload_n 3, 1) := by decide +kernel
theorem d_M_none_22 : decode b_M_none 22 = .ok (.iconst 1, 1) := by decide +kernel
theorem d_M_none_23 : decode b_M_none 23 = .ok (.if_icmp .le 7, 3) := by decide +kernel
theorem d_M_none_26 : decode b_M_none 26 = .ok (.iconst 1, 1) := by decide +kernel
theorem d_M_none_27 : decode b_M_none 27 = .ok (.goto 4, 3) := by decide +kernel
theorem d_M_none_30 : decode b_M_none 30 = .ok (.iconst 0, 1) := by decide +kernel
theorem d_M_none_31 : decode b_M_none 31 = .ok (.ireturn, 1) := by decide +kernel
theorem d_M_none_32 : decode b_M_none 32 = .ok (.iload_n 1, 1) := by decide +kernel
theorem d_M_none_33 : decode b_M_none 33 = .ok (.ifCond .lt 29, 3) := by decide +kernel
theorem d_M_none_36 : decode b_M_none 36 = .ok (.iload_n 1, 1) := by decide +kernel
theorem d_M_none_37 : decode b_M_none 37 = .ok (.iconst 2, 1) := by decide +kernel
theorem d_M_none_38 : decode b_M_none 38 = .ok (.if_icmp .gt 24, 3) := by decide +kernel
theorem d_M_none_41 : decode b_M_none 41 = .ok (.iload_n 2, 1) := by decide +kernel
theorem d_M_none_42 : decode b_M_none 42 = .ok (.ifCond .lt 20, 3) := by decide +kernel
theorem d_M_none_45 : decode b_M_none 45 = .ok (.iload_n 2, 1) := by decide +kernel
theorem d_M_none_46 : decode b_M_none 46 = .ok (.aload_n 0, 1) := by decide +kernel
theorem d_M_none_47 : decode b_M_none 47 = .ok (.getfield 90, 3) := by decide +kernel
theorem d_M_none_50 : decode b_M_none 50 = .ok (.if_icmp .gt 12, 3) := by decide +kernel
theorem d_M_none_53 : decode b_M_none 53 = .ok (.iload_n 3, 1) := by decide +kernel
theorem d_M_none_54 : decode b_M_none 54 = .ok (.ifCond .lt 8, 3) := by decide +kernel
theorem d_M_none_57 : decode b_M_none 57 = .ok (.iload_n 3, 1) := by decide +kernel
theorem d_M_none_58 : decode b_M_none 58 = .ok (.iconst 4, 1) := by decide +kernel
theorem d_M_none_59 : decode b_M_none 59 = .ok (.if_icmp .le 7, 3) := by decide +kernel
theorem d_M_none_62 : decode b_M_none 62 = .ok (.iconst 1, 1) := by decide +kernel
theorem d_M_none_63 : decode b_M_none 63 = .ok (.goto 4, 3) := by decide +kernel
theorem d_M_none_66 : decode b_M_none 66 = .ok (.iconst 0, 1) := by decide +kernel
theorem d_M_none_67 : decode b_M_none 67 = .ok (.ireturn, 1) := by decide +kernel
theorem d_M_upper_0 : decode b_M_upper 0 = .ok (.iload_n 1, 1) := by decide +kernel
theorem d_M_upper_1 : decode b_M_upper 1 = .ok (.iconst 2, 1) := by decide +kernel
theorem d_M_upper_2 : decode b_M_upper 2 = .ok (.if_icmp .ne 7, 3) := by decide +kernel
theorem d_M_upper_5 : decode b_M_upper 5 = .ok (.aload_n 0, 1) := by decide +kernel
theorem d_M_upper_6 : decode b_M_upper 6 = .ok (.invokevirtual 141, 3) := by decide +kernel
theorem d_M_upper_9 : decode b_M_upper 9 = .ok (.iload_n 1, 1) := by decide +kernel
theorem d_M_upper_10 : decode b_M_upper 10 = .ok (.iconst 3, 1) := by decide +kernel
theorem d_M_upper_11 : decode b_M_upper 11 = .ok (.if_icmp .ne 16, 3) := by decide +kernel
theorem d_M_upper_14 : decode b_M_upper 14 = .ok (.bipush 72, 2) := by decide +kernel
theorem d_M_upper_16 : decode b_M_upper 16 = .ok (.iconst 4, 1) := by decide +kernel
theorem d_M_upper_17 : decode b_M_upper 17 = .ok (.iload_n 2, 1) := by decide +kernel
theorem d_M_upper_18 : decode b_M_upper 18 = .ok (.imul, 1) := by decide +kernel
theorem d_M_upper_19 : decode b_M_upper 19 = .ok (.iadd, 1) := by decide +kernel
theorem d_M_upper_20 : decode b_M_upper 20 = .ok (.iconst 2, 1) := by decide +kernel
theorem d_M_upper_21 : decode b_M_upper 21 = .ok (.iload_n 3, 1) := by decide +kernel
theorem d_M_upper_22 : decode b_M_upper 22 = .ok (.imul, 1) := by decide +kernel
theorem d_M_upper_23 : decode b_M_upper 23 = .ok (.iadd, 1) := by decide +kernel
theorem d_M_upper_24 : decode b_M_upper 24 = .ok (.goto 14, 3) := by decide +kernel
theorem d_M_upper_27 : decode b_M_upper 27 = .ok (.bipush 24, 2) := by decide +kernel
theorem d_M_upper_29 : decode b_M_upper 29 = .ok (.iload_n 1, 1) := by decide +kernel
theorem d_M_upper_30 : decode b_M_upper 30 = .ok (.imul, 1) := by decide +kernel
theorem d_M_upper_31 : decode b_M_upper 31 = .ok (.bipush 6, 2) := by decide +kernel
theorem d_M_upper_33 : decode b_M_upper 33 = .ok (.iload_n 2, 1) := by decide +kernel
theorem d_M_upper_34 : decode b_M_upper 34 = .ok (.imul, 1) := by decide +kernel
theorem d_M_upper_35 : decode b_M_upper 35 = .ok (.iadd, 1) := by decide +kernel
theorem d_M_upper_36 : decode b_M_upper 36 = .ok (.iload_n 3, 1) := by decide +kernel
theorem d_M_upper_37 : decode b_M_upper 37 = .ok (.iadd, 1) := by decide +kernel
theorem d_M_upper_38 : decode b_M_upper 38 = .ok (.ireturn, 1) := by decide +kernel
theorem d_M_lowerOf_0 : decode b_M_lowerOf 0 = .ok (.iload_n 1, 1) := by decide +kernel
theorem d_M_lowerOf_1 : decode b_M_lowerOf 1 = .ok (.iconst 3, 1) := by decide +kernel
theorem d_M_lowerOf_2 : decode b_M_lowerOf 2 = .ok (.if_icmp .ne 18, 3) := by decide +kernel
theorem d_M_lowerOf_5 : decode b_M_lowerOf 5 = .ok (.bipush 72, 2) := by decide +kernel
theorem d_M_lowerOf_7 : decode b_M_lowerOf 7 = .ok (.iconst 4, 1) := by decide +kernel
theorem d_M_lowerOf_8 : decode b_M_lowerOf 8 = .ok (.iload_n 2, 1) := by decide +kernel
theorem d_M_lowerOf_9 : decode b_M_lowerOf 9 = .ok (.imul, 1) := by decide +kernel
theorem d_M_lowerOf_10 : decode b_M_lowerOf 10 = .ok (.iadd, 1) := by decide +kernel
theorem d_M_lowerOf_11 : decode b_M_lowerOf 11 = .ok (.iconst 2, 1) := by decide +kernel
theorem d_M_lowerOf_12 : decode b_M_lowerOf 12 = .ok (.iload_n 3, 1) := by decide +kernel
theorem d_M_lowerOf_13 : decode b_M_lowerOf 13 = .ok (.imul, 1) := by decide +kernel
theorem d_M_lowerOf_14 : decode b_M_lowerOf 14 = .ok (.iadd, 1) := by decide +kernel
theorem d_M_lowerOf_15 : decode b_M_lowerOf 15 = .ok (.iconst 1, 1) := by decide +kernel
theorem d_M_lowerOf_16 : decode b_M_lowerOf 16 = .ok (.iadd, 1) := by decide +kernel
theorem d_M_lowerOf_17 : decode b_M_lowerOf 17 = .ok (.goto 14, 3) := by decide +kernel
theorem d_M_lowerOf_20 : decode b_M_lowerOf 20 = .ok (.bipush 24, 2) := by decide +kernel
theorem d_M_lowerOf_22 : decode b_M_lowerOf 22 = .ok (.iload_n 1, 1) := by decide +kernel
theorem d_M_lowerOf_23 : decode b_M_lowerOf 23 = .ok (.imul, 1) := by decide +kernel
theorem d_M_lowerOf_24 : decode b_M_lowerOf 24 = .ok (.bipush 6, 2) := by decide +kernel
theorem d_M_lowerOf_26 : decode b_M_lowerOf 26 = .ok (.iload_n 2, 1) := by decide +kernel
theorem d_M_lowerOf_27 : decode b_M_lowerOf 27 = .ok (.imul, 1) := by decide +kernel
theorem d_M_lowerOf_28 : decode b_M_lowerOf 28 = .ok (.iadd, 1) := by decide +kernel
theorem d_M_lowerOf_29 : decode b_M_lowerOf 29 = .ok (.iconst 5, 1) := by decide +kernel
theorem d_M_lowerOf_30 : decode b_M_lowerOf 30 = .ok (.iadd, 1) := by decide +kernel
theorem d_M_lowerOf_31 : decode b_M_lowerOf 31 = .ok (.ireturn, 1) := by decide +kernel
theorem d_M_sign_0 : decode b_M_sign 0 = .ok (.aload_n 0, 1) := by decide +kernel
theorem d_M_sign_1 : decode b_M_sign 1 = .ok (.iload_n 1, 1) := by decide +kernel
theorem d_M_sign_2 : decode b_M_sign 2 = .ok (.iload_n 2, 1) := by decide +kernel
theorem d_M_sign_3 : decode b_M_sign 3 = .ok (.iload_n 3, 1) := by decide +kernel
theorem d_M_sign_4 : decode b_M_sign 4 = .ok (.invokevirtual 144, 3) := by decide +kernel
theorem d_M_sign_7 : decode b_M_sign 7 = .ok (.ifCond .eq 6, 3) := by decide +kernel
theorem d_M_sign_10 : decode b_M_sign 10 = .ok (.bipush (-2), 2) := by decide +kernel
theorem d_M_sign_12 : decode b_M_sign 12 = .ok (.ireturn, 1) := by decide +kernel
theorem d_M_sign_13 : decode b_M_sign 13 = .ok (.aload_n 0, 1) := by decide +kernel
theorem d_M_sign_14 : decode b_M_sign 14 = .ok (.getfield 16, 3) := by decide +kernel
theorem d_M_sign_17 : decode b_M_sign 17 = .ok (.aload_n 0, 1) := by decide +kernel
theorem d_M_sign_18 : decode b_M_sign 18 = .ok (.iload_n 1, 1) := by decide +kernel
theorem d_M_sign_19 : decode b_M_sign 19 = .ok (.iload_n 2, 1) := by decide +kernel
theorem d_M_sign_20 : decode b_M_sign 20 = .ok (.iload_n 3, 1) := by decide +kernel
theorem d_M_sign_21 : decode b_M_sign 21 = .ok (.invokevirtual 147, 3) := by decide +kernel
theorem d_M_sign_24 : decode b_M_sign 24 = .ok (.iaload, 1) := by decide +kernel
theorem d_M_sign_25 : decode b_M_sign 25 = .ok (.ireturn, 1) := by decide +kernel
theorem d_M_lowest_0 : decode b_M_lowest 0 = .ok (.aload_n 0, 1) := by decide +kernel
theorem d_M_lowest_1 : decode b_M_lowest 1 = .ok (.bipush 96, 2) := by decide +kernel
theorem d_M_lowest_3 : decode b_M_lowest 3 = .ok (.aload_n 0, 1) := by decide +kernel
theorem d_M_lowest_4 : decode b_M_lowest 4 = .ok (.iload_n 1, 1) := by decide +kernel
theorem d_M_lowest_5 : decode b_M_lowest 5 = .ok (.iload_n 2, 1) := by decide +kernel
theorem d_M_lowest_6 : decode b_M_lowest 6 = .ok (.iload_n 3, 1) := by decide +kernel
theorem d_M_lowest_7 : decode b_M_lowest 7 = .ok (.invokevirtual 147, 3) := by decide +kernel
theorem d_M_lowest_10 : decode b_M_lowest 10 = .ok (.invokevirtual 78, 3) := by decide +kernel
theorem d_M_lowest_13 : decode b_M_lowest 13 = .ok (.aload_n 0, 1) := by decide +kernel
theorem d_M_lowest_14 : decode b_M_lowest 14 = .ok (.bipush 97, 2) := by decide +kernel
theorem d_M_lowest_16 : decode b_M_lowest 16 = .ok (.aload_n 0, 1) := by decide +kernel
theorem d_M_lowest_17 : decode b_M_lowest 17 = .ok (.iload_n 1, 1) := by decide +kernel
theorem d_M_lowest_18 : decode b_M_lowest 18 = .ok (.iload_n 2, 1) := by decide +kernel
theorem d_M_lowest_19 : decode b_M_lowest 19 = .ok (.iload_n 3, 1) := by decide +kernel
theorem d_M_lowest_20 : decode b_M_lowest 20 = .ok (.invokevirtual 151, 3) := by decide +kernel
theorem d_M_lowest_23 : decode b_M_lowest 23 = .ok (.invokevirtual 78, 3) := by decide +kernel
theorem d_M_lowest_26 : decode b_M_lowest 26 = .ok (.aload_n 0, 1) := by decide +kernel
theorem d_M_lowest_27 : decode b_M_lowest 27 = .ok (.bipush 96, 2) := by decide +kernel
theorem d_M_lowest_29 : decode b_M_lowest 29 = .ok (.iconst 2, 1) := by decide +kernel
theorem d_M_lowest_30 : decode b_M_lowest 30 = .ok (.invokevirtual 123, 3) := by decide +kernel
theorem d_M_lowest_33 : decode b_M_lowest 33 = .ok (.iload 4, 2) := by decide +kernel
theorem d_M_lowest_35 : decode b_M_lowest 35 = .ok (.ifCond .eq 8, 3) := by decide +kernel
theorem d_M_lowest_38 : decode b_M_lowest 38 = .ok (.bipush 97, 2) := by decide +kernel
theorem d_M_lowest_40 : decode b_M_lowest 40 = .ok (.goto 5, 3) := by decide +kernel
theorem d_M_lowest_43 : decode b_M_lowest 43 = .ok (.bipush 96, 2) := by decide +kernel
theorem d_M_lowest_45 : decode b_M_lowest 45 = .ok (.ireturn, 1) := by decide +kernel
theorem d_M_bits_0 : decode b_M_bits 0 = .ok (.aload_n 0, 1) := by decide +kernel
theorem d_M_bits_1 : decode b_M_bits 1 = .ok (.iload_n 1, 1) := by decide +kernel
theorem d_M_bits_2 : decode b_M_bits 2 = .ok (.iload_n 2, 1) := by decide +kernel
theorem d_M_bits_3 : decode b_M_bits 3 = .ok (.iload_n 3, 1) := by decide +kernel
theorem d_M_bits_4 : decode b_M_bits 4 = .ok (.invokevirtual 144, 3) := by decide +kernel
theorem d_M_bits_7 : decode b_M_bits 7 = .ok (.ifCond .eq 6, 3) := by decide +kernel
theorem d_M_bits_10 : decode b_M_bits 10 = .ok (.bipush (-2), 2) := by decide +kernel
theorem d_M_bits_12 : decode b_M_bits 12 = .ok (.ireturn, 1) := by decide +kernel
theorem d_M_bits_13 : decode b_M_bits 13 = .ok (.aload_n 0, 1) := by decide +kernel
theorem d_M_bits_14 : decode b_M_bits 14 = .ok (.iload_n 1, 1) := by decide +kernel
theorem d_M_bits_15 : decode b_M_bits 15 = .ok (.iload_n 2, 1) := by decide +kernel
theorem d_M_bits_16 : decode b_M_bits 16 = .ok (.iload_n 3, 1) := by decide +kernel
theorem d_M_bits_17 : decode b_M_bits 17 = .ok (.iload 4, 2) := by decide +kernel
theorem d_M_bits_19 : decode b_M_bits 19 = .ok (.invokevirtual 154, 3) := by decide +kernel
theorem d_M_bits_22 : decode b_M_bits 22 = .ok (.istore 5, 2) := by decide +kernel
theorem d_M_bits_24 : decode b_M_bits 24 = .ok (.bipush 16, 2) := by decide +kernel
theorem d_M_bits_26 : decode b_M_bits 26 = .ok (.aload_n 0, 1) := by decide +kernel
theorem d_M_bits_27 : decode b_M_bits 27 = .ok (.getfield 13, 3) := by decide +kernel
theorem d_M_bits_30 : decode b_M_bits 30 = .ok (.iload 5, 2) := by decide +kernel
theorem d_M_bits_32 : decode b_M_bits 32 = .ok (.iaload, 1) := by decide +kernel
theorem d_M_bits_33 : decode b_M_bits 33 = .ok (.imul, 1) := by decide +kernel
theorem d_M_bits_34 : decode b_M_bits 34 = .ok (.istore 6, 2) := by decide +kernel
theorem d_M_bits_36 : decode b_M_bits 36 = .ok (.iload 6, 2) := by decide +kernel
theorem d_M_bits_38 : decode b_M_bits 38 = .ok (.ifCond .le 40, 3) := by decide +kernel
theorem d_M_bits_41 : decode b_M_bits 41 = .ok (.aload_n 0, 1) := by decide +kernel
theorem d_M_bits_42 : decode b_M_bits 42 = .ok (.getfield 7, 3) := by decide +kernel
theorem d_M_bits_45 : decode b_M_bits 45 = .ok (.bipush 110, 2) := by decide +kernel
theorem d_M_bits_47 : decode b_M_bits 47 = .ok (.iload 5, 2) := by decide +kernel
theorem d_M_bits_49 : decode b_M_bits 49 = .ok (.imul, 1) := by decide +kernel
theorem d_M_bits_50 : decode b_M_bits 50 = .ok (.iload 6, 2) := by decide +kernel
theorem d_M_bits_52 : decode b_M_bits 52 = .ok (.iconst 1, 1) := by decide +kernel
theorem d_M_bits_53 : decode b_M_bits 53 = .ok (.isub, 1) := by decide +kernel
theorem d_M_bits_54 : decode b_M_bits 54 = .ok (.bipush 16, 2) := by decide +kernel
theorem d_M_bits_56 : decode b_M_bits 56 = .ok (.idiv, 1) := by decide +kernel
theorem d_M_bits_57 : decode b_M_bits 57 = .ok (.iadd, 1) := by decide +kernel
theorem d_M_bits_58 : decode b_M_bits 58 = .ok (.iaload, 1) := by decide +kernel
theorem d_M_bits_59 : decode b_M_bits 59 = .ok (.iload 6, 2) := by decide +kernel
theorem d_M_bits_61 : decode b_M_bits 61 = .ok (.iconst 1, 1) := by decide +kernel
theorem d_M_bits_62 : decode b_M_bits 62 = .ok (.isub, 1) := by decide +kernel
theorem d_M_bits_63 : decode b_M_bits 63 = .ok (.bipush 16, 2) := by decide +kernel
theorem d_M_bits_65 : decode b_M_bits 65 = .ok (.irem, 1) := by decide +kernel
theorem d_M_bits_66 : decode b_M_bits 66 = .ok (.ishr, 1) := by decide +kernel
theorem d_M_bits_67 : decode b_M_bits 67 = .ok (.iconst 1, 1) := by decide +kernel
theorem d_M_bits_68 : decode b_M_bits 68 = .ok (.iand, 1) := by decide +kernel
theorem d_M_bits_69 : decode b_M_bits 69 = .ok (.ifCond .ne 9, 3) := by decide +kernel
theorem d_M_bits_72 : decode b_M_bits 72 = .ok (.iinc 6 (-1), 3) := by decide +kernel
theorem d_M_bits_75 : decode b_M_bits 75 = .ok (.goto (-39), 3) := by decide +kernel
theorem d_M_bits_78 : decode b_M_bits 78 = .ok (.iload 6, 2) := by decide +kernel
theorem d_M_bits_80 : decode b_M_bits 80 = .ok (.ireturn, 1) := by decide +kernel
theorem d_M_word_0 : decode b_M_word 0 = .ok (.aload_n 0, 1) := by decide +kernel
theorem d_M_word_1 : decode b_M_word 1 = .ok (.iload_n 1, 1) := by decide +kernel
theorem d_M_word_2 : decode b_M_word 2 = .ok (.iload_n 2, 1) := by decide +kernel
theorem d_M_word_3 : decode b_M_word 3 = .ok (.iload_n 3, 1) := by decide +kernel
theorem d_M_word_4 : decode b_M_word 4 = .ok (.invokevirtual 144, 3) := by decide +kernel
theorem d_M_word_7 : decode b_M_word 7 = .ok (.ifCond .eq 7, 3) := by decide +kernel
theorem d_M_word_10 : decode b_M_word 10 = .ok (.ldc2_w 158, 3) := by decide +kernel
theorem d_M_word_13 : decode b_M_word 13 = .ok (.lreturn, 1) := by decide +kernel
theorem d_M_word_14 : decode b_M_word 14 = .ok (.iload 5, 2) := by decide +kernel
theorem d_M_word_16 : decode b_M_word 16 = .ok (.ifCond .lt 10, 3) := by decide +kernel
theorem d_M_word_19 : decode b_M_word 19 = .ok (.iload 5, 2) := by decide +kernel
theorem d_M_word_21 : decode b_M_word 21 = .ok (.bipush 31, 2) := by decide +kernel
theorem d_M_word_23 : decode b_M_word 23 = .ok (.if_icmp .le 7, 3) := by decide +kernel
theorem d_M_word_26 : decode b_M_word 26 = .ok (.ldc2_w 160, 3) := by decide +kernel
theorem d_M_word_29 : decode b_M_word 29 = .ok (.lreturn, 1) := by decide +kernel
theorem d_M_word_30 : decode b_M_word 30 = .ok (.aload_n 0, 1) := by decide +kernel
theorem d_M_word_31 : decode b_M_word 31 = .ok (.iload_n 1, 1) := by decide +kernel
theorem d_M_word_32 : decode b_M_word 32 = .ok (.iload_n 2, 1) := by decide +kernel
theorem d_M_word_33 : decode b_M_word 33 = .ok (.iload_n 3, 1) := by decide +kernel
theorem d_M_word_34 : decode b_M_word 34 = .ok (.iload 4, 2) := by decide +kernel
theorem d_M_word_36 : decode b_M_word 36 = .ok (.invokevirtual 154, 3) := by decide +kernel
theorem d_M_word_39 : decode b_M_word 39 = .ok (.istore 6, 2) := by decide +kernel
theorem d_M_word_41 : decode b_M_word 41 = .ok (.aload_n 0, 1) := by decide +kernel
theorem d_M_word_42 : decode b_M_word 42 = .ok (.iload 6, 2) := by decide +kernel
theorem d_M_word_44 : decode b_M_word 44 = .ok (.iconst 2, 1) := by decide +kernel
theorem d_M_word_45 : decode b_M_word 45 = .ok (.iload 5, 2) := by decide +kernel
theorem d_M_word_47 : decode b_M_word 47 = .ok (.imul, 1) := by decide +kernel
theorem d_M_word_48 : decode b_M_word 48 = .ok (.invokevirtual 40, 3) := by decide +kernel
theorem d_M_word_51 : decode b_M_word 51 = .ok (.i2l, 1) := by decide +kernel
theorem d_M_word_52 : decode b_M_word 52 = .ok (.ldc2_w 62, 3) := by decide +kernel
theorem d_M_word_55 : decode b_M_word 55 = .ok (.aload_n 0, 1) := by decide +kernel
theorem d_M_word_56 : decode b_M_word 56 = .ok (.iload 6, 2) := by decide +kernel
theorem d_M_word_58 : decode b_M_word 58 = .ok (.iconst 2, 1) := by decide +kernel
theorem d_M_word_59 : decode b_M_word 59 = .ok (.iload 5, 2) := by decide +kernel
theorem d_M_word_61 : decode b_M_word 61 = .ok (.imul, 1) := by decide +kernel
theorem d_M_word_62 : decode b_M_word 62 = .ok (.iconst 1, 1) := by decide +kernel
theorem d_M_word_63 : decode b_M_word 63 = .ok (.iadd, 1) := by decide +kernel
theorem d_M_word_64 : decode b_M_word 64 = .ok (.invokevirtual 40, 3) := by decide +kernel
theorem d_M_word_67 : decode b_M_word 67 = .ok (.i2l, 1) := by decide +kernel
theorem d_M_word_68 : decode b_M_word 68 = .ok (.lmul, 1) := by decide +kernel
theorem d_M_word_69 : decode b_M_word 69 = .ok (.ladd, 1) := by decide +kernel
theorem d_M_word_70 : decode b_M_word 70 = .ok (.lreturn, 1) := by decide +kernel
theorem d_M_compare_0 : decode b_M_compare 0 = .ok (.aload_n 0, 1) := by decide +kernel
theorem d_M_compare_1 : decode b_M_compare 1 = .ok (.iload_n 1, 1) := by decide +kernel
theorem d_M_compare_2 : decode b_M_compare 2 = .ok (.iload_n 2, 1) := by decide +kernel
theorem d_M_compare_3 : decode b_M_compare 3 = .ok (.iload_n 3, 1) := by decide +kernel
theorem d_M_compare_4 : decode b_M_compare 4 = .ok (.invokevirtual 144, 3) := by decide +kernel
theorem d_M_compare_7 : decode b_M_compare 7 = .ok (.ifCond .eq 6, 3) := by decide +kernel
theorem d_M_compare_10 : decode b_M_compare 10 = .ok (.bipush (-2), 2) := by decide +kernel
theorem d_M_compare_12 : decode b_M_compare 12 = .ok (.ireturn, 1) := by decide +kernel
theorem d_M_compare_13 : decode b_M_compare 13 = .ok (.iload 5, 2) := by decide +kernel
theorem d_M_compare_15 : decode b_M_compare 15 = .ok (.iconst 1, 1) := by decide +kernel
theorem d_M_compare_16 : decode b_M_compare 16 = .ok (.if_icmp .ge 6, 3) := by decide +kernel
theorem d_M_compare_19 : decode b_M_compare 19 = .ok (.bipush (-3), 2) := by decide +kernel
theorem d_M_compare_21 : decode b_M_compare 21 = .ok (.ireturn, 1) := by decide +kernel
theorem d_M_compare_22 : decode b_M_compare 22 = .ok (.aload_n 0, 1) := by decide +kernel
theorem d_M_compare_23 : decode b_M_compare 23 = .ok (.bipush 96, 2) := by decide +kernel
theorem d_M_compare_25 : decode b_M_compare 25 = .ok (.aload_n 0, 1) := by decide +kernel
theorem d_M_compare_26 : decode b_M_compare 26 = .ok (.iload_n 1, 1) := by decide +kernel
theorem d_M_compare_27 : decode b_M_compare 27 = .ok (.iload_n 2, 1) := by decide +kernel
theorem d_M_compare_28 : decode b_M_compare 28 = .ok (.iload_n 3, 1) := by decide +kernel
theorem d_M_compare_29 : decode b_M_compare 29 = .ok (.invokevirtual 147, 3) := by decide +kernel
theorem d_M_compare_32 : decode b_M_compare 32 = .ok (.iload 5, 2) := by decide +kernel
theorem d_M_compare_34 : decode b_M_compare 34 = .ok (.invokevirtual 52, 3) := by decide +kernel
theorem d_M_compare_37 : decode b_M_compare 37 = .ok (.aload_n 0, 1) := by decide +kernel
theorem d_M_compare_38 : decode b_M_compare 38 = .ok (.bipush 97, 2) := by decide +kernel
theorem d_M_compare_40 : decode b_M_compare 40 = .ok (.aload_n 0, 1) := by decide +kernel
theorem d_M_compare_41 : decode b_M_compare 41 = .ok (.iload_n 1, 1) := by decide +kernel
theorem d_M_compare_42 : decode b_M_compare 42 = .ok (.iload_n 2, 1) := by decide +kernel
theorem d_M_compare_43 : decode b_M_compare 43 = .ok (.iload_n 3, 1) := by decide +kernel
theorem d_M_compare_44 : decode b_M_compare 44 = .ok (.invokevirtual 151, 3) := by decide +kernel
theorem d_M_compare_47 : decode b_M_compare 47 = .ok (.iload 4, 2) := by decide +kernel
theorem d_M_compare_49 : decode b_M_compare 49 = .ok (.invokevirtual 52, 3) := by decide +kernel
theorem d_M_compare_52 : decode b_M_compare 52 = .ok (.aload_n 0, 1) := by decide +kernel
theorem d_M_compare_53 : decode b_M_compare 53 = .ok (.bipush 96, 2) := by decide +kernel
theorem d_M_compare_55 : decode b_M_compare 55 = .ok (.bipush 96, 2) := by decide +kernel
theorem d_M_compare_57 : decode b_M_compare 57 = .ok (.bipush 97, 2) := by decide +kernel
theorem d_M_compare_59 : decode b_M_compare 59 = .ok (.iconst (-1), 1) := by decide +kernel
theorem d_M_compare_60 : decode b_M_compare 60 = .ok (.invokevirtual 55, 3) := by decide +kernel
theorem d_M_compare_63 : decode b_M_compare 63 = .ok (.aload_n 0, 1) := by decide +kernel
theorem d_M_compare_64 : decode b_M_compare 64 = .ok (.getfield 16, 3) := by decide +kernel
theorem d_M_compare_67 : decode b_M_compare 67 = .ok (.bipush 96, 2) := by decide +kernel
theorem d_M_compare_69 : decode b_M_compare 69 = .ok (.iaload, 1) := by decide +kernel
theorem d_M_compare_70 : decode b_M_compare 70 = .ok (.ireturn, 1) := by decide +kernel
theorem d_B_init_0 : decode b_B_init 0 = .ok (.aload_n 0, 1) := by decide +kernel
theorem d_B_init_1 : decode b_B_init 1 = .ok (.invokespecial 1, 3) := by decide +kernel
theorem d_B_init_4 : decode b_B_init 4 = .ok (.aload_n 0, 1) := by decide +kernel
theorem d_B_init_5 : decode b_B_init 5 = .ok (.new 7, 3) := by decide +kernel
theorem d_B_init_8 : decode b_B_init 8 = .ok (.dup, 1) := by decide +kernel
theorem d_B_init_9 : decode b_B_init 9 = .ok (.invokespecial 9, 3) := by decide +kernel
theorem d_B_init_12 : decode b_B_init 12 = .ok (.putfield 10, 3) := by decide +kernel
theorem d_B_init_15 : decode b_B_init 15 = .ok (.aload_n 0, 1) := by decide +kernel
theorem d_B_init_16 : decode b_B_init 16 = .ok (.new 7, 3) := by decide +kernel
theorem d_B_init_19 : decode b_B_init 19 = .ok (.dup, 1) := by decide +kernel
theorem d_B_init_20 : decode b_B_init 20 = .ok (.invokespecial 9, 3) := by decide +kernel
theorem d_B_init_23 : decode b_B_init 23 = .ok (.putfield 16, 3) := by decide +kernel
theorem d_B_init_26 : decode b_B_init 26 = .ok (.aload_n 0, 1) := by decide +kernel
theorem d_B_init_27 : decode b_B_init 27 = .ok (.new 7, 3) := by decide +kernel
theorem d_B_init_30 : decode b_B_init 30 = .ok (.dup, 1) := by decide +kernel
theorem d_B_init_31 : decode b_B_init 31 = .ok (.invokespecial 9, 3) := by decide +kernel
theorem d_B_init_34 : decode b_B_init 34 = .ok (.putfield 19, 3) := by decide +kernel
theorem d_B_init_37 : decode b_B_init 37 = .ok (.aload_n 0, 1) := by decide +kernel
theorem d_B_init_38 : decode b_B_init 38 = .ok (.new 7, 3) := by decide +kernel
theorem d_B_init_41 : decode b_B_init 41 = .ok (.dup, 1) := by decide +kernel
theorem d_B_init_42 : decode b_B_init 42 = .ok (.invokespecial 9, 3) := by decide +kernel
theorem d_B_init_45 : decode b_B_init 45 = .ok (.putfield 22, 3) := by decide +kernel
theorem d_B_init_48 : decode b_B_init 48 = .ok (.aload_n 0, 1) := by decide +kernel
theorem d_B_init_49 : decode b_B_init 49 = .ok (.new 7, 3) := by decide +kernel
theorem d_B_init_52 : decode b_B_init 52 = .ok (.dup, 1) := by decide +kernel
theorem d_B_init_53 : decode b_B_init 53 = .ok (.invokespecial 9, 3) := by decide +kernel
theorem d_B_init_56 : decode b_B_init 56 = .ok (.putfield 25, 3) := by decide +kernel
theorem d_B_init_59 : decode b_B_init 59 = .ok (.aload_n 0, 1) := by decide +kernel
theorem d_B_init_60 : decode b_B_init 60 = .ok (.new 7, 3) := by decide +kernel
theorem d_B_init_63 : decode b_B_init 63 = .ok (.dup, 1) := by decide +kernel
theorem d_B_init_64 : decode b_B_init 64 = .ok (.invokespecial 9, 3) := by decide +kernel
theorem d_B_init_67 : decode b_B_init 67 = .ok (.putfield 28, 3) := by decide +kernel
theorem d_B_init_70 : decode b_B_init 70 = .ok (.aload_n 0, 1) := by decide +kernel
theorem d_B_init_71 : decode b_B_init 71 = .ok (.new 7, 3) := by decide +kernel
theorem d_B_init_74 : decode b_B_init 74 = .ok (.dup, 1) := by decide +kernel
theorem d_B_init_75 : decode b_B_init 75 = .ok (.invokespecial 9, 3) := by decide +kernel
theorem d_B_init_78 : decode b_B_init 78 = .ok (.putfield 31, 3) := by decide +kernel
theorem d_B_init_81 : decode b_B_init 81 = .ok (.aload_n 0, 1) := by decide +kernel
theorem d_B_init_82 : decode b_B_init 82 = .ok (.new 7, 3) := by decide +kernel
theorem d_B_init_85 : decode b_B_init 85 = .ok (.dup, 1) := by decide +kernel
theorem d_B_init_86 : decode b_B_init 86 = .ok (.invokespecial 9, 3) := by decide +kernel
theorem d_B_init_89 : decode b_B_init 89 = .ok (.putfield 34, 3) := by decide +kernel
theorem d_B_init_92 : decode b_B_init 92 = .ok (.aload_n 0, 1) := by decide +kernel
theorem d_B_init_93 : decode b_B_init 93 = .ok (.new 7, 3) := by decide +kernel
theorem d_B_init_96 : decode b_B_init 96 = .ok (.dup, 1) := by decide +kernel
theorem d_B_init_97 : decode b_B_init 97 = .ok (.invokespecial 9, 3) := by decide +kernel
theorem d_B_init_100 : decode b_B_init 100 = .ok (.putfield 37, 3) := by decide +kernel
theorem d_B_init_103 : decode b_B_init 103 = .ok (.return_, 1) := by decide +kernel
theorem d_B_setBlank_0 : decode b_B_setBlank 0 = .ok (.aload_n 0, 1) := by decide +kernel
theorem d_B_setBlank_1 : decode b_B_setBlank 1 = .ok (.getfield 10, 3) := by decide +kernel
theorem d_B_setBlank_4 : decode b_B_setBlank 4 = .ok (.iconst 1, 1) := by decide +kernel
theorem d_B_setBlank_5 : decode b_B_setBlank 5 = .ok (.invokevirtual 40, 3) := by decide +kernel
theorem d_B_setBlank_8 : decode b_B_setBlank 8 = .ok (.aload_n 0, 1) := by decide +kernel
theorem d_B_setBlank_9 : decode b_B_setBlank 9 = .ok (.getfield 16, 3) := by decide +kernel
theorem d_B_setBlank_12 : decode b_B_setBlank 12 = .ok (.iconst 0, 1) := by decide +kernel
theorem d_B_setBlank_13 : decode b_B_setBlank 13 = .ok (.invokevirtual 40, 3) := by decide +kernel
theorem d_B_setBlank_16 : decode b_B_setBlank 16 = .ok (.aload_n 0, 1) := by decide +kernel
theorem d_B_setBlank_17 : decode b_B_setBlank 17 = .ok (.getfield 19, 3) := by decide +kernel
theorem d_B_setBlank_20 : decode b_B_setBlank 20 = .ok (.iconst 0, 1) := by decide +kernel
theorem d_B_setBlank_21 : decode b_B_setBlank 21 = .ok (.invokevirtual 40, 3) := by decide +kernel
theorem d_B_setBlank_24 : decode b_B_setBlank 24 = .ok (.aload_n 0, 1) := by decide +kernel
theorem d_B_setBlank_25 : decode b_B_setBlank 25 = .ok (.getfield 22, 3) := by decide +kernel
theorem d_B_setBlank_28 : decode b_B_setBlank 28 = .ok (.iconst 0, 1) := by decide +kernel
theorem d_B_setBlank_29 : decode b_B_setBlank 29 = .ok (.invokevirtual 40, 3) := by decide +kernel
theorem d_B_setBlank_32 : decode b_B_setBlank 32 = .ok (.aload_n 0, 1) := by decide +kernel
theorem d_B_setBlank_33 : decode b_B_setBlank 33 = .ok (.getfield 25, 3) := by decide +kernel
theorem d_B_setBlank_36 : decode b_B_setBlank 36 = .ok (.iconst 0, 1) := by decide +kernel
theorem d_B_setBlank_37 : decode b_B_setBlank 37 = .ok (.invokevirtual 40, 3) := by decide +kernel
theorem d_B_setBlank_40 : decode b_B_setBlank 40 = .ok (.aload_n 0, 1) := by decide +kernel
theorem d_B_setBlank_41 : decode b_B_setBlank 41 = .ok (.getfield 28, 3) := by decide +kernel
theorem d_B_setBlank_44 : decode b_B_setBlank 44 = .ok (.iconst 0, 1) := by decide +kernel
theorem d_B_setBlank_45 : decode b_B_setBlank 45 = .ok (.invokevirtual 40, 3) := by decide +kernel
theorem d_B_setBlank_48 : decode b_B_setBlank 48 = .ok (.aload_n 0, 1) := by decide +kernel
theorem d_B_setBlank_49 : decode b_B_setBlank 49 = .ok (.getfield 31, 3) := by decide +kernel
theorem d_B_setBlank_52 : decode b_B_setBlank 52 = .ok (.iconst 0, 1) := by decide +kernel
theorem d_B_setBlank_53 : decode b_B_setBlank 53 = .ok (.invokevirtual 40, 3) := by decide +kernel
theorem d_B_setBlank_56 : decode b_B_setBlank 56 = .ok (.aload_n 0, 1) := by decide +kernel
theorem d_B_setBlank_57 : decode b_B_setBlank 57 = .ok (.getfield 34, 3) := by decide +kernel
theorem d_B_setBlank_60 : decode b_B_setBlank 60 = .ok (.iconst 0, 1) := by decide +kernel
theorem d_B_setBlank_61 : decode b_B_setBlank 61 = .ok (.invokevirtual 40, 3) := by decide +kernel
theorem d_B_setBlank_64 : decode b_B_setBlank 64 = .ok (.aload_n 0, 1) := by decide +kernel
theorem d_B_setBlank_65 : decode b_B_setBlank 65 = .ok (.getfield 37, 3) := by decide +kernel
theorem d_B_setBlank_68 : decode b_B_setBlank 68 = .ok (.iconst 0, 1) := by decide +kernel
theorem d_B_setBlank_69 : decode b_B_setBlank 69 = .ok (.invokevirtual 40, 3) := by decide +kernel
theorem d_B_setBlank_72 : decode b_B_setBlank 72 = .ok (.return_, 1) := by decide +kernel
theorem d_B_setEstimate_0 : decode b_B_setEstimate 0 = .ok (.aload_n 0, 1) := by decide +kernel
theorem d_B_setEstimate_1 : decode b_B_setEstimate 1 = .ok (.getfield 10, 3) := by decide +kernel
theorem d_B_setEstimate_4 : decode b_B_setEstimate 4 = .ok (.iload_n 3, 1) := by decide +kernel
theorem d_B_setEstimate_5 : decode b_B_setEstimate 5 = .ok (.iload 5, 2) := by decide +kernel
theorem d_B_setEstimate_7 : decode b_B_setEstimate 7 = .ok (.imul, 1) := by decide +kernel
theorem d_B_setEstimate_8 : decode b_B_setEstimate 8 = .ok (.iload 4, 2) := by decide +kernel
theorem d_B_setEstimate_10 : decode b_B_setEstimate 10 = .ok (.iload 4, 2) := by decide +kernel
theorem d_B_setEstimate_12 : decode b_B_setEstimate 12 = .ok (.imul, 1) := by decide +kernel
theorem d_B_setEstimate_13 : decode b_B_setEstimate 13 = .ok (.isub, 1) := by decide +kernel
theorem d_B_setEstimate_14 : decode b_B_setEstimate 14 = .ok (.invokevirtual 40, 3) := by decide +kernel
theorem d_B_setEstimate_17 : decode b_B_setEstimate 17 = .ok (.aload_n 0, 1) := by decide +kernel
theorem d_B_setEstimate_18 : decode b_B_setEstimate 18 = .ok (.getfield 16, 3) := by decide +kernel
theorem d_B_setEstimate_21 : decode b_B_setEstimate 21 = .ok (.iload 5, 2) := by decide +kernel
theorem d_B_setEstimate_23 : decode b_B_setEstimate 23 = .ok (.invokevirtual 40, 3) := by decide +kernel
theorem d_B_setEstimate_26 : decode b_B_setEstimate 26 = .ok (.aload_n 0, 1) := by decide +kernel
theorem d_B_setEstimate_27 : decode b_B_setEstimate 27 = .ok (.getfield 19, 3) := by decide +kernel
theorem d_B_setEstimate_30 : decode b_B_setEstimate 30 = .ok (.iload 4, 2) := by decide +kernel
theorem d_B_setEstimate_32 : decode b_B_setEstimate 32 = .ok (.ineg, 1) := by decide +kernel
theorem d_B_setEstimate_33 : decode b_B_setEstimate 33 = .ok (.invokevirtual 40, 3) := by decide +kernel
theorem d_B_setEstimate_36 : decode b_B_setEstimate 36 = .ok (.aload_n 0, 1) := by decide +kernel
theorem d_B_setEstimate_37 : decode b_B_setEstimate 37 = .ok (.getfield 22, 3) := by decide +kernel
theorem d_B_setEstimate_40 : decode b_B_setEstimate 40 = .ok (.iload_n 3, 1) := by decide +kernel
theorem d_B_setEstimate_41 : decode b_B_setEstimate 41 = .ok (.invokevirtual 40, 3) := by decide +kernel
theorem d_B_setEstimate_44 : decode b_B_setEstimate 44 = .ok (.aload_n 0, 1) := by decide +kernel
theorem d_B_setEstimate_45 : decode b_B_setEstimate 45 = .ok (.getfield 25, 3) := by decide +kernel
theorem d_B_setEstimate_48 : decode b_B_setEstimate 48 = .ok (.iconst 1, 1) := by decide +kernel
theorem d_B_setEstimate_49 : decode b_B_setEstimate 49 = .ok (.invokevirtual 40, 3) := by decide +kernel
theorem d_B_setEstimate_52 : decode b_B_setEstimate 52 = .ok (.aload_n 0, 1) := by decide +kernel
theorem d_B_setEstimate_53 : decode b_B_setEstimate 53 = .ok (.getfield 28, 3) := by decide +kernel
theorem d_B_setEstimate_56 : decode b_B_setEstimate 56 = .ok (.iload 5, 2) := by decide +kernel
theorem d_B_setEstimate_58 : decode b_B_setEstimate 58 = .ok (.iload_n 1, 1) := by decide +kernel
theorem d_B_setEstimate_59 : decode b_B_setEstimate 59 = .ok (.imul, 1) := by decide +kernel
theorem d_B_setEstimate_60 : decode b_B_setEstimate 60 = .ok (.iload 4, 2) := by decide +kernel
theorem d_B_setEstimate_62 : decode b_B_setEstimate 62 = .ok (.iload_n 2, 1) := by decide +kernel
theorem d_B_setEstimate_63 : decode b_B_setEstimate 63 = .ok (.imul, 1) := by decide +kernel
theorem d_B_setEstimate_64 : decode b_B_setEstimate 64 = .ok (.isub, 1) := by decide +kernel
theorem d_B_setEstimate_65 : decode b_B_setEstimate 65 = .ok (.invokevirtual 40, 3) := by decide +kernel
theorem d_B_setEstimate_68 : decode b_B_setEstimate 68 = .ok (.aload_n 0, 1) := by decide +kernel
theorem d_B_setEstimate_69 : decode b_B_setEstimate 69 = .ok (.getfield 31, 3) := by decide +kernel
theorem d_B_setEstimate_72 : decode b_B_setEstimate 72 = .ok (.iload_n 3, 1) := by decide +kernel
theorem d_B_setEstimate_73 : decode b_B_setEstimate 73 = .ok (.iload_n 2, 1) := by decide +kernel
theorem d_B_setEstimate_74 : decode b_B_setEstimate 74 = .ok (.imul, 1) := by decide +kernel
theorem d_B_setEstimate_75 : decode b_B_setEstimate 75 = .ok (.iload 4, 2) := by decide +kernel
theorem d_B_setEstimate_77 : decode b_B_setEstimate 77 = .ok (.iload_n 1, 1) := by decide +kernel
theorem d_B_setEstimate_78 : decode b_B_setEstimate 78 = .ok (.imul, 1) := by decide +kernel
theorem d_B_setEstimate_79 : decode b_B_setEstimate 79 = .ok (.isub, 1) := by decide +kernel
theorem d_B_setEstimate_80 : decode b_B_setEstimate 80 = .ok (.invokevirtual 40, 3) := by decide +kernel
theorem d_B_setEstimate_83 : decode b_B_setEstimate 83 = .ok (.aload_n 0, 1) := by decide +kernel
theorem d_B_setEstimate_84 : decode b_B_setEstimate 84 = .ok (.getfield 34, 3) := by decide +kernel
theorem d_B_setEstimate_87 : decode b_B_setEstimate 87 = .ok (.iload_n 1, 1) := by decide +kernel
theorem d_B_setEstimate_88 : decode b_B_setEstimate 88 = .ok (.invokevirtual 40, 3) := by decide +kernel
theorem d_B_setEstimate_91 : decode b_B_setEstimate 91 = .ok (.aload_n 0, 1) := by decide +kernel
theorem d_B_setEstimate_92 : decode b_B_setEstimate 92 = .ok (.getfield 37, 3) := by decide +kernel
theorem d_B_setEstimate_95 : decode b_B_setEstimate 95 = .ok (.iload_n 2, 1) := by decide +kernel
theorem d_B_setEstimate_96 : decode b_B_setEstimate 96 = .ok (.invokevirtual 40, 3) := by decide +kernel
theorem d_B_setEstimate_99 : decode b_B_setEstimate 99 = .ok (.return_, 1) := by decide +kernel
theorem d_B_copy_0 : decode b_B_copy 0 = .ok (.aload_n 0, 1) := by decide +kernel
theorem d_B_copy_1 : decode b_B_copy 1 = .ok (.getfield 10, 3) := by decide +kernel
theorem d_B_copy_4 : decode b_B_copy 4 = .ok (.aload_n 1, 1) := by decide +kernel
theorem d_B_copy_5 : decode b_B_copy 5 = .ok (.getfield 10, 3) := by decide +kernel
theorem d_B_copy_8 : decode b_B_copy 8 = .ok (.invokevirtual 44, 3) := by decide +kernel
theorem d_B_copy_11 : decode b_B_copy 11 = .ok (.aload_n 0, 1) := by decide +kernel
theorem d_B_copy_12 : decode b_B_copy 12 = .ok (.getfield 16, 3) := by decide +kernel
theorem d_B_copy_15 : decode b_B_copy 15 = .ok (.aload_n 1, 1) := by decide +kernel
theorem d_B_copy_16 : decode b_B_copy 16 = .ok (.getfield 16, 3) := by decide +kernel
theorem d_B_copy_19 : decode b_B_copy 19 = .ok (.invokevirtual 44, 3) := by decide +kernel
theorem d_B_copy_22 : decode b_B_copy 22 = .ok (.aload_n 0, 1) := by decide +kernel
theorem d_B_copy_23 : decode b_B_copy 23 = .ok (.getfield 19, 3) := by decide +kernel
theorem d_B_copy_26 : decode b_B_copy 26 = .ok (.aload_n 1, 1) := by decide +kernel
theorem d_B_copy_27 : decode b_B_copy 27 = .ok (.getfield 19, 3) := by decide +kernel
theorem d_B_copy_30 : decode b_B_copy 30 = .ok (.invokevirtual 44, 3) := by decide +kernel
theorem d_B_copy_33 : decode b_B_copy 33 = .ok (.aload_n 0, 1) := by decide +kernel
theorem d_B_copy_34 : decode b_B_copy 34 = .ok (.getfield 22, 3) := by decide +kernel
theorem d_B_copy_37 : decode b_B_copy 37 = .ok (.aload_n 1, 1) := by decide +kernel
theorem d_B_copy_38 : decode b_B_copy 38 = .ok (.getfield 22, 3) := by decide +kernel
theorem d_B_copy_41 : decode b_B_copy 41 = .ok (.invokevirtual 44, 3) := by decide +kernel
theorem d_B_copy_44 : decode b_B_copy 44 = .ok (.aload_n 0, 1) := by decide +kernel
theorem d_B_copy_45 : decode b_B_copy 45 = .ok (.getfield 25, 3) := by decide +kernel
theorem d_B_copy_48 : decode b_B_copy 48 = .ok (.aload_n 1, 1) := by decide +kernel
theorem d_B_copy_49 : decode b_B_copy 49 = .ok (.getfield 25, 3) := by decide +kernel
theorem d_B_copy_52 : decode b_B_copy 52 = .ok (.invokevirtual 44, 3) := by decide +kernel
theorem d_B_copy_55 : decode b_B_copy 55 = .ok (.aload_n 0, 1) := by decide +kernel
theorem d_B_copy_56 : decode b_B_copy 56 = .ok (.getfield 28, 3) := by decide +kernel
theorem d_B_copy_59 : decode b_B_copy 59 = .ok (.aload_n 1, 1) := by decide +kernel
theorem d_B_copy_60 : decode b_B_copy 60 = .ok (.getfield 28, 3) := by decide +kernel
theorem d_B_copy_63 : decode b_B_copy 63 = .ok (.invokevirtual 44, 3) := by decide +kernel
theorem d_B_copy_66 : decode b_B_copy 66 = .ok (.aload_n 0, 1) := by decide +kernel
theorem d_B_copy_67 : decode b_B_copy 67 = .ok (.getfield 31, 3) := by decide +kernel
theorem d_B_copy_70 : decode b_B_copy 70 = .ok (.aload_n 1, 1) := by decide +kernel
theorem d_B_copy_71 : decode b_B_copy 71 = .ok (.getfield 31, 3) := by decide +kernel
theorem d_B_copy_74 : decode b_B_copy 74 = .ok (.invokevirtual 44, 3) := by decide +kernel
theorem d_B_copy_77 : decode b_B_copy 77 = .ok (.aload_n 0, 1) := by decide +kernel
theorem d_B_copy_78 : decode b_B_copy 78 = .ok (.getfield 34, 3) := by decide +kernel
theorem d_B_copy_81 : decode b_B_copy 81 = .ok (.aload_n 1, 1) := by decide +kernel
theorem d_B_copy_82 : decode b_B_copy 82 = .ok (.getfield 34, 3) := by decide +kernel
theorem d_B_copy_85 : decode b_B_copy 85 = .ok (.invokevirtual 44, 3) := by decide +kernel
theorem d_B_copy_88 : decode b_B_copy 88 = .ok (.aload_n 0, 1) := by decide +kernel
theorem d_B_copy_89 : decode b_B_copy 89 = .ok (.getfield 37, 3) := by decide +kernel
theorem d_B_copy_92 : decode b_B_copy 92 = .ok (.aload_n 1, 1) := by decide +kernel
theorem d_B_copy_93 : decode b_B_copy 93 = .ok (.getfield 37, 3) := by decide +kernel
theorem d_B_copy_96 : decode b_B_copy 96 = .ok (.invokevirtual 44, 3) := by decide +kernel
theorem d_B_copy_99 : decode b_B_copy 99 = .ok (.return_, 1) := by decide +kernel
theorem d_B_learn_0 : decode b_B_learn 0 = .ok (.aload_n 1, 1) := by decide +kernel
theorem d_B_learn_1 : decode b_B_learn 1 = .ok (.getfield 48, 3) := by decide +kernel
theorem d_B_learn_4 : decode b_B_learn 4 = .ok (.istore_n 2, 1) := by decide +kernel
theorem d_B_learn_5 : decode b_B_learn 5 = .ok (.aload_n 1, 1) := by decide +kernel
theorem d_B_learn_6 : decode b_B_learn 6 = .ok (.getfield 54, 3) := by decide +kernel
theorem d_B_learn_9 : decode b_B_learn 9 = .ok (.istore_n 3, 1) := by decide +kernel
theorem d_B_learn_10 : decode b_B_learn 10 = .ok (.aload_n 1, 1) := by decide +kernel
theorem d_B_learn_11 : decode b_B_learn 11 = .ok (.getfield 57, 3) := by decide +kernel
theorem d_B_learn_14 : decode b_B_learn 14 = .ok (.istore 4, 2) := by decide +kernel
theorem d_B_learn_16 : decode b_B_learn 16 = .ok (.aload_n 1, 1) := by decide +kernel
theorem d_B_learn_17 : decode b_B_learn 17 = .ok (.getfield 60, 3) := by decide +kernel
theorem d_B_learn_20 : decode b_B_learn 20 = .ok (.istore 5, 2) := by decide +kernel
theorem d_B_learn_22 : decode b_B_learn 22 = .ok (.aload_n 0, 1) := by decide +kernel
theorem d_B_learn_23 : decode b_B_learn 23 = .ok (.getfield 34, 3) := by decide +kernel
theorem d_B_learn_26 : decode b_B_learn 26 = .ok (.iload 4, 2) := by decide +kernel
theorem d_B_learn_28 : decode b_B_learn 28 = .ok (.invokevirtual 63, 3) := by decide +kernel
theorem d_B_learn_31 : decode b_B_learn 31 = .ok (.aload_n 0, 1) := by decide +kernel
theorem d_B_learn_32 : decode b_B_learn 32 = .ok (.getfield 34, 3) := by decide +kernel
theorem d_B_learn_35 : decode b_B_learn 35 = .ok (.aload_n 0, 1) := by decide +kernel
theorem d_B_learn_36 : decode b_B_learn 36 = .ok (.getfield 22, 3) := by decide +kernel
theorem d_B_learn_39 : decode b_B_learn 39 = .ok (.iload 5, 2) := by decide +kernel
theorem d_B_learn_41 : decode b_B_learn 41 = .ok (.iload_n 2, 1) := by decide +kernel
theorem d_B_learn_42 : decode b_B_learn 42 = .ok (.imul, 1) := by decide +kernel
theorem d_B_learn_43 : decode b_B_learn 43 = .ok (.aload_n 0, 1) := by decide +kernel
theorem d_B_learn_44 : decode b_B_learn 44 = .ok (.getfield 19, 3) := by decide +kernel
theorem d_B_learn_47 : decode b_B_learn 47 = .ok (.iload 5, 2) := by decide +kernel
theorem d_B_learn_49 : decode b_B_learn 49 = .ok (.ineg, 1) := by decide +kernel
theorem d_B_learn_50 : decode b_B_learn 50 = .ok (.iload_n 3, 1) := by decide +kernel
theorem d_B_learn_51 : decode b_B_learn 51 = .ok (.imul, 1) := by decide +kernel
theorem d_B_learn_52 : decode b_B_learn 52 = .ok (.invokevirtual 66, 3) := by decide +kernel
theorem d_B_learn_55 : decode b_B_learn 55 = .ok (.aload_n 0, 1) := by decide +kernel
theorem d_B_learn_56 : decode b_B_learn 56 = .ok (.getfield 34, 3) := by decide +kernel
theorem d_B_learn_59 : decode b_B_learn 59 = .ok (.aload_n 0, 1) := by decide +kernel
theorem d_B_learn_60 : decode b_B_learn 60 = .ok (.getfield 28, 3) := by decide +kernel
theorem d_B_learn_63 : decode b_B_learn 63 = .ok (.iload_n 3, 1) := by decide +kernel
theorem d_B_learn_64 : decode b_B_learn 64 = .ok (.iload_n 3, 1) := by decide +kernel
theorem d_B_learn_65 : decode b_B_learn 65 = .ok (.imul, 1) := by decide +kernel
theorem d_B_learn_66 : decode b_B_learn 66 = .ok (.aload_n 0, 1) := by decide +kernel
theorem d_B_learn_67 : decode b_B_learn 67 = .ok (.getfield 31, 3) := by decide +kernel
theorem d_B_learn_70 : decode b_B_learn 70 = .ok (.iload_n 2, 1) := by decide +kernel
theorem d_B_learn_71 : decode b_B_learn 71 = .ok (.ineg, 1) := by decide +kernel
theorem d_B_learn_72 : decode b_B_learn 72 = .ok (.iload_n 3, 1) := by decide +kernel
theorem d_B_learn_73 : decode b_B_learn 73 = .ok (.imul, 1) := by decide +kernel
theorem d_B_learn_74 : decode b_B_learn 74 = .ok (.invokevirtual 66, 3) := by decide +kernel
theorem d_B_learn_77 : decode b_B_learn 77 = .ok (.aload_n 0, 1) := by decide +kernel
theorem d_B_learn_78 : decode b_B_learn 78 = .ok (.getfield 37, 3) := by decide +kernel
theorem d_B_learn_81 : decode b_B_learn 81 = .ok (.iload 4, 2) := by decide +kernel
theorem d_B_learn_83 : decode b_B_learn 83 = .ok (.invokevirtual 63, 3) := by decide +kernel
theorem d_B_learn_86 : decode b_B_learn 86 = .ok (.aload_n 0, 1) := by decide +kernel
theorem d_B_learn_87 : decode b_B_learn 87 = .ok (.getfield 37, 3) := by decide +kernel
theorem d_B_learn_90 : decode b_B_learn 90 = .ok (.aload_n 0, 1) := by decide +kernel
theorem d_B_learn_91 : decode b_B_learn 91 = .ok (.getfield 16, 3) := by decide +kernel
theorem d_B_learn_94 : decode b_B_learn 94 = .ok (.iload 5, 2) := by decide +kernel
theorem d_B_learn_96 : decode b_B_learn 96 = .ok (.iload_n 3, 1) := by decide +kernel
theorem d_B_learn_97 : decode b_B_learn 97 = .ok (.imul, 1) := by decide +kernel
theorem d_B_learn_98 : decode b_B_learn 98 = .ok (.aload_n 0, 1) := by decide +kernel
theorem d_B_learn_99 : decode b_B_learn 99 = .ok (.getfield 19, 3) := by decide +kernel
theorem d_B_learn_102 : decode b_B_learn 102 = .ok (.iload 5, 2) := by decide +kernel
theorem d_B_learn_104 : decode b_B_learn 104 = .ok (.ineg, 1) := by decide +kernel
theorem d_B_learn_105 : decode b_B_learn 105 = .ok (.iload_n 2, 1) := by decide +kernel
theorem d_B_learn_106 : decode b_B_learn 106 = .ok (.imul, 1) := by decide +kernel
theorem d_B_learn_107 : decode b_B_learn 107 = .ok (.invokevirtual 66, 3) := by decide +kernel
theorem d_B_learn_110 : decode b_B_learn 110 = .ok (.aload_n 0, 1) := by decide +kernel
theorem d_B_learn_111 : decode b_B_learn 111 = .ok (.getfield 37, 3) := by decide +kernel
theorem d_B_learn_114 : decode b_B_learn 114 = .ok (.aload_n 0, 1) := by decide +kernel
theorem d_B_learn_115 : decode b_B_learn 115 = .ok (.getfield 31, 3) := by decide +kernel
theorem d_B_learn_118 : decode b_B_learn 118 = .ok (.iload_n 2, 1) := by decide +kernel
theorem d_B_learn_119 : decode b_B_learn 119 = .ok (.iload_n 2, 1) := by decide +kernel
theorem d_B_learn_120 : decode b_B_learn 120 = .ok (.imul, 1) := by decide +kernel
theorem d_B_learn_121 : decode b_B_learn 121 = .ok (.aload_n 0, 1) := by decide +kernel
theorem d_B_learn_122 : decode b_B_learn 122 = .ok (.getfield 28, 3) := by decide +kernel
theorem d_B_learn_125 : decode b_B_learn 125 = .ok (.iload_n 2, 1) := by decide +kernel
theorem d_B_learn_126 : decode b_B_learn 126 = .ok (.ineg, 1) := by decide +kernel
theorem d_B_learn_127 : decode b_B_learn 127 = .ok (.iload_n 3, 1) := by decide +kernel
theorem d_B_learn_128 : decode b_B_learn 128 = .ok (.imul, 1) := by decide +kernel
theorem d_B_learn_129 : decode b_B_learn 129 = .ok (.invokevirtual 66, 3) := by decide +kernel
theorem d_B_learn_132 : decode b_B_learn 132 = .ok (.aload_n 0, 1) := by decide +kernel
theorem d_B_learn_133 : decode b_B_learn 133 = .ok (.getfield 25, 3) := by decide +kernel
theorem d_B_learn_136 : decode b_B_learn 136 = .ok (.iload 4, 2) := by decide +kernel
theorem d_B_learn_138 : decode b_B_learn 138 = .ok (.invokevirtual 63, 3) := by decide +kernel
theorem d_B_learn_141 : decode b_B_learn 141 = .ok (.aload_n 0, 1) := by decide +kernel
theorem d_B_learn_142 : decode b_B_learn 142 = .ok (.getfield 25, 3) := by decide +kernel
theorem d_B_learn_145 : decode b_B_learn 145 = .ok (.aload_n 0, 1) := by decide +kernel
theorem d_B_learn_146 : decode b_B_learn 146 = .ok (.getfield 16, 3) := by decide +kernel
theorem d_B_learn_149 : decode b_B_learn 149 = .ok (.iload_n 3, 1) := by decide +kernel
theorem d_B_learn_150 : decode b_B_learn 150 = .ok (.iload_n 3, 1) := by decide +kernel
theorem d_B_learn_151 : decode b_B_learn 151 = .ok (.imul, 1) := by decide +kernel
theorem d_B_learn_152 : decode b_B_learn 152 = .ok (.aload_n 0, 1) := by decide +kernel
theorem d_B_learn_153 : decode b_B_learn 153 = .ok (.getfield 22, 3) := by decide +kernel
theorem d_B_learn_156 : decode b_B_learn 156 = .ok (.iload_n 2, 1) := by decide +kernel
theorem d_B_learn_157 : decode b_B_learn 157 = .ok (.iload_n 2, 1) := by decide +kernel
theorem d_B_learn_158 : decode b_B_learn 158 = .ok (.imul, 1) := by decide +kernel
theorem d_B_learn_159 : decode b_B_learn 159 = .ok (.invokevirtual 66, 3) := by decide +kernel
theorem d_B_learn_162 : decode b_B_learn 162 = .ok (.aload_n 0, 1) := by decide +kernel
theorem d_B_learn_163 : decode b_B_learn 163 = .ok (.getfield 25, 3) := by decide +kernel
theorem d_B_learn_166 : decode b_B_learn 166 = .ok (.aload_n 0, 1) := by decide +kernel
theorem d_B_learn_167 : decode b_B_learn 167 = .ok (.getfield 19, 3) := by decide +kernel
theorem d_B_learn_170 : decode b_B_learn 170 = .ok (.bipush (-2), 2) := by decide +kernel
theorem d_B_learn_172 : decode b_B_learn 172 = .ok (.iload_n 2, 1) := by decide +kernel
theorem d_B_learn_173 : decode b_B_learn 173 = .ok (.imul, 1) := by decide +kernel
theorem d_B_learn_174 : decode b_B_learn 174 = .ok (.iload_n 3, 1) := by decide +kernel
theorem d_B_learn_175 : decode b_B_learn 175 = .ok (.imul, 1) := by decide +kernel
theorem d_B_learn_176 : decode b_B_learn 176 = .ok (.invokevirtual 70, 3) := by decide +kernel
theorem d_B_learn_179 : decode b_B_learn 179 = .ok (.aload_n 0, 1) := by decide +kernel
theorem d_B_learn_180 : decode b_B_learn 180 = .ok (.getfield 28, 3) := by decide +kernel
theorem d_B_learn_183 : decode b_B_learn 183 = .ok (.iload 4, 2) := by decide +kernel
theorem d_B_learn_185 : decode b_B_learn 185 = .ok (.invokevirtual 63, 3) := by decide +kernel
theorem d_B_learn_188 : decode b_B_learn 188 = .ok (.aload_n 0, 1) := by decide +kernel
theorem d_B_learn_189 : decode b_B_learn 189 = .ok (.getfield 28, 3) := by decide +kernel
theorem d_B_learn_192 : decode b_B_learn 192 = .ok (.aload_n 0, 1) := by decide +kernel
theorem d_B_learn_193 : decode b_B_learn 193 = .ok (.getfield 10, 3) := by decide +kernel
theorem d_B_learn_196 : decode b_B_learn 196 = .ok (.iload 5, 2) := by decide +kernel
theorem d_B_learn_198 : decode b_B_learn 198 = .ok (.iload_n 2, 1) := by decide +kernel
theorem d_B_learn_199 : decode b_B_learn 199 = .ok (.imul, 1) := by decide +kernel
theorem d_B_learn_200 : decode b_B_learn 200 = .ok (.invokevirtual 70, 3) := by decide +kernel
theorem d_B_learn_203 : decode b_B_learn 203 = .ok (.aload_n 0, 1) := by decide +kernel
theorem d_B_learn_204 : decode b_B_learn 204 = .ok (.getfield 31, 3) := by decide +kernel
theorem d_B_learn_207 : decode b_B_learn 207 = .ok (.iload 4, 2) := by decide +kernel
theorem d_B_learn_209 : decode b_B_learn 209 = .ok (.invokevirtual 63, 3) := by decide +kernel
theorem d_B_learn_212 : decode b_B_learn 212 = .ok (.aload_n 0, 1) := by decide +kernel
theorem d_B_learn_213 : decode b_B_learn 213 = .ok (.getfield 31, 3) := by decide +kernel
theorem d_B_learn_216 : decode b_B_learn 216 = .ok (.aload_n 0, 1) := by decide +kernel
theorem d_B_learn_217 : decode b_B_learn 217 = .ok (.getfield 10, 3) := by decide +kernel
theorem d_B_learn_220 : decode b_B_learn 220 = .ok (.iload 5, 2) := by decide +kernel
theorem d_B_learn_222 : decode b_B_learn 222 = .ok (.iload_n 3, 1) := by decide +kernel
theorem d_B_learn_223 : decode b_B_learn 223 = .ok (.imul, 1) := by decide +kernel
theorem d_B_learn_224 : decode b_B_learn 224 = .ok (.invokevirtual 70, 3) := by decide +kernel
theorem d_B_learn_227 : decode b_B_learn 227 = .ok (.aload_n 0, 1) := by decide +kernel
theorem d_B_learn_228 : decode b_B_learn 228 = .ok (.getfield 16, 3) := by decide +kernel
theorem d_B_learn_231 : decode b_B_learn 231 = .ok (.iload 4, 2) := by decide +kernel
theorem d_B_learn_233 : decode b_B_learn 233 = .ok (.invokevirtual 63, 3) := by decide +kernel
theorem d_B_learn_236 : decode b_B_learn 236 = .ok (.aload_n 0, 1) := by decide +kernel
theorem d_B_learn_237 : decode b_B_learn 237 = .ok (.getfield 16, 3) := by decide +kernel
theorem d_B_learn_240 : decode b_B_learn 240 = .ok (.aload_n 0, 1) := by decide +kernel
theorem d_B_learn_241 : decode b_B_learn 241 = .ok (.getfield 10, 3) := by decide +kernel
theorem d_B_learn_244 : decode b_B_learn 244 = .ok (.iload_n 2, 1) := by decide +kernel
theorem d_B_learn_245 : decode b_B_learn 245 = .ok (.iload_n 2, 1) := by decide +kernel
theorem d_B_learn_246 : decode b_B_learn 246 = .ok (.imul, 1) := by decide +kernel
theorem d_B_learn_247 : decode b_B_learn 247 = .ok (.invokevirtual 70, 3) := by decide +kernel
theorem d_B_learn_250 : decode b_B_learn 250 = .ok (.aload_n 0, 1) := by decide +kernel
theorem d_B_learn_251 : decode b_B_learn 251 = .ok (.getfield 19, 3) := by decide +kernel
theorem d_B_learn_254 : decode b_B_learn 254 = .ok (.iload 4, 2) := by decide +kernel
theorem d_B_learn_256 : decode b_B_learn 256 = .ok (.invokevirtual 63, 3) := by decide +kernel
theorem d_B_learn_259 : decode b_B_learn 259 = .ok (.aload_n 0, 1) := by decide +kernel
theorem d_B_learn_260 : decode b_B_learn 260 = .ok (.getfield 19, 3) := by decide +kernel
theorem d_B_learn_263 : decode b_B_learn 263 = .ok (.aload_n 0, 1) := by decide +kernel
theorem d_B_learn_264 : decode b_B_learn 264 = .ok (.getfield 10, 3) := by decide +kernel
theorem d_B_learn_267 : decode b_B_learn 267 = .ok (.iload_n 2, 1) := by decide +kernel
theorem d_B_learn_268 : decode b_B_learn 268 = .ok (.iload_n 3, 1) := by decide +kernel
theorem d_B_learn_269 : decode b_B_learn 269 = .ok (.imul, 1) := by decide +kernel
theorem d_B_learn_270 : decode b_B_learn 270 = .ok (.invokevirtual 70, 3) := by decide +kernel
theorem d_B_learn_273 : decode b_B_learn 273 = .ok (.aload_n 0, 1) := by decide +kernel
theorem d_B_learn_274 : decode b_B_learn 274 = .ok (.getfield 22, 3) := by decide +kernel
theorem d_B_learn_277 : decode b_B_learn 277 = .ok (.iload 4, 2) := by decide +kernel
theorem d_B_learn_279 : decode b_B_learn 279 = .ok (.invokevirtual 63, 3) := by decide +kernel
theorem d_B_learn_282 : decode b_B_learn 282 = .ok (.aload_n 0, 1) := by decide +kernel
theorem d_B_learn_283 : decode b_B_learn 283 = .ok (.getfield 22, 3) := by decide +kernel
end
section
theorem d_B_learn_286 : decode b_B_learn 286 = .ok (.aload_n 0, 1) := by decide +kernel
theorem d_B_learn_287 : decode b_B_learn 287 = .ok (.getfield 10, 3) := by decide +kernel
theorem d_B_learn_290 : decode b_B_learn 290 = .ok (.iload_n 3, 1) := by decide +kernel
theorem d_B_learn_291 : decode b_B_learn 291 = .ok (.iload_n 3, 1) := by decide +kernel
theorem d_B_learn_292 : decode b_B_learn 292 = .ok (.imul, 1) := by decide +kernel
theorem d_B_learn_293 : decode b_B_learn 293 = .ok (.invokevirtual 70, 3) := by decide +kernel
theorem d_B_learn_296 : decode b_B_learn 296 = .ok (.aload_n 0, 1) := by decide +kernel
theorem d_B_learn_297 : decode b_B_learn 297 = .ok (.getfield 10, 3) := by decide +kernel
theorem d_B_learn_300 : decode b_B_learn 300 = .ok (.iload 4, 2) := by decide +kernel
theorem d_B_learn_302 : decode b_B_learn 302 = .ok (.invokevirtual 63, 3) := by decide +kernel
theorem d_B_learn_305 : decode b_B_learn 305 = .ok (.return_, 1) := by decide +kernel
theorem d_B_addNoise_0 : decode b_B_addNoise 0 = .ok (.aload_n 0, 1) := by decide +kernel
theorem d_B_addNoise_1 : decode b_B_addNoise 1 = .ok (.getfield 10, 3) := by decide +kernel
theorem d_B_addNoise_4 : decode b_B_addNoise 4 = .ok (.aload_n 0, 1) := by decide +kernel
theorem d_B_addNoise_5 : decode b_B_addNoise 5 = .ok (.getfield 16, 3) := by decide +kernel
theorem d_B_addNoise_8 : decode b_B_addNoise 8 = .ok (.aload_n 1, 1) := by decide +kernel
theorem d_B_addNoise_9 : decode b_B_addNoise 9 = .ok (.getfield 74, 3) := by decide +kernel
theorem d_B_addNoise_12 : decode b_B_addNoise 12 = .ok (.aload_n 0, 1) := by decide +kernel
theorem d_B_addNoise_13 : decode b_B_addNoise 13 = .ok (.getfield 22, 3) := by decide +kernel
theorem d_B_addNoise_16 : decode b_B_addNoise 16 = .ok (.aload_n 1, 1) := by decide +kernel
theorem d_B_addNoise_17 : decode b_B_addNoise 17 = .ok (.getfield 79, 3) := by decide +kernel
theorem d_B_addNoise_20 : decode b_B_addNoise 20 = .ok (.invokevirtual 66, 3) := by decide +kernel
theorem d_B_addNoise_23 : decode b_B_addNoise 23 = .ok (.aload_n 0, 1) := by decide +kernel
theorem d_B_addNoise_24 : decode b_B_addNoise 24 = .ok (.getfield 10, 3) := by decide +kernel
theorem d_B_addNoise_27 : decode b_B_addNoise 27 = .ok (.aload_n 0, 1) := by decide +kernel
theorem d_B_addNoise_28 : decode b_B_addNoise 28 = .ok (.getfield 19, 3) := by decide +kernel
theorem d_B_addNoise_31 : decode b_B_addNoise 31 = .ok (.iconst 2, 1) := by decide +kernel
theorem d_B_addNoise_32 : decode b_B_addNoise 32 = .ok (.aload_n 1, 1) := by decide +kernel
theorem d_B_addNoise_33 : decode b_B_addNoise 33 = .ok (.getfield 82, 3) := by decide +kernel
theorem d_B_addNoise_36 : decode b_B_addNoise 36 = .ok (.imul, 1) := by decide +kernel
theorem d_B_addNoise_37 : decode b_B_addNoise 37 = .ok (.aload_n 0, 1) := by decide +kernel
theorem d_B_addNoise_38 : decode b_B_addNoise 38 = .ok (.getfield 25, 3) := by decide +kernel
theorem d_B_addNoise_41 : decode b_B_addNoise 41 = .ok (.aload_n 1, 1) := by decide +kernel
theorem d_B_addNoise_42 : decode b_B_addNoise 42 = .ok (.invokevirtual 85, 3) := by decide +kernel
theorem d_B_addNoise_45 : decode b_B_addNoise 45 = .ok (.invokevirtual 66, 3) := by decide +kernel
theorem d_B_addNoise_48 : decode b_B_addNoise 48 = .ok (.aload_n 0, 1) := by decide +kernel
theorem d_B_addNoise_49 : decode b_B_addNoise 49 = .ok (.getfield 16, 3) := by decide +kernel
theorem d_B_addNoise_52 : decode b_B_addNoise 52 = .ok (.aload_n 0, 1) := by decide +kernel
theorem d_B_addNoise_53 : decode b_B_addNoise 53 = .ok (.getfield 25, 3) := by decide +kernel
theorem d_B_addNoise_56 : decode b_B_addNoise 56 = .ok (.aload_n 1, 1) := by decide +kernel
theorem d_B_addNoise_57 : decode b_B_addNoise 57 = .ok (.getfield 79, 3) := by decide +kernel
theorem d_B_addNoise_60 : decode b_B_addNoise 60 = .ok (.invokevirtual 70, 3) := by decide +kernel
theorem d_B_addNoise_63 : decode b_B_addNoise 63 = .ok (.aload_n 0, 1) := by decide +kernel
theorem d_B_addNoise_64 : decode b_B_addNoise 64 = .ok (.getfield 19, 3) := by decide +kernel
theorem d_B_addNoise_67 : decode b_B_addNoise 67 = .ok (.aload_n 0, 1) := by decide +kernel
theorem d_B_addNoise_68 : decode b_B_addNoise 68 = .ok (.getfield 25, 3) := by decide +kernel
theorem d_B_addNoise_71 : decode b_B_addNoise 71 = .ok (.aload_n 1, 1) := by decide +kernel
theorem d_B_addNoise_72 : decode b_B_addNoise 72 = .ok (.getfield 82, 3) := by decide +kernel
theorem d_B_addNoise_75 : decode b_B_addNoise 75 = .ok (.ineg, 1) := by decide +kernel
theorem d_B_addNoise_76 : decode b_B_addNoise 76 = .ok (.invokevirtual 70, 3) := by decide +kernel
theorem d_B_addNoise_79 : decode b_B_addNoise 79 = .ok (.aload_n 0, 1) := by decide +kernel
theorem d_B_addNoise_80 : decode b_B_addNoise 80 = .ok (.getfield 22, 3) := by decide +kernel
theorem d_B_addNoise_83 : decode b_B_addNoise 83 = .ok (.aload_n 0, 1) := by decide +kernel
theorem d_B_addNoise_84 : decode b_B_addNoise 84 = .ok (.getfield 25, 3) := by decide +kernel
theorem d_B_addNoise_87 : decode b_B_addNoise 87 = .ok (.aload_n 1, 1) := by decide +kernel
theorem d_B_addNoise_88 : decode b_B_addNoise 88 = .ok (.getfield 74, 3) := by decide +kernel
theorem d_B_addNoise_91 : decode b_B_addNoise 91 = .ok (.invokevirtual 70, 3) := by decide +kernel
theorem d_B_addNoise_94 : decode b_B_addNoise 94 = .ok (.aload_n 0, 1) := by decide +kernel
theorem d_B_addNoise_95 : decode b_B_addNoise 95 = .ok (.getfield 28, 3) := by decide +kernel
theorem d_B_addNoise_98 : decode b_B_addNoise 98 = .ok (.aload_n 0, 1) := by decide +kernel
theorem d_B_addNoise_99 : decode b_B_addNoise 99 = .ok (.getfield 34, 3) := by decide +kernel
theorem d_B_addNoise_102 : decode b_B_addNoise 102 = .ok (.aload_n 1, 1) := by decide +kernel
theorem d_B_addNoise_103 : decode b_B_addNoise 103 = .ok (.getfield 79, 3) := by decide +kernel
theorem d_B_addNoise_106 : decode b_B_addNoise 106 = .ok (.aload_n 0, 1) := by decide +kernel
theorem d_B_addNoise_107 : decode b_B_addNoise 107 = .ok (.getfield 37, 3) := by decide +kernel
theorem d_B_addNoise_110 : decode b_B_addNoise 110 = .ok (.aload_n 1, 1) := by decide +kernel
theorem d_B_addNoise_111 : decode b_B_addNoise 111 = .ok (.getfield 82, 3) := by decide +kernel
theorem d_B_addNoise_114 : decode b_B_addNoise 114 = .ok (.ineg, 1) := by decide +kernel
theorem d_B_addNoise_115 : decode b_B_addNoise 115 = .ok (.invokevirtual 66, 3) := by decide +kernel
theorem d_B_addNoise_118 : decode b_B_addNoise 118 = .ok (.aload_n 0, 1) := by decide +kernel
theorem d_B_addNoise_119 : decode b_B_addNoise 119 = .ok (.getfield 31, 3) := by decide +kernel
theorem d_B_addNoise_122 : decode b_B_addNoise 122 = .ok (.aload_n 0, 1) := by decide +kernel
theorem d_B_addNoise_123 : decode b_B_addNoise 123 = .ok (.getfield 37, 3) := by decide +kernel
theorem d_B_addNoise_126 : decode b_B_addNoise 126 = .ok (.aload_n 1, 1) := by decide +kernel
theorem d_B_addNoise_127 : decode b_B_addNoise 127 = .ok (.getfield 74, 3) := by decide +kernel
theorem d_B_addNoise_130 : decode b_B_addNoise 130 = .ok (.aload_n 0, 1) := by decide +kernel
theorem d_B_addNoise_131 : decode b_B_addNoise 131 = .ok (.getfield 34, 3) := by decide +kernel
theorem d_B_addNoise_134 : decode b_B_addNoise 134 = .ok (.aload_n 1, 1) := by decide +kernel
theorem d_B_addNoise_135 : decode b_B_addNoise 135 = .ok (.getfield 82, 3) := by decide +kernel
theorem d_B_addNoise_138 : decode b_B_addNoise 138 = .ok (.ineg, 1) := by decide +kernel
theorem d_B_addNoise_139 : decode b_B_addNoise 139 = .ok (.invokevirtual 66, 3) := by decide +kernel
theorem d_B_addNoise_142 : decode b_B_addNoise 142 = .ok (.return_, 1) := by decide +kernel
theorem d_B_moveOn_0 : decode b_B_moveOn 0 = .ok (.aload_n 0, 1) := by decide +kernel
theorem d_B_moveOn_1 : decode b_B_moveOn 1 = .ok (.aload_n 1, 1) := by decide +kernel
theorem d_B_moveOn_2 : decode b_B_moveOn 2 = .ok (.aload_n 2, 1) := by decide +kernel
theorem d_B_moveOn_3 : decode b_B_moveOn 3 = .ok (.getfield 89, 3) := by decide +kernel
theorem d_B_moveOn_6 : decode b_B_moveOn 6 = .ok (.aload_n 2, 1) := by decide +kernel
theorem d_B_moveOn_7 : decode b_B_moveOn 7 = .ok (.getfield 92, 3) := by decide +kernel
theorem d_B_moveOn_10 : decode b_B_moveOn 10 = .ok (.ineg, 1) := by decide +kernel
theorem d_B_moveOn_11 : decode b_B_moveOn 11 = .ok (.aload_n 2, 1) := by decide +kernel
theorem d_B_moveOn_12 : decode b_B_moveOn 12 = .ok (.getfield 95, 3) := by decide +kernel
theorem d_B_moveOn_15 : decode b_B_moveOn 15 = .ok (.ineg, 1) := by decide +kernel
theorem d_B_moveOn_16 : decode b_B_moveOn 16 = .ok (.aload_n 2, 1) := by decide +kernel
theorem d_B_moveOn_17 : decode b_B_moveOn 17 = .ok (.getfield 98, 3) := by decide +kernel
theorem d_B_moveOn_20 : decode b_B_moveOn 20 = .ok (.invokevirtual 101, 3) := by decide +kernel
theorem d_B_moveOn_23 : decode b_B_moveOn 23 = .ok (.aload_n 0, 1) := by decide +kernel
theorem d_B_moveOn_24 : decode b_B_moveOn 24 = .ok (.aload_n 1, 1) := by decide +kernel
theorem d_B_moveOn_25 : decode b_B_moveOn 25 = .ok (.aload_n 2, 1) := by decide +kernel
theorem d_B_moveOn_26 : decode b_B_moveOn 26 = .ok (.invokevirtual 105, 3) := by decide +kernel
theorem d_B_moveOn_29 : decode b_B_moveOn 29 = .ok (.iconst 1, 1) := by decide +kernel
theorem d_B_moveOn_30 : decode b_B_moveOn 30 = .ok (.invokevirtual 108, 3) := by decide +kernel
theorem d_B_moveOn_33 : decode b_B_moveOn 33 = .ok (.return_, 1) := by decide +kernel
theorem d_B_moveBack_0 : decode b_B_moveBack 0 = .ok (.aload_n 0, 1) := by decide +kernel
theorem d_B_moveBack_1 : decode b_B_moveBack 1 = .ok (.aload_n 1, 1) := by decide +kernel
theorem d_B_moveBack_2 : decode b_B_moveBack 2 = .ok (.aload_n 2, 1) := by decide +kernel
theorem d_B_moveBack_3 : decode b_B_moveBack 3 = .ok (.getfield 98, 3) := by decide +kernel
theorem d_B_moveBack_6 : decode b_B_moveBack 6 = .ok (.aload_n 2, 1) := by decide +kernel
theorem d_B_moveBack_7 : decode b_B_moveBack 7 = .ok (.getfield 92, 3) := by decide +kernel
theorem d_B_moveBack_10 : decode b_B_moveBack 10 = .ok (.aload_n 2, 1) := by decide +kernel
theorem d_B_moveBack_11 : decode b_B_moveBack 11 = .ok (.getfield 95, 3) := by decide +kernel
theorem d_B_moveBack_14 : decode b_B_moveBack 14 = .ok (.aload_n 2, 1) := by decide +kernel
theorem d_B_moveBack_15 : decode b_B_moveBack 15 = .ok (.getfield 89, 3) := by decide +kernel
theorem d_B_moveBack_18 : decode b_B_moveBack 18 = .ok (.invokevirtual 101, 3) := by decide +kernel
theorem d_B_moveBack_21 : decode b_B_moveBack 21 = .ok (.aload_n 0, 1) := by decide +kernel
theorem d_B_moveBack_22 : decode b_B_moveBack 22 = .ok (.aload_n 1, 1) := by decide +kernel
theorem d_B_moveBack_23 : decode b_B_moveBack 23 = .ok (.iconst 1, 1) := by decide +kernel
theorem d_B_moveBack_24 : decode b_B_moveBack 24 = .ok (.aload_n 2, 1) := by decide +kernel
theorem d_B_moveBack_25 : decode b_B_moveBack 25 = .ok (.invokevirtual 105, 3) := by decide +kernel
theorem d_B_moveBack_28 : decode b_B_moveBack 28 = .ok (.invokevirtual 108, 3) := by decide +kernel
theorem d_B_moveBack_31 : decode b_B_moveBack 31 = .ok (.return_, 1) := by decide +kernel
theorem d_B_turn_0 : decode b_B_turn 0 = .ok (.aload_n 0, 1) := by decide +kernel
theorem d_B_turn_1 : decode b_B_turn 1 = .ok (.getfield 16, 3) := by decide +kernel
theorem d_B_turn_4 : decode b_B_turn 4 = .ok (.aload_n 1, 1) := by decide +kernel
theorem d_B_turn_5 : decode b_B_turn 5 = .ok (.getfield 16, 3) := by decide +kernel
theorem d_B_turn_8 : decode b_B_turn 8 = .ok (.iload_n 2, 1) := by decide +kernel
theorem d_B_turn_9 : decode b_B_turn 9 = .ok (.iload_n 2, 1) := by decide +kernel
theorem d_B_turn_10 : decode b_B_turn 10 = .ok (.imul, 1) := by decide +kernel
theorem d_B_turn_11 : decode b_B_turn 11 = .ok (.aload_n 1, 1) := by decide +kernel
theorem d_B_turn_12 : decode b_B_turn 12 = .ok (.getfield 19, 3) := by decide +kernel
theorem d_B_turn_15 : decode b_B_turn 15 = .ok (.iconst 2, 1) := by decide +kernel
theorem d_B_turn_16 : decode b_B_turn 16 = .ok (.iload_n 2, 1) := by decide +kernel
theorem d_B_turn_17 : decode b_B_turn 17 = .ok (.imul, 1) := by decide +kernel
theorem d_B_turn_18 : decode b_B_turn 18 = .ok (.iload 4, 2) := by decide +kernel
theorem d_B_turn_20 : decode b_B_turn 20 = .ok (.imul, 1) := by decide +kernel
theorem d_B_turn_21 : decode b_B_turn 21 = .ok (.aload_n 1, 1) := by decide +kernel
theorem d_B_turn_22 : decode b_B_turn 22 = .ok (.getfield 22, 3) := by decide +kernel
theorem d_B_turn_25 : decode b_B_turn 25 = .ok (.iload 4, 2) := by decide +kernel
theorem d_B_turn_27 : decode b_B_turn 27 = .ok (.iload 4, 2) := by decide +kernel
theorem d_B_turn_29 : decode b_B_turn 29 = .ok (.imul, 1) := by decide +kernel
theorem d_B_turn_30 : decode b_B_turn 30 = .ok (.invokevirtual 112, 3) := by decide +kernel
theorem d_B_turn_33 : decode b_B_turn 33 = .ok (.aload_n 0, 1) := by decide +kernel
theorem d_B_turn_34 : decode b_B_turn 34 = .ok (.getfield 19, 3) := by decide +kernel
theorem d_B_turn_37 : decode b_B_turn 37 = .ok (.aload_n 1, 1) := by decide +kernel
theorem d_B_turn_38 : decode b_B_turn 38 = .ok (.getfield 16, 3) := by decide +kernel
theorem d_B_turn_41 : decode b_B_turn 41 = .ok (.iload_n 2, 1) := by decide +kernel
theorem d_B_turn_42 : decode b_B_turn 42 = .ok (.iload_n 3, 1) := by decide +kernel
theorem d_B_turn_43 : decode b_B_turn 43 = .ok (.imul, 1) := by decide +kernel
theorem d_B_turn_44 : decode b_B_turn 44 = .ok (.aload_n 1, 1) := by decide +kernel
theorem d_B_turn_45 : decode b_B_turn 45 = .ok (.getfield 19, 3) := by decide +kernel
theorem d_B_turn_48 : decode b_B_turn 48 = .ok (.iload_n 2, 1) := by decide +kernel
theorem d_B_turn_49 : decode b_B_turn 49 = .ok (.iload 5, 2) := by decide +kernel
theorem d_B_turn_51 : decode b_B_turn 51 = .ok (.imul, 1) := by decide +kernel
theorem d_B_turn_52 : decode b_B_turn 52 = .ok (.iload_n 3, 1) := by decide +kernel
theorem d_B_turn_53 : decode b_B_turn 53 = .ok (.iload 4, 2) := by decide +kernel
theorem d_B_turn_55 : decode b_B_turn 55 = .ok (.imul, 1) := by decide +kernel
theorem d_B_turn_56 : decode b_B_turn 56 = .ok (.iadd, 1) := by decide +kernel
theorem d_B_turn_57 : decode b_B_turn 57 = .ok (.aload_n 1, 1) := by decide +kernel
theorem d_B_turn_58 : decode b_B_turn 58 = .ok (.getfield 22, 3) := by decide +kernel
theorem d_B_turn_61 : decode b_B_turn 61 = .ok (.iload 4, 2) := by decide +kernel
theorem d_B_turn_63 : decode b_B_turn 63 = .ok (.iload 5, 2) := by decide +kernel
theorem d_B_turn_65 : decode b_B_turn 65 = .ok (.imul, 1) := by decide +kernel
theorem d_B_turn_66 : decode b_B_turn 66 = .ok (.invokevirtual 112, 3) := by decide +kernel
theorem d_B_turn_69 : decode b_B_turn 69 = .ok (.aload_n 0, 1) := by decide +kernel
theorem d_B_turn_70 : decode b_B_turn 70 = .ok (.getfield 22, 3) := by decide +kernel
theorem d_B_turn_73 : decode b_B_turn 73 = .ok (.aload_n 1, 1) := by decide +kernel
theorem d_B_turn_74 : decode b_B_turn 74 = .ok (.getfield 16, 3) := by decide +kernel
theorem d_B_turn_77 : decode b_B_turn 77 = .ok (.iload_n 3, 1) := by decide +kernel
theorem d_B_turn_78 : decode b_B_turn 78 = .ok (.iload_n 3, 1) := by decide +kernel
theorem d_B_turn_79 : decode b_B_turn 79 = .ok (.imul, 1) := by decide +kernel
theorem d_B_turn_80 : decode b_B_turn 80 = .ok (.aload_n 1, 1) := by decide +kernel
theorem d_B_turn_81 : decode b_B_turn 81 = .ok (.getfield 19, 3) := by decide +kernel
theorem d_B_turn_84 : decode b_B_turn 84 = .ok (.iconst 2, 1) := by decide +kernel
theorem d_B_turn_85 : decode b_B_turn 85 = .ok (.iload_n 3, 1) := by decide +kernel
theorem d_B_turn_86 : decode b_B_turn 86 = .ok (.imul, 1) := by decide +kernel
theorem d_B_turn_87 : decode b_B_turn 87 = .ok (.iload 5, 2) := by decide +kernel
theorem d_B_turn_89 : decode b_B_turn 89 = .ok (.imul, 1) := by decide +kernel
theorem d_B_turn_90 : decode b_B_turn 90 = .ok (.aload_n 1, 1) := by decide +kernel
theorem d_B_turn_91 : decode b_B_turn 91 = .ok (.getfield 22, 3) := by decide +kernel
theorem d_B_turn_94 : decode b_B_turn 94 = .ok (.iload 5, 2) := by decide +kernel
theorem d_B_turn_96 : decode b_B_turn 96 = .ok (.iload 5, 2) := by decide +kernel
theorem d_B_turn_98 : decode b_B_turn 98 = .ok (.imul, 1) := by decide +kernel
theorem d_B_turn_99 : decode b_B_turn 99 = .ok (.invokevirtual 112, 3) := by decide +kernel
theorem d_B_turn_102 : decode b_B_turn 102 = .ok (.aload_n 0, 1) := by decide +kernel
theorem d_B_turn_103 : decode b_B_turn 103 = .ok (.getfield 28, 3) := by decide +kernel
theorem d_B_turn_106 : decode b_B_turn 106 = .ok (.aload_n 1, 1) := by decide +kernel
theorem d_B_turn_107 : decode b_B_turn 107 = .ok (.getfield 28, 3) := by decide +kernel
theorem d_B_turn_110 : decode b_B_turn 110 = .ok (.iload_n 2, 1) := by decide +kernel
theorem d_B_turn_111 : decode b_B_turn 111 = .ok (.invokevirtual 116, 3) := by decide +kernel
theorem d_B_turn_114 : decode b_B_turn 114 = .ok (.aload_n 0, 1) := by decide +kernel
theorem d_B_turn_115 : decode b_B_turn 115 = .ok (.getfield 28, 3) := by decide +kernel
theorem d_B_turn_118 : decode b_B_turn 118 = .ok (.aload_n 1, 1) := by decide +kernel
theorem d_B_turn_119 : decode b_B_turn 119 = .ok (.getfield 31, 3) := by decide +kernel
theorem d_B_turn_122 : decode b_B_turn 122 = .ok (.iload 4, 2) := by decide +kernel
theorem d_B_turn_124 : decode b_B_turn 124 = .ok (.invokevirtual 70, 3) := by decide +kernel
theorem d_B_turn_127 : decode b_B_turn 127 = .ok (.aload_n 0, 1) := by decide +kernel
theorem d_B_turn_128 : decode b_B_turn 128 = .ok (.getfield 31, 3) := by decide +kernel
theorem d_B_turn_131 : decode b_B_turn 131 = .ok (.aload_n 1, 1) := by decide +kernel
theorem d_B_turn_132 : decode b_B_turn 132 = .ok (.getfield 28, 3) := by decide +kernel
theorem d_B_turn_135 : decode b_B_turn 135 = .ok (.iload_n 3, 1) := by decide +kernel
theorem d_B_turn_136 : decode b_B_turn 136 = .ok (.invokevirtual 116, 3) := by decide +kernel
theorem d_B_turn_139 : decode b_B_turn 139 = .ok (.aload_n 0, 1) := by decide +kernel
theorem d_B_turn_140 : decode b_B_turn 140 = .ok (.getfield 31, 3) := by decide +kernel
theorem d_B_turn_143 : decode b_B_turn 143 = .ok (.aload_n 1, 1) := by decide +kernel
theorem d_B_turn_144 : decode b_B_turn 144 = .ok (.getfield 31, 3) := by decide +kernel
theorem d_B_turn_147 : decode b_B_turn 147 = .ok (.iload 5, 2) := by decide +kernel
theorem d_B_turn_149 : decode b_B_turn 149 = .ok (.invokevirtual 70, 3) := by decide +kernel
theorem d_B_turn_152 : decode b_B_turn 152 = .ok (.aload_n 0, 1) := by decide +kernel
theorem d_B_turn_153 : decode b_B_turn 153 = .ok (.getfield 34, 3) := by decide +kernel
theorem d_B_turn_156 : decode b_B_turn 156 = .ok (.aload_n 1, 1) := by decide +kernel
theorem d_B_turn_157 : decode b_B_turn 157 = .ok (.getfield 34, 3) := by decide +kernel
theorem d_B_turn_160 : decode b_B_turn 160 = .ok (.iload 5, 2) := by decide +kernel
theorem d_B_turn_162 : decode b_B_turn 162 = .ok (.invokevirtual 116, 3) := by decide +kernel
theorem d_B_turn_165 : decode b_B_turn 165 = .ok (.aload_n 0, 1) := by decide +kernel
theorem d_B_turn_166 : decode b_B_turn 166 = .ok (.getfield 34, 3) := by decide +kernel
theorem d_B_turn_169 : decode b_B_turn 169 = .ok (.aload_n 1, 1) := by decide +kernel
theorem d_B_turn_170 : decode b_B_turn 170 = .ok (.getfield 37, 3) := by decide +kernel
theorem d_B_turn_173 : decode b_B_turn 173 = .ok (.iload_n 3, 1) := by decide +kernel
theorem d_B_turn_174 : decode b_B_turn 174 = .ok (.ineg, 1) := by decide +kernel
theorem d_B_turn_175 : decode b_B_turn 175 = .ok (.invokevirtual 70, 3) := by decide +kernel
theorem d_B_turn_178 : decode b_B_turn 178 = .ok (.aload_n 0, 1) := by decide +kernel
theorem d_B_turn_179 : decode b_B_turn 179 = .ok (.getfield 37, 3) := by decide +kernel
theorem d_B_turn_182 : decode b_B_turn 182 = .ok (.aload_n 1, 1) := by decide +kernel
theorem d_B_turn_183 : decode b_B_turn 183 = .ok (.getfield 37, 3) := by decide +kernel
theorem d_B_turn_186 : decode b_B_turn 186 = .ok (.iload_n 2, 1) := by decide +kernel
theorem d_B_turn_187 : decode b_B_turn 187 = .ok (.invokevirtual 116, 3) := by decide +kernel
theorem d_B_turn_190 : decode b_B_turn 190 = .ok (.aload_n 0, 1) := by decide +kernel
theorem d_B_turn_191 : decode b_B_turn 191 = .ok (.getfield 37, 3) := by decide +kernel
theorem d_B_turn_194 : decode b_B_turn 194 = .ok (.aload_n 1, 1) := by decide +kernel
theorem d_B_turn_195 : decode b_B_turn 195 = .ok (.getfield 34, 3) := by decide +kernel
theorem d_B_turn_198 : decode b_B_turn 198 = .ok (.iload 4, 2) := by decide +kernel
theorem d_B_turn_200 : decode b_B_turn 200 = .ok (.ineg, 1) := by decide +kernel
theorem d_B_turn_201 : decode b_B_turn 201 = .ok (.invokevirtual 70, 3) := by decide +kernel
theorem d_B_turn_204 : decode b_B_turn 204 = .ok (.return_, 1) := by decide +kernel
theorem d_B_moveScales_0 : decode b_B_moveScales 0 = .ok (.aload_n 0, 1) := by decide +kernel
theorem d_B_moveScales_1 : decode b_B_moveScales 1 = .ok (.getfield 10, 3) := by decide +kernel
theorem d_B_moveScales_4 : decode b_B_moveScales 4 = .ok (.aload_n 1, 1) := by decide +kernel
theorem d_B_moveScales_5 : decode b_B_moveScales 5 = .ok (.getfield 10, 3) := by decide +kernel
theorem d_B_moveScales_8 : decode b_B_moveScales 8 = .ok (.iload_n 2, 1) := by decide +kernel
theorem d_B_moveScales_9 : decode b_B_moveScales 9 = .ok (.iload_n 2, 1) := by decide +kernel
theorem d_B_moveScales_10 : decode b_B_moveScales 10 = .ok (.imul, 1) := by decide +kernel
theorem d_B_moveScales_11 : decode b_B_moveScales 11 = .ok (.invokevirtual 116, 3) := by decide +kernel
theorem d_B_moveScales_14 : decode b_B_moveScales 14 = .ok (.aload_n 0, 1) := by decide +kernel
theorem d_B_moveScales_15 : decode b_B_moveScales 15 = .ok (.getfield 28, 3) := by decide +kernel
theorem d_B_moveScales_18 : decode b_B_moveScales 18 = .ok (.iload_n 2, 1) := by decide +kernel
theorem d_B_moveScales_19 : decode b_B_moveScales 19 = .ok (.invokevirtual 63, 3) := by decide +kernel
theorem d_B_moveScales_22 : decode b_B_moveScales 22 = .ok (.aload_n 0, 1) := by decide +kernel
theorem d_B_moveScales_23 : decode b_B_moveScales 23 = .ok (.getfield 31, 3) := by decide +kernel
theorem d_B_moveScales_26 : decode b_B_moveScales 26 = .ok (.iload_n 2, 1) := by decide +kernel
theorem d_B_moveScales_27 : decode b_B_moveScales 27 = .ok (.invokevirtual 63, 3) := by decide +kernel
theorem d_B_moveScales_30 : decode b_B_moveScales 30 = .ok (.aload_n 0, 1) := by decide +kernel
theorem d_B_moveScales_31 : decode b_B_moveScales 31 = .ok (.getfield 25, 3) := by decide +kernel
theorem d_B_moveScales_34 : decode b_B_moveScales 34 = .ok (.aload_n 1, 1) := by decide +kernel
theorem d_B_moveScales_35 : decode b_B_moveScales 35 = .ok (.getfield 25, 3) := by decide +kernel
theorem d_B_moveScales_38 : decode b_B_moveScales 38 = .ok (.iload_n 3, 1) := by decide +kernel
theorem d_B_moveScales_39 : decode b_B_moveScales 39 = .ok (.iload_n 3, 1) := by decide +kernel
theorem d_B_moveScales_40 : decode b_B_moveScales 40 = .ok (.imul, 1) := by decide +kernel
theorem d_B_moveScales_41 : decode b_B_moveScales 41 = .ok (.invokevirtual 116, 3) := by decide +kernel
theorem d_B_moveScales_44 : decode b_B_moveScales 44 = .ok (.aload_n 0, 1) := by decide +kernel
theorem d_B_moveScales_45 : decode b_B_moveScales 45 = .ok (.getfield 34, 3) := by decide +kernel
theorem d_B_moveScales_48 : decode b_B_moveScales 48 = .ok (.iload_n 3, 1) := by decide +kernel
theorem d_B_moveScales_49 : decode b_B_moveScales 49 = .ok (.invokevirtual 63, 3) := by decide +kernel
theorem d_B_moveScales_52 : decode b_B_moveScales 52 = .ok (.aload_n 0, 1) := by decide +kernel
theorem d_B_moveScales_53 : decode b_B_moveScales 53 = .ok (.getfield 37, 3) := by decide +kernel
theorem d_B_moveScales_56 : decode b_B_moveScales 56 = .ok (.iload_n 3, 1) := by decide +kernel
theorem d_B_moveScales_57 : decode b_B_moveScales 57 = .ok (.invokevirtual 63, 3) := by decide +kernel
theorem d_B_moveScales_60 : decode b_B_moveScales 60 = .ok (.return_, 1) := by decide +kernel
theorem d_B_join_0 : decode b_B_join 0 = .ok (.aload_n 0, 1) := by decide +kernel
theorem d_B_join_1 : decode b_B_join 1 = .ok (.getfield 16, 3) := by decide +kernel
theorem d_B_join_4 : decode b_B_join 4 = .ok (.aload_n 1, 1) := by decide +kernel
theorem d_B_join_5 : decode b_B_join 5 = .ok (.getfield 16, 3) := by decide +kernel
theorem d_B_join_8 : decode b_B_join 8 = .ok (.aload_n 2, 1) := by decide +kernel
theorem d_B_join_9 : decode b_B_join 9 = .ok (.getfield 10, 3) := by decide +kernel
theorem d_B_join_12 : decode b_B_join 12 = .ok (.aload_n 2, 1) := by decide +kernel
theorem d_B_join_13 : decode b_B_join 13 = .ok (.getfield 16, 3) := by decide +kernel
theorem d_B_join_16 : decode b_B_join 16 = .ok (.aload_n 1, 1) := by decide +kernel
theorem d_B_join_17 : decode b_B_join 17 = .ok (.getfield 10, 3) := by decide +kernel
theorem d_B_join_20 : decode b_B_join 20 = .ok (.invokevirtual 119, 3) := by decide +kernel
theorem d_B_join_23 : decode b_B_join 23 = .ok (.aload_n 0, 1) := by decide +kernel
theorem d_B_join_24 : decode b_B_join 24 = .ok (.getfield 19, 3) := by decide +kernel
theorem d_B_join_27 : decode b_B_join 27 = .ok (.aload_n 1, 1) := by decide +kernel
theorem d_B_join_28 : decode b_B_join 28 = .ok (.getfield 19, 3) := by decide +kernel
theorem d_B_join_31 : decode b_B_join 31 = .ok (.aload_n 2, 1) := by decide +kernel
theorem d_B_join_32 : decode b_B_join 32 = .ok (.getfield 10, 3) := by decide +kernel
theorem d_B_join_35 : decode b_B_join 35 = .ok (.aload_n 2, 1) := by decide +kernel
theorem d_B_join_36 : decode b_B_join 36 = .ok (.getfield 19, 3) := by decide +kernel
theorem d_B_join_39 : decode b_B_join 39 = .ok (.aload_n 1, 1) := by decide +kernel
theorem d_B_join_40 : decode b_B_join 40 = .ok (.getfield 10, 3) := by decide +kernel
theorem d_B_join_43 : decode b_B_join 43 = .ok (.invokevirtual 119, 3) := by decide +kernel
theorem d_B_join_46 : decode b_B_join 46 = .ok (.aload_n 0, 1) := by decide +kernel
theorem d_B_join_47 : decode b_B_join 47 = .ok (.getfield 22, 3) := by decide +kernel
theorem d_B_join_50 : decode b_B_join 50 = .ok (.aload_n 1, 1) := by decide +kernel
theorem d_B_join_51 : decode b_B_join 51 = .ok (.getfield 22, 3) := by decide +kernel
theorem d_B_join_54 : decode b_B_join 54 = .ok (.aload_n 2, 1) := by decide +kernel
theorem d_B_join_55 : decode b_B_join 55 = .ok (.getfield 10, 3) := by decide +kernel
theorem d_B_join_58 : decode b_B_join 58 = .ok (.aload_n 2, 1) := by decide +kernel
theorem d_B_join_59 : decode b_B_join 59 = .ok (.getfield 22, 3) := by decide +kernel
theorem d_B_join_62 : decode b_B_join 62 = .ok (.aload_n 1, 1) := by decide +kernel
theorem d_B_join_63 : decode b_B_join 63 = .ok (.getfield 10, 3) := by decide +kernel
theorem d_B_join_66 : decode b_B_join 66 = .ok (.invokevirtual 119, 3) := by decide +kernel
theorem d_B_join_69 : decode b_B_join 69 = .ok (.aload_n 0, 1) := by decide +kernel
theorem d_B_join_70 : decode b_B_join 70 = .ok (.getfield 25, 3) := by decide +kernel
theorem d_B_join_73 : decode b_B_join 73 = .ok (.aload_n 1, 1) := by decide +kernel
theorem d_B_join_74 : decode b_B_join 74 = .ok (.getfield 19, 3) := by decide +kernel
theorem d_B_join_77 : decode b_B_join 77 = .ok (.aload_n 2, 1) := by decide +kernel
theorem d_B_join_78 : decode b_B_join 78 = .ok (.getfield 19, 3) := by decide +kernel
theorem d_B_join_81 : decode b_B_join 81 = .ok (.aload_n 1, 1) := by decide +kernel
theorem d_B_join_82 : decode b_B_join 82 = .ok (.getfield 19, 3) := by decide +kernel
theorem d_B_join_85 : decode b_B_join 85 = .ok (.aload_n 2, 1) := by decide +kernel
theorem d_B_join_86 : decode b_B_join 86 = .ok (.getfield 19, 3) := by decide +kernel
theorem d_B_join_89 : decode b_B_join 89 = .ok (.invokevirtual 119, 3) := by decide +kernel
theorem d_B_join_92 : decode b_B_join 92 = .ok (.aload_n 0, 1) := by decide +kernel
theorem d_B_join_93 : decode b_B_join 93 = .ok (.getfield 25, 3) := by decide +kernel
theorem d_B_join_96 : decode b_B_join 96 = .ok (.iconst (-1), 1) := by decide +kernel
theorem d_B_join_97 : decode b_B_join 97 = .ok (.invokevirtual 63, 3) := by decide +kernel
theorem d_B_join_100 : decode b_B_join 100 = .ok (.aload_n 0, 1) := by decide +kernel
theorem d_B_join_101 : decode b_B_join 101 = .ok (.getfield 25, 3) := by decide +kernel
theorem d_B_join_104 : decode b_B_join 104 = .ok (.aload_n 1, 1) := by decide +kernel
theorem d_B_join_105 : decode b_B_join 105 = .ok (.getfield 16, 3) := by decide +kernel
theorem d_B_join_108 : decode b_B_join 108 = .ok (.aload_n 2, 1) := by decide +kernel
theorem d_B_join_109 : decode b_B_join 109 = .ok (.getfield 22, 3) := by decide +kernel
theorem d_B_join_112 : decode b_B_join 112 = .ok (.aload_n 1, 1) := by decide +kernel
theorem d_B_join_113 : decode b_B_join 113 = .ok (.getfield 22, 3) := by decide +kernel
theorem d_B_join_116 : decode b_B_join 116 = .ok (.aload_n 2, 1) := by decide +kernel
theorem d_B_join_117 : decode b_B_join 117 = .ok (.getfield 16, 3) := by decide +kernel
theorem d_B_join_120 : decode b_B_join 120 = .ok (.invokevirtual 123, 3) := by decide +kernel
theorem d_B_join_123 : decode b_B_join 123 = .ok (.aload_n 0, 1) := by decide +kernel
theorem d_B_join_124 : decode b_B_join 124 = .ok (.getfield 25, 3) := by decide +kernel
theorem d_B_join_127 : decode b_B_join 127 = .ok (.aload_n 1, 1) := by decide +kernel
theorem d_B_join_128 : decode b_B_join 128 = .ok (.getfield 25, 3) := by decide +kernel
theorem d_B_join_131 : decode b_B_join 131 = .ok (.aload_n 2, 1) := by decide +kernel
theorem d_B_join_132 : decode b_B_join 132 = .ok (.getfield 10, 3) := by decide +kernel
theorem d_B_join_135 : decode b_B_join 135 = .ok (.aload_n 2, 1) := by decide +kernel
theorem d_B_join_136 : decode b_B_join 136 = .ok (.getfield 25, 3) := by decide +kernel
theorem d_B_join_139 : decode b_B_join 139 = .ok (.aload_n 1, 1) := by decide +kernel
theorem d_B_join_140 : decode b_B_join 140 = .ok (.getfield 10, 3) := by decide +kernel
theorem d_B_join_143 : decode b_B_join 143 = .ok (.invokevirtual 123, 3) := by decide +kernel
theorem d_B_join_146 : decode b_B_join 146 = .ok (.aload_n 0, 1) := by decide +kernel
theorem d_B_join_147 : decode b_B_join 147 = .ok (.getfield 34, 3) := by decide +kernel
theorem d_B_join_150 : decode b_B_join 150 = .ok (.aload_n 1, 1) := by decide +kernel
theorem d_B_join_151 : decode b_B_join 151 = .ok (.getfield 19, 3) := by decide +kernel
theorem d_B_join_154 : decode b_B_join 154 = .ok (.aload_n 2, 1) := by decide +kernel
theorem d_B_join_155 : decode b_B_join 155 = .ok (.getfield 31, 3) := by decide +kernel
theorem d_B_join_158 : decode b_B_join 158 = .ok (.aload_n 2, 1) := by decide +kernel
theorem d_B_join_159 : decode b_B_join 159 = .ok (.getfield 19, 3) := by decide +kernel
theorem d_B_join_162 : decode b_B_join 162 = .ok (.aload_n 1, 1) := by decide +kernel
theorem d_B_join_163 : decode b_B_join 163 = .ok (.getfield 31, 3) := by decide +kernel
theorem d_B_join_166 : decode b_B_join 166 = .ok (.invokevirtual 119, 3) := by decide +kernel
theorem d_B_join_169 : decode b_B_join 169 = .ok (.aload_n 0, 1) := by decide +kernel
theorem d_B_join_170 : decode b_B_join 170 = .ok (.getfield 34, 3) := by decide +kernel
theorem d_B_join_173 : decode b_B_join 173 = .ok (.iconst (-1), 1) := by decide +kernel
theorem d_B_join_174 : decode b_B_join 174 = .ok (.invokevirtual 63, 3) := by decide +kernel
theorem d_B_join_177 : decode b_B_join 177 = .ok (.aload_n 0, 1) := by decide +kernel
theorem d_B_join_178 : decode b_B_join 178 = .ok (.getfield 34, 3) := by decide +kernel
theorem d_B_join_181 : decode b_B_join 181 = .ok (.aload_n 1, 1) := by decide +kernel
theorem d_B_join_182 : decode b_B_join 182 = .ok (.getfield 22, 3) := by decide +kernel
theorem d_B_join_185 : decode b_B_join 185 = .ok (.aload_n 2, 1) := by decide +kernel
theorem d_B_join_186 : decode b_B_join 186 = .ok (.getfield 28, 3) := by decide +kernel
theorem d_B_join_189 : decode b_B_join 189 = .ok (.aload_n 2, 1) := by decide +kernel
theorem d_B_join_190 : decode b_B_join 190 = .ok (.getfield 22, 3) := by decide +kernel
theorem d_B_join_193 : decode b_B_join 193 = .ok (.aload_n 1, 1) := by decide +kernel
theorem d_B_join_194 : decode b_B_join 194 = .ok (.getfield 28, 3) := by decide +kernel
theorem d_B_join_197 : decode b_B_join 197 = .ok (.invokevirtual 123, 3) := by decide +kernel
theorem d_B_join_200 : decode b_B_join 200 = .ok (.aload_n 0, 1) := by decide +kernel
theorem d_B_join_201 : decode b_B_join 201 = .ok (.getfield 34, 3) := by decide +kernel
theorem d_B_join_204 : decode b_B_join 204 = .ok (.aload_n 1, 1) := by decide +kernel
theorem d_B_join_205 : decode b_B_join 205 = .ok (.getfield 34, 3) := by decide +kernel
theorem d_B_join_208 : decode b_B_join 208 = .ok (.aload_n 2, 1) := by decide +kernel
theorem d_B_join_209 : decode b_B_join 209 = .ok (.getfield 10, 3) := by decide +kernel
theorem d_B_join_212 : decode b_B_join 212 = .ok (.aload_n 2, 1) := by decide +kernel
theorem d_B_join_213 : decode b_B_join 213 = .ok (.getfield 34, 3) := by decide +kernel
theorem d_B_join_216 : decode b_B_join 216 = .ok (.aload_n 1, 1) := by decide +kernel
theorem d_B_join_217 : decode b_B_join 217 = .ok (.getfield 10, 3) := by decide +kernel
theorem d_B_join_220 : decode b_B_join 220 = .ok (.invokevirtual 123, 3) := by decide +kernel
theorem d_B_join_223 : decode b_B_join 223 = .ok (.aload_n 0, 1) := by decide +kernel
theorem d_B_join_224 : decode b_B_join 224 = .ok (.getfield 37, 3) := by decide +kernel
theorem d_B_join_227 : decode b_B_join 227 = .ok (.aload_n 1, 1) := by decide +kernel
theorem d_B_join_228 : decode b_B_join 228 = .ok (.getfield 19, 3) := by decide +kernel
theorem d_B_join_231 : decode b_B_join 231 = .ok (.aload_n 2, 1) := by decide +kernel
theorem d_B_join_232 : decode b_B_join 232 = .ok (.getfield 28, 3) := by decide +kernel
theorem d_B_join_235 : decode b_B_join 235 = .ok (.aload_n 2, 1) := by decide +kernel
theorem d_B_join_236 : decode b_B_join 236 = .ok (.getfield 19, 3) := by decide +kernel
theorem d_B_join_239 : decode b_B_join 239 = .ok (.aload_n 1, 1) := by decide +kernel
theorem d_B_join_240 : decode b_B_join 240 = .ok (.getfield 28, 3) := by decide +kernel
theorem d_B_join_243 : decode b_B_join 243 = .ok (.invokevirtual 119, 3) := by decide +kernel
theorem d_B_join_246 : decode b_B_join 246 = .ok (.aload_n 0, 1) := by decide +kernel
theorem d_B_join_247 : decode b_B_join 247 = .ok (.getfield 37, 3) := by decide +kernel
theorem d_B_join_250 : decode b_B_join 250 = .ok (.iconst (-1), 1) := by decide +kernel
theorem d_B_join_251 : decode b_B_join 251 = .ok (.invokevirtual 63, 3) := by decide +kernel
theorem d_B_join_254 : decode b_B_join 254 = .ok (.aload_n 0, 1) := by decide +kernel
theorem d_B_join_255 : decode b_B_join 255 = .ok (.getfield 37, 3) := by decide +kernel
theorem d_B_join_258 : decode b_B_join 258 = .ok (.aload_n 1, 1) := by decide +kernel
theorem d_B_join_259 : decode b_B_join 259 = .ok (.getfield 16, 3) := by decide +kernel
theorem d_B_join_262 : decode b_B_join 262 = .ok (.aload_n 2, 1) := by decide +kernel
theorem d_B_join_263 : decode b_B_join 263 = .ok (.getfield 31, 3) := by decide +kernel
theorem d_B_join_266 : decode b_B_join 266 = .ok (.aload_n 2, 1) := by decide +kernel
theorem d_B_join_267 : decode b_B_join 267 = .ok (.getfield 16, 3) := by decide +kernel
theorem d_B_join_270 : decode b_B_join 270 = .ok (.aload_n 1, 1) := by decide +kernel
theorem d_B_join_271 : decode b_B_join 271 = .ok (.getfield 31, 3) := by decide +kernel
theorem d_B_join_274 : decode b_B_join 274 = .ok (.invokevirtual 123, 3) := by decide +kernel
theorem d_B_join_277 : decode b_B_join 277 = .ok (.aload_n 0, 1) := by decide +kernel
theorem d_B_join_278 : decode b_B_join 278 = .ok (.getfield 37, 3) := by decide +kernel
theorem d_B_join_281 : decode b_B_join 281 = .ok (.aload_n 1, 1) := by decide +kernel
theorem d_B_join_282 : decode b_B_join 282 = .ok (.getfield 37, 3) := by decide +kernel
theorem d_B_join_285 : decode b_B_join 285 = .ok (.aload_n 2, 1) := by decide +kernel
theorem d_B_join_286 : decode b_B_join 286 = .ok (.getfield 10, 3) := by decide +kernel
theorem d_B_join_289 : decode b_B_join 289 = .ok (.aload_n 2, 1) := by decide +kernel
theorem d_B_join_290 : decode b_B_join 290 = .ok (.getfield 37, 3) := by decide +kernel
theorem d_B_join_293 : decode b_B_join 293 = .ok (.aload_n 1, 1) := by decide +kernel
theorem d_B_join_294 : decode b_B_join 294 = .ok (.getfield 10, 3) := by decide +kernel
theorem d_B_join_297 : decode b_B_join 297 = .ok (.invokevirtual 123, 3) := by decide +kernel
theorem d_B_join_300 : decode b_B_join 300 = .ok (.return_, 1) := by decide +kernel
theorem d_B_tell_0 : decode b_B_tell 0 = .ok (.aload_n 3, 1) := by decide +kernel
theorem d_B_tell_1 : decode b_B_tell 1 = .ok (.aload_n 0, 1) := by decide +kernel
theorem d_B_tell_2 : decode b_B_tell 2 = .ok (.getfield 25, 3) := by decide +kernel
theorem d_B_tell_5 : decode b_B_tell 5 = .ok (.invokevirtual 44, 3) := by decide +kernel
theorem d_B_tell_8 : decode b_B_tell 8 = .ok (.iload_n 1, 1) := by decide +kernel
theorem d_B_tell_9 : decode b_B_tell 9 = .ok (.tableswitch 76 0 3 #[31, 42, 53, 64], 31) := by decide +kernel
theorem d_B_tell_40 : decode b_B_tell 40 = .ok (.aload_n 2, 1) := by decide +kernel
theorem d_B_tell_41 : decode b_B_tell 41 = .ok (.aload_n 0, 1) := by decide +kernel
theorem d_B_tell_42 : decode b_B_tell 42 = .ok (.getfield 34, 3) := by decide +kernel
theorem d_B_tell_45 : decode b_B_tell 45 = .ok (.invokevirtual 44, 3) := by decide +kernel
theorem d_B_tell_48 : decode b_B_tell 48 = .ok (.goto 45, 3) := by decide +kernel
theorem d_B_tell_51 : decode b_B_tell 51 = .ok (.aload_n 2, 1) := by decide +kernel
theorem d_B_tell_52 : decode b_B_tell 52 = .ok (.aload_n 0, 1) := by decide +kernel
theorem d_B_tell_53 : decode b_B_tell 53 = .ok (.getfield 37, 3) := by decide +kernel
theorem d_B_tell_56 : decode b_B_tell 56 = .ok (.invokevirtual 44, 3) := by decide +kernel
theorem d_B_tell_59 : decode b_B_tell 59 = .ok (.goto 34, 3) := by decide +kernel
theorem d_B_tell_62 : decode b_B_tell 62 = .ok (.aload_n 2, 1) := by decide +kernel
theorem d_B_tell_63 : decode b_B_tell 63 = .ok (.aload_n 0, 1) := by decide +kernel
theorem d_B_tell_64 : decode b_B_tell 64 = .ok (.getfield 22, 3) := by decide +kernel
theorem d_B_tell_67 : decode b_B_tell 67 = .ok (.invokevirtual 44, 3) := by decide +kernel
theorem d_B_tell_70 : decode b_B_tell 70 = .ok (.goto 23, 3) := by decide +kernel
theorem d_B_tell_73 : decode b_B_tell 73 = .ok (.aload_n 2, 1) := by decide +kernel
theorem d_B_tell_74 : decode b_B_tell 74 = .ok (.aload_n 0, 1) := by decide +kernel
theorem d_B_tell_75 : decode b_B_tell 75 = .ok (.getfield 19, 3) := by decide +kernel
theorem d_B_tell_78 : decode b_B_tell 78 = .ok (.iconst (-1), 1) := by decide +kernel
theorem d_B_tell_79 : decode b_B_tell 79 = .ok (.invokevirtual 116, 3) := by decide +kernel
theorem d_B_tell_82 : decode b_B_tell 82 = .ok (.goto 11, 3) := by decide +kernel
theorem d_B_tell_85 : decode b_B_tell 85 = .ok (.aload_n 2, 1) := by decide +kernel
theorem d_B_tell_86 : decode b_B_tell 86 = .ok (.aload_n 0, 1) := by decide +kernel
theorem d_B_tell_87 : decode b_B_tell 87 = .ok (.getfield 16, 3) := by decide +kernel
theorem d_B_tell_90 : decode b_B_tell 90 = .ok (.invokevirtual 44, 3) := by decide +kernel
theorem d_B_tell_93 : decode b_B_tell 93 = .ok (.return_, 1) := by decide +kernel
theorem d_O_init_0 : decode b_O_init 0 = .ok (.aload_n 0, 1) := by decide +kernel
theorem d_O_init_1 : decode b_O_init 1 = .ok (.invokespecial 1, 3) := by decide +kernel
theorem d_O_init_4 : decode b_O_init 4 = .ok (.return_, 1) := by decide +kernel
theorem d_O_set_0 : decode b_O_set 0 = .ok (.aload_n 0, 1) := by decide +kernel
theorem d_O_set_1 : decode b_O_set 1 = .ok (.iload_n 1, 1) := by decide +kernel
theorem d_O_set_2 : decode b_O_set 2 = .ok (.putfield 7, 3) := by decide +kernel
theorem d_O_set_5 : decode b_O_set 5 = .ok (.aload_n 0, 1) := by decide +kernel
theorem d_O_set_6 : decode b_O_set 6 = .ok (.iload_n 2, 1) := by decide +kernel
theorem d_O_set_7 : decode b_O_set 7 = .ok (.putfield 13, 3) := by decide +kernel
theorem d_O_set_10 : decode b_O_set 10 = .ok (.aload_n 0, 1) := by decide +kernel
theorem d_O_set_11 : decode b_O_set 11 = .ok (.iload_n 3, 1) := by decide +kernel
theorem d_O_set_12 : decode b_O_set 12 = .ok (.putfield 16, 3) := by decide +kernel
theorem d_O_set_15 : decode b_O_set 15 = .ok (.aload_n 0, 1) := by decide +kernel
theorem d_O_set_16 : decode b_O_set 16 = .ok (.iload 4, 2) := by decide +kernel
theorem d_O_set_18 : decode b_O_set 18 = .ok (.putfield 19, 3) := by decide +kernel
theorem d_O_set_21 : decode b_O_set 21 = .ok (.return_, 1) := by decide +kernel
theorem d_O_place_0 : decode b_O_place 0 = .ok (.aload_n 0, 1) := by decide +kernel
theorem d_O_place_1 : decode b_O_place 1 = .ok (.iload_n 1, 1) := by decide +kernel
theorem d_O_place_2 : decode b_O_place 2 = .ok (.putfield 22, 3) := by decide +kernel
theorem d_O_place_5 : decode b_O_place 5 = .ok (.aload_n 0, 1) := by decide +kernel
theorem d_O_place_6 : decode b_O_place 6 = .ok (.iload_n 2, 1) := by decide +kernel
theorem d_O_place_7 : decode b_O_place 7 = .ok (.putfield 25, 3) := by decide +kernel
theorem d_O_place_10 : decode b_O_place 10 = .ok (.return_, 1) := by decide +kernel
theorem d_Q_init_0 : decode b_Q_init 0 = .ok (.aload_n 0, 1) := by decide +kernel
theorem d_Q_init_1 : decode b_Q_init 1 = .ok (.invokespecial 1, 3) := by decide +kernel
theorem d_Q_init_4 : decode b_Q_init 4 = .ok (.return_, 1) := by decide +kernel
theorem d_Q_setStep_0 : decode b_Q_setStep 0 = .ok (.aload_n 0, 1) := by decide +kernel
theorem d_Q_setStep_1 : decode b_Q_setStep 1 = .ok (.iload_n 1, 1) := by decide +kernel
theorem d_Q_setStep_2 : decode b_Q_setStep 2 = .ok (.putfield 7, 3) := by decide +kernel
theorem d_Q_setStep_5 : decode b_Q_setStep 5 = .ok (.aload_n 0, 1) := by decide +kernel
theorem d_Q_setStep_6 : decode b_Q_setStep 6 = .ok (.iload_n 2, 1) := by decide +kernel
theorem d_Q_setStep_7 : decode b_Q_setStep 7 = .ok (.putfield 13, 3) := by decide +kernel
theorem d_Q_setStep_10 : decode b_Q_setStep 10 = .ok (.aload_n 0, 1) := by decide +kernel
theorem d_Q_setStep_11 : decode b_Q_setStep 11 = .ok (.iload_n 3, 1) := by decide +kernel
theorem d_Q_setStep_12 : decode b_Q_setStep 12 = .ok (.putfield 16, 3) := by decide +kernel
theorem d_Q_setStep_15 : decode b_Q_setStep 15 = .ok (.aload_n 0, 1) := by decide +kernel
theorem d_Q_setStep_16 : decode b_Q_setStep 16 = .ok (.iload 4, 2) := by decide +kernel
theorem d_Q_setStep_18 : decode b_Q_setStep 18 = .ok (.putfield 19, 3) := by decide +kernel
theorem d_Q_setStep_21 : decode b_Q_setStep 21 = .ok (.return_, 1) := by decide +kernel
theorem d_Q_setNoise_0 : decode b_Q_setNoise 0 = .ok (.aload_n 0, 1) := by decide +kernel
theorem d_Q_setNoise_1 : decode b_Q_setNoise 1 = .ok (.iload_n 1, 1) := by decide +kernel
theorem d_Q_setNoise_2 : decode b_Q_setNoise 2 = .ok (.putfield 22, 3) := by decide +kernel
theorem d_Q_setNoise_5 : decode b_Q_setNoise 5 = .ok (.aload_n 0, 1) := by decide +kernel
theorem d_Q_setNoise_6 : decode b_Q_setNoise 6 = .ok (.iload_n 2, 1) := by decide +kernel
theorem d_Q_setNoise_7 : decode b_Q_setNoise 7 = .ok (.putfield 25, 3) := by decide +kernel
theorem d_Q_setNoise_10 : decode b_Q_setNoise 10 = .ok (.aload_n 0, 1) := by decide +kernel
theorem d_Q_setNoise_11 : decode b_Q_setNoise 11 = .ok (.iload_n 3, 1) := by decide +kernel
theorem d_Q_setNoise_12 : decode b_Q_setNoise 12 = .ok (.putfield 28, 3) := by decide +kernel
theorem d_Q_setNoise_15 : decode b_Q_setNoise 15 = .ok (.return_, 1) := by decide +kernel
theorem d_Q_copy_0 : decode b_Q_copy 0 = .ok (.aload_n 0, 1) := by decide +kernel
theorem d_Q_copy_1 : decode b_Q_copy 1 = .ok (.aload_n 1, 1) := by decide +kernel
theorem d_Q_copy_2 : decode b_Q_copy 2 = .ok (.getfield 7, 3) := by decide +kernel
theorem d_Q_copy_5 : decode b_Q_copy 5 = .ok (.aload_n 1, 1) := by decide +kernel
theorem d_Q_copy_6 : decode b_Q_copy 6 = .ok (.getfield 13, 3) := by decide +kernel
theorem d_Q_copy_9 : decode b_Q_copy 9 = .ok (.aload_n 1, 1) := by decide +kernel
theorem d_Q_copy_10 : decode b_Q_copy 10 = .ok (.getfield 16, 3) := by decide +kernel
theorem d_Q_copy_13 : decode b_Q_copy 13 = .ok (.aload_n 1, 1) := by decide +kernel
theorem d_Q_copy_14 : decode b_Q_copy 14 = .ok (.getfield 19, 3) := by decide +kernel
theorem d_Q_copy_17 : decode b_Q_copy 17 = .ok (.invokevirtual 31, 3) := by decide +kernel
theorem d_Q_copy_20 : decode b_Q_copy 20 = .ok (.aload_n 0, 1) := by decide +kernel
theorem d_Q_copy_21 : decode b_Q_copy 21 = .ok (.aload_n 1, 1) := by decide +kernel
theorem d_Q_copy_22 : decode b_Q_copy 22 = .ok (.getfield 22, 3) := by decide +kernel
theorem d_Q_copy_25 : decode b_Q_copy 25 = .ok (.aload_n 1, 1) := by decide +kernel
theorem d_Q_copy_26 : decode b_Q_copy 26 = .ok (.getfield 25, 3) := by decide +kernel
theorem d_Q_copy_29 : decode b_Q_copy 29 = .ok (.aload_n 1, 1) := by decide +kernel
theorem d_Q_copy_30 : decode b_Q_copy 30 = .ok (.getfield 28, 3) := by decide +kernel
theorem d_Q_copy_33 : decode b_Q_copy 33 = .ok (.invokevirtual 35, 3) := by decide +kernel
theorem d_Q_copy_36 : decode b_Q_copy 36 = .ok (.return_, 1) := by decide +kernel
theorem d_Q_stepDeterminant_0 : decode b_Q_stepDeterminant 0 = .ok (.aload_n 0, 1) := by decide +kernel
theorem d_Q_stepDeterminant_1 : decode b_Q_stepDeterminant 1 = .ok (.getfield 7, 3) := by decide +kernel
theorem d_Q_stepDeterminant_4 : decode b_Q_stepDeterminant 4 = .ok (.aload_n 0, 1) := by decide +kernel
theorem d_Q_stepDeterminant_5 : decode b_Q_stepDeterminant 5 = .ok (.getfield 19, 3) := by decide +kernel
theorem d_Q_stepDeterminant_8 : decode b_Q_stepDeterminant 8 = .ok (.imul, 1) := by decide +kernel
theorem d_Q_stepDeterminant_9 : decode b_Q_stepDeterminant 9 = .ok (.aload_n 0, 1) := by decide +kernel
theorem d_Q_stepDeterminant_10 : decode b_Q_stepDeterminant 10 = .ok (.getfield 13, 3) := by decide +kernel
theorem d_Q_stepDeterminant_13 : decode b_Q_stepDeterminant 13 = .ok (.aload_n 0, 1) := by decide +kernel
theorem d_Q_stepDeterminant_14 : decode b_Q_stepDeterminant 14 = .ok (.getfield 16, 3) := by decide +kernel
theorem d_Q_stepDeterminant_17 : decode b_Q_stepDeterminant 17 = .ok (.imul, 1) := by decide +kernel
theorem d_Q_stepDeterminant_18 : decode b_Q_stepDeterminant 18 = .ok (.isub, 1) := by decide +kernel
theorem d_Q_stepDeterminant_19 : decode b_Q_stepDeterminant 19 = .ok (.ireturn, 1) := by decide +kernel
theorem d_Q_noiseDeterminant_0 : decode b_Q_noiseDeterminant 0 = .ok (.aload_n 0, 1) := by decide +kernel
theorem d_Q_noiseDeterminant_1 : decode b_Q_noiseDeterminant 1 = .ok (.getfield 22, 3) := by decide +kernel
theorem d_Q_noiseDeterminant_4 : decode b_Q_noiseDeterminant 4 = .ok (.aload_n 0, 1) := by decide +kernel
theorem d_Q_noiseDeterminant_5 : decode b_Q_noiseDeterminant 5 = .ok (.getfield 28, 3) := by decide +kernel
theorem d_Q_noiseDeterminant_8 : decode b_Q_noiseDeterminant 8 = .ok (.imul, 1) := by decide +kernel
theorem d_Q_noiseDeterminant_9 : decode b_Q_noiseDeterminant 9 = .ok (.aload_n 0, 1) := by decide +kernel
theorem d_Q_noiseDeterminant_10 : decode b_Q_noiseDeterminant 10 = .ok (.getfield 25, 3) := by decide +kernel
theorem d_Q_noiseDeterminant_13 : decode b_Q_noiseDeterminant 13 = .ok (.aload_n 0, 1) := by decide +kernel
theorem d_Q_noiseDeterminant_14 : decode b_Q_noiseDeterminant 14 = .ok (.getfield 25, 3) := by decide +kernel
theorem d_Q_noiseDeterminant_17 : decode b_Q_noiseDeterminant 17 = .ok (.imul, 1) := by decide +kernel
theorem d_Q_noiseDeterminant_18 : decode b_Q_noiseDeterminant 18 = .ok (.isub, 1) := by decide +kernel
theorem d_Q_noiseDeterminant_19 : decode b_Q_noiseDeterminant 19 = .ok (.ireturn, 1) := by decide +kernel
theorem d_W_init_0 : decode b_W_init 0 = .ok (.aload_n 0, 1) := by decide +kernel
theorem d_W_init_1 : decode b_W_init 1 = .ok (.invokespecial 3, 3) := by decide +kernel
theorem d_W_init_4 : decode b_W_init 4 = .ok (.aload_n 0, 1) := by decide +kernel
theorem d_W_init_5 : decode b_W_init 5 = .ok (.iconst 5, 1) := by decide +kernel
theorem d_W_init_6 : decode b_W_init 6 = .ok (.newarray .long, 2) := by decide +kernel
theorem d_W_init_8 : decode b_W_init 8 = .ok (.putfield 9, 3) := by decide +kernel
theorem d_W_init_11 : decode b_W_init 11 = .ok (.return_, 1) := by decide +kernel
theorem d_W_set_0 : decode b_W_set 0 = .ok (.iload_n 1, 1) := by decide +kernel
theorem d_W_set_1 : decode b_W_set 1 = .ok (.i2l, 1) := by decide +kernel
theorem d_W_set_2 : decode b_W_set 2 = .ok (.lstore_n 2, 1) := by decide +kernel
theorem d_W_set_3 : decode b_W_set 3 = .ok (.iconst 0, 1) := by decide +kernel
theorem d_W_set_4 : decode b_W_set 4 = .ok (.istore 4, 2) := by decide +kernel
theorem d_W_set_6 : decode b_W_set 6 = .ok (.iload 4, 2) := by decide +kernel
theorem d_W_set_8 : decode b_W_set 8 = .ok (.iconst 5, 1) := by decide +kernel
theorem d_W_set_9 : decode b_W_set 9 = .ok (.if_icmp .ge 26, 3) := by decide +kernel
theorem d_W_set_12 : decode b_W_set 12 = .ok (.aload_n 0, 1) := by decide +kernel
theorem d_W_set_13 : decode b_W_set 13 = .ok (.getfield 9, 3) := by decide +kernel
theorem d_W_set_16 : decode b_W_set 16 = .ok (.iload 4, 2) := by decide +kernel
theorem d_W_set_18 : decode b_W_set 18 = .ok (.lload_n 2, 1) := by decide +kernel
theorem d_W_set_19 : decode b_W_set 19 = .ok (.ldc2_w 13, 3) := by decide +kernel
theorem d_W_set_22 : decode b_W_set 22 = .ok (.land, 1) := by decide +kernel
theorem d_W_set_23 : decode b_W_set 23 = .ok (.lastore, 1) := by decide +kernel
theorem d_W_set_24 : decode b_W_set 24 = .ok (.lload_n 2, 1) := by decide +kernel
theorem d_W_set_25 : decode b_W_set 25 = .ok (.bipush 32, 2) := by decide +kernel
theorem d_W_set_27 : decode b_W_set 27 = .ok (.lshr, 1) := by decide +kernel
theorem d_W_set_28 : decode b_W_set 28 = .ok (.lstore_n 2, 1) := by decide +kernel
theorem d_W_set_29 : decode b_W_set 29 = .ok (.iinc 4 1, 3) := by decide +kernel
theorem d_W_set_32 : decode b_W_set 32 = .ok (.goto (-26), 3) := by decide +kernel
theorem d_W_set_35 : decode b_W_set 35 = .ok (.return_, 1) := by decide +kernel
theorem d_W_copy_0 : decode b_W_copy 0 = .ok (.iconst 0, 1) := by decide +kernel
theorem d_W_copy_1 : decode b_W_copy 1 = .ok (.istore_n 2, 1) := by decide +kernel
theorem d_W_copy_2 : decode b_W_copy 2 = .ok (.iload_n 2, 1) := by decide +kernel
theorem d_W_copy_3 : decode b_W_copy 3 = .ok (.iconst 5, 1) := by decide +kernel
theorem d_W_copy_4 : decode b_W_copy 4 = .ok (.if_icmp .ge 21, 3) := by decide +kernel
theorem d_W_copy_7 : decode b_W_copy 7 = .ok (.aload_n 0, 1) := by decide +kernel
theorem d_W_copy_8 : decode b_W_copy 8 = .ok (.getfield 9, 3) := by decide +kernel
theorem d_W_copy_11 : decode b_W_copy 11 = .ok (.iload_n 2, 1) := by decide +kernel
theorem d_W_copy_12 : decode b_W_copy 12 = .ok (.aload_n 1, 1) := by decide +kernel
theorem d_W_copy_13 : decode b_W_copy 13 = .ok (.getfield 9, 3) := by decide +kernel
theorem d_W_copy_16 : decode b_W_copy 16 = .ok (.iload_n 2, 1) := by decide +kernel
theorem d_W_copy_17 : decode b_W_copy 17 = .ok (.laload, 1) := by decide +kernel
theorem d_W_copy_18 : decode b_W_copy 18 = .ok (.lastore, 1) := by decide +kernel
theorem d_W_copy_19 : decode b_W_copy 19 = .ok (.iinc 2 1, 3) := by decide +kernel
theorem d_W_copy_22 : decode b_W_copy 22 = .ok (.goto (-20), 3) := by decide +kernel
theorem d_W_copy_25 : decode b_W_copy 25 = .ok (.return_, 1) := by decide +kernel
theorem d_W_scale_0 : decode b_W_scale 0 = .ok (.aload_n 0, 1) := by decide +kernel
theorem d_W_scale_1 : decode b_W_scale 1 = .ok (.aload_n 0, 1) := by decide +kernel
theorem d_W_scale_2 : decode b_W_scale 2 = .ok (.iload_n 1, 1) := by decide +kernel
theorem d_W_scale_3 : decode b_W_scale 3 = .ok (.invokevirtual 15, 3) := by decide +kernel
theorem d_W_scale_6 : decode b_W_scale 6 = .ok (.return_, 1) := by decide +kernel
theorem d_W_setTimes_0 : decode b_W_setTimes 0 = .ok (.lconst 0, 1) := by decide +kernel
theorem d_W_setTimes_1 : decode b_W_setTimes 1 = .ok (.lstore_n 3, 1) := by decide +kernel
theorem d_W_setTimes_2 : decode b_W_setTimes 2 = .ok (.iconst 0, 1) := by decide +kernel
theorem d_W_setTimes_3 : decode b_W_setTimes 3 = .ok (.istore 5, 2) := by decide +kernel
theorem d_W_setTimes_5 : decode b_W_setTimes 5 = .ok (.iload 5, 2) := by decide +kernel
theorem d_W_setTimes_7 : decode b_W_setTimes 7 = .ok (.iconst 5, 1) := by decide +kernel
theorem d_W_setTimes_8 : decode b_W_setTimes 8 = .ok (.if_icmp .ge 42, 3) := by decide +kernel
theorem d_W_setTimes_11 : decode b_W_setTimes 11 = .ok (.aload_n 1, 1) := by decide +kernel
theorem d_W_setTimes_12 : decode b_W_setTimes 12 = .ok (.getfield 9, 3) := by decide +kernel
theorem d_W_setTimes_15 : decode b_W_setTimes 15 = .ok (.iload 5, 2) := by decide +kernel
theorem d_W_setTimes_17 : decode b_W_setTimes 17 = .ok (.laload, 1) := by decide +kernel
theorem d_W_setTimes_18 : decode b_W_setTimes 18 = .ok (.iload_n 2, 1) := by decide +kernel
theorem d_W_setTimes_19 : decode b_W_setTimes 19 = .ok (.i2l, 1) := by decide +kernel
theorem d_W_setTimes_20 : decode b_W_setTimes 20 = .ok (.lmul, 1) := by decide +kernel
theorem d_W_setTimes_21 : decode b_W_setTimes 21 = .ok (.lload_n 3, 1) := by decide +kernel
theorem d_W_setTimes_22 : decode b_W_setTimes 22 = .ok (.ladd, 1) := by decide +kernel
theorem d_W_setTimes_23 : decode b_W_setTimes 23 = .ok (.lstore 6, 2) := by decide +kernel
theorem d_W_setTimes_25 : decode b_W_setTimes 25 = .ok (.aload_n 0, 1) := by decide +kernel
theorem d_W_setTimes_26 : decode b_W_setTimes 26 = .ok (.getfield 9, 3) := by decide +kernel
theorem d_W_setTimes_29 : decode b_W_setTimes 29 = .ok (.iload 5, 2) := by decide +kernel
theorem d_W_setTimes_31 : decode b_W_setTimes 31 = .ok (.lload 6, 2) := by decide +kernel
theorem d_W_setTimes_33 : decode b_W_setTimes 33 = .ok (.ldc2_w 13, 3) := by decide +kernel
theorem d_W_setTimes_36 : decode b_W_setTimes 36 = .ok (.land, 1) := by decide +kernel
theorem d_W_setTimes_37 : decode b_W_setTimes 37 = .ok (.lastore, 1) := by decide +kernel
theorem d_W_setTimes_38 : decode b_W_setTimes 38 = .ok (.lload 6, 2) := by decide +kernel
theorem d_W_setTimes_40 : decode b_W_setTimes 40 = .ok (.bipush 32, 2) := by decide +kernel
theorem d_W_setTimes_42 : decode b_W_setTimes 42 = .ok (.lshr, 1) := by decide +kernel
theorem d_W_setTimes_43 : decode b_W_setTimes 43 = .ok (.lstore_n 3, 1) := by decide +kernel
theorem d_W_setTimes_44 : decode b_W_setTimes 44 = .ok (.iinc 5 1, 3) := by decide +kernel
theorem d_W_setTimes_47 : decode b_W_setTimes 47 = .ok (.goto (-42), 3) := by decide +kernel
theorem d_W_setTimes_50 : decode b_W_setTimes 50 = .ok (.return_, 1) := by decide +kernel
theorem d_W_addTimes_0 : decode b_W_addTimes 0 = .ok (.lconst 0, 1) := by decide +kernel
theorem d_W_addTimes_1 : decode b_W_addTimes 1 = .ok (.lstore_n 3, 1) := by decide +kernel
theorem d_W_addTimes_2 : decode b_W_addTimes 2 = .ok (.iconst 0, 1) := by decide +kernel
theorem d_W_addTimes_3 : decode b_W_addTimes 3 = .ok (.istore 5, 2) := by decide +kernel
theorem d_W_addTimes_5 : decode b_W_addTimes 5 = .ok (.iload 5, 2) := by decide +kernel
theorem d_W_addTimes_7 : decode b_W_addTimes 7 = .ok (.iconst 5, 1) := by decide +kernel
theorem d_W_addTimes_8 : decode b_W_addTimes 8 = .ok (.if_icmp .ge 50, 3) := by decide +kernel
theorem d_W_addTimes_11 : decode b_W_addTimes 11 = .ok (.aload_n 0, 1) := by decide +kernel
theorem d_W_addTimes_12 : decode b_W_addTimes 12 = .ok (.getfield 9, 3) := by decide +kernel
theorem d_W_addTimes_15 : decode b_W_addTimes 15 = .ok (.iload 5, 2) := by decide +kernel
theorem d_W_addTimes_17 : decode b_W_addTimes 17 = .ok (.laload, 1) := by decide +kernel
theorem d_W_addTimes_18 : decode b_W_addTimes 18 = .ok (.aload_n 1, 1) := by decide +kernel
theorem d_W_addTimes_19 : decode b_W_addTimes 19 = .ok (.getfield 9, 3) := by decide +kernel
theorem d_W_addTimes_22 : decode b_W_addTimes 22 = .ok (.iload 5, 2) := by decide +kernel
theorem d_W_addTimes_24 : decode b_W_addTimes 24 = .ok (.laload, 1) := by decide +kernel
theorem d_W_addTimes_25 : decode b_W_addTimes 25 = .ok (.iload_n 2, 1) := by decide +kernel
theorem d_W_addTimes_26 : decode b_W_addTimes 26 = .ok (.i2l, 1) := by decide +kernel
theorem d_W_addTimes_27 : decode b_W_addTimes 27 = .ok (.lmul, 1) := by decide +kernel
theorem d_W_addTimes_28 : decode b_W_addTimes 28 = .ok (.ladd, 1) := by decide +kernel
theorem d_W_addTimes_29 : decode b_W_addTimes 29 = .ok (.lload_n 3, 1) := by decide +kernel
theorem d_W_addTimes_30 : decode b_W_addTimes 30 = .ok (.ladd, 1) := by decide +kernel
theorem d_W_addTimes_31 : decode b_W_addTimes 31 = .ok (.lstore 6, 2) := by decide +kernel
theorem d_W_addTimes_33 : decode b_W_addTimes 33 = .ok (.aload_n 0, 1) := by decide +kernel
theorem d_W_addTimes_34 : decode b_W_addTimes 34 = .ok (.getfield 9, 3) := by decide +kernel
theorem d_W_addTimes_37 : decode b_W_addTimes 37 = .ok (.iload 5, 2) := by decide +kernel
theorem d_W_addTimes_39 : decode b_W_addTimes 39 = .ok (.lload 6, 2) := by decide +kernel
theorem d_W_addTimes_41 : decode b_W_addTimes 41 = .ok (.ldc2_w 13, 3) := by decide +kernel
theorem d_W_addTimes_44 : decode b_W_addTimes 44 = .ok (.land, 1) := by decide +kernel
theorem d_W_addTimes_45 : decode b_W_addTimes 45 = .ok (.lastore, 1) := by decide +kernel
theorem d_W_addTimes_46 : decode b_W_addTimes 46 = .ok (.lload 6, 2) := by decide +kernel
theorem d_W_addTimes_48 : decode b_W_addTimes 48 = .ok (.bipush 32, 2) := by decide +kernel
theorem d_W_addTimes_50 : decode b_W_addTimes 50 = .ok (.lshr, 1) := by decide +kernel
theorem d_W_addTimes_51 : decode b_W_addTimes 51 = .ok (.lstore_n 3, 1) := by decide +kernel
theorem d_W_addTimes_52 : decode b_W_addTimes 52 = .ok (.iinc 5 1, 3) := by decide +kernel
theorem d_W_addTimes_55 : decode b_W_addTimes 55 = .ok (.goto (-50), 3) := by decide +kernel
theorem d_W_addTimes_58 : decode b_W_addTimes 58 = .ok (.return_, 1) := by decide +kernel
theorem d_W_addSum_0 : decode b_W_addSum 0 = .ok (.aload_n 0, 1) := by decide +kernel
theorem d_W_addSum_1 : decode b_W_addSum 1 = .ok (.aload_n 1, 1) := by decide +kernel
theorem d_W_addSum_2 : decode b_W_addSum 2 = .ok (.iload_n 2, 1) := by decide +kernel
theorem d_W_addSum_3 : decode b_W_addSum 3 = .ok (.invokevirtual 19, 3) := by decide +kernel
theorem d_W_addSum_6 : decode b_W_addSum 6 = .ok (.aload_n 0, 1) := by decide +kernel
theorem d_W_addSum_7 : decode b_W_addSum 7 = .ok (.aload_n 3, 1) := by decide +kernel
theorem d_W_addSum_8 : decode b_W_addSum 8 = .ok (.iload 4, 2) := by decide +kernel
theorem d_W_addSum_10 : decode b_W_addSum 10 = .ok (.invokevirtual 19, 3) := by decide +kernel
theorem d_W_addSum_13 : decode b_W_addSum 13 = .ok (.return_, 1) := by decide +kernel
theorem d_W_setSum_0 : decode b_W_setSum 0 = .ok (.aload_n 0, 1) := by decide +kernel
theorem d_W_setSum_1 : decode b_W_setSum 1 = .ok (.aload_n 1, 1) := by decide +kernel
theorem d_W_setSum_2 : decode b_W_setSum 2 = .ok (.iload_n 2, 1) := by decide +kernel
theorem d_W_setSum_3 : decode b_W_setSum 3 = .ok (.invokevirtual 15, 3) := by decide +kernel
theorem d_W_setSum_6 : decode b_W_setSum 6 = .ok (.aload_n 0, 1) := by decide +kernel
theorem d_W_setSum_7 : decode b_W_setSum 7 = .ok (.aload_n 3, 1) := by decide +kernel
theorem d_W_setSum_8 : decode b_W_setSum 8 = .ok (.iload 4, 2) := by decide +kernel
theorem d_W_setSum_10 : decode b_W_setSum 10 = .ok (.invokevirtual 19, 3) := by decide +kernel
theorem d_W_setSum_13 : decode b_W_setSum 13 = .ok (.aload_n 0, 1) := by decide +kernel
theorem d_W_setSum_14 : decode b_W_setSum 14 = .ok (.aload 5, 2) := by decide +kernel
theorem d_W_setSum_16 : decode b_W_setSum 16 = .ok (.iload 6, 2) := by decide +kernel
theorem d_W_setSum_18 : decode b_W_setSum 18 = .ok (.invokevirtual 19, 3) := by decide +kernel
theorem d_W_setSum_21 : decode b_W_setSum 21 = .ok (.return_, 1) := by decide +kernel
theorem d_W_setProducts_0 : decode b_W_setProducts 0 = .ok (.aload_n 0, 1) := by decide +kernel
theorem d_W_setProducts_1 : decode b_W_setProducts 1 = .ok (.iconst 0, 1) := by decide +kernel
theorem d_W_setProducts_2 : decode b_W_setProducts 2 = .ok (.invokevirtual 22, 3) := by decide +kernel
theorem d_W_setProducts_5 : decode b_W_setProducts 5 = .ok (.aload_n 0, 1) := by decide +kernel
theorem d_W_setProducts_6 : decode b_W_setProducts 6 = .ok (.aload_n 1, 1) := by decide +kernel
theorem d_W_setProducts_7 : decode b_W_setProducts 7 = .ok (.aload_n 2, 1) := by decide +kernel
theorem d_W_setProducts_8 : decode b_W_setProducts 8 = .ok (.aload_n 3, 1) := by decide +kernel
theorem d_W_setProducts_9 : decode b_W_setProducts 9 = .ok (.aload 4, 2) := by decide +kernel
theorem d_W_setProducts_11 : decode b_W_setProducts 11 = .ok (.invokevirtual 26, 3) := by decide +kernel
theorem d_W_setProducts_14 : decode b_W_setProducts 14 = .ok (.return_, 1) := by decide +kernel
theorem d_W_addProducts_0 : decode b_W_addProducts 0 = .ok (.aload_n 0, 1) := by decide +kernel
theorem d_W_addProducts_1 : decode b_W_addProducts 1 = .ok (.aload_n 1, 1) := by decide +kernel
theorem d_W_addProducts_2 : decode b_W_addProducts 2 = .ok (.aload_n 2, 1) := by decide +kernel
theorem d_W_addProducts_3 : decode b_W_addProducts 3 = .ok (.invokevirtual 30, 3) := by decide +kernel
theorem d_W_addProducts_6 : decode b_W_addProducts 6 = .ok (.aload_n 0, 1) := by decide +kernel
theorem d_W_addProducts_7 : decode b_W_addProducts 7 = .ok (.aload_n 3, 1) := by decide +kernel
theorem d_W_addProducts_8 : decode b_W_addProducts 8 = .ok (.aload 4, 2) := by decide +kernel
theorem d_W_addProducts_10 : decode b_W_addProducts 10 = .ok (.invokevirtual 30, 3) := by decide +kernel
theorem d_W_addProducts_13 : decode b_W_addProducts 13 = .ok (.return_, 1) := by decide +kernel
theorem d_W_addProduct_0 : decode b_W_addProduct 0 = .ok (.iconst 0, 1) := by decide +kernel
theorem d_W_addProduct_1 : decode b_W_addProduct 1 = .ok (.istore_n 3, 1) := by decide +kernel
theorem d_W_addProduct_2 : decode b_W_addProduct 2 = .ok (.iload_n 3, 1) := by decide +kernel
theorem d_W_addProduct_3 : decode b_W_addProduct 3 = .ok (.iconst 5, 1) := by decide +kernel
theorem d_W_addProduct_4 : decode b_W_addProduct 4 = .ok (.if_icmp .ge 80, 3) := by decide +kernel
theorem d_W_addProduct_7 : decode b_W_addProduct 7 = .ok (.lconst 0, 1) := by decide +kernel
theorem d_W_addProduct_8 : decode b_W_addProduct 8 = .ok (.lstore 4, 2) := by decide +kernel
theorem d_W_addProduct_10 : decode b_W_addProduct 10 = .ok (.iconst 0, 1) := by decide +kernel
theorem d_W_addProduct_11 : decode b_W_addProduct 11 = .ok (.istore 6, 2) := by decide +kernel
theorem d_W_addProduct_13 : decode b_W_addProduct 13 = .ok (.iload_n 3, 1) := by decide +kernel
theorem d_W_addProduct_14 : decode b_W_addProduct 14 = .ok (.iload 6, 2) := by decide +kernel
theorem d_W_addProduct_16 : decode b_W_addProduct 16 = .ok (.iadd, 1) := by decide +kernel
theorem d_W_addProduct_17 : decode b_W_addProduct 17 = .ok (.iconst 5, 1) := by decide +kernel
theorem d_W_addProduct_18 : decode b_W_addProduct 18 = .ok (.if_icmp .ge 60, 3) := by decide +kernel
theorem d_W_addProduct_21 : decode b_W_addProduct 21 = .ok (.aload_n 0, 1) := by decide +kernel
theorem d_W_addProduct_22 : decode b_W_addProduct 22 = .ok (.getfield 9, 3) := by decide +kernel
theorem d_W_addProduct_25 : decode b_W_addProduct 25 = .ok (.iload_n 3, 1) := by decide +kernel
theorem d_W_addProduct_26 : decode b_W_addProduct 26 = .ok (.iload 6, 2) := by decide +kernel
theorem d_W_addProduct_28 : decode b_W_addProduct 28 = .ok (.iadd, 1) := by decide +kernel
theorem d_W_addProduct_29 : decode b_W_addProduct 29 = .ok (.laload, 1) := by decide +kernel
theorem d_W_addProduct_30 : decode b_W_addProduct 30 = .ok (.aload_n 1, 1) := by decide +kernel
theorem d_W_addProduct_31 : decode b_W_addProduct 31 = .ok (.getfield 9, 3) := by decide +kernel
theorem d_W_addProduct_34 : decode b_W_addProduct 34 = .ok (.iload_n 3, 1) := by decide +kernel
theorem d_W_addProduct_35 : decode b_W_addProduct 35 = .ok (.laload, 1) := by decide +kernel
theorem d_W_addProduct_36 : decode b_W_addProduct 36 = .ok (.aload_n 2, 1) := by decide +kernel
theorem d_W_addProduct_37 : decode b_W_addProduct 37 = .ok (.getfield 9, 3) := by decide +kernel
theorem d_W_addProduct_40 : decode b_W_addProduct 40 = .ok (.iload 6, 2) := by decide +kernel
theorem d_W_addProduct_42 : decode b_W_addProduct 42 = .ok (.laload, 1) := by decide +kernel
theorem d_W_addProduct_43 : decode b_W_addProduct 43 = .ok (.lmul, 1) := by decide +kernel
theorem d_W_addProduct_44 : decode b_W_addProduct 44 = .ok (.ladd, 1) := by decide +kernel
theorem d_W_addProduct_45 : decode b_W_addProduct 45 = .ok (.lload 4, 2) := by decide +kernel
theorem d_W_addProduct_47 : decode b_W_addProduct 47 = .ok (.ladd, 1) := by decide +kernel
theorem d_W_addProduct_48 : decode b_W_addProduct 48 = .ok (.lstore 7, 2) := by decide +kernel
theorem d_W_addProduct_50 : decode b_W_addProduct 50 = .ok (.aload_n 0, 1) := by decide +kernel
theorem d_W_addProduct_51 : decode b_W_addProduct 51 = .ok (.getfield 9, 3) := by decide +kernel
theorem d_W_addProduct_54 : decode b_W_addProduct 54 = .ok (.iload_n 3, 1) := by decide +kernel
theorem d_W_addProduct_55 : decode b_W_addProduct 55 = .ok (.iload 6, 2) := by decide +kernel
theorem d_W_addProduct_57 : decode b_W_addProduct 57 = .ok (.iadd, 1) := by decide +kernel
theorem d_W_addProduct_58 : decode b_W_addProduct 58 = .ok (.lload 7, 2) := by decide +kernel
theorem d_W_addProduct_60 : decode b_W_addProduct 60 = .ok (.ldc2_w 13, 3) := by decide +kernel
theorem d_W_addProduct_63 : decode b_W_addProduct 63 = .ok (.land, 1) := by decide +kernel
theorem d_W_addProduct_64 : decode b_W_addProduct 64 = .ok (.lastore, 1) := by decide +kernel
theorem d_W_addProduct_65 : decode b_W_addProduct 65 = .ok (.lload 7, 2) := by decide +kernel
theorem d_W_addProduct_67 : decode b_W_addProduct 67 = .ok (.bipush 32, 2) := by decide +kernel
theorem d_W_addProduct_69 : decode b_W_addProduct 69 = .ok (.lushr, 1) := by decide +kernel
theorem d_W_addProduct_70 : decode b_W_addProduct 70 = .ok (.lstore 4, 2) := by decide +kernel
theorem d_W_addProduct_72 : decode b_W_addProduct 72 = .ok (.iinc 6 1, 3) := by decide +kernel
theorem d_W_addProduct_75 : decode b_W_addProduct 75 = .ok (.goto (-62), 3) := by decide +kernel
theorem d_W_addProduct_78 : decode b_W_addProduct 78 = .ok (.iinc 3 1, 3) := by decide +kernel
theorem d_W_addProduct_81 : decode b_W_addProduct 81 = .ok (.goto (-79), 3) := by decide +kernel
theorem d_W_addProduct_84 : decode b_W_addProduct 84 = .ok (.return_, 1) := by decide +kernel
theorem d_W_side_0 : decode b_W_side 0 = .ok (.aload_n 0, 1) := by decide +kernel
theorem d_W_side_1 : decode b_W_side 1 = .ok (.getfield 9, 3) := by decide +kernel
theorem d_W_side_4 : decode b_W_side 4 = .ok (.iconst 4, 1) := by decide +kernel
theorem d_W_side_5 : decode b_W_side 5 = .ok (.laload, 1) := by decide +kernel
theorem d_W_side_6 : decode b_W_side 6 = .ok (.ldc2_w 34, 3) := by decide +kernel
theorem d_W_side_9 : decode b_W_side 9 = .ok (.lcmp, 1) := by decide +kernel
theorem d_W_side_10 : decode b_W_side 10 = .ok (.ifCond .lt 5, 3) := by decide +kernel
theorem d_W_side_13 : decode b_W_side 13 = .ok (.iconst (-1), 1) := by decide +kernel
theorem d_W_side_14 : decode b_W_side 14 = .ok (.ireturn, 1) := by decide +kernel
theorem d_W_side_15 : decode b_W_side 15 = .ok (.iconst 0, 1) := by decide +kernel
theorem d_W_side_16 : decode b_W_side 16 = .ok (.istore_n 1, 1) := by decide +kernel
theorem d_W_side_17 : decode b_W_side 17 = .ok (.iload_n 1, 1) := by decide +kernel
theorem d_W_side_18 : decode b_W_side 18 = .ok (.iconst 5, 1) := by decide +kernel
theorem d_W_side_19 : decode b_W_side 19 = .ok (.if_icmp .ge 22, 3) := by decide +kernel
theorem d_W_side_22 : decode b_W_side 22 = .ok (.aload_n 0, 1) := by decide +kernel
theorem d_W_side_23 : decode b_W_side 23 = .ok (.getfield 9, 3) := by decide +kernel
theorem d_W_side_26 : decode b_W_side 26 = .ok (.iload_n 1, 1) := by decide +kernel
theorem d_W_side_27 : decode b_W_side 27 = .ok (.laload, 1) := by decide +kernel
theorem d_W_side_28 : decode b_W_side 28 = .ok (.lconst 0, 1) := by decide +kernel
theorem d_W_side_29 : decode b_W_side 29 = .ok (.lcmp, 1) := by decide +kernel
theorem d_W_side_30 : decode b_W_side 30 = .ok (.ifCond .eq 5, 3) := by decide +kernel
theorem d_W_side_33 : decode b_W_side 33 = .ok (.iconst 1, 1) := by decide +kernel
theorem d_W_side_34 : decode b_W_side 34 = .ok (.ireturn, 1) := by decide +kernel
theorem d_W_side_35 : decode b_W_side 35 = .ok (.iinc 1 1, 3) := by decide +kernel
theorem d_W_side_38 : decode b_W_side 38 = .ok (.goto (-21), 3) := by decide +kernel
theorem d_W_side_41 : decode b_W_side 41 = .ok (.iconst 0, 1) := by decide +kernel
theorem d_W_side_42 : decode b_W_side 42 = .ok (.ireturn, 1) := by decide +kernel
theorem d_W_order_0 : decode b_W_order 0 = .ok (.iconst 4, 1) := by decide +kernel
theorem d_W_order_1 : decode b_W_order 1 = .ok (.istore_n 2, 1) := by decide +kernel
theorem d_W_order_2 : decode b_W_order 2 = .ok (.iload_n 2, 1) := by decide +kernel
theorem d_W_order_3 : decode b_W_order 3 = .ok (.ifCond .lt 47, 3) := by decide +kernel
theorem d_W_order_6 : decode b_W_order 6 = .ok (.aload_n 0, 1) := by decide +kernel
theorem d_W_order_7 : decode b_W_order 7 = .ok (.getfield 9, 3) := by decide +kernel
theorem d_W_order_10 : decode b_W_order 10 = .ok (.iload_n 2, 1) := by decide +kernel
theorem d_W_order_11 : decode b_W_order 11 = .ok (.laload, 1) := by decide +kernel
theorem d_W_order_12 : decode b_W_order 12 = .ok (.aload_n 1, 1) := by decide +kernel
theorem d_W_order_13 : decode b_W_order 13 = .ok (.getfield 9, 3) := by decide +kernel
theorem d_W_order_16 : decode b_W_order 16 = .ok (.iload_n 2, 1) := by decide +kernel
theorem d_W_order_17 : decode b_W_order 17 = .ok (.laload, 1) := by decide +kernel
theorem d_W_order_18 : decode b_W_order 18 = .ok (.lcmp, 1) := by decide +kernel
theorem d_W_order_19 : decode b_W_order 19 = .ok (.ifCond .eq 25, 3) := by decide +kernel
theorem d_W_order_22 : decode b_W_order 22 = .ok (.aload_n 0, 1) := by decide +kernel
theorem d_W_order_23 : decode b_W_order 23 = .ok (.getfield 9, 3) := by decide +kernel
theorem d_W_order_26 : decode b_W_order 26 = .ok (.iload_n 2, 1) := by decide +kernel
theorem d_W_order_27 : decode b_W_order 27 = .ok (.laload, 1) := by decide +kernel
theorem d_W_order_28 : decode b_W_order 28 = .ok (.aload_n 1, 1) := by decide +kernel
theorem d_W_order_29 : decode b_W_order 29 = .ok (.getfield 9, 3) := by decide +kernel
theorem d_W_order_32 : decode b_W_order 32 = .ok (.iload_n 2, 1) := by decide +kernel
theorem d_W_order_33 : decode b_W_order 33 = .ok (.laload, 1) := by decide +kernel
theorem d_W_order_34 : decode b_W_order 34 = .ok (.lcmp, 1) := by decide +kernel
theorem d_W_order_35 : decode b_W_order 35 = .ok (.ifCond .ge 7, 3) := by decide +kernel
theorem d_W_order_38 : decode b_W_order 38 = .ok (.iconst (-1), 1) := by decide +kernel
theorem d_W_order_39 : decode b_W_order 39 = .ok (.goto 4, 3) := by decide +kernel
theorem d_W_order_42 : decode b_W_order 42 = .ok (.iconst 1, 1) := by decide +kernel
theorem d_W_order_43 : decode b_W_order 43 = .ok (.ireturn, 1) := by decide +kernel
theorem d_W_order_44 : decode b_W_order 44 = .ok (.iinc 2 (-1), 3) := by decide +kernel
theorem d_W_order_47 : decode b_W_order 47 = .ok (.goto (-45), 3) := by decide +kernel
theorem d_W_order_50 : decode b_W_order 50 = .ok (.iconst 0, 1) := by decide +kernel
theorem d_W_order_51 : decode b_W_order 51 = .ok (.ireturn, 1) := by decide +kernel
theorem d_W_length_0 : decode b_W_length 0 = .ok (.sipush 160, 3) := by decide +kernel
theorem d_W_length_3 : decode b_W_length 3 = .ok (.istore_n 1, 1) := by decide +kernel
theorem d_W_length_4 : decode b_W_length 4 = .ok (.iload_n 1, 1) := by decide +kernel
theorem d_W_length_5 : decode b_W_length 5 = .ok (.ifCond .le 19, 3) := by decide +kernel
theorem d_W_length_8 : decode b_W_length 8 = .ok (.aload_n 0, 1) := by decide +kernel
theorem d_W_length_9 : decode b_W_length 9 = .ok (.iload_n 1, 1) := by decide +kernel
theorem d_W_length_10 : decode b_W_length 10 = .ok (.iconst 1, 1) := by decide +kernel
theorem d_W_length_11 : decode b_W_length 11 = .ok (.isub, 1) := by decide +kernel
theorem d_W_length_12 : decode b_W_length 12 = .ok (.invokevirtual 36, 3) := by decide +kernel
theorem d_W_length_15 : decode b_W_length 15 = .ok (.ifCond .ne 9, 3) := by decide +kernel
theorem d_W_length_18 : decode b_W_length 18 = .ok (.iinc 1 (-1), 3) := by decide +kernel
theorem d_W_length_21 : decode b_W_length 21 = .ok (.goto (-17), 3) := by decide +kernel
theorem d_W_length_24 : decode b_W_length 24 = .ok (.iload_n 1, 1) := by decide +kernel
theorem d_W_length_25 : decode b_W_length 25 = .ok (.ireturn, 1) := by decide +kernel
theorem d_W_hasBit_0 : decode b_W_hasBit 0 = .ok (.aload_n 0, 1) := by decide +kernel
theorem d_W_hasBit_1 : decode b_W_hasBit 1 = .ok (.getfield 9, 3) := by decide +kernel
theorem d_W_hasBit_4 : decode b_W_hasBit 4 = .ok (.iload_n 1, 1) := by decide +kernel
theorem d_W_hasBit_5 : decode b_W_hasBit 5 = .ok (.bipush 32, 2) := by decide +kernel
theorem d_W_hasBit_7 : decode b_W_hasBit 7 = .ok (.idiv, 1) := by decide +kernel
theorem d_W_hasBit_8 : decode b_W_hasBit 8 = .ok (.laload, 1) := by decide +kernel
theorem d_W_hasBit_9 : decode b_W_hasBit 9 = .ok (.iload_n 1, 1) := by decide +kernel
theorem d_W_hasBit_10 : decode b_W_hasBit 10 = .ok (.bipush 32, 2) := by decide +kernel
theorem d_W_hasBit_12 : decode b_W_hasBit 12 = .ok (.irem, 1) := by decide +kernel
theorem d_W_hasBit_13 : decode b_W_hasBit 13 = .ok (.lshr, 1) := by decide +kernel
theorem d_W_hasBit_14 : decode b_W_hasBit 14 = .ok (.lconst 1, 1) := by decide +kernel
theorem d_W_hasBit_15 : decode b_W_hasBit 15 = .ok (.land, 1) := by decide +kernel
theorem d_W_hasBit_16 : decode b_W_hasBit 16 = .ok (.lconst 0, 1) := by decide +kernel
theorem d_W_hasBit_17 : decode b_W_hasBit 17 = .ok (.lcmp, 1) := by decide +kernel
theorem d_W_hasBit_18 : decode b_W_hasBit 18 = .ok (.ifCond .eq 7, 3) := by decide +kernel
theorem d_W_hasBit_21 : decode b_W_hasBit 21 = .ok (.iconst 1, 1) := by decide +kernel
theorem d_W_hasBit_22 : decode b_W_hasBit 22 = .ok (.goto 4, 3) := by decide +kernel
theorem d_W_hasBit_25 : decode b_W_hasBit 25 = .ok (.iconst 0, 1) := by decide +kernel
theorem d_W_hasBit_26 : decode b_W_hasBit 26 = .ok (.ireturn, 1) := by decide +kernel
theorem d_W_limb_0 : decode b_W_limb 0 = .ok (.iload_n 1, 1) := by decide +kernel
theorem d_W_limb_1 : decode b_W_limb 1 = .ok (.ifCond .lt 17, 3) := by decide +kernel
theorem d_W_limb_4 : decode b_W_limb 4 = .ok (.iload_n 1, 1) := by decide +kernel
theorem d_W_limb_5 : decode b_W_limb 5 = .ok (.iconst 5, 1) := by decide +kernel
theorem d_W_limb_6 : decode b_W_limb 6 = .ok (.if_icmp .ge 12, 3) := by decide +kernel
theorem d_W_limb_9 : decode b_W_limb 9 = .ok (.aload_n 0, 1) := by decide +kernel
theorem d_W_limb_10 : decode b_W_limb 10 = .ok (.getfield 9, 3) := by decide +kernel
theorem d_W_limb_13 : decode b_W_limb 13 = .ok (.iload_n 1, 1) := by decide +kernel
theorem d_W_limb_14 : decode b_W_limb 14 = .ok (.laload, 1) := by decide +kernel
theorem d_W_limb_15 : decode b_W_limb 15 = .ok (.goto 4, 3) := by decide +kernel
theorem d_W_limb_18 : decode b_W_limb 18 = .ok (.lconst 0, 1) := by decide +kernel
theorem d_W_limb_19 : decode b_W_limb 19 = .ok (.lreturn, 1) := by decide +kernel
theorem d_W_lowZeros_0 : decode b_W_lowZeros 0 = .ok (.iconst 0, 1) := by decide +kernel
theorem d_W_lowZeros_1 : decode b_W_lowZeros 1 = .ok (.istore_n 1, 1) := by decide +kernel
theorem d_W_lowZeros_2 : decode b_W_lowZeros 2 = .ok (.iload_n 1, 1) := by decide +kernel
theorem d_W_lowZeros_3 : decode b_W_lowZeros 3 = .ok (.bipush 32, 2) := by decide +kernel
theorem d_W_lowZeros_5 : decode b_W_lowZeros 5 = .ok (.if_icmp .ge 24, 3) := by decide +kernel
theorem d_W_lowZeros_8 : decode b_W_lowZeros 8 = .ok (.aload_n 0, 1) := by decide +kernel
theorem d_W_lowZeros_9 : decode b_W_lowZeros 9 = .ok (.getfield 9, 3) := by decide +kernel
theorem d_W_lowZeros_12 : decode b_W_lowZeros 12 = .ok (.iconst 0, 1) := by decide +kernel
theorem d_W_lowZeros_13 : decode b_W_lowZeros 13 = .ok (.laload, 1) := by decide +kernel
theorem d_W_lowZeros_14 : decode b_W_lowZeros 14 = .ok (.iload_n 1, 1) := by decide +kernel
theorem d_W_lowZeros_15 : decode b_W_lowZeros 15 = .ok (.lshr, 1) := by decide +kernel
theorem d_W_lowZeros_16 : decode b_W_lowZeros 16 = .ok (.lconst 1, 1) := by decide +kernel
theorem d_W_lowZeros_17 : decode b_W_lowZeros 17 = .ok (.land, 1) := by decide +kernel
theorem d_W_lowZeros_18 : decode b_W_lowZeros 18 = .ok (.lconst 0, 1) := by decide +kernel
theorem d_W_lowZeros_19 : decode b_W_lowZeros 19 = .ok (.lcmp, 1) := by decide +kernel
theorem d_W_lowZeros_20 : decode b_W_lowZeros 20 = .ok (.ifCond .ne 9, 3) := by decide +kernel
theorem d_W_lowZeros_23 : decode b_W_lowZeros 23 = .ok (.iinc 1 1, 3) := by decide +kernel
theorem d_W_lowZeros_26 : decode b_W_lowZeros 26 = .ok (.goto (-24), 3) := by decide +kernel
theorem d_W_lowZeros_29 : decode b_W_lowZeros 29 = .ok (.iload_n 1, 1) := by decide +kernel
theorem d_W_lowZeros_30 : decode b_W_lowZeros 30 = .ok (.ireturn, 1) := by decide +kernel
theorem d_W_shiftRight_0 : decode b_W_shiftRight 0 = .ok (.iconst 0, 1) := by decide +kernel
theorem d_W_shiftRight_1 : decode b_W_shiftRight 1 = .ok (.istore_n 2, 1) := by decide +kernel
theorem d_W_shiftRight_2 : decode b_W_shiftRight 2 = .ok (.iload_n 2, 1) := by decide +kernel
theorem d_W_shiftRight_3 : decode b_W_shiftRight 3 = .ok (.iconst 5, 1) := by decide +kernel
theorem d_W_shiftRight_4 : decode b_W_shiftRight 4 = .ok (.if_icmp .ge 54, 3) := by decide +kernel
theorem d_W_shiftRight_7 : decode b_W_shiftRight 7 = .ok (.iload_n 2, 1) := by decide +kernel
theorem d_W_shiftRight_8 : decode b_W_shiftRight 8 = .ok (.iconst 1, 1) := by decide +kernel
theorem d_W_shiftRight_9 : decode b_W_shiftRight 9 = .ok (.iadd, 1) := by decide +kernel
theorem d_W_shiftRight_10 : decode b_W_shiftRight 10 = .ok (.iconst 5, 1) := by decide +kernel
theorem d_W_shiftRight_11 : decode b_W_shiftRight 11 = .ok (.if_icmp .ge 14, 3) := by decide +kernel
theorem d_W_shiftRight_14 : decode b_W_shiftRight 14 = .ok (.aload_n 0, 1) := by decide +kernel
theorem d_W_shiftRight_15 : decode b_W_shiftRight 15 = .ok (.getfield 9, 3) := by decide +kernel
theorem d_W_shiftRight_18 : decode b_W_shiftRight 18 = .ok (.iload_n 2, 1) := by decide +kernel
theorem d_W_shiftRight_19 : decode b_W_shiftRight 19 = .ok (.iconst 1, 1) := by decide +kernel
theorem d_W_shiftRight_20 : decode b_W_shiftRight 20 = .ok (.iadd, 1) := by decide +kernel
theorem d_W_shiftRight_21 : decode b_W_shiftRight 21 = .ok (.laload, 1) := by decide +kernel
theorem d_W_shiftRight_22 : decode b_W_shiftRight 22 = .ok (.goto 4, 3) := by decide +kernel
theorem d_W_shiftRight_25 : decode b_W_shiftRight 25 = .ok (.lconst 0, 1) := by decide +kernel
theorem d_W_shiftRight_26 : decode b_W_shiftRight 26 = .ok (.lstore_n 3, 1) := by decide +kernel
theorem d_W_shiftRight_27 : decode b_W_shiftRight 27 = .ok (.aload_n 0, 1) := by decide +kernel
theorem d_W_shiftRight_28 : decode b_W_shiftRight 28 = .ok (.getfield 9, 3) := by decide +kernel
theorem d_W_shiftRight_31 : decode b_W_shiftRight 31 = .ok (.iload_n 2, 1) := by decide +kernel
theorem d_W_shiftRight_32 : decode b_W_shiftRight 32 = .ok (.aload_n 0, 1) := by decide +kernel
theorem d_W_shiftRight_33 : decode b_W_shiftRight 33 = .ok (.getfield 9, 3) := by decide +kernel
theorem d_W_shiftRight_36 : decode b_W_shiftRight 36 = .ok (.iload_n 2, 1) := by decide +kernel
theorem d_W_shiftRight_37 : decode b_W_shiftRight 37 = .ok (.laload, 1) := by decide +kernel
theorem d_W_shiftRight_38 : decode b_W_shiftRight 38 = .ok (.iload_n 1, 1) := by decide +kernel
theorem d_W_shiftRight_39 : decode b_W_shiftRight 39 = .ok (.lushr, 1) := by decide +kernel
theorem d_W_shiftRight_40 : decode b_W_shiftRight 40 = .ok (.lload_n 3, 1) := by decide +kernel
theorem d_W_shiftRight_41 : decode b_W_shiftRight 41 = .ok (.bipush 32, 2) := by decide +kernel
theorem d_W_shiftRight_43 : decode b_W_shiftRight 43 = .ok (.iload_n 1, 1) := by decide +kernel
theorem d_W_shiftRight_44 : decode b_W_shiftRight 44 = .ok (.isub, 1) := by decide +kernel
end
section
theorem d_W_shiftRight_45 : decode b_W_shiftRight 45 = .ok (.lshl, 1) := by decide +kernel
theorem d_W_shiftRight_46 : decode b_W_shiftRight 46 = .ok (.ldc2_w 13, 3) := by decide +kernel
theorem d_W_shiftRight_49 : decode b_W_shiftRight 49 = .ok (.land, 1) := by decide +kernel
theorem d_W_shiftRight_50 : decode b_W_shiftRight 50 = .ok (.lor, 1) := by decide +kernel
theorem d_W_shiftRight_51 : decode b_W_shiftRight 51 = .ok (.lastore, 1) := by decide +kernel
theorem d_W_shiftRight_52 : decode b_W_shiftRight 52 = .ok (.iinc 2 1, 3) := by decide +kernel
theorem d_W_shiftRight_55 : decode b_W_shiftRight 55 = .ok (.goto (-53), 3) := by decide +kernel
theorem d_W_shiftRight_58 : decode b_W_shiftRight 58 = .ok (.return_, 1) := by decide +kernel
theorem d_W_dropTwos_0 : decode b_W_dropTwos 0 = .ok (.aload_n 0, 1) := by decide +kernel
theorem d_W_dropTwos_1 : decode b_W_dropTwos 1 = .ok (.invokevirtual 40, 3) := by decide +kernel
theorem d_W_dropTwos_4 : decode b_W_dropTwos 4 = .ok (.istore_n 1, 1) := by decide +kernel
theorem d_W_dropTwos_5 : decode b_W_dropTwos 5 = .ok (.iconst 0, 1) := by decide +kernel
theorem d_W_dropTwos_6 : decode b_W_dropTwos 6 = .ok (.istore_n 2, 1) := by decide +kernel
theorem d_W_dropTwos_7 : decode b_W_dropTwos 7 = .ok (.iload_n 1, 1) := by decide +kernel
theorem d_W_dropTwos_8 : decode b_W_dropTwos 8 = .ok (.ifCond .le 24, 3) := by decide +kernel
theorem d_W_dropTwos_11 : decode b_W_dropTwos 11 = .ok (.iload_n 2, 1) := by decide +kernel
theorem d_W_dropTwos_12 : decode b_W_dropTwos 12 = .ok (.iconst 5, 1) := by decide +kernel
theorem d_W_dropTwos_13 : decode b_W_dropTwos 13 = .ok (.if_icmp .gt 19, 3) := by decide +kernel
theorem d_W_dropTwos_16 : decode b_W_dropTwos 16 = .ok (.aload_n 0, 1) := by decide +kernel
theorem d_W_dropTwos_17 : decode b_W_dropTwos 17 = .ok (.iload_n 1, 1) := by decide +kernel
theorem d_W_dropTwos_18 : decode b_W_dropTwos 18 = .ok (.invokevirtual 44, 3) := by decide +kernel
theorem d_W_dropTwos_21 : decode b_W_dropTwos 21 = .ok (.aload_n 0, 1) := by decide +kernel
theorem d_W_dropTwos_22 : decode b_W_dropTwos 22 = .ok (.invokevirtual 40, 3) := by decide +kernel
theorem d_W_dropTwos_25 : decode b_W_dropTwos 25 = .ok (.istore_n 1, 1) := by decide +kernel
theorem d_W_dropTwos_26 : decode b_W_dropTwos 26 = .ok (.iinc 2 1, 3) := by decide +kernel
theorem d_W_dropTwos_29 : decode b_W_dropTwos 29 = .ok (.goto (-22), 3) := by decide +kernel
theorem d_W_dropTwos_32 : decode b_W_dropTwos 32 = .ok (.return_, 1) := by decide +kernel
theorem d_W_divideByOdd_0 : decode b_W_divideByOdd 0 = .ok (.aload_n 1, 1) := by decide +kernel
theorem d_W_divideByOdd_1 : decode b_W_divideByOdd 1 = .ok (.getfield 9, 3) := by decide +kernel
theorem d_W_divideByOdd_4 : decode b_W_divideByOdd 4 = .ok (.iconst 0, 1) := by decide +kernel
theorem d_W_divideByOdd_5 : decode b_W_divideByOdd 5 = .ok (.laload, 1) := by decide +kernel
theorem d_W_divideByOdd_6 : decode b_W_divideByOdd 6 = .ok (.invokestatic 47, 3) := by decide +kernel
theorem d_W_divideByOdd_9 : decode b_W_divideByOdd 9 = .ok (.lstore_n 2, 1) := by decide +kernel
theorem d_W_divideByOdd_10 : decode b_W_divideByOdd 10 = .ok (.iconst 0, 1) := by decide +kernel
theorem d_W_divideByOdd_11 : decode b_W_divideByOdd 11 = .ok (.istore 4, 2) := by decide +kernel
theorem d_W_divideByOdd_13 : decode b_W_divideByOdd 13 = .ok (.iload 4, 2) := by decide +kernel
theorem d_W_divideByOdd_15 : decode b_W_divideByOdd 15 = .ok (.iconst 5, 1) := by decide +kernel
theorem d_W_divideByOdd_16 : decode b_W_divideByOdd 16 = .ok (.if_icmp .ge 42, 3) := by decide +kernel
theorem d_W_divideByOdd_19 : decode b_W_divideByOdd 19 = .ok (.aload_n 0, 1) := by decide +kernel
theorem d_W_divideByOdd_20 : decode b_W_divideByOdd 20 = .ok (.getfield 9, 3) := by decide +kernel
theorem d_W_divideByOdd_23 : decode b_W_divideByOdd 23 = .ok (.iload 4, 2) := by decide +kernel
theorem d_W_divideByOdd_25 : decode b_W_divideByOdd 25 = .ok (.laload, 1) := by decide +kernel
theorem d_W_divideByOdd_26 : decode b_W_divideByOdd 26 = .ok (.lload_n 2, 1) := by decide +kernel
theorem d_W_divideByOdd_27 : decode b_W_divideByOdd 27 = .ok (.lmul, 1) := by decide +kernel
theorem d_W_divideByOdd_28 : decode b_W_divideByOdd 28 = .ok (.ldc2_w 13, 3) := by decide +kernel
theorem d_W_divideByOdd_31 : decode b_W_divideByOdd 31 = .ok (.land, 1) := by decide +kernel
theorem d_W_divideByOdd_32 : decode b_W_divideByOdd 32 = .ok (.lstore 5, 2) := by decide +kernel
theorem d_W_divideByOdd_34 : decode b_W_divideByOdd 34 = .ok (.aload_n 0, 1) := by decide +kernel
theorem d_W_divideByOdd_35 : decode b_W_divideByOdd 35 = .ok (.aload_n 1, 1) := by decide +kernel
theorem d_W_divideByOdd_36 : decode b_W_divideByOdd 36 = .ok (.lload 5, 2) := by decide +kernel
theorem d_W_divideByOdd_38 : decode b_W_divideByOdd 38 = .ok (.iload 4, 2) := by decide +kernel
theorem d_W_divideByOdd_40 : decode b_W_divideByOdd 40 = .ok (.invokevirtual 51, 3) := by decide +kernel
theorem d_W_divideByOdd_43 : decode b_W_divideByOdd 43 = .ok (.aload_n 0, 1) := by decide +kernel
theorem d_W_divideByOdd_44 : decode b_W_divideByOdd 44 = .ok (.getfield 9, 3) := by decide +kernel
theorem d_W_divideByOdd_47 : decode b_W_divideByOdd 47 = .ok (.iload 4, 2) := by decide +kernel
theorem d_W_divideByOdd_49 : decode b_W_divideByOdd 49 = .ok (.lload 5, 2) := by decide +kernel
theorem d_W_divideByOdd_51 : decode b_W_divideByOdd 51 = .ok (.lastore, 1) := by decide +kernel
theorem d_W_divideByOdd_52 : decode b_W_divideByOdd 52 = .ok (.iinc 4 1, 3) := by decide +kernel
theorem d_W_divideByOdd_55 : decode b_W_divideByOdd 55 = .ok (.goto (-42), 3) := by decide +kernel
theorem d_W_divideByOdd_58 : decode b_W_divideByOdd 58 = .ok (.return_, 1) := by decide +kernel
theorem d_W_takeTimes_0 : decode b_W_takeTimes 0 = .ok (.lconst 0, 1) := by decide +kernel
theorem d_W_takeTimes_1 : decode b_W_takeTimes 1 = .ok (.lstore 5, 2) := by decide +kernel
theorem d_W_takeTimes_3 : decode b_W_takeTimes 3 = .ok (.iconst 0, 1) := by decide +kernel
theorem d_W_takeTimes_4 : decode b_W_takeTimes 4 = .ok (.istore 7, 2) := by decide +kernel
theorem d_W_takeTimes_6 : decode b_W_takeTimes 6 = .ok (.iload 4, 2) := by decide +kernel
theorem d_W_takeTimes_8 : decode b_W_takeTimes 8 = .ok (.iload 7, 2) := by decide +kernel
theorem d_W_takeTimes_10 : decode b_W_takeTimes 10 = .ok (.iadd, 1) := by decide +kernel
theorem d_W_takeTimes_11 : decode b_W_takeTimes 11 = .ok (.iconst 5, 1) := by decide +kernel
theorem d_W_takeTimes_12 : decode b_W_takeTimes 12 = .ok (.if_icmp .ge 79, 3) := by decide +kernel
theorem d_W_takeTimes_15 : decode b_W_takeTimes 15 = .ok (.aload_n 1, 1) := by decide +kernel
theorem d_W_takeTimes_16 : decode b_W_takeTimes 16 = .ok (.getfield 9, 3) := by decide +kernel
theorem d_W_takeTimes_19 : decode b_W_takeTimes 19 = .ok (.iload 7, 2) := by decide +kernel
theorem d_W_takeTimes_21 : decode b_W_takeTimes 21 = .ok (.laload, 1) := by decide +kernel
theorem d_W_takeTimes_22 : decode b_W_takeTimes 22 = .ok (.lload_n 2, 1) := by decide +kernel
theorem d_W_takeTimes_23 : decode b_W_takeTimes 23 = .ok (.lmul, 1) := by decide +kernel
theorem d_W_takeTimes_24 : decode b_W_takeTimes 24 = .ok (.lload 5, 2) := by decide +kernel
theorem d_W_takeTimes_26 : decode b_W_takeTimes 26 = .ok (.ladd, 1) := by decide +kernel
theorem d_W_takeTimes_27 : decode b_W_takeTimes 27 = .ok (.lstore 8, 2) := by decide +kernel
theorem d_W_takeTimes_29 : decode b_W_takeTimes 29 = .ok (.aload_n 0, 1) := by decide +kernel
theorem d_W_takeTimes_30 : decode b_W_takeTimes 30 = .ok (.getfield 9, 3) := by decide +kernel
theorem d_W_takeTimes_33 : decode b_W_takeTimes 33 = .ok (.iload 4, 2) := by decide +kernel
theorem d_W_takeTimes_35 : decode b_W_takeTimes 35 = .ok (.iload 7, 2) := by decide +kernel
theorem d_W_takeTimes_37 : decode b_W_takeTimes 37 = .ok (.iadd, 1) := by decide +kernel
theorem d_W_takeTimes_38 : decode b_W_takeTimes 38 = .ok (.laload, 1) := by decide +kernel
theorem d_W_takeTimes_39 : decode b_W_takeTimes 39 = .ok (.lload 8, 2) := by decide +kernel
theorem d_W_takeTimes_41 : decode b_W_takeTimes 41 = .ok (.ldc2_w 13, 3) := by decide +kernel
theorem d_W_takeTimes_44 : decode b_W_takeTimes 44 = .ok (.land, 1) := by decide +kernel
theorem d_W_takeTimes_45 : decode b_W_takeTimes 45 = .ok (.lsub, 1) := by decide +kernel
theorem d_W_takeTimes_46 : decode b_W_takeTimes 46 = .ok (.lstore 10, 2) := by decide +kernel
theorem d_W_takeTimes_48 : decode b_W_takeTimes 48 = .ok (.aload_n 0, 1) := by decide +kernel
theorem d_W_takeTimes_49 : decode b_W_takeTimes 49 = .ok (.getfield 9, 3) := by decide +kernel
theorem d_W_takeTimes_52 : decode b_W_takeTimes 52 = .ok (.iload 4, 2) := by decide +kernel
theorem d_W_takeTimes_54 : decode b_W_takeTimes 54 = .ok (.iload 7, 2) := by decide +kernel
theorem d_W_takeTimes_56 : decode b_W_takeTimes 56 = .ok (.iadd, 1) := by decide +kernel
theorem d_W_takeTimes_57 : decode b_W_takeTimes 57 = .ok (.lload 10, 2) := by decide +kernel
theorem d_W_takeTimes_59 : decode b_W_takeTimes 59 = .ok (.ldc2_w 13, 3) := by decide +kernel
theorem d_W_takeTimes_62 : decode b_W_takeTimes 62 = .ok (.land, 1) := by decide +kernel
theorem d_W_takeTimes_63 : decode b_W_takeTimes 63 = .ok (.lastore, 1) := by decide +kernel
theorem d_W_takeTimes_64 : decode b_W_takeTimes 64 = .ok (.lload 8, 2) := by decide +kernel
theorem d_W_takeTimes_66 : decode b_W_takeTimes 66 = .ok (.bipush 32, 2) := by decide +kernel
theorem d_W_takeTimes_68 : decode b_W_takeTimes 68 = .ok (.lushr, 1) := by decide +kernel
theorem d_W_takeTimes_69 : decode b_W_takeTimes 69 = .ok (.lload 10, 2) := by decide +kernel
theorem d_W_takeTimes_71 : decode b_W_takeTimes 71 = .ok (.lconst 0, 1) := by decide +kernel
theorem d_W_takeTimes_72 : decode b_W_takeTimes 72 = .ok (.lcmp, 1) := by decide +kernel
theorem d_W_takeTimes_73 : decode b_W_takeTimes 73 = .ok (.ifCond .ge 7, 3) := by decide +kernel
theorem d_W_takeTimes_76 : decode b_W_takeTimes 76 = .ok (.iconst 1, 1) := by decide +kernel
theorem d_W_takeTimes_77 : decode b_W_takeTimes 77 = .ok (.goto 4, 3) := by decide +kernel
theorem d_W_takeTimes_80 : decode b_W_takeTimes 80 = .ok (.iconst 0, 1) := by decide +kernel
theorem d_W_takeTimes_81 : decode b_W_takeTimes 81 = .ok (.i2l, 1) := by decide +kernel
theorem d_W_takeTimes_82 : decode b_W_takeTimes 82 = .ok (.ladd, 1) := by decide +kernel
theorem d_W_takeTimes_83 : decode b_W_takeTimes 83 = .ok (.lstore 5, 2) := by decide +kernel
theorem d_W_takeTimes_85 : decode b_W_takeTimes 85 = .ok (.iinc 7 1, 3) := by decide +kernel
theorem d_W_takeTimes_88 : decode b_W_takeTimes 88 = .ok (.goto (-82), 3) := by decide +kernel
theorem d_W_takeTimes_91 : decode b_W_takeTimes 91 = .ok (.return_, 1) := by decide +kernel
theorem d_W_inverseOfLimb_0 : decode b_W_inverseOfLimb 0 = .ok (.lload_n 0, 1) := by decide +kernel
theorem d_W_inverseOfLimb_1 : decode b_W_inverseOfLimb 1 = .ok (.lstore_n 2, 1) := by decide +kernel
theorem d_W_inverseOfLimb_2 : decode b_W_inverseOfLimb 2 = .ok (.iconst 3, 1) := by decide +kernel
theorem d_W_inverseOfLimb_3 : decode b_W_inverseOfLimb 3 = .ok (.istore 4, 2) := by decide +kernel
theorem d_W_inverseOfLimb_5 : decode b_W_inverseOfLimb 5 = .ok (.iload 4, 2) := by decide +kernel
theorem d_W_inverseOfLimb_7 : decode b_W_inverseOfLimb 7 = .ok (.bipush 32, 2) := by decide +kernel
theorem d_W_inverseOfLimb_9 : decode b_W_inverseOfLimb 9 = .ok (.if_icmp .ge 26, 3) := by decide +kernel
theorem d_W_inverseOfLimb_12 : decode b_W_inverseOfLimb 12 = .ok (.lload_n 2, 1) := by decide +kernel
theorem d_W_inverseOfLimb_13 : decode b_W_inverseOfLimb 13 = .ok (.ldc2_w 55, 3) := by decide +kernel
theorem d_W_inverseOfLimb_16 : decode b_W_inverseOfLimb 16 = .ok (.lload_n 0, 1) := by decide +kernel
theorem d_W_inverseOfLimb_17 : decode b_W_inverseOfLimb 17 = .ok (.lload_n 2, 1) := by decide +kernel
theorem d_W_inverseOfLimb_18 : decode b_W_inverseOfLimb 18 = .ok (.lmul, 1) := by decide +kernel
theorem d_W_inverseOfLimb_19 : decode b_W_inverseOfLimb 19 = .ok (.lsub, 1) := by decide +kernel
theorem d_W_inverseOfLimb_20 : decode b_W_inverseOfLimb 20 = .ok (.lmul, 1) := by decide +kernel
theorem d_W_inverseOfLimb_21 : decode b_W_inverseOfLimb 21 = .ok (.ldc2_w 13, 3) := by decide +kernel
theorem d_W_inverseOfLimb_24 : decode b_W_inverseOfLimb 24 = .ok (.land, 1) := by decide +kernel
theorem d_W_inverseOfLimb_25 : decode b_W_inverseOfLimb 25 = .ok (.lstore_n 2, 1) := by decide +kernel
theorem d_W_inverseOfLimb_26 : decode b_W_inverseOfLimb 26 = .ok (.iload 4, 2) := by decide +kernel
theorem d_W_inverseOfLimb_28 : decode b_W_inverseOfLimb 28 = .ok (.iconst 2, 1) := by decide +kernel
theorem d_W_inverseOfLimb_29 : decode b_W_inverseOfLimb 29 = .ok (.imul, 1) := by decide +kernel
theorem d_W_inverseOfLimb_30 : decode b_W_inverseOfLimb 30 = .ok (.istore 4, 2) := by decide +kernel
theorem d_W_inverseOfLimb_32 : decode b_W_inverseOfLimb 32 = .ok (.goto (-27), 3) := by decide +kernel
theorem d_W_inverseOfLimb_35 : decode b_W_inverseOfLimb 35 = .ok (.lload_n 2, 1) := by decide +kernel
theorem d_W_inverseOfLimb_36 : decode b_W_inverseOfLimb 36 = .ok (.lreturn, 1) := by decide +kernel
theorem d_L_law_0 : decode code 0 = .ok (.new 7, 3) := by decide +kernel
theorem d_L_law_3 : decode code 3 = .ok (.dup, 1) := by decide +kernel
theorem d_L_law_4 : decode code 4 = .ok (.invokespecial 9, 3) := by decide +kernel
theorem d_L_law_7 : decode code 7 = .ok (.astore_n 1, 1) := by decide +kernel
theorem d_L_law_8 : decode code 8 = .ok (.new 10, 3) := by decide +kernel
theorem d_L_law_11 : decode code 11 = .ok (.dup, 1) := by decide +kernel
theorem d_L_law_12 : decode code 12 = .ok (.invokespecial 12, 3) := by decide +kernel
theorem d_L_law_15 : decode code 15 = .ok (.astore_n 2, 1) := by decide +kernel
theorem d_L_law_16 : decode code 16 = .ok (.iconst 0, 1) := by decide +kernel
theorem d_L_law_17 : decode code 17 = .ok (.istore_n 3, 1) := by decide +kernel
theorem d_L_law_18 : decode code 18 = .ok (.iload_n 3, 1) := by decide +kernel
theorem d_L_law_19 : decode code 19 = .ok (.aload_n 0, 1) := by decide +kernel
theorem d_L_law_20 : decode code 20 = .ok (.arraylength, 1) := by decide +kernel
theorem d_L_law_21 : decode code 21 = .ok (.bipush 6, 2) := by decide +kernel
theorem d_L_law_23 : decode code 23 = .ok (.isub, 1) := by decide +kernel
theorem d_L_law_24 : decode code 24 = .ok (.if_icmp .gt 580, 3) := by decide +kernel
theorem d_L_law_27 : decode code 27 = .ok (.aload_n 0, 1) := by decide +kernel
theorem d_L_law_28 : decode code 28 = .ok (.iload_n 3, 1) := by decide +kernel
theorem d_L_law_29 : decode code 29 = .ok (.iaload, 1) := by decide +kernel
theorem d_L_law_30 : decode code 30 = .ok (.bipush 15, 2) := by decide +kernel
theorem d_L_law_32 : decode code 32 = .ok (.iand, 1) := by decide +kernel
theorem d_L_law_33 : decode code 33 = .ok (.tableswitch 565 0 10 #[59, 122, 175, 218, 271, 284, 297, 310, 353, 422, 502], 59) := by decide +kernel
theorem d_L_law_92 : decode code 92 = .ok (.aload_n 1, 1) := by decide +kernel
theorem d_L_law_93 : decode code 93 = .ok (.aload_n 0, 1) := by decide +kernel
theorem d_L_law_94 : decode code 94 = .ok (.iload_n 3, 1) := by decide +kernel
theorem d_L_law_95 : decode code 95 = .ok (.iconst 1, 1) := by decide +kernel
theorem d_L_law_96 : decode code 96 = .ok (.iadd, 1) := by decide +kernel
theorem d_L_law_97 : decode code 97 = .ok (.iaload, 1) := by decide +kernel
theorem d_L_law_98 : decode code 98 = .ok (.aload_n 0, 1) := by decide +kernel
theorem d_L_law_99 : decode code 99 = .ok (.iload_n 3, 1) := by decide +kernel
theorem d_L_law_100 : decode code 100 = .ok (.iconst 2, 1) := by decide +kernel
theorem d_L_law_101 : decode code 101 = .ok (.iadd, 1) := by decide +kernel
theorem d_L_law_102 : decode code 102 = .ok (.iaload, 1) := by decide +kernel
theorem d_L_law_103 : decode code 103 = .ok (.aload_n 0, 1) := by decide +kernel
theorem d_L_law_104 : decode code 104 = .ok (.iload_n 3, 1) := by decide +kernel
theorem d_L_law_105 : decode code 105 = .ok (.iconst 3, 1) := by decide +kernel
theorem d_L_law_106 : decode code 106 = .ok (.iadd, 1) := by decide +kernel
theorem d_L_law_107 : decode code 107 = .ok (.iaload, 1) := by decide +kernel
theorem d_L_law_108 : decode code 108 = .ok (.aload_n 0, 1) := by decide +kernel
theorem d_L_law_109 : decode code 109 = .ok (.iload_n 3, 1) := by decide +kernel
theorem d_L_law_110 : decode code 110 = .ok (.iconst 4, 1) := by decide +kernel
theorem d_L_law_111 : decode code 111 = .ok (.iadd, 1) := by decide +kernel
theorem d_L_law_112 : decode code 112 = .ok (.iaload, 1) := by decide +kernel
theorem d_L_law_113 : decode code 113 = .ok (.aload_n 0, 1) := by decide +kernel
theorem d_L_law_114 : decode code 114 = .ok (.iload_n 3, 1) := by decide +kernel
theorem d_L_law_115 : decode code 115 = .ok (.iconst 5, 1) := by decide +kernel
theorem d_L_law_116 : decode code 116 = .ok (.iadd, 1) := by decide +kernel
theorem d_L_law_117 : decode code 117 = .ok (.iaload, 1) := by decide +kernel
theorem d_L_law_118 : decode code 118 = .ok (.invokevirtual 13, 3) := by decide +kernel
theorem d_L_law_121 : decode code 121 = .ok (.aload_n 2, 1) := by decide +kernel
theorem d_L_law_122 : decode code 122 = .ok (.aload_n 0, 1) := by decide +kernel
theorem d_L_law_123 : decode code 123 = .ok (.iload_n 3, 1) := by decide +kernel
theorem d_L_law_124 : decode code 124 = .ok (.iconst 1, 1) := by decide +kernel
theorem d_L_law_125 : decode code 125 = .ok (.iadd, 1) := by decide +kernel
theorem d_L_law_126 : decode code 126 = .ok (.iaload, 1) := by decide +kernel
theorem d_L_law_127 : decode code 127 = .ok (.aload_n 0, 1) := by decide +kernel
theorem d_L_law_128 : decode code 128 = .ok (.iload_n 3, 1) := by decide +kernel
theorem d_L_law_129 : decode code 129 = .ok (.iconst 2, 1) := by decide +kernel
theorem d_L_law_130 : decode code 130 = .ok (.iadd, 1) := by decide +kernel
theorem d_L_law_131 : decode code 131 = .ok (.iaload, 1) := by decide +kernel
theorem d_L_law_132 : decode code 132 = .ok (.aload_n 0, 1) := by decide +kernel
theorem d_L_law_133 : decode code 133 = .ok (.iload_n 3, 1) := by decide +kernel
theorem d_L_law_134 : decode code 134 = .ok (.iconst 3, 1) := by decide +kernel
theorem d_L_law_135 : decode code 135 = .ok (.iadd, 1) := by decide +kernel
theorem d_L_law_136 : decode code 136 = .ok (.iaload, 1) := by decide +kernel
theorem d_L_law_137 : decode code 137 = .ok (.aload_n 0, 1) := by decide +kernel
theorem d_L_law_138 : decode code 138 = .ok (.iload_n 3, 1) := by decide +kernel
theorem d_L_law_139 : decode code 139 = .ok (.iconst 4, 1) := by decide +kernel
theorem d_L_law_140 : decode code 140 = .ok (.iadd, 1) := by decide +kernel
theorem d_L_law_141 : decode code 141 = .ok (.iaload, 1) := by decide +kernel
theorem d_L_law_142 : decode code 142 = .ok (.aload_n 0, 1) := by decide +kernel
theorem d_L_law_143 : decode code 143 = .ok (.iload_n 3, 1) := by decide +kernel
theorem d_L_law_144 : decode code 144 = .ok (.iconst 5, 1) := by decide +kernel
theorem d_L_law_145 : decode code 145 = .ok (.iadd, 1) := by decide +kernel
theorem d_L_law_146 : decode code 146 = .ok (.iaload, 1) := by decide +kernel
theorem d_L_law_147 : decode code 147 = .ok (.invokevirtual 17, 3) := by decide +kernel
theorem d_L_law_150 : decode code 150 = .ok (.if_icmp .eq 448, 3) := by decide +kernel
theorem d_L_law_153 : decode code 153 = .ok (.iconst 0, 1) := by decide +kernel
theorem d_L_law_154 : decode code 154 = .ok (.ireturn, 1) := by decide +kernel
theorem d_L_law_155 : decode code 155 = .ok (.aload_n 1, 1) := by decide +kernel
theorem d_L_law_156 : decode code 156 = .ok (.aload_n 0, 1) := by decide +kernel
theorem d_L_law_157 : decode code 157 = .ok (.iload_n 3, 1) := by decide +kernel
theorem d_L_law_158 : decode code 158 = .ok (.iconst 1, 1) := by decide +kernel
theorem d_L_law_159 : decode code 159 = .ok (.iadd, 1) := by decide +kernel
theorem d_L_law_160 : decode code 160 = .ok (.iaload, 1) := by decide +kernel
theorem d_L_law_161 : decode code 161 = .ok (.aload_n 0, 1) := by decide +kernel
theorem d_L_law_162 : decode code 162 = .ok (.iload_n 3, 1) := by decide +kernel
theorem d_L_law_163 : decode code 163 = .ok (.iconst 2, 1) := by decide +kernel
theorem d_L_law_164 : decode code 164 = .ok (.iadd, 1) := by decide +kernel
theorem d_L_law_165 : decode code 165 = .ok (.iaload, 1) := by decide +kernel
theorem d_L_law_166 : decode code 166 = .ok (.aload_n 0, 1) := by decide +kernel
theorem d_L_law_167 : decode code 167 = .ok (.iload_n 3, 1) := by decide +kernel
theorem d_L_law_168 : decode code 168 = .ok (.iconst 3, 1) := by decide +kernel
theorem d_L_law_169 : decode code 169 = .ok (.iadd, 1) := by decide +kernel
theorem d_L_law_170 : decode code 170 = .ok (.iaload, 1) := by decide +kernel
theorem d_L_law_171 : decode code 171 = .ok (.aload_n 0, 1) := by decide +kernel
theorem d_L_law_172 : decode code 172 = .ok (.iload_n 3, 1) := by decide +kernel
theorem d_L_law_173 : decode code 173 = .ok (.iconst 4, 1) := by decide +kernel
theorem d_L_law_174 : decode code 174 = .ok (.iadd, 1) := by decide +kernel
theorem d_L_law_175 : decode code 175 = .ok (.iaload, 1) := by decide +kernel
theorem d_L_law_176 : decode code 176 = .ok (.invokevirtual 18, 3) := by decide +kernel
theorem d_L_law_179 : decode code 179 = .ok (.aload_n 2, 1) := by decide +kernel
theorem d_L_law_180 : decode code 180 = .ok (.aload_n 0, 1) := by decide +kernel
theorem d_L_law_181 : decode code 181 = .ok (.iload_n 3, 1) := by decide +kernel
theorem d_L_law_182 : decode code 182 = .ok (.iconst 1, 1) := by decide +kernel
theorem d_L_law_183 : decode code 183 = .ok (.iadd, 1) := by decide +kernel
theorem d_L_law_184 : decode code 184 = .ok (.iaload, 1) := by decide +kernel
theorem d_L_law_185 : decode code 185 = .ok (.aload_n 0, 1) := by decide +kernel
theorem d_L_law_186 : decode code 186 = .ok (.iload_n 3, 1) := by decide +kernel
theorem d_L_law_187 : decode code 187 = .ok (.iconst 2, 1) := by decide +kernel
theorem d_L_law_188 : decode code 188 = .ok (.iadd, 1) := by decide +kernel
theorem d_L_law_189 : decode code 189 = .ok (.iaload, 1) := by decide +kernel
theorem d_L_law_190 : decode code 190 = .ok (.aload_n 0, 1) := by decide +kernel
theorem d_L_law_191 : decode code 191 = .ok (.iload_n 3, 1) := by decide +kernel
theorem d_L_law_192 : decode code 192 = .ok (.iconst 3, 1) := by decide +kernel
theorem d_L_law_193 : decode code 193 = .ok (.iadd, 1) := by decide +kernel
theorem d_L_law_194 : decode code 194 = .ok (.iaload, 1) := by decide +kernel
theorem d_L_law_195 : decode code 195 = .ok (.aload_n 0, 1) := by decide +kernel
theorem d_L_law_196 : decode code 196 = .ok (.iload_n 3, 1) := by decide +kernel
theorem d_L_law_197 : decode code 197 = .ok (.iconst 4, 1) := by decide +kernel
theorem d_L_law_198 : decode code 198 = .ok (.iadd, 1) := by decide +kernel
theorem d_L_law_199 : decode code 199 = .ok (.iaload, 1) := by decide +kernel
theorem d_L_law_200 : decode code 200 = .ok (.invokevirtual 22, 3) := by decide +kernel
theorem d_L_law_203 : decode code 203 = .ok (.if_icmp .eq 395, 3) := by decide +kernel
theorem d_L_law_206 : decode code 206 = .ok (.iconst 0, 1) := by decide +kernel
theorem d_L_law_207 : decode code 207 = .ok (.ireturn, 1) := by decide +kernel
theorem d_L_law_208 : decode code 208 = .ok (.aload_n 1, 1) := by decide +kernel
theorem d_L_law_209 : decode code 209 = .ok (.aload_n 0, 1) := by decide +kernel
theorem d_L_law_210 : decode code 210 = .ok (.iload_n 3, 1) := by decide +kernel
theorem d_L_law_211 : decode code 211 = .ok (.iconst 1, 1) := by decide +kernel
theorem d_L_law_212 : decode code 212 = .ok (.iadd, 1) := by decide +kernel
theorem d_L_law_213 : decode code 213 = .ok (.iaload, 1) := by decide +kernel
theorem d_L_law_214 : decode code 214 = .ok (.aload_n 0, 1) := by decide +kernel
theorem d_L_law_215 : decode code 215 = .ok (.iload_n 3, 1) := by decide +kernel
theorem d_L_law_216 : decode code 216 = .ok (.iconst 2, 1) := by decide +kernel
theorem d_L_law_217 : decode code 217 = .ok (.iadd, 1) := by decide +kernel
theorem d_L_law_218 : decode code 218 = .ok (.iaload, 1) := by decide +kernel
theorem d_L_law_219 : decode code 219 = .ok (.aload_n 0, 1) := by decide +kernel
theorem d_L_law_220 : decode code 220 = .ok (.iload_n 3, 1) := by decide +kernel
theorem d_L_law_221 : decode code 221 = .ok (.iconst 3, 1) := by decide +kernel
theorem d_L_law_222 : decode code 222 = .ok (.iadd, 1) := by decide +kernel
theorem d_L_law_223 : decode code 223 = .ok (.iaload, 1) := by decide +kernel
theorem d_L_law_224 : decode code 224 = .ok (.invokevirtual 23, 3) := by decide +kernel
theorem d_L_law_227 : decode code 227 = .ok (.aload_n 2, 1) := by decide +kernel
theorem d_L_law_228 : decode code 228 = .ok (.aload_n 0, 1) := by decide +kernel
theorem d_L_law_229 : decode code 229 = .ok (.iload_n 3, 1) := by decide +kernel
theorem d_L_law_230 : decode code 230 = .ok (.iconst 1, 1) := by decide +kernel
theorem d_L_law_231 : decode code 231 = .ok (.iadd, 1) := by decide +kernel
theorem d_L_law_232 : decode code 232 = .ok (.iaload, 1) := by decide +kernel
theorem d_L_law_233 : decode code 233 = .ok (.aload_n 0, 1) := by decide +kernel
theorem d_L_law_234 : decode code 234 = .ok (.iload_n 3, 1) := by decide +kernel
theorem d_L_law_235 : decode code 235 = .ok (.iconst 2, 1) := by decide +kernel
theorem d_L_law_236 : decode code 236 = .ok (.iadd, 1) := by decide +kernel
theorem d_L_law_237 : decode code 237 = .ok (.iaload, 1) := by decide +kernel
theorem d_L_law_238 : decode code 238 = .ok (.aload_n 0, 1) := by decide +kernel
theorem d_L_law_239 : decode code 239 = .ok (.iload_n 3, 1) := by decide +kernel
theorem d_L_law_240 : decode code 240 = .ok (.iconst 3, 1) := by decide +kernel
theorem d_L_law_241 : decode code 241 = .ok (.iadd, 1) := by decide +kernel
theorem d_L_law_242 : decode code 242 = .ok (.iaload, 1) := by decide +kernel
theorem d_L_law_243 : decode code 243 = .ok (.invokevirtual 27, 3) := by decide +kernel
theorem d_L_law_246 : decode code 246 = .ok (.if_icmp .eq 352, 3) := by decide +kernel
theorem d_L_law_249 : decode code 249 = .ok (.iconst 0, 1) := by decide +kernel
theorem d_L_law_250 : decode code 250 = .ok (.ireturn, 1) := by decide +kernel
theorem d_L_law_251 : decode code 251 = .ok (.aload_n 1, 1) := by decide +kernel
theorem d_L_law_252 : decode code 252 = .ok (.aload_n 0, 1) := by decide +kernel
theorem d_L_law_253 : decode code 253 = .ok (.iload_n 3, 1) := by decide +kernel
theorem d_L_law_254 : decode code 254 = .ok (.iconst 1, 1) := by decide +kernel
theorem d_L_law_255 : decode code 255 = .ok (.iadd, 1) := by decide +kernel
theorem d_L_law_256 : decode code 256 = .ok (.iaload, 1) := by decide +kernel
theorem d_L_law_257 : decode code 257 = .ok (.aload_n 0, 1) := by decide +kernel
theorem d_L_law_258 : decode code 258 = .ok (.iload_n 3, 1) := by decide +kernel
theorem d_L_law_259 : decode code 259 = .ok (.iconst 2, 1) := by decide +kernel
theorem d_L_law_260 : decode code 260 = .ok (.iadd, 1) := by decide +kernel
theorem d_L_law_261 : decode code 261 = .ok (.iaload, 1) := by decide +kernel
theorem d_L_law_262 : decode code 262 = .ok (.aload_n 0, 1) := by decide +kernel
theorem d_L_law_263 : decode code 263 = .ok (.iload_n 3, 1) := by decide +kernel
theorem d_L_law_264 : decode code 264 = .ok (.iconst 3, 1) := by decide +kernel
theorem d_L_law_265 : decode code 265 = .ok (.iadd, 1) := by decide +kernel
theorem d_L_law_266 : decode code 266 = .ok (.iaload, 1) := by decide +kernel
theorem d_L_law_267 : decode code 267 = .ok (.aload_n 0, 1) := by decide +kernel
theorem d_L_law_268 : decode code 268 = .ok (.iload_n 3, 1) := by decide +kernel
theorem d_L_law_269 : decode code 269 = .ok (.iconst 4, 1) := by decide +kernel
theorem d_L_law_270 : decode code 270 = .ok (.iadd, 1) := by decide +kernel
theorem d_L_law_271 : decode code 271 = .ok (.iaload, 1) := by decide +kernel
theorem d_L_law_272 : decode code 272 = .ok (.invokevirtual 28, 3) := by decide +kernel
theorem d_L_law_275 : decode code 275 = .ok (.aload_n 2, 1) := by decide +kernel
theorem d_L_law_276 : decode code 276 = .ok (.aload_n 0, 1) := by decide +kernel
theorem d_L_law_277 : decode code 277 = .ok (.iload_n 3, 1) := by decide +kernel
theorem d_L_law_278 : decode code 278 = .ok (.iconst 1, 1) := by decide +kernel
theorem d_L_law_279 : decode code 279 = .ok (.iadd, 1) := by decide +kernel
theorem d_L_law_280 : decode code 280 = .ok (.iaload, 1) := by decide +kernel
theorem d_L_law_281 : decode code 281 = .ok (.aload_n 0, 1) := by decide +kernel
theorem d_L_law_282 : decode code 282 = .ok (.iload_n 3, 1) := by decide +kernel
theorem d_L_law_283 : decode code 283 = .ok (.iconst 2, 1) := by decide +kernel
theorem d_L_law_284 : decode code 284 = .ok (.iadd, 1) := by decide +kernel
theorem d_L_law_285 : decode code 285 = .ok (.iaload, 1) := by decide +kernel
theorem d_L_law_286 : decode code 286 = .ok (.aload_n 0, 1) := by decide +kernel
theorem d_L_law_287 : decode code 287 = .ok (.iload_n 3, 1) := by decide +kernel
theorem d_L_law_288 : decode code 288 = .ok (.iconst 3, 1) := by decide +kernel
theorem d_L_law_289 : decode code 289 = .ok (.iadd, 1) := by decide +kernel
theorem d_L_law_290 : decode code 290 = .ok (.iaload, 1) := by decide +kernel
theorem d_L_law_291 : decode code 291 = .ok (.aload_n 0, 1) := by decide +kernel
theorem d_L_law_292 : decode code 292 = .ok (.iload_n 3, 1) := by decide +kernel
theorem d_L_law_293 : decode code 293 = .ok (.iconst 4, 1) := by decide +kernel
theorem d_L_law_294 : decode code 294 = .ok (.iadd, 1) := by decide +kernel
theorem d_L_law_295 : decode code 295 = .ok (.iaload, 1) := by decide +kernel
theorem d_L_law_296 : decode code 296 = .ok (.invokevirtual 32, 3) := by decide +kernel
theorem d_L_law_299 : decode code 299 = .ok (.if_icmp .eq 299, 3) := by decide +kernel
theorem d_L_law_302 : decode code 302 = .ok (.iconst 0, 1) := by decide +kernel
theorem d_L_law_303 : decode code 303 = .ok (.ireturn, 1) := by decide +kernel
theorem d_L_law_304 : decode code 304 = .ok (.aload_n 1, 1) := by decide +kernel
theorem d_L_law_305 : decode code 305 = .ok (.invokevirtual 33, 3) := by decide +kernel
theorem d_L_law_308 : decode code 308 = .ok (.aload_n 2, 1) := by decide +kernel
theorem d_L_law_309 : decode code 309 = .ok (.invokevirtual 37, 3) := by decide +kernel
theorem d_L_law_312 : decode code 312 = .ok (.if_icmp .eq 286, 3) := by decide +kernel
theorem d_L_law_315 : decode code 315 = .ok (.iconst 0, 1) := by decide +kernel
theorem d_L_law_316 : decode code 316 = .ok (.ireturn, 1) := by decide +kernel
theorem d_L_law_317 : decode code 317 = .ok (.aload_n 1, 1) := by decide +kernel
theorem d_L_law_318 : decode code 318 = .ok (.invokevirtual 38, 3) := by decide +kernel
theorem d_L_law_321 : decode code 321 = .ok (.aload_n 2, 1) := by decide +kernel
theorem d_L_law_322 : decode code 322 = .ok (.invokevirtual 41, 3) := by decide +kernel
theorem d_L_law_325 : decode code 325 = .ok (.if_icmp .eq 273, 3) := by decide +kernel
theorem d_L_law_328 : decode code 328 = .ok (.iconst 0, 1) := by decide +kernel
theorem d_L_law_329 : decode code 329 = .ok (.ireturn, 1) := by decide +kernel
theorem d_L_law_330 : decode code 330 = .ok (.aload_n 1, 1) := by decide +kernel
theorem d_L_law_331 : decode code 331 = .ok (.invokevirtual 42, 3) := by decide +kernel
theorem d_L_law_334 : decode code 334 = .ok (.aload_n 2, 1) := by decide +kernel
theorem d_L_law_335 : decode code 335 = .ok (.invokevirtual 45, 3) := by decide +kernel
theorem d_L_law_338 : decode code 338 = .ok (.if_icmp .eq 260, 3) := by decide +kernel
theorem d_L_law_341 : decode code 341 = .ok (.iconst 0, 1) := by decide +kernel
theorem d_L_law_342 : decode code 342 = .ok (.ireturn, 1) := by decide +kernel
theorem d_L_law_343 : decode code 343 = .ok (.aload_n 1, 1) := by decide +kernel
theorem d_L_law_344 : decode code 344 = .ok (.aload_n 0, 1) := by decide +kernel
theorem d_L_law_345 : decode code 345 = .ok (.iload_n 3, 1) := by decide +kernel
theorem d_L_law_346 : decode code 346 = .ok (.iconst 1, 1) := by decide +kernel
theorem d_L_law_347 : decode code 347 = .ok (.iadd, 1) := by decide +kernel
theorem d_L_law_348 : decode code 348 = .ok (.iaload, 1) := by decide +kernel
theorem d_L_law_349 : decode code 349 = .ok (.aload_n 0, 1) := by decide +kernel
theorem d_L_law_350 : decode code 350 = .ok (.iload_n 3, 1) := by decide +kernel
theorem d_L_law_351 : decode code 351 = .ok (.iconst 2, 1) := by decide +kernel
theorem d_L_law_352 : decode code 352 = .ok (.iadd, 1) := by decide +kernel
theorem d_L_law_353 : decode code 353 = .ok (.iaload, 1) := by decide +kernel
theorem d_L_law_354 : decode code 354 = .ok (.aload_n 0, 1) := by decide +kernel
theorem d_L_law_355 : decode code 355 = .ok (.iload_n 3, 1) := by decide +kernel
theorem d_L_law_356 : decode code 356 = .ok (.iconst 3, 1) := by decide +kernel
theorem d_L_law_357 : decode code 357 = .ok (.iadd, 1) := by decide +kernel
theorem d_L_law_358 : decode code 358 = .ok (.iaload, 1) := by decide +kernel
theorem d_L_law_359 : decode code 359 = .ok (.invokevirtual 46, 3) := by decide +kernel
theorem d_L_law_362 : decode code 362 = .ok (.aload_n 2, 1) := by decide +kernel
theorem d_L_law_363 : decode code 363 = .ok (.aload_n 0, 1) := by decide +kernel
theorem d_L_law_364 : decode code 364 = .ok (.iload_n 3, 1) := by decide +kernel
theorem d_L_law_365 : decode code 365 = .ok (.iconst 1, 1) := by decide +kernel
theorem d_L_law_366 : decode code 366 = .ok (.iadd, 1) := by decide +kernel
theorem d_L_law_367 : decode code 367 = .ok (.iaload, 1) := by decide +kernel
theorem d_L_law_368 : decode code 368 = .ok (.aload_n 0, 1) := by decide +kernel
theorem d_L_law_369 : decode code 369 = .ok (.iload_n 3, 1) := by decide +kernel
theorem d_L_law_370 : decode code 370 = .ok (.iconst 2, 1) := by decide +kernel
theorem d_L_law_371 : decode code 371 = .ok (.iadd, 1) := by decide +kernel
theorem d_L_law_372 : decode code 372 = .ok (.iaload, 1) := by decide +kernel
theorem d_L_law_373 : decode code 373 = .ok (.aload_n 0, 1) := by decide +kernel
theorem d_L_law_374 : decode code 374 = .ok (.iload_n 3, 1) := by decide +kernel
theorem d_L_law_375 : decode code 375 = .ok (.iconst 3, 1) := by decide +kernel
theorem d_L_law_376 : decode code 376 = .ok (.iadd, 1) := by decide +kernel
theorem d_L_law_377 : decode code 377 = .ok (.iaload, 1) := by decide +kernel
theorem d_L_law_378 : decode code 378 = .ok (.invokevirtual 49, 3) := by decide +kernel
theorem d_L_law_381 : decode code 381 = .ok (.if_icmp .eq 217, 3) := by decide +kernel
theorem d_L_law_384 : decode code 384 = .ok (.iconst 0, 1) := by decide +kernel
theorem d_L_law_385 : decode code 385 = .ok (.ireturn, 1) := by decide +kernel
theorem d_L_law_386 : decode code 386 = .ok (.aload_n 1, 1) := by decide +kernel
theorem d_L_law_387 : decode code 387 = .ok (.aload_n 0, 1) := by decide +kernel
theorem d_L_law_388 : decode code 388 = .ok (.iload_n 3, 1) := by decide +kernel
theorem d_L_law_389 : decode code 389 = .ok (.iconst 1, 1) := by decide +kernel
theorem d_L_law_390 : decode code 390 = .ok (.iadd, 1) := by decide +kernel
theorem d_L_law_391 : decode code 391 = .ok (.iaload, 1) := by decide +kernel
theorem d_L_law_392 : decode code 392 = .ok (.aload_n 0, 1) := by decide +kernel
theorem d_L_law_393 : decode code 393 = .ok (.iload_n 3, 1) := by decide +kernel
theorem d_L_law_394 : decode code 394 = .ok (.iconst 2, 1) := by decide +kernel
theorem d_L_law_395 : decode code 395 = .ok (.iadd, 1) := by decide +kernel
theorem d_L_law_396 : decode code 396 = .ok (.iaload, 1) := by decide +kernel
theorem d_L_law_397 : decode code 397 = .ok (.aload_n 0, 1) := by decide +kernel
theorem d_L_law_398 : decode code 398 = .ok (.iload_n 3, 1) := by decide +kernel
theorem d_L_law_399 : decode code 399 = .ok (.iconst 3, 1) := by decide +kernel
theorem d_L_law_400 : decode code 400 = .ok (.iadd, 1) := by decide +kernel
theorem d_L_law_401 : decode code 401 = .ok (.iaload, 1) := by decide +kernel
theorem d_L_law_402 : decode code 402 = .ok (.aload_n 0, 1) := by decide +kernel
theorem d_L_law_403 : decode code 403 = .ok (.iload_n 3, 1) := by decide +kernel
theorem d_L_law_404 : decode code 404 = .ok (.iconst 4, 1) := by decide +kernel
theorem d_L_law_405 : decode code 405 = .ok (.iadd, 1) := by decide +kernel
theorem d_L_law_406 : decode code 406 = .ok (.iaload, 1) := by decide +kernel
theorem d_L_law_407 : decode code 407 = .ok (.ifCond .eq 7, 3) := by decide +kernel
theorem d_L_law_410 : decode code 410 = .ok (.iconst 1, 1) := by decide +kernel
theorem d_L_law_411 : decode code 411 = .ok (.goto 4, 3) := by decide +kernel
theorem d_L_law_414 : decode code 414 = .ok (.iconst 0, 1) := by decide +kernel
theorem d_L_law_415 : decode code 415 = .ok (.invokevirtual 50, 3) := by decide +kernel
theorem d_L_law_418 : decode code 418 = .ok (.aload_n 2, 1) := by decide +kernel
theorem d_L_law_419 : decode code 419 = .ok (.aload_n 0, 1) := by decide +kernel
theorem d_L_law_420 : decode code 420 = .ok (.iload_n 3, 1) := by decide +kernel
theorem d_L_law_421 : decode code 421 = .ok (.iconst 1, 1) := by decide +kernel
theorem d_L_law_422 : decode code 422 = .ok (.iadd, 1) := by decide +kernel
theorem d_L_law_423 : decode code 423 = .ok (.iaload, 1) := by decide +kernel
theorem d_L_law_424 : decode code 424 = .ok (.aload_n 0, 1) := by decide +kernel
theorem d_L_law_425 : decode code 425 = .ok (.iload_n 3, 1) := by decide +kernel
theorem d_L_law_426 : decode code 426 = .ok (.iconst 2, 1) := by decide +kernel
theorem d_L_law_427 : decode code 427 = .ok (.iadd, 1) := by decide +kernel
theorem d_L_law_428 : decode code 428 = .ok (.iaload, 1) := by decide +kernel
theorem d_L_law_429 : decode code 429 = .ok (.aload_n 0, 1) := by decide +kernel
theorem d_L_law_430 : decode code 430 = .ok (.iload_n 3, 1) := by decide +kernel
theorem d_L_law_431 : decode code 431 = .ok (.iconst 3, 1) := by decide +kernel
theorem d_L_law_432 : decode code 432 = .ok (.iadd, 1) := by decide +kernel
theorem d_L_law_433 : decode code 433 = .ok (.iaload, 1) := by decide +kernel
theorem d_L_law_434 : decode code 434 = .ok (.aload_n 0, 1) := by decide +kernel
theorem d_L_law_435 : decode code 435 = .ok (.iload_n 3, 1) := by decide +kernel
theorem d_L_law_436 : decode code 436 = .ok (.iconst 4, 1) := by decide +kernel
theorem d_L_law_437 : decode code 437 = .ok (.iadd, 1) := by decide +kernel
theorem d_L_law_438 : decode code 438 = .ok (.iaload, 1) := by decide +kernel
theorem d_L_law_439 : decode code 439 = .ok (.ifCond .eq 7, 3) := by decide +kernel
theorem d_L_law_442 : decode code 442 = .ok (.iconst 1, 1) := by decide +kernel
theorem d_L_law_443 : decode code 443 = .ok (.goto 4, 3) := by decide +kernel
theorem d_L_law_446 : decode code 446 = .ok (.iconst 0, 1) := by decide +kernel
theorem d_L_law_447 : decode code 447 = .ok (.invokevirtual 54, 3) := by decide +kernel
theorem d_L_law_450 : decode code 450 = .ok (.if_icmp .eq 148, 3) := by decide +kernel
theorem d_L_law_453 : decode code 453 = .ok (.iconst 0, 1) := by decide +kernel
theorem d_L_law_454 : decode code 454 = .ok (.ireturn, 1) := by decide +kernel
theorem d_L_law_455 : decode code 455 = .ok (.aload_n 1, 1) := by decide +kernel
theorem d_L_law_456 : decode code 456 = .ok (.aload_n 0, 1) := by decide +kernel
theorem d_L_law_457 : decode code 457 = .ok (.iload_n 3, 1) := by decide +kernel
theorem d_L_law_458 : decode code 458 = .ok (.iconst 1, 1) := by decide +kernel
theorem d_L_law_459 : decode code 459 = .ok (.iadd, 1) := by decide +kernel
theorem d_L_law_460 : decode code 460 = .ok (.iaload, 1) := by decide +kernel
theorem d_L_law_461 : decode code 461 = .ok (.aload_n 0, 1) := by decide +kernel
theorem d_L_law_462 : decode code 462 = .ok (.iload_n 3, 1) := by decide +kernel
theorem d_L_law_463 : decode code 463 = .ok (.iconst 2, 1) := by decide +kernel
theorem d_L_law_464 : decode code 464 = .ok (.iadd, 1) := by decide +kernel
theorem d_L_law_465 : decode code 465 = .ok (.iaload, 1) := by decide +kernel
theorem d_L_law_466 : decode code 466 = .ok (.aload_n 0, 1) := by decide +kernel
theorem d_L_law_467 : decode code 467 = .ok (.iload_n 3, 1) := by decide +kernel
theorem d_L_law_468 : decode code 468 = .ok (.iconst 3, 1) := by decide +kernel
theorem d_L_law_469 : decode code 469 = .ok (.iadd, 1) := by decide +kernel
theorem d_L_law_470 : decode code 470 = .ok (.iaload, 1) := by decide +kernel
theorem d_L_law_471 : decode code 471 = .ok (.aload_n 0, 1) := by decide +kernel
theorem d_L_law_472 : decode code 472 = .ok (.iload_n 3, 1) := by decide +kernel
theorem d_L_law_473 : decode code 473 = .ok (.iconst 4, 1) := by decide +kernel
theorem d_L_law_474 : decode code 474 = .ok (.iadd, 1) := by decide +kernel
theorem d_L_law_475 : decode code 475 = .ok (.iaload, 1) := by decide +kernel
theorem d_L_law_476 : decode code 476 = .ok (.ifCond .eq 7, 3) := by decide +kernel
theorem d_L_law_479 : decode code 479 = .ok (.iconst 1, 1) := by decide +kernel
theorem d_L_law_480 : decode code 480 = .ok (.goto 4, 3) := by decide +kernel
theorem d_L_law_483 : decode code 483 = .ok (.iconst 0, 1) := by decide +kernel
theorem d_L_law_484 : decode code 484 = .ok (.aload_n 0, 1) := by decide +kernel
theorem d_L_law_485 : decode code 485 = .ok (.iload_n 3, 1) := by decide +kernel
theorem d_L_law_486 : decode code 486 = .ok (.iconst 5, 1) := by decide +kernel
theorem d_L_law_487 : decode code 487 = .ok (.iadd, 1) := by decide +kernel
theorem d_L_law_488 : decode code 488 = .ok (.iaload, 1) := by decide +kernel
theorem d_L_law_489 : decode code 489 = .ok (.invokevirtual 55, 3) := by decide +kernel
theorem d_L_law_492 : decode code 492 = .ok (.aload_n 2, 1) := by decide +kernel
theorem d_L_law_493 : decode code 493 = .ok (.aload_n 0, 1) := by decide +kernel
theorem d_L_law_494 : decode code 494 = .ok (.iload_n 3, 1) := by decide +kernel
theorem d_L_law_495 : decode code 495 = .ok (.iconst 1, 1) := by decide +kernel
theorem d_L_law_496 : decode code 496 = .ok (.iadd, 1) := by decide +kernel
theorem d_L_law_497 : decode code 497 = .ok (.iaload, 1) := by decide +kernel
theorem d_L_law_498 : decode code 498 = .ok (.aload_n 0, 1) := by decide +kernel
theorem d_L_law_499 : decode code 499 = .ok (.iload_n 3, 1) := by decide +kernel
theorem d_L_law_500 : decode code 500 = .ok (.iconst 2, 1) := by decide +kernel
theorem d_L_law_501 : decode code 501 = .ok (.iadd, 1) := by decide +kernel
theorem d_L_law_502 : decode code 502 = .ok (.iaload, 1) := by decide +kernel
theorem d_L_law_503 : decode code 503 = .ok (.aload_n 0, 1) := by decide +kernel
theorem d_L_law_504 : decode code 504 = .ok (.iload_n 3, 1) := by decide +kernel
theorem d_L_law_505 : decode code 505 = .ok (.iconst 3, 1) := by decide +kernel
theorem d_L_law_506 : decode code 506 = .ok (.iadd, 1) := by decide +kernel
theorem d_L_law_507 : decode code 507 = .ok (.iaload, 1) := by decide +kernel
theorem d_L_law_508 : decode code 508 = .ok (.aload_n 0, 1) := by decide +kernel
theorem d_L_law_509 : decode code 509 = .ok (.iload_n 3, 1) := by decide +kernel
theorem d_L_law_510 : decode code 510 = .ok (.iconst 4, 1) := by decide +kernel
theorem d_L_law_511 : decode code 511 = .ok (.iadd, 1) := by decide +kernel
theorem d_L_law_512 : decode code 512 = .ok (.iaload, 1) := by decide +kernel
theorem d_L_law_513 : decode code 513 = .ok (.ifCond .eq 7, 3) := by decide +kernel
theorem d_L_law_516 : decode code 516 = .ok (.iconst 1, 1) := by decide +kernel
theorem d_L_law_517 : decode code 517 = .ok (.goto 4, 3) := by decide +kernel
theorem d_L_law_520 : decode code 520 = .ok (.iconst 0, 1) := by decide +kernel
theorem d_L_law_521 : decode code 521 = .ok (.aload_n 0, 1) := by decide +kernel
theorem d_L_law_522 : decode code 522 = .ok (.iload_n 3, 1) := by decide +kernel
theorem d_L_law_523 : decode code 523 = .ok (.iconst 5, 1) := by decide +kernel
theorem d_L_law_524 : decode code 524 = .ok (.iadd, 1) := by decide +kernel
theorem d_L_law_525 : decode code 525 = .ok (.iaload, 1) := by decide +kernel
theorem d_L_law_526 : decode code 526 = .ok (.invokevirtual 59, 3) := by decide +kernel
theorem d_L_law_529 : decode code 529 = .ok (.lcmp, 1) := by decide +kernel
theorem d_L_law_530 : decode code 530 = .ok (.ifCond .eq 68, 3) := by decide +kernel
theorem d_L_law_533 : decode code 533 = .ok (.iconst 0, 1) := by decide +kernel
theorem d_L_law_534 : decode code 534 = .ok (.ireturn, 1) := by decide +kernel
theorem d_L_law_535 : decode code 535 = .ok (.aload_n 1, 1) := by decide +kernel
theorem d_L_law_536 : decode code 536 = .ok (.aload_n 0, 1) := by decide +kernel
theorem d_L_law_537 : decode code 537 = .ok (.iload_n 3, 1) := by decide +kernel
theorem d_L_law_538 : decode code 538 = .ok (.iconst 1, 1) := by decide +kernel
theorem d_L_law_539 : decode code 539 = .ok (.iadd, 1) := by decide +kernel
theorem d_L_law_540 : decode code 540 = .ok (.iaload, 1) := by decide +kernel
theorem d_L_law_541 : decode code 541 = .ok (.aload_n 0, 1) := by decide +kernel
theorem d_L_law_542 : decode code 542 = .ok (.iload_n 3, 1) := by decide +kernel
theorem d_L_law_543 : decode code 543 = .ok (.iconst 2, 1) := by decide +kernel
theorem d_L_law_544 : decode code 544 = .ok (.iadd, 1) := by decide +kernel
theorem d_L_law_545 : decode code 545 = .ok (.iaload, 1) := by decide +kernel
theorem d_L_law_546 : decode code 546 = .ok (.aload_n 0, 1) := by decide +kernel
theorem d_L_law_547 : decode code 547 = .ok (.iload_n 3, 1) := by decide +kernel
theorem d_L_law_548 : decode code 548 = .ok (.iconst 3, 1) := by decide +kernel
theorem d_L_law_549 : decode code 549 = .ok (.iadd, 1) := by decide +kernel
theorem d_L_law_550 : decode code 550 = .ok (.iaload, 1) := by decide +kernel
theorem d_L_law_551 : decode code 551 = .ok (.aload_n 0, 1) := by decide +kernel
theorem d_L_law_552 : decode code 552 = .ok (.iload_n 3, 1) := by decide +kernel
theorem d_L_law_553 : decode code 553 = .ok (.iconst 4, 1) := by decide +kernel
theorem d_L_law_554 : decode code 554 = .ok (.iadd, 1) := by decide +kernel
theorem d_L_law_555 : decode code 555 = .ok (.iaload, 1) := by decide +kernel
theorem d_L_law_556 : decode code 556 = .ok (.aload_n 0, 1) := by decide +kernel
theorem d_L_law_557 : decode code 557 = .ok (.iload_n 3, 1) := by decide +kernel
theorem d_L_law_558 : decode code 558 = .ok (.iconst 5, 1) := by decide +kernel
theorem d_L_law_559 : decode code 559 = .ok (.iadd, 1) := by decide +kernel
theorem d_L_law_560 : decode code 560 = .ok (.iaload, 1) := by decide +kernel
theorem d_L_law_561 : decode code 561 = .ok (.invokevirtual 60, 3) := by decide +kernel
theorem d_L_law_564 : decode code 564 = .ok (.aload_n 2, 1) := by decide +kernel
theorem d_L_law_565 : decode code 565 = .ok (.aload_n 0, 1) := by decide +kernel
theorem d_L_law_566 : decode code 566 = .ok (.iload_n 3, 1) := by decide +kernel
theorem d_L_law_567 : decode code 567 = .ok (.iconst 1, 1) := by decide +kernel
theorem d_L_law_568 : decode code 568 = .ok (.iadd, 1) := by decide +kernel
theorem d_L_law_569 : decode code 569 = .ok (.iaload, 1) := by decide +kernel
theorem d_L_law_570 : decode code 570 = .ok (.aload_n 0, 1) := by decide +kernel
theorem d_L_law_571 : decode code 571 = .ok (.iload_n 3, 1) := by decide +kernel
theorem d_L_law_572 : decode code 572 = .ok (.iconst 2, 1) := by decide +kernel
theorem d_L_law_573 : decode code 573 = .ok (.iadd, 1) := by decide +kernel
theorem d_L_law_574 : decode code 574 = .ok (.iaload, 1) := by decide +kernel
theorem d_L_law_575 : decode code 575 = .ok (.aload_n 0, 1) := by decide +kernel
theorem d_L_law_576 : decode code 576 = .ok (.iload_n 3, 1) := by decide +kernel
theorem d_L_law_577 : decode code 577 = .ok (.iconst 3, 1) := by decide +kernel
theorem d_L_law_578 : decode code 578 = .ok (.iadd, 1) := by decide +kernel
theorem d_L_law_579 : decode code 579 = .ok (.iaload, 1) := by decide +kernel
theorem d_L_law_580 : decode code 580 = .ok (.aload_n 0, 1) := by decide +kernel
theorem d_L_law_581 : decode code 581 = .ok (.iload_n 3, 1) := by decide +kernel
theorem d_L_law_582 : decode code 582 = .ok (.iconst 4, 1) := by decide +kernel
theorem d_L_law_583 : decode code 583 = .ok (.iadd, 1) := by decide +kernel
theorem d_L_law_584 : decode code 584 = .ok (.iaload, 1) := by decide +kernel
theorem d_L_law_585 : decode code 585 = .ok (.aload_n 0, 1) := by decide +kernel
theorem d_L_law_586 : decode code 586 = .ok (.iload_n 3, 1) := by decide +kernel
theorem d_L_law_587 : decode code 587 = .ok (.iconst 5, 1) := by decide +kernel
theorem d_L_law_588 : decode code 588 = .ok (.iadd, 1) := by decide +kernel
theorem d_L_law_589 : decode code 589 = .ok (.iaload, 1) := by decide +kernel
theorem d_L_law_590 : decode code 590 = .ok (.invokevirtual 63, 3) := by decide +kernel
theorem d_L_law_593 : decode code 593 = .ok (.if_icmp .eq 5, 3) := by decide +kernel
theorem d_L_law_596 : decode code 596 = .ok (.iconst 0, 1) := by decide +kernel
theorem d_L_law_597 : decode code 597 = .ok (.ireturn, 1) := by decide +kernel
theorem d_L_law_598 : decode code 598 = .ok (.iinc 3 6, 3) := by decide +kernel
theorem d_L_law_601 : decode code 601 = .ok (.goto (-583), 3) := by decide +kernel
theorem d_L_law_604 : decode code 604 = .ok (.iconst 1, 1) := by decide +kernel
theorem d_L_law_605 : decode code 605 = .ok (.ireturn, 1) := by decide +kernel
end
section
/-! ints and longs by their integers -/
def iI (z : Int) : Int32 := Int32.ofInt z
def jI (z : Int) : Int64 := Int64.ofInt z
def R31 (z : Int) : Prop := -2147483648 ≤ z ∧ z < 2147483648
def R63 (z : Int) : Prop := -9223372036854775808 ≤ z ∧ z < 9223372036854775808
theorem iI_add (a b : Int) : iI a + iI b = iI (a + b) := (Int32.ofInt_add a b).symm
theorem iI_sub (a b : Int) : iI a - iI b = iI (a - b) := (Int32.ofInt_sub a b).symm
theorem iI_mul (a b : Int) : iI a * iI b = iI (a * b) := (Int32.ofInt_mul a b).symm
theorem iI_neg (a : Int) : -iI a = iI (-a) := (Int32.ofInt_neg a).symm
theorem jI_add (a b : Int) : jI a + jI b = jI (a + b) := (Int64.ofInt_add a b).symm
theorem jI_sub (a b : Int) : jI a - jI b = jI (a - b) := (Int64.ofInt_sub a b).symm
theorem jI_mul (a b : Int) : jI a * jI b = jI (a * b) := (Int64.ofInt_mul a b).symm
theorem jI_neg (a : Int) : -jI a = jI (-a) := (Int64.ofInt_neg a).symm
theorem iI_of (x : Int32) : iI x.toInt = x := Int32.ofInt_toInt x
theorem jI_of (x : Int64) : jI x.toInt = x := Int64.ofInt_toInt x
theorem iI_R (x : Int32) : R31 x.toInt := ⟨x.le_toInt, x.toInt_lt⟩
theorem jI_R (x : Int64) : R63 x.toInt := ⟨x.le_toInt, x.toInt_lt⟩
theorem iI_int {z : Int} (h : R31 z) : (iI z).toInt = z := Int32.toInt_ofInt_of_le h.1 h.2
theorem jI_int {z : Int} (h : R63 z) : (jI z).toInt = z := Int64.toInt_ofInt_of_le h.1 h.2
theorem iI_lt {a b : Int} (ha : R31 a) (hb : R31 b) : iI a < iI b ↔ a < b := by rw [Int32.lt_iff_toInt_lt, iI_int ha, iI_int hb]
theorem iI_le {a b : Int} (ha : R31 a) (hb : R31 b) : iI a ≤ iI b ↔ a ≤ b := by rw [Int32.le_iff_toInt_le, iI_int ha, iI_int hb]
theorem iI_eq {a b : Int} (ha : R31 a) (hb : R31 b) : iI a = iI b ↔ a = b := by rw [← Int32.toInt_inj, iI_int ha, iI_int hb]
theorem jI_lt {a b : Int} (ha : R63 a) (hb : R63 b) : jI a < jI b ↔ a < b := by rw [Int64.lt_iff_toInt_lt, jI_int ha, jI_int hb]
theorem jI_eq {a b : Int} (ha : R63 a) (hb : R63 b) : jI a = jI b ↔ a = b := by rw [← Int64.toInt_inj, jI_int ha, jI_int hb]
theorem iI_0 : iI 0 = 0 := rfl
theorem iI_R0 : R31 0 := by constructor <;> decide
theorem iI_cl {a : Int} (h0 : 0 ≤ a) (h1 : a < 2147483648) : (iI a).toNatClampNeg = a.toNat := Int32.toNatClampNeg_ofInt_of_le (by omega) (by omega)
theorem iI_in {a : Int} {n : Nat} (h0 : 0 ≤ a) (h1 : a < (n : Int)) (hn : n < 2147483648) : vp_in (iI a) n := by
  rw [vp_in_iff, iI_int ⟨by omega, by omega⟩]
  exact ⟨h0, h1⟩
theorem i2j {z : Int} (h : R31 z) : (iI z).toInt64 = jI z := by
  have h1 := h.1
  have h2 := h.2
  exact Int32.toInt64_ofInt (by rw [Int32.toInt_minValue]; omega) (by rw [Int32.toInt_maxValue]; omega)
theorem j2i (z : Int) : (jI z).toInt32 = iI z := Int64.toInt32_ofInt
theorem jI_tn (z : Int) : (jI z).toBitVec.toNat = (z % 18446744073709551616).toNat := by
  show (BitVec.ofInt 64 z).toNat = _
  rw [BitVec.toNat_ofInt]; rfl
theorem iI_tn (z : Int) : (iI z).toBitVec.toNat = (z % 4294967296).toNat := by
  show (BitVec.ofInt 32 z).toNat = _
  rw [BitVec.toNat_ofInt]; rfl
theorem jI_mod (z : Int) : jI (z % 18446744073709551616) = jI z := by
  apply Int64.toBitVec_inj.mp
  apply BitVec.eq_of_toNat_eq
  rw [jI_tn, jI_tn]
  omega
theorem jI_ext {a b : Int} (h : a % 18446744073709551616 = b % 18446744073709551616) : jI a = jI b := by rw [← jI_mod a, h, jI_mod]
theorem iI_ext {a b : Int} (h : a % 4294967296 = b % 4294967296) : iI a = iI b := by
  apply Int32.toBitVec_inj.mp
  apply BitVec.eq_of_toNat_eq
  rw [iI_tn, iI_tn]
  omega
theorem p2c (k : Nat) : (2 : Int) ^ k = ((2 ^ k : Nat) : Int) := by simp
theorem p2le {k n : Nat} (h : k ≤ n) : (2 : Int) ^ k ≤ (2 : Int) ^ n := by
  rw [p2c, p2c]; exact Int.ofNat_le.mpr (Nat.pow_le_pow_right (by decide) h)
theorem p2pos (k : Nat) : (0 : Int) < (2 : Int) ^ k := Int.pow_pos (by decide)
theorem jI_and (z : Int) (k : Nat) (hk : k < 64) : jI z &&& jI ((2 : Int) ^ k - 1) = jI (z % (2 : Int) ^ k) := by
  apply Int64.toBitVec_inj.mp
  apply BitVec.eq_of_toNat_eq
  rw [Int64.toBitVec_and, BitVec.toNat_and, jI_tn, jI_tn, jI_tn]
  have hp : (0 : Int) < (2 : Int) ^ k := Int.pow_pos (by decide)
  have hq : (2 : Int) ^ k ≤ (2 : Int) ^ 63 := p2le (by omega)
  have hq' : (2 : Int) ^ 63 = 9223372036854775808 := by decide
  have e1 : ((2 : Int) ^ k - 1) % 18446744073709551616 = (2 : Int) ^ k - 1 := Int.emod_eq_of_lt (by omega) (by omega)
  have e2 : ((2 : Int) ^ k - 1).toNat = 2 ^ k - 1 := by
    have : ((2 : Int) ^ k) = ((2 ^ k : Nat) : Int) := by simp
    omega
  rw [e1, e2, Nat.and_two_pow_sub_one_eq_mod]
  have hm0 := Int.emod_nonneg z (show (2 : Int) ^ k ≠ 0 by omega)
  have hm1 := Int.emod_lt_of_pos z hp
  have e3 : z % (2 : Int) ^ k % 18446744073709551616 = z % (2 : Int) ^ k := Int.emod_eq_of_lt hm0 (by omega)
  rw [e3]
  have hd : (2 : Int) ^ k ∣ 18446744073709551616 := by
    refine ⟨(2 : Int) ^ (64 - k), ?_⟩
    rw [← Int.pow_add, show k + (64 - k) = 64 by omega]; decide
  have e4 : z % 18446744073709551616 % (2 : Int) ^ k = z % (2 : Int) ^ k := Int.emod_emod_of_dvd z hd
  have hz0 := Int.emod_nonneg z (show (18446744073709551616 : Int) ≠ 0 by decide)
  have : ((z % 18446744073709551616).toNat % 2 ^ k : Nat) = ((z % 18446744073709551616) % (2 : Int) ^ k).toNat := by
    rw [show ((2 : Int) ^ k) = ((2 ^ k : Nat) : Int) by simp]
    rw [Int.toNat_emod hz0 (Int.natCast_nonneg _), Int.toNat_natCast]
  rw [this, e4]
theorem iI_and (z : Int) (k : Nat) (hk : k < 32) : iI z &&& iI ((2 : Int) ^ k - 1) = iI (z % (2 : Int) ^ k) := by
  apply Int32.toBitVec_inj.mp
  apply BitVec.eq_of_toNat_eq
  rw [Int32.toBitVec_and, BitVec.toNat_and, iI_tn, iI_tn, iI_tn]
  have hp : (0 : Int) < (2 : Int) ^ k := Int.pow_pos (by decide)
  have hq : (2 : Int) ^ k ≤ (2 : Int) ^ 31 := p2le (by omega)
  have hq' : (2 : Int) ^ 31 = 2147483648 := by decide
  have e1 : ((2 : Int) ^ k - 1) % 4294967296 = (2 : Int) ^ k - 1 := Int.emod_eq_of_lt (by omega) (by omega)
  have e2 : ((2 : Int) ^ k - 1).toNat = 2 ^ k - 1 := by
    have : ((2 : Int) ^ k) = ((2 ^ k : Nat) : Int) := by simp
    omega
  rw [e1, e2, Nat.and_two_pow_sub_one_eq_mod]
  have hm0 := Int.emod_nonneg z (show (2 : Int) ^ k ≠ 0 by omega)
  have hm1 := Int.emod_lt_of_pos z hp
  have e3 : z % (2 : Int) ^ k % 4294967296 = z % (2 : Int) ^ k := Int.emod_eq_of_lt hm0 (by omega)
  rw [e3]
  have hd : (2 : Int) ^ k ∣ 4294967296 := by
    refine ⟨(2 : Int) ^ (32 - k), ?_⟩
    rw [← Int.pow_add, show k + (32 - k) = 32 by omega]; decide
  have e4 : z % 4294967296 % (2 : Int) ^ k = z % (2 : Int) ^ k := Int.emod_emod_of_dvd z hd
  have hz0 := Int.emod_nonneg z (show (4294967296 : Int) ≠ 0 by decide)
  have : ((z % 4294967296).toNat % 2 ^ k : Nat) = ((z % 4294967296) % (2 : Int) ^ k).toNat := by
    rw [show ((2 : Int) ^ k) = ((2 ^ k : Nat) : Int) by simp]
    rw [Int.toNat_emod hz0 (Int.natCast_nonneg _), Int.toNat_natCast]
  rw [this, e4]
theorem jI_cnt {k : Int} (h0 : 0 ≤ k) (h1 : k < 64) : ((iI k).toInt64 &&& 63) = lN k.toNat := by
  have e : iI k = nI k.toNat := by
    show Int32.ofInt k = Int32.ofNat k.toNat
    rw [← Int32.ofInt_eq_ofNat, Int.toNat_of_nonneg h0]
  rw [e]
  have : ∀ k, k < 64 → ((nI k).toInt64 &&& 63) = lN k := by decide
  exact this _ (by omega)
theorem jI_cntu {k : Int} (h0 : 0 ≤ k) (h1 : k < 64) : ((iI k).toInt64.toUInt64 &&& Int64.toUInt64 63) = UInt64.ofNat k.toNat := by
  have e : iI k = nI k.toNat := by
    show Int32.ofInt k = Int32.ofNat k.toNat
    rw [← Int32.ofInt_eq_ofNat, Int.toNat_of_nonneg h0]
  rw [e]
  have : ∀ k, k < 64 → ((nI k).toInt64.toUInt64 &&& Int64.toUInt64 63) = UInt64.ofNat k := by decide
  exact this _ (by omega)
theorem jI_shr {z k : Int} (hz : R63 z) (h0 : 0 ≤ k) (h1 : k < 64) : jI z >>> ((iI k).toInt64 &&& 63) = jI (z / (2 : Int) ^ k.toNat) := by
  rw [jI_cnt h0 h1]
  apply Int64.toInt_inj.mp
  have hs : ((lN k.toNat).toBitVec.smod 64).toNat = k.toNat := by
    have : ∀ k, k < 64 → ((lN k).toBitVec.smod 64).toNat = k := by decide
    exact this _ (by omega)
  have h2 : (jI z >>> lN k.toNat).toBitVec.toInt = (jI z).toInt >>> k.toNat := by
    show ((jI z).toBitVec.sshiftRight' ((lN k.toNat).toBitVec.smod 64)).toInt = _
    rw [BitVec.toInt_sshiftRight', hs]; rfl
  show (jI z >>> lN k.toNat).toBitVec.toInt = _
  rw [h2, jI_int hz, Int.shiftRight_eq_div_pow]
  have hp : (0 : Int) < (2 : Int) ^ k.toNat := Int.pow_pos (by decide)
  have e : ((2 ^ k.toNat : Nat) : Int) = (2 : Int) ^ k.toNat := by simp
  rw [e, jI_int]
  refine ⟨?_, ?_⟩
  · have := hz.1
    rw [Int.le_ediv_iff_mul_le hp]
    have h1 : (1 : Int) ≤ (2 : Int) ^ k.toNat := hp
    have := Int.mul_le_mul_of_nonpos_left (a := (-9223372036854775808 : Int)) (by decide) h1
    omega
  · have := hz.2
    have h1 : (1 : Int) ≤ (2 : Int) ^ k.toNat := hp
    refine Int.ediv_lt_of_lt_mul hp ?_
    have := Int.mul_le_mul_of_nonneg_left h1 (show (0 : Int) ≤ 9223372036854775808 by decide)
    omega
theorem iI_cnt {k : Int} (h0 : 0 ≤ k) (h1 : k < 32) : (iI k &&& 31) = nI k.toNat := by
  have e : iI k = nI k.toNat := by
    show Int32.ofInt k = Int32.ofNat k.toNat
    rw [← Int32.ofInt_eq_ofNat, Int.toNat_of_nonneg h0]
  rw [e]
  have : ∀ k, k < 32 → (nI k &&& 31) = nI k := by decide
  exact this _ (by omega)
theorem iI_shr {z k : Int} (hz : R31 z) (h0 : 0 ≤ k) (h1 : k < 32) : iI z >>> (iI k &&& 31) = iI (z / (2 : Int) ^ k.toNat) := by
  rw [iI_cnt h0 h1]
  apply Int32.toInt_inj.mp
  have hs : ((nI k.toNat).toBitVec.smod 32).toNat = k.toNat := by
    have : ∀ k, k < 32 → ((nI k).toBitVec.smod 32).toNat = k := by decide
    exact this _ (by omega)
  rw [pk_shr _ _ _ hs, iI_int hz, Int.shiftRight_eq_div_pow]
  have hp : (0 : Int) < (2 : Int) ^ k.toNat := Int.pow_pos (by decide)
  have e : ((2 ^ k.toNat : Nat) : Int) = (2 : Int) ^ k.toNat := by simp
  rw [e, iI_int]
  refine ⟨?_, ?_⟩
  · have := hz.1
    rw [Int.le_ediv_iff_mul_le hp]
    have h1 : (1 : Int) ≤ (2 : Int) ^ k.toNat := hp
    have := Int.mul_le_mul_of_nonpos_left (a := (-2147483648 : Int)) (by decide) h1
    omega
  · have := hz.2
    have h1 : (1 : Int) ≤ (2 : Int) ^ k.toNat := hp
    refine Int.ediv_lt_of_lt_mul hp ?_
    have := Int.mul_le_mul_of_nonneg_left h1 (show (0 : Int) ≤ 2147483648 by decide)
    omega
end
section
/-! the ambient facts of a walk, the world, the contract -/
def TT : List Cond := lw_tbl.filter goodWord
theorem tt_good : TT.all goodWord = true := by
  rw [List.all_eq_true]
  intro w hw
  exact (List.mem_filter.mp hw).2
theorem tt_of {w : Cond} (h : w ∈ lw_tbl) (g : goodWord w = true) : w ∈ TT := List.mem_filter.mpr ⟨h, g⟩
theorem tt_in {a : Cond} (ha : a ∈ TT) : GoodIn TT (a :: TT) := fun w hw => by
  have hm : w ∈ TT := by
    rcases List.mem_cons.mp hw with h | h
    · rw [h]; exact ha
    · exact h
  exact ⟨hm, good_of_word (List.all_eq_true.mp tt_good w hm)⟩
theorem tt_wsV {own C : String} {idx : Nat} {y : MethodName} {a : Cond} (k1 : Cond.methodLink own idx y ∈ TT) (k2 : Cond.instanceMethod y ∈ TT) (k3 : Cond.selects C y y ∈ TT) (k4 : Cond.initialized C ∈ TT) (k5 : a ∈ TT) : GoodIn TT (wsV own idx C y (a :: TT)) := fun w hw => by
  have hm : w ∈ TT := by
    simp only [wsV, List.cons_append, List.nil_append, List.mem_cons] at hw
    rcases hw with h | h | h | h | h | h
    · rw [h]; exact k1
    · rw [h]; exact k2
    · rw [h]; exact k3
    · rw [h]; exact k4
    · rw [h]; exact k5
    · exact h
  exact ⟨hm, good_of_word (List.all_eq_true.mp tt_good w hm)⟩
theorem tt_wsS {own : String} {idx : Nat} {y : MethodName} {a : Cond} (k1 : Cond.methodLink own idx y ∈ TT) (k2 : Cond.static y ∈ TT) (k4 : Cond.initialized own ∈ TT) (k5 : a ∈ TT) : GoodIn TT (wsS own idx y (a :: TT)) := fun w hw => by
  have hm : w ∈ TT := by
    simp only [wsS, List.cons_append, List.nil_append, List.mem_cons] at hw
    rcases hw with h | h | h | h | h
    · rw [h]; exact k1
    · rw [h]; exact k2
    · rw [h]; exact k4
    · rw [h]; exact k5
    · exact h
  exact ⟨hm, good_of_word (List.all_eq_true.mp tt_good w hm)⟩
def CX (D : va_G) (tys : List (ClassId × FieldType)) (own : String) (cc : ByteArray) (nL : Nat) (p : Program) (m : MethodId) (c : Code) (s : State) (args : Array Value) : Prop :=
  CallFix p m c cc nL s args TT own ∧ va_K D classes tys s
def HW (D : va_G) (A : Nat → Prop) (H0 : Heap) (ws : va_W) (H : Heap) (locs : List Loc) : Prop := va_P D classes ws H ∧ va_D A ws ∧ va_S A H0 H locs ∧ ∀ q, H0.size ≤ q → A q
def QX {S : Type} (D : va_G) (tys : List (ClassId × FieldType)) (ws0 : va_W) (post : S → Prop) (rv : S → Option Value) (ws1 : S → va_W) (sz : Nat) : Array Value → State → Outcome → State → Prop := fun _ st oc t =>
  (∃ u : S, oc = .returned (rv u) ∧ post u ∧ va_P D classes (ws1 u) t.heap ∧ va_K D classes tys t ∧ va_D (va_A ws0 sz) (ws1 u)) ∧ va_F (va_A ws0 sz) st t
/-- a method's contract: from the world ws0, with these arguments, it comes back with some u: post u, the answer rv u, the world ws1 u -/
def Ct {S : Type} (l : Launch) (D : va_G) (tys : List (ClassId × FieldType)) (y : MethodName) (bytes : ByteArray) (maxL : Nat) (ret : Option FieldType) (rm : Room) (As : List Value) (ws0 : va_W) (post : S → Prop) (rv : S → Option Value) (ws1 : S → va_W) : Prop :=
  ∀ sz : Nat, Met l y (.code y bytes maxL ret :: TT) rm (va_Pc As (fun U => U.heap.size = sz ∧ va_P D classes ws0 U.heap ∧ va_K D classes tys U ∧ va_D (fun _ => True) ws0)) (QX D tys ws0 post rv ws1 sz) rm.cells rm.slots (va_A ws0 sz)
theorem Ct.intro {S : Type} {l : Launch} {D : va_G} {tys : List (ClassId × FieldType)} {y : MethodName} {bytes : ByteArray} {maxL : Nat} {ret : Option FieldType} {rm : Room} {As : List Value} {ws0 : va_W} {post : S → Prop} {rv : S → Option Value} {ws1 : S → va_W}
    (hy : plainName y.cls = true) (hlen : (lg_sl As).length ≤ maxL)
    (body : ∀ (p : Program) (e : Env) (s : State) (m : MethodId) (below : List Frame) (meth : Method) (c : Code), CX D tys y.cls bytes maxL p m c s As.toArray → meth.sig.returnType = ret → meth.locks = false → meth.name = y.name → HW D (va_A ws0 s.heap.size) s.heap ws0 s.heap [] → ∀ ls : Array Slot, lv_has ls maxL (lv_args 0 As) →
      W p l e rm s m As.toArray below meth c s.heap [] 0 0 (MQ below (QX D tys ws0 post rv ws1 s.heap.size) As.toArray s rm.cells rm.slots (va_A ws0 s.heap.size)) (F0 m 0 ls [])) :
    Ct l D tys y bytes maxL ret rm As ws0 post rv ws1 := by
  intro sz
  refine Met.ofW (cc := bytes) (maxL := maxL) (ret := ret) hy rfl ?_
  intro p e s m args below meth c s₁ B hml hv
  obtain ⟨rfl, hsz, hP, hK, hD0⟩ := hv
  have hts0 := atoms_spec (ws := Cond.code y bytes maxL ret :: TT) B.pre
  have hown : s.vm.findClass y.cls = some m.cls := findClass_of_methodNamed B.named
  have hl := lv_entry As (n := maxL) hlen
  rw [lg_entry_eq]
  subst hsz
  exact body p e s m below meth c ⟨⟨B.exec, B.bytes, hml, hown, fun w hw => hts0 w (List.mem_cons_of_mem _ hw)⟩, hK⟩ B.returns B.notSynchronized (name_of_methodNamed B.named B.method).1 ⟨hP, hD0.self, va_S.rf, fun q h => Or.inr h⟩ _ hl
section Walk
variable {p : Program} {l : Launch} {e : Env} {R : Room} {s : State} {m : MethodId} {args : Array Value} {below : List Frame} {meth : Method} {c : Code} {H : Heap} {locs : List Loc} {cells slots : Nat} {Q : State → Prop}
variable {D : va_G} {tys : List (ClassId × FieldType)} {own : String} {cc : ByteArray} {nL : Nat} {pc : Nat} {ls : Array Slot} {rest : List Value} {A : Nat → Prop} {H0 : Heap}
theorem HW.keep {Xs ws0 ws1 : va_W} {H1 : Heap} {locs1 : List Loc} (hw : HW D A H0 (Xs ++ ws0) H locs) (hk : ∀ q : Nat, q < H.size → ¬ va_A ws0 H.size q → H1[q]? = H[q]?) (hP1 : va_P D classes ws1 H1) (hD1 : va_D (va_A ws0 H.size) ws1) (hS1 : va_S A H0 H1 locs1) : HW D A H0 (Xs ++ ws1) H1 locs1 := by
  obtain ⟨hP, hD, hS, hA⟩ := hw
  have hX : ∀ (k : Nat) (q : Nat × va_E), Xs[k]? = some q → (Xs ++ ws0)[k]? = some q := fun k q hq => by
    rw [List.getElem?_append_left (List.getElem?_eq_some_iff.mp hq).1]; exact hq
  have hW0 : ∀ (k : Nat) (q : Nat × va_E), ws0[k]? = some q → (Xs ++ ws0)[Xs.length + k]? = some q := fun k q hq => by
    rw [List.getElem?_append_right (Nat.le_add_right _ _), Nat.add_sub_cancel_left]; exact hq
  have apart : ∀ (k : Nat) (q : Nat × va_E), Xs[k]? = some q → q.1 < H.size ∧ ¬ va_A ws0 H.size q.1 := by
    intro k q hq
    have hl := (hP k q (hX k q hq)).lt
    refine ⟨hl, fun h => ?_⟩
    rcases h with ⟨k2, e, h⟩ | h
    · have := hD.1 k _ q (q.1, e) (hX k q hq) (hW0 k2 _ h) rfl
      have hlt := (List.getElem?_eq_some_iff.mp hq).1
      omega
    · omega
  refine ⟨va_P.app (fun k q hq => ?_) hP1, va_D.app ⟨fun i j x y hx hy h => hD.1 i j x y (hX i x hx) (hX j y hy) h, fun k q hq => hD.2 k q (hX k q hq)⟩ (hD1.weaken (fun k q _ h => ?_)) (fun i j x y hx hy hxy => ?_), hS1, hA⟩
  · obtain ⟨g1, g2⟩ := apart k q hq
    exact (hP k q (hX k q hq)).kept (hk q.1 g1 g2)
  · rcases h with ⟨k2, e, h⟩ | h
    · exact hD.2 _ (q.1, e) (hW0 k2 _ h)
    · exact hA q.1 (Nat.le_trans hS.1 h)
  · exact (apart i x hx).2 (by rw [hxy]; exact hD1.2 j y hy)
theorem HW.suf {Xs ws0 : va_W} (hw : HW D A H0 (Xs ++ ws0) H locs) : va_P D classes ws0 H ∧ va_D (fun _ => True) ws0 ∧ ∀ q, va_A ws0 H.size q → A q := by
  obtain ⟨hP, hD, hS, hA⟩ := hw
  have hW0 : ∀ (k : Nat) (q : Nat × va_E), ws0[k]? = some q → (Xs ++ ws0)[Xs.length + k]? = some q := fun k q hq => by
    rw [List.getElem?_append_right (Nat.le_add_right _ _), Nat.add_sub_cancel_left]; exact hq
  refine ⟨fun k q hq => hP _ q (hW0 k q hq), ⟨fun i j x y hx hy h => ?_, fun _ _ _ => trivial⟩, fun q h => ?_⟩
  · have := hD.1 _ _ x y (hW0 i x hx) (hW0 j y hy) h
    omega
  · rcases h with ⟨k2, e, h⟩ | h
    · exact hD.2 _ (q, e) (hW0 k2 _ h)
    · exact hA q (Nat.le_trans hS.1 h)
theorem call_go {S : Type} {ws0 Xs : va_W} {post : S → Prop} {rv : S → Option Value} {ws1 : S → va_W} {mc ms : Nat} {st0 : List Value} {a : Array Value}
    (hr : va_Run p l e R s m args below meth c H locs cells slots mc ms (F0 m pc ls st0) rest (QX D tys ws0 post rv ws1 H.size a) (va_A ws0 H.size)) (hw : HW D A H0 (Xs ++ ws0) H locs)
    (kk : ∀ (u : S) (H1 : Heap) (locs1 : List Loc), post u → HW D A H0 (Xs ++ ws1 u) H1 locs1 → W p l e R s m args below meth c H1 locs1 (cells + mc) (slots + ms) Q (F0 m (pc + 3) ls ((rv u).toList ++ rest))) : W p l e R s m args below meth c H locs cells slots Q (F0 m pc ls st0) := by
  intro T hT X
  obtain ⟨v, st₀, t, T', L, h0, X', hL, e1, e2, ⟨⟨u, hv, hp, hP1, hK1, hD1⟩, hz, hk⟩, st⟩ := hr T hT X
  obtain ⟨hPc, hDc, hAc⟩ := hw.suf
  cases hv
  rw [h0] at hz hk
  obtain ⟨hP, hD, hS, hA⟩ := hw
  have hS1 : va_S A H0 T'.heap (locs ++ L) := ⟨Nat.le_trans hS.1 (by rw [e1]; exact hz), fun q h1 h2 => by rw [e1, hk q (Nat.lt_of_lt_of_le h1 hS.1) (fun z => h2 (hAc q z))]; exact hS.2.1 q h1 h2, fun q hq => by
      rcases List.mem_append.mp hq with h | h
      · exact hS.2.2 q h
      · exact hAc _ (hL q h)⟩
  obtain ⟨t2, a1, b1⟩ := kk u T'.heap (locs ++ L) hp (HW.keep (H := H) ⟨hP, hD, hS, hA⟩ (fun q h1 h2 => by rw [e1]; exact hk q h1 h2) (by rw [e1]; exact hP1) hD1 hS1) T' rfl X'
  exact ⟨t2, st t2 a1, b1⟩
/-- what the tables say of a call -/
def LkV (own : String) (idx : Nat) (C : String) (y : MethodName) (bytes : ByteArray) (maxL : Nat) (ret : Option FieldType) (n : Nat) : Prop :=
  (Cond.methodLink own idx y ∈ TT ∧ Cond.instanceMethod y ∈ TT ∧ Cond.selects C y y ∈ TT ∧ Cond.initialized C ∈ TT ∧ Cond.code y bytes maxL ret ∈ TT) ∧ (y.cls = C ∧ y.cls ≠ "java/lang/invoke/MethodHandle" ∧ y.cls ≠ "java/lang/invoke/VarHandle" ∧ (parseMethodDescriptor y.desc).map (fun d => d.parameters.length) = some n)
def LkS (own : String) (idx : Nat) (y : MethodName) (bytes : ByteArray) (maxL : Nat) (ret : Option FieldType) (n : Nat) : Prop :=
  (Cond.methodLink own idx y ∈ TT ∧ Cond.static y ∈ TT ∧ Cond.initialized own ∈ TT ∧ Cond.code y bytes maxL ret ∈ TT) ∧ (y.cls = own ∧ y.cls ≠ "java/lang/invoke/MethodHandle" ∧ y.cls ≠ "java/lang/invoke/VarHandle" ∧ (parseMethodDescriptor y.desc).map (fun d => d.parameters.length) = some n)
/-- the receiver stands in the callee's world -/
def Rcv (ws0 : va_W) (b : Nat) (C : String) : Prop := ∃ (q0 ci : Nat) (fs : List Value) (T : u_T) (N : Nat), ws0[q0]? = some (b, .inr (ci, fs)) ∧ classes[ci]? = some (C, T, N)
theorem blind_Pc {As : List Value} {ws0 : va_W} {sz : Nat} : FrameBlind (va_Pc As (fun U => U.heap.size = sz ∧ va_P D classes ws0 U.heap ∧ va_K D classes tys U ∧ va_D (fun _ => True) ws0)) := fun a U g mk q => by
  obtain ⟨q0, q1, qP, qK, qD⟩ := q
  exact ⟨q0, q1, qP, va_K.moved (u := U) (U := U.calling g mk a) (Vm.Alike.refl U.vm) qK, qD⟩
theorem call_V {S : Type} {y : MethodName} {bytes : ByteArray} {maxL n idx b : Nat} {ret : Option FieldType} {rm : Room} {As : List Value} {ws0 Xs : va_W} {post : S → Prop} {rv : S → Option Value} {ws1 : S → va_W} {C : String}
    (X : CX D tys own cc nL p m c s args) (hL : LkV own idx C y bytes maxL ret n) (hC : Ct l D tys y bytes maxL ret rm (.ref b :: As) ws0 post rv ws1) (hR : rm.frames + 1 ≤ R.frames ∧ 8 + (maxL + 11) + rm.locals ≤ R.locals) (hb : Rcv ws0 b C)
    (hw : HW D A H0 (Xs ++ ws0) H locs) (hn : As.length = n) (hls : ls.size = nL) (hrest : (rest.map fun v => v.category).sum ≤ 8) (hd : decode cc pc = .ok (.invokevirtual idx, 3)) (hf : cells + rm.cells ≤ R.cells ∧ slots + rm.slots ≤ R.slots)
    (kk : ∀ (u : S) (H1 : Heap) (locs1 : List Loc), post u → HW D A H0 (Xs ++ ws1 u) H1 locs1 → W p l e R s m args below meth c H1 locs1 (cells + rm.cells) (slots + rm.slots) Q (F0 m (pc + 3) ls ((rv u).toList ++ rest))) : W p l e R s m args below meth c H locs cells slots Q (F0 m pc ls (As.reverse ++ .ref b :: rest)) := by
  obtain ⟨hfix, hK⟩ := X
  obtain ⟨hPc, hDc, hAc⟩ := hw.suf
  obtain ⟨⟨k1, k2, k3, k4, k5⟩, hd4⟩ := hL
  obtain ⟨q0, ci, fs, T, N, he, hc⟩ := hb
  refine call_go (va_runV (As := As) (rest := rest) hfix (hC H.size) (cwV n hfix.2.2.2.2 (tt_wsV k1 k2 k3 k4 k5) rfl rfl rfl hd4 hR) ⟨blind_Pc, va_recv hK hPc hc he, fun U hU hW => ⟨rfl, by rw [hU], by rw [hU]; exact hPc, va_K.moved hW.alike hK, hDc⟩⟩ rfl hn hls rfl (lv_room hrest) hd hf) hw kk
theorem call_S {S : Type} {y : MethodName} {bytes : ByteArray} {maxL n idx : Nat} {ret : Option FieldType} {rm : Room} {As : List Value} {ws0 Xs : va_W} {post : S → Prop} {rv : S → Option Value} {ws1 : S → va_W}
    (X : CX D tys own cc nL p m c s args) (hL : LkS own idx y bytes maxL ret n) (hC : Ct l D tys y bytes maxL ret rm As ws0 post rv ws1) (hR : rm.frames + 1 ≤ R.frames ∧ 8 + (maxL + 11) + rm.locals ≤ R.locals)
    (hw : HW D A H0 (Xs ++ ws0) H locs) (hn : As.length = n) (hls : ls.size = nL) (hrest : (rest.map fun v => v.category).sum ≤ 8) (hd : decode cc pc = .ok (.invokestatic idx, 3)) (hf : cells + rm.cells ≤ R.cells ∧ slots + rm.slots ≤ R.slots)
    (kk : ∀ (u : S) (H1 : Heap) (locs1 : List Loc), post u → HW D A H0 (Xs ++ ws1 u) H1 locs1 → W p l e R s m args below meth c H1 locs1 (cells + rm.cells) (slots + rm.slots) Q (F0 m (pc + 3) ls ((rv u).toList ++ rest))) : W p l e R s m args below meth c H locs cells slots Q (F0 m pc ls (As.reverse ++ rest)) := by
  obtain ⟨hfix, hK⟩ := X
  obtain ⟨hPc, hDc, hAc⟩ := hw.suf
  obtain ⟨⟨k1, k2, k4, k5⟩, hd4⟩ := hL
  refine call_go (va_runS (As := As) (rest := rest) hfix (hC H.size) (cwS n hfix.2.2.2.2 (tt_wsS k1 k2 k4 k5) rfl rfl rfl hd4 hR) ⟨blind_Pc, fun U hU hW => ⟨rfl, by rw [hU], by rw [hU]; exact hPc, va_K.moved hW.alike hK, hDc⟩⟩ rfl hn hls rfl (lv_room hrest) hd hf) hw kk
end Walk
end
section
section Sy
variable {p : Program} {l : Launch} {e : Env} {R : Room} {s : State} {m : MethodId} {args : Array Value} {below : List Frame} {meth : Method} {c : Code} {H : Heap} {locs : List Loc} {cells slots : Nat} {Q : State → Prop}
variable {D : va_G} {tys : List (ClassId × FieldType)} {own : String} {cc : ByteArray} {nL : Nat} {pc : Nat} {ls : Array Slot} {rest : List Value} {A : Nat → Prop} {H0 : Heap}
theorem sy_iconst (X : CX D tys own cc nL p m c s args) {n : Int} (hd : decode cc pc = .ok (.iconst n, 1)) (k : W p l e R s m args below meth c H locs cells slots Q (F0 m (pc + 1) ls (.int (iI n) :: rest))) : W p l e R s m args below meth c H locs cells slots Q (F0 m pc ls (rest)) := lv_iconst X.1.1 X.1.2.1 hd rfl k
theorem sy_bipush (X : CX D tys own cc nL p m c s args) {n : Int} (hd : decode cc pc = .ok (.bipush n, 2)) (hv : (Int8.ofInt n).toInt32 = iI n) (k : W p l e R s m args below meth c H locs cells slots Q (F0 m (pc + 2) ls (.int (iI n) :: rest))) : W p l e R s m args below meth c H locs cells slots Q (F0 m pc ls (rest)) := lv_bipush X.1.1 X.1.2.1 hd hv k
theorem sy_sipush (X : CX D tys own cc nL p m c s args) {n : Int} (hd : decode cc pc = .ok (.sipush n, 3)) (hv : (Int16.ofInt n).toInt32 = iI n) (k : W p l e R s m args below meth c H locs cells slots Q (F0 m (pc + 3) ls (.int (iI n) :: rest))) : W p l e R s m args below meth c H locs cells slots Q (F0 m pc ls (rest)) := lv_sipush X.1.1 X.1.2.1 hd hv k
theorem sy_lconst (X : CX D tys own cc nL p m c s args) {n : Fin 2} {z : Int} (hd : decode cc pc = .ok (.lconst n, 1)) (hv : Int64.ofNat (n : Nat) = jI z) (k : W p l e R s m args below meth c H locs cells slots Q (F0 m (pc + 1) ls (.long (jI z) :: rest))) : W p l e R s m args below meth c H locs cells slots Q (F0 m pc ls (rest)) := lv_lconst X.1.1 X.1.2.1 hd hv k
theorem sy_ldc2 (X : CX D tys own cc nL p m c s args) {v : Int64} {idx : Nat} {z : Int} (hk : Cond.constantLong own idx v ∈ TT) (hd : decode cc pc = .ok (.ldc2_w idx, 3)) (hv : v = jI z) (k : W p l e R s m args below meth c H locs cells slots Q (F0 m (pc + 3) ls (.long (jI z) :: rest))) : W p l e R s m args below meth c H locs cells slots Q (F0 m pc ls (rest)) := lv_ldc2 X.1.1 X.1.2.1 X.1.2.2.2.1 (X.1.2.2.2.2 _ hk) hd (by rw [hv]; exact k)
theorem sy_ldc (X : CX D tys own cc nL p m c s args) {v : Int32} {idx : Nat} {z : Int} (hk : Cond.constant own idx v ∈ TT) (hd : decode cc pc = .ok (.ldc idx, 2)) (hv : v = iI z) (k : W p l e R s m args below meth c H locs cells slots Q (F0 m (pc + 2) ls (.int (iI z) :: rest))) : W p l e R s m args below meth c H locs cells slots Q (F0 m pc ls (rest)) := lv_ldc X.1.1 X.1.2.1 X.1.2.2.2.1 (X.1.2.2.2.2 _ hk) hd (by rw [hv]; exact k)
theorem sy_iload_n (X : CX D tys own cc nL p m c s args) {q : Fin 4} {lv : List (Nat × Value)} {x : Int} (hd : decode cc pc = .ok (.iload_n q, 1)) (hl : lv_has ls nL lv) (j : Nat) (hj : lv[j]? = some ((q : Nat), .int (iI x))) (k : W p l e R s m args below meth c H locs cells slots Q (F0 m (pc + 1) ls (.int (iI x) :: rest))) : W p l e R s m args below meth c H locs cells slots Q (F0 m pc ls (rest)) := lv_iload_n X.1.1 X.1.2.1 hd rfl (lv_at hl j hj) k
theorem sy_iload (X : CX D tys own cc nL p m c s args) {i : Nat} {lv : List (Nat × Value)} {x : Int} (hd : decode cc pc = .ok (.iload i, 2)) (hl : lv_has ls nL lv) (j : Nat) (hj : lv[j]? = some (i, .int (iI x))) (k : W p l e R s m args below meth c H locs cells slots Q (F0 m (pc + 2) ls (.int (iI x) :: rest))) : W p l e R s m args below meth c H locs cells slots Q (F0 m pc ls (rest)) := lv_iload X.1.1 X.1.2.1 hd (lv_at hl j hj) k
theorem sy_istore_n (X : CX D tys own cc nL p m c s args) {q : Fin 4} {i : Nat} {lv lv1 : List (Nat × Value)} {x : Int} (hd : decode cc pc = .ok (.istore_n q, 1)) (hl : lv_has ls nL lv) (hi : (q : Nat) = i) (hn : i < nL) (hf : (i, Value.int (iI x)) :: lv.filter (fun q => !(q.1 == i) && !(q.1 + 1 == i && q.2.category == 2)) = lv1) (kk : ∀ ls1 : Array Slot, lv_has ls1 nL lv1 → W p l e R s m args below meth c H locs cells slots Q (F0 m (pc + 1) ls1 (rest))) : W p l e R s m args below meth c H locs cells slots Q (F0 m pc ls (.int (iI x) :: rest)) := lv_istore_n X.1.1 X.1.2.1 hd hi hl hn hf kk
theorem sy_istore (X : CX D tys own cc nL p m c s args) {i : Nat} {lv lv1 : List (Nat × Value)} {x : Int} (hd : decode cc pc = .ok (.istore i, 2)) (hl : lv_has ls nL lv) (hn : i < nL) (hf : (i, Value.int (iI x)) :: lv.filter (fun q => !(q.1 == i) && !(q.1 + 1 == i && q.2.category == 2)) = lv1) (kk : ∀ ls1 : Array Slot, lv_has ls1 nL lv1 → W p l e R s m args below meth c H locs cells slots Q (F0 m (pc + 2) ls1 (rest))) : W p l e R s m args below meth c H locs cells slots Q (F0 m pc ls (.int (iI x) :: rest)) := lv_istore X.1.1 X.1.2.1 hd hl hn hf kk
theorem sy_lload_n (X : CX D tys own cc nL p m c s args) {q : Fin 4} {lv : List (Nat × Value)} {x : Int} (hd : decode cc pc = .ok (.lload_n q, 1)) (hl : lv_has ls nL lv) (j : Nat) (hj : lv[j]? = some ((q : Nat), .long (jI x))) (k : W p l e R s m args below meth c H locs cells slots Q (F0 m (pc + 1) ls (.long (jI x) :: rest))) : W p l e R s m args below meth c H locs cells slots Q (F0 m pc ls (rest)) := lv_lload_n X.1.1 X.1.2.1 hd rfl (lv_at hl j hj) k
theorem sy_lload (X : CX D tys own cc nL p m c s args) {i : Nat} {lv : List (Nat × Value)} {x : Int} (hd : decode cc pc = .ok (.lload i, 2)) (hl : lv_has ls nL lv) (j : Nat) (hj : lv[j]? = some (i, .long (jI x))) (k : W p l e R s m args below meth c H locs cells slots Q (F0 m (pc + 2) ls (.long (jI x) :: rest))) : W p l e R s m args below meth c H locs cells slots Q (F0 m pc ls (rest)) := lv_lload X.1.1 X.1.2.1 hd (lv_at hl j hj) k
theorem sy_lstore_n (X : CX D tys own cc nL p m c s args) {q : Fin 4} {i : Nat} {lv lv1 : List (Nat × Value)} {x : Int} (hd : decode cc pc = .ok (.lstore_n q, 1)) (hl : lv_has ls nL lv) (hi : (q : Nat) = i) (hn : i + 1 < nL) (hf : (i, Value.long (jI x)) :: lv.filter (fun q => !(q.1 == i) && (!(q.1 == i + 1) && !(q.1 + 1 == i && q.2.category == 2))) = lv1) (kk : ∀ ls1 : Array Slot, lv_has ls1 nL lv1 → W p l e R s m args below meth c H locs cells slots Q (F0 m (pc + 1) ls1 (rest))) : W p l e R s m args below meth c H locs cells slots Q (F0 m pc ls (.long (jI x) :: rest)) := lv_lstore_n X.1.1 X.1.2.1 hd hi hl hn hf kk
theorem sy_lstore (X : CX D tys own cc nL p m c s args) {i : Nat} {lv lv1 : List (Nat × Value)} {x : Int} (hd : decode cc pc = .ok (.lstore i, 2)) (hl : lv_has ls nL lv) (hn : i + 1 < nL) (hf : (i, Value.long (jI x)) :: lv.filter (fun q => !(q.1 == i) && (!(q.1 == i + 1) && !(q.1 + 1 == i && q.2.category == 2))) = lv1) (kk : ∀ ls1 : Array Slot, lv_has ls1 nL lv1 → W p l e R s m args below meth c H locs cells slots Q (F0 m (pc + 2) ls1 (rest))) : W p l e R s m args below meth c H locs cells slots Q (F0 m pc ls (.long (jI x) :: rest)) := lv_lstore X.1.1 X.1.2.1 hd hl hn hf kk
theorem sy_aload_n (X : CX D tys own cc nL p m c s args) {q : Fin 4} {lv : List (Nat × Value)} {x : Nat} (hd : decode cc pc = .ok (.aload_n q, 1)) (hl : lv_has ls nL lv) (j : Nat) (hj : lv[j]? = some ((q : Nat), .ref x)) (k : W p l e R s m args below meth c H locs cells slots Q (F0 m (pc + 1) ls (.ref x :: rest))) : W p l e R s m args below meth c H locs cells slots Q (F0 m pc ls (rest)) := lv_aload_n X.1.1 X.1.2.1 hd rfl (lv_at hl j hj) k
theorem sy_aload (X : CX D tys own cc nL p m c s args) {i : Nat} {lv : List (Nat × Value)} {x : Nat} (hd : decode cc pc = .ok (.aload i, 2)) (hl : lv_has ls nL lv) (j : Nat) (hj : lv[j]? = some (i, .ref x)) (k : W p l e R s m args below meth c H locs cells slots Q (F0 m (pc + 2) ls (.ref x :: rest))) : W p l e R s m args below meth c H locs cells slots Q (F0 m pc ls (rest)) := lv_aload X.1.1 X.1.2.1 hd (lv_at hl j hj) k
theorem sy_astore_n (X : CX D tys own cc nL p m c s args) {q : Fin 4} {i : Nat} {lv lv1 : List (Nat × Value)} {x : Nat} (hd : decode cc pc = .ok (.astore_n q, 1)) (hl : lv_has ls nL lv) (hi : (q : Nat) = i) (hn : i < nL) (hf : (i, Value.ref x) :: lv.filter (fun q => !(q.1 == i) && !(q.1 + 1 == i && q.2.category == 2)) = lv1) (kk : ∀ ls1 : Array Slot, lv_has ls1 nL lv1 → W p l e R s m args below meth c H locs cells slots Q (F0 m (pc + 1) ls1 (rest))) : W p l e R s m args below meth c H locs cells slots Q (F0 m pc ls (.ref x :: rest)) := lv_astore_n X.1.1 X.1.2.1 hd hi hl hn hf kk
theorem sy_astore (X : CX D tys own cc nL p m c s args) {i : Nat} {lv lv1 : List (Nat × Value)} {x : Nat} (hd : decode cc pc = .ok (.astore i, 2)) (hl : lv_has ls nL lv) (hn : i < nL) (hf : (i, Value.ref x) :: lv.filter (fun q => !(q.1 == i) && !(q.1 + 1 == i && q.2.category == 2)) = lv1) (kk : ∀ ls1 : Array Slot, lv_has ls1 nL lv1 → W p l e R s m args below meth c H locs cells slots Q (F0 m (pc + 2) ls1 (rest))) : W p l e R s m args below meth c H locs cells slots Q (F0 m pc ls (.ref x :: rest)) := lv_astore X.1.1 X.1.2.1 hd hl hn hf kk
theorem sy_iinc (X : CX D tys own cc nL p m c s args) {i : Nat} {n x y : Int} {lv lv1 : List (Nat × Value)} (hd : decode cc pc = .ok (.iinc i n, 3)) (hl : lv_has ls nL lv) (j : Nat) (hj : lv[j]? = some (i, .int (iI x))) (hy : x + n = y) (hn : i < nL) (hf : (i, Value.int (iI y)) :: lv.filter (fun q => !(q.1 == i) && !(q.1 + 1 == i && q.2.category == 2)) = lv1) (kk : ∀ ls1 : Array Slot, lv_has ls1 nL lv1 → W p l e R s m args below meth c H locs cells slots Q (F0 m (pc + 3) ls1 (rest))) : W p l e R s m args below meth c H locs cells slots Q (F0 m pc ls (rest)) := lv_iinc X.1.1 X.1.2.1 hd hl hj (by rw [← hy]; exact iI_add x n) hn hf kk
theorem sy_iadd (X : CX D tys own cc nL p m c s args) {a b : Int} (hd : decode cc pc = .ok (.iadd, 1)) (k : W p l e R s m args below meth c H locs cells slots Q (F0 m (pc + 1) ls (.int (iI (a + b)) :: rest))) : W p l e R s m args below meth c H locs cells slots Q (F0 m pc ls (.int (iI b) :: .int (iI a) :: rest)) := lv_iadd X.1.1 X.1.2.1 hd (by rw [iI_add]; exact k)
theorem sy_isub (X : CX D tys own cc nL p m c s args) {a b : Int} (hd : decode cc pc = .ok (.isub, 1)) (k : W p l e R s m args below meth c H locs cells slots Q (F0 m (pc + 1) ls (.int (iI (a - b)) :: rest))) : W p l e R s m args below meth c H locs cells slots Q (F0 m pc ls (.int (iI b) :: .int (iI a) :: rest)) := lv_isub X.1.1 X.1.2.1 hd (by rw [iI_sub]; exact k)
theorem sy_imul (X : CX D tys own cc nL p m c s args) {a b : Int} (hd : decode cc pc = .ok (.imul, 1)) (k : W p l e R s m args below meth c H locs cells slots Q (F0 m (pc + 1) ls (.int (iI (a * b)) :: rest))) : W p l e R s m args below meth c H locs cells slots Q (F0 m pc ls (.int (iI b) :: .int (iI a) :: rest)) := lv_imul X.1.1 X.1.2.1 hd (by rw [iI_mul]; exact k)
theorem sy_ladd (X : CX D tys own cc nL p m c s args) {a b : Int} (hd : decode cc pc = .ok (.ladd, 1)) (k : W p l e R s m args below meth c H locs cells slots Q (F0 m (pc + 1) ls (.long (jI (a + b)) :: rest))) : W p l e R s m args below meth c H locs cells slots Q (F0 m pc ls (.long (jI b) :: .long (jI a) :: rest)) := lv_ladd X.1.1 X.1.2.1 hd (by rw [jI_add]; exact k)
theorem sy_lsub (X : CX D tys own cc nL p m c s args) {a b : Int} (hd : decode cc pc = .ok (.lsub, 1)) (k : W p l e R s m args below meth c H locs cells slots Q (F0 m (pc + 1) ls (.long (jI (a - b)) :: rest))) : W p l e R s m args below meth c H locs cells slots Q (F0 m pc ls (.long (jI b) :: .long (jI a) :: rest)) := lv_lsub X.1.1 X.1.2.1 hd (by rw [jI_sub]; exact k)
theorem sy_lmul (X : CX D tys own cc nL p m c s args) {a b : Int} (hd : decode cc pc = .ok (.lmul, 1)) (k : W p l e R s m args below meth c H locs cells slots Q (F0 m (pc + 1) ls (.long (jI (a * b)) :: rest))) : W p l e R s m args below meth c H locs cells slots Q (F0 m pc ls (.long (jI b) :: .long (jI a) :: rest)) := lv_lmul X.1.1 X.1.2.1 hd (by rw [jI_mul]; exact k)
theorem sy_ineg (X : CX D tys own cc nL p m c s args) {a : Int} (hd : decode cc pc = .ok (.ineg, 1)) (k : W p l e R s m args below meth c H locs cells slots Q (F0 m (pc + 1) ls (.int (iI (-a)) :: rest))) : W p l e R s m args below meth c H locs cells slots Q (F0 m pc ls (.int (iI a) :: rest)) := lv_ineg X.1.1 X.1.2.1 hd (by rw [iI_neg]; exact k)
theorem sy_lneg (X : CX D tys own cc nL p m c s args) {a : Int} (hd : decode cc pc = .ok (.lneg, 1)) (k : W p l e R s m args below meth c H locs cells slots Q (F0 m (pc + 1) ls (.long (jI (-a)) :: rest))) : W p l e R s m args below meth c H locs cells slots Q (F0 m pc ls (.long (jI a) :: rest)) := lv_lneg X.1.1 X.1.2.1 hd (by rw [jI_neg]; exact k)
theorem sy_i2l (X : CX D tys own cc nL p m c s args) {a : Int} (hd : decode cc pc = .ok (.i2l, 1)) (hr : R31 a) (k : W p l e R s m args below meth c H locs cells slots Q (F0 m (pc + 1) ls (.long (jI a) :: rest))) : W p l e R s m args below meth c H locs cells slots Q (F0 m pc ls (.int (iI a) :: rest)) := lv_i2l X.1.1 X.1.2.1 hd (i2j hr) k
theorem sy_l2i (X : CX D tys own cc nL p m c s args) {a : Int} (hd : decode cc pc = .ok (.l2i, 1)) (k : W p l e R s m args below meth c H locs cells slots Q (F0 m (pc + 1) ls (.int (iI a) :: rest))) : W p l e R s m args below meth c H locs cells slots Q (F0 m pc ls (.long (jI a) :: rest)) := lv_l2i X.1.1 X.1.2.1 hd (j2i a) k
theorem sy_land (X : CX D tys own cc nL p m c s args) {a b : Int} (n : Nat) (md : Int) (hd : decode cc pc = .ok (.land, 1)) (hn : n < 64) (hb : b = (2 : Int) ^ n - 1) (hm : (2 : Int) ^ n = md) (k : W p l e R s m args below meth c H locs cells slots Q (F0 m (pc + 1) ls (.long (jI (a % md)) :: rest))) : W p l e R s m args below meth c H locs cells slots Q (F0 m pc ls (.long (jI b) :: .long (jI a) :: rest)) := lv_land X.1.1 X.1.2.1 hd (by rw [hb, jI_and a n hn, hm]; exact k)
theorem sy_iand (X : CX D tys own cc nL p m c s args) {a b : Int} (n : Nat) (md : Int) (hd : decode cc pc = .ok (.iand, 1)) (hn : n < 32) (hb : b = (2 : Int) ^ n - 1) (hm : (2 : Int) ^ n = md) (k : W p l e R s m args below meth c H locs cells slots Q (F0 m (pc + 1) ls (.int (iI (a % md)) :: rest))) : W p l e R s m args below meth c H locs cells slots Q (F0 m pc ls (.int (iI b) :: .int (iI a) :: rest)) := lv_iand X.1.1 X.1.2.1 hd (by rw [hb, iI_and a n hn, hm]; exact k)
theorem sy_lshr (X : CX D tys own cc nL p m c s args) {a b : Int} (dv : Int) (hd : decode cc pc = .ok (.lshr, 1)) (hr : R63 a) (h0 : 0 ≤ b) (h1 : b < 64) (hm : (2 : Int) ^ b.toNat = dv) (k : W p l e R s m args below meth c H locs cells slots Q (F0 m (pc + 1) ls (.long (jI (a / dv)) :: rest))) : W p l e R s m args below meth c H locs cells slots Q (F0 m pc ls (.int (iI b) :: .long (jI a) :: rest)) := lv_lshr X.1.1 X.1.2.1 hd (jI_shr hr h0 h1) (by rw [hm]; exact k)
theorem sy_ishr (X : CX D tys own cc nL p m c s args) {a b : Int} (dv : Int) (hd : decode cc pc = .ok (.ishr, 1)) (hr : R31 a) (h0 : 0 ≤ b) (h1 : b < 32) (hm : (2 : Int) ^ b.toNat = dv) (k : W p l e R s m args below meth c H locs cells slots Q (F0 m (pc + 1) ls (.int (iI (a / dv)) :: rest))) : W p l e R s m args below meth c H locs cells slots Q (F0 m pc ls (.int (iI b) :: .int (iI a) :: rest)) := lv_ishr X.1.1 X.1.2.1 hd (by rw [iI_shr hr h0 h1, hm]; exact k)
theorem sy_goto (X : CX D tys own cc nL p m c s args) {off : Int} {tgt : Nat} (hd : decode cc pc = .ok (.goto off, 3)) (ht : (pc : Int) + off = (tgt : Int)) (k : W p l e R s m args below meth c H locs cells slots Q (F0 m tgt ls (rest))) : W p l e R s m args below meth c H locs cells slots Q (F0 m pc ls (rest)) := lv_goto X.1.1 X.1.2.1 hd ht k
theorem sy_dup (X : CX D tys own cc nL p m c s args) {va : Value} (hd : decode cc pc = .ok (.dup, 1)) (hva : va.category = 1) (k : W p l e R s m args below meth c H locs cells slots Q (F0 m (pc + 1) ls (va :: va :: rest))) : W p l e R s m args below meth c H locs cells slots Q (F0 m pc ls (va :: rest)) := lv_dup X.1.1 X.1.2.1 hd hva k
theorem sy_dup2 (X : CX D tys own cc nL p m c s args) {va vb : Value} (hd : decode cc pc = .ok (.dup2, 1)) (hva : va.category = 1) (hvb : vb.category = 1) (k : W p l e R s m args below meth c H locs cells slots Q (F0 m (pc + 1) ls (va :: vb :: va :: vb :: rest))) : W p l e R s m args below meth c H locs cells slots Q (F0 m pc ls (va :: vb :: rest)) := lv_dup2_11 X.1.1 X.1.2.1 hd hva hvb k
theorem sy_icmp_eq (X : CX D tys own cc nL p m c s args) {a b : Int} {off : Int} {tgt : Nat} (hd : decode cc pc = .ok (.if_icmp .eq off, 3)) (ht : (pc : Int) + off = (tgt : Int)) (ha : R31 a) (hb : R31 b) (kt : a = b → W p l e R s m args below meth c H locs cells slots Q (F0 m tgt ls (rest))) (kf : ¬ (a = b) → W p l e R s m args below meth c H locs cells slots Q (F0 m (pc + 3) ls (rest))) : W p l e R s m args below meth c H locs cells slots Q (F0 m pc ls (.int (iI b) :: .int (iI a) :: rest)) := lv_icmp_eq X.1.1 X.1.2.1 hd ht (fun h => kt ((iI_eq ha hb).mp h)) (fun h => kf (fun g => h ((iI_eq ha hb).mpr g)))
theorem sy_if_eq (X : CX D tys own cc nL p m c s args) {a : Int} {off : Int} {tgt : Nat} (hd : decode cc pc = .ok (.ifCond .eq off, 3)) (ht : (pc : Int) + off = (tgt : Int)) (ha : R31 a) (kt : a = 0 → W p l e R s m args below meth c H locs cells slots Q (F0 m tgt ls (rest))) (kf : ¬ (a = 0) → W p l e R s m args below meth c H locs cells slots Q (F0 m (pc + 3) ls (rest))) : W p l e R s m args below meth c H locs cells slots Q (F0 m pc ls (.int (iI a) :: rest)) := lv_if_eq X.1.1 X.1.2.1 hd ht (fun h => kt ((iI_eq ha iI_R0).mp h)) (fun h => kf (fun g => h ((iI_eq ha iI_R0).mpr g)))
theorem sy_icmp_ne (X : CX D tys own cc nL p m c s args) {a b : Int} {off : Int} {tgt : Nat} (hd : decode cc pc = .ok (.if_icmp .ne off, 3)) (ht : (pc : Int) + off = (tgt : Int)) (ha : R31 a) (hb : R31 b) (kt : a ≠ b → W p l e R s m args below meth c H locs cells slots Q (F0 m tgt ls (rest))) (kf : a = b → W p l e R s m args below meth c H locs cells slots Q (F0 m (pc + 3) ls (rest))) : W p l e R s m args below meth c H locs cells slots Q (F0 m pc ls (.int (iI b) :: .int (iI a) :: rest)) := lv_icmp_ne X.1.1 X.1.2.1 hd ht (fun h => kt (fun g => h ((iI_eq ha hb).mpr g))) (fun h => kf ((iI_eq ha hb).mp h))
theorem sy_if_ne (X : CX D tys own cc nL p m c s args) {a : Int} {off : Int} {tgt : Nat} (hd : decode cc pc = .ok (.ifCond .ne off, 3)) (ht : (pc : Int) + off = (tgt : Int)) (ha : R31 a) (kt : a ≠ 0 → W p l e R s m args below meth c H locs cells slots Q (F0 m tgt ls (rest))) (kf : a = 0 → W p l e R s m args below meth c H locs cells slots Q (F0 m (pc + 3) ls (rest))) : W p l e R s m args below meth c H locs cells slots Q (F0 m pc ls (.int (iI a) :: rest)) := lv_if_ne X.1.1 X.1.2.1 hd ht (fun h => kt (fun g => h ((iI_eq ha iI_R0).mpr g))) (fun h => kf ((iI_eq ha iI_R0).mp h))
theorem sy_icmp_lt (X : CX D tys own cc nL p m c s args) {a b : Int} {off : Int} {tgt : Nat} (hd : decode cc pc = .ok (.if_icmp .lt off, 3)) (ht : (pc : Int) + off = (tgt : Int)) (ha : R31 a) (hb : R31 b) (kt : a < b → W p l e R s m args below meth c H locs cells slots Q (F0 m tgt ls (rest))) (kf : ¬ (a < b) → W p l e R s m args below meth c H locs cells slots Q (F0 m (pc + 3) ls (rest))) : W p l e R s m args below meth c H locs cells slots Q (F0 m pc ls (.int (iI b) :: .int (iI a) :: rest)) := lv_icmp_lt X.1.1 X.1.2.1 hd ht (fun h => kt ((iI_lt ha hb).mp h)) (fun h => kf (fun g => h ((iI_lt ha hb).mpr g)))
theorem sy_if_lt (X : CX D tys own cc nL p m c s args) {a : Int} {off : Int} {tgt : Nat} (hd : decode cc pc = .ok (.ifCond .lt off, 3)) (ht : (pc : Int) + off = (tgt : Int)) (ha : R31 a) (kt : a < 0 → W p l e R s m args below meth c H locs cells slots Q (F0 m tgt ls (rest))) (kf : ¬ (a < 0) → W p l e R s m args below meth c H locs cells slots Q (F0 m (pc + 3) ls (rest))) : W p l e R s m args below meth c H locs cells slots Q (F0 m pc ls (.int (iI a) :: rest)) := lv_if_lt X.1.1 X.1.2.1 hd ht (fun h => kt ((iI_lt ha iI_R0).mp h)) (fun h => kf (fun g => h ((iI_lt ha iI_R0).mpr g)))
theorem sy_icmp_ge (X : CX D tys own cc nL p m c s args) {a b : Int} {off : Int} {tgt : Nat} (hd : decode cc pc = .ok (.if_icmp .ge off, 3)) (ht : (pc : Int) + off = (tgt : Int)) (ha : R31 a) (hb : R31 b) (kt : b ≤ a → W p l e R s m args below meth c H locs cells slots Q (F0 m tgt ls (rest))) (kf : ¬ (b ≤ a) → W p l e R s m args below meth c H locs cells slots Q (F0 m (pc + 3) ls (rest))) : W p l e R s m args below meth c H locs cells slots Q (F0 m pc ls (.int (iI b) :: .int (iI a) :: rest)) := lv_icmp_ge X.1.1 X.1.2.1 hd ht (fun h => kt ((iI_le hb ha).mp h)) (fun h => kf (fun g => h ((iI_le hb ha).mpr g)))
theorem sy_if_ge (X : CX D tys own cc nL p m c s args) {a : Int} {off : Int} {tgt : Nat} (hd : decode cc pc = .ok (.ifCond .ge off, 3)) (ht : (pc : Int) + off = (tgt : Int)) (ha : R31 a) (kt : 0 ≤ a → W p l e R s m args below meth c H locs cells slots Q (F0 m tgt ls (rest))) (kf : ¬ (0 ≤ a) → W p l e R s m args below meth c H locs cells slots Q (F0 m (pc + 3) ls (rest))) : W p l e R s m args below meth c H locs cells slots Q (F0 m pc ls (.int (iI a) :: rest)) := lv_if_ge X.1.1 X.1.2.1 hd ht (fun h => kt ((iI_le iI_R0 ha).mp h)) (fun h => kf (fun g => h ((iI_le iI_R0 ha).mpr g)))
theorem sy_icmp_gt (X : CX D tys own cc nL p m c s args) {a b : Int} {off : Int} {tgt : Nat} (hd : decode cc pc = .ok (.if_icmp .gt off, 3)) (ht : (pc : Int) + off = (tgt : Int)) (ha : R31 a) (hb : R31 b) (kt : b < a → W p l e R s m args below meth c H locs cells slots Q (F0 m tgt ls (rest))) (kf : ¬ (b < a) → W p l e R s m args below meth c H locs cells slots Q (F0 m (pc + 3) ls (rest))) : W p l e R s m args below meth c H locs cells slots Q (F0 m pc ls (.int (iI b) :: .int (iI a) :: rest)) := lv_icmp_gt X.1.1 X.1.2.1 hd ht (fun h => kt ((iI_lt hb ha).mp h)) (fun h => kf (fun g => h ((iI_lt hb ha).mpr g)))
theorem sy_if_gt (X : CX D tys own cc nL p m c s args) {a : Int} {off : Int} {tgt : Nat} (hd : decode cc pc = .ok (.ifCond .gt off, 3)) (ht : (pc : Int) + off = (tgt : Int)) (ha : R31 a) (kt : 0 < a → W p l e R s m args below meth c H locs cells slots Q (F0 m tgt ls (rest))) (kf : ¬ (0 < a) → W p l e R s m args below meth c H locs cells slots Q (F0 m (pc + 3) ls (rest))) : W p l e R s m args below meth c H locs cells slots Q (F0 m pc ls (.int (iI a) :: rest)) := lv_if_gt X.1.1 X.1.2.1 hd ht (fun h => kt ((iI_lt iI_R0 ha).mp h)) (fun h => kf (fun g => h ((iI_lt iI_R0 ha).mpr g)))
theorem sy_icmp_le (X : CX D tys own cc nL p m c s args) {a b : Int} {off : Int} {tgt : Nat} (hd : decode cc pc = .ok (.if_icmp .le off, 3)) (ht : (pc : Int) + off = (tgt : Int)) (ha : R31 a) (hb : R31 b) (kt : a ≤ b → W p l e R s m args below meth c H locs cells slots Q (F0 m tgt ls (rest))) (kf : ¬ (a ≤ b) → W p l e R s m args below meth c H locs cells slots Q (F0 m (pc + 3) ls (rest))) : W p l e R s m args below meth c H locs cells slots Q (F0 m pc ls (.int (iI b) :: .int (iI a) :: rest)) := lv_icmp_le X.1.1 X.1.2.1 hd ht (fun h => kt ((iI_le ha hb).mp h)) (fun h => kf (fun g => h ((iI_le ha hb).mpr g)))
theorem sy_if_le (X : CX D tys own cc nL p m c s args) {a : Int} {off : Int} {tgt : Nat} (hd : decode cc pc = .ok (.ifCond .le off, 3)) (ht : (pc : Int) + off = (tgt : Int)) (ha : R31 a) (kt : a ≤ 0 → W p l e R s m args below meth c H locs cells slots Q (F0 m tgt ls (rest))) (kf : ¬ (a ≤ 0) → W p l e R s m args below meth c H locs cells slots Q (F0 m (pc + 3) ls (rest))) : W p l e R s m args below meth c H locs cells slots Q (F0 m pc ls (.int (iI a) :: rest)) := lv_if_le X.1.1 X.1.2.1 hd ht (fun h => kt ((iI_le ha iI_R0).mp h)) (fun h => kf (fun g => h ((iI_le ha iI_R0).mpr g)))
theorem lg_cmpZ {a b : Int} (ha : R63 a) (hb : R63 b) : lg_cmp (jI a) (jI b) = iI (if b < a then 1 else if a = b then 0 else -1) := by
  unfold lg_cmp
  by_cases h1 : b < a
  · rw [if_pos ((jI_lt hb ha).mpr h1), if_pos h1]; rfl
  · rw [if_neg (fun g => h1 ((jI_lt hb ha).mp g)), if_neg h1]
    by_cases h2 : a = b
    · rw [if_pos ((jI_eq ha hb).mpr h2), if_pos h2]; rfl
    · rw [if_neg (fun g => h2 ((jI_eq ha hb).mp g)), if_neg h2]; rfl
theorem sy_lcif_eq (X : CX D tys own cc nL p m c s args) {a b : Int} {off : Int} {tgt : Nat} (hd0 : decode cc pc = .ok (.lcmp, 1)) (hd : decode cc (pc + 1) = .ok (.ifCond .eq off, 3)) (ht : ((pc + 1 : Nat) : Int) + off = (tgt : Int)) (ha : R63 a) (hb : R63 b) (kt : a = b → W p l e R s m args below meth c H locs cells slots Q (F0 m tgt ls (rest))) (kf : ¬ (a = b) → W p l e R s m args below meth c H locs cells slots Q (F0 m (pc + 1 + 3) ls (rest))) : W p l e R s m args below meth c H locs cells slots Q (F0 m pc ls (.long (jI b) :: .long (jI a) :: rest)) := by
  refine W.lcmp X.1.1 X.1.2.1 hd0 ?_
  rw [lg_cmpZ ha hb]
  have hr : R31 (if b < a then 1 else if a = b then 0 else -1) := by
    constructor <;> (split <;> (try split) <;> decide)
  refine sy_if_eq X hd ht hr (fun h => kt ?_) (fun h => kf ?_)
  · by_cases h1 : b < a
    · rw [if_pos h1] at h; omega
    · rw [if_neg h1] at h
      by_cases h2 : a = b
      · rw [if_pos h2] at h; omega
      · rw [if_neg h2] at h; omega
  · by_cases h1 : b < a
    · rw [if_pos h1] at h; omega
    · rw [if_neg h1] at h
      by_cases h2 : a = b
      · rw [if_pos h2] at h; omega
      · rw [if_neg h2] at h; omega
theorem sy_lcif_ne (X : CX D tys own cc nL p m c s args) {a b : Int} {off : Int} {tgt : Nat} (hd0 : decode cc pc = .ok (.lcmp, 1)) (hd : decode cc (pc + 1) = .ok (.ifCond .ne off, 3)) (ht : ((pc + 1 : Nat) : Int) + off = (tgt : Int)) (ha : R63 a) (hb : R63 b) (kt : a ≠ b → W p l e R s m args below meth c H locs cells slots Q (F0 m tgt ls (rest))) (kf : a = b → W p l e R s m args below meth c H locs cells slots Q (F0 m (pc + 1 + 3) ls (rest))) : W p l e R s m args below meth c H locs cells slots Q (F0 m pc ls (.long (jI b) :: .long (jI a) :: rest)) := by
  refine W.lcmp X.1.1 X.1.2.1 hd0 ?_
  rw [lg_cmpZ ha hb]
  have hr : R31 (if b < a then 1 else if a = b then 0 else -1) := by
    constructor <;> (split <;> (try split) <;> decide)
  refine sy_if_ne X hd ht hr (fun h => kt ?_) (fun h => kf ?_)
  · by_cases h1 : b < a
    · rw [if_pos h1] at h; omega
    · rw [if_neg h1] at h
      by_cases h2 : a = b
      · rw [if_pos h2] at h; omega
      · rw [if_neg h2] at h; omega
  · by_cases h1 : b < a
    · rw [if_pos h1] at h; omega
    · rw [if_neg h1] at h
      by_cases h2 : a = b
      · rw [if_pos h2] at h; omega
      · rw [if_neg h2] at h; omega
theorem sy_lcif_lt (X : CX D tys own cc nL p m c s args) {a b : Int} {off : Int} {tgt : Nat} (hd0 : decode cc pc = .ok (.lcmp, 1)) (hd : decode cc (pc + 1) = .ok (.ifCond .lt off, 3)) (ht : ((pc + 1 : Nat) : Int) + off = (tgt : Int)) (ha : R63 a) (hb : R63 b) (kt : a < b → W p l e R s m args below meth c H locs cells slots Q (F0 m tgt ls (rest))) (kf : ¬ (a < b) → W p l e R s m args below meth c H locs cells slots Q (F0 m (pc + 1 + 3) ls (rest))) : W p l e R s m args below meth c H locs cells slots Q (F0 m pc ls (.long (jI b) :: .long (jI a) :: rest)) := by
  refine W.lcmp X.1.1 X.1.2.1 hd0 ?_
  rw [lg_cmpZ ha hb]
  have hr : R31 (if b < a then 1 else if a = b then 0 else -1) := by
    constructor <;> (split <;> (try split) <;> decide)
  refine sy_if_lt X hd ht hr (fun h => kt ?_) (fun h => kf ?_)
  · by_cases h1 : b < a
    · rw [if_pos h1] at h; omega
    · rw [if_neg h1] at h
      by_cases h2 : a = b
      · rw [if_pos h2] at h; omega
      · rw [if_neg h2] at h; omega
  · by_cases h1 : b < a
    · rw [if_pos h1] at h; omega
    · rw [if_neg h1] at h
      by_cases h2 : a = b
      · rw [if_pos h2] at h; omega
      · rw [if_neg h2] at h; omega
theorem sy_lcif_ge (X : CX D tys own cc nL p m c s args) {a b : Int} {off : Int} {tgt : Nat} (hd0 : decode cc pc = .ok (.lcmp, 1)) (hd : decode cc (pc + 1) = .ok (.ifCond .ge off, 3)) (ht : ((pc + 1 : Nat) : Int) + off = (tgt : Int)) (ha : R63 a) (hb : R63 b) (kt : b ≤ a → W p l e R s m args below meth c H locs cells slots Q (F0 m tgt ls (rest))) (kf : ¬ (b ≤ a) → W p l e R s m args below meth c H locs cells slots Q (F0 m (pc + 1 + 3) ls (rest))) : W p l e R s m args below meth c H locs cells slots Q (F0 m pc ls (.long (jI b) :: .long (jI a) :: rest)) := by
  refine W.lcmp X.1.1 X.1.2.1 hd0 ?_
  rw [lg_cmpZ ha hb]
  have hr : R31 (if b < a then 1 else if a = b then 0 else -1) := by
    constructor <;> (split <;> (try split) <;> decide)
  refine sy_if_ge X hd ht hr (fun h => kt ?_) (fun h => kf ?_)
  · by_cases h1 : b < a
    · rw [if_pos h1] at h; omega
    · rw [if_neg h1] at h
      by_cases h2 : a = b
      · rw [if_pos h2] at h; omega
      · rw [if_neg h2] at h; omega
  · by_cases h1 : b < a
    · rw [if_pos h1] at h; omega
    · rw [if_neg h1] at h
      by_cases h2 : a = b
      · rw [if_pos h2] at h; omega
      · rw [if_neg h2] at h; omega
theorem sy_lcif_gt (X : CX D tys own cc nL p m c s args) {a b : Int} {off : Int} {tgt : Nat} (hd0 : decode cc pc = .ok (.lcmp, 1)) (hd : decode cc (pc + 1) = .ok (.ifCond .gt off, 3)) (ht : ((pc + 1 : Nat) : Int) + off = (tgt : Int)) (ha : R63 a) (hb : R63 b) (kt : b < a → W p l e R s m args below meth c H locs cells slots Q (F0 m tgt ls (rest))) (kf : ¬ (b < a) → W p l e R s m args below meth c H locs cells slots Q (F0 m (pc + 1 + 3) ls (rest))) : W p l e R s m args below meth c H locs cells slots Q (F0 m pc ls (.long (jI b) :: .long (jI a) :: rest)) := by
  refine W.lcmp X.1.1 X.1.2.1 hd0 ?_
  rw [lg_cmpZ ha hb]
  have hr : R31 (if b < a then 1 else if a = b then 0 else -1) := by
    constructor <;> (split <;> (try split) <;> decide)
  refine sy_if_gt X hd ht hr (fun h => kt ?_) (fun h => kf ?_)
  · by_cases h1 : b < a
    · rw [if_pos h1] at h; omega
    · rw [if_neg h1] at h
      by_cases h2 : a = b
      · rw [if_pos h2] at h; omega
      · rw [if_neg h2] at h; omega
  · by_cases h1 : b < a
    · rw [if_pos h1] at h; omega
    · rw [if_neg h1] at h
      by_cases h2 : a = b
      · rw [if_pos h2] at h; omega
      · rw [if_neg h2] at h; omega
theorem sy_lcif_le (X : CX D tys own cc nL p m c s args) {a b : Int} {off : Int} {tgt : Nat} (hd0 : decode cc pc = .ok (.lcmp, 1)) (hd : decode cc (pc + 1) = .ok (.ifCond .le off, 3)) (ht : ((pc + 1 : Nat) : Int) + off = (tgt : Int)) (ha : R63 a) (hb : R63 b) (kt : a ≤ b → W p l e R s m args below meth c H locs cells slots Q (F0 m tgt ls (rest))) (kf : ¬ (a ≤ b) → W p l e R s m args below meth c H locs cells slots Q (F0 m (pc + 1 + 3) ls (rest))) : W p l e R s m args below meth c H locs cells slots Q (F0 m pc ls (.long (jI b) :: .long (jI a) :: rest)) := by
  refine W.lcmp X.1.1 X.1.2.1 hd0 ?_
  rw [lg_cmpZ ha hb]
  have hr : R31 (if b < a then 1 else if a = b then 0 else -1) := by
    constructor <;> (split <;> (try split) <;> decide)
  refine sy_if_le X hd ht hr (fun h => kt ?_) (fun h => kf ?_)
  · by_cases h1 : b < a
    · rw [if_pos h1] at h; omega
    · rw [if_neg h1] at h
      by_cases h2 : a = b
      · rw [if_pos h2] at h; omega
      · rw [if_neg h2] at h; omega
  · by_cases h1 : b < a
    · rw [if_pos h1] at h; omega
    · rw [if_neg h1] at h
      by_cases h2 : a = b
      · rw [if_pos h2] at h; omega
      · rw [if_neg h2] at h; omega
theorem ret_v (X : CX D tys own cc nL p m c s args) {S : Type} {ws0 : va_W} {post : S → Prop} {rv : S → Option Value} {ws1 : S → va_W} (u : S)  (hr : meth.sig.returnType = none) (hlocks : meth.locks = false) (hd : decode cc pc = .ok (.return_, 1)) (hw : HW D (va_A ws0 s.heap.size) s.heap (ws1 u) H locs) (hp : post u) (hv : rv u = none) : W p l e R s m args below meth c H locs cells slots (MQ below (QX D tys ws0 post rv ws1 s.heap.size) args s cells slots (va_A ws0 s.heap.size)) (F0 m pc ls []) := by
  obtain ⟨hP, hD, hS, hA⟩ := hw
  exact W.vret X.1.1 X.1.2.1 (hlocks := hlocks) hr (fun t ht hW => ⟨⟨u, by rw [hv], hp, by rw [ht]; exact hP, va_K.moved hW.alike X.2, hD⟩, hS.F ht⟩) hS.2.2 hd
theorem ret_i (X : CX D tys own cc nL p m c s args) {S : Type} {ws0 : va_W} {post : S → Prop} {rv : S → Option Value} {ws1 : S → va_W} (u : S) {v : Int32} (hr : meth.sig.returnType = some .int) (hlocks : meth.locks = false) (hd : decode cc pc = .ok (.ireturn, 1)) (hw : HW D (va_A ws0 s.heap.size) s.heap (ws1 u) H locs) (hp : post u) (hv : rv u = some (.int v)) : W p l e R s m args below meth c H locs cells slots (MQ below (QX D tys ws0 post rv ws1 s.heap.size) args s cells slots (va_A ws0 s.heap.size)) (F0 m pc ls [.int v]) := by
  obtain ⟨hP, hD, hS, hA⟩ := hw
  exact W.iret X.1.1 X.1.2.1 (hlocks := hlocks) hr (fun t ht hW => ⟨⟨u, by rw [hv], hp, by rw [ht]; exact hP, va_K.moved hW.alike X.2, hD⟩, hS.F ht⟩) hS.2.2 hd
theorem ret_z (X : CX D tys own cc nL p m c s args) {S : Type} {ws0 : va_W} {post : S → Prop} {rv : S → Option Value} {ws1 : S → va_W} (u : S) {v : Int32} (hz : narrow .boolean (.int v) = .int v) (hr : meth.sig.returnType = some .boolean) (hlocks : meth.locks = false) (hd : decode cc pc = .ok (.ireturn, 1)) (hw : HW D (va_A ws0 s.heap.size) s.heap (ws1 u) H locs) (hp : post u) (hv : rv u = some (.int v)) : W p l e R s m args below meth c H locs cells slots (MQ below (QX D tys ws0 post rv ws1 s.heap.size) args s cells slots (va_A ws0 s.heap.size)) (F0 m pc ls [.int v]) := by
  obtain ⟨hP, hD, hS, hA⟩ := hw
  exact W.zret X.1.1 X.1.2.1 (hlocks := hlocks) hr hz (fun t ht hW => ⟨⟨u, by rw [hv], hp, by rw [ht]; exact hP, va_K.moved hW.alike X.2, hD⟩, hS.F ht⟩) hS.2.2 hd
theorem ret_j (X : CX D tys own cc nL p m c s args) {S : Type} {ws0 : va_W} {post : S → Prop} {rv : S → Option Value} {ws1 : S → va_W} (u : S) {v : Int64} (hr : meth.sig.returnType = some .long) (hlocks : meth.locks = false) (hd : decode cc pc = .ok (.lreturn, 1)) (hw : HW D (va_A ws0 s.heap.size) s.heap (ws1 u) H locs) (hp : post u) (hv : rv u = some (.long v)) : W p l e R s m args below meth c H locs cells slots (MQ below (QX D tys ws0 post rv ws1 s.heap.size) args s cells slots (va_A ws0 s.heap.size)) (F0 m pc ls [.long v]) := by
  obtain ⟨hP, hD, hS, hA⟩ := hw
  exact W.lret X.1.1 X.1.2.1 (hlocks := hlocks) hr (fun t ht hW => ⟨⟨u, by rw [hv], hp, by rw [ht]; exact hP, va_K.moved hW.alike X.2, hD⟩, hS.F ht⟩) hS.2.2 hd
theorem ret_a (X : CX D tys own cc nL p m c s args) {S : Type} {ws0 : va_W} {post : S → Prop} {rv : S → Option Value} {ws1 : S → va_W} (u : S) {C : String} {v : Nat} (hr : meth.sig.returnType = some (.object C)) (hlocks : meth.locks = false) (hd : decode cc pc = .ok (.areturn, 1)) (hw : HW D (va_A ws0 s.heap.size) s.heap (ws1 u) H locs) (hp : post u) (hv : rv u = some (.ref v)) : W p l e R s m args below meth c H locs cells slots (MQ below (QX D tys ws0 post rv ws1 s.heap.size) args s cells slots (va_A ws0 s.heap.size)) (F0 m pc ls [.ref v]) := by
  obtain ⟨hP, hD, hS, hA⟩ := hw
  exact W.aret X.1.1 X.1.2.1 (hlocks := hlocks) hr (Or.inl ⟨C, rfl⟩) (Or.inr ⟨v, rfl⟩) (fun t ht hW => ⟨⟨u, by rw [hv], hp, by rw [ht]; exact hP, va_K.moved hW.alike X.2, hD⟩, hS.F ht⟩) hS.2.2 hd
theorem sy_get (X : CX D tys own cc nL p m c s args) {a : Nat} {ws : va_W} (hw : HW D A H0 ws H locs) {q0 ci N k idx : Nat} {fs : List Value} {C : String} {T : u_T} {v : Value} (he : ws[q0]? = some (a, .inr (ci, fs))) (hc : classes[ci]? = some (C, T, N)) (hi : ∀ w ∈ u_ws C T N, w ∈ TT) (hk : k < N) (hl : Cond.fieldLink own idx (T k).1 (T k).2.1 (T k).2.2.1 ∈ TT) (hv : fs[k]? = some v) (hd : decode cc pc = .ok (.getfield idx, 3)) (kk : W p l e R s m args below meth c H locs cells slots Q (F0 m (pc + 3) ls (v :: rest))) : W p l e R s m args below meth c H locs cells slots Q (F0 m pc ls (.ref a :: rest)) :=
  va_get X.1.1 X.1.2.1 X.1.2.2.2.2 hi X.1.2.2.2.1 X.2 hw.1 q0 he hc k hk (X.1.2.2.2.2 _ hl) (fun _ h => h) hv hd kk
end Sy
end
section
theorem lk_E_64 : LkV R_E 64 R_Q y_Q_setStep b_Q_setStep 5 none 4 := ⟨⟨tt_of k181 rfl, tt_of k182 rfl, tt_of k183 rfl, tt_of k44 rfl, tt_of k184 rfl⟩, by decide +kernel⟩
theorem lk_E_68 : LkV R_E 68 R_Q y_Q_setNoise b_Q_setNoise 4 none 3 := ⟨⟨tt_of k185 rfl, tt_of k186 rfl, tt_of k187 rfl, tt_of k44 rfl, tt_of k188 rfl⟩, by decide +kernel⟩
theorem lk_E_72 : LkV R_E 72 R_B y_B_setEstimate b_B_setEstimate 6 none 5 := ⟨⟨tt_of k189 rfl, tt_of k190 rfl, tt_of k191 rfl, tt_of k45 rfl, tt_of k192 rfl⟩, by decide +kernel⟩
theorem lk_E_76 : LkS R_E 76 y_E_within b_E_within 2 (some .boolean) 2 := ⟨⟨tt_of k245 rfl, tt_of k246 rfl, tt_of k43 rfl, tt_of k247 rfl⟩, by decide +kernel⟩
theorem lk_E_80 : LkS R_E 80 y_E_fitsCovariance b_E_fitsCovariance 3 (some .boolean) 3 := ⟨⟨tt_of k248 rfl, tt_of k249 rfl, tt_of k43 rfl, tt_of k250 rfl⟩, by decide +kernel⟩
theorem lk_E_84 : LkS R_E 84 y_E_isPositive b_E_isPositive 3 (some .boolean) 3 := ⟨⟨tt_of k251 rfl, tt_of k252 rfl, tt_of k43 rfl, tt_of k253 rfl⟩, by decide +kernel⟩
theorem lk_E_94 : LkV R_E 94 R_E y_E_latest b_E_latest 1 (some .int) 0 := ⟨⟨tt_of k266 rfl, tt_of k268 rfl, tt_of k0 rfl, tt_of k43 rfl, tt_of k269 rfl⟩, by decide +kernel⟩
theorem lk_E_98 : LkV R_E 98 R_O y_O_set b_O_set 5 none 4 := ⟨⟨tt_of k270 rfl, tt_of k271 rfl, tt_of k272 rfl, tt_of k47 rfl, tt_of k273 rfl⟩, by decide +kernel⟩
theorem lk_E_101 : LkV R_E 101 R_O y_O_place b_O_place 3 none 2 := ⟨⟨tt_of k274 rfl, tt_of k275 rfl, tt_of k276 rfl, tt_of k47 rfl, tt_of k277 rfl⟩, by decide +kernel⟩
theorem lk_E_105 : LkV R_E 105 R_B y_B_copy b_B_copy 2 none 1 := ⟨⟨tt_of k278 rfl, tt_of k279 rfl, tt_of k280 rfl, tt_of k45 rfl, tt_of k281 rfl⟩, by decide +kernel⟩
theorem lk_E_109 : LkV R_E 109 R_B y_B_learn b_B_learn 6 none 1 := ⟨⟨tt_of k286 rfl, tt_of k287 rfl, tt_of k288 rfl, tt_of k45 rfl, tt_of k289 rfl⟩, by decide +kernel⟩
theorem lk_E_113 : LkV R_E 113 R_Q y_Q_copy b_Q_copy 2 none 1 := ⟨⟨tt_of k311 rfl, tt_of k312 rfl, tt_of k313 rfl, tt_of k44 rfl, tt_of k314 rfl⟩, by decide +kernel⟩
theorem lk_E_116 : LkV R_E 116 R_B y_B_moveOn b_B_moveOn 3 none 2 := ⟨⟨tt_of k317 rfl, tt_of k318 rfl, tt_of k319 rfl, tt_of k45 rfl, tt_of k320 rfl⟩, by decide +kernel⟩
theorem lk_E_120 : LkV R_E 120 R_B y_B_addNoise b_B_addNoise 2 none 1 := ⟨⟨tt_of k338 rfl, tt_of k339 rfl, tt_of k340 rfl, tt_of k45 rfl, tt_of k341 rfl⟩, by decide +kernel⟩
theorem lk_E_123 : LkV R_E 123 R_E y_E_find b_E_find 4 (some .boolean) 3 := ⟨⟨tt_of k358 rfl, tt_of k360 rfl, tt_of k3 rfl, tt_of k43 rfl, tt_of k361 rfl⟩, by decide +kernel⟩
theorem lk_E_126 : LkV R_E 126 R_W y_W_side b_W_side 2 (some .int) 0 := ⟨⟨tt_of k406 rfl, tt_of k407 rfl, tt_of k408 rfl, tt_of k46 rfl, tt_of k409 rfl⟩, by decide +kernel⟩
theorem lk_E_129 : LkV R_E 129 R_E y_E_reduce b_E_reduce 3 none 0 := ⟨⟨tt_of k415 rfl, tt_of k417 rfl, tt_of k8 rfl, tt_of k43 rfl, tt_of k418 rfl⟩, by decide +kernel⟩
theorem lk_E_132 : LkV R_E 132 R_W y_W_length b_W_length 2 (some .int) 0 := ⟨⟨tt_of k463 rfl, tt_of k464 rfl, tt_of k465 rfl, tt_of k46 rfl, tt_of k466 rfl⟩, by decide +kernel⟩
theorem lk_E_139 : LkV R_E 139 R_W y_W_limb b_W_limb 2 (some .long) 1 := ⟨⟨tt_of k477 rfl, tt_of k478 rfl, tt_of k479 rfl, tt_of k46 rfl, tt_of k480 rfl⟩, by decide +kernel⟩
theorem lk_E_143 : LkV R_E 143 R_W y_W_setTimes b_W_setTimes 8 none 2 := ⟨⟨tt_of k485 rfl, tt_of k295 rfl, tt_of k296 rfl, tt_of k46 rfl, tt_of k297 rfl⟩, by decide +kernel⟩
theorem lk_E_147 : LkV R_E 147 R_W y_W_addTimes b_W_addTimes 8 none 2 := ⟨⟨tt_of k450 rfl, tt_of k303 rfl, tt_of k304 rfl, tt_of k46 rfl, tt_of k305 rfl⟩, by decide +kernel⟩
theorem lk_E_150 : LkV R_E 150 R_E y_E_findOfObservation b_E_findOfObservation 5 (some .boolean) 2 := ⟨⟨tt_of k362 rfl, tt_of k364 rfl, tt_of k4 rfl, tt_of k43 rfl, tt_of k365 rfl⟩, by decide +kernel⟩
theorem lk_E_153 : LkV R_E 153 R_E y_E_beliefOf b_E_beliefOf 4 (some (.object "ExactEstimates$Belief")) 2 := ⟨⟨tt_of k368 rfl, tt_of k370 rfl, tt_of k5 rfl, tt_of k43 rfl, tt_of k371 rfl⟩, by decide +kernel⟩
theorem lk_E_157 : LkV R_E 157 R_B y_B_tell b_B_tell 4 none 3 := ⟨⟨tt_of k402 rfl, tt_of k403 rfl, tt_of k404 rfl, tt_of k45 rfl, tt_of k405 rfl⟩, by decide +kernel⟩
theorem lk_E_167 : LkV R_E 167 R_W y_W_copy b_W_copy 3 none 1 := ⟨⟨tt_of k366 rfl, tt_of k283 rfl, tt_of k284 rfl, tt_of k46 rfl, tt_of k285 rfl⟩, by decide +kernel⟩
theorem lk_E_185 : LkV R_E 185 R_W y_W_setSum b_W_setSum 7 none 6 := ⟨⟨tt_of k367 rfl, tt_of k326 rfl, tt_of k327 rfl, tt_of k46 rfl, tt_of k328 rfl⟩, by decide +kernel⟩
theorem lk_E_189 : LkV R_E 189 R_E y_E_lookBackTo b_E_lookBackTo 4 none 1 := ⟨⟨tt_of k372 rfl, tt_of k374 rfl, tt_of k6 rfl, tt_of k43 rfl, tt_of k375 rfl⟩, by decide +kernel⟩
theorem lk_E_193 : LkV R_E 193 R_B y_B_join b_B_join 3 none 2 := ⟨⟨tt_of k384 rfl, tt_of k385 rfl, tt_of k386 rfl, tt_of k45 rfl, tt_of k387 rfl⟩, by decide +kernel⟩
theorem lk_E_197 : LkV R_E 197 R_B y_B_setBlank b_B_setBlank 1 none 0 := ⟨⟨tt_of k376 rfl, tt_of k377 rfl, tt_of k378 rfl, tt_of k45 rfl, tt_of k379 rfl⟩, by decide +kernel⟩
theorem lk_E_203 : LkV R_E 203 R_B y_B_moveBack b_B_moveBack 3 none 2 := ⟨⟨tt_of k380 rfl, tt_of k381 rfl, tt_of k382 rfl, tt_of k45 rfl, tt_of k383 rfl⟩, by decide +kernel⟩
theorem lk_E_206 : LkV R_E 206 R_W y_W_set b_W_set 5 none 1 := ⟨⟨tt_of k419 rfl, tt_of k194 rfl, tt_of k195 rfl, tt_of k46 rfl, tt_of k196 rfl⟩, by decide +kernel⟩
theorem lk_E_208 : LkV R_E 208 R_W y_W_scale b_W_scale 2 none 1 := ⟨⟨tt_of k420 rfl, tt_of k291 rfl, tt_of k292 rfl, tt_of k46 rfl, tt_of k293 rfl⟩, by decide +kernel⟩
theorem lk_E_211 : LkV R_E 211 R_E y_E_dropCommonTwos b_E_dropCommonTwos 3 none 0 := ⟨⟨tt_of k421 rfl, tt_of k423 rfl, tt_of k9 rfl, tt_of k43 rfl, tt_of k424 rfl⟩, by decide +kernel⟩
theorem lk_E_214 : LkV R_E 214 R_E y_E_oddCommonDivisor b_E_oddCommonDivisor 6 (some (.object "ExactEstimates$Whole")) 0 := ⟨⟨tt_of k436 rfl, tt_of k438 rfl, tt_of k10 rfl, tt_of k43 rfl, tt_of k439 rfl⟩, by decide +kernel⟩
theorem lk_E_218 : LkV R_E 218 R_W y_W_divideByOdd b_W_divideByOdd 7 none 1 := ⟨⟨tt_of k451 rfl, tt_of k452 rfl, tt_of k453 rfl, tt_of k46 rfl, tt_of k454 rfl⟩, by decide +kernel⟩
theorem lk_E_221 : LkV R_E 221 R_W y_W_lowZeros b_W_lowZeros 2 (some .int) 0 := ⟨⟨tt_of k425 rfl, tt_of k426 rfl, tt_of k427 rfl, tt_of k46 rfl, tt_of k428 rfl⟩, by decide +kernel⟩
theorem lk_E_230 : LkV R_E 230 R_W y_W_shiftRight b_W_shiftRight 5 none 1 := ⟨⟨tt_of k432 rfl, tt_of k433 rfl, tt_of k434 rfl, tt_of k46 rfl, tt_of k435 rfl⟩, by decide +kernel⟩
theorem lk_E_233 : LkV R_E 233 R_W y_W_dropTwos b_W_dropTwos 3 none 0 := ⟨⟨tt_of k440 rfl, tt_of k441 rfl, tt_of k442 rfl, tt_of k46 rfl, tt_of k443 rfl⟩, by decide +kernel⟩
theorem lk_E_236 : LkV R_E 236 R_W y_W_order b_W_order 3 (some .int) 1 := ⟨⟨tt_of k446 rfl, tt_of k447 rfl, tt_of k448 rfl, tt_of k46 rfl, tt_of k449 rfl⟩, by decide +kernel⟩
theorem lk_M_34 : LkV R_M 34 R_M y_M_begin b_M_begin 6 none 5 := ⟨⟨tt_of k492 rfl, tt_of k494 rfl, tt_of k13 rfl, tt_of k48 rfl, tt_of k495 rfl⟩, by decide +kernel⟩
theorem lk_M_40 : LkV R_M 40 R_M y_M_digitOf b_M_digitOf 3 (some .int) 2 := ⟨⟨tt_of k573 rfl, tt_of k575 rfl, tt_of k19 rfl, tt_of k48 rfl, tt_of k576 rfl⟩, by decide +kernel⟩
theorem lk_M_45 : LkV R_M 45 R_M y_M_store b_M_store 6 none 3 := ⟨⟨tt_of k577 rfl, tt_of k579 rfl, tt_of k20 rfl, tt_of k48 rfl, tt_of k580 rfl⟩, by decide +kernel⟩
theorem lk_M_49 : LkV R_M 49 R_M y_M_against b_M_against 6 (some .int) 2 := ⟨⟨tt_of k590 rfl, tt_of k592 rfl, tt_of k23 rfl, tt_of k48 rfl, tt_of k593 rfl⟩, by decide +kernel⟩
theorem lk_M_52 : LkV R_M 52 R_M y_M_scale b_M_scale 11 none 3 := ⟨⟨tt_of k569 rfl, tt_of k571 rfl, tt_of k18 rfl, tt_of k48 rfl, tt_of k572 rfl⟩, by decide +kernel⟩
theorem lk_M_55 : LkV R_M 55 R_M y_M_sum b_M_sum 13 none 4 := ⟨⟨tt_of k585 rfl, tt_of k587 rfl, tt_of k22 rfl, tt_of k48 rfl, tt_of k588 rfl⟩, by decide +kernel⟩
theorem lk_M_59 : LkV R_M 59 R_M y_M_times b_M_times 9 none 3 := ⟨⟨tt_of k594 rfl, tt_of k596 rfl, tt_of k24 rfl, tt_of k48 rfl, tt_of k597 rfl⟩, by decide +kernel⟩
theorem lk_M_64 : LkV R_M 64 R_M y_M_fits b_M_fits 6 (some .boolean) 2 := ⟨⟨tt_of k619 rfl, tt_of k621 rfl, tt_of k30 rfl, tt_of k48 rfl, tt_of k622 rfl⟩, by decide +kernel⟩
theorem lk_M_70 : LkV R_M 70 R_M y_M_takeOff b_M_takeOff 10 none 3 := ⟨⟨tt_of k624 rfl, tt_of k626 rfl, tt_of k31 rfl, tt_of k48 rfl, tt_of k627 rfl⟩, by decide +kernel⟩
theorem lk_M_74 : LkV R_M 74 R_M y_M_split b_M_split 12 none 2 := ⟨⟨tt_of k614 rfl, tt_of k616 rfl, tt_of k29 rfl, tt_of k48 rfl, tt_of k617 rfl⟩, by decide +kernel⟩
theorem lk_M_78 : LkV R_M 78 R_M y_M_copy b_M_copy 4 none 2 := ⟨⟨tt_of k505 rfl, tt_of k507 rfl, tt_of k16 rfl, tt_of k48 rfl, tt_of k508 rfl⟩, by decide +kernel⟩
theorem lk_M_81 : LkV R_M 81 R_M y_M_remainder b_M_remainder 4 none 3 := ⟨⟨tt_of k610 rfl, tt_of k612 rfl, tt_of k28 rfl, tt_of k48 rfl, tt_of k613 rfl⟩, by decide +kernel⟩
theorem lk_M_84 : LkV R_M 84 R_M y_M_common b_M_common 5 none 4 := ⟨⟨tt_of k606 rfl, tt_of k608 rfl, tt_of k27 rfl, tt_of k48 rfl, tt_of k609 rfl⟩, by decide +kernel⟩
theorem lk_M_87 : LkV R_M 87 R_M y_M_part b_M_part 7 none 3 := ⟨⟨tt_of k628 rfl, tt_of k630 rfl, tt_of k32 rfl, tt_of k48 rfl, tt_of k631 rfl⟩, by decide +kernel⟩
theorem lk_M_101 : LkV R_M 101 R_M y_M_put b_M_put 5 none 2 := ⟨⟨tt_of k496 rfl, tt_of k498 rfl, tt_of k14 rfl, tt_of k48 rfl, tt_of k499 rfl⟩, by decide +kernel⟩
theorem lk_M_104 : LkV R_M 104 R_M y_M_keep b_M_keep 4 none 2 := ⟨⟨tt_of k501 rfl, tt_of k503 rfl, tt_of k15 rfl, tt_of k48 rfl, tt_of k504 rfl⟩, by decide +kernel⟩
theorem lk_M_107 : LkS R_M 107 y_M_bound b_M_bound 2 (some .boolean) 2 := ⟨⟨tt_of k547 rfl, tt_of k548 rfl, tt_of k48 rfl, tt_of k549 rfl⟩, by decide +kernel⟩
theorem lk_M_110 : LkS R_M 110 y_M_positive b_M_positive 3 (some .boolean) 3 := ⟨⟨tt_of k550 rfl, tt_of k551 rfl, tt_of k48 rfl, tt_of k552 rfl⟩, by decide +kernel⟩
theorem lk_M_114 : LkV R_M 114 R_M y_M_gain b_M_gain 5 none 4 := ⟨⟨tt_of k581 rfl, tt_of k583 rfl, tt_of k21 rfl, tt_of k48 rfl, tt_of k584 rfl⟩, by decide +kernel⟩
theorem lk_M_117 : LkV R_M 117 R_M y_M_gains b_M_gains 6 none 4 := ⟨⟨tt_of k565 rfl, tt_of k567 rfl, tt_of k17 rfl, tt_of k48 rfl, tt_of k568 rfl⟩, by decide +kernel⟩
theorem lk_M_120 : LkV R_M 120 R_M y_M_join b_M_join 6 none 5 := ⟨⟨tt_of k598 rfl, tt_of k600 rfl, tt_of k25 rfl, tt_of k48 rfl, tt_of k601 rfl⟩, by decide +kernel⟩
theorem lk_M_123 : LkV R_M 123 R_M y_M_shrink b_M_shrink 5 none 2 := ⟨⟨tt_of k602 rfl, tt_of k604 rfl, tt_of k26 rfl, tt_of k48 rfl, tt_of k605 rfl⟩, by decide +kernel⟩
theorem lk_M_126 : LkV R_M 126 R_M y_M_pair b_M_pair 7 none 6 := ⟨⟨tt_of k636 rfl, tt_of k638 rfl, tt_of k33 rfl, tt_of k48 rfl, tt_of k639 rfl⟩, by decide +kernel⟩
theorem lk_M_130 : LkV R_M 130 R_M y_M_crossed b_M_crossed 8 none 7 := ⟨⟨tt_of k672 rfl, tt_of k674 rfl, tt_of k39 rfl, tt_of k48 rfl, tt_of k675 rfl⟩, by decide +kernel⟩
theorem lk_M_134 : LkV R_M 134 R_M y_M_matrix b_M_matrix 6 none 3 := ⟨⟨tt_of k668 rfl, tt_of k670 rfl, tt_of k38 rfl, tt_of k48 rfl, tt_of k671 rfl⟩, by decide +kernel⟩
theorem lk_M_137 : LkV R_M 137 R_M y_M_smoothAt b_M_smoothAt 10 none 1 := ⟨⟨tt_of k664 rfl, tt_of k666 rfl, tt_of k37 rfl, tt_of k48 rfl, tt_of k667 rfl⟩, by decide +kernel⟩
theorem lk_M_141 : LkV R_M 141 R_M y_M_smoothAll b_M_smoothAll 2 none 0 := ⟨⟨tt_of k660 rfl, tt_of k662 rfl, tt_of k36 rfl, tt_of k48 rfl, tt_of k663 rfl⟩, by decide +kernel⟩
theorem lk_M_144 : LkV R_M 144 R_M y_M_none b_M_none 4 (some .boolean) 3 := ⟨⟨tt_of k652 rfl, tt_of k654 rfl, tt_of k34 rfl, tt_of k48 rfl, tt_of k655 rfl⟩, by decide +kernel⟩
theorem lk_M_147 : LkV R_M 147 R_M y_M_upper b_M_upper 4 (some .int) 3 := ⟨⟨tt_of k656 rfl, tt_of k658 rfl, tt_of k35 rfl, tt_of k48 rfl, tt_of k659 rfl⟩, by decide +kernel⟩
theorem lk_M_151 : LkV R_M 151 R_M y_M_lowerOf b_M_lowerOf 4 (some .int) 3 := ⟨⟨tt_of k684 rfl, tt_of k686 rfl, tt_of k41 rfl, tt_of k48 rfl, tt_of k687 rfl⟩, by decide +kernel⟩
theorem lk_M_154 : LkV R_M 154 R_M y_M_lowest b_M_lowest 5 (some .int) 4 := ⟨⟨tt_of k680 rfl, tt_of k682 rfl, tt_of k40 rfl, tt_of k48 rfl, tt_of k683 rfl⟩, by decide +kernel⟩
theorem lk_B_40 : LkV R_B 40 R_W y_W_set b_W_set 5 none 1 := ⟨⟨tt_of k193 rfl, tt_of k194 rfl, tt_of k195 rfl, tt_of k46 rfl, tt_of k196 rfl⟩, by decide +kernel⟩
theorem lk_B_44 : LkV R_B 44 R_W y_W_copy b_W_copy 3 none 1 := ⟨⟨tt_of k282 rfl, tt_of k283 rfl, tt_of k284 rfl, tt_of k46 rfl, tt_of k285 rfl⟩, by decide +kernel⟩
theorem lk_B_63 : LkV R_B 63 R_W y_W_scale b_W_scale 2 none 1 := ⟨⟨tt_of k290 rfl, tt_of k291 rfl, tt_of k292 rfl, tt_of k46 rfl, tt_of k293 rfl⟩, by decide +kernel⟩
theorem lk_B_66 : LkV R_B 66 R_W y_W_addSum b_W_addSum 5 none 4 := ⟨⟨tt_of k298 rfl, tt_of k299 rfl, tt_of k300 rfl, tt_of k46 rfl, tt_of k301 rfl⟩, by decide +kernel⟩
theorem lk_B_70 : LkV R_B 70 R_W y_W_addTimes b_W_addTimes 8 none 2 := ⟨⟨tt_of k306 rfl, tt_of k303 rfl, tt_of k304 rfl, tt_of k46 rfl, tt_of k305 rfl⟩, by decide +kernel⟩
theorem lk_B_85 : LkV R_B 85 R_Q y_Q_noiseDeterminant b_Q_noiseDeterminant 1 (some .int) 0 := ⟨⟨tt_of k342 rfl, tt_of k343 rfl, tt_of k344 rfl, tt_of k44 rfl, tt_of k345 rfl⟩, by decide +kernel⟩
theorem lk_B_101 : LkV R_B 101 R_B y_B_turn b_B_turn 6 none 5 := ⟨⟨tt_of k321 rfl, tt_of k323 rfl, tt_of k1 rfl, tt_of k45 rfl, tt_of k324 rfl⟩, by decide +kernel⟩
theorem lk_B_105 : LkV R_B 105 R_Q y_Q_stepDeterminant b_Q_stepDeterminant 1 (some .int) 0 := ⟨⟨tt_of k330 rfl, tt_of k331 rfl, tt_of k332 rfl, tt_of k44 rfl, tt_of k333 rfl⟩, by decide +kernel⟩
theorem lk_B_108 : LkV R_B 108 R_B y_B_moveScales b_B_moveScales 4 none 3 := ⟨⟨tt_of k334 rfl, tt_of k336 rfl, tt_of k2 rfl, tt_of k45 rfl, tt_of k337 rfl⟩, by decide +kernel⟩
theorem lk_B_112 : LkV R_B 112 R_W y_W_setSum b_W_setSum 7 none 6 := ⟨⟨tt_of k325 rfl, tt_of k326 rfl, tt_of k327 rfl, tt_of k46 rfl, tt_of k328 rfl⟩, by decide +kernel⟩
theorem lk_B_116 : LkV R_B 116 R_W y_W_setTimes b_W_setTimes 8 none 2 := ⟨⟨tt_of k329 rfl, tt_of k295 rfl, tt_of k296 rfl, tt_of k46 rfl, tt_of k297 rfl⟩, by decide +kernel⟩
theorem lk_B_119 : LkV R_B 119 R_W y_W_setProducts b_W_setProducts 5 none 4 := ⟨⟨tt_of k388 rfl, tt_of k389 rfl, tt_of k390 rfl, tt_of k46 rfl, tt_of k391 rfl⟩, by decide +kernel⟩
theorem lk_B_123 : LkV R_B 123 R_W y_W_addProducts b_W_addProducts 5 none 4 := ⟨⟨tt_of k401 rfl, tt_of k394 rfl, tt_of k395 rfl, tt_of k46 rfl, tt_of k396 rfl⟩, by decide +kernel⟩
theorem lk_Q_31 : LkV R_Q 31 R_Q y_Q_setStep b_Q_setStep 5 none 4 := ⟨⟨tt_of k315 rfl, tt_of k182 rfl, tt_of k183 rfl, tt_of k44 rfl, tt_of k184 rfl⟩, by decide +kernel⟩
theorem lk_Q_35 : LkV R_Q 35 R_Q y_Q_setNoise b_Q_setNoise 4 none 3 := ⟨⟨tt_of k316 rfl, tt_of k186 rfl, tt_of k187 rfl, tt_of k44 rfl, tt_of k188 rfl⟩, by decide +kernel⟩
theorem lk_W_15 : LkV R_W 15 R_W y_W_setTimes b_W_setTimes 8 none 2 := ⟨⟨tt_of k294 rfl, tt_of k295 rfl, tt_of k296 rfl, tt_of k46 rfl, tt_of k297 rfl⟩, by decide +kernel⟩
theorem lk_W_19 : LkV R_W 19 R_W y_W_addTimes b_W_addTimes 8 none 2 := ⟨⟨tt_of k302 rfl, tt_of k303 rfl, tt_of k304 rfl, tt_of k46 rfl, tt_of k305 rfl⟩, by decide +kernel⟩
theorem lk_W_22 : LkV R_W 22 R_W y_W_set b_W_set 5 none 1 := ⟨⟨tt_of k392 rfl, tt_of k194 rfl, tt_of k195 rfl, tt_of k46 rfl, tt_of k196 rfl⟩, by decide +kernel⟩
theorem lk_W_26 : LkV R_W 26 R_W y_W_addProducts b_W_addProducts 5 none 4 := ⟨⟨tt_of k393 rfl, tt_of k394 rfl, tt_of k395 rfl, tt_of k46 rfl, tt_of k396 rfl⟩, by decide +kernel⟩
theorem lk_W_30 : LkV R_W 30 R_W y_W_addProduct b_W_addProduct 9 none 2 := ⟨⟨tt_of k397 rfl, tt_of k399 rfl, tt_of k7 rfl, tt_of k46 rfl, tt_of k400 rfl⟩, by decide +kernel⟩
theorem lk_W_36 : LkV R_W 36 R_W y_W_hasBit b_W_hasBit 2 (some .boolean) 1 := ⟨⟨tt_of k467 rfl, tt_of k469 rfl, tt_of k12 rfl, tt_of k46 rfl, tt_of k470 rfl⟩, by decide +kernel⟩
theorem lk_W_40 : LkV R_W 40 R_W y_W_lowZeros b_W_lowZeros 2 (some .int) 0 := ⟨⟨tt_of k444 rfl, tt_of k426 rfl, tt_of k427 rfl, tt_of k46 rfl, tt_of k428 rfl⟩, by decide +kernel⟩
theorem lk_W_44 : LkV R_W 44 R_W y_W_shiftRight b_W_shiftRight 5 none 1 := ⟨⟨tt_of k445 rfl, tt_of k433 rfl, tt_of k434 rfl, tt_of k46 rfl, tt_of k435 rfl⟩, by decide +kernel⟩
theorem lk_W_47 : LkS R_W 47 y_W_inverseOfLimb b_W_inverseOfLimb 5 (some .long) 1 := ⟨⟨tt_of k455 rfl, tt_of k456 rfl, tt_of k46 rfl, tt_of k457 rfl⟩, by decide +kernel⟩
theorem lk_W_51 : LkV R_W 51 R_W y_W_takeTimes b_W_takeTimes 12 none 3 := ⟨⟨tt_of k459 rfl, tt_of k461 rfl, tt_of k11 rfl, tt_of k46 rfl, tt_of k462 rfl⟩, by decide +kernel⟩
theorem lk_L_13 : LkV R_L 13 R_E y_E_initial b_E_initial 6 (some .int) 5 := ⟨⟨tt_of k241 rfl, tt_of k242 rfl, tt_of k243 rfl, tt_of k43 rfl, tt_of k244 rfl⟩, by decide +kernel⟩
theorem lk_L_17 : LkV R_L 17 R_M y_M_initial b_M_initial 6 (some .int) 5 := ⟨⟨tt_of k543 rfl, tt_of k544 rfl, tt_of k545 rfl, tt_of k48 rfl, tt_of k546 rfl⟩, by decide +kernel⟩
theorem lk_L_18 : LkV R_L 18 R_E y_E_step b_E_step 5 (some .boolean) 4 := ⟨⟨tt_of k254 rfl, tt_of k255 rfl, tt_of k256 rfl, tt_of k43 rfl, tt_of k257 rfl⟩, by decide +kernel⟩
theorem lk_L_22 : LkV R_L 22 R_M y_M_step b_M_step 5 (some .boolean) 4 := ⟨⟨tt_of k553 rfl, tt_of k554 rfl, tt_of k555 rfl, tt_of k48 rfl, tt_of k556 rfl⟩, by decide +kernel⟩
theorem lk_L_23 : LkV R_L 23 R_E y_E_noise b_E_noise 4 (some .int) 3 := ⟨⟨tt_of k258 rfl, tt_of k259 rfl, tt_of k260 rfl, tt_of k43 rfl, tt_of k261 rfl⟩, by decide +kernel⟩
theorem lk_L_27 : LkV R_L 27 R_M y_M_noise b_M_noise 4 (some .int) 3 := ⟨⟨tt_of k557 rfl, tt_of k558 rfl, tt_of k559 rfl, tt_of k48 rfl, tt_of k560 rfl⟩, by decide +kernel⟩
theorem lk_L_28 : LkV R_L 28 R_E y_E_observe b_E_observe 7 (some .int) 4 := ⟨⟨tt_of k262 rfl, tt_of k263 rfl, tt_of k264 rfl, tt_of k43 rfl, tt_of k265 rfl⟩, by decide +kernel⟩
theorem lk_L_32 : LkV R_L 32 R_M y_M_observe b_M_observe 11 (some .int) 4 := ⟨⟨tt_of k561 rfl, tt_of k562 rfl, tt_of k563 rfl, tt_of k48 rfl, tt_of k564 rfl⟩, by decide +kernel⟩
theorem lk_L_33 : LkV R_L 33 R_E y_E_advance b_E_advance 3 (some .int) 0 := ⟨⟨tt_of k307 rfl, tt_of k308 rfl, tt_of k309 rfl, tt_of k43 rfl, tt_of k310 rfl⟩, by decide +kernel⟩
theorem lk_L_37 : LkV R_L 37 R_M y_M_advance b_M_advance 5 (some .int) 0 := ⟨⟨tt_of k632 rfl, tt_of k633 rfl, tt_of k634 rfl, tt_of k48 rfl, tt_of k635 rfl⟩, by decide +kernel⟩
theorem lk_L_38 : LkV R_L 38 R_E y_E_time b_E_time 1 (some .int) 0 := ⟨⟨tt_of k346 rfl, tt_of k347 rfl, tt_of k348 rfl, tt_of k43 rfl, tt_of k349 rfl⟩, by decide +kernel⟩
theorem lk_L_41 : LkV R_L 41 R_M y_M_time b_M_time 1 (some .int) 0 := ⟨⟨tt_of k640 rfl, tt_of k641 rfl, tt_of k642 rfl, tt_of k48 rfl, tt_of k643 rfl⟩, by decide +kernel⟩
theorem lk_L_42 : LkV R_L 42 R_E y_E_observations b_E_observations 1 (some .int) 0 := ⟨⟨tt_of k350 rfl, tt_of k351 rfl, tt_of k352 rfl, tt_of k43 rfl, tt_of k353 rfl⟩, by decide +kernel⟩
theorem lk_L_45 : LkV R_L 45 R_M y_M_observations b_M_observations 1 (some .int) 0 := ⟨⟨tt_of k644 rfl, tt_of k645 rfl, tt_of k646 rfl, tt_of k48 rfl, tt_of k647 rfl⟩, by decide +kernel⟩
theorem lk_L_46 : LkV R_L 46 R_E y_E_sign b_E_sign 4 (some .int) 3 := ⟨⟨tt_of k354 rfl, tt_of k355 rfl, tt_of k356 rfl, tt_of k43 rfl, tt_of k357 rfl⟩, by decide +kernel⟩
theorem lk_L_49 : LkV R_L 49 R_M y_M_sign b_M_sign 4 (some .int) 3 := ⟨⟨tt_of k648 rfl, tt_of k649 rfl, tt_of k650 rfl, tt_of k48 rfl, tt_of k651 rfl⟩, by decide +kernel⟩
theorem lk_L_50 : LkV R_L 50 R_E y_E_bits b_E_bits 5 (some .int) 4 := ⟨⟨tt_of k411 rfl, tt_of k412 rfl, tt_of k413 rfl, tt_of k43 rfl, tt_of k414 rfl⟩, by decide +kernel⟩
theorem lk_L_54 : LkV R_L 54 R_M y_M_bits b_M_bits 7 (some .int) 4 := ⟨⟨tt_of k676 rfl, tt_of k677 rfl, tt_of k678 rfl, tt_of k48 rfl, tt_of k679 rfl⟩, by decide +kernel⟩
theorem lk_L_55 : LkV R_L 55 R_E y_E_word b_E_word 6 (some .long) 5 := ⟨⟨tt_of k471 rfl, tt_of k472 rfl, tt_of k473 rfl, tt_of k43 rfl, tt_of k474 rfl⟩, by decide +kernel⟩
theorem lk_L_59 : LkV R_L 59 R_M y_M_word b_M_word 7 (some .long) 5 := ⟨⟨tt_of k688 rfl, tt_of k689 rfl, tt_of k690 rfl, tt_of k48 rfl, tt_of k691 rfl⟩, by decide +kernel⟩
theorem lk_L_60 : LkV R_L 60 R_E y_E_compare b_E_compare 6 (some .int) 5 := ⟨⟨tt_of k481 rfl, tt_of k482 rfl, tt_of k483 rfl, tt_of k43 rfl, tt_of k484 rfl⟩, by decide +kernel⟩
theorem lk_L_63 : LkV R_L 63 R_M y_M_compare b_M_compare 6 (some .int) 5 := ⟨⟨tt_of k694 rfl, tt_of k695 rfl, tt_of k696 rfl, tt_of k48 rfl, tt_of k697 rfl⟩, by decide +kernel⟩
end
section
section Cl
variable {p : Program} {l : Launch} {e : Env} {R : Room} {s : State} {m : MethodId} {args : Array Value} {below : List Frame} {meth : Method} {c : Code} {H : Heap} {locs : List Loc} {cells slots : Nat} {Q : State → Prop}
variable {D : va_G} {tys : List (ClassId × FieldType)} {own : String} {cc : ByteArray} {nL : Nat} {pc : Nat} {ls : Array Slot} {rest : List Value} {A : Nat → Prop} {H0 : Heap}
theorem call_Vv {S : Type} {y : MethodName} {bytes : ByteArray} {maxL n idx b : Nat} {ret : Option FieldType} {rm : Room} {As : List Value} {ws0 Xs : va_W} {post : S → Prop} {ws1 : S → va_W} {C : String}
    (X : CX D tys own cc nL p m c s args) (hL : LkV own idx C y bytes maxL ret n) (hC : Ct l D tys y bytes maxL ret rm (.ref b :: As) ws0 post (fun _ => none) ws1) (hR : rm.frames + 1 ≤ R.frames ∧ 8 + (maxL + 11) + rm.locals ≤ R.locals) (hb : Rcv ws0 b C)
    (hw : HW D A H0 (Xs ++ ws0) H locs) (hn : As.length = n) (hls : ls.size = nL) (hrest : (rest.map fun v => v.category).sum ≤ 8) (hd : decode cc pc = .ok (.invokevirtual idx, 3)) (hc : rm.cells = 0) (hs : rm.slots = 0) (hf : cells ≤ R.cells ∧ slots ≤ R.slots)
    (kk : ∀ (u : S) (H1 : Heap) (locs1 : List Loc), post u → HW D A H0 (Xs ++ ws1 u) H1 locs1 → W p l e R s m args below meth c H1 locs1 cells slots Q (F0 m (pc + 3) ls rest)) : W p l e R s m args below meth c H locs cells slots Q (F0 m pc ls (As.reverse ++ .ref b :: rest)) := by
  refine call_V X hL hC hR hb hw hn hls hrest hd (by rw [hc, hs]; exact hf) ?_
  rw [hc, hs]; exact kk
theorem call_Vi {S : Type} {rf : S → Int} {y : MethodName} {bytes : ByteArray} {maxL n idx b : Nat} {ret : Option FieldType} {rm : Room} {As : List Value} {ws0 Xs : va_W} {post : S → Prop} {ws1 : S → va_W} {C : String}
    (X : CX D tys own cc nL p m c s args) (hL : LkV own idx C y bytes maxL ret n) (hC : Ct l D tys y bytes maxL ret rm (.ref b :: As) ws0 post (fun u => some (.int (iI (rf u)))) ws1) (hR : rm.frames + 1 ≤ R.frames ∧ 8 + (maxL + 11) + rm.locals ≤ R.locals) (hb : Rcv ws0 b C)
    (hw : HW D A H0 (Xs ++ ws0) H locs) (hn : As.length = n) (hls : ls.size = nL) (hrest : (rest.map fun v => v.category).sum ≤ 8) (hd : decode cc pc = .ok (.invokevirtual idx, 3)) (hc : rm.cells = 0) (hs : rm.slots = 0) (hf : cells ≤ R.cells ∧ slots ≤ R.slots)
    (kk : ∀ (u : S) (H1 : Heap) (locs1 : List Loc), post u → HW D A H0 (Xs ++ ws1 u) H1 locs1 → W p l e R s m args below meth c H1 locs1 cells slots Q (F0 m (pc + 3) ls (.int (iI (rf u)) :: rest))) : W p l e R s m args below meth c H locs cells slots Q (F0 m pc ls (As.reverse ++ .ref b :: rest)) := by
  refine call_V X hL hC hR hb hw hn hls hrest hd (by rw [hc, hs]; exact hf) ?_
  rw [hc, hs]; exact kk
theorem call_Vj {S : Type} {rf : S → Int} {y : MethodName} {bytes : ByteArray} {maxL n idx b : Nat} {ret : Option FieldType} {rm : Room} {As : List Value} {ws0 Xs : va_W} {post : S → Prop} {ws1 : S → va_W} {C : String}
    (X : CX D tys own cc nL p m c s args) (hL : LkV own idx C y bytes maxL ret n) (hC : Ct l D tys y bytes maxL ret rm (.ref b :: As) ws0 post (fun u => some (.long (jI (rf u)))) ws1) (hR : rm.frames + 1 ≤ R.frames ∧ 8 + (maxL + 11) + rm.locals ≤ R.locals) (hb : Rcv ws0 b C)
    (hw : HW D A H0 (Xs ++ ws0) H locs) (hn : As.length = n) (hls : ls.size = nL) (hrest : (rest.map fun v => v.category).sum ≤ 8) (hd : decode cc pc = .ok (.invokevirtual idx, 3)) (hc : rm.cells = 0) (hs : rm.slots = 0) (hf : cells ≤ R.cells ∧ slots ≤ R.slots)
    (kk : ∀ (u : S) (H1 : Heap) (locs1 : List Loc), post u → HW D A H0 (Xs ++ ws1 u) H1 locs1 → W p l e R s m args below meth c H1 locs1 cells slots Q (F0 m (pc + 3) ls (.long (jI (rf u)) :: rest))) : W p l e R s m args below meth c H locs cells slots Q (F0 m pc ls (As.reverse ++ .ref b :: rest)) := by
  refine call_V X hL hC hR hb hw hn hls hrest hd (by rw [hc, hs]; exact hf) ?_
  rw [hc, hs]; exact kk
theorem call_Vr {S : Type} {rf : S → Nat} {y : MethodName} {bytes : ByteArray} {maxL n idx b : Nat} {ret : Option FieldType} {rm : Room} {As : List Value} {ws0 Xs : va_W} {post : S → Prop} {ws1 : S → va_W} {C : String}
    (X : CX D tys own cc nL p m c s args) (hL : LkV own idx C y bytes maxL ret n) (hC : Ct l D tys y bytes maxL ret rm (.ref b :: As) ws0 post (fun u => some (.ref (rf u))) ws1) (hR : rm.frames + 1 ≤ R.frames ∧ 8 + (maxL + 11) + rm.locals ≤ R.locals) (hb : Rcv ws0 b C)
    (hw : HW D A H0 (Xs ++ ws0) H locs) (hn : As.length = n) (hls : ls.size = nL) (hrest : (rest.map fun v => v.category).sum ≤ 8) (hd : decode cc pc = .ok (.invokevirtual idx, 3)) (hc : rm.cells = 0) (hs : rm.slots = 0) (hf : cells ≤ R.cells ∧ slots ≤ R.slots)
    (kk : ∀ (u : S) (H1 : Heap) (locs1 : List Loc), post u → HW D A H0 (Xs ++ ws1 u) H1 locs1 → W p l e R s m args below meth c H1 locs1 cells slots Q (F0 m (pc + 3) ls (.ref (rf u) :: rest))) : W p l e R s m args below meth c H locs cells slots Q (F0 m pc ls (As.reverse ++ .ref b :: rest)) := by
  refine call_V X hL hC hR hb hw hn hls hrest hd (by rw [hc, hs]; exact hf) ?_
  rw [hc, hs]; exact kk
theorem call_Si {S : Type} {rf : S → Int} {y : MethodName} {bytes : ByteArray} {maxL n idx : Nat} {ret : Option FieldType} {rm : Room} {As : List Value} {ws0 Xs : va_W} {post : S → Prop} {ws1 : S → va_W}
    (X : CX D tys own cc nL p m c s args) (hL : LkS own idx y bytes maxL ret n) (hC : Ct l D tys y bytes maxL ret rm As ws0 post (fun u => some (.int (iI (rf u)))) ws1) (hR : rm.frames + 1 ≤ R.frames ∧ 8 + (maxL + 11) + rm.locals ≤ R.locals)
    (hw : HW D A H0 (Xs ++ ws0) H locs) (hn : As.length = n) (hls : ls.size = nL) (hrest : (rest.map fun v => v.category).sum ≤ 8) (hd : decode cc pc = .ok (.invokestatic idx, 3)) (hc : rm.cells = 0) (hs : rm.slots = 0) (hf : cells ≤ R.cells ∧ slots ≤ R.slots)
    (kk : ∀ (u : S) (H1 : Heap) (locs1 : List Loc), post u → HW D A H0 (Xs ++ ws1 u) H1 locs1 → W p l e R s m args below meth c H1 locs1 cells slots Q (F0 m (pc + 3) ls (.int (iI (rf u)) :: rest))) : W p l e R s m args below meth c H locs cells slots Q (F0 m pc ls (As.reverse ++ rest)) := by
  refine call_S X hL hC hR hw hn hls hrest hd (by rw [hc, hs]; exact hf) ?_
  rw [hc, hs]; exact kk
theorem call_Sj {S : Type} {rf : S → Int} {y : MethodName} {bytes : ByteArray} {maxL n idx : Nat} {ret : Option FieldType} {rm : Room} {As : List Value} {ws0 Xs : va_W} {post : S → Prop} {ws1 : S → va_W}
    (X : CX D tys own cc nL p m c s args) (hL : LkS own idx y bytes maxL ret n) (hC : Ct l D tys y bytes maxL ret rm As ws0 post (fun u => some (.long (jI (rf u)))) ws1) (hR : rm.frames + 1 ≤ R.frames ∧ 8 + (maxL + 11) + rm.locals ≤ R.locals)
    (hw : HW D A H0 (Xs ++ ws0) H locs) (hn : As.length = n) (hls : ls.size = nL) (hrest : (rest.map fun v => v.category).sum ≤ 8) (hd : decode cc pc = .ok (.invokestatic idx, 3)) (hc : rm.cells = 0) (hs : rm.slots = 0) (hf : cells ≤ R.cells ∧ slots ≤ R.slots)
    (kk : ∀ (u : S) (H1 : Heap) (locs1 : List Loc), post u → HW D A H0 (Xs ++ ws1 u) H1 locs1 → W p l e R s m args below meth c H1 locs1 cells slots Q (F0 m (pc + 3) ls (.long (jI (rf u)) :: rest))) : W p l e R s m args below meth c H locs cells slots Q (F0 m pc ls (As.reverse ++ rest)) := by
  refine call_S X hL hC hR hw hn hls hrest hd (by rw [hc, hs]; exact hf) ?_
  rw [hc, hs]; exact kk
/-! the reference's own world: one object, eight arrays of ints -/
def up1 (f : Nat → Int) (k : Nat) (x : Int) : Nat → Int := fun j => if j = k then x else f j
def up2 (M : Nat → Nat → Int) (a k : Nat) (x : Int) : Nat → Nat → Int := fun b => if b = a then up1 (M a) k x else M b
theorem up1_s (f : Nat → Int) (k : Nat) (x : Int) : up1 f k x k = x := by simp [up1]
theorem up1_n {f : Nat → Int} {k j : Nat} (x : Int) (h : j ≠ k) : up1 f k x j = f j := by simp [up1, h]
theorem up2_s (M : Nat → Nat → Int) (a k : Nat) (x : Int) : up2 M a k x a k = x := by simp [up2, up1]
theorem up2_a (M : Nat → Nat → Int) (a k : Nat) (x : Int) : up2 M a k x a = up1 (M a) k x := by simp [up2]
theorem up2_n {M : Nat → Nat → Int} {a b k : Nat} (x : Int) (h : b ≠ a) : up2 M a k x b = M b := by simp [up2, h]
def tyL (cs : Nat → ClassId) : List (ClassId × FieldType) := [(cs 0, .int), (cs 1, .long), (cs 2, .object R_B), (cs 3, .object R_O), (cs 4, .object R_Q)]
def ar (c : ClassId) (n : Nat) (f : Nat → Int) : va_E := .inl (c, n, .inl (fun k => iI (f k)))
def szM (j : Nat) : Nat := match j with
  | 1 => 13200 | 2 => 120 | 3 => 120 | 4 => 224 | 5 => 224 | 6 => 4 | 7 => 3 | 8 => 12 | _ => 0
def oM (ad : Nat → Nat) (M : Nat → Nat → Int) : List Value := [.ref (ad 1), .ref (ad 2), .ref (ad 3), .ref (ad 4), .ref (ad 5), .int (iI (M 0 0)), .int (iI (M 0 1)), .int (iI (M 0 2)), .ref (ad 6), .ref (ad 7), .ref (ad 8)]
def wM (ad : Nat → Nat) (cs : Nat → ClassId) (M : Nat → Nat → Int) : va_W :=
  [(ad 0, .inr (5, oM ad M)), (ad 1, ar (cs 0) 13200 (M 1)), (ad 2, ar (cs 0) 120 (M 2)), (ad 3, ar (cs 0) 120 (M 3)), (ad 4, ar (cs 0) 224 (M 4)), (ad 5, ar (cs 0) 224 (M 5)), (ad 6, ar (cs 0) 4 (M 6)), (ad 7, ar (cs 0) 3 (M 7)), (ad 8, ar (cs 0) 12 (M 8))]
theorem ar_set (c : ClassId) (n : Nat) (f : Nat → Int) (i : Nat) (x : Int) : (.inl (c, n, .inl (upd (fun k => iI (f k)) i (iI x))) : va_E) = ar c n (up1 f i x) := by
  unfold ar
  congr 4
  funext k
  by_cases h : k = i <;> simp [upd, up1, h]
theorem wM_set {ad : Nat → Nat} {cs : Nat → ClassId} {M : Nat → Nat → Int} (j i : Nat) (x : Int) (h1 : 1 ≤ j) (h2 : j < 9) : (wM ad cs M).set j (ad j, ar (cs 0) (szM j) (up1 (M j) i x)) = wM ad cs (up2 M j i x) := by
  have : j = 1 ∨ j = 2 ∨ j = 3 ∨ j = 4 ∨ j = 5 ∨ j = 6 ∨ j = 7 ∨ j = 8 := by omega
  rcases this with h | h | h | h | h | h | h | h <;> subst h <;> simp [wM, oM, up2, szM]
theorem wM_at {ad : Nat → Nat} {cs : Nat → ClassId} {M : Nat → Nat → Int} (j : Nat) (h1 : 1 ≤ j) (h2 : j < 9) : (wM ad cs M)[j]? = some (ad j, ar (cs 0) (szM j) (M j)) := by
  have : j = 1 ∨ j = 2 ∨ j = 3 ∨ j = 4 ∨ j = 5 ∨ j = 6 ∨ j = 7 ∨ j = 8 := by omega
  rcases this with h | h | h | h | h | h | h | h <;> subst h <;> rfl
theorem rcv_M {ad : Nat → Nat} {cs : Nat → ClassId} {M : Nat → Nat → Int} : Rcv (wM ad cs M) (ad 0) R_M := ⟨0, 5, _, _, _, rfl, rfl⟩
theorem m_ald {ad : Nat → Nat} {cs : Nat → ClassId} {M : Nat → Nat → Int} {i : Int} (X : CX D (tyL cs) own cc nL p m c s args) (hw : HW D A H0 (wM ad cs M) H locs) (j k : Nat) (h1 : 1 ≤ j ∧ j < 9) (hi : i = (k : Int)) (hk : k < szM j) (v : Int) (hv : M j k = v) (hd : decode cc pc = .ok (.iaload, 1))
    (kk : W p l e R s m args below meth c H locs cells slots Q (F0 m (pc + 1) ls (.int (iI v) :: rest))) : W p l e R s m args below meth c H locs cells slots Q (F0 m pc ls (.int (iI i) :: .ref (ad j) :: rest)) := by
  have hs : szM j ≤ 13200 := by unfold szM; split <;> decide
  subst hi
  subst hv
  refine va_iald X.1.1 X.1.2.1 X.2 hw.1 j 0 (wM_at j h1.1 h1.2) rfl (iI_in (Int.natCast_nonneg k) (by omega) (by omega)) hd ?_
  rw [iI_cl (Int.natCast_nonneg k) (by omega), Int.toNat_natCast]
  exact kk
theorem m_ast {ad : Nat → Nat} {cs : Nat → ClassId} {M : Nat → Nat → Int} {i x : Int} (X : CX D (tyL cs) own cc nL p m c s args) (hw : HW D A H0 (wM ad cs M) H locs) (j k : Nat) (h1 : 1 ≤ j ∧ j < 9) (hi : i = (k : Int)) (hk : k < szM j) (hd : decode cc pc = .ok (.iastore, 1))
    (kk : ∀ (H1 : Heap) (locs1 : List Loc), HW D A H0 (wM ad cs (up2 M j k x)) H1 locs1 → W p l e R s m args below meth c H1 locs1 cells slots Q (F0 m (pc + 1) ls rest)) : W p l e R s m args below meth c H locs cells slots Q (F0 m pc ls (.int (iI x) :: .int (iI i) :: .ref (ad j) :: rest)) := by
  have hs : szM j ≤ 13200 := by unfold szM; split <;> decide
  subst hi
  refine va_iast X.1.1 X.1.2.1 X.2 hw.1 hw.2.1 hw.2.2.1 j 0 (wM_at j h1.1 h1.2) rfl (iI_in (Int.natCast_nonneg k) (by omega) (by omega)) hd (fun H1 locs1 hP hD hS => ?_)
  rw [iI_cl (Int.natCast_nonneg k) (by omega), Int.toNat_natCast, ar_set, wM_set j k x h1.1 h1.2] at hP hD
  exact kk H1 locs1 ⟨hP, hD, hS, hw.2.2.2⟩
theorem m_put {ad : Nat → Nat} {cs : Nat → ClassId} {M : Nat → Nat → Int} {x : Int} {idx : Nat} (X : CX D (tyL cs) R_M cc nL p m c s args) (hw : HW D A H0 (wM ad cs M) H locs) (k : Nat) (hk : k < 2) (hl : Cond.fieldLink R_M idx (F_M (k + 5)).1 (F_M (k + 5)).2.1 (F_M (k + 5)).2.2.1 ∈ TT) (hd : decode cc pc = .ok (.putfield idx, 3))
    (kk : ∀ (H1 : Heap) (locs1 : List Loc), HW D A H0 (wM ad cs (up2 M 0 k x)) H1 locs1 → W p l e R s m args below meth c H1 locs1 cells slots Q (F0 m (pc + 3) ls rest)) : W p l e R s m args below meth c H locs cells slots Q (F0 m pc ls (.int (iI x) :: .ref (ad 0) :: rest)) := by
  refine va_put (ty := .int) X.1.1 X.1.2.1 X.1.2.2.2.2 (C := R_M) (T := F_M) (N := 11) (ci := 5) (fun w hw => ?_) t_M t_M_ok n_M X.1.2.2.2.1 X.2 hw.1 hw.2.1 hw.2.2.1 0 (fs := oM ad M) rfl rfl (k + 5) (by omega) (X.1.2.2.2.2 _ hl) (fun _ h9 => h9) ?_ ?_ rfl rfl ?_ hd (fun H1 locs1 hP hD hS => ?_)
  · have : ∀ w ∈ u_ws R_M F_M 11, goodWord w = true := by decide +kernel
    exact tt_of (i_M w hw) (this w hw)
  · have : k = 0 ∨ k = 1 := by omega
    rcases this with h | h <;> subst h <;> rfl
  · have : k = 0 ∨ k = 1 := by omega
    rcases this with h | h <;> subst h <;> decide +kernel
  · show k + 5 < 11
    omega
  · have e : (wM ad cs M).set 0 (ad 0, .inr (5, (oM ad M).set (k + 5) (.int (iI x)))) = wM ad cs (up2 M 0 k x) := by
      have : k = 0 ∨ k = 1 := by omega
      rcases this with h | h <;> subst h <;> simp [wM, oM, up2, up1]
    rw [e] at hP hD
    exact kk H1 locs1 ⟨hP, hD, hS, hw.2.2.2⟩
theorem m_putz {ad : Nat → Nat} {cs : Nat → ClassId} {M : Nat → Nat → Int} {x : Int} {idx : Nat} (X : CX D (tyL cs) R_M cc nL p m c s args) (hw : HW D A H0 (wM ad cs M) H locs) (hx : x = 0 ∨ x = 1) (hl : Cond.fieldLink R_M idx (F_M 7).1 (F_M 7).2.1 (F_M 7).2.2.1 ∈ TT) (hd : decode cc pc = .ok (.putfield idx, 3))
    (kk : ∀ (H1 : Heap) (locs1 : List Loc), HW D A H0 (wM ad cs (up2 M 0 2 x)) H1 locs1 → W p l e R s m args below meth c H1 locs1 cells slots Q (F0 m (pc + 3) ls rest)) : W p l e R s m args below meth c H locs cells slots Q (F0 m pc ls (.int (iI x) :: .ref (ad 0) :: rest)) := by
  refine va_put (ty := .boolean) X.1.1 X.1.2.1 X.1.2.2.2.2 (C := R_M) (T := F_M) (N := 11) (ci := 5) (fun w hw => ?_) t_M t_M_ok n_M X.1.2.2.2.1 X.2 hw.1 hw.2.1 hw.2.2.1 0 (fs := oM ad M) rfl rfl 7 (by omega) (X.1.2.2.2.2 _ hl) (fun _ h9 => h9) rfl (by decide +kernel) ?_ ?_ (by show 7 < 11; omega) hd (fun H1 locs1 hP hD hS => ?_)
  · have : ∀ w ∈ u_ws R_M F_M 11, goodWord w = true := by decide +kernel
    exact tt_of (i_M w hw) (this w hw)
  · rcases hx with h | h <;> subst h <;> rfl
  · rcases hx with h | h <;> subst h <;> rfl
  · have e : (wM ad cs M).set 0 (ad 0, .inr (5, (oM ad M).set 7 (.int (iI x)))) = wM ad cs (up2 M 0 2 x) := by
      simp [wM, oM, up2, up1]
    rw [e] at hP hD
    exact kk H1 locs1 ⟨hP, hD, hS, hw.2.2.2⟩
theorem ig_M : ∀ w ∈ u_ws R_M F_M 11, w ∈ TT := fun w hw => by
  have : ∀ w ∈ u_ws R_M F_M 11, goodWord w = true := by decide +kernel
  exact tt_of (i_M w hw) (this w hw)
theorem m_get {ad : Nat → Nat} {cs : Nat → ClassId} {M : Nat → Nat → Int} {v : Value} {idx : Nat} (X : CX D (tyL cs) R_M cc nL p m c s args) (hw : HW D A H0 (wM ad cs M) H locs) (k : Nat) (hk : k < 11) (hv : (oM ad M)[k]? = some v) (hl : Cond.fieldLink R_M idx (F_M k).1 (F_M k).2.1 (F_M k).2.2.1 ∈ TT) (hd : decode cc pc = .ok (.getfield idx, 3))
    (kk : W p l e R s m args below meth c H locs cells slots Q (F0 m (pc + 3) ls (v :: rest))) : W p l e R s m args below meth c H locs cells slots Q (F0 m pc ls (.ref (ad 0) :: rest)) :=
  sy_get (q0 := 0) (ci := 5) X hw rfl rfl ig_M hk hl hv hd kk
end Cl
end
section
theorem Ct.introV {S : Type} {l : Launch} {D : va_G} {tys : List (ClassId × FieldType)} {y : MethodName} {bytes : ByteArray} {maxL : Nat} {rm : Room} {As : List Value} {ws0 : va_W} {post : S → Prop} {rv : S → Option Value} {ws1 : S → va_W}
    (hy : plainName y.cls = true) (hlen : (lg_sl As).length ≤ maxL) (hv : ∀ u, rv u = none)
    (body : ∀ (p : Program) (e : Env) (s : State) (m : MethodId) (below : List Frame) (meth : Method) (c : Code) (A : Nat → Prop) (args : Array Value) (Q : State → Prop) (H : Heap) (locs : List Loc), CX D tys y.cls bytes maxL p m c s args → meth.name = y.name → HW D A s.heap ws0 H locs →
      (∀ (u : S) (H : Heap) (locs : List Loc) (pc : Nat) (ls : Array Slot), decode bytes pc = .ok (.return_, 1) → HW D A s.heap (ws1 u) H locs → post u → W p l e rm s m args below meth c H locs rm.cells rm.slots Q (F0 m pc ls [])) → ∀ ls : Array Slot, lv_has ls maxL (lv_args 0 As) →
      W p l e rm s m args below meth c H locs 0 0 Q (F0 m 0 ls [])) :
    Ct l D tys y bytes maxL none rm As ws0 post rv ws1 := by
  refine Ct.intro hy hlen ?_
  intro p e s m below meth c X hr hlk hnm hw ls hl
  exact body p e s m below meth c _ _ _ _ _ X hnm hw (fun u H locs pc ls hd hw hp => ret_v X u hr hlk hd hw hp (hv u)) ls hl
theorem Ct.introI {S : Type} {l : Launch} {D : va_G} {tys : List (ClassId × FieldType)} {y : MethodName} {bytes : ByteArray} {maxL : Nat} {rm : Room} {As : List Value} {ws0 : va_W} {post : S → Prop} {rv : S → Option Value} {ws1 : S → va_W}
    (hy : plainName y.cls = true) (hlen : (lg_sl As).length ≤ maxL) 
    (body : ∀ (p : Program) (e : Env) (s : State) (m : MethodId) (below : List Frame) (meth : Method) (c : Code) (A : Nat → Prop) (args : Array Value) (Q : State → Prop) (H : Heap) (locs : List Loc), CX D tys y.cls bytes maxL p m c s args → meth.name = y.name → HW D A s.heap ws0 H locs →
      (∀ (u : S) (H : Heap) (locs : List Loc) (pc : Nat) (ls : Array Slot) (v : Int32), decode bytes pc = .ok (.ireturn, 1) → HW D A s.heap (ws1 u) H locs → post u → rv u = some (.int v) → W p l e rm s m args below meth c H locs rm.cells rm.slots Q (F0 m pc ls [.int v])) → ∀ ls : Array Slot, lv_has ls maxL (lv_args 0 As) →
      W p l e rm s m args below meth c H locs 0 0 Q (F0 m 0 ls [])) :
    Ct l D tys y bytes maxL (some .int) rm As ws0 post rv ws1 := by
  refine Ct.intro hy hlen ?_
  intro p e s m below meth c X hr hlk hnm hw ls hl
  exact body p e s m below meth c _ _ _ _ _ X hnm hw (fun u H locs pc ls v hd hw hp hv => ret_i X u hr hlk hd hw hp hv) ls hl
theorem Ct.introZ {S : Type} {l : Launch} {D : va_G} {tys : List (ClassId × FieldType)} {y : MethodName} {bytes : ByteArray} {maxL : Nat} {rm : Room} {As : List Value} {ws0 : va_W} {post : S → Prop} {rv : S → Option Value} {ws1 : S → va_W}
    (hy : plainName y.cls = true) (hlen : (lg_sl As).length ≤ maxL) 
    (body : ∀ (p : Program) (e : Env) (s : State) (m : MethodId) (below : List Frame) (meth : Method) (c : Code) (A : Nat → Prop) (args : Array Value) (Q : State → Prop) (H : Heap) (locs : List Loc), CX D tys y.cls bytes maxL p m c s args → meth.name = y.name → HW D A s.heap ws0 H locs →
      (∀ (u : S) (H : Heap) (locs : List Loc) (pc : Nat) (ls : Array Slot) (v : Int32), decode bytes pc = .ok (.ireturn, 1) → HW D A s.heap (ws1 u) H locs → post u → rv u = some (.int v) → narrow .boolean (.int v) = .int v → W p l e rm s m args below meth c H locs rm.cells rm.slots Q (F0 m pc ls [.int v])) → ∀ ls : Array Slot, lv_has ls maxL (lv_args 0 As) →
      W p l e rm s m args below meth c H locs 0 0 Q (F0 m 0 ls [])) :
    Ct l D tys y bytes maxL (some .boolean) rm As ws0 post rv ws1 := by
  refine Ct.intro hy hlen ?_
  intro p e s m below meth c X hr hlk hnm hw ls hl
  exact body p e s m below meth c _ _ _ _ _ X hnm hw (fun u H locs pc ls v hd hw hp hv hz => ret_z X u hz hr hlk hd hw hp hv) ls hl
theorem Ct.introJ {S : Type} {l : Launch} {D : va_G} {tys : List (ClassId × FieldType)} {y : MethodName} {bytes : ByteArray} {maxL : Nat} {rm : Room} {As : List Value} {ws0 : va_W} {post : S → Prop} {rv : S → Option Value} {ws1 : S → va_W}
    (hy : plainName y.cls = true) (hlen : (lg_sl As).length ≤ maxL) 
    (body : ∀ (p : Program) (e : Env) (s : State) (m : MethodId) (below : List Frame) (meth : Method) (c : Code) (A : Nat → Prop) (args : Array Value) (Q : State → Prop) (H : Heap) (locs : List Loc), CX D tys y.cls bytes maxL p m c s args → meth.name = y.name → HW D A s.heap ws0 H locs →
      (∀ (u : S) (H : Heap) (locs : List Loc) (pc : Nat) (ls : Array Slot) (v : Int64), decode bytes pc = .ok (.lreturn, 1) → HW D A s.heap (ws1 u) H locs → post u → rv u = some (.long v) → W p l e rm s m args below meth c H locs rm.cells rm.slots Q (F0 m pc ls [.long v])) → ∀ ls : Array Slot, lv_has ls maxL (lv_args 0 As) →
      W p l e rm s m args below meth c H locs 0 0 Q (F0 m 0 ls [])) :
    Ct l D tys y bytes maxL (some .long) rm As ws0 post rv ws1 := by
  refine Ct.intro hy hlen ?_
  intro p e s m below meth c X hr hlk hnm hw ls hl
  exact body p e s m below meth c _ _ _ _ _ X hnm hw (fun u H locs pc ls v hd hw hp hv => ret_j X u hr hlk hd hw hp hv) ls hl
theorem Ct.introA {S : Type} {l : Launch} {D : va_G} {tys : List (ClassId × FieldType)} {y : MethodName} {bytes : ByteArray} {maxL : Nat} {C : String} {rm : Room} {As : List Value} {ws0 : va_W} {post : S → Prop} {rv : S → Option Value} {ws1 : S → va_W}
    (hy : plainName y.cls = true) (hlen : (lg_sl As).length ≤ maxL) 
    (body : ∀ (p : Program) (e : Env) (s : State) (m : MethodId) (below : List Frame) (meth : Method) (c : Code) (A : Nat → Prop) (args : Array Value) (Q : State → Prop) (H : Heap) (locs : List Loc), CX D tys y.cls bytes maxL p m c s args → meth.name = y.name → HW D A s.heap ws0 H locs →
      (∀ (u : S) (H : Heap) (locs : List Loc) (pc : Nat) (ls : Array Slot) (v : Nat), decode bytes pc = .ok (.areturn, 1) → HW D A s.heap (ws1 u) H locs → post u → rv u = some (.ref v) → W p l e rm s m args below meth c H locs rm.cells rm.slots Q (F0 m pc ls [.ref v])) → ∀ ls : Array Slot, lv_has ls maxL (lv_args 0 As) →
      W p l e rm s m args below meth c H locs 0 0 Q (F0 m 0 ls [])) :
    Ct l D tys y bytes maxL (some (.object C)) rm As ws0 post rv ws1 := by
  refine Ct.intro hy hlen ?_
  intro p e s m below meth c X hr hlk hnm hw ls hl
  exact body p e s m below meth c _ _ _ _ _ X hnm hw (fun u H locs pc ls v hd hw hp hv => ret_a X u hr hlk hd hw hp hv) ls hl
section Tp
variable {p : Program} {l : Launch} {e : Env} {R : Room} {s : State} {m : MethodId} {args : Array Value} {below : List Frame} {meth : Method} {c : Code} {H : Heap} {locs : List Loc} {cells slots : Nat} {Q : State → Prop} {pc : Nat} {ls : Array Slot} {rest : List Value}
theorem W_topi {a b : Int} (h : a = b) (k : W p l e R s m args below meth c H locs cells slots Q (F0 m pc ls (.int (iI a) :: rest))) : W p l e R s m args below meth c H locs cells slots Q (F0 m pc ls (.int (iI b) :: rest)) := h ▸ k
theorem W_topl {a b : Int} (h : a = b) (k : W p l e R s m args below meth c H locs cells slots Q (F0 m pc ls (.long (jI a) :: rest))) : W p l e R s m args below meth c H locs cells slots Q (F0 m pc ls (.long (jI b) :: rest)) := h ▸ k
theorem W_topr {a b : Nat} (h : a = b) (k : W p l e R s m args below meth c H locs cells slots Q (F0 m pc ls (.ref a :: rest))) : W p l e R s m args below meth c H locs cells slots Q (F0 m pc ls (.ref b :: rest)) := h ▸ k
end Tp
end
section
abbrev rm (n : Nat) : Room := { frames := n, cells := 0, slots := 0, locals := 32 * n }
/-- a digit of a number, 0 behind its end -/
def dgt (M : Nat → Nat → Int) (x k : Nat) : Int := if (k : Int) < M 2 x then M 1 (110 * x + k) else 0
def Wf (M : Nat → Nat → Int) : Prop := ∀ z, z < 120 → 0 ≤ M 2 z ∧ M 2 z ≤ 110
set_option maxRecDepth 100000 in
set_option maxHeartbeats 4000000 in
theorem c_M_digitOf (l : Launch) (D : va_G) (cs : Nat → ClassId) (ad : Nat → Nat) (M : Nat → Nat → Int) (x k : Nat) (hx : x < 120) (hk : k < 2147483648) (hW : Wf M) : Ct (S := Unit) l D (tyL cs) y_M_digitOf b_M_digitOf 3 (some .int) (rm 1) [.ref (ad 0), .int (iI ((x : Nat) : Int)), .int (iI ((k : Nat) : Int))] (wM ad cs M) (fun _ => True) (fun _ => some (.int (iI (dgt M x k)))) (fun _ => wM ad cs M) := by
  refine Ct.introI (by decide) (Nat.le_of_ble_eq_true rfl) ?_
  intro p e s m below meth c A args Q H locs X hnm hw kr ls hl
  have X : CX D (tyL cs) R_M b_M_digitOf 3 p m c s args := X
  have hl : lv_has ls 3 [(0, .ref (ad 0)), (1, .int (iI ((x : Nat) : Int))), (2, .int (iI ((k : Nat) : Int)))] := hl
  have hu := hW x hx
  refine sy_iload_n X d_M_digitOf_0 hl 2 rfl ?_
  refine sy_aload_n X d_M_digitOf_1 hl 0 rfl ?_
  refine m_get X hw 1 (by decide) rfl (tt_of k510 rfl) d_M_digitOf_2 ?_
  refine sy_iload_n X d_M_digitOf_5 hl 1 rfl ?_
  refine m_ald X hw 2 x (by decide) (by omega) (by simp only [szM]; omega) (M 2 x) rfl d_M_digitOf_6 ?_
  refine sy_icmp_ge (tgt := 24) X d_M_digitOf_7 (by decide) ⟨by omega, by omega⟩ ⟨by omega, by omega⟩ (fun c1 => ?_) (fun c1 => ?_)
  · refine sy_iconst X d_M_digitOf_24 ?_
    exact kr () _ _ _ _ _ d_M_digitOf_25 hw trivial (by simp only [dgt]; split <;> first | rfl | (exfalso; omega))
  · refine sy_aload_n X d_M_digitOf_10 hl 0 rfl ?_
    refine m_get X hw 0 (by decide) rfl (tt_of k509 rfl) d_M_digitOf_11 ?_
    refine sy_bipush X d_M_digitOf_14 (by decide) ?_
    refine sy_iload_n X d_M_digitOf_16 hl 1 rfl ?_
    refine sy_imul X d_M_digitOf_17 ?_
    refine sy_iload_n X d_M_digitOf_18 hl 2 rfl ?_
    refine sy_iadd X d_M_digitOf_19 ?_
    refine m_ald X hw 1 ((110 * x) + k) (by decide) (by omega) (by simp only [szM]; omega) (M 1 ((110 * x) + k)) rfl d_M_digitOf_20 ?_
    refine sy_goto (tgt := 25) X d_M_digitOf_21 (by decide) ?_
    exact kr () _ _ _ _ _ d_M_digitOf_25 hw trivial (by simp only [dgt]; split <;> first | rfl | (exfalso; omega))
end
section
/-! numbers by their digits -/
def upA (M : Nat → Nat → Int) (a : Nat) (f : Nat → Int) : Nat → Nat → Int := fun b => if b = a then f else M b
theorem upA_s (M : Nat → Nat → Int) (a : Nat) (f : Nat → Int) : upA M a f a = f := by simp [upA]
theorem upA_n {M : Nat → Nat → Int} {a b : Nat} (f : Nat → Int) (h : b ≠ a) : upA M a f b = M b := by simp [upA, h]
theorem upA_self (M : Nat → Nat → Int) (a : Nat) : upA M a (M a) = M := by
  funext b; by_cases h : b = a <;> simp [upA, h]
theorem up2_upA (M : Nat → Nat → Int) (a : Nat) (f : Nat → Int) (k : Nat) (x : Int) : up2 (upA M a f) a k x = upA M a (up1 f k x) := by
  funext b; by_cases h : b = a <;> simp [upA, up2, h]
theorem up2_A (M : Nat → Nat → Int) (a k : Nat) (x : Int) : up2 M a k x = upA M a (up1 (M a) k x) := by
  funext b; by_cases h : b = a <;> simp [upA, up2, h]
/-- a row with a block of n cells from b on replaced -/
def blk (f : Nat → Int) (b n : Nat) (g : Nat → Int) : Nat → Int := fun j => if b ≤ j ∧ j < b + n then g (j - b) else f j
theorem blk_0 (f : Nat → Int) (b : Nat) (g : Nat → Int) : blk f b 0 g = f := by
  funext j; simp only [blk]; split
  · omega
  · rfl
theorem blk_up (f : Nat → Int) (b n : Nat) (g : Nat → Int) {x : Int} (hx : x = g n) : up1 (blk f b n g) (b + n) x = blk f b (n + 1) g := by
  funext j; simp only [blk, up1]
  by_cases h : j = b + n
  · subst h; rw [if_pos rfl, if_pos (by omega), hx]; congr 1; omega
  · rw [if_neg h]
    by_cases h2 : b ≤ j ∧ j < b + n
    · rw [if_pos h2, if_pos (by omega)]
    · rw [if_neg h2, if_neg (by omega)]
theorem blk_in {f g : Nat → Int} {b n j : Nat} (h : j < n) : blk f b n g (b + j) = g j := by
  simp only [blk]; rw [if_pos (by omega)]; congr 1; omega
theorem blk_out {f g : Nat → Int} {b n j : Nat} (h : j < b ∨ b + n ≤ j) : blk f b n g j = f j := by
  simp only [blk]; rw [if_neg (by omega)]
def vl (f : Nat → Int) : Nat → Int
  | 0 => 0
  | u + 1 => vl f u + f u * 65536 ^ u
def Dg (f : Nat → Int) (u : Nat) : Prop := ∀ k, k < u → 0 ≤ f k ∧ f k < 65536
theorem B_pos (u : Nat) : (0 : Int) < 65536 ^ u := Int.pow_pos (by decide)
theorem B_succ (u : Nat) : (65536 : Int) ^ (u + 1) = 65536 ^ u * 65536 := Int.pow_succ 65536 u
theorem Dg.le {f : Nat → Int} {u v : Nat} (h : Dg f v) (hu : u ≤ v) : Dg f u := fun k hk => h k (by omega)
theorem vl_nonneg {f : Nat → Int} : ∀ {u : Nat}, Dg f u → 0 ≤ vl f u
  | 0, _ => by simp [vl]
  | u + 1, h => by
    have h1 := vl_nonneg (h.le (Nat.le_succ u))
    have h2 := Int.mul_nonneg (h u (Nat.lt_succ_self u)).1 (Int.le_of_lt (B_pos u))
    simp only [vl]; omega
theorem vl_lt {f : Nat → Int} : ∀ {u : Nat}, Dg f u → vl f u < 65536 ^ u
  | 0, _ => by simp [vl]
  | u + 1, h => by
    have h1 := vl_lt (h.le (Nat.le_succ u))
    have h2 := (h u (Nat.lt_succ_self u)).2
    have h3 : f u * 65536 ^ u ≤ 65535 * 65536 ^ u := Int.mul_le_mul_of_nonneg_right (by omega) (Int.le_of_lt (B_pos u))
    simp only [vl, B_succ]; omega
theorem vl_congr {f g : Nat → Int} : ∀ {u : Nat}, (∀ k, k < u → f k = g k) → vl f u = vl g u
  | 0, _ => rfl
  | u + 1, h => by simp only [vl, vl_congr (u := u) (fun k hk => h k (by omega)), h u (Nat.lt_succ_self u)]
theorem vl_zero {f : Nat → Int} {u : Nat} : ∀ {n : Nat}, u ≤ n → (∀ k, u ≤ k → k < n → f k = 0) → vl f n = vl f u
  | 0, h, _ => by rw [show u = 0 by omega]
  | n + 1, h, hz => by
    by_cases e : u = n + 1
    · rw [e]
    · simp only [vl]; rw [vl_zero (u := u) (n := n) (by omega) (fun k h1 h2 => hz k h1 (by omega)), hz n (by omega) (by omega)]; omega
theorem vl_top {f : Nat → Int} {u : Nat} (h : Dg f (u + 1)) (ht : f u ≠ 0) : 65536 ^ u ≤ vl f (u + 1) := by
  have h1 := vl_nonneg (h.le (Nat.le_succ u))
  have h2 := (h u (Nat.lt_succ_self u)).1
  have h3 : 1 * 65536 ^ u ≤ f u * 65536 ^ u := Int.mul_le_mul_of_nonneg_right (by omega) (Int.le_of_lt (B_pos u))
  simp only [vl]; omega
theorem vl_shift {f : Nat → Int} : ∀ (u : Nat), vl f (u + 1) = f 0 + 65536 * vl (fun k => f (k + 1)) u
  | 0 => by simp [vl]
  | u + 1 => by
    have h := vl_shift (f := f) u
    have e : vl f (u + 1 + 1) = vl f (u + 1) + f (u + 1) * 65536 ^ (u + 1) := rfl
    have e2 : vl (fun k => f (k + 1)) (u + 1) = vl (fun k => f (k + 1)) u + f (u + 1) * 65536 ^ u := rfl
    rw [e, h, e2, B_succ, Int.mul_add, ← Int.mul_assoc, Int.mul_comm 65536 (f (u + 1) * 65536 ^ u), Int.mul_assoc (f (u+1))]
    omega
/-- digit k of a number -/
theorem vl_dig {f : Nat → Int} {u k : Nat} (h : Dg f u) (hk : k < u) : vl f u / 65536 ^ k % 65536 = f k := by
  induction k generalizing f u with
  | zero =>
    obtain ⟨u, rfl⟩ : ∃ v, u = v + 1 := ⟨u - 1, by omega⟩
    rw [vl_shift]
    have := h 0 (by omega)
    simp only [Int.pow_zero, Int.ediv_one]
    omega
  | succ k ih =>
    obtain ⟨u, rfl⟩ : ∃ v, u = v + 1 := ⟨u - 1, by omega⟩
    rw [vl_shift, B_succ, Int.mul_comm (65536 ^ k), ← Int.ediv_ediv_of_nonneg (by decide)]
    have h0 := h 0 (by omega)
    rw [show (f 0 + 65536 * vl (fun k => f (k + 1)) u) / 65536 = vl (fun k => f (k + 1)) u by omega]
    exact ih (f := fun k => f (k + 1)) (fun j hj => h (j + 1) (by omega)) (by omega)
/-- the number in place z is n -/
def Rp (M : Nat → Nat → Int) (z : Nat) (n : Int) : Prop := ∃ u : Nat, M 2 z = (u : Int) ∧ u ≤ 110 ∧ Dg (fun k => M 1 (110 * z + k)) u ∧ vl (fun k => M 1 (110 * z + k)) u = (n.natAbs : Int) ∧ (u = 0 ∨ M 1 (110 * z + (u - 1)) ≠ 0) ∧ M 3 z = n.sign
def Rep (M : Nat → Nat → Int) (n : Nat → Int) : Prop := ∀ z, z < 120 → Rp M z (n z)
theorem Rep.wf {M : Nat → Nat → Int} {n : Nat → Int} (h : Rep M n) : Wf M := fun z hz => by
  obtain ⟨u, h1, h2, -⟩ := h z hz
  omega
theorem dgt_eq {M : Nat → Nat → Int} {z k u : Nat} (hu : M 2 z = (u : Int)) : dgt M z k = if k < u then M 1 (110 * z + k) else 0 := by
  simp only [dgt, hu]
  by_cases h : k < u
  · rw [if_pos h, if_pos (by omega)]
  · rw [if_neg h, if_neg (by omega)]
/-- the digits of the number in place z, 0 behind its end -/
theorem Rp.dig {M : Nat → Nat → Int} {z : Nat} {n : Int} (h : Rp M z n) : ∃ u : Nat, M 2 z = (u : Int) ∧ u ≤ 110 ∧ (∀ v, Dg (dgt M z) v) ∧ (∀ v, u ≤ v → vl (dgt M z) v = (n.natAbs : Int)) ∧ (n.natAbs : Int) < 65536 ^ u ∧ (u = 0 ∨ 65536 ^ (u - 1) ≤ (n.natAbs : Int)) ∧ M 3 z = n.sign := by
  obtain ⟨u, h1, h2, h3, h4, h5, h6⟩ := h
  have hd : ∀ v, Dg (dgt M z) v := fun v k hk => by
    rw [dgt_eq h1]
    split
    · exact h3 k (by assumption)
    · constructor <;> decide
  have hv : ∀ v, u ≤ v → vl (dgt M z) v = (n.natAbs : Int) := fun v hv => by
    rw [vl_zero hv (fun k hk _ => by rw [dgt_eq h1, if_neg (by omega)]), ← h4]
    exact vl_congr (fun k hk => by rw [dgt_eq h1, if_pos hk])
  refine ⟨u, h1, h2, hd, hv, ?_, ?_, h6⟩
  · rw [← h4]; exact vl_lt h3
  · rcases h5 with h5 | h5
    · exact Or.inl h5
    · by_cases e : u = 0
      · exact Or.inl e
      · right
        obtain ⟨v, rfl⟩ : ∃ v, u = v + 1 := ⟨u - 1, by omega⟩
        rw [← h4]
        exact vl_top h3 h5
theorem B_le {a b : Nat} (h : a ≤ b) : (65536 : Int) ^ a ≤ 65536 ^ b := by
  have : ((65536 ^ a : Nat) : Int) ≤ ((65536 ^ b : Nat) : Int) := Int.ofNat_le.mpr (Nat.pow_le_pow_right (by decide) h)
  simpa using this
theorem B_lt {a b : Nat} (h : (65536 : Int) ^ a < 65536 ^ b) : a < b := by
  rcases Nat.lt_or_ge a b with g | g
  · exact g
  · have := B_le g; omega
end
section
/-! what the reference's methods keep -/
/-- all but digits, lengths, signs and the two work rows -/
def Sm (M M1 : Nat → Nat → Int) : Prop := M1 0 = M 0 ∧ M1 6 = M 6 ∧ M1 7 = M 7 ∧ M1 8 = M 8
theorem Sm.rf (M : Nat → Nat → Int) : Sm M M := ⟨rfl, rfl, rfl, rfl⟩
theorem Sm.tr {M M1 M2 : Nat → Nat → Int} (h : Sm M M1) (g : Sm M1 M2) : Sm M M2 := ⟨g.1.trans h.1, g.2.1.trans h.2.1, g.2.2.1.trans h.2.2.1, g.2.2.2.trans h.2.2.2⟩
theorem Rep.up {M M1 : Nat → Nat → Int} {N : Nat → Int} {z : Nat} {v : Int} (h : Rep M N) (h1 : ∀ j, (j < 110 * z ∨ 110 * z + 110 ≤ j) → M1 1 j = M 1 j) (h2 : ∀ y, y ≠ z → M1 2 y = M 2 y) (h3 : ∀ y, y ≠ z → M1 3 y = M 3 y) (hz : Rp M1 z v) : Rep M1 (up1 N z v) := by
  intro y hy
  by_cases e : y = z
  · subst e; rw [up1_s]; exact hz
  · rw [up1_n _ e]
    obtain ⟨u, g1, g2, g3, g4, g5, g6⟩ := h y hy
    have ag : ∀ k, k < 110 → M1 1 (110 * y + k) = M 1 (110 * y + k) := fun k hk => h1 _ (by omega)
    refine ⟨u, by rw [h2 y e]; exact g1, g2, fun k hk => by show 0 ≤ M1 1 (110 * y + k) ∧ M1 1 (110 * y + k) < 65536; rw [ag k (by omega)]; exact g3 k hk, ?_, ?_, by rw [h3 y e]; exact g6⟩
    · rw [← g4]; exact vl_congr (fun k hk => ag k (by omega))
    · rcases g5 with g5 | g5
      · exact Or.inl g5
      · by_cases e0 : u = 0
        · exact Or.inl e0
        · right; rw [ag _ (by omega)]; exact g5
theorem sgn_neg {v : Int} (h : v < 0) : v.sign = -1 := Int.sign_eq_neg_one_of_neg h
theorem sgn_pos {v : Int} (h : 0 < v) : v.sign = 1 := Int.sign_eq_one_of_pos h
theorem sgn_0 {v : Int} (h : v = 0) : v.sign = 0 := by rw [h]; rfl
theorem vl_of {V : Int} (h : 0 ≤ V) : ∀ u : Nat, vl (fun k => V / 65536 ^ k % 65536) u = V % 65536 ^ u
  | 0 => by simp [vl]
  | u + 1 => by
    simp only [vl]; rw [vl_of h u, B_succ, Int.emod_def V (65536 ^ u * 65536), ← Int.ediv_ediv_of_nonneg (Int.le_of_lt (B_pos u)), Int.emod_def V, Int.emod_def (V / 65536 ^ u)]
    generalize V / 65536 ^ u / 65536 = r
    generalize V / 65536 ^ u = q
    generalize (65536 : Int) ^ u = a
    grind
theorem dg_of {V : Int} (u : Nat) : Dg (fun k => V / 65536 ^ k % 65536) u := fun k _ => ⟨Int.emod_nonneg _ (by decide), Int.emod_lt_of_pos _ (by decide)⟩
/-- what put leaves -/
theorem Rp.put {M1 : Nat → Nat → Int} {z u : Nat} {v : Int} (hu : u ≤ 110) (h1 : ∀ k, k < u → M1 1 (110 * z + k) = (v.natAbs : Int) / 65536 ^ k % 65536) (h2 : M1 2 z = (u : Int)) (h3 : M1 3 z = v.sign) (h0 : (v.natAbs : Int) / 65536 ^ u = 0) (ht : u = 0 ∨ 0 < (v.natAbs : Int) / 65536 ^ (u - 1)) : Rp M1 z v := by
  have hV : (0 : Int) ≤ v.natAbs := Int.natCast_nonneg _
  generalize hVe : (v.natAbs : Int) = V at *
  have e : vl (fun k => M1 1 (110 * z + k)) u = vl (fun k => V / 65536 ^ k % 65536) u := vl_congr (fun k hk => h1 k hk)
  have hlt : V < 65536 ^ u := by
    have := Int.lt_mul_ediv_self_add (x := V) (k := 65536 ^ u) (B_pos u)
    rw [h0] at this; omega
  refine ⟨u, h2, hu, fun k hk => by show 0 ≤ M1 1 (110 * z + k) ∧ M1 1 (110 * z + k) < 65536; rw [h1 k hk]; exact dg_of u k hk, ?_, ?_, h3⟩
  · rw [e, vl_of hV, Int.emod_eq_of_lt hV hlt, hVe]
  · rcases ht with ht | ht
    · exact Or.inl ht
    · by_cases e0 : u = 0
      · exact Or.inl e0
      · right
        obtain ⟨w, rfl⟩ : ∃ w, u = w + 1 := ⟨u - 1, by omega⟩
        rw [h1 _ (by omega)]
        simp only [Nat.add_sub_cancel] at ht ⊢
        rw [B_succ] at hlt
        have : V / 65536 ^ w < 65536 := Int.ediv_lt_of_lt_mul (B_pos w) (by rw [Int.mul_comm]; exact hlt)
        rw [Int.emod_eq_of_lt (by omega) this]
        omega
/-- what store leaves -/
theorem Rp.store {M1 : Nat → Nat → Int} {z u : Nat} {f : Nat → Int} {s V : Int} (hu : u ≤ 110) (hd : Dg f u) (h1 : ∀ k, k < u → M1 1 (110 * z + k) = f k) (h2 : M1 2 z = (u : Int)) (hV : vl f u = V) (ht : u = 0 ∨ f (u - 1) ≠ 0) (h3 : M1 3 z = if u = 0 then 0 else s) (hs : s = 1 ∨ s = -1 ∨ V = 0) : Rp M1 z (s * V) := by
  have hV0 : 0 ≤ V := by rw [← hV]; exact vl_nonneg hd
  have e : vl (fun k => M1 1 (110 * z + k)) u = V := by rw [← hV]; exact vl_congr (fun k hk => h1 k hk)
  have hu0 : u = 0 ↔ V = 0 := by
    constructor
    · intro h; rw [← hV, h]; rfl
    · intro h
      by_cases g : u = 0
      · exact g
      · rcases ht with ht | ht
        · exact ht
        · obtain ⟨w, rfl⟩ : ∃ w, u = w + 1 := ⟨u - 1, by omega⟩
          have := vl_top hd ht
          have := B_pos w
          omega
  refine ⟨u, h2, hu, fun k hk => by show 0 ≤ M1 1 (110 * z + k) ∧ M1 1 (110 * z + k) < 65536; rw [h1 k hk]; exact hd k hk, ?_, ?_, ?_⟩
  · rw [e]
    rcases hs with h | h | h <;> subst h <;> omega
  · rcases ht with ht | ht
    · exact Or.inl ht
    · by_cases e0 : u = 0
      · exact Or.inl e0
      · right; rw [h1 _ (by omega)]; exact ht
  · rw [h3]
    by_cases e0 : u = 0
    · rw [if_pos e0, hu0.mp e0]; simp
    · rw [if_neg e0]
      have : 0 < V := by
        have : V ≠ 0 := fun g => e0 (hu0.mpr g)
        omega
      rcases hs with h | h | h
      · subst h; rw [sgn_pos (by omega)]
      · subst h; rw [sgn_neg (by omega)]
      · omega
/-- a comparison by the highest digit that differs -/
theorem cmp_dig {f g : Nat → Int} {j : Nat} (hf : Dg f (j + 1)) (hg : Dg g (j + 1)) : (f j < g j → vl f (j + 1) < vl g (j + 1)) ∧ (g j < f j → vl g (j + 1) < vl f (j + 1)) := by
  have a1 := vl_nonneg (hf.le (Nat.le_succ j))
  have a2 := vl_lt (hf.le (Nat.le_succ j))
  have b1 := vl_nonneg (hg.le (Nat.le_succ j))
  have b2 := vl_lt (hg.le (Nat.le_succ j))
  have hB := B_pos j
  simp only [vl]
  constructor
  · intro h
    have : (f j + 1) * 65536 ^ j ≤ g j * 65536 ^ j := Int.mul_le_mul_of_nonneg_right (by omega) (Int.le_of_lt hB)
    rw [Int.add_mul] at this; omega
  · intro h
    have : (g j + 1) * 65536 ^ j ≤ f j * 65536 ^ j := Int.mul_le_mul_of_nonneg_right (by omega) (Int.le_of_lt hB)
    rw [Int.add_mul] at this; omega
end
section
set_option maxRecDepth 100000 in
set_option maxHeartbeats 4000000 in
theorem c_M_put (l : Launch) (D : va_G) (cs : Nat → ClassId) (ad : Nat → Nat) (M : Nat → Nat → Int) (N : Nat → Int) (z : Nat) (v : Int) (hz : z < 120) (hv : R31 v) (hR : Rep M N) : Ct (S := Nat → Nat → Int) l D (tyL cs) y_M_put b_M_put 5 none (rm 1) [.ref (ad 0), .int (iI ((z : Nat) : Int)), .int (iI v)] (wM ad cs M) (fun M1 => Rep M1 (up1 N z v) ∧ Sm M M1) (fun _ => none) (fun M1 => wM ad cs M1) := by
  refine Ct.introV (by decide) (Nat.le_of_ble_eq_true rfl) (fun _ => rfl) ?_
  intro p e s m below meth c A args Q H locs X hnm hw kr ls hl
  have X : CX D (tyL cs) R_M b_M_put 5 p m c s args := X
  have hl : lv_has ls 5 [(0, .ref (ad 0)), (1, .int (iI ((z : Nat) : Int))), (2, .int (iI v))] := hl
  have hv1 := hv.1
  have hv2 := hv.2
  have km1 : ∀ (H : Heap) (locs : List Loc), HW D A s.heap (wM ad cs M) H locs → W p l e (rm 1) s m args below meth c H locs 0 0 Q (F0 m 12 ls [.long (jI (v.natAbs : Int))]) := by
    intro H locs hw
    refine sy_lstore_n (lv1 := [(3, .long (jI (v.natAbs : Int))), (0, .ref (ad 0)), (1, .int (iI ((z : Nat) : Int))), (2, .int (iI v))]) X d_M_put_12 hl rfl (by decide) rfl (fun ls hl => ?_)
    refine sy_aload_n X d_M_put_13 hl 1 rfl ?_
    refine m_get X hw 2 (by decide) rfl (tt_of k511 rfl) d_M_put_14 ?_
    refine sy_iload_n X d_M_put_17 hl 2 rfl ?_
    have km2 : ∀ (H : Heap) (locs : List Loc), HW D A s.heap (wM ad cs M) H locs → W p l e (rm 1) s m args below meth c H locs 0 0 Q (F0 m 35 ls [.int (iI v.sign), .int (iI ((z : Nat) : Int)), .ref (ad 3)]) := by
      intro H locs hw
      refine m_ast X hw 3 z (by decide) (by omega) (by simp only [szM]; omega) d_M_put_35 (fun H locs hw => ?_)
      refine sy_aload_n X d_M_put_36 hl 1 rfl ?_
      refine m_get X hw 1 (by decide) rfl (tt_of k510 rfl) d_M_put_37 ?_
      refine sy_iload_n X d_M_put_40 hl 2 rfl ?_
      refine sy_iconst X d_M_put_41 ?_
      refine m_ast X hw 2 z (by decide) (by omega) (by simp only [szM]; omega) d_M_put_42 (fun H locs hw => ?_)
      have key : ∀ (n : Nat) (u : Nat) (H : Heap) (locs : List Loc) (ls : Array Slot), u ≤ 2 → 2 < u + n → (u = 0 ∨ 0 < (v.natAbs : Int) / 65536 ^ (u - 1)) → HW D A s.heap (wM ad cs (upA (up2 (up2 M 3 z v.sign) 2 z (u : Int)) 1 (blk (M 1) (110 * z) u (fun k => (v.natAbs : Int) / 65536 ^ k % 65536)))) H locs → lv_has ls 5 [(0, .ref (ad 0)), (1, .int (iI ((z : Nat) : Int))), (2, .int (iI v)), (3, .long (jI ((v.natAbs : Int) / 65536 ^ u)))] → W p l e (rm 1) s m args below meth c H locs 0 0 Q (F0 m 43 ls []) := by
        intro n
        induction n with
        | zero =>
          intro u H locs ls h1 h2 h3 hw hl
          exfalso; omega
        | succ n ih_key =>
          intro u H locs ls h1 h2 h3 hw hl
          have hx0 : (0 : Int) ≤ (v.natAbs : Int) / 65536 ^ u := Int.ediv_nonneg (by omega) (Int.le_of_lt (B_pos u))
          have hx1 : (v.natAbs : Int) / 65536 ^ u ≤ 2147483648 := Int.le_trans (Int.ediv_le_self _ (by omega)) (by omega)
          refine sy_lload_n X d_M_put_43 hl 3 rfl ?_
          refine sy_lconst (z := 0) X d_M_put_44 (by decide) ?_
          refine sy_lcif_le (tgt := 89) X d_M_put_45 d_M_put_46 (by decide) ⟨by omega, by omega⟩ ⟨by omega, by omega⟩ (fun c3 => ?_) (fun c3 => ?_)
          · refine kr _ _ _ _ _ d_M_put_89 hw ⟨Rep.up hR (fun j hj => ?_) (fun y hy => ?_) (fun y hy => ?_) (Rp.put (u := u) (by omega) (fun k hk => ?_) ?_ ?_ ?_ h3), ⟨rfl, rfl, rfl, rfl⟩⟩
            · rw [upA_s]; exact blk_out (by omega)
            · simp [upA, up2, up1, hy]
            · simp [upA, up2, up1, hy]
            · rw [upA_s]; exact blk_in hk
            · simp [upA, up2, up1]
            · simp [upA, up2, up1]
            · omega
          · have hu2 : u < 2 := by
              rcases Nat.lt_or_ge u 2 with g | g
              · exact g
              · have e : u = 2 := by omega
                subst e; exfalso; omega
            have c99 : 0 < (v.natAbs : Int) / 65536 ^ u := by omega
            have hU : (upA (up2 (up2 M 3 z v.sign) 2 z (u : Int)) 1 (blk (M 1) (110 * z) u (fun k => (v.natAbs : Int) / 65536 ^ k % 65536))) 2 z = (u : Int) := by simp [upA, up2_s]
            refine sy_aload_n X d_M_put_49 hl 0 rfl ?_
            refine m_get X hw 0 (by decide) rfl (tt_of k509 rfl) d_M_put_50 ?_
            refine sy_bipush X d_M_put_53 (by decide) ?_
            refine sy_iload_n X d_M_put_55 hl 1 rfl ?_
            refine sy_imul X d_M_put_56 ?_
            refine sy_aload_n X d_M_put_57 hl 0 rfl ?_
            refine m_get X hw 1 (by decide) rfl (tt_of k510 rfl) d_M_put_58 ?_
            refine sy_iload_n X d_M_put_61 hl 1 rfl ?_
            refine m_ald X hw 2 z (by decide) (by omega) (by simp only [szM]; omega) ((upA (up2 (up2 M 3 z v.sign) 2 z (u : Int)) 1 (blk (M 1) (110 * z) u (fun k => (v.natAbs : Int) / 65536 ^ k % 65536))) 2 z) rfl d_M_put_62 ?_
            refine sy_iadd X d_M_put_63 ?_
            refine sy_lload_n X d_M_put_64 hl 3 rfl ?_
            refine sy_ldc2 (z := 65535) X (tt_of k500 rfl) d_M_put_65 (by decide) ?_
            refine sy_land X 16 65536 d_M_put_68 (by decide) (by decide) (by decide) ?_
            refine sy_l2i X d_M_put_69 ?_
            refine m_ast X hw 1 (110 * z + u) (by decide) (by rw [hU]; omega) (by simp only [szM]; omega) d_M_put_70 (fun H locs hw => ?_)
            refine sy_aload_n X d_M_put_71 hl 0 rfl ?_
            refine m_get X hw 1 (by decide) rfl (tt_of k510 rfl) d_M_put_72 ?_
            refine sy_iload_n X d_M_put_75 hl 1 rfl ?_
            refine sy_dup2 X d_M_put_76 rfl rfl ?_
            refine m_ald X hw 2 z (by decide) (by omega) (by simp only [szM]; omega) ((up2 (upA (up2 (up2 M 3 z v.sign) 2 z (u : Int)) 1 (blk (M 1) (110 * z) u (fun k => (v.natAbs : Int) / 65536 ^ k % 65536))) 1 (110 * z + u) (((v.natAbs : Int) / 65536 ^ u) % 65536)) 2 z) rfl d_M_put_77 ?_
            refine sy_iconst X d_M_put_78 ?_
            refine sy_iadd X d_M_put_79 ?_
            refine m_ast X hw 2 z (by decide) (by omega) (by simp only [szM]; omega) d_M_put_80 (fun H locs hw => ?_)
            refine sy_lload_n X d_M_put_81 hl 3 rfl ?_
            refine sy_bipush X d_M_put_82 (by decide) ?_
            refine sy_lshr X 65536 d_M_put_84 ⟨by omega, by omega⟩ (by omega) (by omega) (by decide) ?_
            refine sy_lstore_n (lv1 := [(3, .long (jI (((v.natAbs : Int) / 65536 ^ u) / 65536))), (0, .ref (ad 0)), (1, .int (iI ((z : Nat) : Int))), (2, .int (iI v))]) X d_M_put_85 hl rfl (by decide) rfl (fun ls hl => ?_)
            have eW : up2 (up2 (upA (up2 (up2 M 3 z v.sign) 2 z (u : Int)) 1 (blk (M 1) (110 * z) u (fun k => (v.natAbs : Int) / 65536 ^ k % 65536))) 1 (110 * z + u) (((v.natAbs : Int) / 65536 ^ u) % 65536)) 2 z (((up2 (upA (up2 (up2 M 3 z v.sign) 2 z (u : Int)) 1 (blk (M 1) (110 * z) u (fun k => (v.natAbs : Int) / 65536 ^ k % 65536))) 1 (110 * z + u) (((v.natAbs : Int) / 65536 ^ u) % 65536)) 2 z) + 1) = upA (up2 (up2 M 3 z v.sign) 2 z ((u + 1 : Nat) : Int)) 1 (blk (M 1) (110 * z) (u + 1) (fun k => (v.natAbs : Int) / 65536 ^ k % 65536)) := by
              have e7 : up2 (upA (up2 (up2 M 3 z v.sign) 2 z (u : Int)) 1 (blk (M 1) (110 * z) u (fun k => (v.natAbs : Int) / 65536 ^ k % 65536))) 1 (110 * z + u) ((v.natAbs : Int) / 65536 ^ u % 65536) = upA (up2 (up2 M 3 z v.sign) 2 z (u : Int)) 1 (blk (M 1) (110 * z) (u + 1) (fun k => (v.natAbs : Int) / 65536 ^ k % 65536)) := by
                rw [up2_upA, blk_up (M 1) (110 * z) u (fun k => (v.natAbs : Int) / 65536 ^ k % 65536) (x := (v.natAbs : Int) / 65536 ^ u % 65536) rfl]
              rw [e7]
              funext a; by_cases h : a = 1
              · subst h; simp [upA, up2]
              · by_cases h2 : a = 2
                · subst h2; funext b; by_cases h3 : b = z <;> simp [upA, up2, up1, h3]
                · simp [upA, up2, h, h2]
            have eX : (v.natAbs : Int) / 65536 ^ u / 65536 = (v.natAbs : Int) / 65536 ^ (u + 1) := by
              rw [B_succ, ← Int.ediv_ediv_of_nonneg (Int.le_of_lt (B_pos u))]
            refine sy_goto (tgt := 43) X d_M_put_86 (by decide) ?_
            rw [eW] at hw
            rw [eX] at hl
            exact ih_key (u + 1) H locs ls (by omega) (by omega) (Or.inr (by simpa using c99)) hw (lv_sub hl [1, 2, 3, 0] rfl)
      have e0 : up2 (up2 M 3 z v.sign) 2 z 0 = upA (up2 (up2 M 3 z v.sign) 2 z ((0 : Nat) : Int)) 1 (blk (M 1) (110 * z) 0 (fun k => (v.natAbs : Int) / 65536 ^ k % 65536)) := by
          rw [blk_0]; funext a; by_cases h : a = 1 <;> simp [upA, h, up2]
      rw [e0] at hw
      have e1 : (v.natAbs : Int) = (v.natAbs : Int) / 65536 ^ 0 := by simp
      rw [e1] at hl
      exact key 3 0 H locs ls (by omega) (by omega) (Or.inl rfl) hw (lv_sub hl [1, 2, 3, 0] rfl)
    refine sy_iload_n X d_M_put_18 hl 3 rfl ?_
    refine sy_if_ge (tgt := 26) X d_M_put_19 (by decide) ⟨by omega, by omega⟩ (fun c4 => ?_) (fun c4 => ?_)
    · refine sy_iload_n X d_M_put_26 hl 3 rfl ?_
      refine sy_if_le (tgt := 34) X d_M_put_27 (by decide) ⟨by omega, by omega⟩ (fun c5 => ?_) (fun c5 => ?_)
      · refine sy_iconst X d_M_put_34 ?_
        exact W_topi (by first | exact sgn_neg (by omega) | exact sgn_pos (by omega) | exact sgn_0 (by omega)) (km2 H locs hw)
      · refine sy_iconst X d_M_put_30 ?_
        refine sy_goto (tgt := 35) X d_M_put_31 (by decide) ?_
        exact W_topi (by first | exact sgn_neg (by omega) | exact sgn_pos (by omega) | exact sgn_0 (by omega)) (km2 H locs hw)
    · refine sy_iconst X d_M_put_22 ?_
      refine sy_goto (tgt := 35) X d_M_put_23 (by decide) ?_
      exact W_topi (by first | exact sgn_neg (by omega) | exact sgn_pos (by omega) | exact sgn_0 (by omega)) (km2 H locs hw)
  refine sy_iload_n X d_M_put_0 hl 2 rfl ?_
  refine sy_if_ge (tgt := 10) X d_M_put_1 (by decide) ⟨by omega, by omega⟩ (fun c6 => ?_) (fun c6 => ?_)
  · refine sy_iload_n X d_M_put_10 hl 2 rfl ?_
    refine sy_i2l X d_M_put_11 ⟨by omega, by omega⟩ ?_
    exact W_topl (by omega) (km1 H locs hw)
  · refine sy_iload_n X d_M_put_4 hl 2 rfl ?_
    refine sy_i2l X d_M_put_5 ⟨by omega, by omega⟩ ?_
    refine sy_lneg X d_M_put_6 ?_
    refine sy_goto (tgt := 12) X d_M_put_7 (by decide) ?_
    exact W_topl (by omega) (km1 H locs hw)
set_option maxRecDepth 100000 in
set_option maxHeartbeats 4000000 in
theorem c_M_copy (l : Launch) (D : va_G) (cs : Nat → ClassId) (ad : Nat → Nat) (M : Nat → Nat → Int) (N : Nat → Int) (z x : Nat) (hz : z < 120) (hx : x < 120) (hR : Rep M N) : Ct (S := Nat → Nat → Int) l D (tyL cs) y_M_copy b_M_copy 4 none (rm 1) [.ref (ad 0), .int (iI ((z : Nat) : Int)), .int (iI ((x : Nat) : Int))] (wM ad cs M) (fun M1 => Rep M1 (up1 N z (N x)) ∧ Sm M M1 ∧ M1 4 = M 4 ∧ M1 5 = M 5) (fun _ => none) (fun M1 => wM ad cs M1) := by
  refine Ct.introV (by decide) (Nat.le_of_ble_eq_true rfl) (fun _ => rfl) ?_
  intro p e s m below meth c A args Q H locs X hnm hw kr ls hl
  have X : CX D (tyL cs) R_M b_M_copy 4 p m c s args := X
  have hl : lv_has ls 4 [(0, .ref (ad 0)), (1, .int (iI ((z : Nat) : Int))), (2, .int (iI ((x : Nat) : Int)))] := hl
  obtain ⟨u, hu, hu1, hd, hv, ht, hs⟩ := hR x hx
  refine sy_aload_n X d_M_copy_0 hl 0 rfl ?_
  refine m_get X hw 1 (by decide) rfl (tt_of k510 rfl) d_M_copy_1 ?_
  refine sy_iload_n X d_M_copy_4 hl 1 rfl ?_
  refine sy_aload_n X d_M_copy_5 hl 0 rfl ?_
  refine m_get X hw 1 (by decide) rfl (tt_of k510 rfl) d_M_copy_6 ?_
  refine sy_iload_n X d_M_copy_9 hl 2 rfl ?_
  refine m_ald X hw 2 x (by decide) (by omega) (by simp only [szM]; omega) (M 2 x) rfl d_M_copy_10 ?_
  refine m_ast X hw 2 z (by decide) (by omega) (by simp only [szM]; omega) d_M_copy_11 (fun H locs hw => ?_)
  refine sy_aload_n X d_M_copy_12 hl 0 rfl ?_
  refine m_get X hw 2 (by decide) rfl (tt_of k511 rfl) d_M_copy_13 ?_
  refine sy_iload_n X d_M_copy_16 hl 1 rfl ?_
  refine sy_aload_n X d_M_copy_17 hl 0 rfl ?_
  refine m_get X hw 2 (by decide) rfl (tt_of k511 rfl) d_M_copy_18 ?_
  refine sy_iload_n X d_M_copy_21 hl 2 rfl ?_
  refine m_ald X hw 3 x (by decide) (by omega) (by simp only [szM]; omega) ((up2 M 2 z (M 2 x)) 3 x) rfl d_M_copy_22 ?_
  refine m_ast X hw 3 z (by decide) (by omega) (by simp only [szM]; omega) d_M_copy_23 (fun H locs hw => ?_)
  refine sy_iconst X d_M_copy_24 ?_
  refine sy_istore_n (lv1 := [(3, .int (iI 0)), (0, .ref (ad 0)), (1, .int (iI ((z : Nat) : Int))), (2, .int (iI ((x : Nat) : Int)))]) X d_M_copy_25 hl rfl (by decide) rfl (fun ls hl => ?_)
  have key : ∀ (n : Nat) (k : Nat) (H : Heap) (locs : List Loc) (ls : Array Slot), k ≤ u → u < k + n → HW D A s.heap (wM ad cs (upA (up2 (up2 M 2 z (M 2 x)) 3 z ((up2 M 2 z (M 2 x)) 3 x)) 1 (blk (M 1) (110 * z) k (fun j => M 1 (110 * x + j))))) H locs → lv_has ls 4 [(0, .ref (ad 0)), (1, .int (iI ((z : Nat) : Int))), (2, .int (iI ((x : Nat) : Int))), (3, .int (iI ((k : Nat) : Int)))] → W p l e (rm 1) s m args below meth c H locs 0 0 Q (F0 m 26 ls []) := by
    intro n
    induction n with
    | zero =>
      intro k H locs ls h1 h2 hw hl
      exfalso; omega
    | succ n ih_key =>
      intro k H locs ls h1 h2 hw hl
      have hU : (upA (up2 (up2 M 2 z (M 2 x)) 3 z ((up2 M 2 z (M 2 x)) 3 x)) 1 (blk (M 1) (110 * z) k (fun j => M 1 (110 * x + j)))) 2 x = (u : Int) := by by_cases e : x = z <;> simp [upA, up2, up1, e] <;> (first | exact hu | (rw [← e]; exact hu) | (rw [e] at hu; exact hu))
      refine sy_iload_n X d_M_copy_26 hl 3 rfl ?_
      refine sy_aload_n X d_M_copy_27 hl 0 rfl ?_
      refine m_get X hw 1 (by decide) rfl (tt_of k510 rfl) d_M_copy_28 ?_
      refine sy_iload_n X d_M_copy_31 hl 2 rfl ?_
      refine m_ald X hw 2 x (by decide) (by omega) (by simp only [szM]; omega) ((upA (up2 (up2 M 2 z (M 2 x)) 3 z ((up2 M 2 z (M 2 x)) 3 x)) 1 (blk (M 1) (110 * z) k (fun j => M 1 (110 * x + j)))) 2 x) rfl d_M_copy_32 ?_
      refine sy_icmp_ge (tgt := 64) X d_M_copy_33 (by decide) ⟨by omega, by omega⟩ (by rw [hU]; exact ⟨by omega, by omega⟩) (fun c1 => ?_) (fun c1 => ?_)
      · have hk : k = u := by rw [hU] at c1; omega
        subst hk
        refine kr _ _ _ _ _ d_M_copy_64 hw ⟨Rep.up hR (fun j hj => ?_) (fun y hy => ?_) (fun y hy => ?_) ⟨k, ?_, hu1, fun j hj => ?_, ?_, ?_, ?_⟩, ⟨rfl, rfl, rfl, rfl⟩, rfl, rfl⟩
        · rw [upA_s]; exact blk_out (by omega)
        · simp [upA, up2, up1, hy]
        · simp [upA, up2, up1, hy]
        · simp [upA, up2, up1]; exact hu
        · show 0 ≤ (upA (up2 (up2 M 2 z (M 2 x)) 3 z ((up2 M 2 z (M 2 x)) 3 x)) 1 (blk (M 1) (110 * z) k (fun j => M 1 (110 * x + j)))) 1 (110 * z + j) ∧ (upA (up2 (up2 M 2 z (M 2 x)) 3 z ((up2 M 2 z (M 2 x)) 3 x)) 1 (blk (M 1) (110 * z) k (fun j => M 1 (110 * x + j)))) 1 (110 * z + j) < 65536
          rw [upA_s, blk_in hj]; exact hd j hj
        · rw [← hv]; exact vl_congr (fun j hj => by rw [upA_s, blk_in hj])
        · rcases ht with ht | ht
          · exact Or.inl ht
          · by_cases e0 : k = 0
            · exact Or.inl e0
            · right; rw [upA_s, blk_in (by omega)]; exact ht
        · simp [upA, up2, up1]; exact hs
      · have hk : k < u := by rw [hU] at c1; omega
        refine sy_aload_n X d_M_copy_36 hl 0 rfl ?_
        refine m_get X hw 0 (by decide) rfl (tt_of k509 rfl) d_M_copy_37 ?_
        refine sy_bipush X d_M_copy_40 (by decide) ?_
        refine sy_iload_n X d_M_copy_42 hl 1 rfl ?_
        refine sy_imul X d_M_copy_43 ?_
        refine sy_iload_n X d_M_copy_44 hl 3 rfl ?_
        refine sy_iadd X d_M_copy_45 ?_
        refine sy_aload_n X d_M_copy_46 hl 0 rfl ?_
        refine m_get X hw 0 (by decide) rfl (tt_of k509 rfl) d_M_copy_47 ?_
        refine sy_bipush X d_M_copy_50 (by decide) ?_
        refine sy_iload_n X d_M_copy_52 hl 2 rfl ?_
        refine sy_imul X d_M_copy_53 ?_
        refine sy_iload_n X d_M_copy_54 hl 3 rfl ?_
        refine sy_iadd X d_M_copy_55 ?_
        refine m_ald X hw 1 ((110 * x) + k) (by decide) (by omega) (by simp only [szM]; omega) ((upA (up2 (up2 M 2 z (M 2 x)) 3 z ((up2 M 2 z (M 2 x)) 3 x)) 1 (blk (M 1) (110 * z) k (fun j => M 1 (110 * x + j)))) 1 ((110 * x) + k)) rfl d_M_copy_56 ?_
        refine m_ast X hw 1 ((110 * z) + k) (by decide) (by omega) (by simp only [szM]; omega) d_M_copy_57 (fun H locs hw => ?_)
        have eW : up2 (upA (up2 (up2 M 2 z (M 2 x)) 3 z ((up2 M 2 z (M 2 x)) 3 x)) 1 (blk (M 1) (110 * z) k (fun j => M 1 (110 * x + j)))) 1 ((110 * z) + k) ((upA (up2 (up2 M 2 z (M 2 x)) 3 z ((up2 M 2 z (M 2 x)) 3 x)) 1 (blk (M 1) (110 * z) k (fun j => M 1 (110 * x + j)))) 1 ((110 * x) + k)) = upA (up2 (up2 M 2 z (M 2 x)) 3 z ((up2 M 2 z (M 2 x)) 3 x)) 1 (blk (M 1) (110 * z) (k + 1) (fun j => M 1 (110 * x + j))) := by
          rw [up2_upA, blk_up (M 1) (110 * z) k (fun j => M 1 (110 * x + j))]
          rw [upA_s]
          by_cases e : x = z
          · subst e; exact blk_out (by omega)
          · exact blk_out (by omega)
        refine sy_iinc (lv1 := [(3, .int (iI ((k + 1 : Nat) : Int))), (0, .ref (ad 0)), (1, .int (iI ((z : Nat) : Int))), (2, .int (iI ((x : Nat) : Int)))]) X d_M_copy_58 hl 3 rfl (by omega) (by decide) rfl (fun ls hl => ?_)
        refine sy_goto (tgt := 26) X d_M_copy_61 (by decide) ?_
        rw [eW] at hw
        exact ih_key (k + 1) H locs ls (by omega) (by omega) hw (lv_sub hl [1, 2, 3, 0] rfl)
  have e0 : up2 (up2 M 2 z (M 2 x)) 3 z ((up2 M 2 z (M 2 x)) 3 x) = upA (up2 (up2 M 2 z (M 2 x)) 3 z ((up2 M 2 z (M 2 x)) 3 x)) 1 (blk (M 1) (110 * z) 0 (fun j => M 1 (110 * x + j))) := by
    rw [blk_0]; funext a; by_cases h : a = 1 <;> simp [upA, h, up2]
  rw [e0] at hw
  exact key (u + 1) 0 H locs ls (by omega) (by omega) hw (lv_sub hl [1, 2, 3, 0] rfl)
set_option maxRecDepth 100000 in
set_option maxHeartbeats 4000000 in
theorem c_M_store (l : Launch) (D : va_G) (cs : Nat → ClassId) (ad : Nat → Nat) (M : Nat → Nat → Int) (N : Nat → Int) (z n0 : Nat) (s0 : Int) (hz : z < 120) (hn0 : n0 ≤ 224) (hs31 : R31 s0) (hR : Rep M N) (hd : Dg (M 4) n0) (hb : vl (M 4) n0 < 65536 ^ 110) (hs0 : s0 = 1 ∨ s0 = -1 ∨ vl (M 4) n0 = 0) : Ct (S := Nat → Nat → Int) l D (tyL cs) y_M_store b_M_store 6 none (rm 1) [.ref (ad 0), .int (iI ((z : Nat) : Int)), .int (iI ((n0 : Nat) : Int)), .int (iI s0)] (wM ad cs M) (fun M1 => Rep M1 (up1 N z (s0 * vl (M 4) n0)) ∧ Sm M M1 ∧ M1 4 = M 4 ∧ M1 5 = M 5) (fun _ => none) (fun M1 => wM ad cs M1) := by
  refine Ct.introV (by decide) (Nat.le_of_ble_eq_true rfl) (fun _ => rfl) ?_
  intro p e s m below meth c A args Q H locs X hnm hw kr ls hl
  have X : CX D (tyL cs) R_M b_M_store 6 p m c s args := X
  have hl : lv_has ls 6 [(0, .ref (ad 0)), (1, .int (iI ((z : Nat) : Int))), (2, .int (iI ((n0 : Nat) : Int))), (3, .int (iI s0))] := hl
  have k26 : ∀ (q : Nat) (H : Heap) (locs : List Loc) (ls : Array Slot), q ≤ n0 → vl (M 4) q = vl (M 4) n0 → (q = 0 ∨ M 4 (q - 1) ≠ 0) → HW D A s.heap (wM ad cs M) H locs → lv_has ls 6 [(0, .ref (ad 0)), (1, .int (iI ((z : Nat) : Int))), (2, .int (iI ((n0 : Nat) : Int))), (3, .int (iI s0)), (4, .int (iI ((q : Nat) : Int)))] → W p l e (rm 1) s m args below meth c H locs 0 0 Q (F0 m 26 ls []) := by
    intro q H locs ls hqn hvq htq hw hl
    have hq110 : q ≤ 110 := by
      rcases htq with h | h
      · omega
      · rcases Nat.lt_or_ge 110 q with g | g
        · obtain ⟨t, rfl⟩ : ∃ t, q = t + 1 := ⟨q - 1, by omega⟩
          have h1 := vl_top (hd.le hqn) h
          have h2 := B_le (show 110 ≤ t by omega)
          omega
        · exact g
    refine sy_aload_n X d_M_store_26 hl 0 rfl ?_
    refine m_get X hw 1 (by decide) rfl (tt_of k510 rfl) d_M_store_27 ?_
    refine sy_iload_n X d_M_store_30 hl 1 rfl ?_
    refine sy_iload X d_M_store_31 hl 4 rfl ?_
    refine m_ast X hw 2 z (by decide) (by omega) (by simp only [szM]; omega) d_M_store_33 (fun H locs hw => ?_)
    refine sy_aload_n X d_M_store_34 hl 0 rfl ?_
    refine m_get X hw 2 (by decide) rfl (tt_of k511 rfl) d_M_store_35 ?_
    refine sy_iload_n X d_M_store_38 hl 1 rfl ?_
    have km1 : ∀ (H : Heap) (locs : List Loc), HW D A s.heap (wM ad cs (up2 M 2 z ((q : Nat) : Int))) H locs → W p l e (rm 1) s m args below meth c H locs 0 0 Q (F0 m 49 ls [.int (iI (if q = 0 then 0 else s0)), .int (iI ((z : Nat) : Int)), .ref (ad 3)]) := by
      intro H locs hw
      refine m_ast X hw 3 z (by decide) (by omega) (by simp only [szM]; omega) d_M_store_49 (fun H locs hw => ?_)
      refine sy_iconst X d_M_store_50 ?_
      refine sy_istore (lv1 := [(5, .int (iI 0)), (0, .ref (ad 0)), (1, .int (iI ((z : Nat) : Int))), (2, .int (iI ((n0 : Nat) : Int))), (3, .int (iI s0)), (4, .int (iI ((q : Nat) : Int)))]) X d_M_store_51 hl (by decide) rfl (fun ls hl => ?_)
      have key2 : ∀ (n : Nat) (k : Nat) (H : Heap) (locs : List Loc) (ls : Array Slot), k ≤ q → q < k + n → HW D A s.heap (wM ad cs (upA (up2 (up2 M 2 z (q : Int)) 3 z (if q = 0 then 0 else s0)) 1 (blk (M 1) (110 * z) k (M 4)))) H locs → lv_has ls 6 [(0, .ref (ad 0)), (1, .int (iI ((z : Nat) : Int))), (2, .int (iI ((n0 : Nat) : Int))), (3, .int (iI s0)), (4, .int (iI ((q : Nat) : Int))), (5, .int (iI ((k : Nat) : Int)))] → W p l e (rm 1) s m args below meth c H locs 0 0 Q (F0 m 53 ls []) := by
        intro n
        induction n with
        | zero =>
          intro k H locs ls h1 h2 hw hl
          exfalso; omega
        | succ n ih_key2 =>
          intro k H locs ls h1 h2 hw hl
          refine sy_iload X d_M_store_53 hl 5 rfl ?_
          refine sy_iload X d_M_store_55 hl 4 rfl ?_
          refine sy_icmp_ge (tgt := 85) X d_M_store_57 (by decide) ⟨by omega, by omega⟩ ⟨by omega, by omega⟩ (fun c2 => ?_) (fun c2 => ?_)
          · have hk : k = q := by omega
            subst hk
            refine kr _ _ _ _ _ d_M_store_85 hw ⟨?_, ⟨rfl, rfl, rfl, rfl⟩, rfl, rfl⟩
            rw [← hvq]
            refine Rep.up hR (fun j hj => ?_) (fun y hy => ?_) (fun y hy => ?_) (Rp.store (u := k) (f := M 4) hq110 (hd.le (by omega)) (fun j hj => ?_) ?_ rfl htq ?_ (by rw [hvq]; exact hs0))
            · rw [upA_s]; exact blk_out (by omega)
            · simp [upA, up2, up1, hy]
            · simp [upA, up2, up1, hy]
            · rw [upA_s]; exact blk_in hj
            · simp [upA, up2, up1]
            · simp [upA, up2, up1]
          · refine sy_aload_n X d_M_store_60 hl 0 rfl ?_
            refine m_get X hw 0 (by decide) rfl (tt_of k509 rfl) d_M_store_61 ?_
            refine sy_bipush X d_M_store_64 (by decide) ?_
            refine sy_iload_n X d_M_store_66 hl 1 rfl ?_
            refine sy_imul X d_M_store_67 ?_
            refine sy_iload X d_M_store_68 hl 5 rfl ?_
            refine sy_iadd X d_M_store_70 ?_
            refine sy_aload_n X d_M_store_71 hl 0 rfl ?_
            refine m_get X hw 3 (by decide) rfl (tt_of k512 rfl) d_M_store_72 ?_
            refine sy_iload X d_M_store_75 hl 5 rfl ?_
            refine m_ald X hw 4 k (by decide) (by omega) (by simp only [szM]; omega) ((upA (up2 (up2 M 2 z (q : Int)) 3 z (if q = 0 then 0 else s0)) 1 (blk (M 1) (110 * z) k (M 4))) 4 k) rfl d_M_store_77 ?_
            refine m_ast X hw 1 ((110 * z) + k) (by decide) (by omega) (by simp only [szM]; omega) d_M_store_78 (fun H locs hw => ?_)
            have eW : up2 (upA (up2 (up2 M 2 z (q : Int)) 3 z (if q = 0 then 0 else s0)) 1 (blk (M 1) (110 * z) k (M 4))) 1 ((110 * z) + k) ((upA (up2 (up2 M 2 z (q : Int)) 3 z (if q = 0 then 0 else s0)) 1 (blk (M 1) (110 * z) k (M 4))) 4 k) = upA (up2 (up2 M 2 z (q : Int)) 3 z (if q = 0 then 0 else s0)) 1 (blk (M 1) (110 * z) (k + 1) (M 4)) := by
              rw [up2_upA, blk_up (M 1) (110 * z) k (M 4)]
              rfl
            refine sy_iinc (lv1 := [(5, .int (iI ((k + 1 : Nat) : Int))), (0, .ref (ad 0)), (1, .int (iI ((z : Nat) : Int))), (2, .int (iI ((n0 : Nat) : Int))), (3, .int (iI s0)), (4, .int (iI ((q : Nat) : Int)))]) X d_M_store_79 hl 5 rfl (by omega) (by decide) rfl (fun ls hl => ?_)
            refine sy_goto (tgt := 53) X d_M_store_82 (by decide) ?_
            rw [eW] at hw
            exact ih_key2 (k + 1) H locs ls (by omega) (by omega) hw (lv_sub hl [1, 2, 3, 4, 5, 0] rfl)
      have e0 : up2 (up2 M 2 z (q : Int)) 3 z (if q = 0 then 0 else s0) = upA (up2 (up2 M 2 z (q : Int)) 3 z (if q = 0 then 0 else s0)) 1 (blk (M 1) (110 * z) 0 (M 4)) := by
        rw [blk_0]; funext a; by_cases h : a = 1 <;> simp [upA, h, up2]
      rw [e0] at hw
      exact key2 (q + 1) 0 H locs ls (by omega) (by omega) hw (lv_sub hl [1, 2, 3, 4, 5, 0] rfl)
    refine sy_iload X d_M_store_39 hl 4 rfl ?_
    refine sy_if_ne (tgt := 48) X d_M_store_41 (by decide) ⟨by omega, by omega⟩ (fun c3 => ?_) (fun c3 => ?_)
    · refine sy_iload_n X d_M_store_48 hl 3 rfl ?_
      exact W_topi (by split <;> omega) (km1 H locs hw)
    · refine sy_iconst X d_M_store_44 ?_
      refine sy_goto (tgt := 49) X d_M_store_45 (by decide) ?_
      exact W_topi (by split <;> omega) (km1 H locs hw)
  refine sy_iload_n X d_M_store_0 hl 2 rfl ?_
  refine sy_istore (lv1 := [(4, .int (iI ((n0 : Nat) : Int))), (0, .ref (ad 0)), (1, .int (iI ((z : Nat) : Int))), (2, .int (iI ((n0 : Nat) : Int))), (3, .int (iI s0))]) X d_M_store_1 hl (by decide) rfl (fun ls hl => ?_)
  have key1 : ∀ (n : Nat) (q : Nat) (H : Heap) (locs : List Loc) (ls : Array Slot), q ≤ n0 → q < n → vl (M 4) q = vl (M 4) n0 → HW D A s.heap (wM ad cs M) H locs → lv_has ls 6 [(0, .ref (ad 0)), (1, .int (iI ((z : Nat) : Int))), (2, .int (iI ((n0 : Nat) : Int))), (3, .int (iI s0)), (4, .int (iI ((q : Nat) : Int)))] → W p l e (rm 1) s m args below meth c H locs 0 0 Q (F0 m 3 ls []) := by
    intro n
    induction n with
    | zero =>
      intro q H locs ls hqn h2 hvq hw hl
      exfalso; omega
    | succ n ih_key1 =>
      intro q H locs ls hqn h2 hvq hw hl
      refine sy_iload X d_M_store_3 hl 4 rfl ?_
      refine sy_if_le (tgt := 26) X d_M_store_5 (by decide) ⟨by omega, by omega⟩ (fun c4 => ?_) (fun c4 => ?_)
      · exact k26 q H locs ls (by omega) hvq (by first | exact Or.inl (by omega) | exact Or.inr (by assumption)) hw (lv_sub hl [0, 1, 2, 3, 4] rfl)
      · refine sy_aload_n X d_M_store_8 hl 0 rfl ?_
        refine m_get X hw 3 (by decide) rfl (tt_of k512 rfl) d_M_store_9 ?_
        refine sy_iload X d_M_store_12 hl 4 rfl ?_
        refine sy_iconst X d_M_store_14 ?_
        refine sy_isub X d_M_store_15 ?_
        refine m_ald X hw 4 (q - 1) (by decide) (by omega) (by simp only [szM]; omega) (M 4 (q - 1)) rfl d_M_store_16 ?_
        have hdq := hd (q - 1) (by omega)
        refine sy_if_ne (tgt := 26) X d_M_store_17 (by decide) ⟨by omega, by omega⟩ (fun c5 => ?_) (fun c5 => ?_)
        · exact k26 q H locs ls (by omega) hvq (by first | exact Or.inl (by omega) | exact Or.inr (by assumption)) hw (lv_sub hl [0, 1, 2, 3, 4] rfl)
        · have hvq1 : vl (M 4) (q - 1) = vl (M 4) n0 := by
            rw [← hvq]
            obtain ⟨t, rfl⟩ : ∃ t, q = t + 1 := ⟨q - 1, by omega⟩
            have c' : M 4 t = 0 := by assumption
            simp only [vl, Nat.add_sub_cancel, c']; omega
          refine sy_iinc (lv1 := [(4, .int (iI (((q : Nat) : Int) + (-1)))), (0, .ref (ad 0)), (1, .int (iI ((z : Nat) : Int))), (2, .int (iI ((n0 : Nat) : Int))), (3, .int (iI s0))]) X d_M_store_20 hl 4 rfl (by omega) (by decide) rfl (fun ls hl => ?_)
          refine sy_goto (tgt := 3) X d_M_store_23 (by decide) ?_
          rw [show (q : Int) + -1 = ((q - 1 : Nat) : Int) by omega] at hl
          exact ih_key1 (q - 1) H locs ls (by omega) (by omega) hvq1 hw (lv_sub hl [1, 2, 3, 4, 0] rfl)
  exact key1 (n0 + 1) n0 H locs ls (by omega) (by omega) rfl hw (lv_sub hl [1, 2, 3, 4, 0] rfl)
end
section
theorem vl_up1 (r : Nat → Int) (k : Nat) (x : Int) : vl (up1 r k x) (k + 1) = vl r k + x * 65536 ^ k := by
  simp only [vl, up1_s]
  rw [vl_congr (fun j hj => up1_n x (show j ≠ k by omega))]
theorem vl_upd {r : Nat → Int} {k : Nat} (x : Int) : ∀ {n : Nat}, k < n → vl (up1 r k x) n = vl r n + (x - r k) * 65536 ^ k
  | 0, h => by omega
  | n + 1, h => by
    by_cases e : k = n
    · subst e; rw [vl_up1]; simp only [vl]; grind
    · simp only [vl]; rw [vl_upd x (n := n) (by omega), up1_n x (show n ≠ k by omega)]; omega
theorem dg_up1 {r : Nat → Int} {k : Nat} {x : Int} (h : Dg r k) (h0 : 0 ≤ x) (h1 : x < 65536) : Dg (up1 r k x) (k + 1) := fun j hj => by
  by_cases e : j = k
  · subst e; rw [up1_s]; exact ⟨h0, h1⟩
  · rw [up1_n x e]; exact h j (by omega)
theorem dg_upd {r : Nat → Int} {k n : Nat} {x : Int} (h : Dg r n) (h0 : 0 ≤ x) (h1 : x < 65536) : Dg (up1 r k x) n := fun j hj => by
  by_cases e : j = k
  · subst e; rw [up1_s]; exact ⟨h0, h1⟩
  · rw [up1_n x e]; exact h j hj
theorem md0 (c : Int) : 0 ≤ c % 65536 ∧ c % 65536 < 65536 := ⟨Int.emod_nonneg _ (by decide), Int.emod_lt_of_pos _ (by decide)⟩
/-- a step of a sum: a digit, a carry -/
theorem add_step {c cy VR A P d : Int} (hc : c = cy + d) (h : VR + cy * P = A) : (VR + c % 65536 * P) + c / 65536 * (P * 65536) = A + d * P := by
  have := Int.emod_add_mul_ediv c 65536
  generalize c % 65536 = x at *
  generalize c / 65536 = y at *
  grind
theorem mul_step {c cy rk d VR T P : Int} (hc : c = cy + rk + d) (h : VR + cy * P = T) : (VR + (c % 65536 - rk) * P) + c / 65536 * (P * 65536) = T + d * P := by
  have := Int.emod_add_mul_ediv c 65536
  generalize c % 65536 = x at *
  generalize c / 65536 = y at *
  grind
theorem sgn_abs (x : Int) : x.sign * (x.natAbs : Int) = x := Int.sign_mul_natAbs x
theorem sgn_1 (x : Int) : x.sign = 1 ∧ 0 < x ∨ x.sign = -1 ∧ x < 0 ∨ x.sign = 0 ∧ x = 0 := by
  rcases Int.lt_trichotomy x 0 with h | h | h
  · exact Or.inr (Or.inl ⟨sgn_neg h, h⟩)
  · exact Or.inr (Or.inr ⟨sgn_0 h, h⟩)
  · exact Or.inl ⟨sgn_pos h, h⟩
/-- sums of numbers of one sign, and of two -/
theorem sum_same {a b s0 : Int} (hs : s0 = 1 ∨ s0 = -1) (h : 0 ≤ a.sign * (s0 * b.sign)) : (if a.sign = 0 then s0 * b.sign else a.sign) * ((a.natAbs : Int) + b.natAbs) = a + s0 * b := by
  rcases sgn_1 a with ⟨h1, h2⟩ | ⟨h1, h2⟩ | ⟨h1, h2⟩ <;> rcases sgn_1 b with ⟨g1, g2⟩ | ⟨g1, g2⟩ | ⟨g1, g2⟩ <;> rcases hs with e | e <;> subst e <;> simp only [h1, g1] at h ⊢ <;> simp <;> omega
theorem sum_diff {a b s0 : Int} (hs : s0 = 1 ∨ s0 = -1) (h : ¬ 0 ≤ a.sign * (s0 * b.sign)) : a.sign * ((a.natAbs : Int) - b.natAbs) = a + s0 * b ∧ s0 * b.sign * ((b.natAbs : Int) - a.natAbs) = a + s0 * b ∧ (a.sign = 1 ∨ a.sign = -1) ∧ (s0 * b.sign = 1 ∨ s0 * b.sign = -1) := by
  rcases sgn_1 a with ⟨h1, h2⟩ | ⟨h1, h2⟩ | ⟨h1, h2⟩ <;> rcases sgn_1 b with ⟨g1, g2⟩ | ⟨g1, g2⟩ | ⟨g1, g2⟩ <;> rcases hs with e | e <;> subst e <;> simp only [h1, g1] at h ⊢ <;> simp at h ⊢ <;> omega
theorem sum_sgn {a b s0 : Int} (hs : s0 = 1 ∨ s0 = -1) : (if a.sign = 0 then s0 * b.sign else a.sign) = 1 ∨ (if a.sign = 0 then s0 * b.sign else a.sign) = -1 ∨ (a.natAbs : Int) + b.natAbs = 0 := by
  rcases sgn_1 a with ⟨h1, h2⟩ | ⟨h1, h2⟩ | ⟨h1, h2⟩ <;> rcases sgn_1 b with ⟨g1, g2⟩ | ⟨g1, g2⟩ | ⟨g1, g2⟩ <;> rcases hs with e | e <;> subst e <;> simp only [h1, g1] <;> simp <;> omega
theorem abs_le_of_sgn {s a : Int} (hs : s = 1 ∨ s = -1 ∨ a = 0) (h0 : 0 ≤ a) : a = ((s * a).natAbs : Int) := by
  rcases hs with e | e | e <;> subst e <;> omega
theorem sgnR (x : Int) : -1 ≤ x.sign ∧ x.sign ≤ 1 := by rcases sgn_1 x with ⟨h, _⟩ | ⟨h, _⟩ | ⟨h, _⟩ <;> rw [h] <;> decide
end
section
theorem c_M_digitOfR (l : Launch) (D : va_G) (cs : Nat → ClassId) (ad : Nat → Nat) (M : Nat → Nat → Int) (r : Nat → Int) (x k : Nat) (hx : x < 120) (hk : k < 2147483648) (hW : Wf M) : Ct (S := Unit) l D (tyL cs) y_M_digitOf b_M_digitOf 3 (some .int) (rm 1) [.ref (ad 0), .int (iI ((x : Nat) : Int)), .int (iI ((k : Nat) : Int))] (wM ad cs (upA M 4 r)) (fun _ => True) (fun _ => some (.int (iI (dgt M x k)))) (fun _ => wM ad cs (upA M 4 r)) := c_M_digitOf l D cs ad (upA M 4 r) x k hx hk hW
set_option maxRecDepth 100000 in
set_option maxHeartbeats 4000000 in
theorem c_M_against (l : Launch) (D : va_G) (cs : Nat → ClassId) (ad : Nat → Nat) (M : Nat → Nat → Int) (N : Nat → Int) (x y : Nat) (hx : x < 120) (hy : y < 120) (hR : Rep M N) : Ct (S := Unit) l D (tyL cs) y_M_against b_M_against 6 (some .int) (rm 2) [.ref (ad 0), .int (iI ((x : Nat) : Int)), .int (iI ((y : Nat) : Int))] (wM ad cs M) (fun _ => True) (fun _ => some (.int (iI (((N x).natAbs : Int) - (N y).natAbs).sign))) (fun _ => wM ad cs M) := by
  refine Ct.introI (by decide) (Nat.le_of_ble_eq_true rfl) ?_
  intro p e s m below meth c A args Q H locs X hnm hw kr ls hl
  have X : CX D (tyL cs) R_M b_M_against 6 p m c s args := X
  have hl : lv_has ls 6 [(0, .ref (ad 0)), (1, .int (iI ((x : Nat) : Int))), (2, .int (iI ((y : Nat) : Int)))] := hl
  have hWf := hR.wf
  obtain ⟨ux, hux, hux1, hdx, hvx, -, -, -⟩ := (hR x hx).dig
  obtain ⟨uy, huy, huy1, hdy, hvy, -, -, -⟩ := (hR y hy).dig
  obtain ⟨q, hq⟩ : ∃ q, q = max ux uy := ⟨_, rfl⟩
  have hvx := hvx q (by omega)
  have hvy := hvy q (by omega)
  have km1 : ∀ (H : Heap) (locs : List Loc), HW D A s.heap (wM ad cs M) H locs → W p l e (rm 2) s m args below meth c H locs 0 0 Q (F0 m 30 ls [.int (iI (q : Int))]) := by
    intro H locs hw
    refine sy_istore_n (lv1 := [(3, .int (iI (q : Int))), (0, .ref (ad 0)), (1, .int (iI ((x : Nat) : Int))), (2, .int (iI ((y : Nat) : Int)))]) X d_M_against_30 hl rfl (by decide) rfl (fun ls hl => ?_)
    refine sy_iload_n X d_M_against_31 hl 0 rfl ?_
    refine sy_iconst X d_M_against_32 ?_
    refine sy_isub X d_M_against_33 ?_
    refine sy_istore (lv1 := [(4, .int (iI ((q : Int) - 1))), (3, .int (iI (q : Int))), (0, .ref (ad 0)), (1, .int (iI ((x : Nat) : Int))), (2, .int (iI ((y : Nat) : Int)))]) X d_M_against_34 hl (by decide) rfl (fun ls hl => ?_)
    have key : ∀ (n : Nat) (j : Nat) (H : Heap) (locs : List Loc) (ls : Array Slot), j ≤ q → j < n → vl (dgt M x) j - vl (dgt M y) j = ((N x).natAbs : Int) - (N y).natAbs → HW D A s.heap (wM ad cs M) H locs → lv_has ls 6 [(0, .ref (ad 0)), (1, .int (iI ((x : Nat) : Int))), (2, .int (iI ((y : Nat) : Int))), (3, .int (iI ((q : Nat) : Int))), (4, .int (iI ((j : Int) - 1)))] → W p l e (rm 2) s m args below meth c H locs 0 0 Q (F0 m 36 ls []) := by
      intro n
      induction n with
      | zero =>
        intro j H locs ls h1 h2 hj hw hl
        exfalso; omega
      | succ n ih_key =>
        intro j H locs ls h1 h2 hj hw hl
        refine sy_iload X d_M_against_36 hl 4 rfl ?_
        refine sy_if_lt (tgt := 80) X d_M_against_38 (by decide) ⟨by omega, by omega⟩ (fun c2 => ?_) (fun c2 => ?_)
        · refine sy_iconst X d_M_against_80 ?_
          exact kr () _ _ _ _ _ d_M_against_81 hw trivial (by rw [sgn_0 (v := ((N x).natAbs : Int) - (N y).natAbs) (by rw [← hj, show j = 0 by omega]; rfl)])
        · rw [show ((j : Int) - 1) = ((j - 1 : Nat) : Int) by omega] at hl
          have hbx := hdx j (j - 1) (by omega)
          have hby := hdy j (j - 1) (by omega)
          refine sy_aload_n X d_M_against_41 hl 0 rfl ?_
          refine sy_iload_n X d_M_against_42 hl 1 rfl ?_
          refine sy_iload X d_M_against_43 hl 4 rfl ?_
          refine call_Vi (Xs := []) (b := ad 0) (As := [.int (iI ((x : Nat) : Int)), .int (iI ((j - 1 : Nat) : Int))]) (rest := []) X lk_M_40 (c_M_digitOf l D cs ad M x (j - 1) (by omega) (by omega) hWf) ⟨by decide, by decide⟩ rcv_M hw rfl hl.1 (Nat.le_of_ble_eq_true rfl) d_M_against_45 rfl rfl ⟨Nat.zero_le _, Nat.zero_le _⟩ (fun _ H locs _ hw => ?_)
          refine sy_aload_n X d_M_against_48 hl 0 rfl ?_
          refine sy_iload_n X d_M_against_49 hl 2 rfl ?_
          refine sy_iload X d_M_against_50 hl 4 rfl ?_
          refine call_Vi (Xs := []) (b := ad 0) (As := [.int (iI ((y : Nat) : Int)), .int (iI ((j - 1 : Nat) : Int))]) (rest := [.int (iI (dgt M x (j - 1)))]) X lk_M_40 (c_M_digitOf l D cs ad M y (j - 1) (by omega) (by omega) hWf) ⟨by decide, by decide⟩ rcv_M hw rfl hl.1 (Nat.le_of_ble_eq_true rfl) d_M_against_52 rfl rfl ⟨Nat.zero_le _, Nat.zero_le _⟩ (fun _ H locs _ hw => ?_)
          refine sy_isub X d_M_against_55 ?_
          refine sy_istore (lv1 := [(5, .int (iI ((dgt M x (j - 1)) - (dgt M y (j - 1))))), (0, .ref (ad 0)), (1, .int (iI ((x : Nat) : Int))), (2, .int (iI ((y : Nat) : Int))), (3, .int (iI ((q : Nat) : Int))), (4, .int (iI ((j - 1 : Nat) : Int)))]) X d_M_against_56 hl (by decide) rfl (fun ls hl => ?_)
          refine sy_iload X d_M_against_58 hl 0 rfl ?_
          refine sy_if_eq (tgt := 74) X d_M_against_60 (by decide) ⟨by omega, by omega⟩ (fun c3 => ?_) (fun c3 => ?_)
          · have hj1 : vl (dgt M x) (j - 1) - vl (dgt M y) (j - 1) = ((N x).natAbs : Int) - (N y).natAbs := by
              rw [← hj]
              obtain ⟨t, rfl⟩ : ∃ t, j = t + 1 := ⟨j - 1, by omega⟩
              simp only [Nat.add_sub_cancel] at *
              simp only [vl]
              rw [show dgt M x t = dgt M y t by omega]; omega
            refine sy_iinc (lv1 := [(4, .int (iI (((j - 1 : Nat) : Int) + (-1)))), (5, .int (iI ((dgt M x (j - 1)) - (dgt M y (j - 1))))), (0, .ref (ad 0)), (1, .int (iI ((x : Nat) : Int))), (2, .int (iI ((y : Nat) : Int))), (3, .int (iI ((q : Nat) : Int)))]) X d_M_against_74 hl 5 rfl (by omega) (by decide) rfl (fun ls hl => ?_)
            refine sy_goto (tgt := 36) X d_M_against_77 (by decide) ?_
            rw [show (((j - 1 : Nat) : Int) + (-1)) = (((j - 1 : Nat) : Int) - 1) by omega] at hl
            exact ih_key (j - 1) H locs ls (by omega) (by omega) hj1 hw (lv_sub hl [2, 3, 4, 5, 0] rfl)
          · obtain ⟨t, rfl⟩ : ∃ t, j = t + 1 := ⟨j - 1, by omega⟩
            simp only [Nat.add_sub_cancel] at *
            have hcd := cmp_dig (hdx (t + 1)) (hdy (t + 1))
            have hlo : dgt M x t - dgt M y t < 0 → (((N x).natAbs : Int) - (N y).natAbs).sign = -1 := fun h => sgn_neg (by have := hcd.1 (by omega); omega)
            have hhi : 0 < dgt M x t - dgt M y t → (((N x).natAbs : Int) - (N y).natAbs).sign = 1 := fun h => sgn_pos (by have := hcd.2 (by omega); omega)
            have km4 : ∀ (H : Heap) (locs : List Loc), HW D A s.heap (wM ad cs M) H locs → W p l e (rm 2) s m args below meth c H locs 0 0 Q (F0 m 73 ls [.int (iI ((((N x).natAbs : Int) - (N y).natAbs).sign))]) := by
              intro H locs hw
              exact kr () _ _ _ _ _ d_M_against_73 hw trivial rfl
            refine sy_iload X d_M_against_63 hl 0 rfl ?_
            refine sy_if_ge (tgt := 72) X d_M_against_65 (by decide) ⟨by omega, by omega⟩ (fun c5 => ?_) (fun c5 => ?_)
            · refine sy_iconst X d_M_against_72 ?_
              exact W_topi (by first | exact hlo (by omega) | exact hhi (by omega)) (km4 H locs hw)
            · refine sy_iconst X d_M_against_68 ?_
              refine sy_goto (tgt := 73) X d_M_against_69 (by decide) ?_
              exact W_topi (by first | exact hlo (by omega) | exact hhi (by omega)) (km4 H locs hw)
    exact key (q + 1) q H locs ls (by omega) (by omega) (by rw [hvx, hvy]) hw (lv_sub hl [2, 3, 4, 1, 0] rfl)
  refine sy_aload_n X d_M_against_0 hl 0 rfl ?_
  refine m_get X hw 1 (by decide) rfl (tt_of k510 rfl) d_M_against_1 ?_
  refine sy_iload_n X d_M_against_4 hl 1 rfl ?_
  refine m_ald X hw 2 x (by decide) (by omega) (by simp only [szM]; omega) (M 2 x) rfl d_M_against_5 ?_
  refine sy_aload_n X d_M_against_6 hl 0 rfl ?_
  refine m_get X hw 1 (by decide) rfl (tt_of k510 rfl) d_M_against_7 ?_
  refine sy_iload_n X d_M_against_10 hl 2 rfl ?_
  refine m_ald X hw 2 y (by decide) (by omega) (by simp only [szM]; omega) (M 2 y) rfl d_M_against_11 ?_
  refine sy_icmp_le (tgt := 24) X d_M_against_12 (by decide) ⟨by omega, by omega⟩ ⟨by omega, by omega⟩ (fun c6 => ?_) (fun c6 => ?_)
  · refine sy_aload_n X d_M_against_24 hl 0 rfl ?_
    refine m_get X hw 1 (by decide) rfl (tt_of k510 rfl) d_M_against_25 ?_
    refine sy_iload_n X d_M_against_28 hl 2 rfl ?_
    refine m_ald X hw 2 y (by decide) (by omega) (by simp only [szM]; omega) (M 2 y) rfl d_M_against_29 ?_
    exact W_topi (by omega) (km1 H locs hw)
  · refine sy_aload_n X d_M_against_15 hl 0 rfl ?_
    refine m_get X hw 1 (by decide) rfl (tt_of k510 rfl) d_M_against_16 ?_
    refine sy_iload_n X d_M_against_19 hl 1 rfl ?_
    refine m_ald X hw 2 x (by decide) (by omega) (by simp only [szM]; omega) (M 2 x) rfl d_M_against_20 ?_
    refine sy_goto (tgt := 30) X d_M_against_21 (by decide) ?_
    exact W_topi (by omega) (km1 H locs hw)
set_option maxRecDepth 100000 in
set_option maxHeartbeats 4000000 in
theorem c_M_sum (l : Launch) (D : va_G) (cs : Nat → ClassId) (ad : Nat → Nat) (M : Nat → Nat → Int) (N : Nat → Int) (z x y : Nat) (s0 : Int) (hz : z < 120) (hx : x < 120) (hy : y < 120) (hs0 : s0 = 1 ∨ s0 = -1) (hR : Rep M N) (hb : ((N x + s0 * N y).natAbs : Int) < 65536 ^ 110) : Ct (S := Nat → Nat → Int) l D (tyL cs) y_M_sum b_M_sum 13 none (rm 3) [.ref (ad 0), .int (iI ((z : Nat) : Int)), .int (iI ((x : Nat) : Int)), .int (iI ((y : Nat) : Int)), .int (iI s0)] (wM ad cs M) (fun M1 => Rep M1 (up1 N z (N x + s0 * N y)) ∧ Sm M M1) (fun _ => none) (fun M1 => wM ad cs M1) := by
  refine Ct.introV (by decide) (Nat.le_of_ble_eq_true rfl) (fun _ => rfl) ?_
  intro p e s m below meth c A args Q H locs X hnm hw kr ls hl
  have X : CX D (tyL cs) R_M b_M_sum 13 p m c s args := X
  have hl : lv_has ls 13 [(0, .ref (ad 0)), (1, .int (iI ((z : Nat) : Int))), (2, .int (iI ((x : Nat) : Int))), (3, .int (iI ((y : Nat) : Int))), (4, .int (iI s0))] := hl
  have hWf := hR.wf
  obtain ⟨ux, hux, hux1, hdx, hvx, -, -, hsx⟩ := (hR x hx).dig
  obtain ⟨uy, huy, huy1, hdy, hvy, -, -, hsy⟩ := (hR y hy).dig
  obtain ⟨q, hq⟩ : ∃ q, q = max ux uy := ⟨_, rfl⟩
  have hvx := hvx q (by omega)
  have hvy := hvy q (by omega)
  have hR4 : ∀ r, Rep (upA M 4 r) N := fun r z hz => hR z hz
  have hsgx := sgnR (N x)
  have hsgy := sgnR (N y)
  have hso : -1 ≤ s0 * (N y).sign ∧ s0 * (N y).sign ≤ 1 := by rcases hs0 with h | h <;> subst h <;> omega
  have km1 : ∀ (H : Heap) (locs : List Loc), HW D A s.heap (wM ad cs M) H locs → W p l e (rm 3) s m args below meth c H locs 0 0 Q (F0 m 30 ls [.int (iI (q : Int))]) := by
    intro H locs hw
    refine sy_istore (lv1 := [(5, .int (iI (q : Int))), (0, .ref (ad 0)), (1, .int (iI ((z : Nat) : Int))), (2, .int (iI ((x : Nat) : Int))), (3, .int (iI ((y : Nat) : Int))), (4, .int (iI s0))]) X d_M_sum_30 hl (by decide) rfl (fun ls hl => ?_)
    refine sy_iload X d_M_sum_32 hl 5 rfl ?_
    refine sy_aload_n X d_M_sum_34 hl 1 rfl ?_
    refine m_get X hw 2 (by decide) rfl (tt_of k511 rfl) d_M_sum_35 ?_
    refine sy_iload_n X d_M_sum_38 hl 4 rfl ?_
    refine m_ald X hw 3 y (by decide) (by omega) (by simp only [szM]; omega) ((N y).sign) hsy d_M_sum_39 ?_
    refine sy_imul X d_M_sum_40 ?_
    refine sy_istore (lv1 := [(6, .int (iI (s0 * ((N y).sign)))), (5, .int (iI (q : Int))), (0, .ref (ad 0)), (1, .int (iI ((z : Nat) : Int))), (2, .int (iI ((x : Nat) : Int))), (3, .int (iI ((y : Nat) : Int))), (4, .int (iI s0))]) X d_M_sum_41 hl (by decide) rfl (fun ls hl => ?_)
    refine sy_iconst X d_M_sum_43 ?_
    refine sy_istore (lv1 := [(7, .int (iI 0)), (6, .int (iI (s0 * ((N y).sign)))), (5, .int (iI (q : Int))), (0, .ref (ad 0)), (1, .int (iI ((z : Nat) : Int))), (2, .int (iI ((x : Nat) : Int))), (3, .int (iI ((y : Nat) : Int))), (4, .int (iI s0))]) X d_M_sum_44 hl (by decide) rfl (fun ls hl => ?_)
    refine sy_aload_n X d_M_sum_46 hl 3 rfl ?_
    refine m_get X hw 2 (by decide) rfl (tt_of k511 rfl) d_M_sum_47 ?_
    refine sy_iload_n X d_M_sum_50 hl 5 rfl ?_
    refine m_ald X hw 3 x (by decide) (by omega) (by simp only [szM]; omega) ((N x).sign) hsx d_M_sum_51 ?_
    refine sy_iload X d_M_sum_52 hl 1 rfl ?_
    have hsp : -1 ≤ (N x).sign * (s0 * (N y).sign) ∧ (N x).sign * (s0 * (N y).sign) ≤ 1 := by
      have g1 : (N x).sign = -1 ∨ (N x).sign = 0 ∨ (N x).sign = 1 := by omega
      rcases g1 with h | h | h <;> rw [h] <;> omega
    refine sy_imul X d_M_sum_54 ?_
    refine sy_if_lt (tgt := 152) X d_M_sum_55 (by decide) ⟨by omega, by omega⟩ (fun c2 => ?_) (fun c2 => ?_)
    · refine sy_aload_n X d_M_sum_152 hl 3 rfl ?_
      refine sy_iload_n X d_M_sum_153 hl 5 rfl ?_
      refine sy_iload_n X d_M_sum_154 hl 6 rfl ?_
      refine call_Vi (Xs := []) (b := ad 0) (As := [.int (iI ((x : Nat) : Int)), .int (iI ((y : Nat) : Int))]) (rest := []) X lk_M_49 (c_M_against l D cs ad M N x y (by omega) (by omega) hR) ⟨by decide, by decide⟩ rcv_M hw rfl hl.1 (Nat.le_of_ble_eq_true rfl) d_M_sum_155 rfl rfl ⟨Nat.zero_le _, Nat.zero_le _⟩ (fun _ H locs _ hw => ?_)
      have hsd := sgnR (((N x).natAbs : Int) - (N y).natAbs)
      have hdf := sum_diff (a := N x) (b := N y) hs0 (by omega)
      refine sy_if_lt (tgt := 165) X d_M_sum_158 (by decide) ⟨by omega, by omega⟩ (fun c3 => ?_) (fun c3 => ?_)
      · have hord : ((N x).natAbs : Int) ≤ (N y).natAbs := by
          rcases sgn_1 (((N x).natAbs : Int) - (N y).natAbs) with ⟨g1, g2⟩ | ⟨g1, g2⟩ | ⟨g1, g2⟩ <;> omega
        refine sy_iconst X d_M_sum_165 ?_
        refine sy_istore (lv1 := [(8, .int (iI 0)), (7, .int (iI 0)), (6, .int (iI (s0 * ((N y).sign)))), (5, .int (iI (q : Int))), (0, .ref (ad 0)), (1, .int (iI ((z : Nat) : Int))), (2, .int (iI ((x : Nat) : Int))), (3, .int (iI ((y : Nat) : Int))), (4, .int (iI s0))]) X d_M_sum_166 hl (by decide) rfl (fun ls hl => ?_)
        refine sy_iload X d_M_sum_168 hl 0 rfl ?_
        refine sy_if_eq (tgt := 177) X d_M_sum_170 (by decide) ⟨by decide, by decide⟩ (fun c4 => ?_) (fun c4 => ?_)
        · refine sy_iload_n X d_M_sum_177 hl 7 rfl ?_
          refine sy_istore (lv1 := [(9, .int (iI ((y : Nat) : Int))), (8, .int (iI 0)), (7, .int (iI 0)), (6, .int (iI (s0 * ((N y).sign)))), (5, .int (iI (q : Int))), (0, .ref (ad 0)), (1, .int (iI ((z : Nat) : Int))), (2, .int (iI ((x : Nat) : Int))), (3, .int (iI ((y : Nat) : Int))), (4, .int (iI s0))]) X d_M_sum_178 hl (by decide) rfl (fun ls hl => ?_)
          refine sy_iload X d_M_sum_180 hl 1 rfl ?_
          refine sy_if_eq (tgt := 189) X d_M_sum_182 (by decide) ⟨by decide, by decide⟩ (fun c5 => ?_) (fun c5 => ?_)
          · refine sy_iload_n X d_M_sum_189 hl 7 rfl ?_
            refine sy_istore (lv1 := [(10, .int (iI ((x : Nat) : Int))), (9, .int (iI ((y : Nat) : Int))), (8, .int (iI 0)), (7, .int (iI 0)), (6, .int (iI (s0 * ((N y).sign)))), (5, .int (iI (q : Int))), (0, .ref (ad 0)), (1, .int (iI ((z : Nat) : Int))), (2, .int (iI ((x : Nat) : Int))), (3, .int (iI ((y : Nat) : Int))), (4, .int (iI s0))]) X d_M_sum_190 hl (by decide) rfl (fun ls hl => ?_)
            have eM : M = upA M 4 (M 4) := (upA_self M 4).symm
            refine sy_iconst X d_M_sum_192 ?_
            refine sy_istore (lv1 := [(11, .int (iI 0)), (10, .int (iI ((x : Nat) : Int))), (9, .int (iI ((y : Nat) : Int))), (8, .int (iI 0)), (7, .int (iI 0)), (6, .int (iI (s0 * ((N y).sign)))), (5, .int (iI (q : Int))), (0, .ref (ad 0)), (1, .int (iI ((z : Nat) : Int))), (2, .int (iI ((x : Nat) : Int))), (3, .int (iI ((y : Nat) : Int))), (4, .int (iI s0))]) X d_M_sum_193 hl (by decide) rfl (fun ls hl => ?_)
            have keyB : ∀ (n : Nat) (k : Nat) (r : Nat → Int) (cy : Int) (H : Heap) (locs : List Loc) (ls : Array Slot), k ≤ q → q < k + n → Dg r k → (cy = 0 ∨ cy = -1) → vl r k + cy * 65536 ^ k = vl (dgt M y) k - vl (dgt M x) k → HW D A s.heap (wM ad cs (upA M 4 r)) H locs → lv_has ls 13 [(0, .ref (ad 0)), (1, .int (iI ((z : Nat) : Int))), (2, .int (iI ((x : Nat) : Int))), (3, .int (iI ((y : Nat) : Int))), (4, .int (iI s0)), (5, .int (iI ((q : Nat) : Int))), (6, .int (iI (s0 * (N y).sign))), (7, .int (iI cy)), (8, .int (iI 0)), (9, .int (iI ((y : Nat) : Int))), (10, .int (iI ((x : Nat) : Int))), (11, .int (iI ((k : Nat) : Int)))] → W p l e (rm 3) s m args below meth c H locs 0 0 Q (F0 m 195 ls []) := by
              intro n
              induction n with
              | zero =>
                intro k r cy H locs ls h1 h2 h3 h4 h5 hw hl
                exfalso; omega
              | succ n ih_keyB =>
                intro k r cy H locs ls h1 h2 h3 h4 h5 hw hl
                refine sy_iload X d_M_sum_195 hl 11 rfl ?_
                refine sy_iload X d_M_sum_197 hl 5 rfl ?_
                refine sy_icmp_ge (tgt := 254) X d_M_sum_199 (by decide) ⟨by omega, by omega⟩ ⟨by omega, by omega⟩ (fun c6 => ?_) (fun c6 => ?_)
                · have hkq : k = q := by omega
                  rw [hkq] at h3 h5
                  have hcy : cy = 0 := by
                    rcases h4 with h | h
                    · exact h
                    · exfalso; rw [h] at h5; have := vl_lt h3; rw [hvx, hvy] at h5; omega
                  rw [hcy] at h5
                  have hVr : vl r q = ((N y).natAbs : Int) - (N x).natAbs := by rw [hvx, hvy] at h5; omega
                  have hDr := h3
                  have hBr : ((N y).natAbs : Int) - (N x).natAbs < 65536 ^ 110 := by
                    rcases hdf with ⟨g1, g2, g3, g4⟩
                    rw [← g2] at hb
                    rcases g4 with g | g <;> rw [g] at hb <;> omega
                  have hSr : s0 * (N y).sign = 1 ∨ s0 * (N y).sign = -1 ∨ ((N y).natAbs : Int) - (N x).natAbs = 0 := by
                    rcases hdf.2.2.2 with g | g
                    · exact Or.inl g
                    · exact Or.inr (Or.inl g)
                  have hEr := hdf.2.1
                  refine sy_aload_n X d_M_sum_254 hl 0 rfl ?_
                  refine sy_iload_n X d_M_sum_255 hl 1 rfl ?_
                  refine sy_iload X d_M_sum_256 hl 5 rfl ?_
                  refine sy_iload X d_M_sum_258 hl 8 rfl ?_
                  refine sy_if_eq (tgt := 272) X d_M_sum_260 (by decide) ⟨by decide, by decide⟩ (fun c7 => ?_) (fun c7 => ?_)
                  · refine sy_iload X d_M_sum_272 hl 6 rfl ?_
                    refine call_Vv (Xs := []) (b := ad 0) (As := [.int (iI ((z : Nat) : Int)), .int (iI ((q : Nat) : Int)), .int (iI (s0 * (N y).sign))]) (rest := []) X lk_M_45 (c_M_store l D cs ad (upA M 4 r) N z q (s0 * (N y).sign) (by omega) (by omega) ⟨by omega, by omega⟩ (hR4 r) (by rw [upA_s]; exact hDr) (by rw [upA_s, hVr]; exact hBr) (by rw [upA_s, hVr]; exact hSr)) ⟨by decide, by decide⟩ rcv_M hw rfl hl.1 (Nat.le_of_ble_eq_true rfl) d_M_sum_274 rfl rfl ⟨Nat.zero_le _, Nat.zero_le _⟩ (fun M1 H locs hp hw => ?_)
                    rw [upA_s, hVr, hEr] at hp
                    exact kr _ _ _ _ _ d_M_sum_277 hw ⟨hp.1, hp.2.1⟩
                  · exact absurd c7 (by decide)
                · have hbx := hdx (k + 1) k (by omega)
                  have hby := hdy (k + 1) k (by omega)
                  refine sy_aload_n X d_M_sum_202 hl 0 rfl ?_
                  refine sy_iload X d_M_sum_203 hl 9 rfl ?_
                  refine sy_iload X d_M_sum_205 hl 11 rfl ?_
                  refine call_Vi (Xs := []) (b := ad 0) (As := [.int (iI ((y : Nat) : Int)), .int (iI ((k : Nat) : Int))]) (rest := []) X lk_M_40 (c_M_digitOfR l D cs ad M r y k (by omega) (by omega) hWf) ⟨by decide, by decide⟩ rcv_M hw rfl hl.1 (Nat.le_of_ble_eq_true rfl) d_M_sum_207 rfl rfl ⟨Nat.zero_le _, Nat.zero_le _⟩ (fun _ H locs _ hw => ?_)
                  refine sy_aload_n X d_M_sum_210 hl 0 rfl ?_
                  refine sy_iload X d_M_sum_211 hl 10 rfl ?_
                  refine sy_iload X d_M_sum_213 hl 11 rfl ?_
                  refine call_Vi (Xs := []) (b := ad 0) (As := [.int (iI ((x : Nat) : Int)), .int (iI ((k : Nat) : Int))]) (rest := [.int (iI (dgt M y k))]) X lk_M_40 (c_M_digitOfR l D cs ad M r x k (by omega) (by omega) hWf) ⟨by decide, by decide⟩ rcv_M hw rfl hl.1 (Nat.le_of_ble_eq_true rfl) d_M_sum_215 rfl rfl ⟨Nat.zero_le _, Nat.zero_le _⟩ (fun _ H locs _ hw => ?_)
                  refine sy_isub X d_M_sum_218 ?_
                  refine sy_iload X d_M_sum_219 hl 7 rfl ?_
                  refine sy_iadd X d_M_sum_221 ?_
                  refine sy_istore (lv1 := [(12, .int (iI (((dgt M y k) - (dgt M x k)) + cy))), (0, .ref (ad 0)), (1, .int (iI ((z : Nat) : Int))), (2, .int (iI ((x : Nat) : Int))), (3, .int (iI ((y : Nat) : Int))), (4, .int (iI s0)), (5, .int (iI ((q : Nat) : Int))), (6, .int (iI (s0 * (N y).sign))), (7, .int (iI cy)), (8, .int (iI 0)), (9, .int (iI ((y : Nat) : Int))), (10, .int (iI ((x : Nat) : Int))), (11, .int (iI ((k : Nat) : Int)))]) X d_M_sum_222 hl (by decide) rfl (fun ls hl => ?_)
                  refine sy_aload_n X d_M_sum_224 hl 1 rfl ?_
                  refine m_get X hw 3 (by decide) rfl (tt_of k512 rfl) d_M_sum_225 ?_
                  refine sy_iload X d_M_sum_228 hl 12 rfl ?_
                  refine sy_iload X d_M_sum_230 hl 0 rfl ?_
                  refine sy_ldc (z := 65535) X (tt_of k589 rfl) d_M_sum_232 (by decide) ?_
                  refine sy_iand X 16 65536 d_M_sum_234 (by decide) (by decide) (by decide) ?_
                  refine m_ast X hw 4 k (by decide) (by omega) (by simp only [szM]; omega) d_M_sum_235 (fun H locs hw => ?_)
                  rw [up2_upA] at hw
                  obtain ⟨r1, er1⟩ : ∃ g, g = up1 r k ((((dgt M y k) - (dgt M x k)) + cy) % 65536) := ⟨_, rfl⟩
                  rw [← er1] at hw
                  have km8 : ∀ (H : Heap) (locs : List Loc), HW D A s.heap (wM ad cs (upA M 4 r1)) H locs → W p l e (rm 3) s m args below meth c H locs 0 0 Q (F0 m 246 ls [.int (iI ((((dgt M y k) - (dgt M x k)) + cy) / 65536))]) := by
                    intro H locs hw
                    refine sy_istore (lv1 := [(7, .int (iI ((((dgt M y k) - (dgt M x k)) + cy) / 65536))), (12, .int (iI (((dgt M y k) - (dgt M x k)) + cy))), (0, .ref (ad 0)), (1, .int (iI ((z : Nat) : Int))), (2, .int (iI ((x : Nat) : Int))), (3, .int (iI ((y : Nat) : Int))), (4, .int (iI s0)), (5, .int (iI ((q : Nat) : Int))), (6, .int (iI (s0 * (N y).sign))), (8, .int (iI 0)), (9, .int (iI ((y : Nat) : Int))), (10, .int (iI ((x : Nat) : Int))), (11, .int (iI ((k : Nat) : Int)))]) X d_M_sum_246 hl (by decide) rfl (fun ls hl => ?_)
                    refine sy_iinc (lv1 := [(11, .int (iI ((k + 1 : Nat) : Int))), (7, .int (iI ((((dgt M y k) - (dgt M x k)) + cy) / 65536))), (12, .int (iI (((dgt M y k) - (dgt M x k)) + cy))), (0, .ref (ad 0)), (1, .int (iI ((z : Nat) : Int))), (2, .int (iI ((x : Nat) : Int))), (3, .int (iI ((y : Nat) : Int))), (4, .int (iI s0)), (5, .int (iI ((q : Nat) : Int))), (6, .int (iI (s0 * (N y).sign))), (8, .int (iI 0)), (9, .int (iI ((y : Nat) : Int))), (10, .int (iI ((x : Nat) : Int)))]) X d_M_sum_248 hl 12 rfl (by omega) (by decide) rfl (fun ls hl => ?_)
                    refine sy_goto (tgt := 195) X d_M_sum_251 (by decide) ?_
                    exact ih_keyB (k + 1) r1 _ H locs ls (by omega) (by omega) (by rw [er1]; exact dg_up1 h3 (md0 _).1 (md0 _).2) (by omega) (by rw [er1, vl_up1, B_succ]; have := add_step (c := dgt M y k - dgt M x k + cy) (d := dgt M y k - dgt M x k) (by omega) h5; simp only [vl]; rw [this]; grind) hw (lv_sub hl [3, 4, 5, 6, 7, 8, 9, 1, 10, 11, 12, 0] rfl)
                  refine sy_iload X d_M_sum_236 hl 0 rfl ?_
                  refine sy_if_ge (tgt := 245) X d_M_sum_238 (by decide) ⟨by omega, by omega⟩ (fun c9 => ?_) (fun c9 => ?_)
                  · refine sy_iconst X d_M_sum_245 ?_
                    exact W_topi (by omega) (km8 H locs hw)
                  · refine sy_iconst X d_M_sum_241 ?_
                    refine sy_goto (tgt := 246) X d_M_sum_242 (by decide) ?_
                    exact W_topi (by omega) (km8 H locs hw)
            rw [eM] at hw
            exact keyB (q + 1) 0 (M 4) 0 H locs ls (by omega) (by omega) (fun k hk => by omega) (by omega) (by simp [vl]) hw (lv_sub hl [7, 8, 9, 10, 11, 6, 5, 4, 3, 2, 1, 0] rfl)
          · exact absurd c5 (by decide)
        · exact absurd c4 (by decide)
      · have hord : ((N y).natAbs : Int) ≤ (N x).natAbs := by
          rcases sgn_1 (((N x).natAbs : Int) - (N y).natAbs) with ⟨g1, g2⟩ | ⟨g1, g2⟩ | ⟨g1, g2⟩ <;> omega
        refine sy_iconst X d_M_sum_161 ?_
        refine sy_goto (tgt := 166) X d_M_sum_162 (by decide) ?_
        refine sy_istore (lv1 := [(8, .int (iI 1)), (7, .int (iI 0)), (6, .int (iI (s0 * ((N y).sign)))), (5, .int (iI (q : Int))), (0, .ref (ad 0)), (1, .int (iI ((z : Nat) : Int))), (2, .int (iI ((x : Nat) : Int))), (3, .int (iI ((y : Nat) : Int))), (4, .int (iI s0))]) X d_M_sum_166 hl (by decide) rfl (fun ls hl => ?_)
        refine sy_iload X d_M_sum_168 hl 0 rfl ?_
        refine sy_if_eq (tgt := 177) X d_M_sum_170 (by decide) ⟨by decide, by decide⟩ (fun c10 => ?_) (fun c10 => ?_)
        · exact absurd c10 (by decide)
        · refine sy_iload_n X d_M_sum_173 hl 6 rfl ?_
          refine sy_goto (tgt := 178) X d_M_sum_174 (by decide) ?_
          refine sy_istore (lv1 := [(9, .int (iI ((x : Nat) : Int))), (8, .int (iI 1)), (7, .int (iI 0)), (6, .int (iI (s0 * ((N y).sign)))), (5, .int (iI (q : Int))), (0, .ref (ad 0)), (1, .int (iI ((z : Nat) : Int))), (2, .int (iI ((x : Nat) : Int))), (3, .int (iI ((y : Nat) : Int))), (4, .int (iI s0))]) X d_M_sum_178 hl (by decide) rfl (fun ls hl => ?_)
          refine sy_iload X d_M_sum_180 hl 1 rfl ?_
          refine sy_if_eq (tgt := 189) X d_M_sum_182 (by decide) ⟨by decide, by decide⟩ (fun c11 => ?_) (fun c11 => ?_)
          · exact absurd c11 (by decide)
          · refine sy_iload_n X d_M_sum_185 hl 8 rfl ?_
            refine sy_goto (tgt := 190) X d_M_sum_186 (by decide) ?_
            refine sy_istore (lv1 := [(10, .int (iI ((y : Nat) : Int))), (9, .int (iI ((x : Nat) : Int))), (8, .int (iI 1)), (7, .int (iI 0)), (6, .int (iI (s0 * ((N y).sign)))), (5, .int (iI (q : Int))), (0, .ref (ad 0)), (1, .int (iI ((z : Nat) : Int))), (2, .int (iI ((x : Nat) : Int))), (3, .int (iI ((y : Nat) : Int))), (4, .int (iI s0))]) X d_M_sum_190 hl (by decide) rfl (fun ls hl => ?_)
            have eM : M = upA M 4 (M 4) := (upA_self M 4).symm
            refine sy_iconst X d_M_sum_192 ?_
            refine sy_istore (lv1 := [(11, .int (iI 0)), (10, .int (iI ((y : Nat) : Int))), (9, .int (iI ((x : Nat) : Int))), (8, .int (iI 1)), (7, .int (iI 0)), (6, .int (iI (s0 * ((N y).sign)))), (5, .int (iI (q : Int))), (0, .ref (ad 0)), (1, .int (iI ((z : Nat) : Int))), (2, .int (iI ((x : Nat) : Int))), (3, .int (iI ((y : Nat) : Int))), (4, .int (iI s0))]) X d_M_sum_193 hl (by decide) rfl (fun ls hl => ?_)
            have keyB : ∀ (n : Nat) (k : Nat) (r : Nat → Int) (cy : Int) (H : Heap) (locs : List Loc) (ls : Array Slot), k ≤ q → q < k + n → Dg r k → (cy = 0 ∨ cy = -1) → vl r k + cy * 65536 ^ k = vl (dgt M x) k - vl (dgt M y) k → HW D A s.heap (wM ad cs (upA M 4 r)) H locs → lv_has ls 13 [(0, .ref (ad 0)), (1, .int (iI ((z : Nat) : Int))), (2, .int (iI ((x : Nat) : Int))), (3, .int (iI ((y : Nat) : Int))), (4, .int (iI s0)), (5, .int (iI ((q : Nat) : Int))), (6, .int (iI (s0 * (N y).sign))), (7, .int (iI cy)), (8, .int (iI 1)), (9, .int (iI ((x : Nat) : Int))), (10, .int (iI ((y : Nat) : Int))), (11, .int (iI ((k : Nat) : Int)))] → W p l e (rm 3) s m args below meth c H locs 0 0 Q (F0 m 195 ls []) := by
              intro n
              induction n with
              | zero =>
                intro k r cy H locs ls h1 h2 h3 h4 h5 hw hl
                exfalso; omega
              | succ n ih_keyB =>
                intro k r cy H locs ls h1 h2 h3 h4 h5 hw hl
                refine sy_iload X d_M_sum_195 hl 11 rfl ?_
                refine sy_iload X d_M_sum_197 hl 5 rfl ?_
                refine sy_icmp_ge (tgt := 254) X d_M_sum_199 (by decide) ⟨by omega, by omega⟩ ⟨by omega, by omega⟩ (fun c12 => ?_) (fun c12 => ?_)
                · have hkq : k = q := by omega
                  rw [hkq] at h3 h5
                  have hcy : cy = 0 := by
                    rcases h4 with h | h
                    · exact h
                    · exfalso; rw [h] at h5; have := vl_lt h3; rw [hvx, hvy] at h5; omega
                  rw [hcy] at h5
                  have hVr : vl r q = ((N x).natAbs : Int) - (N y).natAbs := by rw [hvx, hvy] at h5; omega
                  have hDr := h3
                  have hBr : ((N x).natAbs : Int) - (N y).natAbs < 65536 ^ 110 := by
                    rcases hdf with ⟨g1, g2, g3, g4⟩
                    rw [← g1] at hb
                    rcases g3 with g | g <;> rw [g] at hb <;> omega
                  have hSr : (N x).sign = 1 ∨ (N x).sign = -1 ∨ ((N x).natAbs : Int) - (N y).natAbs = 0 := by
                    rcases hdf.2.2.1 with g | g
                    · exact Or.inl g
                    · exact Or.inr (Or.inl g)
                  have hEr := hdf.1
                  refine sy_aload_n X d_M_sum_254 hl 0 rfl ?_
                  refine sy_iload_n X d_M_sum_255 hl 1 rfl ?_
                  refine sy_iload X d_M_sum_256 hl 5 rfl ?_
                  refine sy_iload X d_M_sum_258 hl 8 rfl ?_
                  refine sy_if_eq (tgt := 272) X d_M_sum_260 (by decide) ⟨by decide, by decide⟩ (fun c13 => ?_) (fun c13 => ?_)
                  · exact absurd c13 (by decide)
                  · refine sy_aload_n X d_M_sum_263 hl 0 rfl ?_
                    refine m_get X hw 2 (by decide) rfl (tt_of k511 rfl) d_M_sum_264 ?_
                    refine sy_iload_n X d_M_sum_267 hl 2 rfl ?_
                    refine m_ald X hw 3 x (by decide) (by omega) (by simp only [szM]; omega) ((N x).sign) hsx d_M_sum_268 ?_
                    refine sy_goto (tgt := 274) X d_M_sum_269 (by decide) ?_
                    refine call_Vv (Xs := []) (b := ad 0) (As := [.int (iI ((z : Nat) : Int)), .int (iI ((q : Nat) : Int)), .int (iI ((N x).sign))]) (rest := []) X lk_M_45 (c_M_store l D cs ad (upA M 4 r) N z q ((N x).sign) (by omega) (by omega) ⟨by omega, by omega⟩ (hR4 r) (by rw [upA_s]; exact hDr) (by rw [upA_s, hVr]; exact hBr) (by rw [upA_s, hVr]; exact hSr)) ⟨by decide, by decide⟩ rcv_M hw rfl hl.1 (Nat.le_of_ble_eq_true rfl) d_M_sum_274 rfl rfl ⟨Nat.zero_le _, Nat.zero_le _⟩ (fun M1 H locs hp hw => ?_)
                    rw [upA_s, hVr, hEr] at hp
                    exact kr _ _ _ _ _ d_M_sum_277 hw ⟨hp.1, hp.2.1⟩
                · have hbx := hdx (k + 1) k (by omega)
                  have hby := hdy (k + 1) k (by omega)
                  refine sy_aload_n X d_M_sum_202 hl 0 rfl ?_
                  refine sy_iload X d_M_sum_203 hl 9 rfl ?_
                  refine sy_iload X d_M_sum_205 hl 11 rfl ?_
                  refine call_Vi (Xs := []) (b := ad 0) (As := [.int (iI ((x : Nat) : Int)), .int (iI ((k : Nat) : Int))]) (rest := []) X lk_M_40 (c_M_digitOfR l D cs ad M r x k (by omega) (by omega) hWf) ⟨by decide, by decide⟩ rcv_M hw rfl hl.1 (Nat.le_of_ble_eq_true rfl) d_M_sum_207 rfl rfl ⟨Nat.zero_le _, Nat.zero_le _⟩ (fun _ H locs _ hw => ?_)
                  refine sy_aload_n X d_M_sum_210 hl 0 rfl ?_
                  refine sy_iload X d_M_sum_211 hl 10 rfl ?_
                  refine sy_iload X d_M_sum_213 hl 11 rfl ?_
                  refine call_Vi (Xs := []) (b := ad 0) (As := [.int (iI ((y : Nat) : Int)), .int (iI ((k : Nat) : Int))]) (rest := [.int (iI (dgt M x k))]) X lk_M_40 (c_M_digitOfR l D cs ad M r y k (by omega) (by omega) hWf) ⟨by decide, by decide⟩ rcv_M hw rfl hl.1 (Nat.le_of_ble_eq_true rfl) d_M_sum_215 rfl rfl ⟨Nat.zero_le _, Nat.zero_le _⟩ (fun _ H locs _ hw => ?_)
                  refine sy_isub X d_M_sum_218 ?_
                  refine sy_iload X d_M_sum_219 hl 7 rfl ?_
                  refine sy_iadd X d_M_sum_221 ?_
                  refine sy_istore (lv1 := [(12, .int (iI (((dgt M x k) - (dgt M y k)) + cy))), (0, .ref (ad 0)), (1, .int (iI ((z : Nat) : Int))), (2, .int (iI ((x : Nat) : Int))), (3, .int (iI ((y : Nat) : Int))), (4, .int (iI s0)), (5, .int (iI ((q : Nat) : Int))), (6, .int (iI (s0 * (N y).sign))), (7, .int (iI cy)), (8, .int (iI 1)), (9, .int (iI ((x : Nat) : Int))), (10, .int (iI ((y : Nat) : Int))), (11, .int (iI ((k : Nat) : Int)))]) X d_M_sum_222 hl (by decide) rfl (fun ls hl => ?_)
                  refine sy_aload_n X d_M_sum_224 hl 1 rfl ?_
                  refine m_get X hw 3 (by decide) rfl (tt_of k512 rfl) d_M_sum_225 ?_
                  refine sy_iload X d_M_sum_228 hl 12 rfl ?_
                  refine sy_iload X d_M_sum_230 hl 0 rfl ?_
                  refine sy_ldc (z := 65535) X (tt_of k589 rfl) d_M_sum_232 (by decide) ?_
                  refine sy_iand X 16 65536 d_M_sum_234 (by decide) (by decide) (by decide) ?_
                  refine m_ast X hw 4 k (by decide) (by omega) (by simp only [szM]; omega) d_M_sum_235 (fun H locs hw => ?_)
                  rw [up2_upA] at hw
                  obtain ⟨r2, er2⟩ : ∃ g, g = up1 r k ((((dgt M x k) - (dgt M y k)) + cy) % 65536) := ⟨_, rfl⟩
                  rw [← er2] at hw
                  have km14 : ∀ (H : Heap) (locs : List Loc), HW D A s.heap (wM ad cs (upA M 4 r2)) H locs → W p l e (rm 3) s m args below meth c H locs 0 0 Q (F0 m 246 ls [.int (iI ((((dgt M x k) - (dgt M y k)) + cy) / 65536))]) := by
                    intro H locs hw
                    refine sy_istore (lv1 := [(7, .int (iI ((((dgt M x k) - (dgt M y k)) + cy) / 65536))), (12, .int (iI (((dgt M x k) - (dgt M y k)) + cy))), (0, .ref (ad 0)), (1, .int (iI ((z : Nat) : Int))), (2, .int (iI ((x : Nat) : Int))), (3, .int (iI ((y : Nat) : Int))), (4, .int (iI s0)), (5, .int (iI ((q : Nat) : Int))), (6, .int (iI (s0 * (N y).sign))), (8, .int (iI 1)), (9, .int (iI ((x : Nat) : Int))), (10, .int (iI ((y : Nat) : Int))), (11, .int (iI ((k : Nat) : Int)))]) X d_M_sum_246 hl (by decide) rfl (fun ls hl => ?_)
                    refine sy_iinc (lv1 := [(11, .int (iI ((k + 1 : Nat) : Int))), (7, .int (iI ((((dgt M x k) - (dgt M y k)) + cy) / 65536))), (12, .int (iI (((dgt M x k) - (dgt M y k)) + cy))), (0, .ref (ad 0)), (1, .int (iI ((z : Nat) : Int))), (2, .int (iI ((x : Nat) : Int))), (3, .int (iI ((y : Nat) : Int))), (4, .int (iI s0)), (5, .int (iI ((q : Nat) : Int))), (6, .int (iI (s0 * (N y).sign))), (8, .int (iI 1)), (9, .int (iI ((x : Nat) : Int))), (10, .int (iI ((y : Nat) : Int)))]) X d_M_sum_248 hl 12 rfl (by omega) (by decide) rfl (fun ls hl => ?_)
                    refine sy_goto (tgt := 195) X d_M_sum_251 (by decide) ?_
                    exact ih_keyB (k + 1) r2 _ H locs ls (by omega) (by omega) (by rw [er2]; exact dg_up1 h3 (md0 _).1 (md0 _).2) (by omega) (by rw [er2, vl_up1, B_succ]; have := add_step (c := dgt M x k - dgt M y k + cy) (d := dgt M x k - dgt M y k) (by omega) h5; simp only [vl]; rw [this]; grind) hw (lv_sub hl [3, 4, 5, 6, 7, 8, 9, 1, 10, 11, 12, 0] rfl)
                  refine sy_iload X d_M_sum_236 hl 0 rfl ?_
                  refine sy_if_ge (tgt := 245) X d_M_sum_238 (by decide) ⟨by omega, by omega⟩ (fun c15 => ?_) (fun c15 => ?_)
                  · refine sy_iconst X d_M_sum_245 ?_
                    exact W_topi (by omega) (km14 H locs hw)
                  · refine sy_iconst X d_M_sum_241 ?_
                    refine sy_goto (tgt := 246) X d_M_sum_242 (by decide) ?_
                    exact W_topi (by omega) (km14 H locs hw)
            rw [eM] at hw
            exact keyB (q + 1) 0 (M 4) 0 H locs ls (by omega) (by omega) (fun k hk => by omega) (by omega) (by simp [vl]) hw (lv_sub hl [7, 8, 9, 10, 11, 6, 5, 4, 3, 2, 1, 0] rfl)
    · have eM : M = upA M 4 (M 4) := (upA_self M 4).symm
      refine sy_iconst X d_M_sum_58 ?_
      refine sy_istore (lv1 := [(8, .int (iI 0)), (7, .int (iI 0)), (6, .int (iI (s0 * ((N y).sign)))), (5, .int (iI (q : Int))), (0, .ref (ad 0)), (1, .int (iI ((z : Nat) : Int))), (2, .int (iI ((x : Nat) : Int))), (3, .int (iI ((y : Nat) : Int))), (4, .int (iI s0))]) X d_M_sum_59 hl (by decide) rfl (fun ls hl => ?_)
      have keyA : ∀ (n : Nat) (k : Nat) (r : Nat → Int) (cy : Int) (H : Heap) (locs : List Loc) (ls : Array Slot), k ≤ q → q < k + n → Dg r k → 0 ≤ cy ∧ cy ≤ 1 → vl r k + cy * 65536 ^ k = vl (dgt M x) k + vl (dgt M y) k → HW D A s.heap (wM ad cs (upA M 4 r)) H locs → lv_has ls 13 [(0, .ref (ad 0)), (1, .int (iI ((z : Nat) : Int))), (2, .int (iI ((x : Nat) : Int))), (3, .int (iI ((y : Nat) : Int))), (4, .int (iI s0)), (5, .int (iI ((q : Nat) : Int))), (6, .int (iI (s0 * (N y).sign))), (7, .int (iI cy)), (8, .int (iI ((k : Nat) : Int)))] → W p l e (rm 3) s m args below meth c H locs 0 0 Q (F0 m 61 ls []) := by
        intro n
        induction n with
        | zero =>
          intro k r cy H locs ls h1 h2 h3 h4 h5 hw hl
          exfalso; omega
        | succ n ih_keyA =>
          intro k r cy H locs ls h1 h2 h3 h4 h5 hw hl
          refine sy_iload X d_M_sum_61 hl 8 rfl ?_
          refine sy_iload X d_M_sum_63 hl 5 rfl ?_
          refine sy_icmp_ge (tgt := 113) X d_M_sum_65 (by decide) ⟨by omega, by omega⟩ ⟨by omega, by omega⟩ (fun c16 => ?_) (fun c16 => ?_)
          · refine sy_aload_n X d_M_sum_113 hl 0 rfl ?_
            refine m_get X hw 3 (by decide) rfl (tt_of k512 rfl) d_M_sum_114 ?_
            refine sy_iload X d_M_sum_117 hl 5 rfl ?_
            refine sy_iload X d_M_sum_119 hl 7 rfl ?_
            refine m_ast X hw 4 q (by decide) (by omega) (by simp only [szM]; omega) d_M_sum_121 (fun H locs hw => ?_)
            rw [up2_upA] at hw
            obtain ⟨r3, er3⟩ : ∃ g, g = up1 r q cy := ⟨_, rfl⟩
            rw [← er3] at hw
            have hkq : k = q := by omega
            rw [hkq] at h3 h5
            have hVr : vl r3 (q + 1) = ((N x).natAbs : Int) + (N y).natAbs := by rw [er3, vl_up1, h5, hvx, hvy]
            have hDr : Dg r3 (q + 1) := by rw [er3]; exact dg_up1 h3 h4.1 (by omega)
            have hSr := sum_sgn (a := N x) (b := N y) hs0
            have hBr : ((N x).natAbs : Int) + (N y).natAbs < 65536 ^ 110 := by rcases hs0 with h | h <;> subst h <;> rcases sgn_1 (N x) with ⟨g1, g2⟩ | ⟨g1, g2⟩ | ⟨g1, g2⟩ <;> rcases sgn_1 (N y) with ⟨f1, f2⟩ | ⟨f1, f2⟩ | ⟨f1, f2⟩ <;> simp only [g1, f1] at hsp c2 <;> omega
            have hEr := sum_same (a := N x) (b := N y) hs0 (by omega)
            refine sy_aload_n X d_M_sum_122 hl 0 rfl ?_
            refine sy_iload_n X d_M_sum_123 hl 1 rfl ?_
            refine sy_iload X d_M_sum_124 hl 5 rfl ?_
            refine sy_iconst X d_M_sum_126 ?_
            refine sy_iadd X d_M_sum_127 ?_
            have km17 : ∀ (H : Heap) (locs : List Loc), HW D A s.heap (wM ad cs (upA M 4 r3)) H locs → W p l e (rm 3) s m args below meth c H locs 0 0 Q (F0 m 148 ls [.int (iI (if (N x).sign = 0 then s0 * (N y).sign else (N x).sign)), .int (iI (((q : Nat) : Int) + 1)), .int (iI ((z : Nat) : Int)), .ref (ad 0)]) := by
              intro H locs hw
              refine call_Vv (Xs := []) (b := ad 0) (As := [.int (iI ((z : Nat) : Int)), .int (iI (((q : Nat) : Int) + 1)), .int (iI (if (N x).sign = 0 then s0 * (N y).sign else (N x).sign))]) (rest := []) X lk_M_45 (c_M_store l D cs ad (upA M 4 r3) N z (q + 1) (if (N x).sign = 0 then s0 * (N y).sign else (N x).sign) (by omega) (by omega) ⟨by omega, by omega⟩ (hR4 r3) (by rw [upA_s]; exact hDr) (by rw [upA_s, hVr]; exact hBr) (by rw [upA_s, hVr]; exact hSr)) ⟨by decide, by decide⟩ rcv_M hw rfl hl.1 (Nat.le_of_ble_eq_true rfl) d_M_sum_148 rfl rfl ⟨Nat.zero_le _, Nat.zero_le _⟩ (fun M1 H locs hp hw => ?_)
              rw [upA_s, hVr, hEr] at hp
              exact kr _ _ _ _ _ d_M_sum_151 hw ⟨hp.1, hp.2.1⟩
            refine sy_aload_n X d_M_sum_128 hl 0 rfl ?_
            refine m_get X hw 2 (by decide) rfl (tt_of k511 rfl) d_M_sum_129 ?_
            refine sy_iload_n X d_M_sum_132 hl 2 rfl ?_
            refine m_ald X hw 3 x (by decide) (by omega) (by simp only [szM]; omega) ((N x).sign) hsx d_M_sum_133 ?_
            refine sy_if_ne (tgt := 142) X d_M_sum_134 (by decide) ⟨by omega, by omega⟩ (fun c18 => ?_) (fun c18 => ?_)
            · refine sy_aload_n X d_M_sum_142 hl 0 rfl ?_
              refine m_get X hw 2 (by decide) rfl (tt_of k511 rfl) d_M_sum_143 ?_
              refine sy_iload_n X d_M_sum_146 hl 2 rfl ?_
              refine m_ald X hw 3 x (by decide) (by omega) (by simp only [szM]; omega) ((N x).sign) hsx d_M_sum_147 ?_
              exact W_topi (by split <;> first | rfl | omega) (km17 H locs hw)
            · refine sy_iload X d_M_sum_137 hl 6 rfl ?_
              refine sy_goto (tgt := 148) X d_M_sum_139 (by decide) ?_
              exact W_topi (by split <;> first | rfl | omega) (km17 H locs hw)
          · have hbx := hdx (k + 1) k (by omega)
            have hby := hdy (k + 1) k (by omega)
            refine sy_iload X d_M_sum_68 hl 7 rfl ?_
            refine sy_aload_n X d_M_sum_70 hl 0 rfl ?_
            refine sy_iload_n X d_M_sum_71 hl 2 rfl ?_
            refine sy_iload X d_M_sum_72 hl 8 rfl ?_
            refine call_Vi (Xs := []) (b := ad 0) (As := [.int (iI ((x : Nat) : Int)), .int (iI ((k : Nat) : Int))]) (rest := [.int (iI cy)]) X lk_M_40 (c_M_digitOfR l D cs ad M r x k (by omega) (by omega) hWf) ⟨by decide, by decide⟩ rcv_M hw rfl hl.1 (Nat.le_of_ble_eq_true rfl) d_M_sum_74 rfl rfl ⟨Nat.zero_le _, Nat.zero_le _⟩ (fun _ H locs _ hw => ?_)
            refine sy_iadd X d_M_sum_77 ?_
            refine sy_aload_n X d_M_sum_78 hl 0 rfl ?_
            refine sy_iload_n X d_M_sum_79 hl 3 rfl ?_
            refine sy_iload X d_M_sum_80 hl 8 rfl ?_
            refine call_Vi (Xs := []) (b := ad 0) (As := [.int (iI ((y : Nat) : Int)), .int (iI ((k : Nat) : Int))]) (rest := [.int (iI (cy + (dgt M x k)))]) X lk_M_40 (c_M_digitOfR l D cs ad M r y k (by omega) (by omega) hWf) ⟨by decide, by decide⟩ rcv_M hw rfl hl.1 (Nat.le_of_ble_eq_true rfl) d_M_sum_82 rfl rfl ⟨Nat.zero_le _, Nat.zero_le _⟩ (fun _ H locs _ hw => ?_)
            refine sy_iadd X d_M_sum_85 ?_
            refine sy_istore (lv1 := [(7, .int (iI ((cy + (dgt M x k)) + (dgt M y k)))), (0, .ref (ad 0)), (1, .int (iI ((z : Nat) : Int))), (2, .int (iI ((x : Nat) : Int))), (3, .int (iI ((y : Nat) : Int))), (4, .int (iI s0)), (5, .int (iI ((q : Nat) : Int))), (6, .int (iI (s0 * (N y).sign))), (8, .int (iI ((k : Nat) : Int)))]) X d_M_sum_86 hl (by decide) rfl (fun ls hl => ?_)
            refine sy_aload_n X d_M_sum_88 hl 1 rfl ?_
            refine m_get X hw 3 (by decide) rfl (tt_of k512 rfl) d_M_sum_89 ?_
            refine sy_iload X d_M_sum_92 hl 8 rfl ?_
            refine sy_iload X d_M_sum_94 hl 0 rfl ?_
            refine sy_ldc (z := 65535) X (tt_of k589 rfl) d_M_sum_96 (by decide) ?_
            refine sy_iand X 16 65536 d_M_sum_98 (by decide) (by decide) (by decide) ?_
            refine m_ast X hw 4 k (by decide) (by omega) (by simp only [szM]; omega) d_M_sum_99 (fun H locs hw => ?_)
            rw [up2_upA] at hw
            obtain ⟨r4, er4⟩ : ∃ g, g = up1 r k (((cy + (dgt M x k)) + (dgt M y k)) % 65536) := ⟨_, rfl⟩
            rw [← er4] at hw
            refine sy_iload X d_M_sum_100 hl 0 rfl ?_
            refine sy_bipush X d_M_sum_102 (by decide) ?_
            refine sy_ishr X 65536 d_M_sum_104 ⟨by omega, by omega⟩ (by omega) (by omega) (by decide) ?_
            refine sy_istore (lv1 := [(7, .int (iI (((cy + (dgt M x k)) + (dgt M y k)) / 65536))), (0, .ref (ad 0)), (1, .int (iI ((z : Nat) : Int))), (2, .int (iI ((x : Nat) : Int))), (3, .int (iI ((y : Nat) : Int))), (4, .int (iI s0)), (5, .int (iI ((q : Nat) : Int))), (6, .int (iI (s0 * (N y).sign))), (8, .int (iI ((k : Nat) : Int)))]) X d_M_sum_105 hl (by decide) rfl (fun ls hl => ?_)
            refine sy_iinc (lv1 := [(8, .int (iI ((k + 1 : Nat) : Int))), (7, .int (iI (((cy + (dgt M x k)) + (dgt M y k)) / 65536))), (0, .ref (ad 0)), (1, .int (iI ((z : Nat) : Int))), (2, .int (iI ((x : Nat) : Int))), (3, .int (iI ((y : Nat) : Int))), (4, .int (iI s0)), (5, .int (iI ((q : Nat) : Int))), (6, .int (iI (s0 * (N y).sign)))]) X d_M_sum_107 hl 8 rfl (by omega) (by decide) rfl (fun ls hl => ?_)
            refine sy_goto (tgt := 61) X d_M_sum_110 (by decide) ?_
            exact ih_keyA (k + 1) r4 _ H locs ls (by omega) (by omega) (by rw [er4]; exact dg_up1 h3 (md0 _).1 (md0 _).2) ⟨by omega, by omega⟩ (by rw [er4, vl_up1, B_succ]; have := add_step (c := cy + dgt M x k + dgt M y k) (d := dgt M x k + dgt M y k) (by omega) h5; simp only [vl]; rw [this]; grind) hw (lv_sub hl [2, 3, 4, 5, 6, 7, 8, 1, 0] rfl)
      rw [eM] at hw
      exact keyA (q + 1) 0 (M 4) 0 H locs ls (by omega) (by omega) (fun k hk => by omega) (by omega) (by simp [vl]) hw (lv_sub hl [4, 5, 6, 7, 8, 3, 2, 1, 0] rfl)
  refine sy_aload_n X d_M_sum_0 hl 0 rfl ?_
  refine m_get X hw 1 (by decide) rfl (tt_of k510 rfl) d_M_sum_1 ?_
  refine sy_iload_n X d_M_sum_4 hl 2 rfl ?_
  refine m_ald X hw 2 x (by decide) (by omega) (by simp only [szM]; omega) (M 2 x) rfl d_M_sum_5 ?_
  refine sy_aload_n X d_M_sum_6 hl 0 rfl ?_
  refine m_get X hw 1 (by decide) rfl (tt_of k510 rfl) d_M_sum_7 ?_
  refine sy_iload_n X d_M_sum_10 hl 3 rfl ?_
  refine m_ald X hw 2 y (by decide) (by omega) (by simp only [szM]; omega) (M 2 y) rfl d_M_sum_11 ?_
  refine sy_icmp_le (tgt := 24) X d_M_sum_12 (by decide) ⟨by omega, by omega⟩ ⟨by omega, by omega⟩ (fun c19 => ?_) (fun c19 => ?_)
  · refine sy_aload_n X d_M_sum_24 hl 0 rfl ?_
    refine m_get X hw 1 (by decide) rfl (tt_of k510 rfl) d_M_sum_25 ?_
    refine sy_iload_n X d_M_sum_28 hl 3 rfl ?_
    refine m_ald X hw 2 y (by decide) (by omega) (by simp only [szM]; omega) (M 2 y) rfl d_M_sum_29 ?_
    exact W_topi (by omega) (km1 H locs hw)
  · refine sy_aload_n X d_M_sum_15 hl 0 rfl ?_
    refine m_get X hw 1 (by decide) rfl (tt_of k510 rfl) d_M_sum_16 ?_
    refine sy_iload_n X d_M_sum_19 hl 2 rfl ?_
    refine m_ald X hw 2 x (by decide) (by omega) (by simp only [szM]; omega) (M 2 x) rfl d_M_sum_20 ?_
    refine sy_goto (tgt := 30) X d_M_sum_21 (by decide) ?_
    exact W_topi (by omega) (km1 H locs hw)
end
section
theorem zero_up {r : Nat → Int} {k : Nat} (h : ∀ j, j < k → r j = 0) : ∀ j, j < k + 1 → up1 r k 0 j = 0 := fun j hj => by
  by_cases e : j = k
  · rw [e, up1_s]
  · rw [up1_n _ e]; exact h j (by omega)
theorem mul_abs (a b : Int) : a.sign * b.sign * ((a.natAbs : Int) * (b.natAbs : Int)) = a * b := by
  have h1 := sgn_abs a
  have h2 := sgn_abs b
  generalize a.sign = s at *
  generalize b.sign = t at *
  generalize (a.natAbs : Int) = x at *
  generalize (b.natAbs : Int) = y at *
  subst h1; subst h2; grind
theorem mul_sgn (a b : Int) : a.sign * b.sign = 1 ∨ a.sign * b.sign = -1 ∨ (a.natAbs : Int) * (b.natAbs : Int) = 0 := by
  rcases sgn_1 a with ⟨h1, h2⟩ | ⟨h1, h2⟩ | ⟨h1, h2⟩ <;> rcases sgn_1 b with ⟨g1, g2⟩ | ⟨g1, g2⟩ | ⟨g1, g2⟩ <;> simp [h1, g1] <;> simp [h2, g2]
theorem times_step {i j : Nat} {VR VR0 cy rk dx : Int} {dy : Nat → Int} (h : VR + cy * 65536 ^ (i + j) = VR0 + dx * vl dy j * 65536 ^ i) : (VR + ((cy + rk + dx * dy j) % 65536 - rk) * 65536 ^ (i + j)) + (cy + rk + dx * dy j) / 65536 * 65536 ^ (i + (j + 1)) = VR0 + dx * vl dy (j + 1) * 65536 ^ i := by
  have := mul_step (c := cy + rk + dx * dy j) (d := dx * dy j) rfl h
  rw [← Nat.add_assoc, B_succ, this]
  simp only [vl]
  rw [Int.pow_add]
  grind
set_option maxRecDepth 100000 in
set_option maxHeartbeats 4000000 in
theorem c_M_times (l : Launch) (D : va_G) (cs : Nat → ClassId) (ad : Nat → Nat) (M : Nat → Nat → Int) (N : Nat → Int) (z x y : Nat) (hz : z < 120) (hx : x < 120) (hy : y < 120) (hR : Rep M N) (hb : ((N x * N y).natAbs : Int) < 65536 ^ 110) : Ct (S := Nat → Nat → Int) l D (tyL cs) y_M_times b_M_times 9 none (rm 2) [.ref (ad 0), .int (iI ((z : Nat) : Int)), .int (iI ((x : Nat) : Int)), .int (iI ((y : Nat) : Int))] (wM ad cs M) (fun M1 => Rep M1 (up1 N z (N x * N y)) ∧ Sm M M1) (fun _ => none) (fun M1 => wM ad cs M1) := by
  refine Ct.introV (by decide) (Nat.le_of_ble_eq_true rfl) (fun _ => rfl) ?_
  intro p e s m below meth c A args Q H locs X hnm hw kr ls hl
  have X : CX D (tyL cs) R_M b_M_times 9 p m c s args := X
  have hl : lv_has ls 9 [(0, .ref (ad 0)), (1, .int (iI ((z : Nat) : Int))), (2, .int (iI ((x : Nat) : Int))), (3, .int (iI ((y : Nat) : Int)))] := hl
  have hWf := hR.wf
  obtain ⟨ux, hux, hux1, hdx, hvx, -, -, hsx⟩ := (hR x hx).dig
  obtain ⟨uy, huy, huy1, hdy, hvy, -, -, hsy⟩ := (hR y hy).dig
  have hvx := hvx ux (by omega)
  have hvy := hvy uy (by omega)
  have hR4 : ∀ r, Rep (upA M 4 r) N := fun r z hz => hR z hz
  have hsgx := sgnR (N x)
  have hsgy := sgnR (N y)
  refine sy_aload_n X d_M_times_0 hl 0 rfl ?_
  refine m_get X hw 1 (by decide) rfl (tt_of k510 rfl) d_M_times_1 ?_
  refine sy_iload_n X d_M_times_4 hl 2 rfl ?_
  refine m_ald X hw 2 x (by decide) (by omega) (by simp only [szM]; omega) (ux : Int) hux d_M_times_5 ?_
  refine sy_aload_n X d_M_times_6 hl 0 rfl ?_
  refine m_get X hw 1 (by decide) rfl (tt_of k510 rfl) d_M_times_7 ?_
  refine sy_iload_n X d_M_times_10 hl 3 rfl ?_
  refine m_ald X hw 2 y (by decide) (by omega) (by simp only [szM]; omega) (uy : Int) huy d_M_times_11 ?_
  refine sy_iadd X d_M_times_12 ?_
  refine sy_istore (lv1 := [(4, .int (iI ((ux : Int) + (uy : Int)))), (0, .ref (ad 0)), (1, .int (iI ((z : Nat) : Int))), (2, .int (iI ((x : Nat) : Int))), (3, .int (iI ((y : Nat) : Int)))]) X d_M_times_13 hl (by decide) rfl (fun ls hl => ?_)
  have eM : M = upA M 4 (M 4) := (upA_self M 4).symm
  refine sy_iconst X d_M_times_15 ?_
  refine sy_istore (lv1 := [(5, .int (iI 0)), (4, .int (iI ((ux : Int) + (uy : Int)))), (0, .ref (ad 0)), (1, .int (iI ((z : Nat) : Int))), (2, .int (iI ((x : Nat) : Int))), (3, .int (iI ((y : Nat) : Int)))]) X d_M_times_16 hl (by decide) rfl (fun ls hl => ?_)
  have key0 : ∀ (n : Nat) (k : Nat) (r : Nat → Int) (H : Heap) (locs : List Loc) (ls : Array Slot), k ≤ ux + uy → ux + uy < k + n → (∀ j, j < k → r j = 0) → HW D A s.heap (wM ad cs (upA M 4 r)) H locs → lv_has ls 9 [(0, .ref (ad 0)), (1, .int (iI ((z : Nat) : Int))), (2, .int (iI ((x : Nat) : Int))), (3, .int (iI ((y : Nat) : Int))), (4, .int (iI ((ux : Int) + (uy : Int)))), (5, .int (iI ((k : Nat) : Int)))] → W p l e (rm 2) s m args below meth c H locs 0 0 Q (F0 m 18 ls []) := by
    intro n
    induction n with
    | zero =>
      intro k r H locs ls h1 h2 h3 hw hl
      exfalso; omega
    | succ n ih_key0 =>
      intro k r H locs ls h1 h2 h3 hw hl
      refine sy_iload X d_M_times_18 hl 5 rfl ?_
      refine sy_iload X d_M_times_20 hl 4 rfl ?_
      refine sy_icmp_ge (tgt := 39) X d_M_times_22 (by decide) ⟨by omega, by omega⟩ ⟨by omega, by omega⟩ (fun c1 => ?_) (fun c1 => ?_)
      · refine sy_iconst X d_M_times_39 ?_
        refine sy_istore (lv1 := [(5, .int (iI 0)), (0, .ref (ad 0)), (1, .int (iI ((z : Nat) : Int))), (2, .int (iI ((x : Nat) : Int))), (3, .int (iI ((y : Nat) : Int))), (4, .int (iI ((ux : Int) + (uy : Int))))]) X d_M_times_40 hl (by decide) rfl (fun ls hl => ?_)
        have keyO : ∀ (n : Nat) (i : Nat) (r : Nat → Int) (H : Heap) (locs : List Loc) (ls : Array Slot), i ≤ ux → ux < i + n → Dg r (ux + uy) → vl r (ux + uy) = vl (dgt M x) i * ((N y).natAbs : Int) → (∀ j, i + uy ≤ j → j < ux + uy → r j = 0) → HW D A s.heap (wM ad cs (upA M 4 r)) H locs → lv_has ls 9 [(0, .ref (ad 0)), (1, .int (iI ((z : Nat) : Int))), (2, .int (iI ((x : Nat) : Int))), (3, .int (iI ((y : Nat) : Int))), (4, .int (iI ((ux : Int) + (uy : Int)))), (5, .int (iI ((i : Nat) : Int)))] → W p l e (rm 2) s m args below meth c H locs 0 0 Q (F0 m 42 ls []) := by
          intro n
          induction n with
          | zero =>
            intro i r H locs ls g1 g2 g3 g4 g5 hw hl
            exfalso; omega
          | succ n ih_keyO =>
            intro i r H locs ls g1 g2 g3 g4 g5 hw hl
            refine sy_iload X d_M_times_42 hl 5 rfl ?_
            refine sy_aload_n X d_M_times_44 hl 0 rfl ?_
            refine m_get X hw 1 (by decide) rfl (tt_of k510 rfl) d_M_times_45 ?_
            refine sy_iload_n X d_M_times_48 hl 2 rfl ?_
            refine m_ald X hw 2 x (by decide) (by omega) (by simp only [szM]; omega) (ux : Int) hux d_M_times_49 ?_
            refine sy_icmp_ge (tgt := 157) X d_M_times_50 (by decide) ⟨by omega, by omega⟩ ⟨by omega, by omega⟩ (fun c2 => ?_) (fun c2 => ?_)
            · have hi : i = ux := by omega
              rw [hi, hvx] at g4
              have hVr := g4
              have hDr := g3
              have hBr : ((N x).natAbs : Int) * ((N y).natAbs : Int) < 65536 ^ 110 := by rw [Int.natAbs_mul] at hb; simpa using hb
              have hSr := mul_sgn (N x) (N y)
              have hsm : -1 ≤ (N x).sign * (N y).sign ∧ (N x).sign * (N y).sign ≤ 1 := by rw [← Int.sign_mul]; exact sgnR _
              refine sy_aload_n X d_M_times_157 hl 0 rfl ?_
              refine sy_iload_n X d_M_times_158 hl 1 rfl ?_
              refine sy_iload X d_M_times_159 hl 4 rfl ?_
              refine sy_aload_n X d_M_times_161 hl 0 rfl ?_
              refine m_get X hw 2 (by decide) rfl (tt_of k511 rfl) d_M_times_162 ?_
              refine sy_iload_n X d_M_times_165 hl 2 rfl ?_
              refine m_ald X hw 3 x (by decide) (by omega) (by simp only [szM]; omega) ((N x).sign) hsx d_M_times_166 ?_
              refine sy_aload_n X d_M_times_167 hl 0 rfl ?_
              refine m_get X hw 2 (by decide) rfl (tt_of k511 rfl) d_M_times_168 ?_
              refine sy_iload_n X d_M_times_171 hl 3 rfl ?_
              refine m_ald X hw 3 y (by decide) (by omega) (by simp only [szM]; omega) ((N y).sign) hsy d_M_times_172 ?_
              refine sy_imul X d_M_times_173 ?_
              refine call_Vv (Xs := []) (b := ad 0) (As := [.int (iI ((z : Nat) : Int)), .int (iI ((ux : Int) + (uy : Int))), .int (iI (((N x).sign) * ((N y).sign)))]) (rest := []) X lk_M_45 (c_M_store l D cs ad (upA M 4 r) N z (ux + uy) (((N x).sign) * ((N y).sign)) (by omega) (by omega) ⟨by omega, by omega⟩ (hR4 r) (by rw [upA_s]; exact hDr) (by rw [upA_s, hVr]; exact hBr) (by rw [upA_s, hVr]; exact hSr)) ⟨by decide, by decide⟩ rcv_M hw rfl hl.1 (Nat.le_of_ble_eq_true rfl) d_M_times_174 rfl rfl ⟨Nat.zero_le _, Nat.zero_le _⟩ (fun M1 H locs hp hw => ?_)
              rw [upA_s, hVr, mul_abs] at hp
              exact kr _ _ _ _ _ d_M_times_177 hw ⟨hp.1, hp.2.1⟩
            · refine sy_lconst (z := 0) X d_M_times_53 (by decide) ?_
              refine sy_lstore (lv1 := [(6, .long (jI 0)), (0, .ref (ad 0)), (1, .int (iI ((z : Nat) : Int))), (2, .int (iI ((x : Nat) : Int))), (3, .int (iI ((y : Nat) : Int))), (4, .int (iI ((ux : Int) + (uy : Int)))), (5, .int (iI ((i : Nat) : Int)))]) X d_M_times_54 hl (by decide) rfl (fun ls hl => ?_)
              refine sy_iconst X d_M_times_56 ?_
              refine sy_istore (lv1 := [(8, .int (iI 0)), (6, .long (jI 0)), (0, .ref (ad 0)), (1, .int (iI ((z : Nat) : Int))), (2, .int (iI ((x : Nat) : Int))), (3, .int (iI ((y : Nat) : Int))), (4, .int (iI ((ux : Int) + (uy : Int)))), (5, .int (iI ((i : Nat) : Int)))]) X d_M_times_57 hl (by decide) rfl (fun ls hl => ?_)
              have keyI : ∀ (n : Nat) (j : Nat) (r1 : Nat → Int) (cy : Int) (H : Heap) (locs : List Loc) (ls : Array Slot), j ≤ uy → uy < j + n → Dg r1 (ux + uy) → 0 ≤ cy ∧ cy < 65536 → vl r1 (ux + uy) + cy * 65536 ^ (i + j) = vl r (ux + uy) + dgt M x i * vl (dgt M y) j * 65536 ^ i → (∀ t, i + uy ≤ t → t < ux + uy → r1 t = 0) → HW D A s.heap (wM ad cs (upA M 4 r1)) H locs → lv_has ls 9 [(0, .ref (ad 0)), (1, .int (iI ((z : Nat) : Int))), (2, .int (iI ((x : Nat) : Int))), (3, .int (iI ((y : Nat) : Int))), (4, .int (iI ((ux : Int) + (uy : Int)))), (5, .int (iI ((i : Nat) : Int))), (6, .long (jI cy)), (8, .int (iI ((j : Nat) : Int)))] → W p l e (rm 2) s m args below meth c H locs 0 0 Q (F0 m 59 ls []) := by
                intro n
                induction n with
                | zero =>
                  intro j r1 cy H locs ls f1 f2 f3 f4 f5 f6 hw hl
                  exfalso; omega
                | succ n ih_keyI =>
                  intro j r1 cy H locs ls f1 f2 f3 f4 f5 f6 hw hl
                  refine sy_iload X d_M_times_59 hl 7 rfl ?_
                  refine sy_aload_n X d_M_times_61 hl 0 rfl ?_
                  refine m_get X hw 1 (by decide) rfl (tt_of k510 rfl) d_M_times_62 ?_
                  refine sy_iload_n X d_M_times_65 hl 3 rfl ?_
                  refine m_ald X hw 2 y (by decide) (by omega) (by simp only [szM]; omega) (uy : Int) huy d_M_times_66 ?_
                  refine sy_icmp_ge (tgt := 134) X d_M_times_67 (by decide) ⟨by omega, by omega⟩ ⟨by omega, by omega⟩ (fun c3 => ?_) (fun c3 => ?_)
                  · refine sy_aload_n X d_M_times_134 hl 0 rfl ?_
                    refine m_get X hw 3 (by decide) rfl (tt_of k512 rfl) d_M_times_135 ?_
                    refine sy_iload X d_M_times_138 hl 5 rfl ?_
                    refine sy_aload_n X d_M_times_140 hl 0 rfl ?_
                    refine m_get X hw 1 (by decide) rfl (tt_of k510 rfl) d_M_times_141 ?_
                    refine sy_iload_n X d_M_times_144 hl 3 rfl ?_
                    refine m_ald X hw 2 y (by decide) (by omega) (by simp only [szM]; omega) (uy : Int) huy d_M_times_145 ?_
                    refine sy_iadd X d_M_times_146 ?_
                    refine sy_lload X d_M_times_147 hl 6 rfl ?_
                    refine sy_l2i X d_M_times_149 ?_
                    refine m_ast X hw 4 (i + uy) (by decide) (by omega) (by simp only [szM]; omega) d_M_times_150 (fun H locs hw => ?_)
                    rw [up2_upA] at hw
                    obtain ⟨r1, er1⟩ : ∃ g, g = up1 r1 (i + uy) cy := ⟨_, rfl⟩
                    rw [← er1] at hw
                    have hj : j = uy := by omega
                    rw [hj] at f5
                    have hD2 : Dg r1 (ux + uy) := by rw [er1]; exact dg_upd f3 f4.1 f4.2
                    have hV2 : vl r1 (ux + uy) = vl (dgt M x) (i + 1) * ((N y).natAbs : Int) := by
                      rw [er1, vl_upd _ (by omega), f6 (i + uy) (by omega) (by omega), Int.sub_zero, f5, g4, hvy]; simp only [vl]; grind
                    have hZ2 : ∀ t, i + 1 + uy ≤ t → t < ux + uy → r1 t = 0 := by
                      rw [er1]; intro t h1 h2; rw [up1_n _ (by omega)]; exact f6 t (by omega) h2
                    refine sy_iinc (lv1 := [(5, .int (iI ((i + 1 : Nat) : Int))), (0, .ref (ad 0)), (1, .int (iI ((z : Nat) : Int))), (2, .int (iI ((x : Nat) : Int))), (3, .int (iI ((y : Nat) : Int))), (4, .int (iI ((ux : Int) + (uy : Int)))), (6, .long (jI cy)), (8, .int (iI ((j : Nat) : Int)))]) X d_M_times_151 hl 5 rfl (by omega) (by decide) rfl (fun ls hl => ?_)
                    refine sy_goto (tgt := 42) X d_M_times_154 (by decide) ?_
                    exact ih_keyO (i + 1) r1 H locs ls (by omega) (by omega) hD2 hV2 hZ2 hw (lv_sub hl [1, 2, 3, 4, 5, 0] rfl)
                  · have hbx := hdx (i + 1) i (by omega)
                    have hby := hdy (j + 1) j (by omega)
                    have hbr := f3 (i + j) (by omega)
                    have hpr : 0 ≤ dgt M x i * dgt M y j ∧ dgt M x i * dgt M y j ≤ 65535 * 65535 := ⟨Int.mul_nonneg hbx.1 hby.1, Int.mul_le_mul (by omega) (by omega) hby.1 (by decide)⟩
                    refine sy_lload X d_M_times_70 hl 6 rfl ?_
                    refine sy_aload_n X d_M_times_72 hl 0 rfl ?_
                    refine m_get X hw 3 (by decide) rfl (tt_of k512 rfl) d_M_times_73 ?_
                    refine sy_iload X d_M_times_76 hl 5 rfl ?_
                    refine sy_iload X d_M_times_78 hl 7 rfl ?_
                    refine sy_iadd X d_M_times_80 ?_
                    refine m_ald X hw 4 (i + j) (by decide) (by omega) (by simp only [szM]; omega) (r1 (i + j)) rfl d_M_times_81 ?_
                    refine sy_i2l X d_M_times_82 ⟨by omega, by omega⟩ ?_
                    refine sy_ladd X d_M_times_83 ?_
                    refine sy_aload_n X d_M_times_84 hl 0 rfl ?_
                    refine sy_iload_n X d_M_times_85 hl 2 rfl ?_
                    refine sy_iload X d_M_times_86 hl 5 rfl ?_
                    refine call_Vi (Xs := []) (b := ad 0) (As := [.int (iI ((x : Nat) : Int)), .int (iI ((i : Nat) : Int))]) (rest := [.long (jI (cy + (r1 (i + j))))]) X lk_M_40 (c_M_digitOfR l D cs ad M r1 x i (by omega) (by omega) hWf) ⟨by decide, by decide⟩ rcv_M hw rfl hl.1 (Nat.le_of_ble_eq_true rfl) d_M_times_88 rfl rfl ⟨Nat.zero_le _, Nat.zero_le _⟩ (fun _ H locs _ hw => ?_)
                    refine sy_i2l X d_M_times_91 ⟨by omega, by omega⟩ ?_
                    refine sy_aload_n X d_M_times_92 hl 0 rfl ?_
                    refine sy_iload_n X d_M_times_93 hl 3 rfl ?_
                    refine sy_iload X d_M_times_94 hl 7 rfl ?_
                    refine call_Vi (Xs := []) (b := ad 0) (As := [.int (iI ((y : Nat) : Int)), .int (iI ((j : Nat) : Int))]) (rest := [.long (jI (dgt M x i)), .long (jI (cy + (r1 (i + j))))]) X lk_M_40 (c_M_digitOfR l D cs ad M r1 y j (by omega) (by omega) hWf) ⟨by decide, by decide⟩ rcv_M hw rfl hl.1 (Nat.le_of_ble_eq_true rfl) d_M_times_96 rfl rfl ⟨Nat.zero_le _, Nat.zero_le _⟩ (fun _ H locs _ hw => ?_)
                    refine sy_i2l X d_M_times_99 ⟨by omega, by omega⟩ ?_
                    refine sy_lmul X d_M_times_100 ?_
                    refine sy_ladd X d_M_times_101 ?_
                    refine sy_lstore (lv1 := [(6, .long (jI ((cy + (r1 (i + j))) + ((dgt M x i) * (dgt M y j))))), (0, .ref (ad 0)), (1, .int (iI ((z : Nat) : Int))), (2, .int (iI ((x : Nat) : Int))), (3, .int (iI ((y : Nat) : Int))), (4, .int (iI ((ux : Int) + (uy : Int)))), (5, .int (iI ((i : Nat) : Int))), (8, .int (iI ((j : Nat) : Int)))]) X d_M_times_102 hl (by decide) rfl (fun ls hl => ?_)
                    refine sy_aload_n X d_M_times_104 hl 1 rfl ?_
                    refine m_get X hw 3 (by decide) rfl (tt_of k512 rfl) d_M_times_105 ?_
                    refine sy_iload X d_M_times_108 hl 6 rfl ?_
                    refine sy_iload X d_M_times_110 hl 7 rfl ?_
                    refine sy_iadd X d_M_times_112 ?_
                    refine sy_lload X d_M_times_113 hl 0 rfl ?_
                    refine sy_ldc2 (z := 65535) X (tt_of k500 rfl) d_M_times_115 (by decide) ?_
                    refine sy_land X 16 65536 d_M_times_118 (by decide) (by decide) (by decide) ?_
                    refine sy_l2i X d_M_times_119 ?_
                    refine m_ast X hw 4 (i + j) (by decide) (by omega) (by simp only [szM]; omega) d_M_times_120 (fun H locs hw => ?_)
                    rw [up2_upA] at hw
                    obtain ⟨r2, er2⟩ : ∃ g, g = up1 r1 (i + j) (((cy + (r1 (i + j))) + ((dgt M x i) * (dgt M y j))) % 65536) := ⟨_, rfl⟩
                    rw [← er2] at hw
                    refine sy_lload X d_M_times_121 hl 0 rfl ?_
                    refine sy_bipush X d_M_times_123 (by decide) ?_
                    refine sy_lshr X 65536 d_M_times_125 ⟨by omega, by omega⟩ (by omega) (by omega) (by decide) ?_
                    refine sy_lstore (lv1 := [(6, .long (jI (((cy + (r1 (i + j))) + ((dgt M x i) * (dgt M y j))) / 65536))), (0, .ref (ad 0)), (1, .int (iI ((z : Nat) : Int))), (2, .int (iI ((x : Nat) : Int))), (3, .int (iI ((y : Nat) : Int))), (4, .int (iI ((ux : Int) + (uy : Int)))), (5, .int (iI ((i : Nat) : Int))), (8, .int (iI ((j : Nat) : Int)))]) X d_M_times_126 hl (by decide) rfl (fun ls hl => ?_)
                    refine sy_iinc (lv1 := [(8, .int (iI ((j + 1 : Nat) : Int))), (6, .long (jI (((cy + (r1 (i + j))) + ((dgt M x i) * (dgt M y j))) / 65536))), (0, .ref (ad 0)), (1, .int (iI ((z : Nat) : Int))), (2, .int (iI ((x : Nat) : Int))), (3, .int (iI ((y : Nat) : Int))), (4, .int (iI ((ux : Int) + (uy : Int)))), (5, .int (iI ((i : Nat) : Int)))]) X d_M_times_128 hl 7 rfl (by omega) (by decide) rfl (fun ls hl => ?_)
                    refine sy_goto (tgt := 59) X d_M_times_131 (by decide) ?_
                    exact ih_keyI (j + 1) r2 _ H locs ls (by omega) (by omega) (by rw [er2]; exact dg_upd f3 (md0 _).1 (md0 _).2) ⟨by omega, by omega⟩ (by rw [er2, vl_upd _ (by omega)]; exact times_step f5) (by rw [er2]; intro t h1 h2; rw [up1_n _ (by omega)]; exact f6 t h1 h2) hw (lv_sub hl [2, 3, 4, 5, 6, 7, 1, 0] rfl)
              exact keyI (uy + 1) 0 r 0 H locs ls (by omega) (by omega) g3 (by omega) (by simp [vl]) g5 hw (lv_sub hl [2, 3, 4, 5, 6, 7, 1, 0] rfl)
        exact keyO (ux + 1) 0 r H locs ls (by omega) (by omega) (fun j hj => by rw [h3 j (by omega)]; decide) (by rw [vl_zero (u := 0) (by omega) (fun j _ hj => h3 j (by omega))]; simp [vl]) (fun j _ hj => h3 j (by omega)) hw (lv_sub hl [1, 2, 3, 4, 5, 0] rfl)
      · refine sy_aload_n X d_M_times_25 hl 0 rfl ?_
        refine m_get X hw 3 (by decide) rfl (tt_of k512 rfl) d_M_times_26 ?_
        refine sy_iload X d_M_times_29 hl 5 rfl ?_
        refine sy_iconst X d_M_times_31 ?_
        refine m_ast X hw 4 k (by decide) (by omega) (by simp only [szM]; omega) d_M_times_32 (fun H locs hw => ?_)
        rw [up2_upA] at hw
        obtain ⟨r3, er3⟩ : ∃ g, g = up1 r k 0 := ⟨_, rfl⟩
        rw [← er3] at hw
        refine sy_iinc (lv1 := [(5, .int (iI ((k + 1 : Nat) : Int))), (0, .ref (ad 0)), (1, .int (iI ((z : Nat) : Int))), (2, .int (iI ((x : Nat) : Int))), (3, .int (iI ((y : Nat) : Int))), (4, .int (iI ((ux : Int) + (uy : Int))))]) X d_M_times_33 hl 5 rfl (by omega) (by decide) rfl (fun ls hl => ?_)
        refine sy_goto (tgt := 18) X d_M_times_36 (by decide) ?_
        exact ih_key0 (k + 1) r3 H locs ls (by omega) (by omega) (by rw [er3]; exact zero_up h3) hw (lv_sub hl [1, 2, 3, 4, 5, 0] rfl)
  rw [eM] at hw
  exact key0 (ux + uy + 1) 0 (M 4) H locs ls (by omega) (by omega) (fun j hj => by omega) hw (lv_sub hl [2, 3, 4, 5, 1, 0] rfl)
end
section
theorem sc_sgn (a v : Int) : (if v < 0 then -a.sign else if 0 < v then a.sign else 0) = (a * v).sign := by
  rw [Int.sign_mul]
  rcases sgn_1 v with ⟨h1, h2⟩ | ⟨h1, h2⟩ | ⟨h1, h2⟩ <;> rw [h1]
  · rw [if_neg (by omega), if_pos h2]; omega
  · rw [if_pos h2]; omega
  · rw [if_neg (by omega), if_neg (by omega)]; omega
theorem sc_step {VR cy f dk VX P : Int} (h : VR + cy * P = f * VX) : (VR + (cy + f * dk) % 65536 * P) + (cy + f * dk) / 65536 * (P * 65536) = f * (VX + dk * P) := by
  have := add_step (c := cy + f * dk) (d := f * dk) rfl h
  rw [this]; grind
theorem sc_end {r : Nat → Int} {u : Nat} {cy T : Int} (hd : Dg r u) (h0 : 0 ≤ cy) (h1 : cy ≤ 2147483648) (h : vl r u + cy * 65536 ^ u = T) : Dg (up1 (up1 r u (cy % 65536)) (u + 1) (cy / 65536)) (u + 2) ∧ vl (up1 (up1 r u (cy % 65536)) (u + 1) (cy / 65536)) (u + 2) = T := by
  refine ⟨dg_up1 (dg_up1 hd (md0 _).1 (md0 _).2) (by omega) (by omega), ?_⟩
  rw [vl_up1, vl_up1, ← h, B_succ]
  have := Int.emod_add_mul_ediv cy 65536
  generalize cy % 65536 = x at *
  generalize cy / 65536 = y at *
  subst this; grind
set_option maxRecDepth 100000 in
set_option maxHeartbeats 4000000 in
theorem c_M_scale (l : Launch) (D : va_G) (cs : Nat → ClassId) (ad : Nat → Nat) (M : Nat → Nat → Int) (N : Nat → Int) (z x : Nat) (v : Int) (hz : z < 120) (hx : x < 120) (hv : R31 v) (hR : Rep M N) (hb : ((N x * v).natAbs : Int) < 65536 ^ 110) : Ct (S := Nat → Nat → Int) l D (tyL cs) y_M_scale b_M_scale 11 none (rm 2) [.ref (ad 0), .int (iI ((z : Nat) : Int)), .int (iI ((x : Nat) : Int)), .int (iI v)] (wM ad cs M) (fun M1 => Rep M1 (up1 N z (N x * v)) ∧ Sm M M1) (fun _ => none) (fun M1 => wM ad cs M1) := by
  refine Ct.introV (by decide) (Nat.le_of_ble_eq_true rfl) (fun _ => rfl) ?_
  intro p e s m below meth c A args Q H locs X hnm hw kr ls hl
  have X : CX D (tyL cs) R_M b_M_scale 11 p m c s args := X
  have hl : lv_has ls 11 [(0, .ref (ad 0)), (1, .int (iI ((z : Nat) : Int))), (2, .int (iI ((x : Nat) : Int))), (3, .int (iI v))] := hl
  have hv1 := hv.1
  have hv2 := hv.2
  have hWf := hR.wf
  obtain ⟨ux, hux, hux1, hdx, hvx, -, -, hsx⟩ := (hR x hx).dig
  have hvx := hvx ux (by omega)
  have hR4 : ∀ r, Rep (upA M 4 r) N := fun r z hz => hR z hz
  have hsgx := sgnR (N x)
  have hsgm := sgnR (N x * v)
  obtain ⟨f, hf⟩ : ∃ f : Int, f = (v.natAbs : Int) := ⟨_, rfl⟩
  have hsc := sc_sgn (N x) v
  have km1 : ∀ (H : Heap) (locs : List Loc), HW D A s.heap (wM ad cs M) H locs → W p l e (rm 2) s m args below meth c H locs 0 0 Q (F0 m 12 ls [.long (jI f)]) := by
    intro H locs hw
    refine sy_lstore (lv1 := [(4, .long (jI f)), (0, .ref (ad 0)), (1, .int (iI ((z : Nat) : Int))), (2, .int (iI ((x : Nat) : Int))), (3, .int (iI v))]) X d_M_scale_12 hl (by decide) rfl (fun ls hl => ?_)
    have km2 : ∀ (H : Heap) (locs : List Loc), HW D A s.heap (wM ad cs M) H locs → W p l e (rm 2) s m args below meth c H locs 0 0 Q (F0 m 42 ls [.int (iI ((N x * v).sign))]) := by
      intro H locs hw
      refine sy_istore (lv1 := [(6, .int (iI ((N x * v).sign))), (4, .long (jI f)), (0, .ref (ad 0)), (1, .int (iI ((z : Nat) : Int))), (2, .int (iI ((x : Nat) : Int))), (3, .int (iI v))]) X d_M_scale_42 hl (by decide) rfl (fun ls hl => ?_)
      refine sy_aload_n X d_M_scale_44 hl 2 rfl ?_
      refine m_get X hw 1 (by decide) rfl (tt_of k510 rfl) d_M_scale_45 ?_
      refine sy_iload_n X d_M_scale_48 hl 4 rfl ?_
      refine m_ald X hw 2 x (by decide) (by omega) (by simp only [szM]; omega) (ux : Int) hux d_M_scale_49 ?_
      refine sy_istore (lv1 := [(7, .int (iI (ux : Int))), (6, .int (iI ((N x * v).sign))), (4, .long (jI f)), (0, .ref (ad 0)), (1, .int (iI ((z : Nat) : Int))), (2, .int (iI ((x : Nat) : Int))), (3, .int (iI v))]) X d_M_scale_50 hl (by decide) rfl (fun ls hl => ?_)
      have eM : M = upA M 4 (M 4) := (upA_self M 4).symm
      refine sy_lconst (z := 0) X d_M_scale_52 (by decide) ?_
      refine sy_lstore (lv1 := [(8, .long (jI 0)), (7, .int (iI (ux : Int))), (6, .int (iI ((N x * v).sign))), (4, .long (jI f)), (0, .ref (ad 0)), (1, .int (iI ((z : Nat) : Int))), (2, .int (iI ((x : Nat) : Int))), (3, .int (iI v))]) X d_M_scale_53 hl (by decide) rfl (fun ls hl => ?_)
      refine sy_iconst X d_M_scale_55 ?_
      refine sy_istore (lv1 := [(10, .int (iI 0)), (8, .long (jI 0)), (7, .int (iI (ux : Int))), (6, .int (iI ((N x * v).sign))), (4, .long (jI f)), (0, .ref (ad 0)), (1, .int (iI ((z : Nat) : Int))), (2, .int (iI ((x : Nat) : Int))), (3, .int (iI v))]) X d_M_scale_56 hl (by decide) rfl (fun ls hl => ?_)
      have key : ∀ (n : Nat) (k : Nat) (r : Nat → Int) (cy : Int) (H : Heap) (locs : List Loc) (ls : Array Slot), k ≤ ux → ux < k + n → Dg r k → 0 ≤ cy ∧ cy ≤ f → vl r k + cy * 65536 ^ k = f * vl (dgt M x) k → HW D A s.heap (wM ad cs (upA M 4 r)) H locs → lv_has ls 11 [(0, .ref (ad 0)), (1, .int (iI ((z : Nat) : Int))), (2, .int (iI ((x : Nat) : Int))), (3, .int (iI v)), (4, .long (jI f)), (6, .int (iI ((N x * v).sign))), (7, .int (iI (ux : Int))), (8, .long (jI cy)), (10, .int (iI ((k : Nat) : Int)))] → W p l e (rm 2) s m args below meth c H locs 0 0 Q (F0 m 58 ls []) := by
        intro n
        induction n with
        | zero =>
          intro k r cy H locs ls h1 h2 h3 h4 h5 hw hl
          exfalso; omega
        | succ n ih_key =>
          intro k r cy H locs ls h1 h2 h3 h4 h5 hw hl
          refine sy_iload X d_M_scale_58 hl 8 rfl ?_
          refine sy_iload X d_M_scale_60 hl 6 rfl ?_
          refine sy_icmp_ge (tgt := 108) X d_M_scale_62 (by decide) ⟨by omega, by omega⟩ ⟨by omega, by omega⟩ (fun c3 => ?_) (fun c3 => ?_)
          · refine sy_aload_n X d_M_scale_108 hl 0 rfl ?_
            refine m_get X hw 3 (by decide) rfl (tt_of k512 rfl) d_M_scale_109 ?_
            refine sy_iload X d_M_scale_112 hl 6 rfl ?_
            refine sy_lload X d_M_scale_114 hl 7 rfl ?_
            refine sy_ldc2 (z := 65535) X (tt_of k500 rfl) d_M_scale_116 (by decide) ?_
            refine sy_land X 16 65536 d_M_scale_119 (by decide) (by decide) (by decide) ?_
            refine sy_l2i X d_M_scale_120 ?_
            refine m_ast X hw 4 ux (by decide) (by omega) (by simp only [szM]; omega) d_M_scale_121 (fun H locs hw => ?_)
            rw [up2_upA] at hw
            obtain ⟨r1, er1⟩ : ∃ g, g = up1 r ux (cy % 65536) := ⟨_, rfl⟩
            rw [← er1] at hw
            refine sy_aload_n X d_M_scale_122 hl 0 rfl ?_
            refine m_get X hw 3 (by decide) rfl (tt_of k512 rfl) d_M_scale_123 ?_
            refine sy_iload X d_M_scale_126 hl 6 rfl ?_
            refine sy_iconst X d_M_scale_128 ?_
            refine sy_iadd X d_M_scale_129 ?_
            refine sy_lload X d_M_scale_130 hl 7 rfl ?_
            refine sy_bipush X d_M_scale_132 (by decide) ?_
            refine sy_lshr X 65536 d_M_scale_134 ⟨by omega, by omega⟩ (by omega) (by omega) (by decide) ?_
            refine sy_l2i X d_M_scale_135 ?_
            refine m_ast X hw 4 (ux + 1) (by decide) (by omega) (by simp only [szM]; omega) d_M_scale_136 (fun H locs hw => ?_)
            rw [up2_upA] at hw
            obtain ⟨r2, er2⟩ : ∃ g, g = up1 r1 (ux + 1) (cy / 65536) := ⟨_, rfl⟩
            rw [← er2] at hw
            have hk : k = ux := by omega
            rw [hk, hvx] at h5
            rw [hk] at h3
            have hE := sc_end h3 h4.1 (by omega) h5
            have hDr : Dg r2 (ux + 2) := by rw [er2, er1]; exact hE.1
            have hVr : vl r2 (ux + 2) = f * ((N x).natAbs : Int) := by rw [er2, er1]; exact hE.2
            have hab : f * ((N x).natAbs : Int) = ((N x * v).natAbs : Int) := by rw [hf, Int.natAbs_mul, Int.mul_comm]; simp
            have hBr : f * ((N x).natAbs : Int) < 65536 ^ 110 := by rw [hab]; exact hb
            refine sy_aload_n X d_M_scale_137 hl 0 rfl ?_
            refine sy_iload_n X d_M_scale_138 hl 1 rfl ?_
            refine sy_iload X d_M_scale_139 hl 5 rfl ?_
            refine sy_if_ne (tgt := 148) X d_M_scale_141 (by decide) ⟨by omega, by omega⟩ (fun c4 => ?_) (fun c4 => ?_)
            · refine sy_iload X d_M_scale_148 hl 6 rfl ?_
              refine sy_iconst X d_M_scale_150 ?_
              refine sy_iadd X d_M_scale_151 ?_
              refine sy_iload X d_M_scale_152 hl 5 rfl ?_
              refine call_Vv (Xs := []) (b := ad 0) (As := [.int (iI ((z : Nat) : Int)), .int (iI ((ux : Int) + 2)), .int (iI ((N x * v).sign))]) (rest := []) X lk_M_45 (c_M_store l D cs ad (upA M 4 r2) N z (ux + 2) ((N x * v).sign) (by omega) (by omega) ⟨by omega, by omega⟩ (hR4 r2) (by rw [upA_s]; exact hDr) (by rw [upA_s, hVr]; exact hBr) (by omega)) ⟨by decide, by decide⟩ rcv_M hw rfl hl.1 (Nat.le_of_ble_eq_true rfl) d_M_scale_154 rfl rfl ⟨Nat.zero_le _, Nat.zero_le _⟩ (fun M1 H locs hp hw => ?_)
              rw [upA_s, hVr, hab, sgn_abs] at hp
              exact kr _ _ _ _ _ d_M_scale_157 hw ⟨hp.1, hp.2.1⟩
            · refine sy_iconst X d_M_scale_144 ?_
              refine sy_goto (tgt := 152) X d_M_scale_145 (by decide) ?_
              refine sy_iload X d_M_scale_152 hl 5 rfl ?_
              refine call_Vv (Xs := []) (b := ad 0) (As := [.int (iI ((z : Nat) : Int)), .int (iI 0), .int (iI ((N x * v).sign))]) (rest := []) X lk_M_45 (c_M_store l D cs ad (upA M 4 r2) N z 0 ((N x * v).sign) (by omega) (by omega) ⟨by omega, by omega⟩ (hR4 r2) (fun k hk => by omega) (B_pos 110) (Or.inr (Or.inr rfl))) ⟨by decide, by decide⟩ rcv_M hw rfl hl.1 (Nat.le_of_ble_eq_true rfl) d_M_scale_154 rfl rfl ⟨Nat.zero_le _, Nat.zero_le _⟩ (fun M1 H locs hp hw => ?_)
              have h0 : N x * v = 0 := by rcases sgn_1 (N x * v) with ⟨g1, g2⟩ | ⟨g1, g2⟩ | ⟨g1, g2⟩ <;> omega
              rw [show (N x * v).sign * vl (upA M 4 r2 4) 0 = N x * v by rw [h0]; rfl] at hp
              exact kr _ _ _ _ _ d_M_scale_157 hw ⟨hp.1, hp.2.1⟩
          · have hbx := hdx (k + 1) k (by omega)
            have hpr : 0 ≤ f * dgt M x k ∧ f * dgt M x k ≤ f * 65535 := ⟨Int.mul_nonneg (by omega) hbx.1, Int.mul_le_mul_of_nonneg_left (by omega) (by omega)⟩
            refine sy_lload X d_M_scale_65 hl 7 rfl ?_
            refine sy_lload X d_M_scale_67 hl 4 rfl ?_
            refine sy_aload_n X d_M_scale_69 hl 0 rfl ?_
            refine sy_iload_n X d_M_scale_70 hl 2 rfl ?_
            refine sy_iload X d_M_scale_71 hl 8 rfl ?_
            refine call_Vi (Xs := []) (b := ad 0) (As := [.int (iI ((x : Nat) : Int)), .int (iI ((k : Nat) : Int))]) (rest := [.long (jI f), .long (jI cy)]) X lk_M_40 (c_M_digitOfR l D cs ad M r x k (by omega) (by omega) hWf) ⟨by decide, by decide⟩ rcv_M hw rfl hl.1 (Nat.le_of_ble_eq_true rfl) d_M_scale_73 rfl rfl ⟨Nat.zero_le _, Nat.zero_le _⟩ (fun _ H locs _ hw => ?_)
            refine sy_i2l X d_M_scale_76 ⟨by omega, by omega⟩ ?_
            refine sy_lmul X d_M_scale_77 ?_
            refine sy_ladd X d_M_scale_78 ?_
            refine sy_lstore (lv1 := [(8, .long (jI (cy + (f * (dgt M x k))))), (0, .ref (ad 0)), (1, .int (iI ((z : Nat) : Int))), (2, .int (iI ((x : Nat) : Int))), (3, .int (iI v)), (4, .long (jI f)), (6, .int (iI ((N x * v).sign))), (7, .int (iI (ux : Int))), (10, .int (iI ((k : Nat) : Int)))]) X d_M_scale_79 hl (by decide) rfl (fun ls hl => ?_)
            refine sy_aload_n X d_M_scale_81 hl 1 rfl ?_
            refine m_get X hw 3 (by decide) rfl (tt_of k512 rfl) d_M_scale_82 ?_
            refine sy_iload X d_M_scale_85 hl 8 rfl ?_
            refine sy_lload X d_M_scale_87 hl 0 rfl ?_
            refine sy_ldc2 (z := 65535) X (tt_of k500 rfl) d_M_scale_89 (by decide) ?_
            refine sy_land X 16 65536 d_M_scale_92 (by decide) (by decide) (by decide) ?_
            refine sy_l2i X d_M_scale_93 ?_
            refine m_ast X hw 4 k (by decide) (by omega) (by simp only [szM]; omega) d_M_scale_94 (fun H locs hw => ?_)
            rw [up2_upA] at hw
            obtain ⟨r3, er3⟩ : ∃ g, g = up1 r k ((cy + (f * (dgt M x k))) % 65536) := ⟨_, rfl⟩
            rw [← er3] at hw
            refine sy_lload X d_M_scale_95 hl 0 rfl ?_
            refine sy_bipush X d_M_scale_97 (by decide) ?_
            refine sy_lshr X 65536 d_M_scale_99 ⟨by omega, by omega⟩ (by omega) (by omega) (by decide) ?_
            refine sy_lstore (lv1 := [(8, .long (jI ((cy + (f * (dgt M x k))) / 65536))), (0, .ref (ad 0)), (1, .int (iI ((z : Nat) : Int))), (2, .int (iI ((x : Nat) : Int))), (3, .int (iI v)), (4, .long (jI f)), (6, .int (iI ((N x * v).sign))), (7, .int (iI (ux : Int))), (10, .int (iI ((k : Nat) : Int)))]) X d_M_scale_100 hl (by decide) rfl (fun ls hl => ?_)
            refine sy_iinc (lv1 := [(10, .int (iI ((k + 1 : Nat) : Int))), (8, .long (jI ((cy + (f * (dgt M x k))) / 65536))), (0, .ref (ad 0)), (1, .int (iI ((z : Nat) : Int))), (2, .int (iI ((x : Nat) : Int))), (3, .int (iI v)), (4, .long (jI f)), (6, .int (iI ((N x * v).sign))), (7, .int (iI (ux : Int)))]) X d_M_scale_102 hl 8 rfl (by omega) (by decide) rfl (fun ls hl => ?_)
            refine sy_goto (tgt := 58) X d_M_scale_105 (by decide) ?_
            exact ih_key (k + 1) r3 _ H locs ls (by omega) (by omega) (by rw [er3]; exact dg_up1 h3 (md0 _).1 (md0 _).2) ⟨by omega, by omega⟩ (by rw [er3, vl_up1, B_succ]; exact sc_step h5) hw (lv_sub hl [2, 3, 4, 5, 6, 7, 8, 1, 0] rfl)
      rw [eM] at hw
      exact key (ux + 1) 0 (M 4) 0 H locs ls (by omega) (by omega) (fun k hk => by omega) (by omega) (by simp [vl]) hw (lv_sub hl [5, 6, 7, 8, 4, 3, 2, 1, 0] rfl)
    refine sy_iload_n X d_M_scale_14 hl 4 rfl ?_
    refine sy_if_ge (tgt := 28) X d_M_scale_15 (by decide) ⟨by omega, by omega⟩ (fun c5 => ?_) (fun c5 => ?_)
    · refine sy_iload_n X d_M_scale_28 hl 4 rfl ?_
      refine sy_if_le (tgt := 41) X d_M_scale_29 (by decide) ⟨by omega, by omega⟩ (fun c6 => ?_) (fun c6 => ?_)
      · refine sy_iconst X d_M_scale_41 ?_
        exact W_topi (by rw [← hsc]; (repeat' split) <;> omega) (km2 H locs hw)
      · refine sy_aload_n X d_M_scale_32 hl 1 rfl ?_
        refine m_get X hw 2 (by decide) rfl (tt_of k511 rfl) d_M_scale_33 ?_
        refine sy_iload_n X d_M_scale_36 hl 3 rfl ?_
        refine m_ald X hw 3 x (by decide) (by omega) (by simp only [szM]; omega) ((N x).sign) hsx d_M_scale_37 ?_
        refine sy_goto (tgt := 42) X d_M_scale_38 (by decide) ?_
        exact W_topi (by rw [← hsc]; (repeat' split) <;> omega) (km2 H locs hw)
    · refine sy_aload_n X d_M_scale_18 hl 1 rfl ?_
      refine m_get X hw 2 (by decide) rfl (tt_of k511 rfl) d_M_scale_19 ?_
      refine sy_iload_n X d_M_scale_22 hl 3 rfl ?_
      refine m_ald X hw 3 x (by decide) (by omega) (by simp only [szM]; omega) ((N x).sign) hsx d_M_scale_23 ?_
      refine sy_ineg X d_M_scale_24 ?_
      refine sy_goto (tgt := 42) X d_M_scale_25 (by decide) ?_
      exact W_topi (by rw [← hsc]; (repeat' split) <;> omega) (km2 H locs hw)
  refine sy_iload_n X d_M_scale_0 hl 3 rfl ?_
  refine sy_if_ge (tgt := 10) X d_M_scale_1 (by decide) ⟨by omega, by omega⟩ (fun c7 => ?_) (fun c7 => ?_)
  · refine sy_iload_n X d_M_scale_10 hl 3 rfl ?_
    refine sy_i2l X d_M_scale_11 ⟨by omega, by omega⟩ ?_
    exact W_topl (by omega) (km1 H locs hw)
  · refine sy_iload_n X d_M_scale_4 hl 3 rfl ?_
    refine sy_i2l X d_M_scale_5 ⟨by omega, by omega⟩ ?_
    refine sy_lneg X d_M_scale_6 ?_
    refine sy_goto (tgt := 12) X d_M_scale_7 (by decide) ?_
    exact W_topl (by omega) (km1 H locs hw)
set_option maxRecDepth 100000 in
set_option maxHeartbeats 4000000 in
theorem c_M_gain (l : Launch) (D : va_G) (cs : Nat → ClassId) (ad : Nat → Nat) (M : Nat → Nat → Int) (N : Nat → Int) (z x : Nat) (v : Int) (t : Nat) (hz : z < 120) (hx : x < 120) (ht : t < 120) (hzt : z ≠ t) (hv : R31 v) (hR : Rep M N) (hb : ((N x * v).natAbs : Int) < 65536 ^ 110) (hb2 : ((N z + N x * v).natAbs : Int) < 65536 ^ 110) : Ct (S := Nat → Nat → Int) l D (tyL cs) y_M_gain b_M_gain 5 none (rm 4) [.ref (ad 0), .int (iI ((z : Nat) : Int)), .int (iI ((x : Nat) : Int)), .int (iI v), .int (iI ((t : Nat) : Int))] (wM ad cs M) (fun M1 => Rep M1 (up1 (up1 N t (N x * v)) z (N z + N x * v)) ∧ Sm M M1) (fun _ => none) (fun M1 => wM ad cs M1) := by
  refine Ct.introV (by decide) (Nat.le_of_ble_eq_true rfl) (fun _ => rfl) ?_
  intro p e s m below meth c A args Q H locs X hnm hw kr ls hl
  have X : CX D (tyL cs) R_M b_M_gain 5 p m c s args := X
  have hl : lv_has ls 5 [(0, .ref (ad 0)), (1, .int (iI ((z : Nat) : Int))), (2, .int (iI ((x : Nat) : Int))), (3, .int (iI v)), (4, .int (iI ((t : Nat) : Int)))] := hl
  refine sy_aload_n X d_M_gain_0 hl 0 rfl ?_
  refine sy_iload X d_M_gain_1 hl 4 rfl ?_
  refine sy_iload_n X d_M_gain_3 hl 2 rfl ?_
  refine sy_iload_n X d_M_gain_4 hl 3 rfl ?_
  refine call_Vv (Xs := []) (b := ad 0) (As := [.int (iI ((t : Nat) : Int)), .int (iI ((x : Nat) : Int)), .int (iI v)]) (rest := []) X lk_M_52 (c_M_scale l D cs ad M N t x v ht hx hv hR hb) ⟨by decide, by decide⟩ rcv_M hw rfl hl.1 (Nat.le_of_ble_eq_true rfl) d_M_gain_5 rfl rfl ⟨Nat.zero_le _, Nat.zero_le _⟩ (fun M1 H locs hp1 hw => ?_)
  refine sy_aload_n X d_M_gain_8 hl 0 rfl ?_
  refine sy_iload_n X d_M_gain_9 hl 1 rfl ?_
  refine sy_iload_n X d_M_gain_10 hl 1 rfl ?_
  refine sy_iload X d_M_gain_11 hl 4 rfl ?_
  refine sy_iconst X d_M_gain_13 ?_
  have e1 : up1 N t (N x * v) z + 1 * up1 N t (N x * v) t = N z + N x * v := by rw [up1_s, up1_n _ hzt]; omega
  refine call_Vv (Xs := []) (b := ad 0) (As := [.int (iI ((z : Nat) : Int)), .int (iI ((z : Nat) : Int)), .int (iI ((t : Nat) : Int)), .int (iI 1)]) (rest := []) X lk_M_55 (c_M_sum l D cs ad M1 (up1 N t (N x * v)) z z t 1 hz hz ht (Or.inl rfl) hp1.1 (by rw [e1]; exact hb2)) ⟨by decide, by decide⟩ rcv_M hw rfl hl.1 (Nat.le_of_ble_eq_true rfl) d_M_gain_14 rfl rfl ⟨Nat.zero_le _, Nat.zero_le _⟩ (fun M2 H locs hp2 hw => ?_)
  rw [e1] at hp2
  exact kr _ _ _ _ _ d_M_gain_17 hw ⟨hp2.1, hp1.2.tr hp2.2⟩
set_option maxRecDepth 100000 in
set_option maxHeartbeats 4000000 in
theorem c_M_join (l : Launch) (D : va_G) (cs : Nat → ClassId) (ad : Nat → Nat) (M : Nat → Nat → Int) (N : Nat → Int) (z x y : Nat) (s0 : Int) (t : Nat) (hz : z < 120) (hx : x < 120) (hy : y < 120) (ht : t < 120) (hzt : z ≠ t) (hs0 : s0 = 1 ∨ s0 = -1) (hR : Rep M N) (hb : ((N x * N y).natAbs : Int) < 65536 ^ 110) (hb2 : ((N z + s0 * (N x * N y)).natAbs : Int) < 65536 ^ 110) : Ct (S := Nat → Nat → Int) l D (tyL cs) y_M_join b_M_join 6 none (rm 4) [.ref (ad 0), .int (iI ((z : Nat) : Int)), .int (iI ((x : Nat) : Int)), .int (iI ((y : Nat) : Int)), .int (iI s0), .int (iI ((t : Nat) : Int))] (wM ad cs M) (fun M1 => Rep M1 (up1 (up1 N t (N x * N y)) z (N z + s0 * (N x * N y))) ∧ Sm M M1) (fun _ => none) (fun M1 => wM ad cs M1) := by
  refine Ct.introV (by decide) (Nat.le_of_ble_eq_true rfl) (fun _ => rfl) ?_
  intro p e s m below meth c A args Q H locs X hnm hw kr ls hl
  have X : CX D (tyL cs) R_M b_M_join 6 p m c s args := X
  have hl : lv_has ls 6 [(0, .ref (ad 0)), (1, .int (iI ((z : Nat) : Int))), (2, .int (iI ((x : Nat) : Int))), (3, .int (iI ((y : Nat) : Int))), (4, .int (iI s0)), (5, .int (iI ((t : Nat) : Int)))] := hl
  refine sy_aload_n X d_M_join_0 hl 0 rfl ?_
  refine sy_iload X d_M_join_1 hl 5 rfl ?_
  refine sy_iload_n X d_M_join_3 hl 2 rfl ?_
  refine sy_iload_n X d_M_join_4 hl 3 rfl ?_
  refine call_Vv (Xs := []) (b := ad 0) (As := [.int (iI ((t : Nat) : Int)), .int (iI ((x : Nat) : Int)), .int (iI ((y : Nat) : Int))]) (rest := []) X lk_M_59 (c_M_times l D cs ad M N t x y ht hx hy hR hb) ⟨by decide, by decide⟩ rcv_M hw rfl hl.1 (Nat.le_of_ble_eq_true rfl) d_M_join_5 rfl rfl ⟨Nat.zero_le _, Nat.zero_le _⟩ (fun M1 H locs hp1 hw => ?_)
  refine sy_aload_n X d_M_join_8 hl 0 rfl ?_
  refine sy_iload_n X d_M_join_9 hl 1 rfl ?_
  refine sy_iload_n X d_M_join_10 hl 1 rfl ?_
  refine sy_iload X d_M_join_11 hl 5 rfl ?_
  refine sy_iload X d_M_join_13 hl 4 rfl ?_
  have e1 : up1 N t (N x * N y) z + s0 * up1 N t (N x * N y) t = N z + s0 * (N x * N y) := by rw [up1_s, up1_n _ hzt]
  refine call_Vv (Xs := []) (b := ad 0) (As := [.int (iI ((z : Nat) : Int)), .int (iI ((z : Nat) : Int)), .int (iI ((t : Nat) : Int)), .int (iI s0)]) (rest := []) X lk_M_55 (c_M_sum l D cs ad M1 (up1 N t (N x * N y)) z z t s0 hz hz ht hs0 hp1.1 (by rw [e1]; exact hb2)) ⟨by decide, by decide⟩ rcv_M hw rfl hl.1 (Nat.le_of_ble_eq_true rfl) d_M_join_15 rfl rfl ⟨Nat.zero_le _, Nat.zero_le _⟩ (fun M2 H locs hp2 hw => ?_)
  rw [e1] at hp2
  exact kr _ _ _ _ _ d_M_join_18 hw ⟨hp2.1, hp1.2.tr hp2.2⟩
end
section
/-! for the long division -/
def W2 (M : Nat → Nat → Int) (r q : Nat → Int) : Nat → Nat → Int := upA (upA M 4 r) 5 q
theorem W2_4 (M : Nat → Nat → Int) (r q : Nat → Int) (k : Nat) (x : Int) : up2 (W2 M r q) 4 k x = W2 M (up1 r k x) q := by
  funext a; by_cases h : a = 5
  · subst h; simp [W2, up2, upA]
  · by_cases h2 : a = 4
    · subst h2; simp [W2, up2, upA]
    · simp [W2, up2, upA, h, h2]
theorem W2_5 (M : Nat → Nat → Int) (r q : Nat → Int) (k : Nat) (x : Int) : up2 (W2 M r q) 5 k x = W2 M r (up1 q k x) := up2_upA _ _ _ _ _
theorem W2_A4 (M : Nat → Nat → Int) (r q r1 : Nat → Int) : upA (W2 M r q) 4 r1 = W2 M r1 q := by
  funext a; by_cases h : a = 5
  · subst h; simp [W2, upA]
  · by_cases h2 : a = 4
    · subst h2; simp [W2, upA]
    · simp [W2, upA, h, h2]
theorem W2_self (M : Nat → Nat → Int) : M = W2 M (M 4) (M 5) := by
  funext a; by_cases h : a = 5
  · subst h; simp [W2, upA]
  · by_cases h2 : a = 4
    · subst h2; simp [W2, upA]
    · simp [W2, upA, h, h2]
theorem c_M_digitOfW (l : Launch) (D : va_G) (cs : Nat → ClassId) (ad : Nat → Nat) (M : Nat → Nat → Int) (r q : Nat → Int) (x k : Nat) (hx : x < 120) (hk : k < 2147483648) (hW : Wf M) : Ct (S := Unit) l D (tyL cs) y_M_digitOf b_M_digitOf 3 (some .int) (rm 1) [.ref (ad 0), .int (iI ((x : Nat) : Int)), .int (iI ((k : Nat) : Int))] (wM ad cs (W2 M r q)) (fun _ => True) (fun _ => some (.int (iI (dgt M x k)))) (fun _ => wM ad cs (W2 M r q)) := c_M_digitOf l D cs ad (W2 M r q) x k hx hk hW
/-- the number in m cells from j on -/
def wd (r : Nat → Int) (j m : Nat) : Int := vl (fun k => r (j + k)) m
theorem wd_succ (r : Nat → Int) (j m : Nat) : wd r j (m + 1) = wd r j m + r (j + m) * 65536 ^ m := rfl
theorem vl_split (r : Nat → Int) (j : Nat) : ∀ m, vl r (j + m) = vl r j + wd r j m * 65536 ^ j
  | 0 => by simp [wd, vl]
  | m + 1 => by
    have e : vl r (j + (m + 1)) = vl r (j + m) + r (j + m) * 65536 ^ (j + m) := rfl
    rw [e, vl_split r j m, wd_succ, Int.pow_add]; grind
theorem vl_win {r r1 : Nat → Int} {j m : Nat} (h : ∀ t, (t < j ∨ j + m ≤ t) → r1 t = r t) : ∀ n, j + m ≤ n → vl r1 n = vl r n + (wd r1 j m - wd r j m) * 65536 ^ j := by
  intro n hn
  obtain ⟨t, rfl⟩ : ∃ t, n = (j + m) + t := ⟨n - (j + m), by omega⟩
  rw [vl_split r1 (j + m) t, vl_split r (j + m) t, vl_split r1 j m, vl_split r j m]
  have e1 : vl r1 j = vl r j := vl_congr (fun k hk => h k (by omega))
  have e2 : wd r1 (j + m) t = wd r (j + m) t := vl_congr (fun k hk => h _ (by omega))
  rw [e1, e2]; grind
theorem hi_zero {r : Nat → Int} {t : Nat} : ∀ {n : Nat}, Dg r n → vl r n < 65536 ^ t → ∀ k, t ≤ k → k < n → r k = 0
  | 0, _, _, k, _, hk => by omega
  | n + 1, hd, h, k, ht, hk => by
    have hd' := hd.le (Nat.le_succ n)
    have h0 := vl_nonneg hd'
    have hn := hd n (Nat.lt_succ_self n)
    by_cases e : r n = 0
    · by_cases ek : k = n
      · rw [ek]; exact e
      · have h1 : vl r (n + 1) = vl r n := by simp only [vl, e]; omega
        exact hi_zero hd' (by rw [← h1]; exact h) k ht (by omega)
    · have := vl_top hd e
      have := B_le (show t ≤ n by omega)
      omega
theorem win {r : Nat → Int} {j m n : Nat} {Y : Int} (hd : Dg r n) (hn : j + m + 1 ≤ n) (hY : Y ≤ 65536 ^ m) (h : vl r n < Y * 65536 ^ (j + 1)) : vl r n = vl r j + wd r j (m + 1) * 65536 ^ j ∧ 0 ≤ vl r j ∧ vl r j < 65536 ^ j := by
  have hj := hd.le (show j ≤ n by omega)
  refine ⟨?_, vl_nonneg hj, vl_lt hj⟩
  have h1 : vl r n < 65536 ^ (j + m + 1) := by
    have : Y * 65536 ^ (j + 1) ≤ 65536 ^ m * 65536 ^ (j + 1) := Int.mul_le_mul_of_nonneg_right hY (Int.le_of_lt (B_pos _))
    rw [← Int.pow_add, show m + (j + 1) = j + m + 1 by omega] at this
    omega
  rw [vl_zero (u := j + m + 1) hn (fun k h1' h2 => hi_zero hd h1 k h1' h2), Nat.add_assoc, vl_split]
/-- the digit that is tried never takes too much -/
theorem q_ok {f dy : Nat → Int} {m : Nat} {Y a0 : Int} (hf : Dg f (m + 1)) (hd : Dg dy m) (hm : 1 ≤ m) (hY : vl dy m = Y) (h0 : 0 ≤ a0 ∧ a0 < 65536) (ha : 2 ≤ m → a0 = f (m - 2)) :
    (f m * 4294967296 + f (m - 1) * 65536 + a0) / (dy (m - 1) * 65536 + (if 1 < m then dy (m - 2) else 0) + 1) * Y ≤ vl f (m + 1) := by
  generalize hq : (f m * 4294967296 + f (m - 1) * 65536 + a0) / (dy (m - 1) * 65536 + (if 1 < m then dy (m - 2) else 0) + 1) = q
  have g1 := hf m (by omega)
  have g2 := hf (m - 1) (by omega)
  have g3 := hd (m - 1) (by omega)
  by_cases h2 : 1 < m
  · obtain ⟨t, rfl⟩ : ∃ t, m = t + 2 := ⟨m - 2, by omega⟩
    have g4 := hd t (by omega)
    have g5 := hf t (by omega)
    rw [if_pos h2, ha (by omega)] at hq
    simp only [Nat.add_sub_cancel, show t + 2 - 1 = t + 1 by omega] at *
    have hf0 := vl_nonneg (hf.le (show t ≤ t + 2 + 1 by omega))
    have hd1 := vl_lt (hd.le (show t ≤ t + 2 by omega))
    have eR : vl f (t + 2 + 1) = vl f t + (f (t + 2) * 4294967296 + f (t + 1) * 65536 + f t) * 65536 ^ t := by
      simp only [vl, B_succ]; grind
    have eY : Y = vl dy t + (dy (t + 1) * 65536 + dy t) * 65536 ^ t := by
      rw [← hY]; simp only [vl, B_succ]; grind
    have hB := B_pos t
    have hq0 : 0 ≤ q := by rw [← hq]; exact Int.ediv_nonneg (by omega) (by omega)
    have k1 : q * (dy (t + 1) * 65536 + dy t + 1) ≤ f (t + 2) * 4294967296 + f (t + 1) * 65536 + f t := by
      rw [← hq]; exact Int.ediv_mul_le _ (by omega)
    have k2 : Y ≤ (dy (t + 1) * 65536 + dy t + 1) * 65536 ^ t := by rw [eY]; rw [Int.add_mul (dy (t + 1) * 65536 + dy t) 1]; omega
    have k3 := Int.mul_le_mul_of_nonneg_left k2 hq0
    have k4 := Int.mul_le_mul_of_nonneg_right k1 (Int.le_of_lt hB)
    rw [eR]
    rw [← Int.mul_assoc] at k3
    omega
  · have e1 : m = 1 := by omega
    subst e1
    rw [if_neg h2] at hq
    simp only [Nat.sub_self] at *
    have eR : vl f (1 + 1) = f 0 + f 1 * 65536 := by simp [vl]
    have eY : Y = dy 0 := by rw [← hY]; simp [vl]
    have hq0 : 0 ≤ q := by rw [← hq]; exact Int.ediv_nonneg (by omega) (by omega)
    have k1 : q * (dy 0 * 65536 + 0 + 1) ≤ f 1 * 4294967296 + f 0 * 65536 + a0 := by
      rw [← hq]; exact Int.ediv_mul_le _ (by omega)
    rw [eR, eY]
    rw [show q * (dy 0 * 65536 + 0 + 1) = (q * dy 0) * 65536 + q by grind] at k1
    generalize q * dy 0 = u at *
    omega
theorem jI_div {a b : Int} (ha : 0 ≤ a) (ha2 : a < 9223372036854775808) (hb : 0 < b) (hb2 : b < 9223372036854775808) : jI a / jI b = jI (a / b) := by
  show Int64.ofInt a / Int64.ofInt b = Int64.ofInt (a / b)
  rw [← Int.tdiv_eq_ediv_of_nonneg ha, Int64.ofInt_tdiv] <;> first | (rw [Int64.toInt_minValue]; omega) | (rw [Int64.toInt_maxValue]; omega)
theorem sy_ldiv {p : Program} {l : Launch} {e : Env} {R : Room} {s : State} {m : MethodId} {args : Array Value} {below : List Frame} {meth : Method} {c : Code} {H : Heap} {locs : List Loc} {cells slots : Nat} {Q : State → Prop} {D : va_G} {tys : List (ClassId × FieldType)} {own : String} {cc : ByteArray} {nL : Nat} {pc : Nat} {ls : Array Slot} {rest : List Value} {a b : Int} (X : CX D tys own cc nL p m c s args) (hd : decode cc pc = .ok (.ldiv, 1)) (ha : 0 ≤ a) (ha2 : a < 9223372036854775808) (hb : 0 < b) (hb2 : b < 9223372036854775808) (k : W p l e R s m args below meth c H locs cells slots Q (F0 m (pc + 1) ls (.long (jI (a / b)) :: rest))) : W p l e R s m args below meth c H locs cells slots Q (F0 m pc ls (.long (jI b) :: .long (jI a) :: rest)) :=
  lv_ldiv X.1.1 X.1.2.1 hd (fun h => by
    have h2 : jI b = jI 0 := h
    rw [jI_eq ⟨by omega, hb2⟩ ⟨by decide, by decide⟩] at h2
    omega) (by rw [jI_div ha ha2 hb hb2]; exact k)
end
section
theorem to_step {VR cy VM q VY a d P : Int} (h : VR + cy * P = VM - q * VY) : (VR + (a - q * d + cy) % 65536 * P) + (a - q * d + cy) / 65536 * (P * 65536) = (VM + a * P) - q * (VY + d * P) := by
  have := add_step (c := a - q * d + cy) (d := a - q * d) (by omega) h
  rw [this]; grind
set_option maxRecDepth 100000 in
set_option maxHeartbeats 4000000 in
theorem c_M_takeOff (l : Launch) (D : va_G) (cs : Nat → ClassId) (ad : Nat → Nat) (M : Nat → Nat → Int) (N : Nat → Int) (y j u : Nat) (q : Int) (hy : y < 120) (hR : Rep M N) (hu : M 2 y = (u : Int)) (hj : j + u + 1 ≤ 224) (hd : Dg (fun k => M 4 (j + k)) (u + 1)) (hq0 : 0 ≤ q) (hq1 : q < 4294967296) (hle : q * ((N y).natAbs : Int) ≤ wd (M 4) j (u + 1)) : Ct (S := Nat → Int) l D (tyL cs) y_M_takeOff b_M_takeOff 10 none (rm 2) [.ref (ad 0), .int (iI ((y : Nat) : Int)), .int (iI ((j : Nat) : Int)), .long (jI q)] (wM ad cs M) (fun r => (∀ t, (t < j ∨ j + (u + 1) ≤ t) → r t = M 4 t) ∧ Dg (fun k => r (j + k)) (u + 1) ∧ wd r j (u + 1) = wd (M 4) j (u + 1) - q * ((N y).natAbs : Int)) (fun _ => none) (fun r => wM ad cs (upA M 4 r)) := by
  refine Ct.introV (by decide) (Nat.le_of_ble_eq_true rfl) (fun _ => rfl) ?_
  intro p e s m below meth c A args Q H locs X hnm hw kr ls hl
  have X : CX D (tyL cs) R_M b_M_takeOff 10 p m c s args := X
  have hl : lv_has ls 10 [(0, .ref (ad 0)), (1, .int (iI ((y : Nat) : Int))), (2, .int (iI ((j : Nat) : Int))), (3, .long (jI q))] := hl
  have hWf := hR.wf
  obtain ⟨uy, huy, hu1, hdy, hvy, -, -, -⟩ := (hR y hy).dig
  have eu : uy = u := by omega
  rw [eu] at hu1 hvy
  have hvy := hvy (u + 1) (by omega)
  have eM : M = upA M 4 (M 4) := (upA_self M 4).symm
  refine sy_lconst (z := 0) X d_M_takeOff_0 (by decide) ?_
  refine sy_lstore (lv1 := [(5, .long (jI 0)), (0, .ref (ad 0)), (1, .int (iI ((y : Nat) : Int))), (2, .int (iI ((j : Nat) : Int))), (3, .long (jI q))]) X d_M_takeOff_1 hl (by decide) rfl (fun ls hl => ?_)
  refine sy_iconst X d_M_takeOff_3 ?_
  refine sy_istore (lv1 := [(7, .int (iI 0)), (5, .long (jI 0)), (0, .ref (ad 0)), (1, .int (iI ((y : Nat) : Int))), (2, .int (iI ((j : Nat) : Int))), (3, .long (jI q))]) X d_M_takeOff_4 hl (by decide) rfl (fun ls hl => ?_)
  have key : ∀ (n : Nat) (k : Nat) (r : Nat → Int) (cy : Int) (H : Heap) (locs : List Loc) (ls : Array Slot), k ≤ u + 1 → u + 1 < k + n → (∀ t, (t < j ∨ j + k ≤ t) → r t = M 4 t) → Dg (fun i => r (j + i)) k → -q - 1 ≤ cy ∧ cy ≤ 0 → wd r j k + cy * 65536 ^ k = wd (M 4) j k - q * vl (dgt M y) k → HW D A s.heap (wM ad cs (upA M 4 r)) H locs → lv_has ls 10 [(0, .ref (ad 0)), (1, .int (iI ((y : Nat) : Int))), (2, .int (iI ((j : Nat) : Int))), (3, .long (jI q)), (5, .long (jI cy)), (7, .int (iI ((k : Nat) : Int)))] → W p l e (rm 2) s m args below meth c H locs 0 0 Q (F0 m 6 ls []) := by
    intro n
    induction n with
    | zero =>
      intro k r cy H locs ls h1 h2 h3 h4 h5 h6 hw hl
      exfalso; omega
    | succ n ih_key =>
      intro k r cy H locs ls h1 h2 h3 h4 h5 h6 hw hl
      refine sy_iload X d_M_takeOff_6 hl 5 rfl ?_
      refine sy_aload_n X d_M_takeOff_8 hl 0 rfl ?_
      refine m_get X hw 1 (by decide) rfl (tt_of k510 rfl) d_M_takeOff_9 ?_
      refine sy_iload_n X d_M_takeOff_12 hl 1 rfl ?_
      refine m_ald X hw 2 y (by decide) (by omega) (by simp only [szM]; omega) (u : Int) hu d_M_takeOff_13 ?_
      refine sy_icmp_gt (tgt := 72) X d_M_takeOff_14 (by decide) ⟨by omega, by omega⟩ ⟨by omega, by omega⟩ (fun c1 => ?_) (fun c1 => ?_)
      · have hk : k = u + 1 := by omega
        rw [hk, hvy] at h6
        rw [hk] at h3 h4
        have hlt : wd r j (u + 1) < 65536 ^ (u + 1) := vl_lt h4
        have h0 : 0 ≤ wd r j (u + 1) := vl_nonneg h4
        have hmx : wd (M 4) j (u + 1) < 65536 ^ (u + 1) := vl_lt hd
        have hqy : 0 ≤ q * ((N y).natAbs : Int) := Int.mul_nonneg hq0 (by omega)
        have hB := B_pos (u + 1)
        have hcy : cy = 0 := by
          rcases Int.lt_trichotomy cy 0 with h | h | h
          · have : cy * 65536 ^ (u + 1) ≤ (-1) * 65536 ^ (u + 1) := Int.mul_le_mul_of_nonneg_right (by omega) (Int.le_of_lt hB)
            omega
          · exact h
          · omega
        rw [hcy] at h6
        exact kr r _ _ _ _ d_M_takeOff_72 hw ⟨h3, h4, by omega⟩
      · have hby := hdy (k + 1) k (by omega)
        have hbr := hd k (by omega)
        have hrk : r (j + k) = M 4 (j + k) := h3 _ (by omega)
        have hbr : 0 ≤ r (j + k) ∧ r (j + k) < 65536 := by rw [hrk]; exact hbr
        have hpr : 0 ≤ q * dgt M y k ∧ q * dgt M y k ≤ q * 65535 := ⟨Int.mul_nonneg hq0 hby.1, Int.mul_le_mul_of_nonneg_left (by omega) hq0⟩
        refine sy_aload_n X d_M_takeOff_17 hl 0 rfl ?_
        refine m_get X hw 3 (by decide) rfl (tt_of k512 rfl) d_M_takeOff_18 ?_
        refine sy_iload_n X d_M_takeOff_21 hl 2 rfl ?_
        refine sy_iload X d_M_takeOff_22 hl 5 rfl ?_
        refine sy_iadd X d_M_takeOff_24 ?_
        refine m_ald X hw 4 (j + k) (by decide) (by omega) (by simp only [szM]; omega) (r (j + k)) rfl d_M_takeOff_25 ?_
        refine sy_i2l X d_M_takeOff_26 ⟨by omega, by omega⟩ ?_
        refine sy_lload_n X d_M_takeOff_27 hl 3 rfl ?_
        refine sy_aload_n X d_M_takeOff_28 hl 0 rfl ?_
        refine sy_iload_n X d_M_takeOff_29 hl 1 rfl ?_
        refine sy_iload X d_M_takeOff_30 hl 5 rfl ?_
        refine call_Vi (Xs := []) (b := ad 0) (As := [.int (iI ((y : Nat) : Int)), .int (iI ((k : Nat) : Int))]) (rest := [.long (jI q), .long (jI (r (j + k)))]) X lk_M_40 (c_M_digitOfR l D cs ad M r y k (by omega) (by omega) hWf) ⟨by decide, by decide⟩ rcv_M hw rfl hl.1 (Nat.le_of_ble_eq_true rfl) d_M_takeOff_32 rfl rfl ⟨Nat.zero_le _, Nat.zero_le _⟩ (fun _ H locs _ hw => ?_)
        refine sy_i2l X d_M_takeOff_35 ⟨by omega, by omega⟩ ?_
        refine sy_lmul X d_M_takeOff_36 ?_
        refine sy_lsub X d_M_takeOff_37 ?_
        refine sy_lload X d_M_takeOff_38 hl 4 rfl ?_
        refine sy_ladd X d_M_takeOff_40 ?_
        refine sy_lstore (lv1 := [(8, .long (jI (((r (j + k)) - (q * (dgt M y k))) + cy))), (0, .ref (ad 0)), (1, .int (iI ((y : Nat) : Int))), (2, .int (iI ((j : Nat) : Int))), (3, .long (jI q)), (5, .long (jI cy)), (7, .int (iI ((k : Nat) : Int)))]) X d_M_takeOff_41 hl (by decide) rfl (fun ls hl => ?_)
        refine sy_aload_n X d_M_takeOff_43 hl 1 rfl ?_
        refine m_get X hw 3 (by decide) rfl (tt_of k512 rfl) d_M_takeOff_44 ?_
        refine sy_iload_n X d_M_takeOff_47 hl 3 rfl ?_
        refine sy_iload X d_M_takeOff_48 hl 6 rfl ?_
        refine sy_iadd X d_M_takeOff_50 ?_
        refine sy_lload X d_M_takeOff_51 hl 0 rfl ?_
        refine sy_ldc2 (z := 65535) X (tt_of k500 rfl) d_M_takeOff_53 (by decide) ?_
        refine sy_land X 16 65536 d_M_takeOff_56 (by decide) (by decide) (by decide) ?_
        refine sy_l2i X d_M_takeOff_57 ?_
        refine m_ast X hw 4 (j + k) (by decide) (by omega) (by simp only [szM]; omega) d_M_takeOff_58 (fun H locs hw => ?_)
        rw [up2_upA] at hw
        obtain ⟨r1, er1⟩ : ∃ g, g = up1 r (j + k) ((((r (j + k)) - (q * (dgt M y k))) + cy) % 65536) := ⟨_, rfl⟩
        rw [← er1] at hw
        refine sy_lload X d_M_takeOff_59 hl 0 rfl ?_
        refine sy_bipush X d_M_takeOff_61 (by decide) ?_
        refine sy_lshr X 65536 d_M_takeOff_63 ⟨by omega, by omega⟩ (by omega) (by omega) (by decide) ?_
        refine sy_lstore (lv1 := [(5, .long (jI ((((r (j + k)) - (q * (dgt M y k))) + cy) / 65536))), (8, .long (jI (((r (j + k)) - (q * (dgt M y k))) + cy))), (0, .ref (ad 0)), (1, .int (iI ((y : Nat) : Int))), (2, .int (iI ((j : Nat) : Int))), (3, .long (jI q)), (7, .int (iI ((k : Nat) : Int)))]) X d_M_takeOff_64 hl (by decide) rfl (fun ls hl => ?_)
        have hA2 : ∀ t, (t < j ∨ j + (k + 1) ≤ t) → r1 t = M 4 t := by intro t ht; rw [er1, up1_n _ (by omega)]; exact h3 t (by omega)
        have ew : ∀ i, i < k → r1 (j + i) = r (j + i) := by intro i hi; rw [er1, up1_n _ (by omega)]
        have es : r1 (j + k) = (r (j + k) - q * dgt M y k + cy) % 65536 := by rw [er1, up1_s]
        have hD2 : Dg (fun i => r1 (j + i)) (k + 1) := by
          intro i hi
          by_cases e : i = k
          · subst e; simp only [es]; exact md0 _
          · simp only [ew i (by omega)]; exact h4 i (by omega)
        have hV2 : wd r1 j (k + 1) + (r (j + k) - q * dgt M y k + cy) / 65536 * 65536 ^ (k + 1) = wd (M 4) j (k + 1) - q * vl (dgt M y) (k + 1) := by
          rw [wd_succ, wd_succ, es, show wd r1 j k = wd r j k from vl_congr ew, B_succ, ← hrk]; simp only [vl]; exact to_step h6
        refine sy_iinc (lv1 := [(7, .int (iI ((k + 1 : Nat) : Int))), (5, .long (jI ((((r (j + k)) - (q * (dgt M y k))) + cy) / 65536))), (8, .long (jI (((r (j + k)) - (q * (dgt M y k))) + cy))), (0, .ref (ad 0)), (1, .int (iI ((y : Nat) : Int))), (2, .int (iI ((j : Nat) : Int))), (3, .long (jI q))]) X d_M_takeOff_66 hl 6 rfl (by omega) (by decide) rfl (fun ls hl => ?_)
        refine sy_goto (tgt := 6) X d_M_takeOff_69 (by decide) ?_
        exact ih_key (k + 1) r1 _ H locs ls (by omega) (by omega) hA2 hD2 ⟨by omega, by omega⟩ hV2 hw (lv_sub hl [3, 4, 5, 6, 1, 0] rfl)
  rw [eM] at hw
  exact key (u + 2) 0 (M 4) 0 H locs ls (by omega) (by omega) (fun _ _ => rfl) (fun i hi => by omega) ⟨by omega, by omega⟩ (by simp [wd, vl]) hw (lv_sub hl [2, 3, 4, 5, 1, 0] rfl)
set_option maxRecDepth 100000 in
set_option maxHeartbeats 4000000 in
theorem c_M_fits (l : Launch) (D : va_G) (cs : Nat → ClassId) (ad : Nat → Nat) (M : Nat → Nat → Int) (N : Nat → Int) (y j u : Nat) (hy : y < 120) (hR : Rep M N) (hu : M 2 y = (u : Int)) (hj : j + u + 1 ≤ 224) (hd : Dg (fun k => M 4 (j + k)) (u + 1)) : Ct (S := Unit) l D (tyL cs) y_M_fits b_M_fits 6 (some .boolean) (rm 2) [.ref (ad 0), .int (iI ((y : Nat) : Int)), .int (iI ((j : Nat) : Int))] (wM ad cs M) (fun _ => True) (fun _ => some (.int (iI (if ((N y).natAbs : Int) ≤ wd (M 4) j (u + 1) then 1 else 0)))) (fun _ => wM ad cs M) := by
  refine Ct.introZ (by decide) (Nat.le_of_ble_eq_true rfl) ?_
  intro p e s m below meth c A args Q H locs X hnm hw kr ls hl
  have X : CX D (tyL cs) R_M b_M_fits 6 p m c s args := X
  have hl : lv_has ls 6 [(0, .ref (ad 0)), (1, .int (iI ((y : Nat) : Int))), (2, .int (iI ((j : Nat) : Int)))] := hl
  have hWf := hR.wf
  obtain ⟨uy, huy, hu1, hdy, hvy, hlt, -, -⟩ := (hR y hy).dig
  have eu : uy = u := by omega
  rw [eu] at hu1 hvy hlt
  have hvy := hvy u (by omega)
  have htop : 0 ≤ M 4 (j + u) ∧ M 4 (j + u) < 65536 := hd u (by omega)
  have hw0 : 0 ≤ wd (M 4) j u := vl_nonneg (hd.le (Nat.le_succ u))
  refine sy_aload_n X d_M_fits_0 hl 0 rfl ?_
  refine m_get X hw 1 (by decide) rfl (tt_of k510 rfl) d_M_fits_1 ?_
  refine sy_iload_n X d_M_fits_4 hl 1 rfl ?_
  refine m_ald X hw 2 y (by decide) (by omega) (by simp only [szM]; omega) (u : Int) hu d_M_fits_5 ?_
  refine sy_istore_n (lv1 := [(3, .int (iI (u : Int))), (0, .ref (ad 0)), (1, .int (iI ((y : Nat) : Int))), (2, .int (iI ((j : Nat) : Int)))]) X d_M_fits_6 hl rfl (by decide) rfl (fun ls hl => ?_)
  refine sy_aload_n X d_M_fits_7 hl 1 rfl ?_
  refine m_get X hw 3 (by decide) rfl (tt_of k512 rfl) d_M_fits_8 ?_
  refine sy_iload_n X d_M_fits_11 hl 3 rfl ?_
  refine sy_iload_n X d_M_fits_12 hl 0 rfl ?_
  refine sy_iadd X d_M_fits_13 ?_
  refine m_ald X hw 4 (j + u) (by decide) (by omega) (by simp only [szM]; omega) (M 4 (j + u)) rfl d_M_fits_14 ?_
  refine sy_if_le (tgt := 20) X d_M_fits_15 (by decide) ⟨by omega, by omega⟩ (fun c1 => ?_) (fun c1 => ?_)
  · refine sy_iload_n X d_M_fits_20 hl 0 rfl ?_
    refine sy_iconst X d_M_fits_21 ?_
    refine sy_isub X d_M_fits_22 ?_
    refine sy_istore (lv1 := [(4, .int (iI ((u : Int) - 1))), (3, .int (iI (u : Int))), (0, .ref (ad 0)), (1, .int (iI ((y : Nat) : Int))), (2, .int (iI ((j : Nat) : Int)))]) X d_M_fits_23 hl (by decide) rfl (fun ls hl => ?_)
    have key : ∀ (n : Nat) (g0 : Nat) (H : Heap) (locs : List Loc) (ls : Array Slot), g0 ≤ u → g0 < n → wd (M 4) j g0 - vl (dgt M y) g0 = wd (M 4) j (u + 1) - ((N y).natAbs : Int) → HW D A s.heap (wM ad cs M) H locs → lv_has ls 6 [(0, .ref (ad 0)), (1, .int (iI ((y : Nat) : Int))), (2, .int (iI ((j : Nat) : Int))), (3, .int (iI (u : Int))), (4, .int (iI ((g0 : Int) - 1)))] → W p l e (rm 2) s m args below meth c H locs 0 0 Q (F0 m 25 ls []) := by
      intro n
      induction n with
      | zero =>
        intro g0 H locs ls h1 h2 h3 hw hl
        exfalso; omega
      | succ n ih_key =>
        intro g0 H locs ls h1 h2 h3 hw hl
        refine sy_iload X d_M_fits_25 hl 4 rfl ?_
        refine sy_if_lt (tgt := 71) X d_M_fits_27 (by decide) ⟨by omega, by omega⟩ (fun c2 => ?_) (fun c2 => ?_)
        · refine sy_iconst X d_M_fits_71 ?_
          exact kr () _ _ _ _ _ d_M_fits_72 hw trivial (by rw [if_pos (by have h := h3; rw [show g0 = 0 by omega] at h; have e1 : wd (M 4) j 0 = 0 := rfl; have e2 : vl (dgt M y) 0 = 0 := rfl; omega)]) rfl
        · rw [show ((g0 : Int) - 1) = ((g0 - 1 : Nat) : Int) by omega] at hl
          have hbx := hd (g0 - 1) (by omega)
          simp only at hbx
          have hby := hdy g0 (g0 - 1) (by omega)
          refine sy_aload_n X d_M_fits_30 hl 0 rfl ?_
          refine m_get X hw 3 (by decide) rfl (tt_of k512 rfl) d_M_fits_31 ?_
          refine sy_iload_n X d_M_fits_34 hl 2 rfl ?_
          refine sy_iload X d_M_fits_35 hl 4 rfl ?_
          refine sy_iadd X d_M_fits_37 ?_
          refine m_ald X hw 4 (j + (g0 - 1)) (by decide) (by omega) (by simp only [szM]; omega) (M 4 (j + (g0 - 1))) rfl d_M_fits_38 ?_
          refine sy_aload_n X d_M_fits_39 hl 0 rfl ?_
          refine sy_iload_n X d_M_fits_40 hl 1 rfl ?_
          refine sy_iload X d_M_fits_41 hl 4 rfl ?_
          refine call_Vi (Xs := []) (b := ad 0) (As := [.int (iI ((y : Nat) : Int)), .int (iI ((g0 - 1 : Nat) : Int))]) (rest := [.int (iI (M 4 (j + (g0 - 1))))]) X lk_M_40 (c_M_digitOf l D cs ad M y (g0 - 1) (by omega) (by omega) hWf) ⟨by decide, by decide⟩ rcv_M hw rfl hl.1 (Nat.le_of_ble_eq_true rfl) d_M_fits_43 rfl rfl ⟨Nat.zero_le _, Nat.zero_le _⟩ (fun _ H locs _ hw => ?_)
          refine sy_isub X d_M_fits_46 ?_
          refine sy_istore (lv1 := [(5, .int (iI ((M 4 (j + (g0 - 1))) - (dgt M y (g0 - 1))))), (0, .ref (ad 0)), (1, .int (iI ((y : Nat) : Int))), (2, .int (iI ((j : Nat) : Int))), (3, .int (iI (u : Int))), (4, .int (iI ((g0 - 1 : Nat) : Int)))]) X d_M_fits_47 hl (by decide) rfl (fun ls hl => ?_)
          refine sy_iload X d_M_fits_49 hl 0 rfl ?_
          refine sy_if_eq (tgt := 65) X d_M_fits_51 (by decide) ⟨by omega, by omega⟩ (fun c3 => ?_) (fun c3 => ?_)
          · have h31 : wd (M 4) j (g0 - 1) - vl (dgt M y) (g0 - 1) = wd (M 4) j (u + 1) - ((N y).natAbs : Int) := by
              rw [← h3]
              obtain ⟨t, rfl⟩ : ∃ t, g0 = t + 1 := ⟨g0 - 1, by omega⟩
              simp only [Nat.add_sub_cancel] at *
              rw [wd_succ]; simp only [vl]
              rw [show M 4 (j + t) = dgt M y t by omega]; omega
            refine sy_iinc (lv1 := [(4, .int (iI (((g0 - 1 : Nat) : Int) + (-1)))), (5, .int (iI ((M 4 (j + (g0 - 1))) - (dgt M y (g0 - 1))))), (0, .ref (ad 0)), (1, .int (iI ((y : Nat) : Int))), (2, .int (iI ((j : Nat) : Int))), (3, .int (iI (u : Int)))]) X d_M_fits_65 hl 5 rfl (by omega) (by decide) rfl (fun ls hl => ?_)
            refine sy_goto (tgt := 25) X d_M_fits_68 (by decide) ?_
            rw [show (((g0 - 1 : Nat) : Int) + (-1)) = (((g0 - 1 : Nat) : Int) - 1) by omega] at hl
            exact ih_key (g0 - 1) H locs ls (by omega) (by omega) h31 hw (lv_sub hl [2, 3, 4, 5, 0] rfl)
          · have hcd := cmp_dig (f := fun k => M 4 (j + k)) (g := dgt M y) (j := g0 - 1) (hd.le (by omega)) (hdy _)
            have ee : g0 - 1 + 1 = g0 := by omega
            rw [ee] at hcd
            have km4 : ∀ (H : Heap) (locs : List Loc), HW D A s.heap (wM ad cs M) H locs → W p l e (rm 2) s m args below meth c H locs 0 0 Q (F0 m 64 ls [.int (iI (if ((N y).natAbs : Int) ≤ wd (M 4) j (u + 1) then 1 else 0))]) := by
              intro H locs hw
              exact kr () _ _ _ _ _ d_M_fits_64 hw trivial rfl (by split <;> rfl)
            refine sy_iload X d_M_fits_54 hl 0 rfl ?_
            refine sy_if_le (tgt := 63) X d_M_fits_56 (by decide) ⟨by omega, by omega⟩ (fun c5 => ?_) (fun c5 => ?_)
            · refine sy_iconst X d_M_fits_63 ?_
              exact W_topi (by first | (rw [if_pos (by have := hcd.2 (by omega); unfold wd at h3 ⊢; omega)]) | (rw [if_neg (by have := hcd.1 (by omega); unfold wd at h3 ⊢; omega)])) (km4 H locs hw)
            · refine sy_iconst X d_M_fits_59 ?_
              refine sy_goto (tgt := 64) X d_M_fits_60 (by decide) ?_
              exact W_topi (by first | (rw [if_pos (by have := hcd.2 (by omega); unfold wd at h3 ⊢; omega)]) | (rw [if_neg (by have := hcd.1 (by omega); unfold wd at h3 ⊢; omega)])) (km4 H locs hw)
    exact key (u + 1) u H locs ls (by omega) (by omega) (by rw [hvy, wd_succ, show M 4 (j + u) = 0 by omega]; omega) hw (lv_sub hl [2, 3, 4, 1, 0] rfl)
  · refine sy_iconst X d_M_fits_18 ?_
    exact kr () _ _ _ _ _ d_M_fits_19 hw trivial (by rw [if_pos (by rw [wd_succ]; have : 1 * 65536 ^ u ≤ M 4 (j + u) * 65536 ^ u := Int.mul_le_mul_of_nonneg_right (by omega) (Int.le_of_lt (B_pos u)); omega)]) rfl
end
section
section Nm
variable {p : Program} {l : Launch} {e : Env} {R : Room} {s : State} {m : MethodId} {args : Array Value} {below : List Frame} {meth : Method} {c : Code} {H : Heap} {locs : List Loc} {cells slots : Nat} {Q : State → Prop} {pc : Nat} {ls : Array Slot} {rest : List Value}
theorem nm_l {a : Int} (k : ∀ z, z = a → W p l e R s m args below meth c H locs cells slots Q (F0 m pc ls (.long (jI z) :: rest))) : W p l e R s m args below meth c H locs cells slots Q (F0 m pc ls (.long (jI a) :: rest)) := k a rfl
theorem nm_i {a : Int} (k : ∀ z, z = a → W p l e R s m args below meth c H locs cells slots Q (F0 m pc ls (.int (iI z) :: rest))) : W p l e R s m args below meth c H locs cells slots Q (F0 m pc ls (.int (iI a) :: rest)) := k a rfl
end Nm
theorem c_M_fitsW (l : Launch) (D : va_G) (cs : Nat → ClassId) (ad : Nat → Nat) (M : Nat → Nat → Int) (N : Nat → Int) (r q : Nat → Int) (y j u : Nat) (hy : y < 120) (hR : Rep M N) (hu : M 2 y = (u : Int)) (hj : j + u + 1 ≤ 224) (hd : Dg (fun k => r (j + k)) (u + 1)) : Ct (S := Unit) l D (tyL cs) y_M_fits b_M_fits 6 (some .boolean) (rm 2) [.ref (ad 0), .int (iI ((y : Nat) : Int)), .int (iI ((j : Nat) : Int))] (wM ad cs (W2 M r q)) (fun _ => True) (fun _ => some (.int (iI (if ((N y).natAbs : Int) ≤ wd r j (u + 1) then 1 else 0)))) (fun _ => wM ad cs (W2 M r q)) :=
  c_M_fits l D cs ad (W2 M r q) N y j u hy hR hu hj hd
theorem c_M_takeOffW (l : Launch) (D : va_G) (cs : Nat → ClassId) (ad : Nat → Nat) (M : Nat → Nat → Int) (N : Nat → Int) (r qf : Nat → Int) (y j u : Nat) (q : Int) (hy : y < 120) (hR : Rep M N) (hu : M 2 y = (u : Int)) (hj : j + u + 1 ≤ 224) (hd : Dg (fun k => r (j + k)) (u + 1)) (hq0 : 0 ≤ q) (hq1 : q < 4294967296) (hle : q * ((N y).natAbs : Int) ≤ wd r j (u + 1)) : Ct (S := Nat → Int) l D (tyL cs) y_M_takeOff b_M_takeOff 10 none (rm 2) [.ref (ad 0), .int (iI ((y : Nat) : Int)), .int (iI ((j : Nat) : Int)), .long (jI q)] (wM ad cs (W2 M r qf)) (fun r1 => (∀ t, (t < j ∨ j + (u + 1) ≤ t) → r1 t = r t) ∧ Dg (fun k => r1 (j + k)) (u + 1) ∧ wd r1 j (u + 1) = wd r j (u + 1) - q * ((N y).natAbs : Int)) (fun _ => none) (fun r1 => wM ad cs (W2 M r1 qf)) := by
  have h := c_M_takeOff l D cs ad (W2 M r qf) N y j u q hy hR hu hj hd hq0 hq1 hle
  have e : (fun r1 => wM ad cs (upA (W2 M r qf) 4 r1)) = (fun r1 => wM ad cs (W2 M r1 qf)) := funext (fun r1 => by rw [W2_A4])
  rw [e] at h
  exact h
theorem sp_lt {VR Y P q0 v : Int} (hP : 0 < P) (hY : 0 < Y) (h : VR + q0 * Y * P < Y * (P * 65536)) (hv : v * Y * P ≤ VR) : q0 + v < 65536 := by
  have h1 : (q0 + v) * (Y * P) < 65536 * (Y * P) := by
    have e1 : (q0 + v) * (Y * P) = q0 * Y * P + v * Y * P := by grind
    have e2 : Y * (P * 65536) = 65536 * (Y * P) := by grind
    rw [e1, ← e2]; omega
  exact Int.lt_of_mul_lt_mul_right h1 (Int.le_of_lt (Int.mul_pos hY hP))
theorem eq_up {r f : Nat → Int} {k : Nat} {x : Int} (h : ∀ t, t < k → r t = f t) (hx : x = f k) : ∀ t, t < k + 1 → up1 r k x t = f t := fun t ht => by
  by_cases e : t = k
  · rw [e, up1_s, hx]
  · rw [up1_n _ e]; exact h t (by omega)
theorem sp_init {X Y : Int} {ux uy : Nat} (hX : X < 65536 ^ ux) (hY : 65536 ^ (uy - 1) ≤ Y) (h1 : 1 ≤ uy) (hY0 : 0 < Y) : X < Y * 65536 ^ ((ux : Int) - (uy : Int) + 1).toNat := by
  rcases Nat.lt_or_ge ux uy with h | h
  · rw [show ((ux : Int) - (uy : Int) + 1).toNat = 0 by omega]
    have := B_le (show ux ≤ uy - 1 by omega)
    simp; omega
  · have e : 65536 ^ ux = (65536 : Int) ^ (uy - 1) * 65536 ^ ((ux : Int) - (uy : Int) + 1).toNat := by
      rw [← Int.pow_add]; congr 1; omega
    rw [e] at hX
    have := Int.mul_le_mul_of_nonneg_right hY (Int.le_of_lt (B_pos ((ux : Int) - (uy : Int) + 1).toNat))
    omega
set_option maxRecDepth 100000 in
set_option maxHeartbeats 4000000 in
theorem c_M_split (l : Launch) (D : va_G) (cs : Nat → ClassId) (ad : Nat → Nat) (M : Nat → Nat → Int) (N : Nat → Int) (x y ux uy : Nat) (hx : x < 120) (hy : y < 120) (hR : Rep M N) (hux : M 2 x = (ux : Int)) (huy : M 2 y = (uy : Int)) (hy1 : 1 ≤ uy) : Ct (S := (Nat → Int) × (Nat → Int)) l D (tyL cs) y_M_split b_M_split 12 none (rm 3) [.ref (ad 0), .int (iI ((x : Nat) : Int)), .int (iI ((y : Nat) : Int))] (wM ad cs M) (fun u => Dg u.1 (ux + 3) ∧ Dg u.2 (ux + 3) ∧ ((N x).natAbs : Int) = vl u.2 (ux + 3) * ((N y).natAbs : Int) + vl u.1 (ux + 3) ∧ vl u.1 (ux + 3) < ((N y).natAbs : Int)) (fun _ => none) (fun u => wM ad cs (W2 M u.1 u.2)) := by
  refine Ct.introV (by decide) (Nat.le_of_ble_eq_true rfl) (fun _ => rfl) ?_
  intro p e s m below meth c A args Q H locs X hnm hw kr ls hl
  have X : CX D (tyL cs) R_M b_M_split 12 p m c s args := X
  have hl : lv_has ls 12 [(0, .ref (ad 0)), (1, .int (iI ((x : Nat) : Int))), (2, .int (iI ((y : Nat) : Int)))] := hl
  have hWf := hR.wf
  obtain ⟨vx, hvx0, hux1, hdx, hvx, hltx, -, -⟩ := (hR x hx).dig
  have eux : vx = ux := by omega
  rw [eux] at hux1 hvx hltx
  obtain ⟨vy, hvy0, huy1, hdy, hvy, hlty, htopy, -⟩ := (hR y hy).dig
  have euy : vy = uy := by omega
  rw [euy] at huy1 hvy hlty htopy
  have hvx := hvx (ux + 3) (by omega)
  have hvy := hvy uy (by omega)
  have htopy : (65536 : Int) ^ (uy - 1) ≤ ((N y).natAbs : Int) := by rcases htopy with h | h; omega; exact h
  have hYp : (0 : Int) < ((N y).natAbs : Int) := by have := B_pos (uy - 1); omega
  generalize hXe : ((N x).natAbs : Int) = X0 at *
  generalize hYe : ((N y).natAbs : Int) = Y0 at *
  have eM : M = W2 M (M 4) (M 5) := W2_self M
  refine sy_aload_n X d_M_split_0 hl 0 rfl ?_
  refine m_get X hw 1 (by decide) rfl (tt_of k510 rfl) d_M_split_1 ?_
  refine sy_iload_n X d_M_split_4 hl 1 rfl ?_
  refine m_ald X hw 2 x (by decide) (by omega) (by simp only [szM]; omega) (ux : Int) hux d_M_split_5 ?_
  refine sy_istore_n (lv1 := [(3, .int (iI (ux : Int))), (0, .ref (ad 0)), (1, .int (iI ((x : Nat) : Int))), (2, .int (iI ((y : Nat) : Int)))]) X d_M_split_6 hl rfl (by decide) rfl (fun ls hl => ?_)
  refine sy_aload_n X d_M_split_7 hl 1 rfl ?_
  refine m_get X hw 1 (by decide) rfl (tt_of k510 rfl) d_M_split_8 ?_
  refine sy_iload_n X d_M_split_11 hl 3 rfl ?_
  refine m_ald X hw 2 y (by decide) (by omega) (by simp only [szM]; omega) (uy : Int) huy d_M_split_12 ?_
  refine sy_istore (lv1 := [(4, .int (iI (uy : Int))), (3, .int (iI (ux : Int))), (0, .ref (ad 0)), (1, .int (iI ((x : Nat) : Int))), (2, .int (iI ((y : Nat) : Int)))]) X d_M_split_13 hl (by decide) rfl (fun ls hl => ?_)
  refine sy_iconst X d_M_split_15 ?_
  refine sy_istore (lv1 := [(5, .int (iI 0)), (4, .int (iI (uy : Int))), (3, .int (iI (ux : Int))), (0, .ref (ad 0)), (1, .int (iI ((x : Nat) : Int))), (2, .int (iI ((y : Nat) : Int)))]) X d_M_split_16 hl (by decide) rfl (fun ls hl => ?_)
  have key1 : ∀ (n : Nat) (k : Nat) (r q : Nat → Int) (H : Heap) (locs : List Loc) (ls : Array Slot), k ≤ ux + 3 → ux + 3 < k + n → (∀ t, t < k → r t = dgt M x t) → (∀ t, t < k → q t = 0) → HW D A s.heap (wM ad cs (W2 M r q)) H locs → lv_has ls 12 [(0, .ref (ad 0)), (1, .int (iI ((x : Nat) : Int))), (2, .int (iI ((y : Nat) : Int))), (3, .int (iI (ux : Int))), (4, .int (iI (uy : Int))), (5, .int (iI ((k : Nat) : Int)))] → W p l e (rm 3) s m args below meth c H locs 0 0 Q (F0 m 18 ls []) := by
    intro n
    induction n with
    | zero =>
      intro k r q H locs ls h1 h2 h3 h4 hw hl
      exfalso; omega
    | succ n ih_key1 =>
      intro k r q H locs ls h1 h2 h3 h4 hw hl
      refine sy_iload X d_M_split_18 hl 5 rfl ?_
      refine sy_iload_n X d_M_split_20 hl 3 rfl ?_
      refine sy_iconst X d_M_split_21 ?_
      refine sy_iadd X d_M_split_22 ?_
      refine sy_icmp_ge (tgt := 54) X d_M_split_23 (by decide) ⟨by omega, by omega⟩ ⟨by omega, by omega⟩ (fun c1 => ?_) (fun c1 => ?_)
      · have hk : k = ux + 3 := by omega
        rw [hk] at h3 h4
        have hDr : Dg r (ux + 3) := fun t ht => by rw [h3 t ht]; exact hdx _ t ht
        have hDq : Dg q (ux + 3) := fun t ht => by rw [h4 t ht]; decide
        have hVr : vl r (ux + 3) = X0 := by rw [← hvx]; exact vl_congr h3
        have hVq : vl q (ux + 3) = 0 := by rw [vl_zero (u := 0) (by omega) (fun t _ ht => h4 t ht)]; rfl
        refine sy_aload_n X d_M_split_54 hl 0 rfl ?_
        refine sy_iload_n X d_M_split_55 hl 2 rfl ?_
        refine sy_iload X d_M_split_56 hl 4 rfl ?_
        refine sy_iconst X d_M_split_58 ?_
        refine sy_isub X d_M_split_59 ?_
        rw [show ((uy : Int) - 1) = ((uy - 1 : Nat) : Int) by omega]
        refine call_Vi (Xs := []) (b := ad 0) (As := [.int (iI ((y : Nat) : Int)), .int (iI ((uy - 1 : Nat) : Int))]) (rest := []) X lk_M_40 (c_M_digitOfW l D cs ad M r q y (uy - 1) (by omega) (by omega) hWf) ⟨by decide, by decide⟩ rcv_M hw rfl hl.1 (Nat.le_of_ble_eq_true rfl) d_M_split_60 rfl rfl ⟨Nat.zero_le _, Nat.zero_le _⟩ (fun _ H locs _ hw => ?_)
        have hb1 := hdy uy (uy - 1) (by omega)
        refine sy_i2l X d_M_split_63 ⟨by omega, by omega⟩ ?_
        refine sy_ldc2 (z := 65536) X (tt_of k618 rfl) d_M_split_64 (by decide) ?_
        refine sy_lmul X d_M_split_67 ?_
        have km2 : ∀ (H : Heap) (locs : List Loc), HW D A s.heap (wM ad cs (W2 M r q)) H locs → W p l e (rm 3) s m args below meth c H locs 0 0 Q (F0 m 87 ls [.int (iI (if 1 < uy then dgt M y (uy - 2) else 0)), .long (jI ((dgt M y (uy - 1)) * 65536))]) := by
          intro H locs hw
          have hb2 : 0 ≤ (if 1 < uy then dgt M y (uy - 2) else 0) ∧ (if 1 < uy then dgt M y (uy - 2) else 0) < 65536 := by
            split
            · exact hdy uy (uy - 2) (by omega)
            · decide
          refine sy_i2l X d_M_split_87 ⟨by omega, by omega⟩ ?_
          refine sy_ladd X d_M_split_88 ?_
          refine nm_l (fun lo hlo => ?_)
          refine sy_lstore (lv1 := [(5, .long (jI lo)), (0, .ref (ad 0)), (1, .int (iI ((x : Nat) : Int))), (2, .int (iI ((y : Nat) : Int))), (3, .int (iI (ux : Int))), (4, .int (iI (uy : Int)))]) X d_M_split_89 hl (by decide) rfl (fun ls hl => ?_)
          refine sy_iload_n X d_M_split_91 hl 4 rfl ?_
          refine sy_iload X d_M_split_92 hl 5 rfl ?_
          refine sy_isub X d_M_split_94 ?_
          refine sy_istore (lv1 := [(7, .int (iI ((ux : Int) - (uy : Int)))), (5, .long (jI lo)), (0, .ref (ad 0)), (1, .int (iI ((x : Nat) : Int))), (2, .int (iI ((y : Nat) : Int))), (3, .int (iI (ux : Int))), (4, .int (iI (uy : Int)))]) X d_M_split_95 hl (by decide) rfl (fun ls hl => ?_)
          have keyO : ∀ (n : Nat) (ix : Int) (r q : Nat → Int) (H : Heap) (locs : List Loc) (ls : Array Slot), -110 ≤ ix → ix ≤ (ux : Int) - uy → ix + 112 ≤ (n : Int) → Dg r (ux + 3) → Dg q (ux + 3) → (∀ t : Nat, (t : Int) ≤ ix → q t = 0) → X0 = vl q (ux + 3) * Y0 + vl r (ux + 3) → vl r (ux + 3) < Y0 * 65536 ^ (ix + 1).toNat → HW D A s.heap (wM ad cs (W2 M r q)) H locs → lv_has ls 12 [(0, .ref (ad 0)), (1, .int (iI ((x : Nat) : Int))), (2, .int (iI ((y : Nat) : Int))), (3, .int (iI (ux : Int))), (4, .int (iI (uy : Int))), (5, .long (jI lo)), (7, .int (iI ix))] → W p l e (rm 3) s m args below meth c H locs 0 0 Q (F0 m 97 ls []) := by
            intro n
            induction n with
            | zero =>
              intro ix r q H locs ls g0 g1 g2 g3 g4 g5 g6 g7 hw hl
              exfalso; omega
            | succ n ih_keyO =>
              intro ix r q H locs ls g0 g1 g2 g3 g4 g5 g6 g7 hw hl
              refine sy_iload X d_M_split_97 hl 6 rfl ?_
              refine sy_if_lt (tgt := 234) X d_M_split_99 (by decide) ⟨by omega, by omega⟩ (fun c3 => ?_) (fun c3 => ?_)
              · exact kr (r, q) _ _ _ _ d_M_split_234 hw ⟨g3, g4, g6, by rw [show (ix + 1).toNat = 0 by omega] at g7; simpa using g7⟩
              · obtain ⟨j, rfl⟩ : ∃ j : Nat, ix = (j : Int) := ⟨ix.toNat, by omega⟩
                have ej : ((j : Int) + 1).toNat = j + 1 := by omega
                rw [ej] at g7
                have hqj : q j = 0 := g5 j (by omega)
                have keyI : ∀ (n : Nat) (r q : Nat → Int) (H : Heap) (locs : List Loc) (ls : Array Slot), vl r (ux + 3) < (n : Int) → Dg r (ux + 3) → Dg q (ux + 3) → (∀ t : Nat, (t : Int) < (j : Int) → q t = 0) → X0 = vl q (ux + 3) * Y0 + vl r (ux + 3) → vl r (ux + 3) + q j * Y0 * 65536 ^ j < Y0 * (65536 ^ j * 65536) → HW D A s.heap (wM ad cs (W2 M r q)) H locs → lv_has ls 12 [(0, .ref (ad 0)), (1, .int (iI ((x : Nat) : Int))), (2, .int (iI ((y : Nat) : Int))), (3, .int (iI (ux : Int))), (4, .int (iI (uy : Int))), (5, .long (jI lo)), (7, .int (iI ((j : Nat) : Int)))] → W p l e (rm 3) s m args below meth c H locs 0 0 Q (F0 m 102 ls []) := by
                  intro n
                  induction n with
                  | zero =>
                    intro r q H locs ls f1 f3 f4 f5 f6 f7 hw hl
                    exfalso; have := vl_nonneg f3; omega
                  | succ n ih_keyI =>
                    intro r q H locs ls f1 f3 f4 f5 f6 f7 hw hl
                    have hr0 := vl_nonneg f3
                    have hqj0 := f4 j (by omega)
                    have hPj := B_pos j
                    have hqY : 0 ≤ q j * Y0 * 65536 ^ j := Int.mul_nonneg (Int.mul_nonneg hqj0.1 (Int.le_of_lt hYp)) (Int.le_of_lt hPj)
                    have hwin := win (Y := Y0) (j := j) (m := uy) f3 (by omega) (Int.le_of_lt hlty) (by rw [B_succ]; omega)
                    have hDw : Dg (fun k => r (j + k)) (uy + 1) := fun k hk => f3 (j + k) (by omega)
                    refine sy_aload_n X d_M_split_102 hl 0 rfl ?_
                    refine sy_iload_n X d_M_split_103 hl 2 rfl ?_
                    refine sy_iload X d_M_split_104 hl 6 rfl ?_
                    refine call_Vi (Xs := []) (b := ad 0) (As := [.int (iI ((y : Nat) : Int)), .int (iI ((j : Nat) : Int))]) (rest := []) X lk_M_64 (c_M_fitsW l D cs ad M N r q y j uy hy hR huy (by omega) hDw) ⟨by decide, by decide⟩ rcv_M hw rfl hl.1 (Nat.le_of_ble_eq_true rfl) d_M_split_106 rfl rfl ⟨Nat.zero_le _, Nat.zero_le _⟩ (fun _ H locs _ hw => ?_)
                    rw [hYe]
                    refine sy_if_eq (tgt := 228) X d_M_split_109 (by decide) (by split <;> exact ⟨by decide, by decide⟩) (fun cF => ?_) (fun cF => ?_)
                    · have hnf : vl r (ux + 3) < Y0 * 65536 ^ j := by
                        have hlt : wd r j (uy + 1) < Y0 := by
                          rcases Int.lt_or_le (wd r j (uy + 1)) Y0 with h | h
                          · exact h
                          · rw [if_pos h] at cF; omega
                        have := Int.mul_le_mul_of_nonneg_right (show wd r j (uy + 1) + 1 ≤ Y0 by omega) (Int.le_of_lt hPj)
                        rw [Int.add_mul] at this
                        omega
                      refine sy_iinc (lv1 := [(7, .int (iI (((j : Nat) : Int) + (-1)))), (0, .ref (ad 0)), (1, .int (iI ((x : Nat) : Int))), (2, .int (iI ((y : Nat) : Int))), (3, .int (iI (ux : Int))), (4, .int (iI (uy : Int))), (5, .long (jI lo))]) X d_M_split_228 hl 6 rfl (by omega) (by decide) rfl (fun ls hl => ?_)
                      refine sy_goto (tgt := 97) X d_M_split_231 (by decide) ?_
                      exact ih_keyO _ r q H locs ls (by omega) (by omega) (by omega) f3 f4 (fun t ht => f5 t (by omega)) f6 (by rw [show ((j : Int) + (-1) + 1).toNat = j by omega]; exact hnf) hw (lv_sub hl [1, 2, 3, 4, 5, 6, 0] rfl)
                    · have hfit : Y0 ≤ wd r j (uy + 1) := by
                        rcases Int.lt_or_le (wd r j (uy + 1)) Y0 with h | h
                        · rw [if_neg (by omega)] at cF; omega
                        · exact h
                      have b1 : 0 ≤ r (j + uy) ∧ r (j + uy) < 65536 := f3 (j + uy) (by omega)
                      have b2 : 0 ≤ r (j + (uy - 1)) ∧ r (j + (uy - 1)) < 65536 := f3 (j + (uy - 1)) (by omega)
                      refine sy_aload_n X d_M_split_112 hl 0 rfl ?_
                      refine m_get X hw 3 (by decide) rfl (tt_of k512 rfl) d_M_split_113 ?_
                      refine sy_iload X d_M_split_116 hl 6 rfl ?_
                      refine sy_iload X d_M_split_118 hl 4 rfl ?_
                      refine sy_iadd X d_M_split_120 ?_
                      refine m_ald X hw 4 (j + uy) (by decide) (by omega) (by simp only [szM]; omega) (r (j + uy)) rfl d_M_split_121 ?_
                      refine sy_i2l X d_M_split_122 ⟨by omega, by omega⟩ ?_
                      refine sy_ldc2 (z := 4294967296) X (tt_of k623 rfl) d_M_split_123 (by decide) ?_
                      refine sy_lmul X d_M_split_126 ?_
                      refine sy_aload_n X d_M_split_127 hl 0 rfl ?_
                      refine m_get X hw 3 (by decide) rfl (tt_of k512 rfl) d_M_split_128 ?_
                      refine sy_iload X d_M_split_131 hl 6 rfl ?_
                      refine sy_iload X d_M_split_133 hl 4 rfl ?_
                      refine sy_iadd X d_M_split_135 ?_
                      refine sy_iconst X d_M_split_136 ?_
                      refine sy_isub X d_M_split_137 ?_
                      refine m_ald X hw 4 (j + (uy - 1)) (by decide) (by omega) (by simp only [szM]; omega) (r (j + (uy - 1))) rfl d_M_split_138 ?_
                      refine sy_i2l X d_M_split_139 ⟨by omega, by omega⟩ ?_
                      refine sy_ldc2 (z := 65536) X (tt_of k618 rfl) d_M_split_140 (by decide) ?_
                      refine sy_lmul X d_M_split_143 ?_
                      refine sy_ladd X d_M_split_144 ?_
                      have km5 : ∀ (H : Heap) (locs : List Loc), HW D A s.heap (wM ad cs (W2 M r q)) H locs → W p l e (rm 3) s m args below meth c H locs 0 0 Q (F0 m 170 ls [.int (iI (if 1 < j + uy then r (j + uy - 2) else 0)), .long (jI (((r (j + uy)) * 4294967296) + ((r (j + (uy - 1))) * 65536)))]) := by
                        intro H locs hw
                        have b3 : 0 ≤ (if 1 < j + uy then r (j + uy - 2) else 0) ∧ (if 1 < j + uy then r (j + uy - 2) else 0) < 65536 := by
                          split
                          · exact f3 (j + uy - 2) (by omega)
                          · decide
                        refine sy_i2l X d_M_split_170 ⟨by omega, by omega⟩ ?_
                        refine sy_ladd X d_M_split_171 ?_
                        refine nm_l (fun hi hhi => ?_)
                        refine sy_lstore (lv1 := [(8, .long (jI hi)), (0, .ref (ad 0)), (1, .int (iI ((x : Nat) : Int))), (2, .int (iI ((y : Nat) : Int))), (3, .int (iI (ux : Int))), (4, .int (iI (uy : Int))), (5, .long (jI lo)), (7, .int (iI ((j : Nat) : Int)))]) X d_M_split_172 hl (by decide) rfl (fun ls hl => ?_)
                        refine sy_lload X d_M_split_174 hl 0 rfl ?_
                        refine sy_lload X d_M_split_176 hl 6 rfl ?_
                        refine sy_lconst (z := 1) X d_M_split_178 (by decide) ?_
                        refine sy_ladd X d_M_split_179 ?_
                        have hlo0 : 0 ≤ lo ∧ lo < 4294967296 := by omega
                        refine sy_ldiv X d_M_split_180 (by omega) (by omega) (by omega) (by omega) ?_
                        refine nm_l (fun Q0 hQ0 => ?_)
                        refine sy_lstore (lv1 := [(10, .long (jI Q0)), (8, .long (jI hi)), (0, .ref (ad 0)), (1, .int (iI ((x : Nat) : Int))), (2, .int (iI ((y : Nat) : Int))), (3, .int (iI (ux : Int))), (4, .int (iI (uy : Int))), (5, .long (jI lo)), (7, .int (iI ((j : Nat) : Int)))]) X d_M_split_181 hl (by decide) rfl (fun ls hl => ?_)
                        have hQ00 : 0 ≤ Q0 ∧ Q0 ≤ hi := by rw [hQ0]; exact ⟨Int.ediv_nonneg (by omega) (by omega), Int.ediv_le_self _ (by omega)⟩
                        have hQle : Q0 * Y0 ≤ wd r j (uy + 1) := by
                          rw [hQ0, hhi, hlo]
                          have := q_ok (f := fun k => r (j + k)) (dy := dgt M y) (m := uy) (Y := Y0) (a0 := (if 1 < j + uy then r (j + uy - 2) else 0)) hDw (hdy uy) hy1 hvy b3 (fun h => by rw [if_pos (by omega)]; exact congrArg r (by omega))
                          exact this
                        have km6 : ∀ (H : Heap) (locs : List Loc), HW D A s.heap (wM ad cs (W2 M r q)) H locs → W p l e (rm 3) s m args below meth c H locs 0 0 Q (F0 m 196 ls [.long (jI (if Q0 < 1 then 1 else Q0))]) := by
                          intro H locs hw
                          refine nm_l (fun v hv => ?_)
                          refine sy_lstore (lv1 := [(10, .long (jI v)), (8, .long (jI hi)), (0, .ref (ad 0)), (1, .int (iI ((x : Nat) : Int))), (2, .int (iI ((y : Nat) : Int))), (3, .int (iI (ux : Int))), (4, .int (iI (uy : Int))), (5, .long (jI lo)), (7, .int (iI ((j : Nat) : Int)))]) X d_M_split_196 hl (by decide) rfl (fun ls hl => ?_)
                          have hv1 : 1 ≤ v := by rw [hv]; split <;> omega
                          have hvle : v * Y0 ≤ wd r j (uy + 1) := by
                            rw [hv]; split
                            · omega
                            · exact hQle
                          have hvP : v * Y0 * 65536 ^ j ≤ vl r (ux + 3) := by
                            have := Int.mul_le_mul_of_nonneg_right hvle (Int.le_of_lt hPj)
                            omega
                          have hvb := sp_lt hPj hYp f7 hvP
                          refine sy_aload_n X d_M_split_198 hl 2 rfl ?_
                          refine sy_iload_n X d_M_split_199 hl 4 rfl ?_
                          refine sy_iload X d_M_split_200 hl 8 rfl ?_
                          refine sy_lload X d_M_split_202 hl 0 rfl ?_
                          refine call_Vv (Xs := []) (b := ad 0) (As := [.int (iI ((y : Nat) : Int)), .int (iI ((j : Nat) : Int)), .long (jI v)]) (rest := []) X lk_M_70 (c_M_takeOffW l D cs ad M N r q y j uy v hy hR huy (by omega) hDw (by omega) (by omega) (by rw [hYe]; exact hvle)) ⟨by decide, by decide⟩ rcv_M hw rfl hl.1 (Nat.le_of_ble_eq_true rfl) d_M_split_204 rfl rfl ⟨Nat.zero_le _, Nat.zero_le _⟩ (fun rr H locs hp hw => ?_)
                          rw [hYe] at hp
                          obtain ⟨hp1, hp2, hp3⟩ := hp
                          refine sy_aload_n X d_M_split_207 hl 2 rfl ?_
                          refine m_get X hw 4 (by decide) rfl (tt_of k513 rfl) d_M_split_208 ?_
                          refine sy_iload X d_M_split_211 hl 8 rfl ?_
                          refine sy_aload_n X d_M_split_213 hl 2 rfl ?_
                          refine m_get X hw 4 (by decide) rfl (tt_of k513 rfl) d_M_split_214 ?_
                          refine sy_iload X d_M_split_217 hl 8 rfl ?_
                          refine m_ald X hw 5 j (by decide) (by omega) (by simp only [szM]; omega) (q j) rfl d_M_split_219 ?_
                          refine sy_lload X d_M_split_220 hl 0 rfl ?_
                          refine sy_l2i X d_M_split_222 ?_
                          refine sy_iadd X d_M_split_223 ?_
                          refine m_ast X hw 5 j (by decide) (by omega) (by simp only [szM]; omega) d_M_split_224 (fun H locs hw => ?_)
                          rw [W2_5] at hw
                          obtain ⟨q1, eq1⟩ : ∃ g, g = up1 q j ((q j) + v) := ⟨_, rfl⟩
                          rw [← eq1] at hw
                          have hVrr : vl rr (ux + 3) = vl r (ux + 3) - v * Y0 * 65536 ^ j := by
                            rw [vl_win hp1 (ux + 3) (by omega), hp3]; grind
                          have hVq1 : vl q1 (ux + 3) = vl q (ux + 3) + v * 65536 ^ j := by rw [eq1, vl_upd _ (by omega)]; grind
                          have hvpos : 1 ≤ v * Y0 * 65536 ^ j := Int.mul_pos (Int.mul_pos (by omega) hYp) hPj
                          have hF : vl rr (ux + 3) < (n : Int) := by omega
                          have hD1 : Dg rr (ux + 3) := fun t ht => by
                            rcases Nat.lt_or_ge t j with h | h
                            · rw [hp1 t (Or.inl h)]; exact f3 t ht
                            · rcases Nat.lt_or_ge t (j + (uy + 1)) with h2 | h2
                              · have := hp2 (t - j) (by omega)
                                simp only [show j + (t - j) = t by omega] at this; exact this
                              · rw [hp1 t (Or.inr h2)]; exact f3 t ht
                          have hDq1 : Dg q1 (ux + 3) := by rw [eq1]; exact dg_upd f4 (by omega) (by omega)
                          have hZ1 : ∀ t : Nat, (t : Int) < (j : Int) → q1 t = 0 := fun t ht => by rw [eq1, up1_n _ (by omega)]; exact f5 t ht
                          have hX1 : X0 = vl q1 (ux + 3) * Y0 + vl rr (ux + 3) := by rw [hVq1, hVrr, f6]; grind
                          have hI1 : vl rr (ux + 3) + q1 j * Y0 * 65536 ^ j < Y0 * (65536 ^ j * 65536) := by rw [eq1, up1_s, hVrr]; grind
                          refine sy_goto (tgt := 102) X d_M_split_225 (by decide) ?_
                          exact ih_keyI rr q1 H locs ls hF hD1 hDq1 hZ1 hX1 hI1 hw (lv_sub hl [2, 3, 4, 5, 6, 7, 8] rfl)
                        refine sy_lload X d_M_split_183 hl 0 rfl ?_
                        refine sy_lconst (z := 1) X d_M_split_185 (by decide) ?_
                        refine sy_lcif_ge (tgt := 194) X d_M_split_186 d_M_split_187 (by decide) ⟨by omega, by omega⟩ ⟨by omega, by omega⟩ (fun c7 => ?_) (fun c7 => ?_)
                        · refine sy_lload X d_M_split_194 hl 0 rfl ?_
                          exact W_topl (by split <;> omega) (km6 H locs hw)
                        · refine sy_lconst (z := 1) X d_M_split_190 (by decide) ?_
                          refine sy_goto (tgt := 196) X d_M_split_191 (by decide) ?_
                          exact W_topl (by split <;> omega) (km6 H locs hw)
                      refine sy_iload X d_M_split_145 hl 6 rfl ?_
                      refine sy_iload X d_M_split_147 hl 4 rfl ?_
                      refine sy_iadd X d_M_split_149 ?_
                      refine sy_iconst X d_M_split_150 ?_
                      refine sy_icmp_le (tgt := 169) X d_M_split_151 (by decide) ⟨by omega, by omega⟩ ⟨by omega, by omega⟩ (fun c8 => ?_) (fun c8 => ?_)
                      · refine sy_iconst X d_M_split_169 ?_
                        exact W_topi (by split <;> first | rfl | omega) (km5 H locs hw)
                      · refine sy_aload_n X d_M_split_154 hl 0 rfl ?_
                        refine m_get X hw 3 (by decide) rfl (tt_of k512 rfl) d_M_split_155 ?_
                        refine sy_iload X d_M_split_158 hl 6 rfl ?_
                        refine sy_iload X d_M_split_160 hl 4 rfl ?_
                        refine sy_iadd X d_M_split_162 ?_
                        refine sy_iconst X d_M_split_163 ?_
                        refine sy_isub X d_M_split_164 ?_
                        refine m_ald X hw 4 (j + uy - 2) (by decide) (by omega) (by simp only [szM]; omega) (r (j + uy - 2)) rfl d_M_split_165 ?_
                        refine sy_goto (tgt := 170) X d_M_split_166 (by decide) ?_
                        exact W_topi (by split <;> first | rfl | omega) (km5 H locs hw)
                exact keyI ((vl r (ux + 3)).toNat + 1) r q H locs ls (by have := vl_nonneg g3; omega) g3 g4 (fun t ht => g5 t (by omega)) g6 (by rw [hqj, ← B_succ]; omega) hw (lv_sub hl [0, 1, 2, 3, 4, 5, 6] rfl)
          exact keyO (ux + 120) _ r q H locs ls (by omega) (by omega) (by omega) hDr hDq (fun t ht => h4 t (by omega)) (by rw [hVq, hVr]; omega) (by rw [hVr]; exact sp_init hltx htopy hy1 hYp) hw (lv_sub hl [2, 3, 4, 5, 6, 1, 0] rfl)
        refine sy_iload X d_M_split_68 hl 4 rfl ?_
        refine sy_iconst X d_M_split_70 ?_
        refine sy_icmp_le (tgt := 86) X d_M_split_71 (by decide) ⟨by omega, by omega⟩ ⟨by omega, by omega⟩ (fun c9 => ?_) (fun c9 => ?_)
        · refine sy_iconst X d_M_split_86 ?_
          exact W_topi (by split <;> first | rfl | omega) (km2 H locs hw)
        · refine sy_aload_n X d_M_split_74 hl 0 rfl ?_
          refine sy_iload_n X d_M_split_75 hl 2 rfl ?_
          refine sy_iload X d_M_split_76 hl 4 rfl ?_
          refine sy_iconst X d_M_split_78 ?_
          refine sy_isub X d_M_split_79 ?_
          rw [show ((uy : Int) - 2) = ((uy - 2 : Nat) : Int) by omega]
          refine call_Vi (Xs := []) (b := ad 0) (As := [.int (iI ((y : Nat) : Int)), .int (iI ((uy - 2 : Nat) : Int))]) (rest := [.long (jI ((dgt M y (uy - 1)) * 65536))]) X lk_M_40 (c_M_digitOfW l D cs ad M r q y (uy - 2) (by omega) (by omega) hWf) ⟨by decide, by decide⟩ rcv_M hw rfl hl.1 (Nat.le_of_ble_eq_true rfl) d_M_split_80 rfl rfl ⟨Nat.zero_le _, Nat.zero_le _⟩ (fun _ H locs _ hw => ?_)
          refine sy_goto (tgt := 87) X d_M_split_83 (by decide) ?_
          exact W_topi (by split <;> first | rfl | omega) (km2 H locs hw)
      · have hbk := hdx (k + 1) k (by omega)
        refine sy_aload_n X d_M_split_26 hl 0 rfl ?_
        refine m_get X hw 3 (by decide) rfl (tt_of k512 rfl) d_M_split_27 ?_
        refine sy_iload X d_M_split_30 hl 5 rfl ?_
        refine sy_aload_n X d_M_split_32 hl 0 rfl ?_
        refine sy_iload_n X d_M_split_33 hl 1 rfl ?_
        refine sy_iload X d_M_split_34 hl 5 rfl ?_
        refine call_Vi (Xs := []) (b := ad 0) (As := [.int (iI ((x : Nat) : Int)), .int (iI ((k : Nat) : Int))]) (rest := [.int (iI ((k : Nat) : Int)), .ref (ad 4)]) X lk_M_40 (c_M_digitOfW l D cs ad M r q x k (by omega) (by omega) hWf) ⟨by decide, by decide⟩ rcv_M hw rfl hl.1 (Nat.le_of_ble_eq_true rfl) d_M_split_36 rfl rfl ⟨Nat.zero_le _, Nat.zero_le _⟩ (fun _ H locs _ hw => ?_)
        refine m_ast X hw 4 k (by decide) (by omega) (by simp only [szM]; omega) d_M_split_39 (fun H locs hw => ?_)
        rw [W2_4] at hw
        obtain ⟨r2, er2⟩ : ∃ g, g = up1 r k (dgt M x k) := ⟨_, rfl⟩
        rw [← er2] at hw
        refine sy_aload_n X d_M_split_40 hl 0 rfl ?_
        refine m_get X hw 4 (by decide) rfl (tt_of k513 rfl) d_M_split_41 ?_
        refine sy_iload X d_M_split_44 hl 5 rfl ?_
        refine sy_iconst X d_M_split_46 ?_
        refine m_ast X hw 5 k (by decide) (by omega) (by simp only [szM]; omega) d_M_split_47 (fun H locs hw => ?_)
        rw [W2_5] at hw
        obtain ⟨q3, eq3⟩ : ∃ g, g = up1 q k 0 := ⟨_, rfl⟩
        rw [← eq3] at hw
        refine sy_iinc (lv1 := [(5, .int (iI ((k + 1 : Nat) : Int))), (0, .ref (ad 0)), (1, .int (iI ((x : Nat) : Int))), (2, .int (iI ((y : Nat) : Int))), (3, .int (iI (ux : Int))), (4, .int (iI (uy : Int)))]) X d_M_split_48 hl 5 rfl (by omega) (by decide) rfl (fun ls hl => ?_)
        refine sy_goto (tgt := 18) X d_M_split_51 (by decide) ?_
        exact ih_key1 (k + 1) r2 q3 H locs ls (by omega) (by omega) (by rw [er2]; exact eq_up h3 rfl) (by rw [eq3]; exact zero_up h4) hw (lv_sub hl [1, 2, 3, 4, 5, 0] rfl)
  rw [eM] at hw
  exact key1 (ux + 4) 0 (M 4) (M 5) H locs ls (by omega) (by omega) (fun t ht => by omega) (fun t ht => by omega) hw (lv_sub hl [3, 4, 5, 2, 1, 0] rfl)
end
section
theorem dm_uniq {X Y Q R : Int} (h : X = Q * Y + R) (h0 : 0 ≤ R) (h1 : R < Y) : X % Y = R ∧ X / Y = Q := by
  have hY : 0 < Y := by omega
  have e1 : X % Y = R := by
    rw [h, Int.add_comm, Int.add_mul_emod_self_right, Int.emod_eq_of_lt h0 h1]
  refine ⟨e1, ?_⟩
  rw [h, Int.add_comm, Int.add_mul_ediv_right _ _ (by omega), Int.ediv_eq_zero_of_lt h0 h1]; omega
theorem used_pos {M : Nat → Nat → Int} {z : Nat} {n : Int} (h : Rp M z n) (hn : n ≠ 0) : ∃ u : Nat, M 2 z = (u : Int) ∧ 1 ≤ u ∧ u ≤ 110 ∧ (n.natAbs : Int) < 65536 ^ u := by
  obtain ⟨u, h1, h2, -, -, h5, h6, -⟩ := h.dig
  refine ⟨u, h1, ?_, h2, h5⟩
  rcases h6 with h | h
  · subst h; simp at h5; omega
  · rcases Nat.eq_zero_or_pos u with e | e
    · subst e; simp at h5; omega
    · exact e
set_option maxRecDepth 100000 in
set_option maxHeartbeats 4000000 in
theorem c_M_remainder (l : Launch) (D : va_G) (cs : Nat → ClassId) (ad : Nat → Nat) (M : Nat → Nat → Int) (N : Nat → Int) (z x y : Nat) (hz : z < 120) (hx : x < 120) (hy : y < 120) (hR : Rep M N) (hy0 : N y ≠ 0) (hle : M 2 y ≤ M 2 x) : Ct (S := Nat → Nat → Int) l D (tyL cs) y_M_remainder b_M_remainder 4 none (rm 4) [.ref (ad 0), .int (iI ((z : Nat) : Int)), .int (iI ((x : Nat) : Int)), .int (iI ((y : Nat) : Int))] (wM ad cs M) (fun M1 => Rep M1 (up1 N z (((N x).natAbs : Int) % ((N y).natAbs : Int))) ∧ Sm M M1) (fun _ => none) (fun M1 => wM ad cs M1) := by
  refine Ct.introV (by decide) (Nat.le_of_ble_eq_true rfl) (fun _ => rfl) ?_
  intro p e s m below meth c A args Q H locs X hnm hw kr ls hl
  have X : CX D (tyL cs) R_M b_M_remainder 4 p m c s args := X
  have hl : lv_has ls 4 [(0, .ref (ad 0)), (1, .int (iI ((z : Nat) : Int))), (2, .int (iI ((x : Nat) : Int))), (3, .int (iI ((y : Nat) : Int)))] := hl
  obtain ⟨uy, huy, huy1, huy2, hlty⟩ := used_pos (hR y hy) hy0
  obtain ⟨ux, hux, hux2, -, -, -, -, -⟩ := (hR x hx).dig
  refine sy_aload_n X d_M_remainder_0 hl 0 rfl ?_
  refine sy_iload_n X d_M_remainder_1 hl 2 rfl ?_
  refine sy_iload_n X d_M_remainder_2 hl 3 rfl ?_
  refine call_Vv (Xs := []) (b := ad 0) (As := [.int (iI ((x : Nat) : Int)), .int (iI ((y : Nat) : Int))]) (rest := []) X lk_M_74 (c_M_split l D cs ad M N x y ux uy hx hy hR hux huy huy1) ⟨by decide, by decide⟩ rcv_M hw rfl hl.1 (Nat.le_of_ble_eq_true rfl) d_M_remainder_3 rfl rfl ⟨Nat.zero_le _, Nat.zero_le _⟩ (fun u H locs hp hw => ?_)
  obtain ⟨r, q⟩ := u
  obtain ⟨hDr, hDq, hXe, hRlt⟩ := hp
  simp only at hDr hDq hXe hRlt hw
  refine sy_aload_n X d_M_remainder_6 hl 0 rfl ?_
  refine sy_iload_n X d_M_remainder_7 hl 1 rfl ?_
  refine sy_aload_n X d_M_remainder_8 hl 0 rfl ?_
  refine m_get X hw 1 (by decide) rfl (tt_of k510 rfl) d_M_remainder_9 ?_
  refine sy_iload_n X d_M_remainder_12 hl 3 rfl ?_
  refine m_ald X hw 2 y (by decide) (by omega) (by simp only [szM]; omega) (uy : Int) huy d_M_remainder_13 ?_
  refine sy_iconst X d_M_remainder_14 ?_
  have hV : vl r uy = ((N x).natAbs : Int) % ((N y).natAbs : Int) := by
    rw [(dm_uniq hXe (vl_nonneg hDr) hRlt).1, vl_zero (u := uy) (n := ux + 3) (by omega) (fun k h1 h2 => hi_zero hDr (Int.lt_trans hRlt hlty) k h1 h2)]
  have hB : vl r uy < 65536 ^ 110 := Int.lt_of_lt_of_le (vl_lt (hDr.le (by omega))) (B_le huy2)
  refine call_Vv (Xs := []) (b := ad 0) (As := [.int (iI ((z : Nat) : Int)), .int (iI (uy : Int)), .int (iI 1)]) (rest := []) X lk_M_45 (c_M_store l D cs ad (W2 M r q) N z uy 1 (by omega) (by omega) ⟨by decide, by decide⟩ hR (by exact hDr.le (by omega)) (by exact hB) (Or.inl rfl)) ⟨by decide, by decide⟩ rcv_M hw rfl hl.1 (Nat.le_of_ble_eq_true rfl) d_M_remainder_15 rfl rfl ⟨Nat.zero_le _, Nat.zero_le _⟩ (fun M1 H locs hp hw => ?_)
  have e1 : 1 * vl (W2 M r q 4) uy = ((N x).natAbs : Int) % ((N y).natAbs : Int) := by rw [Int.one_mul]; exact hV
  rw [e1] at hp
  exact kr _ _ _ _ _ d_M_remainder_18 hw ⟨hp.1, hp.2.1⟩
set_option maxRecDepth 100000 in
set_option maxHeartbeats 4000000 in
theorem c_M_part (l : Launch) (D : va_G) (cs : Nat → ClassId) (ad : Nat → Nat) (M : Nat → Nat → Int) (N : Nat → Int) (z x y : Nat) (hz : z < 120) (hx : x < 120) (hy : y < 120) (hR : Rep M N) (hy0 : N y ≠ 0) : Ct (S := Nat → Nat → Int) l D (tyL cs) y_M_part b_M_part 7 none (rm 4) [.ref (ad 0), .int (iI ((z : Nat) : Int)), .int (iI ((x : Nat) : Int)), .int (iI ((y : Nat) : Int))] (wM ad cs M) (fun M1 => Rep M1 (up1 N z ((N x).sign * (N y).sign * (((N x).natAbs : Int) / ((N y).natAbs : Int)))) ∧ Sm M M1) (fun _ => none) (fun M1 => wM ad cs M1) := by
  refine Ct.introV (by decide) (Nat.le_of_ble_eq_true rfl) (fun _ => rfl) ?_
  intro p e s m below meth c A args Q H locs X hnm hw kr ls hl
  have X : CX D (tyL cs) R_M b_M_part 7 p m c s args := X
  have hl : lv_has ls 7 [(0, .ref (ad 0)), (1, .int (iI ((z : Nat) : Int))), (2, .int (iI ((x : Nat) : Int))), (3, .int (iI ((y : Nat) : Int)))] := hl
  obtain ⟨uy, huy, huy1, huy2, hlty⟩ := used_pos (hR y hy) hy0
  obtain ⟨ux, hux, hux2, -, -, hltx, -, hsx⟩ := (hR x hx).dig
  obtain ⟨_, -, -, -, -, -, -, hsy⟩ := (hR y hy).dig
  have hsgx := sgnR (N x)
  have hsgy := sgnR (N y)
  have hsm : -1 ≤ (N x).sign * (N y).sign ∧ (N x).sign * (N y).sign ≤ 1 := by rw [← Int.sign_mul]; exact sgnR _
  refine sy_aload_n X d_M_part_0 hl 0 rfl ?_
  refine sy_iload_n X d_M_part_1 hl 2 rfl ?_
  refine sy_iload_n X d_M_part_2 hl 3 rfl ?_
  refine call_Vv (Xs := []) (b := ad 0) (As := [.int (iI ((x : Nat) : Int)), .int (iI ((y : Nat) : Int))]) (rest := []) X lk_M_74 (c_M_split l D cs ad M N x y ux uy hx hy hR hux huy huy1) ⟨by decide, by decide⟩ rcv_M hw rfl hl.1 (Nat.le_of_ble_eq_true rfl) d_M_part_3 rfl rfl ⟨Nat.zero_le _, Nat.zero_le _⟩ (fun u H locs hp hw => ?_)
  obtain ⟨r, q⟩ := u
  obtain ⟨hDr, hDq, hXe, hRlt⟩ := hp
  simp only at hDr hDq hXe hRlt hw
  refine sy_aload_n X d_M_part_6 hl 0 rfl ?_
  refine m_get X hw 1 (by decide) rfl (tt_of k510 rfl) d_M_part_7 ?_
  refine sy_iload_n X d_M_part_10 hl 2 rfl ?_
  refine m_ald X hw 2 x (by decide) (by omega) (by simp only [szM]; omega) (ux : Int) hux d_M_part_11 ?_
  refine sy_istore (lv1 := [(4, .int (iI (ux : Int))), (0, .ref (ad 0)), (1, .int (iI ((z : Nat) : Int))), (2, .int (iI ((x : Nat) : Int))), (3, .int (iI ((y : Nat) : Int)))]) X d_M_part_12 hl (by decide) rfl (fun ls hl => ?_)
  refine sy_aload_n X d_M_part_14 hl 1 rfl ?_
  refine m_get X hw 2 (by decide) rfl (tt_of k511 rfl) d_M_part_15 ?_
  refine sy_iload_n X d_M_part_18 hl 3 rfl ?_
  refine m_ald X hw 3 x (by decide) (by omega) (by simp only [szM]; omega) ((N x).sign) hsx d_M_part_19 ?_
  refine sy_aload_n X d_M_part_20 hl 1 rfl ?_
  refine m_get X hw 2 (by decide) rfl (tt_of k511 rfl) d_M_part_21 ?_
  refine sy_iload_n X d_M_part_24 hl 4 rfl ?_
  refine m_ald X hw 3 y (by decide) (by omega) (by simp only [szM]; omega) ((N y).sign) hsy d_M_part_25 ?_
  refine sy_imul X d_M_part_26 ?_
  refine sy_istore (lv1 := [(5, .int (iI (((N x).sign) * ((N y).sign)))), (4, .int (iI (ux : Int))), (0, .ref (ad 0)), (1, .int (iI ((z : Nat) : Int))), (2, .int (iI ((x : Nat) : Int))), (3, .int (iI ((y : Nat) : Int)))]) X d_M_part_27 hl (by decide) rfl (fun ls hl => ?_)
  refine sy_iconst X d_M_part_29 ?_
  refine sy_istore (lv1 := [(6, .int (iI 0)), (5, .int (iI (((N x).sign) * ((N y).sign)))), (4, .int (iI (ux : Int))), (0, .ref (ad 0)), (1, .int (iI ((z : Nat) : Int))), (2, .int (iI ((x : Nat) : Int))), (3, .int (iI ((y : Nat) : Int)))]) X d_M_part_30 hl (by decide) rfl (fun ls hl => ?_)
  have key : ∀ (n : Nat) (k : Nat) (r1 : Nat → Int) (H : Heap) (locs : List Loc) (ls : Array Slot), k ≤ ux → ux < k + n → (∀ t, t < k → r1 t = q t) → HW D A s.heap (wM ad cs (W2 M r1 q)) H locs → lv_has ls 7 [(0, .ref (ad 0)), (1, .int (iI ((z : Nat) : Int))), (2, .int (iI ((x : Nat) : Int))), (3, .int (iI ((y : Nat) : Int))), (4, .int (iI (ux : Int))), (5, .int (iI ((N x).sign * (N y).sign))), (6, .int (iI ((k : Nat) : Int)))] → W p l e (rm 4) s m args below meth c H locs 0 0 Q (F0 m 32 ls []) := by
    intro n
    induction n with
    | zero =>
      intro k r1 H locs ls h1 h2 h3 hw hl
      exfalso; omega
    | succ n ih_key =>
      intro k r1 H locs ls h1 h2 h3 hw hl
      refine sy_iload X d_M_part_32 hl 6 rfl ?_
      refine sy_iload X d_M_part_34 hl 4 rfl ?_
      refine sy_icmp_ge (tgt := 59) X d_M_part_36 (by decide) ⟨by omega, by omega⟩ ⟨by omega, by omega⟩ (fun c1 => ?_) (fun c1 => ?_)
      · have hk : k = ux := by omega
        rw [hk] at h3
        have hQ0 := vl_nonneg hDq
        have hdm := dm_uniq hXe (vl_nonneg hDr) hRlt
        have hY1 : (1 : Int) ≤ ((N y).natAbs : Int) := by omega
        have hQX : vl q (ux + 3) ≤ ((N x).natAbs : Int) := by
          have := Int.mul_le_mul_of_nonneg_left hY1 hQ0
          have := vl_nonneg hDr
          omega
        have hV : vl r1 ux = ((N x).natAbs : Int) / ((N y).natAbs : Int) := by
          rw [hdm.2, vl_congr h3, vl_zero (u := ux) (n := ux + 3) (by omega) (fun k h1 h2 => hi_zero hDq (Int.lt_of_le_of_lt hQX hltx) k h1 h2)]
        have hD1 : Dg r1 ux := fun t ht => by rw [h3 t ht]; exact hDq t (by omega)
        have hB : vl r1 ux < 65536 ^ 110 := Int.lt_of_lt_of_le (vl_lt hD1) (B_le hux2)
        have hS : (N x).sign * (N y).sign = 1 ∨ (N x).sign * (N y).sign = -1 ∨ vl r1 ux = 0 := by
          rcases mul_sgn (N x) (N y) with h | h | h
          · exact Or.inl h
          · exact Or.inr (Or.inl h)
          · right; right; rw [hV]
            have hx0 : ((N x).natAbs : Int) = 0 := by rcases Int.mul_eq_zero.mp h with g | g; exact g; omega
            rw [hx0]; simp
        refine sy_aload_n X d_M_part_59 hl 0 rfl ?_
        refine sy_iload_n X d_M_part_60 hl 1 rfl ?_
        refine sy_iload X d_M_part_61 hl 4 rfl ?_
        refine sy_iload X d_M_part_63 hl 5 rfl ?_
        refine call_Vv (Xs := []) (b := ad 0) (As := [.int (iI ((z : Nat) : Int)), .int (iI (ux : Int)), .int (iI ((N x).sign * (N y).sign))]) (rest := []) X lk_M_45 (c_M_store l D cs ad (W2 M r1 q) N z ux ((N x).sign * (N y).sign) (by omega) (by omega) ⟨by omega, by omega⟩ hR (by exact hD1) (by exact hB) hS) ⟨by decide, by decide⟩ rcv_M hw rfl hl.1 (Nat.le_of_ble_eq_true rfl) d_M_part_65 rfl rfl ⟨Nat.zero_le _, Nat.zero_le _⟩ (fun M1 H locs hp hw => ?_)
        have e1 : (N x).sign * (N y).sign * vl (W2 M r1 q 4) ux = (N x).sign * (N y).sign * (((N x).natAbs : Int) / ((N y).natAbs : Int)) := by rw [← hV]; rfl
        rw [e1] at hp
        exact kr _ _ _ _ _ d_M_part_68 hw ⟨hp.1, hp.2.1⟩
      · refine sy_aload_n X d_M_part_39 hl 0 rfl ?_
        refine m_get X hw 3 (by decide) rfl (tt_of k512 rfl) d_M_part_40 ?_
        refine sy_iload X d_M_part_43 hl 6 rfl ?_
        refine sy_aload_n X d_M_part_45 hl 0 rfl ?_
        refine m_get X hw 4 (by decide) rfl (tt_of k513 rfl) d_M_part_46 ?_
        refine sy_iload X d_M_part_49 hl 6 rfl ?_
        refine m_ald X hw 5 k (by decide) (by omega) (by simp only [szM]; omega) (q k) rfl d_M_part_51 ?_
        refine m_ast X hw 4 k (by decide) (by omega) (by simp only [szM]; omega) d_M_part_52 (fun H locs hw => ?_)
        rw [W2_4] at hw
        obtain ⟨r2, er2⟩ : ∃ g, g = up1 r1 k (q k) := ⟨_, rfl⟩
        rw [← er2] at hw
        refine sy_iinc (lv1 := [(6, .int (iI ((k + 1 : Nat) : Int))), (0, .ref (ad 0)), (1, .int (iI ((z : Nat) : Int))), (2, .int (iI ((x : Nat) : Int))), (3, .int (iI ((y : Nat) : Int))), (4, .int (iI (ux : Int))), (5, .int (iI ((N x).sign * (N y).sign)))]) X d_M_part_53 hl 6 rfl (by omega) (by decide) rfl (fun ls hl => ?_)
        refine sy_goto (tgt := 32) X d_M_part_56 (by decide) ?_
        exact ih_key (k + 1) r2 H locs ls (by omega) (by omega) (by rw [er2]; exact eq_up h3 rfl) hw (lv_sub hl [1, 2, 3, 4, 5, 6, 0] rfl)
  exact key (ux + 1) 0 r H locs ls (by omega) (by omega) (fun t ht => by omega) hw (lv_sub hl [3, 4, 5, 6, 2, 1, 0] rfl)
end
section
theorem Rep.sq {M : Nat → Nat → Int} {N : Nat → Int} {z : Nat} (h : Rep M N) (hz : z < 120) : Rep (up2 M 3 z (M 3 z * M 3 z)) (up1 N z ((N z).natAbs : Int)) := by
  refine Rep.up h (fun j _ => by rw [up2_n _ (by decide)]) (fun y _ => by rw [up2_n _ (by decide)]) (fun y hy => by rw [up2_a, up1_n _ hy]) ?_
  obtain ⟨u, h1, h2, h3, h4, h5, h6⟩ := h z hz
  refine ⟨u, by rw [up2_n _ (by decide)]; exact h1, h2, by rw [up2_n _ (by decide)]; exact h3, by rw [up2_n _ (by decide), h4]; omega, by rw [up2_n _ (by decide)]; exact h5, ?_⟩
  rw [up2_s, h6]
  rcases sgn_1 (N z) with ⟨g1, g2⟩ | ⟨g1, g2⟩ | ⟨g1, g2⟩ <;> rw [g1]
  · rw [sgn_pos (by omega)]; rfl
  · rw [sgn_pos (by omega)]; rfl
  · rw [sgn_0 (by omega)]; rfl
theorem gcd_mod (a b : Int) (ha : 0 ≤ a) (hb : 0 ≤ b) : Int.gcd b ((a.natAbs : Int) % (b.natAbs : Int)) = Int.gcd a b := by
  have e : ((a.natAbs : Int) % (b.natAbs : Int)) = ((a.natAbs % b.natAbs : Nat) : Int) := by simp
  rw [e]
  show Nat.gcd b.natAbs (a.natAbs % b.natAbs : Nat) = Nat.gcd a.natAbs b.natAbs
  rw [Nat.gcd_comm a.natAbs, Nat.gcd_rec b.natAbs a.natAbs, Nat.gcd_comm]
set_option maxRecDepth 100000 in
set_option maxHeartbeats 4000000 in
theorem c_M_common (l : Launch) (D : va_G) (cs : Nat → ClassId) (ad : Nat → Nat) (M : Nat → Nat → Int) (N : Nat → Int) (z x a b : Nat) (hz : z < 120) (hx : x < 120) (ha : a < 120) (hb : b < 120) (hza : z ≠ a) (hzb : z ≠ b) (hab : a ≠ b) (hxa : x ≠ a) (hR : Rep M N) : Ct (S := Nat → Nat → Int) l D (tyL cs) y_M_common b_M_common 5 none (rm 5) [.ref (ad 0), .int (iI ((z : Nat) : Int)), .int (iI ((x : Nat) : Int)), .int (iI ((a : Nat) : Int)), .int (iI ((b : Nat) : Int))] (wM ad cs M) (fun M1 => ∃ N1, Rep M1 N1 ∧ Sm M M1 ∧ N1 z = ((Int.gcd (N z) (N x) : Nat) : Int) ∧ ∀ j, j ≠ z → j ≠ a → j ≠ b → N1 j = N j) (fun _ => none) (fun M1 => wM ad cs M1) := by
  refine Ct.introV (by decide) (Nat.le_of_ble_eq_true rfl) (fun _ => rfl) ?_
  intro p e s m below meth c A args Q H locs X hnm hw kr ls hl
  have X : CX D (tyL cs) R_M b_M_common 5 p m c s args := X
  have hl : lv_has ls 5 [(0, .ref (ad 0)), (1, .int (iI ((z : Nat) : Int))), (2, .int (iI ((x : Nat) : Int))), (3, .int (iI ((a : Nat) : Int))), (4, .int (iI ((b : Nat) : Int)))] := hl
  refine sy_aload_n X d_M_common_0 hl 0 rfl ?_
  refine sy_iload_n X d_M_common_1 hl 3 rfl ?_
  refine sy_iload_n X d_M_common_2 hl 1 rfl ?_
  refine call_Vv (Xs := []) (b := ad 0) (As := [.int (iI ((a : Nat) : Int)), .int (iI ((z : Nat) : Int))]) (rest := []) X lk_M_78 (c_M_copy l D cs ad M N a z ha hz hR) ⟨by decide, by decide⟩ rcv_M hw rfl hl.1 (Nat.le_of_ble_eq_true rfl) d_M_common_3 rfl rfl ⟨Nat.zero_le _, Nat.zero_le _⟩ (fun A1 H locs p1 hw => ?_)
  obtain ⟨B1, eB1⟩ : ∃ g, g = up1 N a (N z) := ⟨_, rfl⟩
  rw [← eB1] at p1
  refine sy_aload_n X d_M_common_6 hl 0 rfl ?_
  refine sy_iload X d_M_common_7 hl 4 rfl ?_
  refine sy_iload_n X d_M_common_9 hl 2 rfl ?_
  refine call_Vv (Xs := []) (b := ad 0) (As := [.int (iI ((b : Nat) : Int)), .int (iI ((x : Nat) : Int))]) (rest := []) X lk_M_78 (c_M_copy l D cs ad A1 B1 b x hb hx p1.1) ⟨by decide, by decide⟩ rcv_M hw rfl hl.1 (Nat.le_of_ble_eq_true rfl) d_M_common_10 rfl rfl ⟨Nat.zero_le _, Nat.zero_le _⟩ (fun A2 H locs p2 hw => ?_)
  obtain ⟨B2, eB2⟩ : ∃ g, g = up1 B1 b (B1 x) := ⟨_, rfl⟩
  rw [← eB2] at p2
  refine sy_aload_n X d_M_common_13 hl 0 rfl ?_
  refine m_get X hw 2 (by decide) rfl (tt_of k511 rfl) d_M_common_14 ?_
  refine sy_iload_n X d_M_common_17 hl 3 rfl ?_
  refine sy_aload_n X d_M_common_18 hl 0 rfl ?_
  refine m_get X hw 2 (by decide) rfl (tt_of k511 rfl) d_M_common_19 ?_
  refine sy_iload_n X d_M_common_22 hl 3 rfl ?_
  refine m_ald X hw 3 a (by decide) (by omega) (by simp only [szM]; omega) (A2 3 a) rfl d_M_common_23 ?_
  refine sy_aload_n X d_M_common_24 hl 0 rfl ?_
  refine m_get X hw 2 (by decide) rfl (tt_of k511 rfl) d_M_common_25 ?_
  refine sy_iload_n X d_M_common_28 hl 3 rfl ?_
  refine m_ald X hw 3 a (by decide) (by omega) (by simp only [szM]; omega) (A2 3 a) rfl d_M_common_29 ?_
  refine sy_imul X d_M_common_30 ?_
  refine m_ast X hw 3 a (by decide) (by omega) (by simp only [szM]; omega) d_M_common_31 (fun H locs hw => ?_)
  have s3 := Rep.sq p2.1 ha
  obtain ⟨A3, eA3⟩ : ∃ g, g = up2 A2 3 a (A2 3 a * A2 3 a) := ⟨_, rfl⟩
  rw [← eA3] at s3 hw
  obtain ⟨B3, eB3⟩ : ∃ g, g = up1 B2 a ((B2 a).natAbs : Int) := ⟨_, rfl⟩
  rw [← eB3] at s3
  refine sy_aload_n X d_M_common_32 hl 0 rfl ?_
  refine m_get X hw 2 (by decide) rfl (tt_of k511 rfl) d_M_common_33 ?_
  refine sy_iload X d_M_common_36 hl 4 rfl ?_
  refine sy_aload_n X d_M_common_38 hl 0 rfl ?_
  refine m_get X hw 2 (by decide) rfl (tt_of k511 rfl) d_M_common_39 ?_
  refine sy_iload X d_M_common_42 hl 4 rfl ?_
  refine m_ald X hw 3 b (by decide) (by omega) (by simp only [szM]; omega) (A3 3 b) rfl d_M_common_44 ?_
  refine sy_aload_n X d_M_common_45 hl 0 rfl ?_
  refine m_get X hw 2 (by decide) rfl (tt_of k511 rfl) d_M_common_46 ?_
  refine sy_iload X d_M_common_49 hl 4 rfl ?_
  refine m_ald X hw 3 b (by decide) (by omega) (by simp only [szM]; omega) (A3 3 b) rfl d_M_common_51 ?_
  refine sy_imul X d_M_common_52 ?_
  refine m_ast X hw 3 b (by decide) (by omega) (by simp only [szM]; omega) d_M_common_53 (fun H locs hw => ?_)
  have s4 := Rep.sq s3 hb
  obtain ⟨A4, eA4⟩ : ∃ g, g = up2 A3 3 b (A3 3 b * A3 3 b) := ⟨_, rfl⟩
  rw [← eA4] at s4 hw
  obtain ⟨B4, eB4⟩ : ∃ g, g = up1 B3 b ((B3 b).natAbs : Int) := ⟨_, rfl⟩
  rw [← eB4] at s4
  have v1 : B2 a = N z := by rw [eB2, up1_n _ hab, eB1, up1_s]
  have v2 : B2 b = N x := by rw [eB2, up1_s, eB1, up1_n _ hxa]
  have v3 : B4 a = ((N z).natAbs : Int) := by rw [eB4, up1_n _ hab, eB3, up1_s, v1]
  have v4 : B4 b = ((N x).natAbs : Int) := by rw [eB4, up1_s, eB3, up1_n _ (Ne.symm hab), v2]
  have hNN : 0 ≤ B4 a ∧ 0 ≤ B4 b := by rw [v3, v4]; omega
  have hGG : Int.gcd (B4 a) (B4 b) = Int.gcd (N z) (N x) := by rw [v3, v4]; simp [Int.gcd]
  have hOO : ∀ j, j ≠ z → j ≠ a → j ≠ b → B4 j = N j := fun j h1 h2 h3 => by rw [eB4, up1_n _ h3, eB3, up1_n _ h2, eB2, up1_n _ h3, eB1, up1_n _ h2]
  have hSm : Sm M A4 := (p1.2.1.tr p2.2.1).tr (by rw [eA4, eA3]; exact ⟨rfl, rfl, rfl, rfl⟩)
  have key : ∀ (n : Nat) (M1 : Nat → Nat → Int) (N1 : Nat → Int) (H : Heap) (locs : List Loc) (ls : Array Slot), Rep M1 N1 → Sm M M1 → 0 ≤ N1 a ∧ 0 ≤ N1 b → Int.gcd (N1 a) (N1 b) = Int.gcd (N z) (N x) → (∀ j, j ≠ z → j ≠ a → j ≠ b → N1 j = N j) → N1 b < (n : Int) → HW D A s.heap (wM ad cs M1) H locs → lv_has ls 5 [(0, .ref (ad 0)), (1, .int (iI ((z : Nat) : Int))), (2, .int (iI ((x : Nat) : Int))), (3, .int (iI ((a : Nat) : Int))), (4, .int (iI ((b : Nat) : Int)))] → W p l e (rm 5) s m args below meth c H locs 0 0 Q (F0 m 54 ls []) := by
    intro n
    induction n with
    | zero =>
      intro M1 N1 H locs ls r1 r2 r3 r4 r5 r6 hw hl
      exfalso; omega
    | succ n ih_key =>
      intro M1 N1 H locs ls r1 r2 r3 r4 r5 r6 hw hl
      obtain ⟨ub, hub, hub1, -, -, hltb, htb, -⟩ := (r1 b hb).dig
      refine sy_aload_n X d_M_common_54 hl 0 rfl ?_
      refine m_get X hw 1 (by decide) rfl (tt_of k510 rfl) d_M_common_55 ?_
      refine sy_iload X d_M_common_58 hl 4 rfl ?_
      refine m_ald X hw 2 b (by decide) (by omega) (by simp only [szM]; omega) (ub : Int) hub d_M_common_60 ?_
      refine sy_if_le (tgt := 115) X d_M_common_61 (by decide) ⟨by omega, by omega⟩ (fun c1 => ?_) (fun c1 => ?_)
      · refine sy_aload_n X d_M_common_115 hl 0 rfl ?_
        refine sy_iload_n X d_M_common_116 hl 1 rfl ?_
        refine sy_iload_n X d_M_common_117 hl 3 rfl ?_
        refine call_Vv (Xs := []) (b := ad 0) (As := [.int (iI ((z : Nat) : Int)), .int (iI ((a : Nat) : Int))]) (rest := []) X lk_M_78 (c_M_copy l D cs ad M1 N1 z a hz ha r1) ⟨by decide, by decide⟩ rcv_M hw rfl hl.1 (Nat.le_of_ble_eq_true rfl) d_M_common_118 rfl rfl ⟨Nat.zero_le _, Nat.zero_le _⟩ (fun M2 H locs q1 hw => ?_)
        obtain ⟨N2, eN2⟩ : ∃ g, g = up1 N1 z (N1 a) := ⟨_, rfl⟩
        rw [← eN2] at q1
        have hb0 : N1 b = 0 := by
          have : ub = 0 := by omega
          subst this; simp at hltb; omega
        have hN2z : N2 z = ((Int.gcd (N z) (N x) : Nat) : Int) := by
          rw [eN2, up1_s, ← r4, hb0]; simp [Int.gcd]; omega
        exact kr _ _ _ _ _ d_M_common_121 hw ⟨N2, q1.1, r2.tr q1.2.1, hN2z, fun j h1 h2 h3 => by rw [eN2, up1_n _ h1]; exact r5 j h1 h2 h3⟩
      · have hub0 : 1 ≤ ub := by omega
        have hb1 : 1 ≤ N1 b := by rcases htb with h | h; omega; have := B_pos (ub - 1); omega
        refine sy_aload_n X d_M_common_64 hl 0 rfl ?_
        refine sy_iload_n X d_M_common_65 hl 1 rfl ?_
        refine sy_iload X d_M_common_66 hl 4 rfl ?_
        refine call_Vv (Xs := []) (b := ad 0) (As := [.int (iI ((z : Nat) : Int)), .int (iI ((b : Nat) : Int))]) (rest := []) X lk_M_78 (c_M_copy l D cs ad M1 N1 z b hz hb r1) ⟨by decide, by decide⟩ rcv_M hw rfl hl.1 (Nat.le_of_ble_eq_true rfl) d_M_common_68 rfl rfl ⟨Nat.zero_le _, Nat.zero_le _⟩ (fun M2 H locs q1 hw => ?_)
        obtain ⟨N2, eN2⟩ : ∃ g, g = up1 N1 z (N1 b) := ⟨_, rfl⟩
        rw [← eN2] at q1
        have n2a : N2 a = N1 a := by rw [eN2, up1_n _ (Ne.symm hza)]
        have n2b : N2 b = N1 b := by rw [eN2, up1_n _ (Ne.symm hzb)]
        have n2z : N2 z = N1 b := by rw [eN2, up1_s]
        obtain ⟨va, hva, hva1, -, -, hlta, hta, -⟩ := (q1.1 a ha).dig
        obtain ⟨vb, hvb, hvb1, -, -, hltb2, htb2, -⟩ := (q1.1 b hb).dig
        rw [n2a] at hlta hta
        rw [n2b] at hltb2 htb2
        refine sy_aload_n X d_M_common_71 hl 0 rfl ?_
        refine m_get X hw 1 (by decide) rfl (tt_of k510 rfl) d_M_common_72 ?_
        refine sy_iload_n X d_M_common_75 hl 3 rfl ?_
        refine m_ald X hw 2 a (by decide) (by omega) (by simp only [szM]; omega) (va : Int) hva d_M_common_76 ?_
        refine sy_aload_n X d_M_common_77 hl 0 rfl ?_
        refine m_get X hw 1 (by decide) rfl (tt_of k510 rfl) d_M_common_78 ?_
        refine sy_iload X d_M_common_81 hl 4 rfl ?_
        refine m_ald X hw 2 b (by decide) (by omega) (by simp only [szM]; omega) (vb : Int) hvb d_M_common_83 ?_
        refine sy_icmp_ge (tgt := 97) X d_M_common_84 (by decide) ⟨by omega, by omega⟩ ⟨by omega, by omega⟩ (fun c2 => ?_) (fun c2 => ?_)
        · refine sy_aload_n X d_M_common_97 hl 0 rfl ?_
          refine sy_iload X d_M_common_98 hl 4 rfl ?_
          refine sy_iload_n X d_M_common_100 hl 3 rfl ?_
          refine sy_iload X d_M_common_101 hl 4 rfl ?_
          refine call_Vv (Xs := []) (b := ad 0) (As := [.int (iI ((b : Nat) : Int)), .int (iI ((a : Nat) : Int)), .int (iI ((b : Nat) : Int))]) (rest := []) X lk_M_81 (c_M_remainder l D cs ad M2 N2 b a b hb ha hb q1.1 (by rw [n2b]; omega) (by omega)) ⟨by decide, by decide⟩ rcv_M hw rfl hl.1 (Nat.le_of_ble_eq_true rfl) d_M_common_103 rfl rfl ⟨Nat.zero_le _, Nat.zero_le _⟩ (fun M3 H locs q2 hw => ?_)
          obtain ⟨N3, eN3⟩ : ∃ g, g = up1 N2 b (((N2 a).natAbs : Int) % ((N2 b).natAbs : Int)) := ⟨_, rfl⟩
          rw [← eN3] at q2
          have n3z : N3 z = N1 b := by rw [eN3, up1_n _ hzb, n2z]
          have n3b : N3 b = ((N1 a).natAbs : Int) % ((N1 b).natAbs : Int) := by rw [eN3, up1_s, n2a, n2b]
          have hg3 : Int.gcd (N1 b) (N3 b) = Int.gcd (N z) (N x) := by rw [n3b, gcd_mod _ _ r3.1 r3.2]; exact r4
          have hd3 : 0 ≤ N3 b ∧ N3 b < N1 b := by rw [n3b]; have h1 := Int.emod_nonneg ((N1 a).natAbs : Int) (show ((N1 b).natAbs : Int) ≠ 0 by omega); have h2 := Int.emod_lt_of_pos ((N1 a).natAbs : Int) (show (0 : Int) < ((N1 b).natAbs : Int) by omega); omega
          refine sy_aload_n X d_M_common_106 hl 0 rfl ?_
          refine sy_iload_n X d_M_common_107 hl 3 rfl ?_
          refine sy_iload_n X d_M_common_108 hl 1 rfl ?_
          refine call_Vv (Xs := []) (b := ad 0) (As := [.int (iI ((a : Nat) : Int)), .int (iI ((z : Nat) : Int))]) (rest := []) X lk_M_78 (c_M_copy l D cs ad M3 N3 a z ha hz q2.1) ⟨by decide, by decide⟩ rcv_M hw rfl hl.1 (Nat.le_of_ble_eq_true rfl) d_M_common_109 rfl rfl ⟨Nat.zero_le _, Nat.zero_le _⟩ (fun M4 H locs q3 hw => ?_)
          obtain ⟨N4, eN4⟩ : ∃ g, g = up1 N3 a (N3 z) := ⟨_, rfl⟩
          rw [← eN4] at q3
          have n4a : N4 a = N1 b := by rw [eN4, up1_s, n3z]
          have n4b : N4 b = N3 b := by rw [eN4, up1_n _ (Ne.symm hab)]
          have hS4 : Sm M M4 := (r2.tr q1.2.1).tr (q2.2.tr q3.2.1)
          have h34 : 0 ≤ N4 a ∧ 0 ≤ N4 b := by rw [n4a, n4b]; omega
          have h44 : Int.gcd (N4 a) (N4 b) = Int.gcd (N z) (N x) := by rw [n4a, n4b]; exact hg3
          have h54 : ∀ j, j ≠ z → j ≠ a → j ≠ b → N4 j = N j := fun j h1 h2 h3 => by rw [eN4, up1_n _ h2, eN3, up1_n _ h3, eN2, up1_n _ h1]; exact r5 j h1 h2 h3
          have h64 : N4 b < (n : Int) := by rw [n4b]; omega
          refine sy_goto (tgt := 54) X d_M_common_112 (by decide) ?_
          exact ih_key M4 N4 H locs ls q3.1 hS4 h34 h44 h54 h64 hw (lv_sub hl [0, 1, 2, 3, 4] rfl)
        · refine sy_aload_n X d_M_common_87 hl 0 rfl ?_
          refine sy_iload X d_M_common_88 hl 4 rfl ?_
          refine sy_iload_n X d_M_common_90 hl 3 rfl ?_
          refine call_Vv (Xs := []) (b := ad 0) (As := [.int (iI ((b : Nat) : Int)), .int (iI ((a : Nat) : Int))]) (rest := []) X lk_M_78 (c_M_copy l D cs ad M2 N2 b a hb ha q1.1) ⟨by decide, by decide⟩ rcv_M hw rfl hl.1 (Nat.le_of_ble_eq_true rfl) d_M_common_91 rfl rfl ⟨Nat.zero_le _, Nat.zero_le _⟩ (fun M3 H locs q2 hw => ?_)
          obtain ⟨N3, eN3⟩ : ∃ g, g = up1 N2 b (N2 a) := ⟨_, rfl⟩
          rw [← eN3] at q2
          have n3z : N3 z = N1 b := by rw [eN3, up1_n _ hzb, n2z]
          have n3b : N3 b = N1 a := by rw [eN3, up1_s, n2a]
          have hdec : N1 a < N1 b := by
            have h1 := B_le (show va ≤ vb - 1 by omega)
            rcases htb2 with h | h <;> omega
          have hg3 : Int.gcd (N1 b) (N3 b) = Int.gcd (N z) (N x) := by rw [n3b, Int.gcd_comm]; exact r4
          have hd3 : 0 ≤ N3 b ∧ N3 b < N1 b := by rw [n3b]; omega
          have q2 := (⟨q2.1, q2.2.1⟩ : Rep M3 N3 ∧ Sm M2 M3)
          refine sy_goto (tgt := 106) X d_M_common_94 (by decide) ?_
          refine sy_aload_n X d_M_common_106 hl 0 rfl ?_
          refine sy_iload_n X d_M_common_107 hl 3 rfl ?_
          refine sy_iload_n X d_M_common_108 hl 1 rfl ?_
          refine call_Vv (Xs := []) (b := ad 0) (As := [.int (iI ((a : Nat) : Int)), .int (iI ((z : Nat) : Int))]) (rest := []) X lk_M_78 (c_M_copy l D cs ad M3 N3 a z ha hz q2.1) ⟨by decide, by decide⟩ rcv_M hw rfl hl.1 (Nat.le_of_ble_eq_true rfl) d_M_common_109 rfl rfl ⟨Nat.zero_le _, Nat.zero_le _⟩ (fun M4 H locs q3 hw => ?_)
          obtain ⟨N4, eN4⟩ : ∃ g, g = up1 N3 a (N3 z) := ⟨_, rfl⟩
          rw [← eN4] at q3
          have n4a : N4 a = N1 b := by rw [eN4, up1_s, n3z]
          have n4b : N4 b = N3 b := by rw [eN4, up1_n _ (Ne.symm hab)]
          have hS4 : Sm M M4 := (r2.tr q1.2.1).tr (q2.2.tr q3.2.1)
          have h34 : 0 ≤ N4 a ∧ 0 ≤ N4 b := by rw [n4a, n4b]; omega
          have h44 : Int.gcd (N4 a) (N4 b) = Int.gcd (N z) (N x) := by rw [n4a, n4b]; exact hg3
          have h54 : ∀ j, j ≠ z → j ≠ a → j ≠ b → N4 j = N j := fun j h1 h2 h3 => by rw [eN4, up1_n _ h2, eN3, up1_n _ h3, eN2, up1_n _ h1]; exact r5 j h1 h2 h3
          have h64 : N4 b < (n : Int) := by rw [n4b]; omega
          refine sy_goto (tgt := 54) X d_M_common_112 (by decide) ?_
          exact ih_key M4 N4 H locs ls q3.1 hS4 h34 h44 h54 h64 hw (lv_sub hl [0, 1, 2, 3, 4] rfl)
  exact key ((B4 b).toNat + 1) A4 B4 H locs ls s4 (hSm) hNN hGG hOO (by omega) hw (lv_sub hl [0, 1, 2, 3, 4] rfl)
end
section
def gF (a : Int) (f : Nat → Int) : Nat → Nat
  | 0 => a.natAbs
  | k + 1 => Nat.gcd (gF a f k) (f k).natAbs
theorem gF_pos {a : Int} (f : Nat → Int) (h : a ≠ 0) : ∀ k, 0 < gF a f k
  | 0 => by simp only [gF]; omega
  | k + 1 => Nat.gcd_pos_of_pos_left _ (gF_pos f h k)
theorem gF_mono (a : Int) (f : Nat → Int) {k : Nat} : ∀ {n : Nat}, k ≤ n → gF a f n ∣ gF a f k
  | 0, h => by rw [show k = 0 by omega]; exact Nat.dvd_refl _
  | n + 1, h => by
    by_cases e : k = n + 1
    · rw [e]; exact Nat.dvd_refl _
    · exact Nat.dvd_trans (Nat.gcd_dvd_left _ _) (gF_mono a f (show k ≤ n by omega))
theorem gF_dvd (a : Int) (f : Nat → Int) {k n : Nat} (h : k < n) : ((gF a f n : Nat) : Int) ∣ f k := by
  have h1 : gF a f n ∣ gF a f (k + 1) := gF_mono a f h
  have h2 : gF a f (k + 1) ∣ (f k).natAbs := Nat.gcd_dvd_right _ _
  exact Int.ofNat_dvd_left.mpr (Nat.dvd_trans h1 h2)
theorem gF_dvd0 (a : Int) (f : Nat → Int) (n : Nat) : ((gF a f n : Nat) : Int) ∣ a := Int.ofNat_dvd_left.mpr (gF_mono a f (Nat.zero_le n))
theorem sg_div {n : Int} {g : Nat} (hg : 0 < g) (h : (g : Int) ∣ n) : n.sign * (g : Int).sign * ((n.natAbs : Int) / ((g : Int).natAbs : Int)) = n / (g : Int) := by
  obtain ⟨t, rfl⟩ := h
  have hgi : (0 : Int) < (g : Int) := by omega
  rw [sgn_pos hgi, Int.natAbs_mul, Int.sign_mul, sgn_pos hgi, Int.mul_ediv_cancel_left _ (by omega)]
  have e1 : (((g : Int).natAbs * t.natAbs : Nat) : Int) = (g : Int) * (t.natAbs : Int) := by simp
  have e2 : ((g : Int).natAbs : Int) = (g : Int) := by simp
  rw [e1, e2, Int.mul_ediv_cancel_left _ (by omega), Int.one_mul, Int.mul_one, sgn_abs]
set_option maxRecDepth 100000 in
set_option maxHeartbeats 4000000 in
theorem c_M_shrink (l : Launch) (D : va_G) (cs : Nat → ClassId) (ad : Nat → Nat) (M : Nat → Nat → Int) (N : Nat → Int) (fr mn : Nat) (h1 : 1 ≤ mn) (h2 : fr + mn ≤ 117) (hR : Rep M N) (hpos : 0 < N (fr + mn - 1)) : Ct (S := Nat → Nat → Int) l D (tyL cs) y_M_shrink b_M_shrink 5 none (rm 6) [.ref (ad 0), .int (iI ((fr : Nat) : Int)), .int (iI ((mn : Nat) : Int))] (wM ad cs M) (fun M1 => ∃ N1, Rep M1 N1 ∧ Sm M M1 ∧ ∀ j, j < 117 → N1 j = if fr ≤ j ∧ j < fr + mn then N j / ((gF (N (fr + mn - 1)) (fun i => N (fr + i)) (mn - 1) : Nat) : Int) else N j) (fun _ => none) (fun M1 => wM ad cs M1) := by
  refine Ct.introV (by decide) (Nat.le_of_ble_eq_true rfl) (fun _ => rfl) ?_
  intro p e s m below meth c A args Q H locs X hnm hw kr ls hl
  have X : CX D (tyL cs) R_M b_M_shrink 5 p m c s args := X
  have hl : lv_has ls 5 [(0, .ref (ad 0)), (1, .int (iI ((fr : Nat) : Int))), (2, .int (iI ((mn : Nat) : Int)))] := hl
  refine sy_bipush X d_M_shrink_0 (by decide) ?_
  refine sy_istore_n (lv1 := [(3, .int (iI 119)), (0, .ref (ad 0)), (1, .int (iI ((fr : Nat) : Int))), (2, .int (iI ((mn : Nat) : Int)))]) X d_M_shrink_2 hl rfl (by decide) rfl (fun ls hl => ?_)
  refine sy_aload_n X d_M_shrink_3 hl 1 rfl ?_
  refine sy_iload_n X d_M_shrink_4 hl 0 rfl ?_
  refine sy_iload_n X d_M_shrink_5 hl 2 rfl ?_
  refine sy_iload_n X d_M_shrink_6 hl 3 rfl ?_
  refine sy_iadd X d_M_shrink_7 ?_
  refine sy_iconst X d_M_shrink_8 ?_
  refine sy_isub X d_M_shrink_9 ?_
  rw [show (((fr : Nat) : Int) + ((mn : Nat) : Int) - 1) = ((fr + mn - 1 : Nat) : Int) by omega]
  refine call_Vv (Xs := []) (b := ad 0) (As := [.int (iI 119), .int (iI ((fr + mn - 1 : Nat) : Int))]) (rest := []) X lk_M_78 (c_M_copy l D cs ad M N 119 (fr + mn - 1) (by decide) (by omega) hR) ⟨by decide, by decide⟩ rcv_M hw rfl hl.1 (Nat.le_of_ble_eq_true rfl) d_M_shrink_10 rfl rfl ⟨Nat.zero_le _, Nat.zero_le _⟩ (fun A1 H locs p1 hw => ?_)
  refine sy_iconst X d_M_shrink_13 ?_
  refine sy_istore (lv1 := [(4, .int (iI 0)), (3, .int (iI 119)), (0, .ref (ad 0)), (1, .int (iI ((fr : Nat) : Int))), (2, .int (iI ((mn : Nat) : Int)))]) X d_M_shrink_14 hl (by decide) rfl (fun ls hl => ?_)
  have key1 : ∀ (n : Nat) (k : Nat) (M1 : Nat → Nat → Int) (N1 : Nat → Int) (H : Heap) (locs : List Loc) (ls : Array Slot), k ≤ mn - 1 → mn - 1 < k + n → Rep M1 N1 → Sm M M1 → N1 119 = ((gF (N (fr + mn - 1)) (fun i => N (fr + i)) k : Nat) : Int) → (∀ j, j < 117 → N1 j = N j) → HW D A s.heap (wM ad cs M1) H locs → lv_has ls 5 [(0, .ref (ad 0)), (1, .int (iI ((fr : Nat) : Int))), (2, .int (iI ((mn : Nat) : Int))), (3, .int (iI 119)), (4, .int (iI ((k : Nat) : Int)))] → W p l e (rm 6) s m args below meth c H locs 0 0 Q (F0 m 16 ls []) := by
    intro n
    induction n with
    | zero =>
      intro k M1 N1 H locs ls f1 f2 f3 f4 f5 f6 hw hl
      exfalso; omega
    | succ n ih_key1 =>
      intro k M1 N1 H locs ls f1 f2 f3 f4 f5 f6 hw hl
      refine sy_iload X d_M_shrink_16 hl 4 rfl ?_
      refine sy_iload_n X d_M_shrink_18 hl 2 rfl ?_
      refine sy_iconst X d_M_shrink_19 ?_
      refine sy_isub X d_M_shrink_20 ?_
      refine sy_icmp_ge (tgt := 43) X d_M_shrink_21 (by decide) ⟨by omega, by omega⟩ ⟨by omega, by omega⟩ (fun c1 => ?_) (fun c1 => ?_)
      · refine sy_iconst X d_M_shrink_43 ?_
        refine sy_istore (lv1 := [(4, .int (iI 0)), (0, .ref (ad 0)), (1, .int (iI ((fr : Nat) : Int))), (2, .int (iI ((mn : Nat) : Int))), (3, .int (iI 119))]) X d_M_shrink_44 hl (by decide) rfl (fun ls hl => ?_)
        have key2 : ∀ (n : Nat) (k : Nat) (M1 : Nat → Nat → Int) (N1 : Nat → Int) (H : Heap) (locs : List Loc) (ls : Array Slot), k ≤ mn → mn < k + n → Rep M1 N1 → Sm M M1 → N1 119 = ((gF (N (fr + mn - 1)) (fun i => N (fr + i)) (mn - 1) : Nat) : Int) → (∀ j, j < 117 → N1 j = if fr ≤ j ∧ j < fr + k then N j / ((gF (N (fr + mn - 1)) (fun i => N (fr + i)) (mn - 1) : Nat) : Int) else N j) → HW D A s.heap (wM ad cs M1) H locs → lv_has ls 5 [(0, .ref (ad 0)), (1, .int (iI ((fr : Nat) : Int))), (2, .int (iI ((mn : Nat) : Int))), (3, .int (iI 119)), (4, .int (iI ((k : Nat) : Int)))] → W p l e (rm 6) s m args below meth c H locs 0 0 Q (F0 m 46 ls []) := by
          intro n
          induction n with
          | zero =>
            intro k M1 N1 H locs ls d1 d2 d3 d4 d5 d6 hw hl
            exfalso; omega
          | succ n ih_key2 =>
            intro k M1 N1 H locs ls d1 d2 d3 d4 d5 d6 hw hl
            refine sy_iload X d_M_shrink_46 hl 4 rfl ?_
            refine sy_iload_n X d_M_shrink_48 hl 2 rfl ?_
            refine sy_icmp_ge (tgt := 71) X d_M_shrink_49 (by decide) ⟨by omega, by omega⟩ ⟨by omega, by omega⟩ (fun c2 => ?_) (fun c2 => ?_)
            · exact kr _ _ _ _ _ d_M_shrink_71 hw ⟨N1, d3, d4, fun j hj => by rw [d6 j hj, show k = mn by omega]⟩
            · refine sy_aload_n X d_M_shrink_52 hl 0 rfl ?_
              refine sy_iload_n X d_M_shrink_53 hl 1 rfl ?_
              refine sy_iload X d_M_shrink_54 hl 4 rfl ?_
              refine sy_iadd X d_M_shrink_56 ?_
              refine sy_iload_n X d_M_shrink_57 hl 1 rfl ?_
              refine sy_iload X d_M_shrink_58 hl 4 rfl ?_
              refine sy_iadd X d_M_shrink_60 ?_
              refine sy_iload_n X d_M_shrink_61 hl 3 rfl ?_
              have hG0 : 0 < gF (N (fr + mn - 1)) (fun i => N (fr + i)) (mn - 1) := gF_pos _ (by omega) _
              have hk0 : N1 (fr + k) = N (fr + k) := by rw [d6 _ (by omega), if_neg (by omega)]
              have hdv : ((gF (N (fr + mn - 1)) (fun i => N (fr + i)) (mn - 1) : Nat) : Int) ∣ N (fr + k) := by
                by_cases e : k = mn - 1
                · have := gF_dvd0 (N (fr + mn - 1)) (fun i => N (fr + i)) (mn - 1)
                  rw [show fr + k = fr + mn - 1 by omega]; exact this
                · exact gF_dvd (N (fr + mn - 1)) (fun i => N (fr + i)) (show k < mn - 1 by omega)
              refine call_Vv (Xs := []) (b := ad 0) (As := [.int (iI (((fr : Nat) : Int) + ((k : Nat) : Int))), .int (iI (((fr : Nat) : Int) + ((k : Nat) : Int))), .int (iI 119)]) (rest := []) X lk_M_87 (c_M_part l D cs ad M1 N1 (fr + k) (fr + k) 119 (by omega) (by omega) (by decide) d3 (by rw [d5]; omega)) ⟨by decide, by decide⟩ rcv_M hw rfl hl.1 (Nat.le_of_ble_eq_true rfl) d_M_shrink_62 rfl rfl ⟨Nat.zero_le _, Nat.zero_le _⟩ (fun M2 H locs e1 hw => ?_)
              rw [d5, hk0, sg_div hG0 hdv] at e1
              obtain ⟨N2, eN2⟩ : ∃ g, g = up1 N1 (fr + k) (N (fr + k) / ((gF (N (fr + mn - 1)) (fun i => N (fr + i)) (mn - 1) : Nat) : Int)) := ⟨_, rfl⟩
              rw [← eN2] at e1
              have hN2 : ∀ j, j < 117 → N2 j = if fr ≤ j ∧ j < fr + (k + 1) then N j / ((gF (N (fr + mn - 1)) (fun i => N (fr + i)) (mn - 1) : Nat) : Int) else N j := fun j hj => by
                rw [eN2]
                by_cases e : j = fr + k
                · subst e; rw [up1_s, if_pos (by omega)]
                · rw [up1_n _ e, d6 j hj]
                  by_cases g : fr ≤ j ∧ j < fr + k
                  · rw [if_pos g, if_pos (by omega)]
                  · rw [if_neg g, if_neg (by omega)]
              refine sy_iinc (lv1 := [(4, .int (iI ((k + 1 : Nat) : Int))), (0, .ref (ad 0)), (1, .int (iI ((fr : Nat) : Int))), (2, .int (iI ((mn : Nat) : Int))), (3, .int (iI 119))]) X d_M_shrink_65 hl 4 rfl (by omega) (by decide) rfl (fun ls hl => ?_)
              refine sy_goto (tgt := 46) X d_M_shrink_68 (by decide) ?_
              exact ih_key2 (k + 1) M2 N2 H locs ls (by omega) (by omega) e1.1 (d4.tr e1.2) (by rw [eN2, up1_n _ (by omega)]; exact d5) (fun j hj => hN2 j hj) hw (lv_sub hl [1, 2, 3, 4, 0] rfl)
        exact key2 (mn + 1) 0 M1 N1 H locs ls (by omega) (by omega) f3 f4 (by rw [f5, show k = mn - 1 by omega]) (fun j hj => by rw [if_neg (by omega)]; exact f6 j hj) hw (lv_sub hl [1, 2, 3, 4, 0] rfl)
      · refine sy_aload_n X d_M_shrink_24 hl 0 rfl ?_
        refine sy_iload_n X d_M_shrink_25 hl 3 rfl ?_
        refine sy_iload_n X d_M_shrink_26 hl 1 rfl ?_
        refine sy_iload X d_M_shrink_27 hl 4 rfl ?_
        refine sy_iadd X d_M_shrink_29 ?_
        refine sy_bipush X d_M_shrink_30 (by decide) ?_
        refine sy_bipush X d_M_shrink_32 (by decide) ?_
        refine call_Vv (Xs := []) (b := ad 0) (As := [.int (iI 119), .int (iI (((fr : Nat) : Int) + ((k : Nat) : Int))), .int (iI 118), .int (iI 117)]) (rest := []) X lk_M_84 (c_M_common l D cs ad M1 N1 119 (fr + k) 118 117 (by decide) (by omega) (by decide) (by decide) (by decide) (by decide) (by decide) (by omega) f3) ⟨by decide, by decide⟩ rcv_M hw rfl hl.1 (Nat.le_of_ble_eq_true rfl) d_M_shrink_34 rfl rfl ⟨Nat.zero_le _, Nat.zero_le _⟩ (fun M2 H locs p2 hw => ?_)
        obtain ⟨N2, c1, c2, c3, c4⟩ := p2
        refine sy_iinc (lv1 := [(4, .int (iI ((k + 1 : Nat) : Int))), (0, .ref (ad 0)), (1, .int (iI ((fr : Nat) : Int))), (2, .int (iI ((mn : Nat) : Int))), (3, .int (iI 119))]) X d_M_shrink_37 hl 4 rfl (by omega) (by decide) rfl (fun ls hl => ?_)
        refine sy_goto (tgt := 16) X d_M_shrink_40 (by decide) ?_
        exact ih_key1 (k + 1) M2 N2 H locs ls (by omega) (by omega) c1 (f4.tr c2) (by rw [c3, f5, f6 _ (by omega)]; simp [gF, Int.gcd]) (fun j hj => by rw [c4 j (by omega) (by omega) (by omega)]; exact f6 j hj) hw (lv_sub hl [1, 2, 3, 4, 0] rfl)
  obtain ⟨B1, eB1⟩ : ∃ g, g = up1 N 119 (N (fr + mn - 1)) := ⟨_, rfl⟩
  rw [← eB1] at p1
  exact key1 mn 0 A1 B1 H locs ls (by omega) (by omega) p1.1 p1.2.1 (by rw [eB1, up1_s]; simp only [gF]; omega) (fun j hj => by rw [eB1, up1_n _ (by omega)]) hw (lv_sub hl [2, 3, 4, 1, 0] rfl)
set_option maxRecDepth 100000 in
set_option maxHeartbeats 4000000 in
theorem c_M_keep (l : Launch) (D : va_G) (cs : Nat → ClassId) (ad : Nat → Nat) (M : Nat → Nat → Int) (N : Nat → Int) (to fr : Nat) (h1 : to + 6 ≤ 120) (h2 : fr + 6 ≤ 120) (h3 : to + 6 ≤ fr ∨ fr + 6 ≤ to) (hR : Rep M N) : Ct (S := Nat → Nat → Int) l D (tyL cs) y_M_keep b_M_keep 4 none (rm 2) [.ref (ad 0), .int (iI ((to : Nat) : Int)), .int (iI ((fr : Nat) : Int))] (wM ad cs M) (fun M1 => ∃ N1, Rep M1 N1 ∧ Sm M M1 ∧ ∀ j, N1 j = if to ≤ j ∧ j < to + 6 then N (fr + (j - to)) else N j) (fun _ => none) (fun M1 => wM ad cs M1) := by
  refine Ct.introV (by decide) (Nat.le_of_ble_eq_true rfl) (fun _ => rfl) ?_
  intro p e s m below meth c A args Q H locs X hnm hw kr ls hl
  have X : CX D (tyL cs) R_M b_M_keep 4 p m c s args := X
  have hl : lv_has ls 4 [(0, .ref (ad 0)), (1, .int (iI ((to : Nat) : Int))), (2, .int (iI ((fr : Nat) : Int)))] := hl
  refine sy_iconst X d_M_keep_0 ?_
  refine sy_istore_n (lv1 := [(3, .int (iI 0)), (0, .ref (ad 0)), (1, .int (iI ((to : Nat) : Int))), (2, .int (iI ((fr : Nat) : Int)))]) X d_M_keep_1 hl rfl (by decide) rfl (fun ls hl => ?_)
  have key : ∀ (n : Nat) (k : Nat) (M1 : Nat → Nat → Int) (N1 : Nat → Int) (H : Heap) (locs : List Loc) (ls : Array Slot), k ≤ 6 → 6 < k + n → Rep M1 N1 → Sm M M1 → (∀ j, N1 j = if to ≤ j ∧ j < to + k then N (fr + (j - to)) else N j) → HW D A s.heap (wM ad cs M1) H locs → lv_has ls 4 [(0, .ref (ad 0)), (1, .int (iI ((to : Nat) : Int))), (2, .int (iI ((fr : Nat) : Int))), (3, .int (iI ((k : Nat) : Int)))] → W p l e (rm 2) s m args below meth c H locs 0 0 Q (F0 m 2 ls []) := by
    intro n
    induction n with
    | zero =>
      intro k M1 N1 H locs ls f1 f2 f3 f4 f5 hw hl
      exfalso; omega
    | succ n ih_key =>
      intro k M1 N1 H locs ls f1 f2 f3 f4 f5 hw hl
      refine sy_iload_n X d_M_keep_2 hl 3 rfl ?_
      refine sy_bipush X d_M_keep_3 (by decide) ?_
      refine sy_icmp_ge (tgt := 24) X d_M_keep_5 (by decide) ⟨by omega, by omega⟩ ⟨by omega, by omega⟩ (fun c1 => ?_) (fun c1 => ?_)
      · exact kr _ _ _ _ _ d_M_keep_24 hw ⟨N1, f3, f4, fun j => by rw [f5, show k = 6 by omega]⟩
      · refine sy_aload_n X d_M_keep_8 hl 0 rfl ?_
        refine sy_iload_n X d_M_keep_9 hl 1 rfl ?_
        refine sy_iload_n X d_M_keep_10 hl 3 rfl ?_
        refine sy_iadd X d_M_keep_11 ?_
        refine sy_iload_n X d_M_keep_12 hl 2 rfl ?_
        refine sy_iload_n X d_M_keep_13 hl 3 rfl ?_
        refine sy_iadd X d_M_keep_14 ?_
        refine call_Vv (Xs := []) (b := ad 0) (As := [.int (iI (((to : Nat) : Int) + ((k : Nat) : Int))), .int (iI (((fr : Nat) : Int) + ((k : Nat) : Int)))]) (rest := []) X lk_M_78 (c_M_copy l D cs ad M1 N1 (to + k) (fr + k) (by omega) (by omega) f3) ⟨by decide, by decide⟩ rcv_M hw rfl hl.1 (Nat.le_of_ble_eq_true rfl) d_M_keep_15 rfl rfl ⟨Nat.zero_le _, Nat.zero_le _⟩ (fun M2 H locs e1 hw => ?_)
        have hN2 : ∀ j, up1 N1 (to + k) (N1 (fr + k)) j = if to ≤ j ∧ j < to + (k + 1) then N (fr + (j - to)) else N j := fun j => by
          by_cases e : j = to + k
          · rw [e, up1_s, f5, if_neg (by omega), if_pos (by omega)]; congr 1; omega
          · rw [up1_n _ e, f5]
            by_cases g : to ≤ j ∧ j < to + k
            · rw [if_pos g, if_pos (by omega)]
            · rw [if_neg g, if_neg (by omega)]
        refine sy_iinc (lv1 := [(3, .int (iI ((k + 1 : Nat) : Int))), (0, .ref (ad 0)), (1, .int (iI ((to : Nat) : Int))), (2, .int (iI ((fr : Nat) : Int)))]) X d_M_keep_18 hl 3 rfl (by omega) (by decide) rfl (fun ls hl => ?_)
        refine sy_goto (tgt := 2) X d_M_keep_21 (by decide) ?_
        exact ih_key (k + 1) M2 _ H locs ls (by omega) (by omega) e1.1 (f4.tr e1.2.1) hN2 hw (lv_sub hl [1, 2, 3, 0] rfl)
  exact key 7 0 M N H locs ls (by omega) (by omega) hR (Sm.rf M) (fun j => by rw [if_neg (by omega)]) hw (lv_sub hl [1, 2, 3, 0] rfl)
end
section
theorem sy_ifb_eq {p : Program} {l : Launch} {e : Env} {R : Room} {s : State} {m : MethodId} {args : Array Value} {below : List Frame} {meth : Method} {c : Code} {H : Heap} {locs : List Loc} {cells slots : Nat} {Q : State → Prop} {D : va_G} {tys : List (ClassId × FieldType)} {own : String} {cc : ByteArray} {nL : Nat} {pc : Nat} {ls : Array Slot} {rest : List Value} {P : Prop} [Decidable P] {off : Int} {tgt : Nat} (X : CX D tys own cc nL p m c s args) (hd : decode cc pc = .ok (.ifCond .eq off, 3)) (ht : (pc : Int) + off = (tgt : Int)) (kt : ¬ P → W p l e R s m args below meth c H locs cells slots Q (F0 m tgt ls rest)) (kf : P → W p l e R s m args below meth c H locs cells slots Q (F0 m (pc + 3) ls rest)) : W p l e R s m args below meth c H locs cells slots Q (F0 m pc ls (.int (iI (if P then 1 else 0)) :: rest)) := by
  refine sy_if_eq X hd ht (by split <;> exact ⟨by decide, by decide⟩) (fun h => kt (fun g => ?_)) (fun h => kf ?_)
  · rw [if_pos g] at h; omega
  · by_cases g : P
    · exact g
    · rw [if_neg g] at h; omega
theorem sy_ifb_ne {p : Program} {l : Launch} {e : Env} {R : Room} {s : State} {m : MethodId} {args : Array Value} {below : List Frame} {meth : Method} {c : Code} {H : Heap} {locs : List Loc} {cells slots : Nat} {Q : State → Prop} {D : va_G} {tys : List (ClassId × FieldType)} {own : String} {cc : ByteArray} {nL : Nat} {pc : Nat} {ls : Array Slot} {rest : List Value} {P : Prop} [Decidable P] {off : Int} {tgt : Nat} (X : CX D tys own cc nL p m c s args) (hd : decode cc pc = .ok (.ifCond .ne off, 3)) (ht : (pc : Int) + off = (tgt : Int)) (kt : P → W p l e R s m args below meth c H locs cells slots Q (F0 m tgt ls rest)) (kf : ¬ P → W p l e R s m args below meth c H locs cells slots Q (F0 m (pc + 3) ls rest)) : W p l e R s m args below meth c H locs cells slots Q (F0 m pc ls (.int (iI (if P then 1 else 0)) :: rest)) := by
  refine sy_if_ne X hd ht (by split <;> exact ⟨by decide, by decide⟩) (fun h => kt ?_) (fun h => kf (fun g => ?_))
  · by_cases g : P
    · exact g
    · rw [if_neg g] at h; omega
  · rw [if_pos g] at h; omega
theorem mul_rng {x y a b : Int} (hx : -a ≤ x ∧ x ≤ a) (hy : -b ≤ y ∧ y ≤ b) : -(a * b) ≤ x * y ∧ x * y ≤ a * b := by
  have h1 : (x * y).natAbs = x.natAbs * y.natAbs := Int.natAbs_mul x y
  have h2 : x.natAbs * y.natAbs ≤ a.toNat * b.toNat := Nat.mul_le_mul (by omega) (by omega)
  have h3 : ((a.toNat * b.toNat : Nat) : Int) = a * b := by
    have e1 : ((a.toNat : Nat) : Int) = a := by omega
    have e2 : ((b.toNat : Nat) : Int) = b := by omega
    rw [Int.natCast_mul, e1, e2]
  rw [← h1] at h2
  have h4 : (((x * y).natAbs : Nat) : Int) ≤ a * b := by rw [← h3]; exact Int.ofNat_le.mpr h2
  omega
theorem mul99 {x y : Int} (hx : -99 ≤ x ∧ x ≤ 99) (hy : -99 ≤ y ∧ y ≤ 99) : -9801 ≤ x * y ∧ x * y ≤ 9801 := mul_rng hx hy
set_option maxRecDepth 100000 in
set_option maxHeartbeats 4000000 in
theorem c_M_bound (l : Launch) (D : va_G) (cs : Nat → ClassId) (ws : va_W) (x k : Int) (hx : R31 x) (hk : 0 ≤ k ∧ k ≤ 1000) : Ct (S := Unit) l D (tyL cs) y_M_bound b_M_bound 2 (some .boolean) (rm 1) [.int (iI x), .int (iI k)] (ws) (fun _ => True) (fun _ => some (.int (iI (if -k ≤ x ∧ x ≤ k then 1 else 0)))) (fun _ => ws) := by
  refine Ct.introZ (by decide) (Nat.le_of_ble_eq_true rfl) ?_
  intro p e s m below meth c A args Q H locs X hnm hw kr ls hl
  have X : CX D (tyL cs) R_M b_M_bound 2 p m c s args := X
  have hl : lv_has ls 2 [(0, .int (iI x)), (1, .int (iI k))] := hl
  refine sy_iload_n X d_M_bound_0 hl 0 rfl ?_
  refine sy_iload_n X d_M_bound_1 hl 1 rfl ?_
  refine sy_ineg X d_M_bound_2 ?_
  refine sy_icmp_lt (tgt := 15) X d_M_bound_3 (by decide) hx ⟨by omega, by omega⟩ (fun c1 => ?_) (fun c1 => ?_)
  · refine sy_iconst X d_M_bound_15 ?_
    exact kr () _ _ _ _ _ d_M_bound_16 hw trivial (by split <;> first | rfl | (exfalso; omega)) (by first | rfl | decide)
  · refine sy_iload_n X d_M_bound_6 hl 0 rfl ?_
    refine sy_iload_n X d_M_bound_7 hl 1 rfl ?_
    refine sy_icmp_gt (tgt := 15) X d_M_bound_8 (by decide) hx ⟨by omega, by omega⟩ (fun c2 => ?_) (fun c2 => ?_)
    · refine sy_iconst X d_M_bound_15 ?_
      exact kr () _ _ _ _ _ d_M_bound_16 hw trivial (by split <;> first | rfl | (exfalso; omega)) (by first | rfl | decide)
    · refine sy_iconst X d_M_bound_11 ?_
      refine sy_goto (tgt := 16) X d_M_bound_12 (by decide) ?_
      exact kr () _ _ _ _ _ d_M_bound_16 hw trivial (by split <;> first | rfl | (exfalso; omega)) (by first | rfl | decide)
set_option maxRecDepth 100000 in
set_option maxHeartbeats 4000000 in
theorem c_M_positive (l : Launch) (D : va_G) (cs : Nat → ClassId) (ws : va_W) (x y z : Int) (hx : -99 ≤ x ∧ x ≤ 99) (hy : -99 ≤ y ∧ y ≤ 99) (hz : -99 ≤ z ∧ z ≤ 99) : Ct (S := Unit) l D (tyL cs) y_M_positive b_M_positive 3 (some .boolean) (rm 1) [.int (iI x), .int (iI y), .int (iI z)] (ws) (fun _ => True) (fun _ => some (.int (iI (if 0 < x ∧ y * y < x * z then 1 else 0)))) (fun _ => ws) := by
  refine Ct.introZ (by decide) (Nat.le_of_ble_eq_true rfl) ?_
  intro p e s m below meth c A args Q H locs X hnm hw kr ls hl
  have X : CX D (tyL cs) R_M b_M_positive 3 p m c s args := X
  have hl : lv_has ls 3 [(0, .int (iI x)), (1, .int (iI y)), (2, .int (iI z))] := hl
  have hxz := mul99 hx hz
  have hyy := mul99 hy hy
  refine sy_iload_n X d_M_positive_0 hl 0 rfl ?_
  refine sy_if_le (tgt := 17) X d_M_positive_1 (by decide) ⟨by omega, by omega⟩ (fun c1 => ?_) (fun c1 => ?_)
  · refine sy_iconst X d_M_positive_17 ?_
    exact kr () _ _ _ _ _ d_M_positive_18 hw trivial (by split <;> first | rfl | (exfalso; omega)) (by first | rfl | decide)
  · refine sy_iload_n X d_M_positive_4 hl 0 rfl ?_
    refine sy_iload_n X d_M_positive_5 hl 2 rfl ?_
    refine sy_imul X d_M_positive_6 ?_
    refine sy_iload_n X d_M_positive_7 hl 1 rfl ?_
    refine sy_iload_n X d_M_positive_8 hl 1 rfl ?_
    refine sy_imul X d_M_positive_9 ?_
    refine sy_icmp_le (tgt := 17) X d_M_positive_10 (by decide) ⟨by omega, by omega⟩ ⟨by omega, by omega⟩ (fun c2 => ?_) (fun c2 => ?_)
    · refine sy_iconst X d_M_positive_17 ?_
      exact kr () _ _ _ _ _ d_M_positive_18 hw trivial (by split <;> first | rfl | (exfalso; omega)) (by first | rfl | decide)
    · refine sy_iconst X d_M_positive_13 ?_
      refine sy_goto (tgt := 18) X d_M_positive_14 (by decide) ?_
      exact kr () _ _ _ _ _ d_M_positive_18 hw trivial (by split <;> first | rfl | (exfalso; omega)) (by first | rfl | decide)
set_option maxRecDepth 100000 in
set_option maxHeartbeats 4000000 in
theorem c_E_within (l : Launch) (D : va_G) (cs : Nat → ClassId) (ws : va_W) (x k : Int) (hx : R31 x) (hk : 0 ≤ k ∧ k ≤ 1000) : Ct (S := Unit) l D (tyL cs) y_E_within b_E_within 2 (some .boolean) (rm 1) [.int (iI x), .int (iI k)] (ws) (fun _ => True) (fun _ => some (.int (iI (if -k ≤ x ∧ x ≤ k then 1 else 0)))) (fun _ => ws) := by
  refine Ct.introZ (by decide) (Nat.le_of_ble_eq_true rfl) ?_
  intro p e s m below meth c A args Q H locs X hnm hw kr ls hl
  have X : CX D (tyL cs) R_E b_E_within 2 p m c s args := X
  have hl : lv_has ls 2 [(0, .int (iI x)), (1, .int (iI k))] := hl
  refine sy_iload_n X d_E_within_0 hl 0 rfl ?_
  refine sy_iload_n X d_E_within_1 hl 1 rfl ?_
  refine sy_ineg X d_E_within_2 ?_
  refine sy_icmp_lt (tgt := 15) X d_E_within_3 (by decide) hx ⟨by omega, by omega⟩ (fun c1 => ?_) (fun c1 => ?_)
  · refine sy_iconst X d_E_within_15 ?_
    exact kr () _ _ _ _ _ d_E_within_16 hw trivial (by split <;> first | rfl | (exfalso; omega)) (by first | rfl | decide)
  · refine sy_iload_n X d_E_within_6 hl 0 rfl ?_
    refine sy_iload_n X d_E_within_7 hl 1 rfl ?_
    refine sy_icmp_gt (tgt := 15) X d_E_within_8 (by decide) hx ⟨by omega, by omega⟩ (fun c2 => ?_) (fun c2 => ?_)
    · refine sy_iconst X d_E_within_15 ?_
      exact kr () _ _ _ _ _ d_E_within_16 hw trivial (by split <;> first | rfl | (exfalso; omega)) (by first | rfl | decide)
    · refine sy_iconst X d_E_within_11 ?_
      refine sy_goto (tgt := 16) X d_E_within_12 (by decide) ?_
      exact kr () _ _ _ _ _ d_E_within_16 hw trivial (by split <;> first | rfl | (exfalso; omega)) (by first | rfl | decide)
set_option maxRecDepth 100000 in
set_option maxHeartbeats 4000000 in
theorem c_E_isPositive (l : Launch) (D : va_G) (cs : Nat → ClassId) (ws : va_W) (x y z : Int) (hx : -99 ≤ x ∧ x ≤ 99) (hy : -99 ≤ y ∧ y ≤ 99) (hz : -99 ≤ z ∧ z ≤ 99) : Ct (S := Unit) l D (tyL cs) y_E_isPositive b_E_isPositive 3 (some .boolean) (rm 1) [.int (iI x), .int (iI y), .int (iI z)] (ws) (fun _ => True) (fun _ => some (.int (iI (if 0 < x ∧ y * y < x * z then 1 else 0)))) (fun _ => ws) := by
  refine Ct.introZ (by decide) (Nat.le_of_ble_eq_true rfl) ?_
  intro p e s m below meth c A args Q H locs X hnm hw kr ls hl
  have X : CX D (tyL cs) R_E b_E_isPositive 3 p m c s args := X
  have hl : lv_has ls 3 [(0, .int (iI x)), (1, .int (iI y)), (2, .int (iI z))] := hl
  have hxz := mul99 hx hz
  have hyy := mul99 hy hy
  refine sy_iload_n X d_E_isPositive_0 hl 0 rfl ?_
  refine sy_if_le (tgt := 17) X d_E_isPositive_1 (by decide) ⟨by omega, by omega⟩ (fun c1 => ?_) (fun c1 => ?_)
  · refine sy_iconst X d_E_isPositive_17 ?_
    exact kr () _ _ _ _ _ d_E_isPositive_18 hw trivial (by split <;> first | rfl | (exfalso; omega)) (by first | rfl | decide)
  · refine sy_iload_n X d_E_isPositive_4 hl 0 rfl ?_
    refine sy_iload_n X d_E_isPositive_5 hl 2 rfl ?_
    refine sy_imul X d_E_isPositive_6 ?_
    refine sy_iload_n X d_E_isPositive_7 hl 1 rfl ?_
    refine sy_iload_n X d_E_isPositive_8 hl 1 rfl ?_
    refine sy_imul X d_E_isPositive_9 ?_
    refine sy_icmp_le (tgt := 17) X d_E_isPositive_10 (by decide) ⟨by omega, by omega⟩ ⟨by omega, by omega⟩ (fun c2 => ?_) (fun c2 => ?_)
    · refine sy_iconst X d_E_isPositive_17 ?_
      exact kr () _ _ _ _ _ d_E_isPositive_18 hw trivial (by split <;> first | rfl | (exfalso; omega)) (by first | rfl | decide)
    · refine sy_iconst X d_E_isPositive_13 ?_
      refine sy_goto (tgt := 18) X d_E_isPositive_14 (by decide) ?_
      exact kr () _ _ _ _ _ d_E_isPositive_18 hw trivial (by split <;> first | rfl | (exfalso; omega)) (by first | rfl | decide)
set_option maxRecDepth 100000 in
set_option maxHeartbeats 4000000 in
theorem c_M_begin (l : Launch) (D : va_G) (cs : Nat → ClassId) (ad : Nat → Nat) (M : Nat → Nat → Int) (N : Nat → Int) (a0 a1 b0 b1 b2 : Int) (h0 : R31 a0) (h1 : R31 a1) (h2 : R31 b0) (h3 : R31 b1) (h4 : R31 b2) (hR : Rep M N) : Ct (S := Nat → Nat → Int) l D (tyL cs) y_M_begin b_M_begin 6 none (rm 3) [.ref (ad 0), .int (iI a0), .int (iI a1), .int (iI b0), .int (iI b1), .int (iI b2)] (wM ad cs M) (fun M1 => ∃ N1, Rep M1 N1 ∧ (M1 0 0 = 0 ∧ M1 0 1 = 0 ∧ M1 0 2 = 0) ∧ (M1 6 = M 6 ∧ M1 7 = M 7) ∧ (N1 0 = a0 ∧ N1 1 = a1 ∧ N1 2 = b0 ∧ N1 3 = b1 ∧ N1 4 = b2 ∧ N1 5 = 1) ∧ ∀ i, i < 6 → N1 (24 + i) = N1 i) (fun _ => none) (fun M1 => wM ad cs M1) := by
  refine Ct.introV (by decide) (Nat.le_of_ble_eq_true rfl) (fun _ => rfl) ?_
  intro p e s m below meth c A args Q H locs X hnm hw kr ls hl
  have X : CX D (tyL cs) R_M b_M_begin 6 p m c s args := X
  have hl : lv_has ls 6 [(0, .ref (ad 0)), (1, .int (iI a0)), (2, .int (iI a1)), (3, .int (iI b0)), (4, .int (iI b1)), (5, .int (iI b2))] := hl
  refine sy_aload_n X d_M_begin_0 hl 0 rfl ?_
  refine sy_iconst X d_M_begin_1 ?_
  refine m_put X hw 0 (by decide) (tt_of k514 rfl) d_M_begin_2 (fun H locs hw => ?_)
  refine sy_aload_n X d_M_begin_5 hl 0 rfl ?_
  refine sy_iconst X d_M_begin_6 ?_
  refine m_put X hw 1 (by decide) (tt_of k515 rfl) d_M_begin_7 (fun H locs hw => ?_)
  refine sy_aload_n X d_M_begin_10 hl 0 rfl ?_
  refine sy_iconst X d_M_begin_11 ?_
  refine m_putz X hw (by decide) (tt_of k516 rfl) d_M_begin_12 (fun H locs hw => ?_)
  refine sy_aload_n X d_M_begin_15 hl 0 rfl ?_
  refine sy_iconst X d_M_begin_16 ?_
  refine sy_iload_n X d_M_begin_17 hl 1 rfl ?_
  obtain ⟨A0, eA0⟩ : ∃ g, g = up2 (up2 (up2 M 0 0 0) 0 1 0) 0 2 0 := ⟨_, rfl⟩
  rw [← eA0] at hw
  have hR0 : Rep A0 N := by rw [eA0]; exact hR
  refine call_Vv (Xs := []) (b := ad 0) (As := [.int (iI 0), .int (iI a0)]) (rest := []) X lk_M_101 (c_M_put l D cs ad A0 N 0 a0 (by decide) h0 hR0) ⟨by decide, by decide⟩ rcv_M hw rfl hl.1 (Nat.le_of_ble_eq_true rfl) d_M_begin_18 rfl rfl ⟨Nat.zero_le _, Nat.zero_le _⟩ (fun A1 H locs p1 hw => ?_)
  obtain ⟨B1, eB1⟩ : ∃ g, g = up1 N 0 a0 := ⟨_, rfl⟩
  rw [← eB1] at p1
  refine sy_aload_n X d_M_begin_21 hl 0 rfl ?_
  refine sy_iconst X d_M_begin_22 ?_
  refine sy_iload_n X d_M_begin_23 hl 2 rfl ?_
  refine call_Vv (Xs := []) (b := ad 0) (As := [.int (iI 1), .int (iI a1)]) (rest := []) X lk_M_101 (c_M_put l D cs ad A1 B1 1 a1 (by decide) h1 p1.1) ⟨by decide, by decide⟩ rcv_M hw rfl hl.1 (Nat.le_of_ble_eq_true rfl) d_M_begin_24 rfl rfl ⟨Nat.zero_le _, Nat.zero_le _⟩ (fun A2 H locs p2 hw => ?_)
  obtain ⟨B2, eB2⟩ : ∃ g, g = up1 B1 1 a1 := ⟨_, rfl⟩
  rw [← eB2] at p2
  refine sy_aload_n X d_M_begin_27 hl 0 rfl ?_
  refine sy_iconst X d_M_begin_28 ?_
  refine sy_iload_n X d_M_begin_29 hl 3 rfl ?_
  refine call_Vv (Xs := []) (b := ad 0) (As := [.int (iI 2), .int (iI b0)]) (rest := []) X lk_M_101 (c_M_put l D cs ad A2 B2 2 b0 (by decide) h2 p2.1) ⟨by decide, by decide⟩ rcv_M hw rfl hl.1 (Nat.le_of_ble_eq_true rfl) d_M_begin_30 rfl rfl ⟨Nat.zero_le _, Nat.zero_le _⟩ (fun A3 H locs p3 hw => ?_)
  obtain ⟨B3, eB3⟩ : ∃ g, g = up1 B2 2 b0 := ⟨_, rfl⟩
  rw [← eB3] at p3
  refine sy_aload_n X d_M_begin_33 hl 0 rfl ?_
  refine sy_iconst X d_M_begin_34 ?_
  refine sy_iload X d_M_begin_35 hl 4 rfl ?_
  refine call_Vv (Xs := []) (b := ad 0) (As := [.int (iI 3), .int (iI b1)]) (rest := []) X lk_M_101 (c_M_put l D cs ad A3 B3 3 b1 (by decide) h3 p3.1) ⟨by decide, by decide⟩ rcv_M hw rfl hl.1 (Nat.le_of_ble_eq_true rfl) d_M_begin_37 rfl rfl ⟨Nat.zero_le _, Nat.zero_le _⟩ (fun A4 H locs p4 hw => ?_)
  obtain ⟨B4, eB4⟩ : ∃ g, g = up1 B3 3 b1 := ⟨_, rfl⟩
  rw [← eB4] at p4
  refine sy_aload_n X d_M_begin_40 hl 0 rfl ?_
  refine sy_iconst X d_M_begin_41 ?_
  refine sy_iload X d_M_begin_42 hl 5 rfl ?_
  refine call_Vv (Xs := []) (b := ad 0) (As := [.int (iI 4), .int (iI b2)]) (rest := []) X lk_M_101 (c_M_put l D cs ad A4 B4 4 b2 (by decide) h4 p4.1) ⟨by decide, by decide⟩ rcv_M hw rfl hl.1 (Nat.le_of_ble_eq_true rfl) d_M_begin_44 rfl rfl ⟨Nat.zero_le _, Nat.zero_le _⟩ (fun A5 H locs p5 hw => ?_)
  obtain ⟨B5, eB5⟩ : ∃ g, g = up1 B4 4 b2 := ⟨_, rfl⟩
  rw [← eB5] at p5
  refine sy_aload_n X d_M_begin_47 hl 0 rfl ?_
  refine sy_iconst X d_M_begin_48 ?_
  refine sy_iconst X d_M_begin_49 ?_
  refine call_Vv (Xs := []) (b := ad 0) (As := [.int (iI 5), .int (iI 1)]) (rest := []) X lk_M_101 (c_M_put l D cs ad A5 B5 5 1 (by decide) ⟨by decide, by decide⟩ p5.1) ⟨by decide, by decide⟩ rcv_M hw rfl hl.1 (Nat.le_of_ble_eq_true rfl) d_M_begin_50 rfl rfl ⟨Nat.zero_le _, Nat.zero_le _⟩ (fun A6 H locs p6 hw => ?_)
  obtain ⟨B6, eB6⟩ : ∃ g, g = up1 B5 5 1 := ⟨_, rfl⟩
  rw [← eB6] at p6
  refine sy_aload_n X d_M_begin_53 hl 0 rfl ?_
  refine sy_bipush X d_M_begin_54 (by decide) ?_
  refine sy_iconst X d_M_begin_56 ?_
  refine call_Vv (Xs := []) (b := ad 0) (As := [.int (iI 24), .int (iI 0)]) (rest := []) X lk_M_104 (c_M_keep l D cs ad A6 B6 24 0 (by decide) (by decide) (by decide) p6.1) ⟨by decide, by decide⟩ rcv_M hw rfl hl.1 (Nat.le_of_ble_eq_true rfl) d_M_begin_57 rfl rfl ⟨Nat.zero_le _, Nat.zero_le _⟩ (fun A7 H locs p7 hw => ?_)
  obtain ⟨N1, g1, g2, g3⟩ := p7
  have hS : Sm A0 A7 := (((((p1.2.tr p2.2).tr p3.2).tr p4.2).tr p5.2).tr p6.2).tr g2
  obtain ⟨s0, s6, s7, s8⟩ := hS
  refine kr _ _ _ _ _ d_M_begin_60 hw ⟨N1, g1, ⟨?_, ?_, ?_⟩, ⟨?_, ?_⟩, ⟨?_, ?_, ?_, ?_, ?_, ?_⟩, fun i hi => ?_⟩
  · rw [s0, eA0]; rfl
  · rw [s0, eA0]; rfl
  · rw [s0, eA0]; rfl
  · rw [s6, eA0]; rfl
  · rw [s7, eA0]; rfl
  · rw [g3, if_neg (by decide)]; simp [eB6, eB5, eB4, eB3, eB2, eB1, up1]
  · rw [g3, if_neg (by decide)]; simp [eB6, eB5, eB4, eB3, eB2, eB1, up1]
  · rw [g3, if_neg (by decide)]; simp [eB6, eB5, eB4, eB3, eB2, eB1, up1]
  · rw [g3, if_neg (by decide)]; simp [eB6, eB5, eB4, eB3, eB2, eB1, up1]
  · rw [g3, if_neg (by decide)]; simp [eB6, eB5, eB4, eB3, eB2, eB1, up1]
  · rw [g3, if_neg (by decide)]; simp [eB6, eB5, eB4, eB3, eB2, eB1, up1]
  · rw [g3, if_pos (by omega), g3 i, if_neg (by omega)]; congr 1; omega
def okI (a0 a1 b0 b1 b2 : Int) : Prop := (-99 ≤ a0 ∧ a0 ≤ 99) ∧ (-99 ≤ a1 ∧ a1 ≤ 99) ∧ (-99 ≤ b0 ∧ b0 ≤ 99) ∧ (-99 ≤ b1 ∧ b1 ≤ 99) ∧ (-99 ≤ b2 ∧ b2 ≤ 99)
def okC (b0 b1 b2 : Int) : Prop := (-99 ≤ b0 ∧ b0 ≤ 99) ∧ (-99 ≤ b1 ∧ b1 ≤ 99) ∧ (-99 ≤ b2 ∧ b2 ≤ 99)
def Pd (x y z : Int) : Prop := 0 < x ∧ y * y < x * z
def Begun (M M1 : Nat → Nat → Int) (a0 a1 b0 b1 b2 : Int) : Prop := ∃ N1, Rep M1 N1 ∧ (M1 0 0 = 0 ∧ M1 0 1 = 0 ∧ M1 0 2 = 0) ∧ (M1 6 = M 6 ∧ M1 7 = M 7) ∧ (N1 0 = a0 ∧ N1 1 = a1 ∧ N1 2 = b0 ∧ N1 3 = b1 ∧ N1 4 = b2 ∧ N1 5 = 1) ∧ ∀ i, i < 6 → N1 (24 + i) = N1 i
set_option maxRecDepth 100000 in
set_option maxHeartbeats 4000000 in
theorem c_M_initial (l : Launch) (D : va_G) (cs : Nat → ClassId) (ad : Nat → Nat) (M : Nat → Nat → Int) (N : Nat → Int) (a0 a1 b0 b1 b2 : Int) (h0 : R31 a0) (h1 : R31 a1) (h2 : R31 b0) (h3 : R31 b1) (h4 : R31 b2) (hR : Rep M N) : Ct (S := Int × (Nat → Nat → Int)) l D (tyL cs) y_M_initial b_M_initial 6 (some .int) (rm 4) [.ref (ad 0), .int (iI a0), .int (iI a1), .int (iI b0), .int (iI b1), .int (iI b2)] (wM ad cs M) (fun u => (¬ okI a0 a1 b0 b1 b2 ∧ u = (-3, M)) ∨ (okI a0 a1 b0 b1 b2 ∧ ¬ Pd b0 b1 b2 ∧ u = (-4, M)) ∨ (okI a0 a1 b0 b1 b2 ∧ Pd b0 b1 b2 ∧ u.1 = 0 ∧ Begun M u.2 a0 a1 b0 b1 b2)) (fun u => some (.int (iI u.1))) (fun u => wM ad cs u.2) := by
  refine Ct.introI (by decide) (Nat.le_of_ble_eq_true rfl) ?_
  intro p e s m below meth c A args Q H locs X hnm hw kr ls hl
  have X : CX D (tyL cs) R_M b_M_initial 6 p m c s args := X
  have hl : lv_has ls 6 [(0, .ref (ad 0)), (1, .int (iI a0)), (2, .int (iI a1)), (3, .int (iI b0)), (4, .int (iI b1)), (5, .int (iI b2))] := hl
  refine sy_iload_n X d_M_initial_0 hl 1 rfl ?_
  refine sy_bipush X d_M_initial_1 (by decide) ?_
  refine call_Si (Xs := []) (As := [.int (iI a0), .int (iI 99)]) (rest := []) X lk_M_107 (c_M_bound l D cs (wM ad cs M) a0 99 h0 (by decide)) ⟨by decide, by decide⟩ hw rfl hl.1 (Nat.le_of_ble_eq_true rfl) d_M_initial_3 rfl rfl ⟨Nat.zero_le _, Nat.zero_le _⟩ (fun _ H locs _ hw => ?_)
  refine sy_ifb_eq (tgt := 47) X d_M_initial_6 (by decide) (fun c1 => ?_) (fun c1 => ?_)
  · refine sy_bipush X d_M_initial_47 (by decide) ?_
    exact kr (-3, M) _ _ _ _ _ d_M_initial_49 hw (Or.inl ⟨fun h => by simp only [okI] at h; omega, rfl⟩) rfl
  · refine sy_iload_n X d_M_initial_9 hl 2 rfl ?_
    refine sy_bipush X d_M_initial_10 (by decide) ?_
    refine call_Si (Xs := []) (As := [.int (iI a1), .int (iI 99)]) (rest := []) X lk_M_107 (c_M_bound l D cs (wM ad cs M) a1 99 h1 (by decide)) ⟨by decide, by decide⟩ hw rfl hl.1 (Nat.le_of_ble_eq_true rfl) d_M_initial_12 rfl rfl ⟨Nat.zero_le _, Nat.zero_le _⟩ (fun _ H locs _ hw => ?_)
    refine sy_ifb_eq (tgt := 47) X d_M_initial_15 (by decide) (fun c2 => ?_) (fun c2 => ?_)
    · refine sy_bipush X d_M_initial_47 (by decide) ?_
      exact kr (-3, M) _ _ _ _ _ d_M_initial_49 hw (Or.inl ⟨fun h => by simp only [okI] at h; omega, rfl⟩) rfl
    · refine sy_iload_n X d_M_initial_18 hl 3 rfl ?_
      refine sy_bipush X d_M_initial_19 (by decide) ?_
      refine call_Si (Xs := []) (As := [.int (iI b0), .int (iI 99)]) (rest := []) X lk_M_107 (c_M_bound l D cs (wM ad cs M) b0 99 h2 (by decide)) ⟨by decide, by decide⟩ hw rfl hl.1 (Nat.le_of_ble_eq_true rfl) d_M_initial_21 rfl rfl ⟨Nat.zero_le _, Nat.zero_le _⟩ (fun _ H locs _ hw => ?_)
      refine sy_ifb_eq (tgt := 47) X d_M_initial_24 (by decide) (fun c3 => ?_) (fun c3 => ?_)
      · refine sy_bipush X d_M_initial_47 (by decide) ?_
        exact kr (-3, M) _ _ _ _ _ d_M_initial_49 hw (Or.inl ⟨fun h => by simp only [okI] at h; omega, rfl⟩) rfl
      · refine sy_iload X d_M_initial_27 hl 4 rfl ?_
        refine sy_bipush X d_M_initial_29 (by decide) ?_
        refine call_Si (Xs := []) (As := [.int (iI b1), .int (iI 99)]) (rest := []) X lk_M_107 (c_M_bound l D cs (wM ad cs M) b1 99 h3 (by decide)) ⟨by decide, by decide⟩ hw rfl hl.1 (Nat.le_of_ble_eq_true rfl) d_M_initial_31 rfl rfl ⟨Nat.zero_le _, Nat.zero_le _⟩ (fun _ H locs _ hw => ?_)
        refine sy_ifb_eq (tgt := 47) X d_M_initial_34 (by decide) (fun c4 => ?_) (fun c4 => ?_)
        · refine sy_bipush X d_M_initial_47 (by decide) ?_
          exact kr (-3, M) _ _ _ _ _ d_M_initial_49 hw (Or.inl ⟨fun h => by simp only [okI] at h; omega, rfl⟩) rfl
        · refine sy_iload X d_M_initial_37 hl 5 rfl ?_
          refine sy_bipush X d_M_initial_39 (by decide) ?_
          refine call_Si (Xs := []) (As := [.int (iI b2), .int (iI 99)]) (rest := []) X lk_M_107 (c_M_bound l D cs (wM ad cs M) b2 99 h4 (by decide)) ⟨by decide, by decide⟩ hw rfl hl.1 (Nat.le_of_ble_eq_true rfl) d_M_initial_41 rfl rfl ⟨Nat.zero_le _, Nat.zero_le _⟩ (fun _ H locs _ hw => ?_)
          refine sy_ifb_ne (tgt := 50) X d_M_initial_44 (by decide) (fun c5 => ?_) (fun c5 => ?_)
          · refine sy_iload_n X d_M_initial_50 hl 3 rfl ?_
            refine sy_iload X d_M_initial_51 hl 4 rfl ?_
            refine sy_iload X d_M_initial_53 hl 5 rfl ?_
            refine call_Si (Xs := []) (As := [.int (iI b0), .int (iI b1), .int (iI b2)]) (rest := []) X lk_M_110 (c_M_positive l D cs (wM ad cs M) b0 b1 b2 (by omega) (by omega) (by omega)) ⟨by decide, by decide⟩ hw rfl hl.1 (Nat.le_of_ble_eq_true rfl) d_M_initial_55 rfl rfl ⟨Nat.zero_le _, Nat.zero_le _⟩ (fun _ H locs _ hw => ?_)
            refine sy_ifb_ne (tgt := 64) X d_M_initial_58 (by decide) (fun c6 => ?_) (fun c6 => ?_)
            · refine sy_aload_n X d_M_initial_64 hl 0 rfl ?_
              refine sy_iload_n X d_M_initial_65 hl 1 rfl ?_
              refine sy_iload_n X d_M_initial_66 hl 2 rfl ?_
              refine sy_iload_n X d_M_initial_67 hl 3 rfl ?_
              refine sy_iload X d_M_initial_68 hl 4 rfl ?_
              refine sy_iload X d_M_initial_70 hl 5 rfl ?_
              refine call_Vv (Xs := []) (b := ad 0) (As := [.int (iI a0), .int (iI a1), .int (iI b0), .int (iI b1), .int (iI b2)]) (rest := []) X lk_M_34 (c_M_begin l D cs ad M N a0 a1 b0 b1 b2 h0 h1 h2 h3 h4 hR) ⟨by decide, by decide⟩ rcv_M hw rfl hl.1 (Nat.le_of_ble_eq_true rfl) d_M_initial_72 rfl rfl ⟨Nat.zero_le _, Nat.zero_le _⟩ (fun M1 H locs hp hw => ?_)
              refine sy_iconst X d_M_initial_75 ?_
              exact kr (0, M1) _ _ _ _ _ d_M_initial_76 hw (Or.inr (Or.inr ⟨by simp only [okI]; omega, by assumption, rfl, hp⟩)) rfl
            · refine sy_bipush X d_M_initial_61 (by decide) ?_
              exact kr (-4, M) _ _ _ _ _ d_M_initial_63 hw (Or.inr (Or.inl ⟨by simp only [okI]; omega, by assumption, rfl⟩)) rfl
          · refine sy_bipush X d_M_initial_47 (by decide) ?_
            exact kr (-3, M) _ _ _ _ _ d_M_initial_49 hw (Or.inl ⟨fun h => by simp only [okI] at h; omega, rfl⟩) rfl
def okS (f0 f1 f2 f3 : Int) : Prop := (-3 ≤ f0 ∧ f0 ≤ 3) ∧ (-3 ≤ f1 ∧ f1 ≤ 3) ∧ (-3 ≤ f2 ∧ f2 ≤ 3) ∧ (-3 ≤ f3 ∧ f3 ≤ 3)
set_option maxRecDepth 100000 in
set_option maxHeartbeats 4000000 in
theorem c_M_step (l : Launch) (D : va_G) (cs : Nat → ClassId) (ad : Nat → Nat) (M : Nat → Nat → Int) (N : Nat → Int) (f0 f1 f2 f3 : Int) (h0 : R31 f0) (h1 : R31 f1) (h2 : R31 f2) (h3 : R31 f3) : Ct (S := Int × (Nat → Nat → Int)) l D (tyL cs) y_M_step b_M_step 5 (some .boolean) (rm 2) [.ref (ad 0), .int (iI f0), .int (iI f1), .int (iI f2), .int (iI f3)] (wM ad cs M) (fun u => (¬ okS f0 f1 f2 f3 ∧ u = (0, M)) ∨ (okS f0 f1 f2 f3 ∧ u = (1, up2 (up2 (up2 (up2 M 6 0 f0) 6 1 f1) 6 2 f2) 6 3 f3))) (fun u => some (.int (iI u.1))) (fun u => wM ad cs u.2) := by
  refine Ct.introZ (by decide) (Nat.le_of_ble_eq_true rfl) ?_
  intro p e s m below meth c A args Q H locs X hnm hw kr ls hl
  have X : CX D (tyL cs) R_M b_M_step 5 p m c s args := X
  have hl : lv_has ls 5 [(0, .ref (ad 0)), (1, .int (iI f0)), (2, .int (iI f1)), (3, .int (iI f2)), (4, .int (iI f3))] := hl
  refine sy_iload_n X d_M_step_0 hl 1 rfl ?_
  refine sy_iconst X d_M_step_1 ?_
  refine call_Si (Xs := []) (As := [.int (iI f0), .int (iI 3)]) (rest := []) X lk_M_107 (c_M_bound l D cs (wM ad cs M) f0 3 h0 (by decide)) ⟨by decide, by decide⟩ hw rfl hl.1 (Nat.le_of_ble_eq_true rfl) d_M_step_2 rfl rfl ⟨Nat.zero_le _, Nat.zero_le _⟩ (fun _ H locs _ hw => ?_)
  refine sy_ifb_eq (tgt := 33) X d_M_step_5 (by decide) (fun c1 => ?_) (fun c1 => ?_)
  · refine sy_iconst X d_M_step_33 ?_
    exact kr (0, M) _ _ _ _ _ d_M_step_34 hw (Or.inl ⟨fun h => by simp only [okS] at h; omega, rfl⟩) rfl (by decide)
  · refine sy_iload_n X d_M_step_8 hl 2 rfl ?_
    refine sy_iconst X d_M_step_9 ?_
    refine call_Si (Xs := []) (As := [.int (iI f1), .int (iI 3)]) (rest := []) X lk_M_107 (c_M_bound l D cs (wM ad cs M) f1 3 h1 (by decide)) ⟨by decide, by decide⟩ hw rfl hl.1 (Nat.le_of_ble_eq_true rfl) d_M_step_10 rfl rfl ⟨Nat.zero_le _, Nat.zero_le _⟩ (fun _ H locs _ hw => ?_)
    refine sy_ifb_eq (tgt := 33) X d_M_step_13 (by decide) (fun c2 => ?_) (fun c2 => ?_)
    · refine sy_iconst X d_M_step_33 ?_
      exact kr (0, M) _ _ _ _ _ d_M_step_34 hw (Or.inl ⟨fun h => by simp only [okS] at h; omega, rfl⟩) rfl (by decide)
    · refine sy_iload_n X d_M_step_16 hl 3 rfl ?_
      refine sy_iconst X d_M_step_17 ?_
      refine call_Si (Xs := []) (As := [.int (iI f2), .int (iI 3)]) (rest := []) X lk_M_107 (c_M_bound l D cs (wM ad cs M) f2 3 h2 (by decide)) ⟨by decide, by decide⟩ hw rfl hl.1 (Nat.le_of_ble_eq_true rfl) d_M_step_18 rfl rfl ⟨Nat.zero_le _, Nat.zero_le _⟩ (fun _ H locs _ hw => ?_)
      refine sy_ifb_eq (tgt := 33) X d_M_step_21 (by decide) (fun c3 => ?_) (fun c3 => ?_)
      · refine sy_iconst X d_M_step_33 ?_
        exact kr (0, M) _ _ _ _ _ d_M_step_34 hw (Or.inl ⟨fun h => by simp only [okS] at h; omega, rfl⟩) rfl (by decide)
      · refine sy_iload X d_M_step_24 hl 4 rfl ?_
        refine sy_iconst X d_M_step_26 ?_
        refine call_Si (Xs := []) (As := [.int (iI f3), .int (iI 3)]) (rest := []) X lk_M_107 (c_M_bound l D cs (wM ad cs M) f3 3 h3 (by decide)) ⟨by decide, by decide⟩ hw rfl hl.1 (Nat.le_of_ble_eq_true rfl) d_M_step_27 rfl rfl ⟨Nat.zero_le _, Nat.zero_le _⟩ (fun _ H locs _ hw => ?_)
        refine sy_ifb_ne (tgt := 35) X d_M_step_30 (by decide) (fun c4 => ?_) (fun c4 => ?_)
        · refine sy_aload_n X d_M_step_35 hl 0 rfl ?_
          refine m_get X hw 8 (by decide) rfl (tt_of k517 rfl) d_M_step_36 ?_
          refine sy_iconst X d_M_step_39 ?_
          refine sy_iload_n X d_M_step_40 hl 1 rfl ?_
          refine m_ast X hw 6 0 (by decide) (by omega) (by simp only [szM]; omega) d_M_step_41 (fun H locs hw => ?_)
          refine sy_aload_n X d_M_step_42 hl 0 rfl ?_
          refine m_get X hw 8 (by decide) rfl (tt_of k517 rfl) d_M_step_43 ?_
          refine sy_iconst X d_M_step_46 ?_
          refine sy_iload_n X d_M_step_47 hl 2 rfl ?_
          refine m_ast X hw 6 1 (by decide) (by omega) (by simp only [szM]; omega) d_M_step_48 (fun H locs hw => ?_)
          refine sy_aload_n X d_M_step_49 hl 0 rfl ?_
          refine m_get X hw 8 (by decide) rfl (tt_of k517 rfl) d_M_step_50 ?_
          refine sy_iconst X d_M_step_53 ?_
          refine sy_iload_n X d_M_step_54 hl 3 rfl ?_
          refine m_ast X hw 6 2 (by decide) (by omega) (by simp only [szM]; omega) d_M_step_55 (fun H locs hw => ?_)
          refine sy_aload_n X d_M_step_56 hl 0 rfl ?_
          refine m_get X hw 8 (by decide) rfl (tt_of k517 rfl) d_M_step_57 ?_
          refine sy_iconst X d_M_step_60 ?_
          refine sy_iload X d_M_step_61 hl 4 rfl ?_
          refine m_ast X hw 6 3 (by decide) (by omega) (by simp only [szM]; omega) d_M_step_63 (fun H locs hw => ?_)
          refine sy_iconst X d_M_step_64 ?_
          exact kr (1, _) _ _ _ _ _ d_M_step_65 hw (Or.inr ⟨by simp only [okS]; omega, rfl⟩) rfl (by decide)
        · refine sy_iconst X d_M_step_33 ?_
          exact kr (0, M) _ _ _ _ _ d_M_step_34 hw (Or.inl ⟨fun h => by simp only [okS] at h; omega, rfl⟩) rfl (by decide)
set_option maxRecDepth 100000 in
set_option maxHeartbeats 4000000 in
theorem c_M_noise (l : Launch) (D : va_G) (cs : Nat → ClassId) (ad : Nat → Nat) (M : Nat → Nat → Int) (N : Nat → Int) (b0 b1 b2 : Int) (h0 : R31 b0) (h1 : R31 b1) (h2 : R31 b2) : Ct (S := Int × (Nat → Nat → Int)) l D (tyL cs) y_M_noise b_M_noise 4 (some .int) (rm 2) [.ref (ad 0), .int (iI b0), .int (iI b1), .int (iI b2)] (wM ad cs M) (fun u => (¬ okC b0 b1 b2 ∧ u = (-3, M)) ∨ (okC b0 b1 b2 ∧ ¬ Pd b0 b1 b2 ∧ u = (-4, M)) ∨ (okC b0 b1 b2 ∧ Pd b0 b1 b2 ∧ u = (0, up2 (up2 (up2 M 7 0 b0) 7 1 b1) 7 2 b2))) (fun u => some (.int (iI u.1))) (fun u => wM ad cs u.2) := by
  refine Ct.introI (by decide) (Nat.le_of_ble_eq_true rfl) ?_
  intro p e s m below meth c A args Q H locs X hnm hw kr ls hl
  have X : CX D (tyL cs) R_M b_M_noise 4 p m c s args := X
  have hl : lv_has ls 4 [(0, .ref (ad 0)), (1, .int (iI b0)), (2, .int (iI b1)), (3, .int (iI b2))] := hl
  refine sy_iload_n X d_M_noise_0 hl 1 rfl ?_
  refine sy_bipush X d_M_noise_1 (by decide) ?_
  refine call_Si (Xs := []) (As := [.int (iI b0), .int (iI 99)]) (rest := []) X lk_M_107 (c_M_bound l D cs (wM ad cs M) b0 99 h0 (by decide)) ⟨by decide, by decide⟩ hw rfl hl.1 (Nat.le_of_ble_eq_true rfl) d_M_noise_3 rfl rfl ⟨Nat.zero_le _, Nat.zero_le _⟩ (fun _ H locs _ hw => ?_)
  refine sy_ifb_eq (tgt := 27) X d_M_noise_6 (by decide) (fun c1 => ?_) (fun c1 => ?_)
  · refine sy_bipush X d_M_noise_27 (by decide) ?_
    exact kr (-3, M) _ _ _ _ _ d_M_noise_29 hw (Or.inl ⟨fun h => by simp only [okC] at h; omega, rfl⟩) rfl
  · refine sy_iload_n X d_M_noise_9 hl 2 rfl ?_
    refine sy_bipush X d_M_noise_10 (by decide) ?_
    refine call_Si (Xs := []) (As := [.int (iI b1), .int (iI 99)]) (rest := []) X lk_M_107 (c_M_bound l D cs (wM ad cs M) b1 99 h1 (by decide)) ⟨by decide, by decide⟩ hw rfl hl.1 (Nat.le_of_ble_eq_true rfl) d_M_noise_12 rfl rfl ⟨Nat.zero_le _, Nat.zero_le _⟩ (fun _ H locs _ hw => ?_)
    refine sy_ifb_eq (tgt := 27) X d_M_noise_15 (by decide) (fun c2 => ?_) (fun c2 => ?_)
    · refine sy_bipush X d_M_noise_27 (by decide) ?_
      exact kr (-3, M) _ _ _ _ _ d_M_noise_29 hw (Or.inl ⟨fun h => by simp only [okC] at h; omega, rfl⟩) rfl
    · refine sy_iload_n X d_M_noise_18 hl 3 rfl ?_
      refine sy_bipush X d_M_noise_19 (by decide) ?_
      refine call_Si (Xs := []) (As := [.int (iI b2), .int (iI 99)]) (rest := []) X lk_M_107 (c_M_bound l D cs (wM ad cs M) b2 99 h2 (by decide)) ⟨by decide, by decide⟩ hw rfl hl.1 (Nat.le_of_ble_eq_true rfl) d_M_noise_21 rfl rfl ⟨Nat.zero_le _, Nat.zero_le _⟩ (fun _ H locs _ hw => ?_)
      refine sy_ifb_ne (tgt := 30) X d_M_noise_24 (by decide) (fun c3 => ?_) (fun c3 => ?_)
      · refine sy_iload_n X d_M_noise_30 hl 1 rfl ?_
        refine sy_iload_n X d_M_noise_31 hl 2 rfl ?_
        refine sy_iload_n X d_M_noise_32 hl 3 rfl ?_
        refine call_Si (Xs := []) (As := [.int (iI b0), .int (iI b1), .int (iI b2)]) (rest := []) X lk_M_110 (c_M_positive l D cs (wM ad cs M) b0 b1 b2 (by omega) (by omega) (by omega)) ⟨by decide, by decide⟩ hw rfl hl.1 (Nat.le_of_ble_eq_true rfl) d_M_noise_33 rfl rfl ⟨Nat.zero_le _, Nat.zero_le _⟩ (fun _ H locs _ hw => ?_)
        refine sy_ifb_ne (tgt := 42) X d_M_noise_36 (by decide) (fun c4 => ?_) (fun c4 => ?_)
        · refine sy_aload_n X d_M_noise_42 hl 0 rfl ?_
          refine m_get X hw 9 (by decide) rfl (tt_of k518 rfl) d_M_noise_43 ?_
          refine sy_iconst X d_M_noise_46 ?_
          refine sy_iload_n X d_M_noise_47 hl 1 rfl ?_
          refine m_ast X hw 7 0 (by decide) (by omega) (by simp only [szM]; omega) d_M_noise_48 (fun H locs hw => ?_)
          refine sy_aload_n X d_M_noise_49 hl 0 rfl ?_
          refine m_get X hw 9 (by decide) rfl (tt_of k518 rfl) d_M_noise_50 ?_
          refine sy_iconst X d_M_noise_53 ?_
          refine sy_iload_n X d_M_noise_54 hl 2 rfl ?_
          refine m_ast X hw 7 1 (by decide) (by omega) (by simp only [szM]; omega) d_M_noise_55 (fun H locs hw => ?_)
          refine sy_aload_n X d_M_noise_56 hl 0 rfl ?_
          refine m_get X hw 9 (by decide) rfl (tt_of k518 rfl) d_M_noise_57 ?_
          refine sy_iconst X d_M_noise_60 ?_
          refine sy_iload_n X d_M_noise_61 hl 3 rfl ?_
          refine m_ast X hw 7 2 (by decide) (by omega) (by simp only [szM]; omega) d_M_noise_62 (fun H locs hw => ?_)
          refine sy_iconst X d_M_noise_63 ?_
          exact kr (0, _) _ _ _ _ _ d_M_noise_64 hw (Or.inr (Or.inr ⟨by simp only [okC]; omega, by assumption, rfl⟩)) rfl
        · refine sy_bipush X d_M_noise_39 (by decide) ?_
          exact kr (-4, M) _ _ _ _ _ d_M_noise_41 hw (Or.inr (Or.inl ⟨by simp only [okC]; omega, by assumption, rfl⟩)) rfl
      · refine sy_bipush X d_M_noise_27 (by decide) ?_
        exact kr (-3, M) _ _ _ _ _ d_M_noise_29 hw (Or.inl ⟨fun h => by simp only [okC] at h; omega, rfl⟩) rfl
set_option maxRecDepth 100000 in
set_option maxHeartbeats 4000000 in
theorem c_M_time (l : Launch) (D : va_G) (cs : Nat → ClassId) (ad : Nat → Nat) (M : Nat → Nat → Int) (N : Nat → Int)  : Ct (S := Unit) l D (tyL cs) y_M_time b_M_time 1 (some .int) (rm 1) [.ref (ad 0)] (wM ad cs M) (fun _ => True) (fun _ => some (.int (iI (M 0 0)))) (fun _ => wM ad cs M) := by
  refine Ct.introI (by decide) (Nat.le_of_ble_eq_true rfl) ?_
  intro p e s m below meth c A args Q H locs X hnm hw kr ls hl
  have X : CX D (tyL cs) R_M b_M_time 1 p m c s args := X
  have hl : lv_has ls 1 [(0, .ref (ad 0))] := hl
  refine sy_aload_n X d_M_time_0 hl 0 rfl ?_
  refine m_get X hw 5 (by decide) rfl (tt_of k514 rfl) d_M_time_1 ?_
  exact kr () _ _ _ _ _ d_M_time_4 hw trivial rfl
set_option maxRecDepth 100000 in
set_option maxHeartbeats 4000000 in
theorem c_M_observations (l : Launch) (D : va_G) (cs : Nat → ClassId) (ad : Nat → Nat) (M : Nat → Nat → Int) (N : Nat → Int)  : Ct (S := Unit) l D (tyL cs) y_M_observations b_M_observations 1 (some .int) (rm 1) [.ref (ad 0)] (wM ad cs M) (fun _ => True) (fun _ => some (.int (iI (M 0 1)))) (fun _ => wM ad cs M) := by
  refine Ct.introI (by decide) (Nat.le_of_ble_eq_true rfl) ?_
  intro p e s m below meth c A args Q H locs X hnm hw kr ls hl
  have X : CX D (tyL cs) R_M b_M_observations 1 p m c s args := X
  have hl : lv_has ls 1 [(0, .ref (ad 0))] := hl
  refine sy_aload_n X d_M_observations_0 hl 0 rfl ?_
  refine m_get X hw 6 (by decide) rfl (tt_of k515 rfl) d_M_observations_1 ?_
  exact kr () _ _ _ _ _ d_M_observations_4 hw trivial rfl
end
section
/-! how large numbers get -/
def Bn (x : Int) (b : Nat) : Prop := x.natAbs ≤ 2 ^ b
theorem Bn.mul {x y : Int} {a b : Nat} (h : Bn x a) (g : Bn y b) : Bn (x * y) (a + b) := by
  unfold Bn at *; rw [Int.natAbs_mul, Nat.pow_add]; exact Nat.mul_le_mul h g
theorem Bn.up {x : Int} {a b : Nat} (h : Bn x a) (g : a ≤ b) : Bn x b := Nat.le_trans h (Nat.pow_le_pow_right (by decide) g)
theorem Bn.add {x y : Int} {a b : Nat} (h : Bn x a) (g : Bn y b) : Bn (x + y) (max a b + 1) := by
  have h1 := h.up (Nat.le_max_left a b)
  have h2 := g.up (Nat.le_max_right a b)
  unfold Bn at *
  rw [Nat.pow_succ]
  have := Int.natAbs_add_le x y
  omega
theorem Bn.neg {x : Int} {a : Nat} (h : Bn x a) : Bn (-x) a := by unfold Bn at *; rw [Int.natAbs_neg]; exact h
theorem Bn.sg {x s : Int} {a : Nat} (h : Bn x a) (hs : s = 1 ∨ s = -1) : Bn (s * x) a := by
  rcases hs with e | e <;> subst e
  · rw [Int.one_mul]; exact h
  · rw [Int.neg_mul, Int.one_mul]; exact h.neg
theorem Bn.fin {x : Int} {b : Nat} (h : Bn x b) (hb : b < 1760) : (x.natAbs : Int) < 65536 ^ 110 := by
  have h1 : x.natAbs < 65536 ^ 110 := by
    have e : (65536 : Nat) ^ 110 = 2 ^ 1760 := by decide +kernel
    rw [e]
    exact Nat.lt_of_le_of_lt h (Nat.pow_lt_pow_right (by decide) hb)
  have h2 : ((x.natAbs : Nat) : Int) < ((65536 ^ 110 : Nat) : Int) := Int.ofNat_lt.mpr h1
  rw [Int.natCast_pow] at h2
  exact h2
theorem Bn.of {x : Int} {k b : Nat} (h : -(k : Int) ≤ x ∧ x ≤ k) (hk : k ≤ 2 ^ b) : Bn x b := by unfold Bn; omega
theorem sy_idivK {p : Program} {l : Launch} {e : Env} {R : Room} {s : State} {m : MethodId} {args : Array Value} {below : List Frame} {meth : Method} {c0 : Code} {H : Heap} {locs : List Loc} {cells slots : Nat} {Q : State → Prop} {D : va_G} {tys : List (ClassId × FieldType)} {own : String} {cc : ByteArray} {nL : Nat} {pc : Nat} {ls : Array Slot} {rest : List Value} {a b c : Int} (X : CX D tys own cc nL p m c0 s args) (hd : decode cc pc = .ok (.idiv, 1)) (h : (¬ iI b = 0) ∧ iI a / iI b = iI c) (k : W p l e R s m args below meth c0 H locs cells slots Q (F0 m (pc + 1) ls (.int (iI c) :: rest))) : W p l e R s m args below meth c0 H locs cells slots Q (F0 m pc ls (.int (iI b) :: .int (iI a) :: rest)) :=
  lv_idiv X.1.1 X.1.2.1 hd h.1 (by rw [h.2]; exact k)
end
section
set_option maxRecDepth 100000 in
set_option maxHeartbeats 4000000 in
theorem c_M_pair (l : Launch) (D : va_G) (cs : Nat → ClassId) (ad : Nat → Nat) (M : Nat → Nat → Int) (N : Nat → Int) (z x : Nat) (a : Int) (y : Nat) (b : Int) (t : Nat) (B1 B2 : Nat) (hz : z < 120) (hx : x < 120) (hy : y < 120) (ht : t < 120) (hzt : z ≠ t) (hzy : z ≠ y) (ha : R31 a) (hb : R31 b) (hR : Rep M N) (g1 : Bn (N x * a) B1) (g2 : Bn (N y * b) B2) (k1 : B1 < 1700) (k2 : B2 < 1700) : Ct (S := Nat → Nat → Int) l D (tyL cs) y_M_pair b_M_pair 7 none (rm 5) [.ref (ad 0), .int (iI ((z : Nat) : Int)), .int (iI ((x : Nat) : Int)), .int (iI a), .int (iI ((y : Nat) : Int)), .int (iI b), .int (iI ((t : Nat) : Int))] (wM ad cs M) (fun M1 => ∃ N1, Rep M1 N1 ∧ Sm M M1 ∧ N1 z = N x * a + N y * b ∧ ∀ j, j ≠ z → j ≠ t → N1 j = N j) (fun _ => none) (fun M1 => wM ad cs M1) := by
  refine Ct.introV (by decide) (Nat.le_of_ble_eq_true rfl) (fun _ => rfl) ?_
  intro p e s m below meth c A args Q H locs X hnm hw kr ls hl
  have X : CX D (tyL cs) R_M b_M_pair 7 p m c s args := X
  have hl : lv_has ls 7 [(0, .ref (ad 0)), (1, .int (iI ((z : Nat) : Int))), (2, .int (iI ((x : Nat) : Int))), (3, .int (iI a)), (4, .int (iI ((y : Nat) : Int))), (5, .int (iI b)), (6, .int (iI ((t : Nat) : Int)))] := hl
  refine sy_aload_n X d_M_pair_0 hl 0 rfl ?_
  refine sy_iload_n X d_M_pair_1 hl 1 rfl ?_
  refine sy_iload_n X d_M_pair_2 hl 2 rfl ?_
  refine sy_iload_n X d_M_pair_3 hl 3 rfl ?_
  refine call_Vv (Xs := []) (b := ad 0) (As := [.int (iI ((z : Nat) : Int)), .int (iI ((x : Nat) : Int)), .int (iI a)]) (rest := []) X lk_M_52 (c_M_scale l D cs ad M N z x a hz hx ha hR (Bn.fin g1 (by omega))) ⟨by decide, by decide⟩ rcv_M hw rfl hl.1 (Nat.le_of_ble_eq_true rfl) d_M_pair_4 rfl rfl ⟨Nat.zero_le _, Nat.zero_le _⟩ (fun M1 H locs p1 hw => ?_)
  refine sy_aload_n X d_M_pair_7 hl 0 rfl ?_
  refine sy_iload_n X d_M_pair_8 hl 1 rfl ?_
  refine sy_iload X d_M_pair_9 hl 4 rfl ?_
  refine sy_iload X d_M_pair_11 hl 5 rfl ?_
  refine sy_iload X d_M_pair_13 hl 6 rfl ?_
  have e1 : up1 N z (N x * a) y = N y := up1_n _ (Ne.symm hzy)
  refine call_Vv (Xs := []) (b := ad 0) (As := [.int (iI ((z : Nat) : Int)), .int (iI ((y : Nat) : Int)), .int (iI b), .int (iI ((t : Nat) : Int))]) (rest := []) X lk_M_114 (c_M_gain l D cs ad M1 (up1 N z (N x * a)) z y b t hz hy ht hzt hb p1.1 (by rw [e1]; exact Bn.fin g2 (by omega)) (by rw [e1, up1_s]; exact Bn.fin (Bn.add g1 g2) (by omega))) ⟨by decide, by decide⟩ rcv_M hw rfl hl.1 (Nat.le_of_ble_eq_true rfl) d_M_pair_15 rfl rfl ⟨Nat.zero_le _, Nat.zero_le _⟩ (fun M2 H locs p2 hw => ?_)
  exact kr _ _ _ _ _ d_M_pair_18 hw ⟨_, p2.1, p1.2.tr p2.2, by rw [up1_s, up1_s, e1], fun j h1 h2 => by rw [up1_n _ h1, up1_n _ h2, up1_n _ h1]⟩
set_option maxRecDepth 100000 in
set_option maxHeartbeats 4000000 in
theorem c_M_crossed (l : Launch) (D : va_G) (cs : Nat → ClassId) (ad : Nat → Nat) (M : Nat → Nat → Int) (N : Nat → Int) (z u v x y : Nat) (s0 : Int) (t : Nat) (B1 B2 : Nat) (hz : z < 120) (hu : u < 120) (hv : v < 120) (hx : x < 120) (hy : y < 120) (ht : t < 120) (hzt : z ≠ t) (hzx : z ≠ x) (hzy : z ≠ y) (hs : s0 = 1 ∨ s0 = -1) (hR : Rep M N) (g1 : Bn (N u * N v) B1) (g2 : Bn (N x * N y) B2) (k1 : B1 < 1700) (k2 : B2 < 1700) : Ct (S := Nat → Nat → Int) l D (tyL cs) y_M_crossed b_M_crossed 8 none (rm 5) [.ref (ad 0), .int (iI ((z : Nat) : Int)), .int (iI ((u : Nat) : Int)), .int (iI ((v : Nat) : Int)), .int (iI ((x : Nat) : Int)), .int (iI ((y : Nat) : Int)), .int (iI s0), .int (iI ((t : Nat) : Int))] (wM ad cs M) (fun M1 => ∃ N1, Rep M1 N1 ∧ Sm M M1 ∧ N1 z = N u * N v + s0 * (N x * N y) ∧ ∀ j, j ≠ z → j ≠ t → N1 j = N j) (fun _ => none) (fun M1 => wM ad cs M1) := by
  refine Ct.introV (by decide) (Nat.le_of_ble_eq_true rfl) (fun _ => rfl) ?_
  intro p e s m below meth c A args Q H locs X hnm hw kr ls hl
  have X : CX D (tyL cs) R_M b_M_crossed 8 p m c s args := X
  have hl : lv_has ls 8 [(0, .ref (ad 0)), (1, .int (iI ((z : Nat) : Int))), (2, .int (iI ((u : Nat) : Int))), (3, .int (iI ((v : Nat) : Int))), (4, .int (iI ((x : Nat) : Int))), (5, .int (iI ((y : Nat) : Int))), (6, .int (iI s0)), (7, .int (iI ((t : Nat) : Int)))] := hl
  refine sy_aload_n X d_M_crossed_0 hl 0 rfl ?_
  refine sy_iload_n X d_M_crossed_1 hl 1 rfl ?_
  refine sy_iload_n X d_M_crossed_2 hl 2 rfl ?_
  refine sy_iload_n X d_M_crossed_3 hl 3 rfl ?_
  refine call_Vv (Xs := []) (b := ad 0) (As := [.int (iI ((z : Nat) : Int)), .int (iI ((u : Nat) : Int)), .int (iI ((v : Nat) : Int))]) (rest := []) X lk_M_59 (c_M_times l D cs ad M N z u v hz hu hv hR (Bn.fin g1 (by omega))) ⟨by decide, by decide⟩ rcv_M hw rfl hl.1 (Nat.le_of_ble_eq_true rfl) d_M_crossed_4 rfl rfl ⟨Nat.zero_le _, Nat.zero_le _⟩ (fun M1 H locs p1 hw => ?_)
  refine sy_aload_n X d_M_crossed_7 hl 0 rfl ?_
  refine sy_iload_n X d_M_crossed_8 hl 1 rfl ?_
  refine sy_iload X d_M_crossed_9 hl 4 rfl ?_
  refine sy_iload X d_M_crossed_11 hl 5 rfl ?_
  refine sy_iload X d_M_crossed_13 hl 6 rfl ?_
  refine sy_iload X d_M_crossed_15 hl 7 rfl ?_
  have e1 : up1 N z (N u * N v) x = N x := up1_n _ (Ne.symm hzx)
  have e2 : up1 N z (N u * N v) y = N y := up1_n _ (Ne.symm hzy)
  refine call_Vv (Xs := []) (b := ad 0) (As := [.int (iI ((z : Nat) : Int)), .int (iI ((x : Nat) : Int)), .int (iI ((y : Nat) : Int)), .int (iI s0), .int (iI ((t : Nat) : Int))]) (rest := []) X lk_M_120 (c_M_join l D cs ad M1 (up1 N z (N u * N v)) z x y s0 t hz hx hy ht hzt hs p1.1 (by rw [e1, e2]; exact Bn.fin g2 (by omega)) (by rw [e1, e2, up1_s]; exact Bn.fin (Bn.add g1 (g2.sg hs)) (by omega))) ⟨by decide, by decide⟩ rcv_M hw rfl hl.1 (Nat.le_of_ble_eq_true rfl) d_M_crossed_17 rfl rfl ⟨Nat.zero_le _, Nat.zero_le _⟩ (fun M2 H locs p2 hw => ?_)
  exact kr _ _ _ _ _ d_M_crossed_20 hw ⟨_, p2.1, p1.2.tr p2.2, by rw [up1_s, up1_s, e1, e2], fun j h1 h2 => by rw [up1_n _ h1, up1_n _ h2, up1_n _ h1]⟩
set_option maxRecDepth 100000 in
set_option maxHeartbeats 4000000 in
theorem c_M_gains (l : Launch) (D : va_G) (cs : Nat → ClassId) (ad : Nat → Nat) (M : Nat → Nat → Int) (N : Nat → Int) (f : Nat) (h0 h1 r : Int) (B : Nat) (hf : f + 6 ≤ 96) (k0 : -9 ≤ h0 ∧ h0 ≤ 9) (k1 : -9 ≤ h1 ∧ h1 ≤ 9) (k2 : 1 ≤ r ∧ r ≤ 99) (hR : Rep M N) (hB : B = 128) (hb : ∀ i, i < 6 → Bn (N (f + i)) 128) : Ct (S := Nat → Nat → Int) l D (tyL cs) y_M_gains b_M_gains 6 none (rm 5) [.ref (ad 0), .int (iI ((f : Nat) : Int)), .int (iI h0), .int (iI h1), .int (iI r)] (wM ad cs M) (fun M1 => ∃ N1, Rep M1 N1 ∧ Sm M M1 ∧ (N1 96 = N (f + 2) * h0 + N (f + 3) * h1 ∧ N1 97 = N (f + 3) * h0 + N (f + 4) * h1 ∧ N1 98 = (N (f + 2) * h0 + N (f + 3) * h1) * h0 + (N (f + 3) * h0 + N (f + 4) * h1) * h1 + N (f + 5) * r) ∧ ∀ j, j < 96 → N1 j = N j) (fun _ => none) (fun M1 => wM ad cs M1) := by
  refine Ct.introV (by decide) (Nat.le_of_ble_eq_true rfl) (fun _ => rfl) ?_
  intro p e s m below meth c A args Q H locs X hnm hw kr ls hl
  have X : CX D (tyL cs) R_M b_M_gains 6 p m c s args := X
  have hl : lv_has ls 6 [(0, .ref (ad 0)), (1, .int (iI ((f : Nat) : Int))), (2, .int (iI h0)), (3, .int (iI h1)), (4, .int (iI r))] := hl
  have b0 : Bn h0 4 := Bn.of (k := 9) k0 (by decide)
  have b1 : Bn h1 4 := Bn.of (k := 9) k1 (by decide)
  have br : Bn r 7 := Bn.of (k := 99) (by omega) (by decide)
  obtain ⟨u0, hu0⟩ : ∃ g, N f = g := ⟨_, rfl⟩
  have bu0 : Bn u0 128 := by rw [← hu0]; exact hb 0 (by decide)
  obtain ⟨u1, hu1⟩ : ∃ g, N (f + 1) = g := ⟨_, rfl⟩
  have bu1 : Bn u1 128 := by rw [← hu1]; exact hb 1 (by decide)
  obtain ⟨u2, hu2⟩ : ∃ g, N (f + 2) = g := ⟨_, rfl⟩
  have bu2 : Bn u2 128 := by rw [← hu2]; exact hb 2 (by decide)
  obtain ⟨u3, hu3⟩ : ∃ g, N (f + 3) = g := ⟨_, rfl⟩
  have bu3 : Bn u3 128 := by rw [← hu3]; exact hb 3 (by decide)
  obtain ⟨u4, hu4⟩ : ∃ g, N (f + 4) = g := ⟨_, rfl⟩
  have bu4 : Bn u4 128 := by rw [← hu4]; exact hb 4 (by decide)
  obtain ⟨u5, hu5⟩ : ∃ g, N (f + 5) = g := ⟨_, rfl⟩
  have bu5 : Bn u5 128 := by rw [← hu5]; exact hb 5 (by decide)
  refine sy_bipush X d_M_gains_0 (by decide) ?_
  refine sy_istore (lv1 := [(5, .int (iI 100)), (0, .ref (ad 0)), (1, .int (iI ((f : Nat) : Int))), (2, .int (iI h0)), (3, .int (iI h1)), (4, .int (iI r))]) X d_M_gains_2 hl (by decide) rfl (fun ls hl => ?_)
  refine sy_aload_n X d_M_gains_4 hl 1 rfl ?_
  refine sy_bipush X d_M_gains_5 (by decide) ?_
  refine sy_iload_n X d_M_gains_7 hl 2 rfl ?_
  refine sy_iconst X d_M_gains_8 ?_
  refine sy_iadd X d_M_gains_9 ?_
  refine sy_iload_n X d_M_gains_10 hl 3 rfl ?_
  refine call_Vv (Xs := []) (b := ad 0) (As := [.int (iI 96), .int (iI (((f : Nat) : Int) + 2)), .int (iI h0)]) (rest := []) X lk_M_52 (c_M_scale l D cs ad M N 96 (f + 2) h0 (by omega) (by omega) ⟨by omega, by omega⟩ hR (by rw [hu2]; exact Bn.fin (Bn.mul bu2 b0) (by decide))) ⟨by decide, by decide⟩ rcv_M hw rfl hl.1 (Nat.le_of_ble_eq_true rfl) d_M_gains_11 rfl rfl ⟨Nat.zero_le _, Nat.zero_le _⟩ (fun M_2 H locs p_1 hw => ?_)
  obtain ⟨N1, eN1⟩ : ∃ g, g = up1 N 96 (N (f + 2) * h0) := ⟨_, rfl⟩
  rw [← eN1] at p_1
  have fr1 : ∀ j, j ≠ 96 → N1 j = N j := fun j h0 => by rw [eN1, up1_n _ h0]
  obtain ⟨w_3, ew_3⟩ : ∃ g, g = u2 * h0 := ⟨_, rfl⟩
  have hv_4 : N1 96 = w_3 := by rw [eN1, up1_s, hu2, ew_3]
  have hb_5 : Bn w_3 132 := by rw [ew_3]; exact Bn.mul bu2 b0
  refine sy_aload_n X d_M_gains_14 hl 1 rfl ?_
  refine sy_bipush X d_M_gains_15 (by decide) ?_
  refine sy_iload_n X d_M_gains_17 hl 2 rfl ?_
  refine sy_iconst X d_M_gains_18 ?_
  refine sy_iadd X d_M_gains_19 ?_
  refine sy_iload_n X d_M_gains_20 hl 4 rfl ?_
  refine sy_iload X d_M_gains_21 hl 0 rfl ?_
  have hv_6 : N1 (f + 3) = u3 := (fr1 (f + 3) (by omega)).trans (hu3)
  refine call_Vv (Xs := []) (b := ad 0) (As := [.int (iI 96), .int (iI (((f : Nat) : Int) + 3)), .int (iI h1), .int (iI 100)]) (rest := []) X lk_M_114 (c_M_gain l D cs ad M_2 N1 96 (f + 3) h1 100 (by omega) (by omega) (by omega) (by omega) ⟨by omega, by omega⟩ p_1.1 (by rw [hv_6]; exact Bn.fin (Bn.mul bu3 b1) (by decide)) (by rw [hv_4, hv_6]; exact Bn.fin (Bn.add hb_5 (Bn.mul bu3 b1)) (by decide))) ⟨by decide, by decide⟩ rcv_M hw rfl hl.1 (Nat.le_of_ble_eq_true rfl) d_M_gains_23 rfl rfl ⟨Nat.zero_le _, Nat.zero_le _⟩ (fun M_8 H locs p_7 hw => ?_)
  obtain ⟨N2, eN2⟩ : ∃ g, g = up1 (up1 N1 100 (N1 (f + 3) * h1)) 96 (N1 96 + N1 (f + 3) * h1) := ⟨_, rfl⟩
  rw [← eN2] at p_7
  have fr2 : ∀ j, j ≠ 100 → j ≠ 96 → N2 j = N1 j := fun j h0 h1 => by rw [eN2, up1_n _ h1, up1_n _ h0]
  obtain ⟨w_9, ew_9⟩ : ∃ g, g = u3 * h1 := ⟨_, rfl⟩
  have hv_10 : N2 100 = w_9 := by rw [eN2, up1_n _ (by omega), up1_s, hv_6, ew_9]
  have hb_11 : Bn w_9 132 := by rw [ew_9]; exact Bn.mul bu3 b1
  obtain ⟨w_12, ew_12⟩ : ∃ g, g = w_3 + u3 * h1 := ⟨_, rfl⟩
  have hv_13 : N2 96 = w_12 := by rw [eN2, up1_s, hv_4, hv_6, ew_12]
  have hb_14 : Bn w_12 133 := by rw [ew_12]; exact Bn.add hb_5 (Bn.mul bu3 b1)
  refine sy_aload_n X d_M_gains_26 hl 1 rfl ?_
  refine sy_bipush X d_M_gains_27 (by decide) ?_
  refine sy_iload_n X d_M_gains_29 hl 2 rfl ?_
  refine sy_iconst X d_M_gains_30 ?_
  refine sy_iadd X d_M_gains_31 ?_
  refine sy_iload_n X d_M_gains_32 hl 3 rfl ?_
  have hv_15 : N2 (f + 3) = u3 := (fr2 (f + 3) (by omega) (by omega)).trans (hv_6)
  refine call_Vv (Xs := []) (b := ad 0) (As := [.int (iI 97), .int (iI (((f : Nat) : Int) + 3)), .int (iI h0)]) (rest := []) X lk_M_52 (c_M_scale l D cs ad M_8 N2 97 (f + 3) h0 (by omega) (by omega) ⟨by omega, by omega⟩ p_7.1 (by rw [hv_15]; exact Bn.fin (Bn.mul bu3 b0) (by decide))) ⟨by decide, by decide⟩ rcv_M hw rfl hl.1 (Nat.le_of_ble_eq_true rfl) d_M_gains_33 rfl rfl ⟨Nat.zero_le _, Nat.zero_le _⟩ (fun M_17 H locs p_16 hw => ?_)
  obtain ⟨N3, eN3⟩ : ∃ g, g = up1 N2 97 (N2 (f + 3) * h0) := ⟨_, rfl⟩
  rw [← eN3] at p_16
  have fr3 : ∀ j, j ≠ 97 → N3 j = N2 j := fun j h0 => by rw [eN3, up1_n _ h0]
  obtain ⟨w_18, ew_18⟩ : ∃ g, g = u3 * h0 := ⟨_, rfl⟩
  have hv_19 : N3 97 = w_18 := by rw [eN3, up1_s, hv_15, ew_18]
  have hb_20 : Bn w_18 132 := by rw [ew_18]; exact Bn.mul bu3 b0
  refine sy_aload_n X d_M_gains_36 hl 1 rfl ?_
  refine sy_bipush X d_M_gains_37 (by decide) ?_
  refine sy_iload_n X d_M_gains_39 hl 2 rfl ?_
  refine sy_iconst X d_M_gains_40 ?_
  refine sy_iadd X d_M_gains_41 ?_
  refine sy_iload_n X d_M_gains_42 hl 4 rfl ?_
  refine sy_iload X d_M_gains_43 hl 0 rfl ?_
  have hv_21 : N3 (f + 4) = u4 := (fr3 (f + 4) (by omega)).trans ((fr2 (f + 4) (by omega) (by omega)).trans ((fr1 (f + 4) (by omega)).trans (hu4)))
  refine call_Vv (Xs := []) (b := ad 0) (As := [.int (iI 97), .int (iI (((f : Nat) : Int) + 4)), .int (iI h1), .int (iI 100)]) (rest := []) X lk_M_114 (c_M_gain l D cs ad M_17 N3 97 (f + 4) h1 100 (by omega) (by omega) (by omega) (by omega) ⟨by omega, by omega⟩ p_16.1 (by rw [hv_21]; exact Bn.fin (Bn.mul bu4 b1) (by decide)) (by rw [hv_19, hv_21]; exact Bn.fin (Bn.add hb_20 (Bn.mul bu4 b1)) (by decide))) ⟨by decide, by decide⟩ rcv_M hw rfl hl.1 (Nat.le_of_ble_eq_true rfl) d_M_gains_45 rfl rfl ⟨Nat.zero_le _, Nat.zero_le _⟩ (fun M_23 H locs p_22 hw => ?_)
  obtain ⟨N4, eN4⟩ : ∃ g, g = up1 (up1 N3 100 (N3 (f + 4) * h1)) 97 (N3 97 + N3 (f + 4) * h1) := ⟨_, rfl⟩
  rw [← eN4] at p_22
  have fr4 : ∀ j, j ≠ 100 → j ≠ 97 → N4 j = N3 j := fun j h0 h1 => by rw [eN4, up1_n _ h1, up1_n _ h0]
  obtain ⟨w_24, ew_24⟩ : ∃ g, g = u4 * h1 := ⟨_, rfl⟩
  have hv_25 : N4 100 = w_24 := by rw [eN4, up1_n _ (by omega), up1_s, hv_21, ew_24]
  have hb_26 : Bn w_24 132 := by rw [ew_24]; exact Bn.mul bu4 b1
  obtain ⟨w_27, ew_27⟩ : ∃ g, g = w_18 + u4 * h1 := ⟨_, rfl⟩
  have hv_28 : N4 97 = w_27 := by rw [eN4, up1_s, hv_19, hv_21, ew_27]
  have hb_29 : Bn w_27 133 := by rw [ew_27]; exact Bn.add hb_20 (Bn.mul bu4 b1)
  refine sy_aload_n X d_M_gains_48 hl 1 rfl ?_
  refine sy_bipush X d_M_gains_49 (by decide) ?_
  refine sy_bipush X d_M_gains_51 (by decide) ?_
  refine sy_iload_n X d_M_gains_53 hl 3 rfl ?_
  have hv_30 : N4 96 = w_12 := (fr4 96 (by omega) (by omega)).trans ((fr3 96 (by omega)).trans (hv_13))
  refine call_Vv (Xs := []) (b := ad 0) (As := [.int (iI 98), .int (iI 96), .int (iI h0)]) (rest := []) X lk_M_52 (c_M_scale l D cs ad M_23 N4 98 96 h0 (by omega) (by omega) ⟨by omega, by omega⟩ p_22.1 (by rw [hv_30]; exact Bn.fin (Bn.mul hb_14 b0) (by decide))) ⟨by decide, by decide⟩ rcv_M hw rfl hl.1 (Nat.le_of_ble_eq_true rfl) d_M_gains_54 rfl rfl ⟨Nat.zero_le _, Nat.zero_le _⟩ (fun M_32 H locs p_31 hw => ?_)
  obtain ⟨N5, eN5⟩ : ∃ g, g = up1 N4 98 (N4 96 * h0) := ⟨_, rfl⟩
  rw [← eN5] at p_31
  have fr5 : ∀ j, j ≠ 98 → N5 j = N4 j := fun j h0 => by rw [eN5, up1_n _ h0]
  obtain ⟨w_33, ew_33⟩ : ∃ g, g = w_12 * h0 := ⟨_, rfl⟩
  have hv_34 : N5 98 = w_33 := by rw [eN5, up1_s, hv_30, ew_33]
  have hb_35 : Bn w_33 137 := by rw [ew_33]; exact Bn.mul hb_14 b0
  refine sy_aload_n X d_M_gains_57 hl 1 rfl ?_
  refine sy_bipush X d_M_gains_58 (by decide) ?_
  refine sy_bipush X d_M_gains_60 (by decide) ?_
  refine sy_iload_n X d_M_gains_62 hl 4 rfl ?_
  refine sy_iload X d_M_gains_63 hl 0 rfl ?_
  have hv_36 : N5 97 = w_27 := (fr5 97 (by omega)).trans (hv_28)
  refine call_Vv (Xs := []) (b := ad 0) (As := [.int (iI 98), .int (iI 97), .int (iI h1), .int (iI 100)]) (rest := []) X lk_M_114 (c_M_gain l D cs ad M_32 N5 98 97 h1 100 (by omega) (by omega) (by omega) (by omega) ⟨by omega, by omega⟩ p_31.1 (by rw [hv_36]; exact Bn.fin (Bn.mul hb_29 b1) (by decide)) (by rw [hv_34, hv_36]; exact Bn.fin (Bn.add hb_35 (Bn.mul hb_29 b1)) (by decide))) ⟨by decide, by decide⟩ rcv_M hw rfl hl.1 (Nat.le_of_ble_eq_true rfl) d_M_gains_65 rfl rfl ⟨Nat.zero_le _, Nat.zero_le _⟩ (fun M_38 H locs p_37 hw => ?_)
  obtain ⟨N6, eN6⟩ : ∃ g, g = up1 (up1 N5 100 (N5 97 * h1)) 98 (N5 98 + N5 97 * h1) := ⟨_, rfl⟩
  rw [← eN6] at p_37
  have fr6 : ∀ j, j ≠ 100 → j ≠ 98 → N6 j = N5 j := fun j h0 h1 => by rw [eN6, up1_n _ h1, up1_n _ h0]
  obtain ⟨w_39, ew_39⟩ : ∃ g, g = w_27 * h1 := ⟨_, rfl⟩
  have hv_40 : N6 100 = w_39 := by rw [eN6, up1_n _ (by omega), up1_s, hv_36, ew_39]
  have hb_41 : Bn w_39 137 := by rw [ew_39]; exact Bn.mul hb_29 b1
  obtain ⟨w_42, ew_42⟩ : ∃ g, g = w_33 + w_27 * h1 := ⟨_, rfl⟩
  have hv_43 : N6 98 = w_42 := by rw [eN6, up1_s, hv_34, hv_36, ew_42]
  have hb_44 : Bn w_42 138 := by rw [ew_42]; exact Bn.add hb_35 (Bn.mul hb_29 b1)
  refine sy_aload_n X d_M_gains_68 hl 1 rfl ?_
  refine sy_bipush X d_M_gains_69 (by decide) ?_
  refine sy_iload_n X d_M_gains_71 hl 2 rfl ?_
  refine sy_iconst X d_M_gains_72 ?_
  refine sy_iadd X d_M_gains_73 ?_
  refine sy_iload X d_M_gains_74 hl 5 rfl ?_
  refine sy_iload X d_M_gains_76 hl 0 rfl ?_
  have hv_45 : N6 (f + 5) = u5 := (fr6 (f + 5) (by omega) (by omega)).trans ((fr5 (f + 5) (by omega)).trans ((fr4 (f + 5) (by omega) (by omega)).trans ((fr3 (f + 5) (by omega)).trans ((fr2 (f + 5) (by omega) (by omega)).trans ((fr1 (f + 5) (by omega)).trans (hu5))))))
  refine call_Vv (Xs := []) (b := ad 0) (As := [.int (iI 98), .int (iI (((f : Nat) : Int) + 5)), .int (iI r), .int (iI 100)]) (rest := []) X lk_M_114 (c_M_gain l D cs ad M_38 N6 98 (f + 5) r 100 (by omega) (by omega) (by omega) (by omega) ⟨by omega, by omega⟩ p_37.1 (by rw [hv_45]; exact Bn.fin (Bn.mul bu5 br) (by decide)) (by rw [hv_43, hv_45]; exact Bn.fin (Bn.add hb_44 (Bn.mul bu5 br)) (by decide))) ⟨by decide, by decide⟩ rcv_M hw rfl hl.1 (Nat.le_of_ble_eq_true rfl) d_M_gains_78 rfl rfl ⟨Nat.zero_le _, Nat.zero_le _⟩ (fun M_47 H locs p_46 hw => ?_)
  obtain ⟨N7, eN7⟩ : ∃ g, g = up1 (up1 N6 100 (N6 (f + 5) * r)) 98 (N6 98 + N6 (f + 5) * r) := ⟨_, rfl⟩
  rw [← eN7] at p_46
  have fr7 : ∀ j, j ≠ 100 → j ≠ 98 → N7 j = N6 j := fun j h0 h1 => by rw [eN7, up1_n _ h1, up1_n _ h0]
  obtain ⟨w_48, ew_48⟩ : ∃ g, g = u5 * r := ⟨_, rfl⟩
  have hv_49 : N7 100 = w_48 := by rw [eN7, up1_n _ (by omega), up1_s, hv_45, ew_48]
  have hb_50 : Bn w_48 135 := by rw [ew_48]; exact Bn.mul bu5 br
  obtain ⟨w_51, ew_51⟩ : ∃ g, g = w_42 + u5 * r := ⟨_, rfl⟩
  have hv_52 : N7 98 = w_51 := by rw [eN7, up1_s, hv_43, hv_45, ew_51]
  have hb_53 : Bn w_51 139 := by rw [ew_51]; exact Bn.add hb_44 (Bn.mul bu5 br)
  have hv_54 : N7 96 = w_12 := (fr7 96 (by omega) (by omega)).trans ((fr6 96 (by omega) (by omega)).trans ((fr5 96 (by omega)).trans (hv_30)))
  have hv_55 : N7 97 = w_27 := (fr7 97 (by omega) (by omega)).trans ((fr6 97 (by omega) (by omega)).trans (hv_36))
  refine kr _ _ _ _ _ d_M_gains_81 hw ⟨N7, p_46.1, ((((((((Sm.rf M).tr p_1.2).tr p_7.2).tr p_16.2).tr p_22.2).tr p_31.2).tr p_37.2).tr p_46.2), ⟨?_, ?_, ?_⟩, fun j hj => ?_⟩
  · rw [hv_54]; simp only [ew_51, ew_48, ew_42, ew_39, ew_33, ew_27, ew_24, ew_18, ew_12, ew_9, ew_3, hu0, hu1, hu2, hu3, hu4, hu5]
  · rw [hv_55]; simp only [ew_51, ew_48, ew_42, ew_39, ew_33, ew_27, ew_24, ew_18, ew_12, ew_9, ew_3, hu0, hu1, hu2, hu3, hu4, hu5]
  · rw [hv_52]; simp only [ew_51, ew_48, ew_42, ew_39, ew_33, ew_27, ew_24, ew_18, ew_12, ew_9, ew_3, hu0, hu1, hu2, hu3, hu4, hu5]
  · exact (fr7 j (by omega) (by omega)).trans ((fr6 j (by omega) (by omega)).trans ((fr5 j (by omega)).trans ((fr4 j (by omega) (by omega)).trans ((fr3 j (by omega)).trans ((fr2 j (by omega) (by omega)).trans ((fr1 j (by omega)).trans (rfl)))))))
end
