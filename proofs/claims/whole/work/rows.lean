section
-- ===== PART A: goes FIRST, ahead of the names: the tables' words, and 'selects' of the private methods out of them =====
/-- a private method of a class that the tables say can be made, by its rows of tables_1 -/
def lw_okq (q : MethodName × Nat) : Prop := (q.1.cls ≠ "java/lang/invoke/MethodHandle" ∧ q.1.cls ≠ "java/lang/invoke/VarHandle") ∧ Cond.instantiable q.1.cls q.2 ∈ tables_1 ∧ Cond.privateMethod q.1 ∈ tables_1 ∧ Cond.instanceMethod q.1 ∈ tables_1
theorem lw_p0 : lw_okq (⟨"GuessFolds$Now", "addCrease", "(JJJ)V"⟩, 5) := ⟨⟨by decide +kernel, by decide +kernel⟩, List.mem_of_getElem? (i := 98) (by decide +kernel), List.mem_of_getElem? (i := 139) (by decide +kernel), List.mem_of_getElem? (i := 140) (by decide +kernel)⟩
theorem lw_p1 : lw_okq (⟨"GuessFolds$Text", "begin", "()V"⟩, 15) := ⟨⟨by decide +kernel, by decide +kernel⟩, List.mem_of_getElem? (i := 21) (by decide +kernel), List.mem_of_getElem? (i := 203) (by decide +kernel), List.mem_of_getElem? (i := 204) (by decide +kernel)⟩
theorem lw_p2 : lw_okq (⟨"GuessFolds$Text", "step", "()V"⟩, 15) := ⟨⟨by decide +kernel, by decide +kernel⟩, List.mem_of_getElem? (i := 21) (by decide +kernel), List.mem_of_getElem? (i := 208) (by decide +kernel), List.mem_of_getElem? (i := 209) (by decide +kernel)⟩
theorem lw_p3 : lw_okq (⟨"GuessFolds$Text", "isLetter", "(I)Z"⟩, 15) := ⟨⟨by decide +kernel, by decide +kernel⟩, List.mem_of_getElem? (i := 21) (by decide +kernel), List.mem_of_getElem? (i := 219) (by decide +kernel), List.mem_of_getElem? (i := 220) (by decide +kernel)⟩
theorem lw_p4 : lw_okq (⟨"GuessFolds$Text", "wordHere", "()I"⟩, 15) := ⟨⟨by decide +kernel, by decide +kernel⟩, List.mem_of_getElem? (i := 21) (by decide +kernel), List.mem_of_getElem? (i := 225) (by decide +kernel), List.mem_of_getElem? (i := 226) (by decide +kernel)⟩
theorem lw_p5 : lw_okq (⟨"GuessFolds$Text", "isHere", "(Ljava/lang/String;)Z"⟩, 15) := ⟨⟨by decide +kernel, by decide +kernel⟩, List.mem_of_getElem? (i := 21) (by decide +kernel), List.mem_of_getElem? (i := 230) (by decide +kernel), List.mem_of_getElem? (i := 231) (by decide +kernel)⟩
theorem lw_p6 : lw_okq (⟨"GuessFolds$Text", "isDigit", "(I)Z"⟩, 15) := ⟨⟨by decide +kernel, by decide +kernel⟩, List.mem_of_getElem? (i := 21) (by decide +kernel), List.mem_of_getElem? (i := 286) (by decide +kernel), List.mem_of_getElem? (i := 287) (by decide +kernel)⟩
theorem lw_p7 : lw_okq (⟨"GuessFolds$Text", "numberHere", "()I"⟩, 15) := ⟨⟨by decide +kernel, by decide +kernel⟩, List.mem_of_getElem? (i := 21) (by decide +kernel), List.mem_of_getElem? (i := 292) (by decide +kernel), List.mem_of_getElem? (i := 293) (by decide +kernel)⟩
theorem lw_p8 : lw_okq (⟨"GuessFolds$Text", "takesToken", "()Z"⟩, 15) := ⟨⟨by decide +kernel, by decide +kernel⟩, List.mem_of_getElem? (i := 21) (by decide +kernel), List.mem_of_getElem? (i := 299) (by decide +kernel), List.mem_of_getElem? (i := 300) (by decide +kernel)⟩
theorem lw_p9 : lw_okq (⟨"GuessFolds$Text", "takesWord", "()Z"⟩, 15) := ⟨⟨by decide +kernel, by decide +kernel⟩, List.mem_of_getElem? (i := 21) (by decide +kernel), List.mem_of_getElem? (i := 303) (by decide +kernel), List.mem_of_getElem? (i := 304) (by decide +kernel)⟩
theorem lw_p10 : lw_okq (⟨"GuessFolds$Text", "mayStand", "(I)Z"⟩, 15) := ⟨⟨by decide +kernel, by decide +kernel⟩, List.mem_of_getElem? (i := 21) (by decide +kernel), List.mem_of_getElem? (i := 307) (by decide +kernel), List.mem_of_getElem? (i := 308) (by decide +kernel)⟩
theorem lw_p11 : lw_okq (⟨"GuessFolds$Text", "isTold", "(I)Z"⟩, 15) := ⟨⟨by decide +kernel, by decide +kernel⟩, List.mem_of_getElem? (i := 21) (by decide +kernel), List.mem_of_getElem? (i := 312) (by decide +kernel), List.mem_of_getElem? (i := 313) (by decide +kernel)⟩
theorem lw_p12 : lw_okq (⟨"GuessFolds$Text", "takesNumber", "()Z"⟩, 15) := ⟨⟨by decide +kernel, by decide +kernel⟩, List.mem_of_getElem? (i := 21) (by decide +kernel), List.mem_of_getElem? (i := 316) (by decide +kernel), List.mem_of_getElem? (i := 317) (by decide +kernel)⟩
theorem lw_p13 : lw_okq (⟨"GuessFolds$Text", "mayBe", "(I)Z"⟩, 15) := ⟨⟨by decide +kernel, by decide +kernel⟩, List.mem_of_getElem? (i := 21) (by decide +kernel), List.mem_of_getElem? (i := 320) (by decide +kernel), List.mem_of_getElem? (i := 321) (by decide +kernel)⟩
theorem lw_p14 : lw_okq (⟨"GuessFolds$Text", "isToldCrease", "(I)Z"⟩, 15) := ⟨⟨by decide +kernel, by decide +kernel⟩, List.mem_of_getElem? (i := 21) (by decide +kernel), List.mem_of_getElem? (i := 324) (by decide +kernel), List.mem_of_getElem? (i := 325) (by decide +kernel)⟩
theorem lw_p15 : lw_okq (⟨"GuessFolds$Text", "takesSecond", "()Z"⟩, 15) := ⟨⟨by decide +kernel, by decide +kernel⟩, List.mem_of_getElem? (i := 21) (by decide +kernel), List.mem_of_getElem? (i := 329) (by decide +kernel), List.mem_of_getElem? (i := 330) (by decide +kernel)⟩
def lw_privs_1 : List (MethodName × Nat) := [(⟨"GuessFolds$Now", "addCrease", "(JJJ)V"⟩, 5), (⟨"GuessFolds$Text", "begin", "()V"⟩, 15), (⟨"GuessFolds$Text", "step", "()V"⟩, 15), (⟨"GuessFolds$Text", "isLetter", "(I)Z"⟩, 15), (⟨"GuessFolds$Text", "wordHere", "()I"⟩, 15), (⟨"GuessFolds$Text", "isHere", "(Ljava/lang/String;)Z"⟩, 15), (⟨"GuessFolds$Text", "isDigit", "(I)Z"⟩, 15), (⟨"GuessFolds$Text", "numberHere", "()I"⟩, 15), (⟨"GuessFolds$Text", "takesToken", "()Z"⟩, 15), (⟨"GuessFolds$Text", "takesWord", "()Z"⟩, 15), (⟨"GuessFolds$Text", "mayStand", "(I)Z"⟩, 15), (⟨"GuessFolds$Text", "isTold", "(I)Z"⟩, 15), (⟨"GuessFolds$Text", "takesNumber", "()Z"⟩, 15), (⟨"GuessFolds$Text", "mayBe", "(I)Z"⟩, 15), (⟨"GuessFolds$Text", "isToldCrease", "(I)Z"⟩, 15), (⟨"GuessFolds$Text", "takesSecond", "()Z"⟩, 15)]
theorem lw_r1 : ∀ q ∈ lw_privs_1, lw_okq q := List.forall_mem_cons.mpr ⟨lw_p0, List.forall_mem_cons.mpr ⟨lw_p1, List.forall_mem_cons.mpr ⟨lw_p2, List.forall_mem_cons.mpr ⟨lw_p3, List.forall_mem_cons.mpr ⟨lw_p4, List.forall_mem_cons.mpr ⟨lw_p5, List.forall_mem_cons.mpr ⟨lw_p6, List.forall_mem_cons.mpr ⟨lw_p7, List.forall_mem_cons.mpr ⟨lw_p8, List.forall_mem_cons.mpr ⟨lw_p9, List.forall_mem_cons.mpr ⟨lw_p10, List.forall_mem_cons.mpr ⟨lw_p11, List.forall_mem_cons.mpr ⟨lw_p12, List.forall_mem_cons.mpr ⟨lw_p13, List.forall_mem_cons.mpr ⟨lw_p14, List.forall_mem_cons.mpr ⟨lw_p15, fun _ h => absurd h List.not_mem_nil⟩⟩⟩⟩⟩⟩⟩⟩⟩⟩⟩⟩⟩⟩⟩⟩
theorem lw_p16 : lw_okq (⟨"GuessFolds$Text", "takesSemicolon", "()Z"⟩, 15) := ⟨⟨by decide +kernel, by decide +kernel⟩, List.mem_of_getElem? (i := 21) (by decide +kernel), List.mem_of_getElem? (i := 333) (by decide +kernel), List.mem_of_getElem? (i := 334) (by decide +kernel)⟩
theorem lw_p17 : lw_okq (⟨"GuessFolds", "isCrease", "(I)Z"⟩, 9) := ⟨⟨by decide +kernel, by decide +kernel⟩, List.mem_of_getElem? (i := 13) (by decide +kernel), List.mem_of_getElem? (i := 353) (by decide +kernel), List.mem_of_getElem? (i := 354) (by decide +kernel)⟩
theorem lw_p18 : lw_okq (⟨"GuessFolds", "partOf", "(I)I"⟩, 9) := ⟨⟨by decide +kernel, by decide +kernel⟩, List.mem_of_getElem? (i := 13) (by decide +kernel), List.mem_of_getElem? (i := 373) (by decide +kernel), List.mem_of_getElem? (i := 374) (by decide +kernel)⟩
theorem lw_p19 : lw_okq (⟨"GuessFolds", "isFolded", "()Z"⟩, 9) := ⟨⟨by decide +kernel, by decide +kernel⟩, List.mem_of_getElem? (i := 13) (by decide +kernel), List.mem_of_getElem? (i := 385) (by decide +kernel), List.mem_of_getElem? (i := 386) (by decide +kernel)⟩
theorem lw_p20 : lw_okq (⟨"GuessFolds", "latest", "()I"⟩, 9) := ⟨⟨by decide +kernel, by decide +kernel⟩, List.mem_of_getElem? (i := 13) (by decide +kernel), List.mem_of_getElem? (i := 389) (by decide +kernel), List.mem_of_getElem? (i := 390) (by decide +kernel)⟩
theorem lw_p21 : lw_okq (⟨"GuessFolds", "isInner", "(I)Z"⟩, 9) := ⟨⟨by decide +kernel, by decide +kernel⟩, List.mem_of_getElem? (i := 13) (by decide +kernel), List.mem_of_getElem? (i := 397) (by decide +kernel), List.mem_of_getElem? (i := 398) (by decide +kernel)⟩
theorem lw_p22 : lw_okq (⟨"GuessFolds", "foldsAround", "(I)I"⟩, 9) := ⟨⟨by decide +kernel, by decide +kernel⟩, List.mem_of_getElem? (i := 13) (by decide +kernel), List.mem_of_getElem? (i := 424) (by decide +kernel), List.mem_of_getElem? (i := 425) (by decide +kernel)⟩
theorem lw_p23 : lw_okq (⟨"GuessFolds", "creasesAtNoPart", "()I"⟩, 9) := ⟨⟨by decide +kernel, by decide +kernel⟩, List.mem_of_getElem? (i := 13) (by decide +kernel), List.mem_of_getElem? (i := 441) (by decide +kernel), List.mem_of_getElem? (i := 442) (by decide +kernel)⟩
theorem lw_p24 : lw_okq (⟨"GuessFolds", "partsWithoutCrease", "()I"⟩, 9) := ⟨⟨by decide +kernel, by decide +kernel⟩, List.mem_of_getElem? (i := 13) (by decide +kernel), List.mem_of_getElem? (i := 445) (by decide +kernel), List.mem_of_getElem? (i := 446) (by decide +kernel)⟩
theorem lw_p25 : lw_okq (⟨"GuessFolds", "starts", "()I"⟩, 9) := ⟨⟨by decide +kernel, by decide +kernel⟩, List.mem_of_getElem? (i := 13) (by decide +kernel), List.mem_of_getElem? (i := 466) (by decide +kernel), List.mem_of_getElem? (i := 467) (by decide +kernel)⟩
theorem lw_p26 : lw_okq (⟨"GuessFolds", "ringOf", "(I)J"⟩, 9) := ⟨⟨by decide +kernel, by decide +kernel⟩, List.mem_of_getElem? (i := 13) (by decide +kernel), List.mem_of_getElem? (i := 470) (by decide +kernel), List.mem_of_getElem? (i := 471) (by decide +kernel)⟩
theorem lw_p27 : lw_okq (⟨"GuessFolds", "wrongLetter", "(II)I"⟩, 9) := ⟨⟨by decide +kernel, by decide +kernel⟩, List.mem_of_getElem? (i := 13) (by decide +kernel), List.mem_of_getElem? (i := 486) (by decide +kernel), List.mem_of_getElem? (i := 487) (by decide +kernel)⟩
theorem lw_p28 : lw_okq (⟨"GuessFolds", "seenSet", "()J"⟩, 9) := ⟨⟨by decide +kernel, by decide +kernel⟩, List.mem_of_getElem? (i := 13) (by decide +kernel), List.mem_of_getElem? (i := 511) (by decide +kernel), List.mem_of_getElem? (i := 512) (by decide +kernel)⟩
theorem lw_p29 : lw_okq (⟨"GuessFolds", "waysFrom", "(IJ)I"⟩, 9) := ⟨⟨by decide +kernel, by decide +kernel⟩, List.mem_of_getElem? (i := 13) (by decide +kernel), List.mem_of_getElem? (i := 515) (by decide +kernel), List.mem_of_getElem? (i := 516) (by decide +kernel)⟩
theorem lw_p30 : lw_okq (⟨"GuessFolds", "asCrease", "(I)I"⟩, 9) := ⟨⟨by decide +kernel, by decide +kernel⟩, List.mem_of_getElem? (i := 13) (by decide +kernel), List.mem_of_getElem? (i := 524) (by decide +kernel), List.mem_of_getElem? (i := 525) (by decide +kernel)⟩
theorem lw_p31 : lw_okq (⟨"GuessFolds", "asPinch", "(I)I"⟩, 9) := ⟨⟨by decide +kernel, by decide +kernel⟩, List.mem_of_getElem? (i := 13) (by decide +kernel), List.mem_of_getElem? (i := 528) (by decide +kernel), List.mem_of_getElem? (i := 529) (by decide +kernel)⟩
def lw_privs_2 : List (MethodName × Nat) := [(⟨"GuessFolds$Text", "takesSemicolon", "()Z"⟩, 15), (⟨"GuessFolds", "isCrease", "(I)Z"⟩, 9), (⟨"GuessFolds", "partOf", "(I)I"⟩, 9), (⟨"GuessFolds", "isFolded", "()Z"⟩, 9), (⟨"GuessFolds", "latest", "()I"⟩, 9), (⟨"GuessFolds", "isInner", "(I)Z"⟩, 9), (⟨"GuessFolds", "foldsAround", "(I)I"⟩, 9), (⟨"GuessFolds", "creasesAtNoPart", "()I"⟩, 9), (⟨"GuessFolds", "partsWithoutCrease", "()I"⟩, 9), (⟨"GuessFolds", "starts", "()I"⟩, 9), (⟨"GuessFolds", "ringOf", "(I)J"⟩, 9), (⟨"GuessFolds", "wrongLetter", "(II)I"⟩, 9), (⟨"GuessFolds", "seenSet", "()J"⟩, 9), (⟨"GuessFolds", "waysFrom", "(IJ)I"⟩, 9), (⟨"GuessFolds", "asCrease", "(I)I"⟩, 9), (⟨"GuessFolds", "asPinch", "(I)I"⟩, 9)]
theorem lw_r2 : ∀ q ∈ lw_privs_2, lw_okq q := List.forall_mem_cons.mpr ⟨lw_p16, List.forall_mem_cons.mpr ⟨lw_p17, List.forall_mem_cons.mpr ⟨lw_p18, List.forall_mem_cons.mpr ⟨lw_p19, List.forall_mem_cons.mpr ⟨lw_p20, List.forall_mem_cons.mpr ⟨lw_p21, List.forall_mem_cons.mpr ⟨lw_p22, List.forall_mem_cons.mpr ⟨lw_p23, List.forall_mem_cons.mpr ⟨lw_p24, List.forall_mem_cons.mpr ⟨lw_p25, List.forall_mem_cons.mpr ⟨lw_p26, List.forall_mem_cons.mpr ⟨lw_p27, List.forall_mem_cons.mpr ⟨lw_p28, List.forall_mem_cons.mpr ⟨lw_p29, List.forall_mem_cons.mpr ⟨lw_p30, List.forall_mem_cons.mpr ⟨lw_p31, fun _ h => absurd h List.not_mem_nil⟩⟩⟩⟩⟩⟩⟩⟩⟩⟩⟩⟩⟩⟩⟩⟩
theorem lw_p32 : lw_okq (⟨"GuessFolds", "asEnd", "(I)I"⟩, 9) := ⟨⟨by decide +kernel, by decide +kernel⟩, List.mem_of_getElem? (i := 13) (by decide +kernel), List.mem_of_getElem? (i := 533) (by decide +kernel), List.mem_of_getElem? (i := 534) (by decide +kernel)⟩
theorem lw_p33 : lw_okq (⟨"GuessFolds", "asThumb", "(I)I"⟩, 9) := ⟨⟨by decide +kernel, by decide +kernel⟩, List.mem_of_getElem? (i := 13) (by decide +kernel), List.mem_of_getElem? (i := 538) (by decide +kernel), List.mem_of_getElem? (i := 539) (by decide +kernel)⟩
theorem lw_p34 : lw_okq (⟨"GuessFolds", "asCorner", "(I)I"⟩, 9) := ⟨⟨by decide +kernel, by decide +kernel⟩, List.mem_of_getElem? (i := 13) (by decide +kernel), List.mem_of_getElem? (i := 542) (by decide +kernel), List.mem_of_getElem? (i := 543) (by decide +kernel)⟩
theorem lw_p35 : lw_okq (⟨"GuessFolds", "asSeam", "(I)I"⟩, 9) := ⟨⟨by decide +kernel, by decide +kernel⟩, List.mem_of_getElem? (i := 13) (by decide +kernel), List.mem_of_getElem? (i := 547) (by decide +kernel), List.mem_of_getElem? (i := 548) (by decide +kernel)⟩
theorem lw_p36 : lw_okq (⟨"GuessFolds", "imageOf", "(I)LGuessFolds$Now;"⟩, 9) := ⟨⟨by decide +kernel, by decide +kernel⟩, List.mem_of_getElem? (i := 13) (by decide +kernel), List.mem_of_getElem? (i := 556) (by decide +kernel), List.mem_of_getElem? (i := 557) (by decide +kernel)⟩
theorem lw_p37 : lw_okq (⟨"GuessFoldsModel", "begin", "()V"⟩, 23) := ⟨⟨by decide +kernel, by decide +kernel⟩, List.mem_of_getElem? (i := 583) (by decide +kernel), List.mem_of_getElem? (i := 589) (by decide +kernel), List.mem_of_getElem? (i := 590) (by decide +kernel)⟩
theorem lw_p38 : lw_okq (⟨"GuessFoldsModel", "takesAll", "()I"⟩, 23) := ⟨⟨by decide +kernel, by decide +kernel⟩, List.mem_of_getElem? (i := 583) (by decide +kernel), List.mem_of_getElem? (i := 682) (by decide +kernel), List.mem_of_getElem? (i := 683) (by decide +kernel)⟩
theorem lw_p39 : lw_okq (⟨"GuessFoldsModel", "next", "()V"⟩, 23) := ⟨⟨by decide +kernel, by decide +kernel⟩, List.mem_of_getElem? (i := 583) (by decide +kernel), List.mem_of_getElem? (i := 686) (by decide +kernel), List.mem_of_getElem? (i := 687) (by decide +kernel)⟩
theorem lw_p40 : lw_okq (⟨"GuessFoldsModel", "takesFold", "()Z"⟩, 23) := ⟨⟨by decide +kernel, by decide +kernel⟩, List.mem_of_getElem? (i := 583) (by decide +kernel), List.mem_of_getElem? (i := 707) (by decide +kernel), List.mem_of_getElem? (i := 708) (by decide +kernel)⟩
theorem lw_p41 : lw_okq (⟨"GuessFoldsModel", "takes", "(II)Z"⟩, 23) := ⟨⟨by decide +kernel, by decide +kernel⟩, List.mem_of_getElem? (i := 583) (by decide +kernel), List.mem_of_getElem? (i := 711) (by decide +kernel), List.mem_of_getElem? (i := 712) (by decide +kernel)⟩
theorem lw_p42 : lw_okq (⟨"GuessFoldsModel", "stops", "()Z"⟩, 23) := ⟨⟨by decide +kernel, by decide +kernel⟩, List.mem_of_getElem? (i := 583) (by decide +kernel), List.mem_of_getElem? (i := 715) (by decide +kernel), List.mem_of_getElem? (i := 716) (by decide +kernel)⟩
theorem lw_p43 : lw_okq (⟨"GuessFoldsModel", "takesTold", "(I)Z"⟩, 23) := ⟨⟨by decide +kernel, by decide +kernel⟩, List.mem_of_getElem? (i := 583) (by decide +kernel), List.mem_of_getElem? (i := 719) (by decide +kernel), List.mem_of_getElem? (i := 720) (by decide +kernel)⟩
theorem lw_p44 : lw_okq (⟨"GuessFoldsModel", "readParts", "()I"⟩, 23) := ⟨⟨by decide +kernel, by decide +kernel⟩, List.mem_of_getElem? (i := 583) (by decide +kernel), List.mem_of_getElem? (i := 723) (by decide +kernel), List.mem_of_getElem? (i := 724) (by decide +kernel)⟩
theorem lw_p45 : lw_okq (⟨"GuessFoldsModel", "folds", "(II)V"⟩, 23) := ⟨⟨by decide +kernel, by decide +kernel⟩, List.mem_of_getElem? (i := 583) (by decide +kernel), List.mem_of_getElem? (i := 728) (by decide +kernel), List.mem_of_getElem? (i := 729) (by decide +kernel)⟩
theorem lw_p46 : lw_okq (⟨"GuessFoldsModel", "isCrease", "(I)Z"⟩, 23) := ⟨⟨by decide +kernel, by decide +kernel⟩, List.mem_of_getElem? (i := 583) (by decide +kernel), List.mem_of_getElem? (i := 736) (by decide +kernel), List.mem_of_getElem? (i := 737) (by decide +kernel)⟩
theorem lw_p47 : lw_okq (⟨"GuessFoldsModel", "partOf", "(I)I"⟩, 23) := ⟨⟨by decide +kernel, by decide +kernel⟩, List.mem_of_getElem? (i := 583) (by decide +kernel), List.mem_of_getElem? (i := 741) (by decide +kernel), List.mem_of_getElem? (i := 742) (by decide +kernel)⟩
def lw_privs_3 : List (MethodName × Nat) := [(⟨"GuessFolds", "asEnd", "(I)I"⟩, 9), (⟨"GuessFolds", "asThumb", "(I)I"⟩, 9), (⟨"GuessFolds", "asCorner", "(I)I"⟩, 9), (⟨"GuessFolds", "asSeam", "(I)I"⟩, 9), (⟨"GuessFolds", "imageOf", "(I)LGuessFolds$Now;"⟩, 9), (⟨"GuessFoldsModel", "begin", "()V"⟩, 23), (⟨"GuessFoldsModel", "takesAll", "()I"⟩, 23), (⟨"GuessFoldsModel", "next", "()V"⟩, 23), (⟨"GuessFoldsModel", "takesFold", "()Z"⟩, 23), (⟨"GuessFoldsModel", "takes", "(II)Z"⟩, 23), (⟨"GuessFoldsModel", "stops", "()Z"⟩, 23), (⟨"GuessFoldsModel", "takesTold", "(I)Z"⟩, 23), (⟨"GuessFoldsModel", "readParts", "()I"⟩, 23), (⟨"GuessFoldsModel", "folds", "(II)V"⟩, 23), (⟨"GuessFoldsModel", "isCrease", "(I)Z"⟩, 23), (⟨"GuessFoldsModel", "partOf", "(I)I"⟩, 23)]
theorem lw_r3 : ∀ q ∈ lw_privs_3, lw_okq q := List.forall_mem_cons.mpr ⟨lw_p32, List.forall_mem_cons.mpr ⟨lw_p33, List.forall_mem_cons.mpr ⟨lw_p34, List.forall_mem_cons.mpr ⟨lw_p35, List.forall_mem_cons.mpr ⟨lw_p36, List.forall_mem_cons.mpr ⟨lw_p37, List.forall_mem_cons.mpr ⟨lw_p38, List.forall_mem_cons.mpr ⟨lw_p39, List.forall_mem_cons.mpr ⟨lw_p40, List.forall_mem_cons.mpr ⟨lw_p41, List.forall_mem_cons.mpr ⟨lw_p42, List.forall_mem_cons.mpr ⟨lw_p43, List.forall_mem_cons.mpr ⟨lw_p44, List.forall_mem_cons.mpr ⟨lw_p45, List.forall_mem_cons.mpr ⟨lw_p46, List.forall_mem_cons.mpr ⟨lw_p47, fun _ h => absurd h List.not_mem_nil⟩⟩⟩⟩⟩⟩⟩⟩⟩⟩⟩⟩⟩⟩⟩⟩
theorem lw_p48 : lw_okq (⟨"GuessFoldsModel", "isPart", "(I)Z"⟩, 23) := ⟨⟨by decide +kernel, by decide +kernel⟩, List.mem_of_getElem? (i := 583) (by decide +kernel), List.mem_of_getElem? (i := 760) (by decide +kernel), List.mem_of_getElem? (i := 761) (by decide +kernel)⟩
theorem lw_p49 : lw_okq (⟨"GuessFoldsModel", "foldsTo", "(II)I"⟩, 23) := ⟨⟨by decide +kernel, by decide +kernel⟩, List.mem_of_getElem? (i := 583) (by decide +kernel), List.mem_of_getElem? (i := 779) (by decide +kernel), List.mem_of_getElem? (i := 780) (by decide +kernel)⟩
theorem lw_p50 : lw_okq (⟨"GuessFoldsModel", "wrongFrom", "(II)I"⟩, 23) := ⟨⟨by decide +kernel, by decide +kernel⟩, List.mem_of_getElem? (i := 583) (by decide +kernel), List.mem_of_getElem? (i := 813) (by decide +kernel), List.mem_of_getElem? (i := 814) (by decide +kernel)⟩
def lw_privs_4 : List (MethodName × Nat) := [(⟨"GuessFoldsModel", "isPart", "(I)Z"⟩, 23), (⟨"GuessFoldsModel", "foldsTo", "(II)I"⟩, 23), (⟨"GuessFoldsModel", "wrongFrom", "(II)I"⟩, 23)]
theorem lw_r4 : ∀ q ∈ lw_privs_4, lw_okq q := List.forall_mem_cons.mpr ⟨lw_p48, List.forall_mem_cons.mpr ⟨lw_p49, List.forall_mem_cons.mpr ⟨lw_p50, fun _ h => absurd h List.not_mem_nil⟩⟩⟩
def lw_privs : List (MethodName × Nat) := lw_privs_1 ++ (lw_privs_2 ++ (lw_privs_3 ++ (lw_privs_4)))
def lw_tbl : List Cond := k2_sels lw_privs ++ tables_1
theorem lw_privs_ok : ∀ q ∈ lw_privs, lw_okq q := by
  show ∀ q ∈ lw_privs_1 ++ (lw_privs_2 ++ (lw_privs_3 ++ (lw_privs_4))), lw_okq q
  exact List.forall_mem_append.mpr ⟨lw_r1, List.forall_mem_append.mpr ⟨lw_r2, List.forall_mem_append.mpr ⟨lw_r3, lw_r4⟩⟩⟩
end
section
/-! ===== BEGIN words of one list among another's, by their places ===== -/
theorem goodIn_r {big : List Cond} (ws : List Cond) (ps : List Nat) (hp : ws = ps.filterMap (fun i => big[i]?)) (h : ws.all goodWord = true) : GoodIn big ws := by
  intro w hw
  have h1 := List.all_eq_true.mp h w hw
  rw [hp] at hw
  obtain ⟨i, -, hi⟩ := List.mem_filterMap.mp hw
  have hm : w ∈ big := by first | exact List.mem_of_getElem? hi | exact List.getElem?_mem hi
  exact ⟨hm, good_of_word h1⟩
theorem goodIn_app {big a b : List Cond} (ha : GoodIn big a) (hb : GoodIn big b) : GoodIn big (a ++ b) := fun w h => (List.mem_append.mp h).elim (ha w) (hb w)
theorem goodIn_ca {big a b : List Cond} {c : Cond} (ha : GoodIn big (c :: a)) (hb : GoodIn big b) : GoodIn big (c :: (a ++ b)) := fun w h => (List.mem_cons.mp h).elim (fun e => ha w (List.mem_cons.mpr (Or.inl e))) (fun h => (List.mem_append.mp h).elim (fun h => ha w (List.mem_cons.mpr (Or.inr h))) (hb w))
theorem goodIn_sub {big ws : List Cond} (hm : ∀ w ∈ ws, w ∈ big) (h : ws.all goodWord = true) : GoodIn big ws := fun w hw => ⟨hm w hw, good_of_word (List.all_eq_true.mp h w hw)⟩
/-! ===== END ===== -/

/-! ===== BEGIN printed: names, fields, word lists, decode rows ===== -/
def RX0 : String := "GuessFolds$Now"
def TX0 : u_T := fun k => match k with
  | 0 => ("GuessFolds$Now", "where", "LGuessFolds$Row;", true)
  | 1 => ("GuessFolds$Now", "offness", "LGuessFolds$Row;", true)
  | 2 => ("GuessFolds$Now", "hairs", "LGuessFolds$Row;", true)
  | 3 => ("GuessFolds$Now", "letters", "LGuessFolds$Row;", true)
  | _ => ("GuessFolds$Now", "seen", "LGuessFolds$Row;", true)
def tyX0 : Nat → FieldType := fun k => match k with
  | 0 => .object "GuessFolds$Row"
  | 1 => .object "GuessFolds$Row"
  | 2 => .object "GuessFolds$Row"
  | 3 => .object "GuessFolds$Row"
  | _ => .object "GuessFolds$Row"
abbrev wsX00 : List Cond := u_ws RX0 TX0 5
theorem nmX0 : ∀ a, a < 5 → ∀ b, b < 5 → a ≠ b → (TX0 a).2.1 ≠ (TX0 b).2.1 := by decide +kernel
theorem tyX0_ok : ∀ k, k < 5 → parseFieldDescriptor (TX0 k).2.2.1 = some (tyX0 k) := by decide +kernel
abbrev cX0_init : ByteArray := prog_2_method_1_code
def yX0_init : MethodName := ⟨RX0, "<init>", "()V"⟩
abbrev cX0_creases : ByteArray := prog_2_method_2_code
def yX0_creases : MethodName := ⟨RX0, "creases", "()I"⟩
abbrev cX0_begin : ByteArray := prog_2_method_3_code
def yX0_begin : MethodName := ⟨RX0, "begin", "(II)V"⟩
abbrev cX0_bring : ByteArray := prog_2_method_4_code
def yX0_bring : MethodName := ⟨RX0, "bring", "(II)V"⟩
abbrev cX0_unfold : ByteArray := prog_2_method_5_code
def yX0_unfold : MethodName := ⟨RX0, "unfold", "()V"⟩
abbrev cX0_empty : ByteArray := prog_2_method_6_code
def yX0_empty : MethodName := ⟨RX0, "empty", "()V"⟩
abbrev cX0_copy : ByteArray := prog_2_method_7_code
def yX0_copy : MethodName := ⟨RX0, "copy", "(LGuessFolds$Now;)V"⟩
abbrev cX0_addCrease : ByteArray := prog_2_method_8_code
def yX0_addCrease : MethodName := ⟨RX0, "addCrease", "(JJJ)V"⟩
abbrev cX0_middle : ByteArray := prog_2_method_9_code
def yX0_middle : MethodName := ⟨RX0, "middle", "(LGuessFolds$Row;II)J"⟩
def RX1 : String := "GuessFolds$Row"
def TX1 : u_T := fun k => match k with
  | 0 => ("GuessFolds$Row", "cells", "[J", true)
  | _ => ("GuessFolds$Row", "size", "I", false)
def tyX1 : Nat → FieldType := fun k => match k with
  | 0 => .array .long
  | _ => .int
abbrev wsX10 : List Cond := u_ws RX1 TX1 2
theorem nmX1 : ∀ a, a < 2 → ∀ b, b < 2 → a ≠ b → (TX1 a).2.1 ≠ (TX1 b).2.1 := by decide +kernel
theorem tyX1_ok : ∀ k, k < 2 → parseFieldDescriptor (TX1 k).2.2.1 = some (tyX1 k) := by decide +kernel
abbrev cX1_init : ByteArray := prog_3_method_1_code
def yX1_init : MethodName := ⟨RX1, "<init>", "(I)V"⟩
abbrev cX1_size : ByteArray := prog_3_method_2_code
def yX1_size : MethodName := ⟨RX1, "size", "()I"⟩
abbrev cX1_hasRoom : ByteArray := prog_3_method_3_code
def yX1_hasRoom : MethodName := ⟨RX1, "hasRoom", "(I)Z"⟩
abbrev cX1_at : ByteArray := prog_3_method_4_code
def yX1_at : MethodName := ⟨RX1, "at", "(I)J"⟩
abbrev cX1_add : ByteArray := prog_3_method_5_code
def yX1_add : MethodName := ⟨RX1, "add", "(J)V"⟩
abbrev cX1_dropLast : ByteArray := prog_3_method_6_code
def yX1_dropLast : MethodName := ⟨RX1, "dropLast", "()V"⟩
abbrev cX1_empty : ByteArray := prog_3_method_7_code
def yX1_empty : MethodName := ⟨RX1, "empty", "()I"⟩
abbrev cX1_copy : ByteArray := prog_3_method_8_code
def yX1_copy : MethodName := ⟨RX1, "copy", "(LGuessFolds$Row;)V"⟩
def RX2 : String := "GuessFolds$Text"
def TX2 : u_T := fun k => match k with
  | 0 => ("GuessFolds$Text", "bytes", "LGuessFolds$Row;", true)
  | 1 => ("GuessFolds$Text", "parts", "I", false)
  | 2 => ("GuessFolds$Text", "part", "I", false)
  | 3 => ("GuessFolds$Text", "off", "I", false)
  | 4 => ("GuessFolds$Text", "hair", "I", false)
  | 5 => ("GuessFolds$Text", "firsts", "LGuessFolds$Row;", true)
  | 6 => ("GuessFolds$Text", "seconds", "LGuessFolds$Row;", true)
  | 7 => ("GuessFolds$Text", "items", "I", false)
  | 8 => ("GuessFolds$Text", "place", "I", false)
  | 9 => ("GuessFolds$Text", "behind", "I", false)
  | 10 => ("GuessFolds$Text", "token", "I", false)
  | 11 => ("GuessFolds$Text", "number", "I", false)
  | 12 => ("GuessFolds$Text", "awaited", "I", false)
  | 13 => ("GuessFolds$Text", "word", "I", false)
  | _ => ("GuessFolds$Text", "toldWords", "I", false)
def tyX2 : Nat → FieldType := fun k => match k with
  | 0 => .object "GuessFolds$Row"
  | 1 => .int
  | 2 => .int
  | 3 => .int
  | 4 => .int
  | 5 => .object "GuessFolds$Row"
  | 6 => .object "GuessFolds$Row"
  | 7 => .int
  | 8 => .int
  | 9 => .int
  | 10 => .int
  | 11 => .int
  | 12 => .int
  | 13 => .int
  | _ => .int
abbrev wsX20 : List Cond := u_ws RX2 TX2 15
theorem nmX2 : ∀ a, a < 15 → ∀ b, b < 15 → a ≠ b → (TX2 a).2.1 ≠ (TX2 b).2.1 := by decide +kernel
theorem tyX2_ok : ∀ k, k < 15 → parseFieldDescriptor (TX2 k).2.2.1 = some (tyX2 k) := by decide +kernel
abbrev cX2_init : ByteArray := prog_4_method_1_code
def yX2_init : MethodName := ⟨RX2, "<init>", "()V"⟩
abbrev cX2_read : ByteArray := prog_4_method_2_code
def yX2_read : MethodName := ⟨RX2, "read", "()I"⟩
abbrev cX2_begin : ByteArray := prog_4_method_3_code
def yX2_begin : MethodName := ⟨RX2, "begin", "()V"⟩
abbrev cX2_step : ByteArray := prog_4_method_4_code
def yX2_step : MethodName := ⟨RX2, "step", "()V"⟩
abbrev cX2_wordHere : ByteArray := prog_4_method_5_code
def yX2_wordHere : MethodName := ⟨RX2, "wordHere", "()I"⟩
abbrev cX2_isHere : ByteArray := prog_4_method_6_code
def yX2_isHere : MethodName := ⟨RX2, "isHere", "(Ljava/lang/String;)Z"⟩
abbrev cX2_numberHere : ByteArray := prog_4_method_7_code
def yX2_numberHere : MethodName := ⟨RX2, "numberHere", "()I"⟩
abbrev cX2_isLetter : ByteArray := prog_4_method_8_code
def yX2_isLetter : MethodName := ⟨RX2, "isLetter", "(I)Z"⟩
abbrev cX2_isDigit : ByteArray := prog_4_method_9_code
def yX2_isDigit : MethodName := ⟨RX2, "isDigit", "(I)Z"⟩
abbrev cX2_takesToken : ByteArray := prog_4_method_10_code
def yX2_takesToken : MethodName := ⟨RX2, "takesToken", "()Z"⟩
abbrev cX2_takesWord : ByteArray := prog_4_method_11_code
def yX2_takesWord : MethodName := ⟨RX2, "takesWord", "()Z"⟩
abbrev cX2_mayStand : ByteArray := prog_4_method_12_code
def yX2_mayStand : MethodName := ⟨RX2, "mayStand", "(I)Z"⟩
abbrev cX2_isTold : ByteArray := prog_4_method_13_code
def yX2_isTold : MethodName := ⟨RX2, "isTold", "(I)Z"⟩
abbrev cX2_takesNumber : ByteArray := prog_4_method_14_code
def yX2_takesNumber : MethodName := ⟨RX2, "takesNumber", "()Z"⟩
abbrev cX2_mayBe : ByteArray := prog_4_method_15_code
def yX2_mayBe : MethodName := ⟨RX2, "mayBe", "(I)Z"⟩
abbrev cX2_takesSecond : ByteArray := prog_4_method_16_code
def yX2_takesSecond : MethodName := ⟨RX2, "takesSecond", "()Z"⟩
abbrev cX2_isToldCrease : ByteArray := prog_4_method_17_code
def yX2_isToldCrease : MethodName := ⟨RX2, "isToldCrease", "(I)Z"⟩
abbrev cX2_takesSemicolon : ByteArray := prog_4_method_18_code
def yX2_takesSemicolon : MethodName := ⟨RX2, "takesSemicolon", "()Z"⟩
def RX3 : String := "GuessFolds"
def TX3 : u_T := fun k => match k with
  | 0 => ("GuessFolds", "text", "LGuessFolds$Text;", true)
  | 1 => ("GuessFolds", "now", "LGuessFolds$Now;", true)
  | 2 => ("GuessFolds", "firstImage", "LGuessFolds$Now;", true)
  | 3 => ("GuessFolds", "secondImage", "LGuessFolds$Now;", true)
  | 4 => ("GuessFolds", "parts", "I", false)
  | 5 => ("GuessFolds", "part", "I", false)
  | 6 => ("GuessFolds", "off", "I", false)
  | 7 => ("GuessFolds", "hair", "I", false)
  | _ => ("GuessFolds", "traced", "J", false)
def tyX3 : Nat → FieldType := fun k => match k with
  | 0 => .object "GuessFolds$Text"
  | 1 => .object "GuessFolds$Now"
  | 2 => .object "GuessFolds$Now"
  | 3 => .object "GuessFolds$Now"
  | 4 => .int
  | 5 => .int
  | 6 => .int
  | 7 => .int
  | _ => .long
abbrev wsX30 : List Cond := u_ws RX3 TX3 9
theorem nmX3 : ∀ a, a < 9 → ∀ b, b < 9 → a ≠ b → (TX3 a).2.1 ≠ (TX3 b).2.1 := by decide +kernel
theorem tyX3_ok : ∀ k, k < 9 → parseFieldDescriptor (TX3 k).2.2.1 = some (tyX3 k) := by decide +kernel
abbrev cX3_init : ByteArray := prog_1_method_1_code
def yX3_init : MethodName := ⟨RX3, "<init>", "()V"⟩
abbrev cX3_type : ByteArray := prog_1_method_2_code
def yX3_type : MethodName := ⟨RX3, "type", "(JI)I"⟩
abbrev cX3_clear : ByteArray := prog_1_method_3_code
def yX3_clear : MethodName := ⟨RX3, "clear", "()I"⟩
abbrev cX3_strip : ByteArray := prog_1_method_4_code
def yX3_strip : MethodName := ⟨RX3, "strip", "()I"⟩
abbrev cX3_crease : ByteArray := prog_1_method_5_code
def yX3_crease : MethodName := ⟨RX3, "crease", "(II)J"⟩
abbrev cX3_told : ByteArray := prog_1_method_6_code
def yX3_told : MethodName := ⟨RX3, "told", "(I)I"⟩
abbrev cX3_fold : ByteArray := prog_1_method_7_code
def yX3_fold : MethodName := ⟨RX3, "fold", "(II)I"⟩
abbrev cX3_rule : ByteArray := prog_1_method_8_code
def yX3_rule : MethodName := ⟨RX3, "rule", "()I"⟩
abbrev cX3_undo : ByteArray := prog_1_method_9_code
def yX3_undo : MethodName := ⟨RX3, "undo", "()I"⟩
abbrev cX3_says : ByteArray := prog_1_method_10_code
def yX3_says : MethodName := ⟨RX3, "says", "(I)I"⟩
abbrev cX3_round : ByteArray := prog_1_method_11_code
def yX3_round : MethodName := ⟨RX3, "round", "(I)I"⟩
abbrev cX3_near : ByteArray := prog_1_method_12_code
def yX3_near : MethodName := ⟨RX3, "near", "(I)I"⟩
abbrev cX3_wasted : ByteArray := prog_1_method_13_code
def yX3_wasted : MethodName := ⟨RX3, "wasted", "(I)I"⟩
abbrev cX3_fewest : ByteArray := prog_1_method_14_code
def yX3_fewest : MethodName := ⟨RX3, "fewest", "(I)I"⟩
abbrev cX3_comes : ByteArray := prog_1_method_15_code
def yX3_comes : MethodName := ⟨RX3, "comes", "(I)I"⟩
abbrev cX3_letter : ByteArray := prog_1_method_16_code
def yX3_letter : MethodName := ⟨RX3, "letter", "(I)I"⟩
abbrev cX3_hush : ByteArray := prog_1_method_17_code
def yX3_hush : MethodName := ⟨RX3, "hush", "()I"⟩
abbrev cX3_meant : ByteArray := prog_1_method_18_code
def yX3_meant : MethodName := ⟨RX3, "meant", "(I)I"⟩
abbrev cX3_wrong : ByteArray := prog_1_method_19_code
def yX3_wrong : MethodName := ⟨RX3, "wrong", "()I"⟩
abbrev cX3_got : ByteArray := prog_1_method_20_code
def yX3_got : MethodName := ⟨RX3, "got", "(I)J"⟩
abbrev cX3_saw : ByteArray := prog_1_method_21_code
def yX3_saw : MethodName := ⟨RX3, "saw", "(I)I"⟩
abbrev cX3_forget : ByteArray := prog_1_method_22_code
def yX3_forget : MethodName := ⟨RX3, "forget", "()I"⟩
abbrev cX3_from : ByteArray := prog_1_method_23_code
def yX3_from : MethodName := ⟨RX3, "from", "(I)I"⟩
abbrev cX3_mark : ByteArray := prog_1_method_24_code
def yX3_mark : MethodName := ⟨RX3, "mark", "(II)I"⟩
abbrev cX3_keep : ByteArray := prog_1_method_25_code
def yX3_keep : MethodName := ⟨RX3, "keep", "(I)I"⟩
abbrev cX3_back : ByteArray := prog_1_method_26_code
def yX3_back : MethodName := ⟨RX3, "back", "(I)I"⟩
abbrev cX3_count : ByteArray := prog_1_method_27_code
def yX3_count : MethodName := ⟨RX3, "count", "(I)I"⟩
abbrev cX3_trace : ByteArray := prog_1_method_28_code
def yX3_trace : MethodName := ⟨RX3, "trace", "()J"⟩
abbrev cX3_isCrease : ByteArray := prog_1_method_29_code
def yX3_isCrease : MethodName := ⟨RX3, "isCrease", "(I)Z"⟩
abbrev cX3_isFolded : ByteArray := prog_1_method_30_code
def yX3_isFolded : MethodName := ⟨RX3, "isFolded", "()Z"⟩
abbrev cX3_latest : ByteArray := prog_1_method_31_code
def yX3_latest : MethodName := ⟨RX3, "latest", "()I"⟩
abbrev cX3_partOf : ByteArray := prog_1_method_32_code
def yX3_partOf : MethodName := ⟨RX3, "partOf", "(I)I"⟩
abbrev cX3_creasesAtNoPart : ByteArray := prog_1_method_33_code
def yX3_creasesAtNoPart : MethodName := ⟨RX3, "creasesAtNoPart", "()I"⟩
abbrev cX3_partsWithoutCrease : ByteArray := prog_1_method_34_code
def yX3_partsWithoutCrease : MethodName := ⟨RX3, "partsWithoutCrease", "()I"⟩
abbrev cX3_isInner : ByteArray := prog_1_method_35_code
def yX3_isInner : MethodName := ⟨RX3, "isInner", "(I)Z"⟩
abbrev cX3_sideAt : ByteArray := prog_1_method_36_code
def yX3_sideAt : MethodName := ⟨RX3, "sideAt", "(I)I"⟩
abbrev cX3_ruled : ByteArray := prog_1_method_37_code
def yX3_ruled : MethodName := ⟨RX3, "ruled", "(II)I"⟩
abbrev cX3_foldsAround : ByteArray := prog_1_method_38_code
def yX3_foldsAround : MethodName := ⟨RX3, "foldsAround", "(I)I"⟩
abbrev cX3_starts : ByteArray := prog_1_method_39_code
def yX3_starts : MethodName := ⟨RX3, "starts", "()I"⟩
abbrev cX3_ringOf : ByteArray := prog_1_method_40_code
def yX3_ringOf : MethodName := ⟨RX3, "ringOf", "(I)J"⟩
abbrev cX3_wrongLetter : ByteArray := prog_1_method_41_code
def yX3_wrongLetter : MethodName := ⟨RX3, "wrongLetter", "(II)I"⟩
abbrev cX3_bit : ByteArray := prog_1_method_42_code
def yX3_bit : MethodName := ⟨RX3, "bit", "(I)J"⟩
abbrev cX3_seenSet : ByteArray := prog_1_method_43_code
def yX3_seenSet : MethodName := ⟨RX3, "seenSet", "()J"⟩
abbrev cX3_waysFrom : ByteArray := prog_1_method_44_code
def yX3_waysFrom : MethodName := ⟨RX3, "waysFrom", "(IJ)I"⟩
abbrev cX3_asCrease : ByteArray := prog_1_method_45_code
def yX3_asCrease : MethodName := ⟨RX3, "asCrease", "(I)I"⟩
abbrev cX3_asPinch : ByteArray := prog_1_method_46_code
def yX3_asPinch : MethodName := ⟨RX3, "asPinch", "(I)I"⟩
abbrev cX3_asEnd : ByteArray := prog_1_method_47_code
def yX3_asEnd : MethodName := ⟨RX3, "asEnd", "(I)I"⟩
abbrev cX3_asThumb : ByteArray := prog_1_method_48_code
def yX3_asThumb : MethodName := ⟨RX3, "asThumb", "(I)I"⟩
abbrev cX3_asCorner : ByteArray := prog_1_method_49_code
def yX3_asCorner : MethodName := ⟨RX3, "asCorner", "(I)I"⟩
abbrev cX3_asSeam : ByteArray := prog_1_method_50_code
def yX3_asSeam : MethodName := ⟨RX3, "asSeam", "(I)I"⟩
abbrev cX3_imageOf : ByteArray := prog_1_method_51_code
def yX3_imageOf : MethodName := ⟨RX3, "imageOf", "(I)LGuessFolds$Now;"⟩
abbrev cX3_leastUpper : ByteArray := prog_1_method_52_code
def yX3_leastUpper : MethodName := ⟨RX3, "leastUpper", "(JJ)J"⟩
abbrev cX3_leastLower : ByteArray := prog_1_method_53_code
def yX3_leastLower : MethodName := ⟨RX3, "leastLower", "(JJ)J"⟩
abbrev cX3_shared : ByteArray := prog_1_method_54_code
def yX3_shared : MethodName := ⟨RX3, "shared", "(JJ)J"⟩
def RX4 : String := "GuessFoldsModel"
def TX4 : u_T := fun k => match k with
  | 0 => ("GuessFoldsModel", "text", "[I", true)
  | 1 => ("GuessFoldsModel", "size", "I", false)
  | 2 => ("GuessFoldsModel", "parts", "I", false)
  | 3 => ("GuessFoldsModel", "guess", "I", false)
  | 4 => ("GuessFoldsModel", "off", "I", false)
  | 5 => ("GuessFoldsModel", "hair", "I", false)
  | 6 => ("GuessFoldsModel", "creases", "I", false)
  | 7 => ("GuessFoldsModel", "where", "[J", true)
  | 8 => ("GuessFoldsModel", "offness", "[J", true)
  | 9 => ("GuessFoldsModel", "hairs", "[J", true)
  | 10 => ("GuessFoldsModel", "letters", "I", false)
  | 11 => ("GuessFoldsModel", "row", "[I", true)
  | 12 => ("GuessFoldsModel", "seen", "I", false)
  | 13 => ("GuessFoldsModel", "sight", "[I", true)
  | 14 => ("GuessFoldsModel", "images", "[J", true)
  | 15 => ("GuessFoldsModel", "trace", "J", false)
  | 16 => ("GuessFoldsModel", "at", "I", false)
  | 17 => ("GuessFoldsModel", "begin", "I", false)
  | 18 => ("GuessFoldsModel", "kind", "I", false)
  | 19 => ("GuessFoldsModel", "value", "J", false)
  | 20 => ("GuessFoldsModel", "readTold", "[I", true)
  | 21 => ("GuessFoldsModel", "readFolds", "I", false)
  | _ => ("GuessFoldsModel", "readFold", "[I", true)
def tyX4 : Nat → FieldType := fun k => match k with
  | 0 => .array .int
  | 1 => .int
  | 2 => .int
  | 3 => .int
  | 4 => .int
  | 5 => .int
  | 6 => .int
  | 7 => .array .long
  | 8 => .array .long
  | 9 => .array .long
  | 10 => .int
  | 11 => .array .int
  | 12 => .int
  | 13 => .array .int
  | 14 => .array .long
  | 15 => .long
  | 16 => .int
  | 17 => .int
  | 18 => .int
  | 19 => .long
  | 20 => .array .int
  | 21 => .int
  | _ => .array .int
abbrev wsX40 : List Cond := u_ws RX4 TX4 23
theorem nmX4 : ∀ a, a < 23 → ∀ b, b < 23 → a ≠ b → (TX4 a).2.1 ≠ (TX4 b).2.1 := by decide +kernel
theorem tyX4_ok : ∀ k, k < 23 → parseFieldDescriptor (TX4 k).2.2.1 = some (tyX4 k) := by decide +kernel
abbrev cX4_init : ByteArray := prog_6_method_1_code
def yX4_init : MethodName := ⟨RX4, "<init>", "()V"⟩
abbrev cX4_in : ByteArray := prog_6_method_3_code
def yX4_in : MethodName := ⟨RX4, "in", "(JJJ)Z"⟩
abbrev cX4_begin : ByteArray := prog_6_method_4_code
def yX4_begin : MethodName := ⟨RX4, "begin", "()V"⟩
abbrev cX4_folds : ByteArray := prog_6_method_5_code
def yX4_folds : MethodName := ⟨RX4, "folds", "(II)V"⟩
abbrev cX4_type : ByteArray := prog_6_method_6_code
def yX4_type : MethodName := ⟨RX4, "type", "(JI)I"⟩
abbrev cX4_clear : ByteArray := prog_6_method_7_code
def yX4_clear : MethodName := ⟨RX4, "clear", "()I"⟩
abbrev cX4_isLetter : ByteArray := prog_6_method_8_code
def yX4_isLetter : MethodName := ⟨RX4, "isLetter", "(I)Z"⟩
abbrev cX4_isFigure : ByteArray := prog_6_method_9_code
def yX4_isFigure : MethodName := ⟨RX4, "isFigure", "(I)Z"⟩
abbrev cX4_next : ByteArray := prog_6_method_10_code
def yX4_next : MethodName := ⟨RX4, "next", "()V"⟩
abbrev cX4_takes : ByteArray := prog_6_method_11_code
def yX4_takes : MethodName := ⟨RX4, "takes", "(II)Z"⟩
abbrev cX4_stops : ByteArray := prog_6_method_12_code
def yX4_stops : MethodName := ⟨RX4, "stops", "()Z"⟩
abbrev cX4_readParts : ByteArray := prog_6_method_13_code
def yX4_readParts : MethodName := ⟨RX4, "readParts", "()I"⟩
abbrev cX4_takesTold : ByteArray := prog_6_method_14_code
def yX4_takesTold : MethodName := ⟨RX4, "takesTold", "(I)Z"⟩
abbrev cX4_takesFold : ByteArray := prog_6_method_15_code
def yX4_takesFold : MethodName := ⟨RX4, "takesFold", "()Z"⟩
abbrev cX4_takesAll : ByteArray := prog_6_method_16_code
def yX4_takesAll : MethodName := ⟨RX4, "takesAll", "()I"⟩
abbrev cX4_strip : ByteArray := prog_6_method_17_code
def yX4_strip : MethodName := ⟨RX4, "strip", "()I"⟩
abbrev cX4_isCrease : ByteArray := prog_6_method_18_code
def yX4_isCrease : MethodName := ⟨RX4, "isCrease", "(I)Z"⟩
abbrev cX4_partOf : ByteArray := prog_6_method_19_code
def yX4_partOf : MethodName := ⟨RX4, "partOf", "(I)I"⟩
abbrev cX4_least : ByteArray := prog_6_method_20_code
def yX4_least : MethodName := ⟨RX4, "least", "(JJZ)J"⟩
abbrev cX4_crease : ByteArray := prog_6_method_21_code
def yX4_crease : MethodName := ⟨RX4, "crease", "(II)J"⟩
abbrev cX4_told : ByteArray := prog_6_method_22_code
def yX4_told : MethodName := ⟨RX4, "told", "(I)I"⟩
abbrev cX4_fold : ByteArray := prog_6_method_23_code
def yX4_fold : MethodName := ⟨RX4, "fold", "(II)I"⟩
abbrev cX4_isPart : ByteArray := prog_6_method_24_code
def yX4_isPart : MethodName := ⟨RX4, "isPart", "(I)Z"⟩
abbrev cX4_rule : ByteArray := prog_6_method_25_code
def yX4_rule : MethodName := ⟨RX4, "rule", "()I"⟩
abbrev cX4_undo : ByteArray := prog_6_method_26_code
def yX4_undo : MethodName := ⟨RX4, "undo", "()I"⟩
abbrev cX4_says : ByteArray := prog_6_method_27_code
def yX4_says : MethodName := ⟨RX4, "says", "(I)I"⟩
abbrev cX4_goes : ByteArray := prog_6_method_28_code
def yX4_goes : MethodName := ⟨RX4, "goes", "(II)I"⟩
abbrev cX4_foldsTo : ByteArray := prog_6_method_29_code
def yX4_foldsTo : MethodName := ⟨RX4, "foldsTo", "(II)I"⟩
abbrev cX4_round : ByteArray := prog_6_method_30_code
def yX4_round : MethodName := ⟨RX4, "round", "(I)I"⟩
abbrev cX4_near : ByteArray := prog_6_method_31_code
def yX4_near : MethodName := ⟨RX4, "near", "(I)I"⟩
abbrev cX4_wasted : ByteArray := prog_6_method_32_code
def yX4_wasted : MethodName := ⟨RX4, "wasted", "(I)I"⟩
abbrev cX4_fewest : ByteArray := prog_6_method_33_code
def yX4_fewest : MethodName := ⟨RX4, "fewest", "(I)I"⟩
abbrev cX4_comes : ByteArray := prog_6_method_34_code
def yX4_comes : MethodName := ⟨RX4, "comes", "(I)I"⟩
abbrev cX4_letter : ByteArray := prog_6_method_35_code
def yX4_letter : MethodName := ⟨RX4, "letter", "(I)I"⟩
abbrev cX4_hush : ByteArray := prog_6_method_36_code
def yX4_hush : MethodName := ⟨RX4, "hush", "()I"⟩
abbrev cX4_wrongFrom : ByteArray := prog_6_method_37_code
def yX4_wrongFrom : MethodName := ⟨RX4, "wrongFrom", "(II)I"⟩
abbrev cX4_meant : ByteArray := prog_6_method_38_code
def yX4_meant : MethodName := ⟨RX4, "meant", "(I)I"⟩
abbrev cX4_wrong : ByteArray := prog_6_method_39_code
def yX4_wrong : MethodName := ⟨RX4, "wrong", "()I"⟩
abbrev cX4_got : ByteArray := prog_6_method_40_code
def yX4_got : MethodName := ⟨RX4, "got", "(I)J"⟩
abbrev cX4_saw : ByteArray := prog_6_method_41_code
def yX4_saw : MethodName := ⟨RX4, "saw", "(I)I"⟩
abbrev cX4_forget : ByteArray := prog_6_method_42_code
def yX4_forget : MethodName := ⟨RX4, "forget", "()I"⟩
abbrev cX4_from : ByteArray := prog_6_method_43_code
def yX4_from : MethodName := ⟨RX4, "from", "(I)I"⟩
abbrev cX4_mark : ByteArray := prog_6_method_44_code
def yX4_mark : MethodName := ⟨RX4, "mark", "(II)I"⟩
abbrev cX4_keep : ByteArray := prog_6_method_45_code
def yX4_keep : MethodName := ⟨RX4, "keep", "(I)I"⟩
abbrev cX4_back : ByteArray := prog_6_method_46_code
def yX4_back : MethodName := ⟨RX4, "back", "(I)I"⟩
abbrev cX4_count : ByteArray := prog_6_method_47_code
def yX4_count : MethodName := ⟨RX4, "count", "(I)I"⟩
abbrev cX4_trace : ByteArray := prog_6_method_48_code
def yX4_trace : MethodName := ⟨RX4, "trace", "()J"⟩
def RJ13 : String := "java/lang/Long"
def TJ13 : u_T := fun k => match k with
  | _ => ("", "", "", false)
def tyJ13 : Nat → FieldType := fun k => match k with
  | _ => .int
abbrev wsJ130 : List Cond := u_ws RJ13 TJ13 0
theorem nmJ13 : ∀ a, a < 0 → ∀ b, b < 0 → a ≠ b → (TJ13 a).2.1 ≠ (TJ13 b).2.1 := by decide +kernel
theorem tyJ13_ok : ∀ k, k < 0 → parseFieldDescriptor (TJ13 k).2.2.1 = some (tyJ13 k) := by decide +kernel
abbrev cJ13_bitCount_95d88 : ByteArray := prog_7_method_50_code
def yJ13_bitCount_95d88 : MethodName := ⟨RJ13, "bitCount", "(J)I"⟩
def RJ9 : String := "java/lang/Math"
def TJ9 : u_T := fun k => match k with
  | _ => ("", "", "", false)
def tyJ9 : Nat → FieldType := fun k => match k with
  | _ => .int
abbrev wsJ90 : List Cond := u_ws RJ9 TJ9 0
theorem nmJ9 : ∀ a, a < 0 → ∀ b, b < 0 → a ≠ b → (TJ9 a).2.1 ≠ (TJ9 b).2.1 := by decide +kernel
theorem tyJ9_ok : ∀ k, k < 0 → parseFieldDescriptor (TJ9 k).2.2.1 = some (tyJ9 k) := by decide +kernel
abbrev cJ9_max_7cf53 : ByteArray := prog_8_method_65_code
def yJ9_max_7cf53 : MethodName := ⟨RJ9, "max", "(II)I"⟩
abbrev cJ9_min_7cf53 : ByteArray := prog_8_method_69_code
def yJ9_min_7cf53 : MethodName := ⟨RJ9, "min", "(II)I"⟩
def RJ0 : String := "java/lang/String"
def TJ0 : u_T := fun k => match k with
  | _ => ("", "", "", false)
def tyJ0 : Nat → FieldType := fun k => match k with
  | _ => .int
abbrev wsJ00 : List Cond := u_ws RJ0 TJ0 0
theorem nmJ0 : ∀ a, a < 0 → ∀ b, b < 0 → a ≠ b → (TJ0 a).2.1 ≠ (TJ0 b).2.1 := by decide +kernel
theorem tyJ0_ok : ∀ k, k < 0 → parseFieldDescriptor (TJ0 k).2.2.1 = some (tyJ0 k) := by decide +kernel
abbrev cJ0_length_8abf5 : ByteArray := prog_9_method_54_code
def yJ0_length_8abf5 : MethodName := ⟨RJ0, "length", "()I"⟩
abbrev cJ0_charAt_5068e : ByteArray := prog_9_method_56_code
def yJ0_charAt_5068e : MethodName := ⟨RJ0, "charAt", "(I)C"⟩
abbrev cJ0_coder_7d493 : ByteArray := prog_9_method_152_code
def yJ0_coder_7d493 : MethodName := ⟨RJ0, "coder", "()B"⟩
abbrev cJ0_isLatin1_aae02 : ByteArray := prog_9_method_154_code
def yJ0_isLatin1_aae02 : MethodName := ⟨RJ0, "isLatin1", "()Z"⟩
abbrev cJ0_checkIndex_df160 : ByteArray := prog_9_method_155_code
def yJ0_checkIndex_df160 : MethodName := ⟨RJ0, "checkIndex", "(II)V"⟩
def RJ1 : String := "java/lang/StringLatin1"
def TJ1 : u_T := fun k => match k with
  | _ => ("", "", "", false)
def tyJ1 : Nat → FieldType := fun k => match k with
  | _ => .int
abbrev wsJ10 : List Cond := u_ws RJ1 TJ1 0
theorem nmJ1 : ∀ a, a < 0 → ∀ b, b < 0 → a ≠ b → (TJ1 a).2.1 ≠ (TJ1 b).2.1 := by decide +kernel
theorem tyJ1_ok : ∀ k, k < 0 → parseFieldDescriptor (TJ1 k).2.2.1 = some (tyJ1 k) := by decide +kernel
abbrev cJ1_charAt_3b067 : ByteArray := prog_10_method_2_code
def yJ1_charAt_3b067 : MethodName := ⟨RJ1, "charAt", "([BI)C"⟩
def RJ2 : String := "java/lang/StringUTF16"
def TJ2 : u_T := fun k => match k with
  | _ => ("", "", "", false)
def tyJ2 : Nat → FieldType := fun k => match k with
  | _ => .int
abbrev wsJ20 : List Cond := u_ws RJ2 TJ2 0
theorem nmJ2 : ∀ a, a < 0 → ∀ b, b < 0 → a ≠ b → (TJ2 a).2.1 ≠ (TJ2 b).2.1 := by decide +kernel
theorem tyJ2_ok : ∀ k, k < 0 → parseFieldDescriptor (TJ2 k).2.2.1 = some (tyJ2 k) := by decide +kernel
abbrev cJ2_getChar_3b067 : ByteArray := prog_11_method_5_code
def yJ2_getChar_3b067 : MethodName := ⟨RJ2, "getChar", "([BI)C"⟩
abbrev cJ2_length_9d52b : ByteArray := prog_11_method_6_code
def yJ2_length_9d52b : MethodName := ⟨RJ2, "length", "([B)I"⟩
abbrev cJ2_charAt_3b067 : ByteArray := prog_11_method_83_code
def yJ2_charAt_3b067 : MethodName := ⟨RJ2, "charAt", "([BI)C"⟩
abbrev cJ2_checkIndex_2214a : ByteArray := prog_11_method_91_code
def yJ2_checkIndex_2214a : MethodName := ⟨RJ2, "checkIndex", "(I[B)V"⟩
def RJ3 : String := "jdk/internal/util/Preconditions"
def TJ3 : u_T := fun k => match k with
  | _ => ("", "", "", false)
def tyJ3 : Nat → FieldType := fun k => match k with
  | _ => .int
abbrev wsJ30 : List Cond := u_ws RJ3 TJ3 0
theorem nmJ3 : ∀ a, a < 0 → ∀ b, b < 0 → a ≠ b → (TJ3 a).2.1 ≠ (TJ3 b).2.1 := by decide +kernel
theorem tyJ3_ok : ∀ k, k < 0 → parseFieldDescriptor (TJ3 k).2.2.1 = some (tyJ3 k) := by decide +kernel
abbrev cJ3_checkIndex_8e157 : ByteArray := prog_12_method_11_code
def yJ3_checkIndex_8e157 : MethodName := ⟨RJ3, "checkIndex", "(IILjava/util/function/BiFunction;)I"⟩
def RL : String := "GuessFoldsLaw"
abbrev cL_law : ByteArray := code
def yL_law : MethodName := ⟨RL, "law", "([I)Z"⟩
def wsX1_init : List Cond := .code yX1_init cX1_init 2 none :: ([.methodLink RX1 1 objectInit, .instanceMethod objectInit, .code objectInit ⟨#[0xb1]⟩ 1 none, .fieldLink RX1 7 "GuessFolds$Row" "size" "I", .methodLink RX1 13 Lib.Math.max.name, .static Lib.Math.max.name, .initialized "java/lang/Math", .code Lib.Math.max.name Lib.Math.max.code 2 (some .int), .arrayClass .long, .fieldLink RX1 19 "GuessFolds$Row" "cells" "[J"] ++ wsX10)
def wsX0_init : List Cond := .code yX0_init cX0_init 1 none :: ([.methodLink RX0 3 objectInit, .instanceMethod objectInit, .code objectInit ⟨#[0xb1]⟩ 1 none, .classLink RX0 9 RX1, .instantiable RX1 2, .initialized RX1, .fieldLink RX0 14 "GuessFolds$Now" "where" "LGuessFolds$Row;", .fieldLink RX0 20 "GuessFolds$Now" "offness" "LGuessFolds$Row;", .fieldLink RX0 23 "GuessFolds$Now" "hairs" "LGuessFolds$Row;", .fieldLink RX0 26 "GuessFolds$Now" "letters" "LGuessFolds$Row;", .fieldLink RX0 29 "GuessFolds$Now" "seen" "LGuessFolds$Row;", .methodLink RX0 11 yX1_init, .instanceMethod yX1_init, .code yX1_init cX1_init 2 none, .methodLink RX1 1 objectInit, .fieldLink RX1 7 "GuessFolds$Row" "size" "I", .methodLink RX1 13 Lib.Math.max.name, .static Lib.Math.max.name, .initialized "java/lang/Math", .code Lib.Math.max.name Lib.Math.max.code 2 (some .int), .arrayClass .long, .fieldLink RX1 19 "GuessFolds$Row" "cells" "[J"] ++ wsX10 ++ wsX00)
def wsX1_size : List Cond := .code yX1_size cX1_size 1 (some .int) :: ([.fieldLink RX1 7 "GuessFolds$Row" "size" "I"] ++ wsX10)
def wsX0_creases : List Cond := .code yX0_creases cX0_creases 1 (some .int) :: ([.fieldLink RX0 14 "GuessFolds$Now" "where" "LGuessFolds$Row;", .methodLink RX0 32 yX1_size, .instanceMethod yX1_size, .selects RX1 yX1_size yX1_size, .initialized RX1, .code yX1_size cX1_size 1 (some .int), .fieldLink RX1 7 "GuessFolds$Row" "size" "I"] ++ wsX00 ++ wsX10)
def wsX1_empty : List Cond := .code yX1_empty cX1_empty 2 (some .int) :: ([.fieldLink RX1 7 "GuessFolds$Row" "size" "I"] ++ wsX10)
def wsX0_empty : List Cond := .code yX0_empty cX0_empty 1 none :: ([.fieldLink RX0 14 "GuessFolds$Now" "where" "LGuessFolds$Row;", .fieldLink RX0 20 "GuessFolds$Now" "offness" "LGuessFolds$Row;", .fieldLink RX0 23 "GuessFolds$Now" "hairs" "LGuessFolds$Row;", .fieldLink RX0 26 "GuessFolds$Now" "letters" "LGuessFolds$Row;", .fieldLink RX0 29 "GuessFolds$Now" "seen" "LGuessFolds$Row;", .methodLink RX0 52 yX1_empty, .instanceMethod yX1_empty, .selects RX1 yX1_empty yX1_empty, .initialized RX1, .code yX1_empty cX1_empty 2 (some .int), .fieldLink RX1 7 "GuessFolds$Row" "size" "I"] ++ wsX00 ++ wsX10)
def wsX1_add : List Cond := .code yX1_add cX1_add 3 none :: ([.fieldLink RX1 7 "GuessFolds$Row" "size" "I", .fieldLink RX1 19 "GuessFolds$Row" "cells" "[J"] ++ wsX10)
def wsX0_addCrease : List Cond := .code yX0_addCrease cX0_addCrease 7 none :: ([.fieldLink RX0 14 "GuessFolds$Now" "where" "LGuessFolds$Row;", .fieldLink RX0 20 "GuessFolds$Now" "offness" "LGuessFolds$Row;", .fieldLink RX0 23 "GuessFolds$Now" "hairs" "LGuessFolds$Row;", .methodLink RX0 58 yX1_add, .instanceMethod yX1_add, .selects RX1 yX1_add yX1_add, .initialized RX1, .code yX1_add cX1_add 3 none, .fieldLink RX1 7 "GuessFolds$Row" "size" "I", .fieldLink RX1 19 "GuessFolds$Row" "cells" "[J"] ++ wsX00 ++ wsX10)
def wsX0_begin_r1 : List Cond := [Cond.constantLong RX0 43 (1048576), Cond.methodLink RX0 36 yX0_empty, Cond.instanceMethod yX0_empty, Cond.selects RX0 yX0_empty yX0_empty, Cond.initialized RX0, Cond.code yX0_empty cX0_empty 1 none, Cond.fieldLink RX0 14 "GuessFolds$Now" "where" "LGuessFolds$Row;", Cond.fieldLink RX0 20 "GuessFolds$Now" "offness" "LGuessFolds$Row;", Cond.fieldLink RX0 23 "GuessFolds$Now" "hairs" "LGuessFolds$Row;", Cond.fieldLink RX0 26 "GuessFolds$Now" "letters" "LGuessFolds$Row;", Cond.fieldLink RX0 29 "GuessFolds$Now" "seen" "LGuessFolds$Row;", Cond.methodLink RX0 52 yX1_empty, Cond.instanceMethod yX1_empty, Cond.selects RX1 yX1_empty yX1_empty, Cond.initialized RX1, Cond.code yX1_empty cX1_empty 2 (some .int), Cond.fieldLink RX1 7 "GuessFolds$Row" "size" "I", Cond.methodLink RX0 39 yX0_addCrease, Cond.instanceMethod yX0_addCrease, Cond.selects RX0 yX0_addCrease yX0_addCrease, Cond.code yX0_addCrease cX0_addCrease 7 none, Cond.methodLink RX0 58 yX1_add, Cond.instanceMethod yX1_add, Cond.selects RX1 yX1_add yX1_add]
def wsX0_begin_r2 : List Cond := [Cond.code yX1_add cX1_add 3 none, Cond.fieldLink RX1 19 "GuessFolds$Row" "cells" "[J"]
def wsX0_begin : List Cond := .code yX0_begin cX0_begin 3 none :: ((wsX0_begin_r1 ++ wsX0_begin_r2) ++ wsX00 ++ wsX10)
def wsX1_at : List Cond := .code yX1_at cX1_at 2 (some .long) :: ([.fieldLink RX1 19 "GuessFolds$Row" "cells" "[J"] ++ wsX10)
def wsX0_middle : List Cond := .code yX0_middle cX0_middle 3 (some .long) :: ([.constantLong RX0 66 (2), .methodLink RX0 62 yX1_at, .instanceMethod yX1_at, .selects RX1 yX1_at yX1_at, .initialized RX1, .code yX1_at cX1_at 2 (some .long), .fieldLink RX1 19 "GuessFolds$Row" "cells" "[J"] ++ wsX10)
def wsX0_bring : List Cond := .code yX0_bring cX0_bring 3 none :: ([.fieldLink RX0 14 "GuessFolds$Now" "where" "LGuessFolds$Row;", .fieldLink RX0 20 "GuessFolds$Now" "offness" "LGuessFolds$Row;", .fieldLink RX0 23 "GuessFolds$Now" "hairs" "LGuessFolds$Row;", .constantLong RX0 43 (1048576), .methodLink RX0 45 yX0_middle, .static yX0_middle, .initialized RX0, .code yX0_middle cX0_middle 3 (some .long), .constantLong RX0 66 (2), .methodLink RX0 62 yX1_at, .instanceMethod yX1_at, .selects RX1 yX1_at yX1_at, .initialized RX1, .code yX1_at cX1_at 2 (some .long), .fieldLink RX1 19 "GuessFolds$Row" "cells" "[J", .methodLink RX0 39 yX0_addCrease, .instanceMethod yX0_addCrease, .selects RX0 yX0_addCrease yX0_addCrease, .code yX0_addCrease cX0_addCrease 7 none, .methodLink RX0 58 yX1_add, .instanceMethod yX1_add, .selects RX1 yX1_add yX1_add, .code yX1_add cX1_add 3 none, .fieldLink RX1 7 "GuessFolds$Row" "size" "I"] ++ wsX00 ++ wsX10)
def wsX1_dropLast : List Cond := .code yX1_dropLast cX1_dropLast 1 none :: ([.fieldLink RX1 7 "GuessFolds$Row" "size" "I", .methodLink RX1 13 Lib.Math.max.name, .static Lib.Math.max.name, .initialized "java/lang/Math", .code Lib.Math.max.name Lib.Math.max.code 2 (some .int)] ++ wsX10)
def wsX0_unfold : List Cond := .code yX0_unfold cX0_unfold 1 none :: ([.fieldLink RX0 14 "GuessFolds$Now" "where" "LGuessFolds$Row;", .fieldLink RX0 20 "GuessFolds$Now" "offness" "LGuessFolds$Row;", .fieldLink RX0 23 "GuessFolds$Now" "hairs" "LGuessFolds$Row;", .methodLink RX0 49 yX1_dropLast, .instanceMethod yX1_dropLast, .selects RX1 yX1_dropLast yX1_dropLast, .initialized RX1, .code yX1_dropLast cX1_dropLast 1 none, .fieldLink RX1 7 "GuessFolds$Row" "size" "I", .methodLink RX1 13 Lib.Math.max.name, .static Lib.Math.max.name, .initialized "java/lang/Math", .code Lib.Math.max.name Lib.Math.max.code 2 (some .int)] ++ wsX00 ++ wsX10)
def wsX1_copy : List Cond := .code yX1_copy cX1_copy 3 none :: ([.fieldLink RX1 7 "GuessFolds$Row" "size" "I", .methodLink RX1 23 yX1_empty, .instanceMethod yX1_empty, .selects RX1 yX1_empty yX1_empty, .initialized RX1, .code yX1_empty cX1_empty 2 (some .int), .methodLink RX1 27 yX1_at, .instanceMethod yX1_at, .selects RX1 yX1_at yX1_at, .code yX1_at cX1_at 2 (some .long), .fieldLink RX1 19 "GuessFolds$Row" "cells" "[J", .methodLink RX1 31 yX1_add, .instanceMethod yX1_add, .selects RX1 yX1_add yX1_add, .code yX1_add cX1_add 3 none] ++ wsX10)
def wsX0_copy : List Cond := .code yX0_copy cX0_copy 2 none :: ([.fieldLink RX0 14 "GuessFolds$Now" "where" "LGuessFolds$Row;", .fieldLink RX0 20 "GuessFolds$Now" "offness" "LGuessFolds$Row;", .fieldLink RX0 23 "GuessFolds$Now" "hairs" "LGuessFolds$Row;", .fieldLink RX0 26 "GuessFolds$Now" "letters" "LGuessFolds$Row;", .fieldLink RX0 29 "GuessFolds$Now" "seen" "LGuessFolds$Row;", .methodLink RX0 54 yX1_copy, .instanceMethod yX1_copy, .selects RX1 yX1_copy yX1_copy, .initialized RX1, .code yX1_copy cX1_copy 3 none, .fieldLink RX1 7 "GuessFolds$Row" "size" "I", .methodLink RX1 23 yX1_empty, .instanceMethod yX1_empty, .selects RX1 yX1_empty yX1_empty, .code yX1_empty cX1_empty 2 (some .int), .methodLink RX1 27 yX1_at, .instanceMethod yX1_at, .selects RX1 yX1_at yX1_at, .code yX1_at cX1_at 2 (some .long), .fieldLink RX1 19 "GuessFolds$Row" "cells" "[J", .methodLink RX1 31 yX1_add, .instanceMethod yX1_add, .selects RX1 yX1_add yX1_add, .code yX1_add cX1_add 3 none] ++ wsX00 ++ wsX10)
def wsX1_hasRoom : List Cond := .code yX1_hasRoom cX1_hasRoom 2 (some .boolean) :: ([.fieldLink RX1 7 "GuessFolds$Row" "size" "I", .fieldLink RX1 19 "GuessFolds$Row" "cells" "[J"] ++ wsX10)
def wsX2_init : List Cond := .code yX2_init cX2_init 1 none :: ([.methodLink RX2 3 objectInit, .instanceMethod objectInit, .code objectInit ⟨#[0xb1]⟩ 1 none, .classLink RX2 9 RX1, .instantiable RX1 2, .initialized RX1, .fieldLink RX2 14 "GuessFolds$Text" "bytes" "LGuessFolds$Row;", .fieldLink RX2 20 "GuessFolds$Text" "firsts" "LGuessFolds$Row;", .fieldLink RX2 23 "GuessFolds$Text" "seconds" "LGuessFolds$Row;", .methodLink RX2 11 yX1_init, .instanceMethod yX1_init, .code yX1_init cX1_init 2 none, .methodLink RX1 1 objectInit, .fieldLink RX1 7 "GuessFolds$Row" "size" "I", .methodLink RX1 13 Lib.Math.max.name, .static Lib.Math.max.name, .initialized "java/lang/Math", .code Lib.Math.max.name Lib.Math.max.code 2 (some .int), .arrayClass .long, .fieldLink RX1 19 "GuessFolds$Row" "cells" "[J"] ++ wsX10 ++ wsX20)
def wsX2_begin : List Cond := .code yX2_begin cX2_begin 1 none :: ([.fieldLink RX2 46 "GuessFolds$Text" "parts" "I", .fieldLink RX2 49 "GuessFolds$Text" "part" "I", .fieldLink RX2 52 "GuessFolds$Text" "off" "I", .fieldLink RX2 55 "GuessFolds$Text" "hair" "I", .fieldLink RX2 20 "GuessFolds$Text" "firsts" "LGuessFolds$Row;", .fieldLink RX2 23 "GuessFolds$Text" "seconds" "LGuessFolds$Row;", .fieldLink RX2 62 "GuessFolds$Text" "items" "I", .fieldLink RX2 65 "GuessFolds$Text" "behind" "I", .fieldLink RX2 36 "GuessFolds$Text" "awaited" "I", .fieldLink RX2 68 "GuessFolds$Text" "toldWords" "I", .methodLink RX2 58 yX1_empty, .instanceMethod yX1_empty, .selects RX1 yX1_empty yX1_empty, .initialized RX1, .code yX1_empty cX1_empty 2 (some .int), .fieldLink RX1 7 "GuessFolds$Row" "size" "I"] ++ wsX20 ++ wsX10)
def wsX2_isLetter : List Cond := .code yX2_isLetter cX2_isLetter 2 (some .boolean) :: ([.fieldLink RX2 14 "GuessFolds$Text" "bytes" "LGuessFolds$Row;", .constantLong RX2 126 (97), .constantLong RX2 128 (122), .methodLink RX2 71 yX1_size, .instanceMethod yX1_size, .selects RX1 yX1_size yX1_size, .initialized RX1, .code yX1_size cX1_size 1 (some .int), .fieldLink RX1 7 "GuessFolds$Row" "size" "I", .methodLink RX2 74 yX1_at, .instanceMethod yX1_at, .selects RX1 yX1_at yX1_at, .code yX1_at cX1_at 2 (some .long), .fieldLink RX1 19 "GuessFolds$Row" "cells" "[J"] ++ wsX20 ++ wsX10)
def wsJ0_coder_7d493 : List Cond := .code yJ0_coder_7d493 cJ0_coder_7d493 1 (some .byte) :: ([.fieldLink RJ0 38 "java/lang/String" "COMPACT_STRINGS" "Z", .fieldLink RJ0 15 "java/lang/String" "coder" "B"])
def wsJ0_length_8abf5 : List Cond := .code yJ0_length_8abf5 cJ0_length_8abf5 1 (some .int) :: ([.fieldLink RJ0 9 "java/lang/String" "value" "[B", .methodLink RJ0 335 yJ0_coder_7d493, .instanceMethod yJ0_coder_7d493, .selects RJ0 yJ0_coder_7d493 yJ0_coder_7d493, .initialized RJ0, .code yJ0_coder_7d493 cJ0_coder_7d493 1 (some .byte), .fieldLink RJ0 38 "java/lang/String" "COMPACT_STRINGS" "Z", .fieldLink RJ0 15 "java/lang/String" "coder" "B"])
def wsJ0_isLatin1_aae02 : List Cond := .code yJ0_isLatin1_aae02 cJ0_isLatin1_aae02 1 (some .boolean) :: ([.fieldLink RJ0 38 "java/lang/String" "COMPACT_STRINGS" "Z", .fieldLink RJ0 15 "java/lang/String" "coder" "B"])
def wsJ3_checkIndex_8e157 : List Cond := .code yJ3_checkIndex_8e157 cJ3_checkIndex_8e157 3 (some .int) :: ([])
def wsJ0_checkIndex_df160 : List Cond := .code yJ0_checkIndex_df160 cJ0_checkIndex_df160 2 none :: ([.fieldLink RJ0 1053 "jdk/internal/util/Preconditions" "SIOOBE_FORMATTER" "Ljava/util/function/BiFunction;", .methodLink RJ0 1059 yJ3_checkIndex_8e157, .static yJ3_checkIndex_8e157, .initialized RJ3, .code yJ3_checkIndex_8e157 cJ3_checkIndex_8e157 3 (some .int)])
def wsJ1_charAt_3b067 : List Cond := .code yJ1_charAt_3b067 cJ1_charAt_3b067 2 (some .char) :: ([.methodLink RJ1 9 yJ0_checkIndex_df160, .static yJ0_checkIndex_df160, .initialized RJ0, .code yJ0_checkIndex_df160 cJ0_checkIndex_df160 2 none, .fieldLink RJ0 1053 "jdk/internal/util/Preconditions" "SIOOBE_FORMATTER" "Ljava/util/function/BiFunction;", .methodLink RJ0 1059 yJ3_checkIndex_8e157, .static yJ3_checkIndex_8e157, .initialized RJ3, .code yJ3_checkIndex_8e157 cJ3_checkIndex_8e157 3 (some .int)])
def wsJ2_length_9d52b : List Cond := .code yJ2_length_9d52b cJ2_length_9d52b 1 (some .int) :: ([])
def wsJ2_checkIndex_2214a : List Cond := .code yJ2_checkIndex_2214a cJ2_checkIndex_2214a 2 none :: ([.methodLink RJ2 48 yJ2_length_9d52b, .static yJ2_length_9d52b, .initialized RJ2, .code yJ2_length_9d52b cJ2_length_9d52b 1 (some .int), .methodLink RJ2 414 yJ0_checkIndex_df160, .static yJ0_checkIndex_df160, .initialized RJ0, .code yJ0_checkIndex_df160 cJ0_checkIndex_df160 2 none, .fieldLink RJ0 1053 "jdk/internal/util/Preconditions" "SIOOBE_FORMATTER" "Ljava/util/function/BiFunction;", .methodLink RJ0 1059 yJ3_checkIndex_8e157, .static yJ3_checkIndex_8e157, .initialized RJ3, .code yJ3_checkIndex_8e157 cJ3_checkIndex_8e157 3 (some .int)])
def wsJ2_getChar_3b067 : List Cond := .code yJ2_getChar_3b067 cJ2_getChar_3b067 2 (some .char) :: ([.fieldLink RJ2 44 "java/lang/StringUTF16" "$assertionsDisabled" "Z", .fieldLink RJ2 59 "java/lang/StringUTF16" "HI_BYTE_SHIFT" "I", .fieldLink RJ2 63 "java/lang/StringUTF16" "LO_BYTE_SHIFT" "I", .methodLink RJ2 48 yJ2_length_9d52b, .static yJ2_length_9d52b, .initialized RJ2, .code yJ2_length_9d52b cJ2_length_9d52b 1 (some .int)])
def wsJ2_charAt_3b067 : List Cond := .code yJ2_charAt_3b067 cJ2_charAt_3b067 2 (some .char) :: ([.methodLink RJ2 67 yJ2_checkIndex_2214a, .static yJ2_checkIndex_2214a, .initialized RJ2, .code yJ2_checkIndex_2214a cJ2_checkIndex_2214a 2 none, .methodLink RJ2 48 yJ2_length_9d52b, .static yJ2_length_9d52b, .code yJ2_length_9d52b cJ2_length_9d52b 1 (some .int), .methodLink RJ2 414 yJ0_checkIndex_df160, .static yJ0_checkIndex_df160, .initialized RJ0, .code yJ0_checkIndex_df160 cJ0_checkIndex_df160 2 none, .fieldLink RJ0 1053 "jdk/internal/util/Preconditions" "SIOOBE_FORMATTER" "Ljava/util/function/BiFunction;", .methodLink RJ0 1059 yJ3_checkIndex_8e157, .static yJ3_checkIndex_8e157, .initialized RJ3, .code yJ3_checkIndex_8e157 cJ3_checkIndex_8e157 3 (some .int), .methodLink RJ2 71 yJ2_getChar_3b067, .static yJ2_getChar_3b067, .code yJ2_getChar_3b067 cJ2_getChar_3b067 2 (some .char), .fieldLink RJ2 44 "java/lang/StringUTF16" "$assertionsDisabled" "Z", .fieldLink RJ2 59 "java/lang/StringUTF16" "HI_BYTE_SHIFT" "I", .fieldLink RJ2 63 "java/lang/StringUTF16" "LO_BYTE_SHIFT" "I"])
def wsJ0_charAt_5068e_r1 : List Cond := [Cond.fieldLink RJ0 9 "java/lang/String" "value" "[B", Cond.methodLink RJ0 492 yJ0_isLatin1_aae02, Cond.instanceMethod yJ0_isLatin1_aae02, Cond.selects RJ0 yJ0_isLatin1_aae02 yJ0_isLatin1_aae02, Cond.initialized RJ0, Cond.code yJ0_isLatin1_aae02 cJ0_isLatin1_aae02 1 (some .boolean), Cond.fieldLink RJ0 38 "java/lang/String" "COMPACT_STRINGS" "Z", Cond.fieldLink RJ0 15 "java/lang/String" "coder" "B", Cond.methodLink RJ0 495 yJ1_charAt_3b067, Cond.static yJ1_charAt_3b067, Cond.initialized RJ1, Cond.code yJ1_charAt_3b067 cJ1_charAt_3b067 2 (some .char), Cond.methodLink RJ1 9 yJ0_checkIndex_df160, Cond.static yJ0_checkIndex_df160, Cond.code yJ0_checkIndex_df160 cJ0_checkIndex_df160 2 none, Cond.fieldLink RJ0 1053 "jdk/internal/util/Preconditions" "SIOOBE_FORMATTER" "Ljava/util/function/BiFunction;", Cond.methodLink RJ0 1059 yJ3_checkIndex_8e157, Cond.static yJ3_checkIndex_8e157, Cond.initialized RJ3, Cond.code yJ3_checkIndex_8e157 cJ3_checkIndex_8e157 3 (some .int), Cond.methodLink RJ0 498 yJ2_charAt_3b067, Cond.static yJ2_charAt_3b067, Cond.initialized RJ2, Cond.code yJ2_charAt_3b067 cJ2_charAt_3b067 2 (some .char)]
def wsJ0_charAt_5068e_r2 : List Cond := [Cond.methodLink RJ2 67 yJ2_checkIndex_2214a, Cond.static yJ2_checkIndex_2214a, Cond.code yJ2_checkIndex_2214a cJ2_checkIndex_2214a 2 none, Cond.methodLink RJ2 48 yJ2_length_9d52b, Cond.static yJ2_length_9d52b, Cond.code yJ2_length_9d52b cJ2_length_9d52b 1 (some .int), Cond.methodLink RJ2 414 yJ0_checkIndex_df160, Cond.methodLink RJ2 71 yJ2_getChar_3b067, Cond.static yJ2_getChar_3b067, Cond.code yJ2_getChar_3b067 cJ2_getChar_3b067 2 (some .char), Cond.fieldLink RJ2 44 "java/lang/StringUTF16" "$assertionsDisabled" "Z", Cond.fieldLink RJ2 59 "java/lang/StringUTF16" "HI_BYTE_SHIFT" "I", Cond.fieldLink RJ2 63 "java/lang/StringUTF16" "LO_BYTE_SHIFT" "I"]
def wsJ0_charAt_5068e : List Cond := .code yJ0_charAt_5068e cJ0_charAt_5068e 2 (some .char) :: ((wsJ0_charAt_5068e_r1 ++ wsJ0_charAt_5068e_r2))
def wsX2_isHere_r1 : List Cond := [Cond.fieldLink RX2 65 "GuessFolds$Text" "behind" "I", Cond.fieldLink RX2 43 "GuessFolds$Text" "place" "I", Cond.fieldLink RX2 14 "GuessFolds$Text" "bytes" "LGuessFolds$Row;", Cond.methodLink RX2 106 yJ0_length_8abf5, Cond.instanceMethod yJ0_length_8abf5, Cond.selects RJ0 yJ0_length_8abf5 yJ0_length_8abf5, Cond.initialized RJ0, Cond.code yJ0_length_8abf5 cJ0_length_8abf5 1 (some .int), Cond.fieldLink RJ0 9 "java/lang/String" "value" "[B", Cond.methodLink RJ0 335 yJ0_coder_7d493, Cond.instanceMethod yJ0_coder_7d493, Cond.selects RJ0 yJ0_coder_7d493 yJ0_coder_7d493, Cond.code yJ0_coder_7d493 cJ0_coder_7d493 1 (some .byte), Cond.fieldLink RJ0 38 "java/lang/String" "COMPACT_STRINGS" "Z", Cond.fieldLink RJ0 15 "java/lang/String" "coder" "B", Cond.methodLink RX2 111 yJ0_charAt_5068e, Cond.instanceMethod yJ0_charAt_5068e, Cond.selects RJ0 yJ0_charAt_5068e yJ0_charAt_5068e, Cond.code yJ0_charAt_5068e cJ0_charAt_5068e 2 (some .char), Cond.methodLink RJ0 492 yJ0_isLatin1_aae02, Cond.instanceMethod yJ0_isLatin1_aae02, Cond.selects RJ0 yJ0_isLatin1_aae02 yJ0_isLatin1_aae02, Cond.code yJ0_isLatin1_aae02 cJ0_isLatin1_aae02 1 (some .boolean), Cond.methodLink RJ0 495 yJ1_charAt_3b067]
def wsX2_isHere_r2 : List Cond := [Cond.static yJ1_charAt_3b067, Cond.initialized RJ1, Cond.code yJ1_charAt_3b067 cJ1_charAt_3b067 2 (some .char), Cond.methodLink RJ1 9 yJ0_checkIndex_df160, Cond.static yJ0_checkIndex_df160, Cond.code yJ0_checkIndex_df160 cJ0_checkIndex_df160 2 none, Cond.fieldLink RJ0 1053 "jdk/internal/util/Preconditions" "SIOOBE_FORMATTER" "Ljava/util/function/BiFunction;", Cond.methodLink RJ0 1059 yJ3_checkIndex_8e157, Cond.static yJ3_checkIndex_8e157, Cond.initialized RJ3, Cond.code yJ3_checkIndex_8e157 cJ3_checkIndex_8e157 3 (some .int), Cond.methodLink RJ0 498 yJ2_charAt_3b067, Cond.static yJ2_charAt_3b067, Cond.initialized RJ2, Cond.code yJ2_charAt_3b067 cJ2_charAt_3b067 2 (some .char), Cond.methodLink RJ2 67 yJ2_checkIndex_2214a, Cond.static yJ2_checkIndex_2214a, Cond.code yJ2_checkIndex_2214a cJ2_checkIndex_2214a 2 none, Cond.methodLink RJ2 48 yJ2_length_9d52b, Cond.static yJ2_length_9d52b, Cond.code yJ2_length_9d52b cJ2_length_9d52b 1 (some .int), Cond.methodLink RJ2 414 yJ0_checkIndex_df160, Cond.methodLink RJ2 71 yJ2_getChar_3b067, Cond.static yJ2_getChar_3b067]
def wsX2_isHere_r3 : List Cond := [Cond.code yJ2_getChar_3b067 cJ2_getChar_3b067 2 (some .char), Cond.fieldLink RJ2 44 "java/lang/StringUTF16" "$assertionsDisabled" "Z", Cond.fieldLink RJ2 59 "java/lang/StringUTF16" "HI_BYTE_SHIFT" "I", Cond.fieldLink RJ2 63 "java/lang/StringUTF16" "LO_BYTE_SHIFT" "I", Cond.methodLink RX2 74 yX1_at, Cond.instanceMethod yX1_at, Cond.selects RX1 yX1_at yX1_at, Cond.initialized RX1, Cond.code yX1_at cX1_at 2 (some .long), Cond.fieldLink RX1 19 "GuessFolds$Row" "cells" "[J"]
def wsX2_isHere : List Cond := .code yX2_isHere cX2_isHere 3 (some .boolean) :: ((wsX2_isHere_r1 ++ (wsX2_isHere_r2 ++ wsX2_isHere_r3)) ++ wsX20 ++ wsX10)
def wsX2_wordHere_r1 : List Cond := [Cond.fieldLink RX2 65 "GuessFolds$Text" "behind" "I", Cond.methodLink RX2 82 yX2_isLetter, Cond.instanceMethod yX2_isLetter, Cond.selects RX2 yX2_isLetter yX2_isLetter, Cond.initialized RX2, Cond.code yX2_isLetter cX2_isLetter 2 (some .boolean), Cond.fieldLink RX2 14 "GuessFolds$Text" "bytes" "LGuessFolds$Row;", Cond.constantLong RX2 126 (97), Cond.constantLong RX2 128 (122), Cond.methodLink RX2 71 yX1_size, Cond.instanceMethod yX1_size, Cond.selects RX1 yX1_size yX1_size, Cond.initialized RX1, Cond.code yX1_size cX1_size 1 (some .int), Cond.fieldLink RX1 7 "GuessFolds$Row" "size" "I", Cond.methodLink RX2 74 yX1_at, Cond.instanceMethod yX1_at, Cond.selects RX1 yX1_at yX1_at, Cond.code yX1_at cX1_at 2 (some .long), Cond.fieldLink RX1 19 "GuessFolds$Row" "cells" "[J", Cond.methodLink RX2 97 yX2_isHere, Cond.instanceMethod yX2_isHere, Cond.selects RX2 yX2_isHere yX2_isHere, Cond.code yX2_isHere cX2_isHere 3 (some .boolean)]
def wsX2_wordHere_r2 : List Cond := [Cond.fieldLink RX2 43 "GuessFolds$Text" "place" "I", Cond.methodLink RX2 106 yJ0_length_8abf5, Cond.instanceMethod yJ0_length_8abf5, Cond.selects RJ0 yJ0_length_8abf5 yJ0_length_8abf5, Cond.initialized RJ0, Cond.code yJ0_length_8abf5 cJ0_length_8abf5 1 (some .int), Cond.fieldLink RJ0 9 "java/lang/String" "value" "[B", Cond.methodLink RJ0 335 yJ0_coder_7d493, Cond.instanceMethod yJ0_coder_7d493, Cond.selects RJ0 yJ0_coder_7d493 yJ0_coder_7d493, Cond.code yJ0_coder_7d493 cJ0_coder_7d493 1 (some .byte), Cond.fieldLink RJ0 38 "java/lang/String" "COMPACT_STRINGS" "Z", Cond.fieldLink RJ0 15 "java/lang/String" "coder" "B", Cond.methodLink RX2 111 yJ0_charAt_5068e, Cond.instanceMethod yJ0_charAt_5068e, Cond.selects RJ0 yJ0_charAt_5068e yJ0_charAt_5068e, Cond.code yJ0_charAt_5068e cJ0_charAt_5068e 2 (some .char), Cond.methodLink RJ0 492 yJ0_isLatin1_aae02, Cond.instanceMethod yJ0_isLatin1_aae02, Cond.selects RJ0 yJ0_isLatin1_aae02 yJ0_isLatin1_aae02, Cond.code yJ0_isLatin1_aae02 cJ0_isLatin1_aae02 1 (some .boolean), Cond.methodLink RJ0 495 yJ1_charAt_3b067, Cond.static yJ1_charAt_3b067, Cond.initialized RJ1]
def wsX2_wordHere_r3 : List Cond := [Cond.code yJ1_charAt_3b067 cJ1_charAt_3b067 2 (some .char), Cond.methodLink RJ1 9 yJ0_checkIndex_df160, Cond.static yJ0_checkIndex_df160, Cond.code yJ0_checkIndex_df160 cJ0_checkIndex_df160 2 none, Cond.fieldLink RJ0 1053 "jdk/internal/util/Preconditions" "SIOOBE_FORMATTER" "Ljava/util/function/BiFunction;", Cond.methodLink RJ0 1059 yJ3_checkIndex_8e157, Cond.static yJ3_checkIndex_8e157, Cond.initialized RJ3, Cond.code yJ3_checkIndex_8e157 cJ3_checkIndex_8e157 3 (some .int), Cond.methodLink RJ0 498 yJ2_charAt_3b067, Cond.static yJ2_charAt_3b067, Cond.initialized RJ2, Cond.code yJ2_charAt_3b067 cJ2_charAt_3b067 2 (some .char), Cond.methodLink RJ2 67 yJ2_checkIndex_2214a, Cond.static yJ2_checkIndex_2214a, Cond.code yJ2_checkIndex_2214a cJ2_checkIndex_2214a 2 none, Cond.methodLink RJ2 48 yJ2_length_9d52b, Cond.static yJ2_length_9d52b, Cond.code yJ2_length_9d52b cJ2_length_9d52b 1 (some .int), Cond.methodLink RJ2 414 yJ0_checkIndex_df160, Cond.methodLink RJ2 71 yJ2_getChar_3b067, Cond.static yJ2_getChar_3b067, Cond.code yJ2_getChar_3b067 cJ2_getChar_3b067 2 (some .char), Cond.fieldLink RJ2 44 "java/lang/StringUTF16" "$assertionsDisabled" "Z"]
def wsX2_wordHere_r4 : List Cond := [Cond.fieldLink RJ2 59 "java/lang/StringUTF16" "HI_BYTE_SHIFT" "I", Cond.fieldLink RJ2 63 "java/lang/StringUTF16" "LO_BYTE_SHIFT" "I"]
def wsX2_wordHere : List Cond := .code yX2_wordHere cX2_wordHere 1 (some .int) :: ((wsX2_wordHere_r1 ++ (wsX2_wordHere_r2 ++ (wsX2_wordHere_r3 ++ wsX2_wordHere_r4))) ++ wsX20 ++ wsX10)
def wsX2_isDigit : List Cond := .code yX2_isDigit cX2_isDigit 2 (some .boolean) :: ([.fieldLink RX2 14 "GuessFolds$Text" "bytes" "LGuessFolds$Row;", .constantLong RX2 124 (48), .constantLong RX2 130 (57), .methodLink RX2 71 yX1_size, .instanceMethod yX1_size, .selects RX1 yX1_size yX1_size, .initialized RX1, .code yX1_size cX1_size 1 (some .int), .fieldLink RX1 7 "GuessFolds$Row" "size" "I", .methodLink RX2 74 yX1_at, .instanceMethod yX1_at, .selects RX1 yX1_at yX1_at, .code yX1_at cX1_at 2 (some .long), .fieldLink RX1 19 "GuessFolds$Row" "cells" "[J"] ++ wsX20 ++ wsX10)
def wsX2_numberHere_r1 : List Cond := [Cond.fieldLink RX2 14 "GuessFolds$Text" "bytes" "LGuessFolds$Row;", Cond.fieldLink RX2 43 "GuessFolds$Text" "place" "I", Cond.fieldLink RX2 115 "GuessFolds$Text" "number" "I", Cond.fieldLink RX2 65 "GuessFolds$Text" "behind" "I", Cond.methodLink RX2 118 Lib.Math.min.name, Cond.static Lib.Math.min.name, Cond.initialized "java/lang/Math", Cond.code Lib.Math.min.name Lib.Math.min.code 2 (some .int), Cond.constantLong RX2 124 (48), Cond.methodLink RX2 74 yX1_at, Cond.instanceMethod yX1_at, Cond.selects RX1 yX1_at yX1_at, Cond.initialized RX1, Cond.code yX1_at cX1_at 2 (some .long), Cond.fieldLink RX1 19 "GuessFolds$Row" "cells" "[J", Cond.methodLink RX2 89 yX2_isDigit, Cond.instanceMethod yX2_isDigit, Cond.selects RX2 yX2_isDigit yX2_isDigit, Cond.initialized RX2, Cond.code yX2_isDigit cX2_isDigit 2 (some .boolean), Cond.constantLong RX2 130 (57), Cond.methodLink RX2 71 yX1_size, Cond.instanceMethod yX1_size, Cond.selects RX1 yX1_size yX1_size]
def wsX2_numberHere_r2 : List Cond := [Cond.code yX1_size cX1_size 1 (some .int), Cond.fieldLink RX1 7 "GuessFolds$Row" "size" "I"]
def wsX2_numberHere : List Cond := .code yX2_numberHere cX2_numberHere 2 (some .int) :: ((wsX2_numberHere_r1 ++ wsX2_numberHere_r2) ++ wsX20 ++ wsX10)
def wsX2_step_r1 : List Cond := [Cond.fieldLink RX2 65 "GuessFolds$Text" "behind" "I", Cond.fieldLink RX2 43 "GuessFolds$Text" "place" "I", Cond.fieldLink RX2 14 "GuessFolds$Text" "bytes" "LGuessFolds$Row;", Cond.constantLong RX2 78 (32), Cond.fieldLink RX2 32 "GuessFolds$Text" "token" "I", Cond.constantLong RX2 80 (59), Cond.methodLink RX2 71 yX1_size, Cond.instanceMethod yX1_size, Cond.selects RX1 yX1_size yX1_size, Cond.initialized RX1, Cond.code yX1_size cX1_size 1 (some .int), Cond.fieldLink RX1 7 "GuessFolds$Row" "size" "I", Cond.methodLink RX2 74 yX1_at, Cond.instanceMethod yX1_at, Cond.selects RX1 yX1_at yX1_at, Cond.code yX1_at cX1_at 2 (some .long), Cond.fieldLink RX1 19 "GuessFolds$Row" "cells" "[J", Cond.methodLink RX2 82 yX2_isLetter, Cond.instanceMethod yX2_isLetter, Cond.selects RX2 yX2_isLetter yX2_isLetter, Cond.initialized RX2, Cond.code yX2_isLetter cX2_isLetter 2 (some .boolean), Cond.constantLong RX2 126 (97), Cond.constantLong RX2 128 (122)]
def wsX2_step_r2 : List Cond := [Cond.methodLink RX2 86 yX2_wordHere, Cond.instanceMethod yX2_wordHere, Cond.selects RX2 yX2_wordHere yX2_wordHere, Cond.code yX2_wordHere cX2_wordHere 1 (some .int), Cond.methodLink RX2 97 yX2_isHere, Cond.instanceMethod yX2_isHere, Cond.selects RX2 yX2_isHere yX2_isHere, Cond.code yX2_isHere cX2_isHere 3 (some .boolean), Cond.methodLink RX2 106 yJ0_length_8abf5, Cond.instanceMethod yJ0_length_8abf5, Cond.selects RJ0 yJ0_length_8abf5 yJ0_length_8abf5, Cond.initialized RJ0, Cond.code yJ0_length_8abf5 cJ0_length_8abf5 1 (some .int), Cond.fieldLink RJ0 9 "java/lang/String" "value" "[B", Cond.methodLink RJ0 335 yJ0_coder_7d493, Cond.instanceMethod yJ0_coder_7d493, Cond.selects RJ0 yJ0_coder_7d493 yJ0_coder_7d493, Cond.code yJ0_coder_7d493 cJ0_coder_7d493 1 (some .byte), Cond.fieldLink RJ0 38 "java/lang/String" "COMPACT_STRINGS" "Z", Cond.fieldLink RJ0 15 "java/lang/String" "coder" "B", Cond.methodLink RX2 111 yJ0_charAt_5068e, Cond.instanceMethod yJ0_charAt_5068e, Cond.selects RJ0 yJ0_charAt_5068e yJ0_charAt_5068e, Cond.code yJ0_charAt_5068e cJ0_charAt_5068e 2 (some .char)]
def wsX2_step_r3 : List Cond := [Cond.methodLink RJ0 492 yJ0_isLatin1_aae02, Cond.instanceMethod yJ0_isLatin1_aae02, Cond.selects RJ0 yJ0_isLatin1_aae02 yJ0_isLatin1_aae02, Cond.code yJ0_isLatin1_aae02 cJ0_isLatin1_aae02 1 (some .boolean), Cond.methodLink RJ0 495 yJ1_charAt_3b067, Cond.static yJ1_charAt_3b067, Cond.initialized RJ1, Cond.code yJ1_charAt_3b067 cJ1_charAt_3b067 2 (some .char), Cond.methodLink RJ1 9 yJ0_checkIndex_df160, Cond.static yJ0_checkIndex_df160, Cond.code yJ0_checkIndex_df160 cJ0_checkIndex_df160 2 none, Cond.fieldLink RJ0 1053 "jdk/internal/util/Preconditions" "SIOOBE_FORMATTER" "Ljava/util/function/BiFunction;", Cond.methodLink RJ0 1059 yJ3_checkIndex_8e157, Cond.static yJ3_checkIndex_8e157, Cond.initialized RJ3, Cond.code yJ3_checkIndex_8e157 cJ3_checkIndex_8e157 3 (some .int), Cond.methodLink RJ0 498 yJ2_charAt_3b067, Cond.static yJ2_charAt_3b067, Cond.initialized RJ2, Cond.code yJ2_charAt_3b067 cJ2_charAt_3b067 2 (some .char), Cond.methodLink RJ2 67 yJ2_checkIndex_2214a, Cond.static yJ2_checkIndex_2214a, Cond.code yJ2_checkIndex_2214a cJ2_checkIndex_2214a 2 none, Cond.methodLink RJ2 48 yJ2_length_9d52b]
def wsX2_step_r4 : List Cond := [Cond.static yJ2_length_9d52b, Cond.code yJ2_length_9d52b cJ2_length_9d52b 1 (some .int), Cond.methodLink RJ2 414 yJ0_checkIndex_df160, Cond.methodLink RJ2 71 yJ2_getChar_3b067, Cond.static yJ2_getChar_3b067, Cond.code yJ2_getChar_3b067 cJ2_getChar_3b067 2 (some .char), Cond.fieldLink RJ2 44 "java/lang/StringUTF16" "$assertionsDisabled" "Z", Cond.fieldLink RJ2 59 "java/lang/StringUTF16" "HI_BYTE_SHIFT" "I", Cond.fieldLink RJ2 63 "java/lang/StringUTF16" "LO_BYTE_SHIFT" "I", Cond.methodLink RX2 89 yX2_isDigit, Cond.instanceMethod yX2_isDigit, Cond.selects RX2 yX2_isDigit yX2_isDigit, Cond.code yX2_isDigit cX2_isDigit 2 (some .boolean), Cond.constantLong RX2 124 (48), Cond.constantLong RX2 130 (57), Cond.methodLink RX2 92 yX2_numberHere, Cond.instanceMethod yX2_numberHere, Cond.selects RX2 yX2_numberHere yX2_numberHere, Cond.code yX2_numberHere cX2_numberHere 2 (some .int), Cond.fieldLink RX2 115 "GuessFolds$Text" "number" "I", Cond.methodLink RX2 118 Lib.Math.min.name, Cond.static Lib.Math.min.name, Cond.initialized "java/lang/Math", Cond.code Lib.Math.min.name Lib.Math.min.code 2 (some .int)]
def wsX2_step : List Cond := .code yX2_step cX2_step 1 none :: ((wsX2_step_r1 ++ (wsX2_step_r2 ++ (wsX2_step_r3 ++ wsX2_step_r4))) ++ wsX20 ++ wsX10)
def wsX2_isTold : List Cond := .code yX2_isTold cX2_isTold 2 (some .boolean) :: ([.fieldLink RX2 68 "GuessFolds$Text" "toldWords" "I"] ++ wsX20)
def wsX2_mayStand : List Cond := .code yX2_mayStand cX2_mayStand 2 (some .boolean) :: ([.fieldLink RX2 20 "GuessFolds$Text" "firsts" "LGuessFolds$Row;", .methodLink RX2 150 yX1_hasRoom, .instanceMethod yX1_hasRoom, .selects RX1 yX1_hasRoom yX1_hasRoom, .initialized RX1, .code yX1_hasRoom cX1_hasRoom 2 (some .boolean), .fieldLink RX1 7 "GuessFolds$Row" "size" "I", .fieldLink RX1 19 "GuessFolds$Row" "cells" "[J", .methodLink RX2 153 yX2_isTold, .instanceMethod yX2_isTold, .selects RX2 yX2_isTold yX2_isTold, .initialized RX2, .code yX2_isTold cX2_isTold 2 (some .boolean), .fieldLink RX2 68 "GuessFolds$Text" "toldWords" "I"] ++ wsX20 ++ wsX10)
def wsX2_takesWord : List Cond := .code yX2_takesWord cX2_takesWord 1 (some .boolean) :: ([.fieldLink RX2 32 "GuessFolds$Text" "token" "I", .fieldLink RX2 147 "GuessFolds$Text" "word" "I", .fieldLink RX2 68 "GuessFolds$Text" "toldWords" "I", .fieldLink RX2 36 "GuessFolds$Text" "awaited" "I", .methodLink RX2 144 yX2_mayStand, .instanceMethod yX2_mayStand, .selects RX2 yX2_mayStand yX2_mayStand, .initialized RX2, .code yX2_mayStand cX2_mayStand 2 (some .boolean), .fieldLink RX2 20 "GuessFolds$Text" "firsts" "LGuessFolds$Row;", .methodLink RX2 150 yX1_hasRoom, .instanceMethod yX1_hasRoom, .selects RX1 yX1_hasRoom yX1_hasRoom, .initialized RX1, .code yX1_hasRoom cX1_hasRoom 2 (some .boolean), .fieldLink RX1 7 "GuessFolds$Row" "size" "I", .fieldLink RX1 19 "GuessFolds$Row" "cells" "[J", .methodLink RX2 153 yX2_isTold, .instanceMethod yX2_isTold, .selects RX2 yX2_isTold yX2_isTold, .code yX2_isTold cX2_isTold 2 (some .boolean)] ++ wsX20 ++ wsX10)
def wsX2_isToldCrease : List Cond := .code yX2_isToldCrease cX2_isToldCrease 2 (some .boolean) :: ([.fieldLink RX2 23 "GuessFolds$Text" "seconds" "LGuessFolds$Row;", .methodLink RX2 71 yX1_size, .instanceMethod yX1_size, .selects RX1 yX1_size yX1_size, .initialized RX1, .code yX1_size cX1_size 1 (some .int), .fieldLink RX1 7 "GuessFolds$Row" "size" "I"] ++ wsX20 ++ wsX10)
def wsX2_mayBe : List Cond := .code yX2_mayBe cX2_mayBe 2 (some .boolean) :: ([.fieldLink RX2 147 "GuessFolds$Text" "word" "I", .fieldLink RX2 46 "GuessFolds$Text" "parts" "I", .methodLink RX2 163 yX2_isToldCrease, .instanceMethod yX2_isToldCrease, .selects RX2 yX2_isToldCrease yX2_isToldCrease, .initialized RX2, .code yX2_isToldCrease cX2_isToldCrease 2 (some .boolean), .fieldLink RX2 23 "GuessFolds$Text" "seconds" "LGuessFolds$Row;", .methodLink RX2 71 yX1_size, .instanceMethod yX1_size, .selects RX1 yX1_size yX1_size, .initialized RX1, .code yX1_size cX1_size 1 (some .int), .fieldLink RX1 7 "GuessFolds$Row" "size" "I"] ++ wsX20 ++ wsX10)
def wsX2_takesNumber_r1 : List Cond := [Cond.fieldLink RX2 115 "GuessFolds$Text" "number" "I", Cond.fieldLink RX2 147 "GuessFolds$Text" "word" "I", Cond.fieldLink RX2 46 "GuessFolds$Text" "parts" "I", Cond.fieldLink RX2 49 "GuessFolds$Text" "part" "I", Cond.fieldLink RX2 52 "GuessFolds$Text" "off" "I", Cond.fieldLink RX2 55 "GuessFolds$Text" "hair" "I", Cond.fieldLink RX2 20 "GuessFolds$Text" "firsts" "LGuessFolds$Row;", Cond.fieldLink RX2 36 "GuessFolds$Text" "awaited" "I", Cond.methodLink RX2 156 yX2_mayBe, Cond.instanceMethod yX2_mayBe, Cond.selects RX2 yX2_mayBe yX2_mayBe, Cond.initialized RX2, Cond.code yX2_mayBe cX2_mayBe 2 (some .boolean), Cond.methodLink RX2 163 yX2_isToldCrease, Cond.instanceMethod yX2_isToldCrease, Cond.selects RX2 yX2_isToldCrease yX2_isToldCrease, Cond.code yX2_isToldCrease cX2_isToldCrease 2 (some .boolean), Cond.fieldLink RX2 23 "GuessFolds$Text" "seconds" "LGuessFolds$Row;", Cond.methodLink RX2 71 yX1_size, Cond.instanceMethod yX1_size, Cond.selects RX1 yX1_size yX1_size, Cond.initialized RX1, Cond.code yX1_size cX1_size 1 (some .int), Cond.fieldLink RX1 7 "GuessFolds$Row" "size" "I"]
def wsX2_takesNumber_r2 : List Cond := [Cond.methodLink RX2 159 yX1_add, Cond.instanceMethod yX1_add, Cond.selects RX1 yX1_add yX1_add, Cond.code yX1_add cX1_add 3 none, Cond.fieldLink RX1 19 "GuessFolds$Row" "cells" "[J"]
def wsX2_takesNumber : List Cond := .code yX2_takesNumber cX2_takesNumber 1 (some .boolean) :: ((wsX2_takesNumber_r1 ++ wsX2_takesNumber_r2) ++ wsX20 ++ wsX10)
def wsX2_takesSecond : List Cond := .code yX2_takesSecond cX2_takesSecond 1 (some .boolean) :: ([.fieldLink RX2 115 "GuessFolds$Text" "number" "I", .fieldLink RX2 20 "GuessFolds$Text" "firsts" "LGuessFolds$Row;", .fieldLink RX2 23 "GuessFolds$Text" "seconds" "LGuessFolds$Row;", .fieldLink RX2 36 "GuessFolds$Text" "awaited" "I", .methodLink RX2 163 yX2_isToldCrease, .instanceMethod yX2_isToldCrease, .selects RX2 yX2_isToldCrease yX2_isToldCrease, .initialized RX2, .code yX2_isToldCrease cX2_isToldCrease 2 (some .boolean), .methodLink RX2 71 yX1_size, .instanceMethod yX1_size, .selects RX1 yX1_size yX1_size, .initialized RX1, .code yX1_size cX1_size 1 (some .int), .fieldLink RX1 7 "GuessFolds$Row" "size" "I", .methodLink RX2 74 yX1_at, .instanceMethod yX1_at, .selects RX1 yX1_at yX1_at, .code yX1_at cX1_at 2 (some .long), .fieldLink RX1 19 "GuessFolds$Row" "cells" "[J", .methodLink RX2 159 yX1_add, .instanceMethod yX1_add, .selects RX1 yX1_add yX1_add, .code yX1_add cX1_add 3 none] ++ wsX20 ++ wsX10)
def wsX2_takesSemicolon : List Cond := .code yX2_takesSemicolon cX2_takesSemicolon 1 (some .boolean) :: ([.fieldLink RX2 32 "GuessFolds$Text" "token" "I", .fieldLink RX2 62 "GuessFolds$Text" "items" "I", .fieldLink RX2 36 "GuessFolds$Text" "awaited" "I"] ++ wsX20)
def wsX2_takesToken_r1 : List Cond := [Cond.fieldLink RX2 36 "GuessFolds$Text" "awaited" "I", Cond.fieldLink RX2 32 "GuessFolds$Text" "token" "I", Cond.methodLink RX2 132 yX2_takesWord, Cond.instanceMethod yX2_takesWord, Cond.selects RX2 yX2_takesWord yX2_takesWord, Cond.initialized RX2, Cond.code yX2_takesWord cX2_takesWord 1 (some .boolean), Cond.fieldLink RX2 147 "GuessFolds$Text" "word" "I", Cond.fieldLink RX2 68 "GuessFolds$Text" "toldWords" "I", Cond.methodLink RX2 144 yX2_mayStand, Cond.instanceMethod yX2_mayStand, Cond.selects RX2 yX2_mayStand yX2_mayStand, Cond.code yX2_mayStand cX2_mayStand 2 (some .boolean), Cond.fieldLink RX2 20 "GuessFolds$Text" "firsts" "LGuessFolds$Row;", Cond.methodLink RX2 150 yX1_hasRoom, Cond.instanceMethod yX1_hasRoom, Cond.selects RX1 yX1_hasRoom yX1_hasRoom, Cond.initialized RX1, Cond.code yX1_hasRoom cX1_hasRoom 2 (some .boolean), Cond.fieldLink RX1 7 "GuessFolds$Row" "size" "I", Cond.fieldLink RX1 19 "GuessFolds$Row" "cells" "[J", Cond.methodLink RX2 153 yX2_isTold, Cond.instanceMethod yX2_isTold, Cond.selects RX2 yX2_isTold yX2_isTold]
def wsX2_takesToken_r2 : List Cond := [Cond.code yX2_isTold cX2_isTold 2 (some .boolean), Cond.methodLink RX2 135 yX2_takesNumber, Cond.instanceMethod yX2_takesNumber, Cond.selects RX2 yX2_takesNumber yX2_takesNumber, Cond.code yX2_takesNumber cX2_takesNumber 1 (some .boolean), Cond.fieldLink RX2 115 "GuessFolds$Text" "number" "I", Cond.fieldLink RX2 46 "GuessFolds$Text" "parts" "I", Cond.fieldLink RX2 49 "GuessFolds$Text" "part" "I", Cond.fieldLink RX2 52 "GuessFolds$Text" "off" "I", Cond.fieldLink RX2 55 "GuessFolds$Text" "hair" "I", Cond.methodLink RX2 156 yX2_mayBe, Cond.instanceMethod yX2_mayBe, Cond.selects RX2 yX2_mayBe yX2_mayBe, Cond.code yX2_mayBe cX2_mayBe 2 (some .boolean), Cond.methodLink RX2 163 yX2_isToldCrease, Cond.instanceMethod yX2_isToldCrease, Cond.selects RX2 yX2_isToldCrease yX2_isToldCrease, Cond.code yX2_isToldCrease cX2_isToldCrease 2 (some .boolean), Cond.fieldLink RX2 23 "GuessFolds$Text" "seconds" "LGuessFolds$Row;", Cond.methodLink RX2 71 yX1_size, Cond.instanceMethod yX1_size, Cond.selects RX1 yX1_size yX1_size, Cond.code yX1_size cX1_size 1 (some .int), Cond.methodLink RX2 159 yX1_add]
def wsX2_takesToken_r3 : List Cond := [Cond.instanceMethod yX1_add, Cond.selects RX1 yX1_add yX1_add, Cond.code yX1_add cX1_add 3 none, Cond.methodLink RX2 138 yX2_takesSecond, Cond.instanceMethod yX2_takesSecond, Cond.selects RX2 yX2_takesSecond yX2_takesSecond, Cond.code yX2_takesSecond cX2_takesSecond 1 (some .boolean), Cond.methodLink RX2 74 yX1_at, Cond.instanceMethod yX1_at, Cond.selects RX1 yX1_at yX1_at, Cond.code yX1_at cX1_at 2 (some .long), Cond.methodLink RX2 141 yX2_takesSemicolon, Cond.instanceMethod yX2_takesSemicolon, Cond.selects RX2 yX2_takesSemicolon yX2_takesSemicolon, Cond.code yX2_takesSemicolon cX2_takesSemicolon 1 (some .boolean), Cond.fieldLink RX2 62 "GuessFolds$Text" "items" "I"]
def wsX2_takesToken : List Cond := .code yX2_takesToken cX2_takesToken 1 (some .boolean) :: ((wsX2_takesToken_r1 ++ (wsX2_takesToken_r2 ++ wsX2_takesToken_r3)) ++ wsX20 ++ wsX10)
def wsX2_read_r1 : List Cond := [Cond.fieldLink RX2 32 "GuessFolds$Text" "token" "I", Cond.fieldLink RX2 36 "GuessFolds$Text" "awaited" "I", Cond.fieldLink RX2 43 "GuessFolds$Text" "place" "I", Cond.methodLink RX2 26 yX2_begin, Cond.instanceMethod yX2_begin, Cond.selects RX2 yX2_begin yX2_begin, Cond.initialized RX2, Cond.code yX2_begin cX2_begin 1 none, Cond.fieldLink RX2 46 "GuessFolds$Text" "parts" "I", Cond.fieldLink RX2 49 "GuessFolds$Text" "part" "I", Cond.fieldLink RX2 52 "GuessFolds$Text" "off" "I", Cond.fieldLink RX2 55 "GuessFolds$Text" "hair" "I", Cond.fieldLink RX2 20 "GuessFolds$Text" "firsts" "LGuessFolds$Row;", Cond.fieldLink RX2 23 "GuessFolds$Text" "seconds" "LGuessFolds$Row;", Cond.fieldLink RX2 62 "GuessFolds$Text" "items" "I", Cond.fieldLink RX2 65 "GuessFolds$Text" "behind" "I", Cond.fieldLink RX2 68 "GuessFolds$Text" "toldWords" "I", Cond.methodLink RX2 58 yX1_empty, Cond.instanceMethod yX1_empty, Cond.selects RX1 yX1_empty yX1_empty, Cond.initialized RX1, Cond.code yX1_empty cX1_empty 2 (some .int), Cond.fieldLink RX1 7 "GuessFolds$Row" "size" "I", Cond.methodLink RX2 29 yX2_step]
def wsX2_read_r2 : List Cond := [Cond.instanceMethod yX2_step, Cond.selects RX2 yX2_step yX2_step, Cond.code yX2_step cX2_step 1 none, Cond.fieldLink RX2 14 "GuessFolds$Text" "bytes" "LGuessFolds$Row;", Cond.constantLong RX2 78 (32), Cond.constantLong RX2 80 (59), Cond.methodLink RX2 71 yX1_size, Cond.instanceMethod yX1_size, Cond.selects RX1 yX1_size yX1_size, Cond.code yX1_size cX1_size 1 (some .int), Cond.methodLink RX2 74 yX1_at, Cond.instanceMethod yX1_at, Cond.selects RX1 yX1_at yX1_at, Cond.code yX1_at cX1_at 2 (some .long), Cond.fieldLink RX1 19 "GuessFolds$Row" "cells" "[J", Cond.methodLink RX2 82 yX2_isLetter, Cond.instanceMethod yX2_isLetter, Cond.selects RX2 yX2_isLetter yX2_isLetter, Cond.code yX2_isLetter cX2_isLetter 2 (some .boolean), Cond.constantLong RX2 126 (97), Cond.constantLong RX2 128 (122), Cond.methodLink RX2 86 yX2_wordHere, Cond.instanceMethod yX2_wordHere, Cond.selects RX2 yX2_wordHere yX2_wordHere]
def wsX2_read_r3 : List Cond := [Cond.code yX2_wordHere cX2_wordHere 1 (some .int), Cond.methodLink RX2 97 yX2_isHere, Cond.instanceMethod yX2_isHere, Cond.selects RX2 yX2_isHere yX2_isHere, Cond.code yX2_isHere cX2_isHere 3 (some .boolean), Cond.methodLink RX2 106 yJ0_length_8abf5, Cond.instanceMethod yJ0_length_8abf5, Cond.selects RJ0 yJ0_length_8abf5 yJ0_length_8abf5, Cond.initialized RJ0, Cond.code yJ0_length_8abf5 cJ0_length_8abf5 1 (some .int), Cond.fieldLink RJ0 9 "java/lang/String" "value" "[B", Cond.methodLink RJ0 335 yJ0_coder_7d493, Cond.instanceMethod yJ0_coder_7d493, Cond.selects RJ0 yJ0_coder_7d493 yJ0_coder_7d493, Cond.code yJ0_coder_7d493 cJ0_coder_7d493 1 (some .byte), Cond.fieldLink RJ0 38 "java/lang/String" "COMPACT_STRINGS" "Z", Cond.fieldLink RJ0 15 "java/lang/String" "coder" "B", Cond.methodLink RX2 111 yJ0_charAt_5068e, Cond.instanceMethod yJ0_charAt_5068e, Cond.selects RJ0 yJ0_charAt_5068e yJ0_charAt_5068e, Cond.code yJ0_charAt_5068e cJ0_charAt_5068e 2 (some .char), Cond.methodLink RJ0 492 yJ0_isLatin1_aae02, Cond.instanceMethod yJ0_isLatin1_aae02, Cond.selects RJ0 yJ0_isLatin1_aae02 yJ0_isLatin1_aae02]
def wsX2_read_r4 : List Cond := [Cond.code yJ0_isLatin1_aae02 cJ0_isLatin1_aae02 1 (some .boolean), Cond.methodLink RJ0 495 yJ1_charAt_3b067, Cond.static yJ1_charAt_3b067, Cond.initialized RJ1, Cond.code yJ1_charAt_3b067 cJ1_charAt_3b067 2 (some .char), Cond.methodLink RJ1 9 yJ0_checkIndex_df160, Cond.static yJ0_checkIndex_df160, Cond.code yJ0_checkIndex_df160 cJ0_checkIndex_df160 2 none, Cond.fieldLink RJ0 1053 "jdk/internal/util/Preconditions" "SIOOBE_FORMATTER" "Ljava/util/function/BiFunction;", Cond.methodLink RJ0 1059 yJ3_checkIndex_8e157, Cond.static yJ3_checkIndex_8e157, Cond.initialized RJ3, Cond.code yJ3_checkIndex_8e157 cJ3_checkIndex_8e157 3 (some .int), Cond.methodLink RJ0 498 yJ2_charAt_3b067, Cond.static yJ2_charAt_3b067, Cond.initialized RJ2, Cond.code yJ2_charAt_3b067 cJ2_charAt_3b067 2 (some .char), Cond.methodLink RJ2 67 yJ2_checkIndex_2214a, Cond.static yJ2_checkIndex_2214a, Cond.code yJ2_checkIndex_2214a cJ2_checkIndex_2214a 2 none, Cond.methodLink RJ2 48 yJ2_length_9d52b, Cond.static yJ2_length_9d52b, Cond.code yJ2_length_9d52b cJ2_length_9d52b 1 (some .int), Cond.methodLink RJ2 414 yJ0_checkIndex_df160]
def wsX2_read_r5 : List Cond := [Cond.methodLink RJ2 71 yJ2_getChar_3b067, Cond.static yJ2_getChar_3b067, Cond.code yJ2_getChar_3b067 cJ2_getChar_3b067 2 (some .char), Cond.fieldLink RJ2 44 "java/lang/StringUTF16" "$assertionsDisabled" "Z", Cond.fieldLink RJ2 59 "java/lang/StringUTF16" "HI_BYTE_SHIFT" "I", Cond.fieldLink RJ2 63 "java/lang/StringUTF16" "LO_BYTE_SHIFT" "I", Cond.methodLink RX2 89 yX2_isDigit, Cond.instanceMethod yX2_isDigit, Cond.selects RX2 yX2_isDigit yX2_isDigit, Cond.code yX2_isDigit cX2_isDigit 2 (some .boolean), Cond.constantLong RX2 124 (48), Cond.constantLong RX2 130 (57), Cond.methodLink RX2 92 yX2_numberHere, Cond.instanceMethod yX2_numberHere, Cond.selects RX2 yX2_numberHere yX2_numberHere, Cond.code yX2_numberHere cX2_numberHere 2 (some .int), Cond.fieldLink RX2 115 "GuessFolds$Text" "number" "I", Cond.methodLink RX2 118 Lib.Math.min.name, Cond.static Lib.Math.min.name, Cond.initialized "java/lang/Math", Cond.code Lib.Math.min.name Lib.Math.min.code 2 (some .int), Cond.methodLink RX2 39 yX2_takesToken, Cond.instanceMethod yX2_takesToken, Cond.selects RX2 yX2_takesToken yX2_takesToken]
def wsX2_read_r6 : List Cond := [Cond.code yX2_takesToken cX2_takesToken 1 (some .boolean), Cond.methodLink RX2 132 yX2_takesWord, Cond.instanceMethod yX2_takesWord, Cond.selects RX2 yX2_takesWord yX2_takesWord, Cond.code yX2_takesWord cX2_takesWord 1 (some .boolean), Cond.fieldLink RX2 147 "GuessFolds$Text" "word" "I", Cond.methodLink RX2 144 yX2_mayStand, Cond.instanceMethod yX2_mayStand, Cond.selects RX2 yX2_mayStand yX2_mayStand, Cond.code yX2_mayStand cX2_mayStand 2 (some .boolean), Cond.methodLink RX2 150 yX1_hasRoom, Cond.instanceMethod yX1_hasRoom, Cond.selects RX1 yX1_hasRoom yX1_hasRoom, Cond.code yX1_hasRoom cX1_hasRoom 2 (some .boolean), Cond.methodLink RX2 153 yX2_isTold, Cond.instanceMethod yX2_isTold, Cond.selects RX2 yX2_isTold yX2_isTold, Cond.code yX2_isTold cX2_isTold 2 (some .boolean), Cond.methodLink RX2 135 yX2_takesNumber, Cond.instanceMethod yX2_takesNumber, Cond.selects RX2 yX2_takesNumber yX2_takesNumber, Cond.code yX2_takesNumber cX2_takesNumber 1 (some .boolean), Cond.methodLink RX2 156 yX2_mayBe, Cond.instanceMethod yX2_mayBe]
def wsX2_read_r7 : List Cond := [Cond.selects RX2 yX2_mayBe yX2_mayBe, Cond.code yX2_mayBe cX2_mayBe 2 (some .boolean), Cond.methodLink RX2 163 yX2_isToldCrease, Cond.instanceMethod yX2_isToldCrease, Cond.selects RX2 yX2_isToldCrease yX2_isToldCrease, Cond.code yX2_isToldCrease cX2_isToldCrease 2 (some .boolean), Cond.methodLink RX2 159 yX1_add, Cond.instanceMethod yX1_add, Cond.selects RX1 yX1_add yX1_add, Cond.code yX1_add cX1_add 3 none, Cond.methodLink RX2 138 yX2_takesSecond, Cond.instanceMethod yX2_takesSecond, Cond.selects RX2 yX2_takesSecond yX2_takesSecond, Cond.code yX2_takesSecond cX2_takesSecond 1 (some .boolean), Cond.methodLink RX2 141 yX2_takesSemicolon, Cond.instanceMethod yX2_takesSemicolon, Cond.selects RX2 yX2_takesSemicolon yX2_takesSemicolon, Cond.code yX2_takesSemicolon cX2_takesSemicolon 1 (some .boolean)]
def wsX2_read : List Cond := .code yX2_read cX2_read 2 (some .int) :: ((wsX2_read_r1 ++ (wsX2_read_r2 ++ (wsX2_read_r3 ++ (wsX2_read_r4 ++ (wsX2_read_r5 ++ (wsX2_read_r6 ++ wsX2_read_r7)))))) ++ wsX20 ++ wsX10)
def wsX3_init_r1 : List Cond := [Cond.methodLink RX3 3 objectInit, Cond.instanceMethod objectInit, Cond.code objectInit ⟨#[0xb1]⟩ 1 none, Cond.classLink RX3 9 RX2, Cond.instantiable RX2 15, Cond.initialized RX2, Cond.fieldLink RX3 12 "GuessFolds" "text" "LGuessFolds$Text;", Cond.classLink RX3 16 RX0, Cond.instantiable RX0 5, Cond.initialized RX0, Cond.fieldLink RX3 19 "GuessFolds" "now" "LGuessFolds$Now;", Cond.fieldLink RX3 23 "GuessFolds" "firstImage" "LGuessFolds$Now;", Cond.fieldLink RX3 26 "GuessFolds" "secondImage" "LGuessFolds$Now;", Cond.fieldLink RX3 29 "GuessFolds" "parts" "I", Cond.fieldLink RX3 33 "GuessFolds" "part" "I", Cond.fieldLink RX3 36 "GuessFolds" "off" "I", Cond.fieldLink RX3 39 "GuessFolds" "hair" "I", Cond.fieldLink RX3 42 "GuessFolds" "traced" "J", Cond.instanceMethod yX2_init, Cond.code yX2_init cX2_init 1 none, Cond.methodLink RX2 3 objectInit, Cond.classLink RX2 9 RX1, Cond.instantiable RX1 2, Cond.initialized RX1]
def wsX3_init_r2 : List Cond := [Cond.fieldLink RX2 14 "GuessFolds$Text" "bytes" "LGuessFolds$Row;", Cond.fieldLink RX2 20 "GuessFolds$Text" "firsts" "LGuessFolds$Row;", Cond.fieldLink RX2 23 "GuessFolds$Text" "seconds" "LGuessFolds$Row;", Cond.methodLink RX2 11 yX1_init, Cond.instanceMethod yX1_init, Cond.code yX1_init cX1_init 2 none, Cond.methodLink RX1 1 objectInit, Cond.fieldLink RX1 7 "GuessFolds$Row" "size" "I", Cond.methodLink RX1 13 Lib.Math.max.name, Cond.static Lib.Math.max.name, Cond.initialized "java/lang/Math", Cond.code Lib.Math.max.name Lib.Math.max.code 2 (some .int), Cond.arrayClass .long, Cond.fieldLink RX1 19 "GuessFolds$Row" "cells" "[J", Cond.instanceMethod yX0_init, Cond.code yX0_init cX0_init 1 none, Cond.methodLink RX0 3 objectInit, Cond.classLink RX0 9 RX1, Cond.fieldLink RX0 14 "GuessFolds$Now" "where" "LGuessFolds$Row;", Cond.fieldLink RX0 20 "GuessFolds$Now" "offness" "LGuessFolds$Row;", Cond.fieldLink RX0 23 "GuessFolds$Now" "hairs" "LGuessFolds$Row;", Cond.fieldLink RX0 26 "GuessFolds$Now" "letters" "LGuessFolds$Row;", Cond.fieldLink RX0 29 "GuessFolds$Now" "seen" "LGuessFolds$Row;", Cond.methodLink RX0 11 yX1_init]
def wsX3_init_r3 : List Cond := [Cond.methodLink RX3 46 yX0_begin, Cond.instanceMethod yX0_begin, Cond.selects RX0 yX0_begin yX0_begin, Cond.code yX0_begin cX0_begin 3 none, Cond.constantLong RX0 43 (1048576), Cond.methodLink RX0 36 yX0_empty, Cond.instanceMethod yX0_empty, Cond.selects RX0 yX0_empty yX0_empty, Cond.code yX0_empty cX0_empty 1 none, Cond.methodLink RX0 52 yX1_empty, Cond.instanceMethod yX1_empty, Cond.selects RX1 yX1_empty yX1_empty, Cond.code yX1_empty cX1_empty 2 (some .int), Cond.methodLink RX0 39 yX0_addCrease, Cond.instanceMethod yX0_addCrease, Cond.selects RX0 yX0_addCrease yX0_addCrease, Cond.code yX0_addCrease cX0_addCrease 7 none, Cond.methodLink RX0 58 yX1_add, Cond.instanceMethod yX1_add, Cond.selects RX1 yX1_add yX1_add, Cond.code yX1_add cX1_add 3 none]
def wsX3_init : List Cond := .code yX3_init cX3_init 1 none :: ((wsX3_init_r1 ++ (wsX3_init_r2 ++ wsX3_init_r3)) ++ wsX20 ++ wsX30 ++ wsX00 ++ wsX10)
def wsX3_type : List Cond := .code yX3_type cX3_type 5 (some .int) :: ([.fieldLink RX3 12 "GuessFolds" "text" "LGuessFolds$Text;", .constantLong RX3 60 (255), .methodLink RX3 54 yX1_hasRoom, .instanceMethod yX1_hasRoom, .selects RX1 yX1_hasRoom yX1_hasRoom, .initialized RX1, .code yX1_hasRoom cX1_hasRoom 2 (some .boolean), .fieldLink RX1 7 "GuessFolds$Row" "size" "I", .fieldLink RX1 19 "GuessFolds$Row" "cells" "[J", .methodLink RX3 62 yX1_add, .instanceMethod yX1_add, .selects RX1 yX1_add yX1_add, .code yX1_add cX1_add 3 none, .methodLink RX3 66 yX1_size, .instanceMethod yX1_size, .selects RX1 yX1_size yX1_size, .code yX1_size cX1_size 1 (some .int)] ++ wsX30 ++ wsX20 ++ wsX10)
def wsX3_clear : List Cond := .code yX3_clear cX3_clear 1 (some .int) :: ([.fieldLink RX3 12 "GuessFolds" "text" "LGuessFolds$Text;", .methodLink RX3 70 yX1_empty, .instanceMethod yX1_empty, .selects RX1 yX1_empty yX1_empty, .initialized RX1, .code yX1_empty cX1_empty 2 (some .int), .fieldLink RX1 7 "GuessFolds$Row" "size" "I"] ++ wsX30 ++ wsX20 ++ wsX10)
def wsX3_strip_r1 : List Cond := [Cond.fieldLink RX3 12 "GuessFolds" "text" "LGuessFolds$Text;", Cond.fieldLink RX3 29 "GuessFolds" "parts" "I", Cond.fieldLink RX3 33 "GuessFolds" "part" "I", Cond.fieldLink RX3 36 "GuessFolds" "off" "I", Cond.fieldLink RX3 39 "GuessFolds" "hair" "I", Cond.fieldLink RX3 19 "GuessFolds" "now" "LGuessFolds$Now;", Cond.fieldLink RX3 23 "GuessFolds" "firstImage" "LGuessFolds$Now;", Cond.fieldLink RX3 26 "GuessFolds" "secondImage" "LGuessFolds$Now;", Cond.methodLink RX3 73 yX2_read, Cond.instanceMethod yX2_read, Cond.selects RX2 yX2_read yX2_read, Cond.initialized RX2, Cond.code yX2_read cX2_read 2 (some .int), Cond.fieldLink RX2 32 "GuessFolds$Text" "token" "I", Cond.fieldLink RX2 36 "GuessFolds$Text" "awaited" "I", Cond.fieldLink RX2 43 "GuessFolds$Text" "place" "I", Cond.methodLink RX2 26 yX2_begin, Cond.instanceMethod yX2_begin, Cond.selects RX2 yX2_begin yX2_begin, Cond.code yX2_begin cX2_begin 1 none, Cond.fieldLink RX2 46 "GuessFolds$Text" "parts" "I", Cond.fieldLink RX2 49 "GuessFolds$Text" "part" "I", Cond.fieldLink RX2 52 "GuessFolds$Text" "off" "I", Cond.fieldLink RX2 55 "GuessFolds$Text" "hair" "I"]
def wsX3_strip_r2 : List Cond := [Cond.fieldLink RX2 20 "GuessFolds$Text" "firsts" "LGuessFolds$Row;", Cond.fieldLink RX2 23 "GuessFolds$Text" "seconds" "LGuessFolds$Row;", Cond.fieldLink RX2 62 "GuessFolds$Text" "items" "I", Cond.fieldLink RX2 65 "GuessFolds$Text" "behind" "I", Cond.fieldLink RX2 68 "GuessFolds$Text" "toldWords" "I", Cond.methodLink RX2 58 yX1_empty, Cond.instanceMethod yX1_empty, Cond.selects RX1 yX1_empty yX1_empty, Cond.initialized RX1, Cond.code yX1_empty cX1_empty 2 (some .int), Cond.fieldLink RX1 7 "GuessFolds$Row" "size" "I", Cond.methodLink RX2 29 yX2_step, Cond.instanceMethod yX2_step, Cond.selects RX2 yX2_step yX2_step, Cond.code yX2_step cX2_step 1 none, Cond.fieldLink RX2 14 "GuessFolds$Text" "bytes" "LGuessFolds$Row;", Cond.constantLong RX2 78 (32), Cond.constantLong RX2 80 (59), Cond.methodLink RX2 71 yX1_size, Cond.instanceMethod yX1_size, Cond.selects RX1 yX1_size yX1_size, Cond.code yX1_size cX1_size 1 (some .int), Cond.methodLink RX2 74 yX1_at, Cond.instanceMethod yX1_at]
def wsX3_strip_r3 : List Cond := [Cond.selects RX1 yX1_at yX1_at, Cond.code yX1_at cX1_at 2 (some .long), Cond.fieldLink RX1 19 "GuessFolds$Row" "cells" "[J", Cond.methodLink RX2 82 yX2_isLetter, Cond.instanceMethod yX2_isLetter, Cond.selects RX2 yX2_isLetter yX2_isLetter, Cond.code yX2_isLetter cX2_isLetter 2 (some .boolean), Cond.constantLong RX2 126 (97), Cond.constantLong RX2 128 (122), Cond.methodLink RX2 86 yX2_wordHere, Cond.instanceMethod yX2_wordHere, Cond.selects RX2 yX2_wordHere yX2_wordHere, Cond.code yX2_wordHere cX2_wordHere 1 (some .int), Cond.methodLink RX2 97 yX2_isHere, Cond.instanceMethod yX2_isHere, Cond.selects RX2 yX2_isHere yX2_isHere, Cond.code yX2_isHere cX2_isHere 3 (some .boolean), Cond.methodLink RX2 106 yJ0_length_8abf5, Cond.instanceMethod yJ0_length_8abf5, Cond.selects RJ0 yJ0_length_8abf5 yJ0_length_8abf5, Cond.initialized RJ0, Cond.code yJ0_length_8abf5 cJ0_length_8abf5 1 (some .int), Cond.fieldLink RJ0 9 "java/lang/String" "value" "[B", Cond.methodLink RJ0 335 yJ0_coder_7d493]
def wsX3_strip_r4 : List Cond := [Cond.instanceMethod yJ0_coder_7d493, Cond.selects RJ0 yJ0_coder_7d493 yJ0_coder_7d493, Cond.code yJ0_coder_7d493 cJ0_coder_7d493 1 (some .byte), Cond.fieldLink RJ0 38 "java/lang/String" "COMPACT_STRINGS" "Z", Cond.fieldLink RJ0 15 "java/lang/String" "coder" "B", Cond.methodLink RX2 111 yJ0_charAt_5068e, Cond.instanceMethod yJ0_charAt_5068e, Cond.selects RJ0 yJ0_charAt_5068e yJ0_charAt_5068e, Cond.code yJ0_charAt_5068e cJ0_charAt_5068e 2 (some .char), Cond.methodLink RJ0 492 yJ0_isLatin1_aae02, Cond.instanceMethod yJ0_isLatin1_aae02, Cond.selects RJ0 yJ0_isLatin1_aae02 yJ0_isLatin1_aae02, Cond.code yJ0_isLatin1_aae02 cJ0_isLatin1_aae02 1 (some .boolean), Cond.methodLink RJ0 495 yJ1_charAt_3b067, Cond.static yJ1_charAt_3b067, Cond.initialized RJ1, Cond.code yJ1_charAt_3b067 cJ1_charAt_3b067 2 (some .char), Cond.methodLink RJ1 9 yJ0_checkIndex_df160, Cond.static yJ0_checkIndex_df160, Cond.code yJ0_checkIndex_df160 cJ0_checkIndex_df160 2 none, Cond.fieldLink RJ0 1053 "jdk/internal/util/Preconditions" "SIOOBE_FORMATTER" "Ljava/util/function/BiFunction;", Cond.methodLink RJ0 1059 yJ3_checkIndex_8e157, Cond.static yJ3_checkIndex_8e157, Cond.initialized RJ3]
def wsX3_strip_r5 : List Cond := [Cond.code yJ3_checkIndex_8e157 cJ3_checkIndex_8e157 3 (some .int), Cond.methodLink RJ0 498 yJ2_charAt_3b067, Cond.static yJ2_charAt_3b067, Cond.initialized RJ2, Cond.code yJ2_charAt_3b067 cJ2_charAt_3b067 2 (some .char), Cond.methodLink RJ2 67 yJ2_checkIndex_2214a, Cond.static yJ2_checkIndex_2214a, Cond.code yJ2_checkIndex_2214a cJ2_checkIndex_2214a 2 none, Cond.methodLink RJ2 48 yJ2_length_9d52b, Cond.static yJ2_length_9d52b, Cond.code yJ2_length_9d52b cJ2_length_9d52b 1 (some .int), Cond.methodLink RJ2 414 yJ0_checkIndex_df160, Cond.methodLink RJ2 71 yJ2_getChar_3b067, Cond.static yJ2_getChar_3b067, Cond.code yJ2_getChar_3b067 cJ2_getChar_3b067 2 (some .char), Cond.fieldLink RJ2 44 "java/lang/StringUTF16" "$assertionsDisabled" "Z", Cond.fieldLink RJ2 59 "java/lang/StringUTF16" "HI_BYTE_SHIFT" "I", Cond.fieldLink RJ2 63 "java/lang/StringUTF16" "LO_BYTE_SHIFT" "I", Cond.methodLink RX2 89 yX2_isDigit, Cond.instanceMethod yX2_isDigit, Cond.selects RX2 yX2_isDigit yX2_isDigit, Cond.code yX2_isDigit cX2_isDigit 2 (some .boolean), Cond.constantLong RX2 124 (48), Cond.constantLong RX2 130 (57)]
def wsX3_strip_r6 : List Cond := [Cond.methodLink RX2 92 yX2_numberHere, Cond.instanceMethod yX2_numberHere, Cond.selects RX2 yX2_numberHere yX2_numberHere, Cond.code yX2_numberHere cX2_numberHere 2 (some .int), Cond.fieldLink RX2 115 "GuessFolds$Text" "number" "I", Cond.methodLink RX2 118 Lib.Math.min.name, Cond.static Lib.Math.min.name, Cond.initialized "java/lang/Math", Cond.code Lib.Math.min.name Lib.Math.min.code 2 (some .int), Cond.methodLink RX2 39 yX2_takesToken, Cond.instanceMethod yX2_takesToken, Cond.selects RX2 yX2_takesToken yX2_takesToken, Cond.code yX2_takesToken cX2_takesToken 1 (some .boolean), Cond.methodLink RX2 132 yX2_takesWord, Cond.instanceMethod yX2_takesWord, Cond.selects RX2 yX2_takesWord yX2_takesWord, Cond.code yX2_takesWord cX2_takesWord 1 (some .boolean), Cond.fieldLink RX2 147 "GuessFolds$Text" "word" "I", Cond.methodLink RX2 144 yX2_mayStand, Cond.instanceMethod yX2_mayStand, Cond.selects RX2 yX2_mayStand yX2_mayStand, Cond.code yX2_mayStand cX2_mayStand 2 (some .boolean), Cond.methodLink RX2 150 yX1_hasRoom, Cond.instanceMethod yX1_hasRoom]
def wsX3_strip_r7 : List Cond := [Cond.selects RX1 yX1_hasRoom yX1_hasRoom, Cond.code yX1_hasRoom cX1_hasRoom 2 (some .boolean), Cond.methodLink RX2 153 yX2_isTold, Cond.instanceMethod yX2_isTold, Cond.selects RX2 yX2_isTold yX2_isTold, Cond.code yX2_isTold cX2_isTold 2 (some .boolean), Cond.methodLink RX2 135 yX2_takesNumber, Cond.instanceMethod yX2_takesNumber, Cond.selects RX2 yX2_takesNumber yX2_takesNumber, Cond.code yX2_takesNumber cX2_takesNumber 1 (some .boolean), Cond.methodLink RX2 156 yX2_mayBe, Cond.instanceMethod yX2_mayBe, Cond.selects RX2 yX2_mayBe yX2_mayBe, Cond.code yX2_mayBe cX2_mayBe 2 (some .boolean), Cond.methodLink RX2 163 yX2_isToldCrease, Cond.instanceMethod yX2_isToldCrease, Cond.selects RX2 yX2_isToldCrease yX2_isToldCrease, Cond.code yX2_isToldCrease cX2_isToldCrease 2 (some .boolean), Cond.methodLink RX2 159 yX1_add, Cond.instanceMethod yX1_add, Cond.selects RX1 yX1_add yX1_add, Cond.code yX1_add cX1_add 3 none, Cond.methodLink RX2 138 yX2_takesSecond, Cond.instanceMethod yX2_takesSecond]
def wsX3_strip_r8 : List Cond := [Cond.selects RX2 yX2_takesSecond yX2_takesSecond, Cond.code yX2_takesSecond cX2_takesSecond 1 (some .boolean), Cond.methodLink RX2 141 yX2_takesSemicolon, Cond.instanceMethod yX2_takesSemicolon, Cond.selects RX2 yX2_takesSemicolon yX2_takesSemicolon, Cond.code yX2_takesSemicolon cX2_takesSemicolon 1 (some .boolean), Cond.methodLink RX3 46 yX0_begin, Cond.instanceMethod yX0_begin, Cond.selects RX0 yX0_begin yX0_begin, Cond.initialized RX0, Cond.code yX0_begin cX0_begin 3 none, Cond.constantLong RX0 43 (1048576), Cond.methodLink RX0 36 yX0_empty, Cond.instanceMethod yX0_empty, Cond.selects RX0 yX0_empty yX0_empty, Cond.code yX0_empty cX0_empty 1 none, Cond.fieldLink RX0 14 "GuessFolds$Now" "where" "LGuessFolds$Row;", Cond.fieldLink RX0 20 "GuessFolds$Now" "offness" "LGuessFolds$Row;", Cond.fieldLink RX0 23 "GuessFolds$Now" "hairs" "LGuessFolds$Row;", Cond.fieldLink RX0 26 "GuessFolds$Now" "letters" "LGuessFolds$Row;", Cond.fieldLink RX0 29 "GuessFolds$Now" "seen" "LGuessFolds$Row;", Cond.methodLink RX0 52 yX1_empty, Cond.methodLink RX0 39 yX0_addCrease, Cond.instanceMethod yX0_addCrease]
def wsX3_strip_r9 : List Cond := [Cond.selects RX0 yX0_addCrease yX0_addCrease, Cond.code yX0_addCrease cX0_addCrease 7 none, Cond.methodLink RX0 58 yX1_add, Cond.methodLink RX3 66 yX1_size, Cond.methodLink RX3 83 yX1_at, Cond.methodLink RX3 90 yX0_bring, Cond.instanceMethod yX0_bring, Cond.selects RX0 yX0_bring yX0_bring, Cond.code yX0_bring cX0_bring 3 none, Cond.methodLink RX0 45 yX0_middle, Cond.static yX0_middle, Cond.code yX0_middle cX0_middle 3 (some .long), Cond.constantLong RX0 66 (2), Cond.methodLink RX0 62 yX1_at, Cond.methodLink RX3 93 yX0_empty, Cond.methodLink RX3 70 yX1_empty]
def wsX3_strip : List Cond := .code yX3_strip cX3_strip 3 (some .int) :: ((wsX3_strip_r1 ++ (wsX3_strip_r2 ++ (wsX3_strip_r3 ++ (wsX3_strip_r4 ++ (wsX3_strip_r5 ++ (wsX3_strip_r6 ++ (wsX3_strip_r7 ++ (wsX3_strip_r8 ++ wsX3_strip_r9)))))))) ++ wsX30 ++ wsX20 ++ wsX10 ++ wsX00)
def wsX3_isCrease : List Cond := .code yX3_isCrease cX3_isCrease 2 (some .boolean) :: ([.fieldLink RX3 19 "GuessFolds" "now" "LGuessFolds$Now;", .methodLink RX3 138 yX0_creases, .instanceMethod yX0_creases, .selects RX0 yX0_creases yX0_creases, .initialized RX0, .code yX0_creases cX0_creases 1 (some .int), .fieldLink RX0 14 "GuessFolds$Now" "where" "LGuessFolds$Row;", .methodLink RX0 32 yX1_size, .instanceMethod yX1_size, .selects RX1 yX1_size yX1_size, .initialized RX1, .code yX1_size cX1_size 1 (some .int), .fieldLink RX1 7 "GuessFolds$Row" "size" "I"] ++ wsX30 ++ wsX00 ++ wsX10)
def wsX3_shared : List Cond := .code yX3_shared cX3_shared 11 (some .long) :: ([])
def wsX3_leastUpper : List Cond := .code yX3_leastUpper cX3_leastUpper 6 (some .long) :: ([.methodLink RX3 229 yX3_shared, .static yX3_shared, .initialized RX3, .code yX3_shared cX3_shared 11 (some .long)])
def wsX3_leastLower : List Cond := .code yX3_leastLower cX3_leastLower 6 (some .long) :: ([.methodLink RX3 229 yX3_shared, .static yX3_shared, .initialized RX3, .code yX3_shared cX3_shared 11 (some .long)])
def wsX3_partOf : List Cond := .code yX3_partOf cX3_partOf 4 (some .int) :: ([.fieldLink RX3 19 "GuessFolds" "now" "LGuessFolds$Now;", .constantLong RX3 106 (1048576), .methodLink RX3 83 yX1_at, .instanceMethod yX1_at, .selects RX1 yX1_at yX1_at, .initialized RX1, .code yX1_at cX1_at 2 (some .long), .fieldLink RX1 19 "GuessFolds$Row" "cells" "[J"] ++ wsX30 ++ wsX00 ++ wsX10)
def wsX3_crease_r1 : List Cond := [Cond.constantLong RX3 101 (-1), Cond.fieldLink RX3 19 "GuessFolds" "now" "LGuessFolds$Now;", Cond.fieldLink RX3 29 "GuessFolds" "parts" "I", Cond.constantLong RX3 106 (1048576), Cond.methodLink RX3 98 yX3_isCrease, Cond.instanceMethod yX3_isCrease, Cond.selects RX3 yX3_isCrease yX3_isCrease, Cond.initialized RX3, Cond.code yX3_isCrease cX3_isCrease 2 (some .boolean), Cond.methodLink RX3 138 yX0_creases, Cond.instanceMethod yX0_creases, Cond.selects RX0 yX0_creases yX0_creases, Cond.initialized RX0, Cond.code yX0_creases cX0_creases 1 (some .int), Cond.fieldLink RX0 14 "GuessFolds$Now" "where" "LGuessFolds$Row;", Cond.methodLink RX0 32 yX1_size, Cond.instanceMethod yX1_size, Cond.selects RX1 yX1_size yX1_size, Cond.initialized RX1, Cond.code yX1_size cX1_size 1 (some .int), Cond.fieldLink RX1 7 "GuessFolds$Row" "size" "I", Cond.methodLink RX3 83 yX1_at, Cond.instanceMethod yX1_at, Cond.selects RX1 yX1_at yX1_at]
def wsX3_crease_r2 : List Cond := [Cond.code yX1_at cX1_at 2 (some .long), Cond.fieldLink RX1 19 "GuessFolds$Row" "cells" "[J", Cond.methodLink RX3 108 yX3_leastUpper, Cond.static yX3_leastUpper, Cond.code yX3_leastUpper cX3_leastUpper 6 (some .long), Cond.methodLink RX3 229 yX3_shared, Cond.static yX3_shared, Cond.code yX3_shared cX3_shared 11 (some .long), Cond.methodLink RX3 112 yX3_leastLower, Cond.static yX3_leastLower, Cond.code yX3_leastLower cX3_leastLower 6 (some .long), Cond.methodLink RX3 121 yX3_partOf, Cond.instanceMethod yX3_partOf, Cond.selects RX3 yX3_partOf yX3_partOf, Cond.code yX3_partOf cX3_partOf 4 (some .int)]
def wsX3_crease : List Cond := .code yX3_crease cX3_crease 3 (some .long) :: ((wsX3_crease_r1 ++ wsX3_crease_r2) ++ wsX30 ++ wsX00 ++ wsX10)
def wsX3_told : List Cond := .code yX3_told cX3_told 2 (some .int) :: ([.fieldLink RX3 29 "GuessFolds" "parts" "I", .fieldLink RX3 33 "GuessFolds" "part" "I", .fieldLink RX3 36 "GuessFolds" "off" "I", .fieldLink RX3 39 "GuessFolds" "hair" "I"] ++ wsX30)
def wsX3_isFolded : List Cond := .code yX3_isFolded cX3_isFolded 1 (some .boolean) :: ([.fieldLink RX3 19 "GuessFolds" "now" "LGuessFolds$Now;", .methodLink RX3 138 yX0_creases, .instanceMethod yX0_creases, .selects RX0 yX0_creases yX0_creases, .initialized RX0, .code yX0_creases cX0_creases 1 (some .int), .fieldLink RX0 14 "GuessFolds$Now" "where" "LGuessFolds$Row;", .methodLink RX0 32 yX1_size, .instanceMethod yX1_size, .selects RX1 yX1_size yX1_size, .initialized RX1, .code yX1_size cX1_size 1 (some .int), .fieldLink RX1 7 "GuessFolds$Row" "size" "I"] ++ wsX30 ++ wsX00 ++ wsX10)
def wsX3_latest : List Cond := .code yX3_latest cX3_latest 1 (some .int) :: ([.fieldLink RX3 19 "GuessFolds" "now" "LGuessFolds$Now;", .methodLink RX3 138 yX0_creases, .instanceMethod yX0_creases, .selects RX0 yX0_creases yX0_creases, .initialized RX0, .code yX0_creases cX0_creases 1 (some .int), .fieldLink RX0 14 "GuessFolds$Now" "where" "LGuessFolds$Row;", .methodLink RX0 32 yX1_size, .instanceMethod yX1_size, .selects RX1 yX1_size yX1_size, .initialized RX1, .code yX1_size cX1_size 1 (some .int), .fieldLink RX1 7 "GuessFolds$Row" "size" "I"] ++ wsX30 ++ wsX00 ++ wsX10)
def wsX3_fold_r1 : List Cond := [Cond.fieldLink RX3 19 "GuessFolds" "now" "LGuessFolds$Now;", Cond.methodLink RX3 98 yX3_isCrease, Cond.instanceMethod yX3_isCrease, Cond.selects RX3 yX3_isCrease yX3_isCrease, Cond.initialized RX3, Cond.code yX3_isCrease cX3_isCrease 2 (some .boolean), Cond.methodLink RX3 138 yX0_creases, Cond.instanceMethod yX0_creases, Cond.selects RX0 yX0_creases yX0_creases, Cond.initialized RX0, Cond.code yX0_creases cX0_creases 1 (some .int), Cond.fieldLink RX0 14 "GuessFolds$Now" "where" "LGuessFolds$Row;", Cond.methodLink RX0 32 yX1_size, Cond.instanceMethod yX1_size, Cond.selects RX1 yX1_size yX1_size, Cond.initialized RX1, Cond.code yX1_size cX1_size 1 (some .int), Cond.fieldLink RX1 7 "GuessFolds$Row" "size" "I", Cond.methodLink RX3 125 yX3_isFolded, Cond.instanceMethod yX3_isFolded, Cond.selects RX3 yX3_isFolded yX3_isFolded, Cond.code yX3_isFolded cX3_isFolded 1 (some .boolean), Cond.methodLink RX3 90 yX0_bring, Cond.instanceMethod yX0_bring]
def wsX3_fold_r2 : List Cond := [Cond.selects RX0 yX0_bring yX0_bring, Cond.code yX0_bring cX0_bring 3 none, Cond.fieldLink RX0 20 "GuessFolds$Now" "offness" "LGuessFolds$Row;", Cond.fieldLink RX0 23 "GuessFolds$Now" "hairs" "LGuessFolds$Row;", Cond.constantLong RX0 43 (1048576), Cond.methodLink RX0 45 yX0_middle, Cond.static yX0_middle, Cond.code yX0_middle cX0_middle 3 (some .long), Cond.constantLong RX0 66 (2), Cond.methodLink RX0 62 yX1_at, Cond.instanceMethod yX1_at, Cond.selects RX1 yX1_at yX1_at, Cond.code yX1_at cX1_at 2 (some .long), Cond.fieldLink RX1 19 "GuessFolds$Row" "cells" "[J", Cond.methodLink RX0 39 yX0_addCrease, Cond.instanceMethod yX0_addCrease, Cond.selects RX0 yX0_addCrease yX0_addCrease, Cond.code yX0_addCrease cX0_addCrease 7 none, Cond.methodLink RX0 58 yX1_add, Cond.instanceMethod yX1_add, Cond.selects RX1 yX1_add yX1_add, Cond.code yX1_add cX1_add 3 none, Cond.methodLink RX3 129 yX3_latest, Cond.instanceMethod yX3_latest]
def wsX3_fold_r3 : List Cond := [Cond.selects RX3 yX3_latest yX3_latest, Cond.code yX3_latest cX3_latest 1 (some .int)]
def wsX3_fold : List Cond := .code yX3_fold cX3_fold 3 (some .int) :: ((wsX3_fold_r1 ++ (wsX3_fold_r2 ++ wsX3_fold_r3)) ++ wsX30 ++ wsX00 ++ wsX10)
def wsX3_isInner : List Cond := .code yX3_isInner cX3_isInner 2 (some .boolean) :: ([.fieldLink RX3 29 "GuessFolds" "parts" "I"] ++ wsX30)
def wsX3_sideAt : List Cond := .code yX3_sideAt cX3_sideAt 1 (some .int) :: ([])
def wsX3_rule_r1 : List Cond := [Cond.fieldLink RX3 19 "GuessFolds" "now" "LGuessFolds$Now;", Cond.methodLink RX3 129 yX3_latest, Cond.instanceMethod yX3_latest, Cond.selects RX3 yX3_latest yX3_latest, Cond.initialized RX3, Cond.code yX3_latest cX3_latest 1 (some .int), Cond.methodLink RX3 138 yX0_creases, Cond.instanceMethod yX0_creases, Cond.selects RX0 yX0_creases yX0_creases, Cond.initialized RX0, Cond.code yX0_creases cX0_creases 1 (some .int), Cond.fieldLink RX0 14 "GuessFolds$Now" "where" "LGuessFolds$Row;", Cond.methodLink RX0 32 yX1_size, Cond.instanceMethod yX1_size, Cond.selects RX1 yX1_size yX1_size, Cond.initialized RX1, Cond.code yX1_size cX1_size 1 (some .int), Cond.fieldLink RX1 7 "GuessFolds$Row" "size" "I", Cond.methodLink RX3 121 yX3_partOf, Cond.instanceMethod yX3_partOf, Cond.selects RX3 yX3_partOf yX3_partOf, Cond.code yX3_partOf cX3_partOf 4 (some .int), Cond.constantLong RX3 106 (1048576), Cond.methodLink RX3 83 yX1_at]
def wsX3_rule_r2 : List Cond := [Cond.instanceMethod yX1_at, Cond.selects RX1 yX1_at yX1_at, Cond.code yX1_at cX1_at 2 (some .long), Cond.fieldLink RX1 19 "GuessFolds$Row" "cells" "[J", Cond.methodLink RX3 132 yX3_isInner, Cond.instanceMethod yX3_isInner, Cond.selects RX3 yX3_isInner yX3_isInner, Cond.code yX3_isInner cX3_isInner 2 (some .boolean), Cond.fieldLink RX3 29 "GuessFolds" "parts" "I", Cond.methodLink RX3 125 yX3_isFolded, Cond.instanceMethod yX3_isFolded, Cond.selects RX3 yX3_isFolded yX3_isFolded, Cond.code yX3_isFolded cX3_isFolded 1 (some .boolean), Cond.methodLink RX3 135 yX3_sideAt, Cond.static yX3_sideAt, Cond.code yX3_sideAt cX3_sideAt 1 (some .int), Cond.methodLink RX3 90 yX0_bring, Cond.instanceMethod yX0_bring, Cond.selects RX0 yX0_bring yX0_bring, Cond.code yX0_bring cX0_bring 3 none, Cond.fieldLink RX0 20 "GuessFolds$Now" "offness" "LGuessFolds$Row;", Cond.fieldLink RX0 23 "GuessFolds$Now" "hairs" "LGuessFolds$Row;", Cond.constantLong RX0 43 (1048576), Cond.methodLink RX0 45 yX0_middle]
def wsX3_rule_r3 : List Cond := [Cond.static yX0_middle, Cond.code yX0_middle cX0_middle 3 (some .long), Cond.constantLong RX0 66 (2), Cond.methodLink RX0 62 yX1_at, Cond.methodLink RX0 39 yX0_addCrease, Cond.instanceMethod yX0_addCrease, Cond.selects RX0 yX0_addCrease yX0_addCrease, Cond.code yX0_addCrease cX0_addCrease 7 none, Cond.methodLink RX0 58 yX1_add, Cond.instanceMethod yX1_add, Cond.selects RX1 yX1_add yX1_add, Cond.code yX1_add cX1_add 3 none]
def wsX3_rule : List Cond := .code yX3_rule cX3_rule 4 (some .int) :: ((wsX3_rule_r1 ++ (wsX3_rule_r2 ++ wsX3_rule_r3)) ++ wsX30 ++ wsX00 ++ wsX10)
def wsX3_undo_r1 : List Cond := [Cond.fieldLink RX3 19 "GuessFolds" "now" "LGuessFolds$Now;", Cond.methodLink RX3 138 yX0_creases, Cond.instanceMethod yX0_creases, Cond.selects RX0 yX0_creases yX0_creases, Cond.initialized RX0, Cond.code yX0_creases cX0_creases 1 (some .int), Cond.fieldLink RX0 14 "GuessFolds$Now" "where" "LGuessFolds$Row;", Cond.methodLink RX0 32 yX1_size, Cond.instanceMethod yX1_size, Cond.selects RX1 yX1_size yX1_size, Cond.initialized RX1, Cond.code yX1_size cX1_size 1 (some .int), Cond.fieldLink RX1 7 "GuessFolds$Row" "size" "I", Cond.methodLink RX3 141 yX0_unfold, Cond.instanceMethod yX0_unfold, Cond.selects RX0 yX0_unfold yX0_unfold, Cond.code yX0_unfold cX0_unfold 1 none, Cond.fieldLink RX0 20 "GuessFolds$Now" "offness" "LGuessFolds$Row;", Cond.fieldLink RX0 23 "GuessFolds$Now" "hairs" "LGuessFolds$Row;", Cond.methodLink RX0 49 yX1_dropLast, Cond.instanceMethod yX1_dropLast, Cond.selects RX1 yX1_dropLast yX1_dropLast, Cond.code yX1_dropLast cX1_dropLast 1 none, Cond.methodLink RX1 13 Lib.Math.max.name]
def wsX3_undo_r2 : List Cond := [Cond.static Lib.Math.max.name, Cond.initialized "java/lang/Math", Cond.code Lib.Math.max.name Lib.Math.max.code 2 (some .int)]
def wsX3_undo : List Cond := .code yX3_undo cX3_undo 1 (some .int) :: ((wsX3_undo_r1 ++ wsX3_undo_r2) ++ wsX30 ++ wsX00 ++ wsX10)
def wsX3_says : List Cond := .code yX3_says cX3_says 2 (some .int) :: ([.methodLink RX3 132 yX3_isInner, .instanceMethod yX3_isInner, .selects RX3 yX3_isInner yX3_isInner, .initialized RX3, .code yX3_isInner cX3_isInner 2 (some .boolean), .fieldLink RX3 29 "GuessFolds" "parts" "I", .methodLink RX3 135 yX3_sideAt, .static yX3_sideAt, .code yX3_sideAt cX3_sideAt 1 (some .int)] ++ wsX30)
def wsX3_ruled : List Cond := .code yX3_ruled cX3_ruled 2 (some .int) :: ([.methodLink RX3 135 yX3_sideAt, .static yX3_sideAt, .initialized RX3, .code yX3_sideAt cX3_sideAt 1 (some .int)])
def wsX3_foldsAround : List Cond := .code yX3_foldsAround cX3_foldsAround 4 (some .int) :: ([.fieldLink RX3 29 "GuessFolds" "parts" "I", .methodLink RX3 156 yX3_ruled, .static yX3_ruled, .initialized RX3, .code yX3_ruled cX3_ruled 2 (some .int), .methodLink RX3 135 yX3_sideAt, .static yX3_sideAt, .code yX3_sideAt cX3_sideAt 1 (some .int)] ++ wsX30)
def wsX3_round : List Cond := .code yX3_round cX3_round 2 (some .int) :: ([.methodLink RX3 132 yX3_isInner, .instanceMethod yX3_isInner, .selects RX3 yX3_isInner yX3_isInner, .initialized RX3, .code yX3_isInner cX3_isInner 2 (some .boolean), .fieldLink RX3 29 "GuessFolds" "parts" "I", .methodLink RX3 144 yX3_foldsAround, .instanceMethod yX3_foldsAround, .selects RX3 yX3_foldsAround yX3_foldsAround, .code yX3_foldsAround cX3_foldsAround 4 (some .int), .methodLink RX3 156 yX3_ruled, .static yX3_ruled, .code yX3_ruled cX3_ruled 2 (some .int), .methodLink RX3 135 yX3_sideAt, .static yX3_sideAt, .code yX3_sideAt cX3_sideAt 1 (some .int)] ++ wsX30)
def wsX3_near : List Cond := .code yX3_near cX3_near 3 (some .int) :: ([.constant RX3 147 (99999), .fieldLink RX3 36 "GuessFolds" "off" "I", .constantLong RX3 148 (1000)] ++ wsX30)
def wsX3_creasesAtNoPart : List Cond := .code yX3_creasesAtNoPart cX3_creasesAtNoPart 3 (some .int) :: ([.fieldLink RX3 19 "GuessFolds" "now" "LGuessFolds$Now;", .methodLink RX3 138 yX0_creases, .instanceMethod yX0_creases, .selects RX0 yX0_creases yX0_creases, .initialized RX0, .code yX0_creases cX0_creases 1 (some .int), .fieldLink RX0 14 "GuessFolds$Now" "where" "LGuessFolds$Row;", .methodLink RX0 32 yX1_size, .instanceMethod yX1_size, .selects RX1 yX1_size yX1_size, .initialized RX1, .code yX1_size cX1_size 1 (some .int), .fieldLink RX1 7 "GuessFolds$Row" "size" "I", .methodLink RX3 121 yX3_partOf, .instanceMethod yX3_partOf, .selects RX3 yX3_partOf yX3_partOf, .initialized RX3, .code yX3_partOf cX3_partOf 4 (some .int), .constantLong RX3 106 (1048576), .methodLink RX3 83 yX1_at, .instanceMethod yX1_at, .selects RX1 yX1_at yX1_at, .code yX1_at cX1_at 2 (some .long), .fieldLink RX1 19 "GuessFolds$Row" "cells" "[J"] ++ wsX30 ++ wsX00 ++ wsX10)
def wsX3_bit : List Cond := .code yX3_bit cX3_bit 1 (some .long) :: ([])
def wsJ13_bitCount_95d88 : List Cond := .code yJ13_bitCount_95d88 cJ13_bitCount_95d88 2 (some .int) :: ([.constantLong RJ13 314 (6148914691236517205), .constantLong RJ13 316 (3689348814741910323), .constantLong RJ13 318 (1085102592571150095)])
def wsX3_partsWithoutCrease_r1 : List Cond := [Cond.fieldLink RX3 19 "GuessFolds" "now" "LGuessFolds$Now;", Cond.fieldLink RX3 29 "GuessFolds" "parts" "I", Cond.methodLink RX3 138 yX0_creases, Cond.instanceMethod yX0_creases, Cond.selects RX0 yX0_creases yX0_creases, Cond.initialized RX0, Cond.code yX0_creases cX0_creases 1 (some .int), Cond.fieldLink RX0 14 "GuessFolds$Now" "where" "LGuessFolds$Row;", Cond.methodLink RX0 32 yX1_size, Cond.instanceMethod yX1_size, Cond.selects RX1 yX1_size yX1_size, Cond.initialized RX1, Cond.code yX1_size cX1_size 1 (some .int), Cond.fieldLink RX1 7 "GuessFolds$Row" "size" "I", Cond.methodLink RX3 121 yX3_partOf, Cond.instanceMethod yX3_partOf, Cond.selects RX3 yX3_partOf yX3_partOf, Cond.initialized RX3, Cond.code yX3_partOf cX3_partOf 4 (some .int), Cond.constantLong RX3 106 (1048576), Cond.methodLink RX3 83 yX1_at, Cond.instanceMethod yX1_at, Cond.selects RX1 yX1_at yX1_at, Cond.code yX1_at cX1_at 2 (some .long)]
def wsX3_partsWithoutCrease_r2 : List Cond := [Cond.fieldLink RX1 19 "GuessFolds$Row" "cells" "[J", Cond.methodLink RX3 132 yX3_isInner, Cond.instanceMethod yX3_isInner, Cond.selects RX3 yX3_isInner yX3_isInner, Cond.code yX3_isInner cX3_isInner 2 (some .boolean), Cond.methodLink RX3 209 yX3_bit, Cond.static yX3_bit, Cond.code yX3_bit cX3_bit 1 (some .long), Cond.methodLink RX3 212 yJ13_bitCount_95d88, Cond.static yJ13_bitCount_95d88, Cond.initialized RJ13, Cond.code yJ13_bitCount_95d88 cJ13_bitCount_95d88 2 (some .int), Cond.constantLong RJ13 314 (6148914691236517205), Cond.constantLong RJ13 316 (3689348814741910323), Cond.constantLong RJ13 318 (1085102592571150095)]
def wsX3_partsWithoutCrease : List Cond := .code yX3_partsWithoutCrease cX3_partsWithoutCrease 5 (some .int) :: ((wsX3_partsWithoutCrease_r1 ++ wsX3_partsWithoutCrease_r2) ++ wsX30 ++ wsX00 ++ wsX10)
def wsX3_wasted_r1 : List Cond := [Cond.methodLink RX3 150 yX3_creasesAtNoPart, Cond.instanceMethod yX3_creasesAtNoPart, Cond.selects RX3 yX3_creasesAtNoPart yX3_creasesAtNoPart, Cond.initialized RX3, Cond.code yX3_creasesAtNoPart cX3_creasesAtNoPart 3 (some .int), Cond.fieldLink RX3 19 "GuessFolds" "now" "LGuessFolds$Now;", Cond.methodLink RX3 138 yX0_creases, Cond.instanceMethod yX0_creases, Cond.selects RX0 yX0_creases yX0_creases, Cond.initialized RX0, Cond.code yX0_creases cX0_creases 1 (some .int), Cond.fieldLink RX0 14 "GuessFolds$Now" "where" "LGuessFolds$Row;", Cond.methodLink RX0 32 yX1_size, Cond.instanceMethod yX1_size, Cond.selects RX1 yX1_size yX1_size, Cond.initialized RX1, Cond.code yX1_size cX1_size 1 (some .int), Cond.fieldLink RX1 7 "GuessFolds$Row" "size" "I", Cond.methodLink RX3 121 yX3_partOf, Cond.instanceMethod yX3_partOf, Cond.selects RX3 yX3_partOf yX3_partOf, Cond.code yX3_partOf cX3_partOf 4 (some .int), Cond.constantLong RX3 106 (1048576), Cond.methodLink RX3 83 yX1_at]
def wsX3_wasted_r2 : List Cond := [Cond.instanceMethod yX1_at, Cond.selects RX1 yX1_at yX1_at, Cond.code yX1_at cX1_at 2 (some .long), Cond.fieldLink RX1 19 "GuessFolds$Row" "cells" "[J", Cond.methodLink RX3 153 yX3_partsWithoutCrease, Cond.instanceMethod yX3_partsWithoutCrease, Cond.selects RX3 yX3_partsWithoutCrease yX3_partsWithoutCrease, Cond.code yX3_partsWithoutCrease cX3_partsWithoutCrease 5 (some .int), Cond.fieldLink RX3 29 "GuessFolds" "parts" "I", Cond.methodLink RX3 132 yX3_isInner, Cond.instanceMethod yX3_isInner, Cond.selects RX3 yX3_isInner yX3_isInner, Cond.code yX3_isInner cX3_isInner 2 (some .boolean), Cond.methodLink RX3 209 yX3_bit, Cond.static yX3_bit, Cond.code yX3_bit cX3_bit 1 (some .long), Cond.methodLink RX3 212 yJ13_bitCount_95d88, Cond.static yJ13_bitCount_95d88, Cond.initialized RJ13, Cond.code yJ13_bitCount_95d88 cJ13_bitCount_95d88 2 (some .int), Cond.constantLong RJ13 314 (6148914691236517205), Cond.constantLong RJ13 316 (3689348814741910323), Cond.constantLong RJ13 318 (1085102592571150095)]
def wsX3_wasted : List Cond := .code yX3_wasted cX3_wasted 2 (some .int) :: ((wsX3_wasted_r1 ++ wsX3_wasted_r2) ++ wsX30 ++ wsX00 ++ wsX10)
def wsX3_fewest : List Cond := .code yX3_fewest cX3_fewest 4 (some .int) :: ([.fieldLink RX3 33 "GuessFolds" "part" "I", .fieldLink RX3 29 "GuessFolds" "parts" "I", .methodLink RX3 132 yX3_isInner, .instanceMethod yX3_isInner, .selects RX3 yX3_isInner yX3_isInner, .initialized RX3, .code yX3_isInner cX3_isInner 2 (some .boolean), .methodLink RX3 156 yX3_ruled, .static yX3_ruled, .code yX3_ruled cX3_ruled 2 (some .int), .methodLink RX3 135 yX3_sideAt, .static yX3_sideAt, .code yX3_sideAt cX3_sideAt 1 (some .int)] ++ wsX30)
def wsX3_ringOf : List Cond := .code yX3_ringOf cX3_ringOf 6 (some .long) :: ([.fieldLink RX3 29 "GuessFolds" "parts" "I", .methodLink RX3 209 yX3_bit, .static yX3_bit, .initialized RX3, .code yX3_bit cX3_bit 1 (some .long), .methodLink RX3 156 yX3_ruled, .static yX3_ruled, .code yX3_ruled cX3_ruled 2 (some .int), .methodLink RX3 135 yX3_sideAt, .static yX3_sideAt, .code yX3_sideAt cX3_sideAt 1 (some .int)] ++ wsX30)
def wsX3_starts : List Cond := .code yX3_starts cX3_starts 5 (some .int) :: ([.fieldLink RX3 29 "GuessFolds" "parts" "I", .methodLink RX3 209 yX3_bit, .static yX3_bit, .initialized RX3, .code yX3_bit cX3_bit 1 (some .long), .methodLink RX3 218 yX3_ringOf, .instanceMethod yX3_ringOf, .selects RX3 yX3_ringOf yX3_ringOf, .code yX3_ringOf cX3_ringOf 6 (some .long), .methodLink RX3 156 yX3_ruled, .static yX3_ruled, .code yX3_ruled cX3_ruled 2 (some .int), .methodLink RX3 135 yX3_sideAt, .static yX3_sideAt, .code yX3_sideAt cX3_sideAt 1 (some .int)] ++ wsX30)
def wsX3_comes : List Cond := .code yX3_comes cX3_comes 2 (some .int) :: ([.fieldLink RX3 33 "GuessFolds" "part" "I", .methodLink RX3 144 yX3_foldsAround, .instanceMethod yX3_foldsAround, .selects RX3 yX3_foldsAround yX3_foldsAround, .initialized RX3, .code yX3_foldsAround cX3_foldsAround 4 (some .int), .fieldLink RX3 29 "GuessFolds" "parts" "I", .methodLink RX3 156 yX3_ruled, .static yX3_ruled, .code yX3_ruled cX3_ruled 2 (some .int), .methodLink RX3 135 yX3_sideAt, .static yX3_sideAt, .code yX3_sideAt cX3_sideAt 1 (some .int), .methodLink RX3 160 yX3_starts, .instanceMethod yX3_starts, .selects RX3 yX3_starts yX3_starts, .code yX3_starts cX3_starts 5 (some .int), .methodLink RX3 209 yX3_bit, .static yX3_bit, .code yX3_bit cX3_bit 1 (some .long), .methodLink RX3 218 yX3_ringOf, .instanceMethod yX3_ringOf, .selects RX3 yX3_ringOf yX3_ringOf, .code yX3_ringOf cX3_ringOf 6 (some .long)] ++ wsX30)
def wsX3_letter : List Cond := .code yX3_letter cX3_letter 2 (some .int) :: ([.fieldLink RX3 19 "GuessFolds" "now" "LGuessFolds$Now;", .methodLink RX3 54 yX1_hasRoom, .instanceMethod yX1_hasRoom, .selects RX1 yX1_hasRoom yX1_hasRoom, .initialized RX1, .code yX1_hasRoom cX1_hasRoom 2 (some .boolean), .fieldLink RX1 7 "GuessFolds$Row" "size" "I", .fieldLink RX1 19 "GuessFolds$Row" "cells" "[J", .methodLink RX3 62 yX1_add, .instanceMethod yX1_add, .selects RX1 yX1_add yX1_add, .code yX1_add cX1_add 3 none, .methodLink RX3 66 yX1_size, .instanceMethod yX1_size, .selects RX1 yX1_size yX1_size, .code yX1_size cX1_size 1 (some .int)] ++ wsX30 ++ wsX00 ++ wsX10)
def wsX3_hush : List Cond := .code yX3_hush cX3_hush 1 (some .int) :: ([.fieldLink RX3 19 "GuessFolds" "now" "LGuessFolds$Now;", .methodLink RX3 70 yX1_empty, .instanceMethod yX1_empty, .selects RX1 yX1_empty yX1_empty, .initialized RX1, .code yX1_empty cX1_empty 2 (some .int), .fieldLink RX1 7 "GuessFolds$Row" "size" "I"] ++ wsX30 ++ wsX00 ++ wsX10)
def wsX3_wrongLetter : List Cond := .code yX3_wrongLetter cX3_wrongLetter 5 (some .int) :: ([.fieldLink RX3 19 "GuessFolds" "now" "LGuessFolds$Now;", .methodLink RX3 66 yX1_size, .instanceMethod yX1_size, .selects RX1 yX1_size yX1_size, .initialized RX1, .code yX1_size cX1_size 1 (some .int), .fieldLink RX1 7 "GuessFolds$Row" "size" "I", .methodLink RX3 83 yX1_at, .instanceMethod yX1_at, .selects RX1 yX1_at yX1_at, .code yX1_at cX1_at 2 (some .long), .fieldLink RX1 19 "GuessFolds$Row" "cells" "[J", .methodLink RX3 135 yX3_sideAt, .static yX3_sideAt, .initialized RX3, .code yX3_sideAt cX3_sideAt 1 (some .int), .methodLink RX3 156 yX3_ruled, .static yX3_ruled, .code yX3_ruled cX3_ruled 2 (some .int)] ++ wsX30 ++ wsX00 ++ wsX10)
def wsX3_meant : List Cond := .code yX3_meant cX3_meant 7 (some .int) :: ([.methodLink RX3 166 yX3_wrongLetter, .instanceMethod yX3_wrongLetter, .selects RX3 yX3_wrongLetter yX3_wrongLetter, .initialized RX3, .code yX3_wrongLetter cX3_wrongLetter 5 (some .int), .fieldLink RX3 19 "GuessFolds" "now" "LGuessFolds$Now;", .methodLink RX3 66 yX1_size, .instanceMethod yX1_size, .selects RX1 yX1_size yX1_size, .initialized RX1, .code yX1_size cX1_size 1 (some .int), .fieldLink RX1 7 "GuessFolds$Row" "size" "I", .methodLink RX3 83 yX1_at, .instanceMethod yX1_at, .selects RX1 yX1_at yX1_at, .code yX1_at cX1_at 2 (some .long), .fieldLink RX1 19 "GuessFolds$Row" "cells" "[J", .methodLink RX3 135 yX3_sideAt, .static yX3_sideAt, .code yX3_sideAt cX3_sideAt 1 (some .int), .methodLink RX3 156 yX3_ruled, .static yX3_ruled, .code yX3_ruled cX3_ruled 2 (some .int)] ++ wsX30 ++ wsX00 ++ wsX10)
def wsX3_wrong_r1 : List Cond := [Cond.fieldLink RX3 29 "GuessFolds" "parts" "I", Cond.fieldLink RX3 33 "GuessFolds" "part" "I", Cond.methodLink RX3 166 yX3_wrongLetter, Cond.instanceMethod yX3_wrongLetter, Cond.selects RX3 yX3_wrongLetter yX3_wrongLetter, Cond.initialized RX3, Cond.code yX3_wrongLetter cX3_wrongLetter 5 (some .int), Cond.fieldLink RX3 19 "GuessFolds" "now" "LGuessFolds$Now;", Cond.methodLink RX3 66 yX1_size, Cond.instanceMethod yX1_size, Cond.selects RX1 yX1_size yX1_size, Cond.initialized RX1, Cond.code yX1_size cX1_size 1 (some .int), Cond.fieldLink RX1 7 "GuessFolds$Row" "size" "I", Cond.methodLink RX3 83 yX1_at, Cond.instanceMethod yX1_at, Cond.selects RX1 yX1_at yX1_at, Cond.code yX1_at cX1_at 2 (some .long), Cond.fieldLink RX1 19 "GuessFolds$Row" "cells" "[J", Cond.methodLink RX3 135 yX3_sideAt, Cond.static yX3_sideAt, Cond.code yX3_sideAt cX3_sideAt 1 (some .int), Cond.methodLink RX3 156 yX3_ruled, Cond.static yX3_ruled]
def wsX3_wrong_r2 : List Cond := [Cond.code yX3_ruled cX3_ruled 2 (some .int)]
def wsX3_wrong : List Cond := .code yX3_wrong cX3_wrong 1 (some .int) :: ((wsX3_wrong_r1 ++ wsX3_wrong_r2) ++ wsX30 ++ wsX00 ++ wsX10)
def wsX3_got_r1 : List Cond := [Cond.constantLong RX3 101 (-1), Cond.fieldLink RX3 29 "GuessFolds" "parts" "I", Cond.constantLong RX3 106 (1048576), Cond.fieldLink RX3 33 "GuessFolds" "part" "I", Cond.fieldLink RX3 19 "GuessFolds" "now" "LGuessFolds$Now;", Cond.constantLong RX3 169 (2), Cond.methodLink RX3 66 yX1_size, Cond.instanceMethod yX1_size, Cond.selects RX1 yX1_size yX1_size, Cond.initialized RX1, Cond.code yX1_size cX1_size 1 (some .int), Cond.fieldLink RX1 7 "GuessFolds$Row" "size" "I", Cond.methodLink RX3 83 yX1_at, Cond.instanceMethod yX1_at, Cond.selects RX1 yX1_at yX1_at, Cond.code yX1_at cX1_at 2 (some .long), Cond.fieldLink RX1 19 "GuessFolds$Row" "cells" "[J", Cond.methodLink RX3 108 yX3_leastUpper, Cond.static yX3_leastUpper, Cond.initialized RX3, Cond.code yX3_leastUpper cX3_leastUpper 6 (some .long), Cond.methodLink RX3 229 yX3_shared, Cond.static yX3_shared, Cond.code yX3_shared cX3_shared 11 (some .long)]
def wsX3_got_r2 : List Cond := [Cond.methodLink RX3 112 yX3_leastLower, Cond.static yX3_leastLower, Cond.code yX3_leastLower cX3_leastLower 6 (some .long)]
def wsX3_got : List Cond := .code yX3_got cX3_got 7 (some .long) :: ((wsX3_got_r1 ++ wsX3_got_r2) ++ wsX30 ++ wsX00 ++ wsX10)
def wsX3_saw : List Cond := .code yX3_saw cX3_saw 2 (some .int) :: ([.fieldLink RX3 19 "GuessFolds" "now" "LGuessFolds$Now;", .methodLink RX3 132 yX3_isInner, .instanceMethod yX3_isInner, .selects RX3 yX3_isInner yX3_isInner, .initialized RX3, .code yX3_isInner cX3_isInner 2 (some .boolean), .fieldLink RX3 29 "GuessFolds" "parts" "I", .methodLink RX3 54 yX1_hasRoom, .instanceMethod yX1_hasRoom, .selects RX1 yX1_hasRoom yX1_hasRoom, .initialized RX1, .code yX1_hasRoom cX1_hasRoom 2 (some .boolean), .fieldLink RX1 7 "GuessFolds$Row" "size" "I", .fieldLink RX1 19 "GuessFolds$Row" "cells" "[J", .methodLink RX3 62 yX1_add, .instanceMethod yX1_add, .selects RX1 yX1_add yX1_add, .code yX1_add cX1_add 3 none, .methodLink RX3 66 yX1_size, .instanceMethod yX1_size, .selects RX1 yX1_size yX1_size, .code yX1_size cX1_size 1 (some .int)] ++ wsX30 ++ wsX00 ++ wsX10)
def wsX3_forget : List Cond := .code yX3_forget cX3_forget 1 (some .int) :: ([.fieldLink RX3 19 "GuessFolds" "now" "LGuessFolds$Now;", .methodLink RX3 70 yX1_empty, .instanceMethod yX1_empty, .selects RX1 yX1_empty yX1_empty, .initialized RX1, .code yX1_empty cX1_empty 2 (some .int), .fieldLink RX1 7 "GuessFolds$Row" "size" "I"] ++ wsX30 ++ wsX00 ++ wsX10)
def wsX3_seenSet : List Cond := .code yX3_seenSet cX3_seenSet 4 (some .long) :: ([.fieldLink RX3 19 "GuessFolds" "now" "LGuessFolds$Now;", .methodLink RX3 66 yX1_size, .instanceMethod yX1_size, .selects RX1 yX1_size yX1_size, .initialized RX1, .code yX1_size cX1_size 1 (some .int), .fieldLink RX1 7 "GuessFolds$Row" "size" "I", .methodLink RX3 83 yX1_at, .instanceMethod yX1_at, .selects RX1 yX1_at yX1_at, .code yX1_at cX1_at 2 (some .long), .fieldLink RX1 19 "GuessFolds$Row" "cells" "[J", .methodLink RX3 209 yX3_bit, .static yX3_bit, .initialized RX3, .code yX3_bit cX3_bit 1 (some .long)] ++ wsX30 ++ wsX00 ++ wsX10)
def wsX3_waysFrom : List Cond := .code yX3_waysFrom cX3_waysFrom 9 (some .int) :: ([.fieldLink RX3 29 "GuessFolds" "parts" "I", .methodLink RX3 209 yX3_bit, .static yX3_bit, .initialized RX3, .code yX3_bit cX3_bit 1 (some .long), .methodLink RX3 156 yX3_ruled, .static yX3_ruled, .code yX3_ruled cX3_ruled 2 (some .int), .methodLink RX3 135 yX3_sideAt, .static yX3_sideAt, .code yX3_sideAt cX3_sideAt 1 (some .int)] ++ wsX30)
def wsX3_from_r1 : List Cond := [Cond.fieldLink RX3 29 "GuessFolds" "parts" "I", Cond.methodLink RX3 174 yX3_seenSet, Cond.instanceMethod yX3_seenSet, Cond.selects RX3 yX3_seenSet yX3_seenSet, Cond.initialized RX3, Cond.code yX3_seenSet cX3_seenSet 4 (some .long), Cond.fieldLink RX3 19 "GuessFolds" "now" "LGuessFolds$Now;", Cond.methodLink RX3 66 yX1_size, Cond.instanceMethod yX1_size, Cond.selects RX1 yX1_size yX1_size, Cond.initialized RX1, Cond.code yX1_size cX1_size 1 (some .int), Cond.fieldLink RX1 7 "GuessFolds$Row" "size" "I", Cond.methodLink RX3 83 yX1_at, Cond.instanceMethod yX1_at, Cond.selects RX1 yX1_at yX1_at, Cond.code yX1_at cX1_at 2 (some .long), Cond.fieldLink RX1 19 "GuessFolds$Row" "cells" "[J", Cond.methodLink RX3 209 yX3_bit, Cond.static yX3_bit, Cond.code yX3_bit cX3_bit 1 (some .long), Cond.methodLink RX3 178 yX3_waysFrom, Cond.instanceMethod yX3_waysFrom, Cond.selects RX3 yX3_waysFrom yX3_waysFrom]
def wsX3_from_r2 : List Cond := [Cond.code yX3_waysFrom cX3_waysFrom 9 (some .int), Cond.methodLink RX3 156 yX3_ruled, Cond.static yX3_ruled, Cond.code yX3_ruled cX3_ruled 2 (some .int), Cond.methodLink RX3 135 yX3_sideAt, Cond.static yX3_sideAt, Cond.code yX3_sideAt cX3_sideAt 1 (some .int)]
def wsX3_from : List Cond := .code yX3_from cX3_from 8 (some .int) :: ((wsX3_from_r1 ++ wsX3_from_r2) ++ wsX30 ++ wsX00 ++ wsX10)
def wsX3_asCrease : List Cond := .code yX3_asCrease cX3_asCrease 2 (some .int) :: ([.fieldLink RX3 42 "GuessFolds" "traced" "J"] ++ wsX30)
def wsX3_asPinch : List Cond := .code yX3_asPinch cX3_asPinch 3 (some .int) :: ([.fieldLink RX3 42 "GuessFolds" "traced" "J", .constantLong RX3 221 (10), .methodLink RX3 121 yX3_partOf, .instanceMethod yX3_partOf, .selects RX3 yX3_partOf yX3_partOf, .initialized RX3, .code yX3_partOf cX3_partOf 4 (some .int), .fieldLink RX3 19 "GuessFolds" "now" "LGuessFolds$Now;", .constantLong RX3 106 (1048576), .methodLink RX3 83 yX1_at, .instanceMethod yX1_at, .selects RX1 yX1_at yX1_at, .initialized RX1, .code yX1_at cX1_at 2 (some .long), .fieldLink RX1 19 "GuessFolds$Row" "cells" "[J", .methodLink RX3 183 yX3_asCrease, .instanceMethod yX3_asCrease, .selects RX3 yX3_asCrease yX3_asCrease, .code yX3_asCrease cX3_asCrease 2 (some .int)] ++ wsX30 ++ wsX00 ++ wsX10)
def wsX3_asEnd : List Cond := .code yX3_asEnd cX3_asEnd 2 (some .int) :: ([.fieldLink RX3 42 "GuessFolds" "traced" "J", .constantLong RX3 223 (100), .fieldLink RX3 19 "GuessFolds" "now" "LGuessFolds$Now;", .methodLink RX3 183 yX3_asCrease, .instanceMethod yX3_asCrease, .selects RX3 yX3_asCrease yX3_asCrease, .initialized RX3, .code yX3_asCrease cX3_asCrease 2 (some .int), .methodLink RX3 138 yX0_creases, .instanceMethod yX0_creases, .selects RX0 yX0_creases yX0_creases, .initialized RX0, .code yX0_creases cX0_creases 1 (some .int), .fieldLink RX0 14 "GuessFolds$Now" "where" "LGuessFolds$Row;", .methodLink RX0 32 yX1_size, .instanceMethod yX1_size, .selects RX1 yX1_size yX1_size, .initialized RX1, .code yX1_size cX1_size 1 (some .int), .fieldLink RX1 7 "GuessFolds$Row" "size" "I"] ++ wsX30 ++ wsX00 ++ wsX10)
def wsX3_asThumb : List Cond := .code yX3_asThumb cX3_asThumb 2 (some .int) :: ([.fieldLink RX3 42 "GuessFolds" "traced" "J", .constantLong RX3 148 (1000), .methodLink RX3 186 yX3_asPinch, .instanceMethod yX3_asPinch, .selects RX3 yX3_asPinch yX3_asPinch, .initialized RX3, .code yX3_asPinch cX3_asPinch 3 (some .int), .constantLong RX3 221 (10), .methodLink RX3 121 yX3_partOf, .instanceMethod yX3_partOf, .selects RX3 yX3_partOf yX3_partOf, .code yX3_partOf cX3_partOf 4 (some .int), .fieldLink RX3 19 "GuessFolds" "now" "LGuessFolds$Now;", .constantLong RX3 106 (1048576), .methodLink RX3 83 yX1_at, .instanceMethod yX1_at, .selects RX1 yX1_at yX1_at, .initialized RX1, .code yX1_at cX1_at 2 (some .long), .fieldLink RX1 19 "GuessFolds$Row" "cells" "[J", .methodLink RX3 183 yX3_asCrease, .instanceMethod yX3_asCrease, .selects RX3 yX3_asCrease yX3_asCrease, .code yX3_asCrease cX3_asCrease 2 (some .int)] ++ wsX30 ++ wsX00 ++ wsX10)
def wsX3_asCorner_r1 : List Cond := [Cond.fieldLink RX3 42 "GuessFolds" "traced" "J", Cond.constantLong RX3 225 (10000), Cond.fieldLink RX3 19 "GuessFolds" "now" "LGuessFolds$Now;", Cond.methodLink RX3 189 yX3_asEnd, Cond.instanceMethod yX3_asEnd, Cond.selects RX3 yX3_asEnd yX3_asEnd, Cond.initialized RX3, Cond.code yX3_asEnd cX3_asEnd 2 (some .int), Cond.constantLong RX3 223 (100), Cond.methodLink RX3 183 yX3_asCrease, Cond.instanceMethod yX3_asCrease, Cond.selects RX3 yX3_asCrease yX3_asCrease, Cond.code yX3_asCrease cX3_asCrease 2 (some .int), Cond.methodLink RX3 138 yX0_creases, Cond.instanceMethod yX0_creases, Cond.selects RX0 yX0_creases yX0_creases, Cond.initialized RX0, Cond.code yX0_creases cX0_creases 1 (some .int), Cond.fieldLink RX0 14 "GuessFolds$Now" "where" "LGuessFolds$Row;", Cond.methodLink RX0 32 yX1_size, Cond.instanceMethod yX1_size, Cond.selects RX1 yX1_size yX1_size, Cond.initialized RX1, Cond.code yX1_size cX1_size 1 (some .int)]
def wsX3_asCorner_r2 : List Cond := [Cond.fieldLink RX1 7 "GuessFolds$Row" "size" "I", Cond.methodLink RX3 66 yX1_size]
def wsX3_asCorner : List Cond := .code yX3_asCorner cX3_asCorner 2 (some .int) :: ((wsX3_asCorner_r1 ++ wsX3_asCorner_r2) ++ wsX30 ++ wsX00 ++ wsX10)
def wsX3_asSeam : List Cond := .code yX3_asSeam cX3_asSeam 2 (some .int) :: ([.fieldLink RX3 42 "GuessFolds" "traced" "J", .constantLong RX3 227 (100000), .fieldLink RX3 29 "GuessFolds" "parts" "I", .methodLink RX3 183 yX3_asCrease, .instanceMethod yX3_asCrease, .selects RX3 yX3_asCrease yX3_asCrease, .initialized RX3, .code yX3_asCrease cX3_asCrease 2 (some .int)] ++ wsX30)
def wsX3_mark_r1 : List Cond := [Cond.constant RX3 182 (-1000000), Cond.methodLink RX3 98 yX3_isCrease, Cond.instanceMethod yX3_isCrease, Cond.selects RX3 yX3_isCrease yX3_isCrease, Cond.initialized RX3, Cond.code yX3_isCrease cX3_isCrease 2 (some .boolean), Cond.fieldLink RX3 19 "GuessFolds" "now" "LGuessFolds$Now;", Cond.methodLink RX3 138 yX0_creases, Cond.instanceMethod yX0_creases, Cond.selects RX0 yX0_creases yX0_creases, Cond.initialized RX0, Cond.code yX0_creases cX0_creases 1 (some .int), Cond.fieldLink RX0 14 "GuessFolds$Now" "where" "LGuessFolds$Row;", Cond.methodLink RX0 32 yX1_size, Cond.instanceMethod yX1_size, Cond.selects RX1 yX1_size yX1_size, Cond.initialized RX1, Cond.code yX1_size cX1_size 1 (some .int), Cond.fieldLink RX1 7 "GuessFolds$Row" "size" "I", Cond.methodLink RX3 183 yX3_asCrease, Cond.instanceMethod yX3_asCrease, Cond.selects RX3 yX3_asCrease yX3_asCrease, Cond.code yX3_asCrease cX3_asCrease 2 (some .int), Cond.fieldLink RX3 42 "GuessFolds" "traced" "J"]
def wsX3_mark_r2 : List Cond := [Cond.methodLink RX3 186 yX3_asPinch, Cond.instanceMethod yX3_asPinch, Cond.selects RX3 yX3_asPinch yX3_asPinch, Cond.code yX3_asPinch cX3_asPinch 3 (some .int), Cond.constantLong RX3 221 (10), Cond.methodLink RX3 121 yX3_partOf, Cond.instanceMethod yX3_partOf, Cond.selects RX3 yX3_partOf yX3_partOf, Cond.code yX3_partOf cX3_partOf 4 (some .int), Cond.constantLong RX3 106 (1048576), Cond.methodLink RX3 83 yX1_at, Cond.instanceMethod yX1_at, Cond.selects RX1 yX1_at yX1_at, Cond.code yX1_at cX1_at 2 (some .long), Cond.fieldLink RX1 19 "GuessFolds$Row" "cells" "[J", Cond.methodLink RX3 189 yX3_asEnd, Cond.instanceMethod yX3_asEnd, Cond.selects RX3 yX3_asEnd yX3_asEnd, Cond.code yX3_asEnd cX3_asEnd 2 (some .int), Cond.constantLong RX3 223 (100), Cond.methodLink RX3 192 yX3_asThumb, Cond.instanceMethod yX3_asThumb, Cond.selects RX3 yX3_asThumb yX3_asThumb, Cond.code yX3_asThumb cX3_asThumb 2 (some .int)]
def wsX3_mark_r3 : List Cond := [Cond.constantLong RX3 148 (1000), Cond.methodLink RX3 195 yX3_asCorner, Cond.instanceMethod yX3_asCorner, Cond.selects RX3 yX3_asCorner yX3_asCorner, Cond.code yX3_asCorner cX3_asCorner 2 (some .int), Cond.constantLong RX3 225 (10000), Cond.methodLink RX3 66 yX1_size, Cond.methodLink RX3 198 yX3_asSeam, Cond.instanceMethod yX3_asSeam, Cond.selects RX3 yX3_asSeam yX3_asSeam, Cond.code yX3_asSeam cX3_asSeam 2 (some .int), Cond.constantLong RX3 227 (100000), Cond.fieldLink RX3 29 "GuessFolds" "parts" "I"]
def wsX3_mark : List Cond := .code yX3_mark cX3_mark 3 (some .int) :: ((wsX3_mark_r1 ++ (wsX3_mark_r2 ++ wsX3_mark_r3)) ++ wsX30 ++ wsX00 ++ wsX10)
def wsX3_imageOf : List Cond := .code yX3_imageOf cX3_imageOf 2 (some (.object "GuessFolds$Now")) :: ([.fieldLink RX3 23 "GuessFolds" "firstImage" "LGuessFolds$Now;", .fieldLink RX3 26 "GuessFolds" "secondImage" "LGuessFolds$Now;"] ++ wsX30)
def wsX3_keep_r1 : List Cond := [Cond.fieldLink RX3 19 "GuessFolds" "now" "LGuessFolds$Now;", Cond.methodLink RX3 201 yX3_imageOf, Cond.instanceMethod yX3_imageOf, Cond.selects RX3 yX3_imageOf yX3_imageOf, Cond.initialized RX3, Cond.code yX3_imageOf cX3_imageOf 2 (some (.object "GuessFolds$Now")), Cond.fieldLink RX3 23 "GuessFolds" "firstImage" "LGuessFolds$Now;", Cond.fieldLink RX3 26 "GuessFolds" "secondImage" "LGuessFolds$Now;", Cond.methodLink RX3 205 yX0_copy, Cond.instanceMethod yX0_copy, Cond.selects RX0 yX0_copy yX0_copy, Cond.initialized RX0, Cond.code yX0_copy cX0_copy 2 none, Cond.fieldLink RX0 14 "GuessFolds$Now" "where" "LGuessFolds$Row;", Cond.fieldLink RX0 20 "GuessFolds$Now" "offness" "LGuessFolds$Row;", Cond.fieldLink RX0 23 "GuessFolds$Now" "hairs" "LGuessFolds$Row;", Cond.fieldLink RX0 26 "GuessFolds$Now" "letters" "LGuessFolds$Row;", Cond.fieldLink RX0 29 "GuessFolds$Now" "seen" "LGuessFolds$Row;", Cond.methodLink RX0 54 yX1_copy, Cond.instanceMethod yX1_copy, Cond.selects RX1 yX1_copy yX1_copy, Cond.initialized RX1, Cond.code yX1_copy cX1_copy 3 none, Cond.fieldLink RX1 7 "GuessFolds$Row" "size" "I"]
def wsX3_keep_r2 : List Cond := [Cond.methodLink RX1 23 yX1_empty, Cond.instanceMethod yX1_empty, Cond.selects RX1 yX1_empty yX1_empty, Cond.code yX1_empty cX1_empty 2 (some .int), Cond.methodLink RX1 27 yX1_at, Cond.instanceMethod yX1_at, Cond.selects RX1 yX1_at yX1_at, Cond.code yX1_at cX1_at 2 (some .long), Cond.fieldLink RX1 19 "GuessFolds$Row" "cells" "[J", Cond.methodLink RX1 31 yX1_add, Cond.instanceMethod yX1_add, Cond.selects RX1 yX1_add yX1_add, Cond.code yX1_add cX1_add 3 none, Cond.methodLink RX3 138 yX0_creases, Cond.instanceMethod yX0_creases, Cond.selects RX0 yX0_creases yX0_creases, Cond.code yX0_creases cX0_creases 1 (some .int), Cond.methodLink RX0 32 yX1_size, Cond.instanceMethod yX1_size, Cond.selects RX1 yX1_size yX1_size, Cond.code yX1_size cX1_size 1 (some .int)]
def wsX3_keep : List Cond := .code yX3_keep cX3_keep 3 (some .int) :: ((wsX3_keep_r1 ++ wsX3_keep_r2) ++ wsX30 ++ wsX00 ++ wsX10)
def wsX3_back_r1 : List Cond := [Cond.fieldLink RX3 19 "GuessFolds" "now" "LGuessFolds$Now;", Cond.methodLink RX3 201 yX3_imageOf, Cond.instanceMethod yX3_imageOf, Cond.selects RX3 yX3_imageOf yX3_imageOf, Cond.initialized RX3, Cond.code yX3_imageOf cX3_imageOf 2 (some (.object "GuessFolds$Now")), Cond.fieldLink RX3 23 "GuessFolds" "firstImage" "LGuessFolds$Now;", Cond.fieldLink RX3 26 "GuessFolds" "secondImage" "LGuessFolds$Now;", Cond.methodLink RX3 138 yX0_creases, Cond.instanceMethod yX0_creases, Cond.selects RX0 yX0_creases yX0_creases, Cond.initialized RX0, Cond.code yX0_creases cX0_creases 1 (some .int), Cond.fieldLink RX0 14 "GuessFolds$Now" "where" "LGuessFolds$Row;", Cond.methodLink RX0 32 yX1_size, Cond.instanceMethod yX1_size, Cond.selects RX1 yX1_size yX1_size, Cond.initialized RX1, Cond.code yX1_size cX1_size 1 (some .int), Cond.fieldLink RX1 7 "GuessFolds$Row" "size" "I", Cond.methodLink RX3 205 yX0_copy, Cond.instanceMethod yX0_copy, Cond.selects RX0 yX0_copy yX0_copy, Cond.code yX0_copy cX0_copy 2 none]
def wsX3_back_r2 : List Cond := [Cond.fieldLink RX0 20 "GuessFolds$Now" "offness" "LGuessFolds$Row;", Cond.fieldLink RX0 23 "GuessFolds$Now" "hairs" "LGuessFolds$Row;", Cond.fieldLink RX0 26 "GuessFolds$Now" "letters" "LGuessFolds$Row;", Cond.fieldLink RX0 29 "GuessFolds$Now" "seen" "LGuessFolds$Row;", Cond.methodLink RX0 54 yX1_copy, Cond.instanceMethod yX1_copy, Cond.selects RX1 yX1_copy yX1_copy, Cond.code yX1_copy cX1_copy 3 none, Cond.methodLink RX1 23 yX1_empty, Cond.instanceMethod yX1_empty, Cond.selects RX1 yX1_empty yX1_empty, Cond.code yX1_empty cX1_empty 2 (some .int), Cond.methodLink RX1 27 yX1_at, Cond.instanceMethod yX1_at, Cond.selects RX1 yX1_at yX1_at, Cond.code yX1_at cX1_at 2 (some .long), Cond.fieldLink RX1 19 "GuessFolds$Row" "cells" "[J", Cond.methodLink RX1 31 yX1_add, Cond.instanceMethod yX1_add, Cond.selects RX1 yX1_add yX1_add, Cond.code yX1_add cX1_add 3 none]
def wsX3_back : List Cond := .code yX3_back cX3_back 3 (some .int) :: ((wsX3_back_r1 ++ wsX3_back_r2) ++ wsX30 ++ wsX00 ++ wsX10)
def wsX3_count : List Cond := .code yX3_count cX3_count 2 (some .int) :: ([.fieldLink RX3 19 "GuessFolds" "now" "LGuessFolds$Now;", .fieldLink RX3 12 "GuessFolds" "text" "LGuessFolds$Text;", .methodLink RX3 138 yX0_creases, .instanceMethod yX0_creases, .selects RX0 yX0_creases yX0_creases, .initialized RX0, .code yX0_creases cX0_creases 1 (some .int), .fieldLink RX0 14 "GuessFolds$Now" "where" "LGuessFolds$Row;", .methodLink RX0 32 yX1_size, .instanceMethod yX1_size, .selects RX1 yX1_size yX1_size, .initialized RX1, .code yX1_size cX1_size 1 (some .int), .fieldLink RX1 7 "GuessFolds$Row" "size" "I", .methodLink RX3 66 yX1_size] ++ wsX30 ++ wsX00 ++ wsX20 ++ wsX10)
def wsX3_trace : List Cond := .code yX3_trace cX3_trace 1 (some .long) :: ([.fieldLink RX3 42 "GuessFolds" "traced" "J"] ++ wsX30)
def wsX4_begin : List Cond := .code yX4_begin cX4_begin 2 none :: ([.fieldLink RX4 20 "GuessFoldsModel" "creases" "I", .fieldLink RX4 23 "GuessFoldsModel" "where" "[J", .fieldLink RX4 13 "GuessFoldsModel" "parts" "I", .fieldLink RX4 17 "GuessFoldsModel" "guess" "I", .constantLong RX4 51 (1048576), .fieldLink RX4 27 "GuessFoldsModel" "offness" "[J", .fieldLink RX4 30 "GuessFoldsModel" "hairs" "[J"] ++ wsX40)
def wsX4_init : List Cond := .code yX4_init cX4_init 1 none :: ([.methodLink RX4 1 objectInit, .instanceMethod objectInit, .code objectInit ⟨#[0xb1]⟩ 1 none, .arrayClass .int, .fieldLink RX4 7 "GuessFoldsModel" "text" "[I", .fieldLink RX4 13 "GuessFoldsModel" "parts" "I", .fieldLink RX4 17 "GuessFoldsModel" "guess" "I", .fieldLink RX4 20 "GuessFoldsModel" "creases" "I", .arrayClass .long, .fieldLink RX4 23 "GuessFoldsModel" "where" "[J", .fieldLink RX4 27 "GuessFoldsModel" "offness" "[J", .fieldLink RX4 30 "GuessFoldsModel" "hairs" "[J", .fieldLink RX4 33 "GuessFoldsModel" "row" "[I", .fieldLink RX4 36 "GuessFoldsModel" "sight" "[I", .fieldLink RX4 39 "GuessFoldsModel" "images" "[J", .fieldLink RX4 42 "GuessFoldsModel" "readTold" "[I", .fieldLink RX4 45 "GuessFoldsModel" "readFold" "[I", .methodLink RX4 48 yX4_begin, .instanceMethod yX4_begin, .selects RX4 yX4_begin yX4_begin, .initialized RX4, .code yX4_begin cX4_begin 2 none, .constantLong RX4 51 (1048576)] ++ wsX40)
def wsX4_in : List Cond := .code yX4_in cX4_in 6 (some .boolean) :: ([])
def wsX4_folds : List Cond := .code yX4_folds cX4_folds 3 none :: ([.fieldLink RX4 23 "GuessFoldsModel" "where" "[J", .fieldLink RX4 20 "GuessFoldsModel" "creases" "I", .constantLong RX4 53 (2), .fieldLink RX4 27 "GuessFoldsModel" "offness" "[J", .fieldLink RX4 30 "GuessFoldsModel" "hairs" "[J", .constantLong RX4 51 (1048576)] ++ wsX40)
def wsX4_type : List Cond := .code yX4_type cX4_type 5 (some .int) :: ([.constantLong RX4 55 (8), .fieldLink RX4 61 "GuessFoldsModel" "size" "I", .fieldLink RX4 7 "GuessFoldsModel" "text" "[I", .constantLong RX4 64 (255), .methodLink RX4 57 yX4_in, .static yX4_in, .initialized RX4, .code yX4_in cX4_in 6 (some .boolean)] ++ wsX40)
def wsX4_clear : List Cond := .code yX4_clear cX4_clear 2 (some .int) :: ([.fieldLink RX4 61 "GuessFoldsModel" "size" "I"] ++ wsX40)
def wsX4_isLetter : List Cond := .code yX4_isLetter cX4_isLetter 1 (some .boolean) :: ([])
def wsX4_isFigure : List Cond := .code yX4_isFigure cX4_isFigure 1 (some .boolean) :: ([])
def wsX4_next : List Cond := .code yX4_next cX4_next 2 none :: ([.fieldLink RX4 66 "GuessFoldsModel" "at" "I", .fieldLink RX4 61 "GuessFoldsModel" "size" "I", .fieldLink RX4 7 "GuessFoldsModel" "text" "[I", .fieldLink RX4 69 "GuessFoldsModel" "begin" "I", .fieldLink RX4 71 "GuessFoldsModel" "value" "J", .fieldLink RX4 82 "GuessFoldsModel" "kind" "I", .constantLong RX4 85 (32), .constantLong RX4 87 (96), .constantLong RX4 89 (-1), .constantLong RX4 91 (10), .constantLong RX4 93 (48), .constantLong RX4 95 (1000), .methodLink RX4 75 yX4_isLetter, .static yX4_isLetter, .initialized RX4, .code yX4_isLetter cX4_isLetter 1 (some .boolean), .methodLink RX4 79 yX4_isFigure, .static yX4_isFigure, .code yX4_isFigure cX4_isFigure 1 (some .boolean)] ++ wsX40)
def wsX4_takes_r1 : List Cond := [Cond.fieldLink RX4 82 "GuessFoldsModel" "kind" "I", Cond.fieldLink RX4 71 "GuessFoldsModel" "value" "J", Cond.methodLink RX4 97 yX4_next, Cond.instanceMethod yX4_next, Cond.selects RX4 yX4_next yX4_next, Cond.initialized RX4, Cond.code yX4_next cX4_next 2 none, Cond.fieldLink RX4 66 "GuessFoldsModel" "at" "I", Cond.fieldLink RX4 61 "GuessFoldsModel" "size" "I", Cond.fieldLink RX4 7 "GuessFoldsModel" "text" "[I", Cond.fieldLink RX4 69 "GuessFoldsModel" "begin" "I", Cond.constantLong RX4 85 (32), Cond.constantLong RX4 87 (96), Cond.constantLong RX4 89 (-1), Cond.constantLong RX4 91 (10), Cond.constantLong RX4 93 (48), Cond.constantLong RX4 95 (1000), Cond.methodLink RX4 75 yX4_isLetter, Cond.static yX4_isLetter, Cond.code yX4_isLetter cX4_isLetter 1 (some .boolean), Cond.methodLink RX4 79 yX4_isFigure, Cond.static yX4_isFigure, Cond.code yX4_isFigure cX4_isFigure 1 (some .boolean), Cond.methodLink RX4 57 yX4_in]
def wsX4_takes_r2 : List Cond := [Cond.static yX4_in, Cond.code yX4_in cX4_in 6 (some .boolean)]
def wsX4_takes : List Cond := .code yX4_takes cX4_takes 3 (some .boolean) :: ((wsX4_takes_r1 ++ wsX4_takes_r2) ++ wsX40)
def wsX4_stops : List Cond := .code yX4_stops cX4_stops 1 (some .boolean) :: ([.fieldLink RX4 82 "GuessFoldsModel" "kind" "I", .methodLink RX4 97 yX4_next, .instanceMethod yX4_next, .selects RX4 yX4_next yX4_next, .initialized RX4, .code yX4_next cX4_next 2 none, .fieldLink RX4 66 "GuessFoldsModel" "at" "I", .fieldLink RX4 61 "GuessFoldsModel" "size" "I", .fieldLink RX4 7 "GuessFoldsModel" "text" "[I", .fieldLink RX4 69 "GuessFoldsModel" "begin" "I", .fieldLink RX4 71 "GuessFoldsModel" "value" "J", .constantLong RX4 85 (32), .constantLong RX4 87 (96), .constantLong RX4 89 (-1), .constantLong RX4 91 (10), .constantLong RX4 93 (48), .constantLong RX4 95 (1000), .methodLink RX4 75 yX4_isLetter, .static yX4_isLetter, .code yX4_isLetter cX4_isLetter 1 (some .boolean), .methodLink RX4 79 yX4_isFigure, .static yX4_isFigure, .code yX4_isFigure cX4_isFigure 1 (some .boolean)] ++ wsX40)
def wsX4_readParts : List Cond := .code yX4_readParts cX4_readParts 1 (some .int) :: ([.fieldLink RX4 42 "GuessFoldsModel" "readTold" "[I"] ++ wsX40)
def wsX4_takesTold_r1 : List Cond := [Cond.fieldLink RX4 100 "GuessFoldsModel" "readFolds" "I", Cond.fieldLink RX4 42 "GuessFoldsModel" "readTold" "[I", Cond.fieldLink RX4 71 "GuessFoldsModel" "value" "J", Cond.constantLong RX4 53 (2), Cond.methodLink RX4 103 yX4_readParts, Cond.instanceMethod yX4_readParts, Cond.selects RX4 yX4_readParts yX4_readParts, Cond.initialized RX4, Cond.code yX4_readParts cX4_readParts 1 (some .int), Cond.methodLink RX4 107 yX4_takes, Cond.instanceMethod yX4_takes, Cond.selects RX4 yX4_takes yX4_takes, Cond.code yX4_takes cX4_takes 3 (some .boolean), Cond.fieldLink RX4 82 "GuessFoldsModel" "kind" "I", Cond.methodLink RX4 97 yX4_next, Cond.instanceMethod yX4_next, Cond.selects RX4 yX4_next yX4_next, Cond.code yX4_next cX4_next 2 none, Cond.fieldLink RX4 66 "GuessFoldsModel" "at" "I", Cond.fieldLink RX4 61 "GuessFoldsModel" "size" "I", Cond.fieldLink RX4 7 "GuessFoldsModel" "text" "[I", Cond.fieldLink RX4 69 "GuessFoldsModel" "begin" "I", Cond.constantLong RX4 85 (32), Cond.constantLong RX4 87 (96)]
def wsX4_takesTold_r2 : List Cond := [Cond.constantLong RX4 89 (-1), Cond.constantLong RX4 91 (10), Cond.constantLong RX4 93 (48), Cond.constantLong RX4 95 (1000), Cond.methodLink RX4 75 yX4_isLetter, Cond.static yX4_isLetter, Cond.code yX4_isLetter cX4_isLetter 1 (some .boolean), Cond.methodLink RX4 79 yX4_isFigure, Cond.static yX4_isFigure, Cond.code yX4_isFigure cX4_isFigure 1 (some .boolean), Cond.methodLink RX4 57 yX4_in, Cond.static yX4_in, Cond.code yX4_in cX4_in 6 (some .boolean), Cond.methodLink RX4 111 yX4_stops, Cond.instanceMethod yX4_stops, Cond.selects RX4 yX4_stops yX4_stops, Cond.code yX4_stops cX4_stops 1 (some .boolean)]
def wsX4_takesTold : List Cond := .code yX4_takesTold cX4_takesTold 4 (some .boolean) :: ((wsX4_takesTold_r1 ++ wsX4_takesTold_r2) ++ wsX40)
def wsX4_takesFold_r1 : List Cond := [Cond.fieldLink RX4 100 "GuessFoldsModel" "readFolds" "I", Cond.fieldLink RX4 71 "GuessFoldsModel" "value" "J", Cond.fieldLink RX4 45 "GuessFoldsModel" "readFold" "[I", Cond.methodLink RX4 107 yX4_takes, Cond.instanceMethod yX4_takes, Cond.selects RX4 yX4_takes yX4_takes, Cond.initialized RX4, Cond.code yX4_takes cX4_takes 3 (some .boolean), Cond.fieldLink RX4 82 "GuessFoldsModel" "kind" "I", Cond.methodLink RX4 97 yX4_next, Cond.instanceMethod yX4_next, Cond.selects RX4 yX4_next yX4_next, Cond.code yX4_next cX4_next 2 none, Cond.fieldLink RX4 66 "GuessFoldsModel" "at" "I", Cond.fieldLink RX4 61 "GuessFoldsModel" "size" "I", Cond.fieldLink RX4 7 "GuessFoldsModel" "text" "[I", Cond.fieldLink RX4 69 "GuessFoldsModel" "begin" "I", Cond.constantLong RX4 85 (32), Cond.constantLong RX4 87 (96), Cond.constantLong RX4 89 (-1), Cond.constantLong RX4 91 (10), Cond.constantLong RX4 93 (48), Cond.constantLong RX4 95 (1000), Cond.methodLink RX4 75 yX4_isLetter]
def wsX4_takesFold_r2 : List Cond := [Cond.static yX4_isLetter, Cond.code yX4_isLetter cX4_isLetter 1 (some .boolean), Cond.methodLink RX4 79 yX4_isFigure, Cond.static yX4_isFigure, Cond.code yX4_isFigure cX4_isFigure 1 (some .boolean), Cond.methodLink RX4 57 yX4_in, Cond.static yX4_in, Cond.code yX4_in cX4_in 6 (some .boolean), Cond.methodLink RX4 111 yX4_stops, Cond.instanceMethod yX4_stops, Cond.selects RX4 yX4_stops yX4_stops, Cond.code yX4_stops cX4_stops 1 (some .boolean)]
def wsX4_takesFold : List Cond := .code yX4_takesFold cX4_takesFold 2 (some .boolean) :: ((wsX4_takesFold_r1 ++ wsX4_takesFold_r2) ++ wsX40)
def wsX4_takesAll_r1 : List Cond := [Cond.fieldLink RX4 66 "GuessFoldsModel" "at" "I", Cond.fieldLink RX4 100 "GuessFoldsModel" "readFolds" "I", Cond.fieldLink RX4 42 "GuessFoldsModel" "readTold" "[I", Cond.fieldLink RX4 82 "GuessFoldsModel" "kind" "I", Cond.fieldLink RX4 71 "GuessFoldsModel" "value" "J", Cond.constantLong RX4 115 (20597040), Cond.constantLong RX4 117 (525908), Cond.constantLong RX4 119 (15558), Cond.constantLong RX4 121 (263474), Cond.constantLong RX4 123 (212356), Cond.methodLink RX4 97 yX4_next, Cond.instanceMethod yX4_next, Cond.selects RX4 yX4_next yX4_next, Cond.initialized RX4, Cond.code yX4_next cX4_next 2 none, Cond.fieldLink RX4 61 "GuessFoldsModel" "size" "I", Cond.fieldLink RX4 7 "GuessFoldsModel" "text" "[I", Cond.fieldLink RX4 69 "GuessFoldsModel" "begin" "I", Cond.constantLong RX4 85 (32), Cond.constantLong RX4 87 (96), Cond.constantLong RX4 89 (-1), Cond.constantLong RX4 91 (10), Cond.constantLong RX4 93 (48), Cond.constantLong RX4 95 (1000)]
def wsX4_takesAll_r2 : List Cond := [Cond.methodLink RX4 75 yX4_isLetter, Cond.static yX4_isLetter, Cond.code yX4_isLetter cX4_isLetter 1 (some .boolean), Cond.methodLink RX4 79 yX4_isFigure, Cond.static yX4_isFigure, Cond.code yX4_isFigure cX4_isFigure 1 (some .boolean), Cond.methodLink RX4 125 yX4_takesFold, Cond.instanceMethod yX4_takesFold, Cond.selects RX4 yX4_takesFold yX4_takesFold, Cond.code yX4_takesFold cX4_takesFold 2 (some .boolean), Cond.fieldLink RX4 45 "GuessFoldsModel" "readFold" "[I", Cond.methodLink RX4 107 yX4_takes, Cond.instanceMethod yX4_takes, Cond.selects RX4 yX4_takes yX4_takes, Cond.code yX4_takes cX4_takes 3 (some .boolean), Cond.methodLink RX4 57 yX4_in, Cond.static yX4_in, Cond.code yX4_in cX4_in 6 (some .boolean), Cond.methodLink RX4 111 yX4_stops, Cond.instanceMethod yX4_stops, Cond.selects RX4 yX4_stops yX4_stops, Cond.code yX4_stops cX4_stops 1 (some .boolean), Cond.methodLink RX4 128 yX4_takesTold, Cond.instanceMethod yX4_takesTold]
def wsX4_takesAll_r3 : List Cond := [Cond.selects RX4 yX4_takesTold yX4_takesTold, Cond.code yX4_takesTold cX4_takesTold 4 (some .boolean), Cond.constantLong RX4 53 (2), Cond.methodLink RX4 103 yX4_readParts, Cond.instanceMethod yX4_readParts, Cond.selects RX4 yX4_readParts yX4_readParts, Cond.code yX4_readParts cX4_readParts 1 (some .int)]
def wsX4_takesAll : List Cond := .code yX4_takesAll cX4_takesAll 3 (some .int) :: ((wsX4_takesAll_r1 ++ (wsX4_takesAll_r2 ++ wsX4_takesAll_r3)) ++ wsX40)
def wsX4_strip_r1 : List Cond := [Cond.fieldLink RX4 69 "GuessFoldsModel" "begin" "I", Cond.fieldLink RX4 13 "GuessFoldsModel" "parts" "I", Cond.fieldLink RX4 42 "GuessFoldsModel" "readTold" "[I", Cond.fieldLink RX4 17 "GuessFoldsModel" "guess" "I", Cond.fieldLink RX4 134 "GuessFoldsModel" "off" "I", Cond.fieldLink RX4 137 "GuessFoldsModel" "hair" "I", Cond.fieldLink RX4 100 "GuessFoldsModel" "readFolds" "I", Cond.fieldLink RX4 45 "GuessFoldsModel" "readFold" "[I", Cond.fieldLink RX4 144 "GuessFoldsModel" "letters" "I", Cond.fieldLink RX4 147 "GuessFoldsModel" "seen" "I", Cond.fieldLink RX4 39 "GuessFoldsModel" "images" "[J", Cond.fieldLink RX4 61 "GuessFoldsModel" "size" "I", Cond.methodLink RX4 131 yX4_takesAll, Cond.instanceMethod yX4_takesAll, Cond.selects RX4 yX4_takesAll yX4_takesAll, Cond.initialized RX4, Cond.code yX4_takesAll cX4_takesAll 3 (some .int), Cond.fieldLink RX4 66 "GuessFoldsModel" "at" "I", Cond.fieldLink RX4 82 "GuessFoldsModel" "kind" "I", Cond.fieldLink RX4 71 "GuessFoldsModel" "value" "J", Cond.constantLong RX4 115 (20597040), Cond.constantLong RX4 117 (525908), Cond.constantLong RX4 119 (15558), Cond.constantLong RX4 121 (263474)]
def wsX4_strip_r2 : List Cond := [Cond.constantLong RX4 123 (212356), Cond.methodLink RX4 97 yX4_next, Cond.instanceMethod yX4_next, Cond.selects RX4 yX4_next yX4_next, Cond.code yX4_next cX4_next 2 none, Cond.fieldLink RX4 7 "GuessFoldsModel" "text" "[I", Cond.constantLong RX4 85 (32), Cond.constantLong RX4 87 (96), Cond.constantLong RX4 89 (-1), Cond.constantLong RX4 91 (10), Cond.constantLong RX4 93 (48), Cond.constantLong RX4 95 (1000), Cond.methodLink RX4 75 yX4_isLetter, Cond.static yX4_isLetter, Cond.code yX4_isLetter cX4_isLetter 1 (some .boolean), Cond.methodLink RX4 79 yX4_isFigure, Cond.static yX4_isFigure, Cond.code yX4_isFigure cX4_isFigure 1 (some .boolean), Cond.methodLink RX4 125 yX4_takesFold, Cond.instanceMethod yX4_takesFold, Cond.selects RX4 yX4_takesFold yX4_takesFold, Cond.code yX4_takesFold cX4_takesFold 2 (some .boolean), Cond.methodLink RX4 107 yX4_takes, Cond.instanceMethod yX4_takes]
def wsX4_strip_r3 : List Cond := [Cond.selects RX4 yX4_takes yX4_takes, Cond.code yX4_takes cX4_takes 3 (some .boolean), Cond.methodLink RX4 57 yX4_in, Cond.static yX4_in, Cond.code yX4_in cX4_in 6 (some .boolean), Cond.methodLink RX4 111 yX4_stops, Cond.instanceMethod yX4_stops, Cond.selects RX4 yX4_stops yX4_stops, Cond.code yX4_stops cX4_stops 1 (some .boolean), Cond.methodLink RX4 128 yX4_takesTold, Cond.instanceMethod yX4_takesTold, Cond.selects RX4 yX4_takesTold yX4_takesTold, Cond.code yX4_takesTold cX4_takesTold 4 (some .boolean), Cond.constantLong RX4 53 (2), Cond.methodLink RX4 103 yX4_readParts, Cond.instanceMethod yX4_readParts, Cond.selects RX4 yX4_readParts yX4_readParts, Cond.code yX4_readParts cX4_readParts 1 (some .int), Cond.methodLink RX4 48 yX4_begin, Cond.instanceMethod yX4_begin, Cond.selects RX4 yX4_begin yX4_begin, Cond.code yX4_begin cX4_begin 2 none, Cond.fieldLink RX4 20 "GuessFoldsModel" "creases" "I", Cond.fieldLink RX4 23 "GuessFoldsModel" "where" "[J"]
def wsX4_strip_r4 : List Cond := [Cond.constantLong RX4 51 (1048576), Cond.fieldLink RX4 27 "GuessFoldsModel" "offness" "[J", Cond.fieldLink RX4 30 "GuessFoldsModel" "hairs" "[J", Cond.methodLink RX4 140 yX4_folds, Cond.instanceMethod yX4_folds, Cond.selects RX4 yX4_folds yX4_folds, Cond.code yX4_folds cX4_folds 3 none]
def wsX4_strip : List Cond := .code yX4_strip cX4_strip 3 (some .int) :: ((wsX4_strip_r1 ++ (wsX4_strip_r2 ++ (wsX4_strip_r3 ++ wsX4_strip_r4))) ++ wsX40)
def wsX4_isCrease : List Cond := .code yX4_isCrease cX4_isCrease 2 (some .boolean) :: ([.fieldLink RX4 20 "GuessFoldsModel" "creases" "I", .methodLink RX4 57 yX4_in, .static yX4_in, .initialized RX4, .code yX4_in cX4_in 6 (some .boolean)] ++ wsX40)
def wsX4_partOf : List Cond := .code yX4_partOf cX4_partOf 2 (some .int) :: ([.fieldLink RX4 23 "GuessFoldsModel" "where" "[J", .constantLong RX4 51 (1048576)] ++ wsX40)
def wsX4_least : List Cond := .code yX4_least cX4_least 11 (some .long) :: ([])
def wsX4_crease : List Cond := .code yX4_crease cX4_crease 5 (some .long) :: ([.constantLong RX4 153 (6), .constantLong RX4 89 (-1), .fieldLink RX4 23 "GuessFoldsModel" "where" "[J", .fieldLink RX4 27 "GuessFoldsModel" "offness" "[J", .fieldLink RX4 30 "GuessFoldsModel" "hairs" "[J", .fieldLink RX4 13 "GuessFoldsModel" "parts" "I", .constantLong RX4 51 (1048576), .methodLink RX4 150 yX4_isCrease, .instanceMethod yX4_isCrease, .selects RX4 yX4_isCrease yX4_isCrease, .initialized RX4, .code yX4_isCrease cX4_isCrease 2 (some .boolean), .fieldLink RX4 20 "GuessFoldsModel" "creases" "I", .methodLink RX4 57 yX4_in, .static yX4_in, .code yX4_in cX4_in 6 (some .boolean), .methodLink RX4 155 yX4_partOf, .instanceMethod yX4_partOf, .selects RX4 yX4_partOf yX4_partOf, .code yX4_partOf cX4_partOf 2 (some .int), .methodLink RX4 159 yX4_least, .static yX4_least, .code yX4_least cX4_least 11 (some .long)] ++ wsX40)
def wsX4_told : List Cond := .code yX4_told cX4_told 2 (some .int) :: ([.fieldLink RX4 13 "GuessFoldsModel" "parts" "I", .fieldLink RX4 17 "GuessFoldsModel" "guess" "I", .fieldLink RX4 134 "GuessFoldsModel" "off" "I", .fieldLink RX4 137 "GuessFoldsModel" "hair" "I"] ++ wsX40)
def wsX4_fold : List Cond := .code yX4_fold cX4_fold 3 (some .int) :: ([.fieldLink RX4 20 "GuessFoldsModel" "creases" "I", .methodLink RX4 150 yX4_isCrease, .instanceMethod yX4_isCrease, .selects RX4 yX4_isCrease yX4_isCrease, .initialized RX4, .code yX4_isCrease cX4_isCrease 2 (some .boolean), .methodLink RX4 57 yX4_in, .static yX4_in, .code yX4_in cX4_in 6 (some .boolean), .methodLink RX4 140 yX4_folds, .instanceMethod yX4_folds, .selects RX4 yX4_folds yX4_folds, .code yX4_folds cX4_folds 3 none, .fieldLink RX4 23 "GuessFoldsModel" "where" "[J", .constantLong RX4 53 (2), .fieldLink RX4 27 "GuessFoldsModel" "offness" "[J", .fieldLink RX4 30 "GuessFoldsModel" "hairs" "[J", .constantLong RX4 51 (1048576)] ++ wsX40)
def wsX4_isPart : List Cond := .code yX4_isPart cX4_isPart 2 (some .boolean) :: ([.fieldLink RX4 13 "GuessFoldsModel" "parts" "I", .methodLink RX4 57 yX4_in, .static yX4_in, .initialized RX4, .code yX4_in cX4_in 6 (some .boolean)] ++ wsX40)
def wsX4_rule : List Cond := .code yX4_rule cX4_rule 3 (some .int) :: ([.fieldLink RX4 20 "GuessFoldsModel" "creases" "I", .methodLink RX4 155 yX4_partOf, .instanceMethod yX4_partOf, .selects RX4 yX4_partOf yX4_partOf, .initialized RX4, .code yX4_partOf cX4_partOf 2 (some .int), .fieldLink RX4 23 "GuessFoldsModel" "where" "[J", .constantLong RX4 51 (1048576), .methodLink RX4 163 yX4_isPart, .instanceMethod yX4_isPart, .selects RX4 yX4_isPart yX4_isPart, .code yX4_isPart cX4_isPart 2 (some .boolean), .fieldLink RX4 13 "GuessFoldsModel" "parts" "I", .methodLink RX4 57 yX4_in, .static yX4_in, .code yX4_in cX4_in 6 (some .boolean), .methodLink RX4 140 yX4_folds, .instanceMethod yX4_folds, .selects RX4 yX4_folds yX4_folds, .code yX4_folds cX4_folds 3 none, .constantLong RX4 53 (2), .fieldLink RX4 27 "GuessFoldsModel" "offness" "[J", .fieldLink RX4 30 "GuessFoldsModel" "hairs" "[J"] ++ wsX40)
def wsX4_undo : List Cond := .code yX4_undo cX4_undo 1 (some .int) :: ([.fieldLink RX4 20 "GuessFoldsModel" "creases" "I"] ++ wsX40)
def wsX4_says : List Cond := .code yX4_says cX4_says 2 (some .int) :: ([.methodLink RX4 163 yX4_isPart, .instanceMethod yX4_isPart, .selects RX4 yX4_isPart yX4_isPart, .initialized RX4, .code yX4_isPart cX4_isPart 2 (some .boolean), .fieldLink RX4 13 "GuessFoldsModel" "parts" "I", .methodLink RX4 57 yX4_in, .static yX4_in, .code yX4_in cX4_in 6 (some .boolean)] ++ wsX40)
def wsX4_goes : List Cond := .code yX4_goes cX4_goes 2 (some .int) :: ([])
def wsX4_foldsTo : List Cond := .code yX4_foldsTo cX4_foldsTo 5 (some .int) :: ([.fieldLink RX4 13 "GuessFoldsModel" "parts" "I", .methodLink RX4 166 yX4_goes, .static yX4_goes, .initialized RX4, .code yX4_goes cX4_goes 2 (some .int)] ++ wsX40)
def wsX4_round : List Cond := .code yX4_round cX4_round 2 (some .int) :: ([.fieldLink RX4 13 "GuessFoldsModel" "parts" "I", .methodLink RX4 163 yX4_isPart, .instanceMethod yX4_isPart, .selects RX4 yX4_isPart yX4_isPart, .initialized RX4, .code yX4_isPart cX4_isPart 2 (some .boolean), .methodLink RX4 57 yX4_in, .static yX4_in, .code yX4_in cX4_in 6 (some .boolean), .methodLink RX4 166 yX4_goes, .static yX4_goes, .code yX4_goes cX4_goes 2 (some .int), .methodLink RX4 170 yX4_foldsTo, .instanceMethod yX4_foldsTo, .selects RX4 yX4_foldsTo yX4_foldsTo, .code yX4_foldsTo cX4_foldsTo 5 (some .int)] ++ wsX40)
def wsX4_near : List Cond := .code yX4_near cX4_near 5 (some .int) :: ([.constantLong RX4 173 (99999), .fieldLink RX4 134 "GuessFoldsModel" "off" "I", .constantLong RX4 95 (1000), .constantLong RX4 53 (2), .methodLink RX4 57 yX4_in, .static yX4_in, .initialized RX4, .code yX4_in cX4_in 6 (some .boolean)] ++ wsX40)
def wsX4_wasted : List Cond := .code yX4_wasted cX4_wasted 7 (some .int) :: ([.fieldLink RX4 20 "GuessFoldsModel" "creases" "I", .fieldLink RX4 13 "GuessFoldsModel" "parts" "I", .methodLink RX4 57 yX4_in, .static yX4_in, .initialized RX4, .code yX4_in cX4_in 6 (some .boolean), .methodLink RX4 155 yX4_partOf, .instanceMethod yX4_partOf, .selects RX4 yX4_partOf yX4_partOf, .code yX4_partOf cX4_partOf 2 (some .int), .fieldLink RX4 23 "GuessFoldsModel" "where" "[J", .constantLong RX4 51 (1048576)] ++ wsX40)
def wsX4_fewest : List Cond := .code yX4_fewest cX4_fewest 2 (some .int) :: ([.fieldLink RX4 17 "GuessFoldsModel" "guess" "I", .methodLink RX4 163 yX4_isPart, .instanceMethod yX4_isPart, .selects RX4 yX4_isPart yX4_isPart, .initialized RX4, .code yX4_isPart cX4_isPart 2 (some .boolean), .fieldLink RX4 13 "GuessFoldsModel" "parts" "I", .methodLink RX4 57 yX4_in, .static yX4_in, .code yX4_in cX4_in 6 (some .boolean), .methodLink RX4 170 yX4_foldsTo, .instanceMethod yX4_foldsTo, .selects RX4 yX4_foldsTo yX4_foldsTo, .code yX4_foldsTo cX4_foldsTo 5 (some .int), .methodLink RX4 166 yX4_goes, .static yX4_goes, .code yX4_goes cX4_goes 2 (some .int)] ++ wsX40)
def wsX4_comes : List Cond := .code yX4_comes cX4_comes 7 (some .int) :: ([.fieldLink RX4 17 "GuessFoldsModel" "guess" "I", .fieldLink RX4 13 "GuessFoldsModel" "parts" "I", .methodLink RX4 57 yX4_in, .static yX4_in, .initialized RX4, .code yX4_in cX4_in 6 (some .boolean), .methodLink RX4 175 yX4_round, .instanceMethod yX4_round, .selects RX4 yX4_round yX4_round, .code yX4_round cX4_round 2 (some .int), .methodLink RX4 163 yX4_isPart, .instanceMethod yX4_isPart, .selects RX4 yX4_isPart yX4_isPart, .code yX4_isPart cX4_isPart 2 (some .boolean), .methodLink RX4 166 yX4_goes, .static yX4_goes, .code yX4_goes cX4_goes 2 (some .int), .methodLink RX4 170 yX4_foldsTo, .instanceMethod yX4_foldsTo, .selects RX4 yX4_foldsTo yX4_foldsTo, .code yX4_foldsTo cX4_foldsTo 5 (some .int)] ++ wsX40)
def wsX4_letter : List Cond := .code yX4_letter cX4_letter 2 (some .int) :: ([.fieldLink RX4 144 "GuessFoldsModel" "letters" "I", .fieldLink RX4 33 "GuessFoldsModel" "row" "[I", .methodLink RX4 57 yX4_in, .static yX4_in, .initialized RX4, .code yX4_in cX4_in 6 (some .boolean)] ++ wsX40)
def wsX4_hush : List Cond := .code yX4_hush cX4_hush 2 (some .int) :: ([.fieldLink RX4 144 "GuessFoldsModel" "letters" "I"] ++ wsX40)
def wsX4_wrongFrom : List Cond := .code yX4_wrongFrom cX4_wrongFrom 5 (some .int) :: ([.fieldLink RX4 144 "GuessFoldsModel" "letters" "I", .fieldLink RX4 33 "GuessFoldsModel" "row" "[I", .methodLink RX4 166 yX4_goes, .static yX4_goes, .initialized RX4, .code yX4_goes cX4_goes 2 (some .int)] ++ wsX40)
def wsX4_meant : List Cond := .code yX4_meant cX4_meant 7 (some .int) :: ([.constantLong RX4 53 (2), .methodLink RX4 57 yX4_in, .static yX4_in, .initialized RX4, .code yX4_in cX4_in 6 (some .boolean), .methodLink RX4 178 yX4_wrongFrom, .instanceMethod yX4_wrongFrom, .selects RX4 yX4_wrongFrom yX4_wrongFrom, .code yX4_wrongFrom cX4_wrongFrom 5 (some .int), .fieldLink RX4 144 "GuessFoldsModel" "letters" "I", .fieldLink RX4 33 "GuessFoldsModel" "row" "[I", .methodLink RX4 166 yX4_goes, .static yX4_goes, .code yX4_goes cX4_goes 2 (some .int)] ++ wsX40)
def wsX4_wrong : List Cond := .code yX4_wrong cX4_wrong 1 (some .int) :: ([.fieldLink RX4 17 "GuessFoldsModel" "guess" "I", .fieldLink RX4 13 "GuessFoldsModel" "parts" "I", .methodLink RX4 178 yX4_wrongFrom, .instanceMethod yX4_wrongFrom, .selects RX4 yX4_wrongFrom yX4_wrongFrom, .initialized RX4, .code yX4_wrongFrom cX4_wrongFrom 5 (some .int), .fieldLink RX4 144 "GuessFoldsModel" "letters" "I", .fieldLink RX4 33 "GuessFoldsModel" "row" "[I", .methodLink RX4 166 yX4_goes, .static yX4_goes, .code yX4_goes cX4_goes 2 (some .int)] ++ wsX40)
def wsX4_got : List Cond := .code yX4_got cX4_got 5 (some .long) :: ([.constantLong RX4 89 (-1), .fieldLink RX4 17 "GuessFoldsModel" "guess" "I", .constantLong RX4 51 (1048576), .fieldLink RX4 144 "GuessFoldsModel" "letters" "I", .fieldLink RX4 33 "GuessFoldsModel" "row" "[I", .fieldLink RX4 13 "GuessFoldsModel" "parts" "I", .constantLong RX4 53 (2), .methodLink RX4 57 yX4_in, .static yX4_in, .initialized RX4, .code yX4_in cX4_in 6 (some .boolean), .methodLink RX4 159 yX4_least, .static yX4_least, .code yX4_least cX4_least 11 (some .long)] ++ wsX40)
def wsX4_saw : List Cond := .code yX4_saw cX4_saw 2 (some .int) :: ([.fieldLink RX4 147 "GuessFoldsModel" "seen" "I", .fieldLink RX4 36 "GuessFoldsModel" "sight" "[I", .methodLink RX4 163 yX4_isPart, .instanceMethod yX4_isPart, .selects RX4 yX4_isPart yX4_isPart, .initialized RX4, .code yX4_isPart cX4_isPart 2 (some .boolean), .fieldLink RX4 13 "GuessFoldsModel" "parts" "I", .methodLink RX4 57 yX4_in, .static yX4_in, .code yX4_in cX4_in 6 (some .boolean)] ++ wsX40)
def wsX4_forget : List Cond := .code yX4_forget cX4_forget 2 (some .int) :: ([.fieldLink RX4 147 "GuessFoldsModel" "seen" "I"] ++ wsX40)
def wsX4_from : List Cond := .code yX4_from cX4_from 11 (some .int) :: ([.fieldLink RX4 147 "GuessFoldsModel" "seen" "I", .fieldLink RX4 36 "GuessFoldsModel" "sight" "[I", .fieldLink RX4 13 "GuessFoldsModel" "parts" "I", .methodLink RX4 57 yX4_in, .static yX4_in, .initialized RX4, .code yX4_in cX4_in 6 (some .boolean), .methodLink RX4 166 yX4_goes, .static yX4_goes, .code yX4_goes cX4_goes 2 (some .int)] ++ wsX40)
def wsX4_mark_r1 : List Cond := [Cond.constantLong RX4 181 (5), Cond.constant RX4 183 (-1000000), Cond.fieldLink RX4 184 "GuessFoldsModel" "trace" "J", Cond.constantLong RX4 187 (11), Cond.constantLong RX4 189 (101), Cond.constantLong RX4 191 (1011), Cond.constantLong RX4 193 (10101), Cond.constantLong RX4 195 (100001), Cond.fieldLink RX4 20 "GuessFoldsModel" "creases" "I", Cond.fieldLink RX4 144 "GuessFoldsModel" "letters" "I", Cond.fieldLink RX4 13 "GuessFoldsModel" "parts" "I", Cond.methodLink RX4 57 yX4_in, Cond.static yX4_in, Cond.initialized RX4, Cond.code yX4_in cX4_in 6 (some .boolean), Cond.methodLink RX4 150 yX4_isCrease, Cond.instanceMethod yX4_isCrease, Cond.selects RX4 yX4_isCrease yX4_isCrease, Cond.code yX4_isCrease cX4_isCrease 2 (some .boolean), Cond.methodLink RX4 155 yX4_partOf, Cond.instanceMethod yX4_partOf, Cond.selects RX4 yX4_partOf yX4_partOf, Cond.code yX4_partOf cX4_partOf 2 (some .int), Cond.fieldLink RX4 23 "GuessFoldsModel" "where" "[J"]
def wsX4_mark_r2 : List Cond := [Cond.constantLong RX4 51 (1048576)]
def wsX4_mark : List Cond := .code yX4_mark cX4_mark 6 (some .int) :: ((wsX4_mark_r1 ++ wsX4_mark_r2) ++ wsX40)
def wsX4_keep : List Cond := .code yX4_keep cX4_keep 4 (some .int) :: ([.fieldLink RX4 39 "GuessFoldsModel" "images" "[J", .fieldLink RX4 20 "GuessFoldsModel" "creases" "I", .fieldLink RX4 144 "GuessFoldsModel" "letters" "I", .fieldLink RX4 147 "GuessFoldsModel" "seen" "I", .fieldLink RX4 33 "GuessFoldsModel" "row" "[I", .fieldLink RX4 36 "GuessFoldsModel" "sight" "[I", .fieldLink RX4 23 "GuessFoldsModel" "where" "[J", .fieldLink RX4 27 "GuessFoldsModel" "offness" "[J", .fieldLink RX4 30 "GuessFoldsModel" "hairs" "[J", .methodLink RX4 57 yX4_in, .static yX4_in, .initialized RX4, .code yX4_in cX4_in 6 (some .boolean)] ++ wsX40)
def wsX4_back : List Cond := .code yX4_back cX4_back 4 (some .int) :: ([.fieldLink RX4 39 "GuessFoldsModel" "images" "[J", .fieldLink RX4 20 "GuessFoldsModel" "creases" "I", .fieldLink RX4 144 "GuessFoldsModel" "letters" "I", .fieldLink RX4 147 "GuessFoldsModel" "seen" "I", .fieldLink RX4 33 "GuessFoldsModel" "row" "[I", .fieldLink RX4 36 "GuessFoldsModel" "sight" "[I", .fieldLink RX4 23 "GuessFoldsModel" "where" "[J", .fieldLink RX4 27 "GuessFoldsModel" "offness" "[J", .fieldLink RX4 30 "GuessFoldsModel" "hairs" "[J", .methodLink RX4 57 yX4_in, .static yX4_in, .initialized RX4, .code yX4_in cX4_in 6 (some .boolean)] ++ wsX40)
def wsX4_count : List Cond := .code yX4_count cX4_count 2 (some .int) :: ([.fieldLink RX4 20 "GuessFoldsModel" "creases" "I", .fieldLink RX4 144 "GuessFoldsModel" "letters" "I", .fieldLink RX4 147 "GuessFoldsModel" "seen" "I", .fieldLink RX4 61 "GuessFoldsModel" "size" "I"] ++ wsX40)
def wsX4_trace : List Cond := .code yX4_trace cX4_trace 1 (some .long) :: ([.fieldLink RX4 184 "GuessFoldsModel" "trace" "J"] ++ wsX40)
def wsJ9_max_7cf53 : List Cond := .code yJ9_max_7cf53 cJ9_max_7cf53 2 (some .int) :: ([])
def wsJ9_min_7cf53 : List Cond := .code yJ9_min_7cf53 cJ9_min_7cf53 2 (some .int) :: ([])
def wsL_law_r1 : List Cond := [Cond.classLink RL 7 RX3, Cond.instantiable RX3 9, Cond.initialized RX3, Cond.classLink RL 10 RX4, Cond.instantiable RX4 23, Cond.initialized RX4, Cond.constantLong RL 13 (4294967295), Cond.methodLink RL 9 yX3_init, Cond.instanceMethod yX3_init, Cond.code yX3_init cX3_init 1 none, Cond.methodLink RX3 3 objectInit, Cond.instanceMethod objectInit, Cond.code objectInit ⟨#[0xb1]⟩ 1 none, Cond.classLink RX3 9 RX2, Cond.instantiable RX2 15, Cond.initialized RX2, Cond.fieldLink RX3 12 "GuessFolds" "text" "LGuessFolds$Text;", Cond.classLink RX3 16 RX0, Cond.instantiable RX0 5, Cond.initialized RX0, Cond.fieldLink RX3 19 "GuessFolds" "now" "LGuessFolds$Now;", Cond.fieldLink RX3 23 "GuessFolds" "firstImage" "LGuessFolds$Now;", Cond.fieldLink RX3 26 "GuessFolds" "secondImage" "LGuessFolds$Now;", Cond.fieldLink RX3 29 "GuessFolds" "parts" "I"]
def wsL_law_r2 : List Cond := [Cond.fieldLink RX3 33 "GuessFolds" "part" "I", Cond.fieldLink RX3 36 "GuessFolds" "off" "I", Cond.fieldLink RX3 39 "GuessFolds" "hair" "I", Cond.fieldLink RX3 42 "GuessFolds" "traced" "J", Cond.instanceMethod yX2_init, Cond.code yX2_init cX2_init 1 none, Cond.methodLink RX2 3 objectInit, Cond.classLink RX2 9 RX1, Cond.instantiable RX1 2, Cond.initialized RX1, Cond.fieldLink RX2 14 "GuessFolds$Text" "bytes" "LGuessFolds$Row;", Cond.fieldLink RX2 20 "GuessFolds$Text" "firsts" "LGuessFolds$Row;", Cond.fieldLink RX2 23 "GuessFolds$Text" "seconds" "LGuessFolds$Row;", Cond.methodLink RX2 11 yX1_init, Cond.instanceMethod yX1_init, Cond.code yX1_init cX1_init 2 none, Cond.methodLink RX1 1 objectInit, Cond.fieldLink RX1 7 "GuessFolds$Row" "size" "I", Cond.methodLink RX1 13 Lib.Math.max.name, Cond.static Lib.Math.max.name, Cond.initialized "java/lang/Math", Cond.code Lib.Math.max.name Lib.Math.max.code 2 (some .int), Cond.arrayClass .long, Cond.fieldLink RX1 19 "GuessFolds$Row" "cells" "[J"]
def wsL_law_r3 : List Cond := [Cond.instanceMethod yX0_init, Cond.code yX0_init cX0_init 1 none, Cond.methodLink RX0 3 objectInit, Cond.classLink RX0 9 RX1, Cond.fieldLink RX0 14 "GuessFolds$Now" "where" "LGuessFolds$Row;", Cond.fieldLink RX0 20 "GuessFolds$Now" "offness" "LGuessFolds$Row;", Cond.fieldLink RX0 23 "GuessFolds$Now" "hairs" "LGuessFolds$Row;", Cond.fieldLink RX0 26 "GuessFolds$Now" "letters" "LGuessFolds$Row;", Cond.fieldLink RX0 29 "GuessFolds$Now" "seen" "LGuessFolds$Row;", Cond.methodLink RX0 11 yX1_init, Cond.methodLink RX3 46 yX0_begin, Cond.instanceMethod yX0_begin, Cond.selects RX0 yX0_begin yX0_begin, Cond.code yX0_begin cX0_begin 3 none, Cond.constantLong RX0 43 (1048576), Cond.methodLink RX0 36 yX0_empty, Cond.instanceMethod yX0_empty, Cond.selects RX0 yX0_empty yX0_empty, Cond.code yX0_empty cX0_empty 1 none, Cond.methodLink RX0 52 yX1_empty, Cond.instanceMethod yX1_empty, Cond.selects RX1 yX1_empty yX1_empty, Cond.code yX1_empty cX1_empty 2 (some .int), Cond.methodLink RX0 39 yX0_addCrease]
def wsL_law_r4 : List Cond := [Cond.instanceMethod yX0_addCrease, Cond.selects RX0 yX0_addCrease yX0_addCrease, Cond.code yX0_addCrease cX0_addCrease 7 none, Cond.methodLink RX0 58 yX1_add, Cond.instanceMethod yX1_add, Cond.selects RX1 yX1_add yX1_add, Cond.code yX1_add cX1_add 3 none, Cond.methodLink RL 12 yX4_init, Cond.instanceMethod yX4_init, Cond.code yX4_init cX4_init 1 none, Cond.methodLink RX4 1 objectInit, Cond.arrayClass .int, Cond.fieldLink RX4 7 "GuessFoldsModel" "text" "[I", Cond.fieldLink RX4 13 "GuessFoldsModel" "parts" "I", Cond.fieldLink RX4 17 "GuessFoldsModel" "guess" "I", Cond.fieldLink RX4 20 "GuessFoldsModel" "creases" "I", Cond.fieldLink RX4 23 "GuessFoldsModel" "where" "[J", Cond.fieldLink RX4 27 "GuessFoldsModel" "offness" "[J", Cond.fieldLink RX4 30 "GuessFoldsModel" "hairs" "[J", Cond.fieldLink RX4 33 "GuessFoldsModel" "row" "[I", Cond.fieldLink RX4 36 "GuessFoldsModel" "sight" "[I", Cond.fieldLink RX4 39 "GuessFoldsModel" "images" "[J", Cond.fieldLink RX4 42 "GuessFoldsModel" "readTold" "[I", Cond.fieldLink RX4 45 "GuessFoldsModel" "readFold" "[I"]
def wsL_law_r5 : List Cond := [Cond.methodLink RX4 48 yX4_begin, Cond.instanceMethod yX4_begin, Cond.selects RX4 yX4_begin yX4_begin, Cond.code yX4_begin cX4_begin 2 none, Cond.constantLong RX4 51 (1048576), Cond.methodLink RL 15 yX3_type, Cond.instanceMethod yX3_type, Cond.selects RX3 yX3_type yX3_type, Cond.code yX3_type cX3_type 5 (some .int), Cond.constantLong RX3 60 (255), Cond.methodLink RX3 54 yX1_hasRoom, Cond.instanceMethod yX1_hasRoom, Cond.selects RX1 yX1_hasRoom yX1_hasRoom, Cond.code yX1_hasRoom cX1_hasRoom 2 (some .boolean), Cond.methodLink RX3 62 yX1_add, Cond.methodLink RX3 66 yX1_size, Cond.instanceMethod yX1_size, Cond.selects RX1 yX1_size yX1_size, Cond.code yX1_size cX1_size 1 (some .int), Cond.methodLink RL 19 yX4_type, Cond.instanceMethod yX4_type, Cond.selects RX4 yX4_type yX4_type, Cond.code yX4_type cX4_type 5 (some .int), Cond.constantLong RX4 55 (8)]
def wsL_law_r6 : List Cond := [Cond.fieldLink RX4 61 "GuessFoldsModel" "size" "I", Cond.constantLong RX4 64 (255), Cond.methodLink RX4 57 yX4_in, Cond.static yX4_in, Cond.code yX4_in cX4_in 6 (some .boolean), Cond.methodLink RL 20 yX3_clear, Cond.instanceMethod yX3_clear, Cond.selects RX3 yX3_clear yX3_clear, Cond.code yX3_clear cX3_clear 1 (some .int), Cond.methodLink RX3 70 yX1_empty, Cond.methodLink RL 24 yX4_clear, Cond.instanceMethod yX4_clear, Cond.selects RX4 yX4_clear yX4_clear, Cond.code yX4_clear cX4_clear 2 (some .int), Cond.methodLink RL 25 yX3_strip, Cond.instanceMethod yX3_strip, Cond.selects RX3 yX3_strip yX3_strip, Cond.code yX3_strip cX3_strip 3 (some .int), Cond.methodLink RX3 73 yX2_read, Cond.instanceMethod yX2_read, Cond.selects RX2 yX2_read yX2_read, Cond.code yX2_read cX2_read 2 (some .int), Cond.fieldLink RX2 32 "GuessFolds$Text" "token" "I", Cond.fieldLink RX2 36 "GuessFolds$Text" "awaited" "I"]
def wsL_law_r7 : List Cond := [Cond.fieldLink RX2 43 "GuessFolds$Text" "place" "I", Cond.methodLink RX2 26 yX2_begin, Cond.instanceMethod yX2_begin, Cond.selects RX2 yX2_begin yX2_begin, Cond.code yX2_begin cX2_begin 1 none, Cond.fieldLink RX2 46 "GuessFolds$Text" "parts" "I", Cond.fieldLink RX2 49 "GuessFolds$Text" "part" "I", Cond.fieldLink RX2 52 "GuessFolds$Text" "off" "I", Cond.fieldLink RX2 55 "GuessFolds$Text" "hair" "I", Cond.fieldLink RX2 62 "GuessFolds$Text" "items" "I", Cond.fieldLink RX2 65 "GuessFolds$Text" "behind" "I", Cond.fieldLink RX2 68 "GuessFolds$Text" "toldWords" "I", Cond.methodLink RX2 58 yX1_empty, Cond.methodLink RX2 29 yX2_step, Cond.instanceMethod yX2_step, Cond.selects RX2 yX2_step yX2_step, Cond.code yX2_step cX2_step 1 none, Cond.constantLong RX2 78 (32), Cond.constantLong RX2 80 (59), Cond.methodLink RX2 71 yX1_size, Cond.methodLink RX2 74 yX1_at, Cond.instanceMethod yX1_at, Cond.selects RX1 yX1_at yX1_at, Cond.code yX1_at cX1_at 2 (some .long)]
def wsL_law_r8 : List Cond := [Cond.methodLink RX2 82 yX2_isLetter, Cond.instanceMethod yX2_isLetter, Cond.selects RX2 yX2_isLetter yX2_isLetter, Cond.code yX2_isLetter cX2_isLetter 2 (some .boolean), Cond.constantLong RX2 126 (97), Cond.constantLong RX2 128 (122), Cond.methodLink RX2 86 yX2_wordHere, Cond.instanceMethod yX2_wordHere, Cond.selects RX2 yX2_wordHere yX2_wordHere, Cond.code yX2_wordHere cX2_wordHere 1 (some .int), Cond.methodLink RX2 97 yX2_isHere, Cond.instanceMethod yX2_isHere, Cond.selects RX2 yX2_isHere yX2_isHere, Cond.code yX2_isHere cX2_isHere 3 (some .boolean), Cond.methodLink RX2 106 yJ0_length_8abf5, Cond.instanceMethod yJ0_length_8abf5, Cond.selects RJ0 yJ0_length_8abf5 yJ0_length_8abf5, Cond.initialized RJ0, Cond.code yJ0_length_8abf5 cJ0_length_8abf5 1 (some .int), Cond.fieldLink RJ0 9 "java/lang/String" "value" "[B", Cond.methodLink RJ0 335 yJ0_coder_7d493, Cond.instanceMethod yJ0_coder_7d493, Cond.selects RJ0 yJ0_coder_7d493 yJ0_coder_7d493, Cond.code yJ0_coder_7d493 cJ0_coder_7d493 1 (some .byte)]
def wsL_law_r9 : List Cond := [Cond.fieldLink RJ0 38 "java/lang/String" "COMPACT_STRINGS" "Z", Cond.fieldLink RJ0 15 "java/lang/String" "coder" "B", Cond.methodLink RX2 111 yJ0_charAt_5068e, Cond.instanceMethod yJ0_charAt_5068e, Cond.selects RJ0 yJ0_charAt_5068e yJ0_charAt_5068e, Cond.code yJ0_charAt_5068e cJ0_charAt_5068e 2 (some .char), Cond.methodLink RJ0 492 yJ0_isLatin1_aae02, Cond.instanceMethod yJ0_isLatin1_aae02, Cond.selects RJ0 yJ0_isLatin1_aae02 yJ0_isLatin1_aae02, Cond.code yJ0_isLatin1_aae02 cJ0_isLatin1_aae02 1 (some .boolean), Cond.methodLink RJ0 495 yJ1_charAt_3b067, Cond.static yJ1_charAt_3b067, Cond.initialized RJ1, Cond.code yJ1_charAt_3b067 cJ1_charAt_3b067 2 (some .char), Cond.methodLink RJ1 9 yJ0_checkIndex_df160, Cond.static yJ0_checkIndex_df160, Cond.code yJ0_checkIndex_df160 cJ0_checkIndex_df160 2 none, Cond.fieldLink RJ0 1053 "jdk/internal/util/Preconditions" "SIOOBE_FORMATTER" "Ljava/util/function/BiFunction;", Cond.methodLink RJ0 1059 yJ3_checkIndex_8e157, Cond.static yJ3_checkIndex_8e157, Cond.initialized RJ3, Cond.code yJ3_checkIndex_8e157 cJ3_checkIndex_8e157 3 (some .int), Cond.methodLink RJ0 498 yJ2_charAt_3b067, Cond.static yJ2_charAt_3b067]
def wsL_law_r10 : List Cond := [Cond.initialized RJ2, Cond.code yJ2_charAt_3b067 cJ2_charAt_3b067 2 (some .char), Cond.methodLink RJ2 67 yJ2_checkIndex_2214a, Cond.static yJ2_checkIndex_2214a, Cond.code yJ2_checkIndex_2214a cJ2_checkIndex_2214a 2 none, Cond.methodLink RJ2 48 yJ2_length_9d52b, Cond.static yJ2_length_9d52b, Cond.code yJ2_length_9d52b cJ2_length_9d52b 1 (some .int), Cond.methodLink RJ2 414 yJ0_checkIndex_df160, Cond.methodLink RJ2 71 yJ2_getChar_3b067, Cond.static yJ2_getChar_3b067, Cond.code yJ2_getChar_3b067 cJ2_getChar_3b067 2 (some .char), Cond.fieldLink RJ2 44 "java/lang/StringUTF16" "$assertionsDisabled" "Z", Cond.fieldLink RJ2 59 "java/lang/StringUTF16" "HI_BYTE_SHIFT" "I", Cond.fieldLink RJ2 63 "java/lang/StringUTF16" "LO_BYTE_SHIFT" "I", Cond.methodLink RX2 89 yX2_isDigit, Cond.instanceMethod yX2_isDigit, Cond.selects RX2 yX2_isDigit yX2_isDigit, Cond.code yX2_isDigit cX2_isDigit 2 (some .boolean), Cond.constantLong RX2 124 (48), Cond.constantLong RX2 130 (57), Cond.methodLink RX2 92 yX2_numberHere, Cond.instanceMethod yX2_numberHere, Cond.selects RX2 yX2_numberHere yX2_numberHere]
def wsL_law_r11 : List Cond := [Cond.code yX2_numberHere cX2_numberHere 2 (some .int), Cond.fieldLink RX2 115 "GuessFolds$Text" "number" "I", Cond.methodLink RX2 118 Lib.Math.min.name, Cond.static Lib.Math.min.name, Cond.code Lib.Math.min.name Lib.Math.min.code 2 (some .int), Cond.methodLink RX2 39 yX2_takesToken, Cond.instanceMethod yX2_takesToken, Cond.selects RX2 yX2_takesToken yX2_takesToken, Cond.code yX2_takesToken cX2_takesToken 1 (some .boolean), Cond.methodLink RX2 132 yX2_takesWord, Cond.instanceMethod yX2_takesWord, Cond.selects RX2 yX2_takesWord yX2_takesWord, Cond.code yX2_takesWord cX2_takesWord 1 (some .boolean), Cond.fieldLink RX2 147 "GuessFolds$Text" "word" "I", Cond.methodLink RX2 144 yX2_mayStand, Cond.instanceMethod yX2_mayStand, Cond.selects RX2 yX2_mayStand yX2_mayStand, Cond.code yX2_mayStand cX2_mayStand 2 (some .boolean), Cond.methodLink RX2 150 yX1_hasRoom, Cond.methodLink RX2 153 yX2_isTold, Cond.instanceMethod yX2_isTold, Cond.selects RX2 yX2_isTold yX2_isTold, Cond.code yX2_isTold cX2_isTold 2 (some .boolean), Cond.methodLink RX2 135 yX2_takesNumber]
def wsL_law_r12 : List Cond := [Cond.instanceMethod yX2_takesNumber, Cond.selects RX2 yX2_takesNumber yX2_takesNumber, Cond.code yX2_takesNumber cX2_takesNumber 1 (some .boolean), Cond.methodLink RX2 156 yX2_mayBe, Cond.instanceMethod yX2_mayBe, Cond.selects RX2 yX2_mayBe yX2_mayBe, Cond.code yX2_mayBe cX2_mayBe 2 (some .boolean), Cond.methodLink RX2 163 yX2_isToldCrease, Cond.instanceMethod yX2_isToldCrease, Cond.selects RX2 yX2_isToldCrease yX2_isToldCrease, Cond.code yX2_isToldCrease cX2_isToldCrease 2 (some .boolean), Cond.methodLink RX2 159 yX1_add, Cond.methodLink RX2 138 yX2_takesSecond, Cond.instanceMethod yX2_takesSecond, Cond.selects RX2 yX2_takesSecond yX2_takesSecond, Cond.code yX2_takesSecond cX2_takesSecond 1 (some .boolean), Cond.methodLink RX2 141 yX2_takesSemicolon, Cond.instanceMethod yX2_takesSemicolon, Cond.selects RX2 yX2_takesSemicolon yX2_takesSemicolon, Cond.code yX2_takesSemicolon cX2_takesSemicolon 1 (some .boolean), Cond.methodLink RX3 83 yX1_at, Cond.methodLink RX3 90 yX0_bring, Cond.instanceMethod yX0_bring, Cond.selects RX0 yX0_bring yX0_bring]
def wsL_law_r13 : List Cond := [Cond.code yX0_bring cX0_bring 3 none, Cond.methodLink RX0 45 yX0_middle, Cond.static yX0_middle, Cond.code yX0_middle cX0_middle 3 (some .long), Cond.constantLong RX0 66 (2), Cond.methodLink RX0 62 yX1_at, Cond.methodLink RX3 93 yX0_empty, Cond.methodLink RL 28 yX4_strip, Cond.instanceMethod yX4_strip, Cond.selects RX4 yX4_strip yX4_strip, Cond.code yX4_strip cX4_strip 3 (some .int), Cond.fieldLink RX4 69 "GuessFoldsModel" "begin" "I", Cond.fieldLink RX4 134 "GuessFoldsModel" "off" "I", Cond.fieldLink RX4 137 "GuessFoldsModel" "hair" "I", Cond.fieldLink RX4 100 "GuessFoldsModel" "readFolds" "I", Cond.fieldLink RX4 144 "GuessFoldsModel" "letters" "I", Cond.fieldLink RX4 147 "GuessFoldsModel" "seen" "I", Cond.methodLink RX4 131 yX4_takesAll, Cond.instanceMethod yX4_takesAll, Cond.selects RX4 yX4_takesAll yX4_takesAll, Cond.code yX4_takesAll cX4_takesAll 3 (some .int), Cond.fieldLink RX4 66 "GuessFoldsModel" "at" "I", Cond.fieldLink RX4 82 "GuessFoldsModel" "kind" "I", Cond.fieldLink RX4 71 "GuessFoldsModel" "value" "J"]
def wsL_law_r14 : List Cond := [Cond.constantLong RX4 115 (20597040), Cond.constantLong RX4 117 (525908), Cond.constantLong RX4 119 (15558), Cond.constantLong RX4 121 (263474), Cond.constantLong RX4 123 (212356), Cond.methodLink RX4 97 yX4_next, Cond.instanceMethod yX4_next, Cond.selects RX4 yX4_next yX4_next, Cond.code yX4_next cX4_next 2 none, Cond.constantLong RX4 85 (32), Cond.constantLong RX4 87 (96), Cond.constantLong RX4 89 (-1), Cond.constantLong RX4 91 (10), Cond.constantLong RX4 93 (48), Cond.constantLong RX4 95 (1000), Cond.methodLink RX4 75 yX4_isLetter, Cond.static yX4_isLetter, Cond.code yX4_isLetter cX4_isLetter 1 (some .boolean), Cond.methodLink RX4 79 yX4_isFigure, Cond.static yX4_isFigure, Cond.code yX4_isFigure cX4_isFigure 1 (some .boolean), Cond.methodLink RX4 125 yX4_takesFold, Cond.instanceMethod yX4_takesFold, Cond.selects RX4 yX4_takesFold yX4_takesFold]
def wsL_law_r15 : List Cond := [Cond.code yX4_takesFold cX4_takesFold 2 (some .boolean), Cond.methodLink RX4 107 yX4_takes, Cond.instanceMethod yX4_takes, Cond.selects RX4 yX4_takes yX4_takes, Cond.code yX4_takes cX4_takes 3 (some .boolean), Cond.methodLink RX4 111 yX4_stops, Cond.instanceMethod yX4_stops, Cond.selects RX4 yX4_stops yX4_stops, Cond.code yX4_stops cX4_stops 1 (some .boolean), Cond.methodLink RX4 128 yX4_takesTold, Cond.instanceMethod yX4_takesTold, Cond.selects RX4 yX4_takesTold yX4_takesTold, Cond.code yX4_takesTold cX4_takesTold 4 (some .boolean), Cond.constantLong RX4 53 (2), Cond.methodLink RX4 103 yX4_readParts, Cond.instanceMethod yX4_readParts, Cond.selects RX4 yX4_readParts yX4_readParts, Cond.code yX4_readParts cX4_readParts 1 (some .int), Cond.methodLink RX4 140 yX4_folds, Cond.instanceMethod yX4_folds, Cond.selects RX4 yX4_folds yX4_folds, Cond.code yX4_folds cX4_folds 3 none, Cond.methodLink RL 29 yX3_crease, Cond.instanceMethod yX3_crease]
def wsL_law_r16 : List Cond := [Cond.selects RX3 yX3_crease yX3_crease, Cond.code yX3_crease cX3_crease 3 (some .long), Cond.constantLong RX3 101 (-1), Cond.constantLong RX3 106 (1048576), Cond.methodLink RX3 98 yX3_isCrease, Cond.instanceMethod yX3_isCrease, Cond.selects RX3 yX3_isCrease yX3_isCrease, Cond.code yX3_isCrease cX3_isCrease 2 (some .boolean), Cond.methodLink RX3 138 yX0_creases, Cond.instanceMethod yX0_creases, Cond.selects RX0 yX0_creases yX0_creases, Cond.code yX0_creases cX0_creases 1 (some .int), Cond.methodLink RX0 32 yX1_size, Cond.methodLink RX3 108 yX3_leastUpper, Cond.static yX3_leastUpper, Cond.code yX3_leastUpper cX3_leastUpper 6 (some .long), Cond.methodLink RX3 229 yX3_shared, Cond.static yX3_shared, Cond.code yX3_shared cX3_shared 11 (some .long), Cond.methodLink RX3 112 yX3_leastLower, Cond.static yX3_leastLower, Cond.code yX3_leastLower cX3_leastLower 6 (some .long), Cond.methodLink RX3 121 yX3_partOf, Cond.instanceMethod yX3_partOf]
def wsL_law_r17 : List Cond := [Cond.selects RX3 yX3_partOf yX3_partOf, Cond.code yX3_partOf cX3_partOf 4 (some .int), Cond.methodLink RL 33 yX4_crease, Cond.instanceMethod yX4_crease, Cond.selects RX4 yX4_crease yX4_crease, Cond.code yX4_crease cX4_crease 5 (some .long), Cond.constantLong RX4 153 (6), Cond.methodLink RX4 150 yX4_isCrease, Cond.instanceMethod yX4_isCrease, Cond.selects RX4 yX4_isCrease yX4_isCrease, Cond.code yX4_isCrease cX4_isCrease 2 (some .boolean), Cond.methodLink RX4 155 yX4_partOf, Cond.instanceMethod yX4_partOf, Cond.selects RX4 yX4_partOf yX4_partOf, Cond.code yX4_partOf cX4_partOf 2 (some .int), Cond.methodLink RX4 159 yX4_least, Cond.static yX4_least, Cond.code yX4_least cX4_least 11 (some .long), Cond.methodLink RL 34 yX3_told, Cond.instanceMethod yX3_told, Cond.selects RX3 yX3_told yX3_told, Cond.code yX3_told cX3_told 2 (some .int), Cond.methodLink RL 38 yX4_told, Cond.instanceMethod yX4_told]
def wsL_law_r18 : List Cond := [Cond.selects RX4 yX4_told yX4_told, Cond.code yX4_told cX4_told 2 (some .int), Cond.methodLink RL 39 yX3_fold, Cond.instanceMethod yX3_fold, Cond.selects RX3 yX3_fold yX3_fold, Cond.code yX3_fold cX3_fold 3 (some .int), Cond.methodLink RX3 125 yX3_isFolded, Cond.instanceMethod yX3_isFolded, Cond.selects RX3 yX3_isFolded yX3_isFolded, Cond.code yX3_isFolded cX3_isFolded 1 (some .boolean), Cond.methodLink RX3 129 yX3_latest, Cond.instanceMethod yX3_latest, Cond.selects RX3 yX3_latest yX3_latest, Cond.code yX3_latest cX3_latest 1 (some .int), Cond.methodLink RL 43 yX4_fold, Cond.instanceMethod yX4_fold, Cond.selects RX4 yX4_fold yX4_fold, Cond.code yX4_fold cX4_fold 3 (some .int), Cond.methodLink RL 44 yX3_rule, Cond.instanceMethod yX3_rule, Cond.selects RX3 yX3_rule yX3_rule, Cond.code yX3_rule cX3_rule 4 (some .int), Cond.methodLink RX3 132 yX3_isInner, Cond.instanceMethod yX3_isInner]
def wsL_law_r19 : List Cond := [Cond.selects RX3 yX3_isInner yX3_isInner, Cond.code yX3_isInner cX3_isInner 2 (some .boolean), Cond.methodLink RX3 135 yX3_sideAt, Cond.static yX3_sideAt, Cond.code yX3_sideAt cX3_sideAt 1 (some .int), Cond.methodLink RL 47 yX4_rule, Cond.instanceMethod yX4_rule, Cond.selects RX4 yX4_rule yX4_rule, Cond.code yX4_rule cX4_rule 3 (some .int), Cond.methodLink RX4 163 yX4_isPart, Cond.instanceMethod yX4_isPart, Cond.selects RX4 yX4_isPart yX4_isPart, Cond.code yX4_isPart cX4_isPart 2 (some .boolean), Cond.methodLink RL 48 yX3_undo, Cond.instanceMethod yX3_undo, Cond.selects RX3 yX3_undo yX3_undo, Cond.code yX3_undo cX3_undo 1 (some .int), Cond.methodLink RX3 141 yX0_unfold, Cond.instanceMethod yX0_unfold, Cond.selects RX0 yX0_unfold yX0_unfold, Cond.code yX0_unfold cX0_unfold 1 none, Cond.methodLink RX0 49 yX1_dropLast, Cond.instanceMethod yX1_dropLast, Cond.selects RX1 yX1_dropLast yX1_dropLast]
def wsL_law_r20 : List Cond := [Cond.code yX1_dropLast cX1_dropLast 1 none, Cond.methodLink RL 51 yX4_undo, Cond.instanceMethod yX4_undo, Cond.selects RX4 yX4_undo yX4_undo, Cond.code yX4_undo cX4_undo 1 (some .int), Cond.methodLink RL 52 yX3_says, Cond.instanceMethod yX3_says, Cond.selects RX3 yX3_says yX3_says, Cond.code yX3_says cX3_says 2 (some .int), Cond.methodLink RL 55 yX4_says, Cond.instanceMethod yX4_says, Cond.selects RX4 yX4_says yX4_says, Cond.code yX4_says cX4_says 2 (some .int), Cond.methodLink RL 56 yX3_round, Cond.instanceMethod yX3_round, Cond.selects RX3 yX3_round yX3_round, Cond.code yX3_round cX3_round 2 (some .int), Cond.methodLink RX3 144 yX3_foldsAround, Cond.instanceMethod yX3_foldsAround, Cond.selects RX3 yX3_foldsAround yX3_foldsAround, Cond.code yX3_foldsAround cX3_foldsAround 4 (some .int), Cond.methodLink RX3 156 yX3_ruled, Cond.static yX3_ruled, Cond.code yX3_ruled cX3_ruled 2 (some .int)]
def wsL_law_r21 : List Cond := [Cond.methodLink RL 59 yX4_round, Cond.instanceMethod yX4_round, Cond.selects RX4 yX4_round yX4_round, Cond.code yX4_round cX4_round 2 (some .int), Cond.methodLink RX4 166 yX4_goes, Cond.static yX4_goes, Cond.code yX4_goes cX4_goes 2 (some .int), Cond.methodLink RX4 170 yX4_foldsTo, Cond.instanceMethod yX4_foldsTo, Cond.selects RX4 yX4_foldsTo yX4_foldsTo, Cond.code yX4_foldsTo cX4_foldsTo 5 (some .int), Cond.methodLink RL 60 yX3_near, Cond.instanceMethod yX3_near, Cond.selects RX3 yX3_near yX3_near, Cond.code yX3_near cX3_near 3 (some .int), Cond.constant RX3 147 (99999), Cond.constantLong RX3 148 (1000), Cond.methodLink RL 63 yX4_near, Cond.instanceMethod yX4_near, Cond.selects RX4 yX4_near yX4_near, Cond.code yX4_near cX4_near 5 (some .int), Cond.constantLong RX4 173 (99999), Cond.methodLink RL 64 yX3_wasted, Cond.instanceMethod yX3_wasted]
def wsL_law_r22 : List Cond := [Cond.selects RX3 yX3_wasted yX3_wasted, Cond.code yX3_wasted cX3_wasted 2 (some .int), Cond.methodLink RX3 150 yX3_creasesAtNoPart, Cond.instanceMethod yX3_creasesAtNoPart, Cond.selects RX3 yX3_creasesAtNoPart yX3_creasesAtNoPart, Cond.code yX3_creasesAtNoPart cX3_creasesAtNoPart 3 (some .int), Cond.methodLink RX3 153 yX3_partsWithoutCrease, Cond.instanceMethod yX3_partsWithoutCrease, Cond.selects RX3 yX3_partsWithoutCrease yX3_partsWithoutCrease, Cond.code yX3_partsWithoutCrease cX3_partsWithoutCrease 5 (some .int), Cond.methodLink RX3 209 yX3_bit, Cond.static yX3_bit, Cond.code yX3_bit cX3_bit 1 (some .long), Cond.methodLink RX3 212 yJ13_bitCount_95d88, Cond.static yJ13_bitCount_95d88, Cond.initialized RJ13, Cond.code yJ13_bitCount_95d88 cJ13_bitCount_95d88 2 (some .int), Cond.constantLong RJ13 314 (6148914691236517205), Cond.constantLong RJ13 316 (3689348814741910323), Cond.constantLong RJ13 318 (1085102592571150095), Cond.methodLink RL 67 yX4_wasted, Cond.instanceMethod yX4_wasted, Cond.selects RX4 yX4_wasted yX4_wasted, Cond.code yX4_wasted cX4_wasted 7 (some .int)]
def wsL_law_r23 : List Cond := [Cond.methodLink RL 68 yX3_fewest, Cond.instanceMethod yX3_fewest, Cond.selects RX3 yX3_fewest yX3_fewest, Cond.code yX3_fewest cX3_fewest 4 (some .int), Cond.methodLink RL 71 yX4_fewest, Cond.instanceMethod yX4_fewest, Cond.selects RX4 yX4_fewest yX4_fewest, Cond.code yX4_fewest cX4_fewest 2 (some .int), Cond.methodLink RL 72 yX3_comes, Cond.instanceMethod yX3_comes, Cond.selects RX3 yX3_comes yX3_comes, Cond.code yX3_comes cX3_comes 2 (some .int), Cond.methodLink RX3 160 yX3_starts, Cond.instanceMethod yX3_starts, Cond.selects RX3 yX3_starts yX3_starts, Cond.code yX3_starts cX3_starts 5 (some .int), Cond.methodLink RX3 218 yX3_ringOf, Cond.instanceMethod yX3_ringOf, Cond.selects RX3 yX3_ringOf yX3_ringOf, Cond.code yX3_ringOf cX3_ringOf 6 (some .long), Cond.methodLink RL 75 yX4_comes, Cond.instanceMethod yX4_comes, Cond.selects RX4 yX4_comes yX4_comes, Cond.code yX4_comes cX4_comes 7 (some .int)]
def wsL_law_r24 : List Cond := [Cond.methodLink RX4 175 yX4_round, Cond.methodLink RL 76 yX3_letter, Cond.instanceMethod yX3_letter, Cond.selects RX3 yX3_letter yX3_letter, Cond.code yX3_letter cX3_letter 2 (some .int), Cond.methodLink RL 79 yX4_letter, Cond.instanceMethod yX4_letter, Cond.selects RX4 yX4_letter yX4_letter, Cond.code yX4_letter cX4_letter 2 (some .int), Cond.methodLink RL 80 yX3_hush, Cond.instanceMethod yX3_hush, Cond.selects RX3 yX3_hush yX3_hush, Cond.code yX3_hush cX3_hush 1 (some .int), Cond.methodLink RL 83 yX4_hush, Cond.instanceMethod yX4_hush, Cond.selects RX4 yX4_hush yX4_hush, Cond.code yX4_hush cX4_hush 2 (some .int), Cond.methodLink RL 84 yX3_meant, Cond.instanceMethod yX3_meant, Cond.selects RX3 yX3_meant yX3_meant, Cond.code yX3_meant cX3_meant 7 (some .int), Cond.methodLink RX3 166 yX3_wrongLetter, Cond.instanceMethod yX3_wrongLetter, Cond.selects RX3 yX3_wrongLetter yX3_wrongLetter]
def wsL_law_r25 : List Cond := [Cond.code yX3_wrongLetter cX3_wrongLetter 5 (some .int), Cond.methodLink RL 87 yX4_meant, Cond.instanceMethod yX4_meant, Cond.selects RX4 yX4_meant yX4_meant, Cond.code yX4_meant cX4_meant 7 (some .int), Cond.methodLink RX4 178 yX4_wrongFrom, Cond.instanceMethod yX4_wrongFrom, Cond.selects RX4 yX4_wrongFrom yX4_wrongFrom, Cond.code yX4_wrongFrom cX4_wrongFrom 5 (some .int), Cond.methodLink RL 88 yX3_wrong, Cond.instanceMethod yX3_wrong, Cond.selects RX3 yX3_wrong yX3_wrong, Cond.code yX3_wrong cX3_wrong 1 (some .int), Cond.methodLink RL 91 yX4_wrong, Cond.instanceMethod yX4_wrong, Cond.selects RX4 yX4_wrong yX4_wrong, Cond.code yX4_wrong cX4_wrong 1 (some .int), Cond.methodLink RL 92 yX3_got, Cond.instanceMethod yX3_got, Cond.selects RX3 yX3_got yX3_got, Cond.code yX3_got cX3_got 7 (some .long), Cond.constantLong RX3 169 (2), Cond.methodLink RL 96 yX4_got, Cond.instanceMethod yX4_got]
def wsL_law_r26 : List Cond := [Cond.selects RX4 yX4_got yX4_got, Cond.code yX4_got cX4_got 5 (some .long), Cond.methodLink RL 97 yX3_saw, Cond.instanceMethod yX3_saw, Cond.selects RX3 yX3_saw yX3_saw, Cond.code yX3_saw cX3_saw 2 (some .int), Cond.methodLink RL 100 yX4_saw, Cond.instanceMethod yX4_saw, Cond.selects RX4 yX4_saw yX4_saw, Cond.code yX4_saw cX4_saw 2 (some .int), Cond.methodLink RL 101 yX3_forget, Cond.instanceMethod yX3_forget, Cond.selects RX3 yX3_forget yX3_forget, Cond.code yX3_forget cX3_forget 1 (some .int), Cond.methodLink RL 104 yX4_forget, Cond.instanceMethod yX4_forget, Cond.selects RX4 yX4_forget yX4_forget, Cond.code yX4_forget cX4_forget 2 (some .int), Cond.methodLink RL 105 yX3_from, Cond.instanceMethod yX3_from, Cond.selects RX3 yX3_from yX3_from, Cond.code yX3_from cX3_from 8 (some .int), Cond.methodLink RX3 174 yX3_seenSet, Cond.instanceMethod yX3_seenSet]
def wsL_law_r27 : List Cond := [Cond.selects RX3 yX3_seenSet yX3_seenSet, Cond.code yX3_seenSet cX3_seenSet 4 (some .long), Cond.methodLink RX3 178 yX3_waysFrom, Cond.instanceMethod yX3_waysFrom, Cond.selects RX3 yX3_waysFrom yX3_waysFrom, Cond.code yX3_waysFrom cX3_waysFrom 9 (some .int), Cond.methodLink RL 108 yX4_from, Cond.instanceMethod yX4_from, Cond.selects RX4 yX4_from yX4_from, Cond.code yX4_from cX4_from 11 (some .int), Cond.methodLink RL 109 yX3_mark, Cond.instanceMethod yX3_mark, Cond.selects RX3 yX3_mark yX3_mark, Cond.code yX3_mark cX3_mark 3 (some .int), Cond.constant RX3 182 (-1000000), Cond.methodLink RX3 183 yX3_asCrease, Cond.instanceMethod yX3_asCrease, Cond.selects RX3 yX3_asCrease yX3_asCrease, Cond.code yX3_asCrease cX3_asCrease 2 (some .int), Cond.methodLink RX3 186 yX3_asPinch, Cond.instanceMethod yX3_asPinch, Cond.selects RX3 yX3_asPinch yX3_asPinch, Cond.code yX3_asPinch cX3_asPinch 3 (some .int), Cond.constantLong RX3 221 (10)]
def wsL_law_r28 : List Cond := [Cond.methodLink RX3 189 yX3_asEnd, Cond.instanceMethod yX3_asEnd, Cond.selects RX3 yX3_asEnd yX3_asEnd, Cond.code yX3_asEnd cX3_asEnd 2 (some .int), Cond.constantLong RX3 223 (100), Cond.methodLink RX3 192 yX3_asThumb, Cond.instanceMethod yX3_asThumb, Cond.selects RX3 yX3_asThumb yX3_asThumb, Cond.code yX3_asThumb cX3_asThumb 2 (some .int), Cond.methodLink RX3 195 yX3_asCorner, Cond.instanceMethod yX3_asCorner, Cond.selects RX3 yX3_asCorner yX3_asCorner, Cond.code yX3_asCorner cX3_asCorner 2 (some .int), Cond.constantLong RX3 225 (10000), Cond.methodLink RX3 198 yX3_asSeam, Cond.instanceMethod yX3_asSeam, Cond.selects RX3 yX3_asSeam yX3_asSeam, Cond.code yX3_asSeam cX3_asSeam 2 (some .int), Cond.constantLong RX3 227 (100000), Cond.methodLink RL 112 yX4_mark, Cond.instanceMethod yX4_mark, Cond.selects RX4 yX4_mark yX4_mark, Cond.code yX4_mark cX4_mark 6 (some .int), Cond.constantLong RX4 181 (5)]
def wsL_law_r29 : List Cond := [Cond.constant RX4 183 (-1000000), Cond.fieldLink RX4 184 "GuessFoldsModel" "trace" "J", Cond.constantLong RX4 187 (11), Cond.constantLong RX4 189 (101), Cond.constantLong RX4 191 (1011), Cond.constantLong RX4 193 (10101), Cond.constantLong RX4 195 (100001), Cond.methodLink RL 113 yX3_keep, Cond.instanceMethod yX3_keep, Cond.selects RX3 yX3_keep yX3_keep, Cond.code yX3_keep cX3_keep 3 (some .int), Cond.methodLink RX3 201 yX3_imageOf, Cond.instanceMethod yX3_imageOf, Cond.selects RX3 yX3_imageOf yX3_imageOf, Cond.code yX3_imageOf cX3_imageOf 2 (some (.object "GuessFolds$Now")), Cond.methodLink RX3 205 yX0_copy, Cond.instanceMethod yX0_copy, Cond.selects RX0 yX0_copy yX0_copy, Cond.code yX0_copy cX0_copy 2 none, Cond.methodLink RX0 54 yX1_copy, Cond.instanceMethod yX1_copy, Cond.selects RX1 yX1_copy yX1_copy, Cond.code yX1_copy cX1_copy 3 none, Cond.methodLink RX1 23 yX1_empty]
def wsL_law_r30 : List Cond := [Cond.methodLink RX1 27 yX1_at, Cond.methodLink RX1 31 yX1_add, Cond.methodLink RL 116 yX4_keep, Cond.instanceMethod yX4_keep, Cond.selects RX4 yX4_keep yX4_keep, Cond.code yX4_keep cX4_keep 4 (some .int), Cond.methodLink RL 117 yX3_back, Cond.instanceMethod yX3_back, Cond.selects RX3 yX3_back yX3_back, Cond.code yX3_back cX3_back 3 (some .int), Cond.methodLink RL 120 yX4_back, Cond.instanceMethod yX4_back, Cond.selects RX4 yX4_back yX4_back, Cond.code yX4_back cX4_back 4 (some .int), Cond.methodLink RL 121 yX3_count, Cond.instanceMethod yX3_count, Cond.selects RX3 yX3_count yX3_count, Cond.code yX3_count cX3_count 2 (some .int), Cond.methodLink RL 124 yX4_count, Cond.instanceMethod yX4_count, Cond.selects RX4 yX4_count yX4_count, Cond.code yX4_count cX4_count 2 (some .int), Cond.methodLink RL 125 yX3_trace, Cond.instanceMethod yX3_trace]
def wsL_law_r31 : List Cond := [Cond.selects RX3 yX3_trace yX3_trace, Cond.code yX3_trace cX3_trace 1 (some .long), Cond.methodLink RL 129 yX4_trace, Cond.instanceMethod yX4_trace, Cond.selects RX4 yX4_trace yX4_trace, Cond.code yX4_trace cX4_trace 1 (some .long)]
def wsL_law : List Cond := (wsL_law_r1 ++ (wsL_law_r2 ++ (wsL_law_r3 ++ (wsL_law_r4 ++ (wsL_law_r5 ++ (wsL_law_r6 ++ (wsL_law_r7 ++ (wsL_law_r8 ++ (wsL_law_r9 ++ (wsL_law_r10 ++ (wsL_law_r11 ++ (wsL_law_r12 ++ (wsL_law_r13 ++ (wsL_law_r14 ++ (wsL_law_r15 ++ (wsL_law_r16 ++ (wsL_law_r17 ++ (wsL_law_r18 ++ (wsL_law_r19 ++ (wsL_law_r20 ++ (wsL_law_r21 ++ (wsL_law_r22 ++ (wsL_law_r23 ++ (wsL_law_r24 ++ (wsL_law_r25 ++ (wsL_law_r26 ++ (wsL_law_r27 ++ (wsL_law_r28 ++ (wsL_law_r29 ++ (wsL_law_r30 ++ wsL_law_r31)))))))))))))))))))))))))))))) ++ wsX30 ++ wsX40 ++ wsX20 ++ wsX00 ++ wsX10 ++ ([] : List Cond)
abbrev vwCl : List vw_C := [(RX0, TX0, 5), (RX1, TX1, 2), (RX2, TX2, 15), (RX3, TX3, 9), (RX4, TX4, 23)]
end
section
set_option maxRecDepth 20000 in
theorem ggX0_init_X1_init : GoodIn wsX0_init wsX1_init := goodIn_r _ [14, 15, 2, 3, 16, 17, 18, 19, 20, 21, 22, 23, 24] (by decide +kernel) (by decide +kernel)
set_option maxRecDepth 20000 in
theorem gX0_init_X1_init : GoodIn wsX0_init (wsX1_init) := ggX0_init_X1_init
theorem dX0_init_0 : decode cX0_init 0 = .ok (.aload_n 0, 1) := by decide +kernel
theorem dX0_init_1 : decode cX0_init 1 = .ok (.invokespecial 3, 3) := by decide +kernel
theorem dX0_init_4 : decode cX0_init 4 = .ok (.aload_n 0, 1) := by decide +kernel
theorem dX0_init_5 : decode cX0_init 5 = .ok (.new 9, 3) := by decide +kernel
theorem dX0_init_8 : decode cX0_init 8 = .ok (.dup, 1) := by decide +kernel
theorem dX0_init_9 : decode cX0_init 9 = .ok (.bipush 23, 2) := by decide +kernel
theorem dX0_init_11 : decode cX0_init 11 = .ok (.invokespecial 11, 3) := by decide +kernel
theorem dX0_init_14 : decode cX0_init 14 = .ok (.putfield 14, 3) := by decide +kernel
theorem dX0_init_17 : decode cX0_init 17 = .ok (.aload_n 0, 1) := by decide +kernel
theorem dX0_init_18 : decode cX0_init 18 = .ok (.new 9, 3) := by decide +kernel
theorem dX0_init_21 : decode cX0_init 21 = .ok (.dup, 1) := by decide +kernel
theorem dX0_init_22 : decode cX0_init 22 = .ok (.bipush 23, 2) := by decide +kernel
theorem dX0_init_24 : decode cX0_init 24 = .ok (.invokespecial 11, 3) := by decide +kernel
theorem dX0_init_27 : decode cX0_init 27 = .ok (.putfield 20, 3) := by decide +kernel
theorem dX0_init_30 : decode cX0_init 30 = .ok (.aload_n 0, 1) := by decide +kernel
theorem dX0_init_31 : decode cX0_init 31 = .ok (.new 9, 3) := by decide +kernel
theorem dX0_init_34 : decode cX0_init 34 = .ok (.dup, 1) := by decide +kernel
theorem dX0_init_35 : decode cX0_init 35 = .ok (.bipush 23, 2) := by decide +kernel
theorem dX0_init_37 : decode cX0_init 37 = .ok (.invokespecial 11, 3) := by decide +kernel
theorem dX0_init_40 : decode cX0_init 40 = .ok (.putfield 23, 3) := by decide +kernel
theorem dX0_init_43 : decode cX0_init 43 = .ok (.aload_n 0, 1) := by decide +kernel
theorem dX0_init_44 : decode cX0_init 44 = .ok (.new 9, 3) := by decide +kernel
theorem dX0_init_47 : decode cX0_init 47 = .ok (.dup, 1) := by decide +kernel
theorem dX0_init_48 : decode cX0_init 48 = .ok (.bipush 12, 2) := by decide +kernel
theorem dX0_init_50 : decode cX0_init 50 = .ok (.invokespecial 11, 3) := by decide +kernel
theorem dX0_init_53 : decode cX0_init 53 = .ok (.putfield 26, 3) := by decide +kernel
theorem dX0_init_56 : decode cX0_init 56 = .ok (.aload_n 0, 1) := by decide +kernel
theorem dX0_init_57 : decode cX0_init 57 = .ok (.new 9, 3) := by decide +kernel
theorem dX0_init_60 : decode cX0_init 60 = .ok (.dup, 1) := by decide +kernel
theorem dX0_init_61 : decode cX0_init 61 = .ok (.bipush 8, 2) := by decide +kernel
theorem dX0_init_63 : decode cX0_init 63 = .ok (.invokespecial 11, 3) := by decide +kernel
theorem dX0_init_66 : decode cX0_init 66 = .ok (.putfield 29, 3) := by decide +kernel
theorem dX0_init_69 : decode cX0_init 69 = .ok (.return_, 1) := by decide +kernel
set_option maxRecDepth 20000 in
theorem ggX0_creases_X1_size : GoodIn wsX0_creases wsX1_size := goodIn_r _ [6, 7, 13, 14] (by decide +kernel) (by decide +kernel)
set_option maxRecDepth 20000 in
theorem gX0_creases_X1_size : GoodIn wsX0_creases (wsV RX0 32 RX1 yX1_size wsX1_size) := goodIn_app (goodIn_of _ (by decide +kernel)) ggX0_creases_X1_size
theorem dX0_creases_0 : decode cX0_creases 0 = .ok (.aload_n 0, 1) := by decide +kernel
theorem dX0_creases_1 : decode cX0_creases 1 = .ok (.getfield 14, 3) := by decide +kernel
theorem dX0_creases_4 : decode cX0_creases 4 = .ok (.invokevirtual 32, 3) := by decide +kernel
theorem dX0_creases_7 : decode cX0_creases 7 = .ok (.ireturn, 1) := by decide +kernel
set_option maxRecDepth 20000 in
theorem ggX0_begin_X0_empty : GoodIn wsX0_begin wsX0_empty := goodIn_r _ [6, 7, 8, 9, 10, 11, 12, 13, 14, 15, 16, 17, 27, 28, 29, 30, 31, 32, 33] (by decide +kernel) (by decide +kernel)
set_option maxRecDepth 20000 in
theorem gX0_begin_X0_empty : GoodIn wsX0_begin (wsV RX0 36 RX0 yX0_empty wsX0_empty) := goodIn_app (goodIn_of _ (by decide +kernel)) ggX0_begin_X0_empty
set_option maxRecDepth 20000 in
theorem ggX0_begin_X0_addCrease : GoodIn wsX0_begin wsX0_addCrease := goodIn_r _ [21, 7, 8, 9, 22, 23, 24, 15, 25, 17, 26, 27, 28, 29, 30, 31, 32, 33] (by decide +kernel) (by decide +kernel)
set_option maxRecDepth 20000 in
theorem gX0_begin_X0_addCrease : GoodIn wsX0_begin (wsV RX0 39 RX0 yX0_addCrease wsX0_addCrease) := goodIn_app (goodIn_of _ (by decide +kernel)) ggX0_begin_X0_addCrease
theorem dX0_begin_0 : decode cX0_begin 0 = .ok (.aload_n 0, 1) := by decide +kernel
theorem dX0_begin_1 : decode cX0_begin 1 = .ok (.invokevirtual 36, 3) := by decide +kernel
theorem dX0_begin_4 : decode cX0_begin 4 = .ok (.aload_n 0, 1) := by decide +kernel
theorem dX0_begin_5 : decode cX0_begin 5 = .ok (.lconst 0, 1) := by decide +kernel
theorem dX0_begin_6 : decode cX0_begin 6 = .ok (.lconst 0, 1) := by decide +kernel
theorem dX0_begin_7 : decode cX0_begin 7 = .ok (.lconst 0, 1) := by decide +kernel
theorem dX0_begin_8 : decode cX0_begin 8 = .ok (.invokevirtual 39, 3) := by decide +kernel
theorem dX0_begin_11 : decode cX0_begin 11 = .ok (.aload_n 0, 1) := by decide +kernel
theorem dX0_begin_12 : decode cX0_begin 12 = .ok (.iload_n 1, 1) := by decide +kernel
theorem dX0_begin_13 : decode cX0_begin 13 = .ok (.i2l, 1) := by decide +kernel
theorem dX0_begin_14 : decode cX0_begin 14 = .ok (.ldc2_w 43, 3) := by decide +kernel
theorem dX0_begin_17 : decode cX0_begin 17 = .ok (.lmul, 1) := by decide +kernel
theorem dX0_begin_18 : decode cX0_begin 18 = .ok (.lconst 0, 1) := by decide +kernel
theorem dX0_begin_19 : decode cX0_begin 19 = .ok (.lconst 0, 1) := by decide +kernel
theorem dX0_begin_20 : decode cX0_begin 20 = .ok (.invokevirtual 39, 3) := by decide +kernel
theorem dX0_begin_23 : decode cX0_begin 23 = .ok (.aload_n 0, 1) := by decide +kernel
theorem dX0_begin_24 : decode cX0_begin 24 = .ok (.iload_n 2, 1) := by decide +kernel
theorem dX0_begin_25 : decode cX0_begin 25 = .ok (.i2l, 1) := by decide +kernel
theorem dX0_begin_26 : decode cX0_begin 26 = .ok (.ldc2_w 43, 3) := by decide +kernel
theorem dX0_begin_29 : decode cX0_begin 29 = .ok (.lmul, 1) := by decide +kernel
theorem dX0_begin_30 : decode cX0_begin 30 = .ok (.ldc2_w 43, 3) := by decide +kernel
theorem dX0_begin_33 : decode cX0_begin 33 = .ok (.lconst 0, 1) := by decide +kernel
theorem dX0_begin_34 : decode cX0_begin 34 = .ok (.invokevirtual 39, 3) := by decide +kernel
theorem dX0_begin_37 : decode cX0_begin 37 = .ok (.return_, 1) := by decide +kernel
set_option maxRecDepth 20000 in
theorem ggX0_bring_X0_middle : GoodIn wsX0_bring wsX0_middle := goodIn_r _ [8, 9, 10, 11, 12, 13, 14, 15, 30, 31] (by decide +kernel) (by decide +kernel)
set_option maxRecDepth 20000 in
theorem gX0_bring_X0_middle : GoodIn wsX0_bring (va_wsS RX0 45 yX0_middle wsX0_middle) := goodIn_app (goodIn_of _ (by decide +kernel)) ggX0_bring_X0_middle
set_option maxRecDepth 20000 in
theorem ggX0_bring_X0_addCrease : GoodIn wsX0_bring wsX0_addCrease := goodIn_r _ [19, 1, 2, 3, 20, 21, 22, 13, 23, 24, 15, 25, 26, 27, 28, 29, 30, 31] (by decide +kernel) (by decide +kernel)
set_option maxRecDepth 20000 in
theorem gX0_bring_X0_addCrease : GoodIn wsX0_bring (wsV RX0 39 RX0 yX0_addCrease wsX0_addCrease) := goodIn_app (goodIn_of _ (by decide +kernel)) ggX0_bring_X0_addCrease
theorem dX0_bring_0 : decode cX0_bring 0 = .ok (.aload_n 0, 1) := by decide +kernel
theorem dX0_bring_1 : decode cX0_bring 1 = .ok (.aload_n 0, 1) := by decide +kernel
theorem dX0_bring_2 : decode cX0_bring 2 = .ok (.getfield 14, 3) := by decide +kernel
theorem dX0_bring_5 : decode cX0_bring 5 = .ok (.iload_n 1, 1) := by decide +kernel
theorem dX0_bring_6 : decode cX0_bring 6 = .ok (.iload_n 2, 1) := by decide +kernel
theorem dX0_bring_7 : decode cX0_bring 7 = .ok (.invokestatic 45, 3) := by decide +kernel
theorem dX0_bring_10 : decode cX0_bring 10 = .ok (.aload_n 0, 1) := by decide +kernel
theorem dX0_bring_11 : decode cX0_bring 11 = .ok (.getfield 20, 3) := by decide +kernel
theorem dX0_bring_14 : decode cX0_bring 14 = .ok (.iload_n 1, 1) := by decide +kernel
theorem dX0_bring_15 : decode cX0_bring 15 = .ok (.iload_n 2, 1) := by decide +kernel
theorem dX0_bring_16 : decode cX0_bring 16 = .ok (.invokestatic 45, 3) := by decide +kernel
theorem dX0_bring_19 : decode cX0_bring 19 = .ok (.aload_n 0, 1) := by decide +kernel
theorem dX0_bring_20 : decode cX0_bring 20 = .ok (.getfield 23, 3) := by decide +kernel
theorem dX0_bring_23 : decode cX0_bring 23 = .ok (.iload_n 1, 1) := by decide +kernel
theorem dX0_bring_24 : decode cX0_bring 24 = .ok (.iload_n 2, 1) := by decide +kernel
theorem dX0_bring_25 : decode cX0_bring 25 = .ok (.invokestatic 45, 3) := by decide +kernel
theorem dX0_bring_28 : decode cX0_bring 28 = .ok (.ldc2_w 43, 3) := by decide +kernel
theorem dX0_bring_31 : decode cX0_bring 31 = .ok (.ladd, 1) := by decide +kernel
theorem dX0_bring_32 : decode cX0_bring 32 = .ok (.invokevirtual 39, 3) := by decide +kernel
theorem dX0_bring_35 : decode cX0_bring 35 = .ok (.return_, 1) := by decide +kernel
set_option maxRecDepth 20000 in
theorem ggX0_unfold_X1_dropLast : GoodIn wsX0_unfold wsX1_dropLast := goodIn_r _ [8, 9, 10, 11, 12, 13, 19, 20] (by decide +kernel) (by decide +kernel)
set_option maxRecDepth 20000 in
theorem gX0_unfold_X1_dropLast : GoodIn wsX0_unfold (wsV RX0 49 RX1 yX1_dropLast wsX1_dropLast) := goodIn_app (goodIn_of _ (by decide +kernel)) ggX0_unfold_X1_dropLast
theorem dX0_unfold_0 : decode cX0_unfold 0 = .ok (.aload_n 0, 1) := by decide +kernel
theorem dX0_unfold_1 : decode cX0_unfold 1 = .ok (.getfield 14, 3) := by decide +kernel
theorem dX0_unfold_4 : decode cX0_unfold 4 = .ok (.invokevirtual 49, 3) := by decide +kernel
theorem dX0_unfold_7 : decode cX0_unfold 7 = .ok (.aload_n 0, 1) := by decide +kernel
theorem dX0_unfold_8 : decode cX0_unfold 8 = .ok (.getfield 20, 3) := by decide +kernel
theorem dX0_unfold_11 : decode cX0_unfold 11 = .ok (.invokevirtual 49, 3) := by decide +kernel
theorem dX0_unfold_14 : decode cX0_unfold 14 = .ok (.aload_n 0, 1) := by decide +kernel
theorem dX0_unfold_15 : decode cX0_unfold 15 = .ok (.getfield 23, 3) := by decide +kernel
theorem dX0_unfold_18 : decode cX0_unfold 18 = .ok (.invokevirtual 49, 3) := by decide +kernel
theorem dX0_unfold_21 : decode cX0_unfold 21 = .ok (.return_, 1) := by decide +kernel
set_option maxRecDepth 20000 in
theorem ggX0_empty_X1_empty : GoodIn wsX0_empty wsX1_empty := goodIn_r _ [10, 11, 17, 18] (by decide +kernel) (by decide +kernel)
set_option maxRecDepth 20000 in
theorem gX0_empty_X1_empty : GoodIn wsX0_empty (wsV RX0 52 RX1 yX1_empty wsX1_empty) := goodIn_app (goodIn_of _ (by decide +kernel)) ggX0_empty_X1_empty
theorem dX0_empty_0 : decode cX0_empty 0 = .ok (.aload_n 0, 1) := by decide +kernel
theorem dX0_empty_1 : decode cX0_empty 1 = .ok (.getfield 14, 3) := by decide +kernel
theorem dX0_empty_4 : decode cX0_empty 4 = .ok (.invokevirtual 52, 3) := by decide +kernel
theorem dX0_empty_7 : decode cX0_empty 7 = .ok (.pop, 1) := by decide +kernel
theorem dX0_empty_8 : decode cX0_empty 8 = .ok (.aload_n 0, 1) := by decide +kernel
theorem dX0_empty_9 : decode cX0_empty 9 = .ok (.getfield 20, 3) := by decide +kernel
theorem dX0_empty_12 : decode cX0_empty 12 = .ok (.invokevirtual 52, 3) := by decide +kernel
theorem dX0_empty_15 : decode cX0_empty 15 = .ok (.pop, 1) := by decide +kernel
theorem dX0_empty_16 : decode cX0_empty 16 = .ok (.aload_n 0, 1) := by decide +kernel
theorem dX0_empty_17 : decode cX0_empty 17 = .ok (.getfield 23, 3) := by decide +kernel
theorem dX0_empty_20 : decode cX0_empty 20 = .ok (.invokevirtual 52, 3) := by decide +kernel
theorem dX0_empty_23 : decode cX0_empty 23 = .ok (.pop, 1) := by decide +kernel
theorem dX0_empty_24 : decode cX0_empty 24 = .ok (.aload_n 0, 1) := by decide +kernel
theorem dX0_empty_25 : decode cX0_empty 25 = .ok (.getfield 26, 3) := by decide +kernel
theorem dX0_empty_28 : decode cX0_empty 28 = .ok (.invokevirtual 52, 3) := by decide +kernel
theorem dX0_empty_31 : decode cX0_empty 31 = .ok (.pop, 1) := by decide +kernel
theorem dX0_empty_32 : decode cX0_empty 32 = .ok (.aload_n 0, 1) := by decide +kernel
theorem dX0_empty_33 : decode cX0_empty 33 = .ok (.getfield 29, 3) := by decide +kernel
theorem dX0_empty_36 : decode cX0_empty 36 = .ok (.invokevirtual 52, 3) := by decide +kernel
theorem dX0_empty_39 : decode cX0_empty 39 = .ok (.pop, 1) := by decide +kernel
theorem dX0_empty_40 : decode cX0_empty 40 = .ok (.return_, 1) := by decide +kernel
set_option maxRecDepth 20000 in
theorem ggX0_copy_X1_copy : GoodIn wsX0_copy wsX1_copy := goodIn_r _ [10, 11, 12, 13, 14, 9, 15, 16, 17, 18, 19, 20, 21, 22, 23, 24, 30, 31] (by decide +kernel) (by decide +kernel)
set_option maxRecDepth 20000 in
theorem gX0_copy_X1_copy : GoodIn wsX0_copy (wsV RX0 54 RX1 yX1_copy wsX1_copy) := goodIn_app (goodIn_of _ (by decide +kernel)) ggX0_copy_X1_copy
theorem dX0_copy_0 : decode cX0_copy 0 = .ok (.aload_n 1, 1) := by decide +kernel
theorem dX0_copy_1 : decode cX0_copy 1 = .ok (.ifnonnull 4, 3) := by decide +kernel
theorem dX0_copy_4 : decode cX0_copy 4 = .ok (.return_, 1) := by decide +kernel
theorem dX0_copy_5 : decode cX0_copy 5 = .ok (.aload_n 0, 1) := by decide +kernel
theorem dX0_copy_6 : decode cX0_copy 6 = .ok (.getfield 14, 3) := by decide +kernel
theorem dX0_copy_9 : decode cX0_copy 9 = .ok (.aload_n 1, 1) := by decide +kernel
theorem dX0_copy_10 : decode cX0_copy 10 = .ok (.getfield 14, 3) := by decide +kernel
theorem dX0_copy_13 : decode cX0_copy 13 = .ok (.invokevirtual 54, 3) := by decide +kernel
theorem dX0_copy_16 : decode cX0_copy 16 = .ok (.aload_n 0, 1) := by decide +kernel
theorem dX0_copy_17 : decode cX0_copy 17 = .ok (.getfield 20, 3) := by decide +kernel
theorem dX0_copy_20 : decode cX0_copy 20 = .ok (.aload_n 1, 1) := by decide +kernel
theorem dX0_copy_21 : decode cX0_copy 21 = .ok (.getfield 20, 3) := by decide +kernel
theorem dX0_copy_24 : decode cX0_copy 24 = .ok (.invokevirtual 54, 3) := by decide +kernel
theorem dX0_copy_27 : decode cX0_copy 27 = .ok (.aload_n 0, 1) := by decide +kernel
theorem dX0_copy_28 : decode cX0_copy 28 = .ok (.getfield 23, 3) := by decide +kernel
theorem dX0_copy_31 : decode cX0_copy 31 = .ok (.aload_n 1, 1) := by decide +kernel
theorem dX0_copy_32 : decode cX0_copy 32 = .ok (.getfield 23, 3) := by decide +kernel
theorem dX0_copy_35 : decode cX0_copy 35 = .ok (.invokevirtual 54, 3) := by decide +kernel
theorem dX0_copy_38 : decode cX0_copy 38 = .ok (.aload_n 0, 1) := by decide +kernel
theorem dX0_copy_39 : decode cX0_copy 39 = .ok (.getfield 26, 3) := by decide +kernel
theorem dX0_copy_42 : decode cX0_copy 42 = .ok (.aload_n 1, 1) := by decide +kernel
theorem dX0_copy_43 : decode cX0_copy 43 = .ok (.getfield 26, 3) := by decide +kernel
theorem dX0_copy_46 : decode cX0_copy 46 = .ok (.invokevirtual 54, 3) := by decide +kernel
theorem dX0_copy_49 : decode cX0_copy 49 = .ok (.aload_n 0, 1) := by decide +kernel
theorem dX0_copy_50 : decode cX0_copy 50 = .ok (.getfield 29, 3) := by decide +kernel
theorem dX0_copy_53 : decode cX0_copy 53 = .ok (.aload_n 1, 1) := by decide +kernel
theorem dX0_copy_54 : decode cX0_copy 54 = .ok (.getfield 29, 3) := by decide +kernel
theorem dX0_copy_57 : decode cX0_copy 57 = .ok (.invokevirtual 54, 3) := by decide +kernel
theorem dX0_copy_60 : decode cX0_copy 60 = .ok (.return_, 1) := by decide +kernel
set_option maxRecDepth 20000 in
theorem ggX0_addCrease_X1_add : GoodIn wsX0_addCrease wsX1_add := goodIn_r _ [8, 9, 10, 16, 17] (by decide +kernel) (by decide +kernel)
set_option maxRecDepth 20000 in
theorem gX0_addCrease_X1_add : GoodIn wsX0_addCrease (wsV RX0 58 RX1 yX1_add wsX1_add) := goodIn_app (goodIn_of _ (by decide +kernel)) ggX0_addCrease_X1_add
theorem dX0_addCrease_0 : decode cX0_addCrease 0 = .ok (.aload_n 0, 1) := by decide +kernel
theorem dX0_addCrease_1 : decode cX0_addCrease 1 = .ok (.getfield 14, 3) := by decide +kernel
theorem dX0_addCrease_4 : decode cX0_addCrease 4 = .ok (.lload_n 1, 1) := by decide +kernel
theorem dX0_addCrease_5 : decode cX0_addCrease 5 = .ok (.invokevirtual 58, 3) := by decide +kernel
theorem dX0_addCrease_8 : decode cX0_addCrease 8 = .ok (.aload_n 0, 1) := by decide +kernel
theorem dX0_addCrease_9 : decode cX0_addCrease 9 = .ok (.getfield 20, 3) := by decide +kernel
theorem dX0_addCrease_12 : decode cX0_addCrease 12 = .ok (.lload_n 3, 1) := by decide +kernel
theorem dX0_addCrease_13 : decode cX0_addCrease 13 = .ok (.invokevirtual 58, 3) := by decide +kernel
theorem dX0_addCrease_16 : decode cX0_addCrease 16 = .ok (.aload_n 0, 1) := by decide +kernel
theorem dX0_addCrease_17 : decode cX0_addCrease 17 = .ok (.getfield 23, 3) := by decide +kernel
theorem dX0_addCrease_20 : decode cX0_addCrease 20 = .ok (.lload 5, 2) := by decide +kernel
theorem dX0_addCrease_22 : decode cX0_addCrease 22 = .ok (.invokevirtual 58, 3) := by decide +kernel
theorem dX0_addCrease_25 : decode cX0_addCrease 25 = .ok (.return_, 1) := by decide +kernel
set_option maxRecDepth 20000 in
theorem ggX0_middle_X1_at : GoodIn wsX0_middle wsX1_at := goodIn_r _ [6, 7, 8, 9] (by decide +kernel) (by decide +kernel)
set_option maxRecDepth 20000 in
theorem gX0_middle_X1_at : GoodIn wsX0_middle (wsV RX0 62 RX1 yX1_at wsX1_at) := goodIn_app (goodIn_of _ (by decide +kernel)) ggX0_middle_X1_at
theorem dX0_middle_0 : decode cX0_middle 0 = .ok (.aload_n 0, 1) := by decide +kernel
theorem dX0_middle_1 : decode cX0_middle 1 = .ok (.ifnonnull 7, 3) := by decide +kernel
theorem dX0_middle_4 : decode cX0_middle 4 = .ok (.lconst 0, 1) := by decide +kernel
theorem dX0_middle_5 : decode cX0_middle 5 = .ok (.goto 18, 3) := by decide +kernel
theorem dX0_middle_8 : decode cX0_middle 8 = .ok (.aload_n 0, 1) := by decide +kernel
theorem dX0_middle_9 : decode cX0_middle 9 = .ok (.iload_n 1, 1) := by decide +kernel
theorem dX0_middle_10 : decode cX0_middle 10 = .ok (.invokevirtual 62, 3) := by decide +kernel
theorem dX0_middle_13 : decode cX0_middle 13 = .ok (.aload_n 0, 1) := by decide +kernel
theorem dX0_middle_14 : decode cX0_middle 14 = .ok (.iload_n 2, 1) := by decide +kernel
theorem dX0_middle_15 : decode cX0_middle 15 = .ok (.invokevirtual 62, 3) := by decide +kernel
theorem dX0_middle_18 : decode cX0_middle 18 = .ok (.ladd, 1) := by decide +kernel
theorem dX0_middle_19 : decode cX0_middle 19 = .ok (.ldc2_w 66, 3) := by decide +kernel
theorem dX0_middle_22 : decode cX0_middle 22 = .ok (.ldiv, 1) := by decide +kernel
theorem dX0_middle_23 : decode cX0_middle 23 = .ok (.lreturn, 1) := by decide +kernel
theorem dX1_init_0 : decode cX1_init 0 = .ok (.aload_n 0, 1) := by decide +kernel
theorem dX1_init_1 : decode cX1_init 1 = .ok (.invokespecial 1, 3) := by decide +kernel
theorem dX1_init_4 : decode cX1_init 4 = .ok (.aload_n 0, 1) := by decide +kernel
theorem dX1_init_5 : decode cX1_init 5 = .ok (.iconst 0, 1) := by decide +kernel
theorem dX1_init_6 : decode cX1_init 6 = .ok (.putfield 7, 3) := by decide +kernel
theorem dX1_init_9 : decode cX1_init 9 = .ok (.aload_n 0, 1) := by decide +kernel
theorem dX1_init_10 : decode cX1_init 10 = .ok (.iload_n 1, 1) := by decide +kernel
theorem dX1_init_11 : decode cX1_init 11 = .ok (.iconst 0, 1) := by decide +kernel
theorem dX1_init_12 : decode cX1_init 12 = .ok (.invokestatic 13, 3) := by decide +kernel
theorem dX1_init_15 : decode cX1_init 15 = .ok (.newarray .long, 2) := by decide +kernel
theorem dX1_init_17 : decode cX1_init 17 = .ok (.putfield 19, 3) := by decide +kernel
theorem dX1_init_20 : decode cX1_init 20 = .ok (.return_, 1) := by decide +kernel
theorem dX1_size_0 : decode cX1_size 0 = .ok (.aload_n 0, 1) := by decide +kernel
theorem dX1_size_1 : decode cX1_size 1 = .ok (.getfield 7, 3) := by decide +kernel
theorem dX1_size_4 : decode cX1_size 4 = .ok (.ireturn, 1) := by decide +kernel
theorem dX1_hasRoom_0 : decode cX1_hasRoom 0 = .ok (.aload_n 0, 1) := by decide +kernel
theorem dX1_hasRoom_1 : decode cX1_hasRoom 1 = .ok (.getfield 7, 3) := by decide +kernel
theorem dX1_hasRoom_4 : decode cX1_hasRoom 4 = .ok (.iload_n 1, 1) := by decide +kernel
theorem dX1_hasRoom_5 : decode cX1_hasRoom 5 = .ok (.iadd, 1) := by decide +kernel
theorem dX1_hasRoom_6 : decode cX1_hasRoom 6 = .ok (.aload_n 0, 1) := by decide +kernel
theorem dX1_hasRoom_7 : decode cX1_hasRoom 7 = .ok (.getfield 19, 3) := by decide +kernel
theorem dX1_hasRoom_10 : decode cX1_hasRoom 10 = .ok (.arraylength, 1) := by decide +kernel
theorem dX1_hasRoom_11 : decode cX1_hasRoom 11 = .ok (.if_icmp .gt 7, 3) := by decide +kernel
theorem dX1_hasRoom_14 : decode cX1_hasRoom 14 = .ok (.iconst 1, 1) := by decide +kernel
theorem dX1_hasRoom_15 : decode cX1_hasRoom 15 = .ok (.goto 4, 3) := by decide +kernel
theorem dX1_hasRoom_18 : decode cX1_hasRoom 18 = .ok (.iconst 0, 1) := by decide +kernel
theorem dX1_hasRoom_19 : decode cX1_hasRoom 19 = .ok (.ireturn, 1) := by decide +kernel
theorem dX1_at_0 : decode cX1_at 0 = .ok (.iload_n 1, 1) := by decide +kernel
theorem dX1_at_1 : decode cX1_at 1 = .ok (.ifCond .lt 21, 3) := by decide +kernel
theorem dX1_at_4 : decode cX1_at 4 = .ok (.iload_n 1, 1) := by decide +kernel
theorem dX1_at_5 : decode cX1_at 5 = .ok (.aload_n 0, 1) := by decide +kernel
theorem dX1_at_6 : decode cX1_at 6 = .ok (.getfield 19, 3) := by decide +kernel
theorem dX1_at_9 : decode cX1_at 9 = .ok (.arraylength, 1) := by decide +kernel
theorem dX1_at_10 : decode cX1_at 10 = .ok (.if_icmp .ge 12, 3) := by decide +kernel
theorem dX1_at_13 : decode cX1_at 13 = .ok (.aload_n 0, 1) := by decide +kernel
theorem dX1_at_14 : decode cX1_at 14 = .ok (.getfield 19, 3) := by decide +kernel
theorem dX1_at_17 : decode cX1_at 17 = .ok (.iload_n 1, 1) := by decide +kernel
theorem dX1_at_18 : decode cX1_at 18 = .ok (.laload, 1) := by decide +kernel
theorem dX1_at_19 : decode cX1_at 19 = .ok (.goto 4, 3) := by decide +kernel
theorem dX1_at_22 : decode cX1_at 22 = .ok (.lconst 0, 1) := by decide +kernel
theorem dX1_at_23 : decode cX1_at 23 = .ok (.lreturn, 1) := by decide +kernel
theorem dX1_add_0 : decode cX1_add 0 = .ok (.aload_n 0, 1) := by decide +kernel
theorem dX1_add_1 : decode cX1_add 1 = .ok (.getfield 7, 3) := by decide +kernel
theorem dX1_add_4 : decode cX1_add 4 = .ok (.ifCond .lt 35, 3) := by decide +kernel
theorem dX1_add_7 : decode cX1_add 7 = .ok (.aload_n 0, 1) := by decide +kernel
theorem dX1_add_8 : decode cX1_add 8 = .ok (.getfield 7, 3) := by decide +kernel
theorem dX1_add_11 : decode cX1_add 11 = .ok (.aload_n 0, 1) := by decide +kernel
theorem dX1_add_12 : decode cX1_add 12 = .ok (.getfield 19, 3) := by decide +kernel
theorem dX1_add_15 : decode cX1_add 15 = .ok (.arraylength, 1) := by decide +kernel
theorem dX1_add_16 : decode cX1_add 16 = .ok (.if_icmp .ge 23, 3) := by decide +kernel
theorem dX1_add_19 : decode cX1_add 19 = .ok (.aload_n 0, 1) := by decide +kernel
theorem dX1_add_20 : decode cX1_add 20 = .ok (.getfield 19, 3) := by decide +kernel
theorem dX1_add_23 : decode cX1_add 23 = .ok (.aload_n 0, 1) := by decide +kernel
theorem dX1_add_24 : decode cX1_add 24 = .ok (.getfield 7, 3) := by decide +kernel
theorem dX1_add_27 : decode cX1_add 27 = .ok (.lload_n 1, 1) := by decide +kernel
theorem dX1_add_28 : decode cX1_add 28 = .ok (.lastore, 1) := by decide +kernel
theorem dX1_add_29 : decode cX1_add 29 = .ok (.aload_n 0, 1) := by decide +kernel
theorem dX1_add_30 : decode cX1_add 30 = .ok (.dup, 1) := by decide +kernel
theorem dX1_add_31 : decode cX1_add 31 = .ok (.getfield 7, 3) := by decide +kernel
theorem dX1_add_34 : decode cX1_add 34 = .ok (.iconst 1, 1) := by decide +kernel
theorem dX1_add_35 : decode cX1_add 35 = .ok (.iadd, 1) := by decide +kernel
theorem dX1_add_36 : decode cX1_add 36 = .ok (.putfield 7, 3) := by decide +kernel
theorem dX1_add_39 : decode cX1_add 39 = .ok (.return_, 1) := by decide +kernel
theorem dX1_dropLast_0 : decode cX1_dropLast 0 = .ok (.aload_n 0, 1) := by decide +kernel
theorem dX1_dropLast_1 : decode cX1_dropLast 1 = .ok (.aload_n 0, 1) := by decide +kernel
theorem dX1_dropLast_2 : decode cX1_dropLast 2 = .ok (.getfield 7, 3) := by decide +kernel
theorem dX1_dropLast_5 : decode cX1_dropLast 5 = .ok (.iconst 1, 1) := by decide +kernel
theorem dX1_dropLast_6 : decode cX1_dropLast 6 = .ok (.isub, 1) := by decide +kernel
theorem dX1_dropLast_7 : decode cX1_dropLast 7 = .ok (.iconst 0, 1) := by decide +kernel
theorem dX1_dropLast_8 : decode cX1_dropLast 8 = .ok (.invokestatic 13, 3) := by decide +kernel
theorem dX1_dropLast_11 : decode cX1_dropLast 11 = .ok (.putfield 7, 3) := by decide +kernel
theorem dX1_dropLast_14 : decode cX1_dropLast 14 = .ok (.return_, 1) := by decide +kernel
theorem dX1_empty_0 : decode cX1_empty 0 = .ok (.aload_n 0, 1) := by decide +kernel
theorem dX1_empty_1 : decode cX1_empty 1 = .ok (.getfield 7, 3) := by decide +kernel
theorem dX1_empty_4 : decode cX1_empty 4 = .ok (.istore_n 1, 1) := by decide +kernel
theorem dX1_empty_5 : decode cX1_empty 5 = .ok (.aload_n 0, 1) := by decide +kernel
theorem dX1_empty_6 : decode cX1_empty 6 = .ok (.iconst 0, 1) := by decide +kernel
theorem dX1_empty_7 : decode cX1_empty 7 = .ok (.putfield 7, 3) := by decide +kernel
theorem dX1_empty_10 : decode cX1_empty 10 = .ok (.iload_n 1, 1) := by decide +kernel
theorem dX1_empty_11 : decode cX1_empty 11 = .ok (.ireturn, 1) := by decide +kernel
set_option maxRecDepth 20000 in
theorem ggX1_copy_X1_empty : GoodIn wsX1_copy wsX1_empty := goodIn_r _ [6, 1, 16, 17] (by decide +kernel) (by decide +kernel)
set_option maxRecDepth 20000 in
theorem gX1_copy_X1_empty : GoodIn wsX1_copy (wsV RX1 23 RX1 yX1_empty wsX1_empty) := goodIn_app (goodIn_of _ (by decide +kernel)) ggX1_copy_X1_empty
set_option maxRecDepth 20000 in
theorem ggX1_copy_X1_at : GoodIn wsX1_copy wsX1_at := goodIn_r _ [10, 11, 16, 17] (by decide +kernel) (by decide +kernel)
set_option maxRecDepth 20000 in
theorem gX1_copy_X1_at : GoodIn wsX1_copy (wsV RX1 27 RX1 yX1_at wsX1_at) := goodIn_app (goodIn_of _ (by decide +kernel)) ggX1_copy_X1_at
set_option maxRecDepth 20000 in
theorem ggX1_copy_X1_add : GoodIn wsX1_copy wsX1_add := goodIn_r _ [15, 1, 11, 16, 17] (by decide +kernel) (by decide +kernel)
set_option maxRecDepth 20000 in
theorem gX1_copy_X1_add : GoodIn wsX1_copy (wsV RX1 31 RX1 yX1_add wsX1_add) := goodIn_app (goodIn_of _ (by decide +kernel)) ggX1_copy_X1_add
theorem dX1_copy_0 : decode cX1_copy 0 = .ok (.aload_n 1, 1) := by decide +kernel
theorem dX1_copy_1 : decode cX1_copy 1 = .ok (.ifnull 8, 3) := by decide +kernel
theorem dX1_copy_4 : decode cX1_copy 4 = .ok (.aload_n 1, 1) := by decide +kernel
theorem dX1_copy_5 : decode cX1_copy 5 = .ok (.aload_n 0, 1) := by decide +kernel
theorem dX1_copy_6 : decode cX1_copy 6 = .ok (.if_acmp .ne 4, 3) := by decide +kernel
theorem dX1_copy_9 : decode cX1_copy 9 = .ok (.return_, 1) := by decide +kernel
theorem dX1_copy_10 : decode cX1_copy 10 = .ok (.aload_n 0, 1) := by decide +kernel
theorem dX1_copy_11 : decode cX1_copy 11 = .ok (.invokevirtual 23, 3) := by decide +kernel
theorem dX1_copy_14 : decode cX1_copy 14 = .ok (.pop, 1) := by decide +kernel
theorem dX1_copy_15 : decode cX1_copy 15 = .ok (.iconst 0, 1) := by decide +kernel
theorem dX1_copy_16 : decode cX1_copy 16 = .ok (.istore_n 2, 1) := by decide +kernel
theorem dX1_copy_17 : decode cX1_copy 17 = .ok (.iload_n 2, 1) := by decide +kernel
theorem dX1_copy_18 : decode cX1_copy 18 = .ok (.aload_n 1, 1) := by decide +kernel
theorem dX1_copy_19 : decode cX1_copy 19 = .ok (.getfield 7, 3) := by decide +kernel
theorem dX1_copy_22 : decode cX1_copy 22 = .ok (.if_icmp .ge 18, 3) := by decide +kernel
theorem dX1_copy_25 : decode cX1_copy 25 = .ok (.aload_n 0, 1) := by decide +kernel
theorem dX1_copy_26 : decode cX1_copy 26 = .ok (.aload_n 1, 1) := by decide +kernel
theorem dX1_copy_27 : decode cX1_copy 27 = .ok (.iload_n 2, 1) := by decide +kernel
theorem dX1_copy_28 : decode cX1_copy 28 = .ok (.invokevirtual 27, 3) := by decide +kernel
theorem dX1_copy_31 : decode cX1_copy 31 = .ok (.invokevirtual 31, 3) := by decide +kernel
theorem dX1_copy_34 : decode cX1_copy 34 = .ok (.iinc 2 1, 3) := by decide +kernel
theorem dX1_copy_37 : decode cX1_copy 37 = .ok (.goto (-20), 3) := by decide +kernel
theorem dX1_copy_40 : decode cX1_copy 40 = .ok (.return_, 1) := by decide +kernel
set_option maxRecDepth 20000 in
theorem ggX2_init_X1_init : GoodIn wsX2_init wsX1_init := goodIn_r _ [12, 13, 2, 3, 14, 15, 16, 17, 18, 19, 20, 21, 22] (by decide +kernel) (by decide +kernel)
set_option maxRecDepth 20000 in
theorem gX2_init_X1_init : GoodIn wsX2_init (wsX1_init) := ggX2_init_X1_init
theorem dX2_init_0 : decode cX2_init 0 = .ok (.aload_n 0, 1) := by decide +kernel
theorem dX2_init_1 : decode cX2_init 1 = .ok (.invokespecial 3, 3) := by decide +kernel
theorem dX2_init_4 : decode cX2_init 4 = .ok (.aload_n 0, 1) := by decide +kernel
theorem dX2_init_5 : decode cX2_init 5 = .ok (.new 9, 3) := by decide +kernel
theorem dX2_init_8 : decode cX2_init 8 = .ok (.dup, 1) := by decide +kernel
theorem dX2_init_9 : decode cX2_init 9 = .ok (.sipush 200, 3) := by decide +kernel
theorem dX2_init_12 : decode cX2_init 12 = .ok (.invokespecial 11, 3) := by decide +kernel
theorem dX2_init_15 : decode cX2_init 15 = .ok (.putfield 14, 3) := by decide +kernel
theorem dX2_init_18 : decode cX2_init 18 = .ok (.aload_n 0, 1) := by decide +kernel
theorem dX2_init_19 : decode cX2_init 19 = .ok (.new 9, 3) := by decide +kernel
theorem dX2_init_22 : decode cX2_init 22 = .ok (.dup, 1) := by decide +kernel
theorem dX2_init_23 : decode cX2_init 23 = .ok (.bipush 20, 2) := by decide +kernel
theorem dX2_init_25 : decode cX2_init 25 = .ok (.invokespecial 11, 3) := by decide +kernel
theorem dX2_init_28 : decode cX2_init 28 = .ok (.putfield 20, 3) := by decide +kernel
theorem dX2_init_31 : decode cX2_init 31 = .ok (.aload_n 0, 1) := by decide +kernel
theorem dX2_init_32 : decode cX2_init 32 = .ok (.new 9, 3) := by decide +kernel
theorem dX2_init_35 : decode cX2_init 35 = .ok (.dup, 1) := by decide +kernel
theorem dX2_init_36 : decode cX2_init 36 = .ok (.bipush 20, 2) := by decide +kernel
theorem dX2_init_38 : decode cX2_init 38 = .ok (.invokespecial 11, 3) := by decide +kernel
theorem dX2_init_41 : decode cX2_init 41 = .ok (.putfield 23, 3) := by decide +kernel
theorem dX2_init_44 : decode cX2_init 44 = .ok (.return_, 1) := by decide +kernel
set_option maxRecDepth 20000 in
theorem ggX2_read_X2_begin : GoodIn wsX2_read wsX2_begin := goodIn_r _ [8, 9, 10, 11, 12, 13, 14, 15, 16, 2, 17, 18, 19, 20, 21, 22, 23, 163, 164, 165, 166, 167, 168, 169, 170, 171, 172, 173, 174, 175, 176, 177, 178, 179] (by decide +kernel) (by decide +kernel)
set_option maxRecDepth 20000 in
theorem gX2_read_X2_begin : GoodIn wsX2_read (wsV RX2 26 RX2 yX2_begin wsX2_begin) := goodIn_app (goodIn_of _ (by decide +kernel)) ggX2_read_X2_begin
set_option maxRecDepth 20000 in
theorem ggX2_read_X2_step : GoodIn wsX2_read wsX2_step := goodIn_r _ [27, 16, 3, 28, 29, 1, 30, 31, 32, 33, 21, 34, 23, 35, 36, 37, 38, 39, 40, 41, 42, 7, 43, 44, 45, 46, 47, 48, 49, 50, 51, 52, 53, 54, 55, 56, 57, 58, 59, 60, 61, 62, 63, 64, 65, 66, 67, 68, 69, 70, 71, 72, 73, 74, 75, 76, 77, 78, 79, 80, 81, 82, 83, 84, 85, 86, 87, 88, 89, 90, 91, 92, 93, 94, 95, 96, 97, 98, 99, 100, 101, 102, 103, 104, 105, 106, 107, 108, 109, 110, 111, 112, 113, 114, 115, 116, 117, 163, 164, 165, 166, 167, 168, 169, 170, 171, 172, 173, 174, 175, 176, 177, 178, 179] (by decide +kernel) (by decide +kernel)
set_option maxRecDepth 20000 in
theorem gX2_read_X2_step : GoodIn wsX2_read (wsV RX2 29 RX2 yX2_step wsX2_step) := goodIn_app (goodIn_of _ (by decide +kernel)) ggX2_read_X2_step
set_option maxRecDepth 20000 in
theorem ggX2_read_X2_takesToken : GoodIn wsX2_read wsX2_takesToken := goodIn_r _ [121, 2, 1, 122, 123, 124, 7, 125, 126, 17, 127, 128, 129, 130, 13, 131, 132, 133, 21, 134, 23, 39, 135, 136, 137, 138, 139, 140, 141, 142, 113, 9, 10, 11, 12, 143, 144, 145, 146, 147, 148, 149, 150, 14, 31, 32, 33, 34, 151, 152, 153, 154, 155, 156, 157, 158, 35, 36, 37, 38, 159, 160, 161, 162, 15, 163, 164, 165, 166, 167, 168, 169, 170, 171, 172, 173, 174, 175, 176, 177, 178, 179] (by decide +kernel) (by decide +kernel)
set_option maxRecDepth 20000 in
theorem gX2_read_X2_takesToken : GoodIn wsX2_read (wsV RX2 39 RX2 yX2_takesToken wsX2_takesToken) := goodIn_app (goodIn_of _ (by decide +kernel)) ggX2_read_X2_takesToken
theorem dX2_read_0 : decode cX2_read 0 = .ok (.aload_n 0, 1) := by decide +kernel
theorem dX2_read_1 : decode cX2_read 1 = .ok (.invokevirtual 26, 3) := by decide +kernel
theorem dX2_read_4 : decode cX2_read 4 = .ok (.iconst 0, 1) := by decide +kernel
theorem dX2_read_5 : decode cX2_read 5 = .ok (.istore_n 1, 1) := by decide +kernel
theorem dX2_read_6 : decode cX2_read 6 = .ok (.iload_n 1, 1) := by decide +kernel
theorem dX2_read_7 : decode cX2_read 7 = .ok (.sipush 200, 3) := by decide +kernel
theorem dX2_read_10 : decode cX2_read 10 = .ok (.if_icmp .gt 44, 3) := by decide +kernel
theorem dX2_read_13 : decode cX2_read 13 = .ok (.aload_n 0, 1) := by decide +kernel
theorem dX2_read_14 : decode cX2_read 14 = .ok (.invokevirtual 29, 3) := by decide +kernel
theorem dX2_read_17 : decode cX2_read 17 = .ok (.aload_n 0, 1) := by decide +kernel
theorem dX2_read_18 : decode cX2_read 18 = .ok (.getfield 32, 3) := by decide +kernel
theorem dX2_read_21 : decode cX2_read 21 = .ok (.bipush 7, 2) := by decide +kernel
theorem dX2_read_23 : decode cX2_read 23 = .ok (.if_icmp .ne 13, 3) := by decide +kernel
theorem dX2_read_26 : decode cX2_read 26 = .ok (.aload_n 0, 1) := by decide +kernel
theorem dX2_read_27 : decode cX2_read 27 = .ok (.getfield 36, 3) := by decide +kernel
theorem dX2_read_30 : decode cX2_read 30 = .ok (.ifCond .ne 6, 3) := by decide +kernel
theorem dX2_read_33 : decode cX2_read 33 = .ok (.bipush (-9), 2) := by decide +kernel
theorem dX2_read_35 : decode cX2_read 35 = .ok (.ireturn, 1) := by decide +kernel
theorem dX2_read_36 : decode cX2_read 36 = .ok (.aload_n 0, 1) := by decide +kernel
theorem dX2_read_37 : decode cX2_read 37 = .ok (.invokevirtual 39, 3) := by decide +kernel
theorem dX2_read_40 : decode cX2_read 40 = .ok (.ifCond .ne 8, 3) := by decide +kernel
theorem dX2_read_43 : decode cX2_read 43 = .ok (.aload_n 0, 1) := by decide +kernel
theorem dX2_read_44 : decode cX2_read 44 = .ok (.getfield 43, 3) := by decide +kernel
theorem dX2_read_47 : decode cX2_read 47 = .ok (.ireturn, 1) := by decide +kernel
theorem dX2_read_48 : decode cX2_read 48 = .ok (.iinc 1 1, 3) := by decide +kernel
theorem dX2_read_51 : decode cX2_read 51 = .ok (.goto (-45), 3) := by decide +kernel
theorem dX2_read_54 : decode cX2_read 54 = .ok (.aload_n 0, 1) := by decide +kernel
theorem dX2_read_55 : decode cX2_read 55 = .ok (.getfield 43, 3) := by decide +kernel
theorem dX2_read_58 : decode cX2_read 58 = .ok (.ireturn, 1) := by decide +kernel
set_option maxRecDepth 20000 in
theorem ggX2_begin_X1_empty : GoodIn wsX2_begin wsX1_empty := goodIn_r _ [15, 16, 32, 33] (by decide +kernel) (by decide +kernel)
set_option maxRecDepth 20000 in
theorem gX2_begin_X1_empty : GoodIn wsX2_begin (wsV RX2 58 RX1 yX1_empty wsX1_empty) := goodIn_app (goodIn_of _ (by decide +kernel)) ggX2_begin_X1_empty
theorem dX2_begin_0 : decode cX2_begin 0 = .ok (.aload_n 0, 1) := by decide +kernel
theorem dX2_begin_1 : decode cX2_begin 1 = .ok (.iconst 5, 1) := by decide +kernel
theorem dX2_begin_2 : decode cX2_begin 2 = .ok (.putfield 46, 3) := by decide +kernel
theorem dX2_begin_5 : decode cX2_begin 5 = .ok (.aload_n 0, 1) := by decide +kernel
theorem dX2_begin_6 : decode cX2_begin 6 = .ok (.iconst 1, 1) := by decide +kernel
theorem dX2_begin_7 : decode cX2_begin 7 = .ok (.putfield 49, 3) := by decide +kernel
theorem dX2_begin_10 : decode cX2_begin 10 = .ok (.aload_n 0, 1) := by decide +kernel
theorem dX2_begin_11 : decode cX2_begin 11 = .ok (.iconst 0, 1) := by decide +kernel
theorem dX2_begin_12 : decode cX2_begin 12 = .ok (.putfield 52, 3) := by decide +kernel
theorem dX2_begin_15 : decode cX2_begin 15 = .ok (.aload_n 0, 1) := by decide +kernel
theorem dX2_begin_16 : decode cX2_begin 16 = .ok (.iconst 0, 1) := by decide +kernel
theorem dX2_begin_17 : decode cX2_begin 17 = .ok (.putfield 55, 3) := by decide +kernel
theorem dX2_begin_20 : decode cX2_begin 20 = .ok (.aload_n 0, 1) := by decide +kernel
theorem dX2_begin_21 : decode cX2_begin 21 = .ok (.getfield 20, 3) := by decide +kernel
theorem dX2_begin_24 : decode cX2_begin 24 = .ok (.invokevirtual 58, 3) := by decide +kernel
theorem dX2_begin_27 : decode cX2_begin 27 = .ok (.pop, 1) := by decide +kernel
theorem dX2_begin_28 : decode cX2_begin 28 = .ok (.aload_n 0, 1) := by decide +kernel
theorem dX2_begin_29 : decode cX2_begin 29 = .ok (.getfield 23, 3) := by decide +kernel
theorem dX2_begin_32 : decode cX2_begin 32 = .ok (.invokevirtual 58, 3) := by decide +kernel
theorem dX2_begin_35 : decode cX2_begin 35 = .ok (.pop, 1) := by decide +kernel
theorem dX2_begin_36 : decode cX2_begin 36 = .ok (.aload_n 0, 1) := by decide +kernel
theorem dX2_begin_37 : decode cX2_begin 37 = .ok (.iconst 0, 1) := by decide +kernel
theorem dX2_begin_38 : decode cX2_begin 38 = .ok (.putfield 62, 3) := by decide +kernel
theorem dX2_begin_41 : decode cX2_begin 41 = .ok (.aload_n 0, 1) := by decide +kernel
theorem dX2_begin_42 : decode cX2_begin 42 = .ok (.iconst 0, 1) := by decide +kernel
theorem dX2_begin_43 : decode cX2_begin 43 = .ok (.putfield 65, 3) := by decide +kernel
theorem dX2_begin_46 : decode cX2_begin 46 = .ok (.aload_n 0, 1) := by decide +kernel
theorem dX2_begin_47 : decode cX2_begin 47 = .ok (.iconst 0, 1) := by decide +kernel
theorem dX2_begin_48 : decode cX2_begin 48 = .ok (.putfield 36, 3) := by decide +kernel
theorem dX2_begin_51 : decode cX2_begin 51 = .ok (.aload_n 0, 1) := by decide +kernel
theorem dX2_begin_52 : decode cX2_begin 52 = .ok (.iconst 0, 1) := by decide +kernel
theorem dX2_begin_53 : decode cX2_begin 53 = .ok (.putfield 68, 3) := by decide +kernel
theorem dX2_begin_56 : decode cX2_begin 56 = .ok (.return_, 1) := by decide +kernel
set_option maxRecDepth 20000 in
theorem ggX2_step_X1_size : GoodIn wsX2_step wsX1_size := goodIn_r _ [11, 12, 112, 113] (by decide +kernel) (by decide +kernel)
set_option maxRecDepth 20000 in
theorem gX2_step_X1_size : GoodIn wsX2_step (wsV RX2 71 RX1 yX1_size wsX1_size) := goodIn_app (goodIn_of _ (by decide +kernel)) ggX2_step_X1_size
set_option maxRecDepth 20000 in
theorem ggX2_step_X1_at : GoodIn wsX2_step wsX1_at := goodIn_r _ [16, 17, 112, 113] (by decide +kernel) (by decide +kernel)
set_option maxRecDepth 20000 in
theorem gX2_step_X1_at : GoodIn wsX2_step (wsV RX2 74 RX1 yX1_at wsX1_at) := goodIn_app (goodIn_of _ (by decide +kernel)) ggX2_step_X1_at
set_option maxRecDepth 20000 in
theorem ggX2_step_X2_isLetter : GoodIn wsX2_step wsX2_isLetter := goodIn_r _ [22, 3, 23, 24, 7, 8, 9, 10, 11, 12, 13, 14, 15, 16, 17, 97, 98, 99, 100, 101, 102, 103, 104, 105, 106, 107, 108, 109, 110, 111, 112, 113] (by decide +kernel) (by decide +kernel)
set_option maxRecDepth 20000 in
theorem gX2_step_X2_isLetter : GoodIn wsX2_step (wsV RX2 82 RX2 yX2_isLetter wsX2_isLetter) := goodIn_app (goodIn_of _ (by decide +kernel)) ggX2_step_X2_isLetter
set_option maxRecDepth 20000 in
theorem ggX2_step_X2_wordHere : GoodIn wsX2_step wsX2_wordHere := goodIn_r _ [28, 1, 18, 19, 20, 21, 22, 3, 23, 24, 7, 8, 9, 10, 11, 12, 13, 14, 15, 16, 17, 29, 30, 31, 32, 2, 33, 34, 35, 36, 37, 38, 39, 40, 41, 42, 43, 44, 45, 46, 47, 48, 49, 50, 51, 52, 53, 54, 55, 56, 57, 58, 59, 60, 61, 62, 63, 64, 65, 66, 67, 68, 69, 70, 71, 72, 73, 74, 75, 76, 77, 78, 79, 80, 81, 97, 98, 99, 100, 101, 102, 103, 104, 105, 106, 107, 108, 109, 110, 111, 112, 113] (by decide +kernel) (by decide +kernel)
set_option maxRecDepth 20000 in
theorem gX2_step_X2_wordHere : GoodIn wsX2_step (wsV RX2 86 RX2 yX2_wordHere wsX2_wordHere) := goodIn_app (goodIn_of _ (by decide +kernel)) ggX2_step_X2_wordHere
set_option maxRecDepth 20000 in
theorem ggX2_step_X2_isDigit : GoodIn wsX2_step wsX2_isDigit := goodIn_r _ [85, 3, 86, 87, 7, 8, 9, 10, 11, 12, 13, 14, 15, 16, 17, 97, 98, 99, 100, 101, 102, 103, 104, 105, 106, 107, 108, 109, 110, 111, 112, 113] (by decide +kernel) (by decide +kernel)
set_option maxRecDepth 20000 in
theorem gX2_step_X2_isDigit : GoodIn wsX2_step (wsV RX2 89 RX2 yX2_isDigit wsX2_isDigit) := goodIn_app (goodIn_of _ (by decide +kernel)) ggX2_step_X2_isDigit
set_option maxRecDepth 20000 in
theorem ggX2_step_X2_numberHere : GoodIn wsX2_step wsX2_numberHere := goodIn_r _ [91, 3, 2, 92, 1, 93, 94, 95, 96, 86, 13, 14, 15, 10, 16, 17, 82, 83, 84, 21, 85, 87, 7, 8, 9, 11, 12, 97, 98, 99, 100, 101, 102, 103, 104, 105, 106, 107, 108, 109, 110, 111, 112, 113] (by decide +kernel) (by decide +kernel)
set_option maxRecDepth 20000 in
theorem gX2_step_X2_numberHere : GoodIn wsX2_step (wsV RX2 92 RX2 yX2_numberHere wsX2_numberHere) := goodIn_app (goodIn_of _ (by decide +kernel)) ggX2_step_X2_numberHere
theorem dX2_step_0 : decode cX2_step 0 = .ok (.aload_n 0, 1) := by decide +kernel
theorem dX2_step_1 : decode cX2_step 1 = .ok (.aload_n 0, 1) := by decide +kernel
theorem dX2_step_2 : decode cX2_step 2 = .ok (.getfield 65, 3) := by decide +kernel
theorem dX2_step_5 : decode cX2_step 5 = .ok (.putfield 43, 3) := by decide +kernel
theorem dX2_step_8 : decode cX2_step 8 = .ok (.aload_n 0, 1) := by decide +kernel
theorem dX2_step_9 : decode cX2_step 9 = .ok (.getfield 43, 3) := by decide +kernel
theorem dX2_step_12 : decode cX2_step 12 = .ok (.aload_n 0, 1) := by decide +kernel
theorem dX2_step_13 : decode cX2_step 13 = .ok (.getfield 14, 3) := by decide +kernel
theorem dX2_step_16 : decode cX2_step 16 = .ok (.invokevirtual 71, 3) := by decide +kernel
theorem dX2_step_19 : decode cX2_step 19 = .ok (.if_icmp .ge 34, 3) := by decide +kernel
theorem dX2_step_22 : decode cX2_step 22 = .ok (.aload_n 0, 1) := by decide +kernel
theorem dX2_step_23 : decode cX2_step 23 = .ok (.getfield 14, 3) := by decide +kernel
theorem dX2_step_26 : decode cX2_step 26 = .ok (.aload_n 0, 1) := by decide +kernel
theorem dX2_step_27 : decode cX2_step 27 = .ok (.getfield 43, 3) := by decide +kernel
theorem dX2_step_30 : decode cX2_step 30 = .ok (.invokevirtual 74, 3) := by decide +kernel
theorem dX2_step_33 : decode cX2_step 33 = .ok (.ldc2_w 78, 3) := by decide +kernel
theorem dX2_step_36 : decode cX2_step 36 = .ok (.lcmp, 1) := by decide +kernel
theorem dX2_step_37 : decode cX2_step 37 = .ok (.ifCond .ne 16, 3) := by decide +kernel
theorem dX2_step_40 : decode cX2_step 40 = .ok (.aload_n 0, 1) := by decide +kernel
theorem dX2_step_41 : decode cX2_step 41 = .ok (.dup, 1) := by decide +kernel
theorem dX2_step_42 : decode cX2_step 42 = .ok (.getfield 43, 3) := by decide +kernel
theorem dX2_step_45 : decode cX2_step 45 = .ok (.iconst 1, 1) := by decide +kernel
theorem dX2_step_46 : decode cX2_step 46 = .ok (.iadd, 1) := by decide +kernel
theorem dX2_step_47 : decode cX2_step 47 = .ok (.putfield 43, 3) := by decide +kernel
theorem dX2_step_50 : decode cX2_step 50 = .ok (.goto (-42), 3) := by decide +kernel
theorem dX2_step_53 : decode cX2_step 53 = .ok (.aload_n 0, 1) := by decide +kernel
theorem dX2_step_54 : decode cX2_step 54 = .ok (.aload_n 0, 1) := by decide +kernel
theorem dX2_step_55 : decode cX2_step 55 = .ok (.getfield 43, 3) := by decide +kernel
theorem dX2_step_58 : decode cX2_step 58 = .ok (.iconst 1, 1) := by decide +kernel
theorem dX2_step_59 : decode cX2_step 59 = .ok (.iadd, 1) := by decide +kernel
theorem dX2_step_60 : decode cX2_step 60 = .ok (.putfield 65, 3) := by decide +kernel
theorem dX2_step_63 : decode cX2_step 63 = .ok (.aload_n 0, 1) := by decide +kernel
theorem dX2_step_64 : decode cX2_step 64 = .ok (.getfield 43, 3) := by decide +kernel
theorem dX2_step_67 : decode cX2_step 67 = .ok (.aload_n 0, 1) := by decide +kernel
theorem dX2_step_68 : decode cX2_step 68 = .ok (.getfield 14, 3) := by decide +kernel
theorem dX2_step_71 : decode cX2_step 71 = .ok (.invokevirtual 71, 3) := by decide +kernel
theorem dX2_step_74 : decode cX2_step 74 = .ok (.if_icmp .lt 12, 3) := by decide +kernel
theorem dX2_step_77 : decode cX2_step 77 = .ok (.aload_n 0, 1) := by decide +kernel
theorem dX2_step_78 : decode cX2_step 78 = .ok (.bipush 7, 2) := by decide +kernel
theorem dX2_step_80 : decode cX2_step 80 = .ok (.putfield 32, 3) := by decide +kernel
theorem dX2_step_83 : decode cX2_step 83 = .ok (.goto 80, 3) := by decide +kernel
theorem dX2_step_86 : decode cX2_step 86 = .ok (.aload_n 0, 1) := by decide +kernel
theorem dX2_step_87 : decode cX2_step 87 = .ok (.getfield 14, 3) := by decide +kernel
theorem dX2_step_90 : decode cX2_step 90 = .ok (.aload_n 0, 1) := by decide +kernel
theorem dX2_step_91 : decode cX2_step 91 = .ok (.getfield 43, 3) := by decide +kernel
theorem dX2_step_94 : decode cX2_step 94 = .ok (.invokevirtual 74, 3) := by decide +kernel
theorem dX2_step_97 : decode cX2_step 97 = .ok (.ldc2_w 80, 3) := by decide +kernel
theorem dX2_step_100 : decode cX2_step 100 = .ok (.lcmp, 1) := by decide +kernel
theorem dX2_step_101 : decode cX2_step 101 = .ok (.ifCond .ne 12, 3) := by decide +kernel
theorem dX2_step_104 : decode cX2_step 104 = .ok (.aload_n 0, 1) := by decide +kernel
theorem dX2_step_105 : decode cX2_step 105 = .ok (.bipush 6, 2) := by decide +kernel
theorem dX2_step_107 : decode cX2_step 107 = .ok (.putfield 32, 3) := by decide +kernel
theorem dX2_step_110 : decode cX2_step 110 = .ok (.goto 53, 3) := by decide +kernel
theorem dX2_step_113 : decode cX2_step 113 = .ok (.aload_n 0, 1) := by decide +kernel
theorem dX2_step_114 : decode cX2_step 114 = .ok (.aload_n 0, 1) := by decide +kernel
theorem dX2_step_115 : decode cX2_step 115 = .ok (.getfield 43, 3) := by decide +kernel
theorem dX2_step_118 : decode cX2_step 118 = .ok (.invokevirtual 82, 3) := by decide +kernel
theorem dX2_step_121 : decode cX2_step 121 = .ok (.ifCond .eq 14, 3) := by decide +kernel
theorem dX2_step_124 : decode cX2_step 124 = .ok (.aload_n 0, 1) := by decide +kernel
theorem dX2_step_125 : decode cX2_step 125 = .ok (.aload_n 0, 1) := by decide +kernel
theorem dX2_step_126 : decode cX2_step 126 = .ok (.invokevirtual 86, 3) := by decide +kernel
theorem dX2_step_129 : decode cX2_step 129 = .ok (.putfield 32, 3) := by decide +kernel
theorem dX2_step_132 : decode cX2_step 132 = .ok (.goto 31, 3) := by decide +kernel
theorem dX2_step_135 : decode cX2_step 135 = .ok (.aload_n 0, 1) := by decide +kernel
theorem dX2_step_136 : decode cX2_step 136 = .ok (.aload_n 0, 1) := by decide +kernel
theorem dX2_step_137 : decode cX2_step 137 = .ok (.getfield 43, 3) := by decide +kernel
theorem dX2_step_140 : decode cX2_step 140 = .ok (.invokevirtual 89, 3) := by decide +kernel
theorem dX2_step_143 : decode cX2_step 143 = .ok (.ifCond .eq 14, 3) := by decide +kernel
theorem dX2_step_146 : decode cX2_step 146 = .ok (.aload_n 0, 1) := by decide +kernel
theorem dX2_step_147 : decode cX2_step 147 = .ok (.aload_n 0, 1) := by decide +kernel
theorem dX2_step_148 : decode cX2_step 148 = .ok (.invokevirtual 92, 3) := by decide +kernel
theorem dX2_step_151 : decode cX2_step 151 = .ok (.putfield 32, 3) := by decide +kernel
theorem dX2_step_154 : decode cX2_step 154 = .ok (.goto 9, 3) := by decide +kernel
theorem dX2_step_157 : decode cX2_step 157 = .ok (.aload_n 0, 1) := by decide +kernel
theorem dX2_step_158 : decode cX2_step 158 = .ok (.bipush 8, 2) := by decide +kernel
theorem dX2_step_160 : decode cX2_step 160 = .ok (.putfield 32, 3) := by decide +kernel
theorem dX2_step_163 : decode cX2_step 163 = .ok (.return_, 1) := by decide +kernel
set_option maxRecDepth 20000 in
theorem ggX2_wordHere_X2_isLetter : GoodIn wsX2_wordHere wsX2_isLetter := goodIn_r _ [6, 7, 8, 9, 10, 11, 12, 13, 14, 15, 16, 17, 18, 19, 20, 75, 76, 77, 78, 79, 80, 81, 82, 83, 84, 85, 86, 87, 88, 89, 90, 91] (by decide +kernel) (by decide +kernel)
set_option maxRecDepth 20000 in
theorem gX2_wordHere_X2_isLetter : GoodIn wsX2_wordHere (wsV RX2 82 RX2 yX2_isLetter wsX2_isLetter) := goodIn_app (goodIn_of _ (by decide +kernel)) ggX2_wordHere_X2_isLetter
set_option maxRecDepth 20000 in
theorem ggX2_wordHere_X2_isHere : GoodIn wsX2_wordHere wsX2_isHere := goodIn_r _ [24, 1, 25, 7, 26, 27, 28, 29, 30, 31, 32, 33, 34, 35, 36, 37, 38, 39, 40, 41, 42, 43, 44, 45, 46, 47, 48, 49, 50, 51, 52, 53, 54, 55, 56, 57, 58, 59, 60, 61, 62, 63, 64, 65, 66, 67, 68, 69, 70, 71, 72, 73, 74, 16, 17, 18, 13, 19, 20, 75, 76, 77, 78, 79, 80, 81, 82, 83, 84, 85, 86, 87, 88, 89, 90, 91] (by decide +kernel) (by decide +kernel)
set_option maxRecDepth 20000 in
theorem gX2_wordHere_X2_isHere : GoodIn wsX2_wordHere (wsV RX2 97 RX2 yX2_isHere wsX2_isHere) := goodIn_app (goodIn_of _ (by decide +kernel)) ggX2_wordHere_X2_isHere
theorem dX2_wordHere_0 : decode cX2_wordHere 0 = .ok (.aload_n 0, 1) := by decide +kernel
theorem dX2_wordHere_1 : decode cX2_wordHere 1 = .ok (.aload_n 0, 1) := by decide +kernel
theorem dX2_wordHere_2 : decode cX2_wordHere 2 = .ok (.getfield 65, 3) := by decide +kernel
theorem dX2_wordHere_5 : decode cX2_wordHere 5 = .ok (.invokevirtual 82, 3) := by decide +kernel
theorem dX2_wordHere_8 : decode cX2_wordHere 8 = .ok (.ifCond .eq 16, 3) := by decide +kernel
theorem dX2_wordHere_11 : decode cX2_wordHere 11 = .ok (.aload_n 0, 1) := by decide +kernel
theorem dX2_wordHere_12 : decode cX2_wordHere 12 = .ok (.dup, 1) := by decide +kernel
theorem dX2_wordHere_13 : decode cX2_wordHere 13 = .ok (.getfield 65, 3) := by decide +kernel
theorem dX2_wordHere_16 : decode cX2_wordHere 16 = .ok (.iconst 1, 1) := by decide +kernel
theorem dX2_wordHere_17 : decode cX2_wordHere 17 = .ok (.iadd, 1) := by decide +kernel
theorem dX2_wordHere_18 : decode cX2_wordHere 18 = .ok (.putfield 65, 3) := by decide +kernel
theorem dX2_wordHere_21 : decode cX2_wordHere 21 = .ok (.goto (-21), 3) := by decide +kernel
theorem dX2_wordHere_24 : decode cX2_wordHere 24 = .ok (.aload_n 0, 1) := by decide +kernel
theorem dX2_wordHere_25 : decode cX2_wordHere 25 = .ok (.ldc 95, 2) := by decide +kernel
theorem dX2_wordHere_27 : decode cX2_wordHere 27 = .ok (.invokevirtual 97, 3) := by decide +kernel
theorem dX2_wordHere_30 : decode cX2_wordHere 30 = .ok (.ifCond .eq 5, 3) := by decide +kernel
theorem dX2_wordHere_33 : decode cX2_wordHere 33 = .ok (.iconst 0, 1) := by decide +kernel
theorem dX2_wordHere_34 : decode cX2_wordHere 34 = .ok (.ireturn, 1) := by decide +kernel
theorem dX2_wordHere_35 : decode cX2_wordHere 35 = .ok (.aload_n 0, 1) := by decide +kernel
theorem dX2_wordHere_36 : decode cX2_wordHere 36 = .ok (.ldc 101, 2) := by decide +kernel
theorem dX2_wordHere_38 : decode cX2_wordHere 38 = .ok (.invokevirtual 97, 3) := by decide +kernel
theorem dX2_wordHere_41 : decode cX2_wordHere 41 = .ok (.ifCond .eq 5, 3) := by decide +kernel
theorem dX2_wordHere_44 : decode cX2_wordHere 44 = .ok (.iconst 1, 1) := by decide +kernel
theorem dX2_wordHere_45 : decode cX2_wordHere 45 = .ok (.ireturn, 1) := by decide +kernel
theorem dX2_wordHere_46 : decode cX2_wordHere 46 = .ok (.aload_n 0, 1) := by decide +kernel
theorem dX2_wordHere_47 : decode cX2_wordHere 47 = .ok (.ldc 102, 2) := by decide +kernel
theorem dX2_wordHere_49 : decode cX2_wordHere 49 = .ok (.invokevirtual 97, 3) := by decide +kernel
theorem dX2_wordHere_52 : decode cX2_wordHere 52 = .ok (.ifCond .eq 5, 3) := by decide +kernel
theorem dX2_wordHere_55 : decode cX2_wordHere 55 = .ok (.iconst 2, 1) := by decide +kernel
theorem dX2_wordHere_56 : decode cX2_wordHere 56 = .ok (.ireturn, 1) := by decide +kernel
theorem dX2_wordHere_57 : decode cX2_wordHere 57 = .ok (.aload_n 0, 1) := by decide +kernel
theorem dX2_wordHere_58 : decode cX2_wordHere 58 = .ok (.ldc 103, 2) := by decide +kernel
theorem dX2_wordHere_60 : decode cX2_wordHere 60 = .ok (.invokevirtual 97, 3) := by decide +kernel
theorem dX2_wordHere_63 : decode cX2_wordHere 63 = .ok (.ifCond .eq 5, 3) := by decide +kernel
theorem dX2_wordHere_66 : decode cX2_wordHere 66 = .ok (.iconst 3, 1) := by decide +kernel
theorem dX2_wordHere_67 : decode cX2_wordHere 67 = .ok (.ireturn, 1) := by decide +kernel
theorem dX2_wordHere_68 : decode cX2_wordHere 68 = .ok (.aload_n 0, 1) := by decide +kernel
theorem dX2_wordHere_69 : decode cX2_wordHere 69 = .ok (.ldc 104, 2) := by decide +kernel
theorem dX2_wordHere_71 : decode cX2_wordHere 71 = .ok (.invokevirtual 97, 3) := by decide +kernel
theorem dX2_wordHere_74 : decode cX2_wordHere 74 = .ok (.ifCond .eq 7, 3) := by decide +kernel
theorem dX2_wordHere_77 : decode cX2_wordHere 77 = .ok (.iconst 4, 1) := by decide +kernel
theorem dX2_wordHere_78 : decode cX2_wordHere 78 = .ok (.goto 5, 3) := by decide +kernel
theorem dX2_wordHere_81 : decode cX2_wordHere 81 = .ok (.bipush 8, 2) := by decide +kernel
theorem dX2_wordHere_83 : decode cX2_wordHere 83 = .ok (.ireturn, 1) := by decide +kernel
set_option maxRecDepth 20000 in
theorem ggX2_isHere_J0_length_8abf5 : GoodIn wsX2_isHere wsJ0_length_8abf5 := goodIn_r _ [8, 9, 10, 11, 12, 7, 13, 14, 15] (by decide +kernel) (by decide +kernel)
set_option maxRecDepth 20000 in
theorem gX2_isHere_J0_length_8abf5 : GoodIn wsX2_isHere (wsV RX2 106 RJ0 yJ0_length_8abf5 wsJ0_length_8abf5) := goodIn_app (goodIn_of _ (by decide +kernel)) ggX2_isHere_J0_length_8abf5
set_option maxRecDepth 20000 in
theorem ggX2_isHere_J0_charAt_5068e : GoodIn wsX2_isHere wsJ0_charAt_5068e := goodIn_r _ [19, 9, 20, 21, 22, 7, 23, 14, 15, 24, 25, 26, 27, 28, 29, 30, 31, 32, 33, 34, 35, 36, 37, 38, 39, 40, 41, 42, 43, 44, 45, 46, 47, 48, 49, 50, 51, 52] (by decide +kernel) (by decide +kernel)
set_option maxRecDepth 20000 in
theorem gX2_isHere_J0_charAt_5068e : GoodIn wsX2_isHere (wsV RX2 111 RJ0 yJ0_charAt_5068e wsJ0_charAt_5068e) := goodIn_app (goodIn_of _ (by decide +kernel)) ggX2_isHere_J0_charAt_5068e
set_option maxRecDepth 20000 in
theorem ggX2_isHere_X1_at : GoodIn wsX2_isHere wsX1_at := goodIn_r _ [57, 58, 74, 75] (by decide +kernel) (by decide +kernel)
set_option maxRecDepth 20000 in
theorem gX2_isHere_X1_at : GoodIn wsX2_isHere (wsV RX2 74 RX1 yX1_at wsX1_at) := goodIn_app (goodIn_of _ (by decide +kernel)) ggX2_isHere_X1_at
theorem dX2_isHere_0 : decode cX2_isHere 0 = .ok (.aload_n 1, 1) := by decide +kernel
theorem dX2_isHere_1 : decode cX2_isHere 1 = .ok (.ifnull 19, 3) := by decide +kernel
theorem dX2_isHere_4 : decode cX2_isHere 4 = .ok (.aload_n 1, 1) := by decide +kernel
theorem dX2_isHere_5 : decode cX2_isHere 5 = .ok (.invokevirtual 106, 3) := by decide +kernel
theorem dX2_isHere_8 : decode cX2_isHere 8 = .ok (.aload_n 0, 1) := by decide +kernel
theorem dX2_isHere_9 : decode cX2_isHere 9 = .ok (.getfield 65, 3) := by decide +kernel
theorem dX2_isHere_12 : decode cX2_isHere 12 = .ok (.aload_n 0, 1) := by decide +kernel
theorem dX2_isHere_13 : decode cX2_isHere 13 = .ok (.getfield 43, 3) := by decide +kernel
theorem dX2_isHere_16 : decode cX2_isHere 16 = .ok (.isub, 1) := by decide +kernel
theorem dX2_isHere_17 : decode cX2_isHere 17 = .ok (.if_icmp .eq 5, 3) := by decide +kernel
theorem dX2_isHere_20 : decode cX2_isHere 20 = .ok (.iconst 0, 1) := by decide +kernel
theorem dX2_isHere_21 : decode cX2_isHere 21 = .ok (.ireturn, 1) := by decide +kernel
theorem dX2_isHere_22 : decode cX2_isHere 22 = .ok (.iconst 0, 1) := by decide +kernel
theorem dX2_isHere_23 : decode cX2_isHere 23 = .ok (.istore_n 2, 1) := by decide +kernel
theorem dX2_isHere_24 : decode cX2_isHere 24 = .ok (.iload_n 2, 1) := by decide +kernel
theorem dX2_isHere_25 : decode cX2_isHere 25 = .ok (.aload_n 1, 1) := by decide +kernel
theorem dX2_isHere_26 : decode cX2_isHere 26 = .ok (.invokevirtual 106, 3) := by decide +kernel
theorem dX2_isHere_29 : decode cX2_isHere 29 = .ok (.if_icmp .ge 34, 3) := by decide +kernel
theorem dX2_isHere_32 : decode cX2_isHere 32 = .ok (.aload_n 1, 1) := by decide +kernel
theorem dX2_isHere_33 : decode cX2_isHere 33 = .ok (.iload_n 2, 1) := by decide +kernel
theorem dX2_isHere_34 : decode cX2_isHere 34 = .ok (.invokevirtual 111, 3) := by decide +kernel
theorem dX2_isHere_37 : decode cX2_isHere 37 = .ok (.i2l, 1) := by decide +kernel
theorem dX2_isHere_38 : decode cX2_isHere 38 = .ok (.aload_n 0, 1) := by decide +kernel
theorem dX2_isHere_39 : decode cX2_isHere 39 = .ok (.getfield 14, 3) := by decide +kernel
theorem dX2_isHere_42 : decode cX2_isHere 42 = .ok (.aload_n 0, 1) := by decide +kernel
theorem dX2_isHere_43 : decode cX2_isHere 43 = .ok (.getfield 43, 3) := by decide +kernel
theorem dX2_isHere_46 : decode cX2_isHere 46 = .ok (.iload_n 2, 1) := by decide +kernel
theorem dX2_isHere_47 : decode cX2_isHere 47 = .ok (.iadd, 1) := by decide +kernel
theorem dX2_isHere_48 : decode cX2_isHere 48 = .ok (.invokevirtual 74, 3) := by decide +kernel
theorem dX2_isHere_51 : decode cX2_isHere 51 = .ok (.lcmp, 1) := by decide +kernel
theorem dX2_isHere_52 : decode cX2_isHere 52 = .ok (.ifCond .eq 5, 3) := by decide +kernel
theorem dX2_isHere_55 : decode cX2_isHere 55 = .ok (.iconst 0, 1) := by decide +kernel
theorem dX2_isHere_56 : decode cX2_isHere 56 = .ok (.ireturn, 1) := by decide +kernel
theorem dX2_isHere_57 : decode cX2_isHere 57 = .ok (.iinc 2 1, 3) := by decide +kernel
theorem dX2_isHere_60 : decode cX2_isHere 60 = .ok (.goto (-36), 3) := by decide +kernel
theorem dX2_isHere_63 : decode cX2_isHere 63 = .ok (.iconst 1, 1) := by decide +kernel
theorem dX2_isHere_64 : decode cX2_isHere 64 = .ok (.ireturn, 1) := by decide +kernel
set_option maxRecDepth 20000 in
theorem ggX2_numberHere_X1_at : GoodIn wsX2_numberHere wsX1_at := goodIn_r _ [14, 15, 42, 43] (by decide +kernel) (by decide +kernel)
set_option maxRecDepth 20000 in
theorem gX2_numberHere_X1_at : GoodIn wsX2_numberHere (wsV RX2 74 RX1 yX1_at wsX1_at) := goodIn_app (goodIn_of _ (by decide +kernel)) ggX2_numberHere_X1_at
set_option maxRecDepth 20000 in
theorem ggX2_numberHere_X2_isDigit : GoodIn wsX2_numberHere wsX2_isDigit := goodIn_r _ [20, 1, 9, 21, 22, 23, 24, 13, 25, 26, 10, 11, 12, 14, 15, 27, 28, 29, 30, 31, 32, 33, 34, 35, 36, 37, 38, 39, 40, 41, 42, 43] (by decide +kernel) (by decide +kernel)
set_option maxRecDepth 20000 in
theorem gX2_numberHere_X2_isDigit : GoodIn wsX2_numberHere (wsV RX2 89 RX2 yX2_isDigit wsX2_isDigit) := goodIn_app (goodIn_of _ (by decide +kernel)) ggX2_numberHere_X2_isDigit
theorem dX2_numberHere_0 : decode cX2_numberHere 0 = .ok (.aload_n 0, 1) := by decide +kernel
theorem dX2_numberHere_1 : decode cX2_numberHere 1 = .ok (.aload_n 0, 1) := by decide +kernel
theorem dX2_numberHere_2 : decode cX2_numberHere 2 = .ok (.getfield 14, 3) := by decide +kernel
theorem dX2_numberHere_5 : decode cX2_numberHere 5 = .ok (.aload_n 0, 1) := by decide +kernel
theorem dX2_numberHere_6 : decode cX2_numberHere 6 = .ok (.getfield 43, 3) := by decide +kernel
theorem dX2_numberHere_9 : decode cX2_numberHere 9 = .ok (.invokevirtual 74, 3) := by decide +kernel
theorem dX2_numberHere_12 : decode cX2_numberHere 12 = .ok (.l2i, 1) := by decide +kernel
theorem dX2_numberHere_13 : decode cX2_numberHere 13 = .ok (.bipush 48, 2) := by decide +kernel
theorem dX2_numberHere_15 : decode cX2_numberHere 15 = .ok (.isub, 1) := by decide +kernel
theorem dX2_numberHere_16 : decode cX2_numberHere 16 = .ok (.putfield 115, 3) := by decide +kernel
theorem dX2_numberHere_19 : decode cX2_numberHere 19 = .ok (.aload_n 0, 1) := by decide +kernel
theorem dX2_numberHere_20 : decode cX2_numberHere 20 = .ok (.aload_n 0, 1) := by decide +kernel
theorem dX2_numberHere_21 : decode cX2_numberHere 21 = .ok (.getfield 65, 3) := by decide +kernel
theorem dX2_numberHere_24 : decode cX2_numberHere 24 = .ok (.invokevirtual 89, 3) := by decide +kernel
theorem dX2_numberHere_27 : decode cX2_numberHere 27 = .ok (.ifCond .eq 48, 3) := by decide +kernel
theorem dX2_numberHere_30 : decode cX2_numberHere 30 = .ok (.aload_n 0, 1) := by decide +kernel
theorem dX2_numberHere_31 : decode cX2_numberHere 31 = .ok (.aload_n 0, 1) := by decide +kernel
theorem dX2_numberHere_32 : decode cX2_numberHere 32 = .ok (.getfield 115, 3) := by decide +kernel
theorem dX2_numberHere_35 : decode cX2_numberHere 35 = .ok (.bipush 10, 2) := by decide +kernel
theorem dX2_numberHere_37 : decode cX2_numberHere 37 = .ok (.imul, 1) := by decide +kernel
theorem dX2_numberHere_38 : decode cX2_numberHere 38 = .ok (.aload_n 0, 1) := by decide +kernel
theorem dX2_numberHere_39 : decode cX2_numberHere 39 = .ok (.getfield 14, 3) := by decide +kernel
theorem dX2_numberHere_42 : decode cX2_numberHere 42 = .ok (.aload_n 0, 1) := by decide +kernel
theorem dX2_numberHere_43 : decode cX2_numberHere 43 = .ok (.getfield 65, 3) := by decide +kernel
theorem dX2_numberHere_46 : decode cX2_numberHere 46 = .ok (.invokevirtual 74, 3) := by decide +kernel
theorem dX2_numberHere_49 : decode cX2_numberHere 49 = .ok (.l2i, 1) := by decide +kernel
theorem dX2_numberHere_50 : decode cX2_numberHere 50 = .ok (.iadd, 1) := by decide +kernel
theorem dX2_numberHere_51 : decode cX2_numberHere 51 = .ok (.bipush 48, 2) := by decide +kernel
theorem dX2_numberHere_53 : decode cX2_numberHere 53 = .ok (.isub, 1) := by decide +kernel
theorem dX2_numberHere_54 : decode cX2_numberHere 54 = .ok (.bipush 100, 2) := by decide +kernel
theorem dX2_numberHere_56 : decode cX2_numberHere 56 = .ok (.invokestatic 118, 3) := by decide +kernel
theorem dX2_numberHere_59 : decode cX2_numberHere 59 = .ok (.putfield 115, 3) := by decide +kernel
theorem dX2_numberHere_62 : decode cX2_numberHere 62 = .ok (.aload_n 0, 1) := by decide +kernel
theorem dX2_numberHere_63 : decode cX2_numberHere 63 = .ok (.dup, 1) := by decide +kernel
theorem dX2_numberHere_64 : decode cX2_numberHere 64 = .ok (.getfield 65, 3) := by decide +kernel
theorem dX2_numberHere_67 : decode cX2_numberHere 67 = .ok (.iconst 1, 1) := by decide +kernel
theorem dX2_numberHere_68 : decode cX2_numberHere 68 = .ok (.iadd, 1) := by decide +kernel
theorem dX2_numberHere_69 : decode cX2_numberHere 69 = .ok (.putfield 65, 3) := by decide +kernel
theorem dX2_numberHere_72 : decode cX2_numberHere 72 = .ok (.goto (-53), 3) := by decide +kernel
theorem dX2_numberHere_75 : decode cX2_numberHere 75 = .ok (.aload_n 0, 1) := by decide +kernel
theorem dX2_numberHere_76 : decode cX2_numberHere 76 = .ok (.getfield 14, 3) := by decide +kernel
theorem dX2_numberHere_79 : decode cX2_numberHere 79 = .ok (.aload_n 0, 1) := by decide +kernel
theorem dX2_numberHere_80 : decode cX2_numberHere 80 = .ok (.getfield 43, 3) := by decide +kernel
theorem dX2_numberHere_83 : decode cX2_numberHere 83 = .ok (.invokevirtual 74, 3) := by decide +kernel
theorem dX2_numberHere_86 : decode cX2_numberHere 86 = .ok (.ldc2_w 124, 3) := by decide +kernel
theorem dX2_numberHere_89 : decode cX2_numberHere 89 = .ok (.lcmp, 1) := by decide +kernel
theorem dX2_numberHere_90 : decode cX2_numberHere 90 = .ok (.ifCond .ne 20, 3) := by decide +kernel
theorem dX2_numberHere_93 : decode cX2_numberHere 93 = .ok (.aload_n 0, 1) := by decide +kernel
theorem dX2_numberHere_94 : decode cX2_numberHere 94 = .ok (.getfield 65, 3) := by decide +kernel
theorem dX2_numberHere_97 : decode cX2_numberHere 97 = .ok (.aload_n 0, 1) := by decide +kernel
theorem dX2_numberHere_98 : decode cX2_numberHere 98 = .ok (.getfield 43, 3) := by decide +kernel
theorem dX2_numberHere_101 : decode cX2_numberHere 101 = .ok (.isub, 1) := by decide +kernel
theorem dX2_numberHere_102 : decode cX2_numberHere 102 = .ok (.iconst 1, 1) := by decide +kernel
theorem dX2_numberHere_103 : decode cX2_numberHere 103 = .ok (.if_icmp .le 7, 3) := by decide +kernel
theorem dX2_numberHere_106 : decode cX2_numberHere 106 = .ok (.iconst 1, 1) := by decide +kernel
theorem dX2_numberHere_107 : decode cX2_numberHere 107 = .ok (.goto 4, 3) := by decide +kernel
theorem dX2_numberHere_110 : decode cX2_numberHere 110 = .ok (.iconst 0, 1) := by decide +kernel
theorem dX2_numberHere_111 : decode cX2_numberHere 111 = .ok (.istore_n 1, 1) := by decide +kernel
theorem dX2_numberHere_112 : decode cX2_numberHere 112 = .ok (.aload_n 0, 1) := by decide +kernel
theorem dX2_numberHere_113 : decode cX2_numberHere 113 = .ok (.getfield 115, 3) := by decide +kernel
theorem dX2_numberHere_116 : decode cX2_numberHere 116 = .ok (.bipush 99, 2) := by decide +kernel
theorem dX2_numberHere_118 : decode cX2_numberHere 118 = .ok (.if_icmp .gt 7, 3) := by decide +kernel
theorem dX2_numberHere_121 : decode cX2_numberHere 121 = .ok (.iload_n 1, 1) := by decide +kernel
theorem dX2_numberHere_122 : decode cX2_numberHere 122 = .ok (.ifCond .eq 8, 3) := by decide +kernel
theorem dX2_numberHere_125 : decode cX2_numberHere 125 = .ok (.bipush 8, 2) := by decide +kernel
theorem dX2_numberHere_127 : decode cX2_numberHere 127 = .ok (.goto 4, 3) := by decide +kernel
theorem dX2_numberHere_130 : decode cX2_numberHere 130 = .ok (.iconst 5, 1) := by decide +kernel
theorem dX2_numberHere_131 : decode cX2_numberHere 131 = .ok (.ireturn, 1) := by decide +kernel
set_option maxRecDepth 20000 in
theorem ggX2_isLetter_X1_size : GoodIn wsX2_isLetter wsX1_size := goodIn_r _ [8, 9, 30, 31] (by decide +kernel) (by decide +kernel)
set_option maxRecDepth 20000 in
theorem gX2_isLetter_X1_size : GoodIn wsX2_isLetter (wsV RX2 71 RX1 yX1_size wsX1_size) := goodIn_app (goodIn_of _ (by decide +kernel)) ggX2_isLetter_X1_size
set_option maxRecDepth 20000 in
theorem ggX2_isLetter_X1_at : GoodIn wsX2_isLetter wsX1_at := goodIn_r _ [13, 14, 30, 31] (by decide +kernel) (by decide +kernel)
set_option maxRecDepth 20000 in
theorem gX2_isLetter_X1_at : GoodIn wsX2_isLetter (wsV RX2 74 RX1 yX1_at wsX1_at) := goodIn_app (goodIn_of _ (by decide +kernel)) ggX2_isLetter_X1_at
theorem dX2_isLetter_0 : decode cX2_isLetter 0 = .ok (.iload_n 1, 1) := by decide +kernel
theorem dX2_isLetter_1 : decode cX2_isLetter 1 = .ok (.aload_n 0, 1) := by decide +kernel
theorem dX2_isLetter_2 : decode cX2_isLetter 2 = .ok (.getfield 14, 3) := by decide +kernel
theorem dX2_isLetter_5 : decode cX2_isLetter 5 = .ok (.invokevirtual 71, 3) := by decide +kernel
theorem dX2_isLetter_8 : decode cX2_isLetter 8 = .ok (.if_icmp .ge 37, 3) := by decide +kernel
theorem dX2_isLetter_11 : decode cX2_isLetter 11 = .ok (.aload_n 0, 1) := by decide +kernel
theorem dX2_isLetter_12 : decode cX2_isLetter 12 = .ok (.getfield 14, 3) := by decide +kernel
theorem dX2_isLetter_15 : decode cX2_isLetter 15 = .ok (.iload_n 1, 1) := by decide +kernel
theorem dX2_isLetter_16 : decode cX2_isLetter 16 = .ok (.invokevirtual 74, 3) := by decide +kernel
theorem dX2_isLetter_19 : decode cX2_isLetter 19 = .ok (.ldc2_w 126, 3) := by decide +kernel
theorem dX2_isLetter_22 : decode cX2_isLetter 22 = .ok (.lcmp, 1) := by decide +kernel
theorem dX2_isLetter_23 : decode cX2_isLetter 23 = .ok (.ifCond .lt 22, 3) := by decide +kernel
theorem dX2_isLetter_26 : decode cX2_isLetter 26 = .ok (.aload_n 0, 1) := by decide +kernel
theorem dX2_isLetter_27 : decode cX2_isLetter 27 = .ok (.getfield 14, 3) := by decide +kernel
theorem dX2_isLetter_30 : decode cX2_isLetter 30 = .ok (.iload_n 1, 1) := by decide +kernel
theorem dX2_isLetter_31 : decode cX2_isLetter 31 = .ok (.invokevirtual 74, 3) := by decide +kernel
theorem dX2_isLetter_34 : decode cX2_isLetter 34 = .ok (.ldc2_w 128, 3) := by decide +kernel
theorem dX2_isLetter_37 : decode cX2_isLetter 37 = .ok (.lcmp, 1) := by decide +kernel
theorem dX2_isLetter_38 : decode cX2_isLetter 38 = .ok (.ifCond .gt 7, 3) := by decide +kernel
theorem dX2_isLetter_41 : decode cX2_isLetter 41 = .ok (.iconst 1, 1) := by decide +kernel
theorem dX2_isLetter_42 : decode cX2_isLetter 42 = .ok (.goto 4, 3) := by decide +kernel
theorem dX2_isLetter_45 : decode cX2_isLetter 45 = .ok (.iconst 0, 1) := by decide +kernel
theorem dX2_isLetter_46 : decode cX2_isLetter 46 = .ok (.ireturn, 1) := by decide +kernel
set_option maxRecDepth 20000 in
theorem ggX2_isDigit_X1_size : GoodIn wsX2_isDigit wsX1_size := goodIn_r _ [8, 9, 30, 31] (by decide +kernel) (by decide +kernel)
set_option maxRecDepth 20000 in
theorem gX2_isDigit_X1_size : GoodIn wsX2_isDigit (wsV RX2 71 RX1 yX1_size wsX1_size) := goodIn_app (goodIn_of _ (by decide +kernel)) ggX2_isDigit_X1_size
set_option maxRecDepth 20000 in
theorem ggX2_isDigit_X1_at : GoodIn wsX2_isDigit wsX1_at := goodIn_r _ [13, 14, 30, 31] (by decide +kernel) (by decide +kernel)
set_option maxRecDepth 20000 in
theorem gX2_isDigit_X1_at : GoodIn wsX2_isDigit (wsV RX2 74 RX1 yX1_at wsX1_at) := goodIn_app (goodIn_of _ (by decide +kernel)) ggX2_isDigit_X1_at
theorem dX2_isDigit_0 : decode cX2_isDigit 0 = .ok (.iload_n 1, 1) := by decide +kernel
theorem dX2_isDigit_1 : decode cX2_isDigit 1 = .ok (.aload_n 0, 1) := by decide +kernel
theorem dX2_isDigit_2 : decode cX2_isDigit 2 = .ok (.getfield 14, 3) := by decide +kernel
theorem dX2_isDigit_5 : decode cX2_isDigit 5 = .ok (.invokevirtual 71, 3) := by decide +kernel
theorem dX2_isDigit_8 : decode cX2_isDigit 8 = .ok (.if_icmp .ge 37, 3) := by decide +kernel
theorem dX2_isDigit_11 : decode cX2_isDigit 11 = .ok (.aload_n 0, 1) := by decide +kernel
theorem dX2_isDigit_12 : decode cX2_isDigit 12 = .ok (.getfield 14, 3) := by decide +kernel
theorem dX2_isDigit_15 : decode cX2_isDigit 15 = .ok (.iload_n 1, 1) := by decide +kernel
theorem dX2_isDigit_16 : decode cX2_isDigit 16 = .ok (.invokevirtual 74, 3) := by decide +kernel
theorem dX2_isDigit_19 : decode cX2_isDigit 19 = .ok (.ldc2_w 124, 3) := by decide +kernel
theorem dX2_isDigit_22 : decode cX2_isDigit 22 = .ok (.lcmp, 1) := by decide +kernel
theorem dX2_isDigit_23 : decode cX2_isDigit 23 = .ok (.ifCond .lt 22, 3) := by decide +kernel
theorem dX2_isDigit_26 : decode cX2_isDigit 26 = .ok (.aload_n 0, 1) := by decide +kernel
theorem dX2_isDigit_27 : decode cX2_isDigit 27 = .ok (.getfield 14, 3) := by decide +kernel
theorem dX2_isDigit_30 : decode cX2_isDigit 30 = .ok (.iload_n 1, 1) := by decide +kernel
theorem dX2_isDigit_31 : decode cX2_isDigit 31 = .ok (.invokevirtual 74, 3) := by decide +kernel
theorem dX2_isDigit_34 : decode cX2_isDigit 34 = .ok (.ldc2_w 130, 3) := by decide +kernel
theorem dX2_isDigit_37 : decode cX2_isDigit 37 = .ok (.lcmp, 1) := by decide +kernel
theorem dX2_isDigit_38 : decode cX2_isDigit 38 = .ok (.ifCond .gt 7, 3) := by decide +kernel
theorem dX2_isDigit_41 : decode cX2_isDigit 41 = .ok (.iconst 1, 1) := by decide +kernel
theorem dX2_isDigit_42 : decode cX2_isDigit 42 = .ok (.goto 4, 3) := by decide +kernel
theorem dX2_isDigit_45 : decode cX2_isDigit 45 = .ok (.iconst 0, 1) := by decide +kernel
theorem dX2_isDigit_46 : decode cX2_isDigit 46 = .ok (.ireturn, 1) := by decide +kernel
set_option maxRecDepth 20000 in
theorem ggX2_takesToken_X2_takesWord : GoodIn wsX2_takesToken wsX2_takesWord := goodIn_r _ [7, 2, 8, 9, 1, 10, 11, 12, 6, 13, 14, 15, 16, 17, 18, 19, 20, 21, 22, 23, 24, 25, 65, 66, 67, 68, 69, 70, 71, 72, 73, 74, 75, 76, 77, 78, 79, 80, 81] (by decide +kernel) (by decide +kernel)
set_option maxRecDepth 20000 in
theorem gX2_takesToken_X2_takesWord : GoodIn wsX2_takesToken (wsV RX2 132 RX2 yX2_takesWord wsX2_takesWord) := goodIn_app (goodIn_of _ (by decide +kernel)) ggX2_takesToken_X2_takesWord
set_option maxRecDepth 20000 in
theorem ggX2_takesToken_X2_takesNumber : GoodIn wsX2_takesToken wsX2_takesNumber := goodIn_r _ [29, 30, 8, 31, 32, 33, 34, 14, 1, 35, 36, 37, 6, 38, 39, 40, 41, 42, 43, 44, 45, 46, 18, 47, 20, 48, 49, 50, 51, 21, 65, 66, 67, 68, 69, 70, 71, 72, 73, 74, 75, 76, 77, 78, 79, 80, 81] (by decide +kernel) (by decide +kernel)
set_option maxRecDepth 20000 in
theorem gX2_takesToken_X2_takesNumber : GoodIn wsX2_takesToken (wsV RX2 135 RX2 yX2_takesNumber wsX2_takesNumber) := goodIn_app (goodIn_of _ (by decide +kernel)) ggX2_takesToken_X2_takesNumber
set_option maxRecDepth 20000 in
theorem ggX2_takesToken_X2_takesSecond : GoodIn wsX2_takesToken wsX2_takesSecond := goodIn_r _ [55, 30, 14, 43, 1, 39, 40, 41, 6, 42, 44, 45, 46, 18, 47, 20, 56, 57, 58, 59, 21, 48, 49, 50, 51, 65, 66, 67, 68, 69, 70, 71, 72, 73, 74, 75, 76, 77, 78, 79, 80, 81] (by decide +kernel) (by decide +kernel)
set_option maxRecDepth 20000 in
theorem gX2_takesToken_X2_takesSecond : GoodIn wsX2_takesToken (wsV RX2 138 RX2 yX2_takesSecond wsX2_takesSecond) := goodIn_app (goodIn_of _ (by decide +kernel)) ggX2_takesToken_X2_takesSecond
set_option maxRecDepth 20000 in
theorem ggX2_takesToken_X2_takesSemicolon : GoodIn wsX2_takesToken wsX2_takesSemicolon := goodIn_r _ [63, 2, 64, 1, 65, 66, 67, 68, 69, 70, 71, 72, 73, 74, 75, 76, 77, 78, 79] (by decide +kernel) (by decide +kernel)
set_option maxRecDepth 20000 in
theorem gX2_takesToken_X2_takesSemicolon : GoodIn wsX2_takesToken (wsV RX2 141 RX2 yX2_takesSemicolon wsX2_takesSemicolon) := goodIn_app (goodIn_of _ (by decide +kernel)) ggX2_takesToken_X2_takesSemicolon
theorem dX2_takesToken_0 : decode cX2_takesToken 0 = .ok (.aload_n 0, 1) := by decide +kernel
theorem dX2_takesToken_1 : decode cX2_takesToken 1 = .ok (.getfield 36, 3) := by decide +kernel
theorem dX2_takesToken_4 : decode cX2_takesToken 4 = .ok (.tableswitch 75 0 2 #[28, 33, 54], 28) := by decide +kernel
theorem dX2_takesToken_32 : decode cX2_takesToken 32 = .ok (.aload_n 0, 1) := by decide +kernel
theorem dX2_takesToken_33 : decode cX2_takesToken 33 = .ok (.invokevirtual 132, 3) := by decide +kernel
theorem dX2_takesToken_36 : decode cX2_takesToken 36 = .ok (.ireturn, 1) := by decide +kernel
theorem dX2_takesToken_37 : decode cX2_takesToken 37 = .ok (.aload_n 0, 1) := by decide +kernel
theorem dX2_takesToken_38 : decode cX2_takesToken 38 = .ok (.getfield 32, 3) := by decide +kernel
theorem dX2_takesToken_41 : decode cX2_takesToken 41 = .ok (.iconst 5, 1) := by decide +kernel
theorem dX2_takesToken_42 : decode cX2_takesToken 42 = .ok (.if_icmp .ne 14, 3) := by decide +kernel
theorem dX2_takesToken_45 : decode cX2_takesToken 45 = .ok (.aload_n 0, 1) := by decide +kernel
theorem dX2_takesToken_46 : decode cX2_takesToken 46 = .ok (.invokevirtual 135, 3) := by decide +kernel
theorem dX2_takesToken_49 : decode cX2_takesToken 49 = .ok (.ifCond .eq 7, 3) := by decide +kernel
theorem dX2_takesToken_52 : decode cX2_takesToken 52 = .ok (.iconst 1, 1) := by decide +kernel
theorem dX2_takesToken_53 : decode cX2_takesToken 53 = .ok (.goto 4, 3) := by decide +kernel
theorem dX2_takesToken_56 : decode cX2_takesToken 56 = .ok (.iconst 0, 1) := by decide +kernel
theorem dX2_takesToken_57 : decode cX2_takesToken 57 = .ok (.ireturn, 1) := by decide +kernel
theorem dX2_takesToken_58 : decode cX2_takesToken 58 = .ok (.aload_n 0, 1) := by decide +kernel
theorem dX2_takesToken_59 : decode cX2_takesToken 59 = .ok (.getfield 32, 3) := by decide +kernel
theorem dX2_takesToken_62 : decode cX2_takesToken 62 = .ok (.iconst 5, 1) := by decide +kernel
theorem dX2_takesToken_63 : decode cX2_takesToken 63 = .ok (.if_icmp .ne 14, 3) := by decide +kernel
theorem dX2_takesToken_66 : decode cX2_takesToken 66 = .ok (.aload_n 0, 1) := by decide +kernel
theorem dX2_takesToken_67 : decode cX2_takesToken 67 = .ok (.invokevirtual 138, 3) := by decide +kernel
theorem dX2_takesToken_70 : decode cX2_takesToken 70 = .ok (.ifCond .eq 7, 3) := by decide +kernel
theorem dX2_takesToken_73 : decode cX2_takesToken 73 = .ok (.iconst 1, 1) := by decide +kernel
theorem dX2_takesToken_74 : decode cX2_takesToken 74 = .ok (.goto 4, 3) := by decide +kernel
theorem dX2_takesToken_77 : decode cX2_takesToken 77 = .ok (.iconst 0, 1) := by decide +kernel
theorem dX2_takesToken_78 : decode cX2_takesToken 78 = .ok (.ireturn, 1) := by decide +kernel
theorem dX2_takesToken_79 : decode cX2_takesToken 79 = .ok (.aload_n 0, 1) := by decide +kernel
theorem dX2_takesToken_80 : decode cX2_takesToken 80 = .ok (.invokevirtual 141, 3) := by decide +kernel
theorem dX2_takesToken_83 : decode cX2_takesToken 83 = .ok (.ireturn, 1) := by decide +kernel
set_option maxRecDepth 20000 in
theorem ggX2_takesWord_X2_mayStand : GoodIn wsX2_takesWord wsX2_mayStand := goodIn_r _ [9, 10, 11, 12, 13, 14, 15, 16, 17, 18, 19, 20, 8, 21, 3, 22, 23, 24, 25, 26, 27, 28, 29, 30, 31, 32, 33, 34, 35, 36, 37, 38] (by decide +kernel) (by decide +kernel)
set_option maxRecDepth 20000 in
theorem gX2_takesWord_X2_mayStand : GoodIn wsX2_takesWord (wsV RX2 144 RX2 yX2_mayStand wsX2_mayStand) := goodIn_app (goodIn_of _ (by decide +kernel)) ggX2_takesWord_X2_mayStand
theorem dX2_takesWord_0 : decode cX2_takesWord 0 = .ok (.aload_n 0, 1) := by decide +kernel
theorem dX2_takesWord_1 : decode cX2_takesWord 1 = .ok (.aload_n 0, 1) := by decide +kernel
theorem dX2_takesWord_2 : decode cX2_takesWord 2 = .ok (.getfield 32, 3) := by decide +kernel
theorem dX2_takesWord_5 : decode cX2_takesWord 5 = .ok (.invokevirtual 144, 3) := by decide +kernel
theorem dX2_takesWord_8 : decode cX2_takesWord 8 = .ok (.ifCond .ne 5, 3) := by decide +kernel
theorem dX2_takesWord_11 : decode cX2_takesWord 11 = .ok (.iconst 0, 1) := by decide +kernel
theorem dX2_takesWord_12 : decode cX2_takesWord 12 = .ok (.ireturn, 1) := by decide +kernel
theorem dX2_takesWord_13 : decode cX2_takesWord 13 = .ok (.aload_n 0, 1) := by decide +kernel
theorem dX2_takesWord_14 : decode cX2_takesWord 14 = .ok (.aload_n 0, 1) := by decide +kernel
theorem dX2_takesWord_15 : decode cX2_takesWord 15 = .ok (.getfield 32, 3) := by decide +kernel
theorem dX2_takesWord_18 : decode cX2_takesWord 18 = .ok (.putfield 147, 3) := by decide +kernel
theorem dX2_takesWord_21 : decode cX2_takesWord 21 = .ok (.aload_n 0, 1) := by decide +kernel
theorem dX2_takesWord_22 : decode cX2_takesWord 22 = .ok (.dup, 1) := by decide +kernel
theorem dX2_takesWord_23 : decode cX2_takesWord 23 = .ok (.getfield 68, 3) := by decide +kernel
theorem dX2_takesWord_26 : decode cX2_takesWord 26 = .ok (.iconst 1, 1) := by decide +kernel
theorem dX2_takesWord_27 : decode cX2_takesWord 27 = .ok (.aload_n 0, 1) := by decide +kernel
theorem dX2_takesWord_28 : decode cX2_takesWord 28 = .ok (.getfield 147, 3) := by decide +kernel
theorem dX2_takesWord_31 : decode cX2_takesWord 31 = .ok (.ishl, 1) := by decide +kernel
theorem dX2_takesWord_32 : decode cX2_takesWord 32 = .ok (.ior, 1) := by decide +kernel
theorem dX2_takesWord_33 : decode cX2_takesWord 33 = .ok (.putfield 68, 3) := by decide +kernel
theorem dX2_takesWord_36 : decode cX2_takesWord 36 = .ok (.aload_n 0, 1) := by decide +kernel
theorem dX2_takesWord_37 : decode cX2_takesWord 37 = .ok (.iconst 1, 1) := by decide +kernel
theorem dX2_takesWord_38 : decode cX2_takesWord 38 = .ok (.putfield 36, 3) := by decide +kernel
theorem dX2_takesWord_41 : decode cX2_takesWord 41 = .ok (.iconst 1, 1) := by decide +kernel
theorem dX2_takesWord_42 : decode cX2_takesWord 42 = .ok (.ireturn, 1) := by decide +kernel
set_option maxRecDepth 20000 in
theorem ggX2_mayStand_X1_hasRoom : GoodIn wsX2_mayStand wsX1_hasRoom := goodIn_r _ [6, 7, 8, 30, 31] (by decide +kernel) (by decide +kernel)
set_option maxRecDepth 20000 in
theorem gX2_mayStand_X1_hasRoom : GoodIn wsX2_mayStand (wsV RX2 150 RX1 yX1_hasRoom wsX1_hasRoom) := goodIn_app (goodIn_of _ (by decide +kernel)) ggX2_mayStand_X1_hasRoom
set_option maxRecDepth 20000 in
theorem ggX2_mayStand_X2_isTold : GoodIn wsX2_mayStand wsX2_isTold := goodIn_r _ [13, 14, 15, 16, 17, 18, 19, 20, 21, 22, 23, 24, 25, 26, 27, 28, 29] (by decide +kernel) (by decide +kernel)
set_option maxRecDepth 20000 in
theorem gX2_mayStand_X2_isTold : GoodIn wsX2_mayStand (wsV RX2 153 RX2 yX2_isTold wsX2_isTold) := goodIn_app (goodIn_of _ (by decide +kernel)) ggX2_mayStand_X2_isTold
theorem dX2_mayStand_0 : decode cX2_mayStand 0 = .ok (.iload_n 1, 1) := by decide +kernel
theorem dX2_mayStand_1 : decode cX2_mayStand 1 = .ok (.tableswitch 96 0 4 #[44, 74, 74, 74, 35], 35) := by decide +kernel
theorem dX2_mayStand_36 : decode cX2_mayStand 36 = .ok (.aload_n 0, 1) := by decide +kernel
theorem dX2_mayStand_37 : decode cX2_mayStand 37 = .ok (.getfield 20, 3) := by decide +kernel
theorem dX2_mayStand_40 : decode cX2_mayStand 40 = .ok (.iconst 1, 1) := by decide +kernel
theorem dX2_mayStand_41 : decode cX2_mayStand 41 = .ok (.invokevirtual 150, 3) := by decide +kernel
theorem dX2_mayStand_44 : decode cX2_mayStand 44 = .ok (.ireturn, 1) := by decide +kernel
theorem dX2_mayStand_45 : decode cX2_mayStand 45 = .ok (.aload_n 0, 1) := by decide +kernel
theorem dX2_mayStand_46 : decode cX2_mayStand 46 = .ok (.iconst 0, 1) := by decide +kernel
theorem dX2_mayStand_47 : decode cX2_mayStand 47 = .ok (.invokevirtual 153, 3) := by decide +kernel
theorem dX2_mayStand_50 : decode cX2_mayStand 50 = .ok (.ifCond .ne 23, 3) := by decide +kernel
theorem dX2_mayStand_53 : decode cX2_mayStand 53 = .ok (.aload_n 0, 1) := by decide +kernel
theorem dX2_mayStand_54 : decode cX2_mayStand 54 = .ok (.iconst 1, 1) := by decide +kernel
theorem dX2_mayStand_55 : decode cX2_mayStand 55 = .ok (.invokevirtual 153, 3) := by decide +kernel
theorem dX2_mayStand_58 : decode cX2_mayStand 58 = .ok (.ifCond .ne 15, 3) := by decide +kernel
theorem dX2_mayStand_61 : decode cX2_mayStand 61 = .ok (.aload_n 0, 1) := by decide +kernel
theorem dX2_mayStand_62 : decode cX2_mayStand 62 = .ok (.iconst 4, 1) := by decide +kernel
theorem dX2_mayStand_63 : decode cX2_mayStand 63 = .ok (.invokevirtual 153, 3) := by decide +kernel
theorem dX2_mayStand_66 : decode cX2_mayStand 66 = .ok (.ifCond .ne 7, 3) := by decide +kernel
theorem dX2_mayStand_69 : decode cX2_mayStand 69 = .ok (.iconst 1, 1) := by decide +kernel
theorem dX2_mayStand_70 : decode cX2_mayStand 70 = .ok (.goto 4, 3) := by decide +kernel
theorem dX2_mayStand_73 : decode cX2_mayStand 73 = .ok (.iconst 0, 1) := by decide +kernel
theorem dX2_mayStand_74 : decode cX2_mayStand 74 = .ok (.ireturn, 1) := by decide +kernel
theorem dX2_mayStand_75 : decode cX2_mayStand 75 = .ok (.aload_n 0, 1) := by decide +kernel
theorem dX2_mayStand_76 : decode cX2_mayStand 76 = .ok (.iload_n 1, 1) := by decide +kernel
theorem dX2_mayStand_77 : decode cX2_mayStand 77 = .ok (.invokevirtual 153, 3) := by decide +kernel
theorem dX2_mayStand_80 : decode cX2_mayStand 80 = .ok (.ifCond .ne 15, 3) := by decide +kernel
theorem dX2_mayStand_83 : decode cX2_mayStand 83 = .ok (.aload_n 0, 1) := by decide +kernel
theorem dX2_mayStand_84 : decode cX2_mayStand 84 = .ok (.iconst 4, 1) := by decide +kernel
theorem dX2_mayStand_85 : decode cX2_mayStand 85 = .ok (.invokevirtual 153, 3) := by decide +kernel
theorem dX2_mayStand_88 : decode cX2_mayStand 88 = .ok (.ifCond .ne 7, 3) := by decide +kernel
theorem dX2_mayStand_91 : decode cX2_mayStand 91 = .ok (.iconst 1, 1) := by decide +kernel
theorem dX2_mayStand_92 : decode cX2_mayStand 92 = .ok (.goto 4, 3) := by decide +kernel
theorem dX2_mayStand_95 : decode cX2_mayStand 95 = .ok (.iconst 0, 1) := by decide +kernel
theorem dX2_mayStand_96 : decode cX2_mayStand 96 = .ok (.ireturn, 1) := by decide +kernel
theorem dX2_mayStand_97 : decode cX2_mayStand 97 = .ok (.iconst 0, 1) := by decide +kernel
theorem dX2_mayStand_98 : decode cX2_mayStand 98 = .ok (.ireturn, 1) := by decide +kernel
theorem dX2_isTold_0 : decode cX2_isTold 0 = .ok (.aload_n 0, 1) := by decide +kernel
theorem dX2_isTold_1 : decode cX2_isTold 1 = .ok (.getfield 68, 3) := by decide +kernel
theorem dX2_isTold_4 : decode cX2_isTold 4 = .ok (.iconst 1, 1) := by decide +kernel
theorem dX2_isTold_5 : decode cX2_isTold 5 = .ok (.iload_n 1, 1) := by decide +kernel
theorem dX2_isTold_6 : decode cX2_isTold 6 = .ok (.ishl, 1) := by decide +kernel
theorem dX2_isTold_7 : decode cX2_isTold 7 = .ok (.iand, 1) := by decide +kernel
theorem dX2_isTold_8 : decode cX2_isTold 8 = .ok (.ifCond .eq 7, 3) := by decide +kernel
theorem dX2_isTold_11 : decode cX2_isTold 11 = .ok (.iconst 1, 1) := by decide +kernel
theorem dX2_isTold_12 : decode cX2_isTold 12 = .ok (.goto 4, 3) := by decide +kernel
theorem dX2_isTold_15 : decode cX2_isTold 15 = .ok (.iconst 0, 1) := by decide +kernel
theorem dX2_isTold_16 : decode cX2_isTold 16 = .ok (.ireturn, 1) := by decide +kernel
set_option maxRecDepth 20000 in
theorem ggX2_takesNumber_X2_mayBe : GoodIn wsX2_takesNumber wsX2_mayBe := goodIn_r _ [13, 2, 3, 14, 15, 16, 12, 17, 18, 19, 20, 21, 22, 23, 24, 30, 31, 32, 33, 34, 35, 36, 37, 38, 39, 40, 41, 42, 43, 44, 45, 46] (by decide +kernel) (by decide +kernel)
set_option maxRecDepth 20000 in
theorem gX2_takesNumber_X2_mayBe : GoodIn wsX2_takesNumber (wsV RX2 156 RX2 yX2_mayBe wsX2_mayBe) := goodIn_app (goodIn_of _ (by decide +kernel)) ggX2_takesNumber_X2_mayBe
set_option maxRecDepth 20000 in
theorem ggX2_takesNumber_X1_add : GoodIn wsX2_takesNumber wsX1_add := goodIn_r _ [28, 24, 29, 45, 46] (by decide +kernel) (by decide +kernel)
set_option maxRecDepth 20000 in
theorem gX2_takesNumber_X1_add : GoodIn wsX2_takesNumber (wsV RX2 159 RX1 yX1_add wsX1_add) := goodIn_app (goodIn_of _ (by decide +kernel)) ggX2_takesNumber_X1_add
theorem dX2_takesNumber_0 : decode cX2_takesNumber 0 = .ok (.aload_n 0, 1) := by decide +kernel
theorem dX2_takesNumber_1 : decode cX2_takesNumber 1 = .ok (.aload_n 0, 1) := by decide +kernel
theorem dX2_takesNumber_2 : decode cX2_takesNumber 2 = .ok (.getfield 115, 3) := by decide +kernel
theorem dX2_takesNumber_5 : decode cX2_takesNumber 5 = .ok (.invokevirtual 156, 3) := by decide +kernel
theorem dX2_takesNumber_8 : decode cX2_takesNumber 8 = .ok (.ifCond .ne 5, 3) := by decide +kernel
theorem dX2_takesNumber_11 : decode cX2_takesNumber 11 = .ok (.iconst 0, 1) := by decide +kernel
theorem dX2_takesNumber_12 : decode cX2_takesNumber 12 = .ok (.ireturn, 1) := by decide +kernel
theorem dX2_takesNumber_13 : decode cX2_takesNumber 13 = .ok (.aload_n 0, 1) := by decide +kernel
theorem dX2_takesNumber_14 : decode cX2_takesNumber 14 = .ok (.getfield 147, 3) := by decide +kernel
theorem dX2_takesNumber_17 : decode cX2_takesNumber 17 = .ok (.tableswitch 75 0 3 #[31, 42, 53, 64], 31) := by decide +kernel
theorem dX2_takesNumber_48 : decode cX2_takesNumber 48 = .ok (.aload_n 0, 1) := by decide +kernel
theorem dX2_takesNumber_49 : decode cX2_takesNumber 49 = .ok (.aload_n 0, 1) := by decide +kernel
theorem dX2_takesNumber_50 : decode cX2_takesNumber 50 = .ok (.getfield 115, 3) := by decide +kernel
theorem dX2_takesNumber_53 : decode cX2_takesNumber 53 = .ok (.putfield 46, 3) := by decide +kernel
theorem dX2_takesNumber_56 : decode cX2_takesNumber 56 = .ok (.goto 48, 3) := by decide +kernel
theorem dX2_takesNumber_59 : decode cX2_takesNumber 59 = .ok (.aload_n 0, 1) := by decide +kernel
theorem dX2_takesNumber_60 : decode cX2_takesNumber 60 = .ok (.aload_n 0, 1) := by decide +kernel
theorem dX2_takesNumber_61 : decode cX2_takesNumber 61 = .ok (.getfield 115, 3) := by decide +kernel
theorem dX2_takesNumber_64 : decode cX2_takesNumber 64 = .ok (.putfield 49, 3) := by decide +kernel
theorem dX2_takesNumber_67 : decode cX2_takesNumber 67 = .ok (.goto 37, 3) := by decide +kernel
theorem dX2_takesNumber_70 : decode cX2_takesNumber 70 = .ok (.aload_n 0, 1) := by decide +kernel
theorem dX2_takesNumber_71 : decode cX2_takesNumber 71 = .ok (.aload_n 0, 1) := by decide +kernel
theorem dX2_takesNumber_72 : decode cX2_takesNumber 72 = .ok (.getfield 115, 3) := by decide +kernel
theorem dX2_takesNumber_75 : decode cX2_takesNumber 75 = .ok (.putfield 52, 3) := by decide +kernel
theorem dX2_takesNumber_78 : decode cX2_takesNumber 78 = .ok (.goto 26, 3) := by decide +kernel
theorem dX2_takesNumber_81 : decode cX2_takesNumber 81 = .ok (.aload_n 0, 1) := by decide +kernel
theorem dX2_takesNumber_82 : decode cX2_takesNumber 82 = .ok (.aload_n 0, 1) := by decide +kernel
theorem dX2_takesNumber_83 : decode cX2_takesNumber 83 = .ok (.getfield 115, 3) := by decide +kernel
theorem dX2_takesNumber_86 : decode cX2_takesNumber 86 = .ok (.putfield 55, 3) := by decide +kernel
theorem dX2_takesNumber_89 : decode cX2_takesNumber 89 = .ok (.goto 15, 3) := by decide +kernel
theorem dX2_takesNumber_92 : decode cX2_takesNumber 92 = .ok (.aload_n 0, 1) := by decide +kernel
theorem dX2_takesNumber_93 : decode cX2_takesNumber 93 = .ok (.getfield 20, 3) := by decide +kernel
theorem dX2_takesNumber_96 : decode cX2_takesNumber 96 = .ok (.aload_n 0, 1) := by decide +kernel
theorem dX2_takesNumber_97 : decode cX2_takesNumber 97 = .ok (.getfield 115, 3) := by decide +kernel
theorem dX2_takesNumber_100 : decode cX2_takesNumber 100 = .ok (.i2l, 1) := by decide +kernel
theorem dX2_takesNumber_101 : decode cX2_takesNumber 101 = .ok (.invokevirtual 159, 3) := by decide +kernel
theorem dX2_takesNumber_104 : decode cX2_takesNumber 104 = .ok (.aload_n 0, 1) := by decide +kernel
theorem dX2_takesNumber_105 : decode cX2_takesNumber 105 = .ok (.aload_n 0, 1) := by decide +kernel
theorem dX2_takesNumber_106 : decode cX2_takesNumber 106 = .ok (.getfield 147, 3) := by decide +kernel
theorem dX2_takesNumber_109 : decode cX2_takesNumber 109 = .ok (.iconst 4, 1) := by decide +kernel
theorem dX2_takesNumber_110 : decode cX2_takesNumber 110 = .ok (.if_icmp .ne 7, 3) := by decide +kernel
theorem dX2_takesNumber_113 : decode cX2_takesNumber 113 = .ok (.iconst 2, 1) := by decide +kernel
theorem dX2_takesNumber_114 : decode cX2_takesNumber 114 = .ok (.goto 4, 3) := by decide +kernel
theorem dX2_takesNumber_117 : decode cX2_takesNumber 117 = .ok (.iconst 3, 1) := by decide +kernel
theorem dX2_takesNumber_118 : decode cX2_takesNumber 118 = .ok (.putfield 36, 3) := by decide +kernel
theorem dX2_takesNumber_121 : decode cX2_takesNumber 121 = .ok (.iconst 1, 1) := by decide +kernel
theorem dX2_takesNumber_122 : decode cX2_takesNumber 122 = .ok (.ireturn, 1) := by decide +kernel
set_option maxRecDepth 20000 in
theorem ggX2_mayBe_X2_isToldCrease : GoodIn wsX2_mayBe wsX2_isToldCrease := goodIn_r _ [7, 8, 9, 10, 11, 12, 13, 14, 15, 16, 17, 18, 19, 20, 21, 22, 23, 24, 25, 26, 27, 28, 29, 30, 31] (by decide +kernel) (by decide +kernel)
set_option maxRecDepth 20000 in
theorem gX2_mayBe_X2_isToldCrease : GoodIn wsX2_mayBe (wsV RX2 163 RX2 yX2_isToldCrease wsX2_isToldCrease) := goodIn_app (goodIn_of _ (by decide +kernel)) ggX2_mayBe_X2_isToldCrease
theorem dX2_mayBe_0 : decode cX2_mayBe 0 = .ok (.aload_n 0, 1) := by decide +kernel
theorem dX2_mayBe_1 : decode cX2_mayBe 1 = .ok (.getfield 147, 3) := by decide +kernel
theorem dX2_mayBe_4 : decode cX2_mayBe 4 = .ok (.tableswitch 107 0 3 #[32, 56, 75, 91], 32) := by decide +kernel
theorem dX2_mayBe_36 : decode cX2_mayBe 36 = .ok (.iload_n 1, 1) := by decide +kernel
theorem dX2_mayBe_37 : decode cX2_mayBe 37 = .ok (.iconst 3, 1) := by decide +kernel
theorem dX2_mayBe_38 : decode cX2_mayBe 38 = .ok (.if_icmp .lt 20, 3) := by decide +kernel
theorem dX2_mayBe_41 : decode cX2_mayBe 41 = .ok (.iload_n 1, 1) := by decide +kernel
theorem dX2_mayBe_42 : decode cX2_mayBe 42 = .ok (.bipush 63, 2) := by decide +kernel
theorem dX2_mayBe_44 : decode cX2_mayBe 44 = .ok (.if_icmp .gt 14, 3) := by decide +kernel
theorem dX2_mayBe_47 : decode cX2_mayBe 47 = .ok (.iload_n 1, 1) := by decide +kernel
theorem dX2_mayBe_48 : decode cX2_mayBe 48 = .ok (.iconst 2, 1) := by decide +kernel
theorem dX2_mayBe_49 : decode cX2_mayBe 49 = .ok (.irem, 1) := by decide +kernel
theorem dX2_mayBe_50 : decode cX2_mayBe 50 = .ok (.iconst 1, 1) := by decide +kernel
theorem dX2_mayBe_51 : decode cX2_mayBe 51 = .ok (.if_icmp .ne 7, 3) := by decide +kernel
theorem dX2_mayBe_54 : decode cX2_mayBe 54 = .ok (.iconst 1, 1) := by decide +kernel
theorem dX2_mayBe_55 : decode cX2_mayBe 55 = .ok (.goto 4, 3) := by decide +kernel
theorem dX2_mayBe_58 : decode cX2_mayBe 58 = .ok (.iconst 0, 1) := by decide +kernel
theorem dX2_mayBe_59 : decode cX2_mayBe 59 = .ok (.ireturn, 1) := by decide +kernel
theorem dX2_mayBe_60 : decode cX2_mayBe 60 = .ok (.iload_n 1, 1) := by decide +kernel
theorem dX2_mayBe_61 : decode cX2_mayBe 61 = .ok (.iconst 1, 1) := by decide +kernel
theorem dX2_mayBe_62 : decode cX2_mayBe 62 = .ok (.if_icmp .lt 15, 3) := by decide +kernel
theorem dX2_mayBe_65 : decode cX2_mayBe 65 = .ok (.iload_n 1, 1) := by decide +kernel
theorem dX2_mayBe_66 : decode cX2_mayBe 66 = .ok (.aload_n 0, 1) := by decide +kernel
theorem dX2_mayBe_67 : decode cX2_mayBe 67 = .ok (.getfield 46, 3) := by decide +kernel
theorem dX2_mayBe_70 : decode cX2_mayBe 70 = .ok (.if_icmp .ge 7, 3) := by decide +kernel
theorem dX2_mayBe_73 : decode cX2_mayBe 73 = .ok (.iconst 1, 1) := by decide +kernel
theorem dX2_mayBe_74 : decode cX2_mayBe 74 = .ok (.goto 4, 3) := by decide +kernel
theorem dX2_mayBe_77 : decode cX2_mayBe 77 = .ok (.iconst 0, 1) := by decide +kernel
theorem dX2_mayBe_78 : decode cX2_mayBe 78 = .ok (.ireturn, 1) := by decide +kernel
theorem dX2_mayBe_79 : decode cX2_mayBe 79 = .ok (.iload_n 1, 1) := by decide +kernel
theorem dX2_mayBe_80 : decode cX2_mayBe 80 = .ok (.ifCond .lt 13, 3) := by decide +kernel
theorem dX2_mayBe_83 : decode cX2_mayBe 83 = .ok (.iload_n 1, 1) := by decide +kernel
theorem dX2_mayBe_84 : decode cX2_mayBe 84 = .ok (.bipush 99, 2) := by decide +kernel
theorem dX2_mayBe_86 : decode cX2_mayBe 86 = .ok (.if_icmp .gt 7, 3) := by decide +kernel
theorem dX2_mayBe_89 : decode cX2_mayBe 89 = .ok (.iconst 1, 1) := by decide +kernel
theorem dX2_mayBe_90 : decode cX2_mayBe 90 = .ok (.goto 4, 3) := by decide +kernel
theorem dX2_mayBe_93 : decode cX2_mayBe 93 = .ok (.iconst 0, 1) := by decide +kernel
theorem dX2_mayBe_94 : decode cX2_mayBe 94 = .ok (.ireturn, 1) := by decide +kernel
theorem dX2_mayBe_95 : decode cX2_mayBe 95 = .ok (.iload_n 1, 1) := by decide +kernel
theorem dX2_mayBe_96 : decode cX2_mayBe 96 = .ok (.ifCond .lt 13, 3) := by decide +kernel
theorem dX2_mayBe_99 : decode cX2_mayBe 99 = .ok (.iload_n 1, 1) := by decide +kernel
theorem dX2_mayBe_100 : decode cX2_mayBe 100 = .ok (.bipush 9, 2) := by decide +kernel
theorem dX2_mayBe_102 : decode cX2_mayBe 102 = .ok (.if_icmp .gt 7, 3) := by decide +kernel
theorem dX2_mayBe_105 : decode cX2_mayBe 105 = .ok (.iconst 1, 1) := by decide +kernel
theorem dX2_mayBe_106 : decode cX2_mayBe 106 = .ok (.goto 4, 3) := by decide +kernel
theorem dX2_mayBe_109 : decode cX2_mayBe 109 = .ok (.iconst 0, 1) := by decide +kernel
theorem dX2_mayBe_110 : decode cX2_mayBe 110 = .ok (.ireturn, 1) := by decide +kernel
theorem dX2_mayBe_111 : decode cX2_mayBe 111 = .ok (.aload_n 0, 1) := by decide +kernel
theorem dX2_mayBe_112 : decode cX2_mayBe 112 = .ok (.iload_n 1, 1) := by decide +kernel
theorem dX2_mayBe_113 : decode cX2_mayBe 113 = .ok (.invokevirtual 163, 3) := by decide +kernel
theorem dX2_mayBe_116 : decode cX2_mayBe 116 = .ok (.ireturn, 1) := by decide +kernel
set_option maxRecDepth 20000 in
theorem ggX2_takesSecond_X2_isToldCrease : GoodIn wsX2_takesSecond wsX2_isToldCrease := goodIn_r _ [9, 3, 10, 11, 12, 13, 14, 15, 25, 26, 27, 28, 29, 30, 31, 32, 33, 34, 35, 36, 37, 38, 39, 40, 41] (by decide +kernel) (by decide +kernel)
set_option maxRecDepth 20000 in
theorem gX2_takesSecond_X2_isToldCrease : GoodIn wsX2_takesSecond (wsV RX2 163 RX2 yX2_isToldCrease wsX2_isToldCrease) := goodIn_app (goodIn_of _ (by decide +kernel)) ggX2_takesSecond_X2_isToldCrease
set_option maxRecDepth 20000 in
theorem ggX2_takesSecond_X1_size : GoodIn wsX2_takesSecond wsX1_size := goodIn_r _ [14, 15, 40, 41] (by decide +kernel) (by decide +kernel)
set_option maxRecDepth 20000 in
theorem gX2_takesSecond_X1_size : GoodIn wsX2_takesSecond (wsV RX2 71 RX1 yX1_size wsX1_size) := goodIn_app (goodIn_of _ (by decide +kernel)) ggX2_takesSecond_X1_size
set_option maxRecDepth 20000 in
theorem ggX2_takesSecond_X1_at : GoodIn wsX2_takesSecond wsX1_at := goodIn_r _ [19, 20, 40, 41] (by decide +kernel) (by decide +kernel)
set_option maxRecDepth 20000 in
theorem gX2_takesSecond_X1_at : GoodIn wsX2_takesSecond (wsV RX2 74 RX1 yX1_at wsX1_at) := goodIn_app (goodIn_of _ (by decide +kernel)) ggX2_takesSecond_X1_at
set_option maxRecDepth 20000 in
theorem ggX2_takesSecond_X1_add : GoodIn wsX2_takesSecond wsX1_add := goodIn_r _ [24, 15, 20, 40, 41] (by decide +kernel) (by decide +kernel)
set_option maxRecDepth 20000 in
theorem gX2_takesSecond_X1_add : GoodIn wsX2_takesSecond (wsV RX2 159 RX1 yX1_add wsX1_add) := goodIn_app (goodIn_of _ (by decide +kernel)) ggX2_takesSecond_X1_add
theorem dX2_takesSecond_0 : decode cX2_takesSecond 0 = .ok (.aload_n 0, 1) := by decide +kernel
theorem dX2_takesSecond_1 : decode cX2_takesSecond 1 = .ok (.aload_n 0, 1) := by decide +kernel
theorem dX2_takesSecond_2 : decode cX2_takesSecond 2 = .ok (.getfield 115, 3) := by decide +kernel
theorem dX2_takesSecond_5 : decode cX2_takesSecond 5 = .ok (.invokevirtual 163, 3) := by decide +kernel
theorem dX2_takesSecond_8 : decode cX2_takesSecond 8 = .ok (.ifCond .eq 26, 3) := by decide +kernel
theorem dX2_takesSecond_11 : decode cX2_takesSecond 11 = .ok (.aload_n 0, 1) := by decide +kernel
theorem dX2_takesSecond_12 : decode cX2_takesSecond 12 = .ok (.getfield 115, 3) := by decide +kernel
theorem dX2_takesSecond_15 : decode cX2_takesSecond 15 = .ok (.i2l, 1) := by decide +kernel
theorem dX2_takesSecond_16 : decode cX2_takesSecond 16 = .ok (.aload_n 0, 1) := by decide +kernel
theorem dX2_takesSecond_17 : decode cX2_takesSecond 17 = .ok (.getfield 20, 3) := by decide +kernel
theorem dX2_takesSecond_20 : decode cX2_takesSecond 20 = .ok (.aload_n 0, 1) := by decide +kernel
theorem dX2_takesSecond_21 : decode cX2_takesSecond 21 = .ok (.getfield 23, 3) := by decide +kernel
theorem dX2_takesSecond_24 : decode cX2_takesSecond 24 = .ok (.invokevirtual 71, 3) := by decide +kernel
theorem dX2_takesSecond_27 : decode cX2_takesSecond 27 = .ok (.invokevirtual 74, 3) := by decide +kernel
theorem dX2_takesSecond_30 : decode cX2_takesSecond 30 = .ok (.lcmp, 1) := by decide +kernel
theorem dX2_takesSecond_31 : decode cX2_takesSecond 31 = .ok (.ifCond .ne 5, 3) := by decide +kernel
theorem dX2_takesSecond_34 : decode cX2_takesSecond 34 = .ok (.iconst 0, 1) := by decide +kernel
theorem dX2_takesSecond_35 : decode cX2_takesSecond 35 = .ok (.ireturn, 1) := by decide +kernel
theorem dX2_takesSecond_36 : decode cX2_takesSecond 36 = .ok (.aload_n 0, 1) := by decide +kernel
theorem dX2_takesSecond_37 : decode cX2_takesSecond 37 = .ok (.getfield 23, 3) := by decide +kernel
theorem dX2_takesSecond_40 : decode cX2_takesSecond 40 = .ok (.aload_n 0, 1) := by decide +kernel
theorem dX2_takesSecond_41 : decode cX2_takesSecond 41 = .ok (.getfield 115, 3) := by decide +kernel
theorem dX2_takesSecond_44 : decode cX2_takesSecond 44 = .ok (.i2l, 1) := by decide +kernel
theorem dX2_takesSecond_45 : decode cX2_takesSecond 45 = .ok (.invokevirtual 159, 3) := by decide +kernel
theorem dX2_takesSecond_48 : decode cX2_takesSecond 48 = .ok (.aload_n 0, 1) := by decide +kernel
theorem dX2_takesSecond_49 : decode cX2_takesSecond 49 = .ok (.iconst 3, 1) := by decide +kernel
theorem dX2_takesSecond_50 : decode cX2_takesSecond 50 = .ok (.putfield 36, 3) := by decide +kernel
theorem dX2_takesSecond_53 : decode cX2_takesSecond 53 = .ok (.iconst 1, 1) := by decide +kernel
theorem dX2_takesSecond_54 : decode cX2_takesSecond 54 = .ok (.ireturn, 1) := by decide +kernel
set_option maxRecDepth 20000 in
theorem ggX2_isToldCrease_X1_size : GoodIn wsX2_isToldCrease wsX1_size := goodIn_r _ [6, 7, 23, 24] (by decide +kernel) (by decide +kernel)
set_option maxRecDepth 20000 in
theorem gX2_isToldCrease_X1_size : GoodIn wsX2_isToldCrease (wsV RX2 71 RX1 yX1_size wsX1_size) := goodIn_app (goodIn_of _ (by decide +kernel)) ggX2_isToldCrease_X1_size
theorem dX2_isToldCrease_0 : decode cX2_isToldCrease 0 = .ok (.iload_n 1, 1) := by decide +kernel
theorem dX2_isToldCrease_1 : decode cX2_isToldCrease 1 = .ok (.ifCond .lt 20, 3) := by decide +kernel
theorem dX2_isToldCrease_4 : decode cX2_isToldCrease 4 = .ok (.iload_n 1, 1) := by decide +kernel
theorem dX2_isToldCrease_5 : decode cX2_isToldCrease 5 = .ok (.iconst 3, 1) := by decide +kernel
theorem dX2_isToldCrease_6 : decode cX2_isToldCrease 6 = .ok (.aload_n 0, 1) := by decide +kernel
theorem dX2_isToldCrease_7 : decode cX2_isToldCrease 7 = .ok (.getfield 23, 3) := by decide +kernel
theorem dX2_isToldCrease_10 : decode cX2_isToldCrease 10 = .ok (.invokevirtual 71, 3) := by decide +kernel
theorem dX2_isToldCrease_13 : decode cX2_isToldCrease 13 = .ok (.iadd, 1) := by decide +kernel
theorem dX2_isToldCrease_14 : decode cX2_isToldCrease 14 = .ok (.if_icmp .ge 7, 3) := by decide +kernel
theorem dX2_isToldCrease_17 : decode cX2_isToldCrease 17 = .ok (.iconst 1, 1) := by decide +kernel
theorem dX2_isToldCrease_18 : decode cX2_isToldCrease 18 = .ok (.goto 4, 3) := by decide +kernel
theorem dX2_isToldCrease_21 : decode cX2_isToldCrease 21 = .ok (.iconst 0, 1) := by decide +kernel
theorem dX2_isToldCrease_22 : decode cX2_isToldCrease 22 = .ok (.ireturn, 1) := by decide +kernel
theorem dX2_takesSemicolon_0 : decode cX2_takesSemicolon 0 = .ok (.aload_n 0, 1) := by decide +kernel
theorem dX2_takesSemicolon_1 : decode cX2_takesSemicolon 1 = .ok (.getfield 32, 3) := by decide +kernel
theorem dX2_takesSemicolon_4 : decode cX2_takesSemicolon 4 = .ok (.bipush 6, 2) := by decide +kernel
theorem dX2_takesSemicolon_6 : decode cX2_takesSemicolon 6 = .ok (.if_icmp .eq 5, 3) := by decide +kernel
theorem dX2_takesSemicolon_9 : decode cX2_takesSemicolon 9 = .ok (.iconst 0, 1) := by decide +kernel
theorem dX2_takesSemicolon_10 : decode cX2_takesSemicolon 10 = .ok (.ireturn, 1) := by decide +kernel
theorem dX2_takesSemicolon_11 : decode cX2_takesSemicolon 11 = .ok (.aload_n 0, 1) := by decide +kernel
theorem dX2_takesSemicolon_12 : decode cX2_takesSemicolon 12 = .ok (.dup, 1) := by decide +kernel
theorem dX2_takesSemicolon_13 : decode cX2_takesSemicolon 13 = .ok (.getfield 62, 3) := by decide +kernel
theorem dX2_takesSemicolon_16 : decode cX2_takesSemicolon 16 = .ok (.iconst 1, 1) := by decide +kernel
theorem dX2_takesSemicolon_17 : decode cX2_takesSemicolon 17 = .ok (.iadd, 1) := by decide +kernel
theorem dX2_takesSemicolon_18 : decode cX2_takesSemicolon 18 = .ok (.putfield 62, 3) := by decide +kernel
theorem dX2_takesSemicolon_21 : decode cX2_takesSemicolon 21 = .ok (.aload_n 0, 1) := by decide +kernel
theorem dX2_takesSemicolon_22 : decode cX2_takesSemicolon 22 = .ok (.iconst 0, 1) := by decide +kernel
theorem dX2_takesSemicolon_23 : decode cX2_takesSemicolon 23 = .ok (.putfield 36, 3) := by decide +kernel
theorem dX2_takesSemicolon_26 : decode cX2_takesSemicolon 26 = .ok (.iconst 1, 1) := by decide +kernel
theorem dX2_takesSemicolon_27 : decode cX2_takesSemicolon 27 = .ok (.ireturn, 1) := by decide +kernel
end
section
set_option maxRecDepth 20000 in
theorem ggX3_init_X2_init : GoodIn wsX3_init wsX2_init := goodIn_r _ [20, 21, 2, 3, 22, 23, 24, 25, 26, 27, 28, 29, 30, 31, 32, 33, 34, 35, 36, 37, 38, 99, 100, 70, 71, 72, 73, 74, 75, 76, 77, 78, 79, 80, 81, 82, 83, 84] (by decide +kernel) (by decide +kernel)
set_option maxRecDepth 20000 in
theorem gX3_init_X2_init_n11 : GoodIn wsX3_init (wsX2_init) := ggX3_init_X2_init
set_option maxRecDepth 20000 in
theorem ggX3_init_X0_init : GoodIn wsX3_init wsX0_init := goodIn_r _ [40, 41, 2, 3, 42, 23, 24, 43, 44, 45, 46, 47, 48, 29, 30, 31, 32, 33, 34, 35, 36, 37, 38, 99, 100, 94, 95, 96, 97, 98] (by decide +kernel) (by decide +kernel)
set_option maxRecDepth 20000 in
theorem gX3_init_X0_init_n18 : GoodIn wsX3_init (wsX0_init) := ggX3_init_X0_init
set_option maxRecDepth 20000 in
theorem ggX3_init_X0_begin : GoodIn wsX3_init wsX0_begin := goodIn_r _ [52, 53, 54, 55, 56, 10, 57, 43, 44, 45, 46, 47, 58, 59, 60, 24, 61, 32, 62, 63, 64, 65, 66, 67, 68, 69, 38, 94, 95, 96, 97, 98, 99, 100] (by decide +kernel) (by decide +kernel)
set_option maxRecDepth 20000 in
theorem gX3_init_X0_begin : GoodIn wsX3_init (wsV RX3 46 RX0 yX0_begin wsX0_begin) := goodIn_app (goodIn_of _ (by decide +kernel)) ggX3_init_X0_begin
theorem dX3_init_0 : decode cX3_init 0 = .ok (.aload_n 0, 1) := by decide +kernel
theorem dX3_init_1 : decode cX3_init 1 = .ok (.invokespecial 3, 3) := by decide +kernel
theorem dX3_init_4 : decode cX3_init 4 = .ok (.aload_n 0, 1) := by decide +kernel
theorem dX3_init_5 : decode cX3_init 5 = .ok (.new 9, 3) := by decide +kernel
theorem dX3_init_8 : decode cX3_init 8 = .ok (.dup, 1) := by decide +kernel
theorem dX3_init_9 : decode cX3_init 9 = .ok (.invokespecial 11, 3) := by decide +kernel
theorem dX3_init_12 : decode cX3_init 12 = .ok (.putfield 12, 3) := by decide +kernel
theorem dX3_init_15 : decode cX3_init 15 = .ok (.aload_n 0, 1) := by decide +kernel
theorem dX3_init_16 : decode cX3_init 16 = .ok (.new 16, 3) := by decide +kernel
theorem dX3_init_19 : decode cX3_init 19 = .ok (.dup, 1) := by decide +kernel
theorem dX3_init_20 : decode cX3_init 20 = .ok (.invokespecial 18, 3) := by decide +kernel
theorem dX3_init_23 : decode cX3_init 23 = .ok (.putfield 19, 3) := by decide +kernel
theorem dX3_init_26 : decode cX3_init 26 = .ok (.aload_n 0, 1) := by decide +kernel
theorem dX3_init_27 : decode cX3_init 27 = .ok (.new 16, 3) := by decide +kernel
theorem dX3_init_30 : decode cX3_init 30 = .ok (.dup, 1) := by decide +kernel
theorem dX3_init_31 : decode cX3_init 31 = .ok (.invokespecial 18, 3) := by decide +kernel
theorem dX3_init_34 : decode cX3_init 34 = .ok (.putfield 23, 3) := by decide +kernel
theorem dX3_init_37 : decode cX3_init 37 = .ok (.aload_n 0, 1) := by decide +kernel
theorem dX3_init_38 : decode cX3_init 38 = .ok (.new 16, 3) := by decide +kernel
theorem dX3_init_41 : decode cX3_init 41 = .ok (.dup, 1) := by decide +kernel
theorem dX3_init_42 : decode cX3_init 42 = .ok (.invokespecial 18, 3) := by decide +kernel
theorem dX3_init_45 : decode cX3_init 45 = .ok (.putfield 26, 3) := by decide +kernel
theorem dX3_init_48 : decode cX3_init 48 = .ok (.aload_n 0, 1) := by decide +kernel
theorem dX3_init_49 : decode cX3_init 49 = .ok (.iconst 5, 1) := by decide +kernel
theorem dX3_init_50 : decode cX3_init 50 = .ok (.putfield 29, 3) := by decide +kernel
theorem dX3_init_53 : decode cX3_init 53 = .ok (.aload_n 0, 1) := by decide +kernel
theorem dX3_init_54 : decode cX3_init 54 = .ok (.iconst 1, 1) := by decide +kernel
theorem dX3_init_55 : decode cX3_init 55 = .ok (.putfield 33, 3) := by decide +kernel
theorem dX3_init_58 : decode cX3_init 58 = .ok (.aload_n 0, 1) := by decide +kernel
theorem dX3_init_59 : decode cX3_init 59 = .ok (.iconst 0, 1) := by decide +kernel
theorem dX3_init_60 : decode cX3_init 60 = .ok (.putfield 36, 3) := by decide +kernel
theorem dX3_init_63 : decode cX3_init 63 = .ok (.aload_n 0, 1) := by decide +kernel
theorem dX3_init_64 : decode cX3_init 64 = .ok (.iconst 0, 1) := by decide +kernel
theorem dX3_init_65 : decode cX3_init 65 = .ok (.putfield 39, 3) := by decide +kernel
theorem dX3_init_68 : decode cX3_init 68 = .ok (.aload_n 0, 1) := by decide +kernel
theorem dX3_init_69 : decode cX3_init 69 = .ok (.lconst 0, 1) := by decide +kernel
theorem dX3_init_70 : decode cX3_init 70 = .ok (.putfield 42, 3) := by decide +kernel
theorem dX3_init_73 : decode cX3_init 73 = .ok (.aload_n 0, 1) := by decide +kernel
theorem dX3_init_74 : decode cX3_init 74 = .ok (.getfield 19, 3) := by decide +kernel
theorem dX3_init_77 : decode cX3_init 77 = .ok (.iconst 5, 1) := by decide +kernel
theorem dX3_init_78 : decode cX3_init 78 = .ok (.iconst 1, 1) := by decide +kernel
theorem dX3_init_79 : decode cX3_init 79 = .ok (.invokevirtual 46, 3) := by decide +kernel
theorem dX3_init_82 : decode cX3_init 82 = .ok (.return_, 1) := by decide +kernel
set_option maxRecDepth 20000 in
theorem ggX3_type_X1_hasRoom : GoodIn wsX3_type wsX1_hasRoom := goodIn_r _ [7, 8, 9, 42, 43] (by decide +kernel) (by decide +kernel)
set_option maxRecDepth 20000 in
theorem gX3_type_X1_hasRoom : GoodIn wsX3_type (wsV RX3 54 RX1 yX1_hasRoom wsX1_hasRoom) := goodIn_app (goodIn_of _ (by decide +kernel)) ggX3_type_X1_hasRoom
set_option maxRecDepth 20000 in
theorem ggX3_type_X1_add : GoodIn wsX3_type wsX1_add := goodIn_r _ [13, 8, 9, 42, 43] (by decide +kernel) (by decide +kernel)
set_option maxRecDepth 20000 in
theorem gX3_type_X1_add : GoodIn wsX3_type (wsV RX3 62 RX1 yX1_add wsX1_add) := goodIn_app (goodIn_of _ (by decide +kernel)) ggX3_type_X1_add
set_option maxRecDepth 20000 in
theorem ggX3_type_X1_size : GoodIn wsX3_type wsX1_size := goodIn_r _ [17, 8, 42, 43] (by decide +kernel) (by decide +kernel)
set_option maxRecDepth 20000 in
theorem gX3_type_X1_size : GoodIn wsX3_type (wsV RX3 66 RX1 yX1_size wsX1_size) := goodIn_app (goodIn_of _ (by decide +kernel)) ggX3_type_X1_size
theorem dX3_type_0 : decode cX3_type 0 = .ok (.iload_n 3, 1) := by decide +kernel
theorem dX3_type_1 : decode cX3_type 1 = .ok (.iconst 1, 1) := by decide +kernel
theorem dX3_type_2 : decode cX3_type 2 = .ok (.if_icmp .lt 9, 3) := by decide +kernel
theorem dX3_type_5 : decode cX3_type 5 = .ok (.iload_n 3, 1) := by decide +kernel
theorem dX3_type_6 : decode cX3_type 6 = .ok (.bipush 8, 2) := by decide +kernel
theorem dX3_type_8 : decode cX3_type 8 = .ok (.if_icmp .le 5, 3) := by decide +kernel
theorem dX3_type_11 : decode cX3_type 11 = .ok (.iconst (-1), 1) := by decide +kernel
theorem dX3_type_12 : decode cX3_type 12 = .ok (.ireturn, 1) := by decide +kernel
theorem dX3_type_13 : decode cX3_type 13 = .ok (.aload_n 0, 1) := by decide +kernel
theorem dX3_type_14 : decode cX3_type 14 = .ok (.getfield 12, 3) := by decide +kernel
theorem dX3_type_17 : decode cX3_type 17 = .ok (.getfield 50, 3) := by decide +kernel
theorem dX3_type_20 : decode cX3_type 20 = .ok (.iload_n 3, 1) := by decide +kernel
theorem dX3_type_21 : decode cX3_type 21 = .ok (.invokevirtual 54, 3) := by decide +kernel
theorem dX3_type_24 : decode cX3_type 24 = .ok (.ifCond .ne 6, 3) := by decide +kernel
theorem dX3_type_27 : decode cX3_type 27 = .ok (.bipush (-3), 2) := by decide +kernel
theorem dX3_type_29 : decode cX3_type 29 = .ok (.ireturn, 1) := by decide +kernel
theorem dX3_type_30 : decode cX3_type 30 = .ok (.iload_n 3, 1) := by decide +kernel
theorem dX3_type_31 : decode cX3_type 31 = .ok (.iconst 1, 1) := by decide +kernel
theorem dX3_type_32 : decode cX3_type 32 = .ok (.isub, 1) := by decide +kernel
theorem dX3_type_33 : decode cX3_type 33 = .ok (.istore 4, 2) := by decide +kernel
theorem dX3_type_35 : decode cX3_type 35 = .ok (.iload 4, 2) := by decide +kernel
theorem dX3_type_37 : decode cX3_type 37 = .ok (.ifCond .lt 30, 3) := by decide +kernel
theorem dX3_type_40 : decode cX3_type 40 = .ok (.aload_n 0, 1) := by decide +kernel
theorem dX3_type_41 : decode cX3_type 41 = .ok (.getfield 12, 3) := by decide +kernel
theorem dX3_type_44 : decode cX3_type 44 = .ok (.getfield 50, 3) := by decide +kernel
theorem dX3_type_47 : decode cX3_type 47 = .ok (.lload_n 1, 1) := by decide +kernel
theorem dX3_type_48 : decode cX3_type 48 = .ok (.bipush 8, 2) := by decide +kernel
theorem dX3_type_50 : decode cX3_type 50 = .ok (.iload 4, 2) := by decide +kernel
theorem dX3_type_52 : decode cX3_type 52 = .ok (.imul, 1) := by decide +kernel
theorem dX3_type_53 : decode cX3_type 53 = .ok (.lshr, 1) := by decide +kernel
theorem dX3_type_54 : decode cX3_type 54 = .ok (.ldc2_w 60, 3) := by decide +kernel
theorem dX3_type_57 : decode cX3_type 57 = .ok (.land, 1) := by decide +kernel
theorem dX3_type_58 : decode cX3_type 58 = .ok (.invokevirtual 62, 3) := by decide +kernel
theorem dX3_type_61 : decode cX3_type 61 = .ok (.iinc 4 (-1), 3) := by decide +kernel
theorem dX3_type_64 : decode cX3_type 64 = .ok (.goto (-29), 3) := by decide +kernel
theorem dX3_type_67 : decode cX3_type 67 = .ok (.aload_n 0, 1) := by decide +kernel
theorem dX3_type_68 : decode cX3_type 68 = .ok (.getfield 12, 3) := by decide +kernel
theorem dX3_type_71 : decode cX3_type 71 = .ok (.getfield 50, 3) := by decide +kernel
theorem dX3_type_74 : decode cX3_type 74 = .ok (.invokevirtual 66, 3) := by decide +kernel
theorem dX3_type_77 : decode cX3_type 77 = .ok (.ireturn, 1) := by decide +kernel
set_option maxRecDepth 20000 in
theorem ggX3_clear_X1_empty : GoodIn wsX3_clear wsX1_empty := goodIn_r _ [6, 7, 32, 33] (by decide +kernel) (by decide +kernel)
set_option maxRecDepth 20000 in
theorem gX3_clear_X1_empty : GoodIn wsX3_clear (wsV RX3 70 RX1 yX1_empty wsX1_empty) := goodIn_app (goodIn_of _ (by decide +kernel)) ggX3_clear_X1_empty
theorem dX3_clear_0 : decode cX3_clear 0 = .ok (.aload_n 0, 1) := by decide +kernel
theorem dX3_clear_1 : decode cX3_clear 1 = .ok (.getfield 12, 3) := by decide +kernel
theorem dX3_clear_4 : decode cX3_clear 4 = .ok (.getfield 50, 3) := by decide +kernel
theorem dX3_clear_7 : decode cX3_clear 7 = .ok (.invokevirtual 70, 3) := by decide +kernel
theorem dX3_clear_10 : decode cX3_clear 10 = .ok (.ireturn, 1) := by decide +kernel
set_option maxRecDepth 20000 in
theorem ggX3_strip_X2_read : GoodIn wsX3_strip wsX2_read := goodIn_r _ [13, 14, 15, 16, 17, 18, 19, 12, 20, 21, 22, 23, 24, 25, 26, 27, 28, 29, 30, 31, 32, 33, 34, 35, 36, 37, 38, 39, 40, 41, 42, 43, 44, 45, 46, 47, 48, 49, 50, 51, 52, 53, 54, 55, 56, 57, 58, 59, 60, 61, 62, 63, 64, 65, 66, 67, 68, 69, 70, 71, 72, 73, 74, 75, 76, 77, 78, 79, 80, 81, 82, 83, 84, 85, 86, 87, 88, 89, 90, 91, 92, 93, 94, 95, 96, 97, 98, 99, 100, 101, 102, 103, 104, 105, 106, 107, 108, 109, 110, 111, 112, 113, 114, 115, 116, 117, 118, 119, 120, 121, 122, 123, 124, 125, 126, 127, 128, 129, 130, 131, 132, 133, 134, 135, 136, 137, 138, 139, 140, 141, 142, 143, 144, 145, 146, 147, 148, 149, 150, 151, 152, 153, 154, 155, 156, 157, 158, 159, 160, 161, 162, 163, 164, 165, 166, 167, 168, 169, 170, 171, 172, 173, 174, 218, 219, 220, 221, 222, 223, 224, 225, 226, 227, 228, 229, 230, 231, 232, 233, 234] (by decide +kernel) (by decide +kernel)
set_option maxRecDepth 20000 in
theorem gX3_strip_X2_read : GoodIn wsX3_strip (wsV RX3 73 RX2 yX2_read wsX2_read) := goodIn_app (goodIn_of _ (by decide +kernel)) ggX3_strip_X2_read
set_option maxRecDepth 20000 in
theorem ggX3_strip_X0_begin : GoodIn wsX3_strip wsX0_begin := goodIn_r _ [179, 180, 181, 182, 183, 178, 184, 185, 186, 187, 188, 189, 190, 31, 32, 33, 34, 35, 191, 192, 193, 194, 195, 164, 165, 166, 51, 235, 236, 237, 238, 239, 233, 234] (by decide +kernel) (by decide +kernel)
set_option maxRecDepth 20000 in
theorem gX3_strip_X0_begin : GoodIn wsX3_strip (wsV RX3 46 RX0 yX0_begin wsX0_begin) := goodIn_app (goodIn_of _ (by decide +kernel)) ggX3_strip_X0_begin
set_option maxRecDepth 20000 in
theorem ggX3_strip_X1_size : GoodIn wsX3_strip wsX1_size := goodIn_r _ [46, 35, 233, 234] (by decide +kernel) (by decide +kernel)
set_option maxRecDepth 20000 in
theorem gX3_strip_X1_size : GoodIn wsX3_strip (wsV RX3 66 RX1 yX1_size wsX1_size) := goodIn_app (goodIn_of _ (by decide +kernel)) ggX3_strip_X1_size
set_option maxRecDepth 20000 in
theorem ggX3_strip_X1_at : GoodIn wsX3_strip wsX1_at := goodIn_r _ [50, 51, 233, 234] (by decide +kernel) (by decide +kernel)
set_option maxRecDepth 20000 in
theorem gX3_strip_X1_at : GoodIn wsX3_strip (wsV RX3 83 RX1 yX1_at wsX1_at) := goodIn_app (goodIn_of _ (by decide +kernel)) ggX3_strip_X1_at
set_option maxRecDepth 20000 in
theorem ggX3_strip_X0_bring : GoodIn wsX3_strip wsX0_bring := goodIn_r _ [201, 185, 186, 187, 180, 202, 203, 178, 204, 205, 206, 48, 49, 33, 50, 51, 191, 192, 193, 194, 195, 164, 165, 166, 35, 235, 236, 237, 238, 239, 233, 234] (by decide +kernel) (by decide +kernel)
set_option maxRecDepth 20000 in
theorem gX3_strip_X0_bring : GoodIn wsX3_strip (wsV RX3 90 RX0 yX0_bring wsX0_bring) := goodIn_app (goodIn_of _ (by decide +kernel)) ggX3_strip_X0_bring
set_option maxRecDepth 20000 in
theorem ggX3_strip_X0_empty : GoodIn wsX3_strip wsX0_empty := goodIn_r _ [184, 185, 186, 187, 188, 189, 190, 31, 32, 33, 34, 35, 235, 236, 237, 238, 239, 233, 234] (by decide +kernel) (by decide +kernel)
set_option maxRecDepth 20000 in
theorem gX3_strip_X0_empty : GoodIn wsX3_strip (wsV RX3 93 RX0 yX0_empty wsX0_empty) := goodIn_app (goodIn_of _ (by decide +kernel)) ggX3_strip_X0_empty
set_option maxRecDepth 20000 in
theorem ggX3_strip_X1_empty : GoodIn wsX3_strip wsX1_empty := goodIn_r _ [34, 35, 233, 234] (by decide +kernel) (by decide +kernel)
set_option maxRecDepth 20000 in
theorem gX3_strip_X1_empty : GoodIn wsX3_strip (wsV RX3 70 RX1 yX1_empty wsX1_empty) := goodIn_app (goodIn_of _ (by decide +kernel)) ggX3_strip_X1_empty
theorem dX3_strip_0 : decode cX3_strip 0 = .ok (.aload_n 0, 1) := by decide +kernel
theorem dX3_strip_1 : decode cX3_strip 1 = .ok (.getfield 12, 3) := by decide +kernel
theorem dX3_strip_4 : decode cX3_strip 4 = .ok (.invokevirtual 73, 3) := by decide +kernel
theorem dX3_strip_7 : decode cX3_strip 7 = .ok (.istore_n 1, 1) := by decide +kernel
theorem dX3_strip_8 : decode cX3_strip 8 = .ok (.iload_n 1, 1) := by decide +kernel
theorem dX3_strip_9 : decode cX3_strip 9 = .ok (.ifCond .lt 8, 3) := by decide +kernel
theorem dX3_strip_12 : decode cX3_strip 12 = .ok (.bipush (-10), 2) := by decide +kernel
theorem dX3_strip_14 : decode cX3_strip 14 = .ok (.iload_n 1, 1) := by decide +kernel
theorem dX3_strip_15 : decode cX3_strip 15 = .ok (.isub, 1) := by decide +kernel
theorem dX3_strip_16 : decode cX3_strip 16 = .ok (.ireturn, 1) := by decide +kernel
theorem dX3_strip_17 : decode cX3_strip 17 = .ok (.aload_n 0, 1) := by decide +kernel
theorem dX3_strip_18 : decode cX3_strip 18 = .ok (.aload_n 0, 1) := by decide +kernel
theorem dX3_strip_19 : decode cX3_strip 19 = .ok (.getfield 12, 3) := by decide +kernel
theorem dX3_strip_22 : decode cX3_strip 22 = .ok (.getfield 76, 3) := by decide +kernel
theorem dX3_strip_25 : decode cX3_strip 25 = .ok (.putfield 29, 3) := by decide +kernel
theorem dX3_strip_28 : decode cX3_strip 28 = .ok (.aload_n 0, 1) := by decide +kernel
theorem dX3_strip_29 : decode cX3_strip 29 = .ok (.aload_n 0, 1) := by decide +kernel
theorem dX3_strip_30 : decode cX3_strip 30 = .ok (.getfield 12, 3) := by decide +kernel
theorem dX3_strip_33 : decode cX3_strip 33 = .ok (.getfield 77, 3) := by decide +kernel
theorem dX3_strip_36 : decode cX3_strip 36 = .ok (.putfield 33, 3) := by decide +kernel
theorem dX3_strip_39 : decode cX3_strip 39 = .ok (.aload_n 0, 1) := by decide +kernel
theorem dX3_strip_40 : decode cX3_strip 40 = .ok (.aload_n 0, 1) := by decide +kernel
theorem dX3_strip_41 : decode cX3_strip 41 = .ok (.getfield 12, 3) := by decide +kernel
theorem dX3_strip_44 : decode cX3_strip 44 = .ok (.getfield 78, 3) := by decide +kernel
theorem dX3_strip_47 : decode cX3_strip 47 = .ok (.putfield 36, 3) := by decide +kernel
theorem dX3_strip_50 : decode cX3_strip 50 = .ok (.aload_n 0, 1) := by decide +kernel
theorem dX3_strip_51 : decode cX3_strip 51 = .ok (.aload_n 0, 1) := by decide +kernel
theorem dX3_strip_52 : decode cX3_strip 52 = .ok (.getfield 12, 3) := by decide +kernel
theorem dX3_strip_55 : decode cX3_strip 55 = .ok (.getfield 79, 3) := by decide +kernel
theorem dX3_strip_58 : decode cX3_strip 58 = .ok (.putfield 39, 3) := by decide +kernel
theorem dX3_strip_61 : decode cX3_strip 61 = .ok (.aload_n 0, 1) := by decide +kernel
theorem dX3_strip_62 : decode cX3_strip 62 = .ok (.getfield 19, 3) := by decide +kernel
theorem dX3_strip_65 : decode cX3_strip 65 = .ok (.aload_n 0, 1) := by decide +kernel
theorem dX3_strip_66 : decode cX3_strip 66 = .ok (.getfield 29, 3) := by decide +kernel
theorem dX3_strip_69 : decode cX3_strip 69 = .ok (.aload_n 0, 1) := by decide +kernel
theorem dX3_strip_70 : decode cX3_strip 70 = .ok (.getfield 33, 3) := by decide +kernel
theorem dX3_strip_73 : decode cX3_strip 73 = .ok (.invokevirtual 46, 3) := by decide +kernel
theorem dX3_strip_76 : decode cX3_strip 76 = .ok (.iconst 0, 1) := by decide +kernel
theorem dX3_strip_77 : decode cX3_strip 77 = .ok (.istore_n 2, 1) := by decide +kernel
theorem dX3_strip_78 : decode cX3_strip 78 = .ok (.iload_n 2, 1) := by decide +kernel
theorem dX3_strip_79 : decode cX3_strip 79 = .ok (.aload_n 0, 1) := by decide +kernel
theorem dX3_strip_80 : decode cX3_strip 80 = .ok (.getfield 12, 3) := by decide +kernel
theorem dX3_strip_83 : decode cX3_strip 83 = .ok (.getfield 80, 3) := by decide +kernel
theorem dX3_strip_86 : decode cX3_strip 86 = .ok (.invokevirtual 66, 3) := by decide +kernel
theorem dX3_strip_89 : decode cX3_strip 89 = .ok (.if_icmp .ge 40, 3) := by decide +kernel
theorem dX3_strip_92 : decode cX3_strip 92 = .ok (.aload_n 0, 1) := by decide +kernel
theorem dX3_strip_93 : decode cX3_strip 93 = .ok (.getfield 19, 3) := by decide +kernel
theorem dX3_strip_96 : decode cX3_strip 96 = .ok (.aload_n 0, 1) := by decide +kernel
theorem dX3_strip_97 : decode cX3_strip 97 = .ok (.getfield 12, 3) := by decide +kernel
theorem dX3_strip_100 : decode cX3_strip 100 = .ok (.getfield 80, 3) := by decide +kernel
theorem dX3_strip_103 : decode cX3_strip 103 = .ok (.iload_n 2, 1) := by decide +kernel
theorem dX3_strip_104 : decode cX3_strip 104 = .ok (.invokevirtual 83, 3) := by decide +kernel
theorem dX3_strip_107 : decode cX3_strip 107 = .ok (.l2i, 1) := by decide +kernel
theorem dX3_strip_108 : decode cX3_strip 108 = .ok (.aload_n 0, 1) := by decide +kernel
theorem dX3_strip_109 : decode cX3_strip 109 = .ok (.getfield 12, 3) := by decide +kernel
theorem dX3_strip_112 : decode cX3_strip 112 = .ok (.getfield 87, 3) := by decide +kernel
theorem dX3_strip_115 : decode cX3_strip 115 = .ok (.iload_n 2, 1) := by decide +kernel
theorem dX3_strip_116 : decode cX3_strip 116 = .ok (.invokevirtual 83, 3) := by decide +kernel
theorem dX3_strip_119 : decode cX3_strip 119 = .ok (.l2i, 1) := by decide +kernel
theorem dX3_strip_120 : decode cX3_strip 120 = .ok (.invokevirtual 90, 3) := by decide +kernel
theorem dX3_strip_123 : decode cX3_strip 123 = .ok (.iinc 2 1, 3) := by decide +kernel
theorem dX3_strip_126 : decode cX3_strip 126 = .ok (.goto (-48), 3) := by decide +kernel
theorem dX3_strip_129 : decode cX3_strip 129 = .ok (.aload_n 0, 1) := by decide +kernel
theorem dX3_strip_130 : decode cX3_strip 130 = .ok (.getfield 23, 3) := by decide +kernel
theorem dX3_strip_133 : decode cX3_strip 133 = .ok (.invokevirtual 93, 3) := by decide +kernel
theorem dX3_strip_136 : decode cX3_strip 136 = .ok (.aload_n 0, 1) := by decide +kernel
theorem dX3_strip_137 : decode cX3_strip 137 = .ok (.getfield 26, 3) := by decide +kernel
theorem dX3_strip_140 : decode cX3_strip 140 = .ok (.invokevirtual 93, 3) := by decide +kernel
theorem dX3_strip_143 : decode cX3_strip 143 = .ok (.aload_n 0, 1) := by decide +kernel
theorem dX3_strip_144 : decode cX3_strip 144 = .ok (.getfield 12, 3) := by decide +kernel
theorem dX3_strip_147 : decode cX3_strip 147 = .ok (.getfield 50, 3) := by decide +kernel
theorem dX3_strip_150 : decode cX3_strip 150 = .ok (.invokevirtual 70, 3) := by decide +kernel
theorem dX3_strip_153 : decode cX3_strip 153 = .ok (.pop, 1) := by decide +kernel
theorem dX3_strip_154 : decode cX3_strip 154 = .ok (.aload_n 0, 1) := by decide +kernel
theorem dX3_strip_155 : decode cX3_strip 155 = .ok (.getfield 12, 3) := by decide +kernel
theorem dX3_strip_158 : decode cX3_strip 158 = .ok (.getfield 95, 3) := by decide +kernel
theorem dX3_strip_161 : decode cX3_strip 161 = .ok (.ireturn, 1) := by decide +kernel
set_option maxRecDepth 20000 in
theorem ggX3_crease_X3_isCrease : GoodIn wsX3_crease wsX3_isCrease := goodIn_r _ [9, 2, 10, 11, 12, 13, 14, 15, 16, 17, 18, 19, 20, 21, 40, 41, 42, 43, 44, 45, 46, 47, 48, 49, 50, 51, 52, 53, 54, 55] (by decide +kernel) (by decide +kernel)
set_option maxRecDepth 20000 in
theorem gX3_crease_X3_isCrease : GoodIn wsX3_crease (wsV RX3 98 RX3 yX3_isCrease wsX3_isCrease) := goodIn_app (goodIn_of _ (by decide +kernel)) ggX3_crease_X3_isCrease
set_option maxRecDepth 20000 in
theorem ggX3_crease_X1_at : GoodIn wsX3_crease wsX1_at := goodIn_r _ [25, 26, 54, 55] (by decide +kernel) (by decide +kernel)
set_option maxRecDepth 20000 in
theorem gX3_crease_X1_at : GoodIn wsX3_crease (wsV RX3 83 RX1 yX1_at wsX1_at) := goodIn_app (goodIn_of _ (by decide +kernel)) ggX3_crease_X1_at
set_option maxRecDepth 20000 in
theorem ggX3_crease_X3_leastUpper : GoodIn wsX3_crease wsX3_leastUpper := goodIn_r _ [29, 30, 31, 8, 32] (by decide +kernel) (by decide +kernel)
set_option maxRecDepth 20000 in
theorem gX3_crease_X3_leastUpper : GoodIn wsX3_crease (va_wsS RX3 108 yX3_leastUpper wsX3_leastUpper) := goodIn_app (goodIn_of _ (by decide +kernel)) ggX3_crease_X3_leastUpper
set_option maxRecDepth 20000 in
theorem ggX3_crease_X3_leastLower : GoodIn wsX3_crease wsX3_leastLower := goodIn_r _ [35, 30, 31, 8, 32] (by decide +kernel) (by decide +kernel)
set_option maxRecDepth 20000 in
theorem gX3_crease_X3_leastLower : GoodIn wsX3_crease (va_wsS RX3 112 yX3_leastLower wsX3_leastLower) := goodIn_app (goodIn_of _ (by decide +kernel)) ggX3_crease_X3_leastLower
set_option maxRecDepth 20000 in
theorem ggX3_crease_X3_partOf : GoodIn wsX3_crease wsX3_partOf := goodIn_r _ [39, 2, 4, 22, 23, 24, 19, 25, 26, 40, 41, 42, 43, 44, 45, 46, 47, 48, 49, 50, 51, 52, 53, 54, 55] (by decide +kernel) (by decide +kernel)
set_option maxRecDepth 20000 in
theorem gX3_crease_X3_partOf : GoodIn wsX3_crease (wsV RX3 121 RX3 yX3_partOf wsX3_partOf) := goodIn_app (goodIn_of _ (by decide +kernel)) ggX3_crease_X3_partOf
theorem dX3_crease_0 : decode cX3_crease 0 = .ok (.aload_n 0, 1) := by decide +kernel
theorem dX3_crease_1 : decode cX3_crease 1 = .ok (.iload_n 1, 1) := by decide +kernel
theorem dX3_crease_2 : decode cX3_crease 2 = .ok (.invokevirtual 98, 3) := by decide +kernel
theorem dX3_crease_5 : decode cX3_crease 5 = .ok (.ifCond .eq 13, 3) := by decide +kernel
theorem dX3_crease_8 : decode cX3_crease 8 = .ok (.iload_n 2, 1) := by decide +kernel
theorem dX3_crease_9 : decode cX3_crease 9 = .ok (.ifCond .lt 9, 3) := by decide +kernel
theorem dX3_crease_12 : decode cX3_crease 12 = .ok (.iload_n 2, 1) := by decide +kernel
theorem dX3_crease_13 : decode cX3_crease 13 = .ok (.bipush 6, 2) := by decide +kernel
theorem dX3_crease_15 : decode cX3_crease 15 = .ok (.if_icmp .le 7, 3) := by decide +kernel
theorem dX3_crease_18 : decode cX3_crease 18 = .ok (.ldc2_w 101, 3) := by decide +kernel
theorem dX3_crease_21 : decode cX3_crease 21 = .ok (.lreturn, 1) := by decide +kernel
theorem dX3_crease_22 : decode cX3_crease 22 = .ok (.iload_n 2, 1) := by decide +kernel
theorem dX3_crease_23 : decode cX3_crease 23 = .ok (.tableswitch 157 0 5 #[37, 61, 85, 103, 121, 139], 37) := by decide +kernel
theorem dX3_crease_60 : decode cX3_crease 60 = .ok (.aload_n 0, 1) := by decide +kernel
theorem dX3_crease_61 : decode cX3_crease 61 = .ok (.getfield 19, 3) := by decide +kernel
theorem dX3_crease_64 : decode cX3_crease 64 = .ok (.getfield 103, 3) := by decide +kernel
theorem dX3_crease_67 : decode cX3_crease 67 = .ok (.iload_n 1, 1) := by decide +kernel
theorem dX3_crease_68 : decode cX3_crease 68 = .ok (.invokevirtual 83, 3) := by decide +kernel
theorem dX3_crease_71 : decode cX3_crease 71 = .ok (.aload_n 0, 1) := by decide +kernel
theorem dX3_crease_72 : decode cX3_crease 72 = .ok (.getfield 29, 3) := by decide +kernel
theorem dX3_crease_75 : decode cX3_crease 75 = .ok (.i2l, 1) := by decide +kernel
theorem dX3_crease_76 : decode cX3_crease 76 = .ok (.ldc2_w 106, 3) := by decide +kernel
theorem dX3_crease_79 : decode cX3_crease 79 = .ok (.lmul, 1) := by decide +kernel
theorem dX3_crease_80 : decode cX3_crease 80 = .ok (.invokestatic 108, 3) := by decide +kernel
theorem dX3_crease_83 : decode cX3_crease 83 = .ok (.lreturn, 1) := by decide +kernel
theorem dX3_crease_84 : decode cX3_crease 84 = .ok (.aload_n 0, 1) := by decide +kernel
theorem dX3_crease_85 : decode cX3_crease 85 = .ok (.getfield 19, 3) := by decide +kernel
theorem dX3_crease_88 : decode cX3_crease 88 = .ok (.getfield 103, 3) := by decide +kernel
theorem dX3_crease_91 : decode cX3_crease 91 = .ok (.iload_n 1, 1) := by decide +kernel
theorem dX3_crease_92 : decode cX3_crease 92 = .ok (.invokevirtual 83, 3) := by decide +kernel
theorem dX3_crease_95 : decode cX3_crease 95 = .ok (.aload_n 0, 1) := by decide +kernel
theorem dX3_crease_96 : decode cX3_crease 96 = .ok (.getfield 29, 3) := by decide +kernel
theorem dX3_crease_99 : decode cX3_crease 99 = .ok (.i2l, 1) := by decide +kernel
theorem dX3_crease_100 : decode cX3_crease 100 = .ok (.ldc2_w 106, 3) := by decide +kernel
theorem dX3_crease_103 : decode cX3_crease 103 = .ok (.lmul, 1) := by decide +kernel
theorem dX3_crease_104 : decode cX3_crease 104 = .ok (.invokestatic 112, 3) := by decide +kernel
theorem dX3_crease_107 : decode cX3_crease 107 = .ok (.lreturn, 1) := by decide +kernel
theorem dX3_crease_108 : decode cX3_crease 108 = .ok (.aload_n 0, 1) := by decide +kernel
theorem dX3_crease_109 : decode cX3_crease 109 = .ok (.getfield 19, 3) := by decide +kernel
theorem dX3_crease_112 : decode cX3_crease 112 = .ok (.getfield 115, 3) := by decide +kernel
theorem dX3_crease_115 : decode cX3_crease 115 = .ok (.iload_n 1, 1) := by decide +kernel
theorem dX3_crease_116 : decode cX3_crease 116 = .ok (.invokevirtual 83, 3) := by decide +kernel
theorem dX3_crease_119 : decode cX3_crease 119 = .ok (.ldc2_w 106, 3) := by decide +kernel
theorem dX3_crease_122 : decode cX3_crease 122 = .ok (.invokestatic 108, 3) := by decide +kernel
theorem dX3_crease_125 : decode cX3_crease 125 = .ok (.lreturn, 1) := by decide +kernel
theorem dX3_crease_126 : decode cX3_crease 126 = .ok (.aload_n 0, 1) := by decide +kernel
theorem dX3_crease_127 : decode cX3_crease 127 = .ok (.getfield 19, 3) := by decide +kernel
theorem dX3_crease_130 : decode cX3_crease 130 = .ok (.getfield 115, 3) := by decide +kernel
theorem dX3_crease_133 : decode cX3_crease 133 = .ok (.iload_n 1, 1) := by decide +kernel
theorem dX3_crease_134 : decode cX3_crease 134 = .ok (.invokevirtual 83, 3) := by decide +kernel
theorem dX3_crease_137 : decode cX3_crease 137 = .ok (.ldc2_w 106, 3) := by decide +kernel
theorem dX3_crease_140 : decode cX3_crease 140 = .ok (.invokestatic 112, 3) := by decide +kernel
theorem dX3_crease_143 : decode cX3_crease 143 = .ok (.lreturn, 1) := by decide +kernel
theorem dX3_crease_144 : decode cX3_crease 144 = .ok (.aload_n 0, 1) := by decide +kernel
theorem dX3_crease_145 : decode cX3_crease 145 = .ok (.getfield 19, 3) := by decide +kernel
theorem dX3_crease_148 : decode cX3_crease 148 = .ok (.getfield 118, 3) := by decide +kernel
theorem dX3_crease_151 : decode cX3_crease 151 = .ok (.iload_n 1, 1) := by decide +kernel
theorem dX3_crease_152 : decode cX3_crease 152 = .ok (.invokevirtual 83, 3) := by decide +kernel
theorem dX3_crease_155 : decode cX3_crease 155 = .ok (.ldc2_w 106, 3) := by decide +kernel
theorem dX3_crease_158 : decode cX3_crease 158 = .ok (.invokestatic 108, 3) := by decide +kernel
theorem dX3_crease_161 : decode cX3_crease 161 = .ok (.lreturn, 1) := by decide +kernel
theorem dX3_crease_162 : decode cX3_crease 162 = .ok (.aload_n 0, 1) := by decide +kernel
theorem dX3_crease_163 : decode cX3_crease 163 = .ok (.getfield 19, 3) := by decide +kernel
theorem dX3_crease_166 : decode cX3_crease 166 = .ok (.getfield 118, 3) := by decide +kernel
theorem dX3_crease_169 : decode cX3_crease 169 = .ok (.iload_n 1, 1) := by decide +kernel
theorem dX3_crease_170 : decode cX3_crease 170 = .ok (.invokevirtual 83, 3) := by decide +kernel
theorem dX3_crease_173 : decode cX3_crease 173 = .ok (.ldc2_w 106, 3) := by decide +kernel
theorem dX3_crease_176 : decode cX3_crease 176 = .ok (.invokestatic 112, 3) := by decide +kernel
theorem dX3_crease_179 : decode cX3_crease 179 = .ok (.lreturn, 1) := by decide +kernel
theorem dX3_crease_180 : decode cX3_crease 180 = .ok (.aload_n 0, 1) := by decide +kernel
theorem dX3_crease_181 : decode cX3_crease 181 = .ok (.iload_n 1, 1) := by decide +kernel
theorem dX3_crease_182 : decode cX3_crease 182 = .ok (.invokevirtual 121, 3) := by decide +kernel
theorem dX3_crease_185 : decode cX3_crease 185 = .ok (.i2l, 1) := by decide +kernel
theorem dX3_crease_186 : decode cX3_crease 186 = .ok (.lreturn, 1) := by decide +kernel
theorem dX3_told_0 : decode cX3_told 0 = .ok (.iload_n 1, 1) := by decide +kernel
theorem dX3_told_1 : decode cX3_told 1 = .ok (.tableswitch 51 0 3 #[31, 36, 41, 46], 31) := by decide +kernel
theorem dX3_told_32 : decode cX3_told 32 = .ok (.aload_n 0, 1) := by decide +kernel
theorem dX3_told_33 : decode cX3_told 33 = .ok (.getfield 29, 3) := by decide +kernel
theorem dX3_told_36 : decode cX3_told 36 = .ok (.ireturn, 1) := by decide +kernel
theorem dX3_told_37 : decode cX3_told 37 = .ok (.aload_n 0, 1) := by decide +kernel
theorem dX3_told_38 : decode cX3_told 38 = .ok (.getfield 33, 3) := by decide +kernel
theorem dX3_told_41 : decode cX3_told 41 = .ok (.ireturn, 1) := by decide +kernel
theorem dX3_told_42 : decode cX3_told 42 = .ok (.aload_n 0, 1) := by decide +kernel
theorem dX3_told_43 : decode cX3_told 43 = .ok (.getfield 36, 3) := by decide +kernel
theorem dX3_told_46 : decode cX3_told 46 = .ok (.ireturn, 1) := by decide +kernel
theorem dX3_told_47 : decode cX3_told 47 = .ok (.aload_n 0, 1) := by decide +kernel
theorem dX3_told_48 : decode cX3_told 48 = .ok (.getfield 39, 3) := by decide +kernel
theorem dX3_told_51 : decode cX3_told 51 = .ok (.ireturn, 1) := by decide +kernel
theorem dX3_told_52 : decode cX3_told 52 = .ok (.iconst (-1), 1) := by decide +kernel
theorem dX3_told_53 : decode cX3_told 53 = .ok (.ireturn, 1) := by decide +kernel
set_option maxRecDepth 20000 in
theorem ggX3_fold_X3_isCrease : GoodIn wsX3_fold wsX3_isCrease := goodIn_r _ [6, 1, 7, 8, 9, 10, 11, 12, 13, 14, 15, 16, 17, 18, 51, 52, 53, 54, 55, 56, 57, 58, 59, 60, 61, 62, 63, 64, 65, 66] (by decide +kernel) (by decide +kernel)
set_option maxRecDepth 20000 in
theorem gX3_fold_X3_isCrease : GoodIn wsX3_fold (wsV RX3 98 RX3 yX3_isCrease wsX3_isCrease) := goodIn_app (goodIn_of _ (by decide +kernel)) ggX3_fold_X3_isCrease
set_option maxRecDepth 20000 in
theorem ggX3_fold_X3_isFolded : GoodIn wsX3_fold wsX3_isFolded := goodIn_r _ [22, 1, 7, 8, 9, 10, 11, 12, 13, 14, 15, 16, 17, 18, 51, 52, 53, 54, 55, 56, 57, 58, 59, 60, 61, 62, 63, 64, 65, 66] (by decide +kernel) (by decide +kernel)
set_option maxRecDepth 20000 in
theorem gX3_fold_X3_isFolded : GoodIn wsX3_fold (wsV RX3 125 RX3 yX3_isFolded wsX3_isFolded) := goodIn_app (goodIn_of _ (by decide +kernel)) ggX3_fold_X3_isFolded
set_option maxRecDepth 20000 in
theorem ggX3_fold_X0_bring : GoodIn wsX3_fold wsX0_bring := goodIn_r _ [26, 12, 27, 28, 29, 30, 31, 10, 32, 33, 34, 35, 36, 16, 37, 38, 39, 40, 41, 42, 43, 44, 45, 46, 18, 60, 61, 62, 63, 64, 65, 66] (by decide +kernel) (by decide +kernel)
set_option maxRecDepth 20000 in
theorem gX3_fold_X0_bring : GoodIn wsX3_fold (wsV RX3 90 RX0 yX0_bring wsX0_bring) := goodIn_app (goodIn_of _ (by decide +kernel)) ggX3_fold_X0_bring
set_option maxRecDepth 20000 in
theorem ggX3_fold_X3_latest : GoodIn wsX3_fold wsX3_latest := goodIn_r _ [50, 1, 7, 8, 9, 10, 11, 12, 13, 14, 15, 16, 17, 18, 51, 52, 53, 54, 55, 56, 57, 58, 59, 60, 61, 62, 63, 64, 65, 66] (by decide +kernel) (by decide +kernel)
set_option maxRecDepth 20000 in
theorem gX3_fold_X3_latest : GoodIn wsX3_fold (wsV RX3 129 RX3 yX3_latest wsX3_latest) := goodIn_app (goodIn_of _ (by decide +kernel)) ggX3_fold_X3_latest
theorem dX3_fold_0 : decode cX3_fold 0 = .ok (.aload_n 0, 1) := by decide +kernel
theorem dX3_fold_1 : decode cX3_fold 1 = .ok (.iload_n 1, 1) := by decide +kernel
theorem dX3_fold_2 : decode cX3_fold 2 = .ok (.invokevirtual 98, 3) := by decide +kernel
theorem dX3_fold_5 : decode cX3_fold 5 = .ok (.ifCond .eq 16, 3) := by decide +kernel
theorem dX3_fold_8 : decode cX3_fold 8 = .ok (.aload_n 0, 1) := by decide +kernel
theorem dX3_fold_9 : decode cX3_fold 9 = .ok (.iload_n 2, 1) := by decide +kernel
theorem dX3_fold_10 : decode cX3_fold 10 = .ok (.invokevirtual 98, 3) := by decide +kernel
theorem dX3_fold_13 : decode cX3_fold 13 = .ok (.ifCond .eq 8, 3) := by decide +kernel
theorem dX3_fold_16 : decode cX3_fold 16 = .ok (.iload_n 1, 1) := by decide +kernel
theorem dX3_fold_17 : decode cX3_fold 17 = .ok (.iload_n 2, 1) := by decide +kernel
theorem dX3_fold_18 : decode cX3_fold 18 = .ok (.if_icmp .ne 5, 3) := by decide +kernel
theorem dX3_fold_21 : decode cX3_fold 21 = .ok (.iconst (-1), 1) := by decide +kernel
theorem dX3_fold_22 : decode cX3_fold 22 = .ok (.ireturn, 1) := by decide +kernel
theorem dX3_fold_23 : decode cX3_fold 23 = .ok (.aload_n 0, 1) := by decide +kernel
theorem dX3_fold_24 : decode cX3_fold 24 = .ok (.invokevirtual 125, 3) := by decide +kernel
theorem dX3_fold_27 : decode cX3_fold 27 = .ok (.ifCond .eq 6, 3) := by decide +kernel
theorem dX3_fold_30 : decode cX3_fold 30 = .ok (.bipush (-3), 2) := by decide +kernel
theorem dX3_fold_32 : decode cX3_fold 32 = .ok (.ireturn, 1) := by decide +kernel
theorem dX3_fold_33 : decode cX3_fold 33 = .ok (.aload_n 0, 1) := by decide +kernel
theorem dX3_fold_34 : decode cX3_fold 34 = .ok (.getfield 19, 3) := by decide +kernel
theorem dX3_fold_37 : decode cX3_fold 37 = .ok (.iload_n 1, 1) := by decide +kernel
theorem dX3_fold_38 : decode cX3_fold 38 = .ok (.iload_n 2, 1) := by decide +kernel
theorem dX3_fold_39 : decode cX3_fold 39 = .ok (.invokevirtual 90, 3) := by decide +kernel
theorem dX3_fold_42 : decode cX3_fold 42 = .ok (.aload_n 0, 1) := by decide +kernel
theorem dX3_fold_43 : decode cX3_fold 43 = .ok (.invokevirtual 129, 3) := by decide +kernel
theorem dX3_fold_46 : decode cX3_fold 46 = .ok (.ireturn, 1) := by decide +kernel
set_option maxRecDepth 20000 in
theorem ggX3_rule_X3_latest : GoodIn wsX3_rule wsX3_latest := goodIn_r _ [6, 1, 7, 8, 9, 10, 11, 12, 13, 14, 15, 16, 17, 18, 61, 62, 63, 64, 65, 66, 67, 68, 69, 70, 71, 72, 73, 74, 75, 76] (by decide +kernel) (by decide +kernel)
set_option maxRecDepth 20000 in
theorem gX3_rule_X3_latest : GoodIn wsX3_rule (wsV RX3 129 RX3 yX3_latest wsX3_latest) := goodIn_app (goodIn_of _ (by decide +kernel)) ggX3_rule_X3_latest
set_option maxRecDepth 20000 in
theorem ggX3_rule_X3_partOf : GoodIn wsX3_rule wsX3_partOf := goodIn_r _ [22, 1, 23, 24, 25, 26, 16, 27, 28, 61, 62, 63, 64, 65, 66, 67, 68, 69, 70, 71, 72, 73, 74, 75, 76] (by decide +kernel) (by decide +kernel)
set_option maxRecDepth 20000 in
theorem gX3_rule_X3_partOf : GoodIn wsX3_rule (wsV RX3 121 RX3 yX3_partOf wsX3_partOf) := goodIn_app (goodIn_of _ (by decide +kernel)) ggX3_rule_X3_partOf
set_option maxRecDepth 20000 in
theorem ggX3_rule_X3_isInner : GoodIn wsX3_rule wsX3_isInner := goodIn_r _ [32, 33, 61, 62, 63, 64, 65, 66, 67, 68, 69] (by decide +kernel) (by decide +kernel)
set_option maxRecDepth 20000 in
theorem gX3_rule_X3_isInner : GoodIn wsX3_rule (wsV RX3 132 RX3 yX3_isInner wsX3_isInner) := goodIn_app (goodIn_of _ (by decide +kernel)) ggX3_rule_X3_isInner
set_option maxRecDepth 20000 in
theorem ggX3_rule_X3_isFolded : GoodIn wsX3_rule wsX3_isFolded := goodIn_r _ [37, 1, 7, 8, 9, 10, 11, 12, 13, 14, 15, 16, 17, 18, 61, 62, 63, 64, 65, 66, 67, 68, 69, 70, 71, 72, 73, 74, 75, 76] (by decide +kernel) (by decide +kernel)
set_option maxRecDepth 20000 in
theorem gX3_rule_X3_isFolded : GoodIn wsX3_rule (wsV RX3 125 RX3 yX3_isFolded wsX3_isFolded) := goodIn_app (goodIn_of _ (by decide +kernel)) ggX3_rule_X3_isFolded
set_option maxRecDepth 20000 in
theorem ggX3_rule_X3_sideAt : GoodIn wsX3_rule wsX3_sideAt := goodIn_r _ [40] (by decide +kernel) (by decide +kernel)
set_option maxRecDepth 20000 in
theorem gX3_rule_X3_sideAt : GoodIn wsX3_rule (va_wsS RX3 135 yX3_sideAt wsX3_sideAt) := goodIn_app (goodIn_of _ (by decide +kernel)) ggX3_rule_X3_sideAt
set_option maxRecDepth 20000 in
theorem ggX3_rule_X0_bring : GoodIn wsX3_rule wsX0_bring := goodIn_r _ [44, 12, 45, 46, 47, 48, 49, 10, 50, 51, 52, 25, 26, 16, 27, 28, 53, 54, 55, 56, 57, 58, 59, 60, 18, 70, 71, 72, 73, 74, 75, 76] (by decide +kernel) (by decide +kernel)
set_option maxRecDepth 20000 in
theorem gX3_rule_X0_bring : GoodIn wsX3_rule (wsV RX3 90 RX0 yX0_bring wsX0_bring) := goodIn_app (goodIn_of _ (by decide +kernel)) ggX3_rule_X0_bring
theorem dX3_rule_0 : decode cX3_rule 0 = .ok (.aload_n 0, 1) := by decide +kernel
theorem dX3_rule_1 : decode cX3_rule 1 = .ok (.invokevirtual 129, 3) := by decide +kernel
theorem dX3_rule_4 : decode cX3_rule 4 = .ok (.istore_n 1, 1) := by decide +kernel
theorem dX3_rule_5 : decode cX3_rule 5 = .ok (.aload_n 0, 1) := by decide +kernel
theorem dX3_rule_6 : decode cX3_rule 6 = .ok (.iload_n 1, 1) := by decide +kernel
theorem dX3_rule_7 : decode cX3_rule 7 = .ok (.invokevirtual 121, 3) := by decide +kernel
theorem dX3_rule_10 : decode cX3_rule 10 = .ok (.istore_n 2, 1) := by decide +kernel
theorem dX3_rule_11 : decode cX3_rule 11 = .ok (.aload_n 0, 1) := by decide +kernel
theorem dX3_rule_12 : decode cX3_rule 12 = .ok (.iload_n 2, 1) := by decide +kernel
theorem dX3_rule_13 : decode cX3_rule 13 = .ok (.invokevirtual 132, 3) := by decide +kernel
theorem dX3_rule_16 : decode cX3_rule 16 = .ok (.ifCond .ne 6, 3) := by decide +kernel
theorem dX3_rule_19 : decode cX3_rule 19 = .ok (.bipush (-2), 2) := by decide +kernel
theorem dX3_rule_21 : decode cX3_rule 21 = .ok (.ireturn, 1) := by decide +kernel
theorem dX3_rule_22 : decode cX3_rule 22 = .ok (.aload_n 0, 1) := by decide +kernel
theorem dX3_rule_23 : decode cX3_rule 23 = .ok (.invokevirtual 125, 3) := by decide +kernel
theorem dX3_rule_26 : decode cX3_rule 26 = .ok (.ifCond .eq 6, 3) := by decide +kernel
theorem dX3_rule_29 : decode cX3_rule 29 = .ok (.bipush (-3), 2) := by decide +kernel
theorem dX3_rule_31 : decode cX3_rule 31 = .ok (.ireturn, 1) := by decide +kernel
theorem dX3_rule_32 : decode cX3_rule 32 = .ok (.iload_n 2, 1) := by decide +kernel
theorem dX3_rule_33 : decode cX3_rule 33 = .ok (.invokestatic 135, 3) := by decide +kernel
theorem dX3_rule_36 : decode cX3_rule 36 = .ok (.istore_n 3, 1) := by decide +kernel
theorem dX3_rule_37 : decode cX3_rule 37 = .ok (.aload_n 0, 1) := by decide +kernel
theorem dX3_rule_38 : decode cX3_rule 38 = .ok (.getfield 19, 3) := by decide +kernel
theorem dX3_rule_41 : decode cX3_rule 41 = .ok (.iload_n 3, 1) := by decide +kernel
theorem dX3_rule_42 : decode cX3_rule 42 = .ok (.ifCond .ne 7, 3) := by decide +kernel
theorem dX3_rule_45 : decode cX3_rule 45 = .ok (.iconst 0, 1) := by decide +kernel
theorem dX3_rule_46 : decode cX3_rule 46 = .ok (.goto 4, 3) := by decide +kernel
theorem dX3_rule_49 : decode cX3_rule 49 = .ok (.iconst 1, 1) := by decide +kernel
theorem dX3_rule_50 : decode cX3_rule 50 = .ok (.iload_n 1, 1) := by decide +kernel
theorem dX3_rule_51 : decode cX3_rule 51 = .ok (.invokevirtual 90, 3) := by decide +kernel
theorem dX3_rule_54 : decode cX3_rule 54 = .ok (.iload_n 3, 1) := by decide +kernel
theorem dX3_rule_55 : decode cX3_rule 55 = .ok (.ireturn, 1) := by decide +kernel
set_option maxRecDepth 20000 in
theorem ggX3_undo_X0_creases : GoodIn wsX3_undo wsX0_creases := goodIn_r _ [6, 7, 8, 9, 10, 11, 12, 13, 37, 38, 39, 40, 41, 42, 43] (by decide +kernel) (by decide +kernel)
set_option maxRecDepth 20000 in
theorem gX3_undo_X0_creases : GoodIn wsX3_undo (wsV RX3 138 RX0 yX0_creases wsX0_creases) := goodIn_app (goodIn_of _ (by decide +kernel)) ggX3_undo_X0_creases
set_option maxRecDepth 20000 in
theorem ggX3_undo_X0_unfold : GoodIn wsX3_undo wsX0_unfold := goodIn_r _ [17, 7, 18, 19, 20, 21, 22, 11, 23, 13, 24, 25, 26, 27, 37, 38, 39, 40, 41, 42, 43] (by decide +kernel) (by decide +kernel)
set_option maxRecDepth 20000 in
theorem gX3_undo_X0_unfold : GoodIn wsX3_undo (wsV RX3 141 RX0 yX0_unfold wsX0_unfold) := goodIn_app (goodIn_of _ (by decide +kernel)) ggX3_undo_X0_unfold
theorem dX3_undo_0 : decode cX3_undo 0 = .ok (.aload_n 0, 1) := by decide +kernel
theorem dX3_undo_1 : decode cX3_undo 1 = .ok (.getfield 19, 3) := by decide +kernel
theorem dX3_undo_4 : decode cX3_undo 4 = .ok (.invokevirtual 138, 3) := by decide +kernel
theorem dX3_undo_7 : decode cX3_undo 7 = .ok (.iconst 3, 1) := by decide +kernel
theorem dX3_undo_8 : decode cX3_undo 8 = .ok (.if_icmp .gt 6, 3) := by decide +kernel
theorem dX3_undo_11 : decode cX3_undo 11 = .ok (.bipush (-2), 2) := by decide +kernel
theorem dX3_undo_13 : decode cX3_undo 13 = .ok (.ireturn, 1) := by decide +kernel
theorem dX3_undo_14 : decode cX3_undo 14 = .ok (.aload_n 0, 1) := by decide +kernel
theorem dX3_undo_15 : decode cX3_undo 15 = .ok (.getfield 19, 3) := by decide +kernel
theorem dX3_undo_18 : decode cX3_undo 18 = .ok (.invokevirtual 141, 3) := by decide +kernel
theorem dX3_undo_21 : decode cX3_undo 21 = .ok (.aload_n 0, 1) := by decide +kernel
theorem dX3_undo_22 : decode cX3_undo 22 = .ok (.getfield 19, 3) := by decide +kernel
theorem dX3_undo_25 : decode cX3_undo 25 = .ok (.invokevirtual 138, 3) := by decide +kernel
theorem dX3_undo_28 : decode cX3_undo 28 = .ok (.ireturn, 1) := by decide +kernel
set_option maxRecDepth 20000 in
theorem ggX3_says_X3_isInner : GoodIn wsX3_says wsX3_isInner := goodIn_r _ [5, 6, 10, 11, 12, 13, 14, 15, 16, 17, 18] (by decide +kernel) (by decide +kernel)
set_option maxRecDepth 20000 in
theorem gX3_says_X3_isInner : GoodIn wsX3_says (wsV RX3 132 RX3 yX3_isInner wsX3_isInner) := goodIn_app (goodIn_of _ (by decide +kernel)) ggX3_says_X3_isInner
set_option maxRecDepth 20000 in
theorem ggX3_says_X3_sideAt : GoodIn wsX3_says wsX3_sideAt := goodIn_r _ [9] (by decide +kernel) (by decide +kernel)
set_option maxRecDepth 20000 in
theorem gX3_says_X3_sideAt : GoodIn wsX3_says (va_wsS RX3 135 yX3_sideAt wsX3_sideAt) := goodIn_app (goodIn_of _ (by decide +kernel)) ggX3_says_X3_sideAt
theorem dX3_says_0 : decode cX3_says 0 = .ok (.aload_n 0, 1) := by decide +kernel
theorem dX3_says_1 : decode cX3_says 1 = .ok (.iload_n 1, 1) := by decide +kernel
theorem dX3_says_2 : decode cX3_says 2 = .ok (.invokevirtual 132, 3) := by decide +kernel
theorem dX3_says_5 : decode cX3_says 5 = .ok (.ifCond .eq 10, 3) := by decide +kernel
theorem dX3_says_8 : decode cX3_says 8 = .ok (.iload_n 1, 1) := by decide +kernel
theorem dX3_says_9 : decode cX3_says 9 = .ok (.invokestatic 135, 3) := by decide +kernel
theorem dX3_says_12 : decode cX3_says 12 = .ok (.goto 4, 3) := by decide +kernel
theorem dX3_says_15 : decode cX3_says 15 = .ok (.iconst (-1), 1) := by decide +kernel
theorem dX3_says_16 : decode cX3_says 16 = .ok (.ireturn, 1) := by decide +kernel
set_option maxRecDepth 20000 in
theorem ggX3_round_X3_isInner : GoodIn wsX3_round wsX3_isInner := goodIn_r _ [5, 6, 17, 18, 19, 20, 21, 22, 23, 24, 25] (by decide +kernel) (by decide +kernel)
set_option maxRecDepth 20000 in
theorem gX3_round_X3_isInner : GoodIn wsX3_round (wsV RX3 132 RX3 yX3_isInner wsX3_isInner) := goodIn_app (goodIn_of _ (by decide +kernel)) ggX3_round_X3_isInner
set_option maxRecDepth 20000 in
theorem ggX3_round_X3_foldsAround : GoodIn wsX3_round wsX3_foldsAround := goodIn_r _ [10, 6, 11, 12, 4, 13, 14, 15, 16, 17, 18, 19, 20, 21, 22, 23, 24, 25] (by decide +kernel) (by decide +kernel)
set_option maxRecDepth 20000 in
theorem gX3_round_X3_foldsAround : GoodIn wsX3_round (wsV RX3 144 RX3 yX3_foldsAround wsX3_foldsAround) := goodIn_app (goodIn_of _ (by decide +kernel)) ggX3_round_X3_foldsAround
theorem dX3_round_0 : decode cX3_round 0 = .ok (.aload_n 0, 1) := by decide +kernel
theorem dX3_round_1 : decode cX3_round 1 = .ok (.iload_n 1, 1) := by decide +kernel
theorem dX3_round_2 : decode cX3_round 2 = .ok (.invokevirtual 132, 3) := by decide +kernel
theorem dX3_round_5 : decode cX3_round 5 = .ok (.ifCond .eq 11, 3) := by decide +kernel
theorem dX3_round_8 : decode cX3_round 8 = .ok (.aload_n 0, 1) := by decide +kernel
theorem dX3_round_9 : decode cX3_round 9 = .ok (.iload_n 1, 1) := by decide +kernel
theorem dX3_round_10 : decode cX3_round 10 = .ok (.invokevirtual 144, 3) := by decide +kernel
theorem dX3_round_13 : decode cX3_round 13 = .ok (.goto 4, 3) := by decide +kernel
theorem dX3_round_16 : decode cX3_round 16 = .ok (.iconst (-1), 1) := by decide +kernel
theorem dX3_round_17 : decode cX3_round 17 = .ok (.ireturn, 1) := by decide +kernel
theorem dX3_near_0 : decode cX3_near 0 = .ok (.iload_n 1, 1) := by decide +kernel
theorem dX3_near_1 : decode cX3_near 1 = .ok (.ifCond .lt 9, 3) := by decide +kernel
theorem dX3_near_4 : decode cX3_near 4 = .ok (.iload_n 1, 1) := by decide +kernel
theorem dX3_near_5 : decode cX3_near 5 = .ok (.ldc 147, 2) := by decide +kernel
theorem dX3_near_7 : decode cX3_near 7 = .ok (.if_icmp .le 5, 3) := by decide +kernel
theorem dX3_near_10 : decode cX3_near 10 = .ok (.iconst (-1), 1) := by decide +kernel
theorem dX3_near_11 : decode cX3_near 11 = .ok (.ireturn, 1) := by decide +kernel
theorem dX3_near_12 : decode cX3_near 12 = .ok (.iconst 0, 1) := by decide +kernel
theorem dX3_near_13 : decode cX3_near 13 = .ok (.istore_n 2, 1) := by decide +kernel
theorem dX3_near_14 : decode cX3_near 14 = .ok (.iload_n 2, 1) := by decide +kernel
theorem dX3_near_15 : decode cX3_near 15 = .ok (.bipush 40, 2) := by decide +kernel
theorem dX3_near_17 : decode cX3_near 17 = .ok (.if_icmp .gt 28, 3) := by decide +kernel
theorem dX3_near_20 : decode cX3_near 20 = .ok (.aload_n 0, 1) := by decide +kernel
theorem dX3_near_21 : decode cX3_near 21 = .ok (.getfield 36, 3) := by decide +kernel
theorem dX3_near_24 : decode cX3_near 24 = .ok (.i2l, 1) := by decide +kernel
theorem dX3_near_25 : decode cX3_near 25 = .ok (.ldc2_w 148, 3) := by decide +kernel
theorem dX3_near_28 : decode cX3_near 28 = .ok (.lmul, 1) := by decide +kernel
theorem dX3_near_29 : decode cX3_near 29 = .ok (.iload_n 1, 1) := by decide +kernel
theorem dX3_near_30 : decode cX3_near 30 = .ok (.i2l, 1) := by decide +kernel
theorem dX3_near_31 : decode cX3_near 31 = .ok (.iload_n 2, 1) := by decide +kernel
theorem dX3_near_32 : decode cX3_near 32 = .ok (.lshl, 1) := by decide +kernel
theorem dX3_near_33 : decode cX3_near 33 = .ok (.lcmp, 1) := by decide +kernel
theorem dX3_near_34 : decode cX3_near 34 = .ok (.ifCond .gt 5, 3) := by decide +kernel
theorem dX3_near_37 : decode cX3_near 37 = .ok (.iload_n 2, 1) := by decide +kernel
theorem dX3_near_38 : decode cX3_near 38 = .ok (.ireturn, 1) := by decide +kernel
theorem dX3_near_39 : decode cX3_near 39 = .ok (.iinc 2 1, 3) := by decide +kernel
theorem dX3_near_42 : decode cX3_near 42 = .ok (.goto (-28), 3) := by decide +kernel
theorem dX3_near_45 : decode cX3_near 45 = .ok (.bipush (-9), 2) := by decide +kernel
theorem dX3_near_47 : decode cX3_near 47 = .ok (.ireturn, 1) := by decide +kernel
set_option maxRecDepth 20000 in
theorem ggX3_wasted_X3_creasesAtNoPart : GoodIn wsX3_wasted wsX3_creasesAtNoPart := goodIn_r _ [5, 6, 7, 8, 9, 10, 11, 12, 13, 14, 15, 16, 17, 18, 19, 20, 21, 4, 22, 23, 24, 25, 26, 27, 28, 48, 49, 50, 51, 52, 53, 54, 55, 56, 57, 58, 59, 60, 61, 62, 63] (by decide +kernel) (by decide +kernel)
set_option maxRecDepth 20000 in
theorem gX3_wasted_X3_creasesAtNoPart : GoodIn wsX3_wasted (wsV RX3 150 RX3 yX3_creasesAtNoPart wsX3_creasesAtNoPart) := goodIn_app (goodIn_of _ (by decide +kernel)) ggX3_wasted_X3_creasesAtNoPart
set_option maxRecDepth 20000 in
theorem ggX3_wasted_X3_partsWithoutCrease : GoodIn wsX3_wasted wsX3_partsWithoutCrease := goodIn_r _ [32, 6, 33, 7, 8, 9, 10, 11, 12, 13, 14, 15, 16, 17, 18, 19, 20, 21, 4, 22, 23, 24, 25, 26, 27, 28, 34, 35, 36, 37, 38, 39, 40, 41, 42, 43, 44, 45, 46, 47, 48, 49, 50, 51, 52, 53, 54, 55, 56, 57, 58, 59, 60, 61, 62, 63] (by decide +kernel) (by decide +kernel)
set_option maxRecDepth 20000 in
theorem gX3_wasted_X3_partsWithoutCrease : GoodIn wsX3_wasted (wsV RX3 153 RX3 yX3_partsWithoutCrease wsX3_partsWithoutCrease) := goodIn_app (goodIn_of _ (by decide +kernel)) ggX3_wasted_X3_partsWithoutCrease
theorem dX3_wasted_0 : decode cX3_wasted 0 = .ok (.iload_n 1, 1) := by decide +kernel
theorem dX3_wasted_1 : decode cX3_wasted 1 = .ok (.lookupswitch 37 #[(0, 27), (1, 32)], 27) := by decide +kernel
theorem dX3_wasted_28 : decode cX3_wasted 28 = .ok (.aload_n 0, 1) := by decide +kernel
theorem dX3_wasted_29 : decode cX3_wasted 29 = .ok (.invokevirtual 150, 3) := by decide +kernel
theorem dX3_wasted_32 : decode cX3_wasted 32 = .ok (.ireturn, 1) := by decide +kernel
theorem dX3_wasted_33 : decode cX3_wasted 33 = .ok (.aload_n 0, 1) := by decide +kernel
theorem dX3_wasted_34 : decode cX3_wasted 34 = .ok (.invokevirtual 153, 3) := by decide +kernel
theorem dX3_wasted_37 : decode cX3_wasted 37 = .ok (.ireturn, 1) := by decide +kernel
theorem dX3_wasted_38 : decode cX3_wasted 38 = .ok (.iconst (-1), 1) := by decide +kernel
theorem dX3_wasted_39 : decode cX3_wasted 39 = .ok (.ireturn, 1) := by decide +kernel
set_option maxRecDepth 20000 in
theorem ggX3_fewest_X3_isInner : GoodIn wsX3_fewest wsX3_isInner := goodIn_r _ [7, 2, 14, 15, 16, 17, 18, 19, 20, 21, 22] (by decide +kernel) (by decide +kernel)
set_option maxRecDepth 20000 in
theorem gX3_fewest_X3_isInner : GoodIn wsX3_fewest (wsV RX3 132 RX3 yX3_isInner wsX3_isInner) := goodIn_app (goodIn_of _ (by decide +kernel)) ggX3_fewest_X3_isInner
set_option maxRecDepth 20000 in
theorem ggX3_fewest_X3_ruled : GoodIn wsX3_fewest wsX3_ruled := goodIn_r _ [10, 11, 12, 6, 13] (by decide +kernel) (by decide +kernel)
set_option maxRecDepth 20000 in
theorem gX3_fewest_X3_ruled : GoodIn wsX3_fewest (va_wsS RX3 156 yX3_ruled wsX3_ruled) := goodIn_app (goodIn_of _ (by decide +kernel)) ggX3_fewest_X3_ruled
theorem dX3_fewest_0 : decode cX3_fewest 0 = .ok (.aload_n 0, 1) := by decide +kernel
theorem dX3_fewest_1 : decode cX3_fewest 1 = .ok (.iload_n 1, 1) := by decide +kernel
theorem dX3_fewest_2 : decode cX3_fewest 2 = .ok (.invokevirtual 132, 3) := by decide +kernel
theorem dX3_fewest_5 : decode cX3_fewest 5 = .ok (.ifCond .ne 5, 3) := by decide +kernel
theorem dX3_fewest_8 : decode cX3_fewest 8 = .ok (.iconst (-1), 1) := by decide +kernel
theorem dX3_fewest_9 : decode cX3_fewest 9 = .ok (.ireturn, 1) := by decide +kernel
theorem dX3_fewest_10 : decode cX3_fewest 10 = .ok (.aload_n 0, 1) := by decide +kernel
theorem dX3_fewest_11 : decode cX3_fewest 11 = .ok (.getfield 33, 3) := by decide +kernel
theorem dX3_fewest_14 : decode cX3_fewest 14 = .ok (.istore_n 2, 1) := by decide +kernel
theorem dX3_fewest_15 : decode cX3_fewest 15 = .ok (.iconst 0, 1) := by decide +kernel
theorem dX3_fewest_16 : decode cX3_fewest 16 = .ok (.istore_n 3, 1) := by decide +kernel
theorem dX3_fewest_17 : decode cX3_fewest 17 = .ok (.iload_n 3, 1) := by decide +kernel
theorem dX3_fewest_18 : decode cX3_fewest 18 = .ok (.bipush 63, 2) := by decide +kernel
theorem dX3_fewest_20 : decode cX3_fewest 20 = .ok (.if_icmp .ge 25, 3) := by decide +kernel
theorem dX3_fewest_23 : decode cX3_fewest 23 = .ok (.iload_n 2, 1) := by decide +kernel
theorem dX3_fewest_24 : decode cX3_fewest 24 = .ok (.iload_n 1, 1) := by decide +kernel
theorem dX3_fewest_25 : decode cX3_fewest 25 = .ok (.if_icmp .ne 5, 3) := by decide +kernel
theorem dX3_fewest_28 : decode cX3_fewest 28 = .ok (.iload_n 3, 1) := by decide +kernel
theorem dX3_fewest_29 : decode cX3_fewest 29 = .ok (.ireturn, 1) := by decide +kernel
theorem dX3_fewest_30 : decode cX3_fewest 30 = .ok (.aload_n 0, 1) := by decide +kernel
theorem dX3_fewest_31 : decode cX3_fewest 31 = .ok (.getfield 29, 3) := by decide +kernel
theorem dX3_fewest_34 : decode cX3_fewest 34 = .ok (.iload_n 2, 1) := by decide +kernel
theorem dX3_fewest_35 : decode cX3_fewest 35 = .ok (.invokestatic 156, 3) := by decide +kernel
theorem dX3_fewest_38 : decode cX3_fewest 38 = .ok (.istore_n 2, 1) := by decide +kernel
theorem dX3_fewest_39 : decode cX3_fewest 39 = .ok (.iinc 3 1, 3) := by decide +kernel
theorem dX3_fewest_42 : decode cX3_fewest 42 = .ok (.goto (-25), 3) := by decide +kernel
theorem dX3_fewest_45 : decode cX3_fewest 45 = .ok (.bipush (-9), 2) := by decide +kernel
theorem dX3_fewest_47 : decode cX3_fewest 47 = .ok (.ireturn, 1) := by decide +kernel
set_option maxRecDepth 20000 in
theorem ggX3_comes_X3_foldsAround : GoodIn wsX3_comes wsX3_foldsAround := goodIn_r _ [6, 7, 8, 9, 5, 10, 11, 12, 13, 25, 26, 27, 28, 29, 30, 31, 32, 33] (by decide +kernel) (by decide +kernel)
set_option maxRecDepth 20000 in
theorem gX3_comes_X3_foldsAround : GoodIn wsX3_comes (wsV RX3 144 RX3 yX3_foldsAround wsX3_foldsAround) := goodIn_app (goodIn_of _ (by decide +kernel)) ggX3_comes_X3_foldsAround
set_option maxRecDepth 20000 in
theorem ggX3_comes_X3_starts : GoodIn wsX3_comes wsX3_starts := goodIn_r _ [17, 7, 18, 19, 5, 20, 21, 22, 23, 24, 8, 9, 10, 11, 12, 13, 25, 26, 27, 28, 29, 30, 31, 32, 33] (by decide +kernel) (by decide +kernel)
set_option maxRecDepth 20000 in
theorem gX3_comes_X3_starts : GoodIn wsX3_comes (wsV RX3 160 RX3 yX3_starts wsX3_starts) := goodIn_app (goodIn_of _ (by decide +kernel)) ggX3_comes_X3_starts
theorem dX3_comes_0 : decode cX3_comes 0 = .ok (.iload_n 1, 1) := by decide +kernel
theorem dX3_comes_1 : decode cX3_comes 1 = .ok (.lookupswitch 41 #[(0, 27), (1, 36)], 27) := by decide +kernel
theorem dX3_comes_28 : decode cX3_comes 28 = .ok (.aload_n 0, 1) := by decide +kernel
theorem dX3_comes_29 : decode cX3_comes 29 = .ok (.aload_n 0, 1) := by decide +kernel
theorem dX3_comes_30 : decode cX3_comes 30 = .ok (.getfield 33, 3) := by decide +kernel
theorem dX3_comes_33 : decode cX3_comes 33 = .ok (.invokevirtual 144, 3) := by decide +kernel
theorem dX3_comes_36 : decode cX3_comes 36 = .ok (.ireturn, 1) := by decide +kernel
theorem dX3_comes_37 : decode cX3_comes 37 = .ok (.aload_n 0, 1) := by decide +kernel
theorem dX3_comes_38 : decode cX3_comes 38 = .ok (.invokevirtual 160, 3) := by decide +kernel
theorem dX3_comes_41 : decode cX3_comes 41 = .ok (.ireturn, 1) := by decide +kernel
theorem dX3_comes_42 : decode cX3_comes 42 = .ok (.iconst (-1), 1) := by decide +kernel
theorem dX3_comes_43 : decode cX3_comes 43 = .ok (.ireturn, 1) := by decide +kernel
set_option maxRecDepth 20000 in
theorem ggX3_letter_X1_hasRoom : GoodIn wsX3_letter wsX1_hasRoom := goodIn_r _ [6, 7, 8, 31, 32] (by decide +kernel) (by decide +kernel)
set_option maxRecDepth 20000 in
theorem gX3_letter_X1_hasRoom : GoodIn wsX3_letter (wsV RX3 54 RX1 yX1_hasRoom wsX1_hasRoom) := goodIn_app (goodIn_of _ (by decide +kernel)) ggX3_letter_X1_hasRoom
set_option maxRecDepth 20000 in
theorem ggX3_letter_X1_add : GoodIn wsX3_letter wsX1_add := goodIn_r _ [12, 7, 8, 31, 32] (by decide +kernel) (by decide +kernel)
set_option maxRecDepth 20000 in
theorem gX3_letter_X1_add : GoodIn wsX3_letter (wsV RX3 62 RX1 yX1_add wsX1_add) := goodIn_app (goodIn_of _ (by decide +kernel)) ggX3_letter_X1_add
set_option maxRecDepth 20000 in
theorem ggX3_letter_X1_size : GoodIn wsX3_letter wsX1_size := goodIn_r _ [16, 7, 31, 32] (by decide +kernel) (by decide +kernel)
set_option maxRecDepth 20000 in
theorem gX3_letter_X1_size : GoodIn wsX3_letter (wsV RX3 66 RX1 yX1_size wsX1_size) := goodIn_app (goodIn_of _ (by decide +kernel)) ggX3_letter_X1_size
theorem dX3_letter_0 : decode cX3_letter 0 = .ok (.iload_n 1, 1) := by decide +kernel
theorem dX3_letter_1 : decode cX3_letter 1 = .ok (.ifCond .eq 10, 3) := by decide +kernel
theorem dX3_letter_4 : decode cX3_letter 4 = .ok (.iload_n 1, 1) := by decide +kernel
theorem dX3_letter_5 : decode cX3_letter 5 = .ok (.iconst 1, 1) := by decide +kernel
theorem dX3_letter_6 : decode cX3_letter 6 = .ok (.if_icmp .eq 5, 3) := by decide +kernel
theorem dX3_letter_9 : decode cX3_letter 9 = .ok (.iconst (-1), 1) := by decide +kernel
theorem dX3_letter_10 : decode cX3_letter 10 = .ok (.ireturn, 1) := by decide +kernel
theorem dX3_letter_11 : decode cX3_letter 11 = .ok (.aload_n 0, 1) := by decide +kernel
theorem dX3_letter_12 : decode cX3_letter 12 = .ok (.getfield 19, 3) := by decide +kernel
theorem dX3_letter_15 : decode cX3_letter 15 = .ok (.getfield 163, 3) := by decide +kernel
theorem dX3_letter_18 : decode cX3_letter 18 = .ok (.iconst 1, 1) := by decide +kernel
theorem dX3_letter_19 : decode cX3_letter 19 = .ok (.invokevirtual 54, 3) := by decide +kernel
theorem dX3_letter_22 : decode cX3_letter 22 = .ok (.ifCond .ne 6, 3) := by decide +kernel
theorem dX3_letter_25 : decode cX3_letter 25 = .ok (.bipush (-3), 2) := by decide +kernel
theorem dX3_letter_27 : decode cX3_letter 27 = .ok (.ireturn, 1) := by decide +kernel
theorem dX3_letter_28 : decode cX3_letter 28 = .ok (.aload_n 0, 1) := by decide +kernel
theorem dX3_letter_29 : decode cX3_letter 29 = .ok (.getfield 19, 3) := by decide +kernel
theorem dX3_letter_32 : decode cX3_letter 32 = .ok (.getfield 163, 3) := by decide +kernel
theorem dX3_letter_35 : decode cX3_letter 35 = .ok (.iload_n 1, 1) := by decide +kernel
theorem dX3_letter_36 : decode cX3_letter 36 = .ok (.i2l, 1) := by decide +kernel
theorem dX3_letter_37 : decode cX3_letter 37 = .ok (.invokevirtual 62, 3) := by decide +kernel
theorem dX3_letter_40 : decode cX3_letter 40 = .ok (.aload_n 0, 1) := by decide +kernel
theorem dX3_letter_41 : decode cX3_letter 41 = .ok (.getfield 19, 3) := by decide +kernel
theorem dX3_letter_44 : decode cX3_letter 44 = .ok (.getfield 163, 3) := by decide +kernel
theorem dX3_letter_47 : decode cX3_letter 47 = .ok (.invokevirtual 66, 3) := by decide +kernel
theorem dX3_letter_50 : decode cX3_letter 50 = .ok (.ireturn, 1) := by decide +kernel
set_option maxRecDepth 20000 in
theorem ggX3_hush_X1_empty : GoodIn wsX3_hush wsX1_empty := goodIn_r _ [6, 7, 22, 23] (by decide +kernel) (by decide +kernel)
set_option maxRecDepth 20000 in
theorem gX3_hush_X1_empty : GoodIn wsX3_hush (wsV RX3 70 RX1 yX1_empty wsX1_empty) := goodIn_app (goodIn_of _ (by decide +kernel)) ggX3_hush_X1_empty
theorem dX3_hush_0 : decode cX3_hush 0 = .ok (.aload_n 0, 1) := by decide +kernel
theorem dX3_hush_1 : decode cX3_hush 1 = .ok (.getfield 19, 3) := by decide +kernel
theorem dX3_hush_4 : decode cX3_hush 4 = .ok (.getfield 163, 3) := by decide +kernel
theorem dX3_hush_7 : decode cX3_hush 7 = .ok (.invokevirtual 70, 3) := by decide +kernel
theorem dX3_hush_10 : decode cX3_hush 10 = .ok (.ireturn, 1) := by decide +kernel
set_option maxRecDepth 20000 in
theorem ggX3_meant_X3_wrongLetter : GoodIn wsX3_meant wsX3_wrongLetter := goodIn_r _ [5, 6, 7, 8, 9, 10, 11, 12, 13, 14, 15, 16, 17, 18, 19, 4, 20, 21, 22, 23, 24, 25, 26, 27, 28, 29, 30, 31, 32, 33, 34, 35, 36, 37, 38, 39] (by decide +kernel) (by decide +kernel)
set_option maxRecDepth 20000 in
theorem gX3_meant_X3_wrongLetter : GoodIn wsX3_meant (wsV RX3 166 RX3 yX3_wrongLetter wsX3_wrongLetter) := goodIn_app (goodIn_of _ (by decide +kernel)) ggX3_meant_X3_wrongLetter
theorem dX3_meant_0 : decode cX3_meant 0 = .ok (.iload_n 1, 1) := by decide +kernel
theorem dX3_meant_1 : decode cX3_meant 1 = .ok (.ifCond .lt 8, 3) := by decide +kernel
theorem dX3_meant_4 : decode cX3_meant 4 = .ok (.iload_n 1, 1) := by decide +kernel
theorem dX3_meant_5 : decode cX3_meant 5 = .ok (.iconst 2, 1) := by decide +kernel
theorem dX3_meant_6 : decode cX3_meant 6 = .ok (.if_icmp .le 5, 3) := by decide +kernel
theorem dX3_meant_9 : decode cX3_meant 9 = .ok (.iconst (-1), 1) := by decide +kernel
theorem dX3_meant_10 : decode cX3_meant 10 = .ok (.ireturn, 1) := by decide +kernel
theorem dX3_meant_11 : decode cX3_meant 11 = .ok (.iconst 0, 1) := by decide +kernel
theorem dX3_meant_12 : decode cX3_meant 12 = .ok (.istore_n 2, 1) := by decide +kernel
theorem dX3_meant_13 : decode cX3_meant 13 = .ok (.bipush (-9), 2) := by decide +kernel
theorem dX3_meant_15 : decode cX3_meant 15 = .ok (.istore_n 3, 1) := by decide +kernel
theorem dX3_meant_16 : decode cX3_meant 16 = .ok (.bipush (-9), 2) := by decide +kernel
theorem dX3_meant_18 : decode cX3_meant 18 = .ok (.istore 4, 2) := by decide +kernel
theorem dX3_meant_20 : decode cX3_meant 20 = .ok (.iconst 3, 1) := by decide +kernel
theorem dX3_meant_21 : decode cX3_meant 21 = .ok (.istore 5, 2) := by decide +kernel
theorem dX3_meant_23 : decode cX3_meant 23 = .ok (.iload 5, 2) := by decide +kernel
theorem dX3_meant_25 : decode cX3_meant 25 = .ok (.bipush 63, 2) := by decide +kernel
theorem dX3_meant_27 : decode cX3_meant 27 = .ok (.if_icmp .gt 65, 3) := by decide +kernel
theorem dX3_meant_30 : decode cX3_meant 30 = .ok (.iconst 1, 1) := by decide +kernel
theorem dX3_meant_31 : decode cX3_meant 31 = .ok (.istore 6, 2) := by decide +kernel
theorem dX3_meant_33 : decode cX3_meant 33 = .ok (.iload 6, 2) := by decide +kernel
theorem dX3_meant_35 : decode cX3_meant 35 = .ok (.iload 5, 2) := by decide +kernel
theorem dX3_meant_37 : decode cX3_meant 37 = .ok (.if_icmp .ge 49, 3) := by decide +kernel
theorem dX3_meant_40 : decode cX3_meant 40 = .ok (.aload_n 0, 1) := by decide +kernel
theorem dX3_meant_41 : decode cX3_meant 41 = .ok (.iload 5, 2) := by decide +kernel
theorem dX3_meant_43 : decode cX3_meant 43 = .ok (.iload 6, 2) := by decide +kernel
theorem dX3_meant_45 : decode cX3_meant 45 = .ok (.invokevirtual 166, 3) := by decide +kernel
theorem dX3_meant_48 : decode cX3_meant 48 = .ok (.bipush (-9), 2) := by decide +kernel
theorem dX3_meant_50 : decode cX3_meant 50 = .ok (.if_icmp .ne 30, 3) := by decide +kernel
theorem dX3_meant_53 : decode cX3_meant 53 = .ok (.iload_n 2, 1) := by decide +kernel
theorem dX3_meant_54 : decode cX3_meant 54 = .ok (.ifCond .ne 8, 3) := by decide +kernel
theorem dX3_meant_57 : decode cX3_meant 57 = .ok (.iload 5, 2) := by decide +kernel
theorem dX3_meant_59 : decode cX3_meant 59 = .ok (.goto 4, 3) := by decide +kernel
theorem dX3_meant_62 : decode cX3_meant 62 = .ok (.iload_n 3, 1) := by decide +kernel
theorem dX3_meant_63 : decode cX3_meant 63 = .ok (.istore_n 3, 1) := by decide +kernel
theorem dX3_meant_64 : decode cX3_meant 64 = .ok (.iload_n 2, 1) := by decide +kernel
theorem dX3_meant_65 : decode cX3_meant 65 = .ok (.ifCond .ne 8, 3) := by decide +kernel
theorem dX3_meant_68 : decode cX3_meant 68 = .ok (.iload 6, 2) := by decide +kernel
theorem dX3_meant_70 : decode cX3_meant 70 = .ok (.goto 5, 3) := by decide +kernel
theorem dX3_meant_73 : decode cX3_meant 73 = .ok (.iload 4, 2) := by decide +kernel
theorem dX3_meant_75 : decode cX3_meant 75 = .ok (.istore 4, 2) := by decide +kernel
theorem dX3_meant_77 : decode cX3_meant 77 = .ok (.iinc 2 1, 3) := by decide +kernel
theorem dX3_meant_80 : decode cX3_meant 80 = .ok (.iinc 6 1, 3) := by decide +kernel
theorem dX3_meant_83 : decode cX3_meant 83 = .ok (.goto (-50), 3) := by decide +kernel
theorem dX3_meant_86 : decode cX3_meant 86 = .ok (.iinc 5 2, 3) := by decide +kernel
theorem dX3_meant_89 : decode cX3_meant 89 = .ok (.goto (-66), 3) := by decide +kernel
theorem dX3_meant_92 : decode cX3_meant 92 = .ok (.iload_n 1, 1) := by decide +kernel
theorem dX3_meant_93 : decode cX3_meant 93 = .ok (.ifCond .ne 5, 3) := by decide +kernel
theorem dX3_meant_96 : decode cX3_meant 96 = .ok (.iload_n 2, 1) := by decide +kernel
theorem dX3_meant_97 : decode cX3_meant 97 = .ok (.ireturn, 1) := by decide +kernel
theorem dX3_meant_98 : decode cX3_meant 98 = .ok (.iload_n 1, 1) := by decide +kernel
theorem dX3_meant_99 : decode cX3_meant 99 = .ok (.iconst 1, 1) := by decide +kernel
theorem dX3_meant_100 : decode cX3_meant 100 = .ok (.if_icmp .ne 7, 3) := by decide +kernel
theorem dX3_meant_103 : decode cX3_meant 103 = .ok (.iload_n 3, 1) := by decide +kernel
theorem dX3_meant_104 : decode cX3_meant 104 = .ok (.goto 5, 3) := by decide +kernel
theorem dX3_meant_107 : decode cX3_meant 107 = .ok (.iload 4, 2) := by decide +kernel
theorem dX3_meant_109 : decode cX3_meant 109 = .ok (.ireturn, 1) := by decide +kernel
set_option maxRecDepth 20000 in
theorem ggX3_wrong_X3_wrongLetter : GoodIn wsX3_wrong wsX3_wrongLetter := goodIn_r _ [7, 8, 9, 10, 11, 12, 13, 14, 15, 16, 17, 18, 19, 20, 21, 6, 22, 23, 24, 25, 26, 27, 28, 29, 30, 31, 32, 33, 34, 35, 36, 37, 38, 39, 40, 41] (by decide +kernel) (by decide +kernel)
set_option maxRecDepth 20000 in
theorem gX3_wrong_X3_wrongLetter : GoodIn wsX3_wrong (wsV RX3 166 RX3 yX3_wrongLetter wsX3_wrongLetter) := goodIn_app (goodIn_of _ (by decide +kernel)) ggX3_wrong_X3_wrongLetter
theorem dX3_wrong_0 : decode cX3_wrong 0 = .ok (.aload_n 0, 1) := by decide +kernel
theorem dX3_wrong_1 : decode cX3_wrong 1 = .ok (.aload_n 0, 1) := by decide +kernel
theorem dX3_wrong_2 : decode cX3_wrong 2 = .ok (.getfield 29, 3) := by decide +kernel
theorem dX3_wrong_5 : decode cX3_wrong 5 = .ok (.aload_n 0, 1) := by decide +kernel
theorem dX3_wrong_6 : decode cX3_wrong 6 = .ok (.getfield 33, 3) := by decide +kernel
theorem dX3_wrong_9 : decode cX3_wrong 9 = .ok (.invokevirtual 166, 3) := by decide +kernel
theorem dX3_wrong_12 : decode cX3_wrong 12 = .ok (.ireturn, 1) := by decide +kernel
set_option maxRecDepth 20000 in
theorem ggX3_got_X1_size : GoodIn wsX3_got wsX1_size := goodIn_r _ [11, 12, 42, 43] (by decide +kernel) (by decide +kernel)
set_option maxRecDepth 20000 in
theorem gX3_got_X1_size : GoodIn wsX3_got (wsV RX3 66 RX1 yX1_size wsX1_size) := goodIn_app (goodIn_of _ (by decide +kernel)) ggX3_got_X1_size
set_option maxRecDepth 20000 in
theorem ggX3_got_X1_at : GoodIn wsX3_got wsX1_at := goodIn_r _ [16, 17, 42, 43] (by decide +kernel) (by decide +kernel)
set_option maxRecDepth 20000 in
theorem gX3_got_X1_at : GoodIn wsX3_got (wsV RX3 83 RX1 yX1_at wsX1_at) := goodIn_app (goodIn_of _ (by decide +kernel)) ggX3_got_X1_at
set_option maxRecDepth 20000 in
theorem ggX3_got_X3_leastUpper : GoodIn wsX3_got wsX3_leastUpper := goodIn_r _ [21, 22, 23, 20, 24] (by decide +kernel) (by decide +kernel)
set_option maxRecDepth 20000 in
theorem gX3_got_X3_leastUpper : GoodIn wsX3_got (va_wsS RX3 108 yX3_leastUpper wsX3_leastUpper) := goodIn_app (goodIn_of _ (by decide +kernel)) ggX3_got_X3_leastUpper
set_option maxRecDepth 20000 in
theorem ggX3_got_X3_leastLower : GoodIn wsX3_got wsX3_leastLower := goodIn_r _ [27, 22, 23, 20, 24] (by decide +kernel) (by decide +kernel)
set_option maxRecDepth 20000 in
theorem gX3_got_X3_leastLower : GoodIn wsX3_got (va_wsS RX3 112 yX3_leastLower wsX3_leastLower) := goodIn_app (goodIn_of _ (by decide +kernel)) ggX3_got_X3_leastLower
theorem dX3_got_0 : decode cX3_got 0 = .ok (.iload_n 1, 1) := by decide +kernel
theorem dX3_got_1 : decode cX3_got 1 = .ok (.ifCond .eq 12, 3) := by decide +kernel
theorem dX3_got_4 : decode cX3_got 4 = .ok (.iload_n 1, 1) := by decide +kernel
theorem dX3_got_5 : decode cX3_got 5 = .ok (.iconst 1, 1) := by decide +kernel
theorem dX3_got_6 : decode cX3_got 6 = .ok (.if_icmp .eq 7, 3) := by decide +kernel
theorem dX3_got_9 : decode cX3_got 9 = .ok (.ldc2_w 101, 3) := by decide +kernel
theorem dX3_got_12 : decode cX3_got 12 = .ok (.lreturn, 1) := by decide +kernel
theorem dX3_got_13 : decode cX3_got 13 = .ok (.aload_n 0, 1) := by decide +kernel
theorem dX3_got_14 : decode cX3_got 14 = .ok (.getfield 29, 3) := by decide +kernel
theorem dX3_got_17 : decode cX3_got 17 = .ok (.i2l, 1) := by decide +kernel
theorem dX3_got_18 : decode cX3_got 18 = .ok (.ldc2_w 106, 3) := by decide +kernel
theorem dX3_got_21 : decode cX3_got 21 = .ok (.lmul, 1) := by decide +kernel
theorem dX3_got_22 : decode cX3_got 22 = .ok (.lstore_n 2, 1) := by decide +kernel
theorem dX3_got_23 : decode cX3_got 23 = .ok (.aload_n 0, 1) := by decide +kernel
theorem dX3_got_24 : decode cX3_got 24 = .ok (.getfield 33, 3) := by decide +kernel
theorem dX3_got_27 : decode cX3_got 27 = .ok (.i2l, 1) := by decide +kernel
theorem dX3_got_28 : decode cX3_got 28 = .ok (.ldc2_w 106, 3) := by decide +kernel
theorem dX3_got_31 : decode cX3_got 31 = .ok (.lmul, 1) := by decide +kernel
theorem dX3_got_32 : decode cX3_got 32 = .ok (.lstore 4, 2) := by decide +kernel
theorem dX3_got_34 : decode cX3_got 34 = .ok (.iconst 0, 1) := by decide +kernel
theorem dX3_got_35 : decode cX3_got 35 = .ok (.istore 6, 2) := by decide +kernel
theorem dX3_got_37 : decode cX3_got 37 = .ok (.iload 6, 2) := by decide +kernel
theorem dX3_got_39 : decode cX3_got 39 = .ok (.aload_n 0, 1) := by decide +kernel
theorem dX3_got_40 : decode cX3_got 40 = .ok (.getfield 19, 3) := by decide +kernel
theorem dX3_got_43 : decode cX3_got 43 = .ok (.getfield 163, 3) := by decide +kernel
theorem dX3_got_46 : decode cX3_got 46 = .ok (.invokevirtual 66, 3) := by decide +kernel
theorem dX3_got_49 : decode cX3_got 49 = .ok (.if_icmp .ge 41, 3) := by decide +kernel
theorem dX3_got_52 : decode cX3_got 52 = .ok (.aload_n 0, 1) := by decide +kernel
theorem dX3_got_53 : decode cX3_got 53 = .ok (.getfield 19, 3) := by decide +kernel
theorem dX3_got_56 : decode cX3_got 56 = .ok (.getfield 163, 3) := by decide +kernel
theorem dX3_got_59 : decode cX3_got 59 = .ok (.iload 6, 2) := by decide +kernel
theorem dX3_got_61 : decode cX3_got 61 = .ok (.invokevirtual 83, 3) := by decide +kernel
theorem dX3_got_64 : decode cX3_got 64 = .ok (.lconst 0, 1) := by decide +kernel
theorem dX3_got_65 : decode cX3_got 65 = .ok (.lcmp, 1) := by decide +kernel
theorem dX3_got_66 : decode cX3_got 66 = .ok (.ifCond .ne 8, 3) := by decide +kernel
theorem dX3_got_69 : decode cX3_got 69 = .ok (.lload 4, 2) := by decide +kernel
theorem dX3_got_71 : decode cX3_got 71 = .ok (.goto 7, 3) := by decide +kernel
theorem dX3_got_74 : decode cX3_got 74 = .ok (.lload 4, 2) := by decide +kernel
theorem dX3_got_76 : decode cX3_got 76 = .ok (.lload_n 2, 1) := by decide +kernel
theorem dX3_got_77 : decode cX3_got 77 = .ok (.ladd, 1) := by decide +kernel
theorem dX3_got_78 : decode cX3_got 78 = .ok (.ldc2_w 169, 3) := by decide +kernel
theorem dX3_got_81 : decode cX3_got 81 = .ok (.ldiv, 1) := by decide +kernel
theorem dX3_got_82 : decode cX3_got 82 = .ok (.lstore 4, 2) := by decide +kernel
theorem dX3_got_84 : decode cX3_got 84 = .ok (.iinc 6 1, 3) := by decide +kernel
theorem dX3_got_87 : decode cX3_got 87 = .ok (.goto (-50), 3) := by decide +kernel
theorem dX3_got_90 : decode cX3_got 90 = .ok (.iload_n 1, 1) := by decide +kernel
theorem dX3_got_91 : decode cX3_got 91 = .ok (.ifCond .ne 12, 3) := by decide +kernel
theorem dX3_got_94 : decode cX3_got 94 = .ok (.lload 4, 2) := by decide +kernel
theorem dX3_got_96 : decode cX3_got 96 = .ok (.lload_n 2, 1) := by decide +kernel
theorem dX3_got_97 : decode cX3_got 97 = .ok (.invokestatic 108, 3) := by decide +kernel
theorem dX3_got_100 : decode cX3_got 100 = .ok (.goto 9, 3) := by decide +kernel
theorem dX3_got_103 : decode cX3_got 103 = .ok (.lload 4, 2) := by decide +kernel
theorem dX3_got_105 : decode cX3_got 105 = .ok (.lload_n 2, 1) := by decide +kernel
theorem dX3_got_106 : decode cX3_got 106 = .ok (.invokestatic 112, 3) := by decide +kernel
theorem dX3_got_109 : decode cX3_got 109 = .ok (.lreturn, 1) := by decide +kernel
set_option maxRecDepth 20000 in
theorem ggX3_saw_X3_isInner : GoodIn wsX3_saw wsX3_isInner := goodIn_r _ [6, 7, 23, 24, 25, 26, 27, 28, 29, 30, 31] (by decide +kernel) (by decide +kernel)
set_option maxRecDepth 20000 in
theorem gX3_saw_X3_isInner : GoodIn wsX3_saw (wsV RX3 132 RX3 yX3_isInner wsX3_isInner) := goodIn_app (goodIn_of _ (by decide +kernel)) ggX3_saw_X3_isInner
set_option maxRecDepth 20000 in
theorem ggX3_saw_X1_hasRoom : GoodIn wsX3_saw wsX1_hasRoom := goodIn_r _ [12, 13, 14, 37, 38] (by decide +kernel) (by decide +kernel)
set_option maxRecDepth 20000 in
theorem gX3_saw_X1_hasRoom : GoodIn wsX3_saw (wsV RX3 54 RX1 yX1_hasRoom wsX1_hasRoom) := goodIn_app (goodIn_of _ (by decide +kernel)) ggX3_saw_X1_hasRoom
set_option maxRecDepth 20000 in
theorem ggX3_saw_X1_add : GoodIn wsX3_saw wsX1_add := goodIn_r _ [18, 13, 14, 37, 38] (by decide +kernel) (by decide +kernel)
set_option maxRecDepth 20000 in
theorem gX3_saw_X1_add : GoodIn wsX3_saw (wsV RX3 62 RX1 yX1_add wsX1_add) := goodIn_app (goodIn_of _ (by decide +kernel)) ggX3_saw_X1_add
set_option maxRecDepth 20000 in
theorem ggX3_saw_X1_size : GoodIn wsX3_saw wsX1_size := goodIn_r _ [22, 13, 37, 38] (by decide +kernel) (by decide +kernel)
set_option maxRecDepth 20000 in
theorem gX3_saw_X1_size : GoodIn wsX3_saw (wsV RX3 66 RX1 yX1_size wsX1_size) := goodIn_app (goodIn_of _ (by decide +kernel)) ggX3_saw_X1_size
theorem dX3_saw_0 : decode cX3_saw 0 = .ok (.aload_n 0, 1) := by decide +kernel
theorem dX3_saw_1 : decode cX3_saw 1 = .ok (.iload_n 1, 1) := by decide +kernel
theorem dX3_saw_2 : decode cX3_saw 2 = .ok (.invokevirtual 132, 3) := by decide +kernel
theorem dX3_saw_5 : decode cX3_saw 5 = .ok (.ifCond .ne 5, 3) := by decide +kernel
theorem dX3_saw_8 : decode cX3_saw 8 = .ok (.iconst (-1), 1) := by decide +kernel
theorem dX3_saw_9 : decode cX3_saw 9 = .ok (.ireturn, 1) := by decide +kernel
theorem dX3_saw_10 : decode cX3_saw 10 = .ok (.aload_n 0, 1) := by decide +kernel
theorem dX3_saw_11 : decode cX3_saw 11 = .ok (.getfield 19, 3) := by decide +kernel
theorem dX3_saw_14 : decode cX3_saw 14 = .ok (.getfield 171, 3) := by decide +kernel
theorem dX3_saw_17 : decode cX3_saw 17 = .ok (.iconst 1, 1) := by decide +kernel
theorem dX3_saw_18 : decode cX3_saw 18 = .ok (.invokevirtual 54, 3) := by decide +kernel
theorem dX3_saw_21 : decode cX3_saw 21 = .ok (.ifCond .ne 6, 3) := by decide +kernel
theorem dX3_saw_24 : decode cX3_saw 24 = .ok (.bipush (-3), 2) := by decide +kernel
theorem dX3_saw_26 : decode cX3_saw 26 = .ok (.ireturn, 1) := by decide +kernel
theorem dX3_saw_27 : decode cX3_saw 27 = .ok (.aload_n 0, 1) := by decide +kernel
theorem dX3_saw_28 : decode cX3_saw 28 = .ok (.getfield 19, 3) := by decide +kernel
theorem dX3_saw_31 : decode cX3_saw 31 = .ok (.getfield 171, 3) := by decide +kernel
theorem dX3_saw_34 : decode cX3_saw 34 = .ok (.iload_n 1, 1) := by decide +kernel
theorem dX3_saw_35 : decode cX3_saw 35 = .ok (.i2l, 1) := by decide +kernel
theorem dX3_saw_36 : decode cX3_saw 36 = .ok (.invokevirtual 62, 3) := by decide +kernel
theorem dX3_saw_39 : decode cX3_saw 39 = .ok (.aload_n 0, 1) := by decide +kernel
theorem dX3_saw_40 : decode cX3_saw 40 = .ok (.getfield 19, 3) := by decide +kernel
theorem dX3_saw_43 : decode cX3_saw 43 = .ok (.getfield 171, 3) := by decide +kernel
theorem dX3_saw_46 : decode cX3_saw 46 = .ok (.invokevirtual 66, 3) := by decide +kernel
theorem dX3_saw_49 : decode cX3_saw 49 = .ok (.ireturn, 1) := by decide +kernel
set_option maxRecDepth 20000 in
theorem ggX3_forget_X1_empty : GoodIn wsX3_forget wsX1_empty := goodIn_r _ [6, 7, 22, 23] (by decide +kernel) (by decide +kernel)
set_option maxRecDepth 20000 in
theorem gX3_forget_X1_empty : GoodIn wsX3_forget (wsV RX3 70 RX1 yX1_empty wsX1_empty) := goodIn_app (goodIn_of _ (by decide +kernel)) ggX3_forget_X1_empty
theorem dX3_forget_0 : decode cX3_forget 0 = .ok (.aload_n 0, 1) := by decide +kernel
theorem dX3_forget_1 : decode cX3_forget 1 = .ok (.getfield 19, 3) := by decide +kernel
theorem dX3_forget_4 : decode cX3_forget 4 = .ok (.getfield 171, 3) := by decide +kernel
theorem dX3_forget_7 : decode cX3_forget 7 = .ok (.invokevirtual 70, 3) := by decide +kernel
theorem dX3_forget_10 : decode cX3_forget 10 = .ok (.ireturn, 1) := by decide +kernel
set_option maxRecDepth 20000 in
theorem ggX3_from_X3_seenSet : GoodIn wsX3_from wsX3_seenSet := goodIn_r _ [6, 7, 8, 9, 10, 11, 12, 13, 14, 15, 16, 17, 18, 19, 20, 5, 21, 32, 33, 34, 35, 36, 37, 38, 39, 40, 41, 42, 43, 44, 45, 46, 47] (by decide +kernel) (by decide +kernel)
set_option maxRecDepth 20000 in
theorem gX3_from_X3_seenSet : GoodIn wsX3_from (wsV RX3 174 RX3 yX3_seenSet wsX3_seenSet) := goodIn_app (goodIn_of _ (by decide +kernel)) ggX3_from_X3_seenSet
set_option maxRecDepth 20000 in
theorem ggX3_from_X3_waysFrom : GoodIn wsX3_from wsX3_waysFrom := goodIn_r _ [25, 1, 19, 20, 5, 21, 26, 27, 28, 29, 30, 31, 32, 33, 34, 35, 36, 37, 38, 39, 40] (by decide +kernel) (by decide +kernel)
set_option maxRecDepth 20000 in
theorem gX3_from_X3_waysFrom : GoodIn wsX3_from (wsV RX3 178 RX3 yX3_waysFrom wsX3_waysFrom) := goodIn_app (goodIn_of _ (by decide +kernel)) ggX3_from_X3_waysFrom
theorem dX3_from_0 : decode cX3_from 0 = .ok (.iload_n 1, 1) := by decide +kernel
theorem dX3_from_1 : decode cX3_from 1 = .ok (.ifCond .eq 10, 3) := by decide +kernel
theorem dX3_from_4 : decode cX3_from 4 = .ok (.iload_n 1, 1) := by decide +kernel
theorem dX3_from_5 : decode cX3_from 5 = .ok (.iconst 1, 1) := by decide +kernel
theorem dX3_from_6 : decode cX3_from 6 = .ok (.if_icmp .eq 5, 3) := by decide +kernel
theorem dX3_from_9 : decode cX3_from 9 = .ok (.iconst (-1), 1) := by decide +kernel
theorem dX3_from_10 : decode cX3_from 10 = .ok (.ireturn, 1) := by decide +kernel
theorem dX3_from_11 : decode cX3_from 11 = .ok (.aload_n 0, 1) := by decide +kernel
theorem dX3_from_12 : decode cX3_from 12 = .ok (.invokevirtual 174, 3) := by decide +kernel
theorem dX3_from_15 : decode cX3_from 15 = .ok (.lstore_n 2, 1) := by decide +kernel
theorem dX3_from_16 : decode cX3_from 16 = .ok (.iconst 0, 1) := by decide +kernel
theorem dX3_from_17 : decode cX3_from 17 = .ok (.istore 4, 2) := by decide +kernel
theorem dX3_from_19 : decode cX3_from 19 = .ok (.bipush (-9), 2) := by decide +kernel
theorem dX3_from_21 : decode cX3_from 21 = .ok (.istore 5, 2) := by decide +kernel
theorem dX3_from_23 : decode cX3_from 23 = .ok (.iconst 1, 1) := by decide +kernel
theorem dX3_from_24 : decode cX3_from 24 = .ok (.istore 6, 2) := by decide +kernel
theorem dX3_from_26 : decode cX3_from 26 = .ok (.iload 6, 2) := by decide +kernel
theorem dX3_from_28 : decode cX3_from 28 = .ok (.aload_n 0, 1) := by decide +kernel
theorem dX3_from_29 : decode cX3_from 29 = .ok (.getfield 29, 3) := by decide +kernel
theorem dX3_from_32 : decode cX3_from 32 = .ok (.if_icmp .ge 41, 3) := by decide +kernel
theorem dX3_from_35 : decode cX3_from 35 = .ok (.aload_n 0, 1) := by decide +kernel
theorem dX3_from_36 : decode cX3_from 36 = .ok (.iload 6, 2) := by decide +kernel
theorem dX3_from_38 : decode cX3_from 38 = .ok (.lload_n 2, 1) := by decide +kernel
theorem dX3_from_39 : decode cX3_from 39 = .ok (.invokevirtual 178, 3) := by decide +kernel
theorem dX3_from_42 : decode cX3_from 42 = .ok (.istore 7, 2) := by decide +kernel
theorem dX3_from_44 : decode cX3_from 44 = .ok (.iload 7, 2) := by decide +kernel
theorem dX3_from_46 : decode cX3_from 46 = .ok (.ifCond .le 14, 3) := by decide +kernel
theorem dX3_from_49 : decode cX3_from 49 = .ok (.iload 5, 2) := by decide +kernel
theorem dX3_from_51 : decode cX3_from 51 = .ok (.bipush (-9), 2) := by decide +kernel
theorem dX3_from_53 : decode cX3_from 53 = .ok (.if_icmp .ne 7, 3) := by decide +kernel
theorem dX3_from_56 : decode cX3_from 56 = .ok (.iload 6, 2) := by decide +kernel
theorem dX3_from_58 : decode cX3_from 58 = .ok (.istore 5, 2) := by decide +kernel
theorem dX3_from_60 : decode cX3_from 60 = .ok (.iload 4, 2) := by decide +kernel
theorem dX3_from_62 : decode cX3_from 62 = .ok (.iload 7, 2) := by decide +kernel
theorem dX3_from_64 : decode cX3_from 64 = .ok (.iadd, 1) := by decide +kernel
theorem dX3_from_65 : decode cX3_from 65 = .ok (.istore 4, 2) := by decide +kernel
theorem dX3_from_67 : decode cX3_from 67 = .ok (.iinc 6 1, 3) := by decide +kernel
theorem dX3_from_70 : decode cX3_from 70 = .ok (.goto (-44), 3) := by decide +kernel
theorem dX3_from_73 : decode cX3_from 73 = .ok (.iload_n 1, 1) := by decide +kernel
theorem dX3_from_74 : decode cX3_from 74 = .ok (.ifCond .ne 8, 3) := by decide +kernel
theorem dX3_from_77 : decode cX3_from 77 = .ok (.iload 4, 2) := by decide +kernel
theorem dX3_from_79 : decode cX3_from 79 = .ok (.goto 5, 3) := by decide +kernel
theorem dX3_from_82 : decode cX3_from 82 = .ok (.iload 5, 2) := by decide +kernel
theorem dX3_from_84 : decode cX3_from 84 = .ok (.ireturn, 1) := by decide +kernel
set_option maxRecDepth 20000 in
theorem ggX3_mark_X3_isCrease : GoodIn wsX3_mark wsX3_isCrease := goodIn_r _ [6, 7, 8, 9, 10, 11, 12, 13, 14, 15, 16, 17, 18, 19, 62, 63, 64, 65, 66, 67, 68, 69, 70, 71, 72, 73, 74, 75, 76, 77] (by decide +kernel) (by decide +kernel)
set_option maxRecDepth 20000 in
theorem gX3_mark_X3_isCrease : GoodIn wsX3_mark (wsV RX3 98 RX3 yX3_isCrease wsX3_isCrease) := goodIn_app (goodIn_of _ (by decide +kernel)) ggX3_mark_X3_isCrease
set_option maxRecDepth 20000 in
theorem ggX3_mark_X3_asCrease : GoodIn wsX3_mark wsX3_asCrease := goodIn_r _ [23, 24, 62, 63, 64, 65, 66, 67, 68, 69, 70] (by decide +kernel) (by decide +kernel)
set_option maxRecDepth 20000 in
theorem gX3_mark_X3_asCrease : GoodIn wsX3_mark (wsV RX3 183 RX3 yX3_asCrease wsX3_asCrease) := goodIn_app (goodIn_of _ (by decide +kernel)) ggX3_mark_X3_asCrease
set_option maxRecDepth 20000 in
theorem ggX3_mark_X3_asPinch : GoodIn wsX3_mark wsX3_asPinch := goodIn_r _ [28, 24, 29, 30, 31, 32, 5, 33, 7, 34, 35, 36, 37, 17, 38, 39, 20, 21, 22, 23, 62, 63, 64, 65, 66, 67, 68, 69, 70, 71, 72, 73, 74, 75, 76, 77] (by decide +kernel) (by decide +kernel)
set_option maxRecDepth 20000 in
theorem gX3_mark_X3_asPinch : GoodIn wsX3_mark (wsV RX3 186 RX3 yX3_asPinch wsX3_asPinch) := goodIn_app (goodIn_of _ (by decide +kernel)) ggX3_mark_X3_asPinch
set_option maxRecDepth 20000 in
theorem ggX3_mark_X3_asEnd : GoodIn wsX3_mark wsX3_asEnd := goodIn_r _ [43, 24, 44, 7, 20, 21, 22, 5, 23, 8, 9, 10, 11, 12, 13, 14, 15, 16, 17, 18, 19, 62, 63, 64, 65, 66, 67, 68, 69, 70, 71, 72, 73, 74, 75, 76, 77] (by decide +kernel) (by decide +kernel)
set_option maxRecDepth 20000 in
theorem gX3_mark_X3_asEnd : GoodIn wsX3_mark (wsV RX3 189 RX3 yX3_asEnd wsX3_asEnd) := goodIn_app (goodIn_of _ (by decide +kernel)) ggX3_mark_X3_asEnd
set_option maxRecDepth 20000 in
theorem ggX3_mark_X3_asThumb : GoodIn wsX3_mark wsX3_asThumb := goodIn_r _ [48, 24, 49, 25, 26, 27, 5, 28, 29, 30, 31, 32, 33, 7, 34, 35, 36, 37, 17, 38, 39, 20, 21, 22, 23, 62, 63, 64, 65, 66, 67, 68, 69, 70, 71, 72, 73, 74, 75, 76, 77] (by decide +kernel) (by decide +kernel)
set_option maxRecDepth 20000 in
theorem gX3_mark_X3_asThumb : GoodIn wsX3_mark (wsV RX3 192 RX3 yX3_asThumb wsX3_asThumb) := goodIn_app (goodIn_of _ (by decide +kernel)) ggX3_mark_X3_asThumb
set_option maxRecDepth 20000 in
theorem ggX3_mark_X3_asCorner : GoodIn wsX3_mark wsX3_asCorner := goodIn_r _ [53, 24, 54, 7, 40, 41, 42, 5, 43, 44, 20, 21, 22, 23, 8, 9, 10, 11, 12, 13, 14, 15, 16, 17, 18, 19, 55, 62, 63, 64, 65, 66, 67, 68, 69, 70, 71, 72, 73, 74, 75, 76, 77] (by decide +kernel) (by decide +kernel)
set_option maxRecDepth 20000 in
theorem gX3_mark_X3_asCorner : GoodIn wsX3_mark (wsV RX3 195 RX3 yX3_asCorner wsX3_asCorner) := goodIn_app (goodIn_of _ (by decide +kernel)) ggX3_mark_X3_asCorner
set_option maxRecDepth 20000 in
theorem ggX3_mark_X3_asSeam : GoodIn wsX3_mark wsX3_asSeam := goodIn_r _ [59, 24, 60, 61, 20, 21, 22, 5, 23, 62, 63, 64, 65, 66, 67, 68, 69, 70] (by decide +kernel) (by decide +kernel)
set_option maxRecDepth 20000 in
theorem gX3_mark_X3_asSeam : GoodIn wsX3_mark (wsV RX3 198 RX3 yX3_asSeam wsX3_asSeam) := goodIn_app (goodIn_of _ (by decide +kernel)) ggX3_mark_X3_asSeam
theorem dX3_mark_0 : decode cX3_mark 0 = .ok (.aload_n 0, 1) := by decide +kernel
theorem dX3_mark_1 : decode cX3_mark 1 = .ok (.iload_n 2, 1) := by decide +kernel
theorem dX3_mark_2 : decode cX3_mark 2 = .ok (.invokevirtual 98, 3) := by decide +kernel
theorem dX3_mark_5 : decode cX3_mark 5 = .ok (.ifCond .ne 6, 3) := by decide +kernel
theorem dX3_mark_8 : decode cX3_mark 8 = .ok (.ldc 182, 2) := by decide +kernel
theorem dX3_mark_10 : decode cX3_mark 10 = .ok (.ireturn, 1) := by decide +kernel
theorem dX3_mark_11 : decode cX3_mark 11 = .ok (.iload_n 1, 1) := by decide +kernel
theorem dX3_mark_12 : decode cX3_mark 12 = .ok (.tableswitch 76 0 5 #[40, 46, 52, 58, 64, 70], 40) := by decide +kernel
theorem dX3_mark_52 : decode cX3_mark 52 = .ok (.aload_n 0, 1) := by decide +kernel
theorem dX3_mark_53 : decode cX3_mark 53 = .ok (.iload_n 2, 1) := by decide +kernel
theorem dX3_mark_54 : decode cX3_mark 54 = .ok (.invokevirtual 183, 3) := by decide +kernel
theorem dX3_mark_57 : decode cX3_mark 57 = .ok (.ireturn, 1) := by decide +kernel
theorem dX3_mark_58 : decode cX3_mark 58 = .ok (.aload_n 0, 1) := by decide +kernel
theorem dX3_mark_59 : decode cX3_mark 59 = .ok (.iload_n 2, 1) := by decide +kernel
theorem dX3_mark_60 : decode cX3_mark 60 = .ok (.invokevirtual 186, 3) := by decide +kernel
theorem dX3_mark_63 : decode cX3_mark 63 = .ok (.ireturn, 1) := by decide +kernel
theorem dX3_mark_64 : decode cX3_mark 64 = .ok (.aload_n 0, 1) := by decide +kernel
theorem dX3_mark_65 : decode cX3_mark 65 = .ok (.iload_n 2, 1) := by decide +kernel
theorem dX3_mark_66 : decode cX3_mark 66 = .ok (.invokevirtual 189, 3) := by decide +kernel
theorem dX3_mark_69 : decode cX3_mark 69 = .ok (.ireturn, 1) := by decide +kernel
theorem dX3_mark_70 : decode cX3_mark 70 = .ok (.aload_n 0, 1) := by decide +kernel
theorem dX3_mark_71 : decode cX3_mark 71 = .ok (.iload_n 2, 1) := by decide +kernel
theorem dX3_mark_72 : decode cX3_mark 72 = .ok (.invokevirtual 192, 3) := by decide +kernel
theorem dX3_mark_75 : decode cX3_mark 75 = .ok (.ireturn, 1) := by decide +kernel
theorem dX3_mark_76 : decode cX3_mark 76 = .ok (.aload_n 0, 1) := by decide +kernel
theorem dX3_mark_77 : decode cX3_mark 77 = .ok (.iload_n 2, 1) := by decide +kernel
theorem dX3_mark_78 : decode cX3_mark 78 = .ok (.invokevirtual 195, 3) := by decide +kernel
theorem dX3_mark_81 : decode cX3_mark 81 = .ok (.ireturn, 1) := by decide +kernel
theorem dX3_mark_82 : decode cX3_mark 82 = .ok (.aload_n 0, 1) := by decide +kernel
theorem dX3_mark_83 : decode cX3_mark 83 = .ok (.iload_n 2, 1) := by decide +kernel
theorem dX3_mark_84 : decode cX3_mark 84 = .ok (.invokevirtual 198, 3) := by decide +kernel
theorem dX3_mark_87 : decode cX3_mark 87 = .ok (.ireturn, 1) := by decide +kernel
theorem dX3_mark_88 : decode cX3_mark 88 = .ok (.ldc 182, 2) := by decide +kernel
theorem dX3_mark_90 : decode cX3_mark 90 = .ok (.ireturn, 1) := by decide +kernel
set_option maxRecDepth 20000 in
theorem ggX3_keep_X3_imageOf : GoodIn wsX3_keep wsX3_imageOf := goodIn_r _ [6, 7, 8, 46, 47, 48, 49, 50, 51, 52, 53, 54] (by decide +kernel) (by decide +kernel)
set_option maxRecDepth 20000 in
theorem gX3_keep_X3_imageOf : GoodIn wsX3_keep (wsV RX3 201 RX3 yX3_imageOf wsX3_imageOf) := goodIn_app (goodIn_of _ (by decide +kernel)) ggX3_keep_X3_imageOf
set_option maxRecDepth 20000 in
theorem ggX3_keep_X0_copy : GoodIn wsX3_keep wsX0_copy := goodIn_r _ [13, 14, 15, 16, 17, 18, 19, 20, 21, 22, 23, 24, 25, 26, 27, 28, 29, 30, 31, 32, 33, 34, 35, 36, 37, 55, 56, 57, 58, 59, 60, 61] (by decide +kernel) (by decide +kernel)
set_option maxRecDepth 20000 in
theorem gX3_keep_X0_copy : GoodIn wsX3_keep (wsV RX3 205 RX0 yX0_copy wsX0_copy) := goodIn_app (goodIn_of _ (by decide +kernel)) ggX3_keep_X0_copy
set_option maxRecDepth 20000 in
theorem ggX3_keep_X0_creases : GoodIn wsX3_keep wsX0_creases := goodIn_r _ [41, 14, 42, 43, 44, 22, 45, 24, 55, 56, 57, 58, 59, 60, 61] (by decide +kernel) (by decide +kernel)
set_option maxRecDepth 20000 in
theorem gX3_keep_X0_creases : GoodIn wsX3_keep (wsV RX3 138 RX0 yX0_creases wsX0_creases) := goodIn_app (goodIn_of _ (by decide +kernel)) ggX3_keep_X0_creases
theorem dX3_keep_0 : decode cX3_keep 0 = .ok (.aload_n 0, 1) := by decide +kernel
theorem dX3_keep_1 : decode cX3_keep 1 = .ok (.iload_n 1, 1) := by decide +kernel
theorem dX3_keep_2 : decode cX3_keep 2 = .ok (.invokevirtual 201, 3) := by decide +kernel
theorem dX3_keep_5 : decode cX3_keep 5 = .ok (.astore_n 2, 1) := by decide +kernel
theorem dX3_keep_6 : decode cX3_keep 6 = .ok (.aload_n 2, 1) := by decide +kernel
theorem dX3_keep_7 : decode cX3_keep 7 = .ok (.ifnonnull 5, 3) := by decide +kernel
theorem dX3_keep_10 : decode cX3_keep 10 = .ok (.iconst (-1), 1) := by decide +kernel
theorem dX3_keep_11 : decode cX3_keep 11 = .ok (.ireturn, 1) := by decide +kernel
theorem dX3_keep_12 : decode cX3_keep 12 = .ok (.aload_n 2, 1) := by decide +kernel
theorem dX3_keep_13 : decode cX3_keep 13 = .ok (.aload_n 0, 1) := by decide +kernel
theorem dX3_keep_14 : decode cX3_keep 14 = .ok (.getfield 19, 3) := by decide +kernel
theorem dX3_keep_17 : decode cX3_keep 17 = .ok (.invokevirtual 205, 3) := by decide +kernel
theorem dX3_keep_20 : decode cX3_keep 20 = .ok (.aload_n 0, 1) := by decide +kernel
theorem dX3_keep_21 : decode cX3_keep 21 = .ok (.getfield 19, 3) := by decide +kernel
theorem dX3_keep_24 : decode cX3_keep 24 = .ok (.invokevirtual 138, 3) := by decide +kernel
theorem dX3_keep_27 : decode cX3_keep 27 = .ok (.ireturn, 1) := by decide +kernel
set_option maxRecDepth 20000 in
theorem ggX3_back_X3_imageOf : GoodIn wsX3_back wsX3_imageOf := goodIn_r _ [6, 7, 8, 46, 47, 48, 49, 50, 51, 52, 53, 54] (by decide +kernel) (by decide +kernel)
set_option maxRecDepth 20000 in
theorem gX3_back_X3_imageOf : GoodIn wsX3_back (wsV RX3 201 RX3 yX3_imageOf wsX3_imageOf) := goodIn_app (goodIn_of _ (by decide +kernel)) ggX3_back_X3_imageOf
set_option maxRecDepth 20000 in
theorem ggX3_back_X0_creases : GoodIn wsX3_back wsX0_creases := goodIn_r _ [13, 14, 15, 16, 17, 18, 19, 20, 55, 56, 57, 58, 59, 60, 61] (by decide +kernel) (by decide +kernel)
set_option maxRecDepth 20000 in
theorem gX3_back_X0_creases : GoodIn wsX3_back (wsV RX3 138 RX0 yX0_creases wsX0_creases) := goodIn_app (goodIn_of _ (by decide +kernel)) ggX3_back_X0_creases
set_option maxRecDepth 20000 in
theorem ggX3_back_X0_copy : GoodIn wsX3_back wsX0_copy := goodIn_r _ [24, 14, 25, 26, 27, 28, 29, 30, 31, 18, 32, 20, 33, 34, 35, 36, 37, 38, 39, 40, 41, 42, 43, 44, 45, 55, 56, 57, 58, 59, 60, 61] (by decide +kernel) (by decide +kernel)
set_option maxRecDepth 20000 in
theorem gX3_back_X0_copy : GoodIn wsX3_back (wsV RX3 205 RX0 yX0_copy wsX0_copy) := goodIn_app (goodIn_of _ (by decide +kernel)) ggX3_back_X0_copy
theorem dX3_back_0 : decode cX3_back 0 = .ok (.aload_n 0, 1) := by decide +kernel
theorem dX3_back_1 : decode cX3_back 1 = .ok (.iload_n 1, 1) := by decide +kernel
theorem dX3_back_2 : decode cX3_back 2 = .ok (.invokevirtual 201, 3) := by decide +kernel
theorem dX3_back_5 : decode cX3_back 5 = .ok (.astore_n 2, 1) := by decide +kernel
theorem dX3_back_6 : decode cX3_back 6 = .ok (.aload_n 2, 1) := by decide +kernel
theorem dX3_back_7 : decode cX3_back 7 = .ok (.ifnonnull 5, 3) := by decide +kernel
theorem dX3_back_10 : decode cX3_back 10 = .ok (.iconst (-1), 1) := by decide +kernel
theorem dX3_back_11 : decode cX3_back 11 = .ok (.ireturn, 1) := by decide +kernel
theorem dX3_back_12 : decode cX3_back 12 = .ok (.aload_n 2, 1) := by decide +kernel
theorem dX3_back_13 : decode cX3_back 13 = .ok (.invokevirtual 138, 3) := by decide +kernel
theorem dX3_back_16 : decode cX3_back 16 = .ok (.ifCond .ne 6, 3) := by decide +kernel
theorem dX3_back_19 : decode cX3_back 19 = .ok (.bipush (-2), 2) := by decide +kernel
theorem dX3_back_21 : decode cX3_back 21 = .ok (.ireturn, 1) := by decide +kernel
theorem dX3_back_22 : decode cX3_back 22 = .ok (.aload_n 0, 1) := by decide +kernel
theorem dX3_back_23 : decode cX3_back 23 = .ok (.getfield 19, 3) := by decide +kernel
theorem dX3_back_26 : decode cX3_back 26 = .ok (.aload_n 2, 1) := by decide +kernel
theorem dX3_back_27 : decode cX3_back 27 = .ok (.invokevirtual 205, 3) := by decide +kernel
theorem dX3_back_30 : decode cX3_back 30 = .ok (.aload_n 0, 1) := by decide +kernel
theorem dX3_back_31 : decode cX3_back 31 = .ok (.getfield 19, 3) := by decide +kernel
theorem dX3_back_34 : decode cX3_back 34 = .ok (.invokevirtual 138, 3) := by decide +kernel
theorem dX3_back_37 : decode cX3_back 37 = .ok (.ireturn, 1) := by decide +kernel
set_option maxRecDepth 20000 in
theorem ggX3_count_X0_creases : GoodIn wsX3_count wsX0_creases := goodIn_r _ [7, 8, 9, 10, 11, 12, 13, 14, 25, 26, 27, 28, 29, 45, 46] (by decide +kernel) (by decide +kernel)
set_option maxRecDepth 20000 in
theorem gX3_count_X0_creases : GoodIn wsX3_count (wsV RX3 138 RX0 yX0_creases wsX0_creases) := goodIn_app (goodIn_of _ (by decide +kernel)) ggX3_count_X0_creases
set_option maxRecDepth 20000 in
theorem ggX3_count_X1_size : GoodIn wsX3_count wsX1_size := goodIn_r _ [13, 14, 45, 46] (by decide +kernel) (by decide +kernel)
set_option maxRecDepth 20000 in
theorem gX3_count_X1_size : GoodIn wsX3_count (wsV RX3 66 RX1 yX1_size wsX1_size) := goodIn_app (goodIn_of _ (by decide +kernel)) ggX3_count_X1_size
theorem dX3_count_0 : decode cX3_count 0 = .ok (.iload_n 1, 1) := by decide +kernel
theorem dX3_count_1 : decode cX3_count 1 = .ok (.tableswitch 72 0 3 #[31, 39, 50, 61], 31) := by decide +kernel
theorem dX3_count_32 : decode cX3_count 32 = .ok (.aload_n 0, 1) := by decide +kernel
theorem dX3_count_33 : decode cX3_count 33 = .ok (.getfield 19, 3) := by decide +kernel
theorem dX3_count_36 : decode cX3_count 36 = .ok (.invokevirtual 138, 3) := by decide +kernel
theorem dX3_count_39 : decode cX3_count 39 = .ok (.ireturn, 1) := by decide +kernel
theorem dX3_count_40 : decode cX3_count 40 = .ok (.aload_n 0, 1) := by decide +kernel
theorem dX3_count_41 : decode cX3_count 41 = .ok (.getfield 19, 3) := by decide +kernel
theorem dX3_count_44 : decode cX3_count 44 = .ok (.getfield 163, 3) := by decide +kernel
theorem dX3_count_47 : decode cX3_count 47 = .ok (.invokevirtual 66, 3) := by decide +kernel
theorem dX3_count_50 : decode cX3_count 50 = .ok (.ireturn, 1) := by decide +kernel
theorem dX3_count_51 : decode cX3_count 51 = .ok (.aload_n 0, 1) := by decide +kernel
theorem dX3_count_52 : decode cX3_count 52 = .ok (.getfield 19, 3) := by decide +kernel
theorem dX3_count_55 : decode cX3_count 55 = .ok (.getfield 171, 3) := by decide +kernel
theorem dX3_count_58 : decode cX3_count 58 = .ok (.invokevirtual 66, 3) := by decide +kernel
theorem dX3_count_61 : decode cX3_count 61 = .ok (.ireturn, 1) := by decide +kernel
theorem dX3_count_62 : decode cX3_count 62 = .ok (.aload_n 0, 1) := by decide +kernel
theorem dX3_count_63 : decode cX3_count 63 = .ok (.getfield 12, 3) := by decide +kernel
theorem dX3_count_66 : decode cX3_count 66 = .ok (.getfield 50, 3) := by decide +kernel
theorem dX3_count_69 : decode cX3_count 69 = .ok (.invokevirtual 66, 3) := by decide +kernel
theorem dX3_count_72 : decode cX3_count 72 = .ok (.ireturn, 1) := by decide +kernel
theorem dX3_count_73 : decode cX3_count 73 = .ok (.iconst (-1), 1) := by decide +kernel
theorem dX3_count_74 : decode cX3_count 74 = .ok (.ireturn, 1) := by decide +kernel
theorem dX3_trace_0 : decode cX3_trace 0 = .ok (.aload_n 0, 1) := by decide +kernel
theorem dX3_trace_1 : decode cX3_trace 1 = .ok (.getfield 42, 3) := by decide +kernel
theorem dX3_trace_4 : decode cX3_trace 4 = .ok (.lreturn, 1) := by decide +kernel
set_option maxRecDepth 20000 in
theorem ggX3_isCrease_X0_creases : GoodIn wsX3_isCrease wsX0_creases := goodIn_r _ [6, 7, 8, 9, 10, 11, 12, 13, 23, 24, 25, 26, 27, 28, 29] (by decide +kernel) (by decide +kernel)
set_option maxRecDepth 20000 in
theorem gX3_isCrease_X0_creases : GoodIn wsX3_isCrease (wsV RX3 138 RX0 yX0_creases wsX0_creases) := goodIn_app (goodIn_of _ (by decide +kernel)) ggX3_isCrease_X0_creases
theorem dX3_isCrease_0 : decode cX3_isCrease 0 = .ok (.iload_n 1, 1) := by decide +kernel
theorem dX3_isCrease_1 : decode cX3_isCrease 1 = .ok (.ifCond .lt 18, 3) := by decide +kernel
theorem dX3_isCrease_4 : decode cX3_isCrease 4 = .ok (.iload_n 1, 1) := by decide +kernel
theorem dX3_isCrease_5 : decode cX3_isCrease 5 = .ok (.aload_n 0, 1) := by decide +kernel
theorem dX3_isCrease_6 : decode cX3_isCrease 6 = .ok (.getfield 19, 3) := by decide +kernel
theorem dX3_isCrease_9 : decode cX3_isCrease 9 = .ok (.invokevirtual 138, 3) := by decide +kernel
theorem dX3_isCrease_12 : decode cX3_isCrease 12 = .ok (.if_icmp .ge 7, 3) := by decide +kernel
theorem dX3_isCrease_15 : decode cX3_isCrease 15 = .ok (.iconst 1, 1) := by decide +kernel
theorem dX3_isCrease_16 : decode cX3_isCrease 16 = .ok (.goto 4, 3) := by decide +kernel
theorem dX3_isCrease_19 : decode cX3_isCrease 19 = .ok (.iconst 0, 1) := by decide +kernel
theorem dX3_isCrease_20 : decode cX3_isCrease 20 = .ok (.ireturn, 1) := by decide +kernel
set_option maxRecDepth 20000 in
theorem ggX3_isFolded_X0_creases : GoodIn wsX3_isFolded wsX0_creases := goodIn_r _ [6, 7, 8, 9, 10, 11, 12, 13, 23, 24, 25, 26, 27, 28, 29] (by decide +kernel) (by decide +kernel)
set_option maxRecDepth 20000 in
theorem gX3_isFolded_X0_creases : GoodIn wsX3_isFolded (wsV RX3 138 RX0 yX0_creases wsX0_creases) := goodIn_app (goodIn_of _ (by decide +kernel)) ggX3_isFolded_X0_creases
theorem dX3_isFolded_0 : decode cX3_isFolded 0 = .ok (.aload_n 0, 1) := by decide +kernel
theorem dX3_isFolded_1 : decode cX3_isFolded 1 = .ok (.getfield 19, 3) := by decide +kernel
theorem dX3_isFolded_4 : decode cX3_isFolded 4 = .ok (.invokevirtual 138, 3) := by decide +kernel
theorem dX3_isFolded_7 : decode cX3_isFolded 7 = .ok (.bipush 23, 2) := by decide +kernel
theorem dX3_isFolded_9 : decode cX3_isFolded 9 = .ok (.if_icmp .lt 7, 3) := by decide +kernel
theorem dX3_isFolded_12 : decode cX3_isFolded 12 = .ok (.iconst 1, 1) := by decide +kernel
theorem dX3_isFolded_13 : decode cX3_isFolded 13 = .ok (.goto 4, 3) := by decide +kernel
theorem dX3_isFolded_16 : decode cX3_isFolded 16 = .ok (.iconst 0, 1) := by decide +kernel
theorem dX3_isFolded_17 : decode cX3_isFolded 17 = .ok (.ireturn, 1) := by decide +kernel
set_option maxRecDepth 20000 in
theorem ggX3_latest_X0_creases : GoodIn wsX3_latest wsX0_creases := goodIn_r _ [6, 7, 8, 9, 10, 11, 12, 13, 23, 24, 25, 26, 27, 28, 29] (by decide +kernel) (by decide +kernel)
set_option maxRecDepth 20000 in
theorem gX3_latest_X0_creases : GoodIn wsX3_latest (wsV RX3 138 RX0 yX0_creases wsX0_creases) := goodIn_app (goodIn_of _ (by decide +kernel)) ggX3_latest_X0_creases
theorem dX3_latest_0 : decode cX3_latest 0 = .ok (.aload_n 0, 1) := by decide +kernel
theorem dX3_latest_1 : decode cX3_latest 1 = .ok (.getfield 19, 3) := by decide +kernel
theorem dX3_latest_4 : decode cX3_latest 4 = .ok (.invokevirtual 138, 3) := by decide +kernel
theorem dX3_latest_7 : decode cX3_latest 7 = .ok (.iconst 1, 1) := by decide +kernel
theorem dX3_latest_8 : decode cX3_latest 8 = .ok (.isub, 1) := by decide +kernel
theorem dX3_latest_9 : decode cX3_latest 9 = .ok (.ireturn, 1) := by decide +kernel
set_option maxRecDepth 20000 in
theorem ggX3_partOf_X1_at : GoodIn wsX3_partOf wsX1_at := goodIn_r _ [7, 8, 23, 24] (by decide +kernel) (by decide +kernel)
set_option maxRecDepth 20000 in
theorem gX3_partOf_X1_at : GoodIn wsX3_partOf (wsV RX3 83 RX1 yX1_at wsX1_at) := goodIn_app (goodIn_of _ (by decide +kernel)) ggX3_partOf_X1_at
theorem dX3_partOf_0 : decode cX3_partOf 0 = .ok (.aload_n 0, 1) := by decide +kernel
theorem dX3_partOf_1 : decode cX3_partOf 1 = .ok (.getfield 19, 3) := by decide +kernel
theorem dX3_partOf_4 : decode cX3_partOf 4 = .ok (.getfield 103, 3) := by decide +kernel
theorem dX3_partOf_7 : decode cX3_partOf 7 = .ok (.iload_n 1, 1) := by decide +kernel
theorem dX3_partOf_8 : decode cX3_partOf 8 = .ok (.invokevirtual 83, 3) := by decide +kernel
theorem dX3_partOf_11 : decode cX3_partOf 11 = .ok (.lstore_n 2, 1) := by decide +kernel
theorem dX3_partOf_12 : decode cX3_partOf 12 = .ok (.lload_n 2, 1) := by decide +kernel
theorem dX3_partOf_13 : decode cX3_partOf 13 = .ok (.ldc2_w 106, 3) := by decide +kernel
theorem dX3_partOf_16 : decode cX3_partOf 16 = .ok (.lrem, 1) := by decide +kernel
theorem dX3_partOf_17 : decode cX3_partOf 17 = .ok (.lconst 0, 1) := by decide +kernel
theorem dX3_partOf_18 : decode cX3_partOf 18 = .ok (.lcmp, 1) := by decide +kernel
theorem dX3_partOf_19 : decode cX3_partOf 19 = .ok (.ifCond .ne 12, 3) := by decide +kernel
theorem dX3_partOf_22 : decode cX3_partOf 22 = .ok (.lload_n 2, 1) := by decide +kernel
theorem dX3_partOf_23 : decode cX3_partOf 23 = .ok (.ldc2_w 106, 3) := by decide +kernel
theorem dX3_partOf_26 : decode cX3_partOf 26 = .ok (.ldiv, 1) := by decide +kernel
theorem dX3_partOf_27 : decode cX3_partOf 27 = .ok (.l2i, 1) := by decide +kernel
theorem dX3_partOf_28 : decode cX3_partOf 28 = .ok (.goto 5, 3) := by decide +kernel
theorem dX3_partOf_31 : decode cX3_partOf 31 = .ok (.bipush (-9), 2) := by decide +kernel
theorem dX3_partOf_33 : decode cX3_partOf 33 = .ok (.ireturn, 1) := by decide +kernel
set_option maxRecDepth 20000 in
theorem ggX3_creasesAtNoPart_X0_creases : GoodIn wsX3_creasesAtNoPart wsX0_creases := goodIn_r _ [6, 7, 8, 9, 10, 11, 12, 13, 34, 35, 36, 37, 38, 39, 40] (by decide +kernel) (by decide +kernel)
set_option maxRecDepth 20000 in
theorem gX3_creasesAtNoPart_X0_creases : GoodIn wsX3_creasesAtNoPart (wsV RX3 138 RX0 yX0_creases wsX0_creases) := goodIn_app (goodIn_of _ (by decide +kernel)) ggX3_creasesAtNoPart_X0_creases
set_option maxRecDepth 20000 in
theorem ggX3_creasesAtNoPart_X3_partOf : GoodIn wsX3_creasesAtNoPart wsX3_partOf := goodIn_r _ [18, 1, 19, 20, 21, 22, 11, 23, 24, 25, 26, 27, 28, 29, 30, 31, 32, 33, 34, 35, 36, 37, 38, 39, 40] (by decide +kernel) (by decide +kernel)
set_option maxRecDepth 20000 in
theorem gX3_creasesAtNoPart_X3_partOf : GoodIn wsX3_creasesAtNoPart (wsV RX3 121 RX3 yX3_partOf wsX3_partOf) := goodIn_app (goodIn_of _ (by decide +kernel)) ggX3_creasesAtNoPart_X3_partOf
theorem dX3_creasesAtNoPart_0 : decode cX3_creasesAtNoPart 0 = .ok (.iconst 0, 1) := by decide +kernel
theorem dX3_creasesAtNoPart_1 : decode cX3_creasesAtNoPart 1 = .ok (.istore_n 1, 1) := by decide +kernel
theorem dX3_creasesAtNoPart_2 : decode cX3_creasesAtNoPart 2 = .ok (.iconst 2, 1) := by decide +kernel
theorem dX3_creasesAtNoPart_3 : decode cX3_creasesAtNoPart 3 = .ok (.istore_n 2, 1) := by decide +kernel
theorem dX3_creasesAtNoPart_4 : decode cX3_creasesAtNoPart 4 = .ok (.iload_n 2, 1) := by decide +kernel
theorem dX3_creasesAtNoPart_5 : decode cX3_creasesAtNoPart 5 = .ok (.aload_n 0, 1) := by decide +kernel
theorem dX3_creasesAtNoPart_6 : decode cX3_creasesAtNoPart 6 = .ok (.getfield 19, 3) := by decide +kernel
theorem dX3_creasesAtNoPart_9 : decode cX3_creasesAtNoPart 9 = .ok (.invokevirtual 138, 3) := by decide +kernel
theorem dX3_creasesAtNoPart_12 : decode cX3_creasesAtNoPart 12 = .ok (.if_icmp .ge 22, 3) := by decide +kernel
theorem dX3_creasesAtNoPart_15 : decode cX3_creasesAtNoPart 15 = .ok (.aload_n 0, 1) := by decide +kernel
theorem dX3_creasesAtNoPart_16 : decode cX3_creasesAtNoPart 16 = .ok (.iload_n 2, 1) := by decide +kernel
theorem dX3_creasesAtNoPart_17 : decode cX3_creasesAtNoPart 17 = .ok (.invokevirtual 121, 3) := by decide +kernel
theorem dX3_creasesAtNoPart_20 : decode cX3_creasesAtNoPart 20 = .ok (.bipush (-9), 2) := by decide +kernel
theorem dX3_creasesAtNoPart_22 : decode cX3_creasesAtNoPart 22 = .ok (.if_icmp .ne 6, 3) := by decide +kernel
theorem dX3_creasesAtNoPart_25 : decode cX3_creasesAtNoPart 25 = .ok (.iinc 1 1, 3) := by decide +kernel
theorem dX3_creasesAtNoPart_28 : decode cX3_creasesAtNoPart 28 = .ok (.iinc 2 1, 3) := by decide +kernel
theorem dX3_creasesAtNoPart_31 : decode cX3_creasesAtNoPart 31 = .ok (.goto (-27), 3) := by decide +kernel
theorem dX3_creasesAtNoPart_34 : decode cX3_creasesAtNoPart 34 = .ok (.iload_n 1, 1) := by decide +kernel
theorem dX3_creasesAtNoPart_35 : decode cX3_creasesAtNoPart 35 = .ok (.ireturn, 1) := by decide +kernel
set_option maxRecDepth 20000 in
theorem ggX3_partsWithoutCrease_X0_creases : GoodIn wsX3_partsWithoutCrease wsX0_creases := goodIn_r _ [7, 8, 9, 10, 11, 12, 13, 14, 49, 50, 51, 52, 53, 54, 55] (by decide +kernel) (by decide +kernel)
set_option maxRecDepth 20000 in
theorem gX3_partsWithoutCrease_X0_creases : GoodIn wsX3_partsWithoutCrease (wsV RX3 138 RX0 yX0_creases wsX0_creases) := goodIn_app (goodIn_of _ (by decide +kernel)) ggX3_partsWithoutCrease_X0_creases
set_option maxRecDepth 20000 in
theorem ggX3_partsWithoutCrease_X3_partOf : GoodIn wsX3_partsWithoutCrease wsX3_partOf := goodIn_r _ [19, 1, 20, 21, 22, 23, 12, 24, 25, 40, 41, 42, 43, 44, 45, 46, 47, 48, 49, 50, 51, 52, 53, 54, 55] (by decide +kernel) (by decide +kernel)
set_option maxRecDepth 20000 in
theorem gX3_partsWithoutCrease_X3_partOf : GoodIn wsX3_partsWithoutCrease (wsV RX3 121 RX3 yX3_partOf wsX3_partOf) := goodIn_app (goodIn_of _ (by decide +kernel)) ggX3_partsWithoutCrease_X3_partOf
set_option maxRecDepth 20000 in
theorem ggX3_partsWithoutCrease_X3_isInner : GoodIn wsX3_partsWithoutCrease wsX3_isInner := goodIn_r _ [29, 2, 40, 41, 42, 43, 44, 45, 46, 47, 48] (by decide +kernel) (by decide +kernel)
set_option maxRecDepth 20000 in
theorem gX3_partsWithoutCrease_X3_isInner : GoodIn wsX3_partsWithoutCrease (wsV RX3 132 RX3 yX3_isInner wsX3_isInner) := goodIn_app (goodIn_of _ (by decide +kernel)) ggX3_partsWithoutCrease_X3_isInner
set_option maxRecDepth 20000 in
theorem ggX3_partsWithoutCrease_X3_bit : GoodIn wsX3_partsWithoutCrease wsX3_bit := goodIn_r _ [32] (by decide +kernel) (by decide +kernel)
set_option maxRecDepth 20000 in
theorem gX3_partsWithoutCrease_X3_bit : GoodIn wsX3_partsWithoutCrease (va_wsS RX3 209 yX3_bit wsX3_bit) := goodIn_app (goodIn_of _ (by decide +kernel)) ggX3_partsWithoutCrease_X3_bit
set_option maxRecDepth 20000 in
theorem ggX3_partsWithoutCrease_J13_bitCount_95d88 : GoodIn wsX3_partsWithoutCrease wsJ13_bitCount_95d88 := goodIn_r _ [36, 37, 38, 39] (by decide +kernel) (by decide +kernel)
set_option maxRecDepth 20000 in
theorem gX3_partsWithoutCrease_J13_bitCount_95d88 : GoodIn wsX3_partsWithoutCrease (va_wsS RX3 212 yJ13_bitCount_95d88 wsJ13_bitCount_95d88) := goodIn_app (goodIn_of _ (by decide +kernel)) ggX3_partsWithoutCrease_J13_bitCount_95d88
theorem dX3_partsWithoutCrease_0 : decode cX3_partsWithoutCrease 0 = .ok (.lconst 0, 1) := by decide +kernel
theorem dX3_partsWithoutCrease_1 : decode cX3_partsWithoutCrease 1 = .ok (.lstore_n 1, 1) := by decide +kernel
theorem dX3_partsWithoutCrease_2 : decode cX3_partsWithoutCrease 2 = .ok (.iconst 2, 1) := by decide +kernel
theorem dX3_partsWithoutCrease_3 : decode cX3_partsWithoutCrease 3 = .ok (.istore_n 3, 1) := by decide +kernel
theorem dX3_partsWithoutCrease_4 : decode cX3_partsWithoutCrease 4 = .ok (.iload_n 3, 1) := by decide +kernel
theorem dX3_partsWithoutCrease_5 : decode cX3_partsWithoutCrease 5 = .ok (.aload_n 0, 1) := by decide +kernel
theorem dX3_partsWithoutCrease_6 : decode cX3_partsWithoutCrease 6 = .ok (.getfield 19, 3) := by decide +kernel
theorem dX3_partsWithoutCrease_9 : decode cX3_partsWithoutCrease 9 = .ok (.invokevirtual 138, 3) := by decide +kernel
theorem dX3_partsWithoutCrease_12 : decode cX3_partsWithoutCrease 12 = .ok (.if_icmp .ge 33, 3) := by decide +kernel
theorem dX3_partsWithoutCrease_15 : decode cX3_partsWithoutCrease 15 = .ok (.aload_n 0, 1) := by decide +kernel
theorem dX3_partsWithoutCrease_16 : decode cX3_partsWithoutCrease 16 = .ok (.iload_n 3, 1) := by decide +kernel
theorem dX3_partsWithoutCrease_17 : decode cX3_partsWithoutCrease 17 = .ok (.invokevirtual 121, 3) := by decide +kernel
theorem dX3_partsWithoutCrease_20 : decode cX3_partsWithoutCrease 20 = .ok (.istore 4, 2) := by decide +kernel
theorem dX3_partsWithoutCrease_22 : decode cX3_partsWithoutCrease 22 = .ok (.aload_n 0, 1) := by decide +kernel
theorem dX3_partsWithoutCrease_23 : decode cX3_partsWithoutCrease 23 = .ok (.iload 4, 2) := by decide +kernel
theorem dX3_partsWithoutCrease_25 : decode cX3_partsWithoutCrease 25 = .ok (.invokevirtual 132, 3) := by decide +kernel
theorem dX3_partsWithoutCrease_28 : decode cX3_partsWithoutCrease 28 = .ok (.ifCond .eq 11, 3) := by decide +kernel
theorem dX3_partsWithoutCrease_31 : decode cX3_partsWithoutCrease 31 = .ok (.lload_n 1, 1) := by decide +kernel
theorem dX3_partsWithoutCrease_32 : decode cX3_partsWithoutCrease 32 = .ok (.iload 4, 2) := by decide +kernel
theorem dX3_partsWithoutCrease_34 : decode cX3_partsWithoutCrease 34 = .ok (.invokestatic 209, 3) := by decide +kernel
theorem dX3_partsWithoutCrease_37 : decode cX3_partsWithoutCrease 37 = .ok (.lor, 1) := by decide +kernel
theorem dX3_partsWithoutCrease_38 : decode cX3_partsWithoutCrease 38 = .ok (.lstore_n 1, 1) := by decide +kernel
theorem dX3_partsWithoutCrease_39 : decode cX3_partsWithoutCrease 39 = .ok (.iinc 3 1, 3) := by decide +kernel
theorem dX3_partsWithoutCrease_42 : decode cX3_partsWithoutCrease 42 = .ok (.goto (-38), 3) := by decide +kernel
theorem dX3_partsWithoutCrease_45 : decode cX3_partsWithoutCrease 45 = .ok (.aload_n 0, 1) := by decide +kernel
theorem dX3_partsWithoutCrease_46 : decode cX3_partsWithoutCrease 46 = .ok (.getfield 29, 3) := by decide +kernel
theorem dX3_partsWithoutCrease_49 : decode cX3_partsWithoutCrease 49 = .ok (.iconst 1, 1) := by decide +kernel
theorem dX3_partsWithoutCrease_50 : decode cX3_partsWithoutCrease 50 = .ok (.isub, 1) := by decide +kernel
theorem dX3_partsWithoutCrease_51 : decode cX3_partsWithoutCrease 51 = .ok (.lload_n 1, 1) := by decide +kernel
theorem dX3_partsWithoutCrease_52 : decode cX3_partsWithoutCrease 52 = .ok (.invokestatic 212, 3) := by decide +kernel
theorem dX3_partsWithoutCrease_55 : decode cX3_partsWithoutCrease 55 = .ok (.isub, 1) := by decide +kernel
theorem dX3_partsWithoutCrease_56 : decode cX3_partsWithoutCrease 56 = .ok (.ireturn, 1) := by decide +kernel
theorem dX3_isInner_0 : decode cX3_isInner 0 = .ok (.iload_n 1, 1) := by decide +kernel
theorem dX3_isInner_1 : decode cX3_isInner 1 = .ok (.iconst 1, 1) := by decide +kernel
theorem dX3_isInner_2 : decode cX3_isInner 2 = .ok (.if_icmp .lt 15, 3) := by decide +kernel
theorem dX3_isInner_5 : decode cX3_isInner 5 = .ok (.iload_n 1, 1) := by decide +kernel
theorem dX3_isInner_6 : decode cX3_isInner 6 = .ok (.aload_n 0, 1) := by decide +kernel
theorem dX3_isInner_7 : decode cX3_isInner 7 = .ok (.getfield 29, 3) := by decide +kernel
theorem dX3_isInner_10 : decode cX3_isInner 10 = .ok (.if_icmp .ge 7, 3) := by decide +kernel
theorem dX3_isInner_13 : decode cX3_isInner 13 = .ok (.iconst 1, 1) := by decide +kernel
theorem dX3_isInner_14 : decode cX3_isInner 14 = .ok (.goto 4, 3) := by decide +kernel
theorem dX3_isInner_17 : decode cX3_isInner 17 = .ok (.iconst 0, 1) := by decide +kernel
theorem dX3_isInner_18 : decode cX3_isInner 18 = .ok (.ireturn, 1) := by decide +kernel
theorem dX3_sideAt_0 : decode cX3_sideAt 0 = .ok (.iload_n 0, 1) := by decide +kernel
theorem dX3_sideAt_1 : decode cX3_sideAt 1 = .ok (.iconst 2, 1) := by decide +kernel
theorem dX3_sideAt_2 : decode cX3_sideAt 2 = .ok (.irem, 1) := by decide +kernel
theorem dX3_sideAt_3 : decode cX3_sideAt 3 = .ok (.ifCond .ne 7, 3) := by decide +kernel
theorem dX3_sideAt_6 : decode cX3_sideAt 6 = .ok (.iconst 0, 1) := by decide +kernel
theorem dX3_sideAt_7 : decode cX3_sideAt 7 = .ok (.goto 4, 3) := by decide +kernel
theorem dX3_sideAt_10 : decode cX3_sideAt 10 = .ok (.iconst 1, 1) := by decide +kernel
theorem dX3_sideAt_11 : decode cX3_sideAt 11 = .ok (.ireturn, 1) := by decide +kernel
set_option maxRecDepth 20000 in
theorem ggX3_ruled_X3_sideAt : GoodIn wsX3_ruled wsX3_sideAt := goodIn_r _ [4] (by decide +kernel) (by decide +kernel)
set_option maxRecDepth 20000 in
theorem gX3_ruled_X3_sideAt : GoodIn wsX3_ruled (va_wsS RX3 135 yX3_sideAt wsX3_sideAt) := goodIn_app (goodIn_of _ (by decide +kernel)) ggX3_ruled_X3_sideAt
theorem dX3_ruled_0 : decode cX3_ruled 0 = .ok (.iload_n 1, 1) := by decide +kernel
theorem dX3_ruled_1 : decode cX3_ruled 1 = .ok (.invokestatic 135, 3) := by decide +kernel
theorem dX3_ruled_4 : decode cX3_ruled 4 = .ok (.ifCond .ne 7, 3) := by decide +kernel
theorem dX3_ruled_7 : decode cX3_ruled 7 = .ok (.iload_n 1, 1) := by decide +kernel
theorem dX3_ruled_8 : decode cX3_ruled 8 = .ok (.goto 6, 3) := by decide +kernel
theorem dX3_ruled_11 : decode cX3_ruled 11 = .ok (.iload_n 1, 1) := by decide +kernel
theorem dX3_ruled_12 : decode cX3_ruled 12 = .ok (.iload_n 0, 1) := by decide +kernel
theorem dX3_ruled_13 : decode cX3_ruled 13 = .ok (.iadd, 1) := by decide +kernel
theorem dX3_ruled_14 : decode cX3_ruled 14 = .ok (.iconst 2, 1) := by decide +kernel
theorem dX3_ruled_15 : decode cX3_ruled 15 = .ok (.idiv, 1) := by decide +kernel
theorem dX3_ruled_16 : decode cX3_ruled 16 = .ok (.ireturn, 1) := by decide +kernel
set_option maxRecDepth 20000 in
theorem ggX3_foldsAround_X3_ruled : GoodIn wsX3_foldsAround wsX3_ruled := goodIn_r _ [5, 6, 7, 4, 8] (by decide +kernel) (by decide +kernel)
set_option maxRecDepth 20000 in
theorem gX3_foldsAround_X3_ruled : GoodIn wsX3_foldsAround (va_wsS RX3 156 yX3_ruled wsX3_ruled) := goodIn_app (goodIn_of _ (by decide +kernel)) ggX3_foldsAround_X3_ruled
theorem dX3_foldsAround_0 : decode cX3_foldsAround 0 = .ok (.aload_n 0, 1) := by decide +kernel
theorem dX3_foldsAround_1 : decode cX3_foldsAround 1 = .ok (.getfield 29, 3) := by decide +kernel
theorem dX3_foldsAround_4 : decode cX3_foldsAround 4 = .ok (.iload_n 1, 1) := by decide +kernel
theorem dX3_foldsAround_5 : decode cX3_foldsAround 5 = .ok (.invokestatic 156, 3) := by decide +kernel
theorem dX3_foldsAround_8 : decode cX3_foldsAround 8 = .ok (.istore_n 2, 1) := by decide +kernel
theorem dX3_foldsAround_9 : decode cX3_foldsAround 9 = .ok (.iconst 1, 1) := by decide +kernel
theorem dX3_foldsAround_10 : decode cX3_foldsAround 10 = .ok (.istore_n 3, 1) := by decide +kernel
theorem dX3_foldsAround_11 : decode cX3_foldsAround 11 = .ok (.iload_n 2, 1) := by decide +kernel
theorem dX3_foldsAround_12 : decode cX3_foldsAround 12 = .ok (.iload_n 1, 1) := by decide +kernel
theorem dX3_foldsAround_13 : decode cX3_foldsAround 13 = .ok (.if_icmp .eq 24, 3) := by decide +kernel
theorem dX3_foldsAround_16 : decode cX3_foldsAround 16 = .ok (.iload_n 3, 1) := by decide +kernel
theorem dX3_foldsAround_17 : decode cX3_foldsAround 17 = .ok (.bipush 63, 2) := by decide +kernel
theorem dX3_foldsAround_19 : decode cX3_foldsAround 19 = .ok (.if_icmp .ge 18, 3) := by decide +kernel
theorem dX3_foldsAround_22 : decode cX3_foldsAround 22 = .ok (.aload_n 0, 1) := by decide +kernel
theorem dX3_foldsAround_23 : decode cX3_foldsAround 23 = .ok (.getfield 29, 3) := by decide +kernel
theorem dX3_foldsAround_26 : decode cX3_foldsAround 26 = .ok (.iload_n 2, 1) := by decide +kernel
theorem dX3_foldsAround_27 : decode cX3_foldsAround 27 = .ok (.invokestatic 156, 3) := by decide +kernel
theorem dX3_foldsAround_30 : decode cX3_foldsAround 30 = .ok (.istore_n 2, 1) := by decide +kernel
theorem dX3_foldsAround_31 : decode cX3_foldsAround 31 = .ok (.iinc 3 1, 3) := by decide +kernel
theorem dX3_foldsAround_34 : decode cX3_foldsAround 34 = .ok (.goto (-23), 3) := by decide +kernel
theorem dX3_foldsAround_37 : decode cX3_foldsAround 37 = .ok (.iload_n 3, 1) := by decide +kernel
theorem dX3_foldsAround_38 : decode cX3_foldsAround 38 = .ok (.ireturn, 1) := by decide +kernel
set_option maxRecDepth 20000 in
theorem ggX3_starts_X3_bit : GoodIn wsX3_starts wsX3_bit := goodIn_r _ [5] (by decide +kernel) (by decide +kernel)
set_option maxRecDepth 20000 in
theorem gX3_starts_X3_bit : GoodIn wsX3_starts (va_wsS RX3 209 yX3_bit wsX3_bit) := goodIn_app (goodIn_of _ (by decide +kernel)) ggX3_starts_X3_bit
set_option maxRecDepth 20000 in
theorem ggX3_starts_X3_ringOf : GoodIn wsX3_starts wsX3_ringOf := goodIn_r _ [9, 1, 2, 3, 4, 5, 10, 11, 12, 13, 14, 15, 16, 17, 18, 19, 20, 21, 22, 23, 24] (by decide +kernel) (by decide +kernel)
set_option maxRecDepth 20000 in
theorem gX3_starts_X3_ringOf : GoodIn wsX3_starts (wsV RX3 218 RX3 yX3_ringOf wsX3_ringOf) := goodIn_app (goodIn_of _ (by decide +kernel)) ggX3_starts_X3_ringOf
theorem dX3_starts_0 : decode cX3_starts 0 = .ok (.lconst 0, 1) := by decide +kernel
theorem dX3_starts_1 : decode cX3_starts 1 = .ok (.lstore_n 1, 1) := by decide +kernel
theorem dX3_starts_2 : decode cX3_starts 2 = .ok (.iconst 0, 1) := by decide +kernel
theorem dX3_starts_3 : decode cX3_starts 3 = .ok (.istore_n 3, 1) := by decide +kernel
theorem dX3_starts_4 : decode cX3_starts 4 = .ok (.iconst 1, 1) := by decide +kernel
theorem dX3_starts_5 : decode cX3_starts 5 = .ok (.istore 4, 2) := by decide +kernel
theorem dX3_starts_7 : decode cX3_starts 7 = .ok (.iload 4, 2) := by decide +kernel
theorem dX3_starts_9 : decode cX3_starts 9 = .ok (.aload_n 0, 1) := by decide +kernel
theorem dX3_starts_10 : decode cX3_starts 10 = .ok (.getfield 29, 3) := by decide +kernel
theorem dX3_starts_13 : decode cX3_starts 13 = .ok (.if_icmp .ge 33, 3) := by decide +kernel
theorem dX3_starts_16 : decode cX3_starts 16 = .ok (.lload_n 1, 1) := by decide +kernel
theorem dX3_starts_17 : decode cX3_starts 17 = .ok (.iload 4, 2) := by decide +kernel
theorem dX3_starts_19 : decode cX3_starts 19 = .ok (.invokestatic 209, 3) := by decide +kernel
theorem dX3_starts_22 : decode cX3_starts 22 = .ok (.land, 1) := by decide +kernel
theorem dX3_starts_23 : decode cX3_starts 23 = .ok (.lconst 0, 1) := by decide +kernel
theorem dX3_starts_24 : decode cX3_starts 24 = .ok (.lcmp, 1) := by decide +kernel
theorem dX3_starts_25 : decode cX3_starts 25 = .ok (.ifCond .ne 15, 3) := by decide +kernel
theorem dX3_starts_28 : decode cX3_starts 28 = .ok (.iinc 3 1, 3) := by decide +kernel
theorem dX3_starts_31 : decode cX3_starts 31 = .ok (.lload_n 1, 1) := by decide +kernel
theorem dX3_starts_32 : decode cX3_starts 32 = .ok (.aload_n 0, 1) := by decide +kernel
theorem dX3_starts_33 : decode cX3_starts 33 = .ok (.iload 4, 2) := by decide +kernel
theorem dX3_starts_35 : decode cX3_starts 35 = .ok (.invokevirtual 218, 3) := by decide +kernel
theorem dX3_starts_38 : decode cX3_starts 38 = .ok (.lor, 1) := by decide +kernel
theorem dX3_starts_39 : decode cX3_starts 39 = .ok (.lstore_n 1, 1) := by decide +kernel
theorem dX3_starts_40 : decode cX3_starts 40 = .ok (.iinc 4 1, 3) := by decide +kernel
theorem dX3_starts_43 : decode cX3_starts 43 = .ok (.goto (-36), 3) := by decide +kernel
theorem dX3_starts_46 : decode cX3_starts 46 = .ok (.iload_n 3, 1) := by decide +kernel
theorem dX3_starts_47 : decode cX3_starts 47 = .ok (.ireturn, 1) := by decide +kernel
set_option maxRecDepth 20000 in
theorem ggX3_ringOf_X3_bit : GoodIn wsX3_ringOf wsX3_bit := goodIn_r _ [5] (by decide +kernel) (by decide +kernel)
set_option maxRecDepth 20000 in
theorem gX3_ringOf_X3_bit : GoodIn wsX3_ringOf (va_wsS RX3 209 yX3_bit wsX3_bit) := goodIn_app (goodIn_of _ (by decide +kernel)) ggX3_ringOf_X3_bit
set_option maxRecDepth 20000 in
theorem ggX3_ringOf_X3_ruled : GoodIn wsX3_ringOf wsX3_ruled := goodIn_r _ [8, 9, 10, 4, 11] (by decide +kernel) (by decide +kernel)
set_option maxRecDepth 20000 in
theorem gX3_ringOf_X3_ruled : GoodIn wsX3_ringOf (va_wsS RX3 156 yX3_ruled wsX3_ruled) := goodIn_app (goodIn_of _ (by decide +kernel)) ggX3_ringOf_X3_ruled
theorem dX3_ringOf_0 : decode cX3_ringOf 0 = .ok (.lconst 0, 1) := by decide +kernel
theorem dX3_ringOf_1 : decode cX3_ringOf 1 = .ok (.lstore_n 2, 1) := by decide +kernel
theorem dX3_ringOf_2 : decode cX3_ringOf 2 = .ok (.iload_n 1, 1) := by decide +kernel
theorem dX3_ringOf_3 : decode cX3_ringOf 3 = .ok (.istore 4, 2) := by decide +kernel
theorem dX3_ringOf_5 : decode cX3_ringOf 5 = .ok (.iconst 0, 1) := by decide +kernel
theorem dX3_ringOf_6 : decode cX3_ringOf 6 = .ok (.istore 5, 2) := by decide +kernel
theorem dX3_ringOf_8 : decode cX3_ringOf 8 = .ok (.iload 5, 2) := by decide +kernel
theorem dX3_ringOf_10 : decode cX3_ringOf 10 = .ok (.bipush 63, 2) := by decide +kernel
theorem dX3_ringOf_12 : decode cX3_ringOf 12 = .ok (.if_icmp .ge 28, 3) := by decide +kernel
theorem dX3_ringOf_15 : decode cX3_ringOf 15 = .ok (.lload_n 2, 1) := by decide +kernel
theorem dX3_ringOf_16 : decode cX3_ringOf 16 = .ok (.iload 4, 2) := by decide +kernel
theorem dX3_ringOf_18 : decode cX3_ringOf 18 = .ok (.invokestatic 209, 3) := by decide +kernel
theorem dX3_ringOf_21 : decode cX3_ringOf 21 = .ok (.lor, 1) := by decide +kernel
theorem dX3_ringOf_22 : decode cX3_ringOf 22 = .ok (.lstore_n 2, 1) := by decide +kernel
theorem dX3_ringOf_23 : decode cX3_ringOf 23 = .ok (.aload_n 0, 1) := by decide +kernel
theorem dX3_ringOf_24 : decode cX3_ringOf 24 = .ok (.getfield 29, 3) := by decide +kernel
theorem dX3_ringOf_27 : decode cX3_ringOf 27 = .ok (.iload 4, 2) := by decide +kernel
theorem dX3_ringOf_29 : decode cX3_ringOf 29 = .ok (.invokestatic 156, 3) := by decide +kernel
theorem dX3_ringOf_32 : decode cX3_ringOf 32 = .ok (.istore 4, 2) := by decide +kernel
theorem dX3_ringOf_34 : decode cX3_ringOf 34 = .ok (.iinc 5 1, 3) := by decide +kernel
theorem dX3_ringOf_37 : decode cX3_ringOf 37 = .ok (.goto (-29), 3) := by decide +kernel
theorem dX3_ringOf_40 : decode cX3_ringOf 40 = .ok (.lload_n 2, 1) := by decide +kernel
theorem dX3_ringOf_41 : decode cX3_ringOf 41 = .ok (.lreturn, 1) := by decide +kernel
set_option maxRecDepth 20000 in
theorem ggX3_wrongLetter_X1_size : GoodIn wsX3_wrongLetter wsX1_size := goodIn_r _ [6, 7, 34, 35] (by decide +kernel) (by decide +kernel)
set_option maxRecDepth 20000 in
theorem gX3_wrongLetter_X1_size : GoodIn wsX3_wrongLetter (wsV RX3 66 RX1 yX1_size wsX1_size) := goodIn_app (goodIn_of _ (by decide +kernel)) ggX3_wrongLetter_X1_size
set_option maxRecDepth 20000 in
theorem ggX3_wrongLetter_X1_at : GoodIn wsX3_wrongLetter wsX1_at := goodIn_r _ [11, 12, 34, 35] (by decide +kernel) (by decide +kernel)
set_option maxRecDepth 20000 in
theorem gX3_wrongLetter_X1_at : GoodIn wsX3_wrongLetter (wsV RX3 83 RX1 yX1_at wsX1_at) := goodIn_app (goodIn_of _ (by decide +kernel)) ggX3_wrongLetter_X1_at
set_option maxRecDepth 20000 in
theorem ggX3_wrongLetter_X3_sideAt : GoodIn wsX3_wrongLetter wsX3_sideAt := goodIn_r _ [16] (by decide +kernel) (by decide +kernel)
set_option maxRecDepth 20000 in
theorem gX3_wrongLetter_X3_sideAt : GoodIn wsX3_wrongLetter (va_wsS RX3 135 yX3_sideAt wsX3_sideAt) := goodIn_app (goodIn_of _ (by decide +kernel)) ggX3_wrongLetter_X3_sideAt
set_option maxRecDepth 20000 in
theorem ggX3_wrongLetter_X3_ruled : GoodIn wsX3_wrongLetter wsX3_ruled := goodIn_r _ [19, 13, 14, 15, 16] (by decide +kernel) (by decide +kernel)
set_option maxRecDepth 20000 in
theorem gX3_wrongLetter_X3_ruled : GoodIn wsX3_wrongLetter (va_wsS RX3 156 yX3_ruled wsX3_ruled) := goodIn_app (goodIn_of _ (by decide +kernel)) ggX3_wrongLetter_X3_ruled
theorem dX3_wrongLetter_0 : decode cX3_wrongLetter 0 = .ok (.iload_n 2, 1) := by decide +kernel
theorem dX3_wrongLetter_1 : decode cX3_wrongLetter 1 = .ok (.istore_n 3, 1) := by decide +kernel
theorem dX3_wrongLetter_2 : decode cX3_wrongLetter 2 = .ok (.iconst 0, 1) := by decide +kernel
theorem dX3_wrongLetter_3 : decode cX3_wrongLetter 3 = .ok (.istore 4, 2) := by decide +kernel
theorem dX3_wrongLetter_5 : decode cX3_wrongLetter 5 = .ok (.iload 4, 2) := by decide +kernel
theorem dX3_wrongLetter_7 : decode cX3_wrongLetter 7 = .ok (.aload_n 0, 1) := by decide +kernel
theorem dX3_wrongLetter_8 : decode cX3_wrongLetter 8 = .ok (.getfield 19, 3) := by decide +kernel
theorem dX3_wrongLetter_11 : decode cX3_wrongLetter 11 = .ok (.getfield 163, 3) := by decide +kernel
theorem dX3_wrongLetter_14 : decode cX3_wrongLetter 14 = .ok (.invokevirtual 66, 3) := by decide +kernel
theorem dX3_wrongLetter_17 : decode cX3_wrongLetter 17 = .ok (.if_icmp .ge 39, 3) := by decide +kernel
theorem dX3_wrongLetter_20 : decode cX3_wrongLetter 20 = .ok (.aload_n 0, 1) := by decide +kernel
theorem dX3_wrongLetter_21 : decode cX3_wrongLetter 21 = .ok (.getfield 19, 3) := by decide +kernel
theorem dX3_wrongLetter_24 : decode cX3_wrongLetter 24 = .ok (.getfield 163, 3) := by decide +kernel
theorem dX3_wrongLetter_27 : decode cX3_wrongLetter 27 = .ok (.iload 4, 2) := by decide +kernel
theorem dX3_wrongLetter_29 : decode cX3_wrongLetter 29 = .ok (.invokevirtual 83, 3) := by decide +kernel
theorem dX3_wrongLetter_32 : decode cX3_wrongLetter 32 = .ok (.iload_n 3, 1) := by decide +kernel
theorem dX3_wrongLetter_33 : decode cX3_wrongLetter 33 = .ok (.invokestatic 135, 3) := by decide +kernel
theorem dX3_wrongLetter_36 : decode cX3_wrongLetter 36 = .ok (.i2l, 1) := by decide +kernel
theorem dX3_wrongLetter_37 : decode cX3_wrongLetter 37 = .ok (.lcmp, 1) := by decide +kernel
theorem dX3_wrongLetter_38 : decode cX3_wrongLetter 38 = .ok (.ifCond .eq 6, 3) := by decide +kernel
theorem dX3_wrongLetter_41 : decode cX3_wrongLetter 41 = .ok (.iload 4, 2) := by decide +kernel
theorem dX3_wrongLetter_43 : decode cX3_wrongLetter 43 = .ok (.ireturn, 1) := by decide +kernel
theorem dX3_wrongLetter_44 : decode cX3_wrongLetter 44 = .ok (.iload_n 1, 1) := by decide +kernel
theorem dX3_wrongLetter_45 : decode cX3_wrongLetter 45 = .ok (.iload_n 3, 1) := by decide +kernel
theorem dX3_wrongLetter_46 : decode cX3_wrongLetter 46 = .ok (.invokestatic 156, 3) := by decide +kernel
theorem dX3_wrongLetter_49 : decode cX3_wrongLetter 49 = .ok (.istore_n 3, 1) := by decide +kernel
theorem dX3_wrongLetter_50 : decode cX3_wrongLetter 50 = .ok (.iinc 4 1, 3) := by decide +kernel
theorem dX3_wrongLetter_53 : decode cX3_wrongLetter 53 = .ok (.goto (-48), 3) := by decide +kernel
theorem dX3_wrongLetter_56 : decode cX3_wrongLetter 56 = .ok (.bipush (-9), 2) := by decide +kernel
theorem dX3_wrongLetter_58 : decode cX3_wrongLetter 58 = .ok (.ireturn, 1) := by decide +kernel
theorem dX3_bit_0 : decode cX3_bit 0 = .ok (.lconst 1, 1) := by decide +kernel
theorem dX3_bit_1 : decode cX3_bit 1 = .ok (.iload_n 0, 1) := by decide +kernel
theorem dX3_bit_2 : decode cX3_bit 2 = .ok (.lshl, 1) := by decide +kernel
theorem dX3_bit_3 : decode cX3_bit 3 = .ok (.lreturn, 1) := by decide +kernel
set_option maxRecDepth 20000 in
theorem ggX3_seenSet_X1_size : GoodIn wsX3_seenSet wsX1_size := goodIn_r _ [6, 7, 31, 32] (by decide +kernel) (by decide +kernel)
set_option maxRecDepth 20000 in
theorem gX3_seenSet_X1_size : GoodIn wsX3_seenSet (wsV RX3 66 RX1 yX1_size wsX1_size) := goodIn_app (goodIn_of _ (by decide +kernel)) ggX3_seenSet_X1_size
set_option maxRecDepth 20000 in
theorem ggX3_seenSet_X1_at : GoodIn wsX3_seenSet wsX1_at := goodIn_r _ [11, 12, 31, 32] (by decide +kernel) (by decide +kernel)
set_option maxRecDepth 20000 in
theorem gX3_seenSet_X1_at : GoodIn wsX3_seenSet (wsV RX3 83 RX1 yX1_at wsX1_at) := goodIn_app (goodIn_of _ (by decide +kernel)) ggX3_seenSet_X1_at
set_option maxRecDepth 20000 in
theorem ggX3_seenSet_X3_bit : GoodIn wsX3_seenSet wsX3_bit := goodIn_r _ [16] (by decide +kernel) (by decide +kernel)
set_option maxRecDepth 20000 in
theorem gX3_seenSet_X3_bit : GoodIn wsX3_seenSet (va_wsS RX3 209 yX3_bit wsX3_bit) := goodIn_app (goodIn_of _ (by decide +kernel)) ggX3_seenSet_X3_bit
theorem dX3_seenSet_0 : decode cX3_seenSet 0 = .ok (.lconst 0, 1) := by decide +kernel
theorem dX3_seenSet_1 : decode cX3_seenSet 1 = .ok (.lstore_n 1, 1) := by decide +kernel
theorem dX3_seenSet_2 : decode cX3_seenSet 2 = .ok (.iconst 0, 1) := by decide +kernel
theorem dX3_seenSet_3 : decode cX3_seenSet 3 = .ok (.istore_n 3, 1) := by decide +kernel
theorem dX3_seenSet_4 : decode cX3_seenSet 4 = .ok (.iload_n 3, 1) := by decide +kernel
theorem dX3_seenSet_5 : decode cX3_seenSet 5 = .ok (.aload_n 0, 1) := by decide +kernel
theorem dX3_seenSet_6 : decode cX3_seenSet 6 = .ok (.getfield 19, 3) := by decide +kernel
theorem dX3_seenSet_9 : decode cX3_seenSet 9 = .ok (.getfield 171, 3) := by decide +kernel
theorem dX3_seenSet_12 : decode cX3_seenSet 12 = .ok (.invokevirtual 66, 3) := by decide +kernel
theorem dX3_seenSet_15 : decode cX3_seenSet 15 = .ok (.if_icmp .ge 27, 3) := by decide +kernel
theorem dX3_seenSet_18 : decode cX3_seenSet 18 = .ok (.lload_n 1, 1) := by decide +kernel
theorem dX3_seenSet_19 : decode cX3_seenSet 19 = .ok (.aload_n 0, 1) := by decide +kernel
theorem dX3_seenSet_20 : decode cX3_seenSet 20 = .ok (.getfield 19, 3) := by decide +kernel
theorem dX3_seenSet_23 : decode cX3_seenSet 23 = .ok (.getfield 171, 3) := by decide +kernel
theorem dX3_seenSet_26 : decode cX3_seenSet 26 = .ok (.iload_n 3, 1) := by decide +kernel
theorem dX3_seenSet_27 : decode cX3_seenSet 27 = .ok (.invokevirtual 83, 3) := by decide +kernel
theorem dX3_seenSet_30 : decode cX3_seenSet 30 = .ok (.l2i, 1) := by decide +kernel
theorem dX3_seenSet_31 : decode cX3_seenSet 31 = .ok (.invokestatic 209, 3) := by decide +kernel
theorem dX3_seenSet_34 : decode cX3_seenSet 34 = .ok (.lor, 1) := by decide +kernel
theorem dX3_seenSet_35 : decode cX3_seenSet 35 = .ok (.lstore_n 1, 1) := by decide +kernel
theorem dX3_seenSet_36 : decode cX3_seenSet 36 = .ok (.iinc 3 1, 3) := by decide +kernel
theorem dX3_seenSet_39 : decode cX3_seenSet 39 = .ok (.goto (-35), 3) := by decide +kernel
theorem dX3_seenSet_42 : decode cX3_seenSet 42 = .ok (.lload_n 1, 1) := by decide +kernel
theorem dX3_seenSet_43 : decode cX3_seenSet 43 = .ok (.lreturn, 1) := by decide +kernel
set_option maxRecDepth 20000 in
theorem ggX3_waysFrom_X3_bit : GoodIn wsX3_waysFrom wsX3_bit := goodIn_r _ [5] (by decide +kernel) (by decide +kernel)
set_option maxRecDepth 20000 in
theorem gX3_waysFrom_X3_bit : GoodIn wsX3_waysFrom (va_wsS RX3 209 yX3_bit wsX3_bit) := goodIn_app (goodIn_of _ (by decide +kernel)) ggX3_waysFrom_X3_bit
set_option maxRecDepth 20000 in
theorem ggX3_waysFrom_X3_ruled : GoodIn wsX3_waysFrom wsX3_ruled := goodIn_r _ [8, 9, 10, 4, 11] (by decide +kernel) (by decide +kernel)
set_option maxRecDepth 20000 in
theorem gX3_waysFrom_X3_ruled : GoodIn wsX3_waysFrom (va_wsS RX3 156 yX3_ruled wsX3_ruled) := goodIn_app (goodIn_of _ (by decide +kernel)) ggX3_waysFrom_X3_ruled
theorem dX3_waysFrom_0 : decode cX3_waysFrom 0 = .ok (.lconst 0, 1) := by decide +kernel
theorem dX3_waysFrom_1 : decode cX3_waysFrom 1 = .ok (.lstore 4, 2) := by decide +kernel
theorem dX3_waysFrom_3 : decode cX3_waysFrom 3 = .ok (.iconst 0, 1) := by decide +kernel
theorem dX3_waysFrom_4 : decode cX3_waysFrom 4 = .ok (.istore 6, 2) := by decide +kernel
theorem dX3_waysFrom_6 : decode cX3_waysFrom 6 = .ok (.iload_n 1, 1) := by decide +kernel
theorem dX3_waysFrom_7 : decode cX3_waysFrom 7 = .ok (.istore 7, 2) := by decide +kernel
theorem dX3_waysFrom_9 : decode cX3_waysFrom 9 = .ok (.iconst 0, 1) := by decide +kernel
theorem dX3_waysFrom_10 : decode cX3_waysFrom 10 = .ok (.istore 8, 2) := by decide +kernel
theorem dX3_waysFrom_12 : decode cX3_waysFrom 12 = .ok (.iload 8, 2) := by decide +kernel
theorem dX3_waysFrom_14 : decode cX3_waysFrom 14 = .ok (.bipush 20, 2) := by decide +kernel
theorem dX3_waysFrom_16 : decode cX3_waysFrom 16 = .ok (.if_icmp .gt 40, 3) := by decide +kernel
theorem dX3_waysFrom_19 : decode cX3_waysFrom 19 = .ok (.lload 4, 2) := by decide +kernel
theorem dX3_waysFrom_21 : decode cX3_waysFrom 21 = .ok (.iload 7, 2) := by decide +kernel
theorem dX3_waysFrom_23 : decode cX3_waysFrom 23 = .ok (.invokestatic 209, 3) := by decide +kernel
theorem dX3_waysFrom_26 : decode cX3_waysFrom 26 = .ok (.lor, 1) := by decide +kernel
theorem dX3_waysFrom_27 : decode cX3_waysFrom 27 = .ok (.lstore 4, 2) := by decide +kernel
theorem dX3_waysFrom_29 : decode cX3_waysFrom 29 = .ok (.lload 4, 2) := by decide +kernel
theorem dX3_waysFrom_31 : decode cX3_waysFrom 31 = .ok (.lload_n 2, 1) := by decide +kernel
theorem dX3_waysFrom_32 : decode cX3_waysFrom 32 = .ok (.lcmp, 1) := by decide +kernel
theorem dX3_waysFrom_33 : decode cX3_waysFrom 33 = .ok (.ifCond .ne 6, 3) := by decide +kernel
theorem dX3_waysFrom_36 : decode cX3_waysFrom 36 = .ok (.iinc 6 1, 3) := by decide +kernel
theorem dX3_waysFrom_39 : decode cX3_waysFrom 39 = .ok (.aload_n 0, 1) := by decide +kernel
theorem dX3_waysFrom_40 : decode cX3_waysFrom 40 = .ok (.getfield 29, 3) := by decide +kernel
theorem dX3_waysFrom_43 : decode cX3_waysFrom 43 = .ok (.iload 7, 2) := by decide +kernel
theorem dX3_waysFrom_45 : decode cX3_waysFrom 45 = .ok (.invokestatic 156, 3) := by decide +kernel
theorem dX3_waysFrom_48 : decode cX3_waysFrom 48 = .ok (.istore 7, 2) := by decide +kernel
theorem dX3_waysFrom_50 : decode cX3_waysFrom 50 = .ok (.iinc 8 1, 3) := by decide +kernel
theorem dX3_waysFrom_53 : decode cX3_waysFrom 53 = .ok (.goto (-41), 3) := by decide +kernel
theorem dX3_waysFrom_56 : decode cX3_waysFrom 56 = .ok (.iload 6, 2) := by decide +kernel
theorem dX3_waysFrom_58 : decode cX3_waysFrom 58 = .ok (.ireturn, 1) := by decide +kernel
theorem dX3_asCrease_0 : decode cX3_asCrease 0 = .ok (.aload_n 0, 1) := by decide +kernel
theorem dX3_asCrease_1 : decode cX3_asCrease 1 = .ok (.dup, 1) := by decide +kernel
theorem dX3_asCrease_2 : decode cX3_asCrease 2 = .ok (.getfield 42, 3) := by decide +kernel
theorem dX3_asCrease_5 : decode cX3_asCrease 5 = .ok (.lconst 1, 1) := by decide +kernel
theorem dX3_asCrease_6 : decode cX3_asCrease 6 = .ok (.ladd, 1) := by decide +kernel
theorem dX3_asCrease_7 : decode cX3_asCrease 7 = .ok (.putfield 42, 3) := by decide +kernel
theorem dX3_asCrease_10 : decode cX3_asCrease 10 = .ok (.iload_n 1, 1) := by decide +kernel
theorem dX3_asCrease_11 : decode cX3_asCrease 11 = .ok (.ireturn, 1) := by decide +kernel
set_option maxRecDepth 20000 in
theorem ggX3_asPinch_X3_partOf : GoodIn wsX3_asPinch wsX3_partOf := goodIn_r _ [7, 8, 9, 10, 11, 12, 13, 14, 15, 20, 21, 22, 23, 24, 25, 26, 27, 28, 29, 30, 31, 32, 33, 34, 35] (by decide +kernel) (by decide +kernel)
set_option maxRecDepth 20000 in
theorem gX3_asPinch_X3_partOf : GoodIn wsX3_asPinch (wsV RX3 121 RX3 yX3_partOf wsX3_partOf) := goodIn_app (goodIn_of _ (by decide +kernel)) ggX3_asPinch_X3_partOf
set_option maxRecDepth 20000 in
theorem ggX3_asPinch_X3_asCrease : GoodIn wsX3_asPinch wsX3_asCrease := goodIn_r _ [19, 1, 20, 21, 22, 23, 24, 25, 26, 27, 28] (by decide +kernel) (by decide +kernel)
set_option maxRecDepth 20000 in
theorem gX3_asPinch_X3_asCrease : GoodIn wsX3_asPinch (wsV RX3 183 RX3 yX3_asCrease wsX3_asCrease) := goodIn_app (goodIn_of _ (by decide +kernel)) ggX3_asPinch_X3_asCrease
theorem dX3_asPinch_0 : decode cX3_asPinch 0 = .ok (.aload_n 0, 1) := by decide +kernel
theorem dX3_asPinch_1 : decode cX3_asPinch 1 = .ok (.dup, 1) := by decide +kernel
theorem dX3_asPinch_2 : decode cX3_asPinch 2 = .ok (.getfield 42, 3) := by decide +kernel
theorem dX3_asPinch_5 : decode cX3_asPinch 5 = .ok (.ldc2_w 221, 3) := by decide +kernel
theorem dX3_asPinch_8 : decode cX3_asPinch 8 = .ok (.ladd, 1) := by decide +kernel
theorem dX3_asPinch_9 : decode cX3_asPinch 9 = .ok (.putfield 42, 3) := by decide +kernel
theorem dX3_asPinch_12 : decode cX3_asPinch 12 = .ok (.aload_n 0, 1) := by decide +kernel
theorem dX3_asPinch_13 : decode cX3_asPinch 13 = .ok (.iload_n 1, 1) := by decide +kernel
theorem dX3_asPinch_14 : decode cX3_asPinch 14 = .ok (.invokevirtual 121, 3) := by decide +kernel
theorem dX3_asPinch_17 : decode cX3_asPinch 17 = .ok (.istore_n 2, 1) := by decide +kernel
theorem dX3_asPinch_18 : decode cX3_asPinch 18 = .ok (.aload_n 0, 1) := by decide +kernel
theorem dX3_asPinch_19 : decode cX3_asPinch 19 = .ok (.iload_n 1, 1) := by decide +kernel
theorem dX3_asPinch_20 : decode cX3_asPinch 20 = .ok (.invokevirtual 183, 3) := by decide +kernel
theorem dX3_asPinch_23 : decode cX3_asPinch 23 = .ok (.iload_n 2, 1) := by decide +kernel
theorem dX3_asPinch_24 : decode cX3_asPinch 24 = .ok (.bipush (-9), 2) := by decide +kernel
theorem dX3_asPinch_26 : decode cX3_asPinch 26 = .ok (.if_icmp .ne 7, 3) := by decide +kernel
theorem dX3_asPinch_29 : decode cX3_asPinch 29 = .ok (.iconst 0, 1) := by decide +kernel
theorem dX3_asPinch_30 : decode cX3_asPinch 30 = .ok (.goto 4, 3) := by decide +kernel
theorem dX3_asPinch_33 : decode cX3_asPinch 33 = .ok (.iload_n 2, 1) := by decide +kernel
theorem dX3_asPinch_34 : decode cX3_asPinch 34 = .ok (.iadd, 1) := by decide +kernel
theorem dX3_asPinch_35 : decode cX3_asPinch 35 = .ok (.ireturn, 1) := by decide +kernel
set_option maxRecDepth 20000 in
theorem ggX3_asEnd_X3_asCrease : GoodIn wsX3_asEnd wsX3_asCrease := goodIn_r _ [8, 1, 21, 22, 23, 24, 25, 26, 27, 28, 29] (by decide +kernel) (by decide +kernel)
set_option maxRecDepth 20000 in
theorem gX3_asEnd_X3_asCrease : GoodIn wsX3_asEnd (wsV RX3 183 RX3 yX3_asCrease wsX3_asCrease) := goodIn_app (goodIn_of _ (by decide +kernel)) ggX3_asEnd_X3_asCrease
set_option maxRecDepth 20000 in
theorem ggX3_asEnd_X0_creases : GoodIn wsX3_asEnd wsX0_creases := goodIn_r _ [13, 14, 15, 16, 17, 18, 19, 20, 30, 31, 32, 33, 34, 35, 36] (by decide +kernel) (by decide +kernel)
set_option maxRecDepth 20000 in
theorem gX3_asEnd_X0_creases : GoodIn wsX3_asEnd (wsV RX3 138 RX0 yX0_creases wsX0_creases) := goodIn_app (goodIn_of _ (by decide +kernel)) ggX3_asEnd_X0_creases
theorem dX3_asEnd_0 : decode cX3_asEnd 0 = .ok (.aload_n 0, 1) := by decide +kernel
theorem dX3_asEnd_1 : decode cX3_asEnd 1 = .ok (.dup, 1) := by decide +kernel
theorem dX3_asEnd_2 : decode cX3_asEnd 2 = .ok (.getfield 42, 3) := by decide +kernel
theorem dX3_asEnd_5 : decode cX3_asEnd 5 = .ok (.ldc2_w 223, 3) := by decide +kernel
theorem dX3_asEnd_8 : decode cX3_asEnd 8 = .ok (.ladd, 1) := by decide +kernel
theorem dX3_asEnd_9 : decode cX3_asEnd 9 = .ok (.putfield 42, 3) := by decide +kernel
theorem dX3_asEnd_12 : decode cX3_asEnd 12 = .ok (.aload_n 0, 1) := by decide +kernel
theorem dX3_asEnd_13 : decode cX3_asEnd 13 = .ok (.iload_n 1, 1) := by decide +kernel
theorem dX3_asEnd_14 : decode cX3_asEnd 14 = .ok (.invokevirtual 183, 3) := by decide +kernel
theorem dX3_asEnd_17 : decode cX3_asEnd 17 = .ok (.aload_n 0, 1) := by decide +kernel
theorem dX3_asEnd_18 : decode cX3_asEnd 18 = .ok (.getfield 19, 3) := by decide +kernel
theorem dX3_asEnd_21 : decode cX3_asEnd 21 = .ok (.invokevirtual 138, 3) := by decide +kernel
theorem dX3_asEnd_24 : decode cX3_asEnd 24 = .ok (.isub, 1) := by decide +kernel
theorem dX3_asEnd_25 : decode cX3_asEnd 25 = .ok (.ireturn, 1) := by decide +kernel
set_option maxRecDepth 20000 in
theorem ggX3_asThumb_X3_asPinch : GoodIn wsX3_asThumb wsX3_asPinch := goodIn_r _ [7, 1, 8, 9, 10, 11, 6, 12, 13, 14, 15, 16, 17, 18, 19, 20, 21, 22, 23, 24, 25, 26, 27, 28, 29, 30, 31, 32, 33, 34, 35, 36, 37, 38, 39, 40] (by decide +kernel) (by decide +kernel)
set_option maxRecDepth 20000 in
theorem gX3_asThumb_X3_asPinch : GoodIn wsX3_asThumb (wsV RX3 186 RX3 yX3_asPinch wsX3_asPinch) := goodIn_app (goodIn_of _ (by decide +kernel)) ggX3_asThumb_X3_asPinch
theorem dX3_asThumb_0 : decode cX3_asThumb 0 = .ok (.aload_n 0, 1) := by decide +kernel
theorem dX3_asThumb_1 : decode cX3_asThumb 1 = .ok (.dup, 1) := by decide +kernel
theorem dX3_asThumb_2 : decode cX3_asThumb 2 = .ok (.getfield 42, 3) := by decide +kernel
theorem dX3_asThumb_5 : decode cX3_asThumb 5 = .ok (.ldc2_w 148, 3) := by decide +kernel
theorem dX3_asThumb_8 : decode cX3_asThumb 8 = .ok (.ladd, 1) := by decide +kernel
theorem dX3_asThumb_9 : decode cX3_asThumb 9 = .ok (.putfield 42, 3) := by decide +kernel
theorem dX3_asThumb_12 : decode cX3_asThumb 12 = .ok (.aload_n 0, 1) := by decide +kernel
theorem dX3_asThumb_13 : decode cX3_asThumb 13 = .ok (.iload_n 1, 1) := by decide +kernel
theorem dX3_asThumb_14 : decode cX3_asThumb 14 = .ok (.invokevirtual 186, 3) := by decide +kernel
theorem dX3_asThumb_17 : decode cX3_asThumb 17 = .ok (.iconst 2, 1) := by decide +kernel
theorem dX3_asThumb_18 : decode cX3_asThumb 18 = .ok (.imul, 1) := by decide +kernel
theorem dX3_asThumb_19 : decode cX3_asThumb 19 = .ok (.ireturn, 1) := by decide +kernel
set_option maxRecDepth 20000 in
theorem ggX3_asCorner_X3_asEnd : GoodIn wsX3_asCorner wsX3_asEnd := goodIn_r _ [8, 1, 9, 3, 10, 11, 12, 7, 13, 14, 15, 16, 17, 18, 19, 20, 21, 22, 23, 24, 25, 27, 28, 29, 30, 31, 32, 33, 34, 35, 36, 37, 38, 39, 40, 41, 42] (by decide +kernel) (by decide +kernel)
set_option maxRecDepth 20000 in
theorem gX3_asCorner_X3_asEnd : GoodIn wsX3_asCorner (wsV RX3 189 RX3 yX3_asEnd wsX3_asEnd) := goodIn_app (goodIn_of _ (by decide +kernel)) ggX3_asCorner_X3_asEnd
set_option maxRecDepth 20000 in
theorem ggX3_asCorner_X1_size : GoodIn wsX3_asCorner wsX1_size := goodIn_r _ [24, 25, 41, 42] (by decide +kernel) (by decide +kernel)
set_option maxRecDepth 20000 in
theorem gX3_asCorner_X1_size : GoodIn wsX3_asCorner (wsV RX3 66 RX1 yX1_size wsX1_size) := goodIn_app (goodIn_of _ (by decide +kernel)) ggX3_asCorner_X1_size
theorem dX3_asCorner_0 : decode cX3_asCorner 0 = .ok (.aload_n 0, 1) := by decide +kernel
theorem dX3_asCorner_1 : decode cX3_asCorner 1 = .ok (.dup, 1) := by decide +kernel
theorem dX3_asCorner_2 : decode cX3_asCorner 2 = .ok (.getfield 42, 3) := by decide +kernel
theorem dX3_asCorner_5 : decode cX3_asCorner 5 = .ok (.ldc2_w 225, 3) := by decide +kernel
theorem dX3_asCorner_8 : decode cX3_asCorner 8 = .ok (.ladd, 1) := by decide +kernel
theorem dX3_asCorner_9 : decode cX3_asCorner 9 = .ok (.putfield 42, 3) := by decide +kernel
theorem dX3_asCorner_12 : decode cX3_asCorner 12 = .ok (.aload_n 0, 1) := by decide +kernel
theorem dX3_asCorner_13 : decode cX3_asCorner 13 = .ok (.iload_n 1, 1) := by decide +kernel
theorem dX3_asCorner_14 : decode cX3_asCorner 14 = .ok (.invokevirtual 189, 3) := by decide +kernel
theorem dX3_asCorner_17 : decode cX3_asCorner 17 = .ok (.aload_n 0, 1) := by decide +kernel
theorem dX3_asCorner_18 : decode cX3_asCorner 18 = .ok (.getfield 19, 3) := by decide +kernel
theorem dX3_asCorner_21 : decode cX3_asCorner 21 = .ok (.getfield 163, 3) := by decide +kernel
theorem dX3_asCorner_24 : decode cX3_asCorner 24 = .ok (.invokevirtual 66, 3) := by decide +kernel
theorem dX3_asCorner_27 : decode cX3_asCorner 27 = .ok (.iadd, 1) := by decide +kernel
theorem dX3_asCorner_28 : decode cX3_asCorner 28 = .ok (.ireturn, 1) := by decide +kernel
set_option maxRecDepth 20000 in
theorem ggX3_asSeam_X3_asCrease : GoodIn wsX3_asSeam wsX3_asCrease := goodIn_r _ [8, 1, 9, 10, 11, 12, 13, 14, 15, 16, 17] (by decide +kernel) (by decide +kernel)
set_option maxRecDepth 20000 in
theorem gX3_asSeam_X3_asCrease : GoodIn wsX3_asSeam (wsV RX3 183 RX3 yX3_asCrease wsX3_asCrease) := goodIn_app (goodIn_of _ (by decide +kernel)) ggX3_asSeam_X3_asCrease
theorem dX3_asSeam_0 : decode cX3_asSeam 0 = .ok (.aload_n 0, 1) := by decide +kernel
theorem dX3_asSeam_1 : decode cX3_asSeam 1 = .ok (.dup, 1) := by decide +kernel
theorem dX3_asSeam_2 : decode cX3_asSeam 2 = .ok (.getfield 42, 3) := by decide +kernel
theorem dX3_asSeam_5 : decode cX3_asSeam 5 = .ok (.ldc2_w 227, 3) := by decide +kernel
theorem dX3_asSeam_8 : decode cX3_asSeam 8 = .ok (.ladd, 1) := by decide +kernel
theorem dX3_asSeam_9 : decode cX3_asSeam 9 = .ok (.putfield 42, 3) := by decide +kernel
theorem dX3_asSeam_12 : decode cX3_asSeam 12 = .ok (.aload_n 0, 1) := by decide +kernel
theorem dX3_asSeam_13 : decode cX3_asSeam 13 = .ok (.iload_n 1, 1) := by decide +kernel
theorem dX3_asSeam_14 : decode cX3_asSeam 14 = .ok (.invokevirtual 183, 3) := by decide +kernel
theorem dX3_asSeam_17 : decode cX3_asSeam 17 = .ok (.aload_n 0, 1) := by decide +kernel
theorem dX3_asSeam_18 : decode cX3_asSeam 18 = .ok (.getfield 29, 3) := by decide +kernel
theorem dX3_asSeam_21 : decode cX3_asSeam 21 = .ok (.iadd, 1) := by decide +kernel
theorem dX3_asSeam_22 : decode cX3_asSeam 22 = .ok (.ireturn, 1) := by decide +kernel
theorem dX3_imageOf_0 : decode cX3_imageOf 0 = .ok (.iload_n 1, 1) := by decide +kernel
theorem dX3_imageOf_1 : decode cX3_imageOf 1 = .ok (.lookupswitch 37 #[(0, 27), (1, 32)], 27) := by decide +kernel
theorem dX3_imageOf_28 : decode cX3_imageOf 28 = .ok (.aload_n 0, 1) := by decide +kernel
theorem dX3_imageOf_29 : decode cX3_imageOf 29 = .ok (.getfield 23, 3) := by decide +kernel
theorem dX3_imageOf_32 : decode cX3_imageOf 32 = .ok (.areturn, 1) := by decide +kernel
theorem dX3_imageOf_33 : decode cX3_imageOf 33 = .ok (.aload_n 0, 1) := by decide +kernel
theorem dX3_imageOf_34 : decode cX3_imageOf 34 = .ok (.getfield 26, 3) := by decide +kernel
theorem dX3_imageOf_37 : decode cX3_imageOf 37 = .ok (.areturn, 1) := by decide +kernel
theorem dX3_imageOf_38 : decode cX3_imageOf 38 = .ok (.aconst_null, 1) := by decide +kernel
theorem dX3_imageOf_39 : decode cX3_imageOf 39 = .ok (.areturn, 1) := by decide +kernel
set_option maxRecDepth 20000 in
theorem ggX3_leastUpper_X3_shared : GoodIn wsX3_leastUpper wsX3_shared := goodIn_r _ [4] (by decide +kernel) (by decide +kernel)
set_option maxRecDepth 20000 in
theorem gX3_leastUpper_X3_shared : GoodIn wsX3_leastUpper (va_wsS RX3 229 yX3_shared wsX3_shared) := goodIn_app (goodIn_of _ (by decide +kernel)) ggX3_leastUpper_X3_shared
theorem dX3_leastUpper_0 : decode cX3_leastUpper 0 = .ok (.lload_n 0, 1) := by decide +kernel
theorem dX3_leastUpper_1 : decode cX3_leastUpper 1 = .ok (.lload_n 2, 1) := by decide +kernel
theorem dX3_leastUpper_2 : decode cX3_leastUpper 2 = .ok (.invokestatic 229, 3) := by decide +kernel
theorem dX3_leastUpper_5 : decode cX3_leastUpper 5 = .ok (.lstore 4, 2) := by decide +kernel
theorem dX3_leastUpper_7 : decode cX3_leastUpper 7 = .ok (.lload 4, 2) := by decide +kernel
theorem dX3_leastUpper_9 : decode cX3_leastUpper 9 = .ok (.lconst 0, 1) := by decide +kernel
theorem dX3_leastUpper_10 : decode cX3_leastUpper 10 = .ok (.lcmp, 1) := by decide +kernel
theorem dX3_leastUpper_11 : decode cX3_leastUpper 11 = .ok (.ifCond .ne 7, 3) := by decide +kernel
theorem dX3_leastUpper_14 : decode cX3_leastUpper 14 = .ok (.lconst 0, 1) := by decide +kernel
theorem dX3_leastUpper_15 : decode cX3_leastUpper 15 = .ok (.goto 7, 3) := by decide +kernel
theorem dX3_leastUpper_18 : decode cX3_leastUpper 18 = .ok (.lload_n 0, 1) := by decide +kernel
theorem dX3_leastUpper_19 : decode cX3_leastUpper 19 = .ok (.lload 4, 2) := by decide +kernel
theorem dX3_leastUpper_21 : decode cX3_leastUpper 21 = .ok (.ldiv, 1) := by decide +kernel
theorem dX3_leastUpper_22 : decode cX3_leastUpper 22 = .ok (.lreturn, 1) := by decide +kernel
set_option maxRecDepth 20000 in
theorem ggX3_leastLower_X3_shared : GoodIn wsX3_leastLower wsX3_shared := goodIn_r _ [4] (by decide +kernel) (by decide +kernel)
set_option maxRecDepth 20000 in
theorem gX3_leastLower_X3_shared : GoodIn wsX3_leastLower (va_wsS RX3 229 yX3_shared wsX3_shared) := goodIn_app (goodIn_of _ (by decide +kernel)) ggX3_leastLower_X3_shared
theorem dX3_leastLower_0 : decode cX3_leastLower 0 = .ok (.lload_n 0, 1) := by decide +kernel
theorem dX3_leastLower_1 : decode cX3_leastLower 1 = .ok (.lload_n 2, 1) := by decide +kernel
theorem dX3_leastLower_2 : decode cX3_leastLower 2 = .ok (.invokestatic 229, 3) := by decide +kernel
theorem dX3_leastLower_5 : decode cX3_leastLower 5 = .ok (.lstore 4, 2) := by decide +kernel
theorem dX3_leastLower_7 : decode cX3_leastLower 7 = .ok (.lload 4, 2) := by decide +kernel
theorem dX3_leastLower_9 : decode cX3_leastLower 9 = .ok (.lconst 0, 1) := by decide +kernel
theorem dX3_leastLower_10 : decode cX3_leastLower 10 = .ok (.lcmp, 1) := by decide +kernel
theorem dX3_leastLower_11 : decode cX3_leastLower 11 = .ok (.ifCond .ne 7, 3) := by decide +kernel
theorem dX3_leastLower_14 : decode cX3_leastLower 14 = .ok (.lconst 1, 1) := by decide +kernel
theorem dX3_leastLower_15 : decode cX3_leastLower 15 = .ok (.goto 7, 3) := by decide +kernel
theorem dX3_leastLower_18 : decode cX3_leastLower 18 = .ok (.lload_n 2, 1) := by decide +kernel
theorem dX3_leastLower_19 : decode cX3_leastLower 19 = .ok (.lload 4, 2) := by decide +kernel
theorem dX3_leastLower_21 : decode cX3_leastLower 21 = .ok (.ldiv, 1) := by decide +kernel
theorem dX3_leastLower_22 : decode cX3_leastLower 22 = .ok (.lreturn, 1) := by decide +kernel
theorem dX3_shared_0 : decode cX3_shared 0 = .ok (.lload_n 0, 1) := by decide +kernel
theorem dX3_shared_1 : decode cX3_shared 1 = .ok (.lstore 4, 2) := by decide +kernel
theorem dX3_shared_3 : decode cX3_shared 3 = .ok (.lload_n 2, 1) := by decide +kernel
theorem dX3_shared_4 : decode cX3_shared 4 = .ok (.lstore 6, 2) := by decide +kernel
theorem dX3_shared_6 : decode cX3_shared 6 = .ok (.iconst 0, 1) := by decide +kernel
theorem dX3_shared_7 : decode cX3_shared 7 = .ok (.istore 8, 2) := by decide +kernel
theorem dX3_shared_9 : decode cX3_shared 9 = .ok (.iload 8, 2) := by decide +kernel
theorem dX3_shared_11 : decode cX3_shared 11 = .ok (.bipush 100, 2) := by decide +kernel
theorem dX3_shared_13 : decode cX3_shared 13 = .ok (.if_icmp .ge 31, 3) := by decide +kernel
theorem dX3_shared_16 : decode cX3_shared 16 = .ok (.lload 6, 2) := by decide +kernel
theorem dX3_shared_18 : decode cX3_shared 18 = .ok (.lconst 0, 1) := by decide +kernel
theorem dX3_shared_19 : decode cX3_shared 19 = .ok (.lcmp, 1) := by decide +kernel
theorem dX3_shared_20 : decode cX3_shared 20 = .ok (.ifCond .eq 24, 3) := by decide +kernel
theorem dX3_shared_23 : decode cX3_shared 23 = .ok (.lload 4, 2) := by decide +kernel
theorem dX3_shared_25 : decode cX3_shared 25 = .ok (.lload 6, 2) := by decide +kernel
theorem dX3_shared_27 : decode cX3_shared 27 = .ok (.lrem, 1) := by decide +kernel
theorem dX3_shared_28 : decode cX3_shared 28 = .ok (.lstore 9, 2) := by decide +kernel
theorem dX3_shared_30 : decode cX3_shared 30 = .ok (.lload 6, 2) := by decide +kernel
theorem dX3_shared_32 : decode cX3_shared 32 = .ok (.lstore 4, 2) := by decide +kernel
theorem dX3_shared_34 : decode cX3_shared 34 = .ok (.lload 9, 2) := by decide +kernel
theorem dX3_shared_36 : decode cX3_shared 36 = .ok (.lstore 6, 2) := by decide +kernel
theorem dX3_shared_38 : decode cX3_shared 38 = .ok (.iinc 8 1, 3) := by decide +kernel
theorem dX3_shared_41 : decode cX3_shared 41 = .ok (.goto (-32), 3) := by decide +kernel
theorem dX3_shared_44 : decode cX3_shared 44 = .ok (.lload 4, 2) := by decide +kernel
theorem dX3_shared_46 : decode cX3_shared 46 = .ok (.lreturn, 1) := by decide +kernel
end
section
set_option maxRecDepth 20000 in
theorem ggX4_init_X4_begin : GoodIn wsX4_init wsX4_begin := goodIn_r _ [22, 8, 10, 6, 7, 23, 11, 12, 24, 25, 26, 27, 28, 29, 30, 31, 32, 33, 34, 35, 36, 37, 38, 39, 40, 41, 42, 43, 44, 45, 46] (by decide +kernel) (by decide +kernel)
set_option maxRecDepth 20000 in
theorem gX4_init_X4_begin : GoodIn wsX4_init (wsV RX4 48 RX4 yX4_begin wsX4_begin) := goodIn_app (goodIn_of _ (by decide +kernel)) ggX4_init_X4_begin
theorem dX4_init_0 : decode cX4_init 0 = .ok (.aload_n 0, 1) := by decide +kernel
theorem dX4_init_1 : decode cX4_init 1 = .ok (.invokespecial 1, 3) := by decide +kernel
theorem dX4_init_4 : decode cX4_init 4 = .ok (.aload_n 0, 1) := by decide +kernel
theorem dX4_init_5 : decode cX4_init 5 = .ok (.sipush 200, 3) := by decide +kernel
theorem dX4_init_8 : decode cX4_init 8 = .ok (.newarray .int, 2) := by decide +kernel
theorem dX4_init_10 : decode cX4_init 10 = .ok (.putfield 7, 3) := by decide +kernel
theorem dX4_init_13 : decode cX4_init 13 = .ok (.aload_n 0, 1) := by decide +kernel
theorem dX4_init_14 : decode cX4_init 14 = .ok (.iconst 5, 1) := by decide +kernel
theorem dX4_init_15 : decode cX4_init 15 = .ok (.putfield 13, 3) := by decide +kernel
theorem dX4_init_18 : decode cX4_init 18 = .ok (.aload_n 0, 1) := by decide +kernel
theorem dX4_init_19 : decode cX4_init 19 = .ok (.iconst 1, 1) := by decide +kernel
theorem dX4_init_20 : decode cX4_init 20 = .ok (.putfield 17, 3) := by decide +kernel
theorem dX4_init_23 : decode cX4_init 23 = .ok (.aload_n 0, 1) := by decide +kernel
theorem dX4_init_24 : decode cX4_init 24 = .ok (.iconst 3, 1) := by decide +kernel
theorem dX4_init_25 : decode cX4_init 25 = .ok (.putfield 20, 3) := by decide +kernel
theorem dX4_init_28 : decode cX4_init 28 = .ok (.aload_n 0, 1) := by decide +kernel
theorem dX4_init_29 : decode cX4_init 29 = .ok (.bipush 23, 2) := by decide +kernel
theorem dX4_init_31 : decode cX4_init 31 = .ok (.newarray .long, 2) := by decide +kernel
theorem dX4_init_33 : decode cX4_init 33 = .ok (.putfield 23, 3) := by decide +kernel
theorem dX4_init_36 : decode cX4_init 36 = .ok (.aload_n 0, 1) := by decide +kernel
theorem dX4_init_37 : decode cX4_init 37 = .ok (.bipush 23, 2) := by decide +kernel
theorem dX4_init_39 : decode cX4_init 39 = .ok (.newarray .long, 2) := by decide +kernel
theorem dX4_init_41 : decode cX4_init 41 = .ok (.putfield 27, 3) := by decide +kernel
theorem dX4_init_44 : decode cX4_init 44 = .ok (.aload_n 0, 1) := by decide +kernel
theorem dX4_init_45 : decode cX4_init 45 = .ok (.bipush 23, 2) := by decide +kernel
theorem dX4_init_47 : decode cX4_init 47 = .ok (.newarray .long, 2) := by decide +kernel
theorem dX4_init_49 : decode cX4_init 49 = .ok (.putfield 30, 3) := by decide +kernel
theorem dX4_init_52 : decode cX4_init 52 = .ok (.aload_n 0, 1) := by decide +kernel
theorem dX4_init_53 : decode cX4_init 53 = .ok (.bipush 12, 2) := by decide +kernel
theorem dX4_init_55 : decode cX4_init 55 = .ok (.newarray .int, 2) := by decide +kernel
theorem dX4_init_57 : decode cX4_init 57 = .ok (.putfield 33, 3) := by decide +kernel
theorem dX4_init_60 : decode cX4_init 60 = .ok (.aload_n 0, 1) := by decide +kernel
theorem dX4_init_61 : decode cX4_init 61 = .ok (.bipush 8, 2) := by decide +kernel
theorem dX4_init_63 : decode cX4_init 63 = .ok (.newarray .int, 2) := by decide +kernel
theorem dX4_init_65 : decode cX4_init 65 = .ok (.putfield 36, 3) := by decide +kernel
theorem dX4_init_68 : decode cX4_init 68 = .ok (.aload_n 0, 1) := by decide +kernel
theorem dX4_init_69 : decode cX4_init 69 = .ok (.sipush 200, 3) := by decide +kernel
theorem dX4_init_72 : decode cX4_init 72 = .ok (.newarray .long, 2) := by decide +kernel
theorem dX4_init_74 : decode cX4_init 74 = .ok (.putfield 39, 3) := by decide +kernel
theorem dX4_init_77 : decode cX4_init 77 = .ok (.aload_n 0, 1) := by decide +kernel
theorem dX4_init_78 : decode cX4_init 78 = .ok (.iconst 4, 1) := by decide +kernel
theorem dX4_init_79 : decode cX4_init 79 = .ok (.newarray .int, 2) := by decide +kernel
theorem dX4_init_81 : decode cX4_init 81 = .ok (.putfield 42, 3) := by decide +kernel
theorem dX4_init_84 : decode cX4_init 84 = .ok (.aload_n 0, 1) := by decide +kernel
theorem dX4_init_85 : decode cX4_init 85 = .ok (.bipush 40, 2) := by decide +kernel
theorem dX4_init_87 : decode cX4_init 87 = .ok (.newarray .int, 2) := by decide +kernel
theorem dX4_init_89 : decode cX4_init 89 = .ok (.putfield 45, 3) := by decide +kernel
theorem dX4_init_92 : decode cX4_init 92 = .ok (.aload_n 0, 1) := by decide +kernel
theorem dX4_init_93 : decode cX4_init 93 = .ok (.invokevirtual 48, 3) := by decide +kernel
theorem dX4_init_96 : decode cX4_init 96 = .ok (.return_, 1) := by decide +kernel
theorem dX4_in_0 : decode cX4_in 0 = .ok (.lload_n 0, 1) := by decide +kernel
theorem dX4_in_1 : decode cX4_in 1 = .ok (.lload_n 2, 1) := by decide +kernel
theorem dX4_in_2 : decode cX4_in 2 = .ok (.lcmp, 1) := by decide +kernel
theorem dX4_in_3 : decode cX4_in 3 = .ok (.ifCond .lt 14, 3) := by decide +kernel
theorem dX4_in_6 : decode cX4_in 6 = .ok (.lload_n 0, 1) := by decide +kernel
theorem dX4_in_7 : decode cX4_in 7 = .ok (.lload 4, 2) := by decide +kernel
theorem dX4_in_9 : decode cX4_in 9 = .ok (.lcmp, 1) := by decide +kernel
theorem dX4_in_10 : decode cX4_in 10 = .ok (.ifCond .gt 7, 3) := by decide +kernel
theorem dX4_in_13 : decode cX4_in 13 = .ok (.iconst 1, 1) := by decide +kernel
theorem dX4_in_14 : decode cX4_in 14 = .ok (.goto 4, 3) := by decide +kernel
theorem dX4_in_17 : decode cX4_in 17 = .ok (.iconst 0, 1) := by decide +kernel
theorem dX4_in_18 : decode cX4_in 18 = .ok (.ireturn, 1) := by decide +kernel
theorem dX4_begin_0 : decode cX4_begin 0 = .ok (.aload_n 0, 1) := by decide +kernel
theorem dX4_begin_1 : decode cX4_begin 1 = .ok (.iconst 3, 1) := by decide +kernel
theorem dX4_begin_2 : decode cX4_begin 2 = .ok (.putfield 20, 3) := by decide +kernel
theorem dX4_begin_5 : decode cX4_begin 5 = .ok (.iconst 0, 1) := by decide +kernel
theorem dX4_begin_6 : decode cX4_begin 6 = .ok (.istore_n 1, 1) := by decide +kernel
theorem dX4_begin_7 : decode cX4_begin 7 = .ok (.iload_n 1, 1) := by decide +kernel
theorem dX4_begin_8 : decode cX4_begin 8 = .ok (.iconst 3, 1) := by decide +kernel
theorem dX4_begin_9 : decode cX4_begin 9 = .ok (.if_icmp .ge 69, 3) := by decide +kernel
theorem dX4_begin_12 : decode cX4_begin 12 = .ok (.aload_n 0, 1) := by decide +kernel
theorem dX4_begin_13 : decode cX4_begin 13 = .ok (.getfield 23, 3) := by decide +kernel
theorem dX4_begin_16 : decode cX4_begin 16 = .ok (.iload_n 1, 1) := by decide +kernel
theorem dX4_begin_17 : decode cX4_begin 17 = .ok (.iload_n 1, 1) := by decide +kernel
theorem dX4_begin_18 : decode cX4_begin 18 = .ok (.ifCond .ne 7, 3) := by decide +kernel
theorem dX4_begin_21 : decode cX4_begin 21 = .ok (.iconst 0, 1) := by decide +kernel
theorem dX4_begin_22 : decode cX4_begin 22 = .ok (.goto 19, 3) := by decide +kernel
theorem dX4_begin_25 : decode cX4_begin 25 = .ok (.iload_n 1, 1) := by decide +kernel
theorem dX4_begin_26 : decode cX4_begin 26 = .ok (.iconst 1, 1) := by decide +kernel
theorem dX4_begin_27 : decode cX4_begin 27 = .ok (.if_icmp .ne 10, 3) := by decide +kernel
theorem dX4_begin_30 : decode cX4_begin 30 = .ok (.aload_n 0, 1) := by decide +kernel
theorem dX4_begin_31 : decode cX4_begin 31 = .ok (.getfield 13, 3) := by decide +kernel
theorem dX4_begin_34 : decode cX4_begin 34 = .ok (.goto 7, 3) := by decide +kernel
theorem dX4_begin_37 : decode cX4_begin 37 = .ok (.aload_n 0, 1) := by decide +kernel
theorem dX4_begin_38 : decode cX4_begin 38 = .ok (.getfield 17, 3) := by decide +kernel
theorem dX4_begin_41 : decode cX4_begin 41 = .ok (.i2l, 1) := by decide +kernel
theorem dX4_begin_42 : decode cX4_begin 42 = .ok (.ldc2_w 51, 3) := by decide +kernel
theorem dX4_begin_45 : decode cX4_begin 45 = .ok (.lmul, 1) := by decide +kernel
theorem dX4_begin_46 : decode cX4_begin 46 = .ok (.lastore, 1) := by decide +kernel
theorem dX4_begin_47 : decode cX4_begin 47 = .ok (.aload_n 0, 1) := by decide +kernel
theorem dX4_begin_48 : decode cX4_begin 48 = .ok (.getfield 27, 3) := by decide +kernel
theorem dX4_begin_51 : decode cX4_begin 51 = .ok (.iload_n 1, 1) := by decide +kernel
theorem dX4_begin_52 : decode cX4_begin 52 = .ok (.iload_n 1, 1) := by decide +kernel
theorem dX4_begin_53 : decode cX4_begin 53 = .ok (.iconst 2, 1) := by decide +kernel
theorem dX4_begin_54 : decode cX4_begin 54 = .ok (.if_icmp .ne 9, 3) := by decide +kernel
theorem dX4_begin_57 : decode cX4_begin 57 = .ok (.ldc2_w 51, 3) := by decide +kernel
theorem dX4_begin_60 : decode cX4_begin 60 = .ok (.goto 4, 3) := by decide +kernel
theorem dX4_begin_63 : decode cX4_begin 63 = .ok (.lconst 0, 1) := by decide +kernel
theorem dX4_begin_64 : decode cX4_begin 64 = .ok (.lastore, 1) := by decide +kernel
theorem dX4_begin_65 : decode cX4_begin 65 = .ok (.aload_n 0, 1) := by decide +kernel
theorem dX4_begin_66 : decode cX4_begin 66 = .ok (.getfield 30, 3) := by decide +kernel
theorem dX4_begin_69 : decode cX4_begin 69 = .ok (.iload_n 1, 1) := by decide +kernel
theorem dX4_begin_70 : decode cX4_begin 70 = .ok (.lconst 0, 1) := by decide +kernel
theorem dX4_begin_71 : decode cX4_begin 71 = .ok (.lastore, 1) := by decide +kernel
theorem dX4_begin_72 : decode cX4_begin 72 = .ok (.iinc 1 1, 3) := by decide +kernel
theorem dX4_begin_75 : decode cX4_begin 75 = .ok (.goto (-68), 3) := by decide +kernel
theorem dX4_begin_78 : decode cX4_begin 78 = .ok (.return_, 1) := by decide +kernel
theorem dX4_folds_0 : decode cX4_folds 0 = .ok (.aload_n 0, 1) := by decide +kernel
theorem dX4_folds_1 : decode cX4_folds 1 = .ok (.getfield 23, 3) := by decide +kernel
theorem dX4_folds_4 : decode cX4_folds 4 = .ok (.aload_n 0, 1) := by decide +kernel
theorem dX4_folds_5 : decode cX4_folds 5 = .ok (.getfield 20, 3) := by decide +kernel
theorem dX4_folds_8 : decode cX4_folds 8 = .ok (.aload_n 0, 1) := by decide +kernel
theorem dX4_folds_9 : decode cX4_folds 9 = .ok (.getfield 23, 3) := by decide +kernel
theorem dX4_folds_12 : decode cX4_folds 12 = .ok (.iload_n 1, 1) := by decide +kernel
theorem dX4_folds_13 : decode cX4_folds 13 = .ok (.laload, 1) := by decide +kernel
theorem dX4_folds_14 : decode cX4_folds 14 = .ok (.aload_n 0, 1) := by decide +kernel
theorem dX4_folds_15 : decode cX4_folds 15 = .ok (.getfield 23, 3) := by decide +kernel
theorem dX4_folds_18 : decode cX4_folds 18 = .ok (.iload_n 2, 1) := by decide +kernel
theorem dX4_folds_19 : decode cX4_folds 19 = .ok (.laload, 1) := by decide +kernel
theorem dX4_folds_20 : decode cX4_folds 20 = .ok (.ladd, 1) := by decide +kernel
theorem dX4_folds_21 : decode cX4_folds 21 = .ok (.ldc2_w 53, 3) := by decide +kernel
theorem dX4_folds_24 : decode cX4_folds 24 = .ok (.ldiv, 1) := by decide +kernel
theorem dX4_folds_25 : decode cX4_folds 25 = .ok (.lastore, 1) := by decide +kernel
theorem dX4_folds_26 : decode cX4_folds 26 = .ok (.aload_n 0, 1) := by decide +kernel
theorem dX4_folds_27 : decode cX4_folds 27 = .ok (.getfield 27, 3) := by decide +kernel
theorem dX4_folds_30 : decode cX4_folds 30 = .ok (.aload_n 0, 1) := by decide +kernel
theorem dX4_folds_31 : decode cX4_folds 31 = .ok (.getfield 20, 3) := by decide +kernel
theorem dX4_folds_34 : decode cX4_folds 34 = .ok (.aload_n 0, 1) := by decide +kernel
theorem dX4_folds_35 : decode cX4_folds 35 = .ok (.getfield 27, 3) := by decide +kernel
theorem dX4_folds_38 : decode cX4_folds 38 = .ok (.iload_n 1, 1) := by decide +kernel
theorem dX4_folds_39 : decode cX4_folds 39 = .ok (.laload, 1) := by decide +kernel
theorem dX4_folds_40 : decode cX4_folds 40 = .ok (.aload_n 0, 1) := by decide +kernel
theorem dX4_folds_41 : decode cX4_folds 41 = .ok (.getfield 27, 3) := by decide +kernel
theorem dX4_folds_44 : decode cX4_folds 44 = .ok (.iload_n 2, 1) := by decide +kernel
theorem dX4_folds_45 : decode cX4_folds 45 = .ok (.laload, 1) := by decide +kernel
theorem dX4_folds_46 : decode cX4_folds 46 = .ok (.ladd, 1) := by decide +kernel
theorem dX4_folds_47 : decode cX4_folds 47 = .ok (.ldc2_w 53, 3) := by decide +kernel
theorem dX4_folds_50 : decode cX4_folds 50 = .ok (.ldiv, 1) := by decide +kernel
theorem dX4_folds_51 : decode cX4_folds 51 = .ok (.lastore, 1) := by decide +kernel
theorem dX4_folds_52 : decode cX4_folds 52 = .ok (.aload_n 0, 1) := by decide +kernel
theorem dX4_folds_53 : decode cX4_folds 53 = .ok (.getfield 30, 3) := by decide +kernel
theorem dX4_folds_56 : decode cX4_folds 56 = .ok (.aload_n 0, 1) := by decide +kernel
theorem dX4_folds_57 : decode cX4_folds 57 = .ok (.getfield 20, 3) := by decide +kernel
theorem dX4_folds_60 : decode cX4_folds 60 = .ok (.aload_n 0, 1) := by decide +kernel
theorem dX4_folds_61 : decode cX4_folds 61 = .ok (.getfield 30, 3) := by decide +kernel
theorem dX4_folds_64 : decode cX4_folds 64 = .ok (.iload_n 1, 1) := by decide +kernel
theorem dX4_folds_65 : decode cX4_folds 65 = .ok (.laload, 1) := by decide +kernel
theorem dX4_folds_66 : decode cX4_folds 66 = .ok (.aload_n 0, 1) := by decide +kernel
theorem dX4_folds_67 : decode cX4_folds 67 = .ok (.getfield 30, 3) := by decide +kernel
theorem dX4_folds_70 : decode cX4_folds 70 = .ok (.iload_n 2, 1) := by decide +kernel
theorem dX4_folds_71 : decode cX4_folds 71 = .ok (.laload, 1) := by decide +kernel
theorem dX4_folds_72 : decode cX4_folds 72 = .ok (.ladd, 1) := by decide +kernel
theorem dX4_folds_73 : decode cX4_folds 73 = .ok (.ldc2_w 53, 3) := by decide +kernel
theorem dX4_folds_76 : decode cX4_folds 76 = .ok (.ldiv, 1) := by decide +kernel
theorem dX4_folds_77 : decode cX4_folds 77 = .ok (.ldc2_w 51, 3) := by decide +kernel
theorem dX4_folds_80 : decode cX4_folds 80 = .ok (.ladd, 1) := by decide +kernel
theorem dX4_folds_81 : decode cX4_folds 81 = .ok (.lastore, 1) := by decide +kernel
theorem dX4_folds_82 : decode cX4_folds 82 = .ok (.aload_n 0, 1) := by decide +kernel
theorem dX4_folds_83 : decode cX4_folds 83 = .ok (.dup, 1) := by decide +kernel
theorem dX4_folds_84 : decode cX4_folds 84 = .ok (.getfield 20, 3) := by decide +kernel
theorem dX4_folds_87 : decode cX4_folds 87 = .ok (.iconst 1, 1) := by decide +kernel
theorem dX4_folds_88 : decode cX4_folds 88 = .ok (.iadd, 1) := by decide +kernel
theorem dX4_folds_89 : decode cX4_folds 89 = .ok (.putfield 20, 3) := by decide +kernel
theorem dX4_folds_92 : decode cX4_folds 92 = .ok (.return_, 1) := by decide +kernel
set_option maxRecDepth 20000 in
theorem ggX4_type_X4_in : GoodIn wsX4_type wsX4_in := goodIn_r _ [8] (by decide +kernel) (by decide +kernel)
set_option maxRecDepth 20000 in
theorem gX4_type_X4_in : GoodIn wsX4_type (va_wsS RX4 57 yX4_in wsX4_in) := goodIn_app (goodIn_of _ (by decide +kernel)) ggX4_type_X4_in
theorem dX4_type_0 : decode cX4_type 0 = .ok (.iload_n 3, 1) := by decide +kernel
theorem dX4_type_1 : decode cX4_type 1 = .ok (.i2l, 1) := by decide +kernel
theorem dX4_type_2 : decode cX4_type 2 = .ok (.lconst 1, 1) := by decide +kernel
theorem dX4_type_3 : decode cX4_type 3 = .ok (.ldc2_w 55, 3) := by decide +kernel
theorem dX4_type_6 : decode cX4_type 6 = .ok (.invokestatic 57, 3) := by decide +kernel
theorem dX4_type_9 : decode cX4_type 9 = .ok (.ifCond .ne 5, 3) := by decide +kernel
theorem dX4_type_12 : decode cX4_type 12 = .ok (.iconst (-1), 1) := by decide +kernel
theorem dX4_type_13 : decode cX4_type 13 = .ok (.ireturn, 1) := by decide +kernel
theorem dX4_type_14 : decode cX4_type 14 = .ok (.aload_n 0, 1) := by decide +kernel
theorem dX4_type_15 : decode cX4_type 15 = .ok (.getfield 61, 3) := by decide +kernel
theorem dX4_type_18 : decode cX4_type 18 = .ok (.iload_n 3, 1) := by decide +kernel
theorem dX4_type_19 : decode cX4_type 19 = .ok (.iadd, 1) := by decide +kernel
theorem dX4_type_20 : decode cX4_type 20 = .ok (.sipush 200, 3) := by decide +kernel
theorem dX4_type_23 : decode cX4_type 23 = .ok (.if_icmp .le 6, 3) := by decide +kernel
theorem dX4_type_26 : decode cX4_type 26 = .ok (.bipush (-3), 2) := by decide +kernel
theorem dX4_type_28 : decode cX4_type 28 = .ok (.ireturn, 1) := by decide +kernel
theorem dX4_type_29 : decode cX4_type 29 = .ok (.iload_n 3, 1) := by decide +kernel
theorem dX4_type_30 : decode cX4_type 30 = .ok (.iconst 1, 1) := by decide +kernel
theorem dX4_type_31 : decode cX4_type 31 = .ok (.isub, 1) := by decide +kernel
theorem dX4_type_32 : decode cX4_type 32 = .ok (.istore 4, 2) := by decide +kernel
theorem dX4_type_34 : decode cX4_type 34 = .ok (.iload 4, 2) := by decide +kernel
theorem dX4_type_36 : decode cX4_type 36 = .ok (.ifCond .lt 40, 3) := by decide +kernel
theorem dX4_type_39 : decode cX4_type 39 = .ok (.aload_n 0, 1) := by decide +kernel
theorem dX4_type_40 : decode cX4_type 40 = .ok (.getfield 7, 3) := by decide +kernel
theorem dX4_type_43 : decode cX4_type 43 = .ok (.aload_n 0, 1) := by decide +kernel
theorem dX4_type_44 : decode cX4_type 44 = .ok (.getfield 61, 3) := by decide +kernel
theorem dX4_type_47 : decode cX4_type 47 = .ok (.lload_n 1, 1) := by decide +kernel
theorem dX4_type_48 : decode cX4_type 48 = .ok (.bipush 8, 2) := by decide +kernel
theorem dX4_type_50 : decode cX4_type 50 = .ok (.iload 4, 2) := by decide +kernel
theorem dX4_type_52 : decode cX4_type 52 = .ok (.imul, 1) := by decide +kernel
theorem dX4_type_53 : decode cX4_type 53 = .ok (.lshr, 1) := by decide +kernel
theorem dX4_type_54 : decode cX4_type 54 = .ok (.ldc2_w 64, 3) := by decide +kernel
theorem dX4_type_57 : decode cX4_type 57 = .ok (.land, 1) := by decide +kernel
theorem dX4_type_58 : decode cX4_type 58 = .ok (.l2i, 1) := by decide +kernel
theorem dX4_type_59 : decode cX4_type 59 = .ok (.iastore, 1) := by decide +kernel
theorem dX4_type_60 : decode cX4_type 60 = .ok (.aload_n 0, 1) := by decide +kernel
theorem dX4_type_61 : decode cX4_type 61 = .ok (.dup, 1) := by decide +kernel
theorem dX4_type_62 : decode cX4_type 62 = .ok (.getfield 61, 3) := by decide +kernel
theorem dX4_type_65 : decode cX4_type 65 = .ok (.iconst 1, 1) := by decide +kernel
theorem dX4_type_66 : decode cX4_type 66 = .ok (.iadd, 1) := by decide +kernel
theorem dX4_type_67 : decode cX4_type 67 = .ok (.putfield 61, 3) := by decide +kernel
theorem dX4_type_70 : decode cX4_type 70 = .ok (.iinc 4 (-1), 3) := by decide +kernel
theorem dX4_type_73 : decode cX4_type 73 = .ok (.goto (-39), 3) := by decide +kernel
theorem dX4_type_76 : decode cX4_type 76 = .ok (.aload_n 0, 1) := by decide +kernel
theorem dX4_type_77 : decode cX4_type 77 = .ok (.getfield 61, 3) := by decide +kernel
theorem dX4_type_80 : decode cX4_type 80 = .ok (.ireturn, 1) := by decide +kernel
theorem dX4_clear_0 : decode cX4_clear 0 = .ok (.aload_n 0, 1) := by decide +kernel
theorem dX4_clear_1 : decode cX4_clear 1 = .ok (.getfield 61, 3) := by decide +kernel
theorem dX4_clear_4 : decode cX4_clear 4 = .ok (.istore_n 1, 1) := by decide +kernel
theorem dX4_clear_5 : decode cX4_clear 5 = .ok (.aload_n 0, 1) := by decide +kernel
theorem dX4_clear_6 : decode cX4_clear 6 = .ok (.iconst 0, 1) := by decide +kernel
theorem dX4_clear_7 : decode cX4_clear 7 = .ok (.putfield 61, 3) := by decide +kernel
theorem dX4_clear_10 : decode cX4_clear 10 = .ok (.iload_n 1, 1) := by decide +kernel
theorem dX4_clear_11 : decode cX4_clear 11 = .ok (.ireturn, 1) := by decide +kernel
theorem dX4_isLetter_0 : decode cX4_isLetter 0 = .ok (.iload_n 0, 1) := by decide +kernel
theorem dX4_isLetter_1 : decode cX4_isLetter 1 = .ok (.bipush 96, 2) := by decide +kernel
theorem dX4_isLetter_3 : decode cX4_isLetter 3 = .ok (.if_icmp .le 13, 3) := by decide +kernel
theorem dX4_isLetter_6 : decode cX4_isLetter 6 = .ok (.iload_n 0, 1) := by decide +kernel
theorem dX4_isLetter_7 : decode cX4_isLetter 7 = .ok (.bipush 123, 2) := by decide +kernel
theorem dX4_isLetter_9 : decode cX4_isLetter 9 = .ok (.if_icmp .ge 7, 3) := by decide +kernel
theorem dX4_isLetter_12 : decode cX4_isLetter 12 = .ok (.iconst 1, 1) := by decide +kernel
theorem dX4_isLetter_13 : decode cX4_isLetter 13 = .ok (.goto 4, 3) := by decide +kernel
theorem dX4_isLetter_16 : decode cX4_isLetter 16 = .ok (.iconst 0, 1) := by decide +kernel
theorem dX4_isLetter_17 : decode cX4_isLetter 17 = .ok (.ireturn, 1) := by decide +kernel
theorem dX4_isFigure_0 : decode cX4_isFigure 0 = .ok (.iload_n 0, 1) := by decide +kernel
theorem dX4_isFigure_1 : decode cX4_isFigure 1 = .ok (.bipush 47, 2) := by decide +kernel
theorem dX4_isFigure_3 : decode cX4_isFigure 3 = .ok (.if_icmp .le 13, 3) := by decide +kernel
theorem dX4_isFigure_6 : decode cX4_isFigure 6 = .ok (.iload_n 0, 1) := by decide +kernel
theorem dX4_isFigure_7 : decode cX4_isFigure 7 = .ok (.bipush 58, 2) := by decide +kernel
theorem dX4_isFigure_9 : decode cX4_isFigure 9 = .ok (.if_icmp .ge 7, 3) := by decide +kernel
theorem dX4_isFigure_12 : decode cX4_isFigure 12 = .ok (.iconst 1, 1) := by decide +kernel
theorem dX4_isFigure_13 : decode cX4_isFigure 13 = .ok (.goto 4, 3) := by decide +kernel
theorem dX4_isFigure_16 : decode cX4_isFigure 16 = .ok (.iconst 0, 1) := by decide +kernel
theorem dX4_isFigure_17 : decode cX4_isFigure 17 = .ok (.ireturn, 1) := by decide +kernel
set_option maxRecDepth 20000 in
theorem ggX4_next_X4_isLetter : GoodIn wsX4_next wsX4_isLetter := goodIn_r _ [16] (by decide +kernel) (by decide +kernel)
set_option maxRecDepth 20000 in
theorem gX4_next_X4_isLetter : GoodIn wsX4_next (va_wsS RX4 75 yX4_isLetter wsX4_isLetter) := goodIn_app (goodIn_of _ (by decide +kernel)) ggX4_next_X4_isLetter
set_option maxRecDepth 20000 in
theorem ggX4_next_X4_isFigure : GoodIn wsX4_next wsX4_isFigure := goodIn_r _ [19] (by decide +kernel) (by decide +kernel)
set_option maxRecDepth 20000 in
theorem gX4_next_X4_isFigure : GoodIn wsX4_next (va_wsS RX4 79 yX4_isFigure wsX4_isFigure) := goodIn_app (goodIn_of _ (by decide +kernel)) ggX4_next_X4_isFigure
theorem dX4_next_0 : decode cX4_next 0 = .ok (.aload_n 0, 1) := by decide +kernel
theorem dX4_next_1 : decode cX4_next 1 = .ok (.getfield 66, 3) := by decide +kernel
theorem dX4_next_4 : decode cX4_next 4 = .ok (.aload_n 0, 1) := by decide +kernel
theorem dX4_next_5 : decode cX4_next 5 = .ok (.getfield 61, 3) := by decide +kernel
theorem dX4_next_8 : decode cX4_next 8 = .ok (.if_icmp .ge 30, 3) := by decide +kernel
theorem dX4_next_11 : decode cX4_next 11 = .ok (.aload_n 0, 1) := by decide +kernel
theorem dX4_next_12 : decode cX4_next 12 = .ok (.getfield 7, 3) := by decide +kernel
theorem dX4_next_15 : decode cX4_next 15 = .ok (.aload_n 0, 1) := by decide +kernel
theorem dX4_next_16 : decode cX4_next 16 = .ok (.getfield 66, 3) := by decide +kernel
theorem dX4_next_19 : decode cX4_next 19 = .ok (.iaload, 1) := by decide +kernel
theorem dX4_next_20 : decode cX4_next 20 = .ok (.bipush 32, 2) := by decide +kernel
theorem dX4_next_22 : decode cX4_next 22 = .ok (.if_icmp .ne 16, 3) := by decide +kernel
theorem dX4_next_25 : decode cX4_next 25 = .ok (.aload_n 0, 1) := by decide +kernel
theorem dX4_next_26 : decode cX4_next 26 = .ok (.dup, 1) := by decide +kernel
theorem dX4_next_27 : decode cX4_next 27 = .ok (.getfield 66, 3) := by decide +kernel
theorem dX4_next_30 : decode cX4_next 30 = .ok (.iconst 1, 1) := by decide +kernel
theorem dX4_next_31 : decode cX4_next 31 = .ok (.iadd, 1) := by decide +kernel
theorem dX4_next_32 : decode cX4_next 32 = .ok (.putfield 66, 3) := by decide +kernel
theorem dX4_next_35 : decode cX4_next 35 = .ok (.goto (-35), 3) := by decide +kernel
theorem dX4_next_38 : decode cX4_next 38 = .ok (.aload_n 0, 1) := by decide +kernel
theorem dX4_next_39 : decode cX4_next 39 = .ok (.aload_n 0, 1) := by decide +kernel
theorem dX4_next_40 : decode cX4_next 40 = .ok (.getfield 66, 3) := by decide +kernel
theorem dX4_next_43 : decode cX4_next 43 = .ok (.putfield 69, 3) := by decide +kernel
theorem dX4_next_46 : decode cX4_next 46 = .ok (.aload_n 0, 1) := by decide +kernel
theorem dX4_next_47 : decode cX4_next 47 = .ok (.lconst 0, 1) := by decide +kernel
theorem dX4_next_48 : decode cX4_next 48 = .ok (.putfield 71, 3) := by decide +kernel
theorem dX4_next_51 : decode cX4_next 51 = .ok (.aload_n 0, 1) := by decide +kernel
theorem dX4_next_52 : decode cX4_next 52 = .ok (.getfield 66, 3) := by decide +kernel
theorem dX4_next_55 : decode cX4_next 55 = .ok (.aload_n 0, 1) := by decide +kernel
theorem dX4_next_56 : decode cX4_next 56 = .ok (.getfield 61, 3) := by decide +kernel
theorem dX4_next_59 : decode cX4_next 59 = .ok (.if_icmp .ge 15, 3) := by decide +kernel
theorem dX4_next_62 : decode cX4_next 62 = .ok (.aload_n 0, 1) := by decide +kernel
theorem dX4_next_63 : decode cX4_next 63 = .ok (.getfield 7, 3) := by decide +kernel
theorem dX4_next_66 : decode cX4_next 66 = .ok (.aload_n 0, 1) := by decide +kernel
theorem dX4_next_67 : decode cX4_next 67 = .ok (.getfield 66, 3) := by decide +kernel
theorem dX4_next_70 : decode cX4_next 70 = .ok (.iaload, 1) := by decide +kernel
theorem dX4_next_71 : decode cX4_next 71 = .ok (.goto 4, 3) := by decide +kernel
theorem dX4_next_74 : decode cX4_next 74 = .ok (.iconst (-1), 1) := by decide +kernel
theorem dX4_next_75 : decode cX4_next 75 = .ok (.istore_n 1, 1) := by decide +kernel
theorem dX4_next_76 : decode cX4_next 76 = .ok (.aload_n 0, 1) := by decide +kernel
theorem dX4_next_77 : decode cX4_next 77 = .ok (.iload_n 1, 1) := by decide +kernel
theorem dX4_next_78 : decode cX4_next 78 = .ok (.ifCond .ge 7, 3) := by decide +kernel
theorem dX4_next_81 : decode cX4_next 81 = .ok (.iconst 0, 1) := by decide +kernel
theorem dX4_next_82 : decode cX4_next 82 = .ok (.goto 36, 3) := by decide +kernel
theorem dX4_next_85 : decode cX4_next 85 = .ok (.iload_n 1, 1) := by decide +kernel
theorem dX4_next_86 : decode cX4_next 86 = .ok (.invokestatic 75, 3) := by decide +kernel
theorem dX4_next_89 : decode cX4_next 89 = .ok (.ifCond .eq 7, 3) := by decide +kernel
theorem dX4_next_92 : decode cX4_next 92 = .ok (.iconst 1, 1) := by decide +kernel
theorem dX4_next_93 : decode cX4_next 93 = .ok (.goto 25, 3) := by decide +kernel
theorem dX4_next_96 : decode cX4_next 96 = .ok (.iload_n 1, 1) := by decide +kernel
theorem dX4_next_97 : decode cX4_next 97 = .ok (.invokestatic 79, 3) := by decide +kernel
theorem dX4_next_100 : decode cX4_next 100 = .ok (.ifCond .eq 7, 3) := by decide +kernel
theorem dX4_next_103 : decode cX4_next 103 = .ok (.iconst 2, 1) := by decide +kernel
theorem dX4_next_104 : decode cX4_next 104 = .ok (.goto 14, 3) := by decide +kernel
theorem dX4_next_107 : decode cX4_next 107 = .ok (.iload_n 1, 1) := by decide +kernel
theorem dX4_next_108 : decode cX4_next 108 = .ok (.bipush 59, 2) := by decide +kernel
theorem dX4_next_110 : decode cX4_next 110 = .ok (.if_icmp .ne 7, 3) := by decide +kernel
theorem dX4_next_113 : decode cX4_next 113 = .ok (.iconst 3, 1) := by decide +kernel
theorem dX4_next_114 : decode cX4_next 114 = .ok (.goto 4, 3) := by decide +kernel
theorem dX4_next_117 : decode cX4_next 117 = .ok (.iconst 4, 1) := by decide +kernel
theorem dX4_next_118 : decode cX4_next 118 = .ok (.putfield 82, 3) := by decide +kernel
theorem dX4_next_121 : decode cX4_next 121 = .ok (.aload_n 0, 1) := by decide +kernel
theorem dX4_next_122 : decode cX4_next 122 = .ok (.dup, 1) := by decide +kernel
theorem dX4_next_123 : decode cX4_next 123 = .ok (.getfield 66, 3) := by decide +kernel
theorem dX4_next_126 : decode cX4_next 126 = .ok (.aload_n 0, 1) := by decide +kernel
theorem dX4_next_127 : decode cX4_next 127 = .ok (.getfield 82, 3) := by decide +kernel
theorem dX4_next_130 : decode cX4_next 130 = .ok (.iconst 3, 1) := by decide +kernel
theorem dX4_next_131 : decode cX4_next 131 = .ok (.if_icmp .ne 7, 3) := by decide +kernel
theorem dX4_next_134 : decode cX4_next 134 = .ok (.iconst 1, 1) := by decide +kernel
theorem dX4_next_135 : decode cX4_next 135 = .ok (.goto 4, 3) := by decide +kernel
theorem dX4_next_138 : decode cX4_next 138 = .ok (.iconst 0, 1) := by decide +kernel
theorem dX4_next_139 : decode cX4_next 139 = .ok (.iadd, 1) := by decide +kernel
theorem dX4_next_140 : decode cX4_next 140 = .ok (.putfield 66, 3) := by decide +kernel
theorem dX4_next_143 : decode cX4_next 143 = .ok (.aload_n 0, 1) := by decide +kernel
theorem dX4_next_144 : decode cX4_next 144 = .ok (.getfield 82, 3) := by decide +kernel
theorem dX4_next_147 : decode cX4_next 147 = .ok (.iconst 1, 1) := by decide +kernel
theorem dX4_next_148 : decode cX4_next 148 = .ok (.if_icmp .ne 89, 3) := by decide +kernel
theorem dX4_next_151 : decode cX4_next 151 = .ok (.aload_n 0, 1) := by decide +kernel
theorem dX4_next_152 : decode cX4_next 152 = .ok (.getfield 66, 3) := by decide +kernel
theorem dX4_next_155 : decode cX4_next 155 = .ok (.aload_n 0, 1) := by decide +kernel
theorem dX4_next_156 : decode cX4_next 156 = .ok (.getfield 61, 3) := by decide +kernel
theorem dX4_next_159 : decode cX4_next 159 = .ok (.if_icmp .ge 78, 3) := by decide +kernel
theorem dX4_next_162 : decode cX4_next 162 = .ok (.aload_n 0, 1) := by decide +kernel
theorem dX4_next_163 : decode cX4_next 163 = .ok (.getfield 7, 3) := by decide +kernel
theorem dX4_next_166 : decode cX4_next 166 = .ok (.aload_n 0, 1) := by decide +kernel
theorem dX4_next_167 : decode cX4_next 167 = .ok (.getfield 66, 3) := by decide +kernel
theorem dX4_next_170 : decode cX4_next 170 = .ok (.iaload, 1) := by decide +kernel
theorem dX4_next_171 : decode cX4_next 171 = .ok (.invokestatic 75, 3) := by decide +kernel
theorem dX4_next_174 : decode cX4_next 174 = .ok (.ifCond .eq 63, 3) := by decide +kernel
theorem dX4_next_177 : decode cX4_next 177 = .ok (.aload_n 0, 1) := by decide +kernel
theorem dX4_next_178 : decode cX4_next 178 = .ok (.aload_n 0, 1) := by decide +kernel
theorem dX4_next_179 : decode cX4_next 179 = .ok (.getfield 66, 3) := by decide +kernel
theorem dX4_next_182 : decode cX4_next 182 = .ok (.aload_n 0, 1) := by decide +kernel
theorem dX4_next_183 : decode cX4_next 183 = .ok (.getfield 69, 3) := by decide +kernel
theorem dX4_next_186 : decode cX4_next 186 = .ok (.isub, 1) := by decide +kernel
theorem dX4_next_187 : decode cX4_next 187 = .ok (.bipush 6, 2) := by decide +kernel
theorem dX4_next_189 : decode cX4_next 189 = .ok (.if_icmp .ge 29, 3) := by decide +kernel
theorem dX4_next_192 : decode cX4_next 192 = .ok (.ldc2_w 85, 3) := by decide +kernel
theorem dX4_next_195 : decode cX4_next 195 = .ok (.aload_n 0, 1) := by decide +kernel
theorem dX4_next_196 : decode cX4_next 196 = .ok (.getfield 71, 3) := by decide +kernel
theorem dX4_next_199 : decode cX4_next 199 = .ok (.lmul, 1) := by decide +kernel
theorem dX4_next_200 : decode cX4_next 200 = .ok (.aload_n 0, 1) := by decide +kernel
theorem dX4_next_201 : decode cX4_next 201 = .ok (.getfield 7, 3) := by decide +kernel
theorem dX4_next_204 : decode cX4_next 204 = .ok (.aload_n 0, 1) := by decide +kernel
theorem dX4_next_205 : decode cX4_next 205 = .ok (.getfield 66, 3) := by decide +kernel
theorem dX4_next_208 : decode cX4_next 208 = .ok (.iaload, 1) := by decide +kernel
theorem dX4_next_209 : decode cX4_next 209 = .ok (.i2l, 1) := by decide +kernel
theorem dX4_next_210 : decode cX4_next 210 = .ok (.ladd, 1) := by decide +kernel
theorem dX4_next_211 : decode cX4_next 211 = .ok (.ldc2_w 87, 3) := by decide +kernel
theorem dX4_next_214 : decode cX4_next 214 = .ok (.lsub, 1) := by decide +kernel
theorem dX4_next_215 : decode cX4_next 215 = .ok (.goto 6, 3) := by decide +kernel
theorem dX4_next_218 : decode cX4_next 218 = .ok (.ldc2_w 89, 3) := by decide +kernel
theorem dX4_next_221 : decode cX4_next 221 = .ok (.putfield 71, 3) := by decide +kernel
theorem dX4_next_224 : decode cX4_next 224 = .ok (.aload_n 0, 1) := by decide +kernel
theorem dX4_next_225 : decode cX4_next 225 = .ok (.dup, 1) := by decide +kernel
theorem dX4_next_226 : decode cX4_next 226 = .ok (.getfield 66, 3) := by decide +kernel
theorem dX4_next_229 : decode cX4_next 229 = .ok (.iconst 1, 1) := by decide +kernel
theorem dX4_next_230 : decode cX4_next 230 = .ok (.iadd, 1) := by decide +kernel
theorem dX4_next_231 : decode cX4_next 231 = .ok (.putfield 66, 3) := by decide +kernel
theorem dX4_next_234 : decode cX4_next 234 = .ok (.goto (-91), 3) := by decide +kernel
theorem dX4_next_237 : decode cX4_next 237 = .ok (.aload_n 0, 1) := by decide +kernel
theorem dX4_next_238 : decode cX4_next 238 = .ok (.getfield 82, 3) := by decide +kernel
theorem dX4_next_241 : decode cX4_next 241 = .ok (.iconst 2, 1) := by decide +kernel
theorem dX4_next_242 : decode cX4_next 242 = .ok (.if_icmp .ne 88, 3) := by decide +kernel
theorem dX4_next_245 : decode cX4_next 245 = .ok (.aload_n 0, 1) := by decide +kernel
theorem dX4_next_246 : decode cX4_next 246 = .ok (.getfield 66, 3) := by decide +kernel
theorem dX4_next_249 : decode cX4_next 249 = .ok (.aload_n 0, 1) := by decide +kernel
theorem dX4_next_250 : decode cX4_next 250 = .ok (.getfield 61, 3) := by decide +kernel
theorem dX4_next_253 : decode cX4_next 253 = .ok (.if_icmp .ge 77, 3) := by decide +kernel
theorem dX4_next_256 : decode cX4_next 256 = .ok (.aload_n 0, 1) := by decide +kernel
theorem dX4_next_257 : decode cX4_next 257 = .ok (.getfield 7, 3) := by decide +kernel
theorem dX4_next_260 : decode cX4_next 260 = .ok (.aload_n 0, 1) := by decide +kernel
theorem dX4_next_261 : decode cX4_next 261 = .ok (.getfield 66, 3) := by decide +kernel
theorem dX4_next_264 : decode cX4_next 264 = .ok (.iaload, 1) := by decide +kernel
theorem dX4_next_265 : decode cX4_next 265 = .ok (.invokestatic 79, 3) := by decide +kernel
theorem dX4_next_268 : decode cX4_next 268 = .ok (.ifCond .eq 62, 3) := by decide +kernel
theorem dX4_next_271 : decode cX4_next 271 = .ok (.aload_n 0, 1) := by decide +kernel
theorem dX4_next_272 : decode cX4_next 272 = .ok (.aload_n 0, 1) := by decide +kernel
theorem dX4_next_273 : decode cX4_next 273 = .ok (.getfield 66, 3) := by decide +kernel
theorem dX4_next_276 : decode cX4_next 276 = .ok (.aload_n 0, 1) := by decide +kernel
theorem dX4_next_277 : decode cX4_next 277 = .ok (.getfield 69, 3) := by decide +kernel
theorem dX4_next_280 : decode cX4_next 280 = .ok (.isub, 1) := by decide +kernel
theorem dX4_next_281 : decode cX4_next 281 = .ok (.iconst 2, 1) := by decide +kernel
theorem dX4_next_282 : decode cX4_next 282 = .ok (.if_icmp .ge 29, 3) := by decide +kernel
theorem dX4_next_285 : decode cX4_next 285 = .ok (.ldc2_w 91, 3) := by decide +kernel
theorem dX4_next_288 : decode cX4_next 288 = .ok (.aload_n 0, 1) := by decide +kernel
theorem dX4_next_289 : decode cX4_next 289 = .ok (.getfield 71, 3) := by decide +kernel
theorem dX4_next_292 : decode cX4_next 292 = .ok (.lmul, 1) := by decide +kernel
theorem dX4_next_293 : decode cX4_next 293 = .ok (.aload_n 0, 1) := by decide +kernel
theorem dX4_next_294 : decode cX4_next 294 = .ok (.getfield 7, 3) := by decide +kernel
theorem dX4_next_297 : decode cX4_next 297 = .ok (.aload_n 0, 1) := by decide +kernel
theorem dX4_next_298 : decode cX4_next 298 = .ok (.getfield 66, 3) := by decide +kernel
theorem dX4_next_301 : decode cX4_next 301 = .ok (.iaload, 1) := by decide +kernel
theorem dX4_next_302 : decode cX4_next 302 = .ok (.i2l, 1) := by decide +kernel
theorem dX4_next_303 : decode cX4_next 303 = .ok (.ladd, 1) := by decide +kernel
theorem dX4_next_304 : decode cX4_next 304 = .ok (.ldc2_w 93, 3) := by decide +kernel
theorem dX4_next_307 : decode cX4_next 307 = .ok (.lsub, 1) := by decide +kernel
theorem dX4_next_308 : decode cX4_next 308 = .ok (.goto 6, 3) := by decide +kernel
theorem dX4_next_311 : decode cX4_next 311 = .ok (.ldc2_w 95, 3) := by decide +kernel
theorem dX4_next_314 : decode cX4_next 314 = .ok (.putfield 71, 3) := by decide +kernel
theorem dX4_next_317 : decode cX4_next 317 = .ok (.aload_n 0, 1) := by decide +kernel
theorem dX4_next_318 : decode cX4_next 318 = .ok (.dup, 1) := by decide +kernel
theorem dX4_next_319 : decode cX4_next 319 = .ok (.getfield 66, 3) := by decide +kernel
theorem dX4_next_322 : decode cX4_next 322 = .ok (.iconst 1, 1) := by decide +kernel
theorem dX4_next_323 : decode cX4_next 323 = .ok (.iadd, 1) := by decide +kernel
theorem dX4_next_324 : decode cX4_next 324 = .ok (.putfield 66, 3) := by decide +kernel
theorem dX4_next_327 : decode cX4_next 327 = .ok (.goto (-90), 3) := by decide +kernel
theorem dX4_next_330 : decode cX4_next 330 = .ok (.aload_n 0, 1) := by decide +kernel
theorem dX4_next_331 : decode cX4_next 331 = .ok (.getfield 82, 3) := by decide +kernel
theorem dX4_next_334 : decode cX4_next 334 = .ok (.iconst 2, 1) := by decide +kernel
theorem dX4_next_335 : decode cX4_next 335 = .ok (.if_icmp .ne 35, 3) := by decide +kernel
theorem dX4_next_338 : decode cX4_next 338 = .ok (.aload_n 0, 1) := by decide +kernel
theorem dX4_next_339 : decode cX4_next 339 = .ok (.getfield 7, 3) := by decide +kernel
theorem dX4_next_342 : decode cX4_next 342 = .ok (.aload_n 0, 1) := by decide +kernel
theorem dX4_next_343 : decode cX4_next 343 = .ok (.getfield 69, 3) := by decide +kernel
theorem dX4_next_346 : decode cX4_next 346 = .ok (.iaload, 1) := by decide +kernel
theorem dX4_next_347 : decode cX4_next 347 = .ok (.bipush 48, 2) := by decide +kernel
theorem dX4_next_349 : decode cX4_next 349 = .ok (.if_icmp .ne 21, 3) := by decide +kernel
theorem dX4_next_352 : decode cX4_next 352 = .ok (.aload_n 0, 1) := by decide +kernel
theorem dX4_next_353 : decode cX4_next 353 = .ok (.getfield 66, 3) := by decide +kernel
theorem dX4_next_356 : decode cX4_next 356 = .ok (.aload_n 0, 1) := by decide +kernel
theorem dX4_next_357 : decode cX4_next 357 = .ok (.getfield 69, 3) := by decide +kernel
theorem dX4_next_360 : decode cX4_next 360 = .ok (.isub, 1) := by decide +kernel
theorem dX4_next_361 : decode cX4_next 361 = .ok (.iconst 1, 1) := by decide +kernel
theorem dX4_next_362 : decode cX4_next 362 = .ok (.if_icmp .le 8, 3) := by decide +kernel
theorem dX4_next_365 : decode cX4_next 365 = .ok (.aload_n 0, 1) := by decide +kernel
theorem dX4_next_366 : decode cX4_next 366 = .ok (.iconst 4, 1) := by decide +kernel
theorem dX4_next_367 : decode cX4_next 367 = .ok (.putfield 82, 3) := by decide +kernel
theorem dX4_next_370 : decode cX4_next 370 = .ok (.return_, 1) := by decide +kernel
set_option maxRecDepth 20000 in
theorem ggX4_takes_X4_next : GoodIn wsX4_takes wsX4_next := goodIn_r _ [7, 8, 9, 10, 11, 2, 1, 12, 13, 14, 15, 16, 17, 18, 19, 6, 20, 21, 22, 23, 27, 28, 29, 30, 31, 32, 33, 34, 35, 36, 37, 38, 39, 40, 41, 42, 43, 44, 45, 46, 47, 48, 49] (by decide +kernel) (by decide +kernel)
set_option maxRecDepth 20000 in
theorem gX4_takes_X4_next : GoodIn wsX4_takes (wsV RX4 97 RX4 yX4_next wsX4_next) := goodIn_app (goodIn_of _ (by decide +kernel)) ggX4_takes_X4_next
set_option maxRecDepth 20000 in
theorem ggX4_takes_X4_in : GoodIn wsX4_takes wsX4_in := goodIn_r _ [26] (by decide +kernel) (by decide +kernel)
set_option maxRecDepth 20000 in
theorem gX4_takes_X4_in : GoodIn wsX4_takes (va_wsS RX4 57 yX4_in wsX4_in) := goodIn_app (goodIn_of _ (by decide +kernel)) ggX4_takes_X4_in
theorem dX4_takes_0 : decode cX4_takes 0 = .ok (.aload_n 0, 1) := by decide +kernel
theorem dX4_takes_1 : decode cX4_takes 1 = .ok (.invokevirtual 97, 3) := by decide +kernel
theorem dX4_takes_4 : decode cX4_takes 4 = .ok (.aload_n 0, 1) := by decide +kernel
theorem dX4_takes_5 : decode cX4_takes 5 = .ok (.getfield 82, 3) := by decide +kernel
theorem dX4_takes_8 : decode cX4_takes 8 = .ok (.iconst 2, 1) := by decide +kernel
theorem dX4_takes_9 : decode cX4_takes 9 = .ok (.if_icmp .ne 21, 3) := by decide +kernel
theorem dX4_takes_12 : decode cX4_takes 12 = .ok (.aload_n 0, 1) := by decide +kernel
theorem dX4_takes_13 : decode cX4_takes 13 = .ok (.getfield 71, 3) := by decide +kernel
theorem dX4_takes_16 : decode cX4_takes 16 = .ok (.iload_n 1, 1) := by decide +kernel
theorem dX4_takes_17 : decode cX4_takes 17 = .ok (.i2l, 1) := by decide +kernel
theorem dX4_takes_18 : decode cX4_takes 18 = .ok (.iload_n 2, 1) := by decide +kernel
theorem dX4_takes_19 : decode cX4_takes 19 = .ok (.i2l, 1) := by decide +kernel
theorem dX4_takes_20 : decode cX4_takes 20 = .ok (.invokestatic 57, 3) := by decide +kernel
theorem dX4_takes_23 : decode cX4_takes 23 = .ok (.ifCond .eq 7, 3) := by decide +kernel
theorem dX4_takes_26 : decode cX4_takes 26 = .ok (.iconst 1, 1) := by decide +kernel
theorem dX4_takes_27 : decode cX4_takes 27 = .ok (.goto 4, 3) := by decide +kernel
theorem dX4_takes_30 : decode cX4_takes 30 = .ok (.iconst 0, 1) := by decide +kernel
theorem dX4_takes_31 : decode cX4_takes 31 = .ok (.ireturn, 1) := by decide +kernel
set_option maxRecDepth 20000 in
theorem ggX4_stops_X4_next : GoodIn wsX4_stops wsX4_next := goodIn_r _ [6, 7, 8, 9, 10, 11, 1, 12, 13, 14, 15, 16, 17, 18, 19, 5, 20, 21, 22, 23, 24, 25, 26, 27, 28, 29, 30, 31, 32, 33, 34, 35, 36, 37, 38, 39, 40, 41, 42, 43, 44, 45, 46] (by decide +kernel) (by decide +kernel)
set_option maxRecDepth 20000 in
theorem gX4_stops_X4_next : GoodIn wsX4_stops (wsV RX4 97 RX4 yX4_next wsX4_next) := goodIn_app (goodIn_of _ (by decide +kernel)) ggX4_stops_X4_next
theorem dX4_stops_0 : decode cX4_stops 0 = .ok (.aload_n 0, 1) := by decide +kernel
theorem dX4_stops_1 : decode cX4_stops 1 = .ok (.invokevirtual 97, 3) := by decide +kernel
theorem dX4_stops_4 : decode cX4_stops 4 = .ok (.aload_n 0, 1) := by decide +kernel
theorem dX4_stops_5 : decode cX4_stops 5 = .ok (.getfield 82, 3) := by decide +kernel
theorem dX4_stops_8 : decode cX4_stops 8 = .ok (.iconst 3, 1) := by decide +kernel
theorem dX4_stops_9 : decode cX4_stops 9 = .ok (.if_icmp .ne 7, 3) := by decide +kernel
theorem dX4_stops_12 : decode cX4_stops 12 = .ok (.iconst 1, 1) := by decide +kernel
theorem dX4_stops_13 : decode cX4_stops 13 = .ok (.goto 4, 3) := by decide +kernel
theorem dX4_stops_16 : decode cX4_stops 16 = .ok (.iconst 0, 1) := by decide +kernel
theorem dX4_stops_17 : decode cX4_stops 17 = .ok (.ireturn, 1) := by decide +kernel
theorem dX4_readParts_0 : decode cX4_readParts 0 = .ok (.aload_n 0, 1) := by decide +kernel
theorem dX4_readParts_1 : decode cX4_readParts 1 = .ok (.getfield 42, 3) := by decide +kernel
theorem dX4_readParts_4 : decode cX4_readParts 4 = .ok (.iconst 0, 1) := by decide +kernel
theorem dX4_readParts_5 : decode cX4_readParts 5 = .ok (.iaload, 1) := by decide +kernel
theorem dX4_readParts_6 : decode cX4_readParts 6 = .ok (.ifCond .ge 7, 3) := by decide +kernel
theorem dX4_readParts_9 : decode cX4_readParts 9 = .ok (.iconst 5, 1) := by decide +kernel
theorem dX4_readParts_10 : decode cX4_readParts 10 = .ok (.goto 9, 3) := by decide +kernel
theorem dX4_readParts_13 : decode cX4_readParts 13 = .ok (.aload_n 0, 1) := by decide +kernel
theorem dX4_readParts_14 : decode cX4_readParts 14 = .ok (.getfield 42, 3) := by decide +kernel
theorem dX4_readParts_17 : decode cX4_readParts 17 = .ok (.iconst 0, 1) := by decide +kernel
theorem dX4_readParts_18 : decode cX4_readParts 18 = .ok (.iaload, 1) := by decide +kernel
theorem dX4_readParts_19 : decode cX4_readParts 19 = .ok (.ireturn, 1) := by decide +kernel
set_option maxRecDepth 20000 in
theorem ggX4_takesTold_X4_readParts : GoodIn wsX4_takesTold wsX4_readParts := goodIn_r _ [9, 2, 42, 43, 44, 45, 46, 47, 48, 49, 50, 51, 52, 53, 54, 55, 56, 57, 58, 59, 60, 61, 62, 63, 64] (by decide +kernel) (by decide +kernel)
set_option maxRecDepth 20000 in
theorem gX4_takesTold_X4_readParts : GoodIn wsX4_takesTold (wsV RX4 103 RX4 yX4_readParts wsX4_readParts) := goodIn_app (goodIn_of _ (by decide +kernel)) ggX4_takesTold_X4_readParts
set_option maxRecDepth 20000 in
theorem ggX4_takesTold_X4_takes : GoodIn wsX4_takesTold wsX4_takes := goodIn_r _ [13, 14, 3, 15, 16, 17, 8, 18, 19, 20, 21, 22, 23, 24, 25, 26, 27, 28, 29, 30, 31, 32, 33, 34, 35, 36, 37, 42, 43, 44, 45, 46, 47, 48, 49, 50, 51, 52, 53, 54, 55, 56, 57, 58, 59, 60, 61, 62, 63, 64] (by decide +kernel) (by decide +kernel)
set_option maxRecDepth 20000 in
theorem gX4_takesTold_X4_takes : GoodIn wsX4_takesTold (wsV RX4 107 RX4 yX4_takes wsX4_takes) := goodIn_app (goodIn_of _ (by decide +kernel)) ggX4_takesTold_X4_takes
set_option maxRecDepth 20000 in
theorem ggX4_takesTold_X4_stops : GoodIn wsX4_takesTold wsX4_stops := goodIn_r _ [41, 14, 15, 16, 17, 8, 18, 19, 20, 21, 22, 3, 23, 24, 25, 26, 27, 28, 29, 30, 31, 32, 33, 34, 42, 43, 44, 45, 46, 47, 48, 49, 50, 51, 52, 53, 54, 55, 56, 57, 58, 59, 60, 61, 62, 63, 64] (by decide +kernel) (by decide +kernel)
set_option maxRecDepth 20000 in
theorem gX4_takesTold_X4_stops : GoodIn wsX4_takesTold (wsV RX4 111 RX4 yX4_stops wsX4_stops) := goodIn_app (goodIn_of _ (by decide +kernel)) ggX4_takesTold_X4_stops
theorem dX4_takesTold_0 : decode cX4_takesTold 0 = .ok (.aload_n 0, 1) := by decide +kernel
theorem dX4_takesTold_1 : decode cX4_takesTold 1 = .ok (.getfield 100, 3) := by decide +kernel
theorem dX4_takesTold_4 : decode cX4_takesTold 4 = .ok (.ifCond .gt 25, 3) := by decide +kernel
theorem dX4_takesTold_7 : decode cX4_takesTold 7 = .ok (.aload_n 0, 1) := by decide +kernel
theorem dX4_takesTold_8 : decode cX4_takesTold 8 = .ok (.getfield 42, 3) := by decide +kernel
theorem dX4_takesTold_11 : decode cX4_takesTold 11 = .ok (.iload_n 1, 1) := by decide +kernel
theorem dX4_takesTold_12 : decode cX4_takesTold 12 = .ok (.iaload, 1) := by decide +kernel
theorem dX4_takesTold_13 : decode cX4_takesTold 13 = .ok (.ifCond .ge 16, 3) := by decide +kernel
theorem dX4_takesTold_16 : decode cX4_takesTold 16 = .ok (.iload_n 1, 1) := by decide +kernel
theorem dX4_takesTold_17 : decode cX4_takesTold 17 = .ok (.ifCond .ne 14, 3) := by decide +kernel
theorem dX4_takesTold_20 : decode cX4_takesTold 20 = .ok (.aload_n 0, 1) := by decide +kernel
theorem dX4_takesTold_21 : decode cX4_takesTold 21 = .ok (.getfield 42, 3) := by decide +kernel
theorem dX4_takesTold_24 : decode cX4_takesTold 24 = .ok (.iconst 1, 1) := by decide +kernel
theorem dX4_takesTold_25 : decode cX4_takesTold 25 = .ok (.iaload, 1) := by decide +kernel
theorem dX4_takesTold_26 : decode cX4_takesTold 26 = .ok (.ifCond .lt 5, 3) := by decide +kernel
theorem dX4_takesTold_29 : decode cX4_takesTold 29 = .ok (.iconst 0, 1) := by decide +kernel
theorem dX4_takesTold_30 : decode cX4_takesTold 30 = .ok (.ireturn, 1) := by decide +kernel
theorem dX4_takesTold_31 : decode cX4_takesTold 31 = .ok (.iload_n 1, 1) := by decide +kernel
theorem dX4_takesTold_32 : decode cX4_takesTold 32 = .ok (.ifCond .ne 7, 3) := by decide +kernel
theorem dX4_takesTold_35 : decode cX4_takesTold 35 = .ok (.iconst 3, 1) := by decide +kernel
theorem dX4_takesTold_36 : decode cX4_takesTold 36 = .ok (.goto 13, 3) := by decide +kernel
theorem dX4_takesTold_39 : decode cX4_takesTold 39 = .ok (.iload_n 1, 1) := by decide +kernel
theorem dX4_takesTold_40 : decode cX4_takesTold 40 = .ok (.iconst 1, 1) := by decide +kernel
theorem dX4_takesTold_41 : decode cX4_takesTold 41 = .ok (.if_icmp .ne 7, 3) := by decide +kernel
theorem dX4_takesTold_44 : decode cX4_takesTold 44 = .ok (.iconst 1, 1) := by decide +kernel
theorem dX4_takesTold_45 : decode cX4_takesTold 45 = .ok (.goto 4, 3) := by decide +kernel
theorem dX4_takesTold_48 : decode cX4_takesTold 48 = .ok (.iconst 0, 1) := by decide +kernel
theorem dX4_takesTold_49 : decode cX4_takesTold 49 = .ok (.istore_n 2, 1) := by decide +kernel
theorem dX4_takesTold_50 : decode cX4_takesTold 50 = .ok (.iload_n 1, 1) := by decide +kernel
theorem dX4_takesTold_51 : decode cX4_takesTold 51 = .ok (.ifCond .ne 8, 3) := by decide +kernel
theorem dX4_takesTold_54 : decode cX4_takesTold 54 = .ok (.bipush 63, 2) := by decide +kernel
theorem dX4_takesTold_56 : decode cX4_takesTold 56 = .ok (.goto 29, 3) := by decide +kernel
theorem dX4_takesTold_59 : decode cX4_takesTold 59 = .ok (.iload_n 1, 1) := by decide +kernel
theorem dX4_takesTold_60 : decode cX4_takesTold 60 = .ok (.iconst 1, 1) := by decide +kernel
theorem dX4_takesTold_61 : decode cX4_takesTold 61 = .ok (.if_icmp .ne 12, 3) := by decide +kernel
theorem dX4_takesTold_64 : decode cX4_takesTold 64 = .ok (.aload_n 0, 1) := by decide +kernel
theorem dX4_takesTold_65 : decode cX4_takesTold 65 = .ok (.invokevirtual 103, 3) := by decide +kernel
theorem dX4_takesTold_68 : decode cX4_takesTold 68 = .ok (.iconst 1, 1) := by decide +kernel
theorem dX4_takesTold_69 : decode cX4_takesTold 69 = .ok (.isub, 1) := by decide +kernel
theorem dX4_takesTold_70 : decode cX4_takesTold 70 = .ok (.goto 15, 3) := by decide +kernel
theorem dX4_takesTold_73 : decode cX4_takesTold 73 = .ok (.iload_n 1, 1) := by decide +kernel
theorem dX4_takesTold_74 : decode cX4_takesTold 74 = .ok (.iconst 2, 1) := by decide +kernel
theorem dX4_takesTold_75 : decode cX4_takesTold 75 = .ok (.if_icmp .ne 8, 3) := by decide +kernel
theorem dX4_takesTold_78 : decode cX4_takesTold 78 = .ok (.bipush 99, 2) := by decide +kernel
theorem dX4_takesTold_80 : decode cX4_takesTold 80 = .ok (.goto 5, 3) := by decide +kernel
theorem dX4_takesTold_83 : decode cX4_takesTold 83 = .ok (.bipush 9, 2) := by decide +kernel
theorem dX4_takesTold_85 : decode cX4_takesTold 85 = .ok (.istore_n 3, 1) := by decide +kernel
theorem dX4_takesTold_86 : decode cX4_takesTold 86 = .ok (.aload_n 0, 1) := by decide +kernel
theorem dX4_takesTold_87 : decode cX4_takesTold 87 = .ok (.iload_n 2, 1) := by decide +kernel
theorem dX4_takesTold_88 : decode cX4_takesTold 88 = .ok (.iload_n 3, 1) := by decide +kernel
theorem dX4_takesTold_89 : decode cX4_takesTold 89 = .ok (.invokevirtual 107, 3) := by decide +kernel
theorem dX4_takesTold_92 : decode cX4_takesTold 92 = .ok (.ifCond .eq 20, 3) := by decide +kernel
theorem dX4_takesTold_95 : decode cX4_takesTold 95 = .ok (.iload_n 1, 1) := by decide +kernel
theorem dX4_takesTold_96 : decode cX4_takesTold 96 = .ok (.ifCond .ne 18, 3) := by decide +kernel
theorem dX4_takesTold_99 : decode cX4_takesTold 99 = .ok (.aload_n 0, 1) := by decide +kernel
theorem dX4_takesTold_100 : decode cX4_takesTold 100 = .ok (.getfield 71, 3) := by decide +kernel
theorem dX4_takesTold_103 : decode cX4_takesTold 103 = .ok (.ldc2_w 53, 3) := by decide +kernel
theorem dX4_takesTold_106 : decode cX4_takesTold 106 = .ok (.lrem, 1) := by decide +kernel
theorem dX4_takesTold_107 : decode cX4_takesTold 107 = .ok (.lconst 0, 1) := by decide +kernel
theorem dX4_takesTold_108 : decode cX4_takesTold 108 = .ok (.lcmp, 1) := by decide +kernel
theorem dX4_takesTold_109 : decode cX4_takesTold 109 = .ok (.ifCond .ne 5, 3) := by decide +kernel
theorem dX4_takesTold_112 : decode cX4_takesTold 112 = .ok (.iconst 0, 1) := by decide +kernel
theorem dX4_takesTold_113 : decode cX4_takesTold 113 = .ok (.ireturn, 1) := by decide +kernel
theorem dX4_takesTold_114 : decode cX4_takesTold 114 = .ok (.aload_n 0, 1) := by decide +kernel
theorem dX4_takesTold_115 : decode cX4_takesTold 115 = .ok (.getfield 42, 3) := by decide +kernel
theorem dX4_takesTold_118 : decode cX4_takesTold 118 = .ok (.iload_n 1, 1) := by decide +kernel
theorem dX4_takesTold_119 : decode cX4_takesTold 119 = .ok (.aload_n 0, 1) := by decide +kernel
theorem dX4_takesTold_120 : decode cX4_takesTold 120 = .ok (.getfield 71, 3) := by decide +kernel
theorem dX4_takesTold_123 : decode cX4_takesTold 123 = .ok (.l2i, 1) := by decide +kernel
theorem dX4_takesTold_124 : decode cX4_takesTold 124 = .ok (.iastore, 1) := by decide +kernel
theorem dX4_takesTold_125 : decode cX4_takesTold 125 = .ok (.aload_n 0, 1) := by decide +kernel
theorem dX4_takesTold_126 : decode cX4_takesTold 126 = .ok (.invokevirtual 111, 3) := by decide +kernel
theorem dX4_takesTold_129 : decode cX4_takesTold 129 = .ok (.ireturn, 1) := by decide +kernel
set_option maxRecDepth 20000 in
theorem ggX4_takesFold_X4_takes : GoodIn wsX4_takesFold wsX4_takes := goodIn_r _ [8, 9, 2, 10, 11, 12, 7, 13, 14, 15, 16, 17, 18, 19, 20, 21, 22, 23, 24, 25, 26, 27, 28, 29, 30, 31, 32, 37, 38, 39, 40, 41, 42, 43, 44, 45, 46, 47, 48, 49, 50, 51, 52, 53, 54, 55, 56, 57, 58, 59] (by decide +kernel) (by decide +kernel)
set_option maxRecDepth 20000 in
theorem gX4_takesFold_X4_takes : GoodIn wsX4_takesFold (wsV RX4 107 RX4 yX4_takes wsX4_takes) := goodIn_app (goodIn_of _ (by decide +kernel)) ggX4_takesFold_X4_takes
set_option maxRecDepth 20000 in
theorem ggX4_takesFold_X4_stops : GoodIn wsX4_takesFold wsX4_stops := goodIn_r _ [36, 9, 10, 11, 12, 7, 13, 14, 15, 16, 17, 2, 18, 19, 20, 21, 22, 23, 24, 25, 26, 27, 28, 29, 37, 38, 39, 40, 41, 42, 43, 44, 45, 46, 47, 48, 49, 50, 51, 52, 53, 54, 55, 56, 57, 58, 59] (by decide +kernel) (by decide +kernel)
set_option maxRecDepth 20000 in
theorem gX4_takesFold_X4_stops : GoodIn wsX4_takesFold (wsV RX4 111 RX4 yX4_stops wsX4_stops) := goodIn_app (goodIn_of _ (by decide +kernel)) ggX4_takesFold_X4_stops
theorem dX4_takesFold_0 : decode cX4_takesFold 0 = .ok (.aload_n 0, 1) := by decide +kernel
theorem dX4_takesFold_1 : decode cX4_takesFold 1 = .ok (.getfield 100, 3) := by decide +kernel
theorem dX4_takesFold_4 : decode cX4_takesFold 4 = .ok (.bipush 20, 2) := by decide +kernel
theorem dX4_takesFold_6 : decode cX4_takesFold 6 = .ok (.if_icmp .eq 17, 3) := by decide +kernel
theorem dX4_takesFold_9 : decode cX4_takesFold 9 = .ok (.aload_n 0, 1) := by decide +kernel
theorem dX4_takesFold_10 : decode cX4_takesFold 10 = .ok (.iconst 0, 1) := by decide +kernel
theorem dX4_takesFold_11 : decode cX4_takesFold 11 = .ok (.aload_n 0, 1) := by decide +kernel
theorem dX4_takesFold_12 : decode cX4_takesFold 12 = .ok (.getfield 100, 3) := by decide +kernel
theorem dX4_takesFold_15 : decode cX4_takesFold 15 = .ok (.iconst 2, 1) := by decide +kernel
theorem dX4_takesFold_16 : decode cX4_takesFold 16 = .ok (.iadd, 1) := by decide +kernel
theorem dX4_takesFold_17 : decode cX4_takesFold 17 = .ok (.invokevirtual 107, 3) := by decide +kernel
theorem dX4_takesFold_20 : decode cX4_takesFold 20 = .ok (.ifCond .ne 5, 3) := by decide +kernel
theorem dX4_takesFold_23 : decode cX4_takesFold 23 = .ok (.iconst 0, 1) := by decide +kernel
theorem dX4_takesFold_24 : decode cX4_takesFold 24 = .ok (.ireturn, 1) := by decide +kernel
theorem dX4_takesFold_25 : decode cX4_takesFold 25 = .ok (.aload_n 0, 1) := by decide +kernel
theorem dX4_takesFold_26 : decode cX4_takesFold 26 = .ok (.getfield 71, 3) := by decide +kernel
theorem dX4_takesFold_29 : decode cX4_takesFold 29 = .ok (.l2i, 1) := by decide +kernel
theorem dX4_takesFold_30 : decode cX4_takesFold 30 = .ok (.istore_n 1, 1) := by decide +kernel
theorem dX4_takesFold_31 : decode cX4_takesFold 31 = .ok (.aload_n 0, 1) := by decide +kernel
theorem dX4_takesFold_32 : decode cX4_takesFold 32 = .ok (.iconst 0, 1) := by decide +kernel
theorem dX4_takesFold_33 : decode cX4_takesFold 33 = .ok (.aload_n 0, 1) := by decide +kernel
theorem dX4_takesFold_34 : decode cX4_takesFold 34 = .ok (.getfield 100, 3) := by decide +kernel
theorem dX4_takesFold_37 : decode cX4_takesFold 37 = .ok (.iconst 2, 1) := by decide +kernel
theorem dX4_takesFold_38 : decode cX4_takesFold 38 = .ok (.iadd, 1) := by decide +kernel
theorem dX4_takesFold_39 : decode cX4_takesFold 39 = .ok (.invokevirtual 107, 3) := by decide +kernel
theorem dX4_takesFold_42 : decode cX4_takesFold 42 = .ok (.ifCond .eq 13, 3) := by decide +kernel
theorem dX4_takesFold_45 : decode cX4_takesFold 45 = .ok (.aload_n 0, 1) := by decide +kernel
theorem dX4_takesFold_46 : decode cX4_takesFold 46 = .ok (.getfield 71, 3) := by decide +kernel
theorem dX4_takesFold_49 : decode cX4_takesFold 49 = .ok (.iload_n 1, 1) := by decide +kernel
theorem dX4_takesFold_50 : decode cX4_takesFold 50 = .ok (.i2l, 1) := by decide +kernel
theorem dX4_takesFold_51 : decode cX4_takesFold 51 = .ok (.lcmp, 1) := by decide +kernel
theorem dX4_takesFold_52 : decode cX4_takesFold 52 = .ok (.ifCond .ne 5, 3) := by decide +kernel
theorem dX4_takesFold_55 : decode cX4_takesFold 55 = .ok (.iconst 0, 1) := by decide +kernel
theorem dX4_takesFold_56 : decode cX4_takesFold 56 = .ok (.ireturn, 1) := by decide +kernel
theorem dX4_takesFold_57 : decode cX4_takesFold 57 = .ok (.aload_n 0, 1) := by decide +kernel
theorem dX4_takesFold_58 : decode cX4_takesFold 58 = .ok (.getfield 45, 3) := by decide +kernel
theorem dX4_takesFold_61 : decode cX4_takesFold 61 = .ok (.iconst 2, 1) := by decide +kernel
theorem dX4_takesFold_62 : decode cX4_takesFold 62 = .ok (.aload_n 0, 1) := by decide +kernel
theorem dX4_takesFold_63 : decode cX4_takesFold 63 = .ok (.getfield 100, 3) := by decide +kernel
theorem dX4_takesFold_66 : decode cX4_takesFold 66 = .ok (.imul, 1) := by decide +kernel
theorem dX4_takesFold_67 : decode cX4_takesFold 67 = .ok (.iload_n 1, 1) := by decide +kernel
theorem dX4_takesFold_68 : decode cX4_takesFold 68 = .ok (.iastore, 1) := by decide +kernel
theorem dX4_takesFold_69 : decode cX4_takesFold 69 = .ok (.aload_n 0, 1) := by decide +kernel
theorem dX4_takesFold_70 : decode cX4_takesFold 70 = .ok (.getfield 45, 3) := by decide +kernel
theorem dX4_takesFold_73 : decode cX4_takesFold 73 = .ok (.iconst 2, 1) := by decide +kernel
theorem dX4_takesFold_74 : decode cX4_takesFold 74 = .ok (.aload_n 0, 1) := by decide +kernel
theorem dX4_takesFold_75 : decode cX4_takesFold 75 = .ok (.getfield 100, 3) := by decide +kernel
theorem dX4_takesFold_78 : decode cX4_takesFold 78 = .ok (.imul, 1) := by decide +kernel
theorem dX4_takesFold_79 : decode cX4_takesFold 79 = .ok (.iconst 1, 1) := by decide +kernel
theorem dX4_takesFold_80 : decode cX4_takesFold 80 = .ok (.iadd, 1) := by decide +kernel
theorem dX4_takesFold_81 : decode cX4_takesFold 81 = .ok (.aload_n 0, 1) := by decide +kernel
theorem dX4_takesFold_82 : decode cX4_takesFold 82 = .ok (.getfield 71, 3) := by decide +kernel
theorem dX4_takesFold_85 : decode cX4_takesFold 85 = .ok (.l2i, 1) := by decide +kernel
theorem dX4_takesFold_86 : decode cX4_takesFold 86 = .ok (.iastore, 1) := by decide +kernel
theorem dX4_takesFold_87 : decode cX4_takesFold 87 = .ok (.aload_n 0, 1) := by decide +kernel
theorem dX4_takesFold_88 : decode cX4_takesFold 88 = .ok (.dup, 1) := by decide +kernel
theorem dX4_takesFold_89 : decode cX4_takesFold 89 = .ok (.getfield 100, 3) := by decide +kernel
theorem dX4_takesFold_92 : decode cX4_takesFold 92 = .ok (.iconst 1, 1) := by decide +kernel
theorem dX4_takesFold_93 : decode cX4_takesFold 93 = .ok (.iadd, 1) := by decide +kernel
theorem dX4_takesFold_94 : decode cX4_takesFold 94 = .ok (.putfield 100, 3) := by decide +kernel
theorem dX4_takesFold_97 : decode cX4_takesFold 97 = .ok (.aload_n 0, 1) := by decide +kernel
theorem dX4_takesFold_98 : decode cX4_takesFold 98 = .ok (.invokevirtual 111, 3) := by decide +kernel
theorem dX4_takesFold_101 : decode cX4_takesFold 101 = .ok (.ireturn, 1) := by decide +kernel
set_option maxRecDepth 20000 in
theorem ggX4_takesAll_X4_next : GoodIn wsX4_takesAll wsX4_next := goodIn_r _ [15, 1, 16, 17, 18, 5, 4, 19, 20, 21, 22, 23, 24, 25, 26, 14, 27, 28, 29, 30, 56, 57, 58, 59, 60, 61, 62, 63, 64, 65, 66, 67, 68, 69, 70, 71, 72, 73, 74, 75, 76, 77, 78] (by decide +kernel) (by decide +kernel)
set_option maxRecDepth 20000 in
theorem gX4_takesAll_X4_next : GoodIn wsX4_takesAll (wsV RX4 97 RX4 yX4_next wsX4_next) := goodIn_app (goodIn_of _ (by decide +kernel)) ggX4_takesAll_X4_next
set_option maxRecDepth 20000 in
theorem ggX4_takesAll_X4_takesFold : GoodIn wsX4_takesAll wsX4_takesFold := goodIn_r _ [34, 2, 5, 35, 36, 37, 38, 14, 39, 4, 11, 12, 13, 15, 1, 16, 17, 18, 19, 20, 21, 22, 23, 24, 25, 26, 27, 28, 29, 30, 40, 41, 42, 43, 44, 45, 46, 56, 57, 58, 59, 60, 61, 62, 63, 64, 65, 66, 67, 68, 69, 70, 71, 72, 73, 74, 75, 76, 77, 78] (by decide +kernel) (by decide +kernel)
set_option maxRecDepth 20000 in
theorem gX4_takesAll_X4_takesFold : GoodIn wsX4_takesAll (wsV RX4 125 RX4 yX4_takesFold wsX4_takesFold) := goodIn_app (goodIn_of _ (by decide +kernel)) ggX4_takesAll_X4_takesFold
set_option maxRecDepth 20000 in
theorem ggX4_takesAll_X4_takesTold : GoodIn wsX4_takesAll wsX4_takesTold := goodIn_r _ [50, 2, 3, 5, 51, 52, 53, 54, 14, 55, 36, 37, 38, 39, 4, 11, 12, 13, 15, 1, 16, 17, 18, 19, 20, 21, 22, 23, 24, 25, 26, 27, 28, 29, 30, 40, 41, 42, 43, 44, 45, 46, 56, 57, 58, 59, 60, 61, 62, 63, 64, 65, 66, 67, 68, 69, 70, 71, 72, 73, 74, 75, 76, 77, 78] (by decide +kernel) (by decide +kernel)
set_option maxRecDepth 20000 in
theorem gX4_takesAll_X4_takesTold : GoodIn wsX4_takesAll (wsV RX4 128 RX4 yX4_takesTold wsX4_takesTold) := goodIn_app (goodIn_of _ (by decide +kernel)) ggX4_takesAll_X4_takesTold
theorem dX4_takesAll_0 : decode cX4_takesAll 0 = .ok (.aload_n 0, 1) := by decide +kernel
theorem dX4_takesAll_1 : decode cX4_takesAll 1 = .ok (.iconst 0, 1) := by decide +kernel
theorem dX4_takesAll_2 : decode cX4_takesAll 2 = .ok (.putfield 66, 3) := by decide +kernel
theorem dX4_takesAll_5 : decode cX4_takesAll 5 = .ok (.aload_n 0, 1) := by decide +kernel
theorem dX4_takesAll_6 : decode cX4_takesAll 6 = .ok (.iconst 0, 1) := by decide +kernel
theorem dX4_takesAll_7 : decode cX4_takesAll 7 = .ok (.putfield 100, 3) := by decide +kernel
theorem dX4_takesAll_10 : decode cX4_takesAll 10 = .ok (.iconst 0, 1) := by decide +kernel
theorem dX4_takesAll_11 : decode cX4_takesAll 11 = .ok (.istore_n 1, 1) := by decide +kernel
theorem dX4_takesAll_12 : decode cX4_takesAll 12 = .ok (.iload_n 1, 1) := by decide +kernel
theorem dX4_takesAll_13 : decode cX4_takesAll 13 = .ok (.iconst 4, 1) := by decide +kernel
theorem dX4_takesAll_14 : decode cX4_takesAll 14 = .ok (.if_icmp .ge 16, 3) := by decide +kernel
theorem dX4_takesAll_17 : decode cX4_takesAll 17 = .ok (.aload_n 0, 1) := by decide +kernel
theorem dX4_takesAll_18 : decode cX4_takesAll 18 = .ok (.getfield 42, 3) := by decide +kernel
theorem dX4_takesAll_21 : decode cX4_takesAll 21 = .ok (.iload_n 1, 1) := by decide +kernel
theorem dX4_takesAll_22 : decode cX4_takesAll 22 = .ok (.iconst (-1), 1) := by decide +kernel
theorem dX4_takesAll_23 : decode cX4_takesAll 23 = .ok (.iastore, 1) := by decide +kernel
theorem dX4_takesAll_24 : decode cX4_takesAll 24 = .ok (.iinc 1 1, 3) := by decide +kernel
theorem dX4_takesAll_27 : decode cX4_takesAll 27 = .ok (.goto (-15), 3) := by decide +kernel
theorem dX4_takesAll_30 : decode cX4_takesAll 30 = .ok (.iconst 0, 1) := by decide +kernel
theorem dX4_takesAll_31 : decode cX4_takesAll 31 = .ok (.istore_n 1, 1) := by decide +kernel
theorem dX4_takesAll_32 : decode cX4_takesAll 32 = .ok (.aload_n 0, 1) := by decide +kernel
theorem dX4_takesAll_33 : decode cX4_takesAll 33 = .ok (.invokevirtual 97, 3) := by decide +kernel
theorem dX4_takesAll_36 : decode cX4_takesAll 36 = .ok (.aload_n 0, 1) := by decide +kernel
theorem dX4_takesAll_37 : decode cX4_takesAll 37 = .ok (.getfield 82, 3) := by decide +kernel
theorem dX4_takesAll_40 : decode cX4_takesAll 40 = .ok (.ifCond .eq 131, 3) := by decide +kernel
theorem dX4_takesAll_43 : decode cX4_takesAll 43 = .ok (.aload_n 0, 1) := by decide +kernel
theorem dX4_takesAll_44 : decode cX4_takesAll 44 = .ok (.getfield 82, 3) := by decide +kernel
theorem dX4_takesAll_47 : decode cX4_takesAll 47 = .ok (.iconst 1, 1) := by decide +kernel
theorem dX4_takesAll_48 : decode cX4_takesAll 48 = .ok (.if_icmp .eq 7, 3) := by decide +kernel
theorem dX4_takesAll_51 : decode cX4_takesAll 51 = .ok (.iconst (-1), 1) := by decide +kernel
theorem dX4_takesAll_52 : decode cX4_takesAll 52 = .ok (.goto 79, 3) := by decide +kernel
theorem dX4_takesAll_55 : decode cX4_takesAll 55 = .ok (.aload_n 0, 1) := by decide +kernel
theorem dX4_takesAll_56 : decode cX4_takesAll 56 = .ok (.getfield 71, 3) := by decide +kernel
theorem dX4_takesAll_59 : decode cX4_takesAll 59 = .ok (.ldc2_w 115, 3) := by decide +kernel
theorem dX4_takesAll_62 : decode cX4_takesAll 62 = .ok (.lcmp, 1) := by decide +kernel
theorem dX4_takesAll_63 : decode cX4_takesAll 63 = .ok (.ifCond .ne 7, 3) := by decide +kernel
theorem dX4_takesAll_66 : decode cX4_takesAll 66 = .ok (.iconst 0, 1) := by decide +kernel
theorem dX4_takesAll_67 : decode cX4_takesAll 67 = .ok (.goto 64, 3) := by decide +kernel
theorem dX4_takesAll_70 : decode cX4_takesAll 70 = .ok (.aload_n 0, 1) := by decide +kernel
theorem dX4_takesAll_71 : decode cX4_takesAll 71 = .ok (.getfield 71, 3) := by decide +kernel
theorem dX4_takesAll_74 : decode cX4_takesAll 74 = .ok (.ldc2_w 117, 3) := by decide +kernel
theorem dX4_takesAll_77 : decode cX4_takesAll 77 = .ok (.lcmp, 1) := by decide +kernel
theorem dX4_takesAll_78 : decode cX4_takesAll 78 = .ok (.ifCond .ne 7, 3) := by decide +kernel
theorem dX4_takesAll_81 : decode cX4_takesAll 81 = .ok (.iconst 1, 1) := by decide +kernel
theorem dX4_takesAll_82 : decode cX4_takesAll 82 = .ok (.goto 49, 3) := by decide +kernel
theorem dX4_takesAll_85 : decode cX4_takesAll 85 = .ok (.aload_n 0, 1) := by decide +kernel
theorem dX4_takesAll_86 : decode cX4_takesAll 86 = .ok (.getfield 71, 3) := by decide +kernel
theorem dX4_takesAll_89 : decode cX4_takesAll 89 = .ok (.ldc2_w 119, 3) := by decide +kernel
theorem dX4_takesAll_92 : decode cX4_takesAll 92 = .ok (.lcmp, 1) := by decide +kernel
theorem dX4_takesAll_93 : decode cX4_takesAll 93 = .ok (.ifCond .ne 7, 3) := by decide +kernel
theorem dX4_takesAll_96 : decode cX4_takesAll 96 = .ok (.iconst 2, 1) := by decide +kernel
theorem dX4_takesAll_97 : decode cX4_takesAll 97 = .ok (.goto 34, 3) := by decide +kernel
theorem dX4_takesAll_100 : decode cX4_takesAll 100 = .ok (.aload_n 0, 1) := by decide +kernel
theorem dX4_takesAll_101 : decode cX4_takesAll 101 = .ok (.getfield 71, 3) := by decide +kernel
theorem dX4_takesAll_104 : decode cX4_takesAll 104 = .ok (.ldc2_w 121, 3) := by decide +kernel
theorem dX4_takesAll_107 : decode cX4_takesAll 107 = .ok (.lcmp, 1) := by decide +kernel
theorem dX4_takesAll_108 : decode cX4_takesAll 108 = .ok (.ifCond .ne 7, 3) := by decide +kernel
theorem dX4_takesAll_111 : decode cX4_takesAll 111 = .ok (.iconst 3, 1) := by decide +kernel
theorem dX4_takesAll_112 : decode cX4_takesAll 112 = .ok (.goto 19, 3) := by decide +kernel
theorem dX4_takesAll_115 : decode cX4_takesAll 115 = .ok (.aload_n 0, 1) := by decide +kernel
theorem dX4_takesAll_116 : decode cX4_takesAll 116 = .ok (.getfield 71, 3) := by decide +kernel
theorem dX4_takesAll_119 : decode cX4_takesAll 119 = .ok (.ldc2_w 123, 3) := by decide +kernel
theorem dX4_takesAll_122 : decode cX4_takesAll 122 = .ok (.lcmp, 1) := by decide +kernel
theorem dX4_takesAll_123 : decode cX4_takesAll 123 = .ok (.ifCond .ne 7, 3) := by decide +kernel
theorem dX4_takesAll_126 : decode cX4_takesAll 126 = .ok (.iconst 4, 1) := by decide +kernel
theorem dX4_takesAll_127 : decode cX4_takesAll 127 = .ok (.goto 4, 3) := by decide +kernel
theorem dX4_takesAll_130 : decode cX4_takesAll 130 = .ok (.iconst (-1), 1) := by decide +kernel
theorem dX4_takesAll_131 : decode cX4_takesAll 131 = .ok (.istore_n 2, 1) := by decide +kernel
theorem dX4_takesAll_132 : decode cX4_takesAll 132 = .ok (.iload_n 2, 1) := by decide +kernel
theorem dX4_takesAll_133 : decode cX4_takesAll 133 = .ok (.ifCond .lt 26, 3) := by decide +kernel
theorem dX4_takesAll_136 : decode cX4_takesAll 136 = .ok (.iload_n 2, 1) := by decide +kernel
theorem dX4_takesAll_137 : decode cX4_takesAll 137 = .ok (.iconst 4, 1) := by decide +kernel
theorem dX4_takesAll_138 : decode cX4_takesAll 138 = .ok (.if_icmp .ne 13, 3) := by decide +kernel
theorem dX4_takesAll_141 : decode cX4_takesAll 141 = .ok (.aload_n 0, 1) := by decide +kernel
theorem dX4_takesAll_142 : decode cX4_takesAll 142 = .ok (.invokevirtual 125, 3) := by decide +kernel
theorem dX4_takesAll_145 : decode cX4_takesAll 145 = .ok (.ifCond .eq 14, 3) := by decide +kernel
theorem dX4_takesAll_148 : decode cX4_takesAll 148 = .ok (.goto 13, 3) := by decide +kernel
theorem dX4_takesAll_151 : decode cX4_takesAll 151 = .ok (.aload_n 0, 1) := by decide +kernel
theorem dX4_takesAll_152 : decode cX4_takesAll 152 = .ok (.iload_n 2, 1) := by decide +kernel
theorem dX4_takesAll_153 : decode cX4_takesAll 153 = .ok (.invokevirtual 128, 3) := by decide +kernel
theorem dX4_takesAll_156 : decode cX4_takesAll 156 = .ok (.ifCond .ne 5, 3) := by decide +kernel
theorem dX4_takesAll_159 : decode cX4_takesAll 159 = .ok (.iconst (-1), 1) := by decide +kernel
theorem dX4_takesAll_160 : decode cX4_takesAll 160 = .ok (.ireturn, 1) := by decide +kernel
theorem dX4_takesAll_161 : decode cX4_takesAll 161 = .ok (.iinc 1 1, 3) := by decide +kernel
theorem dX4_takesAll_164 : decode cX4_takesAll 164 = .ok (.aload_n 0, 1) := by decide +kernel
theorem dX4_takesAll_165 : decode cX4_takesAll 165 = .ok (.invokevirtual 97, 3) := by decide +kernel
theorem dX4_takesAll_168 : decode cX4_takesAll 168 = .ok (.goto (-132), 3) := by decide +kernel
theorem dX4_takesAll_171 : decode cX4_takesAll 171 = .ok (.iload_n 1, 1) := by decide +kernel
theorem dX4_takesAll_172 : decode cX4_takesAll 172 = .ok (.ireturn, 1) := by decide +kernel
set_option maxRecDepth 20000 in
theorem ggX4_strip_X4_takesAll : GoodIn wsX4_strip wsX4_takesAll := goodIn_r _ [17, 18, 7, 3, 19, 20, 21, 22, 23, 24, 25, 26, 27, 28, 16, 29, 12, 30, 1, 31, 32, 33, 34, 35, 36, 37, 38, 39, 40, 41, 42, 43, 44, 45, 46, 8, 47, 48, 49, 50, 51, 52, 53, 54, 55, 56, 57, 58, 59, 60, 61, 62, 63, 64, 65, 66, 80, 81, 82, 83, 84, 85, 86, 87, 88, 89, 90, 91, 92, 93, 94, 95, 96, 97, 98, 99, 100, 101, 102] (by decide +kernel) (by decide +kernel)
set_option maxRecDepth 20000 in
theorem gX4_strip_X4_takesAll : GoodIn wsX4_strip (wsV RX4 131 RX4 yX4_takesAll wsX4_takesAll) := goodIn_app (goodIn_of _ (by decide +kernel)) ggX4_strip_X4_takesAll
set_option maxRecDepth 20000 in
theorem ggX4_strip_X4_readParts : GoodIn wsX4_strip wsX4_readParts := goodIn_r _ [66, 3, 80, 81, 82, 83, 84, 85, 86, 87, 88, 89, 90, 91, 92, 93, 94, 95, 96, 97, 98, 99, 100, 101, 102] (by decide +kernel) (by decide +kernel)
set_option maxRecDepth 20000 in
theorem gX4_strip_X4_readParts : GoodIn wsX4_strip (wsV RX4 103 RX4 yX4_readParts wsX4_readParts) := goodIn_app (goodIn_of _ (by decide +kernel)) ggX4_strip_X4_readParts
set_option maxRecDepth 20000 in
theorem ggX4_strip_X4_begin : GoodIn wsX4_strip wsX4_begin := goodIn_r _ [70, 71, 72, 2, 4, 73, 74, 75, 80, 81, 82, 83, 84, 85, 86, 87, 88, 89, 90, 91, 92, 93, 94, 95, 96, 97, 98, 99, 100, 101, 102] (by decide +kernel) (by decide +kernel)
set_option maxRecDepth 20000 in
theorem gX4_strip_X4_begin : GoodIn wsX4_strip (wsV RX4 48 RX4 yX4_begin wsX4_begin) := goodIn_app (goodIn_of _ (by decide +kernel)) ggX4_strip_X4_begin
set_option maxRecDepth 20000 in
theorem ggX4_strip_X4_folds : GoodIn wsX4_strip wsX4_folds := goodIn_r _ [79, 72, 71, 62, 74, 75, 73, 80, 81, 82, 83, 84, 85, 86, 87, 88, 89, 90, 91, 92, 93, 94, 95, 96, 97, 98, 99, 100, 101, 102] (by decide +kernel) (by decide +kernel)
set_option maxRecDepth 20000 in
theorem gX4_strip_X4_folds : GoodIn wsX4_strip (wsV RX4 140 RX4 yX4_folds wsX4_folds) := goodIn_app (goodIn_of _ (by decide +kernel)) ggX4_strip_X4_folds
theorem dX4_strip_0 : decode cX4_strip 0 = .ok (.aload_n 0, 1) := by decide +kernel
theorem dX4_strip_1 : decode cX4_strip 1 = .ok (.invokevirtual 131, 3) := by decide +kernel
theorem dX4_strip_4 : decode cX4_strip 4 = .ok (.istore_n 1, 1) := by decide +kernel
theorem dX4_strip_5 : decode cX4_strip 5 = .ok (.iload_n 1, 1) := by decide +kernel
theorem dX4_strip_6 : decode cX4_strip 6 = .ok (.ifCond .ge 11, 3) := by decide +kernel
theorem dX4_strip_9 : decode cX4_strip 9 = .ok (.bipush (-10), 2) := by decide +kernel
theorem dX4_strip_11 : decode cX4_strip 11 = .ok (.aload_n 0, 1) := by decide +kernel
theorem dX4_strip_12 : decode cX4_strip 12 = .ok (.getfield 69, 3) := by decide +kernel
theorem dX4_strip_15 : decode cX4_strip 15 = .ok (.isub, 1) := by decide +kernel
theorem dX4_strip_16 : decode cX4_strip 16 = .ok (.ireturn, 1) := by decide +kernel
theorem dX4_strip_17 : decode cX4_strip 17 = .ok (.aload_n 0, 1) := by decide +kernel
theorem dX4_strip_18 : decode cX4_strip 18 = .ok (.aload_n 0, 1) := by decide +kernel
theorem dX4_strip_19 : decode cX4_strip 19 = .ok (.invokevirtual 103, 3) := by decide +kernel
theorem dX4_strip_22 : decode cX4_strip 22 = .ok (.putfield 13, 3) := by decide +kernel
theorem dX4_strip_25 : decode cX4_strip 25 = .ok (.aload_n 0, 1) := by decide +kernel
theorem dX4_strip_26 : decode cX4_strip 26 = .ok (.aload_n 0, 1) := by decide +kernel
theorem dX4_strip_27 : decode cX4_strip 27 = .ok (.getfield 42, 3) := by decide +kernel
theorem dX4_strip_30 : decode cX4_strip 30 = .ok (.iconst 1, 1) := by decide +kernel
theorem dX4_strip_31 : decode cX4_strip 31 = .ok (.iaload, 1) := by decide +kernel
theorem dX4_strip_32 : decode cX4_strip 32 = .ok (.ifCond .ge 7, 3) := by decide +kernel
theorem dX4_strip_35 : decode cX4_strip 35 = .ok (.iconst 1, 1) := by decide +kernel
theorem dX4_strip_36 : decode cX4_strip 36 = .ok (.goto 9, 3) := by decide +kernel
theorem dX4_strip_39 : decode cX4_strip 39 = .ok (.aload_n 0, 1) := by decide +kernel
theorem dX4_strip_40 : decode cX4_strip 40 = .ok (.getfield 42, 3) := by decide +kernel
theorem dX4_strip_43 : decode cX4_strip 43 = .ok (.iconst 1, 1) := by decide +kernel
theorem dX4_strip_44 : decode cX4_strip 44 = .ok (.iaload, 1) := by decide +kernel
theorem dX4_strip_45 : decode cX4_strip 45 = .ok (.putfield 17, 3) := by decide +kernel
theorem dX4_strip_48 : decode cX4_strip 48 = .ok (.aload_n 0, 1) := by decide +kernel
theorem dX4_strip_49 : decode cX4_strip 49 = .ok (.aload_n 0, 1) := by decide +kernel
theorem dX4_strip_50 : decode cX4_strip 50 = .ok (.getfield 42, 3) := by decide +kernel
theorem dX4_strip_53 : decode cX4_strip 53 = .ok (.iconst 2, 1) := by decide +kernel
theorem dX4_strip_54 : decode cX4_strip 54 = .ok (.iaload, 1) := by decide +kernel
theorem dX4_strip_55 : decode cX4_strip 55 = .ok (.ifCond .ge 7, 3) := by decide +kernel
theorem dX4_strip_58 : decode cX4_strip 58 = .ok (.iconst 0, 1) := by decide +kernel
theorem dX4_strip_59 : decode cX4_strip 59 = .ok (.goto 9, 3) := by decide +kernel
theorem dX4_strip_62 : decode cX4_strip 62 = .ok (.aload_n 0, 1) := by decide +kernel
theorem dX4_strip_63 : decode cX4_strip 63 = .ok (.getfield 42, 3) := by decide +kernel
theorem dX4_strip_66 : decode cX4_strip 66 = .ok (.iconst 2, 1) := by decide +kernel
theorem dX4_strip_67 : decode cX4_strip 67 = .ok (.iaload, 1) := by decide +kernel
theorem dX4_strip_68 : decode cX4_strip 68 = .ok (.putfield 134, 3) := by decide +kernel
theorem dX4_strip_71 : decode cX4_strip 71 = .ok (.aload_n 0, 1) := by decide +kernel
theorem dX4_strip_72 : decode cX4_strip 72 = .ok (.aload_n 0, 1) := by decide +kernel
theorem dX4_strip_73 : decode cX4_strip 73 = .ok (.getfield 42, 3) := by decide +kernel
theorem dX4_strip_76 : decode cX4_strip 76 = .ok (.iconst 3, 1) := by decide +kernel
theorem dX4_strip_77 : decode cX4_strip 77 = .ok (.iaload, 1) := by decide +kernel
theorem dX4_strip_78 : decode cX4_strip 78 = .ok (.ifCond .ge 7, 3) := by decide +kernel
theorem dX4_strip_81 : decode cX4_strip 81 = .ok (.iconst 0, 1) := by decide +kernel
theorem dX4_strip_82 : decode cX4_strip 82 = .ok (.goto 9, 3) := by decide +kernel
theorem dX4_strip_85 : decode cX4_strip 85 = .ok (.aload_n 0, 1) := by decide +kernel
theorem dX4_strip_86 : decode cX4_strip 86 = .ok (.getfield 42, 3) := by decide +kernel
theorem dX4_strip_89 : decode cX4_strip 89 = .ok (.iconst 3, 1) := by decide +kernel
theorem dX4_strip_90 : decode cX4_strip 90 = .ok (.iaload, 1) := by decide +kernel
theorem dX4_strip_91 : decode cX4_strip 91 = .ok (.putfield 137, 3) := by decide +kernel
theorem dX4_strip_94 : decode cX4_strip 94 = .ok (.aload_n 0, 1) := by decide +kernel
theorem dX4_strip_95 : decode cX4_strip 95 = .ok (.invokevirtual 48, 3) := by decide +kernel
theorem dX4_strip_98 : decode cX4_strip 98 = .ok (.iconst 0, 1) := by decide +kernel
theorem dX4_strip_99 : decode cX4_strip 99 = .ok (.istore_n 2, 1) := by decide +kernel
theorem dX4_strip_100 : decode cX4_strip 100 = .ok (.iload_n 2, 1) := by decide +kernel
theorem dX4_strip_101 : decode cX4_strip 101 = .ok (.aload_n 0, 1) := by decide +kernel
theorem dX4_strip_102 : decode cX4_strip 102 = .ok (.getfield 100, 3) := by decide +kernel
theorem dX4_strip_105 : decode cX4_strip 105 = .ok (.if_icmp .ge 31, 3) := by decide +kernel
theorem dX4_strip_108 : decode cX4_strip 108 = .ok (.aload_n 0, 1) := by decide +kernel
theorem dX4_strip_109 : decode cX4_strip 109 = .ok (.aload_n 0, 1) := by decide +kernel
theorem dX4_strip_110 : decode cX4_strip 110 = .ok (.getfield 45, 3) := by decide +kernel
theorem dX4_strip_113 : decode cX4_strip 113 = .ok (.iconst 2, 1) := by decide +kernel
theorem dX4_strip_114 : decode cX4_strip 114 = .ok (.iload_n 2, 1) := by decide +kernel
theorem dX4_strip_115 : decode cX4_strip 115 = .ok (.imul, 1) := by decide +kernel
theorem dX4_strip_116 : decode cX4_strip 116 = .ok (.iaload, 1) := by decide +kernel
theorem dX4_strip_117 : decode cX4_strip 117 = .ok (.aload_n 0, 1) := by decide +kernel
theorem dX4_strip_118 : decode cX4_strip 118 = .ok (.getfield 45, 3) := by decide +kernel
theorem dX4_strip_121 : decode cX4_strip 121 = .ok (.iconst 2, 1) := by decide +kernel
theorem dX4_strip_122 : decode cX4_strip 122 = .ok (.iload_n 2, 1) := by decide +kernel
theorem dX4_strip_123 : decode cX4_strip 123 = .ok (.imul, 1) := by decide +kernel
theorem dX4_strip_124 : decode cX4_strip 124 = .ok (.iconst 1, 1) := by decide +kernel
theorem dX4_strip_125 : decode cX4_strip 125 = .ok (.iadd, 1) := by decide +kernel
theorem dX4_strip_126 : decode cX4_strip 126 = .ok (.iaload, 1) := by decide +kernel
theorem dX4_strip_127 : decode cX4_strip 127 = .ok (.invokevirtual 140, 3) := by decide +kernel
theorem dX4_strip_130 : decode cX4_strip 130 = .ok (.iinc 2 1, 3) := by decide +kernel
theorem dX4_strip_133 : decode cX4_strip 133 = .ok (.goto (-33), 3) := by decide +kernel
theorem dX4_strip_136 : decode cX4_strip 136 = .ok (.aload_n 0, 1) := by decide +kernel
theorem dX4_strip_137 : decode cX4_strip 137 = .ok (.iconst 0, 1) := by decide +kernel
theorem dX4_strip_138 : decode cX4_strip 138 = .ok (.putfield 144, 3) := by decide +kernel
theorem dX4_strip_141 : decode cX4_strip 141 = .ok (.aload_n 0, 1) := by decide +kernel
theorem dX4_strip_142 : decode cX4_strip 142 = .ok (.iconst 0, 1) := by decide +kernel
theorem dX4_strip_143 : decode cX4_strip 143 = .ok (.putfield 147, 3) := by decide +kernel
theorem dX4_strip_146 : decode cX4_strip 146 = .ok (.aload_n 0, 1) := by decide +kernel
theorem dX4_strip_147 : decode cX4_strip 147 = .ok (.getfield 39, 3) := by decide +kernel
theorem dX4_strip_150 : decode cX4_strip 150 = .ok (.iconst 0, 1) := by decide +kernel
theorem dX4_strip_151 : decode cX4_strip 151 = .ok (.lconst 0, 1) := by decide +kernel
theorem dX4_strip_152 : decode cX4_strip 152 = .ok (.lastore, 1) := by decide +kernel
theorem dX4_strip_153 : decode cX4_strip 153 = .ok (.aload_n 0, 1) := by decide +kernel
theorem dX4_strip_154 : decode cX4_strip 154 = .ok (.getfield 39, 3) := by decide +kernel
theorem dX4_strip_157 : decode cX4_strip 157 = .ok (.bipush 100, 2) := by decide +kernel
theorem dX4_strip_159 : decode cX4_strip 159 = .ok (.lconst 0, 1) := by decide +kernel
theorem dX4_strip_160 : decode cX4_strip 160 = .ok (.lastore, 1) := by decide +kernel
theorem dX4_strip_161 : decode cX4_strip 161 = .ok (.aload_n 0, 1) := by decide +kernel
theorem dX4_strip_162 : decode cX4_strip 162 = .ok (.iconst 0, 1) := by decide +kernel
theorem dX4_strip_163 : decode cX4_strip 163 = .ok (.putfield 61, 3) := by decide +kernel
theorem dX4_strip_166 : decode cX4_strip 166 = .ok (.iload_n 1, 1) := by decide +kernel
theorem dX4_strip_167 : decode cX4_strip 167 = .ok (.ireturn, 1) := by decide +kernel
set_option maxRecDepth 20000 in
theorem ggX4_isCrease_X4_in : GoodIn wsX4_isCrease wsX4_in := goodIn_r _ [5] (by decide +kernel) (by decide +kernel)
set_option maxRecDepth 20000 in
theorem gX4_isCrease_X4_in : GoodIn wsX4_isCrease (va_wsS RX4 57 yX4_in wsX4_in) := goodIn_app (goodIn_of _ (by decide +kernel)) ggX4_isCrease_X4_in
theorem dX4_isCrease_0 : decode cX4_isCrease 0 = .ok (.iload_n 1, 1) := by decide +kernel
theorem dX4_isCrease_1 : decode cX4_isCrease 1 = .ok (.i2l, 1) := by decide +kernel
theorem dX4_isCrease_2 : decode cX4_isCrease 2 = .ok (.lconst 0, 1) := by decide +kernel
theorem dX4_isCrease_3 : decode cX4_isCrease 3 = .ok (.aload_n 0, 1) := by decide +kernel
theorem dX4_isCrease_4 : decode cX4_isCrease 4 = .ok (.getfield 20, 3) := by decide +kernel
theorem dX4_isCrease_7 : decode cX4_isCrease 7 = .ok (.iconst 1, 1) := by decide +kernel
theorem dX4_isCrease_8 : decode cX4_isCrease 8 = .ok (.isub, 1) := by decide +kernel
theorem dX4_isCrease_9 : decode cX4_isCrease 9 = .ok (.i2l, 1) := by decide +kernel
theorem dX4_isCrease_10 : decode cX4_isCrease 10 = .ok (.invokestatic 57, 3) := by decide +kernel
theorem dX4_isCrease_13 : decode cX4_isCrease 13 = .ok (.ireturn, 1) := by decide +kernel
theorem dX4_partOf_0 : decode cX4_partOf 0 = .ok (.aload_n 0, 1) := by decide +kernel
theorem dX4_partOf_1 : decode cX4_partOf 1 = .ok (.getfield 23, 3) := by decide +kernel
theorem dX4_partOf_4 : decode cX4_partOf 4 = .ok (.iload_n 1, 1) := by decide +kernel
theorem dX4_partOf_5 : decode cX4_partOf 5 = .ok (.laload, 1) := by decide +kernel
theorem dX4_partOf_6 : decode cX4_partOf 6 = .ok (.ldc2_w 51, 3) := by decide +kernel
theorem dX4_partOf_9 : decode cX4_partOf 9 = .ok (.lrem, 1) := by decide +kernel
theorem dX4_partOf_10 : decode cX4_partOf 10 = .ok (.lconst 0, 1) := by decide +kernel
theorem dX4_partOf_11 : decode cX4_partOf 11 = .ok (.lcmp, 1) := by decide +kernel
theorem dX4_partOf_12 : decode cX4_partOf 12 = .ok (.ifCond .ne 17, 3) := by decide +kernel
theorem dX4_partOf_15 : decode cX4_partOf 15 = .ok (.aload_n 0, 1) := by decide +kernel
theorem dX4_partOf_16 : decode cX4_partOf 16 = .ok (.getfield 23, 3) := by decide +kernel
theorem dX4_partOf_19 : decode cX4_partOf 19 = .ok (.iload_n 1, 1) := by decide +kernel
theorem dX4_partOf_20 : decode cX4_partOf 20 = .ok (.laload, 1) := by decide +kernel
theorem dX4_partOf_21 : decode cX4_partOf 21 = .ok (.ldc2_w 51, 3) := by decide +kernel
theorem dX4_partOf_24 : decode cX4_partOf 24 = .ok (.ldiv, 1) := by decide +kernel
theorem dX4_partOf_25 : decode cX4_partOf 25 = .ok (.l2i, 1) := by decide +kernel
theorem dX4_partOf_26 : decode cX4_partOf 26 = .ok (.goto 5, 3) := by decide +kernel
theorem dX4_partOf_29 : decode cX4_partOf 29 = .ok (.bipush (-9), 2) := by decide +kernel
theorem dX4_partOf_31 : decode cX4_partOf 31 = .ok (.ireturn, 1) := by decide +kernel
theorem dX4_least_0 : decode cX4_least 0 = .ok (.lload_n 0, 1) := by decide +kernel
theorem dX4_least_1 : decode cX4_least 1 = .ok (.lstore 5, 2) := by decide +kernel
theorem dX4_least_3 : decode cX4_least 3 = .ok (.lload_n 2, 1) := by decide +kernel
theorem dX4_least_4 : decode cX4_least 4 = .ok (.lstore 7, 2) := by decide +kernel
theorem dX4_least_6 : decode cX4_least 6 = .ok (.lload 7, 2) := by decide +kernel
theorem dX4_least_8 : decode cX4_least 8 = .ok (.lconst 0, 1) := by decide +kernel
theorem dX4_least_9 : decode cX4_least 9 = .ok (.lcmp, 1) := by decide +kernel
theorem dX4_least_10 : decode cX4_least 10 = .ok (.ifCond .eq 21, 3) := by decide +kernel
theorem dX4_least_13 : decode cX4_least 13 = .ok (.lload 5, 2) := by decide +kernel
theorem dX4_least_15 : decode cX4_least 15 = .ok (.lload 7, 2) := by decide +kernel
theorem dX4_least_17 : decode cX4_least 17 = .ok (.lrem, 1) := by decide +kernel
theorem dX4_least_18 : decode cX4_least 18 = .ok (.lstore 9, 2) := by decide +kernel
theorem dX4_least_20 : decode cX4_least 20 = .ok (.lload 7, 2) := by decide +kernel
theorem dX4_least_22 : decode cX4_least 22 = .ok (.lstore 5, 2) := by decide +kernel
theorem dX4_least_24 : decode cX4_least 24 = .ok (.lload 9, 2) := by decide +kernel
theorem dX4_least_26 : decode cX4_least 26 = .ok (.lstore 7, 2) := by decide +kernel
theorem dX4_least_28 : decode cX4_least 28 = .ok (.goto (-22), 3) := by decide +kernel
theorem dX4_least_31 : decode cX4_least 31 = .ok (.iload 4, 2) := by decide +kernel
theorem dX4_least_33 : decode cX4_least 33 = .ok (.ifCond .eq 10, 3) := by decide +kernel
theorem dX4_least_36 : decode cX4_least 36 = .ok (.lload_n 0, 1) := by decide +kernel
theorem dX4_least_37 : decode cX4_least 37 = .ok (.lload 5, 2) := by decide +kernel
theorem dX4_least_39 : decode cX4_least 39 = .ok (.ldiv, 1) := by decide +kernel
theorem dX4_least_40 : decode cX4_least 40 = .ok (.goto 7, 3) := by decide +kernel
theorem dX4_least_43 : decode cX4_least 43 = .ok (.lload_n 2, 1) := by decide +kernel
theorem dX4_least_44 : decode cX4_least 44 = .ok (.lload 5, 2) := by decide +kernel
theorem dX4_least_46 : decode cX4_least 46 = .ok (.ldiv, 1) := by decide +kernel
theorem dX4_least_47 : decode cX4_least 47 = .ok (.lreturn, 1) := by decide +kernel
set_option maxRecDepth 20000 in
theorem ggX4_crease_X4_isCrease : GoodIn wsX4_crease wsX4_isCrease := goodIn_r _ [12, 13, 14, 15, 11, 16, 24, 25, 26, 27, 28, 29, 30, 31, 32, 33, 34, 35, 36, 37, 38, 39, 40, 41, 42, 43, 44, 45, 46] (by decide +kernel) (by decide +kernel)
set_option maxRecDepth 20000 in
theorem gX4_crease_X4_isCrease : GoodIn wsX4_crease (wsV RX4 150 RX4 yX4_isCrease wsX4_isCrease) := goodIn_app (goodIn_of _ (by decide +kernel)) ggX4_crease_X4_isCrease
set_option maxRecDepth 20000 in
theorem ggX4_crease_X4_in : GoodIn wsX4_crease wsX4_in := goodIn_r _ [16] (by decide +kernel) (by decide +kernel)
set_option maxRecDepth 20000 in
theorem gX4_crease_X4_in : GoodIn wsX4_crease (va_wsS RX4 57 yX4_in wsX4_in) := goodIn_app (goodIn_of _ (by decide +kernel)) ggX4_crease_X4_in
set_option maxRecDepth 20000 in
theorem ggX4_crease_X4_partOf : GoodIn wsX4_crease wsX4_partOf := goodIn_r _ [20, 3, 7, 24, 25, 26, 27, 28, 29, 30, 31, 32, 33, 34, 35, 36, 37, 38, 39, 40, 41, 42, 43, 44, 45, 46] (by decide +kernel) (by decide +kernel)
set_option maxRecDepth 20000 in
theorem gX4_crease_X4_partOf : GoodIn wsX4_crease (wsV RX4 155 RX4 yX4_partOf wsX4_partOf) := goodIn_app (goodIn_of _ (by decide +kernel)) ggX4_crease_X4_partOf
set_option maxRecDepth 20000 in
theorem ggX4_crease_X4_least : GoodIn wsX4_crease wsX4_least := goodIn_r _ [23] (by decide +kernel) (by decide +kernel)
set_option maxRecDepth 20000 in
theorem gX4_crease_X4_least : GoodIn wsX4_crease (va_wsS RX4 159 yX4_least wsX4_least) := goodIn_app (goodIn_of _ (by decide +kernel)) ggX4_crease_X4_least
theorem dX4_crease_0 : decode cX4_crease 0 = .ok (.aload_n 0, 1) := by decide +kernel
theorem dX4_crease_1 : decode cX4_crease 1 = .ok (.iload_n 1, 1) := by decide +kernel
theorem dX4_crease_2 : decode cX4_crease 2 = .ok (.invokevirtual 150, 3) := by decide +kernel
theorem dX4_crease_5 : decode cX4_crease 5 = .ok (.ifCond .eq 15, 3) := by decide +kernel
theorem dX4_crease_8 : decode cX4_crease 8 = .ok (.iload_n 2, 1) := by decide +kernel
theorem dX4_crease_9 : decode cX4_crease 9 = .ok (.i2l, 1) := by decide +kernel
theorem dX4_crease_10 : decode cX4_crease 10 = .ok (.lconst 0, 1) := by decide +kernel
theorem dX4_crease_11 : decode cX4_crease 11 = .ok (.ldc2_w 153, 3) := by decide +kernel
theorem dX4_crease_14 : decode cX4_crease 14 = .ok (.invokestatic 57, 3) := by decide +kernel
theorem dX4_crease_17 : decode cX4_crease 17 = .ok (.ifCond .ne 7, 3) := by decide +kernel
theorem dX4_crease_20 : decode cX4_crease 20 = .ok (.ldc2_w 89, 3) := by decide +kernel
theorem dX4_crease_23 : decode cX4_crease 23 = .ok (.lreturn, 1) := by decide +kernel
theorem dX4_crease_24 : decode cX4_crease 24 = .ok (.iload_n 2, 1) := by decide +kernel
theorem dX4_crease_25 : decode cX4_crease 25 = .ok (.bipush 6, 2) := by decide +kernel
theorem dX4_crease_27 : decode cX4_crease 27 = .ok (.if_icmp .ne 10, 3) := by decide +kernel
theorem dX4_crease_30 : decode cX4_crease 30 = .ok (.aload_n 0, 1) := by decide +kernel
theorem dX4_crease_31 : decode cX4_crease 31 = .ok (.iload_n 1, 1) := by decide +kernel
theorem dX4_crease_32 : decode cX4_crease 32 = .ok (.invokevirtual 155, 3) := by decide +kernel
theorem dX4_crease_35 : decode cX4_crease 35 = .ok (.i2l, 1) := by decide +kernel
theorem dX4_crease_36 : decode cX4_crease 36 = .ok (.lreturn, 1) := by decide +kernel
theorem dX4_crease_37 : decode cX4_crease 37 = .ok (.iload_n 2, 1) := by decide +kernel
theorem dX4_crease_38 : decode cX4_crease 38 = .ok (.iconst 2, 1) := by decide +kernel
theorem dX4_crease_39 : decode cX4_crease 39 = .ok (.if_icmp .ge 12, 3) := by decide +kernel
theorem dX4_crease_42 : decode cX4_crease 42 = .ok (.aload_n 0, 1) := by decide +kernel
theorem dX4_crease_43 : decode cX4_crease 43 = .ok (.getfield 23, 3) := by decide +kernel
theorem dX4_crease_46 : decode cX4_crease 46 = .ok (.iload_n 1, 1) := by decide +kernel
theorem dX4_crease_47 : decode cX4_crease 47 = .ok (.laload, 1) := by decide +kernel
theorem dX4_crease_48 : decode cX4_crease 48 = .ok (.goto 23, 3) := by decide +kernel
theorem dX4_crease_51 : decode cX4_crease 51 = .ok (.iload_n 2, 1) := by decide +kernel
theorem dX4_crease_52 : decode cX4_crease 52 = .ok (.iconst 4, 1) := by decide +kernel
theorem dX4_crease_53 : decode cX4_crease 53 = .ok (.if_icmp .ge 12, 3) := by decide +kernel
theorem dX4_crease_56 : decode cX4_crease 56 = .ok (.aload_n 0, 1) := by decide +kernel
theorem dX4_crease_57 : decode cX4_crease 57 = .ok (.getfield 27, 3) := by decide +kernel
theorem dX4_crease_60 : decode cX4_crease 60 = .ok (.iload_n 1, 1) := by decide +kernel
theorem dX4_crease_61 : decode cX4_crease 61 = .ok (.laload, 1) := by decide +kernel
theorem dX4_crease_62 : decode cX4_crease 62 = .ok (.goto 9, 3) := by decide +kernel
theorem dX4_crease_65 : decode cX4_crease 65 = .ok (.aload_n 0, 1) := by decide +kernel
theorem dX4_crease_66 : decode cX4_crease 66 = .ok (.getfield 30, 3) := by decide +kernel
theorem dX4_crease_69 : decode cX4_crease 69 = .ok (.iload_n 1, 1) := by decide +kernel
theorem dX4_crease_70 : decode cX4_crease 70 = .ok (.laload, 1) := by decide +kernel
theorem dX4_crease_71 : decode cX4_crease 71 = .ok (.lstore_n 3, 1) := by decide +kernel
theorem dX4_crease_72 : decode cX4_crease 72 = .ok (.lload_n 3, 1) := by decide +kernel
theorem dX4_crease_73 : decode cX4_crease 73 = .ok (.iload_n 2, 1) := by decide +kernel
theorem dX4_crease_74 : decode cX4_crease 74 = .ok (.iconst 2, 1) := by decide +kernel
theorem dX4_crease_75 : decode cX4_crease 75 = .ok (.if_icmp .ge 15, 3) := by decide +kernel
theorem dX4_crease_78 : decode cX4_crease 78 = .ok (.aload_n 0, 1) := by decide +kernel
theorem dX4_crease_79 : decode cX4_crease 79 = .ok (.getfield 13, 3) := by decide +kernel
theorem dX4_crease_82 : decode cX4_crease 82 = .ok (.i2l, 1) := by decide +kernel
theorem dX4_crease_83 : decode cX4_crease 83 = .ok (.ldc2_w 51, 3) := by decide +kernel
theorem dX4_crease_86 : decode cX4_crease 86 = .ok (.lmul, 1) := by decide +kernel
theorem dX4_crease_87 : decode cX4_crease 87 = .ok (.goto 6, 3) := by decide +kernel
theorem dX4_crease_90 : decode cX4_crease 90 = .ok (.ldc2_w 51, 3) := by decide +kernel
theorem dX4_crease_93 : decode cX4_crease 93 = .ok (.iload_n 2, 1) := by decide +kernel
theorem dX4_crease_94 : decode cX4_crease 94 = .ok (.iconst 2, 1) := by decide +kernel
theorem dX4_crease_95 : decode cX4_crease 95 = .ok (.irem, 1) := by decide +kernel
theorem dX4_crease_96 : decode cX4_crease 96 = .ok (.ifCond .ne 7, 3) := by decide +kernel
theorem dX4_crease_99 : decode cX4_crease 99 = .ok (.iconst 1, 1) := by decide +kernel
theorem dX4_crease_100 : decode cX4_crease 100 = .ok (.goto 4, 3) := by decide +kernel
theorem dX4_crease_103 : decode cX4_crease 103 = .ok (.iconst 0, 1) := by decide +kernel
theorem dX4_crease_104 : decode cX4_crease 104 = .ok (.invokestatic 159, 3) := by decide +kernel
theorem dX4_crease_107 : decode cX4_crease 107 = .ok (.lreturn, 1) := by decide +kernel
theorem dX4_told_0 : decode cX4_told 0 = .ok (.iload_n 1, 1) := by decide +kernel
theorem dX4_told_1 : decode cX4_told 1 = .ok (.ifCond .ne 10, 3) := by decide +kernel
theorem dX4_told_4 : decode cX4_told 4 = .ok (.aload_n 0, 1) := by decide +kernel
theorem dX4_told_5 : decode cX4_told 5 = .ok (.getfield 13, 3) := by decide +kernel
theorem dX4_told_8 : decode cX4_told 8 = .ok (.goto 40, 3) := by decide +kernel
theorem dX4_told_11 : decode cX4_told 11 = .ok (.iload_n 1, 1) := by decide +kernel
theorem dX4_told_12 : decode cX4_told 12 = .ok (.iconst 1, 1) := by decide +kernel
theorem dX4_told_13 : decode cX4_told 13 = .ok (.if_icmp .ne 10, 3) := by decide +kernel
theorem dX4_told_16 : decode cX4_told 16 = .ok (.aload_n 0, 1) := by decide +kernel
theorem dX4_told_17 : decode cX4_told 17 = .ok (.getfield 17, 3) := by decide +kernel
theorem dX4_told_20 : decode cX4_told 20 = .ok (.goto 28, 3) := by decide +kernel
theorem dX4_told_23 : decode cX4_told 23 = .ok (.iload_n 1, 1) := by decide +kernel
theorem dX4_told_24 : decode cX4_told 24 = .ok (.iconst 2, 1) := by decide +kernel
theorem dX4_told_25 : decode cX4_told 25 = .ok (.if_icmp .ne 10, 3) := by decide +kernel
theorem dX4_told_28 : decode cX4_told 28 = .ok (.aload_n 0, 1) := by decide +kernel
theorem dX4_told_29 : decode cX4_told 29 = .ok (.getfield 134, 3) := by decide +kernel
theorem dX4_told_32 : decode cX4_told 32 = .ok (.goto 16, 3) := by decide +kernel
theorem dX4_told_35 : decode cX4_told 35 = .ok (.iload_n 1, 1) := by decide +kernel
theorem dX4_told_36 : decode cX4_told 36 = .ok (.iconst 3, 1) := by decide +kernel
theorem dX4_told_37 : decode cX4_told 37 = .ok (.if_icmp .ne 10, 3) := by decide +kernel
theorem dX4_told_40 : decode cX4_told 40 = .ok (.aload_n 0, 1) := by decide +kernel
theorem dX4_told_41 : decode cX4_told 41 = .ok (.getfield 137, 3) := by decide +kernel
theorem dX4_told_44 : decode cX4_told 44 = .ok (.goto 4, 3) := by decide +kernel
theorem dX4_told_47 : decode cX4_told 47 = .ok (.iconst (-1), 1) := by decide +kernel
theorem dX4_told_48 : decode cX4_told 48 = .ok (.ireturn, 1) := by decide +kernel
set_option maxRecDepth 20000 in
theorem ggX4_fold_X4_isCrease : GoodIn wsX4_fold wsX4_isCrease := goodIn_r _ [6, 1, 7, 8, 5, 9, 19, 20, 21, 22, 23, 24, 25, 26, 27, 28, 29, 30, 31, 32, 33, 34, 35, 36, 37, 38, 39, 40, 41] (by decide +kernel) (by decide +kernel)
set_option maxRecDepth 20000 in
theorem gX4_fold_X4_isCrease : GoodIn wsX4_fold (wsV RX4 150 RX4 yX4_isCrease wsX4_isCrease) := goodIn_app (goodIn_of _ (by decide +kernel)) ggX4_fold_X4_isCrease
set_option maxRecDepth 20000 in
theorem ggX4_fold_X4_folds : GoodIn wsX4_fold wsX4_folds := goodIn_r _ [13, 14, 1, 15, 16, 17, 18, 19, 20, 21, 22, 23, 24, 25, 26, 27, 28, 29, 30, 31, 32, 33, 34, 35, 36, 37, 38, 39, 40, 41] (by decide +kernel) (by decide +kernel)
set_option maxRecDepth 20000 in
theorem gX4_fold_X4_folds : GoodIn wsX4_fold (wsV RX4 140 RX4 yX4_folds wsX4_folds) := goodIn_app (goodIn_of _ (by decide +kernel)) ggX4_fold_X4_folds
theorem dX4_fold_0 : decode cX4_fold 0 = .ok (.aload_n 0, 1) := by decide +kernel
theorem dX4_fold_1 : decode cX4_fold 1 = .ok (.iload_n 1, 1) := by decide +kernel
theorem dX4_fold_2 : decode cX4_fold 2 = .ok (.invokevirtual 150, 3) := by decide +kernel
theorem dX4_fold_5 : decode cX4_fold 5 = .ok (.ifCond .eq 16, 3) := by decide +kernel
theorem dX4_fold_8 : decode cX4_fold 8 = .ok (.aload_n 0, 1) := by decide +kernel
theorem dX4_fold_9 : decode cX4_fold 9 = .ok (.iload_n 2, 1) := by decide +kernel
theorem dX4_fold_10 : decode cX4_fold 10 = .ok (.invokevirtual 150, 3) := by decide +kernel
theorem dX4_fold_13 : decode cX4_fold 13 = .ok (.ifCond .eq 8, 3) := by decide +kernel
theorem dX4_fold_16 : decode cX4_fold 16 = .ok (.iload_n 1, 1) := by decide +kernel
theorem dX4_fold_17 : decode cX4_fold 17 = .ok (.iload_n 2, 1) := by decide +kernel
theorem dX4_fold_18 : decode cX4_fold 18 = .ok (.if_icmp .ne 5, 3) := by decide +kernel
theorem dX4_fold_21 : decode cX4_fold 21 = .ok (.iconst (-1), 1) := by decide +kernel
theorem dX4_fold_22 : decode cX4_fold 22 = .ok (.ireturn, 1) := by decide +kernel
theorem dX4_fold_23 : decode cX4_fold 23 = .ok (.aload_n 0, 1) := by decide +kernel
theorem dX4_fold_24 : decode cX4_fold 24 = .ok (.getfield 20, 3) := by decide +kernel
theorem dX4_fold_27 : decode cX4_fold 27 = .ok (.bipush 23, 2) := by decide +kernel
theorem dX4_fold_29 : decode cX4_fold 29 = .ok (.if_icmp .ne 6, 3) := by decide +kernel
theorem dX4_fold_32 : decode cX4_fold 32 = .ok (.bipush (-3), 2) := by decide +kernel
theorem dX4_fold_34 : decode cX4_fold 34 = .ok (.ireturn, 1) := by decide +kernel
theorem dX4_fold_35 : decode cX4_fold 35 = .ok (.aload_n 0, 1) := by decide +kernel
theorem dX4_fold_36 : decode cX4_fold 36 = .ok (.iload_n 1, 1) := by decide +kernel
theorem dX4_fold_37 : decode cX4_fold 37 = .ok (.iload_n 2, 1) := by decide +kernel
theorem dX4_fold_38 : decode cX4_fold 38 = .ok (.invokevirtual 140, 3) := by decide +kernel
theorem dX4_fold_41 : decode cX4_fold 41 = .ok (.aload_n 0, 1) := by decide +kernel
theorem dX4_fold_42 : decode cX4_fold 42 = .ok (.getfield 20, 3) := by decide +kernel
theorem dX4_fold_45 : decode cX4_fold 45 = .ok (.iconst 1, 1) := by decide +kernel
theorem dX4_fold_46 : decode cX4_fold 46 = .ok (.isub, 1) := by decide +kernel
theorem dX4_fold_47 : decode cX4_fold 47 = .ok (.ireturn, 1) := by decide +kernel
set_option maxRecDepth 20000 in
theorem ggX4_isPart_X4_in : GoodIn wsX4_isPart wsX4_in := goodIn_r _ [5] (by decide +kernel) (by decide +kernel)
set_option maxRecDepth 20000 in
theorem gX4_isPart_X4_in : GoodIn wsX4_isPart (va_wsS RX4 57 yX4_in wsX4_in) := goodIn_app (goodIn_of _ (by decide +kernel)) ggX4_isPart_X4_in
theorem dX4_isPart_0 : decode cX4_isPart 0 = .ok (.iload_n 1, 1) := by decide +kernel
theorem dX4_isPart_1 : decode cX4_isPart 1 = .ok (.i2l, 1) := by decide +kernel
theorem dX4_isPart_2 : decode cX4_isPart 2 = .ok (.lconst 1, 1) := by decide +kernel
theorem dX4_isPart_3 : decode cX4_isPart 3 = .ok (.aload_n 0, 1) := by decide +kernel
theorem dX4_isPart_4 : decode cX4_isPart 4 = .ok (.getfield 13, 3) := by decide +kernel
theorem dX4_isPart_7 : decode cX4_isPart 7 = .ok (.iconst 1, 1) := by decide +kernel
theorem dX4_isPart_8 : decode cX4_isPart 8 = .ok (.isub, 1) := by decide +kernel
theorem dX4_isPart_9 : decode cX4_isPart 9 = .ok (.i2l, 1) := by decide +kernel
theorem dX4_isPart_10 : decode cX4_isPart 10 = .ok (.invokestatic 57, 3) := by decide +kernel
theorem dX4_isPart_13 : decode cX4_isPart 13 = .ok (.ireturn, 1) := by decide +kernel
set_option maxRecDepth 20000 in
theorem ggX4_rule_X4_partOf : GoodIn wsX4_rule wsX4_partOf := goodIn_r _ [6, 7, 8, 24, 25, 26, 27, 28, 29, 30, 31, 32, 33, 34, 35, 36, 37, 38, 39, 40, 41, 42, 43, 44, 45, 46] (by decide +kernel) (by decide +kernel)
set_option maxRecDepth 20000 in
theorem gX4_rule_X4_partOf : GoodIn wsX4_rule (wsV RX4 155 RX4 yX4_partOf wsX4_partOf) := goodIn_app (goodIn_of _ (by decide +kernel)) ggX4_rule_X4_partOf
set_option maxRecDepth 20000 in
theorem ggX4_rule_X4_isPart : GoodIn wsX4_rule wsX4_isPart := goodIn_r _ [12, 13, 14, 15, 5, 16, 24, 25, 26, 27, 28, 29, 30, 31, 32, 33, 34, 35, 36, 37, 38, 39, 40, 41, 42, 43, 44, 45, 46] (by decide +kernel) (by decide +kernel)
set_option maxRecDepth 20000 in
theorem gX4_rule_X4_isPart : GoodIn wsX4_rule (wsV RX4 163 RX4 yX4_isPart wsX4_isPart) := goodIn_app (goodIn_of _ (by decide +kernel)) ggX4_rule_X4_isPart
set_option maxRecDepth 20000 in
theorem ggX4_rule_X4_folds : GoodIn wsX4_rule wsX4_folds := goodIn_r _ [20, 7, 1, 21, 22, 23, 8, 24, 25, 26, 27, 28, 29, 30, 31, 32, 33, 34, 35, 36, 37, 38, 39, 40, 41, 42, 43, 44, 45, 46] (by decide +kernel) (by decide +kernel)
set_option maxRecDepth 20000 in
theorem gX4_rule_X4_folds : GoodIn wsX4_rule (wsV RX4 140 RX4 yX4_folds wsX4_folds) := goodIn_app (goodIn_of _ (by decide +kernel)) ggX4_rule_X4_folds
theorem dX4_rule_0 : decode cX4_rule 0 = .ok (.aload_n 0, 1) := by decide +kernel
theorem dX4_rule_1 : decode cX4_rule 1 = .ok (.aload_n 0, 1) := by decide +kernel
theorem dX4_rule_2 : decode cX4_rule 2 = .ok (.getfield 20, 3) := by decide +kernel
theorem dX4_rule_5 : decode cX4_rule 5 = .ok (.iconst 1, 1) := by decide +kernel
theorem dX4_rule_6 : decode cX4_rule 6 = .ok (.isub, 1) := by decide +kernel
theorem dX4_rule_7 : decode cX4_rule 7 = .ok (.invokevirtual 155, 3) := by decide +kernel
theorem dX4_rule_10 : decode cX4_rule 10 = .ok (.istore_n 1, 1) := by decide +kernel
theorem dX4_rule_11 : decode cX4_rule 11 = .ok (.aload_n 0, 1) := by decide +kernel
theorem dX4_rule_12 : decode cX4_rule 12 = .ok (.iload_n 1, 1) := by decide +kernel
theorem dX4_rule_13 : decode cX4_rule 13 = .ok (.invokevirtual 163, 3) := by decide +kernel
theorem dX4_rule_16 : decode cX4_rule 16 = .ok (.ifCond .ne 6, 3) := by decide +kernel
theorem dX4_rule_19 : decode cX4_rule 19 = .ok (.bipush (-2), 2) := by decide +kernel
theorem dX4_rule_21 : decode cX4_rule 21 = .ok (.ireturn, 1) := by decide +kernel
theorem dX4_rule_22 : decode cX4_rule 22 = .ok (.aload_n 0, 1) := by decide +kernel
theorem dX4_rule_23 : decode cX4_rule 23 = .ok (.getfield 20, 3) := by decide +kernel
theorem dX4_rule_26 : decode cX4_rule 26 = .ok (.bipush 23, 2) := by decide +kernel
theorem dX4_rule_28 : decode cX4_rule 28 = .ok (.if_icmp .ne 6, 3) := by decide +kernel
theorem dX4_rule_31 : decode cX4_rule 31 = .ok (.bipush (-3), 2) := by decide +kernel
theorem dX4_rule_33 : decode cX4_rule 33 = .ok (.ireturn, 1) := by decide +kernel
theorem dX4_rule_34 : decode cX4_rule 34 = .ok (.iload_n 1, 1) := by decide +kernel
theorem dX4_rule_35 : decode cX4_rule 35 = .ok (.iconst 2, 1) := by decide +kernel
theorem dX4_rule_36 : decode cX4_rule 36 = .ok (.irem, 1) := by decide +kernel
theorem dX4_rule_37 : decode cX4_rule 37 = .ok (.ifCond .ne 7, 3) := by decide +kernel
theorem dX4_rule_40 : decode cX4_rule 40 = .ok (.iconst 0, 1) := by decide +kernel
theorem dX4_rule_41 : decode cX4_rule 41 = .ok (.goto 4, 3) := by decide +kernel
theorem dX4_rule_44 : decode cX4_rule 44 = .ok (.iconst 1, 1) := by decide +kernel
theorem dX4_rule_45 : decode cX4_rule 45 = .ok (.istore_n 2, 1) := by decide +kernel
theorem dX4_rule_46 : decode cX4_rule 46 = .ok (.aload_n 0, 1) := by decide +kernel
theorem dX4_rule_47 : decode cX4_rule 47 = .ok (.iload_n 2, 1) := by decide +kernel
theorem dX4_rule_48 : decode cX4_rule 48 = .ok (.aload_n 0, 1) := by decide +kernel
theorem dX4_rule_49 : decode cX4_rule 49 = .ok (.getfield 20, 3) := by decide +kernel
theorem dX4_rule_52 : decode cX4_rule 52 = .ok (.iconst 1, 1) := by decide +kernel
theorem dX4_rule_53 : decode cX4_rule 53 = .ok (.isub, 1) := by decide +kernel
theorem dX4_rule_54 : decode cX4_rule 54 = .ok (.invokevirtual 140, 3) := by decide +kernel
theorem dX4_rule_57 : decode cX4_rule 57 = .ok (.iload_n 2, 1) := by decide +kernel
theorem dX4_rule_58 : decode cX4_rule 58 = .ok (.ireturn, 1) := by decide +kernel
theorem dX4_undo_0 : decode cX4_undo 0 = .ok (.aload_n 0, 1) := by decide +kernel
theorem dX4_undo_1 : decode cX4_undo 1 = .ok (.getfield 20, 3) := by decide +kernel
theorem dX4_undo_4 : decode cX4_undo 4 = .ok (.iconst 3, 1) := by decide +kernel
theorem dX4_undo_5 : decode cX4_undo 5 = .ok (.if_icmp .ne 6, 3) := by decide +kernel
theorem dX4_undo_8 : decode cX4_undo 8 = .ok (.bipush (-2), 2) := by decide +kernel
theorem dX4_undo_10 : decode cX4_undo 10 = .ok (.ireturn, 1) := by decide +kernel
theorem dX4_undo_11 : decode cX4_undo 11 = .ok (.aload_n 0, 1) := by decide +kernel
theorem dX4_undo_12 : decode cX4_undo 12 = .ok (.dup, 1) := by decide +kernel
theorem dX4_undo_13 : decode cX4_undo 13 = .ok (.getfield 20, 3) := by decide +kernel
theorem dX4_undo_16 : decode cX4_undo 16 = .ok (.iconst 1, 1) := by decide +kernel
theorem dX4_undo_17 : decode cX4_undo 17 = .ok (.isub, 1) := by decide +kernel
theorem dX4_undo_18 : decode cX4_undo 18 = .ok (.putfield 20, 3) := by decide +kernel
theorem dX4_undo_21 : decode cX4_undo 21 = .ok (.aload_n 0, 1) := by decide +kernel
theorem dX4_undo_22 : decode cX4_undo 22 = .ok (.getfield 20, 3) := by decide +kernel
theorem dX4_undo_25 : decode cX4_undo 25 = .ok (.ireturn, 1) := by decide +kernel
set_option maxRecDepth 20000 in
theorem ggX4_says_X4_isPart : GoodIn wsX4_says wsX4_isPart := goodIn_r _ [5, 6, 7, 8, 4, 9, 10, 11, 12, 13, 14, 15, 16, 17, 18, 19, 20, 21, 22, 23, 24, 25, 26, 27, 28, 29, 30, 31, 32] (by decide +kernel) (by decide +kernel)
set_option maxRecDepth 20000 in
theorem gX4_says_X4_isPart : GoodIn wsX4_says (wsV RX4 163 RX4 yX4_isPart wsX4_isPart) := goodIn_app (goodIn_of _ (by decide +kernel)) ggX4_says_X4_isPart
theorem dX4_says_0 : decode cX4_says 0 = .ok (.aload_n 0, 1) := by decide +kernel
theorem dX4_says_1 : decode cX4_says 1 = .ok (.iload_n 1, 1) := by decide +kernel
theorem dX4_says_2 : decode cX4_says 2 = .ok (.invokevirtual 163, 3) := by decide +kernel
theorem dX4_says_5 : decode cX4_says 5 = .ok (.ifCond .eq 17, 3) := by decide +kernel
theorem dX4_says_8 : decode cX4_says 8 = .ok (.iload_n 1, 1) := by decide +kernel
theorem dX4_says_9 : decode cX4_says 9 = .ok (.iconst 2, 1) := by decide +kernel
theorem dX4_says_10 : decode cX4_says 10 = .ok (.irem, 1) := by decide +kernel
theorem dX4_says_11 : decode cX4_says 11 = .ok (.ifCond .ne 7, 3) := by decide +kernel
theorem dX4_says_14 : decode cX4_says 14 = .ok (.iconst 0, 1) := by decide +kernel
theorem dX4_says_15 : decode cX4_says 15 = .ok (.goto 8, 3) := by decide +kernel
theorem dX4_says_18 : decode cX4_says 18 = .ok (.iconst 1, 1) := by decide +kernel
theorem dX4_says_19 : decode cX4_says 19 = .ok (.goto 4, 3) := by decide +kernel
theorem dX4_says_22 : decode cX4_says 22 = .ok (.iconst (-1), 1) := by decide +kernel
theorem dX4_says_23 : decode cX4_says 23 = .ok (.ireturn, 1) := by decide +kernel
theorem dX4_goes_0 : decode cX4_goes 0 = .ok (.iload_n 0, 1) := by decide +kernel
theorem dX4_goes_1 : decode cX4_goes 1 = .ok (.iconst 2, 1) := by decide +kernel
theorem dX4_goes_2 : decode cX4_goes 2 = .ok (.irem, 1) := by decide +kernel
theorem dX4_goes_3 : decode cX4_goes 3 = .ok (.ifCond .ne 7, 3) := by decide +kernel
theorem dX4_goes_6 : decode cX4_goes 6 = .ok (.iload_n 0, 1) := by decide +kernel
theorem dX4_goes_7 : decode cX4_goes 7 = .ok (.goto 6, 3) := by decide +kernel
theorem dX4_goes_10 : decode cX4_goes 10 = .ok (.iload_n 0, 1) := by decide +kernel
theorem dX4_goes_11 : decode cX4_goes 11 = .ok (.iload_n 1, 1) := by decide +kernel
theorem dX4_goes_12 : decode cX4_goes 12 = .ok (.iadd, 1) := by decide +kernel
theorem dX4_goes_13 : decode cX4_goes 13 = .ok (.iconst 2, 1) := by decide +kernel
theorem dX4_goes_14 : decode cX4_goes 14 = .ok (.idiv, 1) := by decide +kernel
theorem dX4_goes_15 : decode cX4_goes 15 = .ok (.ireturn, 1) := by decide +kernel
set_option maxRecDepth 20000 in
theorem ggX4_foldsTo_X4_goes : GoodIn wsX4_foldsTo wsX4_goes := goodIn_r _ [5] (by decide +kernel) (by decide +kernel)
set_option maxRecDepth 20000 in
theorem gX4_foldsTo_X4_goes : GoodIn wsX4_foldsTo (va_wsS RX4 166 yX4_goes wsX4_goes) := goodIn_app (goodIn_of _ (by decide +kernel)) ggX4_foldsTo_X4_goes
theorem dX4_foldsTo_0 : decode cX4_foldsTo 0 = .ok (.iload_n 1, 1) := by decide +kernel
theorem dX4_foldsTo_1 : decode cX4_foldsTo 1 = .ok (.istore_n 3, 1) := by decide +kernel
theorem dX4_foldsTo_2 : decode cX4_foldsTo 2 = .ok (.iconst 0, 1) := by decide +kernel
theorem dX4_foldsTo_3 : decode cX4_foldsTo 3 = .ok (.istore 4, 2) := by decide +kernel
theorem dX4_foldsTo_5 : decode cX4_foldsTo 5 = .ok (.iload 4, 2) := by decide +kernel
theorem dX4_foldsTo_7 : decode cX4_foldsTo 7 = .ok (.aload_n 0, 1) := by decide +kernel
theorem dX4_foldsTo_8 : decode cX4_foldsTo 8 = .ok (.getfield 13, 3) := by decide +kernel
theorem dX4_foldsTo_11 : decode cX4_foldsTo 11 = .ok (.if_icmp .ge 26, 3) := by decide +kernel
theorem dX4_foldsTo_14 : decode cX4_foldsTo 14 = .ok (.iload_n 3, 1) := by decide +kernel
theorem dX4_foldsTo_15 : decode cX4_foldsTo 15 = .ok (.iload_n 2, 1) := by decide +kernel
theorem dX4_foldsTo_16 : decode cX4_foldsTo 16 = .ok (.if_icmp .ne 6, 3) := by decide +kernel
theorem dX4_foldsTo_19 : decode cX4_foldsTo 19 = .ok (.iload 4, 2) := by decide +kernel
theorem dX4_foldsTo_21 : decode cX4_foldsTo 21 = .ok (.ireturn, 1) := by decide +kernel
theorem dX4_foldsTo_22 : decode cX4_foldsTo 22 = .ok (.iload_n 3, 1) := by decide +kernel
theorem dX4_foldsTo_23 : decode cX4_foldsTo 23 = .ok (.aload_n 0, 1) := by decide +kernel
theorem dX4_foldsTo_24 : decode cX4_foldsTo 24 = .ok (.getfield 13, 3) := by decide +kernel
theorem dX4_foldsTo_27 : decode cX4_foldsTo 27 = .ok (.invokestatic 166, 3) := by decide +kernel
theorem dX4_foldsTo_30 : decode cX4_foldsTo 30 = .ok (.istore_n 3, 1) := by decide +kernel
theorem dX4_foldsTo_31 : decode cX4_foldsTo 31 = .ok (.iinc 4 1, 3) := by decide +kernel
theorem dX4_foldsTo_34 : decode cX4_foldsTo 34 = .ok (.goto (-29), 3) := by decide +kernel
theorem dX4_foldsTo_37 : decode cX4_foldsTo 37 = .ok (.bipush (-9), 2) := by decide +kernel
theorem dX4_foldsTo_39 : decode cX4_foldsTo 39 = .ok (.ireturn, 1) := by decide +kernel
set_option maxRecDepth 20000 in
theorem ggX4_round_X4_isPart : GoodIn wsX4_round wsX4_isPart := goodIn_r _ [6, 1, 7, 8, 5, 9, 17, 18, 19, 20, 21, 22, 23, 24, 25, 26, 27, 28, 29, 30, 31, 32, 33, 34, 35, 36, 37, 38, 39] (by decide +kernel) (by decide +kernel)
set_option maxRecDepth 20000 in
theorem gX4_round_X4_isPart : GoodIn wsX4_round (wsV RX4 163 RX4 yX4_isPart wsX4_isPart) := goodIn_app (goodIn_of _ (by decide +kernel)) ggX4_round_X4_isPart
set_option maxRecDepth 20000 in
theorem ggX4_round_X4_goes : GoodIn wsX4_round wsX4_goes := goodIn_r _ [12] (by decide +kernel) (by decide +kernel)
set_option maxRecDepth 20000 in
theorem gX4_round_X4_goes : GoodIn wsX4_round (va_wsS RX4 166 yX4_goes wsX4_goes) := goodIn_app (goodIn_of _ (by decide +kernel)) ggX4_round_X4_goes
set_option maxRecDepth 20000 in
theorem ggX4_round_X4_foldsTo : GoodIn wsX4_round wsX4_foldsTo := goodIn_r _ [16, 1, 10, 11, 5, 12, 17, 18, 19, 20, 21, 22, 23, 24, 25, 26, 27, 28, 29, 30, 31, 32, 33, 34, 35, 36, 37, 38, 39] (by decide +kernel) (by decide +kernel)
set_option maxRecDepth 20000 in
theorem gX4_round_X4_foldsTo : GoodIn wsX4_round (wsV RX4 170 RX4 yX4_foldsTo wsX4_foldsTo) := goodIn_app (goodIn_of _ (by decide +kernel)) ggX4_round_X4_foldsTo
theorem dX4_round_0 : decode cX4_round 0 = .ok (.aload_n 0, 1) := by decide +kernel
theorem dX4_round_1 : decode cX4_round 1 = .ok (.iload_n 1, 1) := by decide +kernel
theorem dX4_round_2 : decode cX4_round 2 = .ok (.invokevirtual 163, 3) := by decide +kernel
theorem dX4_round_5 : decode cX4_round 5 = .ok (.ifCond .eq 21, 3) := by decide +kernel
theorem dX4_round_8 : decode cX4_round 8 = .ok (.iconst 1, 1) := by decide +kernel
theorem dX4_round_9 : decode cX4_round 9 = .ok (.aload_n 0, 1) := by decide +kernel
theorem dX4_round_10 : decode cX4_round 10 = .ok (.iload_n 1, 1) := by decide +kernel
theorem dX4_round_11 : decode cX4_round 11 = .ok (.aload_n 0, 1) := by decide +kernel
theorem dX4_round_12 : decode cX4_round 12 = .ok (.getfield 13, 3) := by decide +kernel
theorem dX4_round_15 : decode cX4_round 15 = .ok (.invokestatic 166, 3) := by decide +kernel
theorem dX4_round_18 : decode cX4_round 18 = .ok (.iload_n 1, 1) := by decide +kernel
theorem dX4_round_19 : decode cX4_round 19 = .ok (.invokevirtual 170, 3) := by decide +kernel
theorem dX4_round_22 : decode cX4_round 22 = .ok (.iadd, 1) := by decide +kernel
theorem dX4_round_23 : decode cX4_round 23 = .ok (.goto 4, 3) := by decide +kernel
theorem dX4_round_26 : decode cX4_round 26 = .ok (.iconst (-1), 1) := by decide +kernel
theorem dX4_round_27 : decode cX4_round 27 = .ok (.ireturn, 1) := by decide +kernel
set_option maxRecDepth 20000 in
theorem ggX4_near_X4_in : GoodIn wsX4_near wsX4_in := goodIn_r _ [8] (by decide +kernel) (by decide +kernel)
set_option maxRecDepth 20000 in
theorem gX4_near_X4_in : GoodIn wsX4_near (va_wsS RX4 57 yX4_in wsX4_in) := goodIn_app (goodIn_of _ (by decide +kernel)) ggX4_near_X4_in
theorem dX4_near_0 : decode cX4_near 0 = .ok (.iload_n 1, 1) := by decide +kernel
theorem dX4_near_1 : decode cX4_near 1 = .ok (.i2l, 1) := by decide +kernel
theorem dX4_near_2 : decode cX4_near 2 = .ok (.lconst 0, 1) := by decide +kernel
theorem dX4_near_3 : decode cX4_near 3 = .ok (.ldc2_w 173, 3) := by decide +kernel
theorem dX4_near_6 : decode cX4_near 6 = .ok (.invokestatic 57, 3) := by decide +kernel
theorem dX4_near_9 : decode cX4_near 9 = .ok (.ifCond .ne 5, 3) := by decide +kernel
theorem dX4_near_12 : decode cX4_near 12 = .ok (.iconst (-1), 1) := by decide +kernel
theorem dX4_near_13 : decode cX4_near 13 = .ok (.ireturn, 1) := by decide +kernel
theorem dX4_near_14 : decode cX4_near 14 = .ok (.iload_n 1, 1) := by decide +kernel
theorem dX4_near_15 : decode cX4_near 15 = .ok (.i2l, 1) := by decide +kernel
theorem dX4_near_16 : decode cX4_near 16 = .ok (.lstore_n 2, 1) := by decide +kernel
theorem dX4_near_17 : decode cX4_near 17 = .ok (.iconst 0, 1) := by decide +kernel
theorem dX4_near_18 : decode cX4_near 18 = .ok (.istore 4, 2) := by decide +kernel
theorem dX4_near_20 : decode cX4_near 20 = .ok (.iload 4, 2) := by decide +kernel
theorem dX4_near_22 : decode cX4_near 22 = .ok (.bipush 40, 2) := by decide +kernel
theorem dX4_near_24 : decode cX4_near 24 = .ok (.if_icmp .gt 32, 3) := by decide +kernel
theorem dX4_near_27 : decode cX4_near 27 = .ok (.aload_n 0, 1) := by decide +kernel
theorem dX4_near_28 : decode cX4_near 28 = .ok (.getfield 134, 3) := by decide +kernel
theorem dX4_near_31 : decode cX4_near 31 = .ok (.i2l, 1) := by decide +kernel
theorem dX4_near_32 : decode cX4_near 32 = .ok (.ldc2_w 95, 3) := by decide +kernel
theorem dX4_near_35 : decode cX4_near 35 = .ok (.lmul, 1) := by decide +kernel
theorem dX4_near_36 : decode cX4_near 36 = .ok (.lload_n 2, 1) := by decide +kernel
theorem dX4_near_37 : decode cX4_near 37 = .ok (.lcmp, 1) := by decide +kernel
theorem dX4_near_38 : decode cX4_near 38 = .ok (.ifCond .gt 6, 3) := by decide +kernel
theorem dX4_near_41 : decode cX4_near 41 = .ok (.iload 4, 2) := by decide +kernel
theorem dX4_near_43 : decode cX4_near 43 = .ok (.ireturn, 1) := by decide +kernel
theorem dX4_near_44 : decode cX4_near 44 = .ok (.lload_n 2, 1) := by decide +kernel
theorem dX4_near_45 : decode cX4_near 45 = .ok (.ldc2_w 53, 3) := by decide +kernel
theorem dX4_near_48 : decode cX4_near 48 = .ok (.lmul, 1) := by decide +kernel
theorem dX4_near_49 : decode cX4_near 49 = .ok (.lstore_n 2, 1) := by decide +kernel
theorem dX4_near_50 : decode cX4_near 50 = .ok (.iinc 4 1, 3) := by decide +kernel
theorem dX4_near_53 : decode cX4_near 53 = .ok (.goto (-33), 3) := by decide +kernel
theorem dX4_near_56 : decode cX4_near 56 = .ok (.bipush (-9), 2) := by decide +kernel
theorem dX4_near_58 : decode cX4_near 58 = .ok (.ireturn, 1) := by decide +kernel
set_option maxRecDepth 20000 in
theorem ggX4_wasted_X4_in : GoodIn wsX4_wasted wsX4_in := goodIn_r _ [6] (by decide +kernel) (by decide +kernel)
set_option maxRecDepth 20000 in
theorem gX4_wasted_X4_in : GoodIn wsX4_wasted (va_wsS RX4 57 yX4_in wsX4_in) := goodIn_app (goodIn_of _ (by decide +kernel)) ggX4_wasted_X4_in
set_option maxRecDepth 20000 in
theorem ggX4_wasted_X4_partOf : GoodIn wsX4_wasted wsX4_partOf := goodIn_r _ [10, 11, 12, 13, 14, 15, 16, 17, 18, 19, 20, 21, 22, 23, 24, 25, 26, 27, 28, 29, 30, 31, 32, 33, 34, 35] (by decide +kernel) (by decide +kernel)
set_option maxRecDepth 20000 in
theorem gX4_wasted_X4_partOf : GoodIn wsX4_wasted (wsV RX4 155 RX4 yX4_partOf wsX4_partOf) := goodIn_app (goodIn_of _ (by decide +kernel)) ggX4_wasted_X4_partOf
theorem dX4_wasted_0 : decode cX4_wasted 0 = .ok (.iload_n 1, 1) := by decide +kernel
theorem dX4_wasted_1 : decode cX4_wasted 1 = .ok (.i2l, 1) := by decide +kernel
theorem dX4_wasted_2 : decode cX4_wasted 2 = .ok (.lconst 0, 1) := by decide +kernel
theorem dX4_wasted_3 : decode cX4_wasted 3 = .ok (.lconst 1, 1) := by decide +kernel
theorem dX4_wasted_4 : decode cX4_wasted 4 = .ok (.invokestatic 57, 3) := by decide +kernel
theorem dX4_wasted_7 : decode cX4_wasted 7 = .ok (.ifCond .ne 5, 3) := by decide +kernel
theorem dX4_wasted_10 : decode cX4_wasted 10 = .ok (.iconst (-1), 1) := by decide +kernel
theorem dX4_wasted_11 : decode cX4_wasted 11 = .ok (.ireturn, 1) := by decide +kernel
theorem dX4_wasted_12 : decode cX4_wasted 12 = .ok (.iconst 0, 1) := by decide +kernel
theorem dX4_wasted_13 : decode cX4_wasted 13 = .ok (.istore_n 2, 1) := by decide +kernel
theorem dX4_wasted_14 : decode cX4_wasted 14 = .ok (.lconst 0, 1) := by decide +kernel
theorem dX4_wasted_15 : decode cX4_wasted 15 = .ok (.lstore_n 3, 1) := by decide +kernel
theorem dX4_wasted_16 : decode cX4_wasted 16 = .ok (.iconst 2, 1) := by decide +kernel
theorem dX4_wasted_17 : decode cX4_wasted 17 = .ok (.istore 5, 2) := by decide +kernel
theorem dX4_wasted_19 : decode cX4_wasted 19 = .ok (.iload 5, 2) := by decide +kernel
theorem dX4_wasted_21 : decode cX4_wasted 21 = .ok (.aload_n 0, 1) := by decide +kernel
theorem dX4_wasted_22 : decode cX4_wasted 22 = .ok (.getfield 20, 3) := by decide +kernel
theorem dX4_wasted_25 : decode cX4_wasted 25 = .ok (.if_icmp .ge 50, 3) := by decide +kernel
theorem dX4_wasted_28 : decode cX4_wasted 28 = .ok (.aload_n 0, 1) := by decide +kernel
theorem dX4_wasted_29 : decode cX4_wasted 29 = .ok (.iload 5, 2) := by decide +kernel
theorem dX4_wasted_31 : decode cX4_wasted 31 = .ok (.invokevirtual 155, 3) := by decide +kernel
theorem dX4_wasted_34 : decode cX4_wasted 34 = .ok (.istore 6, 2) := by decide +kernel
theorem dX4_wasted_36 : decode cX4_wasted 36 = .ok (.iload_n 2, 1) := by decide +kernel
theorem dX4_wasted_37 : decode cX4_wasted 37 = .ok (.iload 6, 2) := by decide +kernel
theorem dX4_wasted_39 : decode cX4_wasted 39 = .ok (.bipush (-9), 2) := by decide +kernel
theorem dX4_wasted_41 : decode cX4_wasted 41 = .ok (.if_icmp .ne 7, 3) := by decide +kernel
theorem dX4_wasted_44 : decode cX4_wasted 44 = .ok (.iconst 1, 1) := by decide +kernel
theorem dX4_wasted_45 : decode cX4_wasted 45 = .ok (.goto 4, 3) := by decide +kernel
theorem dX4_wasted_48 : decode cX4_wasted 48 = .ok (.iconst 0, 1) := by decide +kernel
theorem dX4_wasted_49 : decode cX4_wasted 49 = .ok (.iadd, 1) := by decide +kernel
theorem dX4_wasted_50 : decode cX4_wasted 50 = .ok (.istore_n 2, 1) := by decide +kernel
theorem dX4_wasted_51 : decode cX4_wasted 51 = .ok (.lload_n 3, 1) := by decide +kernel
theorem dX4_wasted_52 : decode cX4_wasted 52 = .ok (.iload 6, 2) := by decide +kernel
theorem dX4_wasted_54 : decode cX4_wasted 54 = .ok (.bipush (-9), 2) := by decide +kernel
theorem dX4_wasted_56 : decode cX4_wasted 56 = .ok (.if_icmp .ne 7, 3) := by decide +kernel
theorem dX4_wasted_59 : decode cX4_wasted 59 = .ok (.lconst 0, 1) := by decide +kernel
theorem dX4_wasted_60 : decode cX4_wasted 60 = .ok (.goto 7, 3) := by decide +kernel
theorem dX4_wasted_63 : decode cX4_wasted 63 = .ok (.lconst 1, 1) := by decide +kernel
theorem dX4_wasted_64 : decode cX4_wasted 64 = .ok (.iload 6, 2) := by decide +kernel
theorem dX4_wasted_66 : decode cX4_wasted 66 = .ok (.lshl, 1) := by decide +kernel
theorem dX4_wasted_67 : decode cX4_wasted 67 = .ok (.lor, 1) := by decide +kernel
theorem dX4_wasted_68 : decode cX4_wasted 68 = .ok (.lstore_n 3, 1) := by decide +kernel
theorem dX4_wasted_69 : decode cX4_wasted 69 = .ok (.iinc 5 1, 3) := by decide +kernel
theorem dX4_wasted_72 : decode cX4_wasted 72 = .ok (.goto (-53), 3) := by decide +kernel
theorem dX4_wasted_75 : decode cX4_wasted 75 = .ok (.iconst 0, 1) := by decide +kernel
theorem dX4_wasted_76 : decode cX4_wasted 76 = .ok (.istore 5, 2) := by decide +kernel
theorem dX4_wasted_78 : decode cX4_wasted 78 = .ok (.iconst 1, 1) := by decide +kernel
theorem dX4_wasted_79 : decode cX4_wasted 79 = .ok (.istore 6, 2) := by decide +kernel
theorem dX4_wasted_81 : decode cX4_wasted 81 = .ok (.iload 6, 2) := by decide +kernel
theorem dX4_wasted_83 : decode cX4_wasted 83 = .ok (.aload_n 0, 1) := by decide +kernel
theorem dX4_wasted_84 : decode cX4_wasted 84 = .ok (.getfield 13, 3) := by decide +kernel
theorem dX4_wasted_87 : decode cX4_wasted 87 = .ok (.if_icmp .ge 30, 3) := by decide +kernel
theorem dX4_wasted_90 : decode cX4_wasted 90 = .ok (.iload 5, 2) := by decide +kernel
theorem dX4_wasted_92 : decode cX4_wasted 92 = .ok (.lload_n 3, 1) := by decide +kernel
theorem dX4_wasted_93 : decode cX4_wasted 93 = .ok (.iload 6, 2) := by decide +kernel
theorem dX4_wasted_95 : decode cX4_wasted 95 = .ok (.lshr, 1) := by decide +kernel
theorem dX4_wasted_96 : decode cX4_wasted 96 = .ok (.lconst 1, 1) := by decide +kernel
theorem dX4_wasted_97 : decode cX4_wasted 97 = .ok (.land, 1) := by decide +kernel
theorem dX4_wasted_98 : decode cX4_wasted 98 = .ok (.lconst 0, 1) := by decide +kernel
theorem dX4_wasted_99 : decode cX4_wasted 99 = .ok (.lcmp, 1) := by decide +kernel
theorem dX4_wasted_100 : decode cX4_wasted 100 = .ok (.ifCond .ne 7, 3) := by decide +kernel
theorem dX4_wasted_103 : decode cX4_wasted 103 = .ok (.iconst 1, 1) := by decide +kernel
theorem dX4_wasted_104 : decode cX4_wasted 104 = .ok (.goto 4, 3) := by decide +kernel
theorem dX4_wasted_107 : decode cX4_wasted 107 = .ok (.iconst 0, 1) := by decide +kernel
theorem dX4_wasted_108 : decode cX4_wasted 108 = .ok (.iadd, 1) := by decide +kernel
theorem dX4_wasted_109 : decode cX4_wasted 109 = .ok (.istore 5, 2) := by decide +kernel
theorem dX4_wasted_111 : decode cX4_wasted 111 = .ok (.iinc 6 1, 3) := by decide +kernel
theorem dX4_wasted_114 : decode cX4_wasted 114 = .ok (.goto (-33), 3) := by decide +kernel
theorem dX4_wasted_117 : decode cX4_wasted 117 = .ok (.iload_n 1, 1) := by decide +kernel
theorem dX4_wasted_118 : decode cX4_wasted 118 = .ok (.ifCond .ne 7, 3) := by decide +kernel
theorem dX4_wasted_121 : decode cX4_wasted 121 = .ok (.iload_n 2, 1) := by decide +kernel
theorem dX4_wasted_122 : decode cX4_wasted 122 = .ok (.goto 5, 3) := by decide +kernel
theorem dX4_wasted_125 : decode cX4_wasted 125 = .ok (.iload 5, 2) := by decide +kernel
theorem dX4_wasted_127 : decode cX4_wasted 127 = .ok (.ireturn, 1) := by decide +kernel
set_option maxRecDepth 20000 in
theorem ggX4_fewest_X4_isPart : GoodIn wsX4_fewest wsX4_isPart := goodIn_r _ [6, 7, 8, 9, 5, 10, 18, 19, 20, 21, 22, 23, 24, 25, 26, 27, 28, 29, 30, 31, 32, 33, 34, 35, 36, 37, 38, 39, 40] (by decide +kernel) (by decide +kernel)
set_option maxRecDepth 20000 in
theorem gX4_fewest_X4_isPart : GoodIn wsX4_fewest (wsV RX4 163 RX4 yX4_isPart wsX4_isPart) := goodIn_app (goodIn_of _ (by decide +kernel)) ggX4_fewest_X4_isPart
set_option maxRecDepth 20000 in
theorem ggX4_fewest_X4_foldsTo : GoodIn wsX4_fewest wsX4_foldsTo := goodIn_r _ [14, 7, 15, 16, 5, 17, 18, 19, 20, 21, 22, 23, 24, 25, 26, 27, 28, 29, 30, 31, 32, 33, 34, 35, 36, 37, 38, 39, 40] (by decide +kernel) (by decide +kernel)
set_option maxRecDepth 20000 in
theorem gX4_fewest_X4_foldsTo : GoodIn wsX4_fewest (wsV RX4 170 RX4 yX4_foldsTo wsX4_foldsTo) := goodIn_app (goodIn_of _ (by decide +kernel)) ggX4_fewest_X4_foldsTo
theorem dX4_fewest_0 : decode cX4_fewest 0 = .ok (.aload_n 0, 1) := by decide +kernel
theorem dX4_fewest_1 : decode cX4_fewest 1 = .ok (.iload_n 1, 1) := by decide +kernel
theorem dX4_fewest_2 : decode cX4_fewest 2 = .ok (.invokevirtual 163, 3) := by decide +kernel
theorem dX4_fewest_5 : decode cX4_fewest 5 = .ok (.ifCond .eq 15, 3) := by decide +kernel
theorem dX4_fewest_8 : decode cX4_fewest 8 = .ok (.aload_n 0, 1) := by decide +kernel
theorem dX4_fewest_9 : decode cX4_fewest 9 = .ok (.aload_n 0, 1) := by decide +kernel
theorem dX4_fewest_10 : decode cX4_fewest 10 = .ok (.getfield 17, 3) := by decide +kernel
theorem dX4_fewest_13 : decode cX4_fewest 13 = .ok (.iload_n 1, 1) := by decide +kernel
theorem dX4_fewest_14 : decode cX4_fewest 14 = .ok (.invokevirtual 170, 3) := by decide +kernel
theorem dX4_fewest_17 : decode cX4_fewest 17 = .ok (.goto 4, 3) := by decide +kernel
theorem dX4_fewest_20 : decode cX4_fewest 20 = .ok (.iconst (-1), 1) := by decide +kernel
theorem dX4_fewest_21 : decode cX4_fewest 21 = .ok (.ireturn, 1) := by decide +kernel
set_option maxRecDepth 20000 in
theorem ggX4_comes_X4_in : GoodIn wsX4_comes wsX4_in := goodIn_r _ [6] (by decide +kernel) (by decide +kernel)
set_option maxRecDepth 20000 in
theorem gX4_comes_X4_in : GoodIn wsX4_comes (va_wsS RX4 57 yX4_in wsX4_in) := goodIn_app (goodIn_of _ (by decide +kernel)) ggX4_comes_X4_in
set_option maxRecDepth 20000 in
theorem ggX4_comes_X4_round : GoodIn wsX4_comes wsX4_round := goodIn_r _ [10, 2, 11, 12, 13, 5, 14, 3, 4, 6, 15, 16, 17, 18, 19, 20, 21, 22, 23, 24, 25, 26, 27, 28, 29, 30, 31, 32, 33, 34, 35, 36, 37, 38, 39, 40, 41, 42, 43, 44] (by decide +kernel) (by decide +kernel)
set_option maxRecDepth 20000 in
theorem gX4_comes_X4_round : GoodIn wsX4_comes (wsV RX4 175 RX4 yX4_round wsX4_round) := goodIn_app (goodIn_of _ (by decide +kernel)) ggX4_comes_X4_round
set_option maxRecDepth 20000 in
theorem ggX4_comes_X4_goes : GoodIn wsX4_comes wsX4_goes := goodIn_r _ [17] (by decide +kernel) (by decide +kernel)
set_option maxRecDepth 20000 in
theorem gX4_comes_X4_goes : GoodIn wsX4_comes (va_wsS RX4 166 yX4_goes wsX4_goes) := goodIn_app (goodIn_of _ (by decide +kernel)) ggX4_comes_X4_goes
theorem dX4_comes_0 : decode cX4_comes 0 = .ok (.iload_n 1, 1) := by decide +kernel
theorem dX4_comes_1 : decode cX4_comes 1 = .ok (.i2l, 1) := by decide +kernel
theorem dX4_comes_2 : decode cX4_comes 2 = .ok (.lconst 0, 1) := by decide +kernel
theorem dX4_comes_3 : decode cX4_comes 3 = .ok (.lconst 1, 1) := by decide +kernel
theorem dX4_comes_4 : decode cX4_comes 4 = .ok (.invokestatic 57, 3) := by decide +kernel
theorem dX4_comes_7 : decode cX4_comes 7 = .ok (.ifCond .ne 5, 3) := by decide +kernel
theorem dX4_comes_10 : decode cX4_comes 10 = .ok (.iconst (-1), 1) := by decide +kernel
theorem dX4_comes_11 : decode cX4_comes 11 = .ok (.ireturn, 1) := by decide +kernel
theorem dX4_comes_12 : decode cX4_comes 12 = .ok (.iload_n 1, 1) := by decide +kernel
theorem dX4_comes_13 : decode cX4_comes 13 = .ok (.ifCond .ne 12, 3) := by decide +kernel
theorem dX4_comes_16 : decode cX4_comes 16 = .ok (.aload_n 0, 1) := by decide +kernel
theorem dX4_comes_17 : decode cX4_comes 17 = .ok (.aload_n 0, 1) := by decide +kernel
theorem dX4_comes_18 : decode cX4_comes 18 = .ok (.getfield 17, 3) := by decide +kernel
theorem dX4_comes_21 : decode cX4_comes 21 = .ok (.invokevirtual 175, 3) := by decide +kernel
theorem dX4_comes_24 : decode cX4_comes 24 = .ok (.ireturn, 1) := by decide +kernel
theorem dX4_comes_25 : decode cX4_comes 25 = .ok (.iconst 0, 1) := by decide +kernel
theorem dX4_comes_26 : decode cX4_comes 26 = .ok (.istore_n 2, 1) := by decide +kernel
theorem dX4_comes_27 : decode cX4_comes 27 = .ok (.lconst 0, 1) := by decide +kernel
theorem dX4_comes_28 : decode cX4_comes 28 = .ok (.lstore_n 3, 1) := by decide +kernel
theorem dX4_comes_29 : decode cX4_comes 29 = .ok (.iconst 1, 1) := by decide +kernel
theorem dX4_comes_30 : decode cX4_comes 30 = .ok (.istore 5, 2) := by decide +kernel
theorem dX4_comes_32 : decode cX4_comes 32 = .ok (.iload 5, 2) := by decide +kernel
theorem dX4_comes_34 : decode cX4_comes 34 = .ok (.aload_n 0, 1) := by decide +kernel
theorem dX4_comes_35 : decode cX4_comes 35 = .ok (.getfield 13, 3) := by decide +kernel
theorem dX4_comes_38 : decode cX4_comes 38 = .ok (.if_icmp .ge 64, 3) := by decide +kernel
theorem dX4_comes_41 : decode cX4_comes 41 = .ok (.iload_n 2, 1) := by decide +kernel
theorem dX4_comes_42 : decode cX4_comes 42 = .ok (.lload_n 3, 1) := by decide +kernel
theorem dX4_comes_43 : decode cX4_comes 43 = .ok (.iload 5, 2) := by decide +kernel
theorem dX4_comes_45 : decode cX4_comes 45 = .ok (.lshr, 1) := by decide +kernel
theorem dX4_comes_46 : decode cX4_comes 46 = .ok (.lconst 1, 1) := by decide +kernel
theorem dX4_comes_47 : decode cX4_comes 47 = .ok (.land, 1) := by decide +kernel
theorem dX4_comes_48 : decode cX4_comes 48 = .ok (.lconst 0, 1) := by decide +kernel
theorem dX4_comes_49 : decode cX4_comes 49 = .ok (.lcmp, 1) := by decide +kernel
theorem dX4_comes_50 : decode cX4_comes 50 = .ok (.ifCond .ne 7, 3) := by decide +kernel
theorem dX4_comes_53 : decode cX4_comes 53 = .ok (.iconst 1, 1) := by decide +kernel
theorem dX4_comes_54 : decode cX4_comes 54 = .ok (.goto 4, 3) := by decide +kernel
theorem dX4_comes_57 : decode cX4_comes 57 = .ok (.iconst 0, 1) := by decide +kernel
theorem dX4_comes_58 : decode cX4_comes 58 = .ok (.iadd, 1) := by decide +kernel
theorem dX4_comes_59 : decode cX4_comes 59 = .ok (.istore_n 2, 1) := by decide +kernel
theorem dX4_comes_60 : decode cX4_comes 60 = .ok (.iload 5, 2) := by decide +kernel
theorem dX4_comes_62 : decode cX4_comes 62 = .ok (.istore 6, 2) := by decide +kernel
theorem dX4_comes_64 : decode cX4_comes 64 = .ok (.lload_n 3, 1) := by decide +kernel
theorem dX4_comes_65 : decode cX4_comes 65 = .ok (.iload 6, 2) := by decide +kernel
theorem dX4_comes_67 : decode cX4_comes 67 = .ok (.lshr, 1) := by decide +kernel
theorem dX4_comes_68 : decode cX4_comes 68 = .ok (.lconst 1, 1) := by decide +kernel
theorem dX4_comes_69 : decode cX4_comes 69 = .ok (.land, 1) := by decide +kernel
theorem dX4_comes_70 : decode cX4_comes 70 = .ok (.lconst 0, 1) := by decide +kernel
theorem dX4_comes_71 : decode cX4_comes 71 = .ok (.lcmp, 1) := by decide +kernel
theorem dX4_comes_72 : decode cX4_comes 72 = .ok (.ifCond .ne 24, 3) := by decide +kernel
theorem dX4_comes_75 : decode cX4_comes 75 = .ok (.lload_n 3, 1) := by decide +kernel
theorem dX4_comes_76 : decode cX4_comes 76 = .ok (.lconst 1, 1) := by decide +kernel
theorem dX4_comes_77 : decode cX4_comes 77 = .ok (.iload 6, 2) := by decide +kernel
theorem dX4_comes_79 : decode cX4_comes 79 = .ok (.lshl, 1) := by decide +kernel
theorem dX4_comes_80 : decode cX4_comes 80 = .ok (.lor, 1) := by decide +kernel
theorem dX4_comes_81 : decode cX4_comes 81 = .ok (.lstore_n 3, 1) := by decide +kernel
theorem dX4_comes_82 : decode cX4_comes 82 = .ok (.iload 6, 2) := by decide +kernel
theorem dX4_comes_84 : decode cX4_comes 84 = .ok (.aload_n 0, 1) := by decide +kernel
theorem dX4_comes_85 : decode cX4_comes 85 = .ok (.getfield 13, 3) := by decide +kernel
theorem dX4_comes_88 : decode cX4_comes 88 = .ok (.invokestatic 166, 3) := by decide +kernel
theorem dX4_comes_91 : decode cX4_comes 91 = .ok (.istore 6, 2) := by decide +kernel
theorem dX4_comes_93 : decode cX4_comes 93 = .ok (.goto (-29), 3) := by decide +kernel
theorem dX4_comes_96 : decode cX4_comes 96 = .ok (.iinc 5 1, 3) := by decide +kernel
theorem dX4_comes_99 : decode cX4_comes 99 = .ok (.goto (-67), 3) := by decide +kernel
theorem dX4_comes_102 : decode cX4_comes 102 = .ok (.iload_n 2, 1) := by decide +kernel
theorem dX4_comes_103 : decode cX4_comes 103 = .ok (.ireturn, 1) := by decide +kernel
set_option maxRecDepth 20000 in
theorem ggX4_letter_X4_in : GoodIn wsX4_letter wsX4_in := goodIn_r _ [6] (by decide +kernel) (by decide +kernel)
set_option maxRecDepth 20000 in
theorem gX4_letter_X4_in : GoodIn wsX4_letter (va_wsS RX4 57 yX4_in wsX4_in) := goodIn_app (goodIn_of _ (by decide +kernel)) ggX4_letter_X4_in
theorem dX4_letter_0 : decode cX4_letter 0 = .ok (.iload_n 1, 1) := by decide +kernel
theorem dX4_letter_1 : decode cX4_letter 1 = .ok (.i2l, 1) := by decide +kernel
theorem dX4_letter_2 : decode cX4_letter 2 = .ok (.lconst 0, 1) := by decide +kernel
theorem dX4_letter_3 : decode cX4_letter 3 = .ok (.lconst 1, 1) := by decide +kernel
theorem dX4_letter_4 : decode cX4_letter 4 = .ok (.invokestatic 57, 3) := by decide +kernel
theorem dX4_letter_7 : decode cX4_letter 7 = .ok (.ifCond .ne 5, 3) := by decide +kernel
theorem dX4_letter_10 : decode cX4_letter 10 = .ok (.iconst (-1), 1) := by decide +kernel
theorem dX4_letter_11 : decode cX4_letter 11 = .ok (.ireturn, 1) := by decide +kernel
theorem dX4_letter_12 : decode cX4_letter 12 = .ok (.aload_n 0, 1) := by decide +kernel
theorem dX4_letter_13 : decode cX4_letter 13 = .ok (.getfield 144, 3) := by decide +kernel
theorem dX4_letter_16 : decode cX4_letter 16 = .ok (.bipush 12, 2) := by decide +kernel
theorem dX4_letter_18 : decode cX4_letter 18 = .ok (.if_icmp .ne 6, 3) := by decide +kernel
theorem dX4_letter_21 : decode cX4_letter 21 = .ok (.bipush (-3), 2) := by decide +kernel
theorem dX4_letter_23 : decode cX4_letter 23 = .ok (.ireturn, 1) := by decide +kernel
theorem dX4_letter_24 : decode cX4_letter 24 = .ok (.aload_n 0, 1) := by decide +kernel
theorem dX4_letter_25 : decode cX4_letter 25 = .ok (.getfield 33, 3) := by decide +kernel
theorem dX4_letter_28 : decode cX4_letter 28 = .ok (.aload_n 0, 1) := by decide +kernel
theorem dX4_letter_29 : decode cX4_letter 29 = .ok (.getfield 144, 3) := by decide +kernel
theorem dX4_letter_32 : decode cX4_letter 32 = .ok (.iload_n 1, 1) := by decide +kernel
theorem dX4_letter_33 : decode cX4_letter 33 = .ok (.iastore, 1) := by decide +kernel
theorem dX4_letter_34 : decode cX4_letter 34 = .ok (.aload_n 0, 1) := by decide +kernel
theorem dX4_letter_35 : decode cX4_letter 35 = .ok (.dup, 1) := by decide +kernel
theorem dX4_letter_36 : decode cX4_letter 36 = .ok (.getfield 144, 3) := by decide +kernel
theorem dX4_letter_39 : decode cX4_letter 39 = .ok (.iconst 1, 1) := by decide +kernel
theorem dX4_letter_40 : decode cX4_letter 40 = .ok (.iadd, 1) := by decide +kernel
theorem dX4_letter_41 : decode cX4_letter 41 = .ok (.putfield 144, 3) := by decide +kernel
theorem dX4_letter_44 : decode cX4_letter 44 = .ok (.aload_n 0, 1) := by decide +kernel
theorem dX4_letter_45 : decode cX4_letter 45 = .ok (.getfield 144, 3) := by decide +kernel
theorem dX4_letter_48 : decode cX4_letter 48 = .ok (.ireturn, 1) := by decide +kernel
theorem dX4_hush_0 : decode cX4_hush 0 = .ok (.aload_n 0, 1) := by decide +kernel
theorem dX4_hush_1 : decode cX4_hush 1 = .ok (.getfield 144, 3) := by decide +kernel
theorem dX4_hush_4 : decode cX4_hush 4 = .ok (.istore_n 1, 1) := by decide +kernel
theorem dX4_hush_5 : decode cX4_hush 5 = .ok (.aload_n 0, 1) := by decide +kernel
theorem dX4_hush_6 : decode cX4_hush 6 = .ok (.iconst 0, 1) := by decide +kernel
theorem dX4_hush_7 : decode cX4_hush 7 = .ok (.putfield 144, 3) := by decide +kernel
theorem dX4_hush_10 : decode cX4_hush 10 = .ok (.iload_n 1, 1) := by decide +kernel
theorem dX4_hush_11 : decode cX4_hush 11 = .ok (.ireturn, 1) := by decide +kernel
set_option maxRecDepth 20000 in
theorem ggX4_wrongFrom_X4_goes : GoodIn wsX4_wrongFrom wsX4_goes := goodIn_r _ [6] (by decide +kernel) (by decide +kernel)
set_option maxRecDepth 20000 in
theorem gX4_wrongFrom_X4_goes : GoodIn wsX4_wrongFrom (va_wsS RX4 166 yX4_goes wsX4_goes) := goodIn_app (goodIn_of _ (by decide +kernel)) ggX4_wrongFrom_X4_goes
theorem dX4_wrongFrom_0 : decode cX4_wrongFrom 0 = .ok (.iload_n 1, 1) := by decide +kernel
theorem dX4_wrongFrom_1 : decode cX4_wrongFrom 1 = .ok (.istore_n 3, 1) := by decide +kernel
theorem dX4_wrongFrom_2 : decode cX4_wrongFrom 2 = .ok (.iconst 0, 1) := by decide +kernel
theorem dX4_wrongFrom_3 : decode cX4_wrongFrom 3 = .ok (.istore 4, 2) := by decide +kernel
theorem dX4_wrongFrom_5 : decode cX4_wrongFrom 5 = .ok (.iload 4, 2) := by decide +kernel
theorem dX4_wrongFrom_7 : decode cX4_wrongFrom 7 = .ok (.aload_n 0, 1) := by decide +kernel
theorem dX4_wrongFrom_8 : decode cX4_wrongFrom 8 = .ok (.getfield 144, 3) := by decide +kernel
theorem dX4_wrongFrom_11 : decode cX4_wrongFrom 11 = .ok (.if_icmp .ge 31, 3) := by decide +kernel
theorem dX4_wrongFrom_14 : decode cX4_wrongFrom 14 = .ok (.aload_n 0, 1) := by decide +kernel
theorem dX4_wrongFrom_15 : decode cX4_wrongFrom 15 = .ok (.getfield 33, 3) := by decide +kernel
theorem dX4_wrongFrom_18 : decode cX4_wrongFrom 18 = .ok (.iload 4, 2) := by decide +kernel
theorem dX4_wrongFrom_20 : decode cX4_wrongFrom 20 = .ok (.iaload, 1) := by decide +kernel
theorem dX4_wrongFrom_21 : decode cX4_wrongFrom 21 = .ok (.iload_n 3, 1) := by decide +kernel
theorem dX4_wrongFrom_22 : decode cX4_wrongFrom 22 = .ok (.iconst 2, 1) := by decide +kernel
theorem dX4_wrongFrom_23 : decode cX4_wrongFrom 23 = .ok (.irem, 1) := by decide +kernel
theorem dX4_wrongFrom_24 : decode cX4_wrongFrom 24 = .ok (.if_icmp .eq 6, 3) := by decide +kernel
theorem dX4_wrongFrom_27 : decode cX4_wrongFrom 27 = .ok (.iload 4, 2) := by decide +kernel
theorem dX4_wrongFrom_29 : decode cX4_wrongFrom 29 = .ok (.ireturn, 1) := by decide +kernel
theorem dX4_wrongFrom_30 : decode cX4_wrongFrom 30 = .ok (.iload_n 3, 1) := by decide +kernel
theorem dX4_wrongFrom_31 : decode cX4_wrongFrom 31 = .ok (.iload_n 2, 1) := by decide +kernel
theorem dX4_wrongFrom_32 : decode cX4_wrongFrom 32 = .ok (.invokestatic 166, 3) := by decide +kernel
theorem dX4_wrongFrom_35 : decode cX4_wrongFrom 35 = .ok (.istore_n 3, 1) := by decide +kernel
theorem dX4_wrongFrom_36 : decode cX4_wrongFrom 36 = .ok (.iinc 4 1, 3) := by decide +kernel
theorem dX4_wrongFrom_39 : decode cX4_wrongFrom 39 = .ok (.goto (-34), 3) := by decide +kernel
theorem dX4_wrongFrom_42 : decode cX4_wrongFrom 42 = .ok (.bipush (-9), 2) := by decide +kernel
theorem dX4_wrongFrom_44 : decode cX4_wrongFrom 44 = .ok (.ireturn, 1) := by decide +kernel
set_option maxRecDepth 20000 in
theorem ggX4_meant_X4_in : GoodIn wsX4_meant wsX4_in := goodIn_r _ [5] (by decide +kernel) (by decide +kernel)
set_option maxRecDepth 20000 in
theorem gX4_meant_X4_in : GoodIn wsX4_meant (va_wsS RX4 57 yX4_in wsX4_in) := goodIn_app (goodIn_of _ (by decide +kernel)) ggX4_meant_X4_in
set_option maxRecDepth 20000 in
theorem ggX4_meant_X4_wrongFrom : GoodIn wsX4_meant wsX4_wrongFrom := goodIn_r _ [9, 10, 11, 12, 13, 4, 14, 15, 16, 17, 18, 19, 20, 21, 22, 23, 24, 25, 26, 27, 28, 29, 30, 31, 32, 33, 34, 35, 36, 37] (by decide +kernel) (by decide +kernel)
set_option maxRecDepth 20000 in
theorem gX4_meant_X4_wrongFrom : GoodIn wsX4_meant (wsV RX4 178 RX4 yX4_wrongFrom wsX4_wrongFrom) := goodIn_app (goodIn_of _ (by decide +kernel)) ggX4_meant_X4_wrongFrom
theorem dX4_meant_0 : decode cX4_meant 0 = .ok (.iload_n 1, 1) := by decide +kernel
theorem dX4_meant_1 : decode cX4_meant 1 = .ok (.i2l, 1) := by decide +kernel
theorem dX4_meant_2 : decode cX4_meant 2 = .ok (.lconst 0, 1) := by decide +kernel
theorem dX4_meant_3 : decode cX4_meant 3 = .ok (.ldc2_w 53, 3) := by decide +kernel
theorem dX4_meant_6 : decode cX4_meant 6 = .ok (.invokestatic 57, 3) := by decide +kernel
theorem dX4_meant_9 : decode cX4_meant 9 = .ok (.ifCond .ne 5, 3) := by decide +kernel
theorem dX4_meant_12 : decode cX4_meant 12 = .ok (.iconst (-1), 1) := by decide +kernel
theorem dX4_meant_13 : decode cX4_meant 13 = .ok (.ireturn, 1) := by decide +kernel
theorem dX4_meant_14 : decode cX4_meant 14 = .ok (.iconst 0, 1) := by decide +kernel
theorem dX4_meant_15 : decode cX4_meant 15 = .ok (.istore_n 2, 1) := by decide +kernel
theorem dX4_meant_16 : decode cX4_meant 16 = .ok (.bipush (-9), 2) := by decide +kernel
theorem dX4_meant_18 : decode cX4_meant 18 = .ok (.istore_n 3, 1) := by decide +kernel
theorem dX4_meant_19 : decode cX4_meant 19 = .ok (.bipush (-9), 2) := by decide +kernel
theorem dX4_meant_21 : decode cX4_meant 21 = .ok (.istore 4, 2) := by decide +kernel
theorem dX4_meant_23 : decode cX4_meant 23 = .ok (.bipush 63, 2) := by decide +kernel
theorem dX4_meant_25 : decode cX4_meant 25 = .ok (.istore 5, 2) := by decide +kernel
theorem dX4_meant_27 : decode cX4_meant 27 = .ok (.iload 5, 2) := by decide +kernel
theorem dX4_meant_29 : decode cX4_meant 29 = .ok (.iconst 2, 1) := by decide +kernel
theorem dX4_meant_30 : decode cX4_meant 30 = .ok (.if_icmp .le 49, 3) := by decide +kernel
theorem dX4_meant_33 : decode cX4_meant 33 = .ok (.iload 5, 2) := by decide +kernel
theorem dX4_meant_35 : decode cX4_meant 35 = .ok (.iconst 1, 1) := by decide +kernel
theorem dX4_meant_36 : decode cX4_meant 36 = .ok (.isub, 1) := by decide +kernel
theorem dX4_meant_37 : decode cX4_meant 37 = .ok (.istore 6, 2) := by decide +kernel
theorem dX4_meant_39 : decode cX4_meant 39 = .ok (.iload 6, 2) := by decide +kernel
theorem dX4_meant_41 : decode cX4_meant 41 = .ok (.ifCond .le 32, 3) := by decide +kernel
theorem dX4_meant_44 : decode cX4_meant 44 = .ok (.aload_n 0, 1) := by decide +kernel
theorem dX4_meant_45 : decode cX4_meant 45 = .ok (.iload 6, 2) := by decide +kernel
theorem dX4_meant_47 : decode cX4_meant 47 = .ok (.iload 5, 2) := by decide +kernel
theorem dX4_meant_49 : decode cX4_meant 49 = .ok (.invokevirtual 178, 3) := by decide +kernel
theorem dX4_meant_52 : decode cX4_meant 52 = .ok (.bipush (-9), 2) := by decide +kernel
theorem dX4_meant_54 : decode cX4_meant 54 = .ok (.if_icmp .ne 13, 3) := by decide +kernel
theorem dX4_meant_57 : decode cX4_meant 57 = .ok (.iinc 2 1, 3) := by decide +kernel
theorem dX4_meant_60 : decode cX4_meant 60 = .ok (.iload 5, 2) := by decide +kernel
theorem dX4_meant_62 : decode cX4_meant 62 = .ok (.istore_n 3, 1) := by decide +kernel
theorem dX4_meant_63 : decode cX4_meant 63 = .ok (.iload 6, 2) := by decide +kernel
theorem dX4_meant_65 : decode cX4_meant 65 = .ok (.istore 4, 2) := by decide +kernel
theorem dX4_meant_67 : decode cX4_meant 67 = .ok (.iinc 6 (-1), 3) := by decide +kernel
theorem dX4_meant_70 : decode cX4_meant 70 = .ok (.goto (-31), 3) := by decide +kernel
theorem dX4_meant_73 : decode cX4_meant 73 = .ok (.iinc 5 (-2), 3) := by decide +kernel
theorem dX4_meant_76 : decode cX4_meant 76 = .ok (.goto (-49), 3) := by decide +kernel
theorem dX4_meant_79 : decode cX4_meant 79 = .ok (.iload_n 1, 1) := by decide +kernel
theorem dX4_meant_80 : decode cX4_meant 80 = .ok (.ifCond .ne 7, 3) := by decide +kernel
theorem dX4_meant_83 : decode cX4_meant 83 = .ok (.iload_n 2, 1) := by decide +kernel
theorem dX4_meant_84 : decode cX4_meant 84 = .ok (.goto 14, 3) := by decide +kernel
theorem dX4_meant_87 : decode cX4_meant 87 = .ok (.iload_n 1, 1) := by decide +kernel
theorem dX4_meant_88 : decode cX4_meant 88 = .ok (.iconst 1, 1) := by decide +kernel
theorem dX4_meant_89 : decode cX4_meant 89 = .ok (.if_icmp .ne 7, 3) := by decide +kernel
theorem dX4_meant_92 : decode cX4_meant 92 = .ok (.iload_n 3, 1) := by decide +kernel
theorem dX4_meant_93 : decode cX4_meant 93 = .ok (.goto 5, 3) := by decide +kernel
theorem dX4_meant_96 : decode cX4_meant 96 = .ok (.iload 4, 2) := by decide +kernel
theorem dX4_meant_98 : decode cX4_meant 98 = .ok (.ireturn, 1) := by decide +kernel
set_option maxRecDepth 20000 in
theorem ggX4_wrong_X4_wrongFrom : GoodIn wsX4_wrong wsX4_wrongFrom := goodIn_r _ [7, 8, 9, 10, 11, 6, 12, 13, 14, 15, 16, 17, 18, 19, 20, 21, 22, 23, 24, 25, 26, 27, 28, 29, 30, 31, 32, 33, 34, 35] (by decide +kernel) (by decide +kernel)
set_option maxRecDepth 20000 in
theorem gX4_wrong_X4_wrongFrom : GoodIn wsX4_wrong (wsV RX4 178 RX4 yX4_wrongFrom wsX4_wrongFrom) := goodIn_app (goodIn_of _ (by decide +kernel)) ggX4_wrong_X4_wrongFrom
theorem dX4_wrong_0 : decode cX4_wrong 0 = .ok (.aload_n 0, 1) := by decide +kernel
theorem dX4_wrong_1 : decode cX4_wrong 1 = .ok (.aload_n 0, 1) := by decide +kernel
theorem dX4_wrong_2 : decode cX4_wrong 2 = .ok (.getfield 17, 3) := by decide +kernel
theorem dX4_wrong_5 : decode cX4_wrong 5 = .ok (.aload_n 0, 1) := by decide +kernel
theorem dX4_wrong_6 : decode cX4_wrong 6 = .ok (.getfield 13, 3) := by decide +kernel
theorem dX4_wrong_9 : decode cX4_wrong 9 = .ok (.invokevirtual 178, 3) := by decide +kernel
theorem dX4_wrong_12 : decode cX4_wrong 12 = .ok (.ireturn, 1) := by decide +kernel
set_option maxRecDepth 20000 in
theorem ggX4_got_X4_in : GoodIn wsX4_got wsX4_in := goodIn_r _ [11] (by decide +kernel) (by decide +kernel)
set_option maxRecDepth 20000 in
theorem gX4_got_X4_in : GoodIn wsX4_got (va_wsS RX4 57 yX4_in wsX4_in) := goodIn_app (goodIn_of _ (by decide +kernel)) ggX4_got_X4_in
set_option maxRecDepth 20000 in
theorem ggX4_got_X4_least : GoodIn wsX4_got wsX4_least := goodIn_r _ [14] (by decide +kernel) (by decide +kernel)
set_option maxRecDepth 20000 in
theorem gX4_got_X4_least : GoodIn wsX4_got (va_wsS RX4 159 yX4_least wsX4_least) := goodIn_app (goodIn_of _ (by decide +kernel)) ggX4_got_X4_least
theorem dX4_got_0 : decode cX4_got 0 = .ok (.iload_n 1, 1) := by decide +kernel
theorem dX4_got_1 : decode cX4_got 1 = .ok (.i2l, 1) := by decide +kernel
theorem dX4_got_2 : decode cX4_got 2 = .ok (.lconst 0, 1) := by decide +kernel
theorem dX4_got_3 : decode cX4_got 3 = .ok (.lconst 1, 1) := by decide +kernel
theorem dX4_got_4 : decode cX4_got 4 = .ok (.invokestatic 57, 3) := by decide +kernel
theorem dX4_got_7 : decode cX4_got 7 = .ok (.ifCond .ne 7, 3) := by decide +kernel
theorem dX4_got_10 : decode cX4_got 10 = .ok (.ldc2_w 89, 3) := by decide +kernel
theorem dX4_got_13 : decode cX4_got 13 = .ok (.lreturn, 1) := by decide +kernel
theorem dX4_got_14 : decode cX4_got 14 = .ok (.aload_n 0, 1) := by decide +kernel
theorem dX4_got_15 : decode cX4_got 15 = .ok (.getfield 17, 3) := by decide +kernel
theorem dX4_got_18 : decode cX4_got 18 = .ok (.i2l, 1) := by decide +kernel
theorem dX4_got_19 : decode cX4_got 19 = .ok (.ldc2_w 51, 3) := by decide +kernel
theorem dX4_got_22 : decode cX4_got 22 = .ok (.lmul, 1) := by decide +kernel
theorem dX4_got_23 : decode cX4_got 23 = .ok (.lstore_n 2, 1) := by decide +kernel
theorem dX4_got_24 : decode cX4_got 24 = .ok (.iconst 0, 1) := by decide +kernel
theorem dX4_got_25 : decode cX4_got 25 = .ok (.istore 4, 2) := by decide +kernel
theorem dX4_got_27 : decode cX4_got 27 = .ok (.iload 4, 2) := by decide +kernel
theorem dX4_got_29 : decode cX4_got 29 = .ok (.aload_n 0, 1) := by decide +kernel
theorem dX4_got_30 : decode cX4_got 30 = .ok (.getfield 144, 3) := by decide +kernel
theorem dX4_got_33 : decode cX4_got 33 = .ok (.if_icmp .ge 33, 3) := by decide +kernel
theorem dX4_got_36 : decode cX4_got 36 = .ok (.lload_n 2, 1) := by decide +kernel
theorem dX4_got_37 : decode cX4_got 37 = .ok (.aload_n 0, 1) := by decide +kernel
theorem dX4_got_38 : decode cX4_got 38 = .ok (.getfield 33, 3) := by decide +kernel
theorem dX4_got_41 : decode cX4_got 41 = .ok (.iload 4, 2) := by decide +kernel
theorem dX4_got_43 : decode cX4_got 43 = .ok (.iaload, 1) := by decide +kernel
theorem dX4_got_44 : decode cX4_got 44 = .ok (.aload_n 0, 1) := by decide +kernel
theorem dX4_got_45 : decode cX4_got 45 = .ok (.getfield 13, 3) := by decide +kernel
theorem dX4_got_48 : decode cX4_got 48 = .ok (.imul, 1) := by decide +kernel
theorem dX4_got_49 : decode cX4_got 49 = .ok (.i2l, 1) := by decide +kernel
theorem dX4_got_50 : decode cX4_got 50 = .ok (.ldc2_w 51, 3) := by decide +kernel
theorem dX4_got_53 : decode cX4_got 53 = .ok (.lmul, 1) := by decide +kernel
theorem dX4_got_54 : decode cX4_got 54 = .ok (.ladd, 1) := by decide +kernel
theorem dX4_got_55 : decode cX4_got 55 = .ok (.ldc2_w 53, 3) := by decide +kernel
theorem dX4_got_58 : decode cX4_got 58 = .ok (.ldiv, 1) := by decide +kernel
theorem dX4_got_59 : decode cX4_got 59 = .ok (.lstore_n 2, 1) := by decide +kernel
theorem dX4_got_60 : decode cX4_got 60 = .ok (.iinc 4 1, 3) := by decide +kernel
theorem dX4_got_63 : decode cX4_got 63 = .ok (.goto (-36), 3) := by decide +kernel
theorem dX4_got_66 : decode cX4_got 66 = .ok (.lload_n 2, 1) := by decide +kernel
theorem dX4_got_67 : decode cX4_got 67 = .ok (.aload_n 0, 1) := by decide +kernel
theorem dX4_got_68 : decode cX4_got 68 = .ok (.getfield 13, 3) := by decide +kernel
theorem dX4_got_71 : decode cX4_got 71 = .ok (.i2l, 1) := by decide +kernel
theorem dX4_got_72 : decode cX4_got 72 = .ok (.ldc2_w 51, 3) := by decide +kernel
theorem dX4_got_75 : decode cX4_got 75 = .ok (.lmul, 1) := by decide +kernel
theorem dX4_got_76 : decode cX4_got 76 = .ok (.iload_n 1, 1) := by decide +kernel
theorem dX4_got_77 : decode cX4_got 77 = .ok (.ifCond .ne 7, 3) := by decide +kernel
theorem dX4_got_80 : decode cX4_got 80 = .ok (.iconst 1, 1) := by decide +kernel
theorem dX4_got_81 : decode cX4_got 81 = .ok (.goto 4, 3) := by decide +kernel
theorem dX4_got_84 : decode cX4_got 84 = .ok (.iconst 0, 1) := by decide +kernel
theorem dX4_got_85 : decode cX4_got 85 = .ok (.invokestatic 159, 3) := by decide +kernel
theorem dX4_got_88 : decode cX4_got 88 = .ok (.lreturn, 1) := by decide +kernel
set_option maxRecDepth 20000 in
theorem ggX4_saw_X4_isPart : GoodIn wsX4_saw wsX4_isPart := goodIn_r _ [7, 8, 9, 10, 6, 11, 12, 13, 14, 15, 16, 17, 18, 19, 20, 21, 22, 23, 24, 25, 26, 27, 28, 29, 30, 31, 32, 33, 34] (by decide +kernel) (by decide +kernel)
set_option maxRecDepth 20000 in
theorem gX4_saw_X4_isPart : GoodIn wsX4_saw (wsV RX4 163 RX4 yX4_isPart wsX4_isPart) := goodIn_app (goodIn_of _ (by decide +kernel)) ggX4_saw_X4_isPart
theorem dX4_saw_0 : decode cX4_saw 0 = .ok (.aload_n 0, 1) := by decide +kernel
theorem dX4_saw_1 : decode cX4_saw 1 = .ok (.iload_n 1, 1) := by decide +kernel
theorem dX4_saw_2 : decode cX4_saw 2 = .ok (.invokevirtual 163, 3) := by decide +kernel
theorem dX4_saw_5 : decode cX4_saw 5 = .ok (.ifCond .ne 5, 3) := by decide +kernel
theorem dX4_saw_8 : decode cX4_saw 8 = .ok (.iconst (-1), 1) := by decide +kernel
theorem dX4_saw_9 : decode cX4_saw 9 = .ok (.ireturn, 1) := by decide +kernel
theorem dX4_saw_10 : decode cX4_saw 10 = .ok (.aload_n 0, 1) := by decide +kernel
theorem dX4_saw_11 : decode cX4_saw 11 = .ok (.getfield 147, 3) := by decide +kernel
theorem dX4_saw_14 : decode cX4_saw 14 = .ok (.bipush 8, 2) := by decide +kernel
theorem dX4_saw_16 : decode cX4_saw 16 = .ok (.if_icmp .ne 6, 3) := by decide +kernel
theorem dX4_saw_19 : decode cX4_saw 19 = .ok (.bipush (-3), 2) := by decide +kernel
theorem dX4_saw_21 : decode cX4_saw 21 = .ok (.ireturn, 1) := by decide +kernel
theorem dX4_saw_22 : decode cX4_saw 22 = .ok (.aload_n 0, 1) := by decide +kernel
theorem dX4_saw_23 : decode cX4_saw 23 = .ok (.getfield 36, 3) := by decide +kernel
theorem dX4_saw_26 : decode cX4_saw 26 = .ok (.aload_n 0, 1) := by decide +kernel
theorem dX4_saw_27 : decode cX4_saw 27 = .ok (.getfield 147, 3) := by decide +kernel
theorem dX4_saw_30 : decode cX4_saw 30 = .ok (.iload_n 1, 1) := by decide +kernel
theorem dX4_saw_31 : decode cX4_saw 31 = .ok (.iastore, 1) := by decide +kernel
theorem dX4_saw_32 : decode cX4_saw 32 = .ok (.aload_n 0, 1) := by decide +kernel
theorem dX4_saw_33 : decode cX4_saw 33 = .ok (.dup, 1) := by decide +kernel
theorem dX4_saw_34 : decode cX4_saw 34 = .ok (.getfield 147, 3) := by decide +kernel
theorem dX4_saw_37 : decode cX4_saw 37 = .ok (.iconst 1, 1) := by decide +kernel
theorem dX4_saw_38 : decode cX4_saw 38 = .ok (.iadd, 1) := by decide +kernel
theorem dX4_saw_39 : decode cX4_saw 39 = .ok (.putfield 147, 3) := by decide +kernel
theorem dX4_saw_42 : decode cX4_saw 42 = .ok (.aload_n 0, 1) := by decide +kernel
theorem dX4_saw_43 : decode cX4_saw 43 = .ok (.getfield 147, 3) := by decide +kernel
theorem dX4_saw_46 : decode cX4_saw 46 = .ok (.ireturn, 1) := by decide +kernel
theorem dX4_forget_0 : decode cX4_forget 0 = .ok (.aload_n 0, 1) := by decide +kernel
theorem dX4_forget_1 : decode cX4_forget 1 = .ok (.getfield 147, 3) := by decide +kernel
theorem dX4_forget_4 : decode cX4_forget 4 = .ok (.istore_n 1, 1) := by decide +kernel
theorem dX4_forget_5 : decode cX4_forget 5 = .ok (.aload_n 0, 1) := by decide +kernel
theorem dX4_forget_6 : decode cX4_forget 6 = .ok (.iconst 0, 1) := by decide +kernel
theorem dX4_forget_7 : decode cX4_forget 7 = .ok (.putfield 147, 3) := by decide +kernel
theorem dX4_forget_10 : decode cX4_forget 10 = .ok (.iload_n 1, 1) := by decide +kernel
theorem dX4_forget_11 : decode cX4_forget 11 = .ok (.ireturn, 1) := by decide +kernel
set_option maxRecDepth 20000 in
theorem ggX4_from_X4_in : GoodIn wsX4_from wsX4_in := goodIn_r _ [7] (by decide +kernel) (by decide +kernel)
set_option maxRecDepth 20000 in
theorem gX4_from_X4_in : GoodIn wsX4_from (va_wsS RX4 57 yX4_in wsX4_in) := goodIn_app (goodIn_of _ (by decide +kernel)) ggX4_from_X4_in
set_option maxRecDepth 20000 in
theorem ggX4_from_X4_goes : GoodIn wsX4_from wsX4_goes := goodIn_r _ [10] (by decide +kernel) (by decide +kernel)
set_option maxRecDepth 20000 in
theorem gX4_from_X4_goes : GoodIn wsX4_from (va_wsS RX4 166 yX4_goes wsX4_goes) := goodIn_app (goodIn_of _ (by decide +kernel)) ggX4_from_X4_goes
theorem dX4_from_0 : decode cX4_from 0 = .ok (.iload_n 1, 1) := by decide +kernel
theorem dX4_from_1 : decode cX4_from 1 = .ok (.i2l, 1) := by decide +kernel
theorem dX4_from_2 : decode cX4_from 2 = .ok (.lconst 0, 1) := by decide +kernel
theorem dX4_from_3 : decode cX4_from 3 = .ok (.lconst 1, 1) := by decide +kernel
theorem dX4_from_4 : decode cX4_from 4 = .ok (.invokestatic 57, 3) := by decide +kernel
theorem dX4_from_7 : decode cX4_from 7 = .ok (.ifCond .ne 5, 3) := by decide +kernel
theorem dX4_from_10 : decode cX4_from 10 = .ok (.iconst (-1), 1) := by decide +kernel
theorem dX4_from_11 : decode cX4_from 11 = .ok (.ireturn, 1) := by decide +kernel
theorem dX4_from_12 : decode cX4_from 12 = .ok (.lconst 0, 1) := by decide +kernel
theorem dX4_from_13 : decode cX4_from 13 = .ok (.lstore_n 2, 1) := by decide +kernel
theorem dX4_from_14 : decode cX4_from 14 = .ok (.iconst 0, 1) := by decide +kernel
theorem dX4_from_15 : decode cX4_from 15 = .ok (.istore 4, 2) := by decide +kernel
theorem dX4_from_17 : decode cX4_from 17 = .ok (.iload 4, 2) := by decide +kernel
theorem dX4_from_19 : decode cX4_from 19 = .ok (.aload_n 0, 1) := by decide +kernel
theorem dX4_from_20 : decode cX4_from 20 = .ok (.getfield 147, 3) := by decide +kernel
theorem dX4_from_23 : decode cX4_from 23 = .ok (.if_icmp .ge 21, 3) := by decide +kernel
theorem dX4_from_26 : decode cX4_from 26 = .ok (.lload_n 2, 1) := by decide +kernel
theorem dX4_from_27 : decode cX4_from 27 = .ok (.lconst 1, 1) := by decide +kernel
theorem dX4_from_28 : decode cX4_from 28 = .ok (.aload_n 0, 1) := by decide +kernel
theorem dX4_from_29 : decode cX4_from 29 = .ok (.getfield 36, 3) := by decide +kernel
theorem dX4_from_32 : decode cX4_from 32 = .ok (.iload 4, 2) := by decide +kernel
theorem dX4_from_34 : decode cX4_from 34 = .ok (.iaload, 1) := by decide +kernel
theorem dX4_from_35 : decode cX4_from 35 = .ok (.lshl, 1) := by decide +kernel
theorem dX4_from_36 : decode cX4_from 36 = .ok (.lor, 1) := by decide +kernel
theorem dX4_from_37 : decode cX4_from 37 = .ok (.lstore_n 2, 1) := by decide +kernel
theorem dX4_from_38 : decode cX4_from 38 = .ok (.iinc 4 1, 3) := by decide +kernel
theorem dX4_from_41 : decode cX4_from 41 = .ok (.goto (-24), 3) := by decide +kernel
theorem dX4_from_44 : decode cX4_from 44 = .ok (.iconst 0, 1) := by decide +kernel
theorem dX4_from_45 : decode cX4_from 45 = .ok (.istore 4, 2) := by decide +kernel
theorem dX4_from_47 : decode cX4_from 47 = .ok (.bipush (-9), 2) := by decide +kernel
theorem dX4_from_49 : decode cX4_from 49 = .ok (.istore 5, 2) := by decide +kernel
theorem dX4_from_51 : decode cX4_from 51 = .ok (.aload_n 0, 1) := by decide +kernel
theorem dX4_from_52 : decode cX4_from 52 = .ok (.getfield 13, 3) := by decide +kernel
theorem dX4_from_55 : decode cX4_from 55 = .ok (.iconst 1, 1) := by decide +kernel
theorem dX4_from_56 : decode cX4_from 56 = .ok (.isub, 1) := by decide +kernel
theorem dX4_from_57 : decode cX4_from 57 = .ok (.istore 6, 2) := by decide +kernel
theorem dX4_from_59 : decode cX4_from 59 = .ok (.iload 6, 2) := by decide +kernel
theorem dX4_from_61 : decode cX4_from 61 = .ok (.ifCond .le 85, 3) := by decide +kernel
theorem dX4_from_64 : decode cX4_from 64 = .ok (.lconst 0, 1) := by decide +kernel
theorem dX4_from_65 : decode cX4_from 65 = .ok (.lstore 7, 2) := by decide +kernel
theorem dX4_from_67 : decode cX4_from 67 = .ok (.iload 6, 2) := by decide +kernel
theorem dX4_from_69 : decode cX4_from 69 = .ok (.istore 9, 2) := by decide +kernel
theorem dX4_from_71 : decode cX4_from 71 = .ok (.iconst 0, 1) := by decide +kernel
theorem dX4_from_72 : decode cX4_from 72 = .ok (.istore 10, 2) := by decide +kernel
theorem dX4_from_74 : decode cX4_from 74 = .ok (.iload 10, 2) := by decide +kernel
theorem dX4_from_76 : decode cX4_from 76 = .ok (.bipush 20, 2) := by decide +kernel
theorem dX4_from_78 : decode cX4_from 78 = .ok (.if_icmp .gt 62, 3) := by decide +kernel
theorem dX4_from_81 : decode cX4_from 81 = .ok (.lload 7, 2) := by decide +kernel
theorem dX4_from_83 : decode cX4_from 83 = .ok (.lconst 1, 1) := by decide +kernel
theorem dX4_from_84 : decode cX4_from 84 = .ok (.iload 9, 2) := by decide +kernel
theorem dX4_from_86 : decode cX4_from 86 = .ok (.lshl, 1) := by decide +kernel
theorem dX4_from_87 : decode cX4_from 87 = .ok (.lor, 1) := by decide +kernel
theorem dX4_from_88 : decode cX4_from 88 = .ok (.lstore 7, 2) := by decide +kernel
theorem dX4_from_90 : decode cX4_from 90 = .ok (.iload 4, 2) := by decide +kernel
theorem dX4_from_92 : decode cX4_from 92 = .ok (.lload 7, 2) := by decide +kernel
theorem dX4_from_94 : decode cX4_from 94 = .ok (.lload_n 2, 1) := by decide +kernel
theorem dX4_from_95 : decode cX4_from 95 = .ok (.lcmp, 1) := by decide +kernel
theorem dX4_from_96 : decode cX4_from 96 = .ok (.ifCond .ne 7, 3) := by decide +kernel
theorem dX4_from_99 : decode cX4_from 99 = .ok (.iconst 1, 1) := by decide +kernel
theorem dX4_from_100 : decode cX4_from 100 = .ok (.goto 4, 3) := by decide +kernel
theorem dX4_from_103 : decode cX4_from 103 = .ok (.iconst 0, 1) := by decide +kernel
theorem dX4_from_104 : decode cX4_from 104 = .ok (.iadd, 1) := by decide +kernel
theorem dX4_from_105 : decode cX4_from 105 = .ok (.istore 4, 2) := by decide +kernel
theorem dX4_from_107 : decode cX4_from 107 = .ok (.lload 7, 2) := by decide +kernel
theorem dX4_from_109 : decode cX4_from 109 = .ok (.lload_n 2, 1) := by decide +kernel
theorem dX4_from_110 : decode cX4_from 110 = .ok (.lcmp, 1) := by decide +kernel
theorem dX4_from_111 : decode cX4_from 111 = .ok (.ifCond .ne 8, 3) := by decide +kernel
theorem dX4_from_114 : decode cX4_from 114 = .ok (.iload 6, 2) := by decide +kernel
theorem dX4_from_116 : decode cX4_from 116 = .ok (.goto 5, 3) := by decide +kernel
theorem dX4_from_119 : decode cX4_from 119 = .ok (.iload 5, 2) := by decide +kernel
theorem dX4_from_121 : decode cX4_from 121 = .ok (.istore 5, 2) := by decide +kernel
theorem dX4_from_123 : decode cX4_from 123 = .ok (.iload 9, 2) := by decide +kernel
theorem dX4_from_125 : decode cX4_from 125 = .ok (.aload_n 0, 1) := by decide +kernel
theorem dX4_from_126 : decode cX4_from 126 = .ok (.getfield 13, 3) := by decide +kernel
theorem dX4_from_129 : decode cX4_from 129 = .ok (.invokestatic 166, 3) := by decide +kernel
theorem dX4_from_132 : decode cX4_from 132 = .ok (.istore 9, 2) := by decide +kernel
theorem dX4_from_134 : decode cX4_from 134 = .ok (.iinc 10 1, 3) := by decide +kernel
theorem dX4_from_137 : decode cX4_from 137 = .ok (.goto (-63), 3) := by decide +kernel
theorem dX4_from_140 : decode cX4_from 140 = .ok (.iinc 6 (-1), 3) := by decide +kernel
theorem dX4_from_143 : decode cX4_from 143 = .ok (.goto (-84), 3) := by decide +kernel
theorem dX4_from_146 : decode cX4_from 146 = .ok (.iload_n 1, 1) := by decide +kernel
theorem dX4_from_147 : decode cX4_from 147 = .ok (.ifCond .ne 8, 3) := by decide +kernel
theorem dX4_from_150 : decode cX4_from 150 = .ok (.iload 4, 2) := by decide +kernel
theorem dX4_from_152 : decode cX4_from 152 = .ok (.goto 5, 3) := by decide +kernel
theorem dX4_from_155 : decode cX4_from 155 = .ok (.iload 5, 2) := by decide +kernel
theorem dX4_from_157 : decode cX4_from 157 = .ok (.ireturn, 1) := by decide +kernel
set_option maxRecDepth 20000 in
theorem ggX4_mark_X4_in : GoodIn wsX4_mark wsX4_in := goodIn_r _ [15] (by decide +kernel) (by decide +kernel)
set_option maxRecDepth 20000 in
theorem gX4_mark_X4_in : GoodIn wsX4_mark (va_wsS RX4 57 yX4_in wsX4_in) := goodIn_app (goodIn_of _ (by decide +kernel)) ggX4_mark_X4_in
set_option maxRecDepth 20000 in
theorem ggX4_mark_X4_isCrease : GoodIn wsX4_mark wsX4_isCrease := goodIn_r _ [19, 9, 12, 13, 14, 15, 26, 27, 28, 29, 30, 31, 32, 33, 34, 35, 36, 37, 38, 39, 40, 41, 42, 43, 44, 45, 46, 47, 48] (by decide +kernel) (by decide +kernel)
set_option maxRecDepth 20000 in
theorem gX4_mark_X4_isCrease : GoodIn wsX4_mark (wsV RX4 150 RX4 yX4_isCrease wsX4_isCrease) := goodIn_app (goodIn_of _ (by decide +kernel)) ggX4_mark_X4_isCrease
set_option maxRecDepth 20000 in
theorem ggX4_mark_X4_partOf : GoodIn wsX4_mark wsX4_partOf := goodIn_r _ [23, 24, 25, 26, 27, 28, 29, 30, 31, 32, 33, 34, 35, 36, 37, 38, 39, 40, 41, 42, 43, 44, 45, 46, 47, 48] (by decide +kernel) (by decide +kernel)
set_option maxRecDepth 20000 in
theorem gX4_mark_X4_partOf : GoodIn wsX4_mark (wsV RX4 155 RX4 yX4_partOf wsX4_partOf) := goodIn_app (goodIn_of _ (by decide +kernel)) ggX4_mark_X4_partOf
theorem dX4_mark_0 : decode cX4_mark 0 = .ok (.iload_n 1, 1) := by decide +kernel
theorem dX4_mark_1 : decode cX4_mark 1 = .ok (.i2l, 1) := by decide +kernel
theorem dX4_mark_2 : decode cX4_mark 2 = .ok (.lconst 0, 1) := by decide +kernel
theorem dX4_mark_3 : decode cX4_mark 3 = .ok (.ldc2_w 181, 3) := by decide +kernel
theorem dX4_mark_6 : decode cX4_mark 6 = .ok (.invokestatic 57, 3) := by decide +kernel
theorem dX4_mark_9 : decode cX4_mark 9 = .ok (.ifCond .eq 11, 3) := by decide +kernel
theorem dX4_mark_12 : decode cX4_mark 12 = .ok (.aload_n 0, 1) := by decide +kernel
theorem dX4_mark_13 : decode cX4_mark 13 = .ok (.iload_n 2, 1) := by decide +kernel
theorem dX4_mark_14 : decode cX4_mark 14 = .ok (.invokevirtual 150, 3) := by decide +kernel
theorem dX4_mark_17 : decode cX4_mark 17 = .ok (.ifCond .ne 6, 3) := by decide +kernel
theorem dX4_mark_20 : decode cX4_mark 20 = .ok (.ldc 183, 2) := by decide +kernel
theorem dX4_mark_22 : decode cX4_mark 22 = .ok (.ireturn, 1) := by decide +kernel
theorem dX4_mark_23 : decode cX4_mark 23 = .ok (.aload_n 0, 1) := by decide +kernel
theorem dX4_mark_24 : decode cX4_mark 24 = .ok (.dup, 1) := by decide +kernel
theorem dX4_mark_25 : decode cX4_mark 25 = .ok (.getfield 184, 3) := by decide +kernel
theorem dX4_mark_28 : decode cX4_mark 28 = .ok (.iload_n 1, 1) := by decide +kernel
theorem dX4_mark_29 : decode cX4_mark 29 = .ok (.ifCond .ne 7, 3) := by decide +kernel
theorem dX4_mark_32 : decode cX4_mark 32 = .ok (.lconst 1, 1) := by decide +kernel
theorem dX4_mark_33 : decode cX4_mark 33 = .ok (.goto 50, 3) := by decide +kernel
theorem dX4_mark_36 : decode cX4_mark 36 = .ok (.iload_n 1, 1) := by decide +kernel
theorem dX4_mark_37 : decode cX4_mark 37 = .ok (.iconst 1, 1) := by decide +kernel
theorem dX4_mark_38 : decode cX4_mark 38 = .ok (.if_icmp .ne 9, 3) := by decide +kernel
theorem dX4_mark_41 : decode cX4_mark 41 = .ok (.ldc2_w 187, 3) := by decide +kernel
theorem dX4_mark_44 : decode cX4_mark 44 = .ok (.goto 39, 3) := by decide +kernel
theorem dX4_mark_47 : decode cX4_mark 47 = .ok (.iload_n 1, 1) := by decide +kernel
theorem dX4_mark_48 : decode cX4_mark 48 = .ok (.iconst 2, 1) := by decide +kernel
theorem dX4_mark_49 : decode cX4_mark 49 = .ok (.if_icmp .ne 9, 3) := by decide +kernel
theorem dX4_mark_52 : decode cX4_mark 52 = .ok (.ldc2_w 189, 3) := by decide +kernel
theorem dX4_mark_55 : decode cX4_mark 55 = .ok (.goto 28, 3) := by decide +kernel
theorem dX4_mark_58 : decode cX4_mark 58 = .ok (.iload_n 1, 1) := by decide +kernel
theorem dX4_mark_59 : decode cX4_mark 59 = .ok (.iconst 3, 1) := by decide +kernel
theorem dX4_mark_60 : decode cX4_mark 60 = .ok (.if_icmp .ne 9, 3) := by decide +kernel
theorem dX4_mark_63 : decode cX4_mark 63 = .ok (.ldc2_w 191, 3) := by decide +kernel
theorem dX4_mark_66 : decode cX4_mark 66 = .ok (.goto 17, 3) := by decide +kernel
theorem dX4_mark_69 : decode cX4_mark 69 = .ok (.iload_n 1, 1) := by decide +kernel
theorem dX4_mark_70 : decode cX4_mark 70 = .ok (.iconst 4, 1) := by decide +kernel
theorem dX4_mark_71 : decode cX4_mark 71 = .ok (.if_icmp .ne 9, 3) := by decide +kernel
theorem dX4_mark_74 : decode cX4_mark 74 = .ok (.ldc2_w 193, 3) := by decide +kernel
theorem dX4_mark_77 : decode cX4_mark 77 = .ok (.goto 6, 3) := by decide +kernel
theorem dX4_mark_80 : decode cX4_mark 80 = .ok (.ldc2_w 195, 3) := by decide +kernel
theorem dX4_mark_83 : decode cX4_mark 83 = .ok (.ladd, 1) := by decide +kernel
theorem dX4_mark_84 : decode cX4_mark 84 = .ok (.putfield 184, 3) := by decide +kernel
theorem dX4_mark_87 : decode cX4_mark 87 = .ok (.aload_n 0, 1) := by decide +kernel
theorem dX4_mark_88 : decode cX4_mark 88 = .ok (.iload_n 2, 1) := by decide +kernel
theorem dX4_mark_89 : decode cX4_mark 89 = .ok (.invokevirtual 155, 3) := by decide +kernel
theorem dX4_mark_92 : decode cX4_mark 92 = .ok (.istore_n 3, 1) := by decide +kernel
theorem dX4_mark_93 : decode cX4_mark 93 = .ok (.iload_n 2, 1) := by decide +kernel
theorem dX4_mark_94 : decode cX4_mark 94 = .ok (.iload_n 3, 1) := by decide +kernel
theorem dX4_mark_95 : decode cX4_mark 95 = .ok (.bipush (-9), 2) := by decide +kernel
theorem dX4_mark_97 : decode cX4_mark 97 = .ok (.if_icmp .ne 7, 3) := by decide +kernel
theorem dX4_mark_100 : decode cX4_mark 100 = .ok (.iconst 0, 1) := by decide +kernel
theorem dX4_mark_101 : decode cX4_mark 101 = .ok (.goto 4, 3) := by decide +kernel
theorem dX4_mark_104 : decode cX4_mark 104 = .ok (.iload_n 3, 1) := by decide +kernel
theorem dX4_mark_105 : decode cX4_mark 105 = .ok (.iadd, 1) := by decide +kernel
theorem dX4_mark_106 : decode cX4_mark 106 = .ok (.istore 4, 2) := by decide +kernel
theorem dX4_mark_108 : decode cX4_mark 108 = .ok (.iload_n 2, 1) := by decide +kernel
theorem dX4_mark_109 : decode cX4_mark 109 = .ok (.aload_n 0, 1) := by decide +kernel
theorem dX4_mark_110 : decode cX4_mark 110 = .ok (.getfield 20, 3) := by decide +kernel
theorem dX4_mark_113 : decode cX4_mark 113 = .ok (.isub, 1) := by decide +kernel
theorem dX4_mark_114 : decode cX4_mark 114 = .ok (.istore 5, 2) := by decide +kernel
theorem dX4_mark_116 : decode cX4_mark 116 = .ok (.iload_n 1, 1) := by decide +kernel
theorem dX4_mark_117 : decode cX4_mark 117 = .ok (.ifCond .ne 7, 3) := by decide +kernel
theorem dX4_mark_120 : decode cX4_mark 120 = .ok (.iload_n 2, 1) := by decide +kernel
theorem dX4_mark_121 : decode cX4_mark 121 = .ok (.goto 56, 3) := by decide +kernel
theorem dX4_mark_124 : decode cX4_mark 124 = .ok (.iload_n 1, 1) := by decide +kernel
theorem dX4_mark_125 : decode cX4_mark 125 = .ok (.iconst 1, 1) := by decide +kernel
theorem dX4_mark_126 : decode cX4_mark 126 = .ok (.if_icmp .ne 8, 3) := by decide +kernel
theorem dX4_mark_129 : decode cX4_mark 129 = .ok (.iload 4, 2) := by decide +kernel
theorem dX4_mark_131 : decode cX4_mark 131 = .ok (.goto 46, 3) := by decide +kernel
theorem dX4_mark_134 : decode cX4_mark 134 = .ok (.iload_n 1, 1) := by decide +kernel
theorem dX4_mark_135 : decode cX4_mark 135 = .ok (.iconst 2, 1) := by decide +kernel
theorem dX4_mark_136 : decode cX4_mark 136 = .ok (.if_icmp .ne 8, 3) := by decide +kernel
theorem dX4_mark_139 : decode cX4_mark 139 = .ok (.iload 5, 2) := by decide +kernel
theorem dX4_mark_141 : decode cX4_mark 141 = .ok (.goto 36, 3) := by decide +kernel
theorem dX4_mark_144 : decode cX4_mark 144 = .ok (.iload_n 1, 1) := by decide +kernel
theorem dX4_mark_145 : decode cX4_mark 145 = .ok (.iconst 3, 1) := by decide +kernel
theorem dX4_mark_146 : decode cX4_mark 146 = .ok (.if_icmp .ne 10, 3) := by decide +kernel
theorem dX4_mark_149 : decode cX4_mark 149 = .ok (.iconst 2, 1) := by decide +kernel
theorem dX4_mark_150 : decode cX4_mark 150 = .ok (.iload 4, 2) := by decide +kernel
theorem dX4_mark_152 : decode cX4_mark 152 = .ok (.imul, 1) := by decide +kernel
theorem dX4_mark_153 : decode cX4_mark 153 = .ok (.goto 24, 3) := by decide +kernel
theorem dX4_mark_156 : decode cX4_mark 156 = .ok (.iload_n 1, 1) := by decide +kernel
theorem dX4_mark_157 : decode cX4_mark 157 = .ok (.iconst 4, 1) := by decide +kernel
theorem dX4_mark_158 : decode cX4_mark 158 = .ok (.if_icmp .ne 13, 3) := by decide +kernel
theorem dX4_mark_161 : decode cX4_mark 161 = .ok (.iload 5, 2) := by decide +kernel
theorem dX4_mark_163 : decode cX4_mark 163 = .ok (.aload_n 0, 1) := by decide +kernel
theorem dX4_mark_164 : decode cX4_mark 164 = .ok (.getfield 144, 3) := by decide +kernel
theorem dX4_mark_167 : decode cX4_mark 167 = .ok (.iadd, 1) := by decide +kernel
theorem dX4_mark_168 : decode cX4_mark 168 = .ok (.goto 9, 3) := by decide +kernel
theorem dX4_mark_171 : decode cX4_mark 171 = .ok (.iload_n 2, 1) := by decide +kernel
theorem dX4_mark_172 : decode cX4_mark 172 = .ok (.aload_n 0, 1) := by decide +kernel
theorem dX4_mark_173 : decode cX4_mark 173 = .ok (.getfield 13, 3) := by decide +kernel
theorem dX4_mark_176 : decode cX4_mark 176 = .ok (.iadd, 1) := by decide +kernel
theorem dX4_mark_177 : decode cX4_mark 177 = .ok (.ireturn, 1) := by decide +kernel
set_option maxRecDepth 20000 in
theorem ggX4_keep_X4_in : GoodIn wsX4_keep wsX4_in := goodIn_r _ [13] (by decide +kernel) (by decide +kernel)
set_option maxRecDepth 20000 in
theorem gX4_keep_X4_in : GoodIn wsX4_keep (va_wsS RX4 57 yX4_in wsX4_in) := goodIn_app (goodIn_of _ (by decide +kernel)) ggX4_keep_X4_in
theorem dX4_keep_0 : decode cX4_keep 0 = .ok (.iload_n 1, 1) := by decide +kernel
theorem dX4_keep_1 : decode cX4_keep 1 = .ok (.i2l, 1) := by decide +kernel
theorem dX4_keep_2 : decode cX4_keep 2 = .ok (.lconst 0, 1) := by decide +kernel
theorem dX4_keep_3 : decode cX4_keep 3 = .ok (.lconst 1, 1) := by decide +kernel
theorem dX4_keep_4 : decode cX4_keep 4 = .ok (.invokestatic 57, 3) := by decide +kernel
theorem dX4_keep_7 : decode cX4_keep 7 = .ok (.ifCond .ne 5, 3) := by decide +kernel
theorem dX4_keep_10 : decode cX4_keep 10 = .ok (.iconst (-1), 1) := by decide +kernel
theorem dX4_keep_11 : decode cX4_keep 11 = .ok (.ireturn, 1) := by decide +kernel
theorem dX4_keep_12 : decode cX4_keep 12 = .ok (.bipush 100, 2) := by decide +kernel
theorem dX4_keep_14 : decode cX4_keep 14 = .ok (.iload_n 1, 1) := by decide +kernel
theorem dX4_keep_15 : decode cX4_keep 15 = .ok (.imul, 1) := by decide +kernel
theorem dX4_keep_16 : decode cX4_keep 16 = .ok (.istore_n 2, 1) := by decide +kernel
theorem dX4_keep_17 : decode cX4_keep 17 = .ok (.aload_n 0, 1) := by decide +kernel
theorem dX4_keep_18 : decode cX4_keep 18 = .ok (.getfield 39, 3) := by decide +kernel
theorem dX4_keep_21 : decode cX4_keep 21 = .ok (.iload_n 2, 1) := by decide +kernel
theorem dX4_keep_22 : decode cX4_keep 22 = .ok (.lconst 1, 1) := by decide +kernel
theorem dX4_keep_23 : decode cX4_keep 23 = .ok (.lastore, 1) := by decide +kernel
theorem dX4_keep_24 : decode cX4_keep 24 = .ok (.aload_n 0, 1) := by decide +kernel
theorem dX4_keep_25 : decode cX4_keep 25 = .ok (.getfield 39, 3) := by decide +kernel
theorem dX4_keep_28 : decode cX4_keep 28 = .ok (.iload_n 2, 1) := by decide +kernel
theorem dX4_keep_29 : decode cX4_keep 29 = .ok (.iconst 1, 1) := by decide +kernel
theorem dX4_keep_30 : decode cX4_keep 30 = .ok (.iadd, 1) := by decide +kernel
theorem dX4_keep_31 : decode cX4_keep 31 = .ok (.aload_n 0, 1) := by decide +kernel
theorem dX4_keep_32 : decode cX4_keep 32 = .ok (.getfield 20, 3) := by decide +kernel
theorem dX4_keep_35 : decode cX4_keep 35 = .ok (.i2l, 1) := by decide +kernel
theorem dX4_keep_36 : decode cX4_keep 36 = .ok (.lastore, 1) := by decide +kernel
theorem dX4_keep_37 : decode cX4_keep 37 = .ok (.aload_n 0, 1) := by decide +kernel
theorem dX4_keep_38 : decode cX4_keep 38 = .ok (.getfield 39, 3) := by decide +kernel
theorem dX4_keep_41 : decode cX4_keep 41 = .ok (.iload_n 2, 1) := by decide +kernel
theorem dX4_keep_42 : decode cX4_keep 42 = .ok (.iconst 2, 1) := by decide +kernel
theorem dX4_keep_43 : decode cX4_keep 43 = .ok (.iadd, 1) := by decide +kernel
theorem dX4_keep_44 : decode cX4_keep 44 = .ok (.aload_n 0, 1) := by decide +kernel
theorem dX4_keep_45 : decode cX4_keep 45 = .ok (.getfield 144, 3) := by decide +kernel
theorem dX4_keep_48 : decode cX4_keep 48 = .ok (.i2l, 1) := by decide +kernel
theorem dX4_keep_49 : decode cX4_keep 49 = .ok (.lastore, 1) := by decide +kernel
theorem dX4_keep_50 : decode cX4_keep 50 = .ok (.aload_n 0, 1) := by decide +kernel
theorem dX4_keep_51 : decode cX4_keep 51 = .ok (.getfield 39, 3) := by decide +kernel
theorem dX4_keep_54 : decode cX4_keep 54 = .ok (.iload_n 2, 1) := by decide +kernel
theorem dX4_keep_55 : decode cX4_keep 55 = .ok (.iconst 3, 1) := by decide +kernel
theorem dX4_keep_56 : decode cX4_keep 56 = .ok (.iadd, 1) := by decide +kernel
theorem dX4_keep_57 : decode cX4_keep 57 = .ok (.aload_n 0, 1) := by decide +kernel
theorem dX4_keep_58 : decode cX4_keep 58 = .ok (.getfield 147, 3) := by decide +kernel
theorem dX4_keep_61 : decode cX4_keep 61 = .ok (.i2l, 1) := by decide +kernel
theorem dX4_keep_62 : decode cX4_keep 62 = .ok (.lastore, 1) := by decide +kernel
theorem dX4_keep_63 : decode cX4_keep 63 = .ok (.iconst 0, 1) := by decide +kernel
theorem dX4_keep_64 : decode cX4_keep 64 = .ok (.istore_n 3, 1) := by decide +kernel
theorem dX4_keep_65 : decode cX4_keep 65 = .ok (.iload_n 3, 1) := by decide +kernel
theorem dX4_keep_66 : decode cX4_keep 66 = .ok (.bipush 12, 2) := by decide +kernel
theorem dX4_keep_68 : decode cX4_keep 68 = .ok (.if_icmp .ge 26, 3) := by decide +kernel
theorem dX4_keep_71 : decode cX4_keep 71 = .ok (.aload_n 0, 1) := by decide +kernel
theorem dX4_keep_72 : decode cX4_keep 72 = .ok (.getfield 39, 3) := by decide +kernel
theorem dX4_keep_75 : decode cX4_keep 75 = .ok (.iload_n 2, 1) := by decide +kernel
theorem dX4_keep_76 : decode cX4_keep 76 = .ok (.iconst 4, 1) := by decide +kernel
theorem dX4_keep_77 : decode cX4_keep 77 = .ok (.iadd, 1) := by decide +kernel
theorem dX4_keep_78 : decode cX4_keep 78 = .ok (.iload_n 3, 1) := by decide +kernel
theorem dX4_keep_79 : decode cX4_keep 79 = .ok (.iadd, 1) := by decide +kernel
theorem dX4_keep_80 : decode cX4_keep 80 = .ok (.aload_n 0, 1) := by decide +kernel
theorem dX4_keep_81 : decode cX4_keep 81 = .ok (.getfield 33, 3) := by decide +kernel
theorem dX4_keep_84 : decode cX4_keep 84 = .ok (.iload_n 3, 1) := by decide +kernel
theorem dX4_keep_85 : decode cX4_keep 85 = .ok (.iaload, 1) := by decide +kernel
theorem dX4_keep_86 : decode cX4_keep 86 = .ok (.i2l, 1) := by decide +kernel
theorem dX4_keep_87 : decode cX4_keep 87 = .ok (.lastore, 1) := by decide +kernel
theorem dX4_keep_88 : decode cX4_keep 88 = .ok (.iinc 3 1, 3) := by decide +kernel
theorem dX4_keep_91 : decode cX4_keep 91 = .ok (.goto (-26), 3) := by decide +kernel
theorem dX4_keep_94 : decode cX4_keep 94 = .ok (.iconst 0, 1) := by decide +kernel
theorem dX4_keep_95 : decode cX4_keep 95 = .ok (.istore_n 3, 1) := by decide +kernel
theorem dX4_keep_96 : decode cX4_keep 96 = .ok (.iload_n 3, 1) := by decide +kernel
theorem dX4_keep_97 : decode cX4_keep 97 = .ok (.bipush 8, 2) := by decide +kernel
theorem dX4_keep_99 : decode cX4_keep 99 = .ok (.if_icmp .ge 27, 3) := by decide +kernel
theorem dX4_keep_102 : decode cX4_keep 102 = .ok (.aload_n 0, 1) := by decide +kernel
theorem dX4_keep_103 : decode cX4_keep 103 = .ok (.getfield 39, 3) := by decide +kernel
theorem dX4_keep_106 : decode cX4_keep 106 = .ok (.iload_n 2, 1) := by decide +kernel
theorem dX4_keep_107 : decode cX4_keep 107 = .ok (.bipush 16, 2) := by decide +kernel
theorem dX4_keep_109 : decode cX4_keep 109 = .ok (.iadd, 1) := by decide +kernel
theorem dX4_keep_110 : decode cX4_keep 110 = .ok (.iload_n 3, 1) := by decide +kernel
theorem dX4_keep_111 : decode cX4_keep 111 = .ok (.iadd, 1) := by decide +kernel
theorem dX4_keep_112 : decode cX4_keep 112 = .ok (.aload_n 0, 1) := by decide +kernel
theorem dX4_keep_113 : decode cX4_keep 113 = .ok (.getfield 36, 3) := by decide +kernel
theorem dX4_keep_116 : decode cX4_keep 116 = .ok (.iload_n 3, 1) := by decide +kernel
theorem dX4_keep_117 : decode cX4_keep 117 = .ok (.iaload, 1) := by decide +kernel
theorem dX4_keep_118 : decode cX4_keep 118 = .ok (.i2l, 1) := by decide +kernel
theorem dX4_keep_119 : decode cX4_keep 119 = .ok (.lastore, 1) := by decide +kernel
theorem dX4_keep_120 : decode cX4_keep 120 = .ok (.iinc 3 1, 3) := by decide +kernel
theorem dX4_keep_123 : decode cX4_keep 123 = .ok (.goto (-27), 3) := by decide +kernel
theorem dX4_keep_126 : decode cX4_keep 126 = .ok (.iconst 0, 1) := by decide +kernel
theorem dX4_keep_127 : decode cX4_keep 127 = .ok (.istore_n 3, 1) := by decide +kernel
theorem dX4_keep_128 : decode cX4_keep 128 = .ok (.iload_n 3, 1) := by decide +kernel
theorem dX4_keep_129 : decode cX4_keep 129 = .ok (.bipush 23, 2) := by decide +kernel
theorem dX4_keep_131 : decode cX4_keep 131 = .ok (.if_icmp .ge 66, 3) := by decide +kernel
theorem dX4_keep_134 : decode cX4_keep 134 = .ok (.aload_n 0, 1) := by decide +kernel
theorem dX4_keep_135 : decode cX4_keep 135 = .ok (.getfield 39, 3) := by decide +kernel
theorem dX4_keep_138 : decode cX4_keep 138 = .ok (.iload_n 2, 1) := by decide +kernel
theorem dX4_keep_139 : decode cX4_keep 139 = .ok (.bipush 24, 2) := by decide +kernel
theorem dX4_keep_141 : decode cX4_keep 141 = .ok (.iadd, 1) := by decide +kernel
theorem dX4_keep_142 : decode cX4_keep 142 = .ok (.iconst 3, 1) := by decide +kernel
theorem dX4_keep_143 : decode cX4_keep 143 = .ok (.iload_n 3, 1) := by decide +kernel
theorem dX4_keep_144 : decode cX4_keep 144 = .ok (.imul, 1) := by decide +kernel
theorem dX4_keep_145 : decode cX4_keep 145 = .ok (.iadd, 1) := by decide +kernel
theorem dX4_keep_146 : decode cX4_keep 146 = .ok (.aload_n 0, 1) := by decide +kernel
theorem dX4_keep_147 : decode cX4_keep 147 = .ok (.getfield 23, 3) := by decide +kernel
theorem dX4_keep_150 : decode cX4_keep 150 = .ok (.iload_n 3, 1) := by decide +kernel
theorem dX4_keep_151 : decode cX4_keep 151 = .ok (.laload, 1) := by decide +kernel
theorem dX4_keep_152 : decode cX4_keep 152 = .ok (.lastore, 1) := by decide +kernel
theorem dX4_keep_153 : decode cX4_keep 153 = .ok (.aload_n 0, 1) := by decide +kernel
theorem dX4_keep_154 : decode cX4_keep 154 = .ok (.getfield 39, 3) := by decide +kernel
theorem dX4_keep_157 : decode cX4_keep 157 = .ok (.iload_n 2, 1) := by decide +kernel
theorem dX4_keep_158 : decode cX4_keep 158 = .ok (.bipush 25, 2) := by decide +kernel
theorem dX4_keep_160 : decode cX4_keep 160 = .ok (.iadd, 1) := by decide +kernel
theorem dX4_keep_161 : decode cX4_keep 161 = .ok (.iconst 3, 1) := by decide +kernel
theorem dX4_keep_162 : decode cX4_keep 162 = .ok (.iload_n 3, 1) := by decide +kernel
theorem dX4_keep_163 : decode cX4_keep 163 = .ok (.imul, 1) := by decide +kernel
theorem dX4_keep_164 : decode cX4_keep 164 = .ok (.iadd, 1) := by decide +kernel
theorem dX4_keep_165 : decode cX4_keep 165 = .ok (.aload_n 0, 1) := by decide +kernel
theorem dX4_keep_166 : decode cX4_keep 166 = .ok (.getfield 27, 3) := by decide +kernel
theorem dX4_keep_169 : decode cX4_keep 169 = .ok (.iload_n 3, 1) := by decide +kernel
theorem dX4_keep_170 : decode cX4_keep 170 = .ok (.laload, 1) := by decide +kernel
theorem dX4_keep_171 : decode cX4_keep 171 = .ok (.lastore, 1) := by decide +kernel
theorem dX4_keep_172 : decode cX4_keep 172 = .ok (.aload_n 0, 1) := by decide +kernel
theorem dX4_keep_173 : decode cX4_keep 173 = .ok (.getfield 39, 3) := by decide +kernel
theorem dX4_keep_176 : decode cX4_keep 176 = .ok (.iload_n 2, 1) := by decide +kernel
theorem dX4_keep_177 : decode cX4_keep 177 = .ok (.bipush 26, 2) := by decide +kernel
theorem dX4_keep_179 : decode cX4_keep 179 = .ok (.iadd, 1) := by decide +kernel
theorem dX4_keep_180 : decode cX4_keep 180 = .ok (.iconst 3, 1) := by decide +kernel
theorem dX4_keep_181 : decode cX4_keep 181 = .ok (.iload_n 3, 1) := by decide +kernel
theorem dX4_keep_182 : decode cX4_keep 182 = .ok (.imul, 1) := by decide +kernel
theorem dX4_keep_183 : decode cX4_keep 183 = .ok (.iadd, 1) := by decide +kernel
theorem dX4_keep_184 : decode cX4_keep 184 = .ok (.aload_n 0, 1) := by decide +kernel
theorem dX4_keep_185 : decode cX4_keep 185 = .ok (.getfield 30, 3) := by decide +kernel
theorem dX4_keep_188 : decode cX4_keep 188 = .ok (.iload_n 3, 1) := by decide +kernel
theorem dX4_keep_189 : decode cX4_keep 189 = .ok (.laload, 1) := by decide +kernel
theorem dX4_keep_190 : decode cX4_keep 190 = .ok (.lastore, 1) := by decide +kernel
theorem dX4_keep_191 : decode cX4_keep 191 = .ok (.iinc 3 1, 3) := by decide +kernel
theorem dX4_keep_194 : decode cX4_keep 194 = .ok (.goto (-66), 3) := by decide +kernel
theorem dX4_keep_197 : decode cX4_keep 197 = .ok (.aload_n 0, 1) := by decide +kernel
theorem dX4_keep_198 : decode cX4_keep 198 = .ok (.getfield 20, 3) := by decide +kernel
theorem dX4_keep_201 : decode cX4_keep 201 = .ok (.ireturn, 1) := by decide +kernel
set_option maxRecDepth 20000 in
theorem ggX4_back_X4_in : GoodIn wsX4_back wsX4_in := goodIn_r _ [13] (by decide +kernel) (by decide +kernel)
set_option maxRecDepth 20000 in
theorem gX4_back_X4_in : GoodIn wsX4_back (va_wsS RX4 57 yX4_in wsX4_in) := goodIn_app (goodIn_of _ (by decide +kernel)) ggX4_back_X4_in
theorem dX4_back_0 : decode cX4_back 0 = .ok (.iload_n 1, 1) := by decide +kernel
theorem dX4_back_1 : decode cX4_back 1 = .ok (.i2l, 1) := by decide +kernel
theorem dX4_back_2 : decode cX4_back 2 = .ok (.lconst 0, 1) := by decide +kernel
theorem dX4_back_3 : decode cX4_back 3 = .ok (.lconst 1, 1) := by decide +kernel
theorem dX4_back_4 : decode cX4_back 4 = .ok (.invokestatic 57, 3) := by decide +kernel
theorem dX4_back_7 : decode cX4_back 7 = .ok (.ifCond .ne 5, 3) := by decide +kernel
theorem dX4_back_10 : decode cX4_back 10 = .ok (.iconst (-1), 1) := by decide +kernel
theorem dX4_back_11 : decode cX4_back 11 = .ok (.ireturn, 1) := by decide +kernel
theorem dX4_back_12 : decode cX4_back 12 = .ok (.bipush 100, 2) := by decide +kernel
theorem dX4_back_14 : decode cX4_back 14 = .ok (.iload_n 1, 1) := by decide +kernel
theorem dX4_back_15 : decode cX4_back 15 = .ok (.imul, 1) := by decide +kernel
theorem dX4_back_16 : decode cX4_back 16 = .ok (.istore_n 2, 1) := by decide +kernel
theorem dX4_back_17 : decode cX4_back 17 = .ok (.aload_n 0, 1) := by decide +kernel
theorem dX4_back_18 : decode cX4_back 18 = .ok (.getfield 39, 3) := by decide +kernel
theorem dX4_back_21 : decode cX4_back 21 = .ok (.iload_n 2, 1) := by decide +kernel
theorem dX4_back_22 : decode cX4_back 22 = .ok (.laload, 1) := by decide +kernel
theorem dX4_back_23 : decode cX4_back 23 = .ok (.lconst 0, 1) := by decide +kernel
theorem dX4_back_24 : decode cX4_back 24 = .ok (.lcmp, 1) := by decide +kernel
theorem dX4_back_25 : decode cX4_back 25 = .ok (.ifCond .ne 6, 3) := by decide +kernel
theorem dX4_back_28 : decode cX4_back 28 = .ok (.bipush (-2), 2) := by decide +kernel
theorem dX4_back_30 : decode cX4_back 30 = .ok (.ireturn, 1) := by decide +kernel
theorem dX4_back_31 : decode cX4_back 31 = .ok (.aload_n 0, 1) := by decide +kernel
theorem dX4_back_32 : decode cX4_back 32 = .ok (.aload_n 0, 1) := by decide +kernel
theorem dX4_back_33 : decode cX4_back 33 = .ok (.getfield 39, 3) := by decide +kernel
theorem dX4_back_36 : decode cX4_back 36 = .ok (.iload_n 2, 1) := by decide +kernel
theorem dX4_back_37 : decode cX4_back 37 = .ok (.iconst 1, 1) := by decide +kernel
theorem dX4_back_38 : decode cX4_back 38 = .ok (.iadd, 1) := by decide +kernel
theorem dX4_back_39 : decode cX4_back 39 = .ok (.laload, 1) := by decide +kernel
theorem dX4_back_40 : decode cX4_back 40 = .ok (.l2i, 1) := by decide +kernel
theorem dX4_back_41 : decode cX4_back 41 = .ok (.putfield 20, 3) := by decide +kernel
theorem dX4_back_44 : decode cX4_back 44 = .ok (.aload_n 0, 1) := by decide +kernel
theorem dX4_back_45 : decode cX4_back 45 = .ok (.aload_n 0, 1) := by decide +kernel
theorem dX4_back_46 : decode cX4_back 46 = .ok (.getfield 39, 3) := by decide +kernel
theorem dX4_back_49 : decode cX4_back 49 = .ok (.iload_n 2, 1) := by decide +kernel
theorem dX4_back_50 : decode cX4_back 50 = .ok (.iconst 2, 1) := by decide +kernel
theorem dX4_back_51 : decode cX4_back 51 = .ok (.iadd, 1) := by decide +kernel
theorem dX4_back_52 : decode cX4_back 52 = .ok (.laload, 1) := by decide +kernel
theorem dX4_back_53 : decode cX4_back 53 = .ok (.l2i, 1) := by decide +kernel
theorem dX4_back_54 : decode cX4_back 54 = .ok (.putfield 144, 3) := by decide +kernel
theorem dX4_back_57 : decode cX4_back 57 = .ok (.aload_n 0, 1) := by decide +kernel
theorem dX4_back_58 : decode cX4_back 58 = .ok (.aload_n 0, 1) := by decide +kernel
theorem dX4_back_59 : decode cX4_back 59 = .ok (.getfield 39, 3) := by decide +kernel
theorem dX4_back_62 : decode cX4_back 62 = .ok (.iload_n 2, 1) := by decide +kernel
theorem dX4_back_63 : decode cX4_back 63 = .ok (.iconst 3, 1) := by decide +kernel
theorem dX4_back_64 : decode cX4_back 64 = .ok (.iadd, 1) := by decide +kernel
theorem dX4_back_65 : decode cX4_back 65 = .ok (.laload, 1) := by decide +kernel
theorem dX4_back_66 : decode cX4_back 66 = .ok (.l2i, 1) := by decide +kernel
theorem dX4_back_67 : decode cX4_back 67 = .ok (.putfield 147, 3) := by decide +kernel
theorem dX4_back_70 : decode cX4_back 70 = .ok (.iconst 0, 1) := by decide +kernel
theorem dX4_back_71 : decode cX4_back 71 = .ok (.istore_n 3, 1) := by decide +kernel
theorem dX4_back_72 : decode cX4_back 72 = .ok (.iload_n 3, 1) := by decide +kernel
theorem dX4_back_73 : decode cX4_back 73 = .ok (.bipush 12, 2) := by decide +kernel
theorem dX4_back_75 : decode cX4_back 75 = .ok (.if_icmp .ge 26, 3) := by decide +kernel
theorem dX4_back_78 : decode cX4_back 78 = .ok (.aload_n 0, 1) := by decide +kernel
theorem dX4_back_79 : decode cX4_back 79 = .ok (.getfield 33, 3) := by decide +kernel
theorem dX4_back_82 : decode cX4_back 82 = .ok (.iload_n 3, 1) := by decide +kernel
theorem dX4_back_83 : decode cX4_back 83 = .ok (.aload_n 0, 1) := by decide +kernel
theorem dX4_back_84 : decode cX4_back 84 = .ok (.getfield 39, 3) := by decide +kernel
theorem dX4_back_87 : decode cX4_back 87 = .ok (.iload_n 2, 1) := by decide +kernel
theorem dX4_back_88 : decode cX4_back 88 = .ok (.iconst 4, 1) := by decide +kernel
theorem dX4_back_89 : decode cX4_back 89 = .ok (.iadd, 1) := by decide +kernel
theorem dX4_back_90 : decode cX4_back 90 = .ok (.iload_n 3, 1) := by decide +kernel
theorem dX4_back_91 : decode cX4_back 91 = .ok (.iadd, 1) := by decide +kernel
theorem dX4_back_92 : decode cX4_back 92 = .ok (.laload, 1) := by decide +kernel
theorem dX4_back_93 : decode cX4_back 93 = .ok (.l2i, 1) := by decide +kernel
theorem dX4_back_94 : decode cX4_back 94 = .ok (.iastore, 1) := by decide +kernel
theorem dX4_back_95 : decode cX4_back 95 = .ok (.iinc 3 1, 3) := by decide +kernel
theorem dX4_back_98 : decode cX4_back 98 = .ok (.goto (-26), 3) := by decide +kernel
theorem dX4_back_101 : decode cX4_back 101 = .ok (.iconst 0, 1) := by decide +kernel
theorem dX4_back_102 : decode cX4_back 102 = .ok (.istore_n 3, 1) := by decide +kernel
theorem dX4_back_103 : decode cX4_back 103 = .ok (.iload_n 3, 1) := by decide +kernel
theorem dX4_back_104 : decode cX4_back 104 = .ok (.bipush 8, 2) := by decide +kernel
theorem dX4_back_106 : decode cX4_back 106 = .ok (.if_icmp .ge 27, 3) := by decide +kernel
theorem dX4_back_109 : decode cX4_back 109 = .ok (.aload_n 0, 1) := by decide +kernel
theorem dX4_back_110 : decode cX4_back 110 = .ok (.getfield 36, 3) := by decide +kernel
theorem dX4_back_113 : decode cX4_back 113 = .ok (.iload_n 3, 1) := by decide +kernel
theorem dX4_back_114 : decode cX4_back 114 = .ok (.aload_n 0, 1) := by decide +kernel
theorem dX4_back_115 : decode cX4_back 115 = .ok (.getfield 39, 3) := by decide +kernel
theorem dX4_back_118 : decode cX4_back 118 = .ok (.iload_n 2, 1) := by decide +kernel
theorem dX4_back_119 : decode cX4_back 119 = .ok (.bipush 16, 2) := by decide +kernel
theorem dX4_back_121 : decode cX4_back 121 = .ok (.iadd, 1) := by decide +kernel
theorem dX4_back_122 : decode cX4_back 122 = .ok (.iload_n 3, 1) := by decide +kernel
theorem dX4_back_123 : decode cX4_back 123 = .ok (.iadd, 1) := by decide +kernel
theorem dX4_back_124 : decode cX4_back 124 = .ok (.laload, 1) := by decide +kernel
theorem dX4_back_125 : decode cX4_back 125 = .ok (.l2i, 1) := by decide +kernel
theorem dX4_back_126 : decode cX4_back 126 = .ok (.iastore, 1) := by decide +kernel
theorem dX4_back_127 : decode cX4_back 127 = .ok (.iinc 3 1, 3) := by decide +kernel
theorem dX4_back_130 : decode cX4_back 130 = .ok (.goto (-27), 3) := by decide +kernel
theorem dX4_back_133 : decode cX4_back 133 = .ok (.iconst 0, 1) := by decide +kernel
theorem dX4_back_134 : decode cX4_back 134 = .ok (.istore_n 3, 1) := by decide +kernel
theorem dX4_back_135 : decode cX4_back 135 = .ok (.iload_n 3, 1) := by decide +kernel
theorem dX4_back_136 : decode cX4_back 136 = .ok (.bipush 23, 2) := by decide +kernel
theorem dX4_back_138 : decode cX4_back 138 = .ok (.if_icmp .ge 66, 3) := by decide +kernel
theorem dX4_back_141 : decode cX4_back 141 = .ok (.aload_n 0, 1) := by decide +kernel
theorem dX4_back_142 : decode cX4_back 142 = .ok (.getfield 23, 3) := by decide +kernel
theorem dX4_back_145 : decode cX4_back 145 = .ok (.iload_n 3, 1) := by decide +kernel
theorem dX4_back_146 : decode cX4_back 146 = .ok (.aload_n 0, 1) := by decide +kernel
theorem dX4_back_147 : decode cX4_back 147 = .ok (.getfield 39, 3) := by decide +kernel
theorem dX4_back_150 : decode cX4_back 150 = .ok (.iload_n 2, 1) := by decide +kernel
theorem dX4_back_151 : decode cX4_back 151 = .ok (.bipush 24, 2) := by decide +kernel
theorem dX4_back_153 : decode cX4_back 153 = .ok (.iadd, 1) := by decide +kernel
theorem dX4_back_154 : decode cX4_back 154 = .ok (.iconst 3, 1) := by decide +kernel
theorem dX4_back_155 : decode cX4_back 155 = .ok (.iload_n 3, 1) := by decide +kernel
theorem dX4_back_156 : decode cX4_back 156 = .ok (.imul, 1) := by decide +kernel
theorem dX4_back_157 : decode cX4_back 157 = .ok (.iadd, 1) := by decide +kernel
theorem dX4_back_158 : decode cX4_back 158 = .ok (.laload, 1) := by decide +kernel
theorem dX4_back_159 : decode cX4_back 159 = .ok (.lastore, 1) := by decide +kernel
theorem dX4_back_160 : decode cX4_back 160 = .ok (.aload_n 0, 1) := by decide +kernel
theorem dX4_back_161 : decode cX4_back 161 = .ok (.getfield 27, 3) := by decide +kernel
theorem dX4_back_164 : decode cX4_back 164 = .ok (.iload_n 3, 1) := by decide +kernel
theorem dX4_back_165 : decode cX4_back 165 = .ok (.aload_n 0, 1) := by decide +kernel
theorem dX4_back_166 : decode cX4_back 166 = .ok (.getfield 39, 3) := by decide +kernel
theorem dX4_back_169 : decode cX4_back 169 = .ok (.iload_n 2, 1) := by decide +kernel
theorem dX4_back_170 : decode cX4_back 170 = .ok (.bipush 25, 2) := by decide +kernel
theorem dX4_back_172 : decode cX4_back 172 = .ok (.iadd, 1) := by decide +kernel
theorem dX4_back_173 : decode cX4_back 173 = .ok (.iconst 3, 1) := by decide +kernel
theorem dX4_back_174 : decode cX4_back 174 = .ok (.iload_n 3, 1) := by decide +kernel
theorem dX4_back_175 : decode cX4_back 175 = .ok (.imul, 1) := by decide +kernel
theorem dX4_back_176 : decode cX4_back 176 = .ok (.iadd, 1) := by decide +kernel
theorem dX4_back_177 : decode cX4_back 177 = .ok (.laload, 1) := by decide +kernel
theorem dX4_back_178 : decode cX4_back 178 = .ok (.lastore, 1) := by decide +kernel
theorem dX4_back_179 : decode cX4_back 179 = .ok (.aload_n 0, 1) := by decide +kernel
theorem dX4_back_180 : decode cX4_back 180 = .ok (.getfield 30, 3) := by decide +kernel
theorem dX4_back_183 : decode cX4_back 183 = .ok (.iload_n 3, 1) := by decide +kernel
theorem dX4_back_184 : decode cX4_back 184 = .ok (.aload_n 0, 1) := by decide +kernel
theorem dX4_back_185 : decode cX4_back 185 = .ok (.getfield 39, 3) := by decide +kernel
theorem dX4_back_188 : decode cX4_back 188 = .ok (.iload_n 2, 1) := by decide +kernel
theorem dX4_back_189 : decode cX4_back 189 = .ok (.bipush 26, 2) := by decide +kernel
theorem dX4_back_191 : decode cX4_back 191 = .ok (.iadd, 1) := by decide +kernel
theorem dX4_back_192 : decode cX4_back 192 = .ok (.iconst 3, 1) := by decide +kernel
theorem dX4_back_193 : decode cX4_back 193 = .ok (.iload_n 3, 1) := by decide +kernel
theorem dX4_back_194 : decode cX4_back 194 = .ok (.imul, 1) := by decide +kernel
theorem dX4_back_195 : decode cX4_back 195 = .ok (.iadd, 1) := by decide +kernel
theorem dX4_back_196 : decode cX4_back 196 = .ok (.laload, 1) := by decide +kernel
theorem dX4_back_197 : decode cX4_back 197 = .ok (.lastore, 1) := by decide +kernel
theorem dX4_back_198 : decode cX4_back 198 = .ok (.iinc 3 1, 3) := by decide +kernel
theorem dX4_back_201 : decode cX4_back 201 = .ok (.goto (-66), 3) := by decide +kernel
theorem dX4_back_204 : decode cX4_back 204 = .ok (.aload_n 0, 1) := by decide +kernel
theorem dX4_back_205 : decode cX4_back 205 = .ok (.getfield 20, 3) := by decide +kernel
theorem dX4_back_208 : decode cX4_back 208 = .ok (.ireturn, 1) := by decide +kernel
theorem dX4_count_0 : decode cX4_count 0 = .ok (.iload_n 1, 1) := by decide +kernel
theorem dX4_count_1 : decode cX4_count 1 = .ok (.ifCond .ne 10, 3) := by decide +kernel
theorem dX4_count_4 : decode cX4_count 4 = .ok (.aload_n 0, 1) := by decide +kernel
theorem dX4_count_5 : decode cX4_count 5 = .ok (.getfield 20, 3) := by decide +kernel
theorem dX4_count_8 : decode cX4_count 8 = .ok (.goto 40, 3) := by decide +kernel
theorem dX4_count_11 : decode cX4_count 11 = .ok (.iload_n 1, 1) := by decide +kernel
theorem dX4_count_12 : decode cX4_count 12 = .ok (.iconst 1, 1) := by decide +kernel
theorem dX4_count_13 : decode cX4_count 13 = .ok (.if_icmp .ne 10, 3) := by decide +kernel
theorem dX4_count_16 : decode cX4_count 16 = .ok (.aload_n 0, 1) := by decide +kernel
theorem dX4_count_17 : decode cX4_count 17 = .ok (.getfield 144, 3) := by decide +kernel
theorem dX4_count_20 : decode cX4_count 20 = .ok (.goto 28, 3) := by decide +kernel
theorem dX4_count_23 : decode cX4_count 23 = .ok (.iload_n 1, 1) := by decide +kernel
theorem dX4_count_24 : decode cX4_count 24 = .ok (.iconst 2, 1) := by decide +kernel
theorem dX4_count_25 : decode cX4_count 25 = .ok (.if_icmp .ne 10, 3) := by decide +kernel
theorem dX4_count_28 : decode cX4_count 28 = .ok (.aload_n 0, 1) := by decide +kernel
theorem dX4_count_29 : decode cX4_count 29 = .ok (.getfield 147, 3) := by decide +kernel
theorem dX4_count_32 : decode cX4_count 32 = .ok (.goto 16, 3) := by decide +kernel
theorem dX4_count_35 : decode cX4_count 35 = .ok (.iload_n 1, 1) := by decide +kernel
theorem dX4_count_36 : decode cX4_count 36 = .ok (.iconst 3, 1) := by decide +kernel
theorem dX4_count_37 : decode cX4_count 37 = .ok (.if_icmp .ne 10, 3) := by decide +kernel
theorem dX4_count_40 : decode cX4_count 40 = .ok (.aload_n 0, 1) := by decide +kernel
theorem dX4_count_41 : decode cX4_count 41 = .ok (.getfield 61, 3) := by decide +kernel
theorem dX4_count_44 : decode cX4_count 44 = .ok (.goto 4, 3) := by decide +kernel
theorem dX4_count_47 : decode cX4_count 47 = .ok (.iconst (-1), 1) := by decide +kernel
theorem dX4_count_48 : decode cX4_count 48 = .ok (.ireturn, 1) := by decide +kernel
theorem dX4_trace_0 : decode cX4_trace 0 = .ok (.aload_n 0, 1) := by decide +kernel
theorem dX4_trace_1 : decode cX4_trace 1 = .ok (.getfield 184, 3) := by decide +kernel
theorem dX4_trace_4 : decode cX4_trace 4 = .ok (.lreturn, 1) := by decide +kernel
theorem dJ13_bitCount_95d88_0 : decode cJ13_bitCount_95d88 0 = .ok (.lload_n 0, 1) := by decide +kernel
theorem dJ13_bitCount_95d88_1 : decode cJ13_bitCount_95d88 1 = .ok (.lload_n 0, 1) := by decide +kernel
theorem dJ13_bitCount_95d88_2 : decode cJ13_bitCount_95d88 2 = .ok (.iconst 1, 1) := by decide +kernel
theorem dJ13_bitCount_95d88_3 : decode cJ13_bitCount_95d88 3 = .ok (.lushr, 1) := by decide +kernel
theorem dJ13_bitCount_95d88_4 : decode cJ13_bitCount_95d88 4 = .ok (.ldc2_w 314, 3) := by decide +kernel
theorem dJ13_bitCount_95d88_7 : decode cJ13_bitCount_95d88 7 = .ok (.land, 1) := by decide +kernel
theorem dJ13_bitCount_95d88_8 : decode cJ13_bitCount_95d88 8 = .ok (.lsub, 1) := by decide +kernel
theorem dJ13_bitCount_95d88_9 : decode cJ13_bitCount_95d88 9 = .ok (.lstore_n 0, 1) := by decide +kernel
theorem dJ13_bitCount_95d88_10 : decode cJ13_bitCount_95d88 10 = .ok (.lload_n 0, 1) := by decide +kernel
theorem dJ13_bitCount_95d88_11 : decode cJ13_bitCount_95d88 11 = .ok (.ldc2_w 316, 3) := by decide +kernel
theorem dJ13_bitCount_95d88_14 : decode cJ13_bitCount_95d88 14 = .ok (.land, 1) := by decide +kernel
theorem dJ13_bitCount_95d88_15 : decode cJ13_bitCount_95d88 15 = .ok (.lload_n 0, 1) := by decide +kernel
theorem dJ13_bitCount_95d88_16 : decode cJ13_bitCount_95d88 16 = .ok (.iconst 2, 1) := by decide +kernel
theorem dJ13_bitCount_95d88_17 : decode cJ13_bitCount_95d88 17 = .ok (.lushr, 1) := by decide +kernel
theorem dJ13_bitCount_95d88_18 : decode cJ13_bitCount_95d88 18 = .ok (.ldc2_w 316, 3) := by decide +kernel
theorem dJ13_bitCount_95d88_21 : decode cJ13_bitCount_95d88 21 = .ok (.land, 1) := by decide +kernel
theorem dJ13_bitCount_95d88_22 : decode cJ13_bitCount_95d88 22 = .ok (.ladd, 1) := by decide +kernel
theorem dJ13_bitCount_95d88_23 : decode cJ13_bitCount_95d88 23 = .ok (.lstore_n 0, 1) := by decide +kernel
theorem dJ13_bitCount_95d88_24 : decode cJ13_bitCount_95d88 24 = .ok (.lload_n 0, 1) := by decide +kernel
theorem dJ13_bitCount_95d88_25 : decode cJ13_bitCount_95d88 25 = .ok (.lload_n 0, 1) := by decide +kernel
theorem dJ13_bitCount_95d88_26 : decode cJ13_bitCount_95d88 26 = .ok (.iconst 4, 1) := by decide +kernel
theorem dJ13_bitCount_95d88_27 : decode cJ13_bitCount_95d88 27 = .ok (.lushr, 1) := by decide +kernel
theorem dJ13_bitCount_95d88_28 : decode cJ13_bitCount_95d88 28 = .ok (.ladd, 1) := by decide +kernel
theorem dJ13_bitCount_95d88_29 : decode cJ13_bitCount_95d88 29 = .ok (.ldc2_w 318, 3) := by decide +kernel
theorem dJ13_bitCount_95d88_32 : decode cJ13_bitCount_95d88 32 = .ok (.land, 1) := by decide +kernel
theorem dJ13_bitCount_95d88_33 : decode cJ13_bitCount_95d88 33 = .ok (.lstore_n 0, 1) := by decide +kernel
theorem dJ13_bitCount_95d88_34 : decode cJ13_bitCount_95d88 34 = .ok (.lload_n 0, 1) := by decide +kernel
theorem dJ13_bitCount_95d88_35 : decode cJ13_bitCount_95d88 35 = .ok (.lload_n 0, 1) := by decide +kernel
theorem dJ13_bitCount_95d88_36 : decode cJ13_bitCount_95d88 36 = .ok (.bipush 8, 2) := by decide +kernel
theorem dJ13_bitCount_95d88_38 : decode cJ13_bitCount_95d88 38 = .ok (.lushr, 1) := by decide +kernel
theorem dJ13_bitCount_95d88_39 : decode cJ13_bitCount_95d88 39 = .ok (.ladd, 1) := by decide +kernel
theorem dJ13_bitCount_95d88_40 : decode cJ13_bitCount_95d88 40 = .ok (.lstore_n 0, 1) := by decide +kernel
theorem dJ13_bitCount_95d88_41 : decode cJ13_bitCount_95d88 41 = .ok (.lload_n 0, 1) := by decide +kernel
theorem dJ13_bitCount_95d88_42 : decode cJ13_bitCount_95d88 42 = .ok (.lload_n 0, 1) := by decide +kernel
theorem dJ13_bitCount_95d88_43 : decode cJ13_bitCount_95d88 43 = .ok (.bipush 16, 2) := by decide +kernel
theorem dJ13_bitCount_95d88_45 : decode cJ13_bitCount_95d88 45 = .ok (.lushr, 1) := by decide +kernel
theorem dJ13_bitCount_95d88_46 : decode cJ13_bitCount_95d88 46 = .ok (.ladd, 1) := by decide +kernel
theorem dJ13_bitCount_95d88_47 : decode cJ13_bitCount_95d88 47 = .ok (.lstore_n 0, 1) := by decide +kernel
theorem dJ13_bitCount_95d88_48 : decode cJ13_bitCount_95d88 48 = .ok (.lload_n 0, 1) := by decide +kernel
theorem dJ13_bitCount_95d88_49 : decode cJ13_bitCount_95d88 49 = .ok (.lload_n 0, 1) := by decide +kernel
theorem dJ13_bitCount_95d88_50 : decode cJ13_bitCount_95d88 50 = .ok (.bipush 32, 2) := by decide +kernel
theorem dJ13_bitCount_95d88_52 : decode cJ13_bitCount_95d88 52 = .ok (.lushr, 1) := by decide +kernel
theorem dJ13_bitCount_95d88_53 : decode cJ13_bitCount_95d88 53 = .ok (.ladd, 1) := by decide +kernel
theorem dJ13_bitCount_95d88_54 : decode cJ13_bitCount_95d88 54 = .ok (.lstore_n 0, 1) := by decide +kernel
theorem dJ13_bitCount_95d88_55 : decode cJ13_bitCount_95d88 55 = .ok (.lload_n 0, 1) := by decide +kernel
theorem dJ13_bitCount_95d88_56 : decode cJ13_bitCount_95d88 56 = .ok (.l2i, 1) := by decide +kernel
theorem dJ13_bitCount_95d88_57 : decode cJ13_bitCount_95d88 57 = .ok (.bipush 127, 2) := by decide +kernel
theorem dJ13_bitCount_95d88_59 : decode cJ13_bitCount_95d88 59 = .ok (.iand, 1) := by decide +kernel
theorem dJ13_bitCount_95d88_60 : decode cJ13_bitCount_95d88 60 = .ok (.ireturn, 1) := by decide +kernel
theorem dJ9_max_7cf53_0 : decode cJ9_max_7cf53 0 = .ok (.iload_n 0, 1) := by decide +kernel
theorem dJ9_max_7cf53_1 : decode cJ9_max_7cf53 1 = .ok (.iload_n 1, 1) := by decide +kernel
theorem dJ9_max_7cf53_2 : decode cJ9_max_7cf53 2 = .ok (.if_icmp .lt 7, 3) := by decide +kernel
theorem dJ9_max_7cf53_5 : decode cJ9_max_7cf53 5 = .ok (.iload_n 0, 1) := by decide +kernel
theorem dJ9_max_7cf53_6 : decode cJ9_max_7cf53 6 = .ok (.goto 4, 3) := by decide +kernel
theorem dJ9_max_7cf53_9 : decode cJ9_max_7cf53 9 = .ok (.iload_n 1, 1) := by decide +kernel
theorem dJ9_max_7cf53_10 : decode cJ9_max_7cf53 10 = .ok (.ireturn, 1) := by decide +kernel
theorem dJ9_min_7cf53_0 : decode cJ9_min_7cf53 0 = .ok (.iload_n 0, 1) := by decide +kernel
theorem dJ9_min_7cf53_1 : decode cJ9_min_7cf53 1 = .ok (.iload_n 1, 1) := by decide +kernel
theorem dJ9_min_7cf53_2 : decode cJ9_min_7cf53 2 = .ok (.if_icmp .gt 7, 3) := by decide +kernel
theorem dJ9_min_7cf53_5 : decode cJ9_min_7cf53 5 = .ok (.iload_n 0, 1) := by decide +kernel
theorem dJ9_min_7cf53_6 : decode cJ9_min_7cf53 6 = .ok (.goto 4, 3) := by decide +kernel
theorem dJ9_min_7cf53_9 : decode cJ9_min_7cf53 9 = .ok (.iload_n 1, 1) := by decide +kernel
theorem dJ9_min_7cf53_10 : decode cJ9_min_7cf53 10 = .ok (.ireturn, 1) := by decide +kernel
set_option maxRecDepth 20000 in
theorem ggJ0_length_8abf5_J0_coder_7d493 : GoodIn wsJ0_length_8abf5 wsJ0_coder_7d493 := goodIn_r _ [6, 7, 8] (by decide +kernel) (by decide +kernel)
set_option maxRecDepth 20000 in
theorem gJ0_length_8abf5_J0_coder_7d493 : GoodIn wsJ0_length_8abf5 (wsV RJ0 335 RJ0 yJ0_coder_7d493 wsJ0_coder_7d493) := goodIn_app (goodIn_of _ (by decide +kernel)) ggJ0_length_8abf5_J0_coder_7d493
theorem dJ0_length_8abf5_0 : decode cJ0_length_8abf5 0 = .ok (.aload_n 0, 1) := by decide +kernel
theorem dJ0_length_8abf5_1 : decode cJ0_length_8abf5 1 = .ok (.getfield 9, 3) := by decide +kernel
theorem dJ0_length_8abf5_4 : decode cJ0_length_8abf5 4 = .ok (.arraylength, 1) := by decide +kernel
theorem dJ0_length_8abf5_5 : decode cJ0_length_8abf5 5 = .ok (.aload_n 0, 1) := by decide +kernel
theorem dJ0_length_8abf5_6 : decode cJ0_length_8abf5 6 = .ok (.invokevirtual 335, 3) := by decide +kernel
theorem dJ0_length_8abf5_9 : decode cJ0_length_8abf5 9 = .ok (.ishr, 1) := by decide +kernel
theorem dJ0_length_8abf5_10 : decode cJ0_length_8abf5 10 = .ok (.ireturn, 1) := by decide +kernel
set_option maxRecDepth 20000 in
theorem ggJ0_charAt_5068e_J0_isLatin1_aae02 : GoodIn wsJ0_charAt_5068e wsJ0_isLatin1_aae02 := goodIn_r _ [6, 7, 8] (by decide +kernel) (by decide +kernel)
set_option maxRecDepth 20000 in
theorem gJ0_charAt_5068e_J0_isLatin1_aae02 : GoodIn wsJ0_charAt_5068e (wsV RJ0 492 RJ0 yJ0_isLatin1_aae02 wsJ0_isLatin1_aae02) := goodIn_app (goodIn_of _ (by decide +kernel)) ggJ0_charAt_5068e_J0_isLatin1_aae02
set_option maxRecDepth 20000 in
theorem ggJ0_charAt_5068e_J1_charAt_3b067 : GoodIn wsJ0_charAt_5068e wsJ1_charAt_3b067 := goodIn_r _ [12, 13, 14, 5, 15, 16, 17, 18, 19, 20] (by decide +kernel) (by decide +kernel)
set_option maxRecDepth 20000 in
theorem gJ0_charAt_5068e_J1_charAt_3b067 : GoodIn wsJ0_charAt_5068e (va_wsS RJ0 495 yJ1_charAt_3b067 wsJ1_charAt_3b067) := goodIn_app (goodIn_of _ (by decide +kernel)) ggJ0_charAt_5068e_J1_charAt_3b067
set_option maxRecDepth 20000 in
theorem ggJ0_charAt_5068e_J2_charAt_3b067 : GoodIn wsJ0_charAt_5068e wsJ2_charAt_3b067 := goodIn_r _ [24, 25, 26, 23, 27, 28, 29, 30, 31, 14, 5, 15, 16, 17, 18, 19, 20, 32, 33, 34, 35, 36, 37] (by decide +kernel) (by decide +kernel)
set_option maxRecDepth 20000 in
theorem gJ0_charAt_5068e_J2_charAt_3b067 : GoodIn wsJ0_charAt_5068e (va_wsS RJ0 498 yJ2_charAt_3b067 wsJ2_charAt_3b067) := goodIn_app (goodIn_of _ (by decide +kernel)) ggJ0_charAt_5068e_J2_charAt_3b067
theorem dJ0_charAt_5068e_0 : decode cJ0_charAt_5068e 0 = .ok (.aload_n 0, 1) := by decide +kernel
theorem dJ0_charAt_5068e_1 : decode cJ0_charAt_5068e 1 = .ok (.invokevirtual 492, 3) := by decide +kernel
theorem dJ0_charAt_5068e_4 : decode cJ0_charAt_5068e 4 = .ok (.ifCond .eq 12, 3) := by decide +kernel
theorem dJ0_charAt_5068e_7 : decode cJ0_charAt_5068e 7 = .ok (.aload_n 0, 1) := by decide +kernel
theorem dJ0_charAt_5068e_8 : decode cJ0_charAt_5068e 8 = .ok (.getfield 9, 3) := by decide +kernel
theorem dJ0_charAt_5068e_11 : decode cJ0_charAt_5068e 11 = .ok (.iload_n 1, 1) := by decide +kernel
theorem dJ0_charAt_5068e_12 : decode cJ0_charAt_5068e 12 = .ok (.invokestatic 495, 3) := by decide +kernel
theorem dJ0_charAt_5068e_15 : decode cJ0_charAt_5068e 15 = .ok (.ireturn, 1) := by decide +kernel
theorem dJ0_charAt_5068e_16 : decode cJ0_charAt_5068e 16 = .ok (.aload_n 0, 1) := by decide +kernel
theorem dJ0_charAt_5068e_17 : decode cJ0_charAt_5068e 17 = .ok (.getfield 9, 3) := by decide +kernel
theorem dJ0_charAt_5068e_20 : decode cJ0_charAt_5068e 20 = .ok (.iload_n 1, 1) := by decide +kernel
theorem dJ0_charAt_5068e_21 : decode cJ0_charAt_5068e 21 = .ok (.invokestatic 498, 3) := by decide +kernel
theorem dJ0_charAt_5068e_24 : decode cJ0_charAt_5068e 24 = .ok (.ireturn, 1) := by decide +kernel
theorem dJ0_coder_7d493_0 : decode cJ0_coder_7d493 0 = .ok (.getstatic 38, 3) := by decide +kernel
theorem dJ0_coder_7d493_3 : decode cJ0_coder_7d493 3 = .ok (.ifCond .eq 10, 3) := by decide +kernel
theorem dJ0_coder_7d493_6 : decode cJ0_coder_7d493 6 = .ok (.aload_n 0, 1) := by decide +kernel
theorem dJ0_coder_7d493_7 : decode cJ0_coder_7d493 7 = .ok (.getfield 15, 3) := by decide +kernel
theorem dJ0_coder_7d493_10 : decode cJ0_coder_7d493 10 = .ok (.goto 4, 3) := by decide +kernel
theorem dJ0_coder_7d493_13 : decode cJ0_coder_7d493 13 = .ok (.iconst 1, 1) := by decide +kernel
theorem dJ0_coder_7d493_14 : decode cJ0_coder_7d493 14 = .ok (.ireturn, 1) := by decide +kernel
theorem dJ0_isLatin1_aae02_0 : decode cJ0_isLatin1_aae02 0 = .ok (.getstatic 38, 3) := by decide +kernel
theorem dJ0_isLatin1_aae02_3 : decode cJ0_isLatin1_aae02 3 = .ok (.ifCond .eq 14, 3) := by decide +kernel
theorem dJ0_isLatin1_aae02_6 : decode cJ0_isLatin1_aae02 6 = .ok (.aload_n 0, 1) := by decide +kernel
theorem dJ0_isLatin1_aae02_7 : decode cJ0_isLatin1_aae02 7 = .ok (.getfield 15, 3) := by decide +kernel
theorem dJ0_isLatin1_aae02_10 : decode cJ0_isLatin1_aae02 10 = .ok (.ifCond .ne 7, 3) := by decide +kernel
theorem dJ0_isLatin1_aae02_13 : decode cJ0_isLatin1_aae02 13 = .ok (.iconst 1, 1) := by decide +kernel
theorem dJ0_isLatin1_aae02_14 : decode cJ0_isLatin1_aae02 14 = .ok (.goto 4, 3) := by decide +kernel
theorem dJ0_isLatin1_aae02_17 : decode cJ0_isLatin1_aae02 17 = .ok (.iconst 0, 1) := by decide +kernel
theorem dJ0_isLatin1_aae02_18 : decode cJ0_isLatin1_aae02 18 = .ok (.ireturn, 1) := by decide +kernel
set_option maxRecDepth 20000 in
theorem ggJ0_checkIndex_df160_J3_checkIndex_8e157 : GoodIn wsJ0_checkIndex_df160 wsJ3_checkIndex_8e157 := goodIn_r _ [5] (by decide +kernel) (by decide +kernel)
set_option maxRecDepth 20000 in
theorem gJ0_checkIndex_df160_J3_checkIndex_8e157 : GoodIn wsJ0_checkIndex_df160 (va_wsS RJ0 1059 yJ3_checkIndex_8e157 wsJ3_checkIndex_8e157) := goodIn_app (goodIn_of _ (by decide +kernel)) ggJ0_checkIndex_df160_J3_checkIndex_8e157
theorem dJ0_checkIndex_df160_0 : decode cJ0_checkIndex_df160 0 = .ok (.iload_n 0, 1) := by decide +kernel
theorem dJ0_checkIndex_df160_1 : decode cJ0_checkIndex_df160 1 = .ok (.iload_n 1, 1) := by decide +kernel
theorem dJ0_checkIndex_df160_2 : decode cJ0_checkIndex_df160 2 = .ok (.getstatic 1053, 3) := by decide +kernel
theorem dJ0_checkIndex_df160_5 : decode cJ0_checkIndex_df160 5 = .ok (.invokestatic 1059, 3) := by decide +kernel
theorem dJ0_checkIndex_df160_8 : decode cJ0_checkIndex_df160 8 = .ok (.pop, 1) := by decide +kernel
theorem dJ0_checkIndex_df160_9 : decode cJ0_checkIndex_df160 9 = .ok (.return_, 1) := by decide +kernel
set_option maxRecDepth 20000 in
theorem ggJ1_charAt_3b067_J0_checkIndex_df160 : GoodIn wsJ1_charAt_3b067 wsJ0_checkIndex_df160 := goodIn_r _ [4, 5, 6, 7, 8, 9] (by decide +kernel) (by decide +kernel)
set_option maxRecDepth 20000 in
theorem gJ1_charAt_3b067_J0_checkIndex_df160 : GoodIn wsJ1_charAt_3b067 (va_wsS RJ1 9 yJ0_checkIndex_df160 wsJ0_checkIndex_df160) := goodIn_app (goodIn_of _ (by decide +kernel)) ggJ1_charAt_3b067_J0_checkIndex_df160
theorem dJ1_charAt_3b067_0 : decode cJ1_charAt_3b067 0 = .ok (.iload_n 1, 1) := by decide +kernel
theorem dJ1_charAt_3b067_1 : decode cJ1_charAt_3b067 1 = .ok (.aload_n 0, 1) := by decide +kernel
theorem dJ1_charAt_3b067_2 : decode cJ1_charAt_3b067 2 = .ok (.arraylength, 1) := by decide +kernel
theorem dJ1_charAt_3b067_3 : decode cJ1_charAt_3b067 3 = .ok (.invokestatic 9, 3) := by decide +kernel
theorem dJ1_charAt_3b067_6 : decode cJ1_charAt_3b067 6 = .ok (.aload_n 0, 1) := by decide +kernel
theorem dJ1_charAt_3b067_7 : decode cJ1_charAt_3b067 7 = .ok (.iload_n 1, 1) := by decide +kernel
theorem dJ1_charAt_3b067_8 : decode cJ1_charAt_3b067 8 = .ok (.baload, 1) := by decide +kernel
theorem dJ1_charAt_3b067_9 : decode cJ1_charAt_3b067 9 = .ok (.sipush 255, 3) := by decide +kernel
theorem dJ1_charAt_3b067_12 : decode cJ1_charAt_3b067 12 = .ok (.iand, 1) := by decide +kernel
theorem dJ1_charAt_3b067_13 : decode cJ1_charAt_3b067 13 = .ok (.i2c, 1) := by decide +kernel
theorem dJ1_charAt_3b067_14 : decode cJ1_charAt_3b067 14 = .ok (.ireturn, 1) := by decide +kernel
set_option maxRecDepth 20000 in
theorem ggJ2_getChar_3b067_J2_length_9d52b : GoodIn wsJ2_getChar_3b067 wsJ2_length_9d52b := goodIn_r _ [7] (by decide +kernel) (by decide +kernel)
set_option maxRecDepth 20000 in
theorem gJ2_getChar_3b067_J2_length_9d52b : GoodIn wsJ2_getChar_3b067 (va_wsS RJ2 48 yJ2_length_9d52b wsJ2_length_9d52b) := goodIn_app (goodIn_of _ (by decide +kernel)) ggJ2_getChar_3b067_J2_length_9d52b
theorem dJ2_getChar_3b067_0 : decode cJ2_getChar_3b067 0 = .ok (.getstatic 44, 3) := by decide +kernel
theorem dJ2_getChar_3b067_3 : decode cJ2_getChar_3b067 3 = .ok (.ifCond .ne 25, 3) := by decide +kernel
theorem dJ2_getChar_3b067_6 : decode cJ2_getChar_3b067 6 = .ok (.iload_n 1, 1) := by decide +kernel
theorem dJ2_getChar_3b067_7 : decode cJ2_getChar_3b067 7 = .ok (.ifCond .lt 11, 3) := by decide +kernel
theorem dJ2_getChar_3b067_10 : decode cJ2_getChar_3b067 10 = .ok (.iload_n 1, 1) := by decide +kernel
theorem dJ2_getChar_3b067_11 : decode cJ2_getChar_3b067 11 = .ok (.aload_n 0, 1) := by decide +kernel
theorem dJ2_getChar_3b067_12 : decode cJ2_getChar_3b067 12 = .ok (.invokestatic 48, 3) := by decide +kernel
theorem dJ2_getChar_3b067_15 : decode cJ2_getChar_3b067 15 = .ok (.if_icmp .lt 13, 3) := by decide +kernel
theorem dJ2_getChar_3b067_18 : decode cJ2_getChar_3b067 18 = .ok (.new 52, 3) := by decide +kernel
theorem dJ2_getChar_3b067_21 : decode cJ2_getChar_3b067 21 = .ok (.dup, 1) := by decide +kernel
theorem dJ2_getChar_3b067_22 : decode cJ2_getChar_3b067 22 = .ok (.ldc 54, 2) := by decide +kernel
theorem dJ2_getChar_3b067_24 : decode cJ2_getChar_3b067 24 = .ok (.invokespecial 56, 3) := by decide +kernel
theorem dJ2_getChar_3b067_27 : decode cJ2_getChar_3b067 27 = .ok (.athrow, 1) := by decide +kernel
theorem dJ2_getChar_3b067_28 : decode cJ2_getChar_3b067 28 = .ok (.iload_n 1, 1) := by decide +kernel
theorem dJ2_getChar_3b067_29 : decode cJ2_getChar_3b067 29 = .ok (.iconst 1, 1) := by decide +kernel
theorem dJ2_getChar_3b067_30 : decode cJ2_getChar_3b067 30 = .ok (.ishl, 1) := by decide +kernel
theorem dJ2_getChar_3b067_31 : decode cJ2_getChar_3b067 31 = .ok (.istore_n 1, 1) := by decide +kernel
theorem dJ2_getChar_3b067_32 : decode cJ2_getChar_3b067 32 = .ok (.aload_n 0, 1) := by decide +kernel
theorem dJ2_getChar_3b067_33 : decode cJ2_getChar_3b067 33 = .ok (.iload_n 1, 1) := by decide +kernel
theorem dJ2_getChar_3b067_34 : decode cJ2_getChar_3b067 34 = .ok (.iinc 1 1, 3) := by decide +kernel
theorem dJ2_getChar_3b067_37 : decode cJ2_getChar_3b067 37 = .ok (.baload, 1) := by decide +kernel
theorem dJ2_getChar_3b067_38 : decode cJ2_getChar_3b067 38 = .ok (.sipush 255, 3) := by decide +kernel
theorem dJ2_getChar_3b067_41 : decode cJ2_getChar_3b067 41 = .ok (.iand, 1) := by decide +kernel
theorem dJ2_getChar_3b067_42 : decode cJ2_getChar_3b067 42 = .ok (.getstatic 59, 3) := by decide +kernel
theorem dJ2_getChar_3b067_45 : decode cJ2_getChar_3b067 45 = .ok (.ishl, 1) := by decide +kernel
theorem dJ2_getChar_3b067_46 : decode cJ2_getChar_3b067 46 = .ok (.aload_n 0, 1) := by decide +kernel
theorem dJ2_getChar_3b067_47 : decode cJ2_getChar_3b067 47 = .ok (.iload_n 1, 1) := by decide +kernel
theorem dJ2_getChar_3b067_48 : decode cJ2_getChar_3b067 48 = .ok (.baload, 1) := by decide +kernel
theorem dJ2_getChar_3b067_49 : decode cJ2_getChar_3b067 49 = .ok (.sipush 255, 3) := by decide +kernel
theorem dJ2_getChar_3b067_52 : decode cJ2_getChar_3b067 52 = .ok (.iand, 1) := by decide +kernel
theorem dJ2_getChar_3b067_53 : decode cJ2_getChar_3b067 53 = .ok (.getstatic 63, 3) := by decide +kernel
theorem dJ2_getChar_3b067_56 : decode cJ2_getChar_3b067 56 = .ok (.ishl, 1) := by decide +kernel
theorem dJ2_getChar_3b067_57 : decode cJ2_getChar_3b067 57 = .ok (.ior, 1) := by decide +kernel
theorem dJ2_getChar_3b067_58 : decode cJ2_getChar_3b067 58 = .ok (.i2c, 1) := by decide +kernel
theorem dJ2_getChar_3b067_59 : decode cJ2_getChar_3b067 59 = .ok (.ireturn, 1) := by decide +kernel
theorem dJ2_length_9d52b_0 : decode cJ2_length_9d52b 0 = .ok (.aload_n 0, 1) := by decide +kernel
theorem dJ2_length_9d52b_1 : decode cJ2_length_9d52b 1 = .ok (.arraylength, 1) := by decide +kernel
theorem dJ2_length_9d52b_2 : decode cJ2_length_9d52b 2 = .ok (.iconst 1, 1) := by decide +kernel
theorem dJ2_length_9d52b_3 : decode cJ2_length_9d52b 3 = .ok (.ishr, 1) := by decide +kernel
theorem dJ2_length_9d52b_4 : decode cJ2_length_9d52b 4 = .ok (.ireturn, 1) := by decide +kernel
set_option maxRecDepth 20000 in
theorem ggJ2_charAt_3b067_J2_checkIndex_2214a : GoodIn wsJ2_charAt_3b067 wsJ2_checkIndex_2214a := goodIn_r _ [4, 5, 6, 3, 7, 8, 9, 10, 11, 12, 13, 14, 15, 16] (by decide +kernel) (by decide +kernel)
set_option maxRecDepth 20000 in
theorem gJ2_charAt_3b067_J2_checkIndex_2214a : GoodIn wsJ2_charAt_3b067 (va_wsS RJ2 67 yJ2_checkIndex_2214a wsJ2_checkIndex_2214a) := goodIn_app (goodIn_of _ (by decide +kernel)) ggJ2_charAt_3b067_J2_checkIndex_2214a
set_option maxRecDepth 20000 in
theorem ggJ2_charAt_3b067_J2_getChar_3b067 : GoodIn wsJ2_charAt_3b067 wsJ2_getChar_3b067 := goodIn_r _ [19, 20, 21, 22, 5, 6, 3, 7] (by decide +kernel) (by decide +kernel)
set_option maxRecDepth 20000 in
theorem gJ2_charAt_3b067_J2_getChar_3b067 : GoodIn wsJ2_charAt_3b067 (va_wsS RJ2 71 yJ2_getChar_3b067 wsJ2_getChar_3b067) := goodIn_app (goodIn_of _ (by decide +kernel)) ggJ2_charAt_3b067_J2_getChar_3b067
theorem dJ2_charAt_3b067_0 : decode cJ2_charAt_3b067 0 = .ok (.iload_n 1, 1) := by decide +kernel
theorem dJ2_charAt_3b067_1 : decode cJ2_charAt_3b067 1 = .ok (.aload_n 0, 1) := by decide +kernel
theorem dJ2_charAt_3b067_2 : decode cJ2_charAt_3b067 2 = .ok (.invokestatic 67, 3) := by decide +kernel
theorem dJ2_charAt_3b067_5 : decode cJ2_charAt_3b067 5 = .ok (.aload_n 0, 1) := by decide +kernel
theorem dJ2_charAt_3b067_6 : decode cJ2_charAt_3b067 6 = .ok (.iload_n 1, 1) := by decide +kernel
theorem dJ2_charAt_3b067_7 : decode cJ2_charAt_3b067 7 = .ok (.invokestatic 71, 3) := by decide +kernel
theorem dJ2_charAt_3b067_10 : decode cJ2_charAt_3b067 10 = .ok (.ireturn, 1) := by decide +kernel
set_option maxRecDepth 20000 in
theorem ggJ2_checkIndex_2214a_J2_length_9d52b : GoodIn wsJ2_checkIndex_2214a wsJ2_length_9d52b := goodIn_r _ [4] (by decide +kernel) (by decide +kernel)
set_option maxRecDepth 20000 in
theorem gJ2_checkIndex_2214a_J2_length_9d52b : GoodIn wsJ2_checkIndex_2214a (va_wsS RJ2 48 yJ2_length_9d52b wsJ2_length_9d52b) := goodIn_app (goodIn_of _ (by decide +kernel)) ggJ2_checkIndex_2214a_J2_length_9d52b
set_option maxRecDepth 20000 in
theorem ggJ2_checkIndex_2214a_J0_checkIndex_df160 : GoodIn wsJ2_checkIndex_2214a wsJ0_checkIndex_df160 := goodIn_r _ [8, 9, 10, 11, 12, 13] (by decide +kernel) (by decide +kernel)
set_option maxRecDepth 20000 in
theorem gJ2_checkIndex_2214a_J0_checkIndex_df160 : GoodIn wsJ2_checkIndex_2214a (va_wsS RJ2 414 yJ0_checkIndex_df160 wsJ0_checkIndex_df160) := goodIn_app (goodIn_of _ (by decide +kernel)) ggJ2_checkIndex_2214a_J0_checkIndex_df160
theorem dJ2_checkIndex_2214a_0 : decode cJ2_checkIndex_2214a 0 = .ok (.iload_n 0, 1) := by decide +kernel
theorem dJ2_checkIndex_2214a_1 : decode cJ2_checkIndex_2214a 1 = .ok (.aload_n 1, 1) := by decide +kernel
theorem dJ2_checkIndex_2214a_2 : decode cJ2_checkIndex_2214a 2 = .ok (.invokestatic 48, 3) := by decide +kernel
theorem dJ2_checkIndex_2214a_5 : decode cJ2_checkIndex_2214a 5 = .ok (.invokestatic 414, 3) := by decide +kernel
theorem dJ2_checkIndex_2214a_8 : decode cJ2_checkIndex_2214a 8 = .ok (.return_, 1) := by decide +kernel
theorem dJ3_checkIndex_8e157_0 : decode cJ3_checkIndex_8e157 0 = .ok (.iload_n 0, 1) := by decide +kernel
theorem dJ3_checkIndex_8e157_1 : decode cJ3_checkIndex_8e157 1 = .ok (.ifCond .lt 8, 3) := by decide +kernel
theorem dJ3_checkIndex_8e157_4 : decode cJ3_checkIndex_8e157 4 = .ok (.iload_n 0, 1) := by decide +kernel
theorem dJ3_checkIndex_8e157_5 : decode cJ3_checkIndex_8e157 5 = .ok (.iload_n 1, 1) := by decide +kernel
theorem dJ3_checkIndex_8e157_6 : decode cJ3_checkIndex_8e157 6 = .ok (.if_icmp .lt 10, 3) := by decide +kernel
theorem dJ3_checkIndex_8e157_9 : decode cJ3_checkIndex_8e157 9 = .ok (.aload_n 2, 1) := by decide +kernel
theorem dJ3_checkIndex_8e157_10 : decode cJ3_checkIndex_8e157 10 = .ok (.iload_n 0, 1) := by decide +kernel
theorem dJ3_checkIndex_8e157_11 : decode cJ3_checkIndex_8e157 11 = .ok (.iload_n 1, 1) := by decide +kernel
theorem dJ3_checkIndex_8e157_12 : decode cJ3_checkIndex_8e157 12 = .ok (.invokestatic 95, 3) := by decide +kernel
theorem dJ3_checkIndex_8e157_15 : decode cJ3_checkIndex_8e157 15 = .ok (.athrow, 1) := by decide +kernel
theorem dJ3_checkIndex_8e157_16 : decode cJ3_checkIndex_8e157 16 = .ok (.iload_n 0, 1) := by decide +kernel
theorem dJ3_checkIndex_8e157_17 : decode cJ3_checkIndex_8e157 17 = .ok (.ireturn, 1) := by decide +kernel
end
section
/-! own base: one bundle for the world at a place of a walk, contracts over it, rows that take the bundle -/
/-- the nest mates' links that GuessFolds uses -/
def nestW : List Cond := [
  .fieldLinkNest "GuessFolds" 50 "GuessFolds$Text" "bytes" "LGuessFolds$Row;" "GuessFolds",
  .fieldLinkNest "GuessFolds" 76 "GuessFolds$Text" "parts" "I" "GuessFolds",
  .fieldLinkNest "GuessFolds" 77 "GuessFolds$Text" "part" "I" "GuessFolds",
  .fieldLinkNest "GuessFolds" 78 "GuessFolds$Text" "off" "I" "GuessFolds",
  .fieldLinkNest "GuessFolds" 79 "GuessFolds$Text" "hair" "I" "GuessFolds",
  .fieldLinkNest "GuessFolds" 80 "GuessFolds$Text" "firsts" "LGuessFolds$Row;" "GuessFolds",
  .fieldLinkNest "GuessFolds" 87 "GuessFolds$Text" "seconds" "LGuessFolds$Row;" "GuessFolds",
  .fieldLinkNest "GuessFolds" 95 "GuessFolds$Text" "items" "I" "GuessFolds",
  .fieldLinkNest "GuessFolds" 103 "GuessFolds$Now" "where" "LGuessFolds$Row;" "GuessFolds",
  .fieldLinkNest "GuessFolds" 115 "GuessFolds$Now" "offness" "LGuessFolds$Row;" "GuessFolds",
  .fieldLinkNest "GuessFolds" 118 "GuessFolds$Now" "hairs" "LGuessFolds$Row;" "GuessFolds",
  .fieldLinkNest "GuessFolds" 163 "GuessFolds$Now" "letters" "LGuessFolds$Row;" "GuessFolds",
  .fieldLinkNest "GuessFolds" 171 "GuessFolds$Now" "seen" "LGuessFolds$Row;" "GuessFolds"]
def nestM : List Cond := [.methodLinkNest "GuessFolds" 11 yX2_init "GuessFolds", .methodLinkNest "GuessFolds" 18 yX0_init "GuessFolds"]
def x_nest (U : State) : Prop := (∀ w ∈ nestW, va_Nw w U) ∧ ∀ w ∈ nestM, va_Nw w U
theorem x_nest.warm {s U : State} (hW : s.WarmedH U.vm) (h : x_nest s) : x_nest U := by
  refine ⟨fun w hw => ?_, fun w hw => ?_⟩
  · have hz := h.1 w hw
    simp only [nestW, List.mem_cons, List.not_mem_nil, or_false] at hw
    rcases hw with rfl | rfl | rfl | rfl | rfl | rfl | rfl | rfl | rfl | rfl | rfl | rfl | rfl <;> exact va_Nw.warmF hW hz
  · have hz := h.2 w hw
    simp only [nestM, List.mem_cons, List.not_mem_nil, or_false] at hw
    rcases hw with rfl | rfl <;> exact va_Nw.warmM hW hz
theorem x_nest.calling {U : State} {g : JFrame} {mk : MethodId} {a : Array Value} (h : x_nest U) : x_nest (U.calling g mk a) := by
  refine ⟨fun w hw => ?_, fun w hw => ?_⟩
  · have hz := h.1 w hw
    simp only [nestW, List.mem_cons, List.not_mem_nil, or_false] at hw
    rcases hw with rfl | rfl | rfl | rfl | rfl | rfl | rfl | rfl | rfl | rfl | rfl | rfl | rfl <;> exact va_Nw.same rfl rfl hz
  · have hz := h.2 w hw
    simp only [nestM, List.mem_cons, List.not_mem_nil, or_false] at hw
    rcases hw with rfl | rfl <;> exact va_Nw.same rfl rfl hz
/-- the launch's places: classes, the two array classes, the five texts and their bytes -/
abbrev XG : Type := va_G × ClassId × ClassId × (Nat → Nat) × (Nat → Nat)
abbrev cJ (G : XG) : ClassId := G.2.1
abbrev cI (G : XG) : ClassId := G.2.2.1
abbrev tyz (G : XG) : List (ClassId × FieldType) := [(cJ G, .long), (cI G, .int)]
def lenS : List Nat := [5, 4, 3, 4, 4]
def bytS : List (List Int32) := [[115, 116, 114, 105, 112], [112, 97, 114, 116], [111, 102, 102], [104, 97, 105, 114], [102, 111, 108, 100]]
def ixS : List Nat := [95, 101, 102, 103, 104]
def txS : List String := ["strip", "part", "off", "hair", "fold"]
/-- what stands outside: the texts, two statics -/
def x_SK (G : XG) (A : Nat → Prop) (U : State) (H : Heap) : Prop :=
  vk_S 5 lenS bytS G.2.2.2.1 G.2.2.2.2 A U H ∧ (∀ i, i < 5 → vk_R RX2 (ixS.getD i 0) (txS.getD i "") (G.2.2.2.1 i) U) ∧ va_Z "java/lang/String" "COMPACT_STRINGS" "Z" (.int 1) A U H ∧ va_Zq "jdk/internal/util/Preconditions" "SIOOBE_FORMATTER" "Ljava/util/function/BiFunction;" A U H
theorem x_SK.go {G : XG} {A B : Nat → Prop} {s U : State} {H H1 : Heap} (hW : s.WarmedH U.vm) (hq : ∀ a : Nat, a < H.size → ¬ A a → H1[a]? = H[a]?) (hAB : ∀ q, B q → A q) (h : x_SK G A s H) : x_SK G B U H1 :=
  ⟨((h.1.kept hq).narrow hAB).moved hW.alike, fun i hi => vk_R.warm hW (h.2.1 i hi), ((h.2.2.1.kept hq).narrow hAB).moved hW.alike, ((h.2.2.2.kept hq).narrow hAB).moved hW.alike⟩
theorem x_SK.calling {G : XG} {A : Nat → Prop} {U : State} {H : Heap} {g : JFrame} {mk : MethodId} {a : Array Value} (h : x_SK G A U H) : x_SK G A (U.calling g mk a) H :=
  ⟨h.1.moved (Vm.Alike.refl U.vm), fun i hi => vk_R.same (u := U) rfl (h.2.1 i hi), h.2.2.1.moved (Vm.Alike.refl U.vm), h.2.2.2.moved (Vm.Alike.refl U.vm)⟩
/-- the world at a place of a walk -/
def Wd (G : XG) (s : State) (A : Nat → Prop) (ws : va_W) (H : Heap) (locs : List Loc) : Prop :=
  va_K G.1 vwCl (tyz G) s ∧ va_P G.1 vwCl ws H ∧ va_D A ws ∧ va_S A s.heap H locs ∧ (∀ q, s.heap.size ≤ q → A q) ∧ x_nest s ∧ x_SK G A s s.heap
def PreW (G : XG) (as : List Value) (w0 : va_W) (sz : Nat) : Array Value → State → Prop :=
  va_Pc as (fun U => U.heap.size = sz ∧ va_K G.1 vwCl (tyz G) U ∧ va_P G.1 vwCl w0 U.heap ∧ va_D (fun _ => True) w0 ∧ x_nest U ∧ x_SK G (va_A w0 sz) U U.heap)
theorem PreW.blind {G : XG} {as : List Value} {w0 : va_W} {sz : Nat} : FrameBlind (PreW G as w0 sz) := fun a U g mk h => ⟨h.1, h.2.1, va_K.moved (u := U) (U := U.calling g mk a) (Vm.Alike.refl U.vm) h.2.2.1, h.2.2.2.1, h.2.2.2.2.1, h.2.2.2.2.2.1.calling, h.2.2.2.2.2.2.calling⟩
def BW (G : XG) (w0 : va_W) (sz : Nat) {S : Type} (w1 : S → va_W) : S → State → Prop := fun u t => va_P G.1 vwCl (w1 u) t.heap ∧ va_D (va_A w0 sz) (w1 u)
/-- contracts: an int (or boolean), a long, nothing, a reference comes back -/
def CtI (l : Launch) (y : MethodName) (ws : List Cond) (rm : Room) (G : XG) (as : List Value) (w0 : va_W) {S : Type} (post : Int32 → S → Prop) (w1 : S → va_W) : Prop :=
  ∀ sz, Met l y ws rm (PreW G as w0 sz) (va_Qi post (BW G w0 sz w1) (va_A w0 sz)) 0 0 (va_A w0 sz)
def CtL (l : Launch) (y : MethodName) (ws : List Cond) (rm : Room) (G : XG) (as : List Value) (w0 : va_W) {S : Type} (post : Int64 → S → Prop) (w1 : S → va_W) : Prop :=
  ∀ sz, Met l y ws rm (PreW G as w0 sz) (va_Ql post (BW G w0 sz w1) (va_A w0 sz)) 0 0 (va_A w0 sz)
def CtV (l : Launch) (y : MethodName) (ws : List Cond) (rm : Room) (G : XG) (as : List Value) (w0 : va_W) {S : Type} (post : S → Prop) (w1 : S → va_W) : Prop :=
  ∀ sz, Met l y ws rm (PreW G as w0 sz) (va_Qv post (BW G w0 sz w1) (va_A w0 sz)) 0 0 (va_A w0 sz)
section XB
variable {l : Launch} {y : MethodName} {ws ws' : List Cond} {rm : Room} {G : XG} {as : List Value} {w0 : va_W} {S : Type} {w1 : S → va_W} {cc : ByteArray} {maxL : Nat}
theorem x_start {ret : Option FieldType} {Qc : Nat → Array Value → State → Outcome → State → Prop} (own : String) (hown : y.cls = own) (hy : plainName y.cls = true) (hw : ws = Cond.code y cc maxL ret :: ws') (hn : (lg_sl as).length ≤ maxL)
    (body : ∀ (p : Program) (e : Env) (s : State) (m : MethodId) (args : Array Value) (below : List Frame) (meth : Method) (c : Code) (A : Nat → Prop) (ls : Array Slot), CallFix p m c cc maxL s args ws own → meth.sig.returnType = ret → meth.locks = false → A = va_A w0 s.heap.size → Wd G s A w0 s.heap [] → lv_has ls maxL (lv_args 0 as) →
      W p l e rm s m args below meth c s.heap [] 0 0 (MQ below (Qc s.heap.size) args s 0 0 A) (F0 m 0 ls [])) :
    ∀ sz, Met l y ws rm (PreW G as w0 sz) (Qc sz) 0 0 (va_A w0 sz) := by
  intro sz
  refine Met.ofW (cc := cc) (maxL := maxL) (ret := ret) hy hw ?_
  intro p e s m args below meth c s₁ B hml hv
  obtain ⟨rfl, hsz, hK, hP, hD0, hN, hSK⟩ := hv
  subst hsz
  have hts := atoms_spec (ws := ws) B.pre
  have ho : s.vm.findClass own = some m.cls := hown ▸ findClass_of_methodNamed B.named
  rw [lg_entry_eq]
  exact body p e s m _ below meth c _ _ ⟨B.exec, B.bytes, hml, ho, hts⟩ B.returns B.notSynchronized rfl ⟨hK, hP, hD0.self, va_S.rf, fun q h => Or.inr h, hN, hSK⟩ (lv_entry as hn)
theorem CtI.go {post : Int32 → S → Prop} {rt : FieldType} (own : String) (hown : y.cls = own) (hy : plainName y.cls = true) (hw : ws = Cond.code y cc maxL (some rt) :: ws') (hn : (lg_sl as).length ≤ maxL)
    (body : ∀ (p : Program) (e : Env) (s : State) (m : MethodId) (args : Array Value) (below : List Frame) (meth : Method) (c : Code) (A : Nat → Prop) (Q : State → Prop) (ls : Array Slot), CallFix p m c cc maxL s args ws own → Wd G s A w0 s.heap [] → lv_has ls maxL (lv_args 0 as) →
      (∀ (r : Int32) (u : S) (H : Heap) (locs : List Loc) (pc : Nat) (ls : Array Slot), decode cc pc = .ok (.ireturn, 1) → narrow rt (.int r) = .int r → post r u → Wd G s A (w1 u) H locs → W p l e rm s m args below meth c H locs 0 0 Q (F0 m pc ls [.int r])) →
      W p l e rm s m args below meth c s.heap [] 0 0 Q (F0 m 0 ls [])) : CtI l y ws rm G as w0 post w1 :=
  x_start (Qc := fun sz => va_Qi post (BW G w0 sz w1) (va_A w0 sz)) own hown hy hw hn (fun p e s m args below meth c A ls E hr hlk hAe hwd hl => body p e s m args below meth c A _ ls E hwd hl
    (fun r u H locs pc ls hdg hnar hp hw2 => W.zret (v := r) E.1 E.2.1 hr hnar (fun t ht _ => ⟨⟨r, u, rfl, hp, by rw [ht]; exact hw2.2.1, hAe ▸ hw2.2.2.1⟩, hAe ▸ hw2.2.2.2.1.F ht⟩) hw2.2.2.2.1.2.2 hdg hlk))
theorem CtL.go {post : Int64 → S → Prop} (own : String) (hown : y.cls = own) (hy : plainName y.cls = true) (hw : ws = Cond.code y cc maxL (some .long) :: ws') (hn : (lg_sl as).length ≤ maxL)
    (body : ∀ (p : Program) (e : Env) (s : State) (m : MethodId) (args : Array Value) (below : List Frame) (meth : Method) (c : Code) (A : Nat → Prop) (Q : State → Prop) (ls : Array Slot), CallFix p m c cc maxL s args ws own → Wd G s A w0 s.heap [] → lv_has ls maxL (lv_args 0 as) →
      (∀ (r : Int64) (u : S) (H : Heap) (locs : List Loc) (pc : Nat) (ls : Array Slot), decode cc pc = .ok (.lreturn, 1) → post r u → Wd G s A (w1 u) H locs → W p l e rm s m args below meth c H locs 0 0 Q (F0 m pc ls [.long r])) →
      W p l e rm s m args below meth c s.heap [] 0 0 Q (F0 m 0 ls [])) : CtL l y ws rm G as w0 post w1 :=
  x_start (Qc := fun sz => va_Ql post (BW G w0 sz w1) (va_A w0 sz)) own hown hy hw hn (fun p e s m args below meth c A ls E hr hlk hAe hwd hl => body p e s m args below meth c A _ ls E hwd hl
    (fun r u H locs pc ls hdg hp hw2 => W.lret (v := r) E.1 E.2.1 hr (fun t ht _ => ⟨⟨r, u, rfl, hp, by rw [ht]; exact hw2.2.1, hAe ▸ hw2.2.2.1⟩, hAe ▸ hw2.2.2.2.1.F ht⟩) hw2.2.2.2.1.2.2 hdg hlk))
theorem CtV.go {post : S → Prop} (own : String) (hown : y.cls = own) (hy : plainName y.cls = true) (hw : ws = Cond.code y cc maxL none :: ws') (hn : (lg_sl as).length ≤ maxL)
    (body : ∀ (p : Program) (e : Env) (s : State) (m : MethodId) (args : Array Value) (below : List Frame) (meth : Method) (c : Code) (A : Nat → Prop) (Q : State → Prop) (ls : Array Slot), CallFix p m c cc maxL s args ws own → Wd G s A w0 s.heap [] → lv_has ls maxL (lv_args 0 as) →
      (∀ (u : S) (H : Heap) (locs : List Loc) (pc : Nat) (ls : Array Slot), decode cc pc = .ok (.return_, 1) → post u → Wd G s A (w1 u) H locs → W p l e rm s m args below meth c H locs 0 0 Q (F0 m pc ls [])) →
      W p l e rm s m args below meth c s.heap [] 0 0 Q (F0 m 0 ls [])) : CtV l y ws rm G as w0 post w1 :=
  x_start (Qc := fun sz => va_Qv post (BW G w0 sz w1) (va_A w0 sz)) own hown hy hw hn (fun p e s m args below meth c A ls E hr hlk hAe hwd hl => body p e s m args below meth c A _ ls E hwd hl
    (fun u H locs pc ls hdg hp hw2 => W.vret E.1 E.2.1 hr (fun t ht _ => ⟨⟨u, rfl, hp, by rw [ht]; exact hw2.2.1, hAe ▸ hw2.2.2.1⟩, hAe ▸ hw2.2.2.2.1.F ht⟩) hw2.2.2.2.1.2.2 hdg hlk))
end XB
end
section
/-! own rows over the bundle -/
section XR
variable {p : Program} {l : Launch} {e : Env} {R : Room} {s : State} {m : MethodId} {args : Array Value} {below : List Frame} {meth : Method} {c : Code} {H : Heap} {locs : List Loc} {Q : State → Prop} {cc : ByteArray} {pc nL : Nat} {ls : Array Slot} {rest : List Value} {Ts : List Cond} {own : String} {G : XG} {A : Nat → Prop} {ws ws1 : va_W} {cells slots : Nat}
theorem Wd.set {H1 : Heap} {locs1 : List Loc} (hw : Wd G s A ws H locs) (hP : va_P G.1 vwCl ws1 H1) (hD : va_D A ws1) (hS : va_S A s.heap H1 locs1) : Wd G s A ws1 H1 locs1 := ⟨hw.1, hP, hD, hS, hw.2.2.2.2⟩
theorem Wd.sub (hw : Wd G s A ws H locs) (is : List Nat) (hn : va_nd is = true) (hs : is.map (fun i => ws[i]?) = ws1.map some) : Wd G s A ws1 H locs := by
  refine hw.set (hw.2.1.sub is ?_) (hw.2.2.1.sub is hn hs) hw.2.2.2.1
  have h : is.filterMap (fun i => ws[i]?) = (is.map (fun i => ws[i]?)).filterMap id := by rw [List.filterMap_map]; rfl
  rw [h, hs, List.filterMap_map]
  simp
theorem Wd.cast (hw : Wd G s A ws H locs) (h : ws = ws1) : Wd G s A ws1 H locs := h ▸ hw
theorem x_get (E : CallFix p m c cc nL s args Ts own) (hw : Wd G s A ws H locs) {C : String} {T : u_T} {N ci index a : Nat} (hin : ∀ w ∈ u_ws C T N, w ∈ Ts) (q0 : Nat) {fs : List Value} (he : ws[q0]? = some (a, .inr (ci, fs))) (hc : vwCl[ci]? = some (C, T, N)) (k : Nat) (hk : k < N) {v : Value} (hv : fs[k]? = some v) (hlink : Cond.fieldLink own index (T k).1 (T k).2.1 (T k).2.2.1 ∈ Ts) (hdg : decode cc pc = .ok (.getfield index, 3))
    (kk : W p l e R s m args below meth c H locs cells slots Q (F0 m (pc + 3) ls (v :: rest))) : W p l e R s m args below meth c H locs cells slots Q (F0 m pc ls (.ref a :: rest)) :=
  va_get E.1 E.2.1 E.2.2.2.2 hin E.2.2.2.1 hw.1 hw.2.1 q0 he hc k hk (E.2.2.2.2 _ hlink) (fun _ h => h) hv hdg kk
theorem x_getN (E : CallFix p m c cc nL s args Ts own) (hw : Wd G s A ws H locs) {C host : String} {T : u_T} {N ci index a : Nat} (hin : ∀ w ∈ u_ws C T N, w ∈ Ts) (q0 : Nat) {fs : List Value} (he : ws[q0]? = some (a, .inr (ci, fs))) (hc : vwCl[ci]? = some (C, T, N)) (k : Nat) (hk : k < N) {v : Value} (hv : fs[k]? = some v) (hlink : Cond.fieldLinkNest own index (T k).1 (T k).2.1 (T k).2.2.1 host ∈ nestW) (hdg : decode cc pc = .ok (.getfield index, 3))
    (kk : W p l e R s m args below meth c H locs cells slots Q (F0 m (pc + 3) ls (v :: rest))) : W p l e R s m args below meth c H locs cells slots Q (F0 m pc ls (.ref a :: rest)) :=
  va_getN E.1 E.2.1 E.2.2.2.2 hin E.2.2.2.1 hw.1 hw.2.1 q0 he hc k hk (va_Nw.use rfl (hw.2.2.2.2.2.1.1 _ hlink)) (fun _ h => h) hv hdg kk
theorem x_put (E : CallFix p m c cc nL s args Ts own) (hw : Wd G s A ws H locs) {C : String} {T : u_T} {N ci index a : Nat} (hin : ∀ w ∈ u_ws C T N, w ∈ Ts) {ty0 : Nat → FieldType} (hty : ∀ k, k < N → parseFieldDescriptor (T k).2.2.1 = some (ty0 k)) (hnm : ∀ a, a < N → ∀ b, b < N → a ≠ b → (T a).2.1 ≠ (T b).2.1) (q0 : Nat) {fs : List Value} (he : ws[q0]? = some (a, .inr (ci, fs))) (hc : vwCl[ci]? = some (C, T, N)) (k : Nat) (hk : k < N) (hlink : Cond.fieldLink own index (T k).1 (T k).2.1 (T k).2.2.1 ∈ Ts) (hfin : (T k).2.2.2 = false) {v : Value} (hn : narrow (ty0 k) v = v) (hfit : fits (ty0 k) v = true) (hl : k < fs.length) (hset : ws.set q0 (a, .inr (ci, fs.set k v)) = ws1)
    (hdg : decode cc pc = .ok (.putfield index, 3)) (kk : ∀ (H1 : Heap) (locs1 : List Loc), Wd G s A ws1 H1 locs1 → W p l e R s m args below meth c H1 locs1 cells slots Q (F0 m (pc + 3) ls rest)) : W p l e R s m args below meth c H locs cells slots Q (F0 m pc ls (v :: .ref a :: rest)) :=
  va_put E.1 E.2.1 E.2.2.2.2 hin ty0 hty hnm E.2.2.2.1 hw.1 hw.2.1 hw.2.2.1 hw.2.2.2.1 q0 he hc k hk (E.2.2.2.2 _ hlink) (fun _ h => h) hfin (hty k hk) hn hfit hl hdg (fun H1 locs1 hP hD hS => kk H1 locs1 (hw.set (hset ▸ hP) (hset ▸ hD) hS))
theorem x_lald (E : CallFix p m c cc nL s args Ts own) (hw : Wd G s A ws H locs) (q0 : Nat) {a n : Nat} {f : Nat → Int64} (ha : ws[q0]? = some (a, .inl (cJ G, n, .inr (.inl f)))) {i : Int32} {j : Nat} (hi : i = nI j) (hj : j < n) (hn : n < 2147483648) {v : Int64} (hv : f j = v) (hdg : decode cc pc = .ok (.laload, 1))
    (kk : W p l e R s m args below meth c H locs cells slots Q (F0 m (pc + 1) ls (.long v :: rest))) : W p l e R s m args below meth c H locs cells slots Q (F0 m pc ls (.int i :: .ref a :: rest)) := by
  subst hi
  refine va_lald E.1 E.2.1 hw.1 hw.2.1 q0 0 ha rfl (vp_in_nI hj hn) hdg ?_
  rw [nI_clamp (by omega), hv]
  exact kk
theorem x_iald (E : CallFix p m c cc nL s args Ts own) (hw : Wd G s A ws H locs) (q0 : Nat) {a n : Nat} {f : Nat → Int32} (ha : ws[q0]? = some (a, .inl (cI G, n, .inl f))) {i : Int32} {j : Nat} (hi : i = nI j) (hj : j < n) (hn : n < 2147483648) {v : Int32} (hv : f j = v) (hdg : decode cc pc = .ok (.iaload, 1))
    (kk : W p l e R s m args below meth c H locs cells slots Q (F0 m (pc + 1) ls (.int v :: rest))) : W p l e R s m args below meth c H locs cells slots Q (F0 m pc ls (.int i :: .ref a :: rest)) := by
  subst hi
  refine va_iald E.1 E.2.1 hw.1 hw.2.1 q0 1 ha rfl (vp_in_nI hj hn) hdg ?_
  rw [nI_clamp (by omega), hv]
  exact kk
/-- longs that are numbers, ints that are numbers: contents of arrays -/
abbrev fJ (g : Nat → Nat) : Nat → Int64 := fun j => lN (g j)
abbrev fI (g : Nat → Nat) : Nat → Int32 := fun j => nI (g j)
theorem fJ_up (g : Nat → Nat) (k v : Nat) : vp_updL (fJ g) k (lN v) = fJ (va_up g k v) := by
  funext j
  by_cases h : j = k <;> simp [vp_updL, fJ, va_up, h]
theorem fI_up (g : Nat → Nat) (k v : Nat) : upd (fI g) k (nI v) = fI (va_up g k v) := by
  funext j
  by_cases h : j = k <;> simp [upd, fI, va_up, h]
theorem x_last (E : CallFix p m c cc nL s args Ts own) (hw : Wd G s A ws H locs) (q0 : Nat) {a n : Nat} {f : Nat → Int64} (ha : ws[q0]? = some (a, .inl (cJ G, n, .inr (.inl f)))) {i : Int32} {j : Nat} (hi : i = nI j) (hj : j < n) (hn : n < 2147483648) {x : Int64} {f1 : Nat → Int64} (hf : vp_updL f j x = f1) (hset : ws.set q0 (a, .inl (cJ G, n, .inr (.inl f1))) = ws1) (hdg : decode cc pc = .ok (.lastore, 1))
    (kk : ∀ (H1 : Heap) (locs1 : List Loc), Wd G s A ws1 H1 locs1 → W p l e R s m args below meth c H1 locs1 cells slots Q (F0 m (pc + 1) ls rest)) : W p l e R s m args below meth c H locs cells slots Q (F0 m pc ls (.long x :: .int i :: .ref a :: rest)) := by
  subst hi
  have hc : (nI j).toNatClampNeg = j := nI_clamp (by omega)
  refine va_last E.1 E.2.1 hw.1 hw.2.1 hw.2.2.1 hw.2.2.2.1 q0 0 ha rfl (vp_in_nI hj hn) hdg (fun H1 locs1 hP hD hS => kk H1 locs1 (hw.set ?_ ?_ hS))
  · rw [hc, hf, hset] at hP
    exact hP
  · rw [hc, hf, hset] at hD
    exact hD
theorem x_iast (E : CallFix p m c cc nL s args Ts own) (hw : Wd G s A ws H locs) (q0 : Nat) {a n : Nat} {f : Nat → Int32} (ha : ws[q0]? = some (a, .inl (cI G, n, .inl f))) {i : Int32} {j : Nat} (hi : i = nI j) (hj : j < n) (hn : n < 2147483648) {x : Int32} {f1 : Nat → Int32} (hf : upd f j x = f1) (hset : ws.set q0 (a, .inl (cI G, n, .inl f1)) = ws1) (hdg : decode cc pc = .ok (.iastore, 1))
    (kk : ∀ (H1 : Heap) (locs1 : List Loc), Wd G s A ws1 H1 locs1 → W p l e R s m args below meth c H1 locs1 cells slots Q (F0 m (pc + 1) ls rest)) : W p l e R s m args below meth c H locs cells slots Q (F0 m pc ls (.int x :: .int i :: .ref a :: rest)) := by
  subst hi
  have hc : (nI j).toNatClampNeg = j := nI_clamp (by omega)
  refine va_iast E.1 E.2.1 hw.1 hw.2.1 hw.2.2.1 hw.2.2.2.1 q0 1 ha rfl (vp_in_nI hj hn) hdg (fun H1 locs1 hP hD hS => kk H1 locs1 (hw.set ?_ ?_ hS))
  · rw [hc, hf, hset] at hP
    exact hP
  · rw [hc, hf, hset] at hD
    exact hD
theorem x_alen (E : CallFix p m c cc nL s args Ts own) (hw : Wd G s A ws H locs) (q0 : Nat) {a n : Nat} {f : Nat → Int64} (ha : ws[q0]? = some (a, .inl (cJ G, n, .inr (.inl f)))) (hdg : decode cc pc = .ok (.arraylength, 1))
    (kk : W p l e R s m args below meth c H locs cells slots Q (F0 m (pc + 1) ls (.int (nI n) :: rest))) : W p l e R s m args below meth c H locs cells slots Q (F0 m pc ls (.ref a :: rest)) :=
  va_alen E.1 E.2.1 hw.1 hw.2.1 q0 0 ha rfl rfl hdg kk
-- arithmetic with its value named
theorem x_iadd (E : CallFix p m c cc nL s args Ts own) {x y v : Int32} (hdg : decode cc pc = .ok (.iadd, 1)) (hv : x + y = v) (k : W p l e R s m args below meth c H locs cells slots Q (F0 m (pc + 1) ls (.int v :: rest))) : W p l e R s m args below meth c H locs cells slots Q (F0 m pc ls (.int y :: .int x :: rest)) := lv_iadd E.1 E.2.1 hdg (hv ▸ k)
theorem x_isub (E : CallFix p m c cc nL s args Ts own) {x y v : Int32} (hdg : decode cc pc = .ok (.isub, 1)) (hv : x - y = v) (k : W p l e R s m args below meth c H locs cells slots Q (F0 m (pc + 1) ls (.int v :: rest))) : W p l e R s m args below meth c H locs cells slots Q (F0 m pc ls (.int y :: .int x :: rest)) := lv_isub E.1 E.2.1 hdg (hv ▸ k)
theorem x_imul (E : CallFix p m c cc nL s args Ts own) {x y v : Int32} (hdg : decode cc pc = .ok (.imul, 1)) (hv : x * y = v) (k : W p l e R s m args below meth c H locs cells slots Q (F0 m (pc + 1) ls (.int v :: rest))) : W p l e R s m args below meth c H locs cells slots Q (F0 m pc ls (.int y :: .int x :: rest)) := lv_imul E.1 E.2.1 hdg (hv ▸ k)
theorem x_iand (E : CallFix p m c cc nL s args Ts own) {x y v : Int32} (hdg : decode cc pc = .ok (.iand, 1)) (hv : x &&& y = v) (k : W p l e R s m args below meth c H locs cells slots Q (F0 m (pc + 1) ls (.int v :: rest))) : W p l e R s m args below meth c H locs cells slots Q (F0 m pc ls (.int y :: .int x :: rest)) := lv_iand E.1 E.2.1 hdg (hv ▸ k)
theorem x_ior (E : CallFix p m c cc nL s args Ts own) {x y v : Int32} (hdg : decode cc pc = .ok (.ior, 1)) (hv : x ||| y = v) (k : W p l e R s m args below meth c H locs cells slots Q (F0 m (pc + 1) ls (.int v :: rest))) : W p l e R s m args below meth c H locs cells slots Q (F0 m pc ls (.int y :: .int x :: rest)) := lv_ior E.1 E.2.1 hdg (hv ▸ k)
theorem x_idiv (E : CallFix p m c cc nL s args Ts own) {x y v : Int32} (hdg : decode cc pc = .ok (.idiv, 1)) (hne : ¬ y = 0) (hv : x / y = v) (k : W p l e R s m args below meth c H locs cells slots Q (F0 m (pc + 1) ls (.int v :: rest))) : W p l e R s m args below meth c H locs cells slots Q (F0 m pc ls (.int y :: .int x :: rest)) := lv_idiv E.1 E.2.1 hdg hne (hv ▸ k)
theorem x_irem (E : CallFix p m c cc nL s args Ts own) {x y v : Int32} (hdg : decode cc pc = .ok (.irem, 1)) (hne : ¬ y = 0) (hv : x - x / y * y = v) (k : W p l e R s m args below meth c H locs cells slots Q (F0 m (pc + 1) ls (.int v :: rest))) : W p l e R s m args below meth c H locs cells slots Q (F0 m pc ls (.int y :: .int x :: rest)) := lv_irem E.1 E.2.1 hdg hne (hv ▸ k)
theorem x_ishl (E : CallFix p m c cc nL s args Ts own) {x y v : Int32} (hdg : decode cc pc = .ok (.ishl, 1)) (hv : x <<< (y &&& 31) = v) (k : W p l e R s m args below meth c H locs cells slots Q (F0 m (pc + 1) ls (.int v :: rest))) : W p l e R s m args below meth c H locs cells slots Q (F0 m pc ls (.int y :: .int x :: rest)) := lv_ishl E.1 E.2.1 hdg (hv ▸ k)
theorem x_ladd (E : CallFix p m c cc nL s args Ts own) {x y v : Int64} (hdg : decode cc pc = .ok (.ladd, 1)) (hv : x + y = v) (k : W p l e R s m args below meth c H locs cells slots Q (F0 m (pc + 1) ls (.long v :: rest))) : W p l e R s m args below meth c H locs cells slots Q (F0 m pc ls (.long y :: .long x :: rest)) := lv_ladd E.1 E.2.1 hdg (hv ▸ k)
theorem x_lsub (E : CallFix p m c cc nL s args Ts own) {x y v : Int64} (hdg : decode cc pc = .ok (.lsub, 1)) (hv : x - y = v) (k : W p l e R s m args below meth c H locs cells slots Q (F0 m (pc + 1) ls (.long v :: rest))) : W p l e R s m args below meth c H locs cells slots Q (F0 m pc ls (.long y :: .long x :: rest)) := lv_lsub E.1 E.2.1 hdg (hv ▸ k)
theorem x_lmul (E : CallFix p m c cc nL s args Ts own) {x y v : Int64} (hdg : decode cc pc = .ok (.lmul, 1)) (hv : x * y = v) (k : W p l e R s m args below meth c H locs cells slots Q (F0 m (pc + 1) ls (.long v :: rest))) : W p l e R s m args below meth c H locs cells slots Q (F0 m pc ls (.long y :: .long x :: rest)) := lv_lmul E.1 E.2.1 hdg (hv ▸ k)
theorem x_land (E : CallFix p m c cc nL s args Ts own) {x y v : Int64} (hdg : decode cc pc = .ok (.land, 1)) (hv : x &&& y = v) (k : W p l e R s m args below meth c H locs cells slots Q (F0 m (pc + 1) ls (.long v :: rest))) : W p l e R s m args below meth c H locs cells slots Q (F0 m pc ls (.long y :: .long x :: rest)) := lv_land E.1 E.2.1 hdg (hv ▸ k)
theorem x_lor (E : CallFix p m c cc nL s args Ts own) {x y v : Int64} (hdg : decode cc pc = .ok (.lor, 1)) (hv : x ||| y = v) (k : W p l e R s m args below meth c H locs cells slots Q (F0 m (pc + 1) ls (.long v :: rest))) : W p l e R s m args below meth c H locs cells slots Q (F0 m pc ls (.long y :: .long x :: rest)) := lv_lor E.1 E.2.1 hdg (hv ▸ k)
theorem x_ldiv (E : CallFix p m c cc nL s args Ts own) {x y v : Int64} (hdg : decode cc pc = .ok (.ldiv, 1)) (hne : ¬ y = 0) (hv : x / y = v) (k : W p l e R s m args below meth c H locs cells slots Q (F0 m (pc + 1) ls (.long v :: rest))) : W p l e R s m args below meth c H locs cells slots Q (F0 m pc ls (.long y :: .long x :: rest)) := lv_ldiv E.1 E.2.1 hdg hne (hv ▸ k)
theorem x_lrem (E : CallFix p m c cc nL s args Ts own) {x y v : Int64} (hdg : decode cc pc = .ok (.lrem, 1)) (hne : ¬ y = 0) (hv : x - x / y * y = v) (k : W p l e R s m args below meth c H locs cells slots Q (F0 m (pc + 1) ls (.long v :: rest))) : W p l e R s m args below meth c H locs cells slots Q (F0 m pc ls (.long y :: .long x :: rest)) := lv_lrem E.1 E.2.1 hdg hne (hv ▸ k)
-- facts of numbers
theorem nI_toI {n : Nat} (h : n < 2147483648) : (nI n).toInt = (n : Int) := nI_toInt h
theorem lN_toI {n : Nat} (h : n < 9223372036854775808) : (lN n).toInt = (n : Int) := pk_lT h
-- branches, told in integers
theorem i_lt (a b : Int32) : a < b ↔ a.toInt < b.toInt := Int32.lt_iff_toInt_lt
theorem i_le (a b : Int32) : a ≤ b ↔ a.toInt ≤ b.toInt := Int32.le_iff_toInt_le
theorem i_eq (a b : Int32) : a = b ↔ a.toInt = b.toInt := Int32.toInt_inj.symm
theorem j_lt (a b : Int64) : a < b ↔ a.toInt < b.toInt := Int64.lt_iff_toInt_lt
theorem j_le (a b : Int64) : a ≤ b ↔ a.toInt ≤ b.toInt := Int64.le_iff_toInt_le
theorem j_eq (a b : Int64) : a = b ↔ a.toInt = b.toInt := Int64.toInt_inj.symm
theorem i_z : (0 : Int32).toInt = 0 := by decide
theorem x_icmp_eq (E : CallFix p m c cc nL s args Ts own) {x y : Int32} {X Y : Int} (hX : x.toInt = X) (hY : y.toInt = Y) {off : Int} {tgt : Nat} (hdg : decode cc pc = .ok (.if_icmp .eq off, 3)) (ht : (pc : Int) + off = (tgt : Int)) (kt : X = Y → W p l e R s m args below meth c H locs cells slots Q (F0 m tgt ls rest)) (kf : ¬ X = Y → W p l e R s m args below meth c H locs cells slots Q (F0 m (pc + 3) ls rest)) : W p l e R s m args below meth c H locs cells slots Q (F0 m pc ls (.int y :: .int x :: rest)) :=
  lv_icmp_eq E.1 E.2.1 hdg ht (fun h => kt (by rw [i_eq, hX, hY] at h; exact h)) (fun h => kf (by rw [i_eq, hX, hY] at h; exact h))
theorem x_if_eq (E : CallFix p m c cc nL s args Ts own) {x : Int32} {X : Int} (hX : x.toInt = X) {off : Int} {tgt : Nat} (hdg : decode cc pc = .ok (.ifCond .eq off, 3)) (ht : (pc : Int) + off = (tgt : Int)) (kt : X = 0 → W p l e R s m args below meth c H locs cells slots Q (F0 m tgt ls rest)) (kf : ¬ X = 0 → W p l e R s m args below meth c H locs cells slots Q (F0 m (pc + 3) ls rest)) : W p l e R s m args below meth c H locs cells slots Q (F0 m pc ls (.int x :: rest)) :=
  lv_if_eq E.1 E.2.1 hdg ht (fun h => kt (by rw [i_eq, hX, i_z] at h; exact h)) (fun h => kf (by rw [i_eq, hX, i_z] at h; exact h))
theorem x_lc_eq (E : CallFix p m c cc nL s args Ts own) {x y : Int64} {X Y : Int} (hX : x.toInt = X) (hY : y.toInt = Y) {off : Int} {tgt : Nat} (hd0 : decode cc pc = .ok (.lcmp, 1)) (hdg : decode cc (pc + 1) = .ok (.ifCond .eq off, 3)) (ht : ((pc + 1 : Nat) : Int) + off = (tgt : Int)) (kt : X = Y → W p l e R s m args below meth c H locs cells slots Q (F0 m tgt ls rest)) (kf : ¬ X = Y → W p l e R s m args below meth c H locs cells slots Q (F0 m (pc + 4) ls rest)) : W p l e R s m args below meth c H locs cells slots Q (F0 m pc ls (.long y :: .long x :: rest)) :=
  W.lcmp E.1 E.2.1 hd0 (lv_if_eq E.1 E.2.1 hdg ht (fun h => kt (by rw [lg_cmp_eq, j_eq, hX, hY] at h; exact h)) (fun h => kf (by rw [lg_cmp_eq, j_eq, hX, hY] at h; exact h)))
theorem x_icmp_ne (E : CallFix p m c cc nL s args Ts own) {x y : Int32} {X Y : Int} (hX : x.toInt = X) (hY : y.toInt = Y) {off : Int} {tgt : Nat} (hdg : decode cc pc = .ok (.if_icmp .ne off, 3)) (ht : (pc : Int) + off = (tgt : Int)) (kt : ¬ X = Y → W p l e R s m args below meth c H locs cells slots Q (F0 m tgt ls rest)) (kf : X = Y → W p l e R s m args below meth c H locs cells slots Q (F0 m (pc + 3) ls rest)) : W p l e R s m args below meth c H locs cells slots Q (F0 m pc ls (.int y :: .int x :: rest)) :=
  lv_icmp_ne E.1 E.2.1 hdg ht (fun h => kt (by rw [i_eq, hX, hY] at h; exact h)) (fun h => kf (by rw [i_eq, hX, hY] at h; exact h))
theorem x_if_ne (E : CallFix p m c cc nL s args Ts own) {x : Int32} {X : Int} (hX : x.toInt = X) {off : Int} {tgt : Nat} (hdg : decode cc pc = .ok (.ifCond .ne off, 3)) (ht : (pc : Int) + off = (tgt : Int)) (kt : ¬ X = 0 → W p l e R s m args below meth c H locs cells slots Q (F0 m tgt ls rest)) (kf : X = 0 → W p l e R s m args below meth c H locs cells slots Q (F0 m (pc + 3) ls rest)) : W p l e R s m args below meth c H locs cells slots Q (F0 m pc ls (.int x :: rest)) :=
  lv_if_ne E.1 E.2.1 hdg ht (fun h => kt (by rw [i_eq, hX, i_z] at h; exact h)) (fun h => kf (by rw [i_eq, hX, i_z] at h; exact h))
theorem x_lc_ne (E : CallFix p m c cc nL s args Ts own) {x y : Int64} {X Y : Int} (hX : x.toInt = X) (hY : y.toInt = Y) {off : Int} {tgt : Nat} (hd0 : decode cc pc = .ok (.lcmp, 1)) (hdg : decode cc (pc + 1) = .ok (.ifCond .ne off, 3)) (ht : ((pc + 1 : Nat) : Int) + off = (tgt : Int)) (kt : ¬ X = Y → W p l e R s m args below meth c H locs cells slots Q (F0 m tgt ls rest)) (kf : X = Y → W p l e R s m args below meth c H locs cells slots Q (F0 m (pc + 4) ls rest)) : W p l e R s m args below meth c H locs cells slots Q (F0 m pc ls (.long y :: .long x :: rest)) :=
  W.lcmp E.1 E.2.1 hd0 (lv_if_ne E.1 E.2.1 hdg ht (fun h => kt (by rw [lg_cmp_eq, j_eq, hX, hY] at h; exact h)) (fun h => kf (by rw [lg_cmp_eq, j_eq, hX, hY] at h; exact h)))
theorem x_icmp_lt (E : CallFix p m c cc nL s args Ts own) {x y : Int32} {X Y : Int} (hX : x.toInt = X) (hY : y.toInt = Y) {off : Int} {tgt : Nat} (hdg : decode cc pc = .ok (.if_icmp .lt off, 3)) (ht : (pc : Int) + off = (tgt : Int)) (kt : X < Y → W p l e R s m args below meth c H locs cells slots Q (F0 m tgt ls rest)) (kf : Y ≤ X → W p l e R s m args below meth c H locs cells slots Q (F0 m (pc + 3) ls rest)) : W p l e R s m args below meth c H locs cells slots Q (F0 m pc ls (.int y :: .int x :: rest)) :=
  lv_icmp_lt E.1 E.2.1 hdg ht (fun h => kt (by rw [i_lt, hX, hY] at h; exact h)) (fun h => kf (by rw [i_lt, hX, hY] at h; omega))
theorem x_if_lt (E : CallFix p m c cc nL s args Ts own) {x : Int32} {X : Int} (hX : x.toInt = X) {off : Int} {tgt : Nat} (hdg : decode cc pc = .ok (.ifCond .lt off, 3)) (ht : (pc : Int) + off = (tgt : Int)) (kt : X < 0 → W p l e R s m args below meth c H locs cells slots Q (F0 m tgt ls rest)) (kf : 0 ≤ X → W p l e R s m args below meth c H locs cells slots Q (F0 m (pc + 3) ls rest)) : W p l e R s m args below meth c H locs cells slots Q (F0 m pc ls (.int x :: rest)) :=
  lv_if_lt E.1 E.2.1 hdg ht (fun h => kt (by rw [i_lt, hX, i_z] at h; exact h)) (fun h => kf (by rw [i_lt, hX, i_z] at h; omega))
theorem x_lc_lt (E : CallFix p m c cc nL s args Ts own) {x y : Int64} {X Y : Int} (hX : x.toInt = X) (hY : y.toInt = Y) {off : Int} {tgt : Nat} (hd0 : decode cc pc = .ok (.lcmp, 1)) (hdg : decode cc (pc + 1) = .ok (.ifCond .lt off, 3)) (ht : ((pc + 1 : Nat) : Int) + off = (tgt : Int)) (kt : X < Y → W p l e R s m args below meth c H locs cells slots Q (F0 m tgt ls rest)) (kf : Y ≤ X → W p l e R s m args below meth c H locs cells slots Q (F0 m (pc + 4) ls rest)) : W p l e R s m args below meth c H locs cells slots Q (F0 m pc ls (.long y :: .long x :: rest)) :=
  W.lcmp E.1 E.2.1 hd0 (lv_if_lt E.1 E.2.1 hdg ht (fun h => kt (by rw [lg_cmp_lt, j_lt, hX, hY] at h; exact h)) (fun h => kf (by rw [lg_cmp_lt, j_lt, hX, hY] at h; omega)))
theorem x_icmp_ge (E : CallFix p m c cc nL s args Ts own) {x y : Int32} {X Y : Int} (hX : x.toInt = X) (hY : y.toInt = Y) {off : Int} {tgt : Nat} (hdg : decode cc pc = .ok (.if_icmp .ge off, 3)) (ht : (pc : Int) + off = (tgt : Int)) (kt : Y ≤ X → W p l e R s m args below meth c H locs cells slots Q (F0 m tgt ls rest)) (kf : X < Y → W p l e R s m args below meth c H locs cells slots Q (F0 m (pc + 3) ls rest)) : W p l e R s m args below meth c H locs cells slots Q (F0 m pc ls (.int y :: .int x :: rest)) :=
  lv_icmp_ge E.1 E.2.1 hdg ht (fun h => kt (by rw [i_le, hX, hY] at h; exact h)) (fun h => kf (by rw [i_le, hX, hY] at h; omega))
theorem x_if_ge (E : CallFix p m c cc nL s args Ts own) {x : Int32} {X : Int} (hX : x.toInt = X) {off : Int} {tgt : Nat} (hdg : decode cc pc = .ok (.ifCond .ge off, 3)) (ht : (pc : Int) + off = (tgt : Int)) (kt : 0 ≤ X → W p l e R s m args below meth c H locs cells slots Q (F0 m tgt ls rest)) (kf : X < 0 → W p l e R s m args below meth c H locs cells slots Q (F0 m (pc + 3) ls rest)) : W p l e R s m args below meth c H locs cells slots Q (F0 m pc ls (.int x :: rest)) :=
  lv_if_ge E.1 E.2.1 hdg ht (fun h => kt (by rw [i_le, hX, i_z] at h; exact h)) (fun h => kf (by rw [i_le, hX, i_z] at h; omega))
theorem x_lc_ge (E : CallFix p m c cc nL s args Ts own) {x y : Int64} {X Y : Int} (hX : x.toInt = X) (hY : y.toInt = Y) {off : Int} {tgt : Nat} (hd0 : decode cc pc = .ok (.lcmp, 1)) (hdg : decode cc (pc + 1) = .ok (.ifCond .ge off, 3)) (ht : ((pc + 1 : Nat) : Int) + off = (tgt : Int)) (kt : Y ≤ X → W p l e R s m args below meth c H locs cells slots Q (F0 m tgt ls rest)) (kf : X < Y → W p l e R s m args below meth c H locs cells slots Q (F0 m (pc + 4) ls rest)) : W p l e R s m args below meth c H locs cells slots Q (F0 m pc ls (.long y :: .long x :: rest)) :=
  W.lcmp E.1 E.2.1 hd0 (lv_if_ge E.1 E.2.1 hdg ht (fun h => kt (by rw [lg_cmp_ge, j_le, hX, hY] at h; exact h)) (fun h => kf (by rw [lg_cmp_ge, j_le, hX, hY] at h; omega)))
theorem x_icmp_gt (E : CallFix p m c cc nL s args Ts own) {x y : Int32} {X Y : Int} (hX : x.toInt = X) (hY : y.toInt = Y) {off : Int} {tgt : Nat} (hdg : decode cc pc = .ok (.if_icmp .gt off, 3)) (ht : (pc : Int) + off = (tgt : Int)) (kt : Y < X → W p l e R s m args below meth c H locs cells slots Q (F0 m tgt ls rest)) (kf : X ≤ Y → W p l e R s m args below meth c H locs cells slots Q (F0 m (pc + 3) ls rest)) : W p l e R s m args below meth c H locs cells slots Q (F0 m pc ls (.int y :: .int x :: rest)) :=
  lv_icmp_gt E.1 E.2.1 hdg ht (fun h => kt (by rw [i_lt, hX, hY] at h; exact h)) (fun h => kf (by rw [i_lt, hX, hY] at h; omega))
theorem x_if_gt (E : CallFix p m c cc nL s args Ts own) {x : Int32} {X : Int} (hX : x.toInt = X) {off : Int} {tgt : Nat} (hdg : decode cc pc = .ok (.ifCond .gt off, 3)) (ht : (pc : Int) + off = (tgt : Int)) (kt : 0 < X → W p l e R s m args below meth c H locs cells slots Q (F0 m tgt ls rest)) (kf : X ≤ 0 → W p l e R s m args below meth c H locs cells slots Q (F0 m (pc + 3) ls rest)) : W p l e R s m args below meth c H locs cells slots Q (F0 m pc ls (.int x :: rest)) :=
  lv_if_gt E.1 E.2.1 hdg ht (fun h => kt (by rw [i_lt, hX, i_z] at h; exact h)) (fun h => kf (by rw [i_lt, hX, i_z] at h; omega))
theorem x_lc_gt (E : CallFix p m c cc nL s args Ts own) {x y : Int64} {X Y : Int} (hX : x.toInt = X) (hY : y.toInt = Y) {off : Int} {tgt : Nat} (hd0 : decode cc pc = .ok (.lcmp, 1)) (hdg : decode cc (pc + 1) = .ok (.ifCond .gt off, 3)) (ht : ((pc + 1 : Nat) : Int) + off = (tgt : Int)) (kt : Y < X → W p l e R s m args below meth c H locs cells slots Q (F0 m tgt ls rest)) (kf : X ≤ Y → W p l e R s m args below meth c H locs cells slots Q (F0 m (pc + 4) ls rest)) : W p l e R s m args below meth c H locs cells slots Q (F0 m pc ls (.long y :: .long x :: rest)) :=
  W.lcmp E.1 E.2.1 hd0 (lv_if_gt E.1 E.2.1 hdg ht (fun h => kt (by rw [lg_cmp_gt, j_lt, hX, hY] at h; exact h)) (fun h => kf (by rw [lg_cmp_gt, j_lt, hX, hY] at h; omega)))
theorem x_icmp_le (E : CallFix p m c cc nL s args Ts own) {x y : Int32} {X Y : Int} (hX : x.toInt = X) (hY : y.toInt = Y) {off : Int} {tgt : Nat} (hdg : decode cc pc = .ok (.if_icmp .le off, 3)) (ht : (pc : Int) + off = (tgt : Int)) (kt : X ≤ Y → W p l e R s m args below meth c H locs cells slots Q (F0 m tgt ls rest)) (kf : Y < X → W p l e R s m args below meth c H locs cells slots Q (F0 m (pc + 3) ls rest)) : W p l e R s m args below meth c H locs cells slots Q (F0 m pc ls (.int y :: .int x :: rest)) :=
  lv_icmp_le E.1 E.2.1 hdg ht (fun h => kt (by rw [i_le, hX, hY] at h; exact h)) (fun h => kf (by rw [i_le, hX, hY] at h; omega))
theorem x_if_le (E : CallFix p m c cc nL s args Ts own) {x : Int32} {X : Int} (hX : x.toInt = X) {off : Int} {tgt : Nat} (hdg : decode cc pc = .ok (.ifCond .le off, 3)) (ht : (pc : Int) + off = (tgt : Int)) (kt : X ≤ 0 → W p l e R s m args below meth c H locs cells slots Q (F0 m tgt ls rest)) (kf : 0 < X → W p l e R s m args below meth c H locs cells slots Q (F0 m (pc + 3) ls rest)) : W p l e R s m args below meth c H locs cells slots Q (F0 m pc ls (.int x :: rest)) :=
  lv_if_le E.1 E.2.1 hdg ht (fun h => kt (by rw [i_le, hX, i_z] at h; exact h)) (fun h => kf (by rw [i_le, hX, i_z] at h; omega))
theorem x_lc_le (E : CallFix p m c cc nL s args Ts own) {x y : Int64} {X Y : Int} (hX : x.toInt = X) (hY : y.toInt = Y) {off : Int} {tgt : Nat} (hd0 : decode cc pc = .ok (.lcmp, 1)) (hdg : decode cc (pc + 1) = .ok (.ifCond .le off, 3)) (ht : ((pc + 1 : Nat) : Int) + off = (tgt : Int)) (kt : X ≤ Y → W p l e R s m args below meth c H locs cells slots Q (F0 m tgt ls rest)) (kf : Y < X → W p l e R s m args below meth c H locs cells slots Q (F0 m (pc + 4) ls rest)) : W p l e R s m args below meth c H locs cells slots Q (F0 m pc ls (.long y :: .long x :: rest)) :=
  W.lcmp E.1 E.2.1 hd0 (lv_if_le E.1 E.2.1 hdg ht (fun h => kt (by rw [lg_cmp_le, j_le, hX, hY] at h; exact h)) (fun h => kf (by rw [lg_cmp_le, j_le, hX, hY] at h; omega)))
-- branches on a boolean that is told
theorem x_ifb_eq (E : CallFix p m c cc nL s args Ts own) {P : Prop} [Decidable P] {off : Int} {tgt : Nat} (hdg : decode cc pc = .ok (.ifCond .eq off, 3)) (ht : (pc : Int) + off = (tgt : Int)) (kt : ¬ P → W p l e R s m args below meth c H locs cells slots Q (F0 m tgt ls rest)) (kf : P → W p l e R s m args below meth c H locs cells slots Q (F0 m (pc + 3) ls rest)) : W p l e R s m args below meth c H locs cells slots Q (F0 m pc ls (.int (if P then 1 else 0) :: rest)) :=
  lv_if_eq E.1 E.2.1 hdg ht (fun h => kt (fun hp => by rw [if_pos hp] at h; exact absurd h (by decide))) (fun h => kf (Decidable.byContradiction (fun hp => h (if_neg hp))))
theorem x_ifb_ne (E : CallFix p m c cc nL s args Ts own) {P : Prop} [Decidable P] {off : Int} {tgt : Nat} (hdg : decode cc pc = .ok (.ifCond .ne off, 3)) (ht : (pc : Int) + off = (tgt : Int)) (kt : P → W p l e R s m args below meth c H locs cells slots Q (F0 m tgt ls rest)) (kf : ¬ P → W p l e R s m args below meth c H locs cells slots Q (F0 m (pc + 3) ls rest)) : W p l e R s m args below meth c H locs cells slots Q (F0 m pc ls (.int (if P then 1 else 0) :: rest)) :=
  lv_if_ne E.1 E.2.1 hdg ht (fun h => kt (Decidable.byContradiction (fun hp => h (if_neg hp)))) (fun h => kf (fun hp => by rw [if_pos hp] at h; exact absurd h (by decide)))
theorem x_tsw (E : CallFix p m c cc nL s args Ts own) {dflt lo hi : Int} {offs : Array Int} {len : Nat} {x : Int32} {X off : Int} {tgt : Nat} (hX : x.toInt = X) (hdg : decode cc pc = .ok (.tableswitch dflt lo hi offs, len)) (h1 : lo ≤ X) (h2 : X ≤ hi) (ho : offs[(X - lo).toNat]? = some off) (ht : (pc : Int) + off = (tgt : Int)) (k : W p l e R s m args below meth c H locs cells slots Q (F0 m tgt ls rest)) : W p l e R s m args below meth c H locs cells slots Q (F0 m pc ls (.int x :: rest)) :=
  lv_tableIn E.1 E.2.1 hdg (by rw [hX]; omega) (by rw [hX]; omega) (by rw [hX]; exact ho) ht k
theorem x_tswD (E : CallFix p m c cc nL s args Ts own) {dflt lo hi : Int} {offs : Array Int} {len : Nat} {x : Int32} {X : Int} {tgt : Nat} (hX : x.toInt = X) (hdg : decode cc pc = .ok (.tableswitch dflt lo hi offs, len)) (h : X < lo ∨ hi < X) (ht : (pc : Int) + dflt = (tgt : Int)) (k : W p l e R s m args below meth c H locs cells slots Q (F0 m tgt ls rest)) : W p l e R s m args below meth c H locs cells slots Q (F0 m pc ls (.int x :: rest)) :=
  lv_tableOut E.1 E.2.1 hdg (by rw [hX]; exact h) ht k
theorem x_narZ {P : Prop} [Decidable P] : narrow .boolean (.int (if P then 1 else 0)) = .int (if P then 1 else 0) := by
  by_cases h : P
  · rw [if_pos h]; rfl
  · rw [if_neg h]; rfl

theorem x_calliV (E : CallFix p m c cc nL s args Ts own) (hw : Wd G s A ws H locs) (hsz : ls.size = nL) {y : MethodName} {bytes : ByteArray} {maxL : Nat} {ret : Option FieldType} {wsy wsy' : List Cond} {rm : Room} {b : Addr} {As : List Value} {w0 : va_W} {S : Type} {post : Int32 → S → Prop} {w1 : S → va_W} (hM : CtI l y wsy rm G (.ref b :: As) w0 post w1) {C : String} {index : Nat} (n : Nat) (hG : GoodIn Ts (wsV own index C y wsy)) (hwy : wsy = Cond.code y bytes maxL ret :: wsy') (hrc : rm.cells = 0) (hrs : rm.slots = 0)
    (hd : y.cls = C ∧ y.cls ≠ "java/lang/invoke/MethodHandle" ∧ y.cls ≠ "java/lang/invoke/VarHandle" ∧ (parseMethodDescriptor y.desc).map (fun d => d.parameters.length) = some n) (hR : rm.frames + 1 ≤ R.frames ∧ 8 + (maxL + 11) + rm.locals ≤ R.locals) (hf : cells ≤ R.cells ∧ slots ≤ R.slots) (hn : As.length = n)
    (qr : Nat) {ci N : Nat} {fs : List Value} {T : u_T} (hci : vwCl[ci]? = some (C, T, N)) (hrecv : ws[qr]? = some (b, .inr (ci, fs))) (isC isR : List Nat) (hcn : va_nd isC = true) (hC : isC.map (fun i => ws[i]?) = w0.map some) (hRr : isR.map (fun i => ws[i]?) = (isR.filterMap (fun i => ws[i]?)).map some) (hnd : va_nd isR = true) (hdis : isR.all (fun i => !isC.contains i) = true)
    (isJ : List Nat) (w2 : S → va_W) (hJn : va_nd isJ = true) (hJ : ∀ u, isJ.map (fun i => (isR.filterMap (fun i => ws[i]?) ++ w1 u)[i]?) = (w2 u).map some) {st : List Value} (hstk : st = As.reverse ++ .ref b :: rest) (hst : (rest.map fun v => v.category).sum ≤ 8) (hdg : decode cc pc = .ok (.invokevirtual index, 3))
    (kk : ∀ (r : Int32) (u : S) (H1 : Heap) (locs1 : List Loc), post r u → Wd G s A (w2 u) H1 locs1 → W p l e R s m args below meth c H1 locs1 cells slots Q (F0 m (pc + 3) ls (.int r :: rest))) : W p l e R s m args below meth c H locs cells slots Q (F0 m pc ls st) := by
  subst hstk
  obtain ⟨hK, hP, hD, hS, hA, hN, hSK⟩ := id hw
  have hd1 : ∀ i ∈ isR, i ∉ isC := fun i hi h => by
    have h1 := List.all_eq_true.mp hdis i hi
    simp only [Bool.not_eq_true', List.contains_eq_mem, decide_eq_false_iff_not] at h1
    exact h1 h
  have hFc := va_free (wc := w0) hD hS hA isC hC
  have hDc : va_D A w0 := hD.sub isC hcn hC
  have hpre : ∀ U : State, U.heap = H → s.WarmedH U.vm → PreW G (.ref b :: As) w0 H.size (Value.ref b :: As).toArray U := fun U hU hW => by
    refine ⟨rfl, by rw [hU], va_K.moved hW.alike hK, ?_, ?_, hN.warm hW, ?_⟩
    · rw [hU]
      intro k q hq
      have h1 : (isC.map (fun i => ws[i]?))[k]? = some (some q) := by rw [hC, List.getElem?_map, hq]; rfl
      rw [List.getElem?_map] at h1
      cases hi : isC[k]? with
      | none => rw [hi] at h1; cases h1
      | some i => rw [hi] at h1; exact hP i q (Option.some.inj h1)
    · refine ⟨fun i j p q hp hq hpq => ?_, fun _ _ _ => trivial⟩
      exact hDc.1 i j p q hp hq hpq
    · rw [hU]
      exact hSK.go hW hS.2.1 hFc
  refine va_calli (B := BW G w0 H.size w1) (va_runV (As := As) (rest := rest) E (hM H.size) (cwV n E.2.2.2.2 hG hwy hrc hrs hd hR) ⟨PreW.blind, va_recv hK hP (ci := ci) (q0 := qr) hci hrecv, hpre⟩ rfl hn hsz rfl (lv_room hst) hdg hf) hS (fun q _ h => hFc q h) hFc (fun r u t H1 locs ht hvm hw2 hB hz1 hk1 hS1 => ?_)
  obtain ⟨hP1, hD1⟩ := hB
  rw [ht] at hP1
  obtain ⟨hP3, hD3⟩ := va_join (wr := isR.filterMap (fun i => ws[i]?)) (w1 := w1 u) hP hD isC isR hC hRr hnd hd1 hk1 hFc hP1 hD1
  have hw3 : Wd G s A (isR.filterMap (fun i => ws[i]?) ++ w1 u) H1 locs := hw.set hP3 hD3 hS1
  exact kk r u H1 locs hw2 (hw3.sub isJ hJn (hJ u))
theorem x_calliS (E : CallFix p m c cc nL s args Ts own) (hw : Wd G s A ws H locs) (hsz : ls.size = nL) {y : MethodName} {bytes : ByteArray} {maxL : Nat} {ret : Option FieldType} {wsy wsy' : List Cond} {rm : Room} {As : List Value} {w0 : va_W} {S : Type} {post : Int32 → S → Prop} {w1 : S → va_W} (hM : CtI l y wsy rm G As w0 post w1) {index : Nat} (n : Nat) (hG : GoodIn Ts (va_wsS own index y wsy)) (hwy : wsy = Cond.code y bytes maxL ret :: wsy') (hrc : rm.cells = 0) (hrs : rm.slots = 0)
    (hd : y.cls ≠ "java/lang/invoke/MethodHandle" ∧ y.cls ≠ "java/lang/invoke/VarHandle" ∧ (parseMethodDescriptor y.desc).map (fun d => d.parameters.length) = some n) (hR : rm.frames + 1 ≤ R.frames ∧ 8 + (maxL + 11) + rm.locals ≤ R.locals) (hf : cells ≤ R.cells ∧ slots ≤ R.slots) (hn : As.length = n)
    (isC isR : List Nat) (hcn : va_nd isC = true) (hC : isC.map (fun i => ws[i]?) = w0.map some) (hRr : isR.map (fun i => ws[i]?) = (isR.filterMap (fun i => ws[i]?)).map some) (hnd : va_nd isR = true) (hdis : isR.all (fun i => !isC.contains i) = true)
    (isJ : List Nat) (w2 : S → va_W) (hJn : va_nd isJ = true) (hJ : ∀ u, isJ.map (fun i => (isR.filterMap (fun i => ws[i]?) ++ w1 u)[i]?) = (w2 u).map some) {st : List Value} (hstk : st = As.reverse ++ rest) (hst : (rest.map fun v => v.category).sum ≤ 8) (hdg : decode cc pc = .ok (.invokestatic index, 3))
    (kk : ∀ (r : Int32) (u : S) (H1 : Heap) (locs1 : List Loc), post r u → Wd G s A (w2 u) H1 locs1 → W p l e R s m args below meth c H1 locs1 cells slots Q (F0 m (pc + 3) ls (.int r :: rest))) : W p l e R s m args below meth c H locs cells slots Q (F0 m pc ls st) := by
  subst hstk
  obtain ⟨hK, hP, hD, hS, hA, hN, hSK⟩ := id hw
  have hd1 : ∀ i ∈ isR, i ∉ isC := fun i hi h => by
    have h1 := List.all_eq_true.mp hdis i hi
    simp only [Bool.not_eq_true', List.contains_eq_mem, decide_eq_false_iff_not] at h1
    exact h1 h
  have hFc := va_free (wc := w0) hD hS hA isC hC
  have hDc : va_D A w0 := hD.sub isC hcn hC
  have hpre : ∀ U : State, U.heap = H → s.WarmedH U.vm → PreW G As w0 H.size (As).toArray U := fun U hU hW => by
    refine ⟨rfl, by rw [hU], va_K.moved hW.alike hK, ?_, ?_, hN.warm hW, ?_⟩
    · rw [hU]
      intro k q hq
      have h1 : (isC.map (fun i => ws[i]?))[k]? = some (some q) := by rw [hC, List.getElem?_map, hq]; rfl
      rw [List.getElem?_map] at h1
      cases hi : isC[k]? with
      | none => rw [hi] at h1; cases h1
      | some i => rw [hi] at h1; exact hP i q (Option.some.inj h1)
    · refine ⟨fun i j p q hp hq hpq => ?_, fun _ _ _ => trivial⟩
      exact hDc.1 i j p q hp hq hpq
    · rw [hU]
      exact hSK.go hW hS.2.1 hFc
  refine va_calli (B := BW G w0 H.size w1) (va_runS (As := As) (rest := rest) E (hM H.size) (va_cwS n E.2.2.2.2 hG hwy hrc hrs hd hR) ⟨PreW.blind, hpre⟩ rfl hn hsz rfl (lv_room hst) hdg hf) hS (fun q _ h => hFc q h) hFc (fun r u t H1 locs ht hvm hw2 hB hz1 hk1 hS1 => ?_)
  obtain ⟨hP1, hD1⟩ := hB
  rw [ht] at hP1
  obtain ⟨hP3, hD3⟩ := va_join (wr := isR.filterMap (fun i => ws[i]?)) (w1 := w1 u) hP hD isC isR hC hRr hnd hd1 hk1 hFc hP1 hD1
  have hw3 : Wd G s A (isR.filterMap (fun i => ws[i]?) ++ w1 u) H1 locs := hw.set hP3 hD3 hS1
  exact kk r u H1 locs hw2 (hw3.sub isJ hJn (hJ u))
theorem x_calllV (E : CallFix p m c cc nL s args Ts own) (hw : Wd G s A ws H locs) (hsz : ls.size = nL) {y : MethodName} {bytes : ByteArray} {maxL : Nat} {ret : Option FieldType} {wsy wsy' : List Cond} {rm : Room} {b : Addr} {As : List Value} {w0 : va_W} {S : Type} {post : Int64 → S → Prop} {w1 : S → va_W} (hM : CtL l y wsy rm G (.ref b :: As) w0 post w1) {C : String} {index : Nat} (n : Nat) (hG : GoodIn Ts (wsV own index C y wsy)) (hwy : wsy = Cond.code y bytes maxL ret :: wsy') (hrc : rm.cells = 0) (hrs : rm.slots = 0)
    (hd : y.cls = C ∧ y.cls ≠ "java/lang/invoke/MethodHandle" ∧ y.cls ≠ "java/lang/invoke/VarHandle" ∧ (parseMethodDescriptor y.desc).map (fun d => d.parameters.length) = some n) (hR : rm.frames + 1 ≤ R.frames ∧ 8 + (maxL + 11) + rm.locals ≤ R.locals) (hf : cells ≤ R.cells ∧ slots ≤ R.slots) (hn : As.length = n)
    (qr : Nat) {ci N : Nat} {fs : List Value} {T : u_T} (hci : vwCl[ci]? = some (C, T, N)) (hrecv : ws[qr]? = some (b, .inr (ci, fs))) (isC isR : List Nat) (hcn : va_nd isC = true) (hC : isC.map (fun i => ws[i]?) = w0.map some) (hRr : isR.map (fun i => ws[i]?) = (isR.filterMap (fun i => ws[i]?)).map some) (hnd : va_nd isR = true) (hdis : isR.all (fun i => !isC.contains i) = true)
    (isJ : List Nat) (w2 : S → va_W) (hJn : va_nd isJ = true) (hJ : ∀ u, isJ.map (fun i => (isR.filterMap (fun i => ws[i]?) ++ w1 u)[i]?) = (w2 u).map some) {st : List Value} (hstk : st = As.reverse ++ .ref b :: rest) (hst : (rest.map fun v => v.category).sum ≤ 8) (hdg : decode cc pc = .ok (.invokevirtual index, 3))
    (kk : ∀ (r : Int64) (u : S) (H1 : Heap) (locs1 : List Loc), post r u → Wd G s A (w2 u) H1 locs1 → W p l e R s m args below meth c H1 locs1 cells slots Q (F0 m (pc + 3) ls (.long r :: rest))) : W p l e R s m args below meth c H locs cells slots Q (F0 m pc ls st) := by
  subst hstk
  obtain ⟨hK, hP, hD, hS, hA, hN, hSK⟩ := id hw
  have hd1 : ∀ i ∈ isR, i ∉ isC := fun i hi h => by
    have h1 := List.all_eq_true.mp hdis i hi
    simp only [Bool.not_eq_true', List.contains_eq_mem, decide_eq_false_iff_not] at h1
    exact h1 h
  have hFc := va_free (wc := w0) hD hS hA isC hC
  have hDc : va_D A w0 := hD.sub isC hcn hC
  have hpre : ∀ U : State, U.heap = H → s.WarmedH U.vm → PreW G (.ref b :: As) w0 H.size (Value.ref b :: As).toArray U := fun U hU hW => by
    refine ⟨rfl, by rw [hU], va_K.moved hW.alike hK, ?_, ?_, hN.warm hW, ?_⟩
    · rw [hU]
      intro k q hq
      have h1 : (isC.map (fun i => ws[i]?))[k]? = some (some q) := by rw [hC, List.getElem?_map, hq]; rfl
      rw [List.getElem?_map] at h1
      cases hi : isC[k]? with
      | none => rw [hi] at h1; cases h1
      | some i => rw [hi] at h1; exact hP i q (Option.some.inj h1)
    · refine ⟨fun i j p q hp hq hpq => ?_, fun _ _ _ => trivial⟩
      exact hDc.1 i j p q hp hq hpq
    · rw [hU]
      exact hSK.go hW hS.2.1 hFc
  refine va_calll (B := BW G w0 H.size w1) (va_runV (As := As) (rest := rest) E (hM H.size) (cwV n E.2.2.2.2 hG hwy hrc hrs hd hR) ⟨PreW.blind, va_recv hK hP (ci := ci) (q0 := qr) hci hrecv, hpre⟩ rfl hn hsz rfl (lv_room hst) hdg hf) hS (fun q _ h => hFc q h) hFc (fun r u t H1 locs ht hvm hw2 hB hz1 hk1 hS1 => ?_)
  obtain ⟨hP1, hD1⟩ := hB
  rw [ht] at hP1
  obtain ⟨hP3, hD3⟩ := va_join (wr := isR.filterMap (fun i => ws[i]?)) (w1 := w1 u) hP hD isC isR hC hRr hnd hd1 hk1 hFc hP1 hD1
  have hw3 : Wd G s A (isR.filterMap (fun i => ws[i]?) ++ w1 u) H1 locs := hw.set hP3 hD3 hS1
  exact kk r u H1 locs hw2 (hw3.sub isJ hJn (hJ u))
theorem x_calllS (E : CallFix p m c cc nL s args Ts own) (hw : Wd G s A ws H locs) (hsz : ls.size = nL) {y : MethodName} {bytes : ByteArray} {maxL : Nat} {ret : Option FieldType} {wsy wsy' : List Cond} {rm : Room} {As : List Value} {w0 : va_W} {S : Type} {post : Int64 → S → Prop} {w1 : S → va_W} (hM : CtL l y wsy rm G As w0 post w1) {index : Nat} (n : Nat) (hG : GoodIn Ts (va_wsS own index y wsy)) (hwy : wsy = Cond.code y bytes maxL ret :: wsy') (hrc : rm.cells = 0) (hrs : rm.slots = 0)
    (hd : y.cls ≠ "java/lang/invoke/MethodHandle" ∧ y.cls ≠ "java/lang/invoke/VarHandle" ∧ (parseMethodDescriptor y.desc).map (fun d => d.parameters.length) = some n) (hR : rm.frames + 1 ≤ R.frames ∧ 8 + (maxL + 11) + rm.locals ≤ R.locals) (hf : cells ≤ R.cells ∧ slots ≤ R.slots) (hn : As.length = n)
    (isC isR : List Nat) (hcn : va_nd isC = true) (hC : isC.map (fun i => ws[i]?) = w0.map some) (hRr : isR.map (fun i => ws[i]?) = (isR.filterMap (fun i => ws[i]?)).map some) (hnd : va_nd isR = true) (hdis : isR.all (fun i => !isC.contains i) = true)
    (isJ : List Nat) (w2 : S → va_W) (hJn : va_nd isJ = true) (hJ : ∀ u, isJ.map (fun i => (isR.filterMap (fun i => ws[i]?) ++ w1 u)[i]?) = (w2 u).map some) {st : List Value} (hstk : st = As.reverse ++ rest) (hst : (rest.map fun v => v.category).sum ≤ 8) (hdg : decode cc pc = .ok (.invokestatic index, 3))
    (kk : ∀ (r : Int64) (u : S) (H1 : Heap) (locs1 : List Loc), post r u → Wd G s A (w2 u) H1 locs1 → W p l e R s m args below meth c H1 locs1 cells slots Q (F0 m (pc + 3) ls (.long r :: rest))) : W p l e R s m args below meth c H locs cells slots Q (F0 m pc ls st) := by
  subst hstk
  obtain ⟨hK, hP, hD, hS, hA, hN, hSK⟩ := id hw
  have hd1 : ∀ i ∈ isR, i ∉ isC := fun i hi h => by
    have h1 := List.all_eq_true.mp hdis i hi
    simp only [Bool.not_eq_true', List.contains_eq_mem, decide_eq_false_iff_not] at h1
    exact h1 h
  have hFc := va_free (wc := w0) hD hS hA isC hC
  have hDc : va_D A w0 := hD.sub isC hcn hC
  have hpre : ∀ U : State, U.heap = H → s.WarmedH U.vm → PreW G As w0 H.size (As).toArray U := fun U hU hW => by
    refine ⟨rfl, by rw [hU], va_K.moved hW.alike hK, ?_, ?_, hN.warm hW, ?_⟩
    · rw [hU]
      intro k q hq
      have h1 : (isC.map (fun i => ws[i]?))[k]? = some (some q) := by rw [hC, List.getElem?_map, hq]; rfl
      rw [List.getElem?_map] at h1
      cases hi : isC[k]? with
      | none => rw [hi] at h1; cases h1
      | some i => rw [hi] at h1; exact hP i q (Option.some.inj h1)
    · refine ⟨fun i j p q hp hq hpq => ?_, fun _ _ _ => trivial⟩
      exact hDc.1 i j p q hp hq hpq
    · rw [hU]
      exact hSK.go hW hS.2.1 hFc
  refine va_calll (B := BW G w0 H.size w1) (va_runS (As := As) (rest := rest) E (hM H.size) (va_cwS n E.2.2.2.2 hG hwy hrc hrs hd hR) ⟨PreW.blind, hpre⟩ rfl hn hsz rfl (lv_room hst) hdg hf) hS (fun q _ h => hFc q h) hFc (fun r u t H1 locs ht hvm hw2 hB hz1 hk1 hS1 => ?_)
  obtain ⟨hP1, hD1⟩ := hB
  rw [ht] at hP1
  obtain ⟨hP3, hD3⟩ := va_join (wr := isR.filterMap (fun i => ws[i]?)) (w1 := w1 u) hP hD isC isR hC hRr hnd hd1 hk1 hFc hP1 hD1
  have hw3 : Wd G s A (isR.filterMap (fun i => ws[i]?) ++ w1 u) H1 locs := hw.set hP3 hD3 hS1
  exact kk r u H1 locs hw2 (hw3.sub isJ hJn (hJ u))
theorem x_callvV (E : CallFix p m c cc nL s args Ts own) (hw : Wd G s A ws H locs) (hsz : ls.size = nL) {y : MethodName} {bytes : ByteArray} {maxL : Nat} {ret : Option FieldType} {wsy wsy' : List Cond} {rm : Room} {b : Addr} {As : List Value} {w0 : va_W} {S : Type} {post : S → Prop} {w1 : S → va_W} (hM : CtV l y wsy rm G (.ref b :: As) w0 post w1) {C : String} {index : Nat} (n : Nat) (hG : GoodIn Ts (wsV own index C y wsy)) (hwy : wsy = Cond.code y bytes maxL ret :: wsy') (hrc : rm.cells = 0) (hrs : rm.slots = 0)
    (hd : y.cls = C ∧ y.cls ≠ "java/lang/invoke/MethodHandle" ∧ y.cls ≠ "java/lang/invoke/VarHandle" ∧ (parseMethodDescriptor y.desc).map (fun d => d.parameters.length) = some n) (hR : rm.frames + 1 ≤ R.frames ∧ 8 + (maxL + 11) + rm.locals ≤ R.locals) (hf : cells ≤ R.cells ∧ slots ≤ R.slots) (hn : As.length = n)
    (qr : Nat) {ci N : Nat} {fs : List Value} {T : u_T} (hci : vwCl[ci]? = some (C, T, N)) (hrecv : ws[qr]? = some (b, .inr (ci, fs))) (isC isR : List Nat) (hcn : va_nd isC = true) (hC : isC.map (fun i => ws[i]?) = w0.map some) (hRr : isR.map (fun i => ws[i]?) = (isR.filterMap (fun i => ws[i]?)).map some) (hnd : va_nd isR = true) (hdis : isR.all (fun i => !isC.contains i) = true)
    (isJ : List Nat) (w2 : S → va_W) (hJn : va_nd isJ = true) (hJ : ∀ u, isJ.map (fun i => (isR.filterMap (fun i => ws[i]?) ++ w1 u)[i]?) = (w2 u).map some) {st : List Value} (hstk : st = As.reverse ++ .ref b :: rest) (hst : (rest.map fun v => v.category).sum ≤ 8) (hdg : decode cc pc = .ok (.invokevirtual index, 3))
    (kk : ∀ (u : S) (H1 : Heap) (locs1 : List Loc), post u → Wd G s A (w2 u) H1 locs1 → W p l e R s m args below meth c H1 locs1 cells slots Q (F0 m (pc + 3) ls rest)) : W p l e R s m args below meth c H locs cells slots Q (F0 m pc ls st) := by
  subst hstk
  obtain ⟨hK, hP, hD, hS, hA, hN, hSK⟩ := id hw
  have hd1 : ∀ i ∈ isR, i ∉ isC := fun i hi h => by
    have h1 := List.all_eq_true.mp hdis i hi
    simp only [Bool.not_eq_true', List.contains_eq_mem, decide_eq_false_iff_not] at h1
    exact h1 h
  have hFc := va_free (wc := w0) hD hS hA isC hC
  have hDc : va_D A w0 := hD.sub isC hcn hC
  have hpre : ∀ U : State, U.heap = H → s.WarmedH U.vm → PreW G (.ref b :: As) w0 H.size (Value.ref b :: As).toArray U := fun U hU hW => by
    refine ⟨rfl, by rw [hU], va_K.moved hW.alike hK, ?_, ?_, hN.warm hW, ?_⟩
    · rw [hU]
      intro k q hq
      have h1 : (isC.map (fun i => ws[i]?))[k]? = some (some q) := by rw [hC, List.getElem?_map, hq]; rfl
      rw [List.getElem?_map] at h1
      cases hi : isC[k]? with
      | none => rw [hi] at h1; cases h1
      | some i => rw [hi] at h1; exact hP i q (Option.some.inj h1)
    · refine ⟨fun i j p q hp hq hpq => ?_, fun _ _ _ => trivial⟩
      exact hDc.1 i j p q hp hq hpq
    · rw [hU]
      exact hSK.go hW hS.2.1 hFc
  refine va_callv (B := BW G w0 H.size w1) (va_runV (As := As) (rest := rest) E (hM H.size) (cwV n E.2.2.2.2 hG hwy hrc hrs hd hR) ⟨PreW.blind, va_recv hK hP (ci := ci) (q0 := qr) hci hrecv, hpre⟩ rfl hn hsz rfl (lv_room hst) hdg hf) hS (fun q _ h => hFc q h) hFc (fun u t H1 locs ht hvm hw2 hB hz1 hk1 hS1 => ?_)
  obtain ⟨hP1, hD1⟩ := hB
  rw [ht] at hP1
  obtain ⟨hP3, hD3⟩ := va_join (wr := isR.filterMap (fun i => ws[i]?)) (w1 := w1 u) hP hD isC isR hC hRr hnd hd1 hk1 hFc hP1 hD1
  have hw3 : Wd G s A (isR.filterMap (fun i => ws[i]?) ++ w1 u) H1 locs := hw.set hP3 hD3 hS1
  exact kk u H1 locs hw2 (hw3.sub isJ hJn (hJ u))
theorem x_callvS (E : CallFix p m c cc nL s args Ts own) (hw : Wd G s A ws H locs) (hsz : ls.size = nL) {y : MethodName} {bytes : ByteArray} {maxL : Nat} {ret : Option FieldType} {wsy wsy' : List Cond} {rm : Room} {As : List Value} {w0 : va_W} {S : Type} {post : S → Prop} {w1 : S → va_W} (hM : CtV l y wsy rm G As w0 post w1) {index : Nat} (n : Nat) (hG : GoodIn Ts (va_wsS own index y wsy)) (hwy : wsy = Cond.code y bytes maxL ret :: wsy') (hrc : rm.cells = 0) (hrs : rm.slots = 0)
    (hd : y.cls ≠ "java/lang/invoke/MethodHandle" ∧ y.cls ≠ "java/lang/invoke/VarHandle" ∧ (parseMethodDescriptor y.desc).map (fun d => d.parameters.length) = some n) (hR : rm.frames + 1 ≤ R.frames ∧ 8 + (maxL + 11) + rm.locals ≤ R.locals) (hf : cells ≤ R.cells ∧ slots ≤ R.slots) (hn : As.length = n)
    (isC isR : List Nat) (hcn : va_nd isC = true) (hC : isC.map (fun i => ws[i]?) = w0.map some) (hRr : isR.map (fun i => ws[i]?) = (isR.filterMap (fun i => ws[i]?)).map some) (hnd : va_nd isR = true) (hdis : isR.all (fun i => !isC.contains i) = true)
    (isJ : List Nat) (w2 : S → va_W) (hJn : va_nd isJ = true) (hJ : ∀ u, isJ.map (fun i => (isR.filterMap (fun i => ws[i]?) ++ w1 u)[i]?) = (w2 u).map some) {st : List Value} (hstk : st = As.reverse ++ rest) (hst : (rest.map fun v => v.category).sum ≤ 8) (hdg : decode cc pc = .ok (.invokestatic index, 3))
    (kk : ∀ (u : S) (H1 : Heap) (locs1 : List Loc), post u → Wd G s A (w2 u) H1 locs1 → W p l e R s m args below meth c H1 locs1 cells slots Q (F0 m (pc + 3) ls rest)) : W p l e R s m args below meth c H locs cells slots Q (F0 m pc ls st) := by
  subst hstk
  obtain ⟨hK, hP, hD, hS, hA, hN, hSK⟩ := id hw
  have hd1 : ∀ i ∈ isR, i ∉ isC := fun i hi h => by
    have h1 := List.all_eq_true.mp hdis i hi
    simp only [Bool.not_eq_true', List.contains_eq_mem, decide_eq_false_iff_not] at h1
    exact h1 h
  have hFc := va_free (wc := w0) hD hS hA isC hC
  have hDc : va_D A w0 := hD.sub isC hcn hC
  have hpre : ∀ U : State, U.heap = H → s.WarmedH U.vm → PreW G As w0 H.size (As).toArray U := fun U hU hW => by
    refine ⟨rfl, by rw [hU], va_K.moved hW.alike hK, ?_, ?_, hN.warm hW, ?_⟩
    · rw [hU]
      intro k q hq
      have h1 : (isC.map (fun i => ws[i]?))[k]? = some (some q) := by rw [hC, List.getElem?_map, hq]; rfl
      rw [List.getElem?_map] at h1
      cases hi : isC[k]? with
      | none => rw [hi] at h1; cases h1
      | some i => rw [hi] at h1; exact hP i q (Option.some.inj h1)
    · refine ⟨fun i j p q hp hq hpq => ?_, fun _ _ _ => trivial⟩
      exact hDc.1 i j p q hp hq hpq
    · rw [hU]
      exact hSK.go hW hS.2.1 hFc
  refine va_callv (B := BW G w0 H.size w1) (va_runS (As := As) (rest := rest) E (hM H.size) (va_cwS n E.2.2.2.2 hG hwy hrc hrs hd hR) ⟨PreW.blind, hpre⟩ rfl hn hsz rfl (lv_room hst) hdg hf) hS (fun q _ h => hFc q h) hFc (fun u t H1 locs ht hvm hw2 hB hz1 hk1 hS1 => ?_)
  obtain ⟨hP1, hD1⟩ := hB
  rw [ht] at hP1
  obtain ⟨hP3, hD3⟩ := va_join (wr := isR.filterMap (fun i => ws[i]?)) (w1 := w1 u) hP hD isC isR hC hRr hnd hd1 hk1 hFc hP1 hD1
  have hw3 : Wd G s A (isR.filterMap (fun i => ws[i]?) ++ w1 u) H1 locs := hw.set hP3 hD3 hS1
  exact kk u H1 locs hw2 (hw3.sub isJ hJn (hJ u))
/-- contracts whose answer and world are told by terms -/
abbrev CfI (l : Launch) (y : MethodName) (ws : List Cond) (rm : Room) (G : XG) (as : List Value) (w0 : va_W) (r0 : Int32) (w1 : va_W) : Prop := CtI l y ws rm G as w0 (S := Unit) (fun r _ => r = r0) (fun _ => w1)
abbrev CfL (l : Launch) (y : MethodName) (ws : List Cond) (rm : Room) (G : XG) (as : List Value) (w0 : va_W) (r0 : Int64) (w1 : va_W) : Prop := CtL l y ws rm G as w0 (S := Unit) (fun r _ => r = r0) (fun _ => w1)
abbrev CfV (l : Launch) (y : MethodName) (ws : List Cond) (rm : Room) (G : XG) (as : List Value) (w0 : va_W) (w1 : va_W) : Prop := CtV l y ws rm G as w0 (S := Unit) (fun _ => True) (fun _ => w1)
theorem x_cfVi (E : CallFix p m c cc nL s args Ts own) (hw : Wd G s A ws H locs) (hsz : ls.size = nL) {y : MethodName} {bytes : ByteArray} {maxL : Nat} {ret : Option FieldType} {wsy wsy' : List Cond} {rm : Room} {b : Addr} {As : List Value} {w0 : va_W} {r0 : Int32} {w1 : va_W} (hM : CfI l y wsy rm G (.ref b :: As) w0 r0 w1) {C : String} {index : Nat} (n : Nat) (hG : GoodIn Ts (wsV own index C y wsy)) (hwy : wsy = Cond.code y bytes maxL ret :: wsy') (hrc : rm.cells = 0) (hrs : rm.slots = 0)
    (hd : y.cls = C ∧ y.cls ≠ "java/lang/invoke/MethodHandle" ∧ y.cls ≠ "java/lang/invoke/VarHandle" ∧ (parseMethodDescriptor y.desc).map (fun d => d.parameters.length) = some n) (hR : rm.frames + 1 ≤ R.frames ∧ 8 + (maxL + 11) + rm.locals ≤ R.locals) (hf : cells ≤ R.cells ∧ slots ≤ R.slots) (hn : As.length = n)
    (qr : Nat) {ci N : Nat} {fs : List Value} {T : u_T} (hci : vwCl[ci]? = some (C, T, N)) (hrecv : ws[qr]? = some (b, .inr (ci, fs))) (isC isR : List Nat) (hcn : va_nd isC = true) (hC : isC.map (fun i => ws[i]?) = w0.map some) (hRr : isR.map (fun i => ws[i]?) = (isR.filterMap (fun i => ws[i]?)).map some) (hnd : va_nd isR = true) (hdis : isR.all (fun i => !isC.contains i) = true)
    (isJ : List Nat) (w2 : va_W) (hJn : va_nd isJ = true) (hJ : isJ.map (fun i => (isR.filterMap (fun i => ws[i]?) ++ w1)[i]?) = w2.map some) {st : List Value} (hstk : st = As.reverse ++ .ref b :: rest) (hst : (rest.map fun v => v.category).sum ≤ 8) (hdg : decode cc pc = .ok (.invokevirtual index, 3))
    (kk : ∀ (H1 : Heap) (locs1 : List Loc), Wd G s A w2 H1 locs1 → W p l e R s m args below meth c H1 locs1 cells slots Q (F0 m (pc + 3) ls (.int r0 :: rest))) : W p l e R s m args below meth c H locs cells slots Q (F0 m pc ls st) :=
  x_calliV E hw hsz hM n hG hwy hrc hrs hd hR hf hn qr hci hrecv isC isR hcn hC hRr hnd hdis isJ (fun _ => w2) hJn (fun _ => hJ) hstk hst hdg (fun r u H1 locs1 hp hw2 => hp ▸ kk H1 locs1 hw2)
theorem x_cfSi (E : CallFix p m c cc nL s args Ts own) (hw : Wd G s A ws H locs) (hsz : ls.size = nL) {y : MethodName} {bytes : ByteArray} {maxL : Nat} {ret : Option FieldType} {wsy wsy' : List Cond} {rm : Room} {As : List Value} {w0 : va_W} {r0 : Int32} {w1 : va_W} (hM : CfI l y wsy rm G As w0 r0 w1) {index : Nat} (n : Nat) (hG : GoodIn Ts (va_wsS own index y wsy)) (hwy : wsy = Cond.code y bytes maxL ret :: wsy') (hrc : rm.cells = 0) (hrs : rm.slots = 0)
    (hd : y.cls ≠ "java/lang/invoke/MethodHandle" ∧ y.cls ≠ "java/lang/invoke/VarHandle" ∧ (parseMethodDescriptor y.desc).map (fun d => d.parameters.length) = some n) (hR : rm.frames + 1 ≤ R.frames ∧ 8 + (maxL + 11) + rm.locals ≤ R.locals) (hf : cells ≤ R.cells ∧ slots ≤ R.slots) (hn : As.length = n)
    (isC isR : List Nat) (hcn : va_nd isC = true) (hC : isC.map (fun i => ws[i]?) = w0.map some) (hRr : isR.map (fun i => ws[i]?) = (isR.filterMap (fun i => ws[i]?)).map some) (hnd : va_nd isR = true) (hdis : isR.all (fun i => !isC.contains i) = true)
    (isJ : List Nat) (w2 : va_W) (hJn : va_nd isJ = true) (hJ : isJ.map (fun i => (isR.filterMap (fun i => ws[i]?) ++ w1)[i]?) = w2.map some) {st : List Value} (hstk : st = As.reverse ++ rest) (hst : (rest.map fun v => v.category).sum ≤ 8) (hdg : decode cc pc = .ok (.invokestatic index, 3))
    (kk : ∀ (H1 : Heap) (locs1 : List Loc), Wd G s A w2 H1 locs1 → W p l e R s m args below meth c H1 locs1 cells slots Q (F0 m (pc + 3) ls (.int r0 :: rest))) : W p l e R s m args below meth c H locs cells slots Q (F0 m pc ls st) :=
  x_calliS E hw hsz hM n hG hwy hrc hrs hd hR hf hn isC isR hcn hC hRr hnd hdis isJ (fun _ => w2) hJn (fun _ => hJ) hstk hst hdg (fun r u H1 locs1 hp hw2 => hp ▸ kk H1 locs1 hw2)
theorem x_cfVl (E : CallFix p m c cc nL s args Ts own) (hw : Wd G s A ws H locs) (hsz : ls.size = nL) {y : MethodName} {bytes : ByteArray} {maxL : Nat} {ret : Option FieldType} {wsy wsy' : List Cond} {rm : Room} {b : Addr} {As : List Value} {w0 : va_W} {r0 : Int64} {w1 : va_W} (hM : CfL l y wsy rm G (.ref b :: As) w0 r0 w1) {C : String} {index : Nat} (n : Nat) (hG : GoodIn Ts (wsV own index C y wsy)) (hwy : wsy = Cond.code y bytes maxL ret :: wsy') (hrc : rm.cells = 0) (hrs : rm.slots = 0)
    (hd : y.cls = C ∧ y.cls ≠ "java/lang/invoke/MethodHandle" ∧ y.cls ≠ "java/lang/invoke/VarHandle" ∧ (parseMethodDescriptor y.desc).map (fun d => d.parameters.length) = some n) (hR : rm.frames + 1 ≤ R.frames ∧ 8 + (maxL + 11) + rm.locals ≤ R.locals) (hf : cells ≤ R.cells ∧ slots ≤ R.slots) (hn : As.length = n)
    (qr : Nat) {ci N : Nat} {fs : List Value} {T : u_T} (hci : vwCl[ci]? = some (C, T, N)) (hrecv : ws[qr]? = some (b, .inr (ci, fs))) (isC isR : List Nat) (hcn : va_nd isC = true) (hC : isC.map (fun i => ws[i]?) = w0.map some) (hRr : isR.map (fun i => ws[i]?) = (isR.filterMap (fun i => ws[i]?)).map some) (hnd : va_nd isR = true) (hdis : isR.all (fun i => !isC.contains i) = true)
    (isJ : List Nat) (w2 : va_W) (hJn : va_nd isJ = true) (hJ : isJ.map (fun i => (isR.filterMap (fun i => ws[i]?) ++ w1)[i]?) = w2.map some) {st : List Value} (hstk : st = As.reverse ++ .ref b :: rest) (hst : (rest.map fun v => v.category).sum ≤ 8) (hdg : decode cc pc = .ok (.invokevirtual index, 3))
    (kk : ∀ (H1 : Heap) (locs1 : List Loc), Wd G s A w2 H1 locs1 → W p l e R s m args below meth c H1 locs1 cells slots Q (F0 m (pc + 3) ls (.long r0 :: rest))) : W p l e R s m args below meth c H locs cells slots Q (F0 m pc ls st) :=
  x_calllV E hw hsz hM n hG hwy hrc hrs hd hR hf hn qr hci hrecv isC isR hcn hC hRr hnd hdis isJ (fun _ => w2) hJn (fun _ => hJ) hstk hst hdg (fun r u H1 locs1 hp hw2 => hp ▸ kk H1 locs1 hw2)
theorem x_cfSl (E : CallFix p m c cc nL s args Ts own) (hw : Wd G s A ws H locs) (hsz : ls.size = nL) {y : MethodName} {bytes : ByteArray} {maxL : Nat} {ret : Option FieldType} {wsy wsy' : List Cond} {rm : Room} {As : List Value} {w0 : va_W} {r0 : Int64} {w1 : va_W} (hM : CfL l y wsy rm G As w0 r0 w1) {index : Nat} (n : Nat) (hG : GoodIn Ts (va_wsS own index y wsy)) (hwy : wsy = Cond.code y bytes maxL ret :: wsy') (hrc : rm.cells = 0) (hrs : rm.slots = 0)
    (hd : y.cls ≠ "java/lang/invoke/MethodHandle" ∧ y.cls ≠ "java/lang/invoke/VarHandle" ∧ (parseMethodDescriptor y.desc).map (fun d => d.parameters.length) = some n) (hR : rm.frames + 1 ≤ R.frames ∧ 8 + (maxL + 11) + rm.locals ≤ R.locals) (hf : cells ≤ R.cells ∧ slots ≤ R.slots) (hn : As.length = n)
    (isC isR : List Nat) (hcn : va_nd isC = true) (hC : isC.map (fun i => ws[i]?) = w0.map some) (hRr : isR.map (fun i => ws[i]?) = (isR.filterMap (fun i => ws[i]?)).map some) (hnd : va_nd isR = true) (hdis : isR.all (fun i => !isC.contains i) = true)
    (isJ : List Nat) (w2 : va_W) (hJn : va_nd isJ = true) (hJ : isJ.map (fun i => (isR.filterMap (fun i => ws[i]?) ++ w1)[i]?) = w2.map some) {st : List Value} (hstk : st = As.reverse ++ rest) (hst : (rest.map fun v => v.category).sum ≤ 8) (hdg : decode cc pc = .ok (.invokestatic index, 3))
    (kk : ∀ (H1 : Heap) (locs1 : List Loc), Wd G s A w2 H1 locs1 → W p l e R s m args below meth c H1 locs1 cells slots Q (F0 m (pc + 3) ls (.long r0 :: rest))) : W p l e R s m args below meth c H locs cells slots Q (F0 m pc ls st) :=
  x_calllS E hw hsz hM n hG hwy hrc hrs hd hR hf hn isC isR hcn hC hRr hnd hdis isJ (fun _ => w2) hJn (fun _ => hJ) hstk hst hdg (fun r u H1 locs1 hp hw2 => hp ▸ kk H1 locs1 hw2)
theorem x_cfVv (E : CallFix p m c cc nL s args Ts own) (hw : Wd G s A ws H locs) (hsz : ls.size = nL) {y : MethodName} {bytes : ByteArray} {maxL : Nat} {ret : Option FieldType} {wsy wsy' : List Cond} {rm : Room} {b : Addr} {As : List Value} {w0 : va_W} {w1 : va_W} (hM : CfV l y wsy rm G (.ref b :: As) w0 w1) {C : String} {index : Nat} (n : Nat) (hG : GoodIn Ts (wsV own index C y wsy)) (hwy : wsy = Cond.code y bytes maxL ret :: wsy') (hrc : rm.cells = 0) (hrs : rm.slots = 0)
    (hd : y.cls = C ∧ y.cls ≠ "java/lang/invoke/MethodHandle" ∧ y.cls ≠ "java/lang/invoke/VarHandle" ∧ (parseMethodDescriptor y.desc).map (fun d => d.parameters.length) = some n) (hR : rm.frames + 1 ≤ R.frames ∧ 8 + (maxL + 11) + rm.locals ≤ R.locals) (hf : cells ≤ R.cells ∧ slots ≤ R.slots) (hn : As.length = n)
    (qr : Nat) {ci N : Nat} {fs : List Value} {T : u_T} (hci : vwCl[ci]? = some (C, T, N)) (hrecv : ws[qr]? = some (b, .inr (ci, fs))) (isC isR : List Nat) (hcn : va_nd isC = true) (hC : isC.map (fun i => ws[i]?) = w0.map some) (hRr : isR.map (fun i => ws[i]?) = (isR.filterMap (fun i => ws[i]?)).map some) (hnd : va_nd isR = true) (hdis : isR.all (fun i => !isC.contains i) = true)
    (isJ : List Nat) (w2 : va_W) (hJn : va_nd isJ = true) (hJ : isJ.map (fun i => (isR.filterMap (fun i => ws[i]?) ++ w1)[i]?) = w2.map some) {st : List Value} (hstk : st = As.reverse ++ .ref b :: rest) (hst : (rest.map fun v => v.category).sum ≤ 8) (hdg : decode cc pc = .ok (.invokevirtual index, 3))
    (kk : ∀ (H1 : Heap) (locs1 : List Loc), Wd G s A w2 H1 locs1 → W p l e R s m args below meth c H1 locs1 cells slots Q (F0 m (pc + 3) ls rest)) : W p l e R s m args below meth c H locs cells slots Q (F0 m pc ls st) :=
  x_callvV E hw hsz hM n hG hwy hrc hrs hd hR hf hn qr hci hrecv isC isR hcn hC hRr hnd hdis isJ (fun _ => w2) hJn (fun _ => hJ) hstk hst hdg (fun u H1 locs1 hp hw2 => kk H1 locs1 hw2)
theorem x_cfSv (E : CallFix p m c cc nL s args Ts own) (hw : Wd G s A ws H locs) (hsz : ls.size = nL) {y : MethodName} {bytes : ByteArray} {maxL : Nat} {ret : Option FieldType} {wsy wsy' : List Cond} {rm : Room} {As : List Value} {w0 : va_W} {w1 : va_W} (hM : CfV l y wsy rm G As w0 w1) {index : Nat} (n : Nat) (hG : GoodIn Ts (va_wsS own index y wsy)) (hwy : wsy = Cond.code y bytes maxL ret :: wsy') (hrc : rm.cells = 0) (hrs : rm.slots = 0)
    (hd : y.cls ≠ "java/lang/invoke/MethodHandle" ∧ y.cls ≠ "java/lang/invoke/VarHandle" ∧ (parseMethodDescriptor y.desc).map (fun d => d.parameters.length) = some n) (hR : rm.frames + 1 ≤ R.frames ∧ 8 + (maxL + 11) + rm.locals ≤ R.locals) (hf : cells ≤ R.cells ∧ slots ≤ R.slots) (hn : As.length = n)
    (isC isR : List Nat) (hcn : va_nd isC = true) (hC : isC.map (fun i => ws[i]?) = w0.map some) (hRr : isR.map (fun i => ws[i]?) = (isR.filterMap (fun i => ws[i]?)).map some) (hnd : va_nd isR = true) (hdis : isR.all (fun i => !isC.contains i) = true)
    (isJ : List Nat) (w2 : va_W) (hJn : va_nd isJ = true) (hJ : isJ.map (fun i => (isR.filterMap (fun i => ws[i]?) ++ w1)[i]?) = w2.map some) {st : List Value} (hstk : st = As.reverse ++ rest) (hst : (rest.map fun v => v.category).sum ≤ 8) (hdg : decode cc pc = .ok (.invokestatic index, 3))
    (kk : ∀ (H1 : Heap) (locs1 : List Loc), Wd G s A w2 H1 locs1 → W p l e R s m args below meth c H1 locs1 cells slots Q (F0 m (pc + 3) ls rest)) : W p l e R s m args below meth c H locs cells slots Q (F0 m pc ls st) :=
  x_callvS E hw hsz hM n hG hwy hrc hrs hd hR hf hn isC isR hcn hC hRr hnd hdis isJ (fun _ => w2) hJn (fun _ => hJ) hstk hst hdg (fun u H1 locs1 hp hw2 => kk H1 locs1 hw2)
end XR
end
section
section XR2
variable {p : Program} {l : Launch} {e : Env} {R : Room} {s : State} {m : MethodId} {args : Array Value} {below : List Frame} {meth : Method} {c : Code} {H : Heap} {locs : List Loc} {Q : State → Prop} {cc : ByteArray} {pc nL : Nat} {ls : Array Slot} {rest : List Value} {Ts : List Cond} {own : String} {G : XG} {A : Nat → Prop} {ws ws1 : va_W} {cells slots : Nat}
theorem x_topi {x v : Int32} (h : x = v) (k : W p l e R s m args below meth c H locs cells slots Q (F0 m pc ls (.int v :: rest))) : W p l e R s m args below meth c H locs cells slots Q (F0 m pc ls (.int x :: rest)) := h ▸ k
theorem x_topl {x v : Int64} (h : x = v) (k : W p l e R s m args below meth c H locs cells slots Q (F0 m pc ls (.long v :: rest))) : W p l e R s m args below meth c H locs cells slots Q (F0 m pc ls (.long x :: rest)) := h ▸ k
end XR2
theorem lN_ne0 {n : Nat} (h0 : 0 < n) (h : n < 9223372036854775808) : ¬ lN n = 0 := fun e => by
  have h1 : (lN n).toInt = (n : Int) := lN_toI h
  rw [e] at h1
  have h2 : (0 : Int64).toInt = 0 := by decide
  omega
theorem x_inc1 (a : Nat) : nI a + Int32.ofInt 1 = nI (a + 1) := nI_1 a
theorem x_dec1 {a : Nat} (h : 1 ≤ a) : nI a + Int32.ofInt (-1) = nI (a - 1) := by
  obtain ⟨b, rfl⟩ : ∃ b, a = b + 1 := ⟨a - 1, by omega⟩
  exact pk_m1 b
theorem x_incK (a k : Nat) (K : Int) (hK : Int32.ofInt K = nI k) : nI a + Int32.ofInt K = nI (a + k) := by rw [hK, nI_add]
theorem i_nI (x : Int32) (h0 : 0 ≤ x.toInt) : ∃ j : Nat, j < 2147483648 ∧ x.toInt = (j : Int) ∧ x = nI j := by
  obtain ⟨j, h1, h2⟩ := nI_of (x := x) (by rw [i_lt, i_z]; omega)
  exact ⟨j, h1, by rw [h2]; exact nI_toI h1, h2⟩
end
section
/-! bits of longs (a pasted family) -/
theorem wb_tb (n : Nat) : (lN n).toBitVec = BitVec.ofNat 64 n := rfl
theorem wb_inj {a b : Int64} (h : a.toBitVec = b.toBitVec) : a = b := Int64.toBitVec_inj.mp h
theorem wb_tn {n : Nat} (h : n < 2 ^ 64) : (lN n).toBitVec.toNat = n := by rw [wb_tb, BitVec.toNat_ofNat, Nat.mod_eq_of_lt h]
theorem wb_of (x : Int64) : ∃ n, n < 2 ^ 64 ∧ x = lN n := ⟨x.toBitVec.toNat, x.toBitVec.isLt, wb_inj (by rw [wb_tb]; simp)⟩
theorem wb_of32 (x : Int32) : ∃ n, n < 2 ^ 32 ∧ x = nI n := ⟨x.toBitVec.toNat, x.toBitVec.isLt, Int32.toBitVec_inj.mp (by show _ = BitVec.ofNat 32 _; simp)⟩
theorem wb_c : ∀ k, k < 64 → ((nI k).toInt64 &&& 63) = lN k := by decide +kernel
theorem wb_cu : ∀ k, k < 64 → ((nI k).toInt64.toUInt64 &&& Int64.toUInt64 63) = UInt64.ofNat k := by decide +kernel
theorem wb_sm : ∀ k, k < 64 → (BitVec.ofNat 64 k).smod 64 = BitVec.ofNat 64 k := by decide +kernel
theorem wb_pw {a b : Nat} (h : a ≤ b) : 2 ^ b = 2 ^ a * 2 ^ (b - a) := by rw [← Nat.pow_add]; congr 1; omega
theorem wb_lt2 {a b : Nat} (h : a < b) : 2 ^ a < 2 ^ b := Nat.pow_lt_pow_right (by decide) h
theorem wb_mod (n : Nat) : lN n = lN (n % 2 ^ 64) := wb_inj (by rw [wb_tb, wb_tb]; apply BitVec.eq_of_toNat_eq; rw [BitVec.toNat_ofNat, BitVec.toNat_ofNat, Nat.mod_mod])
theorem wb_shr {n k : Nat} (hn : n < 2 ^ 64) (hk : k < 64) : ((lN n).toUInt64 >>> ((nI k).toInt64.toUInt64 &&& Int64.toUInt64 63)).toInt64 = lN (n / 2 ^ k) := by
  rw [wb_cu k hk]
  apply wb_inj
  apply BitVec.eq_of_toNat_eq
  show ((lN n).toUInt64 >>> UInt64.ofNat k).toNat = (BitVec.ofNat 64 _).toNat
  have h1 : (UInt64.ofNat k).toNat = k := by
    show (BitVec.ofNat 64 k).toNat = k
    rw [BitVec.toNat_ofNat, Nat.mod_eq_of_lt (by omega)]
  have h2 : (lN n).toUInt64.toNat = n := wb_tn hn
  rw [UInt64.toNat_shiftRight, h1, h2, Nat.mod_eq_of_lt hk, Nat.shiftRight_eq_div_pow, BitVec.toNat_ofNat, Nat.mod_eq_of_lt (Nat.lt_of_le_of_lt (Nat.div_le_self _ _) hn)]
theorem wb_shl (n : Nat) {k : Nat} (hk : k < 64) : lN n <<< ((nI k).toInt64 &&& 63) = lN (n * 2 ^ k) := by
  rw [wb_c k hk]
  apply wb_inj
  rw [Int64.toBitVec_shiftLeft, wb_tb, wb_tb, wb_tb, wb_sm k hk]
  apply BitVec.eq_of_toNat_eq
  rw [BitVec.shiftLeft_eq', BitVec.toNat_shiftLeft, BitVec.toNat_ofNat, BitVec.toNat_ofNat, BitVec.toNat_ofNat, Nat.mod_eq_of_lt (show k < 2 ^ 64 by omega), Nat.shiftLeft_eq, Nat.mul_mod, Nat.mod_mod, ← Nat.mul_mod]
theorem wb_and {a b : Nat} (ha : a < 2 ^ 64) (hb : b < 2 ^ 64) : lN a &&& lN b = lN (a &&& b) := by
  apply wb_inj
  rw [Int64.toBitVec_and, wb_tb, wb_tb, wb_tb]
  apply BitVec.eq_of_toNat_eq
  rw [BitVec.toNat_and, BitVec.toNat_ofNat, BitVec.toNat_ofNat, BitVec.toNat_ofNat, Nat.mod_eq_of_lt ha, Nat.mod_eq_of_lt hb, Nat.mod_eq_of_lt (Nat.and_lt_two_pow _ hb)]
theorem wb_or {a b : Nat} (ha : a < 2 ^ 64) (hb : b < 2 ^ 64) : lN a ||| lN b = lN (a ||| b) := by
  apply wb_inj
  rw [Int64.toBitVec_or, wb_tb, wb_tb, wb_tb]
  apply BitVec.eq_of_toNat_eq
  rw [BitVec.toNat_or, BitVec.toNat_ofNat, BitVec.toNat_ofNat, BitVec.toNat_ofNat, Nat.mod_eq_of_lt ha, Nat.mod_eq_of_lt hb, Nat.mod_eq_of_lt (Nat.or_lt_two_pow ha hb)]
theorem wb_mask {n k : Nat} (hn : n < 2 ^ 64) (hk : k < 64) : lN n &&& lN (2 ^ k - 1) = lN (n % 2 ^ k) := by
  rw [wb_and hn (by have := wb_lt2 hk; omega), Nat.and_two_pow_sub_one_eq_mod]
theorem wb_a1 {n : Nat} (hn : n < 2 ^ 64) : lN n &&& 1 = lN (n % 2) := wb_mask (k := 1) hn (by decide)
theorem wb_bit {n k : Nat} (hn : n < 2 ^ 64) (hk : k < 64) : ((lN n).toUInt64 >>> ((nI k).toInt64.toUInt64 &&& Int64.toUInt64 63)).toInt64 &&& 1 = lN (n / 2 ^ k % 2) := by
  rw [wb_shr hn hk, wb_a1 (Nat.lt_of_le_of_lt (Nat.div_le_self _ _) hn)]
end
section
/-! what the two programs count, as numbers -/
theorem ifT {α : Sort _} {c : Prop} [Decidable c] (h : c) {x y z : α} (e : z = x) : z = if c then x else y := by rw [if_pos h]; exact e
theorem ifF {α : Sort _} {c : Prop} [Decidable c] (h : ¬ c) {x y z : α} (e : z = y) : z = if c then x else y := by rw [if_neg h]; exact e
/-- the part that comes from a part by the rule -/
def gz (P j : Nat) : Nat := (if j % 2 = 0 then j else j + P) / 2
theorem gz_even {P j : Nat} (h : j % 2 = 0) : j / 2 = gz P j := by unfold gz; rw [if_pos h]
theorem gz_odd {P j : Nat} (h : j % 2 ≠ 0) : (j + P) / 2 = gz P j := by unfold gz; rw [if_neg h]
theorem gz_lt {P j : Nat} (h : j < P) : gz P j < P := by unfold gz; split <;> omega
theorem gz_pos {P j : Nat} (hP : 1 ≤ P) (h : 1 ≤ j) : 1 ≤ gz P j := by unfold gz; split <;> omega
/-- folds till one comes round, told as the class counts them -/
def faL (P j : Nat) : Nat → Nat → Nat → Nat
  | 0, _, k => k
  | f + 1, x, k => if x = j then k else faL P j f (gz P x) (k + 1)
def faX (P j : Nat) : Nat := faL P j 62 (gz P j) 1
theorem faL_hit {P j k : Nat} (f : Nat) : faL P j f j k = k := by cases f <;> simp [faL]
theorem faL_step {P j x k : Nat} (hk : k < 63) (h : ¬ x = j) : faL P j (63 - k) x k = faL P j (63 - (k + 1)) (gz P x) (k + 1) := by
  obtain ⟨f, hf⟩ : ∃ f, 63 - k = f + 1 := ⟨62 - k, by omega⟩
  rw [hf, show 63 - (k + 1) = f by omega, faL, if_neg h]
/-- the fewest folds to a part -/
def ffL (P j : Nat) : Nat → Nat → Nat → Int32
  | 0, _, _ => -9
  | f + 1, x, k => if x = j then nI k else ffL P j f (gz P x) (k + 1)
theorem ffL_hit {P j k : Nat} (f : Nat) : ffL P j (f + 1) j k = nI k := by simp [ffL]
theorem ffL_step {P j x k N : Nat} (hk : k < N) (h : ¬ x = j) : ffL P j (N - k) x k = ffL P j (N - (k + 1)) (gz P x) (k + 1) := by
  obtain ⟨f, hf⟩ : ∃ f, N - k = f + 1 := ⟨N - k - 1, by omega⟩
  rw [hf, show N - (k + 1) = f by omega, ffL, if_neg h]
/-- near -/
def nrL (o t : Nat) : Nat → Nat → Int32
  | 0, _ => -9
  | f + 1, k => if o * 1000 ≤ t * 2 ^ k then nI k else nrL o t f (k + 1)
theorem nrL_hit {o t k : Nat} (hk : k < 41) (h : o * 1000 ≤ t * 2 ^ k) : nrL o t (41 - k) k = nI k := by
  obtain ⟨f, hf⟩ : ∃ f, 41 - k = f + 1 := ⟨40 - k, by omega⟩
  rw [hf, nrL, if_pos h]
theorem nrL_step {o t k : Nat} (hk : k < 41) (h : ¬ o * 1000 ≤ t * 2 ^ k) : nrL o t (41 - k) k = nrL o t (41 - (k + 1)) (k + 1) := by
  obtain ⟨f, hf⟩ : ∃ f, 41 - k = f + 1 := ⟨40 - k, by omega⟩
  rw [hf, show 41 - (k + 1) = f by omega, nrL, if_neg h]
theorem pw40 {t k : Nat} (ht : t < 100000) (hk : k ≤ 40) : t * 2 ^ k < 4611686018427387904 := by
  have h1 : 2 ^ k ≤ 2 ^ 40 := Nat.pow_le_pow_right (by decide) hk
  have h2 : t * 2 ^ k ≤ 100000 * 2 ^ 40 := Nat.mul_le_mul (by omega) h1
  have h3 : (100000 * 2 ^ 40 : Nat) < 4611686018427387904 := by decide
  omega
def saysF (P : Nat) (z : Int) : Int32 := if 1 ≤ z ∧ z < (P : Int) then nI (z.toNat % 2) else -1
def roundF (P : Nat) (z : Int) : Int32 := if 1 ≤ z ∧ z < (P : Int) then nI (faX P z.toNat) else -1
def fewestX (P pt : Nat) (z : Int) : Int32 := if 1 ≤ z ∧ z < (P : Int) then ffL P z.toNat 63 pt 0 else -1
def nearF (o : Nat) (z : Int) : Int32 := if 0 ≤ z ∧ z ≤ 99999 then nrL o z.toNat 41 0 else -1
def toldF (a b c d : Nat) (z : Int) : Int32 := if z = 0 then nI a else if z = 1 then nI b else if z = 2 then nI c else if z = 3 then nI d else -1
theorem tNat (n : Nat) : ((n : Int)).toNat = n := Int.toNat_natCast n
/-- Euclid's steps: what stands at step k -/
theorem eu_step {x y k : Nat} (hy : 0 < y) (ho : k = 0 ∨ y < x) (h : x * y * 2 ^ k < 2 ^ 100) (h0 : k = 0 → x * y < 2 ^ 90) : y * (x % y) * 2 ^ (k + 1) < 2 ^ 100 := by
  have hm : x % y < y := Nat.mod_lt _ hy
  rcases ho with rfl | ho
  · have h1 : x % y ≤ x := Nat.mod_le _ _
    have h2 : y * (x % y) ≤ y * x := Nat.mul_le_mul_left _ h1
    have h3 := h0 rfl
    rw [Nat.mul_comm] at h2
    have h4 : (2 : Nat) ^ 90 = 1237940039285380274899124224 := by decide
    have h5 : (2 : Nat) ^ 100 = 1267650600228229401496703205376 := by decide
    have h6 : (2 : Nat) ^ (0 + 1) = 2 := by decide
    rw [h6, h5]
    rw [h4] at h3
    rw [Nat.mul_comm y x] at h2
    rw [Nat.mul_comm (x % y) y] at h2
    omega
  · have h1 : 2 * (x % y) ≤ x := by
      have hd := Nat.div_add_mod x y
      have h2 : 1 ≤ x / y := (Nat.le_div_iff_mul_le hy).mpr (by omega)
      have h3 : y * 1 ≤ y * (x / y) := Nat.mul_le_mul_left _ h2
      omega
    have h2 : y * (2 * (x % y)) ≤ y * x := Nat.mul_le_mul_left _ h1
    have h3 : y * (x % y) * 2 ^ (k + 1) = y * (2 * (x % y)) * 2 ^ k := by
      rw [Nat.pow_succ, Nat.mul_comm (2 ^ k) 2, ← Nat.mul_assoc, Nat.mul_assoc y (x % y) 2, Nat.mul_comm (x % y) 2]
    rw [h3]
    refine Nat.lt_of_le_of_lt (Nat.mul_le_mul_right _ h2) ?_
    rw [Nat.mul_comm y x]
    exact h
theorem eu_end {x y : Nat} (ho : y < x) (h : x * y * 2 ^ 100 < 2 ^ 100) : y = 0 := by
  rcases Nat.eq_zero_or_pos y with h0 | h0
  · exact h0
  · have h1 : 1 ≤ x * y := Nat.mul_pos (by omega) h0
    have h2 : 1 * 2 ^ 100 ≤ x * y * 2 ^ 100 := Nat.mul_le_mul_right _ h1
    omega
theorem eu_gcd (x y : Nat) : Nat.gcd y (x % y) = Nat.gcd x y := by rw [Nat.gcd_comm x y, Nat.gcd_rec y x, Nat.gcd_comm]
theorem eu_end2 {x y k : Nat} (hk : k = 100) (ho : k = 0 ∨ y < x) (h : x * y * 2 ^ k < 2 ^ 100) : y = 0 := by
  subst hk
  exact eu_end (ho.resolve_left (by decide)) h
end
section
/-! GuessFolds$Row -/
theorem x_max0 {k : Nat} (h : k < 2147483648) : (if nI k < nI 0 then nI 0 else nI k) = nI k := by
  rw [if_neg]
  rw [i_lt, nI_toI h, nI_toI (by decide)]
  omega
/-- the first k of src, then dst -/
def cpN (src dst : Nat → Nat) (k : Nat) : Nat → Nat := fun j => if j < k then src j else dst j
theorem cpN_0 (src dst : Nat → Nat) : cpN src dst 0 = dst := by funext j; simp [cpN]
theorem cpN_succ (src dst : Nat → Nat) (k : Nat) : va_up (cpN src dst k) k (src k) = cpN src dst (k + 1) := by
  funext j
  by_cases h : j = k
  · subst h; simp [va_up, cpN]
  · by_cases h2 : j < k
    · simp [va_up, cpN, h, h2, show j < k + 1 by omega]
    · simp [va_up, cpN, h, h2, show ¬ j < k + 1 by omega]

abbrev rm_X1_size : Room := { frames := 0, cells := 0, slots := 0, locals := 0 }
set_option maxHeartbeats 4000000 in
set_option maxRecDepth 100000 in
theorem c_X1_size (l : Launch) (G : XG) (a : Nat) (b : Nat) (n : Nat)  : CfI l yX1_size wsX1_size rm_X1_size G [.ref a] [(a, .inr (1, [.ref b, .int (nI n)]))] (nI n) [(a, .inr (1, [.ref b, .int (nI n)]))] := by
  refine CtI.go (cc := cX1_size) (maxL := 1) RX1 rfl (by decide) rfl (Nat.le_of_ble_eq_true rfl) ?_
  intro p e s m args below meth c A Q ls E hw hl hret
  have hx := E.1
  have hb := E.2.1
  have hinX1 : ∀ w ∈ wsX10, w ∈ wsX1_size := (fun w h => List.mem_cons_of_mem _ (List.mem_append_right _ h))
  have hl : lv_has ls 1 [(0, .ref a)] := hl
  refine lv_aload_n hx hb dX1_size_0 rfl (lv_at hl 0 rfl) ?_
  refine x_get E hw (C := RX1) (T := TX1) (N := 2) hinX1 0 rfl rfl 1 (by decide) rfl (List.mem_of_getElem? (i := 1) rfl) dX1_size_1 ?_
  exact hret (nI n) () _ _ _ _ dX1_size_4 rfl rfl hw

abbrev rm_X1_hasRoom : Room := { frames := 0, cells := 0, slots := 0, locals := 0 }
set_option maxHeartbeats 4000000 in
set_option maxRecDepth 100000 in
theorem c_X1_hasRoom (l : Launch) (G : XG) (a : Nat) (b : Nat) (n : Nat) (cap : Nat) (k : Nat) (g : Nat → Nat) (hb1 : n + k < 2147483648) (hb2 : cap < 2147483648) : CfI l yX1_hasRoom wsX1_hasRoom rm_X1_hasRoom G [.ref a, .int (nI k)] [(a, .inr (1, [.ref b, .int (nI n)])), (b, .inl (cJ G, cap, .inr (.inl (fJ g))))] (if n + k ≤ cap then 1 else 0) [(a, .inr (1, [.ref b, .int (nI n)])), (b, .inl (cJ G, cap, .inr (.inl (fJ g))))] := by
  refine CtI.go (cc := cX1_hasRoom) (maxL := 2) RX1 rfl (by decide) rfl (Nat.le_of_ble_eq_true rfl) ?_
  intro p e s m args below meth c A Q ls E hw hl hret
  have hx := E.1
  have hb := E.2.1
  have hinX1 : ∀ w ∈ wsX10, w ∈ wsX1_hasRoom := (fun w h => List.mem_cons_of_mem _ (List.mem_append_right _ h))
  have hl : lv_has ls 2 [(0, .ref a), (1, .int (nI k))] := hl
  refine lv_aload_n hx hb dX1_hasRoom_0 rfl (lv_at hl 0 rfl) ?_
  refine x_get E hw (C := RX1) (T := TX1) (N := 2) hinX1 0 rfl rfl 1 (by decide) rfl (List.mem_of_getElem? (i := 1) rfl) dX1_hasRoom_1 ?_
  refine lv_iload_n hx hb dX1_hasRoom_4 rfl (lv_at hl 1 rfl) ?_
  refine x_iadd E (v := (nI (n + k))) dX1_hasRoom_5 (nI_add _ _) ?_
  refine lv_aload_n hx hb dX1_hasRoom_6 rfl (lv_at hl 0 rfl) ?_
  refine x_get E hw (C := RX1) (T := TX1) (N := 2) hinX1 0 rfl rfl 0 (by decide) rfl (List.mem_of_getElem? (i := 2) rfl) dX1_hasRoom_7 ?_
  refine x_alen E hw 1 (a := b) rfl dX1_hasRoom_10 ?_
  refine x_icmp_gt E (nI_toI (show n + k < 2147483648 by omega)) (nI_toI (show cap < 2147483648 by omega)) (tgt := 18) dX1_hasRoom_11 (by decide) (fun c_1 => ?_) (fun c_1 => ?_)
  · refine lv_iconst (v := (nI 0)) hx hb dX1_hasRoom_18 (by decide) ?_
    exact hret (nI 0) () _ _ _ _ dX1_hasRoom_19 rfl ((if_neg (by omega)).symm) hw
  · refine lv_iconst (v := (nI 1)) hx hb dX1_hasRoom_14 (by decide) ?_
    refine lv_goto (tgt := 19) hx hb dX1_hasRoom_15 (by decide) ?_
    exact hret (nI 1) () _ _ _ _ dX1_hasRoom_19 rfl ((if_pos (by omega)).symm) hw

abbrev rm_X1_at : Room := { frames := 0, cells := 0, slots := 0, locals := 0 }
set_option maxHeartbeats 4000000 in
set_option maxRecDepth 100000 in
theorem c_X1_at (l : Launch) (G : XG) (a : Nat) (b : Nat) (n : Nat) (cap : Nat) (j : Nat) (g : Nat → Nat) (hj : j < cap) (hb2 : cap < 2147483648) : CfL l yX1_at wsX1_at rm_X1_at G [.ref a, .int (nI j)] [(a, .inr (1, [.ref b, .int (nI n)])), (b, .inl (cJ G, cap, .inr (.inl (fJ g))))] (lN (g j)) [(a, .inr (1, [.ref b, .int (nI n)])), (b, .inl (cJ G, cap, .inr (.inl (fJ g))))] := by
  refine CtL.go (cc := cX1_at) (maxL := 2) RX1 rfl (by decide) rfl (Nat.le_of_ble_eq_true rfl) ?_
  intro p e s m args below meth c A Q ls E hw hl hret
  have hx := E.1
  have hb := E.2.1
  have hinX1 : ∀ w ∈ wsX10, w ∈ wsX1_at := (fun w h => List.mem_cons_of_mem _ (List.mem_append_right _ h))
  have hl : lv_has ls 2 [(0, .ref a), (1, .int (nI j))] := hl
  refine lv_iload_n hx hb dX1_at_0 rfl (lv_at hl 1 rfl) ?_
  refine x_if_lt E (nI_toI (show j < 2147483648 by omega)) (tgt := 22) dX1_at_1 (by decide) (fun c_1 => ?_) (fun c_1 => ?_)
  · exfalso; omega
  · refine lv_iload_n hx hb dX1_at_4 rfl (lv_at hl 1 rfl) ?_
    refine lv_aload_n hx hb dX1_at_5 rfl (lv_at hl 0 rfl) ?_
    refine x_get E hw (C := RX1) (T := TX1) (N := 2) hinX1 0 rfl rfl 0 (by decide) rfl (List.mem_of_getElem? (i := 1) rfl) dX1_at_6 ?_
    refine x_alen E hw 1 (a := b) rfl dX1_at_9 ?_
    refine x_icmp_ge E (nI_toI (show j < 2147483648 by omega)) (nI_toI (show cap < 2147483648 by omega)) (tgt := 22) dX1_at_10 (by decide) (fun c_2 => ?_) (fun c_2 => ?_)
    · exfalso; omega
    · refine lv_aload_n hx hb dX1_at_13 rfl (lv_at hl 0 rfl) ?_
      refine x_get E hw (C := RX1) (T := TX1) (N := 2) hinX1 0 rfl rfl 0 (by decide) rfl (List.mem_of_getElem? (i := 1) rfl) dX1_at_14 ?_
      refine lv_iload_n hx hb dX1_at_17 rfl (lv_at hl 1 rfl) ?_
      refine x_lald E hw 1 (a := b) (v := (lN (g j))) rfl rfl (show j < cap by omega) (by omega) rfl dX1_at_18 ?_
      refine lv_goto (tgt := 23) hx hb dX1_at_19 (by decide) ?_
      exact hret (lN (g j)) () _ _ _ _ dX1_at_23 rfl hw

abbrev rm_X1_add : Room := { frames := 0, cells := 0, slots := 0, locals := 0 }
set_option maxHeartbeats 4000000 in
set_option maxRecDepth 100000 in
theorem c_X1_add (l : Launch) (G : XG) (a : Nat) (b : Nat) (n : Nat) (cap : Nat) (v : Nat) (g : Nat → Nat) (hj : n < cap) (hb2 : cap < 2147483648) : CfV l yX1_add wsX1_add rm_X1_add G [.ref a, .long (lN v)] [(a, .inr (1, [.ref b, .int (nI n)])), (b, .inl (cJ G, cap, .inr (.inl (fJ g))))] [(a, .inr (1, [.ref b, .int (nI (n + 1))])), (b, .inl (cJ G, cap, .inr (.inl (fJ (va_up g n v)))))] := by
  refine CtV.go (cc := cX1_add) (maxL := 3) RX1 rfl (by decide) rfl (Nat.le_of_ble_eq_true rfl) ?_
  intro p e s m args below meth c A Q ls E hw hl hret
  have hx := E.1
  have hb := E.2.1
  have hinX1 : ∀ w ∈ wsX10, w ∈ wsX1_add := (fun w h => List.mem_cons_of_mem _ (List.mem_append_right _ h))
  have hl : lv_has ls 3 [(0, .ref a), (1, .long (lN v))] := hl
  refine lv_aload_n hx hb dX1_add_0 rfl (lv_at hl 0 rfl) ?_
  refine x_get E hw (C := RX1) (T := TX1) (N := 2) hinX1 0 rfl rfl 1 (by decide) rfl (List.mem_of_getElem? (i := 1) rfl) dX1_add_1 ?_
  refine x_if_lt E (nI_toI (show n < 2147483648 by omega)) (tgt := 39) dX1_add_4 (by decide) (fun c_1 => ?_) (fun c_1 => ?_)
  · exfalso; omega
  · refine lv_aload_n hx hb dX1_add_7 rfl (lv_at hl 0 rfl) ?_
    refine x_get E hw (C := RX1) (T := TX1) (N := 2) hinX1 0 rfl rfl 1 (by decide) rfl (List.mem_of_getElem? (i := 1) rfl) dX1_add_8 ?_
    refine lv_aload_n hx hb dX1_add_11 rfl (lv_at hl 0 rfl) ?_
    refine x_get E hw (C := RX1) (T := TX1) (N := 2) hinX1 0 rfl rfl 0 (by decide) rfl (List.mem_of_getElem? (i := 2) rfl) dX1_add_12 ?_
    refine x_alen E hw 1 (a := b) rfl dX1_add_15 ?_
    refine x_icmp_ge E (nI_toI (show n < 2147483648 by omega)) (nI_toI (show cap < 2147483648 by omega)) (tgt := 39) dX1_add_16 (by decide) (fun c_2 => ?_) (fun c_2 => ?_)
    · exfalso; omega
    · refine lv_aload_n hx hb dX1_add_19 rfl (lv_at hl 0 rfl) ?_
      refine x_get E hw (C := RX1) (T := TX1) (N := 2) hinX1 0 rfl rfl 0 (by decide) rfl (List.mem_of_getElem? (i := 2) rfl) dX1_add_20 ?_
      refine lv_aload_n hx hb dX1_add_23 rfl (lv_at hl 0 rfl) ?_
      refine x_get E hw (C := RX1) (T := TX1) (N := 2) hinX1 0 rfl rfl 1 (by decide) rfl (List.mem_of_getElem? (i := 1) rfl) dX1_add_24 ?_
      refine lv_lload_n hx hb dX1_add_27 rfl (lv_at hl 1 rfl) ?_
      refine x_last E hw 1 (a := b) (ws1 := [(a, .inr (1, [.ref b, .int (nI n)])), (b, .inl (cJ G, cap, .inr (.inl (fJ (va_up g n v)))))]) rfl rfl (show n < cap by omega) (by omega) (fJ_up _ _ _) rfl dX1_add_28 (fun H locs hw => ?_)
      refine lv_aload_n hx hb dX1_add_29 rfl (lv_at hl 0 rfl) ?_
      refine lv_dup hx hb dX1_add_30 rfl ?_
      refine x_get E hw (C := RX1) (T := TX1) (N := 2) hinX1 0 rfl rfl 1 (by decide) rfl (List.mem_of_getElem? (i := 1) rfl) dX1_add_31 ?_
      refine lv_iconst (v := (nI 1)) hx hb dX1_add_34 (by decide) ?_
      refine x_iadd E (v := (nI (n + 1))) dX1_add_35 (nI_add _ _) ?_
      refine x_put E hw (C := RX1) (T := TX1) (N := 2) (ws1 := [(a, .inr (1, [.ref b, .int (nI (n + 1))])), (b, .inl (cJ G, cap, .inr (.inl (fJ (va_up g n v)))))]) hinX1 tyX1_ok nmX1 0 rfl rfl 1 (by decide) (List.mem_of_getElem? (i := 1) rfl) rfl rfl rfl (Nat.le_of_ble_eq_true rfl) rfl dX1_add_36 (fun H locs hw => ?_)
      exact hret () _ _ _ _ dX1_add_39 trivial hw

abbrev rm_X1_dropLast : Room := { frames := 1, cells := 0, slots := 0, locals := 21 }
set_option maxHeartbeats 4000000 in
set_option maxRecDepth 100000 in
theorem c_X1_dropLast (l : Launch) (G : XG) (a : Nat) (b : Nat) (n : Nat) (hj : 1 ≤ n) (hb2 : n < 2147483648) : CfV l yX1_dropLast wsX1_dropLast rm_X1_dropLast G [.ref a] [(a, .inr (1, [.ref b, .int (nI n)]))] [(a, .inr (1, [.ref b, .int (nI (n - 1))]))] := by
  refine CtV.go (cc := cX1_dropLast) (maxL := 1) RX1 rfl (by decide) rfl (Nat.le_of_ble_eq_true rfl) ?_
  intro p e s m args below meth c A Q ls E hw hl hret
  have hx := E.1
  have hb := E.2.1
  have hinX1 : ∀ w ∈ wsX10, w ∈ wsX1_dropLast := (fun w h => List.mem_cons_of_mem _ (List.mem_append_right _ h))
  have hl : lv_has ls 1 [(0, .ref a)] := hl
  refine lv_aload_n hx hb dX1_dropLast_0 rfl (lv_at hl 0 rfl) ?_
  refine lv_aload_n hx hb dX1_dropLast_1 rfl (lv_at hl 0 rfl) ?_
  refine x_get E hw (C := RX1) (T := TX1) (N := 2) hinX1 0 rfl rfl 1 (by decide) rfl (List.mem_of_getElem? (i := 1) rfl) dX1_dropLast_2 ?_
  refine lv_iconst (v := (nI 1)) hx hb dX1_dropLast_5 (by decide) ?_
  refine x_isub E (v := (nI (n - 1))) dX1_dropLast_6 (pk_sub (by omega)) ?_
  refine lv_iconst (v := (nI 0)) hx hb dX1_dropLast_7 (by decide) ?_
  refine va_mmax hx hb (by rw [E.2.2.1]; exact hl.1.symm) E.2.2.2.1 (E.2.2.2.2 _ (List.mem_of_getElem? (i := 2) rfl)) (E.2.2.2.2 _ (List.mem_of_getElem? (i := 3) rfl)) (E.2.2.2.2 _ (List.mem_of_getElem? (i := 4) rfl)) (E.2.2.2.2 _ (List.mem_of_getElem? (i := 5) rfl)) (Nat.le_of_ble_eq_true rfl) (Nat.le_of_ble_eq_true rfl) (Nat.le_of_ble_eq_true rfl) (Nat.le_of_ble_eq_true rfl) dX1_dropLast_8 ?_
  refine x_topi (v := (nI (n - 1))) (x_max0 (by omega)) ?_
  refine x_put E hw (C := RX1) (T := TX1) (N := 2) (ws1 := [(a, .inr (1, [.ref b, .int (nI (n - 1))]))]) hinX1 tyX1_ok nmX1 0 rfl rfl 1 (by decide) (List.mem_of_getElem? (i := 1) rfl) rfl rfl rfl (Nat.le_of_ble_eq_true rfl) rfl dX1_dropLast_11 (fun H locs hw => ?_)
  exact hret () _ _ _ _ dX1_dropLast_14 trivial hw

abbrev rm_X1_empty : Room := { frames := 0, cells := 0, slots := 0, locals := 0 }
set_option maxHeartbeats 4000000 in
set_option maxRecDepth 100000 in
theorem c_X1_empty (l : Launch) (G : XG) (a : Nat) (b : Nat) (n : Nat)  : CfI l yX1_empty wsX1_empty rm_X1_empty G [.ref a] [(a, .inr (1, [.ref b, .int (nI n)]))] (nI n) [(a, .inr (1, [.ref b, .int (nI 0)]))] := by
  refine CtI.go (cc := cX1_empty) (maxL := 2) RX1 rfl (by decide) rfl (Nat.le_of_ble_eq_true rfl) ?_
  intro p e s m args below meth c A Q ls E hw hl hret
  have hx := E.1
  have hb := E.2.1
  have hinX1 : ∀ w ∈ wsX10, w ∈ wsX1_empty := (fun w h => List.mem_cons_of_mem _ (List.mem_append_right _ h))
  have hl : lv_has ls 2 [(0, .ref a)] := hl
  refine lv_aload_n hx hb dX1_empty_0 rfl (lv_at hl 0 rfl) ?_
  refine x_get E hw (C := RX1) (T := TX1) (N := 2) hinX1 0 rfl rfl 1 (by decide) rfl (List.mem_of_getElem? (i := 1) rfl) dX1_empty_1 ?_
  refine lv_istore_n (lv' := [(1, .int (nI n)), (0, .ref a)]) hx hb dX1_empty_4 rfl hl (by decide) rfl (fun ls hl => ?_)
  refine lv_aload_n hx hb dX1_empty_5 rfl (lv_at hl 1 rfl) ?_
  refine lv_iconst (v := (nI 0)) hx hb dX1_empty_6 (by decide) ?_
  refine x_put E hw (C := RX1) (T := TX1) (N := 2) (ws1 := [(a, .inr (1, [.ref b, .int (nI 0)]))]) hinX1 tyX1_ok nmX1 0 rfl rfl 1 (by decide) (List.mem_of_getElem? (i := 1) rfl) rfl rfl rfl (Nat.le_of_ble_eq_true rfl) rfl dX1_empty_7 (fun H locs hw => ?_)
  refine lv_iload_n hx hb dX1_empty_10 rfl (lv_at hl 0 rfl) ?_
  exact hret (nI n) () _ _ _ _ dX1_empty_11 rfl rfl hw

abbrev rm_X1_copy : Room := { frames := 1, cells := 0, slots := 0, locals := 22 }
set_option maxHeartbeats 4000000 in
set_option maxRecDepth 100000 in
theorem c_X1_copy (l : Launch) (G : XG) (a : Nat) (b : Nat) (a2 : Nat) (b2 : Nat) (n : Nat) (n2 : Nat) (cap : Nat) (g : Nat → Nat) (g2 : Nat → Nat) (hj : n2 ≤ cap) (hb2 : cap < 2147483648) : CfV l yX1_copy wsX1_copy rm_X1_copy G [.ref a, .ref a2] [(a, .inr (1, [.ref b, .int (nI n)])), (b, .inl (cJ G, cap, .inr (.inl (fJ g)))), (a2, .inr (1, [.ref b2, .int (nI n2)])), (b2, .inl (cJ G, cap, .inr (.inl (fJ g2))))] [(a, .inr (1, [.ref b, .int (nI n2)])), (b, .inl (cJ G, cap, .inr (.inl (fJ (cpN g2 g n2))))), (a2, .inr (1, [.ref b2, .int (nI n2)])), (b2, .inl (cJ G, cap, .inr (.inl (fJ g2))))] := by
  refine CtV.go (cc := cX1_copy) (maxL := 3) RX1 rfl (by decide) rfl (Nat.le_of_ble_eq_true rfl) ?_
  intro p e s m args below meth c A Q ls E hw hl hret
  have hx := E.1
  have hb := E.2.1
  have hinX1 : ∀ w ∈ wsX10, w ∈ wsX1_copy := (fun w h => List.mem_cons_of_mem _ (List.mem_append_right _ h))
  have hl : lv_has ls 3 [(0, .ref a), (1, .ref a2)] := hl
  refine lv_aload_n hx hb dX1_copy_0 rfl (lv_at hl 1 rfl) ?_
  refine lv_ifnull hx hb dX1_copy_1 ?_
  refine lv_aload_n hx hb dX1_copy_4 rfl (lv_at hl 1 rfl) ?_
  refine lv_aload_n hx hb dX1_copy_5 rfl (lv_at hl 0 rfl) ?_
  refine lv_acmp_ne (rx := some a2) (ry := some a) (tgt := 10) hx hb dX1_copy_6 (by decide) (fun _ => ?_) (fun h => absurd (hw.2.2.1.1 2 0 _ _ rfl rfl (Option.some.inj h)) (by decide))
  refine lv_aload_n hx hb dX1_copy_10 rfl (lv_at hl 0 rfl) ?_
  refine x_cfVi E hw hl.1 (As := []) (rest := []) (c_X1_empty l G a b n) 0 gX1_copy_X1_empty rfl rfl rfl (by decide) ⟨Nat.le_of_ble_eq_true rfl, Nat.le_of_ble_eq_true rfl⟩ ⟨Nat.le_of_ble_eq_true rfl, Nat.le_of_ble_eq_true rfl⟩ rfl 0 (ci := 1) (C := RX1) (T := TX1) (N := 2) rfl rfl [0] [1, 2, 3] rfl rfl rfl rfl rfl [3, 0, 1, 2] [(a, .inr (1, [.ref b, .int (nI 0)])), (b, .inl (cJ G, cap, .inr (.inl (fJ g)))), (a2, .inr (1, [.ref b2, .int (nI n2)])), (b2, .inl (cJ G, cap, .inr (.inl (fJ g2))))] rfl rfl rfl (Nat.le_of_ble_eq_true rfl) dX1_copy_11 (fun H locs hw => ?_)
  refine lv_pop hx hb dX1_copy_14 rfl ?_
  refine lv_iconst (v := (nI 0)) hx hb dX1_copy_15 (by decide) ?_
  refine lv_istore_n (lv' := [(2, .int (nI 0)), (0, .ref a), (1, .ref a2)]) hx hb dX1_copy_16 rfl hl (by decide) rfl (fun ls hl => ?_)
  have loop_17 : ∀ (n : Nat) (i : Nat), i ≤ n2 → n2 - i < n → ∀ (H : Heap) (locs : List Loc) (ls : Array Slot), Wd G s A [(a, .inr (1, [.ref b, .int (nI i)])), (b, .inl (cJ G, cap, .inr (.inl (fJ (cpN g2 g i))))), (a2, .inr (1, [.ref b2, .int (nI n2)])), (b2, .inl (cJ G, cap, .inr (.inl (fJ g2))))] H locs → lv_has ls 3 [(0, .ref a), (1, .ref a2), (2, .int (nI i))] → W p l e rm_X1_copy s m args below meth c H locs 0 0 Q (F0 m 17 ls []) := by
    intro n
    induction n with
    | zero =>
      intro i hi hmu
      exact absurd hmu (Nat.not_lt_zero _)
    | succ n ih_17 =>
      intro i hi hmu_17 H locs ls hw hl
      refine lv_iload_n hx hb dX1_copy_17 rfl (lv_at hl 2 rfl) ?_
      refine lv_aload_n hx hb dX1_copy_18 rfl (lv_at hl 1 rfl) ?_
      refine x_get E hw (C := RX1) (T := TX1) (N := 2) hinX1 2 rfl rfl 1 (by decide) rfl (List.mem_of_getElem? (i := 1) rfl) dX1_copy_19 ?_
      refine x_icmp_ge E (nI_toI (show i < 2147483648 by omega)) (nI_toI (show n2 < 2147483648 by omega)) (tgt := 40) dX1_copy_22 (by decide) (fun c_1 => ?_) (fun c_1 => ?_)
      · exact hret () _ _ _ _ dX1_copy_40 trivial (hw.cast (by rw [show i = n2 by omega]))
      · refine lv_aload_n hx hb dX1_copy_25 rfl (lv_at hl 0 rfl) ?_
        refine lv_aload_n hx hb dX1_copy_26 rfl (lv_at hl 1 rfl) ?_
        refine lv_iload_n hx hb dX1_copy_27 rfl (lv_at hl 2 rfl) ?_
        refine x_cfVl E hw hl.1 (As := [.int (nI i)]) (rest := [.ref a]) (c_X1_at l G a2 b2 n2 cap i g2 (by omega) (by omega)) 1 gX1_copy_X1_at rfl rfl rfl (by decide) ⟨Nat.le_of_ble_eq_true rfl, Nat.le_of_ble_eq_true rfl⟩ ⟨Nat.le_of_ble_eq_true rfl, Nat.le_of_ble_eq_true rfl⟩ rfl 2 (ci := 1) (C := RX1) (T := TX1) (N := 2) rfl rfl [2, 3] [0, 1] rfl rfl rfl rfl rfl [0, 1, 2, 3] [(a, .inr (1, [.ref b, .int (nI i)])), (b, .inl (cJ G, cap, .inr (.inl (fJ (cpN g2 g i))))), (a2, .inr (1, [.ref b2, .int (nI n2)])), (b2, .inl (cJ G, cap, .inr (.inl (fJ g2))))] rfl rfl rfl (Nat.le_of_ble_eq_true rfl) dX1_copy_28 (fun H locs hw => ?_)
        refine x_cfVv E hw hl.1 (As := [.long (lN (g2 i))]) (rest := []) (c_X1_add l G a b i cap (g2 i) (cpN g2 g i) (by omega) (by omega)) 1 gX1_copy_X1_add rfl rfl rfl (by decide) ⟨Nat.le_of_ble_eq_true rfl, Nat.le_of_ble_eq_true rfl⟩ ⟨Nat.le_of_ble_eq_true rfl, Nat.le_of_ble_eq_true rfl⟩ rfl 0 (ci := 1) (C := RX1) (T := TX1) (N := 2) rfl rfl [0, 1] [2, 3] rfl rfl rfl rfl rfl [2, 3, 0, 1] [(a, .inr (1, [.ref b, .int (nI (i + 1))])), (b, .inl (cJ G, cap, .inr (.inl (fJ (va_up (cpN g2 g i) i (g2 i)))))), (a2, .inr (1, [.ref b2, .int (nI n2)])), (b2, .inl (cJ G, cap, .inr (.inl (fJ g2))))] rfl rfl rfl (Nat.le_of_ble_eq_true rfl) dX1_copy_31 (fun H locs hw => ?_)
        refine lv_iinc (v := (nI (i + 1))) (lv' := [(2, .int (nI (i + 1))), (0, .ref a), (1, .ref a2)]) hx hb dX1_copy_34 hl (k := 2) rfl (x_inc1 _) (by decide) rfl (fun ls hl => ?_)
        refine lv_goto (tgt := 17) hx hb dX1_copy_37 (by decide) ?_
        exact ih_17 (i + 1) (by omega) (by omega) _ _ _ (hw.cast (by rw [cpN_succ])) (lv_sub hl [1, 2, 0] rfl)
  exact loop_17 (n2 - 0 + 1) 0 (by omega) (Nat.lt_succ_self _) _ _ _ (hw.cast (by rw [cpN_0])) (lv_sub hl [1, 2, 0] rfl)
end
section
/-! GuessFolds$Now -/
/-- a middle of two, put behind -/
def mid (g : Nat → Nat) (n i j : Nat) : Nat → Nat := va_up g n ((g i + g j) / 2)
def midH (g : Nat → Nat) (n i j : Nat) : Nat → Nat := va_up g n ((g i + g j) / 2 + 1048576)
def begW (parts part : Nat) (g : Nat → Nat) : Nat → Nat := va_up (va_up (va_up g 0 0) 1 (parts * 1048576)) 2 (part * 1048576)
def begO (g : Nat → Nat) : Nat → Nat := va_up (va_up (va_up g 0 0) 1 0) 2 1048576
def begH (g : Nat → Nat) : Nat → Nat := va_up (va_up (va_up g 0 0) 1 0) 2 0

abbrev rm_X0_creases : Room := { frames := 1, cells := 0, slots := 0, locals := 20 }
set_option maxHeartbeats 4000000 in
set_option maxRecDepth 100000 in
theorem c_X0_creases (l : Launch) (G : XG) (o : Nat) (r0 : Nat) (r1 : Nat) (r2 : Nat) (r3 : Nat) (r4 : Nat) (q0 : Nat) (n : Nat)  : CfI l yX0_creases wsX0_creases rm_X0_creases G [.ref o] [(o, .inr (0, [.ref r0, .ref r1, .ref r2, .ref r3, .ref r4])), (r0, .inr (1, [.ref q0, .int (nI n)]))] (nI n) [(o, .inr (0, [.ref r0, .ref r1, .ref r2, .ref r3, .ref r4])), (r0, .inr (1, [.ref q0, .int (nI n)]))] := by
  refine CtI.go (cc := cX0_creases) (maxL := 1) RX0 rfl (by decide) rfl (Nat.le_of_ble_eq_true rfl) ?_
  intro p e s m args below meth c A Q ls E hw hl hret
  have hx := E.1
  have hb := E.2.1
  have hinX0 : ∀ w ∈ wsX00, w ∈ wsX0_creases := (fun w h => List.mem_cons_of_mem _ (List.mem_append_left _ (List.mem_append_right _ h)))
  have hl : lv_has ls 1 [(0, .ref o)] := hl
  refine lv_aload_n hx hb dX0_creases_0 rfl (lv_at hl 0 rfl) ?_
  refine x_get E hw (C := RX0) (T := TX0) (N := 5) hinX0 0 rfl rfl 0 (by decide) rfl (List.mem_of_getElem? (i := 1) rfl) dX0_creases_1 ?_
  refine x_cfVi E hw hl.1 (As := []) (rest := []) (c_X1_size l G r0 q0 n) 0 gX0_creases_X1_size rfl rfl rfl (by decide) ⟨Nat.le_of_ble_eq_true rfl, Nat.le_of_ble_eq_true rfl⟩ ⟨Nat.le_of_ble_eq_true rfl, Nat.le_of_ble_eq_true rfl⟩ rfl 1 (ci := 1) (C := RX1) (T := TX1) (N := 2) rfl rfl [1] [0] rfl rfl rfl rfl rfl [0, 1] [(o, .inr (0, [.ref r0, .ref r1, .ref r2, .ref r3, .ref r4])), (r0, .inr (1, [.ref q0, .int (nI n)]))] rfl rfl rfl (Nat.le_of_ble_eq_true rfl) dX0_creases_4 (fun H locs hw => ?_)
  exact hret (nI n) () _ _ _ _ dX0_creases_7 rfl rfl hw

abbrev rm_X0_addCrease : Room := { frames := 1, cells := 0, slots := 0, locals := 22 }
set_option maxHeartbeats 4000000 in
set_option maxRecDepth 100000 in
theorem c_X0_addCrease (l : Launch) (G : XG) (o : Nat) (r0 : Nat) (r1 : Nat) (r2 : Nat) (r3 : Nat) (r4 : Nat) (q0 : Nat) (q1 : Nat) (q2 : Nat) (n : Nat) (vw : Nat) (vo : Nat) (vh : Nat) (gw : Nat → Nat) (go : Nat → Nat) (gh : Nat → Nat) (hn : n < 23) : CfV l yX0_addCrease wsX0_addCrease rm_X0_addCrease G [.ref o, .long (lN vw), .long (lN vo), .long (lN vh)] [(o, .inr (0, [.ref r0, .ref r1, .ref r2, .ref r3, .ref r4])), (r0, .inr (1, [.ref q0, .int (nI n)])), (q0, .inl (cJ G, 23, .inr (.inl (fJ gw)))), (r1, .inr (1, [.ref q1, .int (nI n)])), (q1, .inl (cJ G, 23, .inr (.inl (fJ go)))), (r2, .inr (1, [.ref q2, .int (nI n)])), (q2, .inl (cJ G, 23, .inr (.inl (fJ gh))))] [(o, .inr (0, [.ref r0, .ref r1, .ref r2, .ref r3, .ref r4])), (r0, .inr (1, [.ref q0, .int (nI (n + 1))])), (q0, .inl (cJ G, 23, .inr (.inl (fJ (va_up gw n vw))))), (r1, .inr (1, [.ref q1, .int (nI (n + 1))])), (q1, .inl (cJ G, 23, .inr (.inl (fJ (va_up go n vo))))), (r2, .inr (1, [.ref q2, .int (nI (n + 1))])), (q2, .inl (cJ G, 23, .inr (.inl (fJ (va_up gh n vh)))))] := by
  refine CtV.go (cc := cX0_addCrease) (maxL := 7) RX0 rfl (by decide) rfl (Nat.le_of_ble_eq_true rfl) ?_
  intro p e s m args below meth c A Q ls E hw hl hret
  have hx := E.1
  have hb := E.2.1
  have hinX0 : ∀ w ∈ wsX00, w ∈ wsX0_addCrease := (fun w h => List.mem_cons_of_mem _ (List.mem_append_left _ (List.mem_append_right _ h)))
  have hl : lv_has ls 7 [(0, .ref o), (1, .long (lN vw)), (3, .long (lN vo)), (5, .long (lN vh))] := hl
  refine lv_aload_n hx hb dX0_addCrease_0 rfl (lv_at hl 0 rfl) ?_
  refine x_get E hw (C := RX0) (T := TX0) (N := 5) hinX0 0 rfl rfl 0 (by decide) rfl (List.mem_of_getElem? (i := 1) rfl) dX0_addCrease_1 ?_
  refine lv_lload_n hx hb dX0_addCrease_4 rfl (lv_at hl 1 rfl) ?_
  refine x_cfVv E hw hl.1 (As := [.long (lN vw)]) (rest := []) (c_X1_add l G r0 q0 n 23 vw gw (by omega) (by omega)) 1 gX0_addCrease_X1_add rfl rfl rfl (by decide) ⟨Nat.le_of_ble_eq_true rfl, Nat.le_of_ble_eq_true rfl⟩ ⟨Nat.le_of_ble_eq_true rfl, Nat.le_of_ble_eq_true rfl⟩ rfl 1 (ci := 1) (C := RX1) (T := TX1) (N := 2) rfl rfl [1, 2] [0, 3, 4, 5, 6] rfl rfl rfl rfl rfl [0, 5, 6, 1, 2, 3, 4] [(o, .inr (0, [.ref r0, .ref r1, .ref r2, .ref r3, .ref r4])), (r0, .inr (1, [.ref q0, .int (nI (n + 1))])), (q0, .inl (cJ G, 23, .inr (.inl (fJ (va_up gw n vw))))), (r1, .inr (1, [.ref q1, .int (nI n)])), (q1, .inl (cJ G, 23, .inr (.inl (fJ go)))), (r2, .inr (1, [.ref q2, .int (nI n)])), (q2, .inl (cJ G, 23, .inr (.inl (fJ gh))))] rfl rfl rfl (Nat.le_of_ble_eq_true rfl) dX0_addCrease_5 (fun H locs hw => ?_)
  refine lv_aload_n hx hb dX0_addCrease_8 rfl (lv_at hl 0 rfl) ?_
  refine x_get E hw (C := RX0) (T := TX0) (N := 5) hinX0 0 rfl rfl 1 (by decide) rfl (List.mem_of_getElem? (i := 2) rfl) dX0_addCrease_9 ?_
  refine lv_lload_n hx hb dX0_addCrease_12 rfl (lv_at hl 2 rfl) ?_
  refine x_cfVv E hw hl.1 (As := [.long (lN vo)]) (rest := []) (c_X1_add l G r1 q1 n 23 vo go (by omega) (by omega)) 1 gX0_addCrease_X1_add rfl rfl rfl (by decide) ⟨Nat.le_of_ble_eq_true rfl, Nat.le_of_ble_eq_true rfl⟩ ⟨Nat.le_of_ble_eq_true rfl, Nat.le_of_ble_eq_true rfl⟩ rfl 3 (ci := 1) (C := RX1) (T := TX1) (N := 2) rfl rfl [3, 4] [0, 1, 2, 5, 6] rfl rfl rfl rfl rfl [0, 1, 2, 5, 6, 3, 4] [(o, .inr (0, [.ref r0, .ref r1, .ref r2, .ref r3, .ref r4])), (r0, .inr (1, [.ref q0, .int (nI (n + 1))])), (q0, .inl (cJ G, 23, .inr (.inl (fJ (va_up gw n vw))))), (r1, .inr (1, [.ref q1, .int (nI (n + 1))])), (q1, .inl (cJ G, 23, .inr (.inl (fJ (va_up go n vo))))), (r2, .inr (1, [.ref q2, .int (nI n)])), (q2, .inl (cJ G, 23, .inr (.inl (fJ gh))))] rfl rfl rfl (Nat.le_of_ble_eq_true rfl) dX0_addCrease_13 (fun H locs hw => ?_)
  refine lv_aload_n hx hb dX0_addCrease_16 rfl (lv_at hl 0 rfl) ?_
  refine x_get E hw (C := RX0) (T := TX0) (N := 5) hinX0 0 rfl rfl 2 (by decide) rfl (List.mem_of_getElem? (i := 3) rfl) dX0_addCrease_17 ?_
  refine lv_lload hx hb dX0_addCrease_20 (lv_at hl 3 rfl) ?_
  refine x_cfVv E hw hl.1 (As := [.long (lN vh)]) (rest := []) (c_X1_add l G r2 q2 n 23 vh gh (by omega) (by omega)) 1 gX0_addCrease_X1_add rfl rfl rfl (by decide) ⟨Nat.le_of_ble_eq_true rfl, Nat.le_of_ble_eq_true rfl⟩ ⟨Nat.le_of_ble_eq_true rfl, Nat.le_of_ble_eq_true rfl⟩ rfl 5 (ci := 1) (C := RX1) (T := TX1) (N := 2) rfl rfl [5, 6] [0, 1, 2, 3, 4] rfl rfl rfl rfl rfl [0, 1, 2, 3, 4, 5, 6] [(o, .inr (0, [.ref r0, .ref r1, .ref r2, .ref r3, .ref r4])), (r0, .inr (1, [.ref q0, .int (nI (n + 1))])), (q0, .inl (cJ G, 23, .inr (.inl (fJ (va_up gw n vw))))), (r1, .inr (1, [.ref q1, .int (nI (n + 1))])), (q1, .inl (cJ G, 23, .inr (.inl (fJ (va_up go n vo))))), (r2, .inr (1, [.ref q2, .int (nI (n + 1))])), (q2, .inl (cJ G, 23, .inr (.inl (fJ (va_up gh n vh)))))] rfl rfl rfl (Nat.le_of_ble_eq_true rfl) dX0_addCrease_22 (fun H locs hw => ?_)
  exact hret () _ _ _ _ dX0_addCrease_25 trivial hw

abbrev rm_X0_empty : Room := { frames := 1, cells := 0, slots := 0, locals := 21 }
set_option maxHeartbeats 4000000 in
set_option maxRecDepth 100000 in
theorem c_X0_empty (l : Launch) (G : XG) (o : Nat) (r0 : Nat) (r1 : Nat) (r2 : Nat) (r3 : Nat) (r4 : Nat) (q0 : Nat) (q1 : Nat) (q2 : Nat) (q3 : Nat) (q4 : Nat) (n0 : Nat) (n1 : Nat) (n2 : Nat) (n3 : Nat) (n4 : Nat)  : CfV l yX0_empty wsX0_empty rm_X0_empty G [.ref o] [(o, .inr (0, [.ref r0, .ref r1, .ref r2, .ref r3, .ref r4])), (r0, .inr (1, [.ref q0, .int (nI n0)])), (r1, .inr (1, [.ref q1, .int (nI n1)])), (r2, .inr (1, [.ref q2, .int (nI n2)])), (r3, .inr (1, [.ref q3, .int (nI n3)])), (r4, .inr (1, [.ref q4, .int (nI n4)]))] [(o, .inr (0, [.ref r0, .ref r1, .ref r2, .ref r3, .ref r4])), (r0, .inr (1, [.ref q0, .int (nI 0)])), (r1, .inr (1, [.ref q1, .int (nI 0)])), (r2, .inr (1, [.ref q2, .int (nI 0)])), (r3, .inr (1, [.ref q3, .int (nI 0)])), (r4, .inr (1, [.ref q4, .int (nI 0)]))] := by
  refine CtV.go (cc := cX0_empty) (maxL := 1) RX0 rfl (by decide) rfl (Nat.le_of_ble_eq_true rfl) ?_
  intro p e s m args below meth c A Q ls E hw hl hret
  have hx := E.1
  have hb := E.2.1
  have hinX0 : ∀ w ∈ wsX00, w ∈ wsX0_empty := (fun w h => List.mem_cons_of_mem _ (List.mem_append_left _ (List.mem_append_right _ h)))
  have hl : lv_has ls 1 [(0, .ref o)] := hl
  refine lv_aload_n hx hb dX0_empty_0 rfl (lv_at hl 0 rfl) ?_
  refine x_get E hw (C := RX0) (T := TX0) (N := 5) hinX0 0 rfl rfl 0 (by decide) rfl (List.mem_of_getElem? (i := 1) rfl) dX0_empty_1 ?_
  refine x_cfVi E hw hl.1 (As := []) (rest := []) (c_X1_empty l G r0 q0 n0) 0 gX0_empty_X1_empty rfl rfl rfl (by decide) ⟨Nat.le_of_ble_eq_true rfl, Nat.le_of_ble_eq_true rfl⟩ ⟨Nat.le_of_ble_eq_true rfl, Nat.le_of_ble_eq_true rfl⟩ rfl 1 (ci := 1) (C := RX1) (T := TX1) (N := 2) rfl rfl [1] [0, 2, 3, 4, 5] rfl rfl rfl rfl rfl [0, 5, 1, 2, 3, 4] [(o, .inr (0, [.ref r0, .ref r1, .ref r2, .ref r3, .ref r4])), (r0, .inr (1, [.ref q0, .int (nI 0)])), (r1, .inr (1, [.ref q1, .int (nI n1)])), (r2, .inr (1, [.ref q2, .int (nI n2)])), (r3, .inr (1, [.ref q3, .int (nI n3)])), (r4, .inr (1, [.ref q4, .int (nI n4)]))] rfl rfl rfl (Nat.le_of_ble_eq_true rfl) dX0_empty_4 (fun H locs hw => ?_)
  refine lv_pop hx hb dX0_empty_7 rfl ?_
  refine lv_aload_n hx hb dX0_empty_8 rfl (lv_at hl 0 rfl) ?_
  refine x_get E hw (C := RX0) (T := TX0) (N := 5) hinX0 0 rfl rfl 1 (by decide) rfl (List.mem_of_getElem? (i := 2) rfl) dX0_empty_9 ?_
  refine x_cfVi E hw hl.1 (As := []) (rest := []) (c_X1_empty l G r1 q1 n1) 0 gX0_empty_X1_empty rfl rfl rfl (by decide) ⟨Nat.le_of_ble_eq_true rfl, Nat.le_of_ble_eq_true rfl⟩ ⟨Nat.le_of_ble_eq_true rfl, Nat.le_of_ble_eq_true rfl⟩ rfl 2 (ci := 1) (C := RX1) (T := TX1) (N := 2) rfl rfl [2] [0, 1, 3, 4, 5] rfl rfl rfl rfl rfl [0, 1, 5, 2, 3, 4] [(o, .inr (0, [.ref r0, .ref r1, .ref r2, .ref r3, .ref r4])), (r0, .inr (1, [.ref q0, .int (nI 0)])), (r1, .inr (1, [.ref q1, .int (nI 0)])), (r2, .inr (1, [.ref q2, .int (nI n2)])), (r3, .inr (1, [.ref q3, .int (nI n3)])), (r4, .inr (1, [.ref q4, .int (nI n4)]))] rfl rfl rfl (Nat.le_of_ble_eq_true rfl) dX0_empty_12 (fun H locs hw => ?_)
  refine lv_pop hx hb dX0_empty_15 rfl ?_
  refine lv_aload_n hx hb dX0_empty_16 rfl (lv_at hl 0 rfl) ?_
  refine x_get E hw (C := RX0) (T := TX0) (N := 5) hinX0 0 rfl rfl 2 (by decide) rfl (List.mem_of_getElem? (i := 3) rfl) dX0_empty_17 ?_
  refine x_cfVi E hw hl.1 (As := []) (rest := []) (c_X1_empty l G r2 q2 n2) 0 gX0_empty_X1_empty rfl rfl rfl (by decide) ⟨Nat.le_of_ble_eq_true rfl, Nat.le_of_ble_eq_true rfl⟩ ⟨Nat.le_of_ble_eq_true rfl, Nat.le_of_ble_eq_true rfl⟩ rfl 3 (ci := 1) (C := RX1) (T := TX1) (N := 2) rfl rfl [3] [0, 1, 2, 4, 5] rfl rfl rfl rfl rfl [0, 1, 2, 5, 3, 4] [(o, .inr (0, [.ref r0, .ref r1, .ref r2, .ref r3, .ref r4])), (r0, .inr (1, [.ref q0, .int (nI 0)])), (r1, .inr (1, [.ref q1, .int (nI 0)])), (r2, .inr (1, [.ref q2, .int (nI 0)])), (r3, .inr (1, [.ref q3, .int (nI n3)])), (r4, .inr (1, [.ref q4, .int (nI n4)]))] rfl rfl rfl (Nat.le_of_ble_eq_true rfl) dX0_empty_20 (fun H locs hw => ?_)
  refine lv_pop hx hb dX0_empty_23 rfl ?_
  refine lv_aload_n hx hb dX0_empty_24 rfl (lv_at hl 0 rfl) ?_
  refine x_get E hw (C := RX0) (T := TX0) (N := 5) hinX0 0 rfl rfl 3 (by decide) rfl (List.mem_of_getElem? (i := 4) rfl) dX0_empty_25 ?_
  refine x_cfVi E hw hl.1 (As := []) (rest := []) (c_X1_empty l G r3 q3 n3) 0 gX0_empty_X1_empty rfl rfl rfl (by decide) ⟨Nat.le_of_ble_eq_true rfl, Nat.le_of_ble_eq_true rfl⟩ ⟨Nat.le_of_ble_eq_true rfl, Nat.le_of_ble_eq_true rfl⟩ rfl 4 (ci := 1) (C := RX1) (T := TX1) (N := 2) rfl rfl [4] [0, 1, 2, 3, 5] rfl rfl rfl rfl rfl [0, 1, 2, 3, 5, 4] [(o, .inr (0, [.ref r0, .ref r1, .ref r2, .ref r3, .ref r4])), (r0, .inr (1, [.ref q0, .int (nI 0)])), (r1, .inr (1, [.ref q1, .int (nI 0)])), (r2, .inr (1, [.ref q2, .int (nI 0)])), (r3, .inr (1, [.ref q3, .int (nI 0)])), (r4, .inr (1, [.ref q4, .int (nI n4)]))] rfl rfl rfl (Nat.le_of_ble_eq_true rfl) dX0_empty_28 (fun H locs hw => ?_)
  refine lv_pop hx hb dX0_empty_31 rfl ?_
  refine lv_aload_n hx hb dX0_empty_32 rfl (lv_at hl 0 rfl) ?_
  refine x_get E hw (C := RX0) (T := TX0) (N := 5) hinX0 0 rfl rfl 4 (by decide) rfl (List.mem_of_getElem? (i := 5) rfl) dX0_empty_33 ?_
  refine x_cfVi E hw hl.1 (As := []) (rest := []) (c_X1_empty l G r4 q4 n4) 0 gX0_empty_X1_empty rfl rfl rfl (by decide) ⟨Nat.le_of_ble_eq_true rfl, Nat.le_of_ble_eq_true rfl⟩ ⟨Nat.le_of_ble_eq_true rfl, Nat.le_of_ble_eq_true rfl⟩ rfl 5 (ci := 1) (C := RX1) (T := TX1) (N := 2) rfl rfl [5] [0, 1, 2, 3, 4] rfl rfl rfl rfl rfl [0, 1, 2, 3, 4, 5] [(o, .inr (0, [.ref r0, .ref r1, .ref r2, .ref r3, .ref r4])), (r0, .inr (1, [.ref q0, .int (nI 0)])), (r1, .inr (1, [.ref q1, .int (nI 0)])), (r2, .inr (1, [.ref q2, .int (nI 0)])), (r3, .inr (1, [.ref q3, .int (nI 0)])), (r4, .inr (1, [.ref q4, .int (nI 0)]))] rfl rfl rfl (Nat.le_of_ble_eq_true rfl) dX0_empty_36 (fun H locs hw => ?_)
  refine lv_pop hx hb dX0_empty_39 rfl ?_
  exact hret () _ _ _ _ dX0_empty_40 trivial hw

abbrev rm_X0_begin : Room := { frames := 2, cells := 0, slots := 0, locals := 48 }
set_option maxHeartbeats 4000000 in
set_option maxRecDepth 100000 in
theorem c_X0_begin (l : Launch) (G : XG) (o : Nat) (r0 : Nat) (r1 : Nat) (r2 : Nat) (r3 : Nat) (r4 : Nat) (q0 : Nat) (q1 : Nat) (q2 : Nat) (q3 : Nat) (q4 : Nat) (n0 : Nat) (n1 : Nat) (n2 : Nat) (n3 : Nat) (n4 : Nat) (pa : Nat) (pt : Nat) (gw : Nat → Nat) (go : Nat → Nat) (gh : Nat → Nat) (hb : pa < 2147483648) (hc : pt < 2147483648) : CfV l yX0_begin wsX0_begin rm_X0_begin G [.ref o, .int (nI pa), .int (nI pt)] [(o, .inr (0, [.ref r0, .ref r1, .ref r2, .ref r3, .ref r4])), (r0, .inr (1, [.ref q0, .int (nI n0)])), (r1, .inr (1, [.ref q1, .int (nI n1)])), (r2, .inr (1, [.ref q2, .int (nI n2)])), (r3, .inr (1, [.ref q3, .int (nI n3)])), (r4, .inr (1, [.ref q4, .int (nI n4)])), (q0, .inl (cJ G, 23, .inr (.inl (fJ gw)))), (q1, .inl (cJ G, 23, .inr (.inl (fJ go)))), (q2, .inl (cJ G, 23, .inr (.inl (fJ gh))))] [(o, .inr (0, [.ref r0, .ref r1, .ref r2, .ref r3, .ref r4])), (r0, .inr (1, [.ref q0, .int (nI 3)])), (r1, .inr (1, [.ref q1, .int (nI 3)])), (r2, .inr (1, [.ref q2, .int (nI 3)])), (r3, .inr (1, [.ref q3, .int (nI 0)])), (r4, .inr (1, [.ref q4, .int (nI 0)])), (q0, .inl (cJ G, 23, .inr (.inl (fJ (begW pa pt gw))))), (q1, .inl (cJ G, 23, .inr (.inl (fJ (begO go))))), (q2, .inl (cJ G, 23, .inr (.inl (fJ (begH gh)))))] := by
  refine CtV.go (cc := cX0_begin) (maxL := 3) RX0 rfl (by decide) rfl (Nat.le_of_ble_eq_true rfl) ?_
  intro p e s m args below meth c A Q ls E hw hl hret
  have hx := E.1
  have hb := E.2.1
  have hl : lv_has ls 3 [(0, .ref o), (1, .int (nI pa)), (2, .int (nI pt))] := hl
  refine lv_aload_n hx hb dX0_begin_0 rfl (lv_at hl 0 rfl) ?_
  refine x_cfVv E hw hl.1 (As := []) (rest := []) (c_X0_empty l G o r0 r1 r2 r3 r4 q0 q1 q2 q3 q4 n0 n1 n2 n3 n4) 0 gX0_begin_X0_empty rfl rfl rfl (by decide) ⟨Nat.le_of_ble_eq_true rfl, Nat.le_of_ble_eq_true rfl⟩ ⟨Nat.le_of_ble_eq_true rfl, Nat.le_of_ble_eq_true rfl⟩ rfl 0 (ci := 0) (C := RX0) (T := TX0) (N := 5) rfl rfl [0, 1, 2, 3, 4, 5] [6, 7, 8] rfl rfl rfl rfl rfl [3, 4, 5, 6, 7, 8, 0, 1, 2] [(o, .inr (0, [.ref r0, .ref r1, .ref r2, .ref r3, .ref r4])), (r0, .inr (1, [.ref q0, .int (nI 0)])), (r1, .inr (1, [.ref q1, .int (nI 0)])), (r2, .inr (1, [.ref q2, .int (nI 0)])), (r3, .inr (1, [.ref q3, .int (nI 0)])), (r4, .inr (1, [.ref q4, .int (nI 0)])), (q0, .inl (cJ G, 23, .inr (.inl (fJ gw)))), (q1, .inl (cJ G, 23, .inr (.inl (fJ go)))), (q2, .inl (cJ G, 23, .inr (.inl (fJ gh))))] rfl rfl rfl (Nat.le_of_ble_eq_true rfl) dX0_begin_1 (fun H locs hw => ?_)
  refine lv_aload_n hx hb dX0_begin_4 rfl (lv_at hl 0 rfl) ?_
  refine lv_lconst (v := (lN 0)) hx hb dX0_begin_5 (by decide) ?_
  refine lv_lconst (v := (lN 0)) hx hb dX0_begin_6 (by decide) ?_
  refine lv_lconst (v := (lN 0)) hx hb dX0_begin_7 (by decide) ?_
  refine x_cfVv E hw hl.1 (As := [.long (lN 0), .long (lN 0), .long (lN 0)]) (rest := []) (c_X0_addCrease l G o r0 r1 r2 r3 r4 q0 q1 q2 0 0 0 0 gw go gh (by omega)) 3 gX0_begin_X0_addCrease rfl rfl rfl (by decide) ⟨Nat.le_of_ble_eq_true rfl, Nat.le_of_ble_eq_true rfl⟩ ⟨Nat.le_of_ble_eq_true rfl, Nat.le_of_ble_eq_true rfl⟩ rfl 0 (ci := 0) (C := RX0) (T := TX0) (N := 5) rfl rfl [0, 1, 6, 2, 7, 3, 8] [4, 5] rfl rfl rfl rfl rfl [2, 3, 5, 7, 0, 1, 4, 6, 8] [(o, .inr (0, [.ref r0, .ref r1, .ref r2, .ref r3, .ref r4])), (r0, .inr (1, [.ref q0, .int (nI (0 + 1))])), (r1, .inr (1, [.ref q1, .int (nI (0 + 1))])), (r2, .inr (1, [.ref q2, .int (nI (0 + 1))])), (r3, .inr (1, [.ref q3, .int (nI 0)])), (r4, .inr (1, [.ref q4, .int (nI 0)])), (q0, .inl (cJ G, 23, .inr (.inl (fJ (va_up gw 0 0))))), (q1, .inl (cJ G, 23, .inr (.inl (fJ (va_up go 0 0))))), (q2, .inl (cJ G, 23, .inr (.inl (fJ (va_up gh 0 0)))))] rfl rfl rfl (Nat.le_of_ble_eq_true rfl) dX0_begin_8 (fun H locs hw => ?_)
  refine lv_aload_n hx hb dX0_begin_11 rfl (lv_at hl 0 rfl) ?_
  refine lv_iload_n hx hb dX0_begin_12 rfl (lv_at hl 1 rfl) ?_
  refine lv_i2l (v := (lN pa)) hx hb dX0_begin_13 (nI_l (by omega)) ?_
  refine lv_ldc2 (v := (1048576)) hx hb E.2.2.2.1 (E.2.2.2.2 _ (List.mem_of_getElem? (i := 1) rfl)) dX0_begin_14 ?_
  refine x_topl (v := lN 1048576) (by decide) ?_
  refine x_lmul E (v := (lN (pa * 1048576))) dX0_begin_17 (lN_mul _ _) ?_
  refine lv_lconst (v := (lN 0)) hx hb dX0_begin_18 (by decide) ?_
  refine lv_lconst (v := (lN 0)) hx hb dX0_begin_19 (by decide) ?_
  refine x_cfVv E hw hl.1 (As := [.long (lN (pa * 1048576)), .long (lN 0), .long (lN 0)]) (rest := []) (c_X0_addCrease l G o r0 r1 r2 r3 r4 q0 q1 q2 (0 + 1) (pa * 1048576) 0 0 (va_up gw 0 0) (va_up go 0 0) (va_up gh 0 0) (by omega)) 3 gX0_begin_X0_addCrease rfl rfl rfl (by decide) ⟨Nat.le_of_ble_eq_true rfl, Nat.le_of_ble_eq_true rfl⟩ ⟨Nat.le_of_ble_eq_true rfl, Nat.le_of_ble_eq_true rfl⟩ rfl 0 (ci := 0) (C := RX0) (T := TX0) (N := 5) rfl rfl [0, 1, 6, 2, 7, 3, 8] [4, 5] rfl rfl rfl rfl rfl [2, 3, 5, 7, 0, 1, 4, 6, 8] [(o, .inr (0, [.ref r0, .ref r1, .ref r2, .ref r3, .ref r4])), (r0, .inr (1, [.ref q0, .int (nI ((0 + 1) + 1))])), (r1, .inr (1, [.ref q1, .int (nI ((0 + 1) + 1))])), (r2, .inr (1, [.ref q2, .int (nI ((0 + 1) + 1))])), (r3, .inr (1, [.ref q3, .int (nI 0)])), (r4, .inr (1, [.ref q4, .int (nI 0)])), (q0, .inl (cJ G, 23, .inr (.inl (fJ (va_up (va_up gw 0 0) (0 + 1) (pa * 1048576)))))), (q1, .inl (cJ G, 23, .inr (.inl (fJ (va_up (va_up go 0 0) (0 + 1) 0))))), (q2, .inl (cJ G, 23, .inr (.inl (fJ (va_up (va_up gh 0 0) (0 + 1) 0)))))] rfl rfl rfl (Nat.le_of_ble_eq_true rfl) dX0_begin_20 (fun H locs hw => ?_)
  refine lv_aload_n hx hb dX0_begin_23 rfl (lv_at hl 0 rfl) ?_
  refine lv_iload_n hx hb dX0_begin_24 rfl (lv_at hl 2 rfl) ?_
  refine lv_i2l (v := (lN pt)) hx hb dX0_begin_25 (nI_l (by omega)) ?_
  refine lv_ldc2 (v := (1048576)) hx hb E.2.2.2.1 (E.2.2.2.2 _ (List.mem_of_getElem? (i := 1) rfl)) dX0_begin_26 ?_
  refine x_topl (v := lN 1048576) (by decide) ?_
  refine x_lmul E (v := (lN (pt * 1048576))) dX0_begin_29 (lN_mul _ _) ?_
  refine lv_ldc2 (v := (1048576)) hx hb E.2.2.2.1 (E.2.2.2.2 _ (List.mem_of_getElem? (i := 1) rfl)) dX0_begin_30 ?_
  refine x_topl (v := lN 1048576) (by decide) ?_
  refine lv_lconst (v := (lN 0)) hx hb dX0_begin_33 (by decide) ?_
  refine x_cfVv E hw hl.1 (As := [.long (lN (pt * 1048576)), .long (lN 1048576), .long (lN 0)]) (rest := []) (c_X0_addCrease l G o r0 r1 r2 r3 r4 q0 q1 q2 ((0 + 1) + 1) (pt * 1048576) 1048576 0 (va_up (va_up gw 0 0) (0 + 1) (pa * 1048576)) (va_up (va_up go 0 0) (0 + 1) 0) (va_up (va_up gh 0 0) (0 + 1) 0) (by omega)) 3 gX0_begin_X0_addCrease rfl rfl rfl (by decide) ⟨Nat.le_of_ble_eq_true rfl, Nat.le_of_ble_eq_true rfl⟩ ⟨Nat.le_of_ble_eq_true rfl, Nat.le_of_ble_eq_true rfl⟩ rfl 0 (ci := 0) (C := RX0) (T := TX0) (N := 5) rfl rfl [0, 1, 6, 2, 7, 3, 8] [4, 5] rfl rfl rfl rfl rfl [2, 3, 5, 7, 0, 1, 4, 6, 8] [(o, .inr (0, [.ref r0, .ref r1, .ref r2, .ref r3, .ref r4])), (r0, .inr (1, [.ref q0, .int (nI (((0 + 1) + 1) + 1))])), (r1, .inr (1, [.ref q1, .int (nI (((0 + 1) + 1) + 1))])), (r2, .inr (1, [.ref q2, .int (nI (((0 + 1) + 1) + 1))])), (r3, .inr (1, [.ref q3, .int (nI 0)])), (r4, .inr (1, [.ref q4, .int (nI 0)])), (q0, .inl (cJ G, 23, .inr (.inl (fJ (va_up (va_up (va_up gw 0 0) (0 + 1) (pa * 1048576)) ((0 + 1) + 1) (pt * 1048576)))))), (q1, .inl (cJ G, 23, .inr (.inl (fJ (va_up (va_up (va_up go 0 0) (0 + 1) 0) ((0 + 1) + 1) 1048576))))), (q2, .inl (cJ G, 23, .inr (.inl (fJ (va_up (va_up (va_up gh 0 0) (0 + 1) 0) ((0 + 1) + 1) 0)))))] rfl rfl rfl (Nat.le_of_ble_eq_true rfl) dX0_begin_34 (fun H locs hw => ?_)
  exact hret () _ _ _ _ dX0_begin_37 trivial hw

abbrev rm_X0_middle : Room := { frames := 1, cells := 0, slots := 0, locals := 21 }
set_option maxHeartbeats 4000000 in
set_option maxRecDepth 100000 in
theorem c_X0_middle (l : Launch) (G : XG) (a : Nat) (b : Nat) (n : Nat) (cap : Nat) (i : Nat) (j : Nat) (g : Nat → Nat) (hi : i < cap) (hj : j < cap) (hb : cap < 2147483648) (hs : g i + g j < 9223372036854775808) : CfL l yX0_middle wsX0_middle rm_X0_middle G [.ref a, .int (nI i), .int (nI j)] [(a, .inr (1, [.ref b, .int (nI n)])), (b, .inl (cJ G, cap, .inr (.inl (fJ g))))] (lN ((g i + g j) / 2)) [(a, .inr (1, [.ref b, .int (nI n)])), (b, .inl (cJ G, cap, .inr (.inl (fJ g))))] := by
  refine CtL.go (cc := cX0_middle) (maxL := 3) RX0 rfl (by decide) rfl (Nat.le_of_ble_eq_true rfl) ?_
  intro p e s m args below meth c A Q ls E hw hl hret
  have hx := E.1
  have hb := E.2.1
  have hl : lv_has ls 3 [(0, .ref a), (1, .int (nI i)), (2, .int (nI j))] := hl
  refine lv_aload_n hx hb dX0_middle_0 rfl (lv_at hl 0 rfl) ?_
  refine lv_ifnonnull (tgt := 8) hx hb dX0_middle_1 (by decide) ?_
  refine lv_aload_n hx hb dX0_middle_8 rfl (lv_at hl 0 rfl) ?_
  refine lv_iload_n hx hb dX0_middle_9 rfl (lv_at hl 1 rfl) ?_
  refine x_cfVl E hw hl.1 (As := [.int (nI i)]) (rest := []) (c_X1_at l G a b n cap i g (by omega) (by omega)) 1 gX0_middle_X1_at rfl rfl rfl (by decide) ⟨Nat.le_of_ble_eq_true rfl, Nat.le_of_ble_eq_true rfl⟩ ⟨Nat.le_of_ble_eq_true rfl, Nat.le_of_ble_eq_true rfl⟩ rfl 0 (ci := 1) (C := RX1) (T := TX1) (N := 2) rfl rfl [0, 1] [] rfl rfl rfl rfl rfl [0, 1] [(a, .inr (1, [.ref b, .int (nI n)])), (b, .inl (cJ G, cap, .inr (.inl (fJ g))))] rfl rfl rfl (Nat.le_of_ble_eq_true rfl) dX0_middle_10 (fun H locs hw => ?_)
  refine lv_aload_n hx hb dX0_middle_13 rfl (lv_at hl 0 rfl) ?_
  refine lv_iload_n hx hb dX0_middle_14 rfl (lv_at hl 2 rfl) ?_
  refine x_cfVl E hw hl.1 (As := [.int (nI j)]) (rest := [.long (lN (g i))]) (c_X1_at l G a b n cap j g (by omega) (by omega)) 1 gX0_middle_X1_at rfl rfl rfl (by decide) ⟨Nat.le_of_ble_eq_true rfl, Nat.le_of_ble_eq_true rfl⟩ ⟨Nat.le_of_ble_eq_true rfl, Nat.le_of_ble_eq_true rfl⟩ rfl 0 (ci := 1) (C := RX1) (T := TX1) (N := 2) rfl rfl [0, 1] [] rfl rfl rfl rfl rfl [0, 1] [(a, .inr (1, [.ref b, .int (nI n)])), (b, .inl (cJ G, cap, .inr (.inl (fJ g))))] rfl rfl rfl (Nat.le_of_ble_eq_true rfl) dX0_middle_15 (fun H locs hw => ?_)
  refine x_ladd E (v := (lN ((g i) + (g j)))) dX0_middle_18 (lN_add _ _) ?_
  refine lv_ldc2 (v := (2)) hx hb E.2.2.2.1 (E.2.2.2.2 _ (List.mem_of_getElem? (i := 1) rfl)) dX0_middle_19 ?_
  refine x_topl (v := lN 2) (by decide) ?_
  refine x_ldiv E (v := (lN (((g i) + (g j)) / 2))) dX0_middle_22 (by decide) (pk_lDiv (by omega) (by omega) (by omega)) ?_
  exact hret (lN (((g i) + (g j)) / 2)) () _ _ _ _ dX0_middle_23 rfl hw

abbrev rm_X0_bring : Room := { frames := 2, cells := 0, slots := 0, locals := 48 }
set_option maxHeartbeats 4000000 in
set_option maxRecDepth 100000 in
theorem c_X0_bring (l : Launch) (G : XG) (o : Nat) (r0 : Nat) (r1 : Nat) (r2 : Nat) (r3 : Nat) (r4 : Nat) (q0 : Nat) (q1 : Nat) (q2 : Nat) (n : Nat) (i : Nat) (j : Nat) (gw : Nat → Nat) (go : Nat → Nat) (gh : Nat → Nat) (hn : n < 23) (hi : i < 23) (hj : j < 23) (h1 : gw i + gw j < 9223372036854775808) (h2 : go i + go j < 9223372036854775808) (h3 : gh i + gh j < 9223372036854775808) : CfV l yX0_bring wsX0_bring rm_X0_bring G [.ref o, .int (nI i), .int (nI j)] [(o, .inr (0, [.ref r0, .ref r1, .ref r2, .ref r3, .ref r4])), (r0, .inr (1, [.ref q0, .int (nI n)])), (q0, .inl (cJ G, 23, .inr (.inl (fJ gw)))), (r1, .inr (1, [.ref q1, .int (nI n)])), (q1, .inl (cJ G, 23, .inr (.inl (fJ go)))), (r2, .inr (1, [.ref q2, .int (nI n)])), (q2, .inl (cJ G, 23, .inr (.inl (fJ gh))))] [(o, .inr (0, [.ref r0, .ref r1, .ref r2, .ref r3, .ref r4])), (r0, .inr (1, [.ref q0, .int (nI (n + 1))])), (q0, .inl (cJ G, 23, .inr (.inl (fJ (mid gw n i j))))), (r1, .inr (1, [.ref q1, .int (nI (n + 1))])), (q1, .inl (cJ G, 23, .inr (.inl (fJ (mid go n i j))))), (r2, .inr (1, [.ref q2, .int (nI (n + 1))])), (q2, .inl (cJ G, 23, .inr (.inl (fJ (midH gh n i j)))))] := by
  refine CtV.go (cc := cX0_bring) (maxL := 3) RX0 rfl (by decide) rfl (Nat.le_of_ble_eq_true rfl) ?_
  intro p e s m args below meth c A Q ls E hw hl hret
  have hx := E.1
  have hb := E.2.1
  have hinX0 : ∀ w ∈ wsX00, w ∈ wsX0_bring := (fun w h => List.mem_cons_of_mem _ (List.mem_append_left _ (List.mem_append_right _ h)))
  have hl : lv_has ls 3 [(0, .ref o), (1, .int (nI i)), (2, .int (nI j))] := hl
  refine lv_aload_n hx hb dX0_bring_0 rfl (lv_at hl 0 rfl) ?_
  refine lv_aload_n hx hb dX0_bring_1 rfl (lv_at hl 0 rfl) ?_
  refine x_get E hw (C := RX0) (T := TX0) (N := 5) hinX0 0 rfl rfl 0 (by decide) rfl (List.mem_of_getElem? (i := 1) rfl) dX0_bring_2 ?_
  refine lv_iload_n hx hb dX0_bring_5 rfl (lv_at hl 1 rfl) ?_
  refine lv_iload_n hx hb dX0_bring_6 rfl (lv_at hl 2 rfl) ?_
  refine x_cfSl E hw hl.1 (As := [.ref r0, .int (nI i), .int (nI j)]) (rest := [.ref o]) (c_X0_middle l G r0 q0 n 23 i j gw (by omega) (by omega) (by omega) (by omega)) 3 gX0_bring_X0_middle rfl rfl rfl (by decide) ⟨Nat.le_of_ble_eq_true rfl, Nat.le_of_ble_eq_true rfl⟩ ⟨Nat.le_of_ble_eq_true rfl, Nat.le_of_ble_eq_true rfl⟩ rfl [1, 2] [0, 3, 4, 5, 6] rfl rfl rfl rfl rfl [0, 5, 6, 1, 2, 3, 4] [(o, .inr (0, [.ref r0, .ref r1, .ref r2, .ref r3, .ref r4])), (r0, .inr (1, [.ref q0, .int (nI n)])), (q0, .inl (cJ G, 23, .inr (.inl (fJ gw)))), (r1, .inr (1, [.ref q1, .int (nI n)])), (q1, .inl (cJ G, 23, .inr (.inl (fJ go)))), (r2, .inr (1, [.ref q2, .int (nI n)])), (q2, .inl (cJ G, 23, .inr (.inl (fJ gh))))] rfl rfl rfl (Nat.le_of_ble_eq_true rfl) dX0_bring_7 (fun H locs hw => ?_)
  refine lv_aload_n hx hb dX0_bring_10 rfl (lv_at hl 0 rfl) ?_
  refine x_get E hw (C := RX0) (T := TX0) (N := 5) hinX0 0 rfl rfl 1 (by decide) rfl (List.mem_of_getElem? (i := 2) rfl) dX0_bring_11 ?_
  refine lv_iload_n hx hb dX0_bring_14 rfl (lv_at hl 1 rfl) ?_
  refine lv_iload_n hx hb dX0_bring_15 rfl (lv_at hl 2 rfl) ?_
  refine x_cfSl E hw hl.1 (As := [.ref r1, .int (nI i), .int (nI j)]) (rest := [.long (lN ((gw i + gw j) / 2)), .ref o]) (c_X0_middle l G r1 q1 n 23 i j go (by omega) (by omega) (by omega) (by omega)) 3 gX0_bring_X0_middle rfl rfl rfl (by decide) ⟨Nat.le_of_ble_eq_true rfl, Nat.le_of_ble_eq_true rfl⟩ ⟨Nat.le_of_ble_eq_true rfl, Nat.le_of_ble_eq_true rfl⟩ rfl [3, 4] [0, 1, 2, 5, 6] rfl rfl rfl rfl rfl [0, 1, 2, 5, 6, 3, 4] [(o, .inr (0, [.ref r0, .ref r1, .ref r2, .ref r3, .ref r4])), (r0, .inr (1, [.ref q0, .int (nI n)])), (q0, .inl (cJ G, 23, .inr (.inl (fJ gw)))), (r1, .inr (1, [.ref q1, .int (nI n)])), (q1, .inl (cJ G, 23, .inr (.inl (fJ go)))), (r2, .inr (1, [.ref q2, .int (nI n)])), (q2, .inl (cJ G, 23, .inr (.inl (fJ gh))))] rfl rfl rfl (Nat.le_of_ble_eq_true rfl) dX0_bring_16 (fun H locs hw => ?_)
  refine lv_aload_n hx hb dX0_bring_19 rfl (lv_at hl 0 rfl) ?_
  refine x_get E hw (C := RX0) (T := TX0) (N := 5) hinX0 0 rfl rfl 2 (by decide) rfl (List.mem_of_getElem? (i := 3) rfl) dX0_bring_20 ?_
  refine lv_iload_n hx hb dX0_bring_23 rfl (lv_at hl 1 rfl) ?_
  refine lv_iload_n hx hb dX0_bring_24 rfl (lv_at hl 2 rfl) ?_
  refine x_cfSl E hw hl.1 (As := [.ref r2, .int (nI i), .int (nI j)]) (rest := [.long (lN ((go i + go j) / 2)), .long (lN ((gw i + gw j) / 2)), .ref o]) (c_X0_middle l G r2 q2 n 23 i j gh (by omega) (by omega) (by omega) (by omega)) 3 gX0_bring_X0_middle rfl rfl rfl (by decide) ⟨Nat.le_of_ble_eq_true rfl, Nat.le_of_ble_eq_true rfl⟩ ⟨Nat.le_of_ble_eq_true rfl, Nat.le_of_ble_eq_true rfl⟩ rfl [5, 6] [0, 1, 2, 3, 4] rfl rfl rfl rfl rfl [0, 1, 2, 3, 4, 5, 6] [(o, .inr (0, [.ref r0, .ref r1, .ref r2, .ref r3, .ref r4])), (r0, .inr (1, [.ref q0, .int (nI n)])), (q0, .inl (cJ G, 23, .inr (.inl (fJ gw)))), (r1, .inr (1, [.ref q1, .int (nI n)])), (q1, .inl (cJ G, 23, .inr (.inl (fJ go)))), (r2, .inr (1, [.ref q2, .int (nI n)])), (q2, .inl (cJ G, 23, .inr (.inl (fJ gh))))] rfl rfl rfl (Nat.le_of_ble_eq_true rfl) dX0_bring_25 (fun H locs hw => ?_)
  refine lv_ldc2 (v := (1048576)) hx hb E.2.2.2.1 (E.2.2.2.2 _ (List.mem_of_getElem? (i := 4) rfl)) dX0_bring_28 ?_
  refine x_topl (v := lN 1048576) (by decide) ?_
  refine x_ladd E (v := (lN (((gh i + gh j) / 2) + 1048576))) dX0_bring_31 (lN_add _ _) ?_
  refine x_cfVv E hw hl.1 (As := [.long (lN ((gw i + gw j) / 2)), .long (lN ((go i + go j) / 2)), .long (lN (((gh i + gh j) / 2) + 1048576))]) (rest := []) (c_X0_addCrease l G o r0 r1 r2 r3 r4 q0 q1 q2 n ((gw i + gw j) / 2) ((go i + go j) / 2) (((gh i + gh j) / 2) + 1048576) gw go gh (by omega)) 3 gX0_bring_X0_addCrease rfl rfl rfl (by decide) ⟨Nat.le_of_ble_eq_true rfl, Nat.le_of_ble_eq_true rfl⟩ ⟨Nat.le_of_ble_eq_true rfl, Nat.le_of_ble_eq_true rfl⟩ rfl 0 (ci := 0) (C := RX0) (T := TX0) (N := 5) rfl rfl [0, 1, 2, 3, 4, 5, 6] [] rfl rfl rfl rfl rfl [0, 1, 2, 3, 4, 5, 6] [(o, .inr (0, [.ref r0, .ref r1, .ref r2, .ref r3, .ref r4])), (r0, .inr (1, [.ref q0, .int (nI (n + 1))])), (q0, .inl (cJ G, 23, .inr (.inl (fJ (va_up gw n ((gw i + gw j) / 2)))))), (r1, .inr (1, [.ref q1, .int (nI (n + 1))])), (q1, .inl (cJ G, 23, .inr (.inl (fJ (va_up go n ((go i + go j) / 2)))))), (r2, .inr (1, [.ref q2, .int (nI (n + 1))])), (q2, .inl (cJ G, 23, .inr (.inl (fJ (va_up gh n (((gh i + gh j) / 2) + 1048576))))))] rfl rfl rfl (Nat.le_of_ble_eq_true rfl) dX0_bring_32 (fun H locs hw => ?_)
  exact hret () _ _ _ _ dX0_bring_35 trivial hw

abbrev rm_X0_unfold : Room := { frames := 2, cells := 0, slots := 0, locals := 41 }
set_option maxHeartbeats 4000000 in
set_option maxRecDepth 100000 in
theorem c_X0_unfold (l : Launch) (G : XG) (o : Nat) (r0 : Nat) (r1 : Nat) (r2 : Nat) (r3 : Nat) (r4 : Nat) (q0 : Nat) (q1 : Nat) (q2 : Nat) (n : Nat) (hn : 1 ≤ n) (hb : n < 2147483648) : CfV l yX0_unfold wsX0_unfold rm_X0_unfold G [.ref o] [(o, .inr (0, [.ref r0, .ref r1, .ref r2, .ref r3, .ref r4])), (r0, .inr (1, [.ref q0, .int (nI n)])), (r1, .inr (1, [.ref q1, .int (nI n)])), (r2, .inr (1, [.ref q2, .int (nI n)]))] [(o, .inr (0, [.ref r0, .ref r1, .ref r2, .ref r3, .ref r4])), (r0, .inr (1, [.ref q0, .int (nI (n - 1))])), (r1, .inr (1, [.ref q1, .int (nI (n - 1))])), (r2, .inr (1, [.ref q2, .int (nI (n - 1))]))] := by
  refine CtV.go (cc := cX0_unfold) (maxL := 1) RX0 rfl (by decide) rfl (Nat.le_of_ble_eq_true rfl) ?_
  intro p e s m args below meth c A Q ls E hw hl hret
  have hx := E.1
  have hb := E.2.1
  have hinX0 : ∀ w ∈ wsX00, w ∈ wsX0_unfold := (fun w h => List.mem_cons_of_mem _ (List.mem_append_left _ (List.mem_append_right _ h)))
  have hl : lv_has ls 1 [(0, .ref o)] := hl
  refine lv_aload_n hx hb dX0_unfold_0 rfl (lv_at hl 0 rfl) ?_
  refine x_get E hw (C := RX0) (T := TX0) (N := 5) hinX0 0 rfl rfl 0 (by decide) rfl (List.mem_of_getElem? (i := 1) rfl) dX0_unfold_1 ?_
  refine x_cfVv E hw hl.1 (As := []) (rest := []) (c_X1_dropLast l G r0 q0 n (by omega) (by omega)) 0 gX0_unfold_X1_dropLast rfl rfl rfl (by decide) ⟨Nat.le_of_ble_eq_true rfl, Nat.le_of_ble_eq_true rfl⟩ ⟨Nat.le_of_ble_eq_true rfl, Nat.le_of_ble_eq_true rfl⟩ rfl 1 (ci := 1) (C := RX1) (T := TX1) (N := 2) rfl rfl [1] [0, 2, 3] rfl rfl rfl rfl rfl [0, 3, 1, 2] [(o, .inr (0, [.ref r0, .ref r1, .ref r2, .ref r3, .ref r4])), (r0, .inr (1, [.ref q0, .int (nI (n - 1))])), (r1, .inr (1, [.ref q1, .int (nI n)])), (r2, .inr (1, [.ref q2, .int (nI n)]))] rfl rfl rfl (Nat.le_of_ble_eq_true rfl) dX0_unfold_4 (fun H locs hw => ?_)
  refine lv_aload_n hx hb dX0_unfold_7 rfl (lv_at hl 0 rfl) ?_
  refine x_get E hw (C := RX0) (T := TX0) (N := 5) hinX0 0 rfl rfl 1 (by decide) rfl (List.mem_of_getElem? (i := 2) rfl) dX0_unfold_8 ?_
  refine x_cfVv E hw hl.1 (As := []) (rest := []) (c_X1_dropLast l G r1 q1 n (by omega) (by omega)) 0 gX0_unfold_X1_dropLast rfl rfl rfl (by decide) ⟨Nat.le_of_ble_eq_true rfl, Nat.le_of_ble_eq_true rfl⟩ ⟨Nat.le_of_ble_eq_true rfl, Nat.le_of_ble_eq_true rfl⟩ rfl 2 (ci := 1) (C := RX1) (T := TX1) (N := 2) rfl rfl [2] [0, 1, 3] rfl rfl rfl rfl rfl [0, 1, 3, 2] [(o, .inr (0, [.ref r0, .ref r1, .ref r2, .ref r3, .ref r4])), (r0, .inr (1, [.ref q0, .int (nI (n - 1))])), (r1, .inr (1, [.ref q1, .int (nI (n - 1))])), (r2, .inr (1, [.ref q2, .int (nI n)]))] rfl rfl rfl (Nat.le_of_ble_eq_true rfl) dX0_unfold_11 (fun H locs hw => ?_)
  refine lv_aload_n hx hb dX0_unfold_14 rfl (lv_at hl 0 rfl) ?_
  refine x_get E hw (C := RX0) (T := TX0) (N := 5) hinX0 0 rfl rfl 2 (by decide) rfl (List.mem_of_getElem? (i := 3) rfl) dX0_unfold_15 ?_
  refine x_cfVv E hw hl.1 (As := []) (rest := []) (c_X1_dropLast l G r2 q2 n (by omega) (by omega)) 0 gX0_unfold_X1_dropLast rfl rfl rfl (by decide) ⟨Nat.le_of_ble_eq_true rfl, Nat.le_of_ble_eq_true rfl⟩ ⟨Nat.le_of_ble_eq_true rfl, Nat.le_of_ble_eq_true rfl⟩ rfl 3 (ci := 1) (C := RX1) (T := TX1) (N := 2) rfl rfl [3] [0, 1, 2] rfl rfl rfl rfl rfl [0, 1, 2, 3] [(o, .inr (0, [.ref r0, .ref r1, .ref r2, .ref r3, .ref r4])), (r0, .inr (1, [.ref q0, .int (nI (n - 1))])), (r1, .inr (1, [.ref q1, .int (nI (n - 1))])), (r2, .inr (1, [.ref q2, .int (nI (n - 1))]))] rfl rfl rfl (Nat.le_of_ble_eq_true rfl) dX0_unfold_18 (fun H locs hw => ?_)
  exact hret () _ _ _ _ dX0_unfold_21 trivial hw

abbrev rm_X0_copy : Room := { frames := 2, cells := 0, slots := 0, locals := 44 }
set_option maxHeartbeats 4000000 in
set_option maxRecDepth 100000 in
theorem c_X0_copy (l : Launch) (G : XG) (o : Nat) (r0 : Nat) (r1 : Nat) (r2 : Nat) (r3 : Nat) (r4 : Nat) (q0 : Nat) (q1 : Nat) (q2 : Nat) (q3 : Nat) (q4 : Nat) (o2 : Nat) (s0 : Nat) (s1 : Nat) (s2 : Nat) (s3 : Nat) (s4 : Nat) (t0 : Nat) (t1 : Nat) (t2 : Nat) (t3 : Nat) (t4 : Nat) (n : Nat) (nl : Nat) (ns : Nat) (n2 : Nat) (nl2 : Nat) (ns2 : Nat) (gw : Nat → Nat) (go : Nat → Nat) (gh : Nat → Nat) (gl : Nat → Nat) (gs : Nat → Nat) (gw2 : Nat → Nat) (go2 : Nat → Nat) (gh2 : Nat → Nat) (gl2 : Nat → Nat) (gs2 : Nat → Nat) (h1 : n2 ≤ 23) (h2 : nl2 ≤ 12) (h3 : ns2 ≤ 8) : CfV l yX0_copy wsX0_copy rm_X0_copy G [.ref o, .ref o2] [(o, .inr (0, [.ref r0, .ref r1, .ref r2, .ref r3, .ref r4])), (r0, .inr (1, [.ref q0, .int (nI n)])), (q0, .inl (cJ G, 23, .inr (.inl (fJ gw)))), (r1, .inr (1, [.ref q1, .int (nI n)])), (q1, .inl (cJ G, 23, .inr (.inl (fJ go)))), (r2, .inr (1, [.ref q2, .int (nI n)])), (q2, .inl (cJ G, 23, .inr (.inl (fJ gh)))), (r3, .inr (1, [.ref q3, .int (nI nl)])), (q3, .inl (cJ G, 12, .inr (.inl (fJ gl)))), (r4, .inr (1, [.ref q4, .int (nI ns)])), (q4, .inl (cJ G, 8, .inr (.inl (fJ gs)))), (o2, .inr (0, [.ref s0, .ref s1, .ref s2, .ref s3, .ref s4])), (s0, .inr (1, [.ref t0, .int (nI n2)])), (t0, .inl (cJ G, 23, .inr (.inl (fJ gw2)))), (s1, .inr (1, [.ref t1, .int (nI n2)])), (t1, .inl (cJ G, 23, .inr (.inl (fJ go2)))), (s2, .inr (1, [.ref t2, .int (nI n2)])), (t2, .inl (cJ G, 23, .inr (.inl (fJ gh2)))), (s3, .inr (1, [.ref t3, .int (nI nl2)])), (t3, .inl (cJ G, 12, .inr (.inl (fJ gl2)))), (s4, .inr (1, [.ref t4, .int (nI ns2)])), (t4, .inl (cJ G, 8, .inr (.inl (fJ gs2))))] [(o, .inr (0, [.ref r0, .ref r1, .ref r2, .ref r3, .ref r4])), (r0, .inr (1, [.ref q0, .int (nI n2)])), (q0, .inl (cJ G, 23, .inr (.inl (fJ (cpN gw2 gw n2))))), (r1, .inr (1, [.ref q1, .int (nI n2)])), (q1, .inl (cJ G, 23, .inr (.inl (fJ (cpN go2 go n2))))), (r2, .inr (1, [.ref q2, .int (nI n2)])), (q2, .inl (cJ G, 23, .inr (.inl (fJ (cpN gh2 gh n2))))), (r3, .inr (1, [.ref q3, .int (nI nl2)])), (q3, .inl (cJ G, 12, .inr (.inl (fJ (cpN gl2 gl nl2))))), (r4, .inr (1, [.ref q4, .int (nI ns2)])), (q4, .inl (cJ G, 8, .inr (.inl (fJ (cpN gs2 gs ns2))))), (o2, .inr (0, [.ref s0, .ref s1, .ref s2, .ref s3, .ref s4])), (s0, .inr (1, [.ref t0, .int (nI n2)])), (t0, .inl (cJ G, 23, .inr (.inl (fJ gw2)))), (s1, .inr (1, [.ref t1, .int (nI n2)])), (t1, .inl (cJ G, 23, .inr (.inl (fJ go2)))), (s2, .inr (1, [.ref t2, .int (nI n2)])), (t2, .inl (cJ G, 23, .inr (.inl (fJ gh2)))), (s3, .inr (1, [.ref t3, .int (nI nl2)])), (t3, .inl (cJ G, 12, .inr (.inl (fJ gl2)))), (s4, .inr (1, [.ref t4, .int (nI ns2)])), (t4, .inl (cJ G, 8, .inr (.inl (fJ gs2))))] := by
  refine CtV.go (cc := cX0_copy) (maxL := 2) RX0 rfl (by decide) rfl (Nat.le_of_ble_eq_true rfl) ?_
  intro p e s m args below meth c A Q ls E hw hl hret
  have hx := E.1
  have hb := E.2.1
  have hinX0 : ∀ w ∈ wsX00, w ∈ wsX0_copy := (fun w h => List.mem_cons_of_mem _ (List.mem_append_left _ (List.mem_append_right _ h)))
  have hl : lv_has ls 2 [(0, .ref o), (1, .ref o2)] := hl
  refine lv_aload_n hx hb dX0_copy_0 rfl (lv_at hl 1 rfl) ?_
  refine lv_ifnonnull (tgt := 5) hx hb dX0_copy_1 (by decide) ?_
  refine lv_aload_n hx hb dX0_copy_5 rfl (lv_at hl 0 rfl) ?_
  refine x_get E hw (C := RX0) (T := TX0) (N := 5) hinX0 0 rfl rfl 0 (by decide) rfl (List.mem_of_getElem? (i := 1) rfl) dX0_copy_6 ?_
  refine lv_aload_n hx hb dX0_copy_9 rfl (lv_at hl 1 rfl) ?_
  refine x_get E hw (C := RX0) (T := TX0) (N := 5) hinX0 11 rfl rfl 0 (by decide) rfl (List.mem_of_getElem? (i := 1) rfl) dX0_copy_10 ?_
  refine x_cfVv E hw hl.1 (As := [.ref s0]) (rest := []) (c_X1_copy l G r0 q0 s0 t0 n n2 23 gw gw2 (by omega) (by omega)) 1 gX0_copy_X1_copy rfl rfl rfl (by decide) ⟨Nat.le_of_ble_eq_true rfl, Nat.le_of_ble_eq_true rfl⟩ ⟨Nat.le_of_ble_eq_true rfl, Nat.le_of_ble_eq_true rfl⟩ rfl 1 (ci := 1) (C := RX1) (T := TX1) (N := 2) rfl rfl [1, 2, 12, 13] [0, 3, 4, 5, 6, 7, 8, 9, 10, 11, 14, 15, 16, 17, 18, 19, 20, 21] rfl rfl rfl rfl rfl [0, 18, 19, 1, 2, 3, 4, 5, 6, 7, 8, 9, 20, 21, 10, 11, 12, 13, 14, 15, 16, 17] [(o, .inr (0, [.ref r0, .ref r1, .ref r2, .ref r3, .ref r4])), (r0, .inr (1, [.ref q0, .int (nI n2)])), (q0, .inl (cJ G, 23, .inr (.inl (fJ (cpN gw2 gw n2))))), (r1, .inr (1, [.ref q1, .int (nI n)])), (q1, .inl (cJ G, 23, .inr (.inl (fJ go)))), (r2, .inr (1, [.ref q2, .int (nI n)])), (q2, .inl (cJ G, 23, .inr (.inl (fJ gh)))), (r3, .inr (1, [.ref q3, .int (nI nl)])), (q3, .inl (cJ G, 12, .inr (.inl (fJ gl)))), (r4, .inr (1, [.ref q4, .int (nI ns)])), (q4, .inl (cJ G, 8, .inr (.inl (fJ gs)))), (o2, .inr (0, [.ref s0, .ref s1, .ref s2, .ref s3, .ref s4])), (s0, .inr (1, [.ref t0, .int (nI n2)])), (t0, .inl (cJ G, 23, .inr (.inl (fJ gw2)))), (s1, .inr (1, [.ref t1, .int (nI n2)])), (t1, .inl (cJ G, 23, .inr (.inl (fJ go2)))), (s2, .inr (1, [.ref t2, .int (nI n2)])), (t2, .inl (cJ G, 23, .inr (.inl (fJ gh2)))), (s3, .inr (1, [.ref t3, .int (nI nl2)])), (t3, .inl (cJ G, 12, .inr (.inl (fJ gl2)))), (s4, .inr (1, [.ref t4, .int (nI ns2)])), (t4, .inl (cJ G, 8, .inr (.inl (fJ gs2))))] rfl rfl rfl (Nat.le_of_ble_eq_true rfl) dX0_copy_13 (fun H locs hw => ?_)
  refine lv_aload_n hx hb dX0_copy_16 rfl (lv_at hl 0 rfl) ?_
  refine x_get E hw (C := RX0) (T := TX0) (N := 5) hinX0 0 rfl rfl 1 (by decide) rfl (List.mem_of_getElem? (i := 2) rfl) dX0_copy_17 ?_
  refine lv_aload_n hx hb dX0_copy_20 rfl (lv_at hl 1 rfl) ?_
  refine x_get E hw (C := RX0) (T := TX0) (N := 5) hinX0 11 rfl rfl 1 (by decide) rfl (List.mem_of_getElem? (i := 2) rfl) dX0_copy_21 ?_
  refine x_cfVv E hw hl.1 (As := [.ref s1]) (rest := []) (c_X1_copy l G r1 q1 s1 t1 n n2 23 go go2 (by omega) (by omega)) 1 gX0_copy_X1_copy rfl rfl rfl (by decide) ⟨Nat.le_of_ble_eq_true rfl, Nat.le_of_ble_eq_true rfl⟩ ⟨Nat.le_of_ble_eq_true rfl, Nat.le_of_ble_eq_true rfl⟩ rfl 3 (ci := 1) (C := RX1) (T := TX1) (N := 2) rfl rfl [3, 4, 14, 15] [0, 1, 2, 5, 6, 7, 8, 9, 10, 11, 12, 13, 16, 17, 18, 19, 20, 21] rfl rfl rfl rfl rfl [0, 1, 2, 18, 19, 3, 4, 5, 6, 7, 8, 9, 10, 11, 20, 21, 12, 13, 14, 15, 16, 17] [(o, .inr (0, [.ref r0, .ref r1, .ref r2, .ref r3, .ref r4])), (r0, .inr (1, [.ref q0, .int (nI n2)])), (q0, .inl (cJ G, 23, .inr (.inl (fJ (cpN gw2 gw n2))))), (r1, .inr (1, [.ref q1, .int (nI n2)])), (q1, .inl (cJ G, 23, .inr (.inl (fJ (cpN go2 go n2))))), (r2, .inr (1, [.ref q2, .int (nI n)])), (q2, .inl (cJ G, 23, .inr (.inl (fJ gh)))), (r3, .inr (1, [.ref q3, .int (nI nl)])), (q3, .inl (cJ G, 12, .inr (.inl (fJ gl)))), (r4, .inr (1, [.ref q4, .int (nI ns)])), (q4, .inl (cJ G, 8, .inr (.inl (fJ gs)))), (o2, .inr (0, [.ref s0, .ref s1, .ref s2, .ref s3, .ref s4])), (s0, .inr (1, [.ref t0, .int (nI n2)])), (t0, .inl (cJ G, 23, .inr (.inl (fJ gw2)))), (s1, .inr (1, [.ref t1, .int (nI n2)])), (t1, .inl (cJ G, 23, .inr (.inl (fJ go2)))), (s2, .inr (1, [.ref t2, .int (nI n2)])), (t2, .inl (cJ G, 23, .inr (.inl (fJ gh2)))), (s3, .inr (1, [.ref t3, .int (nI nl2)])), (t3, .inl (cJ G, 12, .inr (.inl (fJ gl2)))), (s4, .inr (1, [.ref t4, .int (nI ns2)])), (t4, .inl (cJ G, 8, .inr (.inl (fJ gs2))))] rfl rfl rfl (Nat.le_of_ble_eq_true rfl) dX0_copy_24 (fun H locs hw => ?_)
  refine lv_aload_n hx hb dX0_copy_27 rfl (lv_at hl 0 rfl) ?_
  refine x_get E hw (C := RX0) (T := TX0) (N := 5) hinX0 0 rfl rfl 2 (by decide) rfl (List.mem_of_getElem? (i := 3) rfl) dX0_copy_28 ?_
  refine lv_aload_n hx hb dX0_copy_31 rfl (lv_at hl 1 rfl) ?_
  refine x_get E hw (C := RX0) (T := TX0) (N := 5) hinX0 11 rfl rfl 2 (by decide) rfl (List.mem_of_getElem? (i := 3) rfl) dX0_copy_32 ?_
  refine x_cfVv E hw hl.1 (As := [.ref s2]) (rest := []) (c_X1_copy l G r2 q2 s2 t2 n n2 23 gh gh2 (by omega) (by omega)) 1 gX0_copy_X1_copy rfl rfl rfl (by decide) ⟨Nat.le_of_ble_eq_true rfl, Nat.le_of_ble_eq_true rfl⟩ ⟨Nat.le_of_ble_eq_true rfl, Nat.le_of_ble_eq_true rfl⟩ rfl 5 (ci := 1) (C := RX1) (T := TX1) (N := 2) rfl rfl [5, 6, 16, 17] [0, 1, 2, 3, 4, 7, 8, 9, 10, 11, 12, 13, 14, 15, 18, 19, 20, 21] rfl rfl rfl rfl rfl [0, 1, 2, 3, 4, 18, 19, 5, 6, 7, 8, 9, 10, 11, 12, 13, 20, 21, 14, 15, 16, 17] [(o, .inr (0, [.ref r0, .ref r1, .ref r2, .ref r3, .ref r4])), (r0, .inr (1, [.ref q0, .int (nI n2)])), (q0, .inl (cJ G, 23, .inr (.inl (fJ (cpN gw2 gw n2))))), (r1, .inr (1, [.ref q1, .int (nI n2)])), (q1, .inl (cJ G, 23, .inr (.inl (fJ (cpN go2 go n2))))), (r2, .inr (1, [.ref q2, .int (nI n2)])), (q2, .inl (cJ G, 23, .inr (.inl (fJ (cpN gh2 gh n2))))), (r3, .inr (1, [.ref q3, .int (nI nl)])), (q3, .inl (cJ G, 12, .inr (.inl (fJ gl)))), (r4, .inr (1, [.ref q4, .int (nI ns)])), (q4, .inl (cJ G, 8, .inr (.inl (fJ gs)))), (o2, .inr (0, [.ref s0, .ref s1, .ref s2, .ref s3, .ref s4])), (s0, .inr (1, [.ref t0, .int (nI n2)])), (t0, .inl (cJ G, 23, .inr (.inl (fJ gw2)))), (s1, .inr (1, [.ref t1, .int (nI n2)])), (t1, .inl (cJ G, 23, .inr (.inl (fJ go2)))), (s2, .inr (1, [.ref t2, .int (nI n2)])), (t2, .inl (cJ G, 23, .inr (.inl (fJ gh2)))), (s3, .inr (1, [.ref t3, .int (nI nl2)])), (t3, .inl (cJ G, 12, .inr (.inl (fJ gl2)))), (s4, .inr (1, [.ref t4, .int (nI ns2)])), (t4, .inl (cJ G, 8, .inr (.inl (fJ gs2))))] rfl rfl rfl (Nat.le_of_ble_eq_true rfl) dX0_copy_35 (fun H locs hw => ?_)
  refine lv_aload_n hx hb dX0_copy_38 rfl (lv_at hl 0 rfl) ?_
  refine x_get E hw (C := RX0) (T := TX0) (N := 5) hinX0 0 rfl rfl 3 (by decide) rfl (List.mem_of_getElem? (i := 4) rfl) dX0_copy_39 ?_
  refine lv_aload_n hx hb dX0_copy_42 rfl (lv_at hl 1 rfl) ?_
  refine x_get E hw (C := RX0) (T := TX0) (N := 5) hinX0 11 rfl rfl 3 (by decide) rfl (List.mem_of_getElem? (i := 4) rfl) dX0_copy_43 ?_
  refine x_cfVv E hw hl.1 (As := [.ref s3]) (rest := []) (c_X1_copy l G r3 q3 s3 t3 nl nl2 12 gl gl2 (by omega) (by omega)) 1 gX0_copy_X1_copy rfl rfl rfl (by decide) ⟨Nat.le_of_ble_eq_true rfl, Nat.le_of_ble_eq_true rfl⟩ ⟨Nat.le_of_ble_eq_true rfl, Nat.le_of_ble_eq_true rfl⟩ rfl 7 (ci := 1) (C := RX1) (T := TX1) (N := 2) rfl rfl [7, 8, 18, 19] [0, 1, 2, 3, 4, 5, 6, 9, 10, 11, 12, 13, 14, 15, 16, 17, 20, 21] rfl rfl rfl rfl rfl [0, 1, 2, 3, 4, 5, 6, 18, 19, 7, 8, 9, 10, 11, 12, 13, 14, 15, 20, 21, 16, 17] [(o, .inr (0, [.ref r0, .ref r1, .ref r2, .ref r3, .ref r4])), (r0, .inr (1, [.ref q0, .int (nI n2)])), (q0, .inl (cJ G, 23, .inr (.inl (fJ (cpN gw2 gw n2))))), (r1, .inr (1, [.ref q1, .int (nI n2)])), (q1, .inl (cJ G, 23, .inr (.inl (fJ (cpN go2 go n2))))), (r2, .inr (1, [.ref q2, .int (nI n2)])), (q2, .inl (cJ G, 23, .inr (.inl (fJ (cpN gh2 gh n2))))), (r3, .inr (1, [.ref q3, .int (nI nl2)])), (q3, .inl (cJ G, 12, .inr (.inl (fJ (cpN gl2 gl nl2))))), (r4, .inr (1, [.ref q4, .int (nI ns)])), (q4, .inl (cJ G, 8, .inr (.inl (fJ gs)))), (o2, .inr (0, [.ref s0, .ref s1, .ref s2, .ref s3, .ref s4])), (s0, .inr (1, [.ref t0, .int (nI n2)])), (t0, .inl (cJ G, 23, .inr (.inl (fJ gw2)))), (s1, .inr (1, [.ref t1, .int (nI n2)])), (t1, .inl (cJ G, 23, .inr (.inl (fJ go2)))), (s2, .inr (1, [.ref t2, .int (nI n2)])), (t2, .inl (cJ G, 23, .inr (.inl (fJ gh2)))), (s3, .inr (1, [.ref t3, .int (nI nl2)])), (t3, .inl (cJ G, 12, .inr (.inl (fJ gl2)))), (s4, .inr (1, [.ref t4, .int (nI ns2)])), (t4, .inl (cJ G, 8, .inr (.inl (fJ gs2))))] rfl rfl rfl (Nat.le_of_ble_eq_true rfl) dX0_copy_46 (fun H locs hw => ?_)
  refine lv_aload_n hx hb dX0_copy_49 rfl (lv_at hl 0 rfl) ?_
  refine x_get E hw (C := RX0) (T := TX0) (N := 5) hinX0 0 rfl rfl 4 (by decide) rfl (List.mem_of_getElem? (i := 5) rfl) dX0_copy_50 ?_
  refine lv_aload_n hx hb dX0_copy_53 rfl (lv_at hl 1 rfl) ?_
  refine x_get E hw (C := RX0) (T := TX0) (N := 5) hinX0 11 rfl rfl 4 (by decide) rfl (List.mem_of_getElem? (i := 5) rfl) dX0_copy_54 ?_
  refine x_cfVv E hw hl.1 (As := [.ref s4]) (rest := []) (c_X1_copy l G r4 q4 s4 t4 ns ns2 8 gs gs2 (by omega) (by omega)) 1 gX0_copy_X1_copy rfl rfl rfl (by decide) ⟨Nat.le_of_ble_eq_true rfl, Nat.le_of_ble_eq_true rfl⟩ ⟨Nat.le_of_ble_eq_true rfl, Nat.le_of_ble_eq_true rfl⟩ rfl 9 (ci := 1) (C := RX1) (T := TX1) (N := 2) rfl rfl [9, 10, 20, 21] [0, 1, 2, 3, 4, 5, 6, 7, 8, 11, 12, 13, 14, 15, 16, 17, 18, 19] rfl rfl rfl rfl rfl [0, 1, 2, 3, 4, 5, 6, 7, 8, 18, 19, 9, 10, 11, 12, 13, 14, 15, 16, 17, 20, 21] [(o, .inr (0, [.ref r0, .ref r1, .ref r2, .ref r3, .ref r4])), (r0, .inr (1, [.ref q0, .int (nI n2)])), (q0, .inl (cJ G, 23, .inr (.inl (fJ (cpN gw2 gw n2))))), (r1, .inr (1, [.ref q1, .int (nI n2)])), (q1, .inl (cJ G, 23, .inr (.inl (fJ (cpN go2 go n2))))), (r2, .inr (1, [.ref q2, .int (nI n2)])), (q2, .inl (cJ G, 23, .inr (.inl (fJ (cpN gh2 gh n2))))), (r3, .inr (1, [.ref q3, .int (nI nl2)])), (q3, .inl (cJ G, 12, .inr (.inl (fJ (cpN gl2 gl nl2))))), (r4, .inr (1, [.ref q4, .int (nI ns2)])), (q4, .inl (cJ G, 8, .inr (.inl (fJ (cpN gs2 gs ns2))))), (o2, .inr (0, [.ref s0, .ref s1, .ref s2, .ref s3, .ref s4])), (s0, .inr (1, [.ref t0, .int (nI n2)])), (t0, .inl (cJ G, 23, .inr (.inl (fJ gw2)))), (s1, .inr (1, [.ref t1, .int (nI n2)])), (t1, .inl (cJ G, 23, .inr (.inl (fJ go2)))), (s2, .inr (1, [.ref t2, .int (nI n2)])), (t2, .inl (cJ G, 23, .inr (.inl (fJ gh2)))), (s3, .inr (1, [.ref t3, .int (nI nl2)])), (t3, .inl (cJ G, 12, .inr (.inl (fJ gl2)))), (s4, .inr (1, [.ref t4, .int (nI ns2)])), (t4, .inl (cJ G, 8, .inr (.inl (fJ gs2))))] rfl rfl rfl (Nat.le_of_ble_eq_true rfl) dX0_copy_57 (fun H locs hw => ?_)
  exact hret () _ _ _ _ dX0_copy_60 trivial hw
end
section
abbrev rm_X3_isCrease : Room := { frames := 2, cells := 0, slots := 0, locals := 40 }
set_option maxHeartbeats 4000000 in
set_option maxRecDepth 100000 in
theorem c_X3_isCrease (l : Launch) (G : XG) (x : Nat) (tx : Nat) (o : Nat) (o1 : Nat) (o2 : Nat) (pa : Nat) (pt : Nat) (off : Nat) (ha : Nat) (tr : Int64) (r0 : Nat) (r1 : Nat) (r2 : Nat) (r3 : Nat) (r4 : Nat) (q0 : Nat) (n : Nat) (k : Int32) (hn : n ≤ 23) : CfI l yX3_isCrease wsX3_isCrease rm_X3_isCrease G [.ref x, .int k] [(x, .inr (3, [.ref tx, .ref o, .ref o1, .ref o2, .int (nI pa), .int (nI pt), .int (nI off), .int (nI ha), .long tr])), (o, .inr (0, [.ref r0, .ref r1, .ref r2, .ref r3, .ref r4])), (r0, .inr (1, [.ref q0, .int (nI n)]))] (if 0 ≤ k.toInt ∧ k.toInt < (n : Int) then 1 else 0) [(x, .inr (3, [.ref tx, .ref o, .ref o1, .ref o2, .int (nI pa), .int (nI pt), .int (nI off), .int (nI ha), .long tr])), (o, .inr (0, [.ref r0, .ref r1, .ref r2, .ref r3, .ref r4])), (r0, .inr (1, [.ref q0, .int (nI n)]))] := by
  refine CtI.go (cc := cX3_isCrease) (maxL := 2) RX3 rfl (by decide) rfl (Nat.le_of_ble_eq_true rfl) ?_
  intro p e s m args below meth c A Q ls E hw hl hret
  have hx := E.1
  have hb := E.2.1
  have hinX3 : ∀ w ∈ wsX30, w ∈ wsX3_isCrease := (fun w h => List.mem_cons_of_mem _ (List.mem_append_left _ (List.mem_append_left _ (List.mem_append_right _ h))))
  have hl : lv_has ls 2 [(0, .ref x), (1, .int k)] := hl
  refine lv_iload_n hx hb dX3_isCrease_0 rfl (lv_at hl 1 rfl) ?_
  refine x_if_lt E rfl (tgt := 19) dX3_isCrease_1 (by decide) (fun c_1 => ?_) (fun c_1 => ?_)
  · refine lv_iconst (v := (nI 0)) hx hb dX3_isCrease_19 (by decide) ?_
    exact hret (nI 0) () _ _ _ _ dX3_isCrease_20 rfl ((if_neg (by omega)).symm) hw
  · refine lv_iload_n hx hb dX3_isCrease_4 rfl (lv_at hl 1 rfl) ?_
    refine lv_aload_n hx hb dX3_isCrease_5 rfl (lv_at hl 0 rfl) ?_
    refine x_get E hw (C := RX3) (T := TX3) (N := 9) hinX3 0 rfl rfl 1 (by decide) rfl (List.mem_of_getElem? (i := 1) rfl) dX3_isCrease_6 ?_
    refine x_cfVi E hw hl.1 (As := []) (rest := [.int k]) (c_X0_creases l G o r0 r1 r2 r3 r4 q0 n) 0 gX3_isCrease_X0_creases rfl rfl rfl (by decide) ⟨Nat.le_of_ble_eq_true rfl, Nat.le_of_ble_eq_true rfl⟩ ⟨Nat.le_of_ble_eq_true rfl, Nat.le_of_ble_eq_true rfl⟩ rfl 1 (ci := 0) (C := RX0) (T := TX0) (N := 5) rfl rfl [1, 2] [0] rfl rfl rfl rfl rfl [0, 1, 2] [(x, .inr (3, [.ref tx, .ref o, .ref o1, .ref o2, .int (nI pa), .int (nI pt), .int (nI off), .int (nI ha), .long tr])), (o, .inr (0, [.ref r0, .ref r1, .ref r2, .ref r3, .ref r4])), (r0, .inr (1, [.ref q0, .int (nI n)]))] rfl rfl rfl (Nat.le_of_ble_eq_true rfl) dX3_isCrease_9 (fun H locs hw => ?_)
    refine x_icmp_ge E rfl (nI_toI (show n < 2147483648 by omega)) (tgt := 19) dX3_isCrease_12 (by decide) (fun c_2 => ?_) (fun c_2 => ?_)
    · refine lv_iconst (v := (nI 0)) hx hb dX3_isCrease_19 (by decide) ?_
      exact hret (nI 0) () _ _ _ _ dX3_isCrease_20 rfl ((if_neg (by omega)).symm) hw
    · refine lv_iconst (v := (nI 1)) hx hb dX3_isCrease_15 (by decide) ?_
      refine lv_goto (tgt := 20) hx hb dX3_isCrease_16 (by decide) ?_
      exact hret (nI 1) () _ _ _ _ dX3_isCrease_20 rfl ((if_pos (by omega)).symm) hw

abbrev rm_X3_isFolded : Room := { frames := 2, cells := 0, slots := 0, locals := 40 }
set_option maxHeartbeats 4000000 in
set_option maxRecDepth 100000 in
theorem c_X3_isFolded (l : Launch) (G : XG) (x : Nat) (tx : Nat) (o : Nat) (o1 : Nat) (o2 : Nat) (pa : Nat) (pt : Nat) (off : Nat) (ha : Nat) (tr : Int64) (r0 : Nat) (r1 : Nat) (r2 : Nat) (r3 : Nat) (r4 : Nat) (q0 : Nat) (n : Nat) (hn : n ≤ 23) : CfI l yX3_isFolded wsX3_isFolded rm_X3_isFolded G [.ref x] [(x, .inr (3, [.ref tx, .ref o, .ref o1, .ref o2, .int (nI pa), .int (nI pt), .int (nI off), .int (nI ha), .long tr])), (o, .inr (0, [.ref r0, .ref r1, .ref r2, .ref r3, .ref r4])), (r0, .inr (1, [.ref q0, .int (nI n)]))] (if 23 ≤ n then 1 else 0) [(x, .inr (3, [.ref tx, .ref o, .ref o1, .ref o2, .int (nI pa), .int (nI pt), .int (nI off), .int (nI ha), .long tr])), (o, .inr (0, [.ref r0, .ref r1, .ref r2, .ref r3, .ref r4])), (r0, .inr (1, [.ref q0, .int (nI n)]))] := by
  refine CtI.go (cc := cX3_isFolded) (maxL := 1) RX3 rfl (by decide) rfl (Nat.le_of_ble_eq_true rfl) ?_
  intro p e s m args below meth c A Q ls E hw hl hret
  have hx := E.1
  have hb := E.2.1
  have hinX3 : ∀ w ∈ wsX30, w ∈ wsX3_isFolded := (fun w h => List.mem_cons_of_mem _ (List.mem_append_left _ (List.mem_append_left _ (List.mem_append_right _ h))))
  have hl : lv_has ls 1 [(0, .ref x)] := hl
  refine lv_aload_n hx hb dX3_isFolded_0 rfl (lv_at hl 0 rfl) ?_
  refine x_get E hw (C := RX3) (T := TX3) (N := 9) hinX3 0 rfl rfl 1 (by decide) rfl (List.mem_of_getElem? (i := 1) rfl) dX3_isFolded_1 ?_
  refine x_cfVi E hw hl.1 (As := []) (rest := []) (c_X0_creases l G o r0 r1 r2 r3 r4 q0 n) 0 gX3_isFolded_X0_creases rfl rfl rfl (by decide) ⟨Nat.le_of_ble_eq_true rfl, Nat.le_of_ble_eq_true rfl⟩ ⟨Nat.le_of_ble_eq_true rfl, Nat.le_of_ble_eq_true rfl⟩ rfl 1 (ci := 0) (C := RX0) (T := TX0) (N := 5) rfl rfl [1, 2] [0] rfl rfl rfl rfl rfl [0, 1, 2] [(x, .inr (3, [.ref tx, .ref o, .ref o1, .ref o2, .int (nI pa), .int (nI pt), .int (nI off), .int (nI ha), .long tr])), (o, .inr (0, [.ref r0, .ref r1, .ref r2, .ref r3, .ref r4])), (r0, .inr (1, [.ref q0, .int (nI n)]))] rfl rfl rfl (Nat.le_of_ble_eq_true rfl) dX3_isFolded_4 (fun H locs hw => ?_)
  refine lv_bipush (v := (nI 23)) hx hb dX3_isFolded_7 (by decide) ?_
  refine x_icmp_lt E (nI_toI (show n < 2147483648 by omega)) (nI_toI (by decide)) (tgt := 16) dX3_isFolded_9 (by decide) (fun c_1 => ?_) (fun c_1 => ?_)
  · refine lv_iconst (v := (nI 0)) hx hb dX3_isFolded_16 (by decide) ?_
    exact hret (nI 0) () _ _ _ _ dX3_isFolded_17 rfl ((if_neg (by omega)).symm) hw
  · refine lv_iconst (v := (nI 1)) hx hb dX3_isFolded_12 (by decide) ?_
    refine lv_goto (tgt := 17) hx hb dX3_isFolded_13 (by decide) ?_
    exact hret (nI 1) () _ _ _ _ dX3_isFolded_17 rfl ((if_pos (by omega)).symm) hw

abbrev rm_X3_latest : Room := { frames := 2, cells := 0, slots := 0, locals := 40 }
set_option maxHeartbeats 4000000 in
set_option maxRecDepth 100000 in
theorem c_X3_latest (l : Launch) (G : XG) (x : Nat) (tx : Nat) (o : Nat) (o1 : Nat) (o2 : Nat) (pa : Nat) (pt : Nat) (off : Nat) (ha : Nat) (tr : Int64) (r0 : Nat) (r1 : Nat) (r2 : Nat) (r3 : Nat) (r4 : Nat) (q0 : Nat) (n : Nat) (hn : 1 ≤ n) (hn2 : n ≤ 23) : CfI l yX3_latest wsX3_latest rm_X3_latest G [.ref x] [(x, .inr (3, [.ref tx, .ref o, .ref o1, .ref o2, .int (nI pa), .int (nI pt), .int (nI off), .int (nI ha), .long tr])), (o, .inr (0, [.ref r0, .ref r1, .ref r2, .ref r3, .ref r4])), (r0, .inr (1, [.ref q0, .int (nI n)]))] (nI (n - 1)) [(x, .inr (3, [.ref tx, .ref o, .ref o1, .ref o2, .int (nI pa), .int (nI pt), .int (nI off), .int (nI ha), .long tr])), (o, .inr (0, [.ref r0, .ref r1, .ref r2, .ref r3, .ref r4])), (r0, .inr (1, [.ref q0, .int (nI n)]))] := by
  refine CtI.go (cc := cX3_latest) (maxL := 1) RX3 rfl (by decide) rfl (Nat.le_of_ble_eq_true rfl) ?_
  intro p e s m args below meth c A Q ls E hw hl hret
  have hx := E.1
  have hb := E.2.1
  have hinX3 : ∀ w ∈ wsX30, w ∈ wsX3_latest := (fun w h => List.mem_cons_of_mem _ (List.mem_append_left _ (List.mem_append_left _ (List.mem_append_right _ h))))
  have hl : lv_has ls 1 [(0, .ref x)] := hl
  refine lv_aload_n hx hb dX3_latest_0 rfl (lv_at hl 0 rfl) ?_
  refine x_get E hw (C := RX3) (T := TX3) (N := 9) hinX3 0 rfl rfl 1 (by decide) rfl (List.mem_of_getElem? (i := 1) rfl) dX3_latest_1 ?_
  refine x_cfVi E hw hl.1 (As := []) (rest := []) (c_X0_creases l G o r0 r1 r2 r3 r4 q0 n) 0 gX3_latest_X0_creases rfl rfl rfl (by decide) ⟨Nat.le_of_ble_eq_true rfl, Nat.le_of_ble_eq_true rfl⟩ ⟨Nat.le_of_ble_eq_true rfl, Nat.le_of_ble_eq_true rfl⟩ rfl 1 (ci := 0) (C := RX0) (T := TX0) (N := 5) rfl rfl [1, 2] [0] rfl rfl rfl rfl rfl [0, 1, 2] [(x, .inr (3, [.ref tx, .ref o, .ref o1, .ref o2, .int (nI pa), .int (nI pt), .int (nI off), .int (nI ha), .long tr])), (o, .inr (0, [.ref r0, .ref r1, .ref r2, .ref r3, .ref r4])), (r0, .inr (1, [.ref q0, .int (nI n)]))] rfl rfl rfl (Nat.le_of_ble_eq_true rfl) dX3_latest_4 (fun H locs hw => ?_)
  refine lv_iconst (v := (nI 1)) hx hb dX3_latest_7 (by decide) ?_
  refine x_isub E (v := (nI (n - 1))) dX3_latest_8 (pk_sub (by omega)) ?_
  exact hret (nI (n - 1)) () _ _ _ _ dX3_latest_9 rfl rfl hw

abbrev rm_X3_partOfY : Room := { frames := 1, cells := 0, slots := 0, locals := 21 }
set_option maxHeartbeats 4000000 in
set_option maxRecDepth 100000 in
theorem c_X3_partOfY (l : Launch) (G : XG) (x : Nat) (tx : Nat) (o : Nat) (o1 : Nat) (o2 : Nat) (pa : Nat) (pt : Nat) (off : Nat) (ha : Nat) (tr : Int64) (r0 : Nat) (r1 : Nat) (r2 : Nat) (r3 : Nat) (r4 : Nat) (q0 : Nat) (n : Nat) (j : Nat) (gw : Nat → Nat) (hj : j < 23) (hb : gw j < 1073741824) (hm : gw j % 1048576 = 0) : CfI l yX3_partOf wsX3_partOf rm_X3_partOfY G [.ref x, .int (nI j)] [(x, .inr (3, [.ref tx, .ref o, .ref o1, .ref o2, .int (nI pa), .int (nI pt), .int (nI off), .int (nI ha), .long tr])), (o, .inr (0, [.ref r0, .ref r1, .ref r2, .ref r3, .ref r4])), (r0, .inr (1, [.ref q0, .int (nI n)])), (q0, .inl (cJ G, 23, .inr (.inl (fJ gw))))] (nI (gw j / 1048576)) [(x, .inr (3, [.ref tx, .ref o, .ref o1, .ref o2, .int (nI pa), .int (nI pt), .int (nI off), .int (nI ha), .long tr])), (o, .inr (0, [.ref r0, .ref r1, .ref r2, .ref r3, .ref r4])), (r0, .inr (1, [.ref q0, .int (nI n)])), (q0, .inl (cJ G, 23, .inr (.inl (fJ gw))))] := by
  refine CtI.go (cc := cX3_partOf) (maxL := 4) RX3 rfl (by decide) rfl (Nat.le_of_ble_eq_true rfl) ?_
  intro p e s m args below meth c A Q ls E hw hl hret
  have hx := E.1
  have hb := E.2.1
  have hinX0 : ∀ w ∈ wsX00, w ∈ wsX3_partOf := (fun w h => List.mem_cons_of_mem _ (List.mem_append_left _ (List.mem_append_right _ h)))
  have hinX3 : ∀ w ∈ wsX30, w ∈ wsX3_partOf := (fun w h => List.mem_cons_of_mem _ (List.mem_append_left _ (List.mem_append_left _ (List.mem_append_right _ h))))
  have hl : lv_has ls 4 [(0, .ref x), (1, .int (nI j))] := hl
  refine lv_aload_n hx hb dX3_partOf_0 rfl (lv_at hl 0 rfl) ?_
  refine x_get E hw (C := RX3) (T := TX3) (N := 9) hinX3 0 rfl rfl 1 (by decide) rfl (List.mem_of_getElem? (i := 1) rfl) dX3_partOf_1 ?_
  refine x_getN E hw (C := RX0) (T := TX0) (N := 5) hinX0 1 rfl rfl 0 (by decide) rfl (List.mem_of_getElem? (i := 8) rfl) dX3_partOf_4 ?_
  refine lv_iload_n hx hb dX3_partOf_7 rfl (lv_at hl 1 rfl) ?_
  refine x_cfVl E hw hl.1 (As := [.int (nI j)]) (rest := []) (c_X1_at l G r0 q0 n 23 j gw (by omega) (by omega)) 1 gX3_partOf_X1_at rfl rfl rfl (by decide) ⟨Nat.le_of_ble_eq_true rfl, Nat.le_of_ble_eq_true rfl⟩ ⟨Nat.le_of_ble_eq_true rfl, Nat.le_of_ble_eq_true rfl⟩ rfl 2 (ci := 1) (C := RX1) (T := TX1) (N := 2) rfl rfl [2, 3] [0, 1] rfl rfl rfl rfl rfl [0, 1, 2, 3] [(x, .inr (3, [.ref tx, .ref o, .ref o1, .ref o2, .int (nI pa), .int (nI pt), .int (nI off), .int (nI ha), .long tr])), (o, .inr (0, [.ref r0, .ref r1, .ref r2, .ref r3, .ref r4])), (r0, .inr (1, [.ref q0, .int (nI n)])), (q0, .inl (cJ G, 23, .inr (.inl (fJ gw))))] rfl rfl rfl (Nat.le_of_ble_eq_true rfl) dX3_partOf_8 (fun H locs hw => ?_)
  refine lv_lstore_n (lv' := [(2, .long (lN (gw j))), (0, .ref x), (1, .int (nI j))]) hx hb dX3_partOf_11 rfl hl (by decide) rfl (fun ls hl => ?_)
  refine lv_lload_n hx hb dX3_partOf_12 rfl (lv_at hl 0 rfl) ?_
  refine lv_ldc2 (v := (1048576)) hx hb E.2.2.2.1 (E.2.2.2.2 _ (List.mem_of_getElem? (i := 2) rfl)) dX3_partOf_13 ?_
  refine x_topl (v := lN 1048576) (by decide) ?_
  refine x_lrem E (v := (lN ((gw j) % 1048576))) dX3_partOf_16 (by decide) (pk_lRem (by omega) (by omega) (by omega)) ?_
  refine lv_lconst (v := (lN 0)) hx hb dX3_partOf_17 (by decide) ?_
  refine x_lc_ne E (lN_toI (show (gw j) % 1048576 < 9223372036854775808 by omega)) (lN_toI (by decide)) (tgt := 31) dX3_partOf_18 dX3_partOf_19 (by decide) (fun c_1 => ?_) (fun c_1 => ?_)
  · exfalso; omega
  · refine lv_lload_n hx hb dX3_partOf_22 rfl (lv_at hl 0 rfl) ?_
    refine lv_ldc2 (v := (1048576)) hx hb E.2.2.2.1 (E.2.2.2.2 _ (List.mem_of_getElem? (i := 2) rfl)) dX3_partOf_23 ?_
    refine x_topl (v := lN 1048576) (by decide) ?_
    refine x_ldiv E (v := (lN ((gw j) / 1048576))) dX3_partOf_26 (by decide) (pk_lDiv (by omega) (by omega) (by omega)) ?_
    refine lv_l2i (v := (nI ((gw j) / 1048576))) hx hb dX3_partOf_27 (lN_i _) ?_
    refine lv_goto (tgt := 33) hx hb dX3_partOf_28 (by decide) ?_
    exact hret (nI ((gw j) / 1048576)) () _ _ _ _ dX3_partOf_33 rfl rfl hw

abbrev rm_X3_partOfN : Room := { frames := 1, cells := 0, slots := 0, locals := 21 }
set_option maxHeartbeats 4000000 in
set_option maxRecDepth 100000 in
theorem c_X3_partOfN (l : Launch) (G : XG) (x : Nat) (tx : Nat) (o : Nat) (o1 : Nat) (o2 : Nat) (pa : Nat) (pt : Nat) (off : Nat) (ha : Nat) (tr : Int64) (r0 : Nat) (r1 : Nat) (r2 : Nat) (r3 : Nat) (r4 : Nat) (q0 : Nat) (n : Nat) (j : Nat) (gw : Nat → Nat) (hj : j < 23) (hb : gw j < 1073741824) (hm : ¬ gw j % 1048576 = 0) : CfI l yX3_partOf wsX3_partOf rm_X3_partOfN G [.ref x, .int (nI j)] [(x, .inr (3, [.ref tx, .ref o, .ref o1, .ref o2, .int (nI pa), .int (nI pt), .int (nI off), .int (nI ha), .long tr])), (o, .inr (0, [.ref r0, .ref r1, .ref r2, .ref r3, .ref r4])), (r0, .inr (1, [.ref q0, .int (nI n)])), (q0, .inl (cJ G, 23, .inr (.inl (fJ gw))))] (-9) [(x, .inr (3, [.ref tx, .ref o, .ref o1, .ref o2, .int (nI pa), .int (nI pt), .int (nI off), .int (nI ha), .long tr])), (o, .inr (0, [.ref r0, .ref r1, .ref r2, .ref r3, .ref r4])), (r0, .inr (1, [.ref q0, .int (nI n)])), (q0, .inl (cJ G, 23, .inr (.inl (fJ gw))))] := by
  refine CtI.go (cc := cX3_partOf) (maxL := 4) RX3 rfl (by decide) rfl (Nat.le_of_ble_eq_true rfl) ?_
  intro p e s m args below meth c A Q ls E hw hl hret
  have hx := E.1
  have hb := E.2.1
  have hinX0 : ∀ w ∈ wsX00, w ∈ wsX3_partOf := (fun w h => List.mem_cons_of_mem _ (List.mem_append_left _ (List.mem_append_right _ h)))
  have hinX3 : ∀ w ∈ wsX30, w ∈ wsX3_partOf := (fun w h => List.mem_cons_of_mem _ (List.mem_append_left _ (List.mem_append_left _ (List.mem_append_right _ h))))
  have hl : lv_has ls 4 [(0, .ref x), (1, .int (nI j))] := hl
  refine lv_aload_n hx hb dX3_partOf_0 rfl (lv_at hl 0 rfl) ?_
  refine x_get E hw (C := RX3) (T := TX3) (N := 9) hinX3 0 rfl rfl 1 (by decide) rfl (List.mem_of_getElem? (i := 1) rfl) dX3_partOf_1 ?_
  refine x_getN E hw (C := RX0) (T := TX0) (N := 5) hinX0 1 rfl rfl 0 (by decide) rfl (List.mem_of_getElem? (i := 8) rfl) dX3_partOf_4 ?_
  refine lv_iload_n hx hb dX3_partOf_7 rfl (lv_at hl 1 rfl) ?_
  refine x_cfVl E hw hl.1 (As := [.int (nI j)]) (rest := []) (c_X1_at l G r0 q0 n 23 j gw (by omega) (by omega)) 1 gX3_partOf_X1_at rfl rfl rfl (by decide) ⟨Nat.le_of_ble_eq_true rfl, Nat.le_of_ble_eq_true rfl⟩ ⟨Nat.le_of_ble_eq_true rfl, Nat.le_of_ble_eq_true rfl⟩ rfl 2 (ci := 1) (C := RX1) (T := TX1) (N := 2) rfl rfl [2, 3] [0, 1] rfl rfl rfl rfl rfl [0, 1, 2, 3] [(x, .inr (3, [.ref tx, .ref o, .ref o1, .ref o2, .int (nI pa), .int (nI pt), .int (nI off), .int (nI ha), .long tr])), (o, .inr (0, [.ref r0, .ref r1, .ref r2, .ref r3, .ref r4])), (r0, .inr (1, [.ref q0, .int (nI n)])), (q0, .inl (cJ G, 23, .inr (.inl (fJ gw))))] rfl rfl rfl (Nat.le_of_ble_eq_true rfl) dX3_partOf_8 (fun H locs hw => ?_)
  refine lv_lstore_n (lv' := [(2, .long (lN (gw j))), (0, .ref x), (1, .int (nI j))]) hx hb dX3_partOf_11 rfl hl (by decide) rfl (fun ls hl => ?_)
  refine lv_lload_n hx hb dX3_partOf_12 rfl (lv_at hl 0 rfl) ?_
  refine lv_ldc2 (v := (1048576)) hx hb E.2.2.2.1 (E.2.2.2.2 _ (List.mem_of_getElem? (i := 2) rfl)) dX3_partOf_13 ?_
  refine x_topl (v := lN 1048576) (by decide) ?_
  refine x_lrem E (v := (lN ((gw j) % 1048576))) dX3_partOf_16 (by decide) (pk_lRem (by omega) (by omega) (by omega)) ?_
  refine lv_lconst (v := (lN 0)) hx hb dX3_partOf_17 (by decide) ?_
  refine x_lc_ne E (lN_toI (show (gw j) % 1048576 < 9223372036854775808 by omega)) (lN_toI (by decide)) (tgt := 31) dX3_partOf_18 dX3_partOf_19 (by decide) (fun c_1 => ?_) (fun c_1 => ?_)
  · refine lv_bipush (v := (-9)) hx hb dX3_partOf_31 (by decide) ?_
    exact hret (-9) () _ _ _ _ dX3_partOf_33 rfl rfl hw
  · exfalso; omega

abbrev rm_X3_isInner : Room := { frames := 0, cells := 0, slots := 0, locals := 0 }
set_option maxHeartbeats 4000000 in
set_option maxRecDepth 100000 in
theorem c_X3_isInner (l : Launch) (G : XG) (x : Nat) (tx : Nat) (o : Nat) (o1 : Nat) (o2 : Nat) (pa : Nat) (pt : Nat) (off : Nat) (ha : Nat) (tr : Int64) (j : Int32) (hpa : pa ≤ 63) : CfI l yX3_isInner wsX3_isInner rm_X3_isInner G [.ref x, .int j] [(x, .inr (3, [.ref tx, .ref o, .ref o1, .ref o2, .int (nI pa), .int (nI pt), .int (nI off), .int (nI ha), .long tr]))] (if 1 ≤ j.toInt ∧ j.toInt < (pa : Int) then 1 else 0) [(x, .inr (3, [.ref tx, .ref o, .ref o1, .ref o2, .int (nI pa), .int (nI pt), .int (nI off), .int (nI ha), .long tr]))] := by
  refine CtI.go (cc := cX3_isInner) (maxL := 2) RX3 rfl (by decide) rfl (Nat.le_of_ble_eq_true rfl) ?_
  intro p e s m args below meth c A Q ls E hw hl hret
  have hx := E.1
  have hb := E.2.1
  have hinX3 : ∀ w ∈ wsX30, w ∈ wsX3_isInner := (fun w h => List.mem_cons_of_mem _ (List.mem_append_right _ h))
  have hl : lv_has ls 2 [(0, .ref x), (1, .int j)] := hl
  refine lv_iload_n hx hb dX3_isInner_0 rfl (lv_at hl 1 rfl) ?_
  refine lv_iconst (v := (nI 1)) hx hb dX3_isInner_1 (by decide) ?_
  refine x_icmp_lt E rfl (nI_toI (by decide)) (tgt := 17) dX3_isInner_2 (by decide) (fun c_1 => ?_) (fun c_1 => ?_)
  · refine lv_iconst (v := (nI 0)) hx hb dX3_isInner_17 (by decide) ?_
    exact hret (nI 0) () _ _ _ _ dX3_isInner_18 rfl ((if_neg (by omega)).symm) hw
  · refine lv_iload_n hx hb dX3_isInner_5 rfl (lv_at hl 1 rfl) ?_
    refine lv_aload_n hx hb dX3_isInner_6 rfl (lv_at hl 0 rfl) ?_
    refine x_get E hw (C := RX3) (T := TX3) (N := 9) hinX3 0 rfl rfl 4 (by decide) rfl (List.mem_of_getElem? (i := 1) rfl) dX3_isInner_7 ?_
    refine x_icmp_ge E rfl (nI_toI (show pa < 2147483648 by omega)) (tgt := 17) dX3_isInner_10 (by decide) (fun c_2 => ?_) (fun c_2 => ?_)
    · refine lv_iconst (v := (nI 0)) hx hb dX3_isInner_17 (by decide) ?_
      exact hret (nI 0) () _ _ _ _ dX3_isInner_18 rfl ((if_neg (by omega)).symm) hw
    · refine lv_iconst (v := (nI 1)) hx hb dX3_isInner_13 (by decide) ?_
      refine lv_goto (tgt := 18) hx hb dX3_isInner_14 (by decide) ?_
      exact hret (nI 1) () _ _ _ _ dX3_isInner_18 rfl ((if_pos (by omega)).symm) hw

abbrev rm_X3_isInnerN : Room := { frames := 0, cells := 0, slots := 0, locals := 0 }
set_option maxHeartbeats 4000000 in
set_option maxRecDepth 100000 in
theorem c_X3_isInnerN (l : Launch) (G : XG) (x : Nat) (tx : Nat) (o : Nat) (o1 : Nat) (o2 : Nat) (pa : Nat) (pt : Nat) (off : Nat) (ha : Nat) (tr : Int64) (j : Nat) (hpa : pa ≤ 63) (hj : j < 2147483648) : CfI l yX3_isInner wsX3_isInner rm_X3_isInnerN G [.ref x, .int (nI j)] [(x, .inr (3, [.ref tx, .ref o, .ref o1, .ref o2, .int (nI pa), .int (nI pt), .int (nI off), .int (nI ha), .long tr]))] (if 1 ≤ j ∧ j < pa then 1 else 0) [(x, .inr (3, [.ref tx, .ref o, .ref o1, .ref o2, .int (nI pa), .int (nI pt), .int (nI off), .int (nI ha), .long tr]))] := by
  refine CtI.go (cc := cX3_isInner) (maxL := 2) RX3 rfl (by decide) rfl (Nat.le_of_ble_eq_true rfl) ?_
  intro p e s m args below meth c A Q ls E hw hl hret
  have hx := E.1
  have hb := E.2.1
  have hinX3 : ∀ w ∈ wsX30, w ∈ wsX3_isInner := (fun w h => List.mem_cons_of_mem _ (List.mem_append_right _ h))
  have hl : lv_has ls 2 [(0, .ref x), (1, .int (nI j))] := hl
  refine lv_iload_n hx hb dX3_isInner_0 rfl (lv_at hl 1 rfl) ?_
  refine lv_iconst (v := (nI 1)) hx hb dX3_isInner_1 (by decide) ?_
  refine x_icmp_lt E (nI_toI (show j < 2147483648 by omega)) (nI_toI (by decide)) (tgt := 17) dX3_isInner_2 (by decide) (fun c_1 => ?_) (fun c_1 => ?_)
  · refine lv_iconst (v := (nI 0)) hx hb dX3_isInner_17 (by decide) ?_
    exact hret (nI 0) () _ _ _ _ dX3_isInner_18 rfl ((if_neg (by omega)).symm) hw
  · refine lv_iload_n hx hb dX3_isInner_5 rfl (lv_at hl 1 rfl) ?_
    refine lv_aload_n hx hb dX3_isInner_6 rfl (lv_at hl 0 rfl) ?_
    refine x_get E hw (C := RX3) (T := TX3) (N := 9) hinX3 0 rfl rfl 4 (by decide) rfl (List.mem_of_getElem? (i := 1) rfl) dX3_isInner_7 ?_
    refine x_icmp_ge E (nI_toI (show j < 2147483648 by omega)) (nI_toI (show pa < 2147483648 by omega)) (tgt := 17) dX3_isInner_10 (by decide) (fun c_2 => ?_) (fun c_2 => ?_)
    · refine lv_iconst (v := (nI 0)) hx hb dX3_isInner_17 (by decide) ?_
      exact hret (nI 0) () _ _ _ _ dX3_isInner_18 rfl ((if_neg (by omega)).symm) hw
    · refine lv_iconst (v := (nI 1)) hx hb dX3_isInner_13 (by decide) ?_
      refine lv_goto (tgt := 18) hx hb dX3_isInner_14 (by decide) ?_
      exact hret (nI 1) () _ _ _ _ dX3_isInner_18 rfl ((if_pos (by omega)).symm) hw

abbrev rm_X3_sideAt : Room := { frames := 0, cells := 0, slots := 0, locals := 0 }
set_option maxHeartbeats 4000000 in
set_option maxRecDepth 100000 in
theorem c_X3_sideAt (l : Launch) (G : XG) (j : Nat) (hj : j < 2147483648) : CfI l yX3_sideAt wsX3_sideAt rm_X3_sideAt G [.int (nI j)] [] (nI (j % 2)) [] := by
  refine CtI.go (cc := cX3_sideAt) (maxL := 1) RX3 rfl (by decide) rfl (Nat.le_of_ble_eq_true rfl) ?_
  intro p e s m args below meth c A Q ls E hw hl hret
  have hx := E.1
  have hb := E.2.1
  have hl : lv_has ls 1 [(0, .int (nI j))] := hl
  refine lv_iload_n hx hb dX3_sideAt_0 rfl (lv_at hl 0 rfl) ?_
  refine lv_iconst (v := (nI 2)) hx hb dX3_sideAt_1 (by decide) ?_
  refine x_irem E (v := (nI (j % 2))) dX3_sideAt_2 (by decide) (pk_rem (by omega) (by omega) (by omega)) ?_
  refine x_if_ne E (nI_toI (show j % 2 < 2147483648 by omega)) (tgt := 10) dX3_sideAt_3 (by decide) (fun c_1 => ?_) (fun c_1 => ?_)
  · refine lv_iconst (v := (nI 1)) hx hb dX3_sideAt_10 (by decide) ?_
    exact hret (nI 1) () _ _ _ _ dX3_sideAt_11 rfl (by rw [show j % 2 = 1 by omega]) hw
  · refine lv_iconst (v := (nI 0)) hx hb dX3_sideAt_6 (by decide) ?_
    refine lv_goto (tgt := 11) hx hb dX3_sideAt_7 (by decide) ?_
    exact hret (nI 0) () _ _ _ _ dX3_sideAt_11 rfl (by rw [show j % 2 = 0 by omega]) hw

abbrev rm_X3_ruled : Room := { frames := 1, cells := 0, slots := 0, locals := 20 }
set_option maxHeartbeats 4000000 in
set_option maxRecDepth 100000 in
theorem c_X3_ruled (l : Launch) (G : XG) (pa : Nat) (j : Nat) (hj : j + pa < 2147483648) : CfI l yX3_ruled wsX3_ruled rm_X3_ruled G [.int (nI pa), .int (nI j)] [] (nI (gz pa j)) [] := by
  refine CtI.go (cc := cX3_ruled) (maxL := 2) RX3 rfl (by decide) rfl (Nat.le_of_ble_eq_true rfl) ?_
  intro p e s m args below meth c A Q ls E hw hl hret
  have hx := E.1
  have hb := E.2.1
  have hl : lv_has ls 2 [(0, .int (nI pa)), (1, .int (nI j))] := hl
  refine lv_iload_n hx hb dX3_ruled_0 rfl (lv_at hl 1 rfl) ?_
  refine x_cfSi E hw hl.1 (As := [.int (nI j)]) (rest := []) (c_X3_sideAt l G j (by omega)) 1 gX3_ruled_X3_sideAt rfl rfl rfl (by decide) ⟨Nat.le_of_ble_eq_true rfl, Nat.le_of_ble_eq_true rfl⟩ ⟨Nat.le_of_ble_eq_true rfl, Nat.le_of_ble_eq_true rfl⟩ rfl [] [] rfl rfl rfl rfl rfl [] [] rfl rfl rfl (Nat.le_of_ble_eq_true rfl) dX3_ruled_1 (fun H locs hw => ?_)
  refine x_if_ne E (nI_toI (show j % 2 < 2147483648 by omega)) (tgt := 11) dX3_ruled_4 (by decide) (fun c_1 => ?_) (fun c_1 => ?_)
  · refine lv_iload_n hx hb dX3_ruled_11 rfl (lv_at hl 1 rfl) ?_
    refine lv_iload_n hx hb dX3_ruled_12 rfl (lv_at hl 0 rfl) ?_
    refine x_iadd E (v := (nI (j + pa))) dX3_ruled_13 (nI_add _ _) ?_
    refine lv_iconst (v := (nI 2)) hx hb dX3_ruled_14 (by decide) ?_
    refine x_idiv E (v := (nI ((j + pa) / 2))) dX3_ruled_15 (by decide) (pk_div (by omega) (by omega) (by omega)) ?_
    exact hret (nI ((j + pa) / 2)) () _ _ _ _ dX3_ruled_16 rfl (by rw [gz_odd (by omega)]) hw
  · refine lv_iload_n hx hb dX3_ruled_7 rfl (lv_at hl 1 rfl) ?_
    refine lv_goto (tgt := 14) hx hb dX3_ruled_8 (by decide) ?_
    refine lv_iconst (v := (nI 2)) hx hb dX3_ruled_14 (by decide) ?_
    refine x_idiv E (v := (nI (j / 2))) dX3_ruled_15 (by decide) (pk_div (by omega) (by omega) (by omega)) ?_
    exact hret (nI (j / 2)) () _ _ _ _ dX3_ruled_16 rfl (by rw [gz_even (by omega)]) hw

abbrev rm_X3_foldsAround : Room := { frames := 2, cells := 0, slots := 0, locals := 41 }
set_option maxHeartbeats 4000000 in
set_option maxRecDepth 100000 in
theorem c_X3_foldsAround (l : Launch) (G : XG) (x : Nat) (tx : Nat) (o : Nat) (o1 : Nat) (o2 : Nat) (pa : Nat) (pt : Nat) (off : Nat) (ha : Nat) (tr : Int64) (j : Nat) (hpa : pa ≤ 63) (hj : j < pa) : CfI l yX3_foldsAround wsX3_foldsAround rm_X3_foldsAround G [.ref x, .int (nI j)] [(x, .inr (3, [.ref tx, .ref o, .ref o1, .ref o2, .int (nI pa), .int (nI pt), .int (nI off), .int (nI ha), .long tr]))] (nI (faX pa j)) [(x, .inr (3, [.ref tx, .ref o, .ref o1, .ref o2, .int (nI pa), .int (nI pt), .int (nI off), .int (nI ha), .long tr]))] := by
  refine CtI.go (cc := cX3_foldsAround) (maxL := 4) RX3 rfl (by decide) rfl (Nat.le_of_ble_eq_true rfl) ?_
  intro p e s m args below meth c A Q ls E hw hl hret
  have hx := E.1
  have hb := E.2.1
  have hinX3 : ∀ w ∈ wsX30, w ∈ wsX3_foldsAround := (fun w h => List.mem_cons_of_mem _ (List.mem_append_right _ h))
  have hl : lv_has ls 4 [(0, .ref x), (1, .int (nI j))] := hl
  refine lv_aload_n hx hb dX3_foldsAround_0 rfl (lv_at hl 0 rfl) ?_
  refine x_get E hw (C := RX3) (T := TX3) (N := 9) hinX3 0 rfl rfl 4 (by decide) rfl (List.mem_of_getElem? (i := 1) rfl) dX3_foldsAround_1 ?_
  refine lv_iload_n hx hb dX3_foldsAround_4 rfl (lv_at hl 1 rfl) ?_
  refine x_cfSi E hw hl.1 (As := [.int (nI pa), .int (nI j)]) (rest := []) (c_X3_ruled l G pa j (by omega)) 2 gX3_foldsAround_X3_ruled rfl rfl rfl (by decide) ⟨Nat.le_of_ble_eq_true rfl, Nat.le_of_ble_eq_true rfl⟩ ⟨Nat.le_of_ble_eq_true rfl, Nat.le_of_ble_eq_true rfl⟩ rfl [] [0] rfl rfl rfl rfl rfl [0] [(x, .inr (3, [.ref tx, .ref o, .ref o1, .ref o2, .int (nI pa), .int (nI pt), .int (nI off), .int (nI ha), .long tr]))] rfl rfl rfl (Nat.le_of_ble_eq_true rfl) dX3_foldsAround_5 (fun H locs hw => ?_)
  have hgz := gz_lt hj
  refine lv_istore_n (lv' := [(2, .int (nI (gz pa j))), (0, .ref x), (1, .int (nI j))]) hx hb dX3_foldsAround_8 rfl hl (by decide) rfl (fun ls hl => ?_)
  refine lv_iconst (v := (nI 1)) hx hb dX3_foldsAround_9 (by decide) ?_
  refine lv_istore_n (lv' := [(3, .int (nI 1)), (2, .int (nI (gz pa j))), (0, .ref x), (1, .int (nI j))]) hx hb dX3_foldsAround_10 rfl hl (by decide) rfl (fun ls hl => ?_)
  have loop_11 : ∀ (n : Nat) (y : Nat) (k : Nat), k ≤ 63 → y < pa → faL pa j (63 - k) y k = faX pa j → 63 - k < n → ∀ (H : Heap) (locs : List Loc) (ls : Array Slot), Wd G s A [(x, .inr (3, [.ref tx, .ref o, .ref o1, .ref o2, .int (nI pa), .int (nI pt), .int (nI off), .int (nI ha), .long tr]))] H locs → lv_has ls 4 [(0, .ref x), (1, .int (nI j)), (2, .int (nI y)), (3, .int (nI k))] → W p l e rm_X3_foldsAround s m args below meth c H locs 0 0 Q (F0 m 11 ls []) := by
    intro n
    induction n with
    | zero =>
      intro y k hk hy hinv hmu
      exact absurd hmu (Nat.not_lt_zero _)
    | succ n ih_11 =>
      intro y k hk hy hinv hmu_11 H locs ls hw hl
      refine lv_iload_n hx hb dX3_foldsAround_11 rfl (lv_at hl 2 rfl) ?_
      refine lv_iload_n hx hb dX3_foldsAround_12 rfl (lv_at hl 1 rfl) ?_
      refine x_icmp_eq E (nI_toI (show y < 2147483648 by omega)) (nI_toI (show j < 2147483648 by omega)) (tgt := 37) dX3_foldsAround_13 (by decide) (fun c_1 => ?_) (fun c_1 => ?_)
      · obtain rfl : y = j := by omega
        refine lv_iload_n hx hb dX3_foldsAround_37 rfl (lv_at hl 3 rfl) ?_
        exact hret (nI k) () _ _ _ _ dX3_foldsAround_38 rfl (by rw [← hinv, faL_hit]) hw
      · have hne : ¬ y = j := by omega
        refine lv_iload_n hx hb dX3_foldsAround_16 rfl (lv_at hl 3 rfl) ?_
        refine lv_bipush (v := (nI 63)) hx hb dX3_foldsAround_17 (by decide) ?_
        refine x_icmp_ge E (nI_toI (show k < 2147483648 by omega)) (nI_toI (by decide)) (tgt := 37) dX3_foldsAround_19 (by decide) (fun c_2 => ?_) (fun c_2 => ?_)
        · refine lv_iload_n hx hb dX3_foldsAround_37 rfl (lv_at hl 3 rfl) ?_
          exact hret (nI k) () _ _ _ _ dX3_foldsAround_38 rfl (by rw [← hinv, show 63 - k = 0 by omega, faL]) hw
        · refine lv_aload_n hx hb dX3_foldsAround_22 rfl (lv_at hl 0 rfl) ?_
          refine x_get E hw (C := RX3) (T := TX3) (N := 9) hinX3 0 rfl rfl 4 (by decide) rfl (List.mem_of_getElem? (i := 1) rfl) dX3_foldsAround_23 ?_
          refine lv_iload_n hx hb dX3_foldsAround_26 rfl (lv_at hl 2 rfl) ?_
          refine x_cfSi E hw hl.1 (As := [.int (nI pa), .int (nI y)]) (rest := []) (c_X3_ruled l G pa y (by omega)) 2 gX3_foldsAround_X3_ruled rfl rfl rfl (by decide) ⟨Nat.le_of_ble_eq_true rfl, Nat.le_of_ble_eq_true rfl⟩ ⟨Nat.le_of_ble_eq_true rfl, Nat.le_of_ble_eq_true rfl⟩ rfl [] [0] rfl rfl rfl rfl rfl [0] [(x, .inr (3, [.ref tx, .ref o, .ref o1, .ref o2, .int (nI pa), .int (nI pt), .int (nI off), .int (nI ha), .long tr]))] rfl rfl rfl (Nat.le_of_ble_eq_true rfl) dX3_foldsAround_27 (fun H locs hw => ?_)
          refine lv_istore_n (lv' := [(2, .int (nI (gz pa y))), (0, .ref x), (1, .int (nI j)), (3, .int (nI k))]) hx hb dX3_foldsAround_30 rfl hl (by decide) rfl (fun ls hl => ?_)
          refine lv_iinc (v := (nI (k + 1))) (lv' := [(3, .int (nI (k + 1))), (2, .int (nI (gz pa y))), (0, .ref x), (1, .int (nI j))]) hx hb dX3_foldsAround_31 hl (k := 3) rfl (x_inc1 _) (by decide) rfl (fun ls hl => ?_)
          refine lv_goto (tgt := 11) hx hb dX3_foldsAround_34 (by decide) ?_
          exact ih_11 (gz pa y) (k + 1) (by omega) (gz_lt hy) ((faL_step (by omega) hne).symm.trans hinv) (by omega) _ _ _ hw (lv_sub hl [2, 3, 1, 0] rfl)
  exact loop_11 (63 - 1 + 1) (gz pa j) 1 (by omega) (by omega) rfl (Nat.lt_succ_self _) _ _ _ hw (lv_sub hl [2, 3, 1, 0] rfl)

abbrev rm_X3_bit : Room := { frames := 0, cells := 0, slots := 0, locals := 0 }
set_option maxHeartbeats 4000000 in
set_option maxRecDepth 100000 in
theorem c_X3_bit (l : Launch) (G : XG) (j : Nat) (hj : j < 64) : CfL l yX3_bit wsX3_bit rm_X3_bit G [.int (nI j)] [] (lN (2 ^ j)) [] := by
  refine CtL.go (cc := cX3_bit) (maxL := 1) RX3 rfl (by decide) rfl (Nat.le_of_ble_eq_true rfl) ?_
  intro p e s m args below meth c A Q ls E hw hl hret
  have hx := E.1
  have hb := E.2.1
  have hl : lv_has ls 1 [(0, .int (nI j))] := hl
  refine lv_lconst (v := (lN 1)) hx hb dX3_bit_0 (by decide) ?_
  refine lv_iload_n hx hb dX3_bit_1 rfl (lv_at hl 0 rfl) ?_
  refine lv_lshl (v := (lN (2 ^ j))) hx hb dX3_bit_2 (by rw [wb_shl 1 hj, Nat.one_mul]) ?_
  exact hret (lN (2 ^ j)) () _ _ _ _ dX3_bit_3 rfl hw

abbrev rm_X3_shared : Room := { frames := 0, cells := 0, slots := 0, locals := 0 }
set_option maxHeartbeats 4000000 in
set_option maxRecDepth 100000 in
theorem c_X3_shared (l : Launch) (G : XG) (u : Nat) (w : Nat) (hu : u < 1152921504606846976) (hw0 : w < 1073741824) : CfL l yX3_shared wsX3_shared rm_X3_shared G [.long (lN u), .long (lN w)] [] (lN (Nat.gcd u w)) [] := by
  refine CtL.go (cc := cX3_shared) (maxL := 11) RX3 rfl (by decide) rfl (Nat.le_of_ble_eq_true rfl) ?_
  intro p e s m args below meth c A Q ls E hw hl hret
  have hx := E.1
  have hb := E.2.1
  have hl : lv_has ls 11 [(0, .long (lN u)), (2, .long (lN w))] := hl
  refine lv_lload_n hx hb dX3_shared_0 rfl (lv_at hl 0 rfl) ?_
  refine lv_lstore (lv' := [(4, .long (lN u)), (0, .long (lN u)), (2, .long (lN w))]) hx hb dX3_shared_1 hl (by decide) rfl (fun ls hl => ?_)
  refine lv_lload_n hx hb dX3_shared_3 rfl (lv_at hl 2 rfl) ?_
  refine lv_lstore (lv' := [(6, .long (lN w)), (4, .long (lN u)), (0, .long (lN u)), (2, .long (lN w))]) hx hb dX3_shared_4 hl (by decide) rfl (fun ls hl => ?_)
  refine lv_iconst (v := (nI 0)) hx hb dX3_shared_6 (by decide) ?_
  refine lv_istore (lv' := [(8, .int (nI 0)), (6, .long (lN w)), (4, .long (lN u)), (0, .long (lN u)), (2, .long (lN w))]) hx hb dX3_shared_7 hl (by decide) rfl (fun ls hl => ?_)
  have loop_9 : ∀ (n : Nat) (y : Nat) (z : Nat) (k : Nat), k ≤ 100 → y < 1152921504606846976 → z < 1073741824 → (k = 0 ∨ z < y) → y * z * 2 ^ k < 2 ^ 100 → (k = 0 → y * z < 2 ^ 90) → Nat.gcd y z = Nat.gcd u w → 100 - k < n → ∀ (H : Heap) (locs : List Loc) (ls : Array Slot), Wd G s A [] H locs → lv_has ls 11 [(4, .long (lN y)), (6, .long (lN z)), (8, .int (nI k))] → W p l e rm_X3_shared s m args below meth c H locs 0 0 Q (F0 m 9 ls []) := by
    intro n
    induction n with
    | zero =>
      intro y z k hk hyb hzb hord hprod h00 hg hmu
      exact absurd hmu (Nat.not_lt_zero _)
    | succ n ih_9 =>
      intro y z k hk hyb hzb hord hprod h00 hg hmu_9 H locs ls hw hl
      refine lv_iload hx hb dX3_shared_9 (lv_at hl 2 rfl) ?_
      refine lv_bipush (v := (nI 100)) hx hb dX3_shared_11 (by decide) ?_
      refine x_icmp_ge E (nI_toI (show k < 2147483648 by omega)) (nI_toI (by decide)) (tgt := 44) dX3_shared_13 (by decide) (fun c_1 => ?_) (fun c_1 => ?_)
      · refine lv_lload hx hb dX3_shared_44 (lv_at hl 0 rfl) ?_
        exact hret (lN y) () _ _ _ _ dX3_shared_46 (by rw [← hg, show z = 0 from eu_end2 (by omega) hord hprod, Nat.gcd_zero_right]) hw
      · refine lv_lload hx hb dX3_shared_16 (lv_at hl 1 rfl) ?_
        refine lv_lconst (v := (lN 0)) hx hb dX3_shared_18 (by decide) ?_
        refine x_lc_eq E (lN_toI (show z < 9223372036854775808 by omega)) (lN_toI (by decide)) (tgt := 44) dX3_shared_19 dX3_shared_20 (by decide) (fun c_2 => ?_) (fun c_2 => ?_)
        · refine lv_lload hx hb dX3_shared_44 (lv_at hl 0 rfl) ?_
          exact hret (lN y) () _ _ _ _ dX3_shared_46 (by rw [← hg, show z = 0 by omega, Nat.gcd_zero_right]) hw
        · have hz0 : 0 < z := by omega
          refine lv_lload hx hb dX3_shared_23 (lv_at hl 0 rfl) ?_
          have hmod := Nat.mod_lt y (show z > 0 by omega)
          refine lv_lload hx hb dX3_shared_25 (lv_at hl 1 rfl) ?_
          refine x_lrem E (v := (lN (y % z))) dX3_shared_27 (lN_ne0 (by omega) (by omega)) (pk_lRem (by omega) (by omega) (by omega)) ?_
          refine lv_lstore (lv' := [(9, .long (lN (y % z))), (4, .long (lN y)), (6, .long (lN z)), (8, .int (nI k))]) hx hb dX3_shared_28 hl (by decide) rfl (fun ls hl => ?_)
          refine lv_lload hx hb dX3_shared_30 (lv_at hl 2 rfl) ?_
          refine lv_lstore (lv' := [(4, .long (lN z)), (9, .long (lN (y % z))), (6, .long (lN z)), (8, .int (nI k))]) hx hb dX3_shared_32 hl (by decide) rfl (fun ls hl => ?_)
          refine lv_lload hx hb dX3_shared_34 (lv_at hl 1 rfl) ?_
          refine lv_lstore (lv' := [(6, .long (lN (y % z))), (4, .long (lN z)), (9, .long (lN (y % z))), (8, .int (nI k))]) hx hb dX3_shared_36 hl (by decide) rfl (fun ls hl => ?_)
          refine lv_iinc (v := (nI (k + 1))) (lv' := [(8, .int (nI (k + 1))), (6, .long (lN (y % z))), (4, .long (lN z)), (9, .long (lN (y % z)))]) hx hb dX3_shared_38 hl (k := 3) rfl (x_inc1 _) (by decide) rfl (fun ls hl => ?_)
          refine lv_goto (tgt := 9) hx hb dX3_shared_41 (by decide) ?_
          exact ih_9 z (y % z) (k + 1) (by omega) (by omega) (by omega) (Or.inr hmod) (eu_step hz0 hord hprod h00) (fun h => absurd h (Nat.succ_ne_zero _)) ((eu_gcd y z).trans hg) (by omega) _ _ _ hw (lv_sub hl [2, 1, 0] rfl)
  have hpr0 : u * w < 2 ^ 90 := Nat.lt_of_lt_of_le (Nat.mul_lt_mul_of_lt_of_lt hu hw0) (by decide)
  have hprod0 : u * w * 2 ^ 0 < 2 ^ 100 := by rw [Nat.pow_zero, Nat.mul_one]; exact Nat.lt_trans hpr0 (by decide)
  exact loop_9 (100 - 0 + 1) u w 0 (by omega) (by omega) (by omega) (by omega) (hprod0) (fun _ => hpr0) rfl (Nat.lt_succ_self _) _ _ _ hw (lv_sub hl [2, 1, 0] rfl)

abbrev rm_X3_leastUpper : Room := { frames := 1, cells := 0, slots := 0, locals := 30 }
set_option maxHeartbeats 4000000 in
set_option maxRecDepth 100000 in
theorem c_X3_leastUpper (l : Launch) (G : XG) (u : Nat) (w : Nat) (hu : u < 1152921504606846976) (hw0 : w < 1073741824) (hwp : 0 < w) : CfL l yX3_leastUpper wsX3_leastUpper rm_X3_leastUpper G [.long (lN u), .long (lN w)] [] (lN (u / Nat.gcd u w)) [] := by
  have hgp : 0 < Nat.gcd u w := Nat.gcd_pos_of_pos_right _ hwp
  have hgl : Nat.gcd u w ≤ w := Nat.gcd_le_right _ hwp
  refine CtL.go (cc := cX3_leastUpper) (maxL := 6) RX3 rfl (by decide) rfl (Nat.le_of_ble_eq_true rfl) ?_
  intro p e s m args below meth c A Q ls E hw hl hret
  have hx := E.1
  have hb := E.2.1
  have hl : lv_has ls 6 [(0, .long (lN u)), (2, .long (lN w))] := hl
  refine lv_lload_n hx hb dX3_leastUpper_0 rfl (lv_at hl 0 rfl) ?_
  refine lv_lload_n hx hb dX3_leastUpper_1 rfl (lv_at hl 1 rfl) ?_
  refine x_cfSl E hw hl.1 (As := [.long (lN u), .long (lN w)]) (rest := []) (c_X3_shared l G u w (by omega) (by omega)) 2 gX3_leastUpper_X3_shared rfl rfl rfl (by decide) ⟨Nat.le_of_ble_eq_true rfl, Nat.le_of_ble_eq_true rfl⟩ ⟨Nat.le_of_ble_eq_true rfl, Nat.le_of_ble_eq_true rfl⟩ rfl [] [] rfl rfl rfl rfl rfl [] [] rfl rfl rfl (Nat.le_of_ble_eq_true rfl) dX3_leastUpper_2 (fun H locs hw => ?_)
  refine lv_lstore (lv' := [(4, .long (lN (Nat.gcd u w))), (0, .long (lN u)), (2, .long (lN w))]) hx hb dX3_leastUpper_5 hl (by decide) rfl (fun ls hl => ?_)
  refine lv_lload hx hb dX3_leastUpper_7 (lv_at hl 0 rfl) ?_
  refine lv_lconst (v := (lN 0)) hx hb dX3_leastUpper_9 (by decide) ?_
  refine x_lc_ne E (lN_toI (show Nat.gcd u w < 9223372036854775808 by omega)) (lN_toI (by decide)) (tgt := 18) dX3_leastUpper_10 dX3_leastUpper_11 (by decide) (fun c_1 => ?_) (fun c_1 => ?_)
  · refine lv_lload_n hx hb dX3_leastUpper_18 rfl (lv_at hl 1 rfl) ?_
    refine lv_lload hx hb dX3_leastUpper_19 (lv_at hl 0 rfl) ?_
    refine x_ldiv E (v := (lN (u / (Nat.gcd u w)))) dX3_leastUpper_21 (lN_ne0 (by omega) (by omega)) (pk_lDiv (by omega) (by omega) (by omega)) ?_
    exact hret (lN (u / (Nat.gcd u w))) () _ _ _ _ dX3_leastUpper_22 rfl hw
  · exfalso; omega

abbrev rm_X3_leastLower : Room := { frames := 1, cells := 0, slots := 0, locals := 30 }
set_option maxHeartbeats 4000000 in
set_option maxRecDepth 100000 in
theorem c_X3_leastLower (l : Launch) (G : XG) (u : Nat) (w : Nat) (hu : u < 1152921504606846976) (hw0 : w < 1073741824) (hwp : 0 < w) : CfL l yX3_leastLower wsX3_leastLower rm_X3_leastLower G [.long (lN u), .long (lN w)] [] (lN (w / Nat.gcd u w)) [] := by
  have hgp : 0 < Nat.gcd u w := Nat.gcd_pos_of_pos_right _ hwp
  have hgl : Nat.gcd u w ≤ w := Nat.gcd_le_right _ hwp
  refine CtL.go (cc := cX3_leastLower) (maxL := 6) RX3 rfl (by decide) rfl (Nat.le_of_ble_eq_true rfl) ?_
  intro p e s m args below meth c A Q ls E hw hl hret
  have hx := E.1
  have hb := E.2.1
  have hl : lv_has ls 6 [(0, .long (lN u)), (2, .long (lN w))] := hl
  refine lv_lload_n hx hb dX3_leastLower_0 rfl (lv_at hl 0 rfl) ?_
  refine lv_lload_n hx hb dX3_leastLower_1 rfl (lv_at hl 1 rfl) ?_
  refine x_cfSl E hw hl.1 (As := [.long (lN u), .long (lN w)]) (rest := []) (c_X3_shared l G u w (by omega) (by omega)) 2 gX3_leastLower_X3_shared rfl rfl rfl (by decide) ⟨Nat.le_of_ble_eq_true rfl, Nat.le_of_ble_eq_true rfl⟩ ⟨Nat.le_of_ble_eq_true rfl, Nat.le_of_ble_eq_true rfl⟩ rfl [] [] rfl rfl rfl rfl rfl [] [] rfl rfl rfl (Nat.le_of_ble_eq_true rfl) dX3_leastLower_2 (fun H locs hw => ?_)
  refine lv_lstore (lv' := [(4, .long (lN (Nat.gcd u w))), (0, .long (lN u)), (2, .long (lN w))]) hx hb dX3_leastLower_5 hl (by decide) rfl (fun ls hl => ?_)
  refine lv_lload hx hb dX3_leastLower_7 (lv_at hl 0 rfl) ?_
  refine lv_lconst (v := (lN 0)) hx hb dX3_leastLower_9 (by decide) ?_
  refine x_lc_ne E (lN_toI (show Nat.gcd u w < 9223372036854775808 by omega)) (lN_toI (by decide)) (tgt := 18) dX3_leastLower_10 dX3_leastLower_11 (by decide) (fun c_1 => ?_) (fun c_1 => ?_)
  · refine lv_lload_n hx hb dX3_leastLower_18 rfl (lv_at hl 2 rfl) ?_
    refine lv_lload hx hb dX3_leastLower_19 (lv_at hl 0 rfl) ?_
    refine x_ldiv E (v := (lN (w / (Nat.gcd u w)))) dX3_leastLower_21 (lN_ne0 (by omega) (by omega)) (pk_lDiv (by omega) (by omega) (by omega)) ?_
    exact hret (lN (w / (Nat.gcd u w))) () _ _ _ _ dX3_leastLower_22 rfl hw
  · exfalso; omega

abbrev rm_X3_fewest : Room := { frames := 2, cells := 0, slots := 0, locals := 41 }
set_option maxHeartbeats 4000000 in
set_option maxRecDepth 100000 in
theorem c_X3_fewest (l : Launch) (G : XG) (x : Nat) (tx : Nat) (o : Nat) (o1 : Nat) (o2 : Nat) (pa : Nat) (pt : Nat) (off : Nat) (ha : Nat) (tr : Int64) (j : Int32) (hpa : pa ≤ 63) (hpt : pt < pa) : CfI l yX3_fewest wsX3_fewest rm_X3_fewest G [.ref x, .int j] [(x, .inr (3, [.ref tx, .ref o, .ref o1, .ref o2, .int (nI pa), .int (nI pt), .int (nI off), .int (nI ha), .long tr]))] (fewestX pa pt j.toInt) [(x, .inr (3, [.ref tx, .ref o, .ref o1, .ref o2, .int (nI pa), .int (nI pt), .int (nI off), .int (nI ha), .long tr]))] := by
  refine CtI.go (cc := cX3_fewest) (maxL := 4) RX3 rfl (by decide) rfl (Nat.le_of_ble_eq_true rfl) ?_
  intro p e s m args below meth c A Q ls E hw hl hret
  have hx := E.1
  have hb := E.2.1
  have hinX3 : ∀ w ∈ wsX30, w ∈ wsX3_fewest := (fun w h => List.mem_cons_of_mem _ (List.mem_append_right _ h))
  have hl : lv_has ls 4 [(0, .ref x), (1, .int j)] := hl
  refine lv_aload_n hx hb dX3_fewest_0 rfl (lv_at hl 0 rfl) ?_
  refine lv_iload_n hx hb dX3_fewest_1 rfl (lv_at hl 1 rfl) ?_
  refine x_cfVi E hw hl.1 (As := [.int j]) (rest := []) (c_X3_isInner l G x tx o o1 o2 pa pt off ha tr j (by omega)) 1 gX3_fewest_X3_isInner rfl rfl rfl (by decide) ⟨Nat.le_of_ble_eq_true rfl, Nat.le_of_ble_eq_true rfl⟩ ⟨Nat.le_of_ble_eq_true rfl, Nat.le_of_ble_eq_true rfl⟩ rfl 0 (ci := 3) (C := RX3) (T := TX3) (N := 9) rfl rfl [0] [] rfl rfl rfl rfl rfl [0] [(x, .inr (3, [.ref tx, .ref o, .ref o1, .ref o2, .int (nI pa), .int (nI pt), .int (nI off), .int (nI ha), .long tr]))] rfl rfl rfl (Nat.le_of_ble_eq_true rfl) dX3_fewest_2 (fun H locs hw => ?_)
  refine x_ifb_ne E (P := 1 ≤ j.toInt ∧ j.toInt < (pa : Int)) (tgt := 10) dX3_fewest_5 (by decide) (fun c_1 => ?_) (fun c_1 => ?_)
  · obtain ⟨jn, hjn1, hjn2, rfl⟩ := i_nI j (by omega)
    refine lv_aload_n hx hb dX3_fewest_10 rfl (lv_at hl 0 rfl) ?_
    refine x_get E hw (C := RX3) (T := TX3) (N := 9) hinX3 0 rfl rfl 5 (by decide) rfl (List.mem_of_getElem? (i := 1) rfl) dX3_fewest_11 ?_
    refine lv_istore_n (lv' := [(2, .int (nI pt)), (0, .ref x), (1, .int (nI jn))]) hx hb dX3_fewest_14 rfl hl (by decide) rfl (fun ls hl => ?_)
    refine lv_iconst (v := (nI 0)) hx hb dX3_fewest_15 (by decide) ?_
    refine lv_istore_n (lv' := [(3, .int (nI 0)), (2, .int (nI pt)), (0, .ref x), (1, .int (nI jn))]) hx hb dX3_fewest_16 rfl hl (by decide) rfl (fun ls hl => ?_)
    have loop_17 : ∀ (n : Nat) (y : Nat) (k : Nat), k ≤ 63 → y < pa → ffL pa jn (63 - k) y k = ffL pa jn 63 pt 0 → 63 - k < n → ∀ (H : Heap) (locs : List Loc) (ls : Array Slot), Wd G s A [(x, .inr (3, [.ref tx, .ref o, .ref o1, .ref o2, .int (nI pa), .int (nI pt), .int (nI off), .int (nI ha), .long tr]))] H locs → lv_has ls 4 [(0, .ref x), (1, .int (nI jn)), (2, .int (nI y)), (3, .int (nI k))] → W p l e rm_X3_fewest s m args below meth c H locs 0 0 Q (F0 m 17 ls []) := by
      intro n
      induction n with
      | zero =>
        intro y k hk hy hinv hmu
        exact absurd hmu (Nat.not_lt_zero _)
      | succ n ih_17 =>
        intro y k hk hy hinv hmu_17 H locs ls hw hl
        refine lv_iload_n hx hb dX3_fewest_17 rfl (lv_at hl 3 rfl) ?_
        refine lv_bipush (v := (nI 63)) hx hb dX3_fewest_18 (by decide) ?_
        refine x_icmp_ge E (nI_toI (show k < 2147483648 by omega)) (nI_toI (by decide)) (tgt := 45) dX3_fewest_20 (by decide) (fun c_2 => ?_) (fun c_2 => ?_)
        · refine lv_bipush (v := (-9)) hx hb dX3_fewest_45 (by decide) ?_
          exact hret (-9) () _ _ _ _ dX3_fewest_47 rfl (ifT (by omega) (by rw [hjn2, tNat, ← hinv, show 63 - k = 0 by omega]; rfl)) hw
        · refine lv_iload_n hx hb dX3_fewest_23 rfl (lv_at hl 2 rfl) ?_
          refine lv_iload_n hx hb dX3_fewest_24 rfl (lv_at hl 1 rfl) ?_
          refine x_icmp_ne E (nI_toI (show y < 2147483648 by omega)) (nI_toI (show jn < 2147483648 by omega)) (tgt := 30) dX3_fewest_25 (by decide) (fun c_3 => ?_) (fun c_3 => ?_)
          · have hne : ¬ y = jn := by omega
            refine lv_aload_n hx hb dX3_fewest_30 rfl (lv_at hl 0 rfl) ?_
            refine x_get E hw (C := RX3) (T := TX3) (N := 9) hinX3 0 rfl rfl 4 (by decide) rfl (List.mem_of_getElem? (i := 2) rfl) dX3_fewest_31 ?_
            refine lv_iload_n hx hb dX3_fewest_34 rfl (lv_at hl 2 rfl) ?_
            refine x_cfSi E hw hl.1 (As := [.int (nI pa), .int (nI y)]) (rest := []) (c_X3_ruled l G pa y (by omega)) 2 gX3_fewest_X3_ruled rfl rfl rfl (by decide) ⟨Nat.le_of_ble_eq_true rfl, Nat.le_of_ble_eq_true rfl⟩ ⟨Nat.le_of_ble_eq_true rfl, Nat.le_of_ble_eq_true rfl⟩ rfl [] [0] rfl rfl rfl rfl rfl [0] [(x, .inr (3, [.ref tx, .ref o, .ref o1, .ref o2, .int (nI pa), .int (nI pt), .int (nI off), .int (nI ha), .long tr]))] rfl rfl rfl (Nat.le_of_ble_eq_true rfl) dX3_fewest_35 (fun H locs hw => ?_)
            refine lv_istore_n (lv' := [(2, .int (nI (gz pa y))), (0, .ref x), (1, .int (nI jn)), (3, .int (nI k))]) hx hb dX3_fewest_38 rfl hl (by decide) rfl (fun ls hl => ?_)
            refine lv_iinc (v := (nI (k + 1))) (lv' := [(3, .int (nI (k + 1))), (2, .int (nI (gz pa y))), (0, .ref x), (1, .int (nI jn))]) hx hb dX3_fewest_39 hl (k := 3) rfl (x_inc1 _) (by decide) rfl (fun ls hl => ?_)
            refine lv_goto (tgt := 17) hx hb dX3_fewest_42 (by decide) ?_
            exact ih_17 (gz pa y) (k + 1) (by omega) (gz_lt hy) ((ffL_step (by omega) hne).symm.trans hinv) (by omega) _ _ _ hw (lv_sub hl [2, 3, 1, 0] rfl)
          · obtain rfl : y = jn := by omega
            refine lv_iload_n hx hb dX3_fewest_28 rfl (lv_at hl 3 rfl) ?_
            exact hret (nI k) () _ _ _ _ dX3_fewest_29 rfl (ifT (by omega) (by rw [hjn2, tNat, ← hinv]; obtain ⟨f, hf⟩ : ∃ f, 63 - k = f + 1 := ⟨62 - k, by omega⟩; rw [hf, ffL_hit])) hw
    exact loop_17 (63 - 0 + 1) pt 0 (by omega) (by omega) rfl (Nat.lt_succ_self _) _ _ _ hw (lv_sub hl [2, 3, 1, 0] rfl)
  · refine lv_iconst (v := (-1)) hx hb dX3_fewest_8 (by decide) ?_
    exact hret (-1) () _ _ _ _ dX3_fewest_9 rfl (ifF (by omega) rfl) hw

abbrev rm_X3_near : Room := { frames := 0, cells := 0, slots := 0, locals := 0 }
set_option maxHeartbeats 4000000 in
set_option maxRecDepth 100000 in
theorem c_X3_near (l : Launch) (G : XG) (x : Nat) (tx : Nat) (o : Nat) (o1 : Nat) (o2 : Nat) (pa : Nat) (pt : Nat) (off : Nat) (ha : Nat) (tr : Int64) (t : Int32) (ho : off ≤ 99) : CfI l yX3_near wsX3_near rm_X3_near G [.ref x, .int t] [(x, .inr (3, [.ref tx, .ref o, .ref o1, .ref o2, .int (nI pa), .int (nI pt), .int (nI off), .int (nI ha), .long tr]))] (nearF off t.toInt) [(x, .inr (3, [.ref tx, .ref o, .ref o1, .ref o2, .int (nI pa), .int (nI pt), .int (nI off), .int (nI ha), .long tr]))] := by
  refine CtI.go (cc := cX3_near) (maxL := 3) RX3 rfl (by decide) rfl (Nat.le_of_ble_eq_true rfl) ?_
  intro p e s m args below meth c A Q ls E hw hl hret
  have hx := E.1
  have hb := E.2.1
  have hinX3 : ∀ w ∈ wsX30, w ∈ wsX3_near := (fun w h => List.mem_cons_of_mem _ (List.mem_append_right _ h))
  have hl : lv_has ls 3 [(0, .ref x), (1, .int t)] := hl
  refine lv_iload_n hx hb dX3_near_0 rfl (lv_at hl 1 rfl) ?_
  refine x_if_lt E rfl (tgt := 10) dX3_near_1 (by decide) (fun c_1 => ?_) (fun c_1 => ?_)
  · refine lv_iconst (v := (-1)) hx hb dX3_near_10 (by decide) ?_
    exact hret (-1) () _ _ _ _ dX3_near_11 rfl (ifF (by omega) rfl) hw
  · refine lv_iload_n hx hb dX3_near_4 rfl (lv_at hl 1 rfl) ?_
    refine lv_ldc (v := (99999)) hx hb E.2.2.2.1 (E.2.2.2.2 _ (List.mem_of_getElem? (i := 1) rfl)) dX3_near_5 ?_
    refine x_topi (v := nI 99999) (by decide) ?_
    refine x_icmp_le E rfl (nI_toI (by decide)) (tgt := 12) dX3_near_7 (by decide) (fun c_2 => ?_) (fun c_2 => ?_)
    · obtain ⟨tn, htn1, htn2, rfl⟩ := i_nI t (by omega)
      refine lv_iconst (v := (nI 0)) hx hb dX3_near_12 (by decide) ?_
      refine lv_istore_n (lv' := [(2, .int (nI 0)), (0, .ref x), (1, .int (nI tn))]) hx hb dX3_near_13 rfl hl (by decide) rfl (fun ls hl => ?_)
      have loop_14 : ∀ (n : Nat) (k : Nat), k ≤ 41 → nrL off tn (41 - k) k = nrL off tn 41 0 → 41 - k < n → ∀ (H : Heap) (locs : List Loc) (ls : Array Slot), Wd G s A [(x, .inr (3, [.ref tx, .ref o, .ref o1, .ref o2, .int (nI pa), .int (nI pt), .int (nI off), .int (nI ha), .long tr]))] H locs → lv_has ls 3 [(0, .ref x), (1, .int (nI tn)), (2, .int (nI k))] → W p l e rm_X3_near s m args below meth c H locs 0 0 Q (F0 m 14 ls []) := by
        intro n
        induction n with
        | zero =>
          intro k hk hinv hmu
          exact absurd hmu (Nat.not_lt_zero _)
        | succ n ih_14 =>
          intro k hk hinv hmu_14 H locs ls hw hl
          refine lv_iload_n hx hb dX3_near_14 rfl (lv_at hl 2 rfl) ?_
          refine lv_bipush (v := (nI 40)) hx hb dX3_near_15 (by decide) ?_
          refine x_icmp_gt E (nI_toI (show k < 2147483648 by omega)) (nI_toI (by decide)) (tgt := 45) dX3_near_17 (by decide) (fun c_3 => ?_) (fun c_3 => ?_)
          · refine lv_bipush (v := (-9)) hx hb dX3_near_45 (by decide) ?_
            exact hret (-9) () _ _ _ _ dX3_near_47 rfl (ifT (by omega) (by rw [htn2, tNat, ← hinv, show 41 - k = 0 by omega]; rfl)) hw
          · refine lv_aload_n hx hb dX3_near_20 rfl (lv_at hl 0 rfl) ?_
            refine x_get E hw (C := RX3) (T := TX3) (N := 9) hinX3 0 rfl rfl 6 (by decide) rfl (List.mem_of_getElem? (i := 2) rfl) dX3_near_21 ?_
            refine lv_i2l (v := (lN off)) hx hb dX3_near_24 (nI_l (by omega)) ?_
            refine lv_ldc2 (v := (1000)) hx hb E.2.2.2.1 (E.2.2.2.2 _ (List.mem_of_getElem? (i := 3) rfl)) dX3_near_25 ?_
            refine x_topl (v := lN 1000) (by decide) ?_
            refine x_lmul E (v := (lN (off * 1000))) dX3_near_28 (lN_mul _ _) ?_
            refine lv_iload_n hx hb dX3_near_29 rfl (lv_at hl 1 rfl) ?_
            refine lv_i2l (v := (lN tn)) hx hb dX3_near_30 (nI_l (by omega)) ?_
            refine lv_iload_n hx hb dX3_near_31 rfl (lv_at hl 2 rfl) ?_
            have hpw := pw40 (t := tn) (k := k) (by omega) (by omega)
            refine lv_lshl (v := (lN (tn * 2 ^ k))) hx hb dX3_near_32 (wb_shl _ (by omega)) ?_
            refine x_lc_gt E (lN_toI (show off * 1000 < 9223372036854775808 by omega)) (lN_toI (show tn * 2 ^ k < 9223372036854775808 by omega)) (tgt := 39) dX3_near_33 dX3_near_34 (by decide) (fun c_4 => ?_) (fun c_4 => ?_)
            · have hne : ¬ off * 1000 ≤ tn * 2 ^ k := by omega
              refine lv_iinc (v := (nI (k + 1))) (lv' := [(2, .int (nI (k + 1))), (0, .ref x), (1, .int (nI tn))]) hx hb dX3_near_39 hl (k := 2) rfl (x_inc1 _) (by decide) rfl (fun ls hl => ?_)
              refine lv_goto (tgt := 14) hx hb dX3_near_42 (by decide) ?_
              exact ih_14 (k + 1) (by omega) ((nrL_step (by omega) hne).symm.trans hinv) (by omega) _ _ _ hw (lv_sub hl [1, 2, 0] rfl)
            · have hle : off * 1000 ≤ tn * 2 ^ k := by omega
              refine lv_iload_n hx hb dX3_near_37 rfl (lv_at hl 2 rfl) ?_
              exact hret (nI k) () _ _ _ _ dX3_near_38 rfl (ifT (by omega) (by rw [htn2, tNat, ← hinv, nrL_hit (by omega) hle])) hw
      exact loop_14 (41 - 0 + 1) 0 (by omega) rfl (Nat.lt_succ_self _) _ _ _ hw (lv_sub hl [1, 2, 0] rfl)
    · refine lv_iconst (v := (-1)) hx hb dX3_near_10 (by decide) ?_
      exact hret (-1) () _ _ _ _ dX3_near_11 rfl (ifF (by omega) rfl) hw

abbrev rm_X3_says : Room := { frames := 1, cells := 0, slots := 0, locals := 21 }
set_option maxHeartbeats 4000000 in
set_option maxRecDepth 100000 in
theorem c_X3_says (l : Launch) (G : XG) (x : Nat) (tx : Nat) (o : Nat) (o1 : Nat) (o2 : Nat) (pa : Nat) (pt : Nat) (off : Nat) (ha : Nat) (tr : Int64) (j : Int32) (hpa : pa ≤ 63) : CfI l yX3_says wsX3_says rm_X3_says G [.ref x, .int j] [(x, .inr (3, [.ref tx, .ref o, .ref o1, .ref o2, .int (nI pa), .int (nI pt), .int (nI off), .int (nI ha), .long tr]))] (saysF pa j.toInt) [(x, .inr (3, [.ref tx, .ref o, .ref o1, .ref o2, .int (nI pa), .int (nI pt), .int (nI off), .int (nI ha), .long tr]))] := by
  refine CtI.go (cc := cX3_says) (maxL := 2) RX3 rfl (by decide) rfl (Nat.le_of_ble_eq_true rfl) ?_
  intro p e s m args below meth c A Q ls E hw hl hret
  have hx := E.1
  have hb := E.2.1
  have hl : lv_has ls 2 [(0, .ref x), (1, .int j)] := hl
  refine lv_aload_n hx hb dX3_says_0 rfl (lv_at hl 0 rfl) ?_
  refine lv_iload_n hx hb dX3_says_1 rfl (lv_at hl 1 rfl) ?_
  refine x_cfVi E hw hl.1 (As := [.int j]) (rest := []) (c_X3_isInner l G x tx o o1 o2 pa pt off ha tr j (by omega)) 1 gX3_says_X3_isInner rfl rfl rfl (by decide) ⟨Nat.le_of_ble_eq_true rfl, Nat.le_of_ble_eq_true rfl⟩ ⟨Nat.le_of_ble_eq_true rfl, Nat.le_of_ble_eq_true rfl⟩ rfl 0 (ci := 3) (C := RX3) (T := TX3) (N := 9) rfl rfl [0] [] rfl rfl rfl rfl rfl [0] [(x, .inr (3, [.ref tx, .ref o, .ref o1, .ref o2, .int (nI pa), .int (nI pt), .int (nI off), .int (nI ha), .long tr]))] rfl rfl rfl (Nat.le_of_ble_eq_true rfl) dX3_says_2 (fun H locs hw => ?_)
  refine x_ifb_eq E (P := 1 ≤ j.toInt ∧ j.toInt < (pa : Int)) (tgt := 15) dX3_says_5 (by decide) (fun c_1 => ?_) (fun c_1 => ?_)
  · refine lv_iconst (v := (-1)) hx hb dX3_says_15 (by decide) ?_
    exact hret (-1) () _ _ _ _ dX3_says_16 rfl (ifF (by omega) rfl) hw
  · obtain ⟨jn, hjn1, hjn2, rfl⟩ := i_nI j (by omega)
    refine lv_iload_n hx hb dX3_says_8 rfl (lv_at hl 1 rfl) ?_
    refine x_cfSi E hw hl.1 (As := [.int (nI jn)]) (rest := []) (c_X3_sideAt l G jn (by omega)) 1 gX3_says_X3_sideAt rfl rfl rfl (by decide) ⟨Nat.le_of_ble_eq_true rfl, Nat.le_of_ble_eq_true rfl⟩ ⟨Nat.le_of_ble_eq_true rfl, Nat.le_of_ble_eq_true rfl⟩ rfl [] [0] rfl rfl rfl rfl rfl [0] [(x, .inr (3, [.ref tx, .ref o, .ref o1, .ref o2, .int (nI pa), .int (nI pt), .int (nI off), .int (nI ha), .long tr]))] rfl rfl rfl (Nat.le_of_ble_eq_true rfl) dX3_says_9 (fun H locs hw => ?_)
    refine lv_goto (tgt := 16) hx hb dX3_says_12 (by decide) ?_
    exact hret (nI (jn % 2)) () _ _ _ _ dX3_says_16 rfl (ifT (by omega) (by rw [hjn2, tNat])) hw

abbrev rm_X3_round : Room := { frames := 3, cells := 0, slots := 0, locals := 64 }
set_option maxHeartbeats 4000000 in
set_option maxRecDepth 100000 in
theorem c_X3_round (l : Launch) (G : XG) (x : Nat) (tx : Nat) (o : Nat) (o1 : Nat) (o2 : Nat) (pa : Nat) (pt : Nat) (off : Nat) (ha : Nat) (tr : Int64) (j : Int32) (hpa : pa ≤ 63) : CfI l yX3_round wsX3_round rm_X3_round G [.ref x, .int j] [(x, .inr (3, [.ref tx, .ref o, .ref o1, .ref o2, .int (nI pa), .int (nI pt), .int (nI off), .int (nI ha), .long tr]))] (roundF pa j.toInt) [(x, .inr (3, [.ref tx, .ref o, .ref o1, .ref o2, .int (nI pa), .int (nI pt), .int (nI off), .int (nI ha), .long tr]))] := by
  refine CtI.go (cc := cX3_round) (maxL := 2) RX3 rfl (by decide) rfl (Nat.le_of_ble_eq_true rfl) ?_
  intro p e s m args below meth c A Q ls E hw hl hret
  have hx := E.1
  have hb := E.2.1
  have hl : lv_has ls 2 [(0, .ref x), (1, .int j)] := hl
  refine lv_aload_n hx hb dX3_round_0 rfl (lv_at hl 0 rfl) ?_
  refine lv_iload_n hx hb dX3_round_1 rfl (lv_at hl 1 rfl) ?_
  refine x_cfVi E hw hl.1 (As := [.int j]) (rest := []) (c_X3_isInner l G x tx o o1 o2 pa pt off ha tr j (by omega)) 1 gX3_round_X3_isInner rfl rfl rfl (by decide) ⟨Nat.le_of_ble_eq_true rfl, Nat.le_of_ble_eq_true rfl⟩ ⟨Nat.le_of_ble_eq_true rfl, Nat.le_of_ble_eq_true rfl⟩ rfl 0 (ci := 3) (C := RX3) (T := TX3) (N := 9) rfl rfl [0] [] rfl rfl rfl rfl rfl [0] [(x, .inr (3, [.ref tx, .ref o, .ref o1, .ref o2, .int (nI pa), .int (nI pt), .int (nI off), .int (nI ha), .long tr]))] rfl rfl rfl (Nat.le_of_ble_eq_true rfl) dX3_round_2 (fun H locs hw => ?_)
  refine x_ifb_eq E (P := 1 ≤ j.toInt ∧ j.toInt < (pa : Int)) (tgt := 16) dX3_round_5 (by decide) (fun c_1 => ?_) (fun c_1 => ?_)
  · refine lv_iconst (v := (-1)) hx hb dX3_round_16 (by decide) ?_
    exact hret (-1) () _ _ _ _ dX3_round_17 rfl (ifF (by omega) rfl) hw
  · obtain ⟨jn, hjn1, hjn2, rfl⟩ := i_nI j (by omega)
    refine lv_aload_n hx hb dX3_round_8 rfl (lv_at hl 0 rfl) ?_
    refine lv_iload_n hx hb dX3_round_9 rfl (lv_at hl 1 rfl) ?_
    refine x_cfVi E hw hl.1 (As := [.int (nI jn)]) (rest := []) (c_X3_foldsAround l G x tx o o1 o2 pa pt off ha tr jn (by omega) (by omega)) 1 gX3_round_X3_foldsAround rfl rfl rfl (by decide) ⟨Nat.le_of_ble_eq_true rfl, Nat.le_of_ble_eq_true rfl⟩ ⟨Nat.le_of_ble_eq_true rfl, Nat.le_of_ble_eq_true rfl⟩ rfl 0 (ci := 3) (C := RX3) (T := TX3) (N := 9) rfl rfl [0] [] rfl rfl rfl rfl rfl [0] [(x, .inr (3, [.ref tx, .ref o, .ref o1, .ref o2, .int (nI pa), .int (nI pt), .int (nI off), .int (nI ha), .long tr]))] rfl rfl rfl (Nat.le_of_ble_eq_true rfl) dX3_round_10 (fun H locs hw => ?_)
    refine lv_goto (tgt := 17) hx hb dX3_round_13 (by decide) ?_
    exact hret (nI (faX pa jn)) () _ _ _ _ dX3_round_17 rfl (ifT (by omega) (by rw [hjn2, tNat])) hw

abbrev rm_X3_told : Room := { frames := 0, cells := 0, slots := 0, locals := 0 }
set_option maxHeartbeats 4000000 in
set_option maxRecDepth 100000 in
theorem c_X3_told (l : Launch) (G : XG) (x : Nat) (tx : Nat) (o : Nat) (o1 : Nat) (o2 : Nat) (pa : Nat) (pt : Nat) (off : Nat) (ha : Nat) (tr : Int64) (k : Int32)  : CfI l yX3_told wsX3_told rm_X3_told G [.ref x, .int k] [(x, .inr (3, [.ref tx, .ref o, .ref o1, .ref o2, .int (nI pa), .int (nI pt), .int (nI off), .int (nI ha), .long tr]))] (toldF pa pt off ha k.toInt) [(x, .inr (3, [.ref tx, .ref o, .ref o1, .ref o2, .int (nI pa), .int (nI pt), .int (nI off), .int (nI ha), .long tr]))] := by
  refine CtI.go (cc := cX3_told) (maxL := 2) RX3 rfl (by decide) rfl (Nat.le_of_ble_eq_true rfl) ?_
  intro p e s m args below meth c A Q ls E hw hl hret
  have hx := E.1
  have hb := E.2.1
  have hinX3 : ∀ w ∈ wsX30, w ∈ wsX3_told := (fun w h => List.mem_cons_of_mem _ (List.mem_append_right _ h))
  have hl : lv_has ls 2 [(0, .ref x), (1, .int k)] := hl
  refine lv_iload_n hx hb dX3_told_0 rfl (lv_at hl 1 rfl) ?_
  rcases (show k.toInt = 0 ∨ k.toInt = 1 ∨ k.toInt = 2 ∨ k.toInt = 3 ∨ (k.toInt < 0 ∨ 3 < k.toInt) by omega) with c_1 | c_1 | c_1 | c_1 | c_1
  · refine x_tsw E (rfl.trans c_1) (tgt := 32) dX3_told_1 (by decide) (by decide) rfl (by decide) ?_
    refine lv_aload_n hx hb dX3_told_32 rfl (lv_at hl 0 rfl) ?_
    refine x_get E hw (C := RX3) (T := TX3) (N := 9) hinX3 0 rfl rfl 4 (by decide) rfl (List.mem_of_getElem? (i := 1) rfl) dX3_told_33 ?_
    exact hret (nI pa) () _ _ _ _ dX3_told_36 rfl (by rw [c_1]; rfl) hw
  · refine x_tsw E (rfl.trans c_1) (tgt := 37) dX3_told_1 (by decide) (by decide) rfl (by decide) ?_
    refine lv_aload_n hx hb dX3_told_37 rfl (lv_at hl 0 rfl) ?_
    refine x_get E hw (C := RX3) (T := TX3) (N := 9) hinX3 0 rfl rfl 5 (by decide) rfl (List.mem_of_getElem? (i := 2) rfl) dX3_told_38 ?_
    exact hret (nI pt) () _ _ _ _ dX3_told_41 rfl (by rw [c_1]; rfl) hw
  · refine x_tsw E (rfl.trans c_1) (tgt := 42) dX3_told_1 (by decide) (by decide) rfl (by decide) ?_
    refine lv_aload_n hx hb dX3_told_42 rfl (lv_at hl 0 rfl) ?_
    refine x_get E hw (C := RX3) (T := TX3) (N := 9) hinX3 0 rfl rfl 6 (by decide) rfl (List.mem_of_getElem? (i := 3) rfl) dX3_told_43 ?_
    exact hret (nI off) () _ _ _ _ dX3_told_46 rfl (by rw [c_1]; rfl) hw
  · refine x_tsw E (rfl.trans c_1) (tgt := 47) dX3_told_1 (by decide) (by decide) rfl (by decide) ?_
    refine lv_aload_n hx hb dX3_told_47 rfl (lv_at hl 0 rfl) ?_
    refine x_get E hw (C := RX3) (T := TX3) (N := 9) hinX3 0 rfl rfl 7 (by decide) rfl (List.mem_of_getElem? (i := 4) rfl) dX3_told_48 ?_
    exact hret (nI ha) () _ _ _ _ dX3_told_51 rfl (by rw [c_1]; rfl) hw
  · refine x_tswD E rfl dX3_told_1 (tgt := 52) c_1 (by decide) ?_
    refine lv_iconst (v := (-1)) hx hb dX3_told_52 (by decide) ?_
    exact hret (-1) () _ _ _ _ dX3_told_53 rfl (by unfold toldF; rw [if_neg (by omega), if_neg (by omega), if_neg (by omega), if_neg (by omega)]) hw
end
